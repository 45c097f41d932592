/-! ===== rules (written by wip/whole/mkpure4.py) ===== -/
section SH
variable {p g : mI} {b : Bool}
theorem St.rOrder (h : St p g b) (hn : nU p < 8) {t a1 a2 : Nat} (ht : t < nT p) (ha1 : a1 < nC p t) (ha2 : a2 < nC p t) (hk1 : p 68 (6 * t + a1) = 2) (hk2 : p 68 (6 * t + a2) = 2) : St (m_up (m_up (m_up (m_up (m_up (m_up p 80 (nU p) 0) 81 (nU p) (nI t)) 82 (nU p) (nI a1)) 83 (nU p) (nI a2)) 86 (nU p) 0) 64 20 (nI (nU p + 1))) (m_up (m_up (m_up (m_up (m_up (m_up (m_up (m_up (m_up (m_up (m_up g (56 + nU p) 0 0) (56 + nU p) 1 (nI t)) (56 + nU p) 2 (nI a1)) (56 + nU p) 3 (nI a2)) 0 9 (nI (nU p + 1))) 80 (nU p) 0) 81 (nU p) (nI t)) 82 (nU p) (nI a1)) 83 (nU p) (nI a2)) 86 (nU p) 0) 64 20 (nI (nU p + 1))) b := by
  obtain ⟨hM, ⟨i1, i2, i3, i4, i5, i6⟩, ⟨e1, e2, e3, e4, e5, e6, e7, e8⟩, df⟩ := id h
  have hT := h.T.2
  have hC := h.C6
  have hU := h.U.2
  have hpM := pM_lt b
  have hw : nU (m_up (m_up (m_up (m_up (m_up (m_up p 80 (nU p) 0) 81 (nU p) (nI t)) 82 (nU p) (nI a1)) 83 (nU p) (nI a2)) 86 (nU p) 0) 64 20 (nI (nU p + 1))) = nU p + 1 := by
    show Int32.toNatClampNeg ((m_up (m_up (m_up (m_up (m_up (m_up p 80 (nU p) 0) 81 (nU p) (nI t)) 82 (nU p) (nI a1)) 83 (nU p) (nI a2)) 86 (nU p) 0) 64 20 (nI (nU p + 1))) 64 20) = nU p + 1
    have z : (m_up (m_up (m_up (m_up (m_up (m_up p 80 (nU p) 0) 81 (nU p) (nI t)) 82 (nU p) (nI a1)) 83 (nU p) (nI a2)) 86 (nU p) 0) 64 20 (nI (nU p + 1))) 64 20 = nI (nU p + 1) := by simp [m_up_at]
    rw [z]; exact nI_clamp (by omega)
  have hTT : nT (m_up (m_up (m_up (m_up (m_up (m_up p 80 (nU p) 0) 81 (nU p) (nI t)) 82 (nU p) (nI a1)) 83 (nU p) (nI a2)) 86 (nU p) 0) 64 20 (nI (nU p + 1))) = nT p := by unfold nT; simp [m_up_at]
  have hCC : ∀ zt, nC (m_up (m_up (m_up (m_up (m_up (m_up p 80 (nU p) 0) 81 (nU p) (nI t)) 82 (nU p) (nI a1)) 83 (nU p) (nI a2)) 86 (nU p) 0) 64 20 (nI (nU p + 1))) zt = nC p zt := fun zt => by unfold nC; simp [m_up_at]
  have h68 : ∀ k, (m_up (m_up (m_up (m_up (m_up (m_up p 80 (nU p) 0) 81 (nU p) (nI t)) 82 (nU p) (nI a1)) 83 (nU p) (nI a2)) 86 (nU p) 0) 64 20 (nI (nU p + 1))) 68 k = p 68 k := fun k => by simp [m_up_at]
  have h69 : ∀ k, (m_up (m_up (m_up (m_up (m_up (m_up p 80 (nU p) 0) 81 (nU p) (nI t)) 82 (nU p) (nI a1)) 83 (nU p) (nI a2)) 86 (nU p) 0) 64 20 (nI (nU p + 1))) 69 k = p 69 k := fun k => by simp [m_up_at]
  have hT1 : nT (m_up p 80 (nU p) 0) ≤ 4 := by rw [nT_up (by omega)]; exact hT
  have hC1 : ∀ zt, zt < nT (m_up p 80 (nU p) 0) → nC (m_up p 80 (nU p) 0) zt ≤ 6 := by rw [nT_up (by omega)]; intro zt hzt; rw [nC_up (by omega)]; exact hC zt hzt
  have hT2 : nT (m_up (m_up p 80 (nU p) 0) 81 (nU p) (nI t)) ≤ 4 := by rw [nT_up (by omega)]; exact hT1
  have hC2 : ∀ zt, zt < nT (m_up (m_up p 80 (nU p) 0) 81 (nU p) (nI t)) → nC (m_up (m_up p 80 (nU p) 0) 81 (nU p) (nI t)) zt ≤ 6 := by rw [nT_up (by omega)]; intro zt hzt; rw [nC_up (by omega)]; exact hC1 zt hzt
  have hT3 : nT (m_up (m_up (m_up p 80 (nU p) 0) 81 (nU p) (nI t)) 82 (nU p) (nI a1)) ≤ 4 := by rw [nT_up (by omega)]; exact hT2
  have hC3 : ∀ zt, zt < nT (m_up (m_up (m_up p 80 (nU p) 0) 81 (nU p) (nI t)) 82 (nU p) (nI a1)) → nC (m_up (m_up (m_up p 80 (nU p) 0) 81 (nU p) (nI t)) 82 (nU p) (nI a1)) zt ≤ 6 := by rw [nT_up (by omega)]; intro zt hzt; rw [nC_up (by omega)]; exact hC2 zt hzt
  have hT4 : nT (m_up (m_up (m_up (m_up p 80 (nU p) 0) 81 (nU p) (nI t)) 82 (nU p) (nI a1)) 83 (nU p) (nI a2)) ≤ 4 := by rw [nT_up (by omega)]; exact hT3
  have hC4 : ∀ zt, zt < nT (m_up (m_up (m_up (m_up p 80 (nU p) 0) 81 (nU p) (nI t)) 82 (nU p) (nI a1)) 83 (nU p) (nI a2)) → nC (m_up (m_up (m_up (m_up p 80 (nU p) 0) 81 (nU p) (nI t)) 82 (nU p) (nI a1)) 83 (nU p) (nI a2)) zt ≤ 6 := by rw [nT_up (by omega)]; intro zt hzt; rw [nC_up (by omega)]; exact hC3 zt hzt
  have hT5 : nT (m_up (m_up (m_up (m_up (m_up p 80 (nU p) 0) 81 (nU p) (nI t)) 82 (nU p) (nI a1)) 83 (nU p) (nI a2)) 86 (nU p) 0) ≤ 4 := by rw [nT_up (by omega)]; exact hT4
  have hC5 : ∀ zt, zt < nT (m_up (m_up (m_up (m_up (m_up p 80 (nU p) 0) 81 (nU p) (nI t)) 82 (nU p) (nI a1)) 83 (nU p) (nI a2)) 86 (nU p) 0) → nC (m_up (m_up (m_up (m_up (m_up p 80 (nU p) 0) 81 (nU p) (nI t)) 82 (nU p) (nI a1)) 83 (nU p) (nI a2)) 86 (nU p) 0) zt ≤ 6 := by rw [nT_up (by omega)]; intro zt hzt; rw [nC_up (by omega)]; exact hC4 zt hzt
  refine ⟨(((((((((((hM.c (by omega)).c (by omega)).c (by omega)).c (by omega)).c (by omega)).m).m).m).m).m).m), ⟨((((((i1.m (by omega) (by omega) (by omega) (by omega) (by omega)).m (by omega) (by omega) (by omega) (by omega) (by omega)).m (by omega) (by omega) (by omega) (by omega) (by omega)).m (by omega) (by omega) (by omega) (by omega) (by omega)).m (by omega) (by omega) (by omega) (by omega) (by omega)).m (by omega) (by omega) (by omega) (by omega) (by omega)), ((((((i2.m (by omega) (by omega) (by omega)).m (by omega) (by omega) (by omega)).m (by omega) (by omega) (by omega)).m (by omega) (by omega) (by omega)).m (by omega) (by omega) (by omega)).m (by omega) (by omega) (by omega)), ?_, ((((((i4.m (by omega) (by omega)).m (by omega) (by omega)).m (by omega) (by omega)).m (by omega) (by omega)).m (by omega) (by omega)).m (by omega) (by omega)), ?_, ((((((i6.m (by omega) (by omega)).m (by omega) (by omega)).m (by omega) (by omega)).m (by omega) (by omega)).m (by omega) (by omega)).m (by omega) (by omega))⟩, ⟨?_, (((((((((((e2.c hT (by omega)).c hT (by omega)).c hT (by omega)).c hT (by omega)).c hT (by omega)).m hT (by omega) (by omega) (by omega)).m hT1 (by omega) (by omega) (by omega)).m hT2 (by omega) (by omega) (by omega)).m hT3 (by omega) (by omega) (by omega)).m hT4 (by omega) (by omega) (by omega)).m hT5 (by omega) (by omega) (by omega)), (((((((((((e3.c hT hC (by omega)).c hT hC (by omega)).c hT hC (by omega)).c hT hC (by omega)).c hT hC (by omega)).m hT hC (by omega) (by omega) (by omega)).m hT1 hC1 (by omega) (by omega) (by omega)).m hT2 hC2 (by omega) (by omega) (by omega)).m hT3 hC3 (by omega) (by omega) (by omega)).m hT4 hC4 (by omega) (by omega) (by omega)).m hT5 hC5 (by omega) (by omega) (by omega)), (((((((((((e4.c hT (by omega)).c hT (by omega)).c hT (by omega)).c hT (by omega)).c hT (by omega)).m hT (by omega) (by omega) (by omega)).m hT1 (by omega) (by omega) (by omega)).m hT2 (by omega) (by omega) (by omega)).m hT3 (by omega) (by omega) (by omega)).m hT4 (by omega) (by omega) (by omega)).m hT5 (by omega) (by omega) (by omega)), (((((((((((e5.c (by omega)).c (by omega)).c (by omega)).c (by omega)).c (by omega)).m (by omega) (by omega) (by omega)).m (by omega) (by omega) (by omega)).m (by omega) (by omega) (by omega)).m (by omega) (by omega) (by omega)).m (by omega) (by omega) (by omega)).m (by omega) (by omega) (by omega)), (((((((((((e6.c (by omega)).c (by omega)).c (by omega)).c (by omega)).c (by omega)).m (by omega) (by omega) (by omega)).m (by omega) (by omega) (by omega)).m (by omega) (by omega) (by omega)).m (by omega) (by omega) (by omega)).m (by omega) (by omega) (by omega)).m (by omega) (by omega) (by omega)), (((((((((((e7.c (by omega)).c (by omega)).c (by omega)).c (by omega)).c (by omega)).m (by omega) (by omega) (by omega)).m (by omega) (by omega) (by omega)).m (by omega) (by omega) (by omega)).m (by omega) (by omega) (by omega)).m (by omega) (by omega) (by omega)).m (by omega) (by omega) (by omega)), ?_⟩, (((((((((((df.c (by omega)).c (by omega)).c (by omega)).c (by omega)).c (by omega)).m (by omega) (by omega) (by omega)).m (by omega) (by omega) (by omega)).m (by omega) (by omega) (by omega)).m (by omega) (by omega) (by omega)).m (by omega) (by omega) (by omega)).m (by omega) (by omega) (by omega))⟩
  · unfold I3
    rw [hTT, hw]
    refine ⟨fun zt hzt i h1 h2 => ?_, ?_, ?_, ?_, ?_⟩
    · simpa [m_up_at] using i3.1 zt hzt i h1 h2
    · simpa [m_up_at] using i3.2.1
    · simpa [m_up_at] using i3.2.2.1
    · unfold nW; simpa [m_up_at, nW] using i3.2.2.2.1
    · simp [m_up_at]; omega
  · intro j hj
    rw [hw] at hj
    by_cases z : j = nU p
    · subst z
      exact ⟨t, by rw [hTT]; exact ht, by simp [m_up_at], a1, by rw [hCC]; exact ha1, by simp [m_up_at], Or.inl ⟨by simp [m_up_at], by rw [h68]; exact hk1, by simp [m_up_at], a2, by rw [hCC]; exact ha2, by simp [m_up_at], by rw [h68]; exact hk2⟩⟩
    · have hq := i5 j (by omega)
      exact ((((((hq.m (by omega) (by omega) (by omega)).m (by omega) (by omega) (by omega)).m (by omega) (by omega) (by omega)).m (by omega) (by omega) (by omega)).m (by omega) (by omega) (by omega)).m (by omega) (by omega) (by omega))
  · obtain ⟨a1, a2, a3, a4, a5⟩ := e1
    refine ⟨?_, ?_, ?_, ?_, ?_⟩
    · simp [m_up_at]; exact a1
    · simp [m_up_at]
    · simp [m_up_at]; exact a3
    · simp [m_up_at]; exact a4
    · simp [m_up_at]; exact a5
  · intro j hj
    rw [hw] at hj
    have hg : ∀ i, (m_up (m_up (m_up (m_up (m_up (m_up (m_up (m_up (m_up (m_up (m_up g (56 + nU p) 0 0) (56 + nU p) 1 (nI t)) (56 + nU p) 2 (nI a1)) (56 + nU p) 3 (nI a2)) 0 9 (nI (nU p + 1))) 80 (nU p) 0) 81 (nU p) (nI t)) 82 (nU p) (nI a1)) 83 (nU p) (nI a2)) 86 (nU p) 0) 64 20 (nI (nU p + 1))) (56 + j) i = (m_up (m_up (m_up (m_up (m_up g (56 + nU p) 0 0) (56 + nU p) 1 (nI t)) (56 + nU p) 2 (nI a1)) (56 + nU p) 3 (nI a2)) 0 9 (nI (nU p + 1))) (56 + j) i := fun i => by rw [m_up_o (a' := 56 + j) (by omega), m_up_o (a' := 56 + j) (by omega), m_up_o (a' := 56 + j) (by omega), m_up_o (a' := 56 + j) (by omega), m_up_o (a' := 56 + j) (by omega), m_up_o (a' := 56 + j) (by omega)]
    rw [hg, hg, hg, hg, hg, hg, hg]
    by_cases z : j = nU p
    · subst z
      simp [m_up_at]
    · have hg2 : ∀ i, (m_up (m_up (m_up (m_up (m_up g (56 + nU p) 0 0) (56 + nU p) 1 (nI t)) (56 + nU p) 2 (nI a1)) (56 + nU p) 3 (nI a2)) 0 9 (nI (nU p + 1))) (56 + j) i = g (56 + j) i := fun i => by rw [m_up_o (a' := 56 + j) (by omega), m_up_o (a' := 56 + j) (by omega), m_up_o (a' := 56 + j) (by omega), m_up_o (a' := 56 + j) (by omega), m_up_o (a' := 56 + j) (by omega)]
      have q := e8 j (by omega)
      rw [hg2, hg2, hg2, hg2, hg2, hg2, hg2]
      simpa [m_up_at, z] using q
theorem St.rFound (h : St p g b) (hn : nU p < 8) {t a1 : Nat} (ht : t < nT p) (ha1 : a1 < nC p t) (hk1 : p 68 (6 * t + a1) = 1) : St (m_up (m_up (m_up (m_up (m_up (m_up p 80 (nU p) 2) 81 (nU p) (nI t)) 82 (nU p) (nI a1)) 83 (nU p) 0) 86 (nU p) 0) 64 20 (nI (nU p + 1))) (m_up (m_up (m_up (m_up (m_up (m_up (m_up (m_up (m_up (m_up g (56 + nU p) 0 2) (56 + nU p) 1 (nI t)) (56 + nU p) 2 (nI a1)) 0 9 (nI (nU p + 1))) 80 (nU p) 2) 81 (nU p) (nI t)) 82 (nU p) (nI a1)) 83 (nU p) 0) 86 (nU p) 0) 64 20 (nI (nU p + 1))) b := by
  obtain ⟨hM, ⟨i1, i2, i3, i4, i5, i6⟩, ⟨e1, e2, e3, e4, e5, e6, e7, e8⟩, df⟩ := id h
  have hT := h.T.2
  have hC := h.C6
  have hU := h.U.2
  have hpM := pM_lt b
  have hw : nU (m_up (m_up (m_up (m_up (m_up (m_up p 80 (nU p) 2) 81 (nU p) (nI t)) 82 (nU p) (nI a1)) 83 (nU p) 0) 86 (nU p) 0) 64 20 (nI (nU p + 1))) = nU p + 1 := by
    show Int32.toNatClampNeg ((m_up (m_up (m_up (m_up (m_up (m_up p 80 (nU p) 2) 81 (nU p) (nI t)) 82 (nU p) (nI a1)) 83 (nU p) 0) 86 (nU p) 0) 64 20 (nI (nU p + 1))) 64 20) = nU p + 1
    have z : (m_up (m_up (m_up (m_up (m_up (m_up p 80 (nU p) 2) 81 (nU p) (nI t)) 82 (nU p) (nI a1)) 83 (nU p) 0) 86 (nU p) 0) 64 20 (nI (nU p + 1))) 64 20 = nI (nU p + 1) := by simp [m_up_at]
    rw [z]; exact nI_clamp (by omega)
  have hTT : nT (m_up (m_up (m_up (m_up (m_up (m_up p 80 (nU p) 2) 81 (nU p) (nI t)) 82 (nU p) (nI a1)) 83 (nU p) 0) 86 (nU p) 0) 64 20 (nI (nU p + 1))) = nT p := by unfold nT; simp [m_up_at]
  have hCC : ∀ zt, nC (m_up (m_up (m_up (m_up (m_up (m_up p 80 (nU p) 2) 81 (nU p) (nI t)) 82 (nU p) (nI a1)) 83 (nU p) 0) 86 (nU p) 0) 64 20 (nI (nU p + 1))) zt = nC p zt := fun zt => by unfold nC; simp [m_up_at]
  have h68 : ∀ k, (m_up (m_up (m_up (m_up (m_up (m_up p 80 (nU p) 2) 81 (nU p) (nI t)) 82 (nU p) (nI a1)) 83 (nU p) 0) 86 (nU p) 0) 64 20 (nI (nU p + 1))) 68 k = p 68 k := fun k => by simp [m_up_at]
  have h69 : ∀ k, (m_up (m_up (m_up (m_up (m_up (m_up p 80 (nU p) 2) 81 (nU p) (nI t)) 82 (nU p) (nI a1)) 83 (nU p) 0) 86 (nU p) 0) 64 20 (nI (nU p + 1))) 69 k = p 69 k := fun k => by simp [m_up_at]
  have hT1 : nT (m_up p 80 (nU p) 2) ≤ 4 := by rw [nT_up (by omega)]; exact hT
  have hC1 : ∀ zt, zt < nT (m_up p 80 (nU p) 2) → nC (m_up p 80 (nU p) 2) zt ≤ 6 := by rw [nT_up (by omega)]; intro zt hzt; rw [nC_up (by omega)]; exact hC zt hzt
  have hT2 : nT (m_up (m_up p 80 (nU p) 2) 81 (nU p) (nI t)) ≤ 4 := by rw [nT_up (by omega)]; exact hT1
  have hC2 : ∀ zt, zt < nT (m_up (m_up p 80 (nU p) 2) 81 (nU p) (nI t)) → nC (m_up (m_up p 80 (nU p) 2) 81 (nU p) (nI t)) zt ≤ 6 := by rw [nT_up (by omega)]; intro zt hzt; rw [nC_up (by omega)]; exact hC1 zt hzt
  have hT3 : nT (m_up (m_up (m_up p 80 (nU p) 2) 81 (nU p) (nI t)) 82 (nU p) (nI a1)) ≤ 4 := by rw [nT_up (by omega)]; exact hT2
  have hC3 : ∀ zt, zt < nT (m_up (m_up (m_up p 80 (nU p) 2) 81 (nU p) (nI t)) 82 (nU p) (nI a1)) → nC (m_up (m_up (m_up p 80 (nU p) 2) 81 (nU p) (nI t)) 82 (nU p) (nI a1)) zt ≤ 6 := by rw [nT_up (by omega)]; intro zt hzt; rw [nC_up (by omega)]; exact hC2 zt hzt
  have hT4 : nT (m_up (m_up (m_up (m_up p 80 (nU p) 2) 81 (nU p) (nI t)) 82 (nU p) (nI a1)) 83 (nU p) 0) ≤ 4 := by rw [nT_up (by omega)]; exact hT3
  have hC4 : ∀ zt, zt < nT (m_up (m_up (m_up (m_up p 80 (nU p) 2) 81 (nU p) (nI t)) 82 (nU p) (nI a1)) 83 (nU p) 0) → nC (m_up (m_up (m_up (m_up p 80 (nU p) 2) 81 (nU p) (nI t)) 82 (nU p) (nI a1)) 83 (nU p) 0) zt ≤ 6 := by rw [nT_up (by omega)]; intro zt hzt; rw [nC_up (by omega)]; exact hC3 zt hzt
  have hT5 : nT (m_up (m_up (m_up (m_up (m_up p 80 (nU p) 2) 81 (nU p) (nI t)) 82 (nU p) (nI a1)) 83 (nU p) 0) 86 (nU p) 0) ≤ 4 := by rw [nT_up (by omega)]; exact hT4
  have hC5 : ∀ zt, zt < nT (m_up (m_up (m_up (m_up (m_up p 80 (nU p) 2) 81 (nU p) (nI t)) 82 (nU p) (nI a1)) 83 (nU p) 0) 86 (nU p) 0) → nC (m_up (m_up (m_up (m_up (m_up p 80 (nU p) 2) 81 (nU p) (nI t)) 82 (nU p) (nI a1)) 83 (nU p) 0) 86 (nU p) 0) zt ≤ 6 := by rw [nT_up (by omega)]; intro zt hzt; rw [nC_up (by omega)]; exact hC4 zt hzt
  refine ⟨((((((((((hM.c (by omega)).c (by omega)).c (by omega)).c (by omega)).m).m).m).m).m).m), ⟨((((((i1.m (by omega) (by omega) (by omega) (by omega) (by omega)).m (by omega) (by omega) (by omega) (by omega) (by omega)).m (by omega) (by omega) (by omega) (by omega) (by omega)).m (by omega) (by omega) (by omega) (by omega) (by omega)).m (by omega) (by omega) (by omega) (by omega) (by omega)).m (by omega) (by omega) (by omega) (by omega) (by omega)), ((((((i2.m (by omega) (by omega) (by omega)).m (by omega) (by omega) (by omega)).m (by omega) (by omega) (by omega)).m (by omega) (by omega) (by omega)).m (by omega) (by omega) (by omega)).m (by omega) (by omega) (by omega)), ?_, ((((((i4.m (by omega) (by omega)).m (by omega) (by omega)).m (by omega) (by omega)).m (by omega) (by omega)).m (by omega) (by omega)).m (by omega) (by omega)), ?_, ((((((i6.m (by omega) (by omega)).m (by omega) (by omega)).m (by omega) (by omega)).m (by omega) (by omega)).m (by omega) (by omega)).m (by omega) (by omega))⟩, ⟨?_, ((((((((((e2.c hT (by omega)).c hT (by omega)).c hT (by omega)).c hT (by omega)).m hT (by omega) (by omega) (by omega)).m hT1 (by omega) (by omega) (by omega)).m hT2 (by omega) (by omega) (by omega)).m hT3 (by omega) (by omega) (by omega)).m hT4 (by omega) (by omega) (by omega)).m hT5 (by omega) (by omega) (by omega)), ((((((((((e3.c hT hC (by omega)).c hT hC (by omega)).c hT hC (by omega)).c hT hC (by omega)).m hT hC (by omega) (by omega) (by omega)).m hT1 hC1 (by omega) (by omega) (by omega)).m hT2 hC2 (by omega) (by omega) (by omega)).m hT3 hC3 (by omega) (by omega) (by omega)).m hT4 hC4 (by omega) (by omega) (by omega)).m hT5 hC5 (by omega) (by omega) (by omega)), ((((((((((e4.c hT (by omega)).c hT (by omega)).c hT (by omega)).c hT (by omega)).m hT (by omega) (by omega) (by omega)).m hT1 (by omega) (by omega) (by omega)).m hT2 (by omega) (by omega) (by omega)).m hT3 (by omega) (by omega) (by omega)).m hT4 (by omega) (by omega) (by omega)).m hT5 (by omega) (by omega) (by omega)), ((((((((((e5.c (by omega)).c (by omega)).c (by omega)).c (by omega)).m (by omega) (by omega) (by omega)).m (by omega) (by omega) (by omega)).m (by omega) (by omega) (by omega)).m (by omega) (by omega) (by omega)).m (by omega) (by omega) (by omega)).m (by omega) (by omega) (by omega)), ((((((((((e6.c (by omega)).c (by omega)).c (by omega)).c (by omega)).m (by omega) (by omega) (by omega)).m (by omega) (by omega) (by omega)).m (by omega) (by omega) (by omega)).m (by omega) (by omega) (by omega)).m (by omega) (by omega) (by omega)).m (by omega) (by omega) (by omega)), ((((((((((e7.c (by omega)).c (by omega)).c (by omega)).c (by omega)).m (by omega) (by omega) (by omega)).m (by omega) (by omega) (by omega)).m (by omega) (by omega) (by omega)).m (by omega) (by omega) (by omega)).m (by omega) (by omega) (by omega)).m (by omega) (by omega) (by omega)), ?_⟩, ((((((((((df.c (by omega)).c (by omega)).c (by omega)).c (by omega)).m (by omega) (by omega) (by omega)).m (by omega) (by omega) (by omega)).m (by omega) (by omega) (by omega)).m (by omega) (by omega) (by omega)).m (by omega) (by omega) (by omega)).m (by omega) (by omega) (by omega))⟩
  · unfold I3
    rw [hTT, hw]
    refine ⟨fun zt hzt i h1 h2 => ?_, ?_, ?_, ?_, ?_⟩
    · simpa [m_up_at] using i3.1 zt hzt i h1 h2
    · simpa [m_up_at] using i3.2.1
    · simpa [m_up_at] using i3.2.2.1
    · unfold nW; simpa [m_up_at, nW] using i3.2.2.2.1
    · simp [m_up_at]; omega
  · intro j hj
    rw [hw] at hj
    by_cases z : j = nU p
    · subst z
      exact ⟨t, by rw [hTT]; exact ht, by simp [m_up_at], a1, by rw [hCC]; exact ha1, by simp [m_up_at], Or.inr (Or.inr ⟨by simp [m_up_at], by rw [h68]; exact hk1, by simp [m_up_at], by simp [m_up_at]⟩)⟩
    · have hq := i5 j (by omega)
      exact ((((((hq.m (by omega) (by omega) (by omega)).m (by omega) (by omega) (by omega)).m (by omega) (by omega) (by omega)).m (by omega) (by omega) (by omega)).m (by omega) (by omega) (by omega)).m (by omega) (by omega) (by omega))
  · obtain ⟨a1, a2, a3, a4, a5⟩ := e1
    refine ⟨?_, ?_, ?_, ?_, ?_⟩
    · simp [m_up_at]; exact a1
    · simp [m_up_at]
    · simp [m_up_at]; exact a3
    · simp [m_up_at]; exact a4
    · simp [m_up_at]; exact a5
  · intro j hj
    rw [hw] at hj
    have hg : ∀ i, (m_up (m_up (m_up (m_up (m_up (m_up (m_up (m_up (m_up (m_up g (56 + nU p) 0 2) (56 + nU p) 1 (nI t)) (56 + nU p) 2 (nI a1)) 0 9 (nI (nU p + 1))) 80 (nU p) 2) 81 (nU p) (nI t)) 82 (nU p) (nI a1)) 83 (nU p) 0) 86 (nU p) 0) 64 20 (nI (nU p + 1))) (56 + j) i = (m_up (m_up (m_up (m_up g (56 + nU p) 0 2) (56 + nU p) 1 (nI t)) (56 + nU p) 2 (nI a1)) 0 9 (nI (nU p + 1))) (56 + j) i := fun i => by rw [m_up_o (a' := 56 + j) (by omega), m_up_o (a' := 56 + j) (by omega), m_up_o (a' := 56 + j) (by omega), m_up_o (a' := 56 + j) (by omega), m_up_o (a' := 56 + j) (by omega), m_up_o (a' := 56 + j) (by omega)]
    rw [hg, hg, hg, hg, hg, hg, hg]
    by_cases z : j = nU p
    · subst z
      simp [m_up_at]
    · have hg2 : ∀ i, (m_up (m_up (m_up (m_up g (56 + nU p) 0 2) (56 + nU p) 1 (nI t)) (56 + nU p) 2 (nI a1)) 0 9 (nI (nU p + 1))) (56 + j) i = g (56 + j) i := fun i => by rw [m_up_o (a' := 56 + j) (by omega), m_up_o (a' := 56 + j) (by omega), m_up_o (a' := 56 + j) (by omega), m_up_o (a' := 56 + j) (by omega)]
      have q := e8 j (by omega)
      rw [hg2, hg2, hg2, hg2, hg2, hg2, hg2]
      simpa [m_up_at, z] using q
theorem St.rAgree (h : St p g b) (hn : nU p < 8) {t a1 u a2 ee : Nat} {w : Int32} (ht : t < nT p) (ha1 : a1 < nC p t) (hu : u < nT p) (hut : u ≠ t) (ha2 : a2 < nC p u) (hee : ee < nC p u) (hk1 : p 68 (6 * t + a1) = 3) (hk2 : p 68 (6 * u + a2) = 3) (hk3 : p 68 (6 * u + ee) = 1) (hk4 : p 69 (6 * u + ee) = nI t) (hw0 : w = 0 ∨ w = 1) : St (m_up (m_up (m_up (m_up (m_up (m_up (m_up (m_up (m_up p 80 (nU p) 1) 81 (nU p) (nI t)) 82 (nU p) (nI a1)) 83 (nU p) (nI a2)) 86 (nU p) 0) 64 20 (nI (nU p + 1))) 84 (nU p) (nI u)) 85 (nU p) (nI ee)) 86 (nU p) w) (m_up (m_up (m_up (m_up (m_up (m_up (m_up (m_up (m_up (m_up (m_up (m_up (m_up (m_up (m_up (m_up (m_up g (56 + nU p) 0 1) (56 + nU p) 1 (nI t)) (56 + nU p) 2 (nI a1)) (56 + nU p) 4 (nI u)) (56 + nU p) 3 (nI a2)) (56 + nU p) 5 (nI ee)) (56 + nU p) 6 w) 0 9 (nI (nU p + 1))) 80 (nU p) 1) 81 (nU p) (nI t)) 82 (nU p) (nI a1)) 83 (nU p) (nI a2)) 86 (nU p) 0) 64 20 (nI (nU p + 1))) 84 (nU p) (nI u)) 85 (nU p) (nI ee)) 86 (nU p) w) b := by
  obtain ⟨hM, ⟨i1, i2, i3, i4, i5, i6⟩, ⟨e1, e2, e3, e4, e5, e6, e7, e8⟩, df⟩ := id h
  have hT := h.T.2
  have hC := h.C6
  have hU := h.U.2
  have hpM := pM_lt b
  have hw : nU (m_up (m_up (m_up (m_up (m_up (m_up (m_up (m_up (m_up p 80 (nU p) 1) 81 (nU p) (nI t)) 82 (nU p) (nI a1)) 83 (nU p) (nI a2)) 86 (nU p) 0) 64 20 (nI (nU p + 1))) 84 (nU p) (nI u)) 85 (nU p) (nI ee)) 86 (nU p) w) = nU p + 1 := by
    show Int32.toNatClampNeg ((m_up (m_up (m_up (m_up (m_up (m_up (m_up (m_up (m_up p 80 (nU p) 1) 81 (nU p) (nI t)) 82 (nU p) (nI a1)) 83 (nU p) (nI a2)) 86 (nU p) 0) 64 20 (nI (nU p + 1))) 84 (nU p) (nI u)) 85 (nU p) (nI ee)) 86 (nU p) w) 64 20) = nU p + 1
    have z : (m_up (m_up (m_up (m_up (m_up (m_up (m_up (m_up (m_up p 80 (nU p) 1) 81 (nU p) (nI t)) 82 (nU p) (nI a1)) 83 (nU p) (nI a2)) 86 (nU p) 0) 64 20 (nI (nU p + 1))) 84 (nU p) (nI u)) 85 (nU p) (nI ee)) 86 (nU p) w) 64 20 = nI (nU p + 1) := by simp [m_up_at]
    rw [z]; exact nI_clamp (by omega)
  have hTT : nT (m_up (m_up (m_up (m_up (m_up (m_up (m_up (m_up (m_up p 80 (nU p) 1) 81 (nU p) (nI t)) 82 (nU p) (nI a1)) 83 (nU p) (nI a2)) 86 (nU p) 0) 64 20 (nI (nU p + 1))) 84 (nU p) (nI u)) 85 (nU p) (nI ee)) 86 (nU p) w) = nT p := by unfold nT; simp [m_up_at]
  have hCC : ∀ zt, nC (m_up (m_up (m_up (m_up (m_up (m_up (m_up (m_up (m_up p 80 (nU p) 1) 81 (nU p) (nI t)) 82 (nU p) (nI a1)) 83 (nU p) (nI a2)) 86 (nU p) 0) 64 20 (nI (nU p + 1))) 84 (nU p) (nI u)) 85 (nU p) (nI ee)) 86 (nU p) w) zt = nC p zt := fun zt => by unfold nC; simp [m_up_at]
  have h68 : ∀ k, (m_up (m_up (m_up (m_up (m_up (m_up (m_up (m_up (m_up p 80 (nU p) 1) 81 (nU p) (nI t)) 82 (nU p) (nI a1)) 83 (nU p) (nI a2)) 86 (nU p) 0) 64 20 (nI (nU p + 1))) 84 (nU p) (nI u)) 85 (nU p) (nI ee)) 86 (nU p) w) 68 k = p 68 k := fun k => by simp [m_up_at]
  have h69 : ∀ k, (m_up (m_up (m_up (m_up (m_up (m_up (m_up (m_up (m_up p 80 (nU p) 1) 81 (nU p) (nI t)) 82 (nU p) (nI a1)) 83 (nU p) (nI a2)) 86 (nU p) 0) 64 20 (nI (nU p + 1))) 84 (nU p) (nI u)) 85 (nU p) (nI ee)) 86 (nU p) w) 69 k = p 69 k := fun k => by simp [m_up_at]
  have hT1 : nT (m_up p 80 (nU p) 1) ≤ 4 := by rw [nT_up (by omega)]; exact hT
  have hC1 : ∀ zt, zt < nT (m_up p 80 (nU p) 1) → nC (m_up p 80 (nU p) 1) zt ≤ 6 := by rw [nT_up (by omega)]; intro zt hzt; rw [nC_up (by omega)]; exact hC zt hzt
  have hT2 : nT (m_up (m_up p 80 (nU p) 1) 81 (nU p) (nI t)) ≤ 4 := by rw [nT_up (by omega)]; exact hT1
  have hC2 : ∀ zt, zt < nT (m_up (m_up p 80 (nU p) 1) 81 (nU p) (nI t)) → nC (m_up (m_up p 80 (nU p) 1) 81 (nU p) (nI t)) zt ≤ 6 := by rw [nT_up (by omega)]; intro zt hzt; rw [nC_up (by omega)]; exact hC1 zt hzt
  have hT3 : nT (m_up (m_up (m_up p 80 (nU p) 1) 81 (nU p) (nI t)) 82 (nU p) (nI a1)) ≤ 4 := by rw [nT_up (by omega)]; exact hT2
  have hC3 : ∀ zt, zt < nT (m_up (m_up (m_up p 80 (nU p) 1) 81 (nU p) (nI t)) 82 (nU p) (nI a1)) → nC (m_up (m_up (m_up p 80 (nU p) 1) 81 (nU p) (nI t)) 82 (nU p) (nI a1)) zt ≤ 6 := by rw [nT_up (by omega)]; intro zt hzt; rw [nC_up (by omega)]; exact hC2 zt hzt
  have hT4 : nT (m_up (m_up (m_up (m_up p 80 (nU p) 1) 81 (nU p) (nI t)) 82 (nU p) (nI a1)) 83 (nU p) (nI a2)) ≤ 4 := by rw [nT_up (by omega)]; exact hT3
  have hC4 : ∀ zt, zt < nT (m_up (m_up (m_up (m_up p 80 (nU p) 1) 81 (nU p) (nI t)) 82 (nU p) (nI a1)) 83 (nU p) (nI a2)) → nC (m_up (m_up (m_up (m_up p 80 (nU p) 1) 81 (nU p) (nI t)) 82 (nU p) (nI a1)) 83 (nU p) (nI a2)) zt ≤ 6 := by rw [nT_up (by omega)]; intro zt hzt; rw [nC_up (by omega)]; exact hC3 zt hzt
  have hT5 : nT (m_up (m_up (m_up (m_up (m_up p 80 (nU p) 1) 81 (nU p) (nI t)) 82 (nU p) (nI a1)) 83 (nU p) (nI a2)) 86 (nU p) 0) ≤ 4 := by rw [nT_up (by omega)]; exact hT4
  have hC5 : ∀ zt, zt < nT (m_up (m_up (m_up (m_up (m_up p 80 (nU p) 1) 81 (nU p) (nI t)) 82 (nU p) (nI a1)) 83 (nU p) (nI a2)) 86 (nU p) 0) → nC (m_up (m_up (m_up (m_up (m_up p 80 (nU p) 1) 81 (nU p) (nI t)) 82 (nU p) (nI a1)) 83 (nU p) (nI a2)) 86 (nU p) 0) zt ≤ 6 := by rw [nT_up (by omega)]; intro zt hzt; rw [nC_up (by omega)]; exact hC4 zt hzt
  have hT6 : nT (m_up (m_up (m_up (m_up (m_up (m_up p 80 (nU p) 1) 81 (nU p) (nI t)) 82 (nU p) (nI a1)) 83 (nU p) (nI a2)) 86 (nU p) 0) 64 20 (nI (nU p + 1))) ≤ 4 := by rw [nT_up (by omega)]; exact hT5
  have hC6 : ∀ zt, zt < nT (m_up (m_up (m_up (m_up (m_up (m_up p 80 (nU p) 1) 81 (nU p) (nI t)) 82 (nU p) (nI a1)) 83 (nU p) (nI a2)) 86 (nU p) 0) 64 20 (nI (nU p + 1))) → nC (m_up (m_up (m_up (m_up (m_up (m_up p 80 (nU p) 1) 81 (nU p) (nI t)) 82 (nU p) (nI a1)) 83 (nU p) (nI a2)) 86 (nU p) 0) 64 20 (nI (nU p + 1))) zt ≤ 6 := by rw [nT_up (by omega)]; intro zt hzt; rw [nC_up (by omega)]; exact hC5 zt hzt
  have hT7 : nT (m_up (m_up (m_up (m_up (m_up (m_up (m_up p 80 (nU p) 1) 81 (nU p) (nI t)) 82 (nU p) (nI a1)) 83 (nU p) (nI a2)) 86 (nU p) 0) 64 20 (nI (nU p + 1))) 84 (nU p) (nI u)) ≤ 4 := by rw [nT_up (by omega)]; exact hT6
  have hC7 : ∀ zt, zt < nT (m_up (m_up (m_up (m_up (m_up (m_up (m_up p 80 (nU p) 1) 81 (nU p) (nI t)) 82 (nU p) (nI a1)) 83 (nU p) (nI a2)) 86 (nU p) 0) 64 20 (nI (nU p + 1))) 84 (nU p) (nI u)) → nC (m_up (m_up (m_up (m_up (m_up (m_up (m_up p 80 (nU p) 1) 81 (nU p) (nI t)) 82 (nU p) (nI a1)) 83 (nU p) (nI a2)) 86 (nU p) 0) 64 20 (nI (nU p + 1))) 84 (nU p) (nI u)) zt ≤ 6 := by rw [nT_up (by omega)]; intro zt hzt; rw [nC_up (by omega)]; exact hC6 zt hzt
  have hT8 : nT (m_up (m_up (m_up (m_up (m_up (m_up (m_up (m_up p 80 (nU p) 1) 81 (nU p) (nI t)) 82 (nU p) (nI a1)) 83 (nU p) (nI a2)) 86 (nU p) 0) 64 20 (nI (nU p + 1))) 84 (nU p) (nI u)) 85 (nU p) (nI ee)) ≤ 4 := by rw [nT_up (by omega)]; exact hT7
  have hC8 : ∀ zt, zt < nT (m_up (m_up (m_up (m_up (m_up (m_up (m_up (m_up p 80 (nU p) 1) 81 (nU p) (nI t)) 82 (nU p) (nI a1)) 83 (nU p) (nI a2)) 86 (nU p) 0) 64 20 (nI (nU p + 1))) 84 (nU p) (nI u)) 85 (nU p) (nI ee)) → nC (m_up (m_up (m_up (m_up (m_up (m_up (m_up (m_up p 80 (nU p) 1) 81 (nU p) (nI t)) 82 (nU p) (nI a1)) 83 (nU p) (nI a2)) 86 (nU p) 0) 64 20 (nI (nU p + 1))) 84 (nU p) (nI u)) 85 (nU p) (nI ee)) zt ≤ 6 := by rw [nT_up (by omega)]; intro zt hzt; rw [nC_up (by omega)]; exact hC7 zt hzt
  refine ⟨(((((((((((((((((hM.c (by omega)).c (by omega)).c (by omega)).c (by omega)).c (by omega)).c (by omega)).c (by omega)).c (by omega)).m).m).m).m).m).m).m).m).m), ⟨(((((((((i1.m (by omega) (by omega) (by omega) (by omega) (by omega)).m (by omega) (by omega) (by omega) (by omega) (by omega)).m (by omega) (by omega) (by omega) (by omega) (by omega)).m (by omega) (by omega) (by omega) (by omega) (by omega)).m (by omega) (by omega) (by omega) (by omega) (by omega)).m (by omega) (by omega) (by omega) (by omega) (by omega)).m (by omega) (by omega) (by omega) (by omega) (by omega)).m (by omega) (by omega) (by omega) (by omega) (by omega)).m (by omega) (by omega) (by omega) (by omega) (by omega)), (((((((((i2.m (by omega) (by omega) (by omega)).m (by omega) (by omega) (by omega)).m (by omega) (by omega) (by omega)).m (by omega) (by omega) (by omega)).m (by omega) (by omega) (by omega)).m (by omega) (by omega) (by omega)).m (by omega) (by omega) (by omega)).m (by omega) (by omega) (by omega)).m (by omega) (by omega) (by omega)), ?_, (((((((((i4.m (by omega) (by omega)).m (by omega) (by omega)).m (by omega) (by omega)).m (by omega) (by omega)).m (by omega) (by omega)).m (by omega) (by omega)).m (by omega) (by omega)).m (by omega) (by omega)).m (by omega) (by omega)), ?_, (((((((((i6.m (by omega) (by omega)).m (by omega) (by omega)).m (by omega) (by omega)).m (by omega) (by omega)).m (by omega) (by omega)).m (by omega) (by omega)).m (by omega) (by omega)).m (by omega) (by omega)).m (by omega) (by omega))⟩, ⟨?_, (((((((((((((((((e2.c hT (by omega)).c hT (by omega)).c hT (by omega)).c hT (by omega)).c hT (by omega)).c hT (by omega)).c hT (by omega)).c hT (by omega)).m hT (by omega) (by omega) (by omega)).m hT1 (by omega) (by omega) (by omega)).m hT2 (by omega) (by omega) (by omega)).m hT3 (by omega) (by omega) (by omega)).m hT4 (by omega) (by omega) (by omega)).m hT5 (by omega) (by omega) (by omega)).m hT6 (by omega) (by omega) (by omega)).m hT7 (by omega) (by omega) (by omega)).m hT8 (by omega) (by omega) (by omega)), (((((((((((((((((e3.c hT hC (by omega)).c hT hC (by omega)).c hT hC (by omega)).c hT hC (by omega)).c hT hC (by omega)).c hT hC (by omega)).c hT hC (by omega)).c hT hC (by omega)).m hT hC (by omega) (by omega) (by omega)).m hT1 hC1 (by omega) (by omega) (by omega)).m hT2 hC2 (by omega) (by omega) (by omega)).m hT3 hC3 (by omega) (by omega) (by omega)).m hT4 hC4 (by omega) (by omega) (by omega)).m hT5 hC5 (by omega) (by omega) (by omega)).m hT6 hC6 (by omega) (by omega) (by omega)).m hT7 hC7 (by omega) (by omega) (by omega)).m hT8 hC8 (by omega) (by omega) (by omega)), (((((((((((((((((e4.c hT (by omega)).c hT (by omega)).c hT (by omega)).c hT (by omega)).c hT (by omega)).c hT (by omega)).c hT (by omega)).c hT (by omega)).m hT (by omega) (by omega) (by omega)).m hT1 (by omega) (by omega) (by omega)).m hT2 (by omega) (by omega) (by omega)).m hT3 (by omega) (by omega) (by omega)).m hT4 (by omega) (by omega) (by omega)).m hT5 (by omega) (by omega) (by omega)).m hT6 (by omega) (by omega) (by omega)).m hT7 (by omega) (by omega) (by omega)).m hT8 (by omega) (by omega) (by omega)), (((((((((((((((((e5.c (by omega)).c (by omega)).c (by omega)).c (by omega)).c (by omega)).c (by omega)).c (by omega)).c (by omega)).m (by omega) (by omega) (by omega)).m (by omega) (by omega) (by omega)).m (by omega) (by omega) (by omega)).m (by omega) (by omega) (by omega)).m (by omega) (by omega) (by omega)).m (by omega) (by omega) (by omega)).m (by omega) (by omega) (by omega)).m (by omega) (by omega) (by omega)).m (by omega) (by omega) (by omega)), (((((((((((((((((e6.c (by omega)).c (by omega)).c (by omega)).c (by omega)).c (by omega)).c (by omega)).c (by omega)).c (by omega)).m (by omega) (by omega) (by omega)).m (by omega) (by omega) (by omega)).m (by omega) (by omega) (by omega)).m (by omega) (by omega) (by omega)).m (by omega) (by omega) (by omega)).m (by omega) (by omega) (by omega)).m (by omega) (by omega) (by omega)).m (by omega) (by omega) (by omega)).m (by omega) (by omega) (by omega)), (((((((((((((((((e7.c (by omega)).c (by omega)).c (by omega)).c (by omega)).c (by omega)).c (by omega)).c (by omega)).c (by omega)).m (by omega) (by omega) (by omega)).m (by omega) (by omega) (by omega)).m (by omega) (by omega) (by omega)).m (by omega) (by omega) (by omega)).m (by omega) (by omega) (by omega)).m (by omega) (by omega) (by omega)).m (by omega) (by omega) (by omega)).m (by omega) (by omega) (by omega)).m (by omega) (by omega) (by omega)), ?_⟩, (((((((((((((((((df.c (by omega)).c (by omega)).c (by omega)).c (by omega)).c (by omega)).c (by omega)).c (by omega)).c (by omega)).m (by omega) (by omega) (by omega)).m (by omega) (by omega) (by omega)).m (by omega) (by omega) (by omega)).m (by omega) (by omega) (by omega)).m (by omega) (by omega) (by omega)).m (by omega) (by omega) (by omega)).m (by omega) (by omega) (by omega)).m (by omega) (by omega) (by omega)).m (by omega) (by omega) (by omega))⟩
  · unfold I3
    rw [hTT, hw]
    refine ⟨fun zt hzt i h1 h2 => ?_, ?_, ?_, ?_, ?_⟩
    · simpa [m_up_at] using i3.1 zt hzt i h1 h2
    · simpa [m_up_at] using i3.2.1
    · simpa [m_up_at] using i3.2.2.1
    · unfold nW; simpa [m_up_at, nW] using i3.2.2.2.1
    · simp [m_up_at]; omega
  · intro j hj
    rw [hw] at hj
    by_cases z : j = nU p
    · subst z
      exact ⟨t, by rw [hTT]; exact ht, by simp [m_up_at], a1, by rw [hCC]; exact ha1, by simp [m_up_at], Or.inr (Or.inl ⟨by simp [m_up_at], by rw [h68]; exact hk1, by simpa [m_up_at] using hw0, u, by rw [hTT]; exact hu, hut, by simp [m_up_at], ⟨a2, by rw [hCC]; exact ha2, by simp [m_up_at], by rw [h68]; exact hk2⟩, ee, by rw [hCC]; exact hee, by simp [m_up_at], by rw [h68]; exact hk3, by rw [h69]; exact hk4⟩)⟩
    · have hq := i5 j (by omega)
      exact (((((((((hq.m (by omega) (by omega) (by omega)).m (by omega) (by omega) (by omega)).m (by omega) (by omega) (by omega)).m (by omega) (by omega) (by omega)).m (by omega) (by omega) (by omega)).m (by omega) (by omega) (by omega)).m (by omega) (by omega) (by omega)).m (by omega) (by omega) (by omega)).m (by omega) (by omega) (by omega))
  · obtain ⟨a1, a2, a3, a4, a5⟩ := e1
    refine ⟨?_, ?_, ?_, ?_, ?_⟩
    · simp [m_up_at]; exact a1
    · simp [m_up_at]
    · simp [m_up_at]; exact a3
    · simp [m_up_at]; exact a4
    · simp [m_up_at]; exact a5
  · intro j hj
    rw [hw] at hj
    have hg : ∀ i, (m_up (m_up (m_up (m_up (m_up (m_up (m_up (m_up (m_up (m_up (m_up (m_up (m_up (m_up (m_up (m_up (m_up g (56 + nU p) 0 1) (56 + nU p) 1 (nI t)) (56 + nU p) 2 (nI a1)) (56 + nU p) 4 (nI u)) (56 + nU p) 3 (nI a2)) (56 + nU p) 5 (nI ee)) (56 + nU p) 6 w) 0 9 (nI (nU p + 1))) 80 (nU p) 1) 81 (nU p) (nI t)) 82 (nU p) (nI a1)) 83 (nU p) (nI a2)) 86 (nU p) 0) 64 20 (nI (nU p + 1))) 84 (nU p) (nI u)) 85 (nU p) (nI ee)) 86 (nU p) w) (56 + j) i = (m_up (m_up (m_up (m_up (m_up (m_up (m_up (m_up g (56 + nU p) 0 1) (56 + nU p) 1 (nI t)) (56 + nU p) 2 (nI a1)) (56 + nU p) 4 (nI u)) (56 + nU p) 3 (nI a2)) (56 + nU p) 5 (nI ee)) (56 + nU p) 6 w) 0 9 (nI (nU p + 1))) (56 + j) i := fun i => by rw [m_up_o (a' := 56 + j) (by omega), m_up_o (a' := 56 + j) (by omega), m_up_o (a' := 56 + j) (by omega), m_up_o (a' := 56 + j) (by omega), m_up_o (a' := 56 + j) (by omega), m_up_o (a' := 56 + j) (by omega), m_up_o (a' := 56 + j) (by omega), m_up_o (a' := 56 + j) (by omega), m_up_o (a' := 56 + j) (by omega)]
    rw [hg, hg, hg, hg, hg, hg, hg]
    by_cases z : j = nU p
    · subst z
      simp [m_up_at]
    · have hg2 : ∀ i, (m_up (m_up (m_up (m_up (m_up (m_up (m_up (m_up g (56 + nU p) 0 1) (56 + nU p) 1 (nI t)) (56 + nU p) 2 (nI a1)) (56 + nU p) 4 (nI u)) (56 + nU p) 3 (nI a2)) (56 + nU p) 5 (nI ee)) (56 + nU p) 6 w) 0 9 (nI (nU p + 1))) (56 + j) i = g (56 + j) i := fun i => by rw [m_up_o (a' := 56 + j) (by omega), m_up_o (a' := 56 + j) (by omega), m_up_o (a' := 56 + j) (by omega), m_up_o (a' := 56 + j) (by omega), m_up_o (a' := 56 + j) (by omega), m_up_o (a' := 56 + j) (by omega), m_up_o (a' := 56 + j) (by omega), m_up_o (a' := 56 + j) (by omega)]
      have q := e8 j (by omega)
      rw [hg2, hg2, hg2, hg2, hg2, hg2, hg2]
      simpa [m_up_at, z] using q
end SH
