/-! ===== simple calls, on (written by wip/whole/mkpure.py) ===== -/
section SD
variable {p g : mI} {b : Bool}
theorem m_up_comm {g : mI} {a k a' k' : Nat} {x y : Int32} (h : a ≠ a' ∨ k ≠ k') : m_up (m_up g a k x) a' k' y = m_up (m_up g a' k' y) a k x := by
  funext i j
  simp only [m_up_at]
  by_cases h1 : i = a ∧ j = k
  · by_cases h2 : i = a' ∧ j = k'
    · omega
    · rw [if_neg h2, if_pos h1, if_pos h1]
  · by_cases h2 : i = a' ∧ j = k'
    · rw [if_pos h2, if_neg h1, if_pos h2]
    · rw [if_neg h2, if_neg h1, if_neg h1, if_neg h2]
theorem E3.pair (h : E3 p g) (hT : nT p ≤ 4) (hC : ∀ t, t < nT p → nC p t ≤ 6) {t c j : Nat} {x : Int32} (ht : t < nT p) (hc : c < nC p t) (hj : j < 6) : E3 (m_up p (68 + j) (6 * t + c) x) (m_up (m_up g (20 + 10 * t + c) j x) (68 + j) (6 * t + c) x) := by
  have hc6 := hC t ht
  intro t' ht' c' hc' j' hj'
  rw [nT_up (by omega)] at ht'
  rw [nC_up (by omega)] at hc'
  have hc6' := hC t' ht'
  rw [m_up_o (by omega)]
  by_cases hh : t' = t ∧ c' = c ∧ j' = j
  · obtain ⟨rfl, rfl, rfl⟩ := hh
    rw [m_up_eq, m_up_eq]
  · rw [m_up_o (by omega), m_up_o (by omega)]
    exact h t' ht' c' hc' j' hj'
theorem E4.pair (h : E4 p g) (hT : nT p ≤ 4) {t i : Nat} {x : Int32} (ht : t < nT p) (hi : i ≤ 4) : E4 (m_up p 74 (5 * t + i) x) (m_up (m_up g (18 + 10 * t) i x) 74 (5 * t + i) x) ∧ E4 (m_up p 75 (5 * t + i) x) (m_up (m_up g (19 + 10 * t) i x) 75 (5 * t + i) x) := by
  constructor
  · intro t' ht' i' h1 h2
    rw [nT_up (by omega)] at ht'
    rw [m_up_o (a' := 75) (by omega), m_up_o (a' := 19 + 10 * t') (by omega), m_up_o (a' := 19 + 10 * t') (by omega), m_up_o (a' := 18 + 10 * t') (by omega)]
    refine ⟨?_, (h t' ht' i' h1 h2).2⟩
    by_cases hh : t' = t ∧ i' = i
    · obtain ⟨rfl, rfl⟩ := hh
      rw [m_up_eq, m_up_eq]
    · rw [m_up_o (by omega), m_up_o (by omega)]
      exact (h t' ht' i' h1 h2).1
  · intro t' ht' i' h1 h2
    rw [nT_up (by omega)] at ht'
    rw [m_up_o (a' := 74) (by omega), m_up_o (a' := 18 + 10 * t') (by omega), m_up_o (a' := 18 + 10 * t') (by omega), m_up_o (a' := 19 + 10 * t') (by omega)]
    refine ⟨(h t' ht' i' h1 h2).1, ?_⟩
    by_cases hh : t' = t ∧ i' = i
    · obtain ⟨rfl, rfl⟩ := hh
      rw [m_up_eq, m_up_eq]
    · rw [m_up_o (by omega), m_up_o (by omega)]
      exact (h t' ht' i' h1 h2).2
theorem s_wipe (h : St p g b) : ∃ v g1 g2 p2, f_X6_wipe g = some (v, g1) ∧ f_X7_wipe g1 = some (v, g2) ∧ St p2 g2 b := by
  obtain ⟨hM, ⟨i1, i2, i3, i4, i5, i6⟩, ⟨e1, e2, e3, e4, e5, e6, e7, e8⟩, df⟩ := id h
  have hT := h.T.2
  have hC := h.C6
  have hU := h.U.2
  have hpM := pM_lt b
  refine ⟨g 0 10, (m_up g 0 10 0), (m_up (m_up g 0 10 0) 64 19 0), (m_up p 64 19 0), rfl, ?_, ?_⟩
  · show some (m_up g 0 10 0 64 19, _) = some _
    rw [m_up_o (by omega), h.m 64 19 (mp_i _ (by decide)), e1.2.2.1]
  · have hw : nW (m_up p 64 19 0) = 0 := by unfold nW; rw [m_up_eq]; rfl
    refine ⟨((hM.c (by omega)).m), ⟨(i1.m (by omega) (by omega) (by omega) (by omega) (by omega)), (i2.m (by omega) (by omega) (by omega)), ?_, (i4.m (by omega) (by omega)), (i5.m (by omega) (by omega) (by omega)), (i6.m (by omega) (by omega))⟩, ⟨?_, ((e2.c hT (by omega)).m hT (by omega) (by omega) (by omega)), ((e3.c hT hC (by omega)).m hT hC (by omega) (by omega) (by omega)), ((e4.c hT (by omega)).m hT (by omega) (by omega) (by omega)), ?_, ((e6.c (by omega)).m (by omega) (by omega) (by omega)), ((e7.c (by omega)).m (by omega) (by omega) (by omega)), ((e8.c (by omega) hU).m hU (by omega) (by omega) (by omega))⟩, ((df.c (by omega)).m (by omega) (by omega) (by omega))⟩
    · unfold I3
      rw [nT_up (by omega), hw, nU_up (by omega), m_up_eq, m_up_o (by omega), m_up_o (by omega), m_up_o (by omega)]
      refine ⟨fun t ht i h1 h2 => ?_, i3.2.1, i3.2.2.1, ⟨rfl, by omega⟩, i3.2.2.2.2⟩
      rw [m_up_o (by omega), m_up_o (by omega)]
      exact i3.1 t ht i h1 h2
    · obtain ⟨a1, a2, a3, a4, a5⟩ := e1
      refine ⟨?_, ?_, ?_, ?_, ?_⟩
      · rw [m_up_o (by omega), m_up_o (by omega), m_up_o (by omega)]; exact a1
      · rw [m_up_o (by omega), m_up_o (by omega), m_up_o (by omega)]; exact a2
      · rw [m_up_o (by omega), m_up_eq, m_up_eq]
      · rw [m_up_o (by omega), m_up_o (by omega), m_up_o (by omega)]; exact a4
      · rw [m_up_o (by omega), m_up_o (by omega), m_up_o (by omega)]; exact a5
    · intro i hi; rw [hw] at hi; omega
theorem s_unrule (h : St p g b) : ∃ v g1 g2 p2, f_X6_unrule g = some (v, g1) ∧ f_X7_unrule g1 = some (v, g2) ∧ St p2 g2 b := by
  obtain ⟨hM, ⟨i1, i2, i3, i4, i5, i6⟩, ⟨e1, e2, e3, e4, e5, e6, e7, e8⟩, df⟩ := id h
  have hT := h.T.2
  have hC := h.C6
  have hU := h.U.2
  have hpM := pM_lt b
  refine ⟨g 0 9, (m_up g 0 9 0), (m_up (m_up g 0 9 0) 64 20 0), (m_up p 64 20 0), rfl, ?_, ?_⟩
  · show some (m_up g 0 9 0 64 20, _) = some _
    rw [m_up_o (by omega), h.m 64 20 (mp_i _ (by decide)), e1.2.1]
  · have hw : nU (m_up p 64 20 0) = 0 := by unfold nU; rw [m_up_eq]; rfl
    refine ⟨((hM.c (by omega)).m), ⟨(i1.m (by omega) (by omega) (by omega) (by omega) (by omega)), (i2.m (by omega) (by omega) (by omega)), ?_, (i4.m (by omega) (by omega)), ?_, (i6.m (by omega) (by omega))⟩, ⟨?_, ((e2.c hT (by omega)).m hT (by omega) (by omega) (by omega)), ((e3.c hT hC (by omega)).m hT hC (by omega) (by omega) (by omega)), ((e4.c hT (by omega)).m hT (by omega) (by omega) (by omega)), ((e5.c (by omega)).m (by omega) (by omega) (by omega)), ((e6.c (by omega)).m (by omega) (by omega) (by omega)), ((e7.c (by omega)).m (by omega) (by omega) (by omega)), ?_⟩, ((df.c (by omega)).m (by omega) (by omega) (by omega))⟩
    · unfold I3
      rw [nT_up (by omega), hw, nW_up (by omega), m_up_eq, m_up_o (by omega), m_up_o (by omega), m_up_o (by omega)]
      refine ⟨fun t ht i h1 h2 => ?_, i3.2.1, i3.2.2.1, i3.2.2.2.1, ⟨rfl, by omega⟩⟩
      rw [m_up_o (by omega), m_up_o (by omega)]
      exact i3.1 t ht i h1 h2
    · intro j hj; rw [hw] at hj; omega
    · obtain ⟨a1, a2, a3, a4, a5⟩ := e1
      refine ⟨?_, ?_, ?_, ?_, ?_⟩
      · rw [m_up_o (by omega), m_up_o (by omega), m_up_o (by omega)]; exact a1
      · rw [m_up_o (by omega), m_up_eq, m_up_eq]
      · rw [m_up_o (by omega), m_up_o (by omega), m_up_o (by omega)]; exact a3
      · rw [m_up_o (by omega), m_up_o (by omega), m_up_o (by omega)]; exact a4
      · rw [m_up_o (by omega), m_up_o (by omega), m_up_o (by omega)]; exact a5
    · intro j hj; rw [hw] at hj; omega
theorem s_cell (h : St p g b) (v : Int32) : ∃ w g1 g2 p2, f_X6_cell g v = some (w, g1) ∧ f_X7_cell_ g1 v = some (w, g2) ∧ St p2 g2 b := by
  obtain ⟨hM, ⟨i1, i2, i3, i4, i5, i6⟩, ⟨e1, e2, e3, e4, e5, e6, e7, e8⟩, df⟩ := id h
  have hT := h.T.2
  have hC := h.C6
  have hU := h.U.2
  have hpM := pM_lt b
  have hW := h.W
  unfold f_X6_cell f_X7_cell_
  rw [e1.2.2.1, hW.1]
  by_cases h6 : nW p = 6
  · rw [h6, if_neg (show ¬ nI 6 < (6 : Int32) by decide)]
    refine ⟨-4, g, g, p, rfl, ?_, h⟩
    rw [h.m 64 19 (mp_i _ (by decide)), hW.1, h6, if_pos (show nI 6 = (6 : Int32) from rfl)]
  · rw [if_pos (show nI (nW p) < (6 : Int32) from nI_lt (b := 6) (by omega) (by decide)), if_pos (m_inN (by omega) (by decide)), nI_clamp (by omega)]
    refine ⟨nI (nW p + 1), (m_up (m_up g 3 (nW p) v) 0 10 (nI (nW p + 1))), (m_up (m_up (m_up (m_up g 3 (nW p) v) 0 10 (nI (nW p + 1))) 79 (nW p) v) 64 19 (nI (nW p + 1))), (m_up (m_up p 79 (nW p) v) 64 19 (nI (nW p + 1))), ?_, ?_, ?_⟩
    · show some (m_up (m_up g 3 (nW p) v) 0 10 (m_up g 3 (nW p) v 0 10 + 1) 0 10, m_up (m_up g 3 (nW p) v) 0 10 (m_up g 3 (nW p) v 0 10 + 1)) = some _
      rw [m_up_eq, m_up_o (by omega), e1.2.2.1, hW.1, nI_1]
    · have q : (m_up (m_up g 3 (nW p) v) 0 10 (nI (nW p + 1))) 64 19 = nI (nW p) := by rw [m_up_o (by omega), m_up_o (by omega), h.m 64 19 (mp_i _ (by decide)), hW.1]
      rw [q, if_neg (show ¬ nI (nW p) = (6 : Int32) from fun z => h6 (nI_inj (b := 6) (by omega) (by decide) z)), if_pos (m_inN (by omega) (by decide)), nI_clamp (by omega)]
      show some (m_up (m_up (m_up (m_up g 3 (nW p) v) 0 10 (nI (nW p + 1))) 79 (nW p) v) 64 19 (m_up (m_up (m_up g 3 (nW p) v) 0 10 (nI (nW p + 1))) 79 (nW p) v 64 19 + 1) 64 19, m_up (m_up (m_up (m_up g 3 (nW p) v) 0 10 (nI (nW p + 1))) 79 (nW p) v) 64 19 (m_up (m_up (m_up g 3 (nW p) v) 0 10 (nI (nW p + 1))) 79 (nW p) v 64 19 + 1)) = some _
      rw [m_up_eq, m_up_o (a' := 64) (by omega), q, nI_1]
    · have hw : nW (m_up (m_up p 79 (nW p) v) 64 19 (nI (nW p + 1))) = nW p + 1 := by show Int32.toNatClampNeg (m_up _ 64 19 _ 64 19) = nW p + 1; rw [m_up_eq]; exact nI_clamp (by omega)
      have hT1 : nT (m_up p 79 (nW p) v) ≤ 4 := by rw [nT_up (by omega)]; exact hT
      have hC1 : ∀ t, t < nT (m_up p 79 (nW p) v) → nC (m_up p 79 (nW p) v) t ≤ 6 := by rw [nT_up (by omega)]; intro t ht; rw [nC_up (by omega)]; exact hC t ht
      have hU1 : nU (m_up p 79 (nW p) v) ≤ 8 := by rw [nU_up (by omega)]; exact hU
      refine ⟨((((hM.c (by omega)).c (by omega)).m).m), ⟨((i1.m (by omega) (by omega) (by omega) (by omega) (by omega)).m (by omega) (by omega) (by omega) (by omega) (by omega)), ((i2.m (by omega) (by omega) (by omega)).m (by omega) (by omega) (by omega)), ?_, ((i4.m (by omega) (by omega)).m (by omega) (by omega)), ((i5.m (by omega) (by omega) (by omega)).m (by omega) (by omega) (by omega)), ((i6.m (by omega) (by omega)).m (by omega) (by omega))⟩, ⟨?_, ((((e2.c hT (by omega)).c hT (by omega)).m hT (by omega) (by omega) (by omega)).m hT1 (by omega) (by omega) (by omega)), ((((e3.c hT hC (by omega)).c hT hC (by omega)).m hT hC (by omega) (by omega) (by omega)).m hT1 hC1 (by omega) (by omega) (by omega)), ((((e4.c hT (by omega)).c hT (by omega)).m hT (by omega) (by omega) (by omega)).m hT1 (by omega) (by omega) (by omega)), ?_, ((((e6.c (by omega)).c (by omega)).m (by omega) (by omega) (by omega)).m (by omega) (by omega) (by omega)), ((((e7.c (by omega)).c (by omega)).m (by omega) (by omega) (by omega)).m (by omega) (by omega) (by omega)), ((((e8.c (by omega) hU).c (by omega) hU).m hU (by omega) (by omega) (by omega)).m hU1 (by omega) (by omega) (by omega))⟩, ((((df.c (by omega)).c (by omega)).m (by omega) (by omega) (by omega)).m (by omega) (by omega) (by omega))⟩
      · unfold I3
        rw [nT_up (by omega), nT_up (by omega), hw, nU_up (by omega), nU_up (by omega), m_up_eq]
        refine ⟨fun t ht i h1 h2 => ?_, ?_, ?_, ⟨rfl, by omega⟩, ?_⟩
        · rw [m_up_o (by omega), m_up_o (by omega), m_up_o (by omega), m_up_o (by omega)]
          exact i3.1 t ht i h1 h2
        · rw [m_up_o (by omega), m_up_o (by omega)]; exact i3.2.1
        · rw [m_up_o (by omega), m_up_o (by omega)]; exact i3.2.2.1
        · rw [m_up_o (by omega), m_up_o (by omega)]; exact i3.2.2.2.2
      · obtain ⟨a1, a2, a3, a4, a5⟩ := e1
        refine ⟨?_, ?_, ?_, ?_, ?_⟩
        · rw [m_up_o (by omega), m_up_o (by omega), m_up_o (by omega), m_up_o (by omega), m_up_o (by omega), m_up_o (by omega)]; exact a1
        · rw [m_up_o (by omega), m_up_o (by omega), m_up_o (by omega), m_up_o (by omega), m_up_o (by omega), m_up_o (by omega)]; exact a2
        · rw [m_up_o (by omega), m_up_o (by omega), m_up_eq, m_up_eq]
        · rw [m_up_o (by omega), m_up_o (by omega), m_up_o (by omega), m_up_o (by omega), m_up_o (by omega), m_up_o (by omega)]; exact a4
        · rw [m_up_o (by omega), m_up_o (by omega), m_up_o (by omega), m_up_o (by omega), m_up_o (by omega), m_up_o (by omega)]; exact a5
      · intro i hi
        rw [hw] at hi
        rw [m_up_o (a := 64) (a' := 3) (by omega), m_up_o (a := 79) (a' := 3) (by omega), m_up_o (a := 0) (a' := 3) (by omega), m_up_o (a := 64) (a' := 79) (by omega)]
        by_cases hi2 : i = nW p
        · subst hi2; rw [m_up_eq, m_up_eq]
        · rw [m_up_o (by omega), m_up_o (by omega)]; exact e5 i (by omega)
end SD
