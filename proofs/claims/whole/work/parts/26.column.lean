/-! ===== column ===== -/
def coP (t C : Nat) (k u : Int32) (g : mI) : mI := m_up (m_up (bgP (6 * t + C) k u g) 65 t (nI (C + 1))) 64 16 0
def coC (t C : Nat) (k u : Int32) (g : mI) : mI := m_up (m_up (m_up (m_up g 0 12 0) (20 + 10 * t + C) 0 k) (20 + 10 * t + C) 1 u) (16 + 10 * t) 3 (nI (C + 1))
section SL
variable {p g : mI} {b : Bool}
theorem coP_o {t C a j : Nat} {k u : Int32} (h1 : a ≠ 64 ∨ j ≠ 16) (h2 : a ≠ 65 ∨ j ≠ t) (h3 : a < 68 ∨ 73 < a ∨ j ≠ 6 * t + C) : coP t C k u g a j = g a j := by
  unfold coP
  rw [m_up_o (by omega), m_up_o (by omega), bgP_o h3]
theorem St.column (h : St p g b) {t : Nat} (ht : t < nT p) (hR : nR p t = 0) (hC6 : nC p t < 6) (k u : Int32) (hk : k = 1 ∨ k = 2 ∨ k = 3 ∨ k = 4) (hu : k = 1 → ∃ w, w < nT p ∧ u = nI w) : St (coP t (nC p t) k u p) (coP t (nC p t) k u (coC t (nC p t) k u g)) b := by
  obtain ⟨hM, ⟨i1, i2, i3, i4, i5, i6⟩, ⟨e1, e2, e3, e4, e5, e6, e7, e8⟩, df⟩ := id h
  have hC := h.C6
  have hU := h.U.2
  have hT4 := h.T.2
  have hC1 := (h.C ht).2.1
  obtain ⟨C, hCe⟩ : ∃ C, C = nC p t := ⟨_, rfl⟩
  rw [← hCe] at hC6 hC1 ⊢
  have v16 : coP t C k u p 64 16 = 0 := by unfold coP; rw [m_up_eq]
  have v65 : coP t C k u p 65 t = nI (C + 1) := by unfold coP; rw [m_up_o (by omega), m_up_eq]
  have vB : ∀ a, 68 ≤ a → a ≤ 73 → coP t C k u p a (6 * t + C) = bgP (6 * t + C) k u p a (6 * t + C) := fun a h1 h2 => by
    unfold coP
    rw [m_up_o (by omega), m_up_o (by omega)]
  obtain ⟨b0, b1, b2, b3, b4, b5⟩ := bgP_v (K := 6 * t + C) (x := k) (u := u) (g := p)
  have oT : nT (coP t C k u p) = nT p := by unfold nT; rw [coP_o (by omega) (by omega) (by omega)]
  have oC : ∀ t', t' ≠ t → nC (coP t C k u p) t' = nC p t' := fun t' z => by unfold nC; rw [coP_o (by omega) (by omega) (by omega)]
  have nCt : nC (coP t C k u p) t = C + 1 := by unfold nC; rw [v65]; exact nI_clamp (by omega)
  have oR : ∀ t', nR (coP t C k u p) t' = nR p t' := fun t' => by unfold nR; rw [coP_o (by omega) (by omega) (by omega)]
  have oO : ∀ t', nO (coP t C k u p) t' = nO p t' := fun t' => by unfold nO; rw [coP_o (by omega) (by omega) (by omega)]
  have oW : nW (coP t C k u p) = nW p := by unfold nW; rw [coP_o (by omega) (by omega) (by omega)]
  have oU : nU (coP t C k u p) = nU p := by unfold nU; rw [coP_o (by omega) (by omega) (by omega)]
  have gm : ∀ a j, a < 64 → coP t C k u (coC t C k u g) a j = coC t C k u g a j := fun a j h1 => coP_o (by omega) (by omega) (by omega)
  have gc : ∀ a j, a < 64 → (a ≠ 0 ∨ j ≠ 12) → (a ≠ 20 + 10 * t + C ∨ 2 ≤ j) → (a ≠ 16 + 10 * t ∨ j ≠ 3) → coP t C k u (coC t C k u g) a j = g a j := fun a j h1 h2 h3 h4 => by
    rw [gm a j h1]
    unfold coC
    rw [m_up_o (by omega), m_up_o (by omega), m_up_o (by omega), m_up_o (by omega)]
  have kc : ∀ t', t' < nT p → ∀ c, c < nC p t' → 6 * t' + c ≠ 6 * t + C := fun t' h1 c h2 => by
    have := hC t' h1
    by_cases z : t' = t
    · subst z; omega
    · omega
  refine ⟨?_, ⟨?_, ?_, ?_, ?_, ?_, I6.z v16⟩, ⟨?_, ?_, ?_, ?_, ?_, ?_, E7.z v16, ?_⟩, ?_⟩
  · have hM2 : Mm p (coC t C k u g) := (((hM.c (by omega)).c (by omega)).c (by omega)).c (by omega)
    unfold coP bgP
    exact hM2.m.m.m.m.m.m.m.m
  · unfold I1
    rw [oT, coP_o (a := 64) (j := 1) (by omega) (by omega) (by omega)]
    refine ⟨i1.1, fun t' h1 => ?_, fun t' h1 => ?_, fun t' h1 => ?_⟩
    · by_cases z : t' = t
      · subst z; rw [nCt, v65]; exact ⟨rfl, by omega, by omega⟩
      · rw [oC t' z, coP_o (by omega) (by omega) (by omega)]; exact i1.2.1 t' h1
    · rw [oR, coP_o (by omega) (by omega) (by omega)]; exact i1.2.2.1 t' h1
    · have hq := i1.2.2.2 t' h1
      have hz := kc t' h1 (nO p t') hq.2.1
      rw [oO, coP_o (by omega) (by omega) (by omega), coP_o (by omega) (by omega) (by omega)]
      refine ⟨hq.1, ?_, hq.2.2⟩
      by_cases z : t' = t
      · subst z; rw [nCt]; omega
      · rw [oC t' z]; exact hq.2.1
  · intro t' h1 c hc
    rw [oT] at h1 ⊢
    by_cases z : t' = t ∧ c = C
    · obtain ⟨rfl, rfl⟩ := z
      rw [vB 68 (by omega) (by omega), vB 69 (by omega) (by omega), vB 70 (by omega) (by omega), vB 71 (by omega) (by omega), b0, b1, b2, b3]
      refine ⟨⟨fun q => ?_, fun q => by omega⟩, ?_, hu, by simp [f_X7_fits]⟩
      · rcases hk with rfl | rfl | rfl | rfl <;> exact absurd q (by decide)
      · rcases hk with rfl | rfl | rfl | rfl
        · exact Or.inr (Or.inl rfl)
        · exact Or.inr (Or.inr (Or.inl rfl))
        · exact Or.inr (Or.inr (Or.inr (Or.inl rfl)))
        · exact Or.inr (Or.inr (Or.inr (Or.inr rfl)))
    · have hc2 : c < nC p t' := by
        by_cases y : t' = t
        · subst y; rw [nCt] at hc; omega
        · rw [oC t' y] at hc; exact hc
      have hz := kc t' h1 c hc2
      rw [coP_o (by omega) (by omega) (by omega), coP_o (by omega) (by omega) (by omega), coP_o (by omega) (by omega) (by omega), coP_o (by omega) (by omega) (by omega)]
      exact i2 t' h1 c hc2
  · unfold I3
    rw [oT, v16, oW, oU, coP_o (a := 64) (j := 13) (by omega) (by omega) (by omega), coP_o (a := 64) (j := 19) (by omega) (by omega) (by omega), coP_o (a := 64) (j := 20) (by omega) (by omega) (by omega)]
    refine ⟨fun t' h1 i h2 h3 => ?_, i3.2.1, Or.inl rfl, i3.2.2.2.1, i3.2.2.2.2⟩
    rw [coP_o (by omega) (by omega) (by omega), coP_o (by omega) (by omega) (by omega)]
    exact i3.1 t' h1 i h2 h3
  · unfold I4
    rw [oT]
    refine ⟨fun t' h1 r hr c hc => ?_, fun t' h1 r hr r' hr' => ?_⟩
    · rw [oR] at hr
      have z : t' ≠ t := fun z => by rw [z, hR] at hr; omega
      rw [oC t' z] at hc
      have hz := kc t' h1 c hc
      rw [coP_o (by omega) (by omega) (by omega), coP_o (by omega) (by omega) (by omega)]
      exact i4.1 t' h1 r hr c hc
    · rw [oR] at hr hr'
      rw [coP_o (by omega) (by omega) (by omega), coP_o (by omega) (by omega) (by omega)]
      exact i4.2 t' h1 r hr r' hr'
  · intro j hj
    rw [oU] at hj
    refine (i5 j hj).mono (by omega) (fun t' h1 => ?_) (fun t' h1 c hc => ?_) (fun a h1 h2 => coP_o (by omega) (by omega) (by omega))
    · by_cases z : t' = t
      · subst z; rw [nCt]; omega
      · rw [oC t' z]; exact Nat.le_refl _
    · have hz := kc t' h1 c hc
      exact ⟨coP_o (by omega) (by omega) (by omega), coP_o (by omega) (by omega) (by omega)⟩
  · obtain ⟨a1, a2, a3, a4, a5⟩ := e1
    have g12 : coP t C k u (coC t C k u g) 0 12 = 0 := by rw [gm _ _ (by omega)]; unfold coC; rw [m_up_o (by omega), m_up_o (by omega), m_up_o (by omega), m_up_eq]
    refine ⟨?_, ?_, ?_, ?_, by rw [g12, v16]⟩
    · rw [gc _ _ (by omega) (by omega) (by omega) (by omega), coP_o (by omega) (by omega) (by omega)]; exact a1
    · rw [gc _ _ (by omega) (by omega) (by omega) (by omega), coP_o (by omega) (by omega) (by omega)]; exact a2
    · rw [gc _ _ (by omega) (by omega) (by omega) (by omega), coP_o (by omega) (by omega) (by omega)]; exact a3
    · rw [gc _ _ (by omega) (by omega) (by omega) (by omega), coP_o (by omega) (by omega) (by omega)]; exact a4
  · intro t' h1
    rw [oT] at h1
    rw [gc _ 4 (by omega) (by omega) (by omega) (by omega), gc _ 5 (by omega) (by omega) (by omega) (by omega), coP_o (a := 66) (by omega) (by omega) (by omega), coP_o (a := 67) (by omega) (by omega) (by omega)]
    refine ⟨?_, (e2 t' h1).2.1, (e2 t' h1).2.2⟩
    by_cases z : t' = t
    · subst z
      rw [v65, gm _ _ (by omega)]; unfold coC; rw [m_up_eq]
    · rw [gc _ 3 (by omega) (by omega) (by omega) (by omega), coP_o (by omega) (by omega) (by omega)]
      exact (e2 t' h1).1
  · intro t' h1 c hc j hj
    rw [oT] at h1
    by_cases z : t' = t ∧ c = C
    · obtain ⟨rfl, rfl⟩ := z
      rw [vB (68 + j) (by omega) (by omega)]
      obtain ⟨r2, r3, r4, r5⟩ := (df t' (by omega)).2 c (by omega) (Or.inr (by omega))
      rcases (show j = 0 ∨ j = 1 ∨ j = 2 ∨ j = 3 ∨ j = 4 ∨ j = 5 by omega) with rfl | rfl | rfl | rfl | rfl | rfl
      · rw [gm _ _ (by omega)]; unfold coC; rw [m_up_o (by omega), m_up_o (by omega), m_up_eq]; exact b0.symm
      · rw [gm _ _ (by omega)]; unfold coC; rw [m_up_o (by omega), m_up_eq]; exact b1.symm
      · rw [gc _ _ (by omega) (by omega) (by omega) (by omega)]; exact r2.trans b2.symm
      · rw [gc _ _ (by omega) (by omega) (by omega) (by omega)]; exact r3.trans b3.symm
      · rw [gc _ _ (by omega) (by omega) (by omega) (by omega)]; exact r4.trans b4.symm
      · rw [gc _ _ (by omega) (by omega) (by omega) (by omega)]; exact r5.trans b5.symm
    · have hc2 : c < nC p t' := by
        by_cases y : t' = t
        · subst y; rw [nCt] at hc; omega
        · rw [oC t' y] at hc; exact hc
      have hz := kc t' h1 c hc2
      have hc6 := hC t' h1
      rw [gc _ _ (by omega) (by omega) (by omega) (by omega), coP_o (by omega) (by omega) (by omega)]
      exact e3 t' h1 c hc2 j hj
  · intro t' h1 i h2 h3
    rw [oT] at h1
    rw [gc _ _ (by omega) (by omega) (by omega) (by omega), gc _ _ (by omega) (by omega) (by omega) (by omega), coP_o (by omega) (by omega) (by omega), coP_o (by omega) (by omega) (by omega)]
    exact e4 t' h1 i h2 h3
  · intro i hi
    rw [oW] at hi
    rw [gc _ _ (by omega) (by omega) (by omega) (by omega), coP_o (by omega) (by omega) (by omega)]
    exact e5 i hi
  · intro t' h1 r hr c hc
    rw [oT] at h1
    rw [oR] at hr
    have z : t' ≠ t := fun z => by rw [z, hR] at hr; omega
    rw [oC t' z] at hc
    rw [gc _ _ (by omega) (by omega) (by omega) (by omega), coP_o (by omega) (by omega) (by omega)]
    exact e6 t' h1 r hr c hc
  · intro j hj
    rw [oU] at hj
    have q : ∀ i, coP t C k u (coC t C k u g) (56 + j) i = g (56 + j) i := fun i => gc _ _ (by omega) (by omega) (by omega) (by omega)
    have q2 : ∀ a, 80 ≤ a → coP t C k u p a j = p a j := fun a ha => coP_o (by omega) (by omega) (by omega)
    rw [q, q, q, q, q, q, q, q2 80 (by omega), q2 81 (by omega), q2 82 (by omega), q2 83 (by omega), q2 84 (by omega), q2 85 (by omega), q2 86 (by omega)]
    exact e8 j hj
  · intro t' h1
    rw [oT]
    refine ⟨fun hn2 => ⟨?_, fun i hi => ?_⟩, fun c hc hn2 => ?_⟩
    · rw [gc _ _ (by omega) (by omega) (by omega) (by omega), gc _ _ (by omega) (by omega) (by omega) (by omega), gc _ _ (by omega) (by omega) (by omega) (by omega), gc _ _ (by omega) (by omega) (by omega) (by omega), gc _ _ (by omega) (by omega) (by omega) (by omega)]
      exact ((df t' h1).1 (by omega)).1
    · rw [gc _ _ (by omega) (by omega) (by omega) (by omega), gc _ _ (by omega) (by omega) (by omega) (by omega)]
      exact ((df t' h1).1 (by omega)).2 i hi
    · rw [gc _ _ (by omega) (by omega) (by omega) (by omega), gc _ _ (by omega) (by omega) (by omega) (by omega), gc _ _ (by omega) (by omega) (by omega) (by omega), gc _ _ (by omega) (by omega) (by omega) (by omega)]
      refine (df t' h1).2 c hc ?_
      rcases hn2 with q | q
      · exact Or.inl q
      · by_cases z : t' = t
        · subst z; rw [nCt] at q; exact Or.inr (by omega)
        · rw [oC t' z] at q; exact Or.inr q
theorem F_addColumn (h : St p g b) {t : Nat} (ht : t < nT p) (hC6 : nC p t < 6) (k u : Int32) : f_X4_addColumn (m_up g 0 12 0) b (16 + 10 * t) k u = some (nI (nC p t), coC t (nC p t) k u g) := by
  have hT4 := h.T.2
  have h4 : t < 4 := by omega
  have hC := h.C ht
  have w1 : m_up g 0 12 0 (16 + 10 * t) 3 = nI (nC p t) := by rw [m_up_o (by omega), (h.e2 t ht).1, hC.1]
  have q : m_in (nI (nC p t)) 6 := m_inN hC6 (by decide)
  have d : (nI (nC p t)).toNatClampNeg = nC p t := nI_clamp (by omega)
  unfold f_X4_addColumn coC
  rw [if_pos (s0_tab t h4), w1, if_pos (show nI (nC p t) < (6 : Int32) from nI_lt (b := 6) hC6 (by decide)), fr_t0 b t h4]
  simp only [Option.bind_some, ln_cols t h4, if_pos q, d, fr_col b t h4 (nC p t) hC6, if_pos (s0_col t h4 (nC p t) hC6), m_let]
  rw [m_up_o (a := 20 + 10 * t + nC p t) (a' := 16 + 10 * t) (by omega), w1, if_pos q, d, fr_col b t h4 (nC p t) hC6]
  simp only [Option.bind_some, if_pos (s0_col t h4 (nC p t) hC6)]
  rw [m_up_eq, m_up_o (a := 20 + 10 * t + nC p t) (a' := 16 + 10 * t) (by omega), m_up_o (a := 20 + 10 * t + nC p t) (a' := 16 + 10 * t) (by omega), w1, nI_1, nI_pred]
theorem kind4 {k : Int32} (h : f_X7_in k 1 4 = true) : k = 1 ∨ k = 2 ∨ k = 3 ∨ k = 4 := by
  obtain ⟨q1, q2⟩ := (in_iff k 1 4).mp h
  obtain ⟨j, hj, rfl⟩ := nn_of3 (n := 4) (by decide) (Int32.le_trans (by decide) q1) q2
  have hj1 : 1 ≤ j := (nI_leI (a := 1) (by decide) (by omega)).mp q1
  rcases (show j = 1 ∨ j = 2 ∨ j = 3 ∨ j = 4 by omega) with rfl | rfl | rfl | rfl
  · exact Or.inl rfl
  · exact Or.inr (Or.inl rfl)
  · exact Or.inr (Or.inr (Or.inl rfl))
  · exact Or.inr (Or.inr (Or.inr rfl))
theorem isTab_c {a j : Nat} {x t : Int32} (ha : a < 64) : f_X7_isTable (m_up g a j x) t = f_X7_isTable g t := by
  unfold f_X7_isTable
  rw [m_up_o (by omega)]
/-- the two programs' common end of column, once its arguments are good -/
theorem s_column_end (h : St p g b) {n : Nat} (hn : n < nT p) (k u : Int32) (hk : k = 1 ∨ k = 2 ∨ k = 3 ∨ k = 4) (hu : k = 1 → ∃ w, w < nT p ∧ u = nI w) : ∃ v g1 g2 p2, (if m_S0[16 + 10 * n]? = some (.inl 4) then if g (16 + 10 * n) 4 ≤ 0 then if g (16 + 10 * n) 3 < 6 then m_let (m_up g 0 12 0) fun g11 => (f_X4_addColumn g11 b (16 + 10 * n) k u).bind fun v13 => some (v13.1, v13.2) else some (-4, g) else some (-3, g) else none) = some (v, g1) ∧ (if m_in (nI n) 4 then if g1 66 (nI n).toNatClampNeg ≤ 0 then if g1 65 (nI n).toNatClampNeg = 6 then some (-4, g1) else (f_X7_begin g1 (6 * nI n + g1 65 (nI n).toNatClampNeg) k u).bind fun v8 => m_let (m_up v8 65 (nI n).toNatClampNeg (v8 65 (nI n).toNatClampNeg + 1)) fun g10 => m_let (m_up g10 64 16 0) fun g12 => some (g12 65 (nI n).toNatClampNeg - 1, g12) else some (-3, g1) else none) = some (v, g2) ∧ St p2 g2 b ∧ (∀ t, f_X7_isTable g1 t = f_X7_isTable g t) := by
  have hT4 := h.T.2
  have h4 : n < 4 := by omega
  have hC := h.C hn
  have hR := h.R hn
  have d : (nI n).toNatClampNeg = n := nI_clamp (by omega)
  rw [if_pos (s0_tab n h4), (h.e2 n hn).1, (h.e2 n hn).2.1, hC.1, hR.1]
  simp only [if_pos (m_inN (n := n) (N := 4) h4 (by decide)), d]
  have m66 : g 66 n = nI (nR p n) := by rw [h.m 66 n (mp_i _ (by decide)), hR.1]
  have m65 : g 65 n = nI (nC p n) := by rw [h.m 65 n (mp_i _ (by decide)), hC.1]
  by_cases r0 : nR p n = 0
  · rw [r0, if_pos (show nI 0 ≤ (0 : Int32) by decide)]
    by_cases c6 : nC p n = 6
    · rw [c6, if_neg (show ¬ nI 6 < (6 : Int32) by decide)]
      refine ⟨-4, g, g, p, rfl, ?_, h, fun _ => rfl⟩
      rw [m66, r0, if_pos (show nI 0 ≤ (0 : Int32) by decide), m65, c6, if_pos (show nI 6 = (6 : Int32) from rfl)]
    · have hc6 : nC p n < 6 := by omega
      rw [if_pos (show nI (nC p n) < (6 : Int32) from nI_lt (b := 6) hc6 (by decide))]
      simp only [m_let, F_addColumn h hn hc6 k u, Option.bind_some]
      have q66 : coC n (nC p n) k u g 66 n = nI 0 := by
        unfold coC; rw [m_up_o (by omega), m_up_o (by omega), m_up_o (by omega), m_up_o (by omega), m66, r0]
      have q65 : coC n (nC p n) k u g 65 n = nI (nC p n) := by
        unfold coC; rw [m_up_o (by omega), m_up_o (by omega), m_up_o (by omega), m_up_o (by omega), m65]
      refine ⟨nI (nC p n), coC n (nC p n) k u g, _, _, rfl, ?_, h.column hn r0 hc6 k u hk hu, fun t => ?_⟩
      · rw [q66, if_pos (show nI 0 ≤ (0 : Int32) by decide), q65, if_neg (show ¬ nI (nC p n) = (6 : Int32) from fun z => c6 (nI_inj (b := 6) (by omega) (by decide) z)), nI_6tc, F_begin (by omega)]
        simp only [Option.bind_some]
        rw [bgP_o (by omega), q65, nI_1, m_up_o (a := 64) (by omega), m_up_eq, nI_pred]
        rfl
      · unfold coC
        rw [isTab_c (by omega), isTab_c (by omega), isTab_c (by omega), isTab_c (by omega)]
  · have hz : ¬ nI (nR p n) ≤ (0 : Int32) := nI_nle (by omega) (by omega)
    rw [if_neg hz]
    refine ⟨-3, g, g, p, rfl, ?_, h, fun _ => rfl⟩
    rw [m66, if_neg hz]
theorem s_column (h : St p g b) (t k u : Int32) : ∃ v g1 g2 p2, f_X6_column g b t k u = some (v, g1) ∧ f_X7_column g1 t k u = some (v, g2) ∧ St p2 g2 b := by
  unfold f_X6_column
  rw [F_tableAt h, F_tableAt h]
  cases et : tOf p t with
  | none =>
    refine ⟨-1, g, g, p, rfl, ?_, h⟩
    unfold f_X7_column
    rw [F7_isTable h, et]; rfl
  | some n =>
    obtain ⟨h1, h4, rfl⟩ := tOf_some h et
    have T1 : f_X7_isTable g (nI n) = true := by rw [F7_isTable h, et]; rfl
    simp only [Option.map_some, Option.bind_some, m_oc]
    by_cases k1 : k = 1
    · subst k1
      rw [if_pos rfl]
      cases eu : tOf p u with
      | none =>
        refine ⟨-1, g, g, p, rfl, ?_, h⟩
        unfold f_X7_column
        rw [T1, F7_isTable h, eu]; rfl
      | some w =>
        obtain ⟨w1, w4, rfl⟩ := tOf_some h eu
        have U1 : f_X7_isTable g (nI w) = true := by rw [F7_isTable h, eu]; rfl
        simp only [Option.map_some]
        rw [if_neg (show ¬ (1 : Int32) < 1 by decide), if_neg (show ¬ (4 : Int32) < 1 by decide), if_pos trivial]
        obtain ⟨v, g1, g2, p2, a1, a2, a3, a4⟩ := s_column_end h h1 1 (nI w) (Or.inl rfl) (fun _ => ⟨w, w1, rfl⟩)
        refine ⟨v, g1, g2, p2, a1, ?_, a3⟩
        unfold f_X7_column
        rw [a4, a4, T1, U1, show f_X7_in 1 1 4 = true by decide]
        simp only [cond_true, if_true]
        exact a2
    · rw [if_neg k1]
      cases e4 : f_X7_in k 1 4 with
      | false =>
        have hz := in_no e4
        refine ⟨-2, g, g, p, ?_, ?_, h⟩
        · by_cases z : k < 1
          · rw [if_pos z]
          · rw [if_neg z, if_pos (Int32.not_le.mp fun q => hz ⟨Int32.not_lt.mp z, q⟩)]
        · unfold f_X7_column
          rw [T1, e4, if_neg k1]; rfl
      | true =>
        have hz := (in_iff k 1 4).mp e4
        rw [if_neg (Int32.not_lt.mpr hz.1), if_neg (Int32.not_lt.mpr hz.2), if_neg k1]
        by_cases u0 : u = 0
        · rw [if_pos u0]
          obtain ⟨v, g1, g2, p2, a1, a2, a3, a4⟩ := s_column_end h h1 k u (kind4 e4) (fun z => absurd z k1)
          refine ⟨v, g1, g2, p2, a1, ?_, a3⟩
          unfold f_X7_column
          rw [a4, T1, e4]
          simp only [cond_true, if_neg k1, if_pos u0]
          exact a2
        · rw [if_neg u0]
          refine ⟨-2, g, g, p, rfl, ?_, h⟩
          unfold f_X7_column
          rw [T1, e4]
          simp only [cond_true, if_neg k1, if_neg u0]
end SL
