/-! ===== mask, dial (written by wip/whole/mkpure3.py) ===== -/
section SF
variable {p g : mI} {b : Bool}
/-- the reference's look at a column doesn't see the class's cells -/
theorem isCol_c {a k : Nat} {x t c : Int32} (ha : a < 64) : f_X7_isColumn (m_up g a k x) t c = f_X7_isColumn g t c := by
  unfold f_X7_isColumn f_X7_isTable
  rw [m_up_o (by omega), m_up_o (by omega)]
theorem fits_eq (k how n : Int32) : f_X7_fits k how n = (bif f_X6_isMaskOf k how then f_X6_isNumberOf how n else false) := by
  have hin : ∀ (lo hi : Int32), f_X7_in n lo hi = (if n < lo then false else if hi < n then false else true) := fun lo hi => rfl
  unfold f_X7_fits f_X6_isMaskOf f_X6_isNumberOf
  by_cases h0 : how = 0
  · subst h0; simp
  by_cases h1 : how = 1
  · subst h1; simp; by_cases q : n = 0 <;> by_cases q1 : k = 0 <;> by_cases q2 : k = 4 <;> simp [q, q1, q2]
  by_cases h2 : how = 2
  · subst h2; simp; by_cases q : n = 0 <;> by_cases q1 : k = 2 <;> simp [q, q1]
  by_cases h3 : how = 3
  · subst h3; simp [hin]; by_cases q1 : k = 2 <;> by_cases q2 : k = 3 <;> simp [q1, q2]
  by_cases h4 : how = 4
  · subst h4; simp [hin]; by_cases q1 : k = 4 <;> simp [q1]
  by_cases h5 : how = 5
  · subst h5; simp; by_cases q : n = 0 <;> by_cases q1 : k = 0 <;> simp [q, q1]
  simp [h0, h1, h2, h3, h4, h5]
theorem s_mask (h : St p g b) (t c how n : Int32) : ∃ v g1 g2 p2, f_X6_mask g b t c how n = some (v, g1) ∧ f_X7_mask g1 t c how n = some (v, g2) ∧ St p2 g2 b := by
  obtain ⟨hM, ⟨i1, i2, i3, i4, i5, i6⟩, ⟨e1, e2, e3, e4, e5, e6, e7, e8⟩, df⟩ := id h
  have hT := h.T.2
  have hC := h.C6
  have hU := h.U.2
  have hpM := pM_lt b
  unfold f_X6_mask
  cases e : cOf p t c with
  | none =>
    obtain ⟨k1, k2⟩ := col_no h e
    rw [k1]
    refine ⟨-1, g, g, p, rfl, ?_, h⟩
    unfold f_X7_mask; rw [k2]; rfl
  | some q =>
    obtain ⟨k1, k2, k3⟩ := col_at h e
    obtain ⟨h1, h2, h3, h4, rfl, rfl⟩ := cOf_some h e
    have hC6 := h.C6 q.1 h1
    have hm : ∀ a k, mp a → g a k = p a k := fun a k => h.m a k
    have s4 := s0_tab q.1 h2
    have s0 := s0_col q.1 h2 q.2 h4
    have c0 : g (20 + 10 * q.1 + q.2) 0 = p 68 (6 * q.1 + q.2) := h.col h1 h3 (j := 0) (by omega)
    have n1 : m_in (nI q.1) 4 := m_inN h2 (by decide)
    have n2 : m_in (nI (6 * q.1 + q.2)) 24 := m_inN (by omega) (by decide)
    have d1 : (nI q.1).toNatClampNeg = q.1 := nI_clamp (by omega)
    have d2 : (nI (6 * q.1 + q.2)).toNatClampNeg = 6 * q.1 + q.2 := nI_clamp (by omega)
    have hk := i2 q.1 h1 q.2 h3
    rw [k2]
    simp only [Option.bind_some, m_oc, s0, if_true, c0]
    cases hf : f_X7_fits (p 68 (6 * q.1 + q.2)) how n with
    | false =>
      refine ⟨-2, g, g, p, ?_, ?_, h⟩
      · rw [fits_eq] at hf
        cases z : f_X6_isMaskOf (p 68 (6 * q.1 + q.2)) how with
        | false => rfl
        | true =>
          rw [z] at hf
          have hf : f_X6_isNumberOf how n = false := hf
          rw [hf]; rfl
      · unfold f_X7_mask
        rw [k3]
        simp only [Option.bind_some, cond_true, nI_6tc, if_pos n2, d2, hm 68 _ (mp_i _ (by decide)), hf, cond_false]
    | true =>
      have hst : St (m_up (m_up p 70 (6 * q.1 + q.2) how) 71 (6 * q.1 + q.2) n) (m_up (m_up (m_up (m_up g (20 + 10 * q.1 + q.2) 2 how) (20 + 10 * q.1 + q.2) 3 n) 70 (6 * q.1 + q.2) how) 71 (6 * q.1 + q.2) n) b := by
        have hT1 : nT (m_up p 70 (6 * q.1 + q.2) how) ≤ 4 := by rw [nT_up (by omega)]; exact hT
        have hC1 : ∀ t, t < nT (m_up p 70 (6 * q.1 + q.2) how) → nC (m_up p 70 (6 * q.1 + q.2) how) t ≤ 6 := by rw [nT_up (by omega)]; intro t ht; rw [nC_up (by omega)]; exact hC t ht
        have hU1 : nU (m_up p 70 (6 * q.1 + q.2) how) ≤ 8 := by rw [nU_up (by omega)]; exact hU
        refine ⟨((((hM.c (by omega)).c (by omega)).m).m), ⟨((i1.m (by omega) (by omega) (by omega) (by omega) (by omega)).m (by omega) (by omega) (by omega) (by omega) (by omega)), ?_, ((i3.m (by omega) (by omega)).m (by omega) (by omega)), ((i4.m (by omega) (by omega)).m (by omega) (by omega)), ((i5.m (by omega) (by omega) (by omega)).m (by omega) (by omega) (by omega)), ((i6.m (by omega) (by omega)).m (by omega) (by omega))⟩, ⟨((((e1.c (by omega)).c (by omega)).m (by omega) (by omega)).m (by omega) (by omega)), ((((e2.c hT (by omega)).c hT (by omega)).m hT (by omega) (by omega) (by omega)).m hT1 (by omega) (by omega) (by omega)), ?_, ((((e4.c hT (by omega)).c hT (by omega)).m hT (by omega) (by omega) (by omega)).m hT1 (by omega) (by omega) (by omega)), ((((e5.c (by omega)).c (by omega)).m (by omega) (by omega) (by omega)).m (by omega) (by omega) (by omega)), ((((e6.c (by omega)).c (by omega)).m (by omega) (by omega) (by omega)).m (by omega) (by omega) (by omega)), ((((e7.c (by omega)).c (by omega)).m (by omega) (by omega) (by omega)).m (by omega) (by omega) (by omega)), ((((e8.c (by omega) hU).c (by omega) hU).m hU (by omega) (by omega) (by omega)).m hU1 (by omega) (by omega) (by omega))⟩, ((((df.c (Or.inr (Or.inr ⟨q.1, h1, h2, Or.inr (Or.inr (Or.inr ⟨q.2, h3, h4, rfl⟩))⟩))).c (Or.inr (Or.inr ⟨q.1, h1, h2, Or.inr (Or.inr (Or.inr ⟨q.2, h3, h4, rfl⟩))⟩))).m (by omega) (by omega) (by omega)).m (by omega) (by omega) (by omega))⟩
        · intro t ht c hc
          rw [nT_up (by omega), nT_up (by omega)] at ht
          rw [nC_up (by omega), nC_up (by omega)] at hc
          rw [nT_up (by omega), nT_up (by omega), m_up_o (a' := 68) (by omega), m_up_o (a' := 68) (by omega), m_up_o (a' := 69) (by omega), m_up_o (a' := 69) (by omega), m_up_o (a := 71) (a' := 70) (by omega)]
          refine ⟨(i2 t ht c hc).1, (i2 t ht c hc).2.1, (i2 t ht c hc).2.2.1, ?_⟩
          have hct := hC t ht
          by_cases z : t = q.1 ∧ c = q.2
          · obtain ⟨rfl, rfl⟩ := z
            rw [m_up_eq, m_up_eq]; exact hf
          · rw [m_up_o (a := 70) (by omega), m_up_o (a := 71) (by omega), m_up_o (a := 70) (by omega)]
            exact (i2 t ht c hc).2.2.2
        · have z1 := e3.pair hT hC (x := how) h1 h3 (j := 2) (by omega)
          have z2 := z1.pair (by rw [nT_up (by omega)]; exact hT) (by rw [nT_up (by omega)]; intro t ht; rw [nC_up (by omega)]; exact hC t ht) (x := n) (t := q.1) (c := q.2) (by rw [nT_up (by omega)]; exact h1) (by rw [nC_up (by omega)]; exact h3) (j := 3) (by omega)
          rw [m_up_comm (a := 68 + 2) (a' := 20 + 10 * q.1 + q.2) (by omega)] at z2
          exact z2
      have hfm : f_X6_isMaskOf (p 68 (6 * q.1 + q.2)) how = true ∧ f_X6_isNumberOf how n = true := by
        rw [fits_eq] at hf
        cases z : f_X6_isMaskOf (p 68 (6 * q.1 + q.2)) how with
        | false => rw [z] at hf; cases hf
        | true => rw [z] at hf; exact ⟨rfl, hf⟩
      refine ⟨0, (m_up (m_up g (20 + 10 * q.1 + q.2) 2 how) (20 + 10 * q.1 + q.2) 3 n), _, _, ?_, ?_, hst⟩
      · rw [hfm.1, hfm.2]; rfl
      · unfold f_X7_mask
        rw [isCol_c (by omega), isCol_c (by omega), k3]
        have g68 : (m_up (m_up g (20 + 10 * q.1 + q.2) 2 how) (20 + 10 * q.1 + q.2) 3 n) 68 (6 * q.1 + q.2) = p 68 (6 * q.1 + q.2) := by rw [m_up_o (by omega), m_up_o (by omega)]; exact hm _ _ (mp_i _ (by decide))
        simp only [Option.bind_some, cond_true, nI_6tc, if_pos n2, d2, g68, hf]
        rfl
theorem St.name (h : St p g b) {q : Nat × Nat} (h1 : q.1 < nT p) (h2 : q.1 < 4) (h3 : q.2 < nC p q.1) (h4 : q.2 < 6) (x y : Int32) : St (m_up (m_up p 72 (6 * q.1 + q.2) x) 73 (6 * q.1 + q.2) y) (m_up (m_up (m_up (m_up g (20 + 10 * q.1 + q.2) 4 x) (20 + 10 * q.1 + q.2) 5 y) 72 (6 * q.1 + q.2) x) 73 (6 * q.1 + q.2) y) b := by
  obtain ⟨hM, ⟨i1, i2, i3, i4, i5, i6⟩, ⟨e1, e2, e3, e4, e5, e6, e7, e8⟩, df⟩ := id h
  have hT := h.T.2
  have hC := h.C6
  have hU := h.U.2
  have hpM := pM_lt b
  have hC6 := h.C6 q.1 h1
  have hT1 : nT (m_up p 72 (6 * q.1 + q.2) x) ≤ 4 := by rw [nT_up (by omega)]; exact hT
  have hC1 : ∀ t, t < nT (m_up p 72 (6 * q.1 + q.2) x) → nC (m_up p 72 (6 * q.1 + q.2) x) t ≤ 6 := by rw [nT_up (by omega)]; intro t ht; rw [nC_up (by omega)]; exact hC t ht
  have hU1 : nU (m_up p 72 (6 * q.1 + q.2) x) ≤ 8 := by rw [nU_up (by omega)]; exact hU
  refine ⟨((((hM.c (by omega)).c (by omega)).m).m), ⟨((i1.m (by omega) (by omega) (by omega) (by omega) (by omega)).m (by omega) (by omega) (by omega) (by omega) (by omega)), ((i2.m (by omega) (by omega) (by omega)).m (by omega) (by omega) (by omega)), ((i3.m (by omega) (by omega)).m (by omega) (by omega)), ((i4.m (by omega) (by omega)).m (by omega) (by omega)), ((i5.m (by omega) (by omega) (by omega)).m (by omega) (by omega) (by omega)), ((i6.m (by omega) (by omega)).m (by omega) (by omega))⟩, ⟨((((e1.c (by omega)).c (by omega)).m (by omega) (by omega)).m (by omega) (by omega)), ((((e2.c hT (by omega)).c hT (by omega)).m hT (by omega) (by omega) (by omega)).m hT1 (by omega) (by omega) (by omega)), ?_, ((((e4.c hT (by omega)).c hT (by omega)).m hT (by omega) (by omega) (by omega)).m hT1 (by omega) (by omega) (by omega)), ((((e5.c (by omega)).c (by omega)).m (by omega) (by omega) (by omega)).m (by omega) (by omega) (by omega)), ((((e6.c (by omega)).c (by omega)).m (by omega) (by omega) (by omega)).m (by omega) (by omega) (by omega)), ((((e7.c (by omega)).c (by omega)).m (by omega) (by omega) (by omega)).m (by omega) (by omega) (by omega)), ((((e8.c (by omega) hU).c (by omega) hU).m hU (by omega) (by omega) (by omega)).m hU1 (by omega) (by omega) (by omega))⟩, ((((df.c (Or.inr (Or.inr ⟨q.1, h1, h2, Or.inr (Or.inr (Or.inr ⟨q.2, h3, h4, rfl⟩))⟩))).c (Or.inr (Or.inr ⟨q.1, h1, h2, Or.inr (Or.inr (Or.inr ⟨q.2, h3, h4, rfl⟩))⟩))).m (by omega) (by omega) (by omega)).m (by omega) (by omega) (by omega))⟩
  have z1 := e3.pair hT hC (x := x) h1 h3 (j := 4) (by omega)
  have z2 := z1.pair (by rw [nT_up (by omega)]; exact hT) (by rw [nT_up (by omega)]; intro t ht; rw [nC_up (by omega)]; exact hC t ht) (x := y) (t := q.1) (c := q.2) (by rw [nT_up (by omega)]; exact h1) (by rw [nC_up (by omega)]; exact h3) (j := 5) (by omega)
  rw [m_up_comm (a := 68 + 4) (a' := 20 + 10 * q.1 + q.2) (by omega)] at z2
  exact z2
theorem St.digit (h : St p g b) {q : Nat × Nat} (h1 : q.1 < nT p) (h2 : q.1 < 4) {i : Nat} (hi1 : 1 ≤ i) (hi4 : i ≤ 4) (x y : Int32) (hx : x = 1 ∨ x = 3 ∨ x = 7 ∨ x = 9) (hy : f_X7_in y 0 9 = true) : St (m_up (m_up p 74 (5 * q.1 + i) x) 75 (5 * q.1 + i) y) (m_up (m_up (m_up (m_up g (18 + 10 * q.1) i x) (19 + 10 * q.1) i y) 74 (5 * q.1 + i) x) 75 (5 * q.1 + i) y) b := by
  obtain ⟨hM, ⟨i1, i2, i3, i4, i5, i6⟩, ⟨e1, e2, e3, e4, e5, e6, e7, e8⟩, df⟩ := id h
  have hT := h.T.2
  have hC := h.C6
  have hU := h.U.2
  have hpM := pM_lt b
  have hT1 : nT (m_up p 74 (5 * q.1 + i) x) ≤ 4 := by rw [nT_up (by omega)]; exact hT
  have hC1 : ∀ t, t < nT (m_up p 74 (5 * q.1 + i) x) → nC (m_up p 74 (5 * q.1 + i) x) t ≤ 6 := by rw [nT_up (by omega)]; intro t ht; rw [nC_up (by omega)]; exact hC t ht
  have hU1 : nU (m_up p 74 (5 * q.1 + i) x) ≤ 8 := by rw [nU_up (by omega)]; exact hU
  refine ⟨((((hM.c (by omega)).c (by omega)).m).m), ⟨((i1.m (by omega) (by omega) (by omega) (by omega) (by omega)).m (by omega) (by omega) (by omega) (by omega) (by omega)), ((i2.m (by omega) (by omega) (by omega)).m (by omega) (by omega) (by omega)), ?_, ((i4.m (by omega) (by omega)).m (by omega) (by omega)), ((i5.m (by omega) (by omega) (by omega)).m (by omega) (by omega) (by omega)), ((i6.m (by omega) (by omega)).m (by omega) (by omega))⟩, ⟨((((e1.c (by omega)).c (by omega)).m (by omega) (by omega)).m (by omega) (by omega)), ((((e2.c hT (by omega)).c hT (by omega)).m hT (by omega) (by omega) (by omega)).m hT1 (by omega) (by omega) (by omega)), ((((e3.c hT hC (by omega)).c hT hC (by omega)).m hT hC (by omega) (by omega) (by omega)).m hT1 hC1 (by omega) (by omega) (by omega)), ?_, ((((e5.c (by omega)).c (by omega)).m (by omega) (by omega) (by omega)).m (by omega) (by omega) (by omega)), ((((e6.c (by omega)).c (by omega)).m (by omega) (by omega) (by omega)).m (by omega) (by omega) (by omega)), ((((e7.c (by omega)).c (by omega)).m (by omega) (by omega) (by omega)).m (by omega) (by omega) (by omega)), ((((e8.c (by omega) hU).c (by omega) hU).m hU (by omega) (by omega) (by omega)).m hU1 (by omega) (by omega) (by omega))⟩, ?_⟩
  · unfold I3
    rw [nT_up (by omega), nT_up (by omega), nW_up (by omega), nW_up (by omega), nU_up (by omega), nU_up (by omega)]
    refine ⟨fun t ht j h1 h2 => ?_, ?_, ?_, ?_, ?_⟩
    · rw [m_up_o (a := 75) (a' := 74) (by omega)]
      by_cases z : t = q.1 ∧ j = i
      · obtain ⟨rfl, rfl⟩ := z
        rw [m_up_eq, m_up_eq]; exact ⟨hx, hy⟩
      · rw [m_up_o (a := 74) (a' := 74) (by omega), m_up_o (a := 75) (by omega), m_up_o (a := 74) (by omega)]
        exact i3.1 t ht j h1 h2
    · rw [m_up_o (by omega), m_up_o (by omega)]; exact i3.2.1
    · rw [m_up_o (by omega), m_up_o (by omega)]; exact i3.2.2.1
    · rw [m_up_o (by omega), m_up_o (by omega)]; exact i3.2.2.2.1
    · rw [m_up_o (by omega), m_up_o (by omega)]; exact i3.2.2.2.2
  · have z1 := (e4.pair hT (x := x) h1 hi4).1
    have z2 := (z1.pair (by rw [nT_up (by omega)]; exact hT) (x := y) (t := q.1) (by rw [nT_up (by omega)]; exact h1) hi4).2
    rw [m_up_comm (a := 74) (a' := 19 + 10 * q.1) (by omega)] at z2
    exact z2
  · have z1 : Df p (m_up g (18 + 10 * q.1) i x) := df.c (Or.inr (Or.inr ⟨q.1, h1, h2, Or.inr (Or.inl rfl)⟩))
    have z2 : Df p (m_up (m_up g (18 + 10 * q.1) i x) (19 + 10 * q.1) i y) := z1.c (Or.inr (Or.inr ⟨q.1, h1, h2, Or.inr (Or.inr (Or.inl rfl))⟩))
    exact (z2.m (by omega) (by omega) (by omega)).m (by omega) (by omega) (by omega)
theorem F_setDigit (h : St p g b) {q : Nat × Nat} (h1 : q.1 < nT p) (h2 : q.1 < 4) {i : Nat} (hi1 : 1 ≤ i) (hi4 : i ≤ 4) (x y : Int32) : f_X4_setDigit g b (16 + 10 * q.1) (nI i) x y = some (m_up (m_up g (18 + 10 * q.1) i x) (19 + 10 * q.1) i y) := by
  unfold f_X4_setDigit
  rw [if_neg (show ¬ nI i < (1 : Int32) from nI_nlt (b := 1) hi1 (by omega)), if_neg (show ¬ (4 : Int32) < nI i from nI_nlt (a := 4) hi4 (by decide)), if_pos (s0_tab q.1 h2), fr_t1 b q.1 h2, fr_t2 b q.1 h2]
  simp only [Option.bind_some, ln_fac q.1 h2, ln_add q.1 h2, if_pos (m_inN (n := i) (N := 5) (by omega) (by decide)), nI_clamp (n := i) (by omega), m_let]
theorem isTurner (x : Int32) : (x = 1 ∨ x = 3 ∨ x = 7 ∨ x = 9) ∨ (¬ x = 1 ∧ ¬ x = 3 ∧ ¬ x = 7 ∧ ¬ x = 9) := by
  by_cases h1 : x = 1
  · exact Or.inl (Or.inl h1)
  · by_cases h3 : x = 3
    · exact Or.inl (Or.inr (Or.inl h3))
    · by_cases h7 : x = 7
      · exact Or.inl (Or.inr (Or.inr (Or.inl h7)))
      · by_cases h9 : x = 9
        · exact Or.inl (Or.inr (Or.inr (Or.inr h9)))
        · exact Or.inr ⟨h1, h3, h7, h9⟩
theorem in_no {v lo hi : Int32} (e : f_X7_in v lo hi = false) : ¬ (lo ≤ v ∧ v ≤ hi) := fun q => by rw [(in_iff v lo hi).mpr q] at e; cases e
end SF
