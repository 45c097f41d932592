/-! ===== owner, mask, dial, all, about (written by wip/whole/mkpure2.py) ===== -/
section SE
variable {p g : mI} {b : Bool}
theorem ex2 {α : Type} {X Y : Option α} (h : ∃ v, X = some v) (e : X = Y) : ∃ v, X = some v ∧ Y = some v := by
  obtain ⟨v, hv⟩ := h
  exact ⟨v, hv, e ▸ hv⟩
theorem ex_ite {α : Type} {c : Prop} [Decidable c] {A B : Option α} (h1 : ∃ v, A = some v) (h2 : ∃ v, B = some v) : ∃ v, (if c then A else B) = some v := by
  by_cases h : c
  · rw [if_pos h]; exact h1
  · rw [if_neg h]; exact h2
theorem s_all (h : St p g b) (w : Int32) : f_X6_all g w = f_X7_all g w := by
  obtain ⟨a1, a2, a3, a4, a5⟩ := h.e1
  unfold f_X6_all f_X7_all
  rw [a1, a2, a3, a4, a5, h.m 64 1 (mp_i _ (by decide)), h.m 64 20 (mp_i _ (by decide)), h.m 64 19 (mp_i _ (by decide)), h.m 64 13 (mp_i _ (by decide)), h.m 64 16 (mp_i _ (by decide))]
theorem nI_6tc (t c : Nat) : (6 * nI t) + nI c = nI (6 * t + c) := by
  rw [show (6 : Int32) = nI 6 from rfl, pk_mul, nI_add]
theorem nI_5ti (t c : Nat) : (5 * nI t) + nI c = nI (5 * t + c) := by
  rw [show (5 : Int32) = nI 5 from rfl, pk_mul, nI_add]
/-- how the class sees a column that is there -/
theorem col_at (h : St p g b) {t c : Int32} {q : Nat × Nat} (e : cOf p t c = some q) : f_X6_tableAt g b t = some (some (16 + 10 * q.1)) ∧ f_X6_columnAt g b t c = some (some (20 + 10 * q.1 + q.2)) ∧ f_X7_isColumn g t c = some true := by
  obtain ⟨h1, h2, h3, h4, rfl, rfl⟩ := cOf_some h e
  refine ⟨?_, ?_, ?_⟩
  · rw [F_tableAt h, tOf_nI h h1]; rfl
  · rw [F_columnAt h, e]; rfl
  · rw [F7_isColumn h, e]; rfl
theorem col_no (h : St p g b) {t c : Int32} (e : cOf p t c = none) : f_X6_columnAt g b t c = some none ∧ f_X7_isColumn g t c = some false := by
  constructor
  · rw [F_columnAt h, e]; rfl
  · rw [F7_isColumn h, e]; rfl
theorem St.col (h : St p g b) {t c j : Nat} (ht : t < nT p) (hc : c < nC p t) (hj : j < 6) : g (20 + 10 * t + c) j = p (68 + j) (6 * t + c) := h.e3 t ht c hc j hj
theorem s_about (h : St p g b) (t c w : Int32) : ∃ v, f_X6_about g b t c w = some v ∧ f_X7_about g t c w = some v := by
  unfold f_X6_about f_X7_about
  cases e : cOf p t c with
  | none =>
    obtain ⟨k1, k2⟩ := col_no h e
    rw [k1, k2, F_tableAt h]
    refine ⟨-1, ?_, rfl⟩
    cases tOf p t <;> rfl
  | some q =>
    obtain ⟨k1, k2, k3⟩ := col_at h e
    obtain ⟨h1, h2, h3, h4, rfl, rfl⟩ := cOf_some h e
    have hC := h.C6 q.1 h1
    have hm : ∀ a k, mp a → g a k = p a k := fun a k => h.m a k
    have s4 := s0_tab q.1 h2
    have s0 := s0_col q.1 h2 q.2 h4
    have w1 := (h.e2 q.1 h1).1
    have w2 := (h.e2 q.1 h1).2.1
    have w3 := (h.e2 q.1 h1).2.2
    have c0 : g (20 + 10 * q.1 + q.2) 0 = p 68 (6 * q.1 + q.2) := h.col h1 h3 (j := 0) (by omega)
    have c1 : g (20 + 10 * q.1 + q.2) 1 = p 69 (6 * q.1 + q.2) := h.col h1 h3 (j := 1) (by omega)
    have c2 : g (20 + 10 * q.1 + q.2) 2 = p 70 (6 * q.1 + q.2) := h.col h1 h3 (j := 2) (by omega)
    have c3 : g (20 + 10 * q.1 + q.2) 3 = p 71 (6 * q.1 + q.2) := h.col h1 h3 (j := 3) (by omega)
    have n1 : m_in (nI q.1) 4 := m_inN h2 (by decide)
    have n2 : m_in (nI (6 * q.1 + q.2)) 24 := m_inN (by omega) (by decide)
    have d1 : (nI q.1).toNatClampNeg = q.1 := nI_clamp (by omega)
    have d2 : (nI (6 * q.1 + q.2)).toNatClampNeg = 6 * q.1 + q.2 := nI_clamp (by omega)
    rw [k1, k2, k3]
    simp only [Option.bind_some, m_oc, cond_true, s4, s0, if_true, w1, w2, w3, c0, c1, c2, c3, nI_6tc, if_pos n1, if_pos n2, d1, d2, hm 65 _ (mp_i _ (by decide)), hm 66 _ (mp_i _ (by decide)), hm 67 _ (mp_i _ (by decide)), hm 68 _ (mp_i _ (by decide)), hm 69 _ (mp_i _ (by decide)), hm 70 _ (mp_i _ (by decide)), hm 71 _ (mp_i _ (by decide))]
    refine ex2 ?_ rfl
    repeat' (first | exact ⟨_, rfl⟩ | refine ex_ite ?_ ?_)
theorem s_owner (h : St p g b) (t c : Int32) : ∃ v g1 g2 p2, f_X6_owner g b t c = some (v, g1) ∧ f_X7_owner g1 t c = some (v, g2) ∧ St p2 g2 b := by
  obtain ⟨hM, ⟨i1, i2, i3, i4, i5, i6⟩, ⟨e1, e2, e3, e4, e5, e6, e7, e8⟩, df⟩ := id h
  have hT := h.T.2
  have hC := h.C6
  have hU := h.U.2
  have hpM := pM_lt b
  unfold f_X6_owner
  cases e : cOf p t c with
  | none =>
    obtain ⟨k1, k2⟩ := col_no h e
    rw [k1, F_tableAt h]
    refine ⟨-1, g, g, p, ?_, ?_, h⟩
    · cases tOf p t <;> rfl
    · unfold f_X7_owner; rw [k2]; rfl
  | some q =>
    obtain ⟨k1, k2, k3⟩ := col_at h e
    obtain ⟨h1, h2, h3, h4, rfl, rfl⟩ := cOf_some h e
    have hC6 := h.C6 q.1 h1
    have hm : ∀ a k, mp a → g a k = p a k := fun a k => h.m a k
    have s4 := s0_tab q.1 h2
    have s0 := s0_col q.1 h2 q.2 h4
    have w3 := (h.e2 q.1 h1).2.2
    have c0 : g (20 + 10 * q.1 + q.2) 0 = p 68 (6 * q.1 + q.2) := h.col h1 h3 (j := 0) (by omega)
    have n1 : m_in (nI q.1) 4 := m_inN h2 (by decide)
    have n2 : m_in (nI (6 * q.1 + q.2)) 24 := m_inN (by omega) (by decide)
    have d1 : (nI q.1).toNatClampNeg = q.1 := nI_clamp (by omega)
    have d2 : (nI (6 * q.1 + q.2)).toNatClampNeg = 6 * q.1 + q.2 := nI_clamp (by omega)
    have hk := i2 q.1 h1 q.2 h3
    have hch : (q.2 = 0 ∨ p 68 (6 * q.1 + q.2) = 1) ∨ (¬ p 68 (6 * q.1 + q.2) = 1 ∧ ¬ p 68 (6 * q.1 + q.2) = 0 ∧ ¬ nI q.2 = 0) := by
      by_cases z1 : p 68 (6 * q.1 + q.2) = 1
      · exact Or.inl (Or.inr z1)
      · by_cases z0 : q.2 = 0
        · exact Or.inl (Or.inl z0)
        · exact Or.inr ⟨z1, fun z => z0 (hk.1.mp z), nI_ne0 (by omega) (by omega)⟩
    rw [k1, k2]
    simp only [Option.bind_some, m_oc, s4, s0, if_true, c0, w3]
    rcases hch with hch | ⟨z1, z0, z2⟩
    · have hst : St (m_up p 67 q.1 (nI q.2)) (m_up (m_up g (16 + 10 * q.1) 5 (nI q.2)) 67 q.1 (nI q.2)) b := by
        refine ⟨((hM.c (by omega)).m), ⟨?_, (i2.m (by omega) (by omega) (by omega)), (i3.m (by omega) (by omega)), (i4.m (by omega) (by omega)), (i5.m (by omega) (by omega) (by omega)), (i6.m (by omega) (by omega))⟩, ⟨((e1.c (by omega)).m (by omega) (by omega)), ?_, ((e3.c hT hC (by omega)).m hT hC (by omega) (by omega) (by omega)), ((e4.c hT (by omega)).m hT (by omega) (by omega) (by omega)), ((e5.c (by omega)).m (by omega) (by omega) (by omega)), ((e6.c (by omega)).m (by omega) (by omega) (by omega)), ((e7.c (by omega)).m (by omega) (by omega) (by omega)), ((e8.c (by omega) hU).m hU (by omega) (by omega) (by omega))⟩, ((df.c (Or.inr (Or.inr ⟨q.1, h1, h2, Or.inl ⟨rfl, by decide⟩⟩))).m (by omega) (by omega) (by omega))⟩
        · unfold I1
          rw [nT_up (by omega), m_up_o (by omega)]
          refine ⟨i1.1, fun t ht => ?_, fun t ht => ?_, fun t ht => ?_⟩
          · rw [nC_up (by omega), m_up_o (by omega)]; exact i1.2.1 t ht
          · rw [nR_up (by omega), m_up_o (by omega)]; exact i1.2.2.1 t ht
          · rw [nC_up (by omega)]
            by_cases z : t = q.1
            · subst z
              have z9 : nO (m_up p 67 q.1 (nI q.2)) q.1 = q.2 := by
                show Int32.toNatClampNeg (m_up p 67 q.1 (nI q.2) 67 q.1) = q.2
                rw [m_up_eq]; exact nI_clamp (by omega)
              rw [z9, m_up_eq, m_up_o (by omega)]
              exact ⟨rfl, h3, hch⟩
            · rw [nO_up (by omega), m_up_o (by omega), m_up_o (by omega)]; exact i1.2.2.2 t ht
        · intro t ht
          rw [nT_up (by omega)] at ht
          rw [m_up_o (a' := 65) (by omega), m_up_o (a' := 66) (by omega), m_up_o (a := 67) (a' := 16 + 10 * t) (by omega), m_up_o (a := 67) (a' := 16 + 10 * t) (by omega), m_up_o (a := 67) (a' := 16 + 10 * t) (by omega), m_up_o (k' := 3) (by omega), m_up_o (k' := 4) (by omega)]
          refine ⟨(e2 t ht).1, (e2 t ht).2.1, ?_⟩
          by_cases z : t = q.1
          · subst z; rw [m_up_eq, m_up_eq]
          · rw [m_up_o (by omega), m_up_o (by omega)]; exact (e2 t ht).2.2
      refine ⟨p 67 q.1, m_up g (16 + 10 * q.1) 5 (nI q.2), _, _, ?_, ?_, hst⟩
      · rcases hch with z | z
        · rw [hk.1.mpr z, if_neg (by decide), if_pos rfl]; rfl
        · rw [z, if_pos rfl]; rfl
      · have g68 : m_up g (16 + 10 * q.1) 5 (nI q.2) 68 (6 * q.1 + q.2) = p 68 (6 * q.1 + q.2) := by rw [m_up_o (by omega)]; exact hm _ _ (mp_i _ (by decide))
        have g67 : m_up g (16 + 10 * q.1) 5 (nI q.2) 67 q.1 = p 67 q.1 := by rw [m_up_o (by omega)]; exact hm _ _ (mp_i _ (by decide))
        have hs1 : f_X7_isColumn (m_up g (16 + 10 * q.1) 5 (nI q.2)) (nI q.1) (nI q.2) = some true := by
          rw [← k3]
          unfold f_X7_isColumn f_X7_isTable
          rw [m_up_o (by omega), m_up_o (by omega)]
        unfold f_X7_owner
        rw [hs1]
        simp only [Option.bind_some, cond_true, nI_6tc, if_pos n1, if_pos n2, d1, d2, g68, g67]
        rcases hch with z | z
        · rw [if_pos (show nI q.2 = 0 by rw [z]; rfl)]; rfl
        · by_cases z5 : nI q.2 = 0
          · rw [if_pos z5]; rfl
          · rw [if_neg z5, if_pos z]; rfl
    · refine ⟨-2, g, g, p, ?_, ?_, h⟩
      · rw [if_neg z1, if_neg z0]
      · unfold f_X7_owner
        rw [k3]
        simp only [Option.bind_some, cond_true, nI_6tc, if_pos n1, if_pos n2, d1, d2, hm 68 _ (mp_i _ (by decide)), if_neg z2, if_neg z1]
end SE
