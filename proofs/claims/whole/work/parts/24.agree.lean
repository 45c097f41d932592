/-! ===== agree ===== -/
section SJ
variable {p g : mI} {b : Bool}
theorem ifs_c {α : Type} {c1 c2 c3 c4 c5 : Prop} [Decidable c1] [Decidable c2] [Decidable c3] [Decidable c4] [Decidable c5] {z : Bool} {A B : α} : (if c1 then if c2 then if c3 then if c4 then if c5 then B else bif z then A else B else B else B else B else B) = if c1 ∧ c2 ∧ c3 ∧ c4 ∧ ¬ c5 ∧ z = true then A else B := by
  by_cases h1 : c1 <;> by_cases h2 : c2 <;> by_cases h3 : c3 <;> by_cases h4 : c4 <;> by_cases h5 : c5 <;> cases z <;> simp [h1, h2, h3, h4, h5]
theorem ifs_m {α : Type} {c1 c2 c3 c4 c5 : Prop} [Decidable c1] [Decidable c2] [Decidable c3] [Decidable c4] [Decidable c5] {z : Bool} {A B : α} : (if c5 then B else if c1 then if c2 then if c3 then if c4 then bif z then A else B else B else B else B else B) = if c1 ∧ c2 ∧ c3 ∧ c4 ∧ ¬ c5 ∧ z = true then A else B := by
  by_cases h1 : c1 <;> by_cases h2 : c2 <;> by_cases h3 : c3 <;> by_cases h4 : c4 <;> by_cases h5 : c5 <;> cases z <;> simp [h1, h2, h3, h4, h5]
theorem isBit_in (m : Int32) : f_X7_in m 0 1 = f_X6_isBit m := by
  unfold f_X6_isBit
  by_cases h0 : m = 0
  · subst h0; decide
  by_cases h1 : m = 1
  · subst h1; decide
  rw [if_neg h0, if_neg h1]
  cases e : f_X7_in m 0 1 with
  | false => rfl
  | true =>
    exfalso
    obtain ⟨q1, q2⟩ := (in_iff m 0 1).mp e
    obtain ⟨j, hj, rfl⟩ := nn_of3 (n := 1) (by decide) q1 q2
    rcases (show j = 0 ∨ j = 1 by omega) with rfl | rfl
    · exact h0 rfl
    · exact h1 rfl
theorem s_agree (h : St p g b) (t a u c e m : Int32) : ∃ v g1 g2 p2, f_X6_agree g b t a u c e m = some (v, g1) ∧ f_X7_agree g1 t a u c e m = some (v, g2) ∧ St p2 g2 b := by
  obtain ⟨hM, ⟨i1, i2, i3, i4, i5, i6⟩, ⟨e1, e2, e3, e4, e5, e6, e7, e8⟩, df⟩ := id h
  have hU := h.U
  have hT := h.T.2
  unfold f_X6_agree
  cases ea : cOf p t a with
  | none =>
    obtain ⟨k1, k2⟩ := col_no h ea
    rw [k1, F_columnAt h, F_columnAt h]
    refine ⟨-1, g, g, p, rfl, ?_, h⟩
    unfold f_X7_agree; rw [k2]; rfl
  | some q =>
    obtain ⟨k1, k2, k3⟩ := col_at h ea
    cases ec : cOf p u c with
    | none =>
      obtain ⟨k4, k5⟩ := col_no h ec
      rw [k2, k4, F_columnAt h]
      refine ⟨-1, g, g, p, rfl, ?_, h⟩
      unfold f_X7_agree; rw [k3]
      simp only [Option.bind_some, cond_true, k5, cond_false]
    | some w =>
      obtain ⟨k4, k5, k6⟩ := col_at h ec
      cases ee : cOf p u e with
      | none =>
        obtain ⟨k7, k8⟩ := col_no h ee
        rw [k2, k5, k7]
        refine ⟨-1, g, g, p, rfl, ?_, h⟩
        unfold f_X7_agree; rw [k3]
        simp only [Option.bind_some, cond_true, k6, k8, cond_false]
      | some r =>
        obtain ⟨k7, k8, k9⟩ := col_at h ee
        obtain ⟨h1, h2, h3, h4, rfl, rfl⟩ := cOf_some h ea
        obtain ⟨y1, y2, y3, y4, rfl, rfl⟩ := cOf_some h ec
        obtain ⟨x1, x2, x3, x4, x5, rfl⟩ := cOf_some h ee
        have hq : r.1 = w.1 := (nI_inj (by omega) (by omega) x5).symm
        rw [hq] at x3 k8
        have hm : ∀ a k, mp a → g a k = p a k := fun a k => h.m a k
        have s0 := s0_col q.1 h2 q.2 h4
        have s1 := s0_col w.1 y2 w.2 y4
        have s2 := s0_col w.1 y2 r.2 x4
        have c0 : g (20 + 10 * q.1 + q.2) 0 = p 68 (6 * q.1 + q.2) := h.col h1 h3 (j := 0) (by omega)
        have c1 : g (20 + 10 * w.1 + w.2) 0 = p 68 (6 * w.1 + w.2) := h.col y1 y3 (j := 0) (by omega)
        have c2 : g (20 + 10 * w.1 + r.2) 0 = p 68 (6 * w.1 + r.2) := h.col y1 x3 (j := 0) (by omega)
        have c3 : g (20 + 10 * w.1 + r.2) 1 = p 69 (6 * w.1 + r.2) := h.col y1 x3 (j := 1) (by omega)
        have n2 : m_in (nI (6 * q.1 + q.2)) 24 := m_inN (by omega) (by decide)
        have d2 : (nI (6 * q.1 + q.2)).toNatClampNeg = 6 * q.1 + q.2 := nI_clamp (by omega)
        have n3 : m_in (nI (6 * w.1 + w.2)) 24 := m_inN (by omega) (by decide)
        have d3 : (nI (6 * w.1 + w.2)).toNatClampNeg = 6 * w.1 + w.2 := nI_clamp (by omega)
        have n4 : m_in (nI (6 * w.1 + r.2)) 24 := m_inN (by omega) (by decide)
        have d4 : (nI (6 * w.1 + r.2)).toNatClampNeg = 6 * w.1 + r.2 := nI_clamp (by omega)
        rw [k2, k5, k8, F_nextRule h]
        simp only [Option.bind_some, m_oc, s0, s1, s2, if_true, c0, c1, c2, c3]
        rw [ifs_c]
        have mod : ∀ g', (∀ a k, mp a → g' a k = p a k) → f_X7_isColumn g' (nI q.1) (nI q.2) = some true → f_X7_isColumn g' (nI w.1) (nI w.2) = some true → f_X7_isColumn g' (nI w.1) (nI r.2) = some true → f_X7_agree g' (nI q.1) (nI q.2) (nI w.1) (nI w.2) (nI r.2) m = if p 68 (6 * q.1 + q.2) = 3 ∧ p 68 (6 * w.1 + w.2) = 3 ∧ p 68 (6 * w.1 + r.2) = 1 ∧ p 69 (6 * w.1 + r.2) = nI q.1 ∧ ¬ nI q.1 = nI w.1 ∧ f_X6_isBit m = true then (if nI (nU p) = 8 then some (-4, g') else ((f_X7_rule g' 1 (nI q.1) (nI q.2) (nI w.2)).bind fun v20 => (if m_in v20.1 8 then (m_let (m_up v20.2 84 v20.1.toNatClampNeg (nI w.1)) fun g23 => (m_let (m_up g23 85 v20.1.toNatClampNeg (nI r.2)) fun g25 => (if m = 1 then (m_let (m_up g25 86 v20.1.toNatClampNeg 1) fun g30 => some (v20.1, g30)) else (m_let (m_up g25 86 v20.1.toNatClampNeg 0) fun g28 => some (v20.1, g28))))) else none))) else some (-2, g') := by
          intro g' hg' z1 z2 z3
          rw [← ifs_m]
          unfold f_X7_agree
          rw [z1]
          simp only [Option.bind_some, cond_true, z2, z3, nI_6tc, if_pos n2, d2, if_pos n3, d3, if_pos n4, d4, hg' 68 _ (mp_i _ (by decide)), hg' 69 _ (mp_i _ (by decide)), hg' 64 _ (mp_i _ (by decide)), hU.1, isBit_in]
        by_cases ok : p 68 (6 * q.1 + q.2) = 3 ∧ p 68 (6 * w.1 + w.2) = 3 ∧ p 68 (6 * w.1 + r.2) = 1 ∧ p 69 (6 * w.1 + r.2) = nI q.1 ∧ ¬ nI q.1 = nI w.1 ∧ f_X6_isBit m = true
        · rw [if_pos ok]
          by_cases z4 : nU p = 8
          · rw [if_pos z4]
            exact ⟨-4, g, g, p, rfl, by rw [mod g hm k3 k6 k9, if_pos ok, if_pos (show nI (nU p) = 8 by rw [z4]; rfl)], h⟩
          · rw [if_neg z4]
            have hn : nU p < 8 := by omega
            have sr := s0_rul (nU p) hn
            obtain ⟨o1, o2, o3, o4, o5, o6⟩ := ok
            have hne : w.1 ≠ q.1 := fun z => o5 (by rw [z])
            have fin : ∀ (x : Int32) (zz : Bool), (x = 0 ∨ x = 1) → m_bi zz = x → ((m = 1 ∧ x = 1) ∨ (¬ m = 1 ∧ x = 0)) → ∃ v g1 g2 p2, ((f_X3_setAgree g (56 + nU p) (nI q.1) (nI q.2) (nI w.1) (nI w.2) (nI r.2) zz).bind fun v29 => (f_X6_addRule v29).bind fun v31 => some (v31.1, v31.2)) = some (v, g1) ∧ f_X7_agree g1 (nI q.1) (nI q.2) (nI w.1) (nI w.2) (nI r.2) m = some (v, g2) ∧ St p2 g2 b := by
              intro x zz hx hz hmx
              have hgm : ∀ a k, mp a → m_up (m_up (m_up (m_up (m_up (m_up (m_up (m_up g (56 + nU p) 0 1) (56 + nU p) 1 (nI q.1)) (56 + nU p) 2 (nI q.2)) (56 + nU p) 4 (nI w.1)) (56 + nU p) 3 (nI w.2)) (56 + nU p) 5 (nI r.2)) (56 + nU p) 6 x) 0 9 (nI (nU p + 1)) a k = p a k := fun a k ha => by
                have h9 := ha.1
                rw [m_up_o (by omega), m_up_o (by omega), m_up_o (by omega), m_up_o (by omega), m_up_o (by omega), m_up_o (by omega), m_up_o (by omega), m_up_o (by omega)]; exact hm a k ha
              refine ⟨nI (nU p), m_up (m_up (m_up (m_up (m_up (m_up (m_up (m_up g (56 + nU p) 0 1) (56 + nU p) 1 (nI q.1)) (56 + nU p) 2 (nI q.2)) (56 + nU p) 4 (nI w.1)) (56 + nU p) 3 (nI w.2)) (56 + nU p) 5 (nI r.2)) (56 + nU p) 6 x) 0 9 (nI (nU p + 1)), _, _, ?_, ?_, h.rAgree hn h1 h3 y1 hne y3 x3 o1 o2 o3 o4 hx⟩
              · unfold f_X3_setAgree
                simp only [sr, if_true, m_let, Option.bind_some, hz]
                rw [F_addRule (n := nU p) (by rw [m_up_o (by omega), m_up_o (by omega), m_up_o (by omega), m_up_o (by omega), m_up_o (by omega), m_up_o (by omega), m_up_o (by omega), e1.2.1, hU.1])]
                rfl
              · have cc : ∀ t c, f_X7_isColumn (m_up (m_up (m_up (m_up (m_up (m_up (m_up (m_up g (56 + nU p) 0 1) (56 + nU p) 1 (nI q.1)) (56 + nU p) 2 (nI q.2)) (56 + nU p) 4 (nI w.1)) (56 + nU p) 3 (nI w.2)) (56 + nU p) 5 (nI r.2)) (56 + nU p) 6 x) 0 9 (nI (nU p + 1))) t c = f_X7_isColumn g t c := fun t c => by
                  rw [isCol_c (by omega), isCol_c (by omega), isCol_c (by omega), isCol_c (by omega), isCol_c (by omega), isCol_c (by omega), isCol_c (by omega), isCol_c (by omega)]
                rw [mod _ hgm (by rw [cc]; exact k3) (by rw [cc]; exact k6) (by rw [cc]; exact k9), if_pos ⟨o1, o2, o3, o4, o5, o6⟩, if_neg (show ¬ nI (nU p) = 8 from fun z => z4 (nI_inj (b := 8) (by omega) (by decide) z)), F_rule (n := nU p) (by rw [hgm _ _ (mp_i _ (by decide))]; exact hU.1) hn]
                simp only [Option.bind_some, if_pos (m_inN (n := nU p) (N := 8) hn (by decide)), nI_clamp (n := nU p) (by omega), m_let]
                rcases hmx with ⟨hm1, rfl⟩ | ⟨hm1, rfl⟩
                · rw [if_pos hm1]
                · rw [if_neg hm1]
            simp only [sr, if_true]
            by_cases m1 : m = 1
            · rw [if_pos m1]; exact fin 1 true (Or.inr rfl) rfl (Or.inl ⟨m1, rfl⟩)
            · rw [if_neg m1]; exact fin 0 false (Or.inl rfl) rfl (Or.inr ⟨m1, rfl⟩)
        · rw [if_neg ok]
          exact ⟨-2, g, g, p, rfl, by rw [mod g hm k3 k6 k9, if_neg ok], h⟩
end SJ
