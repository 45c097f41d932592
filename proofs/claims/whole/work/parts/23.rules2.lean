/-! ===== order, found, agree ===== -/
section SI
variable {p g : mI} {b : Bool}
theorem F_nextRule (h : St p g b) : f_X6_nextRule g b = some (if nU p = 8 then none else some (56 + nU p)) := by
  have hU := h.U
  unfold f_X6_nextRule
  rw [h.e1.2.1, hU.1]
  by_cases h8 : nU p = 8
  · rw [h8, if_pos (show (8 : Int32) ≤ nI 8 by decide), if_pos rfl]
  · rw [if_neg (show ¬ (8 : Int32) ≤ nI (nU p) from nI_ge (b := 8) (by omega) (by decide)), if_pos (m_inN (by omega) (by decide)), nI_clamp (by omega), fr_rul b _ (by omega), if_neg h8]
    rfl
theorem isCol_u {a k : Nat} {x t c : Int32} (ha : a ≠ 65) (h1 : a ≠ 64 ∨ k ≠ 1) : f_X7_isColumn (m_up g a k x) t c = f_X7_isColumn g t c := by
  unfold f_X7_isColumn f_X7_isTable
  rw [m_up_o (by omega), m_up_o (by omega)]
theorem F_rule {g' : mI} {n : Nat} (hg : g' 64 20 = nI n) (hn : n < 8) (s t a c : Int32) : f_X7_rule g' s t a c = some (nI n, m_up (m_up (m_up (m_up (m_up (m_up g' 80 n s) 81 n t) 82 n a) 83 n c) 86 n 0) 64 20 (nI (n + 1))) := by
  have d : (nI n).toNatClampNeg = n := nI_clamp (by omega)
  have q : m_in (nI n) 8 := m_inN hn (by decide)
  unfold f_X7_rule
  simp only [m_let, hg, d, if_pos q, m_up_o (g := g') (a' := 64) (k' := 20) (a := 80) (Or.inl (by decide))]
  have e1 : m_up (m_up g' 80 n s) 81 n t 64 20 = nI n := by simp [m_up_at, hg]
  simp only [e1, d, if_pos q]
  have e2 : m_up (m_up (m_up g' 80 n s) 81 n t) 82 n a 64 20 = nI n := by simp [m_up_at, hg]
  simp only [e2, d, if_pos q]
  have e3 : m_up (m_up (m_up (m_up g' 80 n s) 81 n t) 82 n a) 83 n c 64 20 = nI n := by simp [m_up_at, hg]
  simp only [e3, d, if_pos q]
  have e4 : m_up (m_up (m_up (m_up (m_up g' 80 n s) 81 n t) 82 n a) 83 n c) 86 n 0 64 20 = nI n := by simp [m_up_at, hg]
  simp only [e4, m_up_eq, nI_1]
  rw [nI_pred]
theorem F_addRule {g' : mI} {n : Nat} (hg : g' 0 9 = nI n) : f_X6_addRule g' = some (nI n, m_up g' 0 9 (nI (n + 1))) := by
  unfold f_X6_addRule
  simp only [m_let, m_up_eq, hg, nI_1]
  rw [nI_pred]
theorem s_order (h : St p g b) (t a c : Int32) : ∃ v g1 g2 p2, f_X6_order g b t a c = some (v, g1) ∧ f_X7_order g1 t a c = some (v, g2) ∧ St p2 g2 b := by
  obtain ⟨hM, ⟨i1, i2, i3, i4, i5, i6⟩, ⟨e1, e2, e3, e4, e5, e6, e7, e8⟩, df⟩ := id h
  have hU := h.U
  unfold f_X6_order
  cases ea : cOf p t a with
  | none =>
    obtain ⟨k1, k2⟩ := col_no h ea
    rw [k1, F_columnAt h]
    refine ⟨-1, g, g, p, rfl, ?_, h⟩
    unfold f_X7_order; rw [k2]; rfl
  | some q =>
    obtain ⟨k1, k2, k3⟩ := col_at h ea
    cases ec : cOf p t c with
    | none =>
      obtain ⟨k4, k5⟩ := col_no h ec
      rw [k2, k4]
      refine ⟨-1, g, g, p, rfl, ?_, h⟩
      unfold f_X7_order; rw [k3]
      simp only [Option.bind_some, cond_true, k5, cond_false]
    | some w =>
      obtain ⟨k4, k5, k6⟩ := col_at h ec
      obtain ⟨h1, h2, h3, h4, rfl, rfl⟩ := cOf_some h ea
      obtain ⟨y1, y2, y3, y4, y5, rfl⟩ := cOf_some h ec
      have hq : w.1 = q.1 := (nI_inj (by omega) (by omega) y5).symm
      rw [hq] at y3 k5
      have hm : ∀ a k, mp a → g a k = p a k := fun a k => h.m a k
      have s0 := s0_col q.1 h2 q.2 h4
      have s1 := s0_col q.1 h2 w.2 y4
      have c0 : g (20 + 10 * q.1 + q.2) 0 = p 68 (6 * q.1 + q.2) := h.col h1 h3 (j := 0) (by omega)
      have c1 : g (20 + 10 * q.1 + w.2) 0 = p 68 (6 * q.1 + w.2) := h.col h1 y3 (j := 0) (by omega)
      have n2 : m_in (nI (6 * q.1 + q.2)) 24 := m_inN (by omega) (by decide)
      have d2 : (nI (6 * q.1 + q.2)).toNatClampNeg = 6 * q.1 + q.2 := nI_clamp (by omega)
      have n3 : m_in (nI (6 * q.1 + w.2)) 24 := m_inN (by omega) (by decide)
      have d3 : (nI (6 * q.1 + w.2)).toNatClampNeg = 6 * q.1 + w.2 := nI_clamp (by omega)
      rw [k2, k5, F_nextRule h]
      simp only [Option.bind_some, m_oc, s0, s1, if_true, c0, c1]
      have mod : ∀ g', (∀ a k, mp a → g' a k = p a k) → f_X7_isColumn g' (nI q.1) (nI q.2) = some true → f_X7_isColumn g' (nI q.1) (nI w.2) = some true → f_X7_order g' (nI q.1) (nI q.2) (nI w.2) = if nI q.2 = nI w.2 then some (-2, g') else if p 68 (6 * q.1 + q.2) = 2 then if p 68 (6 * q.1 + w.2) = 2 then if nI (nU p) = 8 then some (-4, g') else ((f_X7_rule g' 0 (nI q.1) (nI q.2) (nI w.2)).bind fun v13 => some (v13.1, v13.2)) else some (-2, g') else some (-2, g') := by
        intro g' hg' z1 z2
        unfold f_X7_order
        rw [z1]
        simp only [Option.bind_some, cond_true, z2, nI_6tc, if_pos n2, d2, if_pos n3, d3, hg' 68 _ (mp_i _ (by decide)), hg' 64 _ (mp_i _ (by decide)), hU.1]
      by_cases z1 : nI q.2 = nI w.2
      · rw [if_pos z1]
        exact ⟨-2, g, g, p, rfl, by rw [mod g hm k3 k6, if_pos z1], h⟩
      rw [if_neg z1]
      by_cases z2 : p 68 (6 * q.1 + q.2) = 2
      · rw [if_pos z2]
        by_cases z3 : p 68 (6 * q.1 + w.2) = 2
        · rw [if_pos z3]
          by_cases z4 : nU p = 8
          · rw [if_pos z4]
            exact ⟨-4, g, g, p, rfl, by rw [mod g hm k3 k6, if_neg z1, if_pos z2, if_pos z3, if_pos (show nI (nU p) = 8 by rw [z4]; rfl)], h⟩
          · rw [if_neg z4]
            have hn : nU p < 8 := by omega
            have sr := s0_rul (nU p) hn
            have hgm : ∀ a k, mp a → m_up (m_up (m_up (m_up (m_up g (56 + nU p) 0 0) (56 + nU p) 1 (nI q.1)) (56 + nU p) 2 (nI q.2)) (56 + nU p) 3 (nI w.2)) 0 9 (nI (nU p + 1)) a k = p a k := fun a k ha => by
              have h9 := ha.1
              rw [m_up_o (by omega), m_up_o (by omega), m_up_o (by omega), m_up_o (by omega), m_up_o (by omega)]; exact hm a k ha
            refine ⟨nI (nU p), m_up (m_up (m_up (m_up (m_up g (56 + nU p) 0 0) (56 + nU p) 1 (nI q.1)) (56 + nU p) 2 (nI q.2)) (56 + nU p) 3 (nI w.2)) 0 9 (nI (nU p + 1)), _, _, ?_, ?_, h.rOrder hn h1 h3 y3 z2 z3⟩
            · unfold f_X3_setOrder
              simp only [sr, if_true, m_let, Option.bind_some]
              rw [F_addRule (n := nU p) (by rw [m_up_o (by omega), m_up_o (by omega), m_up_o (by omega), m_up_o (by omega), e1.2.1, hU.1])]
              rfl
            · rw [mod _ hgm (by rw [isCol_c (by omega), isCol_c (by omega), isCol_c (by omega), isCol_c (by omega), isCol_c (by omega)]; exact k3) (by rw [isCol_c (by omega), isCol_c (by omega), isCol_c (by omega), isCol_c (by omega), isCol_c (by omega)]; exact k6), if_neg z1, if_pos z2, if_pos z3, if_neg (show ¬ nI (nU p) = 8 from fun z => z4 (nI_inj (b := 8) (by omega) (by decide) z)), F_rule (n := nU p) (by rw [hgm _ _ (mp_i _ (by decide))]; exact hU.1) hn]
              rfl
        · rw [if_neg z3]
          exact ⟨-2, g, g, p, rfl, by rw [mod g hm k3 k6, if_neg z1, if_pos z2, if_neg z3], h⟩
      · rw [if_neg z2]
        exact ⟨-2, g, g, p, rfl, by rw [mod g hm k3 k6, if_neg z1, if_neg z2], h⟩
theorem s_found (h : St p g b) (t a : Int32) : ∃ v g1 g2 p2, f_X6_found g b t a = some (v, g1) ∧ f_X7_found g1 t a = some (v, g2) ∧ St p2 g2 b := by
  obtain ⟨hM, ⟨i1, i2, i3, i4, i5, i6⟩, ⟨e1, e2, e3, e4, e5, e6, e7, e8⟩, df⟩ := id h
  have hU := h.U
  unfold f_X6_found
  cases ea : cOf p t a with
  | none =>
    obtain ⟨k1, k2⟩ := col_no h ea
    rw [k1]
    refine ⟨-1, g, g, p, rfl, ?_, h⟩
    unfold f_X7_found; rw [k2]; rfl
  | some q =>
    obtain ⟨k1, k2, k3⟩ := col_at h ea
    obtain ⟨h1, h2, h3, h4, rfl, rfl⟩ := cOf_some h ea
    have hm : ∀ a k, mp a → g a k = p a k := fun a k => h.m a k
    have s0 := s0_col q.1 h2 q.2 h4
    have c0 : g (20 + 10 * q.1 + q.2) 0 = p 68 (6 * q.1 + q.2) := h.col h1 h3 (j := 0) (by omega)
    have n2 : m_in (nI (6 * q.1 + q.2)) 24 := m_inN (by omega) (by decide)
    have d2 : (nI (6 * q.1 + q.2)).toNatClampNeg = 6 * q.1 + q.2 := nI_clamp (by omega)
    rw [k2, F_nextRule h]
    simp only [Option.bind_some, m_oc, s0, if_true, c0]
    have mod : ∀ g', (∀ a k, mp a → g' a k = p a k) → f_X7_isColumn g' (nI q.1) (nI q.2) = some true → f_X7_found g' (nI q.1) (nI q.2) = if p 68 (6 * q.1 + q.2) = 1 then if nI (nU p) = 8 then some (-4, g') else ((f_X7_rule g' 2 (nI q.1) (nI q.2) 0).bind fun v13 => some (v13.1, v13.2)) else some (-2, g') := by
      intro g' hg' z1
      unfold f_X7_found
      rw [z1]
      simp only [Option.bind_some, cond_true, nI_6tc, if_pos n2, d2, hg' 68 _ (mp_i _ (by decide)), hg' 64 _ (mp_i _ (by decide)), hU.1]
    by_cases z2 : p 68 (6 * q.1 + q.2) = 1
    · rw [if_pos z2]
      by_cases z4 : nU p = 8
      · rw [if_pos z4]
        exact ⟨-4, g, g, p, rfl, by rw [mod g hm k3, if_pos z2, if_pos (show nI (nU p) = 8 by rw [z4]; rfl)], h⟩
      · rw [if_neg z4]
        have hn : nU p < 8 := by omega
        have sr := s0_rul (nU p) hn
        have hgm : ∀ a k, mp a → m_up (m_up (m_up (m_up g (56 + nU p) 0 2) (56 + nU p) 1 (nI q.1)) (56 + nU p) 2 (nI q.2)) 0 9 (nI (nU p + 1)) a k = p a k := fun a k ha => by
          have h9 := ha.1
          rw [m_up_o (by omega), m_up_o (by omega), m_up_o (by omega), m_up_o (by omega)]; exact hm a k ha
        refine ⟨nI (nU p), m_up (m_up (m_up (m_up g (56 + nU p) 0 2) (56 + nU p) 1 (nI q.1)) (56 + nU p) 2 (nI q.2)) 0 9 (nI (nU p + 1)), _, _, ?_, ?_, h.rFound hn h1 h3 z2⟩
        · unfold f_X3_setFound
          simp only [sr, if_true, m_let, Option.bind_some]
          rw [F_addRule (n := nU p) (by rw [m_up_o (by omega), m_up_o (by omega), m_up_o (by omega), e1.2.1, hU.1])]
          rfl
        · rw [mod _ hgm (by rw [isCol_c (by omega), isCol_c (by omega), isCol_c (by omega), isCol_c (by omega)]; exact k3), if_pos z2, if_neg (show ¬ nI (nU p) = 8 from fun z => z4 (nI_inj (b := 8) (by omega) (by decide) z)), F_rule (n := nU p) (by rw [hgm _ _ (mp_i _ (by decide))]; exact hU.1) hn]
          rfl
    · rw [if_neg z2]
      exact ⟨-2, g, g, p, rfl, by rw [mod g hm k3, if_neg z2], h⟩
end SI
