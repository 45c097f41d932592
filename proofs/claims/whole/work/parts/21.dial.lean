/-! ===== dial ===== -/
section SG
variable {p g : mI} {b : Bool}
theorem F_dialDigit_set (h : St p g b) {q : Nat × Nat} (h1 : q.1 < nT p) (h2 : q.1 < 4) {i : Nat} (hi1 : 1 ≤ i) (hi4 : i ≤ 4) (x y : Int32) (hx : x = 1 ∨ x = 3 ∨ x = 7 ∨ x = 9) (hy : f_X7_in y 0 9 = true) : f_X6_dialDigit g b (16 + 10 * q.1) (nI i) x y = some (0, m_up (m_up g (18 + 10 * q.1) i x) (19 + 10 * q.1) i y) := by
  have hy2 := (in_iff y 0 9).mp hy
  unfold f_X6_dialDigit
  rw [if_neg (show ¬ nI i < (1 : Int32) from nI_nlt (b := 1) hi1 (by omega)), if_pos (show nI i ≤ (4 : Int32) from nI_le (b := 4) hi4 (by decide)), F_setDigit h h1 h2 hi1 hi4]
  simp only [if_neg (Int32.not_lt.mpr hy2.1), if_pos hy2.2, if_pos (s0_tab q.1 h2), Option.bind_some]
  rcases hx with rfl | rfl | rfl | rfl <;> simp
theorem F_dialDigit_bad {x i y : Int32} {T : Nat} (hi : 1 ≤ i ∧ i ≤ 4) (hb : (¬ x = 1 ∧ ¬ x = 3 ∧ ¬ x = 7 ∧ ¬ x = 9) ∨ f_X7_in y 0 9 = false) : f_X6_dialDigit g b T i x y = some (-2, g) := by
  unfold f_X6_dialDigit
  rw [if_neg (Int32.not_lt.mpr hi.1), if_pos hi.2]
  rcases hb with ⟨z1, z3, z7, z9⟩ | z
  · rw [if_neg z1, if_neg z3, if_neg z7, if_neg z9]
  · have z := in_no z
    by_cases z0 : y < 0
    · simp only [if_pos z0]
      repeat' split
      all_goals rfl
    · have z1 : ¬ y ≤ 9 := fun q => z ⟨Int32.not_lt.mp z0, q⟩
      simp only [if_neg z0, if_neg z1]
      repeat' split
      all_goals rfl
theorem F_dialDigit_none {x i y : Int32} {T : Nat} (hi : ¬ (1 ≤ i ∧ i ≤ 4)) : f_X6_dialDigit g b T i x y = some (-1, g) := by
  unfold f_X6_dialDigit
  by_cases z : i < 1
  · rw [if_pos z]
  · rw [if_neg z, if_neg (fun q => hi ⟨Int32.not_lt.mp z, q⟩)]
theorem s_dial (h : St p g b) (t c i x y : Int32) : ∃ v g1 g2 p2, f_X6_dial g b t c i x y = some (v, g1) ∧ f_X7_dial g1 t c i x y = some (v, g2) ∧ St p2 g2 b := by
  obtain ⟨hM, ⟨i1, i2, i3, i4, i5, i6⟩, ⟨e1, e2, e3, e4, e5, e6, e7, e8⟩, df⟩ := id h
  have hT := h.T.2
  have hC := h.C6
  unfold f_X6_dial
  cases e : cOf p t c with
  | none =>
    obtain ⟨k1, k2⟩ := col_no h e
    rw [k1, F_tableAt h]
    refine ⟨-1, g, g, p, ?_, ?_, h⟩
    · cases tOf p t <;> rfl
    · unfold f_X7_dial; rw [k2]; rfl
  | some q =>
    obtain ⟨k1, k2, k3⟩ := col_at h e
    obtain ⟨h1, h2, h3, h4, rfl, rfl⟩ := cOf_some h e
    have hC6 := h.C6 q.1 h1
    have hm : ∀ a k, mp a → g a k = p a k := fun a k => h.m a k
    have s4 := s0_tab q.1 h2
    have s0 := s0_col q.1 h2 q.2 h4
    have c0 : g (20 + 10 * q.1 + q.2) 0 = p 68 (6 * q.1 + q.2) := h.col h1 h3 (j := 0) (by omega)
    have n2 : m_in (nI (6 * q.1 + q.2)) 24 := m_inN (by omega) (by decide)
    have d2 : (nI (6 * q.1 + q.2)).toNatClampNeg = 6 * q.1 + q.2 := nI_clamp (by omega)
    have hk := i2 q.1 h1 q.2 h3
    have m68 := hm 68 (6 * q.1 + q.2) (mp_i _ (by decide))
    rw [k1, k2]
    simp only [Option.bind_some, m_oc, s0, if_true, c0]
    by_cases z0 : p 68 (6 * q.1 + q.2) = 0
    · rw [if_pos z0]
      cases hi : f_X7_in i 1 4 with
      | false =>
        rw [F_dialDigit_none (in_no hi)]
        refine ⟨-1, g, g, p, rfl, ?_, h⟩
        unfold f_X7_dial
        rw [k3]
        simp only [Option.bind_some, cond_true, nI_6tc, if_pos n2, d2, m68, if_pos z0, hi, cond_false]
      | true =>
        have hi2 := (in_iff i 1 4).mp hi
        have bad : ((¬ x = 1 ∧ ¬ x = 3 ∧ ¬ x = 7 ∧ ¬ x = 9) ∨ f_X7_in y 0 9 = false) → ∃ v g1 g2 p2, ((f_X6_dialDigit g b (16 + 10 * q.1) i x y).bind fun v21 => some (v21.1, v21.2)) = some (v, g1) ∧ f_X7_dial g1 (nI q.1) (nI q.2) i x y = some (v, g2) ∧ St p2 g2 b := by
          intro hb
          rw [F_dialDigit_bad hi2 hb]
          refine ⟨-2, g, g, p, rfl, ?_, h⟩
          unfold f_X7_dial
          rw [k3]
          simp only [Option.bind_some, cond_true, nI_6tc, if_pos n2, d2, m68, if_pos z0, hi]
          rcases hb with ⟨y1, y3, y7, y9⟩ | hb
          · rw [if_neg y1, if_neg y3, if_neg y7, if_neg y9]
          · rw [hb]
            simp only [cond_false]
            repeat' split
            all_goals rfl
        rcases isTurner x with hx | hx
        · cases hy : f_X7_in y 0 9 with
          | false => exact bad (Or.inr hy)
          | true =>
            obtain ⟨j, hj, rfl⟩ := nn_of3 (n := 4) (by decide) (Int32.le_trans (by decide) hi2.1) hi2.2
            have hj1 : 1 ≤ j := (nI_leI (a := 1) (by decide) (by omega)).mp hi2.1
            rw [F_dialDigit_set h h1 h2 hj1 hj x y hx hy]
            refine ⟨0, m_up (m_up g (18 + 10 * q.1) j x) (19 + 10 * q.1) j y, _, _, rfl, ?_, h.digit h1 h2 hj1 hj x y hx hy⟩
            unfold f_X7_dial
            rw [isCol_c (by omega), isCol_c (by omega), k3]
            have g68 : m_up (m_up g (18 + 10 * q.1) j x) (19 + 10 * q.1) j y 68 (6 * q.1 + q.2) = p 68 (6 * q.1 + q.2) := by rw [m_up_o (by omega), m_up_o (by omega)]; exact m68
            simp only [Option.bind_some, cond_true, nI_6tc, nI_5ti, if_pos n2, d2, g68, if_pos z0, hi, hy, if_pos (m_inN (n := 5 * q.1 + j) (N := 20) (by omega) (by decide)), nI_clamp (n := 5 * q.1 + j) (by omega), m_let]
            rcases hx with rfl | rfl | rfl | rfl <;> simp
        · exact bad (Or.inl hx)
    · rw [if_neg z0]
      by_cases z4 : p 68 (6 * q.1 + q.2) = 4
      · rw [if_pos z4]
        by_cases zi : i = 0
        · rw [if_pos zi]
          have bad : (f_X7_in x 1 99 = false ∨ m_rem x 2 = 0 ∨ m_rem x 5 = 0 ∨ f_X7_in y 0 99 = false) → ∃ v g1 g2 p2, (if x < 1 then some (-2, g) else if 99 < x then some (-2, g) else if m_rem x 2 = 0 then some (-2, g) else if m_rem x 5 = 0 then some (-2, g) else if y < 0 then some (-2, g) else if y ≤ 99 then m_let (m_up g (20 + 10 * q.1 + q.2) 4 x) fun g17 => m_let (m_up g17 (20 + 10 * q.1 + q.2) 5 y) fun g19 => some (0, g19) else some (-2, g)) = some (v, g1) ∧ f_X7_dial g1 (nI q.1) (nI q.2) i x y = some (v, g2) ∧ St p2 g2 b := by
            intro hb
            refine ⟨-2, g, g, p, ?_, ?_, h⟩
            · by_cases y1 : x < 1
              · rw [if_pos y1]
              rw [if_neg y1]
              by_cases y2 : 99 < x
              · rw [if_pos y2]
              rw [if_neg y2]
              by_cases y3 : m_rem x 2 = 0
              · rw [if_pos y3]
              rw [if_neg y3]
              by_cases y4 : m_rem x 5 = 0
              · rw [if_pos y4]
              rw [if_neg y4]
              by_cases y5 : y < 0
              · rw [if_pos y5]
              rw [if_neg y5]
              by_cases y6 : y ≤ 99
              · exfalso
                rcases hb with q1 | q1 | q1 | q1
                · exact in_no q1 ⟨Int32.not_lt.mp y1, Int32.not_lt.mp y2⟩
                · exact y3 q1
                · exact y4 q1
                · exact in_no q1 ⟨Int32.not_lt.mp y5, y6⟩
              · rw [if_neg y6]
            · unfold f_X7_dial
              rw [k3]
              simp only [Option.bind_some, cond_true, nI_6tc, if_pos n2, d2, m68, if_neg z0, if_pos z4, if_pos zi]
              cases y1 : f_X7_in x 1 99 with
              | false => rfl
              | true =>
                simp only [cond_true]
                by_cases y3 : m_rem x 2 = 0
                · rw [if_pos y3]
                rw [if_neg y3]
                by_cases y4 : m_rem x 5 = 0
                · rw [if_pos y4]
                rw [if_neg y4]
                rcases hb with q1 | q1 | q1 | q1
                · rw [y1] at q1; cases q1
                · exact absurd q1 y3
                · exact absurd q1 y4
                · rw [q1]; rfl
          cases y1 : f_X7_in x 1 99 with
          | false => exact bad (Or.inl y1)
          | true =>
            by_cases y3 : m_rem x 2 = 0
            · exact bad (Or.inr (Or.inl y3))
            by_cases y4 : m_rem x 5 = 0
            · exact bad (Or.inr (Or.inr (Or.inl y4)))
            cases y5 : f_X7_in y 0 99 with
            | false => exact bad (Or.inr (Or.inr (Or.inr y5)))
            | true =>
              have x1 := (in_iff x 1 99).mp y1
              have x5 := (in_iff y 0 99).mp y5
              refine ⟨0, m_up (m_up g (20 + 10 * q.1 + q.2) 4 x) (20 + 10 * q.1 + q.2) 5 y, _, _, ?_, ?_, h.name h1 h2 h3 h4 x y⟩
              · rw [if_neg (Int32.not_lt.mpr x1.1), if_neg (Int32.not_lt.mpr x1.2), if_neg y3, if_neg y4, if_neg (Int32.not_lt.mpr x5.1), if_pos x5.2]; rfl
              · unfold f_X7_dial
                rw [isCol_c (by omega), isCol_c (by omega), k3]
                have g68 : m_up (m_up g (20 + 10 * q.1 + q.2) 4 x) (20 + 10 * q.1 + q.2) 5 y 68 (6 * q.1 + q.2) = p 68 (6 * q.1 + q.2) := by rw [m_up_o (by omega), m_up_o (by omega)]; exact m68
                simp only [Option.bind_some, cond_true, nI_6tc, if_pos n2, d2, g68, if_neg z0, if_pos z4, if_pos zi, y1, if_neg y3, if_neg y4, y5, m_let]
        · rw [if_neg zi]
          refine ⟨-1, g, g, p, rfl, ?_, h⟩
          unfold f_X7_dial
          rw [k3]
          simp only [Option.bind_some, cond_true, nI_6tc, if_pos n2, d2, m68, if_neg z0, if_pos z4, if_neg zi]
      · rw [if_neg z4]
        refine ⟨-1, g, g, p, rfl, ?_, h⟩
        unfold f_X7_dial
        rw [k3]
        simp only [Option.bind_some, cond_true, nI_6tc, if_pos n2, d2, m68, if_neg z0, if_neg z4]
end SG
