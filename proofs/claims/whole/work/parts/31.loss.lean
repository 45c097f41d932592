/-! ===== loss ===== -/
section LO
variable {p g : mI} {b : Bool}
def lsf (p : mI) (t c : Nat) (w : Int32) : Nat → Int32 := fun r => if p 76 (72 * t + 6 * r + c) = (-2147483648) then 0 else fmod (p 76 (72 * t + 6 * r + c)) w
theorem F_lossBy (h : St p g b) {t c : Nat} (h1 : t < nT p) (h3 : c < nC p t) {w : Int32} (hw : 1 ≤ w) : f_X6_lossBy g b (nI t) (nI c) w = some (sm (lsf p t c w) 0 (nR p t)) := by
  have hT := h.T.2
  have hR := (h.R h1).2
  have h6 : c < 6 := by have := (h.C h1).2.2; omega
  unfold f_X6_lossBy
  have key := loop_sum (lp := lp_X6_lossBy_6 g b (nI t) (nI c) w) (N := nR p t) (f := lsf p t c w) (fin := fun a => some a) ?_ ?_ (nR p t) 0 0 2000 (by omega) (by omega)
  · rw [show (0 : Int32) = nI 0 from rfl] at key ⊢
    rw [key]
    show some (0 + _) = _
    rw [Int32.zero_add]
  · intro n acc
    rw [lp_X6_lossBy_6, F_rowsOf h, rowsN_nI h h1]
    simp only [Option.bind_some, if_pos (Int32.le_refl _)]
  · intro n acc i hi
    rw [lp_X6_lossBy_6, F_rowsOf h, rowsN_nI h h1]
    simp only [Option.bind_some, if_neg (nI_ge hi (by omega)), F_read (cp_t b) (show t < 4 by omega) (show i < 12 by omega) h6, nI_1, h.e6 t h1 i hi c h3, F_tooFine _ hw]
    unfold lsf
    by_cases z1 : p 76 (72 * t + 6 * i + c) = (-2147483648)
    · rw [if_pos z1, if_pos z1, Int32.add_zero]
    · rw [if_neg z1, if_neg z1]
theorem F_lossOf {g' : mI} (h : St p g b) {t c : Nat} (h1 : t < nT p) (h3 : c < nC p t) {w : Int32} (hw : 1 ≤ w) (e66 : g' 66 t = p 66 t) (e76 : ∀ k, g' 76 k = p 76 k) (e71 : g' 71 (6 * t + c) = w) : f_X7_lossOf g' (nI t) (nI c) = some (sm (lsf p t c w) 0 (nR p t)) := by
  have hT := h.T.2
  have hR := (h.R h1).2
  have h6 : c < 6 := by have := (h.C h1).2.2; omega
  have h4 : t < 4 := by omega
  have n2 : m_in (nI (6 * t + c)) 24 := m_inN (by omega) (by decide)
  have d2 : (nI (6 * t + c)).toNatClampNeg = 6 * t + c := nI_clamp (by omega)
  unfold f_X7_lossOf
  have key := loop_sum (lp := lp_X7_lossOf_5 g' (nI t) (nI c)) (N := nR p t) (f := lsf p t c w) (fin := fun a => some a) ?_ ?_ (nR p t) 0 0 2000 (by omega) (by omega)
  · rw [show (0 : Int32) = nI 0 from rfl] at key ⊢
    rw [key]
    show some (0 + _) = _
    rw [Int32.zero_add]
  · intro n acc
    rw [lp_X7_lossOf_5, if_pos (m_inN h4 (by decide)), nI_clamp (by omega), e66, (h.R h1).1, if_pos (Int32.le_refl _)]
  · intro n acc i hi
    have hc := cell_in h4 (show i < 12 by omega) h6
    have n3 : m_in (nI (72 * t + 6 * i + c)) 288 := m_inN hc (by decide)
    have d3 : (nI (72 * t + 6 * i + c)).toNatClampNeg = 72 * t + 6 * i + c := nI_clamp (by omega)
    rw [lp_X7_lossOf_5, if_pos (m_inN h4 (by decide)), nI_clamp (by omega), e66, (h.R h1).1, if_neg (nI_ge hi (by omega)), nI_cell, if_pos n3, d3, e76, nI_6tc, if_pos n2, d2, e71, F_coarse _ (le1 hw).2.1, nI_1]
    unfold lsf
    by_cases z1 : p 76 (72 * t + 6 * i + c) = (-2147483648)
    · rw [if_pos z1, if_pos z1, Int32.add_zero]
    · rw [if_neg z1, if_neg z1]
      simp only [Option.bind_some, sub_ss]
theorem fits3 {k n : Int32} (e : f_X7_fits k 3 n = true) : 1 ≤ n ∧ n ≤ 1000 ∧ (k = 2 ∨ k = 3) := by
  unfold f_X7_fits at e
  rw [if_neg (by decide), if_neg (by decide), if_neg (by decide), if_pos rfl] at e
  cases z : f_X7_in n 1 1000 with
  | false => rw [z] at e; cases e
  | true =>
    rw [z] at e
    obtain ⟨a1, a2⟩ := (in_iff n 1 1000).mp z
    refine ⟨a1, a2, ?_⟩
    by_cases k2 : k = 2
    · exact Or.inl k2
    · by_cases k3 : k = 3
      · exact Or.inr k3
      · rw [cond_true, if_neg k2, if_neg k3] at e; cases e
theorem s_loss (h : St p g b) (t c : Int32) : ∃ v, f_X6_loss g b t c = some v ∧ f_X7_loss g t c = some v := by
  unfold f_X6_loss f_X7_loss
  rw [F_columnAt h, F7_isColumn h]
  cases ec : cOf p t c with
  | none => exact ⟨-1, rfl, rfl⟩
  | some w =>
    obtain ⟨h1, h4, h3, h6, rfl, rfl⟩ := cOf_some h ec
    have n2 : m_in (nI (6 * w.1 + w.2)) 24 := m_inN (by omega) (by decide)
    have d2 : (nI (6 * w.1 + w.2)).toNatClampNeg = 6 * w.1 + w.2 := nI_clamp (by omega)
    simp only [Option.bind_some, Option.map_some, Option.isSome_some, cond_true, m_oc, if_pos (s0_col w.1 h4 w.2 h6), nI_6tc, if_pos n2, d2, h.m 70 _ (mp_i _ (by decide)), h.col h1 h3 (j := 2) (by decide), h.col h1 h3 (j := 3) (by decide)]
    by_cases k3 : p 70 (6 * w.1 + w.2) = 3
    · rw [if_pos k3, if_pos k3]
      have q := (h.k2 h1 h3).2.2.2
      rw [k3] at q
      have hw := (fits3 q).1
      rw [F_lossBy h h1 h3 hw, F_lossOf h h1 h3 hw (h.m 66 _ (mp_i _ (by decide))) (fun k => h.m 76 _ (mp_i _ (by decide))) (h.m 71 _ (mp_i _ (by decide)))]
      exact ⟨_, rfl, rfl⟩
    · rw [if_neg k3, if_neg k3]; exact ⟨_, rfl, rfl⟩
end LO
