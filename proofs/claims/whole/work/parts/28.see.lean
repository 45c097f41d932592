/-! ===== see, count, joins ===== -/
section SE
variable {p g : mI} {b : Bool}
def seeN (m : Int32) (g : mI) (i : Nat) : mI := fun a k => if a = 87 ∧ k < i then vw g m k else g a k
theorem seeN_up (m : Int32) (g : mI) (i : Nat) : m_up (seeN m g i) 87 i (vw g m i) = seeN m g (i + 1) := by
  funext a k
  rw [m_up_at]
  unfold seeN
  by_cases h1 : a = 87
  · subst h1
    by_cases h2 : k = i
    · subst h2; simp
    · by_cases h3 : k < i
      · rw [if_neg (fun q => h2 q.2), if_pos ⟨rfl, h3⟩, if_pos ⟨rfl, by omega⟩]
      · rw [if_neg (fun q => h2 q.2), if_neg (fun q => h3 q.2), if_neg (fun q => by have := q.2; omega)]
  · rw [if_neg (fun q => h1 q.1), if_neg (fun q => h1 q.1), if_neg (fun q => h1 q.1)]
theorem seeN_o (m : Int32) (g : mI) (i : Nat) {a : Nat} (k : Nat) (ha : a ≠ 87) : seeN m g i a k = g a k := by
  unfold seeN
  rw [if_neg (fun q => ha q.1)]
theorem seeN_0 (m : Int32) (g : mI) : seeN m g 0 = g := by
  funext a k
  unfold seeN
  rw [if_neg (fun q => Nat.not_lt_zero _ q.2)]
theorem np87 (b : Bool) : ¬ pers b 87 := by
  unfold pers mp
  cases b
  · show ¬ (_ ∨ _ ∨ _ ∨ _ ∨ 87 = 12 + 1 ∨ _); omega
  · show ¬ (_ ∨ _ ∨ _ ∨ _ ∨ 87 = 14 + 1 ∨ _); omega
theorem F_see (h : St p g b) (m : Int32) : ∃ g2, f_X7_see g b m = some g2 ∧ St p g2 b ∧ (∀ k, k < 288 → g2 87 k = vw p m k) ∧ ∀ a k, a ≠ 87 → g2 a k = g a k := by
  refine ⟨seeN m g 288, ?_, h.congr fun a k ha => seeN_o m g 288 k (fun e => np87 b (e ▸ ha)), ?_, fun a k ha => seeN_o m g 288 k ha⟩
  · unfold f_X7_see
    have key := loop_st (lp := lp_X7_see_2 b m) (N := 288) (st := seeN m g) (fin := some (seeN m g 288)) ?_ ?_ 288 0 2000 rfl (by decide)
    · rw [seeN_0] at key; exact key
    · intro n
      rw [lp_X7_see_2, if_pos (show (288 : Int32) ≤ nI 288 by decide)]
    · intro n i hi
      have n1 : m_in (nI i) 288 := m_inN hi (by decide)
      have d1 : (nI i).toNatClampNeg = i := nI_clamp (by omega)
      rw [lp_X7_see_2, if_neg (show ¬ (288 : Int32) ≤ nI i from nI_ge (b := 288) hi (by decide))]
      simp only [if_pos n1, d1, m_let, nI_1]
      have q := seeN_up m g i
      unfold vw at q
      by_cases hm : m = 1
      · rw [if_pos hm] at q ⊢
        rw [seeN_o m g i i (a := 77) (by decide), q]
      · rw [if_neg hm] at q ⊢
        rw [seeN_o m g i i (a := 76) (by decide), q]
  · intro k hk
    unfold seeN vw
    rw [if_pos ⟨rfl, hk⟩]
    by_cases hm : m = 1
    · rw [if_pos hm, if_pos hm]; exact h.m 77 k (mp_i _ (by decide))
    · rw [if_neg hm, if_neg hm]; exact h.m 76 k (mp_i _ (by decide))
/-- made 0, or made 1 when there is a made one -/
def can (p : mI) (m : Int32) : Prop := m = 0 ∨ (m = 1 ∧ ¬ p 64 16 = 0)
theorem can_c (h : St p g b) {m : Int32} (hm : can p m) : f_X6_copyOf g b m = some (some (cpx b m)) := by
  rw [F_copyOf h]
  unfold cpx
  rcases hm with rfl | ⟨rfl, h1⟩
  · rw [if_pos rfl, if_neg (by decide)]
  · rw [if_neg (by decide), if_neg h1, if_pos rfl]
theorem can_m {α : Type} {m : Int32} (hm : can p m) (A X : α) : (if m = 1 then (if p 64 16 = 0 then A else X) else X) = X := by
  rcases hm with rfl | ⟨rfl, h1⟩
  · rw [if_neg (by decide)]
  · rw [if_pos rfl, if_neg h1]
theorem can_no {m : Int32} (hb : f_X6_isBit m = true) (hm : ¬ can p m) : m = 1 ∧ p 64 16 = 0 := by
  rcases bit01 hb with rfl | rfl
  · exact absurd (Or.inl rfl) hm
  · refine ⟨rfl, ?_⟩
    by_cases h1 : p 64 16 = 0
    · exact h1
    · exact absurd (Or.inr ⟨rfl, h1⟩) hm
theorem can_cn (h : St p g b) {m : Int32} (hm : m = 1 ∧ p 64 16 = 0) : f_X6_copyOf g b m = some none := by
  rw [F_copyOf h, hm.1, if_neg (by decide), if_pos hm.2]
theorem can_mn {α : Type} {m : Int32} (hm : m = 1 ∧ p 64 16 = 0) (A X : α) : (if m = 1 then (if p 64 16 = 0 then A else X) else X) = A := by
  rw [if_pos hm.1, if_pos hm.2]
theorem cpx_sm (h : St p g b) {m : Int32} (hm : can p m) {t c : Nat} (ht : t < nT p) (hc : c < nC p t) (x : Int32) : sm (cntf (g (cpx b m + 1)) t c x) 0 (nR p t) = sm (cntf (vw p m) t c x) 0 (nR p t) := by
  apply sm_congr
  intro j _ hj
  unfold cntf
  rw [cpx_cell h hm ht (show j < nR p t by omega) hc]
theorem s_count (h : St p g b) (t c x m : Int32) : ∃ v g2, f_X6_count g b t c x m = some v ∧ f_X7_count g b t c x m = some (v, g2) ∧ St p g2 b := by
  unfold f_X6_count f_X7_count
  rw [F_columnAt h, F7_isColumn h, isBit_in]
  cases ec : cOf p t c with
  | none => exact ⟨-1, g, rfl, rfl, h⟩
  | some w =>
    obtain ⟨h1, h4, h3, h6, rfl, rfl⟩ := cOf_some h ec
    simp only [Option.bind_some, Option.map_some, Option.isSome_some, cond_true, m_oc, h.m 64 16 (mp_i _ (by decide))]
    cases hb : f_X6_isBit m with
    | false => exact ⟨-2, g, rfl, rfl, h⟩
    | true =>
      simp only [cond_true]
      by_cases hm : can p m
      · obtain ⟨g2, k1, k2, k3, k4⟩ := F_see h m
        rw [can_c h hm, can_m hm]
        refine ⟨sm (cntf (vw p m) w.1 w.2 x) 0 (nR p w.1), g2, ?_, ?_, k2⟩
        · show ((f_X6_rowsWith g b (cpx b m) (nI w.1) (nI w.2) x).bind fun v8 => some v8) = _
          rw [F_rowsWith h (cpx_copy b m) h1 h6, cpx_sm h hm h1 h3]; rfl
        · rw [k1]
          show lp_X7_count_52 b (nI w.1) (nI w.2) x m g2 2000 0 0 = _
          have hR := (h.R h1).2
          have key := loop_sum (lp := lp_X7_count_52 b (nI w.1) (nI w.2) x m g2) (N := nR p w.1) (f := cntf (vw p m) w.1 w.2 x) (fin := fun a => some (a, g2)) ?_ ?_ (nR p w.1) 0 0 2000 (by omega) (by omega)
          · rw [show (0 : Int32) = nI 0 from rfl] at key ⊢
            rw [key]
            show some (0 + _, _) = _
            rw [Int32.zero_add]
          · intro n acc
            rw [lp_X7_count_52, if_pos (m_inN h4 (by decide)), nI_clamp (by omega), k2.m 66 _ (mp_i _ (by decide)), (h.R h1).1, if_pos (Int32.le_refl _)]
          · intro n acc i hi
            have hc := cell_in h4 (show i < 12 by omega) h6
            have n3 : m_in (nI (72 * w.1 + 6 * i + w.2)) 288 := m_inN hc (by decide)
            have d3 : (nI (72 * w.1 + 6 * i + w.2)).toNatClampNeg = 72 * w.1 + 6 * i + w.2 := nI_clamp (by omega)
            rw [lp_X7_count_52, if_pos (m_inN h4 (by decide)), nI_clamp (by omega), k2.m 66 _ (mp_i _ (by decide)), (h.R h1).1, if_neg (nI_ge hi (by omega)), nI_cell, if_pos n3, d3, k3 _ hc, nI_1]
            unfold cntf
            by_cases z : vw p m (72 * w.1 + 6 * i + w.2) = x
            · rw [if_pos z, if_pos z]
            · rw [if_neg z, if_neg z]
      · have hm' := can_no hb hm
        rw [can_cn h hm', can_mn hm']
        exact ⟨-3, g, rfl, rfl, h⟩
end SE
