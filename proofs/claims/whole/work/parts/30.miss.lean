/-! ===== joins, miss, loss ===== -/
section MI
variable {p g : mI} {b : Bool}
theorem St.k2 (h : St p g b) {t c : Nat} (ht : t < nT p) (hc : c < nC p t) : (p 68 (6 * t + c) = 0 ↔ c = 0) ∧ (p 68 (6 * t + c) = 0 ∨ p 68 (6 * t + c) = 1 ∨ p 68 (6 * t + c) = 2 ∨ p 68 (6 * t + c) = 3 ∨ p 68 (6 * t + c) = 4) ∧ (p 68 (6 * t + c) = 1 → ∃ u, u < nT p ∧ p 69 (6 * t + c) = nI u) ∧ f_X7_fits (p 68 (6 * t + c)) (p 70 (6 * t + c)) (p 71 (6 * t + c)) = true := h.2.1.2.1 t ht c hc
/-- what the loop over rows does at a row of the reference's joins -/
def jnf (p : mI) (m : Int32) (t c u : Nat) : Nat → Int32 := fun r => sm (cntf (vw p m) u 0 (vw p m (72 * t + 6 * r + c))) 0 (nR p u)
theorem s_joins (h : St p g b) (t c m : Int32) : ∃ v g2, f_X6_joins g b t c m = some v ∧ f_X7_joins g b t c m = some (v, g2) ∧ St p g2 b := by
  unfold f_X6_joins f_X7_joins
  rw [F_columnAt h, F7_isColumn h, isBit_in]
  cases ec : cOf p t c with
  | none => exact ⟨-1, g, rfl, rfl, h⟩
  | some w =>
    obtain ⟨h1, h4, h3, h6, rfl, rfl⟩ := cOf_some h ec
    have hT := h.T.2
    have n2 : m_in (nI (6 * w.1 + w.2)) 24 := m_inN (by omega) (by decide)
    have d2 : (nI (6 * w.1 + w.2)).toNatClampNeg = 6 * w.1 + w.2 := nI_clamp (by omega)
    simp only [Option.bind_some, Option.map_some, Option.isSome_some, cond_true, m_oc, h.m 64 16 (mp_i _ (by decide)), if_pos (s0_col w.1 h4 w.2 h6), nI_6tc, if_pos n2, d2, h.m 68 _ (mp_i _ (by decide)), h.col h1 h3 (j := 0) (by decide)]
    by_cases hk : p 68 (6 * w.1 + w.2) = 1
    · rw [if_pos hk, if_pos hk]
      obtain ⟨u, hu, eu⟩ := (h.k2 h1 h3).2.2.1 hk
      have hu4 : u < 4 := by omega
      have hu6 := (h.C hu).2.1
      cases hb : f_X6_isBit m with
      | false => exact ⟨-2, g, rfl, rfl, h⟩
      | true =>
        simp only [cond_true]
        by_cases hm : can p m
        · obtain ⟨g2, k1, k2, k3, k4⟩ := F_see h m
          rw [can_c h hm, can_m hm]
          have hR := (h.R h1).2
          have hRu := (h.R hu).2
          refine ⟨sm (jnf p m w.1 w.2 u) 0 (nR p w.1), g2, ?_, ?_, k2⟩
          · show lp_X6_joins_55 g b (nI w.1) (nI w.2) m (20 + 10 * w.1 + w.2) (cpx b m) 2000 0 0 = _
            have key := loop_sum (lp := lp_X6_joins_55 g b (nI w.1) (nI w.2) m (20 + 10 * w.1 + w.2) (cpx b m)) (N := nR p w.1) (f := jnf p m w.1 w.2 u) (fin := fun a => some a) ?_ ?_ (nR p w.1) 0 0 2000 (by omega) (by omega)
            · rw [show (0 : Int32) = nI 0 from rfl] at key ⊢
              rw [key]
              show some (0 + _) = _
              rw [Int32.zero_add]
            · intro n acc
              rw [lp_X6_joins_55, F_rowsOf h, rowsN_nI h h1]
              simp only [Option.bind_some, if_pos (Int32.le_refl _)]
            · intro n acc i hi
              rw [lp_X6_joins_55, F_rowsOf h, rowsN_nI h h1]
              simp only [Option.bind_some, if_neg (nI_ge hi (by omega)), if_pos (cpx_copy b m).1, F_read (cpx_copy b m) h4 (show i < 12 by omega) h6, nI_1, if_pos (s0_col w.1 h4 w.2 h6), h.col h1 h3 (j := 1) (by decide), eu]
              rw [show (0 : Int32) = nI 0 from rfl, F_rowsWith h (cpx_copy b m) hu (by decide), cpx_sm h hm hu hu6, cpx_cell h hm h1 hi h3]
              rfl
          · rw [k1]
            show lp_X7_joins_64 b (nI w.1) (nI w.2) m g2 2000 0 0 = _
            have key := loop_sum (lp := lp_X7_joins_64 b (nI w.1) (nI w.2) m g2) (N := nR p w.1) (f := jnf p m w.1 w.2 u) (fin := fun a => some (a, g2)) ?_ ?_ (nR p w.1) 0 0 2000 (by omega) (by omega)
            · rw [show (0 : Int32) = nI 0 from rfl] at key ⊢
              rw [key]
              show some (0 + _, _) = _
              rw [Int32.zero_add]
            · intro n acc
              rw [lp_X7_joins_64, if_pos (m_inN h4 (by decide)), nI_clamp (by omega), k2.m 66 _ (mp_i _ (by decide)), (h.R h1).1, if_pos (Int32.le_refl _)]
            · intro n acc i hi
              rw [lp_X7_joins_64, if_pos (m_inN h4 (by decide)), nI_clamp (by omega), k2.m 66 _ (mp_i _ (by decide)), (h.R h1).1, if_neg (nI_ge hi (by omega))]
              have hc := cell_in h4 (show i < 12 by omega) h6
              have n3 : m_in (nI (72 * w.1 + 6 * i + w.2)) 288 := m_inN hc (by decide)
              have d3 : (nI (72 * w.1 + 6 * i + w.2)).toNatClampNeg = 72 * w.1 + 6 * i + w.2 := nI_clamp (by omega)
              have nu : m_in (nI u) 4 := m_inN hu4 (by decide)
              have du : (nI u).toNatClampNeg = u := nI_clamp (by omega)
              have key2 := loop_sum (lp := lp_X7_joins_78 b (nI w.1) (nI w.2) m g2 (nI i) (fun y64_4 y64_5 => lp_X7_joins_64 b (nI w.1) (nI w.2) m g2 n y64_4 y64_5)) (N := nR p u) (f := cntf (vw p m) u 0 (vw p m (72 * w.1 + 6 * i + w.2))) (fin := fun a => lp_X7_joins_64 b (nI w.1) (nI w.2) m g2 n a (nI (i + 1))) ?_ ?_ (nR p u) 0 acc 2000 (by omega) (by omega)
              · exact key2
              · intro n' acc'
                rw [lp_X7_joins_78, nI_6tc, if_pos n2, d2, k2.m 69 _ (mp_i _ (by decide)), eu, if_pos nu, du, k2.m 66 _ (mp_i _ (by decide)), (h.R hu).1, if_pos (Int32.le_refl _), nI_1]
              · intro n' acc' j hj
                have hc2 := cell_in hu4 (show j < 12 by omega) (show 0 < 6 by decide)
                have n5 : m_in (nI (72 * u + 6 * j + 0)) 288 := m_inN hc2 (by decide)
                have d5 : (nI (72 * u + 6 * j + 0)).toNatClampNeg = 72 * u + 6 * j + 0 := nI_clamp (by omega)
                rw [lp_X7_joins_78, nI_6tc, if_pos n2, d2, k2.m 69 _ (mp_i _ (by decide)), eu, if_pos nu, du, k2.m 66 _ (mp_i _ (by decide)), (h.R hu).1, if_neg (nI_ge hj (by omega)), nI_cell, if_pos n3, show f_X7_cell (nI u) (nI j) 0 = nI (72 * u + 6 * j + 0) from nI_cell u j 0, if_pos n5, d3, d5, k3 _ hc, k3 _ hc2, nI_1]
                unfold cntf
                by_cases z : vw p m (72 * w.1 + 6 * i + w.2) = vw p m (72 * u + 6 * j + 0)
                · rw [if_pos z, if_pos z.symm]
                · rw [if_neg z, if_neg (fun y => z y.symm)]
        · have hm' := can_no hb hm
          rw [can_cn h hm', can_mn hm']
          exact ⟨-3, g, rfl, rfl, h⟩
    · rw [if_neg hk, if_neg hk]
      exact ⟨-2, g, rfl, rfl, h⟩
/-- a true number is small -/
theorem in_tI {v lo hi : Int32} (e : f_X7_in v lo hi = true) : lo.toInt ≤ v.toInt ∧ v.toInt ≤ hi.toInt := by
  obtain ⟨a1, a2⟩ := (in_iff v lo hi).mp e
  exact ⟨Int32.le_iff_toInt_le.mp a1, Int32.le_iff_toInt_le.mp a2⟩
theorem isOf_b {k v : Int32} (e : f_X7_isOf k v = true) (hv : ¬ v = (-2147483648)) : -9999 ≤ v.toInt ∧ v.toInt ≤ 99999 := by
  unfold f_X7_isOf at e
  rw [if_neg hv] at e
  by_cases k2 : k = 2
  · rw [if_pos k2] at e
    have q := in_tI e
    rw [show (9999 : Int32).toInt = 9999 by decide, show (0 : Int32).toInt = 0 by decide] at q; omega
  · rw [if_neg k2] at e
    by_cases k3 : k = 3
    · rw [if_pos k3] at e
      have q := in_tI e
      rw [show (9999 : Int32).toInt = 9999 by decide, show (-9999 : Int32).toInt = -9999 by decide] at q; omega
    · rw [if_neg k3] at e
      by_cases k4 : k = 4
      · rw [if_pos k4] at e
        have q := in_tI e
        rw [show (99 : Int32).toInt = 99 by decide, show (0 : Int32).toInt = 0 by decide] at q; omega
      · rw [if_neg k4] at e
        unfold f_X7_isKey at e
        cases z : f_X7_in v 0 99999 with
        | false => rw [z] at e; cases e
        | true =>
          have q := in_tI z
          rw [show (99999 : Int32).toInt = 99999 by decide, show (0 : Int32).toInt = 0 by decide] at q; omega
theorem St.cell (h : St p g b) {t r c : Nat} (ht : t < nT p) (hr : r < nR p t) (hc : c < nC p t) : f_X7_isOf (p 68 (6 * t + c)) (p 76 (72 * t + 6 * r + c)) = true := h.2.1.2.2.2.1.1 t ht r hr c hc
theorem St.i6 (h : St p g b) : I6 p := h.2.1.2.2.2.2.2
def msf (p : mI) (t c : Nat) : Nat → Int32 := fun r => if p 76 (72 * t + 6 * r + c) = (-2147483648) then 0 else if p 77 (72 * t + 6 * r + c) = (-2147483648) then 0 else if p 77 (72 * t + 6 * r + c) ≤ p 76 (72 * t + 6 * r + c) then p 76 (72 * t + 6 * r + c) - p 77 (72 * t + 6 * r + c) else p 77 (72 * t + 6 * r + c) - p 76 (72 * t + 6 * r + c)
theorem F_missC (h : St p g b) (hm : p 64 16 = 1) {t c : Nat} (h1 : t < nT p) (h3 : c < nC p t) (hk : p 68 (6 * t + c) = 2 ∨ p 68 (6 * t + c) = 3) (q : Nat) : lp_X6_miss_48 g b (nI t) (nI c) q 2000 0 0 = some (sm (msf p t c) 0 (nR p t)) := by
  have hT := h.T.2
  have hR := (h.R h1).2
  have h6 : c < 6 := by have := (h.C h1).2.2; omega
  have key := loop_sum (lp := lp_X6_miss_48 g b (nI t) (nI c) q) (N := nR p t) (f := msf p t c) (fin := fun a => some a) ?_ ?_ (nR p t) 0 0 2000 (by omega) (by omega)
  · rw [show (0 : Int32) = nI 0 from rfl] at key ⊢
    rw [key]
    show some (0 + _) = _
    rw [Int32.zero_add]
  · intro n acc
    rw [lp_X6_miss_48, F_rowsOf h, rowsN_nI h h1]
    simp only [Option.bind_some, if_pos (Int32.le_refl _)]
  · intro n acc i hi
    rw [lp_X6_miss_48, F_rowsOf h, rowsN_nI h h1]
    simp only [Option.bind_some, if_neg (nI_ge hi (by omega)), if_pos (s0_pM b), F_read (cp_t b) (show t < 4 by omega) (show i < 12 by omega) h6, F_read (cp_M b) (show t < 4 by omega) (show i < 12 by omega) h6, nI_1, h.e6 t h1 i hi c h3, h.e7 hm t h1 i hi c h3]
    unfold msf
    by_cases z1 : p 76 (72 * t + 6 * i + c) = (-2147483648)
    · rw [if_pos z1, if_pos z1, Int32.add_zero]
    · rw [if_neg z1, if_neg z1]
      by_cases z2 : p 77 (72 * t + 6 * i + c) = (-2147483648)
      · rw [if_pos z2, if_pos z2, Int32.add_zero]
      · rw [if_neg z2, if_neg z2]
        have a1 := isOf_b (h.cell h1 hi h3) z1
        have a2 := (h.i6 hm t h1 i hi c h3 hk).resolve_left z2
        rw [gap_eq (by omega) (by omega)]
theorem F_missM (h : St p g b) {t c : Nat} (h1 : t < nT p) (h3 : c < nC p t) : lp_X7_miss_59 g b (nI t) (nI c) 2000 0 0 = some (sm (msf p t c) 0 (nR p t)) := by
  have hT := h.T.2
  have hR := (h.R h1).2
  have h6 : c < 6 := by have := (h.C h1).2.2; omega
  have h4 : t < 4 := by omega
  have key := loop_sum (lp := lp_X7_miss_59 g b (nI t) (nI c)) (N := nR p t) (f := msf p t c) (fin := fun a => some a) ?_ ?_ (nR p t) 0 0 2000 (by omega) (by omega)
  · rw [show (0 : Int32) = nI 0 from rfl] at key ⊢
    rw [key]
    show some (0 + _) = _
    rw [Int32.zero_add]
  · intro n acc
    rw [lp_X7_miss_59, if_pos (m_inN h4 (by decide)), nI_clamp (by omega), h.m 66 _ (mp_i _ (by decide)), (h.R h1).1, if_pos (Int32.le_refl _)]
  · intro n acc i hi
    have hc := cell_in h4 (show i < 12 by omega) h6
    have n3 : m_in (nI (72 * t + 6 * i + c)) 288 := m_inN hc (by decide)
    have d3 : (nI (72 * t + 6 * i + c)).toNatClampNeg = 72 * t + 6 * i + c := nI_clamp (by omega)
    rw [lp_X7_miss_59, if_pos (m_inN h4 (by decide)), nI_clamp (by omega), h.m 66 _ (mp_i _ (by decide)), (h.R h1).1, if_neg (nI_ge hi (by omega)), nI_cell, if_pos n3, d3, h.m 76 _ (mp_i _ (by decide)), h.m 77 _ (mp_i _ (by decide)), nI_1]
    unfold msf m_let
    by_cases z1 : p 76 (72 * t + 6 * i + c) = (-2147483648)
    · rw [if_pos z1, if_pos z1, Int32.add_zero]
    · rw [if_neg z1, if_neg z1]
      by_cases z2 : p 77 (72 * t + 6 * i + c) = (-2147483648)
      · rw [if_pos z2, if_pos z2, Int32.add_zero]
      · rw [if_neg z2, if_neg z2]
        by_cases z3 : p 77 (72 * t + 6 * i + c) ≤ p 76 (72 * t + 6 * i + c)
        · rw [if_pos z3, if_pos z3]
        · rw [if_neg z3, if_neg z3]
theorem s_miss (h : St p g b) (t c : Int32) : ∃ v, f_X6_miss g b t c = some v ∧ f_X7_miss g b t c = some v := by
  unfold f_X6_miss f_X7_miss
  rw [F_columnAt h, F7_isColumn h]
  cases ec : cOf p t c with
  | none => exact ⟨-1, rfl, rfl⟩
  | some w =>
    obtain ⟨h1, h4, h3, h6, rfl, rfl⟩ := cOf_some h ec
    have n2 : m_in (nI (6 * w.1 + w.2)) 24 := m_inN (by omega) (by decide)
    have d2 : (nI (6 * w.1 + w.2)).toNatClampNeg = 6 * w.1 + w.2 := nI_clamp (by omega)
    simp only [Option.bind_some, Option.map_some, Option.isSome_some, cond_true, m_oc, h.m 64 16 (mp_i _ (by decide)), if_pos (s0_col w.1 h4 w.2 h6), nI_6tc, if_pos n2, d2, h.m 68 _ (mp_i _ (by decide)), h.col h1 h3 (j := 0) (by decide), h.e1.2.2.2.2]
    by_cases k2 : p 68 (6 * w.1 + w.2) = 2
    · rw [if_pos k2, if_pos k2]
      rcases h.hm with z | z
      · rw [if_pos z, if_pos z]; exact ⟨_, rfl, rfl⟩
      · have z0 : ¬ p 64 16 = 0 := by rw [z]; decide
        rw [if_neg z0, if_neg z0]
        exact ⟨_, F_missC h z h1 h3 (Or.inl k2) _, F_missM h h1 h3⟩
    · rw [if_neg k2, if_neg k2]
      by_cases k3 : p 68 (6 * w.1 + w.2) = 3
      · rw [if_pos k3, if_pos k3]
        rcases h.hm with z | z
        · rw [if_pos z, if_pos z]; exact ⟨_, rfl, rfl⟩
        · have z0 : ¬ p 64 16 = 0 := by rw [z]; decide
          rw [if_neg z0, if_neg z0]
          exact ⟨_, F_missC h z h1 h3 (Or.inr k3) _, F_missM h h1 h3⟩
      · rw [if_neg k3, if_neg k3]; exact ⟨_, rfl, rfl⟩
end MI
