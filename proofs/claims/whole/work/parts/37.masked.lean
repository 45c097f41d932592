/-! ===== a masked cell, both ===== -/
theorem fits4 {k n : Int32} (e : f_X7_fits k 4 n = true) : (∃ d, d ≤ 11 ∧ n = nI d) ∧ k = 4 := by
  unfold f_X7_fits at e
  rw [if_neg (by decide), if_neg (by decide), if_neg (by decide), if_neg (by decide), if_pos rfl] at e
  cases z : f_X7_in n 0 11 with
  | false => rw [z] at e; cases e
  | true =>
    rw [z] at e
    obtain ⟨a1, a2⟩ := (in_iff n 0 11).mp z
    refine ⟨nn_of3 (n := 11) (by decide) a1 a2, ?_⟩
    by_cases k4 : k = 4
    · exact k4
    · rw [cond_true, if_neg k4] at e; cases e
theorem isOf_key {k v : Int32} (hk : k = 0 ∨ k = 1) (e : f_X7_isOf k v = true) (hv : ¬ v = (-2147483648)) : ∃ n, keyN n ∧ v = nI n := by
  unfold f_X7_isOf at e
  rw [if_neg hv] at e
  rcases hk with rfl | rfl
  · rw [if_neg (by decide), if_neg (by decide), if_neg (by decide)] at e
    exact (isKey_iff v).mp e
  · rw [if_neg (by decide), if_neg (by decide), if_neg (by decide)] at e
    exact (isKey_iff v).mp e
section MK
variable {p g : mI} {b : Bool}
/-- a masked cell -/
def mkv (p : mI) (t r c : Nat) : Int32 :=
  if p 70 (6 * t + c) = 4 then p 76 (72 * t + 6 * ((r + (p 71 (6 * t + c)).toNatClampNeg) % nR p t) + c) else
  if p 76 (72 * t + 6 * r + c) = (-2147483648) then (-2147483648) else
  if p 70 (6 * t + c) = 5 then (-2147483648) else
  if p 68 (6 * t + c) = 1 then (if p 70 (6 * (p 69 (6 * t + c)).toNatClampNeg) = 1 then nI (tkey p (p 69 (6 * t + c)).toNatClampNeg (p 76 (72 * t + 6 * r + c)).toNatClampNeg) else p 76 (72 * t + 6 * r + c)) else
  if p 70 (6 * t + c) = 1 then (if p 68 (6 * t + c) = 0 then nI (tkey p t (p 76 (72 * t + 6 * r + c)).toNatClampNeg) else m_rem (p 72 (6 * t + c) * p 76 (72 * t + 6 * r + c) + p 73 (6 * t + c)) 100) else
  if p 70 (6 * t + c) = 2 then p 76 (72 * t + 6 * r + c) + shv p (ow p t r) else
  if p 70 (6 * t + c) = 3 then p 76 (72 * t + 6 * r + c) - fmod (p 76 (72 * t + 6 * r + c)) (p 71 (6 * t + c)) else p 76 (72 * t + 6 * r + c)
theorem F_turnsKeys (h : St p g b) {u : Nat} (hu : u < nT p) : f_X4_turnsKeys g b (16 + 10 * u) = some (decide (p 70 (6 * u) = 1)) := by
  have hT := h.T.2
  have hC := h.C hu
  have ec : g (20 + 10 * u + 0) 2 = p 70 (6 * u) := h.col hu (show 0 < nC p u by omega) (j := 2) (by decide)
  unfold f_X4_turnsKeys
  rw [if_pos (s0_tab u (by omega)), fr_t0 b u (by omega), Option.bind_some, ln_cols u (by omega), Option.bind_some, if_pos (show m_in 0 6 by decide), fr_col b u (by omega) 0 (by decide), Option.bind_some, if_pos (s0_col u (by omega) 0 (by decide)), ec]
  by_cases z : p 70 (6 * u) = 1
  · rw [if_pos z, decide_eq_true z]
  · rw [if_neg z, decide_eq_false z]
theorem ow_key (h : St p g b) {t r : Nat} (ht : t < nT p) (hr : r < nR p t) : ow p t r = (-2147483648) ∨ ∃ n, n < 100000 ∧ ow p t r = nI n := by
  have hO := h.O ht
  by_cases z : ow p t r = (-2147483648)
  · exact Or.inl z
  · right
    have hk : p 68 (6 * t + nO p t) = 0 ∨ p 68 (6 * t + nO p t) = 1 := by
      rcases hO.2.2 with y | y
      · left; exact (h.k2 ht hO.2.1).1.mpr y
      · exact Or.inr y
    obtain ⟨n, hn, e⟩ := isOf_key hk (h.cell ht hr hO.2.1) z
    exact ⟨n, hn.1, e⟩
theorem F_maskedM (h : St p g b) {t r c : Nat} (ht : t < nT p) (hr : r < nR p t) (hc : c < nC p t) : f_X7_maskedCell g (nI t) (nI r) (nI c) = some (mkv p t r c) := by
  have hT := h.T.2
  have hC := h.C ht
  have hR := h.R ht
  have n3 : m_in (nI (72 * t + 6 * r + c)) 288 := m_inN (cell_in (by omega) (by omega) (by omega)) (by decide)
  have d3 : (nI (72 * t + 6 * r + c)).toNatClampNeg = 72 * t + 6 * r + c := nI_clamp (by omega)
  have n4 : m_in (nI (6 * t + c)) 24 := m_inN (by omega) (by decide)
  have d4 : (nI (6 * t + c)).toNatClampNeg = 6 * t + c := nI_clamp (by omega)
  have nt : m_in (nI t) 4 := m_inN (by omega) (by decide)
  have dt : (nI t).toNatClampNeg = t := nI_clamp (by omega)
  have r0 : ¬ nI (nR p t) = 0 := nI_ne0 (by omega) (by omega)
  obtain ⟨q1, q2, q3, q4⟩ := h.k2 ht hc
  have qc := h.cell ht hr hc
  unfold f_X7_maskedCell mkv
  simp only [nI_cell, nI_6tc, if_pos n3, if_pos n4, d3, d4, h.m 70 _ (mp_i _ (by decide)), h.m 71 _ (mp_i _ (by decide)), h.m 66 _ (mp_i _ (by decide)), h.m 68 _ (mp_i _ (by decide)), h.m 69 _ (mp_i _ (by decide)), h.m 76 _ (mp_i _ (by decide)), if_pos nt, dt, hR.1]
  by_cases z4 : p 70 (6 * t + c) = 4
  · rw [if_pos z4, if_pos z4, if_pos r0]
    rw [z4] at q4
    obtain ⟨⟨d, hd, ed⟩, -⟩ := fits4 q4
    have hlt := Nat.mod_lt (r + d) (show 0 < nR p t by omega)
    have n5 : m_in (nI (72 * t + 6 * ((r + d) % nR p t) + c)) 288 := m_inN (cell_in (by omega) (by omega) (by omega)) (by decide)
    rw [ed, nI_add, m_remN (by omega) (by omega) (by omega), nI_cell, if_pos n5, nI_clamp (by omega), nI_clamp (by omega)]
  · rw [if_neg z4, if_neg z4]
    by_cases zm : p 76 (72 * t + 6 * r + c) = (-2147483648)
    · rw [if_pos zm, if_pos zm]
    · rw [if_neg zm, if_neg zm]
      by_cases z5 : p 70 (6 * t + c) = 5
      · rw [if_pos z5, if_pos z5]
      · rw [if_neg z5, if_neg z5]
        by_cases k1 : p 68 (6 * t + c) = 1
        · rw [if_pos k1, if_pos k1]
          obtain ⟨u, hu, eu⟩ := q3 k1
          have n6 : m_in (nI (6 * u)) 24 := m_inN (by omega) (by decide)
          have d6 : (nI (6 * u)).toNatClampNeg = 6 * u := nI_clamp (by omega)
          have du : (nI u).toNatClampNeg = u := nI_clamp (by omega)
          obtain ⟨n, hn, en⟩ := isOf_key (Or.inr k1) qc zm
          have := hn.1
          rw [eu, show (6 : Int32) = nI 6 from rfl, pk_mul, if_pos n6, d6, du, en, F_turnedKey h hu (by omega), nI_clamp (n := n) (by omega)]
          by_cases z1 : p 70 (6 * u) = 1
          · rw [if_pos z1, if_pos z1]; rfl
          · rw [if_neg z1, if_neg z1]
        · rw [if_neg k1, if_neg k1]
          by_cases z1 : p 70 (6 * t + c) = 1
          · rw [if_pos z1, if_pos z1]
            by_cases k0 : p 68 (6 * t + c) = 0
            · rw [if_pos k0, if_pos k0]
              obtain ⟨n, hn, en⟩ := isOf_key (Or.inl k0) qc zm
              have := hn.1
              rw [en, F_turnedKey h ht (by omega), nI_clamp (n := n) (by omega)]; rfl
            · rw [if_neg k0, if_neg k0]
              unfold f_X7_turnedName
              rw [if_pos n4, d4, h.m 72 _ (mp_i _ (by decide)), h.m 73 _ (mp_i _ (by decide))]; rfl
          · rw [if_neg z1, if_neg z1]
            by_cases z2 : p 70 (6 * t + c) = 2
            · rw [if_pos z2, if_pos z2, F_ownerM h ht hr, Option.bind_some, F_shiftM h (ow_key h ht hr)]; rfl
            · rw [if_neg z2, if_neg z2]
              by_cases z3 : p 70 (6 * t + c) = 3
              · rw [if_pos z3, if_pos z3]
                rw [z3] at q4
                rw [F_coarse _ (le1 (fits3 q4).1).2.1]; rfl
              · rw [if_neg z3, if_neg z3]
theorem F_maskedC (h : St p g b) {t r c : Nat} (ht : t < nT p) (hr : r < nR p t) (hc : c < nC p t) {sh : Int32} (hsh : p 70 (6 * t + c) = 2 → sh = shv p (ow p t r)) : f_X6_maskedCell g b (nI t) (nI r) (nI c) sh = some (mkv p t r c) := by
  have hT := h.T.2
  have hC := h.C ht
  have hR := h.R ht
  obtain ⟨q1, q2, q3, q4⟩ := h.k2 ht hc
  have qc := h.cell ht hr hc
  have c0 : g (20 + 10 * t + c) 0 = p 68 (6 * t + c) := h.col ht hc (j := 0) (by decide)
  have c1 : g (20 + 10 * t + c) 1 = p 69 (6 * t + c) := h.col ht hc (j := 1) (by decide)
  have c2 : g (20 + 10 * t + c) 2 = p 70 (6 * t + c) := h.col ht hc (j := 2) (by decide)
  have c3 : g (20 + 10 * t + c) 3 = p 71 (6 * t + c) := h.col ht hc (j := 3) (by decide)
  unfold f_X6_maskedCell mkv
  rw [F_tableAt h, tOf_nI h ht, F_columnAt h, cOf_nI h ht hc]
  simp only [Option.map_some, Option.bind_some, m_oc, if_pos (s0_tab t (show t < 4 by omega)), if_pos (s0_col t (show t < 4 by omega) c (show c < 6 by omega)), c0, c1, c2, c3, F_read (cp_t b) (show t < 4 by omega) (show r < 12 by omega) (show c < 6 by omega), h.e6 t ht r hr c hc]
  by_cases z4 : p 70 (6 * t + c) = 4
  · rw [if_pos z4, if_pos z4]
    rw [z4] at q4
    obtain ⟨⟨d, hd, ed⟩, -⟩ := fits4 q4
    have hlt := Nat.mod_lt (r + d) (show 0 < nR p t by omega)
    unfold f_X6_dealtCell
    rw [F_rowsOf h, rowsN_nI h ht, Option.bind_some, if_pos (show (1 : Int32) ≤ nI (nR p t) from nI_le (a := 1) (by omega) (by omega)), if_pos (nI_ne0 (by omega) (by omega)), ed, nI_add, m_remN (by omega) (by omega) (by omega), F_read (cp_t b) (by omega) (by omega) (by omega), nI_clamp (by omega)]
    exact congrArg some (h.e6 t ht _ hlt c hc)
  · rw [if_neg z4, if_neg z4]
    by_cases zm : p 76 (72 * t + 6 * r + c) = (-2147483648)
    · rw [if_pos zm, if_pos zm]
    · rw [if_neg zm, if_neg zm]
      by_cases z5 : p 70 (6 * t + c) = 5
      · rw [if_pos z5, if_pos z5]
      · rw [if_neg z5, if_neg z5]
        by_cases k1 : p 68 (6 * t + c) = 1
        · rw [if_pos k1, if_pos k1]
          obtain ⟨u, hu, eu⟩ := q3 k1
          have du : (nI u).toNatClampNeg = u := nI_clamp (by omega)
          obtain ⟨n, hn, en⟩ := isOf_key (Or.inr k1) qc zm
          have := hn.1
          unfold f_X6_turnedRef
          rw [eu, F_tableAt h, tOf_nI h hu]
          simp only [Option.map_some, Option.bind_some, m_oc, if_pos (s0_tab u (show u < 4 by omega)), F_turnsKeys h hu, du, en, F_turnKey h hu (show n < 2 ^ 31 by omega), nI_clamp (show n < 2 ^ 31 by omega)]
          by_cases z1 : p 70 (6 * u) = 1
          · rw [if_pos z1, decide_eq_true z1]; rfl
          · rw [if_neg z1, decide_eq_false z1]; rfl
        · rw [if_neg k1, if_neg k1]
          by_cases z1 : p 70 (6 * t + c) = 1
          · rw [if_pos z1, if_pos z1]
            by_cases k0 : p 68 (6 * t + c) = 0
            · rw [if_pos k0, if_pos k0]
              obtain ⟨n, hn, en⟩ := isOf_key (Or.inl k0) qc zm
              have := hn.1
              rw [en, F_turnKey h ht (by omega), nI_clamp (n := n) (by omega)]; rfl
            · rw [if_neg k0, if_neg k0]
              unfold f_X0_turnName
              rw [if_pos (s0_col t (by omega) c (by omega)), h.col ht hc (j := 4) (by decide), h.col ht hc (j := 5) (by decide)]; rfl
          · rw [if_neg z1, if_neg z1]
            by_cases z2 : p 70 (6 * t + c) = 2
            · rw [if_pos z2, if_pos z2, hsh z2]
            · rw [if_neg z2, if_neg z2]
              by_cases z3 : p 70 (6 * t + c) = 3
              · rw [if_pos z3, if_pos z3]
                rw [z3] at q4
                rw [F_tooFine _ (fits3 q4).1]; rfl
              · rw [if_neg z3, if_neg z3]
end MK
