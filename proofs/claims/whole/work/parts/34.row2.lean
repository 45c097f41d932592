/-! ===== row, both ===== -/
section RX
variable {p g : mI} {b : Bool}
def fitf (p : mI) (t : Nat) : Nat → Bool := fun c => f_X7_isOf (p 68 (6 * t + c)) (p 79 c)
def newf (p : mI) (t : Nat) : Nat → Bool := fun r => !decide (p 76 (72 * t + 6 * r + 0) = p 79 0)
theorem fit_eq {k : Int32} (v : Int32) (hk : k = 0 ∨ k = 1 ∨ k = 2 ∨ k = 3 ∨ k = 4) {R : Type} (A B : R) : (if k = 0 then (bif f_X6_isNumberOfKind k v then A else B) else (if v = (-2147483648) then A else (bif f_X6_isNumberOfKind k v then A else B))) = bif f_X7_isOf k v then A else B := by
  by_cases hv : v = (-2147483648)
  · subst hv
    by_cases k0 : k = 0
    · subst k0
      rw [if_pos rfl, show f_X6_isNumberOfKind 0 (-2147483648) = false by decide, show f_X7_isOf 0 (-2147483648) = false by decide]
    · rw [if_neg k0, if_pos rfl]
      have : f_X7_isOf k (-2147483648) = true := by unfold f_X7_isOf; rw [if_pos rfl, if_neg k0]
      rw [this]; rfl
  · rw [isKind_eq v hk hv, if_neg hv]
    by_cases k0 : k = 0
    · rw [if_pos k0]
    · rw [if_neg k0]
theorem F_fit (h : St p g b) {t : Nat} (ht : t < nT p) : f_X6_waitingCellsFit g b (16 + 10 * t) = some (bif decide (nW p = nC p t) then al (fitf p t) 0 (nC p t) else false) := by
  have hT := h.T.2
  have h4 : t < 4 := by omega
  have hW := h.W
  have hC := h.C ht
  unfold f_X6_waitingCellsFit
  rw [if_pos (s0_tab t h4), h.e1.2.2.1, (h.e2 t ht).1, hW.1, hC.1]
  by_cases z : nW p = nC p t
  · rw [z, if_pos rfl]
    have key := loop_all (lp := lp_X6_waitingCellsFit_15 g b (16 + 10 * t)) (N := nC p t) (f := fitf p t) (fin := some true) (bad := some false) ?_ ?_ (nC p t) 0 2000 (by omega) (by omega)
    · rw [show (0 : Int32) = nI 0 from rfl, key]
      rw [decide_eq_true (rfl : nC p t = nC p t)]
      cases al (fitf p t) 0 (nC p t) <;> rfl
    · intro n
      rw [lp_X6_waitingCellsFit_15, h.e1.2.2.1, hW.1, z, if_pos (Int32.le_refl _)]
    · intro n i hi
      have n1 : m_in (nI i) 6 := m_inN (by omega) (by decide)
      have d1 : (nI i).toNatClampNeg = i := nI_clamp (by omega)
      rw [lp_X6_waitingCellsFit_15, h.e1.2.2.1, hW.1, z, if_neg (nI_ge hi (by omega)), if_pos (s0_tab t h4), F_columnNumbered h ht, ixOf_nI hi (by omega)]
      simp only [Option.map_some, Option.bind_some, m_oc, if_pos (s0_col t h4 i (by omega)), if_pos n1, d1, h.col ht hi (j := 0) (by decide), h.e5 i (by omega), nI_1]
      exact fit_eq _ (h.k2 ht hi).2.1 _ _
  · rw [if_neg (fun q => z (nI_inj (by omega) (by omega) q)), decide_eq_false z]; rfl
theorem F_rowC (h : St p g b) {t : Nat} (ht : t < nT p) (hR : nR p t < 12) (z : nW p = nC p t) : lp_X6_row_65 b (nI t) (16 + 10 * t) (nI (nR p t)) 2000 0 g = some (nI (nR p t), rwC t (nR p t) (nC p t) (p 79) g) := by
  have hT := h.T.2
  have h4 : t < 4 := by omega
  have hW := h.W
  have hC := h.C ht
  have key := loop_st (lp := lp_X6_row_65 b (nI t) (16 + 10 * t) (nI (nR p t))) (N := nC p t) (st := fun i => bw g 5 (72 * t + 6 * nR p t) i (p 79)) (fin := some (nI (nR p t), rwC t (nR p t) (nC p t) (p 79) g)) ?_ ?_ (nC p t) 0 2000 (by omega) (by omega)
  · rw [show (0 : Int32) = nI 0 from rfl]
    simp only [bw_0] at key
    exact key
  · intro n
    rw [lp_X6_row_65, bw_o (by omega), h.e1.2.2.1, hW.1, z, if_pos (Int32.le_refl _), if_pos (s0_tab t h4), nI_1]
    rfl
  · intro n i hi
    have n1 : m_in (nI i) 6 := m_inN (by omega) (by decide)
    have d1 : (nI i).toNatClampNeg = i := nI_clamp (by omega)
    rw [lp_X6_row_65, bw_o (by omega), h.e1.2.2.1, hW.1, z, if_neg (nI_ge hi (by omega)), if_pos n1, d1, bw_o (by omega), h.e5 i (by omega), F_write (cp_t b) h4 hR (by omega)]
    show lp_X6_row_65 b (nI t) (16 + 10 * t) (nI (nR p t)) n (nI i + 1) (m_up (bw g 5 (72 * t + 6 * nR p t) i (p 79)) 5 (72 * t + 6 * nR p t + i) (p 79 i)) = _
    rw [bw_up, nI_1]
theorem F_rowM {g' : mI} {t R n : Nat} {f : Nat → Int32} (h4 : t < 4) (hR : R < 12) (hn : n ≤ 6) (e66 : g' 66 t = nI R) (e19 : g' 64 19 = nI n) (e79 : ∀ i, i < n → g' 79 i = f i) (k1 : Int32 → Option (Int32 × mI)) (k2 : Int32 → Option (Int32 × mI)) : lp_X7_row_125 (nI t) g' k1 k2 2000 0 g' = some (nI R, rwP t R n f g') := by
  have nt : m_in (nI t) 4 := m_inN h4 (by decide)
  have dt : (nI t).toNatClampNeg = t := nI_clamp (by omega)
  have key := loop_st (lp := lp_X7_row_125 (nI t) g' k1 k2) (N := n) (st := fun i => bw g' 76 (72 * t + 6 * R) i f) (fin := some (nI R, rwP t R n f g')) ?_ ?_ n 0 2000 (by omega) (by omega)
  · rw [show (0 : Int32) = nI 0 from rfl]
    simp only [bw_0] at key
    exact key
  · intro m
    rw [lp_X7_row_125, bw_o (by omega), e19, if_pos (Int32.le_refl _), if_pos nt, dt, bw_o (by omega), e66, nI_1]
    simp only [m_let]
    rw [m_up_o (by omega), m_up_o (by omega), m_up_eq, nI_pred]
    rfl
  · intro m i hi
    have n1 : m_in (nI i) 6 := m_inN (by omega) (by decide)
    have d1 : (nI i).toNatClampNeg = i := nI_clamp (by omega)
    have n3 : m_in (nI (72 * t + 6 * R + i)) 288 := m_inN (cell_in h4 hR (by omega)) (by decide)
    have d3 : (nI (72 * t + 6 * R + i)).toNatClampNeg = 72 * t + 6 * R + i := nI_clamp (by omega)
    rw [lp_X7_row_125, bw_o (by omega), e19, if_neg (nI_ge hi (by omega)), if_pos nt, dt, if_pos n1, bw_o (by omega), e66, nI_cell, if_pos n3, d3, d1, bw_o (by omega), e79 i hi]
    simp only [m_let]
    rw [bw_up, nI_1]
/-- what the reference's row does once the cells fit -/
theorem F_row70 {g' : mI} {t R n : Nat} (h4 : t < 4) (hR : R ≤ 12) (hn : n ≤ 6) (e66 : g' 66 t = nI R) (e19 : g' 64 19 = nI n) (e79 : ∀ i, i < 6 → g' 79 i = p 79 i) (e76 : ∀ r, r < R → g' 76 (72 * t + 6 * r + 0) = p 76 (72 * t + 6 * r + 0)) (k1 : Int32 → Option (Int32 × mI)) : lp_X7_row_70 (nI t) g' k1 2000 0 = bif al (newf p t) 0 R then (if R = 12 then some (-4, g') else some (nI R, rwP t R n (p 79) g')) else some (-3, g') := by
  have nt : m_in (nI t) 4 := m_inN h4 (by decide)
  have dt : (nI t).toNatClampNeg = t := nI_clamp (by omega)
  have key := loop_all (lp := lp_X7_row_70 (nI t) g' k1) (N := R) (f := newf p t) (fin := (if R = 12 then some (-4, g') else some (nI R, rwP t R n (p 79) g'))) (bad := some (-3, g')) ?_ ?_ R 0 2000 (by omega) (by omega)
  · exact key
  · intro m
    rw [lp_X7_row_70, if_pos nt, dt, e66, if_pos (Int32.le_refl _)]
    by_cases z : R = 12
    · rw [if_pos z, z]; rfl
    · rw [if_neg z, if_neg (show ¬ nI R = (12 : Int32) from fun q => z (nI_inj (b := 12) (by omega) (by decide) q))]
      exact F_rowM h4 (by omega) hn e66 e19 (fun i hi => e79 i (by omega)) _ _
  · intro m i hi
    have n3 : m_in (nI (72 * t + 6 * i + 0)) 288 := m_inN (cell_in h4 (by omega) (by decide)) (by decide)
    have d3 : (nI (72 * t + 6 * i + 0)).toNatClampNeg = 72 * t + 6 * i + 0 := nI_clamp (by omega)
    rw [lp_X7_row_70, if_pos nt, dt, e66, if_neg (nI_ge hi (by omega)), show f_X7_cell (nI t) (nI i) 0 = nI (72 * t + 6 * i + 0) from nI_cell t i 0, if_pos n3, d3, e76 i hi, e79 0 (by decide), nI_1]
    unfold newf
    by_cases z : p 76 (72 * t + 6 * i + 0) = p 79 0
    · rw [if_pos z, decide_eq_true z]; rfl
    · rw [if_neg z, decide_eq_false z]; rfl
theorem F_row7 {g' : mI} {t R n : Nat} (h4 : t < 4) (hR : R ≤ 12) (hn : n ≤ 6) (e66 : g' 66 t = nI R) (e19 : g' 64 19 = nI n) (e79 : ∀ i, i < 6 → g' 79 i = p 79 i) (e76 : ∀ r, r < R → g' 76 (72 * t + 6 * r + 0) = p 76 (72 * t + 6 * r + 0)) (e68 : ∀ c, g' 68 (6 * t + c) = p 68 (6 * t + c)) : lp_X7_row_28 (nI t) g' 2000 0 = bif al (fitf p t) 0 n then (bif al (newf p t) 0 R then (if R = 12 then some (-4, g') else some (nI R, rwP t R n (p 79) g')) else some (-3, g')) else some (-2, g') := by
  have key := loop_all (lp := lp_X7_row_28 (nI t) g') (N := n) (f := fitf p t) (fin := (bif al (newf p t) 0 R then (if R = 12 then some (-4, g') else some (nI R, rwP t R n (p 79) g')) else some (-3, g'))) (bad := some (-2, g')) ?_ ?_ n 0 2000 (by omega) (by omega)
  · exact key
  · intro m
    rw [lp_X7_row_28, e19, if_pos (Int32.le_refl _)]
    exact F_row70 h4 hR hn e66 e19 e79 e76 _
  · intro m i hi
    have n1 : m_in (nI i) 6 := m_inN (by omega) (by decide)
    have d1 : (nI i).toNatClampNeg = i := nI_clamp (by omega)
    have n3 : m_in (nI (6 * t + i)) 24 := m_inN (by omega) (by decide)
    have d3 : (nI (6 * t + i)).toNatClampNeg = 6 * t + i := nI_clamp (by omega)
    rw [lp_X7_row_28, e19, if_neg (nI_ge hi (by omega)), nI_6tc, if_pos n3, if_pos n1, d3, d1, e68, e79 i (by omega), nI_1]
    rfl
theorem s_row (h : St p g b) (t : Int32) : ∃ v g1 g2 p2, f_X6_row g b t = some (v, g1) ∧ f_X7_row g1 t = some (v, g2) ∧ St p2 g2 b := by
  have hT := h.T.2
  have hW := h.W
  unfold f_X6_row
  rw [F_tableAt h]
  cases et : tOf p t with
  | none =>
    refine ⟨-1, g, g, p, rfl, ?_, h⟩
    unfold f_X7_row
    rw [F7_isTable h, et]; rfl
  | some n =>
    obtain ⟨h1, h4, rfl⟩ := tOf_some h et
    have hC := h.C h1
    have hR := h.R h1
    have nt : m_in (nI n) 4 := m_inN h4 (by decide)
    have dt : (nI n).toNatClampNeg = n := nI_clamp (by omega)
    simp only [Option.map_some, Option.bind_some, m_oc, F_fit h h1]
    have m0 : f_X7_row g (nI n) = if nW p = nC p n then lp_X7_row_28 (nI n) g 2000 0 else some (-2, g) := by
      unfold f_X7_row
      rw [F7_isTable h, et, Option.isSome_some, cond_true, if_pos nt, dt, h.m 64 19 (mp_i _ (by decide)), h.m 65 _ (mp_i _ (by decide)), hW.1, hC.1]
      by_cases z : nW p = nC p n
      · rw [if_pos z, z, if_pos rfl]
      · rw [if_neg z, if_neg (fun q => z (nI_inj (by omega) (by omega) q))]
    have hk : ∀ k, mp 76 → g 76 k = p 76 k := fun k q => h.m 76 k q
    by_cases z : nW p = nC p n
    · rw [decide_eq_true z, cond_true]
      rw [if_pos z, F_row7 (p := p) (R := nR p n) (n := nC p n) h4 hR.2 hC.2.2 (by rw [h.m 66 _ (mp_i _ (by decide))]; exact hR.1) (by rw [h.m 64 19 (mp_i _ (by decide)), hW.1, z]) (fun i _ => h.m 79 _ (mp_i _ (by decide))) (fun r _ => h.m 76 _ (mp_i _ (by decide))) (fun c => h.m 68 _ (mp_i _ (by decide)))] at m0
      cases ef : al (fitf p n) 0 (nC p n) with
      | false =>
        rw [ef] at m0
        exact ⟨-2, g, g, p, rfl, m0, h⟩
      | true =>
        rw [ef, cond_true] at m0
        have e30 : g 3 0 = p 79 0 := h.e5 0 (by omega)
        have esm : sm (cntf (g (4 + 1)) n 0 (p 79 0)) 0 (nR p n) = sm (cntf (p 76) n 0 (p 79 0)) 0 (nR p n) := by
          apply sm_congr
          intro j _ hj
          unfold cntf
          rw [show g (4 + 1) (72 * n + 6 * j + 0) = p 76 (72 * n + 6 * j + 0) from h.e6 n h1 j (by omega) 0 (by omega)]
        have hcf : ∀ j, cntf (p 76) n 0 (p 79 0) j = if newf p n j = true then 0 else 1 := by
          intro j
          unfold cntf newf
          by_cases y : p 76 (72 * n + 6 * j + 0) = p 79 0
          · rw [if_pos y, decide_eq_true y]; rfl
          · rw [if_neg y, decide_eq_false y]; rfl
        obtain ⟨m, q1, q2, q3⟩ := sm_cnt hcf (nR p n) 0 (by omega)
        have hrw : f_X6_rowsWith g b 4 (nI n) 0 (g 3 0) = some (nI m) := by
          have := F_rowsWith h (cp_t b) h1 (show 0 < 6 by decide) (p 79 0)
          rw [esm, q2] at this
          rw [e30]; exact this
        rw [cond_true, hrw]
        simp only [Option.bind_some, if_pos (s0_tab n h4), (h.e2 n h1).2.1, hR.1]
        cases en : al (newf p n) 0 (nR p n) with
        | false =>
          have m1 : m ≠ 0 := fun y => by rw [q3.mp y] at en; cases en
          rw [en, cond_false] at m0
          rw [if_neg (nI_nle (by omega) (by omega))]
          exact ⟨-3, g, g, p, rfl, m0, h⟩
        | true =>
          have m1 : m = 0 := q3.mpr en
          rw [en, cond_true] at m0
          rw [if_pos (by rw [m1]; exact Int32.le_refl _)]
          by_cases z12 : nR p n = 12
          · rw [if_pos z12] at m0
            rw [if_neg (show ¬ nI (nR p n) < 12 by rw [z12]; decide)]
            exact ⟨-4, g, g, p, rfl, m0, h⟩
          · have h12 : nR p n < 12 := by omega
            rw [if_pos (show nI (nR p n) < 12 from nI_lt (b := 12) h12 (by decide)), F_rowC h h1 h12 z]
            refine ⟨nI (nR p n), _, rwP n (nR p n) (nC p n) (p 79) (rwC n (nR p n) (nC p n) (p 79) g), _, rfl, ?_, h.row h1 h12 (fun c hc => al_t _ _ ef c (by omega) (by omega)) (fun r hr y => ?_)⟩
            · have oo : ∀ a k, 64 ≤ a → rwC n (nR p n) (nC p n) (p 79) g a k = g a k := fun a k ha => rwC_o (by omega) (by omega) (by omega)
              have it : f_X7_isTable (rwC n (nR p n) (nC p n) (p 79) g) (nI n) = f_X7_isTable g (nI n) := by
                unfold f_X7_isTable; rw [oo 64 1 (by decide)]
              unfold f_X7_row
              rw [it, F7_isTable h, et, Option.isSome_some, cond_true, if_pos nt, dt, oo _ _ (by decide), oo _ _ (by decide), h.m 64 19 (mp_i _ (by decide)), h.m 65 _ (mp_i _ (by decide)), hW.1, hC.1, z, if_pos rfl]
              rw [F_row7 (p := p) (R := nR p n) (n := nC p n) h4 hR.2 hC.2.2 (by rw [oo _ _ (by decide), h.m 66 _ (mp_i _ (by decide))]; exact hR.1) (by rw [oo _ _ (by decide), h.m 64 19 (mp_i _ (by decide)), hW.1, z]) (fun i _ => by rw [oo _ _ (by decide)]; exact h.m 79 _ (mp_i _ (by decide))) (fun r _ => by rw [oo _ _ (by decide)]; exact h.m 76 _ (mp_i _ (by decide))) (fun c => by rw [oo _ _ (by decide)]; exact h.m 68 _ (mp_i _ (by decide))), ef, en, cond_true, cond_true, if_neg z12]
            · have := al_t _ _ en r (by omega) (by omega)
              unfold newf at this
              rw [decide_eq_true (show p 76 (72 * n + 6 * r + 0) = p 79 0 from y)] at this
              cases this
    · rw [decide_eq_false z]
      rw [if_neg z] at m0
      exact ⟨-2, g, g, p, rfl, m0, h⟩
end RX
