/-! ===== could, alike, sure ===== -/
section CP
variable {p g : mI} {b : Bool}
theorem F_be1 (h : Sm p g) {t r x kn : Nat} (ht : t < nT p) (hr : r < nR p t) (hx : x < nR p t) (hk : kn < 2 ^ 31) (dr : drf p g 78 t) : ∀ (k i n : Nat) (y5 : Int32) (o : Option Int32), i + k = nC p t → k < n → ((o = none ∧ y5 = -1) ∨ (∃ j, j < i ∧ o = some (shB p t r x j) ∧ y5 = nI j)) → lp_X7_couldBe_6 g (nI t) (nI r) (nI kn) (nI x) n y5 (nI i) = some (al (lkB p kn t r x) i k && mvB (okB p kn t r x) (acB p kn t r x) (shB p t r x) i k o)
  | 0, i, n, y5, o, h1, h2, h3 => by
    obtain ⟨m, rfl⟩ : ∃ m, n = m + 1 := ⟨n - 1, by omega⟩
    have hT := h.T.2
    have hC := h.C ht
    rw [lp_X7_couldBe_6, if_pos (m_inN (show t < 4 by omega) (by decide)), nI_clamp (by omega), h.m 65 _ (mp_i _ (by decide)), hC.1, show i = nC p t by omega, if_pos (Int32.le_refl _)]
    rfl
  | k + 1, i, n, y5, o, h1, h2, h3 => by
    obtain ⟨m, rfl⟩ : ∃ m, n = m + 1 := ⟨n - 1, by omega⟩
    have hT := h.T.2
    have hC := h.C ht
    have hR := (h.R ht).2
    have hc : i < nC p t := by omega
    have nt : m_in (nI t) 4 := m_inN (by omega) (by decide)
    have dt : (nI t).toNatClampNeg = t := nI_clamp (by omega)
    have nx : m_in (nI (72 * t + 6 * x + i)) 288 := m_inN (cell_in (by omega) (by omega) (by omega)) (by decide)
    have dx : (nI (72 * t + 6 * x + i)).toNatClampNeg = 72 * t + 6 * x + i := nI_clamp (by omega)
    have nr : m_in (nI (72 * t + 6 * r + i)) 288 := m_inN (cell_in (by omega) (by omega) (by omega)) (by decide)
    have dR : (nI (72 * t + 6 * r + i)).toNatClampNeg = 72 * t + 6 * r + i := nI_clamp (by omega)
    have n4 : m_in (nI (6 * t + i)) 24 := m_inN (by omega) (by decide)
    have d4 : (nI (6 * t + i)).toNatClampNeg = 6 * t + i := nI_clamp (by omega)
    have ih := F_be1 h ht hr hx hk dr k (i + 1) m
    have h3' : (o = none ∧ y5 = -1) ∨ (∃ j, j < i + 1 ∧ o = some (shB p t r x j) ∧ y5 = nI j) := by
      rcases h3 with q | ⟨j, q1, q2⟩
      · exact Or.inl q
      · exact Or.inr ⟨j, by omega, q2⟩
    rw [lp_X7_couldBe_6, if_pos nt, dt, h.m 65 _ (mp_i _ (by decide)), hC.1, if_neg (nI_ge hc (by omega)), mvB_s, al_s, nI_1]
    cases hb : kn.testBit i with
    | false =>
      have e1 : okB p kn t r x i = true := by unfold okB; rw [hb]; rfl
      have e2 : acB p kn t r x i = false := by unfold acB; rw [hb]; rfl
      have e3 : lkB p kn t r x i = true := by unfold lkB; rw [hb]; rfl
      rw [if_pos ((refBit hk (by omega)).mpr hb), e1, e2, e3, cond_true, cond_true, cond_false]
      exact ih _ _ (by omega) (by omega) h3'
    | true =>
      rw [if_neg (fun q => by rw [(refBit hk (by omega)).mp q] at hb; cases hb), nI_cell, if_pos nx, F_plainM h ht hc, Option.bind_some]
      cases hp : plB p t i with
      | true =>
        have z2 := plB_no2 hp
        have e1 : okB p kn t r x i = true := by unfold okB; rw [hb, cond_true, if_neg z2]
        have e2 : acB p kn t r x i = false := by unfold acB; rw [hb, cond_true, if_neg z2]
        rw [cond_true, nI_cell, if_pos nr, dx, dR, dr x i hx hc, dr r i hr hc]
        by_cases z : mkv p t x i = mkv p t r i
        · have e3 : lkB p kn t r x i = true := by unfold lkB; rw [hb, hp, cond_true, cond_true, decide_eq_true z]
          rw [if_pos z, nI_6tc, if_pos n4, d4, h.m 70 _ (mp_i _ (by decide)), if_neg z2, e1, e2, e3, cond_true, cond_true, cond_false]
          exact ih _ _ (by omega) (by omega) h3'
        · have e3 : lkB p kn t r x i = false := by unfold lkB; rw [hb, hp, cond_true, cond_true, decide_eq_false z]
          rw [if_neg z, e3]; rfl
      | false =>
        have e3 : lkB p kn t r x i = true := by unfold lkB; rw [hb, hp]; rfl
        rw [cond_false, nI_6tc, if_pos n4, d4, h.m 70 _ (mp_i _ (by decide)), e3, cond_true]
        by_cases z2 : p 70 (6 * t + i) = 2
        · rw [if_pos z2, nI_cell, if_pos nr, dx, dR, dr x i hx hc, h.m 76 _ (mp_i _ (by decide))]
          by_cases a1 : p 76 (72 * t + 6 * r + i) = (-2147483648)
          · by_cases a2 : mkv p t x i = (-2147483648)
            · have e1 : okB p kn t r x i = true := by unfold okB; rw [hb, cond_true, if_pos z2, if_pos a1, decide_eq_true a2]
              have e2 : acB p kn t r x i = false := by unfold acB; rw [hb, cond_true, if_pos z2, if_pos a1]
              rw [e1, e2, cond_true, cond_false, if_pos a2, if_pos a1, if_pos a2]
              exact ih _ _ (by omega) (by omega) h3'
            · have e1 : okB p kn t r x i = false := by unfold okB; rw [hb, cond_true, if_pos z2, if_pos a1, decide_eq_false a2]
              rw [e1, cond_false, if_neg a2, if_pos a1, Bool.and_false]
          · by_cases a2 : mkv p t x i = (-2147483648)
            · have e1 : okB p kn t r x i = false := by unfold okB; rw [hb, cond_true, if_pos z2, if_neg a1, decide_eq_true a2]; rfl
              rw [e1, cond_false, if_pos a2, if_neg a1, Bool.and_false]
            · have e1 : okB p kn t r x i = true := by unfold okB; rw [hb, cond_true, if_pos z2, if_neg a1, decide_eq_false a2]; rfl
              have e2 : acB p kn t r x i = true := by unfold acB; rw [hb, cond_true, if_pos z2, if_neg a1, decide_eq_false a2]; rfl
              rw [e1, e2, cond_true, cond_true, if_neg a2, if_neg a1, if_neg a2]
              rcases h3 with ⟨q1, q2⟩ | ⟨j, q1, q2, q3⟩
              · rw [q1, q2, if_pos rfl, if_pos rfl]
                exact ih (nI i) (some (shB p t r x i)) (by omega) (by omega) (Or.inr ⟨i, by omega, rfl, rfl⟩)
              · have njx : m_in (nI (72 * t + 6 * x + j)) 288 := m_inN (cell_in (by omega) (by omega) (by omega)) (by decide)
                have djx : (nI (72 * t + 6 * x + j)).toNatClampNeg = 72 * t + 6 * x + j := nI_clamp (by omega)
                have njr : m_in (nI (72 * t + 6 * r + j)) 288 := m_inN (cell_in (by omega) (by omega) (by omega)) (by decide)
                have djr : (nI (72 * t + 6 * r + j)).toNatClampNeg = 72 * t + 6 * r + j := nI_clamp (by omega)
                have n1 : ¬ nI j = -1 := fun z => nI_pos (n := j) (by omega) (by rw [z]; decide)
                rw [q2, q3, if_neg n1, nI_cell, if_pos njx, nI_cell, if_pos njr, djx, djr, dr x j hx (by omega), h.m 76 _ (mp_i _ (by decide)), if_neg n1]
                by_cases a3 : mkv p t x i - mkv p t x j = p 76 (72 * t + 6 * r + i) - p 76 (72 * t + 6 * r + j)
                · have a4 : shB p t r x i = shB p t r x j := sub_sw a3
                  have e4 : mvT (some (shB p t r x j)) (shB p t r x i) = true := decide_eq_true a4
                  rw [if_pos a3, e4, cond_true]
                  exact ih (nI j) (some (shB p t r x i)) (by omega) (by omega) (Or.inr ⟨j, by omega, by rw [a4], rfl⟩)
                · have a4 : ¬ shB p t r x i = shB p t r x j := fun q => a3 (sub_sw q)
                  have e4 : mvT (some (shB p t r x j)) (shB p t r x i) = false := decide_eq_false a4
                  rw [if_neg a3, e4, cond_false, Bool.and_false]
        · have e1 : okB p kn t r x i = true := by unfold okB; rw [hb, cond_true, if_neg z2]
          have e2 : acB p kn t r x i = false := by unfold acB; rw [hb, cond_true, if_neg z2]
          rw [if_neg z2, e1, e2, cond_true, cond_false]
          exact ih _ _ (by omega) (by omega) h3'
theorem F_couldBe (h : Sm p g) {t r x kn : Nat} (ht : t < nT p) (hr : r < nR p t) (hx : x < nR p t) (hk : kn < 2 ^ 31) (dr : drf p g 78 t) : f_X7_couldBe g (nI t) (nI r) (nI kn) (nI x) = some (cbB p kn t r x) := by
  have hC := h.C6 t ht
  unfold f_X7_couldBe
  rw [show (0 : Int32) = nI 0 from rfl]
  exact F_be1 h ht hr hx hk dr (nC p t) 0 2000 (-1) none (by omega) (by omega) (Or.inl ⟨rfl, rfl⟩)
theorem F_couldOf (h : Sm p g) {t r kn : Nat} (ht : t < nT p) (hr : r < nR p t) (hk : kn < 2 ^ 31) (dr : drf p g 78 t) : f_X7_couldOf g (nI t) (nI r) (nI kn) = some (nI (cnN (cbB p kn t r) (nR p t))) := by
  have hT := h.T.2
  have hR := h.R ht
  have nt : m_in (nI t) 4 := m_inN (by omega) (by decide)
  have dt : (nI t).toNatClampNeg = t := nI_clamp (by omega)
  unfold f_X7_couldOf
  have key := loop_st (lp := fun n y s => lp_X7_couldOf_6 g (nI t) (nI r) (nI kn) n s y) (N := nR p t) (st := fun i => nI (cnN (cbB p kn t r) i)) (fin := some (nI (cnN (cbB p kn t r) (nR p t)))) ?_ ?_ (nR p t) 0 2000 (by omega) (by omega)
  · exact key
  · intro n
    show lp_X7_couldOf_6 g (nI t) (nI r) (nI kn) (n + 1) (nI (cnN (cbB p kn t r) (nR p t))) (nI (nR p t)) = _
    rw [lp_X7_couldOf_6, if_pos nt, dt, h.m 66 _ (mp_i _ (by decide)), hR.1, if_pos (Int32.le_refl _)]
  · intro n x hx
    show lp_X7_couldOf_6 g (nI t) (nI r) (nI kn) (n + 1) (nI (cnN (cbB p kn t r) x)) (nI x) = lp_X7_couldOf_6 g (nI t) (nI r) (nI kn) n (nI (cnN (cbB p kn t r) x + (bif cbB p kn t r x then 1 else 0))) (nI (x + 1))
    rw [lp_X7_couldOf_6, if_pos nt, dt, h.m 66 _ (mp_i _ (by decide)), hR.1, if_neg (nI_ge hx (by omega)), F_couldBe h ht hr hx hk dr, Option.bind_some, nI_1]
    cases cbB p kn t r x with
    | true => rw [cond_true, cond_true, nI_1]
    | false =>
      rw [cond_false, cond_false, Int32.add_zero, nI_1]
      exact congrArg (fun y => lp_X7_couldOf_6 g (nI t) (nI r) (nI kn) n (nI y) (nI (x + 1))) (Nat.add_zero _).symm
/-- the least -/
def mnN (c : Nat → Nat) (z : Nat) : Nat → Nat
  | 0 => z
  | i + 1 => min (mnN c z i) (c i)
theorem mnN_le (c : Nat → Nat) (z : Nat) : ∀ n, mnN c z n ≤ z
  | 0 => Nat.le_refl _
  | n + 1 => Nat.le_trans (Nat.min_le_left _ _) (mnN_le c z n)
theorem mnN_1213 {c : Nat → Nat} (h : c 0 ≤ 12) : ∀ n, mnN c 12 (n + 1) = mnN c 13 (n + 1)
  | 0 => by
    show min 12 (c 0) = min 13 (c 0)
    omega
  | n + 1 => by
    show min (mnN c 12 (n + 1)) (c (n + 1)) = min (mnN c 13 (n + 1)) (c (n + 1))
    rw [mnN_1213 h n]
theorem F_alike33 (h : St p g b) {t kn : Nat} (ht : t < nT p) (hk : kn < 2 ^ 31) (dr : drf p g (m_pD b + 1) t) : lp_X6_alike_33 b (nI t) (nI kn) g 2000 12 0 = some (nI (mnN (fun r => cnN (cbB p kn t r) (nR p t)) 12 (nR p t)), g) := by
  have hT := h.T.2
  have hR := (h.R ht).2
  have key := loop_st (lp := fun n y s => lp_X6_alike_33 b (nI t) (nI kn) g n s y) (N := nR p t) (st := fun i => nI (mnN (fun r => cnN (cbB p kn t r) (nR p t)) 12 i)) (fin := some (nI (mnN (fun r => cnN (cbB p kn t r) (nR p t)) 12 (nR p t)), g)) ?_ ?_ (nR p t) 0 2000 (by omega) (by omega)
  · exact key
  · intro n
    show lp_X6_alike_33 b (nI t) (nI kn) g (n + 1) (nI (mnN (fun r => cnN (cbB p kn t r) (nR p t)) 12 (nR p t))) (nI (nR p t)) = _
    rw [lp_X6_alike_33, F_rowsOf h, rowsN_nI h ht, Option.bind_some, if_pos (Int32.le_refl _)]
  · intro n r hr
    show lp_X6_alike_33 b (nI t) (nI kn) g (n + 1) (nI (mnN (fun r => cnN (cbB p kn t r) (nR p t)) 12 r)) (nI r) = lp_X6_alike_33 b (nI t) (nI kn) g n (nI (min (mnN (fun r => cnN (cbB p kn t r) (nR p t)) 12 r) (cnN (cbB p kn t r) (nR p t)))) (nI (r + 1))
    have b1 := mnN_le (fun r => cnN (cbB p kn t r) (nR p t)) 12 r
    have b2 := cnN_le (cbB p kn t r) (nR p t)
    rw [lp_X6_alike_33, F_rowsOf h, rowsN_nI h ht, Option.bind_some, if_neg (nI_ge hr (by omega)), F_couldSet h ht hr hk dr, Option.bind_some, bcS _ hR, m_minN (by omega) (by omega), nI_1]
theorem F_alike11 (h : Sm p g) {t kn : Nat} (ht : t < nT p) (hk : kn < 2 ^ 31) (dr : drf p g 78 t) : lp_X7_alikeOf_11 (nI t) (nI kn) g 2000 13 0 = some (nI (mnN (fun r => cnN (cbB p kn t r) (nR p t)) 13 (nR p t)), g) := by
  have hT := h.T.2
  have hR := h.R ht
  have nt : m_in (nI t) 4 := m_inN (by omega) (by decide)
  have dt : (nI t).toNatClampNeg = t := nI_clamp (by omega)
  have key := loop_st (lp := fun n y s => lp_X7_alikeOf_11 (nI t) (nI kn) g n s y) (N := nR p t) (st := fun i => nI (mnN (fun r => cnN (cbB p kn t r) (nR p t)) 13 i)) (fin := some (nI (mnN (fun r => cnN (cbB p kn t r) (nR p t)) 13 (nR p t)), g)) ?_ ?_ (nR p t) 0 2000 (by omega) (by omega)
  · exact key
  · intro n
    show lp_X7_alikeOf_11 (nI t) (nI kn) g (n + 1) (nI (mnN (fun r => cnN (cbB p kn t r) (nR p t)) 13 (nR p t))) (nI (nR p t)) = _
    rw [lp_X7_alikeOf_11, if_pos nt, dt, h.m 66 _ (mp_i _ (by decide)), hR.1, if_pos (Int32.le_refl _)]
  · intro n r hr
    show lp_X7_alikeOf_11 (nI t) (nI kn) g (n + 1) (nI (mnN (fun r => cnN (cbB p kn t r) (nR p t)) 13 r)) (nI r) = lp_X7_alikeOf_11 (nI t) (nI kn) g n (nI (min (mnN (fun r => cnN (cbB p kn t r) (nR p t)) 13 r) (cnN (cbB p kn t r) (nR p t)))) (nI (r + 1))
    have b1 := mnN_le (fun r => cnN (cbB p kn t r) (nR p t)) 13 r
    have b2 := cnN_le (cbB p kn t r) (nR p t)
    rw [lp_X7_alikeOf_11, if_pos nt, dt, h.m 66 _ (mp_i _ (by decide)), hR.1, if_neg (nI_ge hr (by omega)), F_couldOf h ht hr hk dr, Option.bind_some, nI_1]
    by_cases z : mnN (fun r => cnN (cbB p kn t r) (nR p t)) 13 r ≤ cnN (cbB p kn t r) (nR p t)
    · rw [if_pos (nI_le z (by omega)), Nat.min_eq_left z]
    · rw [if_neg (nI_ge (by omega) (by omega)), Nat.min_eq_right (by omega)]
end CP
