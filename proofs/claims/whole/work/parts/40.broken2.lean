/-! ===== rules hold, both ===== -/
section BS
variable {p g : mI} {b : Bool}
def cl (x : Int32) : Nat := x.toNatClampNeg
theorem cl_nI {n : Nat} (h : n < 2 ^ 31) : cl (nI n) = n := nI_clamp h
def hold (p : mI) (f : Nat → Int32) (k r : Nat) : Bool :=
  if f (72 * cl (p 81 k) + 6 * r + cl (p 82 k)) = (-2147483648) then true else
  if p 80 k = 0 then (if f (72 * cl (p 81 k) + 6 * r + cl (p 83 k)) = (-2147483648) then true else if f (72 * cl (p 81 k) + 6 * r + cl (p 83 k)) < f (72 * cl (p 81 k) + 6 * r + cl (p 82 k)) then false else true) else
  if p 80 k = 1 then decide (f (72 * cl (p 81 k) + 6 * r + cl (p 82 k)) = sm (spf f (cl (p 84 k)) (cl (p 83 k)) (cl (p 85 k)) (f (72 * cl (p 81 k) + 6 * r + 0))) 0 (nR p (cl (p 84 k)))) else
  hasK f (cl (p 69 (6 * cl (p 81 k) + cl (p 82 k)))) (nR p (cl (p 69 (6 * cl (p 81 k) + cl (p 82 k))))) (f (72 * cl (p 81 k) + 6 * r + cl (p 82 k)))
theorem St.rule (h : St p g b) {k : Nat} (hk : k < nU p) : okRule p k := h.2.1.2.2.2.2.1 k hk
theorem F_holdC (h : St p g b) {x : Nat} (hx : isCopy b x) {f : Nat → Int32} (sv : sameV p g (x + 1) f) {k r : Nat} (hk : k < nU p) (hr : r < nR p (cl (p 81 k))) : f_X6_holdsInRow g b (56 + k) x (nI r) = some (hold p f k r) := by
  obtain ⟨t, t1, t2, a, a1, a2, q⟩ := h.rule hk
  have hT := h.T.2
  have hU := h.U.2
  have hC := h.C t1
  have hR := h.R t1
  have ct : cl (nI t) = t := cl_nI (by omega)
  have ca : cl (nI a) = a := cl_nI (by omega)
  rw [t2, ct] at hr
  obtain ⟨c0, c1, c2, c3, c4⟩ := h.e8 k hk
  have sr := s0_rul k (by omega)
  unfold f_X6_holdsInRow hold
  rw [if_pos sr, if_pos hx.1, c0, c1, c2, t2, a2, ct, ca, F_read hx (by omega) (by omega) (by omega), Option.bind_some, sv t t1 r hr a a1]
  by_cases w0 : f (72 * t + 6 * r + a) = (-2147483648)
  · rw [if_pos w0, if_pos w0]
  · rw [if_neg w0, if_neg w0]
    rcases q with ⟨z1, z2, z3, e, y1, y2, y3⟩ | ⟨z1, z2, z3, u, y1, y2, y3, ⟨e2, w1, w2, w3⟩, e, v1, v2, v3, v4⟩ | ⟨z1, z2, z3, z4⟩
    · have ce : cl (nI e) = e := cl_nI (by omega)
      rw [if_pos z1, if_pos z1, c3 (by rw [z1]; decide), y2, ce, F_read hx (by omega) (by omega) (by omega), Option.bind_some, sv t t1 r hr e y1]
      by_cases w1 : f (72 * t + 6 * r + e) = (-2147483648)
      · rw [if_pos w1, if_pos w1]
      · rw [if_neg w1, if_neg w1]
        by_cases w2 : f (72 * t + 6 * r + e) < f (72 * t + 6 * r + a)
        · rw [if_pos w2, if_pos w2]
        · rw [if_neg w2, if_neg w2]
    · have hCu := h.C y1
      have cu : cl (nI u) = u := cl_nI (by omega)
      have ce : cl (nI e) = e := cl_nI (by omega)
      have ce2 : cl (nI e2) = e2 := cl_nI (by omega)
      have n0 : ¬ p 80 k = 0 := by rw [z1]; decide
      rw [if_neg n0, if_neg n0, if_pos z1, if_pos z1, F_partsC h hx sv hk ⟨⟨t1, t2, a1, a2⟩, z1, ⟨y1, y3⟩, ⟨w1, w2⟩, ⟨v1, v2⟩⟩ hr, Option.bind_some, y3, w2, v2, cu, ce, ce2]
      by_cases w4 : f (72 * t + 6 * r + a) = sm (spf f u e2 e (f (72 * t + 6 * r + 0))) 0 (nR p u)
      · rw [if_pos w4, decide_eq_true w4]
      · rw [if_neg w4, decide_eq_false w4]
    · have n0 : ¬ p 80 k = 0 := by rw [z1]; decide
      have n1 : ¬ p 80 k = 1 := by rw [z1]; decide
      obtain ⟨u, u1, u2⟩ := (h.k2 t1 a1).2.2.1 z2
      have cu : cl (nI u) = u := cl_nI (by omega)
      have c1' : g (20 + 10 * t + a) 1 = p 69 (6 * t + a) := h.col t1 a1 (j := 1) (by decide)
      obtain ⟨m, m1, m2⟩ := F_hasC h hx sv u1 (f (72 * t + 6 * r + a))
      rw [if_neg n0, if_neg n0, if_neg n1, if_neg n1, F_columnAt h, cOf_nI h t1 a1]
      simp only [Option.map_some, Option.bind_some, m_oc, if_pos (s0_col t (show t < 4 by omega) a (show a < 6 by omega)), c1', u2, cu, m1]
      exact m2
theorem F_holdM (h : St p g b) {f : Nat → Int32} (sv : sameV p g 87 f) {k r : Nat} (hk : k < nU p) (hr : r < nR p (cl (p 81 k))) : f_X7_holdsFor g (nI k) (nI r) = some (hold p f k r) := by
  obtain ⟨t, t1, t2, a, a1, a2, q⟩ := h.rule hk
  have hT := h.T.2
  have hU := h.U.2
  have hC := h.C t1
  have hR := h.R t1
  have ct : cl (nI t) = t := cl_nI (by omega)
  have ca : cl (nI a) = a := cl_nI (by omega)
  rw [t2, ct] at hr
  have nk : m_in (nI k) 8 := m_inN (by omega) (by decide)
  have dk : (nI k).toNatClampNeg = k := nI_clamp (by omega)
  have n1 : m_in (nI (72 * t + 6 * r + a)) 288 := m_inN (cell_in (by omega) (by omega) (by omega)) (by decide)
  have d1 : (nI (72 * t + 6 * r + a)).toNatClampNeg = 72 * t + 6 * r + a := nI_clamp (by omega)
  obtain ⟨e3, h3, q3⟩ : ∃ e3, e3 < 6 ∧ p 83 k = nI e3 := by
    rcases q with ⟨z1, z2, z3, e, y1, y2, y3⟩ | ⟨z1, z2, z3, u, y1, y2, y3, ⟨e2, w1, w2, w3⟩, e, v1, v2, v3, v4⟩ | ⟨z1, z2, z3, z4⟩
    · exact ⟨e, by omega, y2⟩
    · have := h.C6 u y1
      exact ⟨e2, by omega, w2⟩
    · exact ⟨0, by omega, z4⟩
  have n2 : m_in (nI (72 * t + 6 * r + e3)) 288 := m_inN (cell_in (by omega) (by omega) (by omega)) (by decide)
  have d2 : (nI (72 * t + 6 * r + e3)).toNatClampNeg = 72 * t + 6 * r + e3 := nI_clamp (by omega)
  have ce3 : cl (nI e3) = e3 := cl_nI (by omega)
  unfold f_X7_holdsFor hold
  simp only [if_pos nk, dk, h.m 80 _ (mp_i _ (by decide)), h.m 81 _ (mp_i _ (by decide)), h.m 82 _ (mp_i _ (by decide)), h.m 83 _ (mp_i _ (by decide)), t2, a2, q3, ct, ca, ce3, nI_cell, if_pos n1, if_pos n2, d1, d2, m_let, sv t t1 r hr a a1]
  by_cases w0 : f (72 * t + 6 * r + a) = (-2147483648)
  · rw [if_pos w0, if_pos w0]
  · rw [if_neg w0, if_neg w0]
    rcases q with ⟨z1, z2, z3, e, y1, y2, y3⟩ | ⟨z1, z2, z3, u, y1, y2, y3, ⟨e2, w1, w2, w3⟩, e, v1, v2, v3, v4⟩ | ⟨z1, z2, z3, z4⟩
    · have ee : e = e3 := nI_inj (by omega) (by omega) (y2.symm.trans q3)
      subst ee
      rw [if_pos z1, if_pos z1, sv t t1 r hr e y1]
      by_cases w1 : f (72 * t + 6 * r + e) = (-2147483648)
      · rw [if_pos w1, if_pos w1]
      · rw [if_neg w1, if_neg w1]
        by_cases w2 : f (72 * t + 6 * r + e) < f (72 * t + 6 * r + a)
        · rw [if_pos w2, if_pos w2]
        · rw [if_neg w2, if_neg w2]
    · have hCu := h.C y1
      have ee : e2 = e3 := nI_inj (by omega) (by omega) (w2.symm.trans q3)
      subst ee
      have cu : cl (nI u) = u := cl_nI (by omega)
      have ce : cl (nI e) = e := cl_nI (by omega)
      have n0 : ¬ p 80 k = 0 := by rw [z1]; decide
      rw [if_neg n0, if_neg n0, if_pos z1, if_pos z1, F_sumM h sv hk ⟨⟨t1, t2, a1, a2⟩, z1, ⟨y1, y3⟩, ⟨w1, w2⟩, ⟨v1, v2⟩⟩ hr, Option.bind_some, y3, v2, cu, ce]
      by_cases w4 : f (72 * t + 6 * r + a) = sm (spf f u e2 e (f (72 * t + 6 * r + 0))) 0 (nR p u)
      · rw [if_pos w4, decide_eq_true w4]
      · rw [if_neg w4, decide_eq_false w4]
    · have n0 : ¬ p 80 k = 0 := by rw [z1]; decide
      have n1 : ¬ p 80 k = 1 := by rw [z1]; decide
      obtain ⟨u, u1, u2⟩ := (h.k2 t1 a1).2.2.1 z2
      have cu : cl (nI u) = u := cl_nI (by omega)
      have n5 : m_in (nI (6 * t + a)) 24 := m_inN (by omega) (by decide)
      have d5 : (nI (6 * t + a)).toNatClampNeg = 6 * t + a := nI_clamp (by omega)
      rw [if_neg n0, if_neg n0, if_neg n1, if_neg n1, nI_6tc, if_pos n5, d5, h.m 69 _ (mp_i _ (by decide)), u2, cu, F_hasM h sv u1]
      rfl
/-- the first broken rule, or 100 -/
def ffb (q : Nat → Bool) : Nat → Nat → Int32
  | _, 0 => 100
  | i, k + 1 => bif q i then ffb q (i + 1) k else nI i
def ruleB (p : mI) (f : Nat → Int32) (k : Nat) : Bool := al (hold p f k) 0 (nR p (cl (p 81 k)))
def fbv (p : mI) (f : Nat → Int32) : Int32 := ffb (ruleB p f) 0 (nU p)
theorem loop_ffb {lp : Nat → Int32 → Option Int32} {N : Nat} {q : Nat → Bool} (hd : ∀ n, lp (n + 1) (nI N) = some 100) (hs : ∀ n i, i < N → lp (n + 1) (nI i) = bif q i then lp n (nI (i + 1)) else some (nI i)) : ∀ (k i n : Nat), i + k = N → k < n → lp n (nI i) = some (ffb q i k)
  | 0, i, n, h1, h2 => by
    obtain ⟨m, rfl⟩ : ∃ m, n = m + 1 := ⟨n - 1, by omega⟩
    rw [show i = N by omega, hd]; rfl
  | k + 1, i, n, h1, h2 => by
    obtain ⟨m, rfl⟩ : ∃ m, n = m + 1 := ⟨n - 1, by omega⟩
    rw [hs m i (by omega)]
    show _ = some (bif q i then ffb q (i + 1) k else nI i)
    cases q i with
    | false => rfl
    | true => exact loop_ffb hd hs k (i + 1) m (by omega) (by omega)
theorem F_brokenC (h : St p g b) {x : Nat} (hx : isCopy b x) {f : Nat → Int32} (sv : sameV p g (x + 1) f) : f_X6_firstBroken g b x = some (fbv p f) := by
  have hU := h.U
  unfold f_X6_firstBroken fbv
  have key := loop_ffb (lp := lp_X6_firstBroken_2 g b x) (N := nU p) (q := ruleB p f) ?_ ?_ (nU p) 0 2000 (by omega) (by omega)
  · exact key
  · intro n
    rw [lp_X6_firstBroken_2, h.e1.2.1, hU.1, if_pos (Int32.le_refl _)]
  · intro n i hi
    obtain ⟨t, t1, t2, a, a1, a2, q⟩ := h.rule hi
    have hR := h.R t1
    have hT := h.T.2
    have ct : cl (p 81 i) = t := by rw [t2]; exact cl_nI (by omega)
    obtain ⟨c0, c1, c2, c3, c4⟩ := h.e8 i hi
    rw [lp_X6_firstBroken_2, h.e1.2.1, hU.1, if_neg (nI_ge hi (by omega)), if_neg (show ¬ (8 : Int32) ≤ nI i from nI_ge (b := 8) (by omega) (by decide)), if_pos (m_inN (by omega) (by decide)), nI_clamp (by omega), fr_rul b i (by omega), Option.bind_some, nI_1]
    have key2 := loop_all (lp := lp_X6_ruleHolds_2 g b (56 + i) x) (N := nR p t) (f := hold p f i) (fin := some true) (bad := some false) ?_ ?_ (nR p t) 0 2000 (by omega) (by omega)
    · have e : f_X6_ruleHolds g b (56 + i) x = some (ruleB p f i) := by
        unfold f_X6_ruleHolds ruleB
        rw [ct, show (0 : Int32) = nI 0 from rfl, key2]
        cases al (hold p f i) 0 (nR p t) <;> rfl
      rw [e, Option.bind_some]
    · intro m
      rw [lp_X6_ruleHolds_2, if_pos (s0_rul i (by omega)), c1, t2, F_rowsOf h, rowsN_nI h t1, Option.bind_some, if_pos (Int32.le_refl _)]
    · intro m r hr
      rw [lp_X6_ruleHolds_2, if_pos (s0_rul i (by omega)), c1, t2, F_rowsOf h, rowsN_nI h t1, Option.bind_some, if_neg (nI_ge hr (by omega)), F_holdC h hx sv hi (by rw [ct]; exact hr), Option.bind_some, nI_1]
theorem F_brokenM (h : St p g b) {f : Nat → Int32} (sv : sameV p g 87 f) : f_X7_firstBroken g = some (fbv p f) := by
  have hU := h.U
  unfold f_X7_firstBroken fbv
  have key := loop_ffb (lp := lp_X7_firstBroken_2 g) (N := nU p) (q := ruleB p f) ?_ ?_ (nU p) 0 2000 (by omega) (by omega)
  · exact key
  · intro n
    rw [lp_X7_firstBroken_2, h.m 64 20 (mp_i _ (by decide)), hU.1, if_pos (Int32.le_refl _)]
  · intro n i hi
    obtain ⟨t, t1, t2, a, a1, a2, q⟩ := h.rule hi
    have hR := h.R t1
    have hT := h.T.2
    have ct : cl (p 81 i) = t := by rw [t2]; exact cl_nI (by omega)
    have ni : m_in (nI i) 8 := m_inN (by omega) (by decide)
    have di : (nI i).toNatClampNeg = i := nI_clamp (by omega)
    have nt : m_in (nI t) 4 := m_inN (by omega) (by decide)
    have dt : (nI t).toNatClampNeg = t := nI_clamp (by omega)
    rw [lp_X7_firstBroken_2, h.m 64 20 (mp_i _ (by decide)), hU.1, if_neg (nI_ge hi (by omega))]
    have key2 := loop_all (lp := lp_X7_firstBroken_12 g (nI i) (fun y => lp_X7_firstBroken_2 g n y)) (N := nR p t) (f := hold p f i) (fin := lp_X7_firstBroken_2 g n (nI (i + 1))) (bad := some (nI i)) ?_ ?_ (nR p t) 0 2000 (by omega) (by omega)
    · unfold ruleB
      rw [ct]; exact key2
    · intro m
      rw [lp_X7_firstBroken_12, if_pos ni, di, h.m 81 _ (mp_i _ (by decide)), t2, if_pos nt, dt, h.m 66 _ (mp_i _ (by decide)), hR.1, if_pos (Int32.le_refl _), nI_1]
    · intro m r hr
      rw [lp_X7_firstBroken_12, if_pos ni, di, h.m 81 _ (mp_i _ (by decide)), t2, if_pos nt, dt, h.m 66 _ (mp_i _ (by decide)), hR.1, if_neg (nI_ge hr (by omega)), F_holdM h sv hi (by rw [ct]; exact hr), Option.bind_some, nI_1]
theorem s_broken (h : St p g b) (m : Int32) : ∃ v g2, f_X6_broken g b m = some v ∧ f_X7_broken g b m = some (v, g2) ∧ St p g2 b := by
  unfold f_X6_broken f_X7_broken
  rw [isBit_in]
  cases hb : f_X6_isBit m with
  | false => exact ⟨-2, g, rfl, rfl, h⟩
  | true =>
    simp only [cond_true, h.m 64 16 (mp_i _ (by decide))]
    by_cases hm : can p m
    · obtain ⟨g2, k1, k2, k3, k4⟩ := F_see h m
      rw [can_c h hm, can_m hm]
      refine ⟨fbv p (vw p m), g2, ?_, ?_, k2⟩
      · show ((f_X6_firstBroken g b (cpx b m)).bind fun v5 => some v5) = _
        rw [F_brokenC h (cpx_copy b m) (fun t ht r hr c hc => cpx_cell h hm ht hr hc)]; rfl
      · rw [k1, Option.bind_some, F_brokenM k2 (f := vw p m) (fun t ht r hr c hc => k3 _ (by have := h.T.2; have := (h.R ht).2; have := h.C6 t ht; omega))]; rfl
    · have hm' := can_no hb hm
      rw [can_cn h hm', can_mn hm']
      exact ⟨-3, g, rfl, rfl, h⟩
end BS
