/-! ===== shift, both ===== -/
theorem fits2 {k n : Int32} (e : f_X7_fits k 2 n = true) : k = 2 := by
  unfold f_X7_fits at e
  rw [if_neg (by decide), if_neg (by decide), if_pos rfl] at e
  by_cases z : n = 0
  · rw [if_pos z] at e
    by_cases k2 : k = 2
    · exact k2
    · rw [if_neg k2] at e; cases e
  · rw [if_neg z] at e; cases e
section SG
variable {p g : mI} {b : Bool}
/-- a day cell -/
theorem St.day (h : St p g b) {t r c : Nat} (ht : t < nT p) (hr : r < nR p t) (hc : c < nC p t) (hw : p 70 (6 * t + c) = 2) (hv : ¬ p 76 (72 * t + 6 * r + c) = (-2147483648)) : ∃ m, m ≤ 9999 ∧ p 76 (72 * t + 6 * r + c) = nI m := by
  have q := (h.k2 ht hc).2.2.2
  rw [hw] at q
  have k2 := fits2 q
  have e := h.cell ht hr hc
  rw [k2] at e
  unfold f_X7_isOf at e
  rw [if_neg hv, if_pos rfl] at e
  obtain ⟨a1, a2⟩ := (in_iff _ _ _).mp e
  exact nn_of3 (n := 9999) (by decide) a1 a2
theorem F_byRow (h : St p g b) {g' : mI} (hg : of6 g g') {P : Int32 → Prop} (hP : Rm P g') {t r : Nat} (ht : t < nT p) (hr : r < nR p t) : ∃ g2, f_X6_narrowRoomByRow g' b (16 + 10 * t) (nI t) (nI r) = some g2 ∧ of6 g g2 ∧ Rm (fun x => P x ∧ rOK p (ow p t r) x t r = true) g2 := by
  have hT := h.T.2
  have hC := h.C ht
  have hR := (h.R ht).2
  unfold f_X6_narrowRoomByRow
  have key := loop_inv (lp := lp_X6_narrowRoomByRow_3 b (16 + 10 * t) (nI t) (nI r)) (N := nC p t) (Inv := fun i s => of6 g s ∧ Rm (fun x => P x ∧ al (cOK p (ow p t r) x t r) 0 i = true) s) (fin := fun s => some s) ?_ ?_ (nC p t) 0 2000 g' (by omega) (by omega) ⟨hg, hP.iff fun x => ⟨fun q => ⟨q, rfl⟩, fun q => q.1⟩⟩
  · obtain ⟨s, q1, q2⟩ := key
    exact ⟨s, q2, q1.1, q1.2⟩
  · intro n s hs
    have h' := hs.1.st h
    rw [lp_X6_narrowRoomByRow_3, if_pos (s0_tab t (by omega)), (h'.e2 t ht).1, hC.1, if_pos (Int32.le_refl _)]
  · intro n i s hi hs
    have h' := hs.1.st h
    rw [lp_X6_narrowRoomByRow_3, if_pos (s0_tab t (by omega)), (h'.e2 t ht).1, hC.1, if_neg (nI_ge hi (by omega)), F_read (cp_t b) (by omega) (by omega) (by omega), show s (4 + 1) (72 * t + 6 * r + i) = p 76 (72 * t + 6 * r + i) from h'.e6 t ht r hr i hi, F_isShifted h' ht hi, Option.bind_some, Option.bind_some, nI_1]
    have same : (∀ x, cOK p (ow p t r) x t r i = true) → of6 g s ∧ Rm (fun x => P x ∧ al (cOK p (ow p t r) x t r) 0 (i + 1) = true) s := fun q => ⟨hs.1, hs.2.iff fun x => by rw [al_snoc]; exact ⟨fun y => ⟨y.1, y.2, q x⟩, fun y => ⟨y.1, y.2.1⟩⟩⟩
    by_cases z1 : p 76 (72 * t + 6 * r + i) = (-2147483648)
    · rw [if_pos z1]
      refine ⟨s, same (fun x => ?_), rfl⟩
      unfold cOK
      by_cases z2 : p 70 (6 * t + i) = 2
      · rw [if_pos z2, if_pos z1]
      · rw [if_neg z2]
    · rw [if_neg z1]
      by_cases z2 : p 70 (6 * t + i) = 2
      · rw [decide_eq_true z2, cond_true]
        obtain ⟨m, hm, em⟩ := h.day ht hr hi z2 z1
        obtain ⟨s2, y1, y2, y3⟩ := hs.2.narrow hs.1 hm
        rw [em, y1]
        refine ⟨s2, ⟨y2, y3.iff fun x => ?_⟩, rfl⟩
        have ec : cOK p (ow p t r) x t r i = f_X7_in (nI m + x) 0 9999 := by
          unfold cOK
          rw [if_pos z2, if_neg z1, if_pos rfl, em]
        rw [al_snoc, ec]
        exact ⟨fun y => ⟨y.1.1, y.1.2, y.2⟩, fun y => ⟨⟨y.1, y.2.1⟩, y.2.2⟩⟩
      · rw [decide_eq_false z2, cond_false]
        refine ⟨s, same (fun x => ?_), rfl⟩
        unfold cOK
        rw [if_neg z2]
theorem F_narrowRoom (h : St p g b) {g' : mI} (hg : of6 g g') {P : Int32 → Prop} (hP : Rm P g') {t : Nat} (ht : t < nT p) (a : Int32) : ∃ g2, f_X6_narrowRoom g' b (nI t) a = some g2 ∧ of6 g g2 ∧ Rm (fun x => P x ∧ tOK p a x t = true) g2 := by
  have hT := h.T.2
  have hR := h.R ht
  have h0 := hg.st h
  unfold f_X6_narrowRoom
  rw [F_tableAt h0, tOf_nI h0 ht]
  simp only [Option.map_some, Option.bind_some, m_oc, if_pos (s0_tab t (show t < 4 by omega)), F_hasShift h0 ht]
  cases es : al (fun c => !decide (p 70 (6 * t + c) = 2)) 0 (nC p t) with
  | true =>
    refine ⟨g', rfl, hg, hP.iff fun x => ⟨fun q => ⟨q, ?_⟩, fun q => q.1⟩⟩
    refine al_i _ _ (fun r _ _ => al_i _ _ (fun c _ hc => ?_))
    have := al_t _ _ es c (by omega) hc
    unfold cOK
    rw [if_neg (fun z => by rw [decide_eq_true z] at this; cases this)]
  | false =>
    show ∃ g2, lp_X6_narrowRoom_21 b (nI t) a (16 + 10 * t) 2000 0 g' = some g2 ∧ _
    have key := loop_inv (lp := lp_X6_narrowRoom_21 b (nI t) a (16 + 10 * t)) (N := nR p t) (Inv := fun i s => of6 g s ∧ Rm (fun x => P x ∧ al (rOK p a x t) 0 i = true) s) (fin := fun s => some s) ?_ ?_ (nR p t) 0 2000 g' (by omega) (by omega) ⟨hg, hP.iff fun x => ⟨fun q => ⟨q, rfl⟩, fun q => q.1⟩⟩
    · obtain ⟨s, q1, q2⟩ := key
      exact ⟨s, q2, q1.1, q1.2⟩
    · intro n s hs
      have h' := hs.1.st h
      rw [lp_X6_narrowRoom_21, if_pos (s0_tab t (by omega)), (h'.e2 t ht).2.1, hR.1, if_pos (Int32.le_refl _)]
    · intro n i s hi hs
      have h' := hs.1.st h
      rw [lp_X6_narrowRoom_21, if_pos (s0_tab t (by omega)), (h'.e2 t ht).2.1, hR.1, if_neg (nI_ge hi (by omega)), F_ownerC h' ht hi, Option.bind_some, nI_1]
      by_cases z : ow p t i = a
      · rw [if_pos z]
        obtain ⟨s2, y1, y2, y3⟩ := F_byRow h hs.1 hs.2 ht hi
        rw [y1]
        refine ⟨s2, ⟨y2, y3.iff fun x => ?_⟩, rfl⟩
        rw [al_snoc, z]
        exact ⟨fun y => ⟨y.1.1, y.1.2, y.2⟩, fun y => ⟨⟨y.1, y.2.1⟩, y.2.2⟩⟩
      · rw [if_neg z]
        refine ⟨s, ⟨hs.1, hs.2.iff fun x => ?_⟩, rfl⟩
        rw [al_snoc]
        refine ⟨fun y => ⟨y.1, y.2, al_i _ _ (fun c _ _ => ?_)⟩, fun y => ⟨y.1, y.2.1⟩⟩
        unfold cOK
        by_cases z1 : p 70 (6 * t + c) = 2
        · rw [if_pos z1]
          by_cases z2 : p 76 (72 * t + 6 * i + c) = (-2147483648)
          · rw [if_pos z2]
          · rw [if_neg z2, if_neg z]
        · rw [if_neg z1]
theorem Rm.lets {P : Int32 → Prop} (h : Rm P g) {x : Int32} (x1 : -30 ≤ x.toInt) (x2 : x.toInt ≤ 30) : f_X2_lets g x = true ↔ P x := by
  obtain ⟨lo, hi, l1, l2, l3, l4, l5⟩ := h
  rw [← l5 x x1 x2]
  unfold f_X2_lets
  rw [l3, l4]
  have el : (nI lo).toInt = lo := nI_toInt (by omega)
  have eh : (nI hi).toInt = hi := nI_toInt (by omega)
  have en : (-(nI lo)).toInt = -(lo : Int) := by
    rw [← Int32.zero_sub, tI_sub (by rw [el]; show -2147483648 ≤ 0 - _; omega) (by rw [el]; show 0 - _ < _; omega), el]
    show 0 - _ = _; omega
  by_cases z1 : x < -(nI lo)
  · rw [if_pos z1]
    have := Int32.lt_iff_toInt_lt.mp z1
    rw [en] at this
    constructor
    · intro q; cases q
    · intro q; omega
  · rw [if_neg z1]
    have y1 : ¬ x.toInt < -(lo : Int) := fun q => z1 (Int32.lt_iff_toInt_lt.mpr (by rw [en]; exact q))
    by_cases z2 : nI hi < x
    · rw [if_pos z2]
      have := Int32.lt_iff_toInt_lt.mp z2
      rw [eh] at this
      constructor
      · intro q; cases q
      · intro q; omega
    · rw [if_neg z2]
      have y2 : ¬ (hi : Int) < x.toInt := fun q => z2 (Int32.lt_iff_toInt_lt.mpr (by rw [eh]; exact q))
      constructor
      · intro _; omega
      · intro _; rfl
/-- the y-th try -/
def amt (p : mI) (a y : Int32) : Int32 := m_rem ((a + p 64 13) + y) 61 - 30
theorem amt_v (h : St p g b) {n y : Nat} (hn : n < 100000) (hy : y ≤ 1000) : ∃ s, s ≤ 60 ∧ p 64 13 = nI s ∧ (amt p (nI n) (nI y)).toInt = (((n + s + y) % 61 : Nat) : Int) - 30 := by
  obtain ⟨a1, a2⟩ := (in_iff _ _ _).mp h.sd
  obtain ⟨s, hs, es⟩ := nn_of3 (n := 60) (by decide) a1 a2
  refine ⟨s, hs, es, ?_⟩
  unfold amt
  rw [es, nI_add, nI_add, show (61 : Int32) = nI 61 from rfl, m_remN (by omega) (by decide) (by decide), show (30 : Int32) = nI 30 from rfl]
  have := Nat.mod_lt (n + s + y) (show 0 < 61 by decide)
  rw [pk_sub_toInt (by omega) (by decide)]
  rfl
theorem amt_b (h : St p g b) {n y : Nat} (hn : n < 100000) (hy : y ≤ 1000) : -30 ≤ (amt p (nI n) (nI y)).toInt ∧ (amt p (nI n) (nI y)).toInt ≤ 30 := by
  obtain ⟨s, -, -, e⟩ := amt_v h hn hy
  have := Nat.mod_lt (n + s + y) (show 0 < 61 by decide)
  rw [e]; omega
def fnd (f : Nat → Bool) (v : Nat → Int32) : Nat → Nat → Int32
  | _, 0 => 0
  | i, k + 1 => bif f i then v i else fnd f v (i + 1) k
def shv (p : mI) (a : Int32) : Int32 := if a = (-2147483648) then 0 else fnd (fun y => stB p a (amt p a (nI y))) (fun y => amt p a (nI y)) 0 61
/-- nought always fits -/
theorem stB_0 (h : St p g b) (a : Int32) : stB p a 0 = true := by
  refine al_i _ _ (fun t _ ht => al_i _ _ (fun r _ hr => al_i _ _ (fun c _ hc => ?_)))
  unfold cOK
  by_cases z1 : p 70 (6 * t + c) = 2
  · rw [if_pos z1]
    by_cases z2 : p 76 (72 * t + 6 * r + c) = (-2147483648)
    · rw [if_pos z2]
    · rw [if_neg z2]
      by_cases z3 : ow p t r = a
      · obtain ⟨m, hm, em⟩ := h.day (show t < nT p by omega) (show r < nR p t by omega) (show c < nC p t by omega) z1 z2
        rw [if_pos z3, em, Int32.add_zero, in_iff]
        exact ⟨nI_pos' (by omega), nI_le (b := 9999) hm (by decide)⟩
      · rw [if_neg z3]
  · rw [if_neg z1]
theorem amt_0 (h : St p g b) {n : Nat} (hn : n < 100000) : ∃ y, y < 61 ∧ amt p (nI n) (nI y) = 0 := by
  obtain ⟨s, hs, es, -⟩ := amt_v h hn (y := 0) (by omega)
  obtain ⟨y, hy, ey⟩ : ∃ y, y < 61 ∧ (n + s + y) % 61 = 30 := ⟨(91 - (n + s) % 61) % 61, by omega, by omega⟩
  refine ⟨y, hy, ?_⟩
  unfold amt
  rw [es, nI_add, nI_add, show (61 : Int32) = nI 61 from rfl, m_remN (by omega) (by decide) (by decide), ey]
  decide
theorem fnd_ok {f : Nat → Bool} {v : Nat → Int32} : ∀ (k i : Nat), (∃ j, i ≤ j ∧ j < i + k ∧ f j = true) → ∃ j, i ≤ j ∧ j < i + k ∧ f j = true ∧ fnd f v i k = v j
  | 0, i, ⟨j, h1, h2, _⟩ => by omega
  | k + 1, i, ⟨j, h1, h2, h3⟩ => by
    show ∃ j, _ ∧ _ ∧ _ ∧ (bif f i then v i else fnd f v (i + 1) k) = v j
    cases e : f i with
    | true => exact ⟨i, by omega, by omega, e, rfl⟩
    | false =>
      have : j ≠ i := fun z => by rw [z, e] at h3; cases h3
      obtain ⟨j', q1, q2, q3, q4⟩ := fnd_ok (f := f) (v := v) k (i + 1) ⟨j, by omega, by omega, h3⟩
      exact ⟨j', by omega, by omega, q3, q4⟩
theorem shv_ok (h : St p g b) {n : Nat} (hn : n < 100000) : stB p (nI n) (shv p (nI n)) = true ∧ -30 ≤ (shv p (nI n)).toInt ∧ (shv p (nI n)).toInt ≤ 30 := by
  unfold shv
  have hne : ¬ nI n = (-2147483648) := fun z => nI_pos (n := n) (by omega) (by rw [z]; decide)
  rw [if_neg hne]
  obtain ⟨y, hy, ey⟩ := amt_0 h hn
  obtain ⟨j, q1, q2, q3, q4⟩ := fnd_ok (f := fun y => stB p (nI n) (amt p (nI n) (nI y))) (v := fun y => amt p (nI n) (nI y)) 61 0 ⟨y, by omega, by omega, by show stB p (nI n) (amt p (nI n) (nI y)) = true; rw [ey]; exact stB_0 h _⟩
  rw [q4]
  exact ⟨q3, amt_b h hn (by omega)⟩
theorem F_sh39 (h : St p g b) {g' : mI} (hg : of6 g g') {n : Nat} (hn : n < 100000) (hP : Rm (fun x => stB p (nI n) x = true) g') (k17 : Int32 → mI → Option (Int32 × mI)) : ∀ (k i m : Nat), i + k = 61 → k < m → lp_X6_shiftOf_39 b (nI n) g' k17 m (nI i) = some (fnd (fun y => stB p (nI n) (amt p (nI n) (nI y))) (fun y => amt p (nI n) (nI y)) i k, g')
  | 0, i, m, h1, h2 => by
    obtain ⟨m', rfl⟩ : ∃ m', m = m' + 1 := ⟨m - 1, by omega⟩
    rw [show i = 61 by omega, lp_X6_shiftOf_39, if_pos (show (61 : Int32) ≤ nI 61 by decide)]
    rfl
  | k + 1, i, m, h1, h2 => by
    obtain ⟨m', rfl⟩ : ∃ m', m = m' + 1 := ⟨m - 1, by omega⟩
    have e13 : g' 0 11 = p 64 13 := (hg.st h).e1.2.2.2.1
    obtain ⟨x1, x2⟩ := amt_b h hn (y := i) (by omega)
    have hl := hP.lets x1 x2
    have el : f_X2_lets g' (amt p (nI n) (nI i)) = stB p (nI n) (amt p (nI n) (nI i)) := by
      cases q : stB p (nI n) (amt p (nI n) (nI i)) with
      | true => exact hl.mpr q
      | false =>
        cases q2 : f_X2_lets g' (amt p (nI n) (nI i)) with
        | false => rfl
        | true => have := hl.mp q2; rw [q] at this; cases this
    rw [lp_X6_shiftOf_39, if_neg (show ¬ (61 : Int32) ≤ nI i from nI_ge (b := 61) (by omega) (by decide)), e13, nI_1]
    show (bif f_X2_lets g' (amt p (nI n) (nI i)) then some (amt p (nI n) (nI i), g') else lp_X6_shiftOf_39 b (nI n) g' k17 m' (nI (i + 1))) = some ((bif stB p (nI n) (amt p (nI n) (nI i)) then amt p (nI n) (nI i) else fnd _ _ (i + 1) k), g')
    rw [el]
    cases stB p (nI n) (amt p (nI n) (nI i)) with
    | true => rfl
    | false => exact F_sh39 h hg hn hP k17 k (i + 1) m' (by omega) (by omega)
theorem F_shiftC (h : St p g b) {a : Int32} (ha : a = (-2147483648) ∨ ∃ n, n < 100000 ∧ a = nI n) : ∃ g2, f_X6_shiftOf g b a = some (shv p a, g2) ∧ of6 g g2 := by
  have hT := h.T.2
  unfold f_X6_shiftOf shv
  by_cases z : a = (-2147483648)
  · rw [if_pos z, if_pos z]; exact ⟨g, rfl, fun _ _ _ => rfl⟩
  · rw [if_neg z, if_neg z]
    obtain ⟨n, hn, rfl⟩ := ha.resolve_left z
    unfold f_X2_open
    show ∃ g2, lp_X6_shiftOf_17 b (nI n) 2000 0 (m_up (m_up g 6 0 30) 6 1 30) = _ ∧ _
    have hg : of6 g (m_up (m_up g 6 0 30) 6 1 30) := fun x k hx => by rw [m_up_o (by omega), m_up_o (by omega)]
    have key := loop_inv (lp := lp_X6_shiftOf_17 b (nI n)) (N := nT p) (Inv := fun i s => of6 g s ∧ Rm (fun x => al (tOK p (nI n) x) 0 i = true) s) (fin := fun s => some (fnd (fun y => stB p (nI n) (amt p (nI n) (nI y))) (fun y => amt p (nI n) (nI y)) 0 61, s)) ?_ ?_ (nT p) 0 2000 (m_up (m_up g 6 0 30) 6 1 30) (by omega) (by omega) ⟨hg, 30, 30, by omega, by omega, by rw [m_up_o (by omega), m_up_eq]; rfl, by rw [m_up_eq]; rfl, fun x x1 x2 => ⟨fun _ => rfl, fun _ => ⟨x1, x2⟩⟩⟩
    · obtain ⟨s, q1, q2⟩ := key
      exact ⟨s, q2, q1.1⟩
    · intro m s hs
      rw [lp_X6_shiftOf_17, (hs.1.st h).e1.1, h.T.1, if_pos (Int32.le_refl _)]
      exact F_sh39 h hs.1 hn hs.2 _ 61 0 2000 rfl (by decide)
    · intro m i s hi hs
      rw [lp_X6_shiftOf_17, (hs.1.st h).e1.1, h.T.1, if_neg (nI_ge hi (by omega))]
      obtain ⟨s2, y1, y2, y3⟩ := F_narrowRoom h hs.1 hs.2 hi (nI n)
      rw [y1, nI_1]
      exact ⟨s2, ⟨y2, y3.iff fun x => (al_snoc i).symm⟩, rfl⟩
theorem F_sh10 (h : St p g b) {n : Nat} (hn : n < 100000) : ∀ (k i m : Nat), i + k = 61 → k < m → (∃ j, i ≤ j ∧ j < i + k ∧ stB p (nI n) (amt p (nI n) (nI j)) = true) → lp_X7_shiftOf_10 g (nI n) m (nI i) = some (fnd (fun y => stB p (nI n) (amt p (nI n) (nI y))) (fun y => amt p (nI n) (nI y)) i k)
  | 0, i, m, h1, h2, ⟨j, q1, q2, _⟩ => by omega
  | k + 1, i, m, h1, h2, ⟨j, q1, q2, q3⟩ => by
    obtain ⟨m', rfl⟩ : ∃ m', m = m' + 1 := ⟨m - 1, by omega⟩
    rw [lp_X7_shiftOf_10, F_stays h, h.m 64 13 (mp_i _ (by decide)), Option.bind_some, nI_1]
    show (bif stB p (nI n) (amt p (nI n) (nI i)) then some (amt p (nI n) (nI i)) else lp_X7_shiftOf_10 g (nI n) m' (nI (i + 1))) = some ((bif stB p (nI n) (amt p (nI n) (nI i)) then amt p (nI n) (nI i) else fnd _ _ (i + 1) k))
    cases e : stB p (nI n) (amt p (nI n) (nI i)) with
    | true => rfl
    | false =>
      have : j ≠ i := fun z => by rw [z, e] at q3; cases q3
      exact F_sh10 h hn k (i + 1) m' (by omega) (by omega) ⟨j, by omega, by omega, q3⟩
theorem F_shiftM (h : St p g b) {a : Int32} (ha : a = (-2147483648) ∨ ∃ n, n < 100000 ∧ a = nI n) : f_X7_shiftOf g a = some (shv p a) := by
  unfold f_X7_shiftOf shv
  by_cases z : a = (-2147483648)
  · rw [if_pos z, if_pos z]
  · rw [if_neg z, if_neg z]
    obtain ⟨n, hn, rfl⟩ := ha.resolve_left z
    obtain ⟨y, hy, ey⟩ := amt_0 h hn
    exact F_sh10 h hn 61 0 2000 rfl (by decide) ⟨y, by omega, by omega, by rw [ey]; exact stB_0 h _⟩
theorem s_shift (h : St p g b) (a : Int32) : ∃ v g1, f_X6_shift g b a = some (v, g1) ∧ f_X7_shift g1 a = some v ∧ St p g1 b := by
  unfold f_X6_shift f_X7_shift
  rw [isKey_eq]
  cases e : f_X7_isKey a with
  | false => exact ⟨-2147483648, g, rfl, rfl, h⟩
  | true =>
    obtain ⟨n, hn, rfl⟩ := (isKey_iff a).mp e
    obtain ⟨g2, q1, q2⟩ := F_shiftC h (a := nI n) (Or.inr ⟨n, hn.1, rfl⟩)
    refine ⟨shv p (nI n), g2, ?_, ?_, q2.st h⟩
    · rw [q1]; rfl
    · rw [F_shiftM (q2.st h) (Or.inr ⟨n, hn.1, rfl⟩)]; rfl
end SG
