/-! ===== could, alike, sure: the calls ===== -/
theorem mvB_al (ac : Nat → Bool) (sh : Nat → Int32) (d : Int32) : ∀ (k i : Nat), mvB (fun _ => true) ac sh i k (some d) = al (fun j => bif ac j then decide (sh j = d) else true) i k
  | 0, i => rfl
  | k + 1, i => by
    rw [mvB_s, al_s, cond_true]
    cases e : ac i with
    | false =>
      rw [cond_false, cond_false, cond_true]
      exact mvB_al ac sh d k (i + 1)
    | true =>
      rw [cond_true, cond_true]
      by_cases z : sh i = d
      · have e1 : mvT (some d) (sh i) = true := decide_eq_true z
        rw [e1, decide_eq_true z, cond_true, cond_true, z]
        exact mvB_al ac sh d k (i + 1)
      · have e1 : mvT (some d) (sh i) = false := decide_eq_false z
        rw [e1, decide_eq_false z, cond_false, cond_false]
theorem mvB_own (ac : Nat → Bool) (sh : Nat → Int32) {r : Nat} (hr : ac r = true) : ∀ (k i : Nat), i ≤ r → r < i + k → mvB (fun _ => true) ac sh i k none = al (fun j => bif ac j then decide (sh j = sh r) else true) i k
  | 0, i, h1, h2 => by omega
  | k + 1, i, h1, h2 => by
    rw [mvB_s, al_s, cond_true]
    cases e : ac i with
    | false =>
      rw [cond_false, cond_false, cond_true]
      have : i ≠ r := fun z => by rw [z, hr] at e; cases e
      exact mvB_own ac sh hr k (i + 1) (by omega) (by omega)
    | true =>
      rw [cond_true, cond_true, show mvT none (sh i) = true from rfl, cond_true, mvB_al]
      by_cases z : sh i = sh r
      · rw [decide_eq_true z, cond_true, z]
      · rw [decide_eq_false z, cond_false]
        have hn : i ≠ r := fun y => z (by rw [y])
        cases w : al (fun j => bif ac j then decide (sh j = sh i) else true) (i + 1) k with
        | false => rfl
        | true =>
          have := al_t _ _ w r (by omega) (by omega)
          simp only [hr, cond_true] at this
          exact absurd (of_decide_eq_true this).symm z
section CQ
variable {p g : mI} {b : Bool}
theorem mkv_sh (h : St p g b) {t r c : Nat} (ht : t < nT p) (hc : c < nC p t) (z : p 70 (6 * t + c) = 2) : mkv p t r c = if p 76 (72 * t + 6 * r + c) = (-2147483648) then (-2147483648) else p 76 (72 * t + 6 * r + c) + shv p (ow p t r) := by
  have q := (h.k2 ht hc).2.2.2
  rw [z] at q
  have k2 := fits2 q
  unfold mkv
  rw [z, k2, if_neg (show ¬ (2 : Int32) = 4 by decide), if_neg (show ¬ (2 : Int32) = 5 by decide), if_neg (show ¬ (2 : Int32) = 1 by decide), if_neg (show ¬ (2 : Int32) = 1 by decide), if_pos (show (2 : Int32) = 2 from rfl)]
theorem mkv_shM (h : St p g b) {t r c : Nat} (ht : t < nT p) (hr : r < nR p t) (hc : c < nC p t) (z : p 70 (6 * t + c) = 2) (hv : ¬ p 76 (72 * t + 6 * r + c) = (-2147483648)) : mkv p t r c = p 76 (72 * t + 6 * r + c) + shv p (ow p t r) ∧ ¬ mkv p t r c = (-2147483648) := by
  have e := mkv_sh h (r := r) ht hc z
  rw [if_neg hv] at e
  refine ⟨e, fun q => ?_⟩
  obtain ⟨m, hm, em⟩ := h.day ht hr hc z hv
  have sb := shv_b h ht hr
  have e2 : (nI m).toInt = m := nI_toInt (by omega)
  rw [q, em] at e
  have e3 := congrArg Int32.toInt e
  rw [tI_add (by omega) (by omega), e2, show (-2147483648 : Int32).toInt = -2147483648 by decide] at e3
  omega
/-- a row could be itself -/
theorem cbB_self (h : St p g b) {t r kn : Nat} (ht : t < nT p) (hr : r < nR p t) : cbB p kn t r r = true := by
  unfold cbB
  have e1 : al (lkB p kn t r r) 0 (nC p t) = true := al_i _ _ (fun c _ hc => by
    unfold lkB
    rw [decide_eq_true rfl]
    cases kn.testBit c with
    | false => rfl
    | true => cases plB p t c <;> rfl)
  have e2 : ∀ (k i : Nat) (o : Option Int32), i + k = nC p t → (o = none ∨ o = some (shv p (ow p t r))) → mvB (okB p kn t r r) (acB p kn t r r) (shB p t r r) i k o = true := by
    intro k
    induction k with
    | zero => intro i o _ _; rfl
    | succ k ih =>
      intro i o h1 h2
      have hc : i < nC p t := by omega
      rw [mvB_s]
      cases hb : kn.testBit i with
      | false =>
        have e1 : okB p kn t r r i = true := by unfold okB; rw [hb]; rfl
        have e2 : acB p kn t r r i = false := by unfold acB; rw [hb]; rfl
        rw [e1, e2, cond_true, cond_false]
        exact ih _ _ (by omega) h2
      | true =>
        by_cases z2 : p 70 (6 * t + i) = 2
        · by_cases a1 : p 76 (72 * t + 6 * r + i) = (-2147483648)
          · have a2 : mkv p t r i = (-2147483648) := by rw [mkv_sh h ht hc z2, if_pos a1]
            have e1 : okB p kn t r r i = true := by unfold okB; rw [hb, cond_true, if_pos z2, if_pos a1, decide_eq_true a2]
            have e2 : acB p kn t r r i = false := by unfold acB; rw [hb, cond_true, if_pos z2, if_pos a1]
            rw [e1, e2, cond_true, cond_false]
            exact ih _ _ (by omega) h2
          · obtain ⟨a3, a2⟩ := mkv_shM h ht hr hc z2 a1
            have e1 : okB p kn t r r i = true := by unfold okB; rw [hb, cond_true, if_pos z2, if_neg a1, decide_eq_false a2]; rfl
            have e2 : acB p kn t r r i = true := by unfold acB; rw [hb, cond_true, if_pos z2, if_neg a1, decide_eq_false a2]; rfl
            have e3 : shB p t r r i = shv p (ow p t r) := by
              unfold shB
              rw [a3, Int32.add_comm, Int32.add_sub_cancel]
            have e4 : mvT o (shB p t r r i) = true := by
              rcases h2 with q | q
              · rw [q]; rfl
              · rw [q]; exact decide_eq_true e3
            rw [e1, e2, e4, cond_true, cond_true, cond_true]
            exact ih _ _ (by omega) (Or.inr (by rw [e3]))
        · have e1 : okB p kn t r r i = true := by unfold okB; rw [hb, cond_true, if_neg z2]
          have e2 : acB p kn t r r i = false := by unfold acB; rw [hb, cond_true, if_neg z2]
          rw [e1, e2, cond_true, cond_false]
          exact ih _ _ (by omega) h2
  rw [e1, e2 (nC p t) 0 none (by omega) (Or.inl rfl)]; rfl
theorem F_known (h : St p g b) {t : Nat} (ht : t < nT p) (x : Int32) : (∃ kn, kn < 64 ∧ kn < 2 ^ nC p t ∧ x = nI kn ∧ f_X6_areColumns g b (nI t) x = some true ∧ ∀ g', Sm p g' → f_X7_isKnown g' (nI t) x = some true) ∨ (f_X6_areColumns g b (nI t) x = some false ∧ ∀ g', Sm p g' → f_X7_isKnown g' (nI t) x = some false) := by
  have hT := h.T.2
  have hC := h.C ht
  have nt : m_in (nI t) 4 := m_inN (by omega) (by decide)
  have dt : (nI t).toNatClampNeg = t := nI_clamp (by omega)
  have hp : 2 ^ nC p t ≤ 2 ^ 6 := Nat.pow_le_pow_right (by decide) hC.2.2
  by_cases z : x < 0
  · right
    refine ⟨?_, fun g' h' => ?_⟩
    · unfold f_X6_areColumns; rw [if_pos z]
    · unfold f_X7_isKnown; rw [if_pos z]
  · obtain ⟨j, hj, rfl⟩ := nI_of z
    have eA : f_X6_areColumns g b (nI t) (nI j) = if nI (2 ^ nC p t) ≤ nI j then some false else some true := by
      unfold f_X6_areColumns; rw [if_neg z, F_columnsOf h, colsN_nI h ht, Option.bind_some, m_shlN (by omega)]
    have eB : ∀ g', Sm p g' → f_X7_isKnown g' (nI t) (nI j) = if nI (2 ^ nC p t) ≤ nI j then some false else some true := by
      intro g' h'
      unfold f_X7_isKnown; rw [if_neg z, if_pos nt, dt, h'.m 65 _ (mp_i _ (by decide)), hC.1, m_shlN (by omega)]
    by_cases y : 2 ^ nC p t ≤ j
    · right
      rw [if_pos (nI_le y hj)] at eA
      exact ⟨eA, fun g' h' => by rw [eB g' h', if_pos (nI_le y hj)]⟩
    · left
      have y2 : ¬ nI (2 ^ nC p t) ≤ nI j := nI_ge (by omega) (by omega)
      rw [if_neg y2] at eA
      exact ⟨j, by omega, by omega, rfl, eA, fun g' h' => by rw [eB g' h', if_neg y2]⟩
theorem Wb.drf {A t : Nat} {g0 s : mI} (h : Wb A t (nC p t) (mkv p t) g0 (nR p t) 0 s) : drf p s A t := fun r c hr hc => h.2 r c hc (Or.inl hr)
theorem s_could (h : St p g b) (t r x : Int32) : ∃ v g1 g2, f_X6_could g b t r x = some (v, g1) ∧ f_X7_could g1 t r x = some (v, g2) ∧ St p g2 b := by
  unfold f_X6_could f_X7_could
  rw [F_isRow h]
  cases er : rOf p t r with
  | none =>
    refine ⟨-1, g, g, rfl, ?_, h⟩
    rw [F7_isRow h, er]; rfl
  | some q =>
    obtain ⟨h1, h4, h3, h6, rfl, rfl⟩ := rOf_some h er
    have hR := (h.R h1).2
    simp only [Option.isSome_some, Option.bind_some, cond_true]
    rcases F_known h h1 x with ⟨kn, k1, k2, rfl, k4, k5⟩ | ⟨k4, k5⟩
    · obtain ⟨g1, m1, m2, m3⟩ := F_draft h h1
      have h' := m2.st h
      obtain ⟨g2, w1, w2, w3⟩ := F_maskTable h' h1
      have h'' := w2.st h'
      refine ⟨nI (cnN (cbB p kn q.1 q.2) (nR p q.1)), g1, g2, ?_, ?_, h''⟩
      · rw [k4, Option.bind_some, cond_true, m1, Option.bind_some, F_couldSet h' h1 h3 (by omega) m3.drf, Option.bind_some, bcS _ hR]
      · rw [F7_isRow h', er, Option.isSome_some, Option.bind_some, cond_true, k5 g1 h'.sm, Option.bind_some, cond_true, w1, Option.bind_some, F_couldOf h''.sm h1 h3 (by omega) w3.drf, Option.bind_some]
    · refine ⟨-2, g, g, ?_, ?_, h⟩
      · rw [k4]; rfl
      · rw [F7_isRow h, er, Option.isSome_some, Option.bind_some, cond_true, k5 g h.sm]; rfl
theorem s_alike (h : St p g b) (t x : Int32) : ∃ v g1 g2, f_X6_alike g b t x = some (v, g1) ∧ f_X7_alike g1 t x = some (v, g2) ∧ St p g2 b := by
  unfold f_X6_alike f_X7_alike
  rw [F_rowsOf h]
  cases et : tOf p t with
  | none =>
    have e0 : rowsN p t = 0 := by unfold rowsN; rw [et]
    refine ⟨-1, g, g, ?_, ?_, h⟩
    · rw [e0]; rfl
    · rw [F7_isTable h, et]; rfl
  | some q =>
    obtain ⟨h1, h4, rfl⟩ := tOf_some h et
    have hR := h.R h1
    have nt : m_in (nI q) 4 := m_inN h4 (by decide)
    have dt : (nI q).toNatClampNeg = q := nI_clamp (by omega)
    rw [rowsN_nI h h1, Option.bind_some]
    by_cases z : nR p q = 0
    · refine ⟨-1, g, g, ?_, ?_, h⟩
      · rw [z]; rfl
      · rw [F7_isTable h, et, Option.isSome_some, cond_true, if_pos nt, dt, h.m 66 _ (mp_i _ (by decide)), hR.1, z]; rfl
    · have z' : ¬ nI (nR p q) = 0 := nI_ne0 (by omega) (by omega)
      rw [if_neg z']
      rcases F_known h h1 x with ⟨kn, k1, k2, rfl, k4, k5⟩ | ⟨k4, k5⟩
      · obtain ⟨g1, m1, m2, m3⟩ := F_draft h h1
        have h' := m2.st h
        obtain ⟨g2, w1, w2, w3⟩ := F_maskTable h' h1
        have h'' := w2.st h'
        refine ⟨nI (mnN (fun r => cnN (cbB p kn q r) (nR p q)) 12 (nR p q)), g1, g2, ?_, ?_, h''⟩
        · rw [k4, Option.bind_some, cond_true, m1, Option.bind_some, F_alike33 h' h1 (by omega) m3.drf]
        · rw [F7_isTable h', et, Option.isSome_some, cond_true, if_pos nt, dt, h'.m 66 _ (mp_i _ (by decide)), hR.1, if_neg z', k5 g1 h'.sm, Option.bind_some, cond_true]
          unfold f_X7_alikeOf
          rw [w1, Option.bind_some, F_alike11 h''.sm h1 (by omega) w3.drf, Option.bind_some]
          obtain ⟨n, en⟩ : ∃ n, nR p q = n + 1 := ⟨nR p q - 1, by omega⟩
          have c0 := cnN_le (cbB p kn q 0) (nR p q)
          have e9 : mnN (fun r => cnN (cbB p kn q r) (nR p q)) 12 (nR p q) = mnN (fun r => cnN (cbB p kn q r) (nR p q)) 13 (nR p q) := by
            have := mnN_1213 (c := fun r => cnN (cbB p kn q r) (nR p q)) (by show cnN (cbB p kn q 0) (nR p q) ≤ 12; omega) n
            rw [← en] at this
            exact this
          rw [e9]
      · refine ⟨-2, g, g, ?_, ?_, h⟩
        · rw [k4]; rfl
        · rw [F7_isTable h, et, Option.isSome_some, cond_true, if_pos nt, dt, h.m 66 _ (mp_i _ (by decide)), hR.1, if_neg z', k5 g h.sm]; rfl
theorem F_sure63 (h : St p g b) {t r kn c : Nat} (ht : t < nT p) (hc : c < nC p t) (dr : drf p g (m_pD b + 1) t) (own y1 y2 : Int32) (f : Nat → Bool) : lp_X6_sure_63 b (nI t) y1 y2 (nI c) (nI (bsN f (nR p t))) own g 2000 (nI 0) = some ((if al (fun m => bif f m then decide (mkv p t m c = own) else true) 0 (nR p t) = true then 1 else 0), g) := by
  have hT := h.T.2
  have hC := h.C6 t ht
  have hR := (h.R ht).2
  have hb := bsN_4096 f hR
  have key := loop_all (lp := lp_X6_sure_63 b (nI t) y1 y2 (nI c) (nI (bsN f (nR p t))) own g) (N := nR p t) (f := fun m => bif f m then decide (mkv p t m c = own) else true) (fin := some (1, g)) (bad := some (0, g)) ?_ ?_ (nR p t) 0 2000 (by omega) (by omega)
  · rw [key]
    cases al (fun m => bif f m then decide (mkv p t m c = own) else true) 0 (nR p t) <;> rfl
  · intro n
    rw [lp_X6_sure_63, F_rowsOf h, rowsN_nI h ht, Option.bind_some, if_pos (Int32.le_refl _)]
  · intro n m hm
    have e : (bsN f (nR p t)).testBit m = f m := by rw [bsN_bit, decide_eq_true hm, Bool.true_and]
    rw [lp_X6_sure_63, F_rowsOf h, rowsN_nI h ht, Option.bind_some, if_neg (nI_ge hm (by omega)), hasBitN (by omega) (by omega), e, if_pos (s0_pD b), F_read (cp_D b) (by omega) (by omega) (by omega), Option.bind_some, dr m c hm hc, nI_1]
    cases f m with
    | false => rfl
    | true =>
      rw [cond_true, cond_true]
      by_cases z : mkv p t m c = own
      · rw [if_pos z, decide_eq_true z]; rfl
      · rw [if_neg z, decide_eq_false z]; rfl
theorem F_sure44 (h : Sm p g) {t r kn c : Nat} (ht : t < nT p) (hr : r < nR p t) (hk : kn < 2 ^ 31) (hc : c < nC p t) (dr : drf p g 78 t) : ∀ (k i n : Nat) (y5 : Int32) (o : Option Int32), i + k = nR p t → k < n → ((o = none ∧ y5 = -1) ∨ (∃ j, j < i ∧ o = some (mkv p t j c) ∧ y5 = nI j)) → lp_X7_sure_44 (nI t) (nI r) (nI kn) (nI c) g n y5 (nI i) = some ((if mvB (fun _ => true) (cbB p kn t r) (fun m => mkv p t m c) i k o = true then 1 else 0), g)
  | 0, i, n, y5, o, h1, h2, h3 => by
    obtain ⟨m, rfl⟩ : ∃ m, n = m + 1 := ⟨n - 1, by omega⟩
    have hT := h.T.2
    have hR := h.R ht
    rw [lp_X7_sure_44, if_pos (m_inN (show t < 4 by omega) (by decide)), nI_clamp (by omega), h.m 66 _ (mp_i _ (by decide)), hR.1, show i = nR p t by omega, if_pos (Int32.le_refl _)]
    rfl
  | k + 1, i, n, y5, o, h1, h2, h3 => by
    obtain ⟨m, rfl⟩ : ∃ m, n = m + 1 := ⟨n - 1, by omega⟩
    have hT := h.T.2
    have hC := h.C6 t ht
    have hR := h.R ht
    have hi : i < nR p t := by omega
    have ih := F_sure44 h ht hr hk hc dr k (i + 1) m
    have h3' : (o = none ∧ y5 = -1) ∨ (∃ j, j < i + 1 ∧ o = some (mkv p t j c) ∧ y5 = nI j) := by
      rcases h3 with q | ⟨j, q1, q2⟩
      · exact Or.inl q
      · exact Or.inr ⟨j, by omega, q2⟩
    rw [lp_X7_sure_44, if_pos (m_inN (show t < 4 by omega) (by decide)), nI_clamp (by omega), h.m 66 _ (mp_i _ (by decide)), hR.1, if_neg (nI_ge hi (by omega)), F_couldBe h ht hr hi hk dr, Option.bind_some, mvB_s, cond_true, nI_1]
    cases e : cbB p kn t r i with
    | false =>
      rw [cond_false, cond_false]
      exact ih _ _ (by omega) (by omega) h3'
    | true =>
      rw [cond_true, cond_true]
      rcases h3 with ⟨q1, q2⟩ | ⟨j, q1, q2, q3⟩
      · rw [q1, q2, if_pos rfl, show mvT none (mkv p t i c) = true from rfl, cond_true]
        exact ih (nI i) (some (mkv p t i c)) (by omega) (by omega) (Or.inr ⟨i, by omega, rfl, rfl⟩)
      · have n1 : ¬ nI j = -1 := fun z => nI_pos (n := j) (by omega) (by rw [z]; decide)
        have ni : m_in (nI (72 * t + 6 * i + c)) 288 := m_inN (cell_in (by omega) (by omega) (by omega)) (by decide)
        have di : (nI (72 * t + 6 * i + c)).toNatClampNeg = 72 * t + 6 * i + c := nI_clamp (by omega)
        have nj : m_in (nI (72 * t + 6 * j + c)) 288 := m_inN (cell_in (by omega) (by omega) (by omega)) (by decide)
        have dj : (nI (72 * t + 6 * j + c)).toNatClampNeg = 72 * t + 6 * j + c := nI_clamp (by omega)
        rw [q2, q3, if_neg n1, nI_cell, if_pos ni, nI_cell, if_pos nj, di, dj, dr i c hi hc, dr j c (by omega) hc]
        by_cases z : mkv p t i c = mkv p t j c
        · have e4 : mvT (some (mkv p t j c)) (mkv p t i c) = true := decide_eq_true z
          rw [if_pos z, e4, cond_true]
          exact ih (nI i) (some (mkv p t i c)) (by omega) (by omega) (Or.inr ⟨i, by omega, rfl, rfl⟩)
        · have e4 : mvT (some (mkv p t j c)) (mkv p t i c) = false := decide_eq_false z
          rw [if_neg z, e4, cond_false, if_neg (by decide)]
theorem s_sure (h : St p g b) (t r x c : Int32) : ∃ v g1 g2, f_X6_sure g b t r x c = some (v, g1) ∧ f_X7_sure g1 t r x c = some (v, g2) ∧ St p g2 b := by
  unfold f_X6_sure f_X7_sure
  rw [F_isRow h]
  cases er : rOf p t r with
  | none =>
    refine ⟨-1, g, g, rfl, ?_, h⟩
    rw [F7_isRow h, er]; rfl
  | some q =>
    cases ec : cOf p t c with
    | none =>
      refine ⟨-1, g, g, ?_, ?_, h⟩
      · rw [F_columnAt h, ec]; rfl
      · rw [F7_isRow h, er, F7_isColumn h, ec]; rfl
    | some w =>
      obtain ⟨h1, h4, h3, h6, rfl, rfl⟩ := rOf_some h er
      obtain ⟨y1, y2, y3, y4, y5, rfl⟩ := cOf_some h ec
      have hq : w.1 = q.1 := (nI_inj (by omega) (by omega) y5).symm
      rw [hq] at y3
      have hR := (h.R h1).2
      simp only [Option.isSome_some, Option.bind_some, cond_true]
      rcases F_known h h1 x with ⟨kn, k1, k2, rfl, k4, k5⟩ | ⟨k4, k5⟩
      · obtain ⟨g1, m1, m2, m3⟩ := F_draft h h1
        have h' := m2.st h
        obtain ⟨g2, w1, w2, w3⟩ := F_maskTable h' h1
        have h'' := w2.st h'
        refine ⟨(if al (fun m => bif cbB p kn q.1 q.2 m then decide (mkv p q.1 m w.2 = mkv p q.1 q.2 w.2) else true) 0 (nR p q.1) = true then 1 else 0), g1, g2, ?_, ?_, h''⟩
        · rw [F_columnAt h, ec]
          simp only [Option.map_some, Option.bind_some, m_oc]
          rw [k4, Option.bind_some, cond_true, m1, Option.bind_some, F_couldSet h' h1 h3 (by omega) m3.drf, Option.bind_some, if_pos (s0_pD b), F_read (cp_D b) h4 h6 y4, Option.bind_some, m3.drf q.2 w.2 h3 y3, show (0 : Int32) = nI 0 from rfl]
          exact F_sure63 (r := 0) (kn := 0) h' h1 y3 m3.drf _ _ _ _
        · rw [F7_isRow h', er, F7_isColumn h', ec, Option.isSome_some, Option.isSome_some, Option.bind_some, Option.bind_some, cond_true, cond_true, k5 g1 h'.sm, Option.bind_some, cond_true, w1, Option.bind_some]
          have key := F_sure44 h''.sm h1 h3 (show kn < 2 ^ 31 by omega) y3 w3.drf (nR p q.1) 0 2000 (-1) none (by omega) (by omega) (Or.inl ⟨rfl, rfl⟩)
          rw [mvB_own (cbB p kn q.1 q.2) (fun m => mkv p q.1 m w.2) (cbB_self h h1 h3) (nR p q.1) 0 (by omega) (by omega)] at key
          rw [show (0 : Int32) = nI 0 from rfl] at key ⊢
          exact key
      · refine ⟨-2, g, g, ?_, ?_, h⟩
        · rw [F_columnAt h, ec]
          simp only [Option.map_some, Option.bind_some, m_oc]
          rw [k4]; rfl
        · rw [F7_isRow h, er, F7_isColumn h, ec, Option.isSome_some, Option.isSome_some, Option.bind_some, Option.bind_some, cond_true, cond_true, k5 g h.sm]; rfl
end CQ
