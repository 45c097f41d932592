/-! ===== which masked rows could be a row ===== -/
def mvT (o : Option Int32) (x : Int32) : Bool := match o with
  | none => true
  | some d => decide (x = d)
def mvB (ok ac : Nat → Bool) (sh : Nat → Int32) : Nat → Nat → Option Int32 → Bool
  | _, 0, _ => true
  | i, k + 1, o => bif ok i then (bif ac i then (bif mvT o (sh i) then mvB ok ac sh (i + 1) k (some (sh i)) else false) else mvB ok ac sh (i + 1) k o) else false
theorem mvB_s (ok ac : Nat → Bool) (sh : Nat → Int32) (i k : Nat) (o : Option Int32) : mvB ok ac sh i (k + 1) o = bif ok i then (bif ac i then (bif mvT o (sh i) then mvB ok ac sh (i + 1) k (some (sh i)) else false) else mvB ok ac sh (i + 1) k o) else false := rfl
theorem al_s (f : Nat → Bool) (i k : Nat) : al f i (k + 1) = bif f i then al f (i + 1) k else false := by
  cases e : f i with
  | true =>
    rw [cond_true]
    cases e2 : al f (i + 1) k with
    | true =>
      exact al_i _ _ (fun j h1 h2 => by
        by_cases z : j = i
        · rw [z]; exact e
        · exact al_t _ _ e2 j (by omega) (by omega))
    | false =>
      cases e3 : al f i (k + 1) with
      | false => rfl
      | true =>
        have : al f (i + 1) k = true := al_i _ _ (fun j h1 h2 => al_t _ _ e3 j (by omega) (by omega))
        rw [e2] at this; cases this
  | false =>
    rw [cond_false]
    cases e3 : al f i (k + 1) with
    | false => rfl
    | true =>
      have := al_t _ _ e3 i (by omega) (by omega)
      rw [e] at this; cases this
section CO
variable {p g : mI} {b : Bool}
/-- a column whose mask shows what it makes -/
def plB (p : mI) (t c : Nat) : Bool := if p 68 (6 * t + c) = 1 then (if p 70 (6 * t + c) = 0 then (if p 70 (6 * cl (p 69 (6 * t + c))) = 1 then false else true) else false) else (if p 70 (6 * t + c) = 0 then true else if p 70 (6 * t + c) = 3 then true else false)
def lkB (p : mI) (kn t r x c : Nat) : Bool := bif kn.testBit c then (bif plB p t c then decide (mkv p t x c = mkv p t r c) else true) else true
def okB (p : mI) (kn t r x c : Nat) : Bool := bif kn.testBit c then (if p 70 (6 * t + c) = 2 then (if p 76 (72 * t + 6 * r + c) = (-2147483648) then decide (mkv p t x c = (-2147483648)) else !decide (mkv p t x c = (-2147483648))) else true) else true
def acB (p : mI) (kn t r x c : Nat) : Bool := bif kn.testBit c then (if p 70 (6 * t + c) = 2 then (if p 76 (72 * t + 6 * r + c) = (-2147483648) then false else !decide (mkv p t x c = (-2147483648))) else false) else false
def shB (p : mI) (t r x c : Nat) : Int32 := mkv p t x c - p 76 (72 * t + 6 * r + c)
def cbB (p : mI) (kn t r x : Nat) : Bool := al (lkB p kn t r x) 0 (nC p t) && mvB (okB p kn t r x) (acB p kn t r x) (shB p t r x) 0 (nC p t) none
/-- a table's masked rows stand at A -/
def drf (p s : mI) (A t : Nat) : Prop := ∀ r c, r < nR p t → c < nC p t → s A (72 * t + 6 * r + c) = mkv p t r c
theorem plB_no2 {t c : Nat} (h : plB p t c = true) : ¬ p 70 (6 * t + c) = 2 := by
  intro z
  unfold plB at h
  rw [z] at h
  by_cases k1 : p 68 (6 * t + c) = 1
  · rw [if_pos k1, if_neg (by decide)] at h; cases h
  · rw [if_neg k1, if_neg (by decide), if_neg (by decide)] at h; cases h
theorem colsN_nI (h : St p g b) {t : Nat} (ht : t < nT p) : colsN p (nI t) = nI (nC p t) := by
  unfold colsN
  rw [tOf_nI h ht]; exact (h.C ht).1
theorem F_plainC (h : St p g b) {t c : Nat} (ht : t < nT p) (hc : c < nC p t) : f_X6_isPlain g b (nI t) (nI c) = some (plB p t c) := by
  have hT := h.T.2
  have hC := h.C6 t ht
  have c0 : g (20 + 10 * t + c) 0 = p 68 (6 * t + c) := h.col ht hc (j := 0) (by decide)
  have c1 : g (20 + 10 * t + c) 1 = p 69 (6 * t + c) := h.col ht hc (j := 1) (by decide)
  have c2 : g (20 + 10 * t + c) 2 = p 70 (6 * t + c) := h.col ht hc (j := 2) (by decide)
  unfold f_X6_isPlain plB
  rw [F_columnAt h, cOf_nI h ht hc]
  simp only [Option.map_some, Option.bind_some, m_oc, if_pos (s0_col t (show t < 4 by omega) c (show c < 6 by omega)), c0, c1, c2]
  by_cases k1 : p 68 (6 * t + c) = 1
  · rw [if_pos k1, if_pos k1]
    obtain ⟨u, hu, eu⟩ := (h.k2 ht hc).2.2.1 k1
    rw [eu, F_tableAt h, tOf_nI h hu, cl_nI (by omega)]
    simp only [Option.map_some, Option.bind_some, if_pos (s0_tab u (show u < 4 by omega)), F_turnsKeys h hu]
    by_cases z : p 70 (6 * t + c) = 0
    · rw [if_pos z, if_pos z]
      by_cases z1 : p 70 (6 * u) = 1
      · rw [if_pos z1, decide_eq_true z1]; rfl
      · rw [if_neg z1, decide_eq_false z1]; rfl
    · rw [if_neg z, if_neg z]
  · rw [if_neg k1, if_neg k1]
    by_cases z : p 70 (6 * t + c) = 0
    · rw [if_pos z, if_pos z]
    · rw [if_neg z, if_neg z]
      by_cases z3 : p 70 (6 * t + c) = 3
      · rw [if_pos z3, if_pos z3]
      · rw [if_neg z3, if_neg z3]
theorem F_plainM (h : Sm p g) {t c : Nat} (ht : t < nT p) (hc : c < nC p t) : f_X7_isPlain g (nI t) (nI c) = some (plB p t c) := by
  have hT := h.T.2
  have hC := h.C6 t ht
  have n4 : m_in (nI (6 * t + c)) 24 := m_inN (by omega) (by decide)
  have d4 : (nI (6 * t + c)).toNatClampNeg = 6 * t + c := nI_clamp (by omega)
  unfold f_X7_isPlain plB
  rw [nI_6tc, if_pos n4, d4, h.m 68 _ (mp_i _ (by decide)), h.m 69 _ (mp_i _ (by decide)), h.m 70 _ (mp_i _ (by decide))]
  by_cases k1 : p 68 (6 * t + c) = 1
  · rw [if_pos k1, if_pos k1]
    obtain ⟨u, hu, eu⟩ := (h.k2 ht hc).2.2.1 k1
    have n6 : m_in (nI (6 * u)) 24 := m_inN (by omega) (by decide)
    have d6 : (nI (6 * u)).toNatClampNeg = 6 * u := nI_clamp (by omega)
    rw [eu, show (6 : Int32) = nI 6 from rfl, pk_mul, if_pos n6, d6, h.m 70 _ (mp_i _ (by decide)), cl_nI (by omega)]
    by_cases z : p 70 (6 * t + c) = 0
    · rw [if_pos z, if_pos z]
      by_cases z1 : p 70 (6 * u) = 1
      · rw [if_pos z1, if_pos z1]
      · rw [if_neg z1, if_neg z1]
    · rw [if_neg z, if_neg z, if_neg z]
      have z3 : ¬ p 70 (6 * t + c) = 3 := fun y => by
        have q := (h.k2 ht hc).2.2.2
        rw [y, k1] at q
        exact absurd (fits3 q).2.2 (by decide)
      rw [if_neg z3]
  · rw [if_neg k1, if_neg k1]
    by_cases z : p 70 (6 * t + c) = 0
    · rw [if_pos z, if_pos z]
    · rw [if_neg z, if_neg z]
      by_cases z3 : p 70 (6 * t + c) = 3
      · rw [if_pos z3, if_pos z3]
      · rw [if_neg z3, if_neg z3]
theorem F_looksC (h : St p g b) {t r x kn : Nat} (ht : t < nT p) (hr : r < nR p t) (hx : x < nR p t) (hk : kn < 2 ^ 31) (dr : drf p g (m_pD b + 1) t) : f_X6_looksSame g b (nI t) (nI r) (nI x) (nI kn) = some (al (lkB p kn t r x) 0 (nC p t)) := by
  have hT := h.T.2
  have hC := h.C6 t ht
  have hR := (h.R ht).2
  unfold f_X6_looksSame
  have key := loop_all (lp := lp_X6_looksSame_3 g b (nI t) (nI r) (nI x) (nI kn)) (N := nC p t) (f := lkB p kn t r x) (fin := some true) (bad := some false) ?_ ?_ (nC p t) 0 2000 (by omega) (by omega)
  · rw [show (0 : Int32) = nI 0 from rfl, key]
    cases al (lkB p kn t r x) 0 (nC p t) <;> rfl
  · intro n
    rw [lp_X6_looksSame_3, F_columnsOf h, colsN_nI h ht, Option.bind_some, if_pos (Int32.le_refl _)]
  · intro n c hc
    rw [lp_X6_looksSame_3, F_columnsOf h, colsN_nI h ht, Option.bind_some, if_neg (nI_ge hc (by omega)), hasBitN hk (by omega), F_plainC h ht hc, Option.bind_some, if_pos (s0_pD b), F_read (cp_D b) (by omega) (by omega) (by omega), F_read (cp_D b) (by omega) (by omega) (by omega), Option.bind_some, Option.bind_some, dr x c hx hc, dr r c hr hc, nI_1]
    unfold lkB
    cases kn.testBit c with
    | false => rfl
    | true =>
      rw [cond_true, cond_true]
      cases plB p t c with
      | false => rfl
      | true =>
        rw [cond_true, cond_true]
        by_cases z : mkv p t x c = mkv p t r c
        · rw [if_pos z, decide_eq_true z]; rfl
        · rw [if_neg z, decide_eq_false z]; rfl
theorem F_moves1 (h : St p g b) {t r x kn : Nat} (ht : t < nT p) (hr : r < nR p t) (hx : x < nR p t) (hk : kn < 2 ^ 31) (dr : drf p g (m_pD b + 1) t) : ∀ (k i n : Nat) (y6 y7 : Int32) (o : Option Int32), i + k = nC p t → k < n → ((o = none ∧ y6 = 0) ∨ (o = some y7 ∧ y6 = 1)) → lp_X6_movesSame_16 g b (nI t) (nI r) (nI x) (nI kn) (some (16 + 10 * t)) n y6 y7 (nI i) = some (mvB (okB p kn t r x) (acB p kn t r x) (shB p t r x) i k o)
  | 0, i, n, y6, y7, o, h1, h2, h3 => by
    obtain ⟨m, rfl⟩ : ∃ m, n = m + 1 := ⟨n - 1, by omega⟩
    rw [lp_X6_movesSame_16, F_columnsOf h, colsN_nI h ht, Option.bind_some, show i = nC p t by omega, if_pos (Int32.le_refl _)]
    rfl
  | k + 1, i, n, y6, y7, o, h1, h2, h3 => by
    obtain ⟨m, rfl⟩ : ∃ m, n = m + 1 := ⟨n - 1, by omega⟩
    have hT := h.T.2
    have hC := h.C6 t ht
    have hR := (h.R ht).2
    have hc : i < nC p t := by omega
    have ih := F_moves1 h ht hr hx hk dr k (i + 1) m
    rw [lp_X6_movesSame_16, F_columnsOf h, colsN_nI h ht, Option.bind_some, if_neg (nI_ge hc (by omega)), hasBitN hk (by omega), mvB_s, nI_1]
    simp only [m_oc]
    cases hb : kn.testBit i with
    | false =>
      have e1 : okB p kn t r x i = true := by unfold okB; rw [hb]; rfl
      have e2 : acB p kn t r x i = false := by unfold acB; rw [hb]; rfl
      rw [e1, e2, cond_false, cond_true, cond_false]
      exact ih _ _ _ (by omega) (by omega) h3
    | true =>
      rw [cond_true, if_pos (s0_tab t (by omega)), F_isShifted h ht hc, Option.bind_some]
      by_cases z2 : p 70 (6 * t + i) = 2
      · rw [decide_eq_true z2, cond_true, F_read (cp_t b) (by omega) (by omega) (by omega), Option.bind_some, if_pos (s0_pD b), F_read (cp_D b) (by omega) (by omega) (by omega), Option.bind_some, show g (4 + 1) (72 * t + 6 * r + i) = p 76 (72 * t + 6 * r + i) from h.e6 t ht r hr i hc, dr x i hx hc]
        by_cases a1 : p 76 (72 * t + 6 * r + i) = (-2147483648)
        · by_cases a2 : mkv p t x i = (-2147483648)
          · have e1 : okB p kn t r x i = true := by unfold okB; rw [hb, cond_true, if_pos z2, if_pos a1, decide_eq_true a2]
            have e2 : acB p kn t r x i = false := by unfold acB; rw [hb, cond_true, if_pos z2, if_pos a1]
            rw [e1, e2, cond_true, cond_false, if_pos a1, if_pos a2]
            exact ih _ _ _ (by omega) (by omega) h3
          · have e1 : okB p kn t r x i = false := by unfold okB; rw [hb, cond_true, if_pos z2, if_pos a1, decide_eq_false a2]
            rw [e1, cond_false, if_pos a1, if_neg a2, if_pos a1]
        · by_cases a2 : mkv p t x i = (-2147483648)
          · have e1 : okB p kn t r x i = false := by unfold okB; rw [hb, cond_true, if_pos z2, if_neg a1, decide_eq_true a2]; rfl
            rw [e1, cond_false, if_neg a1, if_neg a1, if_pos a2]
          · have e1 : okB p kn t r x i = true := by unfold okB; rw [hb, cond_true, if_pos z2, if_neg a1, decide_eq_false a2]; rfl
            have e2 : acB p kn t r x i = true := by unfold acB; rw [hb, cond_true, if_pos z2, if_neg a1, decide_eq_false a2]; rfl
            rw [e1, e2, cond_true, cond_true, if_neg a1, if_neg a1, if_neg a2]
            rcases h3 with ⟨q1, q2⟩ | ⟨q1, q2⟩
            · rw [q1, q2, if_pos rfl]
              exact ih 1 (mkv p t x i - p 76 (72 * t + 6 * r + i)) (some (shB p t r x i)) (by omega) (by omega) (Or.inr ⟨rfl, rfl⟩)
            · rw [q1, q2, if_neg (by decide)]
              by_cases a3 : mkv p t x i - p 76 (72 * t + 6 * r + i) = y7
              · rw [if_pos a3]
                have e3 : mvT (some y7) (shB p t r x i) = true := decide_eq_true a3
                rw [e3, cond_true]
                exact ih 1 (mkv p t x i - p 76 (72 * t + 6 * r + i)) (some (shB p t r x i)) (by omega) (by omega) (Or.inr ⟨rfl, rfl⟩)
              · rw [if_neg a3]
                have e3 : mvT (some y7) (shB p t r x i) = false := decide_eq_false a3
                rw [e3, cond_false]
      · have e1 : okB p kn t r x i = true := by unfold okB; rw [hb, cond_true, if_neg z2]
        have e2 : acB p kn t r x i = false := by unfold acB; rw [hb, cond_true, if_neg z2]
        rw [decide_eq_false z2, e1, e2, cond_false, cond_true, cond_false]
        exact ih _ _ _ (by omega) (by omega) h3
theorem F_movesC (h : St p g b) {t r x kn : Nat} (ht : t < nT p) (hr : r < nR p t) (hx : x < nR p t) (hk : kn < 2 ^ 31) (dr : drf p g (m_pD b + 1) t) : f_X6_movesSame g b (nI t) (nI r) (nI x) (nI kn) = some (mvB (okB p kn t r x) (acB p kn t r x) (shB p t r x) 0 (nC p t) none) := by
  have hC := h.C6 t ht
  unfold f_X6_movesSame
  rw [F_tableAt h, tOf_nI h ht, Option.bind_some, Option.map_some, show (0 : Int32) = nI 0 from rfl]
  exact F_moves1 h ht hr hx hk dr (nC p t) 0 2000 (nI 0) (nI 0) none (by omega) (by omega) (Or.inl ⟨rfl, nI_0⟩)
theorem F_couldSet (h : St p g b) {t r kn : Nat} (ht : t < nT p) (hr : r < nR p t) (hk : kn < 2 ^ 31) (dr : drf p g (m_pD b + 1) t) : f_X6_couldSet g b (nI t) (nI r) (nI kn) = some (nI (bsN (cbB p kn t r) (nR p t))) := by
  have hT := h.T.2
  have hR := (h.R ht).2
  unfold f_X6_couldSet
  have key := loop_st (lp := fun n y s => lp_X6_couldSet_6 g b (nI t) (nI r) (nI kn) n s y) (N := nR p t) (st := fun i => nI (bsN (cbB p kn t r) i)) (fin := some (nI (bsN (cbB p kn t r) (nR p t)))) ?_ ?_ (nR p t) 0 2000 (by omega) (by omega)
  · exact key
  · intro n
    show lp_X6_couldSet_6 g b (nI t) (nI r) (nI kn) (n + 1) (nI (bsN (cbB p kn t r) (nR p t))) (nI (nR p t)) = _
    rw [lp_X6_couldSet_6, F_rowsOf h, rowsN_nI h ht, Option.bind_some, if_pos (Int32.le_refl _)]
  · intro n x hx
    show lp_X6_couldSet_6 g b (nI t) (nI r) (nI kn) (n + 1) (nI (bsN (cbB p kn t r) x)) (nI x) = lp_X6_couldSet_6 g b (nI t) (nI r) (nI kn) n (nI (bsN (cbB p kn t r) (x + 1))) (nI (x + 1))
    rw [lp_X6_couldSet_6, F_rowsOf h, rowsN_nI h ht, Option.bind_some, if_neg (nI_ge hx (by omega)), F_looksC h ht hr hx hk dr, Option.bind_some, F_movesC h ht hr hx hk dr, Option.bind_some, nI_1]
    cases e : cbB p kn t r x with
    | true =>
      have e' := e
      unfold cbB at e'
      rw [Bool.and_eq_true] at e'
      rw [e'.1, e'.2, cond_true, cond_true, bsN_or _ x (by omega) e]
    | false =>
      rw [bsN_skip _ x e]
      unfold cbB at e
      cases a1 : al (lkB p kn t r x) 0 (nC p t) with
      | false => rfl
      | true =>
        cases a2 : mvB (okB p kn t r x) (acB p kn t r x) (shB p t r x) 0 (nC p t) none with
        | false => rfl
        | true => rw [a1, a2] at e; cases e
end CO
