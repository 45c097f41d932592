/-! ===== best: the class's search ===== -/
def cjF (f : Nat → Bool) : Nat → Nat → Nat
  | 0, _ => 0
  | n + 1, j => bif (f n && decide (cnN f n = j)) then n else cjF f n j
theorem cjF_ok {f : Nat → Bool} : ∀ n j, j < cnN f n → cjF f n j < n ∧ f (cjF f n j) = true ∧ cnN f (cjF f n j) = j
  | 0, j, h => absurd h (Nat.not_lt_zero _)
  | n + 1, j, h => by
    have h' : j < cnN f n + (bif f n then 1 else 0) := h
    have e0 : cjF f (n + 1) j = bif (f n && decide (cnN f n = j)) then n else cjF f n j := rfl
    cases e : f n with
    | false =>
      rw [e] at h' e0
      have ih := cjF_ok (f := f) n j h'
      have e1 : cjF f (n + 1) j = cjF f n j := e0
      rw [e1]
      exact ⟨by omega, ih.2⟩
    | true =>
      rw [e] at h' e0
      by_cases z : cnN f n = j
      · rw [decide_eq_true z] at e0
        have e1 : cjF f (n + 1) j = n := e0
        rw [e1]
        exact ⟨by omega, e, z⟩
      · rw [decide_eq_false z] at e0
        have e1 : cjF f (n + 1) j = cjF f n j := e0
        have h2 : j < cnN f n + 1 := h'
        have ih := cjF_ok (f := f) n j (by omega)
        rw [e1]
        exact ⟨by omega, ih.2⟩
theorem cjF_rk {f : Nat → Bool} {n c : Nat} (hc : c < n) (hf : f c = true) : cjF f n (cnN f c) = c := by
  obtain ⟨q1, q2, q3⟩ := cjF_ok (f := f) n (cnN f c) (cnN_lt hf hc)
  rcases Nat.lt_trichotomy (cjF f n (cnN f c)) c with z | z | z
  · have := cnN_lt q2 z; omega
  · exact z
  · have := cnN_lt hf z; omega
theorem al_snocE (f : Nat → Bool) (k : Nat) : al f 0 (k + 1) = (al f 0 k && f k) := by
  have := al_snoc (f := f) k
  cases h1 : al f 0 (k + 1) <;> cases h2 : al f 0 k <;> cases h3 : f k <;> simp_all
/-- the best way so far -/
def bwy (LS : Nat → Int32) (SF : Nat → Bool) : Nat → Option Nat
  | 0 => none
  | w + 1 => match bwy LS SF w with
    | none => bif SF w then some w else none
    | some v => if LS v ≤ LS w then some v else bif SF w then some w else some v
theorem bwy_s (LS : Nat → Int32) (SF : Nat → Bool) (w : Nat) : bwy LS SF (w + 1) = (match bwy LS SF w with
    | none => bif SF w then some w else none
    | some v => if LS v ≤ LS w then some v else bif SF w then some w else some v) := rfl
theorem bwy_lt (LS : Nat → Int32) (SF : Nat → Bool) : ∀ w v, bwy LS SF w = some v → v < w
  | 0, v, h => by cases h
  | w + 1, v, h => by
    rw [bwy_s] at h
    cases e : bwy LS SF w with
    | none =>
      rw [e] at h
      cases e2 : SF w with
      | true => rw [e2] at h; cases h; omega
      | false => rw [e2] at h; cases h
    | some v' =>
      have := bwy_lt LS SF w v' e
      rw [e] at h
      simp only at h
      by_cases z : LS v' ≤ LS w
      · rw [if_pos z] at h; cases h; omega
      · rw [if_neg z] at h
        cases e2 : SF w with
        | true => rw [e2] at h; cases h; omega
        | false => rw [e2] at h; cases h; omega
def encW (o : Option Nat) : Int32 := match o with
  | none => -1
  | some v => nI v
section BC
variable {p g s : mI} {b : Bool}
def kK (p : mI) (t : Nat) : Nat := rk p t (nC p t)
def cj (p : mI) (t j : Nat) : Nat := cjF (co p t) (nC p t) j
def dj (p : mI) (t way j : Nat) : Nat := way / 4 ^ (kK p t - 1 - j) % 4
def fL (p : mI) (t way j : Nat) : Int32 := Lw p t (cj p t j) (dj p t way j)
def LSW (p : mI) (t way : Nat) : Int32 := sm (fL p t way) 0 (kK p t)
def frB (p : mI) (kn t way r n x : Nat) : Bool := cbB p (knq p t kn) t r x && al (fun i => sB p kn t r x (cj p t i) (dj p t way i)) 0 n
def sfB (p : mI) (kn t : Nat) (q : Int32) (way r : Nat) : Bool := decide (q ≤ nI (cnN (frB p kn t way r (kK p t)) (nR p t)))
def SFW (p : mI) (kn t : Nat) (q : Int32) (way : Nat) : Bool := al (sfB p kn t q way) 0 (nR p t)
theorem dj_lt (p : mI) (t way j : Nat) : dj p t way j < 4 := Nat.mod_lt _ (by decide)
theorem cj_ok {t j : Nat} (hj : j < kK p t) : cj p t j < nC p t ∧ co p t (cj p t j) = true ∧ rk p t (cj p t j) = j := cjF_ok _ j hj
theorem Sr.j {kn t j : Nat} (hs : Sr p s b kn t) (hj : j < kK p t) : Sj p s kn t (cj p t j) j := by
  obtain ⟨q1, q2, q3⟩ := cj_ok hj
  have := hs.2.2.1 _ q1 q2
  rw [q3] at this
  exact this
theorem F_choice {t way j : Nat} (e4 : s 7 4 = nI (kK p t)) (hK : kK p t ≤ 5) (hw : way < 2 ^ 31) (hj : j < kK p t) : f_X5_choiceOf s (nI way) (nI j) = nI (dj p t way j) := by
  unfold f_X5_choiceOf dj
  have e : 2 ^ (2 * (kK p t - 1 - j)) = 4 ^ (kK p t - 1 - j) := by rw [Nat.pow_mul]
  have hd := Nat.div_le_self way (4 ^ (kK p t - 1 - j))
  rw [e4, nI_m1 (by omega), pk_sub (by omega), show (2 : Int32) = nI 2 from rfl, pk_mul, m_shrN hw (by omega), e]
  exact pk_andN (by omega) (m := 3) 2 (by decide)
theorem F_lossC {kn t way : Nat} (hs : Sr p s b kn t) (hK : kK p t ≤ 5) (hw : way < 2 ^ 31) : f_X5_lossOf s (nI way) = some (LSW p t way) := by
  have e4 : s 7 4 = nI (kK p t) := hs.1
  unfold f_X5_lossOf LSW
  have key := loop_sum (lp := lp_X5_lossOf_4 s (nI way)) (N := kK p t) (f := fL p t way) (fin := fun a => some a) ?_ ?_ (kK p t) 0 0 2000 (by omega) (by omega)
  · rw [show (0 : Int32) = nI 0 from rfl] at key ⊢
    rw [key]
    show some (0 + _) = _
    rw [Int32.zero_add]
  · intro n acc
    rw [lp_X5_lossOf_4, e4, if_pos (Int32.le_refl _)]
  · intro n acc j hj
    have hd := dj_lt p t way j
    rw [lp_X5_lossOf_4, e4, if_neg (nI_ge hj (by omega)), F_choice e4 hK hw hj, show (4 : Int32) = nI 4 from rfl, pk_mul, nI_add, if_pos (m_inN (by omega) (by decide)), nI_clamp (by omega), nI_1, (((hs.j hj).2 _ hd).1)]
    rfl
theorem bs_and {f : Nat → Bool} {R m : Nat} (hR : R ≤ 12) (hm : m < 4096) {h : Nat → Bool} (e : ∀ x, x < R → m.testBit x = h x) : nI (bsN f R) &&& nI m = nI (bsN (fun x => f x && h x) R) := by
  have := bsN_4096 f hR
  rw [nb_and (by omega) (by omega)]
  congr 1
  apply Nat.eq_of_testBit_eq
  intro x
  rw [Nat.testBit_and, bsN_bit, bsN_bit]
  by_cases z : x < R
  · rw [decide_eq_true z, e x z, Bool.true_and, Bool.true_and]
  · rw [decide_eq_false z]; rfl
theorem F_safeC (h : St p s b) {kn t way : Nat} (ht : t < nT p) (hs : Sr p s b kn t) (hK : kK p t ≤ 5) (hw : way < 2 ^ 31) (q : Int32) : f_X5_isSafe s (nI way) q = some (SFW p kn t q way) := by
  have hR := (h.R ht).2
  have e4 : s 7 4 = nI (kK p t) := hs.1
  have e5 := hs.2.1
  unfold f_X5_isSafe SFW
  have key := loop_all (lp := lp_X5_isSafe_2 s (nI way) q) (N := nR p t) (f := sfB p kn t q way) (fin := some true) (bad := some false) ?_ ?_ (nR p t) 0 2000 (by omega) (by omega)
  · rw [show (0 : Int32) = nI 0 from rfl, key]
    cases al (sfB p kn t q way) 0 (nR p t) <;> rfl
  · intro n
    rw [lp_X5_isSafe_2, e5, if_pos (Int32.le_refl _)]
  · intro n r hr
    rw [lp_X5_isSafe_2, e5, if_neg (nI_ge hr (by omega)), if_pos (m_inN (by omega) (by decide)), nI_clamp (by omega)]
    have key2 := loop_st (lp := fun n' y z => lp_X5_isSafe_21 s (nI way) q (nI r) (fun y2_3 => lp_X5_isSafe_2 s (nI way) q n y2_3) n' z y) (N := kK p t) (st := fun i => nI (bsN (frB p kn t way r i) (nR p t))) (fin := bif sfB p kn t q way r then lp_X5_isSafe_2 s (nI way) q n (nI (r + 1)) else some false) ?_ ?_ (kK p t) 0 2000 (by omega) (by omega)
    · have e0 : s 11 r = nI (bsN (frB p kn t way r 0) (nR p t)) := by
        rw [hs.2.2.2 r hr]
        congr 1
        apply bsN_congr
        intro x _
        show cbB p (knq p t kn) t r x = (cbB p (knq p t kn) t r x && true)
        rw [Bool.and_true]
      rw [e0, show (0 : Int32) = nI 0 from rfl]
      exact key2
    · intro n'
      show lp_X5_isSafe_21 s (nI way) q (nI r) _ (n' + 1) (nI (bsN (frB p kn t way r (kK p t)) (nR p t))) (nI (kK p t)) = _
      rw [lp_X5_isSafe_21, e4, if_pos (Int32.le_refl _), bcS _ hR, nI_1]
      unfold sfB
      by_cases z : q ≤ nI (cnN (frB p kn t way r (kK p t)) (nR p t))
      · rw [if_pos z, decide_eq_true z]; rfl
      · rw [if_neg z, decide_eq_false z]; rfl
    · intro n' j hj
      show lp_X5_isSafe_21 s (nI way) q (nI r) _ (n' + 1) (nI (bsN (frB p kn t way r j) (nR p t))) (nI j) = lp_X5_isSafe_21 s (nI way) q (nI r) _ n' (nI (bsN (frB p kn t way r (j + 1)) (nR p t))) (nI (j + 1))
      have hd := dj_lt p t way j
      obtain ⟨m, m1, m2, m3⟩ := (((hs.j hj).2 _ hd).2 r hr)
      rw [lp_X5_isSafe_21, e4, if_neg (nI_ge hj (by omega)), F_choice e4 hK hw hj, show (4 : Int32) = nI 4 from rfl, show (12 : Int32) = nI 12 from rfl, pk_mul, nI_add, pk_mul, nI_add, if_pos (m_inN (by omega) (by decide)), nI_clamp (by omega), m2, bs_and hR m1 m3, nI_1]
      have e9 : bsN (fun x => frB p kn t way r j x && sB p kn t r x (cj p t j) (dj p t way j)) (nR p t) = bsN (frB p kn t way r (j + 1)) (nR p t) := by
        apply bsN_congr
        intro x _
        unfold frB
        rw [al_snocE, Bool.and_assoc]
      rw [e9]; rfl
theorem pw4 {n : Nat} (h : n ≤ 5) : 4 ^ n ≤ 1024 := Nat.pow_le_pow_right (n := 4) (by decide) h
theorem F_leastC (h : St p s b) {kn t : Nat} (ht : t < nT p) (hs : Sr p s b kn t) (hK : kK p t ≤ 5) (q : Int32) : f_X5_leastWay s q = some (encW (bwy (LSW p t) (SFW p kn t q) (4 ^ kK p t))) := by
  have e4 : s 7 4 = nI (kK p t) := hs.1
  have h4 := pw4 hK
  have e2 : m_shl 1 (2 * nI (kK p t)) = nI (4 ^ kK p t) := by
    rw [show (2 : Int32) = nI 2 from rfl, pk_mul, m_shlN (by omega), Nat.pow_mul]
  have main : ∀ (k w n : Nat) (y2 y3 : Int32), w + k = 4 ^ kK p t → k < n → ((bwy (LSW p t) (SFW p kn t q) w = none ∧ y2 = -1) ∨ (∃ v, bwy (LSW p t) (SFW p kn t q) w = some v ∧ y2 = nI v ∧ y3 = LSW p t v)) → lp_X5_leastWay_7 s q n y2 y3 (nI w) = some (encW (bwy (LSW p t) (SFW p kn t q) (4 ^ kK p t))) := by
    intro k
    induction k with
    | zero =>
      intro w n y2 y3 h1 h2 h3
      obtain ⟨m, rfl⟩ : ∃ m, n = m + 1 := ⟨n - 1, by omega⟩
      have ew : w = 4 ^ kK p t := by omega
      rw [lp_X5_leastWay_7, e4, e2, ew, if_pos (Int32.le_refl _)]
      rw [ew] at h3
      rcases h3 with ⟨q1, q2⟩ | ⟨v, q1, q2, q3⟩
      · rw [q1, q2]; rfl
      · rw [q1, q2]; rfl
    | succ k ih =>
      intro w n y2 y3 h1 h2 h3
      obtain ⟨m, rfl⟩ : ∃ m, n = m + 1 := ⟨n - 1, by omega⟩
      rw [lp_X5_leastWay_7, e4, e2, if_neg (nI_ge (by omega) (by omega)), F_lossC hs hK (by omega), Option.bind_some, F_safeC h ht hs hK (by omega), Option.bind_some, nI_1]
      rcases h3 with ⟨q1, q2⟩ | ⟨v, q1, q2, q3⟩
      · rw [q2, if_pos rfl]
        cases e : SFW p kn t q w with
        | true =>
          rw [cond_true]
          exact ih _ _ _ _ (by omega) (by omega) (Or.inr ⟨w, by rw [bwy_s, q1]; simp only [e, cond_true], rfl, rfl⟩)
        | false =>
          rw [cond_false]
          exact ih _ _ _ _ (by omega) (by omega) (Or.inl ⟨by rw [bwy_s, q1]; simp only [e, cond_false], rfl⟩)
      · have hv := bwy_lt _ _ _ _ q1
        have n1 : ¬ nI v = -1 := fun z => nI_pos (n := v) (by omega) (by rw [z]; decide)
        rw [q2, q3, if_neg n1]
        by_cases z : LSW p t v ≤ LSW p t w
        · rw [if_pos z]
          exact ih _ _ _ _ (by omega) (by omega) (Or.inr ⟨v, by rw [bwy_s, q1]; simp only [if_pos z], rfl, rfl⟩)
        · rw [if_neg z]
          cases e : SFW p kn t q w with
          | true =>
            rw [cond_true]
            exact ih _ _ _ _ (by omega) (by omega) (Or.inr ⟨w, by rw [bwy_s, q1]; simp only [if_neg z, e, cond_true], rfl, rfl⟩)
          | false =>
            rw [cond_false]
            exact ih _ _ _ _ (by omega) (by omega) (Or.inr ⟨v, by rw [bwy_s, q1]; simp only [if_neg z, e, cond_false], rfl, rfl⟩)
  unfold f_X5_leastWay
  rw [show (0 : Int32) = nI 0 from rfl]
  exact main (4 ^ kK p t) 0 2000 (-1) (nI 0) (by omega) (by omega) (Or.inl ⟨rfl, rfl⟩)
end BC
