/-! ===== keys, turning ===== -/
/-- the right last figure of four figures -/
def kd (d : Nat) : Nat := (d / 1000 % 10 + 2 * (d / 100 % 10) + 3 * (d / 10 % 10) + 4 * (d % 10)) % 10
theorem kd_lt (d : Nat) : kd d < 10 := Nat.mod_lt _ (by decide)
theorem F_rightFigure {d : Nat} (hd : d < 10000) : f_X6_rightFigure (nI d) = nI (kd d) := by
  unfold f_X6_rightFigure kd
  rw [show (1000 : Int32) = nI 1000 from rfl, show (100 : Int32) = nI 100 from rfl, show (10 : Int32) = nI 10 from rfl, show (2 : Int32) = nI 2 from rfl, show (3 : Int32) = nI 3 from rfl, show (4 : Int32) = nI 4 from rfl]
  rw [pk_div (by omega) (by decide) (by decide), pk_div (by omega) (by decide) (by decide), pk_div (by omega) (by decide) (by decide), m_remN (by omega) (by decide) (by decide), m_remN (by omega) (by decide) (by decide), m_remN (by omega) (by decide) (by decide), m_remN (by omega) (by decide) (by decide), pk_mul, pk_mul, pk_mul, nI_add, nI_add, nI_add, m_remN (by omega) (by decide) (by decide)]
theorem F_figure {n : Nat} (hn : n < 100000) : f_X7_figure (nI n) = nI (kd (n / 10)) := by
  unfold f_X7_figure kd
  rw [show (10000 : Int32) = nI 10000 from rfl, show (1000 : Int32) = nI 1000 from rfl, show (100 : Int32) = nI 100 from rfl, show (10 : Int32) = nI 10 from rfl, show (2 : Int32) = nI 2 from rfl, show (3 : Int32) = nI 3 from rfl, show (4 : Int32) = nI 4 from rfl]
  rw [pk_div (by omega) (by decide) (by decide), pk_div (by omega) (by decide) (by decide), pk_div (by omega) (by decide) (by decide), pk_div (by omega) (by decide) (by decide), m_remN (by omega) (by decide) (by decide), m_remN (by omega) (by decide) (by decide), m_remN (by omega) (by decide) (by decide), pk_mul, pk_mul, pk_mul, nI_add, nI_add, nI_add, m_remN (by omega) (by decide) (by decide)]
  rw [show n / 10 / 1000 % 10 = n / 10000 by omega, show n / 10 / 100 % 10 = n / 1000 % 10 by omega, show n / 10 / 10 % 10 = n / 100 % 10 by omega]
/-- a key, as a Nat -/
def keyN (n : Nat) : Prop := n < 100000 ∧ n % 10 = kd (n / 10)
theorem isKey_iff (v : Int32) : f_X7_isKey v = true ↔ ∃ n, keyN n ∧ v = nI n := by
  unfold f_X7_isKey
  cases e : f_X7_in v 0 99999 with
  | false =>
    constructor
    · intro q; cases q
    rintro ⟨n, q1, q2⟩
    exfalso
    apply in_no e
    subst q2
    have := q1.1
    exact ⟨nI_pos' (by omega), nI_le (b := 99999) (by omega) (by decide)⟩
  | true =>
    obtain ⟨a1, a2⟩ := (in_iff _ _ _).mp e
    obtain ⟨n, hn, rfl⟩ := nn_of3 (n := 99999) (by decide) a1 a2
    rw [cond_true, F_figure (by omega), show (10 : Int32) = nI 10 from rfl, m_remN (by omega) (by decide) (by decide)]
    have kl := kd_lt (n / 10)
    constructor
    · intro q
      by_cases z : nI (n % 10) = nI (kd (n / 10))
      · exact ⟨n, ⟨by omega, nI_inj (by omega) (by omega) z⟩, rfl⟩
      · rw [if_neg z] at q; cases q
    · rintro ⟨m, ⟨q1, q2⟩, q3⟩
      have : n = m := nI_inj (by omega) (by omega) q3
      subst this
      rw [if_pos (by rw [q2])]
theorem isKey_eq (v : Int32) : f_X6_isKeyNumber v = f_X7_isKey v := by
  unfold f_X6_isKeyNumber f_X7_isKey
  cases e : f_X7_in v 0 99999 with
  | false =>
    have := in_no e
    by_cases z : v < 0
    · rw [if_pos z]; rfl
    · by_cases z2 : 99999 < v
      · rw [if_neg z, if_pos z2]; rfl
      · exact absurd ⟨Int32.not_lt.mp z, Int32.not_lt.mp z2⟩ this
  | true =>
    obtain ⟨a1, a2⟩ := (in_iff _ _ _).mp e
    rw [if_neg (Int32.not_lt.mpr a1), if_neg (Int32.not_lt.mpr a2)]
    obtain ⟨n, hn, rfl⟩ := nn_of3 (n := 99999) (by decide) a1 a2
    rw [cond_true, F_figure (by omega), show (10 : Int32) = nI 10 from rfl, pk_div (by omega) (by decide) (by decide), F_rightFigure (by omega)]
theorem isKind_eq {k : Int32} (v : Int32) (hk : k = 0 ∨ k = 1 ∨ k = 2 ∨ k = 3 ∨ k = 4) (hv : ¬ v = (-2147483648)) : f_X6_isNumberOfKind k v = f_X7_isOf k v := by
  have hr : ∀ lo hi : Int32, (if v < lo then false else if hi < v then false else true) = f_X7_in v lo hi := fun lo hi => rfl
  unfold f_X6_isNumberOfKind f_X7_isOf
  rw [if_neg hv, isKey_eq]
  have n01 : ¬ (1 : Int32) = 0 := by decide
  have n02 : ¬ (2 : Int32) = 0 := by decide
  have n03 : ¬ (3 : Int32) = 0 := by decide
  have n04 : ¬ (4 : Int32) = 0 := by decide
  have n12 : ¬ (2 : Int32) = 1 := by decide
  have n13 : ¬ (3 : Int32) = 1 := by decide
  have n14 : ¬ (4 : Int32) = 1 := by decide
  have n23 : ¬ (3 : Int32) = 2 := by decide
  have n24 : ¬ (4 : Int32) = 2 := by decide
  have n34 : ¬ (4 : Int32) = 3 := by decide
  have n20 : ¬ (0 : Int32) = 2 := by decide
  have n30 : ¬ (0 : Int32) = 3 := by decide
  have n40 : ¬ (0 : Int32) = 4 := by decide
  have n21 : ¬ (1 : Int32) = 2 := by decide
  have n31 : ¬ (1 : Int32) = 3 := by decide
  have n41 : ¬ (1 : Int32) = 4 := by decide
  rcases hk with rfl | rfl | rfl | rfl | rfl
  · rw [if_pos rfl, if_neg n20, if_neg n30, if_neg n40]
  · rw [if_neg n01, if_pos rfl, if_neg n21, if_neg n31, if_neg n41]
  · rw [if_neg n02, if_neg n12, if_pos rfl, if_pos rfl]; exact hr _ _
  · rw [if_neg n03, if_neg n13, if_neg n23, if_pos rfl, if_neg n23, if_pos rfl]; exact hr _ _
  · rw [if_neg n04, if_neg n14, if_neg n24, if_neg n34, if_pos rfl, if_neg n24, if_neg n34, if_pos rfl]; exact hr _ _
section TU
variable {p g : mI} {b : Bool}
def dA (p : mI) (t i : Nat) : Nat := (p 74 (5 * t + i)).toNatClampNeg
def dB (p : mI) (t i : Nat) : Nat := (p 75 (5 * t + i)).toNatClampNeg
theorem St.dg (h : St p g b) {t i : Nat} (ht : t < nT p) (h1 : 1 ≤ i) (h4 : i ≤ 4) : (dA p t i = 1 ∨ dA p t i = 3 ∨ dA p t i = 7 ∨ dA p t i = 9) ∧ dB p t i ≤ 9 ∧ p 74 (5 * t + i) = nI (dA p t i) ∧ p 75 (5 * t + i) = nI (dB p t i) := by
  obtain ⟨a1, a2⟩ := h.2.1.2.2.1.1 t ht i h1 h4
  obtain ⟨y1, y2⟩ := (in_iff _ _ _).mp a2
  obtain ⟨n, hn, e⟩ := nn_of3 (n := 9) (by decide) y1 y2
  unfold dA dB
  refine ⟨?_, ?_, ?_, ?_⟩
  · rcases a1 with z | z | z | z <;> rw [z] <;> decide
  · rw [e, nI_clamp (by omega)]; exact hn
  · rcases a1 with z | z | z | z <;> rw [z] <;> decide
  · rw [e, nI_clamp (by omega)]
/-- one figure turned -/
def tg (p : mI) (t i x : Nat) : Nat := (dA p t i * x + dB p t i) % 10
theorem tg_lt (p : mI) (t i x : Nat) : tg p t i x < 10 := Nat.mod_lt _ (by decide)
/-- four figures turned -/
def tk (p : mI) (t d : Nat) : Nat := tg p t 1 (d % 10) + tg p t 2 (d / 10 % 10) * 10 + tg p t 3 (d / 10 / 10 % 10) * 100 + tg p t 4 (d / 10 / 10 / 10 % 10) * 1000
theorem tk_lt (p : mI) (t d : Nat) : tk p t d < 10000 := by
  unfold tk
  have := tg_lt p t 1 (d % 10)
  have := tg_lt p t 2 (d / 10 % 10)
  have := tg_lt p t 3 (d / 10 / 10 % 10)
  have := tg_lt p t 4 (d / 10 / 10 / 10 % 10)
  omega
def tkey (p : mI) (t n : Nat) : Nat := tk p t (n / 10) * 10 + kd (tk p t (n / 10))
theorem tkey_key (p : mI) (t n : Nat) : keyN (tkey p t n) := by
  unfold keyN tkey
  have := tk_lt p t (n / 10)
  have := kd_lt (tk p t (n / 10))
  refine ⟨by omega, ?_⟩
  rw [show (tk p t (n / 10) * 10 + kd (tk p t (n / 10))) / 10 = tk p t (n / 10) by omega]
  omega
theorem F_tg (h : St p g b) {t i : Nat} (ht : t < nT p) (h1 : 1 ≤ i) (h4 : i ≤ 4) {r : Nat} (hr : r < 2 ^ 31) : m_rem ((p 74 (5 * t + i)) * (m_rem (nI r) 10) + p 75 (5 * t + i)) 10 = nI (tg p t i (r % 10)) := by
  obtain ⟨a1, a2, a3, a4⟩ := h.dg ht h1 h4
  have hA : dA p t i ≤ 9 := by omega
  have hm : dA p t i * (r % 10) ≤ 9 * 9 := Nat.mul_le_mul hA (by omega)
  rw [a3, a4, show (10 : Int32) = nI 10 from rfl, m_remN hr (by decide) (by decide), pk_mul, nI_add, m_remN (by omega) (by decide) (by decide)]
  rfl
theorem turnC (h : St p g b) {t i : Nat} (ht : t < nT p) (h1 : 1 ≤ i) (h4 : i ≤ 4) (v : Int32) {r : Nat} (hr : r < 2 ^ 31) (a w n : Nat) : lp_X4_turnKey_13 g b (16 + 10 * t) v (n + 1) (nI r) (nI a) (nI w) (nI i) = lp_X4_turnKey_13 g b (16 + 10 * t) v n (nI (r / 10)) (nI (a + tg p t i (r % 10) * w)) (nI (w * 10)) (nI (i + 1)) := by
  have hT := h.T.2
  have h5 : m_in (nI i) 5 := m_inN (by omega) (by decide)
  rw [lp_X4_turnKey_13, if_neg (show ¬ (4 : Int32) < nI i from nI_nlt (a := 4) h4 (by decide)), if_pos (s0_tab t (by omega)), fr_t1 b t (by omega), fr_t2 b t (by omega)]
  simp only [Option.bind_some, ln_fac t (show t < 4 by omega), ln_add t (show t < 4 by omega), if_pos h5, nI_clamp (show i < 2 ^ 31 by omega), (h.e4 t ht i h1 h4).1, (h.e4 t ht i h1 h4).2, F_tg h ht h1 h4 hr, m_let, nI_1]
  rw [show (10 : Int32) = nI 10 from rfl, pk_div hr (by decide) (by decide), pk_mul, pk_mul, nI_add]
theorem F_turnKey (h : St p g b) {t : Nat} (ht : t < nT p) {n : Nat} (hn : n < 2 ^ 31) : f_X4_turnKey g b (16 + 10 * t) (nI n) = some (nI (tkey p t n)) := by
  unfold f_X4_turnKey
  rw [show (10 : Int32) = nI 10 from rfl, pk_div hn (by decide) (by decide)]
  show lp_X4_turnKey_13 g b (16 + 10 * t) (nI n) (1999 + 1) (nI (n / 10)) (nI 0) (nI 1) (nI 1) = _
  rw [turnC h ht (by decide) (by decide) _ (by omega), turnC h ht (by decide) (by decide) _ (by omega), turnC h ht (by decide) (by decide) _ (by omega), turnC h ht (by decide) (by decide) _ (by omega)]
  rw [lp_X4_turnKey_13, if_pos (show (4 : Int32) < nI (1 + 1 + 1 + 1 + 1) by decide)]
  have e : 0 + tg p t 1 (n / 10 % 10) * 1 + tg p t (1 + 1) (n / 10 / 10 % 10) * (1 * 10) + tg p t (1 + 1 + 1) (n / 10 / 10 / 10 % 10) * (1 * 10 * 10) + tg p t (1 + 1 + 1 + 1) (n / 10 / 10 / 10 / 10 % 10) * (1 * 10 * 10 * 10) = tk p t (n / 10) := by
    unfold tk
    simp only [show 1 + 1 = 2 from rfl, show 2 + 1 = 3 from rfl, show 3 + 1 = 4 from rfl]
    omega
  rw [e, F_rightFigure (tk_lt _ _ _), show (10 : Int32) = nI 10 from rfl, pk_mul, nI_add]
  rfl
theorem turnM (h : St p g b) {t i : Nat} (ht : t < nT p) (h1 : 1 ≤ i) (h4 : i ≤ 4) (v : Int32) {r : Nat} (hr : r < 2 ^ 31) (a w n : Nat) : lp_X7_turnedKey_15 g (nI t) v (n + 1) (nI a) (nI r) (nI w) (nI i) = lp_X7_turnedKey_15 g (nI t) v n (nI (a + w * tg p t i (r % 10))) (nI (r / 10)) (nI (w * 10)) (nI (i + 1)) := by
  have hT := h.T.2
  have h5 : m_in (nI (5 * t + i)) 20 := m_inN (by omega) (by decide)
  rw [lp_X7_turnedKey_15, if_neg (show ¬ (5 : Int32) ≤ nI i from nI_ge (b := 5) (by omega) (by decide)), nI_5ti, if_pos h5, nI_clamp (by omega), h.m 74 _ (mp_i _ (by decide)), h.m 75 _ (mp_i _ (by decide)), F_tg h ht h1 h4 hr]
  rw [show (10 : Int32) = nI 10 from rfl, pk_div hr (by decide) (by decide), pk_mul, pk_mul, nI_add, nI_1]
  rfl
theorem F_turnedKey (h : St p g b) {t : Nat} (ht : t < nT p) {n : Nat} (hn : n < 2 ^ 31) : f_X7_turnedKey g (nI t) (nI n) = some (nI (tkey p t n)) := by
  unfold f_X7_turnedKey
  rw [show (10 : Int32) = nI 10 from rfl, pk_div hn (by decide) (by decide)]
  show lp_X7_turnedKey_15 g (nI t) (nI n) (1999 + 1) (nI 0) (nI (n / 10)) (nI 10) (nI 1) = _
  rw [turnM h ht (by decide) (by decide) _ (by omega), turnM h ht (by decide) (by decide) _ (by omega), turnM h ht (by decide) (by decide) _ (by omega), turnM h ht (by decide) (by decide) _ (by omega)]
  rw [lp_X7_turnedKey_15, if_pos (show (5 : Int32) ≤ nI (1 + 1 + 1 + 1 + 1) by decide)]
  have e : 0 + 10 * tg p t 1 (n / 10 % 10) + 10 * 10 * tg p t (1 + 1) (n / 10 / 10 % 10) + 10 * 10 * 10 * tg p t (1 + 1 + 1) (n / 10 / 10 / 10 % 10) + 10 * 10 * 10 * 10 * tg p t (1 + 1 + 1 + 1) (n / 10 / 10 / 10 / 10 % 10) = tk p t (n / 10) * 10 := by
    unfold tk
    simp only [show 1 + 1 = 2 from rfl, show 2 + 1 = 3 from rfl, show 3 + 1 = 4 from rfl]
    omega
  have hl := tk_lt p t (n / 10)
  rw [e, F_figure (by omega), nI_add, show tk p t (n / 10) * 10 / 10 = tk p t (n / 10) by omega]
  rfl
theorem s_turned (h : St p g b) (t c x : Int32) : ∃ v, f_X6_turned g b t c x = some v ∧ f_X7_turned g t c x = some v := by
  unfold f_X6_turned f_X7_turned
  cases ec : cOf p t c with
  | none =>
    rw [F_tableAt h, (col_no h ec).1, (col_no h ec).2]
    refine ⟨-1, ?_, rfl⟩
    cases tOf p t <;> rfl
  | some w =>
    rw [(col_at h ec).1, (col_at h ec).2.1, (col_at h ec).2.2]
    obtain ⟨h1, h4, h3, h6, rfl, rfl⟩ := cOf_some h ec
    have n2 : m_in (nI (6 * w.1 + w.2)) 24 := m_inN (by omega) (by decide)
    have d2 : (nI (6 * w.1 + w.2)).toNatClampNeg = 6 * w.1 + w.2 := nI_clamp (by omega)
    simp only [Option.bind_some, cond_true, m_oc, if_pos (s0_col w.1 h4 w.2 h6), if_pos (s0_tab w.1 h4), nI_6tc, if_pos n2, d2, h.m 68 _ (mp_i _ (by decide)), h.col h1 h3 (j := 0) (by decide)]
    by_cases k0 : p 68 (6 * w.1 + w.2) = 0
    · simp only [if_pos k0, k0]
      by_cases z : x = (-2147483648)
      · rw [if_pos z, z]
        exact ⟨-2, rfl, by rw [show f_X7_isKey (-2147483648) = false by decide]; rfl⟩
      · rw [if_neg z, isKind_eq x (Or.inl rfl) z]
        have e : f_X7_isOf 0 x = f_X7_isKey x := by
          unfold f_X7_isOf; rw [if_neg z, if_neg (by decide), if_neg (by decide), if_neg (by decide)]
        rw [e]
        cases q : f_X7_isKey x with
        | false => exact ⟨-2, rfl, rfl⟩
        | true =>
          obtain ⟨n, hn, rfl⟩ := (isKey_iff x).mp q
          have := hn.1
          rw [F_turnKey h h1 (by omega), F_turnedKey h h1 (by omega)]
          exact ⟨_, rfl, rfl⟩
    · simp only [if_neg k0]
      by_cases k4 : p 68 (6 * w.1 + w.2) = 4
      · simp only [if_pos k4, k4]
        by_cases z : x = (-2147483648)
        · rw [if_pos z, z]
          exact ⟨-2, rfl, by rw [show f_X7_in (-2147483648) 0 99 = false by decide]; rfl⟩
        · rw [if_neg z, isKind_eq x (Or.inr (Or.inr (Or.inr (Or.inr rfl)))) z]
          have e : f_X7_isOf 4 x = f_X7_in x 0 99 := by
            unfold f_X7_isOf; rw [if_neg z, if_neg (by decide), if_neg (by decide), if_pos rfl]
          rw [e]
          cases q : f_X7_in x 0 99 with
          | false => exact ⟨-2, rfl, rfl⟩
          | true =>
            unfold f_X0_turnName f_X7_turnedName
            rw [if_pos (s0_col w.1 h4 w.2 h6), if_pos n2, d2, h.m 72 _ (mp_i _ (by decide)), h.m 73 _ (mp_i _ (by decide)), h.col h1 h3 (j := 4) (by decide), h.col h1 h3 (j := 5) (by decide)]
            exact ⟨_, rfl, rfl⟩
      · simp only [if_neg k4]
        exact ⟨-1, rfl, rfl⟩
end TU
