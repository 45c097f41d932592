/-! ===== bits, sets of rows, counts ===== -/
theorem shm_ok : ∀ k, k < 32 → ((nI k &&& 31 : Int32).toBitVec.smod 32).toNat = k := by decide +kernel
theorem m_shrN {m j : Nat} (hm : m < 2 ^ 31) (hj : j < 31) : m_shr (nI m) (nI j) = nI (m / 2 ^ j) := by
  unfold m_shr
  exact pk_shrN hm _ j (shm_ok j (by omega))
theorem m_shlN {j : Nat} (hj : j < 31) : m_shl 1 (nI j) = nI (2 ^ j) := by
  unfold m_shl
  have := pk_shlN (n := 1) (nI j &&& 31) j (shm_ok j (by omega)) (by rw [Nat.one_mul]; exact Nat.pow_lt_pow_right (by decide) (by omega))
  rw [Nat.one_mul] at this
  exact this
theorem and1N {n : Nat} (h : n < 2 ^ 32) : nI n &&& 1 = nI (n % 2) := by
  have := pk_andN h (m := 1) 1 (by decide)
  exact this
theorem nb_or {x y : Nat} (hx : x < 2 ^ 32) (hy : y < 2 ^ 32) : nI x ||| nI y = nI (x ||| y) := by
  apply Int32.toBitVec_inj.mp
  apply BitVec.eq_of_toNat_eq
  rw [Int32.toBitVec_or, BitVec.toNat_or, pk_tn hx, pk_tn hy, pk_tn (Nat.or_lt_two_pow hx hy)]
theorem nb_and {x y : Nat} (hx : x < 2 ^ 32) (hy : y < 2 ^ 32) : nI x &&& nI y = nI (x &&& y) := by
  apply Int32.toBitVec_inj.mp
  apply BitVec.eq_of_toNat_eq
  rw [Int32.toBitVec_and, BitVec.toNat_and, pk_tn hx, pk_tn hy, pk_tn (Nat.and_lt_two_pow x hy)]
theorem bit_lo (m j : Nat) : m / 2 ^ j % 2 = 0 ∨ m / 2 ^ j % 2 = 1 := by omega
theorem hasBitN {m j : Nat} (hm : m < 2 ^ 31) (hj : j < 31) : f_X6_hasBit (nI m) (nI j) = m.testBit j := by
  have hd := Nat.div_le_self m (2 ^ j)
  unfold f_X6_hasBit
  rw [m_shrN hm hj, and1N (by omega), Nat.testBit_eq_decide_div_mod_eq]
  rcases bit_lo m j with z | z <;> rw [z] <;> decide
theorem refBit {m j : Nat} (hm : m < 2 ^ 31) (hj : j < 31) : (m_shr (nI m) (nI j) &&& 1 = 0) ↔ m.testBit j = false := by
  have hd := Nat.div_le_self m (2 ^ j)
  rw [m_shrN hm hj, and1N (by omega), Nat.testBit_eq_decide_div_mod_eq]
  rcases bit_lo m j with z | z <;> rw [z] <;> decide
/-- a set of numbers below n -/
def bsN (f : Nat → Bool) : Nat → Nat
  | 0 => 0
  | i + 1 => bif f i then bsN f i ||| 2 ^ i else bsN f i
theorem bsN_bit (f : Nat → Bool) : ∀ n j, (bsN f n).testBit j = (decide (j < n) && f j)
  | 0, j => by
    show (0 : Nat).testBit j = _
    rw [Nat.zero_testBit]
    simp
  | n + 1, j => by
    show (bif f n then bsN f n ||| 2 ^ n else bsN f n).testBit j = _
    cases e : f n with
    | true =>
      rw [cond_true, Nat.testBit_or, bsN_bit f n j, Nat.testBit_two_pow]
      by_cases z : j = n
      · subst z; simp [e]
      · by_cases z2 : j < n
        · simp [z2, show j < n + 1 by omega, show ¬ n = j by omega]
        · simp [z2, show ¬ j < n + 1 by omega, show ¬ n = j by omega]
    | false =>
      rw [cond_false, bsN_bit f n j]
      by_cases z : j = n
      · subst z; simp [e]
      · by_cases z2 : j < n
        · simp [z2, show j < n + 1 by omega]
        · simp [z2, show ¬ j < n + 1 by omega]
theorem bsN_lt (f : Nat → Bool) : ∀ n, bsN f n < 2 ^ n
  | 0 => by show 0 < 2 ^ 0; decide
  | n + 1 => by
    have ih := bsN_lt f n
    have p1 : 2 ^ n < 2 ^ (n + 1) := Nat.pow_lt_pow_right (by decide) (by omega)
    show (bif f n then bsN f n ||| 2 ^ n else bsN f n) < 2 ^ (n + 1)
    cases f n with
    | true => exact Nat.or_lt_two_pow (Nat.lt_trans ih p1) p1
    | false => exact Nat.lt_trans ih p1
theorem pw12 {n : Nat} (h : n ≤ 12) : 2 ^ n ≤ 4096 := Nat.pow_le_pow_right (n := 2) (by decide) h
theorem bsN_4096 (f : Nat → Bool) {n : Nat} (h : n ≤ 12) : bsN f n < 4096 := Nat.lt_of_lt_of_le (bsN_lt f n) (pw12 h)
def cnN (f : Nat → Bool) : Nat → Nat
  | 0 => 0
  | i + 1 => cnN f i + (bif f i then 1 else 0)
theorem cnN_le (f : Nat → Bool) : ∀ n, cnN f n ≤ n
  | 0 => Nat.le_refl _
  | n + 1 => by
    have := cnN_le f n
    show cnN f n + (bif f n then 1 else 0) ≤ n + 1
    cases f n <;> simp <;> omega
theorem cnN_congr {f h : Nat → Bool} : ∀ n, (∀ j, j < n → f j = h j) → cnN f n = cnN h n
  | 0, _ => rfl
  | n + 1, q => by
    show cnN f n + (bif f n then 1 else 0) = cnN h n + (bif h n then 1 else 0)
    rw [cnN_congr n (fun j hj => q j (by omega)), q n (by omega)]
theorem cnN_cut {f : Nat → Bool} {n : Nat} : ∀ d, cnN (fun j => decide (j < n) && f j) (n + d) = cnN f n
  | 0 => cnN_congr n (fun j hj => by simp [hj])
  | d + 1 => by
    show cnN (fun j => decide (j < n) && f j) (n + d) + (bif (decide (n + d < n) && f (n + d)) then 1 else 0) = cnN f n
    rw [cnN_cut d]
    simp [show ¬ n + d < n by omega]
theorem bc_all : ∀ x, x < 64 → ∀ y, y < 64 → f_J6_bitCount (nI (64 * x + y)) = nI (cnN (64 * x + y).testBit 12) := by decide +kernel
theorem bcN {m : Nat} (h : m < 4096) : f_J6_bitCount (nI m) = nI (cnN m.testBit 12) := by
  have := bc_all (m / 64) (by omega) (m % 64) (by omega)
  rw [show 64 * (m / 64) + m % 64 = m by omega] at this
  exact this
theorem bcS (f : Nat → Bool) {n : Nat} (h : n ≤ 12) : f_J6_bitCount (nI (bsN f n)) = nI (cnN f n) := by
  rw [bcN (bsN_4096 f h)]
  have e : cnN (bsN f n).testBit 12 = cnN (fun j => decide (j < n) && f j) 12 := cnN_congr 12 (fun j _ => bsN_bit f n j)
  have e2 := cnN_cut (f := f) (n := n) (12 - n)
  rw [show n + (12 - n) = 12 by omega] at e2
  rw [e, e2]
theorem bsN_or (f : Nat → Bool) (i : Nat) (hi : i < 12) (z : f i = true) : nI (bsN f i) ||| m_shl 1 (nI i) = nI (bsN f (i + 1)) := by
  have h1 := bsN_4096 f (n := i) (by omega)
  have h2 := pw12 (n := i) (by omega)
  rw [m_shlN (by omega), nb_or (by omega) (by omega)]
  show _ = nI (bif f i then bsN f i ||| 2 ^ i else bsN f i)
  rw [z]; rfl
theorem bsN_skip (f : Nat → Bool) (i : Nat) (z : f i = false) : bsN f (i + 1) = bsN f i := by
  show (bif f i then bsN f i ||| 2 ^ i else bsN f i) = _
  rw [z]; rfl
theorem bsN_congr {f h : Nat → Bool} : ∀ n, (∀ j, j < n → f j = h j) → bsN f n = bsN h n
  | 0, _ => rfl
  | n + 1, q => by
    show (bif f n then bsN f n ||| 2 ^ n else bsN f n) = (bif h n then bsN h n ||| 2 ^ n else bsN h n)
    rw [bsN_congr n (fun j hj => q j (by omega)), q n (by omega)]
theorem bsN_and (f h : Nat → Bool) (n : Nat) : bsN f n &&& bsN h n = bsN (fun j => f j && h j) n := by
  apply Nat.eq_of_testBit_eq
  intro j
  rw [Nat.testBit_and, bsN_bit, bsN_bit, bsN_bit]
  cases decide (j < n) <;> simp
theorem sub_sw {x y z w : Int32} (h : x - y = z - w) : x - z = y - w := by
  apply Int32.toBitVec_inj.mp
  have h2 := congrArg Int32.toBitVec h
  rw [Int32.toBitVec_sub, Int32.toBitVec_sub] at h2 ⊢
  bv_omega
