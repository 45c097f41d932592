/-! ===== signed numbers; joins, miss, loss ===== -/
theorem tI_sub {x y : Int32} (h1 : -2147483648 ≤ x.toInt - y.toInt) (h2 : x.toInt - y.toInt < 2147483648) : (x - y).toInt = x.toInt - y.toInt := by
  rw [Int32.toInt_sub]
  exact Int.bmod_eq_of_le (by simpa using h1) (by simpa using h2)
theorem tI_add {x y : Int32} (h1 : -2147483648 ≤ x.toInt + y.toInt) (h2 : x.toInt + y.toInt < 2147483648) : (x + y).toInt = x.toInt + y.toInt := by
  rw [Int32.toInt_add]
  exact Int.bmod_eq_of_le (by simpa using h1) (by simpa using h2)
theorem tI_lo (x : Int32) : -2147483648 ≤ x.toInt := Int32.le_toInt x
theorem tI_hi (x : Int32) : x.toInt < 2147483648 := Int32.toInt_lt x
theorem tmod_small (x y : Int) : (0 ≤ x → 0 ≤ x.tmod y ∧ x.tmod y ≤ x) ∧ (x ≤ 0 → x.tmod y ≤ 0 ∧ x ≤ x.tmod y) := by
  have pos : ∀ z : Int, 0 ≤ z → 0 ≤ z.tmod y ∧ z.tmod y ≤ z := by
    intro z hz
    refine ⟨Int.tmod_nonneg y hz, ?_⟩
    obtain ⟨m, rfl⟩ := Int.eq_ofNat_of_zero_le hz
    rcases Int.eq_nat_or_neg y with ⟨n, rfl | rfl⟩
    · rw [← Int.ofNat_tmod]; exact Int.ofNat_le.mpr (Nat.mod_le m n)
    · rw [Int.tmod_neg, ← Int.ofNat_tmod]; exact Int.ofNat_le.mpr (Nat.mod_le m n)
  refine ⟨pos x, fun hx => ?_⟩
  have := pos (-x) (by omega)
  rw [Int.neg_tmod] at this
  omega
theorem tI_rem {x y : Int32} (hy : y ≠ -1) : (m_rem x y).toInt = x.toInt.tmod y.toInt := by
  unfold m_rem
  rw [Int32.toInt_sub, Int32.toInt_mul, Int32.toInt_div_of_ne_right _ _ hy, Int.sub_bmod_bmod]
  have e : x.toInt - x.toInt.tdiv y.toInt * y.toInt = x.toInt.tmod y.toInt := by rw [Int.tmod_def, Int.mul_comm]
  rw [e]
  have q := tmod_small x.toInt y.toInt
  have := tI_lo x
  have := tI_hi x
  apply Int.bmod_eq_of_le
  · rcases Int.le_total 0 x.toInt with z | z
    · have := q.1 z; simp; omega
    · have := q.2 z; simp; omega
  · rcases Int.le_total 0 x.toInt with z | z
    · have := q.1 z; simp; omega
    · have := q.2 z; simp; omega
theorem nn_msb (x : Int32) : 0 ≤ x ↔ x.toBitVec.msb = false := by
  rw [show (0 ≤ x) = (BitVec.sle 0#32 x.toBitVec = true) from rfl]
  exact BitVec.zero_sle_iff_msb_eq_false
theorem nn_xor {x y : Int32} (hy : 0 ≤ y) : 0 ≤ (x ^^^ y) ↔ 0 ≤ x := by
  rw [nn_msb, nn_msb x]
  have : (x ^^^ y).toBitVec.msb = (x.toBitVec.msb ^^ y.toBitVec.msb) := by
    rw [Int32.toBitVec_xor, BitVec.msb_xor]
  rw [this, (nn_msb y).mp hy, Bool.xor_false]
/-- the rest that is never below nought -/
def fmod (v w : Int32) : Int32 := if 0 ≤ m_rem v w then m_rem v w else m_rem v w + w
theorem le1 {w : Int32} (h : 1 ≤ w) : w ≠ -1 ∧ ¬ w = 0 ∧ 0 ≤ w ∧ 1 ≤ w.toInt := by
  have h1 : (1 : Int) ≤ w.toInt := Int32.le_iff_toInt_le.mp h
  refine ⟨?_, ?_, ?_, h1⟩
  · rintro rfl; exact absurd h1 (by decide)
  · rintro rfl; exact absurd h1 (by decide)
  · rw [Int32.le_iff_toInt_le]; show (0 : Int) ≤ _; omega
theorem F_tooFine (v : Int32) {w : Int32} (h : 1 ≤ w) : f_X6_tooFine v w = some (fmod v w) := by
  obtain ⟨w1, w2, w3, w4⟩ := le1 h
  unfold f_X6_tooFine f_J9_floorMod fmod
  rw [if_pos h, if_pos w2]
  have q := tmod_small v.toInt w.toInt
  have e := tI_rem (x := v) w1
  by_cases z : 0 ≤ v
  · have z' : (0 : Int) ≤ v.toInt := Int32.le_iff_toInt_le.mp z
    have r0 : 0 ≤ m_rem v w := by rw [Int32.le_iff_toInt_le, e]; exact (q.1 z').1
    rw [if_pos ((nn_xor w3).mpr z), if_pos r0]; rfl
  · rw [if_neg (fun y => z ((nn_xor w3).mp y))]
    have z' : v.toInt ≤ 0 := by
      have := fun y => z (Int32.le_iff_toInt_le.mpr y)
      have : ¬ (0 : Int) ≤ v.toInt := this
      omega
    by_cases r0 : m_rem v w = 0
    · rw [if_pos r0, if_pos (by rw [r0]; exact Int32.le_refl _)]; rfl
    · rw [if_neg r0, if_neg]
      · rfl
      · intro y
        have y' : (0 : Int) ≤ (m_rem v w).toInt := Int32.le_iff_toInt_le.mp y
        apply r0
        apply Int32.toInt_inj.mp
        show (m_rem v w).toInt = 0
        have := (q.2 z').1
        omega
theorem F_coarse (v : Int32) {w : Int32} (h : ¬ w = 0) : f_X7_coarse v w = some (v - fmod v w) := by
  unfold f_X7_coarse fmod
  rw [if_pos h]
  by_cases z : 0 ≤ m_rem v w
  · rw [if_pos z, if_pos z]
  · rw [if_neg z, if_neg z]
theorem sub_ss (v x : Int32) : v - (v - x) = x := by
  rw [Int32.sub_eq_add_neg, Int32.neg_sub, Int32.add_comm, Int32.sub_add_cancel]
/-- the gap between two small numbers -/
theorem gap_eq {x y : Int32} (hx : -400000 ≤ x.toInt ∧ x.toInt ≤ 400000) (hy : -400000 ≤ y.toInt ∧ y.toInt ≤ 400000) : m_abs (y - x) = if y ≤ x then x - y else y - x := by
  have e : (y - x).toInt = y.toInt - x.toInt := tI_sub (by omega) (by omega)
  unfold m_abs
  by_cases z : y ≤ x
  · have z' : y.toInt ≤ x.toInt := Int32.le_iff_toInt_le.mp z
    rw [if_pos z]
    by_cases z2 : 0 ≤ y - x
    · rw [if_pos z2]
      have z3 : (0 : Int) ≤ (y - x).toInt := Int32.le_iff_toInt_le.mp z2
      apply Int32.toInt_inj.mp
      rw [e, tI_sub (by omega) (by omega)]; omega
    · rw [if_neg z2, Int32.zero_sub, Int32.neg_sub]
  · rw [if_neg z, if_pos]
    rw [Int32.le_iff_toInt_le, e]
    show (0 : Int) ≤ _
    have : ¬ y.toInt ≤ x.toInt := fun q => z (Int32.le_iff_toInt_le.mpr q)
    omega
