/-! ===== numbers ===== -/
theorem m_remN {a d : Nat} (ha : a < 2 ^ 31) (h0 : 0 < d) (hd : d < 2 ^ 31) : m_rem (nI a) (nI d) = nI (a % d) := pk_rem ha h0 hd
theorem m_inN {n N : Nat} (h : n < N) (hN : N < 2 ^ 31) : m_in (nI n) N := nI_in h hN
theorem nI_in_iff {n N : Nat} (hn : n < 2 ^ 31) : m_in (nI n) N ↔ n < N := by
  constructor
  · intro h
    have h2 : ¬ N ≤ (nI n).toNatClampNeg := fun q => h (Or.inr q)
    rw [nI_clamp hn] at h2
    omega
  · intro h
    rintro (q | q)
    · exact nI_pos hn q
    · rw [nI_clamp hn] at q; omega
theorem nI_m1 {n : Nat} (h : 0 < n) : nI n - 1 = nI (n - 1) := by
  obtain ⟨k, rfl⟩ : ∃ k, n = k + 1 := ⟨n - 1, by omega⟩
  exact nI_pred k
theorem in_iff (v lo hi : Int32) : f_X7_in v lo hi = true ↔ lo ≤ v ∧ v ≤ hi := by
  unfold f_X7_in
  by_cases h1 : v < lo
  · rw [if_pos h1]
    constructor
    · intro h; cases h
    · intro h; exact absurd h.1 (Int32.not_le.mpr h1)
  · rw [if_neg h1]
    by_cases h2 : hi < v
    · rw [if_pos h2]
      constructor
      · intro h; cases h
      · intro h; exact absurd h.2 (Int32.not_le.mpr h2)
    · rw [if_neg h2]
      exact ⟨fun _ => ⟨Int32.not_lt.mp h1, Int32.not_lt.mp h2⟩, fun _ => rfl⟩
theorem nn_of {x : Int32} (h : 0 ≤ x) : ∃ j : Nat, j < 2 ^ 31 ∧ x = nI j := nI_of (Int32.not_lt.mpr h)
theorem nn_of2 {x : Int32} {n : Nat} (hn : n < 2 ^ 31) (h : 0 ≤ x) (h2 : x < nI n) : ∃ j : Nat, j < n ∧ x = nI j := by
  obtain ⟨j, hj, rfl⟩ := nn_of h
  exact ⟨j, (nI_ltI hj hn).mp h2, rfl⟩
theorem nn_of3 {x : Int32} {n : Nat} (hn : n < 2 ^ 31) (h : 0 ≤ x) (h2 : x ≤ nI n) : ∃ j : Nat, j ≤ n ∧ x = nI j := by
  obtain ⟨j, hj, rfl⟩ := nn_of h
  exact ⟨j, (nI_leI hj hn).mp h2, rfl⟩
theorem nI_inj {a b : Nat} (ha : a < 2 ^ 31) (hb : b < 2 ^ 31) (h : nI a = nI b) : a = b := (nI_eq ha hb).mp h
/-- a number of a kind, in 0 .. n-1: its place -/
def ixOf (x : Int32) (n : Nat) : Option Nat := if 0 ≤ x ∧ x < nI n then some x.toNatClampNeg else none
theorem ixOf_some {x : Int32} {n j : Nat} (hn : n < 2 ^ 31) (h : ixOf x n = some j) : j < n ∧ x = nI j := by
  unfold ixOf at h
  split at h
  · next hc =>
    obtain ⟨i, hi, rfl⟩ := nn_of2 hn hc.1 hc.2
    rw [nI_clamp (by omega)] at h
    cases h
    exact ⟨hi, rfl⟩
  · cases h
theorem ixOf_nI {n j : Nat} (hj : j < n) (hn : n < 2 ^ 31) : ixOf (nI j) n = some j := by
  unfold ixOf
  rw [if_pos ⟨nI_pos' (by omega), nI_lt hj hn⟩, nI_clamp (by omega)]
theorem ixOf_none {x : Int32} {n : Nat} (h : ixOf x n = none) : x < 0 ∨ nI n ≤ x := by
  unfold ixOf at h
  split at h
  · cases h
  · next hc =>
    by_cases h0 : x < 0
    · exact Or.inl h0
    · exact Or.inr (Int32.not_lt.mp fun q => hc ⟨Int32.not_lt.mp h0, q⟩)
theorem ixOf_in {x : Int32} {n : Nat} (hn : n < 2 ^ 31) (h1 : 0 < n) : f_X7_in x 0 (nI n - 1) = (ixOf x n).isSome := by
  have key : f_X7_in x 0 (nI n - 1) = true ↔ (ixOf x n).isSome = true := by
    rw [in_iff, nI_m1 h1]
    constructor
    · intro ⟨ha, hb⟩
      obtain ⟨j, hj, rfl⟩ := nn_of3 (by omega) ha hb
      rw [ixOf_nI (by omega) hn]; rfl
    · intro h
      obtain ⟨j, hj⟩ := Option.isSome_iff_exists.mp h
      obtain ⟨h2, rfl⟩ := ixOf_some hn hj
      exact ⟨nI_pos' (by omega), nI_le (by omega) (by omega)⟩
  cases h1 : f_X7_in x 0 (nI n - 1) <;> cases h2 : (ixOf x n).isSome <;> simp_all
theorem in_0m1 (x : Int32) : f_X7_in x 0 (nI 0 - 1) = false := by
  cases h : f_X7_in x 0 (nI 0 - 1) with
  | false => rfl
  | true =>
    have h2 := (in_iff _ _ _).mp h
    have h3 : (0 : Int32) ≤ nI 0 - 1 := Int32.le_trans h2.1 h2.2
    exact absurd h3 (by decide)
theorem ixOf_in' {x : Int32} {n : Nat} (hn : n < 2 ^ 31) : f_X7_in x 0 (nI n - 1) = (ixOf x n).isSome := by
  by_cases h : 0 < n
  · exact ixOf_in hn h
  · have h0 : n = 0 := by omega
    subst h0
    rw [in_0m1]
    cases h : ixOf x 0 with
    | none => rfl
    | some j => exact absurd (ixOf_some (by decide) h).1 (by omega)
theorem m_up_at {α : Type} (g : Nat → Nat → α) (a k : Nat) (x : α) (a' k' : Nat) : m_up g a k x a' k' = if a' = a ∧ k' = k then x else g a' k' := by
  unfold m_up va_up
  by_cases ha : a' = a
  · subst ha
    by_cases hk : k' = k
    · simp [hk]
    · simp [hk]
  · simp [ha]
theorem m_up_eq {α : Type} (g : Nat → Nat → α) (a k : Nat) (x : α) : m_up g a k x a k = x := by rw [m_up_at]; simp
theorem m_up_na {α : Type} (g : Nat → Nat → α) {a a' : Nat} (k k' : Nat) (x : α) (h : a' ≠ a) : m_up g a k x a' k' = g a' k' := by rw [m_up_at]; simp [h]
theorem m_up_nk {α : Type} (g : Nat → Nat → α) (a : Nat) {a' k k' : Nat} (x : α) (h : k' ≠ k) : m_up g a k x a' k' = g a' k' := by rw [m_up_at]; simp [h]
