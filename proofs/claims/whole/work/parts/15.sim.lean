/-! ===== the standing heap's places ===== -/
theorem fr_tab (b : Bool) : ∀ n, n < 4 → m_fr b 1 n = some (16 + 10 * n) := by cases b <;> decide +kernel
theorem fr_t0 (b : Bool) : ∀ n, n < 4 → m_fr b (16 + 10 * n) 0 = some (17 + 10 * n) := by cases b <;> decide +kernel
theorem fr_t1 (b : Bool) : ∀ n, n < 4 → m_fr b (16 + 10 * n) 1 = some (18 + 10 * n) := by cases b <;> decide +kernel
theorem fr_t2 (b : Bool) : ∀ n, n < 4 → m_fr b (16 + 10 * n) 2 = some (19 + 10 * n) := by cases b <;> decide +kernel
theorem fr_col (b : Bool) : ∀ n, n < 4 → ∀ c, c < 6 → m_fr b (17 + 10 * n) c = some (20 + 10 * n + c) := by cases b <;> decide +kernel
theorem fr_rul (b : Bool) : ∀ k, k < 8 → m_fr b 2 k = some (56 + k) := by cases b <;> decide +kernel
theorem fr_tr (b : Bool) : m_fr b 4 0 = some 5 := by cases b <;> decide +kernel
theorem fr_pM (b : Bool) : m_fr b (m_pM b) 0 = some (m_pM b + 1) := by cases b <;> decide +kernel
theorem fr_pD (b : Bool) : m_fr b (m_pD b) 0 = some (m_pD b + 1) := by cases b <;> decide +kernel
theorem s0_tab : ∀ n, n < 4 → m_S0[16 + 10 * n]? = some (.inl 4) := by decide +kernel
theorem s0_col : ∀ n, n < 4 → ∀ c, c < 6 → m_S0[20 + 10 * n + c]? = some (.inl 0) := by decide +kernel
theorem s0_rul : ∀ k, k < 8 → m_S0[56 + k]? = some (.inl 3) := by decide +kernel
theorem s0_tr : m_S0[4]? = some (.inl 1) := by decide +kernel
theorem s0_pM (b : Bool) : m_S0[m_pM b]? = some (.inl 1) := by cases b <;> decide +kernel
theorem s0_pD (b : Bool) : m_S0[m_pD b]? = some (.inl 1) := by cases b <;> decide +kernel
theorem ln_cols : ∀ n, n < 4 → m_len 2 (17 + 10 * n) = some 6 := by decide +kernel
theorem ln_fac : ∀ n, n < 4 → m_len 0 (18 + 10 * n) = some 5 := by decide +kernel
theorem ln_add : ∀ n, n < 4 → m_len 0 (19 + 10 * n) = some 5 := by decide +kernel
theorem ln_5 : m_len 0 5 = some 288 := by decide +kernel
theorem ln_pM (b : Bool) : m_len 0 (m_pM b + 1) = some 288 := by cases b <;> decide +kernel
theorem ln_pD (b : Bool) : m_len 0 (m_pD b + 1) = some 288 := by cases b <;> decide +kernel
/-! ===== the state: p is the reference's lasting memory, g all cells ===== -/
abbrev mI : Type := Nat → Nat → Int32
def nT (p : mI) : Nat := (p 64 1).toNatClampNeg
def nC (p : mI) (t : Nat) : Nat := (p 65 t).toNatClampNeg
def nR (p : mI) (t : Nat) : Nat := (p 66 t).toNatClampNeg
def nO (p : mI) (t : Nat) : Nat := (p 67 t).toNatClampNeg
def nW (p : mI) : Nat := (p 64 19).toNatClampNeg
def nU (p : mI) : Nat := (p 64 20).toNatClampNeg
def mp (a : Nat) : Prop := 64 ≤ a ∧ a ≤ 86 ∧ a ≠ 78
/-- what holds of the reference's memory: tables, columns, rows, owners -/
def I1 (p : mI) : Prop := (p 64 1 = nI (nT p) ∧ nT p ≤ 4) ∧ (∀ t, t < nT p → p 65 t = nI (nC p t) ∧ 1 ≤ nC p t ∧ nC p t ≤ 6) ∧ (∀ t, t < nT p → p 66 t = nI (nR p t) ∧ nR p t ≤ 12) ∧ (∀ t, t < nT p → p 67 t = nI (nO p t) ∧ nO p t < nC p t ∧ (nO p t = 0 ∨ p 68 (6 * t + nO p t) = 1))
/-- columns: kinds, targets, masks -/
def I2 (p : mI) : Prop := ∀ t, t < nT p → ∀ c, c < nC p t → (p 68 (6 * t + c) = 0 ↔ c = 0) ∧ (p 68 (6 * t + c) = 0 ∨ p 68 (6 * t + c) = 1 ∨ p 68 (6 * t + c) = 2 ∨ p 68 (6 * t + c) = 3 ∨ p 68 (6 * t + c) = 4) ∧ (p 68 (6 * t + c) = 1 → ∃ u, u < nT p ∧ p 69 (6 * t + c) = nI u) ∧ f_X7_fits (p 68 (6 * t + c)) (p 70 (6 * t + c)) (p 71 (6 * t + c)) = true
/-- digits, numbers -/
def I3 (p : mI) : Prop := (∀ t, t < nT p → ∀ i, 1 ≤ i → i ≤ 4 → (p 74 (5 * t + i) = 1 ∨ p 74 (5 * t + i) = 3 ∨ p 74 (5 * t + i) = 7 ∨ p 74 (5 * t + i) = 9) ∧ f_X7_in (p 75 (5 * t + i)) 0 9 = true) ∧ f_X7_in (p 64 13) 0 60 = true ∧ (p 64 16 = 0 ∨ p 64 16 = 1) ∧ (p 64 19 = nI (nW p) ∧ nW p ≤ 6) ∧ (p 64 20 = nI (nU p) ∧ nU p ≤ 8)
/-- cells -/
def I4 (p : mI) : Prop := (∀ t, t < nT p → ∀ r, r < nR p t → ∀ c, c < nC p t → f_X7_isOf (p 68 (6 * t + c)) (p 76 (72 * t + 6 * r + c)) = true) ∧ (∀ t, t < nT p → ∀ r, r < nR p t → ∀ r', r' < nR p t → p 76 (72 * t + 6 * r) = p 76 (72 * t + 6 * r') → r = r')
/-- a rule's parts -/
def okRule (p : mI) (k : Nat) : Prop := ∃ t, t < nT p ∧ p 81 k = nI t ∧ ∃ a, a < nC p t ∧ p 82 k = nI a ∧
  ((p 80 k = 0 ∧ p 68 (6 * t + a) = 2 ∧ p 86 k = 0 ∧ ∃ a2, a2 < nC p t ∧ p 83 k = nI a2 ∧ p 68 (6 * t + a2) = 2) ∨
   (p 80 k = 1 ∧ p 68 (6 * t + a) = 3 ∧ (p 86 k = 0 ∨ p 86 k = 1) ∧ ∃ u, u < nT p ∧ u ≠ t ∧ p 84 k = nI u ∧ (∃ a2, a2 < nC p u ∧ p 83 k = nI a2 ∧ p 68 (6 * u + a2) = 3) ∧ ∃ e, e < nC p u ∧ p 85 k = nI e ∧ p 68 (6 * u + e) = 1 ∧ p 69 (6 * u + e) = nI t) ∨
   (p 80 k = 2 ∧ p 68 (6 * t + a) = 1 ∧ p 86 k = 0 ∧ p 83 k = 0))
def I5 (p : mI) : Prop := ∀ k, k < nU p → okRule p k
/-- made numbers are small -/
def I6 (p : mI) : Prop := p 64 16 = 1 → ∀ t, t < nT p → ∀ r, r < nR p t → ∀ c, c < nC p t → (p 68 (6 * t + c) = 2 ∨ p 68 (6 * t + c) = 3) → p 77 (72 * t + 6 * r + c) = (-2147483648) ∨ ((-200000 : Int) ≤ (p 77 (72 * t + 6 * r + c)).toInt ∧ (p 77 (72 * t + 6 * r + c)).toInt ≤ 200000)
/-- the class's cells hold what the reference's do -/
def E1 (p g : mI) : Prop := g 0 8 = p 64 1 ∧ g 0 9 = p 64 20 ∧ g 0 10 = p 64 19 ∧ g 0 11 = p 64 13 ∧ g 0 12 = p 64 16
def E2 (p g : mI) : Prop := ∀ t, t < nT p → g (16 + 10 * t) 3 = p 65 t ∧ g (16 + 10 * t) 4 = p 66 t ∧ g (16 + 10 * t) 5 = p 67 t
def E3 (p g : mI) : Prop := ∀ t, t < nT p → ∀ c, c < nC p t → ∀ j, j < 6 → g (20 + 10 * t + c) j = p (68 + j) (6 * t + c)
def E4 (p g : mI) : Prop := ∀ t, t < nT p → ∀ i, 1 ≤ i → i ≤ 4 → g (18 + 10 * t) i = p 74 (5 * t + i) ∧ g (19 + 10 * t) i = p 75 (5 * t + i)
def E5 (p g : mI) : Prop := ∀ i, i < nW p → g 3 i = p 79 i
def E6 (p g : mI) : Prop := ∀ t, t < nT p → ∀ r, r < nR p t → ∀ c, c < nC p t → g 5 (72 * t + 6 * r + c) = p 76 (72 * t + 6 * r + c)
def E7 (p g : mI) (b : Bool) : Prop := p 64 16 = 1 → ∀ t, t < nT p → ∀ r, r < nR p t → ∀ c, c < nC p t → g (m_pM b + 1) (72 * t + 6 * r + c) = p 77 (72 * t + 6 * r + c)
def E8 (p g : mI) : Prop := ∀ k, k < nU p → g (56 + k) 0 = p 80 k ∧ g (56 + k) 1 = p 81 k ∧ g (56 + k) 2 = p 82 k ∧ (¬ p 80 k = 2 → g (56 + k) 3 = p 83 k) ∧ (p 80 k = 1 → g (56 + k) 4 = p 84 k ∧ g (56 + k) 5 = p 85 k ∧ g (56 + k) 6 = p 86 k)
/-- tables and columns of the class that are not in use are as new -/
def Df (p g : mI) : Prop := ∀ t, t < 4 → (nT p ≤ t → (g (16 + 10 * t) 3 = 1 ∧ g (16 + 10 * t) 4 = 0 ∧ g (16 + 10 * t) 5 = 0 ∧ g (20 + 10 * t) 0 = 0 ∧ g (20 + 10 * t) 1 = 0) ∧ ∀ i, i < 5 → g (18 + 10 * t) i = 1 ∧ g (19 + 10 * t) i = 0) ∧ ∀ c, c < 6 → (nT p ≤ t ∨ nC p t ≤ c) → g (20 + 10 * t + c) 2 = 0 ∧ g (20 + 10 * t + c) 3 = 0 ∧ g (20 + 10 * t + c) 4 = 1 ∧ g (20 + 10 * t + c) 5 = 0
def Mm (p g : mI) : Prop := ∀ a k, mp a → g a k = p a k
def St (p g : mI) (b : Bool) : Prop := Mm p g ∧ (I1 p ∧ I2 p ∧ I3 p ∧ I4 p ∧ I5 p ∧ I6 p) ∧ (E1 p g ∧ E2 p g ∧ E3 p g ∧ E4 p g ∧ E5 p g ∧ E6 p g ∧ E7 p g b ∧ E8 p g) ∧ Df p g
theorem St.m {p g : mI} {b : Bool} (h : St p g b) (a k : Nat) (ha : mp a) : g a k = p a k := h.1 a k ha
/-- cells that last -/
def pers (b : Bool) (a : Nat) : Prop := mp a ∨ a = 0 ∨ a = 3 ∨ a = 5 ∨ a = m_pM b + 1 ∨ (16 ≤ a ∧ a < 64)
theorem St.congr {p g g' : mI} {b : Bool} (h : St p g b) (hg : ∀ a k, pers b a → g' a k = g a k) : St p g' b := by
  obtain ⟨hM, ⟨i1, i2, i3, i4, i5, i6⟩, ⟨e1, e2, e3, e4, e5, e6, e7, e8⟩, df⟩ := h
  have p0 : pers b 0 := Or.inr (Or.inl rfl)
  have p3 : pers b 3 := Or.inr (Or.inr (Or.inl rfl))
  have p5 : pers b 5 := Or.inr (Or.inr (Or.inr (Or.inl rfl)))
  have pM : pers b (m_pM b + 1) := Or.inr (Or.inr (Or.inr (Or.inr (Or.inl rfl))))
  have pt : ∀ a, 16 ≤ a → a < 64 → pers b a := fun a h1 h2 => Or.inr (Or.inr (Or.inr (Or.inr (Or.inr ⟨h1, h2⟩))))
  have hT : nT p ≤ 4 := i1.1.2
  have hC : ∀ t, t < nT p → nC p t ≤ 6 := fun t ht => (i1.2.1 t ht).2.2
  have hU : nU p ≤ 8 := i3.2.2.2.2.2
  refine ⟨fun a k ha => by rw [hg a k (Or.inl ha)]; exact hM a k ha, ⟨i1, i2, i3, i4, i5, i6⟩, ⟨?_, ?_, ?_, ?_, ?_, ?_, ?_, ?_⟩, ?_⟩
  · obtain ⟨a1, a2, a3, a4, a5⟩ := e1
    exact ⟨by rw [hg _ _ p0]; exact a1, by rw [hg _ _ p0]; exact a2, by rw [hg _ _ p0]; exact a3, by rw [hg _ _ p0]; exact a4, by rw [hg _ _ p0]; exact a5⟩
  · intro t ht
    rw [hg _ _ (pt _ (by omega) (by omega)), hg _ _ (pt _ (by omega) (by omega)), hg _ _ (pt _ (by omega) (by omega))]
    exact e2 t ht
  · intro t ht c hc j hj
    have := hC t ht
    rw [hg _ _ (pt _ (by omega) (by omega))]
    exact e3 t ht c hc j hj
  · intro t ht i h1 h2
    rw [hg _ _ (pt _ (by omega) (by omega)), hg _ _ (pt _ (by omega) (by omega))]
    exact e4 t ht i h1 h2
  · intro i hi
    rw [hg _ _ p3]; exact e5 i hi
  · intro t ht r hr c hc
    rw [hg _ _ p5]; exact e6 t ht r hr c hc
  · intro hm t ht r hr c hc
    rw [hg _ _ pM]; exact e7 hm t ht r hr c hc
  · intro k hk
    have q : ∀ j, g' (56 + k) j = g (56 + k) j := fun j => hg _ _ (pt _ (by omega) (by omega))
    rw [q, q, q, q, q, q, q]
    exact e8 k hk
  · intro t ht
    have q : ∀ (a j : Nat), 16 ≤ a → a < 64 → g' a j = g a j := fun a j h1 h2 => hg _ _ (pt _ h1 h2)
    refine ⟨fun hn => ⟨?_, fun i hi => ?_⟩, fun c hc hn => ?_⟩
    · rw [q _ _ (by omega) (by omega), q _ _ (by omega) (by omega), q _ _ (by omega) (by omega), q _ _ (by omega) (by omega), q _ _ (by omega) (by omega)]
      exact ((df t ht).1 hn).1
    · rw [q _ _ (by omega) (by omega), q _ _ (by omega) (by omega)]
      exact ((df t ht).1 hn).2 i hi
    · rw [q _ _ (by omega) (by omega), q _ _ (by omega) (by omega), q _ _ (by omega) (by omega), q _ _ (by omega) (by omega)]
      exact (df t ht).2 c hc hn
theorem St.scratch {p g : mI} {b : Bool} (h : St p g b) {a k : Nat} {x : Int32} (ha : ¬ pers b a) : St p (m_up g a k x) b := h.congr fun a' k' h' => m_up_na g k k' x (fun e => ha (e ▸ h'))
/-! ===== closed forms: tables, columns, rows ===== -/
def tOf (p : mI) (t : Int32) : Option Nat := ixOf t (nT p)
def cOf (p : mI) (t c : Int32) : Option (Nat × Nat) := (tOf p t).bind fun n => (ixOf c (nC p n)).map fun j => (n, j)
def rOf (p : mI) (t r : Int32) : Option (Nat × Nat) := (tOf p t).bind fun n => (ixOf r (nR p n)).map fun j => (n, j)
section CF
variable {p g : mI} {b : Bool}
theorem St.T (h : St p g b) : p 64 1 = nI (nT p) ∧ nT p ≤ 4 := h.2.1.1.1
theorem St.C (h : St p g b) {t : Nat} (ht : t < nT p) : p 65 t = nI (nC p t) ∧ 1 ≤ nC p t ∧ nC p t ≤ 6 := h.2.1.1.2.1 t ht
theorem St.R (h : St p g b) {t : Nat} (ht : t < nT p) : p 66 t = nI (nR p t) ∧ nR p t ≤ 12 := h.2.1.1.2.2.1 t ht
theorem St.O (h : St p g b) {t : Nat} (ht : t < nT p) : p 67 t = nI (nO p t) ∧ nO p t < nC p t ∧ (nO p t = 0 ∨ p 68 (6 * t + nO p t) = 1) := h.2.1.1.2.2.2 t ht
theorem St.e1 (h : St p g b) : E1 p g := h.2.2.1.1
theorem St.e2 (h : St p g b) : E2 p g := h.2.2.1.2.1
theorem St.e3 (h : St p g b) : E3 p g := h.2.2.1.2.2.1
theorem St.e4 (h : St p g b) : E4 p g := h.2.2.1.2.2.2.1
theorem St.e5 (h : St p g b) : E5 p g := h.2.2.1.2.2.2.2.1
theorem St.e6 (h : St p g b) : E6 p g := h.2.2.1.2.2.2.2.2.1
theorem St.e7 (h : St p g b) : E7 p g b := h.2.2.1.2.2.2.2.2.2.1
theorem St.e8 (h : St p g b) : E8 p g := h.2.2.1.2.2.2.2.2.2.2
theorem tOf_some (h : St p g b) {t : Int32} {n : Nat} (e : tOf p t = some n) : n < nT p ∧ n < 4 ∧ t = nI n := by
  have h2 := h.T.2
  obtain ⟨h1, h3⟩ := ixOf_some (by omega) e
  exact ⟨h1, by omega, h3⟩
theorem tOf_nI (h : St p g b) {n : Nat} (hn : n < nT p) : tOf p (nI n) = some n := ixOf_nI hn (by have := h.T.2; omega)
theorem F_tableAt (h : St p g b) (t : Int32) : f_X6_tableAt g b t = some ((tOf p t).map fun n => 16 + 10 * n) := by
  have hT := h.T
  unfold f_X6_tableAt
  rw [h.e1.1, hT.1]
  cases e : tOf p t with
  | none =>
    rcases ixOf_none e with q | q
    · rw [if_pos q]; rfl
    · by_cases h0 : t < 0
      · rw [if_pos h0]; rfl
      · rw [if_neg h0, if_pos q]; rfl
  | some n =>
    obtain ⟨h1, h4, rfl⟩ := tOf_some h e
    rw [if_neg (nI_pos (by omega)), if_neg (nI_ge h1 (by omega)), if_neg (show ¬ (4 : Int32) ≤ nI n from nI_ge (b := 4) h4 (by decide)), if_pos (m_inN h4 (by decide)), nI_clamp (by omega), fr_tab b n h4]
    rfl
theorem F_columnNumbered (h : St p g b) {n : Nat} (hn : n < nT p) (c : Int32) : f_X4_columnNumbered g b (16 + 10 * n) c = some ((ixOf c (nC p n)).map fun j => 20 + 10 * n + j) := by
  have hT := h.T
  have hC := h.C hn
  have h4 : n < 4 := by omega
  unfold f_X4_columnNumbered
  rw [(h.e2 n hn).1, hC.1, if_pos (s0_tab n h4)]
  cases e : ixOf c (nC p n) with
  | none =>
    rcases ixOf_none e with q | q
    · rw [if_pos q]; rfl
    · by_cases h0 : c < 0
      · rw [if_pos h0]; rfl
      · rw [if_neg h0, if_pos q]; rfl
  | some j =>
    obtain ⟨h1, rfl⟩ := ixOf_some (by omega) e
    rw [if_neg (nI_pos (by omega)), if_neg (nI_ge h1 (by omega)), if_neg (show ¬ (6 : Int32) ≤ nI j from nI_ge (b := 6) (by omega) (by decide)), fr_t0 b n h4]
    show ((m_len 2 (17 + 10 * n)).bind fun n7 => _) = _
    rw [ln_cols n h4]
    show (if m_in (nI j) 6 then _ else _) = _
    rw [if_pos (m_inN (by omega) (by decide)), nI_clamp (by omega), fr_col b n h4 j (by omega)]
    rfl
theorem F_columnAt (h : St p g b) (t c : Int32) : f_X6_columnAt g b t c = some ((cOf p t c).map fun q => 20 + 10 * q.1 + q.2) := by
  unfold f_X6_columnAt cOf
  rw [F_tableAt h t]
  cases e : tOf p t with
  | none => rfl
  | some n =>
    obtain ⟨h1, h4, rfl⟩ := tOf_some h e
    show (if m_S0[16 + 10 * n]? = some (.inl 4) then _ else _) = _
    rw [if_pos (s0_tab n h4), F_columnNumbered h h1]
    show some _ = some (((ixOf c (nC p n)).map fun j => (n, j)).map fun q => 20 + 10 * q.1 + q.2)
    cases ixOf c (nC p n) <;> rfl
def rowsN (p : mI) (t : Int32) : Int32 := match tOf p t with
  | some n => p 66 n
  | none => 0
def colsN (p : mI) (t : Int32) : Int32 := match tOf p t with
  | some n => p 65 n
  | none => 0
theorem F_rowsOf (h : St p g b) (t : Int32) : f_X6_rowsOf g b t = some (rowsN p t) := by
  unfold f_X6_rowsOf rowsN
  rw [F_tableAt h t]
  cases e : tOf p t with
  | none => rfl
  | some n =>
    obtain ⟨h1, h4, rfl⟩ := tOf_some h e
    show (if m_S0[16 + 10 * n]? = some (.inl 4) then some (g (16 + 10 * n) 4) else _) = _
    rw [if_pos (s0_tab n h4), (h.e2 n h1).2.1]
theorem F_columnsOf (h : St p g b) (t : Int32) : f_X6_columnsOf g b t = some (colsN p t) := by
  unfold f_X6_columnsOf colsN
  rw [F_tableAt h t]
  cases e : tOf p t with
  | none => rfl
  | some n =>
    obtain ⟨h1, h4, rfl⟩ := tOf_some h e
    show (if m_S0[16 + 10 * n]? = some (.inl 4) then some (g (16 + 10 * n) 3) else _) = _
    rw [if_pos (s0_tab n h4), (h.e2 n h1).1]
theorem ixOf_test {x : Int32} {n : Nat} (hn : n < 2 ^ 31) : (if x < 0 then false else if nI n ≤ x then false else true) = (ixOf x n).isSome := by
  cases e : ixOf x n with
  | none =>
    rcases ixOf_none e with q | q
    · rw [if_pos q]; rfl
    · by_cases h0 : x < 0
      · rw [if_pos h0]; rfl
      · rw [if_neg h0, if_pos q]; rfl
  | some j =>
    obtain ⟨h1, rfl⟩ := ixOf_some hn e
    rw [if_neg (nI_pos (by omega)), if_neg (nI_ge h1 (by omega))]; rfl
theorem F_isRow (h : St p g b) (t r : Int32) : f_X6_isRow g b t r = some (rOf p t r).isSome := by
  unfold f_X6_isRow rOf
  rw [F_rowsOf h t]
  unfold rowsN
  cases e : tOf p t with
  | none =>
    show (if r < 0 then _ else if (0 : Int32) ≤ r then _ else _) = some false
    by_cases h0 : r < 0
    · rw [if_pos h0]
    · rw [if_neg h0, if_pos (Int32.not_lt.mp h0)]
  | some n =>
    obtain ⟨h1, h4, rfl⟩ := tOf_some h e
    have hR := h.R h1
    show (if r < 0 then some false else if p 66 n ≤ r then some false else some true) = some _
    rw [hR.1]
    have := ixOf_test (x := r) (n := nR p n) (by omega)
    have e9 : (((some n).bind fun n => (ixOf r (nR p n)).map fun j => (n, j)) : Option (Nat × Nat)).isSome = (ixOf r (nR p n)).isSome := by
      cases h9 : ixOf r (nR p n) <;> simp [h9]
    rw [e9, ← this]
    by_cases h0 : r < 0
    · rw [if_pos h0, if_pos h0]
    · rw [if_neg h0, if_neg h0]
      by_cases h5 : nI (nR p n) ≤ r
      · rw [if_pos h5, if_pos h5]
      · rw [if_neg h5, if_neg h5]
theorem F7_isTable (h : St p g b) (t : Int32) : f_X7_isTable g t = (tOf p t).isSome := by
  unfold f_X7_isTable
  rw [h.m 64 1 (by unfold mp; omega), h.T.1]
  exact ixOf_in' (by have := h.T.2; omega)
theorem F7_isColumn (h : St p g b) (t c : Int32) : f_X7_isColumn g t c = some (cOf p t c).isSome := by
  unfold f_X7_isColumn cOf
  rw [F7_isTable h]
  cases e : tOf p t with
  | none => rfl
  | some n =>
    obtain ⟨h1, h4, rfl⟩ := tOf_some h e
    show (if m_in (nI n) 4 then _ else _) = _
    have hC := h.C h1
    rw [if_pos (m_inN h4 (by decide)), nI_clamp (by omega), h.m 65 n (by unfold mp; omega), hC.1, ixOf_in' (by omega)]
    cases h9 : ixOf c (nC p n) <;> simp [h9]
theorem F7_isRow (h : St p g b) (t r : Int32) : f_X7_isRow g t r = some (rOf p t r).isSome := by
  unfold f_X7_isRow rOf
  rw [F7_isTable h]
  cases e : tOf p t with
  | none => rfl
  | some n =>
    obtain ⟨h1, h4, rfl⟩ := tOf_some h e
    show (if m_in (nI n) 4 then _ else _) = _
    have hR := h.R h1
    rw [if_pos (m_inN h4 (by decide)), nI_clamp (by omega), h.m 66 n (by unfold mp; omega), hR.1, ixOf_in' (by omega)]
    cases h9 : ixOf r (nR p n) <;> simp [h9]
theorem cOf_some (h : St p g b) {t c : Int32} {q : Nat × Nat} (e : cOf p t c = some q) : q.1 < nT p ∧ q.1 < 4 ∧ q.2 < nC p q.1 ∧ q.2 < 6 ∧ t = nI q.1 ∧ c = nI q.2 := by
  unfold cOf at e
  cases e1 : tOf p t with
  | none => rw [e1] at e; cases e
  | some n =>
    rw [e1] at e
    obtain ⟨h1, h4, rfl⟩ := tOf_some h e1
    have hC := h.C h1
    cases e2 : ixOf c (nC p n) with
    | none => simp [e2] at e
    | some j =>
      simp [e2] at e
      subst e
      obtain ⟨h5, rfl⟩ := ixOf_some (by omega) e2
      exact ⟨h1, h4, h5, by show j < 6; omega, rfl, rfl⟩
theorem rOf_some (h : St p g b) {t r : Int32} {q : Nat × Nat} (e : rOf p t r = some q) : q.1 < nT p ∧ q.1 < 4 ∧ q.2 < nR p q.1 ∧ q.2 < 12 ∧ t = nI q.1 ∧ r = nI q.2 := by
  unfold rOf at e
  cases e1 : tOf p t with
  | none => rw [e1] at e; cases e
  | some n =>
    rw [e1] at e
    obtain ⟨h1, h4, rfl⟩ := tOf_some h e1
    have hR := h.R h1
    cases e2 : ixOf r (nR p n) with
    | none => simp [e2] at e
    | some j =>
      simp [e2] at e
      subst e
      obtain ⟨h5, rfl⟩ := ixOf_some (by omega) e2
      exact ⟨h1, h4, h5, by show j < 12; omega, rfl, rfl⟩
end CF
