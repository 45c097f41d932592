/-! ===== cells, loops, at, count ===== -/
def sm (f : Nat → Int32) : Nat → Nat → Int32
  | _, 0 => 0
  | i, k + 1 => f i + sm f (i + 1) k
theorem sm_congr {f f' : Nat → Int32} : ∀ (k i : Nat), (∀ j, i ≤ j → j < i + k → f j = f' j) → sm f i k = sm f' i k
  | 0, _, _ => rfl
  | k + 1, i, h => by
    show f i + sm f (i + 1) k = f' i + sm f' (i + 1) k
    rw [h i (by omega) (by omega), sm_congr k (i + 1) (fun j h1 h2 => h j (by omega) (by omega))]
theorem loop_sum {R : Type} {lp : Nat → Int32 → Int32 → Option R} {N : Nat} {f : Nat → Int32} {fin : Int32 → Option R} (hd : ∀ n acc, lp (n + 1) acc (nI N) = fin acc) (hs : ∀ n acc i, i < N → lp (n + 1) acc (nI i) = lp n (acc + f i) (nI (i + 1))) : ∀ (k i : Nat) (acc : Int32) (n : Nat), i + k = N → k < n → lp n acc (nI i) = fin (acc + sm f i k)
  | 0, i, acc, n, h1, h2 => by
    obtain ⟨m, rfl⟩ : ∃ m, n = m + 1 := ⟨n - 1, by omega⟩
    rw [show i = N by omega, hd]
    show fin acc = fin (acc + 0)
    rw [Int32.add_zero]
  | k + 1, i, acc, n, h1, h2 => by
    obtain ⟨m, rfl⟩ : ∃ m, n = m + 1 := ⟨n - 1, by omega⟩
    rw [hs m acc i (by omega), loop_sum hd hs k (i + 1) _ m (by omega) (by omega)]
    show fin (acc + f i + sm f (i + 1) k) = fin (acc + (f i + sm f (i + 1) k))
    rw [Int32.add_assoc]
theorem loop_st {σ R : Type} {lp : Nat → Int32 → σ → Option R} {N : Nat} {st : Nat → σ} {fin : Option R} (hd : ∀ n, lp (n + 1) (nI N) (st N) = fin) (hs : ∀ n i, i < N → lp (n + 1) (nI i) (st i) = lp n (nI (i + 1)) (st (i + 1))) : ∀ (k i n : Nat), i + k = N → k < n → lp n (nI i) (st i) = fin
  | 0, i, n, h1, h2 => by
    obtain ⟨m, rfl⟩ : ∃ m, n = m + 1 := ⟨n - 1, by omega⟩
    rw [show i = N by omega, hd]
  | k + 1, i, n, h1, h2 => by
    obtain ⟨m, rfl⟩ : ∃ m, n = m + 1 := ⟨n - 1, by omega⟩
    rw [hs m i (by omega), loop_st hd hs k (i + 1) m (by omega) (by omega)]
section SM
variable {p g : mI} {b : Bool}
theorem nI_cell (t r c : Nat) : f_X7_cell (nI t) (nI r) (nI c) = nI (72 * t + 6 * r + c) := by
  unfold f_X7_cell
  rw [show (72 : Int32) = nI 72 from rfl, show (6 : Int32) = nI 6 from rfl, pk_mul, pk_mul, nI_add, nI_add]
theorem cell_in {t r c : Nat} (ht : t < 4) (hr : r < 12) (hc : c < 6) : 72 * t + 6 * r + c < 288 := by omega
theorem F_placeOf {t r c : Nat} (ht : t < 4) (hr : r < 12) (hc : c < 6) : f_X1_placeOf (nI t) (nI r) (nI c) = nI (72 * t + 6 * r + c) := by
  unfold f_X1_placeOf
  rw [if_neg (nI_pos (by omega)), if_neg (show ¬ (4 : Int32) ≤ nI t from nI_ge (b := 4) ht (by decide)), if_neg (nI_pos (by omega)), if_neg (show ¬ (12 : Int32) ≤ nI r from nI_ge (b := 12) hr (by decide)), if_neg (nI_pos (by omega)), if_neg (show ¬ (6 : Int32) ≤ nI c from nI_ge (b := 6) hc (by decide))]
  rw [show (12 : Int32) = nI 12 from rfl, show (6 : Int32) = nI 6 from rfl, pk_mul, nI_add, pk_mul, nI_add, show (t * 12 + r) * 6 + c = 72 * t + 6 * r + c by omega]
/-- a copy: where its cells are -/
def isCopy (b : Bool) (x : Nat) : Prop := m_S0[x]? = some (.inl 1) ∧ m_fr b x 0 = some (x + 1) ∧ m_len 0 (x + 1) = some 288
theorem cp_t (b : Bool) : isCopy b 4 := ⟨s0_tr, fr_tr b, ln_5⟩
theorem cp_M (b : Bool) : isCopy b (m_pM b) := ⟨s0_pM b, fr_pM b, ln_pM b⟩
theorem cp_D (b : Bool) : isCopy b (m_pD b) := ⟨s0_pD b, fr_pD b, ln_pD b⟩
theorem F_read {x : Nat} (hx : isCopy b x) {t r c : Nat} (ht : t < 4) (hr : r < 12) (hc : c < 6) : f_X1_read g b x (nI t) (nI r) (nI c) = some (g (x + 1) (72 * t + 6 * r + c)) := by
  have h288 := cell_in ht hr hc
  unfold f_X1_read
  rw [F_placeOf ht hr hc, if_pos (nI_pos' (by omega)), if_pos hx.1, hx.2.1]
  simp only [Option.bind_some, hx.2.2, if_pos (m_inN (n := 72 * t + 6 * r + c) h288 (by decide)), nI_clamp (n := 72 * t + 6 * r + c) (by omega)]
theorem F_write {x : Nat} (hx : isCopy b x) {t r c : Nat} (ht : t < 4) (hr : r < 12) (hc : c < 6) (v : Int32) : f_X1_write g b x (nI t) (nI r) (nI c) v = some (m_up g (x + 1) (72 * t + 6 * r + c) v) := by
  have h288 := cell_in ht hr hc
  unfold f_X1_write
  rw [F_placeOf ht hr hc, if_neg (nI_pos (by omega)), if_pos hx.1, hx.2.1]
  simp only [Option.bind_some, hx.2.2, if_pos (m_inN (n := 72 * t + 6 * r + c) h288 (by decide)), nI_clamp (n := 72 * t + 6 * r + c) (by omega), m_let]
/-- which copy -/
theorem F_copyOf (h : St p g b) (m : Int32) : f_X6_copyOf g b m = some (if m = 0 then some 4 else if p 64 16 = 0 then none else some (m_pM b)) := by
  unfold f_X6_copyOf
  rw [h.e1.2.2.2.2]
  by_cases h0 : m = 0
  · rw [if_pos h0, if_pos h0]
  · rw [if_neg h0, if_neg h0]
    by_cases h1 : p 64 16 = 0
    · rw [if_pos h1, if_pos h1]
    · rw [if_neg h1, if_neg h1]
/-- the cells that made 0 or 1 names, on the reference's side -/
def vw (p : mI) (m : Int32) : Nat → Int32 := if m = 1 then p 77 else p 76
theorem vw_1 (p : mI) : vw p 1 = p 77 := if_pos rfl
theorem vw_0 (p : mI) : vw p 0 = p 76 := if_neg (by decide)
/-- the copy's address that made 0 or 1 names -/
def cpx (b : Bool) (m : Int32) : Nat := if m = 1 then m_pM b else 4
theorem cpx_copy (b : Bool) (m : Int32) : isCopy b (cpx b m) := by
  unfold cpx
  by_cases h : m = 1
  · rw [if_pos h]; exact cp_M b
  · rw [if_neg h]; exact cp_t b
theorem cpx_cell (h : St p g b) {m : Int32} (hm : m = 0 ∨ (m = 1 ∧ ¬ p 64 16 = 0)) {t r c : Nat} (ht : t < nT p) (hr : r < nR p t) (hc : c < nC p t) : g (cpx b m + 1) (72 * t + 6 * r + c) = vw p m (72 * t + 6 * r + c) := by
  rcases hm with rfl | ⟨rfl, h1⟩
  · rw [vw_0]; exact h.e6 t ht r hr c hc
  · rw [vw_1]
    have h2 : p 64 16 = 1 := by rcases h.hm with z | z; exact absurd z h1; exact z
    exact h.e7 h2 t ht r hr c hc
theorem bit01 {m : Int32} (h : f_X6_isBit m = true) : m = 0 ∨ m = 1 := by
  unfold f_X6_isBit at h
  by_cases h0 : m = 0
  · exact Or.inl h0
  · rw [if_neg h0] at h
    by_cases h1 : m = 1
    · exact Or.inr h1
    · rw [if_neg h1] at h; cases h
theorem rOf_nI (h : St p g b) {t r : Nat} (ht : t < nT p) (hr : r < nR p t) : rOf p (nI t) (nI r) = some (t, r) := by
  unfold rOf
  rw [tOf_nI h ht]
  have := h.R ht
  show (ixOf (nI r) (nR p t)).map _ = _
  rw [ixOf_nI hr (by omega)]; rfl
theorem cOf_nI (h : St p g b) {t c : Nat} (ht : t < nT p) (hc : c < nC p t) : cOf p (nI t) (nI c) = some (t, c) := by
  unfold cOf
  rw [tOf_nI h ht]
  have := h.C ht
  show (ixOf (nI c) (nC p t)).map _ = _
  rw [ixOf_nI hc (by omega)]; rfl
theorem s_at (h : St p g b) (t r c m : Int32) : ∃ v, f_X6_at g b t r c m = some v ∧ f_X7_at g b t r c m = some v := by
  unfold f_X6_at f_X7_at
  rw [F_isRow h, F_columnAt h, F7_isColumn h, F7_isRow h, F_copyOf h, isBit_in]
  have hno : ∀ (X : Option Bool), (X.bind fun v4 => bif v4 then some (-2147483648 : Int32) else some (-2147483648)) = X.bind fun _ => some (-2147483648) := by
    intro X; cases X with
    | none => rfl
    | some z => cases z <;> rfl
  cases hb : f_X6_isBit m with
  | false =>
    refine ⟨-2147483648, rfl, ?_⟩
    simp only [Option.bind_some, cond_false]
    cases (cOf p t c).isSome <;> cases (rOf p t r).isSome <;> rfl
  | true =>
    simp only [Option.bind_some, cond_true]
    cases er : rOf p t r with
    | none =>
      refine ⟨-2147483648, rfl, ?_⟩
      cases (cOf p t c).isSome <;> rfl
    | some q =>
      cases ec : cOf p t c with
      | none => exact ⟨-2147483648, rfl, rfl⟩
      | some w =>
        obtain ⟨h1, h2, h3, h4, rfl, rfl⟩ := rOf_some h er
        obtain ⟨y1, y2, y3, y4, y5, rfl⟩ := cOf_some h ec
        have hq : w.1 = q.1 := (nI_inj (by omega) (by omega) y5).symm
        rw [hq] at y3
        have n3 : m_in (nI (72 * q.1 + 6 * q.2 + w.2)) 288 := m_inN (cell_in h2 h4 y4) (by decide)
        have d3 : (nI (72 * q.1 + 6 * q.2 + w.2)).toNatClampNeg = 72 * q.1 + 6 * q.2 + w.2 := nI_clamp (by omega)
        simp only [Option.isSome_some, Option.map_some, cond_true, m_oc, nI_cell, if_pos n3, d3, h.m 64 16 (mp_i _ (by decide)), h.m 76 _ (mp_i _ (by decide)), h.m 77 _ (mp_i _ (by decide))]
        rcases bit01 hb with rfl | rfl
        · refine ⟨p 76 (72 * q.1 + 6 * q.2 + w.2), ?_, ?_⟩
          · rw [if_pos rfl]
            show (if m_S0[4]? = some (.inl 1) then ((f_X1_read g b 4 (nI q.1) (nI q.2) (nI w.2)).bind fun v12 => some v12) else none) = _
            rw [if_pos s0_tr, F_read (cp_t b) h2 h4 y4, h.e6 q.1 h1 q.2 h3 w.2 y3]; rfl
          · rw [if_neg (show ¬ (0 : Int32) = 1 by decide), if_neg (show ¬ (0 : Int32) = 1 by decide)]
        · rw [if_neg (show ¬ (1 : Int32) = 0 by decide), if_pos rfl]
          by_cases hm : p 64 16 = 0
          · rw [if_pos hm, if_pos hm]
            exact ⟨-2147483648, rfl, rfl⟩
          · rw [if_neg hm, if_neg hm, if_pos rfl]
            refine ⟨p 77 (72 * q.1 + 6 * q.2 + w.2), ?_, rfl⟩
            show (if m_S0[m_pM b]? = some (.inl 1) then ((f_X1_read g b (m_pM b) (nI q.1) (nI q.2) (nI w.2)).bind fun v12 => some v12) else none) = _
            have hm1 : p 64 16 = 1 := by rcases h.hm with z | z; exact absurd z hm; exact z
            rw [if_pos (s0_pM b), F_read (cp_M b) h2 h4 y4, h.e7 hm1 q.1 h1 q.2 h3 w.2 y3]; rfl
/-- how many rows have v: summed -/
def cntf (f : Nat → Int32) (t c : Nat) (v : Int32) : Nat → Int32 := fun r => if f (72 * t + 6 * r + c) = v then 1 else 0
theorem rowsN_nI (h : St p g b) {t : Nat} (ht : t < nT p) : rowsN p (nI t) = nI (nR p t) := by
  unfold rowsN
  rw [tOf_nI h ht]; exact (h.R ht).1
theorem F_rowsWith (h : St p g b) {x : Nat} (hx : isCopy b x) {t c : Nat} (ht : t < nT p) (hc : c < 6) (v : Int32) : f_X6_rowsWith g b x (nI t) (nI c) v = some (sm (cntf (g (x + 1)) t c v) 0 (nR p t)) := by
  have hT := h.T.2
  have hR := (h.R ht).2
  have h4 : t < 4 := by omega
  unfold f_X6_rowsWith
  have key := loop_sum (lp := lp_X6_rowsWith_6 g b x (nI t) (nI c) v) (N := nR p t) (f := cntf (g (x + 1)) t c v) (fin := fun a => some a) ?_ ?_ (nR p t) 0 0 2000 (by omega) (by omega)
  · rw [show (0 : Int32) = nI 0 from rfl] at key ⊢
    rw [key]
    show some (0 + _) = some _
    rw [Int32.zero_add]
  · intro n acc
    rw [lp_X6_rowsWith_6, F_rowsOf h, rowsN_nI h ht]
    simp only [Option.bind_some, if_pos (Int32.le_refl _)]
  · intro n acc i hi
    rw [lp_X6_rowsWith_6, F_rowsOf h, rowsN_nI h ht]
    simp only [Option.bind_some, if_neg (nI_ge hi (by omega)), if_pos hx.1, F_read hx h4 (show i < 12 by omega) hc, nI_1]
    unfold cntf
    by_cases z : g (x + 1) (72 * t + 6 * i + c) = v
    · rw [if_pos z, if_pos z]
    · rw [if_neg z, if_neg z, Int32.add_zero]
end SM
