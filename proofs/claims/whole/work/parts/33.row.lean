/-! ===== row ===== -/
def al (f : Nat → Bool) : Nat → Nat → Bool
  | _, 0 => true
  | i, k + 1 => bif f i then al f (i + 1) k else false
theorem al_t {f : Nat → Bool} : ∀ (k i : Nat), al f i k = true → ∀ j, i ≤ j → j < i + k → f j = true
  | 0, i, _, j, h1, h2 => by omega
  | k + 1, i, h, j, h1, h2 => by
    cases e : f i with
    | false =>
      have h' : (bif f i then al f (i + 1) k else false) = true := h
      rw [e] at h'; cases h'
    | true =>
      have h' : (bif f i then al f (i + 1) k else false) = true := h
      rw [e] at h'
      by_cases z : j = i
      · rw [z]; exact e
      · exact al_t k (i + 1) h' j (by omega) (by omega)
theorem al_i {f : Nat → Bool} : ∀ (k i : Nat), (∀ j, i ≤ j → j < i + k → f j = true) → al f i k = true
  | 0, _, _ => rfl
  | k + 1, i, h => by
    show (bif f i then al f (i + 1) k else false) = true
    rw [h i (by omega) (by omega)]
    exact al_i k (i + 1) (fun j h1 h2 => h j (by omega) (by omega))
theorem al_congr {f f' : Nat → Bool} (k i : Nat) (h : ∀ j, i ≤ j → j < i + k → f j = f' j) : al f i k = al f' i k := by
  cases e : al f' i k with
  | true => exact al_i k i (fun j h1 h2 => (h j h1 h2).trans (al_t k i e j h1 h2))
  | false =>
    cases e2 : al f i k with
    | false => rfl
    | true =>
      have : al f' i k = true := al_i k i (fun j h1 h2 => (h j h1 h2).symm.trans (al_t k i e2 j h1 h2))
      rw [e] at this; cases this
theorem loop_all {R : Type} {lp : Nat → Int32 → Option R} {N : Nat} {f : Nat → Bool} {fin bad : Option R} (hd : ∀ n, lp (n + 1) (nI N) = fin) (hs : ∀ n i, i < N → lp (n + 1) (nI i) = bif f i then lp n (nI (i + 1)) else bad) : ∀ (k i n : Nat), i + k = N → k < n → lp n (nI i) = bif al f i k then fin else bad
  | 0, i, n, h1, h2 => by
    obtain ⟨m, rfl⟩ : ∃ m, n = m + 1 := ⟨n - 1, by omega⟩
    rw [show i = N by omega, hd]; rfl
  | k + 1, i, n, h1, h2 => by
    obtain ⟨m, rfl⟩ : ∃ m, n = m + 1 := ⟨n - 1, by omega⟩
    rw [hs m i (by omega)]
    show _ = bif (bif f i then al f (i + 1) k else false) then fin else bad
    cases f i with
    | false => rfl
    | true => exact loop_all hd hs k (i + 1) m (by omega) (by omega)
/-- a count of rows is nought where no row counts -/
theorem sm_cnt {f : Nat → Int32} {q : Nat → Bool} (hf : ∀ j, f j = if q j = true then 0 else 1) : ∀ (k i : Nat), k < 1000 → ∃ m, m ≤ k ∧ sm f i k = nI m ∧ (m = 0 ↔ al q i k = true)
  | 0, _, _ => ⟨0, Nat.le_refl _, rfl, ⟨fun _ => rfl, fun _ => rfl⟩⟩
  | k + 1, i, hk => by
    obtain ⟨m, h1, h2, h3⟩ := sm_cnt hf k (i + 1) (by omega)
    have e : sm f i (k + 1) = f i + sm f (i + 1) k := rfl
    have e2 : al q i (k + 1) = bif q i then al q (i + 1) k else false := rfl
    rw [e, e2, hf, h2]
    cases q i with
    | true => exact ⟨m, by omega, by rw [if_pos rfl, Int32.zero_add], h3⟩
    | false =>
      refine ⟨m + 1, by omega, ?_, ?_⟩
      · rw [if_neg (by decide), Int32.add_comm, nI_1]
      · constructor
        · intro z; omega
        · intro z; cases z
/-- a block of cells written -/
def bw (g : mI) (a base n : Nat) (f : Nat → Int32) : mI := fun a' k => if a' = a ∧ base ≤ k ∧ k < base + n then f (k - base) else g a' k
theorem bw_o {g : mI} {a base n a' k : Nat} {f : Nat → Int32} (h : a' ≠ a ∨ k < base ∨ base + n ≤ k) : bw g a base n f a' k = g a' k := by
  unfold bw
  rw [if_neg (fun q => by omega)]
theorem bw_i {g : mI} {a base n j : Nat} {f : Nat → Int32} (h : j < n) : bw g a base n f a (base + j) = f j := by
  unfold bw
  rw [if_pos ⟨rfl, by omega, by omega⟩, show base + j - base = j by omega]
theorem bw_up (g : mI) (a base i : Nat) (f : Nat → Int32) : m_up (bw g a base i f) a (base + i) (f i) = bw g a base (i + 1) f := by
  funext a' k
  rw [m_up_at]
  unfold bw
  by_cases h1 : a' = a
  · subst h1
    by_cases h2 : k = base + i
    · subst h2
      rw [if_pos ⟨rfl, rfl⟩, if_pos ⟨rfl, by omega, by omega⟩, show base + i - base = i by omega]
    · rw [if_neg (fun q => h2 q.2)]
      by_cases h3 : base ≤ k ∧ k < base + i
      · rw [if_pos ⟨rfl, h3⟩, if_pos ⟨rfl, by omega, by omega⟩]
      · rw [if_neg (fun q => h3 q.2), if_neg (fun q => by omega)]
  · rw [if_neg (fun q => h1 q.1), if_neg (fun q => h1 q.1), if_neg (fun q => h1 q.1)]
theorem bw_0 (g : mI) (a base : Nat) (f : Nat → Int32) : bw g a base 0 f = g := by
  funext a' k
  unfold bw
  rw [if_neg (fun q => by omega)]
def rwP (t R n : Nat) (f : Nat → Int32) (p : mI) : mI := m_up (m_up (m_up (bw p 76 (72 * t + 6 * R) n f) 66 t (nI (R + 1))) 64 19 0) 64 16 0
def rwC (t R n : Nat) (f : Nat → Int32) (g : mI) : mI := m_up (m_up (m_up (bw g 5 (72 * t + 6 * R) n f) (16 + 10 * t) 4 (nI (R + 1))) 0 10 0) 0 12 0
theorem rwP_o {t R n : Nat} {f : Nat → Int32} {p : mI} {a k : Nat} (h1 : a ≠ 76 ∨ k < 72 * t + 6 * R ∨ 72 * t + 6 * R + n ≤ k) (h2 : a ≠ 66 ∨ k ≠ t) (h3 : a ≠ 64 ∨ (k ≠ 19 ∧ k ≠ 16)) : rwP t R n f p a k = p a k := by
  unfold rwP
  rw [m_up_o (by omega), m_up_o (by omega), m_up_o (by omega), bw_o (by omega)]
theorem rwC_o {t R n : Nat} {f : Nat → Int32} {g : mI} {a k : Nat} (h1 : a ≠ 5 ∨ k < 72 * t + 6 * R ∨ 72 * t + 6 * R + n ≤ k) (h2 : a ≠ 16 + 10 * t ∨ k ≠ 4) (h3 : a ≠ 0 ∨ (k ≠ 10 ∧ k ≠ 12)) : rwC t R n f g a k = g a k := by
  unfold rwC
  rw [m_up_o (by omega), m_up_o (by omega), m_up_o (by omega), bw_o (by omega)]
section RW
variable {p g : mI} {b : Bool}
theorem rwP_v {t R n : Nat} {f : Nat → Int32} : rwP t R n f p 66 t = nI (R + 1) ∧ rwP t R n f p 64 19 = 0 ∧ rwP t R n f p 64 16 = 0 ∧ ∀ j, j < n → rwP t R n f p 76 (72 * t + 6 * R + j) = f j := by
  unfold rwP
  refine ⟨?_, ?_, ?_, fun j hj => ?_⟩
  · rw [m_up_o (by omega), m_up_o (by omega), m_up_eq]
  · rw [m_up_o (by omega), m_up_eq]
  · rw [m_up_eq]
  · rw [m_up_o (by omega), m_up_o (by omega), m_up_o (by omega), bw_i hj]
theorem rwC_v {t R n : Nat} {f : Nat → Int32} : rwC t R n f g (16 + 10 * t) 4 = nI (R + 1) ∧ rwC t R n f g 0 10 = 0 ∧ rwC t R n f g 0 12 = 0 ∧ ∀ j, j < n → rwC t R n f g 5 (72 * t + 6 * R + j) = f j := by
  unfold rwC
  refine ⟨?_, ?_, ?_, fun j hj => ?_⟩
  · rw [m_up_o (by omega), m_up_o (by omega), m_up_eq]
  · rw [m_up_o (by omega), m_up_eq]
  · rw [m_up_eq]
  · rw [m_up_o (by omega), m_up_o (by omega), m_up_o (by omega), bw_i hj]
theorem St.row (h : St p g b) {t : Nat} (ht : t < nT p) (hR : nR p t < 12) (hfit : ∀ c, c < nC p t → f_X7_isOf (p 68 (6 * t + c)) (p 79 c) = true) (hkey : ∀ r, r < nR p t → p 76 (72 * t + 6 * r) ≠ p 79 0) : St (rwP t (nR p t) (nC p t) (p 79) p) (rwP t (nR p t) (nC p t) (p 79) (rwC t (nR p t) (nC p t) (p 79) g)) b := by
  obtain ⟨hM, ⟨i1, i2, i3, i4, i5, i6⟩, ⟨e1, e2, e3, e4, e5, e6, e7, e8⟩, df⟩ := id h
  have hC := h.C6
  have hT := h.T.2
  have hU := h.U.2
  have hn6 := hC t ht
  have hn1 := (h.C ht).2.1
  obtain ⟨R, hRe⟩ : ∃ R, R = nR p t := ⟨_, rfl⟩
  obtain ⟨n, hne⟩ : ∃ n, n = nC p t := ⟨_, rfl⟩
  rw [← hRe] at hR hkey ⊢
  rw [← hne] at hfit hn6 hn1 ⊢
  obtain ⟨v66, v19, v16, v76⟩ := rwP_v (p := p) (t := t) (R := R) (n := n) (f := p 79)
  obtain ⟨c4, c10, c12, c5⟩ := rwC_v (g := g) (t := t) (R := R) (n := n) (f := p 79)
  obtain ⟨P, hP⟩ : ∃ P, P = rwP t R n (p 79) p := ⟨_, rfl⟩
  have oP : ∀ {a k : Nat}, (a ≠ 76 ∨ k < 72 * t + 6 * R ∨ 72 * t + 6 * R + n ≤ k) → (a ≠ 66 ∨ k ≠ t) → (a ≠ 64 ∨ (k ≠ 19 ∧ k ≠ 16)) → P a k = p a k := fun h1 h2 h3 => by rw [hP]; exact rwP_o h1 h2 h3
  obtain ⟨G, hG⟩ : ∃ G, G = rwP t R n (p 79) (rwC t R n (p 79) g) := ⟨_, rfl⟩
  have oG : ∀ {a k : Nat}, a < 64 → (a ≠ 5 ∨ k < 72 * t + 6 * R ∨ 72 * t + 6 * R + n ≤ k) → (a ≠ 16 + 10 * t ∨ k ≠ 4) → (a ≠ 0 ∨ (k ≠ 10 ∧ k ≠ 12)) → G a k = g a k := fun h0 h1 h2 h3 => by rw [hG, rwP_o (by omega) (by omega) (by omega)]; exact rwC_o h1 h2 h3
  have cG : ∀ {a k : Nat}, a < 64 → G a k = rwC t R n (p 79) g a k := fun h0 => by rw [hG, rwP_o (by omega) (by omega) (by omega)]
  rw [← hP] at v66 v19 v16 v76
  have oT : nT P = nT p := by unfold nT; rw [oP (by omega) (by omega) (by omega)]
  have oC : ∀ s, nC P s = nC p s := fun s => by unfold nC; rw [oP (by omega) (by omega) (by omega)]
  have oO : ∀ s, nO P s = nO p s := fun s => by unfold nO; rw [oP (by omega) (by omega) (by omega)]
  have oU : nU P = nU p := by unfold nU; rw [oP (by omega) (by omega) (by omega)]
  have oR : ∀ s, s ≠ t → nR P s = nR p s := fun s hs => by unfold nR; rw [oP (by omega) (by omega) (by omega)]
  have nRt : nR P t = R + 1 := by unfold nR; rw [v66]; exact nI_clamp (by omega)
  have nW0 : nW P = 0 := by unfold nW; rw [v19]; rfl
  rw [← hP, ← hG]
  refine ⟨?_, ⟨?_, ?_, ?_, ?_, ?_, I6.z v16⟩, ⟨?_, ?_, ?_, ?_, ?_, ?_, E7.z v16, ?_⟩, ?_⟩
  · intro a k ha
    have hg : rwC t R n (p 79) g a k = p a k := by
      obtain ⟨q1, q2, q3⟩ := id ha
      rw [rwC_o (by omega) (by omega) (by omega)]; exact hM a k ha
    rw [hG, hP]
    unfold rwP bw
    simp only [m_up_at, hg]
  · unfold I1
    rw [oT]
    refine ⟨?_, fun s hs => ?_, fun s hs => ?_, fun s hs => ?_⟩
    · rw [oP (by omega) (by omega) (by omega)]; exact i1.1
    · rw [oC, oP (by omega) (by omega) (by omega)]; exact i1.2.1 s hs
    · by_cases z : s = t
      · subst z; rw [nRt, v66]; exact ⟨rfl, by omega⟩
      · rw [oR s z, oP (by omega) (by omega) (by omega)]; exact i1.2.2.1 s hs
    · rw [oC, oO, oP (by omega) (by omega) (by omega), oP (by omega) (by omega) (by omega)]; exact i1.2.2.2 s hs
  · intro s hs c hc
    rw [oT] at hs ⊢
    rw [oC] at hc
    rw [oP (by omega) (by omega) (by omega), oP (by omega) (by omega) (by omega), oP (by omega) (by omega) (by omega), oP (by omega) (by omega) (by omega)]
    exact i2 s hs c hc
  · unfold I3
    rw [oT, v16, v19, nW0, oU, oP (a := 64) (k := 13) (by omega) (by omega) (by omega), oP (a := 64) (k := 20) (by omega) (by omega) (by omega)]
    refine ⟨fun s hs i h1 h2 => ?_, i3.2.1, Or.inl rfl, ⟨rfl, by omega⟩, i3.2.2.2.2⟩
    rw [oP (by omega) (by omega) (by omega), oP (by omega) (by omega) (by omega)]
    exact i3.1 s hs i h1 h2
  · unfold I4
    rw [oT]
    have hold : ∀ s, s < nT p → ∀ r, r < nR p s → ∀ c, c < 6 → P 76 (72 * s + 6 * r + c) = p 76 (72 * s + 6 * r + c) := by
      intro s hs r hr c hc
      have := (h.R hs).2
      apply oP ?_ (by omega) (by omega)
      by_cases z : s = t
      · subst z; omega
      · omega
    refine ⟨fun s hs r hr c hc => ?_, fun s hs r hr r' hr' => ?_⟩
    · rw [oC] at hc
      rw [oP (a := 68) (by omega) (by omega) (by omega)]
      have := hC s hs
      by_cases z : s = t
      · subst z
        rw [nRt] at hr
        by_cases z2 : r = R
        · subst z2; rw [v76 c (by omega)]; exact hfit c (by omega)
        · rw [hold s hs r (by omega) c (by omega)]; exact i4.1 s hs r (by omega) c hc
      · rw [oR s z] at hr
        rw [hold s hs r hr c (by omega)]; exact i4.1 s hs r hr c hc
    · by_cases z : s = t
      · subst z
        rw [nRt] at hr hr'
        have k0 := v76 0 (by omega)
        by_cases z2 : r = R
        · by_cases z3 : r' = R
          · intro _; omega
          · have k1 := hold s hs r' (by omega) 0 (by omega)
            intro q
            rw [z2] at q
            exact absurd ((k1.symm.trans q.symm).trans k0) (hkey r' (by omega))
        · have k1 := hold s hs r (by omega) 0 (by omega)
          by_cases z3 : r' = R
          · intro q
            rw [z3] at q
            exact absurd ((k1.symm.trans q).trans k0) (hkey r (by omega))
          · have k2 := hold s hs r' (by omega) 0 (by omega)
            intro q
            exact i4.2 s hs r (by omega) r' (by omega) ((k1.symm.trans q).trans k2)
      · rw [oR s z] at hr hr'
        intro q
        exact i4.2 s hs r hr r' hr' (((hold s hs r hr 0 (by omega)).symm.trans q).trans (hold s hs r' hr' 0 (by omega)))
  · intro j hj
    rw [oU] at hj
    refine (i5 j hj).mono (by omega) (fun s hs => by rw [oC]; exact Nat.le_refl _) (fun s hs c hc => ?_) (fun a h1 h2 => oP (by omega) (by omega) (by omega))
    exact ⟨oP (by omega) (by omega) (by omega), oP (by omega) (by omega) (by omega)⟩
  · obtain ⟨a1, a2, a3, a4, a5⟩ := e1
    refine ⟨?_, ?_, ?_, ?_, ?_⟩
    · rw [oG (by omega) (by omega) (by omega) (by omega), oP (by omega) (by omega) (by omega)]; exact a1
    · rw [oG (by omega) (by omega) (by omega) (by omega), oP (by omega) (by omega) (by omega)]; exact a2
    · rw [cG (by omega), c10, v19]
    · rw [oG (by omega) (by omega) (by omega) (by omega), oP (by omega) (by omega) (by omega)]; exact a4
    · rw [cG (by omega), c12, v16]
  · intro s hs
    rw [oT] at hs
    refine ⟨?_, ?_, ?_⟩
    · rw [oG (by omega) (by omega) (by omega) (by omega), oP (by omega) (by omega) (by omega)]; exact (e2 s hs).1
    · by_cases z : s = t
      · subst z; rw [cG (by omega), c4, v66]
      · rw [oG (by omega) (by omega) (by omega) (by omega), oP (by omega) (by omega) (by omega)]; exact (e2 s hs).2.1
    · rw [oG (by omega) (by omega) (by omega) (by omega), oP (by omega) (by omega) (by omega)]; exact (e2 s hs).2.2
  · intro s hs c hc j hj
    rw [oT] at hs
    rw [oC] at hc
    have := hC s hs
    rw [oG (by omega) (by omega) (by omega) (by omega), oP (by omega) (by omega) (by omega)]; exact e3 s hs c hc j hj
  · intro s hs i h1 h2
    rw [oT] at hs
    rw [oG (by omega) (by omega) (by omega) (by omega), oG (by omega) (by omega) (by omega) (by omega), oP (by omega) (by omega) (by omega), oP (by omega) (by omega) (by omega)]; exact e4 s hs i h1 h2
  · intro i hi
    rw [nW0] at hi; omega
  · intro s hs r hr c hc
    rw [oT] at hs
    rw [oC] at hc
    have := hC s hs
    by_cases z : s = t
    · subst z
      rw [nRt] at hr
      by_cases z2 : r = R
      · subst z2; rw [cG (by omega), c5 c (by omega), v76 c (by omega)]
      · rw [oG (by omega) (by omega) (by omega) (by omega), oP (by omega) (by omega) (by omega)]; exact e6 s hs r (by omega) c hc
    · rw [oR s z] at hr
      have := (h.R hs).2
      rw [oG (by omega) (by omega) (by omega) (by omega), oP (by omega) (by omega) (by omega)]; exact e6 s hs r hr c hc
  · intro j hj
    rw [oU] at hj
    have q : ∀ i, G (56 + j) i = g (56 + j) i := fun i => oG (by omega) (by omega) (by omega) (by omega)
    rw [q, q, q, q, q, q, q, oP (by omega) (by omega) (by omega), oP (by omega) (by omega) (by omega), oP (by omega) (by omega) (by omega), oP (by omega) (by omega) (by omega), oP (by omega) (by omega) (by omega), oP (by omega) (by omega) (by omega), oP (by omega) (by omega) (by omega)]
    exact e8 j hj
  · have d1 : Df p G := by
      intro s hs
      refine ⟨fun q => ⟨?_, fun i hi => ?_⟩, fun c hc q => ?_⟩
      · rw [oG (by omega) (by omega) (by omega) (by omega), oG (by omega) (by omega) (by omega) (by omega), oG (by omega) (by omega) (by omega) (by omega), oG (by omega) (by omega) (by omega) (by omega), oG (by omega) (by omega) (by omega) (by omega)]
        exact ((df s hs).1 q).1
      · rw [oG (by omega) (by omega) (by omega) (by omega), oG (by omega) (by omega) (by omega) (by omega)]
        exact ((df s hs).1 q).2 i hi
      · rw [oG (by omega) (by omega) (by omega) (by omega), oG (by omega) (by omega) (by omega) (by omega), oG (by omega) (by omega) (by omega) (by omega), oG (by omega) (by omega) (by omega) (by omega)]
        exact (df s hs).2 c hc q
    exact d1.q oT (fun s _ => oC s)
end RW
