/-! ===== best: prepareSearch ===== -/
theorem mk_not : ∀ x, x < 64 → ∀ y, y < 64 → nI x &&& (nI y ^^^ (-1)) = nI (bsN (fun c => x.testBit c && !y.testBit c) 6) := by decide +kernel
section BB
variable {p g s : mI} {b : Bool}
/-- the known columns without widths -/
def knq (p : mI) (t kn : Nat) : Nat := bsN (fun c => kn.testBit c && !(bsN (co p t) (nC p t)).testBit c) 6
theorem knq_lt (p : mI) (t kn : Nat) : knq p t kn < 64 := bsN_lt _ 6
theorem knq_bit {t kn c : Nat} (hN : nC p t ≤ 6) (hc : c < nC p t) : (knq p t kn).testBit c = (kn.testBit c && !co p t c) := by
  unfold knq
  rw [bsN_bit, bsN_bit, decide_eq_true (show c < 6 by omega), decide_eq_true hc, Bool.true_and, Bool.true_and]
/-- the search stands ready -/
def Sr (p s : mI) (b : Bool) (kn t : Nat) : Prop := s 7 4 = nI (rk p t (nC p t)) ∧ s 7 5 = nI (nR p t) ∧ (∀ c, c < nC p t → co p t c = true → Sj p s kn t c (rk p t c)) ∧ ∀ r, r < nR p t → s 11 r = nI (bsN (cbB p (knq p t kn) t r) (nR p t))
theorem co_0 (h : St p g b) {t : Nat} (ht : t < nT p) : co p t 0 = false := by
  have hC := h.C ht
  obtain ⟨q1, q2, q3, q4⟩ := h.k2 ht (show 0 < nC p t by omega)
  have k0 : p 68 (6 * t + 0) = 0 := q1.mpr rfl
  refine decide_eq_false fun z => ?_
  rw [k0, z] at q4
  exact absurd (fits3 q4).2.2 (by decide)
theorem rk_le (h : St p g b) {t : Nat} (ht : t < nT p) : rk p t (nC p t) ≤ 5 := by
  have hC := h.C ht
  obtain ⟨n, en⟩ : ∃ n, nC p t = n + 1 := ⟨nC p t - 1, by omega⟩
  have := cnN_le1 (co_0 h ht) n
  unfold rk
  rw [en]; omega
theorem rk_lt {t c : Nat} (hc : c < nC p t) (z : co p t c = true) : rk p t c < rk p t (nC p t) := cnN_lt z hc
theorem Sj.to {s' : mI} {kn t c j : Nat} (h : Sj p s kn t c j) (hR : nR p t ≤ 12) (e8 : s' 8 j = s 8 j) (e9 : ∀ k, k < j * 4 + 4 → s' 9 k = s 9 k) (e10 : ∀ k, k < j * 48 + 48 → s' 10 k = s 10 k) : Sj p s' kn t c j := by
  refine ⟨e8.trans h.1, fun w hw => ⟨?_, fun r hr => ((h.2 w hw).2 r hr).to (e10 _ (by omega))⟩⟩
  rw [e9 _ (by omega)]; exact (h.2 w hw).1
theorem F_ps79 (h : St p s b) {t kn : Nat} (ht : t < nT p) (hk : kn < 64) (dr : drf p s (m_pD b + 1) t) (e5 : s 7 5 = nI (nR p t)) (k17 : Int32 → Int32 → mI → Option mI) : ∃ s', ((∀ a k, a ≠ 11 → s' a k = s a k) ∧ ∀ r, r < nR p t → s' 11 r = nI (bsN (cbB p (knq p t kn) t r) (nR p t))) ∧ lp_X6_prepareSearch_79 b (nI t) (nI kn) (nI (bsN (co p t) (nC p t))) k17 2000 (nI 0) s = some s' := by
  have hT := h.T.2
  have hC := h.C6 t ht
  have hR := (h.R ht).2
  have hD := pM_lt b
  have hm : bsN (co p t) (nC p t) < 64 := Nat.lt_of_lt_of_le (bsN_lt _ _) (Nat.pow_le_pow_right (n := 2) (by decide) hC)
  have hq := knq_lt p t kn
  have eq : nI kn &&& (nI (bsN (co p t) (nC p t)) ^^^ (-1)) = nI (knq p t kn) := mk_not kn hk _ hm
  refine loop_inv (lp := lp_X6_prepareSearch_79 b (nI t) (nI kn) (nI (bsN (co p t) (nC p t))) k17) (N := nR p t) (Inv := fun i s' => (∀ a k, a ≠ 11 → s' a k = s a k) ∧ ∀ r, r < i → s' 11 r = nI (bsN (cbB p (knq p t kn) t r) (nR p t))) (fin := fun s' => some s') ?_ ?_ (nR p t) 0 2000 s (by omega) (by omega) ⟨fun _ _ _ => rfl, fun r hr => by omega⟩
  · intro n s' hs
    have h' : St p s' b := h.congr fun a k ha => hs.1 a k (fun e => npS b (a := 11) (by decide) (by decide) (e ▸ ha))
    rw [lp_X6_prepareSearch_79, F_rowsOf h', rowsN_nI h' ht, Option.bind_some, if_pos (Int32.le_refl _)]
  · intro n i s' hi hs
    have h' : St p s' b := h.congr fun a k ha => hs.1 a k (fun e => npS b (a := 11) (by decide) (by decide) (e ▸ ha))
    have dr' : drf p s' (m_pD b + 1) t := fun r c hr hc => by rw [hs.1 _ _ (by omega)]; exact dr r c hr hc
    have e5' : s' 7 5 = nI (nR p t) := (hs.1 7 5 (by decide)).trans e5
    rw [lp_X6_prepareSearch_79, F_rowsOf h', rowsN_nI h' ht, Option.bind_some, if_neg (nI_ge hi (by omega)), eq, F_couldSet h' ht hi (by omega) dr', Option.bind_some, nI_1]
    unfold f_X5_setOthers
    rw [if_neg (nI_pos (by omega)), e5', if_neg (nI_ge hi (by omega)), if_pos (m_inN (by omega) (by decide)), nI_clamp (by omega)]
    refine ⟨_, ⟨fun a k ha => ?_, fun r hr => ?_⟩, rfl⟩
    · rw [m_up_o (Or.inl ha)]; exact hs.1 a k ha
    · by_cases y : r = i
      · subst y; exact m_up_eq _ _ _ _
      · rw [m_up_o (by omega)]; exact hs.2 r (by omega)
theorem F_prep (h : St p g b) {t kn : Nat} (ht : t < nT p) (hk : kn < 64) (dr : drf p g (m_pD b + 1) t) : ∃ s', f_X6_prepareSearch g b (nI t) (nI kn) = some s' ∧ (∀ a k, a < 7 ∨ 11 < a → s' a k = g a k) ∧ Sr p s' b kn t := by
  have hT := h.T.2
  have hC := h.C6 t ht
  have hR := (h.R ht).2
  have hD := pM_lt b
  unfold f_X6_prepareSearch f_X5_begin
  rw [F_rowsOf h, rowsN_nI h ht, Option.bind_some]
  simp only [m_let]
  rw [Option.bind_some, show (12 : Int32) = nI 12 from rfl, m_minN (by omega) (by omega), Nat.min_eq_left hR]
  obtain ⟨s1, hs1⟩ : ∃ s1, s1 = m_up (m_up g 7 4 0) 7 5 (nI (nR p t)) := ⟨_, rfl⟩
  rw [← hs1]
  have f1 : ∀ a k, a ≠ 7 → s1 a k = g a k := fun a k ha => by rw [hs1, m_up_o (by omega), m_up_o (by omega)]
  have f74 : s1 7 4 = nI 0 := by rw [hs1, m_up_o (by omega), m_up_eq]; rfl
  have f75 : s1 7 5 = nI (nR p t) := by rw [hs1, m_up_eq]
  have st : ∀ s', (∀ a k, a < 7 ∨ 11 ≤ a → s' a k = s1 a k) → St p s' b := fun s' q => h.congr fun a k ha => by
    by_cases y : 7 ≤ a ∧ a ≤ 11
    · exact absurd ha (npS b y.1 y.2)
    · rw [q a k (by omega)]; exact f1 a k (by omega)
  have main : ∀ (k c n : Nat) (s2 : mI), c + k = nC p t → k < n → (∀ a k, a < 7 ∨ 11 ≤ a → s2 a k = s1 a k) → s2 7 4 = nI (rk p t c) → s2 7 5 = nI (nR p t) → (∀ c', c' < c → co p t c' = true → Sj p s2 kn t c' (rk p t c')) → ∃ s', lp_X6_prepareSearch_17 b (nI t) (nI kn) n (nI (bsN (co p t) c)) (nI c) s2 = some s' ∧ (∀ a k, a < 7 ∨ 11 < a → s' a k = g a k) ∧ Sr p s' b kn t := by
    intro k
    induction k with
    | zero =>
      intro c n s2 h1 h2 q1 q2 q3 q4
      obtain ⟨m, rfl⟩ : ∃ m, n = m + 1 := ⟨n - 1, by omega⟩
      have ec : c = nC p t := by omega
      subst ec
      have h' := st s2 q1
      have dr' : drf p s2 (m_pD b + 1) t := fun r c hr hc => by rw [q1 _ _ (by omega), f1 _ _ (by omega)]; exact dr r c hr hc
      obtain ⟨s', ⟨w1, w2⟩, w3⟩ := F_ps79 h' ht hk dr' q3 (fun y17_3 y17_4 g17 => lp_X6_prepareSearch_17 b (nI t) (nI kn) m y17_3 y17_4 g17)
      refine ⟨s', ?_, fun a k ha => ?_, ?_, ?_, fun c hc hz => (q4 c hc hz).to hR ?_ (fun k _ => ?_) (fun k _ => ?_), w2⟩
      · rw [lp_X6_prepareSearch_17, F_columnsOf h', colsN_nI h' ht, Option.bind_some, if_pos (Int32.le_refl _), show (0 : Int32) = nI 0 from rfl]
        exact w3
      · rw [w1 a k (by omega), q1 a k (by omega)]; exact f1 a k (by omega)
      · rw [w1 _ _ (by decide)]; exact q2
      · rw [w1 _ _ (by decide)]; exact q3
      · rw [w1 _ _ (by decide)]
      · rw [w1 _ _ (by decide)]
      · rw [w1 _ _ (by decide)]
    | succ k ih =>
      intro c n s2 h1 h2 q1 q2 q3 q4
      obtain ⟨m, rfl⟩ : ∃ m, n = m + 1 := ⟨n - 1, by omega⟩
      have hc : c < nC p t := by omega
      have h' := st s2 q1
      have ec : s2 (20 + 10 * t + c) 2 = p 70 (6 * t + c) := h'.col ht hc (j := 2) (by decide)
      have hrk : rk p t c ≤ c := cnN_le _ _
      rw [lp_X6_prepareSearch_17, F_columnsOf h', colsN_nI h' ht, Option.bind_some, if_neg (nI_ge hc (by omega)), F_columnAt h', cOf_nI h' ht hc, Option.bind_some, Option.map_some]
      simp only [m_oc]
      rw [if_pos (s0_col t (by omega) c (by omega)), ec, hasBitN (by omega) (by omega), nI_1]
      by_cases z : p 70 (6 * t + c) = 3
      · have zc : co p t c = true := decide_eq_true z
        have er : rk p t (c + 1) = rk p t c + 1 := by
          show cnN (co p t) c + (bif co p t c then 1 else 0) = _
          rw [zc]; rfl
        rw [if_pos z, bsN_or (co p t) c (by omega) zc]
        obtain ⟨s3, w1, w2, w3, w4, w5, w6, w7, w8⟩ := F_offer h' (kn := kn) ht hc (show rk p t c < 6 by omega) q2 q3 rfl
        rw [w1, Option.bind_some]
        refine ih (c + 1) m s3 (by omega) (by omega) (fun a k ha => (w2 a k ha).trans (q1 a k ha)) (by rw [er]; exact w3) w4 (fun c' hc' hz => ?_)
        by_cases y : c' = c
        · subst y; exact w8
        · have hl : rk p t c' < rk p t c := cnN_lt hz (by omega)
          exact (q4 c' (by omega) hz).to hR (w5 _ (by omega)) (fun k hk => w6 k (by omega)) (fun k hk => w7 k (by omega))
      · have zc : co p t c = false := decide_eq_false z
        have er : rk p t (c + 1) = rk p t c := by
          show cnN (co p t) c + (bif co p t c then 1 else 0) = _
          rw [zc]; rfl
        rw [if_neg z]
        have hh := ih (c + 1) m s2 (by omega) (by omega) q1 (by rw [er]; exact q2) q3 (fun c' hc' hz => ?_)
        · rw [bsN_skip _ c zc] at hh; exact hh
        · by_cases y : c' = c
          · subst y; rw [zc] at hz; cases hz
          · exact q4 c' (by omega) hz
  have fin := main (nC p t) 0 2000 s1 (by omega) (by omega) (fun _ _ _ => rfl) f74 f75 (fun c' hc' => by omega)
  rw [show (0 : Int32) = nI 0 from rfl]
  exact fin
end BB
