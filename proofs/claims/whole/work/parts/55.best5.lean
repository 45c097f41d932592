/-! ===== best: the reference ===== -/
theorem width_wid : ∀ w, w < 4 → f_X7_width (nI w) = m_wid w := by decide
theorem sm_nn {f : Nat → Int32} {B : Nat} : ∀ (k i : Nat), (∀ j, i ≤ j → j < i + k → 0 ≤ (f j).toInt ∧ (f j).toInt ≤ B) → k * B < 2147483648 → 0 ≤ (sm f i k).toInt ∧ (sm f i k).toInt ≤ ((k * B : Nat) : Int)
  | 0, _, _, _ => by
    show 0 ≤ (0 : Int32).toInt ∧ (0 : Int32).toInt ≤ ((0 * B : Nat) : Int)
    rw [Nat.zero_mul]; decide
  | k + 1, i, q, hb => by
    have hb' : k * B + B < 2147483648 := by rw [← Nat.succ_mul]; exact hb
    have h1 := q i (by omega) (by omega)
    have h2 := sm_nn (f := f) (B := B) k (i + 1) (fun j h1 h2 => q j (by omega) (by omega)) (by omega)
    show 0 ≤ (f i + sm f (i + 1) k).toInt ∧ (f i + sm f (i + 1) k).toInt ≤ (((k + 1) * B : Nat) : Int)
    rw [Nat.succ_mul, tI_add (by omega) (by omega)]
    omega
section BF
variable {p g g1 s : mI} {b : Bool} {t : Nat}
theorem Lw_b (h : St p g b) {c w : Nat} (ht : t < nT p) (hw : w < 4) : 0 ≤ (Lw p t c w).toInt ∧ (Lw p t c w).toInt ≤ 12000 := by
  have hR := (h.R ht).2
  have hb := m_wid_b w hw
  have h1000 : (m_wid w).toInt ≤ 1000 := Int32.le_iff_toInt_le.mp hb.2
  have q := sm_nn (f := lsf p t c (m_wid w)) (B := 1000) (nR p t) 0 (fun r _ _ => by
    unfold lsf
    by_cases z : p 76 (72 * t + 6 * r + c) = (-2147483648)
    · rw [if_pos z]; decide
    · rw [if_neg z]
      have := fmod_b (p 76 (72 * t + 6 * r + c)) hb.1
      omega) (by omega)
  unfold Lw
  omega
theorem LSW_b (h : St p g b) {way : Nat} (ht : t < nT p) (hK : kK p t ≤ 5) : ¬ LSW p t way = -1 := by
  have q := sm_nn (f := fL p t way) (B := 12000) (kK p t) 0 (fun j _ _ => Lw_b h ht (dj_lt _ _ _ _)) (by omega)
  intro z
  unfold LSW at z
  rw [z] at q
  exact absurd q.1 (by decide)
/-- the places of a table's widths -/
def ixW (p : mI) (t k : Nat) : Prop := 6 * t ≤ k ∧ k < 6 * t + nC p t ∧ co p t (k - 6 * t) = true
theorem ixW_c {c : Nat} : ixW p t (6 * t + c) ↔ c < nC p t ∧ co p t c = true := by
  unfold ixW
  rw [show 6 * t + c - 6 * t = c by omega]
  constructor
  · rintro ⟨-, q2, q3⟩; exact ⟨by omega, q3⟩
  · rintro ⟨q2, q3⟩; exact ⟨by omega, by omega, q3⟩
theorem F_gives (h : St p g b) (ht : t < nT p) (hK : kK p t ≤ 5) {way : Nat} (hw : way < 1024) {s : mI} (f70 : ∀ k, s 70 k = p 70 k) (f65 : s 65 t = p 65 t) (f66 : s 66 t = p 66 t) (f76 : ∀ k, s 76 k = p 76 k) (a3 : Int32) : ∃ s', f_X7_gives s (nI t) (nI way) a3 = some (LSW p t way, s') ∧ (∀ a k, a ≠ 71 → s' a k = s a k) ∧ (∀ k, ¬ ixW p t k → s' 71 k = s 71 k) ∧ ∀ c, c < nC p t → co p t c = true → s' 71 (6 * t + c) = m_wid (dj p t way (rk p t c)) := by
  have hT := h.T.2
  have hC := h.C ht
  have hR := h.R ht
  unfold f_X7_gives
  rw [if_pos (m_inN (show t < 4 by omega) (by decide)), nI_clamp (by omega), f65, hC.1, Int32.sub_eq_add_neg]
  have main : ∀ (m n : Nat) (s2 : mI), m ≤ nC p t → m < n → (∀ a k, a ≠ 71 → s2 a k = s a k) → (∀ k, ¬ ixW p t k → s2 71 k = s 71 k) → (∀ c, m ≤ c → c < nC p t → co p t c = true → s2 71 (6 * t + c) = m_wid (dj p t way (rk p t c))) → ∃ s', lp_X7_gives_16 (nI t) (nI way) a3 n (nI (way / 4 ^ (kK p t - rk p t m))) (sm (fL p t way) (rk p t m) (kK p t - rk p t m)) (nI m + (-1)) s2 = some (LSW p t way, s') ∧ (∀ a k, a ≠ 71 → s' a k = s a k) ∧ (∀ k, ¬ ixW p t k → s' 71 k = s 71 k) ∧ ∀ c, c < nC p t → co p t c = true → s' 71 (6 * t + c) = m_wid (dj p t way (rk p t c)) := by
    intro m
    induction m with
    | zero =>
      intro n s2 h1 h2 q1 q2 q3
      obtain ⟨n', rfl⟩ : ∃ n', n = n' + 1 := ⟨n - 1, by omega⟩
      refine ⟨s2, ?_, q1, q2, fun c hc z => q3 c (by omega) hc z⟩
      rw [lp_X7_gives_16, if_pos (show nI 0 + (-1) < 0 by decide)]
      rfl
    | succ c ih =>
      intro n s2 h1 h2 q1 q2 q3
      obtain ⟨n', rfl⟩ : ∃ n', n = n' + 1 := ⟨n - 1, by omega⟩
      have hc : c < nC p t := by omega
      have n4 : m_in (nI (6 * t + c)) 24 := m_inN (by omega) (by decide)
      have d4 : (nI (6 * t + c)).toNatClampNeg = 6 * t + c := nI_clamp (by omega)
      rw [pk_m1, lp_X7_gives_16, if_neg (nI_pos (by omega)), nI_6tc, if_pos n4, d4, q1 70 _ (by decide), f70]
      by_cases z : p 70 (6 * t + c) = 3
      · have zc : co p t c = true := decide_eq_true z
        have er : rk p t (c + 1) = rk p t c + 1 := by
          show cnN (co p t) c + (bif co p t c then 1 else 0) = _
          rw [zc]; rfl
        have hl : rk p t c < kK p t := rk_lt hc zc
        have ed : way / 4 ^ (kK p t - rk p t (c + 1)) % 4 = dj p t way (rk p t c) := by
          unfold dj
          rw [er, show kK p t - (rk p t c + 1) = kK p t - 1 - rk p t c by omega]
        have ed2 : way / 4 ^ (kK p t - rk p t (c + 1)) / 4 = way / 4 ^ (kK p t - rk p t c) := by
          rw [Nat.div_div_eq_div_mul, ← Nat.pow_succ, er, show (kK p t - (rk p t c + 1)).succ = kK p t - rk p t c by omega]
        have hdv := Nat.div_le_self way (4 ^ (kK p t - rk p t (c + 1)))
        rw [if_pos z, show (4 : Int32) = nI 4 from rfl, m_remN (by omega) (by decide) (by decide), pk_div (by omega) (by decide) (by decide), ed, ed2, width_wid _ (dj_lt _ _ _ _)]
        simp only [m_let]
        obtain ⟨s3, hs3⟩ : ∃ s3, s3 = m_up s2 71 (6 * t + c) (m_wid (dj p t way (rk p t c))) := ⟨_, rfl⟩
        rw [← hs3]
        have o3 : ∀ a k, a ≠ 71 → s3 a k = s a k := fun a k ha => by rw [hs3, m_up_o (Or.inl ha)]; exact q1 a k ha
        rw [F_lossOf h ht hc (m_wid_b _ (dj_lt p t way (rk p t c))).1 (by rw [o3 66 _ (by decide), f66]) (fun k => by rw [o3 76 _ (by decide), f76]) (by rw [hs3, m_up_eq]), Option.bind_some]
        have es : sm (fL p t way) (rk p t (c + 1)) (kK p t - rk p t (c + 1)) + sm (lsf p t c (m_wid (dj p t way (rk p t c)))) 0 (nR p t) = sm (fL p t way) (rk p t c) (kK p t - rk p t c) := by
          obtain ⟨d, ed⟩ : ∃ d, kK p t - rk p t c = d + 1 := ⟨kK p t - rk p t c - 1, by omega⟩
          rw [ed, er, show kK p t - (rk p t c + 1) = d by omega, Int32.add_comm]
          have ecj : cj p t (rk p t c) = c := cjF_rk hc zc
          have ef : fL p t way (rk p t c) = sm (lsf p t c (m_wid (dj p t way (rk p t c)))) 0 (nR p t) := by
            unfold fL Lw
            rw [ecj]
          rw [← ef]; rfl
        rw [es]
        refine ih n' s3 (by omega) (by omega) o3 (fun k hk => ?_) (fun c' h3 h4 h5 => ?_)
        · have : k ≠ 6 * t + c := fun e => hk (by rw [e]; exact ixW_c.mpr ⟨hc, zc⟩)
          rw [hs3, m_up_o (Or.inr this)]; exact q2 k hk
        · by_cases y : c' = c
          · subst y; rw [hs3, m_up_eq]
          · rw [hs3, m_up_o (by omega)]; exact q3 c' (by omega) h4 h5
      · have zc : co p t c = false := decide_eq_false z
        have er : rk p t (c + 1) = rk p t c := by
          show cnN (co p t) c + (bif co p t c then 1 else 0) = _
          rw [zc]; rfl
        rw [if_neg z, er]
        refine ih n' s2 (by omega) (by omega) q1 q2 (fun c' h3 h4 h5 => ?_)
        by_cases y : c' = c
        · subst y; rw [zc] at h5; cases h5
        · exact q3 c' (by omega) h4 h5
  have fin := main (nC p t) 2000 s (Nat.le_refl _) (by omega) (fun _ _ _ => rfl) (fun _ _ => rfl) (fun c h1 h2 => by omega)
  have ek : kK p t - rk p t (nC p t) = 0 := Nat.sub_self _
  rw [ek, Nat.pow_zero, Nat.div_one] at fin
  exact fin
/-- the reference's memory while it searches -/
def Rv (p g1 : mI) (t : Nat) (s : mI) : Prop := (∀ a k, a ≠ 71 → a ≠ 78 → a ≠ 88 → a ≠ 89 → s a k = g1 a k) ∧ (∀ k, ¬ ixW p t k → s 71 k = g1 71 k) ∧ ∀ c, c < nC p t → s 88 c = p 71 (6 * t + c)
theorem F_b209 (h : St p g b) (ht : t < nT p) (y1 y2 y4 y5 : Int32) (k1 k2 : Int32 → Int32 → mI → Option (Int32 × mI)) (s : mI) (B : Nat) (hB : B = (if y5 = -1 then 88 else 89)) (f65 : s 65 t = p 65 t) : ∃ s', lp_X7_best_209 (nI t) y1 y2 y4 y5 k1 k2 2000 (nI 0) s = some ((if y5 = -1 then -3 else y5), s') ∧ (∀ a k, a ≠ 71 → s' a k = s a k) ∧ (∀ c, c < nC p t → s' 71 (6 * t + c) = s B c) ∧ ∀ k, k < 6 * t ∨ 6 * t + nC p t ≤ k → s' 71 k = s 71 k := by
  have hT := h.T.2
  have hC := h.C ht
  have nt : m_in (nI t) 4 := m_inN (by omega) (by decide)
  have dt : (nI t).toNatClampNeg = t := nI_clamp (by omega)
  have hB1 : B ≠ 71 ∧ B ≠ 65 := by
    by_cases z : y5 = -1
    · rw [hB, if_pos z]; decide
    · rw [hB, if_neg z]; decide
  have key := loop_inv (lp := lp_X7_best_209 (nI t) y1 y2 y4 y5 k1 k2) (N := nC p t) (Inv := fun i s' => (∀ a k, a ≠ 71 → s' a k = s a k) ∧ (∀ c, c < i → s' 71 (6 * t + c) = s B c) ∧ ∀ k, k < 6 * t ∨ 6 * t + nC p t ≤ k → s' 71 k = s 71 k) (fin := fun s' => some ((if y5 = -1 then -3 else y5), s')) ?_ ?_ (nC p t) 0 2000 s (by omega) (by omega) ⟨fun _ _ _ => rfl, fun c hc => by omega, fun _ _ => rfl⟩
  · obtain ⟨s', q1, q2⟩ := key
    exact ⟨s', q2, q1.1, q1.2.1, q1.2.2⟩
  · intro n s' hs
    rw [lp_X7_best_209, if_pos nt, dt, hs.1 65 _ (by decide), f65, hC.1, if_pos (Int32.le_refl _)]
    by_cases z : y5 = -1
    · rw [if_pos z, if_pos z]
    · rw [if_neg z, if_neg z]
  · intro n c s' hc hs
    have n4 : m_in (nI (6 * t + c)) 24 := m_inN (by omega) (by decide)
    have d4 : (nI (6 * t + c)).toNatClampNeg = 6 * t + c := nI_clamp (by omega)
    have n6 : m_in (nI c) 6 := m_inN (by omega) (by decide)
    have d6 : (nI c).toNatClampNeg = c := nI_clamp (by omega)
    have fin : (∀ a k, a ≠ 71 → m_up s' 71 (6 * t + c) (s' B c) a k = s a k) ∧ (∀ c', c' < c + 1 → m_up s' 71 (6 * t + c) (s' B c) 71 (6 * t + c') = s B c') ∧ ∀ k, k < 6 * t ∨ 6 * t + nC p t ≤ k → m_up s' 71 (6 * t + c) (s' B c) 71 k = s 71 k := by
      refine ⟨fun a k ha => by rw [m_up_o (Or.inl ha)]; exact hs.1 a k ha, fun c' hc' => ?_, fun k hk => by rw [m_up_o (by omega)]; exact hs.2.2 k hk⟩
      by_cases y : c' = c
      · subst y; rw [m_up_eq]; exact hs.1 B c' hB1.1
      · rw [m_up_o (by omega)]; exact hs.2.1 c' (by omega)
    rw [lp_X7_best_209, if_pos nt, dt, hs.1 65 _ (by decide), f65, hC.1, if_neg (nI_ge hc (by omega)), nI_6tc]
    by_cases z : y5 = -1
    · rw [if_pos z, if_pos n6, if_pos n4, d4, d6, nI_1]
      rw [if_pos z] at hB
      subst hB
      exact ⟨_, fin, rfl⟩
    · rw [if_neg z, if_pos n6, if_pos n4, d4, d6, nI_1]
      rw [if_neg z] at hB
      subst hB
      exact ⟨_, fin, rfl⟩
theorem F_b164 (h : St p g b) (ht : t < nT p) (y1 y2 y4 y6 x5 x7 : Int32) (k1 k2 : Int32 → Int32 → mI → Option (Int32 × mI)) (s : mI) (f65 : s 65 t = p 65 t) : ∃ s', ((∀ a k, a ≠ 89 → s' a k = s a k) ∧ ∀ c, c < nC p t → s' 89 c = s 71 (6 * t + c)) ∧ lp_X7_best_164 (nI t) y1 y2 y4 y6 x5 x7 k1 k2 2000 (nI 0) s = k2 x5 (y6 + 1) s' := by
  have hT := h.T.2
  have hC := h.C ht
  have nt : m_in (nI t) 4 := m_inN (by omega) (by decide)
  have dt : (nI t).toNatClampNeg = t := nI_clamp (by omega)
  refine loop_inv (lp := lp_X7_best_164 (nI t) y1 y2 y4 y6 x5 x7 k1 k2) (N := nC p t) (Inv := fun i s' => (∀ a k, a ≠ 89 → s' a k = s a k) ∧ ∀ c, c < i → s' 89 c = s 71 (6 * t + c)) (fin := fun s' => k2 x5 (y6 + 1) s') ?_ ?_ (nC p t) 0 2000 s (by omega) (by omega) ⟨fun _ _ _ => rfl, fun c hc => by omega⟩
  · intro n s' hs
    rw [lp_X7_best_164, if_pos nt, dt, hs.1 65 _ (by decide), f65, hC.1, if_pos (Int32.le_refl _)]
  · intro n c s' hc hs
    have n4 : m_in (nI (6 * t + c)) 24 := m_inN (by omega) (by decide)
    have d4 : (nI (6 * t + c)).toNatClampNeg = 6 * t + c := nI_clamp (by omega)
    have n6 : m_in (nI c) 6 := m_inN (by omega) (by decide)
    have d6 : (nI c).toNatClampNeg = c := nI_clamp (by omega)
    rw [lp_X7_best_164, if_pos nt, dt, hs.1 65 _ (by decide), f65, hC.1, if_neg (nI_ge hc (by omega)), nI_6tc, if_pos n4, if_pos n6, d4, d6, nI_1]
    refine ⟨_, ⟨fun a k ha => by rw [m_up_o (Or.inl ha)]; exact hs.1 a k ha, fun c' hc' => ?_⟩, rfl⟩
    by_cases y : c' = c
    · subst y; rw [m_up_eq]; exact hs.1 71 _ (by decide)
    · rw [m_up_o (by omega)]; exact hs.2 c' (by omega)
/-- what the reference's best answers -/
def bsP (p g1 : mI) (t : Nat) (o : Option Nat) (r : Option (Int32 × mI)) : Prop := ∃ s', (∀ a k, a ≠ 71 → a ≠ 78 → a ≠ 88 → a ≠ 89 → s' a k = g1 a k) ∧ match o with
  | none => r = some (-3, s') ∧ ∀ k, s' 71 k = p 71 k
  | some v => r = some (LSW p t v, s') ∧ ∀ k, s' 71 k = pW p t v 71 k
theorem F_b113 (h : St p g b) (hS : Sm p g1) (ht : t < nT p) (h1R : 1 ≤ nR p t) (hK : kK p t ≤ 5) {kn : Nat} (hk : kn < 64) {q : Int32} (hq : 1 ≤ q) (k45 : Int32 → Int32 → mI → Option (Int32 × mI)) : ∀ (k w n : Nat) (y5 : Int32) (s : mI), w + k = 4 ^ kK p t → k < n → Rv p g1 t s → ((bwy (LSW p t) (SFW p kn t q) w = none ∧ y5 = -1) ∨ (∃ v, bwy (LSW p t) (SFW p kn t q) w = some v ∧ y5 = LSW p t v ∧ ∀ c, c < nC p t → s 89 c = pW p t v 71 (6 * t + c))) → bsP p g1 t (bwy (LSW p t) (SFW p kn t q) (4 ^ kK p t)) (lp_X7_best_113 (nI t) (nI kn) q (nI (4 ^ kK p t)) k45 n y5 (nI w) s)
  | 0, w, n, y5, s, h1, h2, h3, h4 => by
    obtain ⟨m, rfl⟩ : ∃ m, n = m + 1 := ⟨n - 1, by omega⟩
    have hw : w = 4 ^ kK p t := by omega
    subst hw
    have f65 : s 65 t = p 65 t := by rw [h3.1 _ _ (by decide) (by decide) (by decide) (by decide)]; exact hS.m 65 _ (mp_i _ (by decide))
    have out : ∀ k, ¬ (6 * t ≤ k ∧ k < 6 * t + nC p t) → s 71 k = p 71 k := fun k hk => by
      rw [h3.2.1 k (fun q => hk ⟨q.1, q.2.1⟩)]; exact hS.m 71 _ (mp_i _ (by decide))
    rw [lp_X7_best_113, if_pos (Int32.le_refl _), show (0 : Int32) = nI 0 from rfl]
    obtain ⟨s', q1, q2, q3, q4⟩ := F_b209 h ht (nI kn) q (nI (4 ^ kK p t)) y5 k45 (fun y113_5 y113_6 g113 => lp_X7_best_113 (nI t) (nI kn) q (nI (4 ^ kK p t)) k45 m y113_5 y113_6 g113) s _ rfl f65
    rw [q1]
    refine ⟨s', fun a k a1 a2 a3 a4 => (q2 a k a1).trans (h3.1 a k a1 a2 a3 a4), ?_⟩
    rcases h4 with ⟨z1, z2⟩ | ⟨v, z1, z2, z3⟩
    · rw [z1]
      subst z2
      refine ⟨rfl, fun k => ?_⟩
      by_cases y : 6 * t ≤ k ∧ k < 6 * t + nC p t
      · have e := q3 (k - 6 * t) (by omega)
        rw [show 6 * t + (k - 6 * t) = k by omega] at e
        rw [e, if_pos rfl, h3.2.2 _ (by omega), show 6 * t + (k - 6 * t) = k by omega]
      · rw [q4 k (by omega)]; exact out k y
    · rw [z1]
      have ne : ¬ y5 = -1 := by rw [z2]; exact LSW_b h ht hK
      rw [if_neg ne] at q3 ⊢
      refine ⟨by rw [z2], fun k => ?_⟩
      by_cases y : 6 * t ≤ k ∧ k < 6 * t + nC p t
      · have e := q3 (k - 6 * t) (by omega)
        rw [show 6 * t + (k - 6 * t) = k by omega] at e
        rw [e, z3 _ (by omega), show 6 * t + (k - 6 * t) = k by omega]
      · rw [q4 k (by omega), out k y]
        exact (pW_n (fun q => y ⟨q.1, q.2.1⟩)).symm
  | k + 1, w, n, y5, s, h1, h2, h3, h4 => by
    obtain ⟨m, rfl⟩ : ∃ m, n = m + 1 := ⟨n - 1, by omega⟩
    have ih := F_b113 h hS ht h1R hK hk hq k45 k (w + 1) m
    have h1024 := pw4 hK
    have fs : ∀ a k, mp a → a ≠ 71 → s a k = p a k := fun a k ha h71 => by
      rw [h3.1 a k h71 ha.2.2 (fun e => by rw [e] at ha; exact absurd ha.2.1 (by decide)) (fun e => by rw [e] at ha; exact absurd ha.2.1 (by decide))]
      exact hS.m a k ha
    obtain ⟨s1, e1, o1, o2, o3⟩ := F_gives h ht hK (way := w) (by omega) (s := s) (fun k => fs 70 k (mp_i _ (by decide)) (by decide)) (fs 65 _ (mp_i _ (by decide)) (by decide)) (fs 66 _ (mp_i _ (by decide)) (by decide)) (fun k => fs 76 k (mp_i _ (by decide)) (by decide)) (nI (4 ^ kK p t))
    have r1 : Rv p g1 t s1 := ⟨fun a k a1 a2 a3 a4 => (o1 a k a1).trans (h3.1 a k a1 a2 a3 a4), fun k hk => (o2 k hk).trans (h3.2.1 k hk), fun c hc => (o1 88 c (by decide)).trans (h3.2.2 c hc)⟩
    have M1 : Mm (pW p t w) s1 := by
      intro a k ha
      by_cases h71 : a = 71
      · subst h71
        by_cases hx : ixW p t k
        · have e := o3 (k - 6 * t) (by have := hx.2.1; have := hx.1; omega) hx.2.2
          have e' := pW_c (way := w) (show k - 6 * t < nC p t by have := hx.2.1; have := hx.1; omega) hx.2.2
          have hx1 := hx.1
          rw [show 6 * t + (k - 6 * t) = k by omega] at e e'
          rw [e, e']
        · rw [o2 k hx, h3.2.1 k hx, pW_n hx]
          exact hS.m 71 k ha
      · rw [o1 a k h71, fs a k ha h71, pW_f h71]
    have S1 : Sm (pW p t w) s1 := Sm_pW hS ht M1
    have ht' : t < nT (pW p t w) := by rw [nT_pW]; exact ht
    obtain ⟨s2, m1, m2, m3⟩ := F_maskTableR S1 ht'
    have S2 := m2.sr S1
    have ea := F_alike11 S2 ht' (show kn < 2 ^ 31 by omega) m3.drf
    rw [nR_pW] at ea
    have eal : f_X7_alikeOf s1 (nI t) (nI kn) = some (nI (mnN (fun r => cnN (cbB (pW p t w) kn t r) (nR p t)) 13 (nR p t)), s2) := by
      unfold f_X7_alikeOf
      rw [m1, Option.bind_some]
      exact ea
    have r2 : Rv p g1 t s2 := ⟨fun a k a1 a2 a3 a4 => (m2 a k a2).trans (r1.1 a k a1 a2 a3 a4), fun k hk => (m2 71 k (by decide)).trans (r1.2.1 k hk), fun c hc => (m2 88 c (by decide)).trans (r1.2.2 c hc)⟩
    have keep : ∀ s' : mI, (∀ a k, a ≠ 71 → a ≠ 78 → s' a k = s a k) → ∀ v, (∀ c, c < nC p t → s 89 c = pW p t v 71 (6 * t + c)) → ∀ c, c < nC p t → s' 89 c = pW p t v 71 (6 * t + c) := fun s' hs v hv c hc => by rw [hs 89 c (by decide) (by decide)]; exact hv c hc
    have k1 : ∀ a k, a ≠ 71 → a ≠ 78 → s1 a k = s a k := fun a k q1 _ => o1 a k q1
    have k2 : ∀ a k, a ≠ 71 → a ≠ 78 → s2 a k = s a k := fun a k q1 q2 => (m2 a k q2).trans (o1 a k q1)
    have hsafe := safe_pW (way := w) hS (kn := kn) ht h1R hq
    have f65 : s2 65 t = p 65 t := by rw [k2 65 t (by decide) (by decide)]; exact fs 65 _ (mp_i _ (by decide)) (by decide)
    have take : SFW p kn t q w = true → (bwy (LSW p t) (SFW p kn t q) (w + 1) = some w) → bsP p g1 t (bwy (LSW p t) (SFW p kn t q) (4 ^ kK p t)) (lp_X7_best_164 (nI t) (nI kn) q (nI (4 ^ kK p t)) (nI w) (LSW p t w) (LSW p t w) k45 (fun y113_5 y113_6 g113 => lp_X7_best_113 (nI t) (nI kn) q (nI (4 ^ kK p t)) k45 m y113_5 y113_6 g113) 2000 (nI 0) s2) := by
      intro _ eb
      obtain ⟨s3, ⟨w1, w2⟩, w3⟩ := F_b164 h ht (nI kn) q (nI (4 ^ kK p t)) (nI w) (LSW p t w) (LSW p t w) k45 (fun y113_5 y113_6 g113 => lp_X7_best_113 (nI t) (nI kn) q (nI (4 ^ kK p t)) k45 m y113_5 y113_6 g113) s2 f65
      rw [w3, nI_1]
      refine ih (LSW p t w) s3 (by omega) (by omega) ⟨fun a k a1 a2 a3 a4 => (w1 a k a4).trans (r2.1 a k a1 a2 a3 a4), fun k hk => (w1 71 k (by decide)).trans (r2.2.1 k hk), fun c hc => (w1 88 c (by decide)).trans (r2.2.2 c hc)⟩ (Or.inr ⟨w, eb, rfl, fun c hc => ?_⟩)
      rw [w2 c hc]
      exact S2.m 71 _ (mp_i _ (by decide))
    rw [lp_X7_best_113, if_neg (nI_ge (by omega) (by omega)), e1, Option.bind_some, eal, Option.bind_some, nI_1, show (0 : Int32) = nI 0 from rfl]
    rcases h4 with ⟨z1, z2⟩ | ⟨v, z1, z2, z3⟩
    · rw [if_pos z2]
      cases e : SFW p kn t q w with
      | true =>
        rw [if_pos (hsafe.mpr e)]
        exact take e (by rw [bwy_s, z1]; simp only [e, cond_true])
      | false =>
        rw [if_neg (fun y => by rw [hsafe.mp y] at e; cases e)]
        exact ih y5 s2 (by omega) (by omega) r2 (Or.inl ⟨by rw [bwy_s, z1]; simp only [e, cond_false], z2⟩)
    · have ne : ¬ y5 = -1 := by rw [z2]; exact LSW_b h ht hK
      rw [if_neg ne]
      by_cases y : LSW p t v ≤ LSW p t w
      · rw [if_pos (show y5 ≤ LSW p t w by rw [z2]; exact y)]
        exact ih y5 s1 (by omega) (by omega) r1 (Or.inr ⟨v, by rw [bwy_s, z1]; simp only [if_pos y], z2, keep s1 k1 v z3⟩)
      · rw [if_neg (show ¬ y5 ≤ LSW p t w by rw [z2]; exact y)]
        cases e : SFW p kn t q w with
        | true =>
          rw [if_pos (hsafe.mpr e)]
          exact take e (by rw [bwy_s, z1]; simp only [if_neg y, e, cond_true])
        | false =>
          rw [if_neg (fun y => by rw [hsafe.mp y] at e; cases e)]
          exact ih y5 s2 (by omega) (by omega) r2 (Or.inr ⟨v, by rw [bwy_s, z1]; simp only [if_neg y, e, cond_false], z2, keep s2 k2 v z3⟩)
end BF
