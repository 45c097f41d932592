/-! ===== best: both ===== -/
section BG
variable {p g g1 s : mI} {b : Bool} {t : Nat}
theorem F_b45 (h : St p g b) (hS : Sm p g1) (ht : t < nT p) (y1 y2 : Int32) : ∃ s' k45, Rv p g1 t s' ∧ lp_X7_best_45 (nI t) y1 y2 2000 1 (nI 0) g1 = lp_X7_best_113 (nI t) y1 y2 (nI (4 ^ kK p t)) k45 2000 (-1) (nI 0) s' := by
  have hT := h.T.2
  have hC := h.C ht
  have nt : m_in (nI t) 4 := m_inN (by omega) (by decide)
  have dt : (nI t).toNatClampNeg = t := nI_clamp (by omega)
  have key := loop_P (lp := fun n y (q : Int32 × mI) => lp_X7_best_45 (nI t) y1 y2 n q.1 y q.2) (N := nC p t) (Inv := fun i q => q.1 = nI (4 ^ rk p t i) ∧ (∀ a k, a ≠ 88 → q.2 a k = g1 a k) ∧ ∀ c, c < i → q.2 88 c = p 71 (6 * t + c)) (P := fun r => ∃ s' k45, Rv p g1 t s' ∧ r = lp_X7_best_113 (nI t) y1 y2 (nI (4 ^ kK p t)) k45 2000 (-1) (nI 0) s') ?_ ?_ (nC p t) 0 2000 (1, g1) (by omega) (by omega) ⟨rfl, fun _ _ _ => rfl, fun c hc => by omega⟩
  · exact key
  · rintro n ⟨x, s'⟩ ⟨q1, q2, q3⟩
    have q1' : x = nI (4 ^ rk p t (nC p t)) := q1
    have f65 : s' 65 t = p 65 t := (q2 65 t (by decide)).trans (hS.m 65 _ (mp_i _ (by decide)))
    refine ⟨s', (fun y45_4 y45_5 g45 => lp_X7_best_45 (nI t) y1 y2 n y45_4 y45_5 g45), ⟨fun a k a1 a2 a3 a4 => q2 a k a3, fun k _ => q2 71 k (by decide), q3⟩, ?_⟩
    show lp_X7_best_45 (nI t) y1 y2 (n + 1) x (nI (nC p t)) s' = _
    rw [lp_X7_best_45, if_pos nt, dt, f65, hC.1, if_pos (Int32.le_refl _), q1', show (0 : Int32) = nI 0 from rfl]
    rfl
  · rintro n c ⟨x, s'⟩ hc ⟨q1, q2, q3⟩
    have q1' : x = nI (4 ^ rk p t c) := q1
    have q2' : ∀ a k, a ≠ 88 → s' a k = g1 a k := q2
    have f65 : s' 65 t = p 65 t := by rw [q2' 65 t (by decide)]; exact hS.m 65 _ (mp_i _ (by decide))
    have f71 : s' 71 (6 * t + c) = p 71 (6 * t + c) := by rw [q2' 71 _ (by decide)]; exact hS.m 71 _ (mp_i _ (by decide))
    have f70 : s' 70 (6 * t + c) = p 70 (6 * t + c) := by rw [q2' 70 _ (by decide)]; exact hS.m 70 _ (mp_i _ (by decide))
    have n4 : m_in (nI (6 * t + c)) 24 := m_inN (by omega) (by decide)
    have d4 : (nI (6 * t + c)).toNatClampNeg = 6 * t + c := nI_clamp (by omega)
    have n6 : m_in (nI c) 6 := m_inN (by omega) (by decide)
    have d6 : (nI c).toNatClampNeg = c := nI_clamp (by omega)
    have base : (∀ a k, a ≠ 88 → m_up s' 88 c (p 71 (6 * t + c)) a k = g1 a k) ∧ ∀ c', c' < c + 1 → m_up s' 88 c (p 71 (6 * t + c)) 88 c' = p 71 (6 * t + c') := by
      refine ⟨fun a k ha => by rw [m_up_o (Or.inl ha)]; exact q2' a k ha, fun c' hc' => ?_⟩
      by_cases y : c' = c
      · subst y; rw [m_up_eq]
      · rw [m_up_o (by omega)]; exact q3 c' (by omega)
    show ∃ q' : Int32 × mI, _ ∧ lp_X7_best_45 (nI t) y1 y2 (n + 1) x (nI c) s' = lp_X7_best_45 (nI t) y1 y2 n q'.1 (nI (c + 1)) q'.2
    rw [lp_X7_best_45, if_pos nt, dt, f65, hC.1, if_neg (nI_ge hc (by omega)), nI_6tc, if_pos n4, if_pos n6, d4, d6, f71, nI_1]
    simp only [m_let]
    rw [m_up_o (a' := 70) (by omega), f70]
    by_cases z : p 70 (6 * t + c) = 3
    · have zc : co p t c = true := decide_eq_true z
      have er : rk p t (c + 1) = rk p t c + 1 := by
        show cnN (co p t) c + (bif co p t c then 1 else 0) = _
        rw [zc]; rfl
      rw [if_pos z, q1', show (4 : Int32) = nI 4 from rfl, pk_mul]
      refine ⟨(nI (4 ^ rk p t c * 4), m_up s' 88 c (p 71 (6 * t + c))), ⟨?_, base⟩, rfl⟩
      show nI (4 ^ rk p t c * 4) = nI (4 ^ rk p t (c + 1))
      rw [er, Nat.pow_succ]
    · have zc : co p t c = false := decide_eq_false z
      have er : rk p t (c + 1) = rk p t c := by
        show cnN (co p t) c + (bif co p t c then 1 else 0) = _
        rw [zc]; rfl
      rw [if_neg z, q1', show (1 : Int32) = nI 1 from rfl, pk_mul]
      refine ⟨(nI (4 ^ rk p t c * 1), m_up s' 88 c (p 71 (6 * t + c))), ⟨?_, base⟩, rfl⟩
      show nI (4 ^ rk p t c * 1) = nI (4 ^ rk p t (c + 1))
      rw [er, Nat.mul_one]
theorem F_bestM (h : St p g b) (hS : Sm p g1) (ht : t < nT p) (h1R : 1 ≤ nR p t) (hK : kK p t ≤ 5) {kn : Nat} (hk : kn < 64) {q : Int32} (hq : 1 ≤ q) : bsP p g1 t (bwy (LSW p t) (SFW p kn t q) (4 ^ kK p t)) (lp_X7_best_45 (nI t) (nI kn) q 2000 1 (nI 0) g1) := by
  obtain ⟨s', k45, r1, e⟩ := F_b45 h hS ht (nI kn) q
  have h4 := pw4 hK
  rw [e]
  exact F_b113 h hS ht h1R hK hk hq k45 (4 ^ kK p t) 0 2000 (-1) s' (by omega) (by omega) r1 (Or.inl ⟨rfl, rfl⟩)
theorem F_colAt {s' : mI} (h : St p s b) {c : Nat} (ht : t < nT p) (hc : c < nC p t) (e08 : s' 0 8 = s 0 8) (e163 : s' (16 + 10 * t) 3 = s (16 + 10 * t) 3) : f_X6_columnAt s' b (nI t) (nI c) = some (some (20 + 10 * t + c)) := by
  have hT := h.T.2
  have hC := h.C6 t ht
  have a1 : f_X6_tableAt s' b (nI t) = f_X6_tableAt s b (nI t) := by unfold f_X6_tableAt; rw [e08]
  have a2 : f_X4_columnNumbered s' b (16 + 10 * t) (nI c) = f_X4_columnNumbered s b (16 + 10 * t) (nI c) := by unfold f_X4_columnNumbered; rw [e163]
  unfold f_X6_columnAt
  rw [a1, F_tableAt h, tOf_nI h ht, Option.map_some, Option.bind_some]
  show (if m_S0[16 + 10 * t]? = some (.inl 4) then _ else _) = _
  rw [if_pos (s0_tab t (by omega)), a2, F_columnNumbered h ht, ixOf_nI hc (by omega)]
  rfl
theorem Sr.to {s' : mI} {kn : Nat} (hR : nR p t ≤ 12) (hs : Sr p s b kn t) (e : ∀ a k, 7 ≤ a → a ≤ 11 → s' a k = s a k) : Sr p s' b kn t :=
  ⟨(e 7 4 (by decide) (by decide)).trans hs.1, (e 7 5 (by decide) (by decide)).trans hs.2.1, fun c hc z => (hs.2.2.1 c hc z).to hR (e _ _ (by decide) (by decide)) (fun k _ => e _ _ (by decide) (by decide)) (fun k _ => e _ _ (by decide) (by decide)), fun r hr => (e 11 r (by decide) (by decide)).trans (hs.2.2.2 r hr)⟩
theorem F_b75 (h : St p s b) (ht : t < nT p) {kn : Nat} (hs : Sr p s b kn t) (hK : kK p t ≤ 5) {v : Nat} (hv : v < 1024) (y2 y3 : Int32) (y4 : Nat) : ∃ s', lp_X6_best_75 b (nI t) y2 y3 y4 (nI v) 2000 (nI 0) s = some (LSW p t v, s') ∧ (∀ a k, ¬ (20 + 10 * t ≤ a ∧ a < 20 + 10 * t + nC p t ∧ k = 3) → s' a k = s a k) ∧ ∀ c, c < nC p t → s' (20 + 10 * t + c) 3 = if co p t c = true then m_wid (dj p t v (rk p t c)) else s (20 + 10 * t + c) 3 := by
  have hT := h.T.2
  have hC := h.C6 t ht
  have hR := (h.R ht).2
  have key := loop_inv (lp := lp_X6_best_75 b (nI t) y2 y3 y4 (nI v)) (N := kK p t) (Inv := fun j s' => (∀ a k, ¬ (20 + 10 * t ≤ a ∧ a < 20 + 10 * t + nC p t ∧ k = 3) → s' a k = s a k) ∧ ∀ c, c < nC p t → s' (20 + 10 * t + c) 3 = if co p t c = true ∧ rk p t c < j then m_wid (dj p t v (rk p t c)) else s (20 + 10 * t + c) 3) (fin := fun s' => some (LSW p t v, s')) ?_ ?_ (kK p t) 0 2000 s (by omega) (by omega) ⟨fun _ _ _ => rfl, fun c hc => by rw [if_neg (fun q => by omega)]⟩
  · obtain ⟨s', q1, q2⟩ := key
    refine ⟨s', q2, q1.1, fun c hc => ?_⟩
    rw [q1.2 c hc]
    by_cases z : co p t c = true
    · rw [if_pos z, if_pos ⟨z, rk_lt hc z⟩]
    · rw [if_neg z, if_neg (fun q => z q.1)]
  · intro n s' hi
    have hs' : Sr p s' b kn t := hs.to hR (fun a k h1 h2 => hi.1 a k (fun q => by omega))
    have e4 : s' 7 4 = nI (kK p t) := hs'.1
    rw [lp_X6_best_75, e4, if_pos (Int32.le_refl _), F_lossC hs' hK (by omega)]
    rfl
  · intro n j s' hj hi
    have hs' : Sr p s' b kn t := hs.to hR (fun a k h1 h2 => hi.1 a k (fun q => by omega))
    have e4 : s' 7 4 = nI (kK p t) := hs'.1
    obtain ⟨c1, c2, c3⟩ := cj_ok hj
    have e8 : s' 8 j = nI (cj p t j) := (hs'.j hj).1
    have hd := dj_lt p t v j
    have ecn : f_X5_columnNumber s' (nI j) = some (nI (cj p t j)) := by
      unfold f_X5_columnNumber
      rw [if_neg (nI_pos (by omega)), e4, if_neg (nI_ge hj (by omega)), if_pos (m_inN (by omega) (by decide)), nI_clamp (by omega), e8]
    rw [lp_X6_best_75, e4, if_neg (nI_ge hj (by omega)), ecn, Option.bind_some, F_colAt h ht c1 (hi.1 _ _ (fun q => by omega)) (hi.1 _ _ (fun q => by omega)), Option.bind_some]
    simp only [m_oc]
    rw [F_choice e4 hK (by omega) hj, F_widthAt hd, Option.bind_some, if_pos (s0_col t (by omega) _ (by omega)), nI_1]
    refine ⟨_, ⟨fun a k hn => ?_, fun c hc => ?_⟩, rfl⟩
    · rw [m_up_o (by omega)]; exact hi.1 a k hn
    · by_cases y : c = cj p t j
      · rw [y, m_up_eq, if_pos ⟨c2, by omega⟩, c3]
      · rw [m_up_o (by omega), hi.2 c hc]
        by_cases z : co p t c = true ∧ rk p t c < j
        · rw [if_pos z, if_pos ⟨z.1, by omega⟩]
        · rw [if_neg z, if_neg]
          rintro ⟨w1, w2⟩
          by_cases w3 : rk p t c = j
          · apply y
            have e : cj p t (rk p t c) = c := cjF_rk hc w1
            rw [← w3, e]
          · exact z ⟨w1, by omega⟩
/-- the state with the widths of a way -/
theorem St.wid (h : St p g b) (ht : t < nT p) {v : Nat} {g2 : mI} (hM : Mm (pW p t v) g2) (hc : ∀ a k, pers b a → a < 64 → ¬ (20 + 10 * t ≤ a ∧ a < 20 + 10 * t + nC p t ∧ k = 3) → g2 a k = g a k) (hw : ∀ c, c < nC p t → g2 (20 + 10 * t + c) 3 = pW p t v 71 (6 * t + c)) : St (pW p t v) g2 b := by
  have hT4 := h.T.2
  have hC6 := h.C6
  have hU8 := h.U.2
  have hN := hC6 t ht
  have hD := pM_lt b
  have p0 : pers b 0 := Or.inr (Or.inl rfl)
  have p3 : pers b 3 := Or.inr (Or.inr (Or.inl rfl))
  have p5 : pers b 5 := Or.inr (Or.inr (Or.inr (Or.inl rfl)))
  have pM : pers b (m_pM b + 1) := Or.inr (Or.inr (Or.inr (Or.inr (Or.inl rfl))))
  have pt : ∀ a, 16 ≤ a → a < 64 → pers b a := fun a h1 h2 => Or.inr (Or.inr (Or.inr (Or.inr (Or.inr ⟨h1, h2⟩))))
  have hI := (Sm_pW h.sm ht hM).2
  obtain ⟨-, -, ⟨e1, e2, e3, e4, e5, e6, e7, e8⟩, df⟩ := h
  refine ⟨hM, hI, ⟨?_, ?_, ?_, ?_, ?_, ?_, ?_, ?_⟩, ?_⟩
  · have q : ∀ j, g2 0 j = g 0 j := fun j => hc 0 j p0 (by decide) (fun z => by omega)
    unfold E1
    rw [q, q, q, q, q, pW_f (a := 64) (by decide)]
    exact e1
  · intro u hu
    rw [nT_pW] at hu
    have q : ∀ j, g2 (16 + 10 * u) j = g (16 + 10 * u) j := fun j => hc _ j (pt _ (by omega) (by omega)) (by omega) (fun z => by omega)
    rw [q, q, q, pW_f (a := 65) (by decide), pW_f (a := 66) (by decide), pW_f (a := 67) (by decide)]
    exact e2 u hu
  · intro u hu c hcc j hj
    rw [nT_pW] at hu
    rw [nC_pW] at hcc
    have hu6 := hC6 u hu
    by_cases z : u = t ∧ j = 3
    · obtain ⟨rfl, rfl⟩ := z
      exact hw c hcc
    · rw [hc _ j (pt _ (by omega) (by omega)) (by omega) (fun y => by omega)]
      have eq : pW p t v (68 + j) (6 * u + c) = p (68 + j) (6 * u + c) := by
        by_cases z3 : j = 3
        · subst z3
          exact pW_n (fun y => z ⟨by omega, rfl⟩)
        · rw [pW_f (by omega)]
      rw [eq]
      exact e3 u hu c hcc j hj
  · intro u hu i h1 h2
    rw [nT_pW] at hu
    rw [hc _ _ (pt _ (by omega) (by omega)) (by omega) (fun z => by omega), hc _ _ (pt _ (by omega) (by omega)) (by omega) (fun z => by omega), pW_f (a := 74) (by decide), pW_f (a := 75) (by decide)]
    exact e4 u hu i h1 h2
  · intro i hi
    rw [nW_pW] at hi
    rw [hc 3 i p3 (by decide) (fun z => by omega), pW_f (a := 79) (by decide)]
    exact e5 i hi
  · intro u hu r hr c hcc
    rw [nT_pW] at hu
    rw [nR_pW] at hr
    rw [nC_pW] at hcc
    rw [hc 5 _ p5 (by decide) (fun z => by omega), pW_f (a := 76) (by decide)]
    exact e6 u hu r hr c hcc
  · intro hm u hu r hr c hcc
    rw [nT_pW] at hu
    rw [nR_pW] at hr
    rw [nC_pW] at hcc
    rw [pW_f (a := 64) (by decide)] at hm
    rw [hc _ _ pM (by omega) (fun z => by omega), pW_f (a := 77) (by decide)]
    exact e7 hm u hu r hr c hcc
  · intro k hk
    rw [nU_pW] at hk
    have q : ∀ j, g2 (56 + k) j = g (56 + k) j := fun j => hc _ j (pt _ (by omega) (by omega)) (by omega) (fun z => by omega)
    rw [q, q, q, q, q, q, q, pW_f (a := 80) (by decide), pW_f (a := 81) (by decide), pW_f (a := 82) (by decide), pW_f (a := 83) (by decide), pW_f (a := 84) (by decide), pW_f (a := 85) (by decide), pW_f (a := 86) (by decide)]
    exact e8 k hk
  · intro u hu
    rw [nT_pW, nC_pW]
    have q : ∀ (a j : Nat), 16 ≤ a → a < 64 → ¬ (20 + 10 * t ≤ a ∧ a < 20 + 10 * t + nC p t) → g2 a j = g a j := fun a j h1 h2 h3 => hc _ _ (pt _ h1 h2) h2 (fun z => h3 ⟨z.1, z.2.1⟩)
    refine ⟨fun hn => ⟨?_, fun i hi => ?_⟩, fun c hcc hn => ?_⟩
    · rw [q _ _ (by omega) (by omega) (by omega), q _ _ (by omega) (by omega) (by omega), q _ _ (by omega) (by omega) (by omega), q _ _ (by omega) (by omega) (by omega), q _ _ (by omega) (by omega) (by omega)]
      exact ((df u hu).1 hn).1
    · rw [q _ _ (by omega) (by omega) (by omega), q _ _ (by omega) (by omega) (by omega)]
      exact ((df u hu).1 hn).2 i hi
    · have hx : ¬ (20 + 10 * t ≤ 20 + 10 * u + c ∧ 20 + 10 * u + c < 20 + 10 * t + nC p t) := by
        rintro ⟨z1, z2⟩
        have e : u = t := by omega
        subst e
        omega
      rw [q _ _ (by omega) (by omega) hx, q _ _ (by omega) (by omega) hx, q _ _ (by omega) (by omega) hx, q _ _ (by omega) (by omega) hx]
      exact (df u hu).2 c hcc hn
theorem F7_isTableS (h : Sm p g) (x : Int32) : f_X7_isTable g x = (tOf p x).isSome := by
  unfold f_X7_isTable
  rw [h.m 64 1 (by unfold mp; omega), h.T.1]
  exact ixOf_in' (by have := h.T.2; omega)
theorem s_best (h : St p g b) (t x q : Int32) : ∃ v g1 g2 p2, f_X6_best g b t x q = some (v, g1) ∧ f_X7_best g1 t x q = some (v, g2) ∧ St p2 g2 b := by
  unfold f_X6_best f_X7_best
  rw [F_tableAt h]
  cases et : tOf p t with
  | none =>
    refine ⟨-1, g, g, p, rfl, ?_, h⟩
    rw [F7_isTable h, et]; rfl
  | some u =>
    obtain ⟨hu, h4, rfl⟩ := tOf_some h et
    have hR := h.R hu
    have nt : m_in (nI u) 4 := m_inN h4 (by decide)
    have dt : (nI u).toNatClampNeg = u := nI_clamp (by omega)
    rw [Option.map_some, Option.bind_some]
    simp only [m_oc]
    rcases F_known h hu x with ⟨kn, k1, k2, rfl, k4, k5⟩ | ⟨k4, k5⟩
    · rw [k4, Option.bind_some, cond_true]
      by_cases hq : 1 ≤ q
      · rw [if_pos hq, if_pos (s0_tab u h4), (h.e2 u hu).2.1, hR.1]
        by_cases z : nR p u = 0
        · refine ⟨-3, g, g, p, ?_, ?_, h⟩
          · rw [z]; rfl
          · rw [F7_isTable h, et, Option.isSome_some, cond_true, k5 g h.sm, Option.bind_some, cond_true, if_pos hq, if_pos nt, dt, h.m 66 _ (mp_i _ (by decide)), hR.1, z]; rfl
        · have z' : ¬ nI (nR p u) = 0 := nI_ne0 (by omega) (by omega)
          have hK : kK p u ≤ 5 := rk_le h hu
          have h1024 := pw4 hK
          obtain ⟨g1, m1, m2, m3⟩ := F_draft h hu
          have h1 := m2.st h
          obtain ⟨s, r1, r2, r3⟩ := F_prep h1 hu k1 m3.drf
          have hs : St p s b := h1.congr fun a k ha => r2 a k (by
            by_cases y : 7 ≤ a ∧ a ≤ 11
            · exact absurd ha (npS b y.1 y.2)
            · omega)
          rw [if_neg z', m1, Option.bind_some, r1, Option.bind_some, F_leastC hs hu r3 hK, Option.bind_some]
          have ref : ∀ s2, Sm p s2 → (bif f_X7_isTable s2 (nI u) then ((f_X7_isKnown s2 (nI u) (nI kn)).bind fun v2 => (bif v2 then (if 1 ≤ q then (if m_in (nI u) 4 then (if (s2 66 (nI u).toNatClampNeg) = 0 then some ((-3), s2) else lp_X7_best_45 (nI u) (nI kn) q 2000 1 0 s2) else none) else some ((-2), s2)) else some ((-2), s2))) else some ((-1), s2)) = lp_X7_best_45 (nI u) (nI kn) q 2000 1 (nI 0) s2 := by
            intro s2 hS
            rw [F7_isTableS hS, et, Option.isSome_some, cond_true, k5 s2 hS, Option.bind_some, cond_true, if_pos hq, if_pos nt, dt, hS.m 66 _ (mp_i _ (by decide)), hR.1, if_neg z', show (0 : Int32) = nI 0 from rfl]
          cases eb : bwy (LSW p u) (SFW p kn u q) (4 ^ kK p u) with
          | none =>
            have fb := F_bestM h hs.sm hu (by omega) hK k1 hq
            rw [eb] at fb
            obtain ⟨s', o1, o2, o3⟩ := fb
            refine ⟨-3, s, s', p, ?_, ?_, ?_⟩
            · show (if (-1 : Int32) = -1 then _ else _) = _
              rw [if_pos rfl]
            · exact (ref s hs.sm).trans o2
            · refine hs.congr fun a k ha => ?_
              by_cases y : a = 71
              · subst y; rw [o3 k]; exact (hs.m 71 k (mp_i _ (by decide))).symm
              · have n78 : a ≠ 78 := fun e => np78 b (e ▸ ha)
                have n8 : a ≠ 88 ∧ a ≠ 89 := by
                  unfold pers mp at ha
                  have := pM_lt b
                  omega
                exact o1 a k y n78 n8.1 n8.2
          | some v =>
            have hv := bwy_lt _ _ _ _ eb
            have n1 : ¬ nI v = -1 := fun z => nI_pos (n := v) (by omega) (by rw [z]; decide)
            obtain ⟨s2, w1, w2, w3⟩ := F_b75 hs hu r3 hK (show v < 1024 by omega) (nI kn) q (16 + 10 * u)
            have hC6 := h.C6 u hu
            have hS2 : Sm p s2 := hs.sm.congr fun a k ha => w2 a k (fun y => by have := ha.1; omega)
            have fb := F_bestM h hS2 hu (by omega) hK k1 hq
            rw [eb] at fb
            obtain ⟨s', o1, o2, o3⟩ := fb
            refine ⟨LSW p u v, s2, s', pW p u v, ?_, ?_, ?_⟩
            · show (if nI v = -1 then _ else _) = _
              rw [if_neg n1, show (0 : Int32) = nI 0 from rfl]
              exact w1
            · exact (ref s2 hS2).trans o2
            · have low : ∀ a k, a < 64 → s' a k = s2 a k := fun a k ha => o1 a k (by omega) (by omega) (by omega) (by omega)
              refine hs.wid hu ?_ (fun a k _ ha hn => ?_) (fun c hc => ?_)
              · intro a k ha
                by_cases y : a = 71
                · subst y; exact o3 k
                · rw [o1 a k y ha.2.2 (fun e => by rw [e] at ha; exact absurd ha.2.1 (by decide)) (fun e => by rw [e] at ha; exact absurd ha.2.1 (by decide)), pW_f y]
                  exact hS2.m a k ha
              · rw [low a k ha]; exact w2 a k hn
              · rw [low _ _ (by omega), w3 c hc]
                by_cases y : co p u c = true
                · rw [if_pos y, pW_c hc y]
                · rw [if_neg y, pW_n (fun e => by
                    have e3 := e.2.2
                    rw [show 6 * u + c - 6 * u = c by omega] at e3
                    exact y e3)]
                  exact hs.col hu hc (j := 3) (by decide)
      · refine ⟨-2, g, g, p, ?_, ?_, h⟩
        · rw [if_neg hq]
        · rw [F7_isTable h, et, Option.isSome_some, cond_true, k5 g h.sm, Option.bind_some, cond_true, if_neg hq]
    · refine ⟨-2, g, g, p, ?_, ?_, h⟩
      · rw [k4]; rfl
      · rw [F7_isTable h, et, Option.isSome_some, cond_true, k5 g h.sm]; rfl
end BG
