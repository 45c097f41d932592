/-! ===== masked numbers are small, masked keys are apart; make ===== -/
theorem isOf_b23 {k v : Int32} (hk : k = 2 ∨ k = 3) (e : f_X7_isOf k v = true) (hv : ¬ v = (-2147483648)) : -9999 ≤ v.toInt ∧ v.toInt ≤ 9999 := by
  unfold f_X7_isOf at e
  rw [if_neg hv] at e
  rcases hk with rfl | rfl
  · rw [if_pos rfl] at e
    have q := in_tI e
    rw [show (9999 : Int32).toInt = 9999 by decide, show (0 : Int32).toInt = 0 by decide] at q; omega
  · rw [if_neg (by decide), if_pos rfl] at e
    have q := in_tI e
    rw [show (9999 : Int32).toInt = 9999 by decide, show (-9999 : Int32).toInt = -9999 by decide] at q; omega
theorem fmod_b (v : Int32) {w : Int32} (h : 1 ≤ w) : 0 ≤ (fmod v w).toInt ∧ (fmod v w).toInt < w.toInt := by
  obtain ⟨w1, w2, w3, w4⟩ := le1 h
  have e := tI_rem (x := v) w1
  have a1 : v.toInt.tmod w.toInt < w.toInt := Int.tmod_lt_of_pos _ (by omega)
  have a2 : (-v.toInt).tmod w.toInt < w.toInt := Int.tmod_lt_of_pos _ (by omega)
  rw [Int.neg_tmod] at a2
  have hw := tI_hi w
  rw [← e] at a1 a2
  unfold fmod
  by_cases z : 0 ≤ m_rem v w
  · rw [if_pos z]
    have z' : (0 : Int) ≤ (m_rem v w).toInt := Int32.le_iff_toInt_le.mp z
    omega
  · rw [if_neg z]
    have z' : ¬ (0 : Int) ≤ (m_rem v w).toInt := fun q => z (Int32.le_iff_toInt_le.mpr q)
    rw [tI_add (by omega) (by omega)]; omega
theorem fits1 {k n : Int32} (e : f_X7_fits k 1 n = true) : k = 0 ∨ k = 4 := by
  unfold f_X7_fits at e
  rw [if_neg (by decide), if_pos rfl] at e
  by_cases z : n = 0
  · rw [if_pos z] at e
    by_cases k0 : k = 0
    · exact Or.inl k0
    · by_cases k4 : k = 4
      · exact Or.inr k4
      · rw [if_neg k0, if_neg k4] at e; cases e
  · rw [if_neg z] at e; cases e
theorem fits5 {k n : Int32} (e : f_X7_fits k 5 n = true) : ¬ k = 0 := by
  unfold f_X7_fits at e
  rw [if_neg (by decide), if_neg (by decide), if_neg (by decide), if_neg (by decide), if_neg (by decide), if_pos rfl] at e
  intro k0
  by_cases z : n = 0
  · rw [if_pos z, if_pos k0] at e; cases e
  · rw [if_neg z] at e; cases e
section MQ
variable {p g : mI} {b : Bool}
theorem shv_b (h : St p g b) {t r : Nat} (ht : t < nT p) (hr : r < nR p t) : -30 ≤ (shv p (ow p t r)).toInt ∧ (shv p (ow p t r)).toInt ≤ 30 := by
  rcases ow_key h ht hr with z | ⟨n, hn, e⟩
  · rw [z]; unfold shv; rw [if_pos rfl]; decide
  · rw [e]; exact (shv_ok h hn).2
theorem mkv_b (h : St p g b) {t r c : Nat} (ht : t < nT p) (hr : r < nR p t) (hc : c < nC p t) (hk : p 68 (6 * t + c) = 2 ∨ p 68 (6 * t + c) = 3) : ab (mkv p t r c) ≤ 10998 := by
  obtain ⟨q1, q2, q3, q4⟩ := h.k2 ht hc
  have qc := h.cell ht hr hc
  unfold mkv
  by_cases z4 : p 70 (6 * t + c) = 4
  · rw [z4] at q4
    have := (fits4 q4).2
    rcases hk with k | k <;> (rw [k] at this; exact absurd this (by decide))
  · rw [if_neg z4]
    by_cases zm : p 76 (72 * t + 6 * r + c) = (-2147483648)
    · rw [if_pos zm]; decide
    · rw [if_neg zm]
      have vb := isOf_b23 hk qc zm
      have k1 : ¬ p 68 (6 * t + c) = 1 := by rcases hk with k | k <;> rw [k] <;> decide
      by_cases z5 : p 70 (6 * t + c) = 5
      · rw [if_pos z5]; decide
      · rw [if_neg z5, if_neg k1]
        by_cases z1 : p 70 (6 * t + c) = 1
        · rw [z1] at q4
          have := fits1 q4
          rcases hk with k | k <;> (rw [k] at this; exact absurd this (by decide))
        · rw [if_neg z1]
          refine Nat.le_trans (ab_le _) ?_
          by_cases z2 : p 70 (6 * t + c) = 2
          · rw [if_pos z2]
            have sb := shv_b h ht hr
            rw [tI_add (by omega) (by omega)]; omega
          · rw [if_neg z2]
            by_cases z3 : p 70 (6 * t + c) = 3
            · rw [if_pos z3]
              rw [z3] at q4
              obtain ⟨f1, f2, f3⟩ := fits3 q4
              have fb := fmod_b (p 76 (72 * t + 6 * r + c)) f1
              have f2' : (p 71 (6 * t + c)).toInt ≤ 1000 := Int32.le_iff_toInt_le.mp f2
              rw [tI_sub (by omega) (by omega)]; omega
            · rw [if_neg z3]; omega
theorem tg_inj (h : St p g b) {t i : Nat} (ht : t < nT p) (h1 : 1 ≤ i) (h4 : i ≤ 4) {x y : Nat} (hx : x < 10) (hy : y < 10) (e : tg p t i x = tg p t i y) : x = y := by
  obtain ⟨a1, -⟩ := h.dg ht h1 h4
  unfold tg at e
  rcases a1 with z | z | z | z <;> rw [z] at e <;> omega
theorem tkey_inj (h : St p g b) {t n m : Nat} (ht : t < nT p) (hn : keyN n) (hm : keyN m) (e : tkey p t n = tkey p t m) : n = m := by
  have e1 : tk p t (n / 10) = tk p t (m / 10) := by
    unfold tkey at e
    have := kd_lt (tk p t (n / 10))
    have := kd_lt (tk p t (m / 10))
    omega
  have n1 := hn.1
  have m1 := hm.1
  have n2 := hn.2
  have m2 := hm.2
  unfold tk at e1
  have x1 := tg_lt p t 1 (n / 10 % 10)
  have x2 := tg_lt p t 2 (n / 10 / 10 % 10)
  have x3 := tg_lt p t 3 (n / 10 / 10 / 10 % 10)
  have x4 := tg_lt p t 4 (n / 10 / 10 / 10 / 10 % 10)
  have y1 := tg_lt p t 1 (m / 10 % 10)
  have y2 := tg_lt p t 2 (m / 10 / 10 % 10)
  have y3 := tg_lt p t 3 (m / 10 / 10 / 10 % 10)
  have y4 := tg_lt p t 4 (m / 10 / 10 / 10 / 10 % 10)
  have d1 := tg_inj h ht (i := 1) (by decide) (by decide) (x := n / 10 % 10) (y := m / 10 % 10) (by omega) (by omega) (by omega)
  have d2 := tg_inj h ht (i := 2) (by decide) (by decide) (x := n / 10 / 10 % 10) (y := m / 10 / 10 % 10) (by omega) (by omega) (by omega)
  have d3 := tg_inj h ht (i := 3) (by decide) (by decide) (x := n / 10 / 10 / 10 % 10) (y := m / 10 / 10 / 10 % 10) (by omega) (by omega) (by omega)
  have d4 := tg_inj h ht (i := 4) (by decide) (by decide) (x := n / 10 / 10 / 10 / 10 % 10) (y := m / 10 / 10 / 10 / 10 % 10) (by omega) (by omega) (by omega)
  have e2 : n / 10 = m / 10 := by omega
  rw [e2] at n2
  omega
theorem mkv_key (h : St p g b) {t r : Nat} (ht : t < nT p) (hr : r < nR p t) : ∃ n, keyN n ∧ p 76 (72 * t + 6 * r) = nI n ∧ mkv p t r 0 = nI (if p 70 (6 * t) = 1 then tkey p t n else n) := by
  have hC := h.C ht
  obtain ⟨q1, q2, q3, q4⟩ := h.k2 ht (show 0 < nC p t by omega)
  have qc := h.cell ht hr (show 0 < nC p t by omega)
  have k0 : p 68 (6 * t + 0) = 0 := q1.mpr rfl
  rw [k0] at q4 qc
  have zm : ¬ p 76 (72 * t + 6 * r + 0) = (-2147483648) := fun z => by rw [z] at qc; exact absurd qc (by decide)
  obtain ⟨n, hn, en⟩ := isOf_key (Or.inl rfl) qc zm
  refine ⟨n, hn, en, ?_⟩
  have z4 : ¬ p 70 (6 * t + 0) = 4 := fun z => by rw [z] at q4; exact absurd (fits4 q4).2 (by decide)
  have z5 : ¬ p 70 (6 * t + 0) = 5 := fun z => by rw [z] at q4; exact fits5 q4 rfl
  have z2 : ¬ p 70 (6 * t + 0) = 2 := fun z => by rw [z] at q4; exact absurd (fits2 q4) (by decide)
  have z3 : ¬ p 70 (6 * t + 0) = 3 := fun z => by rw [z] at q4; exact absurd (fits3 q4).2.2 (by decide)
  have k1 : ¬ p 68 (6 * t + 0) = 1 := by rw [k0]; decide
  have := hn.1
  unfold mkv
  rw [if_neg z4, if_neg zm, if_neg z5, if_neg k1, if_pos k0, if_neg z2, if_neg z3, en, nI_clamp (by omega)]
  show (if p 70 (6 * t) = 1 then nI (tkey p t n) else nI n) = _
  by_cases z : p 70 (6 * t) = 1
  · rw [if_pos z, if_pos z]
  · rw [if_neg z, if_neg z]
theorem Bd_mf (h : St p g b) : Bd p (mf p) := by
  refine ⟨fun t ht c hc hk => ?_, fun t ht r hr r' hr' e => ?_⟩
  · have hR := (h.R ht).2
    have hC := h.C6 t ht
    unfold SC
    have q := ns_const (f := fun r => ab (mf p (72 * t + 6 * r + c))) (B := 10998) (nR p t) 0 (fun j _ hj => by
      show ab (mf p (72 * t + 6 * j + c)) ≤ 10998
      rw [mf_v (by omega) (by omega)]
      exact mkv_b h ht (by omega) hc hk)
    have : nR p t * 10998 ≤ 12 * 10998 := Nat.mul_le_mul hR (Nat.le_refl _)
    omega
  · have hR := (h.R ht).2
    rw [mf_v (by omega) (by decide), mf_v (by omega) (by decide)] at e
    obtain ⟨n, n1, n2, n3⟩ := mkv_key h ht hr
    obtain ⟨m, m1, m2, m3⟩ := mkv_key h ht hr'
    rw [n3, m3] at e
    have a1 := n1.1
    have a2 := m1.1
    have enm : n = m := by
      by_cases z : p 70 (6 * t) = 1
      · rw [if_pos z, if_pos z] at e
        have b1 := (tkey_key p t n).1
        have b2 := (tkey_key p t m).1
        exact tkey_inj h ht n1 m1 (nI_inj (by omega) (by omega) e)
      · rw [if_neg z, if_neg z] at e
        exact nI_inj (by omega) (by omega) e
    refine h.2.1.2.2.2.1.2 t ht r hr r' hr' ?_
    rw [n2, m2, enm]
/-- the state behind a make that holds -/
theorem St.made (h : St p g b) {p2 g2 : mI} (hM : Mm p2 g2) (e : ∀ a k, a ≠ 77 → (a ≠ 64 ∨ k ≠ 16) → p2 a k = p a k) (e16 : p2 64 16 = 1) (c12 : g2 0 12 = 1) (hc : ∀ a k, a < 64 → a ≠ 6 → a ≠ m_pD b + 1 → (a ≠ 0 ∨ k ≠ 12) → g2 a k = g a k) (h6 : I6 p2) (h7 : E7 p2 g2 (!b)) : St p2 g2 (!b) := by
  have f : ∀ a, a ≠ 77 → a ≠ 64 → p2 a = p a := fun a h1 h2 => funext fun k => e a k h1 (Or.inl h2)
  have e641 := e 64 1 (by decide) (Or.inr (by decide))
  have e6413 := e 64 13 (by decide) (Or.inr (by decide))
  have e6419 := e 64 19 (by decide) (Or.inr (by decide))
  have e6420 := e 64 20 (by decide) (Or.inr (by decide))
  have e65 := f 65 (by decide) (by decide)
  have e66 := f 66 (by decide) (by decide)
  have e67 := f 67 (by decide) (by decide)
  have e68 := f 68 (by decide) (by decide)
  have e69 := f 69 (by decide) (by decide)
  have e70 := f 70 (by decide) (by decide)
  have e71 := f 71 (by decide) (by decide)
  have e74 := f 74 (by decide) (by decide)
  have e75 := f 75 (by decide) (by decide)
  have e76 := f 76 (by decide) (by decide)
  have e79 := f 79 (by decide) (by decide)
  have e80 := f 80 (by decide) (by decide)
  have e81 := f 81 (by decide) (by decide)
  have e82 := f 82 (by decide) (by decide)
  have e83 := f 83 (by decide) (by decide)
  have e84 := f 84 (by decide) (by decide)
  have e85 := f 85 (by decide) (by decide)
  have e86 := f 86 (by decide) (by decide)
  have hT : nT p2 = nT p := by unfold nT; rw [e641]
  have hC : nC p2 = nC p := by funext t; unfold nC; rw [e65]
  have hR : nR p2 = nR p := by funext t; unfold nR; rw [e66]
  have hO : nO p2 = nO p := by funext t; unfold nO; rw [e67]
  have hW : nW p2 = nW p := by unfold nW; rw [e6419]
  have hU : nU p2 = nU p := by unfold nU; rw [e6420]
  have hT4 := h.T.2
  have hC6 := h.C6
  have hU8 := h.U.2
  have hD := pM_lt b
  have hq : ∀ a j, 16 ≤ a → a < 64 → g2 a j = g a j := fun a j h1 h2 => hc a j h2 (by omega) (by omega) (by omega)
  obtain ⟨-, ⟨i1, i2, i3, i4, i5, -⟩, ⟨e1, e2, e3, e4, e5, e6, -, e8⟩, df⟩ := h
  refine ⟨hM, ⟨?_, ?_, ?_, ?_, ?_, h6⟩, ⟨?_, ?_, ?_, ?_, ?_, ?_, h7, ?_⟩, ?_⟩
  · unfold I1; rw [hT, hC, hR, hO, e65, e66, e67, e68, e641]; exact i1
  · unfold I2; rw [hT, hC, e68, e69, e70, e71]; exact i2
  · unfold I3; rw [hT, hW, hU, e74, e75, e6413, e16, e6419, e6420]; exact ⟨i3.1, i3.2.1, Or.inr rfl, i3.2.2.2⟩
  · unfold I4; rw [hT, hC, hR, e68, e76]; exact i4
  · unfold I5; rw [hU]
    intro k hk
    have q := i5 k hk
    unfold okRule at q ⊢
    rw [hT, hC, e68, e69, e80, e81, e82, e83, e84, e85, e86]; exact q
  · obtain ⟨a1, a2, a3, a4, a5⟩ := e1
    have q : ∀ j, j ≠ 12 → g2 0 j = g 0 j := fun j hj => hc 0 j (by decide) (by decide) (by omega) (Or.inr hj)
    exact ⟨by rw [q 8 (by decide), e641]; exact a1, by rw [q 9 (by decide), e6420]; exact a2, by rw [q 10 (by decide), e6419]; exact a3, by rw [q 11 (by decide), e6413]; exact a4, by rw [c12, e16]⟩
  · intro t ht
    rw [hT] at ht
    rw [hq _ _ (by omega) (by omega), hq _ _ (by omega) (by omega), hq _ _ (by omega) (by omega), e65, e66, e67]
    exact e2 t ht
  · intro t ht c hc' j hj
    rw [hT] at ht
    rw [hC] at hc'
    have := hC6 t ht
    rw [hq _ _ (by omega) (by omega), f (68 + j) (by omega) (by omega)]
    exact e3 t ht c hc' j hj
  · intro t ht i h1 h2
    rw [hT] at ht
    rw [hq _ _ (by omega) (by omega), hq _ _ (by omega) (by omega), e74, e75]
    exact e4 t ht i h1 h2
  · intro i hi
    rw [hW] at hi
    rw [hc 3 i (by decide) (by decide) (by omega) (Or.inl (by decide)), e79]
    exact e5 i hi
  · intro t ht r hr c hc'
    rw [hT] at ht
    rw [hR] at hr
    rw [hC] at hc'
    rw [hc 5 _ (by decide) (by decide) (by omega) (Or.inl (by decide)), e76]
    exact e6 t ht r hr c hc'
  · intro k hk
    rw [hU] at hk
    have q : ∀ j, g2 (56 + k) j = g (56 + k) j := fun j => hq _ _ (by omega) (by omega)
    rw [q, q, q, q, q, q, q, e80, e81, e82, e83, e84, e85, e86]
    exact e8 k hk
  · intro t ht
    rw [hT, hC]
    refine ⟨fun hn => ⟨?_, fun i hi => ?_⟩, fun c hc' hn => ?_⟩
    · rw [hq _ _ (by omega) (by omega), hq _ _ (by omega) (by omega), hq _ _ (by omega) (by omega), hq _ _ (by omega) (by omega), hq _ _ (by omega) (by omega)]
      exact ((df t ht).1 hn).1
    · rw [hq _ _ (by omega) (by omega), hq _ _ (by omega) (by omega)]
      exact ((df t ht).1 hn).2 i hi
    · rw [hq _ _ (by omega) (by omega), hq _ _ (by omega) (by omega), hq _ _ (by omega) (by omega), hq _ _ (by omega) (by omega)]
      exact (df t ht).2 c hc' hn
theorem pM_not (b : Bool) : m_pM (!b) = m_pD b := by cases b <;> rfl
theorem s_make (h : St p g b) : ∃ v g1 b1 g2 p2, f_X6_make g b = some (v, g1, b1) ∧ f_X7_make g1 b1 = some (v, g2) ∧ St p2 g2 b1 := by
  obtain ⟨s, o, sv, e⟩ := F_makeC h
  have hs := o.st h
  have hB := Bd.all h (Bd_mf h) (nU p) (Nat.le_refl _)
  have hT4 := h.T.2
  have hD := pM_lt b
  rw [e]
  by_cases z : fbv p (mAll p (mf p) (nU p)) = 100
  · rw [if_pos z]
    have h1 : Sm p (m_up s 0 12 1) := ⟨Mm.c hs.1 (by decide), hs.2.1⟩
    obtain ⟨s2, o2, sv2, e2⟩ := F_makeMR (b := !b) h1
    rw [if_pos z] at e2
    refine ⟨_, _, _, _, m_up (fun a k => if a = 77 ∧ k < 288 then s2 87 k else p a k) 64 16 1, rfl, e2, ?_⟩
    refine h.made ?_ ?_ ?_ ?_ ?_ ?_ ?_
    · apply Mm.m
      intro a k ha
      show cpb 87 77 288 s2 a k = if a = 77 ∧ k < 288 then s2 87 k else p a k
      unfold cpb
      by_cases y : a = 77 ∧ k < 288
      · rw [if_pos y, if_pos y]
      · rw [if_neg y, if_neg y, o2 a k (fun q => ha.2.2 q) (fun q => by rw [q] at ha; exact absurd ha.2.1 (by decide))]
        exact h1.m a k ha
    · intro a k n1 n2
      rw [m_up_o (by omega)]
      show (if a = 77 ∧ k < 288 then s2 87 k else p a k) = _
      rw [if_neg (fun q => n1 q.1)]
    · rw [m_up_eq]
    · rw [m_up_o (by omega), cpb_o (by decide), o2 _ _ (by decide) (by decide), m_up_eq]
    · intro a k n1 n2 n3 n4
      rw [m_up_o (by omega), cpb_o (by omega), o2 _ _ (by omega) (by omega), m_up_o (by omega), o a k n2 n3]
    · intro _ t ht r hr c hc hk
      have eT : nT (m_up (fun a k => if a = 77 ∧ k < 288 then s2 87 k else p a k) 64 16 1) = nT p := by unfold nT; rw [m_up_o (by omega)]; rfl
      have eR : nR (m_up (fun a k => if a = 77 ∧ k < 288 then s2 87 k else p a k) 64 16 1) t = nR p t := by unfold nR; rw [m_up_o (by omega)]; rfl
      have eC : nC (m_up (fun a k => if a = 77 ∧ k < 288 then s2 87 k else p a k) 64 16 1) t = nC p t := by unfold nC; rw [m_up_o (by omega)]; rfl
      rw [eT] at ht
      rw [eR] at hr
      rw [eC] at hc
      have r12 := (h.R ht).2
      have c6 := h.C6 t ht
      have hk' : p 68 (6 * t + c) = 2 ∨ p 68 (6 * t + c) = 3 := by
        rw [m_up_o (by omega)] at hk; exact hk
      have ev : m_up (fun a k => if a = 77 ∧ k < 288 then s2 87 k else p a k) 64 16 1 77 (72 * t + 6 * r + c) = mAll p (mf p) (nU p) (72 * t + 6 * r + c) := by
        rw [m_up_o (by omega)]
        show (if 77 = 77 ∧ 72 * t + 6 * r + c < 288 then s2 87 (72 * t + 6 * r + c) else _) = _
        rw [if_pos ⟨rfl, by omega⟩]
        exact sv2 t ht r hr c hc
      rw [ev]
      have sc := hB.1 t ht c hc hk'
      have q := ns_mem (f := fun r => ab (mAll p (mf p) (nU p) (72 * t + 6 * r + c))) (nR p t) 0 r (by omega) (by omega)
      have q2 : ab (mAll p (mf p) (nU p) (72 * t + 6 * r + c)) ≤ 131976 := Nat.le_trans q sc
      by_cases y : mAll p (mf p) (nU p) (72 * t + 6 * r + c) = (-2147483648)
      · exact Or.inl y
      · right
        unfold ab at q2
        rw [if_neg y] at q2
        omega
    · intro _ t ht r hr c hc
      have eT : nT (m_up (fun a k => if a = 77 ∧ k < 288 then s2 87 k else p a k) 64 16 1) = nT p := by unfold nT; rw [m_up_o (by omega)]; rfl
      have eR : nR (m_up (fun a k => if a = 77 ∧ k < 288 then s2 87 k else p a k) 64 16 1) t = nR p t := by unfold nR; rw [m_up_o (by omega)]; rfl
      have eC : nC (m_up (fun a k => if a = 77 ∧ k < 288 then s2 87 k else p a k) 64 16 1) t = nC p t := by unfold nC; rw [m_up_o (by omega)]; rfl
      rw [eT] at ht
      rw [eR] at hr
      rw [eC] at hc
      have r12 := (h.R ht).2
      have c6 := h.C6 t ht
      have ev : m_up (fun a k => if a = 77 ∧ k < 288 then s2 87 k else p a k) 64 16 1 77 (72 * t + 6 * r + c) = mAll p (mf p) (nU p) (72 * t + 6 * r + c) := by
        rw [m_up_o (by omega)]
        show (if 77 = 77 ∧ 72 * t + 6 * r + c < 288 then s2 87 (72 * t + 6 * r + c) else _) = _
        rw [if_pos ⟨rfl, by omega⟩]
        exact sv2 t ht r hr c hc
      rw [ev, pM_not, m_up_o (by omega), cpb_o (by omega), o2 _ _ (by omega) (by omega), m_up_o (by omega)]
      exact sv t ht r hr c hc
  · rw [if_neg z]
    obtain ⟨s2, o2, sv2, e2⟩ := F_makeM hs
    rw [if_neg z] at e2
    exact ⟨_, _, _, _, p, rfl, e2, o2.st hs⟩
end MQ
