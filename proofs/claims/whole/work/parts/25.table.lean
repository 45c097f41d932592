/-! ===== table ===== -/
def dgP (T : Nat) (g : mI) : mI := m_up (m_up (m_up (m_up (m_up (m_up (m_up (m_up (m_up (m_up g 74 (5 * T) 1) 75 (5 * T) 0) 74 (5 * T + 1) 1) 75 (5 * T + 1) 0) 74 (5 * T + 2) 1) 75 (5 * T + 2) 0) 74 (5 * T + 3) 1) 75 (5 * T + 3) 0) 74 (5 * T + 4) 1) 75 (5 * T + 4) 0
def bgP (K : Nat) (k u : Int32) (g : mI) : mI := m_up (m_up (m_up (m_up (m_up (m_up g 68 K k) 69 K u) 70 K 0) 71 K 0) 72 K 1) 73 K 0
def tbP (T : Nat) (g : mI) : mI := m_up (m_up (dgP T (bgP (6 * T) 0 0 (m_up (m_up (m_up g 65 T 1) 66 T 0) 67 T 0))) 64 1 (nI (T + 1))) 64 16 0
section SK
variable {p g : mI} {b : Bool}
theorem dgP_o {T a k : Nat} (h : (a ≠ 74 ∧ a ≠ 75) ∨ k < 5 * T ∨ 5 * T + 4 < k) : dgP T g a k = g a k := by
  unfold dgP
  rw [m_up_o (by omega), m_up_o (by omega), m_up_o (by omega), m_up_o (by omega), m_up_o (by omega), m_up_o (by omega), m_up_o (by omega), m_up_o (by omega), m_up_o (by omega), m_up_o (by omega)]
theorem dgP_74 {T i : Nat} (h : i ≤ 4) : dgP T g 74 (5 * T + i) = 1 ∧ dgP T g 75 (5 * T + i) = 0 := by
  unfold dgP
  rcases (show i = 0 ∨ i = 1 ∨ i = 2 ∨ i = 3 ∨ i = 4 by omega) with rfl | rfl | rfl | rfl | rfl <;> constructor <;> simp [m_up_at]
theorem bgP_o {K a k : Nat} {x u : Int32} (h : a < 68 ∨ 73 < a ∨ k ≠ K) : bgP K x u g a k = g a k := by
  unfold bgP
  rw [m_up_o (by omega), m_up_o (by omega), m_up_o (by omega), m_up_o (by omega), m_up_o (by omega), m_up_o (by omega)]
theorem bgP_v {K : Nat} {x u : Int32} : bgP K x u g 68 K = x ∧ bgP K x u g 69 K = u ∧ bgP K x u g 70 K = 0 ∧ bgP K x u g 71 K = 0 ∧ bgP K x u g 72 K = 1 ∧ bgP K x u g 73 K = 0 := by
  unfold bgP
  refine ⟨?_, ?_, ?_, ?_, ?_, ?_⟩ <;> simp [m_up_at]
theorem F_begin {K : Nat} (hK : K < 24) (x u : Int32) : f_X7_begin g (nI K) x u = some (bgP K x u g) := by
  unfold f_X7_begin bgP
  simp only [if_pos (m_inN (n := K) (N := 24) hK (by decide)), nI_clamp (n := K) (by omega), m_let]
theorem F_table_loop {T : Nat} (hT : T < 4) (hg : g 64 1 = nI T) : lp_X7_table_56 2000 0 g = some (nI T, m_up (m_up (dgP T g) 64 1 (nI (T + 1))) 64 16 0) := by
  have step : ∀ (n i : Nat) (g' : mI), i ≤ 4 → g' 64 1 = nI T → lp_X7_table_56 (n + 1) (nI i) g' = lp_X7_table_56 n (nI (i + 1)) (m_up (m_up g' 74 (5 * T + i) 1) 75 (5 * T + i) 0) := by
    intro n i g' hi hg'
    rw [lp_X7_table_56, if_neg (show ¬ (5 : Int32) ≤ nI i from nI_ge (b := 5) (by omega) (by decide))]
    simp only [hg', nI_5ti, if_pos (m_inN (n := 5 * T + i) (N := 20) (by omega) (by decide)), nI_clamp (n := 5 * T + i) (by omega), m_let]
    rw [m_up_o (by omega), hg', nI_5ti, if_pos (m_inN (n := 5 * T + i) (N := 20) (by omega) (by decide)), nI_clamp (n := 5 * T + i) (by omega), nI_1]
  rw [show (0 : Int32) = nI 0 from rfl, step 1999 0 g (by omega) hg, step 1998 1 _ (by omega) (by rw [m_up_o (by omega), m_up_o (by omega)]; exact hg), step 1997 2 _ (by omega) (by simp [m_up_at, hg]), step 1996 3 _ (by omega) (by simp [m_up_at, hg]), step 1995 4 _ (by omega) (by simp [m_up_at, hg])]
  rw [lp_X7_table_56, if_pos (show (5 : Int32) ≤ nI (4 + 1) by decide)]
  show (m_let (m_up (dgP T g) 64 1 (dgP T g 64 1 + 1)) fun g2 => m_let (m_up g2 64 16 0) fun g4 => some (g4 64 1 - 1, g4)) = _
  simp only [m_let]
  rw [dgP_o (by omega), hg, nI_1, m_up_o (by omega), m_up_eq, nI_pred]
  rfl
theorem okRule.mono {p' : mI} {j : Nat} (h : okRule p j) (hT : nT p ≤ nT p') (hC : ∀ t, t < nT p → nC p t ≤ nC p' t) (hk : ∀ t, t < nT p → ∀ c, c < nC p t → p' 68 (6 * t + c) = p 68 (6 * t + c) ∧ p' 69 (6 * t + c) = p 69 (6 * t + c)) (hr : ∀ a, 80 ≤ a → a ≤ 86 → p' a j = p a j) : okRule p' j := by
  obtain ⟨t, ht, e1, a1, ha1, e2, q⟩ := h
  refine ⟨t, by omega, by rw [hr 81 (by omega) (by omega)]; exact e1, a1, Nat.lt_of_lt_of_le ha1 (hC t ht), by rw [hr 82 (by omega) (by omega)]; exact e2, ?_⟩
  rw [hr 80 (by omega) (by omega), hr 86 (by omega) (by omega), hr 83 (by omega) (by omega), (hk t ht a1 ha1).1]
  rcases q with ⟨z1, z2, z3, a2, y1, y2, y3⟩ | ⟨z1, z2, z3, u, y1, y2, y3, ⟨a2, w1, w2, w3⟩, e, v1, v2, v3, v4⟩ | q
  · exact Or.inl ⟨z1, z2, z3, a2, Nat.lt_of_lt_of_le y1 (hC t ht), y2, by rw [(hk t ht a2 y1).1]; exact y3⟩
  · exact Or.inr (Or.inl ⟨z1, z2, z3, u, by omega, y2, by rw [hr 84 (by omega) (by omega)]; exact y3, ⟨a2, Nat.lt_of_lt_of_le w1 (hC u y1), w2, by rw [(hk u y1 a2 w1).1]; exact w3⟩, e, Nat.lt_of_lt_of_le v1 (hC u y1), by rw [hr 85 (by omega) (by omega)]; exact v2, by rw [(hk u y1 e v1).1]; exact v3, by rw [(hk u y1 e v1).2]; exact v4⟩)
  · exact Or.inr (Or.inr q)
theorem tbP_o {T a k : Nat} (h1 : a ≠ 64 ∨ (k ≠ 1 ∧ k ≠ 16)) (h2 : (a ≠ 74 ∧ a ≠ 75) ∨ k < 5 * T ∨ 5 * T + 4 < k) (h3 : a < 68 ∨ 73 < a ∨ k ≠ 6 * T) (h4 : (a ≠ 65 ∧ a ≠ 66 ∧ a ≠ 67) ∨ k ≠ T) : tbP T g a k = g a k := by
  unfold tbP
  rw [m_up_o (by omega), m_up_o (by omega), dgP_o h2, bgP_o h3, m_up_o (by omega), m_up_o (by omega), m_up_o (by omega)]
theorem St.table (h : St p g b) (hn : nT p < 4) : St (tbP (nT p) p) (tbP (nT p) (m_up (m_up g 0 12 0) 0 8 (nI (nT p + 1)))) b := by
  obtain ⟨hM, ⟨i1, i2, i3, i4, i5, i6⟩, ⟨e1, e2, e3, e4, e5, e6, e7, e8⟩, df⟩ := id h
  have hC := h.C6
  have hU := h.U.2
  obtain ⟨T, hTe⟩ : ∃ T, T = nT p := ⟨_, rfl⟩
  rw [← hTe] at hn ⊢
  have hT' : nT (tbP T p) = T + 1 := by
    show Int32.toNatClampNeg (m_up (m_up _ 64 1 _) 64 16 _ 64 1) = T + 1
    rw [m_up_o (by omega), m_up_eq]; exact nI_clamp (by omega)
  have v1 : tbP T p 64 1 = nI (T + 1) := by unfold tbP; rw [m_up_o (by omega), m_up_eq]
  have v16 : tbP T p 64 16 = 0 := by unfold tbP; rw [m_up_eq]
  have vT : tbP T p 65 T = 1 ∧ tbP T p 66 T = 0 ∧ tbP T p 67 T = 0 := by
    unfold tbP
    refine ⟨?_, ?_, ?_⟩
    · rw [m_up_o (by omega), m_up_o (by omega), dgP_o (by omega), bgP_o (by omega), m_up_o (by omega), m_up_o (by omega), m_up_eq]
    · rw [m_up_o (by omega), m_up_o (by omega), dgP_o (by omega), bgP_o (by omega), m_up_o (by omega), m_up_eq]
    · rw [m_up_o (by omega), m_up_o (by omega), dgP_o (by omega), bgP_o (by omega), m_up_eq]
  have vB : ∀ a, 68 ≤ a → a ≤ 73 → tbP T p a (6 * T) = bgP (6 * T) 0 0 (m_up (m_up (m_up p 65 T 1) 66 T 0) 67 T 0) a (6 * T) := fun a h1 h2 => by
    unfold tbP
    rw [m_up_o (by omega), m_up_o (by omega), dgP_o (by omega)]
  obtain ⟨b0, b1, b2, b3, b4, b5⟩ := bgP_v (K := 6 * T) (x := 0) (u := 0) (g := m_up (m_up (m_up p 65 T 1) 66 T 0) 67 T 0)
  have vD : ∀ i, i ≤ 4 → tbP T p 74 (5 * T + i) = 1 ∧ tbP T p 75 (5 * T + i) = 0 := fun i hi => by
    unfold tbP
    rw [m_up_o (by omega), m_up_o (by omega), m_up_o (by omega), m_up_o (by omega)]; exact dgP_74 hi
  have oC : ∀ t, t ≠ T → nC (tbP T p) t = nC p t := fun t ht => by unfold nC; rw [tbP_o (by omega) (by omega) (by omega) (by omega)]
  have oR : ∀ t, t ≠ T → nR (tbP T p) t = nR p t := fun t ht => by unfold nR; rw [tbP_o (by omega) (by omega) (by omega) (by omega)]
  have oO : ∀ t, t ≠ T → nO (tbP T p) t = nO p t := fun t ht => by unfold nO; rw [tbP_o (by omega) (by omega) (by omega) (by omega)]
  have nCT : nC (tbP T p) T = 1 := by unfold nC; rw [vT.1]; rfl
  have nRT : nR (tbP T p) T = 0 := by unfold nR; rw [vT.2.1]; rfl
  have nOT : nO (tbP T p) T = 0 := by unfold nO; rw [vT.2.2]; rfl
  have oW : nW (tbP T p) = nW p := by unfold nW; rw [tbP_o (by omega) (by omega) (by omega) (by omega)]
  have oU : nU (tbP T p) = nU p := by unfold nU; rw [tbP_o (by omega) (by omega) (by omega) (by omega)]
  have gc : ∀ a k, a < 64 → (a ≠ 0 ∨ (k ≠ 8 ∧ k ≠ 12)) → tbP T (m_up (m_up g 0 12 0) 0 8 (nI (T + 1))) a k = g a k := fun a k h1 h2 => by
    rw [tbP_o (by omega) (by omega) (by omega) (by omega), m_up_o (by omega), m_up_o (by omega)]
  refine ⟨?_, ⟨?_, ?_, ?_, ?_, ?_, I6.z v16⟩, ⟨?_, ?_, ?_, ?_, ?_, ?_, E7.z v16, ?_⟩, ?_⟩
  · have hM2 : Mm p (m_up (m_up g 0 12 0) 0 8 (nI (T + 1))) := (hM.c (by omega)).c (by omega)
    unfold tbP dgP bgP
    exact hM2.m.m.m.m.m.m.m.m.m.m.m.m.m.m.m.m.m.m.m.m.m
  · unfold I1
    rw [hT', v1]
    refine ⟨⟨rfl, by omega⟩, fun t ht => ?_, fun t ht => ?_, fun t ht => ?_⟩
    · by_cases z : t = T
      · subst z; rw [nCT, vT.1]; exact ⟨rfl, by omega, by omega⟩
      · rw [oC t z, tbP_o (by omega) (by omega) (by omega) (by omega)]; exact i1.2.1 t (by omega)
    · by_cases z : t = T
      · subst z; rw [nRT, vT.2.1]; exact ⟨rfl, by omega⟩
      · rw [oR t z, tbP_o (by omega) (by omega) (by omega) (by omega)]; exact i1.2.2.1 t (by omega)
    · by_cases z : t = T
      · subst z; rw [nCT, nOT, vT.2.2]; exact ⟨rfl, by omega, Or.inl rfl⟩
      · have hq := i1.2.2.2 t (by omega)
        have := hC t (by omega)
        rw [oC t z, oO t z, tbP_o (by omega) (by omega) (by omega) (by omega), tbP_o (by omega) (by omega) (by omega) (by omega)]; exact hq
  · intro t ht c hc
    rw [hT'] at ht ⊢
    by_cases z : t = T
    · subst z
      rw [nCT] at hc
      have hc0 : c = 0 := by omega
      subst hc0
      rw [Nat.add_zero, vB 68 (by omega) (by omega), vB 69 (by omega) (by omega), vB 70 (by omega) (by omega), vB 71 (by omega) (by omega), b0, b1, b2, b3]
      exact ⟨⟨fun _ => rfl, fun _ => rfl⟩, Or.inl rfl, fun q => absurd q (by decide), by decide⟩
    · rw [oC t z] at hc
      have := hC t (by omega)
      rw [tbP_o (by omega) (by omega) (by omega) (by omega), tbP_o (by omega) (by omega) (by omega) (by omega), tbP_o (by omega) (by omega) (by omega) (by omega), tbP_o (by omega) (by omega) (by omega) (by omega)]
      obtain ⟨q1, q2, q3, q4⟩ := i2 t (by omega) c hc
      exact ⟨q1, q2, fun z => by obtain ⟨u, w1, w2⟩ := q3 z; exact ⟨u, by omega, w2⟩, q4⟩
  · unfold I3
    rw [hT', v16, oW, oU, tbP_o (a := 64) (k := 13) (by omega) (by omega) (by omega) (by omega), tbP_o (a := 64) (k := 19) (by omega) (by omega) (by omega) (by omega), tbP_o (a := 64) (k := 20) (by omega) (by omega) (by omega) (by omega)]
    refine ⟨fun t ht i h1 h2 => ?_, i3.2.1, Or.inl rfl, i3.2.2.2.1, i3.2.2.2.2⟩
    by_cases z : t = T
    · subst z
      rw [(vD i h2).1, (vD i h2).2]
      exact ⟨Or.inl rfl, by decide⟩
    · rw [tbP_o (by omega) (by omega) (by omega) (by omega), tbP_o (by omega) (by omega) (by omega) (by omega)]
      exact i3.1 t (by omega) i h1 h2
  · unfold I4
    rw [hT']
    refine ⟨fun t ht r hr c hc => ?_, fun t ht r hr r' hr' => ?_⟩
    · by_cases z : t = T
      · subst z; rw [nRT] at hr; omega
      · rw [oR t z] at hr
        rw [oC t z] at hc
        have := hC t (by omega)
        rw [tbP_o (by omega) (by omega) (by omega) (by omega), tbP_o (by omega) (by omega) (by omega) (by omega)]
        exact i4.1 t (by omega) r hr c hc
    · by_cases z : t = T
      · subst z; rw [nRT] at hr; omega
      · rw [oR t z] at hr hr'
        rw [tbP_o (by omega) (by omega) (by omega) (by omega), tbP_o (by omega) (by omega) (by omega) (by omega)]
        exact i4.2 t (by omega) r hr r' hr'
  · intro j hj
    rw [oU] at hj
    refine (i5 j hj).mono (by omega) (fun t ht => by rw [oC t (by omega)]; exact Nat.le_refl _) (fun t ht c hc => ?_) (fun a h1 h2 => tbP_o (by omega) (by omega) (by omega) (by omega))
    have := hC t ht
    exact ⟨tbP_o (by omega) (by omega) (by omega) (by omega), tbP_o (by omega) (by omega) (by omega) (by omega)⟩
  · obtain ⟨a1, a2, a3, a4, a5⟩ := e1
    have g8 : tbP T (m_up (m_up g 0 12 0) 0 8 (nI (T + 1))) 0 8 = nI (T + 1) := by rw [tbP_o (by omega) (by omega) (by omega) (by omega), m_up_eq]
    have g12 : tbP T (m_up (m_up g 0 12 0) 0 8 (nI (T + 1))) 0 12 = 0 := by rw [tbP_o (by omega) (by omega) (by omega) (by omega), m_up_o (by omega), m_up_eq]
    refine ⟨by rw [g8, v1], ?_, ?_, ?_, by rw [g12, v16]⟩
    · rw [gc _ _ (by omega) (by omega), tbP_o (by omega) (by omega) (by omega) (by omega)]; exact a2
    · rw [gc _ _ (by omega) (by omega), tbP_o (by omega) (by omega) (by omega) (by omega)]; exact a3
    · rw [gc _ _ (by omega) (by omega), tbP_o (by omega) (by omega) (by omega) (by omega)]; exact a4
  · intro t ht
    rw [hT'] at ht
    rw [gc _ _ (by omega) (by omega), gc _ _ (by omega) (by omega), gc _ _ (by omega) (by omega)]
    by_cases z : t = T
    · subst z
      rw [vT.1, vT.2.1, vT.2.2]
      obtain ⟨q1, q2, q3, -⟩ := ((df t hn).1 (by omega)).1
      exact ⟨q1, q2, q3⟩
    · rw [tbP_o (by omega) (by omega) (by omega) (by omega), tbP_o (by omega) (by omega) (by omega) (by omega), tbP_o (by omega) (by omega) (by omega) (by omega)]
      exact e2 t (by omega)
  · intro t ht c hc j hj
    rw [hT'] at ht
    by_cases z : t = T
    · subst z
      rw [nCT] at hc
      have hc0 : c = 0 := by omega
      subst hc0
      rw [gc _ _ (by omega) (by omega), Nat.add_zero, Nat.add_zero, vB (68 + j) (by omega) (by omega)]
      obtain ⟨-, -, -, q4, q5⟩ := ((df t hn).1 (by omega)).1
      obtain ⟨r2, r3, r4, r5⟩ := (df t hn).2 0 (by omega) (Or.inl (by omega))
      rw [Nat.add_zero] at r2 r3 r4 r5
      rcases (show j = 0 ∨ j = 1 ∨ j = 2 ∨ j = 3 ∨ j = 4 ∨ j = 5 by omega) with rfl | rfl | rfl | rfl | rfl | rfl
      · exact q4.trans b0.symm
      · exact q5.trans b1.symm
      · exact r2.trans b2.symm
      · exact r3.trans b3.symm
      · exact r4.trans b4.symm
      · exact r5.trans b5.symm
    · rw [oC t z] at hc
      have := hC t (by omega)
      rw [gc _ _ (by omega) (by omega), tbP_o (by omega) (by omega) (by omega) (by omega)]
      exact e3 t (by omega) c hc j hj
  · intro t ht i h1 h2
    rw [hT'] at ht
    rw [gc _ _ (by omega) (by omega), gc _ _ (by omega) (by omega)]
    by_cases z : t = T
    · subst z
      rw [(vD i h2).1, (vD i h2).2]
      exact ((df t hn).1 (by omega)).2 i (by omega)
    · rw [tbP_o (by omega) (by omega) (by omega) (by omega), tbP_o (by omega) (by omega) (by omega) (by omega)]
      exact e4 t (by omega) i h1 h2
  · intro i hi
    rw [oW] at hi
    rw [gc _ _ (by omega) (by omega), tbP_o (by omega) (by omega) (by omega) (by omega)]
    exact e5 i hi
  · intro t ht r hr c hc
    rw [hT'] at ht
    by_cases z : t = T
    · subst z; rw [nRT] at hr; omega
    · rw [oR t z] at hr
      rw [oC t z] at hc
      rw [gc _ _ (by omega) (by omega), tbP_o (by omega) (by omega) (by omega) (by omega)]
      exact e6 t (by omega) r hr c hc
  · intro j hj
    rw [oU] at hj
    have q : ∀ i, tbP T (m_up (m_up g 0 12 0) 0 8 (nI (T + 1))) (56 + j) i = g (56 + j) i := fun i => gc _ _ (by omega) (by omega)
    have q2 : ∀ a, 80 ≤ a → tbP T p a j = p a j := fun a ha => tbP_o (by omega) (by omega) (by omega) (by omega)
    rw [q, q, q, q, q, q, q, q2 80 (by omega), q2 81 (by omega), q2 82 (by omega), q2 83 (by omega), q2 84 (by omega), q2 85 (by omega), q2 86 (by omega)]
    exact e8 j hj
  · intro t ht
    rw [hT']
    refine ⟨fun hn2 => ⟨?_, fun i hi => ?_⟩, fun c hc hn2 => ?_⟩
    · rw [gc _ _ (by omega) (by omega), gc _ _ (by omega) (by omega), gc _ _ (by omega) (by omega), gc _ _ (by omega) (by omega), gc _ _ (by omega) (by omega)]
      exact ((df t ht).1 (by omega)).1
    · rw [gc _ _ (by omega) (by omega), gc _ _ (by omega) (by omega)]
      exact ((df t ht).1 (by omega)).2 i hi
    · rw [gc _ _ (by omega) (by omega), gc _ _ (by omega) (by omega), gc _ _ (by omega) (by omega), gc _ _ (by omega) (by omega)]
      refine (df t ht).2 c hc ?_
      by_cases z : t < T
      · rw [oC t (by omega)] at hn2
        exact Or.inr (by omega)
      · exact Or.inl (by omega)
theorem s_table (h : St p g b) : ∃ v g1 g2 p2, f_X6_table g = some (v, g1) ∧ f_X7_table g1 = some (v, g2) ∧ St p2 g2 b := by
  have hT := h.T
  unfold f_X6_table
  rw [h.e1.1, hT.1]
  by_cases h4 : nT p = 4
  · rw [h4, if_neg (show ¬ nI 4 < (4 : Int32) by decide)]
    refine ⟨-4, g, g, p, rfl, ?_, h⟩
    unfold f_X7_table
    rw [h.m 64 1 (mp_i _ (by decide)), hT.1, h4, if_pos (show nI 4 = (4 : Int32) from rfl)]
  · have hn : nT p < 4 := by omega
    rw [if_pos (show nI (nT p) < (4 : Int32) from nI_lt (b := 4) hn (by decide))]
    refine ⟨nI (nT p), m_up (m_up g 0 12 0) 0 8 (nI (nT p + 1)), _, _, ?_, ?_, h.table hn⟩
    · simp only [m_let]
      rw [m_up_eq, m_up_o (by omega), h.e1.1, hT.1, nI_1, nI_pred]
    · have hg : m_up (m_up g 0 12 0) 0 8 (nI (nT p + 1)) 64 1 = nI (nT p) := by
        rw [m_up_o (by omega), m_up_o (by omega), h.m 64 1 (mp_i _ (by decide)), hT.1]
      generalize m_up (m_up g 0 12 0) 0 8 (nI (nT p + 1)) = G at hg ⊢
      unfold f_X7_table
      have q : m_in (nI (nT p)) 4 := m_inN hn (by decide)
      have d : (nI (nT p)).toNatClampNeg = nT p := nI_clamp (by omega)
      rw [hg, if_neg (show ¬ nI (nT p) = (4 : Int32) from fun z => h4 (nI_inj (b := 4) (by omega) (by decide) z)), if_pos q]
      simp only [m_let, d]
      rw [m_up_o (by omega), hg, if_pos q, d, m_up_o (by omega), m_up_o (by omega), hg, if_pos q, d, m_up_o (by omega), m_up_o (by omega), m_up_o (by omega), hg, show (6 : Int32) * nI (nT p) = nI (6 * nT p) from by rw [show (6 : Int32) = nI 6 from rfl, pk_mul], F_begin (by omega)]
      show lp_X7_table_56 2000 0 _ = _
      rw [F_table_loop hn (by rw [bgP_o (by omega), m_up_o (by omega), m_up_o (by omega), m_up_o (by omega), hg])]
      rfl
end SK
