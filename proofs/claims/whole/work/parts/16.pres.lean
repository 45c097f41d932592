/-! ===== what one store leaves as it was ===== -/
theorem m_up_o {g : mI} {a k a' k' : Nat} {x : Int32} (h : a' ≠ a ∨ k' ≠ k) : m_up g a k x a' k' = g a' k' := by
  rw [m_up_at, if_neg]; rintro ⟨h1, h2⟩; rcases h with h | h <;> exact h ‹_›
section PR
variable {p g : mI} {b : Bool} {a k : Nat} {x : Int32}
theorem nT_up (h : 64 ≠ a ∨ 1 ≠ k) : nT (m_up p a k x) = nT p := by unfold nT; rw [m_up_o h]
theorem nC_up {t : Nat} (h : 65 ≠ a ∨ t ≠ k) : nC (m_up p a k x) t = nC p t := by unfold nC; rw [m_up_o h]
theorem nR_up {t : Nat} (h : 66 ≠ a ∨ t ≠ k) : nR (m_up p a k x) t = nR p t := by unfold nR; rw [m_up_o h]
theorem nO_up {t : Nat} (h : 67 ≠ a ∨ t ≠ k) : nO (m_up p a k x) t = nO p t := by unfold nO; rw [m_up_o h]
theorem nW_up (h : 64 ≠ a ∨ 19 ≠ k) : nW (m_up p a k x) = nW p := by unfold nW; rw [m_up_o h]
theorem nU_up (h : 64 ≠ a ∨ 20 ≠ k) : nU (m_up p a k x) = nU p := by unfold nU; rw [m_up_o h]
theorem Mm.c (h : Mm p g) (ha : a < 64) : Mm p (m_up g a k x) := fun a' k' h' => by
  have h2 := h'.1
  rw [m_up_o (Or.inl (by omega))]; exact h a' k' h'
theorem Mm.m (h : Mm p g) : Mm (m_up p a k x) (m_up g a k x) := fun a' k' h' => by rw [m_up_at, m_up_at, h a' k' h']
theorem Mm.s (h : Mm p g) (ha : ¬ mp a) : Mm p (m_up g a k x) := fun a' k' h' => by
  rw [m_up_o (Or.inl (fun e : a' = a => ha (by rw [← e]; exact h')))]; exact h a' k' h'
theorem I1.m (h : I1 p) (h5 : a ≠ 65) (h6 : a ≠ 66) (h7 : a ≠ 67) (h8 : a ≠ 68) (h1 : a ≠ 64 ∨ k ≠ 1) : I1 (m_up p a k x) := by
  unfold I1
  rw [nT_up (by omega), m_up_o (by omega)]
  refine ⟨h.1, fun t ht => ?_, fun t ht => ?_, fun t ht => ?_⟩
  · rw [nC_up (by omega), m_up_o (by omega)]; exact h.2.1 t ht
  · rw [nR_up (by omega), m_up_o (by omega)]; exact h.2.2.1 t ht
  · rw [nC_up (by omega), nO_up (by omega), m_up_o (by omega), m_up_o (by omega)]; exact h.2.2.2 t ht
theorem I2.m (h : I2 p) (h5 : a ≠ 65) (h8 : a < 68 ∨ 71 < a) (h1 : a ≠ 64 ∨ k ≠ 1) : I2 (m_up p a k x) := by
  unfold I2
  rw [nT_up (by omega)]
  intro t ht c hc
  rw [nC_up (by omega)] at hc
  rw [m_up_o (by omega), m_up_o (by omega), m_up_o (by omega), m_up_o (by omega)]
  exact h t ht c hc
theorem I3.m (h : I3 p) (h4 : a ≠ 74 ∧ a ≠ 75) (h1 : a ≠ 64 ∨ (k ≠ 1 ∧ k ≠ 13 ∧ k ≠ 16 ∧ k ≠ 19 ∧ k ≠ 20)) : I3 (m_up p a k x) := by
  unfold I3
  rw [nT_up (by omega), nW_up (by omega), nU_up (by omega), m_up_o (by omega), m_up_o (by omega), m_up_o (by omega), m_up_o (by omega)]
  refine ⟨fun t ht i h1 h2 => ?_, h.2⟩
  rw [m_up_o (by omega), m_up_o (by omega)]
  exact h.1 t ht i h1 h2
theorem I4.m (h : I4 p) (h5 : a ≠ 65 ∧ a ≠ 66 ∧ a ≠ 68 ∧ a ≠ 76) (h1 : a ≠ 64 ∨ k ≠ 1) : I4 (m_up p a k x) := by
  unfold I4
  rw [nT_up (by omega)]
  refine ⟨fun t ht r hr c hc => ?_, fun t ht r hr r' hr' => ?_⟩
  · rw [nR_up (by omega)] at hr
    rw [nC_up (by omega)] at hc
    rw [m_up_o (by omega), m_up_o (by omega)]
    exact h.1 t ht r hr c hc
  · rw [nR_up (by omega)] at hr hr'
    rw [m_up_o (by omega), m_up_o (by omega)]
    exact h.2 t ht r hr r' hr'
theorem okRule.m {j : Nat} (h : okRule p j) (h5 : a ≠ 65 ∧ a ≠ 68 ∧ a ≠ 69) (h8 : a < 80 ∨ 86 < a ∨ k ≠ j) (h1 : a ≠ 64 ∨ k ≠ 1) : okRule (m_up p a k x) j := by
  obtain ⟨t, ht, e1, a1, ha1, e2, q⟩ := h
  refine ⟨t, by rw [nT_up (by omega)]; exact ht, by rw [m_up_o (by omega)]; exact e1, a1, by rw [nC_up (by omega)]; exact ha1, by rw [m_up_o (by omega)]; exact e2, ?_⟩
  rw [m_up_o (a' := 80) (by omega), m_up_o (a' := 86) (by omega), m_up_o (a' := 83) (by omega), m_up_o (a' := 68) (by omega)]
  rcases q with ⟨z1, z2, z3, a2, y1, y2, y3⟩ | ⟨z1, z2, z3, u, y1, y2, y3, ⟨a2, w1, w2, w3⟩, e, v1, v2, v3, v4⟩ | q
  · exact Or.inl ⟨z1, z2, z3, a2, by rw [nC_up (by omega)]; exact y1, y2, by rw [m_up_o (by omega)]; exact y3⟩
  · exact Or.inr (Or.inl ⟨z1, z2, z3, u, by rw [nT_up (by omega)]; exact y1, y2, by rw [m_up_o (by omega)]; exact y3, ⟨a2, by rw [nC_up (by omega)]; exact w1, w2, by rw [m_up_o (by omega)]; exact w3⟩, e, by rw [nC_up (by omega)]; exact v1, by rw [m_up_o (by omega)]; exact v2, by rw [m_up_o (by omega)]; exact v3, by rw [m_up_o (by omega)]; exact v4⟩)
  · exact Or.inr (Or.inr q)
theorem I5.m (h : I5 p) (h5 : a ≠ 65 ∧ a ≠ 68 ∧ a ≠ 69) (h8 : a < 80 ∨ 86 < a ∨ nU p ≤ k) (h1 : a ≠ 64 ∨ (k ≠ 1 ∧ k ≠ 20)) : I5 (m_up p a k x) := by
  unfold I5
  rw [nU_up (by omega)]
  exact fun j hj => (h j hj).m h5 (by omega) (by omega)
theorem I6.m (h : I6 p) (h5 : a ≠ 65 ∧ a ≠ 66 ∧ a ≠ 68 ∧ a ≠ 77) (h1 : a ≠ 64 ∨ (k ≠ 1 ∧ k ≠ 16)) : I6 (m_up p a k x) := by
  unfold I6
  rw [nT_up (by omega), m_up_o (by omega)]
  intro hm t ht r hr c hc
  rw [nR_up (by omega)] at hr
  rw [nC_up (by omega)] at hc
  rw [m_up_o (by omega), m_up_o (by omega)]
  exact h hm t ht r hr c hc
theorem I6.z (h : p 64 16 = 0) : I6 p := fun q => absurd (h.symm.trans q) (by decide)
theorem E1.c (h : E1 p g) (h1 : a ≠ 0 ∨ (k ≠ 8 ∧ k ≠ 9 ∧ k ≠ 10 ∧ k ≠ 11 ∧ k ≠ 12)) : E1 p (m_up g a k x) := by
  unfold E1
  rw [m_up_o (by omega), m_up_o (by omega), m_up_o (by omega), m_up_o (by omega), m_up_o (by omega)]; exact h
theorem E1.m (h : E1 p g) (ha : 64 ≤ a) (h1 : a ≠ 64 ∨ (k ≠ 1 ∧ k ≠ 13 ∧ k ≠ 16 ∧ k ≠ 19 ∧ k ≠ 20)) : E1 (m_up p a k x) (m_up g a k x) := by
  unfold E1
  simp only [m_up_o (g := g) (a := a) (k := k) (x := x) (a' := 0) (Or.inl (show (0 : Nat) ≠ a by omega))]
  rw [m_up_o (by omega), m_up_o (by omega), m_up_o (by omega), m_up_o (by omega), m_up_o (by omega)]; exact h
theorem E2.c (h : E2 p g) (h4 : nT p ≤ 4) (h1 : a < 16 ∨ 56 ≤ a ∨ k < 3 ∨ 5 < k ∨ a % 10 ≠ 6) : E2 p (m_up g a k x) := fun t ht => by
  rw [m_up_o (by omega), m_up_o (by omega), m_up_o (by omega)]; exact h t ht
theorem E2.m (h : E2 p g) (h4 : nT p ≤ 4) (ha : 64 ≤ a) (h5 : a ≠ 65 ∧ a ≠ 66 ∧ a ≠ 67) (h1 : a ≠ 64 ∨ k ≠ 1) : E2 (m_up p a k x) (m_up g a k x) := fun t ht => by
  rw [nT_up (by omega)] at ht
  rw [m_up_o (by omega), m_up_o (by omega), m_up_o (by omega), m_up_o (by omega), m_up_o (by omega), m_up_o (by omega)]; exact h t ht
theorem E3.c (h : E3 p g) (hT : nT p ≤ 4) (hC : ∀ t, t < nT p → nC p t ≤ 6) (h1 : a < 20 ∨ 56 ≤ a ∨ 5 < k ∨ 6 ≤ a % 10 ∨ ∀ t c, t < nT p → c < nC p t → a ≠ 20 + 10 * t + c) : E3 p (m_up g a k x) := fun t ht c hc j hj => by
  have := hC t ht
  rw [m_up_o]
  · exact h t ht c hc j hj
  · rcases h1 with q | q | q | q | q
    · omega
    · omega
    · omega
    · omega
    · exact Or.inl (Ne.symm (q t c ht hc))
theorem E3.m (h : E3 p g) (hT : nT p ≤ 4) (hC : ∀ t, t < nT p → nC p t ≤ 6) (ha : 64 ≤ a) (h5 : a ≠ 65 ∧ (a < 68 ∨ 73 < a)) (h1 : a ≠ 64 ∨ k ≠ 1) : E3 (m_up p a k x) (m_up g a k x) := fun t ht c hc j hj => by
  rw [nT_up (by omega)] at ht
  rw [nC_up (by omega)] at hc
  have := hC t ht
  rw [m_up_o (by omega), m_up_o (by omega)]; exact h t ht c hc j hj
theorem E4.c (h : E4 p g) (h4 : nT p ≤ 4) (h1 : a < 18 ∨ 56 ≤ a ∨ k < 1 ∨ 4 < k ∨ (a % 10 ≠ 8 ∧ a % 10 ≠ 9) ∨ ∀ t, t < nT p → a ≠ 18 + 10 * t ∧ a ≠ 19 + 10 * t) : E4 p (m_up g a k x) := fun t ht i h2 h3 => by
  have hne : (18 + 10 * t ≠ a ∨ i ≠ k) ∧ (19 + 10 * t ≠ a ∨ i ≠ k) := by
    rcases h1 with q | q | q | q | q | q
    · omega
    · omega
    · omega
    · omega
    · omega
    · exact ⟨Or.inl (Ne.symm (q t ht).1), Or.inl (Ne.symm (q t ht).2)⟩
  rw [m_up_o hne.1, m_up_o hne.2]; exact h t ht i h2 h3
theorem E4.m (h : E4 p g) (h4 : nT p ≤ 4) (ha : 64 ≤ a) (h5 : a ≠ 74 ∧ a ≠ 75) (h1 : a ≠ 64 ∨ k ≠ 1) : E4 (m_up p a k x) (m_up g a k x) := fun t ht i h2 h3 => by
  rw [nT_up (by omega)] at ht
  rw [m_up_o (by omega), m_up_o (by omega), m_up_o (by omega), m_up_o (by omega)]; exact h t ht i h2 h3
theorem E5.c (h : E5 p g) (h1 : a ≠ 3 ∨ nW p ≤ k) : E5 p (m_up g a k x) := fun i hi => by
  rw [m_up_o (by omega)]; exact h i hi
theorem E5.m (h : E5 p g) (ha : 64 ≤ a) (h5 : a ≠ 79 ∨ nW p ≤ k) (h1 : a ≠ 64 ∨ k ≠ 19) : E5 (m_up p a k x) (m_up g a k x) := fun i hi => by
  rw [nW_up (by omega)] at hi
  rw [m_up_o (by omega), m_up_o (by omega)]; exact h i hi
theorem E6.c (h : E6 p g) (h1 : a ≠ 5) : E6 p (m_up g a k x) := fun t ht r hr c hc => by
  rw [m_up_o (by omega)]; exact h t ht r hr c hc
theorem E6.m (h : E6 p g) (ha : 64 ≤ a) (h5 : a ≠ 65 ∧ a ≠ 66 ∧ a ≠ 76) (h1 : a ≠ 64 ∨ k ≠ 1) : E6 (m_up p a k x) (m_up g a k x) := fun t ht r hr c hc => by
  rw [nT_up (by omega)] at ht
  rw [nR_up (by omega)] at hr
  rw [nC_up (by omega)] at hc
  rw [m_up_o (by omega), m_up_o (by omega)]; exact h t ht r hr c hc
theorem pM_lt (b : Bool) : m_pM b + 1 < 16 ∧ 13 ≤ m_pM b + 1 ∧ m_pD b + 1 < 16 ∧ 13 ≤ m_pD b + 1 ∧ m_pM b ≠ m_pD b := by cases b <;> decide
theorem E7.c (h : E7 p g b) (h1 : a ≠ m_pM b + 1) : E7 p (m_up g a k x) b := fun hm t ht r hr c hc => by
  rw [m_up_o (by omega)]; exact h hm t ht r hr c hc
theorem E7.m (h : E7 p g b) (ha : 64 ≤ a) (h5 : a ≠ 65 ∧ a ≠ 66 ∧ a ≠ 77) (h1 : a ≠ 64 ∨ (k ≠ 1 ∧ k ≠ 16)) : E7 (m_up p a k x) (m_up g a k x) b := fun hm t ht r hr c hc => by
  rw [m_up_o (by omega)] at hm
  rw [nT_up (by omega)] at ht
  rw [nR_up (by omega)] at hr
  rw [nC_up (by omega)] at hc
  have := pM_lt b
  rw [m_up_o (by omega), m_up_o (by omega)]; exact h hm t ht r hr c hc
theorem E7.z (h : p 64 16 = 0) : E7 p g b := fun q => absurd (h.symm.trans q) (by decide)
theorem E8.c (h : E8 p g) (h1 : a < 56 ∨ 64 ≤ a ∨ 56 + nU p ≤ a) (hU : nU p ≤ 8) : E8 p (m_up g a k x) := fun j hj => by
  have q : ∀ i, m_up g a k x (56 + j) i = g (56 + j) i := fun i => m_up_o (by omega)
  rw [q, q, q, q, q, q, q]; exact h j hj
theorem E8.m (h : E8 p g) (hU : nU p ≤ 8) (ha : 64 ≤ a) (h5 : a < 80 ∨ 86 < a ∨ nU p ≤ k) (h1 : a ≠ 64 ∨ k ≠ 20) : E8 (m_up p a k x) (m_up g a k x) := fun j hj => by
  rw [nU_up (by omega)] at hj
  have q : ∀ i, m_up g a k x (56 + j) i = g (56 + j) i := fun i => m_up_o (by omega)
  rw [q, q, q, q, q, q, q, m_up_o (a' := 80) (by omega), m_up_o (a' := 81) (by omega), m_up_o (a' := 82) (by omega), m_up_o (a' := 83) (by omega), m_up_o (a' := 84) (by omega), m_up_o (a' := 85) (by omega), m_up_o (a' := 86) (by omega)]
  exact h j hj
/-- a store that hits no table and no column that is not in use -/
theorem Df.c (h : Df p g) (h1 : a < 16 ∨ 56 ≤ a ∨ ∃ t, t < nT p ∧ t < 4 ∧ ((a = 16 + 10 * t ∧ k ≠ 99) ∨ a = 18 + 10 * t ∨ a = 19 + 10 * t ∨ ∃ c, c < nC p t ∧ c < 6 ∧ a = 20 + 10 * t + c)) : Df p (m_up g a k x) := fun t ht => by
  have key : ∀ (a' j : Nat), ((∃ c, c < 6 ∧ (nT p ≤ t ∨ nC p t ≤ c) ∧ a' = 20 + 10 * t + c) ∨ (nT p ≤ t ∧ (a' = 16 + 10 * t ∨ a' = 18 + 10 * t ∨ a' = 19 + 10 * t))) → m_up g a k x a' j = g a' j := by
    intro a' j hh
    refine m_up_o (Or.inl ?_)
    rintro rfl
    rcases h1 with q | q | ⟨t', w1, w2, w3⟩
    · rcases hh with ⟨c, z1, z2, z3⟩ | ⟨z1, z2⟩ <;> omega
    · rcases hh with ⟨c, z1, z2, z3⟩ | ⟨z1, z2⟩ <;> omega
    · rcases hh with ⟨c, z1, z2, z3⟩ | ⟨z1, z2⟩
      · rcases w3 with w | w | w | ⟨c', v1, v2, v3⟩
        · omega
        · omega
        · omega
        · have e1 : t' = t := by omega
          subst e1
          have e2 : c' = c := by omega
          subst e2
          omega
      · rcases w3 with w | w | w | ⟨c', v1, v2, v3⟩ <;> omega
  refine ⟨fun hn => ⟨?_, fun i hi => ?_⟩, fun c hc hn => ?_⟩
  · rw [key _ 3 (Or.inr ⟨hn, Or.inl rfl⟩), key _ 4 (Or.inr ⟨hn, Or.inl rfl⟩), key _ 5 (Or.inr ⟨hn, Or.inl rfl⟩), key (20 + 10 * t) 0 (Or.inl ⟨0, by omega, Or.inl hn, rfl⟩), key (20 + 10 * t) 1 (Or.inl ⟨0, by omega, Or.inl hn, rfl⟩)]
    exact ((h t ht).1 hn).1
  · rw [key _ i (Or.inr ⟨hn, Or.inr (Or.inl rfl)⟩), key _ i (Or.inr ⟨hn, Or.inr (Or.inr rfl)⟩)]
    exact ((h t ht).1 hn).2 i hi
  · rw [key _ 2 (Or.inl ⟨c, hc, hn, rfl⟩), key _ 3 (Or.inl ⟨c, hc, hn, rfl⟩), key _ 4 (Or.inl ⟨c, hc, hn, rfl⟩), key _ 5 (Or.inl ⟨c, hc, hn, rfl⟩)]
    exact (h t ht).2 c hc hn
theorem Df.q {p' : mI} (h : Df p g) (hT : nT p' = nT p) (hC : ∀ t, t < nT p → nC p' t = nC p t) : Df p' g := fun t ht => by
  rw [hT]
  refine ⟨(h t ht).1, fun c hc hn => (h t ht).2 c hc ?_⟩
  by_cases q : nT p ≤ t
  · exact Or.inl q
  · rw [hC t (by omega)] at hn; exact hn
theorem Df.m (h : Df p g) (ha : 64 ≤ a) (h5 : a ≠ 65) (h1 : a ≠ 64 ∨ k ≠ 1) : Df (m_up p a k x) (m_up g a k x) := by
  have h2 : Df p (m_up g a k x) := h.c (Or.inr (Or.inl (by omega)))
  exact h2.q (nT_up (by omega)) (fun t _ => nC_up (by omega))
end PR
