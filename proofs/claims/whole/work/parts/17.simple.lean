/-! ===== simple calls ===== -/
section SC
variable {p g : mI} {b : Bool}
theorem St.U (h : St p g b) : p 64 20 = nI (nU p) ∧ nU p ≤ 8 := h.2.1.2.2.1.2.2.2.2
theorem St.W (h : St p g b) : p 64 19 = nI (nW p) ∧ nW p ≤ 6 := h.2.1.2.2.1.2.2.2.1
theorem St.hm (h : St p g b) : p 64 16 = 0 ∨ p 64 16 = 1 := h.2.1.2.2.1.2.2.1
theorem St.sd (h : St p g b) : f_X7_in (p 64 13) 0 60 = true := h.2.1.2.2.1.2.1
theorem St.C6 (h : St p g b) : ∀ t, t < nT p → nC p t ≤ 6 := fun t ht => (h.C ht).2.2
theorem mp_i (a : Nat) (h : 64 ≤ a ∧ a ≤ 86 ∧ a ≠ 78) : mp a := h
theorem s_seed (h : St p g b) (s : Int32) : ∃ v g1 g2 p2, f_X6_seed g s = some (v, g1) ∧ f_X7_seed g1 s = some (v, g2) ∧ St p2 g2 b := by
  unfold f_X6_seed f_X7_seed
  cases e : f_X7_in s 0 60 with
  | false =>
    have hz : ¬ (0 ≤ s ∧ s ≤ 60) := fun q => by rw [(in_iff s 0 60).mpr q] at e; cases e
    refine ⟨-2, g, g, p, ?_, rfl, h⟩
    by_cases h0 : s < 0
    · rw [if_pos h0]
    · rw [if_neg h0, if_neg (fun q => hz ⟨Int32.not_lt.mp h0, q⟩)]
  | true =>
    have hz := (in_iff s 0 60).mp e
    rw [if_neg (Int32.not_lt.mpr hz.1), if_pos hz.2]
    obtain ⟨hM, ⟨i1, i2, i3, i4, i5, i6⟩, ⟨e1, e2, e3, e4, e5, e6, e7, e8⟩, df⟩ := id h
    refine ⟨g 0 11, m_up g 0 11 s, m_up (m_up g 0 11 s) 64 13 s, m_up p 64 13 s, rfl, ?_, ?_⟩
    · show some (m_up g 0 11 s 64 13, _) = some _
      rw [m_up_o (Or.inl (by decide)), h.m 64 13 (mp_i _ (by decide)), e1.2.2.2.1]
    · have hT := h.T.2
      refine ⟨(hM.c (by decide)).m, ⟨i1.m (by decide) (by decide) (by decide) (by decide) (by decide), i2.m (by decide) (by decide) (by decide), ?_, i4.m (by decide) (by decide), i5.m (by decide) (by omega) (by decide), i6.m (by decide) (by decide)⟩, ⟨?_, (e2.c hT (by omega)).m hT (by decide) (by decide) (by decide), (e3.c hT h.C6 (by omega)).m hT h.C6 (by decide) (by decide) (by decide), (e4.c hT (by omega)).m hT (by decide) (by decide) (by decide), (e5.c (by omega)).m (by decide) (by omega) (by decide), (e6.c (by decide)).m (by decide) (by decide) (by decide), (e7.c (by have := pM_lt b; omega)).m (by decide) (by decide) (by decide), (e8.c (by omega) h.U.2).m h.U.2 (by decide) (by omega) (by decide)⟩, (df.c (by omega)).m (by decide) (by decide) (by decide)⟩
      · unfold I3
        rw [nT_up (by decide), nW_up (by decide), nU_up (by decide), m_up_eq, m_up_o (by decide), m_up_o (by decide), m_up_o (by decide)]
        refine ⟨fun t ht i h1 h2 => ?_, e, i3.2.2⟩
        rw [m_up_o (by omega), m_up_o (by omega)]
        exact i3.1 t ht i h1 h2
      · obtain ⟨a1, a2, a3, a4, a5⟩ := e1
        refine ⟨?_, ?_, ?_, ?_, ?_⟩
        · rw [m_up_o (by decide), m_up_o (by decide), m_up_o (by decide)]; exact a1
        · rw [m_up_o (by decide), m_up_o (by decide), m_up_o (by decide)]; exact a2
        · rw [m_up_o (by decide), m_up_o (by decide), m_up_o (by decide)]; exact a3
        · rw [m_up_o (by decide), m_up_eq, m_up_eq]
        · rw [m_up_o (by decide), m_up_o (by decide), m_up_o (by decide)]; exact a5
end SC
