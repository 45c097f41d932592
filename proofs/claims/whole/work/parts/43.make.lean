/-! ===== make, the reference's side ===== -/
theorem loop_P {σ R : Type} {lp : Nat → Int32 → σ → Option R} {N : Nat} {Inv : Nat → σ → Prop} {P : Option R → Prop} (hd : ∀ n s, Inv N s → P (lp (n + 1) (nI N) s)) (hs : ∀ n i s, i < N → Inv i s → ∃ s', Inv (i + 1) s' ∧ lp (n + 1) (nI i) s = lp n (nI (i + 1)) s') : ∀ (k i n : Nat) (s : σ), i + k = N → k < n → Inv i s → P (lp n (nI i) s)
  | 0, i, n, s, h1, h2, h3 => by
    obtain ⟨m, rfl⟩ : ∃ m, n = m + 1 := ⟨n - 1, by omega⟩
    have : i = N := by omega
    subst this
    exact hd m s h3
  | k + 1, i, n, s, h1, h2, h3 => by
    obtain ⟨m, rfl⟩ : ∃ m, n = m + 1 := ⟨n - 1, by omega⟩
    obtain ⟨s', q1, q2⟩ := hs m i s (by omega) h3
    rw [q2]
    exact loop_P hd hs k (i + 1) m s' (by omega) (by omega) q1
theorem ffb_v {q : Nat → Bool} : ∀ (k i : Nat), ffb q i k = 100 ∨ ∃ j, j < i + k ∧ ffb q i k = nI j
  | 0, _ => Or.inl rfl
  | k + 1, i => by
    show (bif q i then ffb q (i + 1) k else nI i) = 100 ∨ ∃ j, j < i + (k + 1) ∧ (bif q i then ffb q (i + 1) k else nI i) = nI j
    cases q i with
    | true =>
      rcases ffb_v (q := q) k (i + 1) with z | ⟨j, z1, z2⟩
      · exact Or.inl z
      · exact Or.inr ⟨j, by omega, z2⟩
    | false => exact Or.inr ⟨i, by omega, rfl⟩
def cpb (A B : Nat) (i : Nat) (s : mI) : mI := fun a k => if a = B ∧ k < i then s A k else s a k
theorem cpb_o {A B i a k : Nat} {s : mI} (h : a ≠ B) : cpb A B i s a k = s a k := by
  unfold cpb
  rw [if_neg (fun q => h q.1)]
theorem cpb_up {A B : Nat} (hAB : A ≠ B) (i : Nat) (s : mI) : m_up (cpb A B i s) B i (cpb A B i s A i) = cpb A B (i + 1) s := by
  rw [cpb_o hAB]
  funext a k
  rw [m_up_at]
  unfold cpb
  by_cases h1 : a = B
  · by_cases h2 : k = i
    · rw [if_pos ⟨h1, h2⟩, if_pos ⟨h1, by omega⟩, h2]
    · rw [if_neg (fun q => h2 q.2)]
      by_cases h3 : k < i
      · rw [if_pos ⟨h1, h3⟩, if_pos ⟨h1, by omega⟩]
      · rw [if_neg (show ¬ (a = B ∧ k < i) from fun q => h3 q.2), if_neg (show ¬ (a = B ∧ k < i + 1) from fun q => by omega)]
  · rw [if_neg (show ¬ (a = B ∧ k = i) from fun q => h1 q.1), if_neg (show ¬ (a = B ∧ k < i) from fun q => h1 q.1), if_neg (show ¬ (a = B ∧ k < i + 1) from fun q => h1 q.1)]
theorem cpb_0 (A B : Nat) (s : mI) : cpb A B 0 s = s := by
  funext a k
  unfold cpb
  rw [if_neg (fun q => by omega)]
theorem cpb_i {A B i k : Nat} {s : mI} (h : k < i) : cpb A B i s B k = s A k := by
  unfold cpb
  rw [if_pos ⟨rfl, h⟩]
section MN
variable {p g : mI} {b : Bool}
def ofR (g g' : mI) : Prop := ∀ a k, a ≠ 78 → a ≠ 87 → g' a k = g a k
theorem ofR.st {g' : mI} (h : ofR g g') (hs : St p g b) : St p g' b := hs.congr fun a k ha => h a k (fun e => np78 b (e ▸ ha)) (fun e => np87 b (e ▸ ha))
theorem F_m151 (x : Int32) (k2 k23 k50 : Int32 → mI → Option (Int32 × mI)) (s : mI) : lp_X7_make_151 b x k2 k23 k50 2000 0 s = some (100, m_up (cpb 87 77 288 s) 64 16 1) := by
  have key := loop_st (lp := lp_X7_make_151 b x k2 k23 k50) (N := 288) (st := fun i => cpb 87 77 i s) (fin := some (100, m_up (cpb 87 77 288 s) 64 16 1)) ?_ ?_ 288 0 2000 rfl (by decide)
  · simp only [cpb_0] at key
    exact key
  · intro n
    rw [lp_X7_make_151, if_pos (show (288 : Int32) ≤ nI 288 by decide)]
    rfl
  · intro n i hi
    have n1 : m_in (nI i) 288 := m_inN hi (by decide)
    have d1 : (nI i).toNatClampNeg = i := nI_clamp (by omega)
    rw [lp_X7_make_151, if_neg (show ¬ (288 : Int32) ≤ nI i from nI_ge (b := 288) hi (by decide)), if_pos n1, d1, nI_1]
    simp only [m_let]
    rw [cpb_up (by decide)]
/-- what make answers -/
def mkP (p g : mI) (F : Nat → Int32) (r : Option (Int32 × mI)) : Prop := ∃ s, ofR g s ∧ sameV p s 87 F ∧ r = if fbv p F = 100 then some (fbv p F, m_up (cpb 87 77 288 s) 64 16 1) else some (fbv p F, s)
theorem F_m50 (h : St p g b) {s : mI} (hs : ofR g s) {F : Nat → Int32} (sv : sameV p s 87 F) (k2 k23 : Int32 → mI → Option (Int32 × mI)) : mkP p g (mAll p F (nU p)) (lp_X7_make_50 b k2 k23 2000 (nI 0) s) := by
  have hU := h.U
  have hT := h.T.2
  refine loop_P (lp := lp_X7_make_50 b k2 k23) (N := nU p) (Inv := fun i s => ofR g s ∧ sameV p s 87 (mAll p F i)) ?_ ?_ (nU p) 0 2000 s (by omega) (by omega) ⟨hs, sv⟩
  · intro n s hs
    have h' := hs.1.st h
    refine ⟨s, hs.1, hs.2, ?_⟩
    rw [lp_X7_make_50, h'.m 64 20 (mp_i _ (by decide)), hU.1, if_pos (Int32.le_refl _), F_brokenM h' hs.2, Option.bind_some]
    by_cases z : fbv p (mAll p F (nU p)) = 100
    · rw [if_pos z, z, if_pos (show (100 : Int32) ≤ 100 by decide), F_m151]
    · rw [if_neg z]
      rcases ffb_v (q := ruleB p (mAll p F (nU p))) (nU p) 0 with y | ⟨j, y1, y2⟩
      · exact absurd y z
      · have y3 : fbv p (mAll p F (nU p)) = nI j := y2
        rw [y3, if_neg (show ¬ (100 : Int32) ≤ nI j from nI_ge (b := 100) (by omega) (by decide))]
  · intro n k s hk hs
    have h' := hs.1.st h
    have nk : m_in (nI k) 8 := m_inN (by omega) (by decide)
    have dk : (nI k).toNatClampNeg = k := nI_clamp (by omega)
    obtain ⟨t, t1, t2, a, a1, a2, q⟩ := h.rule hk
    have hCt := h.C t1
    have hRt := h.R t1
    have ct : cl (p 81 k) = t := by rw [t2]; exact cl_nI (by omega)
    have nt : m_in (nI t) 4 := m_inN (by omega) (by decide)
    have dt : (nI t).toNatClampNeg = t := nI_clamp (by omega)
    have em : mAll p F (k + 1) = mOne p k (mAll p F k) := rfl
    unfold mOne at em
    rw [ct] at em
    rw [lp_X7_make_50, h'.m 64 20 (mp_i _ (by decide)), hU.1, if_neg (nI_ge hk (by omega))]
    by_cases w2 : p 86 k = 0
    · rw [if_neg (fun q => q.2 w2)] at em
      refine ⟨s, ⟨hs.1, by rw [em]; exact hs.2⟩, ?_⟩
      rw [lp_X7_make_60, if_pos nk, dk, h'.m 81 _ (mp_i _ (by decide)), t2, if_pos nt, dt, h'.m 66 _ (mp_i _ (by decide)), hRt.1, h'.m 86 _ (mp_i _ (by decide)), if_pos w2, nI_1]
      by_cases w3 : nI (nR p t) ≤ 0
      · rw [if_pos w3]
      · rw [if_neg w3]
    · have w1 : p 80 k = 1 := by
        rcases q with ⟨z1, z2, z3, _⟩ | ⟨z1, _⟩ | ⟨z1, z2, z3, z4⟩
        · exact absurd z3 w2
        · exact z1
        · exact absurd z3 w2
      rw [if_pos ⟨w1, w2⟩] at em
      obtain ⟨t', a', u, e2, e, hr1, -⟩ := h.rl1 hk w1
      obtain ⟨⟨T1, T2, T3, T4⟩, T5, ⟨u1, u2⟩, ⟨y1, y2⟩, ⟨z1, z2⟩⟩ := id hr1
      have et : t' = t := nI_inj (by omega) (by omega) (T2.symm.trans t2)
      subst et
      have key := loop_inv (lp := lp_X7_make_60 b (nI k) k2 k23 (fun y50_1 g50 => lp_X7_make_50 b k2 k23 n y50_1 g50)) (N := nR p t') (Inv := fun i s => ofR g s ∧ sameV p s 87 (mCol p k (mAll p F k) i)) (fin := fun s => lp_X7_make_50 b k2 k23 n (nI (k + 1)) s) ?_ ?_ (nR p t') 0 2000 s (by omega) (by omega) ⟨hs.1, hs.2⟩
      · obtain ⟨s', q1, q2⟩ := key
        exact ⟨s', ⟨q1.1, by rw [em]; exact q1.2⟩, q2⟩
      · intro m s hs
        have h' := hs.1.st h
        rw [lp_X7_make_60, if_pos nk, dk, h'.m 81 _ (mp_i _ (by decide)), t2, if_pos nt, dt, h'.m 66 _ (mp_i _ (by decide)), hRt.1, if_pos (Int32.le_refl _), nI_1]
      · intro m r s hr hs
        have h' := hs.1.st h
        have hC6 := h.C6 _ T1
        have n1 : m_in (nI (72 * t' + 6 * r + a')) 288 := m_inN (cell_in (by omega) (by omega) (by omega)) (by decide)
        have d1 : (nI (72 * t' + 6 * r + a')).toNatClampNeg = 72 * t' + 6 * r + a' := nI_clamp (by omega)
        rw [lp_X7_make_60, if_pos nk, dk, h'.m 81 _ (mp_i _ (by decide)), t2, if_pos nt, dt, h'.m 66 _ (mp_i _ (by decide)), hRt.1, if_neg (nI_ge hr (by omega)), h'.m 86 _ (mp_i _ (by decide)), if_neg w2, h'.m 82 _ (mp_i _ (by decide)), T4, nI_cell, if_pos n1, d1, hs.2 t' T1 r hr a' T3, nI_1]
        have em2 : mCol p k (mAll p F k) (r + 1) = mRow p k r (mCol p k (mAll p F k) r) := rfl
        rw [mRow_r1 hr1 hT h.C6] at em2
        by_cases w : mCol p k (mAll p F k) r (72 * t' + 6 * r + a') = (-2147483648)
        · rw [if_pos w] at em2 ⊢
          exact ⟨s, ⟨hs.1, by rw [em2]; exact hs.2⟩, rfl⟩
        · rw [if_neg w] at em2 ⊢
          rw [F_sumM h' hs.2 hk hr1 hr, Option.bind_some]
          refine ⟨_, ⟨fun a k q1 q2 => ?_, by rw [em2]; exact hs.2.up _ _⟩, rfl⟩
          rw [m_up_o (Or.inl q2)]; exact hs.1 a k q1 q2
theorem F_makeM (h : St p g b) : mkP p g (mAll p (mf p) (nU p)) (f_X7_make g b) := by
  have hT := h.T
  unfold f_X7_make
  refine loop_P (lp := lp_X7_make_2 b) (N := nT p) (Inv := fun i s => ofR g s ∧ msk p s 78 i) ?_ ?_ (nT p) 0 2000 g (by omega) (by omega) ⟨fun _ _ _ _ => rfl, fun t ht => by omega⟩
  · intro n s hs
    have h' := hs.1.st h
    rw [lp_X7_make_2, h'.m 64 1 (mp_i _ (by decide)), hT.1, if_pos (Int32.le_refl _)]
    refine loop_P (lp := lp_X7_make_23 b (fun y2_1 g2 => lp_X7_make_2 b n y2_1 g2)) (N := 288) (Inv := fun i s' => s' = cpb 78 87 i s) ?_ ?_ 288 0 2000 s rfl (by decide) (cpb_0 _ _ _).symm
    · intro m s' hs'
      have o : ofR g s' := fun a k q1 q2 => by rw [hs', cpb_o q2]; exact hs.1 a k q1 q2
      rw [lp_X7_make_23, if_pos (show (288 : Int32) ≤ nI 288 by decide)]
      refine F_m50 h o (F := mf p) (fun t ht r hr c hc => ?_) _ _
      have := (h.R ht).2
      have := h.C6 t ht
      rw [hs', cpb_i (by omega)]
      exact msk.all h hs.2 t ht r hr c hc
    · intro m i s' hi hs'
      have n1 : m_in (nI i) 288 := m_inN hi (by decide)
      have d1 : (nI i).toNatClampNeg = i := nI_clamp (by omega)
      rw [lp_X7_make_23, if_neg (show ¬ (288 : Int32) ≤ nI i from nI_ge (b := 288) hi (by decide)), if_pos n1, d1, nI_1]
      refine ⟨_, ?_, rfl⟩
      rw [hs', cpb_up (by decide)]
  · intro n i s hi hs
    have h' := hs.1.st h
    obtain ⟨s', q1, q2, q3⟩ := F_maskTable h' hi
    rw [lp_X7_make_2, h'.m 64 1 (mp_i _ (by decide)), hT.1, if_neg (nI_ge hi (by omega)), q1, Option.bind_some, nI_1]
    exact ⟨s', ⟨fun a k z1 z2 => (q2 a k z1).trans (hs.1 a k z1 z2), hs.2.step h hi q3⟩, rfl⟩
end MN
