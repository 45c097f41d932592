/-! ===== mending, both ===== -/
def upv (F : Nat → Int32) (k : Nat) (x : Int32) : Nat → Int32 := fun j => if j = k then x else F j
section ME
variable {p g : mI} {b : Bool}
def mRow (p : mI) (k r : Nat) (F : Nat → Int32) : Nat → Int32 := if F (72 * cl (p 81 k) + 6 * r + cl (p 82 k)) = (-2147483648) then F else upv F (72 * cl (p 81 k) + 6 * r + cl (p 82 k)) (sm (spf F (cl (p 84 k)) (cl (p 83 k)) (cl (p 85 k)) (F (72 * cl (p 81 k) + 6 * r + 0))) 0 (nR p (cl (p 84 k))))
def mCol (p : mI) (k : Nat) (F : Nat → Int32) : Nat → Nat → Int32
  | 0 => F
  | i + 1 => mRow p k i (mCol p k F i)
def mOne (p : mI) (k : Nat) (F : Nat → Int32) : Nat → Int32 := if p 80 k = 1 ∧ ¬ p 86 k = 0 then mCol p k F (nR p (cl (p 81 k))) else F
def mAll (p : mI) (F : Nat → Int32) : Nat → Nat → Int32
  | 0 => F
  | i + 1 => mOne p i (mAll p F i)
theorem sameV.up {A : Nat} {F : Nat → Int32} {s : mI} (h : sameV p s A F) (k : Nat) (x : Int32) : sameV p (m_up s A k x) A (upv F k x) := by
  intro t ht r hr c hc
  unfold upv
  rw [m_up_at]
  by_cases z : 72 * t + 6 * r + c = k
  · rw [if_pos z, if_pos ⟨rfl, z⟩]
  · rw [if_neg z, if_neg (fun q => z q.2)]; exact h t ht r hr c hc
theorem St.rl1 (h : St p g b) {k : Nat} (hk : k < nU p) (h1 : p 80 k = 1) : ∃ t a u a2 e, r1 p k t a u a2 e ∧ u ≠ t ∧ p 68 (6 * t + a) = 3 ∧ p 68 (6 * u + a2) = 3 ∧ p 68 (6 * u + e) = 1 := by
  obtain ⟨t, t1, t2, a, a1, a2, q⟩ := h.rule hk
  rcases q with ⟨z1, _⟩ | ⟨z1, z2, z3, u, y1, y2, y3, ⟨e2, w1, w2, w3⟩, e, v1, v2, v3, v4⟩ | ⟨z1, _⟩
  · rw [h1] at z1; exact absurd z1 (by decide)
  · exact ⟨t, a, u, e2, e, ⟨⟨t1, t2, a1, a2⟩, z1, ⟨y1, y3⟩, ⟨w1, w2⟩, ⟨v1, v2⟩⟩, y2, z2, w3, v3⟩
  · rw [h1] at z1; exact absurd z1 (by decide)
theorem mRow_r1 {k t a u a2 e : Nat} (h : r1 p k t a u a2 e) (hT : nT p ≤ 4) (hC : ∀ t, t < nT p → nC p t ≤ 6) (r : Nat) (F : Nat → Int32) : mRow p k r F = if F (72 * t + 6 * r + a) = (-2147483648) then F else upv F (72 * t + 6 * r + a) (sm (spf F u a2 e (F (72 * t + 6 * r + 0))) 0 (nR p u)) := by
  obtain ⟨⟨t1, t2, t3, t4⟩, t5, ⟨u1, u2⟩, ⟨y1, y2⟩, ⟨z1, z2⟩⟩ := h
  have := hC t t1
  have := hC u u1
  unfold mRow
  rw [t2, t4, u2, y2, z2, cl_nI (by omega), cl_nI (by omega), cl_nI (by omega), cl_nI (by omega), cl_nI (by omega)]
theorem F_mendCol (h : St p g b) {s : mI} (hs : ofD b g s) {F : Nat → Int32} (sv : sameV p s (m_pD b + 1) F) {k : Nat} (hk : k < nU p) (h1 : p 80 k = 1) : ∃ s', f_X6_mendColumn s b (56 + k) = some s' ∧ ofD b g s' ∧ sameV p s' (m_pD b + 1) (mCol p k F (nR p (cl (p 81 k)))) := by
  obtain ⟨t, a, u, a2, e, hr1, -⟩ := h.rl1 hk h1
  obtain ⟨⟨t1, t2, t3, t4⟩, t5, ⟨u1, u2⟩, ⟨y1, y2⟩, ⟨z1, z2⟩⟩ := id hr1
  have hT := h.T.2
  have hU := h.U.2
  have hCt := h.C t1
  have hRt := h.R t1
  have ct : cl (p 81 k) = t := by rw [t2]; exact cl_nI (by omega)
  rw [ct]
  unfold f_X6_mendColumn
  have key := loop_inv (lp := lp_X6_mendColumn_2 b (56 + k)) (N := nR p t) (Inv := fun i s => ofD b g s ∧ sameV p s (m_pD b + 1) (mCol p k F i)) (fin := fun s => some s) ?_ ?_ (nR p t) 0 2000 s (by omega) (by omega) ⟨hs, sv⟩
  · obtain ⟨s', q1, q2⟩ := key
    exact ⟨s', q2, q1.1, q1.2⟩
  · intro n s hs
    have h' := hs.1.st h
    obtain ⟨c0, c1, c2, c3, c4⟩ := h'.e8 k hk
    rw [lp_X6_mendColumn_2, if_pos (s0_rul k (by omega)), c1, t2, F_rowsOf h', rowsN_nI h' t1, Option.bind_some, if_pos (Int32.le_refl _)]
  · intro n r s hr hs
    have h' := hs.1.st h
    obtain ⟨c0, c1, c2, c3, c4⟩ := h'.e8 k hk
    rw [lp_X6_mendColumn_2, if_pos (s0_rul k (by omega)), c1, t2, F_rowsOf h', rowsN_nI h' t1, Option.bind_some, if_neg (nI_ge hr (by omega)), if_pos (s0_pD b), c2, t4, F_read (cp_D b) (by omega) (by omega) (by omega), Option.bind_some, hs.2 t t1 r hr a t3, nI_1]
    have em : mCol p k F (r + 1) = mRow p k r (mCol p k F r) := rfl
    rw [mRow_r1 hr1 hT h.C6] at em
    by_cases w : mCol p k F r (72 * t + 6 * r + a) = (-2147483648)
    · rw [if_pos w] at em ⊢
      exact ⟨s, ⟨hs.1, by rw [em]; exact hs.2⟩, rfl⟩
    · rw [if_neg w] at em ⊢
      rw [F_partsC h' (cp_D b) hs.2 hk hr1 hr, Option.bind_some, F_write (cp_D b) (by omega) (by omega) (by omega), Option.bind_some]
      refine ⟨_, ⟨fun a' k' q1 q2 => ?_, by rw [em]; exact hs.2.up _ _⟩, rfl⟩
      rw [m_up_o (Or.inl q2)]; exact hs.1 a' k' q1 q2
theorem F_mendC (h : St p g b) {s : mI} (hs : ofD b g s) {F : Nat → Int32} (sv : sameV p s (m_pD b + 1) F) : ∃ s', f_X6_mendDraft s b = some s' ∧ ofD b g s' ∧ sameV p s' (m_pD b + 1) (mAll p F (nU p)) := by
  have hU := h.U
  unfold f_X6_mendDraft
  have key := loop_inv (lp := lp_X6_mendDraft_2 b) (N := nU p) (Inv := fun i s => ofD b g s ∧ sameV p s (m_pD b + 1) (mAll p F i)) (fin := fun s => some s) ?_ ?_ (nU p) 0 2000 s (by omega) (by omega) ⟨hs, sv⟩
  · obtain ⟨s', q1, q2⟩ := key
    exact ⟨s', q2, q1.1, q1.2⟩
  · intro n s hs
    have h' := hs.1.st h
    rw [lp_X6_mendDraft_2, h'.e1.2.1, hU.1, if_pos (Int32.le_refl _)]
  · intro n k s hk hs
    have h' := hs.1.st h
    obtain ⟨c0, c1, c2, c3, c4⟩ := h'.e8 k hk
    have nk : m_in (nI k) 8 := m_inN (by omega) (by decide)
    have dk : (nI k).toNatClampNeg = k := nI_clamp (by omega)
    rw [lp_X6_mendDraft_2, h'.e1.2.1, hU.1, if_neg (nI_ge hk (by omega)), if_neg (show ¬ (8 : Int32) ≤ nI k from nI_ge (b := 8) (by omega) (by decide)), if_pos nk, dk, fr_rul b k (by omega), Option.bind_some, if_pos (s0_rul k (by omega)), Option.bind_some, if_pos (s0_rul k (by omega)), Option.bind_some, c0, nI_1]
    have em : mAll p F (k + 1) = mOne p k (mAll p F k) := rfl
    unfold mOne at em
    by_cases w : p 80 k = 1
    · rw [if_pos w, (c4 w).2.2]
      by_cases w2 : p 86 k = 0
      · rw [if_neg (fun q => q.2 w2)] at em
        rw [if_pos w2]
        exact ⟨s, ⟨hs.1, by rw [em]; exact hs.2⟩, rfl⟩
      · rw [if_pos ⟨w, w2⟩] at em
        rw [if_neg w2]
        obtain ⟨s', q1, q2, q3⟩ := F_mendCol h hs.1 hs.2 hk w
        rw [q1, Option.bind_some]
        exact ⟨s', ⟨q2, by rw [em]; exact q3⟩, rfl⟩
    · rw [if_neg (fun q => w q.1)] at em
      rw [if_neg w]
      exact ⟨s, ⟨hs.1, by rw [em]; exact hs.2⟩, rfl⟩
end ME
