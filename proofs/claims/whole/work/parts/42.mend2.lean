/-! ===== make, the class's side and the reference's loops ===== -/
section MM
variable {p g : mI} {b : Bool}
/-- everything masked -/
def mf (p : mI) : Nat → Int32 := fun k => mkv p (k / 72) (k % 72 / 6) (k % 6)
theorem mf_v {p : mI} {t r c : Nat} (hr : r < 12) (hc : c < 6) : mf p (72 * t + 6 * r + c) = mkv p t r c := by
  unfold mf
  rw [show (72 * t + 6 * r + c) / 72 = t by omega, show (72 * t + 6 * r + c) % 72 / 6 = r by omega, show (72 * t + 6 * r + c) % 6 = c by omega]
/-- the first i tables' cells at A are masked -/
def msk (p s : mI) (A i : Nat) : Prop := ∀ t, t < i → ∀ r, r < nR p t → ∀ c, c < nC p t → s A (72 * t + 6 * r + c) = mkv p t r c
theorem msk.all (h : St p g b) {s : mI} {A : Nat} (q : msk p s A (nT p)) : sameV p s A (mf p) := by
  intro t ht r hr c hc
  have := (h.R ht).2
  have := h.C6 t ht
  rw [mf_v (by omega) (by omega)]; exact q t ht r hr c hc
theorem msk.step (h : St p g b) {s s' : mI} {A i : Nat} (q : msk p s A i) (hi : i < nT p) (w : Wb A i (nC p i) (mkv p i) s (nR p i) 0 s') : msk p s' A (i + 1) := by
  intro t ht r hr c hc
  by_cases z : t = i
  · subst z; exact w.2 r c hc (by omega)
  · have hT := h.T.2
    have := (h.R (show t < nT p by omega)).2
    have := h.C6 t (by omega)
    rw [w.1 _ (by omega)]; exact q t (by omega) r hr c hc
theorem F_makeC (h : St p g b) : ∃ s, ofD b g s ∧ sameV p s (m_pD b + 1) (mAll p (mf p) (nU p)) ∧ f_X6_make g b = if fbv p (mAll p (mf p) (nU p)) = 100 then some (fbv p (mAll p (mf p) (nU p)), m_up s 0 12 1, !b) else some (fbv p (mAll p (mf p) (nU p)), s, b) := by
  have hT := h.T
  unfold f_X6_make
  have key := loop_inv (lp := lp_X6_make_2 b) (N := nT p) (Inv := fun i s => ofD b g s ∧ msk p s (m_pD b + 1) i) (fin := fun s => lp_X6_make_2 b 1 (nI (nT p)) s) ?_ ?_ (nT p) 0 2000 g (by omega) (by omega) ⟨fun _ _ _ _ => rfl, fun t ht => by omega⟩
  · obtain ⟨s, q1, q2⟩ := key
    have h' := q1.1.st h
    obtain ⟨s', y1, y2, y3⟩ := F_mendC h q1.1 (msk.all h q1.2)
    refine ⟨s', y2, y3, ?_⟩
    rw [show (0 : Int32) = nI 0 from rfl, q2, lp_X6_make_2, h'.e1.1, hT.1, if_pos (Int32.le_refl _), y1, Option.bind_some, F_brokenC (y2.st h) (cp_D b) y3, Option.bind_some]
    rfl
  · intro n s hs
    have h' := hs.1.st h
    rw [lp_X6_make_2, lp_X6_make_2, h'.e1.1, hT.1, if_pos (Int32.le_refl _), if_pos (Int32.le_refl _)]
  · intro n i s hi hs
    have h' := hs.1.st h
    obtain ⟨s', q1, q2, q3⟩ := F_draft h' hi
    rw [lp_X6_make_2, h'.e1.1, hT.1, if_neg (nI_ge hi (by omega)), q1, Option.bind_some, nI_1]
    exact ⟨s', ⟨fun a k z1 z2 => (q2 a k z1 z2).trans (hs.1 a k z1 z2), hs.2.step h hi q3⟩, rfl⟩
end MM
