/-! ===== a table masked, both ===== -/
def Wb (A t nc : Nat) (F : Nat → Nat → Int32) (g0 : mI) (i j : Nat) (s : mI) : Prop := (∀ k, k < 72 * t ∨ 72 * t + 72 ≤ k → s A k = g0 A k) ∧ ∀ r c, c < nc → (r < i ∨ (r = i ∧ c < j)) → s A (72 * t + 6 * r + c) = F r c
theorem Wb.step {A t nc : Nat} {F : Nat → Nat → Int32} {g0 s : mI} {i j : Nat} (h : Wb A t nc F g0 i j s) (hn : nc ≤ 6) (hi : i < 12) (hj : j < nc) : Wb A t nc F g0 i (j + 1) (m_up s A (72 * t + 6 * i + j) (F i j)) := by
  refine ⟨fun k hk => ?_, fun r c hc hrc => ?_⟩
  · rw [m_up_o (by omega)]; exact h.1 k hk
  · by_cases z : r = i ∧ c = j
    · obtain ⟨rfl, rfl⟩ := z; rw [m_up_eq]
    · rw [m_up_o (by omega)]; exact h.2 r c hc (by omega)
theorem Wb.next {A t nc : Nat} {F : Nat → Nat → Int32} {g0 s : mI} {i : Nat} (h : Wb A t nc F g0 i nc s) : Wb A t nc F g0 (i + 1) 0 s := ⟨h.1, fun r c hc hrc => h.2 r c hc (by omega)⟩
theorem Wb.z (A t nc : Nat) (F : Nat → Nat → Int32) (g0 : mI) : Wb A t nc F g0 0 0 g0 := ⟨fun _ _ => rfl, fun r c hc hrc => by omega⟩
theorem Wb.to {A t nc : Nat} {F : Nat → Nat → Int32} {g0 s s' : mI} {i j : Nat} (h : Wb A t nc F g0 i j s) (e : ∀ k, s' A k = s A k) : Wb A t nc F g0 i j s' := ⟨fun k hk => (e k).trans (h.1 k hk), fun r c hc hrc => (e _).trans (h.2 r c hc hrc)⟩
section DR
variable {p g : mI} {b : Bool}
def ofD (b : Bool) (g g' : mI) : Prop := ∀ a k, a ≠ 6 → a ≠ m_pD b + 1 → g' a k = g a k
def of78 (g g' : mI) : Prop := ∀ a k, a ≠ 78 → g' a k = g a k
theorem npD (b : Bool) : ¬ pers b (m_pD b + 1) := by
  unfold pers mp
  cases b
  · show ¬ (_ ∨ 14 + 1 = 0 ∨ 14 + 1 = 3 ∨ 14 + 1 = 5 ∨ 14 + 1 = 12 + 1 ∨ _)
    show ¬ ((64 ≤ 14 + 1 ∧ _ ∧ _) ∨ _ ∨ _ ∨ _ ∨ _ ∨ (16 ≤ 14 + 1 ∧ _)); omega
  · show ¬ ((64 ≤ 12 + 1 ∧ _ ∧ _) ∨ 12 + 1 = 0 ∨ 12 + 1 = 3 ∨ 12 + 1 = 5 ∨ 12 + 1 = 14 + 1 ∨ (16 ≤ 12 + 1 ∧ _)); omega
theorem np78 (b : Bool) : ¬ pers b 78 := by
  unfold pers mp
  cases b
  · show ¬ (_ ∨ _ ∨ _ ∨ _ ∨ 78 = 12 + 1 ∨ _); omega
  · show ¬ (_ ∨ _ ∨ _ ∨ _ ∨ 78 = 14 + 1 ∨ _); omega
theorem ofD.st {g' : mI} (h : ofD b g g') (hs : St p g b) : St p g' b := hs.congr fun a k ha => h a k (fun e => np6 b (e ▸ ha)) (fun e => npD b (e ▸ ha))
theorem of78.st {g' : mI} (h : of78 g g') (hs : St p g b) : St p g' b := hs.congr fun a k ha => h a k (fun e => np78 b (e ▸ ha))
theorem F_draftRow (h : St p g b) {t r : Nat} (ht : t < nT p) (hr : r < nR p t) {s0 : mI} (sh : Int32) (x : Bool) (n : Nat) (hs0 : ofD b g s0) (hw0 : Wb (m_pD b + 1) t (nC p t) (mkv p t) g r 0 s0) (hsh : ∀ c, c < nC p t → p 70 (6 * t + c) = 2 → sh = shv p (ow p t r)) : ∃ s', (ofD b g s' ∧ Wb (m_pD b + 1) t (nC p t) (mkv p t) g (r + 1) 0 s') ∧ lp_X6_draftMasked_52 b (nI t) (16 + 10 * t) x (nI r) sh (fun y19_4 g19 => lp_X6_draftMasked_19 b (nI t) (16 + 10 * t) x n y19_4 g19) 2000 (nI 0) s0 = lp_X6_draftMasked_19 b (nI t) (16 + 10 * t) x n (nI (r + 1)) s' := by
  have hT := h.T.2
  have hC := h.C ht
  have hR := h.R ht
  have key2 := loop_inv (lp := lp_X6_draftMasked_52 b (nI t) (16 + 10 * t) x (nI r) sh (fun y19_4 g19 => lp_X6_draftMasked_19 b (nI t) (16 + 10 * t) x n y19_4 g19)) (N := nC p t) (Inv := fun j s => ofD b g s ∧ Wb (m_pD b + 1) t (nC p t) (mkv p t) g r j s) (fin := fun s => lp_X6_draftMasked_19 b (nI t) (16 + 10 * t) x n (nI (r + 1)) s) ?_ ?_ (nC p t) 0 2000 s0 (by omega) (by omega) ⟨hs0, hw0⟩
  · obtain ⟨s', q1, q2⟩ := key2
    exact ⟨s', ⟨q1.1, q1.2.next⟩, q2⟩
  · intro n' s' hs'
    rw [lp_X6_draftMasked_52, if_pos (s0_tab t (by omega)), ((hs'.1.st h).e2 t ht).1, hC.1, if_pos (Int32.le_refl _), nI_1]
  · intro n' c s' hc hs'
    have h'' := hs'.1.st h
    rw [lp_X6_draftMasked_52, if_pos (s0_tab t (by omega)), (h''.e2 t ht).1, hC.1, if_neg (nI_ge hc (by omega)), F_maskedC h'' ht hr hc (hsh c hc), Option.bind_some, if_pos (s0_pD b), F_write (cp_D b) (by omega) (by omega) (by omega), Option.bind_some, nI_1]
    refine ⟨_, ⟨fun a k h1 h2 => ?_, hs'.2.step hC.2.2 (by omega) hc⟩, rfl⟩
    rw [m_up_o (Or.inl h2)]; exact hs'.1 a k h1 h2
theorem F_draftRows (h : St p g b) {t : Nat} (ht : t < nT p) (x : Bool) (hx : x = false → ∀ c, c < nC p t → ¬ p 70 (6 * t + c) = 2) : ∃ g2, lp_X6_draftMasked_19 b (nI t) (16 + 10 * t) x 2000 (nI 0) g = some g2 ∧ ofD b g g2 ∧ Wb (m_pD b + 1) t (nC p t) (mkv p t) g (nR p t) 0 g2 := by
  have hT := h.T.2
  have hR := h.R ht
  have h6D : m_pD b + 1 ≠ 6 := by cases b <;> decide
  have key := loop_inv (lp := lp_X6_draftMasked_19 b (nI t) (16 + 10 * t) x) (N := nR p t) (Inv := fun i s => ofD b g s ∧ Wb (m_pD b + 1) t (nC p t) (mkv p t) g i 0 s) (fin := fun s => some s) ?_ ?_ (nR p t) 0 2000 g (by omega) (by omega) ⟨fun _ _ _ _ => rfl, Wb.z _ _ _ _ _⟩
  · obtain ⟨s, q1, q2⟩ := key
    exact ⟨s, q2, q1.1, q1.2⟩
  · intro n s hs
    rw [lp_X6_draftMasked_19, if_pos (s0_tab t (by omega)), ((hs.1.st h).e2 t ht).2.1, hR.1, if_pos (Int32.le_refl _)]
  · intro n r s hr hs
    have h' := hs.1.st h
    rw [lp_X6_draftMasked_19, if_pos (s0_tab t (by omega)), (h'.e2 t ht).2.1, hR.1, if_neg (nI_ge hr (by omega)), F_ownerC h' ht hr, Option.bind_some]
    obtain ⟨s2, y1, y2⟩ := F_shiftC h' (ow_key h' ht hr)
    rw [y1, Option.bind_some, show (0 : Int32) = nI 0 from rfl]
    cases x with
    | false =>
      rw [cond_false]
      exact F_draftRow h ht hr (nI 0) false n hs.1 hs.2 (fun c hc z => absurd z (hx rfl c hc))
    | true =>
      rw [cond_true]
      refine F_draftRow h ht hr (s0 := s2) (shv p (ow p t r)) true n (fun a k h1 h2 => ?_) (hs.2.to (fun k => y2 _ k h6D)) (fun c _ _ => rfl)
      rw [y2 a k h1]; exact hs.1 a k h1 h2
theorem F_draft (h : St p g b) {t : Nat} (ht : t < nT p) : ∃ g2, f_X6_draftMasked g b (nI t) = some g2 ∧ ofD b g g2 ∧ Wb (m_pD b + 1) t (nC p t) (mkv p t) g (nR p t) 0 g2 := by
  have hT := h.T.2
  obtain ⟨x, hx⟩ : ∃ x, x = !al (fun c => !decide (p 70 (6 * t + c) = 2)) 0 (nC p t) := ⟨_, rfl⟩
  obtain ⟨g2, q1, q2⟩ := F_draftRows h ht x (fun z c hc y => by
    rw [z] at hx
    have e : al (fun c => !decide (p 70 (6 * t + c) = 2)) 0 (nC p t) = true := by
      cases w : al (fun c => !decide (p 70 (6 * t + c) = 2)) 0 (nC p t) with
      | true => rfl
      | false => rw [w] at hx; cases hx
    have := al_t _ _ e c (by omega) (by omega)
    simp only [decide_eq_true y] at this
    cases this)
  refine ⟨g2, ?_, q2⟩
  unfold f_X6_draftMasked
  rw [F_tableAt h, tOf_nI h ht]
  simp only [Option.map_some, Option.bind_some, m_oc, if_pos (s0_tab t (show t < 4 by omega)), F_hasShift h ht, ← hx]
  exact q1
theorem F_maskTable (h : St p g b) {t : Nat} (ht : t < nT p) : ∃ g2, f_X7_maskTable g (nI t) = some g2 ∧ of78 g g2 ∧ Wb 78 t (nC p t) (mkv p t) g (nR p t) 0 g2 := by
  have hT := h.T.2
  have hC := h.C ht
  have hR := h.R ht
  have nt : m_in (nI t) 4 := m_inN (by omega) (by decide)
  have dt : (nI t).toNatClampNeg = t := nI_clamp (by omega)
  unfold f_X7_maskTable
  have key := loop_inv (lp := lp_X7_maskTable_2 (nI t)) (N := nR p t) (Inv := fun i s => of78 g s ∧ Wb 78 t (nC p t) (mkv p t) g i 0 s) (fin := fun s => some s) ?_ ?_ (nR p t) 0 2000 g (by omega) (by omega) ⟨fun _ _ _ => rfl, Wb.z _ _ _ _ _⟩
  · obtain ⟨s, q1, q2⟩ := key
    exact ⟨s, q2, q1.1, q1.2⟩
  · intro n s hs
    rw [lp_X7_maskTable_2, if_pos nt, dt, (hs.1.st h).m 66 _ (mp_i _ (by decide)), hR.1, if_pos (Int32.le_refl _)]
  · intro n r s hr hs
    rw [lp_X7_maskTable_2, if_pos nt, dt, (hs.1.st h).m 66 _ (mp_i _ (by decide)), hR.1, if_neg (nI_ge hr (by omega))]
    have key2 := loop_inv (lp := lp_X7_maskTable_14 (nI t) (nI r) (fun y2_2 g2 => lp_X7_maskTable_2 (nI t) n y2_2 g2)) (N := nC p t) (Inv := fun j s => of78 g s ∧ Wb 78 t (nC p t) (mkv p t) g r j s) (fin := fun s => lp_X7_maskTable_2 (nI t) n (nI (r + 1)) s) ?_ ?_ (nC p t) 0 2000 s (by omega) (by omega) ⟨hs.1, hs.2⟩
    · obtain ⟨s', q1, q2⟩ := key2
      exact ⟨s', ⟨q1.1, q1.2.next⟩, q2⟩
    · intro n' s' hs'
      rw [lp_X7_maskTable_14, if_pos nt, dt, (hs'.1.st h).m 65 _ (mp_i _ (by decide)), hC.1, if_pos (Int32.le_refl _), nI_1]
    · intro n' c s' hc hs'
      have h'' := hs'.1.st h
      have n3 : m_in (nI (72 * t + 6 * r + c)) 288 := m_inN (cell_in (by omega) (by omega) (by omega)) (by decide)
      have d3 : (nI (72 * t + 6 * r + c)).toNatClampNeg = 72 * t + 6 * r + c := nI_clamp (by omega)
      rw [lp_X7_maskTable_14, if_pos nt, dt, h''.m 65 _ (mp_i _ (by decide)), hC.1, if_neg (nI_ge hc (by omega)), F_maskedM h'' ht hr hc, Option.bind_some, nI_cell, if_pos n3, d3, nI_1]
      refine ⟨_, ⟨fun a k h1 => ?_, hs'.2.step hC.2.2 (by omega) hc⟩, rfl⟩
      rw [m_up_o (Or.inl h1)]; exact hs'.1 a k h1
end DR
