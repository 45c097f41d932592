/-! ===== shift ===== -/
theorem loop_inv {σ R : Type} {lp : Nat → Int32 → σ → Option R} {N : Nat} {Inv : Nat → σ → Prop} {fin : σ → Option R} (hd : ∀ n s, Inv N s → lp (n + 1) (nI N) s = fin s) (hs : ∀ n i s, i < N → Inv i s → ∃ s', Inv (i + 1) s' ∧ lp (n + 1) (nI i) s = lp n (nI (i + 1)) s') : ∀ (k i n : Nat) (s : σ), i + k = N → k < n → Inv i s → ∃ s', Inv N s' ∧ lp n (nI i) s = fin s'
  | 0, i, n, s, h1, h2, h3 => by
    obtain ⟨m, rfl⟩ : ∃ m, n = m + 1 := ⟨n - 1, by omega⟩
    have : i = N := by omega
    subst this
    exact ⟨s, h3, hd m s h3⟩
  | k + 1, i, n, s, h1, h2, h3 => by
    obtain ⟨m, rfl⟩ : ∃ m, n = m + 1 := ⟨n - 1, by omega⟩
    obtain ⟨s', q1, q2⟩ := hs m i s (by omega) h3
    rw [q2]
    exact loop_inv hd hs k (i + 1) m s' (by omega) (by omega) q1
theorem al_snoc {f : Nat → Bool} (k : Nat) : al f 0 (k + 1) = true ↔ al f 0 k = true ∧ f k = true := by
  constructor
  · intro h
    have := al_t _ _ h
    exact ⟨al_i _ _ (fun j h1 h2 => this j h1 (by omega)), this k (by omega) (by omega)⟩
  · rintro ⟨h1, h2⟩
    refine al_i _ _ (fun j q1 q2 => ?_)
    by_cases z : j = k
    · rw [z]; exact h2
    · exact al_t _ _ h1 j (by omega) (by omega)
section SF
variable {p g : mI} {b : Bool}
/-- a row's owner -/
def ow (p : mI) (t r : Nat) : Int32 := p 76 (72 * t + 6 * r + nO p t)
theorem F_ownerC (h : St p g b) {t r : Nat} (ht : t < nT p) (hr : r < nR p t) : f_X6_ownerOf g b (nI t) (nI r) = some (ow p t r) := by
  have hT := h.T.2
  have hC := h.C6 t ht
  have hR := (h.R ht).2
  have hO := h.O ht
  unfold f_X6_ownerOf
  rw [F_tableAt h, tOf_nI h ht]
  simp only [Option.map_some, Option.bind_some, m_oc, if_pos (s0_tab t (show t < 4 by omega)), (h.e2 t ht).2.2, hO.1, F_read (cp_t b) (show t < 4 by omega) (show r < 12 by omega) (show nO p t < 6 by omega)]
  unfold ow
  rw [h.e6 t ht r hr _ hO.2.1]
theorem F_ownerM (h : St p g b) {t r : Nat} (ht : t < nT p) (hr : r < nR p t) : f_X7_ownerOf g (nI t) (nI r) = some (ow p t r) := by
  have hT := h.T.2
  have hC := h.C6 t ht
  have hR := (h.R ht).2
  have hO := h.O ht
  have n3 : m_in (nI (72 * t + 6 * r + nO p t)) 288 := m_inN (cell_in (by omega) (by omega) (by omega)) (by decide)
  have d3 : (nI (72 * t + 6 * r + nO p t)).toNatClampNeg = 72 * t + 6 * r + nO p t := nI_clamp (by omega)
  unfold f_X7_ownerOf
  rw [if_pos (m_inN (show t < 4 by omega) (by decide)), nI_clamp (by omega), h.m 67 _ (mp_i _ (by decide)), hO.1, nI_cell, if_pos n3, d3, h.m 76 _ (mp_i _ (by decide))]
  rfl
/-- a day cell of this owner lets its days move so far -/
def cOK (p : mI) (a x : Int32) (t r c : Nat) : Bool := if p 70 (6 * t + c) = 2 then (if p 76 (72 * t + 6 * r + c) = (-2147483648) then true else if ow p t r = a then f_X7_in (p 76 (72 * t + 6 * r + c) + x) 0 9999 else true) else true
def rOK (p : mI) (a x : Int32) (t r : Nat) : Bool := al (cOK p a x t r) 0 (nC p t)
def tOK (p : mI) (a x : Int32) (t : Nat) : Bool := al (rOK p a x t) 0 (nR p t)
def stB (p : mI) (a x : Int32) : Bool := al (tOK p a x) 0 (nT p)
theorem F_stays (h : St p g b) (a x : Int32) : f_X7_stays g a x = some (stB p a x) := by
  have hT := h.T.2
  unfold f_X7_stays stB
  have key := loop_all (lp := lp_X7_stays_2 g a x) (N := nT p) (f := tOK p a x) (fin := some true) (bad := some false) ?_ ?_ (nT p) 0 2000 (by omega) (by omega)
  · rw [show (0 : Int32) = nI 0 from rfl, key]
    cases al (tOK p a x) 0 (nT p) <;> rfl
  · intro n
    rw [lp_X7_stays_2, h.m 64 1 (mp_i _ (by decide)), h.T.1, if_pos (Int32.le_refl _)]
  · intro n t ht
    have hR := h.R ht
    have hC := h.C ht
    have nt : m_in (nI t) 4 := m_inN (by omega) (by decide)
    have dt : (nI t).toNatClampNeg = t := nI_clamp (by omega)
    rw [lp_X7_stays_2, h.m 64 1 (mp_i _ (by decide)), h.T.1, if_neg (nI_ge ht (by omega))]
    have key2 := loop_all (lp := lp_X7_stays_13 g a x (nI t) (fun y => lp_X7_stays_2 g a x n y)) (N := nR p t) (f := rOK p a x t) (fin := lp_X7_stays_2 g a x n (nI (t + 1))) (bad := some false) ?_ ?_ (nR p t) 0 2000 (by omega) (by omega)
    · exact key2
    · intro n'
      rw [lp_X7_stays_13, if_pos nt, dt, h.m 66 _ (mp_i _ (by decide)), hR.1, if_pos (Int32.le_refl _), nI_1]
    · intro n' r hr
      rw [lp_X7_stays_13, if_pos nt, dt, h.m 66 _ (mp_i _ (by decide)), hR.1, if_neg (nI_ge hr (by omega))]
      have key3 := loop_all (lp := lp_X7_stays_27 g a x (nI t) (nI r) (fun y => lp_X7_stays_2 g a x n y) (fun y => lp_X7_stays_13 g a x (nI t) (fun y => lp_X7_stays_2 g a x n y) n' y)) (N := nC p t) (f := cOK p a x t r) (fin := lp_X7_stays_13 g a x (nI t) (fun y => lp_X7_stays_2 g a x n y) n' (nI (r + 1))) (bad := some false) ?_ ?_ (nC p t) 0 2000 (by omega) (by omega)
      · exact key3
      · intro n''
        rw [lp_X7_stays_27, if_pos nt, dt, h.m 65 _ (mp_i _ (by decide)), hC.1, if_pos (Int32.le_refl _), nI_1]
      · intro n'' c hc
        have n3 : m_in (nI (72 * t + 6 * r + c)) 288 := m_inN (cell_in (by omega) (by omega) (by omega)) (by decide)
        have d3 : (nI (72 * t + 6 * r + c)).toNatClampNeg = 72 * t + 6 * r + c := nI_clamp (by omega)
        have n4 : m_in (nI (6 * t + c)) 24 := m_inN (by omega) (by decide)
        have d4 : (nI (6 * t + c)).toNatClampNeg = 6 * t + c := nI_clamp (by omega)
        rw [lp_X7_stays_27, if_pos nt, dt, h.m 65 _ (mp_i _ (by decide)), hC.1, if_neg (nI_ge hc (by omega)), nI_cell, if_pos n3, nI_6tc, if_pos n4, d3, d4, h.m 70 _ (mp_i _ (by decide)), h.m 76 _ (mp_i _ (by decide)), F_ownerM h ht hr, nI_1]
        unfold cOK
        by_cases z1 : p 70 (6 * t + c) = 2
        · rw [if_pos z1, if_pos z1]
          by_cases z2 : p 76 (72 * t + 6 * r + c) = (-2147483648)
          · rw [if_pos z2, if_pos z2]; rfl
          · rw [if_neg z2, if_neg z2, Option.bind_some]
            by_cases z3 : ow p t r = a
            · rw [if_pos z3, if_pos z3]
            · rw [if_neg z3, if_neg z3]; rfl
        · rw [if_neg z1, if_neg z1]; rfl
/-- the class's room: it lets just those moves that P allows -/
def Rm (P : Int32 → Prop) (g : mI) : Prop := ∃ lo hi : Nat, lo ≤ 30 ∧ hi ≤ 30 ∧ g 6 0 = nI lo ∧ g 6 1 = nI hi ∧ ∀ x : Int32, -30 ≤ x.toInt → x.toInt ≤ 30 → ((-(lo : Int) ≤ x.toInt ∧ x.toInt ≤ hi) ↔ P x)
def of6 (g g' : mI) : Prop := ∀ a k, a ≠ 6 → g' a k = g a k
theorem np6 (b : Bool) : ¬ pers b 6 := by
  unfold pers mp
  cases b
  · show ¬ (_ ∨ _ ∨ _ ∨ _ ∨ 6 = 12 + 1 ∨ _); omega
  · show ¬ (_ ∨ _ ∨ _ ∨ _ ∨ 6 = 14 + 1 ∨ _); omega
theorem of6.st {g' : mI} (h : of6 g g') (hs : St p g b) : St p g' b := hs.congr fun a k ha => h a k (fun e => np6 b (e ▸ ha))
theorem m_minN {x y : Nat} (hx : x < 2 ^ 31) (hy : y < 2 ^ 31) : m_min (nI x) (nI y) = nI (min x y) := by
  unfold m_min
  by_cases z : y < x
  · rw [if_pos (nI_lt z hx), Nat.min_eq_right (by omega)]
  · rw [if_neg (nI_nlt (by omega) hy), Nat.min_eq_left (by omega)]
theorem Rm.narrow {P : Int32 → Prop} {g' : mI} (h : Rm P g') (hg : of6 g g') {m : Nat} (hm : m ≤ 9999) : ∃ g2, f_X2_narrow g' (nI m) = some g2 ∧ of6 g g2 ∧ Rm (fun x => P x ∧ f_X7_in (nI m + x) 0 9999 = true) g2 := by
  obtain ⟨lo, hi, l1, l2, l3, l4, l5⟩ := h
  refine ⟨m_up (m_up g' 6 0 (nI (min lo m))) 6 1 (nI (min hi (9999 - m))), ?_, fun a k ha => ?_, min lo m, min hi (9999 - m), ?_, ?_, ?_, ?_, fun x x1 x2 => ?_⟩
  · unfold f_X2_narrow
    simp only [m_let]
    rw [l3, m_minN (by omega) (by omega), m_up_o (by omega), l4, show (9999 : Int32) = nI 9999 from rfl, pk_sub (by omega), m_minN (by omega) (by omega)]
  · rw [m_up_o (by omega), m_up_o (by omega)]; exact hg a k ha
  · omega
  · omega
  · rw [m_up_o (by omega), m_up_eq]
  · rw [m_up_eq]
  · have e : (nI m + x).toInt = m + x.toInt := by
      have em : (nI m).toInt = m := nI_toInt (by omega)
      rw [tI_add (by omega) (by omega), em]
    show _ ↔ P x ∧ f_X7_in (nI m + x) 0 9999 = true
    rw [← l5 x x1 x2, in_iff, Int32.le_iff_toInt_le, Int32.le_iff_toInt_le, e]
    show _ ↔ _ ∧ (0 : Int) ≤ _ ∧ _ ≤ (9999 : Int)
    omega
theorem Rm.iff {P P' : Int32 → Prop} (h : Rm P g) (e : ∀ x, P x ↔ P' x) : Rm P' g := by
  obtain ⟨lo, hi, l1, l2, l3, l4, l5⟩ := h
  exact ⟨lo, hi, l1, l2, l3, l4, fun x x1 x2 => (l5 x x1 x2).trans (e x)⟩
theorem F_isShifted (h : St p g b) {t c : Nat} (ht : t < nT p) (hc : c < nC p t) : f_X4_isShifted g b (16 + 10 * t) (nI c) = some (decide (p 70 (6 * t + c) = 2)) := by
  have hT := h.T.2
  have hC := h.C6 t ht
  unfold f_X4_isShifted
  rw [if_pos (s0_tab t (by omega)), F_columnNumbered h ht, ixOf_nI hc (by omega)]
  simp only [Option.map_some, Option.bind_some, m_oc, if_pos (s0_col t (show t < 4 by omega) c (by omega)), h.col ht hc (j := 2) (by decide)]
  by_cases z : p 70 (6 * t + c) = 2
  · rw [if_pos z, decide_eq_true z]
  · rw [if_neg z, decide_eq_false z]
theorem F_hasShift (h : St p g b) {t : Nat} (ht : t < nT p) : f_X4_hasShift g b (16 + 10 * t) = some (!al (fun c => !decide (p 70 (6 * t + c) = 2)) 0 (nC p t)) := by
  have hT := h.T.2
  have hC := h.C ht
  unfold f_X4_hasShift
  have key := loop_all (lp := lp_X4_hasShift_2 g b (16 + 10 * t)) (N := nC p t) (f := fun c => !decide (p 70 (6 * t + c) = 2)) (fin := some false) (bad := some true) ?_ ?_ (nC p t) 0 2000 (by omega) (by omega)
  · rw [show (0 : Int32) = nI 0 from rfl, key]
    cases al (fun c => !decide (p 70 (6 * t + c) = 2)) 0 (nC p t) <;> rfl
  · intro n
    rw [lp_X4_hasShift_2, if_pos (s0_tab t (by omega)), (h.e2 t ht).1, hC.1, if_pos (Int32.le_refl _)]
  · intro n c hc
    rw [lp_X4_hasShift_2, if_pos (s0_tab t (by omega)), (h.e2 t ht).1, hC.1, if_neg (nI_ge hc (by omega)), F_isShifted h ht hc, nI_1, Option.bind_some]
    by_cases z : p 70 (6 * t + c) = 2
    · rw [decide_eq_true z]; rfl
    · rw [decide_eq_false z]; rfl
end SF
