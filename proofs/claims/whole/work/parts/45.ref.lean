/-! ===== the reference's memory alone ===== -/
def Sm (p g : mI) : Prop := Mm p g ∧ (I1 p ∧ I2 p ∧ I3 p ∧ I4 p ∧ I5 p ∧ I6 p)
theorem St.sm {p g : mI} {b : Bool} (h : St p g b) : Sm p g := ⟨h.1, h.2.1⟩
section RF
variable {p g : mI} {b : Bool}
theorem Sm.m (h : Sm p g) (a k : Nat) (ha : mp a) : g a k = p a k := h.1 a k ha
theorem Sm.congr {g' : mI} (h : Sm p g) (hg : ∀ a k, mp a → g' a k = g a k) : Sm p g' := ⟨fun a k ha => (hg a k ha).trans (h.1 a k ha), h.2⟩
theorem Sm.T (h : Sm p g) : p 64 1 = nI (nT p) ∧ nT p ≤ 4 := h.2.1.1
theorem Sm.C (h : Sm p g) {t : Nat} (ht : t < nT p) : p 65 t = nI (nC p t) ∧ 1 ≤ nC p t ∧ nC p t ≤ 6 := h.2.1.2.1 t ht
theorem Sm.R (h : Sm p g) {t : Nat} (ht : t < nT p) : p 66 t = nI (nR p t) ∧ nR p t ≤ 12 := h.2.1.2.2.1 t ht
theorem Sm.O (h : Sm p g) {t : Nat} (ht : t < nT p) : p 67 t = nI (nO p t) ∧ nO p t < nC p t ∧ (nO p t = 0 ∨ p 68 (6 * t + nO p t) = 1) := h.2.1.2.2.2 t ht
theorem Sm.C6 (h : Sm p g) : ∀ t, t < nT p → nC p t ≤ 6 := fun t ht => (h.C ht).2.2
theorem Sm.U (h : Sm p g) : p 64 20 = nI (nU p) ∧ nU p ≤ 8 := h.2.2.2.1.2.2.2.2
theorem Sm.sd (h : Sm p g) : f_X7_in (p 64 13) 0 60 = true := h.2.2.2.1.2.1
theorem Sm.k2 (h : Sm p g) {t c : Nat} (ht : t < nT p) (hc : c < nC p t) : (p 68 (6 * t + c) = 0 ↔ c = 0) ∧ (p 68 (6 * t + c) = 0 ∨ p 68 (6 * t + c) = 1 ∨ p 68 (6 * t + c) = 2 ∨ p 68 (6 * t + c) = 3 ∨ p 68 (6 * t + c) = 4) ∧ (p 68 (6 * t + c) = 1 → ∃ u, u < nT p ∧ p 69 (6 * t + c) = nI u) ∧ f_X7_fits (p 68 (6 * t + c)) (p 70 (6 * t + c)) (p 71 (6 * t + c)) = true := h.2.2.1 t ht c hc
theorem Sm.cell (h : Sm p g) {t r c : Nat} (ht : t < nT p) (hr : r < nR p t) (hc : c < nC p t) : f_X7_isOf (p 68 (6 * t + c)) (p 76 (72 * t + 6 * r + c)) = true := h.2.2.2.2.1.1 t ht r hr c hc
theorem Sm.rule (h : Sm p g) {k : Nat} (hk : k < nU p) : okRule p k := h.2.2.2.2.2.1 k hk
theorem of78.sr {g' : mI} (h : of78 g g') (hs : Sm p g) : Sm p g' := hs.congr fun a k ha => h a k (fun e => by rw [e] at ha; exact ha.2.2 rfl)
theorem ofR.sr {g' : mI} (h : ofR g g') (hs : Sm p g) : Sm p g' := hs.congr fun a k ha => h a k (fun e => by rw [e] at ha; exact ha.2.2 rfl) (fun e => by rw [e] at ha; exact absurd ha.2.1 (by decide))
theorem Sm.dg (h : Sm p g) {t i : Nat} (ht : t < nT p) (h1 : 1 ≤ i) (h4 : i ≤ 4) : (dA p t i = 1 ∨ dA p t i = 3 ∨ dA p t i = 7 ∨ dA p t i = 9) ∧ dB p t i ≤ 9 ∧ p 74 (5 * t + i) = nI (dA p t i) ∧ p 75 (5 * t + i) = nI (dB p t i) := by
  obtain ⟨a1, a2⟩ := h.2.2.2.1.1 t ht i h1 h4
  obtain ⟨y1, y2⟩ := (in_iff _ _ _).mp a2
  obtain ⟨n, hn, e⟩ := nn_of3 (n := 9) (by decide) y1 y2
  unfold dA dB
  refine ⟨?_, ?_, ?_, ?_⟩
  · rcases a1 with z | z | z | z <;> rw [z] <;> decide
  · rw [e, nI_clamp (by omega)]; exact hn
  · rcases a1 with z | z | z | z <;> rw [z] <;> decide
  · rw [e, nI_clamp (by omega)]
theorem F_tgR (h : Sm p g) {t i : Nat} (ht : t < nT p) (h1 : 1 ≤ i) (h4 : i ≤ 4) {r : Nat} (hr : r < 2 ^ 31) : m_rem ((p 74 (5 * t + i)) * (m_rem (nI r) 10) + p 75 (5 * t + i)) 10 = nI (tg p t i (r % 10)) := by
  obtain ⟨a1, a2, a3, a4⟩ := h.dg ht h1 h4
  have hA : dA p t i ≤ 9 := by omega
  have hm : dA p t i * (r % 10) ≤ 9 * 9 := Nat.mul_le_mul hA (by omega)
  rw [a3, a4, show (10 : Int32) = nI 10 from rfl, m_remN hr (by decide) (by decide), pk_mul, nI_add, m_remN (by omega) (by decide) (by decide)]
  rfl
theorem turnMR (h : Sm p g) {t i : Nat} (ht : t < nT p) (h1 : 1 ≤ i) (h4 : i ≤ 4) (v : Int32) {r : Nat} (hr : r < 2 ^ 31) (a w n : Nat) : lp_X7_turnedKey_15 g (nI t) v (n + 1) (nI a) (nI r) (nI w) (nI i) = lp_X7_turnedKey_15 g (nI t) v n (nI (a + w * tg p t i (r % 10))) (nI (r / 10)) (nI (w * 10)) (nI (i + 1)) := by
  have hT := h.T.2
  have h5 : m_in (nI (5 * t + i)) 20 := m_inN (by omega) (by decide)
  rw [lp_X7_turnedKey_15, if_neg (show ¬ (5 : Int32) ≤ nI i from nI_ge (b := 5) (by omega) (by decide)), nI_5ti, if_pos h5, nI_clamp (by omega), h.m 74 _ (mp_i _ (by decide)), h.m 75 _ (mp_i _ (by decide)), F_tgR h ht h1 h4 hr]
  rw [show (10 : Int32) = nI 10 from rfl, pk_div hr (by decide) (by decide), pk_mul, pk_mul, nI_add, nI_1]
  rfl
theorem F_turnedKeyR (h : Sm p g) {t : Nat} (ht : t < nT p) {n : Nat} (hn : n < 2 ^ 31) : f_X7_turnedKey g (nI t) (nI n) = some (nI (tkey p t n)) := by
  unfold f_X7_turnedKey
  rw [show (10 : Int32) = nI 10 from rfl, pk_div hn (by decide) (by decide)]
  show lp_X7_turnedKey_15 g (nI t) (nI n) (1999 + 1) (nI 0) (nI (n / 10)) (nI 10) (nI 1) = _
  rw [turnMR h ht (by decide) (by decide) _ (by omega), turnMR h ht (by decide) (by decide) _ (by omega), turnMR h ht (by decide) (by decide) _ (by omega), turnMR h ht (by decide) (by decide) _ (by omega)]
  rw [lp_X7_turnedKey_15, if_pos (show (5 : Int32) ≤ nI (1 + 1 + 1 + 1 + 1) by decide)]
  have e : 0 + 10 * tg p t 1 (n / 10 % 10) + 10 * 10 * tg p t (1 + 1) (n / 10 / 10 % 10) + 10 * 10 * 10 * tg p t (1 + 1 + 1) (n / 10 / 10 / 10 % 10) + 10 * 10 * 10 * 10 * tg p t (1 + 1 + 1 + 1) (n / 10 / 10 / 10 / 10 % 10) = tk p t (n / 10) * 10 := by
    unfold tk
    simp only [show 1 + 1 = 2 from rfl, show 2 + 1 = 3 from rfl, show 3 + 1 = 4 from rfl]
    omega
  have hl := tk_lt p t (n / 10)
  rw [e, F_figure (by omega), nI_add, show tk p t (n / 10) * 10 / 10 = tk p t (n / 10) by omega]
  rfl
theorem F_ownerMR (h : Sm p g) {t r : Nat} (ht : t < nT p) (hr : r < nR p t) : f_X7_ownerOf g (nI t) (nI r) = some (ow p t r) := by
  have hT := h.T.2
  have hC := h.C6 t ht
  have hR := (h.R ht).2
  have hO := h.O ht
  have n3 : m_in (nI (72 * t + 6 * r + nO p t)) 288 := m_inN (cell_in (by omega) (by omega) (by omega)) (by decide)
  have d3 : (nI (72 * t + 6 * r + nO p t)).toNatClampNeg = 72 * t + 6 * r + nO p t := nI_clamp (by omega)
  unfold f_X7_ownerOf
  rw [if_pos (m_inN (show t < 4 by omega) (by decide)), nI_clamp (by omega), h.m 67 _ (mp_i _ (by decide)), hO.1, nI_cell, if_pos n3, d3, h.m 76 _ (mp_i _ (by decide))]
  rfl
theorem F_staysR (h : Sm p g) (a x : Int32) : f_X7_stays g a x = some (stB p a x) := by
  have hT := h.T.2
  unfold f_X7_stays stB
  have key := loop_all (lp := lp_X7_stays_2 g a x) (N := nT p) (f := tOK p a x) (fin := some true) (bad := some false) ?_ ?_ (nT p) 0 2000 (by omega) (by omega)
  · rw [show (0 : Int32) = nI 0 from rfl, key]
    cases al (tOK p a x) 0 (nT p) <;> rfl
  · intro n
    rw [lp_X7_stays_2, h.m 64 1 (mp_i _ (by decide)), h.T.1, if_pos (Int32.le_refl _)]
  · intro n t ht
    have hR := h.R ht
    have hC := h.C ht
    have nt : m_in (nI t) 4 := m_inN (by omega) (by decide)
    have dt : (nI t).toNatClampNeg = t := nI_clamp (by omega)
    rw [lp_X7_stays_2, h.m 64 1 (mp_i _ (by decide)), h.T.1, if_neg (nI_ge ht (by omega))]
    have key2 := loop_all (lp := lp_X7_stays_13 g a x (nI t) (fun y => lp_X7_stays_2 g a x n y)) (N := nR p t) (f := rOK p a x t) (fin := lp_X7_stays_2 g a x n (nI (t + 1))) (bad := some false) ?_ ?_ (nR p t) 0 2000 (by omega) (by omega)
    · exact key2
    · intro n'
      rw [lp_X7_stays_13, if_pos nt, dt, h.m 66 _ (mp_i _ (by decide)), hR.1, if_pos (Int32.le_refl _), nI_1]
    · intro n' r hr
      rw [lp_X7_stays_13, if_pos nt, dt, h.m 66 _ (mp_i _ (by decide)), hR.1, if_neg (nI_ge hr (by omega))]
      have key3 := loop_all (lp := lp_X7_stays_27 g a x (nI t) (nI r) (fun y => lp_X7_stays_2 g a x n y) (fun y => lp_X7_stays_13 g a x (nI t) (fun y => lp_X7_stays_2 g a x n y) n' y)) (N := nC p t) (f := cOK p a x t r) (fin := lp_X7_stays_13 g a x (nI t) (fun y => lp_X7_stays_2 g a x n y) n' (nI (r + 1))) (bad := some false) ?_ ?_ (nC p t) 0 2000 (by omega) (by omega)
      · exact key3
      · intro n''
        rw [lp_X7_stays_27, if_pos nt, dt, h.m 65 _ (mp_i _ (by decide)), hC.1, if_pos (Int32.le_refl _), nI_1]
      · intro n'' c hc
        have n3 : m_in (nI (72 * t + 6 * r + c)) 288 := m_inN (cell_in (by omega) (by omega) (by omega)) (by decide)
        have d3 : (nI (72 * t + 6 * r + c)).toNatClampNeg = 72 * t + 6 * r + c := nI_clamp (by omega)
        have n4 : m_in (nI (6 * t + c)) 24 := m_inN (by omega) (by decide)
        have d4 : (nI (6 * t + c)).toNatClampNeg = 6 * t + c := nI_clamp (by omega)
        rw [lp_X7_stays_27, if_pos nt, dt, h.m 65 _ (mp_i _ (by decide)), hC.1, if_neg (nI_ge hc (by omega)), nI_cell, if_pos n3, nI_6tc, if_pos n4, d3, d4, h.m 70 _ (mp_i _ (by decide)), h.m 76 _ (mp_i _ (by decide)), F_ownerMR h ht hr, nI_1]
        unfold cOK
        by_cases z1 : p 70 (6 * t + c) = 2
        · rw [if_pos z1, if_pos z1]
          by_cases z2 : p 76 (72 * t + 6 * r + c) = (-2147483648)
          · rw [if_pos z2, if_pos z2]; rfl
          · rw [if_neg z2, if_neg z2, Option.bind_some]
            by_cases z3 : ow p t r = a
            · rw [if_pos z3, if_pos z3]
            · rw [if_neg z3, if_neg z3]; rfl
        · rw [if_neg z1, if_neg z1]; rfl
theorem Sm.day (h : Sm p g) {t r c : Nat} (ht : t < nT p) (hr : r < nR p t) (hc : c < nC p t) (hw : p 70 (6 * t + c) = 2) (hv : ¬ p 76 (72 * t + 6 * r + c) = (-2147483648)) : ∃ m, m ≤ 9999 ∧ p 76 (72 * t + 6 * r + c) = nI m := by
  have q := (h.k2 ht hc).2.2.2
  rw [hw] at q
  have k2 := fits2 q
  have e := h.cell ht hr hc
  rw [k2] at e
  unfold f_X7_isOf at e
  rw [if_neg hv, if_pos rfl] at e
  obtain ⟨a1, a2⟩ := (in_iff _ _ _).mp e
  exact nn_of3 (n := 9999) (by decide) a1 a2
theorem stB_0R (h : Sm p g) (a : Int32) : stB p a 0 = true := by
  refine al_i _ _ (fun t _ ht => al_i _ _ (fun r _ hr => al_i _ _ (fun c _ hc => ?_)))
  unfold cOK
  by_cases z1 : p 70 (6 * t + c) = 2
  · rw [if_pos z1]
    by_cases z2 : p 76 (72 * t + 6 * r + c) = (-2147483648)
    · rw [if_pos z2]
    · rw [if_neg z2]
      by_cases z3 : ow p t r = a
      · obtain ⟨m, hm, em⟩ := h.day (show t < nT p by omega) (show r < nR p t by omega) (show c < nC p t by omega) z1 z2
        rw [if_pos z3, em, Int32.add_zero, in_iff]
        exact ⟨nI_pos' (by omega), nI_le (b := 9999) hm (by decide)⟩
      · rw [if_neg z3]
  · rw [if_neg z1]
theorem amt_vR (h : Sm p g) {n y : Nat} (hn : n < 100000) (hy : y ≤ 1000) : ∃ s, s ≤ 60 ∧ p 64 13 = nI s ∧ (amt p (nI n) (nI y)).toInt = (((n + s + y) % 61 : Nat) : Int) - 30 := by
  obtain ⟨a1, a2⟩ := (in_iff _ _ _).mp h.sd
  obtain ⟨s, hs, es⟩ := nn_of3 (n := 60) (by decide) a1 a2
  refine ⟨s, hs, es, ?_⟩
  unfold amt
  rw [es, nI_add, nI_add, show (61 : Int32) = nI 61 from rfl, m_remN (by omega) (by decide) (by decide), show (30 : Int32) = nI 30 from rfl]
  have := Nat.mod_lt (n + s + y) (show 0 < 61 by decide)
  rw [pk_sub_toInt (by omega) (by decide)]
  rfl
theorem amt_0R (h : Sm p g) {n : Nat} (hn : n < 100000) : ∃ y, y < 61 ∧ amt p (nI n) (nI y) = 0 := by
  obtain ⟨s, hs, es, -⟩ := amt_vR h hn (y := 0) (by omega)
  obtain ⟨y, hy, ey⟩ : ∃ y, y < 61 ∧ (n + s + y) % 61 = 30 := ⟨(91 - (n + s) % 61) % 61, by omega, by omega⟩
  refine ⟨y, hy, ?_⟩
  unfold amt
  rw [es, nI_add, nI_add, show (61 : Int32) = nI 61 from rfl, m_remN (by omega) (by decide) (by decide), ey]
  decide
theorem F_sh10R (h : Sm p g) {n : Nat} (hn : n < 100000) : ∀ (k i m : Nat), i + k = 61 → k < m → (∃ j, i ≤ j ∧ j < i + k ∧ stB p (nI n) (amt p (nI n) (nI j)) = true) → lp_X7_shiftOf_10 g (nI n) m (nI i) = some (fnd (fun y => stB p (nI n) (amt p (nI n) (nI y))) (fun y => amt p (nI n) (nI y)) i k)
  | 0, i, m, h1, h2, ⟨j, q1, q2, _⟩ => by omega
  | k + 1, i, m, h1, h2, ⟨j, q1, q2, q3⟩ => by
    obtain ⟨m', rfl⟩ : ∃ m', m = m' + 1 := ⟨m - 1, by omega⟩
    rw [lp_X7_shiftOf_10, F_staysR h, h.m 64 13 (mp_i _ (by decide)), Option.bind_some, nI_1]
    show (bif stB p (nI n) (amt p (nI n) (nI i)) then some (amt p (nI n) (nI i)) else lp_X7_shiftOf_10 g (nI n) m' (nI (i + 1))) = some ((bif stB p (nI n) (amt p (nI n) (nI i)) then amt p (nI n) (nI i) else fnd _ _ (i + 1) k))
    cases e : stB p (nI n) (amt p (nI n) (nI i)) with
    | true => rfl
    | false =>
      have : j ≠ i := fun z => by rw [z, e] at q3; cases q3
      exact F_sh10R h hn k (i + 1) m' (by omega) (by omega) ⟨j, by omega, by omega, q3⟩
theorem F_shiftMR (h : Sm p g) {a : Int32} (ha : a = (-2147483648) ∨ ∃ n, n < 100000 ∧ a = nI n) : f_X7_shiftOf g a = some (shv p a) := by
  unfold f_X7_shiftOf shv
  by_cases z : a = (-2147483648)
  · rw [if_pos z, if_pos z]
  · rw [if_neg z, if_neg z]
    obtain ⟨n, hn, rfl⟩ := ha.resolve_left z
    obtain ⟨y, hy, ey⟩ := amt_0R h hn
    exact F_sh10R h hn 61 0 2000 rfl (by decide) ⟨y, by omega, by omega, by rw [ey]; exact stB_0R h _⟩
theorem ow_keyR (h : Sm p g) {t r : Nat} (ht : t < nT p) (hr : r < nR p t) : ow p t r = (-2147483648) ∨ ∃ n, n < 100000 ∧ ow p t r = nI n := by
  have hO := h.O ht
  by_cases z : ow p t r = (-2147483648)
  · exact Or.inl z
  · right
    have hk : p 68 (6 * t + nO p t) = 0 ∨ p 68 (6 * t + nO p t) = 1 := by
      rcases hO.2.2 with y | y
      · left; exact (h.k2 ht hO.2.1).1.mpr y
      · exact Or.inr y
    obtain ⟨n, hn, e⟩ := isOf_key hk (h.cell ht hr hO.2.1) z
    exact ⟨n, hn.1, e⟩
theorem F_maskedMR (h : Sm p g) {t r c : Nat} (ht : t < nT p) (hr : r < nR p t) (hc : c < nC p t) : f_X7_maskedCell g (nI t) (nI r) (nI c) = some (mkv p t r c) := by
  have hT := h.T.2
  have hC := h.C ht
  have hR := h.R ht
  have n3 : m_in (nI (72 * t + 6 * r + c)) 288 := m_inN (cell_in (by omega) (by omega) (by omega)) (by decide)
  have d3 : (nI (72 * t + 6 * r + c)).toNatClampNeg = 72 * t + 6 * r + c := nI_clamp (by omega)
  have n4 : m_in (nI (6 * t + c)) 24 := m_inN (by omega) (by decide)
  have d4 : (nI (6 * t + c)).toNatClampNeg = 6 * t + c := nI_clamp (by omega)
  have nt : m_in (nI t) 4 := m_inN (by omega) (by decide)
  have dt : (nI t).toNatClampNeg = t := nI_clamp (by omega)
  have r0 : ¬ nI (nR p t) = 0 := nI_ne0 (by omega) (by omega)
  obtain ⟨q1, q2, q3, q4⟩ := h.k2 ht hc
  have qc := h.cell ht hr hc
  unfold f_X7_maskedCell mkv
  simp only [nI_cell, nI_6tc, if_pos n3, if_pos n4, d3, d4, h.m 70 _ (mp_i _ (by decide)), h.m 71 _ (mp_i _ (by decide)), h.m 66 _ (mp_i _ (by decide)), h.m 68 _ (mp_i _ (by decide)), h.m 69 _ (mp_i _ (by decide)), h.m 76 _ (mp_i _ (by decide)), if_pos nt, dt, hR.1]
  by_cases z4 : p 70 (6 * t + c) = 4
  · rw [if_pos z4, if_pos z4, if_pos r0]
    rw [z4] at q4
    obtain ⟨⟨d, hd, ed⟩, -⟩ := fits4 q4
    have hlt := Nat.mod_lt (r + d) (show 0 < nR p t by omega)
    have n5 : m_in (nI (72 * t + 6 * ((r + d) % nR p t) + c)) 288 := m_inN (cell_in (by omega) (by omega) (by omega)) (by decide)
    rw [ed, nI_add, m_remN (by omega) (by omega) (by omega), nI_cell, if_pos n5, nI_clamp (by omega), nI_clamp (by omega)]
  · rw [if_neg z4, if_neg z4]
    by_cases zm : p 76 (72 * t + 6 * r + c) = (-2147483648)
    · rw [if_pos zm, if_pos zm]
    · rw [if_neg zm, if_neg zm]
      by_cases z5 : p 70 (6 * t + c) = 5
      · rw [if_pos z5, if_pos z5]
      · rw [if_neg z5, if_neg z5]
        by_cases k1 : p 68 (6 * t + c) = 1
        · rw [if_pos k1, if_pos k1]
          obtain ⟨u, hu, eu⟩ := q3 k1
          have n6 : m_in (nI (6 * u)) 24 := m_inN (by omega) (by decide)
          have d6 : (nI (6 * u)).toNatClampNeg = 6 * u := nI_clamp (by omega)
          have du : (nI u).toNatClampNeg = u := nI_clamp (by omega)
          obtain ⟨n, hn, en⟩ := isOf_key (Or.inr k1) qc zm
          have := hn.1
          rw [eu, show (6 : Int32) = nI 6 from rfl, pk_mul, if_pos n6, d6, du, en, F_turnedKeyR h hu (by omega), nI_clamp (n := n) (by omega)]
          by_cases z1 : p 70 (6 * u) = 1
          · rw [if_pos z1, if_pos z1]; rfl
          · rw [if_neg z1, if_neg z1]
        · rw [if_neg k1, if_neg k1]
          by_cases z1 : p 70 (6 * t + c) = 1
          · rw [if_pos z1, if_pos z1]
            by_cases k0 : p 68 (6 * t + c) = 0
            · rw [if_pos k0, if_pos k0]
              obtain ⟨n, hn, en⟩ := isOf_key (Or.inl k0) qc zm
              have := hn.1
              rw [en, F_turnedKeyR h ht (by omega), nI_clamp (n := n) (by omega)]; rfl
            · rw [if_neg k0, if_neg k0]
              unfold f_X7_turnedName
              rw [if_pos n4, d4, h.m 72 _ (mp_i _ (by decide)), h.m 73 _ (mp_i _ (by decide))]; rfl
          · rw [if_neg z1, if_neg z1]
            by_cases z2 : p 70 (6 * t + c) = 2
            · rw [if_pos z2, if_pos z2, F_ownerMR h ht hr, Option.bind_some, F_shiftMR h (ow_keyR h ht hr)]; rfl
            · rw [if_neg z2, if_neg z2]
              by_cases z3 : p 70 (6 * t + c) = 3
              · rw [if_pos z3, if_pos z3]
                rw [z3] at q4
                rw [F_coarse _ (le1 (fits3 q4).1).2.1]; rfl
              · rw [if_neg z3, if_neg z3]
theorem F_maskTableR (h : Sm p g) {t : Nat} (ht : t < nT p) : ∃ g2, f_X7_maskTable g (nI t) = some g2 ∧ of78 g g2 ∧ Wb 78 t (nC p t) (mkv p t) g (nR p t) 0 g2 := by
  have hT := h.T.2
  have hC := h.C ht
  have hR := h.R ht
  have nt : m_in (nI t) 4 := m_inN (by omega) (by decide)
  have dt : (nI t).toNatClampNeg = t := nI_clamp (by omega)
  unfold f_X7_maskTable
  have key := loop_inv (lp := lp_X7_maskTable_2 (nI t)) (N := nR p t) (Inv := fun i s => of78 g s ∧ Wb 78 t (nC p t) (mkv p t) g i 0 s) (fin := fun s => some s) ?_ ?_ (nR p t) 0 2000 g (by omega) (by omega) ⟨fun _ _ _ => rfl, Wb.z _ _ _ _ _⟩
  · obtain ⟨s, q1, q2⟩ := key
    exact ⟨s, q2, q1.1, q1.2⟩
  · intro n s hs
    rw [lp_X7_maskTable_2, if_pos nt, dt, (hs.1.sr h).m 66 _ (mp_i _ (by decide)), hR.1, if_pos (Int32.le_refl _)]
  · intro n r s hr hs
    rw [lp_X7_maskTable_2, if_pos nt, dt, (hs.1.sr h).m 66 _ (mp_i _ (by decide)), hR.1, if_neg (nI_ge hr (by omega))]
    have key2 := loop_inv (lp := lp_X7_maskTable_14 (nI t) (nI r) (fun y2_2 g2 => lp_X7_maskTable_2 (nI t) n y2_2 g2)) (N := nC p t) (Inv := fun j s => of78 g s ∧ Wb 78 t (nC p t) (mkv p t) g r j s) (fin := fun s => lp_X7_maskTable_2 (nI t) n (nI (r + 1)) s) ?_ ?_ (nC p t) 0 2000 s (by omega) (by omega) ⟨hs.1, hs.2⟩
    · obtain ⟨s', q1, q2⟩ := key2
      exact ⟨s', ⟨q1.1, q1.2.next⟩, q2⟩
    · intro n' s' hs'
      rw [lp_X7_maskTable_14, if_pos nt, dt, (hs'.1.sr h).m 65 _ (mp_i _ (by decide)), hC.1, if_pos (Int32.le_refl _), nI_1]
    · intro n' c s' hc hs'
      have h'' := hs'.1.sr h
      have n3 : m_in (nI (72 * t + 6 * r + c)) 288 := m_inN (cell_in (by omega) (by omega) (by omega)) (by decide)
      have d3 : (nI (72 * t + 6 * r + c)).toNatClampNeg = 72 * t + 6 * r + c := nI_clamp (by omega)
      rw [lp_X7_maskTable_14, if_pos nt, dt, h''.m 65 _ (mp_i _ (by decide)), hC.1, if_neg (nI_ge hc (by omega)), F_maskedMR h'' ht hr hc, Option.bind_some, nI_cell, if_pos n3, d3, nI_1]
      refine ⟨_, ⟨fun a k h1 => ?_, hs'.2.step hC.2.2 (by omega) hc⟩, rfl⟩
      rw [m_up_o (Or.inl h1)]; exact hs'.1 a k h1
theorem F_sumMR (h : Sm p g) {f : Nat → Int32} (sv : sameV p g 87 f) {k t a u a2 e r : Nat} (hk : k < nU p) (hr1 : r1 p k t a u a2 e) (hr : r < nR p t) : f_X7_sumFor g (nI k) (nI r) = some (sm (spf f u a2 e (f (72 * t + 6 * r + 0))) 0 (nR p u)) := by
  obtain ⟨⟨t1, t2, t3, t4⟩, t5, ⟨u1, u2⟩, ⟨y1, y2⟩, ⟨z1, z2⟩⟩ := hr1
  have hT := h.T.2
  have hU := h.U.2
  have hCt := h.C t1
  have hCu := h.C u1
  have hRt := h.R t1
  have hRu := h.R u1
  have nk : m_in (nI k) 8 := m_inN (by omega) (by decide)
  have dk : (nI k).toNatClampNeg = k := nI_clamp (by omega)
  have nu : m_in (nI u) 4 := m_inN (by omega) (by decide)
  have du : (nI u).toNatClampNeg = u := nI_clamp (by omega)
  have n0 : m_in (nI (72 * t + 6 * r + 0)) 288 := m_inN (cell_in (by omega) (by omega) (by decide)) (by decide)
  have d0 : (nI (72 * t + 6 * r + 0)).toNatClampNeg = 72 * t + 6 * r + 0 := nI_clamp (by omega)
  unfold f_X7_sumFor
  rw [if_pos nk, dk, h.m 84 _ (mp_i _ (by decide)), u2]
  have key := loop_sum (lp := lp_X7_sumFor_13 g (nI k) (nI r) (nI u)) (N := nR p u) (f := spf f u a2 e (f (72 * t + 6 * r + 0))) (fin := fun s => some s) ?_ ?_ (nR p u) 0 0 2000 (by omega) (by omega)
  · rw [show (0 : Int32) = nI 0 from rfl] at key ⊢
    rw [key]
    show some (0 + _) = _
    rw [Int32.zero_add]
  · intro n acc
    rw [lp_X7_sumFor_13, if_pos nu, du, h.m 66 _ (mp_i _ (by decide)), hRu.1, if_pos (Int32.le_refl _)]
  · intro n acc i hi
    have n1 : m_in (nI (72 * u + 6 * i + a2)) 288 := m_inN (cell_in (by omega) (by omega) (by omega)) (by decide)
    have d1 : (nI (72 * u + 6 * i + a2)).toNatClampNeg = 72 * u + 6 * i + a2 := nI_clamp (by omega)
    have n2 : m_in (nI (72 * u + 6 * i + e)) 288 := m_inN (cell_in (by omega) (by omega) (by omega)) (by decide)
    have d2 : (nI (72 * u + 6 * i + e)).toNatClampNeg = 72 * u + 6 * i + e := nI_clamp (by omega)
    rw [lp_X7_sumFor_13, if_pos nu, du, h.m 66 _ (mp_i _ (by decide)), hRu.1, if_neg (nI_ge hi (by omega)), if_pos nk, dk, h.m 83 _ (mp_i _ (by decide)), h.m 85 _ (mp_i _ (by decide)), h.m 81 _ (mp_i _ (by decide)), y2, z2, t2, nI_cell, if_pos n1, nI_cell, if_pos n2, show f_X7_cell (nI t) (nI r) 0 = nI (72 * t + 6 * r + 0) from nI_cell t r 0, if_pos n0, d0, d1, d2, sv u u1 i hi a2 y1, sv u u1 i hi e z1, sv t t1 r hr 0 (by omega), nI_1]
    unfold spf
    by_cases w2 : f (72 * u + 6 * i + e) = f (72 * t + 6 * r + 0)
    · rw [if_pos w2, if_pos w2]
      by_cases w1 : f (72 * u + 6 * i + a2) = (-2147483648)
      · rw [if_pos w1, if_pos w1, Int32.add_zero]
      · rw [if_neg w1, if_neg w1]
    · rw [if_neg w2, if_neg w2, Int32.add_zero]
theorem F_hasMR (h : Sm p g) {f : Nat → Int32} (sv : sameV p g 87 f) {u : Nat} (hu : u < nT p) (v : Int32) : f_X7_isKeyOf g (nI u) v = some (hasK f u (nR p u) v) := by
  have hT := h.T.2
  have hC := h.C hu
  have hR := h.R hu
  have nu : m_in (nI u) 4 := m_inN (by omega) (by decide)
  have du : (nI u).toNatClampNeg = u := nI_clamp (by omega)
  unfold f_X7_isKeyOf hasK
  have key := loop_all (lp := lp_X7_isKeyOf_2 g (nI u) v) (N := nR p u) (f := fun r => !decide (f (72 * u + 6 * r + 0) = v)) (fin := some false) (bad := some true) ?_ ?_ (nR p u) 0 2000 (by omega) (by omega)
  · rw [show (0 : Int32) = nI 0 from rfl, key]
    cases al (fun r => !decide (f (72 * u + 6 * r + 0) = v)) 0 (nR p u) <;> rfl
  · intro n
    rw [lp_X7_isKeyOf_2, if_pos nu, du, h.m 66 _ (mp_i _ (by decide)), hR.1, if_pos (Int32.le_refl _)]
  · intro n i hi
    have n1 : m_in (nI (72 * u + 6 * i + 0)) 288 := m_inN (cell_in (by omega) (by omega) (by decide)) (by decide)
    have d1 : (nI (72 * u + 6 * i + 0)).toNatClampNeg = 72 * u + 6 * i + 0 := nI_clamp (by omega)
    rw [lp_X7_isKeyOf_2, if_pos nu, du, h.m 66 _ (mp_i _ (by decide)), hR.1, if_neg (nI_ge hi (by omega)), show f_X7_cell (nI u) (nI i) 0 = nI (72 * u + 6 * i + 0) from nI_cell u i 0, if_pos n1, d1, sv u hu i hi 0 (by omega), nI_1]
    by_cases w : f (72 * u + 6 * i + 0) = v
    · rw [if_pos w, decide_eq_true w]; rfl
    · rw [if_neg w, decide_eq_false w]; rfl
theorem F_holdMR (h : Sm p g) {f : Nat → Int32} (sv : sameV p g 87 f) {k r : Nat} (hk : k < nU p) (hr : r < nR p (cl (p 81 k))) : f_X7_holdsFor g (nI k) (nI r) = some (hold p f k r) := by
  obtain ⟨t, t1, t2, a, a1, a2, q⟩ := h.rule hk
  have hT := h.T.2
  have hU := h.U.2
  have hC := h.C t1
  have hR := h.R t1
  have ct : cl (nI t) = t := cl_nI (by omega)
  have ca : cl (nI a) = a := cl_nI (by omega)
  rw [t2, ct] at hr
  have nk : m_in (nI k) 8 := m_inN (by omega) (by decide)
  have dk : (nI k).toNatClampNeg = k := nI_clamp (by omega)
  have n1 : m_in (nI (72 * t + 6 * r + a)) 288 := m_inN (cell_in (by omega) (by omega) (by omega)) (by decide)
  have d1 : (nI (72 * t + 6 * r + a)).toNatClampNeg = 72 * t + 6 * r + a := nI_clamp (by omega)
  obtain ⟨e3, h3, q3⟩ : ∃ e3, e3 < 6 ∧ p 83 k = nI e3 := by
    rcases q with ⟨z1, z2, z3, e, y1, y2, y3⟩ | ⟨z1, z2, z3, u, y1, y2, y3, ⟨e2, w1, w2, w3⟩, e, v1, v2, v3, v4⟩ | ⟨z1, z2, z3, z4⟩
    · exact ⟨e, by omega, y2⟩
    · have := h.C6 u y1
      exact ⟨e2, by omega, w2⟩
    · exact ⟨0, by omega, z4⟩
  have n2 : m_in (nI (72 * t + 6 * r + e3)) 288 := m_inN (cell_in (by omega) (by omega) (by omega)) (by decide)
  have d2 : (nI (72 * t + 6 * r + e3)).toNatClampNeg = 72 * t + 6 * r + e3 := nI_clamp (by omega)
  have ce3 : cl (nI e3) = e3 := cl_nI (by omega)
  unfold f_X7_holdsFor hold
  simp only [if_pos nk, dk, h.m 80 _ (mp_i _ (by decide)), h.m 81 _ (mp_i _ (by decide)), h.m 82 _ (mp_i _ (by decide)), h.m 83 _ (mp_i _ (by decide)), t2, a2, q3, ct, ca, ce3, nI_cell, if_pos n1, if_pos n2, d1, d2, m_let, sv t t1 r hr a a1]
  by_cases w0 : f (72 * t + 6 * r + a) = (-2147483648)
  · rw [if_pos w0, if_pos w0]
  · rw [if_neg w0, if_neg w0]
    rcases q with ⟨z1, z2, z3, e, y1, y2, y3⟩ | ⟨z1, z2, z3, u, y1, y2, y3, ⟨e2, w1, w2, w3⟩, e, v1, v2, v3, v4⟩ | ⟨z1, z2, z3, z4⟩
    · have ee : e = e3 := nI_inj (by omega) (by omega) (y2.symm.trans q3)
      subst ee
      rw [if_pos z1, if_pos z1, sv t t1 r hr e y1]
      by_cases w1 : f (72 * t + 6 * r + e) = (-2147483648)
      · rw [if_pos w1, if_pos w1]
      · rw [if_neg w1, if_neg w1]
        by_cases w2 : f (72 * t + 6 * r + e) < f (72 * t + 6 * r + a)
        · rw [if_pos w2, if_pos w2]
        · rw [if_neg w2, if_neg w2]
    · have hCu := h.C y1
      have ee : e2 = e3 := nI_inj (by omega) (by omega) (w2.symm.trans q3)
      subst ee
      have cu : cl (nI u) = u := cl_nI (by omega)
      have ce : cl (nI e) = e := cl_nI (by omega)
      have n0 : ¬ p 80 k = 0 := by rw [z1]; decide
      rw [if_neg n0, if_neg n0, if_pos z1, if_pos z1, F_sumMR h sv hk ⟨⟨t1, t2, a1, a2⟩, z1, ⟨y1, y3⟩, ⟨w1, w2⟩, ⟨v1, v2⟩⟩ hr, Option.bind_some, y3, v2, cu, ce]
      by_cases w4 : f (72 * t + 6 * r + a) = sm (spf f u e2 e (f (72 * t + 6 * r + 0))) 0 (nR p u)
      · rw [if_pos w4, decide_eq_true w4]
      · rw [if_neg w4, decide_eq_false w4]
    · have n0 : ¬ p 80 k = 0 := by rw [z1]; decide
      have n1 : ¬ p 80 k = 1 := by rw [z1]; decide
      obtain ⟨u, u1, u2⟩ := (h.k2 t1 a1).2.2.1 z2
      have cu : cl (nI u) = u := cl_nI (by omega)
      have n5 : m_in (nI (6 * t + a)) 24 := m_inN (by omega) (by decide)
      have d5 : (nI (6 * t + a)).toNatClampNeg = 6 * t + a := nI_clamp (by omega)
      rw [if_neg n0, if_neg n0, if_neg n1, if_neg n1, nI_6tc, if_pos n5, d5, h.m 69 _ (mp_i _ (by decide)), u2, cu, F_hasMR h sv u1]
      rfl
theorem F_brokenMR (h : Sm p g) {f : Nat → Int32} (sv : sameV p g 87 f) : f_X7_firstBroken g = some (fbv p f) := by
  have hU := h.U
  unfold f_X7_firstBroken fbv
  have key := loop_ffb (lp := lp_X7_firstBroken_2 g) (N := nU p) (q := ruleB p f) ?_ ?_ (nU p) 0 2000 (by omega) (by omega)
  · exact key
  · intro n
    rw [lp_X7_firstBroken_2, h.m 64 20 (mp_i _ (by decide)), hU.1, if_pos (Int32.le_refl _)]
  · intro n i hi
    obtain ⟨t, t1, t2, a, a1, a2, q⟩ := h.rule hi
    have hR := h.R t1
    have hT := h.T.2
    have ct : cl (p 81 i) = t := by rw [t2]; exact cl_nI (by omega)
    have ni : m_in (nI i) 8 := m_inN (by omega) (by decide)
    have di : (nI i).toNatClampNeg = i := nI_clamp (by omega)
    have nt : m_in (nI t) 4 := m_inN (by omega) (by decide)
    have dt : (nI t).toNatClampNeg = t := nI_clamp (by omega)
    rw [lp_X7_firstBroken_2, h.m 64 20 (mp_i _ (by decide)), hU.1, if_neg (nI_ge hi (by omega))]
    have key2 := loop_all (lp := lp_X7_firstBroken_12 g (nI i) (fun y => lp_X7_firstBroken_2 g n y)) (N := nR p t) (f := hold p f i) (fin := lp_X7_firstBroken_2 g n (nI (i + 1))) (bad := some (nI i)) ?_ ?_ (nR p t) 0 2000 (by omega) (by omega)
    · unfold ruleB
      rw [ct]; exact key2
    · intro m
      rw [lp_X7_firstBroken_12, if_pos ni, di, h.m 81 _ (mp_i _ (by decide)), t2, if_pos nt, dt, h.m 66 _ (mp_i _ (by decide)), hR.1, if_pos (Int32.le_refl _), nI_1]
    · intro m r hr
      rw [lp_X7_firstBroken_12, if_pos ni, di, h.m 81 _ (mp_i _ (by decide)), t2, if_pos nt, dt, h.m 66 _ (mp_i _ (by decide)), hR.1, if_neg (nI_ge hr (by omega)), F_holdMR h sv hi (by rw [ct]; exact hr), Option.bind_some, nI_1]
theorem Sm.rl1 (h : Sm p g) {k : Nat} (hk : k < nU p) (h1 : p 80 k = 1) : ∃ t a u a2 e, r1 p k t a u a2 e ∧ u ≠ t ∧ p 68 (6 * t + a) = 3 ∧ p 68 (6 * u + a2) = 3 ∧ p 68 (6 * u + e) = 1 := by
  obtain ⟨t, t1, t2, a, a1, a2, q⟩ := h.rule hk
  rcases q with ⟨z1, _⟩ | ⟨z1, z2, z3, u, y1, y2, y3, ⟨e2, w1, w2, w3⟩, e, v1, v2, v3, v4⟩ | ⟨z1, _⟩
  · rw [h1] at z1; exact absurd z1 (by decide)
  · exact ⟨t, a, u, e2, e, ⟨⟨t1, t2, a1, a2⟩, z1, ⟨y1, y3⟩, ⟨w1, w2⟩, ⟨v1, v2⟩⟩, y2, z2, w3, v3⟩
  · rw [h1] at z1; exact absurd z1 (by decide)
theorem msk.allR (h : Sm p g) {s : mI} {A : Nat} (q : msk p s A (nT p)) : sameV p s A (mf p) := by
  intro t ht r hr c hc
  have := (h.R ht).2
  have := h.C6 t ht
  rw [mf_v (by omega) (by omega)]; exact q t ht r hr c hc
theorem msk.stepR (h : Sm p g) {s s' : mI} {A i : Nat} (q : msk p s A i) (hi : i < nT p) (w : Wb A i (nC p i) (mkv p i) s (nR p i) 0 s') : msk p s' A (i + 1) := by
  intro t ht r hr c hc
  by_cases z : t = i
  · subst z; exact w.2 r c hc (by omega)
  · have hT := h.T.2
    have := (h.R (show t < nT p by omega)).2
    have := h.C6 t (by omega)
    rw [w.1 _ (by omega)]; exact q t (by omega) r hr c hc
theorem F_m50R (h : Sm p g) {s : mI} (hs : ofR g s) {F : Nat → Int32} (sv : sameV p s 87 F) (k2 k23 : Int32 → mI → Option (Int32 × mI)) : mkP p g (mAll p F (nU p)) (lp_X7_make_50 b k2 k23 2000 (nI 0) s) := by
  have hU := h.U
  have hT := h.T.2
  refine loop_P (lp := lp_X7_make_50 b k2 k23) (N := nU p) (Inv := fun i s => ofR g s ∧ sameV p s 87 (mAll p F i)) ?_ ?_ (nU p) 0 2000 s (by omega) (by omega) ⟨hs, sv⟩
  · intro n s hs
    have h' := hs.1.sr h
    refine ⟨s, hs.1, hs.2, ?_⟩
    rw [lp_X7_make_50, h'.m 64 20 (mp_i _ (by decide)), hU.1, if_pos (Int32.le_refl _), F_brokenMR h' hs.2, Option.bind_some]
    by_cases z : fbv p (mAll p F (nU p)) = 100
    · rw [if_pos z, z, if_pos (show (100 : Int32) ≤ 100 by decide), F_m151]
    · rw [if_neg z]
      rcases ffb_v (q := ruleB p (mAll p F (nU p))) (nU p) 0 with y | ⟨j, y1, y2⟩
      · exact absurd y z
      · have y3 : fbv p (mAll p F (nU p)) = nI j := y2
        rw [y3, if_neg (show ¬ (100 : Int32) ≤ nI j from nI_ge (b := 100) (by omega) (by decide))]
  · intro n k s hk hs
    have h' := hs.1.sr h
    have nk : m_in (nI k) 8 := m_inN (by omega) (by decide)
    have dk : (nI k).toNatClampNeg = k := nI_clamp (by omega)
    obtain ⟨t, t1, t2, a, a1, a2, q⟩ := h.rule hk
    have hCt := h.C t1
    have hRt := h.R t1
    have ct : cl (p 81 k) = t := by rw [t2]; exact cl_nI (by omega)
    have nt : m_in (nI t) 4 := m_inN (by omega) (by decide)
    have dt : (nI t).toNatClampNeg = t := nI_clamp (by omega)
    have em : mAll p F (k + 1) = mOne p k (mAll p F k) := rfl
    unfold mOne at em
    rw [ct] at em
    rw [lp_X7_make_50, h'.m 64 20 (mp_i _ (by decide)), hU.1, if_neg (nI_ge hk (by omega))]
    by_cases w2 : p 86 k = 0
    · rw [if_neg (fun q => q.2 w2)] at em
      refine ⟨s, ⟨hs.1, by rw [em]; exact hs.2⟩, ?_⟩
      rw [lp_X7_make_60, if_pos nk, dk, h'.m 81 _ (mp_i _ (by decide)), t2, if_pos nt, dt, h'.m 66 _ (mp_i _ (by decide)), hRt.1, h'.m 86 _ (mp_i _ (by decide)), if_pos w2, nI_1]
      by_cases w3 : nI (nR p t) ≤ 0
      · rw [if_pos w3]
      · rw [if_neg w3]
    · have w1 : p 80 k = 1 := by
        rcases q with ⟨z1, z2, z3, _⟩ | ⟨z1, _⟩ | ⟨z1, z2, z3, z4⟩
        · exact absurd z3 w2
        · exact z1
        · exact absurd z3 w2
      rw [if_pos ⟨w1, w2⟩] at em
      obtain ⟨t', a', u, e2, e, hr1, -⟩ := h.rl1 hk w1
      obtain ⟨⟨T1, T2, T3, T4⟩, T5, ⟨u1, u2⟩, ⟨y1, y2⟩, ⟨z1, z2⟩⟩ := id hr1
      have et : t' = t := nI_inj (by omega) (by omega) (T2.symm.trans t2)
      subst et
      have key := loop_inv (lp := lp_X7_make_60 b (nI k) k2 k23 (fun y50_1 g50 => lp_X7_make_50 b k2 k23 n y50_1 g50)) (N := nR p t') (Inv := fun i s => ofR g s ∧ sameV p s 87 (mCol p k (mAll p F k) i)) (fin := fun s => lp_X7_make_50 b k2 k23 n (nI (k + 1)) s) ?_ ?_ (nR p t') 0 2000 s (by omega) (by omega) ⟨hs.1, hs.2⟩
      · obtain ⟨s', q1, q2⟩ := key
        exact ⟨s', ⟨q1.1, by rw [em]; exact q1.2⟩, q2⟩
      · intro m s hs
        have h' := hs.1.sr h
        rw [lp_X7_make_60, if_pos nk, dk, h'.m 81 _ (mp_i _ (by decide)), t2, if_pos nt, dt, h'.m 66 _ (mp_i _ (by decide)), hRt.1, if_pos (Int32.le_refl _), nI_1]
      · intro m r s hr hs
        have h' := hs.1.sr h
        have hC6 := h.C6 _ T1
        have n1 : m_in (nI (72 * t' + 6 * r + a')) 288 := m_inN (cell_in (by omega) (by omega) (by omega)) (by decide)
        have d1 : (nI (72 * t' + 6 * r + a')).toNatClampNeg = 72 * t' + 6 * r + a' := nI_clamp (by omega)
        rw [lp_X7_make_60, if_pos nk, dk, h'.m 81 _ (mp_i _ (by decide)), t2, if_pos nt, dt, h'.m 66 _ (mp_i _ (by decide)), hRt.1, if_neg (nI_ge hr (by omega)), h'.m 86 _ (mp_i _ (by decide)), if_neg w2, h'.m 82 _ (mp_i _ (by decide)), T4, nI_cell, if_pos n1, d1, hs.2 t' T1 r hr a' T3, nI_1]
        have em2 : mCol p k (mAll p F k) (r + 1) = mRow p k r (mCol p k (mAll p F k) r) := rfl
        rw [mRow_r1 hr1 hT h.C6] at em2
        by_cases w : mCol p k (mAll p F k) r (72 * t' + 6 * r + a') = (-2147483648)
        · rw [if_pos w] at em2 ⊢
          exact ⟨s, ⟨hs.1, by rw [em2]; exact hs.2⟩, rfl⟩
        · rw [if_neg w] at em2 ⊢
          rw [F_sumMR h' hs.2 hk hr1 hr, Option.bind_some]
          refine ⟨_, ⟨fun a k q1 q2 => ?_, by rw [em2]; exact hs.2.up _ _⟩, rfl⟩
          rw [m_up_o (Or.inl q2)]; exact hs.1 a k q1 q2
theorem F_makeMR (h : Sm p g) : mkP p g (mAll p (mf p) (nU p)) (f_X7_make g b) := by
  have hT := h.T
  unfold f_X7_make
  refine loop_P (lp := lp_X7_make_2 b) (N := nT p) (Inv := fun i s => ofR g s ∧ msk p s 78 i) ?_ ?_ (nT p) 0 2000 g (by omega) (by omega) ⟨fun _ _ _ _ => rfl, fun t ht => by omega⟩
  · intro n s hs
    have h' := hs.1.sr h
    rw [lp_X7_make_2, h'.m 64 1 (mp_i _ (by decide)), hT.1, if_pos (Int32.le_refl _)]
    refine loop_P (lp := lp_X7_make_23 b (fun y2_1 g2 => lp_X7_make_2 b n y2_1 g2)) (N := 288) (Inv := fun i s' => s' = cpb 78 87 i s) ?_ ?_ 288 0 2000 s rfl (by decide) (cpb_0 _ _ _).symm
    · intro m s' hs'
      have o : ofR g s' := fun a k q1 q2 => by rw [hs', cpb_o q2]; exact hs.1 a k q1 q2
      rw [lp_X7_make_23, if_pos (show (288 : Int32) ≤ nI 288 by decide)]
      refine F_m50R h o (F := mf p) (fun t ht r hr c hc => ?_) _ _
      have := (h.R ht).2
      have := h.C6 t ht
      rw [hs', cpb_i (by omega)]
      exact msk.allR h hs.2 t ht r hr c hc
    · intro m i s' hi hs'
      have n1 : m_in (nI i) 288 := m_inN hi (by decide)
      have d1 : (nI i).toNatClampNeg = i := nI_clamp (by omega)
      rw [lp_X7_make_23, if_neg (show ¬ (288 : Int32) ≤ nI i from nI_ge (b := 288) hi (by decide)), if_pos n1, d1, nI_1]
      refine ⟨_, ?_, rfl⟩
      rw [hs', cpb_up (by decide)]
  · intro n i s hi hs
    have h' := hs.1.sr h
    obtain ⟨s', q1, q2, q3⟩ := F_maskTableR h' hi
    rw [lp_X7_make_2, h'.m 64 1 (mp_i _ (by decide)), hT.1, if_neg (nI_ge hi (by omega)), q1, Option.bind_some, nI_1]
    exact ⟨s', ⟨fun a k z1 z2 => (q2 a k z1).trans (hs.1 a k z1 z2), hs.2.stepR h hi q3⟩, rfl⟩
end RF
