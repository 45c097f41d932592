/-! ===== broken, both ===== -/
section BR
variable {p g : mI} {b : Bool}
/-- the cells in use, seen at A, are f -/
def sameV (p g : mI) (A : Nat) (f : Nat → Int32) : Prop := ∀ t, t < nT p → ∀ r, r < nR p t → ∀ c, c < nC p t → g A (72 * t + 6 * r + c) = f (72 * t + 6 * r + c)
def spf (f : Nat → Int32) (u a2 e : Nat) (K : Int32) : Nat → Int32 := fun r => if f (72 * u + 6 * r + e) = K then (if f (72 * u + 6 * r + a2) = (-2147483648) then 0 else f (72 * u + 6 * r + a2)) else 0
def r1 (p : mI) (k t a u a2 e : Nat) : Prop := (t < nT p ∧ p 81 k = nI t ∧ a < nC p t ∧ p 82 k = nI a) ∧ p 80 k = 1 ∧ (u < nT p ∧ p 84 k = nI u) ∧ (a2 < nC p u ∧ p 83 k = nI a2) ∧ (e < nC p u ∧ p 85 k = nI e)
theorem F_partsC (h : St p g b) {x : Nat} (hx : isCopy b x) {f : Nat → Int32} (sv : sameV p g (x + 1) f) {k t a u a2 e r : Nat} (hk : k < nU p) (hr1 : r1 p k t a u a2 e) (hr : r < nR p t) : f_X6_partsOf g b (56 + k) x (nI r) = some (sm (spf f u a2 e (f (72 * t + 6 * r + 0))) 0 (nR p u)) := by
  obtain ⟨⟨t1, t2, t3, t4⟩, t5, ⟨u1, u2⟩, ⟨y1, y2⟩, ⟨z1, z2⟩⟩ := hr1
  have hT := h.T.2
  have hU := h.U.2
  have hCt := h.C t1
  have hCu := h.C u1
  have hRt := h.R t1
  have hRu := h.R u1
  obtain ⟨c0, c1, c2, c3, c4⟩ := h.e8 k hk
  have c3 := c3 (by rw [t5]; decide)
  obtain ⟨c4, c5, c6⟩ := c4 t5
  have sr := s0_rul k (by omega)
  unfold f_X6_partsOf
  rw [if_pos sr, if_pos hx.1, c1, t2, show f_X1_read g b x (nI t) (nI r) 0 = some (g (x + 1) (72 * t + 6 * r + 0)) from F_read hx (by omega) (by omega) (by decide), Option.bind_some, sv t t1 r hr 0 (by omega)]
  have key := loop_sum (lp := lp_X6_partsOf_18 g b (56 + k) x (nI r) (f (72 * t + 6 * r + 0))) (N := nR p u) (f := spf f u a2 e (f (72 * t + 6 * r + 0))) (fin := fun s => some s) ?_ ?_ (nR p u) 0 0 2000 (by omega) (by omega)
  · rw [show (0 : Int32) = nI 0 from rfl] at key ⊢
    rw [key]
    show some (0 + _) = _
    rw [Int32.zero_add]
  · intro n acc
    rw [lp_X6_partsOf_18, if_pos sr, c4, u2, F_rowsOf h, rowsN_nI h u1, Option.bind_some, if_pos (Int32.le_refl _)]
  · intro n acc i hi
    rw [lp_X6_partsOf_18, if_pos sr, c4, u2, F_rowsOf h, rowsN_nI h u1, Option.bind_some, if_neg (nI_ge hi (by omega)), if_pos hx.1, c3, y2, c5, z2, F_read hx (by omega) (by omega) (by omega), F_read hx (by omega) (by omega) (by omega), Option.bind_some, Option.bind_some, sv u u1 i hi a2 y1, sv u u1 i hi e z1, nI_1]
    unfold spf
    by_cases w1 : f (72 * u + 6 * i + a2) = (-2147483648)
    · rw [if_pos w1, if_pos w1]
      by_cases w2 : f (72 * u + 6 * i + e) = f (72 * t + 6 * r + 0)
      · rw [if_pos w2, Int32.add_zero]
      · rw [if_neg w2, Int32.add_zero]
    · rw [if_neg w1, if_neg w1]
      by_cases w2 : f (72 * u + 6 * i + e) = f (72 * t + 6 * r + 0)
      · rw [if_pos w2, if_pos w2]
      · rw [if_neg w2, if_neg w2, Int32.add_zero]
theorem F_sumM (h : St p g b) {f : Nat → Int32} (sv : sameV p g 87 f) {k t a u a2 e r : Nat} (hk : k < nU p) (hr1 : r1 p k t a u a2 e) (hr : r < nR p t) : f_X7_sumFor g (nI k) (nI r) = some (sm (spf f u a2 e (f (72 * t + 6 * r + 0))) 0 (nR p u)) := by
  obtain ⟨⟨t1, t2, t3, t4⟩, t5, ⟨u1, u2⟩, ⟨y1, y2⟩, ⟨z1, z2⟩⟩ := hr1
  have hT := h.T.2
  have hU := h.U.2
  have hCt := h.C t1
  have hCu := h.C u1
  have hRt := h.R t1
  have hRu := h.R u1
  have nk : m_in (nI k) 8 := m_inN (by omega) (by decide)
  have dk : (nI k).toNatClampNeg = k := nI_clamp (by omega)
  have nu : m_in (nI u) 4 := m_inN (by omega) (by decide)
  have du : (nI u).toNatClampNeg = u := nI_clamp (by omega)
  have n0 : m_in (nI (72 * t + 6 * r + 0)) 288 := m_inN (cell_in (by omega) (by omega) (by decide)) (by decide)
  have d0 : (nI (72 * t + 6 * r + 0)).toNatClampNeg = 72 * t + 6 * r + 0 := nI_clamp (by omega)
  unfold f_X7_sumFor
  rw [if_pos nk, dk, h.m 84 _ (mp_i _ (by decide)), u2]
  have key := loop_sum (lp := lp_X7_sumFor_13 g (nI k) (nI r) (nI u)) (N := nR p u) (f := spf f u a2 e (f (72 * t + 6 * r + 0))) (fin := fun s => some s) ?_ ?_ (nR p u) 0 0 2000 (by omega) (by omega)
  · rw [show (0 : Int32) = nI 0 from rfl] at key ⊢
    rw [key]
    show some (0 + _) = _
    rw [Int32.zero_add]
  · intro n acc
    rw [lp_X7_sumFor_13, if_pos nu, du, h.m 66 _ (mp_i _ (by decide)), hRu.1, if_pos (Int32.le_refl _)]
  · intro n acc i hi
    have n1 : m_in (nI (72 * u + 6 * i + a2)) 288 := m_inN (cell_in (by omega) (by omega) (by omega)) (by decide)
    have d1 : (nI (72 * u + 6 * i + a2)).toNatClampNeg = 72 * u + 6 * i + a2 := nI_clamp (by omega)
    have n2 : m_in (nI (72 * u + 6 * i + e)) 288 := m_inN (cell_in (by omega) (by omega) (by omega)) (by decide)
    have d2 : (nI (72 * u + 6 * i + e)).toNatClampNeg = 72 * u + 6 * i + e := nI_clamp (by omega)
    rw [lp_X7_sumFor_13, if_pos nu, du, h.m 66 _ (mp_i _ (by decide)), hRu.1, if_neg (nI_ge hi (by omega)), if_pos nk, dk, h.m 83 _ (mp_i _ (by decide)), h.m 85 _ (mp_i _ (by decide)), h.m 81 _ (mp_i _ (by decide)), y2, z2, t2, nI_cell, if_pos n1, nI_cell, if_pos n2, show f_X7_cell (nI t) (nI r) 0 = nI (72 * t + 6 * r + 0) from nI_cell t r 0, if_pos n0, d0, d1, d2, sv u u1 i hi a2 y1, sv u u1 i hi e z1, sv t t1 r hr 0 (by omega), nI_1]
    unfold spf
    by_cases w2 : f (72 * u + 6 * i + e) = f (72 * t + 6 * r + 0)
    · rw [if_pos w2, if_pos w2]
      by_cases w1 : f (72 * u + 6 * i + a2) = (-2147483648)
      · rw [if_pos w1, if_pos w1, Int32.add_zero]
      · rw [if_neg w1, if_neg w1]
    · rw [if_neg w2, if_neg w2, Int32.add_zero]
/-- a key is there -/
def hasK (f : Nat → Int32) (u R : Nat) (v : Int32) : Bool := !al (fun r => !decide (f (72 * u + 6 * r + 0) = v)) 0 R
theorem F_hasC (h : St p g b) {x : Nat} (hx : isCopy b x) {f : Nat → Int32} (sv : sameV p g (x + 1) f) {u : Nat} (hu : u < nT p) (v : Int32) : ∃ m, f_X6_rowsWith g b x (nI u) 0 v = some m ∧ ((if m ≤ 0 then some false else some true) : Option Bool) = some (hasK f u (nR p u) v) := by
  have hC := h.C hu
  have hR := h.R hu
  have q := F_rowsWith h hx hu (show 0 < 6 by decide) v
  have es : sm (cntf (g (x + 1)) u 0 v) 0 (nR p u) = sm (cntf f u 0 v) 0 (nR p u) := by
    apply sm_congr
    intro j _ hj
    unfold cntf
    rw [sv u hu j (by omega) 0 (by omega)]
  rw [es] at q
  have hcf : ∀ j, cntf f u 0 v j = if (fun r => !decide (f (72 * u + 6 * r + 0) = v)) j = true then 0 else 1 := by
    intro j
    unfold cntf
    show _ = if (!decide (f (72 * u + 6 * j + 0) = v)) = true then (0 : Int32) else 1
    by_cases y : f (72 * u + 6 * j + 0) = v
    · rw [if_pos y, decide_eq_true y]; rfl
    · rw [if_neg y, decide_eq_false y]; rfl
  obtain ⟨m, q1, q2, q3⟩ := sm_cnt hcf (nR p u) 0 (by omega)
  rw [q2] at q
  refine ⟨nI m, q, ?_⟩
  unfold hasK
  by_cases z : m = 0
  · rw [q3.mp z, z]; rfl
  · rw [if_neg (nI_nle (by omega) (by omega))]
    cases w : al (fun r => !decide (f (72 * u + 6 * r + 0) = v)) 0 (nR p u) with
    | true => exact absurd (q3.mpr w) z
    | false => rfl
theorem F_hasM (h : St p g b) {f : Nat → Int32} (sv : sameV p g 87 f) {u : Nat} (hu : u < nT p) (v : Int32) : f_X7_isKeyOf g (nI u) v = some (hasK f u (nR p u) v) := by
  have hT := h.T.2
  have hC := h.C hu
  have hR := h.R hu
  have nu : m_in (nI u) 4 := m_inN (by omega) (by decide)
  have du : (nI u).toNatClampNeg = u := nI_clamp (by omega)
  unfold f_X7_isKeyOf hasK
  have key := loop_all (lp := lp_X7_isKeyOf_2 g (nI u) v) (N := nR p u) (f := fun r => !decide (f (72 * u + 6 * r + 0) = v)) (fin := some false) (bad := some true) ?_ ?_ (nR p u) 0 2000 (by omega) (by omega)
  · rw [show (0 : Int32) = nI 0 from rfl, key]
    cases al (fun r => !decide (f (72 * u + 6 * r + 0) = v)) 0 (nR p u) <;> rfl
  · intro n
    rw [lp_X7_isKeyOf_2, if_pos nu, du, h.m 66 _ (mp_i _ (by decide)), hR.1, if_pos (Int32.le_refl _)]
  · intro n i hi
    have n1 : m_in (nI (72 * u + 6 * i + 0)) 288 := m_inN (cell_in (by omega) (by omega) (by decide)) (by decide)
    have d1 : (nI (72 * u + 6 * i + 0)).toNatClampNeg = 72 * u + 6 * i + 0 := nI_clamp (by omega)
    rw [lp_X7_isKeyOf_2, if_pos nu, du, h.m 66 _ (mp_i _ (by decide)), hR.1, if_neg (nI_ge hi (by omega)), show f_X7_cell (nI u) (nI i) 0 = nI (72 * u + 6 * i + 0) from nI_cell u i 0, if_pos n1, d1, sv u hu i hi 0 (by omega), nI_1]
    by_cases w : f (72 * u + 6 * i + 0) = v
    · rw [if_pos w, decide_eq_true w]; rfl
    · rw [if_neg w, decide_eq_false w]; rfl
end BR
