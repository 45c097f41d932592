/-! ===== best: the class's search made ready ===== -/
theorem cnN_mono (f : Nat → Bool) (i : Nat) : ∀ d, cnN f i ≤ cnN f (i + d)
  | 0 => Nat.le_refl _
  | d + 1 => Nat.le_trans (cnN_mono f i d) (Nat.le_add_right _ _)
theorem cnN_lt {f : Nat → Bool} {i j : Nat} (hi : f i = true) (h : i < j) : cnN f i < cnN f j := by
  have h1 : cnN f (i + 1) = cnN f i + 1 := by
    show cnN f i + (bif f i then 1 else 0) = _
    rw [hi]; rfl
  have h2 := cnN_mono f (i + 1) (j - (i + 1))
  rw [show i + 1 + (j - (i + 1)) = j by omega] at h2
  omega
theorem cnN_le1 {f : Nat → Bool} (h0 : f 0 = false) : ∀ n, cnN f (n + 1) ≤ n
  | 0 => by
    show 0 + (bif f 0 then 1 else 0) ≤ 0
    rw [h0]; exact Nat.le_refl _
  | n + 1 => by
    have := cnN_le1 h0 n
    show cnN f (n + 1) + (bif f (n + 1) then 1 else 0) ≤ n + 1
    cases f (n + 1) <;> simp <;> omega
theorem m_wid_b : ∀ w, w < 4 → 1 ≤ m_wid w ∧ m_wid w ≤ 1000 := by decide
theorem npS (b : Bool) {a : Nat} (h1 : 7 ≤ a) (h2 : a ≤ 11) : ¬ pers b a := by
  unfold pers mp
  have := pM_lt b
  omega
section BA
variable {p g s : mI} {b : Bool}
/-- columns with widths -/
def co (p : mI) (t c : Nat) : Bool := decide (p 70 (6 * t + c) = 3)
def rk (p : mI) (t c : Nat) : Nat := cnN (co p t) c
def Lw (p : mI) (t c w : Nat) : Int32 := sm (lsf p t c (m_wid w)) 0 (nR p t)
def cv (p : mI) (t c w x : Nat) : Int32 := if p 76 (72 * t + 6 * x + c) = (-2147483648) then (-2147483648) else p 76 (72 * t + 6 * x + c) - fmod (p 76 (72 * t + 6 * x + c)) (m_wid w)
def sB (p : mI) (kn t r x c w : Nat) : Bool := bif kn.testBit c then decide (cv p t c w x = cv p t c w r) else true
theorem F_widthAt {w : Nat} (hw : w < 4) : f_X5_widthAt s (nI w) = some (m_wid w) := by
  unfold f_X5_widthAt
  rw [if_neg (nI_pos (by omega)), if_neg (show ¬ (4 : Int32) ≤ nI w from nI_ge (b := 4) hw (by decide)), if_pos (m_inN hw (by decide)), nI_clamp (by omega)]
theorem F_isChoice {q j w : Nat} (e4 : s 7 4 = nI q) (hj : j < q) (hq : q ≤ 6) (hw : w < 4) : f_X5_isChoice s (nI j) (nI w) = true := by
  unfold f_X5_isChoice
  rw [if_neg (nI_pos (by omega)), e4, if_neg (nI_ge hj (by omega)), if_neg (nI_pos (by omega)), if_neg (show ¬ (4 : Int32) ≤ nI w from nI_ge (b := 4) hw (by decide))]
theorem F_setSame {q R j w r : Nat} (e4 : s 7 4 = nI q) (e5 : s 7 5 = nI R) (hj : j < q) (hq : q ≤ 6) (hw : w < 4) (hr : r < R) (hR : R ≤ 12) (v : Int32) : f_X5_setSame s (nI j) (nI w) (nI r) v = some (m_up s 10 ((j * 4 + w) * 12 + r) v) := by
  unfold f_X5_setSame
  rw [F_isChoice e4 hj hq hw, cond_true, if_neg (nI_pos (by omega)), e5, if_neg (nI_ge hr (by omega)), show (4 : Int32) = nI 4 from rfl, show (12 : Int32) = nI 12 from rfl, pk_mul, nI_add, pk_mul, nI_add, if_pos (m_inN (by omega) (by decide)), nI_clamp (by omega)]
  rfl
theorem F_setLoss {q j w : Nat} (e4 : s 7 4 = nI q) (hj : j < q) (hq : q ≤ 6) (hw : w < 4) (v : Int32) : f_X5_setLoss s (nI j) (nI w) v = some (m_up s 9 (j * 4 + w) v) := by
  unfold f_X5_setLoss
  rw [F_isChoice e4 hj hq hw, cond_true, show (4 : Int32) = nI 4 from rfl, pk_mul, nI_add, if_pos (m_inN (by omega) (by decide)), nI_clamp (by omega)]
  rfl
theorem F_com {v : Int32} {w : Nat} (hw : w < 4) : f_X6_coarseOrMissing v (m_wid w) = some (if v = (-2147483648) then (-2147483648) else v - fmod v (m_wid w)) := by
  unfold f_X6_coarseOrMissing
  by_cases z : v = (-2147483648)
  · rw [if_pos z, if_pos z]
  · rw [if_neg z, if_neg z, F_tooFine _ (m_wid_b w hw).1]; rfl
theorem F_sameBy (h : St p s b) {t c r w : Nat} (ht : t < nT p) (hc : c < nC p t) (hr : r < nR p t) (hw : w < 4) : f_X6_sameBy s b (nI t) (nI c) (nI r) (m_wid w) = some (nI (bsN (fun x => decide (cv p t c w x = cv p t c w r)) (nR p t))) := by
  have hT := h.T.2
  have hC := h.C6 t ht
  have hR := (h.R ht).2
  have er : s (4 + 1) (72 * t + 6 * r + c) = p 76 (72 * t + 6 * r + c) := h.e6 t ht r hr c hc
  unfold f_X6_sameBy
  rw [F_read (cp_t b) (by omega) (by omega) (by omega), Option.bind_some, er, F_com hw, Option.bind_some]
  have key := loop_st (lp := fun n y q => lp_X6_sameBy_23 s b (nI t) (nI c) (nI r) (m_wid w) (cv p t c w r) n q y) (N := nR p t) (st := fun i => nI (bsN (fun x => decide (cv p t c w x = cv p t c w r)) i)) (fin := some (nI (bsN (fun x => decide (cv p t c w x = cv p t c w r)) (nR p t)))) ?_ ?_ (nR p t) 0 2000 (by omega) (by omega)
  · exact key
  · intro n
    show lp_X6_sameBy_23 s b (nI t) (nI c) (nI r) (m_wid w) (cv p t c w r) (n + 1) (nI (bsN (fun x => decide (cv p t c w x = cv p t c w r)) (nR p t))) (nI (nR p t)) = _
    rw [lp_X6_sameBy_23, F_rowsOf h, rowsN_nI h ht, Option.bind_some, if_pos (Int32.le_refl _)]
  · intro n x hx
    show lp_X6_sameBy_23 s b (nI t) (nI c) (nI r) (m_wid w) (cv p t c w r) (n + 1) (nI (bsN (fun x => decide (cv p t c w x = cv p t c w r)) x)) (nI x) = lp_X6_sameBy_23 s b (nI t) (nI c) (nI r) (m_wid w) (cv p t c w r) n (nI (bsN (fun x => decide (cv p t c w x = cv p t c w r)) (x + 1))) (nI (x + 1))
    have ex : s (4 + 1) (72 * t + 6 * x + c) = p 76 (72 * t + 6 * x + c) := h.e6 t ht x hx c hc
    rw [lp_X6_sameBy_23, F_rowsOf h, rowsN_nI h ht, Option.bind_some, if_neg (nI_ge hx (by omega)), F_read (cp_t b) (by omega) (by omega) (by omega), Option.bind_some, ex, F_com hw, Option.bind_some, nI_1]
    show (if cv p t c w x = cv p t c w r then _ else _) = _
    by_cases z : cv p t c w x = cv p t c w r
    · rw [if_pos z, bsN_or (fun x => decide (cv p t c w x = cv p t c w r)) x (by omega) (decide_eq_true z)]
    · rw [if_neg z, bsN_skip (fun x => decide (cv p t c w x = cv p t c w r)) x (decide_eq_false z)]
theorem t4095 : ∀ x, x < 12 → (4095 : Nat).testBit x = true := by decide
/-- a set of rows, by its bits -/
def isSet (s : mI) (A k R : Nat) (f : Nat → Bool) : Prop := ∃ m, m < 4096 ∧ s A k = nI m ∧ ∀ x, x < R → m.testBit x = f x
theorem F_of48 (h : St p s b) {t c kn j w : Nat} (ht : t < nT p) (hc : c < nC p t) (hw : w < 4) (hj : j < 6) (e4 : s 7 4 = nI (j + 1)) (e5 : s 7 5 = nI (nR p t)) {z : Bool} (hz : z = kn.testBit c) (k13 : Int32 → mI → Option mI) : ∃ s', ((∀ a k, a ≠ 10 → s' a k = s a k) ∧ (∀ k, (k < (j * 4 + w) * 12 ∨ (j * 4 + w) * 12 + 12 ≤ k) → s' 10 k = s 10 k) ∧ ∀ r, r < nR p t → isSet s' 10 ((j * 4 + w) * 12 + r) (nR p t) (fun x => sB p kn t r x c w)) ∧ lp_X6_offerWidths_48 b (nI t) (nI c) z (nI j) (nI w) (m_wid w) k13 2000 (nI 0) s = k13 (nI (w + 1)) s' := by
  have hT := h.T.2
  have hC := h.C6 t ht
  have hR := (h.R ht).2
  have st : ∀ s', (∀ a k, a ≠ 10 → s' a k = s a k) → St p s' b := fun s' q => h.congr fun a k ha => q a k (fun e => npS b (a := 10) (by decide) (by decide) (e ▸ ha))
  refine loop_inv (lp := lp_X6_offerWidths_48 b (nI t) (nI c) z (nI j) (nI w) (m_wid w) k13) (N := nR p t) (Inv := fun i s' => (∀ a k, a ≠ 10 → s' a k = s a k) ∧ (∀ k, (k < (j * 4 + w) * 12 ∨ (j * 4 + w) * 12 + 12 ≤ k) → s' 10 k = s 10 k) ∧ ∀ r, r < i → isSet s' 10 ((j * 4 + w) * 12 + r) (nR p t) (fun x => sB p kn t r x c w)) (fin := fun s' => k13 (nI (w + 1)) s') ?_ ?_ (nR p t) 0 2000 s (by omega) (by omega) ⟨fun _ _ _ => rfl, fun _ _ => rfl, fun r hr => by omega⟩
  · intro n s' hs
    have h' := st s' hs.1
    rw [lp_X6_offerWidths_48, F_rowsOf h', rowsN_nI h' ht, Option.bind_some, if_pos (Int32.le_refl _), nI_1]
  · intro n i s' hi hs
    have h' := st s' hs.1
    have e4' : s' 7 4 = nI (j + 1) := (hs.1 7 4 (by decide)).trans e4
    have e5' : s' 7 5 = nI (nR p t) := (hs.1 7 5 (by decide)).trans e5
    have step : ∀ m, m < 4096 → (∀ x, x < nR p t → m.testBit x = sB p kn t i x c w) → ((∀ a k, a ≠ 10 → m_up s' 10 ((j * 4 + w) * 12 + i) (nI m) a k = s a k) ∧ (∀ k, (k < (j * 4 + w) * 12 ∨ (j * 4 + w) * 12 + 12 ≤ k) → m_up s' 10 ((j * 4 + w) * 12 + i) (nI m) 10 k = s 10 k) ∧ ∀ r, r < i + 1 → isSet (m_up s' 10 ((j * 4 + w) * 12 + i) (nI m)) 10 ((j * 4 + w) * 12 + r) (nR p t) (fun x => sB p kn t r x c w)) := by
      intro m hm hb
      refine ⟨fun a k ha => by rw [m_up_o (Or.inl ha)]; exact hs.1 a k ha, fun k hk => by rw [m_up_o (by omega)]; exact hs.2.1 k hk, fun r hr => ?_⟩
      by_cases y : r = i
      · subst y
        exact ⟨m, hm, m_up_eq _ _ _ _, hb⟩
      · obtain ⟨m', q1, q2, q3⟩ := hs.2.2 r (by omega)
        exact ⟨m', q1, by rw [m_up_o (by omega)]; exact q2, q3⟩
    rw [lp_X6_offerWidths_48, F_rowsOf h', rowsN_nI h' ht, Option.bind_some, if_neg (nI_ge hi (by omega)), nI_1]
    cases z with
    | true =>
      rw [cond_true, F_sameBy h' ht hc hi hw, Option.bind_some, F_setSame e4' e5' (by omega) (by omega) hw hi hR, Option.bind_some]
      refine ⟨_, step _ (bsN_4096 _ hR) (fun x hx => ?_), rfl⟩
      rw [bsN_bit, decide_eq_true hx, Bool.true_and]
      unfold sB
      rw [← hz]; rfl
    | false =>
      rw [cond_false, show (4095 : Int32) = nI 4095 from rfl, F_setSame e4' e5' (by omega) (by omega) hw hi hR, Option.bind_some]
      refine ⟨_, step 4095 (by decide) (fun x hx => ?_), rfl⟩
      rw [t4095 x (by omega)]
      unfold sB
      rw [← hz]; rfl
/-- what the search holds of one column -/
def Sj (p s : mI) (kn t c j : Nat) : Prop := s 8 j = nI c ∧ ∀ w, w < 4 → s 9 (j * 4 + w) = Lw p t c w ∧ ∀ r, r < nR p t → isSet s 10 ((j * 4 + w) * 12 + r) (nR p t) (fun x => sB p kn t r x c w)
theorem isSet.to {s' : mI} {A k R : Nat} {f : Nat → Bool} (h : isSet s A k R f) (e : s' A k = s A k) : isSet s' A k R f := by
  obtain ⟨m, q1, q2, q3⟩ := h
  exact ⟨m, q1, e.trans q2, q3⟩
theorem F_offer (h : St p s b) {t c kn j : Nat} (ht : t < nT p) (hc : c < nC p t) (hj : j < 6) (e4 : s 7 4 = nI j) (e5 : s 7 5 = nI (nR p t)) {z : Bool} (hz : z = kn.testBit c) : ∃ s', f_X6_offerWidths s b (nI t) (nI c) z = some s' ∧ (∀ a k, a < 7 ∨ 11 ≤ a → s' a k = s a k) ∧ s' 7 4 = nI (j + 1) ∧ s' 7 5 = nI (nR p t) ∧ (∀ k, k ≠ j → s' 8 k = s 8 k) ∧ (∀ k, k < j * 4 → s' 9 k = s 9 k) ∧ (∀ k, k < j * 48 → s' 10 k = s 10 k) ∧ Sj p s' kn t c j := by
  have hT := h.T.2
  have hC := h.C6 t ht
  have hR := (h.R ht).2
  unfold f_X6_offerWidths f_X5_addColumn
  rw [e4, if_pos (show nI j < (6 : Int32) from nI_lt (b := 6) hj (by decide)), if_pos (m_inN hj (by decide)), nI_clamp (by omega)]
  simp only [m_let]
  have e47 : m_up s 8 j (nI c) 7 4 = nI j := by rw [m_up_o (by omega)]; exact e4
  rw [m_up_eq, e47, nI_1, nI_pred, Option.bind_some]
  obtain ⟨s1, hs1⟩ : ∃ s1, s1 = m_up (m_up s 8 j (nI c)) 7 4 (nI (j + 1)) := ⟨_, rfl⟩
  rw [← hs1]
  have f1 : ∀ a k, a < 7 ∨ 9 ≤ a → s1 a k = s a k := fun a k ha => by rw [hs1, m_up_o (by omega), m_up_o (by omega)]
  have f74 : s1 7 4 = nI (j + 1) := by rw [hs1, m_up_eq]
  have f75 : s1 7 5 = nI (nR p t) := by rw [hs1, m_up_o (by omega), m_up_o (by omega)]; exact e5
  have f8 : ∀ k, k ≠ j → s1 8 k = s 8 k := fun k hk => by rw [hs1, m_up_o (by omega), m_up_o (by omega)]
  have f8j : s1 8 j = nI c := by rw [hs1, m_up_o (by omega), m_up_eq]
  have h1 : St p s1 b := h.congr fun a k ha => f1 a k (by
    by_cases y : 7 ≤ a ∧ a ≤ 11
    · exact absurd ha (npS b y.1 y.2)
    · omega)
  have st : ∀ s', (∀ a k, a ≠ 9 → a ≠ 10 → s' a k = s1 a k) → St p s' b := fun s' q => h1.congr fun a k ha => q a k (fun e => npS b (a := 9) (by decide) (by decide) (e ▸ ha)) (fun e => npS b (a := 10) (by decide) (by decide) (e ▸ ha))
  have key := loop_inv (lp := lp_X6_offerWidths_13 b (nI t) (nI c) z (nI j)) (N := 4) (Inv := fun w s' => (∀ a k, a ≠ 9 → a ≠ 10 → s' a k = s1 a k) ∧ (∀ k, k < j * 4 → s' 9 k = s1 9 k) ∧ (∀ k, k < j * 48 → s' 10 k = s1 10 k) ∧ ∀ w', w' < w → s' 9 (j * 4 + w') = Lw p t c w' ∧ ∀ r, r < nR p t → isSet s' 10 ((j * 4 + w') * 12 + r) (nR p t) (fun x => sB p kn t r x c w')) (fin := fun s' => some s') ?_ ?_ 4 0 2000 s1 rfl (by decide) ⟨fun _ _ _ _ => rfl, fun _ _ => rfl, fun _ _ => rfl, fun w hw => by omega⟩
  · obtain ⟨s', q1, q2⟩ := key
    refine ⟨s', q2, fun a k ha => ?_, ?_, ?_, fun k hk => ?_, fun k hk => ?_, fun k hk => ?_, ?_, fun w hw => q1.2.2.2 w hw⟩
    · rw [q1.1 a k (by omega) (by omega)]; exact f1 a k (by omega)
    · rw [q1.1 7 4 (by decide) (by decide)]; exact f74
    · rw [q1.1 7 5 (by decide) (by decide)]; exact f75
    · rw [q1.1 8 k (by decide) (by decide)]; exact f8 k hk
    · rw [q1.2.1 k hk]; exact f1 9 k (by omega)
    · rw [q1.2.2.1 k hk]; exact f1 10 k (by omega)
    · rw [q1.1 8 j (by decide) (by decide)]; exact f8j
  · intro n s' hs
    rw [lp_X6_offerWidths_13, if_pos (show (4 : Int32) ≤ nI 4 by decide)]
  · intro n w s' hw hs
    have h' := st s' hs.1
    have e4' : s' 7 4 = nI (j + 1) := (hs.1 7 4 (by decide) (by decide)).trans f74
    have e5' : s' 7 5 = nI (nR p t) := (hs.1 7 5 (by decide) (by decide)).trans f75
    rw [lp_X6_offerWidths_13, if_neg (show ¬ (4 : Int32) ≤ nI w from nI_ge (b := 4) hw (by decide)), F_widthAt hw, Option.bind_some, F_lossBy h' ht hc (m_wid_b w hw).1, Option.bind_some, F_setLoss e4' (by omega) (by omega) hw, Option.bind_some, show (0 : Int32) = nI 0 from rfl]
    have h2 : St p (m_up s' 9 (j * 4 + w) (sm (lsf p t c (m_wid w)) 0 (nR p t))) b := h'.scratch (npS b (by decide) (by decide))
    obtain ⟨s2, ⟨q1, q2, q3⟩, q4⟩ := F_of48 h2 (kn := kn) ht hc hw hj (by rw [m_up_o (by omega)]; exact e4') (by rw [m_up_o (by omega)]; exact e5') hz (fun y13_5 g13 => lp_X6_offerWidths_13 b (nI t) (nI c) z (nI j) n y13_5 g13)
    refine ⟨s2, ⟨fun a k h9 h10 => ?_, fun k hk => ?_, fun k hk => ?_, fun w' hw' => ?_⟩, q4⟩
    · rw [q1 a k h10, m_up_o (by omega)]; exact hs.1 a k h9 h10
    · rw [q1 9 k (by decide), m_up_o (by omega)]; exact hs.2.1 k hk
    · rw [q2 k (by omega), m_up_o (by omega)]; exact hs.2.2.1 k hk
    · by_cases y : w' = w
      · subst y
        refine ⟨?_, q3⟩
        rw [q1 9 _ (by decide), m_up_eq]; rfl
      · obtain ⟨a1, a2⟩ := hs.2.2.2 w' (by omega)
        refine ⟨?_, fun r hr => (a2 r hr).to ?_⟩
        · rw [q1 9 _ (by decide), m_up_o (by omega)]; exact a1
        · rw [q2 _ (by omega), m_up_o (by omega)]
end BA
