/-! ===== best: the memory under a way ===== -/
theorem mvB_congr {ok ac ok' ac' : Nat → Bool} {sh sh' : Nat → Int32} : ∀ (k i : Nat) (o : Option Int32), (∀ j, i ≤ j → j < i + k → ok j = ok' j ∧ ac j = ac' j ∧ (ac j = true → sh j = sh' j)) → mvB ok ac sh i k o = mvB ok' ac' sh' i k o
  | 0, _, _, _ => rfl
  | k + 1, i, o, h => by
    obtain ⟨h1, h2, h3⟩ := h i (by omega) (by omega)
    have ih := fun o => mvB_congr (ok := ok) (ac := ac) (sh := sh) (ok' := ok') (ac' := ac') (sh' := sh') k (i + 1) o (fun j q1 q2 => h j (by omega) (by omega))
    rw [mvB_s, mvB_s, ← h1, ← h2]
    cases e : ac i with
    | true => rw [← h3 e, ih, ih]
    | false => rw [cond_false, cond_false, ih]
theorem fits_wid : ∀ w, w < 4 → f_X7_fits 2 3 (m_wid w) = true ∧ f_X7_fits 3 3 (m_wid w) = true := by decide
section BE
variable {p g s : mI} {b : Bool} {t way : Nat}
/-- the reference's memory with the widths of a way -/
def pW (p : mI) (t way : Nat) : mI := fun a k => if a = 71 ∧ 6 * t ≤ k ∧ k < 6 * t + nC p t ∧ co p t (k - 6 * t) = true then m_wid (dj p t way (rk p t (k - 6 * t))) else p a k
theorem pW_f {a : Nat} (ha : a ≠ 71) : pW p t way a = p a := by
  funext k
  unfold pW
  rw [if_neg (fun q => ha q.1)]
theorem pW_c {c : Nat} (hc : c < nC p t) (z : co p t c = true) : pW p t way 71 (6 * t + c) = m_wid (dj p t way (rk p t c)) := by
  unfold pW
  have e : 6 * t + c - 6 * t = c := by omega
  rw [if_pos ⟨rfl, by omega, by omega, by rw [e]; exact z⟩, e]
theorem pW_n {k : Nat} (h : ¬ (6 * t ≤ k ∧ k < 6 * t + nC p t ∧ co p t (k - 6 * t) = true)) : pW p t way 71 k = p 71 k := by
  unfold pW
  rw [if_neg (fun q => h q.2)]
theorem nT_pW : nT (pW p t way) = nT p := by unfold nT; rw [pW_f (by decide)]
theorem nC_pW : nC (pW p t way) = nC p := by funext u; unfold nC; rw [pW_f (by decide)]
theorem nR_pW : nR (pW p t way) = nR p := by funext u; unfold nR; rw [pW_f (by decide)]
theorem nO_pW : nO (pW p t way) = nO p := by funext u; unfold nO; rw [pW_f (by decide)]
theorem nW_pW : nW (pW p t way) = nW p := by unfold nW; rw [pW_f (by decide)]
theorem nU_pW : nU (pW p t way) = nU p := by unfold nU; rw [pW_f (by decide)]
theorem kind_co (h : Sm p g) {c : Nat} (ht : t < nT p) (hc : c < nC p t) (z : co p t c = true) : p 68 (6 * t + c) = 2 ∨ p 68 (6 * t + c) = 3 := by
  have z3 : p 70 (6 * t + c) = 3 := of_decide_eq_true z
  have q := (h.k2 ht hc).2.2.2
  rw [z3] at q
  exact (fits3 q).2.2
theorem Sm_pW (h : Sm p g) (ht : t < nT p) (hM : Mm (pW p t way) s) : Sm (pW p t way) s := by
  have hC6 := h.C6
  have hk := fun c hc z => kind_co h (t := t) (c := c) ht hc z
  obtain ⟨-, i1, i2, i3, i4, i5, i6⟩ := h
  refine ⟨hM, ?_, ?_, ?_, ?_, ?_, ?_⟩
  · unfold I1; rw [nT_pW, nC_pW, nR_pW, nO_pW, pW_f (a := 64) (by decide), pW_f (a := 65) (by decide), pW_f (a := 66) (by decide), pW_f (a := 67) (by decide), pW_f (a := 68) (by decide)]; exact i1
  · unfold I2; rw [nT_pW, nC_pW, pW_f (a := 68) (by decide), pW_f (a := 69) (by decide), pW_f (a := 70) (by decide)]
    intro u hu c hc
    have q := i2 u hu c hc
    refine ⟨q.1, q.2.1, q.2.2.1, ?_⟩
    by_cases y : u = t ∧ co p t c = true
    · obtain ⟨rfl, y2⟩ := y
      rw [pW_c hc y2]
      have z3 : p 70 (6 * u + c) = 3 := of_decide_eq_true y2
      have fw := fits_wid (dj p u way (rk p u c)) (dj_lt _ _ _ _)
      rw [z3]
      rcases hk c hc y2 with k | k
      · rw [k]; exact fw.1
      · rw [k]; exact fw.2
    · have := hC6 u hu
      have := hC6 t ht
      rw [pW_n]
      · exact q.2.2.2
      · rintro ⟨w1, w2, w3⟩
        have e1 : u = t := by omega
        subst e1
        rw [show 6 * u + c - 6 * u = c by omega] at w3
        exact y ⟨rfl, w3⟩
  · unfold I3; rw [nT_pW, nW_pW, nU_pW, pW_f (a := 64) (by decide), pW_f (a := 74) (by decide), pW_f (a := 75) (by decide)]; exact i3
  · unfold I4; rw [nT_pW, nC_pW, nR_pW, pW_f (a := 68) (by decide), pW_f (a := 76) (by decide)]; exact i4
  · unfold I5; rw [nU_pW]
    intro k hk
    have q := i5 k hk
    unfold okRule at q ⊢
    rw [nT_pW, nC_pW, pW_f (a := 68) (by decide), pW_f (a := 69) (by decide), pW_f (a := 80) (by decide), pW_f (a := 81) (by decide), pW_f (a := 82) (by decide), pW_f (a := 83) (by decide), pW_f (a := 84) (by decide), pW_f (a := 85) (by decide), pW_f (a := 86) (by decide)]; exact q
  · unfold I6; rw [nT_pW, nC_pW, nR_pW, pW_f (a := 64) (by decide), pW_f (a := 68) (by decide), pW_f (a := 77) (by decide)]; exact i6
theorem ow_pW (u r : Nat) : ow (pW p t way) u r = ow p u r := by unfold ow; rw [nO_pW, pW_f (by decide)]
theorem shv_pW (a : Int32) : shv (pW p t way) a = shv p a := by
  have e : stB (pW p t way) = stB p := by
    funext x y
    unfold stB tOK rOK cOK
    simp only [nT_pW, nR_pW, nC_pW, ow_pW, pW_f (p := p) (t := t) (way := way) (a := 70) (by decide), pW_f (p := p) (t := t) (way := way) (a := 76) (by decide)]
  have e2 : amt (pW p t way) = amt p := by
    funext x y
    unfold amt
    rw [pW_f (by decide)]
  unfold shv
  rw [e, e2]
theorem tkey_pW : tkey (pW p t way) = tkey p := by
  funext u n
  unfold tkey tk tg dA dB
  rw [pW_f (a := 74) (by decide), pW_f (a := 75) (by decide)]
theorem plB_pW (u c : Nat) : plB (pW p t way) u c = plB p u c := by
  unfold plB
  rw [pW_f (a := 68) (by decide), pW_f (a := 69) (by decide), pW_f (a := 70) (by decide)]
theorem mkv_pWn {x c : Nat} (z : co p t c = false) : mkv (pW p t way) t x c = mkv p t x c := by
  have e71 : pW p t way 71 (6 * t + c) = p 71 (6 * t + c) := pW_n (fun q => by
    have q3 := q.2.2
    rw [show 6 * t + c - 6 * t = c by omega, z] at q3
    cases q3)
  unfold mkv
  rw [e71, nR_pW, tkey_pW, shv_pW, ow_pW, pW_f (a := 68) (by decide), pW_f (a := 69) (by decide), pW_f (a := 70) (by decide), pW_f (a := 72) (by decide), pW_f (a := 73) (by decide), pW_f (a := 76) (by decide)]
theorem mkv_pWc (h : Sm p g) {x c : Nat} (ht : t < nT p) (hc : c < nC p t) (z : co p t c = true) : mkv (pW p t way) t x c = cv p t c (dj p t way (rk p t c)) x := by
  have z3 : p 70 (6 * t + c) = 3 := of_decide_eq_true z
  have k1 : ¬ p 68 (6 * t + c) = 1 := by
    rcases kind_co h ht hc z with k | k <;> rw [k] <;> decide
  unfold mkv cv
  rw [pW_c hc z, pW_f (a := 70) (by decide), pW_f (a := 76) (by decide), pW_f (a := 68) (by decide), z3, if_neg (show ¬ (3 : Int32) = 4 by decide), if_neg (show ¬ (3 : Int32) = 5 by decide), if_neg k1, if_neg (show ¬ (3 : Int32) = 1 by decide), if_neg (show ¬ (3 : Int32) = 2 by decide), if_pos (show (3 : Int32) = 3 from rfl)]
theorem cb_pW (h : Sm p g) {kn r x : Nat} (ht : t < nT p) : cbB (pW p t way) kn t r x = frB p kn t way r (kK p t) x := by
  have hC := h.C6 t ht
  have nb : ∀ c, c < nC p t → co p t c = false → (knq p t kn).testBit c = kn.testBit c := fun c hc z => by
    rw [knq_bit hC hc, z]; simp
  have cb : ∀ c, c < nC p t → co p t c = true → (knq p t kn).testBit c = false := fun c hc z => by
    rw [knq_bit hC hc, z]; simp
  have c3 : ∀ c, co p t c = true → p 70 (6 * t + c) = 3 := fun c z => of_decide_eq_true z
  unfold cbB frB
  rw [nC_pW]
  unfold cbB
  have e1 : mvB (okB (pW p t way) kn t r x) (acB (pW p t way) kn t r x) (shB (pW p t way) t r x) 0 (nC p t) none = mvB (okB p (knq p t kn) t r x) (acB p (knq p t kn) t r x) (shB p t r x) 0 (nC p t) none := by
    apply mvB_congr
    intro c _ hc
    have hc' : c < nC p t := by omega
    cases z : co p t c with
    | true =>
      have n2 : ¬ p 70 (6 * t + c) = 2 := by rw [c3 c z]; decide
      have a1 : okB (pW p t way) kn t r x c = true := by
        unfold okB
        rw [pW_f (a := 70) (by decide), if_neg n2]
        cases kn.testBit c <;> rfl
      have a2 : acB (pW p t way) kn t r x c = false := by
        unfold acB
        rw [pW_f (a := 70) (by decide), if_neg n2]
        cases kn.testBit c <;> rfl
      have a3 : okB p (knq p t kn) t r x c = true := by unfold okB; rw [cb c hc' z]; rfl
      have a4 : acB p (knq p t kn) t r x c = false := by unfold acB; rw [cb c hc' z]; rfl
      rw [a1, a2, a3, a4]
      exact ⟨rfl, rfl, fun q => by cases q⟩
    | false =>
      unfold okB acB shB
      rw [nb c hc' z, mkv_pWn z, pW_f (a := 70) (by decide), pW_f (a := 76) (by decide)]
      exact ⟨rfl, rfl, fun _ => rfl⟩
  have lc : ∀ c, c < nC p t → co p t c = true → lkB (pW p t way) kn t r x c = sB p kn t r x c (dj p t way (rk p t c)) := by
    intro c hc z
    have pl : plB p t c = true := by
      unfold plB
      have k1 : ¬ p 68 (6 * t + c) = 1 := by
        rcases kind_co h ht hc z with k | k <;> rw [k] <;> decide
      rw [if_neg k1, c3 c z, if_neg (by decide), if_pos rfl]
    unfold lkB sB
    rw [plB_pW, pl, mkv_pWc h ht hc z, mkv_pWc h ht hc z, cond_true]
  have ln : ∀ c, c < nC p t → co p t c = false → lkB (pW p t way) kn t r x c = lkB p (knq p t kn) t r x c := by
    intro c hc z
    unfold lkB
    rw [plB_pW, mkv_pWn z, mkv_pWn z, nb c hc z]
  have l1 : ∀ c, c < nC p t → co p t c = true → lkB p (knq p t kn) t r x c = true := by
    intro c hc z
    unfold lkB
    rw [cb c hc z]; rfl
  have e2 : al (lkB (pW p t way) kn t r x) 0 (nC p t) = (al (lkB p (knq p t kn) t r x) 0 (nC p t) && al (fun i => sB p kn t r x (cj p t i) (dj p t way i)) 0 (kK p t)) := by
    apply Bool.eq_iff_iff.mpr
    rw [Bool.and_eq_true]
    constructor
    · intro q
      have q' := al_t _ _ q
      refine ⟨al_i _ _ (fun c _ hc => ?_), al_i _ _ (fun i _ hi => ?_)⟩
      · cases z : co p t c with
        | true => exact l1 c (by omega) z
        | false =>
          rw [← ln c (by omega) z]
          exact q' c (by omega) hc
      · obtain ⟨y1, y2, y3⟩ := cj_ok (p := p) (t := t) (j := i) (by omega)
        have := q' (cj p t i) (by omega) (by omega)
        rw [lc _ y1 y2, y3] at this
        exact this
    · rintro ⟨q1, q2⟩
      have q1' := al_t _ _ q1
      have q2' := al_t _ _ q2
      refine al_i _ _ (fun c _ hc => ?_)
      cases z : co p t c with
      | true =>
        rw [lc c (by omega) z]
        have hl : rk p t c < kK p t := rk_lt (by omega) z
        have := q2' (rk p t c) (by omega) (by omega)
        have ec : cj p t (rk p t c) = c := cjF_rk (by omega) z
        rw [ec] at this
        exact this
      | false =>
        rw [ln c (by omega) z]
        exact q1' c (by omega) hc
  rw [e1, e2]
  cases al (lkB p (knq p t kn) t r x) 0 (nC p t) <;> cases al (fun i => sB p kn t r x (cj p t i) (dj p t way i)) 0 (kK p t) <;> simp
theorem mn_le {c : Nat → Nat} {k : Nat} : ∀ n, (k ≤ mnN c 13 n ↔ k ≤ 13 ∧ ∀ r, r < n → k ≤ c r)
  | 0 => ⟨fun h => ⟨h, fun r hr => by omega⟩, fun h => h.1⟩
  | n + 1 => by
    have ih := mn_le (c := c) (k := k) n
    show k ≤ min (mnN c 13 n) (c n) ↔ _
    rw [Nat.le_min, ih]
    constructor
    · rintro ⟨⟨q1, q2⟩, q3⟩
      refine ⟨q1, fun r hr => ?_⟩
      by_cases z : r = n
      · rw [z]; exact q3
      · exact q2 r (by omega)
    · rintro ⟨q1, q2⟩
      exact ⟨⟨q1, fun r hr => q2 r (by omega)⟩, q2 n (by omega)⟩
/-- alike under a way is k or more just where the class calls it safe -/
theorem safe_pW (h : Sm p g) {kn : Nat} (ht : t < nT p) (h1 : 1 ≤ nR p t) {q : Int32} (hq : 1 ≤ q) : (q ≤ nI (mnN (fun r => cnN (cbB (pW p t way) kn t r) (nR p t)) 13 (nR p t))) ↔ SFW p kn t q way = true := by
  have hR := (h.R ht).2
  have q0 : 0 ≤ q := Int32.le_trans (by decide) hq
  obtain ⟨k, hk, rfl⟩ := nn_of q0
  have b1 := mnN_le (fun r => cnN (cbB (pW p t way) kn t r) (nR p t)) 13 (nR p t)
  rw [nI_leI hk (by omega), mn_le]
  have ec : ∀ r, cnN (cbB (pW p t way) kn t r) (nR p t) = cnN (frB p kn t way r (kK p t)) (nR p t) := fun r => cnN_congr _ (fun x _ => cb_pW h ht)
  have cl12 : ∀ r, cnN (frB p kn t way r (kK p t)) (nR p t) ≤ 12 := fun r => Nat.le_trans (cnN_le _ _) hR
  unfold SFW
  constructor
  · rintro ⟨-, q2⟩
    refine al_i _ _ (fun r _ hr => ?_)
    have := q2 r (by omega)
    rw [ec r] at this
    have c12 := cl12 r
    exact decide_eq_true (nI_le this (by omega))
  · intro q1
    have key : ∀ r, r < nR p t → k ≤ cnN (frB p kn t way r (kK p t)) (nR p t) := fun r hr => by
      have c12 := cl12 r
      have := of_decide_eq_true (al_t _ _ q1 r (by omega) (by omega))
      exact (nI_leI hk (by omega)).mp this
    refine ⟨?_, fun r hr => by show k ≤ cnN (cbB (pW p t way) kn t r) (nR p t); rw [ec r]; exact key r hr⟩
    have := key 0 (by omega)
    have := cl12 0
    omega
end BE
