/-! ===== made numbers stay small ===== -/
def ns (f : Nat → Nat) : Nat → Nat → Nat
  | _, 0 => 0
  | i, k + 1 => f i + ns f (i + 1) k
theorem ns_le {f h : Nat → Nat} : ∀ (k i : Nat), (∀ j, i ≤ j → j < i + k → f j ≤ h j) → ns f i k ≤ ns h i k
  | 0, _, _ => Nat.le_refl _
  | k + 1, i, q => Nat.add_le_add (q i (by omega) (by omega)) (ns_le k (i + 1) (fun j h1 h2 => q j (by omega) (by omega)))
theorem ns_add {f h : Nat → Nat} : ∀ (k i : Nat), ns (fun j => f j + h j) i k = ns f i k + ns h i k
  | 0, _ => rfl
  | k + 1, i => by
    show f i + h i + ns (fun j => f j + h j) (i + 1) k = (f i + ns f (i + 1) k) + (h i + ns h (i + 1) k)
    rw [ns_add k (i + 1)]; omega
theorem ns_z : ∀ (k i : Nat), ns (fun _ => 0) i k = 0
  | 0, _ => rfl
  | k + 1, i => by
    show 0 + ns (fun _ => 0) (i + 1) k = 0
    rw [ns_z k (i + 1)]
theorem ns_swap {h : Nat → Nat → Nat} (k' i' : Nat) : ∀ (k i : Nat), ns (fun r => ns (fun r' => h r r') i' k') i k = ns (fun r' => ns (fun r => h r r') i k) i' k'
  | 0, _ => (ns_z k' i').symm
  | k + 1, i => by
    show ns (fun r' => h i r') i' k' + ns (fun r => ns (fun r' => h r r') i' k') (i + 1) k = ns (fun r' => h i r' + ns (fun r => h r r') (i + 1) k) i' k'
    rw [ns_swap k' i' k (i + 1), ns_add (f := fun r' => h i r') (h := fun r' => ns (fun r => h r r') (i + 1) k)]
theorem ns_one {P : Nat → Prop} [DecidablePred P] {w : Nat} : ∀ (k i : Nat), (∀ j j', i ≤ j → j < i + k → i ≤ j' → j' < i + k → P j → P j' → j = j') → ns (fun j => if P j then w else 0) i k ≤ w
  | 0, _, _ => Nat.zero_le _
  | k + 1, i, q => by
    show (if P i then w else 0) + ns (fun j => if P j then w else 0) (i + 1) k ≤ w
    by_cases z : P i
    · have : ns (fun j => if P j then w else 0) (i + 1) k ≤ ns (fun _ => 0) (i + 1) k := by
        apply ns_le
        intro j h1 h2
        rw [if_neg (fun y => by have := q i j (by omega) (by omega) (by omega) (by omega) z y; omega)]
        exact Nat.le_refl _
      rw [ns_z] at this
      rw [if_pos z]; omega
    · rw [if_neg z]
      have := ns_one (P := P) (w := w) k (i + 1) (fun j j' h1 h2 h3 h4 => q j j' (by omega) (by omega) (by omega) (by omega))
      omega
theorem ns_mem {f : Nat → Nat} : ∀ (k i j : Nat), i ≤ j → j < i + k → f j ≤ ns f i k
  | 0, i, j, h1, h2 => by omega
  | k + 1, i, j, h1, h2 => by
    show f j ≤ f i + ns f (i + 1) k
    by_cases z : j = i
    · subst z; omega
    · have := ns_mem (f := f) k (i + 1) j (by omega) (by omega); omega
theorem ns_const {f : Nat → Nat} {B : Nat} : ∀ (k i : Nat), (∀ j, i ≤ j → j < i + k → f j ≤ B) → ns f i k ≤ k * B
  | 0, _, _ => Nat.zero_le _
  | k + 1, i, q => by
    show f i + ns f (i + 1) k ≤ (k + 1) * B
    have h1 := q i (by omega) (by omega)
    have h2 := ns_const (f := f) (B := B) k (i + 1) (fun j h1 h2 => q j (by omega) (by omega))
    rw [Nat.succ_mul]; omega
theorem sm_abs {f : Nat → Int32} {h : Nat → Nat} : ∀ (k i : Nat), (∀ j, i ≤ j → j < i + k → (f j).toInt.natAbs ≤ h j) → ns h i k < 2147483648 → (sm f i k).toInt.natAbs ≤ ns h i k
  | 0, _, _, _ => Nat.le_refl _
  | k + 1, i, q, hb => by
    have hb' : h i + ns h (i + 1) k < 2147483648 := hb
    have h1 := q i (by omega) (by omega)
    have h2 := sm_abs (f := f) (h := h) k (i + 1) (fun j h1 h2 => q j (by omega) (by omega)) (by omega)
    show (f i + sm f (i + 1) k).toInt.natAbs ≤ h i + ns h (i + 1) k
    rw [tI_add (by omega) (by omega)]
    omega
def ab (x : Int32) : Nat := if x = (-2147483648) then 0 else x.toInt.natAbs
theorem ab_le (x : Int32) : ab x ≤ x.toInt.natAbs := by
  unfold ab
  by_cases z : x = (-2147483648)
  · rw [if_pos z]; omega
  · rw [if_neg z]; exact Nat.le_refl _
section BD
variable {p g : mI} {b : Bool}
def SC (p : mI) (F : Nat → Int32) (t c : Nat) : Nat := ns (fun r => ab (F (72 * t + 6 * r + c))) 0 (nR p t)
def Bd (p : mI) (F : Nat → Int32) : Prop := (∀ t, t < nT p → ∀ c, c < nC p t → (p 68 (6 * t + c) = 2 ∨ p 68 (6 * t + c) = 3) → SC p F t c ≤ 131976) ∧ ∀ t, t < nT p → ∀ r, r < nR p t → ∀ r', r' < nR p t → F (72 * t + 6 * r + 0) = F (72 * t + 6 * r' + 0) → r = r'
/-- what a mended column holds -/
theorem mCol_v {k t a u a2 e : Nat} (h : r1 p k t a u a2 e) (hT : nT p ≤ 4) (hC : ∀ t, t < nT p → nC p t ≤ 6) (hR : ∀ t, t < nT p → nR p t ≤ 12) (hut : u ≠ t) (ha : a ≠ 0) (F : Nat → Int32) : ∀ (i : Nat), i ≤ nR p t → ∀ s r c, r < 12 → c < 6 → mCol p k F i (72 * s + 6 * r + c) = if s = t ∧ c = a ∧ r < i ∧ ¬ F (72 * s + 6 * r + c) = (-2147483648) then sm (spf F u a2 e (F (72 * t + 6 * r + 0))) 0 (nR p u) else F (72 * s + 6 * r + c)
  | 0, _, s, r, c, hr, hc => by
    rw [if_neg (fun q => by omega)]; rfl
  | i + 1, hi, s, r, c, hr, hc => by
    have ih := mCol_v h hT hC hR hut ha F i (by omega)
    obtain ⟨⟨t1, t2, t3, t4⟩, t5, ⟨u1, u2⟩, ⟨y1, y2⟩, ⟨z1, z2⟩⟩ := id h
    have hCt := hC t t1
    have hCu := hC u u1
    have hRt := hR t t1
    have hRu := hR u u1
    have e1 : mCol p k F i (72 * t + 6 * i + a) = F (72 * t + 6 * i + a) := by
      rw [ih t i a (by omega) (by omega), if_neg (fun q => by omega)]
    have e2 : mCol p k F i (72 * t + 6 * i + 0) = F (72 * t + 6 * i + 0) := by
      rw [ih t i 0 (by omega) (by omega), if_neg (fun q => by omega)]
    have e3 : sm (spf (mCol p k F i) u a2 e (F (72 * t + 6 * i + 0))) 0 (nR p u) = sm (spf F u a2 e (F (72 * t + 6 * i + 0))) 0 (nR p u) := by
      apply sm_congr
      intro j _ hj
      have g1 : mCol p k F i (72 * u + 6 * j + a2) = F (72 * u + 6 * j + a2) := by rw [ih u j a2 (by omega) (by omega), if_neg (fun q => hut q.1)]
      have g2 : mCol p k F i (72 * u + 6 * j + e) = F (72 * u + 6 * j + e) := by rw [ih u j e (by omega) (by omega), if_neg (fun q => hut q.1)]
      unfold spf
      rw [g1, g2]
    show mRow p k i (mCol p k F i) (72 * s + 6 * r + c) = _
    rw [mRow_r1 h hT hC, e1, e2, e3]
    by_cases w : F (72 * t + 6 * i + a) = (-2147483648)
    · rw [if_pos w, ih s r c hr hc]
      by_cases z : s = t ∧ c = a ∧ r < i ∧ ¬ F (72 * s + 6 * r + c) = (-2147483648)
      · rw [if_pos z, if_pos ⟨z.1, z.2.1, by omega, z.2.2.2⟩]
      · rw [if_neg z, if_neg]
        rintro ⟨q1, q2, q3, q4⟩
        by_cases z3 : r = i
        · subst q1 q2 z3; exact q4 w
        · exact z ⟨q1, q2, by omega, q4⟩
    · rw [if_neg w]
      unfold upv
      by_cases z : 72 * s + 6 * r + c = 72 * t + 6 * i + a
      · have hs : s = t ∧ r = i ∧ c = a := by omega
        obtain ⟨rfl, rfl, rfl⟩ := hs
        rw [if_pos z, if_pos ⟨rfl, rfl, by omega, w⟩]
      · rw [if_neg z, ih s r c hr hc]
        by_cases z2 : s = t ∧ c = a ∧ r < i ∧ ¬ F (72 * s + 6 * r + c) = (-2147483648)
        · rw [if_pos z2, if_pos ⟨z2.1, z2.2.1, by omega, z2.2.2.2⟩]
        · rw [if_neg z2, if_neg]
          rintro ⟨q1, q2, q3, q4⟩
          by_cases z3 : r = i
          · subst q1 q2 z3; exact z rfl
          · exact z2 ⟨q1, q2, by omega, q4⟩
theorem Bd.col (h : St p g b) {F : Nat → Int32} (hF : Bd p F) {k : Nat} (hk : k < nU p) (h1 : p 80 k = 1) : Bd p (mCol p k F (nR p (cl (p 81 k)))) := by
  obtain ⟨t, a, u, a2, e, hr1, hut, ka, ka2, ke⟩ := h.rl1 hk h1
  obtain ⟨⟨t1, t2, t3, t4⟩, t5, ⟨u1, u2⟩, ⟨y1, y2⟩, ⟨z1, z2⟩⟩ := id hr1
  have hT := h.T.2
  have ct : cl (p 81 k) = t := by rw [t2]; exact cl_nI (by omega)
  have ha : a ≠ 0 := fun z => by
    have := (h.k2 t1 t3).1.mpr z
    rw [ka] at this; exact absurd this (by decide)
  have hR12 : ∀ s, s < nT p → nR p s ≤ 12 := fun s hs => (h.R hs).2
  have V := mCol_v hr1 hT h.C6 hR12 hut ha F (nR p t) (Nat.le_refl _)
  rw [ct]
  refine ⟨fun s hs c hc hkd => ?_, fun s hs r hr r' hr' q => ?_⟩
  · have hC := h.C6 s hs
    have hR := hR12 s hs
    by_cases z : s = t ∧ c = a
    · obtain ⟨rfl, rfl⟩ := z
      have hsrc := hF.1 u u1 a2 y1 (Or.inr ka2)
      refine Nat.le_trans ?_ hsrc
      unfold SC
      have step1 : ns (fun r => ab (mCol p k F (nR p s) (72 * s + 6 * r + c))) 0 (nR p s) ≤ ns (fun r => ns (fun r' => if F (72 * u + 6 * r' + e) = F (72 * s + 6 * r + 0) then ab (F (72 * u + 6 * r' + a2)) else 0) 0 (nR p u)) 0 (nR p s) := by
        apply ns_le
        intro r _ hr
        show ab (mCol p k F (nR p s) (72 * s + 6 * r + c)) ≤ _
        rw [V s r c (by omega) (by omega)]
        by_cases w : F (72 * s + 6 * r + c) = (-2147483648)
        · rw [if_neg (fun q => q.2.2.2 w), w]
          exact Nat.zero_le _
        · rw [if_pos ⟨rfl, rfl, by omega, w⟩]
          refine Nat.le_trans (ab_le _) ?_
          apply sm_abs
          · intro j _ hj
            show (spf F u a2 e (F (72 * s + 6 * r + 0)) j).toInt.natAbs ≤ if F (72 * u + 6 * j + e) = F (72 * s + 6 * r + 0) then ab (F (72 * u + 6 * j + a2)) else 0
            unfold spf ab
            by_cases w1 : F (72 * u + 6 * j + e) = F (72 * s + 6 * r + 0)
            · rw [if_pos w1, if_pos w1]
              by_cases w2 : F (72 * u + 6 * j + a2) = (-2147483648)
              · rw [if_pos w2, if_pos w2]; decide
              · rw [if_neg w2, if_neg w2]; exact Nat.le_refl _
            · rw [if_neg w1, if_neg w1]; decide
          · have : ns (fun r' => if F (72 * u + 6 * r' + e) = F (72 * s + 6 * r + 0) then ab (F (72 * u + 6 * r' + a2)) else 0) 0 (nR p u) ≤ ns (fun r' => ab (F (72 * u + 6 * r' + a2))) 0 (nR p u) := by
              apply ns_le
              intro j _ _
              show (if F (72 * u + 6 * j + e) = F (72 * s + 6 * r + 0) then ab (F (72 * u + 6 * j + a2)) else 0) ≤ ab (F (72 * u + 6 * j + a2))
              by_cases w1 : F (72 * u + 6 * j + e) = F (72 * s + 6 * r + 0)
              · rw [if_pos w1]; exact Nat.le_refl _
              · rw [if_neg w1]; exact Nat.zero_le _
            have h2 : ns (fun r' => ab (F (72 * u + 6 * r' + a2))) 0 (nR p u) ≤ 131976 := hsrc
            omega
      refine Nat.le_trans step1 ?_
      rw [ns_swap]
      apply ns_le
      intro r' _ _
      refine ns_one (P := fun r => F (72 * u + 6 * r' + e) = F (72 * s + 6 * r + 0)) _ _ (fun j j' _ h2 _ h4 q1 q2 => ?_)
      exact hF.2 s hs j (by omega) j' (by omega) (q1.symm.trans q2)
    · have : SC p (mCol p k F (nR p t)) s c ≤ SC p F s c := by
        apply ns_le
        intro r _ hr
        show ab (mCol p k F (nR p t) (72 * s + 6 * r + c)) ≤ ab (F (72 * s + 6 * r + c))
        rw [V s r c (by omega) (by omega), if_neg (fun q => z ⟨q.1, q.2.1⟩)]
        exact Nat.le_refl _
      exact Nat.le_trans this (hF.1 s hs c hc hkd)
  · have hR := hR12 s hs
    rw [V s r 0 (by omega) (by omega), V s r' 0 (by omega) (by omega), if_neg (fun q => ha q.2.1.symm), if_neg (fun q => ha q.2.1.symm)] at q
    exact hF.2 s hs r hr r' hr' q
theorem Bd.all (h : St p g b) {F : Nat → Int32} (hF : Bd p F) : ∀ (i : Nat), i ≤ nU p → Bd p (mAll p F i)
  | 0, _ => hF
  | i + 1, hi => by
    have ih := Bd.all h hF i (by omega)
    show Bd p (mOne p i (mAll p F i))
    unfold mOne
    by_cases z : p 80 i = 1 ∧ ¬ p 86 i = 0
    · rw [if_pos z]; exact ih.col h (by omega) z.1
    · rw [if_neg z]; exact ih
end BD
