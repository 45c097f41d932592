/-! ===== the standing heap, and rows over it (written by wip/whole/mkheap.py) ===== -/
def m_S0 : List mSh := [.inl 6, .inr (3, 4), .inr (4, 8), .inr (0, 6), .inl 1, .inr (0, 288), .inl 2, .inl 5, .inr (0, 6), .inr (0, 24), .inr (0, 288), .inr (0, 12), .inl 1, .inr (0, 288), .inl 1, .inr (0, 288), .inl 4, .inr (2, 6), .inr (0, 5), .inr (0, 5), .inl 0, .inl 0, .inl 0, .inl 0, .inl 0, .inl 0, .inl 4, .inr (2, 6), .inr (0, 5), .inr (0, 5), .inl 0, .inl 0, .inl 0, .inl 0, .inl 0, .inl 0, .inl 4, .inr (2, 6), .inr (0, 5), .inr (0, 5), .inl 0, .inl 0, .inl 0, .inl 0, .inl 0, .inl 0, .inl 4, .inr (2, 6), .inr (0, 5), .inr (0, 5), .inl 0, .inl 0, .inl 0, .inl 0, .inl 0, .inl 0, .inl 3, .inl 3, .inl 3, .inl 3, .inl 3, .inl 3, .inl 3, .inl 3, .inl 7, .inr (0, 4), .inr (0, 4), .inr (0, 4), .inr (0, 24), .inr (0, 24), .inr (0, 24), .inr (0, 24), .inr (0, 24), .inr (0, 24), .inr (0, 20), .inr (0, 20), .inr (0, 288), .inr (0, 288), .inr (0, 288), .inr (0, 6), .inr (0, 8), .inr (0, 8), .inr (0, 8), .inr (0, 8), .inr (0, 8), .inr (0, 8), .inr (1, 8), .inr (0, 288), .inr (0, 6), .inr (0, 6)]
theorem m_S0_eq : m_h0.1 = m_S0 := by decide +kernel
/-- where made and draft are -/
def m_pM (b : Bool) : Nat := bif b then 14 else 12
def m_pD (b : Bool) : Nat := bif b then 12 else 14
def m_fr (b : Bool) : Nat → Nat → Option Nat := m_up (m_up m_h0.2.2 0 6 (some (m_pM b))) 0 7 (some (m_pD b))
abbrev m_h (g : Nat → Nat → Int32) (b : Bool) : mH := (m_S0, g, m_fr b)
theorem m_up_id {α : Type} {g : Nat → Nat → α} {a k : Nat} {x : α} (h : g a k = x) : m_up g a k x = g := by
  funext a' k'
  unfold m_up
  by_cases ha : a' = a
  · subst ha
    rw [if_pos rfl]
    unfold va_up
    by_cases hk : k' = k
    · subst hk; rw [if_pos rfl, h]
    · rw [if_neg hk]
  · rw [if_neg ha]
theorem m_fr_false : m_fr false = m_h0.2.2 := by
  unfold m_fr
  rw [m_up_id (g := m_h0.2.2) (a := 0) (k := 6) (x := some (m_pM false)) (by decide +kernel)]
  exact m_up_id (by decide +kernel)
theorem m_h0_eq : m_h0 = m_h m_h0.2.1 false := by
  show m_h0 = (m_S0, m_h0.2.1, m_fr false)
  rw [m_fr_false, ← m_S0_eq]
theorem m_swap {g : Nat → Nat → Int32} {b : Bool} : ((m_S0, g, m_up (m_up (m_fr b) 0 6 (some (m_pD b))) 0 7 (some (m_pM b))) : mH) = m_h g (!b) := by
  show _ = ((m_S0, g, m_fr (!b)) : mH)
  have h : m_up (m_up (m_fr b) 0 6 (some (m_pD b))) 0 7 (some (m_pM b)) = m_fr (!b) := by
    have e1 : m_pM (!b) = m_pD b := by cases b <;> rfl
    have e2 : m_pD (!b) = m_pM b := by cases b <;> rfl
    unfold m_fr
    rw [e1, e2]
    funext a k
    by_cases ha : a = 0
    · subst ha
      by_cases h7 : k = 7
      · simp [m_up, va_up, h7]
      · by_cases h6 : k = 6
        · simp [m_up, va_up, h6]
        · simp [m_up, va_up, h6, h7]
    · simp [m_up, ha]
  rw [h]
theorem m_fr_0_0 (b : Bool) : m_fr b 0 0 = some 1 := by cases b <;> decide +kernel
theorem m_fr_0_1 (b : Bool) : m_fr b 0 1 = some 2 := by cases b <;> decide +kernel
theorem m_fr_0_2 (b : Bool) : m_fr b 0 2 = some 3 := by cases b <;> decide +kernel
theorem m_fr_0_3 (b : Bool) : m_fr b 0 3 = some 4 := by cases b <;> decide +kernel
theorem m_fr_0_4 (b : Bool) : m_fr b 0 4 = some 6 := by cases b <;> decide +kernel
theorem m_fr_0_5 (b : Bool) : m_fr b 0 5 = some 7 := by cases b <;> decide +kernel
theorem m_fr_0_6 (b : Bool) : m_fr b 0 6 = some (m_pM b) := by cases b <;> decide +kernel
theorem m_fr_0_7 (b : Bool) : m_fr b 0 7 = some (m_pD b) := by cases b <;> decide +kernel
theorem m_fr_7_0 (b : Bool) : m_fr b 7 0 = some 8 := by cases b <;> decide +kernel
theorem m_fr_7_1 (b : Bool) : m_fr b 7 1 = some 9 := by cases b <;> decide +kernel
theorem m_fr_7_2 (b : Bool) : m_fr b 7 2 = some 10 := by cases b <;> decide +kernel
theorem m_fr_7_3 (b : Bool) : m_fr b 7 3 = some 11 := by cases b <;> decide +kernel
theorem m_fr_64_2 (b : Bool) : m_fr b 64 2 = some 65 := by cases b <;> decide +kernel
theorem m_fr_64_3 (b : Bool) : m_fr b 64 3 = some 66 := by cases b <;> decide +kernel
theorem m_fr_64_4 (b : Bool) : m_fr b 64 4 = some 67 := by cases b <;> decide +kernel
theorem m_fr_64_5 (b : Bool) : m_fr b 64 5 = some 68 := by cases b <;> decide +kernel
theorem m_fr_64_6 (b : Bool) : m_fr b 64 6 = some 69 := by cases b <;> decide +kernel
theorem m_fr_64_7 (b : Bool) : m_fr b 64 7 = some 70 := by cases b <;> decide +kernel
theorem m_fr_64_8 (b : Bool) : m_fr b 64 8 = some 71 := by cases b <;> decide +kernel
theorem m_fr_64_9 (b : Bool) : m_fr b 64 9 = some 72 := by cases b <;> decide +kernel
theorem m_fr_64_10 (b : Bool) : m_fr b 64 10 = some 73 := by cases b <;> decide +kernel
theorem m_fr_64_11 (b : Bool) : m_fr b 64 11 = some 74 := by cases b <;> decide +kernel
theorem m_fr_64_12 (b : Bool) : m_fr b 64 12 = some 75 := by cases b <;> decide +kernel
theorem m_fr_64_14 (b : Bool) : m_fr b 64 14 = some 76 := by cases b <;> decide +kernel
theorem m_fr_64_15 (b : Bool) : m_fr b 64 15 = some 77 := by cases b <;> decide +kernel
theorem m_fr_64_17 (b : Bool) : m_fr b 64 17 = some 78 := by cases b <;> decide +kernel
theorem m_fr_64_18 (b : Bool) : m_fr b 64 18 = some 79 := by cases b <;> decide +kernel
theorem m_fr_64_21 (b : Bool) : m_fr b 64 21 = some 80 := by cases b <;> decide +kernel
theorem m_fr_64_22 (b : Bool) : m_fr b 64 22 = some 81 := by cases b <;> decide +kernel
theorem m_fr_64_23 (b : Bool) : m_fr b 64 23 = some 82 := by cases b <;> decide +kernel
theorem m_fr_64_24 (b : Bool) : m_fr b 64 24 = some 83 := by cases b <;> decide +kernel
theorem m_fr_64_25 (b : Bool) : m_fr b 64 25 = some 84 := by cases b <;> decide +kernel
theorem m_fr_64_26 (b : Bool) : m_fr b 64 26 = some 85 := by cases b <;> decide +kernel
theorem m_fr_64_27 (b : Bool) : m_fr b 64 27 = some 86 := by cases b <;> decide +kernel
theorem m_fr_64_28 (b : Bool) : m_fr b 64 28 = some 87 := by cases b <;> decide +kernel
theorem m_fr_64_29 (b : Bool) : m_fr b 64 29 = some 88 := by cases b <;> decide +kernel
theorem m_fr_64_30 (b : Bool) : m_fr b 64 30 = some 89 := by cases b <;> decide +kernel
def m_len (ti a : Nat) : Option Nat := match m_S0[a]? with
  | some (.inr (t, n)) => if t = ti then some n else none
  | _ => none
theorem m_len_s {ti a n : Nat} (h : m_len ti a = some n) : m_S0[a]? = some (.inr (ti, n)) := by
  unfold m_len at h
  split at h
  · next t n' e =>
    split at h
    · next ht => cases h; rw [e, ht]
    · cases h
  · cases h
def m_bi (z : Bool) : Int32 := bif z then 1 else 0
theorem m_bi01 (z : Bool) : m_bi z = 0 ∨ m_bi z = 1 := by cases z; exact Or.inl rfl; exact Or.inr rfl
theorem m_okZ (z : Bool) : m_okR (some .boolean) (some (.int (m_bi z))) := by cases z; exact Or.inl rfl; exact Or.inr rfl
theorem m_okO {C : String} (o : Option Nat) : m_okR (some (.object C)) (some (va_rf o)) := by cases o; exact Or.inl rfl; exact Or.inr ⟨_, rfl⟩
def m_rem (x y : Int32) : Int32 := x - x / y * y
def m_shl (x y : Int32) : Int32 := x <<< (y &&& 31)
def m_shr (x y : Int32) : Int32 := x >>> (y &&& 31)
def m_min (x y : Int32) : Int32 := if y < x then y else x
def m_abs (x : Int32) : Int32 := if 0 ≤ x then x else 0 - x
def m_ushr (x y : Int32) : Int32 := (x.toUInt32 >>> (y.toUInt32 &&& Int32.toUInt32 31)).toInt32
def m_oc {α : Type} (o : Option Nat) (A : Option α) (B : Nat → Option α) : Option α := match o with
  | none => A
  | some q => B q
theorem g_bd {α β : Type} {o : Option α} {f : α → Option β} {R : β} (e : o.bind f = some R) : ∃ v, o = some v ∧ f v = some R := by
  cases o with
  | none => cases e
  | some v => exact ⟨v, rfl, e⟩
theorem g_gd {α : Type} {c : Prop} [Decidable c] {A : Option α} {R : α} (e : (if c then A else none) = some R) : c ∧ A = some R := by
  by_cases h : c
  · rw [if_pos h] at e; exact ⟨h, e⟩
  · rw [if_neg h] at e; cases e
def m_let {α β : Type} (v : α) (f : α → β) : β := f v
theorem g_lt {α β : Type} {v x : α} {f : α → β} {R : β} (h : x = v) (e : m_let v f = R) : f x = R := by subst h; exact e
theorem g_iT {α : Type} {c : Prop} [Decidable c] {A B R : α} (h : c) (e : (if c then A else B) = R) : A = R := by rw [if_pos h] at e; exact e
theorem g_iF {α : Type} {c : Prop} [Decidable c] {A B R : α} (h : ¬ c) (e : (if c then A else B) = R) : B = R := by rw [if_neg h] at e; exact e
theorem g_cT {α : Type} {z : Bool} {A B R : α} (h : z = true) (e : (bif z then A else B) = R) : A = R := by subst h; exact e
theorem g_cF {α : Type} {z : Bool} {A B R : α} (h : z = false) (e : (bif z then A else B) = R) : B = R := by subst h; exact e
theorem g_oN {α : Type} {A : Option α} {B : Nat → Option α} {R : Option α} (e : m_oc none A B = R) : A = R := e
theorem g_oS {α : Type} {q : Nat} {A : Option α} {B : Nat → Option α} {R : Option α} (e : m_oc (some q) A B = R) : B q = R := e
section QR
variable {G : mG} {M : mM} {d rc rs pc : Nat} {L st : List Value} {h h' : mH} {r : Option Value} {g : Nat → Nat → Int32} {b : Bool} {fr : Nat → Nat → Option Nat}
theorem r_ifeqB {z : Bool} {off : Int} {tgt : Nat} (hd : decode M.2.1 pc = .ok (.ifCond .eq off, 3)) (ht : (pc : Int) + off = (tgt : Int)) (kt : z = false → MW G M d rc rs tgt L st h r h') (kf : z = true → MW G M d rc rs (pc + 3) L st h r h') : MW G M d rc rs pc L (.int (m_bi z) :: st) h r h' := by
  cases z with
  | false => exact r_if_eq hd ht (fun _ => kt rfl) (fun q => absurd rfl q)
  | true => exact r_if_eq hd ht (fun q => absurd q (by decide)) (fun _ => kf rfl)
theorem r_ifneB {z : Bool} {off : Int} {tgt : Nat} (hd : decode M.2.1 pc = .ok (.ifCond .ne off, 3)) (ht : (pc : Int) + off = (tgt : Int)) (kt : z = true → MW G M d rc rs tgt L st h r h') (kf : z = false → MW G M d rc rs (pc + 3) L st h r h') : MW G M d rc rs pc L (.int (m_bi z) :: st) h r h' := by
  cases z with
  | false => exact r_if_ne hd ht (fun q => absurd rfl q) (fun _ => kf rfl)
  | true => exact r_if_ne hd ht (fun _ => kt rfl) (fun q => absurd q (by decide))
theorem r_forget (i : Nat) {L' : List Value} (hL : L.set i (.retAddr 0) = L') (kk : MW G M d rc rs pc L' st h r h') : MW G M d rc rs pc L st h r h' := by
  subst hL
  intro p e R s m args below meth c H locs cells slots Q ls cx hP hS hl hc1 hc2 fin
  refine kk p e R s m args below meth c H locs cells slots Q ls cx hP hS ⟨hl.1, hl.2.1, fun q hq => ?_⟩ hc1 hc2 fin
  obtain ⟨j, w, e1, e2, rfl⟩ := m_lv_mem _ _ _ hq
  by_cases hji : j = i
  · subst hji
    have hlt : j < L.length := by
      have := (List.getElem?_eq_some_iff.mp e1).1
      rwa [List.length_set] at this
    rw [List.getElem?_set_self hlt] at e1
    cases e1
    exact absurd rfl (e2 0)
  · rw [List.getElem?_set_ne (Ne.symm hji)] at e1
    exact hl.2.2 _ (m_lv_in L 0 j w e1 e2)
theorem r_aloadO {i : Nat} {o : Option Nat} (hd : decode M.2.1 pc = .ok (.aload i, 2)) (hi : L[i]? = some (va_rf o)) (k : MW G M d rc rs (pc + 2) L (va_rf o :: st) h r h') : MW G M d rc rs pc L st h r h' := by
  cases o with
  | none => exact r_aloadN hd hi k
  | some a => exact r_aload hd hi k
theorem r_aload_nO {j : Fin 4} {i : Nat} {o : Option Nat} (hd : decode M.2.1 pc = .ok (.aload_n j, 1)) (hj : (j : Nat) = i) (hi : L[i]? = some (va_rf o)) (k : MW G M d rc rs (pc + 1) L (va_rf o :: st) h r h') : MW G M d rc rs pc L st h r h' := by
  cases o with
  | none => exact r_aload_nN hd hj hi k
  | some a => exact r_aload_n hd hj hi k
theorem r_astoreO {i : Nat} {o : Option Nat} {L' : List Value} (hd : decode M.2.1 pc = .ok (.astore i, 2)) (hn : i < M.2.2.1) (hL : L.set i (va_rf o) = L') (k : MW G M d rc rs (pc + 2) L' st h r h') : MW G M d rc rs pc L (va_rf o :: st) h r h' := by
  cases o with
  | none => exact r_astoreN hd hn hL k
  | some a => exact r_astore hd hn hL k
theorem r_astore_nO {j : Fin 4} {i : Nat} {o : Option Nat} {L' : List Value} (hd : decode M.2.1 pc = .ok (.astore_n j, 1)) (hj : (j : Nat) = i) (hn : i < M.2.2.1) (hL : L.set i (va_rf o) = L') (k : MW G M d rc rs (pc + 1) L' st h r h') : MW G M d rc rs pc L (va_rf o :: st) h r h' := by
  cases o with
  | none => exact r_astore_nN hd hj hn hL k
  | some a => exact r_astore_n hd hj hn hL k
theorem q_ishl {x y : Int32} (hd : decode M.2.1 pc = .ok (.ishl, 1)) (k : MW G M d rc rs (pc + 1) L (.int (m_shl x y) :: st) h r h') : MW G M d rc rs pc L (.int y :: .int x :: st) h r h' := r_ishl hd k
theorem q_ishr {x y : Int32} (hd : decode M.2.1 pc = .ok (.ishr, 1)) (k : MW G M d rc rs (pc + 1) L (.int (m_shr x y) :: st) h r h') : MW G M d rc rs pc L (.int y :: .int x :: st) h r h' := r_ishr hd k
theorem q_irem {x y : Int32} (hd : decode M.2.1 pc = .ok (.irem, 1)) (hne : ¬ y = 0) (k : MW G M d rc rs (pc + 1) L (.int (m_rem x y) :: st) h r h') : MW G M d rc rs pc L (.int y :: .int x :: st) h r h' := r_irem hd hne k
theorem q_min {idx : Nat} {x y : Int32} (hd : decode M.2.1 pc = .ok (.invokestatic idx, 3)) (h1 : Cond.methodLink M.1.cls idx Lib.Math.min.name ∈ m_tbl) (hr : st.length ≤ 8) (hdd : 1 ≤ d) (k : MW G M d rc rs (pc + 3) L (.int (m_min x y) :: st) h r h') : MW G M d rc rs pc L (.int y :: .int x :: st) h r h' := r_min hd h1 wS_min wI_Math wC_min hr hdd k
theorem q_abs {idx : Nat} {x : Int32} (hd : decode M.2.1 pc = .ok (.invokestatic idx, 3)) (h1 : Cond.methodLink M.1.cls idx Lib.Math.abs.name ∈ m_tbl) (hr : st.length ≤ 8) (hdd : 1 ≤ d) (k : MW G M d rc rs (pc + 3) L (.int (m_abs x) :: st) h r h') : MW G M d rc rs pc L (.int x :: st) h r h' := r_abs hd h1 wS_abs wI_Math wC_abs hr hdd k
theorem q_geti {idx ci k a : Nat} (hd : decode M.2.1 pc = .ok (.getfield idx, 3)) (hf : m_FL M.1.cls idx ci k) (ht : (m_ty ci k).isReference = false) (hs : m_S0[a]? = some (.inl ci)) (kk : MW G M d rc rs (pc + 3) L (.int (g a k) :: st) (m_S0, g, fr) r h') : MW G M d rc rs pc L (.ref a :: st) (m_S0, g, fr) r h' := r_geti hd hf ht hs kk
theorem q_getr {idx ci k a c : Nat} (hd : decode M.2.1 pc = .ok (.getfield idx, 3)) (hf : m_FL M.1.cls idx ci k) (ht : (m_ty ci k).isReference = true) (hs : m_S0[a]? = some (.inl ci)) (hb : fr a k = some c) (kk : MW G M d rc rs (pc + 3) L (.ref c :: st) (m_S0, g, fr) r h') : MW G M d rc rs pc L (.ref a :: st) (m_S0, g, fr) r h' := r_getr hd hf ht hs hb kk
theorem q_puti {idx ci k a : Nat} {x : Int32} (hd : decode M.2.1 pc = .ok (.putfield idx, 3)) (hf : m_FL M.1.cls idx ci k) (hfin : (m_T ci k).2.2.2 = false ∨ ((m_T ci k).1 = M.1.cls ∧ M.1.name = "<init>")) (ht : m_okI (m_ty ci k) x) (hs : m_S0[a]? = some (.inl ci)) (kk : MW G M d rc rs (pc + 3) L st (m_S0, m_up g a k x, fr) r h') : MW G M d rc rs pc L (.int x :: .ref a :: st) (m_S0, g, fr) r h' := r_puti hd hf hfin ht hs kk
theorem q_putr {idx ci k a c : Nat} (hd : decode M.2.1 pc = .ok (.putfield idx, 3)) (hf : m_FL M.1.cls idx ci k) (hfin : (m_T ci k).2.2.2 = false ∨ ((m_T ci k).1 = M.1.cls ∧ M.1.name = "<init>")) (ht : (m_ty ci k).isReference = true) (hs : m_S0[a]? = some (.inl ci)) (kk : MW G M d rc rs (pc + 3) L st (m_S0, g, m_up fr a k (some c)) r h') : MW G M d rc rs pc L (.ref c :: .ref a :: st) (m_S0, g, fr) r h' := r_putr hd hf hfin ht hs kk
theorem q_iald {a n : Nat} {i : Int32} (hd : decode M.2.1 pc = .ok (.iaload, 1)) (hs : m_S0[a]? = some (.inr (0, n))) (hin : m_in i n) (kk : MW G M d rc rs (pc + 1) L (.int (g a i.toNatClampNeg) :: st) (m_S0, g, fr) r h') : MW G M d rc rs pc L (.int i :: .ref a :: st) (m_S0, g, fr) r h' := r_iald hd hs hin kk
theorem q_zald {a n : Nat} {i : Int32} (hd : decode M.2.1 pc = .ok (.baload, 1)) (hs : m_S0[a]? = some (.inr (1, n))) (hin : m_in i n) (kk : MW G M d rc rs (pc + 1) L (.int (g a i.toNatClampNeg) :: st) (m_S0, g, fr) r h') : MW G M d rc rs pc L (.int i :: .ref a :: st) (m_S0, g, fr) r h' := r_zald hd hs hin kk
theorem q_iast {a n : Nat} {i x : Int32} (hd : decode M.2.1 pc = .ok (.iastore, 1)) (hs : m_S0[a]? = some (.inr (0, n))) (hin : m_in i n) (kk : MW G M d rc rs (pc + 1) L st (m_S0, m_up g a i.toNatClampNeg x, fr) r h') : MW G M d rc rs pc L (.int x :: .int i :: .ref a :: st) (m_S0, g, fr) r h' := r_iast hd hs hin kk
theorem q_zast {a n : Nat} {i x : Int32} (hd : decode M.2.1 pc = .ok (.bastore, 1)) (hs : m_S0[a]? = some (.inr (1, n))) (hin : m_in i n) (hx : x = 0 ∨ x = 1) (kk : MW G M d rc rs (pc + 1) L st (m_S0, m_up g a i.toNatClampNeg x, fr) r h') : MW G M d rc rs pc L (.int x :: .int i :: .ref a :: st) (m_S0, g, fr) r h' := r_zast hd hs hin hx kk
theorem q_aald {a n ti c : Nat} {i : Int32} (hd : decode M.2.1 pc = .ok (.aaload, 1)) (hti : ¬ ti < 2) (hs : m_S0[a]? = some (.inr (ti, n))) (hin : m_in i n) (hb : fr a i.toNatClampNeg = some c) (kk : MW G M d rc rs (pc + 1) L (.ref c :: st) (m_S0, g, fr) r h') : MW G M d rc rs pc L (.int i :: .ref a :: st) (m_S0, g, fr) r h' := r_aald hd hti hs hin hb kk
theorem q_putiL {idx ci k a : Nat} {x : Int32} (hd : decode M.2.1 pc = .ok (.putfield idx, 3)) (hf : m_FL M.1.cls idx ci k) (hfin : (m_T ci k).2.2.2 = false ∨ ((m_T ci k).1 = M.1.cls ∧ M.1.name = "<init>")) (ht : m_okI (m_ty ci k) x) (hs : m_S0[a]? = some (.inl ci)) (kk : ∀ g1, g1 = m_up g a k x → MW G M d rc rs (pc + 3) L st (m_S0, g1, fr) r h') : MW G M d rc rs pc L (.int x :: .ref a :: st) (m_S0, g, fr) r h' := r_puti hd hf hfin ht hs (kk _ rfl)
theorem q_iastL {a n : Nat} {i x : Int32} (hd : decode M.2.1 pc = .ok (.iastore, 1)) (hs : m_S0[a]? = some (.inr (0, n))) (hin : m_in i n) (kk : ∀ g1, g1 = m_up g a i.toNatClampNeg x → MW G M d rc rs (pc + 1) L st (m_S0, g1, fr) r h') : MW G M d rc rs pc L (.int x :: .int i :: .ref a :: st) (m_S0, g, fr) r h' := r_iast hd hs hin (kk _ rfl)
theorem q_zastL {a n : Nat} {i x : Int32} (hd : decode M.2.1 pc = .ok (.bastore, 1)) (hs : m_S0[a]? = some (.inr (1, n))) (hin : m_in i n) (hx : x = 0 ∨ x = 1) (kk : ∀ g1, g1 = m_up g a i.toNatClampNeg x → MW G M d rc rs (pc + 1) L st (m_S0, g1, fr) r h') : MW G M d rc rs pc L (.int x :: .int i :: .ref a :: st) (m_S0, g, fr) r h' := r_zast hd hs hin hx (kk _ rfl)
theorem q_istoreL {i : Nat} {x : Int32} (hd : decode M.2.1 pc = .ok (.istore i, 2)) (hn : i < M.2.2.1) (k : ∀ y, y = x → MW G M d rc rs (pc + 2) (L.set i (.int y)) st h r h') : MW G M d rc rs pc L (.int x :: st) h r h' := r_istore hd hn rfl (k _ rfl)
theorem q_istore_nL {j : Fin 4} {i : Nat} {x : Int32} (hd : decode M.2.1 pc = .ok (.istore_n j, 1)) (hj : (j : Nat) = i) (hn : i < M.2.2.1) (k : ∀ y, y = x → MW G M d rc rs (pc + 1) (L.set i (.int y)) st h r h') : MW G M d rc rs pc L (.int x :: st) h r h' := r_istore_n hd hj hn rfl (k _ rfl)
theorem m_Lset {L' : List Value} (hL : L = L') (k : MW G M d rc rs pc L' st h r h') : MW G M d rc rs pc L st h r h' := by subst hL; exact k
theorem q_callV {M' : mM} {d' idx n ci c : Nat} {As rest : List Value} {r1 : Option Value} {g1 : Nat → Nat → Int32} {b1 : Bool} (hC : MC G M' d' 0 0 (.ref c :: As) (m_h g b) r1 (m_h g1 b1)) (hd : decode M.2.1 pc = .ok (.invokevirtual idx, 3)) (hl : m_LV M.1.cls idx M' n) (hs : m_S0[c]? = some (.inl ci)) (hcl : m_R ci = M'.1.cls) (hn : As.length = n) (hst : As.reverse ++ .ref c :: rest = st) (hr : rest.length ≤ 8) (hdd : d' + 1 ≤ d)
    (kk : MW G M d rc rs (pc + 3) L (r1.toList ++ rest) (m_h g1 b1) r h') : MW G M d rc rs pc L st (m_h g b) r h' := r_callV hC hd hl hs hcl hn hst hr hdd (Nat.zero_le _) (Nat.zero_le _) kk
theorem q_callS {M' : mM} {d' idx n : Nat} {As rest : List Value} {r1 : Option Value} {g1 : Nat → Nat → Int32} {b1 : Bool} (hC : MC G M' d' 0 0 As (m_h g b) r1 (m_h g1 b1)) (hd : decode M.2.1 pc = .ok (.invokestatic idx, 3)) (hl : m_LS M.1.cls idx M' n) (hn : As.length = n) (hst : As.reverse ++ rest = st) (hr : rest.length ≤ 8) (hdd : d' + 1 ≤ d)
    (kk : MW G M d rc rs (pc + 3) L (r1.toList ++ rest) (m_h g1 b1) r h') : MW G M d rc rs pc L st (m_h g b) r h' := r_callS hC hd hl hn hst hr hdd (Nat.zero_le _) (Nat.zero_le _) kk
theorem q_iushr {x y : Int32} (hd : decode M.2.1 pc = .ok (.iushr, 1)) (k : MW G M d rc rs (pc + 1) L (.int (m_ushr x y) :: st) h r h') : MW G M d rc rs pc L (.int y :: .int x :: st) h r h' := by
  intro p e R s m args below meth c H locs cells slots Q ls cx hP hS hl hc1 hc2 fin
  exact lv_iushr cx.1 cx.2.1 hd rfl (k p e R s m args below meth c H locs cells slots Q ls cx hP hS hl hc1 hc2 fin)
theorem r_ldcw {i : Nat} {x : Int32} (hd : decode M.2.1 pc = .ok (.ldc_w i, 3)) (hw : Cond.constant M.1.cls i x ∈ m_tbl) (k : MW G M d rc rs (pc + 3) L (.int x :: st) h r h') : MW G M d rc rs pc L st h r h' := by
  intro p e R s m args below meth c H locs cells slots Q ls cx hP hS hl hc1 hc2 fin
  exact lv_ldcw cx.1 cx.2.1 cx.2.2.2.1 (cx.2.2.2.2.1 _ hw) hd (k p e R s m args below meth c H locs cells slots Q ls cx hP hS hl hc1 hc2 fin)
end QR
theorem m_swOut0_14 {x : Int32} (h0 : ¬ x = 0) (h1 : ¬ x = 1) (h2 : ¬ x = 2) (h3 : ¬ x = 3) (h4 : ¬ x = 4) (h5 : ¬ x = 5) (h6 : ¬ x = 6) (h7 : ¬ x = 7) (h8 : ¬ x = 8) (h9 : ¬ x = 9) (h10 : ¬ x = 10) (h11 : ¬ x = 11) (h12 : ¬ x = 12) (h13 : ¬ x = 13) : x.toInt < 0 ∨ 13 < x.toInt := by
  have e0 : x.toInt ≠ 0 := fun e => h0 (Int32.toInt_inj.mp (e.trans (by decide)))
  have e1 : x.toInt ≠ 1 := fun e => h1 (Int32.toInt_inj.mp (e.trans (by decide)))
  have e2 : x.toInt ≠ 2 := fun e => h2 (Int32.toInt_inj.mp (e.trans (by decide)))
  have e3 : x.toInt ≠ 3 := fun e => h3 (Int32.toInt_inj.mp (e.trans (by decide)))
  have e4 : x.toInt ≠ 4 := fun e => h4 (Int32.toInt_inj.mp (e.trans (by decide)))
  have e5 : x.toInt ≠ 5 := fun e => h5 (Int32.toInt_inj.mp (e.trans (by decide)))
  have e6 : x.toInt ≠ 6 := fun e => h6 (Int32.toInt_inj.mp (e.trans (by decide)))
  have e7 : x.toInt ≠ 7 := fun e => h7 (Int32.toInt_inj.mp (e.trans (by decide)))
  have e8 : x.toInt ≠ 8 := fun e => h8 (Int32.toInt_inj.mp (e.trans (by decide)))
  have e9 : x.toInt ≠ 9 := fun e => h9 (Int32.toInt_inj.mp (e.trans (by decide)))
  have e10 : x.toInt ≠ 10 := fun e => h10 (Int32.toInt_inj.mp (e.trans (by decide)))
  have e11 : x.toInt ≠ 11 := fun e => h11 (Int32.toInt_inj.mp (e.trans (by decide)))
  have e12 : x.toInt ≠ 12 := fun e => h12 (Int32.toInt_inj.mp (e.trans (by decide)))
  have e13 : x.toInt ≠ 13 := fun e => h13 (Int32.toInt_inj.mp (e.trans (by decide)))
  omega
theorem m_swOut0_5 {x : Int32} (h0 : ¬ x = 0) (h1 : ¬ x = 1) (h2 : ¬ x = 2) (h3 : ¬ x = 3) (h4 : ¬ x = 4) : x.toInt < 0 ∨ 4 < x.toInt := by
  have e0 : x.toInt ≠ 0 := fun e => h0 (Int32.toInt_inj.mp (e.trans (by decide)))
  have e1 : x.toInt ≠ 1 := fun e => h1 (Int32.toInt_inj.mp (e.trans (by decide)))
  have e2 : x.toInt ≠ 2 := fun e => h2 (Int32.toInt_inj.mp (e.trans (by decide)))
  have e3 : x.toInt ≠ 3 := fun e => h3 (Int32.toInt_inj.mp (e.trans (by decide)))
  have e4 : x.toInt ≠ 4 := fun e => h4 (Int32.toInt_inj.mp (e.trans (by decide)))
  omega
theorem m_swOut0_6 {x : Int32} (h0 : ¬ x = 0) (h1 : ¬ x = 1) (h2 : ¬ x = 2) (h3 : ¬ x = 3) (h4 : ¬ x = 4) (h5 : ¬ x = 5) : x.toInt < 0 ∨ 5 < x.toInt := by
  have e0 : x.toInt ≠ 0 := fun e => h0 (Int32.toInt_inj.mp (e.trans (by decide)))
  have e1 : x.toInt ≠ 1 := fun e => h1 (Int32.toInt_inj.mp (e.trans (by decide)))
  have e2 : x.toInt ≠ 2 := fun e => h2 (Int32.toInt_inj.mp (e.trans (by decide)))
  have e3 : x.toInt ≠ 3 := fun e => h3 (Int32.toInt_inj.mp (e.trans (by decide)))
  have e4 : x.toInt ≠ 4 := fun e => h4 (Int32.toInt_inj.mp (e.trans (by decide)))
  have e5 : x.toInt ≠ 5 := fun e => h5 (Int32.toInt_inj.mp (e.trans (by decide)))
  omega
theorem m_swOut1_3 {x : Int32} (h1 : ¬ x = 1) (h2 : ¬ x = 2) (h3 : ¬ x = 3) : x.toInt < 1 ∨ 3 < x.toInt := by
  have e1 : x.toInt ≠ 1 := fun e => h1 (Int32.toInt_inj.mp (e.trans (by decide)))
  have e2 : x.toInt ≠ 2 := fun e => h2 (Int32.toInt_inj.mp (e.trans (by decide)))
  have e3 : x.toInt ≠ 3 := fun e => h3 (Int32.toInt_inj.mp (e.trans (by decide)))
  omega
theorem m_swOut2_3 {x : Int32} (h2 : ¬ x = 2) (h3 : ¬ x = 3) (h4 : ¬ x = 4) : x.toInt < 2 ∨ 4 < x.toInt := by
  have e2 : x.toInt ≠ 2 := fun e => h2 (Int32.toInt_inj.mp (e.trans (by decide)))
  have e3 : x.toInt ≠ 3 := fun e => h3 (Int32.toInt_inj.mp (e.trans (by decide)))
  have e4 : x.toInt ≠ 4 := fun e => h4 (Int32.toInt_inj.mp (e.trans (by decide)))
  omega
theorem m_swOut0_28 {x : Int32} (h0 : ¬ x = 0) (h1 : ¬ x = 1) (h2 : ¬ x = 2) (h3 : ¬ x = 3) (h4 : ¬ x = 4) (h5 : ¬ x = 5) (h6 : ¬ x = 6) (h7 : ¬ x = 7) (h8 : ¬ x = 8) (h9 : ¬ x = 9) (h10 : ¬ x = 10) (h11 : ¬ x = 11) (h12 : ¬ x = 12) (h13 : ¬ x = 13) (h14 : ¬ x = 14) (h15 : ¬ x = 15) (h16 : ¬ x = 16) (h17 : ¬ x = 17) (h18 : ¬ x = 18) (h19 : ¬ x = 19) (h20 : ¬ x = 20) (h21 : ¬ x = 21) (h22 : ¬ x = 22) (h23 : ¬ x = 23) (h24 : ¬ x = 24) (h25 : ¬ x = 25) (h26 : ¬ x = 26) (h27 : ¬ x = 27) : x.toInt < 0 ∨ 27 < x.toInt := by
  have e0 : x.toInt ≠ 0 := fun e => h0 (Int32.toInt_inj.mp (e.trans (by decide)))
  have e1 : x.toInt ≠ 1 := fun e => h1 (Int32.toInt_inj.mp (e.trans (by decide)))
  have e2 : x.toInt ≠ 2 := fun e => h2 (Int32.toInt_inj.mp (e.trans (by decide)))
  have e3 : x.toInt ≠ 3 := fun e => h3 (Int32.toInt_inj.mp (e.trans (by decide)))
  have e4 : x.toInt ≠ 4 := fun e => h4 (Int32.toInt_inj.mp (e.trans (by decide)))
  have e5 : x.toInt ≠ 5 := fun e => h5 (Int32.toInt_inj.mp (e.trans (by decide)))
  have e6 : x.toInt ≠ 6 := fun e => h6 (Int32.toInt_inj.mp (e.trans (by decide)))
  have e7 : x.toInt ≠ 7 := fun e => h7 (Int32.toInt_inj.mp (e.trans (by decide)))
  have e8 : x.toInt ≠ 8 := fun e => h8 (Int32.toInt_inj.mp (e.trans (by decide)))
  have e9 : x.toInt ≠ 9 := fun e => h9 (Int32.toInt_inj.mp (e.trans (by decide)))
  have e10 : x.toInt ≠ 10 := fun e => h10 (Int32.toInt_inj.mp (e.trans (by decide)))
  have e11 : x.toInt ≠ 11 := fun e => h11 (Int32.toInt_inj.mp (e.trans (by decide)))
  have e12 : x.toInt ≠ 12 := fun e => h12 (Int32.toInt_inj.mp (e.trans (by decide)))
  have e13 : x.toInt ≠ 13 := fun e => h13 (Int32.toInt_inj.mp (e.trans (by decide)))
  have e14 : x.toInt ≠ 14 := fun e => h14 (Int32.toInt_inj.mp (e.trans (by decide)))
  have e15 : x.toInt ≠ 15 := fun e => h15 (Int32.toInt_inj.mp (e.trans (by decide)))
  have e16 : x.toInt ≠ 16 := fun e => h16 (Int32.toInt_inj.mp (e.trans (by decide)))
  have e17 : x.toInt ≠ 17 := fun e => h17 (Int32.toInt_inj.mp (e.trans (by decide)))
  have e18 : x.toInt ≠ 18 := fun e => h18 (Int32.toInt_inj.mp (e.trans (by decide)))
  have e19 : x.toInt ≠ 19 := fun e => h19 (Int32.toInt_inj.mp (e.trans (by decide)))
  have e20 : x.toInt ≠ 20 := fun e => h20 (Int32.toInt_inj.mp (e.trans (by decide)))
  have e21 : x.toInt ≠ 21 := fun e => h21 (Int32.toInt_inj.mp (e.trans (by decide)))
  have e22 : x.toInt ≠ 22 := fun e => h22 (Int32.toInt_inj.mp (e.trans (by decide)))
  have e23 : x.toInt ≠ 23 := fun e => h23 (Int32.toInt_inj.mp (e.trans (by decide)))
  have e24 : x.toInt ≠ 24 := fun e => h24 (Int32.toInt_inj.mp (e.trans (by decide)))
  have e25 : x.toInt ≠ 25 := fun e => h25 (Int32.toInt_inj.mp (e.trans (by decide)))
  have e26 : x.toInt ≠ 26 := fun e => h26 (Int32.toInt_inj.mp (e.trans (by decide)))
  have e27 : x.toInt ≠ 27 := fun e => h27 (Int32.toInt_inj.mp (e.trans (by decide)))
  omega
theorem m_lkOut2 {x : Int32} {o0 o1 dd : Int} (h0 : ¬ x = 0) (h1 : ¬ x = 1) : Op.lookupswitch.offset [(0, o0), (1, o1)] dd x.toInt = dd := by
  have e0 : (0 : Int) ≠ x.toInt := fun e => h0 (Int32.toInt_inj.mp (e.symm.trans (by decide)))
  have e1 : (1 : Int) ≠ x.toInt := fun e => h1 (Int32.toInt_inj.mp (e.symm.trans (by decide)))
  rw [Op.lookupswitch.offset_cons, if_neg e0, Op.lookupswitch.offset_cons, if_neg e1, Op.lookupswitch.offset_nil]
def bc1 (x : Int32) : Int32 := x - (m_ushr x 1 &&& 1431655765)
def bc2 (x : Int32) : Int32 := (x &&& 858993459) + (m_ushr x 2 &&& 858993459)
def bc3 (x : Int32) : Int32 := (x + m_ushr x 4) &&& 252645135
def bc4 (x : Int32) : Int32 := x + m_ushr x 8
def bc5 (x : Int32) : Int32 := x + m_ushr x 16
def f_J6_bitCount (a1 : Int32) : Int32 := bc5 (bc4 (bc3 (bc2 (bc1 a1)))) &&& 63
theorem c_J6_bitCount {G : mG} {g : Nat → Nat → Int32} {b : Bool} {a1 R : Int32} (e : f_J6_bitCount a1 = R) : MC G mJ6_bitCount 0 0 0 [.int a1] (m_h g b) (some (.int R)) (m_h g b) := by
  subst e
  refine MC_intro mlJ6_bitCount (Nat.le_of_ble_eq_true rfl) ⟨_, rfl⟩ rfl trivial ?_
  refine r_iload_n dJ6_bitCount_0f7a4_0 rfl rfl ?_
  refine r_iload_n dJ6_bitCount_0f7a4_1 rfl rfl ?_
  refine r_iconst (x := 1) dJ6_bitCount_0f7a4_2 (by decide) ?_
  refine q_iushr dJ6_bitCount_0f7a4_3 ?_
  refine r_ldcw dJ6_bitCount_0f7a4_4 kcJ6_265 ?_
  refine r_iand dJ6_bitCount_0f7a4_7 ?_
  refine r_isub dJ6_bitCount_0f7a4_8 ?_
  refine r_istore_n (x := bc1 a1) dJ6_bitCount_0f7a4_9 rfl (by decide) rfl ?_
  refine r_iload_n dJ6_bitCount_0f7a4_10 rfl rfl ?_
  refine r_ldcw dJ6_bitCount_0f7a4_11 kcJ6_266 ?_
  refine r_iand dJ6_bitCount_0f7a4_14 ?_
  refine r_iload_n dJ6_bitCount_0f7a4_15 rfl rfl ?_
  refine r_iconst (x := 2) dJ6_bitCount_0f7a4_16 (by decide) ?_
  refine q_iushr dJ6_bitCount_0f7a4_17 ?_
  refine r_ldcw dJ6_bitCount_0f7a4_18 kcJ6_266 ?_
  refine r_iand dJ6_bitCount_0f7a4_21 ?_
  refine r_iadd dJ6_bitCount_0f7a4_22 ?_
  refine r_istore_n (x := bc2 (bc1 a1)) dJ6_bitCount_0f7a4_23 rfl (by decide) rfl ?_
  refine r_iload_n dJ6_bitCount_0f7a4_24 rfl rfl ?_
  refine r_iload_n dJ6_bitCount_0f7a4_25 rfl rfl ?_
  refine r_iconst (x := 4) dJ6_bitCount_0f7a4_26 (by decide) ?_
  refine q_iushr dJ6_bitCount_0f7a4_27 ?_
  refine r_iadd dJ6_bitCount_0f7a4_28 ?_
  refine r_ldcw dJ6_bitCount_0f7a4_29 kcJ6_267 ?_
  refine r_iand dJ6_bitCount_0f7a4_32 ?_
  refine r_istore_n (x := bc3 (bc2 (bc1 a1))) dJ6_bitCount_0f7a4_33 rfl (by decide) rfl ?_
  refine r_iload_n dJ6_bitCount_0f7a4_34 rfl rfl ?_
  refine r_iload_n dJ6_bitCount_0f7a4_35 rfl rfl ?_
  refine r_bipush (x := 8) dJ6_bitCount_0f7a4_36 (by decide) ?_
  refine q_iushr dJ6_bitCount_0f7a4_38 ?_
  refine r_iadd dJ6_bitCount_0f7a4_39 ?_
  refine r_istore_n (x := bc4 (bc3 (bc2 (bc1 a1)))) dJ6_bitCount_0f7a4_40 rfl (by decide) rfl ?_
  refine r_iload_n dJ6_bitCount_0f7a4_41 rfl rfl ?_
  refine r_iload_n dJ6_bitCount_0f7a4_42 rfl rfl ?_
  refine r_bipush (x := 16) dJ6_bitCount_0f7a4_43 (by decide) ?_
  refine q_iushr dJ6_bitCount_0f7a4_45 ?_
  refine r_iadd dJ6_bitCount_0f7a4_46 ?_
  refine r_istore_n (x := bc5 (bc4 (bc3 (bc2 (bc1 a1))))) dJ6_bitCount_0f7a4_47 rfl (by decide) rfl ?_
  refine r_iload_n dJ6_bitCount_0f7a4_48 rfl rfl ?_
  refine r_bipush (x := 63) dJ6_bitCount_0f7a4_49 (by decide) ?_
  refine r_iand dJ6_bitCount_0f7a4_51 ?_
  exact r_ret dJ6_bitCount_0f7a4_52 rfl rfl
