/-! ===== the small machine: cells by number, ints and references apart; what it reaches, the machine reaches ===== -/
/- a cell's shape: an object of a class (its number in vwCl), or an array (0 int, 1 boolean, 2 Column, 3 Table, 4 Rule) and its length -/
def m_tbl : List Cond := lw_tbl.filter goodWord
theorem m_mem {w : Cond} (i : Nat) (h : lw_tbl[i]? = some w) (hg : goodWord w = true) : w ∈ m_tbl := List.mem_filter.mpr ⟨List.mem_of_getElem? h, hg⟩
abbrev mSh : Type := Nat ⊕ (Nat × Nat)
/-- shapes, ints, references (by cell number) -/
abbrev mH : Type := List mSh × (Nat → Nat → Int32) × (Nat → Nat → Option Nat)
/-- launch, class numbers and slots, array classes, the first cell's address, the script's, the widths' -/
abbrev mG : Type := Launch × va_G × (Nat → ClassId) × Nat × Nat × Nat
/-- a method: name, bytes, locals, return type -/
abbrev mM : Type := MethodName × ByteArray × Nat × Option FieldType
def m_ad (G : mG) (k : Nat) : Nat := if k = 1000000 then G.2.2.2.2.1 else if k = 1000001 then G.2.2.2.2.2 else G.2.2.2.1 + k
def m_rv (G : mG) (v : Value) : Value := match v with
  | .int x => .int x
  | .ref a => .ref (m_ad G a)
  | _ => .null
def m_A (G : mG) : Nat → Prop := fun q => G.2.2.2.1 ≤ q
def m_ty (ci : Nat) : Nat → FieldType := match ci with
  | 0 => tyX0
  | 1 => tyX1
  | 2 => tyX2
  | 3 => tyX3
  | 4 => tyX4
  | 5 => tyX5
  | 6 => tyX6
  | _ => tyX7
def m_nF (ci : Nat) : Nat := match ci with
  | 0 => 6
  | 1 => 1
  | 2 => 2
  | 3 => 7
  | 4 => 6
  | 5 => 6
  | 6 => 13
  | _ => 31
def m_at_ty (ti : Nat) : FieldType := match ti with
  | 0 => .int
  | 1 => .boolean
  | 2 => .object RX0
  | 3 => .object RX4
  | _ => .object RX3
def m_fv (G : mG) (ci : Nat) (f : Nat → Int32) (r : Nat → Option Nat) (k : Nat) : Value := if (m_ty ci k).isReference = true then va_rf ((r k).map (m_ad G)) else .int (f k)
def m_av (G : mG) (ti : Nat) (f : Nat → Int32) (r : Nat → Option Nat) (j : Nat) : Value := if ti < 2 then .int (f j) else va_rf ((r j).map (m_ad G))
def m_at (G : mG) (sh : mSh) (f : Nat → Int32) (r : Nat → Option Nat) (a : Nat) (H : Heap) : Prop := match sh with
  | .inl ci => ci < 8 ∧ t_OB (m_ad G a) (G.2.1.1 ci) (m_nF ci) (G.2.1.2 ci) H (m_fv G ci f r)
  | .inr (ti, n) => ti < 5 ∧ H[m_ad G a]? = some (arrV (G.2.2.1 ti) n (m_av G ti f r))
def m_P (G : mG) (h : mH) (H : Heap) : Prop := (∀ (a : Nat) (sh : mSh), h.1[a]? = some sh → m_at G sh (h.2.1 a) (h.2.2 a) a H) ∧ H.size = G.2.2.2.1 + h.1.length ∧ h.1.length ≤ 1000
def m_tys (G : mG) : List (ClassId × FieldType) := [(G.2.2.1 0, .int), (G.2.2.1 1, .boolean), (G.2.2.1 2, .object RX0), (G.2.2.1 3, .object RX4), (G.2.2.1 4, .object RX3)]
def m_wid (j : Nat) : Int32 := match j with
  | 0 => 1
  | 1 => 10
  | 2 => 100
  | _ => 1000
/-- the static row of widths: nobody writes it -/
def m_St (G : mG) (U : State) (H : Heap) : Prop := va_Z "MaskedCopies$WidthSearch" "WIDTHS" "[I" (.ref G.2.2.2.2.2) (m_A G) U H ∧ va_T .int G.2.2.2.2.2 4 (fun j => .int (m_wid j)) (m_A G) U H
/-- the nest's links, and array classes: words that a call carries along -/
def m_nst : List (String × Nat × MethodName × String) := [(RX6, 29, yX1_init, RX6), (RX6, 36, yX2_init, RX6), (RX6, 43, yX5_init, RX6), (RX6, 72, yX3_init, RX6), (RX4, 34, yX0_init, RX6), (RX4, 52, yX6_rightFigure, RX6)]
def m_N (U : State) : Prop := (∀ q ∈ m_nst, va_Nw (.methodLinkNest q.1 q.2.1 q.2.2.1 q.2.2.2) U) ∧ ∀ C ∈ [RX0, RX3, RX4], va_AO C U
theorem m_N.warm {s U : State} (hW : s.WarmedH U.vm) (h : m_N s) : m_N U := ⟨fun q hq => va_Nw.warmM hW (h.1 q hq), fun C hC => va_AO.moved hW.alike (h.2 C hC)⟩
theorem m_N.same {s U : State} (hv : s.vm = U.vm) (h : m_N s) : m_N U := ⟨fun q hq => va_Nw.same rfl hv (h.1 q hq), fun C hC => va_AO.moved (by rw [hv]; exact Vm.Alike.refl _) (h.2 C hC)⟩
/-- locals by their places; .retAddr: nothing is known -/
def m_lv (G : mG) : Nat → List Value → List (Nat × Value)
  | _, [] => []
  | n, v :: L => match v with
    | .retAddr _ => m_lv G (n + 1) L
    | v => (n, m_rv G v) :: m_lv G (n + 1) L
def m_Cx (G : mG) (M : mM) (d : Nat) (p : Program) (R : Room) (s : State) (m : MethodId) (args : Array Value) (meth : Method) (c : Code) : Prop :=
  p.tables.exec = Jvm.exec ∧ c.code = M.2.1 ∧ c.maxLocals = M.2.2.1 ∧ s.vm.findClass M.1.cls = some m.cls ∧ (∀ w ∈ m_tbl, w.before args s = true) ∧ va_K G.2.1 vwCl (m_tys G) s ∧ (m_St G s s.heap ∧ m_N s) ∧ G.2.2.2.1 ≤ s.heap.size ∧ d ≤ R.frames ∧ 39 * d ≤ R.locals ∧ meth.name = M.1.name
def m_retI (ret : Option FieldType) : Instr := match ret with
  | none => .return_
  | some t => if t.isReference = true then .areturn else .ireturn
/-- the small machine at pc, with locals L, stack st, heap h, comes to its return with r and h' (d frames, rc cells and rs slots are left) -/
def MW (G : mG) (M : mM) (d rc rs pc : Nat) (L st : List Value) (h : mH) (r : Option Value) (h' : mH) : Prop :=
  ∀ (p : Program) (e : Env) (R : Room) (s : State) (m : MethodId) (args : Array Value) (below : List Frame) (meth : Method) (c : Code) (H : Heap) (locs : List Loc) (cells slots : Nat) (Q : State → Prop) (ls : Array Slot),
    m_Cx G M d p R s m args meth c → m_P G h H → va_S (m_A G) s.heap H locs → lv_has ls M.2.2.1 (m_lv G 0 L) → cells + rc ≤ R.cells → slots + rs ≤ R.slots →
    (∀ (pc' : Nat) (ls' : Array Slot) (H' : Heap) (locs' : List Loc) (cells' slots' : Nat), decode M.2.1 pc' = .ok (m_retI M.2.2.2, 1) → m_P G h' H' → va_S (m_A G) s.heap H' locs' → cells' ≤ cells + rc → slots' ≤ slots + rs →
      W p G.1 e R s m args below meth c H' locs' cells' slots' Q (F0 m pc' ls' (r.toList.map (m_rv G)))) →
    W p G.1 e R s m args below meth c H locs cells slots Q (F0 m pc ls (st.map (m_rv G)))
/-- a method's contract -/
def MC (G : mG) (M : mM) (d mc ms : Nat) (av : List Value) (h : mH) (r : Option Value) (h' : mH) : Prop :=
  Met G.1 M.1 (Cond.code M.1 M.2.1 M.2.2.1 M.2.2.2 :: m_tbl) { frames := d, cells := mc, slots := ms, locals := 39 * d }
    (va_Pc (av.map (m_rv G)) (fun U => va_K G.2.1 vwCl (m_tys G) U ∧ (m_St G U U.heap ∧ m_N U) ∧ m_P G h U.heap))
    (fun _ st oc t => oc = .returned (r.map (m_rv G)) ∧ m_P G h' t.heap ∧ va_F (m_A G) st t) mc ms (m_A G)
theorem m_lv_mem {G : mG} : ∀ (L : List Value) (n : Nat) (q : Nat × Value), q ∈ m_lv G n L → ∃ (i : Nat) (v : Value), L[i]? = some v ∧ (∀ z, v ≠ .retAddr z) ∧ q = (n + i, m_rv G v)
  | [], n, q, h => by simp [m_lv] at h
  | v :: L, n, q, h => by
    have key : q = (n, m_rv G v) ∧ (∀ z, v ≠ .retAddr z) ∨ q ∈ m_lv G (n + 1) L := by
      cases v with
      | retAddr z => exact Or.inr h
      | _ =>
        rcases List.mem_cons.mp h with h | h
        · exact Or.inl ⟨h, fun z e => by cases e⟩
        · exact Or.inr h
    rcases key with ⟨h1, h2⟩ | h1
    · exact ⟨0, v, rfl, h2, by rw [h1]; rfl⟩
    · obtain ⟨i, w, e1, e2, e3⟩ := m_lv_mem L (n + 1) q h1
      exact ⟨i + 1, w, by rw [List.getElem?_cons_succ]; exact e1, e2, by rw [e3, show n + 1 + i = n + (i + 1) by omega]⟩
theorem m_lv_in {G : mG} : ∀ (L : List Value) (n i : Nat) (v : Value), L[i]? = some v → (∀ z, v ≠ .retAddr z) → (n + i, m_rv G v) ∈ m_lv G n L
  | [], n, i, v, h, _ => by simp at h
  | w :: L, n, 0, v, h, hz => by
    rw [List.getElem?_cons_zero] at h
    have h := Option.some.inj h
    subst h
    cases w with
    | retAddr z => exact absurd rfl (hz z)
    | _ => exact List.mem_cons_self
  | w :: L, n, i + 1, v, h, hz => by
    rw [List.getElem?_cons_succ] at h
    have h1 := m_lv_in (G := G) L (n + 1) i v h hz
    rw [show n + 1 + i = n + (i + 1) by omega] at h1
    cases w with
    | retAddr z => exact h1
    | _ => exact List.mem_cons_of_mem _ h1
theorem m_rv_c1 (G : mG) (v : Value) : (m_rv G v).category = 1 := by cases v <;> rfl
theorem m_get {G : mG} {ls : Array Slot} {n : Nat} {L : List Value} (hl : lv_has ls n (m_lv G 0 L)) {i : Nat} {v : Value} (hi : L[i]? = some v) (hv : ∀ z, v ≠ .retAddr z) : ls[i]? = some (.val (m_rv G v)) := by
  have h := hl.2.2 _ (m_lv_in L 0 i v hi hv)
  rw [Nat.zero_add] at h
  exact h
/-- behind a store -/
theorem m_stored {G : mG} {ls : Array Slot} {n i : Nat} {L : List Value} {v : Value} (h : lv_has ls n ((i, m_rv G v) :: (m_lv G 0 L).filter (fun q => !(q.1 == i) && !(q.1 + 1 == i && q.2.category == 2)))) : lv_has ls n (m_lv G 0 (L.set i v)) := by
  refine ⟨h.1, h.2.1, fun q hq => ?_⟩
  obtain ⟨j, w, e1, e2, rfl⟩ := m_lv_mem _ _ _ hq
  rw [Nat.zero_add]
  by_cases hji : j = i
  · subst hji
    have hlt : j < L.length := by
      have := (List.getElem?_eq_some_iff.mp e1).1
      rwa [List.length_set] at this
    rw [List.getElem?_set_self hlt] at e1
    cases e1
    exact h.2.2 (j, m_rv G v) List.mem_cons_self
  · rw [List.getElem?_set_ne (Ne.symm hji)] at e1
    refine h.2.2 (j, m_rv G w) (List.mem_cons_of_mem _ (List.mem_filter.mpr ⟨?_, ?_⟩))
    · have := m_lv_in (G := G) L 0 j w e1 e2
      rwa [Nat.zero_add] at this
    · rw [show ((j, m_rv G w) : Nat × Value).2.category = 1 from m_rv_c1 G w]
      simp [hji]
theorem m_A_ad {G : mG} {k : Nat} (h : k < 1000) : m_ad G k = G.2.2.2.1 + k := by
  unfold m_ad
  rw [if_neg (by omega), if_neg (by omega)]
