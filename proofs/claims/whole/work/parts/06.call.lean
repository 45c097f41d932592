/-! ===== rows of the small machine: new cells, calls, a contract out of a walk ===== -/
theorem m_good : m_tbl.all goodWord = true := List.all_eq_true.mpr fun _ h => (List.mem_filter.mp h).2
theorem m_goodIn {w : Cond} (hw : w ∈ m_tbl) : GoodIn m_tbl (w :: m_tbl) := by
  intro x hx
  have hx' : x ∈ m_tbl := by
    rcases List.mem_cons.mp hx with rfl | h
    · exact hw
    · exact h
  exact ⟨hx', good_of_word (List.all_eq_true.mp m_good x hx')⟩
/-- a method's own words, and how many parameters it has -/
def m_ML (M : mM) (n : Nat) : Prop := Cond.code M.1 M.2.1 M.2.2.1 M.2.2.2 ∈ m_tbl ∧ Cond.initialized M.1.cls ∈ m_tbl ∧ (M.1.cls ≠ "java/lang/invoke/MethodHandle" ∧ M.1.cls ≠ "java/lang/invoke/VarHandle" ∧ (parseMethodDescriptor M.1.desc).map (fun d => d.parameters.length) = some n) ∧ M.2.2.1 ≤ 20 ∧ plainFor M.1 = true
/-- a virtual call's link -/
def m_LV (own : String) (idx : Nat) (M : mM) (n : Nat) : Prop := m_ML M n ∧ Cond.methodLink own idx M.1 ∈ m_tbl ∧ Cond.instanceMethod M.1 ∈ m_tbl ∧ Cond.selects M.1.cls M.1 M.1 ∈ m_tbl
/-- a static call's link -/
def m_LS (own : String) (idx : Nat) (M : mM) (n : Nat) : Prop := m_ML M n ∧ Cond.static M.1 ∈ m_tbl ∧ (Cond.methodLink own idx M.1 ∈ m_tbl ∨ ∃ host, (own, idx, M.1, host) ∈ m_nst)
/-- a constructor call's link -/
def m_LI (own : String) (idx : Nat) (M : mM) (n : Nat) : Prop := m_ML M n ∧ M.1.name = "<init>" ∧ M.2.2.2 = none ∧ Cond.instanceMethod M.1 ∈ m_tbl ∧ (Cond.methodLink own idx M.1 ∈ m_tbl ∨ ∃ host, (own, idx, M.1, host) ∈ m_nst)
theorem m_sum (G : mG) : ∀ l : List Value, ((l.map (m_rv G)).map fun v => v.category).sum = l.length
  | [] => rfl
  | v :: l => by
    show (m_rv G v).category + ((l.map (m_rv G)).map fun v => v.category).sum = l.length + 1
    rw [m_sum G l, m_rv_c1]
    omega
theorem m_St.moved {G : mG} {u U : State} {H : Heap} (hvm : u.vm.Alike U.vm) (h : m_St G u H) : m_St G U H := ⟨h.1.moved hvm, h.2.moved hvm⟩
theorem m_St.kept {G : mG} {U : State} {H H1 : Heap} (h : m_St G U H) (hq : ∀ a : Nat, a < H.size → ¬ m_A G a → H1[a]? = H[a]?) : m_St G U H1 := ⟨h.1.kept hq, h.2.kept hq⟩
section RCALL
variable {G : mG} {M : mM} {d rc rs pc : Nat} {L st : List Value} {h h' : mH} {r : Option Value}
def m_Pc (G : mG) (av : List Value) (h : mH) : Array Value → State → Prop := va_Pc (av.map (m_rv G)) (fun U => va_K G.2.1 vwCl (m_tys G) U ∧ (m_St G U U.heap ∧ m_N U) ∧ m_P G h U.heap)
theorem m_blind (G : mG) (av : List Value) (h : mH) : FrameBlind (m_Pc G av h) := by
  intro a U g mk q
  obtain ⟨q0, qK, qS, qP⟩ := q
  exact ⟨q0, va_K.moved (u := U) (U := U.calling g mk a) (Vm.Alike.refl U.vm) qK, ⟨m_St.moved (u := U) (U := U.calling g mk a) (Vm.Alike.refl U.vm) qS.1, m_N.same (s := U) (U := U.calling g mk a) rfl qS.2⟩, qP⟩
theorem m_pre {p : Program} {R : Room} {s : State} {m : MethodId} {args : Array Value} {meth : Method} {c : Code} {H : Heap} {locs : List Loc} (cx : m_Cx G M d p R s m args meth c) (hP : m_P G h H) (hS : va_S (m_A G) s.heap H locs) (av : List Value) : ∀ U : State, U.heap = H → s.WarmedH U.vm → m_Pc G av h (av.map (m_rv G)).toArray U := by
  intro U hU hW
  refine ⟨rfl, va_K.moved hW.alike cx.2.2.2.2.2.1, ?_, by rw [hU]; exact hP⟩
  rw [hU]
  exact ⟨(cx.2.2.2.2.2.2.1.1.kept (fun a h1 h2 => hS.2.1 a h1 h2)).moved hW.alike, cx.2.2.2.2.2.2.1.2.warm hW⟩
theorem m_go {p : Program} {e : Env} {R : Room} {s : State} {m : MethodId} {args : Array Value} {below : List Frame} {meth : Method} {c : Code} {H : Heap} {locs : List Loc} {cells slots mc ms : Nat} {Q : State → Prop} {ls : Array Slot} {st0 rest : List Value} {r1 : Option Value} {h1 : mH}
    (hr : va_Run p G.1 e R s m args below meth c H locs cells slots mc ms (F0 m pc ls st0) (rest.map (m_rv G)) (fun st oc t => oc = .returned (r1.map (m_rv G)) ∧ m_P G h1 t.heap ∧ va_F (m_A G) st t) (m_A G)) (hS : va_S (m_A G) s.heap H locs)
    (kk : ∀ (H1 : Heap) (locs1 : List Loc), m_P G h1 H1 → va_S (m_A G) s.heap H1 locs1 → W p G.1 e R s m args below meth c H1 locs1 (cells + mc) (slots + ms) Q (F0 m (pc + 3) ls ((r1.toList ++ rest).map (m_rv G)))) : W p G.1 e R s m args below meth c H locs cells slots Q (F0 m pc ls st0) := by
  intro T hT X
  obtain ⟨v, st₀, t, T', L, h0, X', hL, e1, e2, ⟨hv, hP1, hz, hk⟩, st⟩ := hr T hT X
  have hv := Outcome.returned.inj hv
  subst hv
  rw [h0] at hz hk
  have hS1 : va_S (m_A G) s.heap T'.heap (locs ++ L) := ⟨Nat.le_trans hS.1 (by rw [e1]; exact hz), fun q h1 h2 => by rw [e1, hk q (Nat.lt_of_lt_of_le h1 hS.1) h2]; exact hS.2.1 q h1 h2, fun q hq => by
      rcases List.mem_append.mp hq with h | h
      · exact hS.2.2 q h
      · exact hL q h⟩
  obtain ⟨t2, a1, b1⟩ := kk T'.heap (locs ++ L) (by rw [e1]; exact hP1) hS1 T' rfl X'
  refine ⟨t2, st t2 ?_, b1⟩
  have e9 : (r1.map (m_rv G)).toList ++ rest.map (m_rv G) = (r1.toList ++ rest).map (m_rv G) := by cases r1 <;> rfl
  rw [← e9] at a1
  exact a1
theorem r_callV {M' : mM} {d' mc ms idx n ci b : Nat} {As rest : List Value} {r1 : Option Value} {h1 : mH} (hC : MC G M' d' mc ms (.ref b :: As) h r1 h1) (hd : decode M.2.1 pc = .ok (.invokevirtual idx, 3)) (hl : m_LV M.1.cls idx M' n) (hs : h.1[b]? = some (.inl ci)) (hcl : m_R ci = M'.1.cls) (hn : As.length = n) (hst : As.reverse ++ .ref b :: rest = st) (hr : rest.length ≤ 8) (hdd : d' + 1 ≤ d) (hrc : mc ≤ rc) (hrs : ms ≤ rs)
    (kk : MW G M d (rc - mc) (rs - ms) (pc + 3) L (r1.toList ++ rest) h1 r h') : MW G M d rc rs pc L st h r h' := by
  subst hst
  intro p e R s m args below meth c H locs cells slots Q ls cx hP hS hlv hc1 hc2 fin
  obtain ⟨⟨hcode, hini, hy, hmL, hpl⟩, hlk, hins, hsel⟩ := hl
  have hts := cx.2.2.2.2.1
  obtain ⟨hci, cellB, g1, g2, g3, -⟩ := hP.1 b _ hs
  have hcls := (cx.2.2.2.2.2.1.1 ci _ (m_cl hci).1).2
  have hfr : d ≤ R.frames := cx.2.2.2.2.2.2.2.2.1
  have hlo : 39 * d ≤ R.locals := cx.2.2.2.2.2.2.2.2.2.1
  have cw : CallW R s args M.1.cls M'.1.cls idx M'.1 M'.2.1 M'.2.2.1 M'.2.2.2 (Cond.code M'.1 M'.2.1 M'.2.2.1 M'.2.2.2 :: m_tbl) { frames := d', cells := mc, slots := ms, locals := 39 * d' } mc ms n :=
    ⟨callB_of n hts (m_goodIn hcode) rfl rfl rfl (hts _ hini) (hts _ hlk) hy ⟨by show d' + 1 ≤ R.frames; omega, by show 8 + (M'.2.2.1 + 11) + 39 * d' ≤ R.locals; omega⟩, hts _ hins, hts _ hsel⟩
  refine m_go (mc := mc) (ms := ms) (rest := rest) (r1 := r1) (h1 := h1) (va_runV (As := As.map (m_rv G)) (b := m_ad G b) ⟨cx.1, cx.2.1, cx.2.2.1, cx.2.2.2.1, hts⟩ hC cw ⟨m_blind G _ _, ⟨cellB, g1, by rw [g3]; rfl, by rw [← hcl, g2]; exact hcls.1⟩, m_pre cx hP hS (.ref b :: As)⟩ rfl (by rw [List.length_map]; exact hn) hlv.1 (by show List.map _ _ = _; rw [List.map_append, List.map_reverse]; rfl) (lv_room (by rw [m_sum]; exact hr)) hd ⟨by omega, by omega⟩) hS ?_
  intro H1 locs1 hP1 hS1
  exact kk p e R s m args below meth c H1 locs1 (cells + mc) (slots + ms) Q ls cx hP1 hS1 hlv (by omega) (by omega) (fun pc' ls' H' locs' cells' slots' f1 f2 f3 f4 f5 => fin pc' ls' H' locs' cells' slots' f1 f2 f3 (by omega) (by omega))
theorem r_callS {M' : mM} {d' mc ms idx n : Nat} {As rest : List Value} {r1 : Option Value} {h1 : mH} (hC : MC G M' d' mc ms As h r1 h1) (hd : decode M.2.1 pc = .ok (.invokestatic idx, 3)) (hl : m_LS M.1.cls idx M' n) (hn : As.length = n) (hst : As.reverse ++ rest = st) (hr : rest.length ≤ 8) (hdd : d' + 1 ≤ d) (hrc : mc ≤ rc) (hrs : ms ≤ rs)
    (kk : MW G M d (rc - mc) (rs - ms) (pc + 3) L (r1.toList ++ rest) h1 r h') : MW G M d rc rs pc L st h r h' := by
  subst hst
  intro p e R s m args below meth c H locs cells slots Q ls cx hP hS hlv hc1 hc2 fin
  obtain ⟨⟨hcode, hini, hy, hmL, hpl⟩, hsta, hlk⟩ := hl
  have hts := cx.2.2.2.2.1
  have hfr : d ≤ R.frames := cx.2.2.2.2.2.2.2.2.1
  have hlo : 39 * d ≤ R.locals := cx.2.2.2.2.2.2.2.2.2.1
  have hRm : ({ frames := d', cells := mc, slots := ms, locals := 39 * d' } : Room).frames + 1 ≤ R.frames ∧ 8 + (M'.2.2.1 + 11) + ({ frames := d', cells := mc, slots := ms, locals := 39 * d' } : Room).locals ≤ R.locals := ⟨by show d' + 1 ≤ R.frames; omega, by show 8 + (M'.2.2.1 + 11) + 39 * d' ≤ R.locals; omega⟩
  have hrun : va_Run p G.1 e R s m args below meth c H locs cells slots mc ms (F0 m pc ls ((As.reverse ++ rest).map (m_rv G))) (rest.map (m_rv G)) (fun st oc t => oc = .returned (r1.map (m_rv G)) ∧ m_P G h1 t.heap ∧ va_F (m_A G) st t) (m_A G) := by
    rcases hlk with hlk | ⟨host, hlk⟩
    · exact va_runS (As := As.map (m_rv G)) ⟨cx.1, cx.2.1, cx.2.2.1, cx.2.2.2.1, hts⟩ hC ⟨callB_of n hts (m_goodIn hcode) rfl rfl rfl (hts _ hini) (hts _ hlk) hy hRm, hts _ hsta⟩ ⟨m_blind G _ _, m_pre cx hP hS As⟩ rfl (by rw [List.length_map]; exact hn) hlv.1 (by show List.map _ _ = _; rw [List.map_append, List.map_reverse]) (lv_room (by rw [m_sum]; exact hr)) hd ⟨by omega, by omega⟩
    · exact va_runSN (As := As.map (m_rv G)) ⟨cx.1, cx.2.1, cx.2.2.1, cx.2.2.2.1, hts⟩ hC ⟨va_cnB n hts (m_goodIn hcode) rfl rfl rfl (cx.2.2.2.2.2.2.1.2.1 _ hlk) (hts _ hini) hy hRm, hts _ hsta, trivial⟩ ⟨m_blind G _ _, m_pre cx hP hS As⟩ rfl (by rw [List.length_map]; exact hn) hlv.1 (by show List.map _ _ = _; rw [List.map_append, List.map_reverse]) (lv_room (by rw [m_sum]; exact hr)) hd ⟨by omega, by omega⟩
  refine m_go (mc := mc) (ms := ms) (rest := rest) (r1 := r1) (h1 := h1) hrun hS ?_
  intro H1 locs1 hP1 hS1
  exact kk p e R s m args below meth c H1 locs1 (cells + mc) (slots + ms) Q ls cx hP1 hS1 hlv (by omega) (by omega) (fun pc' ls' H' locs' cells' slots' f1 f2 f3 f4 f5 => fin pc' ls' H' locs' cells' slots' f1 f2 f3 (by omega) (by omega))
theorem r_callI {M' : mM} {d' mc ms idx n b : Nat} {As rest : List Value} {r1 : Option Value} {h1 : mH} (hC : MC G M' d' mc ms (.ref b :: As) h r1 h1) (hd : decode M.2.1 pc = .ok (.invokespecial idx, 3)) (hl : m_LI M.1.cls idx M' n) (hn : As.length = n) (hst : As.reverse ++ .ref b :: rest = st) (hr : rest.length ≤ 8) (hdd : d' + 1 ≤ d) (hrc : mc ≤ rc) (hrs : ms ≤ rs)
    (kk : MW G M d (rc - mc) (rs - ms) (pc + 3) L (r1.toList ++ rest) h1 r h') : MW G M d rc rs pc L st h r h' := by
  subst hst
  intro p e R s m args below meth c H locs cells slots Q ls cx hP hS hlv hc1 hc2 fin
  obtain ⟨⟨hcode, hini, hy, hmL, hpl⟩, hnm, hret, hins, hlk⟩ := hl
  have hts := cx.2.2.2.2.1
  have hfr : d ≤ R.frames := cx.2.2.2.2.2.2.2.2.1
  have hlo : 39 * d ≤ R.locals := cx.2.2.2.2.2.2.2.2.2.1
  rw [hret] at hcode
  unfold MC at hC
  rw [hret] at hC
  have hRm : ({ frames := d', cells := mc, slots := ms, locals := 39 * d' } : Room).frames + 1 ≤ R.frames ∧ 8 + (M'.2.2.1 + 11) + ({ frames := d', cells := mc, slots := ms, locals := 39 * d' } : Room).locals ≤ R.locals := ⟨by show d' + 1 ≤ R.frames; omega, by show 8 + (M'.2.2.1 + 11) + 39 * d' ≤ R.locals; omega⟩
  have hrun : va_Run p G.1 e R s m args below meth c H locs cells slots mc ms (F0 m pc ls ((As.reverse ++ .ref b :: rest).map (m_rv G))) (rest.map (m_rv G)) (fun st oc t => oc = .returned (r1.map (m_rv G)) ∧ m_P G h1 t.heap ∧ va_F (m_A G) st t) (m_A G) := by
    rcases hlk with hlk | ⟨host, hlk⟩
    · exact va_runI (As := As.map (m_rv G)) (b := m_ad G b) ⟨cx.1, cx.2.1, cx.2.2.1, cx.2.2.2.1, hts⟩ hC (cwI n hts (m_goodIn hcode) rfl rfl rfl (hts _ hini) (hts _ hlk) (hts _ hins) hnm hy hRm) ⟨m_blind G _ _, m_pre cx hP hS (.ref b :: As)⟩ rfl (by rw [List.length_map]; exact hn) hlv.1 (by show List.map _ _ = _; rw [List.map_append, List.map_reverse]; rfl) (lv_room (by rw [m_sum]; exact hr)) hd ⟨by omega, by omega⟩
    · exact va_runIN (As := As.map (m_rv G)) (b := m_ad G b) ⟨cx.1, cx.2.1, cx.2.2.1, cx.2.2.2.1, hts⟩ hC ⟨va_cnB n hts (m_goodIn hcode) rfl rfl rfl (cx.2.2.2.2.2.2.1.2.1 _ hlk) (hts _ hini) hy hRm, hnm, hts _ hins⟩ ⟨m_blind G _ _, m_pre cx hP hS (.ref b :: As)⟩ rfl (by rw [List.length_map]; exact hn) hlv.1 (by show List.map _ _ = _; rw [List.map_append, List.map_reverse]; rfl) (lv_room (by rw [m_sum]; exact hr)) hd ⟨by omega, by omega⟩
  refine m_go (mc := mc) (ms := ms) (rest := rest) (r1 := r1) (h1 := h1) hrun hS ?_
  intro H1 locs1 hP1 hS1
  exact kk p e R s m args below meth c H1 locs1 (cells + mc) (slots + ms) Q ls cx hP1 hS1 hlv (by omega) (by omega) (fun pc' ls' H' locs' cells' slots' f1 f2 f3 f4 f5 => fin pc' ls' H' locs' cells' slots' f1 f2 f3 (by omega) (by omega))
/-- Object.<init> -/
theorem r_obj {idx a : Nat} (hd : decode M.2.1 pc = .ok (.invokespecial idx, 3)) (h1 : Cond.methodLink M.1.cls idx Lib.objectInit ∈ m_tbl) (h2 : Cond.instanceMethod Lib.objectInit ∈ m_tbl) (h3 : Cond.code Lib.objectInit ⟨#[0xb1]⟩ 1 none ∈ m_tbl) (hr : st.length ≤ 8) (hdd : 1 ≤ d) (kk : MW G M d rc rs (pc + 3) L st h r h') : MW G M d rc rs pc L (.ref a :: st) h r h' := by
  intro p e R s m args below meth c H locs cells slots Q ls cx hP hS hlv hc1 hc2 fin
  have hts := cx.2.2.2.2.1
  have hfr : d ≤ R.frames := cx.2.2.2.2.2.2.2.2.1
  have hlo : 39 * d ≤ R.locals := cx.2.2.2.2.2.2.2.2.2.1
  refine W.objInit cx.1 cx.2.1 cx.2.2.2.1 (hts _ h1) (hts _ h2) (hts _ h3) rfl (hlv.1.trans cx.2.2.1.symm) rfl hd (by omega) (by show 2 * 0 + _ + 12 ≤ _; rw [m_sum]; omega) ?_
  exact kk p e R s m args below meth c H locs cells slots Q ls cx hP hS hlv hc1 hc2 fin
theorem r_min {idx : Nat} {x y : Int32} (hd : decode M.2.1 pc = .ok (.invokestatic idx, 3)) (h1 : Cond.methodLink M.1.cls idx Lib.Math.min.name ∈ m_tbl) (h2 : Cond.static Lib.Math.min.name ∈ m_tbl) (h3 : Cond.initialized "java/lang/Math" ∈ m_tbl) (h4 : Cond.code Lib.Math.min.name Lib.Math.min.code 2 (some .int) ∈ m_tbl) (hr : st.length ≤ 8) (hdd : 1 ≤ d) (kk : MW G M d rc rs (pc + 3) L (.int (if y < x then y else x) :: st) h r h') : MW G M d rc rs pc L (.int y :: .int x :: st) h r h' := by
  intro p e R s m args below meth c H locs cells slots Q ls cx hP hS hlv hc1 hc2 fin
  have hts := cx.2.2.2.2.1
  have hfr : d ≤ R.frames := cx.2.2.2.2.2.2.2.2.1
  have hlo : 39 * d ≤ R.locals := cx.2.2.2.2.2.2.2.2.2.1
  refine va_mmin cx.1 cx.2.1 (cx.2.2.1.trans hlv.1.symm) cx.2.2.2.1 (hts _ h1) (hts _ h2) (hts _ h3) (hts _ h4) (by omega) (by rw [m_sum]; omega) (by omega) (by omega) hd ?_
  exact kk p e R s m args below meth c H locs cells slots Q ls cx hP hS hlv hc1 hc2 fin
theorem r_abs {idx : Nat} {x : Int32} (hd : decode M.2.1 pc = .ok (.invokestatic idx, 3)) (h1 : Cond.methodLink M.1.cls idx Lib.Math.abs.name ∈ m_tbl) (h2 : Cond.static Lib.Math.abs.name ∈ m_tbl) (h3 : Cond.initialized "java/lang/Math" ∈ m_tbl) (h4 : Cond.code Lib.Math.abs.name Lib.Math.abs.code 1 (some .int) ∈ m_tbl) (hr : st.length ≤ 8) (hdd : 1 ≤ d) (kk : MW G M d rc rs (pc + 3) L (.int (if 0 ≤ x then x else 0 - x) :: st) h r h') : MW G M d rc rs pc L (.int x :: st) h r h' := by
  intro p e R s m args below meth c H locs cells slots Q ls cx hP hS hlv hc1 hc2 fin
  have hts := cx.2.2.2.2.1
  have hfr : d ≤ R.frames := cx.2.2.2.2.2.2.2.2.1
  have hlo : 39 * d ≤ R.locals := cx.2.2.2.2.2.2.2.2.2.1
  refine va_mabs cx.1 cx.2.1 (cx.2.2.1.trans hlv.1.symm) cx.2.2.2.1 (hts _ h1) (hts _ h2) (hts _ h3) (hts _ h4) (by omega) (by rw [m_sum]; omega) (by omega) (by omega) hd ?_
  exact kk p e R s m args below meth c H locs cells slots Q ls cx hP hS hlv hc1 hc2 fin
/-- the static row of widths: it is the cell 1000001 -/
theorem r_gets {idx : Nat} (hd : decode M.2.1 pc = .ok (.getstatic idx, 3)) (hw : Cond.fieldLink M.1.cls idx "MaskedCopies$WidthSearch" "WIDTHS" "[I" ∈ m_tbl) (kk : MW G M d rc rs (pc + 3) L (.ref 1000001 :: st) h r h') : MW G M d rc rs pc L st h r h' := by
  intro p e R s m args below meth c H locs cells slots Q ls cx hP hS hlv hc1 hc2 fin
  refine va_gets cx.1 cx.2.1 cx.2.2.2.2.2.2.1.1.1 hS cx.2.2.2.1 (cx.2.2.2.2.1 _ hw) (fun _ h9 => h9) hd ?_
  exact kk p e R s m args below meth c H locs cells slots Q ls cx hP hS hlv hc1 hc2 fin
theorem r_wald {i : Int32} (hd : decode M.2.1 pc = .ok (.iaload, 1)) (hin : vp_in i 4) (kk : MW G M d rc rs (pc + 1) L (.int (m_wid i.toNatClampNeg) :: st) h r h') : MW G M d rc rs pc L (.int i :: .ref 1000001 :: st) h r h' := by
  intro p e R s m args below meth c H locs cells slots Q ls cx hP hS hlv hc1 hc2 fin
  refine va_ti cx.1 cx.2.1 cx.2.2.2.2.2.2.1.1.2 hS hin rfl hd ?_
  exact kk p e R s m args below meth c H locs cells slots Q ls cx hP hS hlv hc1 hc2 fin
/-- what a method may return -/
def m_okR (ret : Option FieldType) (r : Option Value) : Prop := match ret with
  | none => r = none
  | some .int => ∃ x : Int32, r = some (.int x)
  | some .boolean => r = some (.int 0) ∨ r = some (.int 1)
  | some (.object _) => r = some .null ∨ ∃ a, r = some (.ref a)
  | _ => False
theorem m_args {G : mG} : ∀ (av : List Value) (n k : Nat) (q : Nat × Value), q ∈ m_lv G n (av ++ List.replicate k (.retAddr 0)) → q ∈ lv_args n (av.map (m_rv G))
  | [], n, k, q, h => by
    obtain ⟨i, v, e1, e2, -⟩ := m_lv_mem _ _ _ h
    rw [List.nil_append] at e1
    have := (List.eq_of_mem_replicate (List.mem_of_getElem? e1))
    exact absurd this (e2 0)
  | v :: av, n, k, q, h => by
    have key : q = (n, m_rv G v) ∨ q ∈ m_lv G (n + 1) (av ++ List.replicate k (.retAddr 0)) := by
      cases v with
      | retAddr z => exact Or.inr h
      | _ => exact List.mem_cons.mp h
    show q ∈ (n, m_rv G v) :: lv_args (if (m_rv G v).category = 2 then n + 2 else n + 1) (av.map (m_rv G))
    rw [m_rv_c1, if_neg (by decide)]
    rcases key with h1 | h1
    · rw [h1]; exact List.mem_cons_self
    · exact List.mem_cons_of_mem _ (m_args av (n + 1) k q h1)
theorem m_sl {G : mG} : ∀ (av : List Value), (lg_sl (av.map (m_rv G))).length = av.length
  | [] => rfl
  | v :: av => by
    show ((if (m_rv G v).category = 2 then [Slot.val (m_rv G v), .second] else [.val (m_rv G v)]) ++ lg_sl (av.map (m_rv G))).length = av.length + 1
    rw [m_rv_c1, if_neg (by decide), List.length_append, m_sl av]
    show 1 + _ = _
    omega
/-- a contract out of the walk of the body -/
theorem MC_intro {mc ms n : Nat} {av : List Value} (hM : m_ML M n) (hav : av.length ≤ M.2.2.1) (hr : m_okR M.2.2.2 r) (hL : av ++ List.replicate (M.2.2.1 - av.length) (.retAddr 0) = L) (hB : True) (kk : MW G M d mc ms 0 L [] h r h') : MC G M d mc ms av h r h' := by
  subst hL
  refine va_MetF (cc := M.2.1) (maxL := M.2.2.1) (ret := M.2.2.2) hM.2.2.2.2 rfl ?_
  intro p e s m args below meth c s₁ B hml hv
  obtain ⟨rfl, hK, hSt, hP⟩ := hv
  have hr2 := B.returns
  have hts0 := atoms_spec (ws := Cond.code M.1 M.2.1 M.2.2.1 M.2.2.2 :: m_tbl) B.pre
  have hts : ∀ w ∈ m_tbl, w.before (av.map (m_rv G)).toArray s = true := fun w hw => hts0 w (List.mem_cons_of_mem _ hw)
  have hown : s.vm.findClass M.1.cls = some m.cls := findClass_of_methodNamed B.named
  have hlocks := B.notSynchronized
  have hnm : meth.name = M.1.name := (name_of_methodNamed B.named B.method).1
  have hl := lv_entry (av.map (m_rv G)) (n := M.2.2.1) (by rw [m_sl]; exact hav)
  rw [lg_entry_eq]
  generalize (lg_sl (av.map (m_rv G)) ++ List.replicate (M.2.2.1 - (lg_sl (av.map (m_rv G))).length) Slot.unset).toArray = ls at hl ⊢
  have hl2 : lv_has ls M.2.2.1 (m_lv G 0 (av ++ List.replicate (M.2.2.1 - av.length) (.retAddr 0))) := ⟨hl.1, hl.2.1, fun q hq => hl.2.2 q (m_args av 0 _ q hq)⟩
  have hsz : G.2.2.2.1 ≤ s.heap.size := by rw [hP.2.1]; exact Nat.le_add_right _ _
  refine kk p e _ s m _ below meth c s.heap [] 0 0 _ ls ⟨B.exec, B.bytes, hml, hown, hts, hK, hSt, hsz, Nat.le_refl _, Nat.le_refl _, hnm⟩ hP va_S.rf hl2 (by show 0 + mc ≤ mc; omega) (by show 0 + ms ≤ ms; omega) ?_
  intro pc' ls' H' locs' cells' slots' hd hP' hS' hc hs
  refine W.widen (k := mc) (n := ms) (by omega) (by omega) ?_
  have hq : ∀ t : State, t.heap = H' → s.WarmedH t.vm → (.returned (r.map (m_rv G)) : Outcome) = .returned (r.map (m_rv G)) ∧ m_P G h' t.heap ∧ va_F (m_A G) s t := fun t ht _ => ⟨rfl, by rw [ht]; exact hP', hS'.F ht⟩
  obtain ⟨y, bb, mL, ret⟩ := M
  dsimp only at hr hr2 hd hq ⊢
  match ret, hr, hr2, hd with
  | none, hr, hr2, hd =>
    subst hr
    exact W.vret B.exec B.bytes hr2 hq hS'.2.2 hd
  | some .int, hr, hr2, hd =>
    obtain ⟨x, rfl⟩ := hr
    exact W.iret B.exec B.bytes hr2 hq hS'.2.2 hd
  | some .boolean, hr, hr2, hd =>
    rcases hr with rfl | rfl
    · exact W.zret B.exec B.bytes hr2 rfl hq hS'.2.2 hd
    · exact W.zret B.exec B.bytes hr2 rfl hq hS'.2.2 hd
  | some (.object C), hr, hr2, hd =>
    rcases hr with rfl | ⟨a, rfl⟩
    · exact W.aret B.exec B.bytes hr2 (Or.inl ⟨_, rfl⟩) (Or.inl rfl) hq hS'.2.2 hd
    · exact W.aret B.exec B.bytes hr2 (Or.inl ⟨_, rfl⟩) (Or.inr ⟨_, rfl⟩) hq hS'.2.2 hd
end RCALL
