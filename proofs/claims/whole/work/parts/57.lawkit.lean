/-! ===== the law's own walk: rows (written by wip/whole/mklawkit.py) ===== -/
/-- the law at pc, with locals L, stack st, heap h, comes to Q -/
def ML (G : mG) (p : Program) (e : Env) (R : Room) (s : State) (m : MethodId) (args : Array Value) (below : List Frame) (meth : Method) (c : Code) (Q : State → Prop) (cells slots pc : Nat) (L st : List Value) (h : mH) : Prop :=
  ∀ (H : Heap) (locs : List Loc) (ls : Array Slot), m_P G h H → va_S (m_A G) s.heap H locs → lv_has ls 4 (m_lv G 0 L) → W p G.1 e R s m args below meth c H locs cells slots Q (F0 m pc ls (st.map (m_rv G)))
/-- what stands at the law's entry -/
def LC (G : mG) (p : Program) (R : Room) (s : State) (m : MethodId) (args : Array Value) (c : Code) (Lx : Nat) (xs : Nat → Int32) : Prop :=
  (p.tables.exec = Jvm.exec ∧ c.code = cL_law ∧ c.maxLocals = 4 ∧ s.vm.findClass RL = some m.cls ∧ (∀ w ∈ m_tbl, w.before args s = true)) ∧ (va_K G.2.1 vwCl (m_tys G) s ∧ (m_St G s s.heap ∧ m_N s)) ∧ (va_X G.2.2.2.2.1 Lx xs s s.heap ∧ G.2.2.2.2.1 < s.heap.size ∧ ¬ m_A G G.2.2.2.2.1) ∧ 10 ≤ R.frames ∧ 390 ≤ R.locals
section LW
variable {G : mG} {p : Program} {e : Env} {R : Room} {s : State} {m : MethodId} {args : Array Value} {below : List Frame} {meth : Method} {c : Code} {Q : State → Prop} {Lx : Nat} {xs : Nat → Int32} {cells slots pc : Nat} {L st : List Value} {h : mH}
theorem l_iconst {n : Int} {x : Int32} (C : LC G p R s m args c Lx xs) (hd : decode cL_law pc = .ok (.iconst n, 1)) (hv : Int32.ofInt n = x) (kk : ML G p e R s m args below meth c Q cells slots (pc + 1) L (.int x :: st) h) : ML G p e R s m args below meth c Q cells slots pc L (st) h := by
  intro H locs ls hP hS hl
  exact lv_iconst C.1.1 C.1.2.1 hd hv (kk H locs ls hP hS hl)
theorem l_bipush {n : Int} {x : Int32} (C : LC G p R s m args c Lx xs) (hd : decode cL_law pc = .ok (.bipush n, 2)) (hv : (Int8.ofInt n).toInt32 = x) (kk : ML G p e R s m args below meth c Q cells slots (pc + 2) L (.int x :: st) h) : ML G p e R s m args below meth c Q cells slots pc L (st) h := by
  intro H locs ls hP hS hl
  exact lv_bipush C.1.1 C.1.2.1 hd hv (kk H locs ls hP hS hl)
theorem l_iload_n {j : Fin 4} {i : Nat} {x : Int32} (C : LC G p R s m args c Lx xs) (hd : decode cL_law pc = .ok (.iload_n j, 1)) (hj : (j : Nat) = i) (hi : L[i]? = some (.int x)) (kk : ML G p e R s m args below meth c Q cells slots (pc + 1) L (.int x :: st) h) : ML G p e R s m args below meth c Q cells slots pc L (st) h := by
  intro H locs ls hP hS hl
  exact lv_iload_n C.1.1 C.1.2.1 hd hj (m_get hl hi (fun _ h => by cases h)) (kk H locs ls hP hS hl)
theorem l_aload_n {j : Fin 4} {i a : Nat} (C : LC G p R s m args c Lx xs) (hd : decode cL_law pc = .ok (.aload_n j, 1)) (hj : (j : Nat) = i) (hi : L[i]? = some (.ref a)) (kk : ML G p e R s m args below meth c Q cells slots (pc + 1) L (.ref a :: st) h) : ML G p e R s m args below meth c Q cells slots pc L (st) h := by
  intro H locs ls hP hS hl
  exact lv_aload_n C.1.1 C.1.2.1 hd hj (m_get hl hi (fun _ h => by cases h)) (kk H locs ls hP hS hl)
theorem l_iadd {x y : Int32} (C : LC G p R s m args c Lx xs) (hd : decode cL_law pc = .ok (.iadd, 1)) (kk : ML G p e R s m args below meth c Q cells slots (pc + 1) L (.int (x + y) :: st) h) : ML G p e R s m args below meth c Q cells slots pc L (.int y :: .int x :: st) h := by
  intro H locs ls hP hS hl
  exact lv_iadd C.1.1 C.1.2.1 hd (kk H locs ls hP hS hl)
theorem l_isub {x y : Int32} (C : LC G p R s m args c Lx xs) (hd : decode cL_law pc = .ok (.isub, 1)) (kk : ML G p e R s m args below meth c Q cells slots (pc + 1) L (.int (x - y) :: st) h) : ML G p e R s m args below meth c Q cells slots pc L (.int y :: .int x :: st) h := by
  intro H locs ls hP hS hl
  exact lv_isub C.1.1 C.1.2.1 hd (kk H locs ls hP hS hl)
theorem l_iand {x y : Int32} (C : LC G p R s m args c Lx xs) (hd : decode cL_law pc = .ok (.iand, 1)) (kk : ML G p e R s m args below meth c Q cells slots (pc + 1) L (.int (x &&& y) :: st) h) : ML G p e R s m args below meth c Q cells slots pc L (.int y :: .int x :: st) h := by
  intro H locs ls hP hS hl
  exact lv_iand C.1.1 C.1.2.1 hd (kk H locs ls hP hS hl)
theorem l_dup {v : Value} (C : LC G p R s m args c Lx xs) (hd : decode cL_law pc = .ok (.dup, 1)) (kk : ML G p e R s m args below meth c Q cells slots (pc + 1) L (v :: v :: st) h) : ML G p e R s m args below meth c Q cells slots pc L (v :: st) h := by
  intro H locs ls hP hS hl
  exact lv_dup C.1.1 C.1.2.1 hd (m_rv_c1 G v) (kk H locs ls hP hS hl)
theorem l_goto {off : Int} {tgt : Nat} (C : LC G p R s m args c Lx xs) (hd : decode cL_law pc = .ok (.goto off, 3)) (ht : (pc : Int) + off = (tgt : Int)) (kk : ML G p e R s m args below meth c Q cells slots tgt L (st) h) : ML G p e R s m args below meth c Q cells slots pc L (st) h := by
  intro H locs ls hP hS hl
  exact lv_goto C.1.1 C.1.2.1 hd ht (kk H locs ls hP hS hl)
theorem l_tabIn {dflt lo hi : Int} {offs : Array Int} {len : Nat} {x : Int32} {off : Int} {tgt : Nat} (C : LC G p R s m args c Lx xs) (hd : decode cL_law pc = .ok (.tableswitch dflt lo hi offs, len)) (h1 : ¬ x.toInt < lo) (h2 : ¬ hi < x.toInt) (ho : offs[(x.toInt - lo).toNat]? = some off) (ht : (pc : Int) + off = (tgt : Int)) (kk : ML G p e R s m args below meth c Q cells slots tgt L (st) h) : ML G p e R s m args below meth c Q cells slots pc L (.int x :: st) h := by
  intro H locs ls hP hS hl
  exact lv_tableIn C.1.1 C.1.2.1 hd h1 h2 ho ht (kk H locs ls hP hS hl)
theorem l_tabOut {dflt lo hi : Int} {offs : Array Int} {len : Nat} {x : Int32} {tgt : Nat} (C : LC G p R s m args c Lx xs) (hd : decode cL_law pc = .ok (.tableswitch dflt lo hi offs, len)) (ho : x.toInt < lo ∨ hi < x.toInt) (ht : (pc : Int) + dflt = (tgt : Int)) (kk : ML G p e R s m args below meth c Q cells slots tgt L (st) h) : ML G p e R s m args below meth c Q cells slots pc L (.int x :: st) h := by
  intro H locs ls hP hS hl
  exact lv_tableOut C.1.1 C.1.2.1 hd ho ht (kk H locs ls hP hS hl)
theorem l_icmp_eq {x y : Int32} {off : Int} {tgt : Nat} (C : LC G p R s m args c Lx xs) (hd : decode cL_law pc = .ok (.if_icmp .eq off, 3)) (ht : (pc : Int) + off = (tgt : Int)) (kt : x = y → ML G p e R s m args below meth c Q cells slots tgt L st h) (kf : ¬ x = y → ML G p e R s m args below meth c Q cells slots (pc + 3) L st h) : ML G p e R s m args below meth c Q cells slots pc L (.int y :: .int x :: st) h := by
  intro H locs ls hP hS hl
  exact lv_icmp_eq C.1.1 C.1.2.1 hd ht (fun q => kt q H locs ls hP hS hl) (fun q => kf q H locs ls hP hS hl)
theorem l_icmp_gt {x y : Int32} {off : Int} {tgt : Nat} (C : LC G p R s m args c Lx xs) (hd : decode cL_law pc = .ok (.if_icmp .gt off, 3)) (ht : (pc : Int) + off = (tgt : Int)) (kt : y < x → ML G p e R s m args below meth c Q cells slots tgt L st h) (kf : ¬ y < x → ML G p e R s m args below meth c Q cells slots (pc + 3) L st h) : ML G p e R s m args below meth c Q cells slots pc L (.int y :: .int x :: st) h := by
  intro H locs ls hP hS hl
  exact lv_icmp_gt C.1.1 C.1.2.1 hd ht (fun q => kt q H locs ls hP hS hl) (fun q => kf q H locs ls hP hS hl)
theorem l_istore_n {j : Fin 4} {i : Nat} {x : Int32} {L' : List Value} (C : LC G p R s m args c Lx xs) (hd : decode cL_law pc = .ok (.istore_n j, 1)) (hj : (j : Nat) = i) (hn : i < 4) (hL : L.set i (.int x) = L') (kk : ML G p e R s m args below meth c Q cells slots (pc + 1) L' st h) : ML G p e R s m args below meth c Q cells slots pc L (.int x :: st) h := by
  subst hL
  intro H locs ls hP hS hl
  exact lv_istore_n C.1.1 C.1.2.1 hd hj hl hn rfl (fun ls hl => kk H locs ls hP hS (m_stored hl))
theorem l_astore_n {j : Fin 4} {i : Nat} {x : Nat} {L' : List Value} (C : LC G p R s m args c Lx xs) (hd : decode cL_law pc = .ok (.astore_n j, 1)) (hj : (j : Nat) = i) (hn : i < 4) (hL : L.set i (.ref x) = L') (kk : ML G p e R s m args below meth c Q cells slots (pc + 1) L' st h) : ML G p e R s m args below meth c Q cells slots pc L (.ref x :: st) h := by
  subst hL
  intro H locs ls hP hS hl
  exact lv_astore_n C.1.1 C.1.2.1 hd hj hl hn rfl (fun ls hl => kk H locs ls hP hS (m_stored hl))
theorem l_iinc {i : Nat} {n : Int} {x y : Int32} {L' : List Value} (C : LC G p R s m args c Lx xs) (hd : decode cL_law pc = .ok (.iinc i n, 3)) (hi : L[i]? = some (.int x)) (hv : Int32.ofInt n = y) (hn : i < 4) (hL : L.set i (.int (x + y)) = L') (kk : ML G p e R s m args below meth c Q cells slots (pc + 3) L' st h) : ML G p e R s m args below meth c Q cells slots pc L st h := by
  subst hL
  intro H locs ls hP hS hl
  have hm := m_lv_in (G := G) L 0 i _ hi (fun _ h => by cases h)
  obtain ⟨q, hq⟩ := List.getElem?_of_mem hm
  rw [Nat.zero_add] at hq
  exact lv_iinc (k := q) C.1.1 C.1.2.1 hd hl hq (by rw [hv]) hn rfl (fun ls hl => kk H locs ls hP hS (m_stored (v := .int (x + y)) hl))
/-- the script: it is the cell 1000000 -/
theorem l_sld {i : Nat} (C : LC G p R s m args c Lx xs) (hd : decode cL_law pc = .ok (.iaload, 1)) (hi : i < Lx) (hL : Lx ≤ 3584) (kk : ML G p e R s m args below meth c Q cells slots (pc + 1) L (.int (xs i) :: st) h) : ML G p e R s m args below meth c Q cells slots pc L (.int (nI i) :: .ref 1000000 :: st) h := by
  intro H locs ls hP hS hl
  refine va_sld C.1.1 C.1.2.1 C.2.2.1.1 C.2.2.1.2.1 C.2.2.1.2.2 hS (vp_in_nI hi (by omega)) hd ?_
  rw [nI_clamp (by omega)]
  exact kk H locs ls hP hS hl
theorem l_slen (C : LC G p R s m args c Lx xs) (hd : decode cL_law pc = .ok (.arraylength, 1)) (kk : ML G p e R s m args below meth c Q cells slots (pc + 1) L (.int (nI Lx) :: st) h) : ML G p e R s m args below meth c Q cells slots pc L (.ref 1000000 :: st) h := by
  intro H locs ls hP hS hl
  refine va_slen C.1.1 C.1.2.1 C.2.2.1.1 C.2.2.1.2.1 C.2.2.1.2.2 hS hd ?_
  exact kk H locs ls hP hS hl
theorem l_pre {H : Heap} {locs : List Loc} (C : LC G p R s m args c Lx xs) (hP : m_P G h H) (hS : va_S (m_A G) s.heap H locs) (av : List Value) : ∀ U : State, U.heap = H → s.WarmedH U.vm → m_Pc G av h (av.map (m_rv G)).toArray U := by
  intro U hU hW
  refine ⟨rfl, va_K.moved hW.alike C.2.1.1, ?_, by rw [hU]; exact hP⟩
  rw [hU]
  exact ⟨(C.2.1.2.1.kept (fun a h1 h2 => hS.2.1 a h1 h2)).moved hW.alike, C.2.1.2.2.warm hW⟩
theorem l_callV {M' : mM} {d' idx n ci b : Nat} {As rest : List Value} {r1 : Option Value} {h1 : mH} (C : LC G p R s m args c Lx xs) (hC : MC G M' d' 0 0 (.ref b :: As) h r1 h1) (hd : decode cL_law pc = .ok (.invokevirtual idx, 3)) (hl0 : m_LV RL idx M' n) (hs : h.1[b]? = some (.inl ci)) (hcl : m_R ci = M'.1.cls) (hn : As.length = n) (hst : As.reverse ++ .ref b :: rest = st) (hr : rest.length ≤ 8) (hdd : d' + 1 ≤ 10) (hcs : cells ≤ R.cells ∧ slots ≤ R.slots)
    (kk : ML G p e R s m args below meth c Q cells slots (pc + 3) L (r1.toList ++ rest) h1) : ML G p e R s m args below meth c Q cells slots pc L st h := by
  subst hst
  intro H locs ls hP hS hlv
  obtain ⟨⟨hcode, hini, hy, hmL, hpl⟩, hlk, hins, hsel⟩ := hl0
  have hts := C.1.2.2.2.2
  obtain ⟨hci, cellB, g1, g2, g3, -⟩ := hP.1 b _ hs
  have hcls := (C.2.1.1.1 ci _ (m_cl hci).1).2
  have hfr : 10 ≤ R.frames := C.2.2.2.1
  have hlo : 390 ≤ R.locals := C.2.2.2.2
  have cw : CallW R s args RL M'.1.cls idx M'.1 M'.2.1 M'.2.2.1 M'.2.2.2 (Cond.code M'.1 M'.2.1 M'.2.2.1 M'.2.2.2 :: m_tbl) { frames := d', cells := 0, slots := 0, locals := 39 * d' } 0 0 n :=
    ⟨callB_of n hts (m_goodIn hcode) rfl rfl rfl (hts _ hini) (hts _ hlk) hy ⟨by show d' + 1 ≤ R.frames; omega, by show 8 + (M'.2.2.1 + 11) + 39 * d' ≤ R.locals; omega⟩, hts _ hins, hts _ hsel⟩
  refine m_go (mc := 0) (ms := 0) (rest := rest) (r1 := r1) (h1 := h1) (va_runV (As := As.map (m_rv G)) (b := m_ad G b) ⟨C.1.1, C.1.2.1, C.1.2.2.1, C.1.2.2.2.1, hts⟩ hC cw ⟨m_blind G _ _, ⟨cellB, g1, by rw [g3]; rfl, by rw [← hcl, g2]; exact hcls.1⟩, l_pre C hP hS (.ref b :: As)⟩ rfl (by rw [List.length_map]; exact hn) hlv.1 (by show List.map _ _ = _; rw [List.map_append, List.map_reverse]; rfl) (lv_room (by rw [m_sum]; exact hr)) hd ⟨by omega, by omega⟩) hS ?_
  intro H1 locs1 hP1 hS1
  exact kk H1 locs1 ls hP1 hS1 hlv
theorem l_callI {M' : mM} {d' mc ms idx n b : Nat} {As rest : List Value} {r1 : Option Value} {h1 : mH} (C : LC G p R s m args c Lx xs) (hC : MC G M' d' mc ms (.ref b :: As) h r1 h1) (hd : decode cL_law pc = .ok (.invokespecial idx, 3)) (hl0 : m_LI RL idx M' n) (hlk : Cond.methodLink RL idx M'.1 ∈ m_tbl) (hn : As.length = n) (hst : As.reverse ++ .ref b :: rest = st) (hr : rest.length ≤ 8) (hdd : d' + 1 ≤ 10) (hcs : cells + mc ≤ R.cells ∧ slots + ms ≤ R.slots)
    (kk : ML G p e R s m args below meth c Q (cells + mc) (slots + ms) (pc + 3) L (r1.toList ++ rest) h1) : ML G p e R s m args below meth c Q cells slots pc L st h := by
  subst hst
  intro H locs ls hP hS hlv
  obtain ⟨⟨hcode, hini, hy, hmL, hpl⟩, hnm, hret, hins, -⟩ := hl0
  have hts := C.1.2.2.2.2
  have hfr : 10 ≤ R.frames := C.2.2.2.1
  have hlo : 390 ≤ R.locals := C.2.2.2.2
  rw [hret] at hcode
  unfold MC at hC
  rw [hret] at hC
  have hRm : ({ frames := d', cells := mc, slots := ms, locals := 39 * d' } : Room).frames + 1 ≤ R.frames ∧ 8 + (M'.2.2.1 + 11) + ({ frames := d', cells := mc, slots := ms, locals := 39 * d' } : Room).locals ≤ R.locals := ⟨by show d' + 1 ≤ R.frames; omega, by show 8 + (M'.2.2.1 + 11) + 39 * d' ≤ R.locals; omega⟩
  refine m_go (mc := mc) (ms := ms) (rest := rest) (r1 := r1) (h1 := h1) (va_runI (As := As.map (m_rv G)) (b := m_ad G b) ⟨C.1.1, C.1.2.1, C.1.2.2.1, C.1.2.2.2.1, hts⟩ hC (cwI n hts (m_goodIn hcode) rfl rfl rfl (hts _ hini) (hts _ hlk) (hts _ hins) hnm hy hRm) ⟨m_blind G _ _, l_pre C hP hS (.ref b :: As)⟩ rfl (by rw [List.length_map]; exact hn) hlv.1 (by show List.map _ _ = _; rw [List.map_append, List.map_reverse]; rfl) (lv_room (by rw [m_sum]; exact hr)) hd ⟨by omega, by omega⟩) hS ?_
  intro H1 locs1 hP1 hS1
  exact kk H1 locs1 ls hP1 hS1 hlv
theorem l_new {idx ci : Nat} (C : LC G p R s m args c Lx xs) (hd : decode cL_law pc = .ok (.new idx, 3)) (hci : ci < 8) (h1 : Cond.classLink RL idx (m_R ci) ∈ m_tbl) (h2 : Cond.instantiable (m_R ci) (m_nF ci) ∈ m_tbl) (h3 : Cond.initialized (m_R ci) ∈ m_tbl) (hlen : h.1.length + 1 ≤ 1000) (hcs : cells + 1 ≤ R.cells ∧ slots + m_nF ci ≤ R.slots) (kk : ML G p e R s m args below meth c Q (cells + 1) (slots + m_nF ci) (pc + 3) L (.ref h.1.length :: st) (m_new h (.inl ci))) : ML G p e R s m args below meth c Q cells slots pc L st h := by
  intro H locs ls hP hS hl
  have hts := C.1.2.2.2.2
  obtain ⟨hc, hin, hty, hnm⟩ := m_cl hci
  have hKn := C.2.1.1.1 ci _ hc
  refine W.newcK (n := m_nF ci) C.1.1 C.1.2.1 C.1.2.2.2.1 (hts _ h1) (hts _ h2) (hts _ h3) rfl hd hcs.1 hcs.2 hKn.2.1 rfl fun H1 kC hkC e1 z1 o1 => ?_
  have hat : m_at G (.inl ci) (fun _ => 0) (fun _ => none) h.1.length H1 := by
    refine ⟨hci, ?_⟩
    rw [hP.next hlen]
    exact (u_born (m_ty ci) hts hin hKn hkC e1 hty).to (fun k hk => m_dflt hci hk)
  have h9 := kk H1 locs ls (hP.push hlen z1 o1 hat) (hS.grow z1 o1) hl
  rw [← hP.next hlen]
  exact h9
/-- an item of the script, pushed -/
theorem l_arg {k i : Nat} {n : Int} {j3 j0 : Fin 4} (C : LC G p R s m args c Lx xs) (hL : Lx ≤ 3584) (hi : i + 7 ≤ Lx) (hk : k < 7) (d0 : decode cL_law pc = .ok (.aload_n j0, 1)) (e0 : (j0 : Nat) = 0) (d1 : decode cL_law (pc + 1) = .ok (.iload_n j3, 1)) (e3 : (j3 : Nat) = 3) (d2 : decode cL_law (pc + 2) = .ok (.iconst n, 1)) (hn : Int32.ofInt n = nI k) (d3 : decode cL_law (pc + 3) = .ok (.iadd, 1)) (d4 : decode cL_law (pc + 4) = .ok (.iaload, 1)) (kk : ML G p e R s m args below meth c Q cells slots (pc + 5) [.ref 1000000, .ref 0, .ref 64, .int (nI i)] (.int (xs (i + k)) :: st) h) : ML G p e R s m args below meth c Q cells slots pc [.ref 1000000, .ref 0, .ref 64, .int (nI i)] st h := by
  refine l_aload_n C d0 e0 rfl ?_
  refine l_iload_n C d1 e3 rfl ?_
  refine l_iconst C d2 hn ?_
  refine l_iadd C d3 ?_
  rw [nI_add]
  exact l_sld C d4 (by omega) hL kk
theorem l_arg6 {k i : Nat} {n : Int} {j3 j0 : Fin 4} (C : LC G p R s m args c Lx xs) (hL : Lx ≤ 3584) (hi : i + 7 ≤ Lx) (hk : k < 7) (d0 : decode cL_law pc = .ok (.aload_n j0, 1)) (e0 : (j0 : Nat) = 0) (d1 : decode cL_law (pc + 1) = .ok (.iload_n j3, 1)) (e3 : (j3 : Nat) = 3) (d2 : decode cL_law (pc + 2) = .ok (.bipush n, 2)) (hn : (Int8.ofInt n).toInt32 = nI k) (d3 : decode cL_law (pc + 4) = .ok (.iadd, 1)) (d4 : decode cL_law (pc + 5) = .ok (.iaload, 1)) (kk : ML G p e R s m args below meth c Q cells slots (pc + 6) [.ref 1000000, .ref 0, .ref 64, .int (nI i)] (.int (xs (i + k)) :: st) h) : ML G p e R s m args below meth c Q cells slots pc [.ref 1000000, .ref 0, .ref 64, .int (nI i)] st h := by
  refine l_aload_n C d0 e0 rfl ?_
  refine l_iload_n C d1 e3 rfl ?_
  refine l_bipush C d2 hn ?_
  refine l_iadd C d3 ?_
  rw [nI_add]
  exact l_sld C d4 (by omega) hL kk
end LW
