/-! ===== rows of the small machine: stack, locals, numbers, branches (written by wip/whole/mkrules.py) ===== -/
theorem r_iconst {G : mG} {M : mM} {d rc rs pc : Nat} {L st : List Value} {h h' : mH} {r : Option Value} {n : Int} {x : Int32} (hd : decode M.2.1 pc = .ok (.iconst n, 1)) (hv : Int32.ofInt n = x) (k : MW G M d rc rs (pc + 1) L (.int x :: st) h r h') : MW G M d rc rs pc L (st) h r h' := by
  intro p e R s m args below meth c H locs cells slots Q ls cx hP hS hl hc1 hc2 fin
  exact lv_iconst cx.1 cx.2.1 hd hv (k p e R s m args below meth c H locs cells slots Q ls cx hP hS hl hc1 hc2 fin)
theorem r_bipush {G : mG} {M : mM} {d rc rs pc : Nat} {L st : List Value} {h h' : mH} {r : Option Value} {n : Int} {x : Int32} (hd : decode M.2.1 pc = .ok (.bipush n, 2)) (hv : (Int8.ofInt n).toInt32 = x) (k : MW G M d rc rs (pc + 2) L (.int x :: st) h r h') : MW G M d rc rs pc L (st) h r h' := by
  intro p e R s m args below meth c H locs cells slots Q ls cx hP hS hl hc1 hc2 fin
  exact lv_bipush cx.1 cx.2.1 hd hv (k p e R s m args below meth c H locs cells slots Q ls cx hP hS hl hc1 hc2 fin)
theorem r_sipush {G : mG} {M : mM} {d rc rs pc : Nat} {L st : List Value} {h h' : mH} {r : Option Value} {n : Int} {x : Int32} (hd : decode M.2.1 pc = .ok (.sipush n, 3)) (hv : (Int16.ofInt n).toInt32 = x) (k : MW G M d rc rs (pc + 3) L (.int x :: st) h r h') : MW G M d rc rs pc L (st) h r h' := by
  intro p e R s m args below meth c H locs cells slots Q ls cx hP hS hl hc1 hc2 fin
  exact lv_sipush cx.1 cx.2.1 hd hv (k p e R s m args below meth c H locs cells slots Q ls cx hP hS hl hc1 hc2 fin)
theorem r_null {G : mG} {M : mM} {d rc rs pc : Nat} {L st : List Value} {h h' : mH} {r : Option Value} (hd : decode M.2.1 pc = .ok (.aconst_null, 1)) (k : MW G M d rc rs (pc + 1) L (.null :: st) h r h') : MW G M d rc rs pc L (st) h r h' := by
  intro p e R s m args below meth c H locs cells slots Q ls cx hP hS hl hc1 hc2 fin
  exact lv_null cx.1 cx.2.1 hd (k p e R s m args below meth c H locs cells slots Q ls cx hP hS hl hc1 hc2 fin)
theorem r_ldc {G : mG} {M : mM} {d rc rs pc : Nat} {L st : List Value} {h h' : mH} {r : Option Value} {i : Nat} {x : Int32} (hd : decode M.2.1 pc = .ok (.ldc i, 2)) (hw : Cond.constant M.1.cls i x ∈ m_tbl) (k : MW G M d rc rs (pc + 2) L (.int x :: st) h r h') : MW G M d rc rs pc L (st) h r h' := by
  intro p e R s m args below meth c H locs cells slots Q ls cx hP hS hl hc1 hc2 fin
  exact lv_ldc cx.1 cx.2.1 cx.2.2.2.1 (cx.2.2.2.2.1 _ hw) hd (k p e R s m args below meth c H locs cells slots Q ls cx hP hS hl hc1 hc2 fin)
theorem r_iload {G : mG} {M : mM} {d rc rs pc : Nat} {L st : List Value} {h h' : mH} {r : Option Value} {i : Nat} {x : Int32} (hd : decode M.2.1 pc = .ok (.iload i, 2)) (hi : L[i]? = some (.int x)) (k : MW G M d rc rs (pc + 2) L (.int x :: st) h r h') : MW G M d rc rs pc L (st) h r h' := by
  intro p e R s m args below meth c H locs cells slots Q ls cx hP hS hl hc1 hc2 fin
  exact lv_iload cx.1 cx.2.1 hd (m_get hl hi (fun _ h => by cases h)) (k p e R s m args below meth c H locs cells slots Q ls cx hP hS hl hc1 hc2 fin)
theorem r_iload_n {G : mG} {M : mM} {d rc rs pc : Nat} {L st : List Value} {h h' : mH} {r : Option Value} {j : Fin 4} {i : Nat} {x : Int32} (hd : decode M.2.1 pc = .ok (.iload_n j, 1)) (hj : (j : Nat) = i) (hi : L[i]? = some (.int x)) (k : MW G M d rc rs (pc + 1) L (.int x :: st) h r h') : MW G M d rc rs pc L (st) h r h' := by
  intro p e R s m args below meth c H locs cells slots Q ls cx hP hS hl hc1 hc2 fin
  exact lv_iload_n cx.1 cx.2.1 hd hj (m_get hl hi (fun _ h => by cases h)) (k p e R s m args below meth c H locs cells slots Q ls cx hP hS hl hc1 hc2 fin)
theorem r_aload {G : mG} {M : mM} {d rc rs pc : Nat} {L st : List Value} {h h' : mH} {r : Option Value} {i a : Nat} (hd : decode M.2.1 pc = .ok (.aload i, 2)) (hi : L[i]? = some (.ref a)) (k : MW G M d rc rs (pc + 2) L (.ref a :: st) h r h') : MW G M d rc rs pc L (st) h r h' := by
  intro p e R s m args below meth c H locs cells slots Q ls cx hP hS hl hc1 hc2 fin
  exact lv_aload cx.1 cx.2.1 hd (m_get hl hi (fun _ h => by cases h)) (k p e R s m args below meth c H locs cells slots Q ls cx hP hS hl hc1 hc2 fin)
theorem r_aload_n {G : mG} {M : mM} {d rc rs pc : Nat} {L st : List Value} {h h' : mH} {r : Option Value} {j : Fin 4} {i a : Nat} (hd : decode M.2.1 pc = .ok (.aload_n j, 1)) (hj : (j : Nat) = i) (hi : L[i]? = some (.ref a)) (k : MW G M d rc rs (pc + 1) L (.ref a :: st) h r h') : MW G M d rc rs pc L (st) h r h' := by
  intro p e R s m args below meth c H locs cells slots Q ls cx hP hS hl hc1 hc2 fin
  exact lv_aload_n cx.1 cx.2.1 hd hj (m_get hl hi (fun _ h => by cases h)) (k p e R s m args below meth c H locs cells slots Q ls cx hP hS hl hc1 hc2 fin)
theorem r_aloadN {G : mG} {M : mM} {d rc rs pc : Nat} {L st : List Value} {h h' : mH} {r : Option Value} {i : Nat} (hd : decode M.2.1 pc = .ok (.aload i, 2)) (hi : L[i]? = some .null) (k : MW G M d rc rs (pc + 2) L (.null :: st) h r h') : MW G M d rc rs pc L (st) h r h' := by
  intro p e R s m args below meth c H locs cells slots Q ls cx hP hS hl hc1 hc2 fin
  exact lv_aloadN cx.1 cx.2.1 hd (m_get hl hi (fun _ h => by cases h)) (k p e R s m args below meth c H locs cells slots Q ls cx hP hS hl hc1 hc2 fin)
theorem r_aload_nN {G : mG} {M : mM} {d rc rs pc : Nat} {L st : List Value} {h h' : mH} {r : Option Value} {j : Fin 4} {i : Nat} (hd : decode M.2.1 pc = .ok (.aload_n j, 1)) (hj : (j : Nat) = i) (hi : L[i]? = some .null) (k : MW G M d rc rs (pc + 1) L (.null :: st) h r h') : MW G M d rc rs pc L (st) h r h' := by
  intro p e R s m args below meth c H locs cells slots Q ls cx hP hS hl hc1 hc2 fin
  exact lv_aload_nN cx.1 cx.2.1 hd hj (m_get hl hi (fun _ h => by cases h)) (k p e R s m args below meth c H locs cells slots Q ls cx hP hS hl hc1 hc2 fin)
theorem r_istore {G : mG} {M : mM} {d rc rs pc : Nat} {L st : List Value} {h h' : mH} {r : Option Value} {i : Nat} {x : Int32} {L' : List Value} (hd : decode M.2.1 pc = .ok (.istore i, 2)) (hn : i < M.2.2.1) (hL : L.set i (.int x) = L') (k : MW G M d rc rs (pc + 2) L' st h r h') : MW G M d rc rs pc L (.int x :: st) h r h' := by
  subst hL
  intro p e R s m args below meth c H locs cells slots Q ls cx hP hS hl hc1 hc2 fin
  exact lv_istore cx.1 cx.2.1 hd hl hn rfl (fun ls hl => k p e R s m args below meth c H locs cells slots Q ls cx hP hS (m_stored hl) hc1 hc2 fin)
theorem r_astore {G : mG} {M : mM} {d rc rs pc : Nat} {L st : List Value} {h h' : mH} {r : Option Value} {i : Nat} {x : Nat} {L' : List Value} (hd : decode M.2.1 pc = .ok (.astore i, 2)) (hn : i < M.2.2.1) (hL : L.set i (.ref x) = L') (k : MW G M d rc rs (pc + 2) L' st h r h') : MW G M d rc rs pc L (.ref x :: st) h r h' := by
  subst hL
  intro p e R s m args below meth c H locs cells slots Q ls cx hP hS hl hc1 hc2 fin
  exact lv_astore cx.1 cx.2.1 hd hl hn rfl (fun ls hl => k p e R s m args below meth c H locs cells slots Q ls cx hP hS (m_stored hl) hc1 hc2 fin)
theorem r_astoreN {G : mG} {M : mM} {d rc rs pc : Nat} {L st : List Value} {h h' : mH} {r : Option Value} {i : Nat} {L' : List Value} (hd : decode M.2.1 pc = .ok (.astore i, 2)) (hn : i < M.2.2.1) (hL : L.set i (.null) = L') (k : MW G M d rc rs (pc + 2) L' st h r h') : MW G M d rc rs pc L (.null :: st) h r h' := by
  subst hL
  intro p e R s m args below meth c H locs cells slots Q ls cx hP hS hl hc1 hc2 fin
  exact lv_astoreN cx.1 cx.2.1 hd hl hn rfl (fun ls hl => k p e R s m args below meth c H locs cells slots Q ls cx hP hS (m_stored hl) hc1 hc2 fin)
theorem r_istore_n {G : mG} {M : mM} {d rc rs pc : Nat} {L st : List Value} {h h' : mH} {r : Option Value} {j : Fin 4} {i : Nat} {x : Int32} {L' : List Value} (hd : decode M.2.1 pc = .ok (.istore_n j, 1)) (hj : (j : Nat) = i) (hn : i < M.2.2.1) (hL : L.set i (.int x) = L') (k : MW G M d rc rs (pc + 1) L' st h r h') : MW G M d rc rs pc L (.int x :: st) h r h' := by
  subst hL
  intro p e R s m args below meth c H locs cells slots Q ls cx hP hS hl hc1 hc2 fin
  exact lv_istore_n cx.1 cx.2.1 hd hj hl hn rfl (fun ls hl => k p e R s m args below meth c H locs cells slots Q ls cx hP hS (m_stored hl) hc1 hc2 fin)
theorem r_astore_n {G : mG} {M : mM} {d rc rs pc : Nat} {L st : List Value} {h h' : mH} {r : Option Value} {j : Fin 4} {i : Nat} {x : Nat} {L' : List Value} (hd : decode M.2.1 pc = .ok (.astore_n j, 1)) (hj : (j : Nat) = i) (hn : i < M.2.2.1) (hL : L.set i (.ref x) = L') (k : MW G M d rc rs (pc + 1) L' st h r h') : MW G M d rc rs pc L (.ref x :: st) h r h' := by
  subst hL
  intro p e R s m args below meth c H locs cells slots Q ls cx hP hS hl hc1 hc2 fin
  exact lv_astore_n cx.1 cx.2.1 hd hj hl hn rfl (fun ls hl => k p e R s m args below meth c H locs cells slots Q ls cx hP hS (m_stored hl) hc1 hc2 fin)
theorem r_astore_nN {G : mG} {M : mM} {d rc rs pc : Nat} {L st : List Value} {h h' : mH} {r : Option Value} {j : Fin 4} {i : Nat} {L' : List Value} (hd : decode M.2.1 pc = .ok (.astore_n j, 1)) (hj : (j : Nat) = i) (hn : i < M.2.2.1) (hL : L.set i (.null) = L') (k : MW G M d rc rs (pc + 1) L' st h r h') : MW G M d rc rs pc L (.null :: st) h r h' := by
  subst hL
  intro p e R s m args below meth c H locs cells slots Q ls cx hP hS hl hc1 hc2 fin
  exact lv_astore_nN cx.1 cx.2.1 hd hj hl hn rfl (fun ls hl => k p e R s m args below meth c H locs cells slots Q ls cx hP hS (m_stored hl) hc1 hc2 fin)
theorem r_iadd {G : mG} {M : mM} {d rc rs pc : Nat} {L st : List Value} {h h' : mH} {r : Option Value} {x y : Int32} (hd : decode M.2.1 pc = .ok (.iadd, 1)) (k : MW G M d rc rs (pc + 1) L (.int (x + y) :: st) h r h') : MW G M d rc rs pc L (.int y :: .int x :: st) h r h' := by
  intro p e R s m args below meth c H locs cells slots Q ls cx hP hS hl hc1 hc2 fin
  exact lv_iadd cx.1 cx.2.1 hd (k p e R s m args below meth c H locs cells slots Q ls cx hP hS hl hc1 hc2 fin)
theorem r_isub {G : mG} {M : mM} {d rc rs pc : Nat} {L st : List Value} {h h' : mH} {r : Option Value} {x y : Int32} (hd : decode M.2.1 pc = .ok (.isub, 1)) (k : MW G M d rc rs (pc + 1) L (.int (x - y) :: st) h r h') : MW G M d rc rs pc L (.int y :: .int x :: st) h r h' := by
  intro p e R s m args below meth c H locs cells slots Q ls cx hP hS hl hc1 hc2 fin
  exact lv_isub cx.1 cx.2.1 hd (k p e R s m args below meth c H locs cells slots Q ls cx hP hS hl hc1 hc2 fin)
theorem r_imul {G : mG} {M : mM} {d rc rs pc : Nat} {L st : List Value} {h h' : mH} {r : Option Value} {x y : Int32} (hd : decode M.2.1 pc = .ok (.imul, 1)) (k : MW G M d rc rs (pc + 1) L (.int (x * y) :: st) h r h') : MW G M d rc rs pc L (.int y :: .int x :: st) h r h' := by
  intro p e R s m args below meth c H locs cells slots Q ls cx hP hS hl hc1 hc2 fin
  exact lv_imul cx.1 cx.2.1 hd (k p e R s m args below meth c H locs cells slots Q ls cx hP hS hl hc1 hc2 fin)
theorem r_iand {G : mG} {M : mM} {d rc rs pc : Nat} {L st : List Value} {h h' : mH} {r : Option Value} {x y : Int32} (hd : decode M.2.1 pc = .ok (.iand, 1)) (k : MW G M d rc rs (pc + 1) L (.int (x &&& y) :: st) h r h') : MW G M d rc rs pc L (.int y :: .int x :: st) h r h' := by
  intro p e R s m args below meth c H locs cells slots Q ls cx hP hS hl hc1 hc2 fin
  exact lv_iand cx.1 cx.2.1 hd (k p e R s m args below meth c H locs cells slots Q ls cx hP hS hl hc1 hc2 fin)
theorem r_ior {G : mG} {M : mM} {d rc rs pc : Nat} {L st : List Value} {h h' : mH} {r : Option Value} {x y : Int32} (hd : decode M.2.1 pc = .ok (.ior, 1)) (k : MW G M d rc rs (pc + 1) L (.int (x ||| y) :: st) h r h') : MW G M d rc rs pc L (.int y :: .int x :: st) h r h' := by
  intro p e R s m args below meth c H locs cells slots Q ls cx hP hS hl hc1 hc2 fin
  exact lv_ior cx.1 cx.2.1 hd (k p e R s m args below meth c H locs cells slots Q ls cx hP hS hl hc1 hc2 fin)
theorem r_ixor {G : mG} {M : mM} {d rc rs pc : Nat} {L st : List Value} {h h' : mH} {r : Option Value} {x y : Int32} (hd : decode M.2.1 pc = .ok (.ixor, 1)) (k : MW G M d rc rs (pc + 1) L (.int (x ^^^ y) :: st) h r h') : MW G M d rc rs pc L (.int y :: .int x :: st) h r h' := by
  intro p e R s m args below meth c H locs cells slots Q ls cx hP hS hl hc1 hc2 fin
  exact lv_ixor cx.1 cx.2.1 hd (k p e R s m args below meth c H locs cells slots Q ls cx hP hS hl hc1 hc2 fin)
theorem r_ishl {G : mG} {M : mM} {d rc rs pc : Nat} {L st : List Value} {h h' : mH} {r : Option Value} {x y : Int32} (hd : decode M.2.1 pc = .ok (.ishl, 1)) (k : MW G M d rc rs (pc + 1) L (.int (x <<< (y &&& 31)) :: st) h r h') : MW G M d rc rs pc L (.int y :: .int x :: st) h r h' := by
  intro p e R s m args below meth c H locs cells slots Q ls cx hP hS hl hc1 hc2 fin
  exact lv_ishl cx.1 cx.2.1 hd (k p e R s m args below meth c H locs cells slots Q ls cx hP hS hl hc1 hc2 fin)
theorem r_ishr {G : mG} {M : mM} {d rc rs pc : Nat} {L st : List Value} {h h' : mH} {r : Option Value} {x y : Int32} (hd : decode M.2.1 pc = .ok (.ishr, 1)) (k : MW G M d rc rs (pc + 1) L (.int (x >>> (y &&& 31)) :: st) h r h') : MW G M d rc rs pc L (.int y :: .int x :: st) h r h' := by
  intro p e R s m args below meth c H locs cells slots Q ls cx hP hS hl hc1 hc2 fin
  exact lv_ishr cx.1 cx.2.1 hd (k p e R s m args below meth c H locs cells slots Q ls cx hP hS hl hc1 hc2 fin)
theorem r_idiv {G : mG} {M : mM} {d rc rs pc : Nat} {L st : List Value} {h h' : mH} {r : Option Value} {x y : Int32} (hd : decode M.2.1 pc = .ok (.idiv, 1)) (hne : ¬ y = 0) (k : MW G M d rc rs (pc + 1) L (.int (x / y) :: st) h r h') : MW G M d rc rs pc L (.int y :: .int x :: st) h r h' := by
  intro p e R s m args below meth c H locs cells slots Q ls cx hP hS hl hc1 hc2 fin
  exact lv_idiv cx.1 cx.2.1 hd hne (k p e R s m args below meth c H locs cells slots Q ls cx hP hS hl hc1 hc2 fin)
theorem r_irem {G : mG} {M : mM} {d rc rs pc : Nat} {L st : List Value} {h h' : mH} {r : Option Value} {x y : Int32} (hd : decode M.2.1 pc = .ok (.irem, 1)) (hne : ¬ y = 0) (k : MW G M d rc rs (pc + 1) L (.int (x - x / y * y) :: st) h r h') : MW G M d rc rs pc L (.int y :: .int x :: st) h r h' := by
  intro p e R s m args below meth c H locs cells slots Q ls cx hP hS hl hc1 hc2 fin
  exact lv_irem cx.1 cx.2.1 hd hne (k p e R s m args below meth c H locs cells slots Q ls cx hP hS hl hc1 hc2 fin)
theorem r_ineg {G : mG} {M : mM} {d rc rs pc : Nat} {L st : List Value} {h h' : mH} {r : Option Value} {x : Int32} (hd : decode M.2.1 pc = .ok (.ineg, 1)) (k : MW G M d rc rs (pc + 1) L (.int (-x) :: st) h r h') : MW G M d rc rs pc L (.int x :: st) h r h' := by
  intro p e R s m args below meth c H locs cells slots Q ls cx hP hS hl hc1 hc2 fin
  exact lv_ineg cx.1 cx.2.1 hd (k p e R s m args below meth c H locs cells slots Q ls cx hP hS hl hc1 hc2 fin)
theorem r_dup {G : mG} {M : mM} {d rc rs pc : Nat} {L st : List Value} {h h' : mH} {r : Option Value} {v : Value} (hd : decode M.2.1 pc = .ok (.dup, 1)) (k : MW G M d rc rs (pc + 1) L (v :: v :: st) h r h') : MW G M d rc rs pc L (v :: st) h r h' := by
  intro p e R s m args below meth c H locs cells slots Q ls cx hP hS hl hc1 hc2 fin
  exact lv_dup cx.1 cx.2.1 hd (m_rv_c1 G v) (k p e R s m args below meth c H locs cells slots Q ls cx hP hS hl hc1 hc2 fin)
theorem r_dup2 {G : mG} {M : mM} {d rc rs pc : Nat} {L st : List Value} {h h' : mH} {r : Option Value} {v w : Value} (hd : decode M.2.1 pc = .ok (.dup2, 1)) (k : MW G M d rc rs (pc + 1) L (v :: w :: v :: w :: st) h r h') : MW G M d rc rs pc L (v :: w :: st) h r h' := by
  intro p e R s m args below meth c H locs cells slots Q ls cx hP hS hl hc1 hc2 fin
  exact lv_dup2_11 cx.1 cx.2.1 hd (m_rv_c1 G v) (m_rv_c1 G w) (k p e R s m args below meth c H locs cells slots Q ls cx hP hS hl hc1 hc2 fin)
theorem r_goto {G : mG} {M : mM} {d rc rs pc : Nat} {L st : List Value} {h h' : mH} {r : Option Value} {off : Int} {tgt : Nat} (hd : decode M.2.1 pc = .ok (.goto off, 3)) (ht : (pc : Int) + off = (tgt : Int)) (k : MW G M d rc rs tgt L (st) h r h') : MW G M d rc rs pc L (st) h r h' := by
  intro p e R s m args below meth c H locs cells slots Q ls cx hP hS hl hc1 hc2 fin
  exact lv_goto cx.1 cx.2.1 hd ht (k p e R s m args below meth c H locs cells slots Q ls cx hP hS hl hc1 hc2 fin)
theorem r_iinc {G : mG} {M : mM} {d rc rs pc : Nat} {L st : List Value} {h h' : mH} {r : Option Value} {i : Nat} {n : Int} {x y : Int32} {L' : List Value} (hd : decode M.2.1 pc = .ok (.iinc i n, 3)) (hi : L[i]? = some (.int x)) (hv : Int32.ofInt n = y) (hn : i < M.2.2.1) (hL : L.set i (.int (x + y)) = L') (k : MW G M d rc rs (pc + 3) L' st h r h') : MW G M d rc rs pc L st h r h' := by
  subst hL
  intro p e R s m args below meth c H locs cells slots Q ls cx hP hS hl hc1 hc2 fin
  have hm := m_lv_in (G := G) L 0 i _ hi (fun _ h => by cases h)
  obtain ⟨q, hq⟩ := List.getElem?_of_mem hm
  rw [Nat.zero_add] at hq
  exact lv_iinc (k := q) cx.1 cx.2.1 hd hl hq (by rw [hv]) hn rfl (fun ls hl => k p e R s m args below meth c H locs cells slots Q ls cx hP hS (m_stored (v := .int (x + y)) hl) hc1 hc2 fin)
theorem r_icmp_eq {G : mG} {M : mM} {d rc rs pc : Nat} {L st : List Value} {h h' : mH} {r : Option Value} {x y : Int32} {off : Int} {tgt : Nat} (hd : decode M.2.1 pc = .ok (.if_icmp .eq off, 3)) (ht : (pc : Int) + off = (tgt : Int)) (kt : x = y → MW G M d rc rs tgt L st h r h') (kf : ¬ x = y → MW G M d rc rs (pc + 3) L st h r h') : MW G M d rc rs pc L (.int y :: .int x :: st) h r h' := by
  intro p e R s m args below meth c H locs cells slots Q ls cx hP hS hl hc1 hc2 fin
  exact lv_icmp_eq cx.1 cx.2.1 hd ht (fun q => kt q p e R s m args below meth c H locs cells slots Q ls cx hP hS hl hc1 hc2 fin) (fun q => kf q p e R s m args below meth c H locs cells slots Q ls cx hP hS hl hc1 hc2 fin)
theorem r_if_eq {G : mG} {M : mM} {d rc rs pc : Nat} {L st : List Value} {h h' : mH} {r : Option Value} {x : Int32} {off : Int} {tgt : Nat} (hd : decode M.2.1 pc = .ok (.ifCond .eq off, 3)) (ht : (pc : Int) + off = (tgt : Int)) (kt : x = 0 → MW G M d rc rs tgt L st h r h') (kf : ¬ x = 0 → MW G M d rc rs (pc + 3) L st h r h') : MW G M d rc rs pc L (.int x :: st) h r h' := by
  intro p e R s m args below meth c H locs cells slots Q ls cx hP hS hl hc1 hc2 fin
  exact lv_if_eq cx.1 cx.2.1 hd ht (fun q => kt q p e R s m args below meth c H locs cells slots Q ls cx hP hS hl hc1 hc2 fin) (fun q => kf q p e R s m args below meth c H locs cells slots Q ls cx hP hS hl hc1 hc2 fin)
theorem r_icmp_ne {G : mG} {M : mM} {d rc rs pc : Nat} {L st : List Value} {h h' : mH} {r : Option Value} {x y : Int32} {off : Int} {tgt : Nat} (hd : decode M.2.1 pc = .ok (.if_icmp .ne off, 3)) (ht : (pc : Int) + off = (tgt : Int)) (kt : ¬ x = y → MW G M d rc rs tgt L st h r h') (kf : x = y → MW G M d rc rs (pc + 3) L st h r h') : MW G M d rc rs pc L (.int y :: .int x :: st) h r h' := by
  intro p e R s m args below meth c H locs cells slots Q ls cx hP hS hl hc1 hc2 fin
  exact lv_icmp_ne cx.1 cx.2.1 hd ht (fun q => kt q p e R s m args below meth c H locs cells slots Q ls cx hP hS hl hc1 hc2 fin) (fun q => kf q p e R s m args below meth c H locs cells slots Q ls cx hP hS hl hc1 hc2 fin)
theorem r_if_ne {G : mG} {M : mM} {d rc rs pc : Nat} {L st : List Value} {h h' : mH} {r : Option Value} {x : Int32} {off : Int} {tgt : Nat} (hd : decode M.2.1 pc = .ok (.ifCond .ne off, 3)) (ht : (pc : Int) + off = (tgt : Int)) (kt : ¬ x = 0 → MW G M d rc rs tgt L st h r h') (kf : x = 0 → MW G M d rc rs (pc + 3) L st h r h') : MW G M d rc rs pc L (.int x :: st) h r h' := by
  intro p e R s m args below meth c H locs cells slots Q ls cx hP hS hl hc1 hc2 fin
  exact lv_if_ne cx.1 cx.2.1 hd ht (fun q => kt q p e R s m args below meth c H locs cells slots Q ls cx hP hS hl hc1 hc2 fin) (fun q => kf q p e R s m args below meth c H locs cells slots Q ls cx hP hS hl hc1 hc2 fin)
theorem r_icmp_lt {G : mG} {M : mM} {d rc rs pc : Nat} {L st : List Value} {h h' : mH} {r : Option Value} {x y : Int32} {off : Int} {tgt : Nat} (hd : decode M.2.1 pc = .ok (.if_icmp .lt off, 3)) (ht : (pc : Int) + off = (tgt : Int)) (kt : x < y → MW G M d rc rs tgt L st h r h') (kf : ¬ x < y → MW G M d rc rs (pc + 3) L st h r h') : MW G M d rc rs pc L (.int y :: .int x :: st) h r h' := by
  intro p e R s m args below meth c H locs cells slots Q ls cx hP hS hl hc1 hc2 fin
  exact lv_icmp_lt cx.1 cx.2.1 hd ht (fun q => kt q p e R s m args below meth c H locs cells slots Q ls cx hP hS hl hc1 hc2 fin) (fun q => kf q p e R s m args below meth c H locs cells slots Q ls cx hP hS hl hc1 hc2 fin)
theorem r_if_lt {G : mG} {M : mM} {d rc rs pc : Nat} {L st : List Value} {h h' : mH} {r : Option Value} {x : Int32} {off : Int} {tgt : Nat} (hd : decode M.2.1 pc = .ok (.ifCond .lt off, 3)) (ht : (pc : Int) + off = (tgt : Int)) (kt : x < 0 → MW G M d rc rs tgt L st h r h') (kf : ¬ x < 0 → MW G M d rc rs (pc + 3) L st h r h') : MW G M d rc rs pc L (.int x :: st) h r h' := by
  intro p e R s m args below meth c H locs cells slots Q ls cx hP hS hl hc1 hc2 fin
  exact lv_if_lt cx.1 cx.2.1 hd ht (fun q => kt q p e R s m args below meth c H locs cells slots Q ls cx hP hS hl hc1 hc2 fin) (fun q => kf q p e R s m args below meth c H locs cells slots Q ls cx hP hS hl hc1 hc2 fin)
theorem r_icmp_ge {G : mG} {M : mM} {d rc rs pc : Nat} {L st : List Value} {h h' : mH} {r : Option Value} {x y : Int32} {off : Int} {tgt : Nat} (hd : decode M.2.1 pc = .ok (.if_icmp .ge off, 3)) (ht : (pc : Int) + off = (tgt : Int)) (kt : y ≤ x → MW G M d rc rs tgt L st h r h') (kf : ¬ y ≤ x → MW G M d rc rs (pc + 3) L st h r h') : MW G M d rc rs pc L (.int y :: .int x :: st) h r h' := by
  intro p e R s m args below meth c H locs cells slots Q ls cx hP hS hl hc1 hc2 fin
  exact lv_icmp_ge cx.1 cx.2.1 hd ht (fun q => kt q p e R s m args below meth c H locs cells slots Q ls cx hP hS hl hc1 hc2 fin) (fun q => kf q p e R s m args below meth c H locs cells slots Q ls cx hP hS hl hc1 hc2 fin)
theorem r_if_ge {G : mG} {M : mM} {d rc rs pc : Nat} {L st : List Value} {h h' : mH} {r : Option Value} {x : Int32} {off : Int} {tgt : Nat} (hd : decode M.2.1 pc = .ok (.ifCond .ge off, 3)) (ht : (pc : Int) + off = (tgt : Int)) (kt : 0 ≤ x → MW G M d rc rs tgt L st h r h') (kf : ¬ 0 ≤ x → MW G M d rc rs (pc + 3) L st h r h') : MW G M d rc rs pc L (.int x :: st) h r h' := by
  intro p e R s m args below meth c H locs cells slots Q ls cx hP hS hl hc1 hc2 fin
  exact lv_if_ge cx.1 cx.2.1 hd ht (fun q => kt q p e R s m args below meth c H locs cells slots Q ls cx hP hS hl hc1 hc2 fin) (fun q => kf q p e R s m args below meth c H locs cells slots Q ls cx hP hS hl hc1 hc2 fin)
theorem r_icmp_gt {G : mG} {M : mM} {d rc rs pc : Nat} {L st : List Value} {h h' : mH} {r : Option Value} {x y : Int32} {off : Int} {tgt : Nat} (hd : decode M.2.1 pc = .ok (.if_icmp .gt off, 3)) (ht : (pc : Int) + off = (tgt : Int)) (kt : y < x → MW G M d rc rs tgt L st h r h') (kf : ¬ y < x → MW G M d rc rs (pc + 3) L st h r h') : MW G M d rc rs pc L (.int y :: .int x :: st) h r h' := by
  intro p e R s m args below meth c H locs cells slots Q ls cx hP hS hl hc1 hc2 fin
  exact lv_icmp_gt cx.1 cx.2.1 hd ht (fun q => kt q p e R s m args below meth c H locs cells slots Q ls cx hP hS hl hc1 hc2 fin) (fun q => kf q p e R s m args below meth c H locs cells slots Q ls cx hP hS hl hc1 hc2 fin)
theorem r_if_gt {G : mG} {M : mM} {d rc rs pc : Nat} {L st : List Value} {h h' : mH} {r : Option Value} {x : Int32} {off : Int} {tgt : Nat} (hd : decode M.2.1 pc = .ok (.ifCond .gt off, 3)) (ht : (pc : Int) + off = (tgt : Int)) (kt : 0 < x → MW G M d rc rs tgt L st h r h') (kf : ¬ 0 < x → MW G M d rc rs (pc + 3) L st h r h') : MW G M d rc rs pc L (.int x :: st) h r h' := by
  intro p e R s m args below meth c H locs cells slots Q ls cx hP hS hl hc1 hc2 fin
  exact lv_if_gt cx.1 cx.2.1 hd ht (fun q => kt q p e R s m args below meth c H locs cells slots Q ls cx hP hS hl hc1 hc2 fin) (fun q => kf q p e R s m args below meth c H locs cells slots Q ls cx hP hS hl hc1 hc2 fin)
theorem r_icmp_le {G : mG} {M : mM} {d rc rs pc : Nat} {L st : List Value} {h h' : mH} {r : Option Value} {x y : Int32} {off : Int} {tgt : Nat} (hd : decode M.2.1 pc = .ok (.if_icmp .le off, 3)) (ht : (pc : Int) + off = (tgt : Int)) (kt : x ≤ y → MW G M d rc rs tgt L st h r h') (kf : ¬ x ≤ y → MW G M d rc rs (pc + 3) L st h r h') : MW G M d rc rs pc L (.int y :: .int x :: st) h r h' := by
  intro p e R s m args below meth c H locs cells slots Q ls cx hP hS hl hc1 hc2 fin
  exact lv_icmp_le cx.1 cx.2.1 hd ht (fun q => kt q p e R s m args below meth c H locs cells slots Q ls cx hP hS hl hc1 hc2 fin) (fun q => kf q p e R s m args below meth c H locs cells slots Q ls cx hP hS hl hc1 hc2 fin)
theorem r_if_le {G : mG} {M : mM} {d rc rs pc : Nat} {L st : List Value} {h h' : mH} {r : Option Value} {x : Int32} {off : Int} {tgt : Nat} (hd : decode M.2.1 pc = .ok (.ifCond .le off, 3)) (ht : (pc : Int) + off = (tgt : Int)) (kt : x ≤ 0 → MW G M d rc rs tgt L st h r h') (kf : ¬ x ≤ 0 → MW G M d rc rs (pc + 3) L st h r h') : MW G M d rc rs pc L (.int x :: st) h r h' := by
  intro p e R s m args below meth c H locs cells slots Q ls cx hP hS hl hc1 hc2 fin
  exact lv_if_le cx.1 cx.2.1 hd ht (fun q => kt q p e R s m args below meth c H locs cells slots Q ls cx hP hS hl hc1 hc2 fin) (fun q => kf q p e R s m args below meth c H locs cells slots Q ls cx hP hS hl hc1 hc2 fin)
theorem r_ifnull {G : mG} {M : mM} {d rc rs pc : Nat} {L st : List Value} {h h' : mH} {r : Option Value} {a : Nat} {off : Int} {tgt : Nat} (hd : decode M.2.1 pc = .ok (.ifnull off, 3)) (ht : (pc : Int) + off = (tgt : Int)) (k : MW G M d rc rs (pc + 3) L st h r h') : MW G M d rc rs pc L (.ref a :: st) h r h' := by
  intro p e R s m args below meth c H locs cells slots Q ls cx hP hS hl hc1 hc2 fin
  exact lv_ifnull cx.1 cx.2.1 hd (k p e R s m args below meth c H locs cells slots Q ls cx hP hS hl hc1 hc2 fin)
theorem r_ifnullN {G : mG} {M : mM} {d rc rs pc : Nat} {L st : List Value} {h h' : mH} {r : Option Value} {off : Int} {tgt : Nat} (hd : decode M.2.1 pc = .ok (.ifnull off, 3)) (ht : (pc : Int) + off = (tgt : Int)) (k : MW G M d rc rs tgt L st h r h') : MW G M d rc rs pc L (.null :: st) h r h' := by
  intro p e R s m args below meth c H locs cells slots Q ls cx hP hS hl hc1 hc2 fin
  exact lv_ifnullN cx.1 cx.2.1 hd ht (k p e R s m args below meth c H locs cells slots Q ls cx hP hS hl hc1 hc2 fin)
theorem r_ifnonnull {G : mG} {M : mM} {d rc rs pc : Nat} {L st : List Value} {h h' : mH} {r : Option Value} {a : Nat} {off : Int} {tgt : Nat} (hd : decode M.2.1 pc = .ok (.ifnonnull off, 3)) (ht : (pc : Int) + off = (tgt : Int)) (k : MW G M d rc rs tgt L st h r h') : MW G M d rc rs pc L (.ref a :: st) h r h' := by
  intro p e R s m args below meth c H locs cells slots Q ls cx hP hS hl hc1 hc2 fin
  exact lv_ifnonnull cx.1 cx.2.1 hd ht (k p e R s m args below meth c H locs cells slots Q ls cx hP hS hl hc1 hc2 fin)
theorem r_ifnonnullN {G : mG} {M : mM} {d rc rs pc : Nat} {L st : List Value} {h h' : mH} {r : Option Value} {off : Int} {tgt : Nat} (hd : decode M.2.1 pc = .ok (.ifnonnull off, 3)) (ht : (pc : Int) + off = (tgt : Int)) (k : MW G M d rc rs (pc + 3) L st h r h') : MW G M d rc rs pc L (.null :: st) h r h' := by
  intro p e R s m args below meth c H locs cells slots Q ls cx hP hS hl hc1 hc2 fin
  exact lv_ifnonnullN cx.1 cx.2.1 hd (k p e R s m args below meth c H locs cells slots Q ls cx hP hS hl hc1 hc2 fin)
theorem r_tabIn {G : mG} {M : mM} {d rc rs pc : Nat} {L st : List Value} {h h' : mH} {r : Option Value} {dflt lo hi : Int} {offs : Array Int} {len : Nat} {x : Int32} {off : Int} {tgt : Nat} (hd : decode M.2.1 pc = .ok (.tableswitch dflt lo hi offs, len)) (h1 : ¬ x.toInt < lo) (h2 : ¬ hi < x.toInt) (ho : offs[(x.toInt - lo).toNat]? = some off) (ht : (pc : Int) + off = (tgt : Int)) (k : MW G M d rc rs tgt L st h r h') : MW G M d rc rs pc L (.int x :: st) h r h' := by
  intro p e R s m args below meth c H locs cells slots Q ls cx hP hS hl hc1 hc2 fin
  exact lv_tableIn cx.1 cx.2.1 hd h1 h2 ho ht (k p e R s m args below meth c H locs cells slots Q ls cx hP hS hl hc1 hc2 fin)
theorem r_tabOut {G : mG} {M : mM} {d rc rs pc : Nat} {L st : List Value} {h h' : mH} {r : Option Value} {dflt lo hi : Int} {offs : Array Int} {len : Nat} {x : Int32} {tgt : Nat} (hd : decode M.2.1 pc = .ok (.tableswitch dflt lo hi offs, len)) (ho : x.toInt < lo ∨ hi < x.toInt) (ht : (pc : Int) + dflt = (tgt : Int)) (k : MW G M d rc rs tgt L st h r h') : MW G M d rc rs pc L (.int x :: st) h r h' := by
  intro p e R s m args below meth c H locs cells slots Q ls cx hP hS hl hc1 hc2 fin
  exact lv_tableOut cx.1 cx.2.1 hd ho ht (k p e R s m args below meth c H locs cells slots Q ls cx hP hS hl hc1 hc2 fin)
theorem r_look {G : mG} {M : mM} {d rc rs pc : Nat} {L st : List Value} {h h' : mH} {r : Option Value} {dflt : Int} {ps : Array (Int × Int)} {len : Nat} {x : Int32} {off : Int} {tgt : Nat} (hd : decode M.2.1 pc = .ok (.lookupswitch dflt ps, len)) (hp : (ps.toList.zip (ps.toList.drop 1)).all (fun (a, next) => a.1 < next.1) = true) (ho : Op.lookupswitch.offset ps.toList dflt x.toInt = off) (ht : (pc : Int) + off = (tgt : Int)) (k : MW G M d rc rs tgt L st h r h') : MW G M d rc rs pc L (.int x :: st) h r h' := by
  intro p e R s m args below meth c H locs cells slots Q ls cx hP hS hl hc1 hc2 fin
  exact lv_lookup cx.1 cx.2.1 hd hp ho ht (k p e R s m args below meth c H locs cells slots Q ls cx hP hS hl hc1 hc2 fin)
theorem r_ret {G : mG} {M : mM} {d rc rs pc : Nat} {L st : List Value} {h h' : mH} {r : Option Value} (hd : decode M.2.1 pc = .ok (m_retI M.2.2.2, 1)) (hr : r.toList = st) (hh : h = h') : MW G M d rc rs pc L st h r h' := by
  subst hh
  subst hr
  intro p e R s m args below meth c H locs cells slots Q ls cx hP hS hl hc1 hc2 fin
  exact fin pc ls H locs cells slots hd hP hS (by omega) (by omega)
