/-! ===== constructors (written by wip/whole/mkctor.py) ===== -/
def hpi (h : mH) (a k : Nat) (x : Int32) : mH := (h.1, m_up h.2.1 a k x, h.2.2)
def hpr (h : mH) (a k b : Nat) : mH := (h.1, h.2.1, m_up h.2.2 a k (some b))
abbrev m_in (i : Int32) (n : Nat) : Prop := ¬ (i < 0 ∨ n ≤ i.toNatClampNeg)
theorem m_in_of {i : Int32} {n : Nat} (h : m_in i n) : vp_in i n := h
theorem m_new_len {h : mH} {sh : mSh} {n : Nat} (hn : h.1.length = n) : (m_new h sh).1.length = n + 1 := by
  show (h.1 ++ [sh]).length = n + 1
  rw [List.length_append, hn]; rfl
theorem m_keep {h : mH} {sh sh' : mSh} {a : Nat} (hs : h.1[a]? = some sh) : (m_new h sh').1[a]? = some sh := by
  show (h.1 ++ [sh'])[a]? = some sh
  rw [List.getElem?_append_left (List.getElem?_eq_some_iff.mp hs).1]; exact hs
theorem m_last {h : mH} {sh : mSh} {n : Nat} (hn : h.1.length = n) : (m_new h sh).1[n]? = some sh := by
  subst hn
  show (h.1 ++ [sh])[h.1.length]? = some sh
  simp
section RN
variable {G : mG} {M : mM} {d rc rs pc : Nat} {L st : List Value} {h h' : mH} {r : Option Value}
theorem r_newN {idx ci n : Nat} (hd : decode M.2.1 pc = .ok (.new idx, 3)) (hci : ci < 8) (h1 : Cond.classLink M.1.cls idx (m_R ci) ∈ m_tbl) (h2 : Cond.instantiable (m_R ci) (m_nF ci) ∈ m_tbl) (h3 : Cond.initialized (m_R ci) ∈ m_tbl) (hn : h.1.length = n) (hlen : n + 1 ≤ 1000) (hrc : 1 ≤ rc) (hrs : m_nF ci ≤ rs) (kk : MW G M d (rc - 1) (rs - m_nF ci) (pc + 3) L (.ref n :: st) (m_new h (.inl ci)) r h') : MW G M d rc rs pc L st h r h' := by
  subst hn
  exact r_new hd hci h1 h2 h3 hlen hrc hrs kk
theorem r_newaN {ti N nn : Nat} {n : Int32} {atype : ArrayType} (hd : decode M.2.1 pc = .ok (.newarray atype, 2)) (hti : ti < 2) (hat0 : newarray.typeOf atype = m_at_ty ti) (h1 : Cond.arrayClass (m_at_ty ti) ∈ m_tbl) (hng : ¬ n < 0) (hN : n.toNatClampNeg = N) (hN2 : N ≤ 1000) (hn : h.1.length = nn) (hlen : nn + 1 ≤ 1000) (hrc : 1 ≤ rc) (hrs : N ≤ rs) (kk : MW G M d (rc - 1) (rs - N) (pc + 2) L (.ref nn :: st) (m_new h (.inr (ti, N))) r h') : MW G M d rc rs pc L (.int n :: st) h r h' := by
  subst hn
  exact r_newa hd hti hat0 h1 hng hN hN2 hlen hrc hrs kk
theorem r_newqN {ti N idx nn : Nat} {n : Int32} {C : String} (hd : decode M.2.1 pc = .ok (.anewarray idx, 3)) (hti : ¬ ti < 2) (h5 : ti < 5) (hC : m_at_ty ti = .object C) (h1 : Cond.classLink M.1.cls idx C ∈ m_tbl) (h2 : C ∈ [RX0, RX3, RX4]) (hng : ¬ n < 0) (hN : n.toNatClampNeg = N) (hN2 : N ≤ 1000) (hn : h.1.length = nn) (hlen : nn + 1 ≤ 1000) (hrc : 1 ≤ rc) (hrs : N ≤ rs) (kk : MW G M d (rc - 1) (rs - N) (pc + 3) L (.ref nn :: st) (m_new h (.inr (ti, N))) r h') : MW G M d rc rs pc L (.int n :: st) h r h' := by
  subst hn
  exact r_newq hd hti h5 hC h1 h2 hng hN hN2 hlen hrc hrs kk
end RN
def k_X0 (h : mH) (a n : Nat) : mH := (hpi (hpi (hpi (hpi (hpi (hpi h a 0 0) a 1 0) a 2 0) a 3 0) a 4 1) a 5 0)
set_option maxRecDepth 100000 in
theorem c_X0_init {G : mG} {h : mH} {a n : Nat} (hs : h.1[a]? = some (.inl 0)) (hn : h.1.length = n) (hl : n ≤ 900) : MC G mX0_init 1 0 0 [.ref a] h none (k_X0 h a n) := by
  refine MC_intro mlX0_init (Nat.le_of_ble_eq_true rfl) rfl rfl trivial ?_
  refine r_aload_n dX0_init_0 rfl rfl ?_
  refine r_obj dX0_init_1 lkX0_3 wI_obj wC_obj (Nat.le_of_ble_eq_true rfl) (by decide) ?_
  refine r_aload_n dX0_init_4 rfl rfl ?_
  refine r_iconst (x := 0) dX0_init_5 (by decide) ?_
  refine r_puti dX0_init_6 flX0_9 (Or.inl rfl) (Or.inl rfl) hs ?_
  refine r_aload_n dX0_init_9 rfl rfl ?_
  refine r_iconst (x := 0) dX0_init_10 (by decide) ?_
  refine r_puti dX0_init_11 flX0_15 (Or.inl rfl) (Or.inl rfl) hs ?_
  refine r_aload_n dX0_init_14 rfl rfl ?_
  refine r_iconst (x := 0) dX0_init_15 (by decide) ?_
  refine r_puti dX0_init_16 flX0_18 (Or.inl rfl) (Or.inl rfl) hs ?_
  refine r_aload_n dX0_init_19 rfl rfl ?_
  refine r_iconst (x := 0) dX0_init_20 (by decide) ?_
  refine r_puti dX0_init_21 flX0_21 (Or.inl rfl) (Or.inl rfl) hs ?_
  refine r_aload_n dX0_init_24 rfl rfl ?_
  refine r_iconst (x := 1) dX0_init_25 (by decide) ?_
  refine r_puti dX0_init_26 flX0_24 (Or.inl rfl) (Or.inl rfl) hs ?_
  refine r_aload_n dX0_init_29 rfl rfl ?_
  refine r_iconst (x := 0) dX0_init_30 (by decide) ?_
  refine r_puti dX0_init_31 flX0_27 (Or.inl rfl) (Or.inl rfl) hs ?_
  exact r_ret dX0_init_34 rfl rfl
def k_X1 (h : mH) (a n : Nat) : mH := (hpr (m_new h (.inr (0, 288))) a 0 n)
set_option maxRecDepth 100000 in
theorem c_X1_init {G : mG} {h : mH} {a n : Nat} (hs : h.1[a]? = some (.inl 1)) (hn : h.1.length = n) (hl : n ≤ 900) : MC G mX1_init 1 1 288 [.ref a] h none (k_X1 h a n) := by
  refine MC_intro mlX1_init (Nat.le_of_ble_eq_true rfl) rfl rfl trivial ?_
  refine r_aload_n dX1_init_0 rfl rfl ?_
  refine r_obj dX1_init_1 lkX1_3 wI_obj wC_obj (Nat.le_of_ble_eq_true rfl) (by decide) ?_
  refine r_aload_n dX1_init_4 rfl rfl ?_
  refine r_sipush (x := 288) dX1_init_5 (by decide) ?_
  refine r_newaN (N := 288) (ti := 0) dX1_init_8 (by decide) rfl ka_0 (by decide) (by decide) (by decide) hn (by omega) (by omega) (by omega) ?_
  refine r_putr dX1_init_10 flX1_9 (Or.inr ⟨rfl, rfl⟩) rfl (m_keep hs) ?_
  exact r_ret dX1_init_13 rfl rfl
def k_X2 (h : mH) (a n : Nat) : mH := (hpi (hpi h a 0 0) a 1 0)
set_option maxRecDepth 100000 in
theorem c_X2_init {G : mG} {h : mH} {a n : Nat} (hs : h.1[a]? = some (.inl 2)) (hn : h.1.length = n) (hl : n ≤ 900) : MC G mX2_init 1 0 0 [.ref a] h none (k_X2 h a n) := by
  refine MC_intro mlX2_init (Nat.le_of_ble_eq_true rfl) rfl rfl trivial ?_
  refine r_aload_n dX2_init_0 rfl rfl ?_
  refine r_obj dX2_init_1 lkX2_3 wI_obj wC_obj (Nat.le_of_ble_eq_true rfl) (by decide) ?_
  refine r_aload_n dX2_init_4 rfl rfl ?_
  refine r_iconst (x := 0) dX2_init_5 (by decide) ?_
  refine r_puti dX2_init_6 flX2_9 (Or.inl rfl) (Or.inl rfl) hs ?_
  refine r_aload_n dX2_init_9 rfl rfl ?_
  refine r_iconst (x := 0) dX2_init_10 (by decide) ?_
  refine r_puti dX2_init_11 flX2_15 (Or.inl rfl) (Or.inl rfl) hs ?_
  exact r_ret dX2_init_14 rfl rfl
def k_X3 (h : mH) (a n : Nat) : mH := (hpi (hpi (hpi (hpi (hpi (hpi (hpi h a 0 0) a 1 0) a 2 0) a 3 0) a 4 0) a 5 0) a 6 0)
set_option maxRecDepth 100000 in
theorem c_X3_init {G : mG} {h : mH} {a n : Nat} (hs : h.1[a]? = some (.inl 3)) (hn : h.1.length = n) (hl : n ≤ 900) : MC G mX3_init 1 0 0 [.ref a] h none (k_X3 h a n) := by
  refine MC_intro mlX3_init (Nat.le_of_ble_eq_true rfl) rfl rfl trivial ?_
  refine r_aload_n dX3_init_0 rfl rfl ?_
  refine r_obj dX3_init_1 lkX3_3 wI_obj wC_obj (Nat.le_of_ble_eq_true rfl) (by decide) ?_
  refine r_aload_n dX3_init_4 rfl rfl ?_
  refine r_iconst (x := 0) dX3_init_5 (by decide) ?_
  refine r_puti dX3_init_6 flX3_9 (Or.inl rfl) (Or.inl rfl) hs ?_
  refine r_aload_n dX3_init_9 rfl rfl ?_
  refine r_iconst (x := 0) dX3_init_10 (by decide) ?_
  refine r_puti dX3_init_11 flX3_15 (Or.inl rfl) (Or.inl rfl) hs ?_
  refine r_aload_n dX3_init_14 rfl rfl ?_
  refine r_iconst (x := 0) dX3_init_15 (by decide) ?_
  refine r_puti dX3_init_16 flX3_18 (Or.inl rfl) (Or.inl rfl) hs ?_
  refine r_aload_n dX3_init_19 rfl rfl ?_
  refine r_iconst (x := 0) dX3_init_20 (by decide) ?_
  refine r_puti dX3_init_21 flX3_21 (Or.inl rfl) (Or.inl rfl) hs ?_
  refine r_aload_n dX3_init_24 rfl rfl ?_
  refine r_iconst (x := 0) dX3_init_25 (by decide) ?_
  refine r_puti dX3_init_26 flX3_24 (Or.inl rfl) (Or.inl rfl) hs ?_
  refine r_aload_n dX3_init_29 rfl rfl ?_
  refine r_iconst (x := 0) dX3_init_30 (by decide) ?_
  refine r_puti dX3_init_31 flX3_27 (Or.inl rfl) (Or.inl rfl) hs ?_
  refine r_aload_n dX3_init_34 rfl rfl ?_
  refine r_iconst (x := 0) dX3_init_35 (by decide) ?_
  refine r_puti dX3_init_36 flX3_30 (Or.inl rfl) (Or.inr ⟨rfl, by decide⟩) hs ?_
  exact r_ret dX3_init_39 rfl rfl
def k_X5 (h : mH) (a n : Nat) : mH := (hpi (hpi (hpr (m_new (hpr (m_new (hpr (m_new (hpr (m_new h (.inr (0, 6))) a 0 n) (.inr (0, 24))) a 1 (n + 1)) (.inr (0, 288))) a 2 (n + 2)) (.inr (0, 12))) a 3 (n + 3)) a 4 0) a 5 0)
set_option maxRecDepth 100000 in
theorem c_X5_init {G : mG} {h : mH} {a n : Nat} (hs : h.1[a]? = some (.inl 5)) (hn : h.1.length = n) (hl : n ≤ 900) : MC G mX5_init 1 4 330 [.ref a] h none (k_X5 h a n) := by
  refine MC_intro mlX5_init (Nat.le_of_ble_eq_true rfl) rfl rfl trivial ?_
  refine r_aload_n dX5_init_0 rfl rfl ?_
  refine r_obj dX5_init_1 lkX5_3 wI_obj wC_obj (Nat.le_of_ble_eq_true rfl) (by decide) ?_
  refine r_aload_n dX5_init_4 rfl rfl ?_
  refine r_bipush (x := 6) dX5_init_5 (by decide) ?_
  refine r_newaN (N := 6) (ti := 0) dX5_init_7 (by decide) rfl ka_0 (by decide) (by decide) (by decide) hn (by omega) (by omega) (by omega) ?_
  refine r_putr dX5_init_9 flX5_9 (Or.inr ⟨rfl, rfl⟩) rfl (m_keep hs) ?_
  refine r_aload_n dX5_init_12 rfl rfl ?_
  refine r_bipush (x := 24) dX5_init_13 (by decide) ?_
  refine r_newaN (N := 24) (ti := 0) dX5_init_15 (by decide) rfl ka_0 (by decide) (by decide) (by decide) (m_new_len hn) (by omega) (by omega) (by omega) ?_
  refine r_putr dX5_init_17 flX5_15 (Or.inr ⟨rfl, rfl⟩) rfl (m_keep (m_keep hs)) ?_
  refine r_aload_n dX5_init_20 rfl rfl ?_
  refine r_sipush (x := 288) dX5_init_21 (by decide) ?_
  refine r_newaN (N := 288) (ti := 0) dX5_init_24 (by decide) rfl ka_0 (by decide) (by decide) (by decide) (m_new_len (m_new_len hn)) (by omega) (by omega) (by omega) ?_
  refine r_putr dX5_init_26 flX5_18 (Or.inr ⟨rfl, rfl⟩) rfl (m_keep (m_keep (m_keep hs))) ?_
  refine r_aload_n dX5_init_29 rfl rfl ?_
  refine r_bipush (x := 12) dX5_init_30 (by decide) ?_
  refine r_newaN (N := 12) (ti := 0) dX5_init_32 (by decide) rfl ka_0 (by decide) (by decide) (by decide) (m_new_len (m_new_len (m_new_len hn))) (by omega) (by omega) (by omega) ?_
  refine r_putr dX5_init_34 flX5_21 (Or.inr ⟨rfl, rfl⟩) rfl (m_keep (m_keep (m_keep (m_keep hs)))) ?_
  refine r_aload_n dX5_init_37 rfl rfl ?_
  refine r_iconst (x := 0) dX5_init_38 (by decide) ?_
  refine r_puti dX5_init_39 flX5_24 (Or.inl rfl) (Or.inl rfl) (m_keep (m_keep (m_keep (m_keep hs)))) ?_
  refine r_aload_n dX5_init_42 rfl rfl ?_
  refine r_iconst (x := 0) dX5_init_43 (by decide) ?_
  refine r_puti dX5_init_44 flX5_28 (Or.inl rfl) (Or.inl rfl) (m_keep (m_keep (m_keep (m_keep hs)))) ?_
  exact r_ret dX5_init_47 rfl rfl
/-- Table(): its three arrays and numbers -/
def k_Ta (h : mH) (a n : Nat) : mH := hpr (m_new h (.inr (2, 6))) a 0 n
def k_Tb (h : mH) (a n : Nat) : mH := hpr (hpi (hpi (hpi (hpi (hpi (m_new (k_Ta h a n) (.inr (0, 5))) (n + 1) 0 1) (n + 1) 1 1) (n + 1) 2 1) (n + 1) 3 1) (n + 1) 4 1) a 1 (n + 1)
def k_T0 (h : mH) (a n : Nat) : mH := hpi (hpi (hpi (hpr (hpi (hpi (hpi (hpi (hpi (m_new (k_Tb h a n) (.inr (0, 5))) (n + 2) 0 0) (n + 2) 1 0) (n + 2) 2 0) (n + 2) 3 0) (n + 2) 4 0) a 2 (n + 2)) a 3 1) a 4 0) a 5 0
def k_Ts (c : Nat) (T : mH) (n : Nat) : mH := hpr (k_X0 (m_new T (.inl 0)) (n + 3 + c) (n + 3 + c + 1)) n c (n + 3 + c)
def k_Tc (h : mH) (a n : Nat) : Nat → mH
  | 0 => k_T0 h a n
  | c + 1 => k_Ts c (k_Tc h a n c) n
def k_X4 (h : mH) (a n : Nat) : mH := k_Tc h a n 6
theorem k_T_inv {h : mH} {a n : Nat} (hs : h.1[a]? = some (.inl 4)) (hn : h.1.length = n) : ∀ c : Nat, (k_Tc h a n c).1.length = n + 3 + c ∧ (k_Tc h a n c).1[a]? = some (.inl 4) ∧ (k_Tc h a n c).1[n]? = some (.inr (2, 6)) ∧ (k_Tc h a n c).2.2 a 0 = some n
  | 0 => by
    have ha : a < n := by rw [← hn]; exact (List.getElem?_eq_some_iff.mp hs).1
    refine ⟨m_new_len (m_new_len (m_new_len hn)), m_keep (m_keep (m_keep hs)), m_keep (m_keep (m_last hn)), ?_⟩
    have la : (k_Ta h a n).1.length = n + 1 := m_new_len hn
    have lb : (k_Tb h a n).1.length = n + 2 := m_new_len la
    have e1 : ∀ (T : mH) (sh : mSh), T.1.length ≠ a → (m_new T sh).2.2 a = T.2.2 a := fun T sh hne => va_up_ne _ _ (Ne.symm hne)
    show m_up (m_new (k_Tb h a n) (.inr (0, 5))).2.2 a 2 (some (n + 2)) a 0 = some n
    rw [m_up_same]
    show (if (0 : Nat) = 2 then some (n + 2) else (m_new (k_Tb h a n) (.inr (0, 5))).2.2 a 0) = some n
    rw [if_neg (by decide), e1 _ _ (by omega)]
    show m_up (m_new (k_Ta h a n) (.inr (0, 5))).2.2 a 1 (some (n + 1)) a 0 = some n
    rw [m_up_same]
    show (if (0 : Nat) = 1 then some (n + 1) else (m_new (k_Ta h a n) (.inr (0, 5))).2.2 a 0) = some n
    rw [if_neg (by decide), e1 _ _ (by omega)]
    show m_up (m_new h (.inr (2, 6))).2.2 a 0 (some n) a 0 = some n
    rw [m_up_same]
    show (if (0 : Nat) = 0 then some n else _) = some n
    rw [if_pos rfl]
  | c + 1 => by
    have ha : a < n := by rw [← hn]; exact (List.getElem?_eq_some_iff.mp hs).1
    obtain ⟨i1, i2, i3, i4⟩ := k_T_inv hs hn c
    refine ⟨m_new_len i1, m_keep i2, m_keep i3, ?_⟩
    show m_up _ n c (some (n + 3 + c)) a 0 = some n
    rw [m_up_ne _ _ _ (Nat.ne_of_lt ha)]
    show va_up (k_Tc h a n c).2.2 (k_Tc h a n c).1.length (fun _ => none) a 0 = some n
    rw [va_up_ne _ _ (by omega)]
    exact i4
theorem n_ge6 : ∀ c, c < 6 → ¬ (6 : Int32) ≤ nI c := by decide +kernel
set_option maxRecDepth 100000 in
theorem w_X4_init {G : mG} {h : mH} {a n : Nat} (hs : h.1[a]? = some (.inl 4)) (hn : h.1.length = n) (hl : n ≤ 800) : ∀ (k c : Nat), c + k = 6 → ∀ rc rs : Nat, k ≤ rc → 6 * k ≤ rs → MW G mX4_init 2 rc rs 84 [.ref a, .int (nI c)] [] (k_Tc h a n c) none (k_X4 h a n)
  | 0, c, hc, rc, rs, _, _ => by
    have hc6 : c = 6 := by omega
    subst hc6
    refine r_iload_n dX4_init_84 rfl rfl ?_
    refine r_bipush (x := 6) dX4_init_85 (by decide) ?_
    refine r_icmp_ge (tgt := 109) dX4_init_87 (by decide) (fun _ => ?_) (fun hz => absurd (by decide) hz)
    exact r_ret dX4_init_109 rfl rfl
  | k + 1, c, hc, rc, rs, hrc, hrs => by
    obtain ⟨i1, i2, i3, i4⟩ := k_T_inv hs hn c
    refine r_iload_n dX4_init_84 rfl rfl ?_
    refine r_bipush (x := 6) dX4_init_85 (by decide) ?_
    refine r_icmp_ge (tgt := 109) dX4_init_87 (by decide) (fun hz => absurd hz (n_ge6 c (by omega))) (fun _ => ?_)
    refine r_aload_n dX4_init_90 rfl rfl ?_
    refine r_getr dX4_init_91 flX4_11 rfl i2 i4 ?_
    refine r_iload_n dX4_init_94 rfl rfl ?_
    refine r_newN (ci := 0) dX4_init_95 (by decide) klX4_9 kn_0 ki_0 i1 (by omega) (by omega) (by show 6 ≤ rs; omega) ?_
    refine r_dup dX4_init_98 ?_
    refine r_callI (rest := [.ref (n + 3 + c), .int (nI c), .ref n]) (c_X0_init (m_last i1) (m_new_len i1) (by omega)) dX4_init_99 lkX4_34 rfl rfl (Nat.le_of_ble_eq_true rfl) (by decide) (Nat.zero_le _) (Nat.zero_le _) ?_
    refine r_aast (ti := 2) (ci := 0) dX4_init_102 (by decide) (m_keep i3) (m_last i1) rfl (nI_in (by omega) (by decide)) ?_
    rw [nI_clamp (by omega)]
    refine r_iinc (y := 1) dX4_init_103 rfl (by decide) (by decide) rfl ?_
    rw [nI_1]
    refine r_goto (tgt := 84) dX4_init_106 (by decide) ?_
    exact w_X4_init hs hn hl k (c + 1) (by omega) _ _ (by omega) (by show 6 * k ≤ rs - 6 - 0; omega)
set_option maxRecDepth 100000 in
set_option maxHeartbeats 4000000 in
theorem c_X4_init {G : mG} {h : mH} {a n : Nat} (hs : h.1[a]? = some (.inl 4)) (hn : h.1.length = n) (hl : n ≤ 800) : MC G mX4_init 2 9 52 [.ref a] h none (k_X4 h a n) := by
  refine MC_intro mlX4_init (Nat.le_of_ble_eq_true rfl) rfl rfl trivial ?_
  refine r_aload_n dX4_init_0 rfl rfl ?_
  refine r_obj dX4_init_1 lkX4_3 wI_obj wC_obj (Nat.le_of_ble_eq_true rfl) (by decide) ?_
  refine r_aload_n dX4_init_4 rfl rfl ?_
  refine r_bipush (x := 6) dX4_init_5 (by decide) ?_
  refine r_newqN (N := 6) (ti := 2) dX4_init_7 (by decide) (by decide) rfl klX4_9 (by decide) (by decide) (by decide) (by decide) hn (by omega) (by omega) (by omega) ?_
  refine r_putr dX4_init_10 flX4_11 (Or.inr ⟨rfl, rfl⟩) rfl (m_keep hs) ?_
  refine r_aload_n dX4_init_13 rfl rfl ?_
  refine r_iconst (x := 5) dX4_init_14 (by decide) ?_
  refine r_newaN (N := 5) (ti := 0) dX4_init_15 (by decide) rfl ka_0 (by decide) (by decide) (by decide) (m_new_len hn) (by omega) (by omega) (by omega) ?_
  refine r_dup dX4_init_17 ?_
  refine r_iconst (x := 0) dX4_init_18 (by decide) ?_
  refine r_iconst (x := 1) dX4_init_19 (by decide) ?_
  refine r_iast dX4_init_20 (m_last (m_new_len hn)) (m_in_of (by decide)) ?_
  refine r_dup dX4_init_21 ?_
  refine r_iconst (x := 1) dX4_init_22 (by decide) ?_
  refine r_iconst (x := 1) dX4_init_23 (by decide) ?_
  refine r_iast dX4_init_24 (m_last (m_new_len hn)) (m_in_of (by decide)) ?_
  refine r_dup dX4_init_25 ?_
  refine r_iconst (x := 2) dX4_init_26 (by decide) ?_
  refine r_iconst (x := 1) dX4_init_27 (by decide) ?_
  refine r_iast dX4_init_28 (m_last (m_new_len hn)) (m_in_of (by decide)) ?_
  refine r_dup dX4_init_29 ?_
  refine r_iconst (x := 3) dX4_init_30 (by decide) ?_
  refine r_iconst (x := 1) dX4_init_31 (by decide) ?_
  refine r_iast dX4_init_32 (m_last (m_new_len hn)) (m_in_of (by decide)) ?_
  refine r_dup dX4_init_33 ?_
  refine r_iconst (x := 4) dX4_init_34 (by decide) ?_
  refine r_iconst (x := 1) dX4_init_35 (by decide) ?_
  refine r_iast dX4_init_36 (m_last (m_new_len hn)) (m_in_of (by decide)) ?_
  refine r_putr dX4_init_37 flX4_17 (Or.inr ⟨rfl, rfl⟩) rfl (m_keep (m_keep hs)) ?_
  refine r_aload_n dX4_init_40 rfl rfl ?_
  refine r_iconst (x := 5) dX4_init_41 (by decide) ?_
  refine r_newaN (N := 5) (ti := 0) dX4_init_42 (by decide) rfl ka_0 (by decide) (by decide) (by decide) (m_new_len (m_new_len hn)) (by omega) (by omega) (by omega) ?_
  refine r_dup dX4_init_44 ?_
  refine r_iconst (x := 0) dX4_init_45 (by decide) ?_
  refine r_iconst (x := 0) dX4_init_46 (by decide) ?_
  refine r_iast dX4_init_47 (m_last (m_new_len (m_new_len hn))) (m_in_of (by decide)) ?_
  refine r_dup dX4_init_48 ?_
  refine r_iconst (x := 1) dX4_init_49 (by decide) ?_
  refine r_iconst (x := 0) dX4_init_50 (by decide) ?_
  refine r_iast dX4_init_51 (m_last (m_new_len (m_new_len hn))) (m_in_of (by decide)) ?_
  refine r_dup dX4_init_52 ?_
  refine r_iconst (x := 2) dX4_init_53 (by decide) ?_
  refine r_iconst (x := 0) dX4_init_54 (by decide) ?_
  refine r_iast dX4_init_55 (m_last (m_new_len (m_new_len hn))) (m_in_of (by decide)) ?_
  refine r_dup dX4_init_56 ?_
  refine r_iconst (x := 3) dX4_init_57 (by decide) ?_
  refine r_iconst (x := 0) dX4_init_58 (by decide) ?_
  refine r_iast dX4_init_59 (m_last (m_new_len (m_new_len hn))) (m_in_of (by decide)) ?_
  refine r_dup dX4_init_60 ?_
  refine r_iconst (x := 4) dX4_init_61 (by decide) ?_
  refine r_iconst (x := 0) dX4_init_62 (by decide) ?_
  refine r_iast dX4_init_63 (m_last (m_new_len (m_new_len hn))) (m_in_of (by decide)) ?_
  refine r_putr dX4_init_64 flX4_21 (Or.inr ⟨rfl, rfl⟩) rfl (m_keep (m_keep (m_keep hs))) ?_
  refine r_aload_n dX4_init_67 rfl rfl ?_
  refine r_iconst (x := 1) dX4_init_68 (by decide) ?_
  refine r_puti dX4_init_69 flX4_24 (Or.inl rfl) (Or.inl rfl) (m_keep (m_keep (m_keep hs))) ?_
  refine r_aload_n dX4_init_72 rfl rfl ?_
  refine r_iconst (x := 0) dX4_init_73 (by decide) ?_
  refine r_puti dX4_init_74 flX4_28 (Or.inl rfl) (Or.inl rfl) (m_keep (m_keep (m_keep hs))) ?_
  refine r_aload_n dX4_init_77 rfl rfl ?_
  refine r_iconst (x := 0) dX4_init_78 (by decide) ?_
  refine r_puti dX4_init_79 flX4_31 (Or.inl rfl) (Or.inl rfl) (m_keep (m_keep (m_keep hs))) ?_
  refine r_iconst (x := 0) dX4_init_82 (by decide) ?_
  refine r_istore_n dX4_init_83 rfl (by decide) rfl ?_
  exact w_X4_init hs hn hl 6 0 rfl _ _ (by omega) (by omega)
def m_e : mH := ([], fun _ _ => 0, fun _ _ => none)
def hx0 : mH := m_new m_e (.inl 6)
def hx1 : mH := m_new hx0 (.inr (3, 4))
def hx2 : mH := hpr hx1 0 0 1
def hx3 : mH := m_new hx2 (.inr (4, 8))
def hx4 : mH := hpr hx3 0 1 2
def hx5 : mH := m_new hx4 (.inr (0, 6))
def hx6 : mH := hpr hx5 0 2 3
def hx7 : mH := m_new hx6 (.inl 1)
def hx8 : mH := k_X1 hx7 4 5
def hx9 : mH := hpr hx8 0 3 4
def hx10 : mH := m_new hx9 (.inl 2)
def hx11 : mH := k_X2 hx10 6 7
def hx12 : mH := hpr hx11 0 4 6
def hx13 : mH := m_new hx12 (.inl 5)
def hx14 : mH := k_X5 hx13 7 8
def hx15 : mH := hpr hx14 0 5 7
def hx16 : mH := m_new hx15 (.inl 1)
def hx17 : mH := k_X1 hx16 12 13
def hx18 : mH := hpr hx17 0 6 12
def hx19 : mH := m_new hx18 (.inl 1)
def hx20 : mH := k_X1 hx19 14 15
def hx21 : mH := hpr hx20 0 7 14
def hx22 : mH := hpi hx21 0 8 0
def hx23 : mH := hpi hx22 0 9 0
def hx24 : mH := hpi hx23 0 10 0
def hx25 : mH := hpi hx24 0 11 0
def hx26 : mH := hpi hx25 0 12 0
def hx27 : mH := m_new hx26 (.inl 4)
def hx28 : mH := k_X4 hx27 16 17
def hx29 : mH := hpr hx28 1 0 16
def hx30 : mH := m_new hx29 (.inl 4)
def hx31 : mH := k_X4 hx30 26 27
def hx32 : mH := hpr hx31 1 1 26
def hx33 : mH := m_new hx32 (.inl 4)
def hx34 : mH := k_X4 hx33 36 37
def hx35 : mH := hpr hx34 1 2 36
def hx36 : mH := m_new hx35 (.inl 4)
def hx37 : mH := k_X4 hx36 46 47
def hx38 : mH := hpr hx37 1 3 46
def hx39 : mH := m_new hx38 (.inl 3)
def hx40 : mH := k_X3 hx39 56 57
def hx41 : mH := hpr hx40 2 0 56
def hx42 : mH := m_new hx41 (.inl 3)
def hx43 : mH := k_X3 hx42 57 58
def hx44 : mH := hpr hx43 2 1 57
def hx45 : mH := m_new hx44 (.inl 3)
def hx46 : mH := k_X3 hx45 58 59
def hx47 : mH := hpr hx46 2 2 58
def hx48 : mH := m_new hx47 (.inl 3)
def hx49 : mH := k_X3 hx48 59 60
def hx50 : mH := hpr hx49 2 3 59
def hx51 : mH := m_new hx50 (.inl 3)
def hx52 : mH := k_X3 hx51 60 61
def hx53 : mH := hpr hx52 2 4 60
def hx54 : mH := m_new hx53 (.inl 3)
def hx55 : mH := k_X3 hx54 61 62
def hx56 : mH := hpr hx55 2 5 61
def hx57 : mH := m_new hx56 (.inl 3)
def hx58 : mH := k_X3 hx57 62 63
def hx59 : mH := hpr hx58 2 6 62
def hx60 : mH := m_new hx59 (.inl 3)
def hx61 : mH := k_X3 hx60 63 64
def hx62 : mH := hpr hx61 2 7 63
set_option maxRecDepth 100000 in
set_option maxHeartbeats 4000000 in
theorem c_X6_init {G : mG} : MC G mX6_init 3 63 1511 [.ref 0] hx0 none hx62 := by
  refine MC_intro mlX6_init (Nat.le_of_ble_eq_true rfl) rfl rfl trivial ?_
  refine r_aload_n dX6_init_0 rfl rfl ?_
  refine r_obj dX6_init_1 lkX6_3 wI_obj wC_obj (Nat.le_of_ble_eq_true rfl) (by decide) ?_
  refine r_aload_n dX6_init_4 rfl rfl ?_
  refine r_iconst (x := 4) dX6_init_5 (by decide) ?_
  refine r_newqN (N := 4) (ti := 3) (nn := 1) dX6_init_6 (by decide) (by decide) rfl klX6_11 (by decide) (by decide) (by decide) (by decide) rfl (by decide) (Nat.le_of_ble_eq_true rfl) (Nat.le_of_ble_eq_true rfl) ?_
  change MW G mX6_init _ _ _ _ _ _ hx1 _ _
  refine r_putr dX6_init_9 flX6_13 (Or.inr ⟨rfl, rfl⟩) rfl rfl ?_
  change MW G mX6_init _ _ _ _ _ _ hx2 _ _
  refine r_aload_n dX6_init_12 rfl rfl ?_
  refine r_bipush (x := 8) dX6_init_13 (by decide) ?_
  refine r_newqN (N := 8) (ti := 4) (nn := 2) dX6_init_15 (by decide) (by decide) rfl klX6_17 (by decide) (by decide) (by decide) (by decide) rfl (by decide) (Nat.le_of_ble_eq_true rfl) (Nat.le_of_ble_eq_true rfl) ?_
  change MW G mX6_init _ _ _ _ _ _ hx3 _ _
  refine r_putr dX6_init_18 flX6_19 (Or.inr ⟨rfl, rfl⟩) rfl rfl ?_
  change MW G mX6_init _ _ _ _ _ _ hx4 _ _
  refine r_aload_n dX6_init_21 rfl rfl ?_
  refine r_bipush (x := 6) dX6_init_22 (by decide) ?_
  refine r_newaN (N := 6) (ti := 0) (nn := 3) dX6_init_24 (by decide) rfl ka_0 (by decide) (by decide) (by decide) rfl (by decide) (Nat.le_of_ble_eq_true rfl) (Nat.le_of_ble_eq_true rfl) ?_
  change MW G mX6_init _ _ _ _ _ _ hx5 _ _
  refine r_putr dX6_init_26 flX6_23 (Or.inr ⟨rfl, rfl⟩) rfl rfl ?_
  change MW G mX6_init _ _ _ _ _ _ hx6 _ _
  refine r_aload_n dX6_init_29 rfl rfl ?_
  refine r_newN (ci := 1) (n := 4) dX6_init_30 (by decide) klX6_27 kn_1 ki_1 rfl (by decide) (Nat.le_of_ble_eq_true rfl) (Nat.le_of_ble_eq_true rfl) ?_
  change MW G mX6_init _ _ _ _ _ _ hx7 _ _
  refine r_dup dX6_init_33 ?_
  refine r_callI (rest := [.ref 4, .ref 0]) (c_X1_init (a := 4) (n := 5) rfl rfl (by decide)) dX6_init_34 lkX6_29 rfl rfl (Nat.le_of_ble_eq_true rfl) (by decide) (Nat.le_of_ble_eq_true rfl) (Nat.le_of_ble_eq_true rfl) ?_
  change MW G mX6_init _ _ _ _ _ _ hx8 _ _
  refine r_putr dX6_init_37 flX6_30 (Or.inr ⟨rfl, rfl⟩) rfl rfl ?_
  change MW G mX6_init _ _ _ _ _ _ hx9 _ _
  refine r_aload_n dX6_init_40 rfl rfl ?_
  refine r_newN (ci := 2) (n := 6) dX6_init_41 (by decide) klX6_34 kn_2 ki_2 rfl (by decide) (Nat.le_of_ble_eq_true rfl) (Nat.le_of_ble_eq_true rfl) ?_
  change MW G mX6_init _ _ _ _ _ _ hx10 _ _
  refine r_dup dX6_init_44 ?_
  refine r_callI (rest := [.ref 6, .ref 0]) (c_X2_init (a := 6) (n := 7) rfl rfl (by decide)) dX6_init_45 lkX6_36 rfl rfl (Nat.le_of_ble_eq_true rfl) (by decide) (Nat.le_of_ble_eq_true rfl) (Nat.le_of_ble_eq_true rfl) ?_
  change MW G mX6_init _ _ _ _ _ _ hx11 _ _
  refine r_putr dX6_init_48 flX6_37 (Or.inr ⟨rfl, rfl⟩) rfl rfl ?_
  change MW G mX6_init _ _ _ _ _ _ hx12 _ _
  refine r_aload_n dX6_init_51 rfl rfl ?_
  refine r_newN (ci := 5) (n := 7) dX6_init_52 (by decide) klX6_41 kn_5 ki_5 rfl (by decide) (Nat.le_of_ble_eq_true rfl) (Nat.le_of_ble_eq_true rfl) ?_
  change MW G mX6_init _ _ _ _ _ _ hx13 _ _
  refine r_dup dX6_init_55 ?_
  refine r_callI (rest := [.ref 7, .ref 0]) (c_X5_init (a := 7) (n := 8) rfl rfl (by decide)) dX6_init_56 lkX6_43 rfl rfl (Nat.le_of_ble_eq_true rfl) (by decide) (Nat.le_of_ble_eq_true rfl) (Nat.le_of_ble_eq_true rfl) ?_
  change MW G mX6_init _ _ _ _ _ _ hx14 _ _
  refine r_putr dX6_init_59 flX6_44 (Or.inr ⟨rfl, rfl⟩) rfl rfl ?_
  change MW G mX6_init _ _ _ _ _ _ hx15 _ _
  refine r_aload_n dX6_init_62 rfl rfl ?_
  refine r_newN (ci := 1) (n := 12) dX6_init_63 (by decide) klX6_27 kn_1 ki_1 rfl (by decide) (Nat.le_of_ble_eq_true rfl) (Nat.le_of_ble_eq_true rfl) ?_
  change MW G mX6_init _ _ _ _ _ _ hx16 _ _
  refine r_dup dX6_init_66 ?_
  refine r_callI (rest := [.ref 12, .ref 0]) (c_X1_init (a := 12) (n := 13) rfl rfl (by decide)) dX6_init_67 lkX6_29 rfl rfl (Nat.le_of_ble_eq_true rfl) (by decide) (Nat.le_of_ble_eq_true rfl) (Nat.le_of_ble_eq_true rfl) ?_
  change MW G mX6_init _ _ _ _ _ _ hx17 _ _
  refine r_putr dX6_init_70 flX6_48 (Or.inl rfl) rfl rfl ?_
  change MW G mX6_init _ _ _ _ _ _ hx18 _ _
  refine r_aload_n dX6_init_73 rfl rfl ?_
  refine r_newN (ci := 1) (n := 14) dX6_init_74 (by decide) klX6_27 kn_1 ki_1 rfl (by decide) (Nat.le_of_ble_eq_true rfl) (Nat.le_of_ble_eq_true rfl) ?_
  change MW G mX6_init _ _ _ _ _ _ hx19 _ _
  refine r_dup dX6_init_77 ?_
  refine r_callI (rest := [.ref 14, .ref 0]) (c_X1_init (a := 14) (n := 15) rfl rfl (by decide)) dX6_init_78 lkX6_29 rfl rfl (Nat.le_of_ble_eq_true rfl) (by decide) (Nat.le_of_ble_eq_true rfl) (Nat.le_of_ble_eq_true rfl) ?_
  change MW G mX6_init _ _ _ _ _ _ hx20 _ _
  refine r_putr dX6_init_81 flX6_51 (Or.inl rfl) rfl rfl ?_
  change MW G mX6_init _ _ _ _ _ _ hx21 _ _
  refine r_aload_n dX6_init_84 rfl rfl ?_
  refine r_iconst (x := 0) dX6_init_85 (by decide) ?_
  refine r_puti dX6_init_86 flX6_54 (Or.inl rfl) (Or.inl rfl) rfl ?_
  change MW G mX6_init _ _ _ _ _ _ hx22 _ _
  refine r_aload_n dX6_init_89 rfl rfl ?_
  refine r_iconst (x := 0) dX6_init_90 (by decide) ?_
  refine r_puti dX6_init_91 flX6_58 (Or.inl rfl) (Or.inl rfl) rfl ?_
  change MW G mX6_init _ _ _ _ _ _ hx23 _ _
  refine r_aload_n dX6_init_94 rfl rfl ?_
  refine r_iconst (x := 0) dX6_init_95 (by decide) ?_
  refine r_puti dX6_init_96 flX6_61 (Or.inl rfl) (Or.inl rfl) rfl ?_
  change MW G mX6_init _ _ _ _ _ _ hx24 _ _
  refine r_aload_n dX6_init_99 rfl rfl ?_
  refine r_iconst (x := 0) dX6_init_100 (by decide) ?_
  refine r_puti dX6_init_101 flX6_64 (Or.inl rfl) (Or.inl rfl) rfl ?_
  change MW G mX6_init _ _ _ _ _ _ hx25 _ _
  refine r_aload_n dX6_init_104 rfl rfl ?_
  refine r_iconst (x := 0) dX6_init_105 (by decide) ?_
  refine r_puti dX6_init_106 flX6_67 (Or.inl rfl) (Or.inr ⟨rfl, by decide⟩) rfl ?_
  change MW G mX6_init _ _ _ _ _ _ hx26 _ _
  refine r_iconst (x := 0) dX6_init_109 (by decide) ?_
  refine r_istore_n dX6_init_110 rfl (by decide) rfl ?_
  refine r_iload_n dX6_init_111 rfl rfl ?_
  refine r_iconst (x := 4) dX6_init_112 (by decide) ?_
  refine r_icmp_ge (tgt := 135) dX6_init_113 (by decide) (fun hz => absurd hz (by decide)) (fun _ => ?_)
  refine r_aload_n dX6_init_116 rfl rfl ?_
  refine r_getr (b := 1) dX6_init_117 flX6_13 rfl rfl (by decide +kernel) ?_
  refine r_iload_n dX6_init_120 rfl rfl ?_
  refine r_newN (ci := 4) (n := 16) dX6_init_121 (by decide) klX6_11 kn_4 ki_4 rfl (by decide) (Nat.le_of_ble_eq_true rfl) (Nat.le_of_ble_eq_true rfl) ?_
  change MW G mX6_init _ _ _ _ _ _ hx27 _ _
  refine r_dup dX6_init_124 ?_
  refine r_callI (rest := [.ref 16, .int 0, .ref 1]) (c_X4_init (a := 16) (n := 17) rfl rfl (by decide)) dX6_init_125 lkX6_71 rfl rfl (Nat.le_of_ble_eq_true rfl) (by decide) (Nat.le_of_ble_eq_true rfl) (Nat.le_of_ble_eq_true rfl) ?_
  change MW G mX6_init _ _ _ _ _ _ hx28 _ _
  refine r_aast (ti := 3) (ci := 4) dX6_init_128 (by decide) rfl rfl rfl (m_in_of (by decide)) ?_
  change MW G mX6_init _ _ _ _ _ _ hx29 _ _
  refine r_iinc (y := 1) dX6_init_129 rfl (by decide) (by decide) (L' := [.ref 0, .int 1]) rfl ?_
  refine r_goto (tgt := 111) dX6_init_132 (by decide) ?_
  refine r_iload_n dX6_init_111 rfl rfl ?_
  refine r_iconst (x := 4) dX6_init_112 (by decide) ?_
  refine r_icmp_ge (tgt := 135) dX6_init_113 (by decide) (fun hz => absurd hz (by decide)) (fun _ => ?_)
  refine r_aload_n dX6_init_116 rfl rfl ?_
  refine r_getr (b := 1) dX6_init_117 flX6_13 rfl rfl (by decide +kernel) ?_
  refine r_iload_n dX6_init_120 rfl rfl ?_
  refine r_newN (ci := 4) (n := 26) dX6_init_121 (by decide) klX6_11 kn_4 ki_4 rfl (by decide) (Nat.le_of_ble_eq_true rfl) (Nat.le_of_ble_eq_true rfl) ?_
  change MW G mX6_init _ _ _ _ _ _ hx30 _ _
  refine r_dup dX6_init_124 ?_
  refine r_callI (rest := [.ref 26, .int 1, .ref 1]) (c_X4_init (a := 26) (n := 27) rfl rfl (by decide)) dX6_init_125 lkX6_71 rfl rfl (Nat.le_of_ble_eq_true rfl) (by decide) (Nat.le_of_ble_eq_true rfl) (Nat.le_of_ble_eq_true rfl) ?_
  change MW G mX6_init _ _ _ _ _ _ hx31 _ _
  refine r_aast (ti := 3) (ci := 4) dX6_init_128 (by decide) rfl rfl rfl (m_in_of (by decide)) ?_
  change MW G mX6_init _ _ _ _ _ _ hx32 _ _
  refine r_iinc (y := 1) dX6_init_129 rfl (by decide) (by decide) (L' := [.ref 0, .int 2]) rfl ?_
  refine r_goto (tgt := 111) dX6_init_132 (by decide) ?_
  refine r_iload_n dX6_init_111 rfl rfl ?_
  refine r_iconst (x := 4) dX6_init_112 (by decide) ?_
  refine r_icmp_ge (tgt := 135) dX6_init_113 (by decide) (fun hz => absurd hz (by decide)) (fun _ => ?_)
  refine r_aload_n dX6_init_116 rfl rfl ?_
  refine r_getr (b := 1) dX6_init_117 flX6_13 rfl rfl (by decide +kernel) ?_
  refine r_iload_n dX6_init_120 rfl rfl ?_
  refine r_newN (ci := 4) (n := 36) dX6_init_121 (by decide) klX6_11 kn_4 ki_4 rfl (by decide) (Nat.le_of_ble_eq_true rfl) (Nat.le_of_ble_eq_true rfl) ?_
  change MW G mX6_init _ _ _ _ _ _ hx33 _ _
  refine r_dup dX6_init_124 ?_
  refine r_callI (rest := [.ref 36, .int 2, .ref 1]) (c_X4_init (a := 36) (n := 37) rfl rfl (by decide)) dX6_init_125 lkX6_71 rfl rfl (Nat.le_of_ble_eq_true rfl) (by decide) (Nat.le_of_ble_eq_true rfl) (Nat.le_of_ble_eq_true rfl) ?_
  change MW G mX6_init _ _ _ _ _ _ hx34 _ _
  refine r_aast (ti := 3) (ci := 4) dX6_init_128 (by decide) rfl rfl rfl (m_in_of (by decide)) ?_
  change MW G mX6_init _ _ _ _ _ _ hx35 _ _
  refine r_iinc (y := 1) dX6_init_129 rfl (by decide) (by decide) (L' := [.ref 0, .int 3]) rfl ?_
  refine r_goto (tgt := 111) dX6_init_132 (by decide) ?_
  refine r_iload_n dX6_init_111 rfl rfl ?_
  refine r_iconst (x := 4) dX6_init_112 (by decide) ?_
  refine r_icmp_ge (tgt := 135) dX6_init_113 (by decide) (fun hz => absurd hz (by decide)) (fun _ => ?_)
  refine r_aload_n dX6_init_116 rfl rfl ?_
  refine r_getr (b := 1) dX6_init_117 flX6_13 rfl rfl (by decide +kernel) ?_
  refine r_iload_n dX6_init_120 rfl rfl ?_
  refine r_newN (ci := 4) (n := 46) dX6_init_121 (by decide) klX6_11 kn_4 ki_4 rfl (by decide) (Nat.le_of_ble_eq_true rfl) (Nat.le_of_ble_eq_true rfl) ?_
  change MW G mX6_init _ _ _ _ _ _ hx36 _ _
  refine r_dup dX6_init_124 ?_
  refine r_callI (rest := [.ref 46, .int 3, .ref 1]) (c_X4_init (a := 46) (n := 47) rfl rfl (by decide)) dX6_init_125 lkX6_71 rfl rfl (Nat.le_of_ble_eq_true rfl) (by decide) (Nat.le_of_ble_eq_true rfl) (Nat.le_of_ble_eq_true rfl) ?_
  change MW G mX6_init _ _ _ _ _ _ hx37 _ _
  refine r_aast (ti := 3) (ci := 4) dX6_init_128 (by decide) rfl rfl rfl (m_in_of (by decide)) ?_
  change MW G mX6_init _ _ _ _ _ _ hx38 _ _
  refine r_iinc (y := 1) dX6_init_129 rfl (by decide) (by decide) (L' := [.ref 0, .int 4]) rfl ?_
  refine r_goto (tgt := 111) dX6_init_132 (by decide) ?_
  refine r_iload_n dX6_init_111 rfl rfl ?_
  refine r_iconst (x := 4) dX6_init_112 (by decide) ?_
  refine r_icmp_ge (tgt := 135) dX6_init_113 (by decide) (fun _ => ?_) (fun hz => absurd (by decide) hz)
  refine r_iconst (x := 0) dX6_init_135 (by decide) ?_
  refine r_istore_n dX6_init_136 rfl (by decide) rfl ?_
  refine r_iload_n dX6_init_137 rfl rfl ?_
  refine r_bipush (x := 8) dX6_init_138 (by decide) ?_
  refine r_icmp_ge (tgt := 162) dX6_init_140 (by decide) (fun hz => absurd hz (by decide)) (fun _ => ?_)
  refine r_aload_n dX6_init_143 rfl rfl ?_
  refine r_getr (b := 2) dX6_init_144 flX6_19 rfl rfl (by decide +kernel) ?_
  refine r_iload_n dX6_init_147 rfl rfl ?_
  refine r_newN (ci := 3) (n := 56) dX6_init_148 (by decide) klX6_17 kn_3 ki_3 rfl (by decide) (Nat.le_of_ble_eq_true rfl) (Nat.le_of_ble_eq_true rfl) ?_
  change MW G mX6_init _ _ _ _ _ _ hx39 _ _
  refine r_dup dX6_init_151 ?_
  refine r_callI (rest := [.ref 56, .int 0, .ref 2]) (c_X3_init (a := 56) (n := 57) rfl rfl (by decide)) dX6_init_152 lkX6_72 rfl rfl (Nat.le_of_ble_eq_true rfl) (by decide) (Nat.le_of_ble_eq_true rfl) (Nat.le_of_ble_eq_true rfl) ?_
  change MW G mX6_init _ _ _ _ _ _ hx40 _ _
  refine r_aast (ti := 4) (ci := 3) dX6_init_155 (by decide) rfl rfl rfl (m_in_of (by decide)) ?_
  change MW G mX6_init _ _ _ _ _ _ hx41 _ _
  refine r_iinc (y := 1) dX6_init_156 rfl (by decide) (by decide) (L' := [.ref 0, .int 1]) rfl ?_
  refine r_goto (tgt := 137) dX6_init_159 (by decide) ?_
  refine r_iload_n dX6_init_137 rfl rfl ?_
  refine r_bipush (x := 8) dX6_init_138 (by decide) ?_
  refine r_icmp_ge (tgt := 162) dX6_init_140 (by decide) (fun hz => absurd hz (by decide)) (fun _ => ?_)
  refine r_aload_n dX6_init_143 rfl rfl ?_
  refine r_getr (b := 2) dX6_init_144 flX6_19 rfl rfl (by decide +kernel) ?_
  refine r_iload_n dX6_init_147 rfl rfl ?_
  refine r_newN (ci := 3) (n := 57) dX6_init_148 (by decide) klX6_17 kn_3 ki_3 rfl (by decide) (Nat.le_of_ble_eq_true rfl) (Nat.le_of_ble_eq_true rfl) ?_
  change MW G mX6_init _ _ _ _ _ _ hx42 _ _
  refine r_dup dX6_init_151 ?_
  refine r_callI (rest := [.ref 57, .int 1, .ref 2]) (c_X3_init (a := 57) (n := 58) rfl rfl (by decide)) dX6_init_152 lkX6_72 rfl rfl (Nat.le_of_ble_eq_true rfl) (by decide) (Nat.le_of_ble_eq_true rfl) (Nat.le_of_ble_eq_true rfl) ?_
  change MW G mX6_init _ _ _ _ _ _ hx43 _ _
  refine r_aast (ti := 4) (ci := 3) dX6_init_155 (by decide) rfl rfl rfl (m_in_of (by decide)) ?_
  change MW G mX6_init _ _ _ _ _ _ hx44 _ _
  refine r_iinc (y := 1) dX6_init_156 rfl (by decide) (by decide) (L' := [.ref 0, .int 2]) rfl ?_
  refine r_goto (tgt := 137) dX6_init_159 (by decide) ?_
  refine r_iload_n dX6_init_137 rfl rfl ?_
  refine r_bipush (x := 8) dX6_init_138 (by decide) ?_
  refine r_icmp_ge (tgt := 162) dX6_init_140 (by decide) (fun hz => absurd hz (by decide)) (fun _ => ?_)
  refine r_aload_n dX6_init_143 rfl rfl ?_
  refine r_getr (b := 2) dX6_init_144 flX6_19 rfl rfl (by decide +kernel) ?_
  refine r_iload_n dX6_init_147 rfl rfl ?_
  refine r_newN (ci := 3) (n := 58) dX6_init_148 (by decide) klX6_17 kn_3 ki_3 rfl (by decide) (Nat.le_of_ble_eq_true rfl) (Nat.le_of_ble_eq_true rfl) ?_
  change MW G mX6_init _ _ _ _ _ _ hx45 _ _
  refine r_dup dX6_init_151 ?_
  refine r_callI (rest := [.ref 58, .int 2, .ref 2]) (c_X3_init (a := 58) (n := 59) rfl rfl (by decide)) dX6_init_152 lkX6_72 rfl rfl (Nat.le_of_ble_eq_true rfl) (by decide) (Nat.le_of_ble_eq_true rfl) (Nat.le_of_ble_eq_true rfl) ?_
  change MW G mX6_init _ _ _ _ _ _ hx46 _ _
  refine r_aast (ti := 4) (ci := 3) dX6_init_155 (by decide) rfl rfl rfl (m_in_of (by decide)) ?_
  change MW G mX6_init _ _ _ _ _ _ hx47 _ _
  refine r_iinc (y := 1) dX6_init_156 rfl (by decide) (by decide) (L' := [.ref 0, .int 3]) rfl ?_
  refine r_goto (tgt := 137) dX6_init_159 (by decide) ?_
  refine r_iload_n dX6_init_137 rfl rfl ?_
  refine r_bipush (x := 8) dX6_init_138 (by decide) ?_
  refine r_icmp_ge (tgt := 162) dX6_init_140 (by decide) (fun hz => absurd hz (by decide)) (fun _ => ?_)
  refine r_aload_n dX6_init_143 rfl rfl ?_
  refine r_getr (b := 2) dX6_init_144 flX6_19 rfl rfl (by decide +kernel) ?_
  refine r_iload_n dX6_init_147 rfl rfl ?_
  refine r_newN (ci := 3) (n := 59) dX6_init_148 (by decide) klX6_17 kn_3 ki_3 rfl (by decide) (Nat.le_of_ble_eq_true rfl) (Nat.le_of_ble_eq_true rfl) ?_
  change MW G mX6_init _ _ _ _ _ _ hx48 _ _
  refine r_dup dX6_init_151 ?_
  refine r_callI (rest := [.ref 59, .int 3, .ref 2]) (c_X3_init (a := 59) (n := 60) rfl rfl (by decide)) dX6_init_152 lkX6_72 rfl rfl (Nat.le_of_ble_eq_true rfl) (by decide) (Nat.le_of_ble_eq_true rfl) (Nat.le_of_ble_eq_true rfl) ?_
  change MW G mX6_init _ _ _ _ _ _ hx49 _ _
  refine r_aast (ti := 4) (ci := 3) dX6_init_155 (by decide) rfl rfl rfl (m_in_of (by decide)) ?_
  change MW G mX6_init _ _ _ _ _ _ hx50 _ _
  refine r_iinc (y := 1) dX6_init_156 rfl (by decide) (by decide) (L' := [.ref 0, .int 4]) rfl ?_
  refine r_goto (tgt := 137) dX6_init_159 (by decide) ?_
  refine r_iload_n dX6_init_137 rfl rfl ?_
  refine r_bipush (x := 8) dX6_init_138 (by decide) ?_
  refine r_icmp_ge (tgt := 162) dX6_init_140 (by decide) (fun hz => absurd hz (by decide)) (fun _ => ?_)
  refine r_aload_n dX6_init_143 rfl rfl ?_
  refine r_getr (b := 2) dX6_init_144 flX6_19 rfl rfl (by decide +kernel) ?_
  refine r_iload_n dX6_init_147 rfl rfl ?_
  refine r_newN (ci := 3) (n := 60) dX6_init_148 (by decide) klX6_17 kn_3 ki_3 rfl (by decide) (Nat.le_of_ble_eq_true rfl) (Nat.le_of_ble_eq_true rfl) ?_
  change MW G mX6_init _ _ _ _ _ _ hx51 _ _
  refine r_dup dX6_init_151 ?_
  refine r_callI (rest := [.ref 60, .int 4, .ref 2]) (c_X3_init (a := 60) (n := 61) rfl rfl (by decide)) dX6_init_152 lkX6_72 rfl rfl (Nat.le_of_ble_eq_true rfl) (by decide) (Nat.le_of_ble_eq_true rfl) (Nat.le_of_ble_eq_true rfl) ?_
  change MW G mX6_init _ _ _ _ _ _ hx52 _ _
  refine r_aast (ti := 4) (ci := 3) dX6_init_155 (by decide) rfl rfl rfl (m_in_of (by decide)) ?_
  change MW G mX6_init _ _ _ _ _ _ hx53 _ _
  refine r_iinc (y := 1) dX6_init_156 rfl (by decide) (by decide) (L' := [.ref 0, .int 5]) rfl ?_
  refine r_goto (tgt := 137) dX6_init_159 (by decide) ?_
  refine r_iload_n dX6_init_137 rfl rfl ?_
  refine r_bipush (x := 8) dX6_init_138 (by decide) ?_
  refine r_icmp_ge (tgt := 162) dX6_init_140 (by decide) (fun hz => absurd hz (by decide)) (fun _ => ?_)
  refine r_aload_n dX6_init_143 rfl rfl ?_
  refine r_getr (b := 2) dX6_init_144 flX6_19 rfl rfl (by decide +kernel) ?_
  refine r_iload_n dX6_init_147 rfl rfl ?_
  refine r_newN (ci := 3) (n := 61) dX6_init_148 (by decide) klX6_17 kn_3 ki_3 rfl (by decide) (Nat.le_of_ble_eq_true rfl) (Nat.le_of_ble_eq_true rfl) ?_
  change MW G mX6_init _ _ _ _ _ _ hx54 _ _
  refine r_dup dX6_init_151 ?_
  refine r_callI (rest := [.ref 61, .int 5, .ref 2]) (c_X3_init (a := 61) (n := 62) rfl rfl (by decide)) dX6_init_152 lkX6_72 rfl rfl (Nat.le_of_ble_eq_true rfl) (by decide) (Nat.le_of_ble_eq_true rfl) (Nat.le_of_ble_eq_true rfl) ?_
  change MW G mX6_init _ _ _ _ _ _ hx55 _ _
  refine r_aast (ti := 4) (ci := 3) dX6_init_155 (by decide) rfl rfl rfl (m_in_of (by decide)) ?_
  change MW G mX6_init _ _ _ _ _ _ hx56 _ _
  refine r_iinc (y := 1) dX6_init_156 rfl (by decide) (by decide) (L' := [.ref 0, .int 6]) rfl ?_
  refine r_goto (tgt := 137) dX6_init_159 (by decide) ?_
  refine r_iload_n dX6_init_137 rfl rfl ?_
  refine r_bipush (x := 8) dX6_init_138 (by decide) ?_
  refine r_icmp_ge (tgt := 162) dX6_init_140 (by decide) (fun hz => absurd hz (by decide)) (fun _ => ?_)
  refine r_aload_n dX6_init_143 rfl rfl ?_
  refine r_getr (b := 2) dX6_init_144 flX6_19 rfl rfl (by decide +kernel) ?_
  refine r_iload_n dX6_init_147 rfl rfl ?_
  refine r_newN (ci := 3) (n := 62) dX6_init_148 (by decide) klX6_17 kn_3 ki_3 rfl (by decide) (Nat.le_of_ble_eq_true rfl) (Nat.le_of_ble_eq_true rfl) ?_
  change MW G mX6_init _ _ _ _ _ _ hx57 _ _
  refine r_dup dX6_init_151 ?_
  refine r_callI (rest := [.ref 62, .int 6, .ref 2]) (c_X3_init (a := 62) (n := 63) rfl rfl (by decide)) dX6_init_152 lkX6_72 rfl rfl (Nat.le_of_ble_eq_true rfl) (by decide) (Nat.le_of_ble_eq_true rfl) (Nat.le_of_ble_eq_true rfl) ?_
  change MW G mX6_init _ _ _ _ _ _ hx58 _ _
  refine r_aast (ti := 4) (ci := 3) dX6_init_155 (by decide) rfl rfl rfl (m_in_of (by decide)) ?_
  change MW G mX6_init _ _ _ _ _ _ hx59 _ _
  refine r_iinc (y := 1) dX6_init_156 rfl (by decide) (by decide) (L' := [.ref 0, .int 7]) rfl ?_
  refine r_goto (tgt := 137) dX6_init_159 (by decide) ?_
  refine r_iload_n dX6_init_137 rfl rfl ?_
  refine r_bipush (x := 8) dX6_init_138 (by decide) ?_
  refine r_icmp_ge (tgt := 162) dX6_init_140 (by decide) (fun hz => absurd hz (by decide)) (fun _ => ?_)
  refine r_aload_n dX6_init_143 rfl rfl ?_
  refine r_getr (b := 2) dX6_init_144 flX6_19 rfl rfl (by decide +kernel) ?_
  refine r_iload_n dX6_init_147 rfl rfl ?_
  refine r_newN (ci := 3) (n := 63) dX6_init_148 (by decide) klX6_17 kn_3 ki_3 rfl (by decide) (Nat.le_of_ble_eq_true rfl) (Nat.le_of_ble_eq_true rfl) ?_
  change MW G mX6_init _ _ _ _ _ _ hx60 _ _
  refine r_dup dX6_init_151 ?_
  refine r_callI (rest := [.ref 63, .int 7, .ref 2]) (c_X3_init (a := 63) (n := 64) rfl rfl (by decide)) dX6_init_152 lkX6_72 rfl rfl (Nat.le_of_ble_eq_true rfl) (by decide) (Nat.le_of_ble_eq_true rfl) (Nat.le_of_ble_eq_true rfl) ?_
  change MW G mX6_init _ _ _ _ _ _ hx61 _ _
  refine r_aast (ti := 4) (ci := 3) dX6_init_155 (by decide) rfl rfl rfl (m_in_of (by decide)) ?_
  change MW G mX6_init _ _ _ _ _ _ hx62 _ _
  refine r_iinc (y := 1) dX6_init_156 rfl (by decide) (by decide) (L' := [.ref 0, .int 8]) rfl ?_
  refine r_goto (tgt := 137) dX6_init_159 (by decide) ?_
  refine r_iload_n dX6_init_137 rfl rfl ?_
  refine r_bipush (x := 8) dX6_init_138 (by decide) ?_
  refine r_icmp_ge (tgt := 162) dX6_init_140 (by decide) (fun _ => ?_) (fun hz => absurd (by decide) hz)
  exact r_ret dX6_init_162 rfl rfl
def hm0 : mH := m_new hx62 (.inl 7)
def hm1 : mH := m_new hm0 (.inr (0, 4))
def hm2 : mH := hpr hm1 64 2 65
def hm3 : mH := m_new hm2 (.inr (0, 4))
def hm4 : mH := hpr hm3 64 3 66
def hm5 : mH := m_new hm4 (.inr (0, 4))
def hm6 : mH := hpr hm5 64 4 67
def hm7 : mH := m_new hm6 (.inr (0, 24))
def hm8 : mH := hpr hm7 64 5 68
def hm9 : mH := m_new hm8 (.inr (0, 24))
def hm10 : mH := hpr hm9 64 6 69
def hm11 : mH := m_new hm10 (.inr (0, 24))
def hm12 : mH := hpr hm11 64 7 70
def hm13 : mH := m_new hm12 (.inr (0, 24))
def hm14 : mH := hpr hm13 64 8 71
def hm15 : mH := m_new hm14 (.inr (0, 24))
def hm16 : mH := hpr hm15 64 9 72
def hm17 : mH := m_new hm16 (.inr (0, 24))
def hm18 : mH := hpr hm17 64 10 73
def hm19 : mH := m_new hm18 (.inr (0, 20))
def hm20 : mH := hpr hm19 64 11 74
def hm21 : mH := m_new hm20 (.inr (0, 20))
def hm22 : mH := hpr hm21 64 12 75
def hm23 : mH := m_new hm22 (.inr (0, 288))
def hm24 : mH := hpr hm23 64 14 76
def hm25 : mH := m_new hm24 (.inr (0, 288))
def hm26 : mH := hpr hm25 64 15 77
def hm27 : mH := m_new hm26 (.inr (0, 288))
def hm28 : mH := hpr hm27 64 17 78
def hm29 : mH := m_new hm28 (.inr (0, 6))
def hm30 : mH := hpr hm29 64 18 79
def hm31 : mH := m_new hm30 (.inr (0, 8))
def hm32 : mH := hpr hm31 64 21 80
def hm33 : mH := m_new hm32 (.inr (0, 8))
def hm34 : mH := hpr hm33 64 22 81
def hm35 : mH := m_new hm34 (.inr (0, 8))
def hm36 : mH := hpr hm35 64 23 82
def hm37 : mH := m_new hm36 (.inr (0, 8))
def hm38 : mH := hpr hm37 64 24 83
def hm39 : mH := m_new hm38 (.inr (0, 8))
def hm40 : mH := hpr hm39 64 25 84
def hm41 : mH := m_new hm40 (.inr (0, 8))
def hm42 : mH := hpr hm41 64 26 85
def hm43 : mH := m_new hm42 (.inr (1, 8))
def hm44 : mH := hpr hm43 64 27 86
def hm45 : mH := m_new hm44 (.inr (0, 288))
def hm46 : mH := hpr hm45 64 28 87
def hm47 : mH := m_new hm46 (.inr (0, 6))
def hm48 : mH := hpr hm47 64 29 88
def hm49 : mH := m_new hm48 (.inr (0, 6))
def hm50 : mH := hpr hm49 64 30 89
set_option maxRecDepth 100000 in
set_option maxHeartbeats 4000000 in
theorem c_X7_init {G : mG} : MC G mX7_init 3 25 1422 [.ref 64] hm0 none hm50 := by
  refine MC_intro mlX7_init (Nat.le_of_ble_eq_true rfl) rfl rfl trivial ?_
  refine r_aload_n dX7_init_0 rfl rfl ?_
  refine r_obj dX7_init_1 lkX7_3 wI_obj wC_obj (Nat.le_of_ble_eq_true rfl) (by decide) ?_
  refine r_aload_n dX7_init_4 rfl rfl ?_
  refine r_iconst (x := 4) dX7_init_5 (by decide) ?_
  refine r_newaN (N := 4) (ti := 0) (nn := 65) dX7_init_6 (by decide) rfl ka_0 (by decide) (by decide) (by decide) rfl (by decide) (Nat.le_of_ble_eq_true rfl) (Nat.le_of_ble_eq_true rfl) ?_
  change MW G mX7_init _ _ _ _ _ _ hm1 _ _
  refine r_putr dX7_init_8 flX7_9 (Or.inr ⟨rfl, rfl⟩) rfl rfl ?_
  change MW G mX7_init _ _ _ _ _ _ hm2 _ _
  refine r_aload_n dX7_init_11 rfl rfl ?_
  refine r_iconst (x := 4) dX7_init_12 (by decide) ?_
  refine r_newaN (N := 4) (ti := 0) (nn := 66) dX7_init_13 (by decide) rfl ka_0 (by decide) (by decide) (by decide) rfl (by decide) (Nat.le_of_ble_eq_true rfl) (Nat.le_of_ble_eq_true rfl) ?_
  change MW G mX7_init _ _ _ _ _ _ hm3 _ _
  refine r_putr dX7_init_15 flX7_15 (Or.inr ⟨rfl, rfl⟩) rfl rfl ?_
  change MW G mX7_init _ _ _ _ _ _ hm4 _ _
  refine r_aload_n dX7_init_18 rfl rfl ?_
  refine r_iconst (x := 4) dX7_init_19 (by decide) ?_
  refine r_newaN (N := 4) (ti := 0) (nn := 67) dX7_init_20 (by decide) rfl ka_0 (by decide) (by decide) (by decide) rfl (by decide) (Nat.le_of_ble_eq_true rfl) (Nat.le_of_ble_eq_true rfl) ?_
  change MW G mX7_init _ _ _ _ _ _ hm5 _ _
  refine r_putr dX7_init_22 flX7_18 (Or.inr ⟨rfl, rfl⟩) rfl rfl ?_
  change MW G mX7_init _ _ _ _ _ _ hm6 _ _
  refine r_aload_n dX7_init_25 rfl rfl ?_
  refine r_bipush (x := 24) dX7_init_26 (by decide) ?_
  refine r_newaN (N := 24) (ti := 0) (nn := 68) dX7_init_28 (by decide) rfl ka_0 (by decide) (by decide) (by decide) rfl (by decide) (Nat.le_of_ble_eq_true rfl) (Nat.le_of_ble_eq_true rfl) ?_
  change MW G mX7_init _ _ _ _ _ _ hm7 _ _
  refine r_putr dX7_init_30 flX7_21 (Or.inr ⟨rfl, rfl⟩) rfl rfl ?_
  change MW G mX7_init _ _ _ _ _ _ hm8 _ _
  refine r_aload_n dX7_init_33 rfl rfl ?_
  refine r_bipush (x := 24) dX7_init_34 (by decide) ?_
  refine r_newaN (N := 24) (ti := 0) (nn := 69) dX7_init_36 (by decide) rfl ka_0 (by decide) (by decide) (by decide) rfl (by decide) (Nat.le_of_ble_eq_true rfl) (Nat.le_of_ble_eq_true rfl) ?_
  change MW G mX7_init _ _ _ _ _ _ hm9 _ _
  refine r_putr dX7_init_38 flX7_24 (Or.inr ⟨rfl, rfl⟩) rfl rfl ?_
  change MW G mX7_init _ _ _ _ _ _ hm10 _ _
  refine r_aload_n dX7_init_41 rfl rfl ?_
  refine r_bipush (x := 24) dX7_init_42 (by decide) ?_
  refine r_newaN (N := 24) (ti := 0) (nn := 70) dX7_init_44 (by decide) rfl ka_0 (by decide) (by decide) (by decide) rfl (by decide) (Nat.le_of_ble_eq_true rfl) (Nat.le_of_ble_eq_true rfl) ?_
  change MW G mX7_init _ _ _ _ _ _ hm11 _ _
  refine r_putr dX7_init_46 flX7_27 (Or.inr ⟨rfl, rfl⟩) rfl rfl ?_
  change MW G mX7_init _ _ _ _ _ _ hm12 _ _
  refine r_aload_n dX7_init_49 rfl rfl ?_
  refine r_bipush (x := 24) dX7_init_50 (by decide) ?_
  refine r_newaN (N := 24) (ti := 0) (nn := 71) dX7_init_52 (by decide) rfl ka_0 (by decide) (by decide) (by decide) rfl (by decide) (Nat.le_of_ble_eq_true rfl) (Nat.le_of_ble_eq_true rfl) ?_
  change MW G mX7_init _ _ _ _ _ _ hm13 _ _
  refine r_putr dX7_init_54 flX7_30 (Or.inr ⟨rfl, rfl⟩) rfl rfl ?_
  change MW G mX7_init _ _ _ _ _ _ hm14 _ _
  refine r_aload_n dX7_init_57 rfl rfl ?_
  refine r_bipush (x := 24) dX7_init_58 (by decide) ?_
  refine r_newaN (N := 24) (ti := 0) (nn := 72) dX7_init_60 (by decide) rfl ka_0 (by decide) (by decide) (by decide) rfl (by decide) (Nat.le_of_ble_eq_true rfl) (Nat.le_of_ble_eq_true rfl) ?_
  change MW G mX7_init _ _ _ _ _ _ hm15 _ _
  refine r_putr dX7_init_62 flX7_33 (Or.inr ⟨rfl, rfl⟩) rfl rfl ?_
  change MW G mX7_init _ _ _ _ _ _ hm16 _ _
  refine r_aload_n dX7_init_65 rfl rfl ?_
  refine r_bipush (x := 24) dX7_init_66 (by decide) ?_
  refine r_newaN (N := 24) (ti := 0) (nn := 73) dX7_init_68 (by decide) rfl ka_0 (by decide) (by decide) (by decide) rfl (by decide) (Nat.le_of_ble_eq_true rfl) (Nat.le_of_ble_eq_true rfl) ?_
  change MW G mX7_init _ _ _ _ _ _ hm17 _ _
  refine r_putr dX7_init_70 flX7_36 (Or.inr ⟨rfl, rfl⟩) rfl rfl ?_
  change MW G mX7_init _ _ _ _ _ _ hm18 _ _
  refine r_aload_n dX7_init_73 rfl rfl ?_
  refine r_bipush (x := 20) dX7_init_74 (by decide) ?_
  refine r_newaN (N := 20) (ti := 0) (nn := 74) dX7_init_76 (by decide) rfl ka_0 (by decide) (by decide) (by decide) rfl (by decide) (Nat.le_of_ble_eq_true rfl) (Nat.le_of_ble_eq_true rfl) ?_
  change MW G mX7_init _ _ _ _ _ _ hm19 _ _
  refine r_putr dX7_init_78 flX7_39 (Or.inr ⟨rfl, rfl⟩) rfl rfl ?_
  change MW G mX7_init _ _ _ _ _ _ hm20 _ _
  refine r_aload_n dX7_init_81 rfl rfl ?_
  refine r_bipush (x := 20) dX7_init_82 (by decide) ?_
  refine r_newaN (N := 20) (ti := 0) (nn := 75) dX7_init_84 (by decide) rfl ka_0 (by decide) (by decide) (by decide) rfl (by decide) (Nat.le_of_ble_eq_true rfl) (Nat.le_of_ble_eq_true rfl) ?_
  change MW G mX7_init _ _ _ _ _ _ hm21 _ _
  refine r_putr dX7_init_86 flX7_42 (Or.inr ⟨rfl, rfl⟩) rfl rfl ?_
  change MW G mX7_init _ _ _ _ _ _ hm22 _ _
  refine r_aload_n dX7_init_89 rfl rfl ?_
  refine r_sipush (x := 288) dX7_init_90 (by decide) ?_
  refine r_newaN (N := 288) (ti := 0) (nn := 76) dX7_init_93 (by decide) rfl ka_0 (by decide) (by decide) (by decide) rfl (by decide) (Nat.le_of_ble_eq_true rfl) (Nat.le_of_ble_eq_true rfl) ?_
  change MW G mX7_init _ _ _ _ _ _ hm23 _ _
  refine r_putr dX7_init_95 flX7_45 (Or.inr ⟨rfl, rfl⟩) rfl rfl ?_
  change MW G mX7_init _ _ _ _ _ _ hm24 _ _
  refine r_aload_n dX7_init_98 rfl rfl ?_
  refine r_sipush (x := 288) dX7_init_99 (by decide) ?_
  refine r_newaN (N := 288) (ti := 0) (nn := 77) dX7_init_102 (by decide) rfl ka_0 (by decide) (by decide) (by decide) rfl (by decide) (Nat.le_of_ble_eq_true rfl) (Nat.le_of_ble_eq_true rfl) ?_
  change MW G mX7_init _ _ _ _ _ _ hm25 _ _
  refine r_putr dX7_init_104 flX7_48 (Or.inr ⟨rfl, rfl⟩) rfl rfl ?_
  change MW G mX7_init _ _ _ _ _ _ hm26 _ _
  refine r_aload_n dX7_init_107 rfl rfl ?_
  refine r_sipush (x := 288) dX7_init_108 (by decide) ?_
  refine r_newaN (N := 288) (ti := 0) (nn := 78) dX7_init_111 (by decide) rfl ka_0 (by decide) (by decide) (by decide) rfl (by decide) (Nat.le_of_ble_eq_true rfl) (Nat.le_of_ble_eq_true rfl) ?_
  change MW G mX7_init _ _ _ _ _ _ hm27 _ _
  refine r_putr dX7_init_113 flX7_51 (Or.inr ⟨rfl, rfl⟩) rfl rfl ?_
  change MW G mX7_init _ _ _ _ _ _ hm28 _ _
  refine r_aload_n dX7_init_116 rfl rfl ?_
  refine r_bipush (x := 6) dX7_init_117 (by decide) ?_
  refine r_newaN (N := 6) (ti := 0) (nn := 79) dX7_init_119 (by decide) rfl ka_0 (by decide) (by decide) (by decide) rfl (by decide) (Nat.le_of_ble_eq_true rfl) (Nat.le_of_ble_eq_true rfl) ?_
  change MW G mX7_init _ _ _ _ _ _ hm29 _ _
  refine r_putr dX7_init_121 flX7_54 (Or.inr ⟨rfl, rfl⟩) rfl rfl ?_
  change MW G mX7_init _ _ _ _ _ _ hm30 _ _
  refine r_aload_n dX7_init_124 rfl rfl ?_
  refine r_bipush (x := 8) dX7_init_125 (by decide) ?_
  refine r_newaN (N := 8) (ti := 0) (nn := 80) dX7_init_127 (by decide) rfl ka_0 (by decide) (by decide) (by decide) rfl (by decide) (Nat.le_of_ble_eq_true rfl) (Nat.le_of_ble_eq_true rfl) ?_
  change MW G mX7_init _ _ _ _ _ _ hm31 _ _
  refine r_putr dX7_init_129 flX7_57 (Or.inr ⟨rfl, rfl⟩) rfl rfl ?_
  change MW G mX7_init _ _ _ _ _ _ hm32 _ _
  refine r_aload_n dX7_init_132 rfl rfl ?_
  refine r_bipush (x := 8) dX7_init_133 (by decide) ?_
  refine r_newaN (N := 8) (ti := 0) (nn := 81) dX7_init_135 (by decide) rfl ka_0 (by decide) (by decide) (by decide) rfl (by decide) (Nat.le_of_ble_eq_true rfl) (Nat.le_of_ble_eq_true rfl) ?_
  change MW G mX7_init _ _ _ _ _ _ hm33 _ _
  refine r_putr dX7_init_137 flX7_60 (Or.inr ⟨rfl, rfl⟩) rfl rfl ?_
  change MW G mX7_init _ _ _ _ _ _ hm34 _ _
  refine r_aload_n dX7_init_140 rfl rfl ?_
  refine r_bipush (x := 8) dX7_init_141 (by decide) ?_
  refine r_newaN (N := 8) (ti := 0) (nn := 82) dX7_init_143 (by decide) rfl ka_0 (by decide) (by decide) (by decide) rfl (by decide) (Nat.le_of_ble_eq_true rfl) (Nat.le_of_ble_eq_true rfl) ?_
  change MW G mX7_init _ _ _ _ _ _ hm35 _ _
  refine r_putr dX7_init_145 flX7_63 (Or.inr ⟨rfl, rfl⟩) rfl rfl ?_
  change MW G mX7_init _ _ _ _ _ _ hm36 _ _
  refine r_aload_n dX7_init_148 rfl rfl ?_
  refine r_bipush (x := 8) dX7_init_149 (by decide) ?_
  refine r_newaN (N := 8) (ti := 0) (nn := 83) dX7_init_151 (by decide) rfl ka_0 (by decide) (by decide) (by decide) rfl (by decide) (Nat.le_of_ble_eq_true rfl) (Nat.le_of_ble_eq_true rfl) ?_
  change MW G mX7_init _ _ _ _ _ _ hm37 _ _
  refine r_putr dX7_init_153 flX7_66 (Or.inr ⟨rfl, rfl⟩) rfl rfl ?_
  change MW G mX7_init _ _ _ _ _ _ hm38 _ _
  refine r_aload_n dX7_init_156 rfl rfl ?_
  refine r_bipush (x := 8) dX7_init_157 (by decide) ?_
  refine r_newaN (N := 8) (ti := 0) (nn := 84) dX7_init_159 (by decide) rfl ka_0 (by decide) (by decide) (by decide) rfl (by decide) (Nat.le_of_ble_eq_true rfl) (Nat.le_of_ble_eq_true rfl) ?_
  change MW G mX7_init _ _ _ _ _ _ hm39 _ _
  refine r_putr dX7_init_161 flX7_69 (Or.inr ⟨rfl, rfl⟩) rfl rfl ?_
  change MW G mX7_init _ _ _ _ _ _ hm40 _ _
  refine r_aload_n dX7_init_164 rfl rfl ?_
  refine r_bipush (x := 8) dX7_init_165 (by decide) ?_
  refine r_newaN (N := 8) (ti := 0) (nn := 85) dX7_init_167 (by decide) rfl ka_0 (by decide) (by decide) (by decide) rfl (by decide) (Nat.le_of_ble_eq_true rfl) (Nat.le_of_ble_eq_true rfl) ?_
  change MW G mX7_init _ _ _ _ _ _ hm41 _ _
  refine r_putr dX7_init_169 flX7_72 (Or.inr ⟨rfl, rfl⟩) rfl rfl ?_
  change MW G mX7_init _ _ _ _ _ _ hm42 _ _
  refine r_aload_n dX7_init_172 rfl rfl ?_
  refine r_bipush (x := 8) dX7_init_173 (by decide) ?_
  refine r_newaN (N := 8) (ti := 1) (nn := 86) dX7_init_175 (by decide) rfl ka_1 (by decide) (by decide) (by decide) rfl (by decide) (Nat.le_of_ble_eq_true rfl) (Nat.le_of_ble_eq_true rfl) ?_
  change MW G mX7_init _ _ _ _ _ _ hm43 _ _
  refine r_putr dX7_init_177 flX7_75 (Or.inr ⟨rfl, rfl⟩) rfl rfl ?_
  change MW G mX7_init _ _ _ _ _ _ hm44 _ _
  refine r_aload_n dX7_init_180 rfl rfl ?_
  refine r_sipush (x := 288) dX7_init_181 (by decide) ?_
  refine r_newaN (N := 288) (ti := 0) (nn := 87) dX7_init_184 (by decide) rfl ka_0 (by decide) (by decide) (by decide) rfl (by decide) (Nat.le_of_ble_eq_true rfl) (Nat.le_of_ble_eq_true rfl) ?_
  change MW G mX7_init _ _ _ _ _ _ hm45 _ _
  refine r_putr dX7_init_186 flX7_79 (Or.inr ⟨rfl, rfl⟩) rfl rfl ?_
  change MW G mX7_init _ _ _ _ _ _ hm46 _ _
  refine r_aload_n dX7_init_189 rfl rfl ?_
  refine r_bipush (x := 6) dX7_init_190 (by decide) ?_
  refine r_newaN (N := 6) (ti := 0) (nn := 88) dX7_init_192 (by decide) rfl ka_0 (by decide) (by decide) (by decide) rfl (by decide) (Nat.le_of_ble_eq_true rfl) (Nat.le_of_ble_eq_true rfl) ?_
  change MW G mX7_init _ _ _ _ _ _ hm47 _ _
  refine r_putr dX7_init_194 flX7_82 (Or.inr ⟨rfl, rfl⟩) rfl rfl ?_
  change MW G mX7_init _ _ _ _ _ _ hm48 _ _
  refine r_aload_n dX7_init_197 rfl rfl ?_
  refine r_bipush (x := 6) dX7_init_198 (by decide) ?_
  refine r_newaN (N := 6) (ti := 0) (nn := 89) dX7_init_200 (by decide) rfl ka_0 (by decide) (by decide) (by decide) rfl (by decide) (Nat.le_of_ble_eq_true rfl) (Nat.le_of_ble_eq_true rfl) ?_
  change MW G mX7_init _ _ _ _ _ _ hm49 _ _
  refine r_putr dX7_init_202 flX7_85 (Or.inr ⟨rfl, rfl⟩) rfl rfl ?_
  change MW G mX7_init _ _ _ _ _ _ hm50 _ _
  exact r_ret dX7_init_205 rfl rfl
/-- the heap behind both constructors -/
def m_h0 : mH := hm50
