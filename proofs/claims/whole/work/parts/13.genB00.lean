/-! X6_table -/
def f_X6_table (g : (Nat → Nat → Int32)) : Option (Int32 × (Nat → Nat → Int32)) :=
  (if (g 0 8) < 4 then
(m_let (m_up g 0 12 0) fun g2 =>
(m_let (m_up g2 0 8 ((g2 0 8) + 1)) fun g4 =>
some (((g4 0 8) - 1), g4)))
else
some ((-4), g))
set_option maxRecDepth 100000 in
set_option maxHeartbeats 4000000 in
theorem c_X6_table {G : mG} {g : (Nat → Nat → Int32)} {b : Bool} {R : (Int32 × (Nat → Nat → Int32))} (e : f_X6_table g = some R) : MC G mX6_table 0 0 0 [.ref 0] (m_h g b) (some (.int R.1)) (m_h R.2 b) := by
  refine MC_intro mlX6_table (Nat.le_of_ble_eq_true rfl) ⟨_, rfl⟩ rfl trivial ?_
  unfold f_X6_table at e
  refine r_aload_n dX6_table_0 rfl rfl ?_
  refine q_geti dX6_table_1 flX6_54 rfl rfl ?_
  refine r_iconst (x := 4) dX6_table_4 (by decide) ?_
  refine r_icmp_lt (tgt := 11) dX6_table_5 (by decide) (fun h1 => ?_) (fun h1 => ?_)
  · have e := g_iT h1 e
    refine r_aload_n dX6_table_11 rfl rfl ?_
    refine r_iconst (x := 0) dX6_table_12 (by decide) ?_
    refine q_putiL dX6_table_13 flX6_67 (Or.inl rfl) (Or.inr ⟨rfl, by decide⟩) rfl (fun g2 h3 => ?_)
    have e := g_lt h3 e
    refine r_aload_n dX6_table_16 rfl rfl ?_
    refine r_dup dX6_table_17 ?_
    refine q_geti dX6_table_18 flX6_54 rfl rfl ?_
    refine r_iconst (x := 1) dX6_table_21 (by decide) ?_
    refine r_iadd dX6_table_22 ?_
    refine q_putiL dX6_table_23 flX6_54 (Or.inl rfl) (Or.inl rfl) rfl (fun g4 h5 => ?_)
    have e := g_lt h5 e
    refine r_aload_n dX6_table_26 rfl rfl ?_
    refine q_geti dX6_table_27 flX6_54 rfl rfl ?_
    refine r_iconst (x := 1) dX6_table_30 (by decide) ?_
    refine r_isub dX6_table_31 ?_
    have e := Option.some.inj e
    subst e
    exact r_ret dX6_table_32 rfl rfl
  · have e := g_iF h1 e
    refine r_bipush (x := (-4)) dX6_table_8 (by decide) ?_
    have e := Option.some.inj e
    subst e
    exact r_ret dX6_table_10 rfl rfl
/-! X6_tableAt -/
def f_X6_tableAt (g : (Nat → Nat → Int32)) (b : Bool) (a1 : Int32) : Option (Option Nat) :=
  (if a1 < 0 then
some none
else
(if (g 0 8) ≤ a1 then
some none
else
(if 4 ≤ a1 then
some none
else
(if m_in a1 4 then
((m_fr b 1 a1.toNatClampNeg).bind fun q5 =>
some (some q5)) else none))))
set_option maxRecDepth 100000 in
set_option maxHeartbeats 4000000 in
theorem c_X6_tableAt {G : mG} {g : (Nat → Nat → Int32)} {b : Bool} {a1 : Int32} {R : (Option Nat)} (e : f_X6_tableAt g b a1 = some R) : MC G mX6_tableAt 0 0 0 [.ref 0, .int a1] (m_h g b) (some (va_rf R)) (m_h g b) := by
  refine MC_intro mlX6_tableAt (Nat.le_of_ble_eq_true rfl) (m_okO _) rfl trivial ?_
  unfold f_X6_tableAt at e
  refine r_iload_n dX6_tableAt_0 rfl rfl ?_
  refine r_if_lt (tgt := 26) dX6_tableAt_1 (by decide) (fun h1 => ?_) (fun h1 => ?_)
  · have e := g_iT h1 e
    refine r_null dX6_tableAt_26 ?_
    have e := Option.some.inj e
    subst e
    exact r_ret dX6_tableAt_27 rfl rfl
  · have e := g_iF h1 e
    refine r_iload_n dX6_tableAt_4 rfl rfl ?_
    refine r_aload_n dX6_tableAt_5 rfl rfl ?_
    refine q_geti dX6_tableAt_6 flX6_54 rfl rfl ?_
    refine r_icmp_ge (tgt := 26) dX6_tableAt_9 (by decide) (fun h2 => ?_) (fun h2 => ?_)
    · have e := g_iT h2 e
      refine r_null dX6_tableAt_26 ?_
      have e := Option.some.inj e
      subst e
      exact r_ret dX6_tableAt_27 rfl rfl
    · have e := g_iF h2 e
      refine r_iload_n dX6_tableAt_12 rfl rfl ?_
      refine r_iconst (x := 4) dX6_tableAt_13 (by decide) ?_
      refine r_icmp_ge (tgt := 26) dX6_tableAt_14 (by decide) (fun h3 => ?_) (fun h3 => ?_)
      · have e := g_iT h3 e
        refine r_null dX6_tableAt_26 ?_
        have e := Option.some.inj e
        subst e
        exact r_ret dX6_tableAt_27 rfl rfl
      · have e := g_iF h3 e
        refine r_aload_n dX6_tableAt_17 rfl rfl ?_
        refine q_getr dX6_tableAt_18 flX6_13 rfl rfl (m_fr_0_0 _) ?_
        refine r_iload_n dX6_tableAt_21 rfl rfl ?_
        obtain ⟨h4, e⟩ := g_gd e
        obtain ⟨q5, h6, e⟩ := g_bd e
        refine q_aald dX6_tableAt_22 (by decide) rfl h4 h6 ?_
        refine r_goto (tgt := 27) dX6_tableAt_23 (by decide) ?_
        have e := Option.some.inj e
        subst e
        exact r_ret dX6_tableAt_27 rfl rfl
/-! X4_addColumn -/
def f_X4_addColumn (g : (Nat → Nat → Int32)) (b : Bool) (x : Nat) (a1 : Int32) (a2 : Int32) : Option (Int32 × (Nat → Nat → Int32)) :=
  (if m_S0[x]? = some (.inl 4) then
(if (g x 3) < 6 then
((m_fr b x 0).bind fun q3 =>
((m_len 2 q3).bind fun n5 =>
(if m_in (g x 3) n5 then
((m_fr b q3 (g x 3).toNatClampNeg).bind fun q8 =>
(if m_S0[q8]? = some (.inl 0) then
(m_let (m_up g q8 0 a1) fun g11 =>
(if m_in (g11 x 3) n5 then
((m_fr b q3 (g11 x 3).toNatClampNeg).bind fun q14 =>
(if m_S0[q14]? = some (.inl 0) then
(m_let (m_up g11 q14 1 a2) fun g17 =>
(m_let (m_up g17 x 3 ((g17 x 3) + 1)) fun g19 =>
some (((g19 x 3) - 1), g19))) else none)) else none)) else none)) else none)))
else
some ((-4), g)) else none)
set_option maxRecDepth 100000 in
set_option maxHeartbeats 4000000 in
theorem c_X4_addColumn {G : mG} {g : (Nat → Nat → Int32)} {b : Bool} {x : Nat} {a1 : Int32} {a2 : Int32} {R : (Int32 × (Nat → Nat → Int32))} (e : f_X4_addColumn g b x a1 a2 = some R) : MC G mX4_addColumn 0 0 0 [.ref x, .int a1, .int a2] (m_h g b) (some (.int R.1)) (m_h R.2 b) := by
  refine MC_intro mlX4_addColumn (Nat.le_of_ble_eq_true rfl) ⟨_, rfl⟩ rfl trivial ?_
  unfold f_X4_addColumn at e
  refine r_aload_n dX4_addColumn_0 rfl rfl ?_
  obtain ⟨h1, e⟩ := g_gd e
  refine q_geti dX4_addColumn_1 flX4_24 rfl h1 ?_
  refine r_bipush (x := 6) dX4_addColumn_4 (by decide) ?_
  refine r_icmp_lt (tgt := 12) dX4_addColumn_6 (by decide) (fun h2 => ?_) (fun h2 => ?_)
  · have e := g_iT h2 e
    refine r_aload_n dX4_addColumn_12 rfl rfl ?_
    obtain ⟨q3, h4, e⟩ := g_bd e
    refine q_getr dX4_addColumn_13 flX4_11 rfl h1 h4 ?_
    refine r_aload_n dX4_addColumn_16 rfl rfl ?_
    refine q_geti dX4_addColumn_17 flX4_24 rfl h1 ?_
    obtain ⟨n5, h6, e⟩ := g_bd e
    obtain ⟨h7, e⟩ := g_gd e
    obtain ⟨q8, h9, e⟩ := g_bd e
    refine q_aald dX4_addColumn_20 (by decide) (m_len_s h6) h7 h9 ?_
    refine r_iload_n dX4_addColumn_21 rfl rfl ?_
    obtain ⟨h10, e⟩ := g_gd e
    refine q_putiL dX4_addColumn_22 flX4_35 (Or.inl rfl) (Or.inl rfl) h10 (fun g11 h12 => ?_)
    have e := g_lt h12 e
    refine r_aload_n dX4_addColumn_25 rfl rfl ?_
    refine q_getr dX4_addColumn_26 flX4_11 rfl h1 h4 ?_
    refine r_aload_n dX4_addColumn_29 rfl rfl ?_
    refine q_geti dX4_addColumn_30 flX4_24 rfl h1 ?_
    obtain ⟨h13, e⟩ := g_gd e
    obtain ⟨q14, h15, e⟩ := g_bd e
    refine q_aald dX4_addColumn_33 (by decide) (m_len_s h6) h13 h15 ?_
    refine r_iload_n dX4_addColumn_34 rfl rfl ?_
    obtain ⟨h16, e⟩ := g_gd e
    refine q_putiL dX4_addColumn_35 flX4_38 (Or.inl rfl) (Or.inl rfl) h16 (fun g17 h18 => ?_)
    have e := g_lt h18 e
    refine r_aload_n dX4_addColumn_38 rfl rfl ?_
    refine r_dup dX4_addColumn_39 ?_
    refine q_geti dX4_addColumn_40 flX4_24 rfl h1 ?_
    refine r_iconst (x := 1) dX4_addColumn_43 (by decide) ?_
    refine r_iadd dX4_addColumn_44 ?_
    refine q_putiL dX4_addColumn_45 flX4_24 (Or.inl rfl) (Or.inl rfl) h1 (fun g19 h20 => ?_)
    have e := g_lt h20 e
    refine r_aload_n dX4_addColumn_48 rfl rfl ?_
    refine q_geti dX4_addColumn_49 flX4_24 rfl h1 ?_
    refine r_iconst (x := 1) dX4_addColumn_52 (by decide) ?_
    refine r_isub dX4_addColumn_53 ?_
    have e := Option.some.inj e
    subst e
    exact r_ret dX4_addColumn_54 rfl rfl
  · have e := g_iF h2 e
    refine r_bipush (x := (-4)) dX4_addColumn_9 (by decide) ?_
    have e := Option.some.inj e
    subst e
    exact r_ret dX4_addColumn_11 rfl rfl
/-! X6_column -/
def f_X6_column (g : (Nat → Nat → Int32)) (b : Bool) (a1 : Int32) (a2 : Int32) (a3 : Int32) : Option (Int32 × (Nat → Nat → Int32)) :=
  ((f_X6_tableAt g b a1).bind fun v1 =>
(m_oc v1
(some ((-1), g))
(fun q3 =>
(if a2 = 1 then
((f_X6_tableAt g b a3).bind fun v23 =>
(m_oc v23
(some ((-1), g))
(fun q25 =>
(if a2 < 1 then
some ((-2), g)
else
(if 4 < a2 then
some ((-2), g)
else
(if a2 = 1 then
(if m_S0[q3]? = some (.inl 4) then
(if (g q3 4) ≤ 0 then
(if (g q3 3) < 6 then
(m_let (m_up g 0 12 0) fun g32 =>
((f_X4_addColumn g32 b q3 a2 a3).bind fun v34 =>
some (v34.1, v34.2)))
else
some ((-4), g))
else
some ((-3), g)) else none)
else
(if a3 = 0 then
(if m_S0[q3]? = some (.inl 4) then
(if (g q3 4) ≤ 0 then
(if (g q3 3) < 6 then
(m_let (m_up g 0 12 0) fun g40 =>
((f_X4_addColumn g40 b q3 a2 a3).bind fun v42 =>
some (v42.1, v42.2)))
else
some ((-4), g))
else
some ((-3), g)) else none)
else
some ((-2), g))))))))
else
(if a2 < 1 then
some ((-2), g)
else
(if 4 < a2 then
some ((-2), g)
else
(if a2 = 1 then
(if m_S0[q3]? = some (.inl 4) then
(if (g q3 4) ≤ 0 then
(if (g q3 3) < 6 then
(m_let (m_up g 0 12 0) fun g11 =>
((f_X4_addColumn g11 b q3 a2 a3).bind fun v13 =>
some (v13.1, v13.2)))
else
some ((-4), g))
else
some ((-3), g)) else none)
else
(if a3 = 0 then
(if m_S0[q3]? = some (.inl 4) then
(if (g q3 4) ≤ 0 then
(if (g q3 3) < 6 then
(m_let (m_up g 0 12 0) fun g19 =>
((f_X4_addColumn g19 b q3 a2 a3).bind fun v21 =>
some (v21.1, v21.2)))
else
some ((-4), g))
else
some ((-3), g)) else none)
else
some ((-2), g)))))))))
set_option maxRecDepth 100000 in
set_option maxHeartbeats 4000000 in
theorem c_X6_column {G : mG} {g : (Nat → Nat → Int32)} {b : Bool} {a1 : Int32} {a2 : Int32} {a3 : Int32} {R : (Int32 × (Nat → Nat → Int32))} (e : f_X6_column g b a1 a2 a3 = some R) : MC G mX6_column 1 0 0 [.ref 0, .int a1, .int a2, .int a3] (m_h g b) (some (.int R.1)) (m_h R.2 b) := by
  refine MC_intro mlX6_column (Nat.le_of_ble_eq_true rfl) ⟨_, rfl⟩ rfl trivial ?_
  unfold f_X6_column at e
  refine r_aload_n dX6_column_0 rfl rfl ?_
  refine r_iload_n dX6_column_1 rfl rfl ?_
  obtain ⟨v1, h2, e⟩ := g_bd e
  refine q_callV (rest := []) (c_X6_tableAt h2) dX6_column_2 lkX6_73 rfl rfl rfl rfl (Nat.le_of_ble_eq_true rfl) (by decide) ?_
  refine r_astoreO dX6_column_5 (by decide) rfl ?_
  refine r_aloadO dX6_column_7 rfl ?_
  cases v1 with
  | none =>
    have e := g_oN e
    refine r_ifnullN (tgt := 25) dX6_column_9 (by decide) ?_
    refine r_iconst (x := (-1)) dX6_column_25 (by decide) ?_
    have e := Option.some.inj e
    subst e
    exact r_ret dX6_column_26 rfl rfl
  | some q3 =>
    have e := g_oS e
    refine r_ifnull (tgt := 25) dX6_column_9 (by decide) ?_
    refine r_iload_n dX6_column_12 rfl rfl ?_
    refine r_iconst (x := 1) dX6_column_13 (by decide) ?_
    refine r_icmp_ne (tgt := 27) dX6_column_14 (by decide) (fun h4 => ?_) (fun h4 => ?_)
    · have e := g_iF h4 e
      refine r_iload_n dX6_column_27 rfl rfl ?_
      refine r_iconst (x := 1) dX6_column_28 (by decide) ?_
      refine r_icmp_lt (tgt := 46) dX6_column_29 (by decide) (fun h5 => ?_) (fun h5 => ?_)
      · have e := g_iT h5 e
        refine r_bipush (x := (-2)) dX6_column_46 (by decide) ?_
        have e := Option.some.inj e
        subst e
        exact r_ret dX6_column_48 rfl rfl
      · have e := g_iF h5 e
        refine r_iload_n dX6_column_32 rfl rfl ?_
        refine r_iconst (x := 4) dX6_column_33 (by decide) ?_
        refine r_icmp_gt (tgt := 46) dX6_column_34 (by decide) (fun h6 => ?_) (fun h6 => ?_)
        · have e := g_iT h6 e
          refine r_bipush (x := (-2)) dX6_column_46 (by decide) ?_
          have e := Option.some.inj e
          subst e
          exact r_ret dX6_column_48 rfl rfl
        · have e := g_iF h6 e
          refine r_iload_n dX6_column_37 rfl rfl ?_
          refine r_iconst (x := 1) dX6_column_38 (by decide) ?_
          refine r_icmp_eq (tgt := 49) dX6_column_39 (by decide) (fun h7 => ?_) (fun h7 => ?_)
          · have e := g_iT h7 e
            refine r_aload dX6_column_49 rfl ?_
            obtain ⟨h8, e⟩ := g_gd e
            refine q_geti dX6_column_51 flX6_77 rfl h8 ?_
            refine r_if_le (tgt := 60) dX6_column_54 (by decide) (fun h9 => ?_) (fun h9 => ?_)
            · have e := g_iT h9 e
              refine r_aload dX6_column_60 rfl ?_
              refine q_geti dX6_column_62 flX6_80 rfl h8 ?_
              refine r_bipush (x := 6) dX6_column_65 (by decide) ?_
              refine r_icmp_lt (tgt := 73) dX6_column_67 (by decide) (fun h10 => ?_) (fun h10 => ?_)
              · have e := g_iT h10 e
                refine r_aload_n dX6_column_73 rfl rfl ?_
                refine r_iconst (x := 0) dX6_column_74 (by decide) ?_
                refine q_putiL dX6_column_75 flX6_67 (Or.inl rfl) (Or.inr ⟨rfl, by decide⟩) rfl (fun g11 h12 => ?_)
                have e := g_lt h12 e
                refine r_aload dX6_column_78 rfl ?_
                refine r_iload_n dX6_column_80 rfl rfl ?_
                refine r_iload_n dX6_column_81 rfl rfl ?_
                obtain ⟨v13, h14, e⟩ := g_bd e
                refine q_callV (rest := []) (c_X4_addColumn h14) dX6_column_82 lkX6_83 h8 rfl rfl rfl (Nat.le_of_ble_eq_true rfl) (by decide) ?_
                have e := Option.some.inj e
                subst e
                exact r_ret dX6_column_85 rfl rfl
              · have e := g_iF h10 e
                refine r_bipush (x := (-4)) dX6_column_70 (by decide) ?_
                have e := Option.some.inj e
                subst e
                exact r_ret dX6_column_72 rfl rfl
            · have e := g_iF h9 e
              refine r_bipush (x := (-3)) dX6_column_57 (by decide) ?_
              have e := Option.some.inj e
              subst e
              exact r_ret dX6_column_59 rfl rfl
          · have e := g_iF h7 e
            refine r_iload_n dX6_column_42 rfl rfl ?_
            refine r_if_eq (tgt := 49) dX6_column_43 (by decide) (fun h15 => ?_) (fun h15 => ?_)
            · have e := g_iT h15 e
              refine r_aload dX6_column_49 rfl ?_
              obtain ⟨h16, e⟩ := g_gd e
              refine q_geti dX6_column_51 flX6_77 rfl h16 ?_
              refine r_if_le (tgt := 60) dX6_column_54 (by decide) (fun h17 => ?_) (fun h17 => ?_)
              · have e := g_iT h17 e
                refine r_aload dX6_column_60 rfl ?_
                refine q_geti dX6_column_62 flX6_80 rfl h16 ?_
                refine r_bipush (x := 6) dX6_column_65 (by decide) ?_
                refine r_icmp_lt (tgt := 73) dX6_column_67 (by decide) (fun h18 => ?_) (fun h18 => ?_)
                · have e := g_iT h18 e
                  refine r_aload_n dX6_column_73 rfl rfl ?_
                  refine r_iconst (x := 0) dX6_column_74 (by decide) ?_
                  refine q_putiL dX6_column_75 flX6_67 (Or.inl rfl) (Or.inr ⟨rfl, by decide⟩) rfl (fun g19 h20 => ?_)
                  have e := g_lt h20 e
                  refine r_aload dX6_column_78 rfl ?_
                  refine r_iload_n dX6_column_80 rfl rfl ?_
                  refine r_iload_n dX6_column_81 rfl rfl ?_
                  obtain ⟨v21, h22, e⟩ := g_bd e
                  refine q_callV (rest := []) (c_X4_addColumn h22) dX6_column_82 lkX6_83 h16 rfl rfl rfl (Nat.le_of_ble_eq_true rfl) (by decide) ?_
                  have e := Option.some.inj e
                  subst e
                  exact r_ret dX6_column_85 rfl rfl
                · have e := g_iF h18 e
                  refine r_bipush (x := (-4)) dX6_column_70 (by decide) ?_
                  have e := Option.some.inj e
                  subst e
                  exact r_ret dX6_column_72 rfl rfl
              · have e := g_iF h17 e
                refine r_bipush (x := (-3)) dX6_column_57 (by decide) ?_
                have e := Option.some.inj e
                subst e
                exact r_ret dX6_column_59 rfl rfl
            · have e := g_iF h15 e
              refine r_bipush (x := (-2)) dX6_column_46 (by decide) ?_
              have e := Option.some.inj e
              subst e
              exact r_ret dX6_column_48 rfl rfl
    · have e := g_iT h4 e
      refine r_aload_n dX6_column_17 rfl rfl ?_
      refine r_iload_n dX6_column_18 rfl rfl ?_
      obtain ⟨v23, h24, e⟩ := g_bd e
      refine q_callV (rest := []) (c_X6_tableAt h24) dX6_column_19 lkX6_73 rfl rfl rfl rfl (Nat.le_of_ble_eq_true rfl) (by decide) ?_
      cases v23 with
      | none =>
        have e := g_oN e
        refine r_ifnonnullN (tgt := 27) dX6_column_22 (by decide) ?_
        refine r_iconst (x := (-1)) dX6_column_25 (by decide) ?_
        have e := Option.some.inj e
        subst e
        exact r_ret dX6_column_26 rfl rfl
      | some q25 =>
        have e := g_oS e
        refine r_ifnonnull (tgt := 27) dX6_column_22 (by decide) ?_
        refine r_iload_n dX6_column_27 rfl rfl ?_
        refine r_iconst (x := 1) dX6_column_28 (by decide) ?_
        refine r_icmp_lt (tgt := 46) dX6_column_29 (by decide) (fun h26 => ?_) (fun h26 => ?_)
        · have e := g_iT h26 e
          refine r_bipush (x := (-2)) dX6_column_46 (by decide) ?_
          have e := Option.some.inj e
          subst e
          exact r_ret dX6_column_48 rfl rfl
        · have e := g_iF h26 e
          refine r_iload_n dX6_column_32 rfl rfl ?_
          refine r_iconst (x := 4) dX6_column_33 (by decide) ?_
          refine r_icmp_gt (tgt := 46) dX6_column_34 (by decide) (fun h27 => ?_) (fun h27 => ?_)
          · have e := g_iT h27 e
            refine r_bipush (x := (-2)) dX6_column_46 (by decide) ?_
            have e := Option.some.inj e
            subst e
            exact r_ret dX6_column_48 rfl rfl
          · have e := g_iF h27 e
            refine r_iload_n dX6_column_37 rfl rfl ?_
            refine r_iconst (x := 1) dX6_column_38 (by decide) ?_
            refine r_icmp_eq (tgt := 49) dX6_column_39 (by decide) (fun h28 => ?_) (fun h28 => ?_)
            · have e := g_iT h28 e
              refine r_aload dX6_column_49 rfl ?_
              obtain ⟨h29, e⟩ := g_gd e
              refine q_geti dX6_column_51 flX6_77 rfl h29 ?_
              refine r_if_le (tgt := 60) dX6_column_54 (by decide) (fun h30 => ?_) (fun h30 => ?_)
              · have e := g_iT h30 e
                refine r_aload dX6_column_60 rfl ?_
                refine q_geti dX6_column_62 flX6_80 rfl h29 ?_
                refine r_bipush (x := 6) dX6_column_65 (by decide) ?_
                refine r_icmp_lt (tgt := 73) dX6_column_67 (by decide) (fun h31 => ?_) (fun h31 => ?_)
                · have e := g_iT h31 e
                  refine r_aload_n dX6_column_73 rfl rfl ?_
                  refine r_iconst (x := 0) dX6_column_74 (by decide) ?_
                  refine q_putiL dX6_column_75 flX6_67 (Or.inl rfl) (Or.inr ⟨rfl, by decide⟩) rfl (fun g32 h33 => ?_)
                  have e := g_lt h33 e
                  refine r_aload dX6_column_78 rfl ?_
                  refine r_iload_n dX6_column_80 rfl rfl ?_
                  refine r_iload_n dX6_column_81 rfl rfl ?_
                  obtain ⟨v34, h35, e⟩ := g_bd e
                  refine q_callV (rest := []) (c_X4_addColumn h35) dX6_column_82 lkX6_83 h29 rfl rfl rfl (Nat.le_of_ble_eq_true rfl) (by decide) ?_
                  have e := Option.some.inj e
                  subst e
                  exact r_ret dX6_column_85 rfl rfl
                · have e := g_iF h31 e
                  refine r_bipush (x := (-4)) dX6_column_70 (by decide) ?_
                  have e := Option.some.inj e
                  subst e
                  exact r_ret dX6_column_72 rfl rfl
              · have e := g_iF h30 e
                refine r_bipush (x := (-3)) dX6_column_57 (by decide) ?_
                have e := Option.some.inj e
                subst e
                exact r_ret dX6_column_59 rfl rfl
            · have e := g_iF h28 e
              refine r_iload_n dX6_column_42 rfl rfl ?_
              refine r_if_eq (tgt := 49) dX6_column_43 (by decide) (fun h36 => ?_) (fun h36 => ?_)
              · have e := g_iT h36 e
                refine r_aload dX6_column_49 rfl ?_
                obtain ⟨h37, e⟩ := g_gd e
                refine q_geti dX6_column_51 flX6_77 rfl h37 ?_
                refine r_if_le (tgt := 60) dX6_column_54 (by decide) (fun h38 => ?_) (fun h38 => ?_)
                · have e := g_iT h38 e
                  refine r_aload dX6_column_60 rfl ?_
                  refine q_geti dX6_column_62 flX6_80 rfl h37 ?_
                  refine r_bipush (x := 6) dX6_column_65 (by decide) ?_
                  refine r_icmp_lt (tgt := 73) dX6_column_67 (by decide) (fun h39 => ?_) (fun h39 => ?_)
                  · have e := g_iT h39 e
                    refine r_aload_n dX6_column_73 rfl rfl ?_
                    refine r_iconst (x := 0) dX6_column_74 (by decide) ?_
                    refine q_putiL dX6_column_75 flX6_67 (Or.inl rfl) (Or.inr ⟨rfl, by decide⟩) rfl (fun g40 h41 => ?_)
                    have e := g_lt h41 e
                    refine r_aload dX6_column_78 rfl ?_
                    refine r_iload_n dX6_column_80 rfl rfl ?_
                    refine r_iload_n dX6_column_81 rfl rfl ?_
                    obtain ⟨v42, h43, e⟩ := g_bd e
                    refine q_callV (rest := []) (c_X4_addColumn h43) dX6_column_82 lkX6_83 h37 rfl rfl rfl (Nat.le_of_ble_eq_true rfl) (by decide) ?_
                    have e := Option.some.inj e
                    subst e
                    exact r_ret dX6_column_85 rfl rfl
                  · have e := g_iF h39 e
                    refine r_bipush (x := (-4)) dX6_column_70 (by decide) ?_
                    have e := Option.some.inj e
                    subst e
                    exact r_ret dX6_column_72 rfl rfl
                · have e := g_iF h38 e
                  refine r_bipush (x := (-3)) dX6_column_57 (by decide) ?_
                  have e := Option.some.inj e
                  subst e
                  exact r_ret dX6_column_59 rfl rfl
              · have e := g_iF h36 e
                refine r_bipush (x := (-2)) dX6_column_46 (by decide) ?_
                have e := Option.some.inj e
                subst e
                exact r_ret dX6_column_48 rfl rfl
/-! X6_cell -/
def f_X6_cell (g : (Nat → Nat → Int32)) (a1 : Int32) : Option (Int32 × (Nat → Nat → Int32)) :=
  (if (g 0 10) < 6 then
(if m_in (g 0 10) 6 then
(m_let (m_up g 3 (g 0 10).toNatClampNeg a1) fun g3 =>
(m_let (m_up g3 0 10 ((g3 0 10) + 1)) fun g5 =>
some ((g5 0 10), g5))) else none)
else
some ((-4), g))
set_option maxRecDepth 100000 in
set_option maxHeartbeats 4000000 in
theorem c_X6_cell {G : mG} {g : (Nat → Nat → Int32)} {b : Bool} {a1 : Int32} {R : (Int32 × (Nat → Nat → Int32))} (e : f_X6_cell g a1 = some R) : MC G mX6_cell 0 0 0 [.ref 0, .int a1] (m_h g b) (some (.int R.1)) (m_h R.2 b) := by
  refine MC_intro mlX6_cell (Nat.le_of_ble_eq_true rfl) ⟨_, rfl⟩ rfl trivial ?_
  unfold f_X6_cell at e
  refine r_aload_n dX6_cell_0 rfl rfl ?_
  refine q_geti dX6_cell_1 flX6_61 rfl rfl ?_
  refine r_bipush (x := 6) dX6_cell_4 (by decide) ?_
  refine r_icmp_lt (tgt := 12) dX6_cell_6 (by decide) (fun h1 => ?_) (fun h1 => ?_)
  · have e := g_iT h1 e
    refine r_aload_n dX6_cell_12 rfl rfl ?_
    refine q_getr dX6_cell_13 flX6_23 rfl rfl (m_fr_0_2 _) ?_
    refine r_aload_n dX6_cell_16 rfl rfl ?_
    refine q_geti dX6_cell_17 flX6_61 rfl rfl ?_
    refine r_iload_n dX6_cell_20 rfl rfl ?_
    obtain ⟨h2, e⟩ := g_gd e
    refine q_iastL dX6_cell_21 rfl h2 (fun g3 h4 => ?_)
    have e := g_lt h4 e
    refine r_aload_n dX6_cell_22 rfl rfl ?_
    refine r_dup dX6_cell_23 ?_
    refine q_geti dX6_cell_24 flX6_61 rfl rfl ?_
    refine r_iconst (x := 1) dX6_cell_27 (by decide) ?_
    refine r_iadd dX6_cell_28 ?_
    refine q_putiL dX6_cell_29 flX6_61 (Or.inl rfl) (Or.inl rfl) rfl (fun g5 h6 => ?_)
    have e := g_lt h6 e
    refine r_aload_n dX6_cell_32 rfl rfl ?_
    refine q_geti dX6_cell_33 flX6_61 rfl rfl ?_
    have e := Option.some.inj e
    subst e
    exact r_ret dX6_cell_36 rfl rfl
  · have e := g_iF h1 e
    refine r_bipush (x := (-4)) dX6_cell_9 (by decide) ?_
    have e := Option.some.inj e
    subst e
    exact r_ret dX6_cell_11 rfl rfl
/-! X4_columnNumbered -/
def f_X4_columnNumbered (g : (Nat → Nat → Int32)) (b : Bool) (x : Nat) (a1 : Int32) : Option (Option Nat) :=
  (if a1 < 0 then
some none
else
(if m_S0[x]? = some (.inl 4) then
(if (g x 3) ≤ a1 then
some none
else
(if 6 ≤ a1 then
some none
else
((m_fr b x 0).bind fun q5 =>
((m_len 2 q5).bind fun n7 =>
(if m_in a1 n7 then
((m_fr b q5 a1.toNatClampNeg).bind fun q10 =>
some (some q10)) else none))))) else none))
set_option maxRecDepth 100000 in
set_option maxHeartbeats 4000000 in
theorem c_X4_columnNumbered {G : mG} {g : (Nat → Nat → Int32)} {b : Bool} {x : Nat} {a1 : Int32} {R : (Option Nat)} (e : f_X4_columnNumbered g b x a1 = some R) : MC G mX4_columnNumbered 0 0 0 [.ref x, .int a1] (m_h g b) (some (va_rf R)) (m_h g b) := by
  refine MC_intro mlX4_columnNumbered (Nat.le_of_ble_eq_true rfl) (m_okO _) rfl trivial ?_
  unfold f_X4_columnNumbered at e
  refine r_iload_n dX4_columnNumbered_0 rfl rfl ?_
  refine r_if_lt (tgt := 27) dX4_columnNumbered_1 (by decide) (fun h1 => ?_) (fun h1 => ?_)
  · have e := g_iT h1 e
    refine r_null dX4_columnNumbered_27 ?_
    have e := Option.some.inj e
    subst e
    exact r_ret dX4_columnNumbered_28 rfl rfl
  · have e := g_iF h1 e
    refine r_iload_n dX4_columnNumbered_4 rfl rfl ?_
    refine r_aload_n dX4_columnNumbered_5 rfl rfl ?_
    obtain ⟨h2, e⟩ := g_gd e
    refine q_geti dX4_columnNumbered_6 flX4_24 rfl h2 ?_
    refine r_icmp_ge (tgt := 27) dX4_columnNumbered_9 (by decide) (fun h3 => ?_) (fun h3 => ?_)
    · have e := g_iT h3 e
      refine r_null dX4_columnNumbered_27 ?_
      have e := Option.some.inj e
      subst e
      exact r_ret dX4_columnNumbered_28 rfl rfl
    · have e := g_iF h3 e
      refine r_iload_n dX4_columnNumbered_12 rfl rfl ?_
      refine r_bipush (x := 6) dX4_columnNumbered_13 (by decide) ?_
      refine r_icmp_ge (tgt := 27) dX4_columnNumbered_15 (by decide) (fun h4 => ?_) (fun h4 => ?_)
      · have e := g_iT h4 e
        refine r_null dX4_columnNumbered_27 ?_
        have e := Option.some.inj e
        subst e
        exact r_ret dX4_columnNumbered_28 rfl rfl
      · have e := g_iF h4 e
        refine r_aload_n dX4_columnNumbered_18 rfl rfl ?_
        obtain ⟨q5, h6, e⟩ := g_bd e
        refine q_getr dX4_columnNumbered_19 flX4_11 rfl h2 h6 ?_
        refine r_iload_n dX4_columnNumbered_22 rfl rfl ?_
        obtain ⟨n7, h8, e⟩ := g_bd e
        obtain ⟨h9, e⟩ := g_gd e
        obtain ⟨q10, h11, e⟩ := g_bd e
        refine q_aald dX4_columnNumbered_23 (by decide) (m_len_s h8) h9 h11 ?_
        refine r_goto (tgt := 28) dX4_columnNumbered_24 (by decide) ?_
        have e := Option.some.inj e
        subst e
        exact r_ret dX4_columnNumbered_28 rfl rfl
/-! X6_rightFigure -/
def f_X6_rightFigure (a1 : Int32) : Int32 :=
  (m_rem ((((m_rem (a1 / 1000) 10) + (2 * (m_rem (a1 / 100) 10))) + (3 * (m_rem (a1 / 10) 10))) + (4 * (m_rem a1 10))) 10)
set_option maxRecDepth 100000 in
set_option maxHeartbeats 4000000 in
theorem c_X6_rightFigure {G : mG} {g : (Nat → Nat → Int32)} {b : Bool} {a1 : Int32} {R : Int32} (e : f_X6_rightFigure a1 = R) : MC G mX6_rightFigure 0 0 0 [.int a1] (m_h g b) (some (.int R)) (m_h g b) := by
  refine MC_intro mlX6_rightFigure (Nat.le_of_ble_eq_true rfl) ⟨_, rfl⟩ rfl trivial ?_
  unfold f_X6_rightFigure at e
  refine r_iload_n dX6_rightFigure_0 rfl rfl ?_
  refine r_sipush (x := 1000) dX6_rightFigure_1 (by decide) ?_
  refine r_idiv dX6_rightFigure_4 (by decide) ?_
  refine r_bipush (x := 10) dX6_rightFigure_5 (by decide) ?_
  refine q_irem dX6_rightFigure_7 (by decide) ?_
  refine r_istore_n dX6_rightFigure_8 rfl (by decide) rfl ?_
  refine r_iload_n dX6_rightFigure_9 rfl rfl ?_
  refine r_bipush (x := 100) dX6_rightFigure_10 (by decide) ?_
  refine r_idiv dX6_rightFigure_12 (by decide) ?_
  refine r_bipush (x := 10) dX6_rightFigure_13 (by decide) ?_
  refine q_irem dX6_rightFigure_15 (by decide) ?_
  refine r_istore_n dX6_rightFigure_16 rfl (by decide) rfl ?_
  refine r_iload_n dX6_rightFigure_17 rfl rfl ?_
  refine r_bipush (x := 10) dX6_rightFigure_18 (by decide) ?_
  refine r_idiv dX6_rightFigure_20 (by decide) ?_
  refine r_bipush (x := 10) dX6_rightFigure_21 (by decide) ?_
  refine q_irem dX6_rightFigure_23 (by decide) ?_
  refine r_istore_n dX6_rightFigure_24 rfl (by decide) rfl ?_
  refine r_iload_n dX6_rightFigure_25 rfl rfl ?_
  refine r_bipush (x := 10) dX6_rightFigure_26 (by decide) ?_
  refine q_irem dX6_rightFigure_28 (by decide) ?_
  refine r_istore dX6_rightFigure_29 (by decide) rfl ?_
  refine r_iload_n dX6_rightFigure_31 rfl rfl ?_
  refine r_iconst (x := 2) dX6_rightFigure_32 (by decide) ?_
  refine r_iload_n dX6_rightFigure_33 rfl rfl ?_
  refine r_imul dX6_rightFigure_34 ?_
  refine r_iadd dX6_rightFigure_35 ?_
  refine r_iconst (x := 3) dX6_rightFigure_36 (by decide) ?_
  refine r_iload_n dX6_rightFigure_37 rfl rfl ?_
  refine r_imul dX6_rightFigure_38 ?_
  refine r_iadd dX6_rightFigure_39 ?_
  refine r_iconst (x := 4) dX6_rightFigure_40 (by decide) ?_
  refine r_iload dX6_rightFigure_41 rfl ?_
  refine r_imul dX6_rightFigure_43 ?_
  refine r_iadd dX6_rightFigure_44 ?_
  refine r_bipush (x := 10) dX6_rightFigure_45 (by decide) ?_
  refine q_irem dX6_rightFigure_47 (by decide) ?_
  subst e
  exact r_ret dX6_rightFigure_48 rfl rfl
/-! X6_isKeyNumber -/
def f_X6_isKeyNumber (a1 : Int32) : Bool :=
  (if a1 < 0 then
false
else
(if 99999 < a1 then
false
else
(if (m_rem a1 10) = (f_X6_rightFigure (a1 / 10)) then
true
else
false)))
set_option maxRecDepth 100000 in
set_option maxHeartbeats 4000000 in
theorem c_X6_isKeyNumber {G : mG} {g : (Nat → Nat → Int32)} {b : Bool} {a1 : Int32} {R : Bool} (e : f_X6_isKeyNumber a1 = R) : MC G mX6_isKeyNumber 1 0 0 [.int a1] (m_h g b) (some (.int (m_bi R))) (m_h g b) := by
  refine MC_intro mlX6_isKeyNumber (Nat.le_of_ble_eq_true rfl) (m_okZ _) rfl trivial ?_
  unfold f_X6_isKeyNumber at e
  refine r_iload_n dX6_isKeyNumber_0 rfl rfl ?_
  refine r_if_lt (tgt := 28) dX6_isKeyNumber_1 (by decide) (fun h1 => ?_) (fun h1 => ?_)
  · have e := g_iT h1 e
    refine r_iconst (x := 0) dX6_isKeyNumber_28 (by decide) ?_
    subst e
    exact r_ret dX6_isKeyNumber_29 rfl rfl
  · have e := g_iF h1 e
    refine r_iload_n dX6_isKeyNumber_4 rfl rfl ?_
    refine r_ldc (x := 99999) dX6_isKeyNumber_5 kcX6_252 ?_
    refine r_icmp_gt (tgt := 28) dX6_isKeyNumber_7 (by decide) (fun h2 => ?_) (fun h2 => ?_)
    · have e := g_iT h2 e
      refine r_iconst (x := 0) dX6_isKeyNumber_28 (by decide) ?_
      subst e
      exact r_ret dX6_isKeyNumber_29 rfl rfl
    · have e := g_iF h2 e
      refine r_iload_n dX6_isKeyNumber_10 rfl rfl ?_
      refine r_bipush (x := 10) dX6_isKeyNumber_11 (by decide) ?_
      refine q_irem dX6_isKeyNumber_13 (by decide) ?_
      refine r_iload_n dX6_isKeyNumber_14 rfl rfl ?_
      refine r_bipush (x := 10) dX6_isKeyNumber_15 (by decide) ?_
      refine r_idiv dX6_isKeyNumber_17 (by decide) ?_
      refine q_callS (rest := [.int (m_rem a1 10)]) (c_X6_rightFigure rfl) dX6_isKeyNumber_18 lkX6_253 rfl rfl (Nat.le_of_ble_eq_true rfl) (by decide) ?_
      refine r_icmp_ne (tgt := 28) dX6_isKeyNumber_21 (by decide) (fun h3 => ?_) (fun h3 => ?_)
      · have e := g_iF h3 e
        refine r_iconst (x := 0) dX6_isKeyNumber_28 (by decide) ?_
        subst e
        exact r_ret dX6_isKeyNumber_29 rfl rfl
      · have e := g_iT h3 e
        refine r_iconst (x := 1) dX6_isKeyNumber_24 (by decide) ?_
        refine r_goto (tgt := 29) dX6_isKeyNumber_25 (by decide) ?_
        subst e
        exact r_ret dX6_isKeyNumber_29 rfl rfl
/-! X6_isNumberOfKind -/
def f_X6_isNumberOfKind (a1 : Int32) (a2 : Int32) : Bool :=
  (if a1 = 0 then
(f_X6_isKeyNumber a2)
else
(if a1 = 1 then
(f_X6_isKeyNumber a2)
else
(if a1 = 2 then
(if a2 < 0 then
false
else
(if 9999 < a2 then
false
else
true))
else
(if a1 = 3 then
(if a2 < (-9999) then
false
else
(if 9999 < a2 then
false
else
true))
else
(if a1 = 4 then
(if a2 < 0 then
false
else
(if 99 < a2 then
false
else
true))
else
false)))))
set_option maxRecDepth 100000 in
set_option maxHeartbeats 4000000 in
theorem c_X6_isNumberOfKind {G : mG} {g : (Nat → Nat → Int32)} {b : Bool} {a1 : Int32} {a2 : Int32} {R : Bool} (e : f_X6_isNumberOfKind a1 a2 = R) : MC G mX6_isNumberOfKind 2 0 0 [.int a1, .int a2] (m_h g b) (some (.int (m_bi R))) (m_h g b) := by
  refine MC_intro mlX6_isNumberOfKind (Nat.le_of_ble_eq_true rfl) (m_okZ _) rfl trivial ?_
  unfold f_X6_isNumberOfKind at e
  refine r_iload_n dX6_isNumberOfKind_0 rfl rfl ?_
  by_cases h1 : a1 = 0
  · have e := g_iT h1 e
    refine r_tabIn (off := 35) (tgt := 36) dX6_isNumberOfKind_1 (by rw [h1]; decide) (by rw [h1]; decide) (by rw [h1]; decide) (by decide) ?_
    refine r_iload_n dX6_isNumberOfKind_36 rfl rfl ?_
    refine q_callS (rest := []) (c_X6_isKeyNumber rfl) dX6_isNumberOfKind_37 lkX6_194 rfl rfl (Nat.le_of_ble_eq_true rfl) (by decide) ?_
    subst e
    exact r_ret dX6_isNumberOfKind_40 rfl rfl
  have e := g_iF h1 e
  by_cases h2 : a1 = 1
  · have e := g_iT h2 e
    refine r_tabIn (off := 35) (tgt := 36) dX6_isNumberOfKind_1 (by rw [h2]; decide) (by rw [h2]; decide) (by rw [h2]; decide) (by decide) ?_
    refine r_iload_n dX6_isNumberOfKind_36 rfl rfl ?_
    refine q_callS (rest := []) (c_X6_isKeyNumber rfl) dX6_isNumberOfKind_37 lkX6_194 rfl rfl (Nat.le_of_ble_eq_true rfl) (by decide) ?_
    subst e
    exact r_ret dX6_isNumberOfKind_40 rfl rfl
  have e := g_iF h2 e
  by_cases h3 : a1 = 2
  · have e := g_iT h3 e
    refine r_tabIn (off := 40) (tgt := 41) dX6_isNumberOfKind_1 (by rw [h3]; decide) (by rw [h3]; decide) (by rw [h3]; decide) (by decide) ?_
    refine r_iload_n dX6_isNumberOfKind_41 rfl rfl ?_
    refine r_if_lt (tgt := 56) dX6_isNumberOfKind_42 (by decide) (fun h4 => ?_) (fun h4 => ?_)
    · have e := g_iT h4 e
      refine r_iconst (x := 0) dX6_isNumberOfKind_56 (by decide) ?_
      subst e
      exact r_ret dX6_isNumberOfKind_57 rfl rfl
    · have e := g_iF h4 e
      refine r_iload_n dX6_isNumberOfKind_45 rfl rfl ?_
      refine r_sipush (x := 9999) dX6_isNumberOfKind_46 (by decide) ?_
      refine r_icmp_gt (tgt := 56) dX6_isNumberOfKind_49 (by decide) (fun h5 => ?_) (fun h5 => ?_)
      · have e := g_iT h5 e
        refine r_iconst (x := 0) dX6_isNumberOfKind_56 (by decide) ?_
        subst e
        exact r_ret dX6_isNumberOfKind_57 rfl rfl
      · have e := g_iF h5 e
        refine r_iconst (x := 1) dX6_isNumberOfKind_52 (by decide) ?_
        refine r_goto (tgt := 57) dX6_isNumberOfKind_53 (by decide) ?_
        subst e
        exact r_ret dX6_isNumberOfKind_57 rfl rfl
  have e := g_iF h3 e
  by_cases h6 : a1 = 3
  · have e := g_iT h6 e
    refine r_tabIn (off := 57) (tgt := 58) dX6_isNumberOfKind_1 (by rw [h6]; decide) (by rw [h6]; decide) (by rw [h6]; decide) (by decide) ?_
    refine r_iload_n dX6_isNumberOfKind_58 rfl rfl ?_
    refine r_sipush (x := (-9999)) dX6_isNumberOfKind_59 (by decide) ?_
    refine r_icmp_lt (tgt := 76) dX6_isNumberOfKind_62 (by decide) (fun h7 => ?_) (fun h7 => ?_)
    · have e := g_iT h7 e
      refine r_iconst (x := 0) dX6_isNumberOfKind_76 (by decide) ?_
      subst e
      exact r_ret dX6_isNumberOfKind_77 rfl rfl
    · have e := g_iF h7 e
      refine r_iload_n dX6_isNumberOfKind_65 rfl rfl ?_
      refine r_sipush (x := 9999) dX6_isNumberOfKind_66 (by decide) ?_
      refine r_icmp_gt (tgt := 76) dX6_isNumberOfKind_69 (by decide) (fun h8 => ?_) (fun h8 => ?_)
      · have e := g_iT h8 e
        refine r_iconst (x := 0) dX6_isNumberOfKind_76 (by decide) ?_
        subst e
        exact r_ret dX6_isNumberOfKind_77 rfl rfl
      · have e := g_iF h8 e
        refine r_iconst (x := 1) dX6_isNumberOfKind_72 (by decide) ?_
        refine r_goto (tgt := 77) dX6_isNumberOfKind_73 (by decide) ?_
        subst e
        exact r_ret dX6_isNumberOfKind_77 rfl rfl
  have e := g_iF h6 e
  by_cases h9 : a1 = 4
  · have e := g_iT h9 e
    refine r_tabIn (off := 77) (tgt := 78) dX6_isNumberOfKind_1 (by rw [h9]; decide) (by rw [h9]; decide) (by rw [h9]; decide) (by decide) ?_
    refine r_iload_n dX6_isNumberOfKind_78 rfl rfl ?_
    refine r_if_lt (tgt := 92) dX6_isNumberOfKind_79 (by decide) (fun h10 => ?_) (fun h10 => ?_)
    · have e := g_iT h10 e
      refine r_iconst (x := 0) dX6_isNumberOfKind_92 (by decide) ?_
      subst e
      exact r_ret dX6_isNumberOfKind_93 rfl rfl
    · have e := g_iF h10 e
      refine r_iload_n dX6_isNumberOfKind_82 rfl rfl ?_
      refine r_bipush (x := 99) dX6_isNumberOfKind_83 (by decide) ?_
      refine r_icmp_gt (tgt := 92) dX6_isNumberOfKind_85 (by decide) (fun h11 => ?_) (fun h11 => ?_)
      · have e := g_iT h11 e
        refine r_iconst (x := 0) dX6_isNumberOfKind_92 (by decide) ?_
        subst e
        exact r_ret dX6_isNumberOfKind_93 rfl rfl
      · have e := g_iF h11 e
        refine r_iconst (x := 1) dX6_isNumberOfKind_88 (by decide) ?_
        refine r_goto (tgt := 93) dX6_isNumberOfKind_89 (by decide) ?_
        subst e
        exact r_ret dX6_isNumberOfKind_93 rfl rfl
  have e := g_iF h9 e
  refine r_tabOut (tgt := 94) dX6_isNumberOfKind_1 (m_swOut0_5 h1 h2 h3 h6 h9) (by decide) ?_
  refine r_iconst (x := 0) dX6_isNumberOfKind_94 (by decide) ?_
  subst e
  exact r_ret dX6_isNumberOfKind_95 rfl rfl
/-! X6_waitingCellsFit -/
def lp_X6_waitingCellsFit_15 (g : (Nat → Nat → Int32)) (b : Bool) (a1 : Nat) : Nat → Int32 → Option Bool
  | 0, _ => none
  | n + 1, y15_2 =>
  (if (g 0 10) ≤ y15_2 then
some true
else
(if m_S0[a1]? = some (.inl 4) then
((f_X4_columnNumbered g b a1 y15_2).bind fun v15003 =>
(m_oc v15003
(some false)
(fun q15005 =>
(if m_S0[q15005]? = some (.inl 0) then
(if (g q15005 0) = 0 then
(if m_in y15_2 6 then
(bif (f_X6_isNumberOfKind (g q15005 0) (g 3 y15_2.toNatClampNeg)) then
lp_X6_waitingCellsFit_15 g b a1 n (y15_2 + 1)
else
some false) else none)
else
(if m_in y15_2 6 then
(if (g 3 y15_2.toNatClampNeg) = (-2147483648) then
lp_X6_waitingCellsFit_15 g b a1 n (y15_2 + 1)
else
(bif (f_X6_isNumberOfKind (g q15005 0) (g 3 y15_2.toNatClampNeg)) then
lp_X6_waitingCellsFit_15 g b a1 n (y15_2 + 1)
else
some false)) else none)) else none)))) else none))
def f_X6_waitingCellsFit (g : (Nat → Nat → Int32)) (b : Bool) (a1 : Nat) : Option Bool :=
  (if m_S0[a1]? = some (.inl 4) then
(if (g 0 10) = (g a1 3) then
lp_X6_waitingCellsFit_15 g b a1 2000 0
else
some false) else none)
set_option maxRecDepth 100000 in
set_option maxHeartbeats 4000000 in
theorem w_X6_waitingCellsFit_15 {G : mG} {g : (Nat → Nat → Int32)} {b : Bool} {a1 : Nat} : ∀ (n : Nat) (y15_2 : Int32) (R : Bool), lp_X6_waitingCellsFit_15 g b a1 n y15_2 = some R → MW G mX6_waitingCellsFit 3 0 0 15 [.ref 0, .ref a1, .int y15_2, .retAddr 0, .retAddr 0] [] (m_h g b) (some (.int (m_bi R))) (m_h g b)
  | 0, _, R, e => absurd (show (none : Option Bool) = some R from e) (fun h => by cases h)
  | n + 1, y15_2, R, e => by
    rw [lp_X6_waitingCellsFit_15] at e
    refine r_iload_n dX6_waitingCellsFit_15 rfl rfl ?_
    refine r_aload_n dX6_waitingCellsFit_16 rfl rfl ?_
    refine q_geti dX6_waitingCellsFit_17 flX6_61 rfl rfl ?_
    refine r_icmp_ge (tgt := 89) dX6_waitingCellsFit_20 (by decide) (fun h15001 => ?_) (fun h15001 => ?_)
    · have e := g_iT h15001 e
      refine r_iconst (x := 1) dX6_waitingCellsFit_89 (by decide) ?_
      have e := Option.some.inj e
      subst e
      exact r_ret dX6_waitingCellsFit_90 rfl rfl
    · have e := g_iF h15001 e
      refine r_aload_n dX6_waitingCellsFit_23 rfl rfl ?_
      refine r_iload_n dX6_waitingCellsFit_24 rfl rfl ?_
      obtain ⟨h15002, e⟩ := g_gd e
      obtain ⟨v15003, h15004, e⟩ := g_bd e
      refine q_callV (rest := []) (c_X4_columnNumbered h15004) dX6_waitingCellsFit_25 lkX6_245 h15002 rfl rfl rfl (Nat.le_of_ble_eq_true rfl) (by decide) ?_
      refine r_astore_nO dX6_waitingCellsFit_28 rfl (by decide) rfl ?_
      refine r_aload_nO dX6_waitingCellsFit_29 rfl rfl ?_
      cases v15003 with
      | none =>
        have e := g_oN e
        refine r_ifnonnullN (tgt := 35) dX6_waitingCellsFit_30 (by decide) ?_
        refine r_iconst (x := 0) dX6_waitingCellsFit_33 (by decide) ?_
        have e := Option.some.inj e
        subst e
        exact r_ret dX6_waitingCellsFit_34 rfl rfl
      | some q15005 =>
        have e := g_oS e
        refine r_ifnonnull (tgt := 35) dX6_waitingCellsFit_30 (by decide) ?_
        refine r_aload_n dX6_waitingCellsFit_35 rfl rfl ?_
        obtain ⟨h15006, e⟩ := g_gd e
        refine q_geti dX6_waitingCellsFit_36 flX6_103 rfl h15006 ?_
        refine r_if_eq (tgt := 57) dX6_waitingCellsFit_39 (by decide) (fun h15007 => ?_) (fun h15007 => ?_)
        · have e := g_iT h15007 e
          refine r_iconst (x := 0) dX6_waitingCellsFit_57 (by decide) ?_
          refine r_istore dX6_waitingCellsFit_58 (by decide) rfl ?_
          refine r_iload dX6_waitingCellsFit_60 rfl ?_
          refine r_if_ne (tgt := 83) dX6_waitingCellsFit_62 (by decide) (fun hz => absurd hz (by decide)) (fun _ => ?_)
          refine r_aload_n dX6_waitingCellsFit_65 rfl rfl ?_
          refine q_geti dX6_waitingCellsFit_66 flX6_103 rfl h15006 ?_
          refine r_aload_n dX6_waitingCellsFit_69 rfl rfl ?_
          refine q_getr dX6_waitingCellsFit_70 flX6_23 rfl rfl (m_fr_0_2 _) ?_
          refine r_iload_n dX6_waitingCellsFit_73 rfl rfl ?_
          obtain ⟨h15008, e⟩ := g_gd e
          refine q_iald dX6_waitingCellsFit_74 rfl h15008 ?_
          refine q_callS (rest := []) (c_X6_isNumberOfKind rfl) dX6_waitingCellsFit_75 lkX6_184 rfl rfl (Nat.le_of_ble_eq_true rfl) (by decide) ?_
          refine r_ifneB (tgt := 83) dX6_waitingCellsFit_78 (by decide) (fun h15009 => ?_) (fun h15009 => ?_)
          · have e := g_cT h15009 e
            refine r_iinc (y := 1) dX6_waitingCellsFit_83 rfl (by decide) (by decide) rfl ?_
            refine r_goto (tgt := 15) dX6_waitingCellsFit_86 (by decide) ?_
            refine r_forget 3 rfl ?_
            refine r_forget 4 rfl ?_
            exact w_X6_waitingCellsFit_15 n _ R e
          · have e := g_cF h15009 e
            refine r_iconst (x := 0) dX6_waitingCellsFit_81 (by decide) ?_
            have e := Option.some.inj e
            subst e
            exact r_ret dX6_waitingCellsFit_82 rfl rfl
        · have e := g_iF h15007 e
          refine r_aload_n dX6_waitingCellsFit_42 rfl rfl ?_
          refine q_getr dX6_waitingCellsFit_43 flX6_23 rfl rfl (m_fr_0_2 _) ?_
          refine r_iload_n dX6_waitingCellsFit_46 rfl rfl ?_
          obtain ⟨h15010, e⟩ := g_gd e
          refine q_iald dX6_waitingCellsFit_47 rfl h15010 ?_
          refine r_ldc (x := (-2147483648)) dX6_waitingCellsFit_48 kcX6_179 ?_
          refine r_icmp_ne (tgt := 57) dX6_waitingCellsFit_50 (by decide) (fun h15011 => ?_) (fun h15011 => ?_)
          · have e := g_iF h15011 e
            refine r_iconst (x := 0) dX6_waitingCellsFit_57 (by decide) ?_
            refine r_istore dX6_waitingCellsFit_58 (by decide) rfl ?_
            refine r_iload dX6_waitingCellsFit_60 rfl ?_
            refine r_if_ne (tgt := 83) dX6_waitingCellsFit_62 (by decide) (fun hz => absurd hz (by decide)) (fun _ => ?_)
            refine r_aload_n dX6_waitingCellsFit_65 rfl rfl ?_
            refine q_geti dX6_waitingCellsFit_66 flX6_103 rfl h15006 ?_
            refine r_aload_n dX6_waitingCellsFit_69 rfl rfl ?_
            refine q_getr dX6_waitingCellsFit_70 flX6_23 rfl rfl (m_fr_0_2 _) ?_
            refine r_iload_n dX6_waitingCellsFit_73 rfl rfl ?_
            refine q_iald dX6_waitingCellsFit_74 rfl h15010 ?_
            refine q_callS (rest := []) (c_X6_isNumberOfKind rfl) dX6_waitingCellsFit_75 lkX6_184 rfl rfl (Nat.le_of_ble_eq_true rfl) (by decide) ?_
            refine r_ifneB (tgt := 83) dX6_waitingCellsFit_78 (by decide) (fun h15012 => ?_) (fun h15012 => ?_)
            · have e := g_cT h15012 e
              refine r_iinc (y := 1) dX6_waitingCellsFit_83 rfl (by decide) (by decide) rfl ?_
              refine r_goto (tgt := 15) dX6_waitingCellsFit_86 (by decide) ?_
              refine r_forget 3 rfl ?_
              refine r_forget 4 rfl ?_
              exact w_X6_waitingCellsFit_15 n _ R e
            · have e := g_cF h15012 e
              refine r_iconst (x := 0) dX6_waitingCellsFit_81 (by decide) ?_
              have e := Option.some.inj e
              subst e
              exact r_ret dX6_waitingCellsFit_82 rfl rfl
          · have e := g_iT h15011 e
            refine r_iconst (x := 1) dX6_waitingCellsFit_53 (by decide) ?_
            refine r_goto (tgt := 58) dX6_waitingCellsFit_54 (by decide) ?_
            refine r_istore dX6_waitingCellsFit_58 (by decide) rfl ?_
            refine r_iload dX6_waitingCellsFit_60 rfl ?_
            refine r_if_ne (tgt := 83) dX6_waitingCellsFit_62 (by decide) (fun _ => ?_) (fun hz => absurd hz (by decide))
            refine r_iinc (y := 1) dX6_waitingCellsFit_83 rfl (by decide) (by decide) rfl ?_
            refine r_goto (tgt := 15) dX6_waitingCellsFit_86 (by decide) ?_
            refine r_forget 3 rfl ?_
            refine r_forget 4 rfl ?_
            exact w_X6_waitingCellsFit_15 n _ R e
set_option maxRecDepth 100000 in
set_option maxHeartbeats 4000000 in
theorem c_X6_waitingCellsFit {G : mG} {g : (Nat → Nat → Int32)} {b : Bool} {a1 : Nat} {R : Bool} (e : f_X6_waitingCellsFit g b a1 = some R) : MC G mX6_waitingCellsFit 3 0 0 [.ref 0, .ref a1] (m_h g b) (some (.int (m_bi R))) (m_h g b) := by
  refine MC_intro mlX6_waitingCellsFit (Nat.le_of_ble_eq_true rfl) (m_okZ _) rfl trivial ?_
  unfold f_X6_waitingCellsFit at e
  refine r_aload_n dX6_waitingCellsFit_0 rfl rfl ?_
  refine q_geti dX6_waitingCellsFit_1 flX6_61 rfl rfl ?_
  refine r_aload_n dX6_waitingCellsFit_4 rfl rfl ?_
  obtain ⟨h1, e⟩ := g_gd e
  refine q_geti dX6_waitingCellsFit_5 flX6_80 rfl h1 ?_
  refine r_icmp_eq (tgt := 13) dX6_waitingCellsFit_8 (by decide) (fun h2 => ?_) (fun h2 => ?_)
  · have e := g_iT h2 e
    refine r_iconst (x := 0) dX6_waitingCellsFit_13 (by decide) ?_
    refine r_istore_n dX6_waitingCellsFit_14 rfl (by decide) rfl ?_
    exact w_X6_waitingCellsFit_15 2000 _ R e
  · have e := g_iF h2 e
    refine r_iconst (x := 0) dX6_waitingCellsFit_11 (by decide) ?_
    have e := Option.some.inj e
    subst e
    exact r_ret dX6_waitingCellsFit_12 rfl rfl
/-! X6_rowsOf -/
def f_X6_rowsOf (g : (Nat → Nat → Int32)) (b : Bool) (a1 : Int32) : Option Int32 :=
  ((f_X6_tableAt g b a1).bind fun v1 =>
(m_oc v1
(some 0)
(fun q3 =>
(if m_S0[q3]? = some (.inl 4) then
some (g q3 4) else none))))
set_option maxRecDepth 100000 in
set_option maxHeartbeats 4000000 in
theorem c_X6_rowsOf {G : mG} {g : (Nat → Nat → Int32)} {b : Bool} {a1 : Int32} {R : Int32} (e : f_X6_rowsOf g b a1 = some R) : MC G mX6_rowsOf 1 0 0 [.ref 0, .int a1] (m_h g b) (some (.int R)) (m_h g b) := by
  refine MC_intro mlX6_rowsOf (Nat.le_of_ble_eq_true rfl) ⟨_, rfl⟩ rfl trivial ?_
  unfold f_X6_rowsOf at e
  refine r_aload_n dX6_rowsOf_0 rfl rfl ?_
  refine r_iload_n dX6_rowsOf_1 rfl rfl ?_
  obtain ⟨v1, h2, e⟩ := g_bd e
  refine q_callV (rest := []) (c_X6_tableAt h2) dX6_rowsOf_2 lkX6_73 rfl rfl rfl rfl (Nat.le_of_ble_eq_true rfl) (by decide) ?_
  refine r_astore_nO dX6_rowsOf_5 rfl (by decide) rfl ?_
  refine r_aload_nO dX6_rowsOf_6 rfl rfl ?_
  cases v1 with
  | none =>
    have e := g_oN e
    refine r_ifnonnullN (tgt := 14) dX6_rowsOf_7 (by decide) ?_
    refine r_iconst (x := 0) dX6_rowsOf_10 (by decide) ?_
    refine r_goto (tgt := 18) dX6_rowsOf_11 (by decide) ?_
    have e := Option.some.inj e
    subst e
    exact r_ret dX6_rowsOf_18 rfl rfl
  | some q3 =>
    have e := g_oS e
    refine r_ifnonnull (tgt := 14) dX6_rowsOf_7 (by decide) ?_
    refine r_aload_n dX6_rowsOf_14 rfl rfl ?_
    obtain ⟨h4, e⟩ := g_gd e
    refine q_geti dX6_rowsOf_15 flX6_77 rfl h4 ?_
    have e := Option.some.inj e
    subst e
    exact r_ret dX6_rowsOf_18 rfl rfl
/-! X1_placeOf -/
def f_X1_placeOf (a1 : Int32) (a2 : Int32) (a3 : Int32) : Int32 :=
  (if a1 < 0 then
(-1)
else
(if 4 ≤ a1 then
(-1)
else
(if a2 < 0 then
(-1)
else
(if 12 ≤ a2 then
(-1)
else
(if a3 < 0 then
(-1)
else
(if 6 ≤ a3 then
(-1)
else
((((a1 * 12) + a2) * 6) + a3)))))))
set_option maxRecDepth 100000 in
set_option maxHeartbeats 4000000 in
theorem c_X1_placeOf {G : mG} {g : (Nat → Nat → Int32)} {b : Bool} {a1 : Int32} {a2 : Int32} {a3 : Int32} {R : Int32} (e : f_X1_placeOf a1 a2 a3 = R) : MC G mX1_placeOf 0 0 0 [.int a1, .int a2, .int a3] (m_h g b) (some (.int R)) (m_h g b) := by
  refine MC_intro mlX1_placeOf (Nat.le_of_ble_eq_true rfl) ⟨_, rfl⟩ rfl trivial ?_
  unfold f_X1_placeOf at e
  refine r_iload_n dX1_placeOf_0 rfl rfl ?_
  refine r_if_lt (tgt := 33) dX1_placeOf_1 (by decide) (fun h1 => ?_) (fun h1 => ?_)
  · have e := g_iT h1 e
    refine r_iconst (x := 0) dX1_placeOf_33 (by decide) ?_
    refine r_istore_n dX1_placeOf_34 rfl (by decide) rfl ?_
    refine r_iload_n dX1_placeOf_35 rfl rfl ?_
    refine r_if_eq (tgt := 53) dX1_placeOf_36 (by decide) (fun _ => ?_) (fun hz => absurd hz (by decide))
    refine r_iconst (x := (-1)) dX1_placeOf_53 (by decide) ?_
    subst e
    exact r_ret dX1_placeOf_54 rfl rfl
  · have e := g_iF h1 e
    refine r_iload_n dX1_placeOf_4 rfl rfl ?_
    refine r_iconst (x := 4) dX1_placeOf_5 (by decide) ?_
    refine r_icmp_ge (tgt := 33) dX1_placeOf_6 (by decide) (fun h2 => ?_) (fun h2 => ?_)
    · have e := g_iT h2 e
      refine r_iconst (x := 0) dX1_placeOf_33 (by decide) ?_
      refine r_istore_n dX1_placeOf_34 rfl (by decide) rfl ?_
      refine r_iload_n dX1_placeOf_35 rfl rfl ?_
      refine r_if_eq (tgt := 53) dX1_placeOf_36 (by decide) (fun _ => ?_) (fun hz => absurd hz (by decide))
      refine r_iconst (x := (-1)) dX1_placeOf_53 (by decide) ?_
      subst e
      exact r_ret dX1_placeOf_54 rfl rfl
    · have e := g_iF h2 e
      refine r_iload_n dX1_placeOf_9 rfl rfl ?_
      refine r_if_lt (tgt := 33) dX1_placeOf_10 (by decide) (fun h3 => ?_) (fun h3 => ?_)
      · have e := g_iT h3 e
        refine r_iconst (x := 0) dX1_placeOf_33 (by decide) ?_
        refine r_istore_n dX1_placeOf_34 rfl (by decide) rfl ?_
        refine r_iload_n dX1_placeOf_35 rfl rfl ?_
        refine r_if_eq (tgt := 53) dX1_placeOf_36 (by decide) (fun _ => ?_) (fun hz => absurd hz (by decide))
        refine r_iconst (x := (-1)) dX1_placeOf_53 (by decide) ?_
        subst e
        exact r_ret dX1_placeOf_54 rfl rfl
      · have e := g_iF h3 e
        refine r_iload_n dX1_placeOf_13 rfl rfl ?_
        refine r_bipush (x := 12) dX1_placeOf_14 (by decide) ?_
        refine r_icmp_ge (tgt := 33) dX1_placeOf_16 (by decide) (fun h4 => ?_) (fun h4 => ?_)
        · have e := g_iT h4 e
          refine r_iconst (x := 0) dX1_placeOf_33 (by decide) ?_
          refine r_istore_n dX1_placeOf_34 rfl (by decide) rfl ?_
          refine r_iload_n dX1_placeOf_35 rfl rfl ?_
          refine r_if_eq (tgt := 53) dX1_placeOf_36 (by decide) (fun _ => ?_) (fun hz => absurd hz (by decide))
          refine r_iconst (x := (-1)) dX1_placeOf_53 (by decide) ?_
          subst e
          exact r_ret dX1_placeOf_54 rfl rfl
        · have e := g_iF h4 e
          refine r_iload_n dX1_placeOf_19 rfl rfl ?_
          refine r_if_lt (tgt := 33) dX1_placeOf_20 (by decide) (fun h5 => ?_) (fun h5 => ?_)
          · have e := g_iT h5 e
            refine r_iconst (x := 0) dX1_placeOf_33 (by decide) ?_
            refine r_istore_n dX1_placeOf_34 rfl (by decide) rfl ?_
            refine r_iload_n dX1_placeOf_35 rfl rfl ?_
            refine r_if_eq (tgt := 53) dX1_placeOf_36 (by decide) (fun _ => ?_) (fun hz => absurd hz (by decide))
            refine r_iconst (x := (-1)) dX1_placeOf_53 (by decide) ?_
            subst e
            exact r_ret dX1_placeOf_54 rfl rfl
          · have e := g_iF h5 e
            refine r_iload_n dX1_placeOf_23 rfl rfl ?_
            refine r_bipush (x := 6) dX1_placeOf_24 (by decide) ?_
            refine r_icmp_ge (tgt := 33) dX1_placeOf_26 (by decide) (fun h6 => ?_) (fun h6 => ?_)
            · have e := g_iT h6 e
              refine r_iconst (x := 0) dX1_placeOf_33 (by decide) ?_
              refine r_istore_n dX1_placeOf_34 rfl (by decide) rfl ?_
              refine r_iload_n dX1_placeOf_35 rfl rfl ?_
              refine r_if_eq (tgt := 53) dX1_placeOf_36 (by decide) (fun _ => ?_) (fun hz => absurd hz (by decide))
              refine r_iconst (x := (-1)) dX1_placeOf_53 (by decide) ?_
              subst e
              exact r_ret dX1_placeOf_54 rfl rfl
            · have e := g_iF h6 e
              refine r_iconst (x := 1) dX1_placeOf_29 (by decide) ?_
              refine r_goto (tgt := 34) dX1_placeOf_30 (by decide) ?_
              refine r_istore_n dX1_placeOf_34 rfl (by decide) rfl ?_
              refine r_iload_n dX1_placeOf_35 rfl rfl ?_
              refine r_if_eq (tgt := 53) dX1_placeOf_36 (by decide) (fun hz => absurd hz (by decide)) (fun _ => ?_)
              refine r_iload_n dX1_placeOf_39 rfl rfl ?_
              refine r_bipush (x := 12) dX1_placeOf_40 (by decide) ?_
              refine r_imul dX1_placeOf_42 ?_
              refine r_iload_n dX1_placeOf_43 rfl rfl ?_
              refine r_iadd dX1_placeOf_44 ?_
              refine r_bipush (x := 6) dX1_placeOf_45 (by decide) ?_
              refine r_imul dX1_placeOf_47 ?_
              refine r_iload_n dX1_placeOf_48 rfl rfl ?_
              refine r_iadd dX1_placeOf_49 ?_
              refine r_goto (tgt := 54) dX1_placeOf_50 (by decide) ?_
              subst e
              exact r_ret dX1_placeOf_54 rfl rfl
/-! X1_read -/
def f_X1_read (g : (Nat → Nat → Int32)) (b : Bool) (x : Nat) (a1 : Int32) (a2 : Int32) (a3 : Int32) : Option Int32 :=
  (if 0 ≤ (f_X1_placeOf a1 a2 a3) then
(if m_S0[x]? = some (.inl 1) then
((m_fr b x 0).bind fun q3 =>
((m_len 0 q3).bind fun n5 =>
(if m_in (f_X1_placeOf a1 a2 a3) n5 then
some (g q3 (f_X1_placeOf a1 a2 a3).toNatClampNeg) else none))) else none)
else
some (-2147483648))
set_option maxRecDepth 100000 in
set_option maxHeartbeats 4000000 in
theorem c_X1_read {G : mG} {g : (Nat → Nat → Int32)} {b : Bool} {x : Nat} {a1 : Int32} {a2 : Int32} {a3 : Int32} {R : Int32} (e : f_X1_read g b x a1 a2 a3 = some R) : MC G mX1_read 1 0 0 [.ref x, .int a1, .int a2, .int a3] (m_h g b) (some (.int R)) (m_h g b) := by
  refine MC_intro mlX1_read (Nat.le_of_ble_eq_true rfl) ⟨_, rfl⟩ rfl trivial ?_
  unfold f_X1_read at e
  refine r_iload_n dX1_read_0 rfl rfl ?_
  refine r_iload_n dX1_read_1 rfl rfl ?_
  refine r_iload_n dX1_read_2 rfl rfl ?_
  refine q_callS (rest := []) (c_X1_placeOf rfl) dX1_read_3 lkX1_15 rfl rfl (Nat.le_of_ble_eq_true rfl) (by decide) ?_
  refine r_istore dX1_read_6 (by decide) rfl ?_
  refine r_iload dX1_read_8 rfl ?_
  refine r_if_ge (tgt := 18) dX1_read_10 (by decide) (fun h1 => ?_) (fun h1 => ?_)
  · have e := g_iT h1 e
    refine r_aload_n dX1_read_18 rfl rfl ?_
    obtain ⟨h2, e⟩ := g_gd e
    obtain ⟨q3, h4, e⟩ := g_bd e
    refine q_getr dX1_read_19 flX1_9 rfl h2 h4 ?_
    refine r_iload dX1_read_22 rfl ?_
    obtain ⟨n5, h6, e⟩ := g_bd e
    obtain ⟨h7, e⟩ := g_gd e
    refine q_iald dX1_read_24 (m_len_s h6) h7 ?_
    have e := Option.some.inj e
    subst e
    exact r_ret dX1_read_25 rfl rfl
  · have e := g_iF h1 e
    refine r_ldc (x := (-2147483648)) dX1_read_13 kcX1_19 ?_
    refine r_goto (tgt := 25) dX1_read_15 (by decide) ?_
    have e := Option.some.inj e
    subst e
    exact r_ret dX1_read_25 rfl rfl
/-! X6_rowsWith -/
def lp_X6_rowsWith_6 (g : (Nat → Nat → Int32)) (b : Bool) (a1 : Nat) (a2 : Int32) (a3 : Int32) (a4 : Int32) : Nat → Int32 → Int32 → Option Int32
  | 0, _, _ => none
  | n + 1, y6_5, y6_6 =>
  ((f_X6_rowsOf g b a2).bind fun v6001 =>
(if v6001 ≤ y6_6 then
some y6_5
else
(if m_S0[a1]? = some (.inl 1) then
((f_X1_read g b a1 a2 y6_6 a3).bind fun v6005 =>
(if v6005 = a4 then
lp_X6_rowsWith_6 g b a1 a2 a3 a4 n (y6_5 + 1) (y6_6 + 1)
else
lp_X6_rowsWith_6 g b a1 a2 a3 a4 n y6_5 (y6_6 + 1))) else none)))
def f_X6_rowsWith (g : (Nat → Nat → Int32)) (b : Bool) (a1 : Nat) (a2 : Int32) (a3 : Int32) (a4 : Int32) : Option Int32 :=
  lp_X6_rowsWith_6 g b a1 a2 a3 a4 2000 0 0
set_option maxRecDepth 100000 in
set_option maxHeartbeats 4000000 in
theorem w_X6_rowsWith_6 {G : mG} {g : (Nat → Nat → Int32)} {b : Bool} {a1 : Nat} {a2 : Int32} {a3 : Int32} {a4 : Int32} : ∀ (n : Nat) (y6_5 : Int32) (y6_6 : Int32) (R : Int32), lp_X6_rowsWith_6 g b a1 a2 a3 a4 n y6_5 y6_6 = some R → MW G mX6_rowsWith 2 0 0 6 [.ref 0, .ref a1, .int a2, .int a3, .int a4, .int y6_5, .int y6_6] [] (m_h g b) (some (.int R)) (m_h g b)
  | 0, _, _, R, e => absurd (show (none : Option Int32) = some R from e) (fun h => by cases h)
  | n + 1, y6_5, y6_6, R, e => by
    rw [lp_X6_rowsWith_6] at e
    refine r_iload dX6_rowsWith_6 rfl ?_
    refine r_aload_n dX6_rowsWith_8 rfl rfl ?_
    refine r_iload_n dX6_rowsWith_9 rfl rfl ?_
    obtain ⟨v6001, h6002, e⟩ := g_bd e
    refine q_callV (rest := [.int y6_6]) (c_X6_rowsOf h6002) dX6_rowsWith_10 lkX6_200 rfl rfl rfl rfl (Nat.le_of_ble_eq_true rfl) (by decide) ?_
    refine r_icmp_ge (tgt := 38) dX6_rowsWith_13 (by decide) (fun h6003 => ?_) (fun h6003 => ?_)
    · have e := g_iT h6003 e
      refine r_iload dX6_rowsWith_38 rfl ?_
      have e := Option.some.inj e
      subst e
      exact r_ret dX6_rowsWith_40 rfl rfl
    · have e := g_iF h6003 e
      refine r_aload_n dX6_rowsWith_16 rfl rfl ?_
      refine r_iload_n dX6_rowsWith_17 rfl rfl ?_
      refine r_iload dX6_rowsWith_18 rfl ?_
      refine r_iload_n dX6_rowsWith_20 rfl rfl ?_
      obtain ⟨h6004, e⟩ := g_gd e
      obtain ⟨v6005, h6006, e⟩ := g_bd e
      refine q_callV (rest := []) (c_X1_read h6006) dX6_rowsWith_21 lkX6_180 h6004 rfl rfl rfl (Nat.le_of_ble_eq_true rfl) (by decide) ?_
      refine r_iload dX6_rowsWith_24 rfl ?_
      refine r_icmp_ne (tgt := 32) dX6_rowsWith_26 (by decide) (fun h6007 => ?_) (fun h6007 => ?_)
      · have e := g_iF h6007 e
        refine r_iinc (y := 1) dX6_rowsWith_32 rfl (by decide) (by decide) rfl ?_
        refine r_goto (tgt := 6) dX6_rowsWith_35 (by decide) ?_
        exact w_X6_rowsWith_6 n _ _ R e
      · have e := g_iT h6007 e
        refine r_iinc (y := 1) dX6_rowsWith_29 rfl (by decide) (by decide) rfl ?_
        refine r_iinc (y := 1) dX6_rowsWith_32 rfl (by decide) (by decide) rfl ?_
        refine r_goto (tgt := 6) dX6_rowsWith_35 (by decide) ?_
        exact w_X6_rowsWith_6 n _ _ R e
set_option maxRecDepth 100000 in
set_option maxHeartbeats 4000000 in
theorem c_X6_rowsWith {G : mG} {g : (Nat → Nat → Int32)} {b : Bool} {a1 : Nat} {a2 : Int32} {a3 : Int32} {a4 : Int32} {R : Int32} (e : f_X6_rowsWith g b a1 a2 a3 a4 = some R) : MC G mX6_rowsWith 2 0 0 [.ref 0, .ref a1, .int a2, .int a3, .int a4] (m_h g b) (some (.int R)) (m_h g b) := by
  refine MC_intro mlX6_rowsWith (Nat.le_of_ble_eq_true rfl) ⟨_, rfl⟩ rfl trivial ?_
  unfold f_X6_rowsWith at e
  refine r_iconst (x := 0) dX6_rowsWith_0 (by decide) ?_
  refine r_istore dX6_rowsWith_1 (by decide) rfl ?_
  refine r_iconst (x := 0) dX6_rowsWith_3 (by decide) ?_
  refine r_istore dX6_rowsWith_4 (by decide) rfl ?_
  exact w_X6_rowsWith_6 2000 _ _ R e
/-! X1_write -/
def f_X1_write (g : (Nat → Nat → Int32)) (b : Bool) (x : Nat) (a1 : Int32) (a2 : Int32) (a3 : Int32) (a4 : Int32) : Option (Nat → Nat → Int32) :=
  (if (f_X1_placeOf a1 a2 a3) < 0 then
some g
else
(if m_S0[x]? = some (.inl 1) then
((m_fr b x 0).bind fun q3 =>
((m_len 0 q3).bind fun n5 =>
(if m_in (f_X1_placeOf a1 a2 a3) n5 then
(m_let (m_up g q3 (f_X1_placeOf a1 a2 a3).toNatClampNeg a4) fun g8 =>
some g8) else none))) else none))
set_option maxRecDepth 100000 in
set_option maxHeartbeats 4000000 in
theorem c_X1_write {G : mG} {g : (Nat → Nat → Int32)} {b : Bool} {x : Nat} {a1 : Int32} {a2 : Int32} {a3 : Int32} {a4 : Int32} {R : (Nat → Nat → Int32)} (e : f_X1_write g b x a1 a2 a3 a4 = some R) : MC G mX1_write 1 0 0 [.ref x, .int a1, .int a2, .int a3, .int a4] (m_h g b) none (m_h R b) := by
  refine MC_intro mlX1_write (Nat.le_of_ble_eq_true rfl) rfl rfl trivial ?_
  unfold f_X1_write at e
  refine r_iload_n dX1_write_0 rfl rfl ?_
  refine r_iload_n dX1_write_1 rfl rfl ?_
  refine r_iload_n dX1_write_2 rfl rfl ?_
  refine q_callS (rest := []) (c_X1_placeOf rfl) dX1_write_3 lkX1_15 rfl rfl (Nat.le_of_ble_eq_true rfl) (by decide) ?_
  refine r_istore dX1_write_6 (by decide) rfl ?_
  refine r_iload dX1_write_8 rfl ?_
  refine r_if_lt (tgt := 22) dX1_write_10 (by decide) (fun h1 => ?_) (fun h1 => ?_)
  · have e := g_iT h1 e
    have e := Option.some.inj e
    subst e
    exact r_ret dX1_write_22 rfl rfl
  · have e := g_iF h1 e
    refine r_aload_n dX1_write_13 rfl rfl ?_
    obtain ⟨h2, e⟩ := g_gd e
    obtain ⟨q3, h4, e⟩ := g_bd e
    refine q_getr dX1_write_14 flX1_9 rfl h2 h4 ?_
    refine r_iload dX1_write_17 rfl ?_
    refine r_iload dX1_write_19 rfl ?_
    obtain ⟨n5, h6, e⟩ := g_bd e
    obtain ⟨h7, e⟩ := g_gd e
    refine q_iastL dX1_write_21 (m_len_s h6) h7 (fun g8 h9 => ?_)
    have e := g_lt h9 e
    have e := Option.some.inj e
    subst e
    exact r_ret dX1_write_22 rfl rfl
/-! X6_row -/
def lp_X6_row_65 (b : Bool) (a1 : Int32) (x65_2 : Nat) (x65_3 : Int32) : Nat → Int32 → (Nat → Nat → Int32) → Option (Int32 × (Nat → Nat → Int32))
  | 0, _, _ => none
  | n + 1, y65_4, g65 =>
  (if (g65 0 10) ≤ y65_4 then
(if m_S0[x65_2]? = some (.inl 4) then
(m_let (m_up g65 x65_2 4 (x65_3 + 1)) fun g65003 =>
(m_let (m_up g65003 0 10 0) fun g65005 =>
(m_let (m_up g65005 0 12 0) fun g65007 =>
some (x65_3, g65007)))) else none)
else
(if m_in y65_4 6 then
((f_X1_write g65 b 4 a1 x65_3 y65_4 (g65 3 y65_4.toNatClampNeg)).bind fun v65010 =>
lp_X6_row_65 b a1 x65_2 x65_3 n (y65_4 + 1) v65010) else none))
def f_X6_row (g : (Nat → Nat → Int32)) (b : Bool) (a1 : Int32) : Option (Int32 × (Nat → Nat → Int32)) :=
  ((f_X6_tableAt g b a1).bind fun v1 =>
(m_oc v1
(some ((-1), g))
(fun q3 =>
((f_X6_waitingCellsFit g b q3).bind fun v4 =>
(bif v4 then
((f_X6_rowsWith g b 4 a1 0 (g 3 0)).bind fun v7 =>
(if v7 ≤ 0 then
(if m_S0[q3]? = some (.inl 4) then
(if (g q3 4) < 12 then
lp_X6_row_65 b a1 q3 (g q3 4) 2000 0 g
else
some ((-4), g)) else none)
else
some ((-3), g)))
else
some ((-2), g))))))
set_option maxRecDepth 100000 in
set_option maxHeartbeats 4000000 in
theorem w_X6_row_65 {G : mG} {b : Bool} {a1 : Int32} {x65_2 : Nat} {x65_3 : Int32} : ∀ (n : Nat) (y65_4 : Int32) (g65 : (Nat → Nat → Int32)) (R : (Int32 × (Nat → Nat → Int32))), lp_X6_row_65 b a1 x65_2 x65_3 n y65_4 g65 = some R → MW G mX6_row 4 0 0 65 [.ref 0, .int a1, .ref x65_2, .int x65_3, .int y65_4] [] (m_h g65 b) (some (.int R.1)) (m_h R.2 b)
  | 0, _, _, R, e => absurd (show (none : Option (Int32 × (Nat → Nat → Int32))) = some R from e) (fun h => by cases h)
  | n + 1, y65_4, g65, R, e => by
    rw [lp_X6_row_65] at e
    refine r_iload dX6_row_65 rfl ?_
    refine r_aload_n dX6_row_67 rfl rfl ?_
    refine q_geti dX6_row_68 flX6_61 rfl rfl ?_
    refine r_icmp_ge (tgt := 98) dX6_row_71 (by decide) (fun h65001 => ?_) (fun h65001 => ?_)
    · have e := g_iT h65001 e
      refine r_aload_n dX6_row_98 rfl rfl ?_
      refine r_iload_n dX6_row_99 rfl rfl ?_
      refine r_iconst (x := 1) dX6_row_100 (by decide) ?_
      refine r_iadd dX6_row_101 ?_
      obtain ⟨h65002, e⟩ := g_gd e
      refine q_putiL dX6_row_102 flX6_77 (Or.inl rfl) (Or.inl rfl) h65002 (fun g65003 h65004 => ?_)
      have e := g_lt h65004 e
      refine r_aload_n dX6_row_105 rfl rfl ?_
      refine r_iconst (x := 0) dX6_row_106 (by decide) ?_
      refine q_putiL dX6_row_107 flX6_61 (Or.inl rfl) (Or.inl rfl) rfl (fun g65005 h65006 => ?_)
      have e := g_lt h65006 e
      refine r_aload_n dX6_row_110 rfl rfl ?_
      refine r_iconst (x := 0) dX6_row_111 (by decide) ?_
      refine q_putiL dX6_row_112 flX6_67 (Or.inl rfl) (Or.inr ⟨rfl, by decide⟩) rfl (fun g65007 h65008 => ?_)
      have e := g_lt h65008 e
      refine r_iload_n dX6_row_115 rfl rfl ?_
      have e := Option.some.inj e
      subst e
      exact r_ret dX6_row_116 rfl rfl
    · have e := g_iF h65001 e
      refine r_aload_n dX6_row_74 rfl rfl ?_
      refine q_getr dX6_row_75 flX6_30 rfl rfl (m_fr_0_3 _) ?_
      refine r_iload_n dX6_row_78 rfl rfl ?_
      refine r_iload_n dX6_row_79 rfl rfl ?_
      refine r_iload dX6_row_80 rfl ?_
      refine r_aload_n dX6_row_82 rfl rfl ?_
      refine q_getr dX6_row_83 flX6_23 rfl rfl (m_fr_0_2 _) ?_
      refine r_iload dX6_row_86 rfl ?_
      obtain ⟨h65009, e⟩ := g_gd e
      refine q_iald dX6_row_88 rfl h65009 ?_
      obtain ⟨v65010, h65011, e⟩ := g_bd e
      refine q_callV (rest := []) (c_X1_write h65011) dX6_row_89 lkX6_95 rfl rfl rfl rfl (Nat.le_of_ble_eq_true rfl) (by decide) ?_
      refine r_iinc (y := 1) dX6_row_92 rfl (by decide) (by decide) rfl ?_
      refine r_goto (tgt := 65) dX6_row_95 (by decide) ?_
      exact w_X6_row_65 n _ _ R e
set_option maxRecDepth 100000 in
set_option maxHeartbeats 4000000 in
theorem c_X6_row {G : mG} {g : (Nat → Nat → Int32)} {b : Bool} {a1 : Int32} {R : (Int32 × (Nat → Nat → Int32))} (e : f_X6_row g b a1 = some R) : MC G mX6_row 4 0 0 [.ref 0, .int a1] (m_h g b) (some (.int R.1)) (m_h R.2 b) := by
  refine MC_intro mlX6_row (Nat.le_of_ble_eq_true rfl) ⟨_, rfl⟩ rfl trivial ?_
  unfold f_X6_row at e
  refine r_aload_n dX6_row_0 rfl rfl ?_
  refine r_iload_n dX6_row_1 rfl rfl ?_
  obtain ⟨v1, h2, e⟩ := g_bd e
  refine q_callV (rest := []) (c_X6_tableAt h2) dX6_row_2 lkX6_73 rfl rfl rfl rfl (Nat.le_of_ble_eq_true rfl) (by decide) ?_
  refine r_astore_nO dX6_row_5 rfl (by decide) rfl ?_
  refine r_aload_nO dX6_row_6 rfl rfl ?_
  cases v1 with
  | none =>
    have e := g_oN e
    refine r_ifnonnullN (tgt := 12) dX6_row_7 (by decide) ?_
    refine r_iconst (x := (-1)) dX6_row_10 (by decide) ?_
    have e := Option.some.inj e
    subst e
    exact r_ret dX6_row_11 rfl rfl
  | some q3 =>
    have e := g_oS e
    refine r_ifnonnull (tgt := 12) dX6_row_7 (by decide) ?_
    refine r_aload_n dX6_row_12 rfl rfl ?_
    refine r_aload_n dX6_row_13 rfl rfl ?_
    obtain ⟨v4, h5, e⟩ := g_bd e
    refine q_callV (rest := []) (c_X6_waitingCellsFit h5) dX6_row_14 lkX6_87 rfl rfl rfl rfl (Nat.le_of_ble_eq_true rfl) (by decide) ?_
    refine r_ifneB (tgt := 23) dX6_row_17 (by decide) (fun h6 => ?_) (fun h6 => ?_)
    · have e := g_cT h6 e
      refine r_aload_n dX6_row_23 rfl rfl ?_
      refine r_aload_n dX6_row_24 rfl rfl ?_
      refine q_getr dX6_row_25 flX6_30 rfl rfl (m_fr_0_3 _) ?_
      refine r_iload_n dX6_row_28 rfl rfl ?_
      refine r_iconst (x := 0) dX6_row_29 (by decide) ?_
      refine r_aload_n dX6_row_30 rfl rfl ?_
      refine q_getr dX6_row_31 flX6_23 rfl rfl (m_fr_0_2 _) ?_
      refine r_iconst (x := 0) dX6_row_34 (by decide) ?_
      refine q_iald dX6_row_35 rfl (by decide) ?_
      obtain ⟨v7, h8, e⟩ := g_bd e
      refine q_callV (rest := []) (c_X6_rowsWith h8) dX6_row_36 lkX6_91 rfl rfl rfl rfl (Nat.le_of_ble_eq_true rfl) (by decide) ?_
      refine r_if_le (tgt := 45) dX6_row_39 (by decide) (fun h9 => ?_) (fun h9 => ?_)
      · have e := g_iT h9 e
        refine r_aload_n dX6_row_45 rfl rfl ?_
        obtain ⟨h10, e⟩ := g_gd e
        refine q_geti dX6_row_46 flX6_77 rfl h10 ?_
        refine r_bipush (x := 12) dX6_row_49 (by decide) ?_
        refine r_icmp_lt (tgt := 57) dX6_row_51 (by decide) (fun h11 => ?_) (fun h11 => ?_)
        · have e := g_iT h11 e
          refine r_aload_n dX6_row_57 rfl rfl ?_
          refine q_geti dX6_row_58 flX6_77 rfl h10 ?_
          refine r_istore_n dX6_row_61 rfl (by decide) rfl ?_
          refine r_iconst (x := 0) dX6_row_62 (by decide) ?_
          refine r_istore dX6_row_63 (by decide) rfl ?_
          exact w_X6_row_65 2000 _ _ R e
        · have e := g_iF h11 e
          refine r_bipush (x := (-4)) dX6_row_54 (by decide) ?_
          have e := Option.some.inj e
          subst e
          exact r_ret dX6_row_56 rfl rfl
      · have e := g_iF h9 e
        refine r_bipush (x := (-3)) dX6_row_42 (by decide) ?_
        have e := Option.some.inj e
        subst e
        exact r_ret dX6_row_44 rfl rfl
    · have e := g_cF h6 e
      refine r_bipush (x := (-2)) dX6_row_20 (by decide) ?_
      have e := Option.some.inj e
      subst e
      exact r_ret dX6_row_22 rfl rfl
/-! X6_wipe -/
def f_X6_wipe (g : (Nat → Nat → Int32)) : Option (Int32 × (Nat → Nat → Int32)) :=
  (m_let (m_up g 0 10 0) fun g1 =>
some ((g 0 10), g1))
set_option maxRecDepth 100000 in
set_option maxHeartbeats 4000000 in
theorem c_X6_wipe {G : mG} {g : (Nat → Nat → Int32)} {b : Bool} {R : (Int32 × (Nat → Nat → Int32))} (e : f_X6_wipe g = some R) : MC G mX6_wipe 0 0 0 [.ref 0] (m_h g b) (some (.int R.1)) (m_h R.2 b) := by
  refine MC_intro mlX6_wipe (Nat.le_of_ble_eq_true rfl) ⟨_, rfl⟩ rfl trivial ?_
  unfold f_X6_wipe at e
  refine r_aload_n dX6_wipe_0 rfl rfl ?_
  refine q_geti dX6_wipe_1 flX6_61 rfl rfl ?_
  refine r_istore_n dX6_wipe_4 rfl (by decide) rfl ?_
  refine r_aload_n dX6_wipe_5 rfl rfl ?_
  refine r_iconst (x := 0) dX6_wipe_6 (by decide) ?_
  refine q_putiL dX6_wipe_7 flX6_61 (Or.inl rfl) (Or.inl rfl) rfl (fun g1 h2 => ?_)
  have e := g_lt h2 e
  refine r_iload_n dX6_wipe_10 rfl rfl ?_
  have e := Option.some.inj e
  subst e
  exact r_ret dX6_wipe_11 rfl rfl
/-! X6_columnAt -/
def f_X6_columnAt (g : (Nat → Nat → Int32)) (b : Bool) (a1 : Int32) (a2 : Int32) : Option (Option Nat) :=
  ((f_X6_tableAt g b a1).bind fun v1 =>
(m_oc v1
(some none)
(fun q3 =>
(if m_S0[q3]? = some (.inl 4) then
((f_X4_columnNumbered g b q3 a2).bind fun v5 =>
some v5) else none))))
set_option maxRecDepth 100000 in
set_option maxHeartbeats 4000000 in
theorem c_X6_columnAt {G : mG} {g : (Nat → Nat → Int32)} {b : Bool} {a1 : Int32} {a2 : Int32} {R : (Option Nat)} (e : f_X6_columnAt g b a1 a2 = some R) : MC G mX6_columnAt 1 0 0 [.ref 0, .int a1, .int a2] (m_h g b) (some (va_rf R)) (m_h g b) := by
  refine MC_intro mlX6_columnAt (Nat.le_of_ble_eq_true rfl) (m_okO _) rfl trivial ?_
  unfold f_X6_columnAt at e
  refine r_aload_n dX6_columnAt_0 rfl rfl ?_
  refine r_iload_n dX6_columnAt_1 rfl rfl ?_
  obtain ⟨v1, h2, e⟩ := g_bd e
  refine q_callV (rest := []) (c_X6_tableAt h2) dX6_columnAt_2 lkX6_73 rfl rfl rfl rfl (Nat.le_of_ble_eq_true rfl) (by decide) ?_
  refine r_astore_nO dX6_columnAt_5 rfl (by decide) rfl ?_
  refine r_aload_nO dX6_columnAt_6 rfl rfl ?_
  cases v1 with
  | none =>
    have e := g_oN e
    refine r_ifnonnullN (tgt := 14) dX6_columnAt_7 (by decide) ?_
    refine r_null dX6_columnAt_10 ?_
    refine r_goto (tgt := 19) dX6_columnAt_11 (by decide) ?_
    have e := Option.some.inj e
    subst e
    exact r_ret dX6_columnAt_19 rfl rfl
  | some q3 =>
    have e := g_oS e
    refine r_ifnonnull (tgt := 14) dX6_columnAt_7 (by decide) ?_
    refine r_aload_n dX6_columnAt_14 rfl rfl ?_
    refine r_iload_n dX6_columnAt_15 rfl rfl ?_
    obtain ⟨h4, e⟩ := g_gd e
    obtain ⟨v5, h6, e⟩ := g_bd e
    refine q_callV (rest := []) (c_X4_columnNumbered h6) dX6_columnAt_16 lkX6_245 h4 rfl rfl rfl (Nat.le_of_ble_eq_true rfl) (by decide) ?_
    have e := Option.some.inj e
    subst e
    exact r_ret dX6_columnAt_19 rfl rfl
/-! X6_owner -/
def f_X6_owner (g : (Nat → Nat → Int32)) (b : Bool) (a1 : Int32) (a2 : Int32) : Option (Int32 × (Nat → Nat → Int32)) :=
  ((f_X6_tableAt g b a1).bind fun v1 =>
((f_X6_columnAt g b a1 a2).bind fun v3 =>
(m_oc v1
(some ((-1), g))
(fun q5 =>
(m_oc v3
(some ((-1), g))
(fun q6 =>
(if m_S0[q6]? = some (.inl 0) then
(if (g q6 0) = 1 then
(if m_S0[q5]? = some (.inl 4) then
(m_let (m_up g q5 5 a2) fun g10 =>
some ((g q5 5), g10)) else none)
else
(if (g q6 0) = 0 then
(if m_S0[q5]? = some (.inl 4) then
(m_let (m_up g q5 5 a2) fun g14 =>
some ((g q5 5), g14)) else none)
else
some ((-2), g))) else none)))))))
set_option maxRecDepth 100000 in
set_option maxHeartbeats 4000000 in
theorem c_X6_owner {G : mG} {g : (Nat → Nat → Int32)} {b : Bool} {a1 : Int32} {a2 : Int32} {R : (Int32 × (Nat → Nat → Int32))} (e : f_X6_owner g b a1 a2 = some R) : MC G mX6_owner 2 0 0 [.ref 0, .int a1, .int a2] (m_h g b) (some (.int R.1)) (m_h R.2 b) := by
  refine MC_intro mlX6_owner (Nat.le_of_ble_eq_true rfl) ⟨_, rfl⟩ rfl trivial ?_
  unfold f_X6_owner at e
  refine r_aload_n dX6_owner_0 rfl rfl ?_
  refine r_iload_n dX6_owner_1 rfl rfl ?_
  obtain ⟨v1, h2, e⟩ := g_bd e
  refine q_callV (rest := []) (c_X6_tableAt h2) dX6_owner_2 lkX6_73 rfl rfl rfl rfl (Nat.le_of_ble_eq_true rfl) (by decide) ?_
  refine r_astore_nO dX6_owner_5 rfl (by decide) rfl ?_
  refine r_aload_n dX6_owner_6 rfl rfl ?_
  refine r_iload_n dX6_owner_7 rfl rfl ?_
  refine r_iload_n dX6_owner_8 rfl rfl ?_
  obtain ⟨v3, h4, e⟩ := g_bd e
  refine q_callV (rest := []) (c_X6_columnAt h4) dX6_owner_9 lkX6_99 rfl rfl rfl rfl (Nat.le_of_ble_eq_true rfl) (by decide) ?_
  refine r_astoreO dX6_owner_12 (by decide) rfl ?_
  refine r_aload_nO dX6_owner_14 rfl rfl ?_
  cases v1 with
  | none =>
    have e := g_oN e
    refine r_ifnullN (tgt := 23) dX6_owner_15 (by decide) ?_
    refine r_iconst (x := (-1)) dX6_owner_23 (by decide) ?_
    have e := Option.some.inj e
    subst e
    exact r_ret dX6_owner_24 rfl rfl
  | some q5 =>
    have e := g_oS e
    refine r_ifnull (tgt := 23) dX6_owner_15 (by decide) ?_
    refine r_aloadO dX6_owner_18 rfl ?_
    cases v3 with
    | none =>
      have e := g_oN e
      refine r_ifnonnullN (tgt := 25) dX6_owner_20 (by decide) ?_
      refine r_iconst (x := (-1)) dX6_owner_23 (by decide) ?_
      have e := Option.some.inj e
      subst e
      exact r_ret dX6_owner_24 rfl rfl
    | some q6 =>
      have e := g_oS e
      refine r_ifnonnull (tgt := 25) dX6_owner_20 (by decide) ?_
      refine r_aload dX6_owner_25 rfl ?_
      obtain ⟨h7, e⟩ := g_gd e
      refine q_geti dX6_owner_27 flX6_103 rfl h7 ?_
      refine r_iconst (x := 1) dX6_owner_30 (by decide) ?_
      refine r_icmp_eq (tgt := 45) dX6_owner_31 (by decide) (fun h8 => ?_) (fun h8 => ?_)
      · have e := g_iT h8 e
        refine r_aload_n dX6_owner_45 rfl rfl ?_
        obtain ⟨h9, e⟩ := g_gd e
        refine q_geti dX6_owner_46 flX6_108 rfl h9 ?_
        refine r_istore dX6_owner_49 (by decide) rfl ?_
        refine r_aload_n dX6_owner_51 rfl rfl ?_
        refine r_iload_n dX6_owner_52 rfl rfl ?_
        refine q_putiL dX6_owner_53 flX6_108 (Or.inl rfl) (Or.inl rfl) h9 (fun g10 h11 => ?_)
        have e := g_lt h11 e
        refine r_iload dX6_owner_56 rfl ?_
        have e := Option.some.inj e
        subst e
        exact r_ret dX6_owner_58 rfl rfl
      · have e := g_iF h8 e
        refine r_aload dX6_owner_34 rfl ?_
        refine q_geti dX6_owner_36 flX6_103 rfl h7 ?_
        refine r_if_eq (tgt := 45) dX6_owner_39 (by decide) (fun h12 => ?_) (fun h12 => ?_)
        · have e := g_iT h12 e
          refine r_aload_n dX6_owner_45 rfl rfl ?_
          obtain ⟨h13, e⟩ := g_gd e
          refine q_geti dX6_owner_46 flX6_108 rfl h13 ?_
          refine r_istore dX6_owner_49 (by decide) rfl ?_
          refine r_aload_n dX6_owner_51 rfl rfl ?_
          refine r_iload_n dX6_owner_52 rfl rfl ?_
          refine q_putiL dX6_owner_53 flX6_108 (Or.inl rfl) (Or.inl rfl) h13 (fun g14 h15 => ?_)
          have e := g_lt h15 e
          refine r_iload dX6_owner_56 rfl ?_
          have e := Option.some.inj e
          subst e
          exact r_ret dX6_owner_58 rfl rfl
        · have e := g_iF h12 e
          refine r_bipush (x := (-2)) dX6_owner_42 (by decide) ?_
          have e := Option.some.inj e
          subst e
          exact r_ret dX6_owner_44 rfl rfl
/-! X6_isMaskOf -/
def f_X6_isMaskOf (a1 : Int32) (a2 : Int32) : Bool :=
  (if a2 = 0 then
true
else
(if a2 = 1 then
(if a1 = 0 then
true
else
(if a1 = 4 then
true
else
false))
else
(if a2 = 2 then
(if a1 = 2 then
true
else
false)
else
(if a2 = 3 then
(if a1 = 2 then
true
else
(if a1 = 3 then
true
else
false))
else
(if a2 = 4 then
(if a1 = 4 then
true
else
false)
else
(if a2 = 5 then
(if a1 = 0 then
false
else
true)
else
false))))))
set_option maxRecDepth 100000 in
set_option maxHeartbeats 4000000 in
theorem c_X6_isMaskOf {G : mG} {g : (Nat → Nat → Int32)} {b : Bool} {a1 : Int32} {a2 : Int32} {R : Bool} (e : f_X6_isMaskOf a1 a2 = R) : MC G mX6_isMaskOf 0 0 0 [.int a1, .int a2] (m_h g b) (some (.int (m_bi R))) (m_h g b) := by
  refine MC_intro mlX6_isMaskOf (Nat.le_of_ble_eq_true rfl) (m_okZ _) rfl trivial ?_
  unfold f_X6_isMaskOf at e
  refine r_iload_n dX6_isMaskOf_0 rfl rfl ?_
  by_cases h1 : a2 = 0
  · have e := g_iT h1 e
    refine r_tabIn (off := 39) (tgt := 40) dX6_isMaskOf_1 (by rw [h1]; decide) (by rw [h1]; decide) (by rw [h1]; decide) (by decide) ?_
    refine r_iconst (x := 1) dX6_isMaskOf_40 (by decide) ?_
    subst e
    exact r_ret dX6_isMaskOf_41 rfl rfl
  have e := g_iF h1 e
  by_cases h2 : a2 = 1
  · have e := g_iT h2 e
    refine r_tabIn (off := 41) (tgt := 42) dX6_isMaskOf_1 (by rw [h2]; decide) (by rw [h2]; decide) (by rw [h2]; decide) (by decide) ?_
    refine r_iload_n dX6_isMaskOf_42 rfl rfl ?_
    refine r_if_eq (tgt := 51) dX6_isMaskOf_43 (by decide) (fun h3 => ?_) (fun h3 => ?_)
    · have e := g_iT h3 e
      refine r_iconst (x := 1) dX6_isMaskOf_51 (by decide) ?_
      refine r_goto (tgt := 56) dX6_isMaskOf_52 (by decide) ?_
      subst e
      exact r_ret dX6_isMaskOf_56 rfl rfl
    · have e := g_iF h3 e
      refine r_iload_n dX6_isMaskOf_46 rfl rfl ?_
      refine r_iconst (x := 4) dX6_isMaskOf_47 (by decide) ?_
      refine r_icmp_ne (tgt := 55) dX6_isMaskOf_48 (by decide) (fun h4 => ?_) (fun h4 => ?_)
      · have e := g_iF h4 e
        refine r_iconst (x := 0) dX6_isMaskOf_55 (by decide) ?_
        subst e
        exact r_ret dX6_isMaskOf_56 rfl rfl
      · have e := g_iT h4 e
        refine r_iconst (x := 1) dX6_isMaskOf_51 (by decide) ?_
        refine r_goto (tgt := 56) dX6_isMaskOf_52 (by decide) ?_
        subst e
        exact r_ret dX6_isMaskOf_56 rfl rfl
  have e := g_iF h2 e
  by_cases h5 : a2 = 2
  · have e := g_iT h5 e
    refine r_tabIn (off := 56) (tgt := 57) dX6_isMaskOf_1 (by rw [h5]; decide) (by rw [h5]; decide) (by rw [h5]; decide) (by decide) ?_
    refine r_iload_n dX6_isMaskOf_57 rfl rfl ?_
    refine r_iconst (x := 2) dX6_isMaskOf_58 (by decide) ?_
    refine r_icmp_ne (tgt := 66) dX6_isMaskOf_59 (by decide) (fun h6 => ?_) (fun h6 => ?_)
    · have e := g_iF h6 e
      refine r_iconst (x := 0) dX6_isMaskOf_66 (by decide) ?_
      subst e
      exact r_ret dX6_isMaskOf_67 rfl rfl
    · have e := g_iT h6 e
      refine r_iconst (x := 1) dX6_isMaskOf_62 (by decide) ?_
      refine r_goto (tgt := 67) dX6_isMaskOf_63 (by decide) ?_
      subst e
      exact r_ret dX6_isMaskOf_67 rfl rfl
  have e := g_iF h5 e
  by_cases h7 : a2 = 3
  · have e := g_iT h7 e
    refine r_tabIn (off := 67) (tgt := 68) dX6_isMaskOf_1 (by rw [h7]; decide) (by rw [h7]; decide) (by rw [h7]; decide) (by decide) ?_
    refine r_iload_n dX6_isMaskOf_68 rfl rfl ?_
    refine r_iconst (x := 2) dX6_isMaskOf_69 (by decide) ?_
    refine r_icmp_eq (tgt := 78) dX6_isMaskOf_70 (by decide) (fun h8 => ?_) (fun h8 => ?_)
    · have e := g_iT h8 e
      refine r_iconst (x := 1) dX6_isMaskOf_78 (by decide) ?_
      refine r_goto (tgt := 83) dX6_isMaskOf_79 (by decide) ?_
      subst e
      exact r_ret dX6_isMaskOf_83 rfl rfl
    · have e := g_iF h8 e
      refine r_iload_n dX6_isMaskOf_73 rfl rfl ?_
      refine r_iconst (x := 3) dX6_isMaskOf_74 (by decide) ?_
      refine r_icmp_ne (tgt := 82) dX6_isMaskOf_75 (by decide) (fun h9 => ?_) (fun h9 => ?_)
      · have e := g_iF h9 e
        refine r_iconst (x := 0) dX6_isMaskOf_82 (by decide) ?_
        subst e
        exact r_ret dX6_isMaskOf_83 rfl rfl
      · have e := g_iT h9 e
        refine r_iconst (x := 1) dX6_isMaskOf_78 (by decide) ?_
        refine r_goto (tgt := 83) dX6_isMaskOf_79 (by decide) ?_
        subst e
        exact r_ret dX6_isMaskOf_83 rfl rfl
  have e := g_iF h7 e
  by_cases h10 : a2 = 4
  · have e := g_iT h10 e
    refine r_tabIn (off := 83) (tgt := 84) dX6_isMaskOf_1 (by rw [h10]; decide) (by rw [h10]; decide) (by rw [h10]; decide) (by decide) ?_
    refine r_iload_n dX6_isMaskOf_84 rfl rfl ?_
    refine r_iconst (x := 4) dX6_isMaskOf_85 (by decide) ?_
    refine r_icmp_ne (tgt := 93) dX6_isMaskOf_86 (by decide) (fun h11 => ?_) (fun h11 => ?_)
    · have e := g_iF h11 e
      refine r_iconst (x := 0) dX6_isMaskOf_93 (by decide) ?_
      subst e
      exact r_ret dX6_isMaskOf_94 rfl rfl
    · have e := g_iT h11 e
      refine r_iconst (x := 1) dX6_isMaskOf_89 (by decide) ?_
      refine r_goto (tgt := 94) dX6_isMaskOf_90 (by decide) ?_
      subst e
      exact r_ret dX6_isMaskOf_94 rfl rfl
  have e := g_iF h10 e
  by_cases h12 : a2 = 5
  · have e := g_iT h12 e
    refine r_tabIn (off := 94) (tgt := 95) dX6_isMaskOf_1 (by rw [h12]; decide) (by rw [h12]; decide) (by rw [h12]; decide) (by decide) ?_
    refine r_iload_n dX6_isMaskOf_95 rfl rfl ?_
    refine r_if_eq (tgt := 103) dX6_isMaskOf_96 (by decide) (fun h13 => ?_) (fun h13 => ?_)
    · have e := g_iT h13 e
      refine r_iconst (x := 0) dX6_isMaskOf_103 (by decide) ?_
      subst e
      exact r_ret dX6_isMaskOf_104 rfl rfl
    · have e := g_iF h13 e
      refine r_iconst (x := 1) dX6_isMaskOf_99 (by decide) ?_
      refine r_goto (tgt := 104) dX6_isMaskOf_100 (by decide) ?_
      subst e
      exact r_ret dX6_isMaskOf_104 rfl rfl
  have e := g_iF h12 e
  refine r_tabOut (tgt := 105) dX6_isMaskOf_1 (m_swOut0_6 h1 h2 h5 h7 h10 h12) (by decide) ?_
  refine r_iconst (x := 0) dX6_isMaskOf_105 (by decide) ?_
  subst e
  exact r_ret dX6_isMaskOf_106 rfl rfl
/-! X6_isNumberOf -/
def f_X6_isNumberOf (a1 : Int32) (a2 : Int32) : Bool :=
  (if a1 = 3 then
(if a2 < 1 then
false
else
(if 1000 < a2 then
false
else
true))
else
(if a1 = 4 then
(if a2 < 0 then
false
else
(if 11 < a2 then
false
else
true))
else
(if a2 = 0 then
true
else
false)))
set_option maxRecDepth 100000 in
set_option maxHeartbeats 4000000 in
theorem c_X6_isNumberOf {G : mG} {g : (Nat → Nat → Int32)} {b : Bool} {a1 : Int32} {a2 : Int32} {R : Bool} (e : f_X6_isNumberOf a1 a2 = R) : MC G mX6_isNumberOf 0 0 0 [.int a1, .int a2] (m_h g b) (some (.int (m_bi R))) (m_h g b) := by
  refine MC_intro mlX6_isNumberOf (Nat.le_of_ble_eq_true rfl) (m_okZ _) rfl trivial ?_
  unfold f_X6_isNumberOf at e
  refine r_iload_n dX6_isNumberOf_0 rfl rfl ?_
  refine r_iconst (x := 3) dX6_isNumberOf_1 (by decide) ?_
  refine r_icmp_ne (tgt := 23) dX6_isNumberOf_2 (by decide) (fun h1 => ?_) (fun h1 => ?_)
  · have e := g_iF h1 e
    refine r_iload_n dX6_isNumberOf_23 rfl rfl ?_
    refine r_iconst (x := 4) dX6_isNumberOf_24 (by decide) ?_
    refine r_icmp_ne (tgt := 44) dX6_isNumberOf_25 (by decide) (fun h2 => ?_) (fun h2 => ?_)
    · have e := g_iF h2 e
      refine r_iload_n dX6_isNumberOf_44 rfl rfl ?_
      refine r_if_ne (tgt := 52) dX6_isNumberOf_45 (by decide) (fun h3 => ?_) (fun h3 => ?_)
      · have e := g_iF h3 e
        refine r_iconst (x := 0) dX6_isNumberOf_52 (by decide) ?_
        subst e
        exact r_ret dX6_isNumberOf_53 rfl rfl
      · have e := g_iT h3 e
        refine r_iconst (x := 1) dX6_isNumberOf_48 (by decide) ?_
        refine r_goto (tgt := 53) dX6_isNumberOf_49 (by decide) ?_
        subst e
        exact r_ret dX6_isNumberOf_53 rfl rfl
    · have e := g_iT h2 e
      refine r_iload_n dX6_isNumberOf_28 rfl rfl ?_
      refine r_if_lt (tgt := 42) dX6_isNumberOf_29 (by decide) (fun h4 => ?_) (fun h4 => ?_)
      · have e := g_iT h4 e
        refine r_iconst (x := 0) dX6_isNumberOf_42 (by decide) ?_
        subst e
        exact r_ret dX6_isNumberOf_43 rfl rfl
      · have e := g_iF h4 e
        refine r_iload_n dX6_isNumberOf_32 rfl rfl ?_
        refine r_bipush (x := 11) dX6_isNumberOf_33 (by decide) ?_
        refine r_icmp_gt (tgt := 42) dX6_isNumberOf_35 (by decide) (fun h5 => ?_) (fun h5 => ?_)
        · have e := g_iT h5 e
          refine r_iconst (x := 0) dX6_isNumberOf_42 (by decide) ?_
          subst e
          exact r_ret dX6_isNumberOf_43 rfl rfl
        · have e := g_iF h5 e
          refine r_iconst (x := 1) dX6_isNumberOf_38 (by decide) ?_
          refine r_goto (tgt := 43) dX6_isNumberOf_39 (by decide) ?_
          subst e
          exact r_ret dX6_isNumberOf_43 rfl rfl
  · have e := g_iT h1 e
    refine r_iload_n dX6_isNumberOf_5 rfl rfl ?_
    refine r_iconst (x := 1) dX6_isNumberOf_6 (by decide) ?_
    refine r_icmp_lt (tgt := 21) dX6_isNumberOf_7 (by decide) (fun h6 => ?_) (fun h6 => ?_)
    · have e := g_iT h6 e
      refine r_iconst (x := 0) dX6_isNumberOf_21 (by decide) ?_
      subst e
      exact r_ret dX6_isNumberOf_22 rfl rfl
    · have e := g_iF h6 e
      refine r_iload_n dX6_isNumberOf_10 rfl rfl ?_
      refine r_sipush (x := 1000) dX6_isNumberOf_11 (by decide) ?_
      refine r_icmp_gt (tgt := 21) dX6_isNumberOf_14 (by decide) (fun h7 => ?_) (fun h7 => ?_)
      · have e := g_iT h7 e
        refine r_iconst (x := 0) dX6_isNumberOf_21 (by decide) ?_
        subst e
        exact r_ret dX6_isNumberOf_22 rfl rfl
      · have e := g_iF h7 e
        refine r_iconst (x := 1) dX6_isNumberOf_17 (by decide) ?_
        refine r_goto (tgt := 22) dX6_isNumberOf_18 (by decide) ?_
        subst e
        exact r_ret dX6_isNumberOf_22 rfl rfl
/-! X6_mask -/
def f_X6_mask (g : (Nat → Nat → Int32)) (b : Bool) (a1 : Int32) (a2 : Int32) (a3 : Int32) (a4 : Int32) : Option (Int32 × (Nat → Nat → Int32)) :=
  ((f_X6_columnAt g b a1 a2).bind fun v1 =>
(m_oc v1
(some ((-1), g))
(fun q3 =>
(if m_S0[q3]? = some (.inl 0) then
(bif (f_X6_isMaskOf (g q3 0) a3) then
(bif (f_X6_isNumberOf a3 a4) then
(m_let (m_up g q3 2 a3) fun g7 =>
(m_let (m_up g7 q3 3 a4) fun g9 =>
some (0, g9)))
else
some ((-2), g))
else
some ((-2), g)) else none))))
set_option maxRecDepth 100000 in
set_option maxHeartbeats 4000000 in
theorem c_X6_mask {G : mG} {g : (Nat → Nat → Int32)} {b : Bool} {a1 : Int32} {a2 : Int32} {a3 : Int32} {a4 : Int32} {R : (Int32 × (Nat → Nat → Int32))} (e : f_X6_mask g b a1 a2 a3 a4 = some R) : MC G mX6_mask 2 0 0 [.ref 0, .int a1, .int a2, .int a3, .int a4] (m_h g b) (some (.int R.1)) (m_h R.2 b) := by
  refine MC_intro mlX6_mask (Nat.le_of_ble_eq_true rfl) ⟨_, rfl⟩ rfl trivial ?_
  unfold f_X6_mask at e
  refine r_aload_n dX6_mask_0 rfl rfl ?_
  refine r_iload_n dX6_mask_1 rfl rfl ?_
  refine r_iload_n dX6_mask_2 rfl rfl ?_
  obtain ⟨v1, h2, e⟩ := g_bd e
  refine q_callV (rest := []) (c_X6_columnAt h2) dX6_mask_3 lkX6_99 rfl rfl rfl rfl (Nat.le_of_ble_eq_true rfl) (by decide) ?_
  refine r_astoreO dX6_mask_6 (by decide) rfl ?_
  refine r_aloadO dX6_mask_8 rfl ?_
  cases v1 with
  | none =>
    have e := g_oN e
    refine r_ifnonnullN (tgt := 15) dX6_mask_10 (by decide) ?_
    refine r_iconst (x := (-1)) dX6_mask_13 (by decide) ?_
    have e := Option.some.inj e
    subst e
    exact r_ret dX6_mask_14 rfl rfl
  | some q3 =>
    have e := g_oS e
    refine r_ifnonnull (tgt := 15) dX6_mask_10 (by decide) ?_
    refine r_aload dX6_mask_15 rfl ?_
    obtain ⟨h4, e⟩ := g_gd e
    refine q_geti dX6_mask_17 flX6_103 rfl h4 ?_
    refine r_iload_n dX6_mask_20 rfl rfl ?_
    refine q_callS (rest := []) (c_X6_isMaskOf rfl) dX6_mask_21 lkX6_111 rfl rfl (Nat.le_of_ble_eq_true rfl) (by decide) ?_
    refine r_ifeqB (tgt := 36) dX6_mask_24 (by decide) (fun h5 => ?_) (fun h5 => ?_)
    · have e := g_cF h5 e
      refine r_bipush (x := (-2)) dX6_mask_36 (by decide) ?_
      have e := Option.some.inj e
      subst e
      exact r_ret dX6_mask_38 rfl rfl
    · have e := g_cT h5 e
      refine r_iload_n dX6_mask_27 rfl rfl ?_
      refine r_iload dX6_mask_28 rfl ?_
      refine q_callS (rest := []) (c_X6_isNumberOf rfl) dX6_mask_30 lkX6_115 rfl rfl (Nat.le_of_ble_eq_true rfl) (by decide) ?_
      refine r_ifneB (tgt := 39) dX6_mask_33 (by decide) (fun h6 => ?_) (fun h6 => ?_)
      · have e := g_cT h6 e
        refine r_aload dX6_mask_39 rfl ?_
        refine r_iload_n dX6_mask_41 rfl rfl ?_
        refine q_putiL dX6_mask_42 flX6_118 (Or.inl rfl) (Or.inl rfl) h4 (fun g7 h8 => ?_)
        have e := g_lt h8 e
        refine r_aload dX6_mask_45 rfl ?_
        refine r_iload dX6_mask_47 rfl ?_
        refine q_putiL dX6_mask_49 flX6_121 (Or.inl rfl) (Or.inl rfl) h4 (fun g9 h10 => ?_)
        have e := g_lt h10 e
        refine r_iconst (x := 0) dX6_mask_52 (by decide) ?_
        have e := Option.some.inj e
        subst e
        exact r_ret dX6_mask_53 rfl rfl
      · have e := g_cF h6 e
        refine r_bipush (x := (-2)) dX6_mask_36 (by decide) ?_
        have e := Option.some.inj e
        subst e
        exact r_ret dX6_mask_38 rfl rfl
/-! X4_setDigit -/
def f_X4_setDigit (g : (Nat → Nat → Int32)) (b : Bool) (x : Nat) (a1 : Int32) (a2 : Int32) (a3 : Int32) : Option (Nat → Nat → Int32) :=
  (if a1 < 1 then
some g
else
(if 4 < a1 then
some g
else
(if m_S0[x]? = some (.inl 4) then
((m_fr b x 1).bind fun q4 =>
((m_len 0 q4).bind fun n6 =>
(if m_in a1 n6 then
(m_let (m_up g q4 a1.toNatClampNeg a2) fun g9 =>
((m_fr b x 2).bind fun q11 =>
((m_len 0 q11).bind fun n13 =>
(if m_in a1 n13 then
(m_let (m_up g9 q11 a1.toNatClampNeg a3) fun g16 =>
some g16) else none)))) else none))) else none)))
set_option maxRecDepth 100000 in
set_option maxHeartbeats 4000000 in
theorem c_X4_setDigit {G : mG} {g : (Nat → Nat → Int32)} {b : Bool} {x : Nat} {a1 : Int32} {a2 : Int32} {a3 : Int32} {R : (Nat → Nat → Int32)} (e : f_X4_setDigit g b x a1 a2 a3 = some R) : MC G mX4_setDigit 0 0 0 [.ref x, .int a1, .int a2, .int a3] (m_h g b) none (m_h R b) := by
  refine MC_intro mlX4_setDigit (Nat.le_of_ble_eq_true rfl) rfl rfl trivial ?_
  unfold f_X4_setDigit at e
  refine r_iload_n dX4_setDigit_0 rfl rfl ?_
  refine r_iconst (x := 1) dX4_setDigit_1 (by decide) ?_
  refine r_icmp_lt (tgt := 24) dX4_setDigit_2 (by decide) (fun h1 => ?_) (fun h1 => ?_)
  · have e := g_iT h1 e
    have e := Option.some.inj e
    subst e
    exact r_ret dX4_setDigit_24 rfl rfl
  · have e := g_iF h1 e
    refine r_iload_n dX4_setDigit_5 rfl rfl ?_
    refine r_iconst (x := 4) dX4_setDigit_6 (by decide) ?_
    refine r_icmp_gt (tgt := 24) dX4_setDigit_7 (by decide) (fun h2 => ?_) (fun h2 => ?_)
    · have e := g_iT h2 e
      have e := Option.some.inj e
      subst e
      exact r_ret dX4_setDigit_24 rfl rfl
    · have e := g_iF h2 e
      refine r_aload_n dX4_setDigit_10 rfl rfl ?_
      obtain ⟨h3, e⟩ := g_gd e
      obtain ⟨q4, h5, e⟩ := g_bd e
      refine q_getr dX4_setDigit_11 flX4_17 rfl h3 h5 ?_
      refine r_iload_n dX4_setDigit_14 rfl rfl ?_
      refine r_iload_n dX4_setDigit_15 rfl rfl ?_
      obtain ⟨n6, h7, e⟩ := g_bd e
      obtain ⟨h8, e⟩ := g_gd e
      refine q_iastL dX4_setDigit_16 (m_len_s h7) h8 (fun g9 h10 => ?_)
      have e := g_lt h10 e
      refine r_aload_n dX4_setDigit_17 rfl rfl ?_
      obtain ⟨q11, h12, e⟩ := g_bd e
      refine q_getr dX4_setDigit_18 flX4_21 rfl h3 h12 ?_
      refine r_iload_n dX4_setDigit_21 rfl rfl ?_
      refine r_iload_n dX4_setDigit_22 rfl rfl ?_
      obtain ⟨n13, h14, e⟩ := g_bd e
      obtain ⟨h15, e⟩ := g_gd e
      refine q_iastL dX4_setDigit_23 (m_len_s h14) h15 (fun g16 h17 => ?_)
      have e := g_lt h17 e
      have e := Option.some.inj e
      subst e
      exact r_ret dX4_setDigit_24 rfl rfl
/-! X6_dialDigit -/
def f_X6_dialDigit (g : (Nat → Nat → Int32)) (b : Bool) (a1 : Nat) (a2 : Int32) (a3 : Int32) (a4 : Int32) : Option (Int32 × (Nat → Nat → Int32)) :=
  (if a2 < 1 then
some ((-1), g)
else
(if a2 ≤ 4 then
(if a3 = 1 then
(if a4 < 0 then
some ((-2), g)
else
(if a4 ≤ 9 then
(if m_S0[a1]? = some (.inl 4) then
((f_X4_setDigit g b a1 a2 a3 a4).bind fun v7 =>
some (0, v7)) else none)
else
some ((-2), g)))
else
(if a3 = 3 then
(if a4 < 0 then
some ((-2), g)
else
(if a4 ≤ 9 then
(if m_S0[a1]? = some (.inl 4) then
((f_X4_setDigit g b a1 a2 a3 a4).bind fun v13 =>
some (0, v13)) else none)
else
some ((-2), g)))
else
(if a3 = 7 then
(if a4 < 0 then
some ((-2), g)
else
(if a4 ≤ 9 then
(if m_S0[a1]? = some (.inl 4) then
((f_X4_setDigit g b a1 a2 a3 a4).bind fun v19 =>
some (0, v19)) else none)
else
some ((-2), g)))
else
(if a3 = 9 then
(if a4 < 0 then
some ((-2), g)
else
(if a4 ≤ 9 then
(if m_S0[a1]? = some (.inl 4) then
((f_X4_setDigit g b a1 a2 a3 a4).bind fun v25 =>
some (0, v25)) else none)
else
some ((-2), g)))
else
some ((-2), g)))))
else
some ((-1), g)))
set_option maxRecDepth 100000 in
set_option maxHeartbeats 4000000 in
theorem c_X6_dialDigit {G : mG} {g : (Nat → Nat → Int32)} {b : Bool} {a1 : Nat} {a2 : Int32} {a3 : Int32} {a4 : Int32} {R : (Int32 × (Nat → Nat → Int32))} (e : f_X6_dialDigit g b a1 a2 a3 a4 = some R) : MC G mX6_dialDigit 1 0 0 [.ref a1, .int a2, .int a3, .int a4] (m_h g b) (some (.int R.1)) (m_h R.2 b) := by
  refine MC_intro mlX6_dialDigit (Nat.le_of_ble_eq_true rfl) ⟨_, rfl⟩ rfl trivial ?_
  unfold f_X6_dialDigit at e
  refine r_iload_n dX6_dialDigit_0 rfl rfl ?_
  refine r_iconst (x := 1) dX6_dialDigit_1 (by decide) ?_
  refine r_icmp_lt (tgt := 10) dX6_dialDigit_2 (by decide) (fun h1 => ?_) (fun h1 => ?_)
  · have e := g_iT h1 e
    refine r_iconst (x := (-1)) dX6_dialDigit_10 (by decide) ?_
    have e := Option.some.inj e
    subst e
    exact r_ret dX6_dialDigit_11 rfl rfl
  · have e := g_iF h1 e
    refine r_iload_n dX6_dialDigit_5 rfl rfl ?_
    refine r_iconst (x := 4) dX6_dialDigit_6 (by decide) ?_
    refine r_icmp_le (tgt := 12) dX6_dialDigit_7 (by decide) (fun h2 => ?_) (fun h2 => ?_)
    · have e := g_iT h2 e
      refine r_iload_n dX6_dialDigit_12 rfl rfl ?_
      refine r_iconst (x := 1) dX6_dialDigit_13 (by decide) ?_
      refine r_icmp_eq (tgt := 34) dX6_dialDigit_14 (by decide) (fun h3 => ?_) (fun h3 => ?_)
      · have e := g_iT h3 e
        refine r_iconst (x := 1) dX6_dialDigit_34 (by decide) ?_
        refine r_goto (tgt := 39) dX6_dialDigit_35 (by decide) ?_
        refine r_istore dX6_dialDigit_39 (by decide) rfl ?_
        refine r_iload dX6_dialDigit_41 rfl ?_
        refine r_if_eq (tgt := 56) dX6_dialDigit_43 (by decide) (fun hz => absurd hz (by decide)) (fun _ => ?_)
        refine r_iload_n dX6_dialDigit_46 rfl rfl ?_
        refine r_if_lt (tgt := 56) dX6_dialDigit_47 (by decide) (fun h4 => ?_) (fun h4 => ?_)
        · have e := g_iT h4 e
          refine r_bipush (x := (-2)) dX6_dialDigit_56 (by decide) ?_
          have e := Option.some.inj e
          subst e
          exact r_ret dX6_dialDigit_58 rfl rfl
        · have e := g_iF h4 e
          refine r_iload_n dX6_dialDigit_50 rfl rfl ?_
          refine r_bipush (x := 9) dX6_dialDigit_51 (by decide) ?_
          refine r_icmp_le (tgt := 59) dX6_dialDigit_53 (by decide) (fun h5 => ?_) (fun h5 => ?_)
          · have e := g_iT h5 e
            refine r_aload_n dX6_dialDigit_59 rfl rfl ?_
            refine r_iload_n dX6_dialDigit_60 rfl rfl ?_
            refine r_iload_n dX6_dialDigit_61 rfl rfl ?_
            refine r_iload_n dX6_dialDigit_62 rfl rfl ?_
            obtain ⟨h6, e⟩ := g_gd e
            obtain ⟨v7, h8, e⟩ := g_bd e
            refine q_callV (rest := []) (c_X4_setDigit h8) dX6_dialDigit_63 lkX6_256 h6 rfl rfl rfl (Nat.le_of_ble_eq_true rfl) (by decide) ?_
            refine r_iconst (x := 0) dX6_dialDigit_66 (by decide) ?_
            have e := Option.some.inj e
            subst e
            exact r_ret dX6_dialDigit_67 rfl rfl
          · have e := g_iF h5 e
            refine r_bipush (x := (-2)) dX6_dialDigit_56 (by decide) ?_
            have e := Option.some.inj e
            subst e
            exact r_ret dX6_dialDigit_58 rfl rfl
      · have e := g_iF h3 e
        refine r_iload_n dX6_dialDigit_17 rfl rfl ?_
        refine r_iconst (x := 3) dX6_dialDigit_18 (by decide) ?_
        refine r_icmp_eq (tgt := 34) dX6_dialDigit_19 (by decide) (fun h9 => ?_) (fun h9 => ?_)
        · have e := g_iT h9 e
          refine r_iconst (x := 1) dX6_dialDigit_34 (by decide) ?_
          refine r_goto (tgt := 39) dX6_dialDigit_35 (by decide) ?_
          refine r_istore dX6_dialDigit_39 (by decide) rfl ?_
          refine r_iload dX6_dialDigit_41 rfl ?_
          refine r_if_eq (tgt := 56) dX6_dialDigit_43 (by decide) (fun hz => absurd hz (by decide)) (fun _ => ?_)
          refine r_iload_n dX6_dialDigit_46 rfl rfl ?_
          refine r_if_lt (tgt := 56) dX6_dialDigit_47 (by decide) (fun h10 => ?_) (fun h10 => ?_)
          · have e := g_iT h10 e
            refine r_bipush (x := (-2)) dX6_dialDigit_56 (by decide) ?_
            have e := Option.some.inj e
            subst e
            exact r_ret dX6_dialDigit_58 rfl rfl
          · have e := g_iF h10 e
            refine r_iload_n dX6_dialDigit_50 rfl rfl ?_
            refine r_bipush (x := 9) dX6_dialDigit_51 (by decide) ?_
            refine r_icmp_le (tgt := 59) dX6_dialDigit_53 (by decide) (fun h11 => ?_) (fun h11 => ?_)
            · have e := g_iT h11 e
              refine r_aload_n dX6_dialDigit_59 rfl rfl ?_
              refine r_iload_n dX6_dialDigit_60 rfl rfl ?_
              refine r_iload_n dX6_dialDigit_61 rfl rfl ?_
              refine r_iload_n dX6_dialDigit_62 rfl rfl ?_
              obtain ⟨h12, e⟩ := g_gd e
              obtain ⟨v13, h14, e⟩ := g_bd e
              refine q_callV (rest := []) (c_X4_setDigit h14) dX6_dialDigit_63 lkX6_256 h12 rfl rfl rfl (Nat.le_of_ble_eq_true rfl) (by decide) ?_
              refine r_iconst (x := 0) dX6_dialDigit_66 (by decide) ?_
              have e := Option.some.inj e
              subst e
              exact r_ret dX6_dialDigit_67 rfl rfl
            · have e := g_iF h11 e
              refine r_bipush (x := (-2)) dX6_dialDigit_56 (by decide) ?_
              have e := Option.some.inj e
              subst e
              exact r_ret dX6_dialDigit_58 rfl rfl
        · have e := g_iF h9 e
          refine r_iload_n dX6_dialDigit_22 rfl rfl ?_
          refine r_bipush (x := 7) dX6_dialDigit_23 (by decide) ?_
          refine r_icmp_eq (tgt := 34) dX6_dialDigit_25 (by decide) (fun h15 => ?_) (fun h15 => ?_)
          · have e := g_iT h15 e
            refine r_iconst (x := 1) dX6_dialDigit_34 (by decide) ?_
            refine r_goto (tgt := 39) dX6_dialDigit_35 (by decide) ?_
            refine r_istore dX6_dialDigit_39 (by decide) rfl ?_
            refine r_iload dX6_dialDigit_41 rfl ?_
            refine r_if_eq (tgt := 56) dX6_dialDigit_43 (by decide) (fun hz => absurd hz (by decide)) (fun _ => ?_)
            refine r_iload_n dX6_dialDigit_46 rfl rfl ?_
            refine r_if_lt (tgt := 56) dX6_dialDigit_47 (by decide) (fun h16 => ?_) (fun h16 => ?_)
            · have e := g_iT h16 e
              refine r_bipush (x := (-2)) dX6_dialDigit_56 (by decide) ?_
              have e := Option.some.inj e
              subst e
              exact r_ret dX6_dialDigit_58 rfl rfl
            · have e := g_iF h16 e
              refine r_iload_n dX6_dialDigit_50 rfl rfl ?_
              refine r_bipush (x := 9) dX6_dialDigit_51 (by decide) ?_
              refine r_icmp_le (tgt := 59) dX6_dialDigit_53 (by decide) (fun h17 => ?_) (fun h17 => ?_)
              · have e := g_iT h17 e
                refine r_aload_n dX6_dialDigit_59 rfl rfl ?_
                refine r_iload_n dX6_dialDigit_60 rfl rfl ?_
                refine r_iload_n dX6_dialDigit_61 rfl rfl ?_
                refine r_iload_n dX6_dialDigit_62 rfl rfl ?_
                obtain ⟨h18, e⟩ := g_gd e
                obtain ⟨v19, h20, e⟩ := g_bd e
                refine q_callV (rest := []) (c_X4_setDigit h20) dX6_dialDigit_63 lkX6_256 h18 rfl rfl rfl (Nat.le_of_ble_eq_true rfl) (by decide) ?_
                refine r_iconst (x := 0) dX6_dialDigit_66 (by decide) ?_
                have e := Option.some.inj e
                subst e
                exact r_ret dX6_dialDigit_67 rfl rfl
              · have e := g_iF h17 e
                refine r_bipush (x := (-2)) dX6_dialDigit_56 (by decide) ?_
                have e := Option.some.inj e
                subst e
                exact r_ret dX6_dialDigit_58 rfl rfl
          · have e := g_iF h15 e
            refine r_iload_n dX6_dialDigit_28 rfl rfl ?_
            refine r_bipush (x := 9) dX6_dialDigit_29 (by decide) ?_
            refine r_icmp_ne (tgt := 38) dX6_dialDigit_31 (by decide) (fun h21 => ?_) (fun h21 => ?_)
            · have e := g_iF h21 e
              refine r_iconst (x := 0) dX6_dialDigit_38 (by decide) ?_
              refine r_istore dX6_dialDigit_39 (by decide) rfl ?_
              refine r_iload dX6_dialDigit_41 rfl ?_
              refine r_if_eq (tgt := 56) dX6_dialDigit_43 (by decide) (fun _ => ?_) (fun hz => absurd hz (by decide))
              refine r_bipush (x := (-2)) dX6_dialDigit_56 (by decide) ?_
              have e := Option.some.inj e
              subst e
              exact r_ret dX6_dialDigit_58 rfl rfl
            · have e := g_iT h21 e
              refine r_iconst (x := 1) dX6_dialDigit_34 (by decide) ?_
              refine r_goto (tgt := 39) dX6_dialDigit_35 (by decide) ?_
              refine r_istore dX6_dialDigit_39 (by decide) rfl ?_
              refine r_iload dX6_dialDigit_41 rfl ?_
              refine r_if_eq (tgt := 56) dX6_dialDigit_43 (by decide) (fun hz => absurd hz (by decide)) (fun _ => ?_)
              refine r_iload_n dX6_dialDigit_46 rfl rfl ?_
              refine r_if_lt (tgt := 56) dX6_dialDigit_47 (by decide) (fun h22 => ?_) (fun h22 => ?_)
              · have e := g_iT h22 e
                refine r_bipush (x := (-2)) dX6_dialDigit_56 (by decide) ?_
                have e := Option.some.inj e
                subst e
                exact r_ret dX6_dialDigit_58 rfl rfl
              · have e := g_iF h22 e
                refine r_iload_n dX6_dialDigit_50 rfl rfl ?_
                refine r_bipush (x := 9) dX6_dialDigit_51 (by decide) ?_
                refine r_icmp_le (tgt := 59) dX6_dialDigit_53 (by decide) (fun h23 => ?_) (fun h23 => ?_)
                · have e := g_iT h23 e
                  refine r_aload_n dX6_dialDigit_59 rfl rfl ?_
                  refine r_iload_n dX6_dialDigit_60 rfl rfl ?_
                  refine r_iload_n dX6_dialDigit_61 rfl rfl ?_
                  refine r_iload_n dX6_dialDigit_62 rfl rfl ?_
                  obtain ⟨h24, e⟩ := g_gd e
                  obtain ⟨v25, h26, e⟩ := g_bd e
                  refine q_callV (rest := []) (c_X4_setDigit h26) dX6_dialDigit_63 lkX6_256 h24 rfl rfl rfl (Nat.le_of_ble_eq_true rfl) (by decide) ?_
                  refine r_iconst (x := 0) dX6_dialDigit_66 (by decide) ?_
                  have e := Option.some.inj e
                  subst e
                  exact r_ret dX6_dialDigit_67 rfl rfl
                · have e := g_iF h23 e
                  refine r_bipush (x := (-2)) dX6_dialDigit_56 (by decide) ?_
                  have e := Option.some.inj e
                  subst e
                  exact r_ret dX6_dialDigit_58 rfl rfl
    · have e := g_iF h2 e
      refine r_iconst (x := (-1)) dX6_dialDigit_10 (by decide) ?_
      have e := Option.some.inj e
      subst e
      exact r_ret dX6_dialDigit_11 rfl rfl
/-! X6_dial -/
def f_X6_dial (g : (Nat → Nat → Int32)) (b : Bool) (a1 : Int32) (a2 : Int32) (a3 : Int32) (a4 : Int32) (a5 : Int32) : Option (Int32 × (Nat → Nat → Int32)) :=
  ((f_X6_tableAt g b a1).bind fun v1 =>
((f_X6_columnAt g b a1 a2).bind fun v3 =>
(m_oc v1
(some ((-1), g))
(fun q5 =>
(m_oc v3
(some ((-1), g))
(fun q6 =>
(if m_S0[q6]? = some (.inl 0) then
(if (g q6 0) = 0 then
((f_X6_dialDigit g b q5 a3 a4 a5).bind fun v21 =>
some (v21.1, v21.2))
else
(if (g q6 0) = 4 then
(if a3 = 0 then
(if a4 < 1 then
some ((-2), g)
else
(if 99 < a4 then
some ((-2), g)
else
(if (m_rem a4 2) = 0 then
some ((-2), g)
else
(if (m_rem a4 5) = 0 then
some ((-2), g)
else
(if a5 < 0 then
some ((-2), g)
else
(if a5 ≤ 99 then
(m_let (m_up g q6 4 a4) fun g17 =>
(m_let (m_up g17 q6 5 a5) fun g19 =>
some (0, g19)))
else
some ((-2), g)))))))
else
some ((-1), g))
else
some ((-1), g))) else none)))))))
set_option maxRecDepth 100000 in
set_option maxHeartbeats 4000000 in
theorem c_X6_dial {G : mG} {g : (Nat → Nat → Int32)} {b : Bool} {a1 : Int32} {a2 : Int32} {a3 : Int32} {a4 : Int32} {a5 : Int32} {R : (Int32 × (Nat → Nat → Int32))} (e : f_X6_dial g b a1 a2 a3 a4 a5 = some R) : MC G mX6_dial 2 0 0 [.ref 0, .int a1, .int a2, .int a3, .int a4, .int a5] (m_h g b) (some (.int R.1)) (m_h R.2 b) := by
  refine MC_intro mlX6_dial (Nat.le_of_ble_eq_true rfl) ⟨_, rfl⟩ rfl trivial ?_
  unfold f_X6_dial at e
  refine r_aload_n dX6_dial_0 rfl rfl ?_
  refine r_iload_n dX6_dial_1 rfl rfl ?_
  obtain ⟨v1, h2, e⟩ := g_bd e
  refine q_callV (rest := []) (c_X6_tableAt h2) dX6_dial_2 lkX6_73 rfl rfl rfl rfl (Nat.le_of_ble_eq_true rfl) (by decide) ?_
  refine r_astoreO dX6_dial_5 (by decide) rfl ?_
  refine r_aload_n dX6_dial_7 rfl rfl ?_
  refine r_iload_n dX6_dial_8 rfl rfl ?_
  refine r_iload_n dX6_dial_9 rfl rfl ?_
  obtain ⟨v3, h4, e⟩ := g_bd e
  refine q_callV (rest := []) (c_X6_columnAt h4) dX6_dial_10 lkX6_99 rfl rfl rfl rfl (Nat.le_of_ble_eq_true rfl) (by decide) ?_
  refine r_astoreO dX6_dial_13 (by decide) rfl ?_
  refine r_aloadO dX6_dial_15 rfl ?_
  cases v1 with
  | none =>
    have e := g_oN e
    refine r_ifnullN (tgt := 25) dX6_dial_17 (by decide) ?_
    refine r_iconst (x := (-1)) dX6_dial_25 (by decide) ?_
    have e := Option.some.inj e
    subst e
    exact r_ret dX6_dial_26 rfl rfl
  | some q5 =>
    have e := g_oS e
    refine r_ifnull (tgt := 25) dX6_dial_17 (by decide) ?_
    refine r_aloadO dX6_dial_20 rfl ?_
    cases v3 with
    | none =>
      have e := g_oN e
      refine r_ifnonnullN (tgt := 27) dX6_dial_22 (by decide) ?_
      refine r_iconst (x := (-1)) dX6_dial_25 (by decide) ?_
      have e := Option.some.inj e
      subst e
      exact r_ret dX6_dial_26 rfl rfl
    | some q6 =>
      have e := g_oS e
      refine r_ifnonnull (tgt := 27) dX6_dial_22 (by decide) ?_
      refine r_aload dX6_dial_27 rfl ?_
      obtain ⟨h7, e⟩ := g_gd e
      refine q_geti dX6_dial_29 flX6_103 rfl h7 ?_
      refine r_if_ne (tgt := 46) dX6_dial_32 (by decide) (fun h8 => ?_) (fun h8 => ?_)
      · have e := g_iF h8 e
        refine r_aload dX6_dial_46 rfl ?_
        refine q_geti dX6_dial_48 flX6_103 rfl h7 ?_
        refine r_iconst (x := 4) dX6_dial_51 (by decide) ?_
        refine r_icmp_ne (tgt := 59) dX6_dial_52 (by decide) (fun h9 => ?_) (fun h9 => ?_)
        · have e := g_iF h9 e
          refine r_iconst (x := (-1)) dX6_dial_59 (by decide) ?_
          have e := Option.some.inj e
          subst e
          exact r_ret dX6_dial_60 rfl rfl
        · have e := g_iT h9 e
          refine r_iload_n dX6_dial_55 rfl rfl ?_
          refine r_if_eq (tgt := 61) dX6_dial_56 (by decide) (fun h10 => ?_) (fun h10 => ?_)
          · have e := g_iT h10 e
            refine r_iload dX6_dial_61 rfl ?_
            refine r_iconst (x := 1) dX6_dial_63 (by decide) ?_
            refine r_icmp_lt (tgt := 100) dX6_dial_64 (by decide) (fun h11 => ?_) (fun h11 => ?_)
            · have e := g_iT h11 e
              refine r_bipush (x := (-2)) dX6_dial_100 (by decide) ?_
              have e := Option.some.inj e
              subst e
              exact r_ret dX6_dial_102 rfl rfl
            · have e := g_iF h11 e
              refine r_iload dX6_dial_67 rfl ?_
              refine r_bipush (x := 99) dX6_dial_69 (by decide) ?_
              refine r_icmp_gt (tgt := 100) dX6_dial_71 (by decide) (fun h12 => ?_) (fun h12 => ?_)
              · have e := g_iT h12 e
                refine r_bipush (x := (-2)) dX6_dial_100 (by decide) ?_
                have e := Option.some.inj e
                subst e
                exact r_ret dX6_dial_102 rfl rfl
              · have e := g_iF h12 e
                refine r_iload dX6_dial_74 rfl ?_
                refine r_iconst (x := 2) dX6_dial_76 (by decide) ?_
                refine q_irem dX6_dial_77 (by decide) ?_
                refine r_if_eq (tgt := 100) dX6_dial_78 (by decide) (fun h13 => ?_) (fun h13 => ?_)
                · have e := g_iT h13 e
                  refine r_bipush (x := (-2)) dX6_dial_100 (by decide) ?_
                  have e := Option.some.inj e
                  subst e
                  exact r_ret dX6_dial_102 rfl rfl
                · have e := g_iF h13 e
                  refine r_iload dX6_dial_81 rfl ?_
                  refine r_iconst (x := 5) dX6_dial_83 (by decide) ?_
                  refine q_irem dX6_dial_84 (by decide) ?_
                  refine r_if_eq (tgt := 100) dX6_dial_85 (by decide) (fun h14 => ?_) (fun h14 => ?_)
                  · have e := g_iT h14 e
                    refine r_bipush (x := (-2)) dX6_dial_100 (by decide) ?_
                    have e := Option.some.inj e
                    subst e
                    exact r_ret dX6_dial_102 rfl rfl
                  · have e := g_iF h14 e
                    refine r_iload dX6_dial_88 rfl ?_
                    refine r_if_lt (tgt := 100) dX6_dial_90 (by decide) (fun h15 => ?_) (fun h15 => ?_)
                    · have e := g_iT h15 e
                      refine r_bipush (x := (-2)) dX6_dial_100 (by decide) ?_
                      have e := Option.some.inj e
                      subst e
                      exact r_ret dX6_dial_102 rfl rfl
                    · have e := g_iF h15 e
                      refine r_iload dX6_dial_93 rfl ?_
                      refine r_bipush (x := 99) dX6_dial_95 (by decide) ?_
                      refine r_icmp_le (tgt := 103) dX6_dial_97 (by decide) (fun h16 => ?_) (fun h16 => ?_)
                      · have e := g_iT h16 e
                        refine r_aload dX6_dial_103 rfl ?_
                        refine r_iload dX6_dial_105 rfl ?_
                        refine q_putiL dX6_dial_107 flX6_128 (Or.inl rfl) (Or.inl rfl) h7 (fun g17 h18 => ?_)
                        have e := g_lt h18 e
                        refine r_aload dX6_dial_110 rfl ?_
                        refine r_iload dX6_dial_112 rfl ?_
                        refine q_putiL dX6_dial_114 flX6_131 (Or.inl rfl) (Or.inl rfl) h7 (fun g19 h20 => ?_)
                        have e := g_lt h20 e
                        refine r_iconst (x := 0) dX6_dial_117 (by decide) ?_
                        have e := Option.some.inj e
                        subst e
                        exact r_ret dX6_dial_118 rfl rfl
                      · have e := g_iF h16 e
                        refine r_bipush (x := (-2)) dX6_dial_100 (by decide) ?_
                        have e := Option.some.inj e
                        subst e
                        exact r_ret dX6_dial_102 rfl rfl
          · have e := g_iF h10 e
            refine r_iconst (x := (-1)) dX6_dial_59 (by decide) ?_
            have e := Option.some.inj e
            subst e
            exact r_ret dX6_dial_60 rfl rfl
      · have e := g_iT h8 e
        refine r_aload dX6_dial_35 rfl ?_
        refine r_iload_n dX6_dial_37 rfl rfl ?_
        refine r_iload dX6_dial_38 rfl ?_
        refine r_iload dX6_dial_40 rfl ?_
        obtain ⟨v21, h22, e⟩ := g_bd e
        refine q_callS (rest := []) (c_X6_dialDigit h22) dX6_dial_42 lkX6_124 rfl rfl (Nat.le_of_ble_eq_true rfl) (by decide) ?_
        have e := Option.some.inj e
        subst e
        exact r_ret dX6_dial_45 rfl rfl
/-! X6_seed -/
def f_X6_seed (g : (Nat → Nat → Int32)) (a1 : Int32) : Option (Int32 × (Nat → Nat → Int32)) :=
  (if a1 < 0 then
some ((-2), g)
else
(if a1 ≤ 60 then
(m_let (m_up g 0 11 a1) fun g3 =>
some ((g 0 11), g3))
else
some ((-2), g)))
set_option maxRecDepth 100000 in
set_option maxHeartbeats 4000000 in
theorem c_X6_seed {G : mG} {g : (Nat → Nat → Int32)} {b : Bool} {a1 : Int32} {R : (Int32 × (Nat → Nat → Int32))} (e : f_X6_seed g a1 = some R) : MC G mX6_seed 0 0 0 [.ref 0, .int a1] (m_h g b) (some (.int R.1)) (m_h R.2 b) := by
  refine MC_intro mlX6_seed (Nat.le_of_ble_eq_true rfl) ⟨_, rfl⟩ rfl trivial ?_
  unfold f_X6_seed at e
  refine r_iload_n dX6_seed_0 rfl rfl ?_
  refine r_if_lt (tgt := 10) dX6_seed_1 (by decide) (fun h1 => ?_) (fun h1 => ?_)
  · have e := g_iT h1 e
    refine r_bipush (x := (-2)) dX6_seed_10 (by decide) ?_
    have e := Option.some.inj e
    subst e
    exact r_ret dX6_seed_12 rfl rfl
  · have e := g_iF h1 e
    refine r_iload_n dX6_seed_4 rfl rfl ?_
    refine r_bipush (x := 60) dX6_seed_5 (by decide) ?_
    refine r_icmp_le (tgt := 13) dX6_seed_7 (by decide) (fun h2 => ?_) (fun h2 => ?_)
    · have e := g_iT h2 e
      refine r_aload_n dX6_seed_13 rfl rfl ?_
      refine q_geti dX6_seed_14 flX6_64 rfl rfl ?_
      refine r_istore_n dX6_seed_17 rfl (by decide) rfl ?_
      refine r_aload_n dX6_seed_18 rfl rfl ?_
      refine r_iload_n dX6_seed_19 rfl rfl ?_
      refine q_putiL dX6_seed_20 flX6_64 (Or.inl rfl) (Or.inl rfl) rfl (fun g3 h4 => ?_)
      have e := g_lt h4 e
      refine r_iload_n dX6_seed_23 rfl rfl ?_
      have e := Option.some.inj e
      subst e
      exact r_ret dX6_seed_24 rfl rfl
    · have e := g_iF h2 e
      refine r_bipush (x := (-2)) dX6_seed_10 (by decide) ?_
      have e := Option.some.inj e
      subst e
      exact r_ret dX6_seed_12 rfl rfl
/-! X6_nextRule -/
def f_X6_nextRule (g : (Nat → Nat → Int32)) (b : Bool) : Option (Option Nat) :=
  (if 8 ≤ (g 0 9) then
some none
else
(if m_in (g 0 9) 8 then
((m_fr b 2 (g 0 9).toNatClampNeg).bind fun q3 =>
some (some q3)) else none))
set_option maxRecDepth 100000 in
set_option maxHeartbeats 4000000 in
theorem c_X6_nextRule {G : mG} {g : (Nat → Nat → Int32)} {b : Bool} {R : (Option Nat)} (e : f_X6_nextRule g b = some R) : MC G mX6_nextRule 0 0 0 [.ref 0] (m_h g b) (some (va_rf R)) (m_h g b) := by
  refine MC_intro mlX6_nextRule (Nat.le_of_ble_eq_true rfl) (m_okO _) rfl trivial ?_
  unfold f_X6_nextRule at e
  refine r_aload_n dX6_nextRule_0 rfl rfl ?_
  refine q_geti dX6_nextRule_1 flX6_58 rfl rfl ?_
  refine r_bipush (x := 8) dX6_nextRule_4 (by decide) ?_
  refine r_icmp_ge (tgt := 21) dX6_nextRule_6 (by decide) (fun h1 => ?_) (fun h1 => ?_)
  · have e := g_iT h1 e
    refine r_null dX6_nextRule_21 ?_
    have e := Option.some.inj e
    subst e
    exact r_ret dX6_nextRule_22 rfl rfl
  · have e := g_iF h1 e
    refine r_aload_n dX6_nextRule_9 rfl rfl ?_
    refine q_getr dX6_nextRule_10 flX6_19 rfl rfl (m_fr_0_1 _) ?_
    refine r_aload_n dX6_nextRule_13 rfl rfl ?_
    refine q_geti dX6_nextRule_14 flX6_58 rfl rfl ?_
    obtain ⟨h2, e⟩ := g_gd e
    obtain ⟨q3, h4, e⟩ := g_bd e
    refine q_aald dX6_nextRule_17 (by decide) rfl h2 h4 ?_
    refine r_goto (tgt := 22) dX6_nextRule_18 (by decide) ?_
    have e := Option.some.inj e
    subst e
    exact r_ret dX6_nextRule_22 rfl rfl
/-! X3_setOrder -/
def f_X3_setOrder (g : (Nat → Nat → Int32)) (x : Nat) (a1 : Int32) (a2 : Int32) (a3 : Int32) : Option (Nat → Nat → Int32) :=
  (if m_S0[x]? = some (.inl 3) then
(m_let (m_up g x 0 0) fun g2 =>
(m_let (m_up g2 x 1 a1) fun g4 =>
(m_let (m_up g4 x 2 a2) fun g6 =>
(m_let (m_up g6 x 3 a3) fun g8 =>
some g8)))) else none)
set_option maxRecDepth 100000 in
set_option maxHeartbeats 4000000 in
theorem c_X3_setOrder {G : mG} {g : (Nat → Nat → Int32)} {b : Bool} {x : Nat} {a1 : Int32} {a2 : Int32} {a3 : Int32} {R : (Nat → Nat → Int32)} (e : f_X3_setOrder g x a1 a2 a3 = some R) : MC G mX3_setOrder 0 0 0 [.ref x, .int a1, .int a2, .int a3] (m_h g b) none (m_h R b) := by
  refine MC_intro mlX3_setOrder (Nat.le_of_ble_eq_true rfl) rfl rfl trivial ?_
  unfold f_X3_setOrder at e
  refine r_aload_n dX3_setOrder_0 rfl rfl ?_
  refine r_iconst (x := 0) dX3_setOrder_1 (by decide) ?_
  obtain ⟨h1, e⟩ := g_gd e
  refine q_putiL dX3_setOrder_2 flX3_9 (Or.inl rfl) (Or.inl rfl) h1 (fun g2 h3 => ?_)
  have e := g_lt h3 e
  refine r_aload_n dX3_setOrder_5 rfl rfl ?_
  refine r_iload_n dX3_setOrder_6 rfl rfl ?_
  refine q_putiL dX3_setOrder_7 flX3_15 (Or.inl rfl) (Or.inl rfl) h1 (fun g4 h5 => ?_)
  have e := g_lt h5 e
  refine r_aload_n dX3_setOrder_10 rfl rfl ?_
  refine r_iload_n dX3_setOrder_11 rfl rfl ?_
  refine q_putiL dX3_setOrder_12 flX3_18 (Or.inl rfl) (Or.inl rfl) h1 (fun g6 h7 => ?_)
  have e := g_lt h7 e
  refine r_aload_n dX3_setOrder_15 rfl rfl ?_
  refine r_iload_n dX3_setOrder_16 rfl rfl ?_
  refine q_putiL dX3_setOrder_17 flX3_21 (Or.inl rfl) (Or.inl rfl) h1 (fun g8 h9 => ?_)
  have e := g_lt h9 e
  have e := Option.some.inj e
  subst e
  exact r_ret dX3_setOrder_20 rfl rfl
/-! X6_addRule -/
def f_X6_addRule (g : (Nat → Nat → Int32)) : Option (Int32 × (Nat → Nat → Int32)) :=
  (m_let (m_up g 0 9 ((g 0 9) + 1)) fun g1 =>
some (((g1 0 9) - 1), g1))
set_option maxRecDepth 100000 in
set_option maxHeartbeats 4000000 in
theorem c_X6_addRule {G : mG} {g : (Nat → Nat → Int32)} {b : Bool} {R : (Int32 × (Nat → Nat → Int32))} (e : f_X6_addRule g = some R) : MC G mX6_addRule 0 0 0 [.ref 0] (m_h g b) (some (.int R.1)) (m_h R.2 b) := by
  refine MC_intro mlX6_addRule (Nat.le_of_ble_eq_true rfl) ⟨_, rfl⟩ rfl trivial ?_
  unfold f_X6_addRule at e
  refine r_aload_n dX6_addRule_0 rfl rfl ?_
  refine r_dup dX6_addRule_1 ?_
  refine q_geti dX6_addRule_2 flX6_58 rfl rfl ?_
  refine r_iconst (x := 1) dX6_addRule_5 (by decide) ?_
  refine r_iadd dX6_addRule_6 ?_
  refine q_putiL dX6_addRule_7 flX6_58 (Or.inl rfl) (Or.inl rfl) rfl (fun g1 h2 => ?_)
  have e := g_lt h2 e
  refine r_aload_n dX6_addRule_10 rfl rfl ?_
  refine q_geti dX6_addRule_11 flX6_58 rfl rfl ?_
  refine r_iconst (x := 1) dX6_addRule_14 (by decide) ?_
  refine r_isub dX6_addRule_15 ?_
  have e := Option.some.inj e
  subst e
  exact r_ret dX6_addRule_16 rfl rfl
/-! X6_order -/
def f_X6_order (g : (Nat → Nat → Int32)) (b : Bool) (a1 : Int32) (a2 : Int32) (a3 : Int32) : Option (Int32 × (Nat → Nat → Int32)) :=
  ((f_X6_columnAt g b a1 a2).bind fun v1 =>
((f_X6_columnAt g b a1 a3).bind fun v3 =>
(m_oc v1
(some ((-1), g))
(fun q5 =>
(m_oc v3
(some ((-1), g))
(fun q6 =>
(if a2 = a3 then
some ((-2), g)
else
(if m_S0[q5]? = some (.inl 0) then
(if (g q5 0) = 2 then
(if m_S0[q6]? = some (.inl 0) then
(if (g q6 0) = 2 then
((f_X6_nextRule g b).bind fun v12 =>
(m_oc v12
(some ((-4), g))
(fun q14 =>
(if m_S0[q14]? = some (.inl 3) then
((f_X3_setOrder g q14 a1 a2 a3).bind fun v16 =>
((f_X6_addRule v16).bind fun v18 =>
some (v18.1, v18.2))) else none))))
else
some ((-2), g)) else none)
else
some ((-2), g)) else none))))))))
set_option maxRecDepth 100000 in
set_option maxHeartbeats 4000000 in
theorem c_X6_order {G : mG} {g : (Nat → Nat → Int32)} {b : Bool} {a1 : Int32} {a2 : Int32} {a3 : Int32} {R : (Int32 × (Nat → Nat → Int32))} (e : f_X6_order g b a1 a2 a3 = some R) : MC G mX6_order 2 0 0 [.ref 0, .int a1, .int a2, .int a3] (m_h g b) (some (.int R.1)) (m_h R.2 b) := by
  refine MC_intro mlX6_order (Nat.le_of_ble_eq_true rfl) ⟨_, rfl⟩ rfl trivial ?_
  unfold f_X6_order at e
  refine r_aload_n dX6_order_0 rfl rfl ?_
  refine r_iload_n dX6_order_1 rfl rfl ?_
  refine r_iload_n dX6_order_2 rfl rfl ?_
  obtain ⟨v1, h2, e⟩ := g_bd e
  refine q_callV (rest := []) (c_X6_columnAt h2) dX6_order_3 lkX6_99 rfl rfl rfl rfl (Nat.le_of_ble_eq_true rfl) (by decide) ?_
  refine r_astoreO dX6_order_6 (by decide) rfl ?_
  refine r_aload_n dX6_order_8 rfl rfl ?_
  refine r_iload_n dX6_order_9 rfl rfl ?_
  refine r_iload_n dX6_order_10 rfl rfl ?_
  obtain ⟨v3, h4, e⟩ := g_bd e
  refine q_callV (rest := []) (c_X6_columnAt h4) dX6_order_11 lkX6_99 rfl rfl rfl rfl (Nat.le_of_ble_eq_true rfl) (by decide) ?_
  refine r_astoreO dX6_order_14 (by decide) rfl ?_
  refine r_aloadO dX6_order_16 rfl ?_
  cases v1 with
  | none =>
    have e := g_oN e
    refine r_ifnullN (tgt := 26) dX6_order_18 (by decide) ?_
    refine r_iconst (x := (-1)) dX6_order_26 (by decide) ?_
    have e := Option.some.inj e
    subst e
    exact r_ret dX6_order_27 rfl rfl
  | some q5 =>
    have e := g_oS e
    refine r_ifnull (tgt := 26) dX6_order_18 (by decide) ?_
    refine r_aloadO dX6_order_21 rfl ?_
    cases v3 with
    | none =>
      have e := g_oN e
      refine r_ifnonnullN (tgt := 28) dX6_order_23 (by decide) ?_
      refine r_iconst (x := (-1)) dX6_order_26 (by decide) ?_
      have e := Option.some.inj e
      subst e
      exact r_ret dX6_order_27 rfl rfl
    | some q6 =>
      have e := g_oS e
      refine r_ifnonnull (tgt := 28) dX6_order_23 (by decide) ?_
      refine r_iload_n dX6_order_28 rfl rfl ?_
      refine r_iload_n dX6_order_29 rfl rfl ?_
      refine r_icmp_eq (tgt := 51) dX6_order_30 (by decide) (fun h7 => ?_) (fun h7 => ?_)
      · have e := g_iT h7 e
        refine r_bipush (x := (-2)) dX6_order_51 (by decide) ?_
        have e := Option.some.inj e
        subst e
        exact r_ret dX6_order_53 rfl rfl
      · have e := g_iF h7 e
        refine r_aload dX6_order_33 rfl ?_
        obtain ⟨h8, e⟩ := g_gd e
        refine q_geti dX6_order_35 flX6_103 rfl h8 ?_
        refine r_iconst (x := 2) dX6_order_38 (by decide) ?_
        refine r_icmp_ne (tgt := 51) dX6_order_39 (by decide) (fun h9 => ?_) (fun h9 => ?_)
        · have e := g_iF h9 e
          refine r_bipush (x := (-2)) dX6_order_51 (by decide) ?_
          have e := Option.some.inj e
          subst e
          exact r_ret dX6_order_53 rfl rfl
        · have e := g_iT h9 e
          refine r_aload dX6_order_42 rfl ?_
          obtain ⟨h10, e⟩ := g_gd e
          refine q_geti dX6_order_44 flX6_103 rfl h10 ?_
          refine r_iconst (x := 2) dX6_order_47 (by decide) ?_
          refine r_icmp_eq (tgt := 54) dX6_order_48 (by decide) (fun h11 => ?_) (fun h11 => ?_)
          · have e := g_iT h11 e
            refine r_aload_n dX6_order_54 rfl rfl ?_
            obtain ⟨v12, h13, e⟩ := g_bd e
            refine q_callV (rest := []) (c_X6_nextRule h13) dX6_order_55 lkX6_134 rfl rfl rfl rfl (Nat.le_of_ble_eq_true rfl) (by decide) ?_
            refine r_astoreO dX6_order_58 (by decide) rfl ?_
            refine r_aloadO dX6_order_60 rfl ?_
            cases v12 with
            | none =>
              have e := g_oN e
              refine r_ifnonnullN (tgt := 68) dX6_order_62 (by decide) ?_
              refine r_bipush (x := (-4)) dX6_order_65 (by decide) ?_
              have e := Option.some.inj e
              subst e
              exact r_ret dX6_order_67 rfl rfl
            | some q14 =>
              have e := g_oS e
              refine r_ifnonnull (tgt := 68) dX6_order_62 (by decide) ?_
              refine r_aload dX6_order_68 rfl ?_
              refine r_iload_n dX6_order_70 rfl rfl ?_
              refine r_iload_n dX6_order_71 rfl rfl ?_
              refine r_iload_n dX6_order_72 rfl rfl ?_
              obtain ⟨h15, e⟩ := g_gd e
              obtain ⟨v16, h17, e⟩ := g_bd e
              refine q_callV (rest := []) (c_X3_setOrder h17) dX6_order_73 lkX6_138 h15 rfl rfl rfl (Nat.le_of_ble_eq_true rfl) (by decide) ?_
              refine r_aload_n dX6_order_76 rfl rfl ?_
              obtain ⟨v18, h19, e⟩ := g_bd e
              refine q_callV (rest := []) (c_X6_addRule h19) dX6_order_77 lkX6_142 rfl rfl rfl rfl (Nat.le_of_ble_eq_true rfl) (by decide) ?_
              have e := Option.some.inj e
              subst e
              exact r_ret dX6_order_80 rfl rfl
          · have e := g_iF h11 e
            refine r_bipush (x := (-2)) dX6_order_51 (by decide) ?_
            have e := Option.some.inj e
            subst e
            exact r_ret dX6_order_53 rfl rfl
