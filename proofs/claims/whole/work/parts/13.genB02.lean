/-! X6_isRow -/
def f_X6_isRow (g : (Nat → Nat → Int32)) (b : Bool) (a1 : Int32) (a2 : Int32) : Option Bool :=
  (if a2 < 0 then
some false
else
((f_X6_rowsOf g b a1).bind fun v2 =>
(if v2 ≤ a2 then
some false
else
some true)))
set_option maxRecDepth 100000 in
set_option maxHeartbeats 4000000 in
theorem c_X6_isRow {G : mG} {g : (Nat → Nat → Int32)} {b : Bool} {a1 : Int32} {a2 : Int32} {R : Bool} (e : f_X6_isRow g b a1 a2 = some R) : MC G mX6_isRow 2 0 0 [.ref 0, .int a1, .int a2] (m_h g b) (some (.int (m_bi R))) (m_h g b) := by
  refine MC_intro mlX6_isRow (Nat.le_of_ble_eq_true rfl) (m_okZ _) rfl trivial ?_
  unfold f_X6_isRow at e
  refine r_iload_n dX6_isRow_0 rfl rfl ?_
  refine r_if_lt (tgt := 17) dX6_isRow_1 (by decide) (fun h1 => ?_) (fun h1 => ?_)
  · have e := g_iT h1 e
    refine r_iconst (x := 0) dX6_isRow_17 (by decide) ?_
    have e := Option.some.inj e
    subst e
    exact r_ret dX6_isRow_18 rfl rfl
  · have e := g_iF h1 e
    refine r_iload_n dX6_isRow_4 rfl rfl ?_
    refine r_aload_n dX6_isRow_5 rfl rfl ?_
    refine r_iload_n dX6_isRow_6 rfl rfl ?_
    obtain ⟨v2, h3, e⟩ := g_bd e
    refine q_callV (rest := [.int a2]) (c_X6_rowsOf h3) dX6_isRow_7 lkX6_200 rfl rfl rfl rfl (Nat.le_of_ble_eq_true rfl) (by decide) ?_
    refine r_icmp_ge (tgt := 17) dX6_isRow_10 (by decide) (fun h4 => ?_) (fun h4 => ?_)
    · have e := g_iT h4 e
      refine r_iconst (x := 0) dX6_isRow_17 (by decide) ?_
      have e := Option.some.inj e
      subst e
      exact r_ret dX6_isRow_18 rfl rfl
    · have e := g_iF h4 e
      refine r_iconst (x := 1) dX6_isRow_13 (by decide) ?_
      refine r_goto (tgt := 18) dX6_isRow_14 (by decide) ?_
      have e := Option.some.inj e
      subst e
      exact r_ret dX6_isRow_18 rfl rfl
/-! X6_at -/
def f_X6_at (g : (Nat → Nat → Int32)) (b : Bool) (a1 : Int32) (a2 : Int32) (a3 : Int32) (a4 : Int32) : Option Int32 :=
  (bif (f_X6_isBit a4) then
((f_X6_isRow g b a1 a2).bind fun v2 =>
(bif v2 then
((f_X6_columnAt g b a1 a3).bind fun v5 =>
(m_oc v5
(some (-2147483648))
(fun q7 =>
((f_X6_copyOf g b a4).bind fun v8 =>
(m_oc v8
(some (-2147483648))
(fun q10 =>
(if m_S0[q10]? = some (.inl 1) then
((f_X1_read g b q10 a1 a2 a3).bind fun v12 =>
some v12) else none)))))))
else
some (-2147483648)))
else
some (-2147483648))
set_option maxRecDepth 100000 in
set_option maxHeartbeats 4000000 in
theorem c_X6_at {G : mG} {g : (Nat → Nat → Int32)} {b : Bool} {a1 : Int32} {a2 : Int32} {a3 : Int32} {a4 : Int32} {R : Int32} (e : f_X6_at g b a1 a2 a3 a4 = some R) : MC G mX6_at 3 0 0 [.ref 0, .int a1, .int a2, .int a3, .int a4] (m_h g b) (some (.int R)) (m_h g b) := by
  refine MC_intro mlX6_at (Nat.le_of_ble_eq_true rfl) ⟨_, rfl⟩ rfl trivial ?_
  unfold f_X6_at at e
  refine r_iload dX6_at_0 rfl ?_
  refine q_callS (rest := []) (c_X6_isBit rfl) dX6_at_2 lkX6_149 rfl rfl (Nat.le_of_ble_eq_true rfl) (by decide) ?_
  refine r_ifeqB (tgt := 26) dX6_at_5 (by decide) (fun h1 => ?_) (fun h1 => ?_)
  · have e := g_cF h1 e
    refine r_ldc (x := (-2147483648)) dX6_at_26 kcX6_179 ?_
    have e := Option.some.inj e
    subst e
    exact r_ret dX6_at_28 rfl rfl
  · have e := g_cT h1 e
    refine r_aload_n dX6_at_8 rfl rfl ?_
    refine r_iload_n dX6_at_9 rfl rfl ?_
    refine r_iload_n dX6_at_10 rfl rfl ?_
    obtain ⟨v2, h3, e⟩ := g_bd e
    refine q_callV (rest := []) (c_X6_isRow h3) dX6_at_11 lkX6_176 rfl rfl rfl rfl (Nat.le_of_ble_eq_true rfl) (by decide) ?_
    refine r_ifeqB (tgt := 26) dX6_at_14 (by decide) (fun h4 => ?_) (fun h4 => ?_)
    · have e := g_cF h4 e
      refine r_ldc (x := (-2147483648)) dX6_at_26 kcX6_179 ?_
      have e := Option.some.inj e
      subst e
      exact r_ret dX6_at_28 rfl rfl
    · have e := g_cT h4 e
      refine r_aload_n dX6_at_17 rfl rfl ?_
      refine r_iload_n dX6_at_18 rfl rfl ?_
      refine r_iload_n dX6_at_19 rfl rfl ?_
      obtain ⟨v5, h6, e⟩ := g_bd e
      refine q_callV (rest := []) (c_X6_columnAt h6) dX6_at_20 lkX6_99 rfl rfl rfl rfl (Nat.le_of_ble_eq_true rfl) (by decide) ?_
      cases v5 with
      | none =>
        have e := g_oN e
        refine r_ifnonnullN (tgt := 29) dX6_at_23 (by decide) ?_
        refine r_ldc (x := (-2147483648)) dX6_at_26 kcX6_179 ?_
        have e := Option.some.inj e
        subst e
        exact r_ret dX6_at_28 rfl rfl
      | some q7 =>
        have e := g_oS e
        refine r_ifnonnull (tgt := 29) dX6_at_23 (by decide) ?_
        refine r_aload_n dX6_at_29 rfl rfl ?_
        refine r_iload dX6_at_30 rfl ?_
        obtain ⟨v8, h9, e⟩ := g_bd e
        refine q_callV (rest := []) (c_X6_copyOf h9) dX6_at_32 lkX6_161 rfl rfl rfl rfl (Nat.le_of_ble_eq_true rfl) (by decide) ?_
        refine r_astoreO dX6_at_35 (by decide) rfl ?_
        refine r_aloadO dX6_at_37 rfl ?_
        cases v8 with
        | none =>
          have e := g_oN e
          refine r_ifnonnullN (tgt := 47) dX6_at_39 (by decide) ?_
          refine r_ldc (x := (-2147483648)) dX6_at_42 kcX6_179 ?_
          refine r_goto (tgt := 55) dX6_at_44 (by decide) ?_
          have e := Option.some.inj e
          subst e
          exact r_ret dX6_at_55 rfl rfl
        | some q10 =>
          have e := g_oS e
          refine r_ifnonnull (tgt := 47) dX6_at_39 (by decide) ?_
          refine r_aload dX6_at_47 rfl ?_
          refine r_iload_n dX6_at_49 rfl rfl ?_
          refine r_iload_n dX6_at_50 rfl rfl ?_
          refine r_iload_n dX6_at_51 rfl rfl ?_
          obtain ⟨h11, e⟩ := g_gd e
          obtain ⟨v12, h13, e⟩ := g_bd e
          refine q_callV (rest := []) (c_X1_read h13) dX6_at_52 lkX6_180 h11 rfl rfl rfl (Nat.le_of_ble_eq_true rfl) (by decide) ?_
          have e := Option.some.inj e
          subst e
          exact r_ret dX6_at_55 rfl rfl
/-! X6_turned -/
def f_X6_turned (g : (Nat → Nat → Int32)) (b : Bool) (a1 : Int32) (a2 : Int32) (a3 : Int32) : Option Int32 :=
  ((f_X6_tableAt g b a1).bind fun v1 =>
((f_X6_columnAt g b a1 a2).bind fun v3 =>
(m_oc v1
(some (-1))
(fun q5 =>
(m_oc v3
(some (-1))
(fun q6 =>
(if m_S0[q6]? = some (.inl 0) then
(if (g q6 0) = 0 then
(if a3 = (-2147483648) then
some (-2)
else
(bif (f_X6_isNumberOfKind (g q6 0) a3) then
(if (g q6 0) = 0 then
(if m_S0[q5]? = some (.inl 4) then
((f_X4_turnKey g b q5 a3).bind fun v15 =>
some v15) else none)
else
((f_X0_turnName g q6 a3).bind fun v12 =>
some v12))
else
some (-2)))
else
(if (g q6 0) = 4 then
(if a3 = (-2147483648) then
some (-2)
else
(bif (f_X6_isNumberOfKind (g q6 0) a3) then
(if (g q6 0) = 0 then
(if m_S0[q5]? = some (.inl 4) then
((f_X4_turnKey g b q5 a3).bind fun v24 =>
some v24) else none)
else
((f_X0_turnName g q6 a3).bind fun v21 =>
some v21))
else
some (-2)))
else
some (-1))) else none)))))))
set_option maxRecDepth 100000 in
set_option maxHeartbeats 4000000 in
theorem c_X6_turned {G : mG} {g : (Nat → Nat → Int32)} {b : Bool} {a1 : Int32} {a2 : Int32} {a3 : Int32} {R : Int32} (e : f_X6_turned g b a1 a2 a3 = some R) : MC G mX6_turned 3 0 0 [.ref 0, .int a1, .int a2, .int a3] (m_h g b) (some (.int R)) (m_h g b) := by
  refine MC_intro mlX6_turned (Nat.le_of_ble_eq_true rfl) ⟨_, rfl⟩ rfl trivial ?_
  unfold f_X6_turned at e
  refine r_aload_n dX6_turned_0 rfl rfl ?_
  refine r_iload_n dX6_turned_1 rfl rfl ?_
  obtain ⟨v1, h2, e⟩ := g_bd e
  refine q_callV (rest := []) (c_X6_tableAt h2) dX6_turned_2 lkX6_73 rfl rfl rfl rfl (Nat.le_of_ble_eq_true rfl) (by decide) ?_
  refine r_astoreO dX6_turned_5 (by decide) rfl ?_
  refine r_aload_n dX6_turned_7 rfl rfl ?_
  refine r_iload_n dX6_turned_8 rfl rfl ?_
  refine r_iload_n dX6_turned_9 rfl rfl ?_
  obtain ⟨v3, h4, e⟩ := g_bd e
  refine q_callV (rest := []) (c_X6_columnAt h4) dX6_turned_10 lkX6_99 rfl rfl rfl rfl (Nat.le_of_ble_eq_true rfl) (by decide) ?_
  refine r_astoreO dX6_turned_13 (by decide) rfl ?_
  refine r_aloadO dX6_turned_15 rfl ?_
  cases v1 with
  | none =>
    have e := g_oN e
    refine r_ifnullN (tgt := 42) dX6_turned_17 (by decide) ?_
    refine r_iconst (x := (-1)) dX6_turned_42 (by decide) ?_
    have e := Option.some.inj e
    subst e
    exact r_ret dX6_turned_43 rfl rfl
  | some q5 =>
    have e := g_oS e
    refine r_ifnull (tgt := 42) dX6_turned_17 (by decide) ?_
    refine r_aloadO dX6_turned_20 rfl ?_
    cases v3 with
    | none =>
      have e := g_oN e
      refine r_ifnullN (tgt := 42) dX6_turned_22 (by decide) ?_
      refine r_iconst (x := (-1)) dX6_turned_42 (by decide) ?_
      have e := Option.some.inj e
      subst e
      exact r_ret dX6_turned_43 rfl rfl
    | some q6 =>
      have e := g_oS e
      refine r_ifnull (tgt := 42) dX6_turned_22 (by decide) ?_
      refine r_aload dX6_turned_25 rfl ?_
      obtain ⟨h7, e⟩ := g_gd e
      refine q_geti dX6_turned_27 flX6_103 rfl h7 ?_
      refine r_if_eq (tgt := 44) dX6_turned_30 (by decide) (fun h8 => ?_) (fun h8 => ?_)
      · have e := g_iT h8 e
        refine r_iload_n dX6_turned_44 rfl rfl ?_
        refine r_ldc (x := (-2147483648)) dX6_turned_45 kcX6_179 ?_
        refine r_icmp_eq (tgt := 62) dX6_turned_47 (by decide) (fun h9 => ?_) (fun h9 => ?_)
        · have e := g_iT h9 e
          refine r_bipush (x := (-2)) dX6_turned_62 (by decide) ?_
          have e := Option.some.inj e
          subst e
          exact r_ret dX6_turned_64 rfl rfl
        · have e := g_iF h9 e
          refine r_aload dX6_turned_50 rfl ?_
          refine q_geti dX6_turned_52 flX6_103 rfl h7 ?_
          refine r_iload_n dX6_turned_55 rfl rfl ?_
          refine q_callS (rest := []) (c_X6_isNumberOfKind rfl) dX6_turned_56 lkX6_184 rfl rfl (Nat.le_of_ble_eq_true rfl) (by decide) ?_
          refine r_ifneB (tgt := 65) dX6_turned_59 (by decide) (fun h10 => ?_) (fun h10 => ?_)
          · have e := g_cT h10 e
            refine r_aload dX6_turned_65 rfl ?_
            refine q_geti dX6_turned_67 flX6_103 rfl h7 ?_
            refine r_if_ne (tgt := 82) dX6_turned_70 (by decide) (fun h11 => ?_) (fun h11 => ?_)
            · have e := g_iF h11 e
              refine r_aload dX6_turned_82 rfl ?_
              refine r_iload_n dX6_turned_84 rfl rfl ?_
              obtain ⟨v12, h13, e⟩ := g_bd e
              refine q_callV (rest := []) (c_X0_turnName h13) dX6_turned_85 lkX6_191 h7 rfl rfl rfl (Nat.le_of_ble_eq_true rfl) (by decide) ?_
              have e := Option.some.inj e
              subst e
              exact r_ret dX6_turned_88 rfl rfl
            · have e := g_iT h11 e
              refine r_aload dX6_turned_73 rfl ?_
              refine r_iload_n dX6_turned_75 rfl rfl ?_
              obtain ⟨h14, e⟩ := g_gd e
              obtain ⟨v15, h16, e⟩ := g_bd e
              refine q_callV (rest := []) (c_X4_turnKey h16) dX6_turned_76 lkX6_187 h14 rfl rfl rfl (Nat.le_of_ble_eq_true rfl) (by decide) ?_
              refine r_goto (tgt := 88) dX6_turned_79 (by decide) ?_
              have e := Option.some.inj e
              subst e
              exact r_ret dX6_turned_88 rfl rfl
          · have e := g_cF h10 e
            refine r_bipush (x := (-2)) dX6_turned_62 (by decide) ?_
            have e := Option.some.inj e
            subst e
            exact r_ret dX6_turned_64 rfl rfl
      · have e := g_iF h8 e
        refine r_aload dX6_turned_33 rfl ?_
        refine q_geti dX6_turned_35 flX6_103 rfl h7 ?_
        refine r_iconst (x := 4) dX6_turned_38 (by decide) ?_
        refine r_icmp_eq (tgt := 44) dX6_turned_39 (by decide) (fun h17 => ?_) (fun h17 => ?_)
        · have e := g_iT h17 e
          refine r_iload_n dX6_turned_44 rfl rfl ?_
          refine r_ldc (x := (-2147483648)) dX6_turned_45 kcX6_179 ?_
          refine r_icmp_eq (tgt := 62) dX6_turned_47 (by decide) (fun h18 => ?_) (fun h18 => ?_)
          · have e := g_iT h18 e
            refine r_bipush (x := (-2)) dX6_turned_62 (by decide) ?_
            have e := Option.some.inj e
            subst e
            exact r_ret dX6_turned_64 rfl rfl
          · have e := g_iF h18 e
            refine r_aload dX6_turned_50 rfl ?_
            refine q_geti dX6_turned_52 flX6_103 rfl h7 ?_
            refine r_iload_n dX6_turned_55 rfl rfl ?_
            refine q_callS (rest := []) (c_X6_isNumberOfKind rfl) dX6_turned_56 lkX6_184 rfl rfl (Nat.le_of_ble_eq_true rfl) (by decide) ?_
            refine r_ifneB (tgt := 65) dX6_turned_59 (by decide) (fun h19 => ?_) (fun h19 => ?_)
            · have e := g_cT h19 e
              refine r_aload dX6_turned_65 rfl ?_
              refine q_geti dX6_turned_67 flX6_103 rfl h7 ?_
              refine r_if_ne (tgt := 82) dX6_turned_70 (by decide) (fun h20 => ?_) (fun h20 => ?_)
              · have e := g_iF h20 e
                refine r_aload dX6_turned_82 rfl ?_
                refine r_iload_n dX6_turned_84 rfl rfl ?_
                obtain ⟨v21, h22, e⟩ := g_bd e
                refine q_callV (rest := []) (c_X0_turnName h22) dX6_turned_85 lkX6_191 h7 rfl rfl rfl (Nat.le_of_ble_eq_true rfl) (by decide) ?_
                have e := Option.some.inj e
                subst e
                exact r_ret dX6_turned_88 rfl rfl
              · have e := g_iT h20 e
                refine r_aload dX6_turned_73 rfl ?_
                refine r_iload_n dX6_turned_75 rfl rfl ?_
                obtain ⟨h23, e⟩ := g_gd e
                obtain ⟨v24, h25, e⟩ := g_bd e
                refine q_callV (rest := []) (c_X4_turnKey h25) dX6_turned_76 lkX6_187 h23 rfl rfl rfl (Nat.le_of_ble_eq_true rfl) (by decide) ?_
                refine r_goto (tgt := 88) dX6_turned_79 (by decide) ?_
                have e := Option.some.inj e
                subst e
                exact r_ret dX6_turned_88 rfl rfl
            · have e := g_cF h19 e
              refine r_bipush (x := (-2)) dX6_turned_62 (by decide) ?_
              have e := Option.some.inj e
              subst e
              exact r_ret dX6_turned_64 rfl rfl
        · have e := g_iF h17 e
          refine r_iconst (x := (-1)) dX6_turned_42 (by decide) ?_
          have e := Option.some.inj e
          subst e
          exact r_ret dX6_turned_43 rfl rfl
/-! X6_shift -/
def f_X6_shift (g : (Nat → Nat → Int32)) (b : Bool) (a1 : Int32) : Option (Int32 × (Nat → Nat → Int32)) :=
  (bif (f_X6_isKeyNumber a1) then
((f_X6_shiftOf g b a1).bind fun v2 =>
some (v2.1, v2.2))
else
some ((-2147483648), g))
set_option maxRecDepth 100000 in
set_option maxHeartbeats 4000000 in
theorem c_X6_shift {G : mG} {g : (Nat → Nat → Int32)} {b : Bool} {a1 : Int32} {R : (Int32 × (Nat → Nat → Int32))} (e : f_X6_shift g b a1 = some R) : MC G mX6_shift 5 0 0 [.ref 0, .int a1] (m_h g b) (some (.int R.1)) (m_h R.2 b) := by
  refine MC_intro mlX6_shift (Nat.le_of_ble_eq_true rfl) ⟨_, rfl⟩ rfl trivial ?_
  unfold f_X6_shift at e
  refine r_iload_n dX6_shift_0 rfl rfl ?_
  refine q_callS (rest := []) (c_X6_isKeyNumber rfl) dX6_shift_1 lkX6_194 rfl rfl (Nat.le_of_ble_eq_true rfl) (by decide) ?_
  refine r_ifeqB (tgt := 15) dX6_shift_4 (by decide) (fun h1 => ?_) (fun h1 => ?_)
  · have e := g_cF h1 e
    refine r_ldc (x := (-2147483648)) dX6_shift_15 kcX6_179 ?_
    have e := Option.some.inj e
    subst e
    exact r_ret dX6_shift_17 rfl rfl
  · have e := g_cT h1 e
    refine r_aload_n dX6_shift_7 rfl rfl ?_
    refine r_iload_n dX6_shift_8 rfl rfl ?_
    obtain ⟨v2, h3, e⟩ := g_bd e
    refine q_callV (rest := []) (c_X6_shiftOf h3) dX6_shift_9 lkX6_197 rfl rfl rfl rfl (Nat.le_of_ble_eq_true rfl) (by decide) ?_
    refine r_goto (tgt := 17) dX6_shift_12 (by decide) ?_
    have e := Option.some.inj e
    subst e
    exact r_ret dX6_shift_17 rfl rfl
/-! X6_count -/
def f_X6_count (g : (Nat → Nat → Int32)) (b : Bool) (a1 : Int32) (a2 : Int32) (a3 : Int32) (a4 : Int32) : Option Int32 :=
  ((f_X6_columnAt g b a1 a2).bind fun v1 =>
(m_oc v1
(some (-1))
(fun q3 =>
(bif (f_X6_isBit a4) then
((f_X6_copyOf g b a4).bind fun v5 =>
(m_oc v5
(some (-3))
(fun q7 =>
((f_X6_rowsWith g b q7 a1 a2 a3).bind fun v8 =>
some v8))))
else
some (-2)))))
set_option maxRecDepth 100000 in
set_option maxHeartbeats 4000000 in
theorem c_X6_count {G : mG} {g : (Nat → Nat → Int32)} {b : Bool} {a1 : Int32} {a2 : Int32} {a3 : Int32} {a4 : Int32} {R : Int32} (e : f_X6_count g b a1 a2 a3 a4 = some R) : MC G mX6_count 3 0 0 [.ref 0, .int a1, .int a2, .int a3, .int a4] (m_h g b) (some (.int R)) (m_h g b) := by
  refine MC_intro mlX6_count (Nat.le_of_ble_eq_true rfl) ⟨_, rfl⟩ rfl trivial ?_
  unfold f_X6_count at e
  refine r_aload_n dX6_count_0 rfl rfl ?_
  refine r_iload_n dX6_count_1 rfl rfl ?_
  refine r_iload_n dX6_count_2 rfl rfl ?_
  obtain ⟨v1, h2, e⟩ := g_bd e
  refine q_callV (rest := []) (c_X6_columnAt h2) dX6_count_3 lkX6_99 rfl rfl rfl rfl (Nat.le_of_ble_eq_true rfl) (by decide) ?_
  cases v1 with
  | none =>
    have e := g_oN e
    refine r_ifnonnullN (tgt := 11) dX6_count_6 (by decide) ?_
    refine r_iconst (x := (-1)) dX6_count_9 (by decide) ?_
    have e := Option.some.inj e
    subst e
    exact r_ret dX6_count_10 rfl rfl
  | some q3 =>
    have e := g_oS e
    refine r_ifnonnull (tgt := 11) dX6_count_6 (by decide) ?_
    refine r_iload dX6_count_11 rfl ?_
    refine q_callS (rest := []) (c_X6_isBit rfl) dX6_count_13 lkX6_149 rfl rfl (Nat.le_of_ble_eq_true rfl) (by decide) ?_
    refine r_ifneB (tgt := 22) dX6_count_16 (by decide) (fun h4 => ?_) (fun h4 => ?_)
    · have e := g_cT h4 e
      refine r_aload_n dX6_count_22 rfl rfl ?_
      refine r_iload dX6_count_23 rfl ?_
      obtain ⟨v5, h6, e⟩ := g_bd e
      refine q_callV (rest := []) (c_X6_copyOf h6) dX6_count_25 lkX6_161 rfl rfl rfl rfl (Nat.le_of_ble_eq_true rfl) (by decide) ?_
      refine r_astoreO dX6_count_28 (by decide) rfl ?_
      refine r_aloadO dX6_count_30 rfl ?_
      cases v5 with
      | none =>
        have e := g_oN e
        refine r_ifnonnullN (tgt := 40) dX6_count_32 (by decide) ?_
        refine r_bipush (x := (-3)) dX6_count_35 (by decide) ?_
        refine r_goto (tgt := 49) dX6_count_37 (by decide) ?_
        have e := Option.some.inj e
        subst e
        exact r_ret dX6_count_49 rfl rfl
      | some q7 =>
        have e := g_oS e
        refine r_ifnonnull (tgt := 40) dX6_count_32 (by decide) ?_
        refine r_aload_n dX6_count_40 rfl rfl ?_
        refine r_aload dX6_count_41 rfl ?_
        refine r_iload_n dX6_count_43 rfl rfl ?_
        refine r_iload_n dX6_count_44 rfl rfl ?_
        refine r_iload_n dX6_count_45 rfl rfl ?_
        obtain ⟨v8, h9, e⟩ := g_bd e
        refine q_callV (rest := []) (c_X6_rowsWith h9) dX6_count_46 lkX6_91 rfl rfl rfl rfl (Nat.le_of_ble_eq_true rfl) (by decide) ?_
        have e := Option.some.inj e
        subst e
        exact r_ret dX6_count_49 rfl rfl
    · have e := g_cF h4 e
      refine r_bipush (x := (-2)) dX6_count_19 (by decide) ?_
      have e := Option.some.inj e
      subst e
      exact r_ret dX6_count_21 rfl rfl
/-! X6_joins -/
def lp_X6_joins_55 (g : (Nat → Nat → Int32)) (b : Bool) (a1 : Int32) (a2 : Int32) (a3 : Int32) (x55_4 : Nat) (x55_5 : Nat) : Nat → Int32 → Int32 → Option Int32
  | 0, _, _ => none
  | n + 1, y55_6, y55_7 =>
  ((f_X6_rowsOf g b a1).bind fun v55001 =>
(if v55001 ≤ y55_7 then
some y55_6
else
(if m_S0[x55_4]? = some (.inl 0) then
(if m_S0[x55_5]? = some (.inl 1) then
((f_X1_read g b x55_5 a1 y55_7 a2).bind fun v55006 =>
((f_X6_rowsWith g b x55_5 (g x55_4 1) 0 v55006).bind fun v55008 =>
lp_X6_joins_55 g b a1 a2 a3 x55_4 x55_5 n (y55_6 + v55008) (y55_7 + 1))) else none) else none)))
def f_X6_joins (g : (Nat → Nat → Int32)) (b : Bool) (a1 : Int32) (a2 : Int32) (a3 : Int32) : Option Int32 :=
  ((f_X6_columnAt g b a1 a2).bind fun v1 =>
(m_oc v1
(some (-1))
(fun q3 =>
(if m_S0[q3]? = some (.inl 0) then
(if (g q3 0) = 1 then
(bif (f_X6_isBit a3) then
((f_X6_copyOf g b a3).bind fun v7 =>
(m_oc v7
(some (-3))
(fun q9 =>
lp_X6_joins_55 g b a1 a2 a3 q3 q9 2000 0 0)))
else
some (-2))
else
some (-2)) else none))))
set_option maxRecDepth 100000 in
set_option maxHeartbeats 4000000 in
theorem w_X6_joins_55 {G : mG} {g : (Nat → Nat → Int32)} {b : Bool} {a1 : Int32} {a2 : Int32} {a3 : Int32} {x55_4 : Nat} {x55_5 : Nat} : ∀ (n : Nat) (y55_6 : Int32) (y55_7 : Int32) (R : Int32), lp_X6_joins_55 g b a1 a2 a3 x55_4 x55_5 n y55_6 y55_7 = some R → MW G mX6_joins 3 0 0 55 [.ref 0, .int a1, .int a2, .int a3, .ref x55_4, .ref x55_5, .int y55_6, .int y55_7] [] (m_h g b) (some (.int R)) (m_h g b)
  | 0, _, _, R, e => absurd (show (none : Option Int32) = some R from e) (fun h => by cases h)
  | n + 1, y55_6, y55_7, R, e => by
    rw [lp_X6_joins_55] at e
    refine r_iload dX6_joins_55 rfl ?_
    refine r_aload_n dX6_joins_57 rfl rfl ?_
    refine r_iload_n dX6_joins_58 rfl rfl ?_
    obtain ⟨v55001, h55002, e⟩ := g_bd e
    refine q_callV (rest := [.int y55_7]) (c_X6_rowsOf h55002) dX6_joins_59 lkX6_200 rfl rfl rfl rfl (Nat.le_of_ble_eq_true rfl) (by decide) ?_
    refine r_icmp_ge (tgt := 97) dX6_joins_62 (by decide) (fun h55003 => ?_) (fun h55003 => ?_)
    · have e := g_iT h55003 e
      refine r_iload dX6_joins_97 rfl ?_
      have e := Option.some.inj e
      subst e
      exact r_ret dX6_joins_99 rfl rfl
    · have e := g_iF h55003 e
      refine r_iload dX6_joins_65 rfl ?_
      refine r_aload_n dX6_joins_67 rfl rfl ?_
      refine r_aload dX6_joins_68 rfl ?_
      refine r_aload dX6_joins_70 rfl ?_
      obtain ⟨h55004, e⟩ := g_gd e
      refine q_geti dX6_joins_72 flX6_146 rfl h55004 ?_
      refine r_iconst (x := 0) dX6_joins_75 (by decide) ?_
      refine r_aload dX6_joins_76 rfl ?_
      refine r_iload_n dX6_joins_78 rfl rfl ?_
      refine r_iload dX6_joins_79 rfl ?_
      refine r_iload_n dX6_joins_81 rfl rfl ?_
      obtain ⟨h55005, e⟩ := g_gd e
      obtain ⟨v55006, h55007, e⟩ := g_bd e
      refine q_callV (rest := [.int 0, .int (g x55_4 1), .ref x55_5, .ref 0, .int y55_6]) (c_X1_read h55007) dX6_joins_82 lkX6_180 h55005 rfl rfl rfl (Nat.le_of_ble_eq_true rfl) (by decide) ?_
      obtain ⟨v55008, h55009, e⟩ := g_bd e
      refine q_callV (rest := [.int y55_6]) (c_X6_rowsWith h55009) dX6_joins_85 lkX6_91 rfl rfl rfl rfl (Nat.le_of_ble_eq_true rfl) (by decide) ?_
      refine r_iadd dX6_joins_88 ?_
      refine r_istore dX6_joins_89 (by decide) rfl ?_
      refine r_iinc (y := 1) dX6_joins_91 rfl (by decide) (by decide) rfl ?_
      refine r_goto (tgt := 55) dX6_joins_94 (by decide) ?_
      exact w_X6_joins_55 n _ _ R e
set_option maxRecDepth 100000 in
set_option maxHeartbeats 4000000 in
theorem c_X6_joins {G : mG} {g : (Nat → Nat → Int32)} {b : Bool} {a1 : Int32} {a2 : Int32} {a3 : Int32} {R : Int32} (e : f_X6_joins g b a1 a2 a3 = some R) : MC G mX6_joins 3 0 0 [.ref 0, .int a1, .int a2, .int a3] (m_h g b) (some (.int R)) (m_h g b) := by
  refine MC_intro mlX6_joins (Nat.le_of_ble_eq_true rfl) ⟨_, rfl⟩ rfl trivial ?_
  unfold f_X6_joins at e
  refine r_aload_n dX6_joins_0 rfl rfl ?_
  refine r_iload_n dX6_joins_1 rfl rfl ?_
  refine r_iload_n dX6_joins_2 rfl rfl ?_
  obtain ⟨v1, h2, e⟩ := g_bd e
  refine q_callV (rest := []) (c_X6_columnAt h2) dX6_joins_3 lkX6_99 rfl rfl rfl rfl (Nat.le_of_ble_eq_true rfl) (by decide) ?_
  refine r_astoreO dX6_joins_6 (by decide) rfl ?_
  refine r_aloadO dX6_joins_8 rfl ?_
  cases v1 with
  | none =>
    have e := g_oN e
    refine r_ifnonnullN (tgt := 15) dX6_joins_10 (by decide) ?_
    refine r_iconst (x := (-1)) dX6_joins_13 (by decide) ?_
    have e := Option.some.inj e
    subst e
    exact r_ret dX6_joins_14 rfl rfl
  | some q3 =>
    have e := g_oS e
    refine r_ifnonnull (tgt := 15) dX6_joins_10 (by decide) ?_
    refine r_aload dX6_joins_15 rfl ?_
    obtain ⟨h4, e⟩ := g_gd e
    refine q_geti dX6_joins_17 flX6_103 rfl h4 ?_
    refine r_iconst (x := 1) dX6_joins_20 (by decide) ?_
    refine r_icmp_ne (tgt := 31) dX6_joins_21 (by decide) (fun h5 => ?_) (fun h5 => ?_)
    · have e := g_iF h5 e
      refine r_bipush (x := (-2)) dX6_joins_31 (by decide) ?_
      have e := Option.some.inj e
      subst e
      exact r_ret dX6_joins_33 rfl rfl
    · have e := g_iT h5 e
      refine r_iload_n dX6_joins_24 rfl rfl ?_
      refine q_callS (rest := []) (c_X6_isBit rfl) dX6_joins_25 lkX6_149 rfl rfl (Nat.le_of_ble_eq_true rfl) (by decide) ?_
      refine r_ifneB (tgt := 34) dX6_joins_28 (by decide) (fun h6 => ?_) (fun h6 => ?_)
      · have e := g_cT h6 e
        refine r_aload_n dX6_joins_34 rfl rfl ?_
        refine r_iload_n dX6_joins_35 rfl rfl ?_
        obtain ⟨v7, h8, e⟩ := g_bd e
        refine q_callV (rest := []) (c_X6_copyOf h8) dX6_joins_36 lkX6_161 rfl rfl rfl rfl (Nat.le_of_ble_eq_true rfl) (by decide) ?_
        refine r_astoreO dX6_joins_39 (by decide) rfl ?_
        refine r_aloadO dX6_joins_41 rfl ?_
        cases v7 with
        | none =>
          have e := g_oN e
          refine r_ifnonnullN (tgt := 49) dX6_joins_43 (by decide) ?_
          refine r_bipush (x := (-3)) dX6_joins_46 (by decide) ?_
          have e := Option.some.inj e
          subst e
          exact r_ret dX6_joins_48 rfl rfl
        | some q9 =>
          have e := g_oS e
          refine r_ifnonnull (tgt := 49) dX6_joins_43 (by decide) ?_
          refine r_iconst (x := 0) dX6_joins_49 (by decide) ?_
          refine r_istore dX6_joins_50 (by decide) rfl ?_
          refine r_iconst (x := 0) dX6_joins_52 (by decide) ?_
          refine r_istore dX6_joins_53 (by decide) rfl ?_
          exact w_X6_joins_55 2000 _ _ R e
      · have e := g_cF h6 e
        refine r_bipush (x := (-2)) dX6_joins_31 (by decide) ?_
        have e := Option.some.inj e
        subst e
        exact r_ret dX6_joins_33 rfl rfl
/-! X6_miss -/
def lp_X6_miss_48 (g : (Nat → Nat → Int32)) (b : Bool) (a1 : Int32) (a2 : Int32) (x48_3 : Nat) : Nat → Int32 → Int32 → Option Int32
  | 0, _, _ => none
  | n + 1, y48_4, y48_5 =>
  ((f_X6_rowsOf g b a1).bind fun v48001 =>
(if v48001 ≤ y48_5 then
some y48_4
else
((f_X1_read g b 4 a1 y48_5 a2).bind fun v48004 =>
(if m_S0[(m_pM b)]? = some (.inl 1) then
((f_X1_read g b (m_pM b) a1 y48_5 a2).bind fun v48007 =>
(if v48004 = (-2147483648) then
lp_X6_miss_48 g b a1 a2 x48_3 n y48_4 (y48_5 + 1)
else
(if v48007 = (-2147483648) then
lp_X6_miss_48 g b a1 a2 x48_3 n y48_4 (y48_5 + 1)
else
lp_X6_miss_48 g b a1 a2 x48_3 n (y48_4 + (m_abs (v48007 - v48004))) (y48_5 + 1)))) else none))))
def f_X6_miss (g : (Nat → Nat → Int32)) (b : Bool) (a1 : Int32) (a2 : Int32) : Option Int32 :=
  ((f_X6_columnAt g b a1 a2).bind fun v1 =>
(m_oc v1
(some (-1))
(fun q3 =>
(if m_S0[q3]? = some (.inl 0) then
(if (g q3 0) = 2 then
(if (g 0 12) = 0 then
some (-3)
else
lp_X6_miss_48 g b a1 a2 q3 2000 0 0)
else
(if (g q3 0) = 3 then
(if (g 0 12) = 0 then
some (-3)
else
lp_X6_miss_48 g b a1 a2 q3 2000 0 0)
else
some (-2))) else none))))
set_option maxRecDepth 100000 in
set_option maxHeartbeats 4000000 in
theorem w_X6_miss_48 {G : mG} {g : (Nat → Nat → Int32)} {b : Bool} {a1 : Int32} {a2 : Int32} {x48_3 : Nat} : ∀ (n : Nat) (y48_4 : Int32) (y48_5 : Int32) (R : Int32), lp_X6_miss_48 g b a1 a2 x48_3 n y48_4 y48_5 = some R → MW G mX6_miss 2 0 0 48 [.ref 0, .int a1, .int a2, .ref x48_3, .int y48_4, .int y48_5, .retAddr 0, .retAddr 0] [] (m_h g b) (some (.int R)) (m_h g b)
  | 0, _, _, R, e => absurd (show (none : Option Int32) = some R from e) (fun h => by cases h)
  | n + 1, y48_4, y48_5, R, e => by
    rw [lp_X6_miss_48] at e
    refine r_iload dX6_miss_48 rfl ?_
    refine r_aload_n dX6_miss_50 rfl rfl ?_
    refine r_iload_n dX6_miss_51 rfl rfl ?_
    obtain ⟨v48001, h48002, e⟩ := g_bd e
    refine q_callV (rest := [.int y48_5]) (c_X6_rowsOf h48002) dX6_miss_52 lkX6_200 rfl rfl rfl rfl (Nat.le_of_ble_eq_true rfl) (by decide) ?_
    refine r_icmp_ge (tgt := 117) dX6_miss_55 (by decide) (fun h48003 => ?_) (fun h48003 => ?_)
    · have e := g_iT h48003 e
      refine r_iload dX6_miss_117 rfl ?_
      have e := Option.some.inj e
      subst e
      exact r_ret dX6_miss_119 rfl rfl
    · have e := g_iF h48003 e
      refine r_aload_n dX6_miss_58 rfl rfl ?_
      refine q_getr dX6_miss_59 flX6_30 rfl rfl (m_fr_0_3 _) ?_
      refine r_iload_n dX6_miss_62 rfl rfl ?_
      refine r_iload dX6_miss_63 rfl ?_
      refine r_iload_n dX6_miss_65 rfl rfl ?_
      obtain ⟨v48004, h48005, e⟩ := g_bd e
      refine q_callV (rest := []) (c_X1_read h48005) dX6_miss_66 lkX6_180 rfl rfl rfl rfl (Nat.le_of_ble_eq_true rfl) (by decide) ?_
      refine r_istore dX6_miss_69 (by decide) rfl ?_
      refine r_aload_n dX6_miss_71 rfl rfl ?_
      refine q_getr dX6_miss_72 flX6_48 rfl rfl (m_fr_0_6 _) ?_
      refine r_iload_n dX6_miss_75 rfl rfl ?_
      refine r_iload dX6_miss_76 rfl ?_
      refine r_iload_n dX6_miss_78 rfl rfl ?_
      obtain ⟨h48006, e⟩ := g_gd e
      obtain ⟨v48007, h48008, e⟩ := g_bd e
      refine q_callV (rest := []) (c_X1_read h48008) dX6_miss_79 lkX6_180 h48006 rfl rfl rfl (Nat.le_of_ble_eq_true rfl) (by decide) ?_
      refine r_istore dX6_miss_82 (by decide) rfl ?_
      refine r_iload dX6_miss_84 rfl ?_
      refine r_ldc (x := (-2147483648)) dX6_miss_86 kcX6_179 ?_
      refine r_icmp_eq (tgt := 111) dX6_miss_88 (by decide) (fun h48009 => ?_) (fun h48009 => ?_)
      · have e := g_iT h48009 e
        refine r_iinc (y := 1) dX6_miss_111 rfl (by decide) (by decide) rfl ?_
        refine r_goto (tgt := 48) dX6_miss_114 (by decide) ?_
        refine r_forget 6 rfl ?_
        refine r_forget 7 rfl ?_
        exact w_X6_miss_48 n _ _ R e
      · have e := g_iF h48009 e
        refine r_iload dX6_miss_91 rfl ?_
        refine r_ldc (x := (-2147483648)) dX6_miss_93 kcX6_179 ?_
        refine r_icmp_eq (tgt := 111) dX6_miss_95 (by decide) (fun h48010 => ?_) (fun h48010 => ?_)
        · have e := g_iT h48010 e
          refine r_iinc (y := 1) dX6_miss_111 rfl (by decide) (by decide) rfl ?_
          refine r_goto (tgt := 48) dX6_miss_114 (by decide) ?_
          refine r_forget 6 rfl ?_
          refine r_forget 7 rfl ?_
          exact w_X6_miss_48 n _ _ R e
        · have e := g_iF h48010 e
          refine r_iload dX6_miss_98 rfl ?_
          refine r_iload dX6_miss_100 rfl ?_
          refine r_iload dX6_miss_102 rfl ?_
          refine r_isub dX6_miss_104 ?_
          refine q_abs dX6_miss_105 lkX6_203 (Nat.le_of_ble_eq_true rfl) (by decide) ?_
          refine r_iadd dX6_miss_108 ?_
          refine r_istore dX6_miss_109 (by decide) rfl ?_
          refine r_iinc (y := 1) dX6_miss_111 rfl (by decide) (by decide) rfl ?_
          refine r_goto (tgt := 48) dX6_miss_114 (by decide) ?_
          refine r_forget 6 rfl ?_
          refine r_forget 7 rfl ?_
          exact w_X6_miss_48 n _ _ R e
set_option maxRecDepth 100000 in
set_option maxHeartbeats 4000000 in
theorem c_X6_miss {G : mG} {g : (Nat → Nat → Int32)} {b : Bool} {a1 : Int32} {a2 : Int32} {R : Int32} (e : f_X6_miss g b a1 a2 = some R) : MC G mX6_miss 2 0 0 [.ref 0, .int a1, .int a2] (m_h g b) (some (.int R)) (m_h g b) := by
  refine MC_intro mlX6_miss (Nat.le_of_ble_eq_true rfl) ⟨_, rfl⟩ rfl trivial ?_
  unfold f_X6_miss at e
  refine r_aload_n dX6_miss_0 rfl rfl ?_
  refine r_iload_n dX6_miss_1 rfl rfl ?_
  refine r_iload_n dX6_miss_2 rfl rfl ?_
  obtain ⟨v1, h2, e⟩ := g_bd e
  refine q_callV (rest := []) (c_X6_columnAt h2) dX6_miss_3 lkX6_99 rfl rfl rfl rfl (Nat.le_of_ble_eq_true rfl) (by decide) ?_
  refine r_astore_nO dX6_miss_6 rfl (by decide) rfl ?_
  refine r_aload_nO dX6_miss_7 rfl rfl ?_
  cases v1 with
  | none =>
    have e := g_oN e
    refine r_ifnonnullN (tgt := 13) dX6_miss_8 (by decide) ?_
    refine r_iconst (x := (-1)) dX6_miss_11 (by decide) ?_
    have e := Option.some.inj e
    subst e
    exact r_ret dX6_miss_12 rfl rfl
  | some q3 =>
    have e := g_oS e
    refine r_ifnonnull (tgt := 13) dX6_miss_8 (by decide) ?_
    refine r_aload_n dX6_miss_13 rfl rfl ?_
    obtain ⟨h4, e⟩ := g_gd e
    refine q_geti dX6_miss_14 flX6_103 rfl h4 ?_
    refine r_iconst (x := 2) dX6_miss_17 (by decide) ?_
    refine r_icmp_eq (tgt := 32) dX6_miss_18 (by decide) (fun h5 => ?_) (fun h5 => ?_)
    · have e := g_iT h5 e
      refine r_aload_n dX6_miss_32 rfl rfl ?_
      refine q_geti dX6_miss_33 flX6_67 rfl rfl ?_
      refine r_if_ne (tgt := 42) dX6_miss_36 (by decide) (fun h6 => ?_) (fun h6 => ?_)
      · have e := g_iF h6 e
        refine r_iconst (x := 0) dX6_miss_42 (by decide) ?_
        refine r_istore dX6_miss_43 (by decide) rfl ?_
        refine r_iconst (x := 0) dX6_miss_45 (by decide) ?_
        refine r_istore dX6_miss_46 (by decide) rfl ?_
        exact w_X6_miss_48 2000 _ _ R e
      · have e := g_iT h6 e
        refine r_bipush (x := (-3)) dX6_miss_39 (by decide) ?_
        have e := Option.some.inj e
        subst e
        exact r_ret dX6_miss_41 rfl rfl
    · have e := g_iF h5 e
      refine r_aload_n dX6_miss_21 rfl rfl ?_
      refine q_geti dX6_miss_22 flX6_103 rfl h4 ?_
      refine r_iconst (x := 3) dX6_miss_25 (by decide) ?_
      refine r_icmp_eq (tgt := 32) dX6_miss_26 (by decide) (fun h7 => ?_) (fun h7 => ?_)
      · have e := g_iT h7 e
        refine r_aload_n dX6_miss_32 rfl rfl ?_
        refine q_geti dX6_miss_33 flX6_67 rfl rfl ?_
        refine r_if_ne (tgt := 42) dX6_miss_36 (by decide) (fun h8 => ?_) (fun h8 => ?_)
        · have e := g_iF h8 e
          refine r_iconst (x := 0) dX6_miss_42 (by decide) ?_
          refine r_istore dX6_miss_43 (by decide) rfl ?_
          refine r_iconst (x := 0) dX6_miss_45 (by decide) ?_
          refine r_istore dX6_miss_46 (by decide) rfl ?_
          exact w_X6_miss_48 2000 _ _ R e
        · have e := g_iT h8 e
          refine r_bipush (x := (-3)) dX6_miss_39 (by decide) ?_
          have e := Option.some.inj e
          subst e
          exact r_ret dX6_miss_41 rfl rfl
      · have e := g_iF h7 e
        refine r_bipush (x := (-2)) dX6_miss_29 (by decide) ?_
        have e := Option.some.inj e
        subst e
        exact r_ret dX6_miss_31 rfl rfl
/-! X6_columnsOf -/
def f_X6_columnsOf (g : (Nat → Nat → Int32)) (b : Bool) (a1 : Int32) : Option Int32 :=
  ((f_X6_tableAt g b a1).bind fun v1 =>
(m_oc v1
(some 0)
(fun q3 =>
(if m_S0[q3]? = some (.inl 4) then
some (g q3 3) else none))))
set_option maxRecDepth 100000 in
set_option maxHeartbeats 4000000 in
theorem c_X6_columnsOf {G : mG} {g : (Nat → Nat → Int32)} {b : Bool} {a1 : Int32} {R : Int32} (e : f_X6_columnsOf g b a1 = some R) : MC G mX6_columnsOf 1 0 0 [.ref 0, .int a1] (m_h g b) (some (.int R)) (m_h g b) := by
  refine MC_intro mlX6_columnsOf (Nat.le_of_ble_eq_true rfl) ⟨_, rfl⟩ rfl trivial ?_
  unfold f_X6_columnsOf at e
  refine r_aload_n dX6_columnsOf_0 rfl rfl ?_
  refine r_iload_n dX6_columnsOf_1 rfl rfl ?_
  obtain ⟨v1, h2, e⟩ := g_bd e
  refine q_callV (rest := []) (c_X6_tableAt h2) dX6_columnsOf_2 lkX6_73 rfl rfl rfl rfl (Nat.le_of_ble_eq_true rfl) (by decide) ?_
  refine r_astore_nO dX6_columnsOf_5 rfl (by decide) rfl ?_
  refine r_aload_nO dX6_columnsOf_6 rfl rfl ?_
  cases v1 with
  | none =>
    have e := g_oN e
    refine r_ifnonnullN (tgt := 14) dX6_columnsOf_7 (by decide) ?_
    refine r_iconst (x := 0) dX6_columnsOf_10 (by decide) ?_
    refine r_goto (tgt := 18) dX6_columnsOf_11 (by decide) ?_
    have e := Option.some.inj e
    subst e
    exact r_ret dX6_columnsOf_18 rfl rfl
  | some q3 =>
    have e := g_oS e
    refine r_ifnonnull (tgt := 14) dX6_columnsOf_7 (by decide) ?_
    refine r_aload_n dX6_columnsOf_14 rfl rfl ?_
    obtain ⟨h4, e⟩ := g_gd e
    refine q_geti dX6_columnsOf_15 flX6_80 rfl h4 ?_
    have e := Option.some.inj e
    subst e
    exact r_ret dX6_columnsOf_18 rfl rfl
/-! X6_areColumns -/
def f_X6_areColumns (g : (Nat → Nat → Int32)) (b : Bool) (a1 : Int32) (a2 : Int32) : Option Bool :=
  (if a2 < 0 then
some false
else
((f_X6_columnsOf g b a1).bind fun v2 =>
(if (m_shl 1 v2) ≤ a2 then
some false
else
some true)))
set_option maxRecDepth 100000 in
set_option maxHeartbeats 4000000 in
theorem c_X6_areColumns {G : mG} {g : (Nat → Nat → Int32)} {b : Bool} {a1 : Int32} {a2 : Int32} {R : Bool} (e : f_X6_areColumns g b a1 a2 = some R) : MC G mX6_areColumns 2 0 0 [.ref 0, .int a1, .int a2] (m_h g b) (some (.int (m_bi R))) (m_h g b) := by
  refine MC_intro mlX6_areColumns (Nat.le_of_ble_eq_true rfl) (m_okZ _) rfl trivial ?_
  unfold f_X6_areColumns at e
  refine r_iload_n dX6_areColumns_0 rfl rfl ?_
  refine r_if_lt (tgt := 19) dX6_areColumns_1 (by decide) (fun h1 => ?_) (fun h1 => ?_)
  · have e := g_iT h1 e
    refine r_iconst (x := 0) dX6_areColumns_19 (by decide) ?_
    have e := Option.some.inj e
    subst e
    exact r_ret dX6_areColumns_20 rfl rfl
  · have e := g_iF h1 e
    refine r_iload_n dX6_areColumns_4 rfl rfl ?_
    refine r_iconst (x := 1) dX6_areColumns_5 (by decide) ?_
    refine r_aload_n dX6_areColumns_6 rfl rfl ?_
    refine r_iload_n dX6_areColumns_7 rfl rfl ?_
    obtain ⟨v2, h3, e⟩ := g_bd e
    refine q_callV (rest := [.int 1, .int a2]) (c_X6_columnsOf h3) dX6_areColumns_8 lkX6_249 rfl rfl rfl rfl (Nat.le_of_ble_eq_true rfl) (by decide) ?_
    refine q_ishl dX6_areColumns_11 ?_
    refine r_icmp_ge (tgt := 19) dX6_areColumns_12 (by decide) (fun h4 => ?_) (fun h4 => ?_)
    · have e := g_iT h4 e
      refine r_iconst (x := 0) dX6_areColumns_19 (by decide) ?_
      have e := Option.some.inj e
      subst e
      exact r_ret dX6_areColumns_20 rfl rfl
    · have e := g_iF h4 e
      refine r_iconst (x := 1) dX6_areColumns_15 (by decide) ?_
      refine r_goto (tgt := 20) dX6_areColumns_16 (by decide) ?_
      have e := Option.some.inj e
      subst e
      exact r_ret dX6_areColumns_20 rfl rfl
/-! X6_hasBit -/
def f_X6_hasBit (a1 : Int32) (a2 : Int32) : Bool :=
  (if ((m_shr a1 a2) &&& 1) = 1 then
true
else
false)
set_option maxRecDepth 100000 in
set_option maxHeartbeats 4000000 in
theorem c_X6_hasBit {G : mG} {g : (Nat → Nat → Int32)} {b : Bool} {a1 : Int32} {a2 : Int32} {R : Bool} (e : f_X6_hasBit a1 a2 = R) : MC G mX6_hasBit 0 0 0 [.int a1, .int a2] (m_h g b) (some (.int (m_bi R))) (m_h g b) := by
  refine MC_intro mlX6_hasBit (Nat.le_of_ble_eq_true rfl) (m_okZ _) rfl trivial ?_
  unfold f_X6_hasBit at e
  refine r_iload_n dX6_hasBit_0 rfl rfl ?_
  refine r_iload_n dX6_hasBit_1 rfl rfl ?_
  refine q_ishr dX6_hasBit_2 ?_
  refine r_iconst (x := 1) dX6_hasBit_3 (by decide) ?_
  refine r_iand dX6_hasBit_4 ?_
  refine r_iconst (x := 1) dX6_hasBit_5 (by decide) ?_
  refine r_icmp_ne (tgt := 13) dX6_hasBit_6 (by decide) (fun h1 => ?_) (fun h1 => ?_)
  · have e := g_iF h1 e
    refine r_iconst (x := 0) dX6_hasBit_13 (by decide) ?_
    subst e
    exact r_ret dX6_hasBit_14 rfl rfl
  · have e := g_iT h1 e
    refine r_iconst (x := 1) dX6_hasBit_9 (by decide) ?_
    refine r_goto (tgt := 14) dX6_hasBit_10 (by decide) ?_
    subst e
    exact r_ret dX6_hasBit_14 rfl rfl
/-! X6_isPlain -/
def f_X6_isPlain (g : (Nat → Nat → Int32)) (b : Bool) (a1 : Int32) (a2 : Int32) : Option Bool :=
  ((f_X6_columnAt g b a1 a2).bind fun v1 =>
(m_oc v1
(some false)
(fun q3 =>
(if m_S0[q3]? = some (.inl 0) then
(if (g q3 0) = 1 then
((f_X6_tableAt g b (g q3 1)).bind fun v8 =>
(if (g q3 2) = 0 then
(m_oc v8
(some false)
(fun q11 =>
(if m_S0[q11]? = some (.inl 4) then
((f_X4_turnsKeys g b q11).bind fun v13 =>
(bif v13 then
some false
else
some true)) else none)))
else
some false))
else
(if (g q3 2) = 0 then
some true
else
(if (g q3 2) = 3 then
some true
else
some false))) else none))))
set_option maxRecDepth 100000 in
set_option maxHeartbeats 4000000 in
theorem c_X6_isPlain {G : mG} {g : (Nat → Nat → Int32)} {b : Bool} {a1 : Int32} {a2 : Int32} {R : Bool} (e : f_X6_isPlain g b a1 a2 = some R) : MC G mX6_isPlain 2 0 0 [.ref 0, .int a1, .int a2] (m_h g b) (some (.int (m_bi R))) (m_h g b) := by
  refine MC_intro mlX6_isPlain (Nat.le_of_ble_eq_true rfl) (m_okZ _) rfl trivial ?_
  unfold f_X6_isPlain at e
  refine r_aload_n dX6_isPlain_0 rfl rfl ?_
  refine r_iload_n dX6_isPlain_1 rfl rfl ?_
  refine r_iload_n dX6_isPlain_2 rfl rfl ?_
  obtain ⟨v1, h2, e⟩ := g_bd e
  refine q_callV (rest := []) (c_X6_columnAt h2) dX6_isPlain_3 lkX6_99 rfl rfl rfl rfl (Nat.le_of_ble_eq_true rfl) (by decide) ?_
  refine r_astore_nO dX6_isPlain_6 rfl (by decide) rfl ?_
  refine r_aload_nO dX6_isPlain_7 rfl rfl ?_
  cases v1 with
  | none =>
    have e := g_oN e
    refine r_ifnonnullN (tgt := 13) dX6_isPlain_8 (by decide) ?_
    refine r_iconst (x := 0) dX6_isPlain_11 (by decide) ?_
    have e := Option.some.inj e
    subst e
    exact r_ret dX6_isPlain_12 rfl rfl
  | some q3 =>
    have e := g_oS e
    refine r_ifnonnull (tgt := 13) dX6_isPlain_8 (by decide) ?_
    refine r_aload_n dX6_isPlain_13 rfl rfl ?_
    obtain ⟨h4, e⟩ := g_gd e
    refine q_geti dX6_isPlain_14 flX6_103 rfl h4 ?_
    refine r_iconst (x := 1) dX6_isPlain_17 (by decide) ?_
    refine r_icmp_ne (tgt := 57) dX6_isPlain_18 (by decide) (fun h5 => ?_) (fun h5 => ?_)
    · have e := g_iF h5 e
      refine r_aload_n dX6_isPlain_57 rfl rfl ?_
      refine q_geti dX6_isPlain_58 flX6_118 rfl h4 ?_
      refine r_if_eq (tgt := 72) dX6_isPlain_61 (by decide) (fun h6 => ?_) (fun h6 => ?_)
      · have e := g_iT h6 e
        refine r_iconst (x := 1) dX6_isPlain_72 (by decide) ?_
        refine r_goto (tgt := 77) dX6_isPlain_73 (by decide) ?_
        have e := Option.some.inj e
        subst e
        exact r_ret dX6_isPlain_77 rfl rfl
      · have e := g_iF h6 e
        refine r_aload_n dX6_isPlain_64 rfl rfl ?_
        refine q_geti dX6_isPlain_65 flX6_118 rfl h4 ?_
        refine r_iconst (x := 3) dX6_isPlain_68 (by decide) ?_
        refine r_icmp_ne (tgt := 76) dX6_isPlain_69 (by decide) (fun h7 => ?_) (fun h7 => ?_)
        · have e := g_iF h7 e
          refine r_iconst (x := 0) dX6_isPlain_76 (by decide) ?_
          have e := Option.some.inj e
          subst e
          exact r_ret dX6_isPlain_77 rfl rfl
        · have e := g_iT h7 e
          refine r_iconst (x := 1) dX6_isPlain_72 (by decide) ?_
          refine r_goto (tgt := 77) dX6_isPlain_73 (by decide) ?_
          have e := Option.some.inj e
          subst e
          exact r_ret dX6_isPlain_77 rfl rfl
    · have e := g_iT h5 e
      refine r_aload_n dX6_isPlain_21 rfl rfl ?_
      refine r_aload_n dX6_isPlain_22 rfl rfl ?_
      refine q_geti dX6_isPlain_23 flX6_146 rfl h4 ?_
      obtain ⟨v8, h9, e⟩ := g_bd e
      refine q_callV (rest := []) (c_X6_tableAt h9) dX6_isPlain_26 lkX6_73 rfl rfl rfl rfl (Nat.le_of_ble_eq_true rfl) (by decide) ?_
      refine r_astoreO dX6_isPlain_29 (by decide) rfl ?_
      refine r_aload_n dX6_isPlain_31 rfl rfl ?_
      refine q_geti dX6_isPlain_32 flX6_118 rfl h4 ?_
      refine r_if_ne (tgt := 55) dX6_isPlain_35 (by decide) (fun h10 => ?_) (fun h10 => ?_)
      · have e := g_iF h10 e
        refine r_iconst (x := 0) dX6_isPlain_55 (by decide) ?_
        have e := Option.some.inj e
        subst e
        exact r_ret dX6_isPlain_56 rfl rfl
      · have e := g_iT h10 e
        refine r_aloadO dX6_isPlain_38 rfl ?_
        cases v8 with
        | none =>
          have e := g_oN e
          refine r_ifnullN (tgt := 55) dX6_isPlain_40 (by decide) ?_
          refine r_iconst (x := 0) dX6_isPlain_55 (by decide) ?_
          have e := Option.some.inj e
          subst e
          exact r_ret dX6_isPlain_56 rfl rfl
        | some q11 =>
          have e := g_oS e
          refine r_ifnull (tgt := 55) dX6_isPlain_40 (by decide) ?_
          refine r_aload dX6_isPlain_43 rfl ?_
          obtain ⟨h12, e⟩ := g_gd e
          obtain ⟨v13, h14, e⟩ := g_bd e
          refine q_callV (rest := []) (c_X4_turnsKeys h14) dX6_isPlain_45 lkX6_279 h12 rfl rfl rfl (Nat.le_of_ble_eq_true rfl) (by decide) ?_
          refine r_ifneB (tgt := 55) dX6_isPlain_48 (by decide) (fun h15 => ?_) (fun h15 => ?_)
          · have e := g_cT h15 e
            refine r_iconst (x := 0) dX6_isPlain_55 (by decide) ?_
            have e := Option.some.inj e
            subst e
            exact r_ret dX6_isPlain_56 rfl rfl
          · have e := g_cF h15 e
            refine r_iconst (x := 1) dX6_isPlain_51 (by decide) ?_
            refine r_goto (tgt := 56) dX6_isPlain_52 (by decide) ?_
            have e := Option.some.inj e
            subst e
            exact r_ret dX6_isPlain_56 rfl rfl
/-! X6_looksSame -/
def lp_X6_looksSame_3 (g : (Nat → Nat → Int32)) (b : Bool) (a1 : Int32) (a2 : Int32) (a3 : Int32) (a4 : Int32) : Nat → Int32 → Option Bool
  | 0, _ => none
  | n + 1, y3_5 =>
  ((f_X6_columnsOf g b a1).bind fun v3001 =>
(if v3001 ≤ y3_5 then
some true
else
(bif (f_X6_hasBit a4 y3_5) then
((f_X6_isPlain g b a1 y3_5).bind fun v3005 =>
(bif v3005 then
(if m_S0[(m_pD b)]? = some (.inl 1) then
((f_X1_read g b (m_pD b) a1 a3 y3_5).bind fun v3009 =>
((f_X1_read g b (m_pD b) a1 a2 y3_5).bind fun v3011 =>
(if v3009 = v3011 then
lp_X6_looksSame_3 g b a1 a2 a3 a4 n (y3_5 + 1)
else
some false))) else none)
else
lp_X6_looksSame_3 g b a1 a2 a3 a4 n (y3_5 + 1)))
else
lp_X6_looksSame_3 g b a1 a2 a3 a4 n (y3_5 + 1))))
def f_X6_looksSame (g : (Nat → Nat → Int32)) (b : Bool) (a1 : Int32) (a2 : Int32) (a3 : Int32) (a4 : Int32) : Option Bool :=
  lp_X6_looksSame_3 g b a1 a2 a3 a4 2000 0
set_option maxRecDepth 100000 in
set_option maxHeartbeats 4000000 in
theorem w_X6_looksSame_3 {G : mG} {g : (Nat → Nat → Int32)} {b : Bool} {a1 : Int32} {a2 : Int32} {a3 : Int32} {a4 : Int32} : ∀ (n : Nat) (y3_5 : Int32) (R : Bool), lp_X6_looksSame_3 g b a1 a2 a3 a4 n y3_5 = some R → MW G mX6_looksSame 3 0 0 3 [.ref 0, .int a1, .int a2, .int a3, .int a4, .int y3_5] [] (m_h g b) (some (.int (m_bi R))) (m_h g b)
  | 0, _, R, e => absurd (show (none : Option Bool) = some R from e) (fun h => by cases h)
  | n + 1, y3_5, R, e => by
    rw [lp_X6_looksSame_3] at e
    refine r_iload dX6_looksSame_3 rfl ?_
    refine r_aload_n dX6_looksSame_5 rfl rfl ?_
    refine r_iload_n dX6_looksSame_6 rfl rfl ?_
    obtain ⟨v3001, h3002, e⟩ := g_bd e
    refine q_callV (rest := [.int y3_5]) (c_X6_columnsOf h3002) dX6_looksSame_7 lkX6_249 rfl rfl rfl rfl (Nat.le_of_ble_eq_true rfl) (by decide) ?_
    refine r_icmp_ge (tgt := 66) dX6_looksSame_10 (by decide) (fun h3003 => ?_) (fun h3003 => ?_)
    · have e := g_iT h3003 e
      refine r_iconst (x := 1) dX6_looksSame_66 (by decide) ?_
      have e := Option.some.inj e
      subst e
      exact r_ret dX6_looksSame_67 rfl rfl
    · have e := g_iF h3003 e
      refine r_iload dX6_looksSame_13 rfl ?_
      refine r_iload dX6_looksSame_15 rfl ?_
      refine q_callS (rest := []) (c_X6_hasBit rfl) dX6_looksSame_17 lkX6_220 rfl rfl (Nat.le_of_ble_eq_true rfl) (by decide) ?_
      refine r_ifeqB (tgt := 60) dX6_looksSame_20 (by decide) (fun h3004 => ?_) (fun h3004 => ?_)
      · have e := g_cF h3004 e
        refine r_iinc (y := 1) dX6_looksSame_60 rfl (by decide) (by decide) rfl ?_
        refine r_goto (tgt := 3) dX6_looksSame_63 (by decide) ?_
        exact w_X6_looksSame_3 n _ R e
      · have e := g_cT h3004 e
        refine r_aload_n dX6_looksSame_23 rfl rfl ?_
        refine r_iload_n dX6_looksSame_24 rfl rfl ?_
        refine r_iload dX6_looksSame_25 rfl ?_
        obtain ⟨v3005, h3006, e⟩ := g_bd e
        refine q_callV (rest := []) (c_X6_isPlain h3006) dX6_looksSame_27 lkX6_346 rfl rfl rfl rfl (Nat.le_of_ble_eq_true rfl) (by decide) ?_
        refine r_ifeqB (tgt := 60) dX6_looksSame_30 (by decide) (fun h3007 => ?_) (fun h3007 => ?_)
        · have e := g_cF h3007 e
          refine r_iinc (y := 1) dX6_looksSame_60 rfl (by decide) (by decide) rfl ?_
          refine r_goto (tgt := 3) dX6_looksSame_63 (by decide) ?_
          exact w_X6_looksSame_3 n _ R e
        · have e := g_cT h3007 e
          refine r_aload_n dX6_looksSame_33 rfl rfl ?_
          refine q_getr dX6_looksSame_34 flX6_51 rfl rfl (m_fr_0_7 _) ?_
          refine r_iload_n dX6_looksSame_37 rfl rfl ?_
          refine r_iload_n dX6_looksSame_38 rfl rfl ?_
          refine r_iload dX6_looksSame_39 rfl ?_
          obtain ⟨h3008, e⟩ := g_gd e
          obtain ⟨v3009, h3010, e⟩ := g_bd e
          refine q_callV (rest := []) (c_X1_read h3010) dX6_looksSame_41 lkX6_180 h3008 rfl rfl rfl (Nat.le_of_ble_eq_true rfl) (by decide) ?_
          refine r_aload_n dX6_looksSame_44 rfl rfl ?_
          refine q_getr dX6_looksSame_45 flX6_51 rfl rfl (m_fr_0_7 _) ?_
          refine r_iload_n dX6_looksSame_48 rfl rfl ?_
          refine r_iload_n dX6_looksSame_49 rfl rfl ?_
          refine r_iload dX6_looksSame_50 rfl ?_
          obtain ⟨v3011, h3012, e⟩ := g_bd e
          refine q_callV (rest := [.int v3009]) (c_X1_read h3012) dX6_looksSame_52 lkX6_180 h3008 rfl rfl rfl (Nat.le_of_ble_eq_true rfl) (by decide) ?_
          refine r_icmp_eq (tgt := 60) dX6_looksSame_55 (by decide) (fun h3013 => ?_) (fun h3013 => ?_)
          · have e := g_iT h3013 e
            refine r_iinc (y := 1) dX6_looksSame_60 rfl (by decide) (by decide) rfl ?_
            refine r_goto (tgt := 3) dX6_looksSame_63 (by decide) ?_
            exact w_X6_looksSame_3 n _ R e
          · have e := g_iF h3013 e
            refine r_iconst (x := 0) dX6_looksSame_58 (by decide) ?_
            have e := Option.some.inj e
            subst e
            exact r_ret dX6_looksSame_59 rfl rfl
set_option maxRecDepth 100000 in
set_option maxHeartbeats 4000000 in
theorem c_X6_looksSame {G : mG} {g : (Nat → Nat → Int32)} {b : Bool} {a1 : Int32} {a2 : Int32} {a3 : Int32} {a4 : Int32} {R : Bool} (e : f_X6_looksSame g b a1 a2 a3 a4 = some R) : MC G mX6_looksSame 3 0 0 [.ref 0, .int a1, .int a2, .int a3, .int a4] (m_h g b) (some (.int (m_bi R))) (m_h g b) := by
  refine MC_intro mlX6_looksSame (Nat.le_of_ble_eq_true rfl) (m_okZ _) rfl trivial ?_
  unfold f_X6_looksSame at e
  refine r_iconst (x := 0) dX6_looksSame_0 (by decide) ?_
  refine r_istore dX6_looksSame_1 (by decide) rfl ?_
  exact w_X6_looksSame_3 2000 _ R e
/-! X6_movesSame -/
def lp_X6_movesSame_16 (g : (Nat → Nat → Int32)) (b : Bool) (a1 : Int32) (a2 : Int32) (a3 : Int32) (a4 : Int32) (v1 : (Option Nat)) : Nat → Int32 → Int32 → Int32 → Option Bool
  | 0, _, _, _ => none
  | n + 1, y16_6, y16_7, y16_8 =>
  ((f_X6_columnsOf g b a1).bind fun v16001 =>
(if v16001 ≤ y16_8 then
some true
else
(m_oc v1
(lp_X6_movesSame_16 g b a1 a2 a3 a4 v1 n y16_6 y16_7 (y16_8 + 1))
(fun q16004 =>
(bif (f_X6_hasBit a4 y16_8) then
(if m_S0[q16004]? = some (.inl 4) then
((f_X4_isShifted g b q16004 y16_8).bind fun v16007 =>
(bif v16007 then
((f_X1_read g b 4 a1 a2 y16_8).bind fun v16010 =>
(if m_S0[(m_pD b)]? = some (.inl 1) then
((f_X1_read g b (m_pD b) a1 a3 y16_8).bind fun v16013 =>
(if v16010 = (-2147483648) then
(if v16013 = (-2147483648) then
lp_X6_movesSame_16 g b a1 a2 a3 a4 v1 n y16_6 y16_7 (y16_8 + 1)
else
(if v16010 = (-2147483648) then
some false
else
(if v16013 = (-2147483648) then
some false
else
(if y16_6 = 0 then
lp_X6_movesSame_16 g b a1 a2 a3 a4 v1 n 1 (v16013 - v16010) (y16_8 + 1)
else
(if (v16013 - v16010) = y16_7 then
lp_X6_movesSame_16 g b a1 a2 a3 a4 v1 n 1 (v16013 - v16010) (y16_8 + 1)
else
some false)))))
else
(if v16010 = (-2147483648) then
some false
else
(if v16013 = (-2147483648) then
some false
else
(if y16_6 = 0 then
lp_X6_movesSame_16 g b a1 a2 a3 a4 v1 n 1 (v16013 - v16010) (y16_8 + 1)
else
(if (v16013 - v16010) = y16_7 then
lp_X6_movesSame_16 g b a1 a2 a3 a4 v1 n 1 (v16013 - v16010) (y16_8 + 1)
else
some false)))))) else none))
else
lp_X6_movesSame_16 g b a1 a2 a3 a4 v1 n y16_6 y16_7 (y16_8 + 1))) else none)
else
lp_X6_movesSame_16 g b a1 a2 a3 a4 v1 n y16_6 y16_7 (y16_8 + 1))))))
def f_X6_movesSame (g : (Nat → Nat → Int32)) (b : Bool) (a1 : Int32) (a2 : Int32) (a3 : Int32) (a4 : Int32) : Option Bool :=
  ((f_X6_tableAt g b a1).bind fun v1 =>
lp_X6_movesSame_16 g b a1 a2 a3 a4 v1 2000 0 0 0)
set_option maxRecDepth 100000 in
set_option maxHeartbeats 4000000 in
theorem w_X6_movesSame_16 {G : mG} {g : (Nat → Nat → Int32)} {b : Bool} {a1 : Int32} {a2 : Int32} {a3 : Int32} {a4 : Int32} {v1 : (Option Nat)} : ∀ (n : Nat) (y16_6 : Int32) (y16_7 : Int32) (y16_8 : Int32) (R : Bool), lp_X6_movesSame_16 g b a1 a2 a3 a4 v1 n y16_6 y16_7 y16_8 = some R → MW G mX6_movesSame 2 0 0 16 [.ref 0, .int a1, .int a2, .int a3, .int a4, va_rf v1, .int y16_6, .int y16_7, .int y16_8, .retAddr 0, .retAddr 0] [] (m_h g b) (some (.int (m_bi R))) (m_h g b)
  | 0, _, _, _, R, e => absurd (show (none : Option Bool) = some R from e) (fun h => by cases h)
  | n + 1, y16_6, y16_7, y16_8, R, e => by
    rw [lp_X6_movesSame_16] at e
    refine r_iload dX6_movesSame_16 rfl ?_
    refine r_aload_n dX6_movesSame_18 rfl rfl ?_
    refine r_iload_n dX6_movesSame_19 rfl rfl ?_
    obtain ⟨v16001, h16002, e⟩ := g_bd e
    refine q_callV (rest := [.int y16_8]) (c_X6_columnsOf h16002) dX6_movesSame_20 lkX6_249 rfl rfl rfl rfl (Nat.le_of_ble_eq_true rfl) (by decide) ?_
    refine r_icmp_ge (tgt := 144) dX6_movesSame_23 (by decide) (fun h16003 => ?_) (fun h16003 => ?_)
    · have e := g_iT h16003 e
      refine r_iconst (x := 1) dX6_movesSame_144 (by decide) ?_
      have e := Option.some.inj e
      subst e
      exact r_ret dX6_movesSame_145 rfl rfl
    · have e := g_iF h16003 e
      refine r_aloadO dX6_movesSame_26 rfl ?_
      cases v1 with
      | none =>
        have e := g_oN e
        refine r_ifnullN (tgt := 138) dX6_movesSame_28 (by decide) ?_
        refine r_iinc (y := 1) dX6_movesSame_138 rfl (by decide) (by decide) rfl ?_
        refine r_goto (tgt := 16) dX6_movesSame_141 (by decide) ?_
        exact w_X6_movesSame_16 n _ _ _ R e
      | some q16004 =>
        have e := g_oS e
        refine r_ifnull (tgt := 138) dX6_movesSame_28 (by decide) ?_
        refine r_iload dX6_movesSame_31 rfl ?_
        refine r_iload dX6_movesSame_33 rfl ?_
        refine q_callS (rest := []) (c_X6_hasBit rfl) dX6_movesSame_35 lkX6_220 rfl rfl (Nat.le_of_ble_eq_true rfl) (by decide) ?_
        refine r_ifeqB (tgt := 138) dX6_movesSame_38 (by decide) (fun h16005 => ?_) (fun h16005 => ?_)
        · have e := g_cF h16005 e
          refine r_iinc (y := 1) dX6_movesSame_138 rfl (by decide) (by decide) rfl ?_
          refine r_goto (tgt := 16) dX6_movesSame_141 (by decide) ?_
          exact w_X6_movesSame_16 n _ _ _ R e
        · have e := g_cT h16005 e
          refine r_aload dX6_movesSame_41 rfl ?_
          refine r_iload dX6_movesSame_43 rfl ?_
          obtain ⟨h16006, e⟩ := g_gd e
          obtain ⟨v16007, h16008, e⟩ := g_bd e
          refine q_callV (rest := []) (c_X4_isShifted h16008) dX6_movesSame_45 lkX6_298 h16006 rfl rfl rfl (Nat.le_of_ble_eq_true rfl) (by decide) ?_
          refine r_ifneB (tgt := 54) dX6_movesSame_48 (by decide) (fun h16009 => ?_) (fun h16009 => ?_)
          · have e := g_cT h16009 e
            refine r_aload_n dX6_movesSame_54 rfl rfl ?_
            refine q_getr dX6_movesSame_55 flX6_30 rfl rfl (m_fr_0_3 _) ?_
            refine r_iload_n dX6_movesSame_58 rfl rfl ?_
            refine r_iload_n dX6_movesSame_59 rfl rfl ?_
            refine r_iload dX6_movesSame_60 rfl ?_
            obtain ⟨v16010, h16011, e⟩ := g_bd e
            refine q_callV (rest := []) (c_X1_read h16011) dX6_movesSame_62 lkX6_180 rfl rfl rfl rfl (Nat.le_of_ble_eq_true rfl) (by decide) ?_
            refine r_istore dX6_movesSame_65 (by decide) rfl ?_
            refine r_aload_n dX6_movesSame_67 rfl rfl ?_
            refine q_getr dX6_movesSame_68 flX6_51 rfl rfl (m_fr_0_7 _) ?_
            refine r_iload_n dX6_movesSame_71 rfl rfl ?_
            refine r_iload_n dX6_movesSame_72 rfl rfl ?_
            refine r_iload dX6_movesSame_73 rfl ?_
            obtain ⟨h16012, e⟩ := g_gd e
            obtain ⟨v16013, h16014, e⟩ := g_bd e
            refine q_callV (rest := []) (c_X1_read h16014) dX6_movesSame_75 lkX6_180 h16012 rfl rfl rfl (Nat.le_of_ble_eq_true rfl) (by decide) ?_
            refine r_istore dX6_movesSame_78 (by decide) rfl ?_
            refine r_iload dX6_movesSame_80 rfl ?_
            refine r_ldc (x := (-2147483648)) dX6_movesSame_82 kcX6_179 ?_
            refine r_icmp_ne (tgt := 97) dX6_movesSame_84 (by decide) (fun h16015 => ?_) (fun h16015 => ?_)
            · have e := g_iF h16015 e
              refine r_iload dX6_movesSame_97 rfl ?_
              refine r_ldc (x := (-2147483648)) dX6_movesSame_99 kcX6_179 ?_
              refine r_icmp_eq (tgt := 126) dX6_movesSame_101 (by decide) (fun h16016 => ?_) (fun h16016 => ?_)
              · have e := g_iT h16016 e
                refine r_iconst (x := 0) dX6_movesSame_126 (by decide) ?_
                have e := Option.some.inj e
                subst e
                exact r_ret dX6_movesSame_127 rfl rfl
              · have e := g_iF h16016 e
                refine r_iload dX6_movesSame_104 rfl ?_
                refine r_ldc (x := (-2147483648)) dX6_movesSame_106 kcX6_179 ?_
                refine r_icmp_eq (tgt := 126) dX6_movesSame_108 (by decide) (fun h16017 => ?_) (fun h16017 => ?_)
                · have e := g_iT h16017 e
                  refine r_iconst (x := 0) dX6_movesSame_126 (by decide) ?_
                  have e := Option.some.inj e
                  subst e
                  exact r_ret dX6_movesSame_127 rfl rfl
                · have e := g_iF h16017 e
                  refine r_iload dX6_movesSame_111 rfl ?_
                  refine r_if_eq (tgt := 128) dX6_movesSame_113 (by decide) (fun h16018 => ?_) (fun h16018 => ?_)
                  · have e := g_iT h16018 e
                    refine r_iconst (x := 1) dX6_movesSame_128 (by decide) ?_
                    refine r_istore dX6_movesSame_129 (by decide) rfl ?_
                    refine r_iload dX6_movesSame_131 rfl ?_
                    refine r_iload dX6_movesSame_133 rfl ?_
                    refine r_isub dX6_movesSame_135 ?_
                    refine r_istore dX6_movesSame_136 (by decide) rfl ?_
                    refine r_iinc (y := 1) dX6_movesSame_138 rfl (by decide) (by decide) rfl ?_
                    refine r_goto (tgt := 16) dX6_movesSame_141 (by decide) ?_
                    refine r_forget 9 rfl ?_
                    refine r_forget 10 rfl ?_
                    exact w_X6_movesSame_16 n _ _ _ R e
                  · have e := g_iF h16018 e
                    refine r_iload dX6_movesSame_116 rfl ?_
                    refine r_iload dX6_movesSame_118 rfl ?_
                    refine r_isub dX6_movesSame_120 ?_
                    refine r_iload dX6_movesSame_121 rfl ?_
                    refine r_icmp_eq (tgt := 128) dX6_movesSame_123 (by decide) (fun h16019 => ?_) (fun h16019 => ?_)
                    · have e := g_iT h16019 e
                      refine r_iconst (x := 1) dX6_movesSame_128 (by decide) ?_
                      refine r_istore dX6_movesSame_129 (by decide) rfl ?_
                      refine r_iload dX6_movesSame_131 rfl ?_
                      refine r_iload dX6_movesSame_133 rfl ?_
                      refine r_isub dX6_movesSame_135 ?_
                      refine r_istore dX6_movesSame_136 (by decide) rfl ?_
                      refine r_iinc (y := 1) dX6_movesSame_138 rfl (by decide) (by decide) rfl ?_
                      refine r_goto (tgt := 16) dX6_movesSame_141 (by decide) ?_
                      refine r_forget 9 rfl ?_
                      refine r_forget 10 rfl ?_
                      exact w_X6_movesSame_16 n _ _ _ R e
                    · have e := g_iF h16019 e
                      refine r_iconst (x := 0) dX6_movesSame_126 (by decide) ?_
                      have e := Option.some.inj e
                      subst e
                      exact r_ret dX6_movesSame_127 rfl rfl
            · have e := g_iT h16015 e
              refine r_iload dX6_movesSame_87 rfl ?_
              refine r_ldc (x := (-2147483648)) dX6_movesSame_89 kcX6_179 ?_
              refine r_icmp_ne (tgt := 97) dX6_movesSame_91 (by decide) (fun h16020 => ?_) (fun h16020 => ?_)
              · have e := g_iF h16020 e
                refine r_iload dX6_movesSame_97 rfl ?_
                refine r_ldc (x := (-2147483648)) dX6_movesSame_99 kcX6_179 ?_
                refine r_icmp_eq (tgt := 126) dX6_movesSame_101 (by decide) (fun h16021 => ?_) (fun h16021 => ?_)
                · have e := g_iT h16021 e
                  refine r_iconst (x := 0) dX6_movesSame_126 (by decide) ?_
                  have e := Option.some.inj e
                  subst e
                  exact r_ret dX6_movesSame_127 rfl rfl
                · have e := g_iF h16021 e
                  refine r_iload dX6_movesSame_104 rfl ?_
                  refine r_ldc (x := (-2147483648)) dX6_movesSame_106 kcX6_179 ?_
                  refine r_icmp_eq (tgt := 126) dX6_movesSame_108 (by decide) (fun h16022 => ?_) (fun h16022 => ?_)
                  · have e := g_iT h16022 e
                    refine r_iconst (x := 0) dX6_movesSame_126 (by decide) ?_
                    have e := Option.some.inj e
                    subst e
                    exact r_ret dX6_movesSame_127 rfl rfl
                  · have e := g_iF h16022 e
                    refine r_iload dX6_movesSame_111 rfl ?_
                    refine r_if_eq (tgt := 128) dX6_movesSame_113 (by decide) (fun h16023 => ?_) (fun h16023 => ?_)
                    · have e := g_iT h16023 e
                      refine r_iconst (x := 1) dX6_movesSame_128 (by decide) ?_
                      refine r_istore dX6_movesSame_129 (by decide) rfl ?_
                      refine r_iload dX6_movesSame_131 rfl ?_
                      refine r_iload dX6_movesSame_133 rfl ?_
                      refine r_isub dX6_movesSame_135 ?_
                      refine r_istore dX6_movesSame_136 (by decide) rfl ?_
                      refine r_iinc (y := 1) dX6_movesSame_138 rfl (by decide) (by decide) rfl ?_
                      refine r_goto (tgt := 16) dX6_movesSame_141 (by decide) ?_
                      refine r_forget 9 rfl ?_
                      refine r_forget 10 rfl ?_
                      exact w_X6_movesSame_16 n _ _ _ R e
                    · have e := g_iF h16023 e
                      refine r_iload dX6_movesSame_116 rfl ?_
                      refine r_iload dX6_movesSame_118 rfl ?_
                      refine r_isub dX6_movesSame_120 ?_
                      refine r_iload dX6_movesSame_121 rfl ?_
                      refine r_icmp_eq (tgt := 128) dX6_movesSame_123 (by decide) (fun h16024 => ?_) (fun h16024 => ?_)
                      · have e := g_iT h16024 e
                        refine r_iconst (x := 1) dX6_movesSame_128 (by decide) ?_
                        refine r_istore dX6_movesSame_129 (by decide) rfl ?_
                        refine r_iload dX6_movesSame_131 rfl ?_
                        refine r_iload dX6_movesSame_133 rfl ?_
                        refine r_isub dX6_movesSame_135 ?_
                        refine r_istore dX6_movesSame_136 (by decide) rfl ?_
                        refine r_iinc (y := 1) dX6_movesSame_138 rfl (by decide) (by decide) rfl ?_
                        refine r_goto (tgt := 16) dX6_movesSame_141 (by decide) ?_
                        refine r_forget 9 rfl ?_
                        refine r_forget 10 rfl ?_
                        exact w_X6_movesSame_16 n _ _ _ R e
                      · have e := g_iF h16024 e
                        refine r_iconst (x := 0) dX6_movesSame_126 (by decide) ?_
                        have e := Option.some.inj e
                        subst e
                        exact r_ret dX6_movesSame_127 rfl rfl
              · have e := g_iT h16020 e
                refine r_goto (tgt := 138) dX6_movesSame_94 (by decide) ?_
                refine r_iinc (y := 1) dX6_movesSame_138 rfl (by decide) (by decide) rfl ?_
                refine r_goto (tgt := 16) dX6_movesSame_141 (by decide) ?_
                refine r_forget 9 rfl ?_
                refine r_forget 10 rfl ?_
                exact w_X6_movesSame_16 n _ _ _ R e
          · have e := g_cF h16009 e
            refine r_goto (tgt := 138) dX6_movesSame_51 (by decide) ?_
            refine r_iinc (y := 1) dX6_movesSame_138 rfl (by decide) (by decide) rfl ?_
            refine r_goto (tgt := 16) dX6_movesSame_141 (by decide) ?_
            exact w_X6_movesSame_16 n _ _ _ R e
set_option maxRecDepth 100000 in
set_option maxHeartbeats 4000000 in
theorem c_X6_movesSame {G : mG} {g : (Nat → Nat → Int32)} {b : Bool} {a1 : Int32} {a2 : Int32} {a3 : Int32} {a4 : Int32} {R : Bool} (e : f_X6_movesSame g b a1 a2 a3 a4 = some R) : MC G mX6_movesSame 2 0 0 [.ref 0, .int a1, .int a2, .int a3, .int a4] (m_h g b) (some (.int (m_bi R))) (m_h g b) := by
  refine MC_intro mlX6_movesSame (Nat.le_of_ble_eq_true rfl) (m_okZ _) rfl trivial ?_
  unfold f_X6_movesSame at e
  refine r_aload_n dX6_movesSame_0 rfl rfl ?_
  refine r_iload_n dX6_movesSame_1 rfl rfl ?_
  obtain ⟨v1, h2, e⟩ := g_bd e
  refine q_callV (rest := []) (c_X6_tableAt h2) dX6_movesSame_2 lkX6_73 rfl rfl rfl rfl (Nat.le_of_ble_eq_true rfl) (by decide) ?_
  refine r_astoreO dX6_movesSame_5 (by decide) rfl ?_
  refine r_iconst (x := 0) dX6_movesSame_7 (by decide) ?_
  refine r_istore dX6_movesSame_8 (by decide) rfl ?_
  refine r_iconst (x := 0) dX6_movesSame_10 (by decide) ?_
  refine r_istore dX6_movesSame_11 (by decide) rfl ?_
  refine r_iconst (x := 0) dX6_movesSame_13 (by decide) ?_
  refine r_istore dX6_movesSame_14 (by decide) rfl ?_
  exact w_X6_movesSame_16 2000 _ _ _ R e
/-! X6_couldSet -/
def lp_X6_couldSet_6 (g : (Nat → Nat → Int32)) (b : Bool) (a1 : Int32) (a2 : Int32) (a3 : Int32) : Nat → Int32 → Int32 → Option Int32
  | 0, _, _ => none
  | n + 1, y6_4, y6_5 =>
  ((f_X6_rowsOf g b a1).bind fun v6001 =>
(if v6001 ≤ y6_5 then
some y6_4
else
((f_X6_looksSame g b a1 a2 y6_5 a3).bind fun v6004 =>
(bif v6004 then
((f_X6_movesSame g b a1 a2 y6_5 a3).bind fun v6007 =>
(bif v6007 then
lp_X6_couldSet_6 g b a1 a2 a3 n (y6_4 ||| (m_shl 1 y6_5)) (y6_5 + 1)
else
lp_X6_couldSet_6 g b a1 a2 a3 n y6_4 (y6_5 + 1)))
else
lp_X6_couldSet_6 g b a1 a2 a3 n y6_4 (y6_5 + 1)))))
def f_X6_couldSet (g : (Nat → Nat → Int32)) (b : Bool) (a1 : Int32) (a2 : Int32) (a3 : Int32) : Option Int32 :=
  lp_X6_couldSet_6 g b a1 a2 a3 2000 0 0
set_option maxRecDepth 100000 in
set_option maxHeartbeats 4000000 in
theorem w_X6_couldSet_6 {G : mG} {g : (Nat → Nat → Int32)} {b : Bool} {a1 : Int32} {a2 : Int32} {a3 : Int32} : ∀ (n : Nat) (y6_4 : Int32) (y6_5 : Int32) (R : Int32), lp_X6_couldSet_6 g b a1 a2 a3 n y6_4 y6_5 = some R → MW G mX6_couldSet 4 0 0 6 [.ref 0, .int a1, .int a2, .int a3, .int y6_4, .int y6_5] [] (m_h g b) (some (.int R)) (m_h g b)
  | 0, _, _, R, e => absurd (show (none : Option Int32) = some R from e) (fun h => by cases h)
  | n + 1, y6_4, y6_5, R, e => by
    rw [lp_X6_couldSet_6] at e
    refine r_iload dX6_couldSet_6 rfl ?_
    refine r_aload_n dX6_couldSet_8 rfl rfl ?_
    refine r_iload_n dX6_couldSet_9 rfl rfl ?_
    obtain ⟨v6001, h6002, e⟩ := g_bd e
    refine q_callV (rest := [.int y6_5]) (c_X6_rowsOf h6002) dX6_couldSet_10 lkX6_200 rfl rfl rfl rfl (Nat.le_of_ble_eq_true rfl) (by decide) ?_
    refine r_icmp_ge (tgt := 55) dX6_couldSet_13 (by decide) (fun h6003 => ?_) (fun h6003 => ?_)
    · have e := g_iT h6003 e
      refine r_iload dX6_couldSet_55 rfl ?_
      have e := Option.some.inj e
      subst e
      exact r_ret dX6_couldSet_57 rfl rfl
    · have e := g_iF h6003 e
      refine r_aload_n dX6_couldSet_16 rfl rfl ?_
      refine r_iload_n dX6_couldSet_17 rfl rfl ?_
      refine r_iload_n dX6_couldSet_18 rfl rfl ?_
      refine r_iload dX6_couldSet_19 rfl ?_
      refine r_iload_n dX6_couldSet_21 rfl rfl ?_
      obtain ⟨v6004, h6005, e⟩ := g_bd e
      refine q_callV (rest := []) (c_X6_looksSame h6005) dX6_couldSet_22 lkX6_339 rfl rfl rfl rfl (Nat.le_of_ble_eq_true rfl) (by decide) ?_
      refine r_ifeqB (tgt := 49) dX6_couldSet_25 (by decide) (fun h6006 => ?_) (fun h6006 => ?_)
      · have e := g_cF h6006 e
        refine r_iinc (y := 1) dX6_couldSet_49 rfl (by decide) (by decide) rfl ?_
        refine r_goto (tgt := 6) dX6_couldSet_52 (by decide) ?_
        exact w_X6_couldSet_6 n _ _ R e
      · have e := g_cT h6006 e
        refine r_aload_n dX6_couldSet_28 rfl rfl ?_
        refine r_iload_n dX6_couldSet_29 rfl rfl ?_
        refine r_iload_n dX6_couldSet_30 rfl rfl ?_
        refine r_iload dX6_couldSet_31 rfl ?_
        refine r_iload_n dX6_couldSet_33 rfl rfl ?_
        obtain ⟨v6007, h6008, e⟩ := g_bd e
        refine q_callV (rest := []) (c_X6_movesSame h6008) dX6_couldSet_34 lkX6_343 rfl rfl rfl rfl (Nat.le_of_ble_eq_true rfl) (by decide) ?_
        refine r_ifeqB (tgt := 49) dX6_couldSet_37 (by decide) (fun h6009 => ?_) (fun h6009 => ?_)
        · have e := g_cF h6009 e
          refine r_iinc (y := 1) dX6_couldSet_49 rfl (by decide) (by decide) rfl ?_
          refine r_goto (tgt := 6) dX6_couldSet_52 (by decide) ?_
          exact w_X6_couldSet_6 n _ _ R e
        · have e := g_cT h6009 e
          refine r_iload dX6_couldSet_40 rfl ?_
          refine r_iconst (x := 1) dX6_couldSet_42 (by decide) ?_
          refine r_iload dX6_couldSet_43 rfl ?_
          refine q_ishl dX6_couldSet_45 ?_
          refine r_ior dX6_couldSet_46 ?_
          refine r_istore dX6_couldSet_47 (by decide) rfl ?_
          refine r_iinc (y := 1) dX6_couldSet_49 rfl (by decide) (by decide) rfl ?_
          refine r_goto (tgt := 6) dX6_couldSet_52 (by decide) ?_
          exact w_X6_couldSet_6 n _ _ R e
set_option maxRecDepth 100000 in
set_option maxHeartbeats 4000000 in
theorem c_X6_couldSet {G : mG} {g : (Nat → Nat → Int32)} {b : Bool} {a1 : Int32} {a2 : Int32} {a3 : Int32} {R : Int32} (e : f_X6_couldSet g b a1 a2 a3 = some R) : MC G mX6_couldSet 4 0 0 [.ref 0, .int a1, .int a2, .int a3] (m_h g b) (some (.int R)) (m_h g b) := by
  refine MC_intro mlX6_couldSet (Nat.le_of_ble_eq_true rfl) ⟨_, rfl⟩ rfl trivial ?_
  unfold f_X6_couldSet at e
  refine r_iconst (x := 0) dX6_couldSet_0 (by decide) ?_
  refine r_istore dX6_couldSet_1 (by decide) rfl ?_
  refine r_iconst (x := 0) dX6_couldSet_3 (by decide) ?_
  refine r_istore dX6_couldSet_4 (by decide) rfl ?_
  exact w_X6_couldSet_6 2000 _ _ R e
/-! X6_could -/
def f_X6_could (g : (Nat → Nat → Int32)) (b : Bool) (a1 : Int32) (a2 : Int32) (a3 : Int32) : Option (Int32 × (Nat → Nat → Int32)) :=
  ((f_X6_isRow g b a1 a2).bind fun v1 =>
(bif v1 then
((f_X6_areColumns g b a1 a3).bind fun v4 =>
(bif v4 then
((f_X6_draftMasked g b a1).bind fun v7 =>
((f_X6_couldSet v7 b a1 a2 a3).bind fun v9 =>
some ((f_J6_bitCount v9), v7)))
else
some ((-2), g)))
else
some ((-1), g)))
set_option maxRecDepth 100000 in
set_option maxHeartbeats 4000000 in
theorem c_X6_could {G : mG} {g : (Nat → Nat → Int32)} {b : Bool} {a1 : Int32} {a2 : Int32} {a3 : Int32} {R : (Int32 × (Nat → Nat → Int32))} (e : f_X6_could g b a1 a2 a3 = some R) : MC G mX6_could 6 0 0 [.ref 0, .int a1, .int a2, .int a3] (m_h g b) (some (.int R.1)) (m_h R.2 b) := by
  refine MC_intro mlX6_could (Nat.le_of_ble_eq_true rfl) ⟨_, rfl⟩ rfl trivial ?_
  unfold f_X6_could at e
  refine r_aload_n dX6_could_0 rfl rfl ?_
  refine r_iload_n dX6_could_1 rfl rfl ?_
  refine r_iload_n dX6_could_2 rfl rfl ?_
  obtain ⟨v1, h2, e⟩ := g_bd e
  refine q_callV (rest := []) (c_X6_isRow h2) dX6_could_3 lkX6_176 rfl rfl rfl rfl (Nat.le_of_ble_eq_true rfl) (by decide) ?_
  refine r_ifneB (tgt := 11) dX6_could_6 (by decide) (fun h3 => ?_) (fun h3 => ?_)
  · have e := g_cT h3 e
    refine r_aload_n dX6_could_11 rfl rfl ?_
    refine r_iload_n dX6_could_12 rfl rfl ?_
    refine r_iload_n dX6_could_13 rfl rfl ?_
    obtain ⟨v4, h5, e⟩ := g_bd e
    refine q_callV (rest := []) (c_X6_areColumns h5) dX6_could_14 lkX6_208 rfl rfl rfl rfl (Nat.le_of_ble_eq_true rfl) (by decide) ?_
    refine r_ifneB (tgt := 23) dX6_could_17 (by decide) (fun h6 => ?_) (fun h6 => ?_)
    · have e := g_cT h6 e
      refine r_aload_n dX6_could_23 rfl rfl ?_
      refine r_iload_n dX6_could_24 rfl rfl ?_
      obtain ⟨v7, h8, e⟩ := g_bd e
      refine q_callV (rest := []) (c_X6_draftMasked h8) dX6_could_25 lkX6_169 rfl rfl rfl rfl (Nat.le_of_ble_eq_true rfl) (by decide) ?_
      refine r_aload_n dX6_could_28 rfl rfl ?_
      refine r_iload_n dX6_could_29 rfl rfl ?_
      refine r_iload_n dX6_could_30 rfl rfl ?_
      refine r_iload_n dX6_could_31 rfl rfl ?_
      obtain ⟨v9, h10, e⟩ := g_bd e
      refine q_callV (rest := []) (c_X6_couldSet h10) dX6_could_32 lkX6_211 rfl rfl rfl rfl (Nat.le_of_ble_eq_true rfl) (by decide) ?_
      refine q_callS (rest := []) (c_J6_bitCount rfl) dX6_could_35 lkX6_214 rfl rfl (Nat.le_of_ble_eq_true rfl) (by decide) ?_
      have e := Option.some.inj e
      subst e
      exact r_ret dX6_could_38 rfl rfl
    · have e := g_cF h6 e
      refine r_bipush (x := (-2)) dX6_could_20 (by decide) ?_
      have e := Option.some.inj e
      subst e
      exact r_ret dX6_could_22 rfl rfl
  · have e := g_cF h3 e
    refine r_iconst (x := (-1)) dX6_could_9 (by decide) ?_
    have e := Option.some.inj e
    subst e
    exact r_ret dX6_could_10 rfl rfl
/-! X6_alike -/
def lp_X6_alike_33 (b : Bool) (a1 : Int32) (a2 : Int32) (gx33 : (Nat → Nat → Int32)) : Nat → Int32 → Int32 → Option (Int32 × (Nat → Nat → Int32))
  | 0, _, _ => none
  | n + 1, y33_3, y33_4 =>
  ((f_X6_rowsOf gx33 b a1).bind fun v33001 =>
(if v33001 ≤ y33_4 then
some (y33_3, gx33)
else
((f_X6_couldSet gx33 b a1 y33_4 a2).bind fun v33004 =>
lp_X6_alike_33 b a1 a2 gx33 n (m_min y33_3 (f_J6_bitCount v33004)) (y33_4 + 1))))
def f_X6_alike (g : (Nat → Nat → Int32)) (b : Bool) (a1 : Int32) (a2 : Int32) : Option (Int32 × (Nat → Nat → Int32)) :=
  ((f_X6_rowsOf g b a1).bind fun v1 =>
(if v1 = 0 then
some ((-1), g)
else
((f_X6_areColumns g b a1 a2).bind fun v4 =>
(bif v4 then
((f_X6_draftMasked g b a1).bind fun v7 =>
lp_X6_alike_33 b a1 a2 v7 2000 12 0)
else
some ((-2), g)))))
set_option maxRecDepth 100000 in
set_option maxHeartbeats 4000000 in
theorem w_X6_alike_33 {G : mG} {b : Bool} {a1 : Int32} {a2 : Int32} {gx33 : (Nat → Nat → Int32)} : ∀ (n : Nat) (y33_3 : Int32) (y33_4 : Int32) (R : (Int32 × (Nat → Nat → Int32))), lp_X6_alike_33 b a1 a2 gx33 n y33_3 y33_4 = some R → MW G mX6_alike 6 0 0 33 [.ref 0, .int a1, .int a2, .int y33_3, .int y33_4] [] (m_h gx33 b) (some (.int R.1)) (m_h R.2 b)
  | 0, _, _, R, e => absurd (show (none : Option (Int32 × (Nat → Nat → Int32))) = some R from e) (fun h => by cases h)
  | n + 1, y33_3, y33_4, R, e => by
    rw [lp_X6_alike_33] at e
    refine r_iload dX6_alike_33 rfl ?_
    refine r_aload_n dX6_alike_35 rfl rfl ?_
    refine r_iload_n dX6_alike_36 rfl rfl ?_
    obtain ⟨v33001, h33002, e⟩ := g_bd e
    refine q_callV (rest := [.int y33_4]) (c_X6_rowsOf h33002) dX6_alike_37 lkX6_200 rfl rfl rfl rfl (Nat.le_of_ble_eq_true rfl) (by decide) ?_
    refine r_icmp_ge (tgt := 65) dX6_alike_40 (by decide) (fun h33003 => ?_) (fun h33003 => ?_)
    · have e := g_iT h33003 e
      refine r_iload_n dX6_alike_65 rfl rfl ?_
      have e := Option.some.inj e
      subst e
      exact r_ret dX6_alike_66 rfl rfl
    · have e := g_iF h33003 e
      refine r_iload_n dX6_alike_43 rfl rfl ?_
      refine r_aload_n dX6_alike_44 rfl rfl ?_
      refine r_iload_n dX6_alike_45 rfl rfl ?_
      refine r_iload dX6_alike_46 rfl ?_
      refine r_iload_n dX6_alike_48 rfl rfl ?_
      obtain ⟨v33004, h33005, e⟩ := g_bd e
      refine q_callV (rest := [.int y33_3]) (c_X6_couldSet h33005) dX6_alike_49 lkX6_211 rfl rfl rfl rfl (Nat.le_of_ble_eq_true rfl) (by decide) ?_
      refine q_callS (rest := [.int y33_3]) (c_J6_bitCount rfl) dX6_alike_52 lkX6_214 rfl rfl (Nat.le_of_ble_eq_true rfl) (by decide) ?_
      refine q_min dX6_alike_55 lkX6_217 (Nat.le_of_ble_eq_true rfl) (by decide) ?_
      refine r_istore_n dX6_alike_58 rfl (by decide) rfl ?_
      refine r_iinc (y := 1) dX6_alike_59 rfl (by decide) (by decide) rfl ?_
      refine r_goto (tgt := 33) dX6_alike_62 (by decide) ?_
      exact w_X6_alike_33 n _ _ R e
set_option maxRecDepth 100000 in
set_option maxHeartbeats 4000000 in
theorem c_X6_alike {G : mG} {g : (Nat → Nat → Int32)} {b : Bool} {a1 : Int32} {a2 : Int32} {R : (Int32 × (Nat → Nat → Int32))} (e : f_X6_alike g b a1 a2 = some R) : MC G mX6_alike 6 0 0 [.ref 0, .int a1, .int a2] (m_h g b) (some (.int R.1)) (m_h R.2 b) := by
  refine MC_intro mlX6_alike (Nat.le_of_ble_eq_true rfl) ⟨_, rfl⟩ rfl trivial ?_
  unfold f_X6_alike at e
  refine r_aload_n dX6_alike_0 rfl rfl ?_
  refine r_iload_n dX6_alike_1 rfl rfl ?_
  obtain ⟨v1, h2, e⟩ := g_bd e
  refine q_callV (rest := []) (c_X6_rowsOf h2) dX6_alike_2 lkX6_200 rfl rfl rfl rfl (Nat.le_of_ble_eq_true rfl) (by decide) ?_
  refine r_if_ne (tgt := 10) dX6_alike_5 (by decide) (fun h3 => ?_) (fun h3 => ?_)
  · have e := g_iF h3 e
    refine r_aload_n dX6_alike_10 rfl rfl ?_
    refine r_iload_n dX6_alike_11 rfl rfl ?_
    refine r_iload_n dX6_alike_12 rfl rfl ?_
    obtain ⟨v4, h5, e⟩ := g_bd e
    refine q_callV (rest := []) (c_X6_areColumns h5) dX6_alike_13 lkX6_208 rfl rfl rfl rfl (Nat.le_of_ble_eq_true rfl) (by decide) ?_
    refine r_ifneB (tgt := 22) dX6_alike_16 (by decide) (fun h6 => ?_) (fun h6 => ?_)
    · have e := g_cT h6 e
      refine r_aload_n dX6_alike_22 rfl rfl ?_
      refine r_iload_n dX6_alike_23 rfl rfl ?_
      obtain ⟨v7, h8, e⟩ := g_bd e
      refine q_callV (rest := []) (c_X6_draftMasked h8) dX6_alike_24 lkX6_169 rfl rfl rfl rfl (Nat.le_of_ble_eq_true rfl) (by decide) ?_
      refine r_bipush (x := 12) dX6_alike_27 (by decide) ?_
      refine r_istore_n dX6_alike_29 rfl (by decide) rfl ?_
      refine r_iconst (x := 0) dX6_alike_30 (by decide) ?_
      refine r_istore dX6_alike_31 (by decide) rfl ?_
      exact w_X6_alike_33 2000 _ _ R e
    · have e := g_cF h6 e
      refine r_bipush (x := (-2)) dX6_alike_19 (by decide) ?_
      have e := Option.some.inj e
      subst e
      exact r_ret dX6_alike_21 rfl rfl
  · have e := g_iT h3 e
    refine r_iconst (x := (-1)) dX6_alike_8 (by decide) ?_
    have e := Option.some.inj e
    subst e
    exact r_ret dX6_alike_9 rfl rfl
/-! X6_sure -/
def lp_X6_sure_63 (b : Bool) (a1 : Int32) (a2 : Int32) (a3 : Int32) (a4 : Int32) (x63_5 : Int32) (x63_6 : Int32) (gx63 : (Nat → Nat → Int32)) : Nat → Int32 → Option (Int32 × (Nat → Nat → Int32))
  | 0, _ => none
  | n + 1, y63_7 =>
  ((f_X6_rowsOf gx63 b a1).bind fun v63001 =>
(if v63001 ≤ y63_7 then
some (1, gx63)
else
(bif (f_X6_hasBit x63_5 y63_7) then
(if m_S0[(m_pD b)]? = some (.inl 1) then
((f_X1_read gx63 b (m_pD b) a1 y63_7 a4).bind fun v63006 =>
(if v63006 = x63_6 then
lp_X6_sure_63 b a1 a2 a3 a4 x63_5 x63_6 gx63 n (y63_7 + 1)
else
some (0, gx63))) else none)
else
lp_X6_sure_63 b a1 a2 a3 a4 x63_5 x63_6 gx63 n (y63_7 + 1))))
def f_X6_sure (g : (Nat → Nat → Int32)) (b : Bool) (a1 : Int32) (a2 : Int32) (a3 : Int32) (a4 : Int32) : Option (Int32 × (Nat → Nat → Int32)) :=
  ((f_X6_isRow g b a1 a2).bind fun v1 =>
(bif v1 then
((f_X6_columnAt g b a1 a4).bind fun v4 =>
(m_oc v4
(some ((-1), g))
(fun q6 =>
((f_X6_areColumns g b a1 a3).bind fun v7 =>
(bif v7 then
((f_X6_draftMasked g b a1).bind fun v10 =>
((f_X6_couldSet v10 b a1 a2 a3).bind fun v12 =>
(if m_S0[(m_pD b)]? = some (.inl 1) then
((f_X1_read v10 b (m_pD b) a1 a2 a4).bind fun v15 =>
lp_X6_sure_63 b a1 a2 a3 a4 v12 v15 v10 2000 0) else none)))
else
some ((-2), g))))))
else
some ((-1), g)))
set_option maxRecDepth 100000 in
set_option maxHeartbeats 4000000 in
theorem w_X6_sure_63 {G : mG} {b : Bool} {a1 : Int32} {a2 : Int32} {a3 : Int32} {a4 : Int32} {x63_5 : Int32} {x63_6 : Int32} {gx63 : (Nat → Nat → Int32)} : ∀ (n : Nat) (y63_7 : Int32) (R : (Int32 × (Nat → Nat → Int32))), lp_X6_sure_63 b a1 a2 a3 a4 x63_5 x63_6 gx63 n y63_7 = some R → MW G mX6_sure 6 0 0 63 [.ref 0, .int a1, .int a2, .int a3, .int a4, .int x63_5, .int x63_6, .int y63_7] [] (m_h gx63 b) (some (.int R.1)) (m_h R.2 b)
  | 0, _, R, e => absurd (show (none : Option (Int32 × (Nat → Nat → Int32))) = some R from e) (fun h => by cases h)
  | n + 1, y63_7, R, e => by
    rw [lp_X6_sure_63] at e
    refine r_iload dX6_sure_63 rfl ?_
    refine r_aload_n dX6_sure_65 rfl rfl ?_
    refine r_iload_n dX6_sure_66 rfl rfl ?_
    obtain ⟨v63001, h63002, e⟩ := g_bd e
    refine q_callV (rest := [.int y63_7]) (c_X6_rowsOf h63002) dX6_sure_67 lkX6_200 rfl rfl rfl rfl (Nat.le_of_ble_eq_true rfl) (by decide) ?_
    refine r_icmp_ge (tgt := 108) dX6_sure_70 (by decide) (fun h63003 => ?_) (fun h63003 => ?_)
    · have e := g_iT h63003 e
      refine r_iconst (x := 1) dX6_sure_108 (by decide) ?_
      have e := Option.some.inj e
      subst e
      exact r_ret dX6_sure_109 rfl rfl
    · have e := g_iF h63003 e
      refine r_iload dX6_sure_73 rfl ?_
      refine r_iload dX6_sure_75 rfl ?_
      refine q_callS (rest := []) (c_X6_hasBit rfl) dX6_sure_77 lkX6_220 rfl rfl (Nat.le_of_ble_eq_true rfl) (by decide) ?_
      refine r_ifeqB (tgt := 102) dX6_sure_80 (by decide) (fun h63004 => ?_) (fun h63004 => ?_)
      · have e := g_cF h63004 e
        refine r_iinc (y := 1) dX6_sure_102 rfl (by decide) (by decide) rfl ?_
        refine r_goto (tgt := 63) dX6_sure_105 (by decide) ?_
        exact w_X6_sure_63 n _ R e
      · have e := g_cT h63004 e
        refine r_aload_n dX6_sure_83 rfl rfl ?_
        refine q_getr dX6_sure_84 flX6_51 rfl rfl (m_fr_0_7 _) ?_
        refine r_iload_n dX6_sure_87 rfl rfl ?_
        refine r_iload dX6_sure_88 rfl ?_
        refine r_iload dX6_sure_90 rfl ?_
        obtain ⟨h63005, e⟩ := g_gd e
        obtain ⟨v63006, h63007, e⟩ := g_bd e
        refine q_callV (rest := []) (c_X1_read h63007) dX6_sure_92 lkX6_180 h63005 rfl rfl rfl (Nat.le_of_ble_eq_true rfl) (by decide) ?_
        refine r_iload dX6_sure_95 rfl ?_
        refine r_icmp_eq (tgt := 102) dX6_sure_97 (by decide) (fun h63008 => ?_) (fun h63008 => ?_)
        · have e := g_iT h63008 e
          refine r_iinc (y := 1) dX6_sure_102 rfl (by decide) (by decide) rfl ?_
          refine r_goto (tgt := 63) dX6_sure_105 (by decide) ?_
          exact w_X6_sure_63 n _ R e
        · have e := g_iF h63008 e
          refine r_iconst (x := 0) dX6_sure_100 (by decide) ?_
          have e := Option.some.inj e
          subst e
          exact r_ret dX6_sure_101 rfl rfl
set_option maxRecDepth 100000 in
set_option maxHeartbeats 4000000 in
theorem c_X6_sure {G : mG} {g : (Nat → Nat → Int32)} {b : Bool} {a1 : Int32} {a2 : Int32} {a3 : Int32} {a4 : Int32} {R : (Int32 × (Nat → Nat → Int32))} (e : f_X6_sure g b a1 a2 a3 a4 = some R) : MC G mX6_sure 6 0 0 [.ref 0, .int a1, .int a2, .int a3, .int a4] (m_h g b) (some (.int R.1)) (m_h R.2 b) := by
  refine MC_intro mlX6_sure (Nat.le_of_ble_eq_true rfl) ⟨_, rfl⟩ rfl trivial ?_
  unfold f_X6_sure at e
  refine r_aload_n dX6_sure_0 rfl rfl ?_
  refine r_iload_n dX6_sure_1 rfl rfl ?_
  refine r_iload_n dX6_sure_2 rfl rfl ?_
  obtain ⟨v1, h2, e⟩ := g_bd e
  refine q_callV (rest := []) (c_X6_isRow h2) dX6_sure_3 lkX6_176 rfl rfl rfl rfl (Nat.le_of_ble_eq_true rfl) (by decide) ?_
  refine r_ifeqB (tgt := 19) dX6_sure_6 (by decide) (fun h3 => ?_) (fun h3 => ?_)
  · have e := g_cF h3 e
    refine r_iconst (x := (-1)) dX6_sure_19 (by decide) ?_
    have e := Option.some.inj e
    subst e
    exact r_ret dX6_sure_20 rfl rfl
  · have e := g_cT h3 e
    refine r_aload_n dX6_sure_9 rfl rfl ?_
    refine r_iload_n dX6_sure_10 rfl rfl ?_
    refine r_iload dX6_sure_11 rfl ?_
    obtain ⟨v4, h5, e⟩ := g_bd e
    refine q_callV (rest := []) (c_X6_columnAt h5) dX6_sure_13 lkX6_99 rfl rfl rfl rfl (Nat.le_of_ble_eq_true rfl) (by decide) ?_
    cases v4 with
    | none =>
      have e := g_oN e
      refine r_ifnonnullN (tgt := 21) dX6_sure_16 (by decide) ?_
      refine r_iconst (x := (-1)) dX6_sure_19 (by decide) ?_
      have e := Option.some.inj e
      subst e
      exact r_ret dX6_sure_20 rfl rfl
    | some q6 =>
      have e := g_oS e
      refine r_ifnonnull (tgt := 21) dX6_sure_16 (by decide) ?_
      refine r_aload_n dX6_sure_21 rfl rfl ?_
      refine r_iload_n dX6_sure_22 rfl rfl ?_
      refine r_iload_n dX6_sure_23 rfl rfl ?_
      obtain ⟨v7, h8, e⟩ := g_bd e
      refine q_callV (rest := []) (c_X6_areColumns h8) dX6_sure_24 lkX6_208 rfl rfl rfl rfl (Nat.le_of_ble_eq_true rfl) (by decide) ?_
      refine r_ifneB (tgt := 33) dX6_sure_27 (by decide) (fun h9 => ?_) (fun h9 => ?_)
      · have e := g_cT h9 e
        refine r_aload_n dX6_sure_33 rfl rfl ?_
        refine r_iload_n dX6_sure_34 rfl rfl ?_
        obtain ⟨v10, h11, e⟩ := g_bd e
        refine q_callV (rest := []) (c_X6_draftMasked h11) dX6_sure_35 lkX6_169 rfl rfl rfl rfl (Nat.le_of_ble_eq_true rfl) (by decide) ?_
        refine r_aload_n dX6_sure_38 rfl rfl ?_
        refine r_iload_n dX6_sure_39 rfl rfl ?_
        refine r_iload_n dX6_sure_40 rfl rfl ?_
        refine r_iload_n dX6_sure_41 rfl rfl ?_
        obtain ⟨v12, h13, e⟩ := g_bd e
        refine q_callV (rest := []) (c_X6_couldSet h13) dX6_sure_42 lkX6_211 rfl rfl rfl rfl (Nat.le_of_ble_eq_true rfl) (by decide) ?_
        refine r_istore dX6_sure_45 (by decide) rfl ?_
        refine r_aload_n dX6_sure_47 rfl rfl ?_
        refine q_getr dX6_sure_48 flX6_51 rfl rfl (m_fr_0_7 _) ?_
        refine r_iload_n dX6_sure_51 rfl rfl ?_
        refine r_iload_n dX6_sure_52 rfl rfl ?_
        refine r_iload dX6_sure_53 rfl ?_
        obtain ⟨h14, e⟩ := g_gd e
        obtain ⟨v15, h16, e⟩ := g_bd e
        refine q_callV (rest := []) (c_X1_read h16) dX6_sure_55 lkX6_180 h14 rfl rfl rfl (Nat.le_of_ble_eq_true rfl) (by decide) ?_
        refine r_istore dX6_sure_58 (by decide) rfl ?_
        refine r_iconst (x := 0) dX6_sure_60 (by decide) ?_
        refine r_istore dX6_sure_61 (by decide) rfl ?_
        exact w_X6_sure_63 2000 _ R e
      · have e := g_cF h9 e
        refine r_bipush (x := (-2)) dX6_sure_30 (by decide) ?_
        have e := Option.some.inj e
        subst e
        exact r_ret dX6_sure_32 rfl rfl
/-! X6_lossBy -/
def lp_X6_lossBy_6 (g : (Nat → Nat → Int32)) (b : Bool) (a1 : Int32) (a2 : Int32) (a3 : Int32) : Nat → Int32 → Int32 → Option Int32
  | 0, _, _ => none
  | n + 1, y6_4, y6_5 =>
  ((f_X6_rowsOf g b a1).bind fun v6001 =>
(if v6001 ≤ y6_5 then
some y6_4
else
((f_X1_read g b 4 a1 y6_5 a2).bind fun v6004 =>
(if v6004 = (-2147483648) then
lp_X6_lossBy_6 g b a1 a2 a3 n y6_4 (y6_5 + 1)
else
((f_X6_tooFine v6004 a3).bind fun v6007 =>
lp_X6_lossBy_6 g b a1 a2 a3 n (y6_4 + v6007) (y6_5 + 1))))))
def f_X6_lossBy (g : (Nat → Nat → Int32)) (b : Bool) (a1 : Int32) (a2 : Int32) (a3 : Int32) : Option Int32 :=
  lp_X6_lossBy_6 g b a1 a2 a3 2000 0 0
set_option maxRecDepth 100000 in
set_option maxHeartbeats 4000000 in
theorem w_X6_lossBy_6 {G : mG} {g : (Nat → Nat → Int32)} {b : Bool} {a1 : Int32} {a2 : Int32} {a3 : Int32} : ∀ (n : Nat) (y6_4 : Int32) (y6_5 : Int32) (R : Int32), lp_X6_lossBy_6 g b a1 a2 a3 n y6_4 y6_5 = some R → MW G mX6_lossBy 2 0 0 6 [.ref 0, .int a1, .int a2, .int a3, .int y6_4, .int y6_5, .retAddr 0] [] (m_h g b) (some (.int R)) (m_h g b)
  | 0, _, _, R, e => absurd (show (none : Option Int32) = some R from e) (fun h => by cases h)
  | n + 1, y6_4, y6_5, R, e => by
    rw [lp_X6_lossBy_6] at e
    refine r_iload dX6_lossBy_6 rfl ?_
    refine r_aload_n dX6_lossBy_8 rfl rfl ?_
    refine r_iload_n dX6_lossBy_9 rfl rfl ?_
    obtain ⟨v6001, h6002, e⟩ := g_bd e
    refine q_callV (rest := [.int y6_5]) (c_X6_rowsOf h6002) dX6_lossBy_10 lkX6_200 rfl rfl rfl rfl (Nat.le_of_ble_eq_true rfl) (by decide) ?_
    refine r_icmp_ge (tgt := 53) dX6_lossBy_13 (by decide) (fun h6003 => ?_) (fun h6003 => ?_)
    · have e := g_iT h6003 e
      refine r_iload dX6_lossBy_53 rfl ?_
      have e := Option.some.inj e
      subst e
      exact r_ret dX6_lossBy_55 rfl rfl
    · have e := g_iF h6003 e
      refine r_aload_n dX6_lossBy_16 rfl rfl ?_
      refine q_getr dX6_lossBy_17 flX6_30 rfl rfl (m_fr_0_3 _) ?_
      refine r_iload_n dX6_lossBy_20 rfl rfl ?_
      refine r_iload dX6_lossBy_21 rfl ?_
      refine r_iload_n dX6_lossBy_23 rfl rfl ?_
      obtain ⟨v6004, h6005, e⟩ := g_bd e
      refine q_callV (rest := []) (c_X1_read h6005) dX6_lossBy_24 lkX6_180 rfl rfl rfl rfl (Nat.le_of_ble_eq_true rfl) (by decide) ?_
      refine r_istore dX6_lossBy_27 (by decide) rfl ?_
      refine r_iload dX6_lossBy_29 rfl ?_
      refine r_ldc (x := (-2147483648)) dX6_lossBy_31 kcX6_179 ?_
      refine r_icmp_eq (tgt := 47) dX6_lossBy_33 (by decide) (fun h6006 => ?_) (fun h6006 => ?_)
      · have e := g_iT h6006 e
        refine r_iinc (y := 1) dX6_lossBy_47 rfl (by decide) (by decide) rfl ?_
        refine r_goto (tgt := 6) dX6_lossBy_50 (by decide) ?_
        refine r_forget 6 rfl ?_
        exact w_X6_lossBy_6 n _ _ R e
      · have e := g_iF h6006 e
        refine r_iload dX6_lossBy_36 rfl ?_
        refine r_iload dX6_lossBy_38 rfl ?_
        refine r_iload_n dX6_lossBy_40 rfl rfl ?_
        obtain ⟨v6007, h6008, e⟩ := g_bd e
        refine q_callS (rest := [.int y6_4]) (c_X6_tooFine h6008) dX6_lossBy_41 lkX6_276 rfl rfl (Nat.le_of_ble_eq_true rfl) (by decide) ?_
        refine r_iadd dX6_lossBy_44 ?_
        refine r_istore dX6_lossBy_45 (by decide) rfl ?_
        refine r_iinc (y := 1) dX6_lossBy_47 rfl (by decide) (by decide) rfl ?_
        refine r_goto (tgt := 6) dX6_lossBy_50 (by decide) ?_
        refine r_forget 6 rfl ?_
        exact w_X6_lossBy_6 n _ _ R e
set_option maxRecDepth 100000 in
set_option maxHeartbeats 4000000 in
theorem c_X6_lossBy {G : mG} {g : (Nat → Nat → Int32)} {b : Bool} {a1 : Int32} {a2 : Int32} {a3 : Int32} {R : Int32} (e : f_X6_lossBy g b a1 a2 a3 = some R) : MC G mX6_lossBy 2 0 0 [.ref 0, .int a1, .int a2, .int a3] (m_h g b) (some (.int R)) (m_h g b) := by
  refine MC_intro mlX6_lossBy (Nat.le_of_ble_eq_true rfl) ⟨_, rfl⟩ rfl trivial ?_
  unfold f_X6_lossBy at e
  refine r_iconst (x := 0) dX6_lossBy_0 (by decide) ?_
  refine r_istore dX6_lossBy_1 (by decide) rfl ?_
  refine r_iconst (x := 0) dX6_lossBy_3 (by decide) ?_
  refine r_istore dX6_lossBy_4 (by decide) rfl ?_
  exact w_X6_lossBy_6 2000 _ _ R e
/-! X6_loss -/
def f_X6_loss (g : (Nat → Nat → Int32)) (b : Bool) (a1 : Int32) (a2 : Int32) : Option Int32 :=
  ((f_X6_columnAt g b a1 a2).bind fun v1 =>
(m_oc v1
(some (-1))
(fun q3 =>
(if m_S0[q3]? = some (.inl 0) then
(if (g q3 2) = 3 then
((f_X6_lossBy g b a1 a2 (g q3 3)).bind fun v6 =>
some v6)
else
some (-2)) else none))))
set_option maxRecDepth 100000 in
set_option maxHeartbeats 4000000 in
theorem c_X6_loss {G : mG} {g : (Nat → Nat → Int32)} {b : Bool} {a1 : Int32} {a2 : Int32} {R : Int32} (e : f_X6_loss g b a1 a2 = some R) : MC G mX6_loss 3 0 0 [.ref 0, .int a1, .int a2] (m_h g b) (some (.int R)) (m_h g b) := by
  refine MC_intro mlX6_loss (Nat.le_of_ble_eq_true rfl) ⟨_, rfl⟩ rfl trivial ?_
  unfold f_X6_loss at e
  refine r_aload_n dX6_loss_0 rfl rfl ?_
  refine r_iload_n dX6_loss_1 rfl rfl ?_
  refine r_iload_n dX6_loss_2 rfl rfl ?_
  obtain ⟨v1, h2, e⟩ := g_bd e
  refine q_callV (rest := []) (c_X6_columnAt h2) dX6_loss_3 lkX6_99 rfl rfl rfl rfl (Nat.le_of_ble_eq_true rfl) (by decide) ?_
  refine r_astore_nO dX6_loss_6 rfl (by decide) rfl ?_
  refine r_aload_nO dX6_loss_7 rfl rfl ?_
  cases v1 with
  | none =>
    have e := g_oN e
    refine r_ifnonnullN (tgt := 13) dX6_loss_8 (by decide) ?_
    refine r_iconst (x := (-1)) dX6_loss_11 (by decide) ?_
    have e := Option.some.inj e
    subst e
    exact r_ret dX6_loss_12 rfl rfl
  | some q3 =>
    have e := g_oS e
    refine r_ifnonnull (tgt := 13) dX6_loss_8 (by decide) ?_
    refine r_aload_n dX6_loss_13 rfl rfl ?_
    obtain ⟨h4, e⟩ := g_gd e
    refine q_geti dX6_loss_14 flX6_118 rfl h4 ?_
    refine r_iconst (x := 3) dX6_loss_17 (by decide) ?_
    refine r_icmp_ne (tgt := 34) dX6_loss_18 (by decide) (fun h5 => ?_) (fun h5 => ?_)
    · have e := g_iF h5 e
      refine r_bipush (x := (-2)) dX6_loss_34 (by decide) ?_
      have e := Option.some.inj e
      subst e
      exact r_ret dX6_loss_36 rfl rfl
    · have e := g_iT h5 e
      refine r_aload_n dX6_loss_21 rfl rfl ?_
      refine r_iload_n dX6_loss_22 rfl rfl ?_
      refine r_iload_n dX6_loss_23 rfl rfl ?_
      refine r_aload_n dX6_loss_24 rfl rfl ?_
      refine q_geti dX6_loss_25 flX6_121 rfl h4 ?_
      obtain ⟨v6, h7, e⟩ := g_bd e
      refine q_callV (rest := []) (c_X6_lossBy h7) dX6_loss_28 lkX6_223 rfl rfl rfl rfl (Nat.le_of_ble_eq_true rfl) (by decide) ?_
      refine r_goto (tgt := 36) dX6_loss_31 (by decide) ?_
      have e := Option.some.inj e
      subst e
      exact r_ret dX6_loss_36 rfl rfl
/-! X5_begin -/
def f_X5_begin (g : (Nat → Nat → Int32)) (a1 : Int32) : Option (Nat → Nat → Int32) :=
  (m_let (m_up g 7 4 0) fun g1 =>
(m_let (m_up g1 7 5 (m_min a1 12)) fun g3 =>
some g3))
set_option maxRecDepth 100000 in
set_option maxHeartbeats 4000000 in
theorem c_X5_begin {G : mG} {g : (Nat → Nat → Int32)} {b : Bool} {a1 : Int32} {R : (Nat → Nat → Int32)} (e : f_X5_begin g a1 = some R) : MC G mX5_begin 1 0 0 [.ref 7, .int a1] (m_h g b) none (m_h R b) := by
  refine MC_intro mlX5_begin (Nat.le_of_ble_eq_true rfl) rfl rfl trivial ?_
  unfold f_X5_begin at e
  refine r_aload_n dX5_begin_0 rfl rfl ?_
  refine r_iconst (x := 0) dX5_begin_1 (by decide) ?_
  refine q_putiL dX5_begin_2 flX5_24 (Or.inl rfl) (Or.inl rfl) rfl (fun g1 h2 => ?_)
  have e := g_lt h2 e
  refine r_aload_n dX5_begin_5 rfl rfl ?_
  refine r_iload_n dX5_begin_6 rfl rfl ?_
  refine r_bipush (x := 12) dX5_begin_7 (by decide) ?_
  refine q_min dX5_begin_9 lkX5_34 (Nat.le_of_ble_eq_true rfl) (by decide) ?_
  refine q_putiL dX5_begin_12 flX5_28 (Or.inl rfl) (Or.inl rfl) rfl (fun g3 h4 => ?_)
  have e := g_lt h4 e
  have e := Option.some.inj e
  subst e
  exact r_ret dX5_begin_15 rfl rfl
/-! X5_addColumn -/
def f_X5_addColumn (g : (Nat → Nat → Int32)) (a1 : Int32) : Option (Int32 × (Nat → Nat → Int32)) :=
  (if (g 7 4) < 6 then
(if m_in (g 7 4) 6 then
(m_let (m_up g 8 (g 7 4).toNatClampNeg a1) fun g3 =>
(m_let (m_up g3 7 4 ((g3 7 4) + 1)) fun g5 =>
some (((g5 7 4) - 1), g5))) else none)
else
some ((-1), g))
set_option maxRecDepth 100000 in
set_option maxHeartbeats 4000000 in
theorem c_X5_addColumn {G : mG} {g : (Nat → Nat → Int32)} {b : Bool} {a1 : Int32} {R : (Int32 × (Nat → Nat → Int32))} (e : f_X5_addColumn g a1 = some R) : MC G mX5_addColumn 0 0 0 [.ref 7, .int a1] (m_h g b) (some (.int R.1)) (m_h R.2 b) := by
  refine MC_intro mlX5_addColumn (Nat.le_of_ble_eq_true rfl) ⟨_, rfl⟩ rfl trivial ?_
  unfold f_X5_addColumn at e
  refine r_aload_n dX5_addColumn_0 rfl rfl ?_
  refine q_geti dX5_addColumn_1 flX5_24 rfl rfl ?_
  refine r_bipush (x := 6) dX5_addColumn_4 (by decide) ?_
  refine r_icmp_lt (tgt := 11) dX5_addColumn_6 (by decide) (fun h1 => ?_) (fun h1 => ?_)
  · have e := g_iT h1 e
    refine r_aload_n dX5_addColumn_11 rfl rfl ?_
    refine q_getr dX5_addColumn_12 flX5_9 rfl rfl (m_fr_7_0 _) ?_
    refine r_aload_n dX5_addColumn_15 rfl rfl ?_
    refine q_geti dX5_addColumn_16 flX5_24 rfl rfl ?_
    refine r_iload_n dX5_addColumn_19 rfl rfl ?_
    obtain ⟨h2, e⟩ := g_gd e
    refine q_iastL dX5_addColumn_20 rfl h2 (fun g3 h4 => ?_)
    have e := g_lt h4 e
    refine r_aload_n dX5_addColumn_21 rfl rfl ?_
    refine r_dup dX5_addColumn_22 ?_
    refine q_geti dX5_addColumn_23 flX5_24 rfl rfl ?_
    refine r_iconst (x := 1) dX5_addColumn_26 (by decide) ?_
    refine r_iadd dX5_addColumn_27 ?_
    refine q_putiL dX5_addColumn_28 flX5_24 (Or.inl rfl) (Or.inl rfl) rfl (fun g5 h6 => ?_)
    have e := g_lt h6 e
    refine r_aload_n dX5_addColumn_31 rfl rfl ?_
    refine q_geti dX5_addColumn_32 flX5_24 rfl rfl ?_
    refine r_iconst (x := 1) dX5_addColumn_35 (by decide) ?_
    refine r_isub dX5_addColumn_36 ?_
    have e := Option.some.inj e
    subst e
    exact r_ret dX5_addColumn_37 rfl rfl
  · have e := g_iF h1 e
    refine r_iconst (x := (-1)) dX5_addColumn_9 (by decide) ?_
    have e := Option.some.inj e
    subst e
    exact r_ret dX5_addColumn_10 rfl rfl
/-! X5_widthAt -/
def f_X5_widthAt (g : (Nat → Nat → Int32)) (a1 : Int32) : Option Int32 :=
  (if a1 < 0 then
some 1
else
(if 4 ≤ a1 then
some 1
else
(if m_in a1 4 then
some (m_wid a1.toNatClampNeg) else none)))
set_option maxRecDepth 100000 in
set_option maxHeartbeats 4000000 in
theorem c_X5_widthAt {G : mG} {g : (Nat → Nat → Int32)} {b : Bool} {a1 : Int32} {R : Int32} (e : f_X5_widthAt g a1 = some R) : MC G mX5_widthAt 0 0 0 [.int a1] (m_h g b) (some (.int R)) (m_h g b) := by
  refine MC_intro mlX5_widthAt (Nat.le_of_ble_eq_true rfl) ⟨_, rfl⟩ rfl trivial ?_
  unfold f_X5_widthAt at e
  refine r_iload_n dX5_widthAt_0 rfl rfl ?_
  refine r_if_lt (tgt := 17) dX5_widthAt_1 (by decide) (fun h1 => ?_) (fun h1 => ?_)
  · have e := g_iT h1 e
    refine r_iconst (x := 1) dX5_widthAt_17 (by decide) ?_
    have e := Option.some.inj e
    subst e
    exact r_ret dX5_widthAt_18 rfl rfl
  · have e := g_iF h1 e
    refine r_iload_n dX5_widthAt_4 rfl rfl ?_
    refine r_iconst (x := 4) dX5_widthAt_5 (by decide) ?_
    refine r_icmp_ge (tgt := 17) dX5_widthAt_6 (by decide) (fun h2 => ?_) (fun h2 => ?_)
    · have e := g_iT h2 e
      refine r_iconst (x := 1) dX5_widthAt_17 (by decide) ?_
      have e := Option.some.inj e
      subst e
      exact r_ret dX5_widthAt_18 rfl rfl
    · have e := g_iF h2 e
      refine r_gets dX5_widthAt_9 kw_31 ?_
      refine r_iload_n dX5_widthAt_12 rfl rfl ?_
      obtain ⟨h3, e⟩ := g_gd e
      refine r_wald dX5_widthAt_13 h3 ?_
      refine r_goto (tgt := 18) dX5_widthAt_14 (by decide) ?_
      have e := Option.some.inj e
      subst e
      exact r_ret dX5_widthAt_18 rfl rfl
/-! X5_isChoice -/
def f_X5_isChoice (g : (Nat → Nat → Int32)) (a1 : Int32) (a2 : Int32) : Bool :=
  (if a1 < 0 then
false
else
(if (g 7 4) ≤ a1 then
false
else
(if a2 < 0 then
false
else
(if 4 ≤ a2 then
false
else
true))))
set_option maxRecDepth 100000 in
set_option maxHeartbeats 4000000 in
theorem c_X5_isChoice {G : mG} {g : (Nat → Nat → Int32)} {b : Bool} {a1 : Int32} {a2 : Int32} {R : Bool} (e : f_X5_isChoice g a1 a2 = R) : MC G mX5_isChoice 0 0 0 [.ref 7, .int a1, .int a2] (m_h g b) (some (.int (m_bi R))) (m_h g b) := by
  refine MC_intro mlX5_isChoice (Nat.le_of_ble_eq_true rfl) (m_okZ _) rfl trivial ?_
  unfold f_X5_isChoice at e
  refine r_iload_n dX5_isChoice_0 rfl rfl ?_
  refine r_if_lt (tgt := 25) dX5_isChoice_1 (by decide) (fun h1 => ?_) (fun h1 => ?_)
  · have e := g_iT h1 e
    refine r_iconst (x := 0) dX5_isChoice_25 (by decide) ?_
    subst e
    exact r_ret dX5_isChoice_26 rfl rfl
  · have e := g_iF h1 e
    refine r_iload_n dX5_isChoice_4 rfl rfl ?_
    refine r_aload_n dX5_isChoice_5 rfl rfl ?_
    refine q_geti dX5_isChoice_6 flX5_24 rfl rfl ?_
    refine r_icmp_ge (tgt := 25) dX5_isChoice_9 (by decide) (fun h2 => ?_) (fun h2 => ?_)
    · have e := g_iT h2 e
      refine r_iconst (x := 0) dX5_isChoice_25 (by decide) ?_
      subst e
      exact r_ret dX5_isChoice_26 rfl rfl
    · have e := g_iF h2 e
      refine r_iload_n dX5_isChoice_12 rfl rfl ?_
      refine r_if_lt (tgt := 25) dX5_isChoice_13 (by decide) (fun h3 => ?_) (fun h3 => ?_)
      · have e := g_iT h3 e
        refine r_iconst (x := 0) dX5_isChoice_25 (by decide) ?_
        subst e
        exact r_ret dX5_isChoice_26 rfl rfl
      · have e := g_iF h3 e
        refine r_iload_n dX5_isChoice_16 rfl rfl ?_
        refine r_iconst (x := 4) dX5_isChoice_17 (by decide) ?_
        refine r_icmp_ge (tgt := 25) dX5_isChoice_18 (by decide) (fun h4 => ?_) (fun h4 => ?_)
        · have e := g_iT h4 e
          refine r_iconst (x := 0) dX5_isChoice_25 (by decide) ?_
          subst e
          exact r_ret dX5_isChoice_26 rfl rfl
        · have e := g_iF h4 e
          refine r_iconst (x := 1) dX5_isChoice_21 (by decide) ?_
          refine r_goto (tgt := 26) dX5_isChoice_22 (by decide) ?_
          subst e
          exact r_ret dX5_isChoice_26 rfl rfl
/-! X5_setLoss -/
def f_X5_setLoss (g : (Nat → Nat → Int32)) (a1 : Int32) (a2 : Int32) (a3 : Int32) : Option (Nat → Nat → Int32) :=
  (bif (f_X5_isChoice g a1 a2) then
(if m_in ((a1 * 4) + a2) 24 then
(m_let (m_up g 9 ((a1 * 4) + a2).toNatClampNeg a3) fun g3 =>
some g3) else none)
else
some g)
set_option maxRecDepth 100000 in
set_option maxHeartbeats 4000000 in
theorem c_X5_setLoss {G : mG} {g : (Nat → Nat → Int32)} {b : Bool} {a1 : Int32} {a2 : Int32} {a3 : Int32} {R : (Nat → Nat → Int32)} (e : f_X5_setLoss g a1 a2 a3 = some R) : MC G mX5_setLoss 1 0 0 [.ref 7, .int a1, .int a2, .int a3] (m_h g b) none (m_h R b) := by
  refine MC_intro mlX5_setLoss (Nat.le_of_ble_eq_true rfl) rfl rfl trivial ?_
  unfold f_X5_setLoss at e
  refine r_aload_n dX5_setLoss_0 rfl rfl ?_
  refine r_iload_n dX5_setLoss_1 rfl rfl ?_
  refine r_iload_n dX5_setLoss_2 rfl rfl ?_
  refine q_callV (rest := []) (c_X5_isChoice rfl) dX5_setLoss_3 lkX5_40 rfl rfl rfl rfl (Nat.le_of_ble_eq_true rfl) (by decide) ?_
  refine r_ifeqB (tgt := 20) dX5_setLoss_6 (by decide) (fun h1 => ?_) (fun h1 => ?_)
  · have e := g_cF h1 e
    have e := Option.some.inj e
    subst e
    exact r_ret dX5_setLoss_20 rfl rfl
  · have e := g_cT h1 e
    refine r_aload_n dX5_setLoss_9 rfl rfl ?_
    refine q_getr dX5_setLoss_10 flX5_15 rfl rfl (m_fr_7_1 _) ?_
    refine r_iload_n dX5_setLoss_13 rfl rfl ?_
    refine r_iconst (x := 4) dX5_setLoss_14 (by decide) ?_
    refine r_imul dX5_setLoss_15 ?_
    refine r_iload_n dX5_setLoss_16 rfl rfl ?_
    refine r_iadd dX5_setLoss_17 ?_
    refine r_iload_n dX5_setLoss_18 rfl rfl ?_
    obtain ⟨h2, e⟩ := g_gd e
    refine q_iastL dX5_setLoss_19 rfl h2 (fun g3 h4 => ?_)
    have e := g_lt h4 e
    have e := Option.some.inj e
    subst e
    exact r_ret dX5_setLoss_20 rfl rfl
/-! X6_coarseOrMissing -/
def f_X6_coarseOrMissing (a1 : Int32) (a2 : Int32) : Option Int32 :=
  (if a1 = (-2147483648) then
some (-2147483648)
else
((f_X6_tooFine a1 a2).bind fun v2 =>
some (a1 - v2)))
set_option maxRecDepth 100000 in
set_option maxHeartbeats 4000000 in
theorem c_X6_coarseOrMissing {G : mG} {g : (Nat → Nat → Int32)} {b : Bool} {a1 : Int32} {a2 : Int32} {R : Int32} (e : f_X6_coarseOrMissing a1 a2 = some R) : MC G mX6_coarseOrMissing 2 0 0 [.int a1, .int a2] (m_h g b) (some (.int R)) (m_h g b) := by
  refine MC_intro mlX6_coarseOrMissing (Nat.le_of_ble_eq_true rfl) ⟨_, rfl⟩ rfl trivial ?_
  unfold f_X6_coarseOrMissing at e
  refine r_iload_n dX6_coarseOrMissing_0 rfl rfl ?_
  refine r_ldc (x := (-2147483648)) dX6_coarseOrMissing_1 kcX6_179 ?_
  refine r_icmp_ne (tgt := 11) dX6_coarseOrMissing_3 (by decide) (fun h1 => ?_) (fun h1 => ?_)
  · have e := g_iF h1 e
    refine r_iload_n dX6_coarseOrMissing_11 rfl rfl ?_
    refine r_iload_n dX6_coarseOrMissing_12 rfl rfl ?_
    refine r_iload_n dX6_coarseOrMissing_13 rfl rfl ?_
    obtain ⟨v2, h3, e⟩ := g_bd e
    refine q_callS (rest := [.int a1]) (c_X6_tooFine h3) dX6_coarseOrMissing_14 lkX6_276 rfl rfl (Nat.le_of_ble_eq_true rfl) (by decide) ?_
    refine r_isub dX6_coarseOrMissing_17 ?_
    have e := Option.some.inj e
    subst e
    exact r_ret dX6_coarseOrMissing_18 rfl rfl
  · have e := g_iT h1 e
    refine r_ldc (x := (-2147483648)) dX6_coarseOrMissing_6 kcX6_179 ?_
    refine r_goto (tgt := 18) dX6_coarseOrMissing_8 (by decide) ?_
    have e := Option.some.inj e
    subst e
    exact r_ret dX6_coarseOrMissing_18 rfl rfl
/-! X6_sameBy -/
def lp_X6_sameBy_23 (g : (Nat → Nat → Int32)) (b : Bool) (a1 : Int32) (a2 : Int32) (a3 : Int32) (a4 : Int32) (x23_5 : Int32) : Nat → Int32 → Int32 → Option Int32
  | 0, _, _ => none
  | n + 1, y23_6, y23_7 =>
  ((f_X6_rowsOf g b a1).bind fun v23001 =>
(if v23001 ≤ y23_7 then
some y23_6
else
((f_X1_read g b 4 a1 y23_7 a2).bind fun v23004 =>
((f_X6_coarseOrMissing v23004 a4).bind fun v23006 =>
(if v23006 = x23_5 then
lp_X6_sameBy_23 g b a1 a2 a3 a4 x23_5 n (y23_6 ||| (m_shl 1 y23_7)) (y23_7 + 1)
else
lp_X6_sameBy_23 g b a1 a2 a3 a4 x23_5 n y23_6 (y23_7 + 1))))))
def f_X6_sameBy (g : (Nat → Nat → Int32)) (b : Bool) (a1 : Int32) (a2 : Int32) (a3 : Int32) (a4 : Int32) : Option Int32 :=
  ((f_X1_read g b 4 a1 a3 a2).bind fun v1 =>
((f_X6_coarseOrMissing v1 a4).bind fun v3 =>
lp_X6_sameBy_23 g b a1 a2 a3 a4 v3 2000 0 0))
set_option maxRecDepth 100000 in
set_option maxHeartbeats 4000000 in
theorem w_X6_sameBy_23 {G : mG} {g : (Nat → Nat → Int32)} {b : Bool} {a1 : Int32} {a2 : Int32} {a3 : Int32} {a4 : Int32} {x23_5 : Int32} : ∀ (n : Nat) (y23_6 : Int32) (y23_7 : Int32) (R : Int32), lp_X6_sameBy_23 g b a1 a2 a3 a4 x23_5 n y23_6 y23_7 = some R → MW G mX6_sameBy 3 0 0 23 [.ref 0, .int a1, .int a2, .int a3, .int a4, .int x23_5, .int y23_6, .int y23_7] [] (m_h g b) (some (.int R)) (m_h g b)
  | 0, _, _, R, e => absurd (show (none : Option Int32) = some R from e) (fun h => by cases h)
  | n + 1, y23_6, y23_7, R, e => by
    rw [lp_X6_sameBy_23] at e
    refine r_iload dX6_sameBy_23 rfl ?_
    refine r_aload_n dX6_sameBy_25 rfl rfl ?_
    refine r_iload_n dX6_sameBy_26 rfl rfl ?_
    obtain ⟨v23001, h23002, e⟩ := g_bd e
    refine q_callV (rest := [.int y23_7]) (c_X6_rowsOf h23002) dX6_sameBy_27 lkX6_200 rfl rfl rfl rfl (Nat.le_of_ble_eq_true rfl) (by decide) ?_
    refine r_icmp_ge (tgt := 69) dX6_sameBy_30 (by decide) (fun h23003 => ?_) (fun h23003 => ?_)
    · have e := g_iT h23003 e
      refine r_iload dX6_sameBy_69 rfl ?_
      have e := Option.some.inj e
      subst e
      exact r_ret dX6_sameBy_71 rfl rfl
    · have e := g_iF h23003 e
      refine r_aload_n dX6_sameBy_33 rfl rfl ?_
      refine q_getr dX6_sameBy_34 flX6_30 rfl rfl (m_fr_0_3 _) ?_
      refine r_iload_n dX6_sameBy_37 rfl rfl ?_
      refine r_iload dX6_sameBy_38 rfl ?_
      refine r_iload_n dX6_sameBy_40 rfl rfl ?_
      obtain ⟨v23004, h23005, e⟩ := g_bd e
      refine q_callV (rest := []) (c_X1_read h23005) dX6_sameBy_41 lkX6_180 rfl rfl rfl rfl (Nat.le_of_ble_eq_true rfl) (by decide) ?_
      refine r_iload dX6_sameBy_44 rfl ?_
      obtain ⟨v23006, h23007, e⟩ := g_bd e
      refine q_callS (rest := []) (c_X6_coarseOrMissing h23007) dX6_sameBy_46 lkX6_370 rfl rfl (Nat.le_of_ble_eq_true rfl) (by decide) ?_
      refine r_iload dX6_sameBy_49 rfl ?_
      refine r_icmp_ne (tgt := 63) dX6_sameBy_51 (by decide) (fun h23008 => ?_) (fun h23008 => ?_)
      · have e := g_iF h23008 e
        refine r_iinc (y := 1) dX6_sameBy_63 rfl (by decide) (by decide) rfl ?_
        refine r_goto (tgt := 23) dX6_sameBy_66 (by decide) ?_
        exact w_X6_sameBy_23 n _ _ R e
      · have e := g_iT h23008 e
        refine r_iload dX6_sameBy_54 rfl ?_
        refine r_iconst (x := 1) dX6_sameBy_56 (by decide) ?_
        refine r_iload dX6_sameBy_57 rfl ?_
        refine q_ishl dX6_sameBy_59 ?_
        refine r_ior dX6_sameBy_60 ?_
        refine r_istore dX6_sameBy_61 (by decide) rfl ?_
        refine r_iinc (y := 1) dX6_sameBy_63 rfl (by decide) (by decide) rfl ?_
        refine r_goto (tgt := 23) dX6_sameBy_66 (by decide) ?_
        exact w_X6_sameBy_23 n _ _ R e
set_option maxRecDepth 100000 in
set_option maxHeartbeats 4000000 in
theorem c_X6_sameBy {G : mG} {g : (Nat → Nat → Int32)} {b : Bool} {a1 : Int32} {a2 : Int32} {a3 : Int32} {a4 : Int32} {R : Int32} (e : f_X6_sameBy g b a1 a2 a3 a4 = some R) : MC G mX6_sameBy 3 0 0 [.ref 0, .int a1, .int a2, .int a3, .int a4] (m_h g b) (some (.int R)) (m_h g b) := by
  refine MC_intro mlX6_sameBy (Nat.le_of_ble_eq_true rfl) ⟨_, rfl⟩ rfl trivial ?_
  unfold f_X6_sameBy at e
  refine r_aload_n dX6_sameBy_0 rfl rfl ?_
  refine q_getr dX6_sameBy_1 flX6_30 rfl rfl (m_fr_0_3 _) ?_
  refine r_iload_n dX6_sameBy_4 rfl rfl ?_
  refine r_iload_n dX6_sameBy_5 rfl rfl ?_
  refine r_iload_n dX6_sameBy_6 rfl rfl ?_
  obtain ⟨v1, h2, e⟩ := g_bd e
  refine q_callV (rest := []) (c_X1_read h2) dX6_sameBy_7 lkX6_180 rfl rfl rfl rfl (Nat.le_of_ble_eq_true rfl) (by decide) ?_
  refine r_iload dX6_sameBy_10 rfl ?_
  obtain ⟨v3, h4, e⟩ := g_bd e
  refine q_callS (rest := []) (c_X6_coarseOrMissing h4) dX6_sameBy_12 lkX6_370 rfl rfl (Nat.le_of_ble_eq_true rfl) (by decide) ?_
  refine r_istore dX6_sameBy_15 (by decide) rfl ?_
  refine r_iconst (x := 0) dX6_sameBy_17 (by decide) ?_
  refine r_istore dX6_sameBy_18 (by decide) rfl ?_
  refine r_iconst (x := 0) dX6_sameBy_20 (by decide) ?_
  refine r_istore dX6_sameBy_21 (by decide) rfl ?_
  exact w_X6_sameBy_23 2000 _ _ R e
/-! X5_setSame -/
def f_X5_setSame (g : (Nat → Nat → Int32)) (a1 : Int32) (a2 : Int32) (a3 : Int32) (a4 : Int32) : Option (Nat → Nat → Int32) :=
  (bif (f_X5_isChoice g a1 a2) then
(if a3 < 0 then
some g
else
(if (g 7 5) ≤ a3 then
some g
else
(if m_in ((((a1 * 4) + a2) * 12) + a3) 288 then
(m_let (m_up g 10 ((((a1 * 4) + a2) * 12) + a3).toNatClampNeg a4) fun g5 =>
some g5) else none)))
else
some g)
set_option maxRecDepth 100000 in
set_option maxHeartbeats 4000000 in
theorem c_X5_setSame {G : mG} {g : (Nat → Nat → Int32)} {b : Bool} {a1 : Int32} {a2 : Int32} {a3 : Int32} {a4 : Int32} {R : (Nat → Nat → Int32)} (e : f_X5_setSame g a1 a2 a3 a4 = some R) : MC G mX5_setSame 1 0 0 [.ref 7, .int a1, .int a2, .int a3, .int a4] (m_h g b) none (m_h R b) := by
  refine MC_intro mlX5_setSame (Nat.le_of_ble_eq_true rfl) rfl rfl trivial ?_
  unfold f_X5_setSame at e
  refine r_aload_n dX5_setSame_0 rfl rfl ?_
  refine r_iload_n dX5_setSame_1 rfl rfl ?_
  refine r_iload_n dX5_setSame_2 rfl rfl ?_
  refine q_callV (rest := []) (c_X5_isChoice rfl) dX5_setSame_3 lkX5_40 rfl rfl rfl rfl (Nat.le_of_ble_eq_true rfl) (by decide) ?_
  refine r_ifeqB (tgt := 38) dX5_setSame_6 (by decide) (fun h1 => ?_) (fun h1 => ?_)
  · have e := g_cF h1 e
    have e := Option.some.inj e
    subst e
    exact r_ret dX5_setSame_38 rfl rfl
  · have e := g_cT h1 e
    refine r_iload_n dX5_setSame_9 rfl rfl ?_
    refine r_if_lt (tgt := 38) dX5_setSame_10 (by decide) (fun h2 => ?_) (fun h2 => ?_)
    · have e := g_iT h2 e
      have e := Option.some.inj e
      subst e
      exact r_ret dX5_setSame_38 rfl rfl
    · have e := g_iF h2 e
      refine r_iload_n dX5_setSame_13 rfl rfl ?_
      refine r_aload_n dX5_setSame_14 rfl rfl ?_
      refine q_geti dX5_setSame_15 flX5_28 rfl rfl ?_
      refine r_icmp_ge (tgt := 38) dX5_setSame_18 (by decide) (fun h3 => ?_) (fun h3 => ?_)
      · have e := g_iT h3 e
        have e := Option.some.inj e
        subst e
        exact r_ret dX5_setSame_38 rfl rfl
      · have e := g_iF h3 e
        refine r_aload_n dX5_setSame_21 rfl rfl ?_
        refine q_getr dX5_setSame_22 flX5_18 rfl rfl (m_fr_7_2 _) ?_
        refine r_iload_n dX5_setSame_25 rfl rfl ?_
        refine r_iconst (x := 4) dX5_setSame_26 (by decide) ?_
        refine r_imul dX5_setSame_27 ?_
        refine r_iload_n dX5_setSame_28 rfl rfl ?_
        refine r_iadd dX5_setSame_29 ?_
        refine r_bipush (x := 12) dX5_setSame_30 (by decide) ?_
        refine r_imul dX5_setSame_32 ?_
        refine r_iload_n dX5_setSame_33 rfl rfl ?_
        refine r_iadd dX5_setSame_34 ?_
        refine r_iload dX5_setSame_35 rfl ?_
        obtain ⟨h4, e⟩ := g_gd e
        refine q_iastL dX5_setSame_37 rfl h4 (fun g5 h6 => ?_)
        have e := g_lt h6 e
        have e := Option.some.inj e
        subst e
        exact r_ret dX5_setSame_38 rfl rfl
/-! X6_offerWidths -/
def lp_X6_offerWidths_48 (b : Bool) (a1 : Int32) (a2 : Int32) (a3 : Bool) (x13_4 : Int32) (y13_5 : Int32) (x48_6 : Int32) (k13 : (Int32 → (Nat → Nat → Int32) → Option (Nat → Nat → Int32))) : Nat → Int32 → (Nat → Nat → Int32) → Option (Nat → Nat → Int32)
  | 0, _, _ => none
  | n + 1, y48_7, g48 =>
  ((f_X6_rowsOf g48 b a1).bind fun v48001 =>
(if v48001 ≤ y48_7 then
k13 (y13_5 + 1) g48
else
(bif a3 then
((f_X6_sameBy g48 b a1 a2 y48_7 x48_6).bind fun v48007 =>
((f_X5_setSame g48 x13_4 y13_5 y48_7 v48007).bind fun v48009 =>
lp_X6_offerWidths_48 b a1 a2 a3 x13_4 y13_5 x48_6 k13 n (y48_7 + 1) v48009))
else
((f_X5_setSame g48 x13_4 y13_5 y48_7 4095).bind fun v48005 =>
lp_X6_offerWidths_48 b a1 a2 a3 x13_4 y13_5 x48_6 k13 n (y48_7 + 1) v48005))))
def lp_X6_offerWidths_13 (b : Bool) (a1 : Int32) (a2 : Int32) (a3 : Bool) (x13_4 : Int32) : Nat → Int32 → (Nat → Nat → Int32) → Option (Nat → Nat → Int32)
  | 0, _, _ => none
  | n + 1, y13_5, g13 =>
  (if 4 ≤ y13_5 then
some g13
else
((f_X5_widthAt g13 y13_5).bind fun v13002 =>
((f_X6_lossBy g13 b a1 a2 v13002).bind fun v13004 =>
((f_X5_setLoss g13 x13_4 y13_5 v13004).bind fun v13006 =>
lp_X6_offerWidths_48 b a1 a2 a3 x13_4 y13_5 v13002 (fun y13_5 g13 => lp_X6_offerWidths_13 b a1 a2 a3 x13_4 n y13_5 g13) 2000 0 v13006))))
def f_X6_offerWidths (g : (Nat → Nat → Int32)) (b : Bool) (a1 : Int32) (a2 : Int32) (a3 : Bool) : Option (Nat → Nat → Int32) :=
  ((f_X5_addColumn g a2).bind fun v1 =>
lp_X6_offerWidths_13 b a1 a2 a3 v1.1 2000 0 v1.2)
set_option maxRecDepth 100000 in
set_option maxHeartbeats 4000000 in
theorem w_X6_offerWidths_48 {G : mG} {b : Bool} {a1 : Int32} {a2 : Int32} {a3 : Bool} {x13_4 : Int32} {y13_5 : Int32} {x48_6 : Int32} {k13 : (Int32 → (Nat → Nat → Int32) → Option (Nat → Nat → Int32))} (hk13 : ∀ (y13_5 : Int32) (g13 : (Nat → Nat → Int32)) (R : (Nat → Nat → Int32)), k13 y13_5 g13 = some R → MW G mX6_offerWidths 4 0 0 13 [.ref 0, .int a1, .int a2, .int (m_bi a3), .int x13_4, .int y13_5, .retAddr 0, .retAddr 0] [] (m_h g13 b) none (m_h R b)) : ∀ (n : Nat) (y48_7 : Int32) (g48 : (Nat → Nat → Int32)) (R : (Nat → Nat → Int32)), lp_X6_offerWidths_48 b a1 a2 a3 x13_4 y13_5 x48_6 k13 n y48_7 g48 = some R → MW G mX6_offerWidths 4 0 0 48 [.ref 0, .int a1, .int a2, .int (m_bi a3), .int x13_4, .int y13_5, .int x48_6, .int y48_7] [] (m_h g48 b) none (m_h R b)
  | 0, _, _, R, e => absurd (show (none : Option (Nat → Nat → Int32)) = some R from e) (fun h => by cases h)
  | n + 1, y48_7, g48, R, e => by
    rw [lp_X6_offerWidths_48] at e
    refine r_iload dX6_offerWidths_48 rfl ?_
    refine r_aload_n dX6_offerWidths_50 rfl rfl ?_
    refine r_iload_n dX6_offerWidths_51 rfl rfl ?_
    obtain ⟨v48001, h48002, e⟩ := g_bd e
    refine q_callV (rest := [.int y48_7]) (c_X6_rowsOf h48002) dX6_offerWidths_52 lkX6_200 rfl rfl rfl rfl (Nat.le_of_ble_eq_true rfl) (by decide) ?_
    refine r_icmp_ge (tgt := 97) dX6_offerWidths_55 (by decide) (fun h48003 => ?_) (fun h48003 => ?_)
    · have e := g_iT h48003 e
      refine r_iinc (y := 1) dX6_offerWidths_97 rfl (by decide) (by decide) rfl ?_
      refine r_goto (tgt := 13) dX6_offerWidths_100 (by decide) ?_
      refine r_forget 6 rfl ?_
      refine r_forget 7 rfl ?_
      exact hk13 _ _ R e
    · have e := g_iF h48003 e
      refine r_aload_n dX6_offerWidths_58 rfl rfl ?_
      refine q_getr dX6_offerWidths_59 flX6_44 rfl rfl (m_fr_0_5 _) ?_
      refine r_iload dX6_offerWidths_62 rfl ?_
      refine r_iload dX6_offerWidths_64 rfl ?_
      refine r_iload dX6_offerWidths_66 rfl ?_
      refine r_iload_n dX6_offerWidths_68 rfl rfl ?_
      refine r_ifeqB (tgt := 85) dX6_offerWidths_69 (by decide) (fun h48004 => ?_) (fun h48004 => ?_)
      · have e := g_cF h48004 e
        refine r_sipush (x := 4095) dX6_offerWidths_85 (by decide) ?_
        obtain ⟨v48005, h48006, e⟩ := g_bd e
        refine q_callV (rest := []) (c_X5_setSame h48006) dX6_offerWidths_88 lkX6_367 rfl rfl rfl rfl (Nat.le_of_ble_eq_true rfl) (by decide) ?_
        refine r_iinc (y := 1) dX6_offerWidths_91 rfl (by decide) (by decide) rfl ?_
        refine r_goto (tgt := 48) dX6_offerWidths_94 (by decide) ?_
        exact w_X6_offerWidths_48 hk13 n _ _ R e
      · have e := g_cT h48004 e
        refine r_aload_n dX6_offerWidths_72 rfl rfl ?_
        refine r_iload_n dX6_offerWidths_73 rfl rfl ?_
        refine r_iload_n dX6_offerWidths_74 rfl rfl ?_
        refine r_iload dX6_offerWidths_75 rfl ?_
        refine r_iload dX6_offerWidths_77 rfl ?_
        obtain ⟨v48007, h48008, e⟩ := g_bd e
        refine q_callV (rest := [.int y48_7, .int y13_5, .int x13_4, .ref 7]) (c_X6_sameBy h48008) dX6_offerWidths_79 lkX6_364 rfl rfl rfl rfl (Nat.le_of_ble_eq_true rfl) (by decide) ?_
        refine r_goto (tgt := 88) dX6_offerWidths_82 (by decide) ?_
        obtain ⟨v48009, h48010, e⟩ := g_bd e
        refine q_callV (rest := []) (c_X5_setSame h48010) dX6_offerWidths_88 lkX6_367 rfl rfl rfl rfl (Nat.le_of_ble_eq_true rfl) (by decide) ?_
        refine r_iinc (y := 1) dX6_offerWidths_91 rfl (by decide) (by decide) rfl ?_
        refine r_goto (tgt := 48) dX6_offerWidths_94 (by decide) ?_
        exact w_X6_offerWidths_48 hk13 n _ _ R e
set_option maxRecDepth 100000 in
set_option maxHeartbeats 4000000 in
theorem w_X6_offerWidths_13 {G : mG} {b : Bool} {a1 : Int32} {a2 : Int32} {a3 : Bool} {x13_4 : Int32} : ∀ (n : Nat) (y13_5 : Int32) (g13 : (Nat → Nat → Int32)) (R : (Nat → Nat → Int32)), lp_X6_offerWidths_13 b a1 a2 a3 x13_4 n y13_5 g13 = some R → MW G mX6_offerWidths 4 0 0 13 [.ref 0, .int a1, .int a2, .int (m_bi a3), .int x13_4, .int y13_5, .retAddr 0, .retAddr 0] [] (m_h g13 b) none (m_h R b)
  | 0, _, _, R, e => absurd (show (none : Option (Nat → Nat → Int32)) = some R from e) (fun h => by cases h)
  | n + 1, y13_5, g13, R, e => by
    rw [lp_X6_offerWidths_13] at e
    refine r_iload dX6_offerWidths_13 rfl ?_
    refine r_iconst (x := 4) dX6_offerWidths_15 (by decide) ?_
    refine r_icmp_ge (tgt := 103) dX6_offerWidths_16 (by decide) (fun h13001 => ?_) (fun h13001 => ?_)
    · have e := g_iT h13001 e
      have e := Option.some.inj e
      subst e
      exact r_ret dX6_offerWidths_103 rfl rfl
    · have e := g_iF h13001 e
      refine r_iload dX6_offerWidths_19 rfl ?_
      obtain ⟨v13002, h13003, e⟩ := g_bd e
      refine q_callS (rest := []) (c_X5_widthAt h13003) dX6_offerWidths_21 lkX6_239 rfl rfl (Nat.le_of_ble_eq_true rfl) (by decide) ?_
      refine r_istore dX6_offerWidths_24 (by decide) rfl ?_
      refine r_aload_n dX6_offerWidths_26 rfl rfl ?_
      refine q_getr dX6_offerWidths_27 flX6_44 rfl rfl (m_fr_0_5 _) ?_
      refine r_iload dX6_offerWidths_30 rfl ?_
      refine r_iload dX6_offerWidths_32 rfl ?_
      refine r_aload_n dX6_offerWidths_34 rfl rfl ?_
      refine r_iload_n dX6_offerWidths_35 rfl rfl ?_
      refine r_iload_n dX6_offerWidths_36 rfl rfl ?_
      refine r_iload dX6_offerWidths_37 rfl ?_
      obtain ⟨v13004, h13005, e⟩ := g_bd e
      refine q_callV (rest := [.int y13_5, .int x13_4, .ref 7]) (c_X6_lossBy h13005) dX6_offerWidths_39 lkX6_223 rfl rfl rfl rfl (Nat.le_of_ble_eq_true rfl) (by decide) ?_
      obtain ⟨v13006, h13007, e⟩ := g_bd e
      refine q_callV (rest := []) (c_X5_setLoss h13007) dX6_offerWidths_42 lkX6_361 rfl rfl rfl rfl (Nat.le_of_ble_eq_true rfl) (by decide) ?_
      refine r_iconst (x := 0) dX6_offerWidths_45 (by decide) ?_
      refine r_istore dX6_offerWidths_46 (by decide) rfl ?_
      exact w_X6_offerWidths_48 (fun y13_5 g13 R e => w_X6_offerWidths_13 n y13_5 g13 R e) 2000 _ _ R e
set_option maxRecDepth 100000 in
set_option maxHeartbeats 4000000 in
theorem c_X6_offerWidths {G : mG} {g : (Nat → Nat → Int32)} {b : Bool} {a1 : Int32} {a2 : Int32} {a3 : Bool} {R : (Nat → Nat → Int32)} (e : f_X6_offerWidths g b a1 a2 a3 = some R) : MC G mX6_offerWidths 4 0 0 [.ref 0, .int a1, .int a2, .int (m_bi a3)] (m_h g b) none (m_h R b) := by
  refine MC_intro mlX6_offerWidths (Nat.le_of_ble_eq_true rfl) rfl rfl trivial ?_
  unfold f_X6_offerWidths at e
  refine r_aload_n dX6_offerWidths_0 rfl rfl ?_
  refine q_getr dX6_offerWidths_1 flX6_44 rfl rfl (m_fr_0_5 _) ?_
  refine r_iload_n dX6_offerWidths_4 rfl rfl ?_
  obtain ⟨v1, h2, e⟩ := g_bd e
  refine q_callV (rest := []) (c_X5_addColumn h2) dX6_offerWidths_5 lkX6_359 rfl rfl rfl rfl (Nat.le_of_ble_eq_true rfl) (by decide) ?_
  refine r_istore dX6_offerWidths_8 (by decide) rfl ?_
  refine r_iconst (x := 0) dX6_offerWidths_10 (by decide) ?_
  refine r_istore dX6_offerWidths_11 (by decide) rfl ?_
  exact w_X6_offerWidths_13 2000 _ _ R e
/-! X5_setOthers -/
def f_X5_setOthers (g : (Nat → Nat → Int32)) (a1 : Int32) (a2 : Int32) : Option (Nat → Nat → Int32) :=
  (if a1 < 0 then
some g
else
(if (g 7 5) ≤ a1 then
some g
else
(if m_in a1 12 then
(m_let (m_up g 11 a1.toNatClampNeg a2) fun g4 =>
some g4) else none)))
set_option maxRecDepth 100000 in
set_option maxHeartbeats 4000000 in
theorem c_X5_setOthers {G : mG} {g : (Nat → Nat → Int32)} {b : Bool} {a1 : Int32} {a2 : Int32} {R : (Nat → Nat → Int32)} (e : f_X5_setOthers g a1 a2 = some R) : MC G mX5_setOthers 0 0 0 [.ref 7, .int a1, .int a2] (m_h g b) none (m_h R b) := by
  refine MC_intro mlX5_setOthers (Nat.le_of_ble_eq_true rfl) rfl rfl trivial ?_
  unfold f_X5_setOthers at e
  refine r_iload_n dX5_setOthers_0 rfl rfl ?_
  refine r_if_lt (tgt := 19) dX5_setOthers_1 (by decide) (fun h1 => ?_) (fun h1 => ?_)
  · have e := g_iT h1 e
    have e := Option.some.inj e
    subst e
    exact r_ret dX5_setOthers_19 rfl rfl
  · have e := g_iF h1 e
    refine r_iload_n dX5_setOthers_4 rfl rfl ?_
    refine r_aload_n dX5_setOthers_5 rfl rfl ?_
    refine q_geti dX5_setOthers_6 flX5_28 rfl rfl ?_
    refine r_icmp_ge (tgt := 19) dX5_setOthers_9 (by decide) (fun h2 => ?_) (fun h2 => ?_)
    · have e := g_iT h2 e
      have e := Option.some.inj e
      subst e
      exact r_ret dX5_setOthers_19 rfl rfl
    · have e := g_iF h2 e
      refine r_aload_n dX5_setOthers_12 rfl rfl ?_
      refine q_getr dX5_setOthers_13 flX5_21 rfl rfl (m_fr_7_3 _) ?_
      refine r_iload_n dX5_setOthers_16 rfl rfl ?_
      refine r_iload_n dX5_setOthers_17 rfl rfl ?_
      obtain ⟨h3, e⟩ := g_gd e
      refine q_iastL dX5_setOthers_18 rfl h3 (fun g4 h5 => ?_)
      have e := g_lt h5 e
      have e := Option.some.inj e
      subst e
      exact r_ret dX5_setOthers_19 rfl rfl
/-! X6_prepareSearch -/
def lp_X6_prepareSearch_79 (b : Bool) (a1 : Int32) (a2 : Int32) (y17_3 : Int32) (k17 : (Int32 → Int32 → (Nat → Nat → Int32) → Option (Nat → Nat → Int32))) : Nat → Int32 → (Nat → Nat → Int32) → Option (Nat → Nat → Int32)
  | 0, _, _ => none
  | n + 1, y79_4, g79 =>
  ((f_X6_rowsOf g79 b a1).bind fun v79001 =>
(if v79001 ≤ y79_4 then
some g79
else
((f_X6_couldSet g79 b a1 y79_4 (a2 &&& (y17_3 ^^^ (-1)))).bind fun v79004 =>
((f_X5_setOthers g79 y79_4 v79004).bind fun v79006 =>
lp_X6_prepareSearch_79 b a1 a2 y17_3 k17 n (y79_4 + 1) v79006))))
def lp_X6_prepareSearch_17 (b : Bool) (a1 : Int32) (a2 : Int32) : Nat → Int32 → Int32 → (Nat → Nat → Int32) → Option (Nat → Nat → Int32)
  | 0, _, _, _ => none
  | n + 1, y17_3, y17_4, g17 =>
  ((f_X6_columnsOf g17 b a1).bind fun v17001 =>
(if v17001 ≤ y17_4 then
lp_X6_prepareSearch_79 b a1 a2 y17_3 (fun y17_3 y17_4 g17 => lp_X6_prepareSearch_17 b a1 a2 n y17_3 y17_4 g17) 2000 0 g17
else
((f_X6_columnAt g17 b a1 y17_4).bind fun v17004 =>
(m_oc v17004
(lp_X6_prepareSearch_17 b a1 a2 n y17_3 (y17_4 + 1) g17)
(fun q17006 =>
(if m_S0[q17006]? = some (.inl 0) then
(if (g17 q17006 2) = 3 then
((f_X6_offerWidths g17 b a1 y17_4 (f_X6_hasBit a2 y17_4)).bind fun v17009 =>
lp_X6_prepareSearch_17 b a1 a2 n (y17_3 ||| (m_shl 1 y17_4)) (y17_4 + 1) v17009)
else
lp_X6_prepareSearch_17 b a1 a2 n y17_3 (y17_4 + 1) g17) else none))))))
def f_X6_prepareSearch (g : (Nat → Nat → Int32)) (b : Bool) (a1 : Int32) (a2 : Int32) : Option (Nat → Nat → Int32) :=
  ((f_X6_rowsOf g b a1).bind fun v1 =>
((f_X5_begin g v1).bind fun v3 =>
lp_X6_prepareSearch_17 b a1 a2 2000 0 0 v3))
set_option maxRecDepth 100000 in
set_option maxHeartbeats 4000000 in
theorem w_X6_prepareSearch_79 {G : mG} {b : Bool} {a1 : Int32} {a2 : Int32} {y17_3 : Int32} {k17 : (Int32 → Int32 → (Nat → Nat → Int32) → Option (Nat → Nat → Int32))} (hk17 : ∀ (y17_3 : Int32) (y17_4 : Int32) (g17 : (Nat → Nat → Int32)) (R : (Nat → Nat → Int32)), k17 y17_3 y17_4 g17 = some R → MW G mX6_prepareSearch 5 0 0 17 [.ref 0, .int a1, .int a2, .int y17_3, .int y17_4, .retAddr 0] [] (m_h g17 b) none (m_h R b)) : ∀ (n : Nat) (y79_4 : Int32) (g79 : (Nat → Nat → Int32)) (R : (Nat → Nat → Int32)), lp_X6_prepareSearch_79 b a1 a2 y17_3 k17 n y79_4 g79 = some R → MW G mX6_prepareSearch 5 0 0 79 [.ref 0, .int a1, .int a2, .int y17_3, .int y79_4, .retAddr 0] [] (m_h g79 b) none (m_h R b)
  | 0, _, _, R, e => absurd (show (none : Option (Nat → Nat → Int32)) = some R from e) (fun h => by cases h)
  | n + 1, y79_4, g79, R, e => by
    rw [lp_X6_prepareSearch_79] at e
    refine r_iload dX6_prepareSearch_79 rfl ?_
    refine r_aload_n dX6_prepareSearch_81 rfl rfl ?_
    refine r_iload_n dX6_prepareSearch_82 rfl rfl ?_
    obtain ⟨v79001, h79002, e⟩ := g_bd e
    refine q_callV (rest := [.int y79_4]) (c_X6_rowsOf h79002) dX6_prepareSearch_83 lkX6_200 rfl rfl rfl rfl (Nat.le_of_ble_eq_true rfl) (by decide) ?_
    refine r_icmp_ge (tgt := 116) dX6_prepareSearch_86 (by decide) (fun h79003 => ?_) (fun h79003 => ?_)
    · have e := g_iT h79003 e
      have e := Option.some.inj e
      subst e
      exact r_ret dX6_prepareSearch_116 rfl rfl
    · have e := g_iF h79003 e
      refine r_aload_n dX6_prepareSearch_89 rfl rfl ?_
      refine q_getr dX6_prepareSearch_90 flX6_44 rfl rfl (m_fr_0_5 _) ?_
      refine r_iload dX6_prepareSearch_93 rfl ?_
      refine r_aload_n dX6_prepareSearch_95 rfl rfl ?_
      refine r_iload_n dX6_prepareSearch_96 rfl rfl ?_
      refine r_iload dX6_prepareSearch_97 rfl ?_
      refine r_iload_n dX6_prepareSearch_99 rfl rfl ?_
      refine r_iload_n dX6_prepareSearch_100 rfl rfl ?_
      refine r_iconst (x := (-1)) dX6_prepareSearch_101 (by decide) ?_
      refine r_ixor dX6_prepareSearch_102 ?_
      refine r_iand dX6_prepareSearch_103 ?_
      obtain ⟨v79004, h79005, e⟩ := g_bd e
      refine q_callV (rest := [.int y79_4, .ref 7]) (c_X6_couldSet h79005) dX6_prepareSearch_104 lkX6_211 rfl rfl rfl rfl (Nat.le_of_ble_eq_true rfl) (by decide) ?_
      obtain ⟨v79006, h79007, e⟩ := g_bd e
      refine q_callV (rest := []) (c_X5_setOthers h79007) dX6_prepareSearch_107 lkX6_356 rfl rfl rfl rfl (Nat.le_of_ble_eq_true rfl) (by decide) ?_
      refine r_iinc (y := 1) dX6_prepareSearch_110 rfl (by decide) (by decide) rfl ?_
      refine r_goto (tgt := 79) dX6_prepareSearch_113 (by decide) ?_
      exact w_X6_prepareSearch_79 hk17 n _ _ R e
set_option maxRecDepth 100000 in
set_option maxHeartbeats 4000000 in
theorem w_X6_prepareSearch_17 {G : mG} {b : Bool} {a1 : Int32} {a2 : Int32} : ∀ (n : Nat) (y17_3 : Int32) (y17_4 : Int32) (g17 : (Nat → Nat → Int32)) (R : (Nat → Nat → Int32)), lp_X6_prepareSearch_17 b a1 a2 n y17_3 y17_4 g17 = some R → MW G mX6_prepareSearch 5 0 0 17 [.ref 0, .int a1, .int a2, .int y17_3, .int y17_4, .retAddr 0] [] (m_h g17 b) none (m_h R b)
  | 0, _, _, _, R, e => absurd (show (none : Option (Nat → Nat → Int32)) = some R from e) (fun h => by cases h)
  | n + 1, y17_3, y17_4, g17, R, e => by
    rw [lp_X6_prepareSearch_17] at e
    refine r_iload dX6_prepareSearch_17 rfl ?_
    refine r_aload_n dX6_prepareSearch_19 rfl rfl ?_
    refine r_iload_n dX6_prepareSearch_20 rfl rfl ?_
    obtain ⟨v17001, h17002, e⟩ := g_bd e
    refine q_callV (rest := [.int y17_4]) (c_X6_columnsOf h17002) dX6_prepareSearch_21 lkX6_249 rfl rfl rfl rfl (Nat.le_of_ble_eq_true rfl) (by decide) ?_
    refine r_icmp_ge (tgt := 76) dX6_prepareSearch_24 (by decide) (fun h17003 => ?_) (fun h17003 => ?_)
    · have e := g_iT h17003 e
      refine r_iconst (x := 0) dX6_prepareSearch_76 (by decide) ?_
      refine r_istore dX6_prepareSearch_77 (by decide) rfl ?_
      exact w_X6_prepareSearch_79 (fun y17_3 y17_4 g17 R e => w_X6_prepareSearch_17 n y17_3 y17_4 g17 R e) 2000 _ _ R e
    · have e := g_iF h17003 e
      refine r_aload_n dX6_prepareSearch_27 rfl rfl ?_
      refine r_iload_n dX6_prepareSearch_28 rfl rfl ?_
      refine r_iload dX6_prepareSearch_29 rfl ?_
      obtain ⟨v17004, h17005, e⟩ := g_bd e
      refine q_callV (rest := []) (c_X6_columnAt h17005) dX6_prepareSearch_31 lkX6_99 rfl rfl rfl rfl (Nat.le_of_ble_eq_true rfl) (by decide) ?_
      refine r_astoreO dX6_prepareSearch_34 (by decide) rfl ?_
      refine r_aloadO dX6_prepareSearch_36 rfl ?_
      cases v17004 with
      | none =>
        have e := g_oN e
        refine r_ifnullN (tgt := 70) dX6_prepareSearch_38 (by decide) ?_
        refine r_iinc (y := 1) dX6_prepareSearch_70 rfl (by decide) (by decide) rfl ?_
        refine r_goto (tgt := 17) dX6_prepareSearch_73 (by decide) ?_
        refine r_forget 5 rfl ?_
        exact w_X6_prepareSearch_17 n _ _ _ R e
      | some q17006 =>
        have e := g_oS e
        refine r_ifnull (tgt := 70) dX6_prepareSearch_38 (by decide) ?_
        refine r_aload dX6_prepareSearch_41 rfl ?_
        obtain ⟨h17007, e⟩ := g_gd e
        refine q_geti dX6_prepareSearch_43 flX6_118 rfl h17007 ?_
        refine r_iconst (x := 3) dX6_prepareSearch_46 (by decide) ?_
        refine r_icmp_ne (tgt := 70) dX6_prepareSearch_47 (by decide) (fun h17008 => ?_) (fun h17008 => ?_)
        · have e := g_iF h17008 e
          refine r_iinc (y := 1) dX6_prepareSearch_70 rfl (by decide) (by decide) rfl ?_
          refine r_goto (tgt := 17) dX6_prepareSearch_73 (by decide) ?_
          refine r_forget 5 rfl ?_
          exact w_X6_prepareSearch_17 n _ _ _ R e
        · have e := g_iT h17008 e
          refine r_iload_n dX6_prepareSearch_50 rfl rfl ?_
          refine r_iconst (x := 1) dX6_prepareSearch_51 (by decide) ?_
          refine r_iload dX6_prepareSearch_52 rfl ?_
          refine q_ishl dX6_prepareSearch_54 ?_
          refine r_ior dX6_prepareSearch_55 ?_
          refine r_istore_n dX6_prepareSearch_56 rfl (by decide) rfl ?_
          refine r_aload_n dX6_prepareSearch_57 rfl rfl ?_
          refine r_iload_n dX6_prepareSearch_58 rfl rfl ?_
          refine r_iload dX6_prepareSearch_59 rfl ?_
          refine r_iload_n dX6_prepareSearch_61 rfl rfl ?_
          refine r_iload dX6_prepareSearch_62 rfl ?_
          refine q_callS (rest := [.int y17_4, .int a1, .ref 0]) (c_X6_hasBit rfl) dX6_prepareSearch_64 lkX6_220 rfl rfl (Nat.le_of_ble_eq_true rfl) (by decide) ?_
          obtain ⟨v17009, h17010, e⟩ := g_bd e
          refine q_callV (rest := []) (c_X6_offerWidths h17010) dX6_prepareSearch_67 lkX6_352 rfl rfl rfl rfl (Nat.le_of_ble_eq_true rfl) (by decide) ?_
          refine r_iinc (y := 1) dX6_prepareSearch_70 rfl (by decide) (by decide) rfl ?_
          refine r_goto (tgt := 17) dX6_prepareSearch_73 (by decide) ?_
          refine r_forget 5 rfl ?_
          exact w_X6_prepareSearch_17 n _ _ _ R e
set_option maxRecDepth 100000 in
set_option maxHeartbeats 4000000 in
theorem c_X6_prepareSearch {G : mG} {g : (Nat → Nat → Int32)} {b : Bool} {a1 : Int32} {a2 : Int32} {R : (Nat → Nat → Int32)} (e : f_X6_prepareSearch g b a1 a2 = some R) : MC G mX6_prepareSearch 5 0 0 [.ref 0, .int a1, .int a2] (m_h g b) none (m_h R b) := by
  refine MC_intro mlX6_prepareSearch (Nat.le_of_ble_eq_true rfl) rfl rfl trivial ?_
  unfold f_X6_prepareSearch at e
  refine r_aload_n dX6_prepareSearch_0 rfl rfl ?_
  refine q_getr dX6_prepareSearch_1 flX6_44 rfl rfl (m_fr_0_5 _) ?_
  refine r_aload_n dX6_prepareSearch_4 rfl rfl ?_
  refine r_iload_n dX6_prepareSearch_5 rfl rfl ?_
  obtain ⟨v1, h2, e⟩ := g_bd e
  refine q_callV (rest := [.ref 7]) (c_X6_rowsOf h2) dX6_prepareSearch_6 lkX6_200 rfl rfl rfl rfl (Nat.le_of_ble_eq_true rfl) (by decide) ?_
  obtain ⟨v3, h4, e⟩ := g_bd e
  refine q_callV (rest := []) (c_X5_begin h4) dX6_prepareSearch_9 lkX6_349 rfl rfl rfl rfl (Nat.le_of_ble_eq_true rfl) (by decide) ?_
  refine r_iconst (x := 0) dX6_prepareSearch_12 (by decide) ?_
  refine r_istore_n dX6_prepareSearch_13 rfl (by decide) rfl ?_
  refine r_iconst (x := 0) dX6_prepareSearch_14 (by decide) ?_
  refine r_istore dX6_prepareSearch_15 (by decide) rfl ?_
  exact w_X6_prepareSearch_17 2000 _ _ _ R e
