/-! X6_isBit -/
def f_X6_isBit (a1 : Int32) : Bool :=
  (if a1 = 0 then
true
else
(if a1 = 1 then
true
else
false))
set_option maxRecDepth 100000 in
set_option maxHeartbeats 4000000 in
theorem c_X6_isBit {G : mG} {g : (Nat → Nat → Int32)} {b : Bool} {a1 : Int32} {R : Bool} (e : f_X6_isBit a1 = R) : MC G mX6_isBit 0 0 0 [.int a1] (m_h g b) (some (.int (m_bi R))) (m_h g b) := by
  refine MC_intro mlX6_isBit (Nat.le_of_ble_eq_true rfl) (m_okZ _) rfl trivial ?_
  unfold f_X6_isBit at e
  refine r_iload_n dX6_isBit_0 rfl rfl ?_
  refine r_if_eq (tgt := 9) dX6_isBit_1 (by decide) (fun h1 => ?_) (fun h1 => ?_)
  · have e := g_iT h1 e
    refine r_iconst (x := 1) dX6_isBit_9 (by decide) ?_
    refine r_goto (tgt := 14) dX6_isBit_10 (by decide) ?_
    subst e
    exact r_ret dX6_isBit_14 rfl rfl
  · have e := g_iF h1 e
    refine r_iload_n dX6_isBit_4 rfl rfl ?_
    refine r_iconst (x := 1) dX6_isBit_5 (by decide) ?_
    refine r_icmp_ne (tgt := 13) dX6_isBit_6 (by decide) (fun h2 => ?_) (fun h2 => ?_)
    · have e := g_iF h2 e
      refine r_iconst (x := 0) dX6_isBit_13 (by decide) ?_
      subst e
      exact r_ret dX6_isBit_14 rfl rfl
    · have e := g_iT h2 e
      refine r_iconst (x := 1) dX6_isBit_9 (by decide) ?_
      refine r_goto (tgt := 14) dX6_isBit_10 (by decide) ?_
      subst e
      exact r_ret dX6_isBit_14 rfl rfl
/-! X3_setAgree -/
def f_X3_setAgree (g : (Nat → Nat → Int32)) (x : Nat) (a1 : Int32) (a2 : Int32) (a3 : Int32) (a4 : Int32) (a5 : Int32) (a6 : Bool) : Option (Nat → Nat → Int32) :=
  (if m_S0[x]? = some (.inl 3) then
(m_let (m_up g x 0 1) fun g2 =>
(m_let (m_up g2 x 1 a1) fun g4 =>
(m_let (m_up g4 x 2 a2) fun g6 =>
(m_let (m_up g6 x 4 a3) fun g8 =>
(m_let (m_up g8 x 3 a4) fun g10 =>
(m_let (m_up g10 x 5 a5) fun g12 =>
(m_let (m_up g12 x 6 (m_bi a6)) fun g14 =>
some g14))))))) else none)
set_option maxRecDepth 100000 in
set_option maxHeartbeats 4000000 in
theorem c_X3_setAgree {G : mG} {g : (Nat → Nat → Int32)} {b : Bool} {x : Nat} {a1 : Int32} {a2 : Int32} {a3 : Int32} {a4 : Int32} {a5 : Int32} {a6 : Bool} {R : (Nat → Nat → Int32)} (e : f_X3_setAgree g x a1 a2 a3 a4 a5 a6 = some R) : MC G mX3_setAgree 0 0 0 [.ref x, .int a1, .int a2, .int a3, .int a4, .int a5, .int (m_bi a6)] (m_h g b) none (m_h R b) := by
  refine MC_intro mlX3_setAgree (Nat.le_of_ble_eq_true rfl) rfl rfl trivial ?_
  unfold f_X3_setAgree at e
  refine r_aload_n dX3_setAgree_0 rfl rfl ?_
  refine r_iconst (x := 1) dX3_setAgree_1 (by decide) ?_
  obtain ⟨h1, e⟩ := g_gd e
  refine q_putiL dX3_setAgree_2 flX3_9 (Or.inl rfl) (Or.inl rfl) h1 (fun g2 h3 => ?_)
  have e := g_lt h3 e
  refine r_aload_n dX3_setAgree_5 rfl rfl ?_
  refine r_iload_n dX3_setAgree_6 rfl rfl ?_
  refine q_putiL dX3_setAgree_7 flX3_15 (Or.inl rfl) (Or.inl rfl) h1 (fun g4 h5 => ?_)
  have e := g_lt h5 e
  refine r_aload_n dX3_setAgree_10 rfl rfl ?_
  refine r_iload_n dX3_setAgree_11 rfl rfl ?_
  refine q_putiL dX3_setAgree_12 flX3_18 (Or.inl rfl) (Or.inl rfl) h1 (fun g6 h7 => ?_)
  have e := g_lt h7 e
  refine r_aload_n dX3_setAgree_15 rfl rfl ?_
  refine r_iload_n dX3_setAgree_16 rfl rfl ?_
  refine q_putiL dX3_setAgree_17 flX3_24 (Or.inl rfl) (Or.inl rfl) h1 (fun g8 h9 => ?_)
  have e := g_lt h9 e
  refine r_aload_n dX3_setAgree_20 rfl rfl ?_
  refine r_iload dX3_setAgree_21 rfl ?_
  refine q_putiL dX3_setAgree_23 flX3_21 (Or.inl rfl) (Or.inl rfl) h1 (fun g10 h11 => ?_)
  have e := g_lt h11 e
  refine r_aload_n dX3_setAgree_26 rfl rfl ?_
  refine r_iload dX3_setAgree_27 rfl ?_
  refine q_putiL dX3_setAgree_29 flX3_27 (Or.inl rfl) (Or.inl rfl) h1 (fun g12 h13 => ?_)
  have e := g_lt h13 e
  refine r_aload_n dX3_setAgree_32 rfl rfl ?_
  refine r_iload dX3_setAgree_33 rfl ?_
  refine q_putiL dX3_setAgree_35 flX3_30 (Or.inl rfl) (Or.inr ⟨rfl, m_bi01 _⟩) h1 (fun g14 h15 => ?_)
  have e := g_lt h15 e
  have e := Option.some.inj e
  subst e
  exact r_ret dX3_setAgree_38 rfl rfl
/-! X6_agree -/
def f_X6_agree (g : (Nat → Nat → Int32)) (b : Bool) (a1 : Int32) (a2 : Int32) (a3 : Int32) (a4 : Int32) (a5 : Int32) (a6 : Int32) : Option (Int32 × (Nat → Nat → Int32)) :=
  ((f_X6_columnAt g b a1 a2).bind fun v1 =>
((f_X6_columnAt g b a3 a4).bind fun v3 =>
((f_X6_columnAt g b a3 a5).bind fun v5 =>
(m_oc v1
(some ((-1), g))
(fun q7 =>
(m_oc v3
(some ((-1), g))
(fun q8 =>
(m_oc v5
(some ((-1), g))
(fun q9 =>
(if m_S0[q7]? = some (.inl 0) then
(if (g q7 0) = 3 then
(if m_S0[q8]? = some (.inl 0) then
(if (g q8 0) = 3 then
(if m_S0[q9]? = some (.inl 0) then
(if (g q9 0) = 1 then
(if (g q9 1) = a1 then
(if a1 = a3 then
some ((-2), g)
else
(bif (f_X6_isBit a6) then
((f_X6_nextRule g b).bind fun v19 =>
(m_oc v19
(some ((-4), g))
(fun q21 =>
(if a6 = 1 then
(if m_S0[q21]? = some (.inl 3) then
((f_X3_setAgree g q21 a1 a2 a3 a4 a5 true).bind fun v29 =>
((f_X6_addRule v29).bind fun v31 =>
some (v31.1, v31.2))) else none)
else
(if m_S0[q21]? = some (.inl 3) then
((f_X3_setAgree g q21 a1 a2 a3 a4 a5 false).bind fun v24 =>
((f_X6_addRule v24).bind fun v26 =>
some (v26.1, v26.2))) else none)))))
else
some ((-2), g)))
else
some ((-2), g))
else
some ((-2), g)) else none)
else
some ((-2), g)) else none)
else
some ((-2), g)) else none))))))))))
set_option maxRecDepth 100000 in
set_option maxHeartbeats 4000000 in
theorem c_X6_agree {G : mG} {g : (Nat → Nat → Int32)} {b : Bool} {a1 : Int32} {a2 : Int32} {a3 : Int32} {a4 : Int32} {a5 : Int32} {a6 : Int32} {R : (Int32 × (Nat → Nat → Int32))} (e : f_X6_agree g b a1 a2 a3 a4 a5 a6 = some R) : MC G mX6_agree 2 0 0 [.ref 0, .int a1, .int a2, .int a3, .int a4, .int a5, .int a6] (m_h g b) (some (.int R.1)) (m_h R.2 b) := by
  refine MC_intro mlX6_agree (Nat.le_of_ble_eq_true rfl) ⟨_, rfl⟩ rfl trivial ?_
  unfold f_X6_agree at e
  refine r_aload_n dX6_agree_0 rfl rfl ?_
  refine r_iload_n dX6_agree_1 rfl rfl ?_
  refine r_iload_n dX6_agree_2 rfl rfl ?_
  obtain ⟨v1, h2, e⟩ := g_bd e
  refine q_callV (rest := []) (c_X6_columnAt h2) dX6_agree_3 lkX6_99 rfl rfl rfl rfl (Nat.le_of_ble_eq_true rfl) (by decide) ?_
  refine r_astoreO dX6_agree_6 (by decide) rfl ?_
  refine r_aload_n dX6_agree_8 rfl rfl ?_
  refine r_iload_n dX6_agree_9 rfl rfl ?_
  refine r_iload dX6_agree_10 rfl ?_
  obtain ⟨v3, h4, e⟩ := g_bd e
  refine q_callV (rest := []) (c_X6_columnAt h4) dX6_agree_12 lkX6_99 rfl rfl rfl rfl (Nat.le_of_ble_eq_true rfl) (by decide) ?_
  refine r_astoreO dX6_agree_15 (by decide) rfl ?_
  refine r_aload_n dX6_agree_17 rfl rfl ?_
  refine r_iload_n dX6_agree_18 rfl rfl ?_
  refine r_iload dX6_agree_19 rfl ?_
  obtain ⟨v5, h6, e⟩ := g_bd e
  refine q_callV (rest := []) (c_X6_columnAt h6) dX6_agree_21 lkX6_99 rfl rfl rfl rfl (Nat.le_of_ble_eq_true rfl) (by decide) ?_
  refine r_astoreO dX6_agree_24 (by decide) rfl ?_
  refine r_aloadO dX6_agree_26 rfl ?_
  cases v1 with
  | none =>
    have e := g_oN e
    refine r_ifnullN (tgt := 41) dX6_agree_28 (by decide) ?_
    refine r_iconst (x := (-1)) dX6_agree_41 (by decide) ?_
    have e := Option.some.inj e
    subst e
    exact r_ret dX6_agree_42 rfl rfl
  | some q7 =>
    have e := g_oS e
    refine r_ifnull (tgt := 41) dX6_agree_28 (by decide) ?_
    refine r_aloadO dX6_agree_31 rfl ?_
    cases v3 with
    | none =>
      have e := g_oN e
      refine r_ifnullN (tgt := 41) dX6_agree_33 (by decide) ?_
      refine r_iconst (x := (-1)) dX6_agree_41 (by decide) ?_
      have e := Option.some.inj e
      subst e
      exact r_ret dX6_agree_42 rfl rfl
    | some q8 =>
      have e := g_oS e
      refine r_ifnull (tgt := 41) dX6_agree_33 (by decide) ?_
      refine r_aloadO dX6_agree_36 rfl ?_
      cases v5 with
      | none =>
        have e := g_oN e
        refine r_ifnonnullN (tgt := 43) dX6_agree_38 (by decide) ?_
        refine r_iconst (x := (-1)) dX6_agree_41 (by decide) ?_
        have e := Option.some.inj e
        subst e
        exact r_ret dX6_agree_42 rfl rfl
      | some q9 =>
        have e := g_oS e
        refine r_ifnonnull (tgt := 43) dX6_agree_38 (by decide) ?_
        refine r_aload dX6_agree_43 rfl ?_
        obtain ⟨h10, e⟩ := g_gd e
        refine q_geti dX6_agree_45 flX6_103 rfl h10 ?_
        refine r_iconst (x := 3) dX6_agree_48 (by decide) ?_
        refine r_icmp_ne (tgt := 79) dX6_agree_49 (by decide) (fun h11 => ?_) (fun h11 => ?_)
        · have e := g_iF h11 e
          refine r_bipush (x := (-2)) dX6_agree_79 (by decide) ?_
          have e := Option.some.inj e
          subst e
          exact r_ret dX6_agree_81 rfl rfl
        · have e := g_iT h11 e
          refine r_aload dX6_agree_52 rfl ?_
          obtain ⟨h12, e⟩ := g_gd e
          refine q_geti dX6_agree_54 flX6_103 rfl h12 ?_
          refine r_iconst (x := 3) dX6_agree_57 (by decide) ?_
          refine r_icmp_ne (tgt := 79) dX6_agree_58 (by decide) (fun h13 => ?_) (fun h13 => ?_)
          · have e := g_iF h13 e
            refine r_bipush (x := (-2)) dX6_agree_79 (by decide) ?_
            have e := Option.some.inj e
            subst e
            exact r_ret dX6_agree_81 rfl rfl
          · have e := g_iT h13 e
            refine r_aload dX6_agree_61 rfl ?_
            obtain ⟨h14, e⟩ := g_gd e
            refine q_geti dX6_agree_63 flX6_103 rfl h14 ?_
            refine r_iconst (x := 1) dX6_agree_66 (by decide) ?_
            refine r_icmp_ne (tgt := 79) dX6_agree_67 (by decide) (fun h15 => ?_) (fun h15 => ?_)
            · have e := g_iF h15 e
              refine r_bipush (x := (-2)) dX6_agree_79 (by decide) ?_
              have e := Option.some.inj e
              subst e
              exact r_ret dX6_agree_81 rfl rfl
            · have e := g_iT h15 e
              refine r_aload dX6_agree_70 rfl ?_
              refine q_geti dX6_agree_72 flX6_146 rfl h14 ?_
              refine r_iload_n dX6_agree_75 rfl rfl ?_
              refine r_icmp_eq (tgt := 82) dX6_agree_76 (by decide) (fun h16 => ?_) (fun h16 => ?_)
              · have e := g_iT h16 e
                refine r_iload_n dX6_agree_82 rfl rfl ?_
                refine r_iload_n dX6_agree_83 rfl rfl ?_
                refine r_icmp_eq (tgt := 95) dX6_agree_84 (by decide) (fun h17 => ?_) (fun h17 => ?_)
                · have e := g_iT h17 e
                  refine r_bipush (x := (-2)) dX6_agree_95 (by decide) ?_
                  have e := Option.some.inj e
                  subst e
                  exact r_ret dX6_agree_97 rfl rfl
                · have e := g_iF h17 e
                  refine r_iload dX6_agree_87 rfl ?_
                  refine q_callS (rest := []) (c_X6_isBit rfl) dX6_agree_89 lkX6_149 rfl rfl (Nat.le_of_ble_eq_true rfl) (by decide) ?_
                  refine r_ifneB (tgt := 98) dX6_agree_92 (by decide) (fun h18 => ?_) (fun h18 => ?_)
                  · have e := g_cT h18 e
                    refine r_aload_n dX6_agree_98 rfl rfl ?_
                    obtain ⟨v19, h20, e⟩ := g_bd e
                    refine q_callV (rest := []) (c_X6_nextRule h20) dX6_agree_99 lkX6_134 rfl rfl rfl rfl (Nat.le_of_ble_eq_true rfl) (by decide) ?_
                    refine r_astoreO dX6_agree_102 (by decide) rfl ?_
                    refine r_aloadO dX6_agree_104 rfl ?_
                    cases v19 with
                    | none =>
                      have e := g_oN e
                      refine r_ifnonnullN (tgt := 112) dX6_agree_106 (by decide) ?_
                      refine r_bipush (x := (-4)) dX6_agree_109 (by decide) ?_
                      have e := Option.some.inj e
                      subst e
                      exact r_ret dX6_agree_111 rfl rfl
                    | some q21 =>
                      have e := g_oS e
                      refine r_ifnonnull (tgt := 112) dX6_agree_106 (by decide) ?_
                      refine r_aload dX6_agree_112 rfl ?_
                      refine r_iload_n dX6_agree_114 rfl rfl ?_
                      refine r_iload_n dX6_agree_115 rfl rfl ?_
                      refine r_iload_n dX6_agree_116 rfl rfl ?_
                      refine r_iload dX6_agree_117 rfl ?_
                      refine r_iload dX6_agree_119 rfl ?_
                      refine r_iload dX6_agree_121 rfl ?_
                      refine r_iconst (x := 1) dX6_agree_123 (by decide) ?_
                      refine r_icmp_ne (tgt := 131) dX6_agree_124 (by decide) (fun h22 => ?_) (fun h22 => ?_)
                      · have e := g_iF h22 e
                        refine r_iconst (x := 0) dX6_agree_131 (by decide) ?_
                        obtain ⟨h23, e⟩ := g_gd e
                        obtain ⟨v24, h25, e⟩ := g_bd e
                        refine q_callV (rest := []) (c_X3_setAgree h25) dX6_agree_132 lkX6_153 h23 rfl rfl rfl (Nat.le_of_ble_eq_true rfl) (by decide) ?_
                        refine r_aload_n dX6_agree_135 rfl rfl ?_
                        obtain ⟨v26, h27, e⟩ := g_bd e
                        refine q_callV (rest := []) (c_X6_addRule h27) dX6_agree_136 lkX6_142 rfl rfl rfl rfl (Nat.le_of_ble_eq_true rfl) (by decide) ?_
                        have e := Option.some.inj e
                        subst e
                        exact r_ret dX6_agree_139 rfl rfl
                      · have e := g_iT h22 e
                        refine r_iconst (x := 1) dX6_agree_127 (by decide) ?_
                        refine r_goto (tgt := 132) dX6_agree_128 (by decide) ?_
                        obtain ⟨h28, e⟩ := g_gd e
                        obtain ⟨v29, h30, e⟩ := g_bd e
                        refine q_callV (rest := []) (c_X3_setAgree h30) dX6_agree_132 lkX6_153 h28 rfl rfl rfl (Nat.le_of_ble_eq_true rfl) (by decide) ?_
                        refine r_aload_n dX6_agree_135 rfl rfl ?_
                        obtain ⟨v31, h32, e⟩ := g_bd e
                        refine q_callV (rest := []) (c_X6_addRule h32) dX6_agree_136 lkX6_142 rfl rfl rfl rfl (Nat.le_of_ble_eq_true rfl) (by decide) ?_
                        have e := Option.some.inj e
                        subst e
                        exact r_ret dX6_agree_139 rfl rfl
                  · have e := g_cF h18 e
                    refine r_bipush (x := (-2)) dX6_agree_95 (by decide) ?_
                    have e := Option.some.inj e
                    subst e
                    exact r_ret dX6_agree_97 rfl rfl
              · have e := g_iF h16 e
                refine r_bipush (x := (-2)) dX6_agree_79 (by decide) ?_
                have e := Option.some.inj e
                subst e
                exact r_ret dX6_agree_81 rfl rfl
/-! X3_setFound -/
def f_X3_setFound (g : (Nat → Nat → Int32)) (x : Nat) (a1 : Int32) (a2 : Int32) : Option (Nat → Nat → Int32) :=
  (if m_S0[x]? = some (.inl 3) then
(m_let (m_up g x 0 2) fun g2 =>
(m_let (m_up g2 x 1 a1) fun g4 =>
(m_let (m_up g4 x 2 a2) fun g6 =>
some g6))) else none)
set_option maxRecDepth 100000 in
set_option maxHeartbeats 4000000 in
theorem c_X3_setFound {G : mG} {g : (Nat → Nat → Int32)} {b : Bool} {x : Nat} {a1 : Int32} {a2 : Int32} {R : (Nat → Nat → Int32)} (e : f_X3_setFound g x a1 a2 = some R) : MC G mX3_setFound 0 0 0 [.ref x, .int a1, .int a2] (m_h g b) none (m_h R b) := by
  refine MC_intro mlX3_setFound (Nat.le_of_ble_eq_true rfl) rfl rfl trivial ?_
  unfold f_X3_setFound at e
  refine r_aload_n dX3_setFound_0 rfl rfl ?_
  refine r_iconst (x := 2) dX3_setFound_1 (by decide) ?_
  obtain ⟨h1, e⟩ := g_gd e
  refine q_putiL dX3_setFound_2 flX3_9 (Or.inl rfl) (Or.inl rfl) h1 (fun g2 h3 => ?_)
  have e := g_lt h3 e
  refine r_aload_n dX3_setFound_5 rfl rfl ?_
  refine r_iload_n dX3_setFound_6 rfl rfl ?_
  refine q_putiL dX3_setFound_7 flX3_15 (Or.inl rfl) (Or.inl rfl) h1 (fun g4 h5 => ?_)
  have e := g_lt h5 e
  refine r_aload_n dX3_setFound_10 rfl rfl ?_
  refine r_iload_n dX3_setFound_11 rfl rfl ?_
  refine q_putiL dX3_setFound_12 flX3_18 (Or.inl rfl) (Or.inl rfl) h1 (fun g6 h7 => ?_)
  have e := g_lt h7 e
  have e := Option.some.inj e
  subst e
  exact r_ret dX3_setFound_15 rfl rfl
/-! X6_found -/
def f_X6_found (g : (Nat → Nat → Int32)) (b : Bool) (a1 : Int32) (a2 : Int32) : Option (Int32 × (Nat → Nat → Int32)) :=
  ((f_X6_columnAt g b a1 a2).bind fun v1 =>
(m_oc v1
(some ((-1), g))
(fun q3 =>
(if m_S0[q3]? = some (.inl 0) then
(if (g q3 0) = 1 then
((f_X6_nextRule g b).bind fun v6 =>
(m_oc v6
(some ((-4), g))
(fun q8 =>
(if m_S0[q8]? = some (.inl 3) then
((f_X3_setFound g q8 a1 a2).bind fun v10 =>
((f_X6_addRule v10).bind fun v12 =>
some (v12.1, v12.2))) else none))))
else
some ((-2), g)) else none))))
set_option maxRecDepth 100000 in
set_option maxHeartbeats 4000000 in
theorem c_X6_found {G : mG} {g : (Nat → Nat → Int32)} {b : Bool} {a1 : Int32} {a2 : Int32} {R : (Int32 × (Nat → Nat → Int32))} (e : f_X6_found g b a1 a2 = some R) : MC G mX6_found 2 0 0 [.ref 0, .int a1, .int a2] (m_h g b) (some (.int R.1)) (m_h R.2 b) := by
  refine MC_intro mlX6_found (Nat.le_of_ble_eq_true rfl) ⟨_, rfl⟩ rfl trivial ?_
  unfold f_X6_found at e
  refine r_aload_n dX6_found_0 rfl rfl ?_
  refine r_iload_n dX6_found_1 rfl rfl ?_
  refine r_iload_n dX6_found_2 rfl rfl ?_
  obtain ⟨v1, h2, e⟩ := g_bd e
  refine q_callV (rest := []) (c_X6_columnAt h2) dX6_found_3 lkX6_99 rfl rfl rfl rfl (Nat.le_of_ble_eq_true rfl) (by decide) ?_
  refine r_astore_nO dX6_found_6 rfl (by decide) rfl ?_
  refine r_aload_nO dX6_found_7 rfl rfl ?_
  cases v1 with
  | none =>
    have e := g_oN e
    refine r_ifnonnullN (tgt := 13) dX6_found_8 (by decide) ?_
    refine r_iconst (x := (-1)) dX6_found_11 (by decide) ?_
    have e := Option.some.inj e
    subst e
    exact r_ret dX6_found_12 rfl rfl
  | some q3 =>
    have e := g_oS e
    refine r_ifnonnull (tgt := 13) dX6_found_8 (by decide) ?_
    refine r_aload_n dX6_found_13 rfl rfl ?_
    obtain ⟨h4, e⟩ := g_gd e
    refine q_geti dX6_found_14 flX6_103 rfl h4 ?_
    refine r_iconst (x := 1) dX6_found_17 (by decide) ?_
    refine r_icmp_eq (tgt := 24) dX6_found_18 (by decide) (fun h5 => ?_) (fun h5 => ?_)
    · have e := g_iT h5 e
      refine r_aload_n dX6_found_24 rfl rfl ?_
      obtain ⟨v6, h7, e⟩ := g_bd e
      refine q_callV (rest := []) (c_X6_nextRule h7) dX6_found_25 lkX6_134 rfl rfl rfl rfl (Nat.le_of_ble_eq_true rfl) (by decide) ?_
      refine r_astoreO dX6_found_28 (by decide) rfl ?_
      refine r_aloadO dX6_found_30 rfl ?_
      cases v6 with
      | none =>
        have e := g_oN e
        refine r_ifnonnullN (tgt := 38) dX6_found_32 (by decide) ?_
        refine r_bipush (x := (-4)) dX6_found_35 (by decide) ?_
        have e := Option.some.inj e
        subst e
        exact r_ret dX6_found_37 rfl rfl
      | some q8 =>
        have e := g_oS e
        refine r_ifnonnull (tgt := 38) dX6_found_32 (by decide) ?_
        refine r_aload dX6_found_38 rfl ?_
        refine r_iload_n dX6_found_40 rfl rfl ?_
        refine r_iload_n dX6_found_41 rfl rfl ?_
        obtain ⟨h9, e⟩ := g_gd e
        obtain ⟨v10, h11, e⟩ := g_bd e
        refine q_callV (rest := []) (c_X3_setFound h11) dX6_found_42 lkX6_157 h9 rfl rfl rfl (Nat.le_of_ble_eq_true rfl) (by decide) ?_
        refine r_aload_n dX6_found_45 rfl rfl ?_
        obtain ⟨v12, h13, e⟩ := g_bd e
        refine q_callV (rest := []) (c_X6_addRule h13) dX6_found_46 lkX6_142 rfl rfl rfl rfl (Nat.le_of_ble_eq_true rfl) (by decide) ?_
        have e := Option.some.inj e
        subst e
        exact r_ret dX6_found_49 rfl rfl
    · have e := g_iF h5 e
      refine r_bipush (x := (-2)) dX6_found_21 (by decide) ?_
      have e := Option.some.inj e
      subst e
      exact r_ret dX6_found_23 rfl rfl
/-! X6_unrule -/
def f_X6_unrule (g : (Nat → Nat → Int32)) : Option (Int32 × (Nat → Nat → Int32)) :=
  (m_let (m_up g 0 9 0) fun g1 =>
some ((g 0 9), g1))
set_option maxRecDepth 100000 in
set_option maxHeartbeats 4000000 in
theorem c_X6_unrule {G : mG} {g : (Nat → Nat → Int32)} {b : Bool} {R : (Int32 × (Nat → Nat → Int32))} (e : f_X6_unrule g = some R) : MC G mX6_unrule 0 0 0 [.ref 0] (m_h g b) (some (.int R.1)) (m_h R.2 b) := by
  refine MC_intro mlX6_unrule (Nat.le_of_ble_eq_true rfl) ⟨_, rfl⟩ rfl trivial ?_
  unfold f_X6_unrule at e
  refine r_aload_n dX6_unrule_0 rfl rfl ?_
  refine q_geti dX6_unrule_1 flX6_58 rfl rfl ?_
  refine r_istore_n dX6_unrule_4 rfl (by decide) rfl ?_
  refine r_aload_n dX6_unrule_5 rfl rfl ?_
  refine r_iconst (x := 0) dX6_unrule_6 (by decide) ?_
  refine q_putiL dX6_unrule_7 flX6_58 (Or.inl rfl) (Or.inl rfl) rfl (fun g1 h2 => ?_)
  have e := g_lt h2 e
  refine r_iload_n dX6_unrule_10 rfl rfl ?_
  have e := Option.some.inj e
  subst e
  exact r_ret dX6_unrule_11 rfl rfl
/-! X6_copyOf -/
def f_X6_copyOf (g : (Nat → Nat → Int32)) (b : Bool) (a1 : Int32) : Option (Option Nat) :=
  (if a1 = 0 then
some (some 4)
else
(if (g 0 12) = 0 then
some none
else
some (some (m_pM b))))
set_option maxRecDepth 100000 in
set_option maxHeartbeats 4000000 in
theorem c_X6_copyOf {G : mG} {g : (Nat → Nat → Int32)} {b : Bool} {a1 : Int32} {R : (Option Nat)} (e : f_X6_copyOf g b a1 = some R) : MC G mX6_copyOf 0 0 0 [.ref 0, .int a1] (m_h g b) (some (va_rf R)) (m_h g b) := by
  refine MC_intro mlX6_copyOf (Nat.le_of_ble_eq_true rfl) (m_okO _) rfl trivial ?_
  unfold f_X6_copyOf at e
  refine r_iload_n dX6_copyOf_0 rfl rfl ?_
  refine r_if_ne (tgt := 9) dX6_copyOf_1 (by decide) (fun h1 => ?_) (fun h1 => ?_)
  · have e := g_iF h1 e
    refine r_aload_n dX6_copyOf_9 rfl rfl ?_
    refine q_geti dX6_copyOf_10 flX6_67 rfl rfl ?_
    refine r_if_eq (tgt := 23) dX6_copyOf_13 (by decide) (fun h2 => ?_) (fun h2 => ?_)
    · have e := g_iT h2 e
      refine r_null dX6_copyOf_23 ?_
      have e := Option.some.inj e
      subst e
      exact r_ret dX6_copyOf_24 rfl rfl
    · have e := g_iF h2 e
      refine r_aload_n dX6_copyOf_16 rfl rfl ?_
      refine q_getr dX6_copyOf_17 flX6_48 rfl rfl (m_fr_0_6 _) ?_
      refine r_goto (tgt := 24) dX6_copyOf_20 (by decide) ?_
      have e := Option.some.inj e
      subst e
      exact r_ret dX6_copyOf_24 rfl rfl
  · have e := g_iT h1 e
    refine r_aload_n dX6_copyOf_4 rfl rfl ?_
    refine q_getr dX6_copyOf_5 flX6_30 rfl rfl (m_fr_0_3 _) ?_
    have e := Option.some.inj e
    subst e
    exact r_ret dX6_copyOf_8 rfl rfl
/-! X6_partsOf -/
def lp_X6_partsOf_18 (g : (Nat → Nat → Int32)) (b : Bool) (a1 : Nat) (a2 : Nat) (a3 : Int32) (x18_4 : Int32) : Nat → Int32 → Int32 → Option Int32
  | 0, _, _ => none
  | n + 1, y18_5, y18_6 =>
  (if m_S0[a1]? = some (.inl 3) then
((f_X6_rowsOf g b (g a1 4)).bind fun v18002 =>
(if v18002 ≤ y18_6 then
some y18_5
else
(if m_S0[a2]? = some (.inl 1) then
((f_X1_read g b a2 (g a1 4) y18_6 (g a1 3)).bind fun v18006 =>
(if v18006 = (-2147483648) then
lp_X6_partsOf_18 g b a1 a2 a3 x18_4 n y18_5 (y18_6 + 1)
else
((f_X1_read g b a2 (g a1 4) y18_6 (g a1 5)).bind fun v18009 =>
(if v18009 = x18_4 then
lp_X6_partsOf_18 g b a1 a2 a3 x18_4 n (y18_5 + v18006) (y18_6 + 1)
else
lp_X6_partsOf_18 g b a1 a2 a3 x18_4 n y18_5 (y18_6 + 1))))) else none))) else none)
def f_X6_partsOf (g : (Nat → Nat → Int32)) (b : Bool) (a1 : Nat) (a2 : Nat) (a3 : Int32) : Option Int32 :=
  (if m_S0[a1]? = some (.inl 3) then
(if m_S0[a2]? = some (.inl 1) then
((f_X1_read g b a2 (g a1 1) a3 0).bind fun v3 =>
lp_X6_partsOf_18 g b a1 a2 a3 v3 2000 0 0) else none) else none)
set_option maxRecDepth 100000 in
set_option maxHeartbeats 4000000 in
theorem w_X6_partsOf_18 {G : mG} {g : (Nat → Nat → Int32)} {b : Bool} {a1 : Nat} {a2 : Nat} {a3 : Int32} {x18_4 : Int32} : ∀ (n : Nat) (y18_5 : Int32) (y18_6 : Int32) (R : Int32), lp_X6_partsOf_18 g b a1 a2 a3 x18_4 n y18_5 y18_6 = some R → MW G mX6_partsOf 2 0 0 18 [.ref 0, .ref a1, .ref a2, .int a3, .int x18_4, .int y18_5, .int y18_6, .retAddr 0] [] (m_h g b) (some (.int R)) (m_h g b)
  | 0, _, _, R, e => absurd (show (none : Option Int32) = some R from e) (fun h => by cases h)
  | n + 1, y18_5, y18_6, R, e => by
    rw [lp_X6_partsOf_18] at e
    refine r_iload dX6_partsOf_18 rfl ?_
    refine r_aload_n dX6_partsOf_20 rfl rfl ?_
    refine r_aload_n dX6_partsOf_21 rfl rfl ?_
    obtain ⟨h18001, e⟩ := g_gd e
    refine q_geti dX6_partsOf_22 flX6_326 rfl h18001 ?_
    obtain ⟨v18002, h18003, e⟩ := g_bd e
    refine q_callV (rest := [.int y18_6]) (c_X6_rowsOf h18003) dX6_partsOf_25 lkX6_200 rfl rfl rfl rfl (Nat.le_of_ble_eq_true rfl) (by decide) ?_
    refine r_icmp_ge (tgt := 86) dX6_partsOf_28 (by decide) (fun h18004 => ?_) (fun h18004 => ?_)
    · have e := g_iT h18004 e
      refine r_iload dX6_partsOf_86 rfl ?_
      have e := Option.some.inj e
      subst e
      exact r_ret dX6_partsOf_88 rfl rfl
    · have e := g_iF h18004 e
      refine r_aload_n dX6_partsOf_31 rfl rfl ?_
      refine r_aload_n dX6_partsOf_32 rfl rfl ?_
      refine q_geti dX6_partsOf_33 flX6_326 rfl h18001 ?_
      refine r_iload dX6_partsOf_36 rfl ?_
      refine r_aload_n dX6_partsOf_38 rfl rfl ?_
      refine q_geti dX6_partsOf_39 flX6_319 rfl h18001 ?_
      obtain ⟨h18005, e⟩ := g_gd e
      obtain ⟨v18006, h18007, e⟩ := g_bd e
      refine q_callV (rest := []) (c_X1_read h18007) dX6_partsOf_42 lkX6_180 h18005 rfl rfl rfl (Nat.le_of_ble_eq_true rfl) (by decide) ?_
      refine r_istore dX6_partsOf_45 (by decide) rfl ?_
      refine r_iload dX6_partsOf_47 rfl ?_
      refine r_ldc (x := (-2147483648)) dX6_partsOf_49 kcX6_179 ?_
      refine r_icmp_eq (tgt := 80) dX6_partsOf_51 (by decide) (fun h18008 => ?_) (fun h18008 => ?_)
      · have e := g_iT h18008 e
        refine r_iinc (y := 1) dX6_partsOf_80 rfl (by decide) (by decide) rfl ?_
        refine r_goto (tgt := 18) dX6_partsOf_83 (by decide) ?_
        refine r_forget 7 rfl ?_
        exact w_X6_partsOf_18 n _ _ R e
      · have e := g_iF h18008 e
        refine r_aload_n dX6_partsOf_54 rfl rfl ?_
        refine r_aload_n dX6_partsOf_55 rfl rfl ?_
        refine q_geti dX6_partsOf_56 flX6_326 rfl h18001 ?_
        refine r_iload dX6_partsOf_59 rfl ?_
        refine r_aload_n dX6_partsOf_61 rfl rfl ?_
        refine q_geti dX6_partsOf_62 flX6_329 rfl h18001 ?_
        obtain ⟨v18009, h18010, e⟩ := g_bd e
        refine q_callV (rest := []) (c_X1_read h18010) dX6_partsOf_65 lkX6_180 h18005 rfl rfl rfl (Nat.le_of_ble_eq_true rfl) (by decide) ?_
        refine r_iload dX6_partsOf_68 rfl ?_
        refine r_icmp_ne (tgt := 80) dX6_partsOf_70 (by decide) (fun h18011 => ?_) (fun h18011 => ?_)
        · have e := g_iF h18011 e
          refine r_iinc (y := 1) dX6_partsOf_80 rfl (by decide) (by decide) rfl ?_
          refine r_goto (tgt := 18) dX6_partsOf_83 (by decide) ?_
          refine r_forget 7 rfl ?_
          exact w_X6_partsOf_18 n _ _ R e
        · have e := g_iT h18011 e
          refine r_iload dX6_partsOf_73 rfl ?_
          refine r_iload dX6_partsOf_75 rfl ?_
          refine r_iadd dX6_partsOf_77 ?_
          refine r_istore dX6_partsOf_78 (by decide) rfl ?_
          refine r_iinc (y := 1) dX6_partsOf_80 rfl (by decide) (by decide) rfl ?_
          refine r_goto (tgt := 18) dX6_partsOf_83 (by decide) ?_
          refine r_forget 7 rfl ?_
          exact w_X6_partsOf_18 n _ _ R e
set_option maxRecDepth 100000 in
set_option maxHeartbeats 4000000 in
theorem c_X6_partsOf {G : mG} {g : (Nat → Nat → Int32)} {b : Bool} {a1 : Nat} {a2 : Nat} {a3 : Int32} {R : Int32} (e : f_X6_partsOf g b a1 a2 a3 = some R) : MC G mX6_partsOf 2 0 0 [.ref 0, .ref a1, .ref a2, .int a3] (m_h g b) (some (.int R)) (m_h g b) := by
  refine MC_intro mlX6_partsOf (Nat.le_of_ble_eq_true rfl) ⟨_, rfl⟩ rfl trivial ?_
  unfold f_X6_partsOf at e
  refine r_aload_n dX6_partsOf_0 rfl rfl ?_
  refine r_aload_n dX6_partsOf_1 rfl rfl ?_
  obtain ⟨h1, e⟩ := g_gd e
  refine q_geti dX6_partsOf_2 flX6_308 rfl h1 ?_
  refine r_iload_n dX6_partsOf_5 rfl rfl ?_
  refine r_iconst (x := 0) dX6_partsOf_6 (by decide) ?_
  obtain ⟨h2, e⟩ := g_gd e
  obtain ⟨v3, h4, e⟩ := g_bd e
  refine q_callV (rest := []) (c_X1_read h4) dX6_partsOf_7 lkX6_180 h2 rfl rfl rfl (Nat.le_of_ble_eq_true rfl) (by decide) ?_
  refine r_istore dX6_partsOf_10 (by decide) rfl ?_
  refine r_iconst (x := 0) dX6_partsOf_12 (by decide) ?_
  refine r_istore dX6_partsOf_13 (by decide) rfl ?_
  refine r_iconst (x := 0) dX6_partsOf_15 (by decide) ?_
  refine r_istore dX6_partsOf_16 (by decide) rfl ?_
  exact w_X6_partsOf_18 2000 _ _ R e
/-! X6_holdsInRow -/
def f_X6_holdsInRow (g : (Nat → Nat → Int32)) (b : Bool) (a1 : Nat) (a2 : Nat) (a3 : Int32) : Option Bool :=
  (if m_S0[a1]? = some (.inl 3) then
(if m_S0[a2]? = some (.inl 1) then
((f_X1_read g b a2 (g a1 1) a3 (g a1 2)).bind fun v3 =>
(if v3 = (-2147483648) then
some true
else
(if (g a1 0) = 0 then
((f_X1_read g b a2 (g a1 1) a3 (g a1 3)).bind fun v7 =>
(if v7 = (-2147483648) then
some true
else
(if v7 < v3 then
some false
else
some true)))
else
(if (g a1 0) = 1 then
((f_X6_partsOf g b a1 a2 a3).bind fun v12 =>
(if v3 = v12 then
some true
else
some false))
else
((f_X6_columnAt g b (g a1 1) (g a1 2)).bind fun v15 =>
(m_oc v15
(some false)
(fun q17 =>
(if m_S0[q17]? = some (.inl 0) then
((f_X6_rowsWith g b a2 (g q17 1) 0 v3).bind fun v19 =>
(if v19 ≤ 0 then
some false
else
some true)) else none)))))))) else none) else none)
set_option maxRecDepth 100000 in
set_option maxHeartbeats 4000000 in
theorem c_X6_holdsInRow {G : mG} {g : (Nat → Nat → Int32)} {b : Bool} {a1 : Nat} {a2 : Nat} {a3 : Int32} {R : Bool} (e : f_X6_holdsInRow g b a1 a2 a3 = some R) : MC G mX6_holdsInRow 3 0 0 [.ref 0, .ref a1, .ref a2, .int a3] (m_h g b) (some (.int (m_bi R))) (m_h g b) := by
  refine MC_intro mlX6_holdsInRow (Nat.le_of_ble_eq_true rfl) (m_okZ _) rfl trivial ?_
  unfold f_X6_holdsInRow at e
  refine r_aload_n dX6_holdsInRow_0 rfl rfl ?_
  refine r_aload_n dX6_holdsInRow_1 rfl rfl ?_
  obtain ⟨h1, e⟩ := g_gd e
  refine q_geti dX6_holdsInRow_2 flX6_308 rfl h1 ?_
  refine r_iload_n dX6_holdsInRow_5 rfl rfl ?_
  refine r_aload_n dX6_holdsInRow_6 rfl rfl ?_
  refine q_geti dX6_holdsInRow_7 flX6_315 rfl h1 ?_
  obtain ⟨h2, e⟩ := g_gd e
  obtain ⟨v3, h4, e⟩ := g_bd e
  refine q_callV (rest := []) (c_X1_read h4) dX6_holdsInRow_10 lkX6_180 h2 rfl rfl rfl (Nat.le_of_ble_eq_true rfl) (by decide) ?_
  refine r_istore dX6_holdsInRow_13 (by decide) rfl ?_
  refine r_iload dX6_holdsInRow_15 rfl ?_
  refine r_ldc (x := (-2147483648)) dX6_holdsInRow_17 kcX6_179 ?_
  refine r_icmp_ne (tgt := 24) dX6_holdsInRow_19 (by decide) (fun h5 => ?_) (fun h5 => ?_)
  · have e := g_iF h5 e
    refine r_aload_n dX6_holdsInRow_24 rfl rfl ?_
    refine q_geti dX6_holdsInRow_25 flX6_318 rfl h1 ?_
    by_cases h6 : (g a1 0) = 0
    · have e := g_iT h6 e
      refine r_look (off := 28) (tgt := 56) dX6_holdsInRow_28 (by decide) (by rw [h6]; rfl) (by decide) ?_
      refine r_aload_n dX6_holdsInRow_56 rfl rfl ?_
      refine r_aload_n dX6_holdsInRow_57 rfl rfl ?_
      refine q_geti dX6_holdsInRow_58 flX6_308 rfl h1 ?_
      refine r_iload_n dX6_holdsInRow_61 rfl rfl ?_
      refine r_aload_n dX6_holdsInRow_62 rfl rfl ?_
      refine q_geti dX6_holdsInRow_63 flX6_319 rfl h1 ?_
      obtain ⟨v7, h8, e⟩ := g_bd e
      refine q_callV (rest := []) (c_X1_read h8) dX6_holdsInRow_66 lkX6_180 h2 rfl rfl rfl (Nat.le_of_ble_eq_true rfl) (by decide) ?_
      refine r_istore dX6_holdsInRow_69 (by decide) rfl ?_
      refine r_iload dX6_holdsInRow_71 rfl ?_
      refine r_ldc (x := (-2147483648)) dX6_holdsInRow_73 kcX6_179 ?_
      refine r_icmp_eq (tgt := 85) dX6_holdsInRow_75 (by decide) (fun h9 => ?_) (fun h9 => ?_)
      · have e := g_iT h9 e
        refine r_iconst (x := 1) dX6_holdsInRow_85 (by decide) ?_
        refine r_goto (tgt := 90) dX6_holdsInRow_86 (by decide) ?_
        have e := Option.some.inj e
        subst e
        exact r_ret dX6_holdsInRow_90 rfl rfl
      · have e := g_iF h9 e
        refine r_iload dX6_holdsInRow_78 rfl ?_
        refine r_iload dX6_holdsInRow_80 rfl ?_
        refine r_icmp_gt (tgt := 89) dX6_holdsInRow_82 (by decide) (fun h10 => ?_) (fun h10 => ?_)
        · have e := g_iT h10 e
          refine r_iconst (x := 0) dX6_holdsInRow_89 (by decide) ?_
          have e := Option.some.inj e
          subst e
          exact r_ret dX6_holdsInRow_90 rfl rfl
        · have e := g_iF h10 e
          refine r_iconst (x := 1) dX6_holdsInRow_85 (by decide) ?_
          refine r_goto (tgt := 90) dX6_holdsInRow_86 (by decide) ?_
          have e := Option.some.inj e
          subst e
          exact r_ret dX6_holdsInRow_90 rfl rfl
    have e := g_iF h6 e
    by_cases h11 : (g a1 0) = 1
    · have e := g_iT h11 e
      refine r_look (off := 63) (tgt := 91) dX6_holdsInRow_28 (by decide) (by rw [h11]; rfl) (by decide) ?_
      refine r_iload dX6_holdsInRow_91 rfl ?_
      refine r_aload_n dX6_holdsInRow_93 rfl rfl ?_
      refine r_aload_n dX6_holdsInRow_94 rfl rfl ?_
      refine r_aload_n dX6_holdsInRow_95 rfl rfl ?_
      refine r_iload_n dX6_holdsInRow_96 rfl rfl ?_
      obtain ⟨v12, h13, e⟩ := g_bd e
      refine q_callV (rest := [.int v3]) (c_X6_partsOf h13) dX6_holdsInRow_97 lkX6_322 rfl rfl rfl rfl (Nat.le_of_ble_eq_true rfl) (by decide) ?_
      refine r_icmp_ne (tgt := 107) dX6_holdsInRow_100 (by decide) (fun h14 => ?_) (fun h14 => ?_)
      · have e := g_iF h14 e
        refine r_iconst (x := 0) dX6_holdsInRow_107 (by decide) ?_
        have e := Option.some.inj e
        subst e
        exact r_ret dX6_holdsInRow_108 rfl rfl
      · have e := g_iT h14 e
        refine r_iconst (x := 1) dX6_holdsInRow_103 (by decide) ?_
        refine r_goto (tgt := 108) dX6_holdsInRow_104 (by decide) ?_
        have e := Option.some.inj e
        subst e
        exact r_ret dX6_holdsInRow_108 rfl rfl
    have e := g_iF h11 e
    refine r_look (off := 81) (tgt := 109) dX6_holdsInRow_28 (by decide) (m_lkOut2 h6 h11) (by decide) ?_
    refine r_aload_n dX6_holdsInRow_109 rfl rfl ?_
    refine r_aload_n dX6_holdsInRow_110 rfl rfl ?_
    refine q_geti dX6_holdsInRow_111 flX6_308 rfl h1 ?_
    refine r_aload_n dX6_holdsInRow_114 rfl rfl ?_
    refine q_geti dX6_holdsInRow_115 flX6_315 rfl h1 ?_
    obtain ⟨v15, h16, e⟩ := g_bd e
    refine q_callV (rest := []) (c_X6_columnAt h16) dX6_holdsInRow_118 lkX6_99 rfl rfl rfl rfl (Nat.le_of_ble_eq_true rfl) (by decide) ?_
    refine r_astoreO dX6_holdsInRow_121 (by decide) rfl ?_
    refine r_aloadO dX6_holdsInRow_123 rfl ?_
    cases v15 with
    | none =>
      have e := g_oN e
      refine r_ifnullN (tgt := 148) dX6_holdsInRow_125 (by decide) ?_
      refine r_iconst (x := 0) dX6_holdsInRow_148 (by decide) ?_
      have e := Option.some.inj e
      subst e
      exact r_ret dX6_holdsInRow_149 rfl rfl
    | some q17 =>
      have e := g_oS e
      refine r_ifnull (tgt := 148) dX6_holdsInRow_125 (by decide) ?_
      refine r_aload_n dX6_holdsInRow_128 rfl rfl ?_
      refine r_aload_n dX6_holdsInRow_129 rfl rfl ?_
      refine r_aload dX6_holdsInRow_130 rfl ?_
      obtain ⟨h18, e⟩ := g_gd e
      refine q_geti dX6_holdsInRow_132 flX6_146 rfl h18 ?_
      refine r_iconst (x := 0) dX6_holdsInRow_135 (by decide) ?_
      refine r_iload dX6_holdsInRow_136 rfl ?_
      obtain ⟨v19, h20, e⟩ := g_bd e
      refine q_callV (rest := []) (c_X6_rowsWith h20) dX6_holdsInRow_138 lkX6_91 rfl rfl rfl rfl (Nat.le_of_ble_eq_true rfl) (by decide) ?_
      refine r_if_le (tgt := 148) dX6_holdsInRow_141 (by decide) (fun h21 => ?_) (fun h21 => ?_)
      · have e := g_iT h21 e
        refine r_iconst (x := 0) dX6_holdsInRow_148 (by decide) ?_
        have e := Option.some.inj e
        subst e
        exact r_ret dX6_holdsInRow_149 rfl rfl
      · have e := g_iF h21 e
        refine r_iconst (x := 1) dX6_holdsInRow_144 (by decide) ?_
        refine r_goto (tgt := 149) dX6_holdsInRow_145 (by decide) ?_
        have e := Option.some.inj e
        subst e
        exact r_ret dX6_holdsInRow_149 rfl rfl
  · have e := g_iT h5 e
    refine r_iconst (x := 1) dX6_holdsInRow_22 (by decide) ?_
    have e := Option.some.inj e
    subst e
    exact r_ret dX6_holdsInRow_23 rfl rfl
/-! X6_ruleHolds -/
def lp_X6_ruleHolds_2 (g : (Nat → Nat → Int32)) (b : Bool) (a1 : Nat) (a2 : Nat) : Nat → Int32 → Option Bool
  | 0, _ => none
  | n + 1, y2_3 =>
  (if m_S0[a1]? = some (.inl 3) then
((f_X6_rowsOf g b (g a1 1)).bind fun v2002 =>
(if v2002 ≤ y2_3 then
some true
else
((f_X6_holdsInRow g b a1 a2 y2_3).bind fun v2005 =>
(bif v2005 then
lp_X6_ruleHolds_2 g b a1 a2 n (y2_3 + 1)
else
some false)))) else none)
def f_X6_ruleHolds (g : (Nat → Nat → Int32)) (b : Bool) (a1 : Nat) (a2 : Nat) : Option Bool :=
  lp_X6_ruleHolds_2 g b a1 a2 2000 0
set_option maxRecDepth 100000 in
set_option maxHeartbeats 4000000 in
theorem w_X6_ruleHolds_2 {G : mG} {g : (Nat → Nat → Int32)} {b : Bool} {a1 : Nat} {a2 : Nat} : ∀ (n : Nat) (y2_3 : Int32) (R : Bool), lp_X6_ruleHolds_2 g b a1 a2 n y2_3 = some R → MW G mX6_ruleHolds 4 0 0 2 [.ref 0, .ref a1, .ref a2, .int y2_3] [] (m_h g b) (some (.int (m_bi R))) (m_h g b)
  | 0, _, R, e => absurd (show (none : Option Bool) = some R from e) (fun h => by cases h)
  | n + 1, y2_3, R, e => by
    rw [lp_X6_ruleHolds_2] at e
    refine r_iload_n dX6_ruleHolds_2 rfl rfl ?_
    refine r_aload_n dX6_ruleHolds_3 rfl rfl ?_
    refine r_aload_n dX6_ruleHolds_4 rfl rfl ?_
    obtain ⟨h2001, e⟩ := g_gd e
    refine q_geti dX6_ruleHolds_5 flX6_308 rfl h2001 ?_
    obtain ⟨v2002, h2003, e⟩ := g_bd e
    refine q_callV (rest := [.int y2_3]) (c_X6_rowsOf h2003) dX6_ruleHolds_8 lkX6_200 rfl rfl rfl rfl (Nat.le_of_ble_eq_true rfl) (by decide) ?_
    refine r_icmp_ge (tgt := 32) dX6_ruleHolds_11 (by decide) (fun h2004 => ?_) (fun h2004 => ?_)
    · have e := g_iT h2004 e
      refine r_iconst (x := 1) dX6_ruleHolds_32 (by decide) ?_
      have e := Option.some.inj e
      subst e
      exact r_ret dX6_ruleHolds_33 rfl rfl
    · have e := g_iF h2004 e
      refine r_aload_n dX6_ruleHolds_14 rfl rfl ?_
      refine r_aload_n dX6_ruleHolds_15 rfl rfl ?_
      refine r_aload_n dX6_ruleHolds_16 rfl rfl ?_
      refine r_iload_n dX6_ruleHolds_17 rfl rfl ?_
      obtain ⟨v2005, h2006, e⟩ := g_bd e
      refine q_callV (rest := []) (c_X6_holdsInRow h2006) dX6_ruleHolds_18 lkX6_311 rfl rfl rfl rfl (Nat.le_of_ble_eq_true rfl) (by decide) ?_
      refine r_ifneB (tgt := 26) dX6_ruleHolds_21 (by decide) (fun h2007 => ?_) (fun h2007 => ?_)
      · have e := g_cT h2007 e
        refine r_iinc (y := 1) dX6_ruleHolds_26 rfl (by decide) (by decide) rfl ?_
        refine r_goto (tgt := 2) dX6_ruleHolds_29 (by decide) ?_
        exact w_X6_ruleHolds_2 n _ R e
      · have e := g_cF h2007 e
        refine r_iconst (x := 0) dX6_ruleHolds_24 (by decide) ?_
        have e := Option.some.inj e
        subst e
        exact r_ret dX6_ruleHolds_25 rfl rfl
set_option maxRecDepth 100000 in
set_option maxHeartbeats 4000000 in
theorem c_X6_ruleHolds {G : mG} {g : (Nat → Nat → Int32)} {b : Bool} {a1 : Nat} {a2 : Nat} {R : Bool} (e : f_X6_ruleHolds g b a1 a2 = some R) : MC G mX6_ruleHolds 4 0 0 [.ref 0, .ref a1, .ref a2] (m_h g b) (some (.int (m_bi R))) (m_h g b) := by
  refine MC_intro mlX6_ruleHolds (Nat.le_of_ble_eq_true rfl) (m_okZ _) rfl trivial ?_
  unfold f_X6_ruleHolds at e
  refine r_iconst (x := 0) dX6_ruleHolds_0 (by decide) ?_
  refine r_istore_n dX6_ruleHolds_1 rfl (by decide) rfl ?_
  exact w_X6_ruleHolds_2 2000 _ R e
/-! X6_firstBroken -/
def lp_X6_firstBroken_2 (g : (Nat → Nat → Int32)) (b : Bool) (a1 : Nat) : Nat → Int32 → Option Int32
  | 0, _ => none
  | n + 1, y2_2 =>
  (if (g 0 9) ≤ y2_2 then
some 100
else
(if 8 ≤ y2_2 then
some 100
else
(if m_in y2_2 8 then
((m_fr b 2 y2_2.toNatClampNeg).bind fun q2004 =>
((f_X6_ruleHolds g b q2004 a1).bind fun v2006 =>
(bif v2006 then
lp_X6_firstBroken_2 g b a1 n (y2_2 + 1)
else
some y2_2))) else none)))
def f_X6_firstBroken (g : (Nat → Nat → Int32)) (b : Bool) (a1 : Nat) : Option Int32 :=
  lp_X6_firstBroken_2 g b a1 2000 0
set_option maxRecDepth 100000 in
set_option maxHeartbeats 4000000 in
theorem w_X6_firstBroken_2 {G : mG} {g : (Nat → Nat → Int32)} {b : Bool} {a1 : Nat} : ∀ (n : Nat) (y2_2 : Int32) (R : Int32), lp_X6_firstBroken_2 g b a1 n y2_2 = some R → MW G mX6_firstBroken 5 0 0 2 [.ref 0, .ref a1, .int y2_2] [] (m_h g b) (some (.int R)) (m_h g b)
  | 0, _, R, e => absurd (show (none : Option Int32) = some R from e) (fun h => by cases h)
  | n + 1, y2_2, R, e => by
    rw [lp_X6_firstBroken_2] at e
    refine r_iload_n dX6_firstBroken_2 rfl rfl ?_
    refine r_aload_n dX6_firstBroken_3 rfl rfl ?_
    refine q_geti dX6_firstBroken_4 flX6_58 rfl rfl ?_
    refine r_icmp_ge (tgt := 38) dX6_firstBroken_7 (by decide) (fun h2001 => ?_) (fun h2001 => ?_)
    · have e := g_iT h2001 e
      refine r_bipush (x := 100) dX6_firstBroken_38 (by decide) ?_
      have e := Option.some.inj e
      subst e
      exact r_ret dX6_firstBroken_40 rfl rfl
    · have e := g_iF h2001 e
      refine r_iload_n dX6_firstBroken_10 rfl rfl ?_
      refine r_bipush (x := 8) dX6_firstBroken_11 (by decide) ?_
      refine r_icmp_ge (tgt := 38) dX6_firstBroken_13 (by decide) (fun h2002 => ?_) (fun h2002 => ?_)
      · have e := g_iT h2002 e
        refine r_bipush (x := 100) dX6_firstBroken_38 (by decide) ?_
        have e := Option.some.inj e
        subst e
        exact r_ret dX6_firstBroken_40 rfl rfl
      · have e := g_iF h2002 e
        refine r_aload_n dX6_firstBroken_16 rfl rfl ?_
        refine r_aload_n dX6_firstBroken_17 rfl rfl ?_
        refine q_getr dX6_firstBroken_18 flX6_19 rfl rfl (m_fr_0_1 _) ?_
        refine r_iload_n dX6_firstBroken_21 rfl rfl ?_
        obtain ⟨h2003, e⟩ := g_gd e
        obtain ⟨q2004, h2005, e⟩ := g_bd e
        refine q_aald dX6_firstBroken_22 (by decide) rfl h2003 h2005 ?_
        refine r_aload_n dX6_firstBroken_23 rfl rfl ?_
        obtain ⟨v2006, h2007, e⟩ := g_bd e
        refine q_callV (rest := []) (c_X6_ruleHolds h2007) dX6_firstBroken_24 lkX6_304 rfl rfl rfl rfl (Nat.le_of_ble_eq_true rfl) (by decide) ?_
        refine r_ifneB (tgt := 32) dX6_firstBroken_27 (by decide) (fun h2008 => ?_) (fun h2008 => ?_)
        · have e := g_cT h2008 e
          refine r_iinc (y := 1) dX6_firstBroken_32 rfl (by decide) (by decide) rfl ?_
          refine r_goto (tgt := 2) dX6_firstBroken_35 (by decide) ?_
          exact w_X6_firstBroken_2 n _ R e
        · have e := g_cF h2008 e
          refine r_iload_n dX6_firstBroken_30 rfl rfl ?_
          have e := Option.some.inj e
          subst e
          exact r_ret dX6_firstBroken_31 rfl rfl
set_option maxRecDepth 100000 in
set_option maxHeartbeats 4000000 in
theorem c_X6_firstBroken {G : mG} {g : (Nat → Nat → Int32)} {b : Bool} {a1 : Nat} {R : Int32} (e : f_X6_firstBroken g b a1 = some R) : MC G mX6_firstBroken 5 0 0 [.ref 0, .ref a1] (m_h g b) (some (.int R)) (m_h g b) := by
  refine MC_intro mlX6_firstBroken (Nat.le_of_ble_eq_true rfl) ⟨_, rfl⟩ rfl trivial ?_
  unfold f_X6_firstBroken at e
  refine r_iconst (x := 0) dX6_firstBroken_0 (by decide) ?_
  refine r_istore_n dX6_firstBroken_1 rfl (by decide) rfl ?_
  exact w_X6_firstBroken_2 2000 _ R e
/-! X6_broken -/
def f_X6_broken (g : (Nat → Nat → Int32)) (b : Bool) (a1 : Int32) : Option Int32 :=
  (bif (f_X6_isBit a1) then
((f_X6_copyOf g b a1).bind fun v2 =>
(m_oc v2
(some (-3))
(fun q4 =>
((f_X6_firstBroken g b q4).bind fun v5 =>
some v5))))
else
some (-2))
set_option maxRecDepth 100000 in
set_option maxHeartbeats 4000000 in
theorem c_X6_broken {G : mG} {g : (Nat → Nat → Int32)} {b : Bool} {a1 : Int32} {R : Int32} (e : f_X6_broken g b a1 = some R) : MC G mX6_broken 6 0 0 [.ref 0, .int a1] (m_h g b) (some (.int R)) (m_h g b) := by
  refine MC_intro mlX6_broken (Nat.le_of_ble_eq_true rfl) ⟨_, rfl⟩ rfl trivial ?_
  unfold f_X6_broken at e
  refine r_iload_n dX6_broken_0 rfl rfl ?_
  refine q_callS (rest := []) (c_X6_isBit rfl) dX6_broken_1 lkX6_149 rfl rfl (Nat.le_of_ble_eq_true rfl) (by decide) ?_
  refine r_ifneB (tgt := 10) dX6_broken_4 (by decide) (fun h1 => ?_) (fun h1 => ?_)
  · have e := g_cT h1 e
    refine r_aload_n dX6_broken_10 rfl rfl ?_
    refine r_iload_n dX6_broken_11 rfl rfl ?_
    obtain ⟨v2, h3, e⟩ := g_bd e
    refine q_callV (rest := []) (c_X6_copyOf h3) dX6_broken_12 lkX6_161 rfl rfl rfl rfl (Nat.le_of_ble_eq_true rfl) (by decide) ?_
    refine r_astore_nO dX6_broken_15 rfl (by decide) rfl ?_
    refine r_aload_nO dX6_broken_16 rfl rfl ?_
    cases v2 with
    | none =>
      have e := g_oN e
      refine r_ifnonnullN (tgt := 25) dX6_broken_17 (by decide) ?_
      refine r_bipush (x := (-3)) dX6_broken_20 (by decide) ?_
      refine r_goto (tgt := 30) dX6_broken_22 (by decide) ?_
      have e := Option.some.inj e
      subst e
      exact r_ret dX6_broken_30 rfl rfl
    | some q4 =>
      have e := g_oS e
      refine r_ifnonnull (tgt := 25) dX6_broken_17 (by decide) ?_
      refine r_aload_n dX6_broken_25 rfl rfl ?_
      refine r_aload_n dX6_broken_26 rfl rfl ?_
      obtain ⟨v5, h6, e⟩ := g_bd e
      refine q_callV (rest := []) (c_X6_firstBroken h6) dX6_broken_27 lkX6_165 rfl rfl rfl rfl (Nat.le_of_ble_eq_true rfl) (by decide) ?_
      have e := Option.some.inj e
      subst e
      exact r_ret dX6_broken_30 rfl rfl
  · have e := g_cF h1 e
    refine r_bipush (x := (-2)) dX6_broken_7 (by decide) ?_
    have e := Option.some.inj e
    subst e
    exact r_ret dX6_broken_9 rfl rfl
/-! X4_isShifted -/
def f_X4_isShifted (g : (Nat → Nat → Int32)) (b : Bool) (x : Nat) (a1 : Int32) : Option Bool :=
  (if m_S0[x]? = some (.inl 4) then
((f_X4_columnNumbered g b x a1).bind fun v2 =>
(m_oc v2
(some false)
(fun q4 =>
(if m_S0[q4]? = some (.inl 0) then
(if (g q4 2) = 2 then
some true
else
some false) else none)))) else none)
set_option maxRecDepth 100000 in
set_option maxHeartbeats 4000000 in
theorem c_X4_isShifted {G : mG} {g : (Nat → Nat → Int32)} {b : Bool} {x : Nat} {a1 : Int32} {R : Bool} (e : f_X4_isShifted g b x a1 = some R) : MC G mX4_isShifted 1 0 0 [.ref x, .int a1] (m_h g b) (some (.int (m_bi R))) (m_h g b) := by
  refine MC_intro mlX4_isShifted (Nat.le_of_ble_eq_true rfl) (m_okZ _) rfl trivial ?_
  unfold f_X4_isShifted at e
  refine r_aload_n dX4_isShifted_0 rfl rfl ?_
  refine r_iload_n dX4_isShifted_1 rfl rfl ?_
  obtain ⟨h1, e⟩ := g_gd e
  obtain ⟨v2, h3, e⟩ := g_bd e
  refine q_callV (rest := []) (c_X4_columnNumbered h3) dX4_isShifted_2 lkX4_41 h1 rfl rfl rfl (Nat.le_of_ble_eq_true rfl) (by decide) ?_
  refine r_astore_nO dX4_isShifted_5 rfl (by decide) rfl ?_
  refine r_aload_nO dX4_isShifted_6 rfl rfl ?_
  cases v2 with
  | none =>
    have e := g_oN e
    refine r_ifnullN (tgt := 22) dX4_isShifted_7 (by decide) ?_
    refine r_iconst (x := 0) dX4_isShifted_22 (by decide) ?_
    have e := Option.some.inj e
    subst e
    exact r_ret dX4_isShifted_23 rfl rfl
  | some q4 =>
    have e := g_oS e
    refine r_ifnull (tgt := 22) dX4_isShifted_7 (by decide) ?_
    refine r_aload_n dX4_isShifted_10 rfl rfl ?_
    obtain ⟨h5, e⟩ := g_gd e
    refine q_geti dX4_isShifted_11 flX4_45 rfl h5 ?_
    refine r_iconst (x := 2) dX4_isShifted_14 (by decide) ?_
    refine r_icmp_ne (tgt := 22) dX4_isShifted_15 (by decide) (fun h6 => ?_) (fun h6 => ?_)
    · have e := g_iF h6 e
      refine r_iconst (x := 0) dX4_isShifted_22 (by decide) ?_
      have e := Option.some.inj e
      subst e
      exact r_ret dX4_isShifted_23 rfl rfl
    · have e := g_iT h6 e
      refine r_iconst (x := 1) dX4_isShifted_18 (by decide) ?_
      refine r_goto (tgt := 23) dX4_isShifted_19 (by decide) ?_
      have e := Option.some.inj e
      subst e
      exact r_ret dX4_isShifted_23 rfl rfl
/-! X4_hasShift -/
def lp_X4_hasShift_2 (g : (Nat → Nat → Int32)) (b : Bool) (x : Nat) : Nat → Int32 → Option Bool
  | 0, _ => none
  | n + 1, y2_1 =>
  (if m_S0[x]? = some (.inl 4) then
(if (g x 3) ≤ y2_1 then
some false
else
((f_X4_isShifted g b x y2_1).bind fun v2003 =>
(bif v2003 then
some true
else
lp_X4_hasShift_2 g b x n (y2_1 + 1)))) else none)
def f_X4_hasShift (g : (Nat → Nat → Int32)) (b : Bool) (x : Nat) : Option Bool :=
  lp_X4_hasShift_2 g b x 2000 0
set_option maxRecDepth 100000 in
set_option maxHeartbeats 4000000 in
theorem w_X4_hasShift_2 {G : mG} {g : (Nat → Nat → Int32)} {b : Bool} {x : Nat} : ∀ (n : Nat) (y2_1 : Int32) (R : Bool), lp_X4_hasShift_2 g b x n y2_1 = some R → MW G mX4_hasShift 2 0 0 2 [.ref x, .int y2_1] [] (m_h g b) (some (.int (m_bi R))) (m_h g b)
  | 0, _, R, e => absurd (show (none : Option Bool) = some R from e) (fun h => by cases h)
  | n + 1, y2_1, R, e => by
    rw [lp_X4_hasShift_2] at e
    refine r_iload_n dX4_hasShift_2 rfl rfl ?_
    refine r_aload_n dX4_hasShift_3 rfl rfl ?_
    obtain ⟨h2001, e⟩ := g_gd e
    refine q_geti dX4_hasShift_4 flX4_24 rfl h2001 ?_
    refine r_icmp_ge (tgt := 26) dX4_hasShift_7 (by decide) (fun h2002 => ?_) (fun h2002 => ?_)
    · have e := g_iT h2002 e
      refine r_iconst (x := 0) dX4_hasShift_26 (by decide) ?_
      have e := Option.some.inj e
      subst e
      exact r_ret dX4_hasShift_27 rfl rfl
    · have e := g_iF h2002 e
      refine r_aload_n dX4_hasShift_10 rfl rfl ?_
      refine r_iload_n dX4_hasShift_11 rfl rfl ?_
      obtain ⟨v2003, h2004, e⟩ := g_bd e
      refine q_callV (rest := []) (c_X4_isShifted h2004) dX4_hasShift_12 lkX4_48 h2001 rfl rfl rfl (Nat.le_of_ble_eq_true rfl) (by decide) ?_
      refine r_ifeqB (tgt := 20) dX4_hasShift_15 (by decide) (fun h2005 => ?_) (fun h2005 => ?_)
      · have e := g_cF h2005 e
        refine r_iinc (y := 1) dX4_hasShift_20 rfl (by decide) (by decide) rfl ?_
        refine r_goto (tgt := 2) dX4_hasShift_23 (by decide) ?_
        exact w_X4_hasShift_2 n _ R e
      · have e := g_cT h2005 e
        refine r_iconst (x := 1) dX4_hasShift_18 (by decide) ?_
        have e := Option.some.inj e
        subst e
        exact r_ret dX4_hasShift_19 rfl rfl
set_option maxRecDepth 100000 in
set_option maxHeartbeats 4000000 in
theorem c_X4_hasShift {G : mG} {g : (Nat → Nat → Int32)} {b : Bool} {x : Nat} {R : Bool} (e : f_X4_hasShift g b x = some R) : MC G mX4_hasShift 2 0 0 [.ref x] (m_h g b) (some (.int (m_bi R))) (m_h g b) := by
  refine MC_intro mlX4_hasShift (Nat.le_of_ble_eq_true rfl) (m_okZ _) rfl trivial ?_
  unfold f_X4_hasShift at e
  refine r_iconst (x := 0) dX4_hasShift_0 (by decide) ?_
  refine r_istore_n dX4_hasShift_1 rfl (by decide) rfl ?_
  exact w_X4_hasShift_2 2000 _ R e
/-! X6_ownerOf -/
def f_X6_ownerOf (g : (Nat → Nat → Int32)) (b : Bool) (a1 : Int32) (a2 : Int32) : Option Int32 :=
  ((f_X6_tableAt g b a1).bind fun v1 =>
(m_oc v1
(some (-2147483648))
(fun q3 =>
(if m_S0[q3]? = some (.inl 4) then
((f_X1_read g b 4 a1 a2 (g q3 5)).bind fun v5 =>
some v5) else none))))
set_option maxRecDepth 100000 in
set_option maxHeartbeats 4000000 in
theorem c_X6_ownerOf {G : mG} {g : (Nat → Nat → Int32)} {b : Bool} {a1 : Int32} {a2 : Int32} {R : Int32} (e : f_X6_ownerOf g b a1 a2 = some R) : MC G mX6_ownerOf 2 0 0 [.ref 0, .int a1, .int a2] (m_h g b) (some (.int R)) (m_h g b) := by
  refine MC_intro mlX6_ownerOf (Nat.le_of_ble_eq_true rfl) ⟨_, rfl⟩ rfl trivial ?_
  unfold f_X6_ownerOf at e
  refine r_aload_n dX6_ownerOf_0 rfl rfl ?_
  refine r_iload_n dX6_ownerOf_1 rfl rfl ?_
  obtain ⟨v1, h2, e⟩ := g_bd e
  refine q_callV (rest := []) (c_X6_tableAt h2) dX6_ownerOf_2 lkX6_73 rfl rfl rfl rfl (Nat.le_of_ble_eq_true rfl) (by decide) ?_
  refine r_astore_nO dX6_ownerOf_5 rfl (by decide) rfl ?_
  refine r_aload_nO dX6_ownerOf_6 rfl rfl ?_
  cases v1 with
  | none =>
    have e := g_oN e
    refine r_ifnonnullN (tgt := 15) dX6_ownerOf_7 (by decide) ?_
    refine r_ldc (x := (-2147483648)) dX6_ownerOf_10 kcX6_179 ?_
    refine r_goto (tgt := 28) dX6_ownerOf_12 (by decide) ?_
    have e := Option.some.inj e
    subst e
    exact r_ret dX6_ownerOf_28 rfl rfl
  | some q3 =>
    have e := g_oS e
    refine r_ifnonnull (tgt := 15) dX6_ownerOf_7 (by decide) ?_
    refine r_aload_n dX6_ownerOf_15 rfl rfl ?_
    refine q_getr dX6_ownerOf_16 flX6_30 rfl rfl (m_fr_0_3 _) ?_
    refine r_iload_n dX6_ownerOf_19 rfl rfl ?_
    refine r_iload_n dX6_ownerOf_20 rfl rfl ?_
    refine r_aload_n dX6_ownerOf_21 rfl rfl ?_
    obtain ⟨h4, e⟩ := g_gd e
    refine q_geti dX6_ownerOf_22 flX6_108 rfl h4 ?_
    obtain ⟨v5, h6, e⟩ := g_bd e
    refine q_callV (rest := []) (c_X1_read h6) dX6_ownerOf_25 lkX6_180 rfl rfl rfl rfl (Nat.le_of_ble_eq_true rfl) (by decide) ?_
    have e := Option.some.inj e
    subst e
    exact r_ret dX6_ownerOf_28 rfl rfl
/-! X2_open -/
def f_X2_open (g : (Nat → Nat → Int32)) : Option (Nat → Nat → Int32) :=
  (m_let (m_up g 6 0 30) fun g1 =>
(m_let (m_up g1 6 1 30) fun g3 =>
some g3))
set_option maxRecDepth 100000 in
set_option maxHeartbeats 4000000 in
theorem c_X2_open {G : mG} {g : (Nat → Nat → Int32)} {b : Bool} {R : (Nat → Nat → Int32)} (e : f_X2_open g = some R) : MC G mX2_open 0 0 0 [.ref 6] (m_h g b) none (m_h R b) := by
  refine MC_intro mlX2_open (Nat.le_of_ble_eq_true rfl) rfl rfl trivial ?_
  unfold f_X2_open at e
  refine r_aload_n dX2_open_0 rfl rfl ?_
  refine r_bipush (x := 30) dX2_open_1 (by decide) ?_
  refine q_putiL dX2_open_3 flX2_9 (Or.inl rfl) (Or.inl rfl) rfl (fun g1 h2 => ?_)
  have e := g_lt h2 e
  refine r_aload_n dX2_open_6 rfl rfl ?_
  refine r_bipush (x := 30) dX2_open_7 (by decide) ?_
  refine q_putiL dX2_open_9 flX2_15 (Or.inl rfl) (Or.inl rfl) rfl (fun g3 h4 => ?_)
  have e := g_lt h4 e
  have e := Option.some.inj e
  subst e
  exact r_ret dX2_open_12 rfl rfl
/-! X2_narrow -/
def f_X2_narrow (g : (Nat → Nat → Int32)) (a1 : Int32) : Option (Nat → Nat → Int32) :=
  (m_let (m_up g 6 0 (m_min (g 6 0) a1)) fun g1 =>
(m_let (m_up g1 6 1 (m_min (g1 6 1) (9999 - a1))) fun g3 =>
some g3))
set_option maxRecDepth 100000 in
set_option maxHeartbeats 4000000 in
theorem c_X2_narrow {G : mG} {g : (Nat → Nat → Int32)} {b : Bool} {a1 : Int32} {R : (Nat → Nat → Int32)} (e : f_X2_narrow g a1 = some R) : MC G mX2_narrow 1 0 0 [.ref 6, .int a1] (m_h g b) none (m_h R b) := by
  refine MC_intro mlX2_narrow (Nat.le_of_ble_eq_true rfl) rfl rfl trivial ?_
  unfold f_X2_narrow at e
  refine r_aload_n dX2_narrow_0 rfl rfl ?_
  refine r_aload_n dX2_narrow_1 rfl rfl ?_
  refine q_geti dX2_narrow_2 flX2_9 rfl rfl ?_
  refine r_iload_n dX2_narrow_5 rfl rfl ?_
  refine q_min dX2_narrow_6 lkX2_18 (Nat.le_of_ble_eq_true rfl) (by decide) ?_
  refine q_putiL dX2_narrow_9 flX2_9 (Or.inl rfl) (Or.inl rfl) rfl (fun g1 h2 => ?_)
  have e := g_lt h2 e
  refine r_aload_n dX2_narrow_12 rfl rfl ?_
  refine r_aload_n dX2_narrow_13 rfl rfl ?_
  refine q_geti dX2_narrow_14 flX2_15 rfl rfl ?_
  refine r_sipush (x := 9999) dX2_narrow_17 (by decide) ?_
  refine r_iload_n dX2_narrow_20 rfl rfl ?_
  refine r_isub dX2_narrow_21 ?_
  refine q_min dX2_narrow_22 lkX2_18 (Nat.le_of_ble_eq_true rfl) (by decide) ?_
  refine q_putiL dX2_narrow_25 flX2_15 (Or.inl rfl) (Or.inl rfl) rfl (fun g3 h4 => ?_)
  have e := g_lt h4 e
  have e := Option.some.inj e
  subst e
  exact r_ret dX2_narrow_28 rfl rfl
/-! X6_narrowRoomByRow -/
def lp_X6_narrowRoomByRow_3 (b : Bool) (a1 : Nat) (a2 : Int32) (a3 : Int32) : Nat → Int32 → (Nat → Nat → Int32) → Option (Nat → Nat → Int32)
  | 0, _, _ => none
  | n + 1, y3_4, g3 =>
  (if m_S0[a1]? = some (.inl 4) then
(if (g3 a1 3) ≤ y3_4 then
some g3
else
((f_X1_read g3 b 4 a2 a3 y3_4).bind fun v3003 =>
(if v3003 = (-2147483648) then
lp_X6_narrowRoomByRow_3 b a1 a2 a3 n (y3_4 + 1) g3
else
((f_X4_isShifted g3 b a1 y3_4).bind fun v3006 =>
(bif v3006 then
((f_X2_narrow g3 v3003).bind fun v3009 =>
lp_X6_narrowRoomByRow_3 b a1 a2 a3 n (y3_4 + 1) v3009)
else
lp_X6_narrowRoomByRow_3 b a1 a2 a3 n (y3_4 + 1) g3))))) else none)
def f_X6_narrowRoomByRow (g : (Nat → Nat → Int32)) (b : Bool) (a1 : Nat) (a2 : Int32) (a3 : Int32) : Option (Nat → Nat → Int32) :=
  lp_X6_narrowRoomByRow_3 b a1 a2 a3 2000 0 g
set_option maxRecDepth 100000 in
set_option maxHeartbeats 4000000 in
theorem w_X6_narrowRoomByRow_3 {G : mG} {b : Bool} {a1 : Nat} {a2 : Int32} {a3 : Int32} : ∀ (n : Nat) (y3_4 : Int32) (g3 : (Nat → Nat → Int32)) (R : (Nat → Nat → Int32)), lp_X6_narrowRoomByRow_3 b a1 a2 a3 n y3_4 g3 = some R → MW G mX6_narrowRoomByRow 2 0 0 3 [.ref 0, .ref a1, .int a2, .int a3, .int y3_4, .retAddr 0] [] (m_h g3 b) none (m_h R b)
  | 0, _, _, R, e => absurd (show (none : Option (Nat → Nat → Int32)) = some R from e) (fun h => by cases h)
  | n + 1, y3_4, g3, R, e => by
    rw [lp_X6_narrowRoomByRow_3] at e
    refine r_iload dX6_narrowRoomByRow_3 rfl ?_
    refine r_aload_n dX6_narrowRoomByRow_5 rfl rfl ?_
    obtain ⟨h3001, e⟩ := g_gd e
    refine q_geti dX6_narrowRoomByRow_6 flX6_80 rfl h3001 ?_
    refine r_icmp_ge (tgt := 56) dX6_narrowRoomByRow_9 (by decide) (fun h3002 => ?_) (fun h3002 => ?_)
    · have e := g_iT h3002 e
      have e := Option.some.inj e
      subst e
      exact r_ret dX6_narrowRoomByRow_56 rfl rfl
    · have e := g_iF h3002 e
      refine r_aload_n dX6_narrowRoomByRow_12 rfl rfl ?_
      refine q_getr dX6_narrowRoomByRow_13 flX6_30 rfl rfl (m_fr_0_3 _) ?_
      refine r_iload_n dX6_narrowRoomByRow_16 rfl rfl ?_
      refine r_iload_n dX6_narrowRoomByRow_17 rfl rfl ?_
      refine r_iload dX6_narrowRoomByRow_18 rfl ?_
      obtain ⟨v3003, h3004, e⟩ := g_bd e
      refine q_callV (rest := []) (c_X1_read h3004) dX6_narrowRoomByRow_20 lkX6_180 rfl rfl rfl rfl (Nat.le_of_ble_eq_true rfl) (by decide) ?_
      refine r_istore dX6_narrowRoomByRow_23 (by decide) rfl ?_
      refine r_iload dX6_narrowRoomByRow_25 rfl ?_
      refine r_ldc (x := (-2147483648)) dX6_narrowRoomByRow_27 kcX6_179 ?_
      refine r_icmp_eq (tgt := 50) dX6_narrowRoomByRow_29 (by decide) (fun h3005 => ?_) (fun h3005 => ?_)
      · have e := g_iT h3005 e
        refine r_iinc (y := 1) dX6_narrowRoomByRow_50 rfl (by decide) (by decide) rfl ?_
        refine r_goto (tgt := 3) dX6_narrowRoomByRow_53 (by decide) ?_
        refine r_forget 5 rfl ?_
        exact w_X6_narrowRoomByRow_3 n _ _ R e
      · have e := g_iF h3005 e
        refine r_aload_n dX6_narrowRoomByRow_32 rfl rfl ?_
        refine r_iload dX6_narrowRoomByRow_33 rfl ?_
        obtain ⟨v3006, h3007, e⟩ := g_bd e
        refine q_callV (rest := []) (c_X4_isShifted h3007) dX6_narrowRoomByRow_35 lkX6_298 h3001 rfl rfl rfl (Nat.le_of_ble_eq_true rfl) (by decide) ?_
        refine r_ifeqB (tgt := 50) dX6_narrowRoomByRow_38 (by decide) (fun h3008 => ?_) (fun h3008 => ?_)
        · have e := g_cF h3008 e
          refine r_iinc (y := 1) dX6_narrowRoomByRow_50 rfl (by decide) (by decide) rfl ?_
          refine r_goto (tgt := 3) dX6_narrowRoomByRow_53 (by decide) ?_
          refine r_forget 5 rfl ?_
          exact w_X6_narrowRoomByRow_3 n _ _ R e
        · have e := g_cT h3008 e
          refine r_aload_n dX6_narrowRoomByRow_41 rfl rfl ?_
          refine q_getr dX6_narrowRoomByRow_42 flX6_37 rfl rfl (m_fr_0_4 _) ?_
          refine r_iload dX6_narrowRoomByRow_45 rfl ?_
          obtain ⟨v3009, h3010, e⟩ := g_bd e
          refine q_callV (rest := []) (c_X2_narrow h3010) dX6_narrowRoomByRow_47 lkX6_301 rfl rfl rfl rfl (Nat.le_of_ble_eq_true rfl) (by decide) ?_
          refine r_iinc (y := 1) dX6_narrowRoomByRow_50 rfl (by decide) (by decide) rfl ?_
          refine r_goto (tgt := 3) dX6_narrowRoomByRow_53 (by decide) ?_
          refine r_forget 5 rfl ?_
          exact w_X6_narrowRoomByRow_3 n _ _ R e
set_option maxRecDepth 100000 in
set_option maxHeartbeats 4000000 in
theorem c_X6_narrowRoomByRow {G : mG} {g : (Nat → Nat → Int32)} {b : Bool} {a1 : Nat} {a2 : Int32} {a3 : Int32} {R : (Nat → Nat → Int32)} (e : f_X6_narrowRoomByRow g b a1 a2 a3 = some R) : MC G mX6_narrowRoomByRow 2 0 0 [.ref 0, .ref a1, .int a2, .int a3] (m_h g b) none (m_h R b) := by
  refine MC_intro mlX6_narrowRoomByRow (Nat.le_of_ble_eq_true rfl) rfl rfl trivial ?_
  unfold f_X6_narrowRoomByRow at e
  refine r_iconst (x := 0) dX6_narrowRoomByRow_0 (by decide) ?_
  refine r_istore dX6_narrowRoomByRow_1 (by decide) rfl ?_
  exact w_X6_narrowRoomByRow_3 2000 _ _ R e
/-! X6_narrowRoom -/
def lp_X6_narrowRoom_21 (b : Bool) (a1 : Int32) (a2 : Int32) (x21_3 : Nat) : Nat → Int32 → (Nat → Nat → Int32) → Option (Nat → Nat → Int32)
  | 0, _, _ => none
  | n + 1, y21_4, g21 =>
  (if m_S0[x21_3]? = some (.inl 4) then
(if (g21 x21_3 4) ≤ y21_4 then
some g21
else
((f_X6_ownerOf g21 b a1 y21_4).bind fun v21003 =>
(if v21003 = a2 then
((f_X6_narrowRoomByRow g21 b x21_3 a1 y21_4).bind fun v21006 =>
lp_X6_narrowRoom_21 b a1 a2 x21_3 n (y21_4 + 1) v21006)
else
lp_X6_narrowRoom_21 b a1 a2 x21_3 n (y21_4 + 1) g21))) else none)
def f_X6_narrowRoom (g : (Nat → Nat → Int32)) (b : Bool) (a1 : Int32) (a2 : Int32) : Option (Nat → Nat → Int32) :=
  ((f_X6_tableAt g b a1).bind fun v1 =>
(m_oc v1
(some g)
(fun q3 =>
(if m_S0[q3]? = some (.inl 4) then
((f_X4_hasShift g b q3).bind fun v5 =>
(bif v5 then
lp_X6_narrowRoom_21 b a1 a2 q3 2000 0 g
else
some g)) else none))))
set_option maxRecDepth 100000 in
set_option maxHeartbeats 4000000 in
theorem w_X6_narrowRoom_21 {G : mG} {b : Bool} {a1 : Int32} {a2 : Int32} {x21_3 : Nat} : ∀ (n : Nat) (y21_4 : Int32) (g21 : (Nat → Nat → Int32)) (R : (Nat → Nat → Int32)), lp_X6_narrowRoom_21 b a1 a2 x21_3 n y21_4 g21 = some R → MW G mX6_narrowRoom 3 0 0 21 [.ref 0, .int a1, .int a2, .ref x21_3, .int y21_4] [] (m_h g21 b) none (m_h R b)
  | 0, _, _, R, e => absurd (show (none : Option (Nat → Nat → Int32)) = some R from e) (fun h => by cases h)
  | n + 1, y21_4, g21, R, e => by
    rw [lp_X6_narrowRoom_21] at e
    refine r_iload dX6_narrowRoom_21 rfl ?_
    refine r_aload_n dX6_narrowRoom_23 rfl rfl ?_
    obtain ⟨h21001, e⟩ := g_gd e
    refine q_geti dX6_narrowRoom_24 flX6_77 rfl h21001 ?_
    refine r_icmp_ge (tgt := 55) dX6_narrowRoom_27 (by decide) (fun h21002 => ?_) (fun h21002 => ?_)
    · have e := g_iT h21002 e
      have e := Option.some.inj e
      subst e
      exact r_ret dX6_narrowRoom_55 rfl rfl
    · have e := g_iF h21002 e
      refine r_aload_n dX6_narrowRoom_30 rfl rfl ?_
      refine r_iload_n dX6_narrowRoom_31 rfl rfl ?_
      refine r_iload dX6_narrowRoom_32 rfl ?_
      obtain ⟨v21003, h21004, e⟩ := g_bd e
      refine q_callV (rest := []) (c_X6_ownerOf h21004) dX6_narrowRoom_34 lkX6_263 rfl rfl rfl rfl (Nat.le_of_ble_eq_true rfl) (by decide) ?_
      refine r_iload_n dX6_narrowRoom_37 rfl rfl ?_
      refine r_icmp_ne (tgt := 49) dX6_narrowRoom_38 (by decide) (fun h21005 => ?_) (fun h21005 => ?_)
      · have e := g_iF h21005 e
        refine r_iinc (y := 1) dX6_narrowRoom_49 rfl (by decide) (by decide) rfl ?_
        refine r_goto (tgt := 21) dX6_narrowRoom_52 (by decide) ?_
        exact w_X6_narrowRoom_21 n _ _ R e
      · have e := g_iT h21005 e
        refine r_aload_n dX6_narrowRoom_41 rfl rfl ?_
        refine r_aload_n dX6_narrowRoom_42 rfl rfl ?_
        refine r_iload_n dX6_narrowRoom_43 rfl rfl ?_
        refine r_iload dX6_narrowRoom_44 rfl ?_
        obtain ⟨v21006, h21007, e⟩ := g_bd e
        refine q_callV (rest := []) (c_X6_narrowRoomByRow h21007) dX6_narrowRoom_46 lkX6_294 rfl rfl rfl rfl (Nat.le_of_ble_eq_true rfl) (by decide) ?_
        refine r_iinc (y := 1) dX6_narrowRoom_49 rfl (by decide) (by decide) rfl ?_
        refine r_goto (tgt := 21) dX6_narrowRoom_52 (by decide) ?_
        exact w_X6_narrowRoom_21 n _ _ R e
set_option maxRecDepth 100000 in
set_option maxHeartbeats 4000000 in
theorem c_X6_narrowRoom {G : mG} {g : (Nat → Nat → Int32)} {b : Bool} {a1 : Int32} {a2 : Int32} {R : (Nat → Nat → Int32)} (e : f_X6_narrowRoom g b a1 a2 = some R) : MC G mX6_narrowRoom 3 0 0 [.ref 0, .int a1, .int a2] (m_h g b) none (m_h R b) := by
  refine MC_intro mlX6_narrowRoom (Nat.le_of_ble_eq_true rfl) rfl rfl trivial ?_
  unfold f_X6_narrowRoom at e
  refine r_aload_n dX6_narrowRoom_0 rfl rfl ?_
  refine r_iload_n dX6_narrowRoom_1 rfl rfl ?_
  obtain ⟨v1, h2, e⟩ := g_bd e
  refine q_callV (rest := []) (c_X6_tableAt h2) dX6_narrowRoom_2 lkX6_73 rfl rfl rfl rfl (Nat.le_of_ble_eq_true rfl) (by decide) ?_
  refine r_astore_nO dX6_narrowRoom_5 rfl (by decide) rfl ?_
  refine r_aload_nO dX6_narrowRoom_6 rfl rfl ?_
  cases v1 with
  | none =>
    have e := g_oN e
    refine r_ifnullN (tgt := 17) dX6_narrowRoom_7 (by decide) ?_
    have e := Option.some.inj e
    subst e
    exact r_ret dX6_narrowRoom_17 rfl rfl
  | some q3 =>
    have e := g_oS e
    refine r_ifnull (tgt := 17) dX6_narrowRoom_7 (by decide) ?_
    refine r_aload_n dX6_narrowRoom_10 rfl rfl ?_
    obtain ⟨h4, e⟩ := g_gd e
    obtain ⟨v5, h6, e⟩ := g_bd e
    refine q_callV (rest := []) (c_X4_hasShift h6) dX6_narrowRoom_11 lkX6_259 h4 rfl rfl rfl (Nat.le_of_ble_eq_true rfl) (by decide) ?_
    refine r_ifneB (tgt := 18) dX6_narrowRoom_14 (by decide) (fun h7 => ?_) (fun h7 => ?_)
    · have e := g_cT h7 e
      refine r_iconst (x := 0) dX6_narrowRoom_18 (by decide) ?_
      refine r_istore dX6_narrowRoom_19 (by decide) rfl ?_
      exact w_X6_narrowRoom_21 2000 _ _ R e
    · have e := g_cF h7 e
      have e := Option.some.inj e
      subst e
      exact r_ret dX6_narrowRoom_17 rfl rfl
/-! X2_lets -/
def f_X2_lets (g : (Nat → Nat → Int32)) (a1 : Int32) : Bool :=
  (if a1 < (-(g 6 0)) then
false
else
(if (g 6 1) < a1 then
false
else
true))
set_option maxRecDepth 100000 in
set_option maxHeartbeats 4000000 in
theorem c_X2_lets {G : mG} {g : (Nat → Nat → Int32)} {b : Bool} {a1 : Int32} {R : Bool} (e : f_X2_lets g a1 = R) : MC G mX2_lets 0 0 0 [.ref 6, .int a1] (m_h g b) (some (.int (m_bi R))) (m_h g b) := by
  refine MC_intro mlX2_lets (Nat.le_of_ble_eq_true rfl) (m_okZ _) rfl trivial ?_
  unfold f_X2_lets at e
  refine r_iload_n dX2_lets_0 rfl rfl ?_
  refine r_aload_n dX2_lets_1 rfl rfl ?_
  refine q_geti dX2_lets_2 flX2_9 rfl rfl ?_
  refine r_ineg dX2_lets_5 ?_
  refine r_icmp_lt (tgt := 21) dX2_lets_6 (by decide) (fun h1 => ?_) (fun h1 => ?_)
  · have e := g_iT h1 e
    refine r_iconst (x := 0) dX2_lets_21 (by decide) ?_
    subst e
    exact r_ret dX2_lets_22 rfl rfl
  · have e := g_iF h1 e
    refine r_iload_n dX2_lets_9 rfl rfl ?_
    refine r_aload_n dX2_lets_10 rfl rfl ?_
    refine q_geti dX2_lets_11 flX2_15 rfl rfl ?_
    refine r_icmp_gt (tgt := 21) dX2_lets_14 (by decide) (fun h2 => ?_) (fun h2 => ?_)
    · have e := g_iT h2 e
      refine r_iconst (x := 0) dX2_lets_21 (by decide) ?_
      subst e
      exact r_ret dX2_lets_22 rfl rfl
    · have e := g_iF h2 e
      refine r_iconst (x := 1) dX2_lets_17 (by decide) ?_
      refine r_goto (tgt := 22) dX2_lets_18 (by decide) ?_
      subst e
      exact r_ret dX2_lets_22 rfl rfl
/-! X6_shiftOf -/
def lp_X6_shiftOf_39 (b : Bool) (a1 : Int32) (g17 : (Nat → Nat → Int32)) (k17 : (Int32 → (Nat → Nat → Int32) → Option (Int32 × (Nat → Nat → Int32)))) : Nat → Int32 → Option (Int32 × (Nat → Nat → Int32))
  | 0, _ => none
  | n + 1, y39_2 =>
  (if 61 ≤ y39_2 then
some (0, g17)
else
(bif (f_X2_lets g17 ((m_rem ((a1 + (g17 0 11)) + y39_2) 61) - 30)) then
some (((m_rem ((a1 + (g17 0 11)) + y39_2) 61) - 30), g17)
else
lp_X6_shiftOf_39 b a1 g17 k17 n (y39_2 + 1)))
def lp_X6_shiftOf_17 (b : Bool) (a1 : Int32) : Nat → Int32 → (Nat → Nat → Int32) → Option (Int32 × (Nat → Nat → Int32))
  | 0, _, _ => none
  | n + 1, y17_2, g17 =>
  (if (g17 0 8) ≤ y17_2 then
lp_X6_shiftOf_39 b a1 g17 (fun y17_2 g17 => lp_X6_shiftOf_17 b a1 n y17_2 g17) 2000 0
else
((f_X6_narrowRoom g17 b y17_2 a1).bind fun v17002 =>
lp_X6_shiftOf_17 b a1 n (y17_2 + 1) v17002))
def f_X6_shiftOf (g : (Nat → Nat → Int32)) (b : Bool) (a1 : Int32) : Option (Int32 × (Nat → Nat → Int32)) :=
  (if a1 = (-2147483648) then
some (0, g)
else
((f_X2_open g).bind fun v2 =>
lp_X6_shiftOf_17 b a1 2000 0 v2))
set_option maxRecDepth 100000 in
set_option maxHeartbeats 4000000 in
theorem w_X6_shiftOf_39 {G : mG} {b : Bool} {a1 : Int32} {g17 : (Nat → Nat → Int32)} {k17 : (Int32 → (Nat → Nat → Int32) → Option (Int32 × (Nat → Nat → Int32)))} (hk17 : ∀ (y17_2 : Int32) (g17 : (Nat → Nat → Int32)) (R : (Int32 × (Nat → Nat → Int32))), k17 y17_2 g17 = some R → MW G mX6_shiftOf 4 0 0 17 [.ref 0, .int a1, .int y17_2, .retAddr 0] [] (m_h g17 b) (some (.int R.1)) (m_h R.2 b)) : ∀ (n : Nat) (y39_2 : Int32) (R : (Int32 × (Nat → Nat → Int32))), lp_X6_shiftOf_39 b a1 g17 k17 n y39_2 = some R → MW G mX6_shiftOf 4 0 0 39 [.ref 0, .int a1, .int y39_2, .retAddr 0] [] (m_h g17 b) (some (.int R.1)) (m_h R.2 b)
  | 0, _, R, e => absurd (show (none : Option (Int32 × (Nat → Nat → Int32))) = some R from e) (fun h => by cases h)
  | n + 1, y39_2, R, e => by
    rw [lp_X6_shiftOf_39] at e
    refine r_iload_n dX6_shiftOf_39 rfl rfl ?_
    refine r_bipush (x := 61) dX6_shiftOf_40 (by decide) ?_
    refine r_icmp_ge (tgt := 79) dX6_shiftOf_42 (by decide) (fun h39001 => ?_) (fun h39001 => ?_)
    · have e := g_iT h39001 e
      refine r_iconst (x := 0) dX6_shiftOf_79 (by decide) ?_
      have e := Option.some.inj e
      subst e
      exact r_ret dX6_shiftOf_80 rfl rfl
    · have e := g_iF h39001 e
      refine r_iload_n dX6_shiftOf_45 rfl rfl ?_
      refine r_aload_n dX6_shiftOf_46 rfl rfl ?_
      refine q_geti dX6_shiftOf_47 flX6_64 rfl rfl ?_
      refine r_iadd dX6_shiftOf_50 ?_
      refine r_iload_n dX6_shiftOf_51 rfl rfl ?_
      refine r_iadd dX6_shiftOf_52 ?_
      refine r_bipush (x := 61) dX6_shiftOf_53 (by decide) ?_
      refine q_irem dX6_shiftOf_55 (by decide) ?_
      refine r_bipush (x := 30) dX6_shiftOf_56 (by decide) ?_
      refine r_isub dX6_shiftOf_58 ?_
      refine r_istore_n dX6_shiftOf_59 rfl (by decide) rfl ?_
      refine r_aload_n dX6_shiftOf_60 rfl rfl ?_
      refine q_getr dX6_shiftOf_61 flX6_37 rfl rfl (m_fr_0_4 _) ?_
      refine r_iload_n dX6_shiftOf_64 rfl rfl ?_
      refine q_callV (rest := []) (c_X2_lets rfl) dX6_shiftOf_65 lkX6_291 rfl rfl rfl rfl (Nat.le_of_ble_eq_true rfl) (by decide) ?_
      refine r_ifeqB (tgt := 73) dX6_shiftOf_68 (by decide) (fun h39002 => ?_) (fun h39002 => ?_)
      · have e := g_cF h39002 e
        refine r_iinc (y := 1) dX6_shiftOf_73 rfl (by decide) (by decide) rfl ?_
        refine r_goto (tgt := 39) dX6_shiftOf_76 (by decide) ?_
        refine r_forget 3 rfl ?_
        exact w_X6_shiftOf_39 hk17 n _ R e
      · have e := g_cT h39002 e
        refine r_iload_n dX6_shiftOf_71 rfl rfl ?_
        have e := Option.some.inj e
        subst e
        exact r_ret dX6_shiftOf_72 rfl rfl
set_option maxRecDepth 100000 in
set_option maxHeartbeats 4000000 in
theorem w_X6_shiftOf_17 {G : mG} {b : Bool} {a1 : Int32} : ∀ (n : Nat) (y17_2 : Int32) (g17 : (Nat → Nat → Int32)) (R : (Int32 × (Nat → Nat → Int32))), lp_X6_shiftOf_17 b a1 n y17_2 g17 = some R → MW G mX6_shiftOf 4 0 0 17 [.ref 0, .int a1, .int y17_2, .retAddr 0] [] (m_h g17 b) (some (.int R.1)) (m_h R.2 b)
  | 0, _, _, R, e => absurd (show (none : Option (Int32 × (Nat → Nat → Int32))) = some R from e) (fun h => by cases h)
  | n + 1, y17_2, g17, R, e => by
    rw [lp_X6_shiftOf_17] at e
    refine r_iload_n dX6_shiftOf_17 rfl rfl ?_
    refine r_aload_n dX6_shiftOf_18 rfl rfl ?_
    refine q_geti dX6_shiftOf_19 flX6_54 rfl rfl ?_
    refine r_icmp_ge (tgt := 37) dX6_shiftOf_22 (by decide) (fun h17001 => ?_) (fun h17001 => ?_)
    · have e := g_iT h17001 e
      refine r_iconst (x := 0) dX6_shiftOf_37 (by decide) ?_
      refine r_istore_n dX6_shiftOf_38 rfl (by decide) rfl ?_
      exact w_X6_shiftOf_39 (fun y17_2 g17 R e => w_X6_shiftOf_17 n y17_2 g17 R e) 2000 _ R e
    · have e := g_iF h17001 e
      refine r_aload_n dX6_shiftOf_25 rfl rfl ?_
      refine r_iload_n dX6_shiftOf_26 rfl rfl ?_
      refine r_iload_n dX6_shiftOf_27 rfl rfl ?_
      obtain ⟨v17002, h17003, e⟩ := g_bd e
      refine q_callV (rest := []) (c_X6_narrowRoom h17003) dX6_shiftOf_28 lkX6_288 rfl rfl rfl rfl (Nat.le_of_ble_eq_true rfl) (by decide) ?_
      refine r_iinc (y := 1) dX6_shiftOf_31 rfl (by decide) (by decide) rfl ?_
      refine r_goto (tgt := 17) dX6_shiftOf_34 (by decide) ?_
      exact w_X6_shiftOf_17 n _ _ R e
set_option maxRecDepth 100000 in
set_option maxHeartbeats 4000000 in
theorem c_X6_shiftOf {G : mG} {g : (Nat → Nat → Int32)} {b : Bool} {a1 : Int32} {R : (Int32 × (Nat → Nat → Int32))} (e : f_X6_shiftOf g b a1 = some R) : MC G mX6_shiftOf 4 0 0 [.ref 0, .int a1] (m_h g b) (some (.int R.1)) (m_h R.2 b) := by
  refine MC_intro mlX6_shiftOf (Nat.le_of_ble_eq_true rfl) ⟨_, rfl⟩ rfl trivial ?_
  unfold f_X6_shiftOf at e
  refine r_iload_n dX6_shiftOf_0 rfl rfl ?_
  refine r_ldc (x := (-2147483648)) dX6_shiftOf_1 kcX6_179 ?_
  refine r_icmp_ne (tgt := 8) dX6_shiftOf_3 (by decide) (fun h1 => ?_) (fun h1 => ?_)
  · have e := g_iF h1 e
    refine r_aload_n dX6_shiftOf_8 rfl rfl ?_
    refine q_getr dX6_shiftOf_9 flX6_37 rfl rfl (m_fr_0_4 _) ?_
    obtain ⟨v2, h3, e⟩ := g_bd e
    refine q_callV (rest := []) (c_X2_open h3) dX6_shiftOf_12 lkX6_285 rfl rfl rfl rfl (Nat.le_of_ble_eq_true rfl) (by decide) ?_
    refine r_iconst (x := 0) dX6_shiftOf_15 (by decide) ?_
    refine r_istore_n dX6_shiftOf_16 rfl (by decide) rfl ?_
    exact w_X6_shiftOf_17 2000 _ _ R e
  · have e := g_iT h1 e
    refine r_iconst (x := 0) dX6_shiftOf_6 (by decide) ?_
    have e := Option.some.inj e
    subst e
    exact r_ret dX6_shiftOf_7 rfl rfl
/-! X6_dealtCell -/
def f_X6_dealtCell (g : (Nat → Nat → Int32)) (b : Bool) (a1 : Int32) (a2 : Int32) (a3 : Int32) (a4 : Int32) : Option Int32 :=
  ((f_X6_rowsOf g b a1).bind fun v1 =>
(if 1 ≤ v1 then
(if ¬ v1 = 0 then
((f_X1_read g b 4 a1 (m_rem (a2 + a4) v1) a3).bind fun v5 =>
some v5) else none)
else
some (-2147483648)))
set_option maxRecDepth 100000 in
set_option maxHeartbeats 4000000 in
theorem c_X6_dealtCell {G : mG} {g : (Nat → Nat → Int32)} {b : Bool} {a1 : Int32} {a2 : Int32} {a3 : Int32} {a4 : Int32} {R : Int32} (e : f_X6_dealtCell g b a1 a2 a3 a4 = some R) : MC G mX6_dealtCell 2 0 0 [.ref 0, .int a1, .int a2, .int a3, .int a4] (m_h g b) (some (.int R)) (m_h g b) := by
  refine MC_intro mlX6_dealtCell (Nat.le_of_ble_eq_true rfl) ⟨_, rfl⟩ rfl trivial ?_
  unfold f_X6_dealtCell at e
  refine r_aload_n dX6_dealtCell_0 rfl rfl ?_
  refine r_iload_n dX6_dealtCell_1 rfl rfl ?_
  obtain ⟨v1, h2, e⟩ := g_bd e
  refine q_callV (rest := []) (c_X6_rowsOf h2) dX6_dealtCell_2 lkX6_200 rfl rfl rfl rfl (Nat.le_of_ble_eq_true rfl) (by decide) ?_
  refine r_istore dX6_dealtCell_5 (by decide) rfl ?_
  refine r_iload dX6_dealtCell_7 rfl ?_
  refine r_iconst (x := 1) dX6_dealtCell_9 (by decide) ?_
  refine r_icmp_ge (tgt := 18) dX6_dealtCell_10 (by decide) (fun h3 => ?_) (fun h3 => ?_)
  · have e := g_iT h3 e
    refine r_aload_n dX6_dealtCell_18 rfl rfl ?_
    refine q_getr dX6_dealtCell_19 flX6_30 rfl rfl (m_fr_0_3 _) ?_
    refine r_iload_n dX6_dealtCell_22 rfl rfl ?_
    refine r_iload_n dX6_dealtCell_23 rfl rfl ?_
    refine r_iload dX6_dealtCell_24 rfl ?_
    refine r_iadd dX6_dealtCell_26 ?_
    refine r_iload dX6_dealtCell_27 rfl ?_
    obtain ⟨h4, e⟩ := g_gd e
    refine q_irem dX6_dealtCell_29 h4 ?_
    refine r_iload_n dX6_dealtCell_30 rfl rfl ?_
    obtain ⟨v5, h6, e⟩ := g_bd e
    refine q_callV (rest := []) (c_X1_read h6) dX6_dealtCell_31 lkX6_180 rfl rfl rfl rfl (Nat.le_of_ble_eq_true rfl) (by decide) ?_
    have e := Option.some.inj e
    subst e
    exact r_ret dX6_dealtCell_34 rfl rfl
  · have e := g_iF h3 e
    refine r_ldc (x := (-2147483648)) dX6_dealtCell_13 kcX6_179 ?_
    refine r_goto (tgt := 34) dX6_dealtCell_15 (by decide) ?_
    have e := Option.some.inj e
    subst e
    exact r_ret dX6_dealtCell_34 rfl rfl
/-! X4_turnsKeys -/
def f_X4_turnsKeys (g : (Nat → Nat → Int32)) (b : Bool) (x : Nat) : Option Bool :=
  (if m_S0[x]? = some (.inl 4) then
((m_fr b x 0).bind fun q2 =>
((m_len 2 q2).bind fun n4 =>
(if m_in 0 n4 then
((m_fr b q2 0).bind fun q7 =>
(if m_S0[q7]? = some (.inl 0) then
(if (g q7 2) = 1 then
some true
else
some false) else none)) else none))) else none)
set_option maxRecDepth 100000 in
set_option maxHeartbeats 4000000 in
theorem c_X4_turnsKeys {G : mG} {g : (Nat → Nat → Int32)} {b : Bool} {x : Nat} {R : Bool} (e : f_X4_turnsKeys g b x = some R) : MC G mX4_turnsKeys 0 0 0 [.ref x] (m_h g b) (some (.int (m_bi R))) (m_h g b) := by
  refine MC_intro mlX4_turnsKeys (Nat.le_of_ble_eq_true rfl) (m_okZ _) rfl trivial ?_
  unfold f_X4_turnsKeys at e
  refine r_aload_n dX4_turnsKeys_0 rfl rfl ?_
  obtain ⟨h1, e⟩ := g_gd e
  obtain ⟨q2, h3, e⟩ := g_bd e
  refine q_getr dX4_turnsKeys_1 flX4_11 rfl h1 h3 ?_
  refine r_iconst (x := 0) dX4_turnsKeys_4 (by decide) ?_
  obtain ⟨n4, h5, e⟩ := g_bd e
  obtain ⟨h6, e⟩ := g_gd e
  obtain ⟨q7, h8, e⟩ := g_bd e
  refine q_aald dX4_turnsKeys_5 (by decide) (m_len_s h5) h6 h8 ?_
  obtain ⟨h9, e⟩ := g_gd e
  refine q_geti dX4_turnsKeys_6 flX4_45 rfl h9 ?_
  refine r_iconst (x := 1) dX4_turnsKeys_9 (by decide) ?_
  refine r_icmp_ne (tgt := 17) dX4_turnsKeys_10 (by decide) (fun h10 => ?_) (fun h10 => ?_)
  · have e := g_iF h10 e
    refine r_iconst (x := 0) dX4_turnsKeys_17 (by decide) ?_
    have e := Option.some.inj e
    subst e
    exact r_ret dX4_turnsKeys_18 rfl rfl
  · have e := g_iT h10 e
    refine r_iconst (x := 1) dX4_turnsKeys_13 (by decide) ?_
    refine r_goto (tgt := 18) dX4_turnsKeys_14 (by decide) ?_
    have e := Option.some.inj e
    subst e
    exact r_ret dX4_turnsKeys_18 rfl rfl
/-! X4_turnKey -/
def lp_X4_turnKey_13 (g : (Nat → Nat → Int32)) (b : Bool) (x : Nat) (a1 : Int32) : Nat → Int32 → Int32 → Int32 → Int32 → Option Int32
  | 0, _, _, _, _ => none
  | n + 1, y13_2, y13_3, y13_4, y13_5 =>
  (if 4 < y13_5 then
some ((y13_3 * 10) + (f_X6_rightFigure y13_3))
else
(if m_S0[x]? = some (.inl 4) then
((m_fr b x 1).bind fun q13003 =>
((m_len 0 q13003).bind fun n13005 =>
(if m_in y13_5 n13005 then
((m_fr b x 2).bind fun q13008 =>
((m_len 0 q13008).bind fun n13010 =>
(if m_in y13_5 n13010 then
(m_let (y13_3 + ((m_rem (((g q13003 y13_5.toNatClampNeg) * (m_rem y13_2 10)) + (g q13008 y13_5.toNatClampNeg)) 10) * y13_4)) fun t13013 =>
lp_X4_turnKey_13 g b x a1 n (y13_2 / 10) t13013 (y13_4 * 10) (y13_5 + 1)) else none))) else none))) else none))
def f_X4_turnKey (g : (Nat → Nat → Int32)) (b : Bool) (x : Nat) (a1 : Int32) : Option Int32 :=
  lp_X4_turnKey_13 g b x a1 2000 (a1 / 10) 0 1 1
set_option maxRecDepth 100000 in
set_option maxHeartbeats 4000000 in
theorem w_X4_turnKey_13 {G : mG} {g : (Nat → Nat → Int32)} {b : Bool} {x : Nat} {a1 : Int32} : ∀ (n : Nat) (y13_2 : Int32) (y13_3 : Int32) (y13_4 : Int32) (y13_5 : Int32) (R : Int32), lp_X4_turnKey_13 g b x a1 n y13_2 y13_3 y13_4 y13_5 = some R → MW G mX4_turnKey 1 0 0 13 [.ref x, .int a1, .int y13_2, .int y13_3, .int y13_4, .int y13_5] [] (m_h g b) (some (.int R)) (m_h g b)
  | 0, _, _, _, _, R, e => absurd (show (none : Option Int32) = some R from e) (fun h => by cases h)
  | n + 1, y13_2, y13_3, y13_4, y13_5, R, e => by
    rw [lp_X4_turnKey_13] at e
    refine r_iload dX4_turnKey_13 rfl ?_
    refine r_iconst (x := 4) dX4_turnKey_15 (by decide) ?_
    refine r_icmp_gt (tgt := 66) dX4_turnKey_16 (by decide) (fun h13001 => ?_) (fun h13001 => ?_)
    · have e := g_iT h13001 e
      refine r_iload_n dX4_turnKey_66 rfl rfl ?_
      refine r_bipush (x := 10) dX4_turnKey_67 (by decide) ?_
      refine r_imul dX4_turnKey_69 ?_
      refine r_iload_n dX4_turnKey_70 rfl rfl ?_
      refine q_callS (rest := [.int (y13_3 * 10)]) (c_X6_rightFigure rfl) dX4_turnKey_71 lkX4_52 rfl rfl (Nat.le_of_ble_eq_true rfl) (by decide) ?_
      refine r_iadd dX4_turnKey_74 ?_
      have e := Option.some.inj e
      subst e
      exact r_ret dX4_turnKey_75 rfl rfl
    · have e := g_iF h13001 e
      refine r_iload_n dX4_turnKey_19 rfl rfl ?_
      refine r_aload_n dX4_turnKey_20 rfl rfl ?_
      obtain ⟨h13002, e⟩ := g_gd e
      obtain ⟨q13003, h13004, e⟩ := g_bd e
      refine q_getr dX4_turnKey_21 flX4_17 rfl h13002 h13004 ?_
      refine r_iload dX4_turnKey_24 rfl ?_
      obtain ⟨n13005, h13006, e⟩ := g_bd e
      obtain ⟨h13007, e⟩ := g_gd e
      refine q_iald dX4_turnKey_26 (m_len_s h13006) h13007 ?_
      refine r_iload_n dX4_turnKey_27 rfl rfl ?_
      refine r_bipush (x := 10) dX4_turnKey_28 (by decide) ?_
      refine q_irem dX4_turnKey_30 (by decide) ?_
      refine r_imul dX4_turnKey_31 ?_
      refine r_aload_n dX4_turnKey_32 rfl rfl ?_
      obtain ⟨q13008, h13009, e⟩ := g_bd e
      refine q_getr dX4_turnKey_33 flX4_21 rfl h13002 h13009 ?_
      refine r_iload dX4_turnKey_36 rfl ?_
      obtain ⟨n13010, h13011, e⟩ := g_bd e
      obtain ⟨h13012, e⟩ := g_gd e
      refine q_iald dX4_turnKey_38 (m_len_s h13011) h13012 ?_
      refine r_iadd dX4_turnKey_39 ?_
      refine r_bipush (x := 10) dX4_turnKey_40 (by decide) ?_
      refine q_irem dX4_turnKey_42 (by decide) ?_
      refine r_iload dX4_turnKey_43 rfl ?_
      refine r_imul dX4_turnKey_45 ?_
      refine r_iadd dX4_turnKey_46 ?_
      refine q_istore_nL dX4_turnKey_47 rfl (by decide) (fun t13013 h13014 => ?_)
      refine m_Lset rfl ?_
      have e := g_lt h13014 e
      refine r_iload_n dX4_turnKey_48 rfl rfl ?_
      refine r_bipush (x := 10) dX4_turnKey_49 (by decide) ?_
      refine r_idiv dX4_turnKey_51 (by decide) ?_
      refine r_istore_n dX4_turnKey_52 rfl (by decide) rfl ?_
      refine r_iload dX4_turnKey_53 rfl ?_
      refine r_bipush (x := 10) dX4_turnKey_55 (by decide) ?_
      refine r_imul dX4_turnKey_57 ?_
      refine r_istore dX4_turnKey_58 (by decide) rfl ?_
      refine r_iinc (y := 1) dX4_turnKey_60 rfl (by decide) (by decide) rfl ?_
      refine r_goto (tgt := 13) dX4_turnKey_63 (by decide) ?_
      exact w_X4_turnKey_13 n _ _ _ _ R e
set_option maxRecDepth 100000 in
set_option maxHeartbeats 4000000 in
theorem c_X4_turnKey {G : mG} {g : (Nat → Nat → Int32)} {b : Bool} {x : Nat} {a1 : Int32} {R : Int32} (e : f_X4_turnKey g b x a1 = some R) : MC G mX4_turnKey 1 0 0 [.ref x, .int a1] (m_h g b) (some (.int R)) (m_h g b) := by
  refine MC_intro mlX4_turnKey (Nat.le_of_ble_eq_true rfl) ⟨_, rfl⟩ rfl trivial ?_
  unfold f_X4_turnKey at e
  refine r_iload_n dX4_turnKey_0 rfl rfl ?_
  refine r_bipush (x := 10) dX4_turnKey_1 (by decide) ?_
  refine r_idiv dX4_turnKey_3 (by decide) ?_
  refine r_istore_n dX4_turnKey_4 rfl (by decide) rfl ?_
  refine r_iconst (x := 0) dX4_turnKey_5 (by decide) ?_
  refine r_istore_n dX4_turnKey_6 rfl (by decide) rfl ?_
  refine r_iconst (x := 1) dX4_turnKey_7 (by decide) ?_
  refine r_istore dX4_turnKey_8 (by decide) rfl ?_
  refine r_iconst (x := 1) dX4_turnKey_10 (by decide) ?_
  refine r_istore dX4_turnKey_11 (by decide) rfl ?_
  exact w_X4_turnKey_13 2000 _ _ _ _ R e
/-! X6_turnedRef -/
def f_X6_turnedRef (g : (Nat → Nat → Int32)) (b : Bool) (a1 : Int32) (a2 : Int32) : Option Int32 :=
  ((f_X6_tableAt g b a1).bind fun v1 =>
(m_oc v1
(some a2)
(fun q3 =>
(if m_S0[q3]? = some (.inl 4) then
((f_X4_turnsKeys g b q3).bind fun v5 =>
(bif v5 then
((f_X4_turnKey g b q3 a2).bind fun v8 =>
some v8)
else
some a2)) else none))))
set_option maxRecDepth 100000 in
set_option maxHeartbeats 4000000 in
theorem c_X6_turnedRef {G : mG} {g : (Nat → Nat → Int32)} {b : Bool} {a1 : Int32} {a2 : Int32} {R : Int32} (e : f_X6_turnedRef g b a1 a2 = some R) : MC G mX6_turnedRef 2 0 0 [.ref 0, .int a1, .int a2] (m_h g b) (some (.int R)) (m_h g b) := by
  refine MC_intro mlX6_turnedRef (Nat.le_of_ble_eq_true rfl) ⟨_, rfl⟩ rfl trivial ?_
  unfold f_X6_turnedRef at e
  refine r_aload_n dX6_turnedRef_0 rfl rfl ?_
  refine r_iload_n dX6_turnedRef_1 rfl rfl ?_
  obtain ⟨v1, h2, e⟩ := g_bd e
  refine q_callV (rest := []) (c_X6_tableAt h2) dX6_turnedRef_2 lkX6_73 rfl rfl rfl rfl (Nat.le_of_ble_eq_true rfl) (by decide) ?_
  refine r_astore_nO dX6_turnedRef_5 rfl (by decide) rfl ?_
  refine r_aload_nO dX6_turnedRef_6 rfl rfl ?_
  cases v1 with
  | none =>
    have e := g_oN e
    refine r_ifnullN (tgt := 25) dX6_turnedRef_7 (by decide) ?_
    refine r_iload_n dX6_turnedRef_25 rfl rfl ?_
    have e := Option.some.inj e
    subst e
    exact r_ret dX6_turnedRef_26 rfl rfl
  | some q3 =>
    have e := g_oS e
    refine r_ifnull (tgt := 25) dX6_turnedRef_7 (by decide) ?_
    refine r_aload_n dX6_turnedRef_10 rfl rfl ?_
    obtain ⟨h4, e⟩ := g_gd e
    obtain ⟨v5, h6, e⟩ := g_bd e
    refine q_callV (rest := []) (c_X4_turnsKeys h6) dX6_turnedRef_11 lkX6_279 h4 rfl rfl rfl (Nat.le_of_ble_eq_true rfl) (by decide) ?_
    refine r_ifeqB (tgt := 25) dX6_turnedRef_14 (by decide) (fun h7 => ?_) (fun h7 => ?_)
    · have e := g_cF h7 e
      refine r_iload_n dX6_turnedRef_25 rfl rfl ?_
      have e := Option.some.inj e
      subst e
      exact r_ret dX6_turnedRef_26 rfl rfl
    · have e := g_cT h7 e
      refine r_aload_n dX6_turnedRef_17 rfl rfl ?_
      refine r_iload_n dX6_turnedRef_18 rfl rfl ?_
      obtain ⟨v8, h9, e⟩ := g_bd e
      refine q_callV (rest := []) (c_X4_turnKey h9) dX6_turnedRef_19 lkX6_187 h4 rfl rfl rfl (Nat.le_of_ble_eq_true rfl) (by decide) ?_
      refine r_goto (tgt := 26) dX6_turnedRef_22 (by decide) ?_
      have e := Option.some.inj e
      subst e
      exact r_ret dX6_turnedRef_26 rfl rfl
/-! X0_turnName -/
def f_X0_turnName (g : (Nat → Nat → Int32)) (x : Nat) (a1 : Int32) : Option Int32 :=
  (if m_S0[x]? = some (.inl 0) then
some (m_rem (((g x 4) * a1) + (g x 5)) 100) else none)
set_option maxRecDepth 100000 in
set_option maxHeartbeats 4000000 in
theorem c_X0_turnName {G : mG} {g : (Nat → Nat → Int32)} {b : Bool} {x : Nat} {a1 : Int32} {R : Int32} (e : f_X0_turnName g x a1 = some R) : MC G mX0_turnName 0 0 0 [.ref x, .int a1] (m_h g b) (some (.int R)) (m_h g b) := by
  refine MC_intro mlX0_turnName (Nat.le_of_ble_eq_true rfl) ⟨_, rfl⟩ rfl trivial ?_
  unfold f_X0_turnName at e
  refine r_aload_n dX0_turnName_0 rfl rfl ?_
  obtain ⟨h1, e⟩ := g_gd e
  refine q_geti dX0_turnName_1 flX0_24 rfl h1 ?_
  refine r_iload_n dX0_turnName_4 rfl rfl ?_
  refine r_imul dX0_turnName_5 ?_
  refine r_aload_n dX0_turnName_6 rfl rfl ?_
  refine q_geti dX0_turnName_7 flX0_27 rfl h1 ?_
  refine r_iadd dX0_turnName_10 ?_
  refine r_bipush (x := 100) dX0_turnName_11 (by decide) ?_
  refine q_irem dX0_turnName_13 (by decide) ?_
  have e := Option.some.inj e
  subst e
  exact r_ret dX0_turnName_14 rfl rfl
/-! J9_floorMod -/
def f_J9_floorMod (a1 : Int32) (a2 : Int32) : Option Int32 :=
  (if ¬ a2 = 0 then
(if 0 ≤ (a1 ^^^ a2) then
some (m_rem a1 a2)
else
(if (m_rem a1 a2) = 0 then
some (m_rem a1 a2)
else
some ((m_rem a1 a2) + a2))) else none)
set_option maxRecDepth 100000 in
set_option maxHeartbeats 4000000 in
theorem c_J9_floorMod {G : mG} {g : (Nat → Nat → Int32)} {b : Bool} {a1 : Int32} {a2 : Int32} {R : Int32} (e : f_J9_floorMod a1 a2 = some R) : MC G mJ9_floorMod 0 0 0 [.int a1, .int a2] (m_h g b) (some (.int R)) (m_h g b) := by
  refine MC_intro mlJ9_floorMod (Nat.le_of_ble_eq_true rfl) ⟨_, rfl⟩ rfl trivial ?_
  unfold f_J9_floorMod at e
  refine r_iload_n dJ9_floorMod_7cf53_0 rfl rfl ?_
  refine r_iload_n dJ9_floorMod_7cf53_1 rfl rfl ?_
  obtain ⟨h1, e⟩ := g_gd e
  refine q_irem dJ9_floorMod_7cf53_2 h1 ?_
  refine r_istore_n dJ9_floorMod_7cf53_3 rfl (by decide) rfl ?_
  refine r_iload_n dJ9_floorMod_7cf53_4 rfl rfl ?_
  refine r_iload_n dJ9_floorMod_7cf53_5 rfl rfl ?_
  refine r_ixor dJ9_floorMod_7cf53_6 ?_
  refine r_if_ge (tgt := 18) dJ9_floorMod_7cf53_7 (by decide) (fun h2 => ?_) (fun h2 => ?_)
  · have e := g_iT h2 e
    refine r_iload_n dJ9_floorMod_7cf53_18 rfl rfl ?_
    have e := Option.some.inj e
    subst e
    exact r_ret dJ9_floorMod_7cf53_19 rfl rfl
  · have e := g_iF h2 e
    refine r_iload_n dJ9_floorMod_7cf53_10 rfl rfl ?_
    refine r_if_eq (tgt := 18) dJ9_floorMod_7cf53_11 (by decide) (fun h3 => ?_) (fun h3 => ?_)
    · have e := g_iT h3 e
      refine r_iload_n dJ9_floorMod_7cf53_18 rfl rfl ?_
      have e := Option.some.inj e
      subst e
      exact r_ret dJ9_floorMod_7cf53_19 rfl rfl
    · have e := g_iF h3 e
      refine r_iload_n dJ9_floorMod_7cf53_14 rfl rfl ?_
      refine r_iload_n dJ9_floorMod_7cf53_15 rfl rfl ?_
      refine r_iadd dJ9_floorMod_7cf53_16 ?_
      have e := Option.some.inj e
      subst e
      exact r_ret dJ9_floorMod_7cf53_17 rfl rfl
/-! X6_tooFine -/
def f_X6_tooFine (a1 : Int32) (a2 : Int32) : Option Int32 :=
  (if 1 ≤ a2 then
((f_J9_floorMod a1 a2).bind fun v2 =>
some v2)
else
some 0)
set_option maxRecDepth 100000 in
set_option maxHeartbeats 4000000 in
theorem c_X6_tooFine {G : mG} {g : (Nat → Nat → Int32)} {b : Bool} {a1 : Int32} {a2 : Int32} {R : Int32} (e : f_X6_tooFine a1 a2 = some R) : MC G mX6_tooFine 1 0 0 [.int a1, .int a2] (m_h g b) (some (.int R)) (m_h g b) := by
  refine MC_intro mlX6_tooFine (Nat.le_of_ble_eq_true rfl) ⟨_, rfl⟩ rfl trivial ?_
  unfold f_X6_tooFine at e
  refine r_iload_n dX6_tooFine_0 rfl rfl ?_
  refine r_iconst (x := 1) dX6_tooFine_1 (by decide) ?_
  refine r_icmp_ge (tgt := 9) dX6_tooFine_2 (by decide) (fun h1 => ?_) (fun h1 => ?_)
  · have e := g_iT h1 e
    refine r_iload_n dX6_tooFine_9 rfl rfl ?_
    refine r_iload_n dX6_tooFine_10 rfl rfl ?_
    obtain ⟨v2, h3, e⟩ := g_bd e
    refine q_callS (rest := []) (c_J9_floorMod h3) dX6_tooFine_11 lkX6_282 rfl rfl (Nat.le_of_ble_eq_true rfl) (by decide) ?_
    have e := Option.some.inj e
    subst e
    exact r_ret dX6_tooFine_14 rfl rfl
  · have e := g_iF h1 e
    refine r_iconst (x := 0) dX6_tooFine_5 (by decide) ?_
    refine r_goto (tgt := 14) dX6_tooFine_6 (by decide) ?_
    have e := Option.some.inj e
    subst e
    exact r_ret dX6_tooFine_14 rfl rfl
/-! X6_maskedCell -/
def f_X6_maskedCell (g : (Nat → Nat → Int32)) (b : Bool) (a1 : Int32) (a2 : Int32) (a3 : Int32) (a4 : Int32) : Option Int32 :=
  ((f_X6_tableAt g b a1).bind fun v1 =>
((f_X6_columnAt g b a1 a3).bind fun v3 =>
(m_oc v1
(some (-2147483648))
(fun q5 =>
(m_oc v3
(some (-2147483648))
(fun q6 =>
(if m_S0[q6]? = some (.inl 0) then
(if (g q6 2) = 4 then
((f_X6_dealtCell g b a1 a2 a3 (g q6 3)).bind fun v27 =>
some v27)
else
((f_X1_read g b 4 a1 a2 a3).bind fun v9 =>
(if v9 = (-2147483648) then
some (-2147483648)
else
(if (g q6 2) = 5 then
some (-2147483648)
else
(if (g q6 0) = 1 then
((f_X6_turnedRef g b (g q6 1) v9).bind fun v25 =>
some v25)
else
(if (g q6 2) = 1 then
(if (g q6 0) = 0 then
(if m_S0[q5]? = some (.inl 4) then
((f_X4_turnKey g b q5 v9).bind fun v19 =>
some v19) else none)
else
((f_X0_turnName g q6 v9).bind fun v16 =>
some v16))
else
(if (g q6 2) = 2 then
some (v9 + a4)
else
(if (g q6 2) = 3 then
((f_X6_tooFine v9 (g q6 3)).bind fun v23 =>
some (v9 - v23))
else
some v9)))))))) else none)))))))
set_option maxRecDepth 100000 in
set_option maxHeartbeats 4000000 in
theorem c_X6_maskedCell {G : mG} {g : (Nat → Nat → Int32)} {b : Bool} {a1 : Int32} {a2 : Int32} {a3 : Int32} {a4 : Int32} {R : Int32} (e : f_X6_maskedCell g b a1 a2 a3 a4 = some R) : MC G mX6_maskedCell 3 0 0 [.ref 0, .int a1, .int a2, .int a3, .int a4] (m_h g b) (some (.int R)) (m_h g b) := by
  refine MC_intro mlX6_maskedCell (Nat.le_of_ble_eq_true rfl) ⟨_, rfl⟩ rfl trivial ?_
  unfold f_X6_maskedCell at e
  refine r_aload_n dX6_maskedCell_0 rfl rfl ?_
  refine r_iload_n dX6_maskedCell_1 rfl rfl ?_
  obtain ⟨v1, h2, e⟩ := g_bd e
  refine q_callV (rest := []) (c_X6_tableAt h2) dX6_maskedCell_2 lkX6_73 rfl rfl rfl rfl (Nat.le_of_ble_eq_true rfl) (by decide) ?_
  refine r_astoreO dX6_maskedCell_5 (by decide) rfl ?_
  refine r_aload_n dX6_maskedCell_7 rfl rfl ?_
  refine r_iload_n dX6_maskedCell_8 rfl rfl ?_
  refine r_iload_n dX6_maskedCell_9 rfl rfl ?_
  obtain ⟨v3, h4, e⟩ := g_bd e
  refine q_callV (rest := []) (c_X6_columnAt h4) dX6_maskedCell_10 lkX6_99 rfl rfl rfl rfl (Nat.le_of_ble_eq_true rfl) (by decide) ?_
  refine r_astoreO dX6_maskedCell_13 (by decide) rfl ?_
  refine r_aloadO dX6_maskedCell_15 rfl ?_
  cases v1 with
  | none =>
    have e := g_oN e
    refine r_ifnullN (tgt := 25) dX6_maskedCell_17 (by decide) ?_
    refine r_ldc (x := (-2147483648)) dX6_maskedCell_25 kcX6_179 ?_
    have e := Option.some.inj e
    subst e
    exact r_ret dX6_maskedCell_27 rfl rfl
  | some q5 =>
    have e := g_oS e
    refine r_ifnull (tgt := 25) dX6_maskedCell_17 (by decide) ?_
    refine r_aloadO dX6_maskedCell_20 rfl ?_
    cases v3 with
    | none =>
      have e := g_oN e
      refine r_ifnonnullN (tgt := 28) dX6_maskedCell_22 (by decide) ?_
      refine r_ldc (x := (-2147483648)) dX6_maskedCell_25 kcX6_179 ?_
      have e := Option.some.inj e
      subst e
      exact r_ret dX6_maskedCell_27 rfl rfl
    | some q6 =>
      have e := g_oS e
      refine r_ifnonnull (tgt := 28) dX6_maskedCell_22 (by decide) ?_
      refine r_aload dX6_maskedCell_28 rfl ?_
      obtain ⟨h7, e⟩ := g_gd e
      refine q_geti dX6_maskedCell_30 flX6_118 rfl h7 ?_
      refine r_iconst (x := 4) dX6_maskedCell_33 (by decide) ?_
      refine r_icmp_ne (tgt := 50) dX6_maskedCell_34 (by decide) (fun h8 => ?_) (fun h8 => ?_)
      · have e := g_iF h8 e
        refine r_aload_n dX6_maskedCell_50 rfl rfl ?_
        refine q_getr dX6_maskedCell_51 flX6_30 rfl rfl (m_fr_0_3 _) ?_
        refine r_iload_n dX6_maskedCell_54 rfl rfl ?_
        refine r_iload_n dX6_maskedCell_55 rfl rfl ?_
        refine r_iload_n dX6_maskedCell_56 rfl rfl ?_
        obtain ⟨v9, h10, e⟩ := g_bd e
        refine q_callV (rest := []) (c_X1_read h10) dX6_maskedCell_57 lkX6_180 rfl rfl rfl rfl (Nat.le_of_ble_eq_true rfl) (by decide) ?_
        refine r_istore dX6_maskedCell_60 (by decide) rfl ?_
        refine r_iload dX6_maskedCell_62 rfl ?_
        refine r_ldc (x := (-2147483648)) dX6_maskedCell_64 kcX6_179 ?_
        refine r_icmp_eq (tgt := 78) dX6_maskedCell_66 (by decide) (fun h11 => ?_) (fun h11 => ?_)
        · have e := g_iT h11 e
          refine r_ldc (x := (-2147483648)) dX6_maskedCell_78 kcX6_179 ?_
          have e := Option.some.inj e
          subst e
          exact r_ret dX6_maskedCell_80 rfl rfl
        · have e := g_iF h11 e
          refine r_aload dX6_maskedCell_69 rfl ?_
          refine q_geti dX6_maskedCell_71 flX6_118 rfl h7 ?_
          refine r_iconst (x := 5) dX6_maskedCell_74 (by decide) ?_
          refine r_icmp_ne (tgt := 81) dX6_maskedCell_75 (by decide) (fun h12 => ?_) (fun h12 => ?_)
          · have e := g_iF h12 e
            refine r_aload dX6_maskedCell_81 rfl ?_
            refine q_geti dX6_maskedCell_83 flX6_103 rfl h7 ?_
            refine r_iconst (x := 1) dX6_maskedCell_86 (by decide) ?_
            refine r_icmp_ne (tgt := 102) dX6_maskedCell_87 (by decide) (fun h13 => ?_) (fun h13 => ?_)
            · have e := g_iF h13 e
              refine r_aload dX6_maskedCell_102 rfl ?_
              refine q_geti dX6_maskedCell_104 flX6_118 rfl h7 ?_
              by_cases h14 : (g q6 2) = 1
              · have e := g_iT h14 e
                refine r_tabIn (off := 25) (tgt := 132) dX6_maskedCell_107 (by rw [h14]; decide) (by rw [h14]; decide) (by rw [h14]; decide) (by decide) ?_
                refine r_aload dX6_maskedCell_132 rfl ?_
                refine q_geti dX6_maskedCell_134 flX6_103 rfl h7 ?_
                refine r_if_ne (tgt := 150) dX6_maskedCell_137 (by decide) (fun h15 => ?_) (fun h15 => ?_)
                · have e := g_iF h15 e
                  refine r_aload dX6_maskedCell_150 rfl ?_
                  refine r_iload dX6_maskedCell_152 rfl ?_
                  obtain ⟨v16, h17, e⟩ := g_bd e
                  refine q_callV (rest := []) (c_X0_turnName h17) dX6_maskedCell_154 lkX6_191 h7 rfl rfl rfl (Nat.le_of_ble_eq_true rfl) (by decide) ?_
                  have e := Option.some.inj e
                  subst e
                  exact r_ret dX6_maskedCell_157 rfl rfl
                · have e := g_iT h15 e
                  refine r_aload dX6_maskedCell_140 rfl ?_
                  refine r_iload dX6_maskedCell_142 rfl ?_
                  obtain ⟨h18, e⟩ := g_gd e
                  obtain ⟨v19, h20, e⟩ := g_bd e
                  refine q_callV (rest := []) (c_X4_turnKey h20) dX6_maskedCell_144 lkX6_187 h18 rfl rfl rfl (Nat.le_of_ble_eq_true rfl) (by decide) ?_
                  refine r_goto (tgt := 157) dX6_maskedCell_147 (by decide) ?_
                  have e := Option.some.inj e
                  subst e
                  exact r_ret dX6_maskedCell_157 rfl rfl
              have e := g_iF h14 e
              by_cases h21 : (g q6 2) = 2
              · have e := g_iT h21 e
                refine r_tabIn (off := 51) (tgt := 158) dX6_maskedCell_107 (by rw [h21]; decide) (by rw [h21]; decide) (by rw [h21]; decide) (by decide) ?_
                refine r_iload dX6_maskedCell_158 rfl ?_
                refine r_iload dX6_maskedCell_160 rfl ?_
                refine r_iadd dX6_maskedCell_162 ?_
                have e := Option.some.inj e
                subst e
                exact r_ret dX6_maskedCell_163 rfl rfl
              have e := g_iF h21 e
              by_cases h22 : (g q6 2) = 3
              · have e := g_iT h22 e
                refine r_tabIn (off := 57) (tgt := 164) dX6_maskedCell_107 (by rw [h22]; decide) (by rw [h22]; decide) (by rw [h22]; decide) (by decide) ?_
                refine r_iload dX6_maskedCell_164 rfl ?_
                refine r_iload dX6_maskedCell_166 rfl ?_
                refine r_aload dX6_maskedCell_168 rfl ?_
                refine q_geti dX6_maskedCell_170 flX6_121 rfl h7 ?_
                obtain ⟨v23, h24, e⟩ := g_bd e
                refine q_callS (rest := [.int v9]) (c_X6_tooFine h24) dX6_maskedCell_173 lkX6_276 rfl rfl (Nat.le_of_ble_eq_true rfl) (by decide) ?_
                refine r_isub dX6_maskedCell_176 ?_
                have e := Option.some.inj e
                subst e
                exact r_ret dX6_maskedCell_177 rfl rfl
              have e := g_iF h22 e
              refine r_tabOut (tgt := 178) dX6_maskedCell_107 (m_swOut1_3 h14 h21 h22) (by decide) ?_
              refine r_iload dX6_maskedCell_178 rfl ?_
              have e := Option.some.inj e
              subst e
              exact r_ret dX6_maskedCell_180 rfl rfl
            · have e := g_iT h13 e
              refine r_aload_n dX6_maskedCell_90 rfl rfl ?_
              refine r_aload dX6_maskedCell_91 rfl ?_
              refine q_geti dX6_maskedCell_93 flX6_146 rfl h7 ?_
              refine r_iload dX6_maskedCell_96 rfl ?_
              obtain ⟨v25, h26, e⟩ := g_bd e
              refine q_callV (rest := []) (c_X6_turnedRef h26) dX6_maskedCell_98 lkX6_273 rfl rfl rfl rfl (Nat.le_of_ble_eq_true rfl) (by decide) ?_
              have e := Option.some.inj e
              subst e
              exact r_ret dX6_maskedCell_101 rfl rfl
          · have e := g_iT h12 e
            refine r_ldc (x := (-2147483648)) dX6_maskedCell_78 kcX6_179 ?_
            have e := Option.some.inj e
            subst e
            exact r_ret dX6_maskedCell_80 rfl rfl
      · have e := g_iT h8 e
        refine r_aload_n dX6_maskedCell_37 rfl rfl ?_
        refine r_iload_n dX6_maskedCell_38 rfl rfl ?_
        refine r_iload_n dX6_maskedCell_39 rfl rfl ?_
        refine r_iload_n dX6_maskedCell_40 rfl rfl ?_
        refine r_aload dX6_maskedCell_41 rfl ?_
        refine q_geti dX6_maskedCell_43 flX6_121 rfl h7 ?_
        obtain ⟨v27, h28, e⟩ := g_bd e
        refine q_callV (rest := []) (c_X6_dealtCell h28) dX6_maskedCell_46 lkX6_270 rfl rfl rfl rfl (Nat.le_of_ble_eq_true rfl) (by decide) ?_
        have e := Option.some.inj e
        subst e
        exact r_ret dX6_maskedCell_49 rfl rfl
/-! X6_draftMasked -/
def lp_X6_draftMasked_52 (b : Bool) (a1 : Int32) (x19_2 : Nat) (x19_3 : Bool) (y19_4 : Int32) (x52_5 : Int32) (k19 : (Int32 → (Nat → Nat → Int32) → Option (Nat → Nat → Int32))) : Nat → Int32 → (Nat → Nat → Int32) → Option (Nat → Nat → Int32)
  | 0, _, _ => none
  | n + 1, y52_6, g52 =>
  (if m_S0[x19_2]? = some (.inl 4) then
(if (g52 x19_2 3) ≤ y52_6 then
k19 (y19_4 + 1) g52
else
((f_X6_maskedCell g52 b a1 y19_4 y52_6 x52_5).bind fun v52003 =>
(if m_S0[(m_pD b)]? = some (.inl 1) then
((f_X1_write g52 b (m_pD b) a1 y19_4 y52_6 v52003).bind fun v52006 =>
lp_X6_draftMasked_52 b a1 x19_2 x19_3 y19_4 x52_5 k19 n (y52_6 + 1) v52006) else none))) else none)
def lp_X6_draftMasked_19 (b : Bool) (a1 : Int32) (x19_2 : Nat) (x19_3 : Bool) : Nat → Int32 → (Nat → Nat → Int32) → Option (Nat → Nat → Int32)
  | 0, _, _ => none
  | n + 1, y19_4, g19 =>
  (if m_S0[x19_2]? = some (.inl 4) then
(if (g19 x19_2 4) ≤ y19_4 then
some g19
else
(bif x19_3 then
((f_X6_ownerOf g19 b a1 y19_4).bind fun v19004 =>
((f_X6_shiftOf g19 b v19004).bind fun v19006 =>
lp_X6_draftMasked_52 b a1 x19_2 x19_3 y19_4 v19006.1 (fun y19_4 g19 => lp_X6_draftMasked_19 b a1 x19_2 x19_3 n y19_4 g19) 2000 0 v19006.2))
else
lp_X6_draftMasked_52 b a1 x19_2 x19_3 y19_4 0 (fun y19_4 g19 => lp_X6_draftMasked_19 b a1 x19_2 x19_3 n y19_4 g19) 2000 0 g19)) else none)
def f_X6_draftMasked (g : (Nat → Nat → Int32)) (b : Bool) (a1 : Int32) : Option (Nat → Nat → Int32) :=
  ((f_X6_tableAt g b a1).bind fun v1 =>
(m_oc v1
(some g)
(fun q3 =>
(if m_S0[q3]? = some (.inl 4) then
((f_X4_hasShift g b q3).bind fun v5 =>
lp_X6_draftMasked_19 b a1 q3 v5 2000 0 g) else none))))
set_option maxRecDepth 100000 in
set_option maxHeartbeats 4000000 in
theorem w_X6_draftMasked_52 {G : mG} {b : Bool} {a1 : Int32} {x19_2 : Nat} {x19_3 : Bool} {y19_4 : Int32} {x52_5 : Int32} {k19 : (Int32 → (Nat → Nat → Int32) → Option (Nat → Nat → Int32))} (hk19 : ∀ (y19_4 : Int32) (g19 : (Nat → Nat → Int32)) (R : (Nat → Nat → Int32)), k19 y19_4 g19 = some R → MW G mX6_draftMasked 5 0 0 19 [.ref 0, .int a1, .ref x19_2, .int (m_bi x19_3), .int y19_4, .retAddr 0, .retAddr 0] [] (m_h g19 b) none (m_h R b)) : ∀ (n : Nat) (y52_6 : Int32) (g52 : (Nat → Nat → Int32)) (R : (Nat → Nat → Int32)), lp_X6_draftMasked_52 b a1 x19_2 x19_3 y19_4 x52_5 k19 n y52_6 g52 = some R → MW G mX6_draftMasked 5 0 0 52 [.ref 0, .int a1, .ref x19_2, .int (m_bi x19_3), .int y19_4, .int x52_5, .int y52_6] [] (m_h g52 b) none (m_h R b)
  | 0, _, _, R, e => absurd (show (none : Option (Nat → Nat → Int32)) = some R from e) (fun h => by cases h)
  | n + 1, y52_6, g52, R, e => by
    rw [lp_X6_draftMasked_52] at e
    refine r_iload dX6_draftMasked_52 rfl ?_
    refine r_aload_n dX6_draftMasked_54 rfl rfl ?_
    obtain ⟨h52001, e⟩ := g_gd e
    refine q_geti dX6_draftMasked_55 flX6_80 rfl h52001 ?_
    refine r_icmp_ge (tgt := 90) dX6_draftMasked_58 (by decide) (fun h52002 => ?_) (fun h52002 => ?_)
    · have e := g_iT h52002 e
      refine r_iinc (y := 1) dX6_draftMasked_90 rfl (by decide) (by decide) rfl ?_
      refine r_goto (tgt := 19) dX6_draftMasked_93 (by decide) ?_
      refine r_forget 5 rfl ?_
      refine r_forget 6 rfl ?_
      exact hk19 _ _ R e
    · have e := g_iF h52002 e
      refine r_aload_n dX6_draftMasked_61 rfl rfl ?_
      refine q_getr dX6_draftMasked_62 flX6_51 rfl rfl (m_fr_0_7 _) ?_
      refine r_iload_n dX6_draftMasked_65 rfl rfl ?_
      refine r_iload dX6_draftMasked_66 rfl ?_
      refine r_iload dX6_draftMasked_68 rfl ?_
      refine r_aload_n dX6_draftMasked_70 rfl rfl ?_
      refine r_iload_n dX6_draftMasked_71 rfl rfl ?_
      refine r_iload dX6_draftMasked_72 rfl ?_
      refine r_iload dX6_draftMasked_74 rfl ?_
      refine r_iload dX6_draftMasked_76 rfl ?_
      obtain ⟨v52003, h52004, e⟩ := g_bd e
      refine q_callV (rest := [.int y52_6, .int y19_4, .int a1, .ref (m_pD b)]) (c_X6_maskedCell h52004) dX6_draftMasked_78 lkX6_266 rfl rfl rfl rfl (Nat.le_of_ble_eq_true rfl) (by decide) ?_
      obtain ⟨h52005, e⟩ := g_gd e
      obtain ⟨v52006, h52007, e⟩ := g_bd e
      refine q_callV (rest := []) (c_X1_write h52007) dX6_draftMasked_81 lkX6_95 h52005 rfl rfl rfl (Nat.le_of_ble_eq_true rfl) (by decide) ?_
      refine r_iinc (y := 1) dX6_draftMasked_84 rfl (by decide) (by decide) rfl ?_
      refine r_goto (tgt := 52) dX6_draftMasked_87 (by decide) ?_
      exact w_X6_draftMasked_52 hk19 n _ _ R e
set_option maxRecDepth 100000 in
set_option maxHeartbeats 4000000 in
theorem w_X6_draftMasked_19 {G : mG} {b : Bool} {a1 : Int32} {x19_2 : Nat} {x19_3 : Bool} : ∀ (n : Nat) (y19_4 : Int32) (g19 : (Nat → Nat → Int32)) (R : (Nat → Nat → Int32)), lp_X6_draftMasked_19 b a1 x19_2 x19_3 n y19_4 g19 = some R → MW G mX6_draftMasked 5 0 0 19 [.ref 0, .int a1, .ref x19_2, .int (m_bi x19_3), .int y19_4, .retAddr 0, .retAddr 0] [] (m_h g19 b) none (m_h R b)
  | 0, _, _, R, e => absurd (show (none : Option (Nat → Nat → Int32)) = some R from e) (fun h => by cases h)
  | n + 1, y19_4, g19, R, e => by
    rw [lp_X6_draftMasked_19] at e
    refine r_iload dX6_draftMasked_19 rfl ?_
    refine r_aload_n dX6_draftMasked_21 rfl rfl ?_
    obtain ⟨h19001, e⟩ := g_gd e
    refine q_geti dX6_draftMasked_22 flX6_77 rfl h19001 ?_
    refine r_icmp_ge (tgt := 96) dX6_draftMasked_25 (by decide) (fun h19002 => ?_) (fun h19002 => ?_)
    · have e := g_iT h19002 e
      have e := Option.some.inj e
      subst e
      exact r_ret dX6_draftMasked_96 rfl rfl
    · have e := g_iF h19002 e
      refine r_iload_n dX6_draftMasked_28 rfl rfl ?_
      refine r_ifeqB (tgt := 46) dX6_draftMasked_29 (by decide) (fun h19003 => ?_) (fun h19003 => ?_)
      · have e := g_cF h19003 e
        refine r_iconst (x := 0) dX6_draftMasked_46 (by decide) ?_
        refine r_istore dX6_draftMasked_47 (by decide) rfl ?_
        refine r_iconst (x := 0) dX6_draftMasked_49 (by decide) ?_
        refine r_istore dX6_draftMasked_50 (by decide) rfl ?_
        exact w_X6_draftMasked_52 (fun y19_4 g19 R e => w_X6_draftMasked_19 n y19_4 g19 R e) 2000 _ _ R e
      · have e := g_cT h19003 e
        refine r_aload_n dX6_draftMasked_32 rfl rfl ?_
        refine r_aload_n dX6_draftMasked_33 rfl rfl ?_
        refine r_iload_n dX6_draftMasked_34 rfl rfl ?_
        refine r_iload dX6_draftMasked_35 rfl ?_
        obtain ⟨v19004, h19005, e⟩ := g_bd e
        refine q_callV (rest := [.ref 0]) (c_X6_ownerOf h19005) dX6_draftMasked_37 lkX6_263 rfl rfl rfl rfl (Nat.le_of_ble_eq_true rfl) (by decide) ?_
        obtain ⟨v19006, h19007, e⟩ := g_bd e
        refine q_callV (rest := []) (c_X6_shiftOf h19007) dX6_draftMasked_40 lkX6_197 rfl rfl rfl rfl (Nat.le_of_ble_eq_true rfl) (by decide) ?_
        refine r_goto (tgt := 47) dX6_draftMasked_43 (by decide) ?_
        refine r_istore dX6_draftMasked_47 (by decide) rfl ?_
        refine r_iconst (x := 0) dX6_draftMasked_49 (by decide) ?_
        refine r_istore dX6_draftMasked_50 (by decide) rfl ?_
        exact w_X6_draftMasked_52 (fun y19_4 g19 R e => w_X6_draftMasked_19 n y19_4 g19 R e) 2000 _ _ R e
set_option maxRecDepth 100000 in
set_option maxHeartbeats 4000000 in
theorem c_X6_draftMasked {G : mG} {g : (Nat → Nat → Int32)} {b : Bool} {a1 : Int32} {R : (Nat → Nat → Int32)} (e : f_X6_draftMasked g b a1 = some R) : MC G mX6_draftMasked 5 0 0 [.ref 0, .int a1] (m_h g b) none (m_h R b) := by
  refine MC_intro mlX6_draftMasked (Nat.le_of_ble_eq_true rfl) rfl rfl trivial ?_
  unfold f_X6_draftMasked at e
  refine r_aload_n dX6_draftMasked_0 rfl rfl ?_
  refine r_iload_n dX6_draftMasked_1 rfl rfl ?_
  obtain ⟨v1, h2, e⟩ := g_bd e
  refine q_callV (rest := []) (c_X6_tableAt h2) dX6_draftMasked_2 lkX6_73 rfl rfl rfl rfl (Nat.le_of_ble_eq_true rfl) (by decide) ?_
  refine r_astore_nO dX6_draftMasked_5 rfl (by decide) rfl ?_
  refine r_aload_nO dX6_draftMasked_6 rfl rfl ?_
  cases v1 with
  | none =>
    have e := g_oN e
    refine r_ifnonnullN (tgt := 11) dX6_draftMasked_7 (by decide) ?_
    have e := Option.some.inj e
    subst e
    exact r_ret dX6_draftMasked_10 rfl rfl
  | some q3 =>
    have e := g_oS e
    refine r_ifnonnull (tgt := 11) dX6_draftMasked_7 (by decide) ?_
    refine r_aload_n dX6_draftMasked_11 rfl rfl ?_
    obtain ⟨h4, e⟩ := g_gd e
    obtain ⟨v5, h6, e⟩ := g_bd e
    refine q_callV (rest := []) (c_X4_hasShift h6) dX6_draftMasked_12 lkX6_259 h4 rfl rfl rfl (Nat.le_of_ble_eq_true rfl) (by decide) ?_
    refine r_istore_n dX6_draftMasked_15 rfl (by decide) rfl ?_
    refine r_iconst (x := 0) dX6_draftMasked_16 (by decide) ?_
    refine r_istore dX6_draftMasked_17 (by decide) rfl ?_
    exact w_X6_draftMasked_19 2000 _ _ R e
/-! X6_mendColumn -/
def lp_X6_mendColumn_2 (b : Bool) (a1 : Nat) : Nat → Int32 → (Nat → Nat → Int32) → Option (Nat → Nat → Int32)
  | 0, _, _ => none
  | n + 1, y2_2, g2 =>
  (if m_S0[a1]? = some (.inl 3) then
((f_X6_rowsOf g2 b (g2 a1 1)).bind fun v2002 =>
(if v2002 ≤ y2_2 then
some g2
else
(if m_S0[(m_pD b)]? = some (.inl 1) then
((f_X1_read g2 b (m_pD b) (g2 a1 1) y2_2 (g2 a1 2)).bind fun v2006 =>
(if v2006 = (-2147483648) then
lp_X6_mendColumn_2 b a1 n (y2_2 + 1) g2
else
((f_X6_partsOf g2 b a1 (m_pD b) y2_2).bind fun v2009 =>
((f_X1_write g2 b (m_pD b) (g2 a1 1) y2_2 (g2 a1 2) v2009).bind fun v2011 =>
lp_X6_mendColumn_2 b a1 n (y2_2 + 1) v2011)))) else none))) else none)
def f_X6_mendColumn (g : (Nat → Nat → Int32)) (b : Bool) (a1 : Nat) : Option (Nat → Nat → Int32) :=
  lp_X6_mendColumn_2 b a1 2000 0 g
set_option maxRecDepth 100000 in
set_option maxHeartbeats 4000000 in
theorem w_X6_mendColumn_2 {G : mG} {b : Bool} {a1 : Nat} : ∀ (n : Nat) (y2_2 : Int32) (g2 : (Nat → Nat → Int32)) (R : (Nat → Nat → Int32)), lp_X6_mendColumn_2 b a1 n y2_2 g2 = some R → MW G mX6_mendColumn 3 0 0 2 [.ref 0, .ref a1, .int y2_2] [] (m_h g2 b) none (m_h R b)
  | 0, _, _, R, e => absurd (show (none : Option (Nat → Nat → Int32)) = some R from e) (fun h => by cases h)
  | n + 1, y2_2, g2, R, e => by
    rw [lp_X6_mendColumn_2] at e
    refine r_iload_n dX6_mendColumn_2 rfl rfl ?_
    refine r_aload_n dX6_mendColumn_3 rfl rfl ?_
    refine r_aload_n dX6_mendColumn_4 rfl rfl ?_
    obtain ⟨h2001, e⟩ := g_gd e
    refine q_geti dX6_mendColumn_5 flX6_308 rfl h2001 ?_
    obtain ⟨v2002, h2003, e⟩ := g_bd e
    refine q_callV (rest := [.int y2_2]) (c_X6_rowsOf h2003) dX6_mendColumn_8 lkX6_200 rfl rfl rfl rfl (Nat.le_of_ble_eq_true rfl) (by decide) ?_
    refine r_icmp_ge (tgt := 67) dX6_mendColumn_11 (by decide) (fun h2004 => ?_) (fun h2004 => ?_)
    · have e := g_iT h2004 e
      have e := Option.some.inj e
      subst e
      exact r_ret dX6_mendColumn_67 rfl rfl
    · have e := g_iF h2004 e
      refine r_aload_n dX6_mendColumn_14 rfl rfl ?_
      refine q_getr dX6_mendColumn_15 flX6_51 rfl rfl (m_fr_0_7 _) ?_
      refine r_aload_n dX6_mendColumn_18 rfl rfl ?_
      refine q_geti dX6_mendColumn_19 flX6_308 rfl h2001 ?_
      refine r_iload_n dX6_mendColumn_22 rfl rfl ?_
      refine r_aload_n dX6_mendColumn_23 rfl rfl ?_
      refine q_geti dX6_mendColumn_24 flX6_315 rfl h2001 ?_
      obtain ⟨h2005, e⟩ := g_gd e
      obtain ⟨v2006, h2007, e⟩ := g_bd e
      refine q_callV (rest := []) (c_X1_read h2007) dX6_mendColumn_27 lkX6_180 h2005 rfl rfl rfl (Nat.le_of_ble_eq_true rfl) (by decide) ?_
      refine r_ldc (x := (-2147483648)) dX6_mendColumn_30 kcX6_179 ?_
      refine r_icmp_eq (tgt := 61) dX6_mendColumn_32 (by decide) (fun h2008 => ?_) (fun h2008 => ?_)
      · have e := g_iT h2008 e
        refine r_iinc (y := 1) dX6_mendColumn_61 rfl (by decide) (by decide) rfl ?_
        refine r_goto (tgt := 2) dX6_mendColumn_64 (by decide) ?_
        exact w_X6_mendColumn_2 n _ _ R e
      · have e := g_iF h2008 e
        refine r_aload_n dX6_mendColumn_35 rfl rfl ?_
        refine q_getr dX6_mendColumn_36 flX6_51 rfl rfl (m_fr_0_7 _) ?_
        refine r_aload_n dX6_mendColumn_39 rfl rfl ?_
        refine q_geti dX6_mendColumn_40 flX6_308 rfl h2001 ?_
        refine r_iload_n dX6_mendColumn_43 rfl rfl ?_
        refine r_aload_n dX6_mendColumn_44 rfl rfl ?_
        refine q_geti dX6_mendColumn_45 flX6_315 rfl h2001 ?_
        refine r_aload_n dX6_mendColumn_48 rfl rfl ?_
        refine r_aload_n dX6_mendColumn_49 rfl rfl ?_
        refine r_aload_n dX6_mendColumn_50 rfl rfl ?_
        refine q_getr dX6_mendColumn_51 flX6_51 rfl rfl (m_fr_0_7 _) ?_
        refine r_iload_n dX6_mendColumn_54 rfl rfl ?_
        obtain ⟨v2009, h2010, e⟩ := g_bd e
        refine q_callV (rest := [.int (g2 a1 2), .int y2_2, .int (g2 a1 1), .ref (m_pD b)]) (c_X6_partsOf h2010) dX6_mendColumn_55 lkX6_322 rfl rfl rfl rfl (Nat.le_of_ble_eq_true rfl) (by decide) ?_
        obtain ⟨v2011, h2012, e⟩ := g_bd e
        refine q_callV (rest := []) (c_X1_write h2012) dX6_mendColumn_58 lkX6_95 h2005 rfl rfl rfl (Nat.le_of_ble_eq_true rfl) (by decide) ?_
        refine r_iinc (y := 1) dX6_mendColumn_61 rfl (by decide) (by decide) rfl ?_
        refine r_goto (tgt := 2) dX6_mendColumn_64 (by decide) ?_
        exact w_X6_mendColumn_2 n _ _ R e
set_option maxRecDepth 100000 in
set_option maxHeartbeats 4000000 in
theorem c_X6_mendColumn {G : mG} {g : (Nat → Nat → Int32)} {b : Bool} {a1 : Nat} {R : (Nat → Nat → Int32)} (e : f_X6_mendColumn g b a1 = some R) : MC G mX6_mendColumn 3 0 0 [.ref 0, .ref a1] (m_h g b) none (m_h R b) := by
  refine MC_intro mlX6_mendColumn (Nat.le_of_ble_eq_true rfl) rfl rfl trivial ?_
  unfold f_X6_mendColumn at e
  refine r_iconst (x := 0) dX6_mendColumn_0 (by decide) ?_
  refine r_istore_n dX6_mendColumn_1 rfl (by decide) rfl ?_
  exact w_X6_mendColumn_2 2000 _ _ R e
/-! X6_mendDraft -/
def lp_X6_mendDraft_2 (b : Bool) : Nat → Int32 → (Nat → Nat → Int32) → Option (Nat → Nat → Int32)
  | 0, _, _ => none
  | n + 1, y2_1, g2 =>
  (if (g2 0 9) ≤ y2_1 then
some g2
else
(if 8 ≤ y2_1 then
some g2
else
(if m_in y2_1 8 then
((m_fr b 2 y2_1.toNatClampNeg).bind fun q2004 =>
(if m_S0[q2004]? = some (.inl 3) then
(if (g2 q2004 0) = 1 then
((m_fr b 2 y2_1.toNatClampNeg).bind fun q2008 =>
(if m_S0[q2008]? = some (.inl 3) then
(if (g2 q2008 6) = 0 then
lp_X6_mendDraft_2 b n (y2_1 + 1) g2
else
((m_fr b 2 y2_1.toNatClampNeg).bind fun q2012 =>
((f_X6_mendColumn g2 b q2012).bind fun v2014 =>
lp_X6_mendDraft_2 b n (y2_1 + 1) v2014))) else none))
else
lp_X6_mendDraft_2 b n (y2_1 + 1) g2) else none)) else none)))
def f_X6_mendDraft (g : (Nat → Nat → Int32)) (b : Bool) : Option (Nat → Nat → Int32) :=
  lp_X6_mendDraft_2 b 2000 0 g
set_option maxRecDepth 100000 in
set_option maxHeartbeats 4000000 in
theorem w_X6_mendDraft_2 {G : mG} {b : Bool} : ∀ (n : Nat) (y2_1 : Int32) (g2 : (Nat → Nat → Int32)) (R : (Nat → Nat → Int32)), lp_X6_mendDraft_2 b n y2_1 g2 = some R → MW G mX6_mendDraft 4 0 0 2 [.ref 0, .int y2_1] [] (m_h g2 b) none (m_h R b)
  | 0, _, _, R, e => absurd (show (none : Option (Nat → Nat → Int32)) = some R from e) (fun h => by cases h)
  | n + 1, y2_1, g2, R, e => by
    rw [lp_X6_mendDraft_2] at e
    refine r_iload_n dX6_mendDraft_2 rfl rfl ?_
    refine r_aload_n dX6_mendDraft_3 rfl rfl ?_
    refine q_geti dX6_mendDraft_4 flX6_58 rfl rfl ?_
    refine r_icmp_ge (tgt := 57) dX6_mendDraft_7 (by decide) (fun h2001 => ?_) (fun h2001 => ?_)
    · have e := g_iT h2001 e
      have e := Option.some.inj e
      subst e
      exact r_ret dX6_mendDraft_57 rfl rfl
    · have e := g_iF h2001 e
      refine r_iload_n dX6_mendDraft_10 rfl rfl ?_
      refine r_bipush (x := 8) dX6_mendDraft_11 (by decide) ?_
      refine r_icmp_ge (tgt := 57) dX6_mendDraft_13 (by decide) (fun h2002 => ?_) (fun h2002 => ?_)
      · have e := g_iT h2002 e
        have e := Option.some.inj e
        subst e
        exact r_ret dX6_mendDraft_57 rfl rfl
      · have e := g_iF h2002 e
        refine r_aload_n dX6_mendDraft_16 rfl rfl ?_
        refine q_getr dX6_mendDraft_17 flX6_19 rfl rfl (m_fr_0_1 _) ?_
        refine r_iload_n dX6_mendDraft_20 rfl rfl ?_
        obtain ⟨h2003, e⟩ := g_gd e
        obtain ⟨q2004, h2005, e⟩ := g_bd e
        refine q_aald dX6_mendDraft_21 (by decide) rfl h2003 h2005 ?_
        obtain ⟨h2006, e⟩ := g_gd e
        refine q_geti dX6_mendDraft_22 flX6_318 rfl h2006 ?_
        refine r_iconst (x := 1) dX6_mendDraft_25 (by decide) ?_
        refine r_icmp_ne (tgt := 51) dX6_mendDraft_26 (by decide) (fun h2007 => ?_) (fun h2007 => ?_)
        · have e := g_iF h2007 e
          refine r_iinc (y := 1) dX6_mendDraft_51 rfl (by decide) (by decide) rfl ?_
          refine r_goto (tgt := 2) dX6_mendDraft_54 (by decide) ?_
          exact w_X6_mendDraft_2 n _ _ R e
        · have e := g_iT h2007 e
          refine r_aload_n dX6_mendDraft_29 rfl rfl ?_
          refine q_getr dX6_mendDraft_30 flX6_19 rfl rfl (m_fr_0_1 _) ?_
          refine r_iload_n dX6_mendDraft_33 rfl rfl ?_
          obtain ⟨q2008, h2009, e⟩ := g_bd e
          refine q_aald dX6_mendDraft_34 (by decide) rfl h2003 h2009 ?_
          obtain ⟨h2010, e⟩ := g_gd e
          refine q_geti dX6_mendDraft_35 flX6_332 rfl h2010 ?_
          refine r_if_eq (tgt := 51) dX6_mendDraft_38 (by decide) (fun h2011 => ?_) (fun h2011 => ?_)
          · have e := g_iT h2011 e
            refine r_iinc (y := 1) dX6_mendDraft_51 rfl (by decide) (by decide) rfl ?_
            refine r_goto (tgt := 2) dX6_mendDraft_54 (by decide) ?_
            exact w_X6_mendDraft_2 n _ _ R e
          · have e := g_iF h2011 e
            refine r_aload_n dX6_mendDraft_41 rfl rfl ?_
            refine r_aload_n dX6_mendDraft_42 rfl rfl ?_
            refine q_getr dX6_mendDraft_43 flX6_19 rfl rfl (m_fr_0_1 _) ?_
            refine r_iload_n dX6_mendDraft_46 rfl rfl ?_
            obtain ⟨q2012, h2013, e⟩ := g_bd e
            refine q_aald dX6_mendDraft_47 (by decide) rfl h2003 h2013 ?_
            obtain ⟨v2014, h2015, e⟩ := g_bd e
            refine q_callV (rest := []) (c_X6_mendColumn h2015) dX6_mendDraft_48 lkX6_335 rfl rfl rfl rfl (Nat.le_of_ble_eq_true rfl) (by decide) ?_
            refine r_iinc (y := 1) dX6_mendDraft_51 rfl (by decide) (by decide) rfl ?_
            refine r_goto (tgt := 2) dX6_mendDraft_54 (by decide) ?_
            exact w_X6_mendDraft_2 n _ _ R e
set_option maxRecDepth 100000 in
set_option maxHeartbeats 4000000 in
theorem c_X6_mendDraft {G : mG} {g : (Nat → Nat → Int32)} {b : Bool} {R : (Nat → Nat → Int32)} (e : f_X6_mendDraft g b = some R) : MC G mX6_mendDraft 4 0 0 [.ref 0] (m_h g b) none (m_h R b) := by
  refine MC_intro mlX6_mendDraft (Nat.le_of_ble_eq_true rfl) rfl rfl trivial ?_
  unfold f_X6_mendDraft at e
  refine r_iconst (x := 0) dX6_mendDraft_0 (by decide) ?_
  refine r_istore_n dX6_mendDraft_1 rfl (by decide) rfl ?_
  exact w_X6_mendDraft_2 2000 _ _ R e
/-! X6_make -/
def lp_X6_make_2 (b : Bool) : Nat → Int32 → (Nat → Nat → Int32) → Option (Int32 × (Nat → Nat → Int32) × Bool)
  | 0, _, _ => none
  | n + 1, y2_1, g2 =>
  (if (g2 0 8) ≤ y2_1 then
((f_X6_mendDraft g2 b).bind fun v2002 =>
((f_X6_firstBroken v2002 b (m_pD b)).bind fun v2004 =>
(if v2004 = 100 then
(m_let (m_up v2002 0 12 1) fun g2007 =>
some (v2004, g2007, (!b)))
else
some (v2004, v2002, b))))
else
((f_X6_draftMasked g2 b y2_1).bind fun v2009 =>
lp_X6_make_2 b n (y2_1 + 1) v2009))
def f_X6_make (g : (Nat → Nat → Int32)) (b : Bool) : Option (Int32 × (Nat → Nat → Int32) × Bool) :=
  lp_X6_make_2 b 2000 0 g
set_option maxRecDepth 100000 in
set_option maxHeartbeats 4000000 in
theorem w_X6_make_2 {G : mG} {b : Bool} : ∀ (n : Nat) (y2_1 : Int32) (g2 : (Nat → Nat → Int32)) (R : (Int32 × (Nat → Nat → Int32) × Bool)), lp_X6_make_2 b n y2_1 g2 = some R → MW G mX6_make 6 0 0 2 [.ref 0, .int y2_1, .retAddr 0] [] (m_h g2 b) (some (.int R.1)) (m_h R.2.1 R.2.2)
  | 0, _, _, R, e => absurd (show (none : Option (Int32 × (Nat → Nat → Int32) × Bool)) = some R from e) (fun h => by cases h)
  | n + 1, y2_1, g2, R, e => by
    rw [lp_X6_make_2] at e
    refine r_iload_n dX6_make_2 rfl rfl ?_
    refine r_aload_n dX6_make_3 rfl rfl ?_
    refine q_geti dX6_make_4 flX6_54 rfl rfl ?_
    refine r_icmp_ge (tgt := 21) dX6_make_7 (by decide) (fun h2001 => ?_) (fun h2001 => ?_)
    · have e := g_iT h2001 e
      refine r_aload_n dX6_make_21 rfl rfl ?_
      obtain ⟨v2002, h2003, e⟩ := g_bd e
      refine q_callV (rest := []) (c_X6_mendDraft h2003) dX6_make_22 lkX6_173 rfl rfl rfl rfl (Nat.le_of_ble_eq_true rfl) (by decide) ?_
      refine r_aload_n dX6_make_25 rfl rfl ?_
      refine r_aload_n dX6_make_26 rfl rfl ?_
      refine q_getr dX6_make_27 flX6_51 rfl rfl (m_fr_0_7 _) ?_
      obtain ⟨v2004, h2005, e⟩ := g_bd e
      refine q_callV (rest := []) (c_X6_firstBroken h2005) dX6_make_30 lkX6_165 rfl rfl rfl rfl (Nat.le_of_ble_eq_true rfl) (by decide) ?_
      refine r_istore_n dX6_make_33 rfl (by decide) rfl ?_
      refine r_iload_n dX6_make_34 rfl rfl ?_
      refine r_bipush (x := 100) dX6_make_35 (by decide) ?_
      refine r_icmp_ne (tgt := 63) dX6_make_37 (by decide) (fun h2006 => ?_) (fun h2006 => ?_)
      · have e := g_iF h2006 e
        refine r_iload_n dX6_make_63 rfl rfl ?_
        have e := Option.some.inj e
        subst e
        exact r_ret dX6_make_64 rfl rfl
      · have e := g_iT h2006 e
        refine r_aload_n dX6_make_40 rfl rfl ?_
        refine q_getr dX6_make_41 flX6_48 rfl rfl (m_fr_0_6 _) ?_
        refine r_astore_n dX6_make_44 rfl (by decide) rfl ?_
        refine r_aload_n dX6_make_45 rfl rfl ?_
        refine r_aload_n dX6_make_46 rfl rfl ?_
        refine q_getr dX6_make_47 flX6_51 rfl rfl (m_fr_0_7 _) ?_
        refine q_putr dX6_make_50 flX6_48 (Or.inl rfl) rfl rfl ?_
        refine r_aload_n dX6_make_53 rfl rfl ?_
        refine r_aload_n dX6_make_54 rfl rfl ?_
        refine q_putr dX6_make_55 flX6_51 (Or.inl rfl) rfl rfl ?_
        rw [m_swap]
        refine r_aload_n dX6_make_58 rfl rfl ?_
        refine r_iconst (x := 1) dX6_make_59 (by decide) ?_
        refine q_putiL dX6_make_60 flX6_67 (Or.inl rfl) (Or.inr ⟨rfl, by decide⟩) rfl (fun g2007 h2008 => ?_)
        have e := g_lt h2008 e
        refine r_iload_n dX6_make_63 rfl rfl ?_
        have e := Option.some.inj e
        subst e
        exact r_ret dX6_make_64 rfl rfl
    · have e := g_iF h2001 e
      refine r_aload_n dX6_make_10 rfl rfl ?_
      refine r_iload_n dX6_make_11 rfl rfl ?_
      obtain ⟨v2009, h2010, e⟩ := g_bd e
      refine q_callV (rest := []) (c_X6_draftMasked h2010) dX6_make_12 lkX6_169 rfl rfl rfl rfl (Nat.le_of_ble_eq_true rfl) (by decide) ?_
      refine r_iinc (y := 1) dX6_make_15 rfl (by decide) (by decide) rfl ?_
      refine r_goto (tgt := 2) dX6_make_18 (by decide) ?_
      exact w_X6_make_2 n _ _ R e
set_option maxRecDepth 100000 in
set_option maxHeartbeats 4000000 in
theorem c_X6_make {G : mG} {g : (Nat → Nat → Int32)} {b : Bool} {R : (Int32 × (Nat → Nat → Int32) × Bool)} (e : f_X6_make g b = some R) : MC G mX6_make 6 0 0 [.ref 0] (m_h g b) (some (.int R.1)) (m_h R.2.1 R.2.2) := by
  refine MC_intro mlX6_make (Nat.le_of_ble_eq_true rfl) ⟨_, rfl⟩ rfl trivial ?_
  unfold f_X6_make at e
  refine r_iconst (x := 0) dX6_make_0 (by decide) ?_
  refine r_istore_n dX6_make_1 rfl (by decide) rfl ?_
  exact w_X6_make_2 2000 _ _ R e
