/-! X5_choiceOf -/
def f_X5_choiceOf (g : (Nat → Nat → Int32)) (a1 : Int32) (a2 : Int32) : Int32 :=
  ((m_shr a1 (2 * (((g 7 4) - 1) - a2))) &&& 3)
set_option maxRecDepth 100000 in
set_option maxHeartbeats 4000000 in
theorem c_X5_choiceOf {G : mG} {g : (Nat → Nat → Int32)} {b : Bool} {a1 : Int32} {a2 : Int32} {R : Int32} (e : f_X5_choiceOf g a1 a2 = R) : MC G mX5_choiceOf 0 0 0 [.ref 7, .int a1, .int a2] (m_h g b) (some (.int R)) (m_h g b) := by
  refine MC_intro mlX5_choiceOf (Nat.le_of_ble_eq_true rfl) ⟨_, rfl⟩ rfl trivial ?_
  unfold f_X5_choiceOf at e
  refine r_iload_n dX5_choiceOf_0 rfl rfl ?_
  refine r_iconst (x := 2) dX5_choiceOf_1 (by decide) ?_
  refine r_aload_n dX5_choiceOf_2 rfl rfl ?_
  refine q_geti dX5_choiceOf_3 flX5_24 rfl rfl ?_
  refine r_iconst (x := 1) dX5_choiceOf_6 (by decide) ?_
  refine r_isub dX5_choiceOf_7 ?_
  refine r_iload_n dX5_choiceOf_8 rfl rfl ?_
  refine r_isub dX5_choiceOf_9 ?_
  refine r_imul dX5_choiceOf_10 ?_
  refine q_ishr dX5_choiceOf_11 ?_
  refine r_iconst (x := 3) dX5_choiceOf_12 (by decide) ?_
  refine r_iand dX5_choiceOf_13 ?_
  subst e
  exact r_ret dX5_choiceOf_14 rfl rfl
/-! X5_lossOf -/
def lp_X5_lossOf_4 (g : (Nat → Nat → Int32)) (a1 : Int32) : Nat → Int32 → Int32 → Option Int32
  | 0, _, _ => none
  | n + 1, y4_2, y4_3 =>
  (if (g 7 4) ≤ y4_3 then
some y4_2
else
(if m_in ((y4_3 * 4) + (f_X5_choiceOf g a1 y4_3)) 24 then
lp_X5_lossOf_4 g a1 n (y4_2 + (g 9 ((y4_3 * 4) + (f_X5_choiceOf g a1 y4_3)).toNatClampNeg)) (y4_3 + 1) else none))
def f_X5_lossOf (g : (Nat → Nat → Int32)) (a1 : Int32) : Option Int32 :=
  lp_X5_lossOf_4 g a1 2000 0 0
set_option maxRecDepth 100000 in
set_option maxHeartbeats 4000000 in
theorem w_X5_lossOf_4 {G : mG} {b : Bool} {g : (Nat → Nat → Int32)} {a1 : Int32} : ∀ (n : Nat) (y4_2 : Int32) (y4_3 : Int32) (R : Int32), lp_X5_lossOf_4 g a1 n y4_2 y4_3 = some R → MW G mX5_lossOf 1 0 0 4 [.ref 7, .int a1, .int y4_2, .int y4_3] [] (m_h g b) (some (.int R)) (m_h g b)
  | 0, _, _, R, e => absurd (show (none : Option Int32) = some R from e) (fun h => by cases h)
  | n + 1, y4_2, y4_3, R, e => by
    rw [lp_X5_lossOf_4] at e
    refine r_iload_n dX5_lossOf_4 rfl rfl ?_
    refine r_aload_n dX5_lossOf_5 rfl rfl ?_
    refine q_geti dX5_lossOf_6 flX5_24 rfl rfl ?_
    refine r_icmp_ge (tgt := 36) dX5_lossOf_9 (by decide) (fun h4001 => ?_) (fun h4001 => ?_)
    · have e := g_iT h4001 e
      refine r_iload_n dX5_lossOf_36 rfl rfl ?_
      have e := Option.some.inj e
      subst e
      exact r_ret dX5_lossOf_37 rfl rfl
    · have e := g_iF h4001 e
      refine r_iload_n dX5_lossOf_12 rfl rfl ?_
      refine r_aload_n dX5_lossOf_13 rfl rfl ?_
      refine q_getr dX5_lossOf_14 flX5_15 rfl rfl (m_fr_7_1 _) ?_
      refine r_iload_n dX5_lossOf_17 rfl rfl ?_
      refine r_iconst (x := 4) dX5_lossOf_18 (by decide) ?_
      refine r_imul dX5_lossOf_19 ?_
      refine r_aload_n dX5_lossOf_20 rfl rfl ?_
      refine r_iload_n dX5_lossOf_21 rfl rfl ?_
      refine r_iload_n dX5_lossOf_22 rfl rfl ?_
      refine q_callV (rest := [.int (y4_3 * 4), .ref 9, .int y4_2]) (c_X5_choiceOf rfl) dX5_lossOf_23 lkX5_44 rfl rfl rfl rfl (Nat.le_of_ble_eq_true rfl) (by decide) ?_
      refine r_iadd dX5_lossOf_26 ?_
      obtain ⟨h4002, e⟩ := g_gd e
      refine q_iald dX5_lossOf_27 rfl h4002 ?_
      refine r_iadd dX5_lossOf_28 ?_
      refine r_istore_n dX5_lossOf_29 rfl (by decide) rfl ?_
      refine r_iinc (y := 1) dX5_lossOf_30 rfl (by decide) (by decide) rfl ?_
      refine r_goto (tgt := 4) dX5_lossOf_33 (by decide) ?_
      exact w_X5_lossOf_4 n _ _ R e
set_option maxRecDepth 100000 in
set_option maxHeartbeats 4000000 in
theorem c_X5_lossOf {G : mG} {g : (Nat → Nat → Int32)} {b : Bool} {a1 : Int32} {R : Int32} (e : f_X5_lossOf g a1 = some R) : MC G mX5_lossOf 1 0 0 [.ref 7, .int a1] (m_h g b) (some (.int R)) (m_h g b) := by
  refine MC_intro mlX5_lossOf (Nat.le_of_ble_eq_true rfl) ⟨_, rfl⟩ rfl trivial ?_
  unfold f_X5_lossOf at e
  refine r_iconst (x := 0) dX5_lossOf_0 (by decide) ?_
  refine r_istore_n dX5_lossOf_1 rfl (by decide) rfl ?_
  refine r_iconst (x := 0) dX5_lossOf_2 (by decide) ?_
  refine r_istore_n dX5_lossOf_3 rfl (by decide) rfl ?_
  exact w_X5_lossOf_4 2000 _ _ R e
/-! X5_isSafe -/
def lp_X5_isSafe_21 (g : (Nat → Nat → Int32)) (a1 : Int32) (a2 : Int32) (y2_3 : Int32) (k2 : (Int32 → Option Bool)) : Nat → Int32 → Int32 → Option Bool
  | 0, _, _ => none
  | n + 1, y21_4, y21_5 =>
  (if (g 7 4) ≤ y21_5 then
(if a2 ≤ (f_J6_bitCount y21_4) then
k2 (y2_3 + 1)
else
some false)
else
(if m_in ((((y21_5 * 4) + (f_X5_choiceOf g a1 y21_5)) * 12) + y2_3) 288 then
(m_let (y21_4 &&& (g 10 ((((y21_5 * 4) + (f_X5_choiceOf g a1 y21_5)) * 12) + y2_3).toNatClampNeg)) fun t21004 =>
lp_X5_isSafe_21 g a1 a2 y2_3 k2 n t21004 (y21_5 + 1)) else none))
def lp_X5_isSafe_2 (g : (Nat → Nat → Int32)) (a1 : Int32) (a2 : Int32) : Nat → Int32 → Option Bool
  | 0, _ => none
  | n + 1, y2_3 =>
  (if (g 7 5) ≤ y2_3 then
some true
else
(if m_in y2_3 12 then
lp_X5_isSafe_21 g a1 a2 y2_3 (fun y2_3 => lp_X5_isSafe_2 g a1 a2 n y2_3) 2000 (g 11 y2_3.toNatClampNeg) 0 else none))
def f_X5_isSafe (g : (Nat → Nat → Int32)) (a1 : Int32) (a2 : Int32) : Option Bool :=
  lp_X5_isSafe_2 g a1 a2 2000 0
set_option maxRecDepth 100000 in
set_option maxHeartbeats 4000000 in
theorem w_X5_isSafe_21 {G : mG} {b : Bool} {g : (Nat → Nat → Int32)} {a1 : Int32} {a2 : Int32} {y2_3 : Int32} {k2 : (Int32 → Option Bool)} (hk2 : ∀ (y2_3 : Int32) (R : Bool), k2 y2_3 = some R → MW G mX5_isSafe 1 0 0 2 [.ref 7, .int a1, .int a2, .int y2_3, .retAddr 0, .retAddr 0] [] (m_h g b) (some (.int (m_bi R))) (m_h g b)) : ∀ (n : Nat) (y21_4 : Int32) (y21_5 : Int32) (R : Bool), lp_X5_isSafe_21 g a1 a2 y2_3 k2 n y21_4 y21_5 = some R → MW G mX5_isSafe 1 0 0 21 [.ref 7, .int a1, .int a2, .int y2_3, .int y21_4, .int y21_5] [] (m_h g b) (some (.int (m_bi R))) (m_h g b)
  | 0, _, _, R, e => absurd (show (none : Option Bool) = some R from e) (fun h => by cases h)
  | n + 1, y21_4, y21_5, R, e => by
    rw [lp_X5_isSafe_21] at e
    refine r_iload dX5_isSafe_21 rfl ?_
    refine r_aload_n dX5_isSafe_23 rfl rfl ?_
    refine q_geti dX5_isSafe_24 flX5_24 rfl rfl ?_
    refine r_icmp_ge (tgt := 63) dX5_isSafe_27 (by decide) (fun h21001 => ?_) (fun h21001 => ?_)
    · have e := g_iT h21001 e
      refine r_iload dX5_isSafe_63 rfl ?_
      refine q_callS (rest := []) (c_J6_bitCount rfl) dX5_isSafe_65 lkX5_47 rfl rfl (Nat.le_of_ble_eq_true rfl) (by decide) ?_
      refine r_iload_n dX5_isSafe_68 rfl rfl ?_
      refine r_icmp_ge (tgt := 74) dX5_isSafe_69 (by decide) (fun h21002 => ?_) (fun h21002 => ?_)
      · have e := g_iT h21002 e
        refine r_iinc (y := 1) dX5_isSafe_74 rfl (by decide) (by decide) rfl ?_
        refine r_goto (tgt := 2) dX5_isSafe_77 (by decide) ?_
        refine r_forget 4 rfl ?_
        refine r_forget 5 rfl ?_
        exact hk2 _ R e
      · have e := g_iF h21002 e
        refine r_iconst (x := 0) dX5_isSafe_72 (by decide) ?_
        have e := Option.some.inj e
        subst e
        exact r_ret dX5_isSafe_73 rfl rfl
    · have e := g_iF h21001 e
      refine r_iload dX5_isSafe_30 rfl ?_
      refine r_aload_n dX5_isSafe_32 rfl rfl ?_
      refine q_getr dX5_isSafe_33 flX5_18 rfl rfl (m_fr_7_2 _) ?_
      refine r_iload dX5_isSafe_36 rfl ?_
      refine r_iconst (x := 4) dX5_isSafe_38 (by decide) ?_
      refine r_imul dX5_isSafe_39 ?_
      refine r_aload_n dX5_isSafe_40 rfl rfl ?_
      refine r_iload_n dX5_isSafe_41 rfl rfl ?_
      refine r_iload dX5_isSafe_42 rfl ?_
      refine q_callV (rest := [.int (y21_5 * 4), .ref 10, .int y21_4]) (c_X5_choiceOf rfl) dX5_isSafe_44 lkX5_44 rfl rfl rfl rfl (Nat.le_of_ble_eq_true rfl) (by decide) ?_
      refine r_iadd dX5_isSafe_47 ?_
      refine r_bipush (x := 12) dX5_isSafe_48 (by decide) ?_
      refine r_imul dX5_isSafe_50 ?_
      refine r_iload_n dX5_isSafe_51 rfl rfl ?_
      refine r_iadd dX5_isSafe_52 ?_
      obtain ⟨h21003, e⟩ := g_gd e
      refine q_iald dX5_isSafe_53 rfl h21003 ?_
      refine r_iand dX5_isSafe_54 ?_
      refine q_istoreL dX5_isSafe_55 (by decide) (fun t21004 h21005 => ?_)
      refine m_Lset rfl ?_
      have e := g_lt h21005 e
      refine r_iinc (y := 1) dX5_isSafe_57 rfl (by decide) (by decide) rfl ?_
      refine r_goto (tgt := 21) dX5_isSafe_60 (by decide) ?_
      exact w_X5_isSafe_21 hk2 n _ _ R e
set_option maxRecDepth 100000 in
set_option maxHeartbeats 4000000 in
theorem w_X5_isSafe_2 {G : mG} {b : Bool} {g : (Nat → Nat → Int32)} {a1 : Int32} {a2 : Int32} : ∀ (n : Nat) (y2_3 : Int32) (R : Bool), lp_X5_isSafe_2 g a1 a2 n y2_3 = some R → MW G mX5_isSafe 1 0 0 2 [.ref 7, .int a1, .int a2, .int y2_3, .retAddr 0, .retAddr 0] [] (m_h g b) (some (.int (m_bi R))) (m_h g b)
  | 0, _, R, e => absurd (show (none : Option Bool) = some R from e) (fun h => by cases h)
  | n + 1, y2_3, R, e => by
    rw [lp_X5_isSafe_2] at e
    refine r_iload_n dX5_isSafe_2 rfl rfl ?_
    refine r_aload_n dX5_isSafe_3 rfl rfl ?_
    refine q_geti dX5_isSafe_4 flX5_28 rfl rfl ?_
    refine r_icmp_ge (tgt := 80) dX5_isSafe_7 (by decide) (fun h2001 => ?_) (fun h2001 => ?_)
    · have e := g_iT h2001 e
      refine r_iconst (x := 1) dX5_isSafe_80 (by decide) ?_
      have e := Option.some.inj e
      subst e
      exact r_ret dX5_isSafe_81 rfl rfl
    · have e := g_iF h2001 e
      refine r_aload_n dX5_isSafe_10 rfl rfl ?_
      refine q_getr dX5_isSafe_11 flX5_21 rfl rfl (m_fr_7_3 _) ?_
      refine r_iload_n dX5_isSafe_14 rfl rfl ?_
      obtain ⟨h2002, e⟩ := g_gd e
      refine q_iald dX5_isSafe_15 rfl h2002 ?_
      refine r_istore dX5_isSafe_16 (by decide) rfl ?_
      refine r_iconst (x := 0) dX5_isSafe_18 (by decide) ?_
      refine r_istore dX5_isSafe_19 (by decide) rfl ?_
      exact w_X5_isSafe_21 (fun y2_3 R e => w_X5_isSafe_2 n y2_3 R e) 2000 _ _ R e
set_option maxRecDepth 100000 in
set_option maxHeartbeats 4000000 in
theorem c_X5_isSafe {G : mG} {g : (Nat → Nat → Int32)} {b : Bool} {a1 : Int32} {a2 : Int32} {R : Bool} (e : f_X5_isSafe g a1 a2 = some R) : MC G mX5_isSafe 1 0 0 [.ref 7, .int a1, .int a2] (m_h g b) (some (.int (m_bi R))) (m_h g b) := by
  refine MC_intro mlX5_isSafe (Nat.le_of_ble_eq_true rfl) (m_okZ _) rfl trivial ?_
  unfold f_X5_isSafe at e
  refine r_iconst (x := 0) dX5_isSafe_0 (by decide) ?_
  refine r_istore_n dX5_isSafe_1 rfl (by decide) rfl ?_
  exact w_X5_isSafe_2 2000 _ R e
/-! X5_leastWay -/
def lp_X5_leastWay_7 (g : (Nat → Nat → Int32)) (a1 : Int32) : Nat → Int32 → Int32 → Int32 → Option Int32
  | 0, _, _, _ => none
  | n + 1, y7_2, y7_3, y7_4 =>
  (if (m_shl 1 (2 * (g 7 4))) ≤ y7_4 then
some y7_2
else
((f_X5_lossOf g y7_4).bind fun v7002 =>
(if y7_2 = (-1) then
((f_X5_isSafe g y7_4 a1).bind fun v7005 =>
(bif v7005 then
lp_X5_leastWay_7 g a1 n y7_4 v7002 (y7_4 + 1)
else
lp_X5_leastWay_7 g a1 n y7_2 y7_3 (y7_4 + 1)))
else
(if y7_3 ≤ v7002 then
lp_X5_leastWay_7 g a1 n y7_2 y7_3 (y7_4 + 1)
else
((f_X5_isSafe g y7_4 a1).bind fun v7009 =>
(bif v7009 then
lp_X5_leastWay_7 g a1 n y7_4 v7002 (y7_4 + 1)
else
lp_X5_leastWay_7 g a1 n y7_2 y7_3 (y7_4 + 1)))))))
def f_X5_leastWay (g : (Nat → Nat → Int32)) (a1 : Int32) : Option Int32 :=
  lp_X5_leastWay_7 g a1 2000 (-1) 0 0
set_option maxRecDepth 100000 in
set_option maxHeartbeats 4000000 in
theorem w_X5_leastWay_7 {G : mG} {b : Bool} {g : (Nat → Nat → Int32)} {a1 : Int32} : ∀ (n : Nat) (y7_2 : Int32) (y7_3 : Int32) (y7_4 : Int32) (R : Int32), lp_X5_leastWay_7 g a1 n y7_2 y7_3 y7_4 = some R → MW G mX5_leastWay 2 0 0 7 [.ref 7, .int a1, .int y7_2, .int y7_3, .int y7_4, .retAddr 0] [] (m_h g b) (some (.int R)) (m_h g b)
  | 0, _, _, _, R, e => absurd (show (none : Option Int32) = some R from e) (fun h => by cases h)
  | n + 1, y7_2, y7_3, y7_4, R, e => by
    rw [lp_X5_leastWay_7] at e
    refine r_iload dX5_leastWay_7 rfl ?_
    refine r_iconst (x := 1) dX5_leastWay_9 (by decide) ?_
    refine r_iconst (x := 2) dX5_leastWay_10 (by decide) ?_
    refine r_aload_n dX5_leastWay_11 rfl rfl ?_
    refine q_geti dX5_leastWay_12 flX5_24 rfl rfl ?_
    refine r_imul dX5_leastWay_15 ?_
    refine q_ishl dX5_leastWay_16 ?_
    refine r_icmp_ge (tgt := 61) dX5_leastWay_17 (by decide) (fun h7001 => ?_) (fun h7001 => ?_)
    · have e := g_iT h7001 e
      refine r_iload_n dX5_leastWay_61 rfl rfl ?_
      have e := Option.some.inj e
      subst e
      exact r_ret dX5_leastWay_62 rfl rfl
    · have e := g_iF h7001 e
      refine r_aload_n dX5_leastWay_20 rfl rfl ?_
      refine r_iload dX5_leastWay_21 rfl ?_
      obtain ⟨v7002, h7003, e⟩ := g_bd e
      refine q_callV (rest := []) (c_X5_lossOf h7003) dX5_leastWay_23 lkX5_53 rfl rfl rfl rfl (Nat.le_of_ble_eq_true rfl) (by decide) ?_
      refine r_istore dX5_leastWay_26 (by decide) rfl ?_
      refine r_iload_n dX5_leastWay_28 rfl rfl ?_
      refine r_iconst (x := (-1)) dX5_leastWay_29 (by decide) ?_
      refine r_icmp_eq (tgt := 39) dX5_leastWay_30 (by decide) (fun h7004 => ?_) (fun h7004 => ?_)
      · have e := g_iT h7004 e
        refine r_aload_n dX5_leastWay_39 rfl rfl ?_
        refine r_iload dX5_leastWay_40 rfl ?_
        refine r_iload_n dX5_leastWay_42 rfl rfl ?_
        obtain ⟨v7005, h7006, e⟩ := g_bd e
        refine q_callV (rest := []) (c_X5_isSafe h7006) dX5_leastWay_43 lkX5_56 rfl rfl rfl rfl (Nat.le_of_ble_eq_true rfl) (by decide) ?_
        refine r_ifeqB (tgt := 55) dX5_leastWay_46 (by decide) (fun h7007 => ?_) (fun h7007 => ?_)
        · have e := g_cF h7007 e
          refine r_iinc (y := 1) dX5_leastWay_55 rfl (by decide) (by decide) rfl ?_
          refine r_goto (tgt := 7) dX5_leastWay_58 (by decide) ?_
          refine r_forget 5 rfl ?_
          exact w_X5_leastWay_7 n _ _ _ R e
        · have e := g_cT h7007 e
          refine r_iload dX5_leastWay_49 rfl ?_
          refine r_istore_n dX5_leastWay_51 rfl (by decide) rfl ?_
          refine r_iload dX5_leastWay_52 rfl ?_
          refine r_istore_n dX5_leastWay_54 rfl (by decide) rfl ?_
          refine r_iinc (y := 1) dX5_leastWay_55 rfl (by decide) (by decide) rfl ?_
          refine r_goto (tgt := 7) dX5_leastWay_58 (by decide) ?_
          refine r_forget 5 rfl ?_
          exact w_X5_leastWay_7 n _ _ _ R e
      · have e := g_iF h7004 e
        refine r_iload dX5_leastWay_33 rfl ?_
        refine r_iload_n dX5_leastWay_35 rfl rfl ?_
        refine r_icmp_ge (tgt := 55) dX5_leastWay_36 (by decide) (fun h7008 => ?_) (fun h7008 => ?_)
        · have e := g_iT h7008 e
          refine r_iinc (y := 1) dX5_leastWay_55 rfl (by decide) (by decide) rfl ?_
          refine r_goto (tgt := 7) dX5_leastWay_58 (by decide) ?_
          refine r_forget 5 rfl ?_
          exact w_X5_leastWay_7 n _ _ _ R e
        · have e := g_iF h7008 e
          refine r_aload_n dX5_leastWay_39 rfl rfl ?_
          refine r_iload dX5_leastWay_40 rfl ?_
          refine r_iload_n dX5_leastWay_42 rfl rfl ?_
          obtain ⟨v7009, h7010, e⟩ := g_bd e
          refine q_callV (rest := []) (c_X5_isSafe h7010) dX5_leastWay_43 lkX5_56 rfl rfl rfl rfl (Nat.le_of_ble_eq_true rfl) (by decide) ?_
          refine r_ifeqB (tgt := 55) dX5_leastWay_46 (by decide) (fun h7011 => ?_) (fun h7011 => ?_)
          · have e := g_cF h7011 e
            refine r_iinc (y := 1) dX5_leastWay_55 rfl (by decide) (by decide) rfl ?_
            refine r_goto (tgt := 7) dX5_leastWay_58 (by decide) ?_
            refine r_forget 5 rfl ?_
            exact w_X5_leastWay_7 n _ _ _ R e
          · have e := g_cT h7011 e
            refine r_iload dX5_leastWay_49 rfl ?_
            refine r_istore_n dX5_leastWay_51 rfl (by decide) rfl ?_
            refine r_iload dX5_leastWay_52 rfl ?_
            refine r_istore_n dX5_leastWay_54 rfl (by decide) rfl ?_
            refine r_iinc (y := 1) dX5_leastWay_55 rfl (by decide) (by decide) rfl ?_
            refine r_goto (tgt := 7) dX5_leastWay_58 (by decide) ?_
            refine r_forget 5 rfl ?_
            exact w_X5_leastWay_7 n _ _ _ R e
set_option maxRecDepth 100000 in
set_option maxHeartbeats 4000000 in
theorem c_X5_leastWay {G : mG} {g : (Nat → Nat → Int32)} {b : Bool} {a1 : Int32} {R : Int32} (e : f_X5_leastWay g a1 = some R) : MC G mX5_leastWay 2 0 0 [.ref 7, .int a1] (m_h g b) (some (.int R)) (m_h g b) := by
  refine MC_intro mlX5_leastWay (Nat.le_of_ble_eq_true rfl) ⟨_, rfl⟩ rfl trivial ?_
  unfold f_X5_leastWay at e
  refine r_iconst (x := (-1)) dX5_leastWay_0 (by decide) ?_
  refine r_istore_n dX5_leastWay_1 rfl (by decide) rfl ?_
  refine r_iconst (x := 0) dX5_leastWay_2 (by decide) ?_
  refine r_istore_n dX5_leastWay_3 rfl (by decide) rfl ?_
  refine r_iconst (x := 0) dX5_leastWay_4 (by decide) ?_
  refine r_istore dX5_leastWay_5 (by decide) rfl ?_
  exact w_X5_leastWay_7 2000 _ _ _ R e
/-! X5_columnNumber -/
def f_X5_columnNumber (g : (Nat → Nat → Int32)) (a1 : Int32) : Option Int32 :=
  (if a1 < 0 then
some (-1)
else
(if (g 7 4) ≤ a1 then
some (-1)
else
(if m_in a1 6 then
some (g 8 a1.toNatClampNeg) else none)))
set_option maxRecDepth 100000 in
set_option maxHeartbeats 4000000 in
theorem c_X5_columnNumber {G : mG} {g : (Nat → Nat → Int32)} {b : Bool} {a1 : Int32} {R : Int32} (e : f_X5_columnNumber g a1 = some R) : MC G mX5_columnNumber 0 0 0 [.ref 7, .int a1] (m_h g b) (some (.int R)) (m_h g b) := by
  refine MC_intro mlX5_columnNumber (Nat.le_of_ble_eq_true rfl) ⟨_, rfl⟩ rfl trivial ?_
  unfold f_X5_columnNumber at e
  refine r_iload_n dX5_columnNumber_0 rfl rfl ?_
  refine r_if_lt (tgt := 21) dX5_columnNumber_1 (by decide) (fun h1 => ?_) (fun h1 => ?_)
  · have e := g_iT h1 e
    refine r_iconst (x := (-1)) dX5_columnNumber_21 (by decide) ?_
    have e := Option.some.inj e
    subst e
    exact r_ret dX5_columnNumber_22 rfl rfl
  · have e := g_iF h1 e
    refine r_iload_n dX5_columnNumber_4 rfl rfl ?_
    refine r_aload_n dX5_columnNumber_5 rfl rfl ?_
    refine q_geti dX5_columnNumber_6 flX5_24 rfl rfl ?_
    refine r_icmp_ge (tgt := 21) dX5_columnNumber_9 (by decide) (fun h2 => ?_) (fun h2 => ?_)
    · have e := g_iT h2 e
      refine r_iconst (x := (-1)) dX5_columnNumber_21 (by decide) ?_
      have e := Option.some.inj e
      subst e
      exact r_ret dX5_columnNumber_22 rfl rfl
    · have e := g_iF h2 e
      refine r_aload_n dX5_columnNumber_12 rfl rfl ?_
      refine q_getr dX5_columnNumber_13 flX5_9 rfl rfl (m_fr_7_0 _) ?_
      refine r_iload_n dX5_columnNumber_16 rfl rfl ?_
      obtain ⟨h3, e⟩ := g_gd e
      refine q_iald dX5_columnNumber_17 rfl h3 ?_
      refine r_goto (tgt := 22) dX5_columnNumber_18 (by decide) ?_
      have e := Option.some.inj e
      subst e
      exact r_ret dX5_columnNumber_22 rfl rfl
/-! X6_best -/
def lp_X6_best_75 (b : Bool) (a1 : Int32) (a2 : Int32) (a3 : Int32) (x75_4 : Nat) (x75_5 : Int32) : Nat → Int32 → (Nat → Nat → Int32) → Option (Int32 × (Nat → Nat → Int32))
  | 0, _, _ => none
  | n + 1, y75_6, g75 =>
  (if (g75 7 4) ≤ y75_6 then
((f_X5_lossOf g75 x75_5).bind fun v75002 =>
some (v75002, g75))
else
((f_X5_columnNumber g75 y75_6).bind fun v75004 =>
((f_X6_columnAt g75 b a1 v75004).bind fun v75006 =>
(m_oc v75006
(lp_X6_best_75 b a1 a2 a3 x75_4 x75_5 n (y75_6 + 1) g75)
(fun q75008 =>
((f_X5_widthAt g75 (f_X5_choiceOf g75 x75_5 y75_6)).bind fun v75009 =>
(if m_S0[q75008]? = some (.inl 0) then
(m_let (m_up g75 q75008 3 v75009) fun g75012 =>
lp_X6_best_75 b a1 a2 a3 x75_4 x75_5 n (y75_6 + 1) g75012) else none)))))))
def f_X6_best (g : (Nat → Nat → Int32)) (b : Bool) (a1 : Int32) (a2 : Int32) (a3 : Int32) : Option (Int32 × (Nat → Nat → Int32)) :=
  ((f_X6_tableAt g b a1).bind fun v1 =>
(m_oc v1
(some ((-1), g))
(fun q3 =>
((f_X6_areColumns g b a1 a2).bind fun v4 =>
(bif v4 then
(if 1 ≤ a3 then
(if m_S0[q3]? = some (.inl 4) then
(if (g q3 4) = 0 then
some ((-3), g)
else
((f_X6_draftMasked g b a1).bind fun v10 =>
((f_X6_prepareSearch v10 b a1 a2).bind fun v12 =>
((f_X5_leastWay v12 a3).bind fun v14 =>
(if v14 = (-1) then
some ((-3), v12)
else
lp_X6_best_75 b a1 a2 a3 q3 v14 2000 0 v12))))) else none)
else
some ((-2), g))
else
some ((-2), g))))))
set_option maxRecDepth 100000 in
set_option maxHeartbeats 4000000 in
theorem w_X6_best_75 {G : mG} {b : Bool} {a1 : Int32} {a2 : Int32} {a3 : Int32} {x75_4 : Nat} {x75_5 : Int32} : ∀ (n : Nat) (y75_6 : Int32) (g75 : (Nat → Nat → Int32)) (R : (Int32 × (Nat → Nat → Int32))), lp_X6_best_75 b a1 a2 a3 x75_4 x75_5 n y75_6 g75 = some R → MW G mX6_best 6 0 0 75 [.ref 0, .int a1, .int a2, .int a3, .ref x75_4, .int x75_5, .int y75_6, .retAddr 0] [] (m_h g75 b) (some (.int R.1)) (m_h R.2 b)
  | 0, _, _, R, e => absurd (show (none : Option (Int32 × (Nat → Nat → Int32))) = some R from e) (fun h => by cases h)
  | n + 1, y75_6, g75, R, e => by
    rw [lp_X6_best_75] at e
    refine r_iload dX6_best_75 rfl ?_
    refine r_aload_n dX6_best_77 rfl rfl ?_
    refine q_getr dX6_best_78 flX6_44 rfl rfl (m_fr_0_5 _) ?_
    refine q_geti dX6_best_81 flX6_232 rfl rfl ?_
    refine r_icmp_ge (tgt := 133) dX6_best_84 (by decide) (fun h75001 => ?_) (fun h75001 => ?_)
    · have e := g_iT h75001 e
      refine r_aload_n dX6_best_133 rfl rfl ?_
      refine q_getr dX6_best_134 flX6_44 rfl rfl (m_fr_0_5 _) ?_
      refine r_iload dX6_best_137 rfl ?_
      obtain ⟨v75002, h75003, e⟩ := g_bd e
      refine q_callV (rest := []) (c_X5_lossOf h75003) dX6_best_139 lkX6_242 rfl rfl rfl rfl (Nat.le_of_ble_eq_true rfl) (by decide) ?_
      have e := Option.some.inj e
      subst e
      exact r_ret dX6_best_142 rfl rfl
    · have e := g_iF h75001 e
      refine r_aload_n dX6_best_87 rfl rfl ?_
      refine r_iload_n dX6_best_88 rfl rfl ?_
      refine r_aload_n dX6_best_89 rfl rfl ?_
      refine q_getr dX6_best_90 flX6_44 rfl rfl (m_fr_0_5 _) ?_
      refine r_iload dX6_best_93 rfl ?_
      obtain ⟨v75004, h75005, e⟩ := g_bd e
      refine q_callV (rest := [.int a1, .ref 0]) (c_X5_columnNumber h75005) dX6_best_95 lkX6_233 rfl rfl rfl rfl (Nat.le_of_ble_eq_true rfl) (by decide) ?_
      obtain ⟨v75006, h75007, e⟩ := g_bd e
      refine q_callV (rest := []) (c_X6_columnAt h75007) dX6_best_98 lkX6_99 rfl rfl rfl rfl (Nat.le_of_ble_eq_true rfl) (by decide) ?_
      refine r_astoreO dX6_best_101 (by decide) rfl ?_
      refine r_aloadO dX6_best_103 rfl ?_
      cases v75006 with
      | none =>
        have e := g_oN e
        refine r_ifnullN (tgt := 127) dX6_best_105 (by decide) ?_
        refine r_iinc (y := 1) dX6_best_127 rfl (by decide) (by decide) rfl ?_
        refine r_goto (tgt := 75) dX6_best_130 (by decide) ?_
        refine r_forget 7 rfl ?_
        exact w_X6_best_75 n _ _ R e
      | some q75008 =>
        have e := g_oS e
        refine r_ifnull (tgt := 127) dX6_best_105 (by decide) ?_
        refine r_aload dX6_best_108 rfl ?_
        refine r_aload_n dX6_best_110 rfl rfl ?_
        refine q_getr dX6_best_111 flX6_44 rfl rfl (m_fr_0_5 _) ?_
        refine r_iload dX6_best_114 rfl ?_
        refine r_iload dX6_best_116 rfl ?_
        refine q_callV (rest := [.ref q75008]) (c_X5_choiceOf rfl) dX6_best_118 lkX6_236 rfl rfl rfl rfl (Nat.le_of_ble_eq_true rfl) (by decide) ?_
        obtain ⟨v75009, h75010, e⟩ := g_bd e
        refine q_callS (rest := [.ref q75008]) (c_X5_widthAt h75010) dX6_best_121 lkX6_239 rfl rfl (Nat.le_of_ble_eq_true rfl) (by decide) ?_
        obtain ⟨h75011, e⟩ := g_gd e
        refine q_putiL dX6_best_124 flX6_121 (Or.inl rfl) (Or.inl rfl) h75011 (fun g75012 h75013 => ?_)
        have e := g_lt h75013 e
        refine r_iinc (y := 1) dX6_best_127 rfl (by decide) (by decide) rfl ?_
        refine r_goto (tgt := 75) dX6_best_130 (by decide) ?_
        refine r_forget 7 rfl ?_
        exact w_X6_best_75 n _ _ R e
set_option maxRecDepth 100000 in
set_option maxHeartbeats 4000000 in
theorem c_X6_best {G : mG} {g : (Nat → Nat → Int32)} {b : Bool} {a1 : Int32} {a2 : Int32} {a3 : Int32} {R : (Int32 × (Nat → Nat → Int32))} (e : f_X6_best g b a1 a2 a3 = some R) : MC G mX6_best 6 0 0 [.ref 0, .int a1, .int a2, .int a3] (m_h g b) (some (.int R.1)) (m_h R.2 b) := by
  refine MC_intro mlX6_best (Nat.le_of_ble_eq_true rfl) ⟨_, rfl⟩ rfl trivial ?_
  unfold f_X6_best at e
  refine r_aload_n dX6_best_0 rfl rfl ?_
  refine r_iload_n dX6_best_1 rfl rfl ?_
  obtain ⟨v1, h2, e⟩ := g_bd e
  refine q_callV (rest := []) (c_X6_tableAt h2) dX6_best_2 lkX6_73 rfl rfl rfl rfl (Nat.le_of_ble_eq_true rfl) (by decide) ?_
  refine r_astoreO dX6_best_5 (by decide) rfl ?_
  refine r_aloadO dX6_best_7 rfl ?_
  cases v1 with
  | none =>
    have e := g_oN e
    refine r_ifnonnullN (tgt := 14) dX6_best_9 (by decide) ?_
    refine r_iconst (x := (-1)) dX6_best_12 (by decide) ?_
    have e := Option.some.inj e
    subst e
    exact r_ret dX6_best_13 rfl rfl
  | some q3 =>
    have e := g_oS e
    refine r_ifnonnull (tgt := 14) dX6_best_9 (by decide) ?_
    refine r_aload_n dX6_best_14 rfl rfl ?_
    refine r_iload_n dX6_best_15 rfl rfl ?_
    refine r_iload_n dX6_best_16 rfl rfl ?_
    obtain ⟨v4, h5, e⟩ := g_bd e
    refine q_callV (rest := []) (c_X6_areColumns h5) dX6_best_17 lkX6_208 rfl rfl rfl rfl (Nat.le_of_ble_eq_true rfl) (by decide) ?_
    refine r_ifeqB (tgt := 28) dX6_best_20 (by decide) (fun h6 => ?_) (fun h6 => ?_)
    · have e := g_cF h6 e
      refine r_bipush (x := (-2)) dX6_best_28 (by decide) ?_
      have e := Option.some.inj e
      subst e
      exact r_ret dX6_best_30 rfl rfl
    · have e := g_cT h6 e
      refine r_iload_n dX6_best_23 rfl rfl ?_
      refine r_iconst (x := 1) dX6_best_24 (by decide) ?_
      refine r_icmp_ge (tgt := 31) dX6_best_25 (by decide) (fun h7 => ?_) (fun h7 => ?_)
      · have e := g_iT h7 e
        refine r_aload dX6_best_31 rfl ?_
        obtain ⟨h8, e⟩ := g_gd e
        refine q_geti dX6_best_33 flX6_77 rfl h8 ?_
        refine r_if_ne (tgt := 42) dX6_best_36 (by decide) (fun h9 => ?_) (fun h9 => ?_)
        · have e := g_iF h9 e
          refine r_aload_n dX6_best_42 rfl rfl ?_
          refine r_iload_n dX6_best_43 rfl rfl ?_
          obtain ⟨v10, h11, e⟩ := g_bd e
          refine q_callV (rest := []) (c_X6_draftMasked h11) dX6_best_44 lkX6_169 rfl rfl rfl rfl (Nat.le_of_ble_eq_true rfl) (by decide) ?_
          refine r_aload_n dX6_best_47 rfl rfl ?_
          refine r_iload_n dX6_best_48 rfl rfl ?_
          refine r_iload_n dX6_best_49 rfl rfl ?_
          obtain ⟨v12, h13, e⟩ := g_bd e
          refine q_callV (rest := []) (c_X6_prepareSearch h13) dX6_best_50 lkX6_226 rfl rfl rfl rfl (Nat.le_of_ble_eq_true rfl) (by decide) ?_
          refine r_aload_n dX6_best_53 rfl rfl ?_
          refine q_getr dX6_best_54 flX6_44 rfl rfl (m_fr_0_5 _) ?_
          refine r_iload_n dX6_best_57 rfl rfl ?_
          obtain ⟨v14, h15, e⟩ := g_bd e
          refine q_callV (rest := []) (c_X5_leastWay h15) dX6_best_58 lkX6_229 rfl rfl rfl rfl (Nat.le_of_ble_eq_true rfl) (by decide) ?_
          refine r_istore dX6_best_61 (by decide) rfl ?_
          refine r_iload dX6_best_63 rfl ?_
          refine r_iconst (x := (-1)) dX6_best_65 (by decide) ?_
          refine r_icmp_ne (tgt := 72) dX6_best_66 (by decide) (fun h16 => ?_) (fun h16 => ?_)
          · have e := g_iF h16 e
            refine r_iconst (x := 0) dX6_best_72 (by decide) ?_
            refine r_istore dX6_best_73 (by decide) rfl ?_
            exact w_X6_best_75 2000 _ _ R e
          · have e := g_iT h16 e
            refine r_bipush (x := (-3)) dX6_best_69 (by decide) ?_
            have e := Option.some.inj e
            subst e
            exact r_ret dX6_best_71 rfl rfl
        · have e := g_iT h9 e
          refine r_bipush (x := (-3)) dX6_best_39 (by decide) ?_
          have e := Option.some.inj e
          subst e
          exact r_ret dX6_best_41 rfl rfl
      · have e := g_iF h7 e
        refine r_bipush (x := (-2)) dX6_best_28 (by decide) ?_
        have e := Option.some.inj e
        subst e
        exact r_ret dX6_best_30 rfl rfl
/-! X6_about -/
def f_X6_about (g : (Nat → Nat → Int32)) (b : Bool) (a1 : Int32) (a2 : Int32) (a3 : Int32) : Option Int32 :=
  ((f_X6_tableAt g b a1).bind fun v1 =>
((f_X6_columnAt g b a1 a2).bind fun v3 =>
(m_oc v1
(some (-1))
(fun q5 =>
(m_oc v3
(some (-1))
(fun q6 =>
(if 10 ≤ a3 then
(if a3 = 0 then
(if m_S0[q5]? = some (.inl 4) then
some (g q5 3) else none)
else
(if a3 = 1 then
(if m_S0[q5]? = some (.inl 4) then
some (g q5 4) else none)
else
(if a3 = 2 then
(if m_S0[q5]? = some (.inl 4) then
some (g q5 5) else none)
else
(if a3 = 3 then
some (-1)
else
(if a3 = 4 then
some (-1)
else
(if a3 = 5 then
some (-1)
else
(if a3 = 6 then
some (-1)
else
(if a3 = 7 then
some (-1)
else
(if a3 = 8 then
some (-1)
else
(if a3 = 9 then
some (-1)
else
(if a3 = 10 then
(if m_S0[q6]? = some (.inl 0) then
some (g q6 0) else none)
else
(if a3 = 11 then
(if m_S0[q6]? = some (.inl 0) then
(if (g q6 0) = 1 then
some (g q6 1)
else
some (-1)) else none)
else
(if a3 = 12 then
(if m_S0[q6]? = some (.inl 0) then
some (g q6 2) else none)
else
(if a3 = 13 then
(if m_S0[q6]? = some (.inl 0) then
some (g q6 3) else none)
else
some (-1)))))))))))))))
else
(if a2 = 0 then
(if a3 = 0 then
(if m_S0[q5]? = some (.inl 4) then
some (g q5 3) else none)
else
(if a3 = 1 then
(if m_S0[q5]? = some (.inl 4) then
some (g q5 4) else none)
else
(if a3 = 2 then
(if m_S0[q5]? = some (.inl 4) then
some (g q5 5) else none)
else
(if a3 = 3 then
some (-1)
else
(if a3 = 4 then
some (-1)
else
(if a3 = 5 then
some (-1)
else
(if a3 = 6 then
some (-1)
else
(if a3 = 7 then
some (-1)
else
(if a3 = 8 then
some (-1)
else
(if a3 = 9 then
some (-1)
else
(if a3 = 10 then
(if m_S0[q6]? = some (.inl 0) then
some (g q6 0) else none)
else
(if a3 = 11 then
(if m_S0[q6]? = some (.inl 0) then
(if (g q6 0) = 1 then
some (g q6 1)
else
some (-1)) else none)
else
(if a3 = 12 then
(if m_S0[q6]? = some (.inl 0) then
some (g q6 2) else none)
else
(if a3 = 13 then
(if m_S0[q6]? = some (.inl 0) then
some (g q6 3) else none)
else
some (-1)))))))))))))))
else
some (-1)))))))))
set_option maxRecDepth 100000 in
set_option maxHeartbeats 4000000 in
theorem c_X6_about {G : mG} {g : (Nat → Nat → Int32)} {b : Bool} {a1 : Int32} {a2 : Int32} {a3 : Int32} {R : Int32} (e : f_X6_about g b a1 a2 a3 = some R) : MC G mX6_about 2 0 0 [.ref 0, .int a1, .int a2, .int a3] (m_h g b) (some (.int R)) (m_h g b) := by
  refine MC_intro mlX6_about (Nat.le_of_ble_eq_true rfl) ⟨_, rfl⟩ rfl trivial ?_
  unfold f_X6_about at e
  refine r_aload_n dX6_about_0 rfl rfl ?_
  refine r_iload_n dX6_about_1 rfl rfl ?_
  obtain ⟨v1, h2, e⟩ := g_bd e
  refine q_callV (rest := []) (c_X6_tableAt h2) dX6_about_2 lkX6_73 rfl rfl rfl rfl (Nat.le_of_ble_eq_true rfl) (by decide) ?_
  refine r_astoreO dX6_about_5 (by decide) rfl ?_
  refine r_aload_n dX6_about_7 rfl rfl ?_
  refine r_iload_n dX6_about_8 rfl rfl ?_
  refine r_iload_n dX6_about_9 rfl rfl ?_
  obtain ⟨v3, h4, e⟩ := g_bd e
  refine q_callV (rest := []) (c_X6_columnAt h4) dX6_about_10 lkX6_99 rfl rfl rfl rfl (Nat.le_of_ble_eq_true rfl) (by decide) ?_
  refine r_astoreO dX6_about_13 (by decide) rfl ?_
  refine r_aloadO dX6_about_15 rfl ?_
  cases v1 with
  | none =>
    have e := g_oN e
    refine r_ifnullN (tgt := 35) dX6_about_17 (by decide) ?_
    refine r_iconst (x := (-1)) dX6_about_35 (by decide) ?_
    have e := Option.some.inj e
    subst e
    exact r_ret dX6_about_36 rfl rfl
  | some q5 =>
    have e := g_oS e
    refine r_ifnull (tgt := 35) dX6_about_17 (by decide) ?_
    refine r_aloadO dX6_about_20 rfl ?_
    cases v3 with
    | none =>
      have e := g_oN e
      refine r_ifnullN (tgt := 35) dX6_about_22 (by decide) ?_
      refine r_iconst (x := (-1)) dX6_about_35 (by decide) ?_
      have e := Option.some.inj e
      subst e
      exact r_ret dX6_about_36 rfl rfl
    | some q6 =>
      have e := g_oS e
      refine r_ifnull (tgt := 35) dX6_about_22 (by decide) ?_
      refine r_iload_n dX6_about_25 rfl rfl ?_
      refine r_bipush (x := 10) dX6_about_26 (by decide) ?_
      refine r_icmp_ge (tgt := 37) dX6_about_28 (by decide) (fun h7 => ?_) (fun h7 => ?_)
      · have e := g_iT h7 e
        refine r_iload_n dX6_about_37 rfl rfl ?_
        by_cases h8 : a3 = 0
        · have e := g_iT h8 e
          refine r_tabIn (off := 70) (tgt := 108) dX6_about_38 (by rw [h8]; decide) (by rw [h8]; decide) (by rw [h8]; decide) (by decide) ?_
          refine r_aload dX6_about_108 rfl ?_
          obtain ⟨h9, e⟩ := g_gd e
          refine q_geti dX6_about_110 flX6_80 rfl h9 ?_
          have e := Option.some.inj e
          subst e
          exact r_ret dX6_about_113 rfl rfl
        have e := g_iF h8 e
        by_cases h10 : a3 = 1
        · have e := g_iT h10 e
          refine r_tabIn (off := 76) (tgt := 114) dX6_about_38 (by rw [h10]; decide) (by rw [h10]; decide) (by rw [h10]; decide) (by decide) ?_
          refine r_aload dX6_about_114 rfl ?_
          obtain ⟨h11, e⟩ := g_gd e
          refine q_geti dX6_about_116 flX6_77 rfl h11 ?_
          have e := Option.some.inj e
          subst e
          exact r_ret dX6_about_119 rfl rfl
        have e := g_iF h10 e
        by_cases h12 : a3 = 2
        · have e := g_iT h12 e
          refine r_tabIn (off := 82) (tgt := 120) dX6_about_38 (by rw [h12]; decide) (by rw [h12]; decide) (by rw [h12]; decide) (by decide) ?_
          refine r_aload dX6_about_120 rfl ?_
          obtain ⟨h13, e⟩ := g_gd e
          refine q_geti dX6_about_122 flX6_108 rfl h13 ?_
          have e := Option.some.inj e
          subst e
          exact r_ret dX6_about_125 rfl rfl
        have e := g_iF h12 e
        by_cases h14 : a3 = 3
        · have e := g_iT h14 e
          refine r_tabIn (off := 125) (tgt := 163) dX6_about_38 (by rw [h14]; decide) (by rw [h14]; decide) (by rw [h14]; decide) (by decide) ?_
          refine r_iconst (x := (-1)) dX6_about_163 (by decide) ?_
          have e := Option.some.inj e
          subst e
          exact r_ret dX6_about_164 rfl rfl
        have e := g_iF h14 e
        by_cases h15 : a3 = 4
        · have e := g_iT h15 e
          refine r_tabIn (off := 125) (tgt := 163) dX6_about_38 (by rw [h15]; decide) (by rw [h15]; decide) (by rw [h15]; decide) (by decide) ?_
          refine r_iconst (x := (-1)) dX6_about_163 (by decide) ?_
          have e := Option.some.inj e
          subst e
          exact r_ret dX6_about_164 rfl rfl
        have e := g_iF h15 e
        by_cases h16 : a3 = 5
        · have e := g_iT h16 e
          refine r_tabIn (off := 125) (tgt := 163) dX6_about_38 (by rw [h16]; decide) (by rw [h16]; decide) (by rw [h16]; decide) (by decide) ?_
          refine r_iconst (x := (-1)) dX6_about_163 (by decide) ?_
          have e := Option.some.inj e
          subst e
          exact r_ret dX6_about_164 rfl rfl
        have e := g_iF h16 e
        by_cases h17 : a3 = 6
        · have e := g_iT h17 e
          refine r_tabIn (off := 125) (tgt := 163) dX6_about_38 (by rw [h17]; decide) (by rw [h17]; decide) (by rw [h17]; decide) (by decide) ?_
          refine r_iconst (x := (-1)) dX6_about_163 (by decide) ?_
          have e := Option.some.inj e
          subst e
          exact r_ret dX6_about_164 rfl rfl
        have e := g_iF h17 e
        by_cases h18 : a3 = 7
        · have e := g_iT h18 e
          refine r_tabIn (off := 125) (tgt := 163) dX6_about_38 (by rw [h18]; decide) (by rw [h18]; decide) (by rw [h18]; decide) (by decide) ?_
          refine r_iconst (x := (-1)) dX6_about_163 (by decide) ?_
          have e := Option.some.inj e
          subst e
          exact r_ret dX6_about_164 rfl rfl
        have e := g_iF h18 e
        by_cases h19 : a3 = 8
        · have e := g_iT h19 e
          refine r_tabIn (off := 125) (tgt := 163) dX6_about_38 (by rw [h19]; decide) (by rw [h19]; decide) (by rw [h19]; decide) (by decide) ?_
          refine r_iconst (x := (-1)) dX6_about_163 (by decide) ?_
          have e := Option.some.inj e
          subst e
          exact r_ret dX6_about_164 rfl rfl
        have e := g_iF h19 e
        by_cases h20 : a3 = 9
        · have e := g_iT h20 e
          refine r_tabIn (off := 125) (tgt := 163) dX6_about_38 (by rw [h20]; decide) (by rw [h20]; decide) (by rw [h20]; decide) (by decide) ?_
          refine r_iconst (x := (-1)) dX6_about_163 (by decide) ?_
          have e := Option.some.inj e
          subst e
          exact r_ret dX6_about_164 rfl rfl
        have e := g_iF h20 e
        by_cases h21 : a3 = 10
        · have e := g_iT h21 e
          refine r_tabIn (off := 88) (tgt := 126) dX6_about_38 (by rw [h21]; decide) (by rw [h21]; decide) (by rw [h21]; decide) (by decide) ?_
          refine r_aload dX6_about_126 rfl ?_
          obtain ⟨h22, e⟩ := g_gd e
          refine q_geti dX6_about_128 flX6_103 rfl h22 ?_
          have e := Option.some.inj e
          subst e
          exact r_ret dX6_about_131 rfl rfl
        have e := g_iF h21 e
        by_cases h23 : a3 = 11
        · have e := g_iT h23 e
          refine r_tabIn (off := 94) (tgt := 132) dX6_about_38 (by rw [h23]; decide) (by rw [h23]; decide) (by rw [h23]; decide) (by decide) ?_
          refine r_aload dX6_about_132 rfl ?_
          obtain ⟨h24, e⟩ := g_gd e
          refine q_geti dX6_about_134 flX6_103 rfl h24 ?_
          refine r_iconst (x := 1) dX6_about_137 (by decide) ?_
          refine r_icmp_ne (tgt := 149) dX6_about_138 (by decide) (fun h25 => ?_) (fun h25 => ?_)
          · have e := g_iF h25 e
            refine r_iconst (x := (-1)) dX6_about_149 (by decide) ?_
            have e := Option.some.inj e
            subst e
            exact r_ret dX6_about_150 rfl rfl
          · have e := g_iT h25 e
            refine r_aload dX6_about_141 rfl ?_
            refine q_geti dX6_about_143 flX6_146 rfl h24 ?_
            refine r_goto (tgt := 150) dX6_about_146 (by decide) ?_
            have e := Option.some.inj e
            subst e
            exact r_ret dX6_about_150 rfl rfl
        have e := g_iF h23 e
        by_cases h26 : a3 = 12
        · have e := g_iT h26 e
          refine r_tabIn (off := 113) (tgt := 151) dX6_about_38 (by rw [h26]; decide) (by rw [h26]; decide) (by rw [h26]; decide) (by decide) ?_
          refine r_aload dX6_about_151 rfl ?_
          obtain ⟨h27, e⟩ := g_gd e
          refine q_geti dX6_about_153 flX6_118 rfl h27 ?_
          have e := Option.some.inj e
          subst e
          exact r_ret dX6_about_156 rfl rfl
        have e := g_iF h26 e
        by_cases h28 : a3 = 13
        · have e := g_iT h28 e
          refine r_tabIn (off := 119) (tgt := 157) dX6_about_38 (by rw [h28]; decide) (by rw [h28]; decide) (by rw [h28]; decide) (by decide) ?_
          refine r_aload dX6_about_157 rfl ?_
          obtain ⟨h29, e⟩ := g_gd e
          refine q_geti dX6_about_159 flX6_121 rfl h29 ?_
          have e := Option.some.inj e
          subst e
          exact r_ret dX6_about_162 rfl rfl
        have e := g_iF h28 e
        refine r_tabOut (tgt := 163) dX6_about_38 (m_swOut0_14 h8 h10 h12 h14 h15 h16 h17 h18 h19 h20 h21 h23 h26 h28) (by decide) ?_
        refine r_iconst (x := (-1)) dX6_about_163 (by decide) ?_
        have e := Option.some.inj e
        subst e
        exact r_ret dX6_about_164 rfl rfl
      · have e := g_iF h7 e
        refine r_iload_n dX6_about_31 rfl rfl ?_
        refine r_if_eq (tgt := 37) dX6_about_32 (by decide) (fun h30 => ?_) (fun h30 => ?_)
        · have e := g_iT h30 e
          refine r_iload_n dX6_about_37 rfl rfl ?_
          by_cases h31 : a3 = 0
          · have e := g_iT h31 e
            refine r_tabIn (off := 70) (tgt := 108) dX6_about_38 (by rw [h31]; decide) (by rw [h31]; decide) (by rw [h31]; decide) (by decide) ?_
            refine r_aload dX6_about_108 rfl ?_
            obtain ⟨h32, e⟩ := g_gd e
            refine q_geti dX6_about_110 flX6_80 rfl h32 ?_
            have e := Option.some.inj e
            subst e
            exact r_ret dX6_about_113 rfl rfl
          have e := g_iF h31 e
          by_cases h33 : a3 = 1
          · have e := g_iT h33 e
            refine r_tabIn (off := 76) (tgt := 114) dX6_about_38 (by rw [h33]; decide) (by rw [h33]; decide) (by rw [h33]; decide) (by decide) ?_
            refine r_aload dX6_about_114 rfl ?_
            obtain ⟨h34, e⟩ := g_gd e
            refine q_geti dX6_about_116 flX6_77 rfl h34 ?_
            have e := Option.some.inj e
            subst e
            exact r_ret dX6_about_119 rfl rfl
          have e := g_iF h33 e
          by_cases h35 : a3 = 2
          · have e := g_iT h35 e
            refine r_tabIn (off := 82) (tgt := 120) dX6_about_38 (by rw [h35]; decide) (by rw [h35]; decide) (by rw [h35]; decide) (by decide) ?_
            refine r_aload dX6_about_120 rfl ?_
            obtain ⟨h36, e⟩ := g_gd e
            refine q_geti dX6_about_122 flX6_108 rfl h36 ?_
            have e := Option.some.inj e
            subst e
            exact r_ret dX6_about_125 rfl rfl
          have e := g_iF h35 e
          by_cases h37 : a3 = 3
          · have e := g_iT h37 e
            refine r_tabIn (off := 125) (tgt := 163) dX6_about_38 (by rw [h37]; decide) (by rw [h37]; decide) (by rw [h37]; decide) (by decide) ?_
            refine r_iconst (x := (-1)) dX6_about_163 (by decide) ?_
            have e := Option.some.inj e
            subst e
            exact r_ret dX6_about_164 rfl rfl
          have e := g_iF h37 e
          by_cases h38 : a3 = 4
          · have e := g_iT h38 e
            refine r_tabIn (off := 125) (tgt := 163) dX6_about_38 (by rw [h38]; decide) (by rw [h38]; decide) (by rw [h38]; decide) (by decide) ?_
            refine r_iconst (x := (-1)) dX6_about_163 (by decide) ?_
            have e := Option.some.inj e
            subst e
            exact r_ret dX6_about_164 rfl rfl
          have e := g_iF h38 e
          by_cases h39 : a3 = 5
          · have e := g_iT h39 e
            refine r_tabIn (off := 125) (tgt := 163) dX6_about_38 (by rw [h39]; decide) (by rw [h39]; decide) (by rw [h39]; decide) (by decide) ?_
            refine r_iconst (x := (-1)) dX6_about_163 (by decide) ?_
            have e := Option.some.inj e
            subst e
            exact r_ret dX6_about_164 rfl rfl
          have e := g_iF h39 e
          by_cases h40 : a3 = 6
          · have e := g_iT h40 e
            refine r_tabIn (off := 125) (tgt := 163) dX6_about_38 (by rw [h40]; decide) (by rw [h40]; decide) (by rw [h40]; decide) (by decide) ?_
            refine r_iconst (x := (-1)) dX6_about_163 (by decide) ?_
            have e := Option.some.inj e
            subst e
            exact r_ret dX6_about_164 rfl rfl
          have e := g_iF h40 e
          by_cases h41 : a3 = 7
          · have e := g_iT h41 e
            refine r_tabIn (off := 125) (tgt := 163) dX6_about_38 (by rw [h41]; decide) (by rw [h41]; decide) (by rw [h41]; decide) (by decide) ?_
            refine r_iconst (x := (-1)) dX6_about_163 (by decide) ?_
            have e := Option.some.inj e
            subst e
            exact r_ret dX6_about_164 rfl rfl
          have e := g_iF h41 e
          by_cases h42 : a3 = 8
          · have e := g_iT h42 e
            refine r_tabIn (off := 125) (tgt := 163) dX6_about_38 (by rw [h42]; decide) (by rw [h42]; decide) (by rw [h42]; decide) (by decide) ?_
            refine r_iconst (x := (-1)) dX6_about_163 (by decide) ?_
            have e := Option.some.inj e
            subst e
            exact r_ret dX6_about_164 rfl rfl
          have e := g_iF h42 e
          by_cases h43 : a3 = 9
          · have e := g_iT h43 e
            refine r_tabIn (off := 125) (tgt := 163) dX6_about_38 (by rw [h43]; decide) (by rw [h43]; decide) (by rw [h43]; decide) (by decide) ?_
            refine r_iconst (x := (-1)) dX6_about_163 (by decide) ?_
            have e := Option.some.inj e
            subst e
            exact r_ret dX6_about_164 rfl rfl
          have e := g_iF h43 e
          by_cases h44 : a3 = 10
          · have e := g_iT h44 e
            refine r_tabIn (off := 88) (tgt := 126) dX6_about_38 (by rw [h44]; decide) (by rw [h44]; decide) (by rw [h44]; decide) (by decide) ?_
            refine r_aload dX6_about_126 rfl ?_
            obtain ⟨h45, e⟩ := g_gd e
            refine q_geti dX6_about_128 flX6_103 rfl h45 ?_
            have e := Option.some.inj e
            subst e
            exact r_ret dX6_about_131 rfl rfl
          have e := g_iF h44 e
          by_cases h46 : a3 = 11
          · have e := g_iT h46 e
            refine r_tabIn (off := 94) (tgt := 132) dX6_about_38 (by rw [h46]; decide) (by rw [h46]; decide) (by rw [h46]; decide) (by decide) ?_
            refine r_aload dX6_about_132 rfl ?_
            obtain ⟨h47, e⟩ := g_gd e
            refine q_geti dX6_about_134 flX6_103 rfl h47 ?_
            refine r_iconst (x := 1) dX6_about_137 (by decide) ?_
            refine r_icmp_ne (tgt := 149) dX6_about_138 (by decide) (fun h48 => ?_) (fun h48 => ?_)
            · have e := g_iF h48 e
              refine r_iconst (x := (-1)) dX6_about_149 (by decide) ?_
              have e := Option.some.inj e
              subst e
              exact r_ret dX6_about_150 rfl rfl
            · have e := g_iT h48 e
              refine r_aload dX6_about_141 rfl ?_
              refine q_geti dX6_about_143 flX6_146 rfl h47 ?_
              refine r_goto (tgt := 150) dX6_about_146 (by decide) ?_
              have e := Option.some.inj e
              subst e
              exact r_ret dX6_about_150 rfl rfl
          have e := g_iF h46 e
          by_cases h49 : a3 = 12
          · have e := g_iT h49 e
            refine r_tabIn (off := 113) (tgt := 151) dX6_about_38 (by rw [h49]; decide) (by rw [h49]; decide) (by rw [h49]; decide) (by decide) ?_
            refine r_aload dX6_about_151 rfl ?_
            obtain ⟨h50, e⟩ := g_gd e
            refine q_geti dX6_about_153 flX6_118 rfl h50 ?_
            have e := Option.some.inj e
            subst e
            exact r_ret dX6_about_156 rfl rfl
          have e := g_iF h49 e
          by_cases h51 : a3 = 13
          · have e := g_iT h51 e
            refine r_tabIn (off := 119) (tgt := 157) dX6_about_38 (by rw [h51]; decide) (by rw [h51]; decide) (by rw [h51]; decide) (by decide) ?_
            refine r_aload dX6_about_157 rfl ?_
            obtain ⟨h52, e⟩ := g_gd e
            refine q_geti dX6_about_159 flX6_121 rfl h52 ?_
            have e := Option.some.inj e
            subst e
            exact r_ret dX6_about_162 rfl rfl
          have e := g_iF h51 e
          refine r_tabOut (tgt := 163) dX6_about_38 (m_swOut0_14 h31 h33 h35 h37 h38 h39 h40 h41 h42 h43 h44 h46 h49 h51) (by decide) ?_
          refine r_iconst (x := (-1)) dX6_about_163 (by decide) ?_
          have e := Option.some.inj e
          subst e
          exact r_ret dX6_about_164 rfl rfl
        · have e := g_iF h30 e
          refine r_iconst (x := (-1)) dX6_about_35 (by decide) ?_
          have e := Option.some.inj e
          subst e
          exact r_ret dX6_about_36 rfl rfl
/-! X6_all -/
def f_X6_all (g : (Nat → Nat → Int32)) (a1 : Int32) : Int32 :=
  (if a1 = 0 then
(g 0 8)
else
(if a1 = 1 then
(g 0 9)
else
(if a1 = 2 then
(g 0 10)
else
(if a1 = 3 then
(g 0 11)
else
(if a1 = 4 then
(if (g 0 12) = 0 then
0
else
1)
else
(-1))))))
set_option maxRecDepth 100000 in
set_option maxHeartbeats 4000000 in
theorem c_X6_all {G : mG} {g : (Nat → Nat → Int32)} {b : Bool} {a1 : Int32} {R : Int32} (e : f_X6_all g a1 = R) : MC G mX6_all 0 0 0 [.ref 0, .int a1] (m_h g b) (some (.int R)) (m_h g b) := by
  refine MC_intro mlX6_all (Nat.le_of_ble_eq_true rfl) ⟨_, rfl⟩ rfl trivial ?_
  unfold f_X6_all at e
  refine r_iload_n dX6_all_0 rfl rfl ?_
  by_cases h1 : a1 = 0
  · have e := g_iT h1 e
    refine r_tabIn (off := 35) (tgt := 36) dX6_all_1 (by rw [h1]; decide) (by rw [h1]; decide) (by rw [h1]; decide) (by decide) ?_
    refine r_aload_n dX6_all_36 rfl rfl ?_
    refine q_geti dX6_all_37 flX6_54 rfl rfl ?_
    subst e
    exact r_ret dX6_all_40 rfl rfl
  have e := g_iF h1 e
  by_cases h2 : a1 = 1
  · have e := g_iT h2 e
    refine r_tabIn (off := 40) (tgt := 41) dX6_all_1 (by rw [h2]; decide) (by rw [h2]; decide) (by rw [h2]; decide) (by decide) ?_
    refine r_aload_n dX6_all_41 rfl rfl ?_
    refine q_geti dX6_all_42 flX6_58 rfl rfl ?_
    subst e
    exact r_ret dX6_all_45 rfl rfl
  have e := g_iF h2 e
  by_cases h3 : a1 = 2
  · have e := g_iT h3 e
    refine r_tabIn (off := 45) (tgt := 46) dX6_all_1 (by rw [h3]; decide) (by rw [h3]; decide) (by rw [h3]; decide) (by decide) ?_
    refine r_aload_n dX6_all_46 rfl rfl ?_
    refine q_geti dX6_all_47 flX6_61 rfl rfl ?_
    subst e
    exact r_ret dX6_all_50 rfl rfl
  have e := g_iF h3 e
  by_cases h4 : a1 = 3
  · have e := g_iT h4 e
    refine r_tabIn (off := 50) (tgt := 51) dX6_all_1 (by rw [h4]; decide) (by rw [h4]; decide) (by rw [h4]; decide) (by decide) ?_
    refine r_aload_n dX6_all_51 rfl rfl ?_
    refine q_geti dX6_all_52 flX6_64 rfl rfl ?_
    subst e
    exact r_ret dX6_all_55 rfl rfl
  have e := g_iF h4 e
  by_cases h5 : a1 = 4
  · have e := g_iT h5 e
    refine r_tabIn (off := 55) (tgt := 56) dX6_all_1 (by rw [h5]; decide) (by rw [h5]; decide) (by rw [h5]; decide) (by decide) ?_
    refine r_aload_n dX6_all_56 rfl rfl ?_
    refine q_geti dX6_all_57 flX6_67 rfl rfl ?_
    refine r_if_eq (tgt := 67) dX6_all_60 (by decide) (fun h6 => ?_) (fun h6 => ?_)
    · have e := g_iT h6 e
      refine r_iconst (x := 0) dX6_all_67 (by decide) ?_
      subst e
      exact r_ret dX6_all_68 rfl rfl
    · have e := g_iF h6 e
      refine r_iconst (x := 1) dX6_all_63 (by decide) ?_
      refine r_goto (tgt := 68) dX6_all_64 (by decide) ?_
      subst e
      exact r_ret dX6_all_68 rfl rfl
  have e := g_iF h5 e
  refine r_tabOut (tgt := 69) dX6_all_1 (m_swOut0_5 h1 h2 h3 h4 h5) (by decide) ?_
  refine r_iconst (x := (-1)) dX6_all_69 (by decide) ?_
  subst e
  exact r_ret dX6_all_70 rfl rfl
