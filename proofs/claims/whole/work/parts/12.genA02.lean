/-! X7_miss -/
def lp_X7_miss_59 (g : (Nat → Nat → Int32)) (b : Bool) (a1 : Int32) (a2 : Int32) : Nat → Int32 → Int32 → Option Int32
  | 0, _, _ => none
  | n + 1, y59_3, y59_4 =>
  (if m_in a1 4 then
(if (g 66 a1.toNatClampNeg) ≤ y59_4 then
some y59_3
else
(if m_in (f_X7_cell a1 y59_4 a2) 288 then
(if (g 76 (f_X7_cell a1 y59_4 a2).toNatClampNeg) = (-2147483648) then
lp_X7_miss_59 g b a1 a2 n y59_3 (y59_4 + 1)
else
(if (g 77 (f_X7_cell a1 y59_4 a2).toNatClampNeg) = (-2147483648) then
lp_X7_miss_59 g b a1 a2 n y59_3 (y59_4 + 1)
else
(if (g 77 (f_X7_cell a1 y59_4 a2).toNatClampNeg) ≤ (g 76 (f_X7_cell a1 y59_4 a2).toNatClampNeg) then
(m_let (y59_3 + ((g 76 (f_X7_cell a1 y59_4 a2).toNatClampNeg) - (g 77 (f_X7_cell a1 y59_4 a2).toNatClampNeg))) fun t59007 =>
lp_X7_miss_59 g b a1 a2 n t59007 (y59_4 + 1))
else
(m_let (y59_3 + ((g 77 (f_X7_cell a1 y59_4 a2).toNatClampNeg) - (g 76 (f_X7_cell a1 y59_4 a2).toNatClampNeg))) fun t59009 =>
lp_X7_miss_59 g b a1 a2 n t59009 (y59_4 + 1))))) else none)) else none)
def f_X7_miss (g : (Nat → Nat → Int32)) (b : Bool) (a1 : Int32) (a2 : Int32) : Option Int32 :=
  ((f_X7_isColumn g a1 a2).bind fun v1 =>
(bif v1 then
(if m_in ((6 * a1) + a2) 24 then
(if (g 68 ((6 * a1) + a2).toNatClampNeg) = 2 then
(if (g 64 16) = 0 then
some (-3)
else
lp_X7_miss_59 g b a1 a2 2000 0 0)
else
(if (g 68 ((6 * a1) + a2).toNatClampNeg) = 3 then
(if (g 64 16) = 0 then
some (-3)
else
lp_X7_miss_59 g b a1 a2 2000 0 0)
else
some (-2))) else none)
else
some (-1)))
set_option maxRecDepth 100000 in
set_option maxHeartbeats 4000000 in
theorem w_X7_miss_59 {G : mG} {g : (Nat → Nat → Int32)} {b : Bool} {a1 : Int32} {a2 : Int32} : ∀ (n : Nat) (y59_3 : Int32) (y59_4 : Int32) (R : Int32), lp_X7_miss_59 g b a1 a2 n y59_3 y59_4 = some R → MW G mX7_miss 3 0 0 59 [.ref 64, .int a1, .int a2, .int y59_3, .int y59_4, .retAddr 0, .retAddr 0] [] (m_h g b) (some (.int R)) (m_h g b)
  | 0, _, _, R, e => absurd (show (none : Option Int32) = some R from e) (fun h => by cases h)
  | n + 1, y59_3, y59_4, R, e => by
    rw [lp_X7_miss_59] at e
    refine r_iload dX7_miss_59 rfl ?_
    refine r_aload_n dX7_miss_61 rfl rfl ?_
    refine q_getr dX7_miss_62 flX7_15 rfl rfl (m_fr_64_3 _) ?_
    refine r_iload_n dX7_miss_65 rfl rfl ?_
    obtain ⟨h59001, e⟩ := g_gd e
    refine q_iald dX7_miss_66 rfl h59001 ?_
    refine r_icmp_ge (tgt := 141) dX7_miss_67 (by decide) (fun h59002 => ?_) (fun h59002 => ?_)
    · have e := g_iT h59002 e
      refine r_iload_n dX7_miss_141 rfl rfl ?_
      have e := Option.some.inj e
      subst e
      exact r_ret dX7_miss_142 rfl rfl
    · have e := g_iF h59002 e
      refine r_aload_n dX7_miss_70 rfl rfl ?_
      refine q_getr dX7_miss_71 flX7_45 rfl rfl (m_fr_64_14 _) ?_
      refine r_iload_n dX7_miss_74 rfl rfl ?_
      refine r_iload dX7_miss_75 rfl ?_
      refine r_iload_n dX7_miss_77 rfl rfl ?_
      refine q_callS (rest := [.ref 76]) (c_X7_cell rfl) dX7_miss_78 lkX7_127 rfl rfl (Nat.le_of_ble_eq_true rfl) (by decide) ?_
      obtain ⟨h59003, e⟩ := g_gd e
      refine q_iald dX7_miss_81 rfl h59003 ?_
      refine r_istore dX7_miss_82 (by decide) rfl ?_
      refine r_aload_n dX7_miss_84 rfl rfl ?_
      refine q_getr dX7_miss_85 flX7_48 rfl rfl (m_fr_64_15 _) ?_
      refine r_iload_n dX7_miss_88 rfl rfl ?_
      refine r_iload dX7_miss_89 rfl ?_
      refine r_iload_n dX7_miss_91 rfl rfl ?_
      refine q_callS (rest := [.ref 77]) (c_X7_cell rfl) dX7_miss_92 lkX7_127 rfl rfl (Nat.le_of_ble_eq_true rfl) (by decide) ?_
      refine q_iald dX7_miss_95 rfl h59003 ?_
      refine r_istore dX7_miss_96 (by decide) rfl ?_
      refine r_iload dX7_miss_98 rfl ?_
      refine r_ldc (x := (-2147483648)) dX7_miss_100 kcX7_119 ?_
      refine r_icmp_eq (tgt := 135) dX7_miss_102 (by decide) (fun h59004 => ?_) (fun h59004 => ?_)
      · have e := g_iT h59004 e
        refine r_iinc (y := 1) dX7_miss_135 rfl (by decide) (by decide) rfl ?_
        refine r_goto (tgt := 59) dX7_miss_138 (by decide) ?_
        refine r_forget 5 rfl ?_
        refine r_forget 6 rfl ?_
        exact w_X7_miss_59 n _ _ R e
      · have e := g_iF h59004 e
        refine r_iload dX7_miss_105 rfl ?_
        refine r_ldc (x := (-2147483648)) dX7_miss_107 kcX7_119 ?_
        refine r_icmp_eq (tgt := 135) dX7_miss_109 (by decide) (fun h59005 => ?_) (fun h59005 => ?_)
        · have e := g_iT h59005 e
          refine r_iinc (y := 1) dX7_miss_135 rfl (by decide) (by decide) rfl ?_
          refine r_goto (tgt := 59) dX7_miss_138 (by decide) ?_
          refine r_forget 5 rfl ?_
          refine r_forget 6 rfl ?_
          exact w_X7_miss_59 n _ _ R e
        · have e := g_iF h59005 e
          refine r_iload_n dX7_miss_112 rfl rfl ?_
          refine r_iload dX7_miss_113 rfl ?_
          refine r_iload dX7_miss_115 rfl ?_
          refine r_icmp_ge (tgt := 128) dX7_miss_117 (by decide) (fun h59006 => ?_) (fun h59006 => ?_)
          · have e := g_iT h59006 e
            refine r_iload dX7_miss_128 rfl ?_
            refine r_iload dX7_miss_130 rfl ?_
            refine r_isub dX7_miss_132 ?_
            refine r_iadd dX7_miss_133 ?_
            refine q_istore_nL dX7_miss_134 rfl (by decide) (fun t59007 h59008 => ?_)
            refine m_Lset rfl ?_
            have e := g_lt h59008 e
            refine r_iinc (y := 1) dX7_miss_135 rfl (by decide) (by decide) rfl ?_
            refine r_goto (tgt := 59) dX7_miss_138 (by decide) ?_
            refine r_forget 5 rfl ?_
            refine r_forget 6 rfl ?_
            exact w_X7_miss_59 n _ _ R e
          · have e := g_iF h59006 e
            refine r_iload dX7_miss_120 rfl ?_
            refine r_iload dX7_miss_122 rfl ?_
            refine r_isub dX7_miss_124 ?_
            refine r_goto (tgt := 133) dX7_miss_125 (by decide) ?_
            refine r_iadd dX7_miss_133 ?_
            refine q_istore_nL dX7_miss_134 rfl (by decide) (fun t59009 h59010 => ?_)
            refine m_Lset rfl ?_
            have e := g_lt h59010 e
            refine r_iinc (y := 1) dX7_miss_135 rfl (by decide) (by decide) rfl ?_
            refine r_goto (tgt := 59) dX7_miss_138 (by decide) ?_
            refine r_forget 5 rfl ?_
            refine r_forget 6 rfl ?_
            exact w_X7_miss_59 n _ _ R e
set_option maxRecDepth 100000 in
set_option maxHeartbeats 4000000 in
theorem c_X7_miss {G : mG} {g : (Nat → Nat → Int32)} {b : Bool} {a1 : Int32} {a2 : Int32} {R : Int32} (e : f_X7_miss g b a1 a2 = some R) : MC G mX7_miss 3 0 0 [.ref 64, .int a1, .int a2] (m_h g b) (some (.int R)) (m_h g b) := by
  refine MC_intro mlX7_miss (Nat.le_of_ble_eq_true rfl) ⟨_, rfl⟩ rfl trivial ?_
  unfold f_X7_miss at e
  refine r_aload_n dX7_miss_0 rfl rfl ?_
  refine r_iload_n dX7_miss_1 rfl rfl ?_
  refine r_iload_n dX7_miss_2 rfl rfl ?_
  obtain ⟨v1, h2, e⟩ := g_bd e
  refine q_callV (rest := []) (c_X7_isColumn h2) dX7_miss_3 lkX7_131 rfl rfl rfl rfl (Nat.le_of_ble_eq_true rfl) (by decide) ?_
  refine r_ifneB (tgt := 11) dX7_miss_6 (by decide) (fun h3 => ?_) (fun h3 => ?_)
  · have e := g_cT h3 e
    refine r_aload_n dX7_miss_11 rfl rfl ?_
    refine q_getr dX7_miss_12 flX7_21 rfl rfl (m_fr_64_5 _) ?_
    refine r_bipush (x := 6) dX7_miss_15 (by decide) ?_
    refine r_iload_n dX7_miss_17 rfl rfl ?_
    refine r_imul dX7_miss_18 ?_
    refine r_iload_n dX7_miss_19 rfl rfl ?_
    refine r_iadd dX7_miss_20 ?_
    obtain ⟨h4, e⟩ := g_gd e
    refine q_iald dX7_miss_21 rfl h4 ?_
    refine r_iconst (x := 2) dX7_miss_22 (by decide) ?_
    refine r_icmp_eq (tgt := 44) dX7_miss_23 (by decide) (fun h5 => ?_) (fun h5 => ?_)
    · have e := g_iT h5 e
      refine r_aload_n dX7_miss_44 rfl rfl ?_
      refine q_geti dX7_miss_45 flX7_112 rfl rfl ?_
      refine r_if_ne (tgt := 54) dX7_miss_48 (by decide) (fun h6 => ?_) (fun h6 => ?_)
      · have e := g_iF h6 e
        refine r_iconst (x := 0) dX7_miss_54 (by decide) ?_
        refine r_istore_n dX7_miss_55 rfl (by decide) rfl ?_
        refine r_iconst (x := 0) dX7_miss_56 (by decide) ?_
        refine r_istore dX7_miss_57 (by decide) rfl ?_
        exact w_X7_miss_59 2000 _ _ R e
      · have e := g_iT h6 e
        refine r_bipush (x := (-3)) dX7_miss_51 (by decide) ?_
        have e := Option.some.inj e
        subst e
        exact r_ret dX7_miss_53 rfl rfl
    · have e := g_iF h5 e
      refine r_aload_n dX7_miss_26 rfl rfl ?_
      refine q_getr dX7_miss_27 flX7_21 rfl rfl (m_fr_64_5 _) ?_
      refine r_bipush (x := 6) dX7_miss_30 (by decide) ?_
      refine r_iload_n dX7_miss_32 rfl rfl ?_
      refine r_imul dX7_miss_33 ?_
      refine r_iload_n dX7_miss_34 rfl rfl ?_
      refine r_iadd dX7_miss_35 ?_
      refine q_iald dX7_miss_36 rfl h4 ?_
      refine r_iconst (x := 3) dX7_miss_37 (by decide) ?_
      refine r_icmp_eq (tgt := 44) dX7_miss_38 (by decide) (fun h7 => ?_) (fun h7 => ?_)
      · have e := g_iT h7 e
        refine r_aload_n dX7_miss_44 rfl rfl ?_
        refine q_geti dX7_miss_45 flX7_112 rfl rfl ?_
        refine r_if_ne (tgt := 54) dX7_miss_48 (by decide) (fun h8 => ?_) (fun h8 => ?_)
        · have e := g_iF h8 e
          refine r_iconst (x := 0) dX7_miss_54 (by decide) ?_
          refine r_istore_n dX7_miss_55 rfl (by decide) rfl ?_
          refine r_iconst (x := 0) dX7_miss_56 (by decide) ?_
          refine r_istore dX7_miss_57 (by decide) rfl ?_
          exact w_X7_miss_59 2000 _ _ R e
        · have e := g_iT h8 e
          refine r_bipush (x := (-3)) dX7_miss_51 (by decide) ?_
          have e := Option.some.inj e
          subst e
          exact r_ret dX7_miss_53 rfl rfl
      · have e := g_iF h7 e
        refine r_bipush (x := (-2)) dX7_miss_41 (by decide) ?_
        have e := Option.some.inj e
        subst e
        exact r_ret dX7_miss_43 rfl rfl
  · have e := g_cF h3 e
    refine r_iconst (x := (-1)) dX7_miss_9 (by decide) ?_
    have e := Option.some.inj e
    subst e
    exact r_ret dX7_miss_10 rfl rfl
/-! X7_isKnown -/
def f_X7_isKnown (g : (Nat → Nat → Int32)) (a1 : Int32) (a2 : Int32) : Option Bool :=
  (if a2 < 0 then
some false
else
(if m_in a1 4 then
(if (m_shl 1 (g 65 a1.toNatClampNeg)) ≤ a2 then
some false
else
some true) else none))
set_option maxRecDepth 100000 in
set_option maxHeartbeats 4000000 in
theorem c_X7_isKnown {G : mG} {g : (Nat → Nat → Int32)} {b : Bool} {a1 : Int32} {a2 : Int32} {R : Bool} (e : f_X7_isKnown g a1 a2 = some R) : MC G mX7_isKnown 0 0 0 [.ref 64, .int a1, .int a2] (m_h g b) (some (.int (m_bi R))) (m_h g b) := by
  refine MC_intro mlX7_isKnown (Nat.le_of_ble_eq_true rfl) (m_okZ _) rfl trivial ?_
  unfold f_X7_isKnown at e
  refine r_iload_n dX7_isKnown_0 rfl rfl ?_
  refine r_if_lt (tgt := 20) dX7_isKnown_1 (by decide) (fun h1 => ?_) (fun h1 => ?_)
  · have e := g_iT h1 e
    refine r_iconst (x := 0) dX7_isKnown_20 (by decide) ?_
    have e := Option.some.inj e
    subst e
    exact r_ret dX7_isKnown_21 rfl rfl
  · have e := g_iF h1 e
    refine r_iload_n dX7_isKnown_4 rfl rfl ?_
    refine r_iconst (x := 1) dX7_isKnown_5 (by decide) ?_
    refine r_aload_n dX7_isKnown_6 rfl rfl ?_
    refine q_getr dX7_isKnown_7 flX7_9 rfl rfl (m_fr_64_2 _) ?_
    refine r_iload_n dX7_isKnown_10 rfl rfl ?_
    obtain ⟨h2, e⟩ := g_gd e
    refine q_iald dX7_isKnown_11 rfl h2 ?_
    refine q_ishl dX7_isKnown_12 ?_
    refine r_icmp_ge (tgt := 20) dX7_isKnown_13 (by decide) (fun h3 => ?_) (fun h3 => ?_)
    · have e := g_iT h3 e
      refine r_iconst (x := 0) dX7_isKnown_20 (by decide) ?_
      have e := Option.some.inj e
      subst e
      exact r_ret dX7_isKnown_21 rfl rfl
    · have e := g_iF h3 e
      refine r_iconst (x := 1) dX7_isKnown_16 (by decide) ?_
      refine r_goto (tgt := 21) dX7_isKnown_17 (by decide) ?_
      have e := Option.some.inj e
      subst e
      exact r_ret dX7_isKnown_21 rfl rfl
/-! X7_isPlain -/
def f_X7_isPlain (g : (Nat → Nat → Int32)) (a1 : Int32) (a2 : Int32) : Option Bool :=
  (if m_in ((6 * a1) + a2) 24 then
(if (g 68 ((6 * a1) + a2).toNatClampNeg) = 1 then
(if (g 70 ((6 * a1) + a2).toNatClampNeg) = 0 then
(if m_in (6 * (g 69 ((6 * a1) + a2).toNatClampNeg)) 24 then
(if (g 70 (6 * (g 69 ((6 * a1) + a2).toNatClampNeg)).toNatClampNeg) = 1 then
some false
else
some true) else none)
else
(if (g 70 ((6 * a1) + a2).toNatClampNeg) = 0 then
some true
else
(if (g 70 ((6 * a1) + a2).toNatClampNeg) = 3 then
some true
else
some false)))
else
(if (g 70 ((6 * a1) + a2).toNatClampNeg) = 0 then
some true
else
(if (g 70 ((6 * a1) + a2).toNatClampNeg) = 3 then
some true
else
some false))) else none)
set_option maxRecDepth 100000 in
set_option maxHeartbeats 4000000 in
theorem c_X7_isPlain {G : mG} {g : (Nat → Nat → Int32)} {b : Bool} {a1 : Int32} {a2 : Int32} {R : Bool} (e : f_X7_isPlain g a1 a2 = some R) : MC G mX7_isPlain 0 0 0 [.ref 64, .int a1, .int a2] (m_h g b) (some (.int (m_bi R))) (m_h g b) := by
  refine MC_intro mlX7_isPlain (Nat.le_of_ble_eq_true rfl) (m_okZ _) rfl trivial ?_
  unfold f_X7_isPlain at e
  refine r_bipush (x := 6) dX7_isPlain_0 (by decide) ?_
  refine r_iload_n dX7_isPlain_2 rfl rfl ?_
  refine r_imul dX7_isPlain_3 ?_
  refine r_iload_n dX7_isPlain_4 rfl rfl ?_
  refine r_iadd dX7_isPlain_5 ?_
  refine r_istore_n dX7_isPlain_6 rfl (by decide) rfl ?_
  refine r_aload_n dX7_isPlain_7 rfl rfl ?_
  refine q_getr dX7_isPlain_8 flX7_21 rfl rfl (m_fr_64_5 _) ?_
  refine r_iload_n dX7_isPlain_11 rfl rfl ?_
  obtain ⟨h1, e⟩ := g_gd e
  refine q_iald dX7_isPlain_12 rfl h1 ?_
  refine r_iconst (x := 1) dX7_isPlain_13 (by decide) ?_
  refine r_icmp_ne (tgt := 50) dX7_isPlain_14 (by decide) (fun h2 => ?_) (fun h2 => ?_)
  · have e := g_iF h2 e
    refine r_aload_n dX7_isPlain_50 rfl rfl ?_
    refine q_getr dX7_isPlain_51 flX7_27 rfl rfl (m_fr_64_7 _) ?_
    refine r_iload_n dX7_isPlain_54 rfl rfl ?_
    refine q_iald dX7_isPlain_55 rfl h1 ?_
    refine r_if_eq (tgt := 69) dX7_isPlain_56 (by decide) (fun h3 => ?_) (fun h3 => ?_)
    · have e := g_iT h3 e
      refine r_iconst (x := 1) dX7_isPlain_69 (by decide) ?_
      refine r_goto (tgt := 74) dX7_isPlain_70 (by decide) ?_
      have e := Option.some.inj e
      subst e
      exact r_ret dX7_isPlain_74 rfl rfl
    · have e := g_iF h3 e
      refine r_aload_n dX7_isPlain_59 rfl rfl ?_
      refine q_getr dX7_isPlain_60 flX7_27 rfl rfl (m_fr_64_7 _) ?_
      refine r_iload_n dX7_isPlain_63 rfl rfl ?_
      refine q_iald dX7_isPlain_64 rfl h1 ?_
      refine r_iconst (x := 3) dX7_isPlain_65 (by decide) ?_
      refine r_icmp_ne (tgt := 73) dX7_isPlain_66 (by decide) (fun h4 => ?_) (fun h4 => ?_)
      · have e := g_iF h4 e
        refine r_iconst (x := 0) dX7_isPlain_73 (by decide) ?_
        have e := Option.some.inj e
        subst e
        exact r_ret dX7_isPlain_74 rfl rfl
      · have e := g_iT h4 e
        refine r_iconst (x := 1) dX7_isPlain_69 (by decide) ?_
        refine r_goto (tgt := 74) dX7_isPlain_70 (by decide) ?_
        have e := Option.some.inj e
        subst e
        exact r_ret dX7_isPlain_74 rfl rfl
  · have e := g_iT h2 e
    refine r_aload_n dX7_isPlain_17 rfl rfl ?_
    refine q_getr dX7_isPlain_18 flX7_27 rfl rfl (m_fr_64_7 _) ?_
    refine r_iload_n dX7_isPlain_21 rfl rfl ?_
    refine q_iald dX7_isPlain_22 rfl h1 ?_
    refine r_if_ne (tgt := 50) dX7_isPlain_23 (by decide) (fun h5 => ?_) (fun h5 => ?_)
    · have e := g_iF h5 e
      refine r_aload_n dX7_isPlain_50 rfl rfl ?_
      refine q_getr dX7_isPlain_51 flX7_27 rfl rfl (m_fr_64_7 _) ?_
      refine r_iload_n dX7_isPlain_54 rfl rfl ?_
      refine q_iald dX7_isPlain_55 rfl h1 ?_
      refine r_if_eq (tgt := 69) dX7_isPlain_56 (by decide) (fun h6 => ?_) (fun h6 => ?_)
      · have e := g_iT h6 e
        refine r_iconst (x := 1) dX7_isPlain_69 (by decide) ?_
        refine r_goto (tgt := 74) dX7_isPlain_70 (by decide) ?_
        have e := Option.some.inj e
        subst e
        exact r_ret dX7_isPlain_74 rfl rfl
      · have e := g_iF h6 e
        refine r_aload_n dX7_isPlain_59 rfl rfl ?_
        refine q_getr dX7_isPlain_60 flX7_27 rfl rfl (m_fr_64_7 _) ?_
        refine r_iload_n dX7_isPlain_63 rfl rfl ?_
        refine q_iald dX7_isPlain_64 rfl h1 ?_
        refine r_iconst (x := 3) dX7_isPlain_65 (by decide) ?_
        refine r_icmp_ne (tgt := 73) dX7_isPlain_66 (by decide) (fun h7 => ?_) (fun h7 => ?_)
        · have e := g_iF h7 e
          refine r_iconst (x := 0) dX7_isPlain_73 (by decide) ?_
          have e := Option.some.inj e
          subst e
          exact r_ret dX7_isPlain_74 rfl rfl
        · have e := g_iT h7 e
          refine r_iconst (x := 1) dX7_isPlain_69 (by decide) ?_
          refine r_goto (tgt := 74) dX7_isPlain_70 (by decide) ?_
          have e := Option.some.inj e
          subst e
          exact r_ret dX7_isPlain_74 rfl rfl
    · have e := g_iT h5 e
      refine r_aload_n dX7_isPlain_26 rfl rfl ?_
      refine q_getr dX7_isPlain_27 flX7_27 rfl rfl (m_fr_64_7 _) ?_
      refine r_bipush (x := 6) dX7_isPlain_30 (by decide) ?_
      refine r_aload_n dX7_isPlain_32 rfl rfl ?_
      refine q_getr dX7_isPlain_33 flX7_24 rfl rfl (m_fr_64_6 _) ?_
      refine r_iload_n dX7_isPlain_36 rfl rfl ?_
      refine q_iald dX7_isPlain_37 rfl h1 ?_
      refine r_imul dX7_isPlain_38 ?_
      obtain ⟨h8, e⟩ := g_gd e
      refine q_iald dX7_isPlain_39 rfl h8 ?_
      refine r_iconst (x := 1) dX7_isPlain_40 (by decide) ?_
      refine r_icmp_eq (tgt := 48) dX7_isPlain_41 (by decide) (fun h9 => ?_) (fun h9 => ?_)
      · have e := g_iT h9 e
        refine r_iconst (x := 0) dX7_isPlain_48 (by decide) ?_
        have e := Option.some.inj e
        subst e
        exact r_ret dX7_isPlain_49 rfl rfl
      · have e := g_iF h9 e
        refine r_iconst (x := 1) dX7_isPlain_44 (by decide) ?_
        refine r_goto (tgt := 49) dX7_isPlain_45 (by decide) ?_
        have e := Option.some.inj e
        subst e
        exact r_ret dX7_isPlain_49 rfl rfl
/-! X7_couldBe -/
def lp_X7_couldBe_6 (g : (Nat → Nat → Int32)) (a1 : Int32) (a2 : Int32) (a3 : Int32) (a4 : Int32) : Nat → Int32 → Int32 → Option Bool
  | 0, _, _ => none
  | n + 1, y6_5, y6_6 =>
  (if m_in a1 4 then
(if (g 65 a1.toNatClampNeg) ≤ y6_6 then
some true
else
(if ((m_shr a3 y6_6) &&& 1) = 0 then
lp_X7_couldBe_6 g a1 a2 a3 a4 n y6_5 (y6_6 + 1)
else
(if m_in (f_X7_cell a1 a4 y6_6) 288 then
((f_X7_isPlain g a1 y6_6).bind fun v6005 =>
(bif v6005 then
(if m_in (f_X7_cell a1 a2 y6_6) 288 then
(if (g 78 (f_X7_cell a1 a4 y6_6).toNatClampNeg) = (g 78 (f_X7_cell a1 a2 y6_6).toNatClampNeg) then
(if m_in ((6 * a1) + y6_6) 24 then
(if (g 70 ((6 * a1) + y6_6).toNatClampNeg) = 2 then
(if (g 78 (f_X7_cell a1 a4 y6_6).toNatClampNeg) = (-2147483648) then
(if (g 76 (f_X7_cell a1 a2 y6_6).toNatClampNeg) = (-2147483648) then
(if (g 78 (f_X7_cell a1 a4 y6_6).toNatClampNeg) = (-2147483648) then
lp_X7_couldBe_6 g a1 a2 a3 a4 n y6_5 (y6_6 + 1)
else
(if y6_5 = (-1) then
(if y6_5 = (-1) then
lp_X7_couldBe_6 g a1 a2 a3 a4 n y6_6 (y6_6 + 1)
else
lp_X7_couldBe_6 g a1 a2 a3 a4 n y6_5 (y6_6 + 1))
else
(if m_in (f_X7_cell a1 a4 y6_5) 288 then
(if m_in (f_X7_cell a1 a2 y6_5) 288 then
(if ((g 78 (f_X7_cell a1 a4 y6_6).toNatClampNeg) - (g 78 (f_X7_cell a1 a4 y6_5).toNatClampNeg)) = ((g 76 (f_X7_cell a1 a2 y6_6).toNatClampNeg) - (g 76 (f_X7_cell a1 a2 y6_5).toNatClampNeg)) then
(if y6_5 = (-1) then
lp_X7_couldBe_6 g a1 a2 a3 a4 n y6_6 (y6_6 + 1)
else
lp_X7_couldBe_6 g a1 a2 a3 a4 n y6_5 (y6_6 + 1))
else
some false) else none) else none)))
else
some false)
else
(if (g 76 (f_X7_cell a1 a2 y6_6).toNatClampNeg) = (-2147483648) then
some false
else
(if (g 78 (f_X7_cell a1 a4 y6_6).toNatClampNeg) = (-2147483648) then
lp_X7_couldBe_6 g a1 a2 a3 a4 n y6_5 (y6_6 + 1)
else
(if y6_5 = (-1) then
(if y6_5 = (-1) then
lp_X7_couldBe_6 g a1 a2 a3 a4 n y6_6 (y6_6 + 1)
else
lp_X7_couldBe_6 g a1 a2 a3 a4 n y6_5 (y6_6 + 1))
else
(if m_in (f_X7_cell a1 a4 y6_5) 288 then
(if m_in (f_X7_cell a1 a2 y6_5) 288 then
(if ((g 78 (f_X7_cell a1 a4 y6_6).toNatClampNeg) - (g 78 (f_X7_cell a1 a4 y6_5).toNatClampNeg)) = ((g 76 (f_X7_cell a1 a2 y6_6).toNatClampNeg) - (g 76 (f_X7_cell a1 a2 y6_5).toNatClampNeg)) then
(if y6_5 = (-1) then
lp_X7_couldBe_6 g a1 a2 a3 a4 n y6_6 (y6_6 + 1)
else
lp_X7_couldBe_6 g a1 a2 a3 a4 n y6_5 (y6_6 + 1))
else
some false) else none) else none)))))
else
lp_X7_couldBe_6 g a1 a2 a3 a4 n y6_5 (y6_6 + 1)) else none)
else
some false) else none)
else
(if m_in ((6 * a1) + y6_6) 24 then
(if (g 70 ((6 * a1) + y6_6).toNatClampNeg) = 2 then
(if m_in (f_X7_cell a1 a2 y6_6) 288 then
(if (g 78 (f_X7_cell a1 a4 y6_6).toNatClampNeg) = (-2147483648) then
(if (g 76 (f_X7_cell a1 a2 y6_6).toNatClampNeg) = (-2147483648) then
(if (g 78 (f_X7_cell a1 a4 y6_6).toNatClampNeg) = (-2147483648) then
lp_X7_couldBe_6 g a1 a2 a3 a4 n y6_5 (y6_6 + 1)
else
(if y6_5 = (-1) then
(if y6_5 = (-1) then
lp_X7_couldBe_6 g a1 a2 a3 a4 n y6_6 (y6_6 + 1)
else
lp_X7_couldBe_6 g a1 a2 a3 a4 n y6_5 (y6_6 + 1))
else
(if m_in (f_X7_cell a1 a4 y6_5) 288 then
(if m_in (f_X7_cell a1 a2 y6_5) 288 then
(if ((g 78 (f_X7_cell a1 a4 y6_6).toNatClampNeg) - (g 78 (f_X7_cell a1 a4 y6_5).toNatClampNeg)) = ((g 76 (f_X7_cell a1 a2 y6_6).toNatClampNeg) - (g 76 (f_X7_cell a1 a2 y6_5).toNatClampNeg)) then
(if y6_5 = (-1) then
lp_X7_couldBe_6 g a1 a2 a3 a4 n y6_6 (y6_6 + 1)
else
lp_X7_couldBe_6 g a1 a2 a3 a4 n y6_5 (y6_6 + 1))
else
some false) else none) else none)))
else
some false)
else
(if (g 76 (f_X7_cell a1 a2 y6_6).toNatClampNeg) = (-2147483648) then
some false
else
(if (g 78 (f_X7_cell a1 a4 y6_6).toNatClampNeg) = (-2147483648) then
lp_X7_couldBe_6 g a1 a2 a3 a4 n y6_5 (y6_6 + 1)
else
(if y6_5 = (-1) then
(if y6_5 = (-1) then
lp_X7_couldBe_6 g a1 a2 a3 a4 n y6_6 (y6_6 + 1)
else
lp_X7_couldBe_6 g a1 a2 a3 a4 n y6_5 (y6_6 + 1))
else
(if m_in (f_X7_cell a1 a4 y6_5) 288 then
(if m_in (f_X7_cell a1 a2 y6_5) 288 then
(if ((g 78 (f_X7_cell a1 a4 y6_6).toNatClampNeg) - (g 78 (f_X7_cell a1 a4 y6_5).toNatClampNeg)) = ((g 76 (f_X7_cell a1 a2 y6_6).toNatClampNeg) - (g 76 (f_X7_cell a1 a2 y6_5).toNatClampNeg)) then
(if y6_5 = (-1) then
lp_X7_couldBe_6 g a1 a2 a3 a4 n y6_6 (y6_6 + 1)
else
lp_X7_couldBe_6 g a1 a2 a3 a4 n y6_5 (y6_6 + 1))
else
some false) else none) else none))))) else none)
else
lp_X7_couldBe_6 g a1 a2 a3 a4 n y6_5 (y6_6 + 1)) else none))) else none))) else none)
def f_X7_couldBe (g : (Nat → Nat → Int32)) (a1 : Int32) (a2 : Int32) (a3 : Int32) (a4 : Int32) : Option Bool :=
  lp_X7_couldBe_6 g a1 a2 a3 a4 2000 (-1) 0
set_option maxRecDepth 100000 in
set_option maxHeartbeats 4000000 in
theorem w_X7_couldBe_6 {G : mG} {b : Bool} {g : (Nat → Nat → Int32)} {a1 : Int32} {a2 : Int32} {a3 : Int32} {a4 : Int32} : ∀ (n : Nat) (y6_5 : Int32) (y6_6 : Int32) (R : Bool), lp_X7_couldBe_6 g a1 a2 a3 a4 n y6_5 y6_6 = some R → MW G mX7_couldBe 1 0 0 6 [.ref 64, .int a1, .int a2, .int a3, .int a4, .int y6_5, .int y6_6, .retAddr 0, .retAddr 0] [] (m_h g b) (some (.int (m_bi R))) (m_h g b)
  | 0, _, _, R, e => absurd (show (none : Option Bool) = some R from e) (fun h => by cases h)
  | n + 1, y6_5, y6_6, R, e => by
    rw [lp_X7_couldBe_6] at e
    refine r_iload dX7_couldBe_6 rfl ?_
    refine r_aload_n dX7_couldBe_8 rfl rfl ?_
    refine q_getr dX7_couldBe_9 flX7_9 rfl rfl (m_fr_64_2 _) ?_
    refine r_iload_n dX7_couldBe_12 rfl rfl ?_
    obtain ⟨h6001, e⟩ := g_gd e
    refine q_iald dX7_couldBe_13 rfl h6001 ?_
    refine r_icmp_ge (tgt := 208) dX7_couldBe_14 (by decide) (fun h6002 => ?_) (fun h6002 => ?_)
    · have e := g_iT h6002 e
      refine r_iconst (x := 1) dX7_couldBe_208 (by decide) ?_
      have e := Option.some.inj e
      subst e
      exact r_ret dX7_couldBe_209 rfl rfl
    · have e := g_iF h6002 e
      refine r_iload_n dX7_couldBe_17 rfl rfl ?_
      refine r_iload dX7_couldBe_18 rfl ?_
      refine q_ishr dX7_couldBe_20 ?_
      refine r_iconst (x := 1) dX7_couldBe_21 (by decide) ?_
      refine r_iand dX7_couldBe_22 ?_
      refine r_if_ne (tgt := 29) dX7_couldBe_23 (by decide) (fun h6003 => ?_) (fun h6003 => ?_)
      · have e := g_iF h6003 e
        refine r_aload_n dX7_couldBe_29 rfl rfl ?_
        refine q_getr dX7_couldBe_30 flX7_51 rfl rfl (m_fr_64_17 _) ?_
        refine r_iload_n dX7_couldBe_33 rfl rfl ?_
        refine r_iload dX7_couldBe_34 rfl ?_
        refine r_iload dX7_couldBe_36 rfl ?_
        refine q_callS (rest := [.ref 78]) (c_X7_cell rfl) dX7_couldBe_38 lkX7_127 rfl rfl (Nat.le_of_ble_eq_true rfl) (by decide) ?_
        obtain ⟨h6004, e⟩ := g_gd e
        refine q_iald dX7_couldBe_41 rfl h6004 ?_
        refine r_istore dX7_couldBe_42 (by decide) rfl ?_
        refine r_aload_n dX7_couldBe_44 rfl rfl ?_
        refine r_iload_n dX7_couldBe_45 rfl rfl ?_
        refine r_iload dX7_couldBe_46 rfl ?_
        obtain ⟨v6005, h6006, e⟩ := g_bd e
        refine q_callV (rest := []) (c_X7_isPlain h6006) dX7_couldBe_48 lkX7_192 rfl rfl rfl rfl (Nat.le_of_ble_eq_true rfl) (by decide) ?_
        refine r_ifeqB (tgt := 73) dX7_couldBe_51 (by decide) (fun h6007 => ?_) (fun h6007 => ?_)
        · have e := g_cF h6007 e
          refine r_aload_n dX7_couldBe_73 rfl rfl ?_
          refine q_getr dX7_couldBe_74 flX7_27 rfl rfl (m_fr_64_7 _) ?_
          refine r_bipush (x := 6) dX7_couldBe_77 (by decide) ?_
          refine r_iload_n dX7_couldBe_79 rfl rfl ?_
          refine r_imul dX7_couldBe_80 ?_
          refine r_iload dX7_couldBe_81 rfl ?_
          refine r_iadd dX7_couldBe_83 ?_
          obtain ⟨h6008, e⟩ := g_gd e
          refine q_iald dX7_couldBe_84 rfl h6008 ?_
          refine r_iconst (x := 2) dX7_couldBe_85 (by decide) ?_
          refine r_icmp_eq (tgt := 92) dX7_couldBe_86 (by decide) (fun h6009 => ?_) (fun h6009 => ?_)
          · have e := g_iT h6009 e
            refine r_aload_n dX7_couldBe_92 rfl rfl ?_
            refine q_getr dX7_couldBe_93 flX7_45 rfl rfl (m_fr_64_14 _) ?_
            refine r_iload_n dX7_couldBe_96 rfl rfl ?_
            refine r_iload_n dX7_couldBe_97 rfl rfl ?_
            refine r_iload dX7_couldBe_98 rfl ?_
            refine q_callS (rest := [.ref 76]) (c_X7_cell rfl) dX7_couldBe_100 lkX7_127 rfl rfl (Nat.le_of_ble_eq_true rfl) (by decide) ?_
            obtain ⟨h6010, e⟩ := g_gd e
            refine q_iald dX7_couldBe_103 rfl h6010 ?_
            refine r_istore dX7_couldBe_104 (by decide) rfl ?_
            refine r_iload dX7_couldBe_106 rfl ?_
            refine r_ldc (x := (-2147483648)) dX7_couldBe_108 kcX7_119 ?_
            refine r_icmp_ne (tgt := 117) dX7_couldBe_110 (by decide) (fun h6011 => ?_) (fun h6011 => ?_)
            · have e := g_iF h6011 e
              refine r_iconst (x := 0) dX7_couldBe_117 (by decide) ?_
              refine r_iload dX7_couldBe_118 rfl ?_
              refine r_ldc (x := (-2147483648)) dX7_couldBe_120 kcX7_119 ?_
              refine r_icmp_ne (tgt := 129) dX7_couldBe_122 (by decide) (fun h6012 => ?_) (fun h6012 => ?_)
              · have e := g_iF h6012 e
                refine r_iconst (x := 0) dX7_couldBe_129 (by decide) ?_
                refine r_icmp_eq (tgt := 135) dX7_couldBe_130 (by decide) (fun _ => ?_) (fun hz => absurd hz (by decide))
                refine r_iload dX7_couldBe_135 rfl ?_
                refine r_ldc (x := (-2147483648)) dX7_couldBe_137 kcX7_119 ?_
                refine r_icmp_ne (tgt := 145) dX7_couldBe_139 (by decide) (fun h6013 => ?_) (fun h6013 => ?_)
                · have e := g_iF h6013 e
                  refine r_iload dX7_couldBe_145 rfl ?_
                  refine r_iconst (x := (-1)) dX7_couldBe_147 (by decide) ?_
                  refine r_icmp_eq (tgt := 187) dX7_couldBe_148 (by decide) (fun h6014 => ?_) (fun h6014 => ?_)
                  · have e := g_iT h6014 e
                    refine r_iload dX7_couldBe_187 rfl ?_
                    refine r_iconst (x := (-1)) dX7_couldBe_189 (by decide) ?_
                    refine r_icmp_ne (tgt := 198) dX7_couldBe_190 (by decide) (fun h6015 => ?_) (fun h6015 => ?_)
                    · have e := g_iF h6015 e
                      refine r_iload dX7_couldBe_198 rfl ?_
                      refine r_istore dX7_couldBe_200 (by decide) rfl ?_
                      refine r_iinc (y := 1) dX7_couldBe_202 rfl (by decide) (by decide) rfl ?_
                      refine r_goto (tgt := 6) dX7_couldBe_205 (by decide) ?_
                      refine r_forget 7 rfl ?_
                      refine r_forget 8 rfl ?_
                      exact w_X7_couldBe_6 n _ _ R e
                    · have e := g_iT h6015 e
                      refine r_iload dX7_couldBe_193 rfl ?_
                      refine r_goto (tgt := 200) dX7_couldBe_195 (by decide) ?_
                      refine r_istore dX7_couldBe_200 (by decide) rfl ?_
                      refine r_iinc (y := 1) dX7_couldBe_202 rfl (by decide) (by decide) rfl ?_
                      refine r_goto (tgt := 6) dX7_couldBe_205 (by decide) ?_
                      refine r_forget 7 rfl ?_
                      refine r_forget 8 rfl ?_
                      exact w_X7_couldBe_6 n _ _ R e
                  · have e := g_iF h6014 e
                    refine r_iload dX7_couldBe_151 rfl ?_
                    refine r_aload_n dX7_couldBe_153 rfl rfl ?_
                    refine q_getr dX7_couldBe_154 flX7_51 rfl rfl (m_fr_64_17 _) ?_
                    refine r_iload_n dX7_couldBe_157 rfl rfl ?_
                    refine r_iload dX7_couldBe_158 rfl ?_
                    refine r_iload dX7_couldBe_160 rfl ?_
                    refine q_callS (rest := [.ref 78, .int (g 78 (f_X7_cell a1 a4 y6_6).toNatClampNeg)]) (c_X7_cell rfl) dX7_couldBe_162 lkX7_127 rfl rfl (Nat.le_of_ble_eq_true rfl) (by decide) ?_
                    obtain ⟨h6016, e⟩ := g_gd e
                    refine q_iald dX7_couldBe_165 rfl h6016 ?_
                    refine r_isub dX7_couldBe_166 ?_
                    refine r_iload dX7_couldBe_167 rfl ?_
                    refine r_aload_n dX7_couldBe_169 rfl rfl ?_
                    refine q_getr dX7_couldBe_170 flX7_45 rfl rfl (m_fr_64_14 _) ?_
                    refine r_iload_n dX7_couldBe_173 rfl rfl ?_
                    refine r_iload_n dX7_couldBe_174 rfl rfl ?_
                    refine r_iload dX7_couldBe_175 rfl ?_
                    refine q_callS (rest := [.ref 76, .int (g 76 (f_X7_cell a1 a2 y6_6).toNatClampNeg), .int ((g 78 (f_X7_cell a1 a4 y6_6).toNatClampNeg) - (g 78 (f_X7_cell a1 a4 y6_5).toNatClampNeg))]) (c_X7_cell rfl) dX7_couldBe_177 lkX7_127 rfl rfl (Nat.le_of_ble_eq_true rfl) (by decide) ?_
                    obtain ⟨h6017, e⟩ := g_gd e
                    refine q_iald dX7_couldBe_180 rfl h6017 ?_
                    refine r_isub dX7_couldBe_181 ?_
                    refine r_icmp_eq (tgt := 187) dX7_couldBe_182 (by decide) (fun h6018 => ?_) (fun h6018 => ?_)
                    · have e := g_iT h6018 e
                      refine r_iload dX7_couldBe_187 rfl ?_
                      refine r_iconst (x := (-1)) dX7_couldBe_189 (by decide) ?_
                      refine r_icmp_ne (tgt := 198) dX7_couldBe_190 (by decide) (fun h6019 => ?_) (fun h6019 => ?_)
                      · have e := g_iF h6019 e
                        refine r_iload dX7_couldBe_198 rfl ?_
                        refine r_istore dX7_couldBe_200 (by decide) rfl ?_
                        refine r_iinc (y := 1) dX7_couldBe_202 rfl (by decide) (by decide) rfl ?_
                        refine r_goto (tgt := 6) dX7_couldBe_205 (by decide) ?_
                        refine r_forget 7 rfl ?_
                        refine r_forget 8 rfl ?_
                        exact w_X7_couldBe_6 n _ _ R e
                      · have e := g_iT h6019 e
                        refine r_iload dX7_couldBe_193 rfl ?_
                        refine r_goto (tgt := 200) dX7_couldBe_195 (by decide) ?_
                        refine r_istore dX7_couldBe_200 (by decide) rfl ?_
                        refine r_iinc (y := 1) dX7_couldBe_202 rfl (by decide) (by decide) rfl ?_
                        refine r_goto (tgt := 6) dX7_couldBe_205 (by decide) ?_
                        refine r_forget 7 rfl ?_
                        refine r_forget 8 rfl ?_
                        exact w_X7_couldBe_6 n _ _ R e
                    · have e := g_iF h6018 e
                      refine r_iconst (x := 0) dX7_couldBe_185 (by decide) ?_
                      have e := Option.some.inj e
                      subst e
                      exact r_ret dX7_couldBe_186 rfl rfl
                · have e := g_iT h6013 e
                  refine r_goto (tgt := 202) dX7_couldBe_142 (by decide) ?_
                  refine r_iinc (y := 1) dX7_couldBe_202 rfl (by decide) (by decide) rfl ?_
                  refine r_goto (tgt := 6) dX7_couldBe_205 (by decide) ?_
                  refine r_forget 7 rfl ?_
                  refine r_forget 8 rfl ?_
                  exact w_X7_couldBe_6 n _ _ R e
              · have e := g_iT h6012 e
                refine r_iconst (x := 1) dX7_couldBe_125 (by decide) ?_
                refine r_goto (tgt := 130) dX7_couldBe_126 (by decide) ?_
                refine r_icmp_eq (tgt := 135) dX7_couldBe_130 (by decide) (fun hz => absurd hz (by decide)) (fun _ => ?_)
                refine r_iconst (x := 0) dX7_couldBe_133 (by decide) ?_
                have e := Option.some.inj e
                subst e
                exact r_ret dX7_couldBe_134 rfl rfl
            · have e := g_iT h6011 e
              refine r_iconst (x := 1) dX7_couldBe_113 (by decide) ?_
              refine r_goto (tgt := 118) dX7_couldBe_114 (by decide) ?_
              refine r_iload dX7_couldBe_118 rfl ?_
              refine r_ldc (x := (-2147483648)) dX7_couldBe_120 kcX7_119 ?_
              refine r_icmp_ne (tgt := 129) dX7_couldBe_122 (by decide) (fun h6020 => ?_) (fun h6020 => ?_)
              · have e := g_iF h6020 e
                refine r_iconst (x := 0) dX7_couldBe_129 (by decide) ?_
                refine r_icmp_eq (tgt := 135) dX7_couldBe_130 (by decide) (fun hz => absurd hz (by decide)) (fun _ => ?_)
                refine r_iconst (x := 0) dX7_couldBe_133 (by decide) ?_
                have e := Option.some.inj e
                subst e
                exact r_ret dX7_couldBe_134 rfl rfl
              · have e := g_iT h6020 e
                refine r_iconst (x := 1) dX7_couldBe_125 (by decide) ?_
                refine r_goto (tgt := 130) dX7_couldBe_126 (by decide) ?_
                refine r_icmp_eq (tgt := 135) dX7_couldBe_130 (by decide) (fun _ => ?_) (fun hz => absurd hz (by decide))
                refine r_iload dX7_couldBe_135 rfl ?_
                refine r_ldc (x := (-2147483648)) dX7_couldBe_137 kcX7_119 ?_
                refine r_icmp_ne (tgt := 145) dX7_couldBe_139 (by decide) (fun h6021 => ?_) (fun h6021 => ?_)
                · have e := g_iF h6021 e
                  refine r_iload dX7_couldBe_145 rfl ?_
                  refine r_iconst (x := (-1)) dX7_couldBe_147 (by decide) ?_
                  refine r_icmp_eq (tgt := 187) dX7_couldBe_148 (by decide) (fun h6022 => ?_) (fun h6022 => ?_)
                  · have e := g_iT h6022 e
                    refine r_iload dX7_couldBe_187 rfl ?_
                    refine r_iconst (x := (-1)) dX7_couldBe_189 (by decide) ?_
                    refine r_icmp_ne (tgt := 198) dX7_couldBe_190 (by decide) (fun h6023 => ?_) (fun h6023 => ?_)
                    · have e := g_iF h6023 e
                      refine r_iload dX7_couldBe_198 rfl ?_
                      refine r_istore dX7_couldBe_200 (by decide) rfl ?_
                      refine r_iinc (y := 1) dX7_couldBe_202 rfl (by decide) (by decide) rfl ?_
                      refine r_goto (tgt := 6) dX7_couldBe_205 (by decide) ?_
                      refine r_forget 7 rfl ?_
                      refine r_forget 8 rfl ?_
                      exact w_X7_couldBe_6 n _ _ R e
                    · have e := g_iT h6023 e
                      refine r_iload dX7_couldBe_193 rfl ?_
                      refine r_goto (tgt := 200) dX7_couldBe_195 (by decide) ?_
                      refine r_istore dX7_couldBe_200 (by decide) rfl ?_
                      refine r_iinc (y := 1) dX7_couldBe_202 rfl (by decide) (by decide) rfl ?_
                      refine r_goto (tgt := 6) dX7_couldBe_205 (by decide) ?_
                      refine r_forget 7 rfl ?_
                      refine r_forget 8 rfl ?_
                      exact w_X7_couldBe_6 n _ _ R e
                  · have e := g_iF h6022 e
                    refine r_iload dX7_couldBe_151 rfl ?_
                    refine r_aload_n dX7_couldBe_153 rfl rfl ?_
                    refine q_getr dX7_couldBe_154 flX7_51 rfl rfl (m_fr_64_17 _) ?_
                    refine r_iload_n dX7_couldBe_157 rfl rfl ?_
                    refine r_iload dX7_couldBe_158 rfl ?_
                    refine r_iload dX7_couldBe_160 rfl ?_
                    refine q_callS (rest := [.ref 78, .int (g 78 (f_X7_cell a1 a4 y6_6).toNatClampNeg)]) (c_X7_cell rfl) dX7_couldBe_162 lkX7_127 rfl rfl (Nat.le_of_ble_eq_true rfl) (by decide) ?_
                    obtain ⟨h6024, e⟩ := g_gd e
                    refine q_iald dX7_couldBe_165 rfl h6024 ?_
                    refine r_isub dX7_couldBe_166 ?_
                    refine r_iload dX7_couldBe_167 rfl ?_
                    refine r_aload_n dX7_couldBe_169 rfl rfl ?_
                    refine q_getr dX7_couldBe_170 flX7_45 rfl rfl (m_fr_64_14 _) ?_
                    refine r_iload_n dX7_couldBe_173 rfl rfl ?_
                    refine r_iload_n dX7_couldBe_174 rfl rfl ?_
                    refine r_iload dX7_couldBe_175 rfl ?_
                    refine q_callS (rest := [.ref 76, .int (g 76 (f_X7_cell a1 a2 y6_6).toNatClampNeg), .int ((g 78 (f_X7_cell a1 a4 y6_6).toNatClampNeg) - (g 78 (f_X7_cell a1 a4 y6_5).toNatClampNeg))]) (c_X7_cell rfl) dX7_couldBe_177 lkX7_127 rfl rfl (Nat.le_of_ble_eq_true rfl) (by decide) ?_
                    obtain ⟨h6025, e⟩ := g_gd e
                    refine q_iald dX7_couldBe_180 rfl h6025 ?_
                    refine r_isub dX7_couldBe_181 ?_
                    refine r_icmp_eq (tgt := 187) dX7_couldBe_182 (by decide) (fun h6026 => ?_) (fun h6026 => ?_)
                    · have e := g_iT h6026 e
                      refine r_iload dX7_couldBe_187 rfl ?_
                      refine r_iconst (x := (-1)) dX7_couldBe_189 (by decide) ?_
                      refine r_icmp_ne (tgt := 198) dX7_couldBe_190 (by decide) (fun h6027 => ?_) (fun h6027 => ?_)
                      · have e := g_iF h6027 e
                        refine r_iload dX7_couldBe_198 rfl ?_
                        refine r_istore dX7_couldBe_200 (by decide) rfl ?_
                        refine r_iinc (y := 1) dX7_couldBe_202 rfl (by decide) (by decide) rfl ?_
                        refine r_goto (tgt := 6) dX7_couldBe_205 (by decide) ?_
                        refine r_forget 7 rfl ?_
                        refine r_forget 8 rfl ?_
                        exact w_X7_couldBe_6 n _ _ R e
                      · have e := g_iT h6027 e
                        refine r_iload dX7_couldBe_193 rfl ?_
                        refine r_goto (tgt := 200) dX7_couldBe_195 (by decide) ?_
                        refine r_istore dX7_couldBe_200 (by decide) rfl ?_
                        refine r_iinc (y := 1) dX7_couldBe_202 rfl (by decide) (by decide) rfl ?_
                        refine r_goto (tgt := 6) dX7_couldBe_205 (by decide) ?_
                        refine r_forget 7 rfl ?_
                        refine r_forget 8 rfl ?_
                        exact w_X7_couldBe_6 n _ _ R e
                    · have e := g_iF h6026 e
                      refine r_iconst (x := 0) dX7_couldBe_185 (by decide) ?_
                      have e := Option.some.inj e
                      subst e
                      exact r_ret dX7_couldBe_186 rfl rfl
                · have e := g_iT h6021 e
                  refine r_goto (tgt := 202) dX7_couldBe_142 (by decide) ?_
                  refine r_iinc (y := 1) dX7_couldBe_202 rfl (by decide) (by decide) rfl ?_
                  refine r_goto (tgt := 6) dX7_couldBe_205 (by decide) ?_
                  refine r_forget 7 rfl ?_
                  refine r_forget 8 rfl ?_
                  exact w_X7_couldBe_6 n _ _ R e
          · have e := g_iF h6009 e
            refine r_goto (tgt := 202) dX7_couldBe_89 (by decide) ?_
            refine r_iinc (y := 1) dX7_couldBe_202 rfl (by decide) (by decide) rfl ?_
            refine r_goto (tgt := 6) dX7_couldBe_205 (by decide) ?_
            refine r_forget 7 rfl ?_
            exact w_X7_couldBe_6 n _ _ R e
        · have e := g_cT h6007 e
          refine r_iload dX7_couldBe_54 rfl ?_
          refine r_aload_n dX7_couldBe_56 rfl rfl ?_
          refine q_getr dX7_couldBe_57 flX7_51 rfl rfl (m_fr_64_17 _) ?_
          refine r_iload_n dX7_couldBe_60 rfl rfl ?_
          refine r_iload_n dX7_couldBe_61 rfl rfl ?_
          refine r_iload dX7_couldBe_62 rfl ?_
          refine q_callS (rest := [.ref 78, .int (g 78 (f_X7_cell a1 a4 y6_6).toNatClampNeg)]) (c_X7_cell rfl) dX7_couldBe_64 lkX7_127 rfl rfl (Nat.le_of_ble_eq_true rfl) (by decide) ?_
          obtain ⟨h6028, e⟩ := g_gd e
          refine q_iald dX7_couldBe_67 rfl h6028 ?_
          refine r_icmp_eq (tgt := 73) dX7_couldBe_68 (by decide) (fun h6029 => ?_) (fun h6029 => ?_)
          · have e := g_iT h6029 e
            refine r_aload_n dX7_couldBe_73 rfl rfl ?_
            refine q_getr dX7_couldBe_74 flX7_27 rfl rfl (m_fr_64_7 _) ?_
            refine r_bipush (x := 6) dX7_couldBe_77 (by decide) ?_
            refine r_iload_n dX7_couldBe_79 rfl rfl ?_
            refine r_imul dX7_couldBe_80 ?_
            refine r_iload dX7_couldBe_81 rfl ?_
            refine r_iadd dX7_couldBe_83 ?_
            obtain ⟨h6030, e⟩ := g_gd e
            refine q_iald dX7_couldBe_84 rfl h6030 ?_
            refine r_iconst (x := 2) dX7_couldBe_85 (by decide) ?_
            refine r_icmp_eq (tgt := 92) dX7_couldBe_86 (by decide) (fun h6031 => ?_) (fun h6031 => ?_)
            · have e := g_iT h6031 e
              refine r_aload_n dX7_couldBe_92 rfl rfl ?_
              refine q_getr dX7_couldBe_93 flX7_45 rfl rfl (m_fr_64_14 _) ?_
              refine r_iload_n dX7_couldBe_96 rfl rfl ?_
              refine r_iload_n dX7_couldBe_97 rfl rfl ?_
              refine r_iload dX7_couldBe_98 rfl ?_
              refine q_callS (rest := [.ref 76]) (c_X7_cell rfl) dX7_couldBe_100 lkX7_127 rfl rfl (Nat.le_of_ble_eq_true rfl) (by decide) ?_
              refine q_iald dX7_couldBe_103 rfl h6028 ?_
              refine r_istore dX7_couldBe_104 (by decide) rfl ?_
              refine r_iload dX7_couldBe_106 rfl ?_
              refine r_ldc (x := (-2147483648)) dX7_couldBe_108 kcX7_119 ?_
              refine r_icmp_ne (tgt := 117) dX7_couldBe_110 (by decide) (fun h6032 => ?_) (fun h6032 => ?_)
              · have e := g_iF h6032 e
                refine r_iconst (x := 0) dX7_couldBe_117 (by decide) ?_
                refine r_iload dX7_couldBe_118 rfl ?_
                refine r_ldc (x := (-2147483648)) dX7_couldBe_120 kcX7_119 ?_
                refine r_icmp_ne (tgt := 129) dX7_couldBe_122 (by decide) (fun h6033 => ?_) (fun h6033 => ?_)
                · have e := g_iF h6033 e
                  refine r_iconst (x := 0) dX7_couldBe_129 (by decide) ?_
                  refine r_icmp_eq (tgt := 135) dX7_couldBe_130 (by decide) (fun _ => ?_) (fun hz => absurd hz (by decide))
                  refine r_iload dX7_couldBe_135 rfl ?_
                  refine r_ldc (x := (-2147483648)) dX7_couldBe_137 kcX7_119 ?_
                  refine r_icmp_ne (tgt := 145) dX7_couldBe_139 (by decide) (fun h6034 => ?_) (fun h6034 => ?_)
                  · have e := g_iF h6034 e
                    refine r_iload dX7_couldBe_145 rfl ?_
                    refine r_iconst (x := (-1)) dX7_couldBe_147 (by decide) ?_
                    refine r_icmp_eq (tgt := 187) dX7_couldBe_148 (by decide) (fun h6035 => ?_) (fun h6035 => ?_)
                    · have e := g_iT h6035 e
                      refine r_iload dX7_couldBe_187 rfl ?_
                      refine r_iconst (x := (-1)) dX7_couldBe_189 (by decide) ?_
                      refine r_icmp_ne (tgt := 198) dX7_couldBe_190 (by decide) (fun h6036 => ?_) (fun h6036 => ?_)
                      · have e := g_iF h6036 e
                        refine r_iload dX7_couldBe_198 rfl ?_
                        refine r_istore dX7_couldBe_200 (by decide) rfl ?_
                        refine r_iinc (y := 1) dX7_couldBe_202 rfl (by decide) (by decide) rfl ?_
                        refine r_goto (tgt := 6) dX7_couldBe_205 (by decide) ?_
                        refine r_forget 7 rfl ?_
                        refine r_forget 8 rfl ?_
                        exact w_X7_couldBe_6 n _ _ R e
                      · have e := g_iT h6036 e
                        refine r_iload dX7_couldBe_193 rfl ?_
                        refine r_goto (tgt := 200) dX7_couldBe_195 (by decide) ?_
                        refine r_istore dX7_couldBe_200 (by decide) rfl ?_
                        refine r_iinc (y := 1) dX7_couldBe_202 rfl (by decide) (by decide) rfl ?_
                        refine r_goto (tgt := 6) dX7_couldBe_205 (by decide) ?_
                        refine r_forget 7 rfl ?_
                        refine r_forget 8 rfl ?_
                        exact w_X7_couldBe_6 n _ _ R e
                    · have e := g_iF h6035 e
                      refine r_iload dX7_couldBe_151 rfl ?_
                      refine r_aload_n dX7_couldBe_153 rfl rfl ?_
                      refine q_getr dX7_couldBe_154 flX7_51 rfl rfl (m_fr_64_17 _) ?_
                      refine r_iload_n dX7_couldBe_157 rfl rfl ?_
                      refine r_iload dX7_couldBe_158 rfl ?_
                      refine r_iload dX7_couldBe_160 rfl ?_
                      refine q_callS (rest := [.ref 78, .int (g 78 (f_X7_cell a1 a4 y6_6).toNatClampNeg)]) (c_X7_cell rfl) dX7_couldBe_162 lkX7_127 rfl rfl (Nat.le_of_ble_eq_true rfl) (by decide) ?_
                      obtain ⟨h6037, e⟩ := g_gd e
                      refine q_iald dX7_couldBe_165 rfl h6037 ?_
                      refine r_isub dX7_couldBe_166 ?_
                      refine r_iload dX7_couldBe_167 rfl ?_
                      refine r_aload_n dX7_couldBe_169 rfl rfl ?_
                      refine q_getr dX7_couldBe_170 flX7_45 rfl rfl (m_fr_64_14 _) ?_
                      refine r_iload_n dX7_couldBe_173 rfl rfl ?_
                      refine r_iload_n dX7_couldBe_174 rfl rfl ?_
                      refine r_iload dX7_couldBe_175 rfl ?_
                      refine q_callS (rest := [.ref 76, .int (g 76 (f_X7_cell a1 a2 y6_6).toNatClampNeg), .int ((g 78 (f_X7_cell a1 a4 y6_6).toNatClampNeg) - (g 78 (f_X7_cell a1 a4 y6_5).toNatClampNeg))]) (c_X7_cell rfl) dX7_couldBe_177 lkX7_127 rfl rfl (Nat.le_of_ble_eq_true rfl) (by decide) ?_
                      obtain ⟨h6038, e⟩ := g_gd e
                      refine q_iald dX7_couldBe_180 rfl h6038 ?_
                      refine r_isub dX7_couldBe_181 ?_
                      refine r_icmp_eq (tgt := 187) dX7_couldBe_182 (by decide) (fun h6039 => ?_) (fun h6039 => ?_)
                      · have e := g_iT h6039 e
                        refine r_iload dX7_couldBe_187 rfl ?_
                        refine r_iconst (x := (-1)) dX7_couldBe_189 (by decide) ?_
                        refine r_icmp_ne (tgt := 198) dX7_couldBe_190 (by decide) (fun h6040 => ?_) (fun h6040 => ?_)
                        · have e := g_iF h6040 e
                          refine r_iload dX7_couldBe_198 rfl ?_
                          refine r_istore dX7_couldBe_200 (by decide) rfl ?_
                          refine r_iinc (y := 1) dX7_couldBe_202 rfl (by decide) (by decide) rfl ?_
                          refine r_goto (tgt := 6) dX7_couldBe_205 (by decide) ?_
                          refine r_forget 7 rfl ?_
                          refine r_forget 8 rfl ?_
                          exact w_X7_couldBe_6 n _ _ R e
                        · have e := g_iT h6040 e
                          refine r_iload dX7_couldBe_193 rfl ?_
                          refine r_goto (tgt := 200) dX7_couldBe_195 (by decide) ?_
                          refine r_istore dX7_couldBe_200 (by decide) rfl ?_
                          refine r_iinc (y := 1) dX7_couldBe_202 rfl (by decide) (by decide) rfl ?_
                          refine r_goto (tgt := 6) dX7_couldBe_205 (by decide) ?_
                          refine r_forget 7 rfl ?_
                          refine r_forget 8 rfl ?_
                          exact w_X7_couldBe_6 n _ _ R e
                      · have e := g_iF h6039 e
                        refine r_iconst (x := 0) dX7_couldBe_185 (by decide) ?_
                        have e := Option.some.inj e
                        subst e
                        exact r_ret dX7_couldBe_186 rfl rfl
                  · have e := g_iT h6034 e
                    refine r_goto (tgt := 202) dX7_couldBe_142 (by decide) ?_
                    refine r_iinc (y := 1) dX7_couldBe_202 rfl (by decide) (by decide) rfl ?_
                    refine r_goto (tgt := 6) dX7_couldBe_205 (by decide) ?_
                    refine r_forget 7 rfl ?_
                    refine r_forget 8 rfl ?_
                    exact w_X7_couldBe_6 n _ _ R e
                · have e := g_iT h6033 e
                  refine r_iconst (x := 1) dX7_couldBe_125 (by decide) ?_
                  refine r_goto (tgt := 130) dX7_couldBe_126 (by decide) ?_
                  refine r_icmp_eq (tgt := 135) dX7_couldBe_130 (by decide) (fun hz => absurd hz (by decide)) (fun _ => ?_)
                  refine r_iconst (x := 0) dX7_couldBe_133 (by decide) ?_
                  have e := Option.some.inj e
                  subst e
                  exact r_ret dX7_couldBe_134 rfl rfl
              · have e := g_iT h6032 e
                refine r_iconst (x := 1) dX7_couldBe_113 (by decide) ?_
                refine r_goto (tgt := 118) dX7_couldBe_114 (by decide) ?_
                refine r_iload dX7_couldBe_118 rfl ?_
                refine r_ldc (x := (-2147483648)) dX7_couldBe_120 kcX7_119 ?_
                refine r_icmp_ne (tgt := 129) dX7_couldBe_122 (by decide) (fun h6041 => ?_) (fun h6041 => ?_)
                · have e := g_iF h6041 e
                  refine r_iconst (x := 0) dX7_couldBe_129 (by decide) ?_
                  refine r_icmp_eq (tgt := 135) dX7_couldBe_130 (by decide) (fun hz => absurd hz (by decide)) (fun _ => ?_)
                  refine r_iconst (x := 0) dX7_couldBe_133 (by decide) ?_
                  have e := Option.some.inj e
                  subst e
                  exact r_ret dX7_couldBe_134 rfl rfl
                · have e := g_iT h6041 e
                  refine r_iconst (x := 1) dX7_couldBe_125 (by decide) ?_
                  refine r_goto (tgt := 130) dX7_couldBe_126 (by decide) ?_
                  refine r_icmp_eq (tgt := 135) dX7_couldBe_130 (by decide) (fun _ => ?_) (fun hz => absurd hz (by decide))
                  refine r_iload dX7_couldBe_135 rfl ?_
                  refine r_ldc (x := (-2147483648)) dX7_couldBe_137 kcX7_119 ?_
                  refine r_icmp_ne (tgt := 145) dX7_couldBe_139 (by decide) (fun h6042 => ?_) (fun h6042 => ?_)
                  · have e := g_iF h6042 e
                    refine r_iload dX7_couldBe_145 rfl ?_
                    refine r_iconst (x := (-1)) dX7_couldBe_147 (by decide) ?_
                    refine r_icmp_eq (tgt := 187) dX7_couldBe_148 (by decide) (fun h6043 => ?_) (fun h6043 => ?_)
                    · have e := g_iT h6043 e
                      refine r_iload dX7_couldBe_187 rfl ?_
                      refine r_iconst (x := (-1)) dX7_couldBe_189 (by decide) ?_
                      refine r_icmp_ne (tgt := 198) dX7_couldBe_190 (by decide) (fun h6044 => ?_) (fun h6044 => ?_)
                      · have e := g_iF h6044 e
                        refine r_iload dX7_couldBe_198 rfl ?_
                        refine r_istore dX7_couldBe_200 (by decide) rfl ?_
                        refine r_iinc (y := 1) dX7_couldBe_202 rfl (by decide) (by decide) rfl ?_
                        refine r_goto (tgt := 6) dX7_couldBe_205 (by decide) ?_
                        refine r_forget 7 rfl ?_
                        refine r_forget 8 rfl ?_
                        exact w_X7_couldBe_6 n _ _ R e
                      · have e := g_iT h6044 e
                        refine r_iload dX7_couldBe_193 rfl ?_
                        refine r_goto (tgt := 200) dX7_couldBe_195 (by decide) ?_
                        refine r_istore dX7_couldBe_200 (by decide) rfl ?_
                        refine r_iinc (y := 1) dX7_couldBe_202 rfl (by decide) (by decide) rfl ?_
                        refine r_goto (tgt := 6) dX7_couldBe_205 (by decide) ?_
                        refine r_forget 7 rfl ?_
                        refine r_forget 8 rfl ?_
                        exact w_X7_couldBe_6 n _ _ R e
                    · have e := g_iF h6043 e
                      refine r_iload dX7_couldBe_151 rfl ?_
                      refine r_aload_n dX7_couldBe_153 rfl rfl ?_
                      refine q_getr dX7_couldBe_154 flX7_51 rfl rfl (m_fr_64_17 _) ?_
                      refine r_iload_n dX7_couldBe_157 rfl rfl ?_
                      refine r_iload dX7_couldBe_158 rfl ?_
                      refine r_iload dX7_couldBe_160 rfl ?_
                      refine q_callS (rest := [.ref 78, .int (g 78 (f_X7_cell a1 a4 y6_6).toNatClampNeg)]) (c_X7_cell rfl) dX7_couldBe_162 lkX7_127 rfl rfl (Nat.le_of_ble_eq_true rfl) (by decide) ?_
                      obtain ⟨h6045, e⟩ := g_gd e
                      refine q_iald dX7_couldBe_165 rfl h6045 ?_
                      refine r_isub dX7_couldBe_166 ?_
                      refine r_iload dX7_couldBe_167 rfl ?_
                      refine r_aload_n dX7_couldBe_169 rfl rfl ?_
                      refine q_getr dX7_couldBe_170 flX7_45 rfl rfl (m_fr_64_14 _) ?_
                      refine r_iload_n dX7_couldBe_173 rfl rfl ?_
                      refine r_iload_n dX7_couldBe_174 rfl rfl ?_
                      refine r_iload dX7_couldBe_175 rfl ?_
                      refine q_callS (rest := [.ref 76, .int (g 76 (f_X7_cell a1 a2 y6_6).toNatClampNeg), .int ((g 78 (f_X7_cell a1 a4 y6_6).toNatClampNeg) - (g 78 (f_X7_cell a1 a4 y6_5).toNatClampNeg))]) (c_X7_cell rfl) dX7_couldBe_177 lkX7_127 rfl rfl (Nat.le_of_ble_eq_true rfl) (by decide) ?_
                      obtain ⟨h6046, e⟩ := g_gd e
                      refine q_iald dX7_couldBe_180 rfl h6046 ?_
                      refine r_isub dX7_couldBe_181 ?_
                      refine r_icmp_eq (tgt := 187) dX7_couldBe_182 (by decide) (fun h6047 => ?_) (fun h6047 => ?_)
                      · have e := g_iT h6047 e
                        refine r_iload dX7_couldBe_187 rfl ?_
                        refine r_iconst (x := (-1)) dX7_couldBe_189 (by decide) ?_
                        refine r_icmp_ne (tgt := 198) dX7_couldBe_190 (by decide) (fun h6048 => ?_) (fun h6048 => ?_)
                        · have e := g_iF h6048 e
                          refine r_iload dX7_couldBe_198 rfl ?_
                          refine r_istore dX7_couldBe_200 (by decide) rfl ?_
                          refine r_iinc (y := 1) dX7_couldBe_202 rfl (by decide) (by decide) rfl ?_
                          refine r_goto (tgt := 6) dX7_couldBe_205 (by decide) ?_
                          refine r_forget 7 rfl ?_
                          refine r_forget 8 rfl ?_
                          exact w_X7_couldBe_6 n _ _ R e
                        · have e := g_iT h6048 e
                          refine r_iload dX7_couldBe_193 rfl ?_
                          refine r_goto (tgt := 200) dX7_couldBe_195 (by decide) ?_
                          refine r_istore dX7_couldBe_200 (by decide) rfl ?_
                          refine r_iinc (y := 1) dX7_couldBe_202 rfl (by decide) (by decide) rfl ?_
                          refine r_goto (tgt := 6) dX7_couldBe_205 (by decide) ?_
                          refine r_forget 7 rfl ?_
                          refine r_forget 8 rfl ?_
                          exact w_X7_couldBe_6 n _ _ R e
                      · have e := g_iF h6047 e
                        refine r_iconst (x := 0) dX7_couldBe_185 (by decide) ?_
                        have e := Option.some.inj e
                        subst e
                        exact r_ret dX7_couldBe_186 rfl rfl
                  · have e := g_iT h6042 e
                    refine r_goto (tgt := 202) dX7_couldBe_142 (by decide) ?_
                    refine r_iinc (y := 1) dX7_couldBe_202 rfl (by decide) (by decide) rfl ?_
                    refine r_goto (tgt := 6) dX7_couldBe_205 (by decide) ?_
                    refine r_forget 7 rfl ?_
                    refine r_forget 8 rfl ?_
                    exact w_X7_couldBe_6 n _ _ R e
            · have e := g_iF h6031 e
              refine r_goto (tgt := 202) dX7_couldBe_89 (by decide) ?_
              refine r_iinc (y := 1) dX7_couldBe_202 rfl (by decide) (by decide) rfl ?_
              refine r_goto (tgt := 6) dX7_couldBe_205 (by decide) ?_
              refine r_forget 7 rfl ?_
              exact w_X7_couldBe_6 n _ _ R e
          · have e := g_iF h6029 e
            refine r_iconst (x := 0) dX7_couldBe_71 (by decide) ?_
            have e := Option.some.inj e
            subst e
            exact r_ret dX7_couldBe_72 rfl rfl
      · have e := g_iT h6003 e
        refine r_goto (tgt := 202) dX7_couldBe_26 (by decide) ?_
        refine r_iinc (y := 1) dX7_couldBe_202 rfl (by decide) (by decide) rfl ?_
        refine r_goto (tgt := 6) dX7_couldBe_205 (by decide) ?_
        exact w_X7_couldBe_6 n _ _ R e
set_option maxRecDepth 100000 in
set_option maxHeartbeats 4000000 in
theorem c_X7_couldBe {G : mG} {g : (Nat → Nat → Int32)} {b : Bool} {a1 : Int32} {a2 : Int32} {a3 : Int32} {a4 : Int32} {R : Bool} (e : f_X7_couldBe g a1 a2 a3 a4 = some R) : MC G mX7_couldBe 1 0 0 [.ref 64, .int a1, .int a2, .int a3, .int a4] (m_h g b) (some (.int (m_bi R))) (m_h g b) := by
  refine MC_intro mlX7_couldBe (Nat.le_of_ble_eq_true rfl) (m_okZ _) rfl trivial ?_
  unfold f_X7_couldBe at e
  refine r_iconst (x := (-1)) dX7_couldBe_0 (by decide) ?_
  refine r_istore dX7_couldBe_1 (by decide) rfl ?_
  refine r_iconst (x := 0) dX7_couldBe_3 (by decide) ?_
  refine r_istore dX7_couldBe_4 (by decide) rfl ?_
  exact w_X7_couldBe_6 2000 _ _ R e
/-! X7_couldOf -/
def lp_X7_couldOf_6 (g : (Nat → Nat → Int32)) (a1 : Int32) (a2 : Int32) (a3 : Int32) : Nat → Int32 → Int32 → Option Int32
  | 0, _, _ => none
  | n + 1, y6_4, y6_5 =>
  (if m_in a1 4 then
(if (g 66 a1.toNatClampNeg) ≤ y6_5 then
some y6_4
else
((f_X7_couldBe g a1 a2 a3 y6_5).bind fun v6003 =>
(bif v6003 then
lp_X7_couldOf_6 g a1 a2 a3 n (y6_4 + 1) (y6_5 + 1)
else
lp_X7_couldOf_6 g a1 a2 a3 n (y6_4 + 0) (y6_5 + 1)))) else none)
def f_X7_couldOf (g : (Nat → Nat → Int32)) (a1 : Int32) (a2 : Int32) (a3 : Int32) : Option Int32 :=
  lp_X7_couldOf_6 g a1 a2 a3 2000 0 0
set_option maxRecDepth 100000 in
set_option maxHeartbeats 4000000 in
theorem w_X7_couldOf_6 {G : mG} {b : Bool} {g : (Nat → Nat → Int32)} {a1 : Int32} {a2 : Int32} {a3 : Int32} : ∀ (n : Nat) (y6_4 : Int32) (y6_5 : Int32) (R : Int32), lp_X7_couldOf_6 g a1 a2 a3 n y6_4 y6_5 = some R → MW G mX7_couldOf 2 0 0 6 [.ref 64, .int a1, .int a2, .int a3, .int y6_4, .int y6_5] [] (m_h g b) (some (.int R)) (m_h g b)
  | 0, _, _, R, e => absurd (show (none : Option Int32) = some R from e) (fun h => by cases h)
  | n + 1, y6_4, y6_5, R, e => by
    rw [lp_X7_couldOf_6] at e
    refine r_iload dX7_couldOf_6 rfl ?_
    refine r_aload_n dX7_couldOf_8 rfl rfl ?_
    refine q_getr dX7_couldOf_9 flX7_15 rfl rfl (m_fr_64_3 _) ?_
    refine r_iload_n dX7_couldOf_12 rfl rfl ?_
    obtain ⟨h6001, e⟩ := g_gd e
    refine q_iald dX7_couldOf_13 rfl h6001 ?_
    refine r_icmp_ge (tgt := 45) dX7_couldOf_14 (by decide) (fun h6002 => ?_) (fun h6002 => ?_)
    · have e := g_iT h6002 e
      refine r_iload dX7_couldOf_45 rfl ?_
      have e := Option.some.inj e
      subst e
      exact r_ret dX7_couldOf_47 rfl rfl
    · have e := g_iF h6002 e
      refine r_iload dX7_couldOf_17 rfl ?_
      refine r_aload_n dX7_couldOf_19 rfl rfl ?_
      refine r_iload_n dX7_couldOf_20 rfl rfl ?_
      refine r_iload_n dX7_couldOf_21 rfl rfl ?_
      refine r_iload_n dX7_couldOf_22 rfl rfl ?_
      refine r_iload dX7_couldOf_23 rfl ?_
      obtain ⟨v6003, h6004, e⟩ := g_bd e
      refine q_callV (rest := [.int y6_4]) (c_X7_couldBe h6004) dX7_couldOf_25 lkX7_195 rfl rfl rfl rfl (Nat.le_of_ble_eq_true rfl) (by decide) ?_
      refine r_ifeqB (tgt := 35) dX7_couldOf_28 (by decide) (fun h6005 => ?_) (fun h6005 => ?_)
      · have e := g_cF h6005 e
        refine r_iconst (x := 0) dX7_couldOf_35 (by decide) ?_
        refine r_iadd dX7_couldOf_36 ?_
        refine r_istore dX7_couldOf_37 (by decide) rfl ?_
        refine r_iinc (y := 1) dX7_couldOf_39 rfl (by decide) (by decide) rfl ?_
        refine r_goto (tgt := 6) dX7_couldOf_42 (by decide) ?_
        exact w_X7_couldOf_6 n _ _ R e
      · have e := g_cT h6005 e
        refine r_iconst (x := 1) dX7_couldOf_31 (by decide) ?_
        refine r_goto (tgt := 36) dX7_couldOf_32 (by decide) ?_
        refine r_iadd dX7_couldOf_36 ?_
        refine r_istore dX7_couldOf_37 (by decide) rfl ?_
        refine r_iinc (y := 1) dX7_couldOf_39 rfl (by decide) (by decide) rfl ?_
        refine r_goto (tgt := 6) dX7_couldOf_42 (by decide) ?_
        exact w_X7_couldOf_6 n _ _ R e
set_option maxRecDepth 100000 in
set_option maxHeartbeats 4000000 in
theorem c_X7_couldOf {G : mG} {g : (Nat → Nat → Int32)} {b : Bool} {a1 : Int32} {a2 : Int32} {a3 : Int32} {R : Int32} (e : f_X7_couldOf g a1 a2 a3 = some R) : MC G mX7_couldOf 2 0 0 [.ref 64, .int a1, .int a2, .int a3] (m_h g b) (some (.int R)) (m_h g b) := by
  refine MC_intro mlX7_couldOf (Nat.le_of_ble_eq_true rfl) ⟨_, rfl⟩ rfl trivial ?_
  unfold f_X7_couldOf at e
  refine r_iconst (x := 0) dX7_couldOf_0 (by decide) ?_
  refine r_istore dX7_couldOf_1 (by decide) rfl ?_
  refine r_iconst (x := 0) dX7_couldOf_3 (by decide) ?_
  refine r_istore dX7_couldOf_4 (by decide) rfl ?_
  exact w_X7_couldOf_6 2000 _ _ R e
/-! X7_could -/
def f_X7_could (g : (Nat → Nat → Int32)) (a1 : Int32) (a2 : Int32) (a3 : Int32) : Option (Int32 × (Nat → Nat → Int32)) :=
  ((f_X7_isRow g a1 a2).bind fun v1 =>
(bif v1 then
((f_X7_isKnown g a1 a3).bind fun v4 =>
(bif v4 then
((f_X7_maskTable g a1).bind fun v7 =>
((f_X7_couldOf v7 a1 a2 a3).bind fun v9 =>
some (v9, v7)))
else
some ((-2), g)))
else
some ((-1), g)))
set_option maxRecDepth 100000 in
set_option maxHeartbeats 4000000 in
theorem c_X7_could {G : mG} {g : (Nat → Nat → Int32)} {b : Bool} {a1 : Int32} {a2 : Int32} {a3 : Int32} {R : (Int32 × (Nat → Nat → Int32))} (e : f_X7_could g a1 a2 a3 = some R) : MC G mX7_could 6 0 0 [.ref 64, .int a1, .int a2, .int a3] (m_h g b) (some (.int R.1)) (m_h R.2 b) := by
  refine MC_intro mlX7_could (Nat.le_of_ble_eq_true rfl) ⟨_, rfl⟩ rfl trivial ?_
  unfold f_X7_could at e
  refine r_aload_n dX7_could_0 rfl rfl ?_
  refine r_iload_n dX7_could_1 rfl rfl ?_
  refine r_iload_n dX7_could_2 rfl rfl ?_
  obtain ⟨v1, h2, e⟩ := g_bd e
  refine q_callV (rest := []) (c_X7_isRow h2) dX7_could_3 lkX7_189 rfl rfl rfl rfl (Nat.le_of_ble_eq_true rfl) (by decide) ?_
  refine r_ifneB (tgt := 11) dX7_could_6 (by decide) (fun h3 => ?_) (fun h3 => ?_)
  · have e := g_cT h3 e
    refine r_aload_n dX7_could_11 rfl rfl ?_
    refine r_iload_n dX7_could_12 rfl rfl ?_
    refine r_iload_n dX7_could_13 rfl rfl ?_
    obtain ⟨v4, h5, e⟩ := g_bd e
    refine q_callV (rest := []) (c_X7_isKnown h5) dX7_could_14 lkX7_199 rfl rfl rfl rfl (Nat.le_of_ble_eq_true rfl) (by decide) ?_
    refine r_ifneB (tgt := 23) dX7_could_17 (by decide) (fun h6 => ?_) (fun h6 => ?_)
    · have e := g_cT h6 e
      refine r_aload_n dX7_could_23 rfl rfl ?_
      refine r_iload_n dX7_could_24 rfl rfl ?_
      obtain ⟨v7, h8, e⟩ := g_bd e
      refine q_callV (rest := []) (c_X7_maskTable h8) dX7_could_25 lkX7_186 rfl rfl rfl rfl (Nat.le_of_ble_eq_true rfl) (by decide) ?_
      refine r_aload_n dX7_could_28 rfl rfl ?_
      refine r_iload_n dX7_could_29 rfl rfl ?_
      refine r_iload_n dX7_could_30 rfl rfl ?_
      refine r_iload_n dX7_could_31 rfl rfl ?_
      obtain ⟨v9, h10, e⟩ := g_bd e
      refine q_callV (rest := []) (c_X7_couldOf h10) dX7_could_32 lkX7_202 rfl rfl rfl rfl (Nat.le_of_ble_eq_true rfl) (by decide) ?_
      have e := Option.some.inj e
      subst e
      exact r_ret dX7_could_35 rfl rfl
    · have e := g_cF h6 e
      refine r_bipush (x := (-2)) dX7_could_20 (by decide) ?_
      have e := Option.some.inj e
      subst e
      exact r_ret dX7_could_22 rfl rfl
  · have e := g_cF h3 e
    refine r_iconst (x := (-1)) dX7_could_9 (by decide) ?_
    have e := Option.some.inj e
    subst e
    exact r_ret dX7_could_10 rfl rfl
/-! X7_alikeOf -/
def lp_X7_alikeOf_11 (a1 : Int32) (a2 : Int32) (gx11 : (Nat → Nat → Int32)) : Nat → Int32 → Int32 → Option (Int32 × (Nat → Nat → Int32))
  | 0, _, _ => none
  | n + 1, y11_3, y11_4 =>
  (if m_in a1 4 then
(if (gx11 66 a1.toNatClampNeg) ≤ y11_4 then
some (y11_3, gx11)
else
((f_X7_couldOf gx11 a1 y11_4 a2).bind fun v11003 =>
(if y11_3 ≤ v11003 then
lp_X7_alikeOf_11 a1 a2 gx11 n y11_3 (y11_4 + 1)
else
lp_X7_alikeOf_11 a1 a2 gx11 n v11003 (y11_4 + 1)))) else none)
def f_X7_alikeOf (g : (Nat → Nat → Int32)) (a1 : Int32) (a2 : Int32) : Option (Int32 × (Nat → Nat → Int32)) :=
  ((f_X7_maskTable g a1).bind fun v1 =>
lp_X7_alikeOf_11 a1 a2 v1 2000 13 0)
set_option maxRecDepth 100000 in
set_option maxHeartbeats 4000000 in
theorem w_X7_alikeOf_11 {G : mG} {b : Bool} {a1 : Int32} {a2 : Int32} {gx11 : (Nat → Nat → Int32)} : ∀ (n : Nat) (y11_3 : Int32) (y11_4 : Int32) (R : (Int32 × (Nat → Nat → Int32))), lp_X7_alikeOf_11 a1 a2 gx11 n y11_3 y11_4 = some R → MW G mX7_alikeOf 6 0 0 11 [.ref 64, .int a1, .int a2, .int y11_3, .int y11_4, .retAddr 0] [] (m_h gx11 b) (some (.int R.1)) (m_h R.2 b)
  | 0, _, _, R, e => absurd (show (none : Option (Int32 × (Nat → Nat → Int32))) = some R from e) (fun h => by cases h)
  | n + 1, y11_3, y11_4, R, e => by
    rw [lp_X7_alikeOf_11] at e
    refine r_iload dX7_alikeOf_11 rfl ?_
    refine r_aload_n dX7_alikeOf_13 rfl rfl ?_
    refine q_getr dX7_alikeOf_14 flX7_15 rfl rfl (m_fr_64_3 _) ?_
    refine r_iload_n dX7_alikeOf_17 rfl rfl ?_
    obtain ⟨h11001, e⟩ := g_gd e
    refine q_iald dX7_alikeOf_18 rfl h11001 ?_
    refine r_icmp_ge (tgt := 51) dX7_alikeOf_19 (by decide) (fun h11002 => ?_) (fun h11002 => ?_)
    · have e := g_iT h11002 e
      refine r_iload_n dX7_alikeOf_51 rfl rfl ?_
      have e := Option.some.inj e
      subst e
      exact r_ret dX7_alikeOf_52 rfl rfl
    · have e := g_iF h11002 e
      refine r_aload_n dX7_alikeOf_22 rfl rfl ?_
      refine r_iload_n dX7_alikeOf_23 rfl rfl ?_
      refine r_iload dX7_alikeOf_24 rfl ?_
      refine r_iload_n dX7_alikeOf_26 rfl rfl ?_
      obtain ⟨v11003, h11004, e⟩ := g_bd e
      refine q_callV (rest := []) (c_X7_couldOf h11004) dX7_alikeOf_27 lkX7_202 rfl rfl rfl rfl (Nat.le_of_ble_eq_true rfl) (by decide) ?_
      refine r_istore dX7_alikeOf_30 (by decide) rfl ?_
      refine r_iload dX7_alikeOf_32 rfl ?_
      refine r_iload_n dX7_alikeOf_34 rfl rfl ?_
      refine r_icmp_ge (tgt := 43) dX7_alikeOf_35 (by decide) (fun h11005 => ?_) (fun h11005 => ?_)
      · have e := g_iT h11005 e
        refine r_iload_n dX7_alikeOf_43 rfl rfl ?_
        refine r_istore_n dX7_alikeOf_44 rfl (by decide) rfl ?_
        refine r_iinc (y := 1) dX7_alikeOf_45 rfl (by decide) (by decide) rfl ?_
        refine r_goto (tgt := 11) dX7_alikeOf_48 (by decide) ?_
        refine r_forget 5 rfl ?_
        exact w_X7_alikeOf_11 n _ _ R e
      · have e := g_iF h11005 e
        refine r_iload dX7_alikeOf_38 rfl ?_
        refine r_goto (tgt := 44) dX7_alikeOf_40 (by decide) ?_
        refine r_istore_n dX7_alikeOf_44 rfl (by decide) rfl ?_
        refine r_iinc (y := 1) dX7_alikeOf_45 rfl (by decide) (by decide) rfl ?_
        refine r_goto (tgt := 11) dX7_alikeOf_48 (by decide) ?_
        refine r_forget 5 rfl ?_
        exact w_X7_alikeOf_11 n _ _ R e
set_option maxRecDepth 100000 in
set_option maxHeartbeats 4000000 in
theorem c_X7_alikeOf {G : mG} {g : (Nat → Nat → Int32)} {b : Bool} {a1 : Int32} {a2 : Int32} {R : (Int32 × (Nat → Nat → Int32))} (e : f_X7_alikeOf g a1 a2 = some R) : MC G mX7_alikeOf 6 0 0 [.ref 64, .int a1, .int a2] (m_h g b) (some (.int R.1)) (m_h R.2 b) := by
  refine MC_intro mlX7_alikeOf (Nat.le_of_ble_eq_true rfl) ⟨_, rfl⟩ rfl trivial ?_
  unfold f_X7_alikeOf at e
  refine r_aload_n dX7_alikeOf_0 rfl rfl ?_
  refine r_iload_n dX7_alikeOf_1 rfl rfl ?_
  obtain ⟨v1, h2, e⟩ := g_bd e
  refine q_callV (rest := []) (c_X7_maskTable h2) dX7_alikeOf_2 lkX7_186 rfl rfl rfl rfl (Nat.le_of_ble_eq_true rfl) (by decide) ?_
  refine r_bipush (x := 13) dX7_alikeOf_5 (by decide) ?_
  refine r_istore_n dX7_alikeOf_7 rfl (by decide) rfl ?_
  refine r_iconst (x := 0) dX7_alikeOf_8 (by decide) ?_
  refine r_istore dX7_alikeOf_9 (by decide) rfl ?_
  exact w_X7_alikeOf_11 2000 _ _ R e
/-! X7_alike -/
def f_X7_alike (g : (Nat → Nat → Int32)) (a1 : Int32) (a2 : Int32) : Option (Int32 × (Nat → Nat → Int32)) :=
  (bif (f_X7_isTable g a1) then
(if m_in a1 4 then
(if (g 66 a1.toNatClampNeg) = 0 then
some ((-1), g)
else
((f_X7_isKnown g a1 a2).bind fun v4 =>
(bif v4 then
((f_X7_alikeOf g a1 a2).bind fun v7 =>
some (v7.1, v7.2))
else
some ((-2), g)))) else none)
else
some ((-1), g))
set_option maxRecDepth 100000 in
set_option maxHeartbeats 4000000 in
theorem c_X7_alike {G : mG} {g : (Nat → Nat → Int32)} {b : Bool} {a1 : Int32} {a2 : Int32} {R : (Int32 × (Nat → Nat → Int32))} (e : f_X7_alike g a1 a2 = some R) : MC G mX7_alike 7 0 0 [.ref 64, .int a1, .int a2] (m_h g b) (some (.int R.1)) (m_h R.2 b) := by
  refine MC_intro mlX7_alike (Nat.le_of_ble_eq_true rfl) ⟨_, rfl⟩ rfl trivial ?_
  unfold f_X7_alike at e
  refine r_aload_n dX7_alike_0 rfl rfl ?_
  refine r_iload_n dX7_alike_1 rfl rfl ?_
  refine q_callV (rest := []) (c_X7_isTable rfl) dX7_alike_2 lkX7_99 rfl rfl rfl rfl (Nat.le_of_ble_eq_true rfl) (by decide) ?_
  refine r_ifeqB (tgt := 17) dX7_alike_5 (by decide) (fun h1 => ?_) (fun h1 => ?_)
  · have e := g_cF h1 e
    refine r_iconst (x := (-1)) dX7_alike_17 (by decide) ?_
    have e := Option.some.inj e
    subst e
    exact r_ret dX7_alike_18 rfl rfl
  · have e := g_cT h1 e
    refine r_aload_n dX7_alike_8 rfl rfl ?_
    refine q_getr dX7_alike_9 flX7_15 rfl rfl (m_fr_64_3 _) ?_
    refine r_iload_n dX7_alike_12 rfl rfl ?_
    obtain ⟨h2, e⟩ := g_gd e
    refine q_iald dX7_alike_13 rfl h2 ?_
    refine r_if_ne (tgt := 19) dX7_alike_14 (by decide) (fun h3 => ?_) (fun h3 => ?_)
    · have e := g_iF h3 e
      refine r_aload_n dX7_alike_19 rfl rfl ?_
      refine r_iload_n dX7_alike_20 rfl rfl ?_
      refine r_iload_n dX7_alike_21 rfl rfl ?_
      obtain ⟨v4, h5, e⟩ := g_bd e
      refine q_callV (rest := []) (c_X7_isKnown h5) dX7_alike_22 lkX7_199 rfl rfl rfl rfl (Nat.le_of_ble_eq_true rfl) (by decide) ?_
      refine r_ifeqB (tgt := 37) dX7_alike_25 (by decide) (fun h6 => ?_) (fun h6 => ?_)
      · have e := g_cF h6 e
        refine r_bipush (x := (-2)) dX7_alike_37 (by decide) ?_
        have e := Option.some.inj e
        subst e
        exact r_ret dX7_alike_39 rfl rfl
      · have e := g_cT h6 e
        refine r_aload_n dX7_alike_28 rfl rfl ?_
        refine r_iload_n dX7_alike_29 rfl rfl ?_
        refine r_iload_n dX7_alike_30 rfl rfl ?_
        obtain ⟨v7, h8, e⟩ := g_bd e
        refine q_callV (rest := []) (c_X7_alikeOf h8) dX7_alike_31 lkX7_205 rfl rfl rfl rfl (Nat.le_of_ble_eq_true rfl) (by decide) ?_
        refine r_goto (tgt := 39) dX7_alike_34 (by decide) ?_
        have e := Option.some.inj e
        subst e
        exact r_ret dX7_alike_39 rfl rfl
    · have e := g_iT h3 e
      refine r_iconst (x := (-1)) dX7_alike_17 (by decide) ?_
      have e := Option.some.inj e
      subst e
      exact r_ret dX7_alike_18 rfl rfl
/-! X7_sure -/
def lp_X7_sure_44 (a1 : Int32) (a2 : Int32) (a3 : Int32) (a4 : Int32) (gx44 : (Nat → Nat → Int32)) : Nat → Int32 → Int32 → Option (Int32 × (Nat → Nat → Int32))
  | 0, _, _ => none
  | n + 1, y44_5, y44_6 =>
  (if m_in a1 4 then
(if (gx44 66 a1.toNatClampNeg) ≤ y44_6 then
some (1, gx44)
else
((f_X7_couldBe gx44 a1 a2 a3 y44_6).bind fun v44003 =>
(bif v44003 then
(if y44_5 = (-1) then
lp_X7_sure_44 a1 a2 a3 a4 gx44 n y44_6 (y44_6 + 1)
else
(if m_in (f_X7_cell a1 y44_6 a4) 288 then
(if m_in (f_X7_cell a1 y44_5 a4) 288 then
(if (gx44 78 (f_X7_cell a1 y44_6 a4).toNatClampNeg) = (gx44 78 (f_X7_cell a1 y44_5 a4).toNatClampNeg) then
lp_X7_sure_44 a1 a2 a3 a4 gx44 n y44_6 (y44_6 + 1)
else
some (0, gx44)) else none) else none))
else
lp_X7_sure_44 a1 a2 a3 a4 gx44 n y44_5 (y44_6 + 1)))) else none)
def f_X7_sure (g : (Nat → Nat → Int32)) (a1 : Int32) (a2 : Int32) (a3 : Int32) (a4 : Int32) : Option (Int32 × (Nat → Nat → Int32)) :=
  ((f_X7_isRow g a1 a2).bind fun v1 =>
(bif v1 then
((f_X7_isColumn g a1 a4).bind fun v4 =>
(bif v4 then
((f_X7_isKnown g a1 a3).bind fun v7 =>
(bif v7 then
((f_X7_maskTable g a1).bind fun v10 =>
lp_X7_sure_44 a1 a2 a3 a4 v10 2000 (-1) 0)
else
some ((-2), g)))
else
some ((-1), g)))
else
some ((-1), g)))
set_option maxRecDepth 100000 in
set_option maxHeartbeats 4000000 in
theorem w_X7_sure_44 {G : mG} {b : Bool} {a1 : Int32} {a2 : Int32} {a3 : Int32} {a4 : Int32} {gx44 : (Nat → Nat → Int32)} : ∀ (n : Nat) (y44_5 : Int32) (y44_6 : Int32) (R : (Int32 × (Nat → Nat → Int32))), lp_X7_sure_44 a1 a2 a3 a4 gx44 n y44_5 y44_6 = some R → MW G mX7_sure 6 0 0 44 [.ref 64, .int a1, .int a2, .int a3, .int a4, .int y44_5, .int y44_6] [] (m_h gx44 b) (some (.int R.1)) (m_h R.2 b)
  | 0, _, _, R, e => absurd (show (none : Option (Int32 × (Nat → Nat → Int32))) = some R from e) (fun h => by cases h)
  | n + 1, y44_5, y44_6, R, e => by
    rw [lp_X7_sure_44] at e
    refine r_iload dX7_sure_44 rfl ?_
    refine r_aload_n dX7_sure_46 rfl rfl ?_
    refine q_getr dX7_sure_47 flX7_15 rfl rfl (m_fr_64_3 _) ?_
    refine r_iload_n dX7_sure_50 rfl rfl ?_
    obtain ⟨h44001, e⟩ := g_gd e
    refine q_iald dX7_sure_51 rfl h44001 ?_
    refine r_icmp_ge (tgt := 117) dX7_sure_52 (by decide) (fun h44002 => ?_) (fun h44002 => ?_)
    · have e := g_iT h44002 e
      refine r_iconst (x := 1) dX7_sure_117 (by decide) ?_
      have e := Option.some.inj e
      subst e
      exact r_ret dX7_sure_118 rfl rfl
    · have e := g_iF h44002 e
      refine r_aload_n dX7_sure_55 rfl rfl ?_
      refine r_iload_n dX7_sure_56 rfl rfl ?_
      refine r_iload_n dX7_sure_57 rfl rfl ?_
      refine r_iload_n dX7_sure_58 rfl rfl ?_
      refine r_iload dX7_sure_59 rfl ?_
      obtain ⟨v44003, h44004, e⟩ := g_bd e
      refine q_callV (rest := []) (c_X7_couldBe h44004) dX7_sure_61 lkX7_195 rfl rfl rfl rfl (Nat.le_of_ble_eq_true rfl) (by decide) ?_
      refine r_ifneB (tgt := 70) dX7_sure_64 (by decide) (fun h44005 => ?_) (fun h44005 => ?_)
      · have e := g_cT h44005 e
        refine r_iload dX7_sure_70 rfl ?_
        refine r_iconst (x := (-1)) dX7_sure_72 (by decide) ?_
        refine r_icmp_eq (tgt := 107) dX7_sure_73 (by decide) (fun h44006 => ?_) (fun h44006 => ?_)
        · have e := g_iT h44006 e
          refine r_iload dX7_sure_107 rfl ?_
          refine r_istore dX7_sure_109 (by decide) rfl ?_
          refine r_iinc (y := 1) dX7_sure_111 rfl (by decide) (by decide) rfl ?_
          refine r_goto (tgt := 44) dX7_sure_114 (by decide) ?_
          exact w_X7_sure_44 n _ _ R e
        · have e := g_iF h44006 e
          refine r_aload_n dX7_sure_76 rfl rfl ?_
          refine q_getr dX7_sure_77 flX7_51 rfl rfl (m_fr_64_17 _) ?_
          refine r_iload_n dX7_sure_80 rfl rfl ?_
          refine r_iload dX7_sure_81 rfl ?_
          refine r_iload dX7_sure_83 rfl ?_
          refine q_callS (rest := [.ref 78]) (c_X7_cell rfl) dX7_sure_85 lkX7_127 rfl rfl (Nat.le_of_ble_eq_true rfl) (by decide) ?_
          obtain ⟨h44007, e⟩ := g_gd e
          refine q_iald dX7_sure_88 rfl h44007 ?_
          refine r_aload_n dX7_sure_89 rfl rfl ?_
          refine q_getr dX7_sure_90 flX7_51 rfl rfl (m_fr_64_17 _) ?_
          refine r_iload_n dX7_sure_93 rfl rfl ?_
          refine r_iload dX7_sure_94 rfl ?_
          refine r_iload dX7_sure_96 rfl ?_
          refine q_callS (rest := [.ref 78, .int (gx44 78 (f_X7_cell a1 y44_6 a4).toNatClampNeg)]) (c_X7_cell rfl) dX7_sure_98 lkX7_127 rfl rfl (Nat.le_of_ble_eq_true rfl) (by decide) ?_
          obtain ⟨h44008, e⟩ := g_gd e
          refine q_iald dX7_sure_101 rfl h44008 ?_
          refine r_icmp_eq (tgt := 107) dX7_sure_102 (by decide) (fun h44009 => ?_) (fun h44009 => ?_)
          · have e := g_iT h44009 e
            refine r_iload dX7_sure_107 rfl ?_
            refine r_istore dX7_sure_109 (by decide) rfl ?_
            refine r_iinc (y := 1) dX7_sure_111 rfl (by decide) (by decide) rfl ?_
            refine r_goto (tgt := 44) dX7_sure_114 (by decide) ?_
            exact w_X7_sure_44 n _ _ R e
          · have e := g_iF h44009 e
            refine r_iconst (x := 0) dX7_sure_105 (by decide) ?_
            have e := Option.some.inj e
            subst e
            exact r_ret dX7_sure_106 rfl rfl
      · have e := g_cF h44005 e
        refine r_goto (tgt := 111) dX7_sure_67 (by decide) ?_
        refine r_iinc (y := 1) dX7_sure_111 rfl (by decide) (by decide) rfl ?_
        refine r_goto (tgt := 44) dX7_sure_114 (by decide) ?_
        exact w_X7_sure_44 n _ _ R e
set_option maxRecDepth 100000 in
set_option maxHeartbeats 4000000 in
theorem c_X7_sure {G : mG} {g : (Nat → Nat → Int32)} {b : Bool} {a1 : Int32} {a2 : Int32} {a3 : Int32} {a4 : Int32} {R : (Int32 × (Nat → Nat → Int32))} (e : f_X7_sure g a1 a2 a3 a4 = some R) : MC G mX7_sure 6 0 0 [.ref 64, .int a1, .int a2, .int a3, .int a4] (m_h g b) (some (.int R.1)) (m_h R.2 b) := by
  refine MC_intro mlX7_sure (Nat.le_of_ble_eq_true rfl) ⟨_, rfl⟩ rfl trivial ?_
  unfold f_X7_sure at e
  refine r_aload_n dX7_sure_0 rfl rfl ?_
  refine r_iload_n dX7_sure_1 rfl rfl ?_
  refine r_iload_n dX7_sure_2 rfl rfl ?_
  obtain ⟨v1, h2, e⟩ := g_bd e
  refine q_callV (rest := []) (c_X7_isRow h2) dX7_sure_3 lkX7_189 rfl rfl rfl rfl (Nat.le_of_ble_eq_true rfl) (by decide) ?_
  refine r_ifeqB (tgt := 19) dX7_sure_6 (by decide) (fun h3 => ?_) (fun h3 => ?_)
  · have e := g_cF h3 e
    refine r_iconst (x := (-1)) dX7_sure_19 (by decide) ?_
    have e := Option.some.inj e
    subst e
    exact r_ret dX7_sure_20 rfl rfl
  · have e := g_cT h3 e
    refine r_aload_n dX7_sure_9 rfl rfl ?_
    refine r_iload_n dX7_sure_10 rfl rfl ?_
    refine r_iload dX7_sure_11 rfl ?_
    obtain ⟨v4, h5, e⟩ := g_bd e
    refine q_callV (rest := []) (c_X7_isColumn h5) dX7_sure_13 lkX7_131 rfl rfl rfl rfl (Nat.le_of_ble_eq_true rfl) (by decide) ?_
    refine r_ifneB (tgt := 21) dX7_sure_16 (by decide) (fun h6 => ?_) (fun h6 => ?_)
    · have e := g_cT h6 e
      refine r_aload_n dX7_sure_21 rfl rfl ?_
      refine r_iload_n dX7_sure_22 rfl rfl ?_
      refine r_iload_n dX7_sure_23 rfl rfl ?_
      obtain ⟨v7, h8, e⟩ := g_bd e
      refine q_callV (rest := []) (c_X7_isKnown h8) dX7_sure_24 lkX7_199 rfl rfl rfl rfl (Nat.le_of_ble_eq_true rfl) (by decide) ?_
      refine r_ifneB (tgt := 33) dX7_sure_27 (by decide) (fun h9 => ?_) (fun h9 => ?_)
      · have e := g_cT h9 e
        refine r_aload_n dX7_sure_33 rfl rfl ?_
        refine r_iload_n dX7_sure_34 rfl rfl ?_
        obtain ⟨v10, h11, e⟩ := g_bd e
        refine q_callV (rest := []) (c_X7_maskTable h11) dX7_sure_35 lkX7_186 rfl rfl rfl rfl (Nat.le_of_ble_eq_true rfl) (by decide) ?_
        refine r_iconst (x := (-1)) dX7_sure_38 (by decide) ?_
        refine r_istore dX7_sure_39 (by decide) rfl ?_
        refine r_iconst (x := 0) dX7_sure_41 (by decide) ?_
        refine r_istore dX7_sure_42 (by decide) rfl ?_
        exact w_X7_sure_44 2000 _ _ R e
      · have e := g_cF h9 e
        refine r_bipush (x := (-2)) dX7_sure_30 (by decide) ?_
        have e := Option.some.inj e
        subst e
        exact r_ret dX7_sure_32 rfl rfl
    · have e := g_cF h6 e
      refine r_iconst (x := (-1)) dX7_sure_19 (by decide) ?_
      have e := Option.some.inj e
      subst e
      exact r_ret dX7_sure_20 rfl rfl
/-! X7_lossOf -/
def lp_X7_lossOf_5 (g : (Nat → Nat → Int32)) (a1 : Int32) (a2 : Int32) : Nat → Int32 → Int32 → Option Int32
  | 0, _, _ => none
  | n + 1, y5_3, y5_4 =>
  (if m_in a1 4 then
(if (g 66 a1.toNatClampNeg) ≤ y5_4 then
some y5_3
else
(if m_in (f_X7_cell a1 y5_4 a2) 288 then
(if (g 76 (f_X7_cell a1 y5_4 a2).toNatClampNeg) = (-2147483648) then
lp_X7_lossOf_5 g a1 a2 n y5_3 (y5_4 + 1)
else
(if m_in ((6 * a1) + a2) 24 then
((f_X7_coarse (g 76 (f_X7_cell a1 y5_4 a2).toNatClampNeg) (g 71 ((6 * a1) + a2).toNatClampNeg)).bind fun v5006 =>
lp_X7_lossOf_5 g a1 a2 n (y5_3 + ((g 76 (f_X7_cell a1 y5_4 a2).toNatClampNeg) - v5006)) (y5_4 + 1)) else none)) else none)) else none)
def f_X7_lossOf (g : (Nat → Nat → Int32)) (a1 : Int32) (a2 : Int32) : Option Int32 :=
  lp_X7_lossOf_5 g a1 a2 2000 0 0
set_option maxRecDepth 100000 in
set_option maxHeartbeats 4000000 in
theorem w_X7_lossOf_5 {G : mG} {b : Bool} {g : (Nat → Nat → Int32)} {a1 : Int32} {a2 : Int32} : ∀ (n : Nat) (y5_3 : Int32) (y5_4 : Int32) (R : Int32), lp_X7_lossOf_5 g a1 a2 n y5_3 y5_4 = some R → MW G mX7_lossOf 1 0 0 5 [.ref 64, .int a1, .int a2, .int y5_3, .int y5_4, .retAddr 0] [] (m_h g b) (some (.int R)) (m_h g b)
  | 0, _, _, R, e => absurd (show (none : Option Int32) = some R from e) (fun h => by cases h)
  | n + 1, y5_3, y5_4, R, e => by
    rw [lp_X7_lossOf_5] at e
    refine r_iload dX7_lossOf_5 rfl ?_
    refine r_aload_n dX7_lossOf_7 rfl rfl ?_
    refine q_getr dX7_lossOf_8 flX7_15 rfl rfl (m_fr_64_3 _) ?_
    refine r_iload_n dX7_lossOf_11 rfl rfl ?_
    obtain ⟨h5001, e⟩ := g_gd e
    refine q_iald dX7_lossOf_12 rfl h5001 ?_
    refine r_icmp_ge (tgt := 65) dX7_lossOf_13 (by decide) (fun h5002 => ?_) (fun h5002 => ?_)
    · have e := g_iT h5002 e
      refine r_iload_n dX7_lossOf_65 rfl rfl ?_
      have e := Option.some.inj e
      subst e
      exact r_ret dX7_lossOf_66 rfl rfl
    · have e := g_iF h5002 e
      refine r_aload_n dX7_lossOf_16 rfl rfl ?_
      refine q_getr dX7_lossOf_17 flX7_45 rfl rfl (m_fr_64_14 _) ?_
      refine r_iload_n dX7_lossOf_20 rfl rfl ?_
      refine r_iload dX7_lossOf_21 rfl ?_
      refine r_iload_n dX7_lossOf_23 rfl rfl ?_
      refine q_callS (rest := [.ref 76]) (c_X7_cell rfl) dX7_lossOf_24 lkX7_127 rfl rfl (Nat.le_of_ble_eq_true rfl) (by decide) ?_
      obtain ⟨h5003, e⟩ := g_gd e
      refine q_iald dX7_lossOf_27 rfl h5003 ?_
      refine r_istore dX7_lossOf_28 (by decide) rfl ?_
      refine r_iload dX7_lossOf_30 rfl ?_
      refine r_ldc (x := (-2147483648)) dX7_lossOf_32 kcX7_119 ?_
      refine r_icmp_eq (tgt := 59) dX7_lossOf_34 (by decide) (fun h5004 => ?_) (fun h5004 => ?_)
      · have e := g_iT h5004 e
        refine r_iinc (y := 1) dX7_lossOf_59 rfl (by decide) (by decide) rfl ?_
        refine r_goto (tgt := 5) dX7_lossOf_62 (by decide) ?_
        refine r_forget 5 rfl ?_
        exact w_X7_lossOf_5 n _ _ R e
      · have e := g_iF h5004 e
        refine r_iload_n dX7_lossOf_37 rfl rfl ?_
        refine r_iload dX7_lossOf_38 rfl ?_
        refine r_iload dX7_lossOf_40 rfl ?_
        refine r_aload_n dX7_lossOf_42 rfl rfl ?_
        refine q_getr dX7_lossOf_43 flX7_30 rfl rfl (m_fr_64_8 _) ?_
        refine r_bipush (x := 6) dX7_lossOf_46 (by decide) ?_
        refine r_iload_n dX7_lossOf_48 rfl rfl ?_
        refine r_imul dX7_lossOf_49 ?_
        refine r_iload_n dX7_lossOf_50 rfl rfl ?_
        refine r_iadd dX7_lossOf_51 ?_
        obtain ⟨h5005, e⟩ := g_gd e
        refine q_iald dX7_lossOf_52 rfl h5005 ?_
        obtain ⟨v5006, h5007, e⟩ := g_bd e
        refine q_callS (rest := [.int (g 76 (f_X7_cell a1 y5_4 a2).toNatClampNeg), .int y5_3]) (c_X7_coarse h5007) dX7_lossOf_53 lkX7_156 rfl rfl (Nat.le_of_ble_eq_true rfl) (by decide) ?_
        refine r_isub dX7_lossOf_56 ?_
        refine r_iadd dX7_lossOf_57 ?_
        refine r_istore_n dX7_lossOf_58 rfl (by decide) rfl ?_
        refine r_iinc (y := 1) dX7_lossOf_59 rfl (by decide) (by decide) rfl ?_
        refine r_goto (tgt := 5) dX7_lossOf_62 (by decide) ?_
        refine r_forget 5 rfl ?_
        exact w_X7_lossOf_5 n _ _ R e
set_option maxRecDepth 100000 in
set_option maxHeartbeats 4000000 in
theorem c_X7_lossOf {G : mG} {g : (Nat → Nat → Int32)} {b : Bool} {a1 : Int32} {a2 : Int32} {R : Int32} (e : f_X7_lossOf g a1 a2 = some R) : MC G mX7_lossOf 1 0 0 [.ref 64, .int a1, .int a2] (m_h g b) (some (.int R)) (m_h g b) := by
  refine MC_intro mlX7_lossOf (Nat.le_of_ble_eq_true rfl) ⟨_, rfl⟩ rfl trivial ?_
  unfold f_X7_lossOf at e
  refine r_iconst (x := 0) dX7_lossOf_0 (by decide) ?_
  refine r_istore_n dX7_lossOf_1 rfl (by decide) rfl ?_
  refine r_iconst (x := 0) dX7_lossOf_2 (by decide) ?_
  refine r_istore dX7_lossOf_3 (by decide) rfl ?_
  exact w_X7_lossOf_5 2000 _ _ R e
/-! X7_loss -/
def f_X7_loss (g : (Nat → Nat → Int32)) (a1 : Int32) (a2 : Int32) : Option Int32 :=
  ((f_X7_isColumn g a1 a2).bind fun v1 =>
(bif v1 then
(if m_in ((6 * a1) + a2) 24 then
(if (g 70 ((6 * a1) + a2).toNatClampNeg) = 3 then
((f_X7_lossOf g a1 a2).bind fun v6 =>
some v6)
else
some (-2)) else none)
else
some (-1)))
set_option maxRecDepth 100000 in
set_option maxHeartbeats 4000000 in
theorem c_X7_loss {G : mG} {g : (Nat → Nat → Int32)} {b : Bool} {a1 : Int32} {a2 : Int32} {R : Int32} (e : f_X7_loss g a1 a2 = some R) : MC G mX7_loss 3 0 0 [.ref 64, .int a1, .int a2] (m_h g b) (some (.int R)) (m_h g b) := by
  refine MC_intro mlX7_loss (Nat.le_of_ble_eq_true rfl) ⟨_, rfl⟩ rfl trivial ?_
  unfold f_X7_loss at e
  refine r_aload_n dX7_loss_0 rfl rfl ?_
  refine r_iload_n dX7_loss_1 rfl rfl ?_
  refine r_iload_n dX7_loss_2 rfl rfl ?_
  obtain ⟨v1, h2, e⟩ := g_bd e
  refine q_callV (rest := []) (c_X7_isColumn h2) dX7_loss_3 lkX7_131 rfl rfl rfl rfl (Nat.le_of_ble_eq_true rfl) (by decide) ?_
  refine r_ifneB (tgt := 11) dX7_loss_6 (by decide) (fun h3 => ?_) (fun h3 => ?_)
  · have e := g_cT h3 e
    refine r_aload_n dX7_loss_11 rfl rfl ?_
    refine q_getr dX7_loss_12 flX7_27 rfl rfl (m_fr_64_7 _) ?_
    refine r_bipush (x := 6) dX7_loss_15 (by decide) ?_
    refine r_iload_n dX7_loss_17 rfl rfl ?_
    refine r_imul dX7_loss_18 ?_
    refine r_iload_n dX7_loss_19 rfl rfl ?_
    refine r_iadd dX7_loss_20 ?_
    obtain ⟨h4, e⟩ := g_gd e
    refine q_iald dX7_loss_21 rfl h4 ?_
    refine r_iconst (x := 3) dX7_loss_22 (by decide) ?_
    refine r_icmp_ne (tgt := 35) dX7_loss_23 (by decide) (fun h5 => ?_) (fun h5 => ?_)
    · have e := g_iF h5 e
      refine r_bipush (x := (-2)) dX7_loss_35 (by decide) ?_
      have e := Option.some.inj e
      subst e
      exact r_ret dX7_loss_37 rfl rfl
    · have e := g_iT h5 e
      refine r_aload_n dX7_loss_26 rfl rfl ?_
      refine r_iload_n dX7_loss_27 rfl rfl ?_
      refine r_iload_n dX7_loss_28 rfl rfl ?_
      obtain ⟨v6, h7, e⟩ := g_bd e
      refine q_callV (rest := []) (c_X7_lossOf h7) dX7_loss_29 lkX7_208 rfl rfl rfl rfl (Nat.le_of_ble_eq_true rfl) (by decide) ?_
      refine r_goto (tgt := 37) dX7_loss_32 (by decide) ?_
      have e := Option.some.inj e
      subst e
      exact r_ret dX7_loss_37 rfl rfl
  · have e := g_cF h3 e
    refine r_iconst (x := (-1)) dX7_loss_9 (by decide) ?_
    have e := Option.some.inj e
    subst e
    exact r_ret dX7_loss_10 rfl rfl
/-! X7_width -/
def f_X7_width (a1 : Int32) : Int32 :=
  (if a1 = 0 then
1
else
(if a1 = 1 then
10
else
(if a1 = 2 then
100
else
1000)))
set_option maxRecDepth 100000 in
set_option maxHeartbeats 4000000 in
theorem c_X7_width {G : mG} {g : (Nat → Nat → Int32)} {b : Bool} {a1 : Int32} {R : Int32} (e : f_X7_width a1 = R) : MC G mX7_width 0 0 0 [.int a1] (m_h g b) (some (.int R)) (m_h g b) := by
  refine MC_intro mlX7_width (Nat.le_of_ble_eq_true rfl) ⟨_, rfl⟩ rfl trivial ?_
  unfold f_X7_width at e
  refine r_iload_n dX7_width_0 rfl rfl ?_
  refine r_if_ne (tgt := 8) dX7_width_1 (by decide) (fun h1 => ?_) (fun h1 => ?_)
  · have e := g_iF h1 e
    refine r_iload_n dX7_width_8 rfl rfl ?_
    refine r_iconst (x := 1) dX7_width_9 (by decide) ?_
    refine r_icmp_ne (tgt := 18) dX7_width_10 (by decide) (fun h2 => ?_) (fun h2 => ?_)
    · have e := g_iF h2 e
      refine r_iload_n dX7_width_18 rfl rfl ?_
      refine r_iconst (x := 2) dX7_width_19 (by decide) ?_
      refine r_icmp_ne (tgt := 28) dX7_width_20 (by decide) (fun h3 => ?_) (fun h3 => ?_)
      · have e := g_iF h3 e
        refine r_sipush (x := 1000) dX7_width_28 (by decide) ?_
        subst e
        exact r_ret dX7_width_31 rfl rfl
      · have e := g_iT h3 e
        refine r_bipush (x := 100) dX7_width_23 (by decide) ?_
        refine r_goto (tgt := 31) dX7_width_25 (by decide) ?_
        subst e
        exact r_ret dX7_width_31 rfl rfl
    · have e := g_iT h2 e
      refine r_bipush (x := 10) dX7_width_13 (by decide) ?_
      refine r_goto (tgt := 31) dX7_width_15 (by decide) ?_
      subst e
      exact r_ret dX7_width_31 rfl rfl
  · have e := g_iT h1 e
    refine r_iconst (x := 1) dX7_width_4 (by decide) ?_
    refine r_goto (tgt := 31) dX7_width_5 (by decide) ?_
    subst e
    exact r_ret dX7_width_31 rfl rfl
/-! X7_gives -/
def lp_X7_gives_16 (a1 : Int32) (a2 : Int32) (a3 : Int32) : Nat → Int32 → Int32 → Int32 → (Nat → Nat → Int32) → Option (Int32 × (Nat → Nat → Int32))
  | 0, _, _, _, _ => none
  | n + 1, y16_4, y16_5, y16_6, g16 =>
  (if y16_6 < 0 then
some (y16_5, g16)
else
(if m_in ((6 * a1) + y16_6) 24 then
(if (g16 70 ((6 * a1) + y16_6).toNatClampNeg) = 3 then
(m_let (m_up g16 71 ((6 * a1) + y16_6).toNatClampNeg (f_X7_width (m_rem y16_4 4))) fun g16004 =>
((f_X7_lossOf g16004 a1 y16_6).bind fun v16006 =>
lp_X7_gives_16 a1 a2 a3 n (y16_4 / 4) (y16_5 + v16006) (y16_6 + (-1)) g16004))
else
lp_X7_gives_16 a1 a2 a3 n y16_4 y16_5 (y16_6 + (-1)) g16) else none))
def f_X7_gives (g : (Nat → Nat → Int32)) (a1 : Int32) (a2 : Int32) (a3 : Int32) : Option (Int32 × (Nat → Nat → Int32)) :=
  (if m_in a1 4 then
lp_X7_gives_16 a1 a2 a3 2000 a2 0 ((g 65 a1.toNatClampNeg) - 1) g else none)
set_option maxRecDepth 100000 in
set_option maxHeartbeats 4000000 in
theorem w_X7_gives_16 {G : mG} {b : Bool} {a1 : Int32} {a2 : Int32} {a3 : Int32} : ∀ (n : Nat) (y16_4 : Int32) (y16_5 : Int32) (y16_6 : Int32) (g16 : (Nat → Nat → Int32)) (R : (Int32 × (Nat → Nat → Int32))), lp_X7_gives_16 a1 a2 a3 n y16_4 y16_5 y16_6 g16 = some R → MW G mX7_gives 2 0 0 16 [.ref 64, .int a1, .int a2, .int a3, .int y16_4, .int y16_5, .int y16_6] [] (m_h g16 b) (some (.int R.1)) (m_h R.2 b)
  | 0, _, _, _, _, R, e => absurd (show (none : Option (Int32 × (Nat → Nat → Int32))) = some R from e) (fun h => by cases h)
  | n + 1, y16_4, y16_5, y16_6, g16, R, e => by
    rw [lp_X7_gives_16] at e
    refine r_iload dX7_gives_16 rfl ?_
    refine r_if_lt (tgt := 83) dX7_gives_18 (by decide) (fun h16001 => ?_) (fun h16001 => ?_)
    · have e := g_iT h16001 e
      refine r_iload dX7_gives_83 rfl ?_
      have e := Option.some.inj e
      subst e
      exact r_ret dX7_gives_85 rfl rfl
    · have e := g_iF h16001 e
      refine r_aload_n dX7_gives_21 rfl rfl ?_
      refine q_getr dX7_gives_22 flX7_27 rfl rfl (m_fr_64_7 _) ?_
      refine r_bipush (x := 6) dX7_gives_25 (by decide) ?_
      refine r_iload_n dX7_gives_27 rfl rfl ?_
      refine r_imul dX7_gives_28 ?_
      refine r_iload dX7_gives_29 rfl ?_
      refine r_iadd dX7_gives_31 ?_
      obtain ⟨h16002, e⟩ := g_gd e
      refine q_iald dX7_gives_32 rfl h16002 ?_
      refine r_iconst (x := 3) dX7_gives_33 (by decide) ?_
      refine r_icmp_eq (tgt := 40) dX7_gives_34 (by decide) (fun h16003 => ?_) (fun h16003 => ?_)
      · have e := g_iT h16003 e
        refine r_aload_n dX7_gives_40 rfl rfl ?_
        refine q_getr dX7_gives_41 flX7_30 rfl rfl (m_fr_64_8 _) ?_
        refine r_bipush (x := 6) dX7_gives_44 (by decide) ?_
        refine r_iload_n dX7_gives_46 rfl rfl ?_
        refine r_imul dX7_gives_47 ?_
        refine r_iload dX7_gives_48 rfl ?_
        refine r_iadd dX7_gives_50 ?_
        refine r_iload dX7_gives_51 rfl ?_
        refine r_iconst (x := 4) dX7_gives_53 (by decide) ?_
        refine q_irem dX7_gives_54 (by decide) ?_
        refine q_callS (rest := [.int ((6 * a1) + y16_6), .ref 71]) (c_X7_width rfl) dX7_gives_55 lkX7_211 rfl rfl (Nat.le_of_ble_eq_true rfl) (by decide) ?_
        refine q_iastL dX7_gives_58 rfl h16002 (fun g16004 h16005 => ?_)
        have e := g_lt h16005 e
        refine r_iload dX7_gives_59 rfl ?_
        refine r_iconst (x := 4) dX7_gives_61 (by decide) ?_
        refine r_idiv dX7_gives_62 (by decide) ?_
        refine r_istore dX7_gives_63 (by decide) rfl ?_
        refine r_iload dX7_gives_65 rfl ?_
        refine r_aload_n dX7_gives_67 rfl rfl ?_
        refine r_iload_n dX7_gives_68 rfl rfl ?_
        refine r_iload dX7_gives_69 rfl ?_
        obtain ⟨v16006, h16007, e⟩ := g_bd e
        refine q_callV (rest := [.int y16_5]) (c_X7_lossOf h16007) dX7_gives_71 lkX7_208 rfl rfl rfl rfl (Nat.le_of_ble_eq_true rfl) (by decide) ?_
        refine r_iadd dX7_gives_74 ?_
        refine r_istore dX7_gives_75 (by decide) rfl ?_
        refine r_iinc (y := (-1)) dX7_gives_77 rfl (by decide) (by decide) rfl ?_
        refine r_goto (tgt := 16) dX7_gives_80 (by decide) ?_
        exact w_X7_gives_16 n _ _ _ _ R e
      · have e := g_iF h16003 e
        refine r_goto (tgt := 77) dX7_gives_37 (by decide) ?_
        refine r_iinc (y := (-1)) dX7_gives_77 rfl (by decide) (by decide) rfl ?_
        refine r_goto (tgt := 16) dX7_gives_80 (by decide) ?_
        exact w_X7_gives_16 n _ _ _ _ R e
set_option maxRecDepth 100000 in
set_option maxHeartbeats 4000000 in
theorem c_X7_gives {G : mG} {g : (Nat → Nat → Int32)} {b : Bool} {a1 : Int32} {a2 : Int32} {a3 : Int32} {R : (Int32 × (Nat → Nat → Int32))} (e : f_X7_gives g a1 a2 a3 = some R) : MC G mX7_gives 2 0 0 [.ref 64, .int a1, .int a2, .int a3] (m_h g b) (some (.int R.1)) (m_h R.2 b) := by
  refine MC_intro mlX7_gives (Nat.le_of_ble_eq_true rfl) ⟨_, rfl⟩ rfl trivial ?_
  unfold f_X7_gives at e
  refine r_iload_n dX7_gives_0 rfl rfl ?_
  refine r_istore dX7_gives_1 (by decide) rfl ?_
  refine r_iconst (x := 0) dX7_gives_3 (by decide) ?_
  refine r_istore dX7_gives_4 (by decide) rfl ?_
  refine r_aload_n dX7_gives_6 rfl rfl ?_
  refine q_getr dX7_gives_7 flX7_9 rfl rfl (m_fr_64_2 _) ?_
  refine r_iload_n dX7_gives_10 rfl rfl ?_
  obtain ⟨h1, e⟩ := g_gd e
  refine q_iald dX7_gives_11 rfl h1 ?_
  refine r_iconst (x := 1) dX7_gives_12 (by decide) ?_
  refine r_isub dX7_gives_13 ?_
  refine r_istore dX7_gives_14 (by decide) rfl ?_
  exact w_X7_gives_16 2000 _ _ _ _ R e
/-! X7_best -/
def lp_X7_best_209 (a1 : Int32) (a2 : Int32) (a3 : Int32) (y45_4 : Int32) (y113_5 : Int32) (k45 : (Int32 → Int32 → (Nat → Nat → Int32) → Option (Int32 × (Nat → Nat → Int32)))) (k113 : (Int32 → Int32 → (Nat → Nat → Int32) → Option (Int32 × (Nat → Nat → Int32)))) : Nat → Int32 → (Nat → Nat → Int32) → Option (Int32 × (Nat → Nat → Int32))
  | 0, _, _ => none
  | n + 1, y209_6, g209 =>
  (if m_in a1 4 then
(if (g209 65 a1.toNatClampNeg) ≤ y209_6 then
(if y113_5 = (-1) then
some ((-3), g209)
else
some (y113_5, g209))
else
(if y113_5 = (-1) then
(if m_in y209_6 6 then
(if m_in ((6 * a1) + y209_6) 24 then
(m_let (m_up g209 71 ((6 * a1) + y209_6).toNatClampNeg (g209 88 y209_6.toNatClampNeg)) fun g209011 =>
lp_X7_best_209 a1 a2 a3 y45_4 y113_5 k45 k113 n (y209_6 + 1) g209011) else none) else none)
else
(if m_in y209_6 6 then
(if m_in ((6 * a1) + y209_6) 24 then
(m_let (m_up g209 71 ((6 * a1) + y209_6).toNatClampNeg (g209 89 y209_6.toNatClampNeg)) fun g209007 =>
lp_X7_best_209 a1 a2 a3 y45_4 y113_5 k45 k113 n (y209_6 + 1) g209007) else none) else none))) else none)
def lp_X7_best_164 (a1 : Int32) (a2 : Int32) (a3 : Int32) (y45_4 : Int32) (y113_6 : Int32) (x164_5 : Int32) (x164_7 : Int32) (k45 : (Int32 → Int32 → (Nat → Nat → Int32) → Option (Int32 × (Nat → Nat → Int32)))) (k113 : (Int32 → Int32 → (Nat → Nat → Int32) → Option (Int32 × (Nat → Nat → Int32)))) : Nat → Int32 → (Nat → Nat → Int32) → Option (Int32 × (Nat → Nat → Int32))
  | 0, _, _ => none
  | n + 1, y164_8, g164 =>
  (if m_in a1 4 then
(if (g164 65 a1.toNatClampNeg) ≤ y164_8 then
k113 x164_5 (y113_6 + 1) g164
else
(if m_in ((6 * a1) + y164_8) 24 then
(if m_in y164_8 6 then
(m_let (m_up g164 89 y164_8.toNatClampNeg (g164 71 ((6 * a1) + y164_8).toNatClampNeg)) fun g164005 =>
lp_X7_best_164 a1 a2 a3 y45_4 y113_6 x164_5 x164_7 k45 k113 n (y164_8 + 1) g164005) else none) else none)) else none)
def lp_X7_best_113 (a1 : Int32) (a2 : Int32) (a3 : Int32) (y45_4 : Int32) (k45 : (Int32 → Int32 → (Nat → Nat → Int32) → Option (Int32 × (Nat → Nat → Int32)))) : Nat → Int32 → Int32 → (Nat → Nat → Int32) → Option (Int32 × (Nat → Nat → Int32))
  | 0, _, _, _ => none
  | n + 1, y113_5, y113_6, g113 =>
  (if y45_4 ≤ y113_6 then
lp_X7_best_209 a1 a2 a3 y45_4 y113_5 k45 (fun y113_5 y113_6 g113 => lp_X7_best_113 a1 a2 a3 y45_4 k45 n y113_5 y113_6 g113) 2000 0 g113
else
((f_X7_gives g113 a1 y113_6 y45_4).bind fun v113002 =>
(if y113_5 = (-1) then
((f_X7_alikeOf v113002.2 a1 a2).bind fun v113005 =>
(if a3 ≤ v113005.1 then
lp_X7_best_164 a1 a2 a3 y45_4 y113_6 v113002.1 v113002.1 k45 (fun y113_5 y113_6 g113 => lp_X7_best_113 a1 a2 a3 y45_4 k45 n y113_5 y113_6 g113) 2000 0 v113005.2
else
lp_X7_best_113 a1 a2 a3 y45_4 k45 n y113_5 (y113_6 + 1) v113005.2))
else
(if y113_5 ≤ v113002.1 then
lp_X7_best_113 a1 a2 a3 y45_4 k45 n y113_5 (y113_6 + 1) v113002.2
else
((f_X7_alikeOf v113002.2 a1 a2).bind fun v113009 =>
(if a3 ≤ v113009.1 then
lp_X7_best_164 a1 a2 a3 y45_4 y113_6 v113002.1 v113002.1 k45 (fun y113_5 y113_6 g113 => lp_X7_best_113 a1 a2 a3 y45_4 k45 n y113_5 y113_6 g113) 2000 0 v113009.2
else
lp_X7_best_113 a1 a2 a3 y45_4 k45 n y113_5 (y113_6 + 1) v113009.2))))))
def lp_X7_best_45 (a1 : Int32) (a2 : Int32) (a3 : Int32) : Nat → Int32 → Int32 → (Nat → Nat → Int32) → Option (Int32 × (Nat → Nat → Int32))
  | 0, _, _, _ => none
  | n + 1, y45_4, y45_5, g45 =>
  (if m_in a1 4 then
(if (g45 65 a1.toNatClampNeg) ≤ y45_5 then
lp_X7_best_113 a1 a2 a3 y45_4 (fun y45_4 y45_5 g45 => lp_X7_best_45 a1 a2 a3 n y45_4 y45_5 g45) 2000 (-1) 0 g45
else
(if m_in ((6 * a1) + y45_5) 24 then
(if m_in y45_5 6 then
(m_let (m_up g45 88 y45_5.toNatClampNeg (g45 71 ((6 * a1) + y45_5).toNatClampNeg)) fun g45005 =>
(if (g45005 70 ((6 * a1) + y45_5).toNatClampNeg) = 3 then
lp_X7_best_45 a1 a2 a3 n (y45_4 * 4) (y45_5 + 1) g45005
else
lp_X7_best_45 a1 a2 a3 n (y45_4 * 1) (y45_5 + 1) g45005)) else none) else none)) else none)
def f_X7_best (g : (Nat → Nat → Int32)) (a1 : Int32) (a2 : Int32) (a3 : Int32) : Option (Int32 × (Nat → Nat → Int32)) :=
  (bif (f_X7_isTable g a1) then
((f_X7_isKnown g a1 a2).bind fun v2 =>
(bif v2 then
(if 1 ≤ a3 then
(if m_in a1 4 then
(if (g 66 a1.toNatClampNeg) = 0 then
some ((-3), g)
else
lp_X7_best_45 a1 a2 a3 2000 1 0 g) else none)
else
some ((-2), g))
else
some ((-2), g)))
else
some ((-1), g))
set_option maxRecDepth 100000 in
set_option maxHeartbeats 4000000 in
theorem w_X7_best_209 {G : mG} {b : Bool} {a1 : Int32} {a2 : Int32} {a3 : Int32} {y45_4 : Int32} {y113_5 : Int32} {k45 : (Int32 → Int32 → (Nat → Nat → Int32) → Option (Int32 × (Nat → Nat → Int32)))} {k113 : (Int32 → Int32 → (Nat → Nat → Int32) → Option (Int32 × (Nat → Nat → Int32)))} (hk45 : ∀ (y45_4 : Int32) (y45_5 : Int32) (g45 : (Nat → Nat → Int32)) (R : (Int32 × (Nat → Nat → Int32))), k45 y45_4 y45_5 g45 = some R → MW G mX7_best 7 0 0 45 [.ref 64, .int a1, .int a2, .int a3, .int y45_4, .int y45_5, .retAddr 0, .retAddr 0, .retAddr 0] [] (m_h g45 b) (some (.int R.1)) (m_h R.2 b)) (hk113 : ∀ (y113_5 : Int32) (y113_6 : Int32) (g113 : (Nat → Nat → Int32)) (R : (Int32 × (Nat → Nat → Int32))), k113 y113_5 y113_6 g113 = some R → MW G mX7_best 7 0 0 113 [.ref 64, .int a1, .int a2, .int a3, .int y45_4, .int y113_5, .int y113_6, .retAddr 0, .retAddr 0] [] (m_h g113 b) (some (.int R.1)) (m_h R.2 b)) : ∀ (n : Nat) (y209_6 : Int32) (g209 : (Nat → Nat → Int32)) (R : (Int32 × (Nat → Nat → Int32))), lp_X7_best_209 a1 a2 a3 y45_4 y113_5 k45 k113 n y209_6 g209 = some R → MW G mX7_best 7 0 0 209 [.ref 64, .int a1, .int a2, .int a3, .int y45_4, .int y113_5, .int y209_6, .retAddr 0, .retAddr 0] [] (m_h g209 b) (some (.int R.1)) (m_h R.2 b)
  | 0, _, _, R, e => absurd (show (none : Option (Int32 × (Nat → Nat → Int32))) = some R from e) (fun h => by cases h)
  | n + 1, y209_6, g209, R, e => by
    rw [lp_X7_best_209] at e
    refine r_iload dX7_best_209 rfl ?_
    refine r_aload_n dX7_best_211 rfl rfl ?_
    refine q_getr dX7_best_212 flX7_9 rfl rfl (m_fr_64_2 _) ?_
    refine r_iload_n dX7_best_215 rfl rfl ?_
    obtain ⟨h209001, e⟩ := g_gd e
    refine q_iald dX7_best_216 rfl h209001 ?_
    refine r_icmp_ge (tgt := 261) dX7_best_217 (by decide) (fun h209002 => ?_) (fun h209002 => ?_)
    · have e := g_iT h209002 e
      refine r_iload dX7_best_261 rfl ?_
      refine r_iconst (x := (-1)) dX7_best_263 (by decide) ?_
      refine r_icmp_ne (tgt := 272) dX7_best_264 (by decide) (fun h209003 => ?_) (fun h209003 => ?_)
      · have e := g_iF h209003 e
        refine r_iload dX7_best_272 rfl ?_
        have e := Option.some.inj e
        subst e
        exact r_ret dX7_best_274 rfl rfl
      · have e := g_iT h209003 e
        refine r_bipush (x := (-3)) dX7_best_267 (by decide) ?_
        refine r_goto (tgt := 274) dX7_best_269 (by decide) ?_
        have e := Option.some.inj e
        subst e
        exact r_ret dX7_best_274 rfl rfl
    · have e := g_iF h209002 e
      refine r_aload_n dX7_best_220 rfl rfl ?_
      refine q_getr dX7_best_221 flX7_30 rfl rfl (m_fr_64_8 _) ?_
      refine r_bipush (x := 6) dX7_best_224 (by decide) ?_
      refine r_iload_n dX7_best_226 rfl rfl ?_
      refine r_imul dX7_best_227 ?_
      refine r_iload dX7_best_228 rfl ?_
      refine r_iadd dX7_best_230 ?_
      refine r_iload dX7_best_231 rfl ?_
      refine r_iconst (x := (-1)) dX7_best_233 (by decide) ?_
      refine r_icmp_ne (tgt := 247) dX7_best_234 (by decide) (fun h209004 => ?_) (fun h209004 => ?_)
      · have e := g_iF h209004 e
        refine r_aload_n dX7_best_247 rfl rfl ?_
        refine q_getr dX7_best_248 flX7_85 rfl rfl (m_fr_64_30 _) ?_
        refine r_iload dX7_best_251 rfl ?_
        obtain ⟨h209005, e⟩ := g_gd e
        refine q_iald dX7_best_253 rfl h209005 ?_
        obtain ⟨h209006, e⟩ := g_gd e
        refine q_iastL dX7_best_254 rfl h209006 (fun g209007 h209008 => ?_)
        have e := g_lt h209008 e
        refine r_iinc (y := 1) dX7_best_255 rfl (by decide) (by decide) rfl ?_
        refine r_goto (tgt := 209) dX7_best_258 (by decide) ?_
        exact w_X7_best_209 hk45 hk113 n _ _ R e
      · have e := g_iT h209004 e
        refine r_aload_n dX7_best_237 rfl rfl ?_
        refine q_getr dX7_best_238 flX7_82 rfl rfl (m_fr_64_29 _) ?_
        refine r_iload dX7_best_241 rfl ?_
        obtain ⟨h209009, e⟩ := g_gd e
        refine q_iald dX7_best_243 rfl h209009 ?_
        refine r_goto (tgt := 254) dX7_best_244 (by decide) ?_
        obtain ⟨h209010, e⟩ := g_gd e
        refine q_iastL dX7_best_254 rfl h209010 (fun g209011 h209012 => ?_)
        have e := g_lt h209012 e
        refine r_iinc (y := 1) dX7_best_255 rfl (by decide) (by decide) rfl ?_
        refine r_goto (tgt := 209) dX7_best_258 (by decide) ?_
        exact w_X7_best_209 hk45 hk113 n _ _ R e
set_option maxRecDepth 100000 in
set_option maxHeartbeats 4000000 in
theorem w_X7_best_164 {G : mG} {b : Bool} {a1 : Int32} {a2 : Int32} {a3 : Int32} {y45_4 : Int32} {y113_6 : Int32} {x164_5 : Int32} {x164_7 : Int32} {k45 : (Int32 → Int32 → (Nat → Nat → Int32) → Option (Int32 × (Nat → Nat → Int32)))} {k113 : (Int32 → Int32 → (Nat → Nat → Int32) → Option (Int32 × (Nat → Nat → Int32)))} (hk45 : ∀ (y45_4 : Int32) (y45_5 : Int32) (g45 : (Nat → Nat → Int32)) (R : (Int32 × (Nat → Nat → Int32))), k45 y45_4 y45_5 g45 = some R → MW G mX7_best 7 0 0 45 [.ref 64, .int a1, .int a2, .int a3, .int y45_4, .int y45_5, .retAddr 0, .retAddr 0, .retAddr 0] [] (m_h g45 b) (some (.int R.1)) (m_h R.2 b)) (hk113 : ∀ (y113_5 : Int32) (y113_6 : Int32) (g113 : (Nat → Nat → Int32)) (R : (Int32 × (Nat → Nat → Int32))), k113 y113_5 y113_6 g113 = some R → MW G mX7_best 7 0 0 113 [.ref 64, .int a1, .int a2, .int a3, .int y45_4, .int y113_5, .int y113_6, .retAddr 0, .retAddr 0] [] (m_h g113 b) (some (.int R.1)) (m_h R.2 b)) : ∀ (n : Nat) (y164_8 : Int32) (g164 : (Nat → Nat → Int32)) (R : (Int32 × (Nat → Nat → Int32))), lp_X7_best_164 a1 a2 a3 y45_4 y113_6 x164_5 x164_7 k45 k113 n y164_8 g164 = some R → MW G mX7_best 7 0 0 164 [.ref 64, .int a1, .int a2, .int a3, .int y45_4, .int x164_5, .int y113_6, .int x164_7, .int y164_8] [] (m_h g164 b) (some (.int R.1)) (m_h R.2 b)
  | 0, _, _, R, e => absurd (show (none : Option (Int32 × (Nat → Nat → Int32))) = some R from e) (fun h => by cases h)
  | n + 1, y164_8, g164, R, e => by
    rw [lp_X7_best_164] at e
    refine r_iload dX7_best_164 rfl ?_
    refine r_aload_n dX7_best_166 rfl rfl ?_
    refine q_getr dX7_best_167 flX7_9 rfl rfl (m_fr_64_2 _) ?_
    refine r_iload_n dX7_best_170 rfl rfl ?_
    obtain ⟨h164001, e⟩ := g_gd e
    refine q_iald dX7_best_171 rfl h164001 ?_
    refine r_icmp_ge (tgt := 200) dX7_best_172 (by decide) (fun h164002 => ?_) (fun h164002 => ?_)
    · have e := g_iT h164002 e
      refine r_iinc (y := 1) dX7_best_200 rfl (by decide) (by decide) rfl ?_
      refine r_goto (tgt := 113) dX7_best_203 (by decide) ?_
      refine r_forget 7 rfl ?_
      refine r_forget 8 rfl ?_
      exact hk113 _ _ _ R e
    · have e := g_iF h164002 e
      refine r_aload_n dX7_best_175 rfl rfl ?_
      refine q_getr dX7_best_176 flX7_85 rfl rfl (m_fr_64_30 _) ?_
      refine r_iload dX7_best_179 rfl ?_
      refine r_aload_n dX7_best_181 rfl rfl ?_
      refine q_getr dX7_best_182 flX7_30 rfl rfl (m_fr_64_8 _) ?_
      refine r_bipush (x := 6) dX7_best_185 (by decide) ?_
      refine r_iload_n dX7_best_187 rfl rfl ?_
      refine r_imul dX7_best_188 ?_
      refine r_iload dX7_best_189 rfl ?_
      refine r_iadd dX7_best_191 ?_
      obtain ⟨h164003, e⟩ := g_gd e
      refine q_iald dX7_best_192 rfl h164003 ?_
      obtain ⟨h164004, e⟩ := g_gd e
      refine q_iastL dX7_best_193 rfl h164004 (fun g164005 h164006 => ?_)
      have e := g_lt h164006 e
      refine r_iinc (y := 1) dX7_best_194 rfl (by decide) (by decide) rfl ?_
      refine r_goto (tgt := 164) dX7_best_197 (by decide) ?_
      exact w_X7_best_164 hk45 hk113 n _ _ R e
set_option maxRecDepth 100000 in
set_option maxHeartbeats 4000000 in
theorem w_X7_best_113 {G : mG} {b : Bool} {a1 : Int32} {a2 : Int32} {a3 : Int32} {y45_4 : Int32} {k45 : (Int32 → Int32 → (Nat → Nat → Int32) → Option (Int32 × (Nat → Nat → Int32)))} (hk45 : ∀ (y45_4 : Int32) (y45_5 : Int32) (g45 : (Nat → Nat → Int32)) (R : (Int32 × (Nat → Nat → Int32))), k45 y45_4 y45_5 g45 = some R → MW G mX7_best 7 0 0 45 [.ref 64, .int a1, .int a2, .int a3, .int y45_4, .int y45_5, .retAddr 0, .retAddr 0, .retAddr 0] [] (m_h g45 b) (some (.int R.1)) (m_h R.2 b)) : ∀ (n : Nat) (y113_5 : Int32) (y113_6 : Int32) (g113 : (Nat → Nat → Int32)) (R : (Int32 × (Nat → Nat → Int32))), lp_X7_best_113 a1 a2 a3 y45_4 k45 n y113_5 y113_6 g113 = some R → MW G mX7_best 7 0 0 113 [.ref 64, .int a1, .int a2, .int a3, .int y45_4, .int y113_5, .int y113_6, .retAddr 0, .retAddr 0] [] (m_h g113 b) (some (.int R.1)) (m_h R.2 b)
  | 0, _, _, _, R, e => absurd (show (none : Option (Int32 × (Nat → Nat → Int32))) = some R from e) (fun h => by cases h)
  | n + 1, y113_5, y113_6, g113, R, e => by
    rw [lp_X7_best_113] at e
    refine r_iload dX7_best_113 rfl ?_
    refine r_iload dX7_best_115 rfl ?_
    refine r_icmp_ge (tgt := 206) dX7_best_117 (by decide) (fun h113001 => ?_) (fun h113001 => ?_)
    · have e := g_iT h113001 e
      refine r_iconst (x := 0) dX7_best_206 (by decide) ?_
      refine r_istore dX7_best_207 (by decide) rfl ?_
      exact w_X7_best_209 hk45 (fun y113_5 y113_6 g113 R e => w_X7_best_113 hk45 n y113_5 y113_6 g113 R e) 2000 _ _ R e
    · have e := g_iF h113001 e
      refine r_aload_n dX7_best_120 rfl rfl ?_
      refine r_iload_n dX7_best_121 rfl rfl ?_
      refine r_iload dX7_best_122 rfl ?_
      refine r_iload dX7_best_124 rfl ?_
      obtain ⟨v113002, h113003, e⟩ := g_bd e
      refine q_callV (rest := []) (c_X7_gives h113003) dX7_best_126 lkX7_214 rfl rfl rfl rfl (Nat.le_of_ble_eq_true rfl) (by decide) ?_
      refine r_istore dX7_best_129 (by decide) rfl ?_
      refine r_iload dX7_best_131 rfl ?_
      refine r_iconst (x := (-1)) dX7_best_133 (by decide) ?_
      refine r_icmp_eq (tgt := 144) dX7_best_134 (by decide) (fun h113004 => ?_) (fun h113004 => ?_)
      · have e := g_iT h113004 e
        refine r_aload_n dX7_best_144 rfl rfl ?_
        refine r_iload_n dX7_best_145 rfl rfl ?_
        refine r_iload_n dX7_best_146 rfl rfl ?_
        obtain ⟨v113005, h113006, e⟩ := g_bd e
        refine q_callV (rest := []) (c_X7_alikeOf h113006) dX7_best_147 lkX7_205 rfl rfl rfl rfl (Nat.le_of_ble_eq_true rfl) (by decide) ?_
        refine r_iload_n dX7_best_150 rfl rfl ?_
        refine r_icmp_ge (tgt := 157) dX7_best_151 (by decide) (fun h113007 => ?_) (fun h113007 => ?_)
        · have e := g_iT h113007 e
          refine r_iload dX7_best_157 rfl ?_
          refine r_istore dX7_best_159 (by decide) rfl ?_
          refine r_iconst (x := 0) dX7_best_161 (by decide) ?_
          refine r_istore dX7_best_162 (by decide) rfl ?_
          exact w_X7_best_164 hk45 (fun y113_5 y113_6 g113 R e => w_X7_best_113 hk45 n y113_5 y113_6 g113 R e) 2000 _ _ R e
        · have e := g_iF h113007 e
          refine r_goto (tgt := 200) dX7_best_154 (by decide) ?_
          refine r_iinc (y := 1) dX7_best_200 rfl (by decide) (by decide) rfl ?_
          refine r_goto (tgt := 113) dX7_best_203 (by decide) ?_
          refine r_forget 7 rfl ?_
          exact w_X7_best_113 hk45 n _ _ _ R e
      · have e := g_iF h113004 e
        refine r_iload dX7_best_137 rfl ?_
        refine r_iload dX7_best_139 rfl ?_
        refine r_icmp_ge (tgt := 200) dX7_best_141 (by decide) (fun h113008 => ?_) (fun h113008 => ?_)
        · have e := g_iT h113008 e
          refine r_iinc (y := 1) dX7_best_200 rfl (by decide) (by decide) rfl ?_
          refine r_goto (tgt := 113) dX7_best_203 (by decide) ?_
          refine r_forget 7 rfl ?_
          exact w_X7_best_113 hk45 n _ _ _ R e
        · have e := g_iF h113008 e
          refine r_aload_n dX7_best_144 rfl rfl ?_
          refine r_iload_n dX7_best_145 rfl rfl ?_
          refine r_iload_n dX7_best_146 rfl rfl ?_
          obtain ⟨v113009, h113010, e⟩ := g_bd e
          refine q_callV (rest := []) (c_X7_alikeOf h113010) dX7_best_147 lkX7_205 rfl rfl rfl rfl (Nat.le_of_ble_eq_true rfl) (by decide) ?_
          refine r_iload_n dX7_best_150 rfl rfl ?_
          refine r_icmp_ge (tgt := 157) dX7_best_151 (by decide) (fun h113011 => ?_) (fun h113011 => ?_)
          · have e := g_iT h113011 e
            refine r_iload dX7_best_157 rfl ?_
            refine r_istore dX7_best_159 (by decide) rfl ?_
            refine r_iconst (x := 0) dX7_best_161 (by decide) ?_
            refine r_istore dX7_best_162 (by decide) rfl ?_
            exact w_X7_best_164 hk45 (fun y113_5 y113_6 g113 R e => w_X7_best_113 hk45 n y113_5 y113_6 g113 R e) 2000 _ _ R e
          · have e := g_iF h113011 e
            refine r_goto (tgt := 200) dX7_best_154 (by decide) ?_
            refine r_iinc (y := 1) dX7_best_200 rfl (by decide) (by decide) rfl ?_
            refine r_goto (tgt := 113) dX7_best_203 (by decide) ?_
            refine r_forget 7 rfl ?_
            exact w_X7_best_113 hk45 n _ _ _ R e
set_option maxRecDepth 100000 in
set_option maxHeartbeats 4000000 in
theorem w_X7_best_45 {G : mG} {b : Bool} {a1 : Int32} {a2 : Int32} {a3 : Int32} : ∀ (n : Nat) (y45_4 : Int32) (y45_5 : Int32) (g45 : (Nat → Nat → Int32)) (R : (Int32 × (Nat → Nat → Int32))), lp_X7_best_45 a1 a2 a3 n y45_4 y45_5 g45 = some R → MW G mX7_best 7 0 0 45 [.ref 64, .int a1, .int a2, .int a3, .int y45_4, .int y45_5, .retAddr 0, .retAddr 0, .retAddr 0] [] (m_h g45 b) (some (.int R.1)) (m_h R.2 b)
  | 0, _, _, _, R, e => absurd (show (none : Option (Int32 × (Nat → Nat → Int32))) = some R from e) (fun h => by cases h)
  | n + 1, y45_4, y45_5, g45, R, e => by
    rw [lp_X7_best_45] at e
    refine r_iload dX7_best_45 rfl ?_
    refine r_aload_n dX7_best_47 rfl rfl ?_
    refine q_getr dX7_best_48 flX7_9 rfl rfl (m_fr_64_2 _) ?_
    refine r_iload_n dX7_best_51 rfl rfl ?_
    obtain ⟨h45001, e⟩ := g_gd e
    refine q_iald dX7_best_52 rfl h45001 ?_
    refine r_icmp_ge (tgt := 107) dX7_best_53 (by decide) (fun h45002 => ?_) (fun h45002 => ?_)
    · have e := g_iT h45002 e
      refine r_iconst (x := (-1)) dX7_best_107 (by decide) ?_
      refine r_istore dX7_best_108 (by decide) rfl ?_
      refine r_iconst (x := 0) dX7_best_110 (by decide) ?_
      refine r_istore dX7_best_111 (by decide) rfl ?_
      exact w_X7_best_113 (fun y45_4 y45_5 g45 R e => w_X7_best_45 n y45_4 y45_5 g45 R e) 2000 _ _ _ R e
    · have e := g_iF h45002 e
      refine r_aload_n dX7_best_56 rfl rfl ?_
      refine q_getr dX7_best_57 flX7_82 rfl rfl (m_fr_64_29 _) ?_
      refine r_iload dX7_best_60 rfl ?_
      refine r_aload_n dX7_best_62 rfl rfl ?_
      refine q_getr dX7_best_63 flX7_30 rfl rfl (m_fr_64_8 _) ?_
      refine r_bipush (x := 6) dX7_best_66 (by decide) ?_
      refine r_iload_n dX7_best_68 rfl rfl ?_
      refine r_imul dX7_best_69 ?_
      refine r_iload dX7_best_70 rfl ?_
      refine r_iadd dX7_best_72 ?_
      obtain ⟨h45003, e⟩ := g_gd e
      refine q_iald dX7_best_73 rfl h45003 ?_
      obtain ⟨h45004, e⟩ := g_gd e
      refine q_iastL dX7_best_74 rfl h45004 (fun g45005 h45006 => ?_)
      have e := g_lt h45006 e
      refine r_iload dX7_best_75 rfl ?_
      refine r_aload_n dX7_best_77 rfl rfl ?_
      refine q_getr dX7_best_78 flX7_27 rfl rfl (m_fr_64_7 _) ?_
      refine r_bipush (x := 6) dX7_best_81 (by decide) ?_
      refine r_iload_n dX7_best_83 rfl rfl ?_
      refine r_imul dX7_best_84 ?_
      refine r_iload dX7_best_85 rfl ?_
      refine r_iadd dX7_best_87 ?_
      refine q_iald dX7_best_88 rfl h45003 ?_
      refine r_iconst (x := 3) dX7_best_89 (by decide) ?_
      refine r_icmp_ne (tgt := 97) dX7_best_90 (by decide) (fun h45007 => ?_) (fun h45007 => ?_)
      · have e := g_iF h45007 e
        refine r_iconst (x := 1) dX7_best_97 (by decide) ?_
        refine r_imul dX7_best_98 ?_
        refine r_istore dX7_best_99 (by decide) rfl ?_
        refine r_iinc (y := 1) dX7_best_101 rfl (by decide) (by decide) rfl ?_
        refine r_goto (tgt := 45) dX7_best_104 (by decide) ?_
        exact w_X7_best_45 n _ _ _ R e
      · have e := g_iT h45007 e
        refine r_iconst (x := 4) dX7_best_93 (by decide) ?_
        refine r_goto (tgt := 98) dX7_best_94 (by decide) ?_
        refine r_imul dX7_best_98 ?_
        refine r_istore dX7_best_99 (by decide) rfl ?_
        refine r_iinc (y := 1) dX7_best_101 rfl (by decide) (by decide) rfl ?_
        refine r_goto (tgt := 45) dX7_best_104 (by decide) ?_
        exact w_X7_best_45 n _ _ _ R e
set_option maxRecDepth 100000 in
set_option maxHeartbeats 4000000 in
theorem c_X7_best {G : mG} {g : (Nat → Nat → Int32)} {b : Bool} {a1 : Int32} {a2 : Int32} {a3 : Int32} {R : (Int32 × (Nat → Nat → Int32))} (e : f_X7_best g a1 a2 a3 = some R) : MC G mX7_best 7 0 0 [.ref 64, .int a1, .int a2, .int a3] (m_h g b) (some (.int R.1)) (m_h R.2 b) := by
  refine MC_intro mlX7_best (Nat.le_of_ble_eq_true rfl) ⟨_, rfl⟩ rfl trivial ?_
  unfold f_X7_best at e
  refine r_aload_n dX7_best_0 rfl rfl ?_
  refine r_iload_n dX7_best_1 rfl rfl ?_
  refine q_callV (rest := []) (c_X7_isTable rfl) dX7_best_2 lkX7_99 rfl rfl rfl rfl (Nat.le_of_ble_eq_true rfl) (by decide) ?_
  refine r_ifneB (tgt := 10) dX7_best_5 (by decide) (fun h1 => ?_) (fun h1 => ?_)
  · have e := g_cT h1 e
    refine r_aload_n dX7_best_10 rfl rfl ?_
    refine r_iload_n dX7_best_11 rfl rfl ?_
    refine r_iload_n dX7_best_12 rfl rfl ?_
    obtain ⟨v2, h3, e⟩ := g_bd e
    refine q_callV (rest := []) (c_X7_isKnown h3) dX7_best_13 lkX7_199 rfl rfl rfl rfl (Nat.le_of_ble_eq_true rfl) (by decide) ?_
    refine r_ifeqB (tgt := 24) dX7_best_16 (by decide) (fun h4 => ?_) (fun h4 => ?_)
    · have e := g_cF h4 e
      refine r_bipush (x := (-2)) dX7_best_24 (by decide) ?_
      have e := Option.some.inj e
      subst e
      exact r_ret dX7_best_26 rfl rfl
    · have e := g_cT h4 e
      refine r_iload_n dX7_best_19 rfl rfl ?_
      refine r_iconst (x := 1) dX7_best_20 (by decide) ?_
      refine r_icmp_ge (tgt := 27) dX7_best_21 (by decide) (fun h5 => ?_) (fun h5 => ?_)
      · have e := g_iT h5 e
        refine r_aload_n dX7_best_27 rfl rfl ?_
        refine q_getr dX7_best_28 flX7_15 rfl rfl (m_fr_64_3 _) ?_
        refine r_iload_n dX7_best_31 rfl rfl ?_
        obtain ⟨h6, e⟩ := g_gd e
        refine q_iald dX7_best_32 rfl h6 ?_
        refine r_if_ne (tgt := 39) dX7_best_33 (by decide) (fun h7 => ?_) (fun h7 => ?_)
        · have e := g_iF h7 e
          refine r_iconst (x := 1) dX7_best_39 (by decide) ?_
          refine r_istore dX7_best_40 (by decide) rfl ?_
          refine r_iconst (x := 0) dX7_best_42 (by decide) ?_
          refine r_istore dX7_best_43 (by decide) rfl ?_
          exact w_X7_best_45 2000 _ _ _ R e
        · have e := g_iT h7 e
          refine r_bipush (x := (-3)) dX7_best_36 (by decide) ?_
          have e := Option.some.inj e
          subst e
          exact r_ret dX7_best_38 rfl rfl
      · have e := g_iF h5 e
        refine r_bipush (x := (-2)) dX7_best_24 (by decide) ?_
        have e := Option.some.inj e
        subst e
        exact r_ret dX7_best_26 rfl rfl
  · have e := g_cF h1 e
    refine r_iconst (x := (-1)) dX7_best_8 (by decide) ?_
    have e := Option.some.inj e
    subst e
    exact r_ret dX7_best_9 rfl rfl
/-! X7_about -/
def f_X7_about (g : (Nat → Nat → Int32)) (a1 : Int32) (a2 : Int32) (a3 : Int32) : Option Int32 :=
  ((f_X7_isColumn g a1 a2).bind fun v1 =>
(bif v1 then
(if 10 ≤ a3 then
(if a3 = 0 then
(if m_in a1 4 then
some (g 65 a1.toNatClampNeg) else none)
else
(if a3 = 1 then
(if m_in a1 4 then
some (g 66 a1.toNatClampNeg) else none)
else
(if a3 = 2 then
(if m_in a1 4 then
some (g 67 a1.toNatClampNeg) else none)
else
(if a3 = 3 then
some (-1)
else
(if a3 = 4 then
some (-1)
else
(if a3 = 5 then
some (-1)
else
(if a3 = 6 then
some (-1)
else
(if a3 = 7 then
some (-1)
else
(if a3 = 8 then
some (-1)
else
(if a3 = 9 then
some (-1)
else
(if a3 = 10 then
(if m_in ((6 * a1) + a2) 24 then
some (g 68 ((6 * a1) + a2).toNatClampNeg) else none)
else
(if a3 = 11 then
(if m_in ((6 * a1) + a2) 24 then
(if (g 68 ((6 * a1) + a2).toNatClampNeg) = 1 then
some (g 69 ((6 * a1) + a2).toNatClampNeg)
else
some (-1)) else none)
else
(if a3 = 12 then
(if m_in ((6 * a1) + a2) 24 then
some (g 70 ((6 * a1) + a2).toNatClampNeg) else none)
else
(if a3 = 13 then
(if m_in ((6 * a1) + a2) 24 then
some (g 71 ((6 * a1) + a2).toNatClampNeg) else none)
else
some (-1)))))))))))))))
else
(if a2 = 0 then
(if a3 = 0 then
(if m_in a1 4 then
some (g 65 a1.toNatClampNeg) else none)
else
(if a3 = 1 then
(if m_in a1 4 then
some (g 66 a1.toNatClampNeg) else none)
else
(if a3 = 2 then
(if m_in a1 4 then
some (g 67 a1.toNatClampNeg) else none)
else
(if a3 = 3 then
some (-1)
else
(if a3 = 4 then
some (-1)
else
(if a3 = 5 then
some (-1)
else
(if a3 = 6 then
some (-1)
else
(if a3 = 7 then
some (-1)
else
(if a3 = 8 then
some (-1)
else
(if a3 = 9 then
some (-1)
else
(if a3 = 10 then
(if m_in ((6 * a1) + a2) 24 then
some (g 68 ((6 * a1) + a2).toNatClampNeg) else none)
else
(if a3 = 11 then
(if m_in ((6 * a1) + a2) 24 then
(if (g 68 ((6 * a1) + a2).toNatClampNeg) = 1 then
some (g 69 ((6 * a1) + a2).toNatClampNeg)
else
some (-1)) else none)
else
(if a3 = 12 then
(if m_in ((6 * a1) + a2) 24 then
some (g 70 ((6 * a1) + a2).toNatClampNeg) else none)
else
(if a3 = 13 then
(if m_in ((6 * a1) + a2) 24 then
some (g 71 ((6 * a1) + a2).toNatClampNeg) else none)
else
some (-1)))))))))))))))
else
some (-1)))
else
some (-1)))
set_option maxRecDepth 100000 in
set_option maxHeartbeats 4000000 in
theorem c_X7_about {G : mG} {g : (Nat → Nat → Int32)} {b : Bool} {a1 : Int32} {a2 : Int32} {a3 : Int32} {R : Int32} (e : f_X7_about g a1 a2 a3 = some R) : MC G mX7_about 3 0 0 [.ref 64, .int a1, .int a2, .int a3] (m_h g b) (some (.int R)) (m_h g b) := by
  refine MC_intro mlX7_about (Nat.le_of_ble_eq_true rfl) ⟨_, rfl⟩ rfl trivial ?_
  unfold f_X7_about at e
  refine r_aload_n dX7_about_0 rfl rfl ?_
  refine r_iload_n dX7_about_1 rfl rfl ?_
  refine r_iload_n dX7_about_2 rfl rfl ?_
  obtain ⟨v1, h2, e⟩ := g_bd e
  refine q_callV (rest := []) (c_X7_isColumn h2) dX7_about_3 lkX7_131 rfl rfl rfl rfl (Nat.le_of_ble_eq_true rfl) (by decide) ?_
  refine r_ifeqB (tgt := 19) dX7_about_6 (by decide) (fun h3 => ?_) (fun h3 => ?_)
  · have e := g_cF h3 e
    refine r_iconst (x := (-1)) dX7_about_19 (by decide) ?_
    have e := Option.some.inj e
    subst e
    exact r_ret dX7_about_20 rfl rfl
  · have e := g_cT h3 e
    refine r_iload_n dX7_about_9 rfl rfl ?_
    refine r_bipush (x := 10) dX7_about_10 (by decide) ?_
    refine r_icmp_ge (tgt := 21) dX7_about_12 (by decide) (fun h4 => ?_) (fun h4 => ?_)
    · have e := g_iT h4 e
      refine r_bipush (x := 6) dX7_about_21 (by decide) ?_
      refine r_iload_n dX7_about_23 rfl rfl ?_
      refine r_imul dX7_about_24 ?_
      refine r_iload_n dX7_about_25 rfl rfl ?_
      refine r_iadd dX7_about_26 ?_
      refine r_istore dX7_about_27 (by decide) rfl ?_
      refine r_iload_n dX7_about_29 rfl rfl ?_
      by_cases h5 : a3 = 0
      · have e := g_iT h5 e
        refine r_tabIn (off := 70) (tgt := 100) dX7_about_30 (by rw [h5]; decide) (by rw [h5]; decide) (by rw [h5]; decide) (by decide) ?_
        refine r_aload_n dX7_about_100 rfl rfl ?_
        refine q_getr dX7_about_101 flX7_9 rfl rfl (m_fr_64_2 _) ?_
        refine r_iload_n dX7_about_104 rfl rfl ?_
        obtain ⟨h6, e⟩ := g_gd e
        refine q_iald dX7_about_105 rfl h6 ?_
        have e := Option.some.inj e
        subst e
        exact r_ret dX7_about_106 rfl rfl
      have e := g_iF h5 e
      by_cases h7 : a3 = 1
      · have e := g_iT h7 e
        refine r_tabIn (off := 77) (tgt := 107) dX7_about_30 (by rw [h7]; decide) (by rw [h7]; decide) (by rw [h7]; decide) (by decide) ?_
        refine r_aload_n dX7_about_107 rfl rfl ?_
        refine q_getr dX7_about_108 flX7_15 rfl rfl (m_fr_64_3 _) ?_
        refine r_iload_n dX7_about_111 rfl rfl ?_
        obtain ⟨h8, e⟩ := g_gd e
        refine q_iald dX7_about_112 rfl h8 ?_
        have e := Option.some.inj e
        subst e
        exact r_ret dX7_about_113 rfl rfl
      have e := g_iF h7 e
      by_cases h9 : a3 = 2
      · have e := g_iT h9 e
        refine r_tabIn (off := 84) (tgt := 114) dX7_about_30 (by rw [h9]; decide) (by rw [h9]; decide) (by rw [h9]; decide) (by decide) ?_
        refine r_aload_n dX7_about_114 rfl rfl ?_
        refine q_getr dX7_about_115 flX7_18 rfl rfl (m_fr_64_4 _) ?_
        refine r_iload_n dX7_about_118 rfl rfl ?_
        obtain ⟨h10, e⟩ := g_gd e
        refine q_iald dX7_about_119 rfl h10 ?_
        have e := Option.some.inj e
        subst e
        exact r_ret dX7_about_120 rfl rfl
      have e := g_iF h9 e
      by_cases h11 : a3 = 3
      · have e := g_iT h11 e
        refine r_tabIn (off := 138) (tgt := 168) dX7_about_30 (by rw [h11]; decide) (by rw [h11]; decide) (by rw [h11]; decide) (by decide) ?_
        refine r_iconst (x := (-1)) dX7_about_168 (by decide) ?_
        have e := Option.some.inj e
        subst e
        exact r_ret dX7_about_169 rfl rfl
      have e := g_iF h11 e
      by_cases h12 : a3 = 4
      · have e := g_iT h12 e
        refine r_tabIn (off := 138) (tgt := 168) dX7_about_30 (by rw [h12]; decide) (by rw [h12]; decide) (by rw [h12]; decide) (by decide) ?_
        refine r_iconst (x := (-1)) dX7_about_168 (by decide) ?_
        have e := Option.some.inj e
        subst e
        exact r_ret dX7_about_169 rfl rfl
      have e := g_iF h12 e
      by_cases h13 : a3 = 5
      · have e := g_iT h13 e
        refine r_tabIn (off := 138) (tgt := 168) dX7_about_30 (by rw [h13]; decide) (by rw [h13]; decide) (by rw [h13]; decide) (by decide) ?_
        refine r_iconst (x := (-1)) dX7_about_168 (by decide) ?_
        have e := Option.some.inj e
        subst e
        exact r_ret dX7_about_169 rfl rfl
      have e := g_iF h13 e
      by_cases h14 : a3 = 6
      · have e := g_iT h14 e
        refine r_tabIn (off := 138) (tgt := 168) dX7_about_30 (by rw [h14]; decide) (by rw [h14]; decide) (by rw [h14]; decide) (by decide) ?_
        refine r_iconst (x := (-1)) dX7_about_168 (by decide) ?_
        have e := Option.some.inj e
        subst e
        exact r_ret dX7_about_169 rfl rfl
      have e := g_iF h14 e
      by_cases h15 : a3 = 7
      · have e := g_iT h15 e
        refine r_tabIn (off := 138) (tgt := 168) dX7_about_30 (by rw [h15]; decide) (by rw [h15]; decide) (by rw [h15]; decide) (by decide) ?_
        refine r_iconst (x := (-1)) dX7_about_168 (by decide) ?_
        have e := Option.some.inj e
        subst e
        exact r_ret dX7_about_169 rfl rfl
      have e := g_iF h15 e
      by_cases h16 : a3 = 8
      · have e := g_iT h16 e
        refine r_tabIn (off := 138) (tgt := 168) dX7_about_30 (by rw [h16]; decide) (by rw [h16]; decide) (by rw [h16]; decide) (by decide) ?_
        refine r_iconst (x := (-1)) dX7_about_168 (by decide) ?_
        have e := Option.some.inj e
        subst e
        exact r_ret dX7_about_169 rfl rfl
      have e := g_iF h16 e
      by_cases h17 : a3 = 9
      · have e := g_iT h17 e
        refine r_tabIn (off := 138) (tgt := 168) dX7_about_30 (by rw [h17]; decide) (by rw [h17]; decide) (by rw [h17]; decide) (by decide) ?_
        refine r_iconst (x := (-1)) dX7_about_168 (by decide) ?_
        have e := Option.some.inj e
        subst e
        exact r_ret dX7_about_169 rfl rfl
      have e := g_iF h17 e
      by_cases h18 : a3 = 10
      · have e := g_iT h18 e
        refine r_tabIn (off := 91) (tgt := 121) dX7_about_30 (by rw [h18]; decide) (by rw [h18]; decide) (by rw [h18]; decide) (by decide) ?_
        refine r_aload_n dX7_about_121 rfl rfl ?_
        refine q_getr dX7_about_122 flX7_21 rfl rfl (m_fr_64_5 _) ?_
        refine r_iload dX7_about_125 rfl ?_
        obtain ⟨h19, e⟩ := g_gd e
        refine q_iald dX7_about_127 rfl h19 ?_
        have e := Option.some.inj e
        subst e
        exact r_ret dX7_about_128 rfl rfl
      have e := g_iF h18 e
      by_cases h20 : a3 = 11
      · have e := g_iT h20 e
        refine r_tabIn (off := 99) (tgt := 129) dX7_about_30 (by rw [h20]; decide) (by rw [h20]; decide) (by rw [h20]; decide) (by decide) ?_
        refine r_aload_n dX7_about_129 rfl rfl ?_
        refine q_getr dX7_about_130 flX7_21 rfl rfl (m_fr_64_5 _) ?_
        refine r_iload dX7_about_133 rfl ?_
        obtain ⟨h21, e⟩ := g_gd e
        refine q_iald dX7_about_135 rfl h21 ?_
        refine r_iconst (x := 1) dX7_about_136 (by decide) ?_
        refine r_icmp_ne (tgt := 150) dX7_about_137 (by decide) (fun h22 => ?_) (fun h22 => ?_)
        · have e := g_iF h22 e
          refine r_iconst (x := (-1)) dX7_about_150 (by decide) ?_
          have e := Option.some.inj e
          subst e
          exact r_ret dX7_about_151 rfl rfl
        · have e := g_iT h22 e
          refine r_aload_n dX7_about_140 rfl rfl ?_
          refine q_getr dX7_about_141 flX7_24 rfl rfl (m_fr_64_6 _) ?_
          refine r_iload dX7_about_144 rfl ?_
          refine q_iald dX7_about_146 rfl h21 ?_
          refine r_goto (tgt := 151) dX7_about_147 (by decide) ?_
          have e := Option.some.inj e
          subst e
          exact r_ret dX7_about_151 rfl rfl
      have e := g_iF h20 e
      by_cases h23 : a3 = 12
      · have e := g_iT h23 e
        refine r_tabIn (off := 122) (tgt := 152) dX7_about_30 (by rw [h23]; decide) (by rw [h23]; decide) (by rw [h23]; decide) (by decide) ?_
        refine r_aload_n dX7_about_152 rfl rfl ?_
        refine q_getr dX7_about_153 flX7_27 rfl rfl (m_fr_64_7 _) ?_
        refine r_iload dX7_about_156 rfl ?_
        obtain ⟨h24, e⟩ := g_gd e
        refine q_iald dX7_about_158 rfl h24 ?_
        have e := Option.some.inj e
        subst e
        exact r_ret dX7_about_159 rfl rfl
      have e := g_iF h23 e
      by_cases h25 : a3 = 13
      · have e := g_iT h25 e
        refine r_tabIn (off := 130) (tgt := 160) dX7_about_30 (by rw [h25]; decide) (by rw [h25]; decide) (by rw [h25]; decide) (by decide) ?_
        refine r_aload_n dX7_about_160 rfl rfl ?_
        refine q_getr dX7_about_161 flX7_30 rfl rfl (m_fr_64_8 _) ?_
        refine r_iload dX7_about_164 rfl ?_
        obtain ⟨h26, e⟩ := g_gd e
        refine q_iald dX7_about_166 rfl h26 ?_
        have e := Option.some.inj e
        subst e
        exact r_ret dX7_about_167 rfl rfl
      have e := g_iF h25 e
      refine r_tabOut (tgt := 168) dX7_about_30 (m_swOut0_14 h5 h7 h9 h11 h12 h13 h14 h15 h16 h17 h18 h20 h23 h25) (by decide) ?_
      refine r_iconst (x := (-1)) dX7_about_168 (by decide) ?_
      have e := Option.some.inj e
      subst e
      exact r_ret dX7_about_169 rfl rfl
    · have e := g_iF h4 e
      refine r_iload_n dX7_about_15 rfl rfl ?_
      refine r_if_eq (tgt := 21) dX7_about_16 (by decide) (fun h27 => ?_) (fun h27 => ?_)
      · have e := g_iT h27 e
        refine r_bipush (x := 6) dX7_about_21 (by decide) ?_
        refine r_iload_n dX7_about_23 rfl rfl ?_
        refine r_imul dX7_about_24 ?_
        refine r_iload_n dX7_about_25 rfl rfl ?_
        refine r_iadd dX7_about_26 ?_
        refine r_istore dX7_about_27 (by decide) rfl ?_
        refine r_iload_n dX7_about_29 rfl rfl ?_
        by_cases h28 : a3 = 0
        · have e := g_iT h28 e
          refine r_tabIn (off := 70) (tgt := 100) dX7_about_30 (by rw [h28]; decide) (by rw [h28]; decide) (by rw [h28]; decide) (by decide) ?_
          refine r_aload_n dX7_about_100 rfl rfl ?_
          refine q_getr dX7_about_101 flX7_9 rfl rfl (m_fr_64_2 _) ?_
          refine r_iload_n dX7_about_104 rfl rfl ?_
          obtain ⟨h29, e⟩ := g_gd e
          refine q_iald dX7_about_105 rfl h29 ?_
          have e := Option.some.inj e
          subst e
          exact r_ret dX7_about_106 rfl rfl
        have e := g_iF h28 e
        by_cases h30 : a3 = 1
        · have e := g_iT h30 e
          refine r_tabIn (off := 77) (tgt := 107) dX7_about_30 (by rw [h30]; decide) (by rw [h30]; decide) (by rw [h30]; decide) (by decide) ?_
          refine r_aload_n dX7_about_107 rfl rfl ?_
          refine q_getr dX7_about_108 flX7_15 rfl rfl (m_fr_64_3 _) ?_
          refine r_iload_n dX7_about_111 rfl rfl ?_
          obtain ⟨h31, e⟩ := g_gd e
          refine q_iald dX7_about_112 rfl h31 ?_
          have e := Option.some.inj e
          subst e
          exact r_ret dX7_about_113 rfl rfl
        have e := g_iF h30 e
        by_cases h32 : a3 = 2
        · have e := g_iT h32 e
          refine r_tabIn (off := 84) (tgt := 114) dX7_about_30 (by rw [h32]; decide) (by rw [h32]; decide) (by rw [h32]; decide) (by decide) ?_
          refine r_aload_n dX7_about_114 rfl rfl ?_
          refine q_getr dX7_about_115 flX7_18 rfl rfl (m_fr_64_4 _) ?_
          refine r_iload_n dX7_about_118 rfl rfl ?_
          obtain ⟨h33, e⟩ := g_gd e
          refine q_iald dX7_about_119 rfl h33 ?_
          have e := Option.some.inj e
          subst e
          exact r_ret dX7_about_120 rfl rfl
        have e := g_iF h32 e
        by_cases h34 : a3 = 3
        · have e := g_iT h34 e
          refine r_tabIn (off := 138) (tgt := 168) dX7_about_30 (by rw [h34]; decide) (by rw [h34]; decide) (by rw [h34]; decide) (by decide) ?_
          refine r_iconst (x := (-1)) dX7_about_168 (by decide) ?_
          have e := Option.some.inj e
          subst e
          exact r_ret dX7_about_169 rfl rfl
        have e := g_iF h34 e
        by_cases h35 : a3 = 4
        · have e := g_iT h35 e
          refine r_tabIn (off := 138) (tgt := 168) dX7_about_30 (by rw [h35]; decide) (by rw [h35]; decide) (by rw [h35]; decide) (by decide) ?_
          refine r_iconst (x := (-1)) dX7_about_168 (by decide) ?_
          have e := Option.some.inj e
          subst e
          exact r_ret dX7_about_169 rfl rfl
        have e := g_iF h35 e
        by_cases h36 : a3 = 5
        · have e := g_iT h36 e
          refine r_tabIn (off := 138) (tgt := 168) dX7_about_30 (by rw [h36]; decide) (by rw [h36]; decide) (by rw [h36]; decide) (by decide) ?_
          refine r_iconst (x := (-1)) dX7_about_168 (by decide) ?_
          have e := Option.some.inj e
          subst e
          exact r_ret dX7_about_169 rfl rfl
        have e := g_iF h36 e
        by_cases h37 : a3 = 6
        · have e := g_iT h37 e
          refine r_tabIn (off := 138) (tgt := 168) dX7_about_30 (by rw [h37]; decide) (by rw [h37]; decide) (by rw [h37]; decide) (by decide) ?_
          refine r_iconst (x := (-1)) dX7_about_168 (by decide) ?_
          have e := Option.some.inj e
          subst e
          exact r_ret dX7_about_169 rfl rfl
        have e := g_iF h37 e
        by_cases h38 : a3 = 7
        · have e := g_iT h38 e
          refine r_tabIn (off := 138) (tgt := 168) dX7_about_30 (by rw [h38]; decide) (by rw [h38]; decide) (by rw [h38]; decide) (by decide) ?_
          refine r_iconst (x := (-1)) dX7_about_168 (by decide) ?_
          have e := Option.some.inj e
          subst e
          exact r_ret dX7_about_169 rfl rfl
        have e := g_iF h38 e
        by_cases h39 : a3 = 8
        · have e := g_iT h39 e
          refine r_tabIn (off := 138) (tgt := 168) dX7_about_30 (by rw [h39]; decide) (by rw [h39]; decide) (by rw [h39]; decide) (by decide) ?_
          refine r_iconst (x := (-1)) dX7_about_168 (by decide) ?_
          have e := Option.some.inj e
          subst e
          exact r_ret dX7_about_169 rfl rfl
        have e := g_iF h39 e
        by_cases h40 : a3 = 9
        · have e := g_iT h40 e
          refine r_tabIn (off := 138) (tgt := 168) dX7_about_30 (by rw [h40]; decide) (by rw [h40]; decide) (by rw [h40]; decide) (by decide) ?_
          refine r_iconst (x := (-1)) dX7_about_168 (by decide) ?_
          have e := Option.some.inj e
          subst e
          exact r_ret dX7_about_169 rfl rfl
        have e := g_iF h40 e
        by_cases h41 : a3 = 10
        · have e := g_iT h41 e
          refine r_tabIn (off := 91) (tgt := 121) dX7_about_30 (by rw [h41]; decide) (by rw [h41]; decide) (by rw [h41]; decide) (by decide) ?_
          refine r_aload_n dX7_about_121 rfl rfl ?_
          refine q_getr dX7_about_122 flX7_21 rfl rfl (m_fr_64_5 _) ?_
          refine r_iload dX7_about_125 rfl ?_
          obtain ⟨h42, e⟩ := g_gd e
          refine q_iald dX7_about_127 rfl h42 ?_
          have e := Option.some.inj e
          subst e
          exact r_ret dX7_about_128 rfl rfl
        have e := g_iF h41 e
        by_cases h43 : a3 = 11
        · have e := g_iT h43 e
          refine r_tabIn (off := 99) (tgt := 129) dX7_about_30 (by rw [h43]; decide) (by rw [h43]; decide) (by rw [h43]; decide) (by decide) ?_
          refine r_aload_n dX7_about_129 rfl rfl ?_
          refine q_getr dX7_about_130 flX7_21 rfl rfl (m_fr_64_5 _) ?_
          refine r_iload dX7_about_133 rfl ?_
          obtain ⟨h44, e⟩ := g_gd e
          refine q_iald dX7_about_135 rfl h44 ?_
          refine r_iconst (x := 1) dX7_about_136 (by decide) ?_
          refine r_icmp_ne (tgt := 150) dX7_about_137 (by decide) (fun h45 => ?_) (fun h45 => ?_)
          · have e := g_iF h45 e
            refine r_iconst (x := (-1)) dX7_about_150 (by decide) ?_
            have e := Option.some.inj e
            subst e
            exact r_ret dX7_about_151 rfl rfl
          · have e := g_iT h45 e
            refine r_aload_n dX7_about_140 rfl rfl ?_
            refine q_getr dX7_about_141 flX7_24 rfl rfl (m_fr_64_6 _) ?_
            refine r_iload dX7_about_144 rfl ?_
            refine q_iald dX7_about_146 rfl h44 ?_
            refine r_goto (tgt := 151) dX7_about_147 (by decide) ?_
            have e := Option.some.inj e
            subst e
            exact r_ret dX7_about_151 rfl rfl
        have e := g_iF h43 e
        by_cases h46 : a3 = 12
        · have e := g_iT h46 e
          refine r_tabIn (off := 122) (tgt := 152) dX7_about_30 (by rw [h46]; decide) (by rw [h46]; decide) (by rw [h46]; decide) (by decide) ?_
          refine r_aload_n dX7_about_152 rfl rfl ?_
          refine q_getr dX7_about_153 flX7_27 rfl rfl (m_fr_64_7 _) ?_
          refine r_iload dX7_about_156 rfl ?_
          obtain ⟨h47, e⟩ := g_gd e
          refine q_iald dX7_about_158 rfl h47 ?_
          have e := Option.some.inj e
          subst e
          exact r_ret dX7_about_159 rfl rfl
        have e := g_iF h46 e
        by_cases h48 : a3 = 13
        · have e := g_iT h48 e
          refine r_tabIn (off := 130) (tgt := 160) dX7_about_30 (by rw [h48]; decide) (by rw [h48]; decide) (by rw [h48]; decide) (by decide) ?_
          refine r_aload_n dX7_about_160 rfl rfl ?_
          refine q_getr dX7_about_161 flX7_30 rfl rfl (m_fr_64_8 _) ?_
          refine r_iload dX7_about_164 rfl ?_
          obtain ⟨h49, e⟩ := g_gd e
          refine q_iald dX7_about_166 rfl h49 ?_
          have e := Option.some.inj e
          subst e
          exact r_ret dX7_about_167 rfl rfl
        have e := g_iF h48 e
        refine r_tabOut (tgt := 168) dX7_about_30 (m_swOut0_14 h28 h30 h32 h34 h35 h36 h37 h38 h39 h40 h41 h43 h46 h48) (by decide) ?_
        refine r_iconst (x := (-1)) dX7_about_168 (by decide) ?_
        have e := Option.some.inj e
        subst e
        exact r_ret dX7_about_169 rfl rfl
      · have e := g_iF h27 e
        refine r_iconst (x := (-1)) dX7_about_19 (by decide) ?_
        have e := Option.some.inj e
        subst e
        exact r_ret dX7_about_20 rfl rfl
