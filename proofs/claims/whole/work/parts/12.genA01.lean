/-! X7_maskedCell -/
def f_X7_maskedCell (g : (Nat → Nat → Int32)) (a1 : Int32) (a2 : Int32) (a3 : Int32) : Option Int32 :=
  (if m_in (f_X7_cell a1 a2 a3) 288 then
(if m_in ((6 * a1) + a3) 24 then
(if (g 70 ((6 * a1) + a3).toNatClampNeg) = 4 then
(if m_in a1 4 then
(if ¬ (g 66 a1.toNatClampNeg) = 0 then
(if m_in (f_X7_cell a1 (m_rem (a2 + (g 71 ((6 * a1) + a3).toNatClampNeg)) (g 66 a1.toNatClampNeg)) a3) 288 then
some (g 76 (f_X7_cell a1 (m_rem (a2 + (g 71 ((6 * a1) + a3).toNatClampNeg)) (g 66 a1.toNatClampNeg)) a3).toNatClampNeg) else none) else none) else none)
else
(if (g 76 (f_X7_cell a1 a2 a3).toNatClampNeg) = (-2147483648) then
some (-2147483648)
else
(if (g 70 ((6 * a1) + a3).toNatClampNeg) = 5 then
some (-2147483648)
else
(if (g 68 ((6 * a1) + a3).toNatClampNeg) = 1 then
(if m_in (6 * (g 69 ((6 * a1) + a3).toNatClampNeg)) 24 then
(if (g 70 (6 * (g 69 ((6 * a1) + a3).toNatClampNeg)).toNatClampNeg) = 1 then
((f_X7_turnedKey g (g 69 ((6 * a1) + a3).toNatClampNeg) (g 76 (f_X7_cell a1 a2 a3).toNatClampNeg)).bind fun v23 =>
some v23)
else
some (g 76 (f_X7_cell a1 a2 a3).toNatClampNeg)) else none)
else
(if (g 70 ((6 * a1) + a3).toNatClampNeg) = 1 then
(if (g 68 ((6 * a1) + a3).toNatClampNeg) = 0 then
((f_X7_turnedKey g a1 (g 76 (f_X7_cell a1 a2 a3).toNatClampNeg)).bind fun v11 =>
some v11)
else
((f_X7_turnedName g ((6 * a1) + a3) (g 76 (f_X7_cell a1 a2 a3).toNatClampNeg)).bind fun v9 =>
some v9))
else
(if (g 70 ((6 * a1) + a3).toNatClampNeg) = 2 then
((f_X7_ownerOf g a1 a2).bind fun v14 =>
((f_X7_shiftOf g v14).bind fun v16 =>
some ((g 76 (f_X7_cell a1 a2 a3).toNatClampNeg) + v16)))
else
(if (g 70 ((6 * a1) + a3).toNatClampNeg) = 3 then
((f_X7_coarse (g 76 (f_X7_cell a1 a2 a3).toNatClampNeg) (g 71 ((6 * a1) + a3).toNatClampNeg)).bind fun v19 =>
some v19)
else
some (g 76 (f_X7_cell a1 a2 a3).toNatClampNeg)))))))) else none) else none)
set_option maxRecDepth 100000 in
set_option maxHeartbeats 4000000 in
theorem c_X7_maskedCell {G : mG} {g : (Nat → Nat → Int32)} {b : Bool} {a1 : Int32} {a2 : Int32} {a3 : Int32} {R : Int32} (e : f_X7_maskedCell g a1 a2 a3 = some R) : MC G mX7_maskedCell 4 0 0 [.ref 64, .int a1, .int a2, .int a3] (m_h g b) (some (.int R)) (m_h g b) := by
  refine MC_intro mlX7_maskedCell (Nat.le_of_ble_eq_true rfl) ⟨_, rfl⟩ rfl trivial ?_
  unfold f_X7_maskedCell at e
  refine r_bipush (x := 6) dX7_maskedCell_0 (by decide) ?_
  refine r_iload_n dX7_maskedCell_2 rfl rfl ?_
  refine r_imul dX7_maskedCell_3 ?_
  refine r_iload_n dX7_maskedCell_4 rfl rfl ?_
  refine r_iadd dX7_maskedCell_5 ?_
  refine r_istore dX7_maskedCell_6 (by decide) rfl ?_
  refine r_aload_n dX7_maskedCell_8 rfl rfl ?_
  refine q_getr dX7_maskedCell_9 flX7_45 rfl rfl (m_fr_64_14 _) ?_
  refine r_iload_n dX7_maskedCell_12 rfl rfl ?_
  refine r_iload_n dX7_maskedCell_13 rfl rfl ?_
  refine r_iload_n dX7_maskedCell_14 rfl rfl ?_
  refine q_callS (rest := [.ref 76]) (c_X7_cell rfl) dX7_maskedCell_15 lkX7_127 rfl rfl (Nat.le_of_ble_eq_true rfl) (by decide) ?_
  obtain ⟨h1, e⟩ := g_gd e
  refine q_iald dX7_maskedCell_18 rfl h1 ?_
  refine r_istore dX7_maskedCell_19 (by decide) rfl ?_
  refine r_aload_n dX7_maskedCell_21 rfl rfl ?_
  refine q_getr dX7_maskedCell_22 flX7_27 rfl rfl (m_fr_64_7 _) ?_
  refine r_iload dX7_maskedCell_25 rfl ?_
  obtain ⟨h2, e⟩ := g_gd e
  refine q_iald dX7_maskedCell_27 rfl h2 ?_
  refine r_iconst (x := 4) dX7_maskedCell_28 (by decide) ?_
  refine r_icmp_ne (tgt := 59) dX7_maskedCell_29 (by decide) (fun h3 => ?_) (fun h3 => ?_)
  · have e := g_iF h3 e
    refine r_iload dX7_maskedCell_59 rfl ?_
    refine r_ldc (x := (-2147483648)) dX7_maskedCell_61 kcX7_119 ?_
    refine r_icmp_eq (tgt := 77) dX7_maskedCell_63 (by decide) (fun h4 => ?_) (fun h4 => ?_)
    · have e := g_iT h4 e
      refine r_ldc (x := (-2147483648)) dX7_maskedCell_77 kcX7_119 ?_
      have e := Option.some.inj e
      subst e
      exact r_ret dX7_maskedCell_79 rfl rfl
    · have e := g_iF h4 e
      refine r_aload_n dX7_maskedCell_66 rfl rfl ?_
      refine q_getr dX7_maskedCell_67 flX7_27 rfl rfl (m_fr_64_7 _) ?_
      refine r_iload dX7_maskedCell_70 rfl ?_
      refine q_iald dX7_maskedCell_72 rfl h2 ?_
      refine r_iconst (x := 5) dX7_maskedCell_73 (by decide) ?_
      refine r_icmp_ne (tgt := 80) dX7_maskedCell_74 (by decide) (fun h5 => ?_) (fun h5 => ?_)
      · have e := g_iF h5 e
        refine r_aload_n dX7_maskedCell_80 rfl rfl ?_
        refine q_getr dX7_maskedCell_81 flX7_21 rfl rfl (m_fr_64_5 _) ?_
        refine r_iload dX7_maskedCell_84 rfl ?_
        refine q_iald dX7_maskedCell_86 rfl h2 ?_
        refine r_iconst (x := 1) dX7_maskedCell_87 (by decide) ?_
        refine r_icmp_ne (tgt := 129) dX7_maskedCell_88 (by decide) (fun h6 => ?_) (fun h6 => ?_)
        · have e := g_iF h6 e
          refine r_aload_n dX7_maskedCell_129 rfl rfl ?_
          refine q_getr dX7_maskedCell_130 flX7_27 rfl rfl (m_fr_64_7 _) ?_
          refine r_iload dX7_maskedCell_133 rfl ?_
          refine q_iald dX7_maskedCell_135 rfl h2 ?_
          by_cases h7 : (g 70 ((6 * a1) + a3).toNatClampNeg) = 1
          · have e := g_iT h7 e
            refine r_tabIn (off := 28) (tgt := 164) dX7_maskedCell_136 (by rw [h7]; decide) (by rw [h7]; decide) (by rw [h7]; decide) (by decide) ?_
            refine r_aload_n dX7_maskedCell_164 rfl rfl ?_
            refine q_getr dX7_maskedCell_165 flX7_21 rfl rfl (m_fr_64_5 _) ?_
            refine r_iload dX7_maskedCell_168 rfl ?_
            refine q_iald dX7_maskedCell_170 rfl h2 ?_
            refine r_if_ne (tgt := 184) dX7_maskedCell_171 (by decide) (fun h8 => ?_) (fun h8 => ?_)
            · have e := g_iF h8 e
              refine r_aload_n dX7_maskedCell_184 rfl rfl ?_
              refine r_iload dX7_maskedCell_185 rfl ?_
              refine r_iload dX7_maskedCell_187 rfl ?_
              obtain ⟨v9, h10, e⟩ := g_bd e
              refine q_callV (rest := []) (c_X7_turnedName h10) dX7_maskedCell_189 lkX7_150 rfl rfl rfl rfl (Nat.le_of_ble_eq_true rfl) (by decide) ?_
              have e := Option.some.inj e
              subst e
              exact r_ret dX7_maskedCell_192 rfl rfl
            · have e := g_iT h8 e
              refine r_aload_n dX7_maskedCell_174 rfl rfl ?_
              refine r_iload_n dX7_maskedCell_175 rfl rfl ?_
              refine r_iload dX7_maskedCell_176 rfl ?_
              obtain ⟨v11, h12, e⟩ := g_bd e
              refine q_callV (rest := []) (c_X7_turnedKey h12) dX7_maskedCell_178 lkX7_147 rfl rfl rfl rfl (Nat.le_of_ble_eq_true rfl) (by decide) ?_
              refine r_goto (tgt := 192) dX7_maskedCell_181 (by decide) ?_
              have e := Option.some.inj e
              subst e
              exact r_ret dX7_maskedCell_192 rfl rfl
          have e := g_iF h7 e
          by_cases h13 : (g 70 ((6 * a1) + a3).toNatClampNeg) = 2
          · have e := g_iT h13 e
            refine r_tabIn (off := 57) (tgt := 193) dX7_maskedCell_136 (by rw [h13]; decide) (by rw [h13]; decide) (by rw [h13]; decide) (by decide) ?_
            refine r_iload dX7_maskedCell_193 rfl ?_
            refine r_aload_n dX7_maskedCell_195 rfl rfl ?_
            refine r_aload_n dX7_maskedCell_196 rfl rfl ?_
            refine r_iload_n dX7_maskedCell_197 rfl rfl ?_
            refine r_iload_n dX7_maskedCell_198 rfl rfl ?_
            obtain ⟨v14, h15, e⟩ := g_bd e
            refine q_callV (rest := [.ref 64, .int (g 76 (f_X7_cell a1 a2 a3).toNatClampNeg)]) (c_X7_ownerOf h15) dX7_maskedCell_199 lkX7_143 rfl rfl rfl rfl (Nat.le_of_ble_eq_true rfl) (by decide) ?_
            obtain ⟨v16, h17, e⟩ := g_bd e
            refine q_callV (rest := [.int (g 76 (f_X7_cell a1 a2 a3).toNatClampNeg)]) (c_X7_shiftOf h17) dX7_maskedCell_202 lkX7_153 rfl rfl rfl rfl (Nat.le_of_ble_eq_true rfl) (by decide) ?_
            refine r_iadd dX7_maskedCell_205 ?_
            have e := Option.some.inj e
            subst e
            exact r_ret dX7_maskedCell_206 rfl rfl
          have e := g_iF h13 e
          by_cases h18 : (g 70 ((6 * a1) + a3).toNatClampNeg) = 3
          · have e := g_iT h18 e
            refine r_tabIn (off := 71) (tgt := 207) dX7_maskedCell_136 (by rw [h18]; decide) (by rw [h18]; decide) (by rw [h18]; decide) (by decide) ?_
            refine r_iload dX7_maskedCell_207 rfl ?_
            refine r_aload_n dX7_maskedCell_209 rfl rfl ?_
            refine q_getr dX7_maskedCell_210 flX7_30 rfl rfl (m_fr_64_8 _) ?_
            refine r_iload dX7_maskedCell_213 rfl ?_
            refine q_iald dX7_maskedCell_215 rfl h2 ?_
            obtain ⟨v19, h20, e⟩ := g_bd e
            refine q_callS (rest := []) (c_X7_coarse h20) dX7_maskedCell_216 lkX7_156 rfl rfl (Nat.le_of_ble_eq_true rfl) (by decide) ?_
            have e := Option.some.inj e
            subst e
            exact r_ret dX7_maskedCell_219 rfl rfl
          have e := g_iF h18 e
          refine r_tabOut (tgt := 220) dX7_maskedCell_136 (m_swOut1_3 h7 h13 h18) (by decide) ?_
          refine r_iload dX7_maskedCell_220 rfl ?_
          have e := Option.some.inj e
          subst e
          exact r_ret dX7_maskedCell_222 rfl rfl
        · have e := g_iT h6 e
          refine r_aload_n dX7_maskedCell_91 rfl rfl ?_
          refine q_getr dX7_maskedCell_92 flX7_27 rfl rfl (m_fr_64_7 _) ?_
          refine r_bipush (x := 6) dX7_maskedCell_95 (by decide) ?_
          refine r_aload_n dX7_maskedCell_97 rfl rfl ?_
          refine q_getr dX7_maskedCell_98 flX7_24 rfl rfl (m_fr_64_6 _) ?_
          refine r_iload dX7_maskedCell_101 rfl ?_
          refine q_iald dX7_maskedCell_103 rfl h2 ?_
          refine r_imul dX7_maskedCell_104 ?_
          obtain ⟨h21, e⟩ := g_gd e
          refine q_iald dX7_maskedCell_105 rfl h21 ?_
          refine r_iconst (x := 1) dX7_maskedCell_106 (by decide) ?_
          refine r_icmp_ne (tgt := 126) dX7_maskedCell_107 (by decide) (fun h22 => ?_) (fun h22 => ?_)
          · have e := g_iF h22 e
            refine r_iload dX7_maskedCell_126 rfl ?_
            have e := Option.some.inj e
            subst e
            exact r_ret dX7_maskedCell_128 rfl rfl
          · have e := g_iT h22 e
            refine r_aload_n dX7_maskedCell_110 rfl rfl ?_
            refine r_aload_n dX7_maskedCell_111 rfl rfl ?_
            refine q_getr dX7_maskedCell_112 flX7_24 rfl rfl (m_fr_64_6 _) ?_
            refine r_iload dX7_maskedCell_115 rfl ?_
            refine q_iald dX7_maskedCell_117 rfl h2 ?_
            refine r_iload dX7_maskedCell_118 rfl ?_
            obtain ⟨v23, h24, e⟩ := g_bd e
            refine q_callV (rest := []) (c_X7_turnedKey h24) dX7_maskedCell_120 lkX7_147 rfl rfl rfl rfl (Nat.le_of_ble_eq_true rfl) (by decide) ?_
            refine r_goto (tgt := 128) dX7_maskedCell_123 (by decide) ?_
            have e := Option.some.inj e
            subst e
            exact r_ret dX7_maskedCell_128 rfl rfl
      · have e := g_iT h5 e
        refine r_ldc (x := (-2147483648)) dX7_maskedCell_77 kcX7_119 ?_
        have e := Option.some.inj e
        subst e
        exact r_ret dX7_maskedCell_79 rfl rfl
  · have e := g_iT h3 e
    refine r_aload_n dX7_maskedCell_32 rfl rfl ?_
    refine q_getr dX7_maskedCell_33 flX7_45 rfl rfl (m_fr_64_14 _) ?_
    refine r_iload_n dX7_maskedCell_36 rfl rfl ?_
    refine r_iload_n dX7_maskedCell_37 rfl rfl ?_
    refine r_aload_n dX7_maskedCell_38 rfl rfl ?_
    refine q_getr dX7_maskedCell_39 flX7_30 rfl rfl (m_fr_64_8 _) ?_
    refine r_iload dX7_maskedCell_42 rfl ?_
    refine q_iald dX7_maskedCell_44 rfl h2 ?_
    refine r_iadd dX7_maskedCell_45 ?_
    refine r_aload_n dX7_maskedCell_46 rfl rfl ?_
    refine q_getr dX7_maskedCell_47 flX7_15 rfl rfl (m_fr_64_3 _) ?_
    refine r_iload_n dX7_maskedCell_50 rfl rfl ?_
    obtain ⟨h25, e⟩ := g_gd e
    refine q_iald dX7_maskedCell_51 rfl h25 ?_
    obtain ⟨h26, e⟩ := g_gd e
    refine q_irem dX7_maskedCell_52 h26 ?_
    refine r_iload_n dX7_maskedCell_53 rfl rfl ?_
    refine q_callS (rest := [.ref 76]) (c_X7_cell rfl) dX7_maskedCell_54 lkX7_127 rfl rfl (Nat.le_of_ble_eq_true rfl) (by decide) ?_
    obtain ⟨h27, e⟩ := g_gd e
    refine q_iald dX7_maskedCell_57 rfl h27 ?_
    have e := Option.some.inj e
    subst e
    exact r_ret dX7_maskedCell_58 rfl rfl
/-! X7_maskTable -/
def lp_X7_maskTable_14 (a1 : Int32) (y2_2 : Int32) (k2 : (Int32 → (Nat → Nat → Int32) → Option (Nat → Nat → Int32))) : Nat → Int32 → (Nat → Nat → Int32) → Option (Nat → Nat → Int32)
  | 0, _, _ => none
  | n + 1, y14_3, g14 =>
  (if m_in a1 4 then
(if (g14 65 a1.toNatClampNeg) ≤ y14_3 then
k2 (y2_2 + 1) g14
else
((f_X7_maskedCell g14 a1 y2_2 y14_3).bind fun v14003 =>
(if m_in (f_X7_cell a1 y2_2 y14_3) 288 then
(m_let (m_up g14 78 (f_X7_cell a1 y2_2 y14_3).toNatClampNeg v14003) fun g14006 =>
lp_X7_maskTable_14 a1 y2_2 k2 n (y14_3 + 1) g14006) else none))) else none)
def lp_X7_maskTable_2 (a1 : Int32) : Nat → Int32 → (Nat → Nat → Int32) → Option (Nat → Nat → Int32)
  | 0, _, _ => none
  | n + 1, y2_2, g2 =>
  (if m_in a1 4 then
(if (g2 66 a1.toNatClampNeg) ≤ y2_2 then
some g2
else
lp_X7_maskTable_14 a1 y2_2 (fun y2_2 g2 => lp_X7_maskTable_2 a1 n y2_2 g2) 2000 0 g2) else none)
def f_X7_maskTable (g : (Nat → Nat → Int32)) (a1 : Int32) : Option (Nat → Nat → Int32) :=
  lp_X7_maskTable_2 a1 2000 0 g
set_option maxRecDepth 100000 in
set_option maxHeartbeats 4000000 in
theorem w_X7_maskTable_14 {G : mG} {b : Bool} {a1 : Int32} {y2_2 : Int32} {k2 : (Int32 → (Nat → Nat → Int32) → Option (Nat → Nat → Int32))} (hk2 : ∀ (y2_2 : Int32) (g2 : (Nat → Nat → Int32)) (R : (Nat → Nat → Int32)), k2 y2_2 g2 = some R → MW G mX7_maskTable 5 0 0 2 [.ref 64, .int a1, .int y2_2, .retAddr 0] [] (m_h g2 b) none (m_h R b)) : ∀ (n : Nat) (y14_3 : Int32) (g14 : (Nat → Nat → Int32)) (R : (Nat → Nat → Int32)), lp_X7_maskTable_14 a1 y2_2 k2 n y14_3 g14 = some R → MW G mX7_maskTable 5 0 0 14 [.ref 64, .int a1, .int y2_2, .int y14_3] [] (m_h g14 b) none (m_h R b)
  | 0, _, _, R, e => absurd (show (none : Option (Nat → Nat → Int32)) = some R from e) (fun h => by cases h)
  | n + 1, y14_3, g14, R, e => by
    rw [lp_X7_maskTable_14] at e
    refine r_iload_n dX7_maskTable_14 rfl rfl ?_
    refine r_aload_n dX7_maskTable_15 rfl rfl ?_
    refine q_getr dX7_maskTable_16 flX7_9 rfl rfl (m_fr_64_2 _) ?_
    refine r_iload_n dX7_maskTable_19 rfl rfl ?_
    obtain ⟨h14001, e⟩ := g_gd e
    refine q_iald dX7_maskTable_20 rfl h14001 ?_
    refine r_icmp_ge (tgt := 48) dX7_maskTable_21 (by decide) (fun h14002 => ?_) (fun h14002 => ?_)
    · have e := g_iT h14002 e
      refine r_iinc (y := 1) dX7_maskTable_48 rfl (by decide) (by decide) rfl ?_
      refine r_goto (tgt := 2) dX7_maskTable_51 (by decide) ?_
      refine r_forget 3 rfl ?_
      exact hk2 _ _ R e
    · have e := g_iF h14002 e
      refine r_aload_n dX7_maskTable_24 rfl rfl ?_
      refine q_getr dX7_maskTable_25 flX7_51 rfl rfl (m_fr_64_17 _) ?_
      refine r_iload_n dX7_maskTable_28 rfl rfl ?_
      refine r_iload_n dX7_maskTable_29 rfl rfl ?_
      refine r_iload_n dX7_maskTable_30 rfl rfl ?_
      refine q_callS (rest := [.ref 78]) (c_X7_cell rfl) dX7_maskTable_31 lkX7_127 rfl rfl (Nat.le_of_ble_eq_true rfl) (by decide) ?_
      refine r_aload_n dX7_maskTable_34 rfl rfl ?_
      refine r_iload_n dX7_maskTable_35 rfl rfl ?_
      refine r_iload_n dX7_maskTable_36 rfl rfl ?_
      refine r_iload_n dX7_maskTable_37 rfl rfl ?_
      obtain ⟨v14003, h14004, e⟩ := g_bd e
      refine q_callV (rest := [.int (f_X7_cell a1 y2_2 y14_3), .ref 78]) (c_X7_maskedCell h14004) dX7_maskTable_38 lkX7_159 rfl rfl rfl rfl (Nat.le_of_ble_eq_true rfl) (by decide) ?_
      obtain ⟨h14005, e⟩ := g_gd e
      refine q_iastL dX7_maskTable_41 rfl h14005 (fun g14006 h14007 => ?_)
      have e := g_lt h14007 e
      refine r_iinc (y := 1) dX7_maskTable_42 rfl (by decide) (by decide) rfl ?_
      refine r_goto (tgt := 14) dX7_maskTable_45 (by decide) ?_
      exact w_X7_maskTable_14 hk2 n _ _ R e
set_option maxRecDepth 100000 in
set_option maxHeartbeats 4000000 in
theorem w_X7_maskTable_2 {G : mG} {b : Bool} {a1 : Int32} : ∀ (n : Nat) (y2_2 : Int32) (g2 : (Nat → Nat → Int32)) (R : (Nat → Nat → Int32)), lp_X7_maskTable_2 a1 n y2_2 g2 = some R → MW G mX7_maskTable 5 0 0 2 [.ref 64, .int a1, .int y2_2, .retAddr 0] [] (m_h g2 b) none (m_h R b)
  | 0, _, _, R, e => absurd (show (none : Option (Nat → Nat → Int32)) = some R from e) (fun h => by cases h)
  | n + 1, y2_2, g2, R, e => by
    rw [lp_X7_maskTable_2] at e
    refine r_iload_n dX7_maskTable_2 rfl rfl ?_
    refine r_aload_n dX7_maskTable_3 rfl rfl ?_
    refine q_getr dX7_maskTable_4 flX7_15 rfl rfl (m_fr_64_3 _) ?_
    refine r_iload_n dX7_maskTable_7 rfl rfl ?_
    obtain ⟨h2001, e⟩ := g_gd e
    refine q_iald dX7_maskTable_8 rfl h2001 ?_
    refine r_icmp_ge (tgt := 54) dX7_maskTable_9 (by decide) (fun h2002 => ?_) (fun h2002 => ?_)
    · have e := g_iT h2002 e
      have e := Option.some.inj e
      subst e
      exact r_ret dX7_maskTable_54 rfl rfl
    · have e := g_iF h2002 e
      refine r_iconst (x := 0) dX7_maskTable_12 (by decide) ?_
      refine r_istore_n dX7_maskTable_13 rfl (by decide) rfl ?_
      exact w_X7_maskTable_14 (fun y2_2 g2 R e => w_X7_maskTable_2 n y2_2 g2 R e) 2000 _ _ R e
set_option maxRecDepth 100000 in
set_option maxHeartbeats 4000000 in
theorem c_X7_maskTable {G : mG} {g : (Nat → Nat → Int32)} {b : Bool} {a1 : Int32} {R : (Nat → Nat → Int32)} (e : f_X7_maskTable g a1 = some R) : MC G mX7_maskTable 5 0 0 [.ref 64, .int a1] (m_h g b) none (m_h R b) := by
  refine MC_intro mlX7_maskTable (Nat.le_of_ble_eq_true rfl) rfl rfl trivial ?_
  unfold f_X7_maskTable at e
  refine r_iconst (x := 0) dX7_maskTable_0 (by decide) ?_
  refine r_istore_n dX7_maskTable_1 rfl (by decide) rfl ?_
  exact w_X7_maskTable_2 2000 _ _ R e
/-! X7_rule -/
def f_X7_rule (g : (Nat → Nat → Int32)) (a1 : Int32) (a2 : Int32) (a3 : Int32) (a4 : Int32) : Option (Int32 × (Nat → Nat → Int32)) :=
  (if m_in (g 64 20) 8 then
(m_let (m_up g 80 (g 64 20).toNatClampNeg a1) fun g2 =>
(if m_in (g2 64 20) 8 then
(m_let (m_up g2 81 (g2 64 20).toNatClampNeg a2) fun g5 =>
(if m_in (g5 64 20) 8 then
(m_let (m_up g5 82 (g5 64 20).toNatClampNeg a3) fun g8 =>
(if m_in (g8 64 20) 8 then
(m_let (m_up g8 83 (g8 64 20).toNatClampNeg a4) fun g11 =>
(if m_in (g11 64 20) 8 then
(m_let (m_up g11 86 (g11 64 20).toNatClampNeg 0) fun g14 =>
(m_let (m_up g14 64 20 ((g14 64 20) + 1)) fun g16 =>
some (((g16 64 20) - 1), g16))) else none)) else none)) else none)) else none)) else none)
set_option maxRecDepth 100000 in
set_option maxHeartbeats 4000000 in
theorem c_X7_rule {G : mG} {g : (Nat → Nat → Int32)} {b : Bool} {a1 : Int32} {a2 : Int32} {a3 : Int32} {a4 : Int32} {R : (Int32 × (Nat → Nat → Int32))} (e : f_X7_rule g a1 a2 a3 a4 = some R) : MC G mX7_rule 0 0 0 [.ref 64, .int a1, .int a2, .int a3, .int a4] (m_h g b) (some (.int R.1)) (m_h R.2 b) := by
  refine MC_intro mlX7_rule (Nat.le_of_ble_eq_true rfl) ⟨_, rfl⟩ rfl trivial ?_
  unfold f_X7_rule at e
  refine r_aload_n dX7_rule_0 rfl rfl ?_
  refine q_getr dX7_rule_1 flX7_57 rfl rfl (m_fr_64_21 _) ?_
  refine r_aload_n dX7_rule_4 rfl rfl ?_
  refine q_geti dX7_rule_5 flX7_162 rfl rfl ?_
  refine r_iload_n dX7_rule_8 rfl rfl ?_
  obtain ⟨h1, e⟩ := g_gd e
  refine q_iastL dX7_rule_9 rfl h1 (fun g2 h3 => ?_)
  have e := g_lt h3 e
  refine r_aload_n dX7_rule_10 rfl rfl ?_
  refine q_getr dX7_rule_11 flX7_60 rfl rfl (m_fr_64_22 _) ?_
  refine r_aload_n dX7_rule_14 rfl rfl ?_
  refine q_geti dX7_rule_15 flX7_162 rfl rfl ?_
  refine r_iload_n dX7_rule_18 rfl rfl ?_
  obtain ⟨h4, e⟩ := g_gd e
  refine q_iastL dX7_rule_19 rfl h4 (fun g5 h6 => ?_)
  have e := g_lt h6 e
  refine r_aload_n dX7_rule_20 rfl rfl ?_
  refine q_getr dX7_rule_21 flX7_63 rfl rfl (m_fr_64_23 _) ?_
  refine r_aload_n dX7_rule_24 rfl rfl ?_
  refine q_geti dX7_rule_25 flX7_162 rfl rfl ?_
  refine r_iload_n dX7_rule_28 rfl rfl ?_
  obtain ⟨h7, e⟩ := g_gd e
  refine q_iastL dX7_rule_29 rfl h7 (fun g8 h9 => ?_)
  have e := g_lt h9 e
  refine r_aload_n dX7_rule_30 rfl rfl ?_
  refine q_getr dX7_rule_31 flX7_66 rfl rfl (m_fr_64_24 _) ?_
  refine r_aload_n dX7_rule_34 rfl rfl ?_
  refine q_geti dX7_rule_35 flX7_162 rfl rfl ?_
  refine r_iload dX7_rule_38 rfl ?_
  obtain ⟨h10, e⟩ := g_gd e
  refine q_iastL dX7_rule_40 rfl h10 (fun g11 h12 => ?_)
  have e := g_lt h12 e
  refine r_aload_n dX7_rule_41 rfl rfl ?_
  refine q_getr dX7_rule_42 flX7_75 rfl rfl (m_fr_64_27 _) ?_
  refine r_aload_n dX7_rule_45 rfl rfl ?_
  refine q_geti dX7_rule_46 flX7_162 rfl rfl ?_
  refine r_iconst (x := 0) dX7_rule_49 (by decide) ?_
  obtain ⟨h13, e⟩ := g_gd e
  refine q_zastL dX7_rule_50 rfl h13 (by decide) (fun g14 h15 => ?_)
  have e := g_lt h15 e
  refine r_aload_n dX7_rule_51 rfl rfl ?_
  refine r_dup dX7_rule_52 ?_
  refine q_geti dX7_rule_53 flX7_162 rfl rfl ?_
  refine r_iconst (x := 1) dX7_rule_56 (by decide) ?_
  refine r_iadd dX7_rule_57 ?_
  refine q_putiL dX7_rule_58 flX7_162 (Or.inl rfl) (Or.inl rfl) rfl (fun g16 h17 => ?_)
  have e := g_lt h17 e
  refine r_aload_n dX7_rule_61 rfl rfl ?_
  refine q_geti dX7_rule_62 flX7_162 rfl rfl ?_
  refine r_iconst (x := 1) dX7_rule_65 (by decide) ?_
  refine r_isub dX7_rule_66 ?_
  have e := Option.some.inj e
  subst e
  exact r_ret dX7_rule_67 rfl rfl
/-! X7_order -/
def f_X7_order (g : (Nat → Nat → Int32)) (a1 : Int32) (a2 : Int32) (a3 : Int32) : Option (Int32 × (Nat → Nat → Int32)) :=
  ((f_X7_isColumn g a1 a2).bind fun v1 =>
(bif v1 then
((f_X7_isColumn g a1 a3).bind fun v4 =>
(bif v4 then
(if a2 = a3 then
some ((-2), g)
else
(if m_in ((6 * a1) + a2) 24 then
(if (g 68 ((6 * a1) + a2).toNatClampNeg) = 2 then
(if m_in ((6 * a1) + a3) 24 then
(if (g 68 ((6 * a1) + a3).toNatClampNeg) = 2 then
(if (g 64 20) = 8 then
some ((-4), g)
else
((f_X7_rule g 0 a1 a2 a3).bind fun v13 =>
some (v13.1, v13.2)))
else
some ((-2), g)) else none)
else
some ((-2), g)) else none))
else
some ((-1), g)))
else
some ((-1), g)))
set_option maxRecDepth 100000 in
set_option maxHeartbeats 4000000 in
theorem c_X7_order {G : mG} {g : (Nat → Nat → Int32)} {b : Bool} {a1 : Int32} {a2 : Int32} {a3 : Int32} {R : (Int32 × (Nat → Nat → Int32))} (e : f_X7_order g a1 a2 a3 = some R) : MC G mX7_order 3 0 0 [.ref 64, .int a1, .int a2, .int a3] (m_h g b) (some (.int R.1)) (m_h R.2 b) := by
  refine MC_intro mlX7_order (Nat.le_of_ble_eq_true rfl) ⟨_, rfl⟩ rfl trivial ?_
  unfold f_X7_order at e
  refine r_aload_n dX7_order_0 rfl rfl ?_
  refine r_iload_n dX7_order_1 rfl rfl ?_
  refine r_iload_n dX7_order_2 rfl rfl ?_
  obtain ⟨v1, h2, e⟩ := g_bd e
  refine q_callV (rest := []) (c_X7_isColumn h2) dX7_order_3 lkX7_131 rfl rfl rfl rfl (Nat.le_of_ble_eq_true rfl) (by decide) ?_
  refine r_ifeqB (tgt := 18) dX7_order_6 (by decide) (fun h3 => ?_) (fun h3 => ?_)
  · have e := g_cF h3 e
    refine r_iconst (x := (-1)) dX7_order_18 (by decide) ?_
    have e := Option.some.inj e
    subst e
    exact r_ret dX7_order_19 rfl rfl
  · have e := g_cT h3 e
    refine r_aload_n dX7_order_9 rfl rfl ?_
    refine r_iload_n dX7_order_10 rfl rfl ?_
    refine r_iload_n dX7_order_11 rfl rfl ?_
    obtain ⟨v4, h5, e⟩ := g_bd e
    refine q_callV (rest := []) (c_X7_isColumn h5) dX7_order_12 lkX7_131 rfl rfl rfl rfl (Nat.le_of_ble_eq_true rfl) (by decide) ?_
    refine r_ifneB (tgt := 20) dX7_order_15 (by decide) (fun h6 => ?_) (fun h6 => ?_)
    · have e := g_cT h6 e
      refine r_iload_n dX7_order_20 rfl rfl ?_
      refine r_iload_n dX7_order_21 rfl rfl ?_
      refine r_icmp_eq (tgt := 55) dX7_order_22 (by decide) (fun h7 => ?_) (fun h7 => ?_)
      · have e := g_iT h7 e
        refine r_bipush (x := (-2)) dX7_order_55 (by decide) ?_
        have e := Option.some.inj e
        subst e
        exact r_ret dX7_order_57 rfl rfl
      · have e := g_iF h7 e
        refine r_aload_n dX7_order_25 rfl rfl ?_
        refine q_getr dX7_order_26 flX7_21 rfl rfl (m_fr_64_5 _) ?_
        refine r_bipush (x := 6) dX7_order_29 (by decide) ?_
        refine r_iload_n dX7_order_31 rfl rfl ?_
        refine r_imul dX7_order_32 ?_
        refine r_iload_n dX7_order_33 rfl rfl ?_
        refine r_iadd dX7_order_34 ?_
        obtain ⟨h8, e⟩ := g_gd e
        refine q_iald dX7_order_35 rfl h8 ?_
        refine r_iconst (x := 2) dX7_order_36 (by decide) ?_
        refine r_icmp_ne (tgt := 55) dX7_order_37 (by decide) (fun h9 => ?_) (fun h9 => ?_)
        · have e := g_iF h9 e
          refine r_bipush (x := (-2)) dX7_order_55 (by decide) ?_
          have e := Option.some.inj e
          subst e
          exact r_ret dX7_order_57 rfl rfl
        · have e := g_iT h9 e
          refine r_aload_n dX7_order_40 rfl rfl ?_
          refine q_getr dX7_order_41 flX7_21 rfl rfl (m_fr_64_5 _) ?_
          refine r_bipush (x := 6) dX7_order_44 (by decide) ?_
          refine r_iload_n dX7_order_46 rfl rfl ?_
          refine r_imul dX7_order_47 ?_
          refine r_iload_n dX7_order_48 rfl rfl ?_
          refine r_iadd dX7_order_49 ?_
          obtain ⟨h10, e⟩ := g_gd e
          refine q_iald dX7_order_50 rfl h10 ?_
          refine r_iconst (x := 2) dX7_order_51 (by decide) ?_
          refine r_icmp_eq (tgt := 58) dX7_order_52 (by decide) (fun h11 => ?_) (fun h11 => ?_)
          · have e := g_iT h11 e
            refine r_aload_n dX7_order_58 rfl rfl ?_
            refine q_geti dX7_order_59 flX7_162 rfl rfl ?_
            refine r_bipush (x := 8) dX7_order_62 (by decide) ?_
            refine r_icmp_ne (tgt := 72) dX7_order_64 (by decide) (fun h12 => ?_) (fun h12 => ?_)
            · have e := g_iF h12 e
              refine r_aload_n dX7_order_72 rfl rfl ?_
              refine r_iconst (x := 0) dX7_order_73 (by decide) ?_
              refine r_iload_n dX7_order_74 rfl rfl ?_
              refine r_iload_n dX7_order_75 rfl rfl ?_
              refine r_iload_n dX7_order_76 rfl rfl ?_
              obtain ⟨v13, h14, e⟩ := g_bd e
              refine q_callV (rest := []) (c_X7_rule h14) dX7_order_77 lkX7_165 rfl rfl rfl rfl (Nat.le_of_ble_eq_true rfl) (by decide) ?_
              have e := Option.some.inj e
              subst e
              exact r_ret dX7_order_80 rfl rfl
            · have e := g_iT h12 e
              refine r_bipush (x := (-4)) dX7_order_67 (by decide) ?_
              refine r_goto (tgt := 80) dX7_order_69 (by decide) ?_
              have e := Option.some.inj e
              subst e
              exact r_ret dX7_order_80 rfl rfl
          · have e := g_iF h11 e
            refine r_bipush (x := (-2)) dX7_order_55 (by decide) ?_
            have e := Option.some.inj e
            subst e
            exact r_ret dX7_order_57 rfl rfl
    · have e := g_cF h6 e
      refine r_iconst (x := (-1)) dX7_order_18 (by decide) ?_
      have e := Option.some.inj e
      subst e
      exact r_ret dX7_order_19 rfl rfl
/-! X7_agree -/
def f_X7_agree (g : (Nat → Nat → Int32)) (a1 : Int32) (a2 : Int32) (a3 : Int32) (a4 : Int32) (a5 : Int32) (a6 : Int32) : Option (Int32 × (Nat → Nat → Int32)) :=
  ((f_X7_isColumn g a1 a2).bind fun v1 =>
(bif v1 then
((f_X7_isColumn g a3 a4).bind fun v4 =>
(bif v4 then
((f_X7_isColumn g a3 a5).bind fun v7 =>
(bif v7 then
(if a1 = a3 then
some ((-2), g)
else
(if m_in ((6 * a1) + a2) 24 then
(if (g 68 ((6 * a1) + a2).toNatClampNeg) = 3 then
(if m_in ((6 * a3) + a4) 24 then
(if (g 68 ((6 * a3) + a4).toNatClampNeg) = 3 then
(if m_in ((6 * a3) + a5) 24 then
(if (g 68 ((6 * a3) + a5).toNatClampNeg) = 1 then
(if (g 69 ((6 * a3) + a5).toNatClampNeg) = a1 then
(bif (f_X7_in a6 0 1) then
(if (g 64 20) = 8 then
some ((-4), g)
else
((f_X7_rule g 1 a1 a2 a4).bind fun v20 =>
(if m_in v20.1 8 then
(m_let (m_up v20.2 84 v20.1.toNatClampNeg a3) fun g23 =>
(m_let (m_up g23 85 v20.1.toNatClampNeg a5) fun g25 =>
(if a6 = 1 then
(m_let (m_up g25 86 v20.1.toNatClampNeg 1) fun g30 =>
some (v20.1, g30))
else
(m_let (m_up g25 86 v20.1.toNatClampNeg 0) fun g28 =>
some (v20.1, g28))))) else none)))
else
some ((-2), g))
else
some ((-2), g))
else
some ((-2), g)) else none)
else
some ((-2), g)) else none)
else
some ((-2), g)) else none))
else
some ((-1), g)))
else
some ((-1), g)))
else
some ((-1), g)))
set_option maxRecDepth 100000 in
set_option maxHeartbeats 4000000 in
theorem c_X7_agree {G : mG} {g : (Nat → Nat → Int32)} {b : Bool} {a1 : Int32} {a2 : Int32} {a3 : Int32} {a4 : Int32} {a5 : Int32} {a6 : Int32} {R : (Int32 × (Nat → Nat → Int32))} (e : f_X7_agree g a1 a2 a3 a4 a5 a6 = some R) : MC G mX7_agree 3 0 0 [.ref 64, .int a1, .int a2, .int a3, .int a4, .int a5, .int a6] (m_h g b) (some (.int R.1)) (m_h R.2 b) := by
  refine MC_intro mlX7_agree (Nat.le_of_ble_eq_true rfl) ⟨_, rfl⟩ rfl trivial ?_
  unfold f_X7_agree at e
  refine r_aload_n dX7_agree_0 rfl rfl ?_
  refine r_iload_n dX7_agree_1 rfl rfl ?_
  refine r_iload_n dX7_agree_2 rfl rfl ?_
  obtain ⟨v1, h2, e⟩ := g_bd e
  refine q_callV (rest := []) (c_X7_isColumn h2) dX7_agree_3 lkX7_131 rfl rfl rfl rfl (Nat.le_of_ble_eq_true rfl) (by decide) ?_
  refine r_ifeqB (tgt := 29) dX7_agree_6 (by decide) (fun h3 => ?_) (fun h3 => ?_)
  · have e := g_cF h3 e
    refine r_iconst (x := (-1)) dX7_agree_29 (by decide) ?_
    have e := Option.some.inj e
    subst e
    exact r_ret dX7_agree_30 rfl rfl
  · have e := g_cT h3 e
    refine r_aload_n dX7_agree_9 rfl rfl ?_
    refine r_iload_n dX7_agree_10 rfl rfl ?_
    refine r_iload dX7_agree_11 rfl ?_
    obtain ⟨v4, h5, e⟩ := g_bd e
    refine q_callV (rest := []) (c_X7_isColumn h5) dX7_agree_13 lkX7_131 rfl rfl rfl rfl (Nat.le_of_ble_eq_true rfl) (by decide) ?_
    refine r_ifeqB (tgt := 29) dX7_agree_16 (by decide) (fun h6 => ?_) (fun h6 => ?_)
    · have e := g_cF h6 e
      refine r_iconst (x := (-1)) dX7_agree_29 (by decide) ?_
      have e := Option.some.inj e
      subst e
      exact r_ret dX7_agree_30 rfl rfl
    · have e := g_cT h6 e
      refine r_aload_n dX7_agree_19 rfl rfl ?_
      refine r_iload_n dX7_agree_20 rfl rfl ?_
      refine r_iload dX7_agree_21 rfl ?_
      obtain ⟨v7, h8, e⟩ := g_bd e
      refine q_callV (rest := []) (c_X7_isColumn h8) dX7_agree_23 lkX7_131 rfl rfl rfl rfl (Nat.le_of_ble_eq_true rfl) (by decide) ?_
      refine r_ifneB (tgt := 31) dX7_agree_26 (by decide) (fun h9 => ?_) (fun h9 => ?_)
      · have e := g_cT h9 e
        refine r_iload_n dX7_agree_31 rfl rfl ?_
        refine r_iload_n dX7_agree_32 rfl rfl ?_
        refine r_icmp_eq (tgt := 109) dX7_agree_33 (by decide) (fun h10 => ?_) (fun h10 => ?_)
        · have e := g_iT h10 e
          refine r_bipush (x := (-2)) dX7_agree_109 (by decide) ?_
          have e := Option.some.inj e
          subst e
          exact r_ret dX7_agree_111 rfl rfl
        · have e := g_iF h10 e
          refine r_aload_n dX7_agree_36 rfl rfl ?_
          refine q_getr dX7_agree_37 flX7_21 rfl rfl (m_fr_64_5 _) ?_
          refine r_bipush (x := 6) dX7_agree_40 (by decide) ?_
          refine r_iload_n dX7_agree_42 rfl rfl ?_
          refine r_imul dX7_agree_43 ?_
          refine r_iload_n dX7_agree_44 rfl rfl ?_
          refine r_iadd dX7_agree_45 ?_
          obtain ⟨h11, e⟩ := g_gd e
          refine q_iald dX7_agree_46 rfl h11 ?_
          refine r_iconst (x := 3) dX7_agree_47 (by decide) ?_
          refine r_icmp_ne (tgt := 109) dX7_agree_48 (by decide) (fun h12 => ?_) (fun h12 => ?_)
          · have e := g_iF h12 e
            refine r_bipush (x := (-2)) dX7_agree_109 (by decide) ?_
            have e := Option.some.inj e
            subst e
            exact r_ret dX7_agree_111 rfl rfl
          · have e := g_iT h12 e
            refine r_aload_n dX7_agree_51 rfl rfl ?_
            refine q_getr dX7_agree_52 flX7_21 rfl rfl (m_fr_64_5 _) ?_
            refine r_bipush (x := 6) dX7_agree_55 (by decide) ?_
            refine r_iload_n dX7_agree_57 rfl rfl ?_
            refine r_imul dX7_agree_58 ?_
            refine r_iload dX7_agree_59 rfl ?_
            refine r_iadd dX7_agree_61 ?_
            obtain ⟨h13, e⟩ := g_gd e
            refine q_iald dX7_agree_62 rfl h13 ?_
            refine r_iconst (x := 3) dX7_agree_63 (by decide) ?_
            refine r_icmp_ne (tgt := 109) dX7_agree_64 (by decide) (fun h14 => ?_) (fun h14 => ?_)
            · have e := g_iF h14 e
              refine r_bipush (x := (-2)) dX7_agree_109 (by decide) ?_
              have e := Option.some.inj e
              subst e
              exact r_ret dX7_agree_111 rfl rfl
            · have e := g_iT h14 e
              refine r_aload_n dX7_agree_67 rfl rfl ?_
              refine q_getr dX7_agree_68 flX7_21 rfl rfl (m_fr_64_5 _) ?_
              refine r_bipush (x := 6) dX7_agree_71 (by decide) ?_
              refine r_iload_n dX7_agree_73 rfl rfl ?_
              refine r_imul dX7_agree_74 ?_
              refine r_iload dX7_agree_75 rfl ?_
              refine r_iadd dX7_agree_77 ?_
              obtain ⟨h15, e⟩ := g_gd e
              refine q_iald dX7_agree_78 rfl h15 ?_
              refine r_iconst (x := 1) dX7_agree_79 (by decide) ?_
              refine r_icmp_ne (tgt := 109) dX7_agree_80 (by decide) (fun h16 => ?_) (fun h16 => ?_)
              · have e := g_iF h16 e
                refine r_bipush (x := (-2)) dX7_agree_109 (by decide) ?_
                have e := Option.some.inj e
                subst e
                exact r_ret dX7_agree_111 rfl rfl
              · have e := g_iT h16 e
                refine r_aload_n dX7_agree_83 rfl rfl ?_
                refine q_getr dX7_agree_84 flX7_24 rfl rfl (m_fr_64_6 _) ?_
                refine r_bipush (x := 6) dX7_agree_87 (by decide) ?_
                refine r_iload_n dX7_agree_89 rfl rfl ?_
                refine r_imul dX7_agree_90 ?_
                refine r_iload dX7_agree_91 rfl ?_
                refine r_iadd dX7_agree_93 ?_
                refine q_iald dX7_agree_94 rfl h15 ?_
                refine r_iload_n dX7_agree_95 rfl rfl ?_
                refine r_icmp_ne (tgt := 109) dX7_agree_96 (by decide) (fun h17 => ?_) (fun h17 => ?_)
                · have e := g_iF h17 e
                  refine r_bipush (x := (-2)) dX7_agree_109 (by decide) ?_
                  have e := Option.some.inj e
                  subst e
                  exact r_ret dX7_agree_111 rfl rfl
                · have e := g_iT h17 e
                  refine r_iload dX7_agree_99 rfl ?_
                  refine r_iconst (x := 0) dX7_agree_101 (by decide) ?_
                  refine r_iconst (x := 1) dX7_agree_102 (by decide) ?_
                  refine q_callS (rest := []) (c_X7_in rfl) dX7_agree_103 lkX7_95 rfl rfl (Nat.le_of_ble_eq_true rfl) (by decide) ?_
                  refine r_ifneB (tgt := 112) dX7_agree_106 (by decide) (fun h18 => ?_) (fun h18 => ?_)
                  · have e := g_cT h18 e
                    refine r_aload_n dX7_agree_112 rfl rfl ?_
                    refine q_geti dX7_agree_113 flX7_162 rfl rfl ?_
                    refine r_bipush (x := 8) dX7_agree_116 (by decide) ?_
                    refine r_icmp_ne (tgt := 124) dX7_agree_118 (by decide) (fun h19 => ?_) (fun h19 => ?_)
                    · have e := g_iF h19 e
                      refine r_aload_n dX7_agree_124 rfl rfl ?_
                      refine r_iconst (x := 1) dX7_agree_125 (by decide) ?_
                      refine r_iload_n dX7_agree_126 rfl rfl ?_
                      refine r_iload_n dX7_agree_127 rfl rfl ?_
                      refine r_iload dX7_agree_128 rfl ?_
                      obtain ⟨v20, h21, e⟩ := g_bd e
                      refine q_callV (rest := []) (c_X7_rule h21) dX7_agree_130 lkX7_165 rfl rfl rfl rfl (Nat.le_of_ble_eq_true rfl) (by decide) ?_
                      refine r_istore dX7_agree_133 (by decide) rfl ?_
                      refine r_aload_n dX7_agree_135 rfl rfl ?_
                      refine q_getr dX7_agree_136 flX7_69 rfl rfl (m_fr_64_25 _) ?_
                      refine r_iload dX7_agree_139 rfl ?_
                      refine r_iload_n dX7_agree_141 rfl rfl ?_
                      obtain ⟨h22, e⟩ := g_gd e
                      refine q_iastL dX7_agree_142 rfl h22 (fun g23 h24 => ?_)
                      have e := g_lt h24 e
                      refine r_aload_n dX7_agree_143 rfl rfl ?_
                      refine q_getr dX7_agree_144 flX7_72 rfl rfl (m_fr_64_26 _) ?_
                      refine r_iload dX7_agree_147 rfl ?_
                      refine r_iload dX7_agree_149 rfl ?_
                      refine q_iastL dX7_agree_151 rfl h22 (fun g25 h26 => ?_)
                      have e := g_lt h26 e
                      refine r_aload_n dX7_agree_152 rfl rfl ?_
                      refine q_getr dX7_agree_153 flX7_75 rfl rfl (m_fr_64_27 _) ?_
                      refine r_iload dX7_agree_156 rfl ?_
                      refine r_iload dX7_agree_158 rfl ?_
                      refine r_iconst (x := 1) dX7_agree_160 (by decide) ?_
                      refine r_icmp_ne (tgt := 168) dX7_agree_161 (by decide) (fun h27 => ?_) (fun h27 => ?_)
                      · have e := g_iF h27 e
                        refine r_iconst (x := 0) dX7_agree_168 (by decide) ?_
                        refine q_zastL dX7_agree_169 rfl h22 (by decide) (fun g28 h29 => ?_)
                        have e := g_lt h29 e
                        refine r_iload dX7_agree_170 rfl ?_
                        have e := Option.some.inj e
                        subst e
                        exact r_ret dX7_agree_172 rfl rfl
                      · have e := g_iT h27 e
                        refine r_iconst (x := 1) dX7_agree_164 (by decide) ?_
                        refine r_goto (tgt := 169) dX7_agree_165 (by decide) ?_
                        refine q_zastL dX7_agree_169 rfl h22 (by decide) (fun g30 h31 => ?_)
                        have e := g_lt h31 e
                        refine r_iload dX7_agree_170 rfl ?_
                        have e := Option.some.inj e
                        subst e
                        exact r_ret dX7_agree_172 rfl rfl
                    · have e := g_iT h19 e
                      refine r_bipush (x := (-4)) dX7_agree_121 (by decide) ?_
                      have e := Option.some.inj e
                      subst e
                      exact r_ret dX7_agree_123 rfl rfl
                  · have e := g_cF h18 e
                    refine r_bipush (x := (-2)) dX7_agree_109 (by decide) ?_
                    have e := Option.some.inj e
                    subst e
                    exact r_ret dX7_agree_111 rfl rfl
      · have e := g_cF h9 e
        refine r_iconst (x := (-1)) dX7_agree_29 (by decide) ?_
        have e := Option.some.inj e
        subst e
        exact r_ret dX7_agree_30 rfl rfl
/-! X7_found -/
def f_X7_found (g : (Nat → Nat → Int32)) (a1 : Int32) (a2 : Int32) : Option (Int32 × (Nat → Nat → Int32)) :=
  ((f_X7_isColumn g a1 a2).bind fun v1 =>
(bif v1 then
(if m_in ((6 * a1) + a2) 24 then
(if (g 68 ((6 * a1) + a2).toNatClampNeg) = 1 then
(if (g 64 20) = 8 then
some ((-4), g)
else
((f_X7_rule g 2 a1 a2 0).bind fun v7 =>
some (v7.1, v7.2)))
else
some ((-2), g)) else none)
else
some ((-1), g)))
set_option maxRecDepth 100000 in
set_option maxHeartbeats 4000000 in
theorem c_X7_found {G : mG} {g : (Nat → Nat → Int32)} {b : Bool} {a1 : Int32} {a2 : Int32} {R : (Int32 × (Nat → Nat → Int32))} (e : f_X7_found g a1 a2 = some R) : MC G mX7_found 3 0 0 [.ref 64, .int a1, .int a2] (m_h g b) (some (.int R.1)) (m_h R.2 b) := by
  refine MC_intro mlX7_found (Nat.le_of_ble_eq_true rfl) ⟨_, rfl⟩ rfl trivial ?_
  unfold f_X7_found at e
  refine r_aload_n dX7_found_0 rfl rfl ?_
  refine r_iload_n dX7_found_1 rfl rfl ?_
  refine r_iload_n dX7_found_2 rfl rfl ?_
  obtain ⟨v1, h2, e⟩ := g_bd e
  refine q_callV (rest := []) (c_X7_isColumn h2) dX7_found_3 lkX7_131 rfl rfl rfl rfl (Nat.le_of_ble_eq_true rfl) (by decide) ?_
  refine r_ifneB (tgt := 11) dX7_found_6 (by decide) (fun h3 => ?_) (fun h3 => ?_)
  · have e := g_cT h3 e
    refine r_aload_n dX7_found_11 rfl rfl ?_
    refine q_getr dX7_found_12 flX7_21 rfl rfl (m_fr_64_5 _) ?_
    refine r_bipush (x := 6) dX7_found_15 (by decide) ?_
    refine r_iload_n dX7_found_17 rfl rfl ?_
    refine r_imul dX7_found_18 ?_
    refine r_iload_n dX7_found_19 rfl rfl ?_
    refine r_iadd dX7_found_20 ?_
    obtain ⟨h4, e⟩ := g_gd e
    refine q_iald dX7_found_21 rfl h4 ?_
    refine r_iconst (x := 1) dX7_found_22 (by decide) ?_
    refine r_icmp_eq (tgt := 29) dX7_found_23 (by decide) (fun h5 => ?_) (fun h5 => ?_)
    · have e := g_iT h5 e
      refine r_aload_n dX7_found_29 rfl rfl ?_
      refine q_geti dX7_found_30 flX7_162 rfl rfl ?_
      refine r_bipush (x := 8) dX7_found_33 (by decide) ?_
      refine r_icmp_ne (tgt := 43) dX7_found_35 (by decide) (fun h6 => ?_) (fun h6 => ?_)
      · have e := g_iF h6 e
        refine r_aload_n dX7_found_43 rfl rfl ?_
        refine r_iconst (x := 2) dX7_found_44 (by decide) ?_
        refine r_iload_n dX7_found_45 rfl rfl ?_
        refine r_iload_n dX7_found_46 rfl rfl ?_
        refine r_iconst (x := 0) dX7_found_47 (by decide) ?_
        obtain ⟨v7, h8, e⟩ := g_bd e
        refine q_callV (rest := []) (c_X7_rule h8) dX7_found_48 lkX7_165 rfl rfl rfl rfl (Nat.le_of_ble_eq_true rfl) (by decide) ?_
        have e := Option.some.inj e
        subst e
        exact r_ret dX7_found_51 rfl rfl
      · have e := g_iT h6 e
        refine r_bipush (x := (-4)) dX7_found_38 (by decide) ?_
        refine r_goto (tgt := 51) dX7_found_40 (by decide) ?_
        have e := Option.some.inj e
        subst e
        exact r_ret dX7_found_51 rfl rfl
    · have e := g_iF h5 e
      refine r_bipush (x := (-2)) dX7_found_26 (by decide) ?_
      have e := Option.some.inj e
      subst e
      exact r_ret dX7_found_28 rfl rfl
  · have e := g_cF h3 e
    refine r_iconst (x := (-1)) dX7_found_9 (by decide) ?_
    have e := Option.some.inj e
    subst e
    exact r_ret dX7_found_10 rfl rfl
/-! X7_unrule -/
def f_X7_unrule (g : (Nat → Nat → Int32)) : Option (Int32 × (Nat → Nat → Int32)) :=
  (m_let (m_up g 64 20 0) fun g1 =>
some ((g 64 20), g1))
set_option maxRecDepth 100000 in
set_option maxHeartbeats 4000000 in
theorem c_X7_unrule {G : mG} {g : (Nat → Nat → Int32)} {b : Bool} {R : (Int32 × (Nat → Nat → Int32))} (e : f_X7_unrule g = some R) : MC G mX7_unrule 0 0 0 [.ref 64] (m_h g b) (some (.int R.1)) (m_h R.2 b) := by
  refine MC_intro mlX7_unrule (Nat.le_of_ble_eq_true rfl) ⟨_, rfl⟩ rfl trivial ?_
  unfold f_X7_unrule at e
  refine r_aload_n dX7_unrule_0 rfl rfl ?_
  refine q_geti dX7_unrule_1 flX7_162 rfl rfl ?_
  refine r_istore_n dX7_unrule_4 rfl (by decide) rfl ?_
  refine r_aload_n dX7_unrule_5 rfl rfl ?_
  refine r_iconst (x := 0) dX7_unrule_6 (by decide) ?_
  refine q_putiL dX7_unrule_7 flX7_162 (Or.inl rfl) (Or.inl rfl) rfl (fun g1 h2 => ?_)
  have e := g_lt h2 e
  refine r_iload_n dX7_unrule_10 rfl rfl ?_
  have e := Option.some.inj e
  subst e
  exact r_ret dX7_unrule_11 rfl rfl
/-! X7_sumFor -/
def lp_X7_sumFor_13 (g : (Nat → Nat → Int32)) (a1 : Int32) (a2 : Int32) (x13_4 : Int32) : Nat → Int32 → Int32 → Option Int32
  | 0, _, _ => none
  | n + 1, y13_3, y13_5 =>
  (if m_in x13_4 4 then
(if (g 66 x13_4.toNatClampNeg) ≤ y13_5 then
some y13_3
else
(if m_in a1 8 then
(if m_in (f_X7_cell x13_4 y13_5 (g 83 a1.toNatClampNeg)) 288 then
(if m_in (f_X7_cell x13_4 y13_5 (g 85 a1.toNatClampNeg)) 288 then
(if m_in (f_X7_cell (g 81 a1.toNatClampNeg) a2 0) 288 then
(if (g 87 (f_X7_cell x13_4 y13_5 (g 85 a1.toNatClampNeg)).toNatClampNeg) = (g 87 (f_X7_cell (g 81 a1.toNatClampNeg) a2 0).toNatClampNeg) then
(if (g 87 (f_X7_cell x13_4 y13_5 (g 83 a1.toNatClampNeg)).toNatClampNeg) = (-2147483648) then
lp_X7_sumFor_13 g a1 a2 x13_4 n y13_3 (y13_5 + 1)
else
lp_X7_sumFor_13 g a1 a2 x13_4 n (y13_3 + (g 87 (f_X7_cell x13_4 y13_5 (g 83 a1.toNatClampNeg)).toNatClampNeg)) (y13_5 + 1))
else
lp_X7_sumFor_13 g a1 a2 x13_4 n y13_3 (y13_5 + 1)) else none) else none) else none) else none)) else none)
def f_X7_sumFor (g : (Nat → Nat → Int32)) (a1 : Int32) (a2 : Int32) : Option Int32 :=
  (if m_in a1 8 then
lp_X7_sumFor_13 g a1 a2 (g 84 a1.toNatClampNeg) 2000 0 0 else none)
set_option maxRecDepth 100000 in
set_option maxHeartbeats 4000000 in
theorem w_X7_sumFor_13 {G : mG} {b : Bool} {g : (Nat → Nat → Int32)} {a1 : Int32} {a2 : Int32} {x13_4 : Int32} : ∀ (n : Nat) (y13_3 : Int32) (y13_5 : Int32) (R : Int32), lp_X7_sumFor_13 g a1 a2 x13_4 n y13_3 y13_5 = some R → MW G mX7_sumFor 1 0 0 13 [.ref 64, .int a1, .int a2, .int y13_3, .int x13_4, .int y13_5, .retAddr 0] [] (m_h g b) (some (.int R)) (m_h g b)
  | 0, _, _, R, e => absurd (show (none : Option Int32) = some R from e) (fun h => by cases h)
  | n + 1, y13_3, y13_5, R, e => by
    rw [lp_X7_sumFor_13] at e
    refine r_iload dX7_sumFor_13 rfl ?_
    refine r_aload_n dX7_sumFor_15 rfl rfl ?_
    refine q_getr dX7_sumFor_16 flX7_15 rfl rfl (m_fr_64_3 _) ?_
    refine r_iload dX7_sumFor_19 rfl ?_
    obtain ⟨h13001, e⟩ := g_gd e
    refine q_iald dX7_sumFor_21 rfl h13001 ?_
    refine r_icmp_ge (tgt := 100) dX7_sumFor_22 (by decide) (fun h13002 => ?_) (fun h13002 => ?_)
    · have e := g_iT h13002 e
      refine r_iload_n dX7_sumFor_100 rfl rfl ?_
      have e := Option.some.inj e
      subst e
      exact r_ret dX7_sumFor_101 rfl rfl
    · have e := g_iF h13002 e
      refine r_aload_n dX7_sumFor_25 rfl rfl ?_
      refine q_getr dX7_sumFor_26 flX7_79 rfl rfl (m_fr_64_28 _) ?_
      refine r_iload dX7_sumFor_29 rfl ?_
      refine r_iload dX7_sumFor_31 rfl ?_
      refine r_aload_n dX7_sumFor_33 rfl rfl ?_
      refine q_getr dX7_sumFor_34 flX7_66 rfl rfl (m_fr_64_24 _) ?_
      refine r_iload_n dX7_sumFor_37 rfl rfl ?_
      obtain ⟨h13003, e⟩ := g_gd e
      refine q_iald dX7_sumFor_38 rfl h13003 ?_
      refine q_callS (rest := [.ref 87]) (c_X7_cell rfl) dX7_sumFor_39 lkX7_127 rfl rfl (Nat.le_of_ble_eq_true rfl) (by decide) ?_
      obtain ⟨h13004, e⟩ := g_gd e
      refine q_iald dX7_sumFor_42 rfl h13004 ?_
      refine r_istore dX7_sumFor_43 (by decide) rfl ?_
      refine r_aload_n dX7_sumFor_45 rfl rfl ?_
      refine q_getr dX7_sumFor_46 flX7_79 rfl rfl (m_fr_64_28 _) ?_
      refine r_iload dX7_sumFor_49 rfl ?_
      refine r_iload dX7_sumFor_51 rfl ?_
      refine r_aload_n dX7_sumFor_53 rfl rfl ?_
      refine q_getr dX7_sumFor_54 flX7_72 rfl rfl (m_fr_64_26 _) ?_
      refine r_iload_n dX7_sumFor_57 rfl rfl ?_
      refine q_iald dX7_sumFor_58 rfl h13003 ?_
      refine q_callS (rest := [.ref 87]) (c_X7_cell rfl) dX7_sumFor_59 lkX7_127 rfl rfl (Nat.le_of_ble_eq_true rfl) (by decide) ?_
      obtain ⟨h13005, e⟩ := g_gd e
      refine q_iald dX7_sumFor_62 rfl h13005 ?_
      refine r_aload_n dX7_sumFor_63 rfl rfl ?_
      refine q_getr dX7_sumFor_64 flX7_79 rfl rfl (m_fr_64_28 _) ?_
      refine r_aload_n dX7_sumFor_67 rfl rfl ?_
      refine q_getr dX7_sumFor_68 flX7_60 rfl rfl (m_fr_64_22 _) ?_
      refine r_iload_n dX7_sumFor_71 rfl rfl ?_
      refine q_iald dX7_sumFor_72 rfl h13003 ?_
      refine r_iload_n dX7_sumFor_73 rfl rfl ?_
      refine r_iconst (x := 0) dX7_sumFor_74 (by decide) ?_
      refine q_callS (rest := [.ref 87, .int (g 87 (f_X7_cell x13_4 y13_5 (g 85 a1.toNatClampNeg)).toNatClampNeg)]) (c_X7_cell rfl) dX7_sumFor_75 lkX7_127 rfl rfl (Nat.le_of_ble_eq_true rfl) (by decide) ?_
      obtain ⟨h13006, e⟩ := g_gd e
      refine q_iald dX7_sumFor_78 rfl h13006 ?_
      refine r_icmp_ne (tgt := 94) dX7_sumFor_79 (by decide) (fun h13007 => ?_) (fun h13007 => ?_)
      · have e := g_iF h13007 e
        refine r_iinc (y := 1) dX7_sumFor_94 rfl (by decide) (by decide) rfl ?_
        refine r_goto (tgt := 13) dX7_sumFor_97 (by decide) ?_
        refine r_forget 6 rfl ?_
        exact w_X7_sumFor_13 n _ _ R e
      · have e := g_iT h13007 e
        refine r_iload dX7_sumFor_82 rfl ?_
        refine r_ldc (x := (-2147483648)) dX7_sumFor_84 kcX7_119 ?_
        refine r_icmp_eq (tgt := 94) dX7_sumFor_86 (by decide) (fun h13008 => ?_) (fun h13008 => ?_)
        · have e := g_iT h13008 e
          refine r_iinc (y := 1) dX7_sumFor_94 rfl (by decide) (by decide) rfl ?_
          refine r_goto (tgt := 13) dX7_sumFor_97 (by decide) ?_
          refine r_forget 6 rfl ?_
          exact w_X7_sumFor_13 n _ _ R e
        · have e := g_iF h13008 e
          refine r_iload_n dX7_sumFor_89 rfl rfl ?_
          refine r_iload dX7_sumFor_90 rfl ?_
          refine r_iadd dX7_sumFor_92 ?_
          refine r_istore_n dX7_sumFor_93 rfl (by decide) rfl ?_
          refine r_iinc (y := 1) dX7_sumFor_94 rfl (by decide) (by decide) rfl ?_
          refine r_goto (tgt := 13) dX7_sumFor_97 (by decide) ?_
          refine r_forget 6 rfl ?_
          exact w_X7_sumFor_13 n _ _ R e
set_option maxRecDepth 100000 in
set_option maxHeartbeats 4000000 in
theorem c_X7_sumFor {G : mG} {g : (Nat → Nat → Int32)} {b : Bool} {a1 : Int32} {a2 : Int32} {R : Int32} (e : f_X7_sumFor g a1 a2 = some R) : MC G mX7_sumFor 1 0 0 [.ref 64, .int a1, .int a2] (m_h g b) (some (.int R)) (m_h g b) := by
  refine MC_intro mlX7_sumFor (Nat.le_of_ble_eq_true rfl) ⟨_, rfl⟩ rfl trivial ?_
  unfold f_X7_sumFor at e
  refine r_iconst (x := 0) dX7_sumFor_0 (by decide) ?_
  refine r_istore_n dX7_sumFor_1 rfl (by decide) rfl ?_
  refine r_aload_n dX7_sumFor_2 rfl rfl ?_
  refine q_getr dX7_sumFor_3 flX7_69 rfl rfl (m_fr_64_25 _) ?_
  refine r_iload_n dX7_sumFor_6 rfl rfl ?_
  obtain ⟨h1, e⟩ := g_gd e
  refine q_iald dX7_sumFor_7 rfl h1 ?_
  refine r_istore dX7_sumFor_8 (by decide) rfl ?_
  refine r_iconst (x := 0) dX7_sumFor_10 (by decide) ?_
  refine r_istore dX7_sumFor_11 (by decide) rfl ?_
  exact w_X7_sumFor_13 2000 _ _ R e
/-! X7_isKeyOf -/
def lp_X7_isKeyOf_2 (g : (Nat → Nat → Int32)) (a1 : Int32) (a2 : Int32) : Nat → Int32 → Option Bool
  | 0, _ => none
  | n + 1, y2_3 =>
  (if m_in a1 4 then
(if (g 66 a1.toNatClampNeg) ≤ y2_3 then
some false
else
(if m_in (f_X7_cell a1 y2_3 0) 288 then
(if (g 87 (f_X7_cell a1 y2_3 0).toNatClampNeg) = a2 then
some true
else
lp_X7_isKeyOf_2 g a1 a2 n (y2_3 + 1)) else none)) else none)
def f_X7_isKeyOf (g : (Nat → Nat → Int32)) (a1 : Int32) (a2 : Int32) : Option Bool :=
  lp_X7_isKeyOf_2 g a1 a2 2000 0
set_option maxRecDepth 100000 in
set_option maxHeartbeats 4000000 in
theorem w_X7_isKeyOf_2 {G : mG} {b : Bool} {g : (Nat → Nat → Int32)} {a1 : Int32} {a2 : Int32} : ∀ (n : Nat) (y2_3 : Int32) (R : Bool), lp_X7_isKeyOf_2 g a1 a2 n y2_3 = some R → MW G mX7_isKeyOf 1 0 0 2 [.ref 64, .int a1, .int a2, .int y2_3] [] (m_h g b) (some (.int (m_bi R))) (m_h g b)
  | 0, _, R, e => absurd (show (none : Option Bool) = some R from e) (fun h => by cases h)
  | n + 1, y2_3, R, e => by
    rw [lp_X7_isKeyOf_2] at e
    refine r_iload_n dX7_isKeyOf_2 rfl rfl ?_
    refine r_aload_n dX7_isKeyOf_3 rfl rfl ?_
    refine q_getr dX7_isKeyOf_4 flX7_15 rfl rfl (m_fr_64_3 _) ?_
    refine r_iload_n dX7_isKeyOf_7 rfl rfl ?_
    obtain ⟨h2001, e⟩ := g_gd e
    refine q_iald dX7_isKeyOf_8 rfl h2001 ?_
    refine r_icmp_ge (tgt := 35) dX7_isKeyOf_9 (by decide) (fun h2002 => ?_) (fun h2002 => ?_)
    · have e := g_iT h2002 e
      refine r_iconst (x := 0) dX7_isKeyOf_35 (by decide) ?_
      have e := Option.some.inj e
      subst e
      exact r_ret dX7_isKeyOf_36 rfl rfl
    · have e := g_iF h2002 e
      refine r_aload_n dX7_isKeyOf_12 rfl rfl ?_
      refine q_getr dX7_isKeyOf_13 flX7_79 rfl rfl (m_fr_64_28 _) ?_
      refine r_iload_n dX7_isKeyOf_16 rfl rfl ?_
      refine r_iload_n dX7_isKeyOf_17 rfl rfl ?_
      refine r_iconst (x := 0) dX7_isKeyOf_18 (by decide) ?_
      refine q_callS (rest := [.ref 87]) (c_X7_cell rfl) dX7_isKeyOf_19 lkX7_127 rfl rfl (Nat.le_of_ble_eq_true rfl) (by decide) ?_
      obtain ⟨h2003, e⟩ := g_gd e
      refine q_iald dX7_isKeyOf_22 rfl h2003 ?_
      refine r_iload_n dX7_isKeyOf_23 rfl rfl ?_
      refine r_icmp_ne (tgt := 29) dX7_isKeyOf_24 (by decide) (fun h2004 => ?_) (fun h2004 => ?_)
      · have e := g_iF h2004 e
        refine r_iinc (y := 1) dX7_isKeyOf_29 rfl (by decide) (by decide) rfl ?_
        refine r_goto (tgt := 2) dX7_isKeyOf_32 (by decide) ?_
        exact w_X7_isKeyOf_2 n _ R e
      · have e := g_iT h2004 e
        refine r_iconst (x := 1) dX7_isKeyOf_27 (by decide) ?_
        have e := Option.some.inj e
        subst e
        exact r_ret dX7_isKeyOf_28 rfl rfl
set_option maxRecDepth 100000 in
set_option maxHeartbeats 4000000 in
theorem c_X7_isKeyOf {G : mG} {g : (Nat → Nat → Int32)} {b : Bool} {a1 : Int32} {a2 : Int32} {R : Bool} (e : f_X7_isKeyOf g a1 a2 = some R) : MC G mX7_isKeyOf 1 0 0 [.ref 64, .int a1, .int a2] (m_h g b) (some (.int (m_bi R))) (m_h g b) := by
  refine MC_intro mlX7_isKeyOf (Nat.le_of_ble_eq_true rfl) (m_okZ _) rfl trivial ?_
  unfold f_X7_isKeyOf at e
  refine r_iconst (x := 0) dX7_isKeyOf_0 (by decide) ?_
  refine r_istore_n dX7_isKeyOf_1 rfl (by decide) rfl ?_
  exact w_X7_isKeyOf_2 2000 _ R e
/-! X7_holdsFor -/
def f_X7_holdsFor (g : (Nat → Nat → Int32)) (a1 : Int32) (a2 : Int32) : Option Bool :=
  (if m_in a1 8 then
(if m_in (f_X7_cell (g 81 a1.toNatClampNeg) a2 (g 82 a1.toNatClampNeg)) 288 then
(m_let (g 87 (f_X7_cell (g 81 a1.toNatClampNeg) a2 (g 82 a1.toNatClampNeg)).toNatClampNeg) fun t3 =>
(if m_in (f_X7_cell (g 81 a1.toNatClampNeg) a2 (g 83 a1.toNatClampNeg)) 288 then
(m_let (g 87 (f_X7_cell (g 81 a1.toNatClampNeg) a2 (g 83 a1.toNatClampNeg)).toNatClampNeg) fun t6 =>
(if t3 = (-2147483648) then
some true
else
(if (g 80 a1.toNatClampNeg) = 0 then
(if t6 = (-2147483648) then
some true
else
(if t6 < t3 then
some false
else
some true))
else
(if (g 80 a1.toNatClampNeg) = 1 then
((f_X7_sumFor g a1 a2).bind fun v14 =>
(if t3 = v14 then
some true
else
some false))
else
(if m_in ((6 * (g 81 a1.toNatClampNeg)) + (g 82 a1.toNatClampNeg)) 24 then
((f_X7_isKeyOf g (g 69 ((6 * (g 81 a1.toNatClampNeg)) + (g 82 a1.toNatClampNeg)).toNatClampNeg) t3).bind fun v12 =>
some v12) else none))))) else none)) else none) else none)
set_option maxRecDepth 100000 in
set_option maxHeartbeats 4000000 in
theorem c_X7_holdsFor {G : mG} {g : (Nat → Nat → Int32)} {b : Bool} {a1 : Int32} {a2 : Int32} {R : Bool} (e : f_X7_holdsFor g a1 a2 = some R) : MC G mX7_holdsFor 2 0 0 [.ref 64, .int a1, .int a2] (m_h g b) (some (.int (m_bi R))) (m_h g b) := by
  refine MC_intro mlX7_holdsFor (Nat.le_of_ble_eq_true rfl) (m_okZ _) rfl trivial ?_
  unfold f_X7_holdsFor at e
  refine r_aload_n dX7_holdsFor_0 rfl rfl ?_
  refine q_getr dX7_holdsFor_1 flX7_60 rfl rfl (m_fr_64_22 _) ?_
  refine r_iload_n dX7_holdsFor_4 rfl rfl ?_
  obtain ⟨h1, e⟩ := g_gd e
  refine q_iald dX7_holdsFor_5 rfl h1 ?_
  refine r_istore_n dX7_holdsFor_6 rfl (by decide) rfl ?_
  refine r_aload_n dX7_holdsFor_7 rfl rfl ?_
  refine q_getr dX7_holdsFor_8 flX7_79 rfl rfl (m_fr_64_28 _) ?_
  refine r_iload_n dX7_holdsFor_11 rfl rfl ?_
  refine r_iload_n dX7_holdsFor_12 rfl rfl ?_
  refine r_aload_n dX7_holdsFor_13 rfl rfl ?_
  refine q_getr dX7_holdsFor_14 flX7_63 rfl rfl (m_fr_64_23 _) ?_
  refine r_iload_n dX7_holdsFor_17 rfl rfl ?_
  refine q_iald dX7_holdsFor_18 rfl h1 ?_
  refine q_callS (rest := [.ref 87]) (c_X7_cell rfl) dX7_holdsFor_19 lkX7_127 rfl rfl (Nat.le_of_ble_eq_true rfl) (by decide) ?_
  obtain ⟨h2, e⟩ := g_gd e
  refine q_iald dX7_holdsFor_22 rfl h2 ?_
  refine q_istoreL dX7_holdsFor_23 (by decide) (fun t3 h4 => ?_)
  refine m_Lset rfl ?_
  have e := g_lt h4 e
  refine r_aload_n dX7_holdsFor_25 rfl rfl ?_
  refine q_getr dX7_holdsFor_26 flX7_79 rfl rfl (m_fr_64_28 _) ?_
  refine r_iload_n dX7_holdsFor_29 rfl rfl ?_
  refine r_iload_n dX7_holdsFor_30 rfl rfl ?_
  refine r_aload_n dX7_holdsFor_31 rfl rfl ?_
  refine q_getr dX7_holdsFor_32 flX7_66 rfl rfl (m_fr_64_24 _) ?_
  refine r_iload_n dX7_holdsFor_35 rfl rfl ?_
  refine q_iald dX7_holdsFor_36 rfl h1 ?_
  refine q_callS (rest := [.ref 87]) (c_X7_cell rfl) dX7_holdsFor_37 lkX7_127 rfl rfl (Nat.le_of_ble_eq_true rfl) (by decide) ?_
  obtain ⟨h5, e⟩ := g_gd e
  refine q_iald dX7_holdsFor_40 rfl h5 ?_
  refine q_istoreL dX7_holdsFor_41 (by decide) (fun t6 h7 => ?_)
  refine m_Lset rfl ?_
  have e := g_lt h7 e
  refine r_iload dX7_holdsFor_43 rfl ?_
  refine r_ldc (x := (-2147483648)) dX7_holdsFor_45 kcX7_119 ?_
  refine r_icmp_ne (tgt := 52) dX7_holdsFor_47 (by decide) (fun h8 => ?_) (fun h8 => ?_)
  · have e := g_iF h8 e
    refine r_aload_n dX7_holdsFor_52 rfl rfl ?_
    refine q_getr dX7_holdsFor_53 flX7_57 rfl rfl (m_fr_64_21 _) ?_
    refine r_iload_n dX7_holdsFor_56 rfl rfl ?_
    refine q_iald dX7_holdsFor_57 rfl h1 ?_
    refine r_if_ne (tgt := 81) dX7_holdsFor_58 (by decide) (fun h9 => ?_) (fun h9 => ?_)
    · have e := g_iF h9 e
      refine r_aload_n dX7_holdsFor_81 rfl rfl ?_
      refine q_getr dX7_holdsFor_82 flX7_57 rfl rfl (m_fr_64_21 _) ?_
      refine r_iload_n dX7_holdsFor_85 rfl rfl ?_
      refine q_iald dX7_holdsFor_86 rfl h1 ?_
      refine r_iconst (x := 1) dX7_holdsFor_87 (by decide) ?_
      refine r_icmp_ne (tgt := 110) dX7_holdsFor_88 (by decide) (fun h10 => ?_) (fun h10 => ?_)
      · have e := g_iF h10 e
        refine r_aload_n dX7_holdsFor_110 rfl rfl ?_
        refine r_aload_n dX7_holdsFor_111 rfl rfl ?_
        refine q_getr dX7_holdsFor_112 flX7_24 rfl rfl (m_fr_64_6 _) ?_
        refine r_bipush (x := 6) dX7_holdsFor_115 (by decide) ?_
        refine r_iload_n dX7_holdsFor_117 rfl rfl ?_
        refine r_imul dX7_holdsFor_118 ?_
        refine r_aload_n dX7_holdsFor_119 rfl rfl ?_
        refine q_getr dX7_holdsFor_120 flX7_63 rfl rfl (m_fr_64_23 _) ?_
        refine r_iload_n dX7_holdsFor_123 rfl rfl ?_
        refine q_iald dX7_holdsFor_124 rfl h1 ?_
        refine r_iadd dX7_holdsFor_125 ?_
        obtain ⟨h11, e⟩ := g_gd e
        refine q_iald dX7_holdsFor_126 rfl h11 ?_
        refine r_iload dX7_holdsFor_127 rfl ?_
        obtain ⟨v12, h13, e⟩ := g_bd e
        refine q_callV (rest := []) (c_X7_isKeyOf h13) dX7_holdsFor_129 lkX7_172 rfl rfl rfl rfl (Nat.le_of_ble_eq_true rfl) (by decide) ?_
        have e := Option.some.inj e
        subst e
        exact r_ret dX7_holdsFor_132 rfl rfl
      · have e := g_iT h10 e
        refine r_iload dX7_holdsFor_91 rfl ?_
        refine r_aload_n dX7_holdsFor_93 rfl rfl ?_
        refine r_iload_n dX7_holdsFor_94 rfl rfl ?_
        refine r_iload_n dX7_holdsFor_95 rfl rfl ?_
        obtain ⟨v14, h15, e⟩ := g_bd e
        refine q_callV (rest := [.int t3]) (c_X7_sumFor h15) dX7_holdsFor_96 lkX7_169 rfl rfl rfl rfl (Nat.le_of_ble_eq_true rfl) (by decide) ?_
        refine r_icmp_ne (tgt := 106) dX7_holdsFor_99 (by decide) (fun h16 => ?_) (fun h16 => ?_)
        · have e := g_iF h16 e
          refine r_iconst (x := 0) dX7_holdsFor_106 (by decide) ?_
          refine r_goto (tgt := 132) dX7_holdsFor_107 (by decide) ?_
          have e := Option.some.inj e
          subst e
          exact r_ret dX7_holdsFor_132 rfl rfl
        · have e := g_iT h16 e
          refine r_iconst (x := 1) dX7_holdsFor_102 (by decide) ?_
          refine r_goto (tgt := 132) dX7_holdsFor_103 (by decide) ?_
          have e := Option.some.inj e
          subst e
          exact r_ret dX7_holdsFor_132 rfl rfl
    · have e := g_iT h9 e
      refine r_iload dX7_holdsFor_61 rfl ?_
      refine r_ldc (x := (-2147483648)) dX7_holdsFor_63 kcX7_119 ?_
      refine r_icmp_eq (tgt := 75) dX7_holdsFor_65 (by decide) (fun h17 => ?_) (fun h17 => ?_)
      · have e := g_iT h17 e
        refine r_iconst (x := 1) dX7_holdsFor_75 (by decide) ?_
        refine r_goto (tgt := 80) dX7_holdsFor_76 (by decide) ?_
        have e := Option.some.inj e
        subst e
        exact r_ret dX7_holdsFor_80 rfl rfl
      · have e := g_iF h17 e
        refine r_iload dX7_holdsFor_68 rfl ?_
        refine r_iload dX7_holdsFor_70 rfl ?_
        refine r_icmp_gt (tgt := 79) dX7_holdsFor_72 (by decide) (fun h18 => ?_) (fun h18 => ?_)
        · have e := g_iT h18 e
          refine r_iconst (x := 0) dX7_holdsFor_79 (by decide) ?_
          have e := Option.some.inj e
          subst e
          exact r_ret dX7_holdsFor_80 rfl rfl
        · have e := g_iF h18 e
          refine r_iconst (x := 1) dX7_holdsFor_75 (by decide) ?_
          refine r_goto (tgt := 80) dX7_holdsFor_76 (by decide) ?_
          have e := Option.some.inj e
          subst e
          exact r_ret dX7_holdsFor_80 rfl rfl
  · have e := g_iT h8 e
    refine r_iconst (x := 1) dX7_holdsFor_50 (by decide) ?_
    have e := Option.some.inj e
    subst e
    exact r_ret dX7_holdsFor_51 rfl rfl
/-! X7_firstBroken -/
def lp_X7_firstBroken_12 (g : (Nat → Nat → Int32)) (y2_1 : Int32) (k2 : (Int32 → Option Int32)) : Nat → Int32 → Option Int32
  | 0, _ => none
  | n + 1, y12_2 =>
  (if m_in y2_1 8 then
(if m_in (g 81 y2_1.toNatClampNeg) 4 then
(if (g 66 (g 81 y2_1.toNatClampNeg).toNatClampNeg) ≤ y12_2 then
k2 (y2_1 + 1)
else
((f_X7_holdsFor g y2_1 y12_2).bind fun v12004 =>
(bif v12004 then
lp_X7_firstBroken_12 g y2_1 k2 n (y12_2 + 1)
else
some y2_1))) else none) else none)
def lp_X7_firstBroken_2 (g : (Nat → Nat → Int32)) : Nat → Int32 → Option Int32
  | 0, _ => none
  | n + 1, y2_1 =>
  (if (g 64 20) ≤ y2_1 then
some 100
else
lp_X7_firstBroken_12 g y2_1 (fun y2_1 => lp_X7_firstBroken_2 g n y2_1) 2000 0)
def f_X7_firstBroken (g : (Nat → Nat → Int32)) : Option Int32 :=
  lp_X7_firstBroken_2 g 2000 0
set_option maxRecDepth 100000 in
set_option maxHeartbeats 4000000 in
theorem w_X7_firstBroken_12 {G : mG} {b : Bool} {g : (Nat → Nat → Int32)} {y2_1 : Int32} {k2 : (Int32 → Option Int32)} (hk2 : ∀ (y2_1 : Int32) (R : Int32), k2 y2_1 = some R → MW G mX7_firstBroken 3 0 0 2 [.ref 64, .int y2_1, .retAddr 0] [] (m_h g b) (some (.int R)) (m_h g b)) : ∀ (n : Nat) (y12_2 : Int32) (R : Int32), lp_X7_firstBroken_12 g y2_1 k2 n y12_2 = some R → MW G mX7_firstBroken 3 0 0 12 [.ref 64, .int y2_1, .int y12_2] [] (m_h g b) (some (.int R)) (m_h g b)
  | 0, _, R, e => absurd (show (none : Option Int32) = some R from e) (fun h => by cases h)
  | n + 1, y12_2, R, e => by
    rw [lp_X7_firstBroken_12] at e
    refine r_iload_n dX7_firstBroken_12 rfl rfl ?_
    refine r_aload_n dX7_firstBroken_13 rfl rfl ?_
    refine q_getr dX7_firstBroken_14 flX7_15 rfl rfl (m_fr_64_3 _) ?_
    refine r_aload_n dX7_firstBroken_17 rfl rfl ?_
    refine q_getr dX7_firstBroken_18 flX7_60 rfl rfl (m_fr_64_22 _) ?_
    refine r_iload_n dX7_firstBroken_21 rfl rfl ?_
    obtain ⟨h12001, e⟩ := g_gd e
    refine q_iald dX7_firstBroken_22 rfl h12001 ?_
    obtain ⟨h12002, e⟩ := g_gd e
    refine q_iald dX7_firstBroken_23 rfl h12002 ?_
    refine r_icmp_ge (tgt := 44) dX7_firstBroken_24 (by decide) (fun h12003 => ?_) (fun h12003 => ?_)
    · have e := g_iT h12003 e
      refine r_iinc (y := 1) dX7_firstBroken_44 rfl (by decide) (by decide) rfl ?_
      refine r_goto (tgt := 2) dX7_firstBroken_47 (by decide) ?_
      refine r_forget 2 rfl ?_
      exact hk2 _ R e
    · have e := g_iF h12003 e
      refine r_aload_n dX7_firstBroken_27 rfl rfl ?_
      refine r_iload_n dX7_firstBroken_28 rfl rfl ?_
      refine r_iload_n dX7_firstBroken_29 rfl rfl ?_
      obtain ⟨v12004, h12005, e⟩ := g_bd e
      refine q_callV (rest := []) (c_X7_holdsFor h12005) dX7_firstBroken_30 lkX7_175 rfl rfl rfl rfl (Nat.le_of_ble_eq_true rfl) (by decide) ?_
      refine r_ifneB (tgt := 38) dX7_firstBroken_33 (by decide) (fun h12006 => ?_) (fun h12006 => ?_)
      · have e := g_cT h12006 e
        refine r_iinc (y := 1) dX7_firstBroken_38 rfl (by decide) (by decide) rfl ?_
        refine r_goto (tgt := 12) dX7_firstBroken_41 (by decide) ?_
        exact w_X7_firstBroken_12 hk2 n _ R e
      · have e := g_cF h12006 e
        refine r_iload_n dX7_firstBroken_36 rfl rfl ?_
        have e := Option.some.inj e
        subst e
        exact r_ret dX7_firstBroken_37 rfl rfl
set_option maxRecDepth 100000 in
set_option maxHeartbeats 4000000 in
theorem w_X7_firstBroken_2 {G : mG} {b : Bool} {g : (Nat → Nat → Int32)} : ∀ (n : Nat) (y2_1 : Int32) (R : Int32), lp_X7_firstBroken_2 g n y2_1 = some R → MW G mX7_firstBroken 3 0 0 2 [.ref 64, .int y2_1, .retAddr 0] [] (m_h g b) (some (.int R)) (m_h g b)
  | 0, _, R, e => absurd (show (none : Option Int32) = some R from e) (fun h => by cases h)
  | n + 1, y2_1, R, e => by
    rw [lp_X7_firstBroken_2] at e
    refine r_iload_n dX7_firstBroken_2 rfl rfl ?_
    refine r_aload_n dX7_firstBroken_3 rfl rfl ?_
    refine q_geti dX7_firstBroken_4 flX7_162 rfl rfl ?_
    refine r_icmp_ge (tgt := 50) dX7_firstBroken_7 (by decide) (fun h2001 => ?_) (fun h2001 => ?_)
    · have e := g_iT h2001 e
      refine r_bipush (x := 100) dX7_firstBroken_50 (by decide) ?_
      have e := Option.some.inj e
      subst e
      exact r_ret dX7_firstBroken_52 rfl rfl
    · have e := g_iF h2001 e
      refine r_iconst (x := 0) dX7_firstBroken_10 (by decide) ?_
      refine r_istore_n dX7_firstBroken_11 rfl (by decide) rfl ?_
      exact w_X7_firstBroken_12 (fun y2_1 R e => w_X7_firstBroken_2 n y2_1 R e) 2000 _ R e
set_option maxRecDepth 100000 in
set_option maxHeartbeats 4000000 in
theorem c_X7_firstBroken {G : mG} {g : (Nat → Nat → Int32)} {b : Bool} {R : Int32} (e : f_X7_firstBroken g = some R) : MC G mX7_firstBroken 3 0 0 [.ref 64] (m_h g b) (some (.int R)) (m_h g b) := by
  refine MC_intro mlX7_firstBroken (Nat.le_of_ble_eq_true rfl) ⟨_, rfl⟩ rfl trivial ?_
  unfold f_X7_firstBroken at e
  refine r_iconst (x := 0) dX7_firstBroken_0 (by decide) ?_
  refine r_istore_n dX7_firstBroken_1 rfl (by decide) rfl ?_
  exact w_X7_firstBroken_2 2000 _ R e
/-! X7_see -/
def lp_X7_see_2 (b : Bool) (a1 : Int32) : Nat → Int32 → (Nat → Nat → Int32) → Option (Nat → Nat → Int32)
  | 0, _, _ => none
  | n + 1, y2_2, g2 =>
  (if 288 ≤ y2_2 then
some g2
else
(if a1 = 1 then
(if m_in y2_2 288 then
(m_let (m_up g2 87 y2_2.toNatClampNeg (g2 77 y2_2.toNatClampNeg)) fun g2007 =>
lp_X7_see_2 b a1 n (y2_2 + 1) g2007) else none)
else
(if m_in y2_2 288 then
(m_let (m_up g2 87 y2_2.toNatClampNeg (g2 76 y2_2.toNatClampNeg)) fun g2004 =>
lp_X7_see_2 b a1 n (y2_2 + 1) g2004) else none)))
def f_X7_see (g : (Nat → Nat → Int32)) (b : Bool) (a1 : Int32) : Option (Nat → Nat → Int32) :=
  lp_X7_see_2 b a1 2000 0 g
set_option maxRecDepth 100000 in
set_option maxHeartbeats 4000000 in
theorem w_X7_see_2 {G : mG} {b : Bool} {a1 : Int32} : ∀ (n : Nat) (y2_2 : Int32) (g2 : (Nat → Nat → Int32)) (R : (Nat → Nat → Int32)), lp_X7_see_2 b a1 n y2_2 g2 = some R → MW G mX7_see 0 0 0 2 [.ref 64, .int a1, .int y2_2] [] (m_h g2 b) none (m_h R b)
  | 0, _, _, R, e => absurd (show (none : Option (Nat → Nat → Int32)) = some R from e) (fun h => by cases h)
  | n + 1, y2_2, g2, R, e => by
    rw [lp_X7_see_2] at e
    refine r_iload_n dX7_see_2 rfl rfl ?_
    refine r_sipush (x := 288) dX7_see_3 (by decide) ?_
    refine r_icmp_ge (tgt := 41) dX7_see_6 (by decide) (fun h2001 => ?_) (fun h2001 => ?_)
    · have e := g_iT h2001 e
      have e := Option.some.inj e
      subst e
      exact r_ret dX7_see_41 rfl rfl
    · have e := g_iF h2001 e
      refine r_aload_n dX7_see_9 rfl rfl ?_
      refine q_getr dX7_see_10 flX7_79 rfl rfl (m_fr_64_28 _) ?_
      refine r_iload_n dX7_see_13 rfl rfl ?_
      refine r_iload_n dX7_see_14 rfl rfl ?_
      refine r_iconst (x := 1) dX7_see_15 (by decide) ?_
      refine r_icmp_ne (tgt := 28) dX7_see_16 (by decide) (fun h2002 => ?_) (fun h2002 => ?_)
      · have e := g_iF h2002 e
        refine r_aload_n dX7_see_28 rfl rfl ?_
        refine q_getr dX7_see_29 flX7_45 rfl rfl (m_fr_64_14 _) ?_
        refine r_iload_n dX7_see_32 rfl rfl ?_
        obtain ⟨h2003, e⟩ := g_gd e
        refine q_iald dX7_see_33 rfl h2003 ?_
        refine q_iastL dX7_see_34 rfl h2003 (fun g2004 h2005 => ?_)
        have e := g_lt h2005 e
        refine r_iinc (y := 1) dX7_see_35 rfl (by decide) (by decide) rfl ?_
        refine r_goto (tgt := 2) dX7_see_38 (by decide) ?_
        exact w_X7_see_2 n _ _ R e
      · have e := g_iT h2002 e
        refine r_aload_n dX7_see_19 rfl rfl ?_
        refine q_getr dX7_see_20 flX7_48 rfl rfl (m_fr_64_15 _) ?_
        refine r_iload_n dX7_see_23 rfl rfl ?_
        obtain ⟨h2006, e⟩ := g_gd e
        refine q_iald dX7_see_24 rfl h2006 ?_
        refine r_goto (tgt := 34) dX7_see_25 (by decide) ?_
        refine q_iastL dX7_see_34 rfl h2006 (fun g2007 h2008 => ?_)
        have e := g_lt h2008 e
        refine r_iinc (y := 1) dX7_see_35 rfl (by decide) (by decide) rfl ?_
        refine r_goto (tgt := 2) dX7_see_38 (by decide) ?_
        exact w_X7_see_2 n _ _ R e
set_option maxRecDepth 100000 in
set_option maxHeartbeats 4000000 in
theorem c_X7_see {G : mG} {g : (Nat → Nat → Int32)} {b : Bool} {a1 : Int32} {R : (Nat → Nat → Int32)} (e : f_X7_see g b a1 = some R) : MC G mX7_see 0 0 0 [.ref 64, .int a1] (m_h g b) none (m_h R b) := by
  refine MC_intro mlX7_see (Nat.le_of_ble_eq_true rfl) rfl rfl trivial ?_
  unfold f_X7_see at e
  refine r_iconst (x := 0) dX7_see_0 (by decide) ?_
  refine r_istore_n dX7_see_1 rfl (by decide) rfl ?_
  exact w_X7_see_2 2000 _ _ R e
/-! X7_broken -/
def f_X7_broken (g : (Nat → Nat → Int32)) (b : Bool) (a1 : Int32) : Option (Int32 × (Nat → Nat → Int32)) :=
  (bif (f_X7_in a1 0 1) then
(if a1 = 1 then
(if (g 64 16) = 0 then
some ((-3), g)
else
((f_X7_see g b a1).bind fun v8 =>
((f_X7_firstBroken v8).bind fun v10 =>
some (v10, v8))))
else
((f_X7_see g b a1).bind fun v3 =>
((f_X7_firstBroken v3).bind fun v5 =>
some (v5, v3))))
else
some ((-2), g))
set_option maxRecDepth 100000 in
set_option maxHeartbeats 4000000 in
theorem c_X7_broken {G : mG} {g : (Nat → Nat → Int32)} {b : Bool} {a1 : Int32} {R : (Int32 × (Nat → Nat → Int32))} (e : f_X7_broken g b a1 = some R) : MC G mX7_broken 4 0 0 [.ref 64, .int a1] (m_h g b) (some (.int R.1)) (m_h R.2 b) := by
  refine MC_intro mlX7_broken (Nat.le_of_ble_eq_true rfl) ⟨_, rfl⟩ rfl trivial ?_
  unfold f_X7_broken at e
  refine r_iload_n dX7_broken_0 rfl rfl ?_
  refine r_iconst (x := 0) dX7_broken_1 (by decide) ?_
  refine r_iconst (x := 1) dX7_broken_2 (by decide) ?_
  refine q_callS (rest := []) (c_X7_in rfl) dX7_broken_3 lkX7_95 rfl rfl (Nat.le_of_ble_eq_true rfl) (by decide) ?_
  refine r_ifneB (tgt := 12) dX7_broken_6 (by decide) (fun h1 => ?_) (fun h1 => ?_)
  · have e := g_cT h1 e
    refine r_iload_n dX7_broken_12 rfl rfl ?_
    refine r_iconst (x := 1) dX7_broken_13 (by decide) ?_
    refine r_icmp_ne (tgt := 27) dX7_broken_14 (by decide) (fun h2 => ?_) (fun h2 => ?_)
    · have e := g_iF h2 e
      refine r_aload_n dX7_broken_27 rfl rfl ?_
      refine r_iload_n dX7_broken_28 rfl rfl ?_
      obtain ⟨v3, h4, e⟩ := g_bd e
      refine q_callV (rest := []) (c_X7_see h4) dX7_broken_29 lkX7_178 rfl rfl rfl rfl (Nat.le_of_ble_eq_true rfl) (by decide) ?_
      refine r_aload_n dX7_broken_32 rfl rfl ?_
      obtain ⟨v5, h6, e⟩ := g_bd e
      refine q_callV (rest := []) (c_X7_firstBroken h6) dX7_broken_33 lkX7_182 rfl rfl rfl rfl (Nat.le_of_ble_eq_true rfl) (by decide) ?_
      have e := Option.some.inj e
      subst e
      exact r_ret dX7_broken_36 rfl rfl
    · have e := g_iT h2 e
      refine r_aload_n dX7_broken_17 rfl rfl ?_
      refine q_geti dX7_broken_18 flX7_112 rfl rfl ?_
      refine r_if_ne (tgt := 27) dX7_broken_21 (by decide) (fun h7 => ?_) (fun h7 => ?_)
      · have e := g_iF h7 e
        refine r_aload_n dX7_broken_27 rfl rfl ?_
        refine r_iload_n dX7_broken_28 rfl rfl ?_
        obtain ⟨v8, h9, e⟩ := g_bd e
        refine q_callV (rest := []) (c_X7_see h9) dX7_broken_29 lkX7_178 rfl rfl rfl rfl (Nat.le_of_ble_eq_true rfl) (by decide) ?_
        refine r_aload_n dX7_broken_32 rfl rfl ?_
        obtain ⟨v10, h11, e⟩ := g_bd e
        refine q_callV (rest := []) (c_X7_firstBroken h11) dX7_broken_33 lkX7_182 rfl rfl rfl rfl (Nat.le_of_ble_eq_true rfl) (by decide) ?_
        have e := Option.some.inj e
        subst e
        exact r_ret dX7_broken_36 rfl rfl
      · have e := g_iT h7 e
        refine r_bipush (x := (-3)) dX7_broken_24 (by decide) ?_
        have e := Option.some.inj e
        subst e
        exact r_ret dX7_broken_26 rfl rfl
  · have e := g_cF h1 e
    refine r_bipush (x := (-2)) dX7_broken_9 (by decide) ?_
    have e := Option.some.inj e
    subst e
    exact r_ret dX7_broken_11 rfl rfl
/-! X7_make -/
def lp_X7_make_151 (b : Bool) (x151_1 : Int32) (k2 : (Int32 → (Nat → Nat → Int32) → Option (Int32 × (Nat → Nat → Int32)))) (k23 : (Int32 → (Nat → Nat → Int32) → Option (Int32 × (Nat → Nat → Int32)))) (k50 : (Int32 → (Nat → Nat → Int32) → Option (Int32 × (Nat → Nat → Int32)))) : Nat → Int32 → (Nat → Nat → Int32) → Option (Int32 × (Nat → Nat → Int32))
  | 0, _, _ => none
  | n + 1, y151_2, g151 =>
  (if 288 ≤ y151_2 then
(m_let (m_up g151 64 16 1) fun g151002 =>
some (100, g151002))
else
(if m_in y151_2 288 then
(m_let (m_up g151 77 y151_2.toNatClampNeg (g151 87 y151_2.toNatClampNeg)) fun g151005 =>
lp_X7_make_151 b x151_1 k2 k23 k50 n (y151_2 + 1) g151005) else none))
def lp_X7_make_60 (b : Bool) (y50_1 : Int32) (k2 : (Int32 → (Nat → Nat → Int32) → Option (Int32 × (Nat → Nat → Int32)))) (k23 : (Int32 → (Nat → Nat → Int32) → Option (Int32 × (Nat → Nat → Int32)))) (k50 : (Int32 → (Nat → Nat → Int32) → Option (Int32 × (Nat → Nat → Int32)))) : Nat → Int32 → (Nat → Nat → Int32) → Option (Int32 × (Nat → Nat → Int32))
  | 0, _, _ => none
  | n + 1, y60_2, g60 =>
  (if m_in y50_1 8 then
(if m_in (g60 81 y50_1.toNatClampNeg) 4 then
(if (g60 66 (g60 81 y50_1.toNatClampNeg).toNatClampNeg) ≤ y60_2 then
k50 (y50_1 + 1) g60
else
(if (g60 86 y50_1.toNatClampNeg) = 0 then
k50 (y50_1 + 1) g60
else
(if m_in (f_X7_cell (g60 81 y50_1.toNatClampNeg) y60_2 (g60 82 y50_1.toNatClampNeg)) 288 then
(if (g60 87 (f_X7_cell (g60 81 y50_1.toNatClampNeg) y60_2 (g60 82 y50_1.toNatClampNeg)).toNatClampNeg) = (-2147483648) then
lp_X7_make_60 b y50_1 k2 k23 k50 n (y60_2 + 1) g60
else
((f_X7_sumFor g60 y50_1 y60_2).bind fun v60007 =>
(m_let (m_up g60 87 (f_X7_cell (g60 81 y50_1.toNatClampNeg) y60_2 (g60 82 y50_1.toNatClampNeg)).toNatClampNeg v60007) fun g60009 =>
lp_X7_make_60 b y50_1 k2 k23 k50 n (y60_2 + 1) g60009))) else none))) else none) else none)
def lp_X7_make_50 (b : Bool) (k2 : (Int32 → (Nat → Nat → Int32) → Option (Int32 × (Nat → Nat → Int32)))) (k23 : (Int32 → (Nat → Nat → Int32) → Option (Int32 × (Nat → Nat → Int32)))) : Nat → Int32 → (Nat → Nat → Int32) → Option (Int32 × (Nat → Nat → Int32))
  | 0, _, _ => none
  | n + 1, y50_1, g50 =>
  (if (g50 64 20) ≤ y50_1 then
((f_X7_firstBroken g50).bind fun v50002 =>
(if 100 ≤ v50002 then
lp_X7_make_151 b v50002 k2 k23 (fun y50_1 g50 => lp_X7_make_50 b k2 k23 n y50_1 g50) 2000 0 g50
else
some (v50002, g50)))
else
lp_X7_make_60 b y50_1 k2 k23 (fun y50_1 g50 => lp_X7_make_50 b k2 k23 n y50_1 g50) 2000 0 g50)
def lp_X7_make_23 (b : Bool) (k2 : (Int32 → (Nat → Nat → Int32) → Option (Int32 × (Nat → Nat → Int32)))) : Nat → Int32 → (Nat → Nat → Int32) → Option (Int32 × (Nat → Nat → Int32))
  | 0, _, _ => none
  | n + 1, y23_1, g23 =>
  (if 288 ≤ y23_1 then
lp_X7_make_50 b k2 (fun y23_1 g23 => lp_X7_make_23 b k2 n y23_1 g23) 2000 0 g23
else
(if m_in y23_1 288 then
(m_let (m_up g23 87 y23_1.toNatClampNeg (g23 78 y23_1.toNatClampNeg)) fun g23003 =>
lp_X7_make_23 b k2 n (y23_1 + 1) g23003) else none))
def lp_X7_make_2 (b : Bool) : Nat → Int32 → (Nat → Nat → Int32) → Option (Int32 × (Nat → Nat → Int32))
  | 0, _, _ => none
  | n + 1, y2_1, g2 =>
  (if (g2 64 1) ≤ y2_1 then
lp_X7_make_23 b (fun y2_1 g2 => lp_X7_make_2 b n y2_1 g2) 2000 0 g2
else
((f_X7_maskTable g2 y2_1).bind fun v2002 =>
lp_X7_make_2 b n (y2_1 + 1) v2002))
def f_X7_make (g : (Nat → Nat → Int32)) (b : Bool) : Option (Int32 × (Nat → Nat → Int32)) :=
  lp_X7_make_2 b 2000 0 g
set_option maxRecDepth 100000 in
set_option maxHeartbeats 4000000 in
theorem w_X7_make_151 {G : mG} {b : Bool} {x151_1 : Int32} {k2 : (Int32 → (Nat → Nat → Int32) → Option (Int32 × (Nat → Nat → Int32)))} {k23 : (Int32 → (Nat → Nat → Int32) → Option (Int32 × (Nat → Nat → Int32)))} {k50 : (Int32 → (Nat → Nat → Int32) → Option (Int32 × (Nat → Nat → Int32)))} (hk2 : ∀ (y2_1 : Int32) (g2 : (Nat → Nat → Int32)) (R : (Int32 × (Nat → Nat → Int32))), k2 y2_1 g2 = some R → MW G mX7_make 6 0 0 2 [.ref 64, .int y2_1, .retAddr 0, .retAddr 0] [] (m_h g2 b) (some (.int R.1)) (m_h R.2 b)) (hk23 : ∀ (y23_1 : Int32) (g23 : (Nat → Nat → Int32)) (R : (Int32 × (Nat → Nat → Int32))), k23 y23_1 g23 = some R → MW G mX7_make 6 0 0 23 [.ref 64, .int y23_1, .retAddr 0, .retAddr 0] [] (m_h g23 b) (some (.int R.1)) (m_h R.2 b)) (hk50 : ∀ (y50_1 : Int32) (g50 : (Nat → Nat → Int32)) (R : (Int32 × (Nat → Nat → Int32))), k50 y50_1 g50 = some R → MW G mX7_make 6 0 0 50 [.ref 64, .int y50_1, .retAddr 0, .retAddr 0] [] (m_h g50 b) (some (.int R.1)) (m_h R.2 b)) : ∀ (n : Nat) (y151_2 : Int32) (g151 : (Nat → Nat → Int32)) (R : (Int32 × (Nat → Nat → Int32))), lp_X7_make_151 b x151_1 k2 k23 k50 n y151_2 g151 = some R → MW G mX7_make 6 0 0 151 [.ref 64, .int x151_1, .int y151_2, .retAddr 0] [] (m_h g151 b) (some (.int R.1)) (m_h R.2 b)
  | 0, _, _, R, e => absurd (show (none : Option (Int32 × (Nat → Nat → Int32))) = some R from e) (fun h => by cases h)
  | n + 1, y151_2, g151, R, e => by
    rw [lp_X7_make_151] at e
    refine r_iload_n dX7_make_151 rfl rfl ?_
    refine r_sipush (x := 288) dX7_make_152 (by decide) ?_
    refine r_icmp_ge (tgt := 176) dX7_make_155 (by decide) (fun h151001 => ?_) (fun h151001 => ?_)
    · have e := g_iT h151001 e
      refine r_aload_n dX7_make_176 rfl rfl ?_
      refine r_iconst (x := 1) dX7_make_177 (by decide) ?_
      refine q_putiL dX7_make_178 flX7_112 (Or.inl rfl) (Or.inr ⟨rfl, by decide⟩) rfl (fun g151002 h151003 => ?_)
      have e := g_lt h151003 e
      refine r_bipush (x := 100) dX7_make_181 (by decide) ?_
      have e := Option.some.inj e
      subst e
      exact r_ret dX7_make_183 rfl rfl
    · have e := g_iF h151001 e
      refine r_aload_n dX7_make_158 rfl rfl ?_
      refine q_getr dX7_make_159 flX7_48 rfl rfl (m_fr_64_15 _) ?_
      refine r_iload_n dX7_make_162 rfl rfl ?_
      refine r_aload_n dX7_make_163 rfl rfl ?_
      refine q_getr dX7_make_164 flX7_79 rfl rfl (m_fr_64_28 _) ?_
      refine r_iload_n dX7_make_167 rfl rfl ?_
      obtain ⟨h151004, e⟩ := g_gd e
      refine q_iald dX7_make_168 rfl h151004 ?_
      refine q_iastL dX7_make_169 rfl h151004 (fun g151005 h151006 => ?_)
      have e := g_lt h151006 e
      refine r_iinc (y := 1) dX7_make_170 rfl (by decide) (by decide) rfl ?_
      refine r_goto (tgt := 151) dX7_make_173 (by decide) ?_
      exact w_X7_make_151 hk2 hk23 hk50 n _ _ R e
set_option maxRecDepth 100000 in
set_option maxHeartbeats 4000000 in
theorem w_X7_make_60 {G : mG} {b : Bool} {y50_1 : Int32} {k2 : (Int32 → (Nat → Nat → Int32) → Option (Int32 × (Nat → Nat → Int32)))} {k23 : (Int32 → (Nat → Nat → Int32) → Option (Int32 × (Nat → Nat → Int32)))} {k50 : (Int32 → (Nat → Nat → Int32) → Option (Int32 × (Nat → Nat → Int32)))} (hk2 : ∀ (y2_1 : Int32) (g2 : (Nat → Nat → Int32)) (R : (Int32 × (Nat → Nat → Int32))), k2 y2_1 g2 = some R → MW G mX7_make 6 0 0 2 [.ref 64, .int y2_1, .retAddr 0, .retAddr 0] [] (m_h g2 b) (some (.int R.1)) (m_h R.2 b)) (hk23 : ∀ (y23_1 : Int32) (g23 : (Nat → Nat → Int32)) (R : (Int32 × (Nat → Nat → Int32))), k23 y23_1 g23 = some R → MW G mX7_make 6 0 0 23 [.ref 64, .int y23_1, .retAddr 0, .retAddr 0] [] (m_h g23 b) (some (.int R.1)) (m_h R.2 b)) (hk50 : ∀ (y50_1 : Int32) (g50 : (Nat → Nat → Int32)) (R : (Int32 × (Nat → Nat → Int32))), k50 y50_1 g50 = some R → MW G mX7_make 6 0 0 50 [.ref 64, .int y50_1, .retAddr 0, .retAddr 0] [] (m_h g50 b) (some (.int R.1)) (m_h R.2 b)) : ∀ (n : Nat) (y60_2 : Int32) (g60 : (Nat → Nat → Int32)) (R : (Int32 × (Nat → Nat → Int32))), lp_X7_make_60 b y50_1 k2 k23 k50 n y60_2 g60 = some R → MW G mX7_make 6 0 0 60 [.ref 64, .int y50_1, .int y60_2, .retAddr 0] [] (m_h g60 b) (some (.int R.1)) (m_h R.2 b)
  | 0, _, _, R, e => absurd (show (none : Option (Int32 × (Nat → Nat → Int32))) = some R from e) (fun h => by cases h)
  | n + 1, y60_2, g60, R, e => by
    rw [lp_X7_make_60] at e
    refine r_iload_n dX7_make_60 rfl rfl ?_
    refine r_aload_n dX7_make_61 rfl rfl ?_
    refine q_getr dX7_make_62 flX7_15 rfl rfl (m_fr_64_3 _) ?_
    refine r_aload_n dX7_make_65 rfl rfl ?_
    refine q_getr dX7_make_66 flX7_60 rfl rfl (m_fr_64_22 _) ?_
    refine r_iload_n dX7_make_69 rfl rfl ?_
    obtain ⟨h60001, e⟩ := g_gd e
    refine q_iald dX7_make_70 rfl h60001 ?_
    obtain ⟨h60002, e⟩ := g_gd e
    refine q_iald dX7_make_71 rfl h60002 ?_
    refine r_icmp_ge (tgt := 130) dX7_make_72 (by decide) (fun h60003 => ?_) (fun h60003 => ?_)
    · have e := g_iT h60003 e
      refine r_iinc (y := 1) dX7_make_130 rfl (by decide) (by decide) rfl ?_
      refine r_goto (tgt := 50) dX7_make_133 (by decide) ?_
      refine r_forget 2 rfl ?_
      exact hk50 _ _ R e
    · have e := g_iF h60003 e
      refine r_aload_n dX7_make_75 rfl rfl ?_
      refine q_getr dX7_make_76 flX7_75 rfl rfl (m_fr_64_27 _) ?_
      refine r_iload_n dX7_make_79 rfl rfl ?_
      refine q_zald dX7_make_80 rfl h60001 ?_
      refine r_if_eq (tgt := 130) dX7_make_81 (by decide) (fun h60004 => ?_) (fun h60004 => ?_)
      · have e := g_iT h60004 e
        refine r_iinc (y := 1) dX7_make_130 rfl (by decide) (by decide) rfl ?_
        refine r_goto (tgt := 50) dX7_make_133 (by decide) ?_
        refine r_forget 2 rfl ?_
        exact hk50 _ _ R e
      · have e := g_iF h60004 e
        refine r_aload_n dX7_make_84 rfl rfl ?_
        refine q_getr dX7_make_85 flX7_60 rfl rfl (m_fr_64_22 _) ?_
        refine r_iload_n dX7_make_88 rfl rfl ?_
        refine q_iald dX7_make_89 rfl h60001 ?_
        refine r_iload_n dX7_make_90 rfl rfl ?_
        refine r_aload_n dX7_make_91 rfl rfl ?_
        refine q_getr dX7_make_92 flX7_63 rfl rfl (m_fr_64_23 _) ?_
        refine r_iload_n dX7_make_95 rfl rfl ?_
        refine q_iald dX7_make_96 rfl h60001 ?_
        refine q_callS (rest := []) (c_X7_cell rfl) dX7_make_97 lkX7_127 rfl rfl (Nat.le_of_ble_eq_true rfl) (by decide) ?_
        refine r_istore_n dX7_make_100 rfl (by decide) rfl ?_
        refine r_aload_n dX7_make_101 rfl rfl ?_
        refine q_getr dX7_make_102 flX7_79 rfl rfl (m_fr_64_28 _) ?_
        refine r_iload_n dX7_make_105 rfl rfl ?_
        obtain ⟨h60005, e⟩ := g_gd e
        refine q_iald dX7_make_106 rfl h60005 ?_
        refine r_ldc (x := (-2147483648)) dX7_make_107 kcX7_119 ?_
        refine r_icmp_eq (tgt := 124) dX7_make_109 (by decide) (fun h60006 => ?_) (fun h60006 => ?_)
        · have e := g_iT h60006 e
          refine r_iinc (y := 1) dX7_make_124 rfl (by decide) (by decide) rfl ?_
          refine r_goto (tgt := 60) dX7_make_127 (by decide) ?_
          refine r_forget 3 rfl ?_
          exact w_X7_make_60 hk2 hk23 hk50 n _ _ R e
        · have e := g_iF h60006 e
          refine r_aload_n dX7_make_112 rfl rfl ?_
          refine q_getr dX7_make_113 flX7_79 rfl rfl (m_fr_64_28 _) ?_
          refine r_iload_n dX7_make_116 rfl rfl ?_
          refine r_aload_n dX7_make_117 rfl rfl ?_
          refine r_iload_n dX7_make_118 rfl rfl ?_
          refine r_iload_n dX7_make_119 rfl rfl ?_
          obtain ⟨v60007, h60008, e⟩ := g_bd e
          refine q_callV (rest := [.int (f_X7_cell (g60 81 y50_1.toNatClampNeg) y60_2 (g60 82 y50_1.toNatClampNeg)), .ref 87]) (c_X7_sumFor h60008) dX7_make_120 lkX7_169 rfl rfl rfl rfl (Nat.le_of_ble_eq_true rfl) (by decide) ?_
          refine q_iastL dX7_make_123 rfl h60005 (fun g60009 h60010 => ?_)
          have e := g_lt h60010 e
          refine r_iinc (y := 1) dX7_make_124 rfl (by decide) (by decide) rfl ?_
          refine r_goto (tgt := 60) dX7_make_127 (by decide) ?_
          refine r_forget 3 rfl ?_
          exact w_X7_make_60 hk2 hk23 hk50 n _ _ R e
set_option maxRecDepth 100000 in
set_option maxHeartbeats 4000000 in
theorem w_X7_make_50 {G : mG} {b : Bool} {k2 : (Int32 → (Nat → Nat → Int32) → Option (Int32 × (Nat → Nat → Int32)))} {k23 : (Int32 → (Nat → Nat → Int32) → Option (Int32 × (Nat → Nat → Int32)))} (hk2 : ∀ (y2_1 : Int32) (g2 : (Nat → Nat → Int32)) (R : (Int32 × (Nat → Nat → Int32))), k2 y2_1 g2 = some R → MW G mX7_make 6 0 0 2 [.ref 64, .int y2_1, .retAddr 0, .retAddr 0] [] (m_h g2 b) (some (.int R.1)) (m_h R.2 b)) (hk23 : ∀ (y23_1 : Int32) (g23 : (Nat → Nat → Int32)) (R : (Int32 × (Nat → Nat → Int32))), k23 y23_1 g23 = some R → MW G mX7_make 6 0 0 23 [.ref 64, .int y23_1, .retAddr 0, .retAddr 0] [] (m_h g23 b) (some (.int R.1)) (m_h R.2 b)) : ∀ (n : Nat) (y50_1 : Int32) (g50 : (Nat → Nat → Int32)) (R : (Int32 × (Nat → Nat → Int32))), lp_X7_make_50 b k2 k23 n y50_1 g50 = some R → MW G mX7_make 6 0 0 50 [.ref 64, .int y50_1, .retAddr 0, .retAddr 0] [] (m_h g50 b) (some (.int R.1)) (m_h R.2 b)
  | 0, _, _, R, e => absurd (show (none : Option (Int32 × (Nat → Nat → Int32))) = some R from e) (fun h => by cases h)
  | n + 1, y50_1, g50, R, e => by
    rw [lp_X7_make_50] at e
    refine r_iload_n dX7_make_50 rfl rfl ?_
    refine r_aload_n dX7_make_51 rfl rfl ?_
    refine q_geti dX7_make_52 flX7_162 rfl rfl ?_
    refine r_icmp_ge (tgt := 136) dX7_make_55 (by decide) (fun h50001 => ?_) (fun h50001 => ?_)
    · have e := g_iT h50001 e
      refine r_aload_n dX7_make_136 rfl rfl ?_
      obtain ⟨v50002, h50003, e⟩ := g_bd e
      refine q_callV (rest := []) (c_X7_firstBroken h50003) dX7_make_137 lkX7_182 rfl rfl rfl rfl (Nat.le_of_ble_eq_true rfl) (by decide) ?_
      refine r_istore_n dX7_make_140 rfl (by decide) rfl ?_
      refine r_iload_n dX7_make_141 rfl rfl ?_
      refine r_bipush (x := 100) dX7_make_142 (by decide) ?_
      refine r_icmp_ge (tgt := 149) dX7_make_144 (by decide) (fun h50004 => ?_) (fun h50004 => ?_)
      · have e := g_iT h50004 e
        refine r_iconst (x := 0) dX7_make_149 (by decide) ?_
        refine r_istore_n dX7_make_150 rfl (by decide) rfl ?_
        exact w_X7_make_151 hk2 hk23 (fun y50_1 g50 R e => w_X7_make_50 hk2 hk23 n y50_1 g50 R e) 2000 _ _ R e
      · have e := g_iF h50004 e
        refine r_iload_n dX7_make_147 rfl rfl ?_
        have e := Option.some.inj e
        subst e
        exact r_ret dX7_make_148 rfl rfl
    · have e := g_iF h50001 e
      refine r_iconst (x := 0) dX7_make_58 (by decide) ?_
      refine r_istore_n dX7_make_59 rfl (by decide) rfl ?_
      exact w_X7_make_60 hk2 hk23 (fun y50_1 g50 R e => w_X7_make_50 hk2 hk23 n y50_1 g50 R e) 2000 _ _ R e
set_option maxRecDepth 100000 in
set_option maxHeartbeats 4000000 in
theorem w_X7_make_23 {G : mG} {b : Bool} {k2 : (Int32 → (Nat → Nat → Int32) → Option (Int32 × (Nat → Nat → Int32)))} (hk2 : ∀ (y2_1 : Int32) (g2 : (Nat → Nat → Int32)) (R : (Int32 × (Nat → Nat → Int32))), k2 y2_1 g2 = some R → MW G mX7_make 6 0 0 2 [.ref 64, .int y2_1, .retAddr 0, .retAddr 0] [] (m_h g2 b) (some (.int R.1)) (m_h R.2 b)) : ∀ (n : Nat) (y23_1 : Int32) (g23 : (Nat → Nat → Int32)) (R : (Int32 × (Nat → Nat → Int32))), lp_X7_make_23 b k2 n y23_1 g23 = some R → MW G mX7_make 6 0 0 23 [.ref 64, .int y23_1, .retAddr 0, .retAddr 0] [] (m_h g23 b) (some (.int R.1)) (m_h R.2 b)
  | 0, _, _, R, e => absurd (show (none : Option (Int32 × (Nat → Nat → Int32))) = some R from e) (fun h => by cases h)
  | n + 1, y23_1, g23, R, e => by
    rw [lp_X7_make_23] at e
    refine r_iload_n dX7_make_23 rfl rfl ?_
    refine r_sipush (x := 288) dX7_make_24 (by decide) ?_
    refine r_icmp_ge (tgt := 48) dX7_make_27 (by decide) (fun h23001 => ?_) (fun h23001 => ?_)
    · have e := g_iT h23001 e
      refine r_iconst (x := 0) dX7_make_48 (by decide) ?_
      refine r_istore_n dX7_make_49 rfl (by decide) rfl ?_
      exact w_X7_make_50 hk2 (fun y23_1 g23 R e => w_X7_make_23 hk2 n y23_1 g23 R e) 2000 _ _ R e
    · have e := g_iF h23001 e
      refine r_aload_n dX7_make_30 rfl rfl ?_
      refine q_getr dX7_make_31 flX7_79 rfl rfl (m_fr_64_28 _) ?_
      refine r_iload_n dX7_make_34 rfl rfl ?_
      refine r_aload_n dX7_make_35 rfl rfl ?_
      refine q_getr dX7_make_36 flX7_51 rfl rfl (m_fr_64_17 _) ?_
      refine r_iload_n dX7_make_39 rfl rfl ?_
      obtain ⟨h23002, e⟩ := g_gd e
      refine q_iald dX7_make_40 rfl h23002 ?_
      refine q_iastL dX7_make_41 rfl h23002 (fun g23003 h23004 => ?_)
      have e := g_lt h23004 e
      refine r_iinc (y := 1) dX7_make_42 rfl (by decide) (by decide) rfl ?_
      refine r_goto (tgt := 23) dX7_make_45 (by decide) ?_
      exact w_X7_make_23 hk2 n _ _ R e
set_option maxRecDepth 100000 in
set_option maxHeartbeats 4000000 in
theorem w_X7_make_2 {G : mG} {b : Bool} : ∀ (n : Nat) (y2_1 : Int32) (g2 : (Nat → Nat → Int32)) (R : (Int32 × (Nat → Nat → Int32))), lp_X7_make_2 b n y2_1 g2 = some R → MW G mX7_make 6 0 0 2 [.ref 64, .int y2_1, .retAddr 0, .retAddr 0] [] (m_h g2 b) (some (.int R.1)) (m_h R.2 b)
  | 0, _, _, R, e => absurd (show (none : Option (Int32 × (Nat → Nat → Int32))) = some R from e) (fun h => by cases h)
  | n + 1, y2_1, g2, R, e => by
    rw [lp_X7_make_2] at e
    refine r_iload_n dX7_make_2 rfl rfl ?_
    refine r_aload_n dX7_make_3 rfl rfl ?_
    refine q_geti dX7_make_4 flX7_92 rfl rfl ?_
    refine r_icmp_ge (tgt := 21) dX7_make_7 (by decide) (fun h2001 => ?_) (fun h2001 => ?_)
    · have e := g_iT h2001 e
      refine r_iconst (x := 0) dX7_make_21 (by decide) ?_
      refine r_istore_n dX7_make_22 rfl (by decide) rfl ?_
      exact w_X7_make_23 (fun y2_1 g2 R e => w_X7_make_2 n y2_1 g2 R e) 2000 _ _ R e
    · have e := g_iF h2001 e
      refine r_aload_n dX7_make_10 rfl rfl ?_
      refine r_iload_n dX7_make_11 rfl rfl ?_
      obtain ⟨v2002, h2003, e⟩ := g_bd e
      refine q_callV (rest := []) (c_X7_maskTable h2003) dX7_make_12 lkX7_186 rfl rfl rfl rfl (Nat.le_of_ble_eq_true rfl) (by decide) ?_
      refine r_iinc (y := 1) dX7_make_15 rfl (by decide) (by decide) rfl ?_
      refine r_goto (tgt := 2) dX7_make_18 (by decide) ?_
      exact w_X7_make_2 n _ _ R e
set_option maxRecDepth 100000 in
set_option maxHeartbeats 4000000 in
theorem c_X7_make {G : mG} {g : (Nat → Nat → Int32)} {b : Bool} {R : (Int32 × (Nat → Nat → Int32))} (e : f_X7_make g b = some R) : MC G mX7_make 6 0 0 [.ref 64] (m_h g b) (some (.int R.1)) (m_h R.2 b) := by
  refine MC_intro mlX7_make (Nat.le_of_ble_eq_true rfl) ⟨_, rfl⟩ rfl trivial ?_
  unfold f_X7_make at e
  refine r_iconst (x := 0) dX7_make_0 (by decide) ?_
  refine r_istore_n dX7_make_1 rfl (by decide) rfl ?_
  exact w_X7_make_2 2000 _ _ R e
/-! X7_at -/
def f_X7_at (g : (Nat → Nat → Int32)) (b : Bool) (a1 : Int32) (a2 : Int32) (a3 : Int32) (a4 : Int32) : Option Int32 :=
  ((f_X7_isColumn g a1 a3).bind fun v1 =>
(bif v1 then
((f_X7_isRow g a1 a2).bind fun v4 =>
(bif v4 then
(bif (f_X7_in a4 0 1) then
(if a4 = 1 then
(if (g 64 16) = 0 then
some (-2147483648)
else
(if a4 = 1 then
(if m_in (f_X7_cell a1 a2 a3) 288 then
some (g 77 (f_X7_cell a1 a2 a3).toNatClampNeg) else none)
else
(if m_in (f_X7_cell a1 a2 a3) 288 then
some (g 76 (f_X7_cell a1 a2 a3).toNatClampNeg) else none)))
else
(if a4 = 1 then
(if m_in (f_X7_cell a1 a2 a3) 288 then
some (g 77 (f_X7_cell a1 a2 a3).toNatClampNeg) else none)
else
(if m_in (f_X7_cell a1 a2 a3) 288 then
some (g 76 (f_X7_cell a1 a2 a3).toNatClampNeg) else none)))
else
some (-2147483648))
else
some (-2147483648)))
else
some (-2147483648)))
set_option maxRecDepth 100000 in
set_option maxHeartbeats 4000000 in
theorem c_X7_at {G : mG} {g : (Nat → Nat → Int32)} {b : Bool} {a1 : Int32} {a2 : Int32} {a3 : Int32} {a4 : Int32} {R : Int32} (e : f_X7_at g b a1 a2 a3 a4 = some R) : MC G mX7_at 3 0 0 [.ref 64, .int a1, .int a2, .int a3, .int a4] (m_h g b) (some (.int R)) (m_h g b) := by
  refine MC_intro mlX7_at (Nat.le_of_ble_eq_true rfl) ⟨_, rfl⟩ rfl trivial ?_
  unfold f_X7_at at e
  refine r_aload_n dX7_at_0 rfl rfl ?_
  refine r_iload_n dX7_at_1 rfl rfl ?_
  refine r_iload_n dX7_at_2 rfl rfl ?_
  obtain ⟨v1, h2, e⟩ := g_bd e
  refine q_callV (rest := []) (c_X7_isColumn h2) dX7_at_3 lkX7_131 rfl rfl rfl rfl (Nat.le_of_ble_eq_true rfl) (by decide) ?_
  refine r_ifeqB (tgt := 41) dX7_at_6 (by decide) (fun h3 => ?_) (fun h3 => ?_)
  · have e := g_cF h3 e
    refine r_ldc (x := (-2147483648)) dX7_at_41 kcX7_119 ?_
    have e := Option.some.inj e
    subst e
    exact r_ret dX7_at_43 rfl rfl
  · have e := g_cT h3 e
    refine r_aload_n dX7_at_9 rfl rfl ?_
    refine r_iload_n dX7_at_10 rfl rfl ?_
    refine r_iload_n dX7_at_11 rfl rfl ?_
    obtain ⟨v4, h5, e⟩ := g_bd e
    refine q_callV (rest := []) (c_X7_isRow h5) dX7_at_12 lkX7_189 rfl rfl rfl rfl (Nat.le_of_ble_eq_true rfl) (by decide) ?_
    refine r_ifeqB (tgt := 41) dX7_at_15 (by decide) (fun h6 => ?_) (fun h6 => ?_)
    · have e := g_cF h6 e
      refine r_ldc (x := (-2147483648)) dX7_at_41 kcX7_119 ?_
      have e := Option.some.inj e
      subst e
      exact r_ret dX7_at_43 rfl rfl
    · have e := g_cT h6 e
      refine r_iload dX7_at_18 rfl ?_
      refine r_iconst (x := 0) dX7_at_20 (by decide) ?_
      refine r_iconst (x := 1) dX7_at_21 (by decide) ?_
      refine q_callS (rest := []) (c_X7_in rfl) dX7_at_22 lkX7_95 rfl rfl (Nat.le_of_ble_eq_true rfl) (by decide) ?_
      refine r_ifeqB (tgt := 41) dX7_at_25 (by decide) (fun h7 => ?_) (fun h7 => ?_)
      · have e := g_cF h7 e
        refine r_ldc (x := (-2147483648)) dX7_at_41 kcX7_119 ?_
        have e := Option.some.inj e
        subst e
        exact r_ret dX7_at_43 rfl rfl
      · have e := g_cT h7 e
        refine r_iload dX7_at_28 rfl ?_
        refine r_iconst (x := 1) dX7_at_30 (by decide) ?_
        refine r_icmp_ne (tgt := 44) dX7_at_31 (by decide) (fun h8 => ?_) (fun h8 => ?_)
        · have e := g_iF h8 e
          refine r_iload dX7_at_44 rfl ?_
          refine r_iconst (x := 1) dX7_at_46 (by decide) ?_
          refine r_icmp_ne (tgt := 64) dX7_at_47 (by decide) (fun h9 => ?_) (fun h9 => ?_)
          · have e := g_iF h9 e
            refine r_aload_n dX7_at_64 rfl rfl ?_
            refine q_getr dX7_at_65 flX7_45 rfl rfl (m_fr_64_14 _) ?_
            refine r_iload_n dX7_at_68 rfl rfl ?_
            refine r_iload_n dX7_at_69 rfl rfl ?_
            refine r_iload_n dX7_at_70 rfl rfl ?_
            refine q_callS (rest := [.ref 76]) (c_X7_cell rfl) dX7_at_71 lkX7_127 rfl rfl (Nat.le_of_ble_eq_true rfl) (by decide) ?_
            obtain ⟨h10, e⟩ := g_gd e
            refine q_iald dX7_at_74 rfl h10 ?_
            have e := Option.some.inj e
            subst e
            exact r_ret dX7_at_75 rfl rfl
          · have e := g_iT h9 e
            refine r_aload_n dX7_at_50 rfl rfl ?_
            refine q_getr dX7_at_51 flX7_48 rfl rfl (m_fr_64_15 _) ?_
            refine r_iload_n dX7_at_54 rfl rfl ?_
            refine r_iload_n dX7_at_55 rfl rfl ?_
            refine r_iload_n dX7_at_56 rfl rfl ?_
            refine q_callS (rest := [.ref 77]) (c_X7_cell rfl) dX7_at_57 lkX7_127 rfl rfl (Nat.le_of_ble_eq_true rfl) (by decide) ?_
            obtain ⟨h11, e⟩ := g_gd e
            refine q_iald dX7_at_60 rfl h11 ?_
            refine r_goto (tgt := 75) dX7_at_61 (by decide) ?_
            have e := Option.some.inj e
            subst e
            exact r_ret dX7_at_75 rfl rfl
        · have e := g_iT h8 e
          refine r_aload_n dX7_at_34 rfl rfl ?_
          refine q_geti dX7_at_35 flX7_112 rfl rfl ?_
          refine r_if_ne (tgt := 44) dX7_at_38 (by decide) (fun h12 => ?_) (fun h12 => ?_)
          · have e := g_iF h12 e
            refine r_iload dX7_at_44 rfl ?_
            refine r_iconst (x := 1) dX7_at_46 (by decide) ?_
            refine r_icmp_ne (tgt := 64) dX7_at_47 (by decide) (fun h13 => ?_) (fun h13 => ?_)
            · have e := g_iF h13 e
              refine r_aload_n dX7_at_64 rfl rfl ?_
              refine q_getr dX7_at_65 flX7_45 rfl rfl (m_fr_64_14 _) ?_
              refine r_iload_n dX7_at_68 rfl rfl ?_
              refine r_iload_n dX7_at_69 rfl rfl ?_
              refine r_iload_n dX7_at_70 rfl rfl ?_
              refine q_callS (rest := [.ref 76]) (c_X7_cell rfl) dX7_at_71 lkX7_127 rfl rfl (Nat.le_of_ble_eq_true rfl) (by decide) ?_
              obtain ⟨h14, e⟩ := g_gd e
              refine q_iald dX7_at_74 rfl h14 ?_
              have e := Option.some.inj e
              subst e
              exact r_ret dX7_at_75 rfl rfl
            · have e := g_iT h13 e
              refine r_aload_n dX7_at_50 rfl rfl ?_
              refine q_getr dX7_at_51 flX7_48 rfl rfl (m_fr_64_15 _) ?_
              refine r_iload_n dX7_at_54 rfl rfl ?_
              refine r_iload_n dX7_at_55 rfl rfl ?_
              refine r_iload_n dX7_at_56 rfl rfl ?_
              refine q_callS (rest := [.ref 77]) (c_X7_cell rfl) dX7_at_57 lkX7_127 rfl rfl (Nat.le_of_ble_eq_true rfl) (by decide) ?_
              obtain ⟨h15, e⟩ := g_gd e
              refine q_iald dX7_at_60 rfl h15 ?_
              refine r_goto (tgt := 75) dX7_at_61 (by decide) ?_
              have e := Option.some.inj e
              subst e
              exact r_ret dX7_at_75 rfl rfl
          · have e := g_iT h12 e
            refine r_ldc (x := (-2147483648)) dX7_at_41 kcX7_119 ?_
            have e := Option.some.inj e
            subst e
            exact r_ret dX7_at_43 rfl rfl
/-! X7_turned -/
def f_X7_turned (g : (Nat → Nat → Int32)) (a1 : Int32) (a2 : Int32) (a3 : Int32) : Option Int32 :=
  ((f_X7_isColumn g a1 a2).bind fun v1 =>
(bif v1 then
(if m_in ((6 * a1) + a2) 24 then
(if (g 68 ((6 * a1) + a2).toNatClampNeg) = 0 then
(if (g 68 ((6 * a1) + a2).toNatClampNeg) = 0 then
(bif (f_X7_isKey a3) then
((f_X7_turnedKey g a1 a3).bind fun v11 =>
some v11)
else
some (-2))
else
(bif (f_X7_in a3 0 99) then
((f_X7_turnedName g ((6 * a1) + a2) a3).bind fun v8 =>
some v8)
else
some (-2)))
else
(if (g 68 ((6 * a1) + a2).toNatClampNeg) = 4 then
(if (g 68 ((6 * a1) + a2).toNatClampNeg) = 0 then
(bif (f_X7_isKey a3) then
((f_X7_turnedKey g a1 a3).bind fun v19 =>
some v19)
else
some (-2))
else
(bif (f_X7_in a3 0 99) then
((f_X7_turnedName g ((6 * a1) + a2) a3).bind fun v16 =>
some v16)
else
some (-2)))
else
some (-1))) else none)
else
some (-1)))
set_option maxRecDepth 100000 in
set_option maxHeartbeats 4000000 in
theorem c_X7_turned {G : mG} {g : (Nat → Nat → Int32)} {b : Bool} {a1 : Int32} {a2 : Int32} {a3 : Int32} {R : Int32} (e : f_X7_turned g a1 a2 a3 = some R) : MC G mX7_turned 3 0 0 [.ref 64, .int a1, .int a2, .int a3] (m_h g b) (some (.int R)) (m_h g b) := by
  refine MC_intro mlX7_turned (Nat.le_of_ble_eq_true rfl) ⟨_, rfl⟩ rfl trivial ?_
  unfold f_X7_turned at e
  refine r_aload_n dX7_turned_0 rfl rfl ?_
  refine r_iload_n dX7_turned_1 rfl rfl ?_
  refine r_iload_n dX7_turned_2 rfl rfl ?_
  obtain ⟨v1, h2, e⟩ := g_bd e
  refine q_callV (rest := []) (c_X7_isColumn h2) dX7_turned_3 lkX7_131 rfl rfl rfl rfl (Nat.le_of_ble_eq_true rfl) (by decide) ?_
  refine r_ifeqB (tgt := 38) dX7_turned_6 (by decide) (fun h3 => ?_) (fun h3 => ?_)
  · have e := g_cF h3 e
    refine r_iconst (x := (-1)) dX7_turned_38 (by decide) ?_
    have e := Option.some.inj e
    subst e
    exact r_ret dX7_turned_39 rfl rfl
  · have e := g_cT h3 e
    refine r_aload_n dX7_turned_9 rfl rfl ?_
    refine q_getr dX7_turned_10 flX7_21 rfl rfl (m_fr_64_5 _) ?_
    refine r_bipush (x := 6) dX7_turned_13 (by decide) ?_
    refine r_iload_n dX7_turned_15 rfl rfl ?_
    refine r_imul dX7_turned_16 ?_
    refine r_iload_n dX7_turned_17 rfl rfl ?_
    refine r_iadd dX7_turned_18 ?_
    obtain ⟨h4, e⟩ := g_gd e
    refine q_iald dX7_turned_19 rfl h4 ?_
    refine r_if_eq (tgt := 40) dX7_turned_20 (by decide) (fun h5 => ?_) (fun h5 => ?_)
    · have e := g_iT h5 e
      refine r_aload_n dX7_turned_40 rfl rfl ?_
      refine q_getr dX7_turned_41 flX7_21 rfl rfl (m_fr_64_5 _) ?_
      refine r_bipush (x := 6) dX7_turned_44 (by decide) ?_
      refine r_iload_n dX7_turned_46 rfl rfl ?_
      refine r_imul dX7_turned_47 ?_
      refine r_iload_n dX7_turned_48 rfl rfl ?_
      refine r_iadd dX7_turned_49 ?_
      refine q_iald dX7_turned_50 rfl h4 ?_
      refine r_if_ne (tgt := 73) dX7_turned_51 (by decide) (fun h6 => ?_) (fun h6 => ?_)
      · have e := g_iF h6 e
        refine r_iload_n dX7_turned_73 rfl rfl ?_
        refine r_iconst (x := 0) dX7_turned_74 (by decide) ?_
        refine r_bipush (x := 99) dX7_turned_75 (by decide) ?_
        refine q_callS (rest := []) (c_X7_in rfl) dX7_turned_77 lkX7_95 rfl rfl (Nat.le_of_ble_eq_true rfl) (by decide) ?_
        refine r_ifeqB (tgt := 97) dX7_turned_80 (by decide) (fun h7 => ?_) (fun h7 => ?_)
        · have e := g_cF h7 e
          refine r_bipush (x := (-2)) dX7_turned_97 (by decide) ?_
          have e := Option.some.inj e
          subst e
          exact r_ret dX7_turned_99 rfl rfl
        · have e := g_cT h7 e
          refine r_aload_n dX7_turned_83 rfl rfl ?_
          refine r_bipush (x := 6) dX7_turned_84 (by decide) ?_
          refine r_iload_n dX7_turned_86 rfl rfl ?_
          refine r_imul dX7_turned_87 ?_
          refine r_iload_n dX7_turned_88 rfl rfl ?_
          refine r_iadd dX7_turned_89 ?_
          refine r_iload_n dX7_turned_90 rfl rfl ?_
          obtain ⟨v8, h9, e⟩ := g_bd e
          refine q_callV (rest := []) (c_X7_turnedName h9) dX7_turned_91 lkX7_150 rfl rfl rfl rfl (Nat.le_of_ble_eq_true rfl) (by decide) ?_
          refine r_goto (tgt := 99) dX7_turned_94 (by decide) ?_
          have e := Option.some.inj e
          subst e
          exact r_ret dX7_turned_99 rfl rfl
      · have e := g_iT h6 e
        refine r_iload_n dX7_turned_54 rfl rfl ?_
        refine q_callS (rest := []) (c_X7_isKey rfl) dX7_turned_55 lkX7_120 rfl rfl (Nat.le_of_ble_eq_true rfl) (by decide) ?_
        refine r_ifeqB (tgt := 70) dX7_turned_58 (by decide) (fun h10 => ?_) (fun h10 => ?_)
        · have e := g_cF h10 e
          refine r_bipush (x := (-2)) dX7_turned_70 (by decide) ?_
          have e := Option.some.inj e
          subst e
          exact r_ret dX7_turned_72 rfl rfl
        · have e := g_cT h10 e
          refine r_aload_n dX7_turned_61 rfl rfl ?_
          refine r_iload_n dX7_turned_62 rfl rfl ?_
          refine r_iload_n dX7_turned_63 rfl rfl ?_
          obtain ⟨v11, h12, e⟩ := g_bd e
          refine q_callV (rest := []) (c_X7_turnedKey h12) dX7_turned_64 lkX7_147 rfl rfl rfl rfl (Nat.le_of_ble_eq_true rfl) (by decide) ?_
          refine r_goto (tgt := 72) dX7_turned_67 (by decide) ?_
          have e := Option.some.inj e
          subst e
          exact r_ret dX7_turned_72 rfl rfl
    · have e := g_iF h5 e
      refine r_aload_n dX7_turned_23 rfl rfl ?_
      refine q_getr dX7_turned_24 flX7_21 rfl rfl (m_fr_64_5 _) ?_
      refine r_bipush (x := 6) dX7_turned_27 (by decide) ?_
      refine r_iload_n dX7_turned_29 rfl rfl ?_
      refine r_imul dX7_turned_30 ?_
      refine r_iload_n dX7_turned_31 rfl rfl ?_
      refine r_iadd dX7_turned_32 ?_
      refine q_iald dX7_turned_33 rfl h4 ?_
      refine r_iconst (x := 4) dX7_turned_34 (by decide) ?_
      refine r_icmp_eq (tgt := 40) dX7_turned_35 (by decide) (fun h13 => ?_) (fun h13 => ?_)
      · have e := g_iT h13 e
        refine r_aload_n dX7_turned_40 rfl rfl ?_
        refine q_getr dX7_turned_41 flX7_21 rfl rfl (m_fr_64_5 _) ?_
        refine r_bipush (x := 6) dX7_turned_44 (by decide) ?_
        refine r_iload_n dX7_turned_46 rfl rfl ?_
        refine r_imul dX7_turned_47 ?_
        refine r_iload_n dX7_turned_48 rfl rfl ?_
        refine r_iadd dX7_turned_49 ?_
        refine q_iald dX7_turned_50 rfl h4 ?_
        refine r_if_ne (tgt := 73) dX7_turned_51 (by decide) (fun h14 => ?_) (fun h14 => ?_)
        · have e := g_iF h14 e
          refine r_iload_n dX7_turned_73 rfl rfl ?_
          refine r_iconst (x := 0) dX7_turned_74 (by decide) ?_
          refine r_bipush (x := 99) dX7_turned_75 (by decide) ?_
          refine q_callS (rest := []) (c_X7_in rfl) dX7_turned_77 lkX7_95 rfl rfl (Nat.le_of_ble_eq_true rfl) (by decide) ?_
          refine r_ifeqB (tgt := 97) dX7_turned_80 (by decide) (fun h15 => ?_) (fun h15 => ?_)
          · have e := g_cF h15 e
            refine r_bipush (x := (-2)) dX7_turned_97 (by decide) ?_
            have e := Option.some.inj e
            subst e
            exact r_ret dX7_turned_99 rfl rfl
          · have e := g_cT h15 e
            refine r_aload_n dX7_turned_83 rfl rfl ?_
            refine r_bipush (x := 6) dX7_turned_84 (by decide) ?_
            refine r_iload_n dX7_turned_86 rfl rfl ?_
            refine r_imul dX7_turned_87 ?_
            refine r_iload_n dX7_turned_88 rfl rfl ?_
            refine r_iadd dX7_turned_89 ?_
            refine r_iload_n dX7_turned_90 rfl rfl ?_
            obtain ⟨v16, h17, e⟩ := g_bd e
            refine q_callV (rest := []) (c_X7_turnedName h17) dX7_turned_91 lkX7_150 rfl rfl rfl rfl (Nat.le_of_ble_eq_true rfl) (by decide) ?_
            refine r_goto (tgt := 99) dX7_turned_94 (by decide) ?_
            have e := Option.some.inj e
            subst e
            exact r_ret dX7_turned_99 rfl rfl
        · have e := g_iT h14 e
          refine r_iload_n dX7_turned_54 rfl rfl ?_
          refine q_callS (rest := []) (c_X7_isKey rfl) dX7_turned_55 lkX7_120 rfl rfl (Nat.le_of_ble_eq_true rfl) (by decide) ?_
          refine r_ifeqB (tgt := 70) dX7_turned_58 (by decide) (fun h18 => ?_) (fun h18 => ?_)
          · have e := g_cF h18 e
            refine r_bipush (x := (-2)) dX7_turned_70 (by decide) ?_
            have e := Option.some.inj e
            subst e
            exact r_ret dX7_turned_72 rfl rfl
          · have e := g_cT h18 e
            refine r_aload_n dX7_turned_61 rfl rfl ?_
            refine r_iload_n dX7_turned_62 rfl rfl ?_
            refine r_iload_n dX7_turned_63 rfl rfl ?_
            obtain ⟨v19, h20, e⟩ := g_bd e
            refine q_callV (rest := []) (c_X7_turnedKey h20) dX7_turned_64 lkX7_147 rfl rfl rfl rfl (Nat.le_of_ble_eq_true rfl) (by decide) ?_
            refine r_goto (tgt := 72) dX7_turned_67 (by decide) ?_
            have e := Option.some.inj e
            subst e
            exact r_ret dX7_turned_72 rfl rfl
      · have e := g_iF h13 e
        refine r_iconst (x := (-1)) dX7_turned_38 (by decide) ?_
        have e := Option.some.inj e
        subst e
        exact r_ret dX7_turned_39 rfl rfl
/-! X7_shift -/
def f_X7_shift (g : (Nat → Nat → Int32)) (a1 : Int32) : Option Int32 :=
  (bif (f_X7_isKey a1) then
((f_X7_shiftOf g a1).bind fun v2 =>
some v2)
else
some (-2147483648))
set_option maxRecDepth 100000 in
set_option maxHeartbeats 4000000 in
theorem c_X7_shift {G : mG} {g : (Nat → Nat → Int32)} {b : Bool} {a1 : Int32} {R : Int32} (e : f_X7_shift g a1 = some R) : MC G mX7_shift 4 0 0 [.ref 64, .int a1] (m_h g b) (some (.int R)) (m_h g b) := by
  refine MC_intro mlX7_shift (Nat.le_of_ble_eq_true rfl) ⟨_, rfl⟩ rfl trivial ?_
  unfold f_X7_shift at e
  refine r_iload_n dX7_shift_0 rfl rfl ?_
  refine q_callS (rest := []) (c_X7_isKey rfl) dX7_shift_1 lkX7_120 rfl rfl (Nat.le_of_ble_eq_true rfl) (by decide) ?_
  refine r_ifeqB (tgt := 15) dX7_shift_4 (by decide) (fun h1 => ?_) (fun h1 => ?_)
  · have e := g_cF h1 e
    refine r_ldc (x := (-2147483648)) dX7_shift_15 kcX7_119 ?_
    have e := Option.some.inj e
    subst e
    exact r_ret dX7_shift_17 rfl rfl
  · have e := g_cT h1 e
    refine r_aload_n dX7_shift_7 rfl rfl ?_
    refine r_iload_n dX7_shift_8 rfl rfl ?_
    obtain ⟨v2, h3, e⟩ := g_bd e
    refine q_callV (rest := []) (c_X7_shiftOf h3) dX7_shift_9 lkX7_153 rfl rfl rfl rfl (Nat.le_of_ble_eq_true rfl) (by decide) ?_
    refine r_goto (tgt := 17) dX7_shift_12 (by decide) ?_
    have e := Option.some.inj e
    subst e
    exact r_ret dX7_shift_17 rfl rfl
/-! X7_count -/
def lp_X7_count_52 (b : Bool) (a1 : Int32) (a2 : Int32) (a3 : Int32) (a4 : Int32) (gx52 : (Nat → Nat → Int32)) : Nat → Int32 → Int32 → Option (Int32 × (Nat → Nat → Int32))
  | 0, _, _ => none
  | n + 1, y52_5, y52_6 =>
  (if m_in a1 4 then
(if (gx52 66 a1.toNatClampNeg) ≤ y52_6 then
some (y52_5, gx52)
else
(if m_in (f_X7_cell a1 y52_6 a2) 288 then
(if (gx52 87 (f_X7_cell a1 y52_6 a2).toNatClampNeg) = a3 then
lp_X7_count_52 b a1 a2 a3 a4 gx52 n (y52_5 + 1) (y52_6 + 1)
else
lp_X7_count_52 b a1 a2 a3 a4 gx52 n (y52_5 + 0) (y52_6 + 1)) else none)) else none)
def f_X7_count (g : (Nat → Nat → Int32)) (b : Bool) (a1 : Int32) (a2 : Int32) (a3 : Int32) (a4 : Int32) : Option (Int32 × (Nat → Nat → Int32)) :=
  ((f_X7_isColumn g a1 a2).bind fun v1 =>
(bif v1 then
(bif (f_X7_in a4 0 1) then
(if a4 = 1 then
(if (g 64 16) = 0 then
some ((-3), g)
else
((f_X7_see g b a4).bind fun v9 =>
lp_X7_count_52 b a1 a2 a3 a4 v9 2000 0 0))
else
((f_X7_see g b a4).bind fun v6 =>
lp_X7_count_52 b a1 a2 a3 a4 v6 2000 0 0))
else
some ((-2), g))
else
some ((-1), g)))
set_option maxRecDepth 100000 in
set_option maxHeartbeats 4000000 in
theorem w_X7_count_52 {G : mG} {b : Bool} {a1 : Int32} {a2 : Int32} {a3 : Int32} {a4 : Int32} {gx52 : (Nat → Nat → Int32)} : ∀ (n : Nat) (y52_5 : Int32) (y52_6 : Int32) (R : (Int32 × (Nat → Nat → Int32))), lp_X7_count_52 b a1 a2 a3 a4 gx52 n y52_5 y52_6 = some R → MW G mX7_count 3 0 0 52 [.ref 64, .int a1, .int a2, .int a3, .int a4, .int y52_5, .int y52_6] [] (m_h gx52 b) (some (.int R.1)) (m_h R.2 b)
  | 0, _, _, R, e => absurd (show (none : Option (Int32 × (Nat → Nat → Int32))) = some R from e) (fun h => by cases h)
  | n + 1, y52_5, y52_6, R, e => by
    rw [lp_X7_count_52] at e
    refine r_iload dX7_count_52 rfl ?_
    refine r_aload_n dX7_count_54 rfl rfl ?_
    refine q_getr dX7_count_55 flX7_15 rfl rfl (m_fr_64_3 _) ?_
    refine r_iload_n dX7_count_58 rfl rfl ?_
    obtain ⟨h52001, e⟩ := g_gd e
    refine q_iald dX7_count_59 rfl h52001 ?_
    refine r_icmp_ge (tgt := 95) dX7_count_60 (by decide) (fun h52002 => ?_) (fun h52002 => ?_)
    · have e := g_iT h52002 e
      refine r_iload dX7_count_95 rfl ?_
      have e := Option.some.inj e
      subst e
      exact r_ret dX7_count_97 rfl rfl
    · have e := g_iF h52002 e
      refine r_iload dX7_count_63 rfl ?_
      refine r_aload_n dX7_count_65 rfl rfl ?_
      refine q_getr dX7_count_66 flX7_79 rfl rfl (m_fr_64_28 _) ?_
      refine r_iload_n dX7_count_69 rfl rfl ?_
      refine r_iload dX7_count_70 rfl ?_
      refine r_iload_n dX7_count_72 rfl rfl ?_
      refine q_callS (rest := [.ref 87, .int y52_5]) (c_X7_cell rfl) dX7_count_73 lkX7_127 rfl rfl (Nat.le_of_ble_eq_true rfl) (by decide) ?_
      obtain ⟨h52003, e⟩ := g_gd e
      refine q_iald dX7_count_76 rfl h52003 ?_
      refine r_iload_n dX7_count_77 rfl rfl ?_
      refine r_icmp_ne (tgt := 85) dX7_count_78 (by decide) (fun h52004 => ?_) (fun h52004 => ?_)
      · have e := g_iF h52004 e
        refine r_iconst (x := 0) dX7_count_85 (by decide) ?_
        refine r_iadd dX7_count_86 ?_
        refine r_istore dX7_count_87 (by decide) rfl ?_
        refine r_iinc (y := 1) dX7_count_89 rfl (by decide) (by decide) rfl ?_
        refine r_goto (tgt := 52) dX7_count_92 (by decide) ?_
        exact w_X7_count_52 n _ _ R e
      · have e := g_iT h52004 e
        refine r_iconst (x := 1) dX7_count_81 (by decide) ?_
        refine r_goto (tgt := 86) dX7_count_82 (by decide) ?_
        refine r_iadd dX7_count_86 ?_
        refine r_istore dX7_count_87 (by decide) rfl ?_
        refine r_iinc (y := 1) dX7_count_89 rfl (by decide) (by decide) rfl ?_
        refine r_goto (tgt := 52) dX7_count_92 (by decide) ?_
        exact w_X7_count_52 n _ _ R e
set_option maxRecDepth 100000 in
set_option maxHeartbeats 4000000 in
theorem c_X7_count {G : mG} {g : (Nat → Nat → Int32)} {b : Bool} {a1 : Int32} {a2 : Int32} {a3 : Int32} {a4 : Int32} {R : (Int32 × (Nat → Nat → Int32))} (e : f_X7_count g b a1 a2 a3 a4 = some R) : MC G mX7_count 3 0 0 [.ref 64, .int a1, .int a2, .int a3, .int a4] (m_h g b) (some (.int R.1)) (m_h R.2 b) := by
  refine MC_intro mlX7_count (Nat.le_of_ble_eq_true rfl) ⟨_, rfl⟩ rfl trivial ?_
  unfold f_X7_count at e
  refine r_aload_n dX7_count_0 rfl rfl ?_
  refine r_iload_n dX7_count_1 rfl rfl ?_
  refine r_iload_n dX7_count_2 rfl rfl ?_
  obtain ⟨v1, h2, e⟩ := g_bd e
  refine q_callV (rest := []) (c_X7_isColumn h2) dX7_count_3 lkX7_131 rfl rfl rfl rfl (Nat.le_of_ble_eq_true rfl) (by decide) ?_
  refine r_ifneB (tgt := 11) dX7_count_6 (by decide) (fun h3 => ?_) (fun h3 => ?_)
  · have e := g_cT h3 e
    refine r_iload dX7_count_11 rfl ?_
    refine r_iconst (x := 0) dX7_count_13 (by decide) ?_
    refine r_iconst (x := 1) dX7_count_14 (by decide) ?_
    refine q_callS (rest := []) (c_X7_in rfl) dX7_count_15 lkX7_95 rfl rfl (Nat.le_of_ble_eq_true rfl) (by decide) ?_
    refine r_ifneB (tgt := 24) dX7_count_18 (by decide) (fun h4 => ?_) (fun h4 => ?_)
    · have e := g_cT h4 e
      refine r_iload dX7_count_24 rfl ?_
      refine r_iconst (x := 1) dX7_count_26 (by decide) ?_
      refine r_icmp_ne (tgt := 40) dX7_count_27 (by decide) (fun h5 => ?_) (fun h5 => ?_)
      · have e := g_iF h5 e
        refine r_aload_n dX7_count_40 rfl rfl ?_
        refine r_iload dX7_count_41 rfl ?_
        obtain ⟨v6, h7, e⟩ := g_bd e
        refine q_callV (rest := []) (c_X7_see h7) dX7_count_43 lkX7_178 rfl rfl rfl rfl (Nat.le_of_ble_eq_true rfl) (by decide) ?_
        refine r_iconst (x := 0) dX7_count_46 (by decide) ?_
        refine r_istore dX7_count_47 (by decide) rfl ?_
        refine r_iconst (x := 0) dX7_count_49 (by decide) ?_
        refine r_istore dX7_count_50 (by decide) rfl ?_
        exact w_X7_count_52 2000 _ _ R e
      · have e := g_iT h5 e
        refine r_aload_n dX7_count_30 rfl rfl ?_
        refine q_geti dX7_count_31 flX7_112 rfl rfl ?_
        refine r_if_ne (tgt := 40) dX7_count_34 (by decide) (fun h8 => ?_) (fun h8 => ?_)
        · have e := g_iF h8 e
          refine r_aload_n dX7_count_40 rfl rfl ?_
          refine r_iload dX7_count_41 rfl ?_
          obtain ⟨v9, h10, e⟩ := g_bd e
          refine q_callV (rest := []) (c_X7_see h10) dX7_count_43 lkX7_178 rfl rfl rfl rfl (Nat.le_of_ble_eq_true rfl) (by decide) ?_
          refine r_iconst (x := 0) dX7_count_46 (by decide) ?_
          refine r_istore dX7_count_47 (by decide) rfl ?_
          refine r_iconst (x := 0) dX7_count_49 (by decide) ?_
          refine r_istore dX7_count_50 (by decide) rfl ?_
          exact w_X7_count_52 2000 _ _ R e
        · have e := g_iT h8 e
          refine r_bipush (x := (-3)) dX7_count_37 (by decide) ?_
          have e := Option.some.inj e
          subst e
          exact r_ret dX7_count_39 rfl rfl
    · have e := g_cF h4 e
      refine r_bipush (x := (-2)) dX7_count_21 (by decide) ?_
      have e := Option.some.inj e
      subst e
      exact r_ret dX7_count_23 rfl rfl
  · have e := g_cF h3 e
    refine r_iconst (x := (-1)) dX7_count_9 (by decide) ?_
    have e := Option.some.inj e
    subst e
    exact r_ret dX7_count_10 rfl rfl
/-! X7_joins -/
def lp_X7_joins_78 (b : Bool) (a1 : Int32) (a2 : Int32) (a3 : Int32) (gx64 : (Nat → Nat → Int32)) (y64_5 : Int32) (k64 : (Int32 → Int32 → Option (Int32 × (Nat → Nat → Int32)))) : Nat → Int32 → Int32 → Option (Int32 × (Nat → Nat → Int32))
  | 0, _, _ => none
  | n + 1, y78_4, y78_6 =>
  (if m_in ((6 * a1) + a2) 24 then
(if m_in (gx64 69 ((6 * a1) + a2).toNatClampNeg) 4 then
(if (gx64 66 (gx64 69 ((6 * a1) + a2).toNatClampNeg).toNatClampNeg) ≤ y78_6 then
k64 y78_4 (y64_5 + 1)
else
(if m_in (f_X7_cell a1 y64_5 a2) 288 then
(if m_in (f_X7_cell (gx64 69 ((6 * a1) + a2).toNatClampNeg) y78_6 0) 288 then
(if (gx64 87 (f_X7_cell a1 y64_5 a2).toNatClampNeg) = (gx64 87 (f_X7_cell (gx64 69 ((6 * a1) + a2).toNatClampNeg) y78_6 0).toNatClampNeg) then
lp_X7_joins_78 b a1 a2 a3 gx64 y64_5 k64 n (y78_4 + 1) (y78_6 + 1)
else
lp_X7_joins_78 b a1 a2 a3 gx64 y64_5 k64 n (y78_4 + 0) (y78_6 + 1)) else none) else none)) else none) else none)
def lp_X7_joins_64 (b : Bool) (a1 : Int32) (a2 : Int32) (a3 : Int32) (gx64 : (Nat → Nat → Int32)) : Nat → Int32 → Int32 → Option (Int32 × (Nat → Nat → Int32))
  | 0, _, _ => none
  | n + 1, y64_4, y64_5 =>
  (if m_in a1 4 then
(if (gx64 66 a1.toNatClampNeg) ≤ y64_5 then
some (y64_4, gx64)
else
lp_X7_joins_78 b a1 a2 a3 gx64 y64_5 (fun y64_4 y64_5 => lp_X7_joins_64 b a1 a2 a3 gx64 n y64_4 y64_5) 2000 y64_4 0) else none)
def f_X7_joins (g : (Nat → Nat → Int32)) (b : Bool) (a1 : Int32) (a2 : Int32) (a3 : Int32) : Option (Int32 × (Nat → Nat → Int32)) :=
  ((f_X7_isColumn g a1 a2).bind fun v1 =>
(bif v1 then
(if m_in ((6 * a1) + a2) 24 then
(if (g 68 ((6 * a1) + a2).toNatClampNeg) = 1 then
(bif (f_X7_in a3 0 1) then
(if a3 = 1 then
(if (g 64 16) = 0 then
some ((-3), g)
else
((f_X7_see g b a3).bind fun v11 =>
lp_X7_joins_64 b a1 a2 a3 v11 2000 0 0))
else
((f_X7_see g b a3).bind fun v8 =>
lp_X7_joins_64 b a1 a2 a3 v8 2000 0 0))
else
some ((-2), g))
else
some ((-2), g)) else none)
else
some ((-1), g)))
set_option maxRecDepth 100000 in
set_option maxHeartbeats 4000000 in
theorem w_X7_joins_78 {G : mG} {b : Bool} {a1 : Int32} {a2 : Int32} {a3 : Int32} {gx64 : (Nat → Nat → Int32)} {y64_5 : Int32} {k64 : (Int32 → Int32 → Option (Int32 × (Nat → Nat → Int32)))} (hk64 : ∀ (y64_4 : Int32) (y64_5 : Int32) (R : (Int32 × (Nat → Nat → Int32))), k64 y64_4 y64_5 = some R → MW G mX7_joins 3 0 0 64 [.ref 64, .int a1, .int a2, .int a3, .int y64_4, .int y64_5, .retAddr 0] [] (m_h gx64 b) (some (.int R.1)) (m_h R.2 b)) : ∀ (n : Nat) (y78_4 : Int32) (y78_6 : Int32) (R : (Int32 × (Nat → Nat → Int32))), lp_X7_joins_78 b a1 a2 a3 gx64 y64_5 k64 n y78_4 y78_6 = some R → MW G mX7_joins 3 0 0 78 [.ref 64, .int a1, .int a2, .int a3, .int y78_4, .int y64_5, .int y78_6] [] (m_h gx64 b) (some (.int R.1)) (m_h R.2 b)
  | 0, _, _, R, e => absurd (show (none : Option (Int32 × (Nat → Nat → Int32))) = some R from e) (fun h => by cases h)
  | n + 1, y78_4, y78_6, R, e => by
    rw [lp_X7_joins_78] at e
    refine r_iload dX7_joins_78 rfl ?_
    refine r_aload_n dX7_joins_80 rfl rfl ?_
    refine q_getr dX7_joins_81 flX7_15 rfl rfl (m_fr_64_3 _) ?_
    refine r_aload_n dX7_joins_84 rfl rfl ?_
    refine q_getr dX7_joins_85 flX7_24 rfl rfl (m_fr_64_6 _) ?_
    refine r_bipush (x := 6) dX7_joins_88 (by decide) ?_
    refine r_iload_n dX7_joins_90 rfl rfl ?_
    refine r_imul dX7_joins_91 ?_
    refine r_iload_n dX7_joins_92 rfl rfl ?_
    refine r_iadd dX7_joins_93 ?_
    obtain ⟨h78001, e⟩ := g_gd e
    refine q_iald dX7_joins_94 rfl h78001 ?_
    obtain ⟨h78002, e⟩ := g_gd e
    refine q_iald dX7_joins_95 rfl h78002 ?_
    refine r_icmp_ge (tgt := 152) dX7_joins_96 (by decide) (fun h78003 => ?_) (fun h78003 => ?_)
    · have e := g_iT h78003 e
      refine r_iinc (y := 1) dX7_joins_152 rfl (by decide) (by decide) rfl ?_
      refine r_goto (tgt := 64) dX7_joins_155 (by decide) ?_
      refine r_forget 6 rfl ?_
      exact hk64 _ _ R e
    · have e := g_iF h78003 e
      refine r_iload dX7_joins_99 rfl ?_
      refine r_aload_n dX7_joins_101 rfl rfl ?_
      refine q_getr dX7_joins_102 flX7_79 rfl rfl (m_fr_64_28 _) ?_
      refine r_iload_n dX7_joins_105 rfl rfl ?_
      refine r_iload dX7_joins_106 rfl ?_
      refine r_iload_n dX7_joins_108 rfl rfl ?_
      refine q_callS (rest := [.ref 87, .int y78_4]) (c_X7_cell rfl) dX7_joins_109 lkX7_127 rfl rfl (Nat.le_of_ble_eq_true rfl) (by decide) ?_
      obtain ⟨h78004, e⟩ := g_gd e
      refine q_iald dX7_joins_112 rfl h78004 ?_
      refine r_aload_n dX7_joins_113 rfl rfl ?_
      refine q_getr dX7_joins_114 flX7_79 rfl rfl (m_fr_64_28 _) ?_
      refine r_aload_n dX7_joins_117 rfl rfl ?_
      refine q_getr dX7_joins_118 flX7_24 rfl rfl (m_fr_64_6 _) ?_
      refine r_bipush (x := 6) dX7_joins_121 (by decide) ?_
      refine r_iload_n dX7_joins_123 rfl rfl ?_
      refine r_imul dX7_joins_124 ?_
      refine r_iload_n dX7_joins_125 rfl rfl ?_
      refine r_iadd dX7_joins_126 ?_
      refine q_iald dX7_joins_127 rfl h78001 ?_
      refine r_iload dX7_joins_128 rfl ?_
      refine r_iconst (x := 0) dX7_joins_130 (by decide) ?_
      refine q_callS (rest := [.ref 87, .int (gx64 87 (f_X7_cell a1 y64_5 a2).toNatClampNeg), .int y78_4]) (c_X7_cell rfl) dX7_joins_131 lkX7_127 rfl rfl (Nat.le_of_ble_eq_true rfl) (by decide) ?_
      obtain ⟨h78005, e⟩ := g_gd e
      refine q_iald dX7_joins_134 rfl h78005 ?_
      refine r_icmp_ne (tgt := 142) dX7_joins_135 (by decide) (fun h78006 => ?_) (fun h78006 => ?_)
      · have e := g_iF h78006 e
        refine r_iconst (x := 0) dX7_joins_142 (by decide) ?_
        refine r_iadd dX7_joins_143 ?_
        refine r_istore dX7_joins_144 (by decide) rfl ?_
        refine r_iinc (y := 1) dX7_joins_146 rfl (by decide) (by decide) rfl ?_
        refine r_goto (tgt := 78) dX7_joins_149 (by decide) ?_
        exact w_X7_joins_78 hk64 n _ _ R e
      · have e := g_iT h78006 e
        refine r_iconst (x := 1) dX7_joins_138 (by decide) ?_
        refine r_goto (tgt := 143) dX7_joins_139 (by decide) ?_
        refine r_iadd dX7_joins_143 ?_
        refine r_istore dX7_joins_144 (by decide) rfl ?_
        refine r_iinc (y := 1) dX7_joins_146 rfl (by decide) (by decide) rfl ?_
        refine r_goto (tgt := 78) dX7_joins_149 (by decide) ?_
        exact w_X7_joins_78 hk64 n _ _ R e
set_option maxRecDepth 100000 in
set_option maxHeartbeats 4000000 in
theorem w_X7_joins_64 {G : mG} {b : Bool} {a1 : Int32} {a2 : Int32} {a3 : Int32} {gx64 : (Nat → Nat → Int32)} : ∀ (n : Nat) (y64_4 : Int32) (y64_5 : Int32) (R : (Int32 × (Nat → Nat → Int32))), lp_X7_joins_64 b a1 a2 a3 gx64 n y64_4 y64_5 = some R → MW G mX7_joins 3 0 0 64 [.ref 64, .int a1, .int a2, .int a3, .int y64_4, .int y64_5, .retAddr 0] [] (m_h gx64 b) (some (.int R.1)) (m_h R.2 b)
  | 0, _, _, R, e => absurd (show (none : Option (Int32 × (Nat → Nat → Int32))) = some R from e) (fun h => by cases h)
  | n + 1, y64_4, y64_5, R, e => by
    rw [lp_X7_joins_64] at e
    refine r_iload dX7_joins_64 rfl ?_
    refine r_aload_n dX7_joins_66 rfl rfl ?_
    refine q_getr dX7_joins_67 flX7_15 rfl rfl (m_fr_64_3 _) ?_
    refine r_iload_n dX7_joins_70 rfl rfl ?_
    obtain ⟨h64001, e⟩ := g_gd e
    refine q_iald dX7_joins_71 rfl h64001 ?_
    refine r_icmp_ge (tgt := 158) dX7_joins_72 (by decide) (fun h64002 => ?_) (fun h64002 => ?_)
    · have e := g_iT h64002 e
      refine r_iload dX7_joins_158 rfl ?_
      have e := Option.some.inj e
      subst e
      exact r_ret dX7_joins_160 rfl rfl
    · have e := g_iF h64002 e
      refine r_iconst (x := 0) dX7_joins_75 (by decide) ?_
      refine r_istore dX7_joins_76 (by decide) rfl ?_
      exact w_X7_joins_78 (fun y64_4 y64_5 R e => w_X7_joins_64 n y64_4 y64_5 R e) 2000 _ _ R e
set_option maxRecDepth 100000 in
set_option maxHeartbeats 4000000 in
theorem c_X7_joins {G : mG} {g : (Nat → Nat → Int32)} {b : Bool} {a1 : Int32} {a2 : Int32} {a3 : Int32} {R : (Int32 × (Nat → Nat → Int32))} (e : f_X7_joins g b a1 a2 a3 = some R) : MC G mX7_joins 3 0 0 [.ref 64, .int a1, .int a2, .int a3] (m_h g b) (some (.int R.1)) (m_h R.2 b) := by
  refine MC_intro mlX7_joins (Nat.le_of_ble_eq_true rfl) ⟨_, rfl⟩ rfl trivial ?_
  unfold f_X7_joins at e
  refine r_aload_n dX7_joins_0 rfl rfl ?_
  refine r_iload_n dX7_joins_1 rfl rfl ?_
  refine r_iload_n dX7_joins_2 rfl rfl ?_
  obtain ⟨v1, h2, e⟩ := g_bd e
  refine q_callV (rest := []) (c_X7_isColumn h2) dX7_joins_3 lkX7_131 rfl rfl rfl rfl (Nat.le_of_ble_eq_true rfl) (by decide) ?_
  refine r_ifneB (tgt := 11) dX7_joins_6 (by decide) (fun h3 => ?_) (fun h3 => ?_)
  · have e := g_cT h3 e
    refine r_aload_n dX7_joins_11 rfl rfl ?_
    refine q_getr dX7_joins_12 flX7_21 rfl rfl (m_fr_64_5 _) ?_
    refine r_bipush (x := 6) dX7_joins_15 (by decide) ?_
    refine r_iload_n dX7_joins_17 rfl rfl ?_
    refine r_imul dX7_joins_18 ?_
    refine r_iload_n dX7_joins_19 rfl rfl ?_
    refine r_iadd dX7_joins_20 ?_
    obtain ⟨h4, e⟩ := g_gd e
    refine q_iald dX7_joins_21 rfl h4 ?_
    refine r_iconst (x := 1) dX7_joins_22 (by decide) ?_
    refine r_icmp_ne (tgt := 35) dX7_joins_23 (by decide) (fun h5 => ?_) (fun h5 => ?_)
    · have e := g_iF h5 e
      refine r_bipush (x := (-2)) dX7_joins_35 (by decide) ?_
      have e := Option.some.inj e
      subst e
      exact r_ret dX7_joins_37 rfl rfl
    · have e := g_iT h5 e
      refine r_iload_n dX7_joins_26 rfl rfl ?_
      refine r_iconst (x := 0) dX7_joins_27 (by decide) ?_
      refine r_iconst (x := 1) dX7_joins_28 (by decide) ?_
      refine q_callS (rest := []) (c_X7_in rfl) dX7_joins_29 lkX7_95 rfl rfl (Nat.le_of_ble_eq_true rfl) (by decide) ?_
      refine r_ifneB (tgt := 38) dX7_joins_32 (by decide) (fun h6 => ?_) (fun h6 => ?_)
      · have e := g_cT h6 e
        refine r_iload_n dX7_joins_38 rfl rfl ?_
        refine r_iconst (x := 1) dX7_joins_39 (by decide) ?_
        refine r_icmp_ne (tgt := 53) dX7_joins_40 (by decide) (fun h7 => ?_) (fun h7 => ?_)
        · have e := g_iF h7 e
          refine r_aload_n dX7_joins_53 rfl rfl ?_
          refine r_iload_n dX7_joins_54 rfl rfl ?_
          obtain ⟨v8, h9, e⟩ := g_bd e
          refine q_callV (rest := []) (c_X7_see h9) dX7_joins_55 lkX7_178 rfl rfl rfl rfl (Nat.le_of_ble_eq_true rfl) (by decide) ?_
          refine r_iconst (x := 0) dX7_joins_58 (by decide) ?_
          refine r_istore dX7_joins_59 (by decide) rfl ?_
          refine r_iconst (x := 0) dX7_joins_61 (by decide) ?_
          refine r_istore dX7_joins_62 (by decide) rfl ?_
          exact w_X7_joins_64 2000 _ _ R e
        · have e := g_iT h7 e
          refine r_aload_n dX7_joins_43 rfl rfl ?_
          refine q_geti dX7_joins_44 flX7_112 rfl rfl ?_
          refine r_if_ne (tgt := 53) dX7_joins_47 (by decide) (fun h10 => ?_) (fun h10 => ?_)
          · have e := g_iF h10 e
            refine r_aload_n dX7_joins_53 rfl rfl ?_
            refine r_iload_n dX7_joins_54 rfl rfl ?_
            obtain ⟨v11, h12, e⟩ := g_bd e
            refine q_callV (rest := []) (c_X7_see h12) dX7_joins_55 lkX7_178 rfl rfl rfl rfl (Nat.le_of_ble_eq_true rfl) (by decide) ?_
            refine r_iconst (x := 0) dX7_joins_58 (by decide) ?_
            refine r_istore dX7_joins_59 (by decide) rfl ?_
            refine r_iconst (x := 0) dX7_joins_61 (by decide) ?_
            refine r_istore dX7_joins_62 (by decide) rfl ?_
            exact w_X7_joins_64 2000 _ _ R e
          · have e := g_iT h10 e
            refine r_bipush (x := (-3)) dX7_joins_50 (by decide) ?_
            have e := Option.some.inj e
            subst e
            exact r_ret dX7_joins_52 rfl rfl
      · have e := g_cF h6 e
        refine r_bipush (x := (-2)) dX7_joins_35 (by decide) ?_
        have e := Option.some.inj e
        subst e
        exact r_ret dX7_joins_37 rfl rfl
  · have e := g_cF h3 e
    refine r_iconst (x := (-1)) dX7_joins_9 (by decide) ?_
    have e := Option.some.inj e
    subst e
    exact r_ret dX7_joins_10 rfl rfl
