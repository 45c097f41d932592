/-! X7_about -/
def f_X7_about (g : (Nat → Nat → Int32)) (a1 : Int32) (a2 : Int32) (a3 : Int32) : Option Int32 :=
  ((f_X7_isColumn g a1 a2).bind fun v1 =>
(bif v1 then
(if 10 ≤ a3 then
(if a3 = 0 then
(if m_in a1 4 then
some (g 65 a1.toNatClampNeg) else none)
else
(if a3 = 1 then
(if m_in a1 4 then
some (g 66 a1.toNatClampNeg) else none)
else
(if a3 = 2 then
(if m_in a1 4 then
some (g 67 a1.toNatClampNeg) else none)
else
(if a3 = 3 then
some (-1)
else
(if a3 = 4 then
some (-1)
else
(if a3 = 5 then
some (-1)
else
(if a3 = 6 then
some (-1)
else
(if a3 = 7 then
some (-1)
else
(if a3 = 8 then
some (-1)
else
(if a3 = 9 then
some (-1)
else
(if a3 = 10 then
(if m_in ((6 * a1) + a2) 24 then
some (g 68 ((6 * a1) + a2).toNatClampNeg) else none)
else
(if a3 = 11 then
(if m_in ((6 * a1) + a2) 24 then
(if (g 68 ((6 * a1) + a2).toNatClampNeg) = 1 then
some (g 69 ((6 * a1) + a2).toNatClampNeg)
else
some (-1)) else none)
else
(if a3 = 12 then
(if m_in ((6 * a1) + a2) 24 then
some (g 70 ((6 * a1) + a2).toNatClampNeg) else none)
else
(if a3 = 13 then
(if m_in ((6 * a1) + a2) 24 then
some (g 71 ((6 * a1) + a2).toNatClampNeg) else none)
else
some (-1)))))))))))))))
else
(if a2 = 0 then
(if a3 = 0 then
(if m_in a1 4 then
some (g 65 a1.toNatClampNeg) else none)
else
(if a3 = 1 then
(if m_in a1 4 then
some (g 66 a1.toNatClampNeg) else none)
else
(if a3 = 2 then
(if m_in a1 4 then
some (g 67 a1.toNatClampNeg) else none)
else
(if a3 = 3 then
some (-1)
else
(if a3 = 4 then
some (-1)
else
(if a3 = 5 then
some (-1)
else
(if a3 = 6 then
some (-1)
else
(if a3 = 7 then
some (-1)
else
(if a3 = 8 then
some (-1)
else
(if a3 = 9 then
some (-1)
else
(if a3 = 10 then
(if m_in ((6 * a1) + a2) 24 then
some (g 68 ((6 * a1) + a2).toNatClampNeg) else none)
else
(if a3 = 11 then
(if m_in ((6 * a1) + a2) 24 then
(if (g 68 ((6 * a1) + a2).toNatClampNeg) = 1 then
some (g 69 ((6 * a1) + a2).toNatClampNeg)
else
some (-1)) else none)
else
(if a3 = 12 then
(if m_in ((6 * a1) + a2) 24 then
some (g 70 ((6 * a1) + a2).toNatClampNeg) else none)
else
(if a3 = 13 then
(if m_in ((6 * a1) + a2) 24 then
some (g 71 ((6 * a1) + a2).toNatClampNeg) else none)
else
some (-1)))))))))))))))
else
some (-1)))
else
some (-1)))
set_option maxRecDepth 100000 in
set_option maxHeartbeats 4000000 in
theorem c_X7_about {G : mG} {g : (Nat → Nat → Int32)} {b : Bool} {a1 : Int32} {a2 : Int32} {a3 : Int32} {R : Int32} (e : f_X7_about g a1 a2 a3 = some R) : MC G mX7_about 3 0 0 [.ref 64, .int a1, .int a2, .int a3] (m_h g b) (some (.int R)) (m_h g b) := by
  refine MC_intro mlX7_about (Nat.le_of_ble_eq_true rfl) ⟨_, rfl⟩ rfl trivial ?_
  unfold f_X7_about at e
  refine r_aload_n dX7_about_0 rfl rfl ?_
  refine r_iload_n dX7_about_1 rfl rfl ?_
  refine r_iload_n dX7_about_2 rfl rfl ?_
  obtain ⟨v1, h2, e⟩ := g_bd e
  refine q_callV (rest := []) (c_X7_isColumn h2) dX7_about_3 lkX7_131 rfl rfl rfl rfl (Nat.le_of_ble_eq_true rfl) (by decide) ?_
  refine r_ifeqB (tgt := 19) dX7_about_6 (by decide) (fun h3 => ?_) (fun h3 => ?_)
  · have e := g_cF h3 e
    refine r_iconst (x := (-1)) dX7_about_19 (by decide) ?_
    have e := Option.some.inj e
    subst e
    exact r_ret dX7_about_20 rfl rfl
  · have e := g_cT h3 e
    refine r_iload_n dX7_about_9 rfl rfl ?_
    refine r_bipush (x := 10) dX7_about_10 (by decide) ?_
    refine r_icmp_ge (tgt := 21) dX7_about_12 (by decide) (fun h4 => ?_) (fun h4 => ?_)
    · have e := g_iT h4 e
      refine r_bipush (x := 6) dX7_about_21 (by decide) ?_
      refine r_iload_n dX7_about_23 rfl rfl ?_
      refine q_imul dX7_about_24 ?_
      refine r_iload_n dX7_about_25 rfl rfl ?_
      refine q_iadd dX7_about_26 ?_
      refine r_istore dX7_about_27 (by decide) rfl ?_
      refine r_iload_n dX7_about_29 rfl rfl ?_
      by_cases h5 : a3 = 0
      · have e := g_iT h5 e
        refine r_tabIn (tgt := 100) dX7_about_30 (by rw [h5]; decide) (by rw [h5]; decide) (by rw [h5]; decide) (by decide) ?_
        refine r_aload_n dX7_about_100 rfl rfl ?_
        refine q_getr dX7_about_101 flX7_9 rfl rfl (m_fr_64_2 _) ?_
        refine r_iload_n dX7_about_104 rfl rfl ?_
        obtain ⟨h6, e⟩ := g_gd e
        refine q_iald dX7_about_105 rfl h6 ?_
        have e := Option.some.inj e
        subst e
        exact r_ret dX7_about_106 rfl rfl
      have e := g_iF h5 e
      by_cases h7 : a3 = 1
      · have e := g_iT h7 e
        refine r_tabIn (tgt := 107) dX7_about_30 (by rw [h7]; decide) (by rw [h7]; decide) (by rw [h7]; decide) (by decide) ?_
        refine r_aload_n dX7_about_107 rfl rfl ?_
        refine q_getr dX7_about_108 flX7_15 rfl rfl (m_fr_64_3 _) ?_
        refine r_iload_n dX7_about_111 rfl rfl ?_
        obtain ⟨h8, e⟩ := g_gd e
        refine q_iald dX7_about_112 rfl h8 ?_
        have e := Option.some.inj e
        subst e
        exact r_ret dX7_about_113 rfl rfl
      have e := g_iF h7 e
      by_cases h9 : a3 = 2
      · have e := g_iT h9 e
        refine r_tabIn (tgt := 114) dX7_about_30 (by rw [h9]; decide) (by rw [h9]; decide) (by rw [h9]; decide) (by decide) ?_
        refine r_aload_n dX7_about_114 rfl rfl ?_
        refine q_getr dX7_about_115 flX7_18 rfl rfl (m_fr_64_4 _) ?_
        refine r_iload_n dX7_about_118 rfl rfl ?_
        obtain ⟨h10, e⟩ := g_gd e
        refine q_iald dX7_about_119 rfl h10 ?_
        have e := Option.some.inj e
        subst e
        exact r_ret dX7_about_120 rfl rfl
      have e := g_iF h9 e
      by_cases h11 : a3 = 3
      · have e := g_iT h11 e
        refine r_tabIn (tgt := 168) dX7_about_30 (by rw [h11]; decide) (by rw [h11]; decide) (by rw [h11]; decide) (by decide) ?_
        refine r_iconst (x := (-1)) dX7_about_168 (by decide) ?_
        have e := Option.some.inj e
        subst e
        exact r_ret dX7_about_169 rfl rfl
      have e := g_iF h11 e
      by_cases h12 : a3 = 4
      · have e := g_iT h12 e
        refine r_tabIn (tgt := 168) dX7_about_30 (by rw [h12]; decide) (by rw [h12]; decide) (by rw [h12]; decide) (by decide) ?_
        refine r_iconst (x := (-1)) dX7_about_168 (by decide) ?_
        have e := Option.some.inj e
        subst e
        exact r_ret dX7_about_169 rfl rfl
      have e := g_iF h12 e
      by_cases h13 : a3 = 5
      · have e := g_iT h13 e
        refine r_tabIn (tgt := 168) dX7_about_30 (by rw [h13]; decide) (by rw [h13]; decide) (by rw [h13]; decide) (by decide) ?_
        refine r_iconst (x := (-1)) dX7_about_168 (by decide) ?_
        have e := Option.some.inj e
        subst e
        exact r_ret dX7_about_169 rfl rfl
      have e := g_iF h13 e
      by_cases h14 : a3 = 6
      · have e := g_iT h14 e
        refine r_tabIn (tgt := 168) dX7_about_30 (by rw [h14]; decide) (by rw [h14]; decide) (by rw [h14]; decide) (by decide) ?_
        refine r_iconst (x := (-1)) dX7_about_168 (by decide) ?_
        have e := Option.some.inj e
        subst e
        exact r_ret dX7_about_169 rfl rfl
      have e := g_iF h14 e
      by_cases h15 : a3 = 7
      · have e := g_iT h15 e
        refine r_tabIn (tgt := 168) dX7_about_30 (by rw [h15]; decide) (by rw [h15]; decide) (by rw [h15]; decide) (by decide) ?_
        refine r_iconst (x := (-1)) dX7_about_168 (by decide) ?_
        have e := Option.some.inj e
        subst e
        exact r_ret dX7_about_169 rfl rfl
      have e := g_iF h15 e
      by_cases h16 : a3 = 8
      · have e := g_iT h16 e
        refine r_tabIn (tgt := 168) dX7_about_30 (by rw [h16]; decide) (by rw [h16]; decide) (by rw [h16]; decide) (by decide) ?_
        refine r_iconst (x := (-1)) dX7_about_168 (by decide) ?_
        have e := Option.some.inj e
        subst e
        exact r_ret dX7_about_169 rfl rfl
      have e := g_iF h16 e
      by_cases h17 : a3 = 9
      · have e := g_iT h17 e
        refine r_tabIn (tgt := 168) dX7_about_30 (by rw [h17]; decide) (by rw [h17]; decide) (by rw [h17]; decide) (by decide) ?_
        refine r_iconst (x := (-1)) dX7_about_168 (by decide) ?_
        have e := Option.some.inj e
        subst e
        exact r_ret dX7_about_169 rfl rfl
      have e := g_iF h17 e
      by_cases h18 : a3 = 10
      · have e := g_iT h18 e
        refine r_tabIn (tgt := 121) dX7_about_30 (by rw [h18]; decide) (by rw [h18]; decide) (by rw [h18]; decide) (by decide) ?_
        refine r_aload_n dX7_about_121 rfl rfl ?_
        refine q_getr dX7_about_122 flX7_21 rfl rfl (m_fr_64_5 _) ?_
        refine r_iload dX7_about_125 rfl ?_
        obtain ⟨h19, e⟩ := g_gd e
        refine q_iald dX7_about_127 rfl h19 ?_
        have e := Option.some.inj e
        subst e
        exact r_ret dX7_about_128 rfl rfl
      have e := g_iF h18 e
      by_cases h20 : a3 = 11
      · have e := g_iT h20 e
        refine r_tabIn (tgt := 129) dX7_about_30 (by rw [h20]; decide) (by rw [h20]; decide) (by rw [h20]; decide) (by decide) ?_
        refine r_aload_n dX7_about_129 rfl rfl ?_
        refine q_getr dX7_about_130 flX7_21 rfl rfl (m_fr_64_5 _) ?_
        refine r_iload dX7_about_133 rfl ?_
        obtain ⟨h21, e⟩ := g_gd e
        refine q_iald dX7_about_135 rfl h21 ?_
        refine r_iconst (x := 1) dX7_about_136 (by decide) ?_
        refine r_icmp_ne (tgt := 150) dX7_about_137 (by decide) (fun h22 => ?_) (fun h22 => ?_)
        · have e := g_iF h22 e
          refine r_iconst (x := (-1)) dX7_about_150 (by decide) ?_
          have e := Option.some.inj e
          subst e
          exact r_ret dX7_about_151 rfl rfl
        · have e := g_iT h22 e
          refine r_aload_n dX7_about_140 rfl rfl ?_
          refine q_getr dX7_about_141 flX7_24 rfl rfl (m_fr_64_6 _) ?_
          refine r_iload dX7_about_144 rfl ?_
          refine q_iald dX7_about_146 rfl h21 ?_
          refine r_goto (tgt := 151) dX7_about_147 (by decide) ?_
          have e := Option.some.inj e
          subst e
          exact r_ret dX7_about_151 rfl rfl
      have e := g_iF h20 e
      by_cases h23 : a3 = 12
      · have e := g_iT h23 e
        refine r_tabIn (tgt := 152) dX7_about_30 (by rw [h23]; decide) (by rw [h23]; decide) (by rw [h23]; decide) (by decide) ?_
        refine r_aload_n dX7_about_152 rfl rfl ?_
        refine q_getr dX7_about_153 flX7_27 rfl rfl (m_fr_64_7 _) ?_
        refine r_iload dX7_about_156 rfl ?_
        obtain ⟨h24, e⟩ := g_gd e
        refine q_iald dX7_about_158 rfl h24 ?_
        have e := Option.some.inj e
        subst e
        exact r_ret dX7_about_159 rfl rfl
      have e := g_iF h23 e
      by_cases h25 : a3 = 13
      · have e := g_iT h25 e
        refine r_tabIn (tgt := 160) dX7_about_30 (by rw [h25]; decide) (by rw [h25]; decide) (by rw [h25]; decide) (by decide) ?_
        refine r_aload_n dX7_about_160 rfl rfl ?_
        refine q_getr dX7_about_161 flX7_30 rfl rfl (m_fr_64_8 _) ?_
        refine r_iload dX7_about_164 rfl ?_
        obtain ⟨h26, e⟩ := g_gd e
        refine q_iald dX7_about_166 rfl h26 ?_
        have e := Option.some.inj e
        subst e
        exact r_ret dX7_about_167 rfl rfl
      have e := g_iF h25 e
      refine r_tabOut (tgt := 168) dX7_about_30 (m_swOut14 h5 h7 h9 h11 h12 h13 h14 h15 h16 h17 h18 h20 h23 h25) (by decide) ?_
      refine r_iconst (x := (-1)) dX7_about_168 (by decide) ?_
      have e := Option.some.inj e
      subst e
      exact r_ret dX7_about_169 rfl rfl
    · have e := g_iF h4 e
      refine r_iload_n dX7_about_15 rfl rfl ?_
      refine r_if_eq (tgt := 21) dX7_about_16 (by decide) (fun h27 => ?_) (fun h27 => ?_)
      · have e := g_iT h27 e
        refine r_bipush (x := 6) dX7_about_21 (by decide) ?_
        refine r_iload_n dX7_about_23 rfl rfl ?_
        refine q_imul dX7_about_24 ?_
        refine r_iload_n dX7_about_25 rfl rfl ?_
        refine q_iadd dX7_about_26 ?_
        refine r_istore dX7_about_27 (by decide) rfl ?_
        refine r_iload_n dX7_about_29 rfl rfl ?_
        by_cases h28 : a3 = 0
        · have e := g_iT h28 e
          refine r_tabIn (tgt := 100) dX7_about_30 (by rw [h28]; decide) (by rw [h28]; decide) (by rw [h28]; decide) (by decide) ?_
          refine r_aload_n dX7_about_100 rfl rfl ?_
          refine q_getr dX7_about_101 flX7_9 rfl rfl (m_fr_64_2 _) ?_
          refine r_iload_n dX7_about_104 rfl rfl ?_
          obtain ⟨h29, e⟩ := g_gd e
          refine q_iald dX7_about_105 rfl h29 ?_
          have e := Option.some.inj e
          subst e
          exact r_ret dX7_about_106 rfl rfl
        have e := g_iF h28 e
        by_cases h30 : a3 = 1
        · have e := g_iT h30 e
          refine r_tabIn (tgt := 107) dX7_about_30 (by rw [h30]; decide) (by rw [h30]; decide) (by rw [h30]; decide) (by decide) ?_
          refine r_aload_n dX7_about_107 rfl rfl ?_
          refine q_getr dX7_about_108 flX7_15 rfl rfl (m_fr_64_3 _) ?_
          refine r_iload_n dX7_about_111 rfl rfl ?_
          obtain ⟨h31, e⟩ := g_gd e
          refine q_iald dX7_about_112 rfl h31 ?_
          have e := Option.some.inj e
          subst e
          exact r_ret dX7_about_113 rfl rfl
        have e := g_iF h30 e
        by_cases h32 : a3 = 2
        · have e := g_iT h32 e
          refine r_tabIn (tgt := 114) dX7_about_30 (by rw [h32]; decide) (by rw [h32]; decide) (by rw [h32]; decide) (by decide) ?_
          refine r_aload_n dX7_about_114 rfl rfl ?_
          refine q_getr dX7_about_115 flX7_18 rfl rfl (m_fr_64_4 _) ?_
          refine r_iload_n dX7_about_118 rfl rfl ?_
          obtain ⟨h33, e⟩ := g_gd e
          refine q_iald dX7_about_119 rfl h33 ?_
          have e := Option.some.inj e
          subst e
          exact r_ret dX7_about_120 rfl rfl
        have e := g_iF h32 e
        by_cases h34 : a3 = 3
        · have e := g_iT h34 e
          refine r_tabIn (tgt := 168) dX7_about_30 (by rw [h34]; decide) (by rw [h34]; decide) (by rw [h34]; decide) (by decide) ?_
          refine r_iconst (x := (-1)) dX7_about_168 (by decide) ?_
          have e := Option.some.inj e
          subst e
          exact r_ret dX7_about_169 rfl rfl
        have e := g_iF h34 e
        by_cases h35 : a3 = 4
        · have e := g_iT h35 e
          refine r_tabIn (tgt := 168) dX7_about_30 (by rw [h35]; decide) (by rw [h35]; decide) (by rw [h35]; decide) (by decide) ?_
          refine r_iconst (x := (-1)) dX7_about_168 (by decide) ?_
          have e := Option.some.inj e
          subst e
          exact r_ret dX7_about_169 rfl rfl
        have e := g_iF h35 e
        by_cases h36 : a3 = 5
        · have e := g_iT h36 e
          refine r_tabIn (tgt := 168) dX7_about_30 (by rw [h36]; decide) (by rw [h36]; decide) (by rw [h36]; decide) (by decide) ?_
          refine r_iconst (x := (-1)) dX7_about_168 (by decide) ?_
          have e := Option.some.inj e
          subst e
          exact r_ret dX7_about_169 rfl rfl
        have e := g_iF h36 e
        by_cases h37 : a3 = 6
        · have e := g_iT h37 e
          refine r_tabIn (tgt := 168) dX7_about_30 (by rw [h37]; decide) (by rw [h37]; decide) (by rw [h37]; decide) (by decide) ?_
          refine r_iconst (x := (-1)) dX7_about_168 (by decide) ?_
          have e := Option.some.inj e
          subst e
          exact r_ret dX7_about_169 rfl rfl
        have e := g_iF h37 e
        by_cases h38 : a3 = 7
        · have e := g_iT h38 e
          refine r_tabIn (tgt := 168) dX7_about_30 (by rw [h38]; decide) (by rw [h38]; decide) (by rw [h38]; decide) (by decide) ?_
          refine r_iconst (x := (-1)) dX7_about_168 (by decide) ?_
          have e := Option.some.inj e
          subst e
          exact r_ret dX7_about_169 rfl rfl
        have e := g_iF h38 e
        by_cases h39 : a3 = 8
        · have e := g_iT h39 e
          refine r_tabIn (tgt := 168) dX7_about_30 (by rw [h39]; decide) (by rw [h39]; decide) (by rw [h39]; decide) (by decide) ?_
          refine r_iconst (x := (-1)) dX7_about_168 (by decide) ?_
          have e := Option.some.inj e
          subst e
          exact r_ret dX7_about_169 rfl rfl
        have e := g_iF h39 e
        by_cases h40 : a3 = 9
        · have e := g_iT h40 e
          refine r_tabIn (tgt := 168) dX7_about_30 (by rw [h40]; decide) (by rw [h40]; decide) (by rw [h40]; decide) (by decide) ?_
          refine r_iconst (x := (-1)) dX7_about_168 (by decide) ?_
          have e := Option.some.inj e
          subst e
          exact r_ret dX7_about_169 rfl rfl
        have e := g_iF h40 e
        by_cases h41 : a3 = 10
        · have e := g_iT h41 e
          refine r_tabIn (tgt := 121) dX7_about_30 (by rw [h41]; decide) (by rw [h41]; decide) (by rw [h41]; decide) (by decide) ?_
          refine r_aload_n dX7_about_121 rfl rfl ?_
          refine q_getr dX7_about_122 flX7_21 rfl rfl (m_fr_64_5 _) ?_
          refine r_iload dX7_about_125 rfl ?_
          obtain ⟨h42, e⟩ := g_gd e
          refine q_iald dX7_about_127 rfl h42 ?_
          have e := Option.some.inj e
          subst e
          exact r_ret dX7_about_128 rfl rfl
        have e := g_iF h41 e
        by_cases h43 : a3 = 11
        · have e := g_iT h43 e
          refine r_tabIn (tgt := 129) dX7_about_30 (by rw [h43]; decide) (by rw [h43]; decide) (by rw [h43]; decide) (by decide) ?_
          refine r_aload_n dX7_about_129 rfl rfl ?_
          refine q_getr dX7_about_130 flX7_21 rfl rfl (m_fr_64_5 _) ?_
          refine r_iload dX7_about_133 rfl ?_
          obtain ⟨h44, e⟩ := g_gd e
          refine q_iald dX7_about_135 rfl h44 ?_
          refine r_iconst (x := 1) dX7_about_136 (by decide) ?_
          refine r_icmp_ne (tgt := 150) dX7_about_137 (by decide) (fun h45 => ?_) (fun h45 => ?_)
          · have e := g_iF h45 e
            refine r_iconst (x := (-1)) dX7_about_150 (by decide) ?_
            have e := Option.some.inj e
            subst e
            exact r_ret dX7_about_151 rfl rfl
          · have e := g_iT h45 e
            refine r_aload_n dX7_about_140 rfl rfl ?_
            refine q_getr dX7_about_141 flX7_24 rfl rfl (m_fr_64_6 _) ?_
            refine r_iload dX7_about_144 rfl ?_
            refine q_iald dX7_about_146 rfl h44 ?_
            refine r_goto (tgt := 151) dX7_about_147 (by decide) ?_
            have e := Option.some.inj e
            subst e
            exact r_ret dX7_about_151 rfl rfl
        have e := g_iF h43 e
        by_cases h46 : a3 = 12
        · have e := g_iT h46 e
          refine r_tabIn (tgt := 152) dX7_about_30 (by rw [h46]; decide) (by rw [h46]; decide) (by rw [h46]; decide) (by decide) ?_
          refine r_aload_n dX7_about_152 rfl rfl ?_
          refine q_getr dX7_about_153 flX7_27 rfl rfl (m_fr_64_7 _) ?_
          refine r_iload dX7_about_156 rfl ?_
          obtain ⟨h47, e⟩ := g_gd e
          refine q_iald dX7_about_158 rfl h47 ?_
          have e := Option.some.inj e
          subst e
          exact r_ret dX7_about_159 rfl rfl
        have e := g_iF h46 e
        by_cases h48 : a3 = 13
        · have e := g_iT h48 e
          refine r_tabIn (tgt := 160) dX7_about_30 (by rw [h48]; decide) (by rw [h48]; decide) (by rw [h48]; decide) (by decide) ?_
          refine r_aload_n dX7_about_160 rfl rfl ?_
          refine q_getr dX7_about_161 flX7_30 rfl rfl (m_fr_64_8 _) ?_
          refine r_iload dX7_about_164 rfl ?_
          obtain ⟨h49, e⟩ := g_gd e
          refine q_iald dX7_about_166 rfl h49 ?_
          have e := Option.some.inj e
          subst e
          exact r_ret dX7_about_167 rfl rfl
        have e := g_iF h48 e
        refine r_tabOut (tgt := 168) dX7_about_30 (m_swOut14 h28 h30 h32 h34 h35 h36 h37 h38 h39 h40 h41 h43 h46 h48) (by decide) ?_
        refine r_iconst (x := (-1)) dX7_about_168 (by decide) ?_
        have e := Option.some.inj e
        subst e
        exact r_ret dX7_about_169 rfl rfl
      · have e := g_iF h27 e
        refine r_iconst (x := (-1)) dX7_about_19 (by decide) ?_
        have e := Option.some.inj e
        subst e
        exact r_ret dX7_about_20 rfl rfl
/-! X7_all -/
def f_X7_all (g : (Nat → Nat → Int32)) (a1 : Int32) : Int32 :=
  (if a1 = 0 then
(g 64 1)
else
(if a1 = 1 then
(g 64 20)
else
(if a1 = 2 then
(g 64 19)
else
(if a1 = 3 then
(g 64 13)
else
(if a1 = 4 then
(if (g 64 16) = 0 then
0
else
1)
else
(-1))))))
set_option maxRecDepth 100000 in
set_option maxHeartbeats 4000000 in
theorem c_X7_all {G : mG} {g : (Nat → Nat → Int32)} {b : Bool} {a1 : Int32} {R : Int32} (e : f_X7_all g a1 = R) : MC G mX7_all 0 0 0 [.ref 64, .int a1] (m_h g b) (some (.int R)) (m_h g b) := by
  refine MC_intro mlX7_all (Nat.le_of_ble_eq_true rfl) ⟨_, rfl⟩ rfl trivial ?_
  unfold f_X7_all at e
  refine r_iload_n dX7_all_0 rfl rfl ?_
  by_cases h1 : a1 = 0
  · have e := g_iT h1 e
    refine r_tabIn (tgt := 36) dX7_all_1 (by rw [h1]; decide) (by rw [h1]; decide) (by rw [h1]; decide) (by decide) ?_
    refine r_aload_n dX7_all_36 rfl rfl ?_
    refine q_geti dX7_all_37 flX7_92 rfl rfl ?_
    subst e
    exact r_ret dX7_all_40 rfl rfl
  have e := g_iF h1 e
  by_cases h2 : a1 = 1
  · have e := g_iT h2 e
    refine r_tabIn (tgt := 41) dX7_all_1 (by rw [h2]; decide) (by rw [h2]; decide) (by rw [h2]; decide) (by decide) ?_
    refine r_aload_n dX7_all_41 rfl rfl ?_
    refine q_geti dX7_all_42 flX7_162 rfl rfl ?_
    subst e
    exact r_ret dX7_all_45 rfl rfl
  have e := g_iF h2 e
  by_cases h3 : a1 = 2
  · have e := g_iT h3 e
    refine r_tabIn (tgt := 46) dX7_all_1 (by rw [h3]; decide) (by rw [h3]; decide) (by rw [h3]; decide) (by decide) ?_
    refine r_aload_n dX7_all_46 rfl rfl ?_
    refine q_geti dX7_all_47 flX7_116 rfl rfl ?_
    subst e
    exact r_ret dX7_all_50 rfl rfl
  have e := g_iF h3 e
  by_cases h4 : a1 = 3
  · have e := g_iT h4 e
    refine r_tabIn (tgt := 51) dX7_all_1 (by rw [h4]; decide) (by rw [h4]; decide) (by rw [h4]; decide) (by decide) ?_
    refine r_aload_n dX7_all_51 rfl rfl ?_
    refine q_geti dX7_all_52 flX7_137 rfl rfl ?_
    subst e
    exact r_ret dX7_all_55 rfl rfl
  have e := g_iF h4 e
  by_cases h5 : a1 = 4
  · have e := g_iT h5 e
    refine r_tabIn (tgt := 56) dX7_all_1 (by rw [h5]; decide) (by rw [h5]; decide) (by rw [h5]; decide) (by decide) ?_
    refine r_aload_n dX7_all_56 rfl rfl ?_
    refine q_geti dX7_all_57 flX7_112 rfl rfl ?_
    refine r_if_eq (tgt := 67) dX7_all_60 (by decide) (fun h6 => ?_) (fun h6 => ?_)
    · have e := g_iT h6 e
      refine r_iconst (x := 0) dX7_all_67 (by decide) ?_
      subst e
      exact r_ret dX7_all_68 rfl rfl
    · have e := g_iF h6 e
      refine r_iconst (x := 1) dX7_all_63 (by decide) ?_
      refine r_goto (tgt := 68) dX7_all_64 (by decide) ?_
      subst e
      exact r_ret dX7_all_68 rfl rfl
  have e := g_iF h5 e
  refine r_tabOut (tgt := 69) dX7_all_1 (m_swOut5 h1 h2 h3 h4 h5) (by decide) ?_
  refine r_iconst (x := (-1)) dX7_all_69 (by decide) ?_
  subst e
  exact r_ret dX7_all_70 rfl rfl
