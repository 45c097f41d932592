/-! X7_in -/
def f_X7_in (a1 : Int32) (a2 : Int32) (a3 : Int32) : Bool :=
  (if a1 < a2 then
false
else
(if a3 < a1 then
false
else
true))
set_option maxRecDepth 100000 in
set_option maxHeartbeats 4000000 in
theorem c_X7_in {G : mG} {g : (Nat → Nat → Int32)} {b : Bool} {a1 : Int32} {a2 : Int32} {a3 : Int32} {R : Bool} (e : f_X7_in a1 a2 a3 = R) : MC G mX7_in 0 0 0 [.int a1, .int a2, .int a3] (m_h g b) (some (.int (m_bi R))) (m_h g b) := by
  refine MC_intro mlX7_in (Nat.le_of_ble_eq_true rfl) (m_okZ _) rfl trivial ?_
  unfold f_X7_in at e
  refine r_iload_n dX7_in_0 rfl rfl ?_
  refine r_iload_n dX7_in_1 rfl rfl ?_
  refine r_icmp_lt (tgt := 14) dX7_in_2 (by decide) (fun h1 => ?_) (fun h1 => ?_)
  · have e := g_iT h1 e
    refine r_iconst (x := 0) dX7_in_14 (by decide) ?_
    subst e
    exact r_ret dX7_in_15 rfl rfl
  · have e := g_iF h1 e
    refine r_iload_n dX7_in_5 rfl rfl ?_
    refine r_iload_n dX7_in_6 rfl rfl ?_
    refine r_icmp_gt (tgt := 14) dX7_in_7 (by decide) (fun h2 => ?_) (fun h2 => ?_)
    · have e := g_iT h2 e
      refine r_iconst (x := 0) dX7_in_14 (by decide) ?_
      subst e
      exact r_ret dX7_in_15 rfl rfl
    · have e := g_iF h2 e
      refine r_iconst (x := 1) dX7_in_10 (by decide) ?_
      refine r_goto (tgt := 15) dX7_in_11 (by decide) ?_
      subst e
      exact r_ret dX7_in_15 rfl rfl
/-! X7_isTable -/
def f_X7_isTable (g : (Nat → Nat → Int32)) (a1 : Int32) : Bool :=
  (f_X7_in a1 0 ((g 64 1) - 1))
set_option maxRecDepth 100000 in
set_option maxHeartbeats 4000000 in
theorem c_X7_isTable {G : mG} {g : (Nat → Nat → Int32)} {b : Bool} {a1 : Int32} {R : Bool} (e : f_X7_isTable g a1 = R) : MC G mX7_isTable 1 0 0 [.ref 64, .int a1] (m_h g b) (some (.int (m_bi R))) (m_h g b) := by
  refine MC_intro mlX7_isTable (Nat.le_of_ble_eq_true rfl) (m_okZ _) rfl trivial ?_
  unfold f_X7_isTable at e
  refine r_iload_n dX7_isTable_0 rfl rfl ?_
  refine r_iconst (x := 0) dX7_isTable_1 (by decide) ?_
  refine r_aload_n dX7_isTable_2 rfl rfl ?_
  refine q_geti dX7_isTable_3 flX7_92 rfl rfl ?_
  refine r_iconst (x := 1) dX7_isTable_6 (by decide) ?_
  refine r_isub dX7_isTable_7 ?_
  refine q_callS (rest := []) (c_X7_in rfl) dX7_isTable_8 lkX7_95 rfl rfl (Nat.le_of_ble_eq_true rfl) (by decide) ?_
  subst e
  exact r_ret dX7_isTable_11 rfl rfl
/-! X7_isColumn -/
def f_X7_isColumn (g : (Nat → Nat → Int32)) (a1 : Int32) (a2 : Int32) : Option Bool :=
  (bif (f_X7_isTable g a1) then
(if m_in a1 4 then
(bif (f_X7_in a2 0 ((g 65 a1.toNatClampNeg) - 1)) then
some true
else
some false) else none)
else
some false)
set_option maxRecDepth 100000 in
set_option maxHeartbeats 4000000 in
theorem c_X7_isColumn {G : mG} {g : (Nat → Nat → Int32)} {b : Bool} {a1 : Int32} {a2 : Int32} {R : Bool} (e : f_X7_isColumn g a1 a2 = some R) : MC G mX7_isColumn 2 0 0 [.ref 64, .int a1, .int a2] (m_h g b) (some (.int (m_bi R))) (m_h g b) := by
  refine MC_intro mlX7_isColumn (Nat.le_of_ble_eq_true rfl) (m_okZ _) rfl trivial ?_
  unfold f_X7_isColumn at e
  refine r_aload_n dX7_isColumn_0 rfl rfl ?_
  refine r_iload_n dX7_isColumn_1 rfl rfl ?_
  refine q_callV (rest := []) (c_X7_isTable rfl) dX7_isColumn_2 lkX7_99 rfl rfl rfl rfl (Nat.le_of_ble_eq_true rfl) (by decide) ?_
  refine r_ifeqB (tgt := 28) dX7_isColumn_5 (by decide) (fun h1 => ?_) (fun h1 => ?_)
  · have e := g_cF h1 e
    refine r_iconst (x := 0) dX7_isColumn_28 (by decide) ?_
    have e := Option.some.inj e
    subst e
    exact r_ret dX7_isColumn_29 rfl rfl
  · have e := g_cT h1 e
    refine r_iload_n dX7_isColumn_8 rfl rfl ?_
    refine r_iconst (x := 0) dX7_isColumn_9 (by decide) ?_
    refine r_aload_n dX7_isColumn_10 rfl rfl ?_
    refine q_getr dX7_isColumn_11 flX7_9 rfl rfl (m_fr_64_2 _) ?_
    refine r_iload_n dX7_isColumn_14 rfl rfl ?_
    obtain ⟨h2, e⟩ := g_gd e
    refine q_iald dX7_isColumn_15 rfl h2 ?_
    refine r_iconst (x := 1) dX7_isColumn_16 (by decide) ?_
    refine r_isub dX7_isColumn_17 ?_
    refine q_callS (rest := []) (c_X7_in rfl) dX7_isColumn_18 lkX7_95 rfl rfl (Nat.le_of_ble_eq_true rfl) (by decide) ?_
    refine r_ifeqB (tgt := 28) dX7_isColumn_21 (by decide) (fun h3 => ?_) (fun h3 => ?_)
    · have e := g_cF h3 e
      refine r_iconst (x := 0) dX7_isColumn_28 (by decide) ?_
      have e := Option.some.inj e
      subst e
      exact r_ret dX7_isColumn_29 rfl rfl
    · have e := g_cT h3 e
      refine r_iconst (x := 1) dX7_isColumn_24 (by decide) ?_
      refine r_goto (tgt := 29) dX7_isColumn_25 (by decide) ?_
      have e := Option.some.inj e
      subst e
      exact r_ret dX7_isColumn_29 rfl rfl
/-! X7_isRow -/
def f_X7_isRow (g : (Nat → Nat → Int32)) (a1 : Int32) (a2 : Int32) : Option Bool :=
  (bif (f_X7_isTable g a1) then
(if m_in a1 4 then
(bif (f_X7_in a2 0 ((g 66 a1.toNatClampNeg) - 1)) then
some true
else
some false) else none)
else
some false)
set_option maxRecDepth 100000 in
set_option maxHeartbeats 4000000 in
theorem c_X7_isRow {G : mG} {g : (Nat → Nat → Int32)} {b : Bool} {a1 : Int32} {a2 : Int32} {R : Bool} (e : f_X7_isRow g a1 a2 = some R) : MC G mX7_isRow 2 0 0 [.ref 64, .int a1, .int a2] (m_h g b) (some (.int (m_bi R))) (m_h g b) := by
  refine MC_intro mlX7_isRow (Nat.le_of_ble_eq_true rfl) (m_okZ _) rfl trivial ?_
  unfold f_X7_isRow at e
  refine r_aload_n dX7_isRow_0 rfl rfl ?_
  refine r_iload_n dX7_isRow_1 rfl rfl ?_
  refine q_callV (rest := []) (c_X7_isTable rfl) dX7_isRow_2 lkX7_99 rfl rfl rfl rfl (Nat.le_of_ble_eq_true rfl) (by decide) ?_
  refine r_ifeqB (tgt := 28) dX7_isRow_5 (by decide) (fun h1 => ?_) (fun h1 => ?_)
  · have e := g_cF h1 e
    refine r_iconst (x := 0) dX7_isRow_28 (by decide) ?_
    have e := Option.some.inj e
    subst e
    exact r_ret dX7_isRow_29 rfl rfl
  · have e := g_cT h1 e
    refine r_iload_n dX7_isRow_8 rfl rfl ?_
    refine r_iconst (x := 0) dX7_isRow_9 (by decide) ?_
    refine r_aload_n dX7_isRow_10 rfl rfl ?_
    refine q_getr dX7_isRow_11 flX7_15 rfl rfl (m_fr_64_3 _) ?_
    refine r_iload_n dX7_isRow_14 rfl rfl ?_
    obtain ⟨h2, e⟩ := g_gd e
    refine q_iald dX7_isRow_15 rfl h2 ?_
    refine r_iconst (x := 1) dX7_isRow_16 (by decide) ?_
    refine r_isub dX7_isRow_17 ?_
    refine q_callS (rest := []) (c_X7_in rfl) dX7_isRow_18 lkX7_95 rfl rfl (Nat.le_of_ble_eq_true rfl) (by decide) ?_
    refine r_ifeqB (tgt := 28) dX7_isRow_21 (by decide) (fun h3 => ?_) (fun h3 => ?_)
    · have e := g_cF h3 e
      refine r_iconst (x := 0) dX7_isRow_28 (by decide) ?_
      have e := Option.some.inj e
      subst e
      exact r_ret dX7_isRow_29 rfl rfl
    · have e := g_cT h3 e
      refine r_iconst (x := 1) dX7_isRow_24 (by decide) ?_
      refine r_goto (tgt := 29) dX7_isRow_25 (by decide) ?_
      have e := Option.some.inj e
      subst e
      exact r_ret dX7_isRow_29 rfl rfl
/-! X7_cell -/
def f_X7_cell (a1 : Int32) (a2 : Int32) (a3 : Int32) : Int32 :=
  (((72 * a1) + (6 * a2)) + a3)
set_option maxRecDepth 100000 in
set_option maxHeartbeats 4000000 in
theorem c_X7_cell {G : mG} {g : (Nat → Nat → Int32)} {b : Bool} {a1 : Int32} {a2 : Int32} {a3 : Int32} {R : Int32} (e : f_X7_cell a1 a2 a3 = R) : MC G mX7_cell 0 0 0 [.int a1, .int a2, .int a3] (m_h g b) (some (.int R)) (m_h g b) := by
  refine MC_intro mlX7_cell (Nat.le_of_ble_eq_true rfl) ⟨_, rfl⟩ rfl trivial ?_
  unfold f_X7_cell at e
  refine r_bipush (x := 72) dX7_cell_0 (by decide) ?_
  refine r_iload_n dX7_cell_2 rfl rfl ?_
  refine r_imul dX7_cell_3 ?_
  refine r_bipush (x := 6) dX7_cell_4 (by decide) ?_
  refine r_iload_n dX7_cell_6 rfl rfl ?_
  refine r_imul dX7_cell_7 ?_
  refine r_iadd dX7_cell_8 ?_
  refine r_iload_n dX7_cell_9 rfl rfl ?_
  refine r_iadd dX7_cell_10 ?_
  subst e
  exact r_ret dX7_cell_11 rfl rfl
/-! X7_figure -/
def f_X7_figure (a1 : Int32) : Int32 :=
  (m_rem ((((a1 / 10000) + (2 * (m_rem (a1 / 1000) 10))) + (3 * (m_rem (a1 / 100) 10))) + (4 * (m_rem (a1 / 10) 10))) 10)
set_option maxRecDepth 100000 in
set_option maxHeartbeats 4000000 in
theorem c_X7_figure {G : mG} {g : (Nat → Nat → Int32)} {b : Bool} {a1 : Int32} {R : Int32} (e : f_X7_figure a1 = R) : MC G mX7_figure 0 0 0 [.int a1] (m_h g b) (some (.int R)) (m_h g b) := by
  refine MC_intro mlX7_figure (Nat.le_of_ble_eq_true rfl) ⟨_, rfl⟩ rfl trivial ?_
  unfold f_X7_figure at e
  refine r_iload_n dX7_figure_0 rfl rfl ?_
  refine r_sipush (x := 10000) dX7_figure_1 (by decide) ?_
  refine r_idiv dX7_figure_4 (by decide) ?_
  refine r_iconst (x := 2) dX7_figure_5 (by decide) ?_
  refine r_iload_n dX7_figure_6 rfl rfl ?_
  refine r_sipush (x := 1000) dX7_figure_7 (by decide) ?_
  refine r_idiv dX7_figure_10 (by decide) ?_
  refine r_bipush (x := 10) dX7_figure_11 (by decide) ?_
  refine q_irem dX7_figure_13 (by decide) ?_
  refine r_imul dX7_figure_14 ?_
  refine r_iadd dX7_figure_15 ?_
  refine r_iconst (x := 3) dX7_figure_16 (by decide) ?_
  refine r_iload_n dX7_figure_17 rfl rfl ?_
  refine r_bipush (x := 100) dX7_figure_18 (by decide) ?_
  refine r_idiv dX7_figure_20 (by decide) ?_
  refine r_bipush (x := 10) dX7_figure_21 (by decide) ?_
  refine q_irem dX7_figure_23 (by decide) ?_
  refine r_imul dX7_figure_24 ?_
  refine r_iadd dX7_figure_25 ?_
  refine r_iconst (x := 4) dX7_figure_26 (by decide) ?_
  refine r_iload_n dX7_figure_27 rfl rfl ?_
  refine r_bipush (x := 10) dX7_figure_28 (by decide) ?_
  refine r_idiv dX7_figure_30 (by decide) ?_
  refine r_bipush (x := 10) dX7_figure_31 (by decide) ?_
  refine q_irem dX7_figure_33 (by decide) ?_
  refine r_imul dX7_figure_34 ?_
  refine r_iadd dX7_figure_35 ?_
  refine r_bipush (x := 10) dX7_figure_36 (by decide) ?_
  refine q_irem dX7_figure_38 (by decide) ?_
  subst e
  exact r_ret dX7_figure_39 rfl rfl
/-! X7_isKey -/
def f_X7_isKey (a1 : Int32) : Bool :=
  (bif (f_X7_in a1 0 99999) then
(if (m_rem a1 10) = (f_X7_figure a1) then
true
else
false)
else
false)
set_option maxRecDepth 100000 in
set_option maxHeartbeats 4000000 in
theorem c_X7_isKey {G : mG} {g : (Nat → Nat → Int32)} {b : Bool} {a1 : Int32} {R : Bool} (e : f_X7_isKey a1 = R) : MC G mX7_isKey 1 0 0 [.int a1] (m_h g b) (some (.int (m_bi R))) (m_h g b) := by
  refine MC_intro mlX7_isKey (Nat.le_of_ble_eq_true rfl) (m_okZ _) rfl trivial ?_
  unfold f_X7_isKey at e
  refine r_iload_n dX7_isKey_0 rfl rfl ?_
  refine r_iconst (x := 0) dX7_isKey_1 (by decide) ?_
  refine r_ldc (x := 99999) dX7_isKey_2 kcX7_103 ?_
  refine q_callS (rest := []) (c_X7_in rfl) dX7_isKey_4 lkX7_95 rfl rfl (Nat.le_of_ble_eq_true rfl) (by decide) ?_
  refine r_ifeqB (tgt := 25) dX7_isKey_7 (by decide) (fun h1 => ?_) (fun h1 => ?_)
  · have e := g_cF h1 e
    refine r_iconst (x := 0) dX7_isKey_25 (by decide) ?_
    subst e
    exact r_ret dX7_isKey_26 rfl rfl
  · have e := g_cT h1 e
    refine r_iload_n dX7_isKey_10 rfl rfl ?_
    refine r_bipush (x := 10) dX7_isKey_11 (by decide) ?_
    refine q_irem dX7_isKey_13 (by decide) ?_
    refine r_iload_n dX7_isKey_14 rfl rfl ?_
    refine q_callS (rest := [.int (m_rem a1 10)]) (c_X7_figure rfl) dX7_isKey_15 lkX7_104 rfl rfl (Nat.le_of_ble_eq_true rfl) (by decide) ?_
    refine r_icmp_ne (tgt := 25) dX7_isKey_18 (by decide) (fun h2 => ?_) (fun h2 => ?_)
    · have e := g_iF h2 e
      refine r_iconst (x := 0) dX7_isKey_25 (by decide) ?_
      subst e
      exact r_ret dX7_isKey_26 rfl rfl
    · have e := g_iT h2 e
      refine r_iconst (x := 1) dX7_isKey_21 (by decide) ?_
      refine r_goto (tgt := 26) dX7_isKey_22 (by decide) ?_
      subst e
      exact r_ret dX7_isKey_26 rfl rfl
/-! X7_begin -/
def f_X7_begin (g : (Nat → Nat → Int32)) (a1 : Int32) (a2 : Int32) (a3 : Int32) : Option (Nat → Nat → Int32) :=
  (if m_in a1 24 then
(m_let (m_up g 68 a1.toNatClampNeg a2) fun g2 =>
(m_let (m_up g2 69 a1.toNatClampNeg a3) fun g4 =>
(m_let (m_up g4 70 a1.toNatClampNeg 0) fun g6 =>
(m_let (m_up g6 71 a1.toNatClampNeg 0) fun g8 =>
(m_let (m_up g8 72 a1.toNatClampNeg 1) fun g10 =>
(m_let (m_up g10 73 a1.toNatClampNeg 0) fun g12 =>
some g12)))))) else none)
set_option maxRecDepth 100000 in
set_option maxHeartbeats 4000000 in
theorem c_X7_begin {G : mG} {g : (Nat → Nat → Int32)} {b : Bool} {a1 : Int32} {a2 : Int32} {a3 : Int32} {R : (Nat → Nat → Int32)} (e : f_X7_begin g a1 a2 a3 = some R) : MC G mX7_begin 0 0 0 [.ref 64, .int a1, .int a2, .int a3] (m_h g b) none (m_h R b) := by
  refine MC_intro mlX7_begin (Nat.le_of_ble_eq_true rfl) rfl rfl trivial ?_
  unfold f_X7_begin at e
  refine r_aload_n dX7_begin_0 rfl rfl ?_
  refine q_getr dX7_begin_1 flX7_21 rfl rfl (m_fr_64_5 _) ?_
  refine r_iload_n dX7_begin_4 rfl rfl ?_
  refine r_iload_n dX7_begin_5 rfl rfl ?_
  obtain ⟨h1, e⟩ := g_gd e
  refine q_iastL dX7_begin_6 rfl h1 (fun g2 h3 => ?_)
  have e := g_lt h3 e
  refine r_aload_n dX7_begin_7 rfl rfl ?_
  refine q_getr dX7_begin_8 flX7_24 rfl rfl (m_fr_64_6 _) ?_
  refine r_iload_n dX7_begin_11 rfl rfl ?_
  refine r_iload_n dX7_begin_12 rfl rfl ?_
  refine q_iastL dX7_begin_13 rfl h1 (fun g4 h5 => ?_)
  have e := g_lt h5 e
  refine r_aload_n dX7_begin_14 rfl rfl ?_
  refine q_getr dX7_begin_15 flX7_27 rfl rfl (m_fr_64_7 _) ?_
  refine r_iload_n dX7_begin_18 rfl rfl ?_
  refine r_iconst (x := 0) dX7_begin_19 (by decide) ?_
  refine q_iastL dX7_begin_20 rfl h1 (fun g6 h7 => ?_)
  have e := g_lt h7 e
  refine r_aload_n dX7_begin_21 rfl rfl ?_
  refine q_getr dX7_begin_22 flX7_30 rfl rfl (m_fr_64_8 _) ?_
  refine r_iload_n dX7_begin_25 rfl rfl ?_
  refine r_iconst (x := 0) dX7_begin_26 (by decide) ?_
  refine q_iastL dX7_begin_27 rfl h1 (fun g8 h9 => ?_)
  have e := g_lt h9 e
  refine r_aload_n dX7_begin_28 rfl rfl ?_
  refine q_getr dX7_begin_29 flX7_33 rfl rfl (m_fr_64_9 _) ?_
  refine r_iload_n dX7_begin_32 rfl rfl ?_
  refine r_iconst (x := 1) dX7_begin_33 (by decide) ?_
  refine q_iastL dX7_begin_34 rfl h1 (fun g10 h11 => ?_)
  have e := g_lt h11 e
  refine r_aload_n dX7_begin_35 rfl rfl ?_
  refine q_getr dX7_begin_36 flX7_36 rfl rfl (m_fr_64_10 _) ?_
  refine r_iload_n dX7_begin_39 rfl rfl ?_
  refine r_iconst (x := 0) dX7_begin_40 (by decide) ?_
  refine q_iastL dX7_begin_41 rfl h1 (fun g12 h13 => ?_)
  have e := g_lt h13 e
  have e := Option.some.inj e
  subst e
  exact r_ret dX7_begin_42 rfl rfl
/-! X7_table -/
def lp_X7_table_56 : Nat → Int32 → (Nat → Nat → Int32) → Option (Int32 × (Nat → Nat → Int32))
  | 0, _, _ => none
  | n + 1, y56_1, g56 =>
  (if 5 ≤ y56_1 then
(m_let (m_up g56 64 1 ((g56 64 1) + 1)) fun g56002 =>
(m_let (m_up g56002 64 16 0) fun g56004 =>
some (((g56004 64 1) - 1), g56004)))
else
(if m_in ((5 * (g56 64 1)) + y56_1) 20 then
(m_let (m_up g56 74 ((5 * (g56 64 1)) + y56_1).toNatClampNeg 1) fun g56007 =>
(if m_in ((5 * (g56007 64 1)) + y56_1) 20 then
(m_let (m_up g56007 75 ((5 * (g56007 64 1)) + y56_1).toNatClampNeg 0) fun g56010 =>
lp_X7_table_56  n (y56_1 + 1) g56010) else none)) else none))
def f_X7_table (g : (Nat → Nat → Int32)) : Option (Int32 × (Nat → Nat → Int32)) :=
  (if (g 64 1) = 4 then
some ((-4), g)
else
(if m_in (g 64 1) 4 then
(m_let (m_up g 65 (g 64 1).toNatClampNeg 1) fun g3 =>
(if m_in (g3 64 1) 4 then
(m_let (m_up g3 66 (g3 64 1).toNatClampNeg 0) fun g6 =>
(if m_in (g6 64 1) 4 then
(m_let (m_up g6 67 (g6 64 1).toNatClampNeg 0) fun g9 =>
((f_X7_begin g9 (6 * (g9 64 1)) 0 0).bind fun v11 =>
lp_X7_table_56  2000 0 v11)) else none)) else none)) else none))
set_option maxRecDepth 100000 in
set_option maxHeartbeats 4000000 in
theorem w_X7_table_56 {G : mG} {b : Bool} : ∀ (n : Nat) (y56_1 : Int32) (g56 : (Nat → Nat → Int32)) (R : (Int32 × (Nat → Nat → Int32))), lp_X7_table_56  n y56_1 g56 = some R → MW G mX7_table 1 0 0 56 [.ref 64, .int y56_1] [] (m_h g56 b) (some (.int R.1)) (m_h R.2 b)
  | 0, _, _, R, e => absurd (show (none : Option (Int32 × (Nat → Nat → Int32))) = some R from e) (fun h => by cases h)
  | n + 1, y56_1, g56, R, e => by
    rw [lp_X7_table_56] at e
    refine r_iload_n dX7_table_56 rfl rfl ?_
    refine r_iconst (x := 5) dX7_table_57 (by decide) ?_
    refine r_icmp_ge (tgt := 95) dX7_table_58 (by decide) (fun h56001 => ?_) (fun h56001 => ?_)
    · have e := g_iT h56001 e
      refine r_aload_n dX7_table_95 rfl rfl ?_
      refine r_dup dX7_table_96 ?_
      refine q_geti dX7_table_97 flX7_92 rfl rfl ?_
      refine r_iconst (x := 1) dX7_table_100 (by decide) ?_
      refine r_iadd dX7_table_101 ?_
      refine q_putiL dX7_table_102 flX7_92 (Or.inl rfl) (Or.inl rfl) rfl (fun g56002 h56003 => ?_)
      have e := g_lt h56003 e
      refine r_aload_n dX7_table_105 rfl rfl ?_
      refine r_iconst (x := 0) dX7_table_106 (by decide) ?_
      refine q_putiL dX7_table_107 flX7_112 (Or.inl rfl) (Or.inr ⟨rfl, by decide⟩) rfl (fun g56004 h56005 => ?_)
      have e := g_lt h56005 e
      refine r_aload_n dX7_table_110 rfl rfl ?_
      refine q_geti dX7_table_111 flX7_92 rfl rfl ?_
      refine r_iconst (x := 1) dX7_table_114 (by decide) ?_
      refine r_isub dX7_table_115 ?_
      have e := Option.some.inj e
      subst e
      exact r_ret dX7_table_116 rfl rfl
    · have e := g_iF h56001 e
      refine r_aload_n dX7_table_61 rfl rfl ?_
      refine q_getr dX7_table_62 flX7_39 rfl rfl (m_fr_64_11 _) ?_
      refine r_iconst (x := 5) dX7_table_65 (by decide) ?_
      refine r_aload_n dX7_table_66 rfl rfl ?_
      refine q_geti dX7_table_67 flX7_92 rfl rfl ?_
      refine r_imul dX7_table_70 ?_
      refine r_iload_n dX7_table_71 rfl rfl ?_
      refine r_iadd dX7_table_72 ?_
      refine r_iconst (x := 1) dX7_table_73 (by decide) ?_
      obtain ⟨h56006, e⟩ := g_gd e
      refine q_iastL dX7_table_74 rfl h56006 (fun g56007 h56008 => ?_)
      have e := g_lt h56008 e
      refine r_aload_n dX7_table_75 rfl rfl ?_
      refine q_getr dX7_table_76 flX7_42 rfl rfl (m_fr_64_12 _) ?_
      refine r_iconst (x := 5) dX7_table_79 (by decide) ?_
      refine r_aload_n dX7_table_80 rfl rfl ?_
      refine q_geti dX7_table_81 flX7_92 rfl rfl ?_
      refine r_imul dX7_table_84 ?_
      refine r_iload_n dX7_table_85 rfl rfl ?_
      refine r_iadd dX7_table_86 ?_
      refine r_iconst (x := 0) dX7_table_87 (by decide) ?_
      obtain ⟨h56009, e⟩ := g_gd e
      refine q_iastL dX7_table_88 rfl h56009 (fun g56010 h56011 => ?_)
      have e := g_lt h56011 e
      refine r_iinc (y := 1) dX7_table_89 rfl (by decide) (by decide) rfl ?_
      refine r_goto (tgt := 56) dX7_table_92 (by decide) ?_
      exact w_X7_table_56 n _ _ R e
set_option maxRecDepth 100000 in
set_option maxHeartbeats 4000000 in
theorem c_X7_table {G : mG} {g : (Nat → Nat → Int32)} {b : Bool} {R : (Int32 × (Nat → Nat → Int32))} (e : f_X7_table g = some R) : MC G mX7_table 1 0 0 [.ref 64] (m_h g b) (some (.int R.1)) (m_h R.2 b) := by
  refine MC_intro mlX7_table (Nat.le_of_ble_eq_true rfl) ⟨_, rfl⟩ rfl trivial ?_
  unfold f_X7_table at e
  refine r_aload_n dX7_table_0 rfl rfl ?_
  refine q_geti dX7_table_1 flX7_92 rfl rfl ?_
  refine r_iconst (x := 4) dX7_table_4 (by decide) ?_
  refine r_icmp_ne (tgt := 11) dX7_table_5 (by decide) (fun h1 => ?_) (fun h1 => ?_)
  · have e := g_iF h1 e
    refine r_aload_n dX7_table_11 rfl rfl ?_
    refine q_getr dX7_table_12 flX7_9 rfl rfl (m_fr_64_2 _) ?_
    refine r_aload_n dX7_table_15 rfl rfl ?_
    refine q_geti dX7_table_16 flX7_92 rfl rfl ?_
    refine r_iconst (x := 1) dX7_table_19 (by decide) ?_
    obtain ⟨h2, e⟩ := g_gd e
    refine q_iastL dX7_table_20 rfl h2 (fun g3 h4 => ?_)
    have e := g_lt h4 e
    refine r_aload_n dX7_table_21 rfl rfl ?_
    refine q_getr dX7_table_22 flX7_15 rfl rfl (m_fr_64_3 _) ?_
    refine r_aload_n dX7_table_25 rfl rfl ?_
    refine q_geti dX7_table_26 flX7_92 rfl rfl ?_
    refine r_iconst (x := 0) dX7_table_29 (by decide) ?_
    obtain ⟨h5, e⟩ := g_gd e
    refine q_iastL dX7_table_30 rfl h5 (fun g6 h7 => ?_)
    have e := g_lt h7 e
    refine r_aload_n dX7_table_31 rfl rfl ?_
    refine q_getr dX7_table_32 flX7_18 rfl rfl (m_fr_64_4 _) ?_
    refine r_aload_n dX7_table_35 rfl rfl ?_
    refine q_geti dX7_table_36 flX7_92 rfl rfl ?_
    refine r_iconst (x := 0) dX7_table_39 (by decide) ?_
    obtain ⟨h8, e⟩ := g_gd e
    refine q_iastL dX7_table_40 rfl h8 (fun g9 h10 => ?_)
    have e := g_lt h10 e
    refine r_aload_n dX7_table_41 rfl rfl ?_
    refine r_bipush (x := 6) dX7_table_42 (by decide) ?_
    refine r_aload_n dX7_table_44 rfl rfl ?_
    refine q_geti dX7_table_45 flX7_92 rfl rfl ?_
    refine r_imul dX7_table_48 ?_
    refine r_iconst (x := 0) dX7_table_49 (by decide) ?_
    refine r_iconst (x := 0) dX7_table_50 (by decide) ?_
    obtain ⟨v11, h12, e⟩ := g_bd e
    refine q_callV (rest := []) (c_X7_begin h12) dX7_table_51 lkX7_108 rfl rfl rfl rfl (Nat.le_of_ble_eq_true rfl) (by decide) ?_
    refine r_iconst (x := 0) dX7_table_54 (by decide) ?_
    refine r_istore_n dX7_table_55 rfl (by decide) rfl ?_
    exact w_X7_table_56 2000 _ _ R e
  · have e := g_iT h1 e
    refine r_bipush (x := (-4)) dX7_table_8 (by decide) ?_
    have e := Option.some.inj e
    subst e
    exact r_ret dX7_table_10 rfl rfl
/-! X7_column -/
def f_X7_column (g : (Nat → Nat → Int32)) (a1 : Int32) (a2 : Int32) (a3 : Int32) : Option (Int32 × (Nat → Nat → Int32)) :=
  (bif (f_X7_isTable g a1) then
(if a2 = 1 then
(bif (f_X7_isTable g a3) then
(bif (f_X7_in a2 1 4) then
(if a2 = 1 then
(if m_in a1 4 then
(if (g 66 a1.toNatClampNeg) ≤ 0 then
(if (g 65 a1.toNatClampNeg) = 6 then
some ((-4), g)
else
((f_X7_begin g ((6 * a1) + (g 65 a1.toNatClampNeg)) a2 a3).bind fun v30 =>
(m_let (m_up v30 65 a1.toNatClampNeg ((v30 65 a1.toNatClampNeg) + 1)) fun g32 =>
(m_let (m_up g32 64 16 0) fun g34 =>
some (((g34 65 a1.toNatClampNeg) - 1), g34)))))
else
some ((-3), g)) else none)
else
(if a3 = 0 then
(if m_in a1 4 then
(if (g 66 a1.toNatClampNeg) ≤ 0 then
(if (g 65 a1.toNatClampNeg) = 6 then
some ((-4), g)
else
((f_X7_begin g ((6 * a1) + (g 65 a1.toNatClampNeg)) a2 a3).bind fun v40 =>
(m_let (m_up v40 65 a1.toNatClampNeg ((v40 65 a1.toNatClampNeg) + 1)) fun g42 =>
(m_let (m_up g42 64 16 0) fun g44 =>
some (((g44 65 a1.toNatClampNeg) - 1), g44)))))
else
some ((-3), g)) else none)
else
some ((-2), g)))
else
some ((-2), g))
else
some ((-1), g))
else
(bif (f_X7_in a2 1 4) then
(if a2 = 1 then
(if m_in a1 4 then
(if (g 66 a1.toNatClampNeg) ≤ 0 then
(if (g 65 a1.toNatClampNeg) = 6 then
some ((-4), g)
else
((f_X7_begin g ((6 * a1) + (g 65 a1.toNatClampNeg)) a2 a3).bind fun v8 =>
(m_let (m_up v8 65 a1.toNatClampNeg ((v8 65 a1.toNatClampNeg) + 1)) fun g10 =>
(m_let (m_up g10 64 16 0) fun g12 =>
some (((g12 65 a1.toNatClampNeg) - 1), g12)))))
else
some ((-3), g)) else none)
else
(if a3 = 0 then
(if m_in a1 4 then
(if (g 66 a1.toNatClampNeg) ≤ 0 then
(if (g 65 a1.toNatClampNeg) = 6 then
some ((-4), g)
else
((f_X7_begin g ((6 * a1) + (g 65 a1.toNatClampNeg)) a2 a3).bind fun v18 =>
(m_let (m_up v18 65 a1.toNatClampNeg ((v18 65 a1.toNatClampNeg) + 1)) fun g20 =>
(m_let (m_up g20 64 16 0) fun g22 =>
some (((g22 65 a1.toNatClampNeg) - 1), g22)))))
else
some ((-3), g)) else none)
else
some ((-2), g)))
else
some ((-2), g)))
else
some ((-1), g))
set_option maxRecDepth 100000 in
set_option maxHeartbeats 4000000 in
theorem c_X7_column {G : mG} {g : (Nat → Nat → Int32)} {b : Bool} {a1 : Int32} {a2 : Int32} {a3 : Int32} {R : (Int32 × (Nat → Nat → Int32))} (e : f_X7_column g a1 a2 a3 = some R) : MC G mX7_column 2 0 0 [.ref 64, .int a1, .int a2, .int a3] (m_h g b) (some (.int R.1)) (m_h R.2 b) := by
  refine MC_intro mlX7_column (Nat.le_of_ble_eq_true rfl) ⟨_, rfl⟩ rfl trivial ?_
  unfold f_X7_column at e
  refine r_aload_n dX7_column_0 rfl rfl ?_
  refine r_iload_n dX7_column_1 rfl rfl ?_
  refine q_callV (rest := []) (c_X7_isTable rfl) dX7_column_2 lkX7_99 rfl rfl rfl rfl (Nat.le_of_ble_eq_true rfl) (by decide) ?_
  refine r_ifeqB (tgt := 21) dX7_column_5 (by decide) (fun h1 => ?_) (fun h1 => ?_)
  · have e := g_cF h1 e
    refine r_iconst (x := (-1)) dX7_column_21 (by decide) ?_
    have e := Option.some.inj e
    subst e
    exact r_ret dX7_column_22 rfl rfl
  · have e := g_cT h1 e
    refine r_iload_n dX7_column_8 rfl rfl ?_
    refine r_iconst (x := 1) dX7_column_9 (by decide) ?_
    refine r_icmp_ne (tgt := 23) dX7_column_10 (by decide) (fun h2 => ?_) (fun h2 => ?_)
    · have e := g_iF h2 e
      refine r_iload_n dX7_column_23 rfl rfl ?_
      refine r_iconst (x := 1) dX7_column_24 (by decide) ?_
      refine r_iconst (x := 4) dX7_column_25 (by decide) ?_
      refine q_callS (rest := []) (c_X7_in rfl) dX7_column_26 lkX7_95 rfl rfl (Nat.le_of_ble_eq_true rfl) (by decide) ?_
      refine r_ifeqB (tgt := 41) dX7_column_29 (by decide) (fun h3 => ?_) (fun h3 => ?_)
      · have e := g_cF h3 e
        refine r_bipush (x := (-2)) dX7_column_41 (by decide) ?_
        have e := Option.some.inj e
        subst e
        exact r_ret dX7_column_43 rfl rfl
      · have e := g_cT h3 e
        refine r_iload_n dX7_column_32 rfl rfl ?_
        refine r_iconst (x := 1) dX7_column_33 (by decide) ?_
        refine r_icmp_eq (tgt := 44) dX7_column_34 (by decide) (fun h4 => ?_) (fun h4 => ?_)
        · have e := g_iT h4 e
          refine r_aload_n dX7_column_44 rfl rfl ?_
          refine q_getr dX7_column_45 flX7_15 rfl rfl (m_fr_64_3 _) ?_
          refine r_iload_n dX7_column_48 rfl rfl ?_
          obtain ⟨h5, e⟩ := g_gd e
          refine q_iald dX7_column_49 rfl h5 ?_
          refine r_if_le (tgt := 56) dX7_column_50 (by decide) (fun h6 => ?_) (fun h6 => ?_)
          · have e := g_iT h6 e
            refine r_aload_n dX7_column_56 rfl rfl ?_
            refine q_getr dX7_column_57 flX7_9 rfl rfl (m_fr_64_2 _) ?_
            refine r_iload_n dX7_column_60 rfl rfl ?_
            refine q_iald dX7_column_61 rfl h5 ?_
            refine r_bipush (x := 6) dX7_column_62 (by decide) ?_
            refine r_icmp_ne (tgt := 70) dX7_column_64 (by decide) (fun h7 => ?_) (fun h7 => ?_)
            · have e := g_iF h7 e
              refine r_aload_n dX7_column_70 rfl rfl ?_
              refine r_bipush (x := 6) dX7_column_71 (by decide) ?_
              refine r_iload_n dX7_column_73 rfl rfl ?_
              refine r_imul dX7_column_74 ?_
              refine r_aload_n dX7_column_75 rfl rfl ?_
              refine q_getr dX7_column_76 flX7_9 rfl rfl (m_fr_64_2 _) ?_
              refine r_iload_n dX7_column_79 rfl rfl ?_
              refine q_iald dX7_column_80 rfl h5 ?_
              refine r_iadd dX7_column_81 ?_
              refine r_iload_n dX7_column_82 rfl rfl ?_
              refine r_iload_n dX7_column_83 rfl rfl ?_
              obtain ⟨v8, h9, e⟩ := g_bd e
              refine q_callV (rest := []) (c_X7_begin h9) dX7_column_84 lkX7_108 rfl rfl rfl rfl (Nat.le_of_ble_eq_true rfl) (by decide) ?_
              refine r_aload_n dX7_column_87 rfl rfl ?_
              refine q_getr dX7_column_88 flX7_9 rfl rfl (m_fr_64_2 _) ?_
              refine r_iload_n dX7_column_91 rfl rfl ?_
              refine r_dup2 dX7_column_92 ?_
              refine q_iald dX7_column_93 rfl h5 ?_
              refine r_iconst (x := 1) dX7_column_94 (by decide) ?_
              refine r_iadd dX7_column_95 ?_
              refine q_iastL dX7_column_96 rfl h5 (fun g10 h11 => ?_)
              have e := g_lt h11 e
              refine r_aload_n dX7_column_97 rfl rfl ?_
              refine r_iconst (x := 0) dX7_column_98 (by decide) ?_
              refine q_putiL dX7_column_99 flX7_112 (Or.inl rfl) (Or.inr ⟨rfl, by decide⟩) rfl (fun g12 h13 => ?_)
              have e := g_lt h13 e
              refine r_aload_n dX7_column_102 rfl rfl ?_
              refine q_getr dX7_column_103 flX7_9 rfl rfl (m_fr_64_2 _) ?_
              refine r_iload_n dX7_column_106 rfl rfl ?_
              refine q_iald dX7_column_107 rfl h5 ?_
              refine r_iconst (x := 1) dX7_column_108 (by decide) ?_
              refine r_isub dX7_column_109 ?_
              have e := Option.some.inj e
              subst e
              exact r_ret dX7_column_110 rfl rfl
            · have e := g_iT h7 e
              refine r_bipush (x := (-4)) dX7_column_67 (by decide) ?_
              have e := Option.some.inj e
              subst e
              exact r_ret dX7_column_69 rfl rfl
          · have e := g_iF h6 e
            refine r_bipush (x := (-3)) dX7_column_53 (by decide) ?_
            have e := Option.some.inj e
            subst e
            exact r_ret dX7_column_55 rfl rfl
        · have e := g_iF h4 e
          refine r_iload_n dX7_column_37 rfl rfl ?_
          refine r_if_eq (tgt := 44) dX7_column_38 (by decide) (fun h14 => ?_) (fun h14 => ?_)
          · have e := g_iT h14 e
            refine r_aload_n dX7_column_44 rfl rfl ?_
            refine q_getr dX7_column_45 flX7_15 rfl rfl (m_fr_64_3 _) ?_
            refine r_iload_n dX7_column_48 rfl rfl ?_
            obtain ⟨h15, e⟩ := g_gd e
            refine q_iald dX7_column_49 rfl h15 ?_
            refine r_if_le (tgt := 56) dX7_column_50 (by decide) (fun h16 => ?_) (fun h16 => ?_)
            · have e := g_iT h16 e
              refine r_aload_n dX7_column_56 rfl rfl ?_
              refine q_getr dX7_column_57 flX7_9 rfl rfl (m_fr_64_2 _) ?_
              refine r_iload_n dX7_column_60 rfl rfl ?_
              refine q_iald dX7_column_61 rfl h15 ?_
              refine r_bipush (x := 6) dX7_column_62 (by decide) ?_
              refine r_icmp_ne (tgt := 70) dX7_column_64 (by decide) (fun h17 => ?_) (fun h17 => ?_)
              · have e := g_iF h17 e
                refine r_aload_n dX7_column_70 rfl rfl ?_
                refine r_bipush (x := 6) dX7_column_71 (by decide) ?_
                refine r_iload_n dX7_column_73 rfl rfl ?_
                refine r_imul dX7_column_74 ?_
                refine r_aload_n dX7_column_75 rfl rfl ?_
                refine q_getr dX7_column_76 flX7_9 rfl rfl (m_fr_64_2 _) ?_
                refine r_iload_n dX7_column_79 rfl rfl ?_
                refine q_iald dX7_column_80 rfl h15 ?_
                refine r_iadd dX7_column_81 ?_
                refine r_iload_n dX7_column_82 rfl rfl ?_
                refine r_iload_n dX7_column_83 rfl rfl ?_
                obtain ⟨v18, h19, e⟩ := g_bd e
                refine q_callV (rest := []) (c_X7_begin h19) dX7_column_84 lkX7_108 rfl rfl rfl rfl (Nat.le_of_ble_eq_true rfl) (by decide) ?_
                refine r_aload_n dX7_column_87 rfl rfl ?_
                refine q_getr dX7_column_88 flX7_9 rfl rfl (m_fr_64_2 _) ?_
                refine r_iload_n dX7_column_91 rfl rfl ?_
                refine r_dup2 dX7_column_92 ?_
                refine q_iald dX7_column_93 rfl h15 ?_
                refine r_iconst (x := 1) dX7_column_94 (by decide) ?_
                refine r_iadd dX7_column_95 ?_
                refine q_iastL dX7_column_96 rfl h15 (fun g20 h21 => ?_)
                have e := g_lt h21 e
                refine r_aload_n dX7_column_97 rfl rfl ?_
                refine r_iconst (x := 0) dX7_column_98 (by decide) ?_
                refine q_putiL dX7_column_99 flX7_112 (Or.inl rfl) (Or.inr ⟨rfl, by decide⟩) rfl (fun g22 h23 => ?_)
                have e := g_lt h23 e
                refine r_aload_n dX7_column_102 rfl rfl ?_
                refine q_getr dX7_column_103 flX7_9 rfl rfl (m_fr_64_2 _) ?_
                refine r_iload_n dX7_column_106 rfl rfl ?_
                refine q_iald dX7_column_107 rfl h15 ?_
                refine r_iconst (x := 1) dX7_column_108 (by decide) ?_
                refine r_isub dX7_column_109 ?_
                have e := Option.some.inj e
                subst e
                exact r_ret dX7_column_110 rfl rfl
              · have e := g_iT h17 e
                refine r_bipush (x := (-4)) dX7_column_67 (by decide) ?_
                have e := Option.some.inj e
                subst e
                exact r_ret dX7_column_69 rfl rfl
            · have e := g_iF h16 e
              refine r_bipush (x := (-3)) dX7_column_53 (by decide) ?_
              have e := Option.some.inj e
              subst e
              exact r_ret dX7_column_55 rfl rfl
          · have e := g_iF h14 e
            refine r_bipush (x := (-2)) dX7_column_41 (by decide) ?_
            have e := Option.some.inj e
            subst e
            exact r_ret dX7_column_43 rfl rfl
    · have e := g_iT h2 e
      refine r_aload_n dX7_column_13 rfl rfl ?_
      refine r_iload_n dX7_column_14 rfl rfl ?_
      refine q_callV (rest := []) (c_X7_isTable rfl) dX7_column_15 lkX7_99 rfl rfl rfl rfl (Nat.le_of_ble_eq_true rfl) (by decide) ?_
      refine r_ifneB (tgt := 23) dX7_column_18 (by decide) (fun h24 => ?_) (fun h24 => ?_)
      · have e := g_cT h24 e
        refine r_iload_n dX7_column_23 rfl rfl ?_
        refine r_iconst (x := 1) dX7_column_24 (by decide) ?_
        refine r_iconst (x := 4) dX7_column_25 (by decide) ?_
        refine q_callS (rest := []) (c_X7_in rfl) dX7_column_26 lkX7_95 rfl rfl (Nat.le_of_ble_eq_true rfl) (by decide) ?_
        refine r_ifeqB (tgt := 41) dX7_column_29 (by decide) (fun h25 => ?_) (fun h25 => ?_)
        · have e := g_cF h25 e
          refine r_bipush (x := (-2)) dX7_column_41 (by decide) ?_
          have e := Option.some.inj e
          subst e
          exact r_ret dX7_column_43 rfl rfl
        · have e := g_cT h25 e
          refine r_iload_n dX7_column_32 rfl rfl ?_
          refine r_iconst (x := 1) dX7_column_33 (by decide) ?_
          refine r_icmp_eq (tgt := 44) dX7_column_34 (by decide) (fun h26 => ?_) (fun h26 => ?_)
          · have e := g_iT h26 e
            refine r_aload_n dX7_column_44 rfl rfl ?_
            refine q_getr dX7_column_45 flX7_15 rfl rfl (m_fr_64_3 _) ?_
            refine r_iload_n dX7_column_48 rfl rfl ?_
            obtain ⟨h27, e⟩ := g_gd e
            refine q_iald dX7_column_49 rfl h27 ?_
            refine r_if_le (tgt := 56) dX7_column_50 (by decide) (fun h28 => ?_) (fun h28 => ?_)
            · have e := g_iT h28 e
              refine r_aload_n dX7_column_56 rfl rfl ?_
              refine q_getr dX7_column_57 flX7_9 rfl rfl (m_fr_64_2 _) ?_
              refine r_iload_n dX7_column_60 rfl rfl ?_
              refine q_iald dX7_column_61 rfl h27 ?_
              refine r_bipush (x := 6) dX7_column_62 (by decide) ?_
              refine r_icmp_ne (tgt := 70) dX7_column_64 (by decide) (fun h29 => ?_) (fun h29 => ?_)
              · have e := g_iF h29 e
                refine r_aload_n dX7_column_70 rfl rfl ?_
                refine r_bipush (x := 6) dX7_column_71 (by decide) ?_
                refine r_iload_n dX7_column_73 rfl rfl ?_
                refine r_imul dX7_column_74 ?_
                refine r_aload_n dX7_column_75 rfl rfl ?_
                refine q_getr dX7_column_76 flX7_9 rfl rfl (m_fr_64_2 _) ?_
                refine r_iload_n dX7_column_79 rfl rfl ?_
                refine q_iald dX7_column_80 rfl h27 ?_
                refine r_iadd dX7_column_81 ?_
                refine r_iload_n dX7_column_82 rfl rfl ?_
                refine r_iload_n dX7_column_83 rfl rfl ?_
                obtain ⟨v30, h31, e⟩ := g_bd e
                refine q_callV (rest := []) (c_X7_begin h31) dX7_column_84 lkX7_108 rfl rfl rfl rfl (Nat.le_of_ble_eq_true rfl) (by decide) ?_
                refine r_aload_n dX7_column_87 rfl rfl ?_
                refine q_getr dX7_column_88 flX7_9 rfl rfl (m_fr_64_2 _) ?_
                refine r_iload_n dX7_column_91 rfl rfl ?_
                refine r_dup2 dX7_column_92 ?_
                refine q_iald dX7_column_93 rfl h27 ?_
                refine r_iconst (x := 1) dX7_column_94 (by decide) ?_
                refine r_iadd dX7_column_95 ?_
                refine q_iastL dX7_column_96 rfl h27 (fun g32 h33 => ?_)
                have e := g_lt h33 e
                refine r_aload_n dX7_column_97 rfl rfl ?_
                refine r_iconst (x := 0) dX7_column_98 (by decide) ?_
                refine q_putiL dX7_column_99 flX7_112 (Or.inl rfl) (Or.inr ⟨rfl, by decide⟩) rfl (fun g34 h35 => ?_)
                have e := g_lt h35 e
                refine r_aload_n dX7_column_102 rfl rfl ?_
                refine q_getr dX7_column_103 flX7_9 rfl rfl (m_fr_64_2 _) ?_
                refine r_iload_n dX7_column_106 rfl rfl ?_
                refine q_iald dX7_column_107 rfl h27 ?_
                refine r_iconst (x := 1) dX7_column_108 (by decide) ?_
                refine r_isub dX7_column_109 ?_
                have e := Option.some.inj e
                subst e
                exact r_ret dX7_column_110 rfl rfl
              · have e := g_iT h29 e
                refine r_bipush (x := (-4)) dX7_column_67 (by decide) ?_
                have e := Option.some.inj e
                subst e
                exact r_ret dX7_column_69 rfl rfl
            · have e := g_iF h28 e
              refine r_bipush (x := (-3)) dX7_column_53 (by decide) ?_
              have e := Option.some.inj e
              subst e
              exact r_ret dX7_column_55 rfl rfl
          · have e := g_iF h26 e
            refine r_iload_n dX7_column_37 rfl rfl ?_
            refine r_if_eq (tgt := 44) dX7_column_38 (by decide) (fun h36 => ?_) (fun h36 => ?_)
            · have e := g_iT h36 e
              refine r_aload_n dX7_column_44 rfl rfl ?_
              refine q_getr dX7_column_45 flX7_15 rfl rfl (m_fr_64_3 _) ?_
              refine r_iload_n dX7_column_48 rfl rfl ?_
              obtain ⟨h37, e⟩ := g_gd e
              refine q_iald dX7_column_49 rfl h37 ?_
              refine r_if_le (tgt := 56) dX7_column_50 (by decide) (fun h38 => ?_) (fun h38 => ?_)
              · have e := g_iT h38 e
                refine r_aload_n dX7_column_56 rfl rfl ?_
                refine q_getr dX7_column_57 flX7_9 rfl rfl (m_fr_64_2 _) ?_
                refine r_iload_n dX7_column_60 rfl rfl ?_
                refine q_iald dX7_column_61 rfl h37 ?_
                refine r_bipush (x := 6) dX7_column_62 (by decide) ?_
                refine r_icmp_ne (tgt := 70) dX7_column_64 (by decide) (fun h39 => ?_) (fun h39 => ?_)
                · have e := g_iF h39 e
                  refine r_aload_n dX7_column_70 rfl rfl ?_
                  refine r_bipush (x := 6) dX7_column_71 (by decide) ?_
                  refine r_iload_n dX7_column_73 rfl rfl ?_
                  refine r_imul dX7_column_74 ?_
                  refine r_aload_n dX7_column_75 rfl rfl ?_
                  refine q_getr dX7_column_76 flX7_9 rfl rfl (m_fr_64_2 _) ?_
                  refine r_iload_n dX7_column_79 rfl rfl ?_
                  refine q_iald dX7_column_80 rfl h37 ?_
                  refine r_iadd dX7_column_81 ?_
                  refine r_iload_n dX7_column_82 rfl rfl ?_
                  refine r_iload_n dX7_column_83 rfl rfl ?_
                  obtain ⟨v40, h41, e⟩ := g_bd e
                  refine q_callV (rest := []) (c_X7_begin h41) dX7_column_84 lkX7_108 rfl rfl rfl rfl (Nat.le_of_ble_eq_true rfl) (by decide) ?_
                  refine r_aload_n dX7_column_87 rfl rfl ?_
                  refine q_getr dX7_column_88 flX7_9 rfl rfl (m_fr_64_2 _) ?_
                  refine r_iload_n dX7_column_91 rfl rfl ?_
                  refine r_dup2 dX7_column_92 ?_
                  refine q_iald dX7_column_93 rfl h37 ?_
                  refine r_iconst (x := 1) dX7_column_94 (by decide) ?_
                  refine r_iadd dX7_column_95 ?_
                  refine q_iastL dX7_column_96 rfl h37 (fun g42 h43 => ?_)
                  have e := g_lt h43 e
                  refine r_aload_n dX7_column_97 rfl rfl ?_
                  refine r_iconst (x := 0) dX7_column_98 (by decide) ?_
                  refine q_putiL dX7_column_99 flX7_112 (Or.inl rfl) (Or.inr ⟨rfl, by decide⟩) rfl (fun g44 h45 => ?_)
                  have e := g_lt h45 e
                  refine r_aload_n dX7_column_102 rfl rfl ?_
                  refine q_getr dX7_column_103 flX7_9 rfl rfl (m_fr_64_2 _) ?_
                  refine r_iload_n dX7_column_106 rfl rfl ?_
                  refine q_iald dX7_column_107 rfl h37 ?_
                  refine r_iconst (x := 1) dX7_column_108 (by decide) ?_
                  refine r_isub dX7_column_109 ?_
                  have e := Option.some.inj e
                  subst e
                  exact r_ret dX7_column_110 rfl rfl
                · have e := g_iT h39 e
                  refine r_bipush (x := (-4)) dX7_column_67 (by decide) ?_
                  have e := Option.some.inj e
                  subst e
                  exact r_ret dX7_column_69 rfl rfl
              · have e := g_iF h38 e
                refine r_bipush (x := (-3)) dX7_column_53 (by decide) ?_
                have e := Option.some.inj e
                subst e
                exact r_ret dX7_column_55 rfl rfl
            · have e := g_iF h36 e
              refine r_bipush (x := (-2)) dX7_column_41 (by decide) ?_
              have e := Option.some.inj e
              subst e
              exact r_ret dX7_column_43 rfl rfl
      · have e := g_cF h24 e
        refine r_iconst (x := (-1)) dX7_column_21 (by decide) ?_
        have e := Option.some.inj e
        subst e
        exact r_ret dX7_column_22 rfl rfl
/-! X7_cell_ -/
def f_X7_cell_ (g : (Nat → Nat → Int32)) (a1 : Int32) : Option (Int32 × (Nat → Nat → Int32)) :=
  (if (g 64 19) = 6 then
some ((-4), g)
else
(if m_in (g 64 19) 6 then
(m_let (m_up g 79 (g 64 19).toNatClampNeg a1) fun g3 =>
(m_let (m_up g3 64 19 ((g3 64 19) + 1)) fun g5 =>
some ((g5 64 19), g5))) else none))
set_option maxRecDepth 100000 in
set_option maxHeartbeats 4000000 in
theorem c_X7_cell_ {G : mG} {g : (Nat → Nat → Int32)} {b : Bool} {a1 : Int32} {R : (Int32 × (Nat → Nat → Int32))} (e : f_X7_cell_ g a1 = some R) : MC G mX7_cell_ 0 0 0 [.ref 64, .int a1] (m_h g b) (some (.int R.1)) (m_h R.2 b) := by
  refine MC_intro mlX7_cell_ (Nat.le_of_ble_eq_true rfl) ⟨_, rfl⟩ rfl trivial ?_
  unfold f_X7_cell_ at e
  refine r_aload_n dX7_cell__0 rfl rfl ?_
  refine q_geti dX7_cell__1 flX7_116 rfl rfl ?_
  refine r_bipush (x := 6) dX7_cell__4 (by decide) ?_
  refine r_icmp_ne (tgt := 12) dX7_cell__6 (by decide) (fun h1 => ?_) (fun h1 => ?_)
  · have e := g_iF h1 e
    refine r_aload_n dX7_cell__12 rfl rfl ?_
    refine q_getr dX7_cell__13 flX7_54 rfl rfl (m_fr_64_18 _) ?_
    refine r_aload_n dX7_cell__16 rfl rfl ?_
    refine q_geti dX7_cell__17 flX7_116 rfl rfl ?_
    refine r_iload_n dX7_cell__20 rfl rfl ?_
    obtain ⟨h2, e⟩ := g_gd e
    refine q_iastL dX7_cell__21 rfl h2 (fun g3 h4 => ?_)
    have e := g_lt h4 e
    refine r_aload_n dX7_cell__22 rfl rfl ?_
    refine r_dup dX7_cell__23 ?_
    refine q_geti dX7_cell__24 flX7_116 rfl rfl ?_
    refine r_iconst (x := 1) dX7_cell__27 (by decide) ?_
    refine r_iadd dX7_cell__28 ?_
    refine q_putiL dX7_cell__29 flX7_116 (Or.inl rfl) (Or.inl rfl) rfl (fun g5 h6 => ?_)
    have e := g_lt h6 e
    refine r_aload_n dX7_cell__32 rfl rfl ?_
    refine q_geti dX7_cell__33 flX7_116 rfl rfl ?_
    have e := Option.some.inj e
    subst e
    exact r_ret dX7_cell__36 rfl rfl
  · have e := g_iT h1 e
    refine r_bipush (x := (-4)) dX7_cell__9 (by decide) ?_
    have e := Option.some.inj e
    subst e
    exact r_ret dX7_cell__11 rfl rfl
/-! X7_wipe -/
def f_X7_wipe (g : (Nat → Nat → Int32)) : Option (Int32 × (Nat → Nat → Int32)) :=
  (m_let (m_up g 64 19 0) fun g1 =>
some ((g 64 19), g1))
set_option maxRecDepth 100000 in
set_option maxHeartbeats 4000000 in
theorem c_X7_wipe {G : mG} {g : (Nat → Nat → Int32)} {b : Bool} {R : (Int32 × (Nat → Nat → Int32))} (e : f_X7_wipe g = some R) : MC G mX7_wipe 0 0 0 [.ref 64] (m_h g b) (some (.int R.1)) (m_h R.2 b) := by
  refine MC_intro mlX7_wipe (Nat.le_of_ble_eq_true rfl) ⟨_, rfl⟩ rfl trivial ?_
  unfold f_X7_wipe at e
  refine r_aload_n dX7_wipe_0 rfl rfl ?_
  refine q_geti dX7_wipe_1 flX7_116 rfl rfl ?_
  refine r_istore_n dX7_wipe_4 rfl (by decide) rfl ?_
  refine r_aload_n dX7_wipe_5 rfl rfl ?_
  refine r_iconst (x := 0) dX7_wipe_6 (by decide) ?_
  refine q_putiL dX7_wipe_7 flX7_116 (Or.inl rfl) (Or.inl rfl) rfl (fun g1 h2 => ?_)
  have e := g_lt h2 e
  refine r_iload_n dX7_wipe_10 rfl rfl ?_
  have e := Option.some.inj e
  subst e
  exact r_ret dX7_wipe_11 rfl rfl
/-! X7_isOf -/
def f_X7_isOf (a1 : Int32) (a2 : Int32) : Bool :=
  (if a2 = (-2147483648) then
(if a1 = 0 then
false
else
true)
else
(if a1 = 2 then
(f_X7_in a2 0 9999)
else
(if a1 = 3 then
(f_X7_in a2 (-9999) 9999)
else
(if a1 = 4 then
(f_X7_in a2 0 99)
else
(f_X7_isKey a2)))))
set_option maxRecDepth 100000 in
set_option maxHeartbeats 4000000 in
theorem c_X7_isOf {G : mG} {g : (Nat → Nat → Int32)} {b : Bool} {a1 : Int32} {a2 : Int32} {R : Bool} (e : f_X7_isOf a1 a2 = R) : MC G mX7_isOf 2 0 0 [.int a1, .int a2] (m_h g b) (some (.int (m_bi R))) (m_h g b) := by
  refine MC_intro mlX7_isOf (Nat.le_of_ble_eq_true rfl) (m_okZ _) rfl trivial ?_
  unfold f_X7_isOf at e
  refine r_iload_n dX7_isOf_0 rfl rfl ?_
  refine r_ldc (x := (-2147483648)) dX7_isOf_1 kcX7_119 ?_
  refine r_icmp_ne (tgt := 16) dX7_isOf_3 (by decide) (fun h1 => ?_) (fun h1 => ?_)
  · have e := g_iF h1 e
    refine r_iload_n dX7_isOf_16 rfl rfl ?_
    by_cases h2 : a1 = 2
    · have e := g_iT h2 e
      refine r_tabIn (off := 27) (tgt := 44) dX7_isOf_17 (by rw [h2]; decide) (by rw [h2]; decide) (by rw [h2]; decide) (by decide) ?_
      refine r_iload_n dX7_isOf_44 rfl rfl ?_
      refine r_iconst (x := 0) dX7_isOf_45 (by decide) ?_
      refine r_sipush (x := 9999) dX7_isOf_46 (by decide) ?_
      refine q_callS (rest := []) (c_X7_in rfl) dX7_isOf_49 lkX7_95 rfl rfl (Nat.le_of_ble_eq_true rfl) (by decide) ?_
      subst e
      exact r_ret dX7_isOf_52 rfl rfl
    have e := g_iF h2 e
    by_cases h3 : a1 = 3
    · have e := g_iT h3 e
      refine r_tabIn (off := 36) (tgt := 53) dX7_isOf_17 (by rw [h3]; decide) (by rw [h3]; decide) (by rw [h3]; decide) (by decide) ?_
      refine r_iload_n dX7_isOf_53 rfl rfl ?_
      refine r_sipush (x := (-9999)) dX7_isOf_54 (by decide) ?_
      refine r_sipush (x := 9999) dX7_isOf_57 (by decide) ?_
      refine q_callS (rest := []) (c_X7_in rfl) dX7_isOf_60 lkX7_95 rfl rfl (Nat.le_of_ble_eq_true rfl) (by decide) ?_
      subst e
      exact r_ret dX7_isOf_63 rfl rfl
    have e := g_iF h3 e
    by_cases h4 : a1 = 4
    · have e := g_iT h4 e
      refine r_tabIn (off := 47) (tgt := 64) dX7_isOf_17 (by rw [h4]; decide) (by rw [h4]; decide) (by rw [h4]; decide) (by decide) ?_
      refine r_iload_n dX7_isOf_64 rfl rfl ?_
      refine r_iconst (x := 0) dX7_isOf_65 (by decide) ?_
      refine r_bipush (x := 99) dX7_isOf_66 (by decide) ?_
      refine q_callS (rest := []) (c_X7_in rfl) dX7_isOf_68 lkX7_95 rfl rfl (Nat.le_of_ble_eq_true rfl) (by decide) ?_
      subst e
      exact r_ret dX7_isOf_71 rfl rfl
    have e := g_iF h4 e
    refine r_tabOut (tgt := 72) dX7_isOf_17 (m_swOut2_3 h2 h3 h4) (by decide) ?_
    refine r_iload_n dX7_isOf_72 rfl rfl ?_
    refine q_callS (rest := []) (c_X7_isKey rfl) dX7_isOf_73 lkX7_120 rfl rfl (Nat.le_of_ble_eq_true rfl) (by decide) ?_
    subst e
    exact r_ret dX7_isOf_76 rfl rfl
  · have e := g_iT h1 e
    refine r_iload_n dX7_isOf_6 rfl rfl ?_
    refine r_if_eq (tgt := 14) dX7_isOf_7 (by decide) (fun h5 => ?_) (fun h5 => ?_)
    · have e := g_iT h5 e
      refine r_iconst (x := 0) dX7_isOf_14 (by decide) ?_
      subst e
      exact r_ret dX7_isOf_15 rfl rfl
    · have e := g_iF h5 e
      refine r_iconst (x := 1) dX7_isOf_10 (by decide) ?_
      refine r_goto (tgt := 15) dX7_isOf_11 (by decide) ?_
      subst e
      exact r_ret dX7_isOf_15 rfl rfl
/-! X7_row -/
def lp_X7_row_125 (a1 : Int32) (gx28 : (Nat → Nat → Int32)) (k28 : (Int32 → Option (Int32 × (Nat → Nat → Int32)))) (k70 : (Int32 → Option (Int32 × (Nat → Nat → Int32)))) : Nat → Int32 → (Nat → Nat → Int32) → Option (Int32 × (Nat → Nat → Int32))
  | 0, _, _ => none
  | n + 1, y125_2, g125 =>
  (if (g125 64 19) ≤ y125_2 then
(if m_in a1 4 then
(m_let (m_up g125 66 a1.toNatClampNeg ((g125 66 a1.toNatClampNeg) + 1)) fun g125003 =>
(m_let (m_up g125003 64 19 0) fun g125005 =>
(m_let (m_up g125005 64 16 0) fun g125007 =>
some (((g125007 66 a1.toNatClampNeg) - 1), g125007)))) else none)
else
(if m_in a1 4 then
(if m_in y125_2 6 then
(if m_in (f_X7_cell a1 (g125 66 a1.toNatClampNeg) y125_2) 288 then
(m_let (m_up g125 76 (f_X7_cell a1 (g125 66 a1.toNatClampNeg) y125_2).toNatClampNeg (g125 79 y125_2.toNatClampNeg)) fun g125012 =>
lp_X7_row_125 a1 gx28 k28 k70 n (y125_2 + 1) g125012) else none) else none) else none))
def lp_X7_row_70 (a1 : Int32) (gx28 : (Nat → Nat → Int32)) (k28 : (Int32 → Option (Int32 × (Nat → Nat → Int32)))) : Nat → Int32 → Option (Int32 × (Nat → Nat → Int32))
  | 0, _ => none
  | n + 1, y70_2 =>
  (if m_in a1 4 then
(if (gx28 66 a1.toNatClampNeg) ≤ y70_2 then
(if (gx28 66 a1.toNatClampNeg) = 12 then
some ((-4), gx28)
else
lp_X7_row_125 a1 gx28 k28 (fun y70_2 => lp_X7_row_70 a1 gx28 k28 n y70_2) 2000 0 gx28)
else
(if m_in (f_X7_cell a1 y70_2 0) 288 then
(if (gx28 76 (f_X7_cell a1 y70_2 0).toNatClampNeg) = (gx28 79 0) then
some ((-3), gx28)
else
lp_X7_row_70 a1 gx28 k28 n (y70_2 + 1)) else none)) else none)
def lp_X7_row_28 (a1 : Int32) (gx28 : (Nat → Nat → Int32)) : Nat → Int32 → Option (Int32 × (Nat → Nat → Int32))
  | 0, _ => none
  | n + 1, y28_2 =>
  (if (gx28 64 19) ≤ y28_2 then
lp_X7_row_70 a1 gx28 (fun y28_2 => lp_X7_row_28 a1 gx28 n y28_2) 2000 0
else
(if m_in ((6 * a1) + y28_2) 24 then
(if m_in y28_2 6 then
(bif (f_X7_isOf (gx28 68 ((6 * a1) + y28_2).toNatClampNeg) (gx28 79 y28_2.toNatClampNeg)) then
lp_X7_row_28 a1 gx28 n (y28_2 + 1)
else
some ((-2), gx28)) else none) else none))
def f_X7_row (g : (Nat → Nat → Int32)) (a1 : Int32) : Option (Int32 × (Nat → Nat → Int32)) :=
  (bif (f_X7_isTable g a1) then
(if m_in a1 4 then
(if (g 64 19) = (g 65 a1.toNatClampNeg) then
lp_X7_row_28 a1 g 2000 0
else
some ((-2), g)) else none)
else
some ((-1), g))
set_option maxRecDepth 100000 in
set_option maxHeartbeats 4000000 in
theorem w_X7_row_125 {G : mG} {b : Bool} {a1 : Int32} {gx28 : (Nat → Nat → Int32)} {k28 : (Int32 → Option (Int32 × (Nat → Nat → Int32)))} {k70 : (Int32 → Option (Int32 × (Nat → Nat → Int32)))} (hk28 : ∀ (y28_2 : Int32) (R : (Int32 × (Nat → Nat → Int32))), k28 y28_2 = some R → MW G mX7_row 3 0 0 28 [.ref 64, .int a1, .int y28_2] [] (m_h gx28 b) (some (.int R.1)) (m_h R.2 b)) (hk70 : ∀ (y70_2 : Int32) (R : (Int32 × (Nat → Nat → Int32))), k70 y70_2 = some R → MW G mX7_row 3 0 0 70 [.ref 64, .int a1, .int y70_2] [] (m_h gx28 b) (some (.int R.1)) (m_h R.2 b)) : ∀ (n : Nat) (y125_2 : Int32) (g125 : (Nat → Nat → Int32)) (R : (Int32 × (Nat → Nat → Int32))), lp_X7_row_125 a1 gx28 k28 k70 n y125_2 g125 = some R → MW G mX7_row 3 0 0 125 [.ref 64, .int a1, .int y125_2] [] (m_h g125 b) (some (.int R.1)) (m_h R.2 b)
  | 0, _, _, R, e => absurd (show (none : Option (Int32 × (Nat → Nat → Int32))) = some R from e) (fun h => by cases h)
  | n + 1, y125_2, g125, R, e => by
    rw [lp_X7_row_125] at e
    refine r_iload_n dX7_row_125 rfl rfl ?_
    refine r_aload_n dX7_row_126 rfl rfl ?_
    refine q_geti dX7_row_127 flX7_116 rfl rfl ?_
    refine r_icmp_ge (tgt := 161) dX7_row_130 (by decide) (fun h125001 => ?_) (fun h125001 => ?_)
    · have e := g_iT h125001 e
      refine r_aload_n dX7_row_161 rfl rfl ?_
      refine q_getr dX7_row_162 flX7_15 rfl rfl (m_fr_64_3 _) ?_
      refine r_iload_n dX7_row_165 rfl rfl ?_
      refine r_dup2 dX7_row_166 ?_
      obtain ⟨h125002, e⟩ := g_gd e
      refine q_iald dX7_row_167 rfl h125002 ?_
      refine r_iconst (x := 1) dX7_row_168 (by decide) ?_
      refine r_iadd dX7_row_169 ?_
      refine q_iastL dX7_row_170 rfl h125002 (fun g125003 h125004 => ?_)
      have e := g_lt h125004 e
      refine r_aload_n dX7_row_171 rfl rfl ?_
      refine r_iconst (x := 0) dX7_row_172 (by decide) ?_
      refine q_putiL dX7_row_173 flX7_116 (Or.inl rfl) (Or.inl rfl) rfl (fun g125005 h125006 => ?_)
      have e := g_lt h125006 e
      refine r_aload_n dX7_row_176 rfl rfl ?_
      refine r_iconst (x := 0) dX7_row_177 (by decide) ?_
      refine q_putiL dX7_row_178 flX7_112 (Or.inl rfl) (Or.inr ⟨rfl, by decide⟩) rfl (fun g125007 h125008 => ?_)
      have e := g_lt h125008 e
      refine r_aload_n dX7_row_181 rfl rfl ?_
      refine q_getr dX7_row_182 flX7_15 rfl rfl (m_fr_64_3 _) ?_
      refine r_iload_n dX7_row_185 rfl rfl ?_
      refine q_iald dX7_row_186 rfl h125002 ?_
      refine r_iconst (x := 1) dX7_row_187 (by decide) ?_
      refine r_isub dX7_row_188 ?_
      have e := Option.some.inj e
      subst e
      exact r_ret dX7_row_189 rfl rfl
    · have e := g_iF h125001 e
      refine r_aload_n dX7_row_133 rfl rfl ?_
      refine q_getr dX7_row_134 flX7_45 rfl rfl (m_fr_64_14 _) ?_
      refine r_iload_n dX7_row_137 rfl rfl ?_
      refine r_aload_n dX7_row_138 rfl rfl ?_
      refine q_getr dX7_row_139 flX7_15 rfl rfl (m_fr_64_3 _) ?_
      refine r_iload_n dX7_row_142 rfl rfl ?_
      obtain ⟨h125009, e⟩ := g_gd e
      refine q_iald dX7_row_143 rfl h125009 ?_
      refine r_iload_n dX7_row_144 rfl rfl ?_
      refine q_callS (rest := [.ref 76]) (c_X7_cell rfl) dX7_row_145 lkX7_127 rfl rfl (Nat.le_of_ble_eq_true rfl) (by decide) ?_
      refine r_aload_n dX7_row_148 rfl rfl ?_
      refine q_getr dX7_row_149 flX7_54 rfl rfl (m_fr_64_18 _) ?_
      refine r_iload_n dX7_row_152 rfl rfl ?_
      obtain ⟨h125010, e⟩ := g_gd e
      refine q_iald dX7_row_153 rfl h125010 ?_
      obtain ⟨h125011, e⟩ := g_gd e
      refine q_iastL dX7_row_154 rfl h125011 (fun g125012 h125013 => ?_)
      have e := g_lt h125013 e
      refine r_iinc (y := 1) dX7_row_155 rfl (by decide) (by decide) rfl ?_
      refine r_goto (tgt := 125) dX7_row_158 (by decide) ?_
      exact w_X7_row_125 hk28 hk70 n _ _ R e
set_option maxRecDepth 100000 in
set_option maxHeartbeats 4000000 in
theorem w_X7_row_70 {G : mG} {b : Bool} {a1 : Int32} {gx28 : (Nat → Nat → Int32)} {k28 : (Int32 → Option (Int32 × (Nat → Nat → Int32)))} (hk28 : ∀ (y28_2 : Int32) (R : (Int32 × (Nat → Nat → Int32))), k28 y28_2 = some R → MW G mX7_row 3 0 0 28 [.ref 64, .int a1, .int y28_2] [] (m_h gx28 b) (some (.int R.1)) (m_h R.2 b)) : ∀ (n : Nat) (y70_2 : Int32) (R : (Int32 × (Nat → Nat → Int32))), lp_X7_row_70 a1 gx28 k28 n y70_2 = some R → MW G mX7_row 3 0 0 70 [.ref 64, .int a1, .int y70_2] [] (m_h gx28 b) (some (.int R.1)) (m_h R.2 b)
  | 0, _, R, e => absurd (show (none : Option (Int32 × (Nat → Nat → Int32))) = some R from e) (fun h => by cases h)
  | n + 1, y70_2, R, e => by
    rw [lp_X7_row_70] at e
    refine r_iload_n dX7_row_70 rfl rfl ?_
    refine r_aload_n dX7_row_71 rfl rfl ?_
    refine q_getr dX7_row_72 flX7_15 rfl rfl (m_fr_64_3 _) ?_
    refine r_iload_n dX7_row_75 rfl rfl ?_
    obtain ⟨h70001, e⟩ := g_gd e
    refine q_iald dX7_row_76 rfl h70001 ?_
    refine r_icmp_ge (tgt := 109) dX7_row_77 (by decide) (fun h70002 => ?_) (fun h70002 => ?_)
    · have e := g_iT h70002 e
      refine r_aload_n dX7_row_109 rfl rfl ?_
      refine q_getr dX7_row_110 flX7_15 rfl rfl (m_fr_64_3 _) ?_
      refine r_iload_n dX7_row_113 rfl rfl ?_
      refine q_iald dX7_row_114 rfl h70001 ?_
      refine r_bipush (x := 12) dX7_row_115 (by decide) ?_
      refine r_icmp_ne (tgt := 123) dX7_row_117 (by decide) (fun h70003 => ?_) (fun h70003 => ?_)
      · have e := g_iF h70003 e
        refine r_iconst (x := 0) dX7_row_123 (by decide) ?_
        refine r_istore_n dX7_row_124 rfl (by decide) rfl ?_
        exact w_X7_row_125 hk28 (fun y70_2 R e => w_X7_row_70 hk28 n y70_2 R e) 2000 _ _ R e
      · have e := g_iT h70003 e
        refine r_bipush (x := (-4)) dX7_row_120 (by decide) ?_
        have e := Option.some.inj e
        subst e
        exact r_ret dX7_row_122 rfl rfl
    · have e := g_iF h70002 e
      refine r_aload_n dX7_row_80 rfl rfl ?_
      refine q_getr dX7_row_81 flX7_45 rfl rfl (m_fr_64_14 _) ?_
      refine r_iload_n dX7_row_84 rfl rfl ?_
      refine r_iload_n dX7_row_85 rfl rfl ?_
      refine r_iconst (x := 0) dX7_row_86 (by decide) ?_
      refine q_callS (rest := [.ref 76]) (c_X7_cell rfl) dX7_row_87 lkX7_127 rfl rfl (Nat.le_of_ble_eq_true rfl) (by decide) ?_
      obtain ⟨h70004, e⟩ := g_gd e
      refine q_iald dX7_row_90 rfl h70004 ?_
      refine r_aload_n dX7_row_91 rfl rfl ?_
      refine q_getr dX7_row_92 flX7_54 rfl rfl (m_fr_64_18 _) ?_
      refine r_iconst (x := 0) dX7_row_95 (by decide) ?_
      refine q_iald dX7_row_96 rfl (by decide) ?_
      refine r_icmp_ne (tgt := 103) dX7_row_97 (by decide) (fun h70005 => ?_) (fun h70005 => ?_)
      · have e := g_iF h70005 e
        refine r_iinc (y := 1) dX7_row_103 rfl (by decide) (by decide) rfl ?_
        refine r_goto (tgt := 70) dX7_row_106 (by decide) ?_
        exact w_X7_row_70 hk28 n _ R e
      · have e := g_iT h70005 e
        refine r_bipush (x := (-3)) dX7_row_100 (by decide) ?_
        have e := Option.some.inj e
        subst e
        exact r_ret dX7_row_102 rfl rfl
set_option maxRecDepth 100000 in
set_option maxHeartbeats 4000000 in
theorem w_X7_row_28 {G : mG} {b : Bool} {a1 : Int32} {gx28 : (Nat → Nat → Int32)} : ∀ (n : Nat) (y28_2 : Int32) (R : (Int32 × (Nat → Nat → Int32))), lp_X7_row_28 a1 gx28 n y28_2 = some R → MW G mX7_row 3 0 0 28 [.ref 64, .int a1, .int y28_2] [] (m_h gx28 b) (some (.int R.1)) (m_h R.2 b)
  | 0, _, R, e => absurd (show (none : Option (Int32 × (Nat → Nat → Int32))) = some R from e) (fun h => by cases h)
  | n + 1, y28_2, R, e => by
    rw [lp_X7_row_28] at e
    refine r_iload_n dX7_row_28 rfl rfl ?_
    refine r_aload_n dX7_row_29 rfl rfl ?_
    refine q_geti dX7_row_30 flX7_116 rfl rfl ?_
    refine r_icmp_ge (tgt := 68) dX7_row_33 (by decide) (fun h28001 => ?_) (fun h28001 => ?_)
    · have e := g_iT h28001 e
      refine r_iconst (x := 0) dX7_row_68 (by decide) ?_
      refine r_istore_n dX7_row_69 rfl (by decide) rfl ?_
      exact w_X7_row_70 (fun y28_2 R e => w_X7_row_28 n y28_2 R e) 2000 _ R e
    · have e := g_iF h28001 e
      refine r_aload_n dX7_row_36 rfl rfl ?_
      refine q_getr dX7_row_37 flX7_21 rfl rfl (m_fr_64_5 _) ?_
      refine r_bipush (x := 6) dX7_row_40 (by decide) ?_
      refine r_iload_n dX7_row_42 rfl rfl ?_
      refine r_imul dX7_row_43 ?_
      refine r_iload_n dX7_row_44 rfl rfl ?_
      refine r_iadd dX7_row_45 ?_
      obtain ⟨h28002, e⟩ := g_gd e
      refine q_iald dX7_row_46 rfl h28002 ?_
      refine r_aload_n dX7_row_47 rfl rfl ?_
      refine q_getr dX7_row_48 flX7_54 rfl rfl (m_fr_64_18 _) ?_
      refine r_iload_n dX7_row_51 rfl rfl ?_
      obtain ⟨h28003, e⟩ := g_gd e
      refine q_iald dX7_row_52 rfl h28003 ?_
      refine q_callS (rest := []) (c_X7_isOf rfl) dX7_row_53 lkX7_123 rfl rfl (Nat.le_of_ble_eq_true rfl) (by decide) ?_
      refine r_ifneB (tgt := 62) dX7_row_56 (by decide) (fun h28004 => ?_) (fun h28004 => ?_)
      · have e := g_cT h28004 e
        refine r_iinc (y := 1) dX7_row_62 rfl (by decide) (by decide) rfl ?_
        refine r_goto (tgt := 28) dX7_row_65 (by decide) ?_
        exact w_X7_row_28 n _ R e
      · have e := g_cF h28004 e
        refine r_bipush (x := (-2)) dX7_row_59 (by decide) ?_
        have e := Option.some.inj e
        subst e
        exact r_ret dX7_row_61 rfl rfl
set_option maxRecDepth 100000 in
set_option maxHeartbeats 4000000 in
theorem c_X7_row {G : mG} {g : (Nat → Nat → Int32)} {b : Bool} {a1 : Int32} {R : (Int32 × (Nat → Nat → Int32))} (e : f_X7_row g a1 = some R) : MC G mX7_row 3 0 0 [.ref 64, .int a1] (m_h g b) (some (.int R.1)) (m_h R.2 b) := by
  refine MC_intro mlX7_row (Nat.le_of_ble_eq_true rfl) ⟨_, rfl⟩ rfl trivial ?_
  unfold f_X7_row at e
  refine r_aload_n dX7_row_0 rfl rfl ?_
  refine r_iload_n dX7_row_1 rfl rfl ?_
  refine q_callV (rest := []) (c_X7_isTable rfl) dX7_row_2 lkX7_99 rfl rfl rfl rfl (Nat.le_of_ble_eq_true rfl) (by decide) ?_
  refine r_ifneB (tgt := 10) dX7_row_5 (by decide) (fun h1 => ?_) (fun h1 => ?_)
  · have e := g_cT h1 e
    refine r_aload_n dX7_row_10 rfl rfl ?_
    refine q_geti dX7_row_11 flX7_116 rfl rfl ?_
    refine r_aload_n dX7_row_14 rfl rfl ?_
    refine q_getr dX7_row_15 flX7_9 rfl rfl (m_fr_64_2 _) ?_
    refine r_iload_n dX7_row_18 rfl rfl ?_
    obtain ⟨h2, e⟩ := g_gd e
    refine q_iald dX7_row_19 rfl h2 ?_
    refine r_icmp_eq (tgt := 26) dX7_row_20 (by decide) (fun h3 => ?_) (fun h3 => ?_)
    · have e := g_iT h3 e
      refine r_iconst (x := 0) dX7_row_26 (by decide) ?_
      refine r_istore_n dX7_row_27 rfl (by decide) rfl ?_
      exact w_X7_row_28 2000 _ R e
    · have e := g_iF h3 e
      refine r_bipush (x := (-2)) dX7_row_23 (by decide) ?_
      have e := Option.some.inj e
      subst e
      exact r_ret dX7_row_25 rfl rfl
  · have e := g_cF h1 e
    refine r_iconst (x := (-1)) dX7_row_8 (by decide) ?_
    have e := Option.some.inj e
    subst e
    exact r_ret dX7_row_9 rfl rfl
/-! X7_owner -/
def f_X7_owner (g : (Nat → Nat → Int32)) (a1 : Int32) (a2 : Int32) : Option (Int32 × (Nat → Nat → Int32)) :=
  ((f_X7_isColumn g a1 a2).bind fun v1 =>
(bif v1 then
(if a2 = 0 then
(if m_in a1 4 then
(m_let (m_up g 67 a1.toNatClampNeg a2) fun g6 =>
some ((g 67 a1.toNatClampNeg), g6)) else none)
else
(if m_in ((6 * a1) + a2) 24 then
(if (g 68 ((6 * a1) + a2).toNatClampNeg) = 1 then
(if m_in a1 4 then
(m_let (m_up g 67 a1.toNatClampNeg a2) fun g11 =>
some ((g 67 a1.toNatClampNeg), g11)) else none)
else
some ((-2), g)) else none))
else
some ((-1), g)))
set_option maxRecDepth 100000 in
set_option maxHeartbeats 4000000 in
theorem c_X7_owner {G : mG} {g : (Nat → Nat → Int32)} {b : Bool} {a1 : Int32} {a2 : Int32} {R : (Int32 × (Nat → Nat → Int32))} (e : f_X7_owner g a1 a2 = some R) : MC G mX7_owner 3 0 0 [.ref 64, .int a1, .int a2] (m_h g b) (some (.int R.1)) (m_h R.2 b) := by
  refine MC_intro mlX7_owner (Nat.le_of_ble_eq_true rfl) ⟨_, rfl⟩ rfl trivial ?_
  unfold f_X7_owner at e
  refine r_aload_n dX7_owner_0 rfl rfl ?_
  refine r_iload_n dX7_owner_1 rfl rfl ?_
  refine r_iload_n dX7_owner_2 rfl rfl ?_
  obtain ⟨v1, h2, e⟩ := g_bd e
  refine q_callV (rest := []) (c_X7_isColumn h2) dX7_owner_3 lkX7_131 rfl rfl rfl rfl (Nat.le_of_ble_eq_true rfl) (by decide) ?_
  refine r_ifneB (tgt := 11) dX7_owner_6 (by decide) (fun h3 => ?_) (fun h3 => ?_)
  · have e := g_cT h3 e
    refine r_iload_n dX7_owner_11 rfl rfl ?_
    refine r_if_eq (tgt := 33) dX7_owner_12 (by decide) (fun h4 => ?_) (fun h4 => ?_)
    · have e := g_iT h4 e
      refine r_aload_n dX7_owner_33 rfl rfl ?_
      refine q_getr dX7_owner_34 flX7_18 rfl rfl (m_fr_64_4 _) ?_
      refine r_iload_n dX7_owner_37 rfl rfl ?_
      obtain ⟨h5, e⟩ := g_gd e
      refine q_iald dX7_owner_38 rfl h5 ?_
      refine r_istore_n dX7_owner_39 rfl (by decide) rfl ?_
      refine r_aload_n dX7_owner_40 rfl rfl ?_
      refine q_getr dX7_owner_41 flX7_18 rfl rfl (m_fr_64_4 _) ?_
      refine r_iload_n dX7_owner_44 rfl rfl ?_
      refine r_iload_n dX7_owner_45 rfl rfl ?_
      refine q_iastL dX7_owner_46 rfl h5 (fun g6 h7 => ?_)
      have e := g_lt h7 e
      refine r_iload_n dX7_owner_47 rfl rfl ?_
      have e := Option.some.inj e
      subst e
      exact r_ret dX7_owner_48 rfl rfl
    · have e := g_iF h4 e
      refine r_aload_n dX7_owner_15 rfl rfl ?_
      refine q_getr dX7_owner_16 flX7_21 rfl rfl (m_fr_64_5 _) ?_
      refine r_bipush (x := 6) dX7_owner_19 (by decide) ?_
      refine r_iload_n dX7_owner_21 rfl rfl ?_
      refine r_imul dX7_owner_22 ?_
      refine r_iload_n dX7_owner_23 rfl rfl ?_
      refine r_iadd dX7_owner_24 ?_
      obtain ⟨h8, e⟩ := g_gd e
      refine q_iald dX7_owner_25 rfl h8 ?_
      refine r_iconst (x := 1) dX7_owner_26 (by decide) ?_
      refine r_icmp_eq (tgt := 33) dX7_owner_27 (by decide) (fun h9 => ?_) (fun h9 => ?_)
      · have e := g_iT h9 e
        refine r_aload_n dX7_owner_33 rfl rfl ?_
        refine q_getr dX7_owner_34 flX7_18 rfl rfl (m_fr_64_4 _) ?_
        refine r_iload_n dX7_owner_37 rfl rfl ?_
        obtain ⟨h10, e⟩ := g_gd e
        refine q_iald dX7_owner_38 rfl h10 ?_
        refine r_istore_n dX7_owner_39 rfl (by decide) rfl ?_
        refine r_aload_n dX7_owner_40 rfl rfl ?_
        refine q_getr dX7_owner_41 flX7_18 rfl rfl (m_fr_64_4 _) ?_
        refine r_iload_n dX7_owner_44 rfl rfl ?_
        refine r_iload_n dX7_owner_45 rfl rfl ?_
        refine q_iastL dX7_owner_46 rfl h10 (fun g11 h12 => ?_)
        have e := g_lt h12 e
        refine r_iload_n dX7_owner_47 rfl rfl ?_
        have e := Option.some.inj e
        subst e
        exact r_ret dX7_owner_48 rfl rfl
      · have e := g_iF h9 e
        refine r_bipush (x := (-2)) dX7_owner_30 (by decide) ?_
        have e := Option.some.inj e
        subst e
        exact r_ret dX7_owner_32 rfl rfl
  · have e := g_cF h3 e
    refine r_iconst (x := (-1)) dX7_owner_9 (by decide) ?_
    have e := Option.some.inj e
    subst e
    exact r_ret dX7_owner_10 rfl rfl
/-! X7_fits -/
def f_X7_fits (a1 : Int32) (a2 : Int32) (a3 : Int32) : Bool :=
  (if a2 = 0 then
(if a3 = 0 then
true
else
false)
else
(if a2 = 1 then
(if a3 = 0 then
(if a1 = 0 then
true
else
(if a1 = 4 then
true
else
false))
else
false)
else
(if a2 = 2 then
(if a3 = 0 then
(if a1 = 2 then
true
else
false)
else
false)
else
(if a2 = 3 then
(bif (f_X7_in a3 1 1000) then
(if a1 = 2 then
true
else
(if a1 = 3 then
true
else
false))
else
false)
else
(if a2 = 4 then
(bif (f_X7_in a3 0 11) then
(if a1 = 4 then
true
else
false)
else
false)
else
(if a2 = 5 then
(if a3 = 0 then
(if a1 = 0 then
false
else
true)
else
false)
else
false))))))
set_option maxRecDepth 100000 in
set_option maxHeartbeats 4000000 in
theorem c_X7_fits {G : mG} {g : (Nat → Nat → Int32)} {b : Bool} {a1 : Int32} {a2 : Int32} {a3 : Int32} {R : Bool} (e : f_X7_fits a1 a2 a3 = R) : MC G mX7_fits 1 0 0 [.int a1, .int a2, .int a3] (m_h g b) (some (.int (m_bi R))) (m_h g b) := by
  refine MC_intro mlX7_fits (Nat.le_of_ble_eq_true rfl) (m_okZ _) rfl trivial ?_
  unfold f_X7_fits at e
  refine r_iload_n dX7_fits_0 rfl rfl ?_
  by_cases h1 : a2 = 0
  · have e := g_iT h1 e
    refine r_tabIn (off := 39) (tgt := 40) dX7_fits_1 (by rw [h1]; decide) (by rw [h1]; decide) (by rw [h1]; decide) (by decide) ?_
    refine r_iload_n dX7_fits_40 rfl rfl ?_
    refine r_if_ne (tgt := 48) dX7_fits_41 (by decide) (fun h2 => ?_) (fun h2 => ?_)
    · have e := g_iF h2 e
      refine r_iconst (x := 0) dX7_fits_48 (by decide) ?_
      subst e
      exact r_ret dX7_fits_49 rfl rfl
    · have e := g_iT h2 e
      refine r_iconst (x := 1) dX7_fits_44 (by decide) ?_
      refine r_goto (tgt := 49) dX7_fits_45 (by decide) ?_
      subst e
      exact r_ret dX7_fits_49 rfl rfl
  have e := g_iF h1 e
  by_cases h3 : a2 = 1
  · have e := g_iT h3 e
    refine r_tabIn (off := 49) (tgt := 50) dX7_fits_1 (by rw [h3]; decide) (by rw [h3]; decide) (by rw [h3]; decide) (by decide) ?_
    refine r_iload_n dX7_fits_50 rfl rfl ?_
    refine r_if_ne (tgt := 67) dX7_fits_51 (by decide) (fun h4 => ?_) (fun h4 => ?_)
    · have e := g_iF h4 e
      refine r_iconst (x := 0) dX7_fits_67 (by decide) ?_
      subst e
      exact r_ret dX7_fits_68 rfl rfl
    · have e := g_iT h4 e
      refine r_iload_n dX7_fits_54 rfl rfl ?_
      refine r_if_eq (tgt := 63) dX7_fits_55 (by decide) (fun h5 => ?_) (fun h5 => ?_)
      · have e := g_iT h5 e
        refine r_iconst (x := 1) dX7_fits_63 (by decide) ?_
        refine r_goto (tgt := 68) dX7_fits_64 (by decide) ?_
        subst e
        exact r_ret dX7_fits_68 rfl rfl
      · have e := g_iF h5 e
        refine r_iload_n dX7_fits_58 rfl rfl ?_
        refine r_iconst (x := 4) dX7_fits_59 (by decide) ?_
        refine r_icmp_ne (tgt := 67) dX7_fits_60 (by decide) (fun h6 => ?_) (fun h6 => ?_)
        · have e := g_iF h6 e
          refine r_iconst (x := 0) dX7_fits_67 (by decide) ?_
          subst e
          exact r_ret dX7_fits_68 rfl rfl
        · have e := g_iT h6 e
          refine r_iconst (x := 1) dX7_fits_63 (by decide) ?_
          refine r_goto (tgt := 68) dX7_fits_64 (by decide) ?_
          subst e
          exact r_ret dX7_fits_68 rfl rfl
  have e := g_iF h3 e
  by_cases h7 : a2 = 2
  · have e := g_iT h7 e
    refine r_tabIn (off := 68) (tgt := 69) dX7_fits_1 (by rw [h7]; decide) (by rw [h7]; decide) (by rw [h7]; decide) (by decide) ?_
    refine r_iload_n dX7_fits_69 rfl rfl ?_
    refine r_if_ne (tgt := 82) dX7_fits_70 (by decide) (fun h8 => ?_) (fun h8 => ?_)
    · have e := g_iF h8 e
      refine r_iconst (x := 0) dX7_fits_82 (by decide) ?_
      subst e
      exact r_ret dX7_fits_83 rfl rfl
    · have e := g_iT h8 e
      refine r_iload_n dX7_fits_73 rfl rfl ?_
      refine r_iconst (x := 2) dX7_fits_74 (by decide) ?_
      refine r_icmp_ne (tgt := 82) dX7_fits_75 (by decide) (fun h9 => ?_) (fun h9 => ?_)
      · have e := g_iF h9 e
        refine r_iconst (x := 0) dX7_fits_82 (by decide) ?_
        subst e
        exact r_ret dX7_fits_83 rfl rfl
      · have e := g_iT h9 e
        refine r_iconst (x := 1) dX7_fits_78 (by decide) ?_
        refine r_goto (tgt := 83) dX7_fits_79 (by decide) ?_
        subst e
        exact r_ret dX7_fits_83 rfl rfl
  have e := g_iF h7 e
  by_cases h10 : a2 = 3
  · have e := g_iT h10 e
    refine r_tabIn (off := 83) (tgt := 84) dX7_fits_1 (by rw [h10]; decide) (by rw [h10]; decide) (by rw [h10]; decide) (by decide) ?_
    refine r_iload_n dX7_fits_84 rfl rfl ?_
    refine r_iconst (x := 1) dX7_fits_85 (by decide) ?_
    refine r_sipush (x := 1000) dX7_fits_86 (by decide) ?_
    refine q_callS (rest := []) (c_X7_in rfl) dX7_fits_89 lkX7_95 rfl rfl (Nat.le_of_ble_eq_true rfl) (by decide) ?_
    refine r_ifeqB (tgt := 109) dX7_fits_92 (by decide) (fun h11 => ?_) (fun h11 => ?_)
    · have e := g_cF h11 e
      refine r_iconst (x := 0) dX7_fits_109 (by decide) ?_
      subst e
      exact r_ret dX7_fits_110 rfl rfl
    · have e := g_cT h11 e
      refine r_iload_n dX7_fits_95 rfl rfl ?_
      refine r_iconst (x := 2) dX7_fits_96 (by decide) ?_
      refine r_icmp_eq (tgt := 105) dX7_fits_97 (by decide) (fun h12 => ?_) (fun h12 => ?_)
      · have e := g_iT h12 e
        refine r_iconst (x := 1) dX7_fits_105 (by decide) ?_
        refine r_goto (tgt := 110) dX7_fits_106 (by decide) ?_
        subst e
        exact r_ret dX7_fits_110 rfl rfl
      · have e := g_iF h12 e
        refine r_iload_n dX7_fits_100 rfl rfl ?_
        refine r_iconst (x := 3) dX7_fits_101 (by decide) ?_
        refine r_icmp_ne (tgt := 109) dX7_fits_102 (by decide) (fun h13 => ?_) (fun h13 => ?_)
        · have e := g_iF h13 e
          refine r_iconst (x := 0) dX7_fits_109 (by decide) ?_
          subst e
          exact r_ret dX7_fits_110 rfl rfl
        · have e := g_iT h13 e
          refine r_iconst (x := 1) dX7_fits_105 (by decide) ?_
          refine r_goto (tgt := 110) dX7_fits_106 (by decide) ?_
          subst e
          exact r_ret dX7_fits_110 rfl rfl
  have e := g_iF h10 e
  by_cases h14 : a2 = 4
  · have e := g_iT h14 e
    refine r_tabIn (off := 110) (tgt := 111) dX7_fits_1 (by rw [h14]; decide) (by rw [h14]; decide) (by rw [h14]; decide) (by decide) ?_
    refine r_iload_n dX7_fits_111 rfl rfl ?_
    refine r_iconst (x := 0) dX7_fits_112 (by decide) ?_
    refine r_bipush (x := 11) dX7_fits_113 (by decide) ?_
    refine q_callS (rest := []) (c_X7_in rfl) dX7_fits_115 lkX7_95 rfl rfl (Nat.le_of_ble_eq_true rfl) (by decide) ?_
    refine r_ifeqB (tgt := 130) dX7_fits_118 (by decide) (fun h15 => ?_) (fun h15 => ?_)
    · have e := g_cF h15 e
      refine r_iconst (x := 0) dX7_fits_130 (by decide) ?_
      subst e
      exact r_ret dX7_fits_131 rfl rfl
    · have e := g_cT h15 e
      refine r_iload_n dX7_fits_121 rfl rfl ?_
      refine r_iconst (x := 4) dX7_fits_122 (by decide) ?_
      refine r_icmp_ne (tgt := 130) dX7_fits_123 (by decide) (fun h16 => ?_) (fun h16 => ?_)
      · have e := g_iF h16 e
        refine r_iconst (x := 0) dX7_fits_130 (by decide) ?_
        subst e
        exact r_ret dX7_fits_131 rfl rfl
      · have e := g_iT h16 e
        refine r_iconst (x := 1) dX7_fits_126 (by decide) ?_
        refine r_goto (tgt := 131) dX7_fits_127 (by decide) ?_
        subst e
        exact r_ret dX7_fits_131 rfl rfl
  have e := g_iF h14 e
  by_cases h17 : a2 = 5
  · have e := g_iT h17 e
    refine r_tabIn (off := 131) (tgt := 132) dX7_fits_1 (by rw [h17]; decide) (by rw [h17]; decide) (by rw [h17]; decide) (by decide) ?_
    refine r_iload_n dX7_fits_132 rfl rfl ?_
    refine r_if_ne (tgt := 144) dX7_fits_133 (by decide) (fun h18 => ?_) (fun h18 => ?_)
    · have e := g_iF h18 e
      refine r_iconst (x := 0) dX7_fits_144 (by decide) ?_
      subst e
      exact r_ret dX7_fits_145 rfl rfl
    · have e := g_iT h18 e
      refine r_iload_n dX7_fits_136 rfl rfl ?_
      refine r_if_eq (tgt := 144) dX7_fits_137 (by decide) (fun h19 => ?_) (fun h19 => ?_)
      · have e := g_iT h19 e
        refine r_iconst (x := 0) dX7_fits_144 (by decide) ?_
        subst e
        exact r_ret dX7_fits_145 rfl rfl
      · have e := g_iF h19 e
        refine r_iconst (x := 1) dX7_fits_140 (by decide) ?_
        refine r_goto (tgt := 145) dX7_fits_141 (by decide) ?_
        subst e
        exact r_ret dX7_fits_145 rfl rfl
  have e := g_iF h17 e
  refine r_tabOut (tgt := 146) dX7_fits_1 (m_swOut0_6 h1 h3 h7 h10 h14 h17) (by decide) ?_
  refine r_iconst (x := 0) dX7_fits_146 (by decide) ?_
  subst e
  exact r_ret dX7_fits_147 rfl rfl
/-! X7_mask -/
def f_X7_mask (g : (Nat → Nat → Int32)) (a1 : Int32) (a2 : Int32) (a3 : Int32) (a4 : Int32) : Option (Int32 × (Nat → Nat → Int32)) :=
  ((f_X7_isColumn g a1 a2).bind fun v1 =>
(bif v1 then
(if m_in ((6 * a1) + a2) 24 then
(bif (f_X7_fits (g 68 ((6 * a1) + a2).toNatClampNeg) a3 a4) then
(m_let (m_up g 70 ((6 * a1) + a2).toNatClampNeg a3) fun g6 =>
(m_let (m_up g6 71 ((6 * a1) + a2).toNatClampNeg a4) fun g8 =>
some (0, g8)))
else
some ((-2), g)) else none)
else
some ((-1), g)))
set_option maxRecDepth 100000 in
set_option maxHeartbeats 4000000 in
theorem c_X7_mask {G : mG} {g : (Nat → Nat → Int32)} {b : Bool} {a1 : Int32} {a2 : Int32} {a3 : Int32} {a4 : Int32} {R : (Int32 × (Nat → Nat → Int32))} (e : f_X7_mask g a1 a2 a3 a4 = some R) : MC G mX7_mask 3 0 0 [.ref 64, .int a1, .int a2, .int a3, .int a4] (m_h g b) (some (.int R.1)) (m_h R.2 b) := by
  refine MC_intro mlX7_mask (Nat.le_of_ble_eq_true rfl) ⟨_, rfl⟩ rfl trivial ?_
  unfold f_X7_mask at e
  refine r_aload_n dX7_mask_0 rfl rfl ?_
  refine r_iload_n dX7_mask_1 rfl rfl ?_
  refine r_iload_n dX7_mask_2 rfl rfl ?_
  obtain ⟨v1, h2, e⟩ := g_bd e
  refine q_callV (rest := []) (c_X7_isColumn h2) dX7_mask_3 lkX7_131 rfl rfl rfl rfl (Nat.le_of_ble_eq_true rfl) (by decide) ?_
  refine r_ifneB (tgt := 11) dX7_mask_6 (by decide) (fun h3 => ?_) (fun h3 => ?_)
  · have e := g_cT h3 e
    refine r_aload_n dX7_mask_11 rfl rfl ?_
    refine q_getr dX7_mask_12 flX7_21 rfl rfl (m_fr_64_5 _) ?_
    refine r_bipush (x := 6) dX7_mask_15 (by decide) ?_
    refine r_iload_n dX7_mask_17 rfl rfl ?_
    refine r_imul dX7_mask_18 ?_
    refine r_iload_n dX7_mask_19 rfl rfl ?_
    refine r_iadd dX7_mask_20 ?_
    obtain ⟨h4, e⟩ := g_gd e
    refine q_iald dX7_mask_21 rfl h4 ?_
    refine r_iload_n dX7_mask_22 rfl rfl ?_
    refine r_iload dX7_mask_23 rfl ?_
    refine q_callS (rest := []) (c_X7_fits rfl) dX7_mask_25 lkX7_134 rfl rfl (Nat.le_of_ble_eq_true rfl) (by decide) ?_
    refine r_ifneB (tgt := 34) dX7_mask_28 (by decide) (fun h5 => ?_) (fun h5 => ?_)
    · have e := g_cT h5 e
      refine r_aload_n dX7_mask_34 rfl rfl ?_
      refine q_getr dX7_mask_35 flX7_27 rfl rfl (m_fr_64_7 _) ?_
      refine r_bipush (x := 6) dX7_mask_38 (by decide) ?_
      refine r_iload_n dX7_mask_40 rfl rfl ?_
      refine r_imul dX7_mask_41 ?_
      refine r_iload_n dX7_mask_42 rfl rfl ?_
      refine r_iadd dX7_mask_43 ?_
      refine r_iload_n dX7_mask_44 rfl rfl ?_
      refine q_iastL dX7_mask_45 rfl h4 (fun g6 h7 => ?_)
      have e := g_lt h7 e
      refine r_aload_n dX7_mask_46 rfl rfl ?_
      refine q_getr dX7_mask_47 flX7_30 rfl rfl (m_fr_64_8 _) ?_
      refine r_bipush (x := 6) dX7_mask_50 (by decide) ?_
      refine r_iload_n dX7_mask_52 rfl rfl ?_
      refine r_imul dX7_mask_53 ?_
      refine r_iload_n dX7_mask_54 rfl rfl ?_
      refine r_iadd dX7_mask_55 ?_
      refine r_iload dX7_mask_56 rfl ?_
      refine q_iastL dX7_mask_58 rfl h4 (fun g8 h9 => ?_)
      have e := g_lt h9 e
      refine r_iconst (x := 0) dX7_mask_59 (by decide) ?_
      have e := Option.some.inj e
      subst e
      exact r_ret dX7_mask_60 rfl rfl
    · have e := g_cF h5 e
      refine r_bipush (x := (-2)) dX7_mask_31 (by decide) ?_
      have e := Option.some.inj e
      subst e
      exact r_ret dX7_mask_33 rfl rfl
  · have e := g_cF h3 e
    refine r_iconst (x := (-1)) dX7_mask_9 (by decide) ?_
    have e := Option.some.inj e
    subst e
    exact r_ret dX7_mask_10 rfl rfl
/-! X7_dial -/
def f_X7_dial (g : (Nat → Nat → Int32)) (a1 : Int32) (a2 : Int32) (a3 : Int32) (a4 : Int32) (a5 : Int32) : Option (Int32 × (Nat → Nat → Int32)) :=
  ((f_X7_isColumn g a1 a2).bind fun v1 =>
(bif v1 then
(if m_in ((6 * a1) + a2) 24 then
(if (g 68 ((6 * a1) + a2).toNatClampNeg) = 0 then
(bif (f_X7_in a3 1 4) then
(if a4 = 1 then
(bif (f_X7_in a5 0 9) then
(if m_in ((5 * a1) + a3) 20 then
(m_let (m_up g 74 ((5 * a1) + a3).toNatClampNeg a4) fun g20 =>
(m_let (m_up g20 75 ((5 * a1) + a3).toNatClampNeg a5) fun g22 =>
some (0, g22))) else none)
else
some ((-2), g))
else
(if a4 = 3 then
(bif (f_X7_in a5 0 9) then
(if m_in ((5 * a1) + a3) 20 then
(m_let (m_up g 74 ((5 * a1) + a3).toNatClampNeg a4) fun g27 =>
(m_let (m_up g27 75 ((5 * a1) + a3).toNatClampNeg a5) fun g29 =>
some (0, g29))) else none)
else
some ((-2), g))
else
(if a4 = 7 then
(bif (f_X7_in a5 0 9) then
(if m_in ((5 * a1) + a3) 20 then
(m_let (m_up g 74 ((5 * a1) + a3).toNatClampNeg a4) fun g34 =>
(m_let (m_up g34 75 ((5 * a1) + a3).toNatClampNeg a5) fun g36 =>
some (0, g36))) else none)
else
some ((-2), g))
else
(if a4 = 9 then
(bif (f_X7_in a5 0 9) then
(if m_in ((5 * a1) + a3) 20 then
(m_let (m_up g 74 ((5 * a1) + a3).toNatClampNeg a4) fun g41 =>
(m_let (m_up g41 75 ((5 * a1) + a3).toNatClampNeg a5) fun g43 =>
some (0, g43))) else none)
else
some ((-2), g))
else
some ((-2), g)))))
else
some ((-1), g))
else
(if (g 68 ((6 * a1) + a2).toNatClampNeg) = 4 then
(if a3 = 0 then
(bif (f_X7_in a4 1 99) then
(if (m_rem a4 2) = 0 then
some ((-2), g)
else
(if (m_rem a4 5) = 0 then
some ((-2), g)
else
(bif (f_X7_in a5 0 99) then
(m_let (m_up g 72 ((6 * a1) + a2).toNatClampNeg a4) fun g12 =>
(m_let (m_up g12 73 ((6 * a1) + a2).toNatClampNeg a5) fun g14 =>
some (0, g14)))
else
some ((-2), g))))
else
some ((-2), g))
else
some ((-1), g))
else
some ((-1), g))) else none)
else
some ((-1), g)))
set_option maxRecDepth 100000 in
set_option maxHeartbeats 4000000 in
theorem c_X7_dial {G : mG} {g : (Nat → Nat → Int32)} {b : Bool} {a1 : Int32} {a2 : Int32} {a3 : Int32} {a4 : Int32} {a5 : Int32} {R : (Int32 × (Nat → Nat → Int32))} (e : f_X7_dial g a1 a2 a3 a4 a5 = some R) : MC G mX7_dial 3 0 0 [.ref 64, .int a1, .int a2, .int a3, .int a4, .int a5] (m_h g b) (some (.int R.1)) (m_h R.2 b) := by
  refine MC_intro mlX7_dial (Nat.le_of_ble_eq_true rfl) ⟨_, rfl⟩ rfl trivial ?_
  unfold f_X7_dial at e
  refine r_aload_n dX7_dial_0 rfl rfl ?_
  refine r_iload_n dX7_dial_1 rfl rfl ?_
  refine r_iload_n dX7_dial_2 rfl rfl ?_
  obtain ⟨v1, h2, e⟩ := g_bd e
  refine q_callV (rest := []) (c_X7_isColumn h2) dX7_dial_3 lkX7_131 rfl rfl rfl rfl (Nat.le_of_ble_eq_true rfl) (by decide) ?_
  refine r_ifneB (tgt := 11) dX7_dial_6 (by decide) (fun h3 => ?_) (fun h3 => ?_)
  · have e := g_cT h3 e
    refine r_aload_n dX7_dial_11 rfl rfl ?_
    refine q_getr dX7_dial_12 flX7_21 rfl rfl (m_fr_64_5 _) ?_
    refine r_bipush (x := 6) dX7_dial_15 (by decide) ?_
    refine r_iload_n dX7_dial_17 rfl rfl ?_
    refine r_imul dX7_dial_18 ?_
    refine r_iload_n dX7_dial_19 rfl rfl ?_
    refine r_iadd dX7_dial_20 ?_
    obtain ⟨h4, e⟩ := g_gd e
    refine q_iald dX7_dial_21 rfl h4 ?_
    refine r_if_ne (tgt := 29) dX7_dial_22 (by decide) (fun h5 => ?_) (fun h5 => ?_)
    · have e := g_iF h5 e
      refine r_iconst (x := 0) dX7_dial_29 (by decide) ?_
      refine r_istore dX7_dial_30 (by decide) rfl ?_
      refine r_iload dX7_dial_32 rfl ?_
      refine r_if_ne (tgt := 52) dX7_dial_34 (by decide) (fun hz => absurd hz (by decide)) (fun _ => ?_)
      refine r_aload_n dX7_dial_37 rfl rfl ?_
      refine q_getr dX7_dial_38 flX7_21 rfl rfl (m_fr_64_5 _) ?_
      refine r_bipush (x := 6) dX7_dial_41 (by decide) ?_
      refine r_iload_n dX7_dial_43 rfl rfl ?_
      refine r_imul dX7_dial_44 ?_
      refine r_iload_n dX7_dial_45 rfl rfl ?_
      refine r_iadd dX7_dial_46 ?_
      refine q_iald dX7_dial_47 rfl h4 ?_
      refine r_iconst (x := 4) dX7_dial_48 (by decide) ?_
      refine r_icmp_ne (tgt := 73) dX7_dial_49 (by decide) (fun h6 => ?_) (fun h6 => ?_)
      · have e := g_iF h6 e
        refine r_iconst (x := (-1)) dX7_dial_73 (by decide) ?_
        have e := Option.some.inj e
        subst e
        exact r_ret dX7_dial_74 rfl rfl
      · have e := g_iT h6 e
        refine r_iload dX7_dial_52 rfl ?_
        refine r_if_eq (tgt := 69) dX7_dial_54 (by decide) (fun _ => ?_) (fun hz => absurd hz (by decide))
        refine r_iload_n dX7_dial_69 rfl rfl ?_
        refine r_if_eq (tgt := 75) dX7_dial_70 (by decide) (fun h7 => ?_) (fun h7 => ?_)
        · have e := g_iT h7 e
          refine r_iload dX7_dial_75 rfl ?_
          refine r_if_eq (tgt := 146) dX7_dial_77 (by decide) (fun _ => ?_) (fun hz => absurd hz (by decide))
          refine r_iload dX7_dial_146 rfl ?_
          refine r_iconst (x := 1) dX7_dial_148 (by decide) ?_
          refine r_bipush (x := 99) dX7_dial_149 (by decide) ?_
          refine q_callS (rest := []) (c_X7_in rfl) dX7_dial_151 lkX7_95 rfl rfl (Nat.le_of_ble_eq_true rfl) (by decide) ?_
          refine r_ifeqB (tgt := 182) dX7_dial_154 (by decide) (fun h8 => ?_) (fun h8 => ?_)
          · have e := g_cF h8 e
            refine r_bipush (x := (-2)) dX7_dial_182 (by decide) ?_
            have e := Option.some.inj e
            subst e
            exact r_ret dX7_dial_184 rfl rfl
          · have e := g_cT h8 e
            refine r_iload dX7_dial_157 rfl ?_
            refine r_iconst (x := 2) dX7_dial_159 (by decide) ?_
            refine q_irem dX7_dial_160 (by decide) ?_
            refine r_if_eq (tgt := 182) dX7_dial_161 (by decide) (fun h9 => ?_) (fun h9 => ?_)
            · have e := g_iT h9 e
              refine r_bipush (x := (-2)) dX7_dial_182 (by decide) ?_
              have e := Option.some.inj e
              subst e
              exact r_ret dX7_dial_184 rfl rfl
            · have e := g_iF h9 e
              refine r_iload dX7_dial_164 rfl ?_
              refine r_iconst (x := 5) dX7_dial_166 (by decide) ?_
              refine q_irem dX7_dial_167 (by decide) ?_
              refine r_if_eq (tgt := 182) dX7_dial_168 (by decide) (fun h10 => ?_) (fun h10 => ?_)
              · have e := g_iT h10 e
                refine r_bipush (x := (-2)) dX7_dial_182 (by decide) ?_
                have e := Option.some.inj e
                subst e
                exact r_ret dX7_dial_184 rfl rfl
              · have e := g_iF h10 e
                refine r_iload dX7_dial_171 rfl ?_
                refine r_iconst (x := 0) dX7_dial_173 (by decide) ?_
                refine r_bipush (x := 99) dX7_dial_174 (by decide) ?_
                refine q_callS (rest := []) (c_X7_in rfl) dX7_dial_176 lkX7_95 rfl rfl (Nat.le_of_ble_eq_true rfl) (by decide) ?_
                refine r_ifneB (tgt := 185) dX7_dial_179 (by decide) (fun h11 => ?_) (fun h11 => ?_)
                · have e := g_cT h11 e
                  refine r_aload_n dX7_dial_185 rfl rfl ?_
                  refine q_getr dX7_dial_186 flX7_33 rfl rfl (m_fr_64_9 _) ?_
                  refine r_bipush (x := 6) dX7_dial_189 (by decide) ?_
                  refine r_iload_n dX7_dial_191 rfl rfl ?_
                  refine r_imul dX7_dial_192 ?_
                  refine r_iload_n dX7_dial_193 rfl rfl ?_
                  refine r_iadd dX7_dial_194 ?_
                  refine r_iload dX7_dial_195 rfl ?_
                  refine q_iastL dX7_dial_197 rfl h4 (fun g12 h13 => ?_)
                  have e := g_lt h13 e
                  refine r_aload_n dX7_dial_198 rfl rfl ?_
                  refine q_getr dX7_dial_199 flX7_36 rfl rfl (m_fr_64_10 _) ?_
                  refine r_bipush (x := 6) dX7_dial_202 (by decide) ?_
                  refine r_iload_n dX7_dial_204 rfl rfl ?_
                  refine r_imul dX7_dial_205 ?_
                  refine r_iload_n dX7_dial_206 rfl rfl ?_
                  refine r_iadd dX7_dial_207 ?_
                  refine r_iload dX7_dial_208 rfl ?_
                  refine q_iastL dX7_dial_210 rfl h4 (fun g14 h15 => ?_)
                  have e := g_lt h15 e
                  refine r_iconst (x := 0) dX7_dial_211 (by decide) ?_
                  have e := Option.some.inj e
                  subst e
                  exact r_ret dX7_dial_212 rfl rfl
                · have e := g_cF h11 e
                  refine r_bipush (x := (-2)) dX7_dial_182 (by decide) ?_
                  have e := Option.some.inj e
                  subst e
                  exact r_ret dX7_dial_184 rfl rfl
        · have e := g_iF h7 e
          refine r_iconst (x := (-1)) dX7_dial_73 (by decide) ?_
          have e := Option.some.inj e
          subst e
          exact r_ret dX7_dial_74 rfl rfl
    · have e := g_iT h5 e
      refine r_iconst (x := 1) dX7_dial_25 (by decide) ?_
      refine r_goto (tgt := 30) dX7_dial_26 (by decide) ?_
      refine r_istore dX7_dial_30 (by decide) rfl ?_
      refine r_iload dX7_dial_32 rfl ?_
      refine r_if_ne (tgt := 52) dX7_dial_34 (by decide) (fun _ => ?_) (fun hz => absurd hz (by decide))
      refine r_iload dX7_dial_52 rfl ?_
      refine r_if_eq (tgt := 69) dX7_dial_54 (by decide) (fun hz => absurd hz (by decide)) (fun _ => ?_)
      refine r_iload_n dX7_dial_57 rfl rfl ?_
      refine r_iconst (x := 1) dX7_dial_58 (by decide) ?_
      refine r_iconst (x := 4) dX7_dial_59 (by decide) ?_
      refine q_callS (rest := []) (c_X7_in rfl) dX7_dial_60 lkX7_95 rfl rfl (Nat.le_of_ble_eq_true rfl) (by decide) ?_
      refine r_ifneB (tgt := 75) dX7_dial_63 (by decide) (fun h16 => ?_) (fun h16 => ?_)
      · have e := g_cT h16 e
        refine r_iload dX7_dial_75 rfl ?_
        refine r_if_eq (tgt := 146) dX7_dial_77 (by decide) (fun hz => absurd hz (by decide)) (fun _ => ?_)
        refine r_iload dX7_dial_80 rfl ?_
        refine r_iconst (x := 1) dX7_dial_82 (by decide) ?_
        refine r_icmp_eq (tgt := 106) dX7_dial_83 (by decide) (fun h17 => ?_) (fun h17 => ?_)
        · have e := g_iT h17 e
          refine r_iload dX7_dial_106 rfl ?_
          refine r_iconst (x := 0) dX7_dial_108 (by decide) ?_
          refine r_bipush (x := 9) dX7_dial_109 (by decide) ?_
          refine q_callS (rest := []) (c_X7_in rfl) dX7_dial_111 lkX7_95 rfl rfl (Nat.le_of_ble_eq_true rfl) (by decide) ?_
          refine r_ifneB (tgt := 120) dX7_dial_114 (by decide) (fun h18 => ?_) (fun h18 => ?_)
          · have e := g_cT h18 e
            refine r_aload_n dX7_dial_120 rfl rfl ?_
            refine q_getr dX7_dial_121 flX7_39 rfl rfl (m_fr_64_11 _) ?_
            refine r_iconst (x := 5) dX7_dial_124 (by decide) ?_
            refine r_iload_n dX7_dial_125 rfl rfl ?_
            refine r_imul dX7_dial_126 ?_
            refine r_iload_n dX7_dial_127 rfl rfl ?_
            refine r_iadd dX7_dial_128 ?_
            refine r_iload dX7_dial_129 rfl ?_
            obtain ⟨h19, e⟩ := g_gd e
            refine q_iastL dX7_dial_131 rfl h19 (fun g20 h21 => ?_)
            have e := g_lt h21 e
            refine r_aload_n dX7_dial_132 rfl rfl ?_
            refine q_getr dX7_dial_133 flX7_42 rfl rfl (m_fr_64_12 _) ?_
            refine r_iconst (x := 5) dX7_dial_136 (by decide) ?_
            refine r_iload_n dX7_dial_137 rfl rfl ?_
            refine r_imul dX7_dial_138 ?_
            refine r_iload_n dX7_dial_139 rfl rfl ?_
            refine r_iadd dX7_dial_140 ?_
            refine r_iload dX7_dial_141 rfl ?_
            refine q_iastL dX7_dial_143 rfl h19 (fun g22 h23 => ?_)
            have e := g_lt h23 e
            refine r_iconst (x := 0) dX7_dial_144 (by decide) ?_
            have e := Option.some.inj e
            subst e
            exact r_ret dX7_dial_145 rfl rfl
          · have e := g_cF h18 e
            refine r_bipush (x := (-2)) dX7_dial_117 (by decide) ?_
            have e := Option.some.inj e
            subst e
            exact r_ret dX7_dial_119 rfl rfl
        · have e := g_iF h17 e
          refine r_iload dX7_dial_86 rfl ?_
          refine r_iconst (x := 3) dX7_dial_88 (by decide) ?_
          refine r_icmp_eq (tgt := 106) dX7_dial_89 (by decide) (fun h24 => ?_) (fun h24 => ?_)
          · have e := g_iT h24 e
            refine r_iload dX7_dial_106 rfl ?_
            refine r_iconst (x := 0) dX7_dial_108 (by decide) ?_
            refine r_bipush (x := 9) dX7_dial_109 (by decide) ?_
            refine q_callS (rest := []) (c_X7_in rfl) dX7_dial_111 lkX7_95 rfl rfl (Nat.le_of_ble_eq_true rfl) (by decide) ?_
            refine r_ifneB (tgt := 120) dX7_dial_114 (by decide) (fun h25 => ?_) (fun h25 => ?_)
            · have e := g_cT h25 e
              refine r_aload_n dX7_dial_120 rfl rfl ?_
              refine q_getr dX7_dial_121 flX7_39 rfl rfl (m_fr_64_11 _) ?_
              refine r_iconst (x := 5) dX7_dial_124 (by decide) ?_
              refine r_iload_n dX7_dial_125 rfl rfl ?_
              refine r_imul dX7_dial_126 ?_
              refine r_iload_n dX7_dial_127 rfl rfl ?_
              refine r_iadd dX7_dial_128 ?_
              refine r_iload dX7_dial_129 rfl ?_
              obtain ⟨h26, e⟩ := g_gd e
              refine q_iastL dX7_dial_131 rfl h26 (fun g27 h28 => ?_)
              have e := g_lt h28 e
              refine r_aload_n dX7_dial_132 rfl rfl ?_
              refine q_getr dX7_dial_133 flX7_42 rfl rfl (m_fr_64_12 _) ?_
              refine r_iconst (x := 5) dX7_dial_136 (by decide) ?_
              refine r_iload_n dX7_dial_137 rfl rfl ?_
              refine r_imul dX7_dial_138 ?_
              refine r_iload_n dX7_dial_139 rfl rfl ?_
              refine r_iadd dX7_dial_140 ?_
              refine r_iload dX7_dial_141 rfl ?_
              refine q_iastL dX7_dial_143 rfl h26 (fun g29 h30 => ?_)
              have e := g_lt h30 e
              refine r_iconst (x := 0) dX7_dial_144 (by decide) ?_
              have e := Option.some.inj e
              subst e
              exact r_ret dX7_dial_145 rfl rfl
            · have e := g_cF h25 e
              refine r_bipush (x := (-2)) dX7_dial_117 (by decide) ?_
              have e := Option.some.inj e
              subst e
              exact r_ret dX7_dial_119 rfl rfl
          · have e := g_iF h24 e
            refine r_iload dX7_dial_92 rfl ?_
            refine r_bipush (x := 7) dX7_dial_94 (by decide) ?_
            refine r_icmp_eq (tgt := 106) dX7_dial_96 (by decide) (fun h31 => ?_) (fun h31 => ?_)
            · have e := g_iT h31 e
              refine r_iload dX7_dial_106 rfl ?_
              refine r_iconst (x := 0) dX7_dial_108 (by decide) ?_
              refine r_bipush (x := 9) dX7_dial_109 (by decide) ?_
              refine q_callS (rest := []) (c_X7_in rfl) dX7_dial_111 lkX7_95 rfl rfl (Nat.le_of_ble_eq_true rfl) (by decide) ?_
              refine r_ifneB (tgt := 120) dX7_dial_114 (by decide) (fun h32 => ?_) (fun h32 => ?_)
              · have e := g_cT h32 e
                refine r_aload_n dX7_dial_120 rfl rfl ?_
                refine q_getr dX7_dial_121 flX7_39 rfl rfl (m_fr_64_11 _) ?_
                refine r_iconst (x := 5) dX7_dial_124 (by decide) ?_
                refine r_iload_n dX7_dial_125 rfl rfl ?_
                refine r_imul dX7_dial_126 ?_
                refine r_iload_n dX7_dial_127 rfl rfl ?_
                refine r_iadd dX7_dial_128 ?_
                refine r_iload dX7_dial_129 rfl ?_
                obtain ⟨h33, e⟩ := g_gd e
                refine q_iastL dX7_dial_131 rfl h33 (fun g34 h35 => ?_)
                have e := g_lt h35 e
                refine r_aload_n dX7_dial_132 rfl rfl ?_
                refine q_getr dX7_dial_133 flX7_42 rfl rfl (m_fr_64_12 _) ?_
                refine r_iconst (x := 5) dX7_dial_136 (by decide) ?_
                refine r_iload_n dX7_dial_137 rfl rfl ?_
                refine r_imul dX7_dial_138 ?_
                refine r_iload_n dX7_dial_139 rfl rfl ?_
                refine r_iadd dX7_dial_140 ?_
                refine r_iload dX7_dial_141 rfl ?_
                refine q_iastL dX7_dial_143 rfl h33 (fun g36 h37 => ?_)
                have e := g_lt h37 e
                refine r_iconst (x := 0) dX7_dial_144 (by decide) ?_
                have e := Option.some.inj e
                subst e
                exact r_ret dX7_dial_145 rfl rfl
              · have e := g_cF h32 e
                refine r_bipush (x := (-2)) dX7_dial_117 (by decide) ?_
                have e := Option.some.inj e
                subst e
                exact r_ret dX7_dial_119 rfl rfl
            · have e := g_iF h31 e
              refine r_iload dX7_dial_99 rfl ?_
              refine r_bipush (x := 9) dX7_dial_101 (by decide) ?_
              refine r_icmp_ne (tgt := 117) dX7_dial_103 (by decide) (fun h38 => ?_) (fun h38 => ?_)
              · have e := g_iF h38 e
                refine r_bipush (x := (-2)) dX7_dial_117 (by decide) ?_
                have e := Option.some.inj e
                subst e
                exact r_ret dX7_dial_119 rfl rfl
              · have e := g_iT h38 e
                refine r_iload dX7_dial_106 rfl ?_
                refine r_iconst (x := 0) dX7_dial_108 (by decide) ?_
                refine r_bipush (x := 9) dX7_dial_109 (by decide) ?_
                refine q_callS (rest := []) (c_X7_in rfl) dX7_dial_111 lkX7_95 rfl rfl (Nat.le_of_ble_eq_true rfl) (by decide) ?_
                refine r_ifneB (tgt := 120) dX7_dial_114 (by decide) (fun h39 => ?_) (fun h39 => ?_)
                · have e := g_cT h39 e
                  refine r_aload_n dX7_dial_120 rfl rfl ?_
                  refine q_getr dX7_dial_121 flX7_39 rfl rfl (m_fr_64_11 _) ?_
                  refine r_iconst (x := 5) dX7_dial_124 (by decide) ?_
                  refine r_iload_n dX7_dial_125 rfl rfl ?_
                  refine r_imul dX7_dial_126 ?_
                  refine r_iload_n dX7_dial_127 rfl rfl ?_
                  refine r_iadd dX7_dial_128 ?_
                  refine r_iload dX7_dial_129 rfl ?_
                  obtain ⟨h40, e⟩ := g_gd e
                  refine q_iastL dX7_dial_131 rfl h40 (fun g41 h42 => ?_)
                  have e := g_lt h42 e
                  refine r_aload_n dX7_dial_132 rfl rfl ?_
                  refine q_getr dX7_dial_133 flX7_42 rfl rfl (m_fr_64_12 _) ?_
                  refine r_iconst (x := 5) dX7_dial_136 (by decide) ?_
                  refine r_iload_n dX7_dial_137 rfl rfl ?_
                  refine r_imul dX7_dial_138 ?_
                  refine r_iload_n dX7_dial_139 rfl rfl ?_
                  refine r_iadd dX7_dial_140 ?_
                  refine r_iload dX7_dial_141 rfl ?_
                  refine q_iastL dX7_dial_143 rfl h40 (fun g43 h44 => ?_)
                  have e := g_lt h44 e
                  refine r_iconst (x := 0) dX7_dial_144 (by decide) ?_
                  have e := Option.some.inj e
                  subst e
                  exact r_ret dX7_dial_145 rfl rfl
                · have e := g_cF h39 e
                  refine r_bipush (x := (-2)) dX7_dial_117 (by decide) ?_
                  have e := Option.some.inj e
                  subst e
                  exact r_ret dX7_dial_119 rfl rfl
      · have e := g_cF h16 e
        refine r_goto (tgt := 73) dX7_dial_66 (by decide) ?_
        refine r_iconst (x := (-1)) dX7_dial_73 (by decide) ?_
        have e := Option.some.inj e
        subst e
        exact r_ret dX7_dial_74 rfl rfl
  · have e := g_cF h3 e
    refine r_iconst (x := (-1)) dX7_dial_9 (by decide) ?_
    have e := Option.some.inj e
    subst e
    exact r_ret dX7_dial_10 rfl rfl
/-! X7_seed -/
def f_X7_seed (g : (Nat → Nat → Int32)) (a1 : Int32) : Option (Int32 × (Nat → Nat → Int32)) :=
  (bif (f_X7_in a1 0 60) then
(m_let (m_up g 64 13 a1) fun g2 =>
some ((g 64 13), g2))
else
some ((-2), g))
set_option maxRecDepth 100000 in
set_option maxHeartbeats 4000000 in
theorem c_X7_seed {G : mG} {g : (Nat → Nat → Int32)} {b : Bool} {a1 : Int32} {R : (Int32 × (Nat → Nat → Int32))} (e : f_X7_seed g a1 = some R) : MC G mX7_seed 1 0 0 [.ref 64, .int a1] (m_h g b) (some (.int R.1)) (m_h R.2 b) := by
  refine MC_intro mlX7_seed (Nat.le_of_ble_eq_true rfl) ⟨_, rfl⟩ rfl trivial ?_
  unfold f_X7_seed at e
  refine r_iload_n dX7_seed_0 rfl rfl ?_
  refine r_iconst (x := 0) dX7_seed_1 (by decide) ?_
  refine r_bipush (x := 60) dX7_seed_2 (by decide) ?_
  refine q_callS (rest := []) (c_X7_in rfl) dX7_seed_4 lkX7_95 rfl rfl (Nat.le_of_ble_eq_true rfl) (by decide) ?_
  refine r_ifneB (tgt := 13) dX7_seed_7 (by decide) (fun h1 => ?_) (fun h1 => ?_)
  · have e := g_cT h1 e
    refine r_aload_n dX7_seed_13 rfl rfl ?_
    refine q_geti dX7_seed_14 flX7_137 rfl rfl ?_
    refine r_istore_n dX7_seed_17 rfl (by decide) rfl ?_
    refine r_aload_n dX7_seed_18 rfl rfl ?_
    refine r_iload_n dX7_seed_19 rfl rfl ?_
    refine q_putiL dX7_seed_20 flX7_137 (Or.inl rfl) (Or.inl rfl) rfl (fun g2 h3 => ?_)
    have e := g_lt h3 e
    refine r_iload_n dX7_seed_23 rfl rfl ?_
    have e := Option.some.inj e
    subst e
    exact r_ret dX7_seed_24 rfl rfl
  · have e := g_cF h1 e
    refine r_bipush (x := (-2)) dX7_seed_10 (by decide) ?_
    have e := Option.some.inj e
    subst e
    exact r_ret dX7_seed_12 rfl rfl
/-! X7_turnedKey -/
def lp_X7_turnedKey_15 (g : (Nat → Nat → Int32)) (a1 : Int32) (a2 : Int32) : Nat → Int32 → Int32 → Int32 → Int32 → Option Int32
  | 0, _, _, _, _ => none
  | n + 1, y15_3, y15_4, y15_5, y15_6 =>
  (if 5 ≤ y15_6 then
some (y15_3 + (f_X7_figure y15_3))
else
(if m_in ((5 * a1) + y15_6) 20 then
(m_let (y15_3 + (y15_5 * (m_rem (((g 74 ((5 * a1) + y15_6).toNatClampNeg) * (m_rem y15_4 10)) + (g 75 ((5 * a1) + y15_6).toNatClampNeg)) 10))) fun t15003 =>
lp_X7_turnedKey_15 g a1 a2 n t15003 (y15_4 / 10) (y15_5 * 10) (y15_6 + 1)) else none))
def f_X7_turnedKey (g : (Nat → Nat → Int32)) (a1 : Int32) (a2 : Int32) : Option Int32 :=
  lp_X7_turnedKey_15 g a1 a2 2000 0 (a2 / 10) 10 1
set_option maxRecDepth 100000 in
set_option maxHeartbeats 4000000 in
theorem w_X7_turnedKey_15 {G : mG} {b : Bool} {g : (Nat → Nat → Int32)} {a1 : Int32} {a2 : Int32} : ∀ (n : Nat) (y15_3 : Int32) (y15_4 : Int32) (y15_5 : Int32) (y15_6 : Int32) (R : Int32), lp_X7_turnedKey_15 g a1 a2 n y15_3 y15_4 y15_5 y15_6 = some R → MW G mX7_turnedKey 1 0 0 15 [.ref 64, .int a1, .int a2, .int y15_3, .int y15_4, .int y15_5, .int y15_6] [] (m_h g b) (some (.int R)) (m_h g b)
  | 0, _, _, _, _, R, e => absurd (show (none : Option Int32) = some R from e) (fun h => by cases h)
  | n + 1, y15_3, y15_4, y15_5, y15_6, R, e => by
    rw [lp_X7_turnedKey_15] at e
    refine r_iload dX7_turnedKey_15 rfl ?_
    refine r_iconst (x := 5) dX7_turnedKey_17 (by decide) ?_
    refine r_icmp_ge (tgt := 79) dX7_turnedKey_18 (by decide) (fun h15001 => ?_) (fun h15001 => ?_)
    · have e := g_iT h15001 e
      refine r_iload_n dX7_turnedKey_79 rfl rfl ?_
      refine r_iload_n dX7_turnedKey_80 rfl rfl ?_
      refine q_callS (rest := [.int y15_3]) (c_X7_figure rfl) dX7_turnedKey_81 lkX7_104 rfl rfl (Nat.le_of_ble_eq_true rfl) (by decide) ?_
      refine r_iadd dX7_turnedKey_84 ?_
      have e := Option.some.inj e
      subst e
      exact r_ret dX7_turnedKey_85 rfl rfl
    · have e := g_iF h15001 e
      refine r_iload_n dX7_turnedKey_21 rfl rfl ?_
      refine r_iload dX7_turnedKey_22 rfl ?_
      refine r_aload_n dX7_turnedKey_24 rfl rfl ?_
      refine q_getr dX7_turnedKey_25 flX7_39 rfl rfl (m_fr_64_11 _) ?_
      refine r_iconst (x := 5) dX7_turnedKey_28 (by decide) ?_
      refine r_iload_n dX7_turnedKey_29 rfl rfl ?_
      refine r_imul dX7_turnedKey_30 ?_
      refine r_iload dX7_turnedKey_31 rfl ?_
      refine r_iadd dX7_turnedKey_33 ?_
      obtain ⟨h15002, e⟩ := g_gd e
      refine q_iald dX7_turnedKey_34 rfl h15002 ?_
      refine r_iload dX7_turnedKey_35 rfl ?_
      refine r_bipush (x := 10) dX7_turnedKey_37 (by decide) ?_
      refine q_irem dX7_turnedKey_39 (by decide) ?_
      refine r_imul dX7_turnedKey_40 ?_
      refine r_aload_n dX7_turnedKey_41 rfl rfl ?_
      refine q_getr dX7_turnedKey_42 flX7_42 rfl rfl (m_fr_64_12 _) ?_
      refine r_iconst (x := 5) dX7_turnedKey_45 (by decide) ?_
      refine r_iload_n dX7_turnedKey_46 rfl rfl ?_
      refine r_imul dX7_turnedKey_47 ?_
      refine r_iload dX7_turnedKey_48 rfl ?_
      refine r_iadd dX7_turnedKey_50 ?_
      refine q_iald dX7_turnedKey_51 rfl h15002 ?_
      refine r_iadd dX7_turnedKey_52 ?_
      refine r_bipush (x := 10) dX7_turnedKey_53 (by decide) ?_
      refine q_irem dX7_turnedKey_55 (by decide) ?_
      refine r_imul dX7_turnedKey_56 ?_
      refine r_iadd dX7_turnedKey_57 ?_
      refine q_istore_nL dX7_turnedKey_58 rfl (by decide) (fun t15003 h15004 => ?_)
      refine m_Lset rfl ?_
      have e := g_lt h15004 e
      refine r_iload dX7_turnedKey_59 rfl ?_
      refine r_bipush (x := 10) dX7_turnedKey_61 (by decide) ?_
      refine r_idiv dX7_turnedKey_63 (by decide) ?_
      refine r_istore dX7_turnedKey_64 (by decide) rfl ?_
      refine r_iload dX7_turnedKey_66 rfl ?_
      refine r_bipush (x := 10) dX7_turnedKey_68 (by decide) ?_
      refine r_imul dX7_turnedKey_70 ?_
      refine r_istore dX7_turnedKey_71 (by decide) rfl ?_
      refine r_iinc (y := 1) dX7_turnedKey_73 rfl (by decide) (by decide) rfl ?_
      refine r_goto (tgt := 15) dX7_turnedKey_76 (by decide) ?_
      exact w_X7_turnedKey_15 n _ _ _ _ R e
set_option maxRecDepth 100000 in
set_option maxHeartbeats 4000000 in
theorem c_X7_turnedKey {G : mG} {g : (Nat → Nat → Int32)} {b : Bool} {a1 : Int32} {a2 : Int32} {R : Int32} (e : f_X7_turnedKey g a1 a2 = some R) : MC G mX7_turnedKey 1 0 0 [.ref 64, .int a1, .int a2] (m_h g b) (some (.int R)) (m_h g b) := by
  refine MC_intro mlX7_turnedKey (Nat.le_of_ble_eq_true rfl) ⟨_, rfl⟩ rfl trivial ?_
  unfold f_X7_turnedKey at e
  refine r_iconst (x := 0) dX7_turnedKey_0 (by decide) ?_
  refine r_istore_n dX7_turnedKey_1 rfl (by decide) rfl ?_
  refine r_iload_n dX7_turnedKey_2 rfl rfl ?_
  refine r_bipush (x := 10) dX7_turnedKey_3 (by decide) ?_
  refine r_idiv dX7_turnedKey_5 (by decide) ?_
  refine r_istore dX7_turnedKey_6 (by decide) rfl ?_
  refine r_bipush (x := 10) dX7_turnedKey_8 (by decide) ?_
  refine r_istore dX7_turnedKey_10 (by decide) rfl ?_
  refine r_iconst (x := 1) dX7_turnedKey_12 (by decide) ?_
  refine r_istore dX7_turnedKey_13 (by decide) rfl ?_
  exact w_X7_turnedKey_15 2000 _ _ _ _ R e
/-! X7_turnedName -/
def f_X7_turnedName (g : (Nat → Nat → Int32)) (a1 : Int32) (a2 : Int32) : Option Int32 :=
  (if m_in a1 24 then
some (m_rem (((g 72 a1.toNatClampNeg) * a2) + (g 73 a1.toNatClampNeg)) 100) else none)
set_option maxRecDepth 100000 in
set_option maxHeartbeats 4000000 in
theorem c_X7_turnedName {G : mG} {g : (Nat → Nat → Int32)} {b : Bool} {a1 : Int32} {a2 : Int32} {R : Int32} (e : f_X7_turnedName g a1 a2 = some R) : MC G mX7_turnedName 0 0 0 [.ref 64, .int a1, .int a2] (m_h g b) (some (.int R)) (m_h g b) := by
  refine MC_intro mlX7_turnedName (Nat.le_of_ble_eq_true rfl) ⟨_, rfl⟩ rfl trivial ?_
  unfold f_X7_turnedName at e
  refine r_aload_n dX7_turnedName_0 rfl rfl ?_
  refine q_getr dX7_turnedName_1 flX7_33 rfl rfl (m_fr_64_9 _) ?_
  refine r_iload_n dX7_turnedName_4 rfl rfl ?_
  obtain ⟨h1, e⟩ := g_gd e
  refine q_iald dX7_turnedName_5 rfl h1 ?_
  refine r_iload_n dX7_turnedName_6 rfl rfl ?_
  refine r_imul dX7_turnedName_7 ?_
  refine r_aload_n dX7_turnedName_8 rfl rfl ?_
  refine q_getr dX7_turnedName_9 flX7_36 rfl rfl (m_fr_64_10 _) ?_
  refine r_iload_n dX7_turnedName_12 rfl rfl ?_
  refine q_iald dX7_turnedName_13 rfl h1 ?_
  refine r_iadd dX7_turnedName_14 ?_
  refine r_bipush (x := 100) dX7_turnedName_15 (by decide) ?_
  refine q_irem dX7_turnedName_17 (by decide) ?_
  have e := Option.some.inj e
  subst e
  exact r_ret dX7_turnedName_18 rfl rfl
/-! X7_ownerOf -/
def f_X7_ownerOf (g : (Nat → Nat → Int32)) (a1 : Int32) (a2 : Int32) : Option Int32 :=
  (if m_in a1 4 then
(if m_in (f_X7_cell a1 a2 (g 67 a1.toNatClampNeg)) 288 then
some (g 76 (f_X7_cell a1 a2 (g 67 a1.toNatClampNeg)).toNatClampNeg) else none) else none)
set_option maxRecDepth 100000 in
set_option maxHeartbeats 4000000 in
theorem c_X7_ownerOf {G : mG} {g : (Nat → Nat → Int32)} {b : Bool} {a1 : Int32} {a2 : Int32} {R : Int32} (e : f_X7_ownerOf g a1 a2 = some R) : MC G mX7_ownerOf 1 0 0 [.ref 64, .int a1, .int a2] (m_h g b) (some (.int R)) (m_h g b) := by
  refine MC_intro mlX7_ownerOf (Nat.le_of_ble_eq_true rfl) ⟨_, rfl⟩ rfl trivial ?_
  unfold f_X7_ownerOf at e
  refine r_aload_n dX7_ownerOf_0 rfl rfl ?_
  refine q_getr dX7_ownerOf_1 flX7_45 rfl rfl (m_fr_64_14 _) ?_
  refine r_iload_n dX7_ownerOf_4 rfl rfl ?_
  refine r_iload_n dX7_ownerOf_5 rfl rfl ?_
  refine r_aload_n dX7_ownerOf_6 rfl rfl ?_
  refine q_getr dX7_ownerOf_7 flX7_18 rfl rfl (m_fr_64_4 _) ?_
  refine r_iload_n dX7_ownerOf_10 rfl rfl ?_
  obtain ⟨h1, e⟩ := g_gd e
  refine q_iald dX7_ownerOf_11 rfl h1 ?_
  refine q_callS (rest := [.ref 76]) (c_X7_cell rfl) dX7_ownerOf_12 lkX7_127 rfl rfl (Nat.le_of_ble_eq_true rfl) (by decide) ?_
  obtain ⟨h2, e⟩ := g_gd e
  refine q_iald dX7_ownerOf_15 rfl h2 ?_
  have e := Option.some.inj e
  subst e
  exact r_ret dX7_ownerOf_16 rfl rfl
/-! X7_stays -/
def lp_X7_stays_27 (g : (Nat → Nat → Int32)) (a1 : Int32) (a2 : Int32) (y2_3 : Int32) (y13_4 : Int32) (k2 : (Int32 → Option Bool)) (k13 : (Int32 → Option Bool)) : Nat → Int32 → Option Bool
  | 0, _ => none
  | n + 1, y27_5 =>
  (if m_in y2_3 4 then
(if (g 65 y2_3.toNatClampNeg) ≤ y27_5 then
k13 (y13_4 + 1)
else
(if m_in (f_X7_cell y2_3 y13_4 y27_5) 288 then
(if m_in ((6 * y2_3) + y27_5) 24 then
(if (g 70 ((6 * y2_3) + y27_5).toNatClampNeg) = 2 then
(if (g 76 (f_X7_cell y2_3 y13_4 y27_5).toNatClampNeg) = (-2147483648) then
lp_X7_stays_27 g a1 a2 y2_3 y13_4 k2 k13 n (y27_5 + 1)
else
((f_X7_ownerOf g y2_3 y13_4).bind fun v27007 =>
(if v27007 = a1 then
(bif (f_X7_in ((g 76 (f_X7_cell y2_3 y13_4 y27_5).toNatClampNeg) + a2) 0 9999) then
lp_X7_stays_27 g a1 a2 y2_3 y13_4 k2 k13 n (y27_5 + 1)
else
some false)
else
lp_X7_stays_27 g a1 a2 y2_3 y13_4 k2 k13 n (y27_5 + 1))))
else
lp_X7_stays_27 g a1 a2 y2_3 y13_4 k2 k13 n (y27_5 + 1)) else none) else none)) else none)
def lp_X7_stays_13 (g : (Nat → Nat → Int32)) (a1 : Int32) (a2 : Int32) (y2_3 : Int32) (k2 : (Int32 → Option Bool)) : Nat → Int32 → Option Bool
  | 0, _ => none
  | n + 1, y13_4 =>
  (if m_in y2_3 4 then
(if (g 66 y2_3.toNatClampNeg) ≤ y13_4 then
k2 (y2_3 + 1)
else
lp_X7_stays_27 g a1 a2 y2_3 y13_4 k2 (fun y13_4 => lp_X7_stays_13 g a1 a2 y2_3 k2 n y13_4) 2000 0) else none)
def lp_X7_stays_2 (g : (Nat → Nat → Int32)) (a1 : Int32) (a2 : Int32) : Nat → Int32 → Option Bool
  | 0, _ => none
  | n + 1, y2_3 =>
  (if (g 64 1) ≤ y2_3 then
some true
else
lp_X7_stays_13 g a1 a2 y2_3 (fun y2_3 => lp_X7_stays_2 g a1 a2 n y2_3) 2000 0)
def f_X7_stays (g : (Nat → Nat → Int32)) (a1 : Int32) (a2 : Int32) : Option Bool :=
  lp_X7_stays_2 g a1 a2 2000 0
set_option maxRecDepth 100000 in
set_option maxHeartbeats 4000000 in
theorem w_X7_stays_27 {G : mG} {b : Bool} {g : (Nat → Nat → Int32)} {a1 : Int32} {a2 : Int32} {y2_3 : Int32} {y13_4 : Int32} {k2 : (Int32 → Option Bool)} {k13 : (Int32 → Option Bool)} (hk2 : ∀ (y2_3 : Int32) (R : Bool), k2 y2_3 = some R → MW G mX7_stays 2 0 0 2 [.ref 64, .int a1, .int a2, .int y2_3, .retAddr 0, .retAddr 0, .retAddr 0] [] (m_h g b) (some (.int (m_bi R))) (m_h g b)) (hk13 : ∀ (y13_4 : Int32) (R : Bool), k13 y13_4 = some R → MW G mX7_stays 2 0 0 13 [.ref 64, .int a1, .int a2, .int y2_3, .int y13_4, .retAddr 0, .retAddr 0] [] (m_h g b) (some (.int (m_bi R))) (m_h g b)) : ∀ (n : Nat) (y27_5 : Int32) (R : Bool), lp_X7_stays_27 g a1 a2 y2_3 y13_4 k2 k13 n y27_5 = some R → MW G mX7_stays 2 0 0 27 [.ref 64, .int a1, .int a2, .int y2_3, .int y13_4, .int y27_5, .retAddr 0] [] (m_h g b) (some (.int (m_bi R))) (m_h g b)
  | 0, _, R, e => absurd (show (none : Option Bool) = some R from e) (fun h => by cases h)
  | n + 1, y27_5, R, e => by
    rw [lp_X7_stays_27] at e
    refine r_iload dX7_stays_27 rfl ?_
    refine r_aload_n dX7_stays_29 rfl rfl ?_
    refine q_getr dX7_stays_30 flX7_9 rfl rfl (m_fr_64_2 _) ?_
    refine r_iload_n dX7_stays_33 rfl rfl ?_
    obtain ⟨h27001, e⟩ := g_gd e
    refine q_iald dX7_stays_34 rfl h27001 ?_
    refine r_icmp_ge (tgt := 109) dX7_stays_35 (by decide) (fun h27002 => ?_) (fun h27002 => ?_)
    · have e := g_iT h27002 e
      refine r_iinc (y := 1) dX7_stays_109 rfl (by decide) (by decide) rfl ?_
      refine r_goto (tgt := 13) dX7_stays_112 (by decide) ?_
      refine r_forget 5 rfl ?_
      exact hk13 _ R e
    · have e := g_iF h27002 e
      refine r_aload_n dX7_stays_38 rfl rfl ?_
      refine q_getr dX7_stays_39 flX7_45 rfl rfl (m_fr_64_14 _) ?_
      refine r_iload_n dX7_stays_42 rfl rfl ?_
      refine r_iload dX7_stays_43 rfl ?_
      refine r_iload dX7_stays_45 rfl ?_
      refine q_callS (rest := [.ref 76]) (c_X7_cell rfl) dX7_stays_47 lkX7_127 rfl rfl (Nat.le_of_ble_eq_true rfl) (by decide) ?_
      obtain ⟨h27003, e⟩ := g_gd e
      refine q_iald dX7_stays_50 rfl h27003 ?_
      refine r_istore dX7_stays_51 (by decide) rfl ?_
      refine r_aload_n dX7_stays_53 rfl rfl ?_
      refine q_getr dX7_stays_54 flX7_27 rfl rfl (m_fr_64_7 _) ?_
      refine r_bipush (x := 6) dX7_stays_57 (by decide) ?_
      refine r_iload_n dX7_stays_59 rfl rfl ?_
      refine r_imul dX7_stays_60 ?_
      refine r_iload dX7_stays_61 rfl ?_
      refine r_iadd dX7_stays_63 ?_
      obtain ⟨h27004, e⟩ := g_gd e
      refine q_iald dX7_stays_64 rfl h27004 ?_
      refine r_iconst (x := 2) dX7_stays_65 (by decide) ?_
      refine r_icmp_ne (tgt := 103) dX7_stays_66 (by decide) (fun h27005 => ?_) (fun h27005 => ?_)
      · have e := g_iF h27005 e
        refine r_iinc (y := 1) dX7_stays_103 rfl (by decide) (by decide) rfl ?_
        refine r_goto (tgt := 27) dX7_stays_106 (by decide) ?_
        refine r_forget 6 rfl ?_
        exact w_X7_stays_27 hk2 hk13 n _ R e
      · have e := g_iT h27005 e
        refine r_iload dX7_stays_69 rfl ?_
        refine r_ldc (x := (-2147483648)) dX7_stays_71 kcX7_119 ?_
        refine r_icmp_eq (tgt := 103) dX7_stays_73 (by decide) (fun h27006 => ?_) (fun h27006 => ?_)
        · have e := g_iT h27006 e
          refine r_iinc (y := 1) dX7_stays_103 rfl (by decide) (by decide) rfl ?_
          refine r_goto (tgt := 27) dX7_stays_106 (by decide) ?_
          refine r_forget 6 rfl ?_
          exact w_X7_stays_27 hk2 hk13 n _ R e
        · have e := g_iF h27006 e
          refine r_aload_n dX7_stays_76 rfl rfl ?_
          refine r_iload_n dX7_stays_77 rfl rfl ?_
          refine r_iload dX7_stays_78 rfl ?_
          obtain ⟨v27007, h27008, e⟩ := g_bd e
          refine q_callV (rest := []) (c_X7_ownerOf h27008) dX7_stays_80 lkX7_143 rfl rfl rfl rfl (Nat.le_of_ble_eq_true rfl) (by decide) ?_
          refine r_iload_n dX7_stays_83 rfl rfl ?_
          refine r_icmp_ne (tgt := 103) dX7_stays_84 (by decide) (fun h27009 => ?_) (fun h27009 => ?_)
          · have e := g_iF h27009 e
            refine r_iinc (y := 1) dX7_stays_103 rfl (by decide) (by decide) rfl ?_
            refine r_goto (tgt := 27) dX7_stays_106 (by decide) ?_
            refine r_forget 6 rfl ?_
            exact w_X7_stays_27 hk2 hk13 n _ R e
          · have e := g_iT h27009 e
            refine r_iload dX7_stays_87 rfl ?_
            refine r_iload_n dX7_stays_89 rfl rfl ?_
            refine r_iadd dX7_stays_90 ?_
            refine r_iconst (x := 0) dX7_stays_91 (by decide) ?_
            refine r_sipush (x := 9999) dX7_stays_92 (by decide) ?_
            refine q_callS (rest := []) (c_X7_in rfl) dX7_stays_95 lkX7_95 rfl rfl (Nat.le_of_ble_eq_true rfl) (by decide) ?_
            refine r_ifneB (tgt := 103) dX7_stays_98 (by decide) (fun h27010 => ?_) (fun h27010 => ?_)
            · have e := g_cT h27010 e
              refine r_iinc (y := 1) dX7_stays_103 rfl (by decide) (by decide) rfl ?_
              refine r_goto (tgt := 27) dX7_stays_106 (by decide) ?_
              refine r_forget 6 rfl ?_
              exact w_X7_stays_27 hk2 hk13 n _ R e
            · have e := g_cF h27010 e
              refine r_iconst (x := 0) dX7_stays_101 (by decide) ?_
              have e := Option.some.inj e
              subst e
              exact r_ret dX7_stays_102 rfl rfl
set_option maxRecDepth 100000 in
set_option maxHeartbeats 4000000 in
theorem w_X7_stays_13 {G : mG} {b : Bool} {g : (Nat → Nat → Int32)} {a1 : Int32} {a2 : Int32} {y2_3 : Int32} {k2 : (Int32 → Option Bool)} (hk2 : ∀ (y2_3 : Int32) (R : Bool), k2 y2_3 = some R → MW G mX7_stays 2 0 0 2 [.ref 64, .int a1, .int a2, .int y2_3, .retAddr 0, .retAddr 0, .retAddr 0] [] (m_h g b) (some (.int (m_bi R))) (m_h g b)) : ∀ (n : Nat) (y13_4 : Int32) (R : Bool), lp_X7_stays_13 g a1 a2 y2_3 k2 n y13_4 = some R → MW G mX7_stays 2 0 0 13 [.ref 64, .int a1, .int a2, .int y2_3, .int y13_4, .retAddr 0, .retAddr 0] [] (m_h g b) (some (.int (m_bi R))) (m_h g b)
  | 0, _, R, e => absurd (show (none : Option Bool) = some R from e) (fun h => by cases h)
  | n + 1, y13_4, R, e => by
    rw [lp_X7_stays_13] at e
    refine r_iload dX7_stays_13 rfl ?_
    refine r_aload_n dX7_stays_15 rfl rfl ?_
    refine q_getr dX7_stays_16 flX7_15 rfl rfl (m_fr_64_3 _) ?_
    refine r_iload_n dX7_stays_19 rfl rfl ?_
    obtain ⟨h13001, e⟩ := g_gd e
    refine q_iald dX7_stays_20 rfl h13001 ?_
    refine r_icmp_ge (tgt := 115) dX7_stays_21 (by decide) (fun h13002 => ?_) (fun h13002 => ?_)
    · have e := g_iT h13002 e
      refine r_iinc (y := 1) dX7_stays_115 rfl (by decide) (by decide) rfl ?_
      refine r_goto (tgt := 2) dX7_stays_118 (by decide) ?_
      refine r_forget 4 rfl ?_
      exact hk2 _ R e
    · have e := g_iF h13002 e
      refine r_iconst (x := 0) dX7_stays_24 (by decide) ?_
      refine r_istore dX7_stays_25 (by decide) rfl ?_
      exact w_X7_stays_27 hk2 (fun y13_4 R e => w_X7_stays_13 hk2 n y13_4 R e) 2000 _ R e
set_option maxRecDepth 100000 in
set_option maxHeartbeats 4000000 in
theorem w_X7_stays_2 {G : mG} {b : Bool} {g : (Nat → Nat → Int32)} {a1 : Int32} {a2 : Int32} : ∀ (n : Nat) (y2_3 : Int32) (R : Bool), lp_X7_stays_2 g a1 a2 n y2_3 = some R → MW G mX7_stays 2 0 0 2 [.ref 64, .int a1, .int a2, .int y2_3, .retAddr 0, .retAddr 0, .retAddr 0] [] (m_h g b) (some (.int (m_bi R))) (m_h g b)
  | 0, _, R, e => absurd (show (none : Option Bool) = some R from e) (fun h => by cases h)
  | n + 1, y2_3, R, e => by
    rw [lp_X7_stays_2] at e
    refine r_iload_n dX7_stays_2 rfl rfl ?_
    refine r_aload_n dX7_stays_3 rfl rfl ?_
    refine q_geti dX7_stays_4 flX7_92 rfl rfl ?_
    refine r_icmp_ge (tgt := 121) dX7_stays_7 (by decide) (fun h2001 => ?_) (fun h2001 => ?_)
    · have e := g_iT h2001 e
      refine r_iconst (x := 1) dX7_stays_121 (by decide) ?_
      have e := Option.some.inj e
      subst e
      exact r_ret dX7_stays_122 rfl rfl
    · have e := g_iF h2001 e
      refine r_iconst (x := 0) dX7_stays_10 (by decide) ?_
      refine r_istore dX7_stays_11 (by decide) rfl ?_
      exact w_X7_stays_13 (fun y2_3 R e => w_X7_stays_2 n y2_3 R e) 2000 _ R e
set_option maxRecDepth 100000 in
set_option maxHeartbeats 4000000 in
theorem c_X7_stays {G : mG} {g : (Nat → Nat → Int32)} {b : Bool} {a1 : Int32} {a2 : Int32} {R : Bool} (e : f_X7_stays g a1 a2 = some R) : MC G mX7_stays 2 0 0 [.ref 64, .int a1, .int a2] (m_h g b) (some (.int (m_bi R))) (m_h g b) := by
  refine MC_intro mlX7_stays (Nat.le_of_ble_eq_true rfl) (m_okZ _) rfl trivial ?_
  unfold f_X7_stays at e
  refine r_iconst (x := 0) dX7_stays_0 (by decide) ?_
  refine r_istore_n dX7_stays_1 rfl (by decide) rfl ?_
  exact w_X7_stays_2 2000 _ R e
/-! X7_shiftOf -/
def lp_X7_shiftOf_10 (g : (Nat → Nat → Int32)) (a1 : Int32) : Nat → Int32 → Option Int32
  | 0, _ => none
  | n + 1, y10_2 =>
  ((f_X7_stays g a1 ((m_rem ((a1 + (g 64 13)) + y10_2) 61) - 30)).bind fun v10001 =>
(bif v10001 then
some ((m_rem ((a1 + (g 64 13)) + y10_2) 61) - 30)
else
lp_X7_shiftOf_10 g a1 n (y10_2 + 1)))
def f_X7_shiftOf (g : (Nat → Nat → Int32)) (a1 : Int32) : Option Int32 :=
  (if a1 = (-2147483648) then
some 0
else
lp_X7_shiftOf_10 g a1 2000 0)
set_option maxRecDepth 100000 in
set_option maxHeartbeats 4000000 in
theorem w_X7_shiftOf_10 {G : mG} {b : Bool} {g : (Nat → Nat → Int32)} {a1 : Int32} : ∀ (n : Nat) (y10_2 : Int32) (R : Int32), lp_X7_shiftOf_10 g a1 n y10_2 = some R → MW G mX7_shiftOf 3 0 0 10 [.ref 64, .int a1, .int y10_2] [] (m_h g b) (some (.int R)) (m_h g b)
  | 0, _, R, e => absurd (show (none : Option Int32) = some R from e) (fun h => by cases h)
  | n + 1, y10_2, R, e => by
    rw [lp_X7_shiftOf_10] at e
    refine r_aload_n dX7_shiftOf_10 rfl rfl ?_
    refine r_iload_n dX7_shiftOf_11 rfl rfl ?_
    refine r_iload_n dX7_shiftOf_12 rfl rfl ?_
    refine r_aload_n dX7_shiftOf_13 rfl rfl ?_
    refine q_geti dX7_shiftOf_14 flX7_137 rfl rfl ?_
    refine r_iadd dX7_shiftOf_17 ?_
    refine r_iload_n dX7_shiftOf_18 rfl rfl ?_
    refine r_iadd dX7_shiftOf_19 ?_
    refine r_bipush (x := 61) dX7_shiftOf_20 (by decide) ?_
    refine q_irem dX7_shiftOf_22 (by decide) ?_
    refine r_bipush (x := 30) dX7_shiftOf_23 (by decide) ?_
    refine r_isub dX7_shiftOf_25 ?_
    obtain ⟨v10001, h10002, e⟩ := g_bd e
    refine q_callV (rest := []) (c_X7_stays h10002) dX7_shiftOf_26 lkX7_140 rfl rfl rfl rfl (Nat.le_of_ble_eq_true rfl) (by decide) ?_
    refine r_ifneB (tgt := 38) dX7_shiftOf_29 (by decide) (fun h10003 => ?_) (fun h10003 => ?_)
    · have e := g_cT h10003 e
      refine r_iload_n dX7_shiftOf_38 rfl rfl ?_
      refine r_aload_n dX7_shiftOf_39 rfl rfl ?_
      refine q_geti dX7_shiftOf_40 flX7_137 rfl rfl ?_
      refine r_iadd dX7_shiftOf_43 ?_
      refine r_iload_n dX7_shiftOf_44 rfl rfl ?_
      refine r_iadd dX7_shiftOf_45 ?_
      refine r_bipush (x := 61) dX7_shiftOf_46 (by decide) ?_
      refine q_irem dX7_shiftOf_48 (by decide) ?_
      refine r_bipush (x := 30) dX7_shiftOf_49 (by decide) ?_
      refine r_isub dX7_shiftOf_51 ?_
      have e := Option.some.inj e
      subst e
      exact r_ret dX7_shiftOf_52 rfl rfl
    · have e := g_cF h10003 e
      refine r_iinc (y := 1) dX7_shiftOf_32 rfl (by decide) (by decide) rfl ?_
      refine r_goto (tgt := 10) dX7_shiftOf_35 (by decide) ?_
      exact w_X7_shiftOf_10 n _ R e
set_option maxRecDepth 100000 in
set_option maxHeartbeats 4000000 in
theorem c_X7_shiftOf {G : mG} {g : (Nat → Nat → Int32)} {b : Bool} {a1 : Int32} {R : Int32} (e : f_X7_shiftOf g a1 = some R) : MC G mX7_shiftOf 3 0 0 [.ref 64, .int a1] (m_h g b) (some (.int R)) (m_h g b) := by
  refine MC_intro mlX7_shiftOf (Nat.le_of_ble_eq_true rfl) ⟨_, rfl⟩ rfl trivial ?_
  unfold f_X7_shiftOf at e
  refine r_iload_n dX7_shiftOf_0 rfl rfl ?_
  refine r_ldc (x := (-2147483648)) dX7_shiftOf_1 kcX7_119 ?_
  refine r_icmp_ne (tgt := 8) dX7_shiftOf_3 (by decide) (fun h1 => ?_) (fun h1 => ?_)
  · have e := g_iF h1 e
    refine r_iconst (x := 0) dX7_shiftOf_8 (by decide) ?_
    refine r_istore_n dX7_shiftOf_9 rfl (by decide) rfl ?_
    exact w_X7_shiftOf_10 2000 _ R e
  · have e := g_iT h1 e
    refine r_iconst (x := 0) dX7_shiftOf_6 (by decide) ?_
    have e := Option.some.inj e
    subst e
    exact r_ret dX7_shiftOf_7 rfl rfl
/-! X7_coarse -/
def f_X7_coarse (a1 : Int32) (a2 : Int32) : Option Int32 :=
  (if ¬ a2 = 0 then
(if 0 ≤ (m_rem a1 a2) then
some (a1 - (m_rem a1 a2))
else
some (a1 - ((m_rem a1 a2) + a2))) else none)
set_option maxRecDepth 100000 in
set_option maxHeartbeats 4000000 in
theorem c_X7_coarse {G : mG} {g : (Nat → Nat → Int32)} {b : Bool} {a1 : Int32} {a2 : Int32} {R : Int32} (e : f_X7_coarse a1 a2 = some R) : MC G mX7_coarse 0 0 0 [.int a1, .int a2] (m_h g b) (some (.int R)) (m_h g b) := by
  refine MC_intro mlX7_coarse (Nat.le_of_ble_eq_true rfl) ⟨_, rfl⟩ rfl trivial ?_
  unfold f_X7_coarse at e
  refine r_iload_n dX7_coarse_0 rfl rfl ?_
  refine r_iload_n dX7_coarse_1 rfl rfl ?_
  obtain ⟨h1, e⟩ := g_gd e
  refine q_irem dX7_coarse_2 h1 ?_
  refine r_istore_n dX7_coarse_3 rfl (by decide) rfl ?_
  refine r_iload_n dX7_coarse_4 rfl rfl ?_
  refine r_iload_n dX7_coarse_5 rfl rfl ?_
  refine r_if_ge (tgt := 15) dX7_coarse_6 (by decide) (fun h2 => ?_) (fun h2 => ?_)
  · have e := g_iT h2 e
    refine r_iload_n dX7_coarse_15 rfl rfl ?_
    refine r_isub dX7_coarse_16 ?_
    have e := Option.some.inj e
    subst e
    exact r_ret dX7_coarse_17 rfl rfl
  · have e := g_iF h2 e
    refine r_iload_n dX7_coarse_9 rfl rfl ?_
    refine r_iload_n dX7_coarse_10 rfl rfl ?_
    refine r_iadd dX7_coarse_11 ?_
    refine r_goto (tgt := 16) dX7_coarse_12 (by decide) ?_
    refine r_isub dX7_coarse_16 ?_
    have e := Option.some.inj e
    subst e
    exact r_ret dX7_coarse_17 rfl rfl
