/-! X7_all -/
def f_X7_all (g : (Nat → Nat → Int32)) (a1 : Int32) : Int32 :=
  (if a1 = 0 then
(g 64 1)
else
(if a1 = 1 then
(g 64 20)
else
(if a1 = 2 then
(g 64 19)
else
(if a1 = 3 then
(g 64 13)
else
(if a1 = 4 then
(if (g 64 16) = 0 then
0
else
1)
else
(-1))))))
set_option maxRecDepth 100000 in
set_option maxHeartbeats 4000000 in
theorem c_X7_all {G : mG} {g : (Nat → Nat → Int32)} {b : Bool} {a1 : Int32} {R : Int32} (e : f_X7_all g a1 = R) : MC G mX7_all 0 0 0 [.ref 64, .int a1] (m_h g b) (some (.int R)) (m_h g b) := by
  refine MC_intro mlX7_all (Nat.le_of_ble_eq_true rfl) ⟨_, rfl⟩ rfl trivial ?_
  unfold f_X7_all at e
  refine r_iload_n dX7_all_0 rfl rfl ?_
  by_cases h1 : a1 = 0
  · have e := g_iT h1 e
    refine r_tabIn (off := 35) (tgt := 36) dX7_all_1 (by rw [h1]; decide) (by rw [h1]; decide) (by rw [h1]; decide) (by decide) ?_
    refine r_aload_n dX7_all_36 rfl rfl ?_
    refine q_geti dX7_all_37 flX7_92 rfl rfl ?_
    subst e
    exact r_ret dX7_all_40 rfl rfl
  have e := g_iF h1 e
  by_cases h2 : a1 = 1
  · have e := g_iT h2 e
    refine r_tabIn (off := 40) (tgt := 41) dX7_all_1 (by rw [h2]; decide) (by rw [h2]; decide) (by rw [h2]; decide) (by decide) ?_
    refine r_aload_n dX7_all_41 rfl rfl ?_
    refine q_geti dX7_all_42 flX7_162 rfl rfl ?_
    subst e
    exact r_ret dX7_all_45 rfl rfl
  have e := g_iF h2 e
  by_cases h3 : a1 = 2
  · have e := g_iT h3 e
    refine r_tabIn (off := 45) (tgt := 46) dX7_all_1 (by rw [h3]; decide) (by rw [h3]; decide) (by rw [h3]; decide) (by decide) ?_
    refine r_aload_n dX7_all_46 rfl rfl ?_
    refine q_geti dX7_all_47 flX7_116 rfl rfl ?_
    subst e
    exact r_ret dX7_all_50 rfl rfl
  have e := g_iF h3 e
  by_cases h4 : a1 = 3
  · have e := g_iT h4 e
    refine r_tabIn (off := 50) (tgt := 51) dX7_all_1 (by rw [h4]; decide) (by rw [h4]; decide) (by rw [h4]; decide) (by decide) ?_
    refine r_aload_n dX7_all_51 rfl rfl ?_
    refine q_geti dX7_all_52 flX7_137 rfl rfl ?_
    subst e
    exact r_ret dX7_all_55 rfl rfl
  have e := g_iF h4 e
  by_cases h5 : a1 = 4
  · have e := g_iT h5 e
    refine r_tabIn (off := 55) (tgt := 56) dX7_all_1 (by rw [h5]; decide) (by rw [h5]; decide) (by rw [h5]; decide) (by decide) ?_
    refine r_aload_n dX7_all_56 rfl rfl ?_
    refine q_geti dX7_all_57 flX7_112 rfl rfl ?_
    refine r_if_eq (tgt := 67) dX7_all_60 (by decide) (fun h6 => ?_) (fun h6 => ?_)
    · have e := g_iT h6 e
      refine r_iconst (x := 0) dX7_all_67 (by decide) ?_
      subst e
      exact r_ret dX7_all_68 rfl rfl
    · have e := g_iF h6 e
      refine r_iconst (x := 1) dX7_all_63 (by decide) ?_
      refine r_goto (tgt := 68) dX7_all_64 (by decide) ?_
      subst e
      exact r_ret dX7_all_68 rfl rfl
  have e := g_iF h5 e
  refine r_tabOut (tgt := 69) dX7_all_1 (m_swOut0_5 h1 h2 h3 h4 h5) (by decide) ?_
  refine r_iconst (x := (-1)) dX7_all_69 (by decide) ?_
  subst e
  exact r_ret dX7_all_70 rfl rfl
