/-! ===== the law, from its entry ===== -/
set_option maxHeartbeats 4000000 in
set_option maxRecDepth 100000 in
theorem whole_start {p : Program} {e : Env} {s : State} {m : MethodId} {below : List Frame} {meth : Method} {c : Code} (l : Launch) {b L : Nat} {xs : Nat → Int32} (hL : L ≤ 3584) (C0 : lw_At p s m meth c b L xs) : W p l e room_1 s m #[Value.ref b] below meth c s.heap [] 0 0 (lw_Z below #[Value.ref b] s) (entryFrame m ([Value.ref b] : List Value).toArray 4) := by
  obtain ⟨hx, hb, hr, hml, hown, hts, hX, hbl, hlocks, hgv⟩ := id C0
  have htm : ∀ w ∈ m_tbl, w.before #[Value.ref b] s = true := fun w hw => hts w (List.mem_filter.mp hw).1
  obtain ⟨c0, i0, k0⟩ := u_known htm (m_cl (ci := 0) (by decide)).2.1 (htm _ kn_0)
  obtain ⟨c1, i1, k1⟩ := u_known htm (m_cl (ci := 1) (by decide)).2.1 (htm _ kn_1)
  obtain ⟨c2, i2, k2⟩ := u_known htm (m_cl (ci := 2) (by decide)).2.1 (htm _ kn_2)
  obtain ⟨c3, i3, k3⟩ := u_known htm (m_cl (ci := 3) (by decide)).2.1 (htm _ kn_3)
  obtain ⟨c4, i4, k4⟩ := u_known htm (m_cl (ci := 4) (by decide)).2.1 (htm _ kn_4)
  obtain ⟨c5, i5, k5⟩ := u_known htm (m_cl (ci := 5) (by decide)).2.1 (htm _ kn_5)
  obtain ⟨c6, i6, k6⟩ := u_known htm (m_cl (ci := 6) (by decide)).2.1 (htm _ kn_6)
  obtain ⟨c7, i7, k7⟩ := u_known htm (m_cl (ci := 7) (by decide)).2.1 (htm _ kn_7)
  obtain ⟨D, hD⟩ : ∃ D : va_G, ∀ (k : Nat) (q : vw_C), vwCl[k]? = some q → u_Kn s q.1 q.2.1 q.2.2 (D.1 k) (D.2 k) := by
    refine ⟨(fun k => match k with | 0 => c0 | 1 => c1 | 2 => c2 | 3 => c3 | 4 => c4 | 5 => c5 | 6 => c6 | _ => c7, fun k => match k with | 0 => i0 | 1 => i1 | 2 => i2 | 3 => i3 | 4 => i4 | 5 => i5 | 6 => i6 | _ => i7), ?_⟩
    intro k q hq
    match k, hq with
    | 0, hq => cases hq; exact k0
    | 1, hq => cases hq; exact k1
    | 2, hq => cases hq; exact k2
    | 3, hq => cases hq; exact k3
    | 4, hq => cases hq; exact k4
    | 5, hq => cases hq; exact k5
    | 6, hq => cases hq; exact k6
    | 7, hq => cases hq; exact k7
    | k + 8, hq => simp [vwCl] at hq
  have o0 := hts (.arrayOver (.object RX0)) (by decide +kernel)
  have o3 := hts (.arrayOver (.object RX3)) (by decide +kernel)
  have o4 := hts (.arrayOver (.object RX4)) (by decide +kernel)
  obtain ⟨a0, ka0, ca0, f01, f02, f03⟩ := Cond.arrayClass_spec (htm _ ka_0)
  obtain ⟨a1, ka1, ca1, f11, f12, f13⟩ := Cond.arrayClass_spec (htm _ ka_1)
  obtain ⟨ca2, a2, ka2, f21, f22, f23, f24, f25⟩ := Cond.arrayOver_spec o0
  obtain ⟨ca3, a3, ka3, f31, f32, f33, f34, f35⟩ := Cond.arrayOver_spec o4
  obtain ⟨ca4, a4, ka4, f41, f42, f43, f44, f45⟩ := Cond.arrayOver_spec o3
  have hs := flat_of_before _ hgv
  have hAn : ∀ a : Nat, a < s.heap.size → ¬ (fun q : Nat => s.heap.size ≤ q) a := fun a ha q => Nat.not_le.mpr ha q
  obtain ⟨w, hw1, hw2⟩ := va_Tof (A := fun q : Nat => s.heap.size ≤ q) (tm := .static "MaskedCopies$WidthSearch" "WIDTHS" "[I") (ty := .int) (N := 4) (f := fun j => .int (m_wid j)) (by decide) (hs _ (by decide +kernel)) (va_eqt (hs (.eq (.length (.static "MaskedCopies$WidthSearch" "WIDTHS" "[I")) (.int 4)) (by decide +kernel))) (fun j hj => by
    match j, hj with
    | 0, _ => exact va_eqt (hs (.eq (.elem (.static "MaskedCopies$WidthSearch" "WIDTHS" "[I") (.int 0)) (.int 1)) (by decide +kernel))
    | 1, _ => exact va_eqt (hs (.eq (.elem (.static "MaskedCopies$WidthSearch" "WIDTHS" "[I") (.int 1)) (.int 10)) (by decide +kernel))
    | 2, _ => exact va_eqt (hs (.eq (.elem (.static "MaskedCopies$WidthSearch" "WIDTHS" "[I") (.int 2)) (.int 100)) (by decide +kernel))
    | 3, _ => exact va_eqt (hs (.eq (.elem (.static "MaskedCopies$WidthSearch" "WIDTHS" "[I") (.int 3)) (.int 1000)) (by decide +kernel))
    | j + 4, h => exact absurd h (by omega)) hAn
  have hZ : va_Z "MaskedCopies$WidthSearch" "WIDTHS" "[I" (.ref w) (fun q : Nat => s.heap.size ≤ q) s s.heap := va_Zref (hts (.laysStatic "MaskedCopies$WidthSearch" "WIDTHS" "[I") (by decide +kernel)) (htm _ ki_5) hw1 hAn
  obtain ⟨G, hG⟩ : ∃ G : mG, G = (l, D, (fun k => match k with | 0 => a0 | 1 => a1 | 2 => a2 | 3 => a3 | _ => a4), s.heap.size, b, w) := ⟨_, rfl⟩
  have hK : va_K G.2.1 vwCl (m_tys G) s := by
    subst hG
    refine ⟨hD, fun k q hq => ?_⟩
    match k, hq with
    | 0, hq => cases hq; exact ⟨fun n z => ⟨fun k h => (by cases h), ka0, f02, ca0, f03⟩, f01⟩
    | 1, hq => cases hq; exact ⟨fun n z => ⟨fun k h => (by cases h), ka1, f12, ca1, f13⟩, f11⟩
    | 2, hq => cases hq; exact ⟨fun n z => ⟨fun k h => (by cases h), ka2, f23, ca2, f24⟩, ka2, ca2, f23, f24, f21, f25⟩
    | 3, hq => cases hq; exact ⟨fun n z => ⟨fun k h => (by cases h), ka3, f33, ca3, f34⟩, ka3, ca3, f33, f34, f31, f35⟩
    | 4, hq => cases hq; exact ⟨fun n z => ⟨fun k h => (by cases h), ka4, f43, ca4, f44⟩, ka4, ca4, f43, f44, f41, f45⟩
    | k + 5, hq => simp [m_tys] at hq
  have hN : m_N s := by
    refine ⟨fun q hq => ?_, fun K hK => ?_⟩
    · simp only [m_nst, List.mem_cons, List.not_mem_nil, or_false] at hq
      rcases hq with rfl | rfl | rfl | rfl | rfl | rfl
      · exact va_Nw.of rfl (hts (.methodLinkNest RX6 29 yX1_init RX6) (by decide +kernel))
      · exact va_Nw.of rfl (hts (.methodLinkNest RX6 36 yX2_init RX6) (by decide +kernel))
      · exact va_Nw.of rfl (hts (.methodLinkNest RX6 43 yX5_init RX6) (by decide +kernel))
      · exact va_Nw.of rfl (hts (.methodLinkNest RX6 72 yX3_init RX6) (by decide +kernel))
      · exact va_Nw.of rfl (hts (.methodLinkNest RX4 34 yX0_init RX6) (by decide +kernel))
      · exact va_Nw.of rfl (hts (.methodLinkNest RX4 52 yX6_rightFigure RX6) (by decide +kernel))
    · simp only [List.mem_cons, List.not_mem_nil, or_false] at hK
      rcases hK with rfl | rfl | rfl
      · exact va_AO.of o0
      · exact va_AO.of o3
      · exact va_AO.of o4
  have C : LC G p room_1 s m #[Value.ref b] c L xs := by
    refine ⟨⟨hx, hb, hml, hown, htm⟩, ⟨hK, ?_, hN⟩, ?_, by decide, by decide⟩
    · subst hG; exact ⟨hZ, hw2⟩
    · subst hG; exact ⟨hX, hbl, Nat.not_le.mpr hbl⟩
  have hP : m_P G m_e s.heap := by
    subst hG
    exact ⟨fun a sh h => by simp [m_e] at h, rfl, by decide⟩
  have hl := lv_entry ([.ref b]) (n := 4) (Nat.le_of_ble_eq_true rfl)
  rw [lg_entry_eq]
  generalize (lg_sl ([.ref b]) ++ List.replicate (4 - (lg_sl ([.ref b])).length) Slot.unset).toArray = ls at hl ⊢
  have hl2 : lv_has ls 4 (m_lv G 0 [.ref 1000000, .retAddr 0, .retAddr 0, .retAddr 0]) := by
    subst hG
    exact hl
  have e64 : hx62.1.length = 64 := by decide +kernel
  have hl1 : G.1 = l := by subst hG; rfl
  have hcs : 0 + 1 + 63 + 1 + 25 ≤ room_1.cells ∧ 0 + m_nF 6 + 1511 + m_nF 7 + 1422 ≤ room_1.slots := by decide
  have fin : ∀ (L : List Value) (h : mH), ML G p e room_1 s m #[Value.ref b] below meth c (lw_Z below #[Value.ref b] s) (0 + 1 + 63 + 1 + 25) (0 + m_nF 6 + 1511 + m_nF 7 + 1422) 1172 L [] h := by
    intro L' h' H locs ls' hP' hS' hl'
    have hS9 : ∀ q ∈ locs, s.heap.size ≤ q.base := by
      intro q hq
      have := hS'.2.2 q hq
      subst hG
      exact this
    refine lv_iconst (v := 1) hx hb dL_law_1172 (by decide) ?_
    refine va_forget hS9 ?_
    refine W.widen (k := 600000) (n := 7302249) (by decide) (by decide) ?_
    exact lw_ret hx hb hr hlocks dL_law_1173
  have M0 : ML G p e room_1 s m #[Value.ref b] below meth c (lw_Z below #[Value.ref b] s) 0 0 0 [.ref 1000000, .retAddr 0, .retAddr 0, .retAddr 0] [] m_e := by
    refine l_new (ci := 6) C dL_law_0 (by decide) klL_7 kn_6 ki_6 (by decide) (by decide) ?_
    refine l_dup C dL_law_3 ?_
    refine l_callI (h := hx0) (b := 0) (As := []) (rest := [.ref 0]) C c_X6_init dL_law_4 lkL_9 (m_mem 72 rfl rfl) rfl rfl (by decide) (by decide) (by decide) ?_
    refine l_astore_n (i := 1) (x := 0) (st := []) C dL_law_7 rfl (by decide) rfl ?_
    refine l_new (ci := 7) C dL_law_8 (by decide) klL_10 kn_7 ki_7 (by decide +kernel) (by decide) ?_
    rw [e64]
    refine l_dup C dL_law_11 ?_
    refine l_callI (h := hm0) (b := 64) (As := []) (rest := [.ref 64]) C c_X7_init dL_law_12 lkL_12 (m_mem 686 rfl rfl) rfl rfl (by decide) (by decide) (by decide) ?_
    refine l_astore_n (i := 2) (x := 64) (st := []) C dL_law_15 rfl (by decide) rfl ?_
    refine l_iconst (x := nI 0) C dL_law_16 (by decide) ?_
    refine l_istore_n (i := 3) (x := nI 0) (st := []) C dL_law_17 rfl (by decide) rfl ?_
    have key := law_loop (e := e) (below := below) (meth := meth) C hL hcs fin (L + 1) 0 _ _ false (Nat.zero_le _) (by omega) St_0
    rw [← m_h0_eq] at key
    exact key
  have K := M0 s.heap [] ls hP va_S.rf hl2
  rw [hl1] at K
  exact K
