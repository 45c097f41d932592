/-! ===== the start, the loop ===== -/
theorem h0_z : m_h0.2.1 64 1 = 0 ∧ m_h0.2.1 64 13 = 0 ∧ m_h0.2.1 64 16 = 0 ∧ m_h0.2.1 64 19 = 0 ∧ m_h0.2.1 64 20 = 0 ∧ m_h0.2.1 0 8 = 0 ∧ m_h0.2.1 0 9 = 0 ∧ m_h0.2.1 0 10 = 0 ∧ m_h0.2.1 0 11 = 0 ∧ m_h0.2.1 0 12 = 0 := by decide +kernel
theorem h0_t : ∀ t, t < 4 → (m_h0.2.1 (16 + 10 * t) 3 = 1 ∧ m_h0.2.1 (16 + 10 * t) 4 = 0 ∧ m_h0.2.1 (16 + 10 * t) 5 = 0 ∧ m_h0.2.1 (20 + 10 * t) 0 = 0 ∧ m_h0.2.1 (20 + 10 * t) 1 = 0) ∧ (∀ i, i < 5 → m_h0.2.1 (18 + 10 * t) i = 1 ∧ m_h0.2.1 (19 + 10 * t) i = 0) ∧ ∀ c, c < 6 → m_h0.2.1 (20 + 10 * t + c) 2 = 0 ∧ m_h0.2.1 (20 + 10 * t + c) 3 = 0 ∧ m_h0.2.1 (20 + 10 * t + c) 4 = 1 ∧ m_h0.2.1 (20 + 10 * t + c) 5 = 0 := by decide +kernel
theorem St_0 : St m_h0.2.1 m_h0.2.1 false := by
  obtain ⟨z1, z13, z16, z19, z20, y8, y9, y10, y11, y12⟩ := h0_z
  have eT : nT m_h0.2.1 = 0 := by unfold nT; rw [z1]; rfl
  have eW : nW m_h0.2.1 = 0 := by unfold nW; rw [z19]; rfl
  have eU : nU m_h0.2.1 = 0 := by unfold nU; rw [z20]; rfl
  have no : ∀ t, ¬ t < nT m_h0.2.1 := fun t ht => by rw [eT] at ht; exact Nat.not_lt_zero _ ht
  refine ⟨fun _ _ _ => rfl, ⟨⟨⟨by rw [z1, eT]; rfl, by rw [eT]; decide⟩, fun t ht => absurd ht (no t), fun t ht => absurd ht (no t), fun t ht => absurd ht (no t)⟩, fun t ht => absurd ht (no t), ⟨fun t ht => absurd ht (no t), by rw [z13]; decide, Or.inl z16, ⟨by rw [z19, eW]; rfl, by rw [eW]; decide⟩, by rw [z20, eU]; rfl, by rw [eU]; decide⟩, ⟨fun t ht => absurd ht (no t), fun t ht => absurd ht (no t)⟩, fun k hk => by rw [eU] at hk; exact absurd hk (Nat.not_lt_zero _), I6.z z16⟩, ⟨⟨by rw [y8, z1], by rw [y9, z20], by rw [y10, z19], by rw [y11, z13], by rw [y12, z16]⟩, fun t ht => absurd ht (no t), fun t ht => absurd ht (no t), fun t ht => absurd ht (no t), fun i hi => by rw [eW] at hi; exact absurd hi (Nat.not_lt_zero _), fun t ht => absurd ht (no t), E7.z z16, fun k hk => by rw [eU] at hk; exact absurd hk (Nat.not_lt_zero _)⟩, fun t ht => ⟨fun _ => ⟨(h0_t t ht).1, (h0_t t ht).2.1⟩, fun c hc _ => (h0_t t ht).2.2 c hc⟩⟩
section LX
variable {G : mG} {p : Program} {e : Env} {R : Room} {s : State} {m : MethodId} {args : Array Value} {below : List Frame} {meth : Method} {c : Code} {Q : State → Prop} {Lx : Nat} {xs : Nat → Int32} {cells slots : Nat}
theorem law_loop (C : LC G p R s m args c Lx xs) (hL : Lx ≤ 3584) (hcs : cells ≤ R.cells ∧ slots ≤ R.slots) (fin : ∀ (L : List Value) (h : mH), ML G p e R s m args below meth c Q cells slots 1172 L [] h) : ∀ (n i : Nat) (pp g : mI) (b : Bool), i ≤ Lx → Lx < i + n → St pp g b → ML G p e R s m args below meth c Q cells slots 18 [.ref 1000000, .ref 0, .ref 64, .int (nI i)] [] (m_h g b)
  | 0, i, pp, g, b, h1, h2, hS => by omega
  | n + 1, i, pp, g, b, h1, h2, hS => by
    refine l_iload_n C dL_law_18 rfl rfl ?_
    refine l_aload_n C dL_law_19 rfl rfl ?_
    refine l_slen C dL_law_20 ?_
    refine l_bipush (x := nI 7) C dL_law_21 (by decide) ?_
    refine l_isub C dL_law_23 ?_
    refine l_icmp_gt (tgt := 1172) C dL_law_24 (by decide) (fun _ => fin _ _) (fun q => ?_)
    have hi : i + 7 ≤ Lx := by
      have e1 := pk_sub_toInt (a := Lx) (b := 7) (by omega) (by decide)
      have e2 : (nI i).toInt = i := nI_toInt (by omega)
      have q2 : ¬ (nI Lx - nI 7).toInt < (nI i).toInt := fun y => q (Int32.lt_iff_toInt_lt.mpr y)
      rw [e1, e2] at q2
      omega
    have kk : ∀ (g2 p2 : mI) (b2 : Bool), St p2 g2 b2 → ML G p e R s m args below meth c Q cells slots 1166 [.ref 1000000, .ref 0, .ref 64, .int (nI i)] [] (m_h g2 b2) := by
      intro g2 p2 b2 h9
      refine l_iinc (y := 7) (L' := [.ref 1000000, .ref 0, .ref 64, .int (nI (i + 7))]) C dL_law_1166 rfl (by decide) (by decide) (by rw [← nI_add i 7]; rfl) ?_
      refine l_goto (tgt := 18) C dL_law_1169 (by decide) ?_
      exact law_loop C hL hcs fin n (i + 7) p2 g2 b2 hi (by omega) h9
    refine l_aload_n C dL_law_27 rfl rfl ?_
    refine l_iload_n C dL_law_28 rfl rfl ?_
    refine l_sld C dL_law_29 (by omega) hL ?_
    refine l_bipush (x := 31) C dL_law_30 (by decide) ?_
    refine l_iand C dL_law_32 ?_
    obtain ⟨j, hj, ej⟩ := pk_andE (xs i) (m := 31) 5 (by decide)
    rw [ej]
    by_cases h28 : j < 28
    · match j, h28 with
      | 0, _ => exact l_tabIn (tgt := 160) C dL_law_33 (by decide) (by decide) (off := 127) (by decide) (by decide) (law_0 C hL hi hcs hS kk)
      | 1, _ => exact l_tabIn (tgt := 173) C dL_law_33 (by decide) (by decide) (off := 140) (by decide) (by decide) (law_1 C hL hi hcs hS kk)
      | 2, _ => exact l_tabIn (tgt := 216) C dL_law_33 (by decide) (by decide) (off := 183) (by decide) (by decide) (law_2 C hL hi hcs hS kk)
      | 3, _ => exact l_tabIn (tgt := 239) C dL_law_33 (by decide) (by decide) (off := 206) (by decide) (by decide) (law_3 C hL hi hcs hS kk)
      | 4, _ => exact l_tabIn (tgt := 262) C dL_law_33 (by decide) (by decide) (off := 229) (by decide) (by decide) (law_4 C hL hi hcs hS kk)
      | 5, _ => exact l_tabIn (tgt := 275) C dL_law_33 (by decide) (by decide) (off := 242) (by decide) (by decide) (law_5 C hL hi hcs hS kk)
      | 6, _ => exact l_tabIn (tgt := 308) C dL_law_33 (by decide) (by decide) (off := 275) (by decide) (by decide) (law_6 C hL hi hcs hS kk)
      | 7, _ => exact l_tabIn (tgt := 361) C dL_law_33 (by decide) (by decide) (off := 328) (by decide) (by decide) (law_7 C hL hi hcs hS kk)
      | 8, _ => exact l_tabIn (tgt := 424) C dL_law_33 (by decide) (by decide) (off := 391) (by decide) (by decide) (law_8 C hL hi hcs hS kk)
      | 9, _ => exact l_tabIn (tgt := 447) C dL_law_33 (by decide) (by decide) (off := 414) (by decide) (by decide) (law_9 C hL hi hcs hS kk)
      | 10, _ => exact l_tabIn (tgt := 490) C dL_law_33 (by decide) (by decide) (off := 457) (by decide) (by decide) (law_10 C hL hi hcs hS kk)
      | 11, _ => exact l_tabIn (tgt := 565) C dL_law_33 (by decide) (by decide) (off := 532) (by decide) (by decide) (law_11 C hL hi hcs hS kk)
      | 12, _ => exact l_tabIn (tgt := 598) C dL_law_33 (by decide) (by decide) (off := 565) (by decide) (by decide) (law_12 C hL hi hcs hS kk)
      | 13, _ => exact l_tabIn (tgt := 611) C dL_law_33 (by decide) (by decide) (off := 578) (by decide) (by decide) (law_13 C hL hi hcs hS kk)
      | 14, _ => exact l_tabIn (tgt := 634) C dL_law_33 (by decide) (by decide) (off := 601) (by decide) (by decide) (law_14 C hL hi hcs hS kk)
      | 15, _ => exact l_tabIn (tgt := 647) C dL_law_33 (by decide) (by decide) (off := 614) (by decide) (by decide) (law_15 C hL hi hcs hS kk)
      | 16, _ => exact l_tabIn (tgt := 700) C dL_law_33 (by decide) (by decide) (off := 667) (by decide) (by decide) (law_16 C hL hi hcs hS kk)
      | 17, _ => exact l_tabIn (tgt := 743) C dL_law_33 (by decide) (by decide) (off := 710) (by decide) (by decide) (law_17 C hL hi hcs hS kk)
      | 18, _ => exact l_tabIn (tgt := 766) C dL_law_33 (by decide) (by decide) (off := 733) (by decide) (by decide) (law_18 C hL hi hcs hS kk)
      | 19, _ => exact l_tabIn (tgt := 819) C dL_law_33 (by decide) (by decide) (off := 786) (by decide) (by decide) (law_19 C hL hi hcs hS kk)
      | 20, _ => exact l_tabIn (tgt := 862) C dL_law_33 (by decide) (by decide) (off := 829) (by decide) (by decide) (law_20 C hL hi hcs hS kk)
      | 21, _ => exact l_tabIn (tgt := 895) C dL_law_33 (by decide) (by decide) (off := 862) (by decide) (by decide) (law_21 C hL hi hcs hS kk)
      | 22, _ => exact l_tabIn (tgt := 938) C dL_law_33 (by decide) (by decide) (off := 905) (by decide) (by decide) (law_22 C hL hi hcs hS kk)
      | 23, _ => exact l_tabIn (tgt := 971) C dL_law_33 (by decide) (by decide) (off := 938) (by decide) (by decide) (law_23 C hL hi hcs hS kk)
      | 24, _ => exact l_tabIn (tgt := 1024) C dL_law_33 (by decide) (by decide) (off := 991) (by decide) (by decide) (law_24 C hL hi hcs hS kk)
      | 25, _ => exact l_tabIn (tgt := 1057) C dL_law_33 (by decide) (by decide) (off := 1024) (by decide) (by decide) (law_25 C hL hi hcs hS kk)
      | 26, _ => exact l_tabIn (tgt := 1100) C dL_law_33 (by decide) (by decide) (off := 1067) (by decide) (by decide) (law_26 C hL hi hcs hS kk)
      | 27, _ => exact l_tabIn (tgt := 1143) C dL_law_33 (by decide) (by decide) (off := 1110) (by decide) (by decide) (law_27 C hL hi hcs hS kk)
      | j + 28, h => exact absurd h (by omega)
    · have ejT : (nI j).toInt = j := nI_toInt (by omega)
      exact l_tabOut (tgt := 1166) C dL_law_33 (Or.inr (by rw [ejT]; omega)) (by decide) (kk g pp b hS)
end LX
