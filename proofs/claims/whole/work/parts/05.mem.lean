/-! ===== rows of the small machine: fields, arrays, new cells ===== -/
def m_T (ci : Nat) : u_T := match ci with
  | 0 => TX0
  | 1 => TX1
  | 2 => TX2
  | 3 => TX3
  | 4 => TX4
  | 5 => TX5
  | 6 => TX6
  | _ => TX7
def m_R (ci : Nat) : String := match ci with
  | 0 => RX0
  | 1 => RX1
  | 2 => RX2
  | 3 => RX3
  | 4 => RX4
  | 5 => RX5
  | 6 => RX6
  | _ => RX7
def m_inAll (ci : Nat) : Bool := (u_ws (m_R ci) (m_T ci) (m_nF ci)).all (fun w => decide (w ∈ m_tbl))
theorem m_in_0 : m_inAll 0 = true := by decide +kernel
theorem m_in_1 : m_inAll 1 = true := by decide +kernel
theorem m_in_2 : m_inAll 2 = true := by decide +kernel
theorem m_in_3 : m_inAll 3 = true := by decide +kernel
theorem m_in_4 : m_inAll 4 = true := by decide +kernel
theorem m_in_5 : m_inAll 5 = true := by decide +kernel
theorem m_in_6 : m_inAll 6 = true := by decide +kernel
theorem m_in_7 : m_inAll 7 = true := by decide +kernel
theorem m_cl {ci : Nat} (h : ci < 8) : vwCl[ci]? = some (m_R ci, m_T ci, m_nF ci) ∧ (∀ w ∈ u_ws (m_R ci) (m_T ci) (m_nF ci), w ∈ m_tbl) ∧ (∀ k, k < m_nF ci → parseFieldDescriptor (m_T ci k).2.2.1 = some (m_ty ci k)) ∧ (∀ a, a < m_nF ci → ∀ b, b < m_nF ci → a ≠ b → (m_T ci a).2.1 ≠ (m_T ci b).2.1) := by
  have hin : ∀ {ci : Nat}, m_inAll ci = true → ∀ w ∈ u_ws (m_R ci) (m_T ci) (m_nF ci), w ∈ m_tbl := fun h w hw => of_decide_eq_true (List.all_eq_true.mp h w hw)
  match ci, h with
  | 0, _ => exact ⟨rfl, hin m_in_0, tyX0_ok, nmX0⟩
  | 1, _ => exact ⟨rfl, hin m_in_1, tyX1_ok, nmX1⟩
  | 2, _ => exact ⟨rfl, hin m_in_2, tyX2_ok, nmX2⟩
  | 3, _ => exact ⟨rfl, hin m_in_3, tyX3_ok, nmX3⟩
  | 4, _ => exact ⟨rfl, hin m_in_4, tyX4_ok, nmX4⟩
  | 5, _ => exact ⟨rfl, hin m_in_5, tyX5_ok, nmX5⟩
  | 6, _ => exact ⟨rfl, hin m_in_6, tyX6_ok, nmX6⟩
  | 7, _ => exact ⟨rfl, hin m_in_7, tyX7_ok, nmX7⟩
/-- a field's link: class, field -/
def m_FL (own : String) (idx ci k : Nat) : Prop := ci < 8 ∧ k < m_nF ci ∧ Cond.fieldLink own idx (m_T ci k).1 (m_T ci k).2.1 (m_T ci k).2.2.1 ∈ m_tbl
def m_up {α : Type} (g : Nat → Nat → α) (a k : Nat) (x : α) : Nat → Nat → α := fun a' => if a' = a then va_up (g a) k x else g a'
theorem m_up_same {α : Type} (g : Nat → Nat → α) (a k : Nat) (x : α) : m_up g a k x a = va_up (g a) k x := if_pos rfl
theorem m_up_ne {α : Type} (g : Nat → Nat → α) {a a' : Nat} (k : Nat) (x : α) (h : a' ≠ a) : m_up g a k x a' = g a' := if_neg h
theorem m_at.kept {G : mG} {sh : mSh} {f : Nat → Int32} {r : Nat → Option Nat} {a : Nat} {H H1 : Heap} (h : m_at G sh f r a H) (hq : H1[m_ad G a]? = H[m_ad G a]?) : m_at G sh f r a H1 := by
  match sh, h with
  | .inl ci, h => exact ⟨h.1, h.2.kept hq⟩
  | .inr (ti, n), h => exact ⟨h.1, hq.trans h.2⟩
theorem m_P.lt {G : mG} {h : mH} {H : Heap} (hP : m_P G h H) {a : Nat} {sh : mSh} (hs : h.1[a]? = some sh) : a < h.1.length ∧ a < 1000 ∧ m_ad G a = G.2.2.2.1 + a := by
  have h1 := (List.getElem?_eq_some_iff.mp hs).1
  have h2 := hP.2.2
  exact ⟨h1, by omega, m_A_ad (by omega)⟩
theorem m_P.set {G : mG} {h h1 : mH} {H H1 : Heap} {a : Nat} {sh : mSh} (hP : m_P G h H) (e1 : h1.1 = h.1) (ho : ∀ a', a' ≠ a → h1.2.1 a' = h.2.1 a' ∧ h1.2.2 a' = h.2.2 a') (hs : h.1[a]? = some sh) (hat : m_at G sh (h1.2.1 a) (h1.2.2 a) a H1) (z : H1.size = H.size) (oq : ∀ q, q ≠ m_ad G a → H1[q]? = H[q]?) : m_P G h1 H1 := by
  refine ⟨fun a' sh' hs' => ?_, by rw [z, e1]; exact hP.2.1, by rw [e1]; exact hP.2.2⟩
  rw [e1] at hs'
  by_cases ha : a' = a
  · subst ha
    cases hs.symm.trans hs'
    exact hat
  · rw [(ho a' ha).1, (ho a' ha).2]
    refine (hP.1 a' sh' hs').kept (oq _ ?_)
    rw [(hP.lt hs).2.2, (hP.lt hs').2.2]
    omega
theorem m_fv_i {G : mG} {ci k : Nat} {f : Nat → Int32} {r : Nat → Option Nat} (ht : (m_ty ci k).isReference = false) : m_fv G ci f r k = .int (f k) := by
  unfold m_fv; rw [if_neg (by rw [ht]; decide)]
theorem m_fv_r {G : mG} {ci k : Nat} {f : Nat → Int32} {r : Nat → Option Nat} (ht : (m_ty ci k).isReference = true) : m_fv G ci f r k = va_rf ((r k).map (m_ad G)) := by
  unfold m_fv; rw [if_pos ht]
theorem m_rf_rv (G : mG) (o : Option Nat) : va_rf (o.map (m_ad G)) = m_rv G (va_rf o) := by cases o <;> rfl
section RMEM
variable {G : mG} {M : mM} {d rc rs pc : Nat} {L st : List Value} {h h' : mH} {r : Option Value}
/-- what a getfield gives, in the machine -/
theorem m_getf {idx ci k a : Nat} {v : Value} (hd : decode M.2.1 pc = .ok (.getfield idx, 3)) (hf : m_FL M.1.cls idx ci k) (hs : h.1[a]? = some (.inl ci)) (hv : m_fv G ci (h.2.1 a) (h.2.2 a) k = m_rv G v) (kk : MW G M d rc rs (pc + 3) L (v :: st) h r h') : MW G M d rc rs pc L (.ref a :: st) h r h' := by
  intro p e R s m args below meth c H locs cells slots Q ls cx hP hS hl hc1 hc2 fin
  obtain ⟨hci, hk, hw⟩ := hf
  obtain ⟨hc, hin, hty, hnm⟩ := m_cl hci
  obtain ⟨-, cell, q1, q2, q3, q4⟩ := hP.1 a _ hs
  obtain ⟨hS1, hfc, kC, hkC, hkind⟩ := cx.2.2.2.2.2.1.1 ci _ hc
  obtain ⟨cf, kf, fi, f, hi, hsl⟩ := hS1 k hk
  have hst := (u_facts hfc hkC (u_lays cx.2.2.2.2.1 hin hk) hi).1
  refine W.getf (v := m_rv G v) cx.1 cx.2.1 cx.2.2.2.1 (cx.2.2.2.2.1 _ hw) hi hst q1 (by rw [q3]; intro h9; cases h9) (by rw [hsl, ← hv]; exact q4 k hk) rfl rfl hd ?_
  exact kk p e R s m args below meth c H locs cells slots Q ls cx hP hS hl hc1 hc2 fin
theorem r_geti {idx ci k a : Nat} (hd : decode M.2.1 pc = .ok (.getfield idx, 3)) (hf : m_FL M.1.cls idx ci k) (ht : (m_ty ci k).isReference = false) (hs : h.1[a]? = some (.inl ci)) (kk : MW G M d rc rs (pc + 3) L (.int (h.2.1 a k) :: st) h r h') : MW G M d rc rs pc L (.ref a :: st) h r h' :=
  m_getf hd hf hs (m_fv_i ht) kk
theorem r_getr {idx ci k a b : Nat} (hd : decode M.2.1 pc = .ok (.getfield idx, 3)) (hf : m_FL M.1.cls idx ci k) (ht : (m_ty ci k).isReference = true) (hs : h.1[a]? = some (.inl ci)) (hb : h.2.2 a k = some b) (kk : MW G M d rc rs (pc + 3) L (.ref b :: st) h r h') : MW G M d rc rs pc L (.ref a :: st) h r h' :=
  m_getf (v := .ref b) hd hf hs (by rw [m_fv_r ht, hb]; rfl) kk
theorem m_put {idx ci k a : Nat} {v : Value} {h1 : mH} (hd : decode M.2.1 pc = .ok (.putfield idx, 3)) (hf : m_FL M.1.cls idx ci k) (hfin : (m_T ci k).2.2.2 = false ∨ ((m_T ci k).1 = M.1.cls ∧ M.1.name = "<init>")) (hn : narrow (m_ty ci k) (m_rv G v) = m_rv G v) (hfit : fits (m_ty ci k) (m_rv G v) = true) (hs : h.1[a]? = some (.inl ci))
    (e1 : h1.1 = h.1) (ho : ∀ a', a' ≠ a → h1.2.1 a' = h.2.1 a' ∧ h1.2.2 a' = h.2.2 a') (hv : ∀ j, j < m_nF ci → updV (m_fv G ci (h.2.1 a) (h.2.2 a)) k (m_rv G v) j = m_fv G ci (h1.2.1 a) (h1.2.2 a) j) (kk : MW G M d rc rs (pc + 3) L st h1 r h') : MW G M d rc rs pc L (v :: .ref a :: st) h r h' := by
  intro p e R s m args below meth c H locs cells slots Q ls cx hP hS hl hc1 hc2 fin
  obtain ⟨hci, hk, hw⟩ := hf
  obtain ⟨hc, hin, hty, hnm⟩ := m_cl hci
  obtain ⟨-, cell, q1, q2, q3, q4⟩ := hP.1 a _ hs
  have hts := cx.2.2.2.2.1
  have hKn := cx.2.2.2.2.2.1.1 ci _ hc
  obtain ⟨hS1, hfc, kC, hkC, hkind⟩ := hKn
  obtain ⟨cf, kf, fi, f, hi, hsl⟩ := hS1 k hk
  have hlay := u_lays hts hin hk
  have hst := (u_facts hfc hkC hlay hi).1
  have hap := va_apart (own := M.1.cls) hts hin (m_ty ci) hty hnm cx.2.2.2.2.2.1 hc
  have hA : m_A G (m_ad G a) := by rw [(hP.lt hs).2.2]; exact Nat.le_add_right _ _
  have hgo : ∀ H' : Heap, H'[m_ad G a]? = some (cell.setSlot f.slot (m_rv G v)) → H'.size = H.size → (∀ q, q ≠ m_ad G a → H'[q]? = H[q]?) → W p G.1 e R s m args below meth c H' (locs ++ [⟨m_ad G a, f.slot⟩]) cells slots Q { (F0 m pc ls (m_rv G v :: .ref (m_ad G a) :: st.map (m_rv G))) with pc := pc + 3, stack := st.map (m_rv G) } := by
    intro H' x1 x2 x3
    refine kk p e R s m args below meth c H' _ cells slots Q ls cx ?_ (hS.put x2 x3 hA) hl hc1 hc2 fin
    refine hP.set e1 ho hs ⟨hci, ?_⟩ x2 x3
    rw [hsl] at x1
    exact t_OB.to (V := updV (m_fv G ci (h.2.1 a) (h.2.2 a)) k (m_rv G v)) ⟨_, x1, q2, q3, t_set q4 hap hk (m_rv G v)⟩ hv
  by_cases hfl : (m_T ci k).2.2.2 = true
  · have hi2 : M.1.name = "<init>" := by
      rcases hfin with h9 | h9
      · rw [h9] at hfl; cases hfl
      · exact h9.2
    have hdecl : (m_T ci k).1 = M.1.cls := by
      rcases hfin with h9 | h9
      · rw [h9] at hfl; cases hfl
      · exact h9.1
    have h6 := u_fits hfc hkC hkind hlay hi (hty k hk) hn hfit
    have hlay2 := hts _ (hin _ (u_in_lay hk))
    unfold u_lay at hlay2
    rw [if_pos hfl] at hlay2
    have hcf : m.cls = cf := by
      obtain ⟨_, _, c', _, _, _, -, -, hf', -, -, -, hown2, -⟩ := Cond.laysFinal_spec hlay2
      have e9 : c' = cf := by have h9 := hi.symm.trans hf'; simp at h9; exact h9.1.symm
      rw [hdecl] at hown2
      rw [← e9]; exact Option.some.inj (cx.2.2.2.1.symm.trans hown2)
    exact W.putFinK cx.1 cx.2.1 cx.2.2.2.1 (hts _ hw) hi hst hcf (cx.2.2.2.2.2.2.2.2.2.2.trans hi2) (by rw [q2]; exact h6) q1 q3 (by rw [hsl]; exact k2_hasslot (q4 k hk)) rfl rfl hd hgo
  · have hlay2 := hts _ (hin _ (u_in_lay hk))
    unfold u_lay at hlay2
    rw [if_neg hfl] at hlay2
    have h6 := u_store hfc hkC hkind hlay2 hi (hty k hk) hn hfit
    exact W.putK cx.1 cx.2.1 (f := f) ⟨cx.2.2.2.1, hts _ hw, ⟨_, _, _, hi⟩, hst⟩ (by rw [q2]; exact h6) q1 q3 (by rw [hsl]; exact k2_hasslot (q4 k hk)) rfl rfl hd hgo
theorem m_updV_i {G : mG} {ci k : Nat} {f : Nat → Int32} {r : Nat → Option Nat} {x : Int32} (ht : (m_ty ci k).isReference = false) (j : Nat) : updV (m_fv G ci f r) k (.int x) j = m_fv G ci (va_up f k x) r j := by
  unfold updV
  by_cases hj : j = k
  · subst hj
    rw [if_pos rfl, m_fv_i ht]
    simp [va_up]
  · rw [if_neg hj]
    unfold m_fv
    simp [va_up, hj]
theorem m_updV_r {G : mG} {ci k : Nat} {f : Nat → Int32} {r : Nat → Option Nat} {b : Nat} (ht : (m_ty ci k).isReference = true) (j : Nat) : updV (m_fv G ci f r) k (.ref (m_ad G b)) j = m_fv G ci f (va_up r k (some b)) j := by
  unfold updV
  by_cases hj : j = k
  · subst hj
    rw [if_pos rfl, m_fv_r ht]
    simp [va_up, va_rf]
  · rw [if_neg hj]
    unfold m_fv
    simp [va_up, hj]
theorem m_up_ho {α : Type} {g : Nat → Nat → α} {a k : Nat} {x : α} (a' : Nat) (h : a' ≠ a) : m_up g a k x a' = g a' := m_up_ne g k x h
/-- an int, or a boolean that is 0 or 1 -/
def m_okI (t : FieldType) (x : Int32) : Prop := t = .int ∨ (t = .boolean ∧ (x = 0 ∨ x = 1))
theorem m_okI.n {t : FieldType} {x : Int32} (h : m_okI t x) : narrow t (.int x) = .int x ∧ fits t (.int x) = true ∧ t.isReference = false := by
  rcases h with rfl | ⟨rfl, rfl | rfl⟩
  · exact ⟨rfl, rfl, rfl⟩
  · exact ⟨rfl, rfl, rfl⟩
  · exact ⟨rfl, rfl, rfl⟩
theorem r_puti {idx ci k a : Nat} {x : Int32} (hd : decode M.2.1 pc = .ok (.putfield idx, 3)) (hf : m_FL M.1.cls idx ci k) (hfin : (m_T ci k).2.2.2 = false ∨ ((m_T ci k).1 = M.1.cls ∧ M.1.name = "<init>")) (ht : m_okI (m_ty ci k) x) (hs : h.1[a]? = some (.inl ci)) (kk : MW G M d rc rs (pc + 3) L st (h.1, m_up h.2.1 a k x, h.2.2) r h') : MW G M d rc rs pc L (.int x :: .ref a :: st) h r h' :=
  m_put (h1 := (h.1, m_up h.2.1 a k x, h.2.2)) (v := .int x) hd hf hfin ht.n.1 ht.n.2.1 hs rfl (fun a' ha => ⟨m_up_ne _ _ _ ha, rfl⟩) (fun j _ => by show _ = m_fv G ci (m_up h.2.1 a k x a) (h.2.2 a) j; rw [m_up_same]; exact m_updV_i ht.n.2.2 j) kk
theorem r_putr {idx ci k a b : Nat} (hd : decode M.2.1 pc = .ok (.putfield idx, 3)) (hf : m_FL M.1.cls idx ci k) (hfin : (m_T ci k).2.2.2 = false ∨ ((m_T ci k).1 = M.1.cls ∧ M.1.name = "<init>")) (ht : (m_ty ci k).isReference = true) (hs : h.1[a]? = some (.inl ci)) (kk : MW G M d rc rs (pc + 3) L st (h.1, h.2.1, m_up h.2.2 a k (some b)) r h') : MW G M d rc rs pc L (.ref b :: .ref a :: st) h r h' :=
  m_put (h1 := (h.1, h.2.1, m_up h.2.2 a k (some b))) (v := .ref b) hd hf hfin (by generalize m_ty ci k = t at ht; cases t <;> first | rfl | (cases ht)) (by generalize m_ty ci k = t at ht; cases t <;> first | rfl | (cases ht)) hs rfl (fun a' ha => ⟨rfl, m_up_ne _ _ _ ha⟩) (fun j _ => by show _ = m_fv G ci (h.2.1 a) (m_up h.2.2 a k (some b) a) j; rw [m_up_same]; exact m_updV_r ht j) kk
/-- an index within -/
theorem r_iald {a n : Nat} {i : Int32} (hd : decode M.2.1 pc = .ok (.iaload, 1)) (hs : h.1[a]? = some (.inr (0, n))) (hin : vp_in i n) (kk : MW G M d rc rs (pc + 1) L (.int (h.2.1 a i.toNatClampNeg) :: st) h r h') : MW G M d rc rs pc L (.int i :: .ref a :: st) h r h' := by
  intro p e R s m args below meth c H locs cells slots Q ls cx hP hS hl hc1 hc2 fin
  obtain ⟨-, q1⟩ := hP.1 a _ hs
  have hlt : i.toNatClampNeg < n := Nat.not_le.mp fun q => hin (Or.inr q)
  refine W.iald (v := .int (h.2.1 a i.toNatClampNeg)) cx.1 cx.2.1 q1 ((cx.2.2.2.2.2.1.2 0 _ rfl).1 n _) (fun q => by cases q) (by rw [arrV_size]; exact hin) (by rw [arrV_read _ _ hlt]; rfl) rfl rfl hd ?_
  exact kk p e R s m args below meth c H locs cells slots Q ls cx hP hS hl hc1 hc2 fin
theorem r_zald {a n : Nat} {i : Int32} (hd : decode M.2.1 pc = .ok (.baload, 1)) (hs : h.1[a]? = some (.inr (1, n))) (hin : vp_in i n) (kk : MW G M d rc rs (pc + 1) L (.int (h.2.1 a i.toNatClampNeg) :: st) h r h') : MW G M d rc rs pc L (.int i :: .ref a :: st) h r h' := by
  intro p e R s m args below meth c H locs cells slots Q ls cx hP hS hl hc1 hc2 fin
  obtain ⟨-, q1⟩ := hP.1 a _ hs
  have hlt : i.toNatClampNeg < n := Nat.not_le.mp fun q => hin (Or.inr q)
  refine W.zald (v := .int (h.2.1 a i.toNatClampNeg)) cx.1 cx.2.1 q1 ((cx.2.2.2.2.2.1.2 1 _ rfl).1 n _) (fun q => by cases q) (by rw [arrV_size]; exact hin) (by rw [arrV_read _ _ hlt]; rfl) rfl rfl hd ?_
  exact kk p e R s m args below meth c H locs cells slots Q ls cx hP hS hl hc1 hc2 fin
theorem m_av_i {G : mG} {ti k : Nat} {f : Nat → Int32} {r : Nat → Option Nat} {x : Int32} (h : ti < 2) : updV (m_av G ti f r) k (.int x) = m_av G ti (va_up f k x) r := by
  funext j
  unfold updV m_av
  rw [if_pos h, if_pos h]
  by_cases hj : j = k
  · subst hj; simp [va_up]
  · simp [va_up, hj]
theorem m_av_r {G : mG} {ti k b : Nat} {f : Nat → Int32} {r : Nat → Option Nat} (h : ¬ ti < 2) : updV (m_av G ti f r) k (.ref (m_ad G b)) = m_av G ti f (va_up r k (some b)) := by
  funext j
  unfold updV m_av
  rw [if_neg h, if_neg h]
  by_cases hj : j = k
  · subst hj; simp [va_up, va_rf]
  · simp [va_up, hj]
theorem m_Aa {G : mG} {h : mH} {H : Heap} (hP : m_P G h H) {a : Nat} {sh : mSh} (hs : h.1[a]? = some sh) : m_A G (m_ad G a) := by rw [(hP.lt hs).2.2]; exact Nat.le_add_right _ _
theorem r_iast {a n : Nat} {i x : Int32} (hd : decode M.2.1 pc = .ok (.iastore, 1)) (hs : h.1[a]? = some (.inr (0, n))) (hin : vp_in i n) (kk : MW G M d rc rs (pc + 1) L st (h.1, m_up h.2.1 a i.toNatClampNeg x, h.2.2) r h') : MW G M d rc rs pc L (.int x :: .int i :: .ref a :: st) h r h' := by
  intro p e R s m args below meth c H locs cells slots Q ls cx hP hS hl hc1 hc2 fin
  obtain ⟨-, q1⟩ := hP.1 a _ hs
  refine W.iast cx.1 cx.2.1 q1 ((cx.2.2.2.2.2.1.2 0 _ rfl).1 n _) (fun q => by cases q) (by rw [arrV_size]; exact hin) rfl rfl hd fun H1 x1 x2 x3 => ?_
  refine kk p e R s m args below meth c H1 _ cells slots Q ls cx ?_ (hS.put x2 x3 (m_Aa hP hs)) hl hc1 hc2 fin
  refine hP.set rfl (fun a' ha => ⟨m_up_ne _ _ _ ha, rfl⟩) hs ⟨by decide, ?_⟩ x2 x3
  rw [x1, arrV_store, m_av_i (by decide)]
  rw [show (h.1, m_up h.2.1 a i.toNatClampNeg x, h.2.2).2.1 a = va_up (h.2.1 a) i.toNatClampNeg x from m_up_same _ _ _ _]
theorem r_zast {a n : Nat} {i x : Int32} (hd : decode M.2.1 pc = .ok (.bastore, 1)) (hs : h.1[a]? = some (.inr (1, n))) (hin : vp_in i n) (hx : x = 0 ∨ x = 1) (kk : MW G M d rc rs (pc + 1) L st (h.1, m_up h.2.1 a i.toNatClampNeg x, h.2.2) r h') : MW G M d rc rs pc L (.int x :: .int i :: .ref a :: st) h r h' := by
  intro p e R s m args below meth c H locs cells slots Q ls cx hP hS hl hc1 hc2 fin
  obtain ⟨-, q1⟩ := hP.1 a _ hs
  have hnar : narrow .boolean (.int x) = .int x := by rcases hx with rfl | rfl <;> rfl
  refine W.zast cx.1 cx.2.1 q1 ((cx.2.2.2.2.2.1.2 1 _ rfl).1 n _) (fun q => by cases q) (by rw [arrV_size]; exact hin) rfl rfl hd fun H1 x1 x2 x3 => ?_
  refine kk p e R s m args below meth c H1 _ cells slots Q ls cx ?_ (hS.put x2 x3 (m_Aa hP hs)) hl hc1 hc2 fin
  refine hP.set rfl (fun a' ha => ⟨m_up_ne _ _ _ ha, rfl⟩) hs ⟨by decide, ?_⟩ x2 x3
  rw [x1, hnar, arrV_store, m_av_i (by decide)]
  rw [show (h.1, m_up h.2.1 a i.toNatClampNeg x, h.2.2).2.1 a = va_up (h.2.1 a) i.toNatClampNeg x from m_up_same _ _ _ _]
theorem m_ty_ti {ti : Nat} (h : ¬ ti < 2) (h5 : ti < 5) : (m_tys G)[ti]? = some (G.2.2.1 ti, m_at_ty ti) ∧ ∃ C, m_at_ty ti = .object C := by
  match ti, h, h5 with
  | 2, _, _ => exact ⟨rfl, _, rfl⟩
  | 3, _, _ => exact ⟨rfl, _, rfl⟩
  | 4, _, _ => exact ⟨rfl, _, rfl⟩
  | 0, h, _ => exact absurd (by decide) h
  | 1, h, _ => exact absurd (by decide) h
theorem r_aald {a n ti b : Nat} {i : Int32} (hd : decode M.2.1 pc = .ok (.aaload, 1)) (hti : ¬ ti < 2) (hs : h.1[a]? = some (.inr (ti, n))) (hin : vp_in i n) (hb : h.2.2 a i.toNatClampNeg = some b) (kk : MW G M d rc rs (pc + 1) L (.ref b :: st) h r h') : MW G M d rc rs pc L (.int i :: .ref a :: st) h r h' := by
  intro p e R s m args below meth c H locs cells slots Q ls cx hP hS hl hc1 hc2 fin
  obtain ⟨h5, q1⟩ := hP.1 a _ hs
  have hlt : i.toNatClampNeg < n := Nat.not_le.mp fun q => hin (Or.inr q)
  obtain ⟨t1, C, t2⟩ := m_ty_ti (G := G) hti h5
  refine W.aald (v := .ref (m_ad G b)) (ty := m_at_ty ti) cx.1 cx.2.1 q1 ((cx.2.2.2.2.2.1.2 ti _ t1).1 n _) (by rw [t2]; rfl) (fun q => by cases q) (by rw [arrV_size]; exact hin) (by rw [arrV_read _ _ hlt]; unfold m_av; rw [if_neg hti, hb]; rfl) rfl rfl hd ?_
  exact kk p e R s m args below meth c H locs cells slots Q ls cx hP hS hl hc1 hc2 fin
theorem r_aast {a n ti b ci : Nat} {i : Int32} (hd : decode M.2.1 pc = .ok (.aastore, 1)) (hti : ¬ ti < 2) (hs : h.1[a]? = some (.inr (ti, n))) (hb : h.1[b]? = some (.inl ci)) (htc : m_at_ty ti = .object (m_R ci)) (hin : vp_in i n) (kk : MW G M d rc rs (pc + 1) L st (h.1, h.2.1, m_up h.2.2 a i.toNatClampNeg (some b)) r h') : MW G M d rc rs pc L (.ref b :: .int i :: .ref a :: st) h r h' := by
  intro p e R s m args below meth c H locs cells slots Q ls cx hP hS hl hc1 hc2 fin
  obtain ⟨h5, q1⟩ := hP.1 a _ hs
  have hlt : i.toNatClampNeg < n := Nat.not_le.mp fun q => hin (Or.inr q)
  have h0 : ¬ i < 0 := fun q => hin (Or.inl q)
  obtain ⟨t1, -⟩ := m_ty_ti (G := G) hti h5
  obtain ⟨hci, cellV, g1, g2, g3, -⟩ := hP.1 b _ hb
  have hcls := (cx.2.2.2.2.2.1.1 ci _ (m_cl hci).1).2
  have hRA := (cx.2.2.2.2.2.1.2 ti _ t1).2
  rw [htc] at hRA
  obtain ⟨kA, comp, k1, k2, k3, -⟩ := hRA
  have hcomp : comp = G.2.1.1 ci := Option.some.inj (k3.symm.trans hcls.1)
  subst hcomp
  obtain ⟨kC, hkC, -⟩ := id hcls.2
  refine W.aast cx.1 cx.2.1 q1 (fun q h9 => by cases h9) (fun h9 => by cases h9) k1 k2 rfl hkC ⟨h0, by rw [arrV_size]; exact hlt⟩ g1 (fun q h9 => by rw [g3] at h9; cases h9) (by rw [g2]; exact hkC) (by rw [g2]; exact va_assign hcls) rfl rfl hd fun H1 x1 x2 x3 => ?_
  refine kk p e R s m args below meth c H1 _ cells slots Q ls cx ?_ (hS.put x2 x3 (m_Aa hP hs)) hl hc1 hc2 fin
  refine hP.set rfl (fun a' ha => ⟨rfl, m_up_ne _ _ _ ha⟩) hs ⟨h5, ?_⟩ x2 x3
  rw [x1, arrV_store, m_av_r hti]
  rw [show (h.1, h.2.1, m_up h.2.2 a i.toNatClampNeg (some b)).2.2 a = va_up (h.2.2 a) i.toNatClampNeg (some b) from m_up_same _ _ _ _]
end RMEM
