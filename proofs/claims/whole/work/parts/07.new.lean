/-! ===== rows of the small machine: new cells ===== -/
def m_new (h : mH) (sh : mSh) : mH := (h.1 ++ [sh], va_up h.2.1 h.1.length (fun _ => 0), va_up h.2.2 h.1.length (fun _ => none))
def m_okT (ci : Nat) : Bool := (List.range (m_nF ci)).all (fun k => decide (m_ty ci k = .int) || decide (m_ty ci k = .boolean) || (m_ty ci k).isReference)
theorem m_okT_all : (List.range 8).all m_okT = true := by decide +kernel
theorem m_dflt {G : mG} {ci k : Nat} (hci : ci < 8) (hk : k < m_nF ci) : defaultValue (m_ty ci k) = m_fv G ci (fun _ => 0) (fun _ => none) k := by
  have h1 := List.all_eq_true.mp m_okT_all ci (List.mem_range.mpr hci)
  have h2 := List.all_eq_true.mp h1 k (List.mem_range.mpr hk)
  unfold m_fv
  generalize m_ty ci k = t at h2 ⊢
  cases t <;> first | rfl | (exact absurd h2 (by decide))
theorem m_P.push {G : mG} {h : mH} {H H1 : Heap} {sh : mSh} (hP : m_P G h H) (hlen : h.1.length + 1 ≤ 1000) (z : H1.size = H.size + 1) (oq : ∀ q, q < H.size → H1[q]? = H[q]?) (hat : m_at G sh (fun _ => 0) (fun _ => none) h.1.length H1) : m_P G (m_new h sh) H1 := by
  refine ⟨fun a sh' hs' => ?_, ?_, ?_⟩
  · by_cases ha : a < h.1.length
    · have hs2 : h.1[a]? = some sh' := by
        have h9 : (h.1 ++ [sh])[a]? = some sh' := hs'
        rwa [List.getElem?_append_left ha] at h9
      show m_at G sh' (va_up h.2.1 h.1.length (fun _ => 0) a) (va_up h.2.2 h.1.length (fun _ => none) a) a H1
      rw [va_up_ne _ _ (Nat.ne_of_lt ha), va_up_ne _ _ (Nat.ne_of_lt ha)]
      refine (hP.1 a sh' hs2).kept (oq _ ?_)
      rw [(hP.lt hs2).2.2, hP.2.1]
      omega
    · have h9 : (h.1 ++ [sh])[a]? = some sh' := hs'
      rw [List.getElem?_append_right (by omega)] at h9
      have hz : a - h.1.length < 1 := (List.getElem?_eq_some_iff.mp h9).1
      have ha0 : a = h.1.length := by omega
      subst ha0
      rw [Nat.sub_self] at h9
      cases h9
      show m_at G sh (va_up h.2.1 h.1.length (fun _ => 0) h.1.length) (va_up h.2.2 h.1.length (fun _ => none) h.1.length) h.1.length H1
      rw [va_up_self, va_up_self]
      exact hat
  · show H1.size = _ + (h.1 ++ [sh]).length
    rw [z, hP.2.1, List.length_append]
    rfl
  · show (h.1 ++ [sh]).length ≤ 1000
    rw [List.length_append]
    exact hlen
theorem m_P.next {G : mG} {h : mH} {H : Heap} (hP : m_P G h H) (hlen : h.1.length + 1 ≤ 1000) : m_ad G h.1.length = H.size := by rw [m_A_ad (by omega), hP.2.1]
theorem va_S.grow {A : Nat → Prop} {H0 H H1 : Heap} {locs : List Loc} (h : va_S A H0 H locs) (z : H1.size = H.size + 1) (oq : ∀ q, q < H.size → H1[q]? = H[q]?) : va_S A H0 H1 locs :=
  ⟨Nat.le_trans h.1 (by omega), fun q h1 h2 => (oq q (Nat.lt_of_lt_of_le h1 h.1)).trans (h.2.1 q h1 h2), h.2.2⟩
section RNEW
variable {G : mG} {M : mM} {d rc rs pc : Nat} {L st : List Value} {h h' : mH} {r : Option Value}
theorem r_new {idx ci : Nat} (hd : decode M.2.1 pc = .ok (.new idx, 3)) (hci : ci < 8) (h1 : Cond.classLink M.1.cls idx (m_R ci) ∈ m_tbl) (h2 : Cond.instantiable (m_R ci) (m_nF ci) ∈ m_tbl) (h3 : Cond.initialized (m_R ci) ∈ m_tbl) (hlen : h.1.length + 1 ≤ 1000) (hrc : 1 ≤ rc) (hrs : m_nF ci ≤ rs) (kk : MW G M d (rc - 1) (rs - m_nF ci) (pc + 3) L (.ref h.1.length :: st) (m_new h (.inl ci)) r h') : MW G M d rc rs pc L st h r h' := by
  intro p e R s m args below meth c H locs cells slots Q ls cx hP hS hl hc1 hc2 fin
  have hts := cx.2.2.2.2.1
  obtain ⟨hc, hin, hty, hnm⟩ := m_cl hci
  have hKn := cx.2.2.2.2.2.1.1 ci _ hc
  refine W.newcK (n := m_nF ci) cx.1 cx.2.1 cx.2.2.2.1 (hts _ h1) (hts _ h2) (hts _ h3) rfl hd (by omega) (by omega) hKn.2.1 rfl fun H1 kC hkC e1 z1 o1 => ?_
  have hat : m_at G (.inl ci) (fun _ => 0) (fun _ => none) h.1.length H1 := by
    refine ⟨hci, ?_⟩
    rw [hP.next hlen]
    exact (u_born (m_ty ci) hts hin hKn hkC e1 hty).to (fun k hk => m_dflt hci hk)
  have h9 := kk p e R s m args below meth c H1 locs (cells + 1) (slots + m_nF ci) Q ls cx (hP.push hlen z1 o1 hat) (hS.grow z1 o1) hl (by omega) (by omega) (fun pc' ls' H' locs' cells' slots' f1 f2 f3 f4 f5 => fin pc' ls' H' locs' cells' slots' f1 f2 f3 (by omega) (by omega))
  rw [← hP.next hlen]
  exact h9
theorem r_newa {ti N : Nat} {n : Int32} {atype : ArrayType} (hd : decode M.2.1 pc = .ok (.newarray atype, 2)) (hti : ti < 2) (hat0 : newarray.typeOf atype = m_at_ty ti) (h1 : Cond.arrayClass (m_at_ty ti) ∈ m_tbl) (hn : ¬ n < 0) (hN : n.toNatClampNeg = N) (hN2 : N ≤ 1000) (hlen : h.1.length + 1 ≤ 1000) (hrc : 1 ≤ rc) (hrs : N ≤ rs) (kk : MW G M d (rc - 1) (rs - N) (pc + 2) L (.ref h.1.length :: st) (m_new h (.inr (ti, N))) r h') : MW G M d rc rs pc L (.int n :: st) h r h' := by
  intro p e R s m args below meth c H locs cells slots Q ls cx hP hS hl hc1 hc2 fin
  have hts := cx.2.2.2.2.1
  have hb : N * componentBytes (newarray.typeOf atype) ≤ 536870912 := by
    rw [hat0]
    match ti, hti with
    | 0, _ => show N * 4 ≤ _; omega
    | 1, _ => show N * 1 ≤ _; omega
  refine va_newaK cx.1 cx.2.1 (by rw [hat0]; exact hts _ h1) rfl hd rfl hn hN hb (by omega) (by omega) rfl fun H1 cA e1 z1 o1 hAr hNm => ?_
  have hcA : cA = G.2.2.1 ti ∧ (fun _ : Nat => defaultValue (newarray.typeOf atype)) = m_av G ti (fun _ => 0) (fun _ => none) := by
    rw [hat0] at hNm ⊢
    match ti, hti with
    | 0, _ => exact ⟨Option.some.inj (hNm.symm.trans (cx.2.2.2.2.2.1.2 0 _ rfl).2), rfl⟩
    | 1, _ => exact ⟨Option.some.inj (hNm.symm.trans (cx.2.2.2.2.2.1.2 1 _ rfl).2), rfl⟩
  have hat : m_at G (.inr (ti, N)) (fun _ => 0) (fun _ => none) h.1.length H1 := by
    refine ⟨by omega, ?_⟩
    rw [hP.next hlen, ← hcA.2, ← hcA.1]
    exact e1
  have h9 := kk p e R s m args below meth c H1 locs (cells + 1) (slots + N) Q ls cx (hP.push hlen z1 o1 hat) (hS.grow z1 o1) hl (by omega) (by omega) (fun pc' ls' H' locs' cells' slots' f1 f2 f3 f4 f5 => fin pc' ls' H' locs' cells' slots' f1 f2 f3 (by omega) (by omega))
  rw [← hP.next hlen]
  exact h9
theorem r_newq {ti N idx : Nat} {n : Int32} {C : String} (hd : decode M.2.1 pc = .ok (.anewarray idx, 3)) (hti : ¬ ti < 2) (h5 : ti < 5) (hC : m_at_ty ti = .object C) (h1 : Cond.classLink M.1.cls idx C ∈ m_tbl) (h2 : C ∈ [RX0, RX3, RX4]) (hn : ¬ n < 0) (hN : n.toNatClampNeg = N) (hN2 : N ≤ 1000) (hlen : h.1.length + 1 ≤ 1000) (hrc : 1 ≤ rc) (hrs : N ≤ rs) (kk : MW G M d (rc - 1) (rs - N) (pc + 3) L (.ref h.1.length :: st) (m_new h (.inr (ti, N))) r h') : MW G M d rc rs pc L (.int n :: st) h r h' := by
  subst hN
  intro p e R s m args below meth c H locs cells slots Q ls cx hP hS hl hc1 hc2 fin
  have hts := cx.2.2.2.2.1
  refine W.anew cx.1 cx.2.1 cx.2.2.2.1 (hts _ h1) (va_AO.use (cx.2.2.2.2.2.2.1.2.2 C h2)) rfl hd rfl hn (by omega) (by omega) (by omega) fun cA kA comp f1 f2 f3 f4 => ?_
  generalize hH1 : H.push ({ cls := cA, slots := Array.replicate n.toNatClampNeg .null, vm := .none } : Cell) = H1
  have z1 : H1.size = H.size + 1 := by rw [← hH1, Array.size_push]
  have e1 : H1[H.size]? = some (arrV cA n.toNatClampNeg (fun _ => .null)) := by rw [← hH1, Array.getElem?_push_size, ← arrV_new]
  have o1 : ∀ q : Nat, q < H.size → H1[q]? = H[q]? := fun q hq => by rw [← hH1, Array.getElem?_push, if_neg (Nat.ne_of_lt hq)]
  have hRA := (cx.2.2.2.2.2.1.2 ti _ (m_ty_ti (G := G) hti h5).1).2
  rw [hC] at hRA
  obtain ⟨kA', comp', k1, k2, k3, k4⟩ := hRA
  have hcA : cA = G.2.2.1 ti := Option.some.inj (f1.symm.trans k4)
  have hav : (fun _ : Nat => Value.null) = m_av G ti (fun _ => 0) (fun _ => none) := by
    funext j
    unfold m_av
    rw [if_neg hti]
    rfl
  have hat : m_at G (.inr (ti, n.toNatClampNeg)) (fun _ => 0) (fun _ => none) h.1.length H1 := by
    refine ⟨h5, ?_⟩
    rw [hP.next hlen, ← hav, ← hcA]
    exact e1
  have h9 := kk p e R s m args below meth c H1 locs (cells + 1) (slots + n.toNatClampNeg) Q ls cx (hP.push hlen z1 o1 hat) (hS.grow z1 o1) hl (by omega) (by omega) (fun pc' ls' H' locs' cells' slots' f1 f2 f3 f4 f5 => fin pc' ls' H' locs' cells' slots' f1 f2 f3 (by omega) (by omega))
  rw [← hP.next hlen]
  exact h9
end RNEW
