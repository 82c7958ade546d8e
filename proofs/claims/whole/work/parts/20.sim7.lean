/-! THE SIMULATION, 7: new cells, natives -/
section SM7
variable {G : sm_G} {p : Program} {l : Launch} {e : Env} {R : Room} {s : State} {mI : MethodId} {args : Array Value} {below : List Frame} {meth : Method} {c : Code} {H H1 : Heap} {locs : List Loc} {cells slots : Nat} {Q : State → Prop} {m d pc : Nat} {ls : Array Slot} {M M1 : am_M} {L L1 : am_L} {S S1 : List Value}
theorem sm_newo {x y n : Nat} {q : vw_C} (hqc : am_cl[x]? = some q) (hy : y = q.2.2) (X : sm_cx G p R s mI args meth c m d) (hr : sm_rl G M s H locs) (hl : sm_L G L ls (am_mx m)) (hdg : decode (am_cd m) pc = .ok (.new n, 3)) (hf : Cond.classLink (am_nm m).cls n q.1 ∈ am_W) (hq : am_no x y M L S = some (true, M1, L1, S1)) (hc : cells + (M1.1.length - M.1.length) ≤ R.cells) (hs : slots + (am_sz M1 - am_sz M) ≤ R.slots) (k : sm_nx G p l e R s mI args below meth c cells slots Q m (pc + 3) M M1 L1 S1) : W p l e R s mI args below meth c H locs cells slots Q (F0 mI pc ls (S.map (sm_v G))) := by
  have hS := X.2.2.2.2.2.1
  have hP := X.2.2.2.2.2.2.2.2.2
  simp only [am_no, Option.some.injEq, Prod.mk.injEq] at hq
  obtain ⟨-, rfl, rfl, rfl⟩ := hq
  obtain ⟨z1, z2⟩ := sm_nwl x y M
  rw [z1] at hc
  rw [z2] at hs
  subst hy
  have hKn := hS.1.1 x q hqc
  refine W.newcK X.1 X.2.1 X.2.2.2.1 (X.2.2.2.2.1 _ hf) (X.2.2.2.2.1 _ (cl_w hqc).2.2) (X.2.2.2.2.1 _ (cl_w hqc).2.1) rfl hdg hc hs hKn.2.1 (sm_top hP hr) fun H1 kC hkC e1 e2 e3 => ?_
  have hz : H1.size = H.size + 1 := by rw [e2, sm_top hP hr]
  have hat : sm_at G (am_nw x q.2.2 M) M.1.length H1 := by
    intro c2 n2 hcn
    have hcn : (M.1 ++ [(x, q.2.2)])[M.1.length]? = some (c2, n2) := hcn
    rw [List.getElem?_append_right (Nat.le_refl _), Nat.sub_self] at hcn
    cases hcn
    have hx11 := cl_lt hqc
    refine ⟨fun _ => ⟨⟨q, hqc, rfl⟩, ?_⟩, fun h => by omega, fun h => by omega, Or.inl hx11⟩
    refine (u_born (am_ty x) X.2.2.2.2.1 (cl_w hqc).1 hKn hkC e1 (cl_t hqc)).to (fun j hj => ?_)
    have h3 := cl_wc hqc j hj
    unfold sm_fv
    have i1 : (am_nw x q.2.2 M).2.1 M.1.length j = 0 := if_pos rfl
    have i2 : (am_nw x q.2.2 M).2.2.1 M.1.length j = none := if_pos rfl
    have i3 : (am_nw x q.2.2 M).2.2.2 M.1.length j = 0 := if_pos rfl
    rw [i1, i2, i3]
    cases ht : am_ty x j <;> rw [ht] at h3 <;> first | rfl | (exact absurd h3 (by decide))
  have := k H1 _ ls (sm_new hr hz (fun q' hq' => e3 q' (by rw [← sm_top hP hr]; exact hq')) hP hat) hl
  rw [z1, z2, List.map_cons, sm_v5 hr.1.2.2] at this
  exact this
theorem sm_newa {x : Nat} {t : ArrayType} (ht : (t = .int ∧ x = 20) ∨ (t = .boolean ∧ x = 21)) (X : sm_cx G p R s mI args meth c m d) (hr : sm_rl G M s H locs) (hl : sm_L G L ls (am_mx m)) (hdg : decode (am_cd m) pc = .ok (.newarray t, 2)) (hq : am_na x M L S = some (true, M1, L1, S1)) (hc : cells + (M1.1.length - M.1.length) ≤ R.cells) (hs : slots + (am_sz M1 - am_sz M) ≤ R.slots) (k : sm_nx G p l e R s mI args below meth c cells slots Q m (pc + 2) M M1 L1 S1) : W p l e R s mI args below meth c H locs cells slots Q (F0 mI pc ls (S.map (sm_v G))) := by
  have hS := X.2.2.2.2.2.1
  have hP := X.2.2.2.2.2.2.2.2.2
  unfold am_na at hq
  split at hq
  · rename_i n r
    simp only [Option.some.injEq, Prod.mk.injEq] at hq
    obtain ⟨h0, rfl, rfl, rfl⟩ := hq
    rw [Bool.and_eq_true] at h0
    have hn0 : ¬ n < 0 := of_decide_eq_true h0.1
    have hn1 : n.toNatClampNeg ≤ 100000 := Nat.le_of_ble_eq_true h0.2
    obtain ⟨z1, z2⟩ := sm_nwl x n.toNatClampNeg M
    rw [z1] at hc
    rw [z2] at hs
    have fin : ∀ (H1 : Heap) (cA : ClassId), H1[sm_a G M.1.length]? = some (arrV cA n.toNatClampNeg (fun _ => .int 0)) → H1.size = sm_a G M.1.length + 1 → (∀ q, q < sm_a G M.1.length → H1[q]? = H[q]?) → cA = sm_c G x → W p l e R s mI args below meth c H1 locs (cells + 1) (slots + n.toNatClampNeg) Q (F0 mI (pc + 2) ls (.ref (sm_a G M.1.length) :: r.map (sm_v G))) := by
      intro H1 cA e1 e2 e3 ecA
      have hat : sm_at G (am_nw x n.toNatClampNeg M) M.1.length H1 := by
        intro c2 n2 hcn
        have hcn : (M.1 ++ [(x, n.toNatClampNeg)])[M.1.length]? = some (c2, n2) := hcn
        rw [List.getElem?_append_right (Nat.le_refl _), Nat.sub_self] at hcn
        cases hcn
        refine ⟨fun h => by omega, fun _ => ?_, fun h => by omega, Or.inr (by omega)⟩
        rw [e1, ecA]
        congr 2
        funext j
        have i1 : (am_nw x n.toNatClampNeg M).2.1 M.1.length j = 0 := if_pos rfl
        rw [i1]
      have := k H1 _ ls (sm_new hr (by rw [e2, sm_top hP hr]) (fun q' hq' => e3 q' (by rw [← sm_top hP hr]; exact hq')) hP hat) hl
      rw [z1, z2, List.map_cons, sm_v5 hr.1.2.2] at this
      exact this
    rcases ht with ⟨rfl, rfl⟩ | ⟨rfl, rfl⟩
    · refine va_newaK (atype := .int) X.1 X.2.1 (X.2.2.2.2.1 _ cl_ar.1) rfl hdg rfl hn0 rfl (show n.toNatClampNeg * 4 ≤ 536870912 by omega) hc hs (sm_top hP hr) fun H1 cA e1 e2 e3 e4 e5 => ?_
      exact fin H1 cA e1 e2 e3 (Option.some.inj (e5.symm.trans (hS.1.2 0 _ rfl).2))
    · refine va_newaK (atype := .boolean) X.1 X.2.1 (X.2.2.2.2.1 _ cl_ar.2) rfl hdg rfl hn0 rfl (show n.toNatClampNeg * 1 ≤ 536870912 by omega) hc hs (sm_top hP hr) fun H1 cA e1 e2 e3 e4 e5 => ?_
      exact fin H1 cA e1 e2 e3 (Option.some.inj (e5.symm.trans (hS.1.2 1 _ rfl).2))
  · cases hq
theorem sm_anew {x n0 : Nat} (h22 : 22 ≤ x) (h24 : x ≤ 24) (X : sm_cx G p R s mI args meth c m d) (hr : sm_rl G M s H locs) (hl : sm_L G L ls (am_mx m)) (hdg : decode (am_cd m) pc = .ok (.anewarray n0, 3)) (hf : Cond.classLink (am_nm m).cls n0 (am_rc x) ∈ am_W) (hq : am_na x M L S = some (true, M1, L1, S1)) (hc : cells + (M1.1.length - M.1.length) ≤ R.cells) (hs : slots + (am_sz M1 - am_sz M) ≤ R.slots) (k : sm_nx G p l e R s mI args below meth c cells slots Q m (pc + 3) M M1 L1 S1) : W p l e R s mI args below meth c H locs cells slots Q (F0 mI pc ls (S.map (sm_v G))) := by
  have hS := X.2.2.2.2.2.1
  have hP := X.2.2.2.2.2.2.2.2.2
  unfold am_na at hq
  split at hq
  · rename_i n r
    simp only [Option.some.injEq, Prod.mk.injEq] at hq
    obtain ⟨h0, rfl, rfl, rfl⟩ := hq
    rw [Bool.and_eq_true] at h0
    have hn0 : ¬ n < 0 := of_decide_eq_true h0.1
    have hn1 : n.toNatClampNeg ≤ 100000 := Nat.le_of_ble_eq_true h0.2
    obtain ⟨z1, z2⟩ := sm_nwl x n.toNatClampNeg M
    rw [z1] at hc
    rw [z2] at hs
    refine W.anew X.1 X.2.1 X.2.2.2.1 (X.2.2.2.2.1 _ hf) (va_AO.use (hS.2.1 x)) rfl hdg rfl hn0 (by omega) hc hs fun cA kA comp f1 f2 f3 f4 => ?_
    obtain ⟨t0, ht⟩ := sm_ty22 G h22 h24
    obtain ⟨kB, comB, -, -, -, k4⟩ := (hS.1.2 t0 _ ht).2
    have ecA : cA = sm_c G x := Option.some.inj (f1.symm.trans k4)
    generalize hH1 : H.push ({ cls := cA, slots := Array.replicate n.toNatClampNeg .null, vm := .none } : Cell) = H1
    have e2 : H1.size = H.size + 1 := by rw [← hH1, Array.size_push]
    have e1 : H1[H.size]? = some (arrV cA n.toNatClampNeg (fun _ => .null)) := by rw [← hH1, Array.getElem?_push_size, ← arrV_new]
    have e3 : ∀ q : Nat, q < H.size → H1[q]? = H[q]? := fun q hq => by rw [← hH1, Array.getElem?_push, if_neg (Nat.ne_of_lt hq)]
    have hat : sm_at G (am_nw x n.toNatClampNeg M) M.1.length H1 := by
      intro c2 n2 hcn
      have hcn : (M.1 ++ [(x, n.toNatClampNeg)])[M.1.length]? = some (c2, n2) := hcn
      rw [List.getElem?_append_right (Nat.le_refl _), Nat.sub_self] at hcn
      cases hcn
      refine ⟨fun h => by omega, fun h => by omega, fun _ _ => ?_, Or.inr (by omega)⟩
      rw [← sm_top hP hr, e1, ecA]
      congr 2
      funext j
      have i1 : (am_nw x n.toNatClampNeg M).2.2.1 M.1.length j = none := if_pos rfl
      rw [i1]
      rfl
    have := k H1 _ ls (sm_new hr e2 e3 hP hat) hl
    rw [z1, z2, List.map_cons, sm_v5 hr.1.2.2, ← sm_top hP hr] at this
    exact this
  · cases hq
theorem sm_catm (hP : sm_P G) (r : List Value) : ((r.map (sm_v G)).map fun v => v.category).sum = am_cat r := by
  unfold am_cat
  rw [List.map_map]
  congr 1
  refine List.map_congr_left (fun v _ => ?_)
  exact sm_cat G hP v
theorem sm_mmax {n : Nat} (X : sm_cx G p R s mI args meth c m d) (hr : sm_rl G M s H locs) (hl : sm_L G L ls (am_mx m)) (hdg : decode (am_cd m) pc = .ok (.invokestatic n, 3)) (hf : Cond.methodLink (am_nm m).cls n Lib.Math.max.name ∈ am_W) (hcs : cells ≤ R.cells ∧ slots ≤ R.slots) (hq : am_ma d 1 M L S = some (true, M1, L1, S1)) (k : sm_nx G p l e R s mI args below meth c cells slots Q m (pc + 3) M M1 L1 S1) : W p l e R s mI args below meth c H locs cells slots Q (F0 mI pc ls (S.map (sm_v G))) := by
  have hP := X.2.2.2.2.2.2.2.2.2
  simp only [am_ma] at hq
  split at hq
  · rename_i y x r
    simp only [Option.some.injEq, Prod.mk.injEq] at hq
    obtain ⟨h0, rfl, rfl, rfl⟩ := hq
    rw [Bool.and_eq_true] at h0
    have hd : 1 ≤ d := Nat.le_of_ble_eq_true h0.1
    have h8 : am_cat r ≤ 8 := Nat.le_of_ble_eq_true h0.2
    have hR := X.2.2.2.2.2.2.2.1
    have hR2 := X.2.2.2.2.2.2.2.2.1
    exact va_mmax X.1 X.2.1 (by rw [X.2.2.1, hl.2.1]) X.2.2.2.1 (X.2.2.2.2.1 _ hf) (X.2.2.2.2.1 _ cl_mmax.1) (X.2.2.2.2.1 _ cl_mmax.2.1) (X.2.2.2.2.1 _ cl_mmax.2.2) (by omega) (by rw [sm_catm hP]; omega) hcs.1 hcs.2 hdg (k.same hr hl)
  · cases hq
theorem sm_mmin {n : Nat} (X : sm_cx G p R s mI args meth c m d) (hr : sm_rl G M s H locs) (hl : sm_L G L ls (am_mx m)) (hdg : decode (am_cd m) pc = .ok (.invokestatic n, 3)) (hf : Cond.methodLink (am_nm m).cls n Lib.Math.min.name ∈ am_W) (hcs : cells ≤ R.cells ∧ slots ≤ R.slots) (hq : am_ma d 2 M L S = some (true, M1, L1, S1)) (k : sm_nx G p l e R s mI args below meth c cells slots Q m (pc + 3) M M1 L1 S1) : W p l e R s mI args below meth c H locs cells slots Q (F0 mI pc ls (S.map (sm_v G))) := by
  have hP := X.2.2.2.2.2.2.2.2.2
  simp only [am_ma] at hq
  split at hq
  · rename_i y x r
    simp only [Option.some.injEq, Prod.mk.injEq] at hq
    obtain ⟨h0, rfl, rfl, rfl⟩ := hq
    rw [Bool.and_eq_true] at h0
    have hd : 1 ≤ d := Nat.le_of_ble_eq_true h0.1
    have h8 : am_cat r ≤ 8 := Nat.le_of_ble_eq_true h0.2
    have hR := X.2.2.2.2.2.2.2.1
    have hR2 := X.2.2.2.2.2.2.2.2.1
    exact va_mmin X.1 X.2.1 (by rw [X.2.2.1, hl.2.1]) X.2.2.2.1 (X.2.2.2.2.1 _ hf) (X.2.2.2.2.1 _ cl_mmin.1) (X.2.2.2.2.1 _ cl_mmin.2.1) (X.2.2.2.2.1 _ cl_mmin.2.2) (by omega) (by rw [sm_catm hP]; omega) hcs.1 hcs.2 hdg (k.same hr hl)
  · cases hq
theorem sm_mabs {n w : Nat} (X : sm_cx G p R s mI args meth c m d) (hr : sm_rl G M s H locs) (hl : sm_L G L ls (am_mx m)) (hdg : decode (am_cd m) pc = .ok (.invokestatic n, 3)) (hf : Cond.methodLink (am_nm m).cls n Lib.Math.abs.name ∈ am_W) (hcs : cells ≤ R.cells ∧ slots ≤ R.slots) (hq : am_ma d (w + 3) M L S = some (true, M1, L1, S1)) (k : sm_nx G p l e R s mI args below meth c cells slots Q m (pc + 3) M M1 L1 S1) : W p l e R s mI args below meth c H locs cells slots Q (F0 mI pc ls (S.map (sm_v G))) := by
  have hP := X.2.2.2.2.2.2.2.2.2
  simp only [am_ma] at hq
  split at hq
  · rename_i x r
    simp only [Option.some.injEq, Prod.mk.injEq] at hq
    obtain ⟨h0, rfl, rfl, rfl⟩ := hq
    rw [Bool.and_eq_true] at h0
    have hd : 1 ≤ d := Nat.le_of_ble_eq_true h0.1
    have h8 : am_cat r ≤ 8 := Nat.le_of_ble_eq_true h0.2
    have hR := X.2.2.2.2.2.2.2.1
    have hR2 := X.2.2.2.2.2.2.2.2.1
    exact va_mabs X.1 X.2.1 (by rw [X.2.2.1, hl.2.1]) X.2.2.2.1 (X.2.2.2.2.1 _ hf) (X.2.2.2.2.1 _ cl_mabs.1) (X.2.2.2.2.1 _ cl_mabs.2.1) (X.2.2.2.2.1 _ cl_mabs.2.2) (by omega) (by rw [sm_catm hP]; omega) hcs.1 hcs.2 hdg (k.same hr hl)
  · cases hq
theorem sm_nn {z : Int32} (hz : ¬ z < 0) : z.toInt = (z.toNatClampNeg : Int) := by
  have h1 := Int32.not_lt.mp hz
  have h2 : (0 : Int) ≤ z.toInt := by simpa using Int32.le_iff_toInt_le.mp h1
  show z.toInt = ((z.toInt.toNat : Nat) : Int)
  omega
theorem sm_acp {n0 : Nat} (X : sm_cx G p R s mI args meth c m d) (hr : sm_rl G M s H locs) (hl : sm_L G L ls (am_mx m)) (hdg : decode (am_cd m) pc = .ok (.invokestatic n0, 3)) (hf : Cond.methodLink (am_nm m).cls n0 arraycopyName ∈ am_W) (hq : am_cp d M L S = some (true, M1, L1, S1)) (k : sm_nx G p l e R s mI args below meth c cells slots Q m (pc + 3) M M1 L1 S1) : W p l e R s mI args below meth c H locs cells slots Q (F0 mI pc ls (S.map (sm_v G))) := by
  have hS := X.2.2.2.2.2.1
  have hP := X.2.2.2.2.2.2.2.2.2
  unfold am_cp at hq
  split at hq
  · rename_i n dp a sp a0 r
    simp only [Option.some.injEq, Prod.mk.injEq] at hq
    obtain ⟨h0, rfl, rfl, rfl⟩ := hq
    rw [Bool.and_eq_true, Bool.and_eq_true, Bool.and_eq_true, Bool.and_eq_true, Bool.and_eq_true, Bool.and_eq_true] at h0
    obtain ⟨b1, b2, b3, b4, b5, b6, b7⟩ := h0
    obtain ⟨m0, hm0⟩ := sm_kd b3
    obtain ⟨m1, hm1⟩ := sm_kd b5
    have ha0 : 5 ≤ a0 := Nat.le_of_ble_eq_true b4
    have ha : 5 ≤ a := Nat.le_of_ble_eq_true b6
    have b7 := of_decide_eq_true b7
    rw [sm_ln hm0, sm_ln hm1] at b7
    obtain ⟨p1, p2, p3, p4, p5⟩ := b7
    have hd : 1 ≤ d := Nat.le_of_ble_eq_true b1
    have h8 : am_cat r ≤ 8 := Nat.le_of_ble_eq_true b2
    have hR := X.2.2.2.2.2.2.2.1
    have hR2 := X.2.2.2.2.2.2.2.2.1
    have hc0 := (hr.1.1 a0 ha0 20 m0 hm0).2.1 (Or.inl rfl)
    have hc1 := (hr.1.1 a ha 20 m1 hm1).2.1 (Or.inl rfl)
    obtain ⟨-, k0, hk0, cm0, hkk0⟩ := sm_ar (n := m0) hS 0 rfl (fun j => .int (M.2.1 a0 j))
    obtain ⟨-, k1, hk1, cm1, hkk1⟩ := sm_ar (n := m1) hS 0 rfl (fun j => .int (M.2.1 a j))
    rw [List.map_cons, List.map_cons, List.map_cons, List.map_cons, List.map_cons, sm_v5 ha, sm_v5 ha0]
    intro T hT Y
    obtain ⟨vm', Y', step⟩ := Y.arraycopy X.1 X.2.2.2.1 (X.2.2.2.2.1 _ hf) (X.2.2.2.2.1 _ cl_ac.1) (X.2.2.2.2.1 _ cl_ac.2.1) (X.2.2.2.2.1 _ cl_ac.2.2) (src := sm_a G a0) (dst := sm_a G a) (cs := vp_cell (sm_c G 20) (m0, .inl (M.2.1 a0))) (cd := vp_cell (sm_c G 20) (m1, .inl (M.2.1 a))) (srcPos := sp) (destPos := dp) (n := n) (by rw [hT]; exact hc0) (by rw [hT]; exact hc1)
      (fun _ h => by cases h) (fun _ h => by cases h) (fun h => by cases h) (fun h => by cases h) hk0 hk1 hkk0 hkk1 (by simp [refKind]) p1 p2 p3
      (by rw [sm_nn p1, sm_nn p3]; show ¬ _ > ((arrV (sm_c G 20) m0 (fun j => .int (M.2.1 a0 j))).slots.size : Int); rw [arrV_size]; omega)
      (by rw [sm_nn p2, sm_nn p3]; show ¬ _ > ((arrV (sm_c G 20) m1 (fun j => .int (M.2.1 a j))).slots.size : Int); rw [arrV_size]; omega)
      (fun vm₁ _ i hi => by
        have e : (vp_cell (sm_c G 20) (m0, .inl (M.2.1 a0))).slots.getD (sp.toNatClampNeg + i) .null = .int (M.2.1 a0 (sp.toNatClampNeg + i)) := by
          show (arrV (sm_c G 20) m0 (fun j => .int (M.2.1 a0 j))).slots.getD _ _ = _
          rw [Array.getD_eq_getD_getElem?, arrV_read _ _ (by omega)]
          rfl
        refine ⟨?_, ?_⟩
        · rw [e]
          rfl
        · rw [e]
          exact trivial)
      (g := F0 mI pc ls (.int n :: .int dp :: .ref (sm_a G a) :: .int sp :: .ref (sm_a G a0) :: r.map (sm_v G))) rfl (by rw [X.2.2.1, hl.2.1]) (rest := r.map (sm_v G)) rfl (by rw [X.2.1]; exact hdg) (by omega) (by show 2 * 0 + _ + (nativeFrameWords "java/lang/System" "arraycopy" 5 + 11) ≤ _; rw [sm_catm hP, show nativeFrameWords "java/lang/System" "arraycopy" 5 = 7 by decide]; omega)
    have ec : copied (vp_cell (sm_c G 20) (m0, .inl (M.2.1 a0))) (vp_cell (sm_c G 20) (m1, .inl (M.2.1 a))) sp dp n = vp_cell (sm_c G 20) (m1, .inl (va_cpy (M.2.1 a0) (M.2.1 a) sp.toNatClampNeg dp.toNatClampNeg n.toNatClampNeg)) := va_copied (fun z => .int z) (sm_c G 20) (sm_c G 20) (M.2.1 a0) (M.2.1 a) p4
    rw [ec] at Y' step
    have hlt : sm_a G a < H.size := (Array.getElem?_eq_some_iff.mp hc1).1
    have oq : ∀ q : Nat, q ≠ sm_a G a → (H.setIfInBounds (sm_a G a) (vp_cell (sm_c G 20) (m1, .inl (va_cpy (M.2.1 a0) (M.2.1 a) sp.toNatClampNeg dp.toNatClampNeg n.toNatClampNeg))))[q]? = H[q]? := fun q hq => by simp [Array.getElem?_setIfInBounds, Ne.symm hq]
    have oth : ∀ k, k ≠ a → ∀ i, am_u1 M.2.1 a (va_cpy (M.2.1 a0) (M.2.1 a) sp.toNatClampNeg dp.toNatClampNeg n.toNatClampNeg) k i = M.2.1 k i ∧ M.2.2.1 k i = M.2.2.1 k i ∧ M.2.2.2 k i = M.2.2.2 k i := fun k hk i => ⟨if_neg hk, rfl, rfl⟩
    have hr1 : ∀ locs1, (∀ q ∈ locs1, q.base = sm_a G a) → sm_rl G (M.1, am_u1 M.2.1 a (va_cpy (M.2.1 a0) (M.2.1 a) sp.toNatClampNeg dp.toNatClampNeg n.toNatClampNeg), M.2.2.1, M.2.2.2) s (H.setIfInBounds (sm_a G a) (vp_cell (sm_c G 20) (m1, .inl (va_cpy (M.2.1 a0) (M.2.1 a) sp.toNatClampNeg dp.toNatClampNeg n.toNatClampNeg)))) (locs ++ locs1) := by
      intro locs1 hb
      refine ⟨sm_hp_set hP hr.1 ha rfl oth (by simp) oq ?_, sm_fr_set hr.2.1 ha rfl oth (fun i w hw => hr.2.1.2.2.2.2.2.2 a i w ha hw), ⟨by simp; exact hr.2.2.1, fun q q1 q2 => ?_, fun q hq => ?_⟩⟩
      · intro c2 n2 hcn
        have hcn : M.1[a]? = some (c2, n2) := hcn
        rw [hm1] at hcn
        cases hcn
        refine ⟨fun h => by omega, fun _ => ?_, fun h => by omega, Or.inr (by omega)⟩
        have e0 : (H.setIfInBounds (sm_a G a) (vp_cell (sm_c G 20) (m1, .inl (va_cpy (M.2.1 a0) (M.2.1 a) sp.toNatClampNeg dp.toNatClampNeg n.toNatClampNeg))))[sm_a G a]? = some (vp_cell (sm_c G 20) (m1, .inl (va_cpy (M.2.1 a0) (M.2.1 a) sp.toNatClampNeg dp.toNatClampNeg n.toNatClampNeg))) := by simp [Array.getElem?_setIfInBounds, hlt]
        rw [e0, vp_cell_i]
        congr 2
        funext i
        have e1 : am_u1 M.2.1 a (va_cpy (M.2.1 a0) (M.2.1 a) sp.toNatClampNeg dp.toNatClampNeg n.toNatClampNeg) a i = va_cpy (M.2.1 a0) (M.2.1 a) sp.toNatClampNeg dp.toNatClampNeg n.toNatClampNeg i := if_pos rfl
        exact congrArg Value.int e1.symm
      · rw [oq q (fun e => q2 (by rw [e]; exact sm_aA hP ha))]
        exact hr.2.2.2.1 q q1 q2
      · rcases List.mem_append.mp hq with h | h
        · exact hr.2.2.2.2 q h
        · rw [hb q h]
          exact sm_aA hP ha
    have hw : ∀ locs1, (∀ q ∈ locs1, q.base = sm_a G a) → W p l e R s mI args below meth c (H.setIfInBounds (sm_a G a) (vp_cell (sm_c G 20) (m1, .inl (va_cpy (M.2.1 a0) (M.2.1 a) sp.toNatClampNeg dp.toNatClampNeg n.toNatClampNeg)))) (locs ++ locs1) cells slots Q (F0 mI (pc + 3) ls (r.map (sm_v G))) := by
      intro locs1 hb
      have := k _ _ ls (hr1 locs1 hb) hl
      simp only [am_sz, Nat.sub_self, Nat.add_zero] at this
      exact this
    have key := fun hb => hw _ hb _ (by rw [← hT]; rfl) Y'
    obtain ⟨t, a1, b1⟩ := key (fun q hq => by
      obtain ⟨z, -, hz⟩ := List.mem_map.mp hq
      rw [← hz])
    exact ⟨t, step t a1, b1⟩
  · cases hq
end SM7
