/-! THE SIMULATION, 5: rows, statics, new cells -/
section SM5
variable {G : sm_G} {p : Program} {l : Launch} {e : Env} {R : Room} {s : State} {mI : MethodId} {args : Array Value} {below : List Frame} {meth : Method} {c : Code} {H H1 : Heap} {locs : List Loc} {cells slots : Nat} {Q : State → Prop} {m d pc : Nat} {ls : Array Slot} {M M1 : am_M} {L L1 : am_L} {S S1 : List Value}
theorem sm_ar (hS : sm_S G s) {x n : Nat} {ty : FieldType} (t0 : Nat) (ht : (sm_ts G)[t0]? = some (sm_c G x, ty)) (f : Nat → Value) : s.isArrayOf (arrV (sm_c G x) n f) ty := (hS.1.2 t0 _ ht).1 n f
theorem sm_lt5 {a : Nat} (h : a < 5) : a = 0 ∨ a = 1 ∨ a = 2 ∨ a = 3 ∨ a = 4 := by omega
theorem sm_nA (hS : sm_S G s) : ¬ sm_A G (sm_a G 0) := Nat.not_le.mpr hS.2.2.2.2.2.1.2
theorem sm_iald (X : sm_cx G p R s mI args meth c m d) (hr : sm_rl G M s H locs) (hl : sm_L G L ls (am_mx m)) (hdg : decode (am_cd m) pc = .ok (.iaload, 1)) (hq : am_ia 20 M L S = some (true, M1, L1, S1)) (k : sm_nx G p l e R s mI args below meth c cells slots Q m (pc + 1) M M1 L1 S1) : W p l e R s mI args below meth c H locs cells slots Q (F0 mI pc ls (S.map (sm_v G))) := by
  have hS := X.2.2.2.2.2.1
  unfold am_ia at hq
  split at hq
  · rename_i j a r
    simp only [Option.some.injEq, Prod.mk.injEq] at hq
    obtain ⟨h0, rfl, rfl, rfl⟩ := hq
    rw [Bool.and_eq_true] at h0
    obtain ⟨n, hn⟩ := sm_kd h0.1
    have hin : vp_in j n := by
      have := of_decide_eq_true h0.2
      rw [sm_ln hn] at this
      exact this
    have hlt : j.toNatClampNeg < n := Nat.not_le.mp fun q => hin (Or.inr q)
    have kk := k.same hr hl
    rcases Nat.lt_or_ge a 5 with ha | ha
    · have hn' := hn
      rw [sm_fr_get hr.2.1 ha] at hn'
      rcases (sm_lt5 ha) with rfl | rfl | rfl | rfl | rfl
      · have e : n = sm_n G := by simp at hn'; exact hn'.symm
        subst e
        refine va_sld X.1 X.2.1 hS.2.2.2.2.2.1.1 (Nat.lt_of_lt_of_le hS.2.2.2.2.2.1.2 hS.2.2.2.2.2.2.2.2.2.2) (sm_nA hS) hr.2.2 hin hdg ?_
        rw [← hr.2.1.2.1 _ hlt]
        exact kk
      · have e : n = 6 := by simp at hn'; exact hn'.symm
        subst e
        refine va_ti X.1 X.2.1 hS.2.2.2.2.2.2.1 hr.2.2 hin rfl hdg ?_
        have := hr.2.1.2.2.1 _ hlt
        rw [← this]
        exact kk
      · simp at hn'
      · simp at hn'
      · simp at hn'
    · have hc := (hr.1.1 a ha 20 n hn).2.1 (Or.inl rfl)
      rw [List.map_cons, List.map_cons, sm_v5 ha]
      exact W.iald X.1 X.2.1 hc (sm_ar hS 0 rfl _) (fun q => by cases q) (by rw [arrV_size]; exact hin) (by rw [arrV_read _ _ hlt]; rfl) rfl rfl hdg kk
  · cases hq
theorem sm_bald {x : Nat} (hx : x = 21 ∨ x = 25) (X : sm_cx G p R s mI args meth c m d) (hr : sm_rl G M s H locs) (hl : sm_L G L ls (am_mx m)) (hdg : decode (am_cd m) pc = .ok (.baload, 1)) (hq : am_ia x M L S = some (true, M1, L1, S1)) (k : sm_nx G p l e R s mI args below meth c cells slots Q m (pc + 1) M M1 L1 S1) : W p l e R s mI args below meth c H locs cells slots Q (F0 mI pc ls (S.map (sm_v G))) := by
  have hS := X.2.2.2.2.2.1
  unfold am_ia at hq
  split at hq
  · rename_i j a r
    simp only [Option.some.injEq, Prod.mk.injEq] at hq
    obtain ⟨h0, rfl, rfl, rfl⟩ := hq
    rw [Bool.and_eq_true] at h0
    obtain ⟨n, hn⟩ := sm_kd h0.1
    have hin : vp_in j n := by
      have := of_decide_eq_true h0.2
      rw [sm_ln hn] at this
      exact this
    have hlt : j.toNatClampNeg < n := Nat.not_le.mp fun q => hin (Or.inr q)
    have kk := k.same hr hl
    rcases hx with rfl | rfl
    · have ha := sm_ge hr.2.1 hn (by omega)
      have hc := (hr.1.1 a ha 21 n hn).2.1 (Or.inr rfl)
      rw [List.map_cons, List.map_cons, sm_v5 ha]
      exact W.zald X.1 X.2.1 hc (sm_ar hS 1 rfl _) (fun q => by cases q) (by rw [arrV_size]; exact hin) (by rw [arrV_read _ _ hlt]; rfl) rfl rfl hdg kk
    · rcases Nat.lt_or_ge a 5 with ha | ha
      · have hn' := hn
        rw [sm_fr_get hr.2.1 ha] at hn'
        rcases (sm_lt5 ha) with rfl | rfl | rfl | rfl | rfl
        · simp at hn'
        · simp at hn'
        · simp at hn'
        · have e : n = 59 := by simp at hn'; exact hn'.symm
          subst e
          have hT := (hS.2.2.2.2.1.1 0 (by decide)).2.2.2
          refine va_tb X.1 X.2.1 hT hr.2.2 hin rfl hdg ?_
          have := hr.2.1.2.2.2.2.2.1 _ hlt
          show W p l e R s mI args below meth c H locs cells slots Q (F0 mI (pc + 1) ls (.int (sm_by.getD j.toNatClampNeg 0) :: _))
          rw [← this]
          exact kk
        · simp at hn'
      · have := (hr.1.1 a ha 25 n hn).2.2.2
        omega
  · cases hq
theorem sm_aald {x : Nat} (h22 : 22 ≤ x) (h24 : x ≤ 24) (X : sm_cx G p R s mI args meth c m d) (hr : sm_rl G M s H locs) (hl : sm_L G L ls (am_mx m)) (hdg : decode (am_cd m) pc = .ok (.aaload, 1)) (hq : am_aa x M L S = some (true, M1, L1, S1)) (k : sm_nx G p l e R s mI args below meth c cells slots Q m (pc + 1) M M1 L1 S1) : W p l e R s mI args below meth c H locs cells slots Q (F0 mI pc ls (S.map (sm_v G))) := by
  have hS := X.2.2.2.2.2.1
  unfold am_aa at hq
  split at hq
  · rename_i j a r
    simp only [Option.some.injEq, Prod.mk.injEq] at hq
    obtain ⟨h0, rfl, rfl, rfl⟩ := hq
    rw [Bool.and_eq_true, Bool.and_eq_true] at h0
    obtain ⟨n, hn⟩ := sm_kd h0.1
    have ha : 5 ≤ a := Nat.le_of_ble_eq_true h0.2.1
    have hin : vp_in j n := by
      have := of_decide_eq_true h0.2.2
      rw [sm_ln hn] at this
      exact this
    have hlt : j.toNatClampNeg < n := Nat.not_le.mp fun q => hin (Or.inr q)
    have kk := k.same hr hl
    have hc := (hr.1.1 a ha x n hn).2.2.1 h22 h24
    rw [List.map_cons, sm_rf hr.2.1 ha] at kk
    rw [List.map_cons, List.map_cons, sm_v5 ha]
    have hty : ∃ (t0 : Nat) (C : String), (sm_ts G)[t0]? = some (sm_c G x, .object C) := by
      rcases (show x = 22 ∨ x = 23 ∨ x = 24 by omega) with rfl | rfl | rfl
      · exact ⟨2, _, rfl⟩
      · exact ⟨3, _, rfl⟩
      · exact ⟨4, _, rfl⟩
    obtain ⟨t0, C, ht⟩ := hty
    exact W.aald (ty := .object C) X.1 X.2.1 hc (sm_ar hS t0 ht _) rfl (fun q => by cases q) (by rw [arrV_size]; exact hin) (by rw [arrV_read _ _ hlt]) rfl rfl hdg kk
  · cases hq
theorem sm_alen (X : sm_cx G p R s mI args meth c m d) (hr : sm_rl G M s H locs) (hl : sm_L G L ls (am_mx m)) (hdg : decode (am_cd m) pc = .ok (.arraylength, 1)) (hq : am_al M L S = some (true, M1, L1, S1)) (k : sm_nx G p l e R s mI args below meth c cells slots Q m (pc + 1) M M1 L1 S1) : W p l e R s mI args below meth c H locs cells slots Q (F0 mI pc ls (S.map (sm_v G))) := by
  have hS := X.2.2.2.2.2.1
  unfold am_al at hq
  split at hq
  · rename_i a r
    simp only [Option.some.injEq, Prod.mk.injEq] at hq
    obtain ⟨h0, rfl, rfl, rfl⟩ := hq
    rw [Bool.or_eq_true] at h0
    have kk := k.same hr hl
    rcases h0 with h0 | h0
    · obtain ⟨n, hn⟩ := sm_kd h0
      rw [sm_ln hn] at kk
      rcases Nat.lt_or_ge a 5 with ha | ha
      · have hn' := hn
        rw [sm_fr_get hr.2.1 ha] at hn'
        rcases (sm_lt5 ha) with rfl | rfl | rfl | rfl | rfl
        · have e : n = sm_n G := by simp at hn'; exact hn'.symm
          subst e
          exact va_slen X.1 X.2.1 hS.2.2.2.2.2.1.1 (Nat.lt_of_lt_of_le hS.2.2.2.2.2.1.2 hS.2.2.2.2.2.2.2.2.2.2) (sm_nA hS) hr.2.2 hdg kk
        · have e : n = 6 := by simp at hn'; exact hn'.symm
          subst e
          exact va_tlen X.1 X.2.1 hS.2.2.2.2.2.2.1 hr.2.2 rfl hdg kk
        · simp at hn'
        · simp at hn'
        · simp at hn'
      · have hc := (hr.1.1 a ha 20 n hn).2.1 (Or.inl rfl)
        rw [List.map_cons, sm_v5 ha]
        exact W.alen X.1 X.2.1 hc (sm_ar hS 0 rfl _) (by rw [arrV_size]; rfl) rfl rfl hdg kk
    · obtain ⟨n, hn⟩ := sm_kd h0
      rw [sm_ln hn] at kk
      rcases Nat.lt_or_ge a 5 with ha | ha
      · have hn' := hn
        rw [sm_fr_get hr.2.1 ha] at hn'
        rcases (sm_lt5 ha) with rfl | rfl | rfl | rfl | rfl
        · simp at hn'
        · simp at hn'
        · simp at hn'
        · have e : n = 59 := by simp at hn'; exact hn'.symm
          subst e
          have hT := (hS.2.2.2.2.1.1 0 (by decide)).2.2.2
          exact va_tlen X.1 X.2.1 hT hr.2.2 rfl hdg kk
        · simp at hn'
      · have := (hr.1.1 a ha 25 n hn).2.2.2
        omega
  · cases hq
/-- a row of ints or booleans is written -/
theorem sm_asto {a x n j : Nat} {v : Int32} {u : Value} (hP : sm_P G) (hr : sm_rl G M s H locs) (hx : x = 20 ∨ x = 21) (hn : M.1[a]? = some (x, n)) (h5 : 5 ≤ a) (hu : u = .int v) (e1 : H1[sm_a G a]? = some ((arrV (sm_c G x) n (fun j => .int (M.2.1 a j))).setSlot j u)) (e2 : H1.size = H.size) (e3 : ∀ q, q ≠ sm_a G a → H1[q]? = H[q]?) : sm_rl G (M.1, am_u2 M.2.1 a j v, M.2.2.1, M.2.2.2) s H1 (locs ++ [⟨sm_a G a, j⟩]) := by
  have oth : ∀ k, k ≠ a → ∀ i, am_u2 M.2.1 a j v k i = M.2.1 k i ∧ M.2.2.1 k i = M.2.2.1 k i ∧ M.2.2.2 k i = M.2.2.2 k i := fun k hk i => ⟨sm_u2o _ _ _ _ (fun h => hk h.1), rfl, rfl⟩
  refine ⟨sm_hp_set hP hr.1 h5 rfl oth e2 e3 ?_, sm_fr_set hr.2.1 h5 rfl oth (fun i w hw => hr.2.1.2.2.2.2.2.2 a i w h5 hw), hr.2.2.put e2 e3 (sm_aA hP h5)⟩
  intro c2 n2 hcn
  have hcn : M.1[a]? = some (c2, n2) := hcn
  rw [hn] at hcn
  cases hcn
  refine ⟨fun h => by omega, fun _ => ?_, fun h => by omega, Or.inr (by omega)⟩
  rw [e1, arrV_store, hu]
  congr 2
  funext i
  show updV (fun j => Value.int (M.2.1 a j)) j (.int v) i = .int (am_u2 M.2.1 a j v a i)
  unfold updV am_u2
  by_cases hi : i = j
  · rw [if_pos hi, if_pos ⟨rfl, hi⟩]
  · rw [if_neg hi, if_neg (fun h => hi h.2)]
theorem sm_iast (X : sm_cx G p R s mI args meth c m d) (hr : sm_rl G M s H locs) (hl : sm_L G L ls (am_mx m)) (hdg : decode (am_cd m) pc = .ok (.iastore, 1)) (hq : am_is M L S = some (true, M1, L1, S1)) (k : sm_nx G p l e R s mI args below meth c cells slots Q m (pc + 1) M M1 L1 S1) : W p l e R s mI args below meth c H locs cells slots Q (F0 mI pc ls (S.map (sm_v G))) := by
  have hS := X.2.2.2.2.2.1
  unfold am_is at hq
  split at hq
  · rename_i v j a r
    simp only [Option.some.injEq, Prod.mk.injEq] at hq
    obtain ⟨h0, rfl, rfl, rfl⟩ := hq
    rw [Bool.and_eq_true, Bool.and_eq_true] at h0
    obtain ⟨n, hn⟩ := sm_kd h0.1
    have ha : 5 ≤ a := Nat.le_of_ble_eq_true h0.2.1
    have hin : vp_in j n := by
      have := of_decide_eq_true h0.2.2
      rw [sm_ln hn] at this
      exact this
    have hc := (hr.1.1 a ha 20 n hn).2.1 (Or.inl rfl)
    rw [List.map_cons, List.map_cons, List.map_cons, sm_v5 ha]
    refine W.iast X.1 X.2.1 hc (sm_ar hS 0 rfl _) (fun q => by cases q) (by rw [arrV_size]; exact hin) rfl rfl hdg fun H' e1 e2 e3 => ?_
    have := k H' _ ls (sm_asto X.2.2.2.2.2.2.2.2.2 hr (Or.inl rfl) hn ha rfl e1 e2 e3) hl
    simp only [am_sz, Nat.sub_self, Nat.add_zero] at this
    exact this
  · cases hq
theorem sm_bast (X : sm_cx G p R s mI args meth c m d) (hr : sm_rl G M s H locs) (hl : sm_L G L ls (am_mx m)) (hdg : decode (am_cd m) pc = .ok (.bastore, 1)) (hq : am_bs M L S = some (true, M1, L1, S1)) (k : sm_nx G p l e R s mI args below meth c cells slots Q m (pc + 1) M M1 L1 S1) : W p l e R s mI args below meth c H locs cells slots Q (F0 mI pc ls (S.map (sm_v G))) := by
  have hS := X.2.2.2.2.2.1
  unfold am_bs at hq
  split at hq
  · rename_i v j a r
    simp only [Option.some.injEq, Prod.mk.injEq] at hq
    obtain ⟨h0, rfl, rfl, rfl⟩ := hq
    rw [Bool.and_eq_true, Bool.and_eq_true] at h0
    obtain ⟨n, hn⟩ := sm_kd h0.1
    have ha : 5 ≤ a := Nat.le_of_ble_eq_true h0.2.1
    have hin : vp_in j n := by
      have := of_decide_eq_true h0.2.2
      rw [sm_ln hn] at this
      exact this
    have hc := (hr.1.1 a ha 21 n hn).2.1 (Or.inr rfl)
    rw [List.map_cons, List.map_cons, List.map_cons, sm_v5 ha]
    refine W.zast X.1 X.2.1 hc (sm_ar hS 1 rfl _) (fun q => by cases q) (by rw [arrV_size]; exact hin) rfl rfl hdg fun H' e1 e2 e3 => ?_
    have := k H' _ ls (sm_asto X.2.2.2.2.2.2.2.2.2 hr (Or.inr rfl) hn ha rfl e1 e2 e3) hl
    simp only [am_sz, Nat.sub_self, Nat.add_zero] at this
    exact this
  · cases hq
end SM5
