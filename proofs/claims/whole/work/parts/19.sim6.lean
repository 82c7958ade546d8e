/-! THE SIMULATION, 6: rows of references, statics, texts, new cells, natives -/
section SM6
variable {G : sm_G} {p : Program} {l : Launch} {e : Env} {R : Room} {s : State} {mI : MethodId} {args : Array Value} {below : List Frame} {meth : Method} {c : Code} {H H1 : Heap} {locs : List Loc} {cells slots : Nat} {Q : State → Prop} {m d pc : Nat} {ls : Array Slot} {M M1 : am_M} {L L1 : am_L} {S S1 : List Value}
theorem sm_ty22 (G : sm_G) {x : Nat} (h22 : 22 ≤ x) (h24 : x ≤ 24) : ∃ t0 : Nat, (sm_ts G)[t0]? = some (sm_c G x, .object (am_rc x)) := by
  rcases (show x = 22 ∨ x = 23 ∨ x = 24 by omega) with rfl | rfl | rfl
  · exact ⟨2, rfl⟩
  · exact ⟨3, rfl⟩
  · exact ⟨4, rfl⟩
theorem sm_aast {x y : Nat} (h22 : 22 ≤ x) (h24 : x ≤ 24) (hy : am_kn y = am_rc x) (X : sm_cx G p R s mI args meth c m d) (hr : sm_rl G M s H locs) (hl : sm_L G L ls (am_mx m)) (hdg : decode (am_cd m) pc = .ok (.aastore, 1)) (hq : am_as x y M L S = some (true, M1, L1, S1)) (k : sm_nx G p l e R s mI args below meth c cells slots Q m (pc + 1) M M1 L1 S1) : W p l e R s mI args below meth c H locs cells slots Q (F0 mI pc ls (S.map (sm_v G))) := by
  have hS := X.2.2.2.2.2.1
  have hP := X.2.2.2.2.2.2.2.2.2
  unfold am_as at hq
  split at hq
  · rename_i v j a r
    simp only [Option.some.injEq, Prod.mk.injEq] at hq
    obtain ⟨h0, rfl, rfl, rfl⟩ := hq
    rw [Bool.and_eq_true, Bool.and_eq_true, Bool.and_eq_true, Bool.and_eq_true] at h0
    obtain ⟨g0, g1, g2, g3, g4⟩ := h0
    obtain ⟨n, hn⟩ := sm_kd g0
    obtain ⟨nv, hnv⟩ := sm_kd g2
    have ha : 5 ≤ a := Nat.le_of_ble_eq_true g1
    have hv5 : 5 ≤ v := Nat.le_of_ble_eq_true g3
    have hin : vp_in j n := by
      have := of_decide_eq_true g4
      rw [sm_ln hn] at this
      exact this
    have hlt : j.toNatClampNeg < n := Nat.not_le.mp fun q => hin (Or.inr q)
    have hj0 : ¬ j < 0 := fun q => hin (Or.inl q)
    have hc := (hr.1.1 a ha x n hn).2.2.1 h22 h24
    obtain ⟨t0, ht⟩ := sm_ty22 G h22 h24
    obtain ⟨kA, comp, k1, k2, k3, -⟩ := (hS.1.2 t0 _ ht).2
    obtain ⟨q, hq1, hq2⟩ : ∃ q, am_cl[y]? = some q ∧ q.1 = am_rc x := by
      unfold am_kn at hy
      split at hy
      · rename_i q hq
        exact ⟨q, hq, hy⟩
      · rcases cl_rc x with h | h | h <;> rw [h] at hy <;> exact absurd hy (by decide)
    have hy11 := cl_lt hq1
    obtain ⟨⟨q', hq', -⟩, cv, v1, v2, v3, -⟩ := (hr.1.1 v hv5 y nv hnv).1 hy11
    have hcls := (hS.1.1 y q hq1).2
    have hcomp : comp = (sm_D G).1 y := Option.some.inj (k3.symm.trans (by rw [← hq2]; exact hcls.1))
    subst hcomp
    obtain ⟨kC, hkC, -⟩ := hcls.2
    rw [List.map_cons, List.map_cons, List.map_cons, sm_v5 ha, sm_v5 hv5]
    refine W.aast X.1 X.2.1 hc (fun q h => by cases h) (fun h => by cases h) k1 k2 rfl hkC ⟨hj0, by rw [arrV_size]; exact hlt⟩ v1 (fun q h => by rw [v3] at h; cases h) (by rw [v2]; exact hkC) (by rw [v2]; exact va_assign hcls) rfl rfl hdg fun H' e1 e2 e3 => ?_
    have oth : ∀ k, k ≠ a → ∀ i, M.2.1 k i = M.2.1 k i ∧ am_u2 M.2.2.1 a j.toNatClampNeg (some v) k i = M.2.2.1 k i ∧ M.2.2.2 k i = M.2.2.2 k i := fun k hk i => ⟨rfl, sm_u2o _ _ _ _ (fun h => hk h.1), rfl⟩
    have hr1 : sm_rl G (M.1, M.2.1, am_u2 M.2.2.1 a j.toNatClampNeg (some v), M.2.2.2) s H' (locs ++ [⟨sm_a G a, j.toNatClampNeg⟩]) := by
      refine ⟨sm_hp_set hP hr.1 ha rfl oth e2 e3 ?_, sm_fr_set hr.2.1 ha rfl oth (fun i w hw => ?_), hr.2.2.put e2 e3 (sm_aA hP ha)⟩
      · intro c2 n2 hcn
        have hcn : M.1[a]? = some (c2, n2) := hcn
        rw [hn] at hcn
        cases hcn
        refine ⟨fun h => by omega, fun h => by omega, fun _ _ => ?_, Or.inr (by omega)⟩
        rw [e1, arrV_store]
        congr 2
        funext i
        show updV (fun j => va_rf ((M.2.2.1 a j).map (sm_a G))) j.toNatClampNeg (.ref (sm_a G v)) i = va_rf ((am_u2 M.2.2.1 a j.toNatClampNeg (some v) a i).map (sm_a G))
        unfold updV am_u2
        by_cases hi : i = j.toNatClampNeg
        · rw [if_pos hi, if_pos ⟨rfl, hi⟩]; rfl
        · rw [if_neg hi, if_neg (fun h => hi h.2)]
      · have hw : am_u2 M.2.2.1 a j.toNatClampNeg (some v) a i = some w := hw
        unfold am_u2 at hw
        by_cases hi : i = j.toNatClampNeg
        · rw [if_pos ⟨rfl, hi⟩] at hw
          cases hw
          exact hv5
        · rw [if_neg (fun h => hi h.2)] at hw
          exact hr.2.1.2.2.2.2.2.2 a i w ha hw
    have := k H' _ ls hr1 hl
    simp only [am_sz, Nat.sub_self, Nat.add_zero] at this
    exact this
  · cases hq
/-- getfield of the text WORDS -/
theorem sm_getS {y w n : Nat} (X : sm_cx G p R s mI args meth c m d) (hr : sm_rl G M s H locs) (hl : sm_L G L ls (am_mx m)) (hdg : decode (am_cd m) pc = .ok (.getfield n, 3)) (hf : (y = 0 ∧ w = 0 ∧ Cond.fieldLink (am_nm m).cls n "java/lang/String" "coder" "B" ∈ am_W) ∨ (y = 1 ∧ w = 1 ∧ Cond.fieldLink (am_nm m).cls n "java/lang/String" "value" "[B" ∈ am_W)) (hq : am_gf 26 y w M L S = some (true, M1, L1, S1)) (k : sm_nx G p l e R s mI args below meth c cells slots Q m (pc + 3) M M1 L1 S1) : W p l e R s mI args below meth c H locs cells slots Q (F0 mI pc ls (S.map (sm_v G))) := by
  have hS := X.2.2.2.2.2.1
  unfold am_gf at hq
  split at hq
  · rename_i a r
    simp only [Option.some.injEq, Prod.mk.injEq] at hq
    obtain ⟨h0, rfl, rfl, rfl⟩ := hq
    obtain ⟨n', hn⟩ := sm_kd h0
    have kk := k.same hr hl
    rcases Nat.lt_or_ge a 5 with ha | ha
    · have hn' := hn
      rw [sm_fr_get hr.2.1 ha] at hn'
      rcases (sm_lt5 ha) with rfl | rfl | rfl | rfl | rfl
      · simp at hn'
      · simp at hn'
      · rcases hf with ⟨rfl, rfl, hf⟩ | ⟨rfl, rfl, hf⟩
        · refine vk_getf X.1 X.2.1 (hS.2.2.2.2.1.1 0 (by decide)).2.1 hr.2.2 X.2.2.2.1 (X.2.2.2.2.1 _ hf) (fun x h => h) hdg ?_
          have : (Value.int 0 : Value) = sm_v G (am_rd 0 M 2 0) := by show _ = Value.int (M.2.1 2 0); rw [hr.2.1.2.2.2.1]
          rw [this]
          exact kk
        · refine vk_getf X.1 X.2.1 (hS.2.2.2.2.1.1 0 (by decide)).2.2.1 hr.2.2 X.2.2.2.1 (X.2.2.2.2.1 _ hf) (fun x h => h) hdg ?_
          have : (Value.ref (sm_a G 3) : Value) = sm_v G (am_rd 1 M 2 1) := by show _ = sm_v G (va_rf (M.2.2.1 2 1)); rw [hr.2.1.2.2.2.2.1]; rfl
          rw [this]
          exact kk
      · simp at hn'
      · simp at hn'
    · have := (hr.1.1 a ha 26 n' hn).2.2.2
      omega
  · cases hq
theorem sm_gets0 {n : Nat} (X : sm_cx G p R s mI args meth c m d) (hr : sm_rl G M s H locs) (hl : sm_L G L ls (am_mx m)) (hdg : decode (am_cd m) pc = .ok (.getstatic n, 3)) (hf : Cond.fieldLinkNest (am_nm m).cls n "EvenlyPoured" "UNDER" "[I" "EvenlyPoured" ∈ lw_tbl) (hq : am_psh (am_gs 0) M L S = some (true, M1, L1, S1)) (k : sm_nx G p l e R s mI args below meth c cells slots Q m (pc + 3) M M1 L1 S1) : W p l e R s mI args below meth c H locs cells slots Q (F0 mI pc ls (S.map (sm_v G))) := by
  have hS := X.2.2.2.2.2.1
  simp only [am_psh, Option.some.injEq, Prod.mk.injEq] at hq
  obtain ⟨-, rfl, rfl, rfl⟩ := hq
  exact va_getsN X.1 X.2.1 hS.2.2.2.2.2.2.2.1 hr.2.2 X.2.2.2.1 (va_Nw.use rfl (hS.2.2.1 _ (List.mem_filter.mpr ⟨hf, rfl⟩))) (fun x h => h) hdg (k.same hr hl)
theorem sm_gets1 {n : Nat} (X : sm_cx G p R s mI args meth c m d) (hr : sm_rl G M s H locs) (hl : sm_L G L ls (am_mx m)) (hdg : decode (am_cd m) pc = .ok (.getstatic n, 3)) (hf : Cond.fieldLink (am_nm m).cls n "java/lang/String" "COMPACT_STRINGS" "Z" ∈ am_W) (hq : am_psh (am_gs 1) M L S = some (true, M1, L1, S1)) (k : sm_nx G p l e R s mI args below meth c cells slots Q m (pc + 3) M M1 L1 S1) : W p l e R s mI args below meth c H locs cells slots Q (F0 mI pc ls (S.map (sm_v G))) := by
  have hS := X.2.2.2.2.2.1
  simp only [am_psh, Option.some.injEq, Prod.mk.injEq] at hq
  obtain ⟨-, rfl, rfl, rfl⟩ := hq
  exact va_gets X.1 X.2.1 hS.2.2.2.2.2.2.2.2.1 hr.2.2 X.2.2.2.1 (X.2.2.2.2.1 _ hf) (fun x h => h) hdg (k.same hr hl)
theorem sm_gets2 {n z : Nat} (X : sm_cx G p R s mI args meth c m d) (hr : sm_rl G M s H locs) (hl : sm_L G L ls (am_mx m)) (hdg : decode (am_cd m) pc = .ok (.getstatic n, 3)) (hf : Cond.fieldLink (am_nm m).cls n "jdk/internal/util/Preconditions" "SIOOBE_FORMATTER" "Ljava/util/function/BiFunction;" ∈ am_W) (hq : am_psh (am_gs (z + 2)) M L S = some (true, M1, L1, S1)) (k : sm_nx G p l e R s mI args below meth c cells slots Q m (pc + 3) M M1 L1 S1) : W p l e R s mI args below meth c H locs cells slots Q (F0 mI pc ls (S.map (sm_v G))) := by
  have hS := X.2.2.2.2.2.1
  simp only [am_psh, Option.some.injEq, Prod.mk.injEq] at hq
  obtain ⟨-, rfl, rfl, rfl⟩ := hq
  exact va_gets X.1 X.2.1 hS.2.2.2.2.2.2.2.2.2.1 hr.2.2 X.2.2.2.1 (X.2.2.2.2.1 _ hf) (fun x h => h) hdg (k.same hr hl)
/-- a cell more -/
theorem sm_new {c0 n : Nat} (hr : sm_rl G M s H locs) (hz : H1.size = H.size + 1) (o1 : ∀ q, q < H.size → H1[q]? = H[q]?) (hP : sm_P G) (hat : sm_at G (am_nw c0 n M) M.1.length H1) : sm_rl G (am_nw c0 n M) s H1 locs := by
  obtain ⟨⟨h1, h2, h3⟩, hf, hS⟩ := hr
  have e0 : ∀ k, k ≠ M.1.length → ∀ j, (am_nw c0 n M).2.1 k j = M.2.1 k j ∧ (am_nw c0 n M).2.2.1 k j = M.2.2.1 k j ∧ (am_nw c0 n M).2.2.2 k j = M.2.2.2 k j := fun k hk j => ⟨if_neg hk, if_neg hk, if_neg hk⟩
  refine ⟨⟨fun k hk => ?_, ?_, ?_⟩, ?_, ?_⟩
  · by_cases hkl : k = M.1.length
    · rw [hkl]; exact hat
    · intro c2 n2 hcn
      have hcn : (M.1 ++ [(c0, n)])[k]? = some (c2, n2) := hcn
      have hlt : k < M.1.length := by
        have := (List.getElem?_eq_some_iff.mp hcn).1
        rw [List.length_append, List.length_singleton] at this
        omega
      rw [List.getElem?_append_left hlt] at hcn
      have hq : H1[sm_a G k]? = H[sm_a G k]? := by
        refine o1 _ ?_
        obtain ⟨k', rfl⟩ := Nat.exists_eq_add_of_le' hk
        rw [hP.1]
        omega
      obtain ⟨g1, g2, g3, g4⟩ := h1 k hk c2 n2 hcn
      refine ⟨fun h => ⟨(g1 h).1, ((g1 h).2.kept hq).to (fun j _ => ?_)⟩, fun h => ?_, fun h h' => ?_, g4⟩
      · unfold sm_fv
        obtain ⟨e1, e2, e3⟩ := e0 k hkl j
        rw [e1, e2, e3]
      · rw [hq, g2 h]
        congr 2
        funext j
        rw [(e0 k hkl j).1]
      · rw [hq, g3 h h']
        congr 2
        funext j
        rw [(e0 k hkl j).2.1]
  · show H1.size + 5 = sm_b G + (M.1 ++ [(c0, n)]).length
    rw [List.length_append, List.length_singleton]
    omega
  · show 5 ≤ (M.1 ++ [(c0, n)]).length
    rw [List.length_append, List.length_singleton]
    omega
  · obtain ⟨f1, f2, f3, f4, f5, f6, f7⟩ := hf
    refine ⟨?_, fun j hj => ?_, fun j hj => ?_, ?_, ?_, fun j hj => ?_, fun k j v hk hv => ?_⟩
    · show (M.1 ++ [(c0, n)]).take 5 = _
      rw [List.take_append_of_le_length h3]
      exact f1
    · rw [(e0 0 (by omega) j).1]; exact f2 j hj
    · rw [(e0 1 (by omega) j).1]; exact f3 j hj
    · rw [(e0 2 (by omega) 0).1]; exact f4
    · rw [(e0 2 (by omega) 1).2.1]; exact f5
    · rw [(e0 3 (by omega) j).1]; exact f6 j hj
    · by_cases hkl : k = M.1.length
      · have : (am_nw c0 n M).2.2.1 k j = none := if_pos hkl
        rw [this] at hv
        cases hv
      · rw [(e0 k hkl j).2.1] at hv
        exact f7 k j v hk hv
  · exact ⟨Nat.le_trans hS.1 (by omega), fun q q1 q2 => (o1 q (Nat.lt_of_lt_of_le q1 hS.1)).trans (hS.2.1 q q1 q2), hS.2.2⟩
theorem sm_nwl (c0 n : Nat) (M : am_M) : (am_nw c0 n M).1.length - M.1.length = 1 ∧ am_sz (am_nw c0 n M) - am_sz M = n := by
  refine ⟨?_, ?_⟩
  · show (M.1 ++ [(c0, n)]).length - _ = 1
    rw [List.length_append, List.length_singleton]
    omega
  · unfold am_sz
    show ((M.1 ++ [(c0, n)]).map (fun q => q.2)).sum - _ = n
    rw [List.map_append, List.sum_append]
    simp
theorem sm_top (hP : sm_P G) (hr : sm_rl G M s H locs) : H.size = sm_a G M.1.length := by
  obtain ⟨k', hk⟩ := Nat.exists_eq_add_of_le' hr.1.2.2
  have := hr.1.2.1
  rw [hk, hP.1]
  omega
end SM6
