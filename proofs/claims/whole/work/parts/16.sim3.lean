/-! THE SIMULATION, 3: arithmetic, constants, locals, the stack -/
section SM3
variable {G : sm_G} {p : Program} {l : Launch} {e : Env} {R : Room} {s : State} {mI : MethodId} {args : Array Value} {below : List Frame} {meth : Method} {c : Code} {H : Heap} {locs : List Loc} {cells slots : Nat} {Q : State → Prop} {m d pc : Nat} {ls : Array Slot} {M M1 : am_M} {L L1 : am_L} {S S1 : List Value}
theorem sm_iadd (X : sm_cx G p R s mI args meth c m d) (hr : sm_rl G M s H locs) (hl : sm_L G L ls (am_mx m)) (hdg : decode (am_cd m) pc = .ok (.iadd, 1)) (hq : am_b2 (fun a b => a + b) M L S = some (true, M1, L1, S1)) (k : sm_nx G p l e R s mI args below meth c cells slots Q m (pc + 1) M M1 L1 S1) : W p l e R s mI args below meth c H locs cells slots Q (F0 mI pc ls (S.map (sm_v G))) := by
  unfold am_b2 at hq
  split at hq
  · cases hq
    exact lv_iadd X.1 X.2.1 hdg (k.same hr hl)
  · cases hq
theorem sm_isub (X : sm_cx G p R s mI args meth c m d) (hr : sm_rl G M s H locs) (hl : sm_L G L ls (am_mx m)) (hdg : decode (am_cd m) pc = .ok (.isub, 1)) (hq : am_b2 (fun a b => a - b) M L S = some (true, M1, L1, S1)) (k : sm_nx G p l e R s mI args below meth c cells slots Q m (pc + 1) M M1 L1 S1) : W p l e R s mI args below meth c H locs cells slots Q (F0 mI pc ls (S.map (sm_v G))) := by
  unfold am_b2 at hq
  split at hq
  · cases hq
    exact lv_isub X.1 X.2.1 hdg (k.same hr hl)
  · cases hq
theorem sm_imul (X : sm_cx G p R s mI args meth c m d) (hr : sm_rl G M s H locs) (hl : sm_L G L ls (am_mx m)) (hdg : decode (am_cd m) pc = .ok (.imul, 1)) (hq : am_b2 (fun a b => a * b) M L S = some (true, M1, L1, S1)) (k : sm_nx G p l e R s mI args below meth c cells slots Q m (pc + 1) M M1 L1 S1) : W p l e R s mI args below meth c H locs cells slots Q (F0 mI pc ls (S.map (sm_v G))) := by
  unfold am_b2 at hq
  split at hq
  · cases hq
    exact lv_imul X.1 X.2.1 hdg (k.same hr hl)
  · cases hq
theorem sm_iand (X : sm_cx G p R s mI args meth c m d) (hr : sm_rl G M s H locs) (hl : sm_L G L ls (am_mx m)) (hdg : decode (am_cd m) pc = .ok (.iand, 1)) (hq : am_b2 (fun a b => a &&& b) M L S = some (true, M1, L1, S1)) (k : sm_nx G p l e R s mI args below meth c cells slots Q m (pc + 1) M M1 L1 S1) : W p l e R s mI args below meth c H locs cells slots Q (F0 mI pc ls (S.map (sm_v G))) := by
  unfold am_b2 at hq
  split at hq
  · cases hq
    exact lv_iand X.1 X.2.1 hdg (k.same hr hl)
  · cases hq
theorem sm_ior (X : sm_cx G p R s mI args meth c m d) (hr : sm_rl G M s H locs) (hl : sm_L G L ls (am_mx m)) (hdg : decode (am_cd m) pc = .ok (.ior, 1)) (hq : am_b2 (fun a b => a ||| b) M L S = some (true, M1, L1, S1)) (k : sm_nx G p l e R s mI args below meth c cells slots Q m (pc + 1) M M1 L1 S1) : W p l e R s mI args below meth c H locs cells slots Q (F0 mI pc ls (S.map (sm_v G))) := by
  unfold am_b2 at hq
  split at hq
  · cases hq
    exact lv_ior X.1 X.2.1 hdg (k.same hr hl)
  · cases hq
theorem sm_ishl (X : sm_cx G p R s mI args meth c m d) (hr : sm_rl G M s H locs) (hl : sm_L G L ls (am_mx m)) (hdg : decode (am_cd m) pc = .ok (.ishl, 1)) (hq : am_b2 (fun a b => a <<< (b &&& 31)) M L S = some (true, M1, L1, S1)) (k : sm_nx G p l e R s mI args below meth c cells slots Q m (pc + 1) M M1 L1 S1) : W p l e R s mI args below meth c H locs cells slots Q (F0 mI pc ls (S.map (sm_v G))) := by
  unfold am_b2 at hq
  split at hq
  · cases hq
    exact lv_ishl X.1 X.2.1 hdg (k.same hr hl)
  · cases hq
theorem sm_ishr (X : sm_cx G p R s mI args meth c m d) (hr : sm_rl G M s H locs) (hl : sm_L G L ls (am_mx m)) (hdg : decode (am_cd m) pc = .ok (.ishr, 1)) (hq : am_b2 (fun a b => a >>> (b &&& 31)) M L S = some (true, M1, L1, S1)) (k : sm_nx G p l e R s mI args below meth c cells slots Q m (pc + 1) M M1 L1 S1) : W p l e R s mI args below meth c H locs cells slots Q (F0 mI pc ls (S.map (sm_v G))) := by
  unfold am_b2 at hq
  split at hq
  · cases hq
    exact lv_ishr X.1 X.2.1 hdg (k.same hr hl)
  · cases hq
theorem sm_iushr (X : sm_cx G p R s mI args meth c m d) (hr : sm_rl G M s H locs) (hl : sm_L G L ls (am_mx m)) (hdg : decode (am_cd m) pc = .ok (.iushr, 1)) (hq : am_b2 (fun a b => (a.toUInt32 >>> (b.toUInt32 &&& Int32.toUInt32 31)).toInt32) M L S = some (true, M1, L1, S1)) (k : sm_nx G p l e R s mI args below meth c cells slots Q m (pc + 1) M M1 L1 S1) : W p l e R s mI args below meth c H locs cells slots Q (F0 mI pc ls (S.map (sm_v G))) := by
  unfold am_b2 at hq
  split at hq
  · cases hq
    exact lv_iushr X.1 X.2.1 hdg rfl (k.same hr hl)
  · cases hq
theorem sm_ladd (X : sm_cx G p R s mI args meth c m d) (hr : sm_rl G M s H locs) (hl : sm_L G L ls (am_mx m)) (hdg : decode (am_cd m) pc = .ok (.ladd, 1)) (hq : am_l2 (fun a b => a + b) M L S = some (true, M1, L1, S1)) (k : sm_nx G p l e R s mI args below meth c cells slots Q m (pc + 1) M M1 L1 S1) : W p l e R s mI args below meth c H locs cells slots Q (F0 mI pc ls (S.map (sm_v G))) := by
  unfold am_l2 at hq
  split at hq
  · cases hq
    exact lv_ladd X.1 X.2.1 hdg (k.same hr hl)
  · cases hq
theorem sm_lsub (X : sm_cx G p R s mI args meth c m d) (hr : sm_rl G M s H locs) (hl : sm_L G L ls (am_mx m)) (hdg : decode (am_cd m) pc = .ok (.lsub, 1)) (hq : am_l2 (fun a b => a - b) M L S = some (true, M1, L1, S1)) (k : sm_nx G p l e R s mI args below meth c cells slots Q m (pc + 1) M M1 L1 S1) : W p l e R s mI args below meth c H locs cells slots Q (F0 mI pc ls (S.map (sm_v G))) := by
  unfold am_l2 at hq
  split at hq
  · cases hq
    exact lv_lsub X.1 X.2.1 hdg (k.same hr hl)
  · cases hq
theorem sm_lmul (X : sm_cx G p R s mI args meth c m d) (hr : sm_rl G M s H locs) (hl : sm_L G L ls (am_mx m)) (hdg : decode (am_cd m) pc = .ok (.lmul, 1)) (hq : am_l2 (fun a b => a * b) M L S = some (true, M1, L1, S1)) (k : sm_nx G p l e R s mI args below meth c cells slots Q m (pc + 1) M M1 L1 S1) : W p l e R s mI args below meth c H locs cells slots Q (F0 mI pc ls (S.map (sm_v G))) := by
  unfold am_l2 at hq
  split at hq
  · cases hq
    exact lv_lmul X.1 X.2.1 hdg (k.same hr hl)
  · cases hq
theorem sm_idiv (X : sm_cx G p R s mI args meth c m d) (hr : sm_rl G M s H locs) (hl : sm_L G L ls (am_mx m)) (hdg : decode (am_cd m) pc = .ok (.idiv, 1)) (hq : am_d2 (fun a b => a / b) M L S = some (true, M1, L1, S1)) (k : sm_nx G p l e R s mI args below meth c cells slots Q m (pc + 1) M M1 L1 S1) : W p l e R s mI args below meth c H locs cells slots Q (F0 mI pc ls (S.map (sm_v G))) := by
  unfold am_d2 at hq
  split at hq
  · rename_i y x r
    have h0 : am_nz y = true := (Prod.mk.inj (Option.some.inj hq)).1
    have h1 := (Prod.mk.inj (Option.some.inj hq)).2
    cases h1
    exact lv_idiv X.1 X.2.1 hdg (of_decide_eq_true h0) (k.same hr hl)
  · cases hq
theorem sm_irem (X : sm_cx G p R s mI args meth c m d) (hr : sm_rl G M s H locs) (hl : sm_L G L ls (am_mx m)) (hdg : decode (am_cd m) pc = .ok (.irem, 1)) (hq : am_d2 (fun a b => a - a / b * b) M L S = some (true, M1, L1, S1)) (k : sm_nx G p l e R s mI args below meth c cells slots Q m (pc + 1) M M1 L1 S1) : W p l e R s mI args below meth c H locs cells slots Q (F0 mI pc ls (S.map (sm_v G))) := by
  unfold am_d2 at hq
  split at hq
  · rename_i y x r
    have h0 : am_nz y = true := (Prod.mk.inj (Option.some.inj hq)).1
    have h1 := (Prod.mk.inj (Option.some.inj hq)).2
    cases h1
    exact lv_irem X.1 X.2.1 hdg (of_decide_eq_true h0) (k.same hr hl)
  · cases hq
theorem sm_ldiv (X : sm_cx G p R s mI args meth c m d) (hr : sm_rl G M s H locs) (hl : sm_L G L ls (am_mx m)) (hdg : decode (am_cd m) pc = .ok (.ldiv, 1)) (hq : am_e2 (fun a b => a / b) M L S = some (true, M1, L1, S1)) (k : sm_nx G p l e R s mI args below meth c cells slots Q m (pc + 1) M M1 L1 S1) : W p l e R s mI args below meth c H locs cells slots Q (F0 mI pc ls (S.map (sm_v G))) := by
  unfold am_e2 at hq
  split at hq
  · rename_i y x r
    have h0 : am_nzl y = true := (Prod.mk.inj (Option.some.inj hq)).1
    have h1 := (Prod.mk.inj (Option.some.inj hq)).2
    cases h1
    exact lv_ldiv X.1 X.2.1 hdg (of_decide_eq_true h0) (k.same hr hl)
  · cases hq
theorem sm_lrem (X : sm_cx G p R s mI args meth c m d) (hr : sm_rl G M s H locs) (hl : sm_L G L ls (am_mx m)) (hdg : decode (am_cd m) pc = .ok (.lrem, 1)) (hq : am_e2 (fun a b => a - a / b * b) M L S = some (true, M1, L1, S1)) (k : sm_nx G p l e R s mI args below meth c cells slots Q m (pc + 1) M M1 L1 S1) : W p l e R s mI args below meth c H locs cells slots Q (F0 mI pc ls (S.map (sm_v G))) := by
  unfold am_e2 at hq
  split at hq
  · rename_i y x r
    have h0 : am_nzl y = true := (Prod.mk.inj (Option.some.inj hq)).1
    have h1 := (Prod.mk.inj (Option.some.inj hq)).2
    cases h1
    exact lv_lrem X.1 X.2.1 hdg (of_decide_eq_true h0) (k.same hr hl)
  · cases hq
theorem sm_ineg (X : sm_cx G p R s mI args meth c m d) (hr : sm_rl G M s H locs) (hl : sm_L G L ls (am_mx m)) (hdg : decode (am_cd m) pc = .ok (.ineg, 1)) (hq : am_b1 (fun a => -a) M L S = some (true, M1, L1, S1)) (k : sm_nx G p l e R s mI args below meth c cells slots Q m (pc + 1) M M1 L1 S1) : W p l e R s mI args below meth c H locs cells slots Q (F0 mI pc ls (S.map (sm_v G))) := by
  unfold am_b1 at hq
  split at hq
  · cases hq
    exact lv_ineg X.1 X.2.1 hdg (k.same hr hl)
  · cases hq
theorem sm_i2b (X : sm_cx G p R s mI args meth c m d) (hr : sm_rl G M s H locs) (hl : sm_L G L ls (am_mx m)) (hdg : decode (am_cd m) pc = .ok (.i2b, 1)) (hq : am_b1 (fun a => a.toInt8.toInt32) M L S = some (true, M1, L1, S1)) (k : sm_nx G p l e R s mI args below meth c cells slots Q m (pc + 1) M M1 L1 S1) : W p l e R s mI args below meth c H locs cells slots Q (F0 mI pc ls (S.map (sm_v G))) := by
  unfold am_b1 at hq
  split at hq
  · cases hq
    exact lv_i2b X.1 X.2.1 hdg rfl (k.same hr hl)
  · cases hq
theorem sm_i2s (X : sm_cx G p R s mI args meth c m d) (hr : sm_rl G M s H locs) (hl : sm_L G L ls (am_mx m)) (hdg : decode (am_cd m) pc = .ok (.i2s, 1)) (hq : am_b1 (fun a => a.toInt16.toInt32) M L S = some (true, M1, L1, S1)) (k : sm_nx G p l e R s mI args below meth c cells slots Q m (pc + 1) M M1 L1 S1) : W p l e R s mI args below meth c H locs cells slots Q (F0 mI pc ls (S.map (sm_v G))) := by
  unfold am_b1 at hq
  split at hq
  · cases hq
    exact lv_i2s X.1 X.2.1 hdg rfl (k.same hr hl)
  · cases hq
theorem sm_i2c (X : sm_cx G p R s mI args meth c m d) (hr : sm_rl G M s H locs) (hl : sm_L G L ls (am_mx m)) (hdg : decode (am_cd m) pc = .ok (.i2c, 1)) (hq : am_b1 (fun a => (a.toUInt32 % 65536).toInt32) M L S = some (true, M1, L1, S1)) (k : sm_nx G p l e R s mI args below meth c cells slots Q m (pc + 1) M M1 L1 S1) : W p l e R s mI args below meth c H locs cells slots Q (F0 mI pc ls (S.map (sm_v G))) := by
  unfold am_b1 at hq
  split at hq
  · cases hq
    exact lv_i2c X.1 X.2.1 hdg rfl (k.same hr hl)
  · cases hq
theorem sm_lcmp (X : sm_cx G p R s mI args meth c m d) (hr : sm_rl G M s H locs) (hl : sm_L G L ls (am_mx m)) (hdg : decode (am_cd m) pc = .ok (.lcmp, 1)) (hq : am_cmp  M L S = some (true, M1, L1, S1)) (k : sm_nx G p l e R s mI args below meth c cells slots Q m (pc + 1) M M1 L1 S1) : W p l e R s mI args below meth c H locs cells slots Q (F0 mI pc ls (S.map (sm_v G))) := by
  unfold am_cmp at hq
  split at hq
  · cases hq
    exact W.lcmp X.1 X.2.1 hdg (k.same hr hl)
  · cases hq
theorem sm_i2l (X : sm_cx G p R s mI args meth c m d) (hr : sm_rl G M s H locs) (hl : sm_L G L ls (am_mx m)) (hdg : decode (am_cd m) pc = .ok (.i2l, 1)) (hq : am_i2l  M L S = some (true, M1, L1, S1)) (k : sm_nx G p l e R s mI args below meth c cells slots Q m (pc + 1) M M1 L1 S1) : W p l e R s mI args below meth c H locs cells slots Q (F0 mI pc ls (S.map (sm_v G))) := by
  unfold am_i2l at hq
  split at hq
  · cases hq
    exact lv_i2l X.1 X.2.1 hdg rfl (k.same hr hl)
  · cases hq
theorem sm_l2i (X : sm_cx G p R s mI args meth c m d) (hr : sm_rl G M s H locs) (hl : sm_L G L ls (am_mx m)) (hdg : decode (am_cd m) pc = .ok (.l2i, 1)) (hq : am_l2i  M L S = some (true, M1, L1, S1)) (k : sm_nx G p l e R s mI args below meth c cells slots Q m (pc + 1) M M1 L1 S1) : W p l e R s mI args below meth c H locs cells slots Q (F0 mI pc ls (S.map (sm_v G))) := by
  unfold am_l2i at hq
  split at hq
  · cases hq
    exact lv_l2i X.1 X.2.1 hdg rfl (k.same hr hl)
  · cases hq
theorem sm_dup (X : sm_cx G p R s mI args meth c m d) (hr : sm_rl G M s H locs) (hl : sm_L G L ls (am_mx m)) (hdg : decode (am_cd m) pc = .ok (.dup, 1)) (hq : am_dup M L S = some (true, M1, L1, S1)) (k : sm_nx G p l e R s mI args below meth c cells slots Q m (pc + 1) M M1 L1 S1) : W p l e R s mI args below meth c H locs cells slots Q (F0 mI pc ls (S.map (sm_v G))) := by
  unfold am_dup at hq
  split at hq
  · rename_i v r
    cases hc : am_c1 v with
    | false => rw [hc] at hq; cases hq
    | true =>
      rw [hc] at hq
      cases hq
      exact lv_dup X.1 X.2.1 hdg (sm_c1 X.2.2.2.2.2.2.2.2.2 hc) (k.same hr hl)
  · cases hq
theorem sm_pop (X : sm_cx G p R s mI args meth c m d) (hr : sm_rl G M s H locs) (hl : sm_L G L ls (am_mx m)) (hdg : decode (am_cd m) pc = .ok (.pop, 1)) (hq : am_pop1 M L S = some (true, M1, L1, S1)) (k : sm_nx G p l e R s mI args below meth c cells slots Q m (pc + 1) M M1 L1 S1) : W p l e R s mI args below meth c H locs cells slots Q (F0 mI pc ls (S.map (sm_v G))) := by
  unfold am_pop1 at hq
  split at hq
  · rename_i v r
    cases hc : am_c1 v with
    | false => rw [hc] at hq; cases hq
    | true =>
      rw [hc] at hq
      cases hq
      exact lv_pop X.1 X.2.1 hdg (sm_c1 X.2.2.2.2.2.2.2.2.2 hc) (k.same hr hl)
  · cases hq
theorem sm_dup2 (X : sm_cx G p R s mI args meth c m d) (hr : sm_rl G M s H locs) (hl : sm_L G L ls (am_mx m)) (hdg : decode (am_cd m) pc = .ok (.dup2, 1)) (hq : am_dp2 M L S = some (true, M1, L1, S1)) (k : sm_nx G p l e R s mI args below meth c cells slots Q m (pc + 1) M M1 L1 S1) : W p l e R s mI args below meth c H locs cells slots Q (F0 mI pc ls (S.map (sm_v G))) := by
  unfold am_dp2 at hq
  split at hq
  · rename_i v u r
    cases hc : (am_c1 v && am_c1 u) with
    | false => rw [hc] at hq; cases hq
    | true =>
      rw [hc] at hq
      cases hq
      rw [Bool.and_eq_true] at hc
      exact lv_dup2_11 X.1 X.2.1 hdg (sm_c1 X.2.2.2.2.2.2.2.2.2 hc.1) (sm_c1 X.2.2.2.2.2.2.2.2.2 hc.2) (k.same hr hl)
  · cases hq
theorem sm_iconst {n : Int} {v : Int32} (X : sm_cx G p R s mI args meth c m d) (hr : sm_rl G M s H locs) (hl : sm_L G L ls (am_mx m)) (hdg : decode (am_cd m) pc = .ok (.iconst n, 1)) (hv : Int32.ofInt n = v) (hq : am_psh (.int v) M L S = some (true, M1, L1, S1)) (k : sm_nx G p l e R s mI args below meth c cells slots Q m (pc + 1) M M1 L1 S1) : W p l e R s mI args below meth c H locs cells slots Q (F0 mI pc ls (S.map (sm_v G))) := by
  cases hq
  exact lv_iconst X.1 X.2.1 hdg hv (k.same hr hl)
theorem sm_bipush {n : Int} {v : Int32} (X : sm_cx G p R s mI args meth c m d) (hr : sm_rl G M s H locs) (hl : sm_L G L ls (am_mx m)) (hdg : decode (am_cd m) pc = .ok (.bipush n, 2)) (hv : (Int8.ofInt n).toInt32 = v) (hq : am_psh (.int v) M L S = some (true, M1, L1, S1)) (k : sm_nx G p l e R s mI args below meth c cells slots Q m (pc + 2) M M1 L1 S1) : W p l e R s mI args below meth c H locs cells slots Q (F0 mI pc ls (S.map (sm_v G))) := by
  cases hq
  exact lv_bipush X.1 X.2.1 hdg hv (k.same hr hl)
theorem sm_sipush {n : Int} {v : Int32} (X : sm_cx G p R s mI args meth c m d) (hr : sm_rl G M s H locs) (hl : sm_L G L ls (am_mx m)) (hdg : decode (am_cd m) pc = .ok (.sipush n, 3)) (hv : (Int16.ofInt n).toInt32 = v) (hq : am_psh (.int v) M L S = some (true, M1, L1, S1)) (k : sm_nx G p l e R s mI args below meth c cells slots Q m (pc + 3) M M1 L1 S1) : W p l e R s mI args below meth c H locs cells slots Q (F0 mI pc ls (S.map (sm_v G))) := by
  cases hq
  exact lv_sipush X.1 X.2.1 hdg hv (k.same hr hl)
theorem sm_lconst {n : Fin 2} {v : Int64} (X : sm_cx G p R s mI args meth c m d) (hr : sm_rl G M s H locs) (hl : sm_L G L ls (am_mx m)) (hdg : decode (am_cd m) pc = .ok (.lconst n, 1)) (hv : Int64.ofNat n.val = v) (hq : am_psh (.long v) M L S = some (true, M1, L1, S1)) (k : sm_nx G p l e R s mI args below meth c cells slots Q m (pc + 1) M M1 L1 S1) : W p l e R s mI args below meth c H locs cells slots Q (F0 mI pc ls (S.map (sm_v G))) := by
  cases hq
  exact lv_lconst X.1 X.2.1 hdg hv (k.same hr hl)
theorem sm_ldc {n : Nat} {v : Int32} (X : sm_cx G p R s mI args meth c m d) (hr : sm_rl G M s H locs) (hl : sm_L G L ls (am_mx m)) (hdg : decode (am_cd m) pc = .ok (.ldc n, 2)) (hv : Cond.constant (am_nm m).cls n v ∈ am_W) (hq : am_psh (.int v) M L S = some (true, M1, L1, S1)) (k : sm_nx G p l e R s mI args below meth c cells slots Q m (pc + 2) M M1 L1 S1) : W p l e R s mI args below meth c H locs cells slots Q (F0 mI pc ls (S.map (sm_v G))) := by
  cases hq
  exact lv_ldc X.1 X.2.1 X.2.2.2.1 (X.2.2.2.2.1 _ hv) hdg (k.same hr hl)
theorem sm_ldcw {n : Nat} {v : Int32} (X : sm_cx G p R s mI args meth c m d) (hr : sm_rl G M s H locs) (hl : sm_L G L ls (am_mx m)) (hdg : decode (am_cd m) pc = .ok (.ldc_w n, 3)) (hv : Cond.constant (am_nm m).cls n v ∈ am_W) (hq : am_psh (.int v) M L S = some (true, M1, L1, S1)) (k : sm_nx G p l e R s mI args below meth c cells slots Q m (pc + 3) M M1 L1 S1) : W p l e R s mI args below meth c H locs cells slots Q (F0 mI pc ls (S.map (sm_v G))) := by
  cases hq
  exact lv_ldcw X.1 X.2.1 X.2.2.2.1 (X.2.2.2.2.1 _ hv) hdg (k.same hr hl)
theorem sm_ldc2 {n : Nat} {v : Int64} (X : sm_cx G p R s mI args meth c m d) (hr : sm_rl G M s H locs) (hl : sm_L G L ls (am_mx m)) (hdg : decode (am_cd m) pc = .ok (.ldc2_w n, 3)) (hv : Cond.constantLong (am_nm m).cls n v ∈ am_W) (hq : am_psh (.long v) M L S = some (true, M1, L1, S1)) (k : sm_nx G p l e R s mI args below meth c cells slots Q m (pc + 3) M M1 L1 S1) : W p l e R s mI args below meth c H locs cells slots Q (F0 mI pc ls (S.map (sm_v G))) := by
  cases hq
  exact lv_ldc2 X.1 X.2.1 X.2.2.2.1 (X.2.2.2.2.1 _ hv) hdg (k.same hr hl)
theorem sm_ldcS (X : sm_cx G p R s mI args meth c m d) (hr : sm_rl G M s H locs) (hl : sm_L G L ls (am_mx m)) (hm : (am_nm m).cls = "EvenlyPoured$Tape") (hdg : decode (am_cd m) pc = .ok (.ldc 52, 2)) (hq : am_psh (.ref 2) M L S = some (true, M1, L1, S1)) (k : sm_nx G p l e R s mI args below meth c cells slots Q m (pc + 2) M M1 L1 S1) : W p l e R s mI args below meth c H locs cells slots Q (F0 mI pc ls (S.map (sm_v G))) := by
  cases hq
  exact va_ldcS X.1 X.2.1 (own := "EvenlyPoured$Tape") (by rw [← hm]; exact X.2.2.2.1) X.2.2.2.2.2.1.2.2.2.1 hdg (k.same hr hl)
theorem sm_null (X : sm_cx G p R s mI args meth c m d) (hr : sm_rl G M s H locs) (hl : sm_L G L ls (am_mx m)) (hdg : decode (am_cd m) pc = .ok (.aconst_null, 1)) (hq : am_psh .null M L S = some (true, M1, L1, S1)) (k : sm_nx G p l e R s mI args below meth c cells slots Q m (pc + 1) M M1 L1 S1) : W p l e R s mI args below meth c H locs cells slots Q (F0 mI pc ls (S.map (sm_v G))) := by
  cases hq
  exact lv_null X.1 X.2.1 hdg (k.same hr hl)
theorem sm_iload {x : Nat} (X : sm_cx G p R s mI args meth c m d) (hr : sm_rl G M s H locs) (hl : sm_L G L ls (am_mx m)) (hdg : decode (am_cd m) pc = .ok (.iload x, 2)) (hq : am_ld 0 x M L S = some (true, M1, L1, S1)) (k : sm_nx G p l e R s mI args below meth c cells slots Q m (pc + 2) M M1 L1 S1) : W p l e R s mI args below meth c H locs cells slots Q (F0 mI pc ls (S.map (sm_v G))) := by
  obtain ⟨rfl, rfl, v, rfl, ht, hv⟩ := sm_ld X.2.2.2.2.2.2.2.2.2 hl hq
  obtain ⟨y, rfl⟩ := sm_isI ht
  exact lv_iload X.1 X.2.1 hdg hv (k.same hr hl)
theorem sm_iload_n {x : Nat} {n : Fin 4} (X : sm_cx G p R s mI args meth c m d) (hr : sm_rl G M s H locs) (hl : sm_L G L ls (am_mx m)) (hdg : decode (am_cd m) pc = .ok (.iload_n n, 1)) (hn : n.val = x) (hq : am_ld 0 x M L S = some (true, M1, L1, S1)) (k : sm_nx G p l e R s mI args below meth c cells slots Q m (pc + 1) M M1 L1 S1) : W p l e R s mI args below meth c H locs cells slots Q (F0 mI pc ls (S.map (sm_v G))) := by
  obtain ⟨rfl, rfl, v, rfl, ht, hv⟩ := sm_ld X.2.2.2.2.2.2.2.2.2 hl hq
  obtain ⟨y, rfl⟩ := sm_isI ht
  exact lv_iload_n X.1 X.2.1 hdg hn hv (k.same hr hl)
theorem sm_lload {x : Nat} (X : sm_cx G p R s mI args meth c m d) (hr : sm_rl G M s H locs) (hl : sm_L G L ls (am_mx m)) (hdg : decode (am_cd m) pc = .ok (.lload x, 2)) (hq : am_ld 2 x M L S = some (true, M1, L1, S1)) (k : sm_nx G p l e R s mI args below meth c cells slots Q m (pc + 2) M M1 L1 S1) : W p l e R s mI args below meth c H locs cells slots Q (F0 mI pc ls (S.map (sm_v G))) := by
  obtain ⟨rfl, rfl, v, rfl, ht, hv⟩ := sm_ld X.2.2.2.2.2.2.2.2.2 hl hq
  obtain ⟨y, rfl⟩ := sm_isl ht
  exact lv_lload X.1 X.2.1 hdg hv (k.same hr hl)
theorem sm_lload_n {x : Nat} {n : Fin 4} (X : sm_cx G p R s mI args meth c m d) (hr : sm_rl G M s H locs) (hl : sm_L G L ls (am_mx m)) (hdg : decode (am_cd m) pc = .ok (.lload_n n, 1)) (hn : n.val = x) (hq : am_ld 2 x M L S = some (true, M1, L1, S1)) (k : sm_nx G p l e R s mI args below meth c cells slots Q m (pc + 1) M M1 L1 S1) : W p l e R s mI args below meth c H locs cells slots Q (F0 mI pc ls (S.map (sm_v G))) := by
  obtain ⟨rfl, rfl, v, rfl, ht, hv⟩ := sm_ld X.2.2.2.2.2.2.2.2.2 hl hq
  obtain ⟨y, rfl⟩ := sm_isl ht
  exact lv_lload_n X.1 X.2.1 hdg hn hv (k.same hr hl)
theorem sm_aload {x : Nat} (X : sm_cx G p R s mI args meth c m d) (hr : sm_rl G M s H locs) (hl : sm_L G L ls (am_mx m)) (hdg : decode (am_cd m) pc = .ok (.aload x, 2)) (hq : am_ld 1 x M L S = some (true, M1, L1, S1)) (k : sm_nx G p l e R s mI args below meth c cells slots Q m (pc + 2) M M1 L1 S1) : W p l e R s mI args below meth c H locs cells slots Q (F0 mI pc ls (S.map (sm_v G))) := by
  obtain ⟨rfl, rfl, v, rfl, ht, hv⟩ := sm_ld X.2.2.2.2.2.2.2.2.2 hl hq
  have kk := k.same hr hl
  rw [List.map_cons] at kk
  rcases sm_isr X.2.2.2.2.2.2.2.2.2 ht with h | ⟨a, h⟩
  · rw [h] at hv kk
    exact lv_aloadN X.1 X.2.1 hdg hv kk
  · rw [h] at hv kk
    exact lv_aload X.1 X.2.1 hdg hv kk
theorem sm_aload_n {x : Nat} {n : Fin 4} (X : sm_cx G p R s mI args meth c m d) (hr : sm_rl G M s H locs) (hl : sm_L G L ls (am_mx m)) (hdg : decode (am_cd m) pc = .ok (.aload_n n, 1)) (hn : n.val = x) (hq : am_ld 1 x M L S = some (true, M1, L1, S1)) (k : sm_nx G p l e R s mI args below meth c cells slots Q m (pc + 1) M M1 L1 S1) : W p l e R s mI args below meth c H locs cells slots Q (F0 mI pc ls (S.map (sm_v G))) := by
  obtain ⟨rfl, rfl, v, rfl, ht, hv⟩ := sm_ld X.2.2.2.2.2.2.2.2.2 hl hq
  have kk := k.same hr hl
  rw [List.map_cons] at kk
  rcases sm_isr X.2.2.2.2.2.2.2.2.2 ht with h | ⟨a, h⟩
  · rw [h] at hv kk
    exact lv_aload_nN X.1 X.2.1 hdg hn hv kk
  · rw [h] at hv kk
    exact lv_aload_n X.1 X.2.1 hdg hn hv kk
theorem sm_so {t x : Nat} (hq : am_so t x M L S = some (true, M1, L1, S1)) : M1 = M ∧ ∃ v r, S = v :: r ∧ S1 = r ∧ am_isT t v = true ∧ x < L.length ∧ L1 = am_set1 L x v := by
  unfold am_so at hq
  split at hq
  · rename_i v r
    cases hc : (am_isT t v && Nat.blt x L.length) with
    | false => rw [hc] at hq; cases hq
    | true =>
      rw [hc] at hq
      cases hq
      rw [Bool.and_eq_true] at hc
      exact ⟨rfl, v, _, rfl, rfl, hc.1, Nat.le_of_ble_eq_true hc.2, rfl⟩
  · cases hq
theorem sm_istore {x : Nat} (X : sm_cx G p R s mI args meth c m d) (hr : sm_rl G M s H locs) (hl : sm_L G L ls (am_mx m)) (hdg : decode (am_cd m) pc = .ok (.istore x, 2)) (hq : am_so 0 x M L S = some (true, M1, L1, S1)) (k : sm_nx G p l e R s mI args below meth c cells slots Q m (pc + 2) M M1 L1 S1) : W p l e R s mI args below meth c H locs cells slots Q (F0 mI pc ls (S.map (sm_v G))) := by
  obtain ⟨rfl, v, r, rfl, rfl, ht, hx, rfl⟩ := sm_so hq
  obtain ⟨y, rfl⟩ := sm_isI ht
  exact lv_istore X.1 X.2.1 hdg hl.2 (by rw [← hl.1]; exact hx) rfl (fun ls1 h1 => k.same hr (sm_L.set1 X.2.2.2.2.2.2.2.2.2 hl.1 (by rw [← hl.1]; exact hx) rfl h1))
theorem sm_istore_n {x : Nat} {n : Fin 4} (X : sm_cx G p R s mI args meth c m d) (hr : sm_rl G M s H locs) (hl : sm_L G L ls (am_mx m)) (hdg : decode (am_cd m) pc = .ok (.istore_n n, 1)) (hn : n.val = x) (hq : am_so 0 x M L S = some (true, M1, L1, S1)) (k : sm_nx G p l e R s mI args below meth c cells slots Q m (pc + 1) M M1 L1 S1) : W p l e R s mI args below meth c H locs cells slots Q (F0 mI pc ls (S.map (sm_v G))) := by
  obtain ⟨rfl, v, r, rfl, rfl, ht, hx, rfl⟩ := sm_so hq
  obtain ⟨y, rfl⟩ := sm_isI ht
  exact lv_istore_n X.1 X.2.1 hdg hn hl.2 (by rw [← hl.1]; exact hx) rfl (fun ls1 h1 => k.same hr (sm_L.set1 X.2.2.2.2.2.2.2.2.2 hl.1 (by rw [← hl.1]; exact hx) rfl h1))
theorem sm_astore {x : Nat} (X : sm_cx G p R s mI args meth c m d) (hr : sm_rl G M s H locs) (hl : sm_L G L ls (am_mx m)) (hdg : decode (am_cd m) pc = .ok (.astore x, 2)) (hq : am_so 1 x M L S = some (true, M1, L1, S1)) (k : sm_nx G p l e R s mI args below meth c cells slots Q m (pc + 2) M M1 L1 S1) : W p l e R s mI args below meth c H locs cells slots Q (F0 mI pc ls (S.map (sm_v G))) := by
  obtain ⟨rfl, v, r, rfl, rfl, ht, hx, rfl⟩ := sm_so hq
  have hs : ∀ (ls1 : Array Slot), lv_has ls1 (am_mx m) ((x, sm_v G v) :: (sm_ll G L).filter (fun q => !(q.1 == x) && !(q.1 + 1 == x && q.2.category == 2))) → W p l e R s mI args below meth c H locs cells slots Q (F0 mI (pc + 2) ls1 (S1.map (sm_v G))) := fun ls1 h1 => k.same hr (sm_L.set1 X.2.2.2.2.2.2.2.2.2 hl.1 (by rw [← hl.1]; exact hx) rfl h1)
  rw [List.map_cons]
  rcases sm_isr X.2.2.2.2.2.2.2.2.2 ht with h | ⟨a, h⟩
  · rw [h] at hs ⊢
    exact lv_astoreN X.1 X.2.1 hdg hl.2 (by rw [← hl.1]; exact hx) rfl hs
  · rw [h] at hs ⊢
    exact lv_astore X.1 X.2.1 hdg hl.2 (by rw [← hl.1]; exact hx) rfl hs
theorem sm_astore_n {x : Nat} {n : Fin 4} (X : sm_cx G p R s mI args meth c m d) (hr : sm_rl G M s H locs) (hl : sm_L G L ls (am_mx m)) (hdg : decode (am_cd m) pc = .ok (.astore_n n, 1)) (hn : n.val = x) (hq : am_so 1 x M L S = some (true, M1, L1, S1)) (k : sm_nx G p l e R s mI args below meth c cells slots Q m (pc + 1) M M1 L1 S1) : W p l e R s mI args below meth c H locs cells slots Q (F0 mI pc ls (S.map (sm_v G))) := by
  obtain ⟨rfl, v, r, rfl, rfl, ht, hx, rfl⟩ := sm_so hq
  have hs : ∀ (ls1 : Array Slot), lv_has ls1 (am_mx m) ((x, sm_v G v) :: (sm_ll G L).filter (fun q => !(q.1 == x) && !(q.1 + 1 == x && q.2.category == 2))) → W p l e R s mI args below meth c H locs cells slots Q (F0 mI (pc + 1) ls1 (S1.map (sm_v G))) := fun ls1 h1 => k.same hr (sm_L.set1 X.2.2.2.2.2.2.2.2.2 hl.1 (by rw [← hl.1]; exact hx) rfl h1)
  rw [List.map_cons]
  rcases sm_isr X.2.2.2.2.2.2.2.2.2 ht with h | ⟨a, h⟩
  · rw [h] at hs ⊢
    exact lv_astore_nN X.1 X.2.1 hdg hn hl.2 (by rw [← hl.1]; exact hx) rfl hs
  · rw [h] at hs ⊢
    exact lv_astore_n X.1 X.2.1 hdg hn hl.2 (by rw [← hl.1]; exact hx) rfl hs
theorem sm_lstore {x : Nat} (X : sm_cx G p R s mI args meth c m d) (hr : sm_rl G M s H locs) (hl : sm_L G L ls (am_mx m)) (hdg : decode (am_cd m) pc = .ok (.lstore x, 2)) (hq : am_so2 x M L S = some (true, M1, L1, S1)) (k : sm_nx G p l e R s mI args below meth c cells slots Q m (pc + 2) M M1 L1 S1) : W p l e R s mI args below meth c H locs cells slots Q (F0 mI pc ls (S.map (sm_v G))) := by
  unfold am_so2 at hq
  split at hq
  · rename_i v r
    cases hc : Nat.blt (x + 1) L.length with
    | false => rw [hc] at hq; cases hq
    | true =>
      rw [hc] at hq
      cases hq
      have hx : x + 1 < L.length := Nat.le_of_ble_eq_true hc
      exact lv_lstore X.1 X.2.1 hdg hl.2 (by rw [← hl.1]; exact hx) rfl (fun ls1 h1 => k.same hr (sm_L.set2 X.2.2.2.2.2.2.2.2.2 hl.1 (by rw [← hl.1]; exact hx) rfl h1))
  · cases hq
theorem sm_lstore_n {x : Nat} {n : Fin 4} (X : sm_cx G p R s mI args meth c m d) (hr : sm_rl G M s H locs) (hl : sm_L G L ls (am_mx m)) (hdg : decode (am_cd m) pc = .ok (.lstore_n n, 1)) (hn : n.val = x) (hq : am_so2 x M L S = some (true, M1, L1, S1)) (k : sm_nx G p l e R s mI args below meth c cells slots Q m (pc + 1) M M1 L1 S1) : W p l e R s mI args below meth c H locs cells slots Q (F0 mI pc ls (S.map (sm_v G))) := by
  unfold am_so2 at hq
  split at hq
  · rename_i v r
    cases hc : Nat.blt (x + 1) L.length with
    | false => rw [hc] at hq; cases hq
    | true =>
      rw [hc] at hq
      cases hq
      have hx : x + 1 < L.length := Nat.le_of_ble_eq_true hc
      exact lv_lstore_n X.1 X.2.1 hdg hn hl.2 (by rw [← hl.1]; exact hx) rfl (fun ls1 h1 => k.same hr (sm_L.set2 X.2.2.2.2.2.2.2.2.2 hl.1 (by rw [← hl.1]; exact hx) rfl h1))
  · cases hq
theorem sm_iinc {x : Nat} {n : Int} {z : Int32} (X : sm_cx G p R s mI args meth c m d) (hr : sm_rl G M s H locs) (hl : sm_L G L ls (am_mx m)) (hdg : decode (am_cd m) pc = .ok (.iinc x n, 3)) (hz : Int32.ofInt n = z) (hq : am_inc x z M L S = some (true, M1, L1, S1)) (k : sm_nx G p l e R s mI args below meth c cells slots Q m (pc + 3) M M1 L1 S1) : W p l e R s mI args below meth c H locs cells slots Q (F0 mI pc ls (S.map (sm_v G))) := by
  unfold am_inc at hq
  split at hq
  · rename_i v hv
    cases hq
    have hx : x < L.length := (List.getElem?_eq_some_iff.mp hv).1
    obtain ⟨j, hj⟩ := List.getElem?_of_mem (sm_ll_mem (G := G) hv rfl)
    exact lv_iinc X.1 X.2.1 hdg hl.2 hj (by rw [hz]) (by rw [← hl.1]; exact hx) rfl (fun ls1 h1 => k.same hr (sm_L.set1 X.2.2.2.2.2.2.2.2.2 hl.1 (by rw [← hl.1]; exact hx) rfl h1))
  · cases hq
end SM3
