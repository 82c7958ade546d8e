/-! THE SIMULATION, 8: all instructions that go on; jumps; ends -/
section SM8
variable {G : sm_G} {p : Program} {l : Launch} {e : Env} {R : Room} {s : State} {mI : MethodId} {args : Array Value} {below : List Frame} {meth : Method} {c : Code} {H H1 : Heap} {locs : List Loc} {cells slots : Nat} {Q : State → Prop} {m d pc : Nat} {ls : Array Slot} {M M1 : am_M} {L L1 : am_L} {S S1 : List Value}
theorem sm_oi {n : Nat} (X : sm_cx G p R s mI args meth c m d) (hr : sm_rl G M s H locs) (hl : sm_L G L ls (am_mx m)) (hdg : decode (am_cd m) pc = .ok (.invokespecial n, 3)) (hf : Cond.methodLink (am_nm m).cls n objectInit ∈ am_W) (hq : am_oi d M L S = some (true, M1, L1, S1)) (k : sm_nx G p l e R s mI args below meth c cells slots Q m (pc + 3) M M1 L1 S1) : W p l e R s mI args below meth c H locs cells slots Q (F0 mI pc ls (S.map (sm_v G))) := by
  unfold am_oi at hq
  split at hq
  · rename_i a
    simp only [Option.some.injEq, Prod.mk.injEq] at hq
    obtain ⟨h0, rfl, rfl, rfl⟩ := hq
    rw [Bool.and_eq_true] at h0
    have hd : 1 ≤ d := Nat.le_of_ble_eq_true h0.1
    have ha : 5 ≤ a := Nat.le_of_ble_eq_true h0.2
    have hR := X.2.2.2.2.2.2.2.1
    have hR2 := X.2.2.2.2.2.2.2.2.1
    have kk := k.same hr hl
    rw [List.map_cons, sm_v5 ha]
    exact W.objInit X.1 X.2.1 X.2.2.2.1 (X.2.2.2.2.1 _ hf) (X.2.2.2.2.1 _ cl_oi.1) (X.2.2.2.2.1 _ cl_oi.2) rfl (by rw [X.2.2.1]; exact hl.2.1) rfl hdg (by omega) (by show 2 * 0 + 0 + 12 ≤ _; omega) kk
  · cases hq
theorem sm_s1 {i : am_P} (X : sm_cx G p R s mI args meth c m d) (hr : sm_rl G M s H locs) (hl : sm_L G L ls (am_mx m)) (hsr : am_srt i = 0) (hck : am_chk m pc i = true) (hq : am_s1 d i M L S = some (true, M1, L1, S1)) (hcl : cells + (M1.1.length - M.1.length) ≤ R.cells) (hsl : slots + (am_sz M1 - am_sz M) ≤ R.slots) (k : sm_nx G p l e R s mI args below meth c cells slots Q m (pc + am_len i) M M1 L1 S1) : W p l e R s mI args below meth c H locs cells slots Q (F0 mI pc ls (S.map (sm_v G))) := by
  obtain ⟨ins, ⟨ln, sr, x, y, z, w⟩, im, tb⟩ := i
  have hsr : sr = 0 := hsr
  subst hsr
  simp only [am_chk, Bool.and_eq_true, decide_eq_true_eq] at hck
  obtain ⟨hdg, hck⟩ := hck
  have hcs : cells ≤ R.cells ∧ slots ≤ R.slots := ⟨by omega, by omega⟩
  cases ins with
  | iadd =>
    have hn : ln = 1 := Nat.eq_of_beq_eq_true hck
    subst hn
    exact sm_iadd X hr hl hdg hq k
  | isub =>
    have hn : ln = 1 := Nat.eq_of_beq_eq_true hck
    subst hn
    exact sm_isub X hr hl hdg hq k
  | imul =>
    have hn : ln = 1 := Nat.eq_of_beq_eq_true hck
    subst hn
    exact sm_imul X hr hl hdg hq k
  | iand =>
    have hn : ln = 1 := Nat.eq_of_beq_eq_true hck
    subst hn
    exact sm_iand X hr hl hdg hq k
  | ior =>
    have hn : ln = 1 := Nat.eq_of_beq_eq_true hck
    subst hn
    exact sm_ior X hr hl hdg hq k
  | ishl =>
    have hn : ln = 1 := Nat.eq_of_beq_eq_true hck
    subst hn
    exact sm_ishl X hr hl hdg hq k
  | ishr =>
    have hn : ln = 1 := Nat.eq_of_beq_eq_true hck
    subst hn
    exact sm_ishr X hr hl hdg hq k
  | iushr =>
    have hn : ln = 1 := Nat.eq_of_beq_eq_true hck
    subst hn
    exact sm_iushr X hr hl hdg hq k
  | idiv =>
    have hn : ln = 1 := Nat.eq_of_beq_eq_true hck
    subst hn
    exact sm_idiv X hr hl hdg hq k
  | irem =>
    have hn : ln = 1 := Nat.eq_of_beq_eq_true hck
    subst hn
    exact sm_irem X hr hl hdg hq k
  | ineg =>
    have hn : ln = 1 := Nat.eq_of_beq_eq_true hck
    subst hn
    exact sm_ineg X hr hl hdg hq k
  | i2b =>
    have hn : ln = 1 := Nat.eq_of_beq_eq_true hck
    subst hn
    exact sm_i2b X hr hl hdg hq k
  | i2s =>
    have hn : ln = 1 := Nat.eq_of_beq_eq_true hck
    subst hn
    exact sm_i2s X hr hl hdg hq k
  | i2c =>
    have hn : ln = 1 := Nat.eq_of_beq_eq_true hck
    subst hn
    exact sm_i2c X hr hl hdg hq k
  | ladd =>
    have hn : ln = 1 := Nat.eq_of_beq_eq_true hck
    subst hn
    exact sm_ladd X hr hl hdg hq k
  | lsub =>
    have hn : ln = 1 := Nat.eq_of_beq_eq_true hck
    subst hn
    exact sm_lsub X hr hl hdg hq k
  | lmul =>
    have hn : ln = 1 := Nat.eq_of_beq_eq_true hck
    subst hn
    exact sm_lmul X hr hl hdg hq k
  | ldiv =>
    have hn : ln = 1 := Nat.eq_of_beq_eq_true hck
    subst hn
    exact sm_ldiv X hr hl hdg hq k
  | lrem =>
    have hn : ln = 1 := Nat.eq_of_beq_eq_true hck
    subst hn
    exact sm_lrem X hr hl hdg hq k
  | lcmp =>
    have hn : ln = 1 := Nat.eq_of_beq_eq_true hck
    subst hn
    exact sm_lcmp X hr hl hdg hq k
  | i2l =>
    have hn : ln = 1 := Nat.eq_of_beq_eq_true hck
    subst hn
    exact sm_i2l X hr hl hdg hq k
  | l2i =>
    have hn : ln = 1 := Nat.eq_of_beq_eq_true hck
    subst hn
    exact sm_l2i X hr hl hdg hq k
  | dup =>
    have hn : ln = 1 := Nat.eq_of_beq_eq_true hck
    subst hn
    exact sm_dup X hr hl hdg hq k
  | dup2 =>
    have hn : ln = 1 := Nat.eq_of_beq_eq_true hck
    subst hn
    exact sm_dup2 X hr hl hdg hq k
  | pop =>
    have hn : ln = 1 := Nat.eq_of_beq_eq_true hck
    subst hn
    exact sm_pop X hr hl hdg hq k
  | aconst_null =>
    have hn : ln = 1 := Nat.eq_of_beq_eq_true hck
    subst hn
    exact sm_null X hr hl hdg hq k
  | iaload =>
    have hn : ln = 1 := Nat.eq_of_beq_eq_true hck
    subst hn
    exact sm_iald X hr hl hdg hq k
  | iastore =>
    have hn : ln = 1 := Nat.eq_of_beq_eq_true hck
    subst hn
    exact sm_iast X hr hl hdg hq k
  | bastore =>
    have hn : ln = 1 := Nat.eq_of_beq_eq_true hck
    subst hn
    exact sm_bast X hr hl hdg hq k
  | arraylength =>
    have hn : ln = 1 := Nat.eq_of_beq_eq_true hck
    subst hn
    exact sm_alen X hr hl hdg hq k
  | aload_n n =>
    simp only [Bool.and_eq_true] at hck
    have hn : ln = 1 := Nat.eq_of_beq_eq_true hck.1
    subst hn
    exact sm_aload_n X hr hl hdg (Nat.eq_of_beq_eq_true hck.2) hq k
  | aload n =>
    simp only [Bool.and_eq_true] at hck
    have hn : ln = 2 := Nat.eq_of_beq_eq_true hck.1
    have hx : n = x := Nat.eq_of_beq_eq_true hck.2
    subst hn
    subst hx
    exact sm_aload X hr hl hdg hq k
  | iload_n n =>
    simp only [Bool.and_eq_true] at hck
    have hn : ln = 1 := Nat.eq_of_beq_eq_true hck.1
    subst hn
    exact sm_iload_n X hr hl hdg (Nat.eq_of_beq_eq_true hck.2) hq k
  | iload n =>
    simp only [Bool.and_eq_true] at hck
    have hn : ln = 2 := Nat.eq_of_beq_eq_true hck.1
    have hx : n = x := Nat.eq_of_beq_eq_true hck.2
    subst hn
    subst hx
    exact sm_iload X hr hl hdg hq k
  | lload_n n =>
    simp only [Bool.and_eq_true] at hck
    have hn : ln = 1 := Nat.eq_of_beq_eq_true hck.1
    subst hn
    exact sm_lload_n X hr hl hdg (Nat.eq_of_beq_eq_true hck.2) hq k
  | lload n =>
    simp only [Bool.and_eq_true] at hck
    have hn : ln = 2 := Nat.eq_of_beq_eq_true hck.1
    have hx : n = x := Nat.eq_of_beq_eq_true hck.2
    subst hn
    subst hx
    exact sm_lload X hr hl hdg hq k
  | astore_n n =>
    simp only [Bool.and_eq_true] at hck
    have hn : ln = 1 := Nat.eq_of_beq_eq_true hck.1
    subst hn
    exact sm_astore_n X hr hl hdg (Nat.eq_of_beq_eq_true hck.2) hq k
  | astore n =>
    simp only [Bool.and_eq_true] at hck
    have hn : ln = 2 := Nat.eq_of_beq_eq_true hck.1
    have hx : n = x := Nat.eq_of_beq_eq_true hck.2
    subst hn
    subst hx
    exact sm_astore X hr hl hdg hq k
  | istore_n n =>
    simp only [Bool.and_eq_true] at hck
    have hn : ln = 1 := Nat.eq_of_beq_eq_true hck.1
    subst hn
    exact sm_istore_n X hr hl hdg (Nat.eq_of_beq_eq_true hck.2) hq k
  | istore n =>
    simp only [Bool.and_eq_true] at hck
    have hn : ln = 2 := Nat.eq_of_beq_eq_true hck.1
    have hx : n = x := Nat.eq_of_beq_eq_true hck.2
    subst hn
    subst hx
    exact sm_istore X hr hl hdg hq k
  | lstore_n n =>
    simp only [Bool.and_eq_true] at hck
    have hn : ln = 1 := Nat.eq_of_beq_eq_true hck.1
    subst hn
    exact sm_lstore_n X hr hl hdg (Nat.eq_of_beq_eq_true hck.2) hq k
  | lstore n =>
    simp only [Bool.and_eq_true] at hck
    have hn : ln = 2 := Nat.eq_of_beq_eq_true hck.1
    have hx : n = x := Nat.eq_of_beq_eq_true hck.2
    subst hn
    subst hx
    exact sm_lstore X hr hl hdg hq k
  | iinc n v =>
    simp only [Bool.and_eq_true, decide_eq_true_eq] at hck
    have hn : ln = 3 := Nat.eq_of_beq_eq_true hck.1
    have hx : n = x := Nat.eq_of_beq_eq_true hck.2.1
    subst hn
    subst hx
    exact sm_iinc X hr hl hdg hck.2.2 hq k
  | iconst v =>
    simp only [Bool.and_eq_true, decide_eq_true_eq] at hck
    have hn : ln = 1 := Nat.eq_of_beq_eq_true hck.1
    subst hn
    exact sm_iconst X hr hl hdg hck.2 hq k
  | bipush v =>
    simp only [Bool.and_eq_true, decide_eq_true_eq] at hck
    have hn : ln = 2 := Nat.eq_of_beq_eq_true hck.1
    subst hn
    exact sm_bipush X hr hl hdg hck.2 hq k
  | sipush v =>
    simp only [Bool.and_eq_true, decide_eq_true_eq] at hck
    have hn : ln = 3 := Nat.eq_of_beq_eq_true hck.1
    subst hn
    exact sm_sipush X hr hl hdg hck.2 hq k
  | lconst v =>
    simp only [Bool.and_eq_true, decide_eq_true_eq] at hck
    have hn : ln = 1 := Nat.eq_of_beq_eq_true hck.1
    subst hn
    exact sm_lconst X hr hl hdg hck.2 hq k
  | ldc n =>
    simp only [Bool.and_eq_true] at hck
    have hn : ln = 2 := Nat.eq_of_beq_eq_true hck.1
    subst hn
    have h2 := hck.2
    cases hw : Nat.beq w 1 with
    | true =>
      have hq2 : am_psh (cond (Nat.beq w 1) (.ref 2) (.int im)) M L S = some (true, M1, L1, S1) := hq
      rw [hw] at h2 hq2
      simp only [cond_true, Bool.and_eq_true, decide_eq_true_eq] at h2 hq2
      have hx : n = 52 := Nat.eq_of_beq_eq_true h2.2
      subst hx
      exact sm_ldcS X hr hl h2.1 hdg hq2 k
    | false =>
      have hq2 : am_psh (cond (Nat.beq w 1) (.ref 2) (.int im)) M L S = some (true, M1, L1, S1) := hq
      rw [hw] at h2 hq2
      simp only [cond_false] at h2 hq2
      exact sm_ldc X hr hl hdg (am_lk_in h2) hq2 k
  | ldc_w n =>
    simp only [Bool.and_eq_true] at hck
    have hn : ln = 3 := Nat.eq_of_beq_eq_true hck.1
    subst hn
    exact sm_ldcw X hr hl hdg (am_lk_in hck.2) hq k
  | ldc2_w n =>
    simp only [Bool.and_eq_true] at hck
    have hn : ln = 3 := Nat.eq_of_beq_eq_true hck.1
    subst hn
    exact sm_ldc2 X hr hl hdg (am_lk_in hck.2) hq k
  | getfield n =>
    simp only [Bool.and_eq_true] at hck
    have hn : ln = 3 := Nat.eq_of_beq_eq_true hck.1
    subst hn
    have h2 := hck.2
    cases hx : Nat.beq x 26 with
    | true =>
      rw [hx] at h2
      have hx : x = 26 := Nat.eq_of_beq_eq_true hx
      subst hx
      simp only [cond_true] at h2
      cases hy : Nat.beq y 0 with
      | true =>
        rw [hy] at h2
        simp only [cond_true, Bool.and_eq_true] at h2
        exact sm_getS X hr hl hdg (Or.inl ⟨Nat.eq_of_beq_eq_true hy, Nat.eq_of_beq_eq_true h2.1, am_lk_in h2.2⟩) hq k
      | false =>
        rw [hy] at h2
        simp only [cond_false, Bool.and_eq_true] at h2
        exact sm_getS X hr hl hdg (Or.inr ⟨Nat.eq_of_beq_eq_true h2.1, Nat.eq_of_beq_eq_true h2.2.1, am_lk_in h2.2.2⟩) hq k
    | false =>
      rw [hx] at h2
      exact sm_getf X hr hl hdg h2 hq k
  | putfield n =>
    simp only [Bool.and_eq_true] at hck
    have hn : ln = 3 := Nat.eq_of_beq_eq_true hck.1
    subst hn
    exact sm_putf X hr hl hdg hck.2 hq k
  | getstatic n =>
    simp only [Bool.and_eq_true] at hck
    have hn : ln = 3 := Nat.eq_of_beq_eq_true hck.1
    subst hn
    have h2 := hck.2
    match x, h2, hq with
    | 0, h2, hq => exact sm_gets0 X hr hl hdg (am_nk_in h2) hq k
    | 1, h2, hq => exact sm_gets1 X hr hl hdg (am_lk_in h2) hq k
    | x + 2, h2, hq => exact sm_gets2 X hr hl hdg (am_lk_in h2) hq k
  | baload =>
    simp only [Bool.and_eq_true, Bool.or_eq_true] at hck
    have hn : ln = 1 := Nat.eq_of_beq_eq_true hck.1
    subst hn
    exact sm_bald (hck.2.imp Nat.eq_of_beq_eq_true Nat.eq_of_beq_eq_true) X hr hl hdg hq k
  | aaload =>
    simp only [Bool.and_eq_true] at hck
    have hn : ln = 1 := Nat.eq_of_beq_eq_true hck.1
    subst hn
    exact sm_aald (Nat.le_of_ble_eq_true hck.2.1) (Nat.le_of_ble_eq_true hck.2.2) X hr hl hdg hq k
  | aastore =>
    simp only [Bool.and_eq_true, decide_eq_true_eq] at hck
    have hn : ln = 1 := Nat.eq_of_beq_eq_true hck.1
    subst hn
    exact sm_aast (Nat.le_of_ble_eq_true hck.2.1) (Nat.le_of_ble_eq_true hck.2.2.1) hck.2.2.2 X hr hl hdg hq k
  | newarray t =>
    simp only [Bool.and_eq_true] at hck
    have hn : ln = 2 := Nat.eq_of_beq_eq_true hck.1
    subst hn
    have h2 := hck.2
    cases t with
    | int => exact sm_newa (Or.inl ⟨rfl, Nat.eq_of_beq_eq_true h2⟩) X hr hl hdg hq hcl hsl k
    | boolean => exact sm_newa (Or.inr ⟨rfl, Nat.eq_of_beq_eq_true h2⟩) X hr hl hdg hq hcl hsl k
    | _ => cases h2
  | anewarray n =>
    simp only [Bool.and_eq_true] at hck
    have hn : ln = 3 := Nat.eq_of_beq_eq_true hck.1
    subst hn
    exact sm_anew (Nat.le_of_ble_eq_true hck.2.1) (Nat.le_of_ble_eq_true hck.2.2.1) X hr hl hdg (am_lk_in hck.2.2.2) hq hcl hsl k
  | new n =>
    simp only [Bool.and_eq_true] at hck
    have hn : ln = 3 := Nat.eq_of_beq_eq_true hck.1
    subst hn
    have h2 := hck.2
    split at h2
    · rename_i q hqc
      simp only [Bool.and_eq_true] at h2
      exact sm_newo hqc (Nat.eq_of_beq_eq_true h2.1) X hr hl hdg (am_lk_in h2.2) hq hcl hsl k
    · cases h2
  | invokespecial n =>
    simp only [Bool.and_eq_true] at hck
    have hn : ln = 3 := Nat.eq_of_beq_eq_true hck.1
    subst hn
    exact sm_oi X hr hl hdg (am_lk_in hck.2) hq k
  | invokestatic n =>
    simp only [Bool.and_eq_true] at hck
    have hn : ln = 3 := Nat.eq_of_beq_eq_true hck.1
    subst hn
    have h2 := hck.2
    match w, h2, hq with
    | 0, h2, hq => exact sm_acp X hr hl hdg (am_lk_in h2) hq k
    | 1, h2, hq => exact sm_mmax X hr hl hdg (am_lk_in h2) hcs hq k
    | 2, h2, hq => exact sm_mmin X hr hl hdg (am_lk_in h2) hcs hq k
    | w + 3, h2, hq => exact sm_mabs (w := w) X hr hl hdg (am_lk_in h2) hcs hq k
  | _ => cases hq
end SM8
