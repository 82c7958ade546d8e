/-! PURE, 18: all levels of the model -/
theorem jn_42 (x y : Int32) : jn (-42) x y = x * y := by
  unfold jn
  rw [if_neg (by decide), if_neg (by decide), if_neg (by decide), if_neg (by decide), if_neg (by decide), if_neg (by decide)]
theorem jn_43 (x y : Int32) : jn (-43) x y = x + y := by
  unfold jn
  rw [if_neg (by decide), if_neg (by decide), if_neg (by decide), if_pos rfl]
theorem jn_45 (x y : Int32) : jn (-45) x y = x - y := by
  unfold jn
  rw [if_neg (by decide), if_neg (by decide), if_pos rfl]
theorem jn_60 (x y : Int32) : jn (-60) x y = if x < y then 1 else 0 := by
  unfold jn
  rw [if_neg (by decide), if_pos rfl]
theorem jn_61 (x y : Int32) : jn (-61) x y = if x = y then 1 else 0 := by
  unfold jn
  rw [if_pos rfl]
theorem jn_10 (x y : Int32) : jn (-10) x y = if x = 0 then 0 else if y = 0 then 0 else 1 := by
  unfold jn
  rw [if_neg (by decide), if_neg (by decide), if_neg (by decide), if_neg (by decide), if_pos rfl]
theorem jn_9 (x y : Int32) : jn (-9) x y = if x = 0 then (if y = 0 then 0 else 1) else 1 := by
  unfold jn
  rw [if_neg (by decide), if_neg (by decide), if_neg (by decide), if_neg (by decide), if_neg (by decide), if_pos rfl]
theorem MS_G {I : Nat → Nat → Int32} {G : Nat → Nat → Int64} {bt : Nat → Nat} {n q v : Nat} (h : MS I G bt n q) (hv : isS v = true) (hc : cd bt n q = -nI v) : G 55 25 = lN v := by
  obtain ⟨v1, v2⟩ := isS_in hv
  have hcc := (cd_s hv).mp hc
  obtain ⟨h24, hqn, hor⟩ := h
  rcases hor with h | h | h | h | h
  · omega
  · exact absurd h.2.1 hcc.2.1
  · exact absurd h.2.2.1 hcc.2.2.1
  · rw [h.2.2.2.2.2.2, hcc.2.2.2]
  · exact absurd (hc.symm.trans h.2.2.1) (neg_2 v1 (by omega)).1
section B18
variable {d L : Nat} {ext : List (Nat × Nat)} {tx : Nat → Nat} {tt : Nat} {fe : Nat → Nat → Option Nat} {I : Nat → Nat → Int32} {G : Nat → Nat → Int64}
theorem s_148 {bt : Nat → Nat} {n k : Nat} {nm : Nat → Int32} (h0 : MPT L ext tx tt fe bt n k 0 nm) : MPT L ext tx tt fe bt n k 1 nm := by
  intro d0 hd I G q hq
  obtain ⟨d, rfl⟩ : ∃ d, d0 = d + 5 := ⟨d0 - 5, by omega⟩
  rw [Pf_eq]
  have hn := MT_n hq.1
  have hsub : ∀ (I : Nat → Nat → Int32) (G : Nat → Nat → Int64) (q : Nat), Mq I G bt n q k nm → wp (mcall (d + 4) 0 (am_mem L ext tx tt fe I G)) (fun v M => ∃ x I' G', v = some (.int x) ∧ M = am_mem L ext tx tt fe I' G' ∧ Mo I I' G' bt n q (nI (5 - k)) nm (5 * k + 1 + 0) x (lvf (cd bt n) (adv bt n) (innf (cd bt n) (adv bt n) k) 0 q)) := fun I G q hq => by
    have := h0 (d + 4) (by omega) I G q hq
    rw [Pf_eq] at this
    exact this
  have eb : lvf (cd bt n) (adv bt n) (innf (cd bt n) (adv bt n) k) 1 q = bnf (cd bt n) (adv bt n) (lvf (cd bt n) (adv bt n) (innf (cd bt n) (adv bt n) k) 0) (nI 4) 160 q := rfl
  rw [eb]
  unfold bnf
  have hexit : ∀ (x : Int32) (I : Nat → Nat → Int32) (G : Nat → Nat → Int64) (q : Nat), Mq I G bt n q k nm → ¬ lvo (cd bt n q) = nI 4 → (fun (x : Int32) (M : am_M) => am_R (d + 4 + 1) 148 2 M [some (.ref 55), some (.int x)] []) x (am_mem L ext tx tt fe I G) = some (some (.int x), (am_mem L ext tx tt fe I G)) := by
    intro x I G q hq h
    refine wp_eq ?_
    refine wp_e e_148_2 (wp_p (s_144 (v := 42) rfl hq.1 hq.2.1) (wp_e e_148_3 ?_))
    rw [if_neg (show ¬ (I 55 27 = 0 ∧ cd bt n q = -nI 42) from fun e => h (by rw [e.2]; decide))]
    exact wp_t rfl (wp_e e_148_7 (wp_r ⟨rfl, rfl⟩))
  have hbad : ∀ (x : Int32) (I : Nat → Nat → Int32) (G : Nat → Nat → Int64), I 55 27 = 1 → (fun (x : Int32) (M : am_M) => am_R (d + 4 + 1) 148 2 M [some (.ref 55), some (.int x)] []) x (am_mem L ext tx tt fe I G) = some (some (.int x), (am_mem L ext tx tt fe I G)) := by
    intro x I G h
    refine wp_eq ?_
    exact wp_e e_148_2 (wp_p (s_144b h) (wp_e e_148_3 (wp_t rfl (wp_e e_148_7 (wp_r ⟨rfl, rfl⟩)))))
  have gl := s_gl (L := L) (ext := ext) (tx := tx) (tt := tt) (fe := fe) (j := 0) (d + 4) (fun (x : Int32) (M : am_M) => am_R (d + 4 + 1) 148 2 M [some (.ref 55), some (.int x)] []) (nI 4) hsub (fun c hc => by
    have := (lv_x hc).2.2.1 rfl
    subst this; decide) hexit hbad (fun x I G q Q hq hc go => by
    have hc := (lv_x hc).2.2.1 rfl
    refine wp_e e_148_2 (wp_p (s_144 (v := 42) rfl hq.1 hq.2.1) (wp_e e_148_3 ?_))
    rw [if_pos (show I 55 27 = 0 ∧ cd bt n q = -nI 42 from ⟨hq.2.2.1, hc⟩)]
    refine wp_f (by decide) (wp_e e_148_4 (wp_b (s_nt (d := d + 2) hq (by rw [hc]; decide) (by rw [hc]; decide)) ?_))
    rintro v M ⟨rfl, I1, G1, rfl, f1, q1⟩
    refine wp_e e_148_5 (wp_b (go I1 G1 f1 q1) ?_)
    rintro v M ⟨y, I2, G2, rfl, rfl, hy⟩
    exact wp_e e_148_6 (hy _ (by rw [hc, jn_42]))) (q0 := q) I
  show wp (am_R (d + 4 + 1) 148 0 (am_mem L ext tx tt fe I G) [some (.ref 55), none] []) _
  refine wp_e e_148_0 (wp_b (hsub I G q hq) ?_)
  rintro v M ⟨x, I1, G1, rfl, rfl, f1, o1⟩
  refine wp_e e_148_1 ?_
  revert o1
  cases lvf (cd bt n) (adv bt n) (innf (cd bt n) (adv bt n) k) 0 q with
  | mk q' ow =>
    cases ow with
    | none =>
      rintro ⟨b1, b2⟩
      exact wp_e (hbad x I1 G1 b1) (wp_r ⟨x, I1, G1, rfl, rfl, f1, b1, b2⟩)
    | some w =>
      rintro ⟨b1, b2, b3, b4, b5⟩
      exact gl 160 I1 G1 q' w x (by omega) f1 ⟨MT_f hq.1 f1 (by decide) (by decide), b3, b1, b2, FM_nm f1 hq.2.2.2.2⟩ b4 (Vo_m b5 (by omega))
theorem s_149 {bt : Nat → Nat} {n k : Nat} {nm : Nat → Int32} (h0 : MPT L ext tx tt fe bt n k 1 nm) : MPT L ext tx tt fe bt n k 2 nm := by
  intro d0 hd I G q hq
  obtain ⟨d, rfl⟩ : ∃ d, d0 = d + 5 := ⟨d0 - 5, by omega⟩
  rw [Pf_eq]
  have hn := MT_n hq.1
  have hsub : ∀ (I : Nat → Nat → Int32) (G : Nat → Nat → Int64) (q : Nat), Mq I G bt n q k nm → wp (mcall (d + 4) 1 (am_mem L ext tx tt fe I G)) (fun v M => ∃ x I' G', v = some (.int x) ∧ M = am_mem L ext tx tt fe I' G' ∧ Mo I I' G' bt n q (nI (5 - k)) nm (5 * k + 1 + 1) x (lvf (cd bt n) (adv bt n) (innf (cd bt n) (adv bt n) k) 1 q)) := fun I G q hq => by
    have := h0 (d + 4) (by omega) I G q hq
    rw [Pf_eq] at this
    exact this
  have eb : lvf (cd bt n) (adv bt n) (innf (cd bt n) (adv bt n) k) 2 q = bnf (cd bt n) (adv bt n) (lvf (cd bt n) (adv bt n) (innf (cd bt n) (adv bt n) k) 1) (nI 3) 160 q := rfl
  rw [eb]
  unfold bnf
  have hexit : ∀ (x : Int32) (I : Nat → Nat → Int32) (G : Nat → Nat → Int64) (q : Nat), Mq I G bt n q k nm → ¬ lvo (cd bt n q) = nI 3 → (fun (x : Int32) (M : am_M) => am_R (d + 4 + 1) 149 2 M [some (.ref 55), some (.int x), none, none] []) x (am_mem L ext tx tt fe I G) = some (some (.int x), (am_mem L ext tx tt fe I G)) := by
    intro x I G q hq h
    refine wp_eq ?_
    refine wp_e e_149_2 (wp_p (s_144 (v := 43) rfl hq.1 hq.2.1) (wp_e e_149_3 ?_))
    rw [if_neg (show ¬ (I 55 27 = 0 ∧ cd bt n q = -nI 43) from fun e => h (by rw [e.2]; decide))]
    refine wp_t rfl (wp_e e_149_4 (wp_p (s_144 (v := 45) rfl hq.1 hq.2.1) (wp_e e_149_5 ?_)))
    rw [if_neg (show ¬ (I 55 27 = 0 ∧ cd bt n q = -nI 45) from fun e => h (by rw [e.2]; decide))]
    exact wp_t rfl (wp_e e_149_15 (wp_r ⟨rfl, rfl⟩))
  have hbad : ∀ (x : Int32) (I : Nat → Nat → Int32) (G : Nat → Nat → Int64), I 55 27 = 1 → (fun (x : Int32) (M : am_M) => am_R (d + 4 + 1) 149 2 M [some (.ref 55), some (.int x), none, none] []) x (am_mem L ext tx tt fe I G) = some (some (.int x), (am_mem L ext tx tt fe I G)) := by
    intro x I G h
    refine wp_eq ?_
    exact wp_e e_149_2 (wp_p (s_144b h) (wp_e e_149_3 (wp_t rfl (wp_e e_149_4 (wp_p (s_144b h) (wp_e e_149_5 (wp_t rfl (wp_e e_149_15 (wp_r ⟨rfl, rfl⟩)))))))))
  have gl := s_gl (L := L) (ext := ext) (tx := tx) (tt := tt) (fe := fe) (j := 1) (d + 4) (fun (x : Int32) (M : am_M) => am_R (d + 4 + 1) 149 2 M [some (.ref 55), some (.int x), none, none] []) (nI 3) hsub (fun c hc => by
    have := (lv_x hc).2.1 rfl
    rcases this with h | h <;> subst h <;> decide) hexit hbad (fun x I G q Q hq hc go => by
    refine wp_e e_149_2 (wp_p (s_144 (v := 43) rfl hq.1 hq.2.1) (wp_e e_149_3 ?_))
    rcases (lv_x hc).2.1 rfl with hc | hc
    · rw [if_neg (show ¬ (I 55 27 = 0 ∧ cd bt n q = -nI 43) from fun e => absurd (hc.symm.trans e.2) (by decide))]
      refine wp_t rfl (wp_e e_149_4 (wp_p (s_144 (v := 45) rfl hq.1 hq.2.1) (wp_e e_149_5 ?_)))
      rw [if_pos (show I 55 27 = 0 ∧ cd bt n q = -nI 45 from ⟨hq.2.2.1, hc⟩)]
      refine wp_f (by decide) (wp_e e_149_6 ?_)
      rw [MS_G (v := 45) hq.2.1 rfl hc]
      refine wp_f (by decide) (wp_e e_149_8 (wp_e e_149_9 (wp_b (s_nt (d := d + 2) hq (by rw [hc]; decide) (by rw [hc]; decide)) ?_)))
      rintro v M ⟨rfl, I1, G1, rfl, f1, q1⟩
      refine wp_e e_149_10 (wp_b (go I1 G1 f1 q1) ?_)
      rintro v M ⟨y, I2, G2, rfl, rfl, hy⟩
      exact wp_e e_149_11 (wp_t rfl (wp_e e_149_13 (wp_e e_149_14 (wp_l (lq_e (lq_e (lq_n (lq_n lq_0)))) (hy _ (by rw [hc, jn_45]))))))
    · rw [if_pos (show I 55 27 = 0 ∧ cd bt n q = -nI 43 from ⟨hq.2.2.1, hc⟩)]
      refine wp_f (by decide) (wp_e e_149_6 ?_)
      rw [MS_G (v := 43) hq.2.1 rfl hc]
      refine wp_t (by decide) (wp_e e_149_7 (wp_e e_149_9 (wp_b (s_nt (d := d + 2) hq (by rw [hc]; decide) (by rw [hc]; decide)) ?_)))
      rintro v M ⟨rfl, I1, G1, rfl, f1, q1⟩
      refine wp_e e_149_10 (wp_b (go I1 G1 f1 q1) ?_)
      rintro v M ⟨y, I2, G2, rfl, rfl, hy⟩
      exact wp_e e_149_11 (wp_f (by decide) (wp_e e_149_12 (wp_e e_149_14 (wp_l (lq_e (lq_e (lq_n (lq_n lq_0)))) (hy _ (by rw [hc, jn_43]))))))) (q0 := q) I
  show wp (am_R (d + 4 + 1) 149 0 (am_mem L ext tx tt fe I G) [some (.ref 55), none, none, none] []) _
  refine wp_e e_149_0 (wp_b (hsub I G q hq) ?_)
  rintro v M ⟨x, I1, G1, rfl, rfl, f1, o1⟩
  refine wp_e e_149_1 ?_
  revert o1
  cases lvf (cd bt n) (adv bt n) (innf (cd bt n) (adv bt n) k) 1 q with
  | mk q' ow =>
    cases ow with
    | none =>
      rintro ⟨b1, b2⟩
      exact wp_e (hbad x I1 G1 b1) (wp_r ⟨x, I1, G1, rfl, rfl, f1, b1, b2⟩)
    | some w =>
      rintro ⟨b1, b2, b3, b4, b5⟩
      exact gl 160 I1 G1 q' w x (by omega) f1 ⟨MT_f hq.1 f1 (by decide) (by decide), b3, b1, b2, FM_nm f1 hq.2.2.2.2⟩ b4 (Vo_m b5 (by omega))
theorem s_151 {bt : Nat → Nat} {n k : Nat} {nm : Nat → Int32} (h0 : MPT L ext tx tt fe bt n k 3 nm) : MPT L ext tx tt fe bt n k 4 nm := by
  intro d0 hd I G q hq
  obtain ⟨d, rfl⟩ : ∃ d, d0 = d + 5 := ⟨d0 - 5, by omega⟩
  rw [Pf_eq]
  have hn := MT_n hq.1
  have hsub : ∀ (I : Nat → Nat → Int32) (G : Nat → Nat → Int64) (q : Nat), Mq I G bt n q k nm → wp (mcall (d + 4) 3 (am_mem L ext tx tt fe I G)) (fun v M => ∃ x I' G', v = some (.int x) ∧ M = am_mem L ext tx tt fe I' G' ∧ Mo I I' G' bt n q (nI (5 - k)) nm (5 * k + 1 + 3) x (lvf (cd bt n) (adv bt n) (innf (cd bt n) (adv bt n) k) 3 q)) := fun I G q hq => by
    have := h0 (d + 4) (by omega) I G q hq
    rw [Pf_eq] at this
    exact this
  have eb : lvf (cd bt n) (adv bt n) (innf (cd bt n) (adv bt n) k) 4 q = bnf (cd bt n) (adv bt n) (lvf (cd bt n) (adv bt n) (innf (cd bt n) (adv bt n) k) 3) (nI 1) 160 q := rfl
  rw [eb]
  unfold bnf
  have hexit : ∀ (x : Int32) (I : Nat → Nat → Int32) (G : Nat → Nat → Int64) (q : Nat), Mq I G bt n q k nm → ¬ lvo (cd bt n q) = nI 1 → (fun (x : Int32) (M : am_M) => am_R (d + 4 + 1) 151 2 M [some (.ref 55), some (.int x), none] []) x (am_mem L ext tx tt fe I G) = some (some (.int x), (am_mem L ext tx tt fe I G)) := by
    intro x I G q hq h
    refine wp_eq ?_
    refine wp_e e_151_2 (wp_p (s_143 (w := 10) (by omega) hq.1 hq.2.1) (wp_e e_151_3 ?_))
    rw [if_neg (show ¬ (I 55 27 = 0 ∧ cd bt n q = kc 10) from fun e => h (by rw [e.2]; decide))]
    exact wp_t rfl (wp_e e_151_11 (wp_r ⟨rfl, rfl⟩))
  have hbad : ∀ (x : Int32) (I : Nat → Nat → Int32) (G : Nat → Nat → Int64), I 55 27 = 1 → (fun (x : Int32) (M : am_M) => am_R (d + 4 + 1) 151 2 M [some (.ref 55), some (.int x), none] []) x (am_mem L ext tx tt fe I G) = some (some (.int x), (am_mem L ext tx tt fe I G)) := by
    intro x I G h
    refine wp_eq ?_
    exact wp_e e_151_2 (wp_p (s_143b h) (wp_e e_151_3 (wp_t rfl (wp_e e_151_11 (wp_r ⟨rfl, rfl⟩)))))
  have gl := s_gl (L := L) (ext := ext) (tx := tx) (tt := tt) (fe := fe) (j := 3) (d + 4) (fun (x : Int32) (M : am_M) => am_R (d + 4 + 1) 151 2 M [some (.ref 55), some (.int x), none] []) (nI 1) hsub (fun c hc => by
    have := (lv_x hc).2.2.2.1 rfl
    subst this; decide) hexit hbad (fun x I G q Q hq hc go => by
    have hc := (lv_x hc).2.2.2.1 rfl
    refine wp_e e_151_2 (wp_p (s_143 (w := 10) (by omega) hq.1 hq.2.1) (wp_e e_151_3 ?_))
    rw [if_pos (show I 55 27 = 0 ∧ cd bt n q = kc 10 from ⟨hq.2.2.1, hc⟩)]
    refine wp_f (by decide) (wp_e e_151_4 (wp_b (s_nt (d := d + 2) hq (by rw [hc]; decide) (by rw [hc]; decide)) ?_))
    rintro v M ⟨rfl, I1, G1, rfl, f1, q1⟩
    refine wp_e e_151_5 (wp_b (go I1 G1 f1 q1) ?_)
    rintro v M ⟨y, I2, G2, rfl, rfl, hy⟩
    refine wp_e e_151_6 ?_
    by_cases hx : x = 0
    · exact wp_t hx (wp_e e_151_9 (wp_e e_151_10 (wp_l (lq_e (lq_e (lq_n lq_0))) (hy _ (by rw [hc, jn_10, if_pos hx])))))
    · refine wp_f hx (wp_e e_151_7 ?_)
      by_cases hy0 : y = 0
      · exact wp_t hy0 (wp_e e_151_9 (wp_e e_151_10 (wp_l (lq_e (lq_e (lq_n lq_0))) (hy _ (by rw [hc, jn_10, if_neg hx, if_pos hy0])))))
      · exact wp_f hy0 (wp_e e_151_8 (wp_e e_151_10 (wp_l (lq_e (lq_e (lq_n lq_0))) (hy _ (by rw [hc, jn_10, if_neg hx, if_neg hy0])))))) (q0 := q) I
  show wp (am_R (d + 4 + 1) 151 0 (am_mem L ext tx tt fe I G) [some (.ref 55), none, none] []) _
  refine wp_e e_151_0 (wp_b (hsub I G q hq) ?_)
  rintro v M ⟨x, I1, G1, rfl, rfl, f1, o1⟩
  refine wp_e e_151_1 ?_
  revert o1
  cases lvf (cd bt n) (adv bt n) (innf (cd bt n) (adv bt n) k) 3 q with
  | mk q' ow =>
    cases ow with
    | none =>
      rintro ⟨b1, b2⟩
      exact wp_e (hbad x I1 G1 b1) (wp_r ⟨x, I1, G1, rfl, rfl, f1, b1, b2⟩)
    | some w =>
      rintro ⟨b1, b2, b3, b4, b5⟩
      exact gl 160 I1 G1 q' w x (by omega) f1 ⟨MT_f hq.1 f1 (by decide) (by decide), b3, b1, b2, FM_nm f1 hq.2.2.2.2⟩ b4 (Vo_m b5 (by omega))
theorem s_152 {bt : Nat → Nat} {n k : Nat} {nm : Nat → Int32} (h0 : MPT L ext tx tt fe bt n k 4 nm) : MPT L ext tx tt fe bt n k 5 nm := by
  intro d0 hd I G q hq
  obtain ⟨d, rfl⟩ : ∃ d, d0 = d + 5 := ⟨d0 - 5, by omega⟩
  rw [Pf_eq]
  have hn := MT_n hq.1
  have hsub : ∀ (I : Nat → Nat → Int32) (G : Nat → Nat → Int64) (q : Nat), Mq I G bt n q k nm → wp (mcall (d + 4) 4 (am_mem L ext tx tt fe I G)) (fun v M => ∃ x I' G', v = some (.int x) ∧ M = am_mem L ext tx tt fe I' G' ∧ Mo I I' G' bt n q (nI (5 - k)) nm (5 * k + 1 + 4) x (lvf (cd bt n) (adv bt n) (innf (cd bt n) (adv bt n) k) 4 q)) := fun I G q hq => by
    have := h0 (d + 4) (by omega) I G q hq
    rw [Pf_eq] at this
    exact this
  have eb : lvf (cd bt n) (adv bt n) (innf (cd bt n) (adv bt n) k) 5 q = bnf (cd bt n) (adv bt n) (lvf (cd bt n) (adv bt n) (innf (cd bt n) (adv bt n) k) 4) (nI 0) 160 q := rfl
  rw [eb]
  unfold bnf
  have hexit : ∀ (x : Int32) (I : Nat → Nat → Int32) (G : Nat → Nat → Int64) (q : Nat), Mq I G bt n q k nm → ¬ lvo (cd bt n q) = nI 0 → (fun (x : Int32) (M : am_M) => am_R (d + 4 + 1) 152 2 M [some (.ref 55), some (.int x), none] []) x (am_mem L ext tx tt fe I G) = some (some (.int x), (am_mem L ext tx tt fe I G)) := by
    intro x I G q hq h
    refine wp_eq ?_
    refine wp_e e_152_2 (wp_p (s_143 (w := 9) (by omega) hq.1 hq.2.1) (wp_e e_152_3 ?_))
    rw [if_neg (show ¬ (I 55 27 = 0 ∧ cd bt n q = kc 9) from fun e => h (by rw [e.2]; decide))]
    exact wp_t rfl (wp_e e_152_11 (wp_r ⟨rfl, rfl⟩))
  have hbad : ∀ (x : Int32) (I : Nat → Nat → Int32) (G : Nat → Nat → Int64), I 55 27 = 1 → (fun (x : Int32) (M : am_M) => am_R (d + 4 + 1) 152 2 M [some (.ref 55), some (.int x), none] []) x (am_mem L ext tx tt fe I G) = some (some (.int x), (am_mem L ext tx tt fe I G)) := by
    intro x I G h
    refine wp_eq ?_
    exact wp_e e_152_2 (wp_p (s_143b h) (wp_e e_152_3 (wp_t rfl (wp_e e_152_11 (wp_r ⟨rfl, rfl⟩)))))
  have gl := s_gl (L := L) (ext := ext) (tx := tx) (tt := tt) (fe := fe) (j := 4) (d + 4) (fun (x : Int32) (M : am_M) => am_R (d + 4 + 1) 152 2 M [some (.ref 55), some (.int x), none] []) (nI 0) hsub (fun c hc => by
    have := (lv_x hc).2.2.2.2 rfl
    subst this; decide) hexit hbad (fun x I G q Q hq hc go => by
    have hc := (lv_x hc).2.2.2.2 rfl
    refine wp_e e_152_2 (wp_p (s_143 (w := 9) (by omega) hq.1 hq.2.1) (wp_e e_152_3 ?_))
    rw [if_pos (show I 55 27 = 0 ∧ cd bt n q = kc 9 from ⟨hq.2.2.1, hc⟩)]
    refine wp_f (by decide) (wp_e e_152_4 (wp_b (s_nt (d := d + 2) hq (by rw [hc]; decide) (by rw [hc]; decide)) ?_))
    rintro v M ⟨rfl, I1, G1, rfl, f1, q1⟩
    refine wp_e e_152_5 (wp_b (go I1 G1 f1 q1) ?_)
    rintro v M ⟨y, I2, G2, rfl, rfl, hy⟩
    refine wp_e e_152_6 ?_
    by_cases hx : x = 0
    · refine wp_t hx (wp_e e_152_7 ?_)
      by_cases hy0 : y = 0
      · exact wp_t hy0 (wp_e e_152_9 (wp_e e_152_10 (wp_l (lq_e (lq_e (lq_n lq_0))) (hy _ (by rw [hc, jn_9, if_pos hx, if_pos hy0])))))
      · exact wp_f hy0 (wp_e e_152_8 (wp_e e_152_10 (wp_l (lq_e (lq_e (lq_n lq_0))) (hy _ (by rw [hc, jn_9, if_pos hx, if_neg hy0])))))
    · exact wp_f hx (wp_e e_152_8 (wp_e e_152_10 (wp_l (lq_e (lq_e (lq_n lq_0))) (hy _ (by rw [hc, jn_9, if_neg hx])))))) (q0 := q) I
  show wp (am_R (d + 4 + 1) 152 0 (am_mem L ext tx tt fe I G) [some (.ref 55), none, none] []) _
  refine wp_e e_152_0 (wp_b (hsub I G q hq) ?_)
  rintro v M ⟨x, I1, G1, rfl, rfl, f1, o1⟩
  refine wp_e e_152_1 ?_
  revert o1
  cases lvf (cd bt n) (adv bt n) (innf (cd bt n) (adv bt n) k) 4 q with
  | mk q' ow =>
    cases ow with
    | none =>
      rintro ⟨b1, b2⟩
      exact wp_e (hbad x I1 G1 b1) (wp_r ⟨x, I1, G1, rfl, rfl, f1, b1, b2⟩)
    | some w =>
      rintro ⟨b1, b2, b3, b4, b5⟩
      exact gl 160 I1 G1 q' w x (by omega) f1 ⟨MT_f hq.1 f1 (by decide) (by decide), b3, b1, b2, FM_nm f1 hq.2.2.2.2⟩ b4 (Vo_m b5 (by omega))
/-- not, and comparisons -/
theorem s_150 {bt : Nat → Nat} {n k : Nat} {nm : Nat → Int32} (hk : k ≤ 5) (ih : ∀ j, j ≤ 5 → ∀ k', k = k' + 1 → MPT L ext tx tt fe bt n k' j nm) (h0 : MPT L ext tx tt fe bt n k 2 nm) : MPT L ext tx tt fe bt n k 3 nm := by
  intro d0 hd I G q hq
  obtain ⟨d, rfl⟩ : ∃ d, d0 = d + 5 := ⟨d0 - 5, by omega⟩
  rw [Pf_eq]
  have hsub : ∀ (I : Nat → Nat → Int32) (G : Nat → Nat → Int64) (q : Nat), Mq I G bt n q k nm → wp (mcall (d + 4) 2 (am_mem L ext tx tt fe I G)) (fun v M => ∃ x I' G', v = some (.int x) ∧ M = am_mem L ext tx tt fe I' G' ∧ Mo I I' G' bt n q (nI (5 - k)) nm (5 * k + 1 + 2) x (lvf (cd bt n) (adv bt n) (innf (cd bt n) (adv bt n) k) 2 q)) := fun I G q hq => by
    have := h0 (d + 4) (by omega) I G q hq
    rw [Pf_eq] at this
    exact this
  have eb : lvf (cd bt n) (adv bt n) (innf (cd bt n) (adv bt n) k) 3 q = if 2 = 2 ∧ cd bt n q = -11 then (match innf (cd bt n) (adv bt n) k 3 q with
      | (q', some w) => (q', some (w ++ [-11]))
      | (q', none) => (q', none)) else bnf (cd bt n) (adv bt n) (lvf (cd bt n) (adv bt n) (innf (cd bt n) (adv bt n) k) 2) (nI 2) 1 q := rfl
  rw [eb]
  have hq0 := hq
  obtain ⟨ht, hs, hb, ho, hnm⟩ := hq
  have hag := adv_gt bt n q
  show wp (am_R (d + 4 + 1) 150 0 (am_mem L ext tx tt fe I G) [some (Value.ref 55), none, none, none] []) _
  refine wp_e e_150_0 (wp_p (s_143 (w := 11) (by omega) ht hs) (wp_e e_150_1 ?_))
  by_cases c11 : cd bt n q = -11
  · rw [if_pos (show I 55 27 = 0 ∧ cd bt n q = kc 11 from ⟨hb, c11⟩), if_pos (show 2 = 2 ∧ cd bt n q = -11 from ⟨rfl, c11⟩)]
    refine wp_f (by decide) (wp_e e_150_2 (wp_b (s_145 (d := d + 1) hk hq0 (by rw [c11]; decide) (by rw [c11]; decide)) ?_))
    rintro v M (⟨rfl, rfl, I1, rfl, f1, b1, b2⟩ | ⟨k', rfl, rfl, I1, G1, rfl, f1, q1⟩)
    · exact wp_e e_150_3 (wp_t rfl (wp_e e_150_4 (wp_r ⟨0, I1, G, rfl, rfl, f1, b1, b2⟩)))
    · refine wp_e e_150_3 (wp_f (by decide) (wp_e e_150_5 (wp_b (ih 3 (by omega) k' rfl (d + 4) (by omega) I1 G1 _ q1) ?_)))
      rintro v M ⟨x, I2, G2, rfl, rfl, f2, o2⟩
      refine wp_e e_150_6 ?_
      have ei : innf (cd bt n) (adv bt n) (k' + 1) 3 q = Pf (cd bt n) (adv bt n) k' 3 (adv bt n q) := rfl
      rw [ei]
      have fin : ∀ z, z = (if x = 0 then (1 : Int32) else 0) → wp (some (some (Value.int z), am_mem L ext tx tt fe (am_u2 I2 55 26 (I2 55 26 - 1)) G2)) (fun v M => ∃ x I' G', v = some (.int x) ∧ M = am_mem L ext tx tt fe I' G' ∧ Mo I I' G' bt n q (nI (5 - (k' + 1))) nm (5 * (k' + 1) + 1 + 3) x (match Pf (cd bt n) (adv bt n) k' 3 (adv bt n q) with
        | (q', some w) => (q', some (w ++ [-11]))
        | (q', none) => (q', none))) := by
        intro z hz
        refine wp_r ⟨z, _, G2, rfl, rfl, f5_t f1 (f5_t f2 (f5_2 (by decide))), ?_⟩
        revert o2
        cases Pf (cd bt n) (adv bt n) k' 3 (adv bt n q) with
        | mk q' ow =>
          cases ow with
          | none =>
            rintro ⟨b1, b2⟩
            exact ⟨by rw [u2_k, if_neg (by decide)]; exact b1, by rw [u2_k, if_neg (by decide)]; exact b2⟩
          | some w =>
            rintro ⟨b1, b2, b3, b4, b5⟩
            refine ⟨by rw [u2_k, if_neg (by decide)]; exact b1, ?_, MS_k b3 (by rw [u2_k, if_neg (by decide)]) (by rw [u2_k, if_neg (by decide)]) (by rw [u2_k, if_neg (by decide)]), by omega, Vo_1 (Vo_m b5 (by omega)) (fun st => ?_)⟩
            · rw [u2_s, b2, n1, pk_sub (by omega), show 5 - k' - 1 = 5 - (k' + 1) by omega]
            · rw [hz]; rfl
      by_cases hx : x = 0
      · exact wp_t hx (wp_e e_150_7 (wp_e e_150_9 (fin _ (by rw [if_pos hx]))))
      · exact wp_f hx (wp_e e_150_8 (wp_e e_150_9 (fin _ (by rw [if_neg hx]))))
  rw [if_neg (show ¬ (I 55 27 = 0 ∧ cd bt n q = kc 11) from fun e => c11 e.2), if_neg (show ¬ (2 = 2 ∧ cd bt n q = -11) from fun e => c11 e.2)]
  unfold bnf
  refine wp_t rfl (wp_e e_150_10 (wp_b (hsub I G q hq0) ?_))
  rintro v M ⟨x, I1, G1, rfl, rfl, f1, o1⟩
  refine wp_e e_150_11 ?_
  revert o1
  cases lvf (cd bt n) (adv bt n) (innf (cd bt n) (adv bt n) k) 2 q with
  | mk q' ow =>
    cases ow with
    | none =>
      rintro ⟨b1, b2⟩
      exact wp_p (s_144b b1) (wp_e e_150_12 (wp_t rfl (wp_e e_150_13 (wp_p (s_144b b1) (wp_e e_150_14 (wp_t rfl (wp_e e_150_15 (wp_r ⟨x, I1, G1, rfl, rfl, f1, b1, b2⟩))))))))
    | some w =>
      rintro ⟨b1, b2, b3, b4, b5⟩
      have q1 : Mq I1 G1 bt n q' k nm := ⟨MT_f ht f1 (by decide) (by decide), b3, b1, b2, FM_nm f1 hnm⟩
      have el : lpf (cd bt n) (adv bt n) (lvf (cd bt n) (adv bt n) (innf (cd bt n) (adv bt n) k) 2) (nI 2) 1 q' w = if lvo (cd bt n q') = nI 2 then (match lvf (cd bt n) (adv bt n) (innf (cd bt n) (adv bt n) k) 2 (adv bt n q') with
        | (q'', some w') => (q'', some (w ++ w' ++ [cd bt n q']))
        | (q'', none) => (q'', none)) else (q', some w) := rfl
      show wp _ (fun v M => ∃ x I' G', v = some (.int x) ∧ M = am_mem L ext tx tt fe I' G' ∧ Mo I I' G' bt n q (nI (5 - k)) nm (5 * k + 1 + 3) x (lpf (cd bt n) (adv bt n) (lvf (cd bt n) (adv bt n) (innf (cd bt n) (adv bt n) k) 2) (nI 2) 1 q' w))
      rw [el]
      -- a comparison
      have comp : ∀ (c : Int32) (s : Int32), cd bt n q' = c → lvo c = nI 2 → ¬ c = -1 → ¬ c = -2 → c < 0 → ¬ (c = -11 ∨ c = -3) → (∀ (I2 : Nat → Nat → Int32) (G2 : Nat → Nat → Int64) (y : Int32) (Q : Option Value → am_M → Prop), (∀ z, z = jn c x y → Q (some (.int z)) (am_mem L ext tx tt fe I2 G2)) → wp (am_R (d + 4 + 1) 150 21 (am_mem L ext tx tt fe I2 G2) [some (Value.ref 55), some (Value.int x), some (Value.int s), none] [Value.int y]) Q) → wp (am_R (d + 4 + 1) 150 19 (am_mem L ext tx tt fe I1 G1) [some (Value.ref 55), some (Value.int x), none, none] [Value.int s]) (fun v M => ∃ x I' G', v = some (.int x) ∧ M = am_mem L ext tx tt fe I' G' ∧ Mo I I' G' bt n q (nI (5 - k)) nm (5 * k + 1 + 3) x (if lvo (cd bt n q') = nI 2 then (match lvf (cd bt n) (adv bt n) (innf (cd bt n) (adv bt n) k) 2 (adv bt n q') with
        | (q'', some w') => (q'', some (w ++ w' ++ [cd bt n q']))
        | (q'', none) => (q'', none)) else (q', some w))) := by
        intro c s hc hl n1' n2' hneg hnn last
        rw [if_pos (by rw [hc]; exact hl)]
        refine wp_e e_150_19 (wp_b (s_nt (d := d + 2) q1 (by rw [hc]; exact n1') (by rw [hc]; exact n2')) ?_)
        rintro v M ⟨rfl, I2, G2, rfl, f2, q2⟩
        refine wp_e e_150_20 (wp_b (hsub I2 G2 _ q2) ?_)
        rintro v M ⟨y, I3, G3, rfl, rfl, f3, o3⟩
        refine last I3 G3 y _ (fun z hz => ⟨z, I3, G3, rfl, rfl, f5_t f1 (f5_t (f5_m f2 (by decide)) f3), ?_⟩)
        have hag' := adv_gt bt n q'
        revert o3
        cases lvf (cd bt n) (adv bt n) (innf (cd bt n) (adv bt n) k) 2 (adv bt n q') with
        | mk q'' ow' =>
          cases ow' with
          | none => exact fun h => h
          | some w' =>
            rintro ⟨g1, g2, g3, g4, g5⟩
            refine ⟨g1, g2, g3, by omega, ?_⟩
            rw [hz, hc]
            exact Vo_2 (a := 5 * k + 1 + 2) (Vo_m b5 (by omega)) g5 hneg hnn
      refine wp_p (s_144 (v := 60) rfl q1.1 b3) (wp_e e_150_12 ?_)
      by_cases c60 : cd bt n q' = -60
      · rw [if_pos (show I1 55 27 = 0 ∧ cd bt n q' = -nI 60 from ⟨b1, c60⟩)]
        refine wp_f (by decide) (wp_e e_150_16 ?_)
        rw [MS_G (v := 60) b3 rfl c60]
        refine wp_t (by decide) (wp_e e_150_17 (comp (-60) 1 c60 (by decide) (by decide) (by decide) (by decide) (by decide) (fun I2 G2 y Q hQ => ?_)))
        refine wp_e e_150_21 (wp_f (by decide) (wp_e e_150_22 ?_))
        by_cases hxy : x < y
        · exact wp_t hxy (wp_e e_150_23 (wp_e e_150_25 (wp_e e_150_27 (wp_r (hQ _ (by rw [jn_60, if_pos hxy]))))))
        · exact wp_f hxy (wp_e e_150_26 (wp_e e_150_27 (wp_r (hQ _ (by rw [jn_60, if_neg hxy])))))
      rw [if_neg (show ¬ (I1 55 27 = 0 ∧ cd bt n q' = -nI 60) from fun e => c60 e.2)]
      refine wp_t rfl (wp_e e_150_13 (wp_p (s_144 (v := 61) rfl q1.1 b3) (wp_e e_150_14 ?_)))
      by_cases c61 : cd bt n q' = -61
      · rw [if_pos (show I1 55 27 = 0 ∧ cd bt n q' = -nI 61 from ⟨b1, c61⟩)]
        refine wp_f (by decide) (wp_e e_150_16 ?_)
        rw [MS_G (v := 61) b3 rfl c61]
        refine wp_f (by decide) (wp_e e_150_18 (comp (-61) 0 c61 (by decide) (by decide) (by decide) (by decide) (by decide) (fun I2 G2 y Q hQ => ?_)))
        refine wp_e e_150_21 (wp_t rfl (wp_e e_150_24 ?_))
        by_cases hxy : x = y
        · exact wp_t hxy (wp_e e_150_25 (wp_e e_150_27 (wp_r (hQ _ (by rw [jn_61, if_pos hxy])))))
        · exact wp_f hxy (wp_e e_150_26 (wp_e e_150_27 (wp_r (hQ _ (by rw [jn_61, if_neg hxy])))))
      rw [if_neg (show ¬ (I1 55 27 = 0 ∧ cd bt n q' = -nI 61) from fun e => c61 e.2), if_neg (show ¬ lvo (cd bt n q') = nI 2 from fun e => ((lv_x e).1 rfl).elim c61 c60)]
      exact wp_t rfl (wp_e e_150_15 (wp_r ⟨x, I1, G1, rfl, rfl, f1, b1, b2, b3, b4, Vo_m b5 (by omega)⟩))
theorem s_mp {bt : Nat → Nat} {n : Nat} {nm : Nat → Int32} : ∀ k : Nat, k ≤ 5 → ∀ j, j ≤ 5 → MPT L ext tx tt fe bt n k j nm := by
  intro k
  induction k with
  | zero =>
    intro hk
    have ih : ∀ j, j ≤ 5 → ∀ k', 0 = k' + 1 → MPT L ext tx tt fe bt n k' j nm := fun j hj k' e => by omega
    have m0 := s_147 hk ih
    have m1 := s_148 m0
    have m2 := s_149 m1
    have m3 := s_150 hk ih m2
    have m4 := s_151 m3
    have m5 := s_152 m4
    intro j hj
    obtain rfl | rfl | rfl | rfl | rfl | rfl : j = 0 ∨ j = 1 ∨ j = 2 ∨ j = 3 ∨ j = 4 ∨ j = 5 := by omega
    · exact m0
    · exact m1
    · exact m2
    · exact m3
    · exact m4
    · exact m5
  | succ k ihk =>
    intro hk
    have ih : ∀ j, j ≤ 5 → ∀ k', k + 1 = k' + 1 → MPT L ext tx tt fe bt n k' j nm := fun j hj k' e => by
      have e : k = k' := by omega
      subst e
      exact ihk (by omega) j hj
    have m0 := s_147 hk ih
    have m1 := s_148 m0
    have m2 := s_149 m1
    have m3 := s_150 hk ih m2
    have m4 := s_151 m3
    have m5 := s_152 m4
    intro j hj
    obtain rfl | rfl | rfl | rfl | rfl | rfl : j = 0 ∨ j = 1 ∨ j = 2 ∨ j = 3 ∨ j = 4 ∨ j = 5 := by omega
    · exact m0
    · exact m1
    · exact m2
    · exact m3
    · exact m4
    · exact m5
end B18
