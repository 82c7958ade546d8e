/-! PURE, 62: TASTES, all of it -/
abbrev taS (s : St) (q : Nat) : TA := dfs (ss1 s) (ss2 s) (sC s) (okt (ss1 s) (ss2 s) (sit s q)) (clt (sit s q) (sC s) (sD s)) (sD s) 0 ps0 (fun _ => 0) (0, -1)
section B62
variable {d L : Nat} {ext : List (Nat × Nat)} {tx : Nat → Nat} {tt : Nat} {fe : Nat → Nat → Option Nat} {I : Nat → Nat → Int32} {G : Nat → Nat → Int64}
theorem c_36 {s : St} (hs : Sok s) (hp : sC s ^ sD s ≤ 65536) (h : RY s I) {q : Nat} (hq : q < 4) (hit : ∀ c, c < sC s → I (35 + 2 * q) c = sit s q c) : wp (am_R (2046) 36 0 (am_mem L ext tx tt fe I G) [some (Value.ref 48), some (Value.ref (35 + 2 * q))] []) (fun v M => v = none ∧ ∃ I', M = (am_mem L ext tx tt fe (I') G) ∧ cf [50, 51] [15, 16] I I' ∧ TE I' (taS s q)) := by
  have hs0 := hs.1
  obtain ⟨⟨h0, hC, hD⟩, -⟩ := hs0
  refine wp_e e_36_0 ?_
  have fX : cf [50, 51] [15, 16] I (am_u2 (am_u2 I 48 15 0) 48 16 (-1)) := cf_t (cf_4 (by decide)) (cf_4 (by decide))
  have X : am_u2 (am_u2 I 48 15 0) 48 16 (-1) 48 15 = 0 ∧ am_u2 (am_u2 I 48 15 0) 48 16 (-1) 48 16 = -1 := ⟨by rw [u2_k, if_neg (by decide), u2_s], u2_s _ _ _ _⟩
  generalize am_u2 (am_u2 I 48 15 0) 48 16 (-1) = K at fX X ⊢
  have r32 : (am_R (2045) 32 0 (am_mem L ext tx tt fe (K) G) [some (Value.ref 48)] []) = some (none, (am_mem L ext tx tt fe (am_u1 (am_u1 K 50 (fun y => if y < 4 then 0 else K 50 y)) 51 (fun y => if y < 4 then 0 else (am_u1 K 50 (fun y => if y < 4 then 0 else K 50 y)) 51 y)) G)) := wp_eq (wp_e e_32_0 (wp_p (s_214 (r := 50) (n := 4) rfl (by decide) (by decide)) (wp_e e_32_1 (wp_p (s_214 (r := 51) (n := 4) rfl (by decide) (by decide)) (wp_e e_32_2 (wp_r ⟨rfl, rfl⟩))))))
  refine wp_p r32 (wp_e e_36_1 ?_)
  have z50 : ∀ c, c < 4 → am_u1 (am_u1 K 50 (fun y => if y < 4 then 0 else K 50 y)) 51 (fun y => if y < 4 then 0 else (am_u1 K 50 (fun y => if y < 4 then 0 else K 50 y)) 51 y) 50 c = 0 := fun c hc => by
    rw [u1_a (by decide), u1_s, if_pos hc]
  have z51 : ∀ c, c < 4 → am_u1 (am_u1 K 50 (fun y => if y < 4 then 0 else K 50 y)) 51 (fun y => if y < 4 then 0 else (am_u1 K 50 (fun y => if y < 4 then 0 else K 50 y)) 51 y) 51 c = 0 := fun c hc => by
    rw [u1_s, if_pos hc]
  have fK : cf [50, 51] [15, 16] I (am_u1 (am_u1 K 50 (fun y => if y < 4 then 0 else K 50 y)) 51 (fun y => if y < 4 then 0 else (am_u1 K 50 (fun y => if y < 4 then 0 else K 50 y)) 51 y)) := cf_t fX (cf_t (cf_1 (by decide) (by decide)) (cf_1 (by decide) (by decide)))
  have k48 : am_u1 (am_u1 K 50 (fun y => if y < 4 then 0 else K 50 y)) 51 (fun y => if y < 4 then 0 else (am_u1 K 50 (fun y => if y < 4 then 0 else K 50 y)) 51 y) 48 = K 48 := by
    rw [u1_a (by decide), u1_a (by decide)]
  generalize am_u1 (am_u1 K 50 (fun y => if y < 4 then 0 else K 50 y)) 51 (fun y => if y < 4 then 0 else (am_u1 K 50 (fun y => if y < 4 then 0 else K 50 y)) 51 y) = K2 at z50 z51 fK k48 ⊢
  have b2 := SB_f h.2.1 fK (by decide) (by decide)
  have r := c_37 (L := L) (ext := ext) (tx := tx) (tt := tt) (fe := fe) (G := G) (d := 2035 - sD s) (it := sit s q) rg_s rg_s h0 hC hD hp (sp34 hq).2 (by omega) (sD s) 0 ps0 (fun _ => 0) (0, -1) K2 0 (Nat.zero_add _) ps0_ok (Or.inl ⟨rfl, rfl⟩) b2 ⟨z50, z51⟩ ⟨by rw [k48]; exact X.1, by rw [k48]; exact X.2⟩ (fun c hc => by rw [fK.1 (35 + 2 * q) (by omega) (by simp; omega)]; exact hit c hc) (fun v M => v = none ∧ ∃ I', M = (am_mem L ext tx tt fe (I') G) ∧ cf [50, 51] [15, 16] K2 I' ∧ TE I' (taS s q)) (fun I' z1 _ z3 => ⟨rfl, I', rfl, z1, z3⟩)
  rw [show sD s + (2035 - sD s) + 10 = 2045 by omega] at r
  refine wp_b r ?_
  rintro v M ⟨rfl, I', rfl, f3, e3⟩
  exact wp_e e_36_2 (wp_r ⟨rfl, I', rfl, cf_t fK f3, e3⟩)
/-- the model tells the first way -/
theorem m_191d {D : Nat} {v1 v2 v3 : Int32} {g : Nat → Int32} (hD : D ≤ 24) (h8 : I 55 8 = nI D) (h68 : ∀ j, j < D → I 68 j = g j) {Q : Option Value → am_M → Prop} (hQ : Q (some (.int (dgr g D))) (am_mem L ext tx tt fe I G)) : wp (am_R d 191 17 (am_mem L ext tx tt fe I G) [some (Value.ref 55), some (Value.int v1), some (Value.int v2), some (Value.int v3), none, none] []) Q := by
  refine wp_e e_191_17 ?_
  refine wp_loop D (fun k (_ : Unit) => True) (fun k _ => wp (am_R d 191 18 (am_mem L ext tx tt fe I G) [some (Value.ref 55), some (Value.int v1), some (Value.int v2), some (Value.int v3), some (Value.int (dgr g k)), some (Value.int (nI k))] []) Q) ?_ ?_ 0 () (Nat.zero_le _) trivial
  · rintro _ -
    refine wp_e e_191_18 ?_
    rw [h8]
    exact wp_f (nI_nlt (Nat.le_refl _) (by omega)) (wp_e e_191_20 (wp_r hQ))
  · rintro k _ hk - hgo
    refine wp_e e_191_18 ?_
    rw [h8]
    refine wp_t (nI_lt hk (by omega)) (wp_e e_191_19 ?_)
    rw [ib (n := k) (N := 24) (by omega) (by decide), nI_clamp (n := k) (by omega), h68 k hk, nI_1]
    exact wp_c rfl (hgo () trivial)
end B62
/-- TASTES -/
theorem op_tastes {s : St} (hs : Sok s) {a b : Int32} : OP s (fun M => (am_R (2047) 108 0 M [some (Value.ref 5), some (Value.int a), some (Value.int b), none] [])) (fun M => (am_R (2047) 191 0 M [some (Value.ref 55), some (Value.int a), some (Value.int b), none, none, none] [])) := by
  have hs0 := hs.1
  obtain ⟨⟨C0, C4, D24⟩, hR, hT6, -⟩ := hs0
  by_cases h : (¬ a < 0 ∧ a < (4 : Int32)) ∧ (¬ b < 0 ∧ ¬ nI 1 < b)
  · obtain ⟨q, hq, rfl⟩ := ix_lt (n := 4) (by decide) h.1
    obtain ⟨wh, hwh, rfl⟩ := ix_le (n := 1) (by decide) h.2
    have hqb := ib (n := q) (N := 4) hq (by decide)
    have hqc := nI_clamp (n := q) (by omega)
    have h200 : ¬ nI q < 0 ∧ ¬ 3 < nI q := ⟨nI_pos (by omega), nI_nlt (a := 3) (by omega) (by decide)⟩
    have c0 : ∀ {L ext tx tt fe I G} {Q : Option Value → am_M → Prop}, CB s L ext tx tt fe I → wp (am_R 2047 108 6 (am_mem L ext tx tt fe I G) [some (Value.ref 5), some (Value.int (nI q)), some (Value.int (nI wh)), none] [Value.int (tasb s q)]) Q → wp (am_R 2047 108 0 (am_mem L ext tx tt fe I G) [some (Value.ref 5), some (Value.int (nI q)), some (Value.int (nI wh)), none] []) Q := fun hb k => wp_e e_108_0 (wp_p s_125 (wp_e e_108_1 (wp_f (bI_y h.1) (wp_e e_108_2 (wp_f h.2.1 (wp_e e_108_3 (wp_f h.2.2 (wp_e e_108_5 (wp_p (c_111 (d := 2045) hs hb hq) k)))))))))
    have m0 : ∀ {L ext tx tt fe I G} {Q : Option Value → am_M → Prop}, MJ s I → wp (am_R 2047 191 6 (am_mem L ext tx tt fe I G) [some (Value.ref 55), some (Value.int (nI q)), some (Value.int (nI wh)), none, none, none] [Value.int (tasb s q)]) Q → wp (am_R 2047 191 0 (am_mem L ext tx tt fe I G) [some (Value.ref 55), some (Value.int (nI q)), some (Value.int (nI wh)), none, none, none] []) Q := fun hb k => wp_e e_191_0 (wp_p s_200 (wp_e e_191_1 (wp_f (bI_y h200) (wp_e e_191_2 (wp_p s_127 (wp_e e_191_3 (wp_f (bI_y ((in_k (k := 1) (by decide)).mpr h.2)) (wp_e e_191_5 (wp_p (m_190 (d := 2044) hs hb hq) k)))))))))
    by_cases ht : tasb s q = 0
    · obtain ⟨t1, t2⟩ := tasb_0 ht
      by_cases hp : sD s ≤ 9 ∧ sC s ^ sD s ≤ 65536
      · refine OP_s hs (.int (if wh = 0 then (taS s q).1 else (taS s q).2)) (fun L ext tx tt fe I G hb ha => c0 hb (wp_e e_108_6 (wp_t ht (wp_e e_108_8 ?_)))) (fun L ext tx tt fe I G hb => m0 hb (wp_e e_191_6 (wp_t ht (wp_e e_191_8 ?_))))
        · rw [hb.2.1.2.1]
          refine wp_f (nI_nlt (b := sD s) (a := 9) (by omega) (by decide)) (wp_e e_108_9 (wp_p (c_97 hs hb) (wp_e e_108_10 (wp_f (bI_y hp.2) (wp_e e_108_12 ?_)))))
          rw [hb.2.1.2.2.2.2.1, ib (n := sR s) (N := 6) (by omega) (by decide), nI_clamp (n := sR s) (by omega), Fx9 (by omega)]
          refine wp_c rfl (wp_e e_108_13 ?_)
          rw [hb.2.1.1, hb.2.1.2.1]
          refine wp_b (c_26 (d := 2042) hs hp.2 hb ha) ?_
          rintro v M ⟨rfl, tt', I1, rfl, f1, r1⟩
          have b1 := CB_f (r := tt') hs hb (fr_m f1 (by decide))
          refine wp_e e_108_14 (wp_c (by rw [hqb]; rfl) ?_)
          rw [hqc, (Fx16 hq).1]
          refine wp_e e_108_15 (wp_c (by rw [kd_of (sp34 hq).1]; rfl) ?_)
          rw [(Fx16 hq).2]
          refine wp_e e_108_16 (wp_b (c_36 hs hp.2 r1 hq (fun c hc => ((b1.2.2.2.2.1 q hq).2 t1).2 c (by omega))) ?_)
          rintro v M ⟨rfl, I2, rfl, f2, e1, e2⟩
          have fin : ∀ x, qS s L ext tx fe I G x (some x) (am_mem L ext tx tt' fe I2 G) := fun x => ⟨rfl, tt', I2, rfl, fr_t (fr_m f1 (by decide)) (fun y hy => f2.1 y (fun e => hy (by rw [e]; decide)) (fun e => hy ((by decide : ∀ x, x ∈ [50, 51] → x ∈ FCS) y e))), CA_RY hs hp.2 (RY_f r1 f2)⟩
          refine wp_e e_108_17 ?_
          obtain rfl | rfl : wh = 0 ∨ wh = 1 := by omega
          · rw [if_pos (c := (0 : Nat) = 0) rfl]
            refine wp_t rfl (wp_e e_108_18 (wp_e e_108_20 (wp_r ?_)))
            rw [e1]
            exact fin _
          · rw [if_neg (c := (1 : Nat) = 0) (by decide)]
            refine wp_f (by decide) (wp_e e_108_19 (wp_e e_108_20 (wp_r ?_)))
            rw [e2]
            exact fin _
        · rw [hb.1.2.1]
          refine wp_f (nI_nlt (b := sD s) (a := 9) (by omega) (by decide)) (wp_e e_191_9 (wp_p (m_172 C0 C4 D24 hb.1.1 hb.1.2.1) (wp_e e_191_10 (wp_t (bI_f (by omega)) (wp_e e_191_12 (wp_b (m_177 (q := q) (it := sit s q) hs hb (Or.inr (Or.inr ⟨rfl, rfl, hq, fun c hc => ((hb.2.2.1 q hq).2 t1).2.2 c (by omega)⟩))) ?_))))))
          rintro v M ⟨rfl, I', G', rfl, f1, b0, hb0, e1, -, -, e4⟩
          obtain ⟨n, k1, k2, k3, k4⟩ := ta_rel (s := ss1 s) (d := ss2 s) (C := sC s) (D := sD s) (v := nI q) (it := sit s q) (b0 := b0) rg_s rg_s C0 C4 D24 (hb0.trans (if_pos rfl)) (by omega)
          have fin : ∀ x, qM L ext tx tt fe I x (some x) (am_mem L ext tx tt fe I' G') := fun x => ⟨rfl, I', G', rfl, f1⟩
          rw [k3] at e1
          refine wp_e e_191_13 ?_
          obtain rfl | rfl : wh = 0 ∨ wh = 1 := by omega
          · rw [if_pos (c := (0 : Nat) = 0) rfl]
            refine wp_t rfl (wp_e e_191_14 (wp_r ?_))
            rw [e1, k2]
            exact fin _
          · rw [if_neg (c := (1 : Nat) = 0) (by decide)]
            refine wp_f (by decide) (wp_e e_191_15 ?_)
            rw [e1]
            rcases k4 with ⟨z1, z2⟩ | ⟨z1, z2⟩
            · refine wp_t (by rw [z1]; rfl) (wp_e e_191_16 (wp_r ?_))
              rw [z2]
              exact fin _
            · refine wp_f (nI_ne0 z1 (by omega)) (m_191d D24 (by rw [f1.2 8 (by decide)]; exact hb.1.2.1) e4 ?_)
              rw [z2]
              exact fin _
      · have hm : ∀ {L ext tx tt fe I G} {v3 : Int32}, MJ s I → wp (am_R 2047 191 8 (am_mem L ext tx tt fe I G) [some (Value.ref 55), some (Value.int (nI q)), some (Value.int (nI wh)), some (Value.int v3), none, none] []) (qM L ext tx tt fe I (.int (-3))) := by
          intro L ext tx tt fe I G v3 hb
          refine wp_e e_191_8 ?_
          rw [hb.1.2.1]
          refine wp_i (fun e => wp_e e_191_11 (wp_r (qm_of (mf_r _ _ _)))) (fun e => wp_e e_191_9 (wp_p (m_172 C0 C4 D24 hb.1.1 hb.1.2.1) (wp_e e_191_10 (wp_f (bI_y ?_) (wp_e e_191_11 (wp_r (qm_of (mf_r _ _ _))))))))
          have e : ¬ nI 9 < nI (sD s) := e
          rw [nI_ltI (by omega) (by omega)] at e
          omega
        have hc : ∀ {L ext tx tt fe I G} {v3 : Int32}, CB s L ext tx tt fe I → CA s I → wp (am_R 2047 108 8 (am_mem L ext tx tt fe I G) [some (Value.ref 5), some (Value.int (nI q)), some (Value.int (nI wh)), some (Value.int v3)] []) (qS s L ext tx fe I G (.int (-3))) := by
          intro L ext tx tt fe I G v3 hb ha
          refine wp_e e_108_8 ?_
          rw [hb.2.1.2.1]
          refine wp_i (fun e => wp_e e_108_11 (wp_r (qs_of ha))) (fun e => wp_e e_108_9 (wp_p (c_97 hs hb) (wp_e e_108_10 (wp_t (bI_f ?_) (wp_e e_108_11 (wp_r (qs_of ha)))))))
          have e : ¬ nI 9 < nI (sD s) := e
          rw [nI_ltI (by omega) (by omega)] at e
          omega
        exact OP_s hs (.int (-3)) (fun L ext tx tt fe I G hb ha => c0 hb (wp_e e_108_6 (wp_t ht (hc hb ha)))) (fun L ext tx tt fe I G hb => m0 hb (wp_e e_191_6 (wp_t ht (hm hb))))
    · exact OP_s hs (.int (tasb s q)) (fun L ext tx tt fe I G hb ha => c0 hb (wp_e e_108_6 (wp_f ht (wp_e e_108_7 (wp_r (qs_of ha)))))) (fun L ext tx tt fe I G hb => m0 hb (wp_e e_191_6 (wp_f ht (wp_e e_191_7 (wp_r (qm_of (mf_r _ _ _)))))))
  · refine OP_s hs (.int (-2)) (fun L ext tx tt fe I G hb ha => ?_) (fun L ext tx tt fe I G hb => ?_)
    · have fin : wp (am_R 2047 108 4 (am_mem L ext tx tt fe I G) [some (Value.ref 5), some (Value.int a), some (Value.int b), none] []) (qS s L ext tx fe I G (.int (-2))) := wp_e e_108_4 (wp_r (qs_of ha))
      exact wp_e e_108_0 (wp_p s_125 (wp_e e_108_1 (wp_i (fun _ => fin) (fun h1 => wp_e e_108_2 (wp_i (fun _ => fin) (fun h2 => wp_e e_108_3 (wp_i (fun _ => fin) (fun h3 => absurd ⟨bI_n h1, h2, h3⟩ h))))))))
    · have fin : wp (am_R 2047 191 4 (am_mem L ext tx tt fe I G) [some (Value.ref 55), some (Value.int a), some (Value.int b), none, none, none] []) (qM L ext tx tt fe I (.int (-2))) := wp_e e_191_4 (wp_r (qm_of (mf_r _ _ _)))
      refine wp_e e_191_0 (wp_p s_200 (wp_e e_191_1 (wp_i (fun _ => fin) (fun h1 => wp_e e_191_2 (wp_p s_127 (wp_e e_191_3 (wp_i (fun _ => fin) (fun h2 => absurd ⟨?_, (in_k (k := 1) (by decide)).mp (bI_n h2)⟩ h))))))))
      obtain ⟨j, j1, rfl⟩ := ix_le (n := 3) (by decide) (bI_n h1)
      exact ⟨nI_pos (by omega), nI_lt (b := 4) (by omega) (by decide)⟩
