/-! PURE, 48: CAPTAINS, all of it -/
def chv (s : St) : Nat → Nat := (cpt (spr s) (srow s) (sD s)).2
def chr (s : St) (a : Int32) : Int32 := if a = -1 then un (fun c => nI (chv s c)) (sC s) else nI (chv s a.toNatClampNeg)
section B48
variable {d L : Nat} {ext : List (Nat × Nat)} {tx : Nat → Nat} {tt : Nat} {fe : Nat → Nat → Option Nat} {I : Nat → Nat → Int32} {G : Nat → Nat → Int64}
theorem c_105 {s : St} (hs : Sok s) (hb : CB s L ext tx tt fe I) {a : Int32} (ha : a = -1 ∨ (¬ a < 0 ∧ a < nI (sC s))) : wp (am_R (d + 2) 105 4 (am_mem L ext tx tt fe I G) [some (Value.ref 5), some (Value.int a), none, none] []) (qC L ext tx fe I G (.int (chr s a))) := by
  have hs0 := hs.1
  obtain ⟨⟨C0, C4, D24⟩, -, -, -, -, hrow, -⟩ := hs0
  have b6 := hb.2.1.2.2.2.2.2.1
  have b7 := hb.2.1.2.2.2.2.2.2.1
  refine wp_e e_105_4 (wp_p (s_214 (r := 22) (n := 4) rfl (by decide) (by decide)) (wp_e e_105_5 ?_))
  refine wp_loop 8 (fun k (J : Nat → Nat → Int32) => fr [22, 23] I J ∧ (∀ c, c < 4 → J 22 c = 0) ∧ ∀ t, t < k → J 23 t = 0) (fun k J => wp (am_R (d + 2) 105 6 (am_mem L ext tx tt fe J G) [some (Value.ref 5), some (Value.int a), some (Value.int (nI k)), none] []) _) ?_ ?_ 0 (am_u1 I 22 (fun y => if y < 4 then 0 else I 22 y)) (Nat.zero_le _) ⟨fr_1 (by decide), fun c hc => by rw [u1_s, if_pos hc], fun t ht => absurd ht (Nat.not_lt_zero t)⟩
  · rintro J ⟨f1, z22, z23⟩
    refine wp_e e_105_6 (wp_f (by decide) (wp_e e_105_8 ?_))
    refine wp_loop (sD s) (fun k (J' : Nat → Nat → Int32) => fr [22, 23] I J' ∧ (∀ c, c < 4 → J' 22 c = nI ((cpt (spr s) (srow s) k).2 c)) ∧ ∀ t, t < 8 → J' 23 t = if (cpt (spr s) (srow s) k).1.testBit t = true then 1 else 0) (fun k J' => wp (am_R (d + 2) 105 9 (am_mem L ext tx tt fe J' G) [some (Value.ref 5), some (Value.int a), some (Value.int (nI k)), none] []) _) ?_ ?_ 0 J (Nat.zero_le _) ⟨f1, z22, fun t ht => ?_⟩
    · rintro J' ⟨f2, y22, y23⟩
      have b2 := CB_f (r := tt) hs hb (fr_m f2 (by decide))
      refine wp_e e_105_9 ?_
      rw [b2.2.1.2.1]
      refine wp_f (nI_nlt (Nat.le_refl _) (by omega)) (wp_e e_105_14 ?_)
      unfold chr
      by_cases e : a = -1
      · rw [if_pos (c := a = -1) (t := un (fun c => nI (chv s c)) (sC s)) e]
        refine wp_t e (wp_e e_105_15 ?_)
        rw [b2.2.1.1]
        refine wp_p (s_107 (r := 22) (m := 4) (n := sC s) rfl C0 C4 (by decide)) (wp_e e_105_16 (wp_e e_105_18 (wp_r ?_)))
        rw [un_c (f := J' 22) (g := fun c => nI (chv s c)) C0 (fun c hc => y22 c (by omega))]
        exact ⟨rfl, tt, J', rfl, fr_m f2 (by decide)⟩
      · rw [if_neg (c := a = -1) (t := un (fun c => nI (chv s c)) (sC s)) e]
        obtain ⟨j, j1, rfl⟩ := ix_lt (by omega) (ha.resolve_left e)
        refine wp_f e (wp_e e_105_17 (wp_c (by rw [ib (n := j) (N := 4) (by omega) (by decide)]; rfl) (wp_e e_105_18 (wp_r ?_))))
        rw [nI_clamp (n := j) (by omega), y22 j (by omega)]
        exact ⟨rfl, tt, J', rfl, fr_m f2 (by decide)⟩
    · rintro k J' hk ⟨f2, y22, y23⟩ hgo
      have b2 := CB_f (r := tt) hs hb (fr_m f2 (by decide))
      refine wp_e e_105_9 ?_
      rw [b2.2.1.2.1]
      refine wp_t (nI_lt hk (by omega)) (wp_e e_105_10 (wp_p (s_106 (pr := spr s) (g := (cpt (spr s) (srow s) k).1.testBit) b2.2.1.2.2.2.2.2.2.1 y23) (wp_e e_105_11 ?_)))
      rcases dla_r (pr := spr s) (g := (cpt (spr s) (srow s) k).1.testBit) 8 (by decide) with ⟨h1, -⟩ | ⟨j, j8, h1, -⟩
      · rw [h1]
        refine wp_t rfl (wp_e e_105_13 ?_)
        rw [nI_1]
        refine wp_l (lq_e (lq_e (lq_e (lq_n lq_0)))) (hgo J' ⟨f2, ?_, ?_⟩)
        · rw [cpt_n h1]
          exact y22
        · rw [cpt_n h1]
          exact y23
      · have hjb := ib (n := j) (N := 8) j8 (by decide)
        have hkb := ib (n := k) (N := 24) (by omega) (by decide)
        have hrk := hrow k (by omega)
        rw [h1]
        refine wp_f (nIm4 (by omega)) (wp_e e_105_12 ?_)
        rw [nI_clamp (n := j) (by omega), nI_clamp (n := k) (by omega), u2_a (show (6 : Nat) ≠ 23 by decide), u2_a (show (22 : Nat) ≠ 23 by decide), u2_a (show (7 : Nat) ≠ 23 by decide), f2 6 (by decide), f2 7 (by decide), b6 k (by omega), b7 j j8, hjb, hkb, ib (n := srow s k) (N := 4) (by omega) (by decide), nI_clamp (n := srow s k) (by omega)]
        refine wp_c rfl (wp_e e_105_13 ?_)
        rw [nI_1]
        refine wp_l (lq_e (lq_e (lq_e (lq_n lq_0)))) (hgo _ ⟨fr_t f2 (fr_t (fr_2 (by decide)) (fr_2 (by decide))), fun c hc => ?_, fun t ht => ?_⟩)
        · rw [cpt_y j8 h1, u2_k, u2_a (show (22 : Nat) ≠ 23 by decide), y22 (srow s k) (by omega), y22 c hc, nI_add]
          show _ = nI (if c = srow s k then _ else _)
          by_cases e : c = srow s k
          · rw [if_pos e, if_pos e, e]
          · rw [if_neg e, if_neg e]
        · rw [cpt_y j8 h1, u2_a (show (23 : Nat) ≠ 22 by decide), u2_k, y23 t ht]
          show _ = if ((cpt (spr s) (srow s) k).1 ||| 2 ^ j).testBit t = true then _ else _
          rw [fb_bit_set]
          by_cases e : t = j
          · rw [if_pos e, decide_eq_true e, Bool.or_true]
            rfl
          · rw [if_neg e, decide_eq_false e, Bool.or_false]
    · rw [z23 t ht]
      show _ = if (0 : Nat).testBit t = true then _ else _
      rw [Nat.zero_testBit]
      rfl
  · rintro k J hk ⟨f1, z22, z23⟩ hgo
    refine wp_e e_105_6 (wp_t (nI_lt (b := 8) hk (by decide)) (wp_e e_105_7 (wp_c (by rw [ib (n := k) (N := 8) hk (by decide)]; rfl) ?_)))
    rw [nI_clamp (n := k) (by omega), nI_1]
    refine hgo _ ⟨fr_t f1 (fr_2 (by decide)), fun c hc => by rw [u2_a (by decide)]; exact z22 c hc, fun t ht => ?_⟩
    rw [u2_k]
    by_cases e : t = k
    · rw [if_pos e]
    · rw [if_neg e]
      exact z23 t (by omega)
theorem m_189 {s : St} (hs : Sok s) (hb : MJ s I) {a : Int32} (ha : a = -1 ∨ (¬ a < 0 ∧ a < nI (sC s))) : wp (am_R (d) 189 4 (am_mem L ext tx tt fe I G) [some (Value.ref 55), some (Value.int a), none, none, none, none] []) (qM L ext tx tt fe I (.int (chr s a))) := by
  have hs0 := hs.1
  obtain ⟨⟨C0, C4, D24⟩, -, -, -, -, hrow, -⟩ := hs0
  have b59 := hb.1.2.2.2.2.2.2.1
  have b62 := hb.1.2.2.2.2.2.2.2.1
  refine wp_e e_189_4 ?_
  refine wp_loop 4 (fun k (J : Nat → Nat → Int32) => fr [69] I J ∧ ∀ t, t < k → J 69 t = 0) (fun k J => wp (am_R d 189 5 (am_mem L ext tx tt fe J G) [some (Value.ref 55), some (Value.int a), some (Value.int (nI k)), none, none, none] []) _) ?_ ?_ 0 I (Nat.zero_le _) ⟨fr_r _ _, fun t ht => absurd ht (Nat.not_lt_zero t)⟩
  · rintro J ⟨f1, z69⟩
    refine wp_e e_189_5 (wp_f (by decide) (wp_e e_189_7 ?_))
    refine wp_loop (min (sD s) 8) (fun k (J' : Nat → Nat → Int32) => fr [69] I J' ∧ ∀ c, c < 4 → J' 69 c = nI ((cpt (spr s) (srow s) k).2 c)) (fun k J' => wp (am_R d 189 8 (am_mem L ext tx tt fe J' G) [some (Value.ref 55), some (Value.int a), some (Value.int (nI (cpt (spr s) (srow s) k).1)), some (Value.int (nI k)), none, none] []) _) ?_ ?_ 0 J (Nat.zero_le _) ⟨f1, z69⟩
    · rintro J' ⟨f2, y69⟩
      have hq : ∀ c, c < 4 → J' 69 c = nI (chv s c) := fun c hc => by
        rw [y69 c hc]
        unfold chv
        by_cases e : sD s ≤ 8
        · rw [Nat.min_eq_left e]
        · rw [Nat.min_eq_right (by omega), show sD s = 8 + (sD s - 8) by omega, cpt_8]
      have fin : wp (am_R d 189 18 (am_mem L ext tx tt fe J' G) [some (Value.ref 55), some (Value.int a), some (Value.int (nI (cpt (spr s) (srow s) (min (sD s) 8)).1)), some (Value.int (nI (min (sD s) 8))), none, none] []) (qM L ext tx tt fe I (.int (chr s a))) := by
        have fm : mf SQ TQ I J' := ⟨fun x _ hx => f2 x (fun e => hx ((by decide : ∀ y, y ∈ [69] → y ∈ SQ) x e)), fun x _ => by rw [f2 55 (by decide)]⟩
        refine wp_e e_189_18 ?_
        unfold chr
        by_cases e : a = -1
        · rw [if_pos (c := a = -1) (t := un (fun c => nI (chv s c)) (sC s)) e]
          exact wp_t e (s_189u (n := sC s) (f := fun c => nI (chv s c)) (by rw [f2 55 (by decide)]; exact hb.1.1) C0 C4 hq ⟨rfl, J', G, rfl, fm⟩)
        · rw [if_neg (c := a = -1) (t := un (fun c => nI (chv s c)) (sC s)) e]
          obtain ⟨j, j1, rfl⟩ := ix_lt (by omega) (ha.resolve_left e)
          refine wp_f e (wp_e e_189_19 (wp_c (by rw [ib (n := j) (N := 4) (by omega) (by decide)]; rfl) (wp_r ?_)))
          rw [nI_clamp (n := j) (by omega), hq j (by omega)]
          exact ⟨rfl, J', G, rfl, fm⟩
      refine wp_e e_189_8 ?_
      rw [show J' 55 8 = nI (sD s) by rw [f2 55 (by decide)]; exact hb.1.2.1]
      by_cases e : sD s ≤ 8
      · exact wp_f (nI_nlt (by omega) (by omega)) fin
      · exact wp_t (nI_lt (by omega) (by omega)) (wp_e e_189_9 (wp_f (nI_nlt (b := 8) (by omega) (by omega)) fin))
    · rintro k J' hk ⟨f2, y69⟩ hgo
      have hk8 : k < 8 := by omega
      have hkD : k < sD s := by omega
      refine wp_e e_189_8 ?_
      rw [show J' 55 8 = nI (sD s) by rw [f2 55 (by decide)]; exact hb.1.2.1]
      refine wp_t (nI_lt hkD (by omega)) (wp_e e_189_9 (wp_t (nI_lt (b := 8) hk8 (by decide)) (s_189d (pr := spr s) (cpt_lt k) (fun t ht => by rw [f2 62 (by decide)]; exact b62 t ht) ?_)))
      rcases dla_r (pr := spr s) (g := (cpt (spr s) (srow s) k).1.testBit) 8 (by decide) with ⟨h1, h2⟩ | ⟨j, j8, h1, -⟩
      · have := fb_ct_all.mpr h2
        rw [cpt_ct k (by omega)] at this
        omega
      · have hjb := ib (n := j) (N := 8) j8 (by decide)
        have hkb := ib (n := k) (N := 24) (by omega) (by decide)
        have hrk := hrow k (by omega)
        have hlt := cpt_lt (pr := spr s) (row := srow s) k
        rw [h1]
        refine wp_e e_189_17 ?_
        rw [nI_clamp (n := j) (by omega), nI_clamp (n := k) (by omega), f2 59 (by decide), f2 62 (by decide), b59 k (by omega), b62 j j8, hjb, hkb, ib (n := srow s k) (N := 4) (by omega) (by decide), nI_clamp (n := srow s k) (by omega)]
        refine wp_c rfl ?_
        rw [nI_1, (sm31 j8).2, fa_or]
        have go := hgo (am_u2 J' 69 (srow s k) (J' 69 (srow s k) + nI (spr s j))) ⟨fr_t f2 (fr_2 (by decide)), fun c hc => ?_⟩
        · rw [cpt_y j8 h1] at go
          exact wp_l (lq_e (lq_e (lq_e (lq_e (lq_n (lq_n lq_0)))))) go
        · rw [cpt_y j8 h1, u2_k, y69 (srow s k) (by omega), y69 c hc, nI_add]
          show _ = nI (if c = srow s k then _ else _)
          by_cases e : c = srow s k
          · rw [if_pos e, if_pos e, e]
          · rw [if_neg e, if_neg e]
  · rintro k J hk ⟨f1, z69⟩ hgo
    refine wp_e e_189_5 (wp_t (nI_lt (b := 4) hk (by decide)) (wp_e e_189_6 (wp_c (by rw [ib (n := k) (N := 4) hk (by decide)]; rfl) ?_)))
    rw [nI_clamp (n := k) (by omega), nI_1]
    refine hgo _ ⟨fr_t f1 (fr_2 (by decide)), fun t ht => ?_⟩
    rw [u2_k]
    by_cases e : t = k
    · rw [if_pos e]
    · rw [if_neg e]
      exact z69 t (by omega)
end B48
/-- CAPTAINS -/
theorem op_captains {s : St} (hs : Sok s) {a : Int32} : OP s (fun M => (am_R (2047) 105 0 M [some (Value.ref 5), some (Value.int a), none, none] [])) (fun M => (am_R (2047) 189 0 M [some (Value.ref 55), some (Value.int a), none, none, none, none] [])) := by
  have hC4 := hs.1.1.2.1
  by_cases ha : a = -1 ∨ (¬ a < 0 ∧ a < nI (sC s))
  · refine OP_q hs (.int (chr s a)) (fun L ext tx tt fe I G hb => ?_) (fun L ext tx tt fe I G hb => ?_)
    · have k := c_105 (d := 2045) (G := G) hs hb ha
      refine wp_e e_105_0 (wp_i (fun _ => k) (fun e => wp_e e_105_1 (wp_p s_76 (wp_e e_105_2 (wp_f (bI_y ?_) k)))))
      rw [hb.2.1.1]
      exact ha.resolve_left e
    · have k := m_189 (d := 2047) (G := G) (L := L) (ext := ext) (tx := tx) (tt := tt) (fe := fe) hs hb ha
      exact wp_e e_189_0 (wp_i (fun _ => k) (fun e => wp_e e_189_1 (wp_p (s_131 hb.1.1 (by omega)) (wp_e e_189_2 (wp_f (bI_y (ha.resolve_left e)) k)))))
  · refine OP_q hs (.int (-2)) (fun L ext tx tt fe I G hb => ?_) (fun L ext tx tt fe I G hb => ?_)
    · refine wp_e e_105_0 (wp_f (fun e => ha (Or.inl e)) (wp_e e_105_1 (wp_p s_76 (wp_e e_105_2 (wp_t (bI_f ?_) (wp_e e_105_3 (wp_r (qc_of (fr_r _ _)))))))))
      rw [hb.2.1.1]
      exact fun e => ha (Or.inr e)
    · exact wp_e e_189_0 (wp_f (fun e => ha (Or.inl e)) (wp_e e_189_1 (wp_p (s_131 hb.1.1 (by omega)) (wp_e e_189_2 (wp_t (bI_f (fun e => ha (Or.inr e))) (wp_e e_189_3 (wp_r (qm_of (mf_r _ _ _)))))))))
