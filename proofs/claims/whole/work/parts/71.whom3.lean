/-! PURE, 41: WHOM, all of it -/
theorem tas_c {f g g' : Nat → Int32} {b : Int32} : ∀ k, (∀ c, c < k → g c = g' c) → tas f g b k = tas f g' b k
  | 0, _ => rfl
  | k + 1, h => by
    show (tas f g b k && (decide (nI k = b) || decide (f k = g k))) = (tas f g' b k && (decide (nI k = b) || decide (f k = g' k)))
    rw [tas_c k (fun c hc => h c (by omega)), h k (by omega)]
def wbt (s : St) (q : Nat) : Nat → Int32
  | 0 => 0
  | p + 1 => if tas (bps s p).2.1 (sit s q) (-1) (sC s) = true then wbt s q p ||| (1 <<< (nI p &&& 31)) else wbt s q p
theorem sh0 {p : Nat} (hp : p < 6) : (0 : Int32) <<< (nI p &&& 31) = 0 := by
  obtain rfl | rfl | rfl | rfl | rfl | rfl : p = 0 ∨ p = 1 ∨ p = 2 ∨ p = 3 ∨ p = 4 ∨ p = 5 := by omega
  all_goals decide
theorem tasb_0 {s : St} {q : Nat} (h : tasb s q = 0) : 0 < sso s q ∧ ssz s q = sC s := by
  unfold tasb at h
  by_cases e : sso s q = 0
  · rw [if_pos e] at h
    exact absurd h (by decide)
  · rw [if_neg e] at h
    by_cases e2 : ssz s q = sC s
    · exact ⟨by omega, e2⟩
    · rw [if_neg e2] at h
      exact absurd h (by decide)
/-- WHOM -/
theorem op_whom {s : St} (hs : Sok s) {a : Int32} : OP s (fun M => (am_R (2047) 109 0 M [some (Value.ref 5), some (Value.int a), none, none, none] [])) (fun M => (am_R (2047) 192 0 M [some (Value.ref 55), some (Value.int a), none, none, none, none, none] [])) := by
  have P6 := hs.1.2.2.2.1
  have hC := hs.1.1
  by_cases h : ¬ a < 0 ∧ a < (4 : Int32)
  · obtain ⟨q, hq, rfl⟩ := ix_lt (n := 4) (by decide) h
    have hqb := ib (n := q) (N := 4) hq (by decide)
    by_cases ht : tasb s q = 0
    · obtain ⟨t1, t2⟩ := tasb_0 ht
      refine OP_q hs (.int (wbt s q (sPn s))) (fun L ext tx tt fe I G hb => ?_) (fun L ext tx tt fe I G hb => ?_)
      · refine wp_e e_109_0 (wp_p s_125 (wp_e e_109_1 (wp_f (bI_y h) (wp_e e_109_3 (wp_p (c_111 (d := 2045) hs hb hq) (wp_e e_109_4 (wp_t ht (wp_e e_109_6 ?_))))))))
        refine wp_loop (sPn s) (fun k (J : (Nat → Nat → Int32) × Nat) => fr (21 :: FP) I J.1) (fun k J => wp (am_R 2047 109 7 (am_mem L ext tx J.2 fe J.1 G) [some (Value.ref 5), some (Value.int (nI q)), some (Value.int (tasb s q)), some (Value.int (wbt s q k)), some (Value.int (nI k))] []) _) ?_ ?_ 0 (I, tt) (Nat.zero_le _) (fr_r _ _)
        · rintro ⟨J, t⟩ f1
          have b1 := CB_f (r := t) hs hb (fr_m f1 (by decide))
          refine wp_e e_109_7 ?_
          rw [b1.2.1.2.2.1]
          exact wp_f (nI_nlt (Nat.le_refl _) (by omega)) (wp_e e_109_16 (wp_r (qc_21 f1)))
        · rintro k ⟨J, t⟩ hk f1 hgo
          have b1 := CB_f (r := t) hs hb (fr_m f1 (by decide))
          refine wp_e e_109_7 ?_
          rw [b1.2.1.2.2.1]
          refine wp_t (nI_lt hk (by omega)) (wp_e e_109_8 (wp_c (by rw [ib (n := k) (N := 6) (by omega) (by decide)]; rfl) ?_))
          rw [nI_clamp (n := k) (by omega), Fx8 (by omega)]
          refine wp_e e_109_9 (wp_b (c_104 (d := 2042) hs b1 hk) ?_)
          rintro v M ⟨rfl, I', tt', rfl, g1, w1, r1⟩
          have fI := fr_t f1 g1
          have b2 := CB_f (r := tt') hs hb (fr_m fI (by decide))
          refine wp_e e_109_10 (wp_c (by rw [hqb]; rfl) ?_)
          rw [nI_clamp (n := q) (by omega), (Fx16 hq).1]
          refine wp_e e_109_11 (wp_c (by rw [kd_of (sp34 hq).1]; rfl) ?_)
          rw [(Fx16 hq).2]
          refine wp_e e_109_12 (wp_p (c_112 (C := sC s) (f := (bps s k).2.1) (g := sit s q) b2.2.1.1 hC.2.1 (sp34 hq).2 (fun c hc => w1.2.2.2.2.2.2.1 c (by omega)) (fun c hc => ((b2.2.2.2.2.1 q hq).2 t1).2 c (by omega))) (wp_e e_109_13 ?_))
          have go := hgo (I', tt') fI
          by_cases e : tas (bps s k).2.1 (sit s q) (-1) (sC s) = true
          · rw [show wbt s q (k + 1) = wbt s q k ||| (1 <<< (nI k &&& 31)) from if_pos e] at go
            rw [if_pos (c := tas (bps s k).2.1 (sit s q) (-1) (sC s) = true) (t := (1 : Int32)) e]
            refine wp_f (by decide) (wp_e e_109_14 (wp_e e_109_15 ?_))
            rw [nI_1]
            exact go
          · rw [show wbt s q (k + 1) = wbt s q k from if_neg e] at go
            rw [if_neg (c := tas (bps s k).2.1 (sit s q) (-1) (sC s) = true) (t := (1 : Int32)) e]
            refine wp_t rfl (wp_e e_109_15 ?_)
            rw [nI_1]
            exact go
      · refine wp_e e_192_0 (wp_p (m_190 (d := 2044) hs hb hq) (wp_e e_192_1 (wp_t ht (wp_e e_192_3 ?_))))
        refine wp_loop (sPn s) (fun k (J : (Nat → Nat → Int32) × (Nat → Nat → Int64)) => mf (67 :: SP) TP I J.1) (fun k J => wp (am_R 2047 192 4 (am_mem L ext tx tt fe J.1 J.2) [some (Value.ref 55), some (Value.int (nI q)), some (Value.int (tasb s q)), some (Value.int (wbt s q k)), some (Value.int (nI k)), none, none] []) _) ?_ ?_ 0 (I, G) (Nat.zero_le _) (mf_r _ _ _)
        · rintro ⟨J, G3⟩ f1
          have b1 := MJ_f hb (mf_m f1 (by decide) (by decide))
          refine wp_e e_192_4 ?_
          rw [b1.1.2.2.1]
          exact wp_f (nI_nlt (Nat.le_refl _) (by omega)) (wp_e e_192_17 (wp_r (qm_67 f1)))
        · rintro k ⟨J, G3⟩ hk f1 hgo
          have b1 := MJ_f hb (mf_m f1 (by decide) (by decide))
          refine wp_e e_192_4 ?_
          rw [b1.1.2.2.1]
          refine wp_t (nI_lt hk (by omega)) (wp_e e_192_5 (wp_b (m_185 (d := 2042) hs b1 hk (by decide)) ?_))
          rintro v M ⟨rfl, I', G', rfl, g1, w1, r1⟩
          have fI := mf_t f1 g1
          have b2 := MJ_f hb (mf_m fI (by decide) (by decide))
          have go := hgo (I', G') fI
          refine m_192t (C := sC s) (f := (bps s k).2.1) b2.1.1 hC.2.1 hq (fun c hc => w1.2.1 c (by omega)) ?_
          rw [tas_c (g' := sit s q) (sC s) (fun c hc => ((b2.2.2.1 q hq).2 t1).2.2 c (by omega))]
          refine wp_e e_192_13 ?_
          by_cases e : tas (bps s k).2.1 (sit s q) (-1) (sC s) = true
          · rw [show wbt s q (k + 1) = wbt s q k ||| (1 <<< (nI k &&& 31)) from if_pos e] at go
            rw [if_pos (c := tas (bps s k).2.1 (sit s q) (-1) (sC s) = true) (t := (1 : Int32)) e]
            refine wp_f (by decide) (wp_e e_192_14 (wp_e e_192_16 ?_))
            rw [nI_1]
            exact wp_l (lq_e (lq_e (lq_e (lq_e (lq_e (lq_n (lq_n lq_0))))))) go
          · rw [show wbt s q (k + 1) = wbt s q k from if_neg e] at go
            rw [if_neg (c := tas (bps s k).2.1 (sit s q) (-1) (sC s) = true) (t := (1 : Int32)) e]
            refine wp_t rfl (wp_e e_192_15 (wp_e e_192_16 ?_))
            rw [nI_1, sh0 (by omega), Int32.or_zero]
            exact wp_l (lq_e (lq_e (lq_e (lq_e (lq_e (lq_n (lq_n lq_0))))))) go
    · refine OP_q hs (.int (tasb s q)) (fun L ext tx tt fe I G hb => ?_) (fun L ext tx tt fe I G hb => ?_)
      · exact wp_e e_109_0 (wp_p s_125 (wp_e e_109_1 (wp_f (bI_y h) (wp_e e_109_3 (wp_p (c_111 (d := 2045) hs hb hq) (wp_e e_109_4 (wp_f ht (wp_e e_109_5 (wp_r (qc_of (fr_r _ _)))))))))))
      · exact wp_e e_192_0 (wp_p (m_190 (d := 2044) hs hb hq) (wp_e e_192_1 (wp_f ht (wp_e e_192_2 (wp_r (qm_of (mf_r _ _ _)))))))
  · refine OP_q hs (.int (-2)) (fun L ext tx tt fe I G hb => ?_) (fun L ext tx tt fe I G hb => ?_)
    · exact wp_e e_109_0 (wp_p s_125 (wp_e e_109_1 (wp_t (bI_f h) (wp_e e_109_2 (wp_r (qc_of (fr_r _ _)))))))
    · have r190 : wp (am_R 2046 190 0 (am_mem L ext tx tt fe I G) [some (Value.ref 55), some (Value.int a)] []) (fun v M => v = some (.int (-2)) ∧ M = am_mem L ext tx tt fe I G) := by
        refine wp_e e_190_0 (wp_p s_200 (wp_e e_190_1 (wp_t (bI_f (fun e => h ?_)) (wp_e e_190_2 (wp_r ⟨rfl, rfl⟩)))))
        obtain ⟨j, j1, rfl⟩ := ix_le (n := 3) (by decide) e
        exact ⟨nI_pos (by omega), nI_lt (b := 4) (by omega) (by decide)⟩
      exact wp_e e_192_0 (wp_p (wp_eq r190) (wp_e e_192_1 (wp_f (by decide) (wp_e e_192_2 (wp_r (qm_of (mf_r _ _ _)))))))
