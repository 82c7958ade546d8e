/-! PURE, 29: POURED, FOLLOW, WHICH, NEXT -/
def bps (s : St) (p : Nat) : PS := itr (fby (ss1 s) (ss2 s) (sC s) (skd s p) (snu s p)) (sD s)
def bw (s : St) (p j : Nat) : Nat := wby (ss1 s) (ss2 s) (sC s) (skd s p) (snu s p) j
theorem bw_lt {s : St} (hs : Sok s) {p j : Nat} : bw s p j < sC s := gz_lt hs.1.1.1
section B29
variable {d L : Nat} {ext : List (Nat × Nat)} {tx : Nat → Nat} {tt : Nat} {fe : Nat → Nat → Option Nat} {I : Nat → Nat → Int32} {G : Nat → Nat → Int64}
theorem Fx8 {p : Nat} (h : p < 6) : am_Fx tx tt fe 8 p = some (28 + p) := by
  obtain rfl | rfl | rfl | rfl | rfl | rfl : p = 0 ∨ p = 1 ∨ p = 2 ∨ p = 3 ∨ p = 4 ∨ p = 5 := by omega
  all_goals rfl
theorem c_104 {s : St} (hs : Sok s) (h : CB s L ext tx tt fe I) {p : Nat} (hp : p < sPn s) : wp (am_R (d + 4) 104 0 (am_mem L ext tx tt fe I G) [some (Value.ref 5), some (Value.ref (28 + p)), none, none] []) (fun v M => v = none ∧ ∃ I' tt', M = am_mem L ext tx tt' fe I' G ∧ fr (21 :: FP) I I' ∧ PW L ext tx tt' fe I' (nI (sC s)) (nI (sD s)) (stw s (sR s)).1 (stw s (sR s)).2.1 (stw s (sR s)).2.2 (bps s p) ∧ ∀ j, j < sD s → I' 21 j = nI (bw s p j)) := by
  obtain ⟨k1, k2⟩ := hs.1.2.2.2.2.2.2.2.1 p hp
  obtain ⟨g1, g2⟩ := h.2.1.2.2.2.2.2.2.2 p hp
  have hp6 := hs.1.2.2.2.1
  refine wp_m (s_104 (d := d) (G := G) (EW_of hs h) (p := 28 + p) (by omega) g1 k1 g2 k2) ?_
  rintro v M ⟨rfl, I', rfl, f1, w1, r1⟩
  exact ⟨rfl, I', _, rfl, f1, w1, r1⟩
theorem m_185 {s : St} (hs : Sok s) (h : MJ s I) {p : Nat} (hp : p < sPn s) (hd : 70 ≤ d) : wp (am_R (d + 4) 185 0 (am_mem L ext tx tt fe I G) [some (Value.ref 55), some (Value.int (nI p)), none] []) (fun v M => v = none ∧ ∃ I' G', M = am_mem L ext tx tt fe I' G' ∧ mf (67 :: SP) TP I I' ∧ psM I' (bps s p) ∧ ∀ j, j < sD s → I' 67 j = nI (bw s p j)) := by
  obtain ⟨k1, k2⟩ := hs.1.2.2.2.2.2.2.2.1 p hp
  obtain ⟨g1, g2⟩ := h.1.2.2.2.2.2.2.2.2.1 p hp
  have hp6 := hs.1.2.2.2.1
  exact s_185 (MW_of hs h) (by omega) g1 k1 g2 k2 hd
theorem qm_67 {I' : Nat → Nat → Int32} {G' : Nat → Nat → Int64} {r : Value} (h : mf (67 :: SP) TP I I') : qM L ext tx tt fe I r (some r) (am_mem L ext tx tt fe I' G') := ⟨rfl, I', G', rfl, mf_m h (by decide) (by decide)⟩
theorem qc_21 {I' : Nat → Nat → Int32} {r : Value} {tt' : Nat} (h : fr (21 :: FP) I I') : qC L ext tx fe I G r (some r) (am_mem L ext tx tt' fe I' G) := ⟨rfl, tt', I', rfl, fr_m h (by decide)⟩
end B29
theorem m1_or {v : Int32} {n : Nat} (hn : n < 2 ^ 31) : (¬ v.toInt64 < (-1 : Int64) ∧ ¬ (nI n - 1).toInt64 < v.toInt64) ↔ (v = -1 ∨ (¬ v < 0 ∧ v < nI n)) := by
  rw [show (-1 : Int64) = (-1 : Int32).toInt64 from rfl, in_i, m1_lt hn, fa_lt, fa_lt, fa_lt, fa_eq, nI_toInt hn]
  have a : (0 : Int32).toInt = 0 := rfl
  have b : (-1 : Int32).toInt = -1 := rfl
  rw [a, b]
  omega
/-- POURED -/
theorem op_poured {s : St} (hs : Sok s) {a b : Int32} : OP s (fun M => (am_R (2047) 101 0 M [some (Value.ref 5), some (Value.int a), some (Value.int b)] [])) (fun M => (am_R (2047) 186 0 M [some (Value.ref 55), some (Value.int a), some (Value.int b)] [])) := by
  have hs0 := hs.1
  obtain ⟨⟨C0, C4, D24⟩, -, -, P6, -⟩ := hs0
  by_cases h : (¬ a < 0 ∧ a < nI (sPn s)) ∧ (b = -1 ∨ (¬ b < 0 ∧ b < nI (sD s)))
  · obtain ⟨p, hp, rfl⟩ := ix_lt (by omega) h.1
    have hcl := nI_clamp (n := p) (by omega)
    have hib := ib (n := p) (N := 6) (by omega) (by decide)
    have hC : ∀ L ext tx tt fe I G (r : Value), CB s L ext tx tt fe I → (∀ I' tt', fr (21 :: FP) I I' → PW L ext tx tt' fe I' (nI (sC s)) (nI (sD s)) (stw s (sR s)).1 (stw s (sR s)).2.1 (stw s (sR s)).2.2 (bps s p) → (∀ j, j < sD s → I' 21 j = nI (bw s p j)) → wp (am_R 2047 101 8 (am_mem L ext tx tt' fe I' G) [some (Value.ref 5), some (Value.int (nI p)), some (Value.int b)] []) (qC L ext tx fe I G r)) → wp (am_R 2047 101 0 (am_mem L ext tx tt fe I G) [some (Value.ref 5), some (Value.int (nI p)), some (Value.int b)] []) (qC L ext tx fe I G r) := by
      intro L ext tx tt fe I G r hb k
      have t6 : wp (am_R 2047 101 6 (am_mem L ext tx tt fe I G) [some (Value.ref 5), some (Value.int (nI p)), some (Value.int b)] []) (qC L ext tx fe I G r) := by
        refine wp_e e_101_6 (wp_c (by rw [hib]; rfl) ?_)
        rw [hcl, Fx8 (by omega)]
        refine wp_e e_101_7 (wp_b (c_104 (d := 2042) hs hb hp) ?_)
        rintro v M ⟨rfl, I', tt', rfl, g1, w1, r1⟩
        exact k I' tt' g1 w1 r1
      refine wp_e e_101_0 (wp_p s_78 (wp_e e_101_1 (wp_f (bI_y (by rw [hb.2.1.2.2.1]; exact h.1)) (wp_e e_101_2 (wp_i (fun _ => t6) (fun h2 => wp_e e_101_3 (wp_p s_77 (wp_e e_101_4 (wp_f (bI_y ?_) t6)))))))))
      rw [hb.2.1.2.1]
      exact h.2.resolve_left h2
    have hM : ∀ L ext tx tt fe I G (r : Value), MJ s I → (∀ I' G', mf (67 :: SP) TP I I' → psM I' (bps s p) → (∀ j, j < sD s → I' 67 j = nI (bw s p j)) → wp (am_R 2047 186 6 (am_mem L ext tx tt fe I' G') [some (Value.ref 55), some (Value.int (nI p)), some (Value.int b)] []) (qM L ext tx tt fe I r)) → wp (am_R 2047 186 0 (am_mem L ext tx tt fe I G) [some (Value.ref 55), some (Value.int (nI p)), some (Value.int b)] []) (qM L ext tx tt fe I r) := by
      intro L ext tx tt fe I G r hb k
      refine wp_e e_186_0 (wp_p (s_132 hb.1.2.2.1 (by omega)) (wp_e e_186_1 (wp_f (bI_y h.1) (wp_e e_186_2 ?_))))
      rw [hb.1.2.1]
      refine wp_p s_127 (wp_e e_186_3 (wp_f (bI_y ((m1_or (by omega)).mpr h.2)) (wp_e e_186_5 (wp_b (m_185 (d := 2042) hs hb hp (by decide)) ?_))))
      rintro v M ⟨rfl, I', G', rfl, g1, w1, r1⟩
      exact k I' G' g1 w1 r1
    by_cases hm : b = -1
    · refine OP_q hs (.int (un (bps s p).2.1 (sC s))) (fun L ext tx tt fe I G hb => hC L ext tx tt fe I G _ hb (fun I' tt' g1 w1 r1 => ?_)) (fun L ext tx tt fe I G hb => hM L ext tx tt fe I G _ hb (fun I' G' g1 w1 r1 => ?_))
      · refine wp_e e_101_8 (wp_t hm (wp_e e_101_9 (wp_p (s_10 (d := 2044) w1.2.2.2.1 C0 C4) (wp_e e_101_10 (wp_e e_101_12 (wp_r ?_))))))
        rw [un_c C0 (fun j hj => w1.2.2.2.2.2.2.1 j (by omega))]
        exact qc_21 g1
      · have m1 := MW_f (MW_of hs hb) g1 (by decide) (by decide) (by decide) (by decide) (by decide)
        refine wp_e e_186_6 (wp_t hm (wp_e e_186_7 (wp_p (s_164 m1.1 C0 C4) (wp_e e_186_8 (wp_e e_186_10 (wp_r ?_))))))
        rw [un_c C0 (fun j hj => w1.2.1 j (by omega))]
        exact qm_67 g1
    · obtain ⟨j, hj, rfl⟩ := ix_lt (by omega) (h.2.resolve_left hm)
      have hjb := ib (n := j) (N := 24) (by omega) (by decide)
      refine OP_q hs (.int (nI (bw s p j))) (fun L ext tx tt fe I G hb => hC L ext tx tt fe I G _ hb (fun I' tt' g1 w1 r1 => ?_)) (fun L ext tx tt fe I G hb => hM L ext tx tt fe I G _ hb (fun I' G' g1 w1 r1 => ?_))
      · refine wp_e e_101_8 (wp_f hm (wp_e e_101_11 (wp_c (by rw [hjb]; rfl) (wp_e e_101_12 (wp_r ?_)))))
        rw [nI_clamp (n := j) (by omega), r1 j hj]
        exact qc_21 g1
      · refine wp_e e_186_6 (wp_f hm (wp_e e_186_9 (wp_c (by rw [hjb]; rfl) (wp_e e_186_10 (wp_r ?_)))))
        rw [nI_clamp (n := j) (by omega), r1 j hj]
        exact qm_67 g1
  · refine OP_q hs (.int (-2)) (fun L ext tx tt fe I G hb => ?_) (fun L ext tx tt fe I G hb => ?_)
    · have fin : wp (am_R 2047 101 5 (am_mem L ext tx tt fe I G) [some (Value.ref 5), some (Value.int a), some (Value.int b)] []) (qC L ext tx fe I G (.int (-2))) := wp_e e_101_5 (wp_r (qc_of (fr_r _ _)))
      refine wp_e e_101_0 (wp_p s_78 (wp_e e_101_1 (wp_i (fun _ => fin) (fun h1 => ?_))))
      have h1 := bI_n h1
      rw [hb.2.1.2.2.1] at h1
      refine wp_e e_101_2 (wp_f (fun e => h ⟨h1, Or.inl e⟩) (wp_e e_101_3 (wp_p s_77 (wp_e e_101_4 (wp_t (bI_f ?_) fin)))))
      rw [hb.2.1.2.1]
      exact fun e => h ⟨h1, Or.inr e⟩
    · have fin : wp (am_R 2047 186 4 (am_mem L ext tx tt fe I G) [some (Value.ref 55), some (Value.int a), some (Value.int b)] []) (qM L ext tx tt fe I (.int (-2))) := wp_e e_186_4 (wp_r (qm_of (mf_r _ _ _)))
      refine wp_e e_186_0 (wp_p (s_132 hb.1.2.2.1 (by omega)) (wp_e e_186_1 (wp_i (fun _ => fin) (fun h1 => wp_e e_186_2 ?_))))
      rw [hb.1.2.1]
      exact wp_p s_127 (wp_e e_186_3 (wp_t (bI_f (fun e => h ⟨bI_n h1, (m1_or (by omega)).mp e⟩)) fin))
/-- the best pourer so far -/
def wst (s : St) : Nat → Int32 × Int32
  | 0 => (-1, -1)
  | p + 1 => if (wst s p).1 = -1 ∨ un (bps s p).2.1 (sC s) < (wst s p).2 then (nI p, un (bps s p).2.1 (sC s)) else wst s p
/-- WHICH -/
theorem op_which {s : St} (hs : Sok s) {a : Int32} : OP s (fun M => (am_R (2047) 103 0 M [some (Value.ref 5), some (Value.int a), none, none, none, none] [])) (fun M => (am_R (2047) 188 0 M [some (Value.ref 55), some (Value.int a), none, none, none, none] [])) := by
  have hs0 := hs.1
  obtain ⟨⟨C0, C4, D24⟩, -, -, P6, -⟩ := hs0
  by_cases h : ¬ a < 0 ∧ ¬ nI 1 < a
  · refine OP_q hs (.int (if a = 0 then (wst s (sPn s)).1 else (wst s (sPn s)).2)) (fun L ext tx tt fe I G hb => ?_) (fun L ext tx tt fe I G hb => ?_)
    · refine wp_e e_103_0 (wp_f h.1 (wp_e e_103_1 (wp_f h.2 (wp_e e_103_3 ?_))))
      refine wp_loop (sPn s) (fun k (J : (Nat → Nat → Int32) × Nat) => fr (21 :: FP) I J.1) (fun k J => wp (am_R 2047 103 4 (am_mem L ext tx J.2 fe J.1 G) [some (Value.ref 5), some (Value.int a), some (Value.int (wst s k).1), some (Value.int (wst s k).2), some (Value.int (nI k)), none] []) _) ?_ ?_ 0 (I, tt) (Nat.zero_le _) (fr_r _ _)
      · rintro ⟨J, t⟩ f1
        have b1 := CB_f (r := t) hs hb (fr_m f1 (by decide))
        refine wp_e e_103_4 ?_
        rw [b1.2.1.2.2.1]
        refine wp_f (nI_nlt (Nat.le_refl _) (by omega)) (wp_e e_103_12 ?_)
        by_cases e : a = 0
        · rw [if_pos (c := a = 0) (t := (wst s (sPn s)).1) e]
          exact wp_t e (wp_e e_103_13 (wp_e e_103_15 (wp_r (qc_21 f1))))
        · rw [if_neg (c := a = 0) (t := (wst s (sPn s)).1) e]
          exact wp_f e (wp_e e_103_14 (wp_e e_103_15 (wp_r (qc_21 f1))))
      · rintro k ⟨J, t⟩ hk f1 hgo
        have b1 := CB_f (r := t) hs hb (fr_m f1 (by decide))
        refine wp_e e_103_4 ?_
        rw [b1.2.1.2.2.1]
        refine wp_t (nI_lt hk (by omega)) (wp_e e_103_5 (wp_c (by rw [ib (n := k) (N := 6) (by omega) (by decide)]; rfl) ?_))
        rw [nI_clamp (n := k) (by omega), Fx8 (by omega)]
        refine wp_e e_103_6 (wp_b (c_104 (d := 2042) hs b1 hk) ?_)
        rintro v M ⟨rfl, I', tt', rfl, g1, w1, r1⟩
        refine wp_e e_103_7 (wp_p (s_10 (d := 2044) w1.2.2.2.1 C0 C4) (wp_e e_103_8 ?_))
        rw [un_c C0 (fun j hj => w1.2.2.2.2.2.2.1 j (by omega))]
        have go := hgo (I', tt') (fr_t f1 g1)
        have yes : (wst s k).1 = -1 ∨ un (bps s k).2.1 (sC s) < (wst s k).2 → wp (am_R 2047 103 10 (am_mem L ext tx tt' fe I' G) [some (Value.ref 5), some (Value.int a), some (Value.int (wst s k).1), some (Value.int (wst s k).2), some (Value.int (nI k)), some (Value.int (un (bps s k).2.1 (sC s)))] []) (qC L ext tx fe I G (.int (if a = 0 then (wst s (sPn s)).1 else (wst s (sPn s)).2))) := by
          intro hy
          refine wp_e e_103_10 (wp_e e_103_11 ?_)
          rw [show wst s (k + 1) = (nI k, un (bps s k).2.1 (sC s)) from if_pos hy] at go
          rw [nI_1]
          exact wp_l (lq_e (lq_e (lq_e (lq_e (lq_e (lq_n lq_0)))))) go
        refine wp_i (fun e => yes (Or.inl e)) (fun e1 => wp_e e_103_9 (wp_i (fun e => yes (Or.inr e)) (fun e2 => wp_e e_103_11 ?_)))
        rw [show wst s (k + 1) = wst s k from if_neg (fun e => e.elim e1 e2)] at go
        rw [nI_1]
        exact wp_l (lq_e (lq_e (lq_e (lq_e (lq_e (lq_n lq_0)))))) go
    · refine wp_e e_188_0 (wp_p s_127 (wp_e e_188_1 (wp_f (bI_y ((in_k (k := 1) (by decide)).mpr h)) (wp_e e_188_3 ?_))))
      refine wp_loop (sPn s) (fun k (J : (Nat → Nat → Int32) × (Nat → Nat → Int64)) => mf (67 :: SP) TP I J.1) (fun k J => wp (am_R 2047 188 4 (am_mem L ext tx tt fe J.1 J.2) [some (Value.ref 55), some (Value.int a), some (Value.int (wst s k).1), some (Value.int (wst s k).2), some (Value.int (nI k)), none] []) _) ?_ ?_ 0 (I, G) (Nat.zero_le _) (mf_r _ _ _)
      · rintro ⟨J, G3⟩ f1
        have b1 := MJ_f hb (mf_m f1 (by decide) (by decide))
        refine wp_e e_188_4 ?_
        rw [b1.1.2.2.1]
        refine wp_f (nI_nlt (Nat.le_refl _) (by omega)) (wp_e e_188_11 ?_)
        by_cases e : a = 0
        · rw [if_pos (c := a = 0) (t := (wst s (sPn s)).1) e]
          exact wp_t e (wp_e e_188_12 (wp_e e_188_14 (wp_r (qm_67 f1))))
        · rw [if_neg (c := a = 0) (t := (wst s (sPn s)).1) e]
          exact wp_f e (wp_e e_188_13 (wp_e e_188_14 (wp_r (qm_67 f1))))
      · rintro k ⟨J, G3⟩ hk f1 hgo
        have b1 := MJ_f hb (mf_m f1 (by decide) (by decide))
        refine wp_e e_188_4 ?_
        rw [b1.1.2.2.1]
        refine wp_t (nI_lt hk (by omega)) (wp_e e_188_5 (wp_b (m_185 (d := 2042) hs b1 hk (by decide)) ?_))
        rintro v M ⟨rfl, I', G', rfl, g1, w1, r1⟩
        have m1 := MW_f (MW_of hs b1) g1 (by decide) (by decide) (by decide) (by decide) (by decide)
        refine wp_e e_188_6 (wp_p (s_164 m1.1 C0 C4) (wp_e e_188_7 ?_))
        rw [un_c C0 (fun j hj => w1.2.1 j (by omega))]
        have go := hgo (I', G') (mf_t f1 g1)
        have yes : (wst s k).1 = -1 ∨ un (bps s k).2.1 (sC s) < (wst s k).2 → wp (am_R 2047 188 9 (am_mem L ext tx tt fe I' G') [some (Value.ref 55), some (Value.int a), some (Value.int (wst s k).1), some (Value.int (wst s k).2), some (Value.int (nI k)), some (Value.int (un (bps s k).2.1 (sC s)))] []) (qM L ext tx tt fe I (.int (if a = 0 then (wst s (sPn s)).1 else (wst s (sPn s)).2))) := by
          intro hy
          refine wp_e e_188_9 (wp_e e_188_10 ?_)
          rw [show wst s (k + 1) = (nI k, un (bps s k).2.1 (sC s)) from if_pos hy] at go
          rw [nI_1]
          exact wp_l (lq_e (lq_e (lq_e (lq_e (lq_e (lq_n lq_0)))))) go
        refine wp_i (fun e => yes (Or.inl e)) (fun e1 => wp_e e_188_8 (wp_i (fun e => yes (Or.inr e)) (fun e2 => wp_e e_188_10 ?_)))
        rw [show wst s (k + 1) = wst s k from if_neg (fun e => e.elim e1 e2)] at go
        rw [nI_1]
        exact wp_l (lq_e (lq_e (lq_e (lq_e (lq_e (lq_n lq_0)))))) go
  · refine OP_q hs (.int (-2)) (fun L ext tx tt fe I G hb => ?_) (fun L ext tx tt fe I G hb => ?_)
    · have fin : wp (am_R 2047 103 2 (am_mem L ext tx tt fe I G) [some (Value.ref 5), some (Value.int a), none, none, none, none] []) (qC L ext tx fe I G (.int (-2))) := wp_e e_103_2 (wp_r (qc_of (fr_r _ _)))
      exact wp_e e_103_0 (wp_i (fun _ => fin) (fun h1 => wp_e e_103_1 (wp_i (fun _ => fin) (fun h2 => absurd ⟨h1, h2⟩ h))))
    · exact wp_e e_188_0 (wp_p s_127 (wp_e e_188_1 (wp_t (bI_f (fun e => h ((in_k (k := 1) (by decide)).mp e))) (wp_e e_188_2 (wp_r (qm_of (mf_r _ _ _)))))))
