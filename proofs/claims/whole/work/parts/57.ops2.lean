/-! PURE, 27: ALL, MEAN, DRAWN, CHANCE -/
theorem bI_n {p : Prop} [Decidable p] (h : ¬ bI p = 0) : p := Decidable.byContradiction (fun e => h (bI_0.mpr e))
theorem bI_y {p : Prop} [Decidable p] (h : p) : ¬ bI p = 0 := fun e => bI_0.mp e h
theorem ab_e (x : Int32) : (if 0 ≤ x then x else 0 - x) = if x < 0 then -x else x := by
  by_cases h : x < 0
  · rw [if_pos h, if_neg (fa_of_lt h).2.1, Int32.zero_sub]
  · rw [if_neg h, if_pos (fa_of_nlt h)]
theorem un_r {f : Nat → Int32} {B n : Nat} (hB : B < 2 ^ 31) (h0 : 0 < n) (h : ∀ c, c < n → ∃ m, m ≤ B ∧ f c = nI m) : ∃ u, u ≤ B ∧ un f n = nI u := by
  have key : ∀ k, k < n → ∃ a b, b ≤ a ∧ a ≤ B ∧ mxl f k = nI a ∧ mnl f k = nI b := by
    intro k
    induction k with
    | zero =>
      intro hk
      obtain ⟨m, m1, m2⟩ := h 0 hk
      exact ⟨m, m, Nat.le_refl m, m1, m2, m2⟩
    | succ k ih =>
      intro hk
      obtain ⟨a, b, h1, h2, h3, h4⟩ := ih (by omega)
      obtain ⟨m, m1, m2⟩ := h (k + 1) hk
      refine ⟨if a < m then m else a, if m < b then m else b, ?_, ?_, ?_, ?_⟩
      · split <;> split <;> omega
      · split <;> omega
      · show (if mxl f k < f (k + 1) then f (k + 1) else mxl f k) = _
        rw [h3, m2]
        by_cases e : a < m
        · rw [if_pos (nI_lt e (by omega)), if_pos e]
        · rw [if_neg (nI_nlt (by omega) (by omega)), if_neg e]
      · show (if f (k + 1) < mnl f k then f (k + 1) else mnl f k) = _
        rw [h4, m2]
        by_cases e : m < b
        · rw [if_pos (nI_lt e (by omega)), if_pos e]
        · rw [if_neg (nI_nlt (by omega) (by omega)), if_neg e]
  obtain ⟨a, b, h1, h2, h3, h4⟩ := key (n - 1) (by omega)
  refine ⟨a - b, by omega, ?_⟩
  unfold un
  rw [h3, h4, pk_sub h1]
/-- what the model's cups are off by -/
theorem s_169o {d L : Nat} {ext : List (Nat × Nat)} {tx : Nat → Nat} {tt : Nat} {fe : Nat → Nat → Option Nat} {I : Nat → Nat → Int32} {G : Nat → Nat → Int64} {C D R n : Nat} {bt : Nat → Nat} {cs cd cl : List Int32} {t : PS} {b : Int32} {Q : Option Value → am_M → Prop} (hm : MW I C D R bt n cs cd cl) (hp : psM I t) (hd : 70 ≤ d) (hQ : ∀ I' G', mf SP TY I I' → Q (some (.int (odf (nI C) (nI D) cl t C))) (am_mem L ext tx tt fe I' G')) : wp (am_R (d + 2) 169 15 (am_mem L ext tx tt fe I G) [some (Value.ref 55), some (Value.int b), none, none, none] []) Q := by
  have C4 := hm.2.2.2.1.2.1
  refine wp_e e_169_15 ?_
  refine wp_loop C (fun k (J : (Nat → Nat → Int32) × (Nat → Nat → Int64)) => mf SP TY I J.1 ∧ psM J.1 t) (fun k J => wp (am_R (d + 2) 169 16 (am_mem L ext tx tt fe J.1 J.2) [some (Value.ref 55), some (Value.int b), some (Value.int (odf (nI C) (nI D) cl t k)), some (Value.int (nI k)), none] []) Q) ?_ ?_ 0 (I, G) (Nat.zero_le _) ⟨mf_r _ _ _, hp⟩
  · rintro ⟨J, G3⟩ ⟨g3, p3⟩
    have m3 := MW_f hm g3 (by decide) (by decide) (by decide) (by decide) (by decide)
    refine wp_e e_169_16 ?_
    rw [m3.1]
    exact wp_f (nI_nlt (Nat.le_refl _) (by omega)) (wp_e e_169_22 (wp_r (hQ J G3 g3)))
  · rintro k ⟨J, G3⟩ hk ⟨g3, p3⟩ hgo
    have m3 := MW_f hm g3 (by decide) (by decide) (by decide) (by decide) (by decide)
    have hib := ib (n := k) (N := 4) (by omega) (by decide)
    refine wp_e e_169_16 ?_
    rw [m3.1]
    refine wp_t (nI_lt hk (by omega)) (wp_e e_169_17 (wp_c (by rw [hib]; rfl) ?_))
    rw [nI_clamp (n := k) (by omega), m3.2.1, p3.1 k (by omega), p3.2.1 k (by omega)]
    refine wp_b (s_157 (which := 2) (d := d) m3 hd (by decide)) ?_
    rintro v M ⟨rfl, I4, G4, rfl, f4⟩
    have nx : ∀ x y : Int32, y = (if x < 0 then -x else x) → x = t.2.1 k - wi 9999 (wv (nmf (nI D) (nI C) (nI D) (nI k) (t.1 k) (nI k)) cl []) → odf (nI C) (nI D) cl t k + y = odf (nI C) (nI D) cl t (k + 1) := by
      intro x y hy hx
      show _ = odf (nI C) (nI D) cl t k + _
      rw [ab_e, ← hx, hy]
    have go := hgo (I4, G4) ⟨mf_t g3 (mf_f5 f4 (by decide)), psM_f p3 (f4.1 65 (by decide)) (f4.1 66 (by decide)) (fun q q1 q2 => f4.2 q (by unfold TY; simp; omega))⟩
    refine wp_e e_169_18 (wp_i (fun h => wp_e e_169_19 (wp_e e_169_21 ?_)) (fun h => wp_e e_169_20 (wp_e e_169_21 ?_)))
    · rw [nI_1, nx _ _ (if_pos h).symm rfl]
      exact wp_l (lq_e (lq_e (lq_e (lq_e (lq_n lq_0))))) go
    · rw [nI_1, nx _ _ (if_neg h).symm rfl]
      exact wp_l (lq_e (lq_e (lq_e (lq_e (lq_n lq_0))))) go
/-- ALL -/
theorem op_all {s : St} (hs : Sok s) {a : Int32} : OP s (fun M => (am_R (2047) 85 0 M [some (Value.ref 5), some (Value.int a)] [])) (fun M => (am_R (2047) 169 0 M [some (Value.ref 55), some (Value.int a), none, none, none] [])) := by
  by_cases h : ¬ a < 0 ∧ ¬ nI 4 < a
  · have hs0 := hs.1
    obtain ⟨⟨C0, C4, D24⟩, -⟩ := hs0
    obtain ⟨w, hw, rfl⟩ := ix_le (by decide) h
    have hC : ∀ L ext tx tt fe I G (r : Value), CB s L ext tx tt fe I → (∀ I' tt', fr FP I I' → PW L ext tx tt' fe I' (nI (sC s)) (nI (sD s)) (stw s (sR s)).1 (stw s (sR s)).2.1 (stw s (sR s)).2.2 (rps s) → wp (am_R 2047 85 4 (am_mem L ext tx tt' fe I' G) [some (Value.ref 5), some (Value.int (nI w))] []) (qC L ext tx fe I G r)) → wp (am_R 2047 85 0 (am_mem L ext tx tt fe I G) [some (Value.ref 5), some (Value.int (nI w))] []) (qC L ext tx fe I G r) := by
      intro L ext tx tt fe I G r hb k
      refine wp_e e_85_0 (wp_f h.1 (wp_e e_85_1 (wp_f h.2 (wp_e e_85_3 (wp_b (c_92 (d := 2041) hs hb) ?_)))))
      rintro v M ⟨rfl, I', rfl, f1, w1⟩
      exact k I' _ f1 w1
    have hM0 : ∀ L ext tx tt fe I G (r : Value), MJ s I → wp (am_R 2047 169 3 (am_mem L ext tx tt fe I G) [some (Value.ref 55), some (Value.int (nI w)), none, none, none] []) (qM L ext tx tt fe I r) → wp (am_R 2047 169 0 (am_mem L ext tx tt fe I G) [some (Value.ref 55), some (Value.int (nI w)), none, none, none] []) (qM L ext tx tt fe I r) := by
      intro L ext tx tt fe I G r hb k
      exact wp_e e_169_0 (wp_p s_127 (wp_e e_169_1 (wp_f (bI_y ((in_k (k := 4) (by decide)).mpr h)) k)))
    have hM : ∀ L ext tx tt fe I G (r : Value), MJ s I → ¬ nI w = 4 → (∀ I' G', mf SP TP I I' → psM I' (rps s) → wp (am_R 2047 169 7 (am_mem L ext tx tt fe I' G') [some (Value.ref 55), some (Value.int (nI w)), none, none, none] []) (qM L ext tx tt fe I r)) → wp (am_R 2047 169 0 (am_mem L ext tx tt fe I G) [some (Value.ref 55), some (Value.int (nI w)), none, none, none] []) (qM L ext tx tt fe I r) := by
      intro L ext tx tt fe I G r hb h4 k
      refine hM0 L ext tx tt fe I G r hb (wp_e e_169_3 (wp_f h4 (wp_e e_169_6 (wp_b (m_165 (d := 2042) hs hb (by decide)) ?_))))
      rintro v M ⟨rfl, I', G', rfl, f1, w1⟩
      exact k I' G' f1 w1
    obtain rfl | rfl | rfl | rfl | rfl : w = 0 ∨ w = 1 ∨ w = 2 ∨ w = 3 ∨ w = 4 := by omega
    · refine OP_q hs (.int (un (rps s).2.1 (sC s))) (fun L ext tx tt fe I G hb => hC L ext tx tt fe I G _ hb (fun I' tt' f1 w1 => ?_)) (fun L ext tx tt fe I G hb => hM L ext tx tt fe I G _ hb (by decide) (fun I' G' f1 w1 => ?_))
      · refine wp_e e_85_4 (wp_t rfl (wp_e e_85_5 (wp_p (s_10 (d := 2044) w1.2.2.2.1 C0 C4) (wp_e e_85_6 (wp_r ?_)))))
        rw [un_c C0 (fun j hj => w1.2.2.2.2.2.2.1 j (by omega))]
        exact qc_of f1
      · have m1 := MW_f (MW_of hs hb) f1 (by decide) (by decide) (by decide) (by decide) (by decide)
        refine wp_e e_169_7 (wp_f (by decide) (wp_e e_169_8 (wp_t rfl (wp_e e_169_9 (wp_p (s_164 m1.1 C0 C4) (wp_e e_169_10 (wp_e e_169_14 (wp_r ?_))))))))
        rw [un_c C0 (fun j hj => w1.2.1 j (by omega))]
        exact qm_of f1
    · refine OP_q hs (.int (odf (nI (sC s)) (nI (sD s)) (stw s (sR s)).2.2 (rps s) (sC s))) (fun L ext tx tt fe I G hb => hC L ext tx tt fe I G _ hb (fun I' tt' f1 w1 => ?_)) (fun L ext tx tt fe I G hb => hM L ext tx tt fe I G _ hb (by decide) (fun I' G' f1 w1 => ?_))
      · refine wp_e e_85_4 ?_
        rw [if_neg (show ¬ nI 1 = 0 by decide)]
        refine wp_t rfl (wp_e e_85_7 (wp_b (s_11 (d := 2042) w1 C4) ?_))
        rintro v M ⟨rfl, I2, rfl, f2, -⟩
        exact wp_e e_85_8 (wp_r (qc_of (fr_t f1 f2)))
      · have m1 := MW_f (MW_of hs hb) f1 (by decide) (by decide) (by decide) (by decide) (by decide)
        exact wp_e e_169_7 (wp_t rfl (s_169o (d := 2045) m1 w1 (by decide) (fun I2 G2 f2 => qm_of (mf_t f1 (mf_m f2 (by decide) (by decide))))))
    · refine OP_q hs (.int (rps s).2.2.2.1) (fun L ext tx tt fe I G hb => hC L ext tx tt fe I G _ hb (fun I' tt' f1 w1 => ?_)) (fun L ext tx tt fe I G hb => hM L ext tx tt fe I G _ hb (by decide) (fun I' G' f1 w1 => ?_))
      · refine wp_e e_85_4 ?_
        rw [if_neg (show ¬ nI 2 = 0 by decide), if_neg (show ¬ nI 2 = 1 by decide)]
        refine wp_t rfl (wp_e e_85_9 (wp_r ?_))
        rw [w1.2.2.2.2.2.2.2.2.1]
        exact qc_of f1
      · refine wp_e e_169_7 (wp_f (by decide) (wp_e e_169_8 (wp_f (by decide) (wp_e e_169_11 (wp_t rfl (wp_e e_169_12 (wp_e e_169_14 (wp_r ?_))))))))
        rw [w1.2.2.2.1]
        exact qm_of f1
    · refine OP_q hs (.int (rps s).2.2.2.2) (fun L ext tx tt fe I G hb => hC L ext tx tt fe I G _ hb (fun I' tt' f1 w1 => ?_)) (fun L ext tx tt fe I G hb => hM L ext tx tt fe I G _ hb (by decide) (fun I' G' f1 w1 => ?_))
      · refine wp_e e_85_4 ?_
        rw [if_neg (show ¬ nI 3 = 0 by decide), if_neg (show ¬ nI 3 = 1 by decide), if_neg (show ¬ nI 3 = 2 by decide)]
        refine wp_t rfl (wp_e e_85_10 (wp_r ?_))
        rw [w1.2.2.2.2.2.2.2.2.2]
        exact qc_of f1
      · refine wp_e e_169_7 (wp_f (by decide) (wp_e e_169_8 (wp_f (by decide) (wp_e e_169_11 (wp_f (by decide) (wp_e e_169_13 (wp_e e_169_14 (wp_r ?_))))))))
        rw [w1.2.2.2.2]
        exact qm_of f1
    · refine OP_q hs (.int (gep (fun j => alq (fun c => sop (srow s) (nI c) j (sD s)) (sC s)) 5 0)) (fun L ext tx tt fe I G hb => hC L ext tx tt fe I G _ hb (fun I' tt' f1 w1 => ?_)) (fun L ext tx tt fe I G hb => hM0 L ext tx tt fe I G _ hb ?_)
      · refine wp_e e_85_4 ?_
        rw [if_neg (show ¬ nI 4 = 0 by decide), if_neg (show ¬ nI 4 = 1 by decide), if_neg (show ¬ nI 4 = 2 by decide)]
        refine wp_f (by decide) (wp_e e_85_11 (wp_p (s_94 (d := 2044) (C := sC s) (D := sD s) (row := srow s) (by rw [f1 5 (by decide)]; exact hb.2.1.1) C0 C4 (by rw [f1 5 (by decide)]; exact hb.2.1.2.1) D24 (fun k hk => ?_)) (wp_e e_85_12 (wp_r (qc_of f1)))))
        rw [f1 6 (by decide)]
        exact ⟨hb.2.1.2.2.2.2.2.1 k hk, hs.1.2.2.2.2.2.1 k hk⟩
      · exact wp_e e_169_3 (wp_t rfl (wp_e e_169_4 (wp_p (s_167 (d := 2045) (C := sC s) (D := sD s) (row := srow s) hb.1.1 C0 C4 hb.1.2.1 D24 (fun k hk => ⟨hb.1.2.2.2.2.2.2.1 k hk, hs.1.2.2.2.2.2.1 k hk⟩)) (wp_e e_169_5 (wp_r (qm_of (mf_r _ _ _)))))))
  · refine OP_q hs (.int (-2)) (fun L ext tx tt fe I G hb => ?_) (fun L ext tx tt fe I G hb => ?_)
    · have fin : wp (am_R 2047 85 2 (am_mem L ext tx tt fe I G) [some (Value.ref 5), some (Value.int a)] []) (qC L ext tx fe I G (.int (-2))) := wp_e e_85_2 (wp_r (qc_of (fr_r _ _)))
      exact wp_e e_85_0 (wp_i (fun _ => fin) (fun h1 => wp_e e_85_1 (wp_i (fun _ => fin) (fun h2 => absurd ⟨h1, h2⟩ h))))
    · exact wp_e e_169_0 (wp_p s_127 (wp_e e_169_1 (wp_t (bI_f (fun e => h ((in_k (k := 4) (by decide)).mp e))) (wp_e e_169_2 (wp_r (qm_of (mf_r _ _ _)))))))
theorem pt_i {v : Int32} : (v = 0 ∨ v = 1) ↔ (¬ v < 0 ∧ ¬ nI 1 < v) := by
  constructor
  · rintro (rfl | rfl) <;> decide
  · intro h
    obtain ⟨j, h1, rfl⟩ := ix_le (by decide) h
    obtain rfl | rfl : j = 0 ∨ j = 1 := by omega
    · exact Or.inl rfl
    · exact Or.inr rfl
/-- MEAN -/
theorem op_mean {s : St} (hs : Sok s) {a b : Int32} : OP s (fun M => (am_R (2047) 86 0 M [some (Value.ref 5), some (Value.int a), some (Value.int b), none] [])) (fun M => (am_R (2047) 171 0 M [some (Value.ref 55), some (Value.int a), some (Value.int b)] [])) := by
  have hs0 := hs.1
  obtain ⟨⟨C0, C4, D24⟩, -⟩ := hs0
  by_cases h : (¬ a < 0 ∧ a < nI (sC s)) ∧ (¬ b < 0 ∧ ¬ nI 1 < b)
  · obtain ⟨c, hc, rfl⟩ := ix_lt (by omega) h.1
    have hcl := nI_clamp (n := c) (by omega)
    have hib := ib (n := c) (N := 4) (by omega) (by decide)
    obtain ⟨f, f1, f2⟩ := (rps_ok hs).1 c (by omega)
    obtain ⟨m, m1, m2⟩ := (rps_ok hs).2.1 c (by omega)
    have hmB : m < 2 ^ 31 := by omega
    have hC : ∀ L ext tx tt fe I G (r : Value), CB s L ext tx tt fe I → (∀ I' tt', fr FP I I' → PW L ext tx tt' fe I' (nI (sC s)) (nI (sD s)) (stw s (sR s)).1 (stw s (sR s)).2.1 (stw s (sR s)).2.2 (rps s) → wp (am_R 2047 86 6 (am_mem L ext tx tt' fe I' G) [some (Value.ref 5), some (Value.int (nI c)), some (Value.int b), none] []) (qC L ext tx fe I G r)) → wp (am_R 2047 86 0 (am_mem L ext tx tt fe I G) [some (Value.ref 5), some (Value.int (nI c)), some (Value.int b), none] []) (qC L ext tx fe I G r) := by
      intro L ext tx tt fe I G r hb k
      refine wp_e e_86_0 (wp_p s_76 (wp_e e_86_1 (wp_f (bI_y (by rw [hb.2.1.1]; exact h.1)) (wp_e e_86_2 (wp_p s_99 (wp_e e_86_3 (wp_f (bI_y (pt_i.mpr h.2)) (wp_e e_86_5 (wp_b (c_92 (d := 2041) hs hb) ?_)))))))))
      rintro v M ⟨rfl, I', rfl, g1, w1⟩
      exact k I' _ g1 w1
    have hM : ∀ L ext tx tt fe I G (r : Value), MJ s I → (∀ I' G', mf SP TP I I' → psM I' (rps s) → wp (am_R 2047 171 6 (am_mem L ext tx tt fe I' G') [some (Value.ref 55), some (Value.int (nI c)), some (Value.int b)] []) (qM L ext tx tt fe I r)) → wp (am_R 2047 171 0 (am_mem L ext tx tt fe I G) [some (Value.ref 55), some (Value.int (nI c)), some (Value.int b)] []) (qM L ext tx tt fe I r) := by
      intro L ext tx tt fe I G r hb k
      refine wp_e e_171_0 (wp_p (s_131 hb.1.1 (by omega)) (wp_e e_171_1 (wp_f (bI_y h.1) (wp_e e_171_2 (wp_p s_127 (wp_e e_171_3 (wp_f (bI_y ((in_k (k := 1) (by decide)).mpr h.2)) (wp_e e_171_5 (wp_b (m_165 (d := 2042) hs hb (by decide)) ?_)))))))))
      rintro v M ⟨rfl, I', G', rfl, g1, w1⟩
      exact k I' G' g1 w1
    by_cases hf : f = 0
    · subst hf
      refine OP_q hs (.long (-4611686018427387904)) (fun L ext tx tt fe I G hb => hC L ext tx tt fe I G _ hb (fun I' tt' g1 w1 => ?_)) (fun L ext tx tt fe I G hb => hM L ext tx tt fe I G _ hb (fun I' G' g1 w1 => ?_))
      · refine wp_e e_86_6 (wp_c (by rw [hib]; rfl) ?_)
        rw [hcl, w1.2.2.2.2.2.1 c (by omega), f2]
        exact wp_t rfl (wp_e e_86_7 (wp_e e_86_9 (wp_r (qc_of g1))))
      · refine wp_e e_171_6 (wp_c (by rw [hib]; rfl) ?_)
        rw [hcl, w1.1 c (by omega), f2]
        exact wp_t rfl (wp_e e_171_7 (wp_e e_171_9 (wp_r (qm_of g1))))
    · refine OP_q hs (.long (lN (low m f b))) (fun L ext tx tt fe I G hb => hC L ext tx tt fe I G _ hb (fun I' tt' g1 w1 => ?_)) (fun L ext tx tt fe I G hb => hM L ext tx tt fe I G _ hb (fun I' G' g1 w1 => ?_))
      · refine wp_e e_86_6 (wp_c (by rw [hib]; rfl) ?_)
        rw [hcl, w1.2.2.2.2.2.1 c (by omega), f2]
        refine wp_f (nI_ne0 (by omega) (by omega)) (wp_e e_86_8 (wp_c (by rw [hib]; rfl) ?_))
        rw [hcl, w1.2.2.2.2.2.2.1 c (by omega), m2, nI_l hmB, nI_l (by omega)]
        exact wp_p (s_100 hmB (by omega) (by omega)) (wp_e e_86_9 (wp_r (qc_of g1)))
      · refine wp_e e_171_6 (wp_c (by rw [hib]; rfl) ?_)
        rw [hcl, w1.1 c (by omega), f2]
        refine wp_f (nI_ne0 (by omega) (by omega)) (wp_e e_171_8 (wp_c (by rw [hib]; rfl) ?_))
        rw [hcl, w1.1 c (by omega), w1.2.1 c (by omega), f2, m2, nI_l hmB, nI_l (by omega)]
        exact wp_p (s_170 hmB (by omega) (by omega)) (wp_e e_171_9 (wp_r (qm_of g1)))
  · refine OP_q hs (.long (-4611686018427387904)) (fun L ext tx tt fe I G hb => ?_) (fun L ext tx tt fe I G hb => ?_)
    · have fin : wp (am_R 2047 86 4 (am_mem L ext tx tt fe I G) [some (Value.ref 5), some (Value.int a), some (Value.int b), none] []) (qC L ext tx fe I G (.long (-4611686018427387904))) := wp_e e_86_4 (wp_r (qc_of (fr_r _ _)))
      refine wp_e e_86_0 (wp_p s_76 (wp_e e_86_1 (wp_i (fun _ => fin) (fun h1 => wp_e e_86_2 (wp_p s_99 (wp_e e_86_3 (wp_i (fun _ => fin) (fun h2 => ?_))))))))
      have h1 := bI_n h1
      rw [hb.2.1.1] at h1
      exact absurd ⟨h1, pt_i.mp (bI_n h2)⟩ h
    · have fin : wp (am_R 2047 171 4 (am_mem L ext tx tt fe I G) [some (Value.ref 55), some (Value.int a), some (Value.int b)] []) (qM L ext tx tt fe I (.long (-4611686018427387904))) := wp_e e_171_4 (wp_r (qm_of (mf_r _ _ _)))
      refine wp_e e_171_0 (wp_p (s_131 hb.1.1 (by omega)) (wp_e e_171_1 (wp_i (fun _ => fin) (fun h1 => wp_e e_171_2 (wp_p s_127 (wp_e e_171_3 (wp_i (fun _ => fin) (fun h2 => ?_))))))))
      exact absurd ⟨bI_n h1, (in_k (k := 1) (by decide)).mp (bI_n h2)⟩ h
