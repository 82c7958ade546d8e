/-! PURE, 28: DRAWN, CHANCE, POURED, WHICH -/
abbrev ss1 (s : St) : SF := sS (stw s (sR s)).1 (nI (sD s)) (nI (sC s))
abbrev ss2 (s : St) : SF := sS (stw s (sR s)).2.1 (nI (sD s)) (nI (sC s))
/-- uneven by lot -/
def UL (s : St) (seed : Int32) (o : Nat) : Int32 := un (itr (flot (ss1 s) (ss2 s) (srow s) seed (nI o)) (sD s)).2.1 (sC s)
theorem UL_r {s : St} (hs : Sok s) {seed : Int32} {o : Nat} (ho : o ≤ 20) : ∃ u, u ≤ 24456 ∧ UL s seed o = nI u := by
  obtain ⟨⟨C0, C4, D24⟩, -⟩ := hs.1
  have h := flot_ok (s := ss1 s) (d := ss2 s) (row := srow s) (seed := seed) rg_s rg_s (N := 24) (by omega) ho (fun k hk => row4 hs hk) _ D24
  refine un_r (by decide) C0 (fun c hc => ?_)
  obtain ⟨m, m1, m2⟩ := h.2.1 c (by omega)
  exact ⟨m, by omega, m2⟩
section B28
variable {d L : Nat} {ext : List (Nat × Nat)} {tx : Nat → Nat} {tt : Nat} {fe : Nat → Nat → Option Nat} {I : Nat → Nat → Int32} {G : Nat → Nat → Int64}
theorem c_116 {s : St} (hs : Sok s) (h : CB s L ext tx tt fe I) {seed : Int32} {o : Nat} (ho : o ≤ 20) : wp (am_R (d + 4) 116 0 (am_mem L ext tx tt fe I G) [some (Value.ref 5), some (Value.int seed), some (Value.int (nI o)), none, none] []) (fun v M => v = some (.int (UL s seed o)) ∧ ∃ I' tt', M = am_mem L ext tx tt' fe I' G ∧ fr FP I I') := by
  refine wp_m (s_116 (d := d) (G := G) (seed := seed) (EW_of hs h) ho) ?_
  rintro v M ⟨rfl, I', rfl, f1⟩
  exact ⟨rfl, I', _, rfl, f1⟩
theorem m_194 {s : St} (hs : Sok s) (h : MJ s I) {seed : Int32} {o : Nat} (hn : NW I (ss1 s) (ss2 s)) (ho : o ≤ 20) (hd : 70 ≤ d) : wp (am_R (d + 4) 194 0 (am_mem L ext tx tt fe I G) [some (Value.ref 55), some (Value.int seed), some (Value.int (nI o)), none, none] []) (fun v M => v = some (.int (UL s seed o)) ∧ ∃ I' G', M = am_mem L ext tx tt fe I' G' ∧ mf SP TP I I' ∧ NW I' (ss1 s) (ss2 s)) := s_194 (MW_of hs h) hn (fun k hk => ⟨h.1.2.2.2.2.2.2.1 k hk, hs.1.2.2.2.2.2.1 k hk⟩) ho hd
theorem qm_158 {I' : Nat → Nat → Int32} (f1 : fr [63, 64] I I') : mf SP TP I I' := ⟨fun a h5 hs => f1 a (fun e => hs (by unfold SP; simp at e ⊢; omega)), fun k _ => by rw [f1 55 (by decide)]⟩
end B28
/-- DRAWN -/
theorem op_drawn {s : St} (hs : Sok s) {a b : Int32} : OP s (fun M => (am_R (2047) 113 0 M [some (Value.ref 5), some (Value.int a), some (Value.int b)] [])) (fun M => (am_R (2047) 195 0 M [some (Value.ref 55), some (Value.int a), some (Value.int b)] [])) := by
  by_cases h : ¬ b < 0 ∧ ¬ nI 20 < b
  · obtain ⟨o, ho, rfl⟩ := ix_le (by decide) h
    refine OP_q hs (.int (UL s a o)) (fun L ext tx tt fe I G hb => ?_) (fun L ext tx tt fe I G hb => ?_)
    · refine wp_e e_113_0 (wp_p s_115 (wp_e e_113_1 (wp_f (bI_y h) (wp_e e_113_2 (wp_b (c_116 (d := 2042) hs hb ho) ?_)))))
      rintro v M ⟨rfl, I', tt', rfl, f1⟩
      exact wp_e e_113_3 (wp_e e_113_5 (wp_r (qc_of f1)))
    · refine wp_e e_195_0 (wp_p s_127 (wp_e e_195_1 (wp_f (bI_y ((in_k (k := 20) (by decide)).mpr h)) (wp_e e_195_3 (wp_b s_158 ?_)))))
      rintro v M ⟨rfl, I1, rfl, f1, w1⟩
      have g1 := qm_158 f1
      refine wp_e e_195_4 (wp_b (m_194 (d := 2042) hs (MJ_f hb (mf_m g1 (by decide) (by decide))) (w1 _ _) ho (by decide)) ?_)
      rintro v M ⟨rfl, I2, G2, rfl, f2, -⟩
      exact wp_e e_195_5 (wp_r (qm_of (mf_t g1 f2)))
  · refine OP_q hs (.int (-2)) (fun L ext tx tt fe I G hb => ?_) (fun L ext tx tt fe I G hb => ?_)
    · exact wp_e e_113_0 (wp_p s_115 (wp_e e_113_1 (wp_t (bI_f h) (wp_e e_113_4 (wp_e e_113_5 (wp_r (qc_of (fr_r _ _))))))))
    · exact wp_e e_195_0 (wp_p s_127 (wp_e e_195_1 (wp_t (bI_f (fun e => h ((in_k (k := 20) (by decide)).mp e))) (wp_e e_195_2 (wp_r (qm_of (mf_r _ _ _)))))))
/-- the sum of what n seeds give -/
def chS (s : St) (seed : Int32) (o : Nat) : Nat → Int64
  | 0 => 0
  | k + 1 => chS s seed o k + (UL s (seed + nI k) o).toInt64
theorem chS_r {s : St} (hs : Sok s) {seed : Int32} {o : Nat} (ho : o ≤ 20) : ∀ n, n ≤ 20 → ∃ a, a ≤ n * 24456 ∧ chS s seed o n = lN a
  | 0, _ => ⟨0, Nat.zero_le _, rfl⟩
  | n + 1, hn => by
    obtain ⟨a, a1, a2⟩ := chS_r hs ho n (by omega)
    obtain ⟨u, u1, u2⟩ := UL_r hs (seed := seed + nI n) ho
    refine ⟨a + u, by omega, ?_⟩
    show chS s seed o n + (UL s (seed + nI n) o).toInt64 = _
    rw [a2, u2, nI_l (by omega), lN_add]
theorem n1_i {v : Int32} : (¬ v < 1 ∧ ¬ nI 20 < v) → ∃ n, 1 ≤ n ∧ n ≤ 20 ∧ v = nI n := fun h => by
  have h0 : ¬ v < 0 := fun e => h.1 (by
    rw [fa_lt] at e ⊢
    have a : (0 : Int32).toInt = 0 := rfl
    have b : (1 : Int32).toInt = 1 := rfl
    omega)
  obtain ⟨j, j1, rfl⟩ := ix_le (by decide) ⟨h0, h.2⟩
  refine ⟨j, ?_, j1, rfl⟩
  apply Decidable.byContradiction
  intro e
  have : j = 0 := by omega
  subst this
  exact h.1 (by decide)
theorem in_1 {v : Int32} : (¬ v.toInt64 < (1 : Int64) ∧ ¬ (20 : Int64) < v.toInt64) ↔ (¬ v < 1 ∧ ¬ nI 20 < v) := by
  rw [show (1 : Int64) = (1 : Int32).toInt64 from rfl, show (20 : Int64) = (nI 20).toInt64 from rfl, in_i]
/-- CHANCE -/
theorem op_chance {s : St} (hs : Sok s) {a b c e : Int32} : OP s (fun M => (am_R (2047) 114 0 M [some (Value.ref 5), some (Value.int a), some (Value.int b), some (Value.int c), some (Value.int e), none, none, none] [])) (fun M => (am_R (2047) 196 0 M [some (Value.ref 55), some (Value.int a), some (Value.int b), some (Value.int c), some (Value.int e), none, none, none] [])) := by
  by_cases h : (¬ b < 1 ∧ ¬ nI 20 < b) ∧ (¬ c < 0 ∧ ¬ nI 20 < c) ∧ (¬ e < 0 ∧ ¬ nI 1 < e)
  · obtain ⟨h1, h2, h3⟩ := h
    have hb1 := h1.1
    have hb2 := h1.2
    obtain ⟨n, n0, n20, rfl⟩ := n1_i h1
    obtain ⟨o, ho, rfl⟩ := ix_le (by decide) h2
    obtain ⟨A, A1, A2⟩ := chS_r hs (seed := a) ho n n20
    refine OP_q hs (.long (lN (low A n e))) (fun L ext tx tt fe I G hb => ?_) (fun L ext tx tt fe I G hb => ?_)
    · refine wp_e e_114_0 (wp_f hb1 (wp_e e_114_1 (wp_f hb2 (wp_e e_114_2 (wp_p s_115 (wp_e e_114_3 (wp_f (bI_y h2) (wp_e e_114_4 (wp_p s_99 (wp_e e_114_5 (wp_f (bI_y (pt_i.mpr h3)) (wp_e e_114_7 ?_))))))))))))
      refine wp_loop n (fun k (J : (Nat → Nat → Int32) × Nat) => fr FP I J.1) (fun k J => wp (am_R 2047 114 8 (am_mem L ext tx J.2 fe J.1 G) [some (Value.ref 5), some (Value.int a), some (Value.int (nI n)), some (Value.int (nI o)), some (Value.int e), some (Value.long (chS s a o k)), none, some (Value.int (nI k))] []) _) ?_ ?_ 0 (I, tt) (Nat.zero_le _) (fr_r _ _)
      · rintro ⟨J, t⟩ f1
        refine wp_e e_114_8 (wp_f (nI_nlt (Nat.le_refl _) (by omega)) (wp_e e_114_11 ?_))
        rw [A2, nI_l (by omega)]
        exact wp_p (s_100 (by omega) (by omega) (by omega)) (wp_e e_114_12 (wp_r (qc_of f1)))
      · rintro k ⟨J, t⟩ hk f1 hgo
        refine wp_e e_114_8 (wp_t (nI_lt hk (by omega)) (wp_e e_114_9 (wp_b (c_116 (d := 2042) hs (CB_f hs hb (fr_m f1 (by decide))) ho) ?_)))
        rintro v M ⟨rfl, I', tt', rfl, f2⟩
        refine wp_e e_114_10 ?_
        rw [nI_1]
        exact hgo (I', tt') (fr_t f1 f2)
    · refine wp_e e_196_0 (wp_p s_127 (wp_e e_196_1 (wp_f (bI_y (in_1.mpr h1)) (wp_e e_196_2 (wp_p s_127 (wp_e e_196_3 (wp_f (bI_y ((in_k (k := 20) (by decide)).mpr h2)) (wp_e e_196_4 (wp_p s_127 (wp_e e_196_5 (wp_f (bI_y ((in_k (k := 1) (by decide)).mpr h3)) (wp_e e_196_7 (wp_b s_158 ?_)))))))))))))
      rintro v M ⟨rfl, I1, rfl, f1, w1⟩
      have g1 := qm_158 f1
      refine wp_e e_196_8 ?_
      refine wp_loop n (fun k (J : (Nat → Nat → Int32) × (Nat → Nat → Int64)) => mf SP TP I J.1 ∧ NW J.1 (ss1 s) (ss2 s)) (fun k J => wp (am_R 2047 196 9 (am_mem L ext tx tt fe J.1 J.2) [some (Value.ref 55), some (Value.int a), some (Value.int (nI n)), some (Value.int (nI o)), some (Value.int e), some (Value.long (chS s a o k)), none, some (Value.int (nI k))] []) _) ?_ ?_ 0 (I1, G) (Nat.zero_le _) ⟨g1, w1 _ _⟩
      · rintro ⟨J, G3⟩ ⟨g3, w3⟩
        refine wp_e e_196_9 (wp_f (nI_nlt (Nat.le_refl _) (by omega)) (wp_e e_196_12 ?_))
        rw [A2, nI_l (by omega)]
        exact wp_p (s_170 (by omega) (by omega) (by omega)) (wp_e e_196_13 (wp_r (qm_of g3)))
      · rintro k ⟨J, G3⟩ hk ⟨g3, w3⟩ hgo
        refine wp_e e_196_9 (wp_t (nI_lt hk (by omega)) (wp_e e_196_10 (wp_b (m_194 (d := 2042) hs (MJ_f hb (mf_m g3 (by decide) (by decide))) w3 ho (by decide)) ?_)))
        rintro v M ⟨rfl, I2, G2, rfl, f2, w2⟩
        refine wp_e e_196_11 ?_
        rw [nI_1]
        exact hgo (I2, G2) ⟨mf_t g3 f2, w2⟩
  · refine OP_q hs (.long (-4611686018427387904)) (fun L ext tx tt fe I G hb => ?_) (fun L ext tx tt fe I G hb => ?_)
    · have fin : wp (am_R 2047 114 6 (am_mem L ext tx tt fe I G) [some (Value.ref 5), some (Value.int a), some (Value.int b), some (Value.int c), some (Value.int e), none, none, none] []) (qC L ext tx fe I G (.long (-4611686018427387904))) := wp_e e_114_6 (wp_r (qc_of (fr_r _ _)))
      exact wp_e e_114_0 (wp_i (fun _ => fin) (fun h1 => wp_e e_114_1 (wp_i (fun _ => fin) (fun h2 => wp_e e_114_2 (wp_p s_115 (wp_e e_114_3 (wp_i (fun _ => fin) (fun h3 => wp_e e_114_4 (wp_p s_99 (wp_e e_114_5 (wp_i (fun _ => fin) (fun h4 => absurd ⟨⟨h1, h2⟩, bI_n h3, pt_i.mp (bI_n h4)⟩ h))))))))))))
    · have fin : wp (am_R 2047 196 6 (am_mem L ext tx tt fe I G) [some (Value.ref 55), some (Value.int a), some (Value.int b), some (Value.int c), some (Value.int e), none, none, none] []) (qM L ext tx tt fe I (.long (-4611686018427387904))) := wp_e e_196_6 (wp_r (qm_of (mf_r _ _ _)))
      exact wp_e e_196_0 (wp_p s_127 (wp_e e_196_1 (wp_i (fun _ => fin) (fun h1 => wp_e e_196_2 (wp_p s_127 (wp_e e_196_3 (wp_i (fun _ => fin) (fun h2 => wp_e e_196_4 (wp_p s_127 (wp_e e_196_5 (wp_i (fun _ => fin) (fun h3 => absurd ⟨in_1.mp (bI_n h1), (in_k (k := 20) (by decide)).mp (bI_n h2), (in_k (k := 1) (by decide)).mp (bI_n h3)⟩ h))))))))))))
