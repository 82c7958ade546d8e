/-! PURE, 57: the model goes through the ways -/
section B57
variable {d L : Nat} {ext : List (Nat × Nat)} {tx : Nat → Nat} {tt : Nat} {fe : Nat → Nat → Option Nat} {I : Nat → Nat → Int32} {G : Nat → Nat → Int64}
theorem m_173 {C D R n q : Nat} {bt : Nat → Nat} {cs cdd cl : List Int32} {so v : Int32} {it : Nat → Int32} : ∀ (k i : Nat) (t : PS) (w : Nat → Nat) (a : MA) (I : Nat → Nat → Int32) (G : Nat → Nat → Int64) (x : Int32), i + k = D → PSok i t → MW I C D R bt n cs cdd cl → NW I (sS cs (nI D) (nI C)) (sS cdd (nI D) (nI C)) → psM I (drp t x) → I 55 40 = so → I 55 41 = v → (∀ j, j < i → I 67 j = nI (w j)) → ME D I a → (so = 0 ∨ so = 1 ∨ (so = 2 ∧ v = nI q ∧ q < 4 ∧ ∀ c, c < C → I 76 (40 * q + c) = it c)) → wp (am_R (k + d + 80) 173 0 (am_mem L ext tx tt fe I G) [some (Value.ref 55), some (Value.int (nI i)), none, none, none, none, none] []) (fun v' M => v' = none ∧ ∃ I' G', M = am_mem L ext tx tt fe I' G' ∧ mf SG TG I I' ∧ NW I' (sS cs (nI D) (nI C)) (sS cdd (nI D) (nI C)) ∧ (∃ x', psM I' (drp t x')) ∧ (∀ j, j < i → I' 67 j = nI (w j)) ∧ ME D I' (dfs (sS cs (nI D) (nI C)) (sS cdd (nI D) (nI C)) C (okm so C D) (mle so v C D it) k i t w a)) := by
  intro k
  induction k with
  | zero =>
    intro i t w a I G x hi hk hm hn hp h40 h41 h67 he hso
    have e : i = D := by omega
    subst e
    have hm' := hm
    obtain ⟨h7, h8, -, ⟨h0, hC, hD, -⟩, -⟩ := hm'
    refine wp_e e_173_0 (wp_t h8.symm (wp_e e_173_1 (wp_b (m_175 (t := t) (d := 0 + d + 77) h0 hC hD h7 h8 hp.1 hp.2.1 hp.2.2.2.1 h40 h41 h67 he hso) ?_)))
    rintro v' M ⟨rfl, I', rfl, f1, e1⟩
    refine wp_e e_173_2 (wp_r ⟨rfl, I', G, rfl, mf_m f1 (by decide) (by decide), NW_f hn (f1.1 63 (by decide) (by decide)) (f1.1 64 (by decide) (by decide)), ⟨x, psM_f hp (f1.1 65 (by decide) (by decide)) (f1.1 66 (by decide) (by decide)) (fun j j1 j2 => f1.2 j (by simp; omega))⟩, ?_, e1⟩)
    rw [f1.1 67 (by decide) (by decide)]
    exact h67
  | succ k ih =>
    intro i t w a I G x hi hk hm hn hp h40 h41 h67 he hso
    refine (show ∀ Q : Option Value → am_M → Prop, (∀ I' G', mf SG TG I I' → NW I' (sS cs (nI D) (nI C)) (sS cdd (nI D) (nI C)) → (∃ x', psM I' (drp t x')) → (∀ j, j < i → I' 67 j = nI (w j)) → ME D I' (dfs (sS cs (nI D) (nI C)) (sS cdd (nI D) (nI C)) C (okm so C D) (mle so v C D it) (k + 1) i t w a) → Q none (am_mem L ext tx tt fe I' G')) → wp (am_R (k + 1 + d + 80) 173 0 (am_mem L ext tx tt fe I G) [some (Value.ref 55), some (Value.int (nI i)), none, none, none, none, none] []) Q from ?_) _ (fun I' G' z1 z2 z3 z4 z5 => ⟨rfl, I', G', rfl, z1, z2, z3, z4, z5⟩)
    intro Q hQ
    have hm' := hm
    obtain ⟨h7, h8, -, ⟨h0, hC, hD, -⟩, -⟩ := hm'
    have hib := ib (n := i) (N := 24) (by omega) (by decide)
    have hic := nI_clamp (n := i) (by omega)
    refine wp_e e_173_0 ?_
    rw [h8]
    refine wp_f (fun e => by have := (nI_eq (by omega) (by omega)).mp e; omega) (wp_e e_173_3 ?_)
    rw [h7, h8, nz h0 (by omega), nI_add, n1, pk_sub (by omega), pk_div (by omega) h0 (by omega)]
    refine wp_c rfl ?_
    refine wp_loop C (fun c (J : (Nat → Nat → Int32) × (Nat → Nat → Int64)) => mf SG TG I J.1 ∧ NW J.1 (sS cs (nI D) (nI C)) (sS cdd (nI D) (nI C)) ∧ (∃ x', psM J.1 (drp t x')) ∧ (∀ j, j < i → J.1 67 j = nI (w j)) ∧ ME D J.1 (dfl (fun c a => if okm so C D i c t = true then dfs (sS cs (nI D) (nI C)) (sS cdd (nI D) (nI C)) C (okm so C D) (mle so v C D it) k (i + 1) (pstep (sS cs (nI D) (nI C)) (sS cdd (nI D) (nI C)) i c 0 t) (wup w i c) a else a) c a)) (fun c J => wp (am_R (k + 1 + d + 80) 173 4 (am_mem L ext tx tt fe J.1 J.2) [some (Value.ref 55), some (Value.int (nI i)), some (Value.int (nI ((D + C - 1) / C))), some (Value.int (nI c)), none, none, none] []) Q) ?_ ?_ 0 (I, G) (Nat.zero_le _) ⟨mf_r _ _ _, hn, ⟨x, hp⟩, h67, he⟩
    · rintro ⟨J, G1⟩ ⟨f1, n1', p1, w1, e1⟩
      refine wp_e e_173_4 ?_
      rw [f1.2 7 (by decide), h7]
      exact wp_f (nI_nlt (Nat.le_refl _) (by omega)) (wp_e e_173_11 (wp_r (hQ J G1 f1 n1' p1 w1 e1)))
    · rintro c ⟨J, G1⟩ hc ⟨f1, n1', ⟨x1, p1⟩, w1, e1⟩ hgo
      have f1 : mf SG TG I J := f1
      have n1' : NW J (sS cs (nI D) (nI C)) (sS cdd (nI D) (nI C)) := n1'
      have p1 : psM J (drp t x1) := p1
      have w1 : ∀ j, j < i → J 67 j = nI (w j) := w1
      have m1 := MW_f hm f1 (by decide) (by decide) (by decide) (by decide) (by decide)
      have hcb := ib (n := c) (N := 4) (by omega) (by decide)
      have hcc := nI_clamp (n := c) (by omega)
      have j40 : J 55 40 = so := by rw [f1.2 40 (by decide)]; exact h40
      show wp (am_R (k + 1 + d + 80) 173 4 (am_mem L ext tx tt fe J G1) [some (Value.ref 55), some (Value.int (nI i)), some (Value.int (nI ((D + C - 1) / C))), some (Value.int (nI c)), none, none, none] []) Q
      refine wp_e e_173_4 ?_
      rw [f1.2 7 (by decide), h7]
      refine wp_t (nI_lt hc (by omega)) (wp_e e_173_5 ?_)
      rw [j40]
      have skip : okm so C D i c t = false → wp (am_R (k + 1 + d + 80) 173 10 (am_mem L ext tx tt fe J G1) [some (Value.ref 55), some (Value.int (nI i)), some (Value.int (nI ((D + C - 1) / C))), some (Value.int (nI c)), none, none, none] []) Q := by
        intro o
        refine wp_e e_173_10 ?_
        rw [nI_1]
        refine hgo (J, G1) ⟨f1, n1', ⟨x1, p1⟩, w1, ?_⟩
        show ME D J (if okm so C D i c t = true then _ else dfl _ c a)
        rw [o]
        exact e1
      have go : okm so C D i c t = true → wp (am_R (k + 1 + d + 80) 173 7 (am_mem L ext tx tt fe J G1) [some (Value.ref 55), some (Value.int (nI i)), some (Value.int (nI ((D + C - 1) / C))), some (Value.int (nI c)), none, none, none] []) Q := by
        intro o
        rw [show k + 1 + d + 80 = k + d + 77 + 3 + 1 by omega]
        refine wp_e e_173_7 ?_
        rw [hcb, hcc, p1.2.1 c (by omega), p1.2.2.1, p1.2.2.2.1]
        refine wp_c rfl (wp_b (s_163 (k := 0) (N := i) (d := k + d + 77) m1 n1' (by omega) (by omega) (by omega) p1 hk (by omega)) ?_)
        rintro v' M ⟨rfl, I2, G2, rfl, f2, n2', p2⟩
        obtain ⟨y, hy⟩ := pstep_d (s := sS cs (nI D) (nI C)) (d := sS cdd (nI D) (nI C)) (i := i) (c := c) (t := t) (x := x1)
        have p2 : psM I2 (drp (pstep (sS cs (nI D) (nI C)) (sS cdd (nI D) (nI C)) i c 0 t) y) := by
          rw [← hy]
          exact p2
        refine wp_e e_173_8 ?_
        rw [hib, hic]
        refine wp_c rfl ?_
        have f3 : mf SG TG I2 (am_u2 I2 67 i (nI c)) := mf_2 (by decide) (by decide)
        have fJ3 : mf SG TG J (am_u2 I2 67 i (nI c)) := mf_t (mf_m f2 (by decide) (by decide)) f3
        have fI3 : mf SG TG I (am_u2 I2 67 i (nI c)) := mf_t f1 fJ3
        rw [nI_1, show k + d + 77 + 3 = k + d + 80 by omega]
        refine wp_b (ih (i + 1) (pstep (sS cs (nI D) (nI C)) (sS cdd (nI D) (nI C)) i c 0 t) (wup w i c) _ (am_u2 I2 67 i (nI c)) G2 y (by omega) (pstep_ok (k := 0) rg_s rg_s (by omega) (by omega) (by omega) hk) (MW_f hm fI3 (by decide) (by decide) (by decide) (by decide) (by decide)) (NW_f n2' (u2_a (by decide)) (u2_a (by decide))) (psM_f p2 (u2_a (by decide)) (u2_a (by decide)) (fun j _ _ => by rw [u2_a (by decide)])) (by rw [fI3.2 40 (by decide)]; exact h40) (by rw [fI3.2 41 (by decide)]; exact h41) (fun j hj => ?_) (ME_f e1 (fun j hj => ?_) ?_) ?_) ?_
        · rw [u2_k, f2.1 67 (by decide) (by decide)]
          show _ = nI (if j = i then c else w j)
          by_cases e : j = i
          · rw [if_pos e, if_pos e]
          · rw [if_neg e, if_neg e]
            exact w1 j (by omega)
        · rw [u2_a (show (55 : Nat) ≠ 67 by decide)]
          exact f2.2 j (by unfold TP; simp; omega)
        · rw [u2_a (by decide)]
          exact f2.1 68 (by decide) (by decide)
        · rw [fI3.1 76 (by decide) (by decide)]
          exact hso
        · rintro v' M ⟨rfl, I4, G4, rfl, f4, n4, ⟨x4, p4⟩, w4, e4⟩
          obtain ⟨fq, fq1, fq2⟩ := hk.1 c (by omega)
          obtain ⟨wq, wq1, wq2⟩ := pah_w hk (show c < 4 by omega)
          obtain ⟨g1, g2, g3, g4⟩ := pstep_g (s := sS cs (nI D) (nI C)) (d := sS cdd (nI D) (nI C)) (i := i) (show c < 4 by omega) wq1 fq2 wq2
          refine wp_e e_173_9 ?_
          rw [hcb, hcc, u2_a (show (65 : Nat) ≠ 66 by decide), p4.1 c (by omega)]
          have q65 : (drp (pstep (sS cs (nI D) (nI C)) (sS cdd (nI D) (nI C)) i c 0 t) x4).1 c - 1 = t.1 c := by
            show (pstep (sS cs (nI D) (nI C)) (sS cdd (nI D) (nI C)) i c 0 t).1 c - 1 = t.1 c
            rw [g1]
            show (if c = c then t.1 c + 1 else t.1 c) - 1 = t.1 c
            rw [if_pos rfl, Int32.add_sub_cancel]
          rw [q65]
          refine wp_c rfl ?_
          rw [show k + d + 77 + 3 + 1 = k + 1 + d + 80 by omega]
          have f5 : mf SG TG I4 (am_u2 (am_u2 (am_u2 (am_u2 I4 66 c ((drp t x1).2.1 c)) 65 c (t.1 c)) 55 33 (drp t x1).2.2.1) 55 34 (drp t x1).2.2.2.1) := mf_t (mf_t (mf_t (mf_2 (by decide) (by decide)) (mf_2 (by decide) (by decide))) (mf_5 (by decide))) (mf_5 (by decide))
          have kA : ∀ a, a ≠ 55 → a ≠ 65 → a ≠ 66 → (am_u2 (am_u2 (am_u2 (am_u2 I4 66 c ((drp t x1).2.1 c)) 65 c (t.1 c)) 55 33 (drp t x1).2.2.1) 55 34 (drp t x1).2.2.2.1) a = I4 a := fun a a1 a2 a3 => by
            rw [u2_a a1, u2_a a1, u2_a a2, u2_a a3]
          have k5 : ∀ j, j ≠ 33 → j ≠ 34 → (am_u2 (am_u2 (am_u2 (am_u2 I4 66 c ((drp t x1).2.1 c)) 65 c (t.1 c)) 55 33 (drp t x1).2.2.1) 55 34 (drp t x1).2.2.2.1) 55 j = I4 55 j := fun j j1 j2 => by
            rw [u2_k, if_neg j2, u2_k, if_neg j1, u2_a (by decide), u2_a (by decide)]
          have k33 : (am_u2 (am_u2 (am_u2 (am_u2 I4 66 c ((drp t x1).2.1 c)) 65 c (t.1 c)) 55 33 (drp t x1).2.2.1) 55 34 (drp t x1).2.2.2.1) 55 33 = t.2.2.1 := by
            rw [u2_k, if_neg (by decide), u2_s]
            rfl
          have k34 : (am_u2 (am_u2 (am_u2 (am_u2 I4 66 c ((drp t x1).2.1 c)) 65 c (t.1 c)) 55 33 (drp t x1).2.2.1) 55 34 (drp t x1).2.2.2.1) 55 34 = t.2.2.2.1 := by
            rw [u2_s]
            rfl
          have k65 : ∀ z, (am_u2 (am_u2 (am_u2 (am_u2 I4 66 c ((drp t x1).2.1 c)) 65 c (t.1 c)) 55 33 (drp t x1).2.2.1) 55 34 (drp t x1).2.2.2.1) 65 z = if z = c then t.1 c else I4 65 z := fun z => by
            rw [u2_a (by decide), u2_a (by decide), u2_k, u2_a (by decide)]
          have k66 : ∀ z, (am_u2 (am_u2 (am_u2 (am_u2 I4 66 c ((drp t x1).2.1 c)) 65 c (t.1 c)) 55 33 (drp t x1).2.2.1) 55 34 (drp t x1).2.2.2.1) 66 z = if z = c then t.2.1 c else I4 66 z := fun z => by
            rw [u2_a (by decide), u2_a (by decide), u2_a (by decide), u2_k]
            rfl
          generalize (am_u2 (am_u2 (am_u2 (am_u2 I4 66 c ((drp t x1).2.1 c)) 65 c (t.1 c)) 55 33 (drp t x1).2.2.1) 55 34 (drp t x1).2.2.2.1) = K at f5 kA k5 k33 k34 k65 k66 ⊢
          refine wp_l (lq_e (lq_e (lq_e (lq_e (lq_n (lq_n (lq_n lq_0))))))) (wp_e e_173_10 ?_)
          rw [nI_1]
          refine hgo (K, G4) ⟨mf_t fI3 (mf_t f4 f5), NW_f n4 (kA 63 (by decide) (by decide) (by decide)) (kA 64 (by decide) (by decide) (by decide)), ⟨x4, fun z hz => (k65 z).trans ?_, fun z hz => (k66 z).trans ?_, k33, k34, (k5 35 (by decide) (by decide)).trans p4.2.2.2.2⟩, fun j hj => ?_, ?_⟩
          · by_cases e : z = c
            · rw [if_pos e, e]
              rfl
            · rw [if_neg e, p4.1 z hz]
              show (pstep (sS cs (nI D) (nI C)) (sS cdd (nI D) (nI C)) i c 0 t).1 z = t.1 z
              rw [g1]
              exact if_neg e
          · by_cases e : z = c
            · rw [if_pos e, e]
              rfl
            · rw [if_neg e, p4.2.1 z hz]
              show (pstep (sS cs (nI D) (nI C)) (sS cdd (nI D) (nI C)) i c 0 t).2.1 z = t.2.1 z
              rw [g2]
              exact if_neg e
          · show K 67 j = nI (w j)
            rw [kA 67 (by decide) (by decide) (by decide), w4 j (by omega)]
            show nI (if j = i then c else w j) = nI (w j)
            rw [if_neg (by omega)]
          · show ME D K (if okm so C D i c t = true then dfs (sS cs (nI D) (nI C)) (sS cdd (nI D) (nI C)) C (okm so C D) (mle so v C D it) k (i + 1) (pstep (sS cs (nI D) (nI C)) (sS cdd (nI D) (nI C)) i c 0 t) (wup w i c) (dfl _ c a) else dfl _ c a)
            rw [if_pos o]
            exact ME_f e4 (fun j hj => k5 j (by omega) (by omega)) (kA 68 (by decide) (by decide) (by decide))
      refine wp_i (fun e => go (decide_eq_true (Or.inl e))) (fun e => wp_e e_173_6 (wp_c (by rw [hcb]; rfl) ?_))
      rw [hcc, p1.1 c (by omega)]
      exact wp_i (fun e2 => go (decide_eq_true (Or.inr e2))) (fun e2 => skip (decide_eq_false (fun q => q.elim e e2)))
theorem m_177 {s : St} (hs : Sok s) (h : MJ s I) {so v : Int32} {q : Nat} {it : Nat → Int32} (hso : so = 0 ∨ so = 1 ∨ (so = 2 ∧ v = nI q ∧ q < 4 ∧ ∀ c, c < sC s → I 76 (40 * q + c) = it c)) : wp (am_R (2046) 177 0 (am_mem L ext tx tt fe I G) [some (Value.ref 55), some (Value.int so), some (Value.int v)] []) (fun v' M => v' = none ∧ ∃ I' G', M = am_mem L ext tx tt fe I' G' ∧ mf SQ TQ I I' ∧ ∃ b0 : MA, b0.1 = (if so = 2 then 0 else -1) ∧ ME (sD s) I' (dfs (ss1 s) (ss2 s) (sC s) (okm so (sC s) (sD s)) (mle so v (sC s) (sD s) it) (sD s) 0 ps0 (fun _ => 0) b0)) := by
  have hm := MW_of hs h
  have hD := hs.1.1.2.2
  refine wp_e e_177_0 (wp_b s_158 ?_)
  rintro v' M ⟨rfl, I1, rfl, f1, n1'⟩
  refine wp_e e_177_1 (wp_b s_162 ?_)
  rintro v' M ⟨rfl, I2, rfl, f2, x3, x4, p2⟩
  have fI2 : mf SP TP I I2 := mf_t (qm_158 f1) f2
  have fin : ∀ z : Int32, z = (if so = 2 then 0 else -1) → wp (am_R 2046 177 5 (am_mem L ext tx tt fe (am_u2 (am_u2 I2 55 40 so) 55 41 v) G) [some (Value.ref 55), some (Value.int so), some (Value.int v)] [Value.int z, Value.ref 55]) (fun v' M => v' = none ∧ ∃ I' G', M = am_mem L ext tx tt fe I' G' ∧ mf SQ TQ I I' ∧ ∃ b0 : MA, b0.1 = (if so = 2 then 0 else -1) ∧ ME (sD s) I' (dfs (ss1 s) (ss2 s) (sC s) (okm so (sC s) (sD s)) (mle so v (sC s) (sD s) it) (sD s) 0 ps0 (fun _ => 0) b0)) := by
    intro z0 hz0
    refine wp_e e_177_5 ?_
    have f3 : mf SQ TQ I (am_u2 (am_u2 (am_u2 I2 55 40 so) 55 41 v) 55 42 z0) := mf_t (mf_m fI2 (by decide) (by decide)) (mf_t (mf_t (mf_5 (by decide)) (mf_5 (by decide))) (mf_5 (by decide)))
    rw [show (2045 : Nat) = sD s + (1965 - sD s) + 80 by omega]
    refine wp_b (m_173 (q := q) (it := it) (so := so) (v := v) (d := 1965 - sD s) (sD s) 0 ps0 (fun _ => 0) (z0, I2 55 38, I2 55 39, I2 68) _ G 0 (Nat.zero_add _) ps0_ok (MW_f hm f3 (by decide) (by decide) (by decide) (by decide) (by decide)) (NW_f (NW_f (n1' _ _) x3 x4) (by rw [u2_a (by decide), u2_a (by decide), u2_a (by decide)]) (by rw [u2_a (by decide), u2_a (by decide), u2_a (by decide)])) ⟨fun z hz => ?_, fun z hz => ?_, ?_, ?_, ?_⟩ ?_ ?_ (fun j hj => absurd hj (Nat.not_lt_zero j)) ⟨u2_s _ _ _ _, ?_, ?_, fun j hj => ?_⟩ ?_) ?_
    · rw [u2_a (by decide), u2_a (by decide), u2_a (by decide)]
      exact p2.1 z hz
    · rw [u2_a (by decide), u2_a (by decide), u2_a (by decide)]
      exact p2.2.1 z hz
    · rw [u2_k, if_neg (by decide), u2_k, if_neg (by decide), u2_k, if_neg (by decide)]
      exact p2.2.2.1
    · rw [u2_k, if_neg (by decide), u2_k, if_neg (by decide), u2_k, if_neg (by decide)]
      exact p2.2.2.2.1
    · rw [u2_k, if_neg (by decide), u2_k, if_neg (by decide), u2_k, if_neg (by decide)]
      exact p2.2.2.2.2
    · rw [u2_k, if_neg (by decide), u2_k, if_neg (by decide), u2_s]
    · rw [u2_k, if_neg (by decide), u2_s]
    · rw [u2_k, if_neg (by decide), u2_k, if_neg (by decide), u2_k, if_neg (by decide)]
    · rw [u2_k, if_neg (by decide), u2_k, if_neg (by decide), u2_k, if_neg (by decide)]
    · rw [u2_a (by decide), u2_a (by decide), u2_a (by decide)]
    · rw [f3.1 76 (by decide) (by decide)]
      exact hso
    · rintro v' M ⟨rfl, I4, G4, rfl, f4, -, -, -, e4⟩
      exact wp_e e_177_6 (wp_r ⟨rfl, I4, G4, rfl, mf_t f3 (mf_m f4 (by decide) (by decide)), _, hz0, e4⟩)
  exact wp_e e_177_2 (wp_i (fun e => wp_e e_177_3 (fin 0 (if_pos e).symm)) (fun e => wp_e e_177_4 (fin (-1) (if_neg e).symm)))
end B57
