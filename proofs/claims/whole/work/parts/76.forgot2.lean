/-! PURE, 46: FORGOTTEN, all of it -/
/-- the first cup that may have been forgotten, from b on -/
def fgr (s : St) (q : Nat) : Nat → Nat → Int32
  | 0, _ => -1
  | f + 1, b => if tas (fps s b).2.1 (sit s q) (nI b) (sC s) = true then nI b else fgr s q f (b + 1)
section B46
variable {d L : Nat} {ext : List (Nat × Nat)} {tx : Nat → Nat} {tt : Nat} {fe : Nat → Nat → Option Nat} {I : Nat → Nat → Int32} {G : Nat → Nat → Int64}
/-- the model's look at the cups but for one -/
theorem m_193t {C q b : Nat} {f : Nat → Int32} {v2 v4 : Int32} {Q : Option Value → am_M → Prop} (hC : I 55 7 = nI C) (hC4 : C ≤ 4) (hq : q < 4) (hf : ∀ c, c < C → I 66 c = f c) (hQ : wp (am_R d 193 20 (am_mem L ext tx tt fe I G) [some (Value.ref 55), some (Value.int (nI q)), some (Value.int v2), some (Value.int (nI b)), some (Value.int (if tas f (fun c => I 76 (40 * q + c)) (nI b) C = true then 1 else 0)), some (Value.int (nI C))] []) Q) : wp (am_R d 193 12 (am_mem L ext tx tt fe I G) [some (Value.ref 55), some (Value.int (nI q)), some (Value.int v2), some (Value.int (nI b)), some (Value.int v4), none] []) Q := by
  refine wp_e e_193_12 ?_
  refine wp_loop C (fun k (_ : Unit) => True) (fun k _ => wp (am_R d 193 13 (am_mem L ext tx tt fe I G) [some (Value.ref 55), some (Value.int (nI q)), some (Value.int v2), some (Value.int (nI b)), some (Value.int (if tas f (fun c => I 76 (40 * q + c)) (nI b) k = true then 1 else 0)), some (Value.int (nI k))] []) Q) ?_ ?_ 0 () (Nat.zero_le _) trivial
  · rintro _ -
    refine wp_e e_193_13 ?_
    rw [hC]
    exact wp_f (nI_nlt (Nat.le_refl _) (by omega)) hQ
  · rintro k _ hk - hgo
    have hib := ib (n := k) (N := 4) (by omega) (by decide)
    have go := hgo () trivial
    refine wp_e e_193_13 ?_
    rw [hC]
    refine wp_t (nI_lt hk (by omega)) (wp_e e_193_14 ?_)
    cases ht : tas f (fun c => I 76 (40 * q + c)) (nI b) k with
    | false =>
      rw [show tas f (fun c => I 76 (40 * q + c)) (nI b) (k + 1) = false from tas_f ht 1] at go
      refine wp_t rfl (wp_e e_193_18 (wp_e e_193_19 ?_))
      rw [nI_1]
      exact go
    | true =>
      refine wp_f (by decide) (wp_e e_193_15 (wp_i (fun e => wp_e e_193_17 (wp_e e_193_19 ?_)) (fun e0 => wp_e e_193_16 ?_)))
      · rw [tas_1 ht (Or.inl e)] at go
        rw [nI_1]
        exact go
      · rw [show (40 : Int32) * nI q + nI k = nI (40 * q + k) by rw [show (40 : Int32) = nI 40 from rfl, pk_mul, nI_add], hib, ib (n := 40 * q + k) (N := 160) (by omega) (by decide)]
        refine wp_c rfl ?_
        rw [nI_clamp (n := k) (by omega), nI_clamp (n := 40 * q + k) (by omega), hf k hk]
        refine wp_i (fun e => wp_e e_193_17 (wp_e e_193_19 ?_)) (fun e => wp_e e_193_18 (wp_e e_193_19 ?_))
        · rw [tas_1 ht (Or.inr e)] at go
          rw [nI_1]
          exact go
        · rw [tas_0 (f := f) (g := fun c => I 76 (40 * q + c)) e0 e] at go
          rw [nI_1]
          exact go
/-- the class's way through the cups -/
theorem c_110l {s : St} (hs : Sok s) (hb : CB s L ext tx tt fe I) {q : Nat} (hq : q < 4) (t1 : 0 < sso s q) (t2 : ssz s q = sC s) {v2 : Int32} : ∀ (f b : Nat) (J : Nat → Nat → Int32) (t : Nat), b + f = sC s → fr FP I J → wp (am_R (d + 5) 110 7 (am_mem L ext tx t fe J G) [some (Value.ref 5), some (Value.int (nI q)), some (Value.int v2), some (Value.int (nI b))] []) (qC L ext tx fe I G (.int (fgr s q f b))) := by
  have hC := hs.1.1
  have hqb := ib (n := q) (N := 4) hq (by decide)
  intro f
  induction f with
  | zero =>
    intro b J t hbf f1
    have b1 := CB_f (r := t) hs hb (fr_m f1 (by decide))
    refine wp_e e_110_7 ?_
    rw [b1.2.1.1]
    exact wp_f (nI_nlt (by omega) (by omega)) (wp_e e_110_15 (wp_r (qc_of f1)))
  | succ f ih =>
    intro b J t hbf f1
    have b1 := CB_f (r := t) hs hb (fr_m f1 (by decide))
    refine wp_e e_110_7 ?_
    rw [b1.2.1.1]
    refine wp_t (nI_lt (by omega) (by omega)) (wp_e e_110_8 (wp_b (c_93 (d := d) hs b1 (b := b)) ?_))
    rintro v M ⟨rfl, I', tt', rfl, g1, w1⟩
    have fI := fr_t f1 g1
    have b2 := CB_f (r := tt') hs hb (fr_m fI (by decide))
    refine wp_e e_110_9 (wp_c (by rw [hqb]; rfl) ?_)
    rw [nI_clamp (n := q) (by omega), (Fx16 hq).1]
    refine wp_e e_110_10 (wp_c (by rw [kd_of (sp34 hq).1]; rfl) ?_)
    rw [(Fx16 hq).2]
    refine wp_e e_110_11 (wp_p (c_112 (C := sC s) (f := (fps s b).2.1) (g := sit s q) (b := nI b) b2.2.1.1 hC.2.1 (sp34 hq).2 (fun c hc => w1 c (by omega)) (fun c hc => ((b2.2.2.2.2.1 q hq).2 t1).2 c (by omega))) (wp_e e_110_12 ?_))
    by_cases e : tas (fps s b).2.1 (sit s q) (nI b) (sC s) = true
    · rw [show fgr s q (f + 1) b = nI b from if_pos e]
      rw [if_pos (c := tas (fps s b).2.1 (sit s q) (nI b) (sC s) = true) (t := (1 : Int32)) e]
      exact wp_f (by decide) (wp_e e_110_13 (wp_r (qc_of fI)))
    · rw [show fgr s q (f + 1) b = fgr s q f (b + 1) from if_neg e]
      rw [if_neg (c := tas (fps s b).2.1 (sit s q) (nI b) (sC s) = true) (t := (1 : Int32)) e]
      refine wp_t rfl (wp_e e_110_14 ?_)
      rw [nI_1]
      exact ih (b + 1) I' tt' (by omega) fI
/-- the model's -/
theorem m_193l {s : St} (hs : Sok s) (hb : MJ s I) {q : Nat} (hq : q < 4) (t1 : 0 < sso s q) (t2 : ssz s q = sC s) {v2 : Int32} (hd : 70 ≤ d) : ∀ (f b : Nat) (J : Nat → Nat → Int32) (G' : Nat → Nat → Int64), b + f = sC s → mf SP TP I J → NW J (ss1 s) (ss2 s) → wp (am_R (d + 4) 193 5 (am_mem L ext tx tt fe J G') [some (Value.ref 55), some (Value.int (nI q)), some (Value.int v2), some (Value.int (nI b)), none, none] []) (qM L ext tx tt fe I (.int (fgr s q f b))) := by
  have hC := hs.1.1
  intro f
  induction f with
  | zero =>
    intro b J G' hbf f1 hn
    have b1 := MJ_f hb (mf_m f1 (by decide) (by decide))
    refine wp_e e_193_5 ?_
    rw [b1.1.1]
    exact wp_f (nI_nlt (by omega) (by omega)) (wp_e e_193_23 (wp_r (qm_of f1)))
  | succ f ih =>
    intro b J G' hbf f1 hn
    have b1 := MJ_f hb (mf_m f1 (by decide) (by decide))
    refine wp_e e_193_5 ?_
    rw [b1.1.1]
    refine wp_t (nI_lt (by omega) (by omega)) (m_193 (d := d) hs b1 hn hd ?_)
    intro I' G2 g1 n2 w1
    have fI := mf_t f1 g1
    have b2 := MJ_f hb (mf_m fI (by decide) (by decide))
    refine m_193t (C := sC s) (f := (fps s b).2.1) b2.1.1 hC.2.1 hq (fun c hc => w1 c (by omega)) ?_
    rw [tas_c (g' := sit s q) (sC s) (fun c hc => ((b2.2.2.1 q hq).2 t1).2.2 c (by omega))]
    refine wp_e e_193_20 ?_
    by_cases e : tas (fps s b).2.1 (sit s q) (nI b) (sC s) = true
    · rw [show fgr s q (f + 1) b = nI b from if_pos e]
      rw [if_pos (c := tas (fps s b).2.1 (sit s q) (nI b) (sC s) = true) (t := (1 : Int32)) e]
      exact wp_f (by decide) (wp_e e_193_21 (wp_r (qm_of fI)))
    · rw [show fgr s q (f + 1) b = fgr s q f (b + 1) from if_neg e]
      rw [if_neg (c := tas (fps s b).2.1 (sit s q) (nI b) (sC s) = true) (t := (1 : Int32)) e]
      refine wp_t rfl (wp_e e_193_22 ?_)
      rw [nI_1]
      exact wp_l (lq_e (lq_e (lq_e (lq_e (lq_n (lq_n lq_0)))))) (ih (b + 1) I' G2 (by omega) fI n2)
end B46
/-- FORGOTTEN -/
theorem op_forgotten {s : St} (hs : Sok s) {a : Int32} : OP s (fun M => (am_R (2047) 110 0 M [some (Value.ref 5), some (Value.int a), none, none] [])) (fun M => (am_R (2047) 193 0 M [some (Value.ref 55), some (Value.int a), none, none, none, none] [])) := by
  by_cases h : ¬ a < 0 ∧ a < (4 : Int32)
  · obtain ⟨q, hq, rfl⟩ := ix_lt (n := 4) (by decide) h
    by_cases ht : tasb s q = 0
    · obtain ⟨t1, t2⟩ := tasb_0 ht
      refine OP_q hs (.int (fgr s q (sC s) 0)) (fun L ext tx tt fe I G hb => ?_) (fun L ext tx tt fe I G hb => ?_)
      · exact wp_e e_110_0 (wp_p s_125 (wp_e e_110_1 (wp_f (bI_y h) (wp_e e_110_3 (wp_p (c_111 (d := 2045) hs hb hq) (wp_e e_110_4 (wp_t ht (wp_e e_110_6 (c_110l (d := 2042) hs hb hq t1 t2 (sC s) 0 I tt (Nat.zero_add _) (fr_r _ _))))))))))
      · refine wp_e e_193_0 (wp_p (m_190 (d := 2044) hs hb hq) (wp_e e_193_1 (wp_t ht (wp_e e_193_3 (wp_b s_158 ?_)))))
        rintro v M ⟨rfl, I', rfl, f1, n1⟩
        exact wp_e e_193_4 (m_193l (d := 2043) hs hb hq t1 t2 (by decide) (sC s) 0 I' G (Nat.zero_add _) (qm_158 f1) (n1 _ _))
    · refine OP_q hs (.int (tasb s q)) (fun L ext tx tt fe I G hb => ?_) (fun L ext tx tt fe I G hb => ?_)
      · exact wp_e e_110_0 (wp_p s_125 (wp_e e_110_1 (wp_f (bI_y h) (wp_e e_110_3 (wp_p (c_111 (d := 2045) hs hb hq) (wp_e e_110_4 (wp_f ht (wp_e e_110_5 (wp_r (qc_of (fr_r _ _)))))))))))
      · exact wp_e e_193_0 (wp_p (m_190 (d := 2044) hs hb hq) (wp_e e_193_1 (wp_f ht (wp_e e_193_2 (wp_r (qm_of (mf_r _ _ _)))))))
  · refine OP_q hs (.int (-2)) (fun L ext tx tt fe I G hb => ?_) (fun L ext tx tt fe I G hb => ?_)
    · exact wp_e e_110_0 (wp_p s_125 (wp_e e_110_1 (wp_t (bI_f h) (wp_e e_110_2 (wp_r (qc_of (fr_r _ _)))))))
    · have r190 : wp (am_R 2046 190 0 (am_mem L ext tx tt fe I G) [some (Value.ref 55), some (Value.int a)] []) (fun v M => v = some (.int (-2)) ∧ M = am_mem L ext tx tt fe I G) := by
        refine wp_e e_190_0 (wp_p s_200 (wp_e e_190_1 (wp_t (bI_f (fun e => h ?_)) (wp_e e_190_2 (wp_r ⟨rfl, rfl⟩)))))
        obtain ⟨j, j1, rfl⟩ := ix_le (n := 3) (by decide) e
        exact ⟨nI_pos (by omega), nI_lt (b := 4) (by omega) (by decide)⟩
      exact wp_e e_193_0 (wp_p (wp_eq r190) (wp_e e_193_1 (wp_f (by decide) (wp_e e_193_2 (wp_r (qm_of (mf_r _ _ _)))))))
