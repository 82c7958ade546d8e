/-! PURE, 52: ROWS -/
/-- the row after k items, and how many came -/
def rwf (s : St) (q a : Nat) : Nat → Nat × (Nat → Nat)
  | 0 => (0, srow s)
  | k + 1 => if k < sD s ∧ (¬ sit s q (a + k) < 0 ∧ sit s q (a + k) < nI (sC s)) then ((rwf s q a k).1 + 1, updf (rwf s q a k).2 k (sit s q (a + k)).toNatClampNeg) else rwf s q a k
theorem rwf_y {s : St} {q a k c : Nat} (hk : k < sD s) (hC : sC s ≤ 4) (hc : c < sC s) (e : sit s q (a + k) = nI c) : rwf s q a (k + 1) = ((rwf s q a k).1 + 1, updf (rwf s q a k).2 k c) := by
  show (if k < sD s ∧ (¬ sit s q (a + k) < 0 ∧ sit s q (a + k) < nI (sC s)) then ((rwf s q a k).1 + 1, updf (rwf s q a k).2 k (sit s q (a + k)).toNatClampNeg) else rwf s q a k) = _
  rw [e, if_pos ⟨hk, nI_pos (by omega), nI_lt hc (by omega)⟩, nI_clamp (n := c) (by omega)]
theorem rwf_n {s : St} {q a k : Nat} (h : ¬ (k < sD s ∧ (¬ sit s q (a + k) < 0 ∧ sit s q (a + k) < nI (sC s)))) : rwf s q a (k + 1) = rwf s q a k := if_neg h
theorem rwf_lt {s : St} (hs : Sok s) {q a : Nat} : ∀ k i, i < 24 → (rwf s q a k).2 i < sC s
  | 0, i, hi => hs.1.2.2.2.2.2.1 i hi
  | k + 1, i, hi => by
    have ih := rwf_lt hs (q := q) (a := a) k i hi
    have hC := hs.1.1.2.1
    by_cases h : k < sD s ∧ (¬ sit s q (a + k) < 0 ∧ sit s q (a + k) < nI (sC s))
    · obtain ⟨c, hc, e⟩ := ix_lt (by omega) h.2
      rw [rwf_y h.1 hC hc e]
      show updf _ k c i < sC s
      unfold updf
      split
      · exact hc
      · exact ih
    · rw [rwf_n h]
      exact ih
/-- a place that may wrap -/
theorem has_w {sz a k : Nat} (h40 : sz ≤ 40) (ha : a < 2 ^ 31) (hk : k < 24) : (¬ nI a + nI k < 0 ∧ nI a + nI k < nI sz) ↔ a + k < sz := by
  rw [nI_add]
  by_cases h : a + k < 2 ^ 31
  · rw [nI_ltI h (by omega)]
    exact ⟨fun e => e.2, fun e => ⟨nI_pos h, e⟩⟩
  · refine ⟨fun e => absurd ?_ e.1, fun e => absurd e (by omega)⟩
    rw [fa_lt, ← nI_add, Int32.toInt_add, nI_toInt ha, nI_toInt (n := k) (by omega)]
    have z : (0 : Int32).toInt = 0 := rfl
    rw [z, Int.bmod_def]
    split <;> omega
theorem has_m {sz a k : Nat} (h40 : sz ≤ 40) (ha : a < 2 ^ 31) (hk : k < 24) : (nI sz - nI k - 1 < nI a) ↔ ¬ a + k < sz := by
  have rs := nI_toInt (n := sz) (by omega)
  have rk := nI_toInt (n := k) (by omega)
  have o1 : (1 : Int32).toInt = 1 := rfl
  have e1 : (nI sz - nI k).toInt = (sz : Int) - k := by rw [fb_subI (by omega) (by omega), rs, rk]
  rw [fa_lt, fb_subI (by omega) (by omega), e1, nI_toInt ha, o1]
  omega
section B52
variable {d L : Nat} {ext : List (Nat × Nat)} {tx : Nat → Nat} {tt : Nat} {fe : Nat → Nat → Option Nat} {I : Nat → Nat → Int32} {G : Nat → Nat → Int64}
theorem m_135 {s : St} {C D : Nat} {J : Nat → Nat} (hC : I 55 7 = nI C) (hD : I 55 8 = nI D) (hC4 : C ≤ 4) (hD24 : D ≤ 24) (hr : ∀ k, k < 24 → I 59 k = nI (J k)) {k : Nat} {v : Int32} (hk : k < 24) {Q : Option Value → am_M → Prop} (h1 : k < D → ∀ c, c < C → v = nI c → Q (some (.int (nI (J k)))) (am_mem L ext tx tt fe (am_u2 I 59 k (nI c)) G)) (h2 : ¬ (k < D ∧ (¬ v < 0 ∧ v < nI C)) → Q (some (.int (-2))) (am_mem L ext tx tt fe I G)) : wp (am_R (d + 2) 135 0 (am_mem L ext tx tt fe I G) [some (Value.ref 55), some (Value.int (nI k)), some (Value.int v), none] []) Q := by
  have hkb := ib (n := k) (N := 24) hk (by decide)
  have no : ¬ (k < D ∧ (¬ v < 0 ∧ v < nI C)) → wp (am_R (d + 2) 135 4 (am_mem L ext tx tt fe I G) [some (Value.ref 55), some (Value.int (nI k)), some (Value.int v), none] []) Q := fun e => wp_e e_135_4 (wp_r (h2 e))
  refine wp_e e_135_0 ?_
  rw [hD]
  refine wp_p s_127 (wp_e e_135_1 (wp_i (fun e => no (fun z => bI_0.mp e ((in_m (by omega)).mpr ⟨nI_pos (by omega), nI_lt z.1 (by omega)⟩))) (fun e => wp_e e_135_2 (wp_p (s_131 hC (by omega)) (wp_e e_135_3 (wp_i (fun e2 => no (fun z => bI_0.mp e2 z.2)) (fun e2 => wp_e e_135_5 (wp_c (by rw [hkb]; rfl) (wp_r ?_)))))))))
  have g := (in_m (by omega)).mp (bI_n e)
  obtain ⟨c, hc, rfl⟩ := ix_lt (by omega) (bI_n e2)
  rw [nI_clamp (n := k) (by omega), hr k hk]
  exact h1 ((nI_ltI (by omega) (by omega)).mp g.2) c hc rfl
end B52
/-- ROWS -/
theorem op_rows {s : St} (hs : Sok s) {v1 v2 v3 v4 : Int32} : OP s (fun M => (am_R (2047) 123 0 M [some (Value.ref 5), some (Value.int v1), some (Value.int v2), some (Value.int v3), some (Value.int v4), none, none, none, none] [])) (fun M => (am_R (2047) 204 0 M [some (Value.ref 55), some (Value.int v1), some (Value.int v2), some (Value.int v3), some (Value.int v4), none, none] [])) := by
  have hs0 := hs.1
  obtain ⟨⟨C0, C4, D24⟩, -⟩ := hs0
  have i3 : ∀ {a : Int32}, (¬ a < 0 ∧ ¬ 3 < a) → (¬ a < 0 ∧ a < (4 : Int32)) := fun {a} e => by
    obtain ⟨j, j1, rfl⟩ := ix_le (n := 3) (by decide) e
    exact ⟨nI_pos (by omega), nI_lt (b := 4) (by omega) (by decide)⟩
  have i2 : ∀ {a : Int32}, (¬ a < 0 ∧ ¬ nI 2 < a) ↔ (¬ a < 0 ∧ a < (3 : Int32)) := fun {a} => by
    constructor
    · intro e
      obtain ⟨j, j1, rfl⟩ := ix_le (n := 2) (by decide) e
      exact ⟨nI_pos (by omega), nI_lt (b := 3) (by omega) (by decide)⟩
    · intro e
      obtain ⟨j, j1, rfl⟩ := ix_lt (n := 3) (by decide) e
      exact ⟨nI_pos (by omega), nI_nlt (a := 2) (by omega) (by decide)⟩
  by_cases h : ((¬ v1 < 0 ∧ v1 < (4 : Int32)) ∧ (¬ v2 < 0 ∧ v2 < (3 : Int32))) ∧ (¬ v4 < 0 ∧ ¬ nI 24 < v4)
  · obtain ⟨q, hq, rfl⟩ := ix_lt (n := 4) (by decide) h.1.1
    obtain ⟨so, hso, rfl⟩ := ix_lt (n := 3) (by decide) h.1.2
    obtain ⟨m, hm, rfl⟩ := ix_le (n := 24) (by decide) h.2
    have hqb := ib (n := q) (N := 4) hq (by decide)
    have hqc := nI_clamp (n := q) (by omega)
    have h5 : Nat.ble 5 (34 + 2 * q) = true := Nat.ble_eq_true_of_le (by omega)
    obtain ⟨q3, q40⟩ := hs.2.2.1 q hq
    have c0 : ∀ {L ext tx tt fe I G} {Q : Option Value → am_M → Prop}, CB s L ext tx tt fe I → wp (am_R 2047 123 9 (am_mem L ext tx tt fe I G) [some (Value.ref 5), some (Value.int (nI q)), some (Value.int (nI so)), some (Value.int v3), some (Value.int (nI m)), some (Value.ref (34 + 2 * q)), none, none, none] [Value.int (bI (sso s q = 0))]) Q → wp (am_R 2047 123 0 (am_mem L ext tx tt fe I G) [some (Value.ref 5), some (Value.int (nI q)), some (Value.int (nI so)), some (Value.int v3), some (Value.int (nI m)), none, none, none, none] []) Q := by
      intro L ext tx tt fe I G Q hb k
      refine wp_e e_123_0 (wp_p s_125 (wp_e e_123_1 (wp_f (bI_y h.1.1) (wp_e e_123_2 (wp_p s_126 (wp_e e_123_3 (wp_f (bI_y h.1.2) (wp_e e_123_4 (wp_f h.2.1 (wp_e e_123_5 (wp_f h.2.2 (wp_e e_123_7 (wp_c (by rw [hqb]; rfl) ?_)))))))))))))
      rw [hqc, (Fx16 hq).1]
      exact wp_e e_123_8 (wp_c (by rw [kd_of (sp34 hq).1, h5]; rfl) (wp_p (c_41 hs hb.2.2.2.2.1 hq) k))
    have m0 : ∀ {L ext tx tt fe I G} {Q : Option Value → am_M → Prop}, wp (am_R 2047 204 7 (am_mem L ext tx tt fe I G) [some (Value.ref 55), some (Value.int (nI q)), some (Value.int (nI so)), some (Value.int v3), some (Value.int (nI m)), none, none] []) Q → wp (am_R 2047 204 0 (am_mem L ext tx tt fe I G) [some (Value.ref 55), some (Value.int (nI q)), some (Value.int (nI so)), some (Value.int v3), some (Value.int (nI m)), none, none] []) Q := fun k => wp_e e_204_0 (wp_p s_200 (wp_e e_204_1 (wp_f (bI_y ⟨nI_pos (by omega), nI_nlt (a := 3) (by omega) (by decide)⟩) (wp_e e_204_2 (wp_p s_127 (wp_e e_204_3 (wp_f (bI_y ((in_k (k := 2) (by decide)).mpr (i2.mpr h.1.2))) (wp_e e_204_4 (wp_p s_127 (wp_e e_204_5 (wp_f (bI_y ((in_k (k := 24) (by decide)).mpr h.2)) k)))))))))))
    by_cases hq0 : sso s q = 0
    · refine OP_q hs (.int (-11)) (fun L ext tx tt fe I G hb => c0 hb (wp_e e_123_9 (wp_f (bI_y hq0) (wp_e e_123_10 (wp_r (qc_of (fr_r _ _))))))) (fun L ext tx tt fe I G hb => m0 (wp_e e_204_7 (wp_c (by rw [hqb]; rfl) ?_)))
      rw [hqc, (hb.2.2.1 q hq).1]
      refine wp_t (isZ.mpr hq0) (wp_e e_204_10 (wp_c (by rw [hqb]; rfl) ?_))
      rw [hqc, (hb.2.2.1 q hq).1]
      exact wp_t (isZ.mpr hq0) (wp_e e_204_11 (wp_r (qm_of (mf_r _ _ _))))
    · have hqp : 0 < sso s q := by omega
      have nIm : nI (sso s q) - 1 = nI so ↔ sso s q = so + 1 := by
        rw [n1, pk_sub (by omega), nI_eq (by omega) (by omega)]
        omega
      have m1 : ∀ {L ext tx tt fe I G} {Q : Option Value → am_M → Prop}, MJ s I → (sso s q = so + 1 → wp (am_R 2047 204 12 (am_mem L ext tx tt fe I G) [some (Value.ref 55), some (Value.int (nI q)), some (Value.int (nI so)), some (Value.int v3), some (Value.int (nI m)), none, none] []) Q) → (¬ sso s q = so + 1 → Q (some (.int (-13))) (am_mem L ext tx tt fe I G)) → wp (am_R 2047 204 0 (am_mem L ext tx tt fe I G) [some (Value.ref 55), some (Value.int (nI q)), some (Value.int (nI so)), some (Value.int v3), some (Value.int (nI m)), none, none] []) Q := by
        intro L ext tx tt fe I G Q hb k1 k2
        refine m0 (wp_e e_204_7 (wp_c (by rw [hqb]; rfl) ?_))
        rw [hqc, (hb.2.2.1 q hq).1]
        refine wp_f (fun e => hq0 (isZ.mp e)) (wp_e e_204_8 (wp_c (by rw [hqb]; rfl) ?_))
        rw [hqc, ((hb.2.2.1 q hq).2 hqp).1]
        refine wp_i (fun e => wp_e e_204_10 (wp_c (by rw [hqb]; rfl) ?_)) (fun e => wp_e e_204_9 (wp_r (k2 (fun z => e (nIm.mpr z)))))
        rw [hqc, (hb.2.2.1 q hq).1]
        exact wp_f (fun e => hq0 (isZ.mp e)) (k1 (nIm.mp e))
      have c1 : ∀ {L ext tx tt fe I G} {Q : Option Value → am_M → Prop}, CB s L ext tx tt fe I → (sso s q = so + 1 → wp (am_R 2047 123 13 (am_mem L ext tx tt fe I G) [some (Value.ref 5), some (Value.int (nI q)), some (Value.int (nI so)), some (Value.int v3), some (Value.int (nI m)), some (Value.ref (34 + 2 * q)), none, none, none] []) Q) → (¬ sso s q = so + 1 → Q (some (.int (-13))) (am_mem L ext tx tt fe I G)) → wp (am_R 2047 123 0 (am_mem L ext tx tt fe I G) [some (Value.ref 5), some (Value.int (nI q)), some (Value.int (nI so)), some (Value.int v3), some (Value.int (nI m)), none, none, none, none] []) Q := by
        intro L ext tx tt fe I G Q hb k1 k2
        refine c0 hb (wp_e e_123_9 (wp_t (bI_f hq0) (wp_e e_123_11 (wp_c (by rw [kd_of (sp34 hq).1]; rfl) ?_))))
        rw [(hb.2.2.2.2.1 q hq).1]
        exact wp_i (fun e => k1 (nIm.mp e)) (fun e => wp_e e_123_12 (wp_r (k2 (fun z => e (nIm.mpr z)))))
      by_cases hsor : sso s q = so + 1
      · by_cases hv3 : v3 < 0
        · by_cases hm0 : m = 0
          · subst hm0
            exact OP_q hs (.int 0) (fun L ext tx tt fe I G hb => c1 hb (fun _ => wp_e e_123_13 (wp_e e_123_14 (wp_f (by decide) (wp_e e_123_25 (wp_r (qc_of (fr_r _ _))))))) (fun e => absurd hsor e)) (fun L ext tx tt fe I G hb => m1 hb (fun _ => wp_e e_204_12 (wp_e e_204_13 (wp_f (by decide) (wp_e e_204_22 (wp_r (qm_of (mf_r _ _ _))))))) (fun e => absurd hsor e))
          · refine OP_q hs (.int (-12)) (fun L ext tx tt fe I G hb => c1 hb (fun _ => wp_e e_123_13 (wp_e e_123_14 (wp_t (nI_lt (a := 0) (by omega) (by omega)) (wp_e e_123_15 (wp_c (by rw [kd_of (sp34 hq).1, h5]; rfl) (wp_p (c_42 hb.2.2.2.2.1 hq hqp) (wp_e e_123_16 (wp_t (bI_f ?_) (wp_e e_123_17 (wp_r (qc_of (fr_r _ _)))))))))))) (fun e => absurd hsor e)) (fun L ext tx tt fe I G hb => m1 hb (fun _ => wp_e e_204_12 (wp_e e_204_13 (wp_t (nI_lt (a := 0) (by omega) (by omega)) (wp_e e_204_14 (wp_t hv3 (wp_e e_204_16 (wp_r (qm_of (mf_r _ _ _))))))))) (fun e => absurd hsor e))
            rw [Int32.add_zero]
            exact fun z => z.1 hv3
        · obtain ⟨a, ha, rfl⟩ := nI_of hv3
          refine OP_row hs (.int (if a + m ≤ ssz s q ∨ m = 0 then nI (rwf s q a m).1 else -12)) (rwf s q a (min m (ssz s q - a))).2 (rwf_lt hs _) (fun L ext tx tt fe I G hb => c1 hb (fun _ => wp_e e_123_13 ?_) (fun e => absurd hsor e)) (fun L ext tx tt fe I G hb => m1 hb (fun _ => wp_e e_204_12 ?_) (fun e => absurd hsor e))
          · refine wp_loop (min m (ssz s q - a)) (fun k (J : Nat → Nat → Int32) => fr [6] I J ∧ ∀ i, i < 24 → J 6 i = nI ((rwf s q a k).2 i)) (fun k J => wp (am_R 2047 123 14 (am_mem L ext tx tt fe J G) [some (Value.ref 5), some (Value.int (nI q)), some (Value.int (nI so)), some (Value.int (nI a)), some (Value.int (nI m)), some (Value.ref (34 + 2 * q)), some (Value.int (nI (rwf s q a k).1)), some (Value.int (nI k)), none] []) _) ?_ ?_ 0 I (Nat.zero_le _) ⟨fr_r _ _, hb.2.1.2.2.2.2.2.1⟩
            · rintro J ⟨f1, z6⟩
              have hS : CS s J := CS_f hb.2.2.2.2.1 (fun x h1 h2 => f1 x (by simp; omega))
              by_cases e : a + m ≤ ssz s q ∨ m = 0
              · rw [show min m (ssz s q - a) = m by omega] at z6 ⊢
                rw [if_pos e]
                exact wp_e e_123_14 (wp_f (nI_nlt (Nat.le_refl _) (by omega)) (wp_e e_123_25 (wp_r ⟨rfl, tt, J, rfl, fr_m f1 (by decide), z6⟩)))
              · rw [if_neg e]
                refine wp_e e_123_14 (wp_t (nI_lt (by omega) (by omega)) (wp_e e_123_15 (wp_c (by rw [kd_of (sp34 hq).1, h5]; rfl) (wp_p (c_42 hS hq hqp) (wp_e e_123_16 (wp_t (bI_f ?_) (wp_e e_123_17 (wp_r ⟨rfl, tt, J, rfl, fr_m f1 (by decide), z6⟩))))))))
                rw [has_w q40 ha (by omega)]
                omega
            · rintro k J hk ⟨f1, z6⟩ hgo
              have hS : CS s J := CS_f hb.2.2.2.2.1 (fun x h1 h2 => f1 x (by simp; omega))
              have hkb := ib (n := k) (N := 24) (by omega) (by decide)
              refine wp_e e_123_14 (wp_t (nI_lt (by omega) (by omega)) (wp_e e_123_15 (wp_c (by rw [kd_of (sp34 hq).1, h5]; rfl) (wp_p (c_42 hS hq hqp) (wp_e e_123_16 (wp_f (bI_y ((has_w q40 ha (by omega)).mpr (by omega))) (wp_e e_123_18 (wp_c (by rw [kd_of (sp34 hq).1]; rfl) ?_))))))))
              rw [(Fx16 hq).2]
              refine wp_e e_123_19 ?_
              rw [kd_of (sp34 hq).2, ln_of (sp34 hq).2, nI_add, ib (n := a + k) (N := 40) (by omega) (by decide), nI_clamp (n := a + k) (by omega), ((hS q hq).2 hqp).2 (a + k) (by omega)]
              refine wp_c rfl (wp_p s_77 (wp_e e_123_20 ?_))
              rw [f1 5 (by decide), hb.2.1.2.1]
              have skip : ¬ (k < sD s ∧ (¬ sit s q (a + k) < 0 ∧ sit s q (a + k) < nI (sC s))) → wp (am_R 2047 123 24 (am_mem L ext tx tt fe J G) [some (Value.ref 5), some (Value.int (nI q)), some (Value.int (nI so)), some (Value.int (nI a)), some (Value.int (nI m)), some (Value.ref (34 + 2 * q)), some (Value.int (nI (rwf s q a k).1)), some (Value.int (nI k)), some (Value.int (sit s q (a + k)))] []) (fun v M => v = some (.int (if a + m ≤ ssz s q ∨ m = 0 then nI (rwf s q a m).1 else -12)) ∧ ∃ tt' I', M = am_mem L ext tx tt' fe I' G ∧ fr (6 :: FCQ) I I' ∧ ∀ i, i < 24 → I' 6 i = nI ((rwf s q a (min m (ssz s q - a))).2 i)) := by
                intro e
                have go := hgo J ⟨f1, by rw [rwf_n e]; exact z6⟩
                rw [rwf_n e] at go
                refine wp_e e_123_24 ?_
                rw [nI_1]
                exact wp_l (lq_e (lq_e (lq_e (lq_e (lq_e (lq_e (lq_e (lq_e (lq_n lq_0))))))))) go
              refine wp_i (fun e => skip (fun z => bI_0.mp e ⟨nI_pos (by omega), nI_lt z.1 (by omega)⟩)) (fun e => wp_e e_123_21 (wp_p s_76 (wp_e e_123_22 ?_)))
              rw [f1 5 (by decide), hb.2.1.1]
              refine wp_i (fun e2 => skip (fun z => bI_0.mp e2 z.2)) (fun e2 => wp_e e_123_23 (wp_c (by rw [hkb]; rfl) (wp_e e_123_24 ?_)))
              obtain ⟨c, hc, ec⟩ := ix_lt (by omega) (bI_n e2)
              have hkD := (nI_ltI (by omega) (by omega)).mp (bI_n e).2
              rw [nI_clamp (n := k) (by omega), nI_1, nI_1, ec]
              have go := hgo (am_u2 J 6 k (nI c)) ⟨fr_t f1 (fr_2 (by decide)), fun i hi => ?_⟩
              · rw [rwf_y hkD C4 hc ec] at go
                exact wp_l (lq_e (lq_e (lq_e (lq_e (lq_e (lq_e (lq_e (lq_e (lq_n lq_0))))))))) go
              · rw [rwf_y hkD C4 hc ec, u2_k, z6 i hi]
                show _ = nI (updf _ k c i)
                unfold updf
                split <;> rfl
          · refine wp_loop (min m (ssz s q - a)) (fun k (J : Nat → Nat → Int32) => fr [59] I J ∧ ∀ i, i < 24 → J 59 i = nI ((rwf s q a k).2 i)) (fun k J => wp (am_R 2047 204 13 (am_mem L ext tx tt fe J G) [some (Value.ref 55), some (Value.int (nI q)), some (Value.int (nI so)), some (Value.int (nI a)), some (Value.int (nI m)), some (Value.int (nI (rwf s q a k).1)), some (Value.int (nI k))] []) _) ?_ ?_ 0 I (Nat.zero_le _) ⟨fr_r _ _, hb.1.2.2.2.2.2.2.1⟩
            · rintro J ⟨f1, z6⟩
              have fm : mf (59 :: SQ) TQ I J := ⟨fun x _ hx => f1 x (fun e => hx ((by decide : ∀ y, y ∈ [59] → y ∈ 59 :: SQ) x e)), fun x _ => by rw [f1 55 (by decide)]⟩
              by_cases e : a + m ≤ ssz s q ∨ m = 0
              · rw [show min m (ssz s q - a) = m by omega] at z6 ⊢
                rw [if_pos e]
                exact wp_e e_204_13 (wp_f (nI_nlt (Nat.le_refl _) (by omega)) (wp_e e_204_22 (wp_r ⟨rfl, J, G, rfl, fm, z6⟩)))
              · rw [if_neg e]
                refine wp_e e_204_13 (wp_t (nI_lt (by omega) (by omega)) (wp_e e_204_14 (wp_f hv3 (wp_e e_204_15 (wp_c (by rw [hqb]; rfl) ?_)))))
                rw [hqc, f1 75 (by decide), ((hb.2.2.1 q hq).2 hqp).2.1]
                exact wp_t ((has_m q40 ha (by omega)).mpr (by omega)) (wp_e e_204_16 (wp_r ⟨rfl, J, G, rfl, fm, z6⟩))
            · rintro k J hk ⟨f1, z6⟩ hgo
              refine wp_e e_204_13 (wp_t (nI_lt (by omega) (by omega)) (wp_e e_204_14 (wp_f hv3 (wp_e e_204_15 (wp_c (by rw [hqb]; rfl) ?_)))))
              rw [hqc, f1 75 (by decide), ((hb.2.2.1 q hq).2 hqp).2.1]
              refine wp_f (fun e => (has_m q40 ha (by omega)).mp e (by omega)) (wp_e e_204_17 ?_)
              rw [show 40 * nI q + nI a + nI k = nI (40 * q + (a + k)) by rw [show (40 : Int32) = nI 40 from rfl, pk_mul, nI_add, nI_add, Nat.add_assoc], ib (n := 40 * q + (a + k)) (N := 160) (by omega) (by decide), nI_clamp (n := 40 * q + (a + k)) (by omega), f1 76 (by decide), ((hb.2.2.1 q hq).2 hqp).2.2 (a + k) (by omega)]
              refine wp_c rfl (wp_b (Q' := fun v M => (∃ c, c < sC s ∧ k < sD s ∧ sit s q (a + k) = nI c ∧ v = some (.int (nI ((rwf s q a k).2 k))) ∧ M = am_mem L ext tx tt fe (am_u2 J 59 k (nI c)) G) ∨ (¬ (k < sD s ∧ (¬ sit s q (a + k) < 0 ∧ sit s q (a + k) < nI (sC s))) ∧ v = some (.int (-2)) ∧ M = am_mem L ext tx tt fe J G)) (m_135 (d := 2044) (s := s) (C := sC s) (D := sD s) (J := (rwf s q a k).2) (by rw [f1 55 (by decide)]; exact hb.1.1) (by rw [f1 55 (by decide)]; exact hb.1.2.1) C4 D24 z6 (by omega) (fun h1 c hc ec => Or.inl ⟨c, hc, h1, ec, rfl, rfl⟩) (fun e => Or.inr ⟨e, rfl, rfl⟩)) ?_)
              rintro v M (⟨c, hc, hkD, ec, rfl, rfl⟩ | ⟨hn, rfl, rfl⟩)
              · have hlt := rwf_lt hs (q := q) (a := a) k k (by omega)
                refine wp_e e_204_18 (wp_f (nI_pos (by omega)) (wp_e e_204_19 (wp_e e_204_21 ?_)))
                rw [nI_1, nI_1]
                have go := hgo (am_u2 J 59 k (nI c)) ⟨fr_t f1 (fr_2 (by decide)), fun i hi => ?_⟩
                · rw [rwf_y hkD C4 hc ec] at go
                  exact go
                · rw [rwf_y hkD C4 hc ec, u2_k, z6 i hi]
                  show _ = nI (updf _ k c i)
                  unfold updf
                  split <;> rfl
              · have go := hgo J ⟨f1, by rw [rwf_n hn]; exact z6⟩
                rw [rwf_n hn] at go
                refine wp_e e_204_18 (wp_t (by decide) (wp_e e_204_20 (wp_e e_204_21 ?_)))
                rw [nI_1, Int32.add_zero]
                exact go
      · exact OP_q hs (.int (-13)) (fun L ext tx tt fe I G hb => c1 hb (fun e => absurd e hsor) (fun _ => qc_of (fr_r _ _))) (fun L ext tx tt fe I G hb => m1 hb (fun e => absurd e hsor) (fun _ => qm_of (mf_r _ _ _)))
  · refine OP_q hs (.int (-2)) (fun L ext tx tt fe I G hb => ?_) (fun L ext tx tt fe I G hb => ?_)
    · have fin : wp (am_R 2047 123 6 (am_mem L ext tx tt fe I G) [some (Value.ref 5), some (Value.int v1), some (Value.int v2), some (Value.int v3), some (Value.int v4), none, none, none, none] []) (qC L ext tx fe I G (.int (-2))) := wp_e e_123_6 (wp_r (qc_of (fr_r _ _)))
      exact wp_e e_123_0 (wp_p s_125 (wp_e e_123_1 (wp_i (fun _ => fin) (fun h1 => wp_e e_123_2 (wp_p s_126 (wp_e e_123_3 (wp_i (fun _ => fin) (fun h2 => wp_e e_123_4 (wp_i (fun _ => fin) (fun h3 => wp_e e_123_5 (wp_i (fun _ => fin) (fun h4 => absurd ⟨⟨bI_n h1, bI_n h2⟩, h3, h4⟩ h))))))))))))
    · have fin : wp (am_R 2047 204 6 (am_mem L ext tx tt fe I G) [some (Value.ref 55), some (Value.int v1), some (Value.int v2), some (Value.int v3), some (Value.int v4), none, none] []) (qM L ext tx tt fe I (.int (-2))) := wp_e e_204_6 (wp_r (qm_of (mf_r _ _ _)))
      exact wp_e e_204_0 (wp_p s_200 (wp_e e_204_1 (wp_i (fun _ => fin) (fun h1 => wp_e e_204_2 (wp_p s_127 (wp_e e_204_3 (wp_i (fun _ => fin) (fun h2 => wp_e e_204_4 (wp_p s_127 (wp_e e_204_5 (wp_i (fun _ => fin) (fun h3 => absurd ⟨⟨i3 (bI_n h1), i2.mp ((in_k (k := 2) (by decide)).mp (bI_n h2))⟩, (in_k (k := 24) (by decide)).mp (bI_n h3)⟩ h))))))))))))
