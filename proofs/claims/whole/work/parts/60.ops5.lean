/-! PURE, 30: LAY, AT, FOLLOW, NEXT -/
theorem stb_R {s : St} {k t : Nat} {g : Nat → Nat} (h : k < 20) : stb (setR s k g) t = stb s t := if_neg (by omega)
theorem ST_R {s : St} {k : Nat} {g : Nat → Nat} (h : k < 20) (h5 : k ≠ 5) (b : ST s) : ST (setR s k g) := fun t ht => by
  have e : stn (setR s k g) = stn s := if_neg (Ne.symm h5)
  rw [stb_R h, e]
  exact b t ht
theorem Sok_row {s : St} (hs : Sok s) {row' : Nat → Nat} (hr : ∀ k, k < 24 → row' k < sC s) : Sok (setR s 1 row') := by
  obtain ⟨⟨a1, a2, a3, a4, a5, a6, a7, a8, a9⟩, b, c, e, f⟩ := hs
  exact ⟨⟨a1, a2, a3, a4, a5, hr, a7, a8, a9⟩, ST_R (by decide) (by decide) b, c, e, f⟩
theorem CB_row {L : Nat} {ext : List (Nat × Nat)} {tx : Nat → Nat} {tt r : Nat} {fe : Nat → Nat → Option Nat} {I I' : Nat → Nat → Int32} {s : St} (hs : Sok s) (h : CB s L ext tx tt fe I) (hf : fr (6 :: FCS) I I') {row' : Nat → Nat} (h6 : ∀ k, k < 24 → I' 6 k = nI (row' k)) : CB (setR s 1 row') L ext tx r fe I' := by
  obtain ⟨⟨a1, a2⟩, ⟨b1, b2, b3, b4, b5, b6, b7, b8⟩, ⟨c1, c2, c3⟩, e, f, g⟩ := h
  have hp : sPn s ≤ 6 := hs.1.2.2.2.1
  refine ⟨⟨SW_e a1 (hf 2 (by decide)) (hf 3 (by decide)), by rw [UW, hf 1 (by decide)]; exact a2⟩, ⟨by rw [hf 5 (by decide)]; exact b1, by rw [hf 5 (by decide)]; exact b2, by rw [hf 5 (by decide)]; exact b3, by rw [hf 5 (by decide)]; exact b4, by rw [hf 5 (by decide)]; exact b5, h6, by rw [hf 7 (by decide)]; exact b7, fun p hq => ?_⟩, ⟨c1, by rw [hf 10 (by decide)]; exact c2, by rw [hf 11 (by decide)]; exact c3⟩, CT_f e (ntx_d (by decide)) hf, CS_f f (fun a h1 h2 => hf a (by unfold FCS; simp; omega)), CK_f g (hf 17 (by decide)) (hf 18 (by decide)) (hf 19 (by decide)) (hf 20 (by decide))⟩
  have hp2 : p < sPn s := hq
  rw [hf (28 + p) (by unfold FCS; simp; omega)]
  exact b8 p hq
theorem MJ_row {I I' : Nat → Nat → Int32} {s : St} (h : MJ s I) (hf : mf (59 :: SQ) TQ I I') {row' : Nat → Nat} (h59 : ∀ k, k < 24 → I' 59 k = nI (row' k)) : MJ (setR s 1 row') I' := by
  obtain ⟨⟨a1, a2, a3, a4, a5, a6, a7, a8, a9, a10⟩, b, c, e1, e2⟩ := h
  have k : ∀ k, k ∉ TQ → I' 55 k = I 55 k := hf.2
  have g : ∀ a, 56 ≤ a → a ∉ (59 :: SQ) → I' a = I a := fun a ha hs => hf.1 a (by omega) hs
  refine ⟨⟨by rw [k 7 (by decide)]; exact a1, by rw [k 8 (by decide)]; exact a2, by rw [k 12 (by decide)]; exact a3, by rw [k 3 (by decide)]; exact a4, by rw [k 4 (by decide)]; exact a5, by rw [k 6 (by decide)]; exact a6, h59, by rw [g 62 (by decide) (by decide)]; exact a8, by rw [g 60 (by decide) (by decide), g 61 (by decide) (by decide)]; exact a9, by rw [g 58 (by decide) (by decide)]; exact a10⟩, fun t ht => ?_, fun q hq => ?_, by rw [k 47 (by decide)]; exact e1, ?_⟩
  · obtain ⟨m1, m2, m3, m4⟩ := b t ht
    exact ⟨m1, m2, by rw [g 57 (by decide) (by decide)]; exact m3, by rw [g 56 (by decide) (by decide), stb_R (by decide)]; exact m4⟩
  · rw [g 73 (by decide) (by decide), g 74 (by decide) (by decide), g 75 (by decide) (by decide), g 76 (by decide) (by decide)]
    exact c q hq
  · rw [k 47 (by decide), k 48 (by decide), k 49 (by decide), k 50 (by decide), g 70 (by decide) (by decide), g 71 (by decide) (by decide), g 72 (by decide) (by decide)]
    exact e2
/-- a call that lays a row, and no more -/
theorem OP_row {s : St} {f g : am_M → Option am_V} (hs : Sok s) (r : Value) (row' : Nat → Nat) (hr : ∀ k, k < 24 → row' k < sC s) (hc : ∀ L ext tx tt fe I G, CB s L ext tx tt fe I → wp (f (am_mem L ext tx tt fe I G)) (fun v M => v = some r ∧ ∃ tt' I', M = am_mem L ext tx tt' fe I' G ∧ fr (6 :: FCQ) I I' ∧ ∀ k, k < 24 → I' 6 k = nI (row' k))) (hm : ∀ L ext tx tt fe I G, MJ s I → wp (g (am_mem L ext tx tt fe I G)) (fun v M => v = some r ∧ ∃ I' G', M = am_mem L ext tx tt fe I' G' ∧ mf (59 :: SQ) TQ I I' ∧ ∀ k, k < 24 → I' 59 k = nI (row' k))) : OP s f g := by
  refine ⟨setR s 1 row', r, Sok_row hs hr, fun L ext tx tt fe I G h => wp_m (hc L ext tx tt fe I G h.1) ?_, fun L ext tx tt fe I G h => wp_m (hm L ext tx tt fe I G h) ?_⟩
  · rintro v M ⟨rfl, tt', I', rfl, hf, h6⟩
    refine ⟨rfl, [], tx, tt', fe, I', G, by rw [List.append_nil], Nat.zero_le _, fun q hq => absurd hq (by simp), ?_, fun a ha => hf a (fun e => ?_)⟩
    · rw [List.append_nil]
      exact ⟨CB_row hs h.1 (fr_m hf (by decide)) h6, CA_f (s := setR s 1 row') h.2 (hf 48 (by decide)) (hf 49 (by decide)) (hf 53 (by decide)) (hf 54 (by decide))⟩
    · rcases List.mem_cons.mp e with e | e
      · omega
      · have := FCQ_in e
        omega
  · rintro v M ⟨rfl, I', G', rfl, hf, h59⟩
    refine ⟨rfl, I', G', rfl, MJ_row h hf h59, fun a ha => hf.1 a (by omega) (fun e => ?_)⟩
    rcases List.mem_cons.mp e with e | e
    · omega
    · have := SQ_in e
      omega
theorem in_m {v : Int32} {n : Nat} (hn : n < 2 ^ 31) : (¬ v.toInt64 < (0 : Int64) ∧ ¬ (nI n - 1).toInt64 < v.toInt64) ↔ (¬ v < 0 ∧ v < nI n) := by
  rw [show (0 : Int64) = (0 : Int32).toInt64 from rfl, in_i, m1_lt hn]
/-- AT -/
theorem op_at {s : St} (hs : Sok s) {a : Int32} : OP s (fun M => (am_R (2047) 74 0 M [some (Value.ref 5), some (Value.int a)] [])) (fun M => (am_R (2047) 136 0 M [some (Value.ref 55), some (Value.int a)] [])) := by
  have hs0 := hs.1
  obtain ⟨⟨C0, C4, D24⟩, -⟩ := hs0
  by_cases h : ¬ a < 0 ∧ a < nI (sD s)
  · obtain ⟨j, hj, rfl⟩ := ix_lt (by omega) h
    have hjb := ib (n := j) (N := 24) (by omega) (by decide)
    refine OP_q hs (.int (nI (srow s j))) (fun L ext tx tt fe I G hb => ?_) (fun L ext tx tt fe I G hb => ?_)
    · refine wp_e e_74_0 (wp_p s_77 (wp_e e_74_1 (wp_f (bI_y (by rw [hb.2.1.2.1]; exact h)) (wp_e e_74_2 (wp_c (by rw [hjb]; rfl) (wp_e e_74_4 (wp_r ?_)))))))
      rw [nI_clamp (n := j) (by omega), hb.2.1.2.2.2.2.2.1 j (by omega)]
      exact qc_of (fr_r _ _)
    · refine wp_e e_136_0 ?_
      rw [hb.1.2.1]
      refine wp_p s_127 (wp_e e_136_1 (wp_f (bI_y ((in_m (by omega)).mpr h)) (wp_e e_136_2 (wp_c (by rw [hjb]; rfl) (wp_e e_136_4 (wp_r ?_))))))
      rw [nI_clamp (n := j) (by omega), hb.1.2.2.2.2.2.2.1 j (by omega)]
      exact qm_of (mf_r _ _ _)
  · refine OP_q hs (.int (-2)) (fun L ext tx tt fe I G hb => ?_) (fun L ext tx tt fe I G hb => ?_)
    · exact wp_e e_74_0 (wp_p s_77 (wp_e e_74_1 (wp_t (bI_f (by rw [hb.2.1.2.1]; exact h)) (wp_e e_74_3 (wp_e e_74_4 (wp_r (qc_of (fr_r _ _))))))))
    · refine wp_e e_136_0 ?_
      rw [hb.1.2.1]
      exact wp_p s_127 (wp_e e_136_1 (wp_t (bI_f (fun e => h ((in_m (by omega)).mp e))) (wp_e e_136_3 (wp_e e_136_4 (wp_r (qm_of (mf_r _ _ _)))))))
/-- one cup laid -/
def rowl (s : St) (i c k : Nat) : Nat := if k = i then c else srow s k
theorem rowl_lt {s : St} (hs : Sok s) {i c : Nat} (hc : c < sC s) : ∀ k, k < 24 → rowl s i c k < sC s := fun k hk => by
  unfold rowl
  split
  · exact hc
  · exact hs.1.2.2.2.2.2.1 k hk
/-- LAY -/
theorem op_lay {s : St} (hs : Sok s) {a b : Int32} : OP s (fun M => (am_R (2047) 73 0 M [some (Value.ref 5), some (Value.int a), some (Value.int b), none] [])) (fun M => (am_R (2047) 135 0 M [some (Value.ref 55), some (Value.int a), some (Value.int b), none] [])) := by
  have hs0 := hs.1
  obtain ⟨⟨C0, C4, D24⟩, -⟩ := hs0
  by_cases h : (¬ a < 0 ∧ a < nI (sD s)) ∧ (¬ b < 0 ∧ b < nI (sC s))
  · obtain ⟨j, hj, rfl⟩ := ix_lt (by omega) h.1
    obtain ⟨c, hc, rfl⟩ := ix_lt (by omega) h.2
    have hjb := ib (n := j) (N := 24) (by omega) (by decide)
    refine OP_row hs (.int (nI (srow s j))) (rowl s j c) (rowl_lt hs hc) (fun L ext tx tt fe I G hb => ?_) (fun L ext tx tt fe I G hb => ?_)
    · refine wp_e e_73_0 (wp_p s_77 (wp_e e_73_1 (wp_f (bI_y (by rw [hb.2.1.2.1]; exact h.1)) (wp_e e_73_2 (wp_p s_76 (wp_e e_73_3 (wp_f (bI_y (by rw [hb.2.1.1]; exact h.2)) (wp_e e_73_5 (wp_c (by rw [hjb]; rfl) (wp_r ?_))))))))))
      rw [nI_clamp (n := j) (by omega), hb.2.1.2.2.2.2.2.1 j (by omega)]
      refine ⟨rfl, tt, _, rfl, fr_2 (by decide), fun k hk => ?_⟩
      rw [u2_k, hb.2.1.2.2.2.2.2.1 k hk]
      unfold rowl
      split <;> rfl
    · refine wp_e e_135_0 ?_
      rw [hb.1.2.1]
      refine wp_p s_127 (wp_e e_135_1 (wp_f (bI_y ((in_m (by omega)).mpr h.1)) (wp_e e_135_2 (wp_p (s_131 hb.1.1 (by omega)) (wp_e e_135_3 (wp_f (bI_y h.2) (wp_e e_135_5 (wp_c (by rw [hjb]; rfl) (wp_r ?_)))))))))
      rw [nI_clamp (n := j) (by omega), hb.1.2.2.2.2.2.2.1 j (by omega)]
      refine ⟨rfl, _, G, rfl, mf_2 (by decide) (by decide), fun k hk => ?_⟩
      rw [u2_k, hb.1.2.2.2.2.2.2.1 k hk]
      unfold rowl
      split <;> rfl
  · refine OP_q hs (.int (-2)) (fun L ext tx tt fe I G hb => ?_) (fun L ext tx tt fe I G hb => ?_)
    · have fin : wp (am_R 2047 73 4 (am_mem L ext tx tt fe I G) [some (Value.ref 5), some (Value.int a), some (Value.int b), none] []) (qC L ext tx fe I G (.int (-2))) := wp_e e_73_4 (wp_r (qc_of (fr_r _ _)))
      refine wp_e e_73_0 (wp_p s_77 (wp_e e_73_1 (wp_i (fun _ => fin) (fun h1 => wp_e e_73_2 (wp_p s_76 (wp_e e_73_3 (wp_i (fun _ => fin) (fun h2 => ?_))))))))
      have h1 := bI_n h1
      have h2 := bI_n h2
      rw [hb.2.1.2.1] at h1
      rw [hb.2.1.1] at h2
      exact absurd ⟨h1, h2⟩ h
    · have fin : wp (am_R 2047 135 4 (am_mem L ext tx tt fe I G) [some (Value.ref 55), some (Value.int a), some (Value.int b), none] []) (qM L ext tx tt fe I (.int (-2))) := wp_e e_135_4 (wp_r (qm_of (mf_r _ _ _)))
      refine wp_e e_135_0 ?_
      rw [hb.1.2.1]
      exact wp_p s_127 (wp_e e_135_1 (wp_i (fun _ => fin) (fun h1 => wp_e e_135_2 (wp_p (s_131 hb.1.1 (by omega)) (wp_e e_135_3 (wp_i (fun _ => fin) (fun h2 => absurd ⟨(in_m (by omega)).mp (bI_n h1), bI_n h2⟩ h)))))))
/-- the first dribs laid as a row says -/
def rowd (s : St) (g : Nat → Nat) (n k : Nat) : Nat := if k < n then g k else srow s k
theorem rowd_lt {s : St} (hs : Sok s) {g : Nat → Nat} {n : Nat} (hg : ∀ k, k < n → g k < sC s) : ∀ k, k < 24 → rowd s g n k < sC s := fun k hk => by
  unfold rowd
  split
  · rename_i e
    exact hg k e
  · exact hs.1.2.2.2.2.2.1 k hk
/-- FOLLOW -/
theorem op_follow {s : St} (hs : Sok s) {a : Int32} : OP s (fun M => (am_R (2047) 102 0 M [some (Value.ref 5), some (Value.int a)] [])) (fun M => (am_R (2047) 187 0 M [some (Value.ref 55), some (Value.int a), none] [])) := by
  have hs0 := hs.1
  obtain ⟨⟨C0, C4, D24⟩, -, -, P6, -⟩ := hs0
  by_cases h : ¬ a < 0 ∧ a < nI (sPn s)
  · obtain ⟨p, hp, rfl⟩ := ix_lt (by omega) h
    refine OP_row hs (.int (un (bps s p).2.1 (sC s))) (rowd s (bw s p) (sD s)) (rowd_lt hs (fun k _ => bw_lt hs)) (fun L ext tx tt fe I G hb => ?_) (fun L ext tx tt fe I G hb => ?_)
    · refine wp_e e_102_0 (wp_p s_78 (wp_e e_102_1 (wp_f (bI_y (by rw [hb.2.1.2.2.1]; exact h)) (wp_e e_102_3 (wp_c (by rw [ib (n := p) (N := 6) (by omega) (by decide)]; rfl) ?_)))))
      rw [nI_clamp (n := p) (by omega), Fx8 (by omega)]
      refine wp_e e_102_4 (wp_b (c_104 (d := 2042) hs hb hp) ?_)
      rintro v M ⟨rfl, I', tt', rfl, g1, w1, r1⟩
      refine wp_e e_102_5 ?_
      have hD : I' 5 1 = nI (sD s) := by rw [g1 5 (by decide)]; exact hb.2.1.2.1
      have hcl := nI_clamp (n := sD s) (by omega)
      have c0 : (0 : Int32).toNatClampNeg = 0 := rfl
      rw [hD, hcl, c0, decide_eq_true (show ¬ (0 : Int32) < 0 ∧ ¬ (0 : Int32) < 0 ∧ ¬ nI (sD s) < 0 ∧ 0 + sD s ≤ 24 ∧ 0 + sD s ≤ 24 from ⟨by decide, by decide, nI_pos (by omega), by omega, by omega⟩)]
      refine wp_c rfl ?_
      have h453 : (am_u1 I' 6 (va_cpy (I' 21) (I' 6) 0 0 (sD s))) 45 3 = nI (sC s) := by
        rw [u1_a (by decide)]
        exact w1.2.2.2.1
      refine wp_p (s_10 (d := 2044) h453 C0 C4) (wp_e e_102_6 (wp_r ⟨?_, tt', _, rfl, fr_t (fr_m g1 (by decide)) (fr_1 (by decide)), fun k hk => ?_⟩))
      · rw [u1_a (show (47 : Nat) ≠ 6 by decide), un_c C0 (fun j hj => w1.2.2.2.2.2.2.1 j (by omega))]
      · rw [u1_s]
        unfold rowd
        by_cases e : k < sD s
        · rw [pk_cpy_in (Nat.zero_le _) (by omega), if_pos e, show 0 + (k - 0) = k by omega, r1 k e]
        · rw [pk_cpy_out (Or.inr (by omega)), if_neg e, g1 6 (by decide)]
          exact hb.2.1.2.2.2.2.2.1 k hk
    · refine wp_e e_187_0 (wp_p (s_132 hb.1.2.2.1 (by omega)) (wp_e e_187_1 (wp_f (bI_y h) (wp_e e_187_3 (wp_b (m_185 (d := 2042) hs hb hp (by decide)) ?_)))))
      rintro v M ⟨rfl, I1, G1, rfl, g1, w1, r1⟩
      refine wp_e e_187_4 ?_
      refine wp_loop (sD s) (fun k (J : Nat → Nat → Int32) => fr [59] I1 J ∧ ∀ i, i < 24 → J 59 i = nI (rowd s (bw s p) k i)) (fun k J => wp (am_R 2047 187 5 (am_mem L ext tx tt fe J G1) [some (Value.ref 55), some (Value.int (nI p)), some (Value.int (nI k))] []) _) ?_ ?_ 0 I1 (Nat.zero_le _) ⟨fr_r _ _, fun i hi => ?_⟩
      · rintro J ⟨f2, q2⟩
        have m1 := MW_f (MW_of hs hb) g1 (by decide) (by decide) (by decide) (by decide) (by decide)
        refine wp_e e_187_5 ?_
        rw [f2 55 (by decide), m1.2.1]
        refine wp_f (nI_nlt (Nat.le_refl _) (by omega)) (wp_e e_187_7 (wp_p (s_164 (by rw [f2 55 (by decide)]; exact m1.1) C0 C4) (wp_e e_187_8 (wp_r ⟨?_, J, G1, rfl, ⟨fun x x1 x2 => ?_, fun x hx => ?_⟩, q2⟩))))
        · rw [f2 66 (by decide), un_c C0 (fun j hj => w1.2.1 j (by omega))]
        · rw [f2 x (fun e => x2 (by simp at e; rw [e]; decide))]
          exact g1.1 x x1 (fun e => x2 ((by decide : ∀ a, a ∈ (67 :: SP) → a ∈ (59 :: SQ)) x e))
        · rw [f2 55 (by decide)]
          exact g1.2 x (fun e => hx ((by decide : ∀ a, a ∈ TP → a ∈ TQ) x e))
      · rintro k J hk ⟨f2, q2⟩ hgo
        have m1 := MW_f (MW_of hs hb) g1 (by decide) (by decide) (by decide) (by decide) (by decide)
        have hkb := ib (n := k) (N := 24) (by omega) (by decide)
        refine wp_e e_187_5 ?_
        rw [f2 55 (by decide), m1.2.1]
        refine wp_t (nI_lt hk (by omega)) (wp_e e_187_6 (wp_c (by rw [hkb]; rfl) ?_))
        rw [nI_1, nI_clamp (n := k) (by omega), f2 67 (by decide), r1 k hk]
        refine hgo _ ⟨fr_t f2 (fr_2 (by decide)), fun i hi => ?_⟩
        rw [u2_k, q2 i hi]
        unfold rowd
        by_cases e : i = k
        · rw [if_pos e, e, if_pos (by omega)]
        · rw [if_neg e]
          by_cases e2 : i < k
          · rw [if_pos e2, if_pos (by omega)]
          · rw [if_neg e2, if_neg (by omega)]
      · rw [g1.1 59 (by decide) (by decide), hb.1.2.2.2.2.2.2.1 i hi]
        rfl
  · refine OP_q hs (.int (-2)) (fun L ext tx tt fe I G hb => ?_) (fun L ext tx tt fe I G hb => ?_)
    · exact wp_e e_102_0 (wp_p s_78 (wp_e e_102_1 (wp_t (bI_f (by rw [hb.2.1.2.2.1]; exact h)) (wp_e e_102_2 (wp_r (qc_of (fr_r _ _)))))))
    · exact wp_e e_187_0 (wp_p (s_132 hb.1.2.2.1 (by omega)) (wp_e e_187_1 (wp_t (bI_f h) (wp_e e_187_2 (wp_r (qm_of (mf_r _ _ _)))))))
