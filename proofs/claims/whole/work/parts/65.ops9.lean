/-! PURE, 35: SET -/
theorem in_g {v : Int32} {a b : Nat} (ha : a < 2 ^ 31) (hb : b < 2 ^ 31) : (¬ v.toInt64 < lN a ∧ ¬ lN b < v.toInt64) ↔ (¬ v < nI a ∧ ¬ nI b < v) := by
  rw [← nI_l ha, ← nI_l hb, in_i]
section B35
variable {d L : Nat} {ext : List (Nat × Nat)} {tx : Nat → Nat} {tt : Nat} {fe : Nat → Nat → Option Nat} {I : Nat → Nat → Int32} {G : Nat → Nat → Int64}
/-- the model's row, emptied -/
theorem m_zero {w v2 v3 v4 : Int32} (hw : w < 2) : wp (am_R (d) 133 35 (am_mem L ext tx tt fe I G) [some (Value.ref 55), some (Value.int w), some (Value.int v2), some (Value.int v3), some (Value.int v4), none] []) (fun v M => v = some (.int v4) ∧ ∃ I', M = (am_mem L ext tx tt fe (I') G) ∧ fr [59] I I' ∧ ∀ k, k < 24 → I' 59 k = 0) := by
  refine wp_e e_133_35 ?_
  refine wp_loop 24 (fun k J => fr [59] I J ∧ ∀ i, i < k → J 59 i = 0) (fun k J => wp (am_R d 133 36 (am_mem L ext tx tt fe (J) G) [some (Value.ref 55), some (Value.int w), some (Value.int v2), some (Value.int v3), some (Value.int v4), some (Value.int (nI k))] []) _) ?_ ?_ 0 I (by decide) ⟨fr_r _ _, fun j hj => absurd hj (Nat.not_lt_zero j)⟩
  · rintro J ⟨f1, h1⟩
    exact wp_e e_133_36 (wp_f (show ¬ nI 24 < 24 from by decide) (wp_e e_133_39 (wp_r ⟨rfl, J, rfl, f1, h1⟩)))
  · rintro k J hk ⟨f1, h1⟩ hgo
    refine wp_e e_133_36 (wp_t (show nI k < 24 from nI_lt (b := 24) hk (by decide)) (wp_e e_133_37 (wp_t hw (wp_e e_133_38 (wp_c (by rw [ib (n := k) (N := 24) hk (by decide)]; rfl) ?_)))))
    rw [nI_1, nI_clamp (n := k) (by omega)]
    refine hgo _ ⟨fr_t f1 (fr_2 (by decide)), fun j hj => ?_⟩
    rw [u2_k]
    by_cases e : j = k
    · rw [if_pos e]
    · rw [if_neg e]
      exact h1 j (by omega)
theorem m_keep {w v2 v3 v4 : Int32} (hw : ¬ w < 2) : (am_R (d) 133 35 (am_mem L ext tx tt fe I G) [some (Value.ref 55), some (Value.int w), some (Value.int v2), some (Value.int v3), some (Value.int v4), none] []) = some (some (.int v4), (am_mem L ext tx tt fe I G)) := wp_eq (wp_e e_133_35 (wp_e e_133_36 (wp_t (by decide) (wp_e e_133_37 (wp_f hw (wp_e e_133_39 (wp_r ⟨rfl, rfl⟩)))))))
theorem c_fill : (am_R (d) 214 0 (am_mem L ext tx tt fe I G) [some (Value.ref 6), some (Value.int 0), none, none] []) = some (none, (am_mem L ext tx tt fe (am_u1 I 6 (fun y => if y < 24 then 0 else I 6 y)) G)) := s_214 (r := 6) (n := 24) rfl (by decide) (by decide)
end B35
theorem Sok_z {s : St} (hs : Sok s) {k v : Nat} (hk : k = 0 ∧ 0 < v ∧ v ≤ 4 ∨ k = 1 ∧ v ≤ 24) : Sok (setN (setR s 1 (fun _ => 0)) k v) := by
  obtain ⟨⟨⟨c1, c2, c3⟩, hR, hT6, hP, hn, h5, h6, h7, h8⟩, b, c, e, f⟩ := hs
  have b' : ST (setR s 1 (fun _ => 0)) := ST_R (by decide) (by decide) b
  rcases hk with ⟨rfl, k1, k2⟩ | ⟨rfl, k1⟩
  · exact ⟨⟨⟨k1, k2, c3⟩, hR, hT6, hP, hn, fun _ _ => k1, h6, h7, h8⟩, b', c, e, f⟩
  · exact ⟨⟨⟨c1, c2, k1⟩, hR, hT6, hP, hn, fun _ _ => c1, h6, h7, h8⟩, b', c, e, f⟩
/-- the model's SET, up to its choice -/
theorem m_set {w lo hi : Nat} {b c : Int32} (hw : w = 0 ∧ lo = 1 ∧ hi = 4 ∨ w = 1 ∧ lo = 0 ∧ hi = 24) {L : Nat} {ext : List (Nat × Nat)} {tx : Nat → Nat} {tt : Nat} {fe : Nat → Nat → Option Nat} {I : Nat → Nat → Int32} {G : Nat → Nat → Int64} {Q : Option Value → am_M → Prop} (h1 : (¬ c < nI lo ∧ ¬ nI hi < c) → wp (am_R 2047 133 21 (am_mem L ext tx tt fe I G) [some (Value.ref 55), some (Value.int (nI w)), some (Value.int b), some (Value.int c), none, none] []) Q) (h2 : ¬ (¬ c < nI lo ∧ ¬ nI hi < c) → Q (some (.int (-2))) (am_mem L ext tx tt fe I G)) : wp (am_R 2047 133 0 (am_mem L ext tx tt fe I G) [some (Value.ref 55), some (Value.int (nI w)), some (Value.int b), some (Value.int c), none, none] []) Q := by
  have hw2 : nI w < 2 := nI_lt (b := 2) (by omega) (by decide)
  have hwr : ¬ nI w < 0 ∧ ¬ nI 3 < nI w := ⟨nI_pos (by omega), nI_nlt (by omega) (by decide)⟩
  have hw2' : ¬ nI w = 2 := (fa_of_lt hw2).2.2.2.1
  have hw3 : ¬ nI w = 3 := fun e => by rw [e] at hw2; exact absurd hw2 (by decide)
  have fin : wp (am_R 2047 133 18 (am_mem L ext tx tt fe I G) [some (Value.ref 55), some (Value.int (nI w)), some (Value.int b), some (Value.int c), none, none] [Value.long (lN hi), Value.long (lN lo), Value.long c.toInt64]) Q := by
    have hl : lo < 2 ^ 31 ∧ hi < 2 ^ 31 := by omega
    refine wp_e e_133_18 (wp_p s_127 (wp_e e_133_19 (wp_i (fun e => ?_) (fun e => h1 ((in_g hl.1 hl.2).mp (bI_n e))))))
    exact wp_e e_133_20 (wp_r (h2 (fun q => bI_0.mp e ((in_g hl.1 hl.2).mpr q))))
  refine wp_e e_133_0 (wp_p s_127 (wp_e e_133_1 (wp_f (bI_y ((in_k (k := 3) (by decide)).mpr hwr)) (wp_e e_133_2 (wp_f hw2' (wp_e e_133_5 (wp_f hw3 (wp_e e_133_8 ?_))))))))
  rcases hw with ⟨rfl, rfl, rfl⟩ | ⟨rfl, rfl, rfl⟩
  · exact wp_t rfl (wp_e e_133_9 (wp_e e_133_11 (wp_t rfl (wp_e e_133_12 fin))))
  · exact wp_f (by decide) (wp_e e_133_10 (wp_e e_133_11 (wp_f (by decide) (wp_e e_133_13 (wp_t rfl (wp_e e_133_14 fin))))))
/-- SET, cups -/
theorem op_set0 {s : St} (hs : Sok s) {b c : Int32} : OP s (fun M => (am_R (2047) 67 0 M [some (Value.ref 5), some (Value.int (nI 0)), some (Value.int b), some (Value.int c)] [])) (fun M => (am_R (2047) 133 0 M [some (Value.ref 55), some (Value.int (nI 0)), some (Value.int b), some (Value.int c), none, none] [])) := by
  by_cases h : ¬ c < nI 1 ∧ ¬ nI 4 < c
  · have hc0 : ¬ c < 0 := fun e => h.1 (by
      rw [fa_lt] at e ⊢
      rw [nI_toInt (by omega)]
      have a : (0 : Int32).toInt = 0 := rfl
      omega)
    obtain ⟨v, v1, rfl⟩ := ix_le (by omega) ⟨hc0, h.2⟩
    have v0 : 1 ≤ v := by
      apply Decidable.byContradiction
      intro e
      exact h.1 (nI_lt (by omega) (by omega))
    have hs' := Sok_z hs (k := 0) (v := v) (by omega)
    refine OP_g (s := s) (.int (nI (s.1 0))) hs' rfl rfl (fun L ext tx tt fe I G hb => ?_) (fun L ext tx tt fe I G hb => m_set (by decide) (fun _ => ?_) (fun e => absurd h e))
    · have ff : fr [5, 6] I (am_u1 (am_u2 I 5 0 (nI v)) 6 (fun y => if y < 24 then 0 else am_u2 I 5 0 (nI v) 6 y)) := fr_t (fr_2 (by decide)) (fr_1 (by decide))
      have e5 : ∀ k, (am_u1 (am_u2 I 5 0 (nI v)) 6 (fun y => if y < 24 then 0 else am_u2 I 5 0 (nI v) 6 y)) 5 k = if k = 0 then nI v else I 5 k := fun k => by rw [u1_a (by decide), u2_k]
      obtain ⟨b1, b2, b3, b4, b5, b6, b7, b8⟩ := hb.2.1
      refine wp_e e_67_0 ?_
      refine wp_t rfl (wp_e e_67_1 (wp_p (wp_eq (wp_e e_68_0 (wp_f h.1 (wp_e e_68_1 (wp_f h.2 (wp_e e_68_3 (wp_p c_fill (wp_e e_68_4 (wp_r ⟨rfl, rfl⟩))))))))) (wp_e e_67_2 (wp_r ?_))))
      rw [b1]
      refine ⟨rfl, tt, _, rfl, CB_o hb ff (by decide) ⟨(e5 0).trans ?_, (e5 1).trans ?_, (e5 5).trans b3, (e5 7).trans b4, (e5 8).trans b5, fun k hk => ?_, by rw [ff 7 (by decide)]; exact b7, fun p hp => ?_⟩ ⟨hb.2.2.1.1, by rw [ff 10 (by decide)]; exact hb.2.2.1.2.1, by rw [ff 11 (by decide)]; exact hb.2.2.1.2.2⟩ rfl rfl rfl rfl rfl (fun q => q), [5, 6], ff, by decide⟩
      · rfl
      · exact b2
      · rw [u1_s, if_pos hk]
        rfl
      · have hp2 : p < sPn s := hp
        have hP := hs.1.2.2.2.1
        rw [ff (28 + p) (by simp; omega)]
        exact b8 p hp
    · obtain ⟨b1, b2, b3, b4, b5, b6, b7, b8, b9, b10⟩ := hb.1
      refine wp_e e_133_21 ?_
      have key : ∀ v4, v4 = nI (s.1 0) → wp (am_R 2047 133 35 (am_mem L ext tx tt fe (am_u2 I 55 7 (nI v)) G) [some (Value.ref 55), some (Value.int (nI 0)), some (Value.int b), some (Value.int (nI v)), some (Value.int v4), none] []) (fun v' M => v' = some (.int (nI (s.1 0))) ∧ ∃ I' G', M = am_mem L ext tx tt fe I' G' ∧ MJ (setN (setR s 1 (fun _ => 0)) 0 v) I' ∧ ∃ S : List Nat, fr S I I' ∧ ∀ a, a ∈ S → 55 ≤ a ∧ a ≤ 76) := by
        intro v4 hv
        refine wp_m (m_zero (by decide)) ?_
        rintro v' M ⟨rfl, I', rfl, f1, z⟩
        have ff : fr [55, 59] I I' := fr_t (fr_2 (by decide)) (fr_m f1 (by decide))
        have fk : ∀ k, I' 55 k = if k = 7 then nI v else I 55 k := fun k => by rw [f1 55 (by decide), u2_k]
        refine ⟨by rw [hv], I', G, rfl, MJ_o hb ff (by decide) (fun k hk => by rw [fk k, if_neg (by omega)]) ⟨(fk 7).trans ?_, (fk 8).trans ?_, (fk 12).trans b3, (fk 3).trans b4, (fk 4).trans b5, (fk 6).trans b6, fun k hk => ?_, by rw [ff 62 (by decide)]; exact b8, by rw [ff 60 (by decide), ff 61 (by decide)]; exact b9, by rw [ff 58 (by decide)]; exact b10⟩ rfl (fun t => stb_R (by decide)) rfl rfl rfl rfl (fun q => q), [55, 59], ff, by decide⟩
        · rfl
        · exact b2
        · rw [z k hk]
          rfl
      exact wp_t rfl (wp_e e_133_22 (wp_e e_133_28 (wp_t rfl (wp_e e_133_29 (key _ b1)))))
  · refine OP_q hs (.int (-2)) (fun L ext tx tt fe I G hb => ?_) (fun L ext tx tt fe I G hb => m_set (by decide) (fun e => absurd e h) (fun _ => qm_of (mf_r _ _ _)))
    refine wp_e e_67_0 ?_
    have fin : wp (am_R 2046 68 2 (am_mem L ext tx tt fe I G) [some (Value.ref 5), some (Value.int c), none] []) (fun v' M => v' = some (.int (-2)) ∧ M = am_mem L ext tx tt fe I G) := wp_e e_68_2 (wp_r ⟨rfl, rfl⟩)
    exact wp_t rfl (wp_e e_67_1 (wp_p (wp_eq (wp_e e_68_0 (wp_i (fun _ => fin) (fun h1 => wp_e e_68_1 (wp_i (fun _ => fin) (fun h2 => absurd ⟨h1, h2⟩ h)))))) (wp_e e_67_2 (wp_r (qc_of (fr_r _ _))))))
/-- SET, dribs -/
theorem op_set1 {s : St} (hs : Sok s) {b c : Int32} : OP s (fun M => (am_R (2047) 67 0 M [some (Value.ref 5), some (Value.int (nI 1)), some (Value.int b), some (Value.int c)] [])) (fun M => (am_R (2047) 133 0 M [some (Value.ref 55), some (Value.int (nI 1)), some (Value.int b), some (Value.int c), none, none] [])) := by
  by_cases h : ¬ c < nI 0 ∧ ¬ nI 24 < c
  · have hc0 : ¬ c < 0 := fun e => h.1 (by
      rw [fa_lt] at e ⊢
      rw [nI_toInt (by omega)]
      have a : (0 : Int32).toInt = 0 := rfl
      omega)
    obtain ⟨v, v1, rfl⟩ := ix_le (by omega) ⟨hc0, h.2⟩
    have v0 : 0 ≤ v := by
      apply Decidable.byContradiction
      intro e
      exact h.1 (nI_lt (by omega) (by omega))
    have hs' := Sok_z hs (k := 1) (v := v) (by omega)
    refine OP_g (s := s) (.int (nI (s.1 1))) hs' rfl rfl (fun L ext tx tt fe I G hb => ?_) (fun L ext tx tt fe I G hb => m_set (by decide) (fun _ => ?_) (fun e => absurd h e))
    · have ff : fr [5, 6] I (am_u1 (am_u2 I 5 1 (nI v)) 6 (fun y => if y < 24 then 0 else am_u2 I 5 1 (nI v) 6 y)) := fr_t (fr_2 (by decide)) (fr_1 (by decide))
      have e5 : ∀ k, (am_u1 (am_u2 I 5 1 (nI v)) 6 (fun y => if y < 24 then 0 else am_u2 I 5 1 (nI v) 6 y)) 5 k = if k = 1 then nI v else I 5 k := fun k => by rw [u1_a (by decide), u2_k]
      obtain ⟨b1, b2, b3, b4, b5, b6, b7, b8⟩ := hb.2.1
      refine wp_e e_67_0 ?_
      rw [if_neg (show ¬ nI 1 = 0 by decide)]
      refine wp_t rfl (wp_e e_67_3 (wp_p (wp_eq (wp_e e_69_0 (wp_f h.1 (wp_e e_69_1 (wp_f h.2 (wp_e e_69_3 (wp_p c_fill (wp_e e_69_4 (wp_r ⟨rfl, rfl⟩))))))))) (wp_e e_67_4 (wp_r ?_))))
      rw [b2]
      refine ⟨rfl, tt, _, rfl, CB_o hb ff (by decide) ⟨(e5 0).trans ?_, (e5 1).trans ?_, (e5 5).trans b3, (e5 7).trans b4, (e5 8).trans b5, fun k hk => ?_, by rw [ff 7 (by decide)]; exact b7, fun p hp => ?_⟩ ⟨hb.2.2.1.1, by rw [ff 10 (by decide)]; exact hb.2.2.1.2.1, by rw [ff 11 (by decide)]; exact hb.2.2.1.2.2⟩ rfl rfl rfl rfl rfl (fun q => q), [5, 6], ff, by decide⟩
      · exact b1
      · rfl
      · rw [u1_s, if_pos hk]
        rfl
      · have hp2 : p < sPn s := hp
        have hP := hs.1.2.2.2.1
        rw [ff (28 + p) (by simp; omega)]
        exact b8 p hp
    · obtain ⟨b1, b2, b3, b4, b5, b6, b7, b8, b9, b10⟩ := hb.1
      refine wp_e e_133_21 ?_
      have key : ∀ v4, v4 = nI (s.1 1) → wp (am_R 2047 133 35 (am_mem L ext tx tt fe (am_u2 I 55 8 (nI v)) G) [some (Value.ref 55), some (Value.int (nI 1)), some (Value.int b), some (Value.int (nI v)), some (Value.int v4), none] []) (fun v' M => v' = some (.int (nI (s.1 1))) ∧ ∃ I' G', M = am_mem L ext tx tt fe I' G' ∧ MJ (setN (setR s 1 (fun _ => 0)) 1 v) I' ∧ ∃ S : List Nat, fr S I I' ∧ ∀ a, a ∈ S → 55 ≤ a ∧ a ≤ 76) := by
        intro v4 hv
        refine wp_m (m_zero (by decide)) ?_
        rintro v' M ⟨rfl, I', rfl, f1, z⟩
        have ff : fr [55, 59] I I' := fr_t (fr_2 (by decide)) (fr_m f1 (by decide))
        have fk : ∀ k, I' 55 k = if k = 8 then nI v else I 55 k := fun k => by rw [f1 55 (by decide), u2_k]
        refine ⟨by rw [hv], I', G, rfl, MJ_o hb ff (by decide) (fun k hk => by rw [fk k, if_neg (by omega)]) ⟨(fk 7).trans ?_, (fk 8).trans ?_, (fk 12).trans b3, (fk 3).trans b4, (fk 4).trans b5, (fk 6).trans b6, fun k hk => ?_, by rw [ff 62 (by decide)]; exact b8, by rw [ff 60 (by decide), ff 61 (by decide)]; exact b9, by rw [ff 58 (by decide)]; exact b10⟩ rfl (fun t => stb_R (by decide)) rfl rfl rfl rfl (fun q => q), [55, 59], ff, by decide⟩
        · exact b1
        · rfl
        · rw [z k hk]
          rfl
      exact wp_f (by decide) (wp_e e_133_23 (wp_t rfl (wp_e e_133_24 (wp_e e_133_28 (wp_f (by decide) (wp_e e_133_30 (wp_t rfl (wp_e e_133_31 (key _ b2)))))))))
  · refine OP_q hs (.int (-2)) (fun L ext tx tt fe I G hb => ?_) (fun L ext tx tt fe I G hb => m_set (by decide) (fun e => absurd e h) (fun _ => qm_of (mf_r _ _ _)))
    refine wp_e e_67_0 ?_
    rw [if_neg (show ¬ nI 1 = 0 by decide)]
    have fin : wp (am_R 2046 69 2 (am_mem L ext tx tt fe I G) [some (Value.ref 5), some (Value.int c), none] []) (fun v' M => v' = some (.int (-2)) ∧ M = am_mem L ext tx tt fe I G) := wp_e e_69_2 (wp_r ⟨rfl, rfl⟩)
    exact wp_t rfl (wp_e e_67_3 (wp_p (wp_eq (wp_e e_69_0 (wp_i (fun _ => fin) (fun h1 => wp_e e_69_1 (wp_i (fun _ => fin) (fun h2 => absurd ⟨h1, h2⟩ h)))))) (wp_e e_67_4 (wp_r (qc_of (fr_r _ _))))))
