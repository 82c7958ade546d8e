/-! PURE, 36: SET, numbers and prices -/
/-- SET, a pourer's number -/
theorem op_set2 {s : St} (hs : Sok s) {a c : Int32} : OP s (fun M => (am_R (2047) 67 0 M [some (Value.ref 5), some (Value.int (nI 2)), some (Value.int a), some (Value.int c)] [])) (fun M => (am_R (2047) 133 0 M [some (Value.ref 55), some (Value.int (nI 2)), some (Value.int a), some (Value.int c), none, none] [])) := by
  have hs0 := hs.1
  obtain ⟨hC, hR, hT6, hP, hn, h5, h6, h7, h8⟩ := hs0
  have m0 : ∀ {L ext tx tt fe I G} {Q : Option Value → am_M → Prop}, wp (am_R 2047 133 3 (am_mem L ext tx tt fe I G) [some (Value.ref 55), some (Value.int (nI 2)), some (Value.int a), some (Value.int c), none, none] []) Q → wp (am_R 2047 133 0 (am_mem L ext tx tt fe I G) [some (Value.ref 55), some (Value.int (nI 2)), some (Value.int a), some (Value.int c), none, none] []) Q := fun k => wp_e e_133_0 (wp_p s_127 (wp_e e_133_1 (wp_f (bI_y ((in_k (k := 3) (by decide)).mpr (by decide))) (wp_e e_133_2 (wp_t rfl k)))))
  have m5 : ∀ {L ext tx tt fe I G} {Q : Option Value → am_M → Prop}, ((¬ c < 0 ∧ ¬ nI 9 < c) → wp (am_R 2047 133 21 (am_mem L ext tx tt fe I G) [some (Value.ref 55), some (Value.int (nI 2)), some (Value.int a), some (Value.int c), none, none] []) Q) → (¬ (¬ c < 0 ∧ ¬ nI 9 < c) → Q (some (.int (-2))) (am_mem L ext tx tt fe I G)) → wp (am_R 2047 133 5 (am_mem L ext tx tt fe I G) [some (Value.ref 55), some (Value.int (nI 2)), some (Value.int a), some (Value.int c), none, none] []) Q := fun h1 h2 => wp_e e_133_5 (wp_f (by decide) (wp_e e_133_8 (wp_f (by decide) (wp_e e_133_10 (wp_e e_133_11 (wp_f (by decide) (wp_e e_133_13 (wp_f (by decide) (wp_e e_133_15 (wp_t rfl (wp_e e_133_16 (wp_e e_133_18 (wp_p s_127 (wp_e e_133_19 (wp_i (fun e => wp_e e_133_20 (wp_r (h2 (fun q => bI_0.mp e ((in_k (k := 9) (by decide)).mpr q))))) (fun e => h1 ((in_k (k := 9) (by decide)).mp (bI_n e))))))))))))))))))
  by_cases h : (¬ a < 0 ∧ a < nI (sPn s)) ∧ (¬ c < 0 ∧ ¬ nI 9 < c)
  · obtain ⟨p, hp, rfl⟩ := ix_lt (by omega) h.1
    obtain ⟨v, hv, rfl⟩ := ix_le (by decide) h.2
    have hib := ib (n := p) (N := 6) (by omega) (by decide)
    have hcl := nI_clamp (n := p) (by omega)
    have hs' : Sok (setR s 4 (updf (snu s) p v)) := by
      refine ⟨⟨hC, hR, hT6, hP, hn, h5, h6, fun j hj => ?_, h8⟩, ST_R (by decide) (by decide) hs.2.1, hs.2.2.1, hs.2.2.2.1, hs.2.2.2.2⟩
      show skd s j < 6 ∧ updf (snu s) p v j ≤ 9
      unfold updf
      refine ⟨(h7 j hj).1, ?_⟩
      split
      · exact hv
      · exact (h7 j hj).2
    refine OP_g (s := s) (.int (nI (snu s p))) hs' rfl rfl (fun L ext tx tt fe I G hb => ?_) (fun L ext tx tt fe I G hb => m0 ?_)
    · obtain ⟨b1, b2, b3, b4, b5, b6, b7, b8⟩ := hb.2.1
      have hsp := sp28 (L := L) (ext := ext) (p := p) (by omega)
      have h5p : Nat.ble 5 (28 + p) = true := Nat.ble_eq_true_of_le (by omega)
      refine wp_e e_67_0 ?_
      rw [if_neg (show ¬ nI 2 = 0 by decide), if_neg (show ¬ nI 2 = 1 by decide)]
      have r70 : wp (am_R 2046 70 0 (am_mem L ext tx tt fe I G) [some (Value.ref 5), some (Value.int (nI p)), some (Value.int (nI v)), none] []) (fun v' M => v' = some (.int (nI (snu s p))) ∧ M = am_mem L ext tx tt fe (am_u2 I (28 + p) 1 (nI v)) G) := by
        refine wp_e e_70_0 (wp_p s_78 (wp_e e_70_1 (wp_f (bI_y (by rw [b3]; exact h.1)) (wp_e e_70_2 (wp_f h.2.1 (wp_e e_70_3 (wp_f h.2.2 (wp_e e_70_5 (wp_c (by rw [hib]; rfl) ?_)))))))))
        rw [hcl, Fx8 (by omega)]
        refine wp_e e_70_6 (wp_c (by rw [hib, kd_of hsp]; rfl) ?_)
        rw [hcl, Fx8 (by omega), (b8 p hp).2]
        exact wp_e e_70_7 (wp_c (by rw [kd_of hsp, h5p]; rfl) (wp_r ⟨rfl, rfl⟩))
      refine wp_t rfl (wp_e e_67_5 (wp_p (wp_eq r70) (wp_e e_67_6 (wp_r ?_))))
      have ff : fr [28 + p] I (am_u2 I (28 + p) 1 (nI v)) := fr_2 (by simp)
      have fS : ∀ x, x ∈ [28 + p] → x = 28 + p := fun x hx => by simpa using hx
      have fn : ∀ x, x < 28 → am_u2 I (28 + p) 1 (nI v) x = I x := fun x hx => u2_a (by omega)
      refine ⟨rfl, tt, _, rfl, CB_o hb ff (fun x hx => by have := fS x hx; omega) ⟨by rw [fn 5 (by decide)]; exact b1, by rw [fn 5 (by decide)]; exact b2, by rw [fn 5 (by decide)]; exact b3, by rw [fn 5 (by decide)]; exact b4, by rw [fn 5 (by decide)]; exact b5, by rw [fn 6 (by decide)]; exact b6, by rw [fn 7 (by decide)]; exact b7, fun j hj => ?_⟩ ⟨hb.2.2.1.1, by rw [fn 10 (by decide)]; exact hb.2.2.1.2.1, by rw [fn 11 (by decide)]; exact hb.2.2.1.2.2⟩ rfl rfl rfl rfl rfl (fun z => z), [28 + p], ff, fun x hx => by have := fS x hx; omega⟩
      show _ = nI (skd s j) ∧ _ = nI (updf (snu s) p v j)
      unfold updf
      by_cases e : j = p
      · rw [e, u2_s, u2_k, if_neg (by decide), if_pos rfl]
        exact ⟨(b8 p hp).1, rfl⟩
      · rw [if_neg e, u2_a (show 28 + j ≠ 28 + p by omega)]
        exact b8 j hj
    · obtain ⟨b1, b2, b3, b4, b5, b6, b7, b8, b9, b10⟩ := hb.1
      refine wp_e e_133_3 (wp_p (s_132 b3 (by omega)) (wp_e e_133_4 (wp_f (bI_y h.1) (m5 (fun _ => ?_) (fun e => absurd h.2 e)))))
      refine wp_e e_133_21 (wp_f (by decide) (wp_e e_133_23 (wp_f (by decide) (wp_e e_133_25 (wp_t rfl (wp_e e_133_26 (wp_c (by rw [hib]; rfl) ?_)))))))
      rw [hcl, (b9 p hp).2]
      refine wp_e e_133_28 (wp_f (by decide) (wp_e e_133_30 (wp_f (by decide) (wp_e e_133_32 (wp_t rfl (wp_e e_133_33 (wp_c (by rw [hib]; rfl) ?_)))))))
      rw [hcl]
      refine wp_e (m_keep (by decide)) (wp_r ?_)
      have ff : fr [61] I (am_u2 I 61 p (nI v)) := fr_2 (by decide)
      refine ⟨rfl, _, G, rfl, MJ_o hb ff (by decide) (fun k hk => by rw [ff 55 (by decide)]) ⟨by rw [ff 55 (by decide)]; exact b1, by rw [ff 55 (by decide)]; exact b2, by rw [ff 55 (by decide)]; exact b3, by rw [ff 55 (by decide)]; exact b4, by rw [ff 55 (by decide)]; exact b5, by rw [ff 55 (by decide)]; exact b6, by rw [ff 59 (by decide)]; exact b7, by rw [ff 62 (by decide)]; exact b8, fun j hj => ?_, by rw [ff 58 (by decide)]; exact b10⟩ rfl (fun t => stb_R (by decide)) rfl rfl rfl rfl (fun z => z), [61], ff, by decide⟩
      show _ = nI (skd s j) ∧ _ = nI (updf (snu s) p v j)
      unfold updf
      rw [ff 60 (by decide), u2_k]
      by_cases e : j = p
      · rw [if_pos e, if_pos e]
        exact ⟨(b9 j hj).1, rfl⟩
      · rw [if_neg e, if_neg e]
        exact b9 j hj
  · refine OP_q hs (.int (-2)) (fun L ext tx tt fe I G hb => ?_) (fun L ext tx tt fe I G hb => m0 ?_)
    · have b3 := hb.2.1.2.2.1
      refine wp_e e_67_0 ?_
      rw [if_neg (show ¬ nI 2 = 0 by decide), if_neg (show ¬ nI 2 = 1 by decide)]
      have fin : wp (am_R 2046 70 4 (am_mem L ext tx tt fe I G) [some (Value.ref 5), some (Value.int a), some (Value.int c), none] []) (fun v' M => v' = some (.int (-2)) ∧ M = am_mem L ext tx tt fe I G) := wp_e e_70_4 (wp_r ⟨rfl, rfl⟩)
      refine wp_t rfl (wp_e e_67_5 (wp_p (wp_eq (wp_e e_70_0 (wp_p s_78 (wp_e e_70_1 (wp_i (fun _ => fin) (fun h1 => wp_e e_70_2 (wp_i (fun _ => fin) (fun h2 => wp_e e_70_3 (wp_i (fun _ => fin) (fun h3 => ?_)))))))))) (wp_e e_67_6 (wp_r (qc_of (fr_r _ _))))))
      have h1 := bI_n h1
      rw [b3] at h1
      exact absurd ⟨h1, h2, h3⟩ h
    · refine wp_e e_133_3 (wp_p (s_132 hb.1.2.2.1 (by omega)) (wp_e e_133_4 (wp_i (fun _ => wp_e e_133_20 (wp_r (qm_of (mf_r _ _ _)))) (fun h1 => m5 (fun h2 => absurd ⟨bI_n h1, h2⟩ h) (fun _ => qm_of (mf_r _ _ _))))))
/-- SET, a price -/
theorem op_set3 {s : St} (hs : Sok s) {a c : Int32} : OP s (fun M => (am_R (2047) 67 0 M [some (Value.ref 5), some (Value.int (nI 3)), some (Value.int a), some (Value.int c)] [])) (fun M => (am_R (2047) 133 0 M [some (Value.ref 55), some (Value.int (nI 3)), some (Value.int a), some (Value.int c), none, none] [])) := by
  have hs0 := hs.1
  obtain ⟨hC, hR, hT6, hP, hn, h5, h6, h7, h8⟩ := hs0
  have m0 : ∀ {L ext tx tt fe I G} {Q : Option Value → am_M → Prop}, wp (am_R 2047 133 6 (am_mem L ext tx tt fe I G) [some (Value.ref 55), some (Value.int (nI 3)), some (Value.int a), some (Value.int c), none, none] []) Q → wp (am_R 2047 133 0 (am_mem L ext tx tt fe I G) [some (Value.ref 55), some (Value.int (nI 3)), some (Value.int a), some (Value.int c), none, none] []) Q := fun k => wp_e e_133_0 (wp_p s_127 (wp_e e_133_1 (wp_f (bI_y ((in_k (k := 3) (by decide)).mpr (by decide))) (wp_e e_133_2 (wp_f (by decide) (wp_e e_133_5 (wp_t rfl k)))))))
  have m5 : ∀ {L ext tx tt fe I G} {Q : Option Value → am_M → Prop}, ((¬ c < 0 ∧ ¬ nI 99 < c) → wp (am_R 2047 133 21 (am_mem L ext tx tt fe I G) [some (Value.ref 55), some (Value.int (nI 3)), some (Value.int a), some (Value.int c), none, none] []) Q) → (¬ (¬ c < 0 ∧ ¬ nI 99 < c) → Q (some (.int (-2))) (am_mem L ext tx tt fe I G)) → wp (am_R 2047 133 8 (am_mem L ext tx tt fe I G) [some (Value.ref 55), some (Value.int (nI 3)), some (Value.int a), some (Value.int c), none, none] []) Q := fun h1 h2 => wp_e e_133_8 (wp_f (by decide) (wp_e e_133_10 (wp_e e_133_11 (wp_f (by decide) (wp_e e_133_13 (wp_f (by decide) (wp_e e_133_15 (wp_f (by decide) (wp_e e_133_17 (wp_e e_133_18 (wp_p s_127 (wp_e e_133_19 (wp_i (fun e => wp_e e_133_20 (wp_r (h2 (fun q => bI_0.mp e ((in_k (k := 99) (by decide)).mpr q))))) (fun e => h1 ((in_k (k := 99) (by decide)).mp (bI_n e))))))))))))))))
  have i7 : ∀ x : Int32, (¬ x < 0 ∧ ¬ nI 7 < x) ↔ (¬ x < 0 ∧ x < (8 : Int32)) := fun x => by
    rw [show (8 : Int32) = nI 8 from rfl]
    constructor
    · intro q
      obtain ⟨j, j1, rfl⟩ := ix_le (by decide) q
      exact ⟨q.1, nI_lt (by omega) (by decide)⟩
    · intro q
      obtain ⟨j, j1, rfl⟩ := ix_lt (by decide) q
      exact ⟨q.1, nI_nlt (by omega) (by decide)⟩
  by_cases h : (¬ a < 0 ∧ a < (8 : Int32)) ∧ (¬ c < 0 ∧ ¬ nI 99 < c)
  · obtain ⟨p, hp, rfl⟩ := ix_lt (n := 8) (by omega) h.1
    obtain ⟨v, hv, rfl⟩ := ix_le (by decide) h.2
    have hib := ib (n := p) (N := 8) (by omega) (by decide)
    have hcl := nI_clamp (n := p) (by omega)
    have hs' : Sok (setR s 2 (updf (spr s) p v)) := by
      refine ⟨⟨hC, hR, hT6, hP, hn, h5, fun j hj => ?_, h7, h8⟩, ST_R (by decide) (by decide) hs.2.1, hs.2.2.1, hs.2.2.2.1, hs.2.2.2.2⟩
      show updf (spr s) p v j ≤ 99
      unfold updf
      split
      · exact hv
      · exact h6 j hj
    refine OP_g (s := s) (.int (nI (spr s p))) hs' rfl rfl (fun L ext tx tt fe I G hb => ?_) (fun L ext tx tt fe I G hb => m0 ?_)
    · obtain ⟨b1, b2, b3, b4, b5, b6, b7, b8⟩ := hb.2.1
      refine wp_e e_67_0 ?_
      rw [if_neg (show ¬ nI 3 = 0 by decide), if_neg (show ¬ nI 3 = 1 by decide), if_neg (show ¬ nI 3 = 2 by decide)]
      have r71 : wp (am_R 2046 71 0 (am_mem L ext tx tt fe I G) [some (Value.ref 5), some (Value.int (nI p)), some (Value.int (nI v)), none] []) (fun v' M => v' = some (.int (nI (spr s p))) ∧ M = am_mem L ext tx tt fe (am_u2 I 7 p (nI v)) G) := by
        refine wp_e e_71_0 (wp_p s_80 (wp_e e_71_1 (wp_f (bI_y h.1) (wp_e e_71_2 (wp_f h.2.1 (wp_e e_71_3 (wp_f h.2.2 (wp_e e_71_5 (wp_c (by rw [hib]; rfl) (wp_r ?_))))))))))
        rw [hcl, b7 p hp]
        exact ⟨rfl, rfl⟩
      refine wp_t rfl (wp_e e_67_7 (wp_p (wp_eq r71) (wp_e e_67_8 (wp_r ?_))))
      have ff : fr [7] I (am_u2 I 7 p (nI v)) := fr_2 (by decide)
      refine ⟨rfl, tt, _, rfl, CB_o hb ff (by decide) ⟨by rw [ff 5 (by decide)]; exact b1, by rw [ff 5 (by decide)]; exact b2, by rw [ff 5 (by decide)]; exact b3, by rw [ff 5 (by decide)]; exact b4, by rw [ff 5 (by decide)]; exact b5, by rw [ff 6 (by decide)]; exact b6, fun j hj => ?_, fun j hj => by rw [ff (28 + j) (by simp; omega)]; exact b8 j hj⟩ ⟨hb.2.2.1.1, by rw [ff 10 (by decide)]; exact hb.2.2.1.2.1, by rw [ff 11 (by decide)]; exact hb.2.2.1.2.2⟩ rfl rfl rfl rfl rfl (fun z => z), [7], ff, by decide⟩
      show _ = nI (updf (spr s) p v j)
      unfold updf
      rw [u2_k]
      by_cases e : j = p
      · rw [if_pos e, if_pos e]
      · rw [if_neg e, if_neg e]
        exact b7 j hj
    · obtain ⟨b1, b2, b3, b4, b5, b6, b7, b8, b9, b10⟩ := hb.1
      refine wp_e e_133_6 (wp_p s_127 (wp_e e_133_7 (wp_f (bI_y ((in_k (k := 7) (by decide)).mpr ((i7 _).mpr h.1))) (m5 (fun _ => ?_) (fun e => absurd h.2 e)))))
      refine wp_e e_133_21 (wp_f (by decide) (wp_e e_133_23 (wp_f (by decide) (wp_e e_133_25 (wp_f (by decide) (wp_e e_133_27 (wp_c (by rw [hib]; rfl) ?_)))))))
      rw [hcl, b8 p hp]
      refine wp_e e_133_28 (wp_f (by decide) (wp_e e_133_30 (wp_f (by decide) (wp_e e_133_32 (wp_f (by decide) (wp_e e_133_34 (wp_c (by rw [hib]; rfl) ?_)))))))
      rw [hcl]
      refine wp_e (m_keep (by decide)) (wp_r ?_)
      have ff : fr [62] I (am_u2 I 62 p (nI v)) := fr_2 (by decide)
      refine ⟨rfl, _, G, rfl, MJ_o hb ff (by decide) (fun k hk => by rw [ff 55 (by decide)]) ⟨by rw [ff 55 (by decide)]; exact b1, by rw [ff 55 (by decide)]; exact b2, by rw [ff 55 (by decide)]; exact b3, by rw [ff 55 (by decide)]; exact b4, by rw [ff 55 (by decide)]; exact b5, by rw [ff 55 (by decide)]; exact b6, by rw [ff 59 (by decide)]; exact b7, fun j hj => ?_, by rw [ff 60 (by decide), ff 61 (by decide)]; exact b9, by rw [ff 58 (by decide)]; exact b10⟩ rfl (fun t => stb_R (by decide)) rfl rfl rfl rfl (fun z => z), [62], ff, by decide⟩
      show _ = nI (updf (spr s) p v j)
      unfold updf
      rw [u2_k]
      by_cases e : j = p
      · rw [if_pos e, if_pos e]
      · rw [if_neg e, if_neg e]
        exact b8 j hj
  · refine OP_q hs (.int (-2)) (fun L ext tx tt fe I G hb => ?_) (fun L ext tx tt fe I G hb => m0 ?_)
    · refine wp_e e_67_0 ?_
      rw [if_neg (show ¬ nI 3 = 0 by decide), if_neg (show ¬ nI 3 = 1 by decide), if_neg (show ¬ nI 3 = 2 by decide)]
      have fin : wp (am_R 2046 71 4 (am_mem L ext tx tt fe I G) [some (Value.ref 5), some (Value.int a), some (Value.int c), none] []) (fun v' M => v' = some (.int (-2)) ∧ M = am_mem L ext tx tt fe I G) := wp_e e_71_4 (wp_r ⟨rfl, rfl⟩)
      exact wp_t rfl (wp_e e_67_7 (wp_p (wp_eq (wp_e e_71_0 (wp_p s_80 (wp_e e_71_1 (wp_i (fun _ => fin) (fun h1 => wp_e e_71_2 (wp_i (fun _ => fin) (fun h2 => wp_e e_71_3 (wp_i (fun _ => fin) (fun h3 => absurd ⟨bI_n h1, h2, h3⟩ h)))))))))) (wp_e e_67_8 (wp_r (qc_of (fr_r _ _))))))
    · exact wp_e e_133_6 (wp_p s_127 (wp_e e_133_7 (wp_i (fun _ => wp_e e_133_20 (wp_r (qm_of (mf_r _ _ _)))) (fun h1 => m5 (fun h2 => absurd ⟨(i7 _).mp ((in_k (k := 7) (by decide)).mp (bI_n h1)), h2⟩ h) (fun _ => qm_of (mf_r _ _ _))))))
/-- SET -/
theorem op_set {s : St} (hs : Sok s) {w a c : Int32} : OP s (fun M => (am_R (2047) 67 0 M [some (Value.ref 5), some (Value.int w), some (Value.int a), some (Value.int c)] [])) (fun M => (am_R (2047) 133 0 M [some (Value.ref 55), some (Value.int w), some (Value.int a), some (Value.int c), none, none] [])) := by
  by_cases h : ¬ w < 0 ∧ ¬ nI 3 < w
  · obtain ⟨j, j1, rfl⟩ := ix_le (by decide) h
    obtain rfl | rfl | rfl | rfl : j = 0 ∨ j = 1 ∨ j = 2 ∨ j = 3 := by omega
    · exact op_set0 hs
    · exact op_set1 hs
    · exact op_set2 hs
    · exact op_set3 hs
  · have nt : ∀ k, k ≤ 3 → ¬ w = nI k := fun k hk e => h (by rw [e]; exact ⟨nI_pos (by omega), nI_nlt hk (by omega)⟩)
    refine OP_q hs (.int (-2)) (fun L ext tx tt fe I G hb => ?_) (fun L ext tx tt fe I G hb => ?_)
    · refine wp_e e_67_0 ?_
      rw [if_neg (show ¬ w = 0 from nt 0 (by decide)), if_neg (show ¬ w = 1 from nt 1 (by decide)), if_neg (show ¬ w = 2 from nt 2 (by decide))]
      exact wp_f (nt 3 (by decide)) (wp_e e_67_9 (wp_r (qc_of (fr_r _ _))))
    · exact wp_e e_133_0 (wp_p s_127 (wp_e e_133_1 (wp_t (bI_f (fun e => h ((in_k (k := 3) (by decide)).mp e))) (wp_e e_133_20 (wp_r (qm_of (mf_r _ _ _)))))))
