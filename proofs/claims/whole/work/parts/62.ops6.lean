/-! PURE, 32: TOLD, FORCE, FEED, POURER -/
theorem CA_s {s s' : St} {I : Nat → Nat → Int32} (hT : sT s' = sT s) (hw : stw s' = stw s) (h : CA s I) : CA s' I := by
  unfold CA at h ⊢
  rw [hT, hw]
  exact h
/-- a call that changes the state, but for texts and the search -/
theorem OP_g {s s' : St} {f g : am_M → Option am_V} (r : Value) (hs' : Sok s') (hT : sT s' = sT s) (hw : stw s' = stw s) (hc : ∀ L ext tx tt fe I G, CB s L ext tx tt fe I → wp (f (am_mem L ext tx tt fe I G)) (fun v M => v = some r ∧ ∃ tt' I', M = am_mem L ext tx tt' fe I' G ∧ CB s' L ext tx tt' fe I' ∧ ∃ S : List Nat, fr S I I' ∧ ∀ a, a ∈ S → 0 < a ∧ a < 48)) (hm : ∀ L ext tx tt fe I G, MJ s I → wp (g (am_mem L ext tx tt fe I G)) (fun v M => v = some r ∧ ∃ I' G', M = am_mem L ext tx tt fe I' G' ∧ MJ s' I' ∧ ∃ S : List Nat, fr S I I' ∧ ∀ a, a ∈ S → 55 ≤ a ∧ a ≤ 76)) : OP s f g := by
  refine ⟨s', r, hs', fun L ext tx tt fe I G h => wp_m (hc L ext tx tt fe I G h.1) ?_, fun L ext tx tt fe I G h => wp_m (hm L ext tx tt fe I G h) ?_⟩
  · rintro v M ⟨rfl, tt', I', rfl, hb, S, hf, hS⟩
    have hn : ∀ a, a = 0 ∨ 48 ≤ a → I' a = I a := fun a ha => hf a (fun e => by have := hS a e; omega)
    refine ⟨rfl, [], tx, tt', fe, I', G, by rw [List.append_nil], Nat.zero_le _, fun q hq => absurd hq (by simp), ?_, fun a ha => hn a (by omega)⟩
    rw [List.append_nil]
    exact ⟨hb, CA_s hT hw (CA_f h.2 (hn 48 (by omega)) (hn 49 (by omega)) (hn 53 (by omega)) (hn 54 (by omega)))⟩
  · rintro v M ⟨rfl, I', G', rfl, hb, S, hf, hS⟩
    exact ⟨rfl, I', G', rfl, hb, fun a ha => hf a (fun e => by have := hS a e; omega)⟩
/-- FORCE -/
theorem op_force {s : St} (hs : Sok s) {a : Int32} : OP s (fun M => (am_R (2047) 83 0 M [some (Value.ref 5), some (Value.int a), none] [])) (fun M => (am_R (2047) 156 0 M [some (Value.ref 55), some (Value.int a), none] [])) := by
  have hs0 := hs.1
  obtain ⟨hC, hR, hT6, hP, hn, h5, h6, h7, h8⟩ := hs0
  by_cases h : ¬ a < 0 ∧ a < nI (sT s)
  · obtain ⟨t, ht, rfl⟩ := ix_lt (by omega) h
    refine OP_g (s' := setN s 2 t) (.int (nI (sR s))) ⟨⟨hC, ht, hT6, hP, hn, h5, h6, h7, h8⟩, hs.2.1, hs.2.2.1, hs.2.2.2.1, hs.2.2.2.2⟩ rfl rfl (fun L ext tx tt fe I G hb => ?_) (fun L ext tx tt fe I G hb => ?_)
    · obtain ⟨a0, ⟨b1, b2, b3, b4, b5, b6, b7, b8⟩, c, e, f, g⟩ := hb
      have ff : fr [5] I (am_u2 I 5 8 (nI t)) := fr_2 (by decide)
      refine wp_e e_83_0 (wp_f h.1 (wp_e e_83_1 (wp_t (by rw [b4]; exact h.2) (wp_e e_83_3 (wp_r ?_)))))
      rw [b5]
      refine ⟨rfl, tt, _, rfl, ⟨⟨SW_e a0.1 (ff 2 (by decide)) (ff 3 (by decide)), by rw [UW, ff 1 (by decide)]; exact a0.2⟩, ⟨?_, ?_, ?_, ?_, ?_, ?_, ?_, ?_⟩, ⟨c.1, by rw [ff 10 (by decide)]; exact c.2.1, by rw [ff 11 (by decide)]; exact c.2.2⟩, CT_f e (ntx_d (by decide)) ff, CS_f f (fun x x1 x2 => ff x (by simp; omega)), CK_f g (ff 17 (by decide)) (ff 18 (by decide)) (ff 19 (by decide)) (ff 20 (by decide))⟩, [5], ff, by decide⟩
      · rw [u2_k, if_neg (by decide)]; exact b1
      · rw [u2_k, if_neg (by decide)]; exact b2
      · rw [u2_k, if_neg (by decide)]; exact b3
      · rw [u2_k, if_neg (by decide)]; exact b4
      · rw [u2_s]; rfl
      · rw [ff 6 (by decide)]; exact b6
      · rw [ff 7 (by decide)]; exact b7
      · intro p hp
        rw [ff (28 + p) (by simp; omega)]
        exact b8 p hp
    · obtain ⟨⟨b1, b2, b3, b4, b5, b6, b7, b8, b9, b10⟩, c, e, f1, f2⟩ := hb
      have ff : fr [55] I (am_u2 I 55 4 (nI t)) := fr_2 (by decide)
      have fk : ∀ k, k ≠ 4 → am_u2 I 55 4 (nI t) 55 k = I 55 k := fun k hk => by rw [u2_k, if_neg hk]
      refine wp_e e_156_0 ?_
      rw [b4]
      refine wp_p s_127 (wp_e e_156_1 (wp_f (bI_y ((in_m (by omega)).mpr h)) (wp_e e_156_3 (wp_r ?_))))
      rw [b5]
      refine ⟨rfl, _, G, rfl, ⟨⟨by rw [fk 7 (by decide)]; exact b1, by rw [fk 8 (by decide)]; exact b2, by rw [fk 12 (by decide)]; exact b3, by rw [fk 3 (by decide)]; exact b4, by rw [u2_s]; rfl, by rw [fk 6 (by decide)]; exact b6, by rw [ff 59 (by decide)]; exact b7, by rw [ff 62 (by decide)]; exact b8, by rw [ff 60 (by decide), ff 61 (by decide)]; exact b9, by rw [ff 58 (by decide)]; exact b10⟩, fun q hq => ?_, fun q hq => ?_, by rw [fk 47 (by decide)]; exact f1, ?_⟩, [55], ff, by decide⟩
      · obtain ⟨m1, m2, m3, m4⟩ := c q hq
        exact ⟨m1, m2, by rw [ff 57 (by decide)]; exact m3, by rw [ff 56 (by decide)]; exact m4⟩
      · rw [ff 73 (by decide), ff 74 (by decide), ff 75 (by decide), ff 76 (by decide)]
        exact e q hq
      · rw [fk 47 (by decide), fk 48 (by decide), fk 49 (by decide), fk 50 (by decide), ff 70 (by decide), ff 71 (by decide), ff 72 (by decide)]
        exact f2
  · refine OP_q hs (.int (-2)) (fun L ext tx tt fe I G hb => ?_) (fun L ext tx tt fe I G hb => ?_)
    · have fin : wp (am_R 2047 83 2 (am_mem L ext tx tt fe I G) [some (Value.ref 5), some (Value.int a), none] []) (qC L ext tx fe I G (.int (-2))) := wp_e e_83_2 (wp_r (qc_of (fr_r _ _)))
      refine wp_e e_83_0 (wp_i (fun _ => fin) (fun h1 => wp_e e_83_1 ?_))
      rw [hb.2.1.2.2.2.1]
      exact wp_i (fun h2 => absurd ⟨h1, h2⟩ h) (fun _ => fin)
    · refine wp_e e_156_0 ?_
      rw [hb.1.2.2.2.1]
      exact wp_p s_127 (wp_e e_156_1 (wp_t (bI_f (fun e => h ((in_m (by omega)).mp e))) (wp_e e_156_2 (wp_r (qm_of (mf_r _ _ _))))))
/-- TOLD -/
theorem op_told {s : St} (hs : Sok s) {a b : Int32} : OP s (fun M => (am_R (2047) 72 0 M [some (Value.ref 5), some (Value.int a), some (Value.int b)] [])) (fun M => (am_R (2047) 134 0 M [some (Value.ref 55), some (Value.int a), some (Value.int b)] [])) := by
  have P6 := hs.1.2.2.2.1
  by_cases hw : ¬ b < 0 ∧ ¬ nI 2 < b
  · obtain ⟨w, w2, rfl⟩ := ix_le (by decide) hw
    have hm0 : ∀ L ext tx tt fe I G (r : Value), wp (am_R 2047 134 2 (am_mem L ext tx tt fe I G) [some (Value.ref 55), some (Value.int a), some (Value.int (nI w))] []) (qM L ext tx tt fe I r) → wp (am_R 2047 134 0 (am_mem L ext tx tt fe I G) [some (Value.ref 55), some (Value.int a), some (Value.int (nI w))] []) (qM L ext tx tt fe I r) := fun L ext tx tt fe I G r k => wp_e e_134_0 (wp_p s_127 (wp_e e_134_1 (wp_f (bI_y ((in_k (k := 2) (by decide)).mpr hw)) k)))
    have sp : ∀ (L : Nat) (ext : List (Nat × Nat)) (p : Nat), p < 6 → (am_S0 L ++ ext)[28 + p]? = some (1, 2) := by
      intro L ext p hp
      obtain rfl | rfl | rfl | rfl | rfl | rfl : p = 0 ∨ p = 1 ∨ p = 2 ∨ p = 3 ∨ p = 4 ∨ p = 5 := by omega
      all_goals rfl
    by_cases h2 : w = 2
    · subst h2
      by_cases h : ¬ a < 0 ∧ a < (8 : Int32)
      · obtain ⟨j, hj, rfl⟩ := ix_lt (n := 8) (by decide) h
        have hib := ib (n := j) (N := 8) hj (by decide)
        refine OP_q hs (.int (nI (spr s j))) (fun L ext tx tt fe I G hb => ?_) (fun L ext tx tt fe I G hb => hm0 L ext tx tt fe I G _ ?_)
        · refine wp_e e_72_0 ?_
          rw [if_neg (show ¬ nI 2 = 0 by decide), if_neg (show ¬ nI 2 = 1 by decide)]
          refine wp_t rfl (wp_e e_72_13 (wp_p s_80 (wp_e e_72_14 (wp_f (bI_y h) (wp_e e_72_15 (wp_c (by rw [hib]; rfl) (wp_e e_72_17 (wp_r ?_))))))))
          rw [nI_clamp (n := j) (by omega), hb.2.1.2.2.2.2.2.2.1 j hj]
          exact qc_of (fr_r _ _)
        · refine wp_e e_134_2 (wp_f (by decide) (wp_e e_134_6 (wp_p s_127 (wp_e e_134_7 (wp_f (bI_y ((in_k (k := 7) (by decide)).mpr ⟨h.1, nI_nlt (by omega) (by omega)⟩)) (wp_e e_134_9 (wp_f (by decide) (wp_e e_134_11 (wp_f (by decide) (wp_e e_134_13 (wp_c (by rw [hib]; rfl) (wp_e e_134_14 (wp_r ?_)))))))))))))
          rw [nI_clamp (n := j) (by omega), hb.1.2.2.2.2.2.2.2.1 j hj]
          exact qm_of (mf_r _ _ _)
      · refine OP_q hs (.int (-2)) (fun L ext tx tt fe I G hb => ?_) (fun L ext tx tt fe I G hb => hm0 L ext tx tt fe I G _ ?_)
        · refine wp_e e_72_0 ?_
          rw [if_neg (show ¬ nI 2 = 0 by decide), if_neg (show ¬ nI 2 = 1 by decide)]
          exact wp_t rfl (wp_e e_72_13 (wp_p s_80 (wp_e e_72_14 (wp_t (bI_f h) (wp_e e_72_16 (wp_e e_72_17 (wp_r (qc_of (fr_r _ _)))))))))
        · refine wp_e e_134_2 (wp_f (by decide) (wp_e e_134_6 (wp_p s_127 (wp_e e_134_7 (wp_t (bI_f (fun e => h ?_)) (wp_e e_134_8 (wp_r (qm_of (mf_r _ _ _)))))))))
          obtain ⟨j, j1, rfl⟩ := ix_le (by decide) ((in_k (k := 7) (by decide)).mp e)
          exact ⟨nI_pos (by omega), nI_lt (b := 8) (by omega) (by decide)⟩
    · have w01 : w = 0 ∨ w = 1 := by omega
      have wlt : nI w < 2 := nI_lt (b := 2) (by omega) (by decide)
      by_cases h : ¬ a < 0 ∧ a < nI (sPn s)
      · obtain ⟨p, hp, rfl⟩ := ix_lt (by omega) h
        have hib := ib (n := p) (N := 6) (by omega) (by decide)
        have hcl := nI_clamp (n := p) (by omega)
        have hm1 : ∀ L ext tx tt fe I G (r : Value), MJ s I → wp (am_R 2047 134 9 (am_mem L ext tx tt fe I G) [some (Value.ref 55), some (Value.int (nI p)), some (Value.int (nI w))] []) (qM L ext tx tt fe I r) → wp (am_R 2047 134 2 (am_mem L ext tx tt fe I G) [some (Value.ref 55), some (Value.int (nI p)), some (Value.int (nI w))] []) (qM L ext tx tt fe I r) := fun L ext tx tt fe I G r hb k => wp_e e_134_2 (wp_t wlt (wp_e e_134_3 (wp_p (s_132 hb.1.2.2.1 (by omega)) (wp_e e_134_4 (wp_f (bI_y h) (wp_e e_134_5 k))))))
        rcases w01 with rfl | rfl
        · refine OP_q hs (.int (nI (snu s p))) (fun L ext tx tt fe I G hb => ?_) (fun L ext tx tt fe I G hb => hm0 L ext tx tt fe I G _ (hm1 L ext tx tt fe I G _ hb ?_))
          · refine wp_e e_72_0 (wp_t rfl (wp_e e_72_1 (wp_p s_78 (wp_e e_72_2 (wp_f (bI_y (by rw [hb.2.1.2.2.1]; exact h)) (wp_e e_72_3 (wp_c (by rw [hib]; rfl) ?_)))))))
            rw [hcl, Fx8 (by omega)]
            refine wp_e e_72_4 (wp_c (by rw [kd_of (sp L ext p (by omega))]; rfl) (wp_e e_72_6 (wp_r ?_)))
            rw [(hb.2.1.2.2.2.2.2.2.2 p hp).2]
            exact qc_of (fr_r _ _)
          · refine wp_e e_134_9 (wp_t rfl (wp_e e_134_10 (wp_c (by rw [hib]; rfl) (wp_e e_134_14 (wp_r ?_)))))
            rw [hcl, (hb.1.2.2.2.2.2.2.2.2.1 p hp).2]
            exact qm_of (mf_r _ _ _)
        · refine OP_q hs (.int (nI (skd s p))) (fun L ext tx tt fe I G hb => ?_) (fun L ext tx tt fe I G hb => hm0 L ext tx tt fe I G _ (hm1 L ext tx tt fe I G _ hb ?_))
          · refine wp_e e_72_0 ?_
            rw [if_neg (show ¬ nI 1 = 0 by decide)]
            refine wp_t rfl (wp_e e_72_7 (wp_p s_78 (wp_e e_72_8 (wp_f (bI_y (by rw [hb.2.1.2.2.1]; exact h)) (wp_e e_72_9 (wp_c (by rw [hib]; rfl) ?_))))))
            rw [hcl, Fx8 (by omega)]
            refine wp_e e_72_10 (wp_c (by rw [kd_of (sp L ext p (by omega))]; rfl) (wp_e e_72_12 (wp_r ?_)))
            rw [(hb.2.1.2.2.2.2.2.2.2 p hp).1]
            exact qc_of (fr_r _ _)
          · refine wp_e e_134_9 (wp_f (by decide) (wp_e e_134_11 (wp_t rfl (wp_e e_134_12 (wp_c (by rw [hib]; rfl) (wp_e e_134_14 (wp_r ?_)))))))
            rw [hcl, (hb.1.2.2.2.2.2.2.2.2.1 p hp).1]
            exact qm_of (mf_r _ _ _)
      · refine OP_q hs (.int (-2)) (fun L ext tx tt fe I G hb => ?_) (fun L ext tx tt fe I G hb => hm0 L ext tx tt fe I G _ (wp_e e_134_2 (wp_t wlt (wp_e e_134_3 (wp_p (s_132 hb.1.2.2.1 (by omega)) (wp_e e_134_4 (wp_t (bI_f h) (wp_e e_134_8 (wp_r (qm_of (mf_r _ _ _)))))))))))
        rcases w01 with rfl | rfl
        · exact wp_e e_72_0 (wp_t rfl (wp_e e_72_1 (wp_p s_78 (wp_e e_72_2 (wp_t (bI_f (by rw [hb.2.1.2.2.1]; exact h)) (wp_e e_72_5 (wp_e e_72_6 (wp_r (qc_of (fr_r _ _))))))))))
        · refine wp_e e_72_0 ?_
          rw [if_neg (show ¬ nI 1 = 0 by decide)]
          exact wp_t rfl (wp_e e_72_7 (wp_p s_78 (wp_e e_72_8 (wp_t (bI_f (by rw [hb.2.1.2.2.1]; exact h)) (wp_e e_72_11 (wp_e e_72_12 (wp_r (qc_of (fr_r _ _)))))))))
  · refine OP_q hs (.int (-2)) (fun L ext tx tt fe I G hb => ?_) (fun L ext tx tt fe I G hb => ?_)
    · refine wp_e e_72_0 ?_
      rw [if_neg (show ¬ b = 0 from fun e => hw (by rw [e]; decide)), if_neg (show ¬ b = 1 from fun e => hw (by rw [e]; decide))]
      exact wp_f (show ¬ b = 2 from fun e => hw (by rw [e]; decide)) (wp_e e_72_18 (wp_r (qc_of (fr_r _ _))))
    · exact wp_e e_134_0 (wp_p s_127 (wp_e e_134_1 (wp_t (bI_f (fun e => hw ((in_k (k := 2) (by decide)).mp e))) (wp_e e_134_8 (wp_r (qm_of (mf_r _ _ _)))))))
