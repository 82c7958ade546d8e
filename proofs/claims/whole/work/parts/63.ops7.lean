/-! PURE, 33: COUNT, FEED, POURER -/
/-- COUNT -/
theorem op_count {s : St} (hs : Sok s) {a : Int32} : OP s (fun M => (am_R (2047) 119 0 M [some (Value.ref 5), some (Value.int a)] [])) (fun M => (am_R (2047) 199 0 M [some (Value.ref 55), some (Value.int a)] [])) := by
  by_cases h : ¬ a < 0 ∧ ¬ nI 5 < a
  · obtain ⟨w, hw, rfl⟩ := ix_le (by decide) h
    have hm : ∀ L ext tx tt fe I G (r : Value), wp (am_R 2047 199 3 (am_mem L ext tx tt fe I G) [some (Value.ref 55), some (Value.int (nI w))] []) (qM L ext tx tt fe I r) → wp (am_R 2047 199 0 (am_mem L ext tx tt fe I G) [some (Value.ref 55), some (Value.int (nI w))] []) (qM L ext tx tt fe I r) := fun L ext tx tt fe I G r k => wp_e e_199_0 (wp_p s_127 (wp_e e_199_1 (wp_f (bI_y ((in_k (k := 5) (by decide)).mpr h)) k)))
    obtain rfl | rfl | rfl | rfl | rfl | rfl : w = 0 ∨ w = 1 ∨ w = 2 ∨ w = 3 ∨ w = 4 ∨ w = 5 := by omega
    · refine OP_q hs (.int (nI (sC s))) (fun L ext tx tt fe I G hb => ?_) (fun L ext tx tt fe I G hb => hm L ext tx tt fe I G _ ?_)
      · refine wp_e e_119_0 (wp_t rfl (wp_e e_119_1 (wp_r ?_)))
        rw [hb.2.1.1]
        exact qc_of (fr_r _ _)
      · refine wp_e e_199_3 (wp_t (by decide) (wp_e e_199_4 (wp_t rfl (wp_e e_199_5 (wp_e e_199_9 (wp_r ?_))))))
        rw [hb.1.1]
        exact qm_of (mf_r _ _ _)
    · refine OP_q hs (.int (nI (sD s))) (fun L ext tx tt fe I G hb => ?_) (fun L ext tx tt fe I G hb => hm L ext tx tt fe I G _ ?_)
      · refine wp_e e_119_0 ?_
        rw [if_neg (show ¬ nI 1 = 0 by decide)]
        refine wp_t rfl (wp_e e_119_2 (wp_r ?_))
        rw [hb.2.1.2.1]
        exact qc_of (fr_r _ _)
      · refine wp_e e_199_3 (wp_t (by decide) (wp_e e_199_4 (wp_f (by decide) (wp_e e_199_6 (wp_t rfl (wp_e e_199_7 (wp_e e_199_9 (wp_r ?_))))))))
        rw [hb.1.2.1]
        exact qm_of (mf_r _ _ _)
    · refine OP_q hs (.int (nI (sPn s))) (fun L ext tx tt fe I G hb => ?_) (fun L ext tx tt fe I G hb => hm L ext tx tt fe I G _ ?_)
      · refine wp_e e_119_0 ?_
        rw [if_neg (show ¬ nI 2 = 0 by decide), if_neg (show ¬ nI 2 = 1 by decide)]
        refine wp_t rfl (wp_e e_119_3 (wp_r ?_))
        rw [hb.2.1.2.2.1]
        exact qc_of (fr_r _ _)
      · refine wp_e e_199_3 (wp_t (by decide) (wp_e e_199_4 (wp_f (by decide) (wp_e e_199_6 (wp_f (by decide) (wp_e e_199_8 (wp_e e_199_9 (wp_r ?_))))))))
        rw [hb.1.2.2.1]
        exact qm_of (mf_r _ _ _)
    · refine OP_q hs (.int (nI (sT s))) (fun L ext tx tt fe I G hb => ?_) (fun L ext tx tt fe I G hb => hm L ext tx tt fe I G _ ?_)
      · refine wp_e e_119_0 ?_
        rw [if_neg (show ¬ nI 3 = 0 by decide), if_neg (show ¬ nI 3 = 1 by decide), if_neg (show ¬ nI 3 = 2 by decide)]
        refine wp_t rfl (wp_e e_119_4 (wp_r ?_))
        rw [hb.2.1.2.2.2.1]
        exact qc_of (fr_r _ _)
      · refine wp_e e_199_3 (wp_f (by decide) (wp_e e_199_10 (wp_t rfl (wp_e e_199_11 (wp_e e_199_15 (wp_r ?_))))))
        rw [hb.1.2.2.2.1]
        exact qm_of (mf_r _ _ _)
    · refine OP_q hs (.int (nI (sn s))) (fun L ext tx tt fe I G hb => ?_) (fun L ext tx tt fe I G hb => hm L ext tx tt fe I G _ ?_)
      · refine wp_e e_119_0 ?_
        rw [if_neg (show ¬ nI 4 = 0 by decide), if_neg (show ¬ nI 4 = 1 by decide), if_neg (show ¬ nI 4 = 2 by decide), if_neg (show ¬ nI 4 = 3 by decide)]
        refine wp_t rfl (wp_e e_119_5 (wp_r ?_))
        rw [hb.2.2.1.2.1]
        exact qc_of (fr_r _ _)
      · refine wp_e e_199_3 (wp_f (by decide) (wp_e e_199_10 (wp_f (by decide) (wp_e e_199_12 (wp_t rfl (wp_e e_199_13 (wp_e e_199_15 (wp_r ?_))))))))
        rw [hb.1.2.2.2.2.2.1]
        exact qm_of (mf_r _ _ _)
    · refine OP_q hs (.int (nI (sR s))) (fun L ext tx tt fe I G hb => ?_) (fun L ext tx tt fe I G hb => hm L ext tx tt fe I G _ ?_)
      · refine wp_e e_119_0 ?_
        rw [if_neg (show ¬ nI 5 = 0 by decide), if_neg (show ¬ nI 5 = 1 by decide), if_neg (show ¬ nI 5 = 2 by decide), if_neg (show ¬ nI 5 = 3 by decide), if_neg (show ¬ nI 5 = 4 by decide)]
        refine wp_t rfl (wp_e e_119_6 (wp_r ?_))
        rw [hb.2.1.2.2.2.2.1]
        exact qc_of (fr_r _ _)
      · refine wp_e e_199_3 (wp_f (by decide) (wp_e e_199_10 (wp_f (by decide) (wp_e e_199_12 (wp_f (by decide) (wp_e e_199_14 (wp_e e_199_15 (wp_r ?_))))))))
        rw [hb.1.2.2.2.2.1]
        exact qm_of (mf_r _ _ _)
  · have nt : ∀ k, k ≤ 5 → ¬ a = nI k := fun k hk e => h (by rw [e]; exact ⟨nI_pos (by omega), nI_nlt hk (by omega)⟩)
    refine OP_q hs (.int (-2)) (fun L ext tx tt fe I G hb => ?_) (fun L ext tx tt fe I G hb => ?_)
    · refine wp_e e_119_0 ?_
      rw [if_neg (show ¬ a = 0 from nt 0 (by decide)), if_neg (show ¬ a = 1 from nt 1 (by decide)), if_neg (show ¬ a = 2 from nt 2 (by decide)), if_neg (show ¬ a = 3 from nt 3 (by decide)), if_neg (show ¬ a = 4 from nt 4 (by decide))]
      exact wp_f (nt 5 (by decide)) (wp_e e_119_7 (wp_r (qc_of (fr_r _ _))))
    · exact wp_e e_199_0 (wp_p s_127 (wp_e e_199_1 (wp_t (bI_f (fun e => h ((in_k (k := 5) (by decide)).mp e))) (wp_e e_199_2 (wp_r (qm_of (mf_r _ _ _)))))))
/-- a state's cells of the class, but these -/
theorem CB_o {s s' : St} {L : Nat} {ext : List (Nat × Nat)} {tx : Nat → Nat} {tt r : Nat} {fe : Nat → Nat → Option Nat} {I I' : Nat → Nat → Int32} {S : List Nat} (h : CB s L ext tx tt fe I) (hf : fr S I I') (hS : ∀ a, a ∈ S → (5 ≤ a ∧ a ≤ 11) ∨ (28 ≤ a ∧ a ≤ 33)) (hN : CN s' I') (hT : TW I' (sbt s') (sn s')) (h4 : sT s' = sT s) (hw : stw s' = stw s) (h6 : sso s' = sso s) (h7 : ssz s' = ssz s) (hi : sit s' = sit s) (hk : CK s I' → CK s' I') : CB s' L ext tx r fe I' := by
  obtain ⟨⟨a1, a2⟩, -, -, e, f, g⟩ := h
  have n : ∀ a, ¬ ((5 ≤ a ∧ a ≤ 11) ∨ (28 ≤ a ∧ a ≤ 33)) → I' a = I a := fun a ha => hf a (fun q => ha (hS a q))
  have e' : CT s L ext tx r fe I' := CT_f e (fun a ha => by have := hS a ha; omega) hf
  have f' : CS s I' := CS_f f (fun a h1 h2 => n a (by omega))
  refine ⟨⟨SW_e a1 (n 2 (by omega)) (n 3 (by omega)), by rw [UW, n 1 (by omega)]; exact a2⟩, hN, hT, fun t ht => ?_, fun q hq => ?_, hk (CK_f g (n 17 (by omega)) (n 18 (by omega)) (n 19 (by omega)) (n 20 (by omega)))⟩
  · rw [hw]
    exact e' t (by rw [← h4]; exact ht)
  · rw [h6, h7, hi]
    exact f' q hq
theorem MJ_o {s s' : St} {I I' : Nat → Nat → Int32} {S : List Nat} (h : MJ s I) (hf : fr S I I') (hS : ∀ a, a ∈ S → a = 55 ∨ (58 ≤ a ∧ a ≤ 62)) (hk : ∀ k, (k = 3 ∨ (47 ≤ k ∧ k ≤ 50)) → I' 55 k = I 55 k) (hN : MN s' I') (h4 : sT s' = sT s) (ht : ∀ t, stb s' t = stb s t) (hn : stn s' = stn s) (h6 : sso s' = sso s) (h7 : ssz s' = ssz s) (hi : sit s' = sit s) (hK : MK s I' → MK s' I') : MJ s' I' := by
  obtain ⟨-, c, e, f1, f2⟩ := h
  have n : ∀ a, ¬ (a = 55 ∨ (58 ≤ a ∧ a ≤ 62)) → I' a = I a := fun a ha => hf a (fun q => ha (hS a q))
  refine ⟨hN, fun t htt => ?_, fun q hq => ?_, hK ⟨by rw [hk 47 (by omega)]; exact f1, ?_⟩⟩
  · obtain ⟨m1, m2, m3, m4⟩ := c t (by rw [← h4]; exact htt)
    rw [ht, hn]
    exact ⟨m1, m2, by rw [n 57 (by omega)]; exact m3, by rw [n 56 (by omega)]; exact m4⟩
  · rw [h6, h7, hi, n 73 (by omega), n 74 (by omega), n 75 (by omega), n 76 (by omega)]
    exact e q hq
  · rw [hk 47 (by omega), hk 48 (by omega), hk 49 (by omega), hk 50 (by omega), n 70 (by omega), n 71 (by omega), n 72 (by omega)]
    exact f2
/-- one byte more -/
def btp (s : St) (b k : Nat) : Nat := if k = sn s then b else sbt s k
/-- FEED -/
theorem op_feed {s : St} (hs : Sok s) {a : Int32} : OP s (fun M => (am_R (2047) 81 0 M [some (Value.ref 5), some (Value.int a)] [])) (fun M => (am_R (2047) 138 0 M [some (Value.ref 55), some (Value.int a)] [])) := by
  have hs0 := hs.1
  obtain ⟨hC, hR, hT6, hP, hn, h5, h6, h7, h8⟩ := hs0
  by_cases h : ¬ a < 0 ∧ ¬ nI 255 < a
  · obtain ⟨b, hb2, rfl⟩ := ix_le (by decide) h
    by_cases hf : sn s = 160
    · refine OP_q hs (.int (-4)) (fun L ext tx tt fe I G hb => ?_) (fun L ext tx tt fe I G hb => ?_)
      · refine wp_e e_81_0 (wp_f h.1 (wp_e e_81_1 (wp_f h.2 (wp_e e_81_3 (wp_f ?_ (wp_e e_81_4 (wp_r (qc_of (fr_r _ _)))))))))
        rw [hb.2.2.1.2.1, hf]
        decide
      · refine wp_e e_138_0 (wp_p s_127 (wp_e e_138_1 (wp_f (bI_y ((in_k (k := 255) (by decide)).mpr h)) (wp_e e_138_3 (wp_t ?_ (wp_e e_138_4 (wp_r (qm_of (mf_r _ _ _)))))))))
        rw [hb.1.2.2.2.2.2.1, hf]
        rfl
    · have hib := ib (n := sn s) (N := 160) (by omega) (by decide)
      have hcl := nI_clamp (n := sn s) (by omega)
      have hs' : Sok (setN (setR s 0 (btp s b)) 5 (sn s + 1)) := by
        refine ⟨⟨hC, hR, hT6, hP, (by omega : sn s + 1 ≤ 160), h5, h6, h7, fun k hk => ?_⟩, ST_R (by decide) (by decide) hs.2.1, hs.2.2.1, hs.2.2.2.1, hs.2.2.2.2⟩
        have hk : k < sn s + 1 := hk
        show btp s b k < 256
        unfold btp
        by_cases e : k = sn s
        · rw [if_pos e]; omega
        · rw [if_neg e]; exact h8 k (by omega)
      refine OP_g (s' := setN (setR s 0 (btp s b)) 5 (sn s + 1)) (.int (nI (sn s + 1))) hs' rfl rfl (fun L ext tx tt fe I G hb => ?_) (fun L ext tx tt fe I G hb => ?_)
      · have h10 := hb.2.2.1.2.1
        refine wp_e e_81_0 (wp_f h.1 (wp_e e_81_1 (wp_f h.2 (wp_e e_81_3 (wp_t ?_ (wp_e e_81_5 ?_))))))
        · rw [h10]
          exact nI_lt (b := 160) (by omega) (by decide)
        rw [h10, hib, hcl]
        refine wp_c rfl (wp_r ?_)
        rw [u2_a (show (10 : Nat) ≠ 11 by decide), h10, u2_s, nI_1]
        have ff : fr [10, 11] I (am_u2 (am_u2 I 11 (sn s) (nI b)) 10 1 (nI (sn s + 1))) := fr_t (fr_2 (by decide)) (fr_2 (by decide))
        refine ⟨rfl, tt, _, rfl, CB_o hb ff (by decide) (CN_f hb.2.1 (ff 5 (by decide)) (ff 6 (by decide)) (ff 7 (by decide)) (fun p hp => ff (28 + p) (by simp; omega))) ⟨(by omega : sn s + 1 ≤ 160), u2_s _ _ _ _, fun k hk => ?_⟩ rfl rfl rfl rfl rfl (fun q => q), [10, 11], ff, by decide⟩
        have hk : k < sn s + 1 := hk
        rw [u2_a (by decide), u2_k]
        show (if k = sn s then nI b else I 11 k) = nI (btp s b k) ∧ btp s b k < 256
        unfold btp
        by_cases e : k = sn s
        · rw [if_pos e, if_pos e]
          exact ⟨rfl, by omega⟩
        · rw [if_neg e, if_neg e]
          exact hb.2.2.1.2.2 k (by omega)
      · have h6' := hb.1.2.2.2.2.2.1
        refine wp_e e_138_0 (wp_p s_127 (wp_e e_138_1 (wp_f (bI_y ((in_k (k := 255) (by decide)).mpr h)) (wp_e e_138_3 (wp_f ?_ (wp_e e_138_5 ?_))))))
        · rw [h6']
          exact fun e => hf ((nI_eq (by omega) (by decide)).mp e)
        rw [h6', hib, hcl]
        refine wp_c rfl (wp_r ?_)
        rw [u2_a (show (55 : Nat) ≠ 58 by decide), h6', u2_s, nI_1]
        have ff : fr [55, 58] I (am_u2 (am_u2 I 58 (sn s) (nI b)) 55 6 (nI (sn s + 1))) := fr_t (fr_2 (by decide)) (fr_2 (by decide))
        have fk : ∀ k, k ≠ 6 → am_u2 (am_u2 I 58 (sn s) (nI b)) 55 6 (nI (sn s + 1)) 55 k = I 55 k := fun k hk => by rw [u2_k, if_neg hk, u2_a (by decide)]
        obtain ⟨b1, b2, b3, b4, b5, b6, b7, b8, b9, b10⟩ := hb.1
        refine ⟨rfl, _, G, rfl, MJ_o hb ff (by decide) (fun k hk => fk k (by omega)) ⟨by rw [fk 7 (by decide)]; exact b1, by rw [fk 8 (by decide)]; exact b2, by rw [fk 12 (by decide)]; exact b3, by rw [fk 3 (by decide)]; exact b4, by rw [fk 4 (by decide)]; exact b5, u2_s _ _ _ _, by rw [ff 59 (by decide)]; exact b7, by rw [ff 62 (by decide)]; exact b8, by rw [ff 60 (by decide), ff 61 (by decide)]; exact b9, fun k hk => ?_⟩ rfl (fun t => stb_R (by decide)) rfl rfl rfl rfl (fun q => q), [55, 58], ff, by decide⟩
        have hk : k < sn s + 1 := hk
        rw [u2_a (by decide), u2_k]
        show (if k = sn s then nI b else I 58 k) = nI (btp s b k)
        unfold btp
        by_cases e : k = sn s
        · rw [if_pos e, if_pos e]
        · rw [if_neg e, if_neg e]
          exact b10 k (by omega)
  · refine OP_q hs (.int (-2)) (fun L ext tx tt fe I G hb => ?_) (fun L ext tx tt fe I G hb => ?_)
    · have fin : wp (am_R 2047 81 2 (am_mem L ext tx tt fe I G) [some (Value.ref 5), some (Value.int a)] []) (qC L ext tx fe I G (.int (-2))) := wp_e e_81_2 (wp_r (qc_of (fr_r _ _)))
      exact wp_e e_81_0 (wp_i (fun _ => fin) (fun h1 => wp_e e_81_1 (wp_i (fun _ => fin) (fun h2 => absurd ⟨h1, h2⟩ h))))
    · exact wp_e e_138_0 (wp_p s_127 (wp_e e_138_1 (wp_t (bI_f (fun e => h ((in_k (k := 255) (by decide)).mp e))) (wp_e e_138_2 (wp_r (qm_of (mf_r _ _ _)))))))
