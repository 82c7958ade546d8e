/-! PURE, 34: POURER, SET -/
def updf (f : Nat → Nat) (i v k : Nat) : Nat := if k = i then v else f k
theorem sp28 {L : Nat} {ext : List (Nat × Nat)} {p : Nat} (hp : p < 6) : (am_S0 L ++ ext)[28 + p]? = some (1, 2) := by
  obtain rfl | rfl | rfl | rfl | rfl | rfl : p = 0 ∨ p = 1 ∨ p = 2 ∨ p = 3 ∨ p = 4 ∨ p = 5 := by omega
  all_goals rfl
/-- POURER -/
theorem op_pourer {s : St} (hs : Sok s) {a b : Int32} : OP s (fun M => (am_R (2047) 75 0 M [some (Value.ref 5), some (Value.int a), some (Value.int b)] [])) (fun M => (am_R (2047) 137 0 M [some (Value.ref 55), some (Value.int a), some (Value.int b)] [])) := by
  have hs0 := hs.1
  obtain ⟨hC, hR, hT6, hP, hn, h5, h6, h7, h8⟩ := hs0
  by_cases h : (¬ a < 0 ∧ a < (6 : Int32)) ∧ (¬ b < 0 ∧ ¬ nI 9 < b)
  · obtain ⟨kd, hkd, rfl⟩ := ix_lt (n := 6) (by decide) h.1
    obtain ⟨q, hq, rfl⟩ := ix_le (by decide) h.2
    have h15 : ¬ nI kd < 0 ∧ ¬ nI 5 < nI kd := ⟨h.1.1, nI_nlt (by omega) (by omega)⟩
    by_cases hf : sPn s = 6
    · refine OP_q hs (.int (-4)) (fun L ext tx tt fe I G hb => ?_) (fun L ext tx tt fe I G hb => ?_)
      · refine wp_e e_75_0 (wp_p s_79 (wp_e e_75_1 (wp_f (bI_y h.1) (wp_e e_75_2 (wp_f h.2.1 (wp_e e_75_3 (wp_f h.2.2 (wp_e e_75_5 (wp_f ?_ (wp_e e_75_6 (wp_r (qc_of (fr_r _ _)))))))))))))
        rw [hb.2.1.2.2.1, hf]
        decide
      · refine wp_e e_137_0 (wp_p s_127 (wp_e e_137_1 (wp_f (bI_y ((in_k (k := 5) (by decide)).mpr h15)) (wp_e e_137_2 (wp_p s_127 (wp_e e_137_3 (wp_f (bI_y ((in_k (k := 9) (by decide)).mpr h.2)) (wp_e e_137_5 (wp_t ?_ (wp_e e_137_6 (wp_r (qm_of (mf_r _ _ _)))))))))))))
        rw [hb.1.2.2.1, hf]
        rfl
    · have hP6 : sPn s < 6 := by omega
      have hib := ib (n := sPn s) (N := 6) hP6 (by decide)
      have hcl := nI_clamp (n := sPn s) (by omega)
      have hs' : Sok (setN (setR (setR s 3 (updf (skd s) (sPn s) kd)) 4 (updf (snu s) (sPn s) q)) 3 (sPn s + 1)) := by
        refine ⟨⟨hC, hR, hT6, (by omega : sPn s + 1 ≤ 6), hn, h5, h6, fun p hp => ?_, h8⟩, ST_R (by decide) (by decide) (ST_R (by decide) (by decide) hs.2.1), hs.2.2.1, fun hk => ?_, hs.2.2.2.2⟩
        · have hp : p < sPn s + 1 := hp
          show updf (skd s) (sPn s) kd p < 6 ∧ updf (snu s) (sPn s) q p ≤ 9
          unfold updf
          by_cases e : p = sPn s
          · rw [if_pos e, if_pos e]; exact ⟨hkd, hq⟩
          · rw [if_neg e, if_neg e]; exact h7 p (by omega)
        · obtain ⟨k1, k2, k3⟩ := hs.2.2.2.1 hk
          exact ⟨k1, Nat.le_succ_of_le k2, k3⟩
      refine OP_g (s := s) (.int (nI (sPn s))) hs' rfl rfl (fun L ext tx tt fe I G hb => ?_) (fun L ext tx tt fe I G hb => ?_)
      · obtain ⟨b1, b2, b3, b4, b5, b6, b7, b8⟩ := hb.2.1
        have hsp := sp28 (L := L) (ext := ext) hP6
        have hp5 : (5 : Nat) ≠ 28 + sPn s := by omega
        refine wp_e e_75_0 (wp_p s_79 (wp_e e_75_1 (wp_f (bI_y h.1) (wp_e e_75_2 (wp_f h.2.1 (wp_e e_75_3 (wp_f h.2.2 (wp_e e_75_5 (wp_t ?_ (wp_e e_75_7 ?_))))))))))
        · rw [b3]
          exact nI_lt (b := 6) hP6 (by decide)
        rw [b3]
        refine wp_c (by rw [hib]; rfl) ?_
        rw [hcl, Fx8 hP6]
        refine wp_e e_75_8 ?_
        rw [u2_a hp5, b3, hib, kd_of hsp, Nat.ble_eq_true_of_le (show 5 ≤ 28 + sPn s by omega), hcl, Fx8 hP6]
        refine wp_c rfl (wp_e e_75_9 ?_)
        rw [kd_of hsp, Nat.ble_eq_true_of_le (show 5 ≤ 28 + sPn s by omega)]
        refine wp_c rfl (wp_r ?_)
        rw [u2_a hp5, u2_a hp5, b3, u2_s, nI_1, nI_pred]
        have ff : fr [5, 28 + sPn s] I (am_u2 (am_u2 (am_u2 I (28 + sPn s) 0 (nI kd)) (28 + sPn s) 1 (nI q)) 5 5 (nI (sPn s + 1))) := fr_t (fr_2 (by simp)) (fr_t (fr_2 (by simp)) (fr_2 (by simp)))
        have fS : ∀ x, x ∈ [5, 28 + sPn s] → x = 5 ∨ x = 28 + sPn s := fun x hx => by simpa using hx
        have f5' : ∀ k, k ≠ 5 → (am_u2 (am_u2 (am_u2 I (28 + sPn s) 0 (nI kd)) (28 + sPn s) 1 (nI q)) 5 5 (nI (sPn s + 1))) 5 k = I 5 k := fun k hk => by rw [u2_k, if_neg hk, u2_a hp5, u2_a hp5]
        refine ⟨rfl, tt, _, rfl, CB_o hb ff (fun x hx => by have := fS x hx; omega) ⟨by rw [f5' 0 (by decide)]; exact b1, by rw [f5' 1 (by decide)]; exact b2, by rw [u2_s]; rfl, by rw [f5' 7 (by decide)]; exact b4, by rw [f5' 8 (by decide)]; exact b5, by rw [ff 6 (fun e => by have := fS 6 e; omega)]; exact b6, by rw [ff 7 (fun e => by have := fS 7 e; omega)]; exact b7, fun p hp => ?_⟩ ⟨hb.2.2.1.1, by rw [ff 10 (fun e => by have := fS 10 e; omega)]; exact hb.2.2.1.2.1, by rw [ff 11 (fun e => by have := fS 11 e; omega)]; exact hb.2.2.1.2.2⟩ rfl rfl rfl rfl rfl (fun z => z), [5, 28 + sPn s], ff, fun x hx => by have := fS x hx; omega⟩
        have hp : p < sPn s + 1 := hp
        show _ = nI (updf (skd s) (sPn s) kd p) ∧ _ = nI (updf (snu s) (sPn s) q p)
        unfold updf
        rw [u2_a (show 28 + p ≠ 5 by omega)]
        by_cases e : p = sPn s
        · rw [if_pos e, if_pos e, e, u2_s, u2_k, if_neg (by decide), u2_s]
          exact ⟨rfl, rfl⟩
        · rw [if_neg e, if_neg e, u2_a (show 28 + p ≠ 28 + sPn s by omega), u2_a (show 28 + p ≠ 28 + sPn s by omega)]
          exact b8 p (by omega)
      · obtain ⟨b1, b2, b3, b4, b5, b6, b7, b8, b9, b10⟩ := hb.1
        refine wp_e e_137_0 (wp_p s_127 (wp_e e_137_1 (wp_f (bI_y ((in_k (k := 5) (by decide)).mpr h15)) (wp_e e_137_2 (wp_p s_127 (wp_e e_137_3 (wp_f (bI_y ((in_k (k := 9) (by decide)).mpr h.2)) (wp_e e_137_5 (wp_f ?_ (wp_e e_137_7 ?_))))))))))
        · rw [b3]
          exact fun e => hf ((nI_eq (by omega) (by decide)).mp e)
        rw [b3, hcl, u2_a (show (55 : Nat) ≠ 60 by decide), b3, hib]
        refine wp_c rfl (wp_r ?_)
        rw [hcl, u2_a (show (55 : Nat) ≠ 61 by decide), u2_a (show (55 : Nat) ≠ 60 by decide), b3, u2_s, nI_1, nI_pred]
        have ff : fr [55, 60, 61] I (am_u2 (am_u2 (am_u2 I 60 (sPn s) (nI kd)) 61 (sPn s) (nI q)) 55 12 (nI (sPn s + 1))) := fr_t (fr_2 (by decide)) (fr_t (fr_2 (by decide)) (fr_2 (by decide)))
        have fk : ∀ k, k ≠ 12 → (am_u2 (am_u2 (am_u2 I 60 (sPn s) (nI kd)) 61 (sPn s) (nI q)) 55 12 (nI (sPn s + 1))) 55 k = I 55 k := fun k hk => by rw [u2_k, if_neg hk, u2_a (by decide), u2_a (by decide)]
        refine ⟨rfl, _, G, rfl, MJ_o hb ff (by decide) (fun k hk => fk k (by omega)) ⟨by rw [fk 7 (by decide)]; exact b1, by rw [fk 8 (by decide)]; exact b2, by rw [u2_s]; rfl, by rw [fk 3 (by decide)]; exact b4, by rw [fk 4 (by decide)]; exact b5, by rw [fk 6 (by decide)]; exact b6, by rw [ff 59 (by decide)]; exact b7, by rw [ff 62 (by decide)]; exact b8, fun p hp => ?_, by rw [ff 58 (by decide)]; exact b10⟩ rfl (fun t => (stb_R (by decide)).trans (stb_R (by decide))) rfl rfl rfl rfl (fun z => z), [55, 60, 61], ff, by decide⟩
        have hp : p < sPn s + 1 := hp
        show _ = nI (updf (skd s) (sPn s) kd p) ∧ _ = nI (updf (snu s) (sPn s) q p)
        unfold updf
        rw [u2_a (show (60 : Nat) ≠ 55 by decide), u2_a (show (60 : Nat) ≠ 61 by decide), u2_a (show (61 : Nat) ≠ 55 by decide), u2_k, u2_k, u2_a (show (61 : Nat) ≠ 60 by decide)]
        by_cases e : p = sPn s
        · rw [if_pos e, if_pos e, if_pos e, if_pos e]
          exact ⟨rfl, rfl⟩
        · rw [if_neg e, if_neg e, if_neg e, if_neg e]
          exact b9 p (by omega)
  · refine OP_q hs (.int (-2)) (fun L ext tx tt fe I G hb => ?_) (fun L ext tx tt fe I G hb => ?_)
    · have fin : wp (am_R 2047 75 4 (am_mem L ext tx tt fe I G) [some (Value.ref 5), some (Value.int a), some (Value.int b)] []) (qC L ext tx fe I G (.int (-2))) := wp_e e_75_4 (wp_r (qc_of (fr_r _ _)))
      exact wp_e e_75_0 (wp_p s_79 (wp_e e_75_1 (wp_i (fun _ => fin) (fun h1 => wp_e e_75_2 (wp_i (fun _ => fin) (fun h2 => wp_e e_75_3 (wp_i (fun _ => fin) (fun h3 => absurd ⟨bI_n h1, h2, h3⟩ h))))))))
    · have fin : wp (am_R 2047 137 4 (am_mem L ext tx tt fe I G) [some (Value.ref 55), some (Value.int a), some (Value.int b)] []) (qM L ext tx tt fe I (.int (-2))) := wp_e e_137_4 (wp_r (qm_of (mf_r _ _ _)))
      refine wp_e e_137_0 (wp_p s_127 (wp_e e_137_1 (wp_i (fun _ => fin) (fun h1 => wp_e e_137_2 (wp_p s_127 (wp_e e_137_3 (wp_i (fun _ => fin) (fun h2 => ?_))))))))
      obtain ⟨j, j1, rfl⟩ := ix_le (by decide) ((in_k (k := 5) (by decide)).mp (bI_n h1))
      exact absurd ⟨⟨nI_pos (by omega), nI_lt (b := 6) (by omega) (by decide)⟩, (in_k (k := 9) (by decide)).mp (bI_n h2)⟩ h
