/-! PURE, 17: the model's levels -/
theorem MS_k {I I' : Nat → Nat → Int32} {G : Nat → Nat → Int64} {bt : Nat → Nat} {n q : Nat} (h : MS I G bt n q) (h2 : I' 55 22 = I 55 22) (h3 : I' 55 23 = I 55 23) (h4 : I' 55 24 = I 55 24) : MS I' G bt n q := by
  unfold MS at h ⊢
  rw [h2, h3, h4]
  exact h
theorem lv_x {c : Int32} {l : Int32} (h : lvo c = l) : (l = 2 → c = -61 ∨ c = -60) ∧ (l = 3 → c = -45 ∨ c = -43) ∧ (l = 4 → c = -42) ∧ (l = 1 → c = -10) ∧ (l = 0 → c = -9) := by
  subst h
  unfold lvo
  by_cases h1 : c = -61
  · rw [if_pos h1]; exact ⟨fun _ => Or.inl h1, fun e => absurd e (by decide), fun e => absurd e (by decide), fun e => absurd e (by decide), fun e => absurd e (by decide)⟩
  rw [if_neg h1]
  by_cases h2 : c = -60
  · rw [if_pos h2]; exact ⟨fun _ => Or.inr h2, fun e => absurd e (by decide), fun e => absurd e (by decide), fun e => absurd e (by decide), fun e => absurd e (by decide)⟩
  rw [if_neg h2]
  by_cases h3 : c = -45
  · rw [if_pos h3]; exact ⟨fun e => absurd e (by decide), fun _ => Or.inl h3, fun e => absurd e (by decide), fun e => absurd e (by decide), fun e => absurd e (by decide)⟩
  rw [if_neg h3]
  by_cases h4 : c = -43
  · rw [if_pos h4]; exact ⟨fun e => absurd e (by decide), fun _ => Or.inr h4, fun e => absurd e (by decide), fun e => absurd e (by decide), fun e => absurd e (by decide)⟩
  rw [if_neg h4]
  by_cases h5 : c = -42
  · rw [if_pos h5]; exact ⟨fun e => absurd e (by decide), fun e => absurd e (by decide), fun _ => h5, fun e => absurd e (by decide), fun e => absurd e (by decide)⟩
  rw [if_neg h5]
  by_cases h6 : c = -10
  · rw [if_pos h6]; exact ⟨fun e => absurd e (by decide), fun e => absurd e (by decide), fun e => absurd e (by decide), fun _ => h6, fun e => absurd e (by decide)⟩
  rw [if_neg h6]
  by_cases h7 : c = -9
  · rw [if_pos h7]; exact ⟨fun e => absurd e (by decide), fun e => absurd e (by decide), fun e => absurd e (by decide), fun e => absurd e (by decide), fun _ => h7⟩
  rw [if_neg h7]
  exact ⟨fun e => absurd e (by decide), fun e => absurd e (by decide), fun e => absurd e (by decide), fun e => absurd e (by decide), fun e => absurd e (by decide)⟩
theorem sg (v : Nat) (c : Int32) (h : -nI v = c) {x : Int32} : x = -nI v ↔ x = c := by rw [h]
section B17
variable {d L : Nat} {ext : List (Nat × Nat)} {tx : Nat → Nat} {tt : Nat} {fe : Nat → Nat → Option Nat} {I : Nat → Nat → Int32} {G : Nat → Nat → Int64}
/-- names -/
theorem s_146 {bt : Nat → Nat} {n q k : Nat} {nm : Nat → Int32} (hq : Mq I G bt n q k nm) : wp (am_R (d + 3) 146 0 (am_mem L ext tx tt fe I G) [some (Value.ref 55)] []) (fun v M => (∃ w, w < 6 ∧ cd bt n q = kc w ∧ v = some (.int (nm w)) ∧ M = (am_mem L ext tx tt fe I G)) ∨ ((∀ w, w < 6 → ¬ cd bt n q = kc w) ∧ v = some (.int 0) ∧ M = (am_mem L ext tx tt fe (am_u2 (am_u2 I 55 27 1) 55 28 (I 55 24)) G))) := by
  obtain ⟨ht, hs, hb, ho, hnm⟩ := hq
  have st : ∀ w, w < 12 → (cd bt n q = kc w → (if I 55 27 = 0 ∧ cd bt n q = kc w then (1 : Int32) else 0) = 1) ∧ (¬ cd bt n q = kc w → (if I 55 27 = 0 ∧ cd bt n q = kc w then (1 : Int32) else 0) = 0) := fun w hw => ⟨fun h => if_pos ⟨hb, h⟩, fun h => if_neg (fun e => h e.2)⟩
  refine wp_e e_146_0 (wp_p (s_143 (w := 0) (by omega) ht hs) (wp_e e_146_1 ?_))
  by_cases c0 : cd bt n q = kc 0
  · rw [(st 0 (by omega)).1 c0]
    exact wp_f (by decide) (wp_e e_146_2 (wp_r (Or.inl ⟨0, by omega, c0, by rw [← hnm 0 (by omega)], rfl⟩)))
  rw [(st 0 (by omega)).2 c0]
  refine wp_t rfl (wp_e e_146_3 (wp_p (s_143 (w := 1) (by omega) ht hs) (wp_e e_146_4 ?_)))
  by_cases c1 : cd bt n q = kc 1
  · rw [(st 1 (by omega)).1 c1]
    exact wp_f (by decide) (wp_e e_146_5 (wp_r (Or.inl ⟨1, by omega, c1, by rw [← hnm 1 (by omega)], rfl⟩)))
  rw [(st 1 (by omega)).2 c1]
  refine wp_t rfl (wp_e e_146_6 (wp_p (s_143 (w := 2) (by omega) ht hs) (wp_e e_146_7 ?_)))
  by_cases c2 : cd bt n q = kc 2
  · rw [(st 2 (by omega)).1 c2]
    exact wp_f (by decide) (wp_e e_146_8 (wp_r (Or.inl ⟨2, by omega, c2, by rw [← hnm 2 (by omega)], rfl⟩)))
  rw [(st 2 (by omega)).2 c2]
  refine wp_t rfl (wp_e e_146_9 (wp_p (s_143 (w := 3) (by omega) ht hs) (wp_e e_146_10 ?_)))
  by_cases c3 : cd bt n q = kc 3
  · rw [(st 3 (by omega)).1 c3]
    exact wp_f (by decide) (wp_e e_146_11 (wp_r (Or.inl ⟨3, by omega, c3, by rw [← hnm 3 (by omega)], rfl⟩)))
  rw [(st 3 (by omega)).2 c3]
  refine wp_t rfl (wp_e e_146_12 (wp_p (s_143 (w := 4) (by omega) ht hs) (wp_e e_146_13 ?_)))
  by_cases c4 : cd bt n q = kc 4
  · rw [(st 4 (by omega)).1 c4]
    exact wp_f (by decide) (wp_e e_146_14 (wp_r (Or.inl ⟨4, by omega, c4, by rw [← hnm 4 (by omega)], rfl⟩)))
  rw [(st 4 (by omega)).2 c4]
  refine wp_t rfl (wp_e e_146_15 (wp_p (s_143 (w := 5) (by omega) ht hs) (wp_e e_146_16 ?_)))
  by_cases c5 : cd bt n q = kc 5
  · rw [(st 5 (by omega)).1 c5]
    exact wp_f (by decide) (wp_e e_146_17 (wp_r (Or.inl ⟨5, by omega, c5, by rw [← hnm 5 (by omega)], rfl⟩)))
  rw [(st 5 (by omega)).2 c5]
  refine wp_t rfl (wp_e e_146_18 (wp_p (s_141 hb) (wp_e e_146_19 (wp_r (Or.inr ⟨fun w hw => ?_, rfl, rfl⟩)))))
  obtain rfl | rfl | rfl | rfl | rfl | rfl : w = 0 ∨ w = 1 ∨ w = 2 ∨ w = 3 ∨ w = 4 ∨ w = 5 := by omega
  · exact c0
  · exact c1
  · exact c2
  · exact c3
  · exact c4
  · exact c5
theorem kc_wn {nm : Nat → Int32} : ∀ w : Nat, w < 6 → wn nm (kc w) = nm w ∧ ¬ kc w < 0 := by
  intro w hw
  obtain rfl | rfl | rfl | rfl | rfl | rfl : w = 0 ∨ w = 1 ∨ w = 2 ∨ w = 3 ∨ w = 4 ∨ w = 5 := by omega
  · exact ⟨rfl, by decide⟩
  · exact ⟨rfl, by decide⟩
  · exact ⟨rfl, by decide⟩
  · exact ⟨rfl, by decide⟩
  · exact ⟨rfl, by decide⟩
  · exact ⟨rfl, by decide⟩
/-- an atom -/
theorem s_147 {bt : Nat → Nat} {n k : Nat} {nm : Nat → Int32} (hk : k ≤ 5) (ih : ∀ j, j ≤ 5 → ∀ k', k = k' + 1 → MPT L ext tx tt fe bt n k' j nm) : MPT L ext tx tt fe bt n k 0 nm := by
  intro d0 hd I G q hq
  obtain ⟨d, rfl⟩ : ∃ d, d0 = d + 5 := ⟨d0 - 5, by omega⟩
  rw [Pf_eq]
  have eo : lvf (cd bt n) (adv bt n) (innf (cd bt n) (adv bt n) k) 0 q = onf (cd bt n) (adv bt n) (innf (cd bt n) (adv bt n) k) q := rfl
  rw [eo]
  unfold onf
  have hq0 := hq
  obtain ⟨ht, hs, hb, ho, hnm⟩ := hq
  have hag := adv_gt bt n q
  show wp (am_R (d + 4 + 1) 147 0 (am_mem L ext tx tt fe I G) [some (Value.ref 55), none] []) _
  refine wp_e e_147_0 (wp_p (s_144 (v := 45) rfl ht hs) (wp_e e_147_1 ?_))
  by_cases c45 : cd bt n q = -45
  · rw [if_pos (show I 55 27 = 0 ∧ cd bt n q = -nI 45 from ⟨hb, c45⟩), if_pos (show cd bt n q < 0 by rw [c45]; decide), if_pos c45]
    refine wp_f (by decide) (wp_e e_147_2 (wp_b (s_145 (d := d + 1) hk hq0 (by rw [c45]; decide) (by rw [c45]; decide)) ?_))
    rintro v M (⟨rfl, rfl, I1, rfl, f1, b1, b2⟩ | ⟨k', rfl, rfl, I1, G1, rfl, f1, q1⟩)
    · exact wp_e e_147_3 (wp_t rfl (wp_e e_147_28 (wp_r ⟨0, I1, G, rfl, rfl, f1, b1, b2⟩)))
    · refine wp_e e_147_3 (wp_f (by decide) (wp_e e_147_4 (wp_b (ih 0 (by omega) k' rfl (d + 4) (by omega) I1 G1 _ q1) ?_)))
      rintro v M ⟨x, I2, G2, rfl, rfl, f2, o2⟩
      refine wp_e e_147_5 (wp_e e_147_28 (wp_r ⟨_, _, G2, rfl, rfl, f5_t f1 (f5_t f2 (f5_2 (by decide))), ?_⟩))
      have ei : innf (cd bt n) (adv bt n) (k' + 1) 0 q = Pf (cd bt n) (adv bt n) k' 0 (adv bt n q) := rfl
      rw [ei]
      revert o2
      cases Pf (cd bt n) (adv bt n) k' 0 (adv bt n q) with
      | mk q' ow =>
        cases ow with
        | none =>
          rintro ⟨b1, b2⟩
          exact ⟨by rw [u2_k, if_neg (by decide)]; exact b1, by rw [u2_k, if_neg (by decide)]; exact b2⟩
        | some w =>
          rintro ⟨b1, b2, b3, b4, b5⟩
          refine ⟨by rw [u2_k, if_neg (by decide)]; exact b1, ?_, MS_k b3 (by rw [u2_k, if_neg (by decide)]) (by rw [u2_k, if_neg (by decide)]) (by rw [u2_k, if_neg (by decide)]), by omega, Vo_1 (Vo_m b5 (by omega)) (fun st => rfl)⟩
          rw [u2_s, b2, n1, pk_sub (by omega), show 5 - k' - 1 = 5 - (k' + 1) by omega]
  rw [if_neg (show ¬ (I 55 27 = 0 ∧ cd bt n q = -nI 45) from fun e => c45 e.2)]
  refine wp_t rfl (wp_e e_147_6 (wp_p (s_144 (v := 40) rfl ht hs) (wp_e e_147_7 ?_)))
  by_cases c40 : cd bt n q = -40
  · rw [if_pos (show I 55 27 = 0 ∧ cd bt n q = -nI 40 from ⟨hb, c40⟩), if_pos (show cd bt n q < 0 by rw [c40]; decide), if_neg c45, if_pos c40]
    refine wp_f (by decide) (wp_e e_147_8 (wp_b (s_145 (d := d + 1) hk hq0 (by rw [c40]; decide) (by rw [c40]; decide)) ?_))
    rintro v M (⟨rfl, rfl, I1, rfl, f1, b1, b2⟩ | ⟨k', rfl, rfl, I1, G1, rfl, f1, q1⟩)
    · exact wp_e e_147_9 (wp_t rfl (wp_e e_147_28 (wp_r ⟨0, I1, G, rfl, rfl, f1, b1, b2⟩)))
    · refine wp_e e_147_9 (wp_f (by decide) (wp_e e_147_10 (wp_b (ih 5 (by omega) k' rfl (d + 4) (by omega) I1 G1 _ q1) ?_)))
      rintro v M ⟨x, I2, G2, rfl, rfl, f2, o2⟩
      refine wp_e e_147_11 ?_
      have ei : innf (cd bt n) (adv bt n) (k' + 1) 5 q = Pf (cd bt n) (adv bt n) k' 5 (adv bt n q) := rfl
      rw [ei]
      have f12 := f5_t f1 f2
      revert o2
      cases Pf (cd bt n) (adv bt n) k' 5 (adv bt n q) with
      | mk q' ow =>
        cases ow with
        | none =>
          rintro ⟨b1, b2⟩
          refine wp_p (s_144b b1) (wp_e e_147_12 (wp_t rfl (wp_e e_147_13 (wp_p (s_141b b1) (wp_e e_147_14 (wp_f ?_ (wp_e e_147_28 (wp_r ⟨_, _, G2, rfl, rfl, f5_t f12 (f5_2 (by decide)), ?_, ?_⟩))))))))
          · rw [u2_k, if_neg (by decide), b1]; decide
          · rw [u2_k, if_neg (by decide)]; exact b1
          · rw [u2_k, if_neg (by decide)]; exact b2
        | some w =>
          rintro ⟨b1, b2, b3, b4, b5⟩
          have ht2 := MT_f ht f12 (by decide) (by decide)
          have hnm2 := FM_nm f12 hnm
          refine wp_p (s_144 (v := 41) rfl ht2 b3) (wp_e e_147_12 ?_)
          by_cases c41 : cd bt n q' = -41
          · show wp _ (fun v M => ∃ x I' G', v = some (.int x) ∧ M = _ ∧ Mo I I' G' bt n q _ nm _ x (if cd bt n q' = -41 then (adv bt n q', some w) else (q', none)))
            rw [if_pos (show I2 55 27 = 0 ∧ cd bt n q' = -nI 41 from ⟨b1, c41⟩), if_pos c41]
            refine wp_f (by decide) (wp_e e_147_14 (wp_t (by rw [u2_k, if_neg (by decide)]; exact b1) (wp_e e_147_15 ?_)))
            have q2 : Mq (am_u2 I2 55 26 (I2 55 26 - 1)) G2 bt n q' (k' + 1) nm := by
              refine ⟨MT_f ht2 (f5_2 (S := [26]) (by decide)) (by decide) (by decide), MS_k b3 (by rw [u2_k, if_neg (by decide)]) (by rw [u2_k, if_neg (by decide)]) (by rw [u2_k, if_neg (by decide)]), by rw [u2_k, if_neg (by decide)]; exact b1, ?_, FM_nm (f5_2 (by decide)) hnm2⟩
              rw [u2_s, b2, n1, pk_sub (by omega), show 5 - k' - 1 = 5 - (k' + 1) by omega]
            refine wp_b (s_nt (d := d + 2) q2 (by rw [c41]; decide) (by rw [c41]; decide)) ?_
            rintro v M ⟨rfl, I3, G3, rfl, f3, r1, r2, r3, r4, r5⟩
            have := adv_gt bt n q'
            exact wp_e e_147_16 (wp_e e_147_28 (wp_r ⟨_, I3, G3, rfl, rfl, f5_t f12 (f5_t (f5_2 (by decide)) (f5_m f3 (by decide))), r3, r4, r2, by omega, Vo_m b5 (by omega)⟩))
          · show wp _ (fun v M => ∃ x I' G', v = some (.int x) ∧ M = _ ∧ Mo I I' G' bt n q _ nm _ x (if cd bt n q' = -41 then (adv bt n q', some w) else (q', none)))
            rw [if_neg (show ¬ (I2 55 27 = 0 ∧ cd bt n q' = -nI 41) from fun e => c41 e.2), if_neg c41]
            refine wp_t rfl (wp_e e_147_13 (wp_p (s_141 b1) (wp_e e_147_14 (wp_f ?_ (wp_e e_147_28 (wp_r ⟨_, _, G2, rfl, rfl, f5_t f12 (f5_t (f5_2 (by decide)) (f5_t (f5_2 (by decide)) (f5_2 (by decide)))), ?_, ?_⟩))))))
            · rw [u2_k, if_neg (by decide), u2_k, if_neg (by decide), u2_s]; decide
            · rw [u2_k, if_neg (by decide), u2_k, if_neg (by decide), u2_s]
            · rw [u2_k, if_neg (by decide), u2_s, b3.1]
  rw [if_neg (show ¬ (I 55 27 = 0 ∧ cd bt n q = -nI 40) from fun e => c40 e.2)]
  refine wp_t rfl (wp_e e_147_17 (wp_t hb (wp_e e_147_18 ?_)))
  -- a fault here
  have flt : cd bt n q < 0 → ∀ x, wp (some (some (.int x), (am_mem L ext tx tt fe (am_u2 (am_u2 I 55 27 1) 55 28 (I 55 24)) G))) (fun v M => ∃ x I' G', v = some (.int x) ∧ M = am_mem L ext tx tt fe I' G' ∧ Mo I I' G' bt n q (nI (5 - k)) nm (5 * k + 1 + 0) x (if cd bt n q < 0 then (if cd bt n q = -45 then (match innf (cd bt n) (adv bt n) k 0 q with
      | (q', some w) => (q', some (w ++ [-3]))
      | (q', none) => (q', none))
    else if cd bt n q = -40 then (match innf (cd bt n) (adv bt n) k 5 q with
      | (q', some w) => if cd bt n q' = -41 then (adv bt n q', some w) else (q', none)
      | (q', none) => (q', none))
    else (q, none))
  else (adv bt n q, some [cd bt n q]))) := by
    intro h0 x
    rw [if_pos h0, if_neg c45, if_neg c40]
    exact wp_r ⟨x, _, G, rfl, rfl, s_fail hq0⟩
  obtain ⟨h24, hqn, hor⟩ := hs
  have hs : MS I G bt n q := ⟨h24, hqn, hor⟩
  rcases hor with h | h | h | h | h
  · have hc : cd bt n q = -1 := by
      unfold cd
      rw [if_neg (by omega)]
    refine wp_f (by rw [h.2]; decide) (wp_e e_147_21 (wp_t hb (wp_e e_147_22 (wp_f (by rw [h.2]; decide) (wp_e e_147_27 (wp_p (s_141 hb) (wp_e e_147_28 (flt (by rw [hc]; decide) _))))))))
  · -- a word
    refine wp_f (by rw [h.2.2.1]; decide) (wp_e e_147_21 (wp_t hb (wp_e e_147_22 (wp_t h.2.2.1 (wp_e e_147_23 (wp_b (s_146 (d := d + 1) hq0) ?_))))))
    rintro v M (⟨w, hw, hc, rfl, rfl⟩ | ⟨hno, rfl, rfl⟩)
    · obtain ⟨w1, w2⟩ := kc_wn (nm := nm) w hw
      rw [if_neg (show ¬ cd bt n q < 0 by rw [hc]; exact w2)]
      refine wp_e e_147_24 (wp_t hb (wp_e e_147_25 (wp_b (s_nt (d := d + 2) hq0 (by rw [hc]; exact fun e => (kc_m (by omega)).2 e.symm) (by rw [hc]; exact fun e => (kc_m (by omega)).1 e.symm)) ?_)))
      rintro v M ⟨rfl, I3, G3, rfl, f3, r1, r2, r3, r4, r5⟩
      refine wp_e e_147_26 (wp_e e_147_28 (wp_r ⟨_, I3, G3, rfl, rfl, f5_m f3 (by decide), r3, r4, r2, hag, ?_⟩))
      rw [hc, ← w1]
      exact Vo_0 w2 (by omega)
    · refine wp_e e_147_24 (wp_f (by rw [u2_k, if_neg (by decide), u2_s]; decide) (wp_e e_147_28 (flt ?_ _)))
      have ec : cd bt n q = wco (ltr bt q (te bt n q)) := by
        unfold cd
        rw [if_pos h.1, if_pos h.2.1]
      rcases wco_in (ltr bt q (te bt n q)) with e | ⟨w, hw, e⟩
      · rw [ec, e]; decide
      · rw [ec, e]
        have h6 : ¬ w < 6 := fun h6 => hno w h6 (ec.trans e)
        obtain rfl | rfl | rfl | rfl | rfl | rfl : w = 6 ∨ w = 7 ∨ w = 8 ∨ w = 9 ∨ w = 10 ∨ w = 11 := by omega
        all_goals decide
  · -- a number
    have hv : nv bt q (te bt n q - q) < 10000 := by
      have eD := te_D h.1 h.2.1 h.2.2.1
      have hv : nv bt q (te bt n q - q) < 10 ^ (te bt n q - q) := nv_lt _ (fun i hi => by
        have := rn_P (P := fun k => isD (bt k)) (n - q) q (q + i) (by omega) (by rw [← eD]; omega)
        unfold isD at this
        rw [decide_eq_true_eq] at this
        omega)
      have hp : 10 ^ (te bt n q - q) ≤ 10 ^ 4 := Nat.pow_le_pow_right (by omega) h.2.2.2.1
      omega
    have hc : cd bt n q = nI (nv bt q (te bt n q - q)) := by
      unfold cd
      rw [if_pos h.1, if_neg h.2.1, if_pos h.2.2.1, if_neg (by have := h.2.2.2.1; omega)]
    have h0 : ¬ cd bt n q < 0 := by rw [hc]; exact nI_pos (by omega)
    rw [if_neg h0]
    refine wp_t h.2.2.2.2.1 (wp_e e_147_19 (wp_b (s_nt (d := d + 2) hq0 (fun e => h0 (by rw [e]; decide)) (fun e => h0 (by rw [e]; decide))) ?_))
    rintro v M ⟨rfl, I3, G3, rfl, f3, r1, r2, r3, r4, r5⟩
    refine wp_e e_147_20 (wp_e e_147_28 (wp_r ⟨_, I3, G3, rfl, rfl, f5_m f3 (by decide), r3, r4, r2, hag, ?_⟩))
    have ew : (G 55 25).toInt32 = wn nm (cd bt n q) := by
      rw [h.2.2.2.2.2.2, lN_i, hc]
      unfold wn
      rw [if_pos (show nI (nv bt q (te bt n q - q)) < (10000 : Int32) from nI_lt (b := 10000) hv (by omega))]
    rw [ew]
    exact Vo_0 h0 (by omega)
  · have hc : cd bt n q = -nI (bt q) := (cd_s h.2.2.2.1).mpr ⟨h.1, h.2.1, h.2.2.1, rfl⟩
    obtain ⟨s1, s2⟩ := isS_in h.2.2.2.1
    refine wp_f (by rw [h.2.2.2.2.1]; decide) (wp_e e_147_21 (wp_t hb (wp_e e_147_22 (wp_f (by rw [h.2.2.2.2.1]; decide) (wp_e e_147_27 (wp_p (s_141 hb) (wp_e e_147_28 (flt (by rw [hc]; exact (neg_2 s1 (by omega)).2.2) _))))))))
  · refine wp_f (by rw [h.2.2.2]; decide) (wp_e e_147_21 (wp_t hb (wp_e e_147_22 (wp_f (by rw [h.2.2.2]; decide) (wp_e e_147_27 (wp_p (s_141 hb) (wp_e e_147_28 (flt (by rw [h.2.2.1]; decide) _))))))))
end B17
