/-! PURE, 49: IMAGE, BACK -/
def img (s : St) : St := setR (setR (setR (setN (setN (setN (setN (setN s 6 1) 7 (sC s)) 8 (sD s)) 9 (sPn s)) 10 (sR s)) 8 (srow s)) 9 (spr s)) 10 (snu s)
theorem stb_img {s : St} {t : Nat} : stb (img s) t = stb s t := (stb_R (s := setR (setR (setN (setN (setN (setN (setN s 6 1) 7 (sC s)) 8 (sD s)) 9 (sPn s)) 10 (sR s)) 8 (srow s)) 9 (spr s)) (by decide)).trans ((stb_R (s := setR (setN (setN (setN (setN (setN s 6 1) 7 (sC s)) 8 (sD s)) 9 (sPn s)) 10 (sR s)) 8 (srow s)) (by decide)).trans (stb_R (s := setN (setN (setN (setN (setN s 6 1) 7 (sC s)) 8 (sD s)) 9 (sPn s)) 10 (sR s)) (by decide)))
def bck (s : St) : St := setR (setR (setR (setN (setN (setN (setN s 0 (s.1 7)) 1 (s.1 8)) 2 (s.1 10)) 3 (s.1 9)) 1 (s.2.1 8)) 2 (s.2.1 9)) 4 (s.2.1 10)
theorem Sok_img {s : St} (hs : Sok s) : Sok (img s) := by
  obtain ⟨⟨hC, hR, hT6, hP, hn, h5, h6, h7, h8⟩, hT, hS, hK, h61⟩ := hs
  exact ⟨⟨hC, hR, hT6, hP, hn, h5, h6, h7, h8⟩, ST_R (by decide) (by decide) (ST_R (by decide) (by decide) (ST_R (by decide) (by decide) hT)), hS, fun _ => ⟨hC, Nat.le_refl _, hR, h5, h6, fun p hp => (h7 p hp).2⟩, Nat.le_refl 1⟩
theorem Sok_bck {s : St} (hs : Sok s) (h : s.1 6 = 1) : Sok (bck s) := by
  obtain ⟨⟨hC, hR, hT6, hP, hn, h5, h6, h7, h8⟩, hT, hS, hK, h61⟩ := hs
  obtain ⟨k1, k2, k3, k4, k5, k6⟩ := hK h
  exact ⟨⟨k1, k3, hT6, Nat.le_trans k2 hP, hn, k4, k5, fun p hp => ⟨(h7 p (Nat.lt_of_lt_of_le hp k2)).1, k6 p hp⟩, h8⟩, ST_R (by decide) (by decide) (ST_R (by decide) (by decide) (ST_R (by decide) (by decide) hT)), hS, fun _ => ⟨k1, Nat.le_refl _, k3, k4, k5, k6⟩, h61⟩
/-- the class keeps all but the pourers' numbers -/
def KP (s : St) (J : Nat → Nat → Int32) : Prop := J 17 0 = 1 ∧ J 17 1 = nI (sC s) ∧ J 17 2 = nI (sD s) ∧ J 17 3 = nI (sPn s) ∧ J 17 4 = nI (sR s) ∧ (∀ k, k < 24 → J 18 k = nI (srow s k)) ∧ ∀ k, k < 8 → J 19 k = nI (spr s k)
theorem KP_f {s : St} {J J' : Nat → Nat → Int32} (h : KP s J) (h7 : J' 17 = J 17) (h8 : J' 18 = J 18) (h9 : J' 19 = J 19) : KP s J' := by
  unfold KP at h ⊢
  rw [h7, h8, h9]
  exact h
/-- IMAGE -/
theorem op_image {s : St} (hs : Sok s) : OP s (fun M => (am_R (2047) 117 0 M [some (Value.ref 5), none] [])) (fun M => (am_R (2047) 197 0 M [some (Value.ref 55), none] [])) := by
  have hs0 := hs.1
  obtain ⟨hC, hR, hT6, hP, hn, h5, h6, h7, h8⟩ := hs0
  refine OP_g (s := s) (s' := img s) (.int (nI (sD s))) (Sok_img hs) rfl rfl (fun L ext tx tt fe I G hb => ?_) (fun L ext tx tt fe I G hb => ?_)
  · obtain ⟨⟨a1, a2⟩, hN, ⟨c1, c2, c3⟩, hT, hS, hK⟩ := hb
    have hN2 := hN
    obtain ⟨b1, b2, b3, b4, b5, b6, b7, b8⟩ := hN2
    refine wp_e e_117_0 (wp_c (by decide) ?_)
    rw [show (0 : Int32).toNatClampNeg = 0 from rfl, show (24 : Int32).toNatClampNeg = 24 from nI_clamp (n := 24) (by decide), show (8 : Int32).toNatClampNeg = 8 from nI_clamp (n := 8) (by decide)]
    refine wp_loop (sPn s) (fun k (J : Nat → Nat → Int32) => fr [17, 18, 19, 20] I J ∧ KP s J ∧ ∀ p, p < k → J 20 p = nI (snu s p)) (fun k J => wp (am_R 2047 117 1 (am_mem L ext tx tt fe J G) [some (Value.ref 5), some (Value.int (nI k))] []) _) ?_ ?_ 0 _ (Nat.zero_le _) ⟨fr_t (fr_t (fr_t (fr_t (fr_t (fr_t (fr_2 (by decide)) (fr_2 (by decide))) (fr_2 (by decide))) (fr_2 (by decide))) (fr_2 (by decide))) (fr_1 (by decide))) (fr_1 (by decide)), ⟨?_, ?_, ?_, ?_, ?_, ?_, ?_⟩, fun p hp => absurd hp (Nat.not_lt_zero p)⟩
    · rintro J ⟨f1, k1, k2⟩
      refine wp_e e_117_1 ?_
      rw [f1 5 (by decide), b3]
      refine wp_f (nI_nlt (Nat.le_refl _) (by omega)) (wp_e e_117_4 (wp_r ?_))
      rw [f1 5 (by decide), b2]
      have e2 : CN s J := CN_f hN (f1 5 (by decide)) (f1 6 (by decide)) (f1 7 (by decide)) (fun p hp => f1 _ (by simp; omega))
      have e3 : TW J (sbt s) (sn s) := ⟨c1, by rw [f1 10 (by decide)]; exact c2, by rw [f1 11 (by decide)]; exact c3⟩
      have e4 : CT s L ext tx tt fe J := CT_f hT (ntx_d (by decide)) f1
      have e5 : CS s J := CS_f hS (fun a h1 h2 => f1 a (by simp; omega))
      obtain ⟨q1, q2, q3, q4, q5, q6, q7⟩ := k1
      have e6 : CK (img s) J := ⟨q1, fun _ => ⟨q2, q3, q4, q5, q6, q7, k2⟩⟩
      exact ⟨rfl, tt, J, rfl, ⟨⟨SW_e a1 (f1 2 (by decide)) (f1 3 (by decide)), by rw [UW, f1 1 (by decide)]; exact a2⟩, e2, e3, e4, e5, e6⟩, [17, 18, 19, 20], f1, by decide⟩
    · rintro k J hk ⟨f1, k1, k2⟩ hgo
      have hkb := ib (n := k) (N := 6) (by omega) (by decide)
      refine wp_e e_117_1 ?_
      rw [f1 5 (by decide), b3]
      refine wp_t (nI_lt hk (by omega)) (wp_e e_117_2 (wp_c (by rw [hkb]; rfl) ?_))
      rw [nI_clamp (n := k) (by omega), Fx8 (by omega)]
      refine wp_e e_117_3 (wp_c (by rw [hkb, kd_of (sp28 (by omega))]; rfl) ?_)
      rw [nI_clamp (n := k) (by omega), nI_1, f1 (28 + k) (by simp; omega), (b8 k hk).2]
      refine hgo _ ⟨fr_t f1 (fr_2 (by decide)), KP_f k1 (u2_a (by decide)) (u2_a (by decide)) (u2_a (by decide)), fun p hp => ?_⟩
      rw [u2_k]
      by_cases e : p = k
      · rw [if_pos e, e]
      · rw [if_neg e]
        exact k2 p (by omega)
    · simp [am_u1, am_u2]
    · simp [am_u1, am_u2, b1]
    · simp [am_u1, am_u2, b2]
    · simp [am_u1, am_u2, b3]
    · simp [am_u1, am_u2, b5]
    · intro k hk
      rw [u1_a (by decide), u1_s, pk_cpy_in (Nat.zero_le _) (by omega), show 0 + (k - 0) = k by omega, ← b6 k hk]
      simp [am_u2]
    · intro k hk
      rw [u1_s, pk_cpy_in (Nat.zero_le _) (by omega), show 0 + (k - 0) = k by omega, ← b7 k hk]
      simp [am_u1, am_u2]
  · obtain ⟨hN, hT, hS, hK⟩ := hb
    have hN2 := hN
    obtain ⟨b1, b2, b3, b4, b5, b6, b7, b8, b9, b10⟩ := hN2
    refine wp_e e_197_0 ?_
    refine wp_loop 24 (fun k (J : Nat → Nat → Int32) => fr [70] I J ∧ ∀ i, i < k → J 70 i = nI (srow s i)) (fun k J => wp (am_R 2047 197 1 (am_mem L ext tx tt fe J G) [some (Value.ref 55), some (Value.int (nI k))] []) _) ?_ ?_ 0 I (Nat.zero_le _) ⟨fr_r _ _, fun i hi => absurd hi (Nat.not_lt_zero i)⟩
    · rintro J1 ⟨f1, z1⟩
      refine wp_e e_197_1 (wp_f (by decide) (wp_e e_197_3 ?_))
      refine wp_loop 8 (fun k (J : Nat → Nat → Int32) => fr [71] J1 J ∧ ∀ i, i < k → J 71 i = nI (spr s i)) (fun k J => wp (am_R 2047 197 4 (am_mem L ext tx tt fe J G) [some (Value.ref 55), some (Value.int (nI k))] []) _) ?_ ?_ 0 J1 (Nat.zero_le _) ⟨fr_r _ _, fun i hi => absurd hi (Nat.not_lt_zero i)⟩
      · rintro J2 ⟨f2, z2⟩
        refine wp_e e_197_4 (wp_f (by decide) (wp_e e_197_6 ?_))
        refine wp_loop 6 (fun k (J : Nat → Nat → Int32) => fr [72] J2 J ∧ ∀ i, i < k → J 72 i = I 61 i) (fun k J => wp (am_R 2047 197 7 (am_mem L ext tx tt fe J G) [some (Value.ref 55), some (Value.int (nI k))] []) _) ?_ ?_ 0 J2 (Nat.zero_le _) ⟨fr_r _ _, fun i hi => absurd hi (Nat.not_lt_zero i)⟩
        · rintro J ⟨f3, z3⟩
          have ff : fr [70, 71, 72] I J := fr_t (fr_m f1 (by decide)) (fr_t (fr_m f2 (by decide)) (fr_m f3 (by decide)))
          have j1 : J 55 7 = nI (sC s) := by rw [ff 55 (by decide)]; exact b1
          have j2 : J 55 8 = nI (sD s) := by rw [ff 55 (by decide)]; exact b2
          have j3 : J 55 12 = nI (sPn s) := by rw [ff 55 (by decide)]; exact b3
          have j5 : J 55 4 = nI (sR s) := by rw [ff 55 (by decide)]; exact b5
          refine wp_e e_197_7 (wp_f (by decide) (wp_e e_197_9 (wp_r ⟨by simp [am_u2, j2], _, G, rfl, ?_, [55, 70, 71, 72], fr_t (fr_m ff (by decide)) (fr_t (fr_t (fr_t (fr_2 (by decide)) (fr_2 (by decide))) (fr_2 (by decide))) (fr_2 (by decide))), by decide⟩)))
          refine ⟨⟨by simp [am_u2, j1]; rfl, by simp [am_u2, j2]; rfl, by simp [am_u2, j3]; rfl, by simp [am_u2, ff 55 (by decide), b4]; rfl, by simp [am_u2, j5]; rfl, by simp [am_u2, ff 55 (by decide), b6]; rfl, ?_, ?_, ?_, ?_⟩, fun t ht => ?_, fun q hq => ?_, fun e => absurd (show (1 : Nat) = 0 from e) (by decide), fun _ => ⟨by simp [am_u2, j2]; rfl, by simp [am_u2, j1]; rfl, by simp [am_u2, j3]; rfl, by simp [am_u2, j5]; rfl, ?_, ?_, ?_⟩⟩
          · intro k hk
            simp only [u2_a (show (59 : Nat) ≠ 55 by decide)]
            rw [ff 59 (by decide)]
            exact b7 k hk
          · intro k hk
            simp only [u2_a (show (62 : Nat) ≠ 55 by decide)]
            rw [ff 62 (by decide)]
            exact b8 k hk
          · intro p hp
            simp only [u2_a (show (60 : Nat) ≠ 55 by decide), u2_a (show (61 : Nat) ≠ 55 by decide)]
            rw [ff 60 (by decide), ff 61 (by decide)]
            exact b9 p hp
          · intro k hk
            simp only [u2_a (show (58 : Nat) ≠ 55 by decide)]
            rw [ff 58 (by decide)]
            exact b10 k hk
          · obtain ⟨m1, m2, m3, m4⟩ := hT t ht
            rw [stb_img]
            refine ⟨m1, m2, ?_, ?_⟩
            · simp only [u2_a (show (57 : Nat) ≠ 55 by decide)]
              rw [ff 57 (by decide)]
              exact m3
            · simp only [u2_a (show (56 : Nat) ≠ 55 by decide)]
              rw [ff 56 (by decide)]
              exact m4
          · simp only [u2_a (show (73 : Nat) ≠ 55 by decide), u2_a (show (74 : Nat) ≠ 55 by decide), u2_a (show (75 : Nat) ≠ 55 by decide), u2_a (show (76 : Nat) ≠ 55 by decide)]
            rw [ff 73 (by decide), ff 74 (by decide), ff 75 (by decide), ff 76 (by decide)]
            exact hS q hq
          · intro k hk
            simp only [u2_a (show (70 : Nat) ≠ 55 by decide)]
            rw [f3 70 (by decide), f2 70 (by decide)]
            exact z1 k hk
          · intro k hk
            simp only [u2_a (show (71 : Nat) ≠ 55 by decide)]
            rw [f3 71 (by decide)]
            exact z2 k hk
          · intro p hp
            have hp : p < sPn s := hp
            simp only [u2_a (show (72 : Nat) ≠ 55 by decide)]
            rw [z3 p (by omega)]
            exact (b9 p hp).2
        · rintro k J hk ⟨f3, z3⟩ hgo
          refine wp_e e_197_7 (wp_t (nI_lt (b := 6) hk (by decide)) (wp_e e_197_8 (wp_c (by rw [ib (n := k) (N := 6) hk (by decide)]; rfl) ?_)))
          rw [nI_clamp (n := k) (by omega), nI_1, f3 61 (by decide), f2 61 (by decide), f1 61 (by decide)]
          refine hgo _ ⟨fr_t f3 (fr_2 (by decide)), fun i hi => ?_⟩
          rw [u2_k]
          by_cases e : i = k
          · rw [if_pos e, e]
          · rw [if_neg e]
            exact z3 i (by omega)
      · rintro k J hk ⟨f2, z2⟩ hgo
        refine wp_e e_197_4 (wp_t (nI_lt (b := 8) hk (by decide)) (wp_e e_197_5 (wp_c (by rw [ib (n := k) (N := 8) hk (by decide)]; rfl) ?_)))
        rw [nI_clamp (n := k) (by omega), nI_1, f2 62 (by decide), f1 62 (by decide), b8 k hk]
        refine hgo _ ⟨fr_t f2 (fr_2 (by decide)), fun i hi => ?_⟩
        rw [u2_k]
        by_cases e : i = k
        · rw [if_pos e, e]
        · rw [if_neg e]
          exact z2 i (by omega)
    · rintro k J hk ⟨f1, z1⟩ hgo
      refine wp_e e_197_1 (wp_t (nI_lt (b := 24) hk (by decide)) (wp_e e_197_2 (wp_c (by rw [ib (n := k) (N := 24) hk (by decide)]; rfl) ?_)))
      rw [nI_clamp (n := k) (by omega), nI_1, f1 59 (by decide), b7 k hk]
      refine hgo _ ⟨fr_t f1 (fr_2 (by decide)), fun i hi => ?_⟩
      rw [u2_k]
      by_cases e : i = k
      · rw [if_pos e, e]
      · rw [if_neg e]
        exact z1 i (by omega)
/-- BACK -/
theorem op_back {s : St} (hs : Sok s) : OP s (fun M => (am_R (2047) 118 0 M [some (Value.ref 5), none] [])) (fun M => (am_R (2047) 198 0 M [some (Value.ref 55), none] [])) := by
  have hs0 := hs.1
  obtain ⟨hC, hR, hT6, hP, hn, h5, h6, h7, h8⟩ := hs0
  by_cases h1 : s.1 6 = 1
  · obtain ⟨k1, k2, k3, k4, k5, k6⟩ := hs.2.2.2.1 h1
    refine OP_g (s := s) (s' := bck s) (.int (nI (s.1 8))) (Sok_bck hs h1) rfl rfl (fun L ext tx tt fe I G hb => ?_) (fun L ext tx tt fe I G hb => ?_)
    · obtain ⟨b1, b2, b3, b4, b5, b6, b7, b8⟩ := hb.2.1
      obtain ⟨q1, q⟩ := hb.2.2.2.2.2
      obtain ⟨q2, q3, q4, q5, q6, q7, q8⟩ := q h1
      refine wp_e e_118_0 ?_
      rw [q1, h1]
      refine wp_f (by decide) (wp_e e_118_2 (wp_c (by decide) ?_))
      rw [show (0 : Int32).toNatClampNeg = 0 from rfl, show (24 : Int32).toNatClampNeg = 24 from nI_clamp (n := 24) (by decide), show (8 : Int32).toNatClampNeg = 8 from nI_clamp (n := 8) (by decide)]
      refine wp_loop (s.1 9) (fun k (J : Nat → Nat → Int32) => fr [5, 6, 7, 28, 29, 30, 31, 32, 33] I J ∧ (J 5 0 = nI (s.1 7) ∧ J 5 1 = nI (s.1 8) ∧ J 5 5 = nI (s.1 9) ∧ J 5 7 = nI (sT s) ∧ J 5 8 = nI (s.1 10)) ∧ (∀ k, k < 24 → J 6 k = nI (s.2.1 8 k)) ∧ (∀ k, k < 8 → J 7 k = nI (s.2.1 9 k)) ∧ (∀ p, p < sPn s → J (28 + p) 0 = nI (skd s p)) ∧ ∀ p, p < k → J (28 + p) 1 = nI (s.2.1 10 p)) (fun k J => wp (am_R 2047 118 3 (am_mem L ext tx tt fe J G) [some (Value.ref 5), some (Value.int (nI k))] []) _) ?_ ?_ 0 _ (Nat.zero_le _) ⟨fr_t (fr_t (fr_t (fr_t (fr_t (fr_2 (by decide)) (fr_2 (by decide))) (fr_2 (by decide))) (fr_1 (by decide))) (fr_1 (by decide))) (fr_2 (by decide)), ⟨?_, ?_, ?_, ?_, ?_⟩, ?_, ?_, ?_, fun p hp => absurd hp (Nat.not_lt_zero p)⟩
      · rintro J ⟨f1, ⟨j1, j2, j3, j4, j5⟩, j6, j7, j8, j9⟩
        refine wp_e e_118_3 ?_
        rw [j3]
        refine wp_f (nI_nlt (Nat.le_refl _) (by omega)) (wp_e e_118_6 (wp_r ?_))
        rw [j2]
        exact ⟨rfl, tt, J, rfl, CB_o (s' := bck s) hb f1 (by decide) ⟨j1, j2, j3, j4, j5, j6, j7, fun p hp => ⟨j8 p (Nat.lt_of_lt_of_le hp k2), j9 p hp⟩⟩ ⟨hb.2.2.1.1, by rw [f1 10 (by decide)]; exact hb.2.2.1.2.1, by rw [f1 11 (by decide)]; exact hb.2.2.1.2.2⟩ rfl rfl rfl rfl rfl (fun q => q), _, f1, by decide⟩
      · rintro k J hk ⟨f1, jj, j6, j7, j8, j9⟩ hgo
        have hkb := ib (n := k) (N := 6) (by omega) (by decide)
        have h5k : Nat.ble 5 (28 + k) = true := Nat.ble_eq_true_of_le (by omega)
        refine wp_e e_118_3 ?_
        rw [jj.2.2.1]
        refine wp_t (nI_lt hk (by omega)) (wp_e e_118_4 (wp_c (by rw [hkb]; rfl) ?_))
        rw [nI_clamp (n := k) (by omega), Fx8 (by omega)]
        refine wp_e e_118_5 (wp_c (by rw [hkb, kd_of (sp28 (by omega)), h5k]; rfl) ?_)
        rw [nI_clamp (n := k) (by omega), nI_1, f1 20 (by decide), q8 k hk]
        have na : ∀ x, x < 28 → am_u2 J (28 + k) 1 (nI (s.2.1 10 k)) x = J x := fun x hx => u2_a (by omega)
        refine hgo _ ⟨fr_t f1 (fr_2 (by simp; omega)), ?_, ?_, ?_, fun p hp => ?_, fun p hp => ?_⟩
        · rw [na 5 (by decide)]
          exact jj
        · rw [na 6 (by decide)]
          exact j6
        · rw [na 7 (by decide)]
          exact j7
        · by_cases e : p = k
          · rw [e, u2_k, if_neg (by decide)]
            exact j8 k (by omega)
          · rw [u2_a (show 28 + p ≠ 28 + k by omega)]
            exact j8 p hp
        · by_cases e : p = k
          · rw [e, u2_k, if_pos rfl]
          · rw [u2_a (show 28 + p ≠ 28 + k by omega)]
            exact j9 p (by omega)
      · simp [am_u1, am_u2, q2]
      · simp [am_u1, am_u2, q3]
      · simp [am_u1, am_u2, q4]
      · simp [am_u1, am_u2, b4]
      · simp [am_u1, am_u2, q5]
      · intro k hk
        rw [u2_a (by decide), u1_a (by decide), u1_s, pk_cpy_in (Nat.zero_le _) (by omega), show 0 + (k - 0) = k by omega, ← q6 k hk]
        simp [am_u2]
      · intro k hk
        rw [u2_a (by decide), u1_s, pk_cpy_in (Nat.zero_le _) (by omega), show 0 + (k - 0) = k by omega, ← q7 k hk]
        simp [am_u1, am_u2]
      · intro p hp
        rw [u2_a (by omega), u1_a (by omega), u1_a (by omega), u2_a (by omega), u2_a (by omega), u2_a (by omega)]
        exact (b8 p hp).1
    · have hN := hb.1
      obtain ⟨b1, b2, b3, b4, b5, b6, b7, b8, b9, b10⟩ := hN
      obtain ⟨q2, q3, q4, q5, q6, q7, q8⟩ := hb.2.2.2.2 h1
      refine wp_e e_198_0 ?_
      rw [q2]
      refine wp_f (nIm4 (by omega)) (wp_e e_198_2 ?_)
      refine wp_loop 24 (fun k (J : Nat → Nat → Int32) => fr [59] I J ∧ ∀ i, i < k → J 59 i = nI (s.2.1 8 i)) (fun k J => wp (am_R 2047 198 3 (am_mem L ext tx tt fe J G) [some (Value.ref 55), some (Value.int (nI k))] []) _) ?_ ?_ 0 I (Nat.zero_le _) ⟨fr_r _ _, fun i hi => absurd hi (Nat.not_lt_zero i)⟩
      · rintro J1 ⟨f1, z1⟩
        refine wp_e e_198_3 (wp_f (by decide) (wp_e e_198_5 ?_))
        refine wp_loop 8 (fun k (J : Nat → Nat → Int32) => fr [62] J1 J ∧ ∀ i, i < k → J 62 i = nI (s.2.1 9 i)) (fun k J => wp (am_R 2047 198 6 (am_mem L ext tx tt fe J G) [some (Value.ref 55), some (Value.int (nI k))] []) _) ?_ ?_ 0 J1 (Nat.zero_le _) ⟨fr_r _ _, fun i hi => absurd hi (Nat.not_lt_zero i)⟩
        · rintro J2 ⟨f2, z2⟩
          refine wp_e e_198_6 (wp_f (by decide) (wp_e e_198_8 ?_))
          refine wp_loop 6 (fun k (J : Nat → Nat → Int32) => fr [61] J2 J ∧ ∀ i, i < k → J 61 i = I 72 i) (fun k J => wp (am_R 2047 198 9 (am_mem L ext tx tt fe J G) [some (Value.ref 55), some (Value.int (nI k))] []) _) ?_ ?_ 0 J2 (Nat.zero_le _) ⟨fr_r _ _, fun i hi => absurd hi (Nat.not_lt_zero i)⟩
          · rintro J ⟨f3, z3⟩
            have ff : fr [59, 61, 62] I J := fr_t (fr_m f1 (by decide)) (fr_t (fr_m f2 (by decide)) (fr_m f3 (by decide)))
            have j5 : J 55 = I 55 := ff 55 (by decide)
            have f4 : fr [55, 59, 61, 62] I (am_u2 (am_u2 (am_u2 (am_u2 J 55 8 (J 55 47)) 55 7 ((am_u2 J 55 8 (J 55 47)) 55 48)) 55 12 ((am_u2 (am_u2 J 55 8 (J 55 47)) 55 7 ((am_u2 J 55 8 (J 55 47)) 55 48)) 55 49)) 55 4 ((am_u2 (am_u2 (am_u2 J 55 8 (J 55 47)) 55 7 ((am_u2 J 55 8 (J 55 47)) 55 48)) 55 12 ((am_u2 (am_u2 J 55 8 (J 55 47)) 55 7 ((am_u2 J 55 8 (J 55 47)) 55 48)) 55 49)) 55 50)) := fr_t (fr_m ff (by decide)) (fr_t (fr_t (fr_t (fr_2 (by decide)) (fr_2 (by decide))) (fr_2 (by decide))) (fr_2 (by decide)))
            refine wp_e e_198_9 (wp_f (by decide) (wp_e e_198_11 (wp_r ⟨by simp [am_u2, j5, q2], _, G, rfl, MJ_o (s' := bck s) hb f4 (by decide) (fun k hk => ?_) ⟨by simp [am_u2, j5, q3]; rfl, by simp [am_u2, j5, q2]; rfl, by simp [am_u2, j5, q4]; rfl, by simp [am_u2, j5, b4]; rfl, by simp [am_u2, j5, q5]; rfl, by simp [am_u2, j5, b6]; rfl, ?_, ?_, ?_, ?_⟩ rfl (fun t => ?_) rfl rfl rfl rfl (fun q => q), _, f4, by decide⟩)))
            · rw [u2_k, if_neg (show ¬ k = 4 by omega), u2_k, if_neg (show ¬ k = 12 by omega), u2_k, if_neg (show ¬ k = 7 by omega), u2_k, if_neg (show ¬ k = 8 by omega), j5]
            · intro k hk
              simp only [u2_a (show (59 : Nat) ≠ 55 by decide)]
              rw [f3 59 (by decide), f2 59 (by decide)]
              exact z1 k hk
            · intro k hk
              simp only [u2_a (show (62 : Nat) ≠ 55 by decide)]
              rw [f3 62 (by decide)]
              exact z2 k hk
            · intro p hp
              have hp : p < s.1 9 := hp
              simp only [u2_a (show (60 : Nat) ≠ 55 by decide), u2_a (show (61 : Nat) ≠ 55 by decide)]
              rw [ff 60 (by decide), z3 p (by omega)]
              exact ⟨(b9 p (by omega)).1, q8 p hp⟩
            · intro k hk
              simp only [u2_a (show (58 : Nat) ≠ 55 by decide)]
              rw [ff 58 (by decide)]
              exact b10 k hk
            · exact (stb_R (s := setR (setR (setN (setN (setN (setN s 0 (s.1 7)) 1 (s.1 8)) 2 (s.1 10)) 3 (s.1 9)) 1 (s.2.1 8)) 2 (s.2.1 9)) (by decide)).trans ((stb_R (s := setR (setN (setN (setN (setN s 0 (s.1 7)) 1 (s.1 8)) 2 (s.1 10)) 3 (s.1 9)) 1 (s.2.1 8)) (by decide)).trans (stb_R (s := setN (setN (setN (setN s 0 (s.1 7)) 1 (s.1 8)) 2 (s.1 10)) 3 (s.1 9)) (by decide)))
          · rintro k J hk ⟨f3, z3⟩ hgo
            refine wp_e e_198_9 (wp_t (nI_lt (b := 6) hk (by decide)) (wp_e e_198_10 (wp_c (by rw [ib (n := k) (N := 6) hk (by decide)]; rfl) ?_)))
            rw [nI_clamp (n := k) (by omega), nI_1, f3 72 (by decide), f2 72 (by decide), f1 72 (by decide)]
            refine hgo _ ⟨fr_t f3 (fr_2 (by decide)), fun i hi => ?_⟩
            rw [u2_k]
            by_cases e : i = k
            · rw [if_pos e, e]
            · rw [if_neg e]
              exact z3 i (by omega)
        · rintro k J hk ⟨f2, z2⟩ hgo
          refine wp_e e_198_6 (wp_t (nI_lt (b := 8) hk (by decide)) (wp_e e_198_7 (wp_c (by rw [ib (n := k) (N := 8) hk (by decide)]; rfl) ?_)))
          rw [nI_clamp (n := k) (by omega), nI_1, f2 71 (by decide), f1 71 (by decide), q7 k hk]
          refine hgo _ ⟨fr_t f2 (fr_2 (by decide)), fun i hi => ?_⟩
          rw [u2_k]
          by_cases e : i = k
          · rw [if_pos e, e]
          · rw [if_neg e]
            exact z2 i (by omega)
      · rintro k J hk ⟨f1, z1⟩ hgo
        refine wp_e e_198_3 (wp_t (nI_lt (b := 24) hk (by decide)) (wp_e e_198_4 (wp_c (by rw [ib (n := k) (N := 24) hk (by decide)]; rfl) ?_)))
        rw [nI_clamp (n := k) (by omega), nI_1, f1 70 (by decide), q6 k hk]
        refine hgo _ ⟨fr_t f1 (fr_2 (by decide)), fun i hi => ?_⟩
        rw [u2_k]
        by_cases e : i = k
        · rw [if_pos e, e]
        · rw [if_neg e]
          exact z1 i (by omega)
  · have h0 : s.1 6 = 0 := by
      have := hs.2.2.2.2
      omega
    refine OP_q hs (.int (-3)) (fun L ext tx tt fe I G hb => ?_) (fun L ext tx tt fe I G hb => ?_)
    · refine wp_e e_118_0 ?_
      rw [hb.2.2.2.2.2.1, h0]
      exact wp_t rfl (wp_e e_118_1 (wp_r (qc_of (fr_r _ _))))
    · refine wp_e e_198_0 ?_
      rw [hb.2.2.2.1 h0]
      exact wp_t rfl (wp_e e_198_1 (wp_r (qm_of (mf_r _ _ _))))
