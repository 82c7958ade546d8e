/-! PURE, 19: whole texts; what the model says -/
def clf (c : Nat → Int32) (ad : Nat → Nat) (key : Int32) (q : Nat) : PR := if c q = key then (match Pf c ad 5 5 (ad q) with
  | (q1, some w) => if c q1 = -59 then (ad q1, some w) else (q1, none)
  | (q1, none) => (q1, none)) else (q, none)
abbrev TR : Type := Nat × Option (List Int32 × List Int32 × List Int32)
def tx3 (c : Nat → Int32) (ca cb : List Int32) (r : PR) : TR := match r with
  | (q, none) => (q, none)
  | (q, some cl) => if c q = -1 then (q, some (ca, cb, cl)) else (q, none)
def tx2 (c : Nat → Int32) (ad : Nat → Nat) (ca : List Int32) (r : PR) : TR := match r with
  | (q, none) => (q, none)
  | (q, some cb) => tx3 c ca cb (clf c ad (-8) q)
def tx1 (c : Nat → Int32) (ad : Nat → Nat) (r : PR) : TR := match r with
  | (q, none) => (q, none)
  | (q, some ca) => tx2 c ad ca (clf c ad (-7) q)
def txf (c : Nat → Int32) (ad : Nat → Nat) (q : Nat) : TR := tx1 c ad (clf c ad (-6) q)
def pk3 (w : Nat) (a b c : Int32) : Int32 := match w with
  | 0 => a
  | 1 => b
  | _ => c
/-- a text of bytes, read -/
def txt (bt : Nat → Nat) (n : Nat) : TR := txf (cd bt n) (adv bt n) (sk bt n 0)
theorem Vo_wv {nm : Nat → Int32} {hg : Nat} {w : List Int32} {x : Int32} (h : Vo nm hg w x) (hh : hg ≤ 40) : wv nm w [] = x := by
  rw [wv_evl, h [] (by simpa using hh)]
def FZ : List Nat := [20, 21, 22, 23, 24, 26, 27, 28]
section B19
variable {d L : Nat} {ext : List (Nat × Nat)} {tx : Nat → Nat} {tt : Nat} {fe : Nat → Nat → Option Nat} {I : Nat → Nat → Int32} {G : Nat → Nat → Int64}
theorem s_153 {bt : Nat → Nat} {n q : Nat} {nm : Nat → Int32} {key b : Int32} (hq : Mq I G bt n q 5 nm) (hb1 : cd bt n q = key → b = 1) (hb0 : ¬ cd bt n q = key → b = 0) (hk1 : ¬ key = -1) (hk2 : ¬ key = -2) (hd : 60 ≤ d) : wp (am_R (d + 1) 153 0 (am_mem L ext tx tt fe I G) [some (Value.ref 55), some (Value.int b), none] []) (fun v M => ∃ x I' G', v = some (.int x) ∧ M = am_mem L ext tx tt fe I' G' ∧ f5 FM I I' ∧ (match clf (cd bt n) (adv bt n) key q with
    | (q', some w) => Mq I' G' bt n q' 5 nm ∧ Vo nm 31 w x
    | (q', none) => I' 55 27 = 1 ∧ I' 55 28 = nI q')) := by
  have hq0 := hq
  obtain ⟨ht, hs, hb, ho, hnm⟩ := hq
  obtain ⟨d, rfl⟩ : ∃ e, d = e + 4 := ⟨d - 4, by omega⟩
  -- behind a fault
  have aft : ∀ (q' : Nat) (I1 : Nat → Nat → Int32) (G1 : Nat → Nat → Int64) (x z : Int32), f5 FM I I1 → I1 55 27 = 1 → I1 55 28 = nI q' → wp (am_R (d + 4 + 1) 153 7 (am_mem L ext tx tt fe I1 G1) [some (Value.ref 55), some (Value.int z), none] [Value.int x]) (fun v M => ∃ x I' G', v = some (.int x) ∧ M = am_mem L ext tx tt fe I' G' ∧ f5 FM I I' ∧ I' 55 27 = 1 ∧ I' 55 28 = nI q') := by
    intro q' I1 G1 x z f1 b1 b2
    refine wp_e e_153_7 (wp_p (s_144b b1) (wp_e e_153_8 (wp_t rfl (wp_e e_153_9 (wp_p (s_141b b1) (wp_e e_153_10 (wp_f (by rw [b1]; decide) (wp_e e_153_12 (wp_r ⟨x, I1, G1, rfl, rfl, f1, b1, b2⟩)))))))))
  unfold clf
  by_cases hc : cd bt n q = key
  · rw [if_pos hc, hb1 hc]
    refine wp_e e_153_0 (wp_f (by decide) (wp_e e_153_2 (wp_t hb (wp_e e_153_3 (wp_b (s_nt (d := d + 2) hq0 (by rw [hc]; exact hk1) (by rw [hc]; exact hk2)) ?_)))))
    rintro v M ⟨rfl, I1, G1, rfl, f1, q1⟩
    refine wp_e e_153_4 (wp_t q1.2.2.1 (wp_e e_153_6 (wp_b (s_mp 5 (by omega) 5 (by omega) (d + 4) (by omega) I1 G1 _ q1) ?_)))
    rintro v M ⟨x, I2, G2, rfl, rfl, f2, o2⟩
    have f12 : f5 FM I I2 := f5_t (f5_m f1 (by decide)) f2
    revert o2
    cases Pf (cd bt n) (adv bt n) 5 5 (adv bt n q) with
    | mk q' ow =>
      cases ow with
      | none =>
        rintro ⟨b1, b2⟩
        exact aft q' I2 G2 x _ f12 b1 b2
      | some w =>
        rintro ⟨b1, b2, b3, b4, b5⟩
        have q2 : Mq I2 G2 bt n q' 5 nm := ⟨MT_f q1.1 f2 (by decide) (by decide), b3, b1, b2, FM_nm f2 q1.2.2.2.2⟩
        refine wp_e e_153_7 (wp_p (s_144 (v := 59) rfl q2.1 b3) (wp_e e_153_8 ?_))
        show wp _ (fun v M => ∃ x I' G', v = some (.int x) ∧ M = am_mem L ext tx tt fe I' G' ∧ f5 FM I I' ∧ (match (if cd bt n q' = -59 then (adv bt n q', some w) else (q', none) : PR) with
          | (q', some w) => Mq I' G' bt n q' 5 nm ∧ Vo nm 31 w x
          | (q', none) => I' 55 27 = 1 ∧ I' 55 28 = nI q'))
        by_cases c59 : cd bt n q' = -59
        · rw [if_pos (show I2 55 27 = 0 ∧ cd bt n q' = -nI 59 from ⟨b1, c59⟩), if_pos c59]
          refine wp_f (by decide) (wp_e e_153_10 (wp_t b1 (wp_e e_153_11 (wp_b (s_nt (d := d + 2) q2 (by rw [c59]; decide) (by rw [c59]; decide)) ?_))))
          rintro v M ⟨rfl, I3, G3, rfl, f3, q3⟩
          exact wp_e e_153_12 (wp_r ⟨x, I3, G3, rfl, rfl, f5_t f12 (f5_m f3 (by decide)), q3, b5⟩)
        · rw [if_neg (show ¬ (I2 55 27 = 0 ∧ cd bt n q' = -nI 59) from fun e => c59 e.2), if_neg c59]
          refine wp_t rfl (wp_e e_153_9 (wp_p (s_141 b1) (wp_e e_153_10 (wp_f (by rw [u2_k, if_neg (by decide), u2_s]; decide) (wp_e e_153_12 (wp_r ⟨x, _, G2, rfl, rfl, f5_t f12 (f5_t (f5_2 (by decide)) (f5_2 (by decide))), ?_, ?_⟩))))))
          · rw [u2_k, if_neg (by decide), u2_s]
          · rw [u2_s, b3.1]
  · rw [if_neg hc, hb0 hc]
    refine wp_e e_153_0 (wp_t rfl (wp_e e_153_1 (wp_p (s_141 hb) (wp_e e_153_2 (wp_f (by rw [u2_k, if_neg (by decide), u2_s]; decide) (wp_e e_153_4 (wp_f (by rw [u2_k, if_neg (by decide), u2_s]; decide) (wp_e e_153_5 ?_))))))))
    refine aft q _ G 0 _ (f5_t (f5_2 (by decide)) (f5_2 (by decide))) ?_ ?_
    · rw [u2_k, if_neg (by decide), u2_s]
    · rw [u2_s, hs.1]
/-- the model's bytes of a text -/
def MB (I : Nat → Nat → Int32) (t : Nat) (bt : Nat → Nat) (n : Nat) : Prop := t < 6 ∧ n ≤ 160 ∧ I 57 t = nI n ∧ ∀ k, k < n → I 56 (160 * t + k) = nI (bt k) ∧ bt k < 256
def pick (which : Nat) (a b c : List Int32) : List Int32 := match which with
  | 0 => a
  | 1 => b
  | _ => c
theorem s_154 {bt : Nat → Nat} {n t which : Nat} {nm : Nat → Int32} (hm : MB I t bt n) (hnm : ∀ i, i < 6 → I 55 (14 + i) = nm i) (hd : 61 ≤ d) (hw : which < 3) : wp (am_R (d + 1) 154 0 (am_mem L ext tx tt fe I G) [some (Value.ref 55), some (Value.int (nI t)), some (Value.int (nI which)), none, none, none] []) (fun v M => ∃ x I' G', v = some (.int x) ∧ M = am_mem L ext tx tt fe I' G' ∧ f5 FZ I I' ∧ (match txt bt n with
    | (q', some (a, b, c)) => I' 55 27 = 0 ∧ x = wv nm (pick which a b c) []
    | (q', none) => I' 55 27 = 1 ∧ I' 55 28 = nI q')) := by
  obtain ⟨ht6, hn, h57, h56⟩ := hm
  obtain ⟨d, rfl⟩ : ∃ e, d = e + 4 := ⟨d - 4, by omega⟩
  refine wp_e e_154_0 (wp_c (by rw [ib ht6 (by decide)]; rfl) ?_)
  rw [nI_clamp (n := t) (by omega), show (160 : Int32) = nI 160 from rfl, pk_mul, u2_a (show (57 : Nat) ≠ 55 by decide), h57]
  have fa : f5 FZ I (am_u2 (am_u2 (am_u2 (am_u2 (am_u2 I 55 20 (nI (160 * t))) 55 21 (nI n)) 55 22 0) 55 26 0) 55 27 0) := f5_t (f5_2 (by decide)) (f5_t (f5_2 (by decide)) (f5_t (f5_2 (by decide)) (f5_t (f5_2 (by decide)) (f5_2 (by decide)))))
  have a20 : (am_u2 (am_u2 (am_u2 (am_u2 (am_u2 I 55 20 (nI (160 * t))) 55 21 (nI n)) 55 22 0) 55 26 0) 55 27 0) 55 20 = nI (160 * t) := by simp only [u2_k]; rfl
  have a21 : (am_u2 (am_u2 (am_u2 (am_u2 (am_u2 I 55 20 (nI (160 * t))) 55 21 (nI n)) 55 22 0) 55 26 0) 55 27 0) 55 21 = nI n := by simp only [u2_k]; rfl
  have a22 : (am_u2 (am_u2 (am_u2 (am_u2 (am_u2 I 55 20 (nI (160 * t))) 55 21 (nI n)) 55 22 0) 55 26 0) 55 27 0) 55 22 = nI 0 := by simp only [u2_k]; rfl
  have a26 : (am_u2 (am_u2 (am_u2 (am_u2 (am_u2 I 55 20 (nI (160 * t))) 55 21 (nI n)) 55 22 0) 55 26 0) 55 27 0) 55 26 = 0 := by simp only [u2_k]; rfl
  have a27 : (am_u2 (am_u2 (am_u2 (am_u2 (am_u2 I 55 20 (nI (160 * t))) 55 21 (nI n)) 55 22 0) 55 26 0) 55 27 0) 55 27 = 0 := by simp only [u2_k]; rfl
  generalize (am_u2 (am_u2 (am_u2 (am_u2 (am_u2 I 55 20 (nI (160 * t))) 55 21 (nI n)) 55 22 0) 55 26 0) 55 27 0) = Ia at fa a20 a21 a22 a26 a27 ⊢
  have hta : MT Ia bt n := ⟨160 * t, a20, by omega, a21, hn, fun k hk => by rw [fa.1 56 (by decide)]; exact h56 k hk⟩
  refine wp_b (s_140 (d := d + 2) n 0 (by omega) Ia hta a22) ?_
  rintro v M ⟨rfl, I1, G1, rfl, f1, m1⟩
  have f01 : f5 FZ I I1 := f5_t fa (f5_m f1 (by decide))
  have q1 : Mq I1 G1 bt n (sk bt n 0) 5 nm := ⟨MT_f hta f1 (by decide) (by decide), m1, by rw [f1.2 27 (by decide)]; exact a27, by rw [f1.2 26 (by decide)]; exact a26, fun i hi => by rw [f01.2 (14 + i) (by unfold FZ; simp; omega)]; exact hnm i hi⟩
  -- the ends
  have en : ∀ (I2 : Nat → Nat → Int32) (G2 : Nat → Nat → Int64) (v3 v4 v5 : Int32) (Q : Option Value → am_M → Prop), Q (some (.int (pk3 which v3 v4 v5))) (am_mem L ext tx tt fe I2 G2) → wp (am_R (d + 4 + 1) 154 14 (am_mem L ext tx tt fe I2 G2) [some (Value.ref 55), some (Value.int (nI t)), some (Value.int (nI which)), some (Value.int v3), some (Value.int v4), some (Value.int v5)] []) Q := by
    intro I2 G2 v3 v4 v5 Q hQ
    refine wp_e e_154_14 ?_
    obtain rfl | rfl | rfl : which = 0 ∨ which = 1 ∨ which = 2 := by omega
    · exact wp_t (by decide) (wp_e e_154_15 (wp_e e_154_19 (wp_r hQ)))
    · exact wp_f (by decide) (wp_e e_154_16 (wp_t (by decide) (wp_e e_154_17 (wp_e e_154_19 (wp_r hQ)))))
    · exact wp_f (by decide) (wp_e e_154_16 (wp_f (by decide) (wp_e e_154_18 (wp_e e_154_19 (wp_r hQ)))))
  unfold txt txf
  refine wp_e e_154_1 (wp_p (s_143 (w := 6) (by omega) q1.1 q1.2.1) (wp_e e_154_2 (wp_b (s_153 (key := kc 6) (d := d + 3) q1 (fun h => if_pos ⟨q1.2.2.1, h⟩) (fun h => if_neg (fun e => h e.2)) (by decide) (by decide) (by omega)) ?_)))
  rintro v M ⟨x, I2, G2, rfl, rfl, f2, o2⟩
  have f02 : f5 FZ I I2 := f5_t f01 (f5_m f2 (by decide))
  have k6 : kc 6 = -6 := by decide
  rw [k6] at o2
  revert o2
  cases clf (cd bt n) (adv bt n) (-6) (sk bt n 0) with
  | mk p1 ow =>
    cases ow with
    | none =>
      rintro ⟨b1, b2⟩
      refine wp_e e_154_3 (wp_f (by rw [b1]; decide) (wp_e e_154_4 (wp_e e_154_7 (wp_f (by rw [b1]; decide) (wp_e e_154_8 (wp_e e_154_11 (wp_f (by rw [b1]; decide) ?_)))))))
      exact en I2 G2 _ _ _ _ ⟨_, I2, G2, rfl, rfl, f02, b1, b2⟩
    | some ca =>
      rintro ⟨q2, v2⟩
      rw [show tx1 (cd bt n) (adv bt n) (p1, some ca) = tx2 (cd bt n) (adv bt n) ca (clf (cd bt n) (adv bt n) (-7) p1) from rfl]
      refine wp_e e_154_3 (wp_t q2.2.2.1 (wp_e e_154_5 (wp_p (s_143 (w := 7) (by omega) q2.1 q2.2.1) (wp_e e_154_6 (wp_b (s_153 (key := kc 7) (d := d + 3) q2 (fun h => if_pos ⟨q2.2.2.1, h⟩) (fun h => if_neg (fun e => h e.2)) (by decide) (by decide) (by omega)) ?_)))))
      rintro v M ⟨y, I3, G3, rfl, rfl, f3, o3⟩
      have f03 : f5 FZ I I3 := f5_t f02 (f5_m f3 (by decide))
      have k7 : kc 7 = -7 := by decide
      rw [k7] at o3
      revert o3
      cases clf (cd bt n) (adv bt n) (-7) p1 with
      | mk p2 ow2 =>
        cases ow2 with
        | none =>
          rintro ⟨b1, b2⟩
          refine wp_e e_154_7 (wp_f (by rw [b1]; decide) (wp_e e_154_8 (wp_e e_154_11 (wp_f (by rw [b1]; decide) ?_))))
          exact en I3 G3 _ _ _ _ ⟨_, I3, G3, rfl, rfl, f03, b1, b2⟩
        | some cb =>
          rintro ⟨q3, v3⟩
          rw [show tx2 (cd bt n) (adv bt n) ca (p2, some cb) = tx3 (cd bt n) ca cb (clf (cd bt n) (adv bt n) (-8) p2) from rfl]
          refine wp_e e_154_7 (wp_t q3.2.2.1 (wp_e e_154_9 (wp_p (s_143 (w := 8) (by omega) q3.1 q3.2.1) (wp_e e_154_10 (wp_b (s_153 (key := kc 8) (d := d + 3) q3 (fun h => if_pos ⟨q3.2.2.1, h⟩) (fun h => if_neg (fun e => h e.2)) (by decide) (by decide) (by omega)) ?_)))))
          rintro v M ⟨z, I4, G4, rfl, rfl, f4, o4⟩
          have f04 : f5 FZ I I4 := f5_t f03 (f5_m f4 (by decide))
          have k8 : kc 8 = -8 := by decide
          rw [k8] at o4
          revert o4
          cases clf (cd bt n) (adv bt n) (-8) p2 with
          | mk p3 ow3 =>
            cases ow3 with
            | none =>
              rintro ⟨b1, b2⟩
              refine wp_e e_154_11 (wp_f (by rw [b1]; decide) ?_)
              exact en I4 G4 _ _ _ _ ⟨_, I4, G4, rfl, rfl, f04, b1, b2⟩
            | some cc =>
              rintro ⟨q4, v4⟩
              refine wp_e e_154_11 (wp_t q4.2.2.1 (wp_e e_154_12 ?_))
              rw [show tx3 (cd bt n) ca cb (p3, some cc) = (if cd bt n p3 = -1 then (p3, some (ca, cb, cc)) else (p3, none)) from rfl]
              by_cases c1 : cd bt n p3 = -1
              · rw [if_pos c1]
                have k0 : I4 55 23 = 0 := by
                  obtain ⟨h24, hqn, hor⟩ := q4.2.1
                  have nl : ¬ (p3 < n ∧ isL (bt p3) = true) := fun e => by
                    have ec : cd bt n p3 = wco (ltr bt p3 (te bt n p3)) := by
                      unfold cd
                      rw [if_pos e.1, if_pos e.2]
                    rcases wco_in (ltr bt p3 (te bt n p3)) with h | ⟨w, hw, h⟩
                    · rw [c1, h] at ec; exact absurd ec (by decide)
                    · rw [c1, h] at ec; exact (kc_m hw).2 ec
                  rcases hor with h | h | h | h | h
                  · exact h.2
                  · exact absurd ⟨h.1, h.2.1⟩ nl
                  · exfalso
                    have hc : cd bt n p3 = nI (nv bt p3 (te bt n p3 - p3)) := by
                      unfold cd
                      rw [if_pos h.1, if_neg h.2.1, if_pos h.2.2.1, if_neg (by have := h.2.2.2.1; omega)]
                    have eD := te_D h.1 h.2.1 h.2.2.1
                    have hv : nv bt p3 (te bt n p3 - p3) < 10 ^ (te bt n p3 - p3) := nv_lt _ (fun i hi => by
                      have := rn_P (P := fun k => isD (bt k)) (n - p3) p3 (p3 + i) (by omega) (by rw [← eD]; omega)
                      unfold isD at this
                      rw [decide_eq_true_eq] at this
                      omega)
                    have hp : 10 ^ (te bt n p3 - p3) ≤ 10 ^ 4 := Nat.pow_le_pow_right (by omega) h.2.2.2.1
                    rw [c1] at hc
                    exact nI_pos (n := nv bt p3 (te bt n p3 - p3)) (by omega) (by rw [← hc]; decide)
                  · exfalso
                    have hc : cd bt n p3 = -nI (bt p3) := (cd_s h.2.2.2.1).mpr ⟨h.1, h.2.1, h.2.2.1, rfl⟩
                    obtain ⟨s1, s2⟩ := isS_in h.2.2.2.1
                    rw [c1] at hc
                    exact (neg_2 s1 (by omega)).2.1 hc.symm
                  · have := h.2.2.1
                    rw [c1] at this
                    exact absurd this (by decide)
                refine wp_t k0 (en I4 G4 _ _ _ _ ⟨_, I4, G4, rfl, rfl, f04, q4.2.2.1, ?_⟩)
                obtain rfl | rfl | rfl : which = 0 ∨ which = 1 ∨ which = 2 := by omega
                · exact (Vo_wv v2 (by omega)).symm
                · exact (Vo_wv v3 (by omega)).symm
                · exact (Vo_wv v4 (by omega)).symm
              · rw [if_neg c1]
                have k0 : ¬ I4 55 23 = 0 := by
                  intro h0
                  obtain ⟨h24, hqn, hor⟩ := q4.2.1
                  rcases hor with h | h | h | h | h
                  · apply c1
                    unfold cd
                    rw [if_neg (by omega)]
                  · rw [h.2.2.1] at h0; exact absurd h0 (by decide)
                  · rw [h.2.2.2.2.1] at h0; exact absurd h0 (by decide)
                  · rw [h.2.2.2.2.1] at h0; exact absurd h0 (by decide)
                  · rw [h.2.2.2] at h0; exact absurd h0 (by decide)
                refine wp_f k0 (wp_e e_154_13 (wp_p (s_141 q4.2.2.1) (en _ G4 _ _ _ _ ⟨_, _, G4, rfl, rfl, f5_t f04 (f5_t (f5_2 (by decide)) (f5_2 (by decide))), ?_, ?_⟩)))
                · rw [u2_k, if_neg (by decide), u2_s]
                · rw [u2_s, q4.2.1.1]
end B19
