/-! PURE, 50: SHEET -/
def shs (s : St) (q z n : Nat) : St := setI (setR (setR s 6 (updf (sso s) q z)) 7 (updf (ssz s) q n)) q (fun _ => 0)
theorem Sok_shs {s : St} (hs : Sok s) {q z n : Nat} (hz : z ≤ 3) (hn : n ≤ 40) : Sok (shs s q z n) := by
  obtain ⟨h1, hT, hS, hK, h61⟩ := hs
  refine ⟨h1, ST_R (by decide) (by decide) (ST_R (by decide) (by decide) hT), fun q' hq' => ?_, hK, h61⟩
  show updf (sso s) q z q' ≤ 3 ∧ updf (ssz s) q n q' ≤ 40
  obtain ⟨a, b⟩ := hS q' hq'
  unfold updf
  constructor
  · split
    · exact hz
    · exact a
  · split
    · exact hn
    · exact b
theorem shs_i {s : St} {q z n q' : Nat} : sit (shs s q z n) q' = if q' = q then (fun _ => 0) else sit s q' := rfl
theorem CB_h {s : St} {L : Nat} {ext : List (Nat × Nat)} {tx : Nat → Nat} {tt r : Nat} {fe : Nat → Nat → Option Nat} {I I' : Nat → Nat → Int32} {S : List Nat} {q z n : Nat} (hs : Sok s) (h : CB s L ext tx tt fe I) (hf : fr S I I') (hS : ∀ a, a ∈ S → 34 ≤ a ∧ a ≤ 41) (hi : CS (shs s q z n) I') : CB (shs s q z n) L ext tx r fe I' := by
  obtain ⟨⟨a1, a2⟩, b, ⟨c1, c2, c3⟩, e, f, k⟩ := h
  have hP := hs.1.2.2.2.1
  have nn : ∀ a, ¬ (34 ≤ a ∧ a ≤ 41) → I' a = I a := fun a ha => hf a (fun z => ha (hS a z))
  have b' : CN s I' := CN_f b (nn 5 (by omega)) (nn 6 (by omega)) (nn 7 (by omega)) (fun p hp => nn _ (by omega))
  have e' : CT s L ext tx r fe I' := CT_f e (fun a ha => by have := hS a ha; omega) hf
  have k' : CK s I' := CK_f k (nn 17 (by omega)) (nn 18 (by omega)) (nn 19 (by omega)) (nn 20 (by omega))
  exact ⟨⟨SW_e a1 (nn 2 (by omega)) (nn 3 (by omega)), by rw [UW, nn 1 (by omega)]; exact a2⟩, b', ⟨c1, by rw [nn 10 (by omega)]; exact c2, by rw [nn 11 (by omega)]; exact c3⟩, e', hi, k'⟩
theorem MJ_h {s : St} {I I' : Nat → Nat → Int32} {q z n : Nat} (h : MJ s I) (hf : fr [73, 74, 75, 76] I I') (hi : MSh (shs s q z n) I') : MJ (shs s q z n) I' := by
  obtain ⟨⟨b1, b2, b3, b4, b5, b6, b7, b8, b9, b10⟩, c, -, f1, f2⟩ := h
  have nn : ∀ a, a < 73 → I' a = I a := fun a ha => hf a (by simp; omega)
  refine ⟨⟨by rw [nn 55 (by decide)]; exact b1, by rw [nn 55 (by decide)]; exact b2, by rw [nn 55 (by decide)]; exact b3, by rw [nn 55 (by decide)]; exact b4, by rw [nn 55 (by decide)]; exact b5, by rw [nn 55 (by decide)]; exact b6, by rw [nn 59 (by decide)]; exact b7, by rw [nn 62 (by decide)]; exact b8, by rw [nn 60 (by decide), nn 61 (by decide)]; exact b9, by rw [nn 58 (by decide)]; exact b10⟩, fun t ht => ?_, hi, by rw [nn 55 (by decide)]; exact f1, ?_⟩
  · obtain ⟨m1, m2, m3, m4⟩ := c t ht
    have e : stb (shs s q z n) t = stb s t := (stb_R (s := setR s 6 (updf (sso s) q z)) (by decide)).trans (stb_R (by decide))
    rw [e]
    exact ⟨m1, m2, by rw [nn 57 (by decide)]; exact m3, by rw [nn 56 (by decide)]; exact m4⟩
  · rw [nn 55 (by decide), nn 70 (by decide), nn 71 (by decide), nn 72 (by decide)]
    exact f2
section B50
variable {d L : Nat} {ext : List (Nat × Nat)} {tx : Nat → Nat} {tt : Nat} {fe : Nat → Nat → Option Nat} {I : Nat → Nat → Int32} {G : Nat → Nat → Int64}
theorem c_40 {q : Nat} (hq : q < 4) {v w : Int32} : ∃ g : Nat → Int32, (am_R (d + 1) 40 0 (am_mem L ext tx tt fe I G) [some (Value.ref (34 + 2 * q)), some (Value.int v), some (Value.int w)] []) = some (none, (am_mem L ext tx tt fe (am_u1 (am_u2 (am_u2 I (34 + 2 * q) 0 v) (34 + 2 * q) 1 w) (35 + 2 * q) g) G)) ∧ ∀ y, y < 40 → g y = 0 := by
  have h5 : Nat.ble 5 (34 + 2 * q) = true := Nat.ble_eq_true_of_le (by omega)
  refine ⟨fun y => if y < 40 then 0 else am_u2 (am_u2 I (34 + 2 * q) 0 v) (34 + 2 * q) 1 w (35 + 2 * q) y, wp_eq (wp_e e_40_0 (wp_c (by rw [kd_of (sp34 hq).1, kd_of (sp34 hq).1, kd_of (sp34 hq).1, h5]; rfl) ?_)), ?_⟩
  · rw [(Fx16 hq).2]
    exact wp_e e_40_1 (wp_p (s_214 (r := 35 + 2 * q) (n := 40) (sp34 hq).2 (by omega) (by decide)) (wp_e e_40_2 (wp_r ⟨rfl, rfl⟩)))
  · intro y hy
    exact if_pos hy
end B50
theorem shs_C {s : St} {I I' : Nat → Nat → Int32} {q z n : Nat} {g : Nat → Int32} {v : Int32} (h : CS s I) (hv : v = nI z - 1) (hg : ∀ y, y < 40 → g y = 0) (hn : n ≤ 40) (hI : I' = am_u1 (am_u2 (am_u2 I (34 + 2 * q) 0 v) (34 + 2 * q) 1 (nI n)) (35 + 2 * q) g) : CS (shs s q z n) I' := by
  intro q' hq'
  show I' (34 + 2 * q') 0 = nI (updf (sso s) q z q') - 1 ∧ (0 < updf (sso s) q z q' → I' (34 + 2 * q') 1 = nI (updf (ssz s) q n q') ∧ ∀ i, i < updf (ssz s) q n q' → I' (35 + 2 * q') i = (if q' = q then (fun _ => 0) else sit s q') i)
  unfold updf
  by_cases e : q' = q
  · subst e
    rw [if_pos rfl, if_pos rfl, if_pos rfl, hI, u1_a (show 34 + 2 * q' ≠ 35 + 2 * q' by omega), u1_s]
    refine ⟨?_, fun _ => ⟨u2_s _ _ _ _, fun i hi => hg i (by omega)⟩⟩
    rw [u2_k, if_neg (by decide), u2_s]
    exact hv
  · rw [if_neg e, if_neg e, if_neg e, hI, u1_a (show 34 + 2 * q' ≠ 35 + 2 * q by omega), u2_a (show 34 + 2 * q' ≠ 34 + 2 * q by omega), u2_a (show 34 + 2 * q' ≠ 34 + 2 * q by omega), u1_a (show 35 + 2 * q' ≠ 35 + 2 * q by omega), u2_a (show 35 + 2 * q' ≠ 34 + 2 * q by omega), u2_a (show 35 + 2 * q' ≠ 34 + 2 * q by omega)]
    exact h q' hq'
/-- SHEET -/
theorem op_sheet {s : St} (hs : Sok s) {a b c : Int32} : OP s (fun M => (am_R (2047) 120 0 M [some (Value.ref 5), some (Value.int a), some (Value.int b), some (Value.int c)] [])) (fun M => (am_R (2047) 201 0 M [some (Value.ref 55), some (Value.int a), some (Value.int b), some (Value.int c), none] [])) := by
  have bad : ∀ {f g : am_M → Option am_V}, (∀ L ext tx tt fe I G, wp (f (am_mem L ext tx tt fe I G)) (fun v M => v = some (.int (-2)) ∧ M = am_mem L ext tx tt fe I G)) → (∀ L ext tx tt fe I G, wp (g (am_mem L ext tx tt fe I G)) (fun v M => v = some (.int (-2)) ∧ M = am_mem L ext tx tt fe I G)) → OP s f g := by
    intro f g h1 h2
    refine OP_q hs (.int (-2)) (fun L ext tx tt fe I G hb => wp_m (h1 L ext tx tt fe I G) ?_) (fun L ext tx tt fe I G hb => wp_m (h2 L ext tx tt fe I G) ?_)
    · rintro v M ⟨rfl, rfl⟩
      exact qc_of (fr_r _ _)
    · rintro v M ⟨rfl, rfl⟩
      exact qm_of (mf_r _ _ _)
  by_cases h : ¬ a < 0 ∧ a < (4 : Int32)
  · obtain ⟨q, hq, rfl⟩ := ix_lt (n := 4) (by decide) h
    have hqb := ib (n := q) (N := 4) hq (by decide)
    have hqc := nI_clamp (n := q) (by omega)
    have h200 : ¬ nI q < 0 ∧ ¬ 3 < nI q := ⟨nI_pos (by omega), nI_nlt (a := 3) (by omega) (by decide)⟩
    have h5 : Nat.ble 5 (34 + 2 * q) = true := Nat.ble_eq_true_of_le (by omega)
    by_cases hb1 : b = -1
    · subst hb1
      refine OP_g (s := s) (s' := shs s q 0 0) (.int 1) (Sok_shs hs (by decide) (by decide)) rfl rfl (fun L ext tx tt fe I G hb => ?_) (fun L ext tx tt fe I G hb => ?_)
      · obtain ⟨g, hg1, hg2⟩ := c_40 (d := 2045) (L := L) (ext := ext) (tx := tx) (tt := tt) (fe := fe) (I := I) (G := G) hq (v := -1) (w := 0)
        refine wp_e e_120_0 (wp_p s_125 (wp_e e_120_1 (wp_f (bI_y h) (wp_e e_120_2 (wp_t rfl (wp_e e_120_6 (wp_t rfl (wp_e e_120_7 (wp_c (by rw [hqb]; rfl) ?_)))))))))
        rw [hqc, (Fx16 hq).1]
        refine wp_e e_120_8 (wp_c (by rw [kd_of (sp34 hq).1, h5]; rfl) (wp_p hg1 (wp_e e_120_9 (wp_r ?_))))
        have ff : fr [34 + 2 * q, 35 + 2 * q] I (am_u1 (am_u2 (am_u2 I (34 + 2 * q) 0 (-1)) (34 + 2 * q) 1 0) (35 + 2 * q) g) := fr_t (fr_t (fr_2 (by simp)) (fr_2 (by simp))) (fr_1 (by simp))
        have fS : ∀ x, x ∈ [34 + 2 * q, 35 + 2 * q] → 34 ≤ x ∧ x ≤ 41 := fun x hx => by simp at hx; omega
        exact ⟨rfl, tt, _, rfl, CB_h hs hb ff fS (shs_C (v := -1) hb.2.2.2.2.1 (by decide) hg2 (by decide) rfl), _, ff, fun x hx => by have := fS x hx; omega⟩
      · refine wp_e e_201_0 (wp_p s_200 (wp_e e_201_1 (wp_f (bI_y h200) (wp_e e_201_2 (wp_p s_127 (wp_e e_201_3 (wp_f (by decide) (wp_e e_201_4 (wp_t (by decide) (wp_e e_201_7 (wp_t (by decide) (wp_e e_201_10 (wp_t (by decide) (wp_e e_201_12 (wp_e e_201_13 ?_)))))))))))))))
        rw [hqb, hqc]
        refine wp_c rfl ?_
        have ff : fr [73, 74, 75, 76] I (am_u2 (am_u2 (am_u2 I 73 q (0 &&& 1)) 74 q (-1)) 75 q c) := fr_t (fr_t (fr_2 (by decide)) (fr_2 (by decide))) (fr_2 (by decide))
        have fin : wp (am_R 2047 201 17 (am_mem L ext tx tt fe (am_u2 (am_u2 (am_u2 I 73 q (0 &&& 1)) 74 q (-1)) 75 q c) G) [some (Value.ref 55), some (Value.int (nI q)), some (Value.int (-1)), some (Value.int c), some (Value.int 0)] []) (fun v M => v = some (.int 1) ∧ ∃ I' G', M = am_mem L ext tx tt fe I' G' ∧ MJ (shs s q 0 0) I' ∧ ∃ S : List Nat, fr S I I' ∧ ∀ a, a ∈ S → 55 ≤ a ∧ a ≤ 76) := by
          refine wp_e e_201_17 (wp_r ⟨rfl, _, G, rfl, MJ_h hb ff (fun q' hq' => ?_), _, ff, by decide⟩)
          have hz := hb.2.2.1 q' hq'
          show am_u2 (am_u2 (am_u2 I 73 q (0 &&& 1)) 74 q (-1)) 75 q c 73 q' = (if 0 < updf (sso s) q 0 q' then 1 else 0) ∧ (0 < updf (sso s) q 0 q' → _)
          unfold updf
          by_cases e : q' = q
          · subst e
            rw [if_pos rfl, u2_a (by decide), u2_a (by decide), u2_s]
            exact ⟨rfl, fun z => absurd z (by decide)⟩
          · rw [if_neg e]
            refine ⟨?_, fun z => ?_⟩
            · rw [u2_a (by decide), u2_a (by decide), u2_k, if_neg e]
              exact hz.1
            · show am_u2 (am_u2 (am_u2 I 73 q (0 &&& 1)) 74 q (-1)) 75 q c 74 q' = nI (updf (sso s) q 0 q') - 1 ∧ am_u2 (am_u2 (am_u2 I 73 q (0 &&& 1)) 74 q (-1)) 75 q c 75 q' = nI (updf (ssz s) q 0 q') ∧ ∀ i, i < updf (ssz s) q 0 q' → am_u2 (am_u2 (am_u2 I 73 q (0 &&& 1)) 74 q (-1)) 75 q c 76 (40 * q' + i) = (if q' = q then (fun _ => 0) else sit s q') i
              unfold updf
              rw [if_neg e, if_neg e, if_neg e, u2_a (show (74 : Nat) ≠ 75 by decide), u2_k, if_neg e, u2_a (show (74 : Nat) ≠ 73 by decide), u2_k, if_neg e, u2_a (show (75 : Nat) ≠ 74 by decide), u2_a (show (75 : Nat) ≠ 73 by decide), u2_a (show (76 : Nat) ≠ 75 by decide), u2_a (show (76 : Nat) ≠ 74 by decide), u2_a (show (76 : Nat) ≠ 73 by decide)]
              exact hz.2 z
        exact wp_e e_201_14 (wp_i (fun _ => wp_e e_201_15 (wp_t (by decide) fin)) (fun _ => fin))
    · by_cases hb3 : ¬ b < 0 ∧ b < (3 : Int32)
      · obtain ⟨so, hso, rfl⟩ := ix_lt (n := 3) (by decide) hb3
        have h127 : ¬ (nI so).toInt64 < (-1 : Int64) ∧ ¬ (2 : Int64) < (nI so).toInt64 := by
          obtain rfl | rfl | rfl : so = 0 ∨ so = 1 ∨ so = 2 := by omega
          all_goals decide
        have c0 : ∀ {L ext tx tt fe I G} {Q : Option Value → am_M → Prop}, wp (am_R 2047 120 10 (am_mem L ext tx tt fe I G) [some (Value.ref 5), some (Value.int (nI q)), some (Value.int (nI so)), some (Value.int c)] []) Q → wp (am_R 2047 120 0 (am_mem L ext tx tt fe I G) [some (Value.ref 5), some (Value.int (nI q)), some (Value.int (nI so)), some (Value.int c)] []) Q := fun k => wp_e e_120_0 (wp_p s_125 (wp_e e_120_1 (wp_f (bI_y h) (wp_e e_120_2 (wp_f hb1 (wp_e e_120_3 (wp_p s_126 (wp_e e_120_4 (wp_f (bI_y hb3) (wp_e e_120_6 (wp_f hb1 k)))))))))))
        have m0 : ∀ {L ext tx tt fe I G} {Q : Option Value → am_M → Prop}, wp (am_R 2047 201 5 (am_mem L ext tx tt fe I G) [some (Value.ref 55), some (Value.int (nI q)), some (Value.int (nI so)), some (Value.int c), none] []) Q → wp (am_R 2047 201 0 (am_mem L ext tx tt fe I G) [some (Value.ref 55), some (Value.int (nI q)), some (Value.int (nI so)), some (Value.int c), none] []) Q := fun k => wp_e e_201_0 (wp_p s_200 (wp_e e_201_1 (wp_f (bI_y h200) (wp_e e_201_2 (wp_p s_127 (wp_e e_201_3 (wp_f (bI_y h127) (wp_e e_201_4 (wp_f hb3.1 k)))))))))
        by_cases hc40 : (40 : Int32) < c
        · exact bad (fun L ext tx tt fe I G => c0 (wp_e e_120_10 (wp_t hc40 (wp_e e_120_11 (wp_r ⟨rfl, rfl⟩))))) (fun L ext tx tt fe I G => m0 (wp_e e_201_5 (wp_t hc40 (wp_e e_201_6 (wp_r ⟨rfl, rfl⟩)))))
        · by_cases hcn : c < 0
          · exact OP_q hs (.int (-14)) (fun L ext tx tt fe I G hb => c0 (wp_e e_120_10 (wp_f hc40 (wp_e e_120_12 (wp_t hcn (wp_e e_120_13 (wp_r (qc_of (fr_r _ _))))))))) (fun L ext tx tt fe I G hb => m0 (wp_e e_201_5 (wp_f hc40 (wp_e e_201_7 (wp_f hb3.1 (wp_e e_201_8 (wp_t hcn (wp_e e_201_9 (wp_r (qm_of (mf_r _ _ _)))))))))))
          · obtain ⟨n, hn, rfl⟩ := ix_le (n := 40) (by decide) ⟨hcn, hc40⟩
            have hso1 : nI so = nI (so + 1) - 1 := by rw [nI_succ, Int32.add_sub_cancel]
            refine OP_g (s := s) (s' := shs s q (so + 1) n) (.int 1) (Sok_shs hs (by omega) hn) rfl rfl (fun L ext tx tt fe I G hb => c0 ?_) (fun L ext tx tt fe I G hb => m0 ?_)
            · obtain ⟨g, hg1, hg2⟩ := c_40 (d := 2045) (L := L) (ext := ext) (tx := tx) (tt := tt) (fe := fe) (I := I) (G := G) hq (v := nI so) (w := nI n)
              refine wp_e e_120_10 (wp_f hc40 (wp_e e_120_12 (wp_f hcn (wp_e e_120_14 (wp_c (by rw [hqb]; rfl) ?_)))))
              rw [hqc, (Fx16 hq).1]
              refine wp_e e_120_15 (wp_c (by rw [kd_of (sp34 hq).1, h5]; rfl) (wp_p hg1 (wp_e e_120_16 (wp_r ?_))))
              have ff : fr [34 + 2 * q, 35 + 2 * q] I (am_u1 (am_u2 (am_u2 I (34 + 2 * q) 0 (nI so)) (34 + 2 * q) 1 (nI n)) (35 + 2 * q) g) := fr_t (fr_t (fr_2 (by simp)) (fr_2 (by simp))) (fr_1 (by simp))
              have fS : ∀ x, x ∈ [34 + 2 * q, 35 + 2 * q] → 34 ≤ x ∧ x ≤ 41 := fun x hx => by simp at hx; omega
              exact ⟨rfl, tt, _, rfl, CB_h hs hb ff fS (shs_C (v := nI so) hb.2.2.2.2.1 hso1 hg2 hn rfl), _, ff, fun x hx => by have := fS x hx; omega⟩
            · refine wp_e e_201_5 (wp_f hc40 (wp_e e_201_7 (wp_f hb3.1 (wp_e e_201_8 (wp_f hcn (wp_e e_201_10 (wp_f hb3.1 (wp_e e_201_11 (wp_e e_201_13 ?_)))))))))
              rw [hqb, hqc]
              refine wp_c rfl ?_
              refine wp_loop n (fun k (J : Nat → Nat → Int32) => fr [73, 74, 75, 76] I J ∧ (∀ q', J 73 q' = (if q' = q then 1 else I 73 q') ∧ J 74 q' = (if q' = q then nI so else I 74 q') ∧ J 75 q' = (if q' = q then nI n else I 75 q')) ∧ ∀ x, J 76 x = if 40 * q ≤ x ∧ x < 40 * q + k then 0 else I 76 x) (fun k J => wp (am_R 2047 201 14 (am_mem L ext tx tt fe J G) [some (Value.ref 55), some (Value.int (nI q)), some (Value.int (nI so)), some (Value.int (nI n)), some (Value.int (nI k))] []) _) ?_ ?_ 0 _ (Nat.zero_le _) ⟨fr_t (fr_t (fr_2 (by decide)) (fr_2 (by decide))) (fr_2 (by decide)), fun q' => ⟨?_, ?_, ?_⟩, fun x => ?_⟩
              · rintro J ⟨ff, z1, z2⟩
                refine wp_e e_201_14 (wp_f (nI_nlt (Nat.le_refl _) (by omega)) (wp_e e_201_17 (wp_r ⟨rfl, J, G, rfl, MJ_h hb ff (fun q' hq' => ?_), _, ff, by decide⟩)))
                have hz := hb.2.2.1 q' hq'
                have hsz := (hs.2.2.1 q' hq').2
                obtain ⟨y1, y2, y3⟩ := z1 q'
                show J 73 q' = (if 0 < updf (sso s) q (so + 1) q' then 1 else 0) ∧ (0 < updf (sso s) q (so + 1) q' → J 74 q' = nI (updf (sso s) q (so + 1) q') - 1 ∧ J 75 q' = nI (updf (ssz s) q n q') ∧ ∀ i, i < updf (ssz s) q n q' → J 76 (40 * q' + i) = (if q' = q then (fun _ => 0) else sit s q') i)
                rw [y1, y2, y3]
                unfold updf
                by_cases e : q' = q
                · rw [if_pos e, if_pos e, if_pos e, if_pos e, if_pos e, if_pos e, if_pos (by omega)]
                  refine ⟨rfl, fun _ => ⟨hso1, rfl, fun i hi => ?_⟩⟩
                  rw [z2, e, if_pos (by omega)]
                · rw [if_neg e, if_neg e, if_neg e, if_neg e, if_neg e, if_neg e]
                  refine ⟨hz.1, fun z => ⟨(hz.2 z).1, (hz.2 z).2.1, fun i hi => ?_⟩⟩
                  rw [z2, if_neg (by omega)]
                  exact (hz.2 z).2.2 i hi
              · rintro k J hk ⟨ff, z1, z2⟩ hgo
                refine wp_e e_201_14 (wp_t (nI_lt hk (by omega)) (wp_e e_201_15 (wp_f hb3.1 (wp_e e_201_16 ?_))))
                rw [show (40 : Int32) * nI q + nI k = nI (40 * q + k) by rw [show (40 : Int32) = nI 40 from rfl, pk_mul, nI_add], ib (n := 40 * q + k) (N := 160) (by omega) (by decide), nI_clamp (n := 40 * q + k) (by omega), nI_1]
                refine wp_c rfl (hgo _ ⟨fr_t ff (fr_2 (by decide)), fun q' => ?_, fun x => ?_⟩)
                · rw [u2_a (by decide), u2_a (by decide), u2_a (by decide)]
                  exact z1 q'
                · rw [u2_k]
                  by_cases e : x = 40 * q + k
                  · rw [if_pos e, if_pos (by omega)]
                  · rw [if_neg e, z2]
                    by_cases e2 : 40 * q ≤ x ∧ x < 40 * q + k
                    · rw [if_pos e2, if_pos (by omega)]
                    · rw [if_neg e2, if_neg (by omega)]
              · rw [u2_a (by decide), u2_a (by decide), u2_k]
                rfl
              · rw [u2_a (by decide), u2_k, u2_a (by decide)]
              · rw [u2_k, u2_a (by decide), u2_a (by decide)]
              · rw [u2_a (by decide), u2_a (by decide), u2_a (by decide), if_neg (by omega)]
      · have h127 : ¬ (¬ b.toInt64 < (-1 : Int64) ∧ ¬ (2 : Int64) < b.toInt64) := by
          intro e
          have e := (m1_or (v := b) (n := 3) (by decide)).mp (by rw [show nI 3 - 1 = (2 : Int32) by decide]; exact e)
          exact e.elim hb1 hb3
        exact bad (fun L ext tx tt fe I G => wp_e e_120_0 (wp_p s_125 (wp_e e_120_1 (wp_f (bI_y h) (wp_e e_120_2 (wp_f hb1 (wp_e e_120_3 (wp_p s_126 (wp_e e_120_4 (wp_t (bI_f hb3) (wp_e e_120_5 (wp_r ⟨rfl, rfl⟩)))))))))))) (fun L ext tx tt fe I G => wp_e e_201_0 (wp_p s_200 (wp_e e_201_1 (wp_f (bI_y h200) (wp_e e_201_2 (wp_p s_127 (wp_e e_201_3 (wp_t (bI_f h127) (wp_e e_201_6 (wp_r ⟨rfl, rfl⟩))))))))))
  · refine bad (fun L ext tx tt fe I G => wp_e e_120_0 (wp_p s_125 (wp_e e_120_1 (wp_t (bI_f h) (wp_e e_120_5 (wp_r ⟨rfl, rfl⟩)))))) (fun L ext tx tt fe I G => wp_e e_201_0 (wp_p s_200 (wp_e e_201_1 (wp_t (bI_f (fun e => h ?_)) (wp_e e_201_6 (wp_r ⟨rfl, rfl⟩))))))
    obtain ⟨j, j1, rfl⟩ := ix_le (n := 3) (by decide) e
    exact ⟨nI_pos (by omega), nI_lt (b := 4) (by omega) (by decide)⟩
