/-! PURE, 44: CELL, all of it -/
theorem isZ {s : St} {q : Nat} : (if 0 < sso s q then (1 : Int32) else 0) = 0 ↔ sso s q = 0 := by
  by_cases e : sso s q = 0
  · rw [if_neg (by omega)]
    exact ⟨fun _ => e, fun _ => rfl⟩
  · rw [if_pos (by omega)]
    exact ⟨fun z => absurd z (by decide), fun z => absurd z e⟩
/-- CELL -/
theorem op_cell {s : St} (hs : Sok s) {a b c : Int32} : OP s (fun M => (am_R (2047) 121 0 M [some (Value.ref 5), some (Value.int a), some (Value.int b), some (Value.int c)] [])) (fun M => (am_R (2047) 202 0 M [some (Value.ref 55), some (Value.int a), some (Value.int b), some (Value.int c)] [])) := by
  by_cases h : ¬ a < 0 ∧ a < (4 : Int32)
  · obtain ⟨q, hq, rfl⟩ := ix_lt (n := 4) (by decide) h
    have hqb := ib (n := q) (N := 4) hq (by decide)
    have hqc := nI_clamp (n := q) (by omega)
    obtain ⟨h3, h40⟩ := hs.2.2.1 q hq
    have h200 : ¬ nI q < 0 ∧ ¬ 3 < nI q := ⟨nI_pos (by omega), nI_nlt (a := 3) (by omega) (by decide)⟩
    have hc0 : ∀ L ext tx tt fe I G (Q : Option Value → am_M → Prop), CB s L ext tx tt fe I → wp (am_R 2047 121 5 (am_mem L ext tx tt fe I G) [some (Value.ref 5), some (Value.int (nI q)), some (Value.int b), some (Value.int c)] [Value.int (bI (sso s q = 0))]) Q → wp (am_R 2047 121 0 (am_mem L ext tx tt fe I G) [some (Value.ref 5), some (Value.int (nI q)), some (Value.int b), some (Value.int c)] []) Q := by
      intro L ext tx tt fe I G Q hb k
      refine wp_e e_121_0 (wp_p s_125 (wp_e e_121_1 (wp_f (bI_y h) (wp_e e_121_3 (wp_c (by rw [hqb]; rfl) ?_)))))
      rw [hqc, (Fx16 hq).1]
      exact wp_e e_121_4 (wp_c (by rw [kd_of (sp34 hq).1, Nat.ble_eq_true_of_le (show 5 ≤ 34 + 2 * q by omega)]; rfl) (wp_p (c_41 hs hb.2.2.2.2.1 hq) k))
    have hm0 : ∀ L ext tx tt fe I G (Q : Option Value → am_M → Prop), MJ s I → (sso s q = 0 → wp (am_R 2047 202 4 (am_mem L ext tx tt fe I G) [some (Value.ref 55), some (Value.int (nI q)), some (Value.int b), some (Value.int c)] []) Q) → (¬ sso s q = 0 → wp (am_R 2047 202 5 (am_mem L ext tx tt fe I G) [some (Value.ref 55), some (Value.int (nI q)), some (Value.int b), some (Value.int c)] []) Q) → wp (am_R 2047 202 0 (am_mem L ext tx tt fe I G) [some (Value.ref 55), some (Value.int (nI q)), some (Value.int b), some (Value.int c)] []) Q := by
      intro L ext tx tt fe I G Q hb k1 k2
      refine wp_e e_202_0 (wp_p s_200 (wp_e e_202_1 (wp_f (bI_y h200) (wp_e e_202_3 (wp_c (by rw [hqb]; rfl) ?_)))))
      rw [hqc, (hb.2.2.1 q hq).1]
      exact wp_i (fun e => k1 (isZ.mp e)) (fun e => k2 (fun z => e (isZ.mpr z)))
    by_cases h0 : sso s q = 0
    · refine OP_q hs (.int (-11)) (fun L ext tx tt fe I G hb => hc0 L ext tx tt fe I G _ hb ?_) (fun L ext tx tt fe I G hb => hm0 L ext tx tt fe I G _ hb (fun _ => wp_e e_202_4 (wp_r (qm_of (mf_r _ _ _)))) (fun e => absurd h0 e))
      exact wp_e e_121_5 (wp_f (bI_y h0) (wp_e e_121_6 (wp_r (qc_of (fr_r _ _)))))
    · have hp : 0 < sso s q := by omega
      have hm5 : ∀ L ext tx tt fe I G (Q : Option Value → am_M → Prop), MJ s I → ((¬ b < 0 ∧ b < nI (ssz s q)) → wp (am_R 2047 202 8 (am_mem L ext tx tt fe I G) [some (Value.ref 55), some (Value.int (nI q)), some (Value.int b), some (Value.int c)] []) Q) → (¬ (¬ b < 0 ∧ b < nI (ssz s q)) → Q (some (.int (-12))) (am_mem L ext tx tt fe I G)) → wp (am_R 2047 202 0 (am_mem L ext tx tt fe I G) [some (Value.ref 55), some (Value.int (nI q)), some (Value.int b), some (Value.int c)] []) Q := by
        intro L ext tx tt fe I G Q hb k1 k2
        refine hm0 L ext tx tt fe I G Q hb (fun e => absurd e h0) (fun _ => wp_e e_202_5 (wp_c (by rw [hqb]; rfl) ?_))
        rw [hqc, ((hb.2.2.1 q hq).2 hp).2.1]
        exact wp_p s_127 (wp_e e_202_6 (wp_i (fun e => wp_e e_202_7 (wp_r (k2 (fun z => bI_0.mp e ((in_m (by omega)).mpr z))))) (fun e => k1 ((in_m (by omega)).mp (bI_n e)))))
      have hc5 : ∀ L ext tx tt fe I G (Q : Option Value → am_M → Prop), CB s L ext tx tt fe I → ((¬ b < 0 ∧ b < nI (ssz s q)) → wp (am_R 2047 121 11 (am_mem L ext tx tt fe I G) [some (Value.ref 5), some (Value.int (nI q)), some (Value.int b), some (Value.int c)] []) Q) → (¬ (¬ b < 0 ∧ b < nI (ssz s q)) → Q (some (.int (-12))) (am_mem L ext tx tt fe I G)) → wp (am_R 2047 121 0 (am_mem L ext tx tt fe I G) [some (Value.ref 5), some (Value.int (nI q)), some (Value.int b), some (Value.int c)] []) Q := by
        intro L ext tx tt fe I G Q hb k1 k2
        refine hc0 L ext tx tt fe I G Q hb (wp_e e_121_5 (wp_t (bI_f h0) (wp_e e_121_7 (wp_c (by rw [hqb]; rfl) ?_))))
        rw [hqc, (Fx16 hq).1]
        exact wp_e e_121_8 (wp_c (by rw [kd_of (sp34 hq).1, Nat.ble_eq_true_of_le (show 5 ≤ 34 + 2 * q by omega)]; rfl) (wp_p (c_42 hb.2.2.2.2.1 hq hp) (wp_e e_121_9 (wp_i (fun e => wp_e e_121_10 (wp_r (k2 (bI_0.mp e)))) (fun e => k1 (bI_n e))))))
      by_cases hj : ¬ b < 0 ∧ b < nI (ssz s q)
      · obtain ⟨j, j1, rfl⟩ := ix_lt (by omega) hj
        have hjc := nI_clamp (n := j) (by omega)
        have hx : ∀ i, sit (setI s q (fun i => if i = j then nrw (sso s q) c else sit s q i)) q i = if i = j then nrw (sso s q) c else sit s q i := fun i => by
          show (if q = q then (fun i => if i = j then nrw (sso s q) c else sit s q i) else s.2.2.1 q) i = _
          rw [if_pos rfl]
        have hy : ∀ q', q' ≠ q → sit (setI s q (fun i => if i = j then nrw (sso s q) c else sit s q i)) q' = sit s q' := fun q' e => if_neg e
        refine OP_g (s := s) (s' := setI s q (fun i => if i = j then nrw (sso s q) c else sit s q i)) (.int 1) ⟨hs.1, hs.2.1, hs.2.2.1, hs.2.2.2.1, hs.2.2.2.2⟩ rfl rfl (fun L ext tx tt fe I G hb => hc5 L ext tx tt fe I G _ hb (fun _ => ?_) (fun e => absurd hj e)) (fun L ext tx tt fe I G hb => hm5 L ext tx tt fe I G _ hb (fun _ => ?_) (fun e => absurd hj e))
        · refine wp_e e_121_11 (wp_c (by rw [hqb]; rfl) ?_)
          rw [hqc, (Fx16 hq).1]
          refine wp_e e_121_12 (wp_c (by rw [kd_of (sp34 hq).1, Nat.ble_eq_true_of_le (show 5 ≤ 34 + 2 * q by omega)]; rfl) (wp_p (c_44 hs hb.2.2.2.2.1 hq hp j1) (wp_e e_121_13 (wp_r ?_))))
          have ff : fr [35 + 2 * q] I (am_u2 I (35 + 2 * q) j (nrw (sso s q) c)) := fr_2 (by simp)
          refine ⟨rfl, tt, _, rfl, CB_i hs hb ff (fun x hx => by simp at hx; omega) (fun q' hq' => ?_), [35 + 2 * q], ff, fun x hx => by simp at hx; omega⟩
          obtain ⟨z1, z2⟩ := hb.2.2.2.2.1 q' hq'
          rw [u2_a (show 34 + 2 * q' ≠ 35 + 2 * q by omega)]
          refine ⟨z1, fun z => ⟨(z2 z).1, fun i hi => ?_⟩⟩
          have zi := (z2 z).2 i hi
          by_cases e : q' = q
          · subst e
            rw [u2_k, hx, zi]
          · rw [u2_a (show 35 + 2 * q' ≠ 35 + 2 * q by omega), hy q' e]
            exact zi
        · have h74 := ((hb.2.2.1 q hq).2 hp).1
          have fin : wp (am_R 2047 202 13 (am_mem L ext tx tt fe I G) [some (Value.ref 55), some (Value.int (nI q)), some (Value.int (nI j)), some (Value.int c)] [Value.int (nrw (sso s q) c), Value.int (40 * nI q + nI j), Value.ref 76]) (fun v M => v = some (.int 1) ∧ ∃ I' G', M = am_mem L ext tx tt fe I' G' ∧ MJ (setI s q (fun i => if i = j then nrw (sso s q) c else sit s q i)) I' ∧ ∃ S : List Nat, fr S I I' ∧ ∀ a, a ∈ S → 55 ≤ a ∧ a ≤ 76) := by
            refine wp_e e_202_13 ?_
            rw [show (40 : Int32) * nI q + nI j = nI (40 * q + j) by rw [show (40 : Int32) = nI 40 from rfl, pk_mul, nI_add], ib (n := 40 * q + j) (N := 160) (by omega) (by decide), nI_clamp (n := 40 * q + j) (by omega)]
            have ff : fr [76] I (am_u2 I 76 (40 * q + j) (nrw (sso s q) c)) := fr_2 (by decide)
            refine wp_c rfl (wp_r ⟨rfl, _, G, rfl, MJ_i hb ff (fun q' hq' => ?_), [76], ff, by decide⟩)
            obtain ⟨z1, z2⟩ := hb.2.2.1 q' hq'
            have hsz := (hs.2.2.1 q' hq').2
            rw [u2_a (by decide), u2_a (by decide), u2_a (by decide)]
            refine ⟨z1, fun z => ⟨(z2 z).1, (z2 z).2.1, fun i hi => ?_⟩⟩
            have hi : i < ssz s q' := hi
            have zi := (z2 z).2.2 i hi
            rw [u2_k]
            by_cases e : q' = q
            · subst e
              rw [hx]
              by_cases e2 : i = j
              · rw [if_pos e2, if_pos (by omega)]
              · rw [if_neg e2, if_neg (by omega)]
                exact zi
            · rw [hy q' e, if_neg (by omega)]
              exact zi
          refine wp_e e_202_8 (wp_c (by rw [hqb]; rfl) ?_)
          rw [hqc, h74]
          have hc3 : sso s q = 1 ∨ sso s q = 2 ∨ sso s q = 3 := by omega
          unfold nrw at fin
          rcases hc3 with e | e | e
          · rw [e] at fin ⊢
            exact wp_t (by decide) (wp_e e_202_9 fin)
          · rw [e] at fin ⊢
            refine wp_f (by decide) (wp_e e_202_10 (wp_c (by rw [hqb]; rfl) ?_))
            rw [hqc, h74, e]
            exact wp_t (by decide) (wp_e e_202_11 fin)
          · rw [e] at fin ⊢
            refine wp_f (by decide) (wp_e e_202_10 (wp_c (by rw [hqb]; rfl) ?_))
            rw [hqc, h74, e]
            exact wp_f (by decide) (wp_e e_202_12 fin)
      · exact OP_q hs (.int (-12)) (fun L ext tx tt fe I G hb => hc5 L ext tx tt fe I G _ hb (fun e => absurd e hj) (fun _ => qc_of (fr_r _ _))) (fun L ext tx tt fe I G hb => hm5 L ext tx tt fe I G _ hb (fun e => absurd e hj) (fun _ => qm_of (mf_r _ _ _)))
  · refine OP_q hs (.int (-2)) (fun L ext tx tt fe I G hb => ?_) (fun L ext tx tt fe I G hb => ?_)
    · exact wp_e e_121_0 (wp_p s_125 (wp_e e_121_1 (wp_t (bI_f h) (wp_e e_121_2 (wp_r (qc_of (fr_r _ _)))))))
    · refine wp_e e_202_0 (wp_p s_200 (wp_e e_202_1 (wp_t (bI_f (fun e => h ?_)) (wp_e e_202_2 (wp_r (qm_of (mf_r _ _ _)))))))
      obtain ⟨j, j1, rfl⟩ := ix_le (n := 3) (by decide) e
      exact ⟨nI_pos (by omega), nI_lt (b := 4) (by omega) (by decide)⟩
