/-! PURE, 31: NEXT -/
/-- uneven with one drib more in a cup -/
def nu1 (s : St) (c : Nat) : Int32 := un (itr (fmore (sS (stw s (sR s)).1 (nI (sD s + 1)) (nI (sC s))) (sS (stw s (sR s)).2.1 (nI (sD s + 1)) (nI (sC s))) (srow s) (sD s) c) (sD s + 1)).2.1 (sC s)
theorem nu1_row {s : St} {c : Nat} : itr (frow (sS (stw s (sR s)).1 (nI (sD s + 1)) (nI (sC s))) (sS (stw s (sR s)).2.1 (nI (sD s + 1)) (nI (sC s))) (rowl s (sD s) c)) (sD s + 1) = itr (fmore (sS (stw s (sR s)).1 (nI (sD s + 1)) (nI (sC s))) (sS (stw s (sR s)).2.1 (nI (sD s + 1)) (nI (sC s))) (srow s) (sD s) c) (sD s + 1) := itr_c _ (fun k t hk => by
  unfold frow fmore rowl
  by_cases e : k = sD s
  · rw [if_pos e, if_neg (by omega)]
  · rw [if_neg e, if_pos (by omega)])
def nst (s : St) : Nat → Int32 × Int32
  | 0 => (-1, 0)
  | k + 1 => if (nst s k).1 = -1 ∨ nu1 s k < (nst s k).2 then (nI k, nu1 s k) else nst s k
theorem nst_1 {s : St} : ∀ k, k < 100 → ¬ (nst s (k + 1)).1 = -1
  | 0, _ => by
    rw [show nst s (0 + 1) = (nI 0, nu1 s 0) from if_pos (Or.inl rfl)]
    show ¬ nI 0 = -1
    decide
  | k + 1, hk => by
    by_cases e : (nst s (k + 1)).1 = -1 ∨ nu1 s (k + 1) < (nst s (k + 1)).2
    · rw [show nst s (k + 1 + 1) = (nI (k + 1), nu1 s (k + 1)) from if_pos e]
      exact fun h => nI_pos (n := k + 1) (by omega) (by rw [show nI (k + 1) = -1 from h]; decide)
    · rw [show nst s (k + 1 + 1) = nst s (k + 1) from if_neg e]
      exact nst_1 k (by omega)
/-- NEXT -/
theorem op_next {s : St} (hs : Sok s) {a : Int32} : OP s (fun M => (am_R (2047) 90 0 M [some (Value.ref 5), some (Value.int a), none, none, none, none] [])) (fun M => (am_R (2047) 181 0 M [some (Value.ref 55), some (Value.int a), none, none, none, none, none] [])) := by
  have hs0 := hs.1
  obtain ⟨⟨C0, C4, D24⟩, hRT, hT6, P6, -⟩ := hs0
  by_cases h : ¬ a < 0 ∧ ¬ nI 1 < a
  · by_cases hD : sD s = 24
    · refine OP_q hs (.int (-3)) (fun L ext tx tt fe I G hb => ?_) (fun L ext tx tt fe I G hb => ?_)
      · refine wp_e e_90_0 (wp_f h.1 (wp_e e_90_1 (wp_f h.2 (wp_e e_90_3 (wp_f ?_ (wp_e e_90_4 (wp_r (qc_of (fr_r _ _)))))))))
        rw [hb.2.1.2.1, hD]
        decide
      · refine wp_e e_181_0 (wp_p s_127 (wp_e e_181_1 (wp_f (bI_y ((in_k (k := 1) (by decide)).mpr h)) (wp_e e_181_3 (wp_t ?_ (wp_e e_181_4 (wp_r (qm_of (mf_r _ _ _)))))))))
        rw [hb.1.2.1, hD]
        rfl
    · have hD2 : sD s < 24 := by omega
      refine OP_row hs (.int (if a = 0 then (nst s (sC s)).1 else (nst s (sC s)).2)) (srow s) hs.1.2.2.2.2.2.1 (fun L ext tx tt fe I G hb => ?_) (fun L ext tx tt fe I G hb => ?_)
      · refine wp_e e_90_0 (wp_f h.1 (wp_e e_90_1 (wp_f h.2 (wp_e e_90_3 (wp_t ?_ (wp_e e_90_5 (wp_b (s_91 (d := 2042) (c := 0) (EW_of hs hb) C0) ?_)))))))
        · rw [hb.2.1.2.1]
          exact nI_lt (b := 24) hD2 (by decide)
        rintro v M ⟨rfl, I1, rfl, f1⟩
        refine wp_e e_90_6 ?_
        refine wp_loop (sC s) (fun k (J : (Nat → Nat → Int32) × Nat) => fr FP I J.1 ∧ 1 ≤ k) (fun k J => wp (am_R 2047 90 7 (am_mem L ext tx J.2 fe J.1 G) [some (Value.ref 5), some (Value.int a), some (Value.int (nst s k).1), some (Value.int (nst s k).2), some (Value.int (nI k)), none] []) _) ?_ ?_ 1 (I1, _) (by omega) ⟨f1, Nat.le_refl 1⟩
        · rintro ⟨J, t⟩ ⟨f2, -⟩
          have b1 := CB_f (r := t) hs hb (fr_m f2 (by decide))
          refine wp_e e_90_7 ?_
          rw [b1.2.1.1]
          refine wp_f (nI_nlt (Nat.le_refl _) (by omega)) (wp_e e_90_12 ?_)
          have fin : ∀ r : Value, some r = some r ∧ ∃ tt' I', am_mem L ext tx t fe J G = am_mem L ext tx tt' fe I' G ∧ fr (6 :: FCQ) I I' ∧ ∀ k, k < 24 → I' 6 k = nI (srow s k) := fun r => ⟨rfl, t, J, rfl, fr_m f2 (by decide), b1.2.1.2.2.2.2.2.1⟩
          by_cases e : a = 0
          · rw [if_pos (c := a = 0) (t := (nst s (sC s)).1) e]
            exact wp_t e (wp_e e_90_13 (wp_e e_90_15 (wp_r (fin (Value.int (nst s (sC s)).1)))))
          · rw [if_neg (c := a = 0) (t := (nst s (sC s)).1) e]
            exact wp_f e (wp_e e_90_14 (wp_e e_90_15 (wp_r (fin (Value.int (nst s (sC s)).2)))))
        · rintro k ⟨J, t⟩ hk ⟨f2, k1⟩ hgo
          have b1 := CB_f (r := t) hs hb (fr_m f2 (by decide))
          refine wp_e e_90_7 ?_
          rw [b1.2.1.1]
          refine wp_t (nI_lt hk (by omega)) (wp_e e_90_8 (wp_b (s_91 (d := 2042) (c := k) (EW_of hs b1) hk) ?_))
          rintro v M ⟨rfl, I2, rfl, f3⟩
          refine wp_e e_90_9 ?_
          have go := hgo (I2, tx (sR s)) ⟨fr_t f2 f3, by omega⟩
          have hne : ¬ (nst s k).1 = -1 := by
            have := nst_1 (s := s) (k - 1) (by omega)
            rw [show k - 1 + 1 = k by omega] at this
            exact this
          refine wp_i (fun e => wp_e e_90_10 (wp_e e_90_11 ?_)) (fun e => wp_e e_90_11 ?_)
          · rw [show nst s (k + 1) = (nI k, nu1 s k) from if_pos (Or.inr e)] at go
            rw [nI_1]
            exact wp_l (lq_e (lq_e (lq_e (lq_e (lq_e (lq_n lq_0)))))) go
          · rw [show nst s (k + 1) = nst s k from if_neg (fun q => q.elim hne e)] at go
            rw [nI_1]
            exact wp_l (lq_e (lq_e (lq_e (lq_e (lq_e (lq_n lq_0)))))) go
      · obtain ⟨m1, m2, m3, m4, m5, m6⟩ := MW_of hs hb
        refine wp_e e_181_0 (wp_p s_127 (wp_e e_181_1 (wp_f (bI_y ((in_k (k := 1) (by decide)).mpr h)) (wp_e e_181_3 (wp_f ?_ (wp_e e_181_5 ?_))))))
        · rw [hb.1.2.1]
          exact fun e => hD ((nI_eq (by omega) (by decide)).mp e)
        rw [m2, nI_1]
        refine wp_loop (sC s) (fun k (J : (Nat → Nat → Int32) × (Nat → Nat → Int64)) => mf (59 :: SQ) (8 :: TQ) I J.1 ∧ J.1 55 8 = nI (sD s + 1) ∧ ∀ i, i < 24 → J.1 59 i = nI (srow s i)) (fun k J => wp (am_R 2047 181 6 (am_mem L ext tx tt fe J.1 J.2) [some (Value.ref 55), some (Value.int a), some (Value.int (nst s k).1), some (Value.int (nst s k).2), some (Value.int (nI k)), none, none] []) _) ?_ ?_ 0 (am_u2 I 55 8 (nI (sD s + 1)), G) (Nat.zero_le _) ⟨mf_5 (by decide), (show am_u2 I 55 8 (nI (sD s + 1)) 55 8 = nI (sD s + 1) by rw [u2_s]), fun i hi => ?_⟩
        · rintro ⟨J, G3⟩ ⟨f2, h8, h59⟩
          refine wp_e e_181_6 ?_
          rw [f2.2 7 (by decide), m1]
          refine wp_f (nI_nlt (Nat.le_refl _) (by omega)) (wp_e e_181_13 ?_)
          rw [h8, nI_pred]
          have fin : ∀ r : Value, some r = some r ∧ ∃ I' G', am_mem L ext tx tt fe (am_u2 J 55 8 (nI (sD s))) G3 = am_mem L ext tx tt fe I' G' ∧ mf (59 :: SQ) TQ I I' ∧ ∀ k, k < 24 → I' 59 k = nI (srow s k) := fun r => by
            refine ⟨rfl, _, _, rfl, ⟨fun x x1 x2 => ?_, fun x hx => ?_⟩, fun k hk => ?_⟩
            · rw [u2_a x1]
              exact f2.1 x x1 x2
            · rw [u2_k]
              by_cases e : x = 8
              · rw [if_pos e, e, m2]
              · rw [if_neg e]
                exact f2.2 x (fun q => (List.mem_cons.mp q).elim e hx)
            · rw [u2_a (by decide)]
              exact h59 k hk
          by_cases e : a = 0
          · rw [if_pos (c := a = 0) (t := (nst s (sC s)).1) e]
            exact wp_t e (wp_e e_181_14 (wp_e e_181_16 (wp_r (fin (Value.int (nst s (sC s)).1)))))
          · rw [if_neg (c := a = 0) (t := (nst s (sC s)).1) e]
            exact wp_f e (wp_e e_181_15 (wp_e e_181_16 (wp_r (fin (Value.int (nst s (sC s)).2)))))
        · rintro k ⟨J, G3⟩ hk ⟨f2, h8, h59⟩ hgo
          have hDb := ib (n := sD s) (N := 24) hD2 (by decide)
          have hDc := nI_clamp (n := sD s) (by omega)
          refine wp_e e_181_6 ?_
          rw [f2.2 7 (by decide), m1]
          refine wp_t (nI_lt hk (by omega)) (wp_e e_181_7 ?_)
          rw [h8, nI_pred]
          refine wp_c (by rw [hDb]; rfl) ?_
          rw [hDc, h59 (sD s) hD2]
          have f3 : mf (59 :: SQ) (8 :: TQ) J (am_u2 J 59 (sD s) (nI k)) := mf_2 (by decide) (by decide)
          have f23 := mf_t f2 f3
          have mw : MW (am_u2 J 59 (sD s) (nI k)) (sC s) (sD s + 1) (sR s) (stb s (sR s)) (stn s (sR s)) (stw s (sR s)).1 (stw s (sR s)).2.1 (stw s (sR s)).2.2 := by
            refine ⟨by rw [f23.2 7 (by decide)]; exact m1, by rw [u2_a (by decide)]; exact h8, by rw [f23.2 4 (by decide)]; exact m3, ⟨C0, C4, by omega, by omega⟩, ⟨m5.1, m5.2.1, by rw [f23.1 57 (by decide) (by decide)]; exact m5.2.2.1, fun i hi => by rw [f23.1 56 (by decide) (by decide)]; exact m5.2.2.2 i hi⟩, m6⟩
          refine wp_b (s_165 (d := 2042) (row := rowl s (sD s) k) mw (fun i hi => ?_) (by decide)) ?_
          · rw [u2_k]
            unfold rowl
            by_cases e : i = sD s
            · rw [if_pos e, if_pos e]
              exact ⟨rfl, by omega⟩
            · rw [if_neg e, if_neg e]
              exact ⟨h59 i (by omega), row4 hs (by omega)⟩
          rintro v M ⟨rfl, I4, G4, rfl, f4, p4⟩
          have h84 : I4 55 8 = nI (sD s + 1) := by rw [f4.2 8 (by decide), u2_a (by decide)]; exact h8
          refine wp_e e_181_8 ?_
          rw [h84, nI_pred]
          refine wp_c (by rw [hDb]; rfl) ?_
          rw [hDc]
          have h74 : I4 55 7 = nI (sC s) := by rw [f4.2 7 (by decide), f23.2 7 (by decide)]; exact m1
          refine wp_p (s_164 (by rw [u2_a (by decide)]; exact h74) C0 C4) (wp_e e_181_9 ?_)
          rw [u2_a (show (66 : Nat) ≠ 59 by decide), un_c C0 (fun j hj => p4.2.1 j (by omega)), nu1_row]
          have f5 : mf (59 :: SQ) (8 :: TQ) I (am_u2 I4 59 (sD s) (nI (srow s (sD s)))) := mf_t f23 (mf_t (mf_m f4 (by decide) (by decide)) (mf_2 (by decide) (by decide)))
          have go := hgo (am_u2 I4 59 (sD s) (nI (srow s (sD s))), G4) ⟨f5, by
            show am_u2 I4 59 (sD s) (nI (srow s (sD s))) 55 8 = _
            rw [u2_a (by decide)]
            exact h84, fun i hi => by
            show am_u2 I4 59 (sD s) (nI (srow s (sD s))) 59 i = _
            rw [u2_k]
            by_cases e : i = sD s
            · rw [if_pos e, e]
            · rw [if_neg e, f4.1 59 (by decide) (by decide), u2_k, if_neg e]
              exact h59 i hi⟩
          have nu : un (itr (fmore (sS (stw s (sR s)).1 (nI (sD s + 1)) (nI (sC s))) (sS (stw s (sR s)).2.1 (nI (sD s + 1)) (nI (sC s))) (srow s) (sD s) k) (sD s + 1)).2.1 (sC s) = nu1 s k := rfl
          rw [nu]
          refine wp_i (fun e => wp_e e_181_11 (wp_e e_181_12 ?_)) (fun e => wp_e e_181_10 (wp_i (fun e2 => wp_e e_181_11 (wp_e e_181_12 ?_)) (fun e2 => wp_e e_181_12 ?_)))
          · rw [show nst s (k + 1) = (nI k, nu1 s k) from if_pos (Or.inl e)] at go
            rw [nI_1]
            exact wp_l (lq_e (lq_e (lq_e (lq_e (lq_e (lq_n (lq_n lq_0))))))) go
          · rw [show nst s (k + 1) = (nI k, nu1 s k) from if_pos (Or.inr e2)] at go
            rw [nI_1]
            exact wp_l (lq_e (lq_e (lq_e (lq_e (lq_e (lq_n (lq_n lq_0))))))) go
          · rw [show nst s (k + 1) = nst s k from if_neg (fun q => q.elim e e2)] at go
            rw [nI_1]
            exact wp_l (lq_e (lq_e (lq_e (lq_e (lq_e (lq_n (lq_n lq_0))))))) go
        · show am_u2 I 55 8 (nI (sD s + 1)) 59 i = _
          rw [u2_a (by decide)]
          exact hb.1.2.2.2.2.2.2.1 i hi
  · refine OP_q hs (.int (-2)) (fun L ext tx tt fe I G hb => ?_) (fun L ext tx tt fe I G hb => ?_)
    · have fin : wp (am_R 2047 90 2 (am_mem L ext tx tt fe I G) [some (Value.ref 5), some (Value.int a), none, none, none, none] []) (qC L ext tx fe I G (.int (-2))) := wp_e e_90_2 (wp_r (qc_of (fr_r _ _)))
      exact wp_e e_90_0 (wp_i (fun _ => fin) (fun h1 => wp_e e_90_1 (wp_i (fun _ => fin) (fun h2 => absurd ⟨h1, h2⟩ h))))
    · exact wp_e e_181_0 (wp_p s_127 (wp_e e_181_1 (wp_t (bI_f (fun e => h ((in_k (k := 1) (by decide)).mp e))) (wp_e e_181_2 (wp_r (qm_of (mf_r _ _ _)))))))
