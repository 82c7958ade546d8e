/-! PURE, 60: EVENEST, BECOME, FEWEST -/
theorem FCS_in {a : Nat} (h : a ∈ FCS) : 12 ≤ a ∧ a ≤ 54 := by
  unfold FCS at h
  simp at h
  omega
def qS (s : St) (L : Nat) (ext : List (Nat × Nat)) (tx : Nat → Nat) (fe : Nat → Nat → Option Nat) (I : Nat → Nat → Int32) (G : Nat → Nat → Int64) (r : Value) (v : Option Value) (M : am_M) : Prop := v = some r ∧ ∃ tt' I', M = am_mem L ext tx tt' fe I' G ∧ fr FCS I I' ∧ CA s I'
theorem OP_s {s : St} {f g : am_M → Option am_V} (hs : Sok s) (r : Value) (hc : ∀ L ext tx tt fe I G, CB s L ext tx tt fe I → CA s I → wp (f (am_mem L ext tx tt fe I G)) (qS s L ext tx fe I G r)) (hm : ∀ L ext tx tt fe I G, MJ s I → wp (g (am_mem L ext tx tt fe I G)) (qM L ext tx tt fe I r)) : OP s f g := by
  refine ⟨s, r, hs, fun L ext tx tt fe I G h => wp_m (hc L ext tx tt fe I G h.1 h.2) ?_, fun L ext tx tt fe I G h => wp_m (hm L ext tx tt fe I G h) ?_⟩
  · rintro v M ⟨rfl, tt', I', rfl, hf, ha⟩
    refine ⟨rfl, [], tx, tt', fe, I', G, by rw [List.append_nil], Nat.zero_le _, fun q hq => absurd hq (by simp), ?_, fun a ha => hf a (fun e => by have := FCS_in e; omega)⟩
    rw [List.append_nil]
    exact ⟨CB_f hs h.1 hf, ha⟩
  · rintro v M ⟨rfl, I', G', rfl, hf⟩
    exact ⟨rfl, I', G', rfl, MJ_f h hf, fun a ha => hf.1 a (by omega) (fun e => by have := SQ_in e; omega)⟩
abbrev evS (s : St) : EA := evA (ss1 s) (ss2 s) (sC s) (sD s)
section B60
variable {d L : Nat} {ext : List (Nat × Nat)} {tx : Nat → Nat} {tt : Nat} {fe : Nat → Nat → Option Nat} {I : Nat → Nat → Int32} {G : Nat → Nat → Int64}
theorem m_ev {s : St} (hs : Sok s) (h : MJ s I) : wp (am_R (2046) 177 0 (am_mem L ext tx tt fe I G) [some (Value.ref 55), some (Value.int 0), some (Value.int 0)] []) (fun v' M => v' = none ∧ ∃ I' G', M = am_mem L ext tx tt fe I' G' ∧ mf SQ TQ I I' ∧ I' 55 38 = (evS s).1 ∧ I' 55 39 = (evS s).2.1 ∧ ∀ j, j < sD s → I' 68 j = nI ((evS s).2.2.1 j) ∧ (evS s).2.2.1 j < sC s) := by
  obtain ⟨h0, hC, hD⟩ := hs.1.1
  refine wp_m (m_177 (q := 0) (it := fun _ => 0) hs h (Or.inl rfl)) ?_
  rintro v M ⟨rfl, I', G', rfl, f1, b0, hb, m1, m2, m3, m4⟩
  refine ⟨rfl, I', G', rfl, f1, ?_⟩
  have e := ev_rel (s := ss1 s) (d := ss2 s) (C := sC s) (D := sD s) (it := fun _ => 0) (w0 := fun _ => 0) (b0 := b0) rg_s rg_s h0 hC hD (hb.trans (if_neg (by decide)))
  rcases e with ⟨-, e2⟩ | ⟨-, -, e3, e4, e5⟩
  · exact absurd e2 (ev_found rg_s rg_s h0 hC hD)
  · refine ⟨m2.trans e3, m3.trans e4, fun j hj => ⟨(m4 j hj).trans (e5 j hj).1, (e5 j hj).2⟩⟩
theorem c_31 {g : Nat → Int32} {v : Int32} (h54 : ∀ k, k < 25 → I 54 k = g k) : ∀ f k, k + f = 25 → wp (am_R (d) 31 1 (am_mem L ext tx tt fe I G) [some (Value.ref 48), some (Value.int v), some (Value.int (nI k))] []) (fun v' M => v' = some (.int (fwl g v f k)) ∧ M = (am_mem L ext tx tt fe I G)) := by
  intro f
  induction f with
  | zero =>
    intro k hk
    refine wp_e e_31_1 (wp_t (nI_lt (a := 24) (by omega) (by omega)) (wp_e e_31_5 (wp_r ⟨rfl, rfl⟩)))
  | succ f ih =>
    intro k hk
    refine wp_e e_31_1 (wp_f (nI_nlt (b := k) (a := 24) (by omega) (by omega)) (wp_e e_31_2 (wp_c (by rw [ib (n := k) (N := 25) (by omega) (by decide)]; rfl) ?_)))
    rw [nI_clamp (n := k) (by omega), h54 k (by omega)]
    refine wp_i (fun e => wp_e e_31_4 ?_) (fun e => wp_e e_31_3 (wp_r ⟨?_, rfl⟩))
    · rw [nI_1, show fwl g v (f + 1) k = fwl g v f (k + 1) from if_pos e]
      exact ih (k + 1) (by omega)
    · rw [show fwl g v (f + 1) k = nI k from if_neg e]
theorem qs_of {s : St} {r : Value} (ha : CA s I) : qS s L ext tx fe I G r (some r) (am_mem L ext tx tt fe I G) := ⟨rfl, tt, I, rfl, fr_r _ _, ha⟩
end B60
/-- EVENEST -/
theorem op_evenest {s : St} (hs : Sok s) {a : Int32} : OP s (fun M => (am_R (2047) 87 0 M [some (Value.ref 5), some (Value.int a)] [])) (fun M => (am_R (2047) 178 0 M [some (Value.ref 55), some (Value.int a)] [])) := by
  have hs0 := hs.1
  obtain ⟨⟨C0, C4, D24⟩, -⟩ := hs0
  by_cases h : ¬ a < 0 ∧ a < nI (2 + sD s)
  · obtain ⟨n, hn, rfl⟩ := ix_lt (by omega) h
    have hc0 : ∀ {L ext tx tt fe I G} {Q : Option Value → am_M → Prop}, CB s L ext tx tt fe I → wp (am_R 2047 87 4 (am_mem L ext tx tt fe I G) [some (Value.ref 5), some (Value.int (nI n))] [Value.int (bI (sC s ^ sD s ≤ 65536))]) Q → wp (am_R 2047 87 0 (am_mem L ext tx tt fe I G) [some (Value.ref 5), some (Value.int (nI n))] []) Q := by
      intro L ext tx tt fe I G Q hb k
      refine wp_e e_87_0 (wp_f h.1 (wp_e e_87_1 ?_))
      rw [hb.2.1.2.1, n2, nI_add]
      exact wp_t h.2 (wp_e e_87_3 (wp_p (c_97 hs hb) k))
    have hm0 : ∀ {L ext tx tt fe I G} {Q : Option Value → am_M → Prop}, MJ s I → wp (am_R 2047 178 6 (am_mem L ext tx tt fe I G) [some (Value.ref 55), some (Value.int (nI n))] [Value.int (bI (65536 < sC s ^ sD s))]) Q → wp (am_R 2047 178 0 (am_mem L ext tx tt fe I G) [some (Value.ref 55), some (Value.int (nI n))] []) Q := by
      intro L ext tx tt fe I G Q hb k
      have k5 : wp (am_R 2047 178 5 (am_mem L ext tx tt fe I G) [some (Value.ref 55), some (Value.int (nI n))] []) Q := wp_e e_178_5 (wp_p (m_172 C0 C4 D24 hb.1.1 hb.1.2.1) k)
      refine wp_e e_178_0 (wp_p s_127 (wp_e e_178_1 (wp_f (bI_y ((in_k (k := 25) (by decide)).mpr ⟨h.1, nI_nlt (by omega) (by omega)⟩)) (wp_e e_178_2 (wp_i (fun e => wp_e e_178_3 ?_) (fun _ => k5))))))
      have e : nI 1 < nI n := e
      rw [nI_ltI (by omega) (by omega)] at e
      rw [hb.1.2.1, n2, pk_sub (by omega)]
      exact wp_t (nI_lt (by omega) (by omega)) k5
    by_cases hp : sC s ^ sD s ≤ 65536
    · refine OP_s hs (.int (if n = 0 then (evS s).1 else if n = 1 then (evS s).2.1 else nI ((evS s).2.2.1 (n - 2)))) (fun L ext tx tt fe I G hb ha => hc0 hb (wp_e e_87_4 (wp_f (bI_y hp) (wp_e e_87_6 (wp_b (c_98 hs hp hb ha) ?_))))) (fun L ext tx tt fe I G hb => hm0 hb (wp_e e_178_6 (wp_t (bI_f (by omega)) (wp_e e_178_8 (wp_b (m_ev hs hb) ?_)))))
      · rintro v M ⟨rfl, tt', I', rfl, f1, r1, e1, e2, e3, -⟩
        refine wp_e e_87_7 ?_
        have fin : ∀ x, qS s L ext tx fe I G x (some x) (am_mem L ext tx tt' fe I' G) := fun x => ⟨rfl, tt', I', rfl, f1, CA_RY hs hp r1⟩
        by_cases n0' : n = 0
        · subst n0'
          rw [if_pos (show nI 0 = 0 from rfl), if_pos (c := (0 : Nat) = 0) rfl]
          refine wp_e e_87_8 (wp_r ?_)
          rw [e1]
          exact fin _
        · by_cases n1' : n = 1
          · subst n1'
            rw [if_neg (show ¬ nI 1 = 0 by decide), if_neg (c := (1 : Nat) = 0) (by decide), if_pos (c := (1 : Nat) = 1) rfl]
            refine wp_t rfl (wp_e e_87_9 (wp_r ?_))
            rw [e2]
            exact fin _
          · rw [if_neg (show ¬ nI n = 0 from nI_ne0 (by omega) (by omega)), if_neg n0', if_neg n1']
            refine wp_f (fun e => n1' ((nI_eq (b := 1) (by omega) (by omega)).mp e)) (wp_e e_87_10 ?_)
            rw [n2, pk_sub (by omega), ib (n := n - 2) (N := 24) (by omega) (by decide), nI_clamp (n := n - 2) (by omega), e3 (n - 2) (by omega)]
            exact wp_c rfl (wp_r (fin _))
      · rintro v M ⟨rfl, I', G', rfl, f1, e1, e2, e3⟩
        have fin : ∀ x, qM L ext tx tt fe I x (some x) (am_mem L ext tx tt fe I' G') := fun x => ⟨rfl, I', G', rfl, f1⟩
        refine wp_e e_178_9 ?_
        by_cases n0' : n = 0
        · subst n0'
          rw [if_pos (c := (0 : Nat) = 0) rfl]
          refine wp_t rfl (wp_e e_178_10 (wp_e e_178_14 (wp_r ?_)))
          rw [e1]
          exact fin _
        · refine wp_f (nI_ne0 (by omega) (by omega)) (wp_e e_178_11 ?_)
          by_cases n1' : n = 1
          · subst n1'
            rw [if_neg (c := (1 : Nat) = 0) (by decide), if_pos (c := (1 : Nat) = 1) rfl]
            refine wp_t rfl (wp_e e_178_12 (wp_e e_178_14 (wp_r ?_)))
            rw [e2]
            exact fin _
          · rw [if_neg n0', if_neg n1']
            refine wp_f (fun e => n1' ((nI_eq (b := 1) (by omega) (by omega)).mp e)) (wp_e e_178_13 ?_)
            rw [n2, pk_sub (by omega), ib (n := n - 2) (N := 24) (by omega) (by decide), nI_clamp (n := n - 2) (by omega), (e3 (n - 2) (by omega)).1]
            exact wp_c rfl (wp_e e_178_14 (wp_r (fin _)))
    · exact OP_s hs (.int (-3)) (fun L ext tx tt fe I G hb ha => hc0 hb (wp_e e_87_4 (wp_t (bI_f hp) (wp_e e_87_5 (wp_r (qs_of ha)))))) (fun L ext tx tt fe I G hb => hm0 hb (wp_e e_178_6 (wp_f (bI_y (by omega)) (wp_e e_178_7 (wp_r (qm_of (mf_r _ _ _)))))))
  · refine OP_s hs (.int (-2)) (fun L ext tx tt fe I G hb ha => ?_) (fun L ext tx tt fe I G hb => ?_)
    · have fin : wp (am_R 2047 87 2 (am_mem L ext tx tt fe I G) [some (Value.ref 5), some (Value.int a)] []) (qS s L ext tx fe I G (.int (-2))) := wp_e e_87_2 (wp_r (qs_of ha))
      refine wp_e e_87_0 (wp_i (fun _ => fin) (fun h1 => wp_e e_87_1 ?_))
      rw [hb.2.1.2.1, n2, nI_add]
      exact wp_f (fun h2 => h ⟨h1, h2⟩) fin
    · have fin : wp (am_R 2047 178 4 (am_mem L ext tx tt fe I G) [some (Value.ref 55), some (Value.int a)] []) (qM L ext tx tt fe I (.int (-2))) := wp_e e_178_4 (wp_r (qm_of (mf_r _ _ _)))
      refine wp_e e_178_0 (wp_p s_127 (wp_e e_178_1 (wp_i (fun _ => fin) (fun h1 => wp_e e_178_2 ?_))))
      obtain ⟨n, hn, rfl⟩ := ix_le (n := 25) (by decide) ((in_k (k := 25) (by decide)).mp (bI_n h1))
      have hn2 : ¬ n < 2 + sD s := fun e => h ⟨nI_pos (by omega), nI_lt e (by omega)⟩
      refine wp_t (nI_lt (a := 1) (by omega) (by omega)) (wp_e e_178_3 ?_)
      rw [hb.1.2.1, n2, pk_sub (by omega)]
      exact wp_f (nI_nlt (by omega) (by omega)) fin
/-- BECOME -/
theorem op_become {s : St} (hs : Sok s) : OP s (fun M => (am_R (2047) 88 0 M [some (Value.ref 5)] [])) (fun M => (am_R (2047) 179 0 M [some (Value.ref 55), none] [])) := by
  have hs0 := hs.1
  obtain ⟨⟨C0, C4, D24⟩, -⟩ := hs0
  by_cases hp : sC s ^ sD s ≤ 65536
  · have hlt : ∀ j, j < sD s → (evS s).2.2.1 j < sC s := by
      have e := ev_rel (s := ss1 s) (d := ss2 s) (C := sC s) (D := sD s) (it := fun _ => 0) (w0 := fun _ => 0) (b0 := (-1, 0, 0, fun _ => 0)) rg_s rg_s C0 C4 D24 rfl
      rcases e with ⟨-, e2⟩ | ⟨-, -, -, -, e5⟩
      · exact absurd e2 (ev_found rg_s rg_s C0 C4 D24)
      · exact fun j hj => (e5 j hj).2
    have hr := rowd_lt hs hlt
    refine ⟨setR s 1 (rowd s (evS s).2.2.1 (sD s)), .int (evS s).1, Sok_row hs hr, fun L ext tx tt fe I G h => ?_, fun L ext tx tt fe I G hb => ?_⟩
    · obtain ⟨hb, ha⟩ := h
      refine wp_e e_88_0 (wp_p (c_97 hs hb) (wp_e e_88_1 (wp_f (bI_y hp) (wp_e e_88_3 (wp_b (c_98 hs hp hb ha) ?_)))))
      rintro v M ⟨rfl, tt', I', rfl, f1, r1, e1, e2, e3, -⟩
      refine wp_e e_88_4 ?_
      rw [f1 5 (by decide), hb.2.1.2.1, nI_clamp (n := sD s) (by omega), show (0 : Int32).toNatClampNeg = 0 from rfl, decide_eq_true (show ¬ (0 : Int32) < 0 ∧ ¬ (0 : Int32) < 0 ∧ ¬ nI (sD s) < 0 ∧ 0 + sD s ≤ 24 ∧ 0 + sD s ≤ 24 from ⟨by decide, by decide, nI_pos (by omega), by omega, by omega⟩)]
      have ff : fr (6 :: FCS) I (am_u1 I' 6 (va_cpy (I' 53) (I' 6) 0 0 (sD s))) := fr_t (fr_m f1 (by decide)) (fr_1 (by decide))
      refine wp_c rfl (wp_r ⟨?_, [], tx, tt', fe, _, G, by rw [List.append_nil], Nat.zero_le _, fun q hq => absurd hq (by simp), ?_, fun a ha => ff a (fun e => ?_)⟩)
      · rw [u1_a (by decide), e1]
      · rw [List.append_nil]
        refine ⟨CB_row hs hb ff (fun k hk => ?_), CA_s (s := s) rfl rfl (CA_f (CA_RY hs hp r1) (u1_a (by decide)) (u1_a (by decide)) (u1_a (by decide)) (u1_a (by decide)))⟩
        rw [u1_s]
        unfold rowd
        by_cases e : k < sD s
        · rw [pk_cpy_in (Nat.zero_le _) (by omega), if_pos e, show 0 + (k - 0) = k by omega, e3 k e]
        · rw [pk_cpy_out (Or.inr (by omega)), if_neg e, f1 6 (by decide)]
          exact hb.2.1.2.2.2.2.2.1 k hk
      · rcases List.mem_cons.mp e with e | e
        · omega
        · have := FCS_in e
          omega
    · refine wp_e e_179_0 (wp_p (m_172 C0 C4 D24 hb.1.1 hb.1.2.1) (wp_e e_179_1 (wp_t (bI_f (by omega)) (wp_e e_179_3 (wp_b (m_ev hs hb) ?_)))))
      rintro v M ⟨rfl, I1, G1, rfl, f1, e1, e2, e3⟩
      refine wp_e e_179_4 ?_
      refine wp_loop (sD s) (fun k (J : Nat → Nat → Int32) => fr [59] I1 J ∧ ∀ i, i < 24 → J 59 i = nI (rowd s (evS s).2.2.1 k i)) (fun k J => wp (am_R 2047 179 5 (am_mem L ext tx tt fe J G1) [some (Value.ref 55), some (Value.int (nI k))] []) _) ?_ ?_ 0 I1 (Nat.zero_le _) ⟨fr_r _ _, fun i hi => ?_⟩
      · rintro J ⟨f2, q2⟩
        refine wp_e e_179_5 ?_
        have fJ : mf (59 :: SQ) TQ I J := ⟨fun x x1 x2 => by
          rw [f2 x (fun e => x2 (by simp at e; rw [e]; decide))]
          exact f1.1 x x1 (fun e => x2 (List.mem_cons_of_mem _ e)), fun x hx => by
          rw [f2 55 (by decide)]
          exact f1.2 x hx⟩
        rw [fJ.2 8 (by decide), hb.1.2.1]
        refine wp_f (nI_nlt (Nat.le_refl _) (by omega)) (wp_e e_179_7 (wp_r ⟨?_, J, G1, rfl, MJ_row hb fJ q2, fun a ha => fJ.1 a (by omega) (fun e => ?_)⟩))
        · rw [f2 55 (by decide), e1]
        · rcases List.mem_cons.mp e with e | e
          · omega
          · have := SQ_in e
            omega
      · rintro k J hk ⟨f2, q2⟩ hgo
        have hkb := ib (n := k) (N := 24) (by omega) (by decide)
        refine wp_e e_179_5 ?_
        rw [f2 55 (by decide), f1.2 8 (by decide), hb.1.2.1]
        refine wp_t (nI_lt hk (by omega)) (wp_e e_179_6 (wp_c (by rw [hkb]; rfl) ?_))
        rw [nI_1, nI_clamp (n := k) (by omega), f2 68 (by decide), (e3 k hk).1]
        refine hgo _ ⟨fr_t f2 (fr_2 (by decide)), fun i hi => ?_⟩
        rw [u2_k, q2 i hi]
        unfold rowd
        by_cases e : i = k
        · rw [if_pos e, e, if_pos (by omega)]
        · rw [if_neg e]
          by_cases e2 : i < k
          · rw [if_pos e2, if_pos (by omega)]
          · rw [if_neg e2, if_neg (by omega)]
      · rw [f1.1 59 (by decide) (by decide), hb.1.2.2.2.2.2.2.1 i hi]
        rfl
  · exact OP_s hs (.int (-3)) (fun L ext tx tt fe I G hb ha => wp_e e_88_0 (wp_p (c_97 hs hb) (wp_e e_88_1 (wp_t (bI_f hp) (wp_e e_88_2 (wp_r (qs_of ha))))))) (fun L ext tx tt fe I G hb => wp_e e_179_0 (wp_p (m_172 C0 C4 D24 hb.1.1 hb.1.2.1) (wp_e e_179_1 (wp_f (bI_y (by omega)) (wp_e e_179_2 (wp_r (qm_of (mf_r _ _ _))))))))
/-- FEWEST -/
theorem op_fewest {s : St} (hs : Sok s) {a : Int32} : OP s (fun M => (am_R (2047) 89 0 M [some (Value.ref 5), some (Value.int a)] [])) (fun M => (am_R (2047) 180 0 M [some (Value.ref 55), some (Value.int a)] [])) := by
  have hs0 := hs.1
  obtain ⟨⟨C0, C4, D24⟩, -⟩ := hs0
  by_cases h : ¬ a < 0 ∧ ¬ nI 99999 < a
  · by_cases hp : sC s ^ sD s ≤ 65536
    · refine OP_s hs (.int (fwl (evS s).2.2.2 a 25 0)) (fun L ext tx tt fe I G hb ha => wp_e e_89_0 (wp_f h.1 (wp_e e_89_1 (wp_f h.2 (wp_e e_89_3 (wp_p (c_97 hs hb) (wp_e e_89_4 (wp_f (bI_y hp) (wp_e e_89_6 (wp_b (c_98 hs hp hb ha) ?_)))))))))) (fun L ext tx tt fe I G hb => wp_e e_180_0 (wp_p s_127 (wp_e e_180_1 (wp_f (bI_y ((in_k (k := 99999) (by decide)).mpr h)) (wp_e e_180_3 (wp_p (m_172 C0 C4 D24 hb.1.1 hb.1.2.1) (wp_e e_180_4 (wp_t (bI_f (by omega)) (wp_e e_180_6 (wp_b (m_177 (q := 0) (it := fun _ => 0) hs hb (Or.inr (Or.inl rfl))) ?_))))))))))
      · rintro v M ⟨rfl, tt', I', rfl, f1, r1, e1, e2, e3, e4⟩
        exact wp_e e_89_7 (wp_p (wp_eq (wp_e e_31_0 (c_31 e4 25 0 rfl))) (wp_e e_89_8 (wp_r ⟨rfl, tt', I', rfl, f1, CA_RY hs hp r1⟩)))
      · rintro v M ⟨rfl, I', G', rfl, f1, b0, hb0, m1, -⟩
        have ha : a < 2147483647 := by
          obtain ⟨j, j1, rfl⟩ := ix_le (by decide) h
          rw [mx_e]
          exact nI_lt (by omega) (by decide)
        have e := fw_rel (s := ss1 s) (d := ss2 s) (C := sC s) (D := sD s) (v := a) (it := fun _ => 0) (b0 := b0) rg_s rg_s C0 C4 D24 ha (hb0.trans (if_neg (by decide)))
        refine wp_e e_180_7 (wp_r ?_)
        rw [m1, fwl_u e 25 0 rfl (fun j hj => absurd hj (Nat.not_lt_zero j))]
        exact ⟨rfl, I', G', rfl, f1⟩
    · exact OP_s hs (.int (-3)) (fun L ext tx tt fe I G hb ha => wp_e e_89_0 (wp_f h.1 (wp_e e_89_1 (wp_f h.2 (wp_e e_89_3 (wp_p (c_97 hs hb) (wp_e e_89_4 (wp_t (bI_f hp) (wp_e e_89_5 (wp_r (qs_of ha))))))))))) (fun L ext tx tt fe I G hb => wp_e e_180_0 (wp_p s_127 (wp_e e_180_1 (wp_f (bI_y ((in_k (k := 99999) (by decide)).mpr h)) (wp_e e_180_3 (wp_p (m_172 C0 C4 D24 hb.1.1 hb.1.2.1) (wp_e e_180_4 (wp_f (bI_y (by omega)) (wp_e e_180_5 (wp_r (qm_of (mf_r _ _ _))))))))))))
  · refine OP_s hs (.int (-2)) (fun L ext tx tt fe I G hb ha => ?_) (fun L ext tx tt fe I G hb => wp_e e_180_0 (wp_p s_127 (wp_e e_180_1 (wp_t (bI_f (fun e => h ((in_k (k := 99999) (by decide)).mp e))) (wp_e e_180_2 (wp_r (qm_of (mf_r _ _ _))))))))
    have fin : wp (am_R 2047 89 2 (am_mem L ext tx tt fe I G) [some (Value.ref 5), some (Value.int a)] []) (qS s L ext tx fe I G (.int (-2))) := wp_e e_89_2 (wp_r (qs_of ha))
    exact wp_e e_89_0 (wp_i (fun _ => fin) (fun h1 => wp_e e_89_1 (wp_i (fun _ => fin) (fun h2 => absurd ⟨h1, h2⟩ h))))
