/-! PURE, 22: a text read by the class -/
section B22
variable {d L : Nat} {ext : List (Nat × Nat)} {tx : Nat → Nat} {tt : Nat} {fe : Nat → Nat → Option Nat} {I : Nat → Nat → Int32} {G : Nat → Nat → Int64}
theorem app3 {e : List (Nat × Nat)} {a b c : Nat × Nat} : e ++ [a] ++ [b] ++ [c] = e ++ [a, b, c] := by simp
theorem app4 {e : List (Nat × Nat)} {a b c f : Nat × Nat} : e ++ [a] ++ [b] ++ [c] ++ [f] = e ++ [a, b, c, f] := by simp
theorem am_kd_of {Sh : List (Nat × Nat)} {F : Nat → Nat → Option Nat} {a c n : Nat} (h : Sh[a]? = some (c, n)) : am_kd (Sh, I, F, G) a c = true := by
  unfold am_kd
  show (match Sh[a]? with | some q => Nat.beq q.1 c | none => false) = true
  rw [h]
  exact Nat.beq_refl c
/-- the references of a new text -/
noncomputable def tfe (fe : Nat → Nat → Option Nat) (Q a b c : Nat) : Nat → Nat → Option Nat := am_u2 (am_u2 (am_u2 (am_u1 fe Q (fun _ => none)) Q 0 (some a)) Q 1 (some b)) Q 2 (some c)
theorem Fx_u2 {Q k : Nat} {v : Option Nat} (h : 77 ≤ Q) : am_u2 (am_Fx tx tt fe) Q k v = am_Fx tx tt (am_u2 fe Q k v) := by
  funext a j
  by_cases ha : a = Q
  · subst ha
    have e : (am_F0 tx tt)[a]? = none := List.getElem?_eq_none (by show 77 ≤ a; exact h)
    rw [u2_k]
    unfold am_Fx
    rw [e]
    show _ = am_u2 fe a k v a j
    rw [u2_k]
  · rw [u2_a ha]
    unfold am_Fx
    cases (am_F0 tx tt)[a]? with
    | some f => rfl
    | none => show fe a j = am_u2 fe Q k v a j; rw [u2_a ha]
/-- a new text of three rows -/
theorem s_14n {a b c : Nat} (ha : 5 ≤ a) (hb : 5 ≤ b) (hc : 5 ≤ c) : (am_R (d + 2) 14 9 (am_mem L ext tx tt fe I G) [some (Value.ref 14), some (Value.ref a), some (Value.ref b), some (Value.ref c)] []) = some (some (.ref (77 + ext.length)), am_mem L (ext ++ [(8, 3)]) tx tt (tfe fe (77 + ext.length) a b c) (am_u1 I (77 + ext.length) (fun _ => 0)) (am_u1 G (77 + ext.length) (fun _ => 0))) := by
  have h77 : 77 ≤ (am_S0 L ++ ext).length := by rw [S0_len]; omega
  have hl : ((am_S0 L ++ ext) ++ [(8, 3)])[(am_S0 L ++ ext).length]? = some (8, 3) := by
    rw [List.getElem?_append_right (Nat.le_refl _), Nat.sub_self]
    rfl
  have b5 := Nat.ble_eq_true_of_le (show 5 ≤ (am_S0 L ++ ext).length by omega)
  rw [e_14_9']
  have e := e_65' (d := d) (Sh := (am_S0 L ++ ext) ++ [(8, 3)]) (I := am_u1 I (am_S0 L ++ ext).length (fun _ => 0)) (F := am_u1 (am_Fx tx tt fe) (am_S0 L ++ ext).length (fun _ => none)) (G := am_u1 G (am_S0 L ++ ext).length (fun _ => 0)) (q := (am_S0 L ++ ext).length) (a := a) (b := b) (c := c)
  rw [am_kd_of hl, am_kd_of hl, am_kd_of hl, b5, Nat.ble_eq_true_of_le ha, Nat.ble_eq_true_of_le hb, Nat.ble_eq_true_of_le hc] at e
  simp only [Bool.and_true, cond_true] at e
  rw [show am_nw 8 3 (am_mem L ext tx tt fe I G) = ((am_S0 L ++ ext) ++ [(8, 3)], am_u1 I (am_S0 L ++ ext).length (fun _ => 0), am_u1 (am_Fx tx tt fe) (am_S0 L ++ ext).length (fun _ => none), am_u1 G (am_S0 L ++ ext).length (fun _ => 0)) from rfl, e, Option.bind_some]
  refine Eq.trans e_14_10' ?_
  rw [Fx_new h77, Fx_u2 h77, Fx_u2 h77, Fx_u2 h77, S0_len, List.append_assoc]
  rfl
/-- what a row that was read holds, behind more cells -/
theorem codr_N {I I' : Nat → Nat → Int32} {r N : Nat} {S : List Nat} (hf : frN N S I I') (hr : r < N) (hS : r ∉ S) {w : List Int32} {k : Nat} (h : codr I r k w) : codr I' r k w := codr_f (hf r hr hS) w k h
def FQ : List Nat := [10, 12, 13, 14, 15]
theorem TK_at {bt : Nat → Nat} {n s h : Nat} (ht : TK I bt n s) (hs : h ≤ s) : I 13 h = nI (tq bt n h) := (ht.2.2.1 h hs).2
/-- behind the third clause, at a fault -/
theorem s_14f4 {bt : Nat → Nat} {n s q p0 r1 r2 : Nat} {Q : Option Value → am_M → Prop} (hn : n ≤ 160) (ht : TK I bt n s) (hf : Rf I bt n s q 0 1000) (hQ : ∀ I', frN 77 [14] I I' → (∀ a, 77 ≤ a → I' a = I a) → (∃ h, I' 14 1 = nI h ∧ h ≤ 160 ∧ I' 13 h = nI q) → Q (some .null) (am_mem L ext tx tt fe (I') G)) : wp (am_R (d + 1) 14 4 (am_mem L ext tx tt fe I G) [some (Value.ref 14), some (Value.ref r1), some (Value.ref r2), none] [Value.ref p0]) Q := by
  have hsn := ht.2.1
  obtain ⟨h, len, a1, a2, a3, a4, a5, a6, a7⟩ := hf
  have h13 := TK_at ht a3
  rw [a2] at h13
  have e : ∀ I', I' 14 2 = 1 → frN 77 [14] I I' → (∀ a, 77 ≤ a → I' a = I a) → I' 14 1 = nI h → I' 13 = I 13 → wp (am_R (d + 1) 14 7 (am_mem L ext tx tt fe (I') G) [some (Value.ref 14), some (Value.ref r1), some (Value.ref r2), some (Value.ref p0)] []) Q := by
    intro I' b1 b2 b3 b4 b5
    exact wp_e e_14_7 (wp_f (by rw [b1]; decide) (wp_e e_14_8 (wp_e e_14_10 (wp_r (hQ I' b2 b3 ⟨h, b4, by omega, by rw [b5]; exact h13⟩)))))
  refine wp_e e_14_4 (wp_p (s_16 ht hn a1 a3) (wp_e e_14_5 (wp_i (fun _ => e I a4 (frN_of (fr_r _ _)) (fun _ _ => rfl) a1 rfl) (fun _ => wp_e e_14_6 (e _ (u2_s _ _ _ _) (frN_of (fr_2 (by decide))) (fun a ha => u2_a (by omega)) ?_ (u2_a (by decide)))))))
  rw [u2_k, if_neg (by decide)]
  exact a1
theorem s_14f3 {bt : Nat → Nat} {n s q p0 r1 : Nat} {Q : Option Value → am_M → Prop} (hn : n ≤ 160) (ht : TK I bt n s) (hf : Rf I bt n s q 0 1000) (hQ : ∀ m I' G', m ≤ 160 → frN (77 + ext.length) FR I I' → (∃ h, I' 14 1 = nI h ∧ h ≤ 160 ∧ I' 13 h = nI q) → Q (some .null) (am_mem L (ext ++ [(20, m)]) tx tt (am_u1 fe (77 + ext.length) (fun _ => none)) I' G')) : wp (am_R (d + 3) 14 3 (am_mem L ext tx tt fe I G) [some (Value.ref 14), some (Value.ref r1), none, none] [Value.ref p0]) Q := by
  refine wp_e e_14_3 (wp_b (s_18f (d := d) hn ht hf) ?_)
  rintro v M ⟨m, I2, G2, rfl, hm, rfl, g2, hf2⟩
  refine s_14f4 (d := d + 2) hn (TK_fN ht g2 (by omega)) hf2 (fun I' b1 b2 b3 => hQ m I' G2 hm (fun a h1 h2 => ?_) b3)
  have : I' a = I2 a := by
    by_cases h77 : a < 77
    · exact b1 a h77 (fun e => h2 (by simp at e; rw [e]; decide))
    · exact b2 a (by omega)
  rw [this]
  exact g2 a h1 h2
theorem s_14f2 {bt : Nat → Nat} {n s q p0 : Nat} {Q : Option Value → am_M → Prop} (hn : n ≤ 160) (ht : TK I bt n s) (hf : Rf I bt n s q 0 1000) (hQ : ∀ m m' fe' I' G', m ≤ 160 → m' ≤ 160 → (∀ a, a < 77 + ext.length → fe' a = fe a) → frN (77 + ext.length) FR I I' → (∃ h, I' 14 1 = nI h ∧ h ≤ 160 ∧ I' 13 h = nI q) → Q (some .null) (am_mem L (ext ++ [(20, m), (20, m')]) tx tt fe' I' G')) : wp (am_R (d + 3) 14 2 (am_mem L ext tx tt fe I G) [some (Value.ref 14), none, none, none] [Value.ref p0]) Q := by
  refine wp_e e_14_2 (wp_b (s_18f (d := d) hn ht hf) ?_)
  rintro v M ⟨m, I2, G2, rfl, hm, rfl, g2, hf2⟩
  refine s_14f3 hn (TK_fN ht g2 (by omega)) hf2 (fun m' I' G' hm' b1 b3 => ?_)
  have := hQ m m' (am_u1 (am_u1 fe (77 + ext.length) (fun _ => none)) (77 + (ext ++ [(20, m)]).length) (fun _ => none)) I' G' hm hm' (fun a ha => ?_) (frN_t g2 b1 (by simp)) b3
  · rw [show ext ++ [(20, m)] ++ [(20, m')] = ext ++ [(20, m), (20, m')] by simp]
    exact this
  · rw [u1_a (by simp <;> omega), u1_a (by omega)]
/-- what a reading leaves -/
def Rr (L : Nat) (ext : List (Nat × Nat)) (tx : Nat → Nat) (tt : Nat) (fe : Nat → Nat → Option Nat) (I : Nat → Nat → Int32) (n : Nat) (r : TR) (v : Option Value) (M : am_M) : Prop := ∃ es fe' I' G', es.length ≤ 4 ∧ (∀ q ∈ es, q.2 ≤ 160) ∧ M = am_mem L (ext ++ es) tx tt fe' I' G' ∧ (∀ a, a < 77 + ext.length → fe' a = fe a) ∧ frN (77 + ext.length) FQ I I' ∧ I' 10 1 = nI n ∧ (match r with
  | (_, some (a, b, c)) => ∃ Q, v = some (.ref Q) ∧ txo L (ext ++ es) (am_Fx tx tt fe') I' Q a b c
  | (q', none) => v = some .null ∧ ∃ h, I' 14 1 = nI h ∧ h ≤ 160 ∧ I' 13 h = nI q')
theorem frN_Q {N : Nat} {I I1 I2 : Nat → Nat → Int32} (h1 : fr FT I I1) (h2 : frN N FR I1 I2) : frN N FQ I I2 := fun a ha hs => by
  rw [h2 a ha (fun e => hs (by unfold FR at e; unfold FQ; simp at e ⊢; omega))]
  exact h1 a (fun e => hs (by unfold FT at e; unfold FQ; simp at e ⊢; omega))
theorem s_14 {bt : Nat → Nat} {n : Nat} (hd : 100 ≤ d) (hsw : SW I) (htw : TW I bt n) : wp (am_R (d + 9) 14 0 (am_mem L ext tx tt fe I G) [some (Value.ref 14), none, none, none] []) (fun v M => Rr L ext tx tt fe I n (txt bt n) v M) := by
  have hn := htw.1
  refine wp_e e_14_0 (wp_b (s_46 (d := d) hsw htw) ?_)
  rintro v M ⟨rfl, I1, s, rfl, f1, u1, ht1⟩
  have hsn := ht1.2.1
  refine wp_e e_14_1 ?_
  have fa : fr FR I1 (am_u2 (am_u2 I1 14 1 0) 14 2 0) := fr_t (fr_2 (by decide)) (fr_2 (by decide))
  have hta := TK_f ht1 fa
  have ha1 : (am_u2 (am_u2 I1 14 1 0) 14 2 0) 14 1 = nI 0 := by rw [u2_k, if_neg (by decide), u2_s]; rfl
  have ha2 : (am_u2 (am_u2 I1 14 1 0) 14 2 0) 14 2 = 0 := u2_s _ _ _ _
  generalize (am_u2 (am_u2 I1 14 1 0) 14 2 0) = Ia at fa hta ha1 ha2 ⊢
  have hs0 : cd bt n (tq bt n 0) = -6 → s < 160 := tk_few ht1 hn
  refine wp_b (s_18 (d := d + 6) hn (by omega) hta ha1 ha2 (Nat.zero_le _) (by decide) hs0) ?_
  rintro v M ⟨m1, I2, G2, rfl, hm1, rfl, g2, o2⟩
  have ht2 := TK_fN hta g2 (by omega)
  have e10 : ∀ (N : Nat) (J : Nat → Nat → Int32), 77 ≤ N → frN N FR I1 J → J 10 1 = nI n := fun N J hN h => by rw [h 10 (by omega) (by decide)]; exact u1
  have k2 : frN (77 + ext.length) FR I1 I2 := frN_t (frN_of fa) g2 (Nat.le_refl _)
  unfold txt txf
  rw [show sk bt n 0 = tq bt n 0 from rfl]
  revert o2
  have hc0 : ∀ w q, clf (cd bt n) (adv bt n) (-6) (tq bt n 0) = (q, some w) → cd bt n (tq bt n 0) = -6 := fun w q h => by
    apply Decidable.byContradiction
    intro hne
    unfold clf at h
    rw [if_neg hne] at h
    cases h
  revert hc0
  cases clf (cd bt n) (adv bt n) (-6) (tq bt n 0) with
  | mk q1 ow =>
    cases ow with
    | none =>
      intro _ hf
      refine s_14f2 (d := d + 6) hn ht2 hf (fun m m' fe' I' G' hm hm' b1 b2 b3 => ?_)
      have kk : frN (77 + ext.length) FR I1 I' := frN_t k2 b2 (by simp)
      refine ⟨[(20, m1), (20, m), (20, m')], fe', I', G', by simp, ?_, by simp, fun a ha => ?_, frN_Q f1 kk, e10 _ _ (by omega) kk, rfl, b3⟩
      · intro q hq
        simp at hq
        rcases hq with rfl | rfl | rfl <;> assumption
      · rw [b1 a (by simp <;> omega), u1_a (by omega)]
    | some w1 =>
      intro hc0 o2
      have hs160 := hs0 (hc0 w1 q1 rfl)
      obtain ⟨h1, a1, a2, ⟨c1, c2, c3, c4, c5⟩, a3, a4⟩ := o2
      rw [show tx1 (cd bt n) (adv bt n) (q1, some w1) = tx2 (cd bt n) (adv bt n) w1 (clf (cd bt n) (adv bt n) (-7) q1) from rfl, ← a1]
      refine wp_e e_14_2 (wp_b (s_18 (d := d + 6) hn (by omega) ht2 c1 c2 c5 (by decide) (fun _ => hs160)) ?_)
      rintro v M ⟨m2, I3, G3, rfl, hm2, rfl, g3, o3⟩
      have ht3 := TK_fN ht2 g3 (by omega)
      have k3 : frN (77 + ext.length) FR I1 I3 := frN_t k2 g3 (by simp)
      have r1a : codr I3 (77 + ext.length) 0 w1 := codr_N g3 (by simp) (by unfold FR; simp; omega) a4
      revert o3
      cases clf (cd bt n) (adv bt n) (-7) (tq bt n h1) with
      | mk q2 ow2 =>
        cases ow2 with
        | none =>
          intro hf
          refine s_14f3 (d := d + 6) hn ht3 hf (fun m I' G' hm b2 b3 => ?_)
          have kk : frN (77 + ext.length) FR I1 I' := frN_t k3 b2 (by simp)
          refine ⟨[(20, m1), (20, m2), (20, m)], _, I', G', by simp, ?_, by rw [app3], fun a ha => ?_, frN_Q f1 kk, e10 _ _ (by omega) kk, rfl, b3⟩
          · intro q hq
            simp at hq
            rcases hq with rfl | rfl | rfl <;> assumption
          · rw [u1_a (by simp <;> omega), u1_a (by simp <;> omega), u1_a (by omega)]
        | some w2 =>
          rintro ⟨h2, a1', a2', ⟨c1', c2', c3', c4', c5'⟩, a3', a4'⟩
          rw [show tx2 (cd bt n) (adv bt n) w1 (q2, some w2) = tx3 (cd bt n) w1 w2 (clf (cd bt n) (adv bt n) (-8) q2) from rfl, ← a1']
          refine wp_e e_14_3 (wp_b (s_18 (d := d + 6) hn (by omega) ht3 c1' c2' c5' (by decide) (fun _ => hs160)) ?_)
          rintro v M ⟨m3, I4, G4, rfl, hm3, rfl, g4, o4⟩
          have ht4 := TK_fN ht3 g4 (by omega)
          have k4 : frN (77 + ext.length) FR I1 I4 := frN_t k3 g4 (by simp <;> omega)
          have r1b : codr I4 (77 + ext.length) 0 w1 := codr_N g4 (by simp <;> omega) (by unfold FR; simp; omega) r1a
          have r2b : codr I4 (77 + (ext ++ [(20, m1)]).length) 0 w2 := codr_N g4 (by simp) (by unfold FR; simp; omega) a4'
          revert o4
          cases clf (cd bt n) (adv bt n) (-8) (tq bt n h2) with
          | mk q3 ow3 =>
            cases ow3 with
            | none =>
              intro hf
              refine s_14f4 (d := d + 8) hn ht4 hf (fun I' b1 b2 b3 => ?_)
              have kk : frN (77 + ext.length) FR I1 I' := fun a h1 h2 => by
                by_cases h77 : a < 77
                · rw [b1 a h77 (fun e => h2 (by simp at e; rw [e]; decide))]; exact k4 a h1 h2
                · rw [b2 a (by omega)]; exact k4 a h1 h2
              refine ⟨[(20, m1), (20, m2), (20, m3)], _, I', G4, by simp, ?_, by rw [app3], fun a ha => ?_, frN_Q f1 kk, e10 _ _ (by omega) kk, rfl, b3⟩
              · intro q hq
                simp at hq
                rcases hq with rfl | rfl | rfl <;> assumption
              · rw [u1_a (by simp <;> omega), u1_a (by simp <;> omega), u1_a (by omega)]
            | some w3 =>
              rintro ⟨h3, a1'', a2'', ⟨c1'', c2'', c3'', c4'', c5''⟩, a3'', a4''⟩
              rw [show tx3 (cd bt n) w1 w2 (q3, some w3) = (if cd bt n q3 = -1 then (q3, some (w1, w2, w3)) else (q3, none)) from rfl]
              refine wp_e e_14_4 (wp_p (s_16 ht4 hn c1'' c5'') (wp_e e_14_5 ?_))
              rw [a1'']
              by_cases hc : cd bt n q3 = -1
              · refine wp_t hc (wp_e e_14_7 (wp_t c2'' ?_))
                rw [if_pos hc]
                refine wp_e (s_14n (d := d + 7) (by omega) (by simp <;> omega) (by simp <;> omega)) (wp_r ?_)
                have hN : 77 + (ext ++ [(20, m1)] ++ [(20, m2)] ++ [(20, m3)]).length = 77 + ext.length + 3 := by simp <;> omega
                have hN1 : 77 + (ext ++ [(20, m1)]).length = 77 + ext.length + 1 := by simp <;> omega
                have hN2 : 77 + (ext ++ [(20, m1)] ++ [(20, m2)]).length = 77 + ext.length + 2 := by simp <;> omega
                rw [hN, hN1, hN2]
                rw [hN1] at r2b
                rw [hN2] at a4''
                subst a3 a3' a3''
                have sh : ∀ k, (am_S0 L ++ (ext ++ [(20, w1.length)] ++ [(20, w2.length)] ++ [(20, w3.length)] ++ [(8, 3)]))[77 + ext.length + k]? = [(20, w1.length), (20, w2.length), (20, w3.length), (8, 3)][k]? := fun k => by
                  rw [show am_S0 L ++ (ext ++ [(20, w1.length)] ++ [(20, w2.length)] ++ [(20, w3.length)] ++ [(8, 3)]) = (am_S0 L ++ ext) ++ [(20, w1.length), (20, w2.length), (20, w3.length), (8, 3)] by simp, List.getElem?_append_right (by rw [S0_len]; omega), S0_len, show 77 + ext.length + k - (77 + ext.length) = k by omega]
                have kk : frN (77 + ext.length) FR I1 (am_u1 I4 (77 + ext.length + 3) (fun _ => 0)) := fun a h1 h2 => by
                  rw [u1_a (by omega)]
                  exact k4 a h1 h2
                refine ⟨[(20, w1.length), (20, w2.length), (20, w3.length), (8, 3)], _, _, _, by simp, ?_, by rw [app4], fun a ha => ?_, frN_Q f1 kk, e10 _ _ (by omega) kk, 77 + ext.length + 3, rfl, ?_⟩
                · intro q hq
                  simp at hq
                  rcases hq with rfl | rfl | rfl | rfl
                  · exact hm1
                  · exact hm2
                  · exact hm3
                  · decide
                · unfold tfe
                  rw [u2_a (by omega), u2_a (by omega), u2_a (by omega), u1_a (by omega), u1_a (by simp <;> omega), u1_a (by simp <;> omega), u1_a (by omega)]
                · have hF : ∀ (fe2 : Nat → Nat → Option Nat) (a k : Nat), 77 ≤ a → am_Fx tx tt fe2 a k = fe2 a k := fun fe2 a k ha => by
                    unfold am_Fx
                    rw [List.getElem?_eq_none (by show 77 ≤ a; exact ha)]
                  have hsh : am_S0 L ++ (ext ++ [(20, w1.length), (20, w2.length), (20, w3.length), (8, 3)]) = am_S0 L ++ (ext ++ [(20, w1.length)] ++ [(20, w2.length)] ++ [(20, w3.length)] ++ [(8, 3)]) := by simp
                  refine ⟨by omega, ?_, 77 + ext.length, 77 + ext.length + 1, 77 + ext.length + 2, ?_, ?_, ?_, ⟨by omega, ?_, ?_, hm1⟩, ⟨by omega, ?_, ?_, hm2⟩, ⟨by omega, ?_, ?_, hm3⟩⟩
                  · rw [hsh]; exact sh 3
                  · rw [hF _ _ _ (by omega)]
                    unfold tfe
                    rw [u2_k, if_neg (by decide), u2_k, if_neg (by decide), u2_s]
                  · rw [hF _ _ _ (by omega)]
                    unfold tfe
                    rw [u2_k, if_neg (by decide), u2_s]
                  · rw [hF _ _ _ (by omega)]
                    unfold tfe
                    rw [u2_s]
                  · rw [hsh]; exact sh 0
                  · exact codr_f (u1_a (by omega)) _ _ r1b
                  · rw [hsh]; exact sh 1
                  · exact codr_f (u1_a (by omega)) _ _ r2b
                  · rw [hsh]; exact sh 2
                  · exact codr_f (u1_a (by omega)) _ _ a4''
              · refine wp_f hc ?_
                rw [if_neg hc]
                refine wp_e e_14_6 (wp_e e_14_7 (wp_f (by rw [u2_s]; decide) (wp_e e_14_8 (wp_e e_14_10 (wp_r ?_)))))
                have kk : frN (77 + ext.length) FR I1 (am_u2 I4 14 2 1) := fun a h1 h2 => by
                  rw [u2_a (fun e => h2 (by rw [e]; decide))]
                  exact k4 a h1 h2
                refine ⟨[(20, m1), (20, m2), (20, m3)], _, _, G4, by simp, ?_, by rw [app3], fun a ha => ?_, frN_Q f1 kk, e10 _ _ (by omega) kk, rfl, h3, ?_, by omega, ?_⟩
                · intro q hq
                  simp at hq
                  rcases hq with rfl | rfl | rfl <;> assumption
                · rw [u1_a (by simp <;> omega), u1_a (by simp <;> omega), u1_a (by omega)]
                · rw [u2_k, if_neg (by decide)]; exact c1''
                · rw [u2_a (by decide), TK_at ht4 c5'', a1'']
end B22
