/-! PURE, 53: TEXT -/
def tok (s : St) (w : L3) : St := setN (setN (setT (setR (setR s (20 + sT s) (sbt s)) 5 (updf (stn s) (sT s) (sn s))) (sT s) w) 4 (sT s + 1)) 5 0
/-- the like of s, but for its texts and its tape -/
def lks (s s' : St) : Prop := (∀ k, k ≠ 4 → k ≠ 5 → s'.1 k = s.1 k) ∧ (∀ k, k < 20 → k ≠ 5 → s'.2.1 k = s.2.1 k) ∧ s'.2.2.1 = s.2.2.1 ∧ sT s ≤ sT s'
theorem lks_t {s : St} {w : L3} : lks s (tok s w) := ⟨fun k h4 h5 => (if_neg h5).trans (if_neg h4), fun k hk h5 => (if_neg h5).trans (if_neg (by omega)), rfl, Nat.le_succ _⟩
theorem lks_z {s : St} : lks s (setN s 5 0) := ⟨fun k h4 h5 => if_neg h5, fun k hk h5 => rfl, rfl, Nat.le_refl _⟩
theorem tok_b {s : St} {w : L3} {t : Nat} : stb (tok s w) t = if t = sT s then sbt s else stb s t := by
  show (if 20 + t = 5 then updf (stn s) (sT s) (sn s) else if 20 + t = 20 + sT s then sbt s else s.2.1 (20 + t)) = _
  rw [if_neg (by omega)]
  by_cases e : t = sT s
  · rw [if_pos e, if_pos (by omega)]
  · rw [if_neg e, if_neg (by omega)]
theorem tok_n {s : St} {w : L3} {t : Nat} : stn (tok s w) t = if t = sT s then sn s else stn s t := rfl
theorem tok_w {s : St} {w : L3} {t : Nat} : stw (tok s w) t = if t = sT s then w else stw s t := rfl
theorem SK_l {s s' : St} (h : lks s s') (hk : SK s) : SK s' := by
  obtain ⟨h1, h2, -, h4⟩ := h
  intro e
  rw [h1 6 (by decide) (by decide)] at e
  obtain ⟨k1, k2, k3, k4, k5, k6⟩ := hk e
  refine ⟨?_, ?_, ?_, ?_, ?_, ?_⟩
  · rw [h1 7 (by decide) (by decide), h1 8 (by decide) (by decide)]
    exact k1
  · rw [h1 9 (by decide) (by decide), show sPn s' = sPn s from h1 3 (by decide) (by decide)]
    exact k2
  · rw [h1 10 (by decide) (by decide)]
    exact Nat.lt_of_lt_of_le k3 h4
  · rw [h1 7 (by decide) (by decide), h2 8 (by decide) (by decide)]
    exact k4
  · rw [h2 9 (by decide) (by decide)]
    exact k5
  · rw [h1 9 (by decide) (by decide), h2 10 (by decide) (by decide)]
    exact k6
theorem SN_l {s s' : St} (h : lks s s') (hk : SN s) (h6 : sT s' ≤ 6) (hn : sn s' = 0) : SN s' := by
  obtain ⟨h1, h2, -, h4⟩ := h
  obtain ⟨⟨a1, a2, a3⟩, b1, b2, b3, b4, b5, b7, b8, b9⟩ := hk
  have e0 : sC s' = sC s := h1 0 (by decide) (by decide)
  have e1 : sD s' = sD s := h1 1 (by decide) (by decide)
  have e2 : sR s' = sR s := h1 2 (by decide) (by decide)
  have e3 : sPn s' = sPn s := h1 3 (by decide) (by decide)
  have r1 : srow s' = srow s := h2 1 (by decide) (by decide)
  have r2 : spr s' = spr s := h2 2 (by decide) (by decide)
  have r3 : skd s' = skd s := h2 3 (by decide) (by decide)
  have r4 : snu s' = snu s := h2 4 (by decide) (by decide)
  unfold SN
  rw [e0, e1, e2, e3, r1, r2, r3, r4, hn]
  exact ⟨⟨a1, a2, a3⟩, Nat.lt_of_lt_of_le b1 h4, h6, b3, Nat.zero_le _, b5, b7, b8, fun k hk => absurd hk (Nat.not_lt_zero k)⟩
theorem SS_l {s s' : St} (h : lks s s') (hk : SS s) : SS s' := by
  obtain ⟨-, h2, -, -⟩ := h
  have r6 : sso s' = sso s := h2 6 (by decide) (by decide)
  have r7 : ssz s' = ssz s := h2 7 (by decide) (by decide)
  unfold SS
  rw [r6, r7]
  exact hk
theorem Sok_z5 {s : St} (hs : Sok s) : Sok (setN s 5 0) := ⟨SN_l lks_z hs.1 hs.1.2.2.1 rfl, hs.2.1, SS_l lks_z hs.2.2.1, SK_l lks_z hs.2.2.2.1, hs.2.2.2.2⟩
theorem Sok_tok {s : St} (hs : Sok s) {w : L3} {q : Nat} (h6 : sT s < 6) (hw : txt (sbt s) (sn s) = (q, some w)) : Sok (tok s w) := by
  refine ⟨SN_l lks_t hs.1 h6 rfl, fun t ht => ?_, SS_l lks_t hs.2.2.1, SK_l lks_t hs.2.2.2.1, hs.2.2.2.2⟩
  have ht : t < sT s + 1 := ht
  rw [tok_b, tok_n, tok_w]
  by_cases e : t = sT s
  · rw [if_pos e, if_pos e, if_pos e]
    exact ⟨q, hw⟩
  · rw [if_neg e, if_neg e, if_neg e]
    exact hs.2.1 t (by omega)
theorem CN_l {s s' : St} {I : Nat → Nat → Int32} (h : lks s s') (hc : CN s I) (h7 : I 5 7 = nI (sT s')) : CN s' I := by
  obtain ⟨h1, h2, -, -⟩ := h
  obtain ⟨a1, a2, a3, -, a5, a6, a7, a8⟩ := hc
  have e0 : sC s' = sC s := h1 0 (by decide) (by decide)
  have e1 : sD s' = sD s := h1 1 (by decide) (by decide)
  have e2 : sR s' = sR s := h1 2 (by decide) (by decide)
  have e3 : sPn s' = sPn s := h1 3 (by decide) (by decide)
  have r1 : srow s' = srow s := h2 1 (by decide) (by decide)
  have r2 : spr s' = spr s := h2 2 (by decide) (by decide)
  have r3 : skd s' = skd s := h2 3 (by decide) (by decide)
  have r4 : snu s' = snu s := h2 4 (by decide) (by decide)
  unfold CN
  rw [e0, e1, e2, e3, r1, r2, r3, r4]
  exact ⟨a1, a2, a3, h7, a5, a6, a7, a8⟩
theorem CS_l {s s' : St} {I : Nat → Nat → Int32} (h : lks s s') (hc : CS s I) : CS s' I := by
  obtain ⟨-, h2, h3, -⟩ := h
  have r6 : sso s' = sso s := h2 6 (by decide) (by decide)
  have r7 : ssz s' = ssz s := h2 7 (by decide) (by decide)
  have ri : sit s' = sit s := h3
  unfold CS
  rw [r6, r7, ri]
  exact hc
theorem CK_l {s s' : St} {I : Nat → Nat → Int32} (h : lks s s') (hc : CK s I) : CK s' I := by
  obtain ⟨h1, h2, -, -⟩ := h
  unfold CK
  rw [h1 6 (by decide) (by decide), h1 7 (by decide) (by decide), h1 8 (by decide) (by decide), h1 9 (by decide) (by decide), h1 10 (by decide) (by decide), h2 8 (by decide) (by decide), h2 9 (by decide) (by decide), h2 10 (by decide) (by decide)]
  exact hc
theorem MSh_l {s s' : St} {I : Nat → Nat → Int32} (h : lks s s') (hc : MSh s I) : MSh s' I := by
  obtain ⟨-, h2, h3, -⟩ := h
  have r6 : sso s' = sso s := h2 6 (by decide) (by decide)
  have r7 : ssz s' = ssz s := h2 7 (by decide) (by decide)
  have ri : sit s' = sit s := h3
  unfold MSh
  rw [r6, r7, ri]
  exact hc
theorem MK_l {s s' : St} {I : Nat → Nat → Int32} (h : lks s s') (hc : MK s I) : MK s' I := by
  obtain ⟨h1, h2, -, -⟩ := h
  unfold MK
  rw [h1 6 (by decide) (by decide), h1 7 (by decide) (by decide), h1 8 (by decide) (by decide), h1 9 (by decide) (by decide), h1 10 (by decide) (by decide), h2 8 (by decide) (by decide), h2 9 (by decide) (by decide), h2 10 (by decide) (by decide)]
  exact hc
theorem MN_l {s s' : St} {I I0 : Nat → Nat → Int32} (h : lks s s') (hc : MN s I0) (g0 : ∀ k, k = 4 ∨ k = 7 ∨ k = 8 ∨ k = 12 → I 55 k = I0 55 k) (ga : ∀ a, 59 ≤ a → a ≤ 62 → I a = I0 a) (h3 : I 55 3 = nI (sT s')) (h6 : I 55 6 = nI (sn s')) (h0 : sn s' = 0) : MN s' I := by
  obtain ⟨h1, h2, -, -⟩ := h
  obtain ⟨a1, a2, a3, -, a5, -, a7, a8, a9, -⟩ := hc
  have e0 : sC s' = sC s := h1 0 (by decide) (by decide)
  have e1 : sD s' = sD s := h1 1 (by decide) (by decide)
  have e2 : sR s' = sR s := h1 2 (by decide) (by decide)
  have e3 : sPn s' = sPn s := h1 3 (by decide) (by decide)
  have r1 : srow s' = srow s := h2 1 (by decide) (by decide)
  have r2 : spr s' = spr s := h2 2 (by decide) (by decide)
  have r3 : skd s' = skd s := h2 3 (by decide) (by decide)
  have r4 : snu s' = snu s := h2 4 (by decide) (by decide)
  unfold MN
  rw [e0, e1, e2, e3, r1, r2, r3, r4, g0 7 (by decide), g0 8 (by decide), g0 12 (by decide), g0 4 (by decide), ga 59 (by decide) (by decide), ga 60 (by decide) (by decide), ga 61 (by decide) (by decide), ga 62 (by decide) (by decide)]
  exact ⟨a1, a2, a3, h3, a5, h6, a7, a8, a9, fun k hk => absurd (by rw [h0] at hk; exact hk) (Nat.not_lt_zero k)⟩
theorem ad5 {q : Nat} (h : q = 27 ∨ 77 ≤ q) : ∃ p, q = p + 5 := ⟨q - 5, by omega⟩
section B53
variable {d L : Nat} {ext : List (Nat × Nat)} {tx : Nat → Nat} {tt : Nat} {fe : Nat → Nat → Option Nat} {I : Nat → Nat → Int32} {G : Nat → Nat → Int64}
theorem e_82_3n : am_R d 82 3 (am_mem L ext tx tt fe I G) [some (Value.ref 5), none] [Value.null] = am_R d 82 4 (am_mem L ext tx tt fe (am_u2 I 10 1 0) G) [some (Value.ref 5), some Value.null] [] := (am_R_eq _ _ _ _ _ _).trans rfl
theorem e_82_3r {q : Nat} : am_R d 82 3 (am_mem L ext tx tt fe I G) [some (Value.ref 5), none] [Value.ref (q + 5)] = am_R d 82 6 (am_mem L ext tx tt fe (am_u2 I 10 1 0) G) [some (Value.ref 5), some (Value.ref (q + 5))] [] := (am_R_eq _ _ _ _ _ _).trans rfl
theorem e_82_4n : am_R (d + 1) 82 4 (am_mem L ext tx tt fe I G) [some (Value.ref 5), some Value.null] [] = (am_R d 15 0 (am_mem L ext tx tt fe I G) [some (Value.ref 14)] []).bind (fun r => am_R (d + 1) 82 5 r.2 [some (Value.ref 5), some Value.null] (r.1.toList ++ [Value.int (-100)])) := (am_R_eq _ _ _ _ _ _).trans rfl
theorem e_82_5n {x y : Int32} : am_R d 82 5 (am_mem L ext tx tt fe I G) [some (Value.ref 5), some Value.null] [Value.int y, Value.int x] = some (some (Value.int (x - y)), am_mem L ext tx tt fe I G) := (am_R_eq _ _ _ _ _ _).trans rfl
theorem e_82_6r {q : Nat} : am_R d 82 6 (am_mem L ext tx tt fe I G) [some (Value.ref 5), some (Value.ref q)] [] = cond ((am_kd (am_mem L ext tx tt fe I G) q 8 && (Nat.ble 5 q && am_inb (I 5 7) 6)) && true) (some (some (Value.int ((am_u2 I 5 7 (I 5 7 + 1)) 5 7 - 1)), (am_S0 L ++ ext, am_u2 I 5 7 (I 5 7 + 1), am_u2 (am_Fx tx tt fe) 9 (I 5 7).toNatClampNeg (some q), G))) none := (am_R_eq _ _ _ _ _ _).trans rfl
theorem Fx_9 {k q : Nat} (hk : k < 6) : am_u2 (am_Fx tx tt fe) 9 k (some q) = am_Fx (fun j => if j = k then q else tx j) tt fe := by
  funext a x
  by_cases ha : a = 9
  · subst ha
    rw [u2_k]
    show (if x = k then some q else if x < 6 then some (tx x) else none) = (if x < 6 then some (if x = k then q else tx x) else none)
    by_cases e : x = k
    · rw [if_pos e, if_pos (by omega), if_pos e]
    · rw [if_neg e, if_neg e]
  · rw [u2_a ha]
    have e : am_F0 (fun j => if j = k then q else tx j) tt = (am_F0 tx tt).set 9 (fun j => if j < 6 then some (if j = k then q else tx j) else none) := rfl
    unfold am_Fx
    rw [e, List.getElem?_set_ne (Ne.symm ha)]
theorem Fx_x {tx' : Nat → Nat} {a : Nat} (h : a ≠ 9) : am_Fx tx' tt fe a = am_Fx tx tt fe a := by
  funext x
  have e : am_F0 tx' tt = (am_F0 tx tt).set 9 (fun j => if j < 6 then some (tx' j) else none) := rfl
  unfold am_Fx
  rw [e, List.getElem?_set_ne (Ne.symm h)]
theorem txo_x {tx' : Nat → Nat} {a : Nat} {cs cd cl : List Int32} (ha : txo L ext (am_Fx tx tt fe) I a cs cd cl) : txo L ext (am_Fx tx' tt fe) I a cs cd cl := by
  obtain ⟨h1, h2, a0, a1, a2, h3, h4, h5, h6⟩ := ha
  rw [← Fx_x (tx' := tx') (tx := tx) (show a ≠ 9 by omega)] at h3 h4 h5
  exact ⟨h1, h2, a0, a1, a2, h3, h4, h5, h6⟩
theorem S0_lt {a : Nat} {x : Nat × Nat} (h : (am_S0 L ++ ext)[a]? = some x) : a < 77 + ext.length := by
  rw [← S0_len (L := L)]
  exact (List.getElem?_eq_some_iff.mp h).1
theorem arr_N {es : List (Nat × Nat)} {I' : Nat → Nat → Int32} {a : Nat} {cs : List Int32} (hf : frN (77 + ext.length) FQ I I') (h : arr L ext I a cs) : arr L (ext ++ es) I' a cs := by
  obtain ⟨h1, h2, h3, h4⟩ := h
  exact ⟨h1, S0_at h2, codr_f (hf a (S0_lt h2) (by unfold FQ; simp; omega)) _ _ h3, h4⟩
theorem txo_N {es : List (Nat × Nat)} {fe' : Nat → Nat → Option Nat} {I' : Nat → Nat → Int32} {a : Nat} {cs cd cl : List Int32} (he : ∀ a, a < 77 + ext.length → fe' a = fe a) (hf : frN (77 + ext.length) FQ I I') (h : txo L ext (am_Fx tx tt fe) I a cs cd cl) : txo L (ext ++ es) (am_Fx tx tt fe') I' a cs cd cl := by
  obtain ⟨h1, h2, a0, a1, a2, h3, h4, h5, h6, h7, h8⟩ := h
  have e : am_Fx tx tt fe' a = am_Fx tx tt fe a := by
    funext k
    unfold am_Fx
    rw [he a (S0_lt h2)]
  rw [← e] at h3 h4 h5
  exact ⟨h1, S0_at h2, a0, a1, a2, h3, h4, h5, arr_N hf h6, arr_N hf h7, arr_N hf h8⟩
end B53
/-- TEXT -/
theorem op_text {s : St} (hs : Sok s) : OP s (fun M => (am_R (2047) 82 0 M [some (Value.ref 5), none] [])) (fun M => (am_R (2047) 155 0 M [some (Value.ref 55), none] [])) := by
  have hs0 := hs.1
  obtain ⟨hC, hR, hT6, hP, hn, h5, h6, h7, h8⟩ := hs0
  by_cases hf : sT s = 6
  · refine OP_q hs (.int (-4)) (fun L ext tx tt fe I G hb => ?_) (fun L ext tx tt fe I G hb => ?_)
    · refine wp_e e_82_0 (wp_f ?_ (wp_e e_82_1 (wp_r (qc_of (fr_r _ _)))))
      rw [hb.2.1.2.2.2.1, hf]
      decide
    · refine wp_e e_155_0 (wp_t ?_ (wp_e e_155_1 (wp_r (qm_of (mf_r _ _ _)))))
      rw [hb.1.2.2.2.1, hf]
      rfl
  · have h6T : sT s < 6 := by omega
    have hib := ib (n := sT s) (N := 6) h6T (by decide)
    have hcl := nI_clamp (n := sT s) (by omega)
    -- the class, but for its end
    have hc0 : ∀ {L ext tx tt fe I G} {Q : Option Value → am_M → Prop}, CB s L ext tx tt fe I → (∀ v M, Rr L ext tx tt fe I (sn s) (txt (sbt s) (sn s)) v M → wp (am_R 2047 82 3 M [some (Value.ref 5), none] (v.toList ++ [])) Q) → wp (am_R 2047 82 0 (am_mem L ext tx tt fe I G) [some (Value.ref 5), none] []) Q := by
      intro L ext tx tt fe I G Q hb k
      refine wp_e e_82_0 (wp_t ?_ (wp_e e_82_2 (wp_b (s_14 (d := 2037) (by decide) hb.1.1 hb.2.2.1) (fun v M h => k v M h))))
      rw [hb.2.1.2.2.2.1]
      exact nI_lt (b := 6) h6T (by decide)
    -- the model, but for its end
    have hm0 : ∀ {L ext tx tt fe I G} {Q : Option Value → am_M → Prop}, MJ s I → (∀ x I' G', (∀ a, a ≠ 55 → a ≠ 56 → a ≠ 57 → I' a = I a) → (∀ t, t < sT s → MB I' t (stb s t) (stn s t)) → MB I' (sT s) (sbt s) (sn s) → I' 55 6 = 0 → (∀ k, k ≠ 6 → k ∉ FZ → I' 55 k = I 55 k) → (match txt (sbt s) (sn s) with
        | (q', some (a, b, c)) => I' 55 27 = 0
        | (q', none) => I' 55 27 = 1 ∧ I' 55 28 = nI q') → wp (am_R 2047 155 6 (am_mem L ext tx tt fe I' G') [some (Value.ref 55), some (Value.int (nI (sn s)))] [Value.int x]) Q) → wp (am_R 2047 155 0 (am_mem L ext tx tt fe I G) [some (Value.ref 55), none] []) Q := by
      intro L ext tx tt fe I G Q hb k
      obtain ⟨⟨b1, b2, b3, b4, b5, b6, b7, b8, b9, b10⟩, hT, -⟩ := hb
      refine wp_e e_155_0 ?_
      rw [b4]
      refine wp_f (fun e => hf ((nI_eq (by omega) (by decide)).mp e)) (wp_e e_155_2 ?_)
      refine wp_loop (sn s) (fun k (J : Nat → Nat → Int32) => fr [56] I J ∧ (∀ i, i < k → J 56 (160 * sT s + i) = nI (sbt s i)) ∧ ∀ x, x < 160 * sT s → J 56 x = I 56 x) (fun k J => wp (am_R 2047 155 3 (am_mem L ext tx tt fe J G) [some (Value.ref 55), some (Value.int (nI k))] []) Q) ?_ ?_ 0 I (Nat.zero_le _) ⟨fr_r _ _, fun i hi => absurd hi (Nat.not_lt_zero i), fun x _ => rfl⟩
      · rintro J ⟨f1, z1, z2⟩
        refine wp_e e_155_3 ?_
        rw [f1 55 (by decide), b6]
        refine wp_f (nI_nlt (Nat.le_refl _) (by omega)) (wp_e e_155_5 ?_)
        rw [f1 55 (by decide), b4, b6, hib, hcl]
        refine wp_c rfl ?_
        have g57 : ∀ t, t ≤ sT s → (am_u2 (am_u2 J 57 (sT s) (nI (sn s))) 55 6 0) 57 t = if t = sT s then nI (sn s) else I 57 t := fun t _ => by
          rw [u2_a (show (57 : Nat) ≠ 55 by decide), u2_k, f1 57 (by decide)]
        have g56 : (am_u2 (am_u2 J 57 (sT s) (nI (sn s))) 55 6 0) 56 = J 56 := by
          rw [u2_a (show (56 : Nat) ≠ 55 by decide), u2_a (show (56 : Nat) ≠ 57 by decide)]
        have g55 : ∀ k, k ≠ 6 → (am_u2 (am_u2 J 57 (sT s) (nI (sn s))) 55 6 0) 55 k = I 55 k := fun k hk => by
          rw [u2_k, if_neg hk, u2_a (show (55 : Nat) ≠ 57 by decide), f1 55 (by decide)]
        have g6 : (am_u2 (am_u2 J 57 (sT s) (nI (sn s))) 55 6 0) 55 6 = 0 := u2_s _ _ _ _
        have ga : ∀ a, a ≠ 55 → a ≠ 56 → a ≠ 57 → (am_u2 (am_u2 J 57 (sT s) (nI (sn s))) 55 6 0) a = I a := fun a a1 a2 a3 => by
          rw [u2_a a1, u2_a a3, f1 a (by simpa using a2)]
        rw [g55 3 (by decide), b4]
        generalize (am_u2 (am_u2 J 57 (sT s) (nI (sn s))) 55 6 0) = K at g57 g56 g55 g6 ga ⊢
        have mbT : MB K (sT s) (sbt s) (sn s) := ⟨h6T, hn, by rw [g57 _ (Nat.le_refl _), if_pos rfl], fun i hi => ⟨by rw [g56]; exact z1 i hi, h8 i hi⟩⟩
        have mbt : ∀ t, t < sT s → MB K t (stb s t) (stn s t) := fun t ht => by
          obtain ⟨m1, m2, m3, m4⟩ := hT t ht
          refine ⟨m1, m2, by rw [g57 t (by omega), if_neg (by omega)]; exact m3, fun i hi => ?_⟩
          rw [g56, z2 _ (by omega)]
          exact m4 i hi
        refine wp_b (s_154 (which := 0) (nm := fun i => K 55 (14 + i)) (d := 2045) mbT (fun i _ => rfl) (by decide) (by decide)) ?_
        rintro v M ⟨x, I', G', rfl, rfl, f2, o2⟩
        have mf2 : ∀ {t bt n}, MB K t bt n → MB I' t bt n := fun {t bt n} hm => by
          obtain ⟨m1, m2, m3, m4⟩ := hm
          exact ⟨m1, m2, by rw [f2.1 57 (by decide)]; exact m3, by rw [f2.1 56 (by decide)]; exact m4⟩
        refine k x I' G' (fun a a1 a2 a3 => (f2.1 a a1).trans (ga a a1 a2 a3)) (fun t ht => mf2 (mbt t ht)) (mf2 mbT) ((f2.2 6 (by decide)).trans g6) (fun j j1 j2 => (f2.2 j j2).trans (g55 j j1)) ?_
        revert o2
        cases txt (sbt s) (sn s) with
        | mk q ow =>
          cases ow with
          | none => exact fun o => o
          | some w => exact fun o => o.1
      · rintro k J hk ⟨f1, z1, z2⟩ hgo
        refine wp_e e_155_3 ?_
        rw [f1 55 (by decide), b6]
        refine wp_t (nI_lt hk (by omega)) (wp_e e_155_4 ?_)
        rw [f1 55 (by decide), b4, show (160 : Int32) * nI (sT s) + nI k = nI (160 * sT s + k) by rw [show (160 : Int32) = nI 160 from rfl, pk_mul, nI_add], ib (n := 160 * sT s + k) (N := 960) (by omega) (by decide), ib (n := k) (N := 160) (by omega) (by decide), nI_clamp (n := 160 * sT s + k) (by omega), nI_clamp (n := k) (by omega), f1 58 (by decide), b10 k hk, nI_1]
        refine wp_c rfl (hgo _ ⟨fr_t f1 (fr_2 (by decide)), fun i hi => ?_, fun x hx => ?_⟩)
        · rw [u2_k]
          by_cases e : i = k
          · rw [if_pos (by omega), e]
          · rw [if_neg (by omega)]
            exact z1 i (by omega)
        · rw [u2_k, if_neg (by omega)]
          exact z2 x hx
    cases hx : txt (sbt s) (sn s) with
    | mk q ow =>
      cases ow with
      | none =>
        refine ⟨setN s 5 0, .int (-100 - nI q), Sok_z5 hs, fun L ext tx tt fe I G hj => ?_, fun L ext tx tt fe I G hb => ?_⟩
        · obtain ⟨hb, hca⟩ := hj
          refine hc0 hb ?_
          rw [hx]
          rintro v M ⟨es, fe', I', G', k1, k2, rfl, k3, k4, k5, rfl, h, k6, k7, k8⟩
          obtain ⟨⟨a1, a2⟩, hN, ⟨c1, c2, c3⟩, hT, hS, hK⟩ := hb
          have n' : ∀ a, a < 77 → a ∉ FQ → am_u2 I' 10 1 0 a = I a := fun a ha hq => by
            rw [u2_a (fun e => hq (by rw [e]; decide))]
            exact k4 a (by omega) hq
          refine wp_e e_82_3n (wp_e e_82_4n ?_)
          have h14 : am_u2 I' 10 1 0 14 1 = nI h := by rw [u2_a (show (14 : Nat) ≠ 10 by decide)]; exact k6
          have r15 : wp (am_R 2046 15 0 (am_mem L (ext ++ es) tx tt fe' (am_u2 I' 10 1 0) G') [some (Value.ref 14)] []) (fun v M => v = some (.int (nI q)) ∧ M = am_mem L (ext ++ es) tx tt fe' (am_u2 I' 10 1 0) G') := by
            refine wp_e e_15_0 ?_
            rw [h14, ib (n := h) (N := 161) (by omega) (by decide), nI_clamp (n := h) (by omega), u2_a (show (13 : Nat) ≠ 10 by decide), k8]
            exact wp_c rfl (wp_r ⟨rfl, rfl⟩)
          refine wp_p (wp_eq r15) (wp_e e_82_5n (wp_r ⟨rfl, es, tx, tt, fe', _, G', rfl, k1, k2, ⟨⟨⟨SW_e a1 (n' 2 (by decide) (by decide)) (n' 3 (by decide) (by decide)), by rw [UW, n' 1 (by decide) (by decide)]; exact a2⟩, CN_f hN (n' 5 (by decide) (by decide)) (n' 6 (by decide) (by decide)) (n' 7 (by decide) (by decide)) (fun p hp => n' _ (by have hp : p < sPn s := hp; omega) (by have hp : p < sPn s := hp; unfold FQ; simp; omega)), ⟨Nat.zero_le _, u2_s _ _ _ _, fun k hk => absurd hk (Nat.not_lt_zero k)⟩, fun t ht => ?_, CS_f hS (fun a h1 h2 => n' a (by omega) (by unfold FQ; simp; omega)), CK_f hK (n' 17 (by decide) (by decide)) (n' 18 (by decide) (by decide)) (n' 19 (by decide) (by decide)) (n' 20 (by decide) (by decide))⟩, CA_s rfl rfl (CA_f hca (n' 48 (by decide) (by decide)) (n' 49 (by decide) (by decide)) (n' 53 (by decide) (by decide)) (n' 54 (by decide) (by decide)))⟩, fun a ha => n' a (by omega) (by unfold FQ; simp; omega)⟩))
          exact txo_f (S := [10]) (ntx_d (by decide)) (fr_2 (by decide)) (txo_N k3 k4 (hT t ht))
        · refine hm0 hb (fun x I' G' ga mb mT g6 g55 o => ?_)
          rw [hx] at o
          have hN := hb.1
          obtain ⟨b1, b2, b3, b4, b5, b6, b7, b8, b9, b10⟩ := hN
          refine wp_e e_155_6 (wp_f (by rw [o.1]; decide) (wp_e e_155_7 (wp_r ⟨?_, I', G', rfl, ?_, fun a ha => ga a (by omega) (by omega) (by omega)⟩)))
          · rw [o.2]
          · have g0 : ∀ k, k = 3 ∨ k = 4 ∨ k = 7 ∨ k = 8 ∨ k = 12 ∨ (47 ≤ k ∧ k ≤ 50) → I' 55 k = I 55 k := fun k hk => g55 k (by omega) (by unfold FZ; simp; omega)
            refine ⟨⟨by rw [g0 7 (by omega)]; exact b1, by rw [g0 8 (by omega)]; exact b2, by rw [g0 12 (by omega)]; exact b3, by rw [g0 3 (by omega)]; exact b4, by rw [g0 4 (by omega)]; exact b5, g6, by rw [ga 59 (by decide) (by decide) (by decide)]; exact b7, by rw [ga 62 (by decide) (by decide) (by decide)]; exact b8, by rw [ga 60 (by decide) (by decide) (by decide), ga 61 (by decide) (by decide) (by decide)]; exact b9, fun k hk => absurd hk (Nat.not_lt_zero k)⟩, mb, fun q' hq' => ?_, ?_, ?_⟩
            · rw [ga 73 (by decide) (by decide) (by decide), ga 74 (by decide) (by decide) (by decide), ga 75 (by decide) (by decide) (by decide), ga 76 (by decide) (by decide) (by decide)]
              exact hb.2.2.1 q' hq'
            · rw [g0 47 (by omega)]
              exact hb.2.2.2.1
            · rw [g0 47 (by omega), g0 48 (by omega), g0 49 (by omega), g0 50 (by omega), ga 70 (by decide) (by decide) (by decide), ga 71 (by decide) (by decide) (by decide), ga 72 (by decide) (by decide) (by decide)]
              exact hb.2.2.2.2
      | some w =>
        obtain ⟨wa, wb, wc⟩ := w
        refine ⟨tok s (wa, wb, wc), .int (nI (sT s)), Sok_tok hs h6T hx, fun L ext tx tt fe I G hj => ?_, fun L ext tx tt fe I G hb => ?_⟩
        · obtain ⟨hb, hca⟩ := hj
          refine hc0 hb ?_
          rw [hx]
          rintro v M ⟨es, fe', I', G', k1, k2, rfl, k3, k4, k5, Q0, rfl, k6⟩
          obtain ⟨Q, rfl⟩ := ad5 k6.1
          obtain ⟨⟨a1, a2⟩, hN, ⟨c1, c2, c3⟩, hT, hS, hK⟩ := hb
          have n0 : ∀ a, a < 77 → a ∉ FQ → am_u2 I' 10 1 0 a = I a := fun a ha hq => by
            rw [u2_a (fun e => hq (by rw [e]; decide))]
            exact k4 a (by omega) hq
          have h57 : am_u2 I' 10 1 0 5 7 = nI (sT s) := by rw [n0 5 (by decide) (by decide)]; exact hN.2.2.2.1
          have n' : ∀ a, a < 77 → a ≠ 5 → a ∉ FQ → am_u2 (am_u2 I' 10 1 0) 5 7 (nI (sT s + 1)) a = I a := fun a ha h5 hq => by
            rw [u2_a h5]
            exact n0 a ha hq
          have k7 : txo L (ext ++ es) (am_Fx tx tt fe') (am_u2 I' 10 1 0) (Q + 5) wa wb wc := txo_f (S := [10]) (ntx_d (by decide)) (fr_2 (by decide)) k6
          have q5 : Nat.ble 5 (Q + 5) = true := Nat.ble_eq_true_of_le (by have := k7.1; omega)
          refine wp_e e_82_3r (wp_e e_82_6r ?_)
          rw [h57, hib, hcl, Fx_9 h6T, nI_1, u2_s]
          refine wp_c (by rw [am_kd_of k7.2.1, q5]; rfl) (wp_r ⟨?_, es, _, tt, fe', _, G', rfl, k1, k2, ⟨⟨⟨SW_e a1 (n' 2 (by decide) (by decide) (by decide)) (n' 3 (by decide) (by decide) (by decide)), by rw [UW, n' 1 (by decide) (by decide) (by decide)]; exact a2⟩, ?_, ⟨Nat.zero_le _, ?_, fun k hk => absurd hk (Nat.not_lt_zero k)⟩, fun t ht => ?_, CS_l lks_t (CS_f hS (fun a h1 h2 => n' a (by omega) (by omega) (by unfold FQ; simp; omega))), CK_l lks_t (CK_f hK (n' 17 (by decide) (by decide) (by decide)) (n' 18 (by decide) (by decide) (by decide)) (n' 19 (by decide) (by decide) (by decide)) (n' 20 (by decide) (by decide) (by decide)))⟩, ?_⟩, fun a ha => n' a (by omega) (by omega) (by unfold FQ; simp; omega)⟩)
          · rw [n1, pk_sub (by omega), Nat.add_sub_cancel]
          · obtain ⟨p1, p2, p3, p4, p5, p6, p7, p8⟩ := hN
            have v5 : ∀ k, k ≠ 7 → am_u2 (am_u2 I' 10 1 0) 5 7 (nI (sT s + 1)) 5 k = I 5 k := fun k hk => by
              rw [u2_k, if_neg hk, n0 5 (by decide) (by decide)]
            have p4' : am_u2 (am_u2 I' 10 1 0) 5 7 (nI (sT s + 1)) 5 7 = nI (sT s + 1) := u2_s _ _ _ _
            have e0 : sC (tok s (wa, wb, wc)) = sC s := rfl
            have r1 : srow (tok s (wa, wb, wc)) = srow s := lks_t.2.1 1 (by decide) (by decide)
            have r2 : spr (tok s (wa, wb, wc)) = spr s := lks_t.2.1 2 (by decide) (by decide)
            have r3 : skd (tok s (wa, wb, wc)) = skd s := lks_t.2.1 3 (by decide) (by decide)
            have r4 : snu (tok s (wa, wb, wc)) = snu s := lks_t.2.1 4 (by decide) (by decide)
            unfold CN
            rw [r1, r2, r3, r4]
            refine ⟨by rw [v5 0 (by decide)]; exact p1, by rw [v5 1 (by decide)]; exact p2, by rw [v5 5 (by decide)]; exact p3, p4', by rw [v5 8 (by decide)]; exact p5, by rw [n' 6 (by decide) (by decide) (by decide)]; exact p6, by rw [n' 7 (by decide) (by decide) (by decide)]; exact p7, fun p hp => ?_⟩
            have hp : p < sPn s := hp
            rw [n' (28 + p) (by omega) (by omega) (by unfold FQ; simp; omega)]
            exact p8 p hp
          · rw [u2_a (show (10 : Nat) ≠ 5 by decide), u2_s]
            rfl
          · have ht : t < sT s + 1 := ht
            rw [tok_w]
            have k7' : txo L (ext ++ es) (am_Fx tx tt fe') (am_u2 (am_u2 I' 10 1 0) 5 7 (nI (sT s + 1))) (Q + 5) wa wb wc := txo_f (S := [5]) (ntx_d (by decide)) (fr_2 (by decide)) k7
            show txo L (ext ++ es) (am_Fx (fun j => if j = sT s then Q + 5 else tx j) tt fe') (am_u2 (am_u2 I' 10 1 0) 5 7 (nI (sT s + 1))) (if t = sT s then Q + 5 else tx t) _ _ _
            by_cases e : t = sT s
            · rw [if_pos (c := t = sT s) (t := (wa, wb, wc)) e, if_pos (c := t = sT s) (t := Q + 5) e]
              exact txo_x k7'
            · rw [if_neg (c := t = sT s) (t := (wa, wb, wc)) e, if_neg (c := t = sT s) (t := Q + 5) e]
              exact txo_x (txo_f (S := [5]) (ntx_d (by decide)) (fr_2 (by decide)) (txo_f (S := [10]) (ntx_d (by decide)) (fr_2 (by decide)) (txo_N k3 k4 (hT t (by omega)))))
          · rcases CA_f hca (n' 48 (by decide) (by decide) (by decide)) (n' 49 (by decide) (by decide) (by decide)) (n' 53 (by decide) (by decide) (by decide)) (n' 54 (by decide) (by decide) (by decide)) with z | ⟨R, C, D, z1, z⟩
            · exact Or.inl z
            · refine Or.inr ⟨R, C, D, Nat.lt_succ_of_lt z1, ?_⟩
              rw [tok_w, if_neg (by omega)]
              exact z
        · refine hm0 hb (fun x I' G' ga mb mT g6 g55 o => ?_)
          rw [hx] at o
          have hN := hb.1
          obtain ⟨b1, b2, b3, b4, b5, b6, b7, b8, b9, b10⟩ := hN
          have g0 : ∀ k, k = 3 ∨ k = 4 ∨ k = 7 ∨ k = 8 ∨ k = 12 ∨ (47 ≤ k ∧ k ≤ 50) → I' 55 k = I 55 k := fun k hk => g55 k (by omega) (by unfold FZ; simp; omega)
          refine wp_e e_155_6 (wp_t o (wp_e e_155_8 ?_))
          rw [g0 3 (by omega), b4, nI_1, u2_s]
          have v5 : ∀ k, k ≠ 3 → am_u2 I' 55 3 (nI (sT s + 1)) 55 k = I' 55 k := fun k hk => by rw [u2_k, if_neg hk]
          have va : ∀ a, a ≠ 55 → am_u2 I' 55 3 (nI (sT s + 1)) a = I' a := fun a ha => u2_a ha
          refine wp_r ⟨?_, _, G', rfl, ?_, fun a ha => ?_⟩
          · rw [n1, pk_sub (by omega), Nat.add_sub_cancel]
          · refine ⟨MN_l lks_t hb.1 (fun k hk => (v5 k (by omega)).trans (g0 k (by omega))) (fun a h1 h2 => (va a (by omega)).trans (ga a (by omega) (by omega) (by omega))) (u2_s _ _ _ _) (by rw [v5 6 (by decide)]; exact g6) rfl, fun t ht => ?_, MSh_l lks_t (fun q' hq' => ?_), MK_l lks_t ⟨?_, ?_⟩⟩
            · have ht : t < sT s + 1 := ht
              rw [tok_b, tok_n]
              have mv : ∀ {t bt n}, MB I' t bt n → MB (am_u2 I' 55 3 (nI (sT s + 1))) t bt n := fun {t bt n} hm => by
                obtain ⟨m1, m2, m3, m4⟩ := hm
                exact ⟨m1, m2, by rw [va 57 (by decide)]; exact m3, by rw [va 56 (by decide)]; exact m4⟩
              by_cases e : t = sT s
              · rw [if_pos e, if_pos e, e]
                exact mv mT
              · rw [if_neg e, if_neg e]
                exact mv (mb t (by omega))
            · rw [va 73 (by decide), va 74 (by decide), va 75 (by decide), va 76 (by decide), ga 73 (by decide) (by decide) (by decide), ga 74 (by decide) (by decide) (by decide), ga 75 (by decide) (by decide) (by decide), ga 76 (by decide) (by decide) (by decide)]
              exact hb.2.2.1 q' hq'
            · rw [v5 47 (by decide), g0 47 (by omega)]
              exact hb.2.2.2.1
            · rw [v5 47 (by decide), v5 48 (by decide), v5 49 (by decide), v5 50 (by decide), g0 47 (by omega), g0 48 (by omega), g0 49 (by omega), g0 50 (by omega), va 70 (by decide), va 71 (by decide), va 72 (by decide), ga 70 (by decide) (by decide) (by decide), ga 71 (by decide) (by decide) (by decide), ga 72 (by decide) (by decide) (by decide)]
              exact hb.2.2.2.2
          · rw [va a (by omega)]
            exact ga a (by omega) (by omega) (by omega)
