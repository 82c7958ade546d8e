/-! PURE, 21: clauses, and the reader's whole -/
/-- but for these cells, below N -/
def frN (N : Nat) (S : List Nat) (I I' : Nat → Nat → Int32) : Prop := ∀ a, a < N → a ∉ S → I' a = I a
theorem frN_of {N : Nat} {S : List Nat} {I I' : Nat → Nat → Int32} (h : fr S I I') : frN N S I I' := fun a _ ha => h a ha
theorem frN_t {N N' : Nat} {S : List Nat} {I I' I'' : Nat → Nat → Int32} (h : frN N S I I') (h2 : frN N' S I' I'') (hN : N ≤ N') : frN N S I I'' := fun a h1 ha => (h2 a (by omega) ha).trans (h a h1 ha)
/-- one row more behind the cells -/
theorem TK_fN {I I' : Nat → Nat → Int32} {bt : Nat → Nat} {n s N : Nat} (h : TK I bt n s) (hf : frN N FR I I') (hN : 77 ≤ N) : TK I' bt n s := by
  obtain ⟨h1, h2, h3, h4⟩ := h
  exact ⟨by rw [hf 10 (by omega) (by decide)]; exact h1, h2, fun h hh => by rw [hf 12 (by omega) (by decide), hf 13 (by omega) (by decide)]; exact h3 h hh, h4⟩
theorem Rf_f {I I' : Nat → Nat → Int32} {bt : Nat → Nat} {n s q hh ll : Nat} (h : Rf I bt n s q hh ll) (hf : I' 14 = I 14) : Rf I' bt n s q hh ll := by
  unfold Rf at h ⊢
  rw [hf]
  exact h
theorem Rd_f {I I' : Nat → Nat → Int32} {s h len : Nat} (hr : Rd I s h len) (hf : I' 14 = I 14) : Rd I' s h len := by
  unfold Rd at hr ⊢
  rw [hf]
  exact hr
/-- the reader stands at token h: with no fault, or at one -/
def Rs (I : Nat → Nat → Int32) (bt : Nat → Nat) (n s : Nat) (st : Nat × Bool) : Prop := if st.2 = true then ∃ h len, tq bt n h = st.1 ∧ Rd I s h len else Rf I bt n s st.1 0 1000
section B21
variable {d L : Nat} {ext : List (Nat × Nat)} {tx : Nat → Nat} {tt : Nat} {fe : Nat → Nat → Option Nat} {I : Nat → Nat → Int32} {G : Nat → Nat → Int64}
/-- what a clause leaves: a new row of m numbers -/
def Co (L : Nat) (ext : List (Nat × Nat)) (tx : Nat → Nat) (tt : Nat) (fe : Nat → Nat → Option Nat) (I : Nat → Nat → Int32) (v : Option Value) (M : am_M) (P : (Nat → Nat → Int32) → Nat → Prop) : Prop := ∃ m I2 G2, v = some (.ref (77 + ext.length)) ∧ m ≤ 160 ∧ M = am_mem L (ext ++ [(20, m)]) tx tt (am_u1 fe (77 + ext.length) (fun _ => none)) I2 G2 ∧ frN (77 + ext.length) FR I I2 ∧ P I2 m
/-- the copy -/
theorem s_18c {m : Nat} {key : Int32} {P : (Nat → Nat → Int32) → Nat → Prop} {I0 : Nat → Nat → Int32} (hl : I 14 4 = nI m) (hm : m < 160) (f0 : fr FR I0 I) (hP : P (am_u1 I (77 + ext.length) (fun y => if y < m then I 15 y else 0)) m) : wp (am_R (d + 2) 18 3 (am_mem L ext tx tt fe I G) [some (Value.ref 14), some (Value.int key)] []) (fun v M => Co L ext tx tt fe I0 v M P) := by
  refine wp_e e_18_3 ?_
  rw [hl]
  refine wp_p (s_215 hm) (wp_e e_18_4 (wp_r ⟨m, _, _, rfl, by omega, rfl, fun a h1 h2 => ?_, hP⟩))
  rw [u1_a (by omega)]
  exact f0 a h2
theorem cpy_cod {I : Nat → Nat → Int32} {Q m : Nat} {w : List Int32} (h : codr I 15 0 w) (hm : w.length ≤ m) : codr (am_u1 I Q (fun y => if y < m then I 15 y else 0)) Q 0 w := by
  have key : ∀ (w : List Int32) (k : Nat), k + w.length ≤ m → codr I 15 k w → codr (am_u1 I Q (fun y => if y < m then I 15 y else 0)) Q k w := by
    intro w
    induction w with
    | nil => intro k _ _; trivial
    | cons c w ih =>
      intro k hk h
      have hk : k + (w.length + 1) ≤ m := hk
      refine ⟨?_, ih (k + 1) (by omega) h.2⟩
      rw [u1_s, if_pos (by omega)]
      exact h.1
  exact key w 0 (by omega) h
theorem s_18 {bt : Nat → Nat} {n s h : Nat} {key : Int32} (hn : n ≤ 160) (hd : 100 ≤ d) (ht : TK I bt n s) (r1 : I 14 1 = nI h) (r2 : I 14 2 = 0) (r5 : h ≤ s) (hk1 : ¬ key = -1) (hs : cd bt n (tq bt n h) = key → s < 160) : wp (am_R (d + 2) 18 0 (am_mem L ext tx tt fe I G) [some (Value.ref 14), some (Value.int key)] []) (fun v M => Co L ext tx tt fe I v M (fun I2 m => match clf (cd bt n) (adv bt n) key (tq bt n h) with
  | (q', some w) => ∃ h', tq bt n h' = q' ∧ h ≤ h' ∧ Rd I2 s h' w.length ∧ m = w.length ∧ codr I2 (77 + ext.length) 0 w
  | (q', none) => Rf I2 bt n s q' 0 1000)) := by
  have hsn := ht.2.1
  have h77 : (14 : Nat) ≠ 77 + ext.length := by omega
  have hr0 : Rd (am_u2 I 14 4 0) s h 0 := ⟨by rw [u2_k, if_neg (by decide)]; exact r1, by rw [u2_k, if_neg (by decide)]; exact r2, u2_s _ _ _ _, by omega, r5⟩
  have f0 : fr FR I (am_u2 I 14 4 0) := fr_2 (by decide)
  have ht0 := TK_f ht f0
  refine wp_e e_18_0 (wp_b (s_19 (d := d) ht0 hn hr0 hk1) ?_)
  rintro v M ⟨rfl, I1, rfl, f1, -, l1, hor⟩
  rw [u2_s] at l1
  have f01 := fr_t f0 f1
  have ht1 := TK_f ht f01
  unfold clf
  rcases hor with ⟨hc, hlt, hr1⟩ | ⟨hc, hf1⟩
  · rw [if_pos hc]
    have hs160 := hs hc
    refine wp_e e_18_1 (wp_b (s_20 hn 5 (by omega) 5 (by omega) (d + 1) (by omega) I1 (h + 1) 0 ht1 hr1) ?_)
    rintro v M ⟨rfl, I2, rfl, f2, o2⟩
    have f02 := fr_t f01 f2
    have ht2 := TK_f ht f02
    have eq1 : tq bt n (h + 1) = adv bt n (tq bt n h) := rfl
    rw [eq1] at o2
    revert o2
    cases Pf (cd bt n) (adv bt n) 5 5 (adv bt n (tq bt n h)) with
    | mk q' ow =>
      cases ow with
      | none =>
        intro hf
        have hf : Rf I2 bt n s q' (h + 1) 0 := hf
        refine wp_e e_18_2 (wp_b (s_19f (d := d) ht2 hn hf) ?_)
        rintro v M ⟨rfl, I3, rfl, f3, -, hf3⟩
        have hf3' := hf3
        obtain ⟨h', len', a1, a2, a3, a4, a5, a6, a7⟩ := hf3'
        refine s_18c a5 (by omega) (fr_t f02 f3) ?_
        exact Rf_f (Rf_w hf3 (by omega)) (u1_a h77)
      | some w =>
        rintro ⟨h', a1, a2, a3, a4, a5, a6⟩
        rw [Nat.zero_add] at a2
        refine wp_e e_18_2 (wp_b (s_19 (d := d) ht2 hn a2 (by decide)) ?_)
        rintro v M ⟨rfl, I3, rfl, f3, g3, l3, hor3⟩
        rw [a2.2.2.1] at l3
        have hle := a2.2.2.2.2
        rw [a1] at hor3
        show wp _ (fun v M => Co L ext tx tt fe I v M (fun I2 m => match (if cd bt n q' = -59 then (adv bt n q', some w) else (q', none) : PR) with
          | (q', some w) => ∃ h', tq bt n h' = q' ∧ h ≤ h' ∧ Rd I2 s h' w.length ∧ m = w.length ∧ codr I2 (77 + ext.length) 0 w
          | (q', none) => Rf I2 bt n s q' 0 1000))
        refine s_18c (m := w.length) l3 (by omega) (fr_t f02 f3) ?_
        rcases hor3 with ⟨hc3, hlt3, hr3⟩ | ⟨hc3, hf3⟩
        · rw [if_pos hc3]
          exact ⟨h' + 1, by show adv bt n (tq bt n h') = _; rw [a1], by omega, Rd_f hr3 (u1_a h77), rfl, cpy_cod (codr_f g3 _ _ a4) (Nat.le_refl _)⟩
        · rw [if_neg hc3]
          exact Rf_f (Rf_w hf3 (by omega)) (u1_a h77)
  · rw [if_neg hc]
    refine wp_e e_18_1 (wp_p (s_20f hf1) (wp_e e_18_2 (wp_b (s_19f (d := d) ht1 hn hf1) ?_)))
    rintro v M ⟨rfl, I3, rfl, f3, l3, hf3⟩
    refine s_18c (m := 0) (l3.trans l1) (by omega) (fr_t f01 f3) ?_
    exact Rf_f (Rf_w hf3 (by omega)) (u1_a h77)
/-- a clause behind a fault -/
theorem s_18f {bt : Nat → Nat} {n s q : Nat} {key : Int32} (hn : n ≤ 160) (ht : TK I bt n s) (hf : Rf I bt n s q 0 1000) : wp (am_R (d + 2) 18 0 (am_mem L ext tx tt fe I G) [some (Value.ref 14), some (Value.int key)] []) (fun v M => Co L ext tx tt fe I v M (fun I2 m => Rf I2 bt n s q 0 1000)) := by
  have hsn := ht.2.1
  have h77 : (14 : Nat) ≠ 77 + ext.length := by omega
  obtain ⟨h, len, r1, r2, r3, r4, r5, r6, r7⟩ := hf
  have f0 : fr FR I (am_u2 I 14 4 0) := fr_2 (by decide)
  have hf0 : Rf (am_u2 I 14 4 0) bt n s q 0 1000 := ⟨h, 0, by rw [u2_k, if_neg (by decide)]; exact r1, r2, r3, by rw [u2_k, if_neg (by decide)]; exact r4, u2_s _ _ _ _, by omega, by omega⟩
  refine wp_e e_18_0 (wp_b (s_19f (d := d) (TK_f ht f0) hn hf0) ?_)
  rintro v M ⟨rfl, I1, rfl, f1, l1, hf1⟩
  refine wp_e e_18_1 (wp_p (s_20f hf1) (wp_e e_18_2 (wp_b (s_19f (d := d) (TK_f ht (fr_t f0 f1)) hn hf1) ?_)))
  rintro v M ⟨rfl, I3, rfl, f3, l3, hf3⟩
  refine s_18c (m := 0) (l3.trans (l1.trans (u2_s _ _ _ _))) (by omega) (fr_t f0 (fr_t f1 f3)) ?_
  exact Rf_f hf3 (u1_a h77)
/-- a text that begins as it should has fewer tokens than bytes -/
theorem tk_few {bt : Nat → Nat} {n s : Nat} (ht : TK I bt n s) (hn : n ≤ 160) (hc : cd bt n (tq bt n 0) = -6) : s < 160 := by
  obtain ⟨h1, h2, h3, h4, h5⟩ := ht
  have k6 : kc 6 = -6 := by decide
  rw [← k6] at hc
  obtain ⟨g1, g2, g3⟩ := (cd_w (w := 6) (by omega)).mp hc
  have g4 : te bt n (tq bt n 0) - tq bt n 0 = 6 := (ltr_eq.mp g3).1
  have g5 : te bt n (tq bt n 0) ≤ tq bt n 1 := sk_ge _ _ _
  by_cases hs : s = 0
  · omega
  · have g6 := tq_up (bt := bt) (n := n) (s - 1) 1
    rw [show 1 + (s - 1) = s by omega, h4] at g6
    omega
end B21
