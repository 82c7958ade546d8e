/-! PURE, 12: the reader -/
def lvo (c : Int32) : Int32 := if c = -61 then 2 else if c = -60 then 2 else if c = -45 then 3 else if c = -43 then 3 else if c = -42 then 4 else if c = -10 then 1 else if c = -9 then 0 else -1
abbrev PR : Type := Nat × Option (List Int32)
def lpf (c : Nat → Int32) (ad : Nat → Nat) (sub : Nat → PR) (l : Int32) : Nat → Nat → List Int32 → PR
  | 0, q, w => (q, some w)
  | f + 1, q, w => if lvo (c q) = l then (match sub (ad q) with
      | (q', some w') => lpf c ad sub l f q' (w ++ w' ++ [c q])
      | (q', none) => (q', none)) else (q, some w)
def bnf (c : Nat → Int32) (ad : Nat → Nat) (sub : Nat → PR) (l : Int32) (most q : Nat) : PR := match sub q with
  | (q', some w) => lpf c ad sub l most q' w
  | (q', none) => (q', none)
def onf (c : Nat → Int32) (ad : Nat → Nat) (inn : Nat → Nat → PR) (q : Nat) : PR :=
  if c q < 0 then
    (if c q = -45 then (match inn 0 q with
      | (q', some w) => (q', some (w ++ [-3]))
      | (q', none) => (q', none))
    else if c q = -40 then (match inn 5 q with
      | (q', some w) => if c q' = -41 then (ad q', some w) else (q', none)
      | (q', none) => (q', none))
    else (q, none))
  else (ad q, some [c q])
/-- a part, j levels above the closest -/
def lvf (c : Nat → Int32) (ad : Nat → Nat) (inn : Nat → Nat → PR) : Nat → Nat → PR
  | 0, q => onf c ad inn q
  | j + 1, q => if j = 2 ∧ c q = -11 then (match inn 3 q with
      | (q', some w) => (q', some (w ++ [-11]))
      | (q', none) => (q', none))
    else bnf c ad (lvf c ad inn j) (nI (4 - j)) (if j = 2 then 1 else 160) q
/-- k more may be open -/
def Pf (c : Nat → Int32) (ad : Nat → Nat) : Nat → Nat → Nat → PR
  | 0, j, q => lvf c ad (fun _ q => (q, none)) j q
  | k + 1, j, q => lvf c ad (fun j' q => Pf c ad k j' (ad q)) j q
def innf (c : Nat → Int32) (ad : Nat → Nat) : Nat → Nat → Nat → PR
  | 0, _, q => (q, none)
  | k + 1, j, q => Pf c ad k j (ad q)
theorem Pf_eq (c : Nat → Int32) (ad : Nat → Nat) (k j q : Nat) : Pf c ad k j q = lvf c ad (innf c ad k) j q := by
  cases k with
  | zero => rfl
  | succ k => rfl
theorem codr_a {I : Nat → Nat → Int32} {r : Nat} : ∀ (a b : List Int32) (k : Nat), codr I r k a → codr I r (k + a.length) b → codr I r k (a ++ b)
  | [], b, k, _, h => h
  | x :: a, b, k, ha, hb => ⟨ha.1, codr_a a b (k + 1) ha.2 (by rw [show k + 1 + a.length = k + (x :: a).length by simp; omega]; exact hb)⟩
theorem codr_k {I I' : Nat → Nat → Int32} {r : Nat} : ∀ (w : List Int32) (k : Nat), codr I r k w → (∀ i, k ≤ i → i < k + w.length → I' r i = I r i) → codr I' r k w
  | [], _, _, _ => trivial
  | x :: w, k, h, hi => ⟨by rw [hi k (Nat.le_refl _) (by simp)]; exact h.1, codr_k w (k + 1) h.2 (fun i h1 h2 => hi i (by omega) (by simp at h2 ⊢; omega))⟩
def FR : List Nat := [14, 15]
section B12
variable {d L : Nat} {ext : List (Nat × Nat)} {tx : Nat → Nat} {tt : Nat} {fe : Nat → Nat → Option Nat} {I : Nat → Nat → Int32} {G : Nat → Nat → Int64}
/-- the reader at the h-th token, with no fault -/
def Rd (I : Nat → Nat → Int32) (s h len : Nat) : Prop := I 14 1 = nI h ∧ I 14 2 = 0 ∧ I 14 4 = nI len ∧ len ≤ h ∧ h ≤ s
/-- the reader at a fault -/
def Rf (I : Nat → Nat → Int32) (bt : Nat → Nat) (n s q hh ll : Nat) : Prop := ∃ h len, I 14 1 = nI h ∧ tq bt n h = q ∧ h ≤ s ∧ I 14 2 = 1 ∧ I 14 4 = nI len ∧ len ≤ 160 ∧ len + hh ≤ ll + h + 1
theorem Rf_w {I : Nat → Nat → Int32} {bt : Nat → Nat} {n s q hh ll hh' ll' : Nat} (h : Rf I bt n s q hh ll) (hw : hh' + ll ≤ hh + ll') : Rf I bt n s q hh' ll' := by
  obtain ⟨h, len, r1, r2, r3, r4, r5, r6, r7⟩ := h
  exact ⟨h, len, r1, r2, r3, r4, r5, r6, by omega⟩
/-- what a part leaves -/
def Ro (I I' : Nat → Nat → Int32) (bt : Nat → Nat) (n s h len : Nat) (r : PR) : Prop := fr FR I I' ∧ (match r with
  | (q', some w) => ∃ h', tq bt n h' = q' ∧ Rd I' s h' (len + w.length) ∧ (∀ i, i < len → I' 15 i = I 15 i) ∧ codr I' 15 len w ∧ h + w.length ≤ h' ∧ h < h'
  | (q', none) => Rf I' bt n s q' h len)
theorem TK_f {I' : Nat → Nat → Int32} {bt : Nat → Nat} {n s : Nat} (h : TK I bt n s) (hf : fr FR I I') : TK I' bt n s := by
  obtain ⟨h1, h2, h3, h4⟩ := h
  exact ⟨by rw [hf 10 (by decide)]; exact h1, h2, fun h hh => by rw [hf 12 (by decide), hf 13 (by decide)]; exact h3 h hh, h4⟩
theorem s_16 {bt : Nat → Nat} {n s h : Nat} (ht : TK I bt n s) (hn : n ≤ 160) (hh : I 14 1 = nI h) (hs : h ≤ s) : (am_R (d) 16 0 (am_mem L ext tx tt fe I G) [some (Value.ref 14)] []) = some (some (Value.int (cd bt n (tq bt n h))), (am_mem L ext tx tt fe I G)) := by
  obtain ⟨h1, h2, h3, h4⟩ := ht
  rw [e_16_0, hh, ib (n := h) (N := 161) (by omega) (by decide)]
  simp only [Bool.and_true, cond_true]
  rw [nI_clamp (by omega), (h3 h hs).1]
theorem tk_lt {bt : Nat → Nat} {n s h : Nat} (ht : TK I bt n s) (hs : h ≤ s) (hc : ¬ cd bt n (tq bt n h) = -1) : h < s := by
  by_cases e : h = s
  · exfalso
    apply hc
    rw [e, ht.2.2.2.1]
    unfold cd
    rw [if_neg (Nat.lt_irrefl _)]
  · omega
theorem s_17 {bt : Nat → Nat} {n s h len : Nat} (ht : TK I bt n s) (hn : n ≤ 160) (hr : Rd I s h len) (hs : h < s) : (am_R (d) 17 0 (am_mem L ext tx tt fe I G) [some (Value.ref 14)] []) = some (none, (am_mem L ext tx tt fe (am_u2 I 14 1 (nI (h + 1))) G)) := by
  obtain ⟨r1, r2, r3, r4, r5⟩ := hr
  have := ht.2.1
  rw [e_17_0, r2, if_pos rfl, e_17_1, r1, ht.1, if_pos (nI_lt hs (by omega)), e_17_2, e_17_3, r1, nI_1]
theorem s_17f (hr : I 14 2 = 1) : (am_R (d) 17 0 (am_mem L ext tx tt fe I G) [some (Value.ref 14)] []) = some (none, (am_mem L ext tx tt fe I G)) := by
  rw [e_17_0, hr, if_neg (by decide), e_17_3]
theorem Rd_s {s h len : Nat} (hr : Rd I s h len) (hs : h < s) : Rd (am_u2 I 14 1 (nI (h + 1))) s (h + 1) len := by
  obtain ⟨r1, r2, r3, r4, r5⟩ := hr
  exact ⟨u2_s _ _ _ _, by rw [u2_k, if_neg (by decide)]; exact r2, by rw [u2_k, if_neg (by decide)]; exact r3, by omega, by omega⟩
theorem s_23 {len : Nat} {c : Int32} (hl : I 14 4 = nI len) (h160 : len < 160) : (am_R (d) 23 0 (am_mem L ext tx tt fe I G) [some (Value.ref 14), some (Value.int c)] []) = some (none, (am_mem L ext tx tt fe (am_u2 (am_u2 I 15 len c) 14 4 (nI (len + 1))) G)) := by
  rw [e_23_0, hl, if_pos (show nI len < (160 : Int32) from nI_lt (b := 160) h160 (by omega)), e_23_1, hl, ib (n := len) (N := 160) h160 (by decide)]
  simp only [Bool.and_true, cond_true]
  rw [nI_clamp (by omega), u2_a (show (14 : Nat) ≠ 15 by decide), hl, nI_1, e_23_2]
theorem s_23f {len : Nat} {c : Int32} (hl : I 14 4 = nI len) (h160 : len ≤ 160) : ∃ I' len', (am_R (d) 23 0 (am_mem L ext tx tt fe I G) [some (Value.ref 14), some (Value.int c)] []) = some (none, (am_mem L ext tx tt fe (I') G)) ∧ fr FR I I' ∧ I' 14 1 = I 14 1 ∧ I' 14 2 = I 14 2 ∧ I' 14 4 = nI len' ∧ len' ≤ 160 ∧ len' ≤ len + 1 := by
  by_cases h : len < 160
  · exact ⟨_, len + 1, s_23 hl h, fr_t (fr_2 (by decide)) (fr_2 (by decide)), by rw [u2_k, if_neg (by decide), u2_a (by decide)], by rw [u2_k, if_neg (by decide), u2_a (by decide)], u2_s _ _ _ _, by omega, by omega⟩
  · refine ⟨I, len, ?_, fr_r _ _, rfl, rfl, hl, h160, by omega⟩
    rw [e_23_0, hl, if_neg (show ¬ nI len < (160 : Int32) from nI_nlt (b := 160) (by omega) (by omega)), e_23_2]
theorem s_24 {c : Int32} : (am_R (d) 24 0 (am_mem L ext tx tt fe I G) [some (Value.int c)] []) = some (some (Value.int (lvo c)), (am_mem L ext tx tt fe I G)) := by
  rw [e_24_0]
  unfold lvo
  by_cases h1 : c = -61
  · rw [if_pos h1, if_pos h1, e_24_3]
  rw [if_neg h1, if_neg h1]
  by_cases h2 : c = -60
  · rw [if_pos h2, if_pos h2, e_24_3]
  rw [if_neg h2, if_neg h2]
  by_cases h3 : c = -45
  · rw [if_pos h3, if_pos h3, e_24_4]
  rw [if_neg h3, if_neg h3]
  by_cases h4 : c = -43
  · rw [if_pos h4, if_pos h4, e_24_4]
  rw [if_neg h4, if_neg h4]
  by_cases h5 : c = -42
  · rw [if_pos h5, if_pos h5, e_24_5]
  rw [if_neg h5, if_neg h5]
  by_cases h6 : c = -10
  · rw [if_pos h6, if_pos h6, e_24_2]
  rw [if_neg h6, if_neg h6]
  by_cases h7 : c = -9
  · rw [if_pos h7, if_pos h7, e_24_1]
  rw [if_neg h7, if_neg h7, e_24_6]
theorem Rf_of {bt : Nat → Nat} {n s h len : Nat} (ht : TK I bt n s) (hn : n ≤ 160) (hr : Rd I s h len) : Rf (am_u2 I 14 2 1) bt n s (tq bt n h) (h + 1) len := by
  obtain ⟨r1, r2, r3, r4, r5⟩ := hr
  have := ht.2.1
  exact ⟨h, len, by rw [u2_k, if_neg (by decide)]; exact r1, rfl, r5, u2_s _ _ _ _, by rw [u2_k, if_neg (by decide)]; exact r3, by omega, by omega⟩
/-- demand, with no fault so far -/
theorem s_19 {bt : Nat → Nat} {n s h len : Nat} {c : Int32} (ht : TK I bt n s) (hn : n ≤ 160) (hr : Rd I s h len) (hc1 : ¬ c = -1) : wp (am_R (d + 1) 19 0 (am_mem L ext tx tt fe I G) [some (Value.ref 14), some (Value.int c)] []) (fun v M => v = none ∧ ∃ I', M = (am_mem L ext tx tt fe (I') G) ∧ fr FR I I' ∧ I' 15 = I 15 ∧ I' 14 4 = I 14 4 ∧ ((cd bt n (tq bt n h) = c ∧ h < s ∧ Rd I' s (h + 1) len) ∨ (¬ cd bt n (tq bt n h) = c ∧ Rf I' bt n s (tq bt n h) (h + 1) len))) := by
  refine wp_e e_19_0 (wp_p (s_16 ht hn hr.1 hr.2.2.2.2) (wp_e e_19_1 ?_))
  by_cases hc : cd bt n (tq bt n h) = c
  · have hlt : h < s := tk_lt ht hr.2.2.2.2 (by rw [hc]; exact hc1)
    exact wp_t hc (wp_e e_19_3 (wp_p (s_17 ht hn hr hlt) (wp_e e_19_4 (wp_r ⟨rfl, _, rfl, fr_2 (by decide), u2_a (by decide), by rw [u2_k, if_neg (by decide)], Or.inl ⟨hc, hlt, Rd_s hr hlt⟩⟩))))
  · exact wp_f hc (wp_e e_19_2 (wp_e e_19_3 (wp_p (s_17f (u2_s _ _ _ _)) (wp_e e_19_4 (wp_r ⟨rfl, _, rfl, fr_2 (by decide), u2_a (by decide), by rw [u2_k, if_neg (by decide)], Or.inr ⟨hc, Rf_of ht hn hr⟩⟩)))))
/-- demand, behind a fault -/
theorem s_19f {bt : Nat → Nat} {n s q hh ll : Nat} {c : Int32} (ht : TK I bt n s) (hn : n ≤ 160) (hr : Rf I bt n s q hh ll) : wp (am_R (d + 1) 19 0 (am_mem L ext tx tt fe I G) [some (Value.ref 14), some (Value.int c)] []) (fun v M => v = none ∧ ∃ I', M = (am_mem L ext tx tt fe (I') G) ∧ fr FR I I' ∧ I' 14 4 = I 14 4 ∧ Rf I' bt n s q hh ll) := by
  obtain ⟨h, len, r1, r2, r3, r4, r5, r6, r7⟩ := hr
  refine wp_e e_19_0 (wp_p (s_16 ht hn r1 r3) (wp_e e_19_1 ?_))
  by_cases hc : cd bt n (tq bt n h) = c
  · exact wp_t hc (wp_e e_19_3 (wp_p (s_17f r4) (wp_e e_19_4 (wp_r ⟨rfl, I, rfl, fr_r _ _, rfl, h, len, r1, r2, r3, r4, r5, r6, r7⟩))))
  · exact wp_f hc (wp_e e_19_2 (wp_e e_19_3 (wp_p (s_17f (u2_s _ _ _ _)) (wp_e e_19_4 (wp_r ⟨rfl, _, rfl, fr_2 (by decide), by rw [u2_k, if_neg (by decide)], h, len, by rw [u2_k, if_neg (by decide)]; exact r1, r2, r3, u2_s _ _ _ _, by rw [u2_k, if_neg (by decide)]; exact r5, r6, r7⟩)))))
theorem s_20f {bt : Nat → Nat} {n s q hh ll : Nat} {l o : Int32} (hr : Rf I bt n s q hh ll) : (am_R (d) 20 0 (am_mem L ext tx tt fe I G) [some (Value.ref 14), some (Value.int l), some (Value.int o), none, none, none] []) = some (none, (am_mem L ext tx tt fe I G)) := by
  obtain ⟨h, len, r1, r2, r3, r4, r5, r6, r7⟩ := hr
  rw [e_20_0, r4, if_neg (by decide), e_20_1]
/-- a part's contract -/
def PT (L : Nat) (ext : List (Nat × Nat)) (tx : Nat → Nat) (tt : Nat) (fe : Nat → Nat → Option Nat) (G : Nat → Nat → Int64) (bt : Nat → Nat) (n s k j : Nat) : Prop := ∀ (d : Nat), 10 * k + j + 12 ≤ d → ∀ (I : Nat → Nat → Int32) (h len : Nat), TK I bt n s → Rd I s h len → wp (am_R (d) 20 0 (am_mem L ext tx tt fe I G) [some (Value.ref 14), some (Value.int (nI (5 - j))), some (Value.int (nI (5 - k))), none, none, none] []) (fun v M => v = none ∧ ∃ I', M = (am_mem L ext tx tt fe (I') G) ∧ Ro I I' bt n s h len (Pf (cd bt n) (adv bt n) k j (tq bt n h)))
/-- 'inside', of a part's contract -/
theorem s_22 {bt : Nat → Nat} {n s k j : Nat} (hn : n ≤ 160) (hj : j ≤ 5) (hk : k ≤ 5) (ih : ∀ k', k = k' + 1 → PT L ext tx tt fe G bt n s k' j) (hd : 10 * k + 9 ≤ d) {h len : Nat} (ht : TK I bt n s) (hr : Rd I s h len) (hs : h < s) : wp (am_R (d) 22 0 (am_mem L ext tx tt fe I G) [some (Value.ref 14), some (Value.int (nI (5 - j))), some (Value.int (nI (5 - k)))] []) (fun v M => v = none ∧ ∃ I', M = (am_mem L ext tx tt fe (I') G) ∧ fr FR I I' ∧ (match innf (cd bt n) (adv bt n) k j (tq bt n h) with
  | (q', some w) => ∃ h', tq bt n h' = q' ∧ Rd I' s h' (len + w.length) ∧ (∀ i, i < len → I' 15 i = I 15 i) ∧ codr I' 15 len w ∧ h + w.length + 1 ≤ h'
  | (q', none) => Rf I' bt n s q' (h + 1) len)) := by
  refine wp_e e_22_0 ?_
  cases k with
  | zero =>
    refine wp_f (by decide) (wp_e e_22_1 (wp_r ⟨rfl, _, rfl, fr_2 (by decide), ?_⟩))
    exact Rf_of ht hn hr
  | succ k =>
    refine wp_t (show nI (5 - (k + 1)) < (5 : Int32) from nI_lt (b := 5) (by omega) (by omega)) ?_
    obtain ⟨d', rfl⟩ : ∃ d', d = d' + 1 := ⟨d - 1, by omega⟩
    refine wp_e e_22_2 (wp_p (s_17 ht hn hr hs) (wp_e e_22_3 ?_))
    have f1 : fr FR I (am_u2 I 14 1 (nI (h + 1))) := fr_2 (by decide)
    rw [nI_1, show 5 - (k + 1) + 1 = 5 - k by omega]
    refine wp_b (ih k rfl d' (by omega) _ (h + 1) len (TK_f ht f1) (Rd_s hr hs)) ?_
    rintro v M ⟨rfl, I2, rfl, f2, o2⟩
    refine wp_e e_22_4 (wp_r ⟨rfl, I2, rfl, fr_t f1 f2, ?_⟩)
    show (match Pf (cd bt n) (adv bt n) k j (tq bt n (h + 1)) with
      | (q', some w) => ∃ h', tq bt n h' = q' ∧ Rd I2 s h' (len + w.length) ∧ (∀ i, i < len → I2 15 i = I 15 i) ∧ codr I2 15 len w ∧ h + w.length + 1 ≤ h'
      | (q', none) => Rf I2 bt n s q' (h + 1) len)
    revert o2
    cases Pf (cd bt n) (adv bt n) k j (tq bt n (h + 1)) with
    | mk q' ow =>
      cases ow with
      | none => exact fun h => h
      | some w =>
        rintro ⟨h', a1, a2, a3, a4, a5, a6⟩
        exact ⟨h', a1, a2, fun i hi => (a3 i hi).trans (by rw [u2_a (by decide)]), a4, by omega⟩
theorem s_21 {bt : Nat → Nat} {n s k : Nat} (hn : n ≤ 160) (hk : k ≤ 5) (ih : ∀ j, j ≤ 5 → ∀ k', k = k' + 1 → PT L ext tx tt fe G bt n s k' j) (hd : 10 * k + 9 ≤ d) {h len : Nat} (ht : TK I bt n s) (hr : Rd I s h len) : wp (am_R (d + 1) 21 0 (am_mem L ext tx tt fe I G) [some (Value.ref 14), some (Value.int (nI (5 - k))), none] []) (fun v M => v = none ∧ ∃ I', M = (am_mem L ext tx tt fe (I') G) ∧ Ro I I' bt n s h len (onf (cd bt n) (adv bt n) (innf (cd bt n) (adv bt n) k) (tq bt n h))) := by
  have hsn := ht.2.1
  obtain ⟨r1, r2, r3, r4, r5⟩ := hr
  have hr : Rd I s h len := ⟨r1, r2, r3, r4, r5⟩
  refine wp_e e_21_0 (wp_p (s_16 ht hn r1 r5) (wp_e e_21_1 ?_))
  unfold onf
  by_cases h0 : cd bt n (tq bt n h) < 0
  · refine wp_t h0 (wp_e e_21_5 ?_)
    rw [if_pos h0]
    by_cases h45 : cd bt n (tq bt n h) = -45
    · have hlt : h < s := tk_lt ht r5 (by rw [h45]; decide)
      refine wp_t h45 (wp_e e_21_6 (wp_b (s_22 (j := 0) hn (by omega) hk (ih 0 (by omega)) (by omega) ht hr hlt) ?_))
      rintro v M ⟨rfl, I2, rfl, f2, o2⟩
      rw [if_pos h45]
      revert o2
      cases innf (cd bt n) (adv bt n) k 0 (tq bt n h) with
      | mk q' ow =>
        cases ow with
        | none =>
          rintro ⟨h', len', a1, a2, a3, a4, a5, a6, a7⟩
          obtain ⟨I3, len3, e3, f3, b1, b2, b3, b4, b5⟩ := s_23f (d := d) (L := L) (ext := ext) (tx := tx) (tt := tt) (fe := fe) (G := G) (c := -3) a5 a6
          refine wp_e e_21_7 (wp_p e3 (wp_e e_21_8 (wp_e e_21_14 (wp_r ⟨rfl, I3, rfl, fr_t f2 f3, ?_⟩))))
          exact ⟨h', len3, by rw [b1]; exact a1, a2, a3, by rw [b2]; exact a4, b3, b4, by omega⟩
        | some w =>
          rintro ⟨h', a1, ⟨c1, c2, c3, c4, c5⟩, a3, a4, a5⟩
          refine wp_e e_21_7 (wp_p (s_23 c3 (by omega)) (wp_e e_21_8 (wp_e e_21_14 (wp_r ⟨rfl, _, rfl, fr_t f2 (fr_t (fr_2 (by decide)) (fr_2 (by decide))), ?_⟩))))
          refine ⟨h', a1, ⟨?_, ?_, ?_, ?_, c5⟩, fun i hi => ?_, ?_, ?_, by omega⟩
          · rw [u2_k, if_neg (by decide), u2_a (by decide)]; exact c1
          · rw [u2_k, if_neg (by decide), u2_a (by decide)]; exact c2
          · rw [u2_s, List.length_append]; rfl
          · rw [List.length_append]; show len + (w.length + 1) ≤ h'; omega
          · rw [u2_a (by decide), u2_k, if_neg (by omega)]; exact a3 i hi
          · refine codr_a w [-3] len (codr_k w len a4 (fun i h1 h2 => ?_)) ⟨?_, trivial⟩
            · rw [u2_a (by decide), u2_k, if_neg (by omega)]
            · rw [u2_a (by decide), u2_s]
          · rw [List.length_append]; show h + (w.length + 1) ≤ h'; omega
    refine wp_f h45 (wp_e e_21_9 ?_)
    rw [if_neg h45]
    by_cases h40 : cd bt n (tq bt n h) = -40
    · have hlt : h < s := tk_lt ht r5 (by rw [h40]; decide)
      refine wp_t h40 (wp_e e_21_10 (wp_b (s_22 (j := 5) hn (by omega) hk (ih 5 (by omega)) (by omega) ht hr hlt) ?_))
      rintro v M ⟨rfl, I2, rfl, f2, o2⟩
      obtain ⟨d', rfl⟩ : ∃ d', d = d' + 1 := ⟨d - 1, by omega⟩
      have ht2 := TK_f ht f2
      rw [if_pos h40]
      revert o2
      cases innf (cd bt n) (adv bt n) k 5 (tq bt n h) with
      | mk q' ow =>
        cases ow with
        | none =>
          intro hf
          refine wp_e e_21_11 (wp_b (s_19f ht2 hn hf) ?_)
          rintro v M ⟨rfl, I3, rfl, f3, -, g3⟩
          exact wp_e e_21_12 (wp_e e_21_14 (wp_r ⟨rfl, I3, rfl, fr_t f2 f3, Rf_w g3 (by omega)⟩))
        | some w =>
          rintro ⟨h', a1, c, a3, a4, a5⟩
          refine wp_e e_21_11 (wp_b (s_19 ht2 hn c (by decide)) ?_)
          rintro v M ⟨rfl, I3, rfl, f3, g3, -, g4⟩
          refine wp_e e_21_12 (wp_e e_21_14 (wp_r ⟨rfl, I3, rfl, fr_t f2 f3, ?_⟩))
          rw [a1] at g4
          rcases g4 with ⟨g5, g6, g7⟩ | ⟨g5, g6⟩
          · show (match (if cd bt n q' = -41 then (adv bt n q', some w) else (q', none) : PR) with
              | (q', some w) => ∃ h', tq bt n h' = q' ∧ Rd I3 s h' (len + w.length) ∧ (∀ i, i < len → I3 15 i = I 15 i) ∧ codr I3 15 len w ∧ h + w.length ≤ h' ∧ h < h'
              | (q', none) => Rf I3 bt n s q' h len)
            rw [if_pos g5]
            exact ⟨h' + 1, by show adv bt n (tq bt n h') = _; rw [a1], g7, fun i hi => by rw [g3]; exact a3 i hi, codr_f g3 _ _ a4, by omega, by omega⟩
          · show (match (if cd bt n q' = -41 then (adv bt n q', some w) else (q', none) : PR) with
              | (q', some w) => ∃ h', tq bt n h' = q' ∧ Rd I3 s h' (len + w.length) ∧ (∀ i, i < len → I3 15 i = I 15 i) ∧ codr I3 15 len w ∧ h + w.length ≤ h' ∧ h < h'
              | (q', none) => Rf I3 bt n s q' h len)
            rw [if_neg g5]
            exact Rf_w g6 (by omega)
    refine wp_f h40 (wp_e e_21_13 ?_)
    rw [if_neg h40]
    exact wp_e e_21_14 (wp_r ⟨rfl, _, rfl, fr_2 (by decide), Rf_w (Rf_of ht hn hr) (by omega)⟩)
  · have hlt : h < s := tk_lt ht r5 (fun e => h0 (by rw [e]; decide))
    have f1 : fr FR I (am_u2 (am_u2 I 15 len (cd bt n (tq bt n h))) 14 4 (nI (len + 1))) := fr_t (fr_2 (by decide)) (fr_2 (by decide))
    have hr1 : Rd (am_u2 (am_u2 I 15 len (cd bt n (tq bt n h))) 14 4 (nI (len + 1))) s h len → True := fun _ => trivial
    have e17 : am_R d 17 0 (am_mem L ext tx tt fe (am_u2 (am_u2 I 15 len (cd bt n (tq bt n h))) 14 4 (nI (len + 1))) G) [some (Value.ref 14)] [] = some (none, (am_mem L ext tx tt fe (am_u2 (am_u2 (am_u2 I 15 len (cd bt n (tq bt n h))) 14 4 (nI (len + 1))) 14 1 (nI (h + 1))) G)) := by
      have u1 : (am_u2 (am_u2 I 15 len (cd bt n (tq bt n h))) 14 4 (nI (len + 1))) 14 2 = 0 := by rw [u2_k, if_neg (by decide), u2_a (by decide)]; exact r2
      have u2 : (am_u2 (am_u2 I 15 len (cd bt n (tq bt n h))) 14 4 (nI (len + 1))) 14 1 = nI h := by rw [u2_k, if_neg (by decide), u2_a (by decide)]; exact r1
      have u3 : (am_u2 (am_u2 I 15 len (cd bt n (tq bt n h))) 14 4 (nI (len + 1))) 10 4 = nI s := by rw [u2_a (by decide), u2_a (by decide)]; exact ht.1
      rw [e_17_0, u1, if_pos rfl, e_17_1, u2, u3, if_pos (nI_lt hlt (by omega)), e_17_2, e_17_3, u2, nI_1]
    refine wp_f h0 (wp_e e_21_2 ?_)
    rw [if_neg h0]
    refine wp_p (s_23 r3 (by omega)) (wp_e e_21_3 (wp_p e17 (wp_e e_21_4 (wp_e e_21_14 (wp_r ⟨rfl, _, rfl, fr_t f1 (fr_2 (by decide)), ?_⟩)))))
    refine ⟨h + 1, rfl, ⟨u2_s _ _ _ _, ?_, ?_, by show len + 1 ≤ h + 1; omega, by omega⟩, fun i hi => ?_, ⟨?_, trivial⟩, by show h + 1 ≤ h + 1; omega, by omega⟩
    · rw [u2_k, if_neg (by decide), u2_k, if_neg (by decide), u2_a (by decide)]; exact r2
    · rw [u2_k, if_neg (by decide), u2_s]; rfl
    · rw [u2_a (by decide), u2_a (by decide), u2_k, if_neg (by omega)]
    · rw [u2_a (by decide), u2_a (by decide), u2_s]
/-- the loop of a part -/
theorem s_20l {bt : Nat → Nat} {n s k j most : Nat} {sub : Nat → PR} (hn : n ≤ 160) (hj : j ≤ 4) (hm : most ≤ 160) (hsub : ∀ (d : Nat), 10 * k + j + 12 ≤ d → ∀ (I : Nat → Nat → Int32) (h len : Nat), TK I bt n s → Rd I s h len → wp (am_R (d) 20 0 (am_mem L ext tx tt fe I G) [some (Value.ref 14), some (Value.int (nI (5 - j))), some (Value.int (nI (5 - k))), none, none, none] []) (fun v M => v = none ∧ ∃ I', M = (am_mem L ext tx tt fe (I') G) ∧ Ro I I' bt n s h len (sub (tq bt n h)))) (hd : 10 * k + j + 12 ≤ d) {h0 len : Nat} (I0 : Nat → Nat → Int32) : ∀ f c : Nat, c + f = most → ∀ (I : Nat → Nat → Int32) (h : Nat) (w : List Int32), fr FR I0 I → TK I bt n s → Rd I s h (len + w.length) → (∀ i, i < len → I 15 i = I0 15 i) → codr I 15 len w → h0 + w.length ≤ h → h0 < h → wp (am_R (d + 1) 20 16 (am_mem L ext tx tt fe I G) [some (Value.ref 14), some (Value.int (nI (4 - j))), some (Value.int (nI (5 - k))), some (Value.int (nI most)), some (Value.int (nI c)), none] []) (fun v M => v = none ∧ ∃ I', M = (am_mem L ext tx tt fe (I') G) ∧ Ro I0 I' bt n s h0 len (lpf (cd bt n) (adv bt n) sub (nI (4 - j)) f (tq bt n h) w)) := by
  intro f
  induction f with
  | zero =>
    intro c hc I h w f0 ht hr hi hw hl hl2
    have e : c = most := by omega
    subst e
    exact wp_e e_20_16 (wp_f (nI_nlt (Nat.le_refl _) (by omega)) (wp_e e_20_26 (wp_r ⟨rfl, I, rfl, f0, h, rfl, hr, hi, hw, hl, hl2⟩)))
  | succ f ih =>
    intro c hc I h w f0 ht hr hi hw hl hl2
    have hsn := ht.2.1
    obtain ⟨r1, r2, r3, r4, r5⟩ := hr
    have hr : Rd I s h (len + w.length) := ⟨r1, r2, r3, r4, r5⟩
    refine wp_e e_20_16 (wp_t (nI_lt (by omega) (by omega)) (wp_e e_20_17 (wp_t r2 (wp_e e_20_18 (wp_p (s_16 ht hn r1 r5) (wp_e e_20_19 (wp_p s_24 (wp_e e_20_20 ?_))))))))
    have el : lpf (cd bt n) (adv bt n) sub (nI (4 - j)) (f + 1) (tq bt n h) w = if lvo (cd bt n (tq bt n h)) = nI (4 - j) then (match sub (adv bt n (tq bt n h)) with
      | (q', some w') => lpf (cd bt n) (adv bt n) sub (nI (4 - j)) f q' (w ++ w' ++ [cd bt n (tq bt n h)])
      | (q', none) => (q', none)) else (tq bt n h, some w) := rfl
    rw [el]
    by_cases hv : lvo (cd bt n (tq bt n h)) = nI (4 - j)
    · have hlt : h < s := tk_lt ht r5 (fun e => by
        rw [e] at hv
        have h1 : nI (4 - j) = -1 := hv.symm.trans (by decide)
        exact absurd (show nI (4 - j) < 0 by rw [h1]; decide) (nI_pos (by omega)))
      refine wp_t hv ?_
      rw [if_pos hv]
      refine (wp_e e_20_21 (wp_p (s_16 ht hn r1 r5) (wp_e e_20_22 (wp_p (s_17 ht hn hr hlt) (wp_e e_20_23 ?_)))))
      have f1 : fr FR I (am_u2 I 14 1 (nI (h + 1))) := fr_2 (by decide)
      have ht1 := TK_f ht f1
      rw [nI_1, show 4 - j + 1 = 5 - j by omega]
      refine wp_b (hsub d hd _ (h + 1) _ ht1 (Rd_s hr hlt)) ?_
      rintro v M ⟨rfl, I2, rfl, f2, o2⟩
      have eq1 : tq bt n (h + 1) = adv bt n (tq bt n h) := rfl
      rw [eq1] at o2
      revert o2
      cases sub (adv bt n (tq bt n h)) with
      | mk q' ow =>
        cases ow with
        | none =>
          rintro ⟨h', len', a1, a2, a3, a4, a5, a6, a7⟩
          obtain ⟨I3, len3, e3, f3, b1, b2, b3, b4, b5⟩ := s_23f (d := d) (L := L) (ext := ext) (tx := tx) (tt := tt) (fe := fe) (G := G) (c := cd bt n (tq bt n h)) a5 a6
          refine wp_e e_20_24 (wp_p e3 (wp_e e_20_25 (wp_l (lq_e (lq_e (lq_e (lq_e (lq_e (lq_n lq_0)))))) (wp_e e_20_16 ?_))))
          have fin : wp (am_R (d + 1) 20 26 (am_mem L ext tx tt fe (I3) G) [some (Value.ref 14), some (Value.int (nI (4 - j))), some (Value.int (nI (5 - k))), some (Value.int (nI most)), some (Value.int (nI c + 1)), none] []) (fun v M => v = none ∧ ∃ I', M = (am_mem L ext tx tt fe (I') G) ∧ Ro I0 I' bt n s h0 len (q', none)) := wp_e e_20_26 (wp_r ⟨rfl, I3, rfl, fr_t f0 (fr_t f1 (fr_t f2 f3)), h', len3, by rw [b1]; exact a1, a2, a3, by rw [b2]; exact a4, b3, b4, by omega⟩)
          refine wp_i (fun _ => wp_e e_20_17 (wp_f ?_ fin)) (fun _ => fin)
          rw [b2, a4]
          decide
        | some w' =>
          rintro ⟨h', a1, ⟨c1, c2, c3, c4, c5⟩, a3, a4, a5, a6⟩
          refine wp_e e_20_24 (wp_p (s_23 c3 (by omega)) (wp_e e_20_25 (wp_l (lq_e (lq_e (lq_e (lq_e (lq_e (lq_n lq_0)))))) ?_)))
          rw [nI_1]
          have f3 : fr FR I2 (am_u2 (am_u2 I2 15 (len + w.length + w'.length) (cd bt n (tq bt n h))) 14 4 (nI (len + w.length + w'.length + 1))) := fr_t (fr_2 (by decide)) (fr_2 (by decide))
          have hle : (w ++ w' ++ [cd bt n (tq bt n h)]).length = w.length + w'.length + 1 := by simp; omega
          have := ih (c + 1) (by omega) _ h' (w ++ w' ++ [cd bt n (tq bt n h)]) (fr_t f0 (fr_t f1 (fr_t f2 f3))) (TK_f ht (fr_t f1 (fr_t f2 f3))) ⟨?_, ?_, ?_, ?_, c5⟩ ?_ ?_ ?_ ?_
          · rw [a1] at this
            exact this
          · rw [u2_k, if_neg (by decide), u2_a (by decide)]; exact c1
          · rw [u2_k, if_neg (by decide), u2_a (by decide)]; exact c2
          · rw [u2_s, hle]; congr 1; omega
          · rw [hle]; omega
          · intro i hil
            rw [u2_a (by decide), u2_k, if_neg (by omega), a3 i (by omega), u2_a (by decide)]
            exact hi i hil
          · refine codr_a (w ++ w') _ len (codr_a w w' len (codr_k w len hw (fun i h1 h2 => ?_)) (codr_k w' _ a4 (fun i h1 h2 => ?_))) ⟨?_, trivial⟩
            · rw [u2_a (by decide), u2_k, if_neg (by omega), a3 i (by omega), u2_a (by decide)]
            · rw [u2_a (by decide), u2_k, if_neg (by omega)]
            · rw [u2_a (by decide), u2_k, List.length_append, if_pos (by omega)]
          · rw [hle]; omega
          · omega
    · refine wp_f hv ?_
      rw [if_neg hv]
      exact wp_e e_20_26 (wp_r ⟨rfl, I, rfl, f0, h, rfl, hr, hi, hw, hl, hl2⟩)
theorem s_20j {bt : Nat → Nat} {n s k : Nat} (hn : n ≤ 160) (hk : k ≤ 5) (ih : ∀ j, j ≤ 5 → ∀ k', k = k' + 1 → PT L ext tx tt fe G bt n s k' j) : ∀ j : Nat, j ≤ 5 → PT L ext tx tt fe G bt n s k j := by
  intro j
  induction j with
  | zero =>
    intro hj d hd I h len ht hr
    rw [Pf_eq]
    obtain ⟨d', rfl⟩ : ∃ d', d = d' + 2 := ⟨d - 2, by omega⟩
    refine wp_e e_20_0 (wp_t hr.2.1 (wp_e e_20_2 (wp_f (by show ¬ nI 5 < (5 : Int32); decide) (wp_e e_20_3 (wp_b (s_21 hn hk ih (by omega) ht hr) ?_)))))
    rintro v M ⟨rfl, I1, rfl, o1⟩
    exact wp_e e_20_4 (wp_r ⟨rfl, I1, rfl, o1⟩)
  | succ j ihj =>
    intro hj d hd I h len ht hr
    rw [Pf_eq]
    obtain ⟨d', rfl⟩ : ∃ d', d = d' + 1 := ⟨d - 1, by omega⟩
    have hsub := ihj (by omega)
    refine wp_e e_20_0 (wp_t hr.2.1 (wp_e e_20_2 (wp_t (show nI (5 - (j + 1)) < (5 : Int32) from nI_lt (b := 5) (by omega) (by omega)) (wp_e e_20_5 ?_))))
    -- the part below, and the loop
    have go : lvf (cd bt n) (adv bt n) (innf (cd bt n) (adv bt n) k) (j + 1) (tq bt n h) = bnf (cd bt n) (adv bt n) (lvf (cd bt n) (adv bt n) (innf (cd bt n) (adv bt n) k) j) (nI (4 - j)) (if j = 2 then 1 else 160) (tq bt n h) → wp (am_R (d' + 1) 20 11 (am_mem L ext tx tt fe I G) [some (Value.ref 14), some (Value.int (nI (5 - (j + 1)))), some (Value.int (nI (5 - k))), none, none, none] []) (fun v M => v = none ∧ ∃ I', M = (am_mem L ext tx tt fe (I') G) ∧ Ro I I' bt n s h len (lvf (cd bt n) (adv bt n) (innf (cd bt n) (adv bt n) k) (j + 1) (tq bt n h))) := by
      intro eb
      rw [eb, show 5 - (j + 1) = 4 - j by omega]
      refine wp_e e_20_11 ?_
      rw [nI_1, show 4 - j + 1 = 5 - j by omega]
      refine wp_b (hsub d' (by omega) I h len ht hr) ?_
      rintro v M ⟨rfl, I1, rfl, f1, o1⟩
      rw [Pf_eq] at o1
      unfold bnf
      have mst : ∀ (m : Nat), m ≤ 160 → wp (am_R (d' + 1) 20 15 (am_mem L ext tx tt fe (I1) G) [some (Value.ref 14), some (Value.int (nI (4 - j))), some (Value.int (nI (5 - k))), none, none, none] [Value.int (nI m)]) (fun v M => v = none ∧ ∃ I', M = (am_mem L ext tx tt fe (I') G) ∧ Ro I I' bt n s h len (match lvf (cd bt n) (adv bt n) (innf (cd bt n) (adv bt n) k) j (tq bt n h) with
        | (q', some w) => lpf (cd bt n) (adv bt n) (lvf (cd bt n) (adv bt n) (innf (cd bt n) (adv bt n) k) j) (nI (4 - j)) m q' w
        | (q', none) => (q', none))) := by
        intro m hm
        refine wp_e e_20_15 ?_
        revert o1
        cases lvf (cd bt n) (adv bt n) (innf (cd bt n) (adv bt n) k) j (tq bt n h) with
        | mk q' ow =>
          cases ow with
          | none =>
            intro hf
            have hfa := hf
            obtain ⟨h', len', a1, a2, a3, a4, a5, a6, a7⟩ := hfa
            have fin : ∀ z, wp (am_R (d' + 1) 20 26 (am_mem L ext tx tt fe (I1) G) [some (Value.ref 14), some (Value.int (nI (4 - j))), some (Value.int (nI (5 - k))), some (Value.int (nI m)), some (Value.int z), none] []) (fun v M => v = none ∧ ∃ I', M = (am_mem L ext tx tt fe (I') G) ∧ Ro I I' bt n s h len (q', none)) := fun z => wp_e e_20_26 (wp_r ⟨rfl, I1, rfl, f1, hf⟩)
            exact wp_e e_20_16 (wp_i (fun _ => wp_e e_20_17 (wp_f (by rw [a4]; decide) (fin _))) (fun _ => fin _))
          | some w =>
            rintro ⟨h', a1, a2, a3, a4, a5, a6⟩
            rw [← a1]
            exact s_20l (sub := lvf (cd bt n) (adv bt n) (innf (cd bt n) (adv bt n) k) j) hn (by omega) hm (fun d hd I h len ht hr => by
              have := hsub d hd I h len ht hr
              rw [Pf_eq] at this
              exact this) (by omega) I m 0 (by omega) I1 h' w f1 (TK_f ht f1) a2 a3 a4 a5 a6
      refine wp_e e_20_12 ?_
      by_cases h2 : j = 2
      · rw [if_pos h2]
        subst h2
        exact wp_t (by decide) (wp_e e_20_13 (mst 1 (by omega)))
      · rw [if_neg h2]
        refine wp_f (fun e => h2 ?_) (wp_e e_20_14 (mst 160 (by omega)))
        have := (nI_eq (a := 4 - j) (b := 2) (by omega) (by omega)).mp e
        omega
    have eL : lvf (cd bt n) (adv bt n) (innf (cd bt n) (adv bt n) k) (j + 1) (tq bt n h) = if j = 2 ∧ cd bt n (tq bt n h) = -11 then (match innf (cd bt n) (adv bt n) k 3 (tq bt n h) with
      | (q', some w) => (q', some (w ++ [-11]))
      | (q', none) => (q', none)) else bnf (cd bt n) (adv bt n) (lvf (cd bt n) (adv bt n) (innf (cd bt n) (adv bt n) k) j) (nI (4 - j)) (if j = 2 then 1 else 160) (tq bt n h) := rfl
    by_cases h2 : j = 2
    · subst h2
      refine wp_t (by decide) (wp_e e_20_6 (wp_p (s_16 ht hn hr.1 hr.2.2.2.2) (wp_e e_20_7 ?_)))
      by_cases h11 : cd bt n (tq bt n h) = -11
      · have hlt : h < s := tk_lt ht hr.2.2.2.2 (by rw [h11]; decide)
        rw [eL, if_pos (show 2 = 2 ∧ cd bt n (tq bt n h) = -11 from ⟨rfl, h11⟩)]
        refine wp_t h11 (wp_e e_20_8 (wp_b (s_22 (j := 3) hn (by omega) hk (ih 3 (by omega)) (by omega) ht hr hlt) ?_))
        rintro v M ⟨rfl, I2, rfl, f2, o2⟩
        have hsn := ht.2.1
        revert o2
        cases innf (cd bt n) (adv bt n) k 3 (tq bt n h) with
        | mk q' ow =>
          cases ow with
          | none =>
            rintro ⟨h', len', a1, a2, a3, a4, a5, a6, a7⟩
            obtain ⟨I3, len3, e3, f3, b1, b2, b3, b4, b5⟩ := s_23f (d := d') (L := L) (ext := ext) (tx := tx) (tt := tt) (fe := fe) (G := G) (c := -11) a5 a6
            refine wp_e e_20_9 (wp_p e3 (wp_e e_20_10 (wp_r ⟨rfl, I3, rfl, fr_t f2 f3, ?_⟩)))
            exact ⟨h', len3, by rw [b1]; exact a1, a2, a3, by rw [b2]; exact a4, b3, b4, by omega⟩
          | some w =>
            rintro ⟨h', a1, ⟨c1, c2, c3, c4, c5⟩, a3, a4, a5⟩
            refine wp_e e_20_9 (wp_p (s_23 c3 (by have := hr.2.2.2.1; omega)) (wp_e e_20_10 (wp_r ⟨rfl, _, rfl, fr_t f2 (fr_t (fr_2 (by decide)) (fr_2 (by decide))), ?_⟩)))
            have hlh := hr.2.2.2.1
            refine ⟨h', a1, ⟨?_, ?_, ?_, ?_, c5⟩, fun i hi => ?_, ?_, ?_, by omega⟩
            · rw [u2_k, if_neg (by decide), u2_a (by decide)]; exact c1
            · rw [u2_k, if_neg (by decide), u2_a (by decide)]; exact c2
            · rw [u2_s, List.length_append]; rfl
            · rw [List.length_append]; show len + (w.length + 1) ≤ h'; omega
            · rw [u2_a (by decide), u2_k, if_neg (by omega)]; exact a3 i hi
            · refine codr_a w [-11] len (codr_k w len a4 (fun i h1 h2 => ?_)) ⟨?_, trivial⟩
              · rw [u2_a (by decide), u2_k, if_neg (by omega)]
              · rw [u2_a (by decide), u2_s]
            · rw [List.length_append]; show h + (w.length + 1) ≤ h'; omega
      · refine wp_f h11 (go ?_)
        rw [eL, if_neg (show ¬ (2 = 2 ∧ cd bt n (tq bt n h) = -11) from fun e => h11 e.2)]
    · refine wp_f (fun e => h2 ?_) (go ?_)
      · have := (nI_eq (a := 5 - (j + 1)) (b := 2) (by omega) (by omega)).mp e
        omega
      · rw [eL, if_neg (show ¬ (j = 2 ∧ cd bt n (tq bt n h) = -11) from fun e => h2 e.1)]
theorem s_20 {bt : Nat → Nat} {n s : Nat} (hn : n ≤ 160) : ∀ k : Nat, k ≤ 5 → ∀ j, j ≤ 5 → PT L ext tx tt fe G bt n s k j := by
  intro k
  induction k with
  | zero => exact fun hk j hj => s_20j hn hk (fun j hj k' e => by omega) j hj
  | succ k ih => exact fun hk j hj => s_20j hn hk (fun j hj k' e => by
      have e : k = k' := by omega
      subst e
      exact ih (by omega) j hj) j hj
end B12
