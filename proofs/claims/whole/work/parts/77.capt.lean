/-! PURE, 47: CAPTAINS -/
/-- the dearest of the first things that is left -/
def dla (pr : Nat → Nat) (g : Nat → Bool) : Nat → Int32
  | 0 => -1
  | k + 1 => if g k = false ∧ (dla pr g k = -1 ∨ nI (pr (dla pr g k).toNatClampNeg) < nI (pr k)) then nI k else dla pr g k
theorem dla_r {pr : Nat → Nat} {g : Nat → Bool} : ∀ k, k ≤ 8 → (dla pr g k = -1 ∧ ∀ t, t < k → g t = true) ∨ ∃ j, j < k ∧ dla pr g k = nI j ∧ g j = false
  | 0, _ => Or.inl ⟨rfl, fun t ht => absurd ht (Nat.not_lt_zero t)⟩
  | k + 1, hk => by
    by_cases e : g k = false ∧ (dla pr g k = -1 ∨ nI (pr (dla pr g k).toNatClampNeg) < nI (pr k))
    · exact Or.inr ⟨k, by omega, if_pos e, e.1⟩
    · rw [show dla pr g (k + 1) = dla pr g k from if_neg e]
      rcases dla_r k (by omega) with ⟨h1, h2⟩ | ⟨j, h1, h2, h3⟩
      · refine Or.inl ⟨h1, fun t ht => ?_⟩
        by_cases et : t = k
        · rw [et]
          cases hg : g k with
          | true => rfl
          | false => exact absurd ⟨hg, Or.inl h1⟩ e
        · exact h2 t (by omega)
      · exact Or.inr ⟨j, by omega, h2, h3⟩
/-- what is gone, as bits, and what each has -/
def cpt (pr row : Nat → Nat) : Nat → Nat × (Nat → Nat)
  | 0 => (0, fun _ => 0)
  | i + 1 => if dla pr (cpt pr row i).1.testBit 8 = -1 then cpt pr row i else ((cpt pr row i).1 ||| 2 ^ (dla pr (cpt pr row i).1.testBit 8).toNatClampNeg, fun c => if c = row i then (cpt pr row i).2 c + pr (dla pr (cpt pr row i).1.testBit 8).toNatClampNeg else (cpt pr row i).2 c)
theorem cpt_y {pr row : Nat → Nat} {i j : Nat} (hj : j < 8) (h : dla pr (cpt pr row i).1.testBit 8 = nI j) : cpt pr row (i + 1) = ((cpt pr row i).1 ||| 2 ^ j, fun c => if c = row i then (cpt pr row i).2 c + pr j else (cpt pr row i).2 c) := by
  show (if dla pr (cpt pr row i).1.testBit 8 = -1 then cpt pr row i else ((cpt pr row i).1 ||| 2 ^ (dla pr (cpt pr row i).1.testBit 8).toNatClampNeg, fun c => if c = row i then (cpt pr row i).2 c + pr (dla pr (cpt pr row i).1.testBit 8).toNatClampNeg else (cpt pr row i).2 c)) = _
  rw [h, if_neg (nIm4 (by omega)), nI_clamp (n := j) (by omega)]
theorem cpt_n {pr row : Nat → Nat} {i : Nat} (h : dla pr (cpt pr row i).1.testBit 8 = -1) : cpt pr row (i + 1) = cpt pr row i := if_pos h
theorem cpt_lt {pr row : Nat → Nat} : ∀ i, (cpt pr row i).1 < 2 ^ 8
  | 0 => (by decide : 0 < 2 ^ 8)
  | i + 1 => by
    rcases dla_r (pr := pr) (g := (cpt pr row i).1.testBit) 8 (by decide) with ⟨h1, -⟩ | ⟨j, h1, h2, -⟩
    · rw [cpt_n h1]
      exact cpt_lt i
    · rw [cpt_y h1 h2]
      exact Nat.or_lt_two_pow (cpt_lt i) (Nat.pow_lt_pow_right (by decide) h1)
theorem cpt_ct {pr row : Nat → Nat} : ∀ i, i ≤ 8 → fb_ct (cpt pr row i).1.testBit 8 = i
  | 0, _ => by
    rw [fb_ct_zero]
    intro k _
    exact Nat.zero_testBit k
  | i + 1, hi => by
    have ih := cpt_ct (pr := pr) (row := row) i (by omega)
    rcases dla_r (pr := pr) (g := (cpt pr row i).1.testBit) 8 (by decide) with ⟨h1, h2⟩ | ⟨j, h1, h2, h3⟩
    · have := fb_ct_all.mpr h2
      omega
    · rw [cpt_y h1 h2]
      have e : fb_ct ((cpt pr row i).1 ||| 2 ^ j).testBit 8 = fb_ct (fun k => if k = j then true else (cpt pr row i).1.testBit k) 8 := fb_ct_cong (fun k _ => by
        rw [fb_bit_set]
        by_cases ek : k = j
        · rw [if_pos ek, decide_eq_true ek, Bool.or_true]
        · rw [if_neg ek, decide_eq_false ek, Bool.or_false])
      have u := fb_ct_upd (cpt pr row i).1.testBit true h1
      rw [if_neg (show ¬ (cpt pr row i).1.testBit j = true by rw [h3]; decide), if_pos rfl] at u
      show fb_ct ((cpt pr row i).1 ||| 2 ^ j).testBit 8 = i + 1
      omega
theorem cpt_8 {pr row : Nat → Nat} : ∀ j, cpt pr row (8 + j) = cpt pr row 8
  | 0 => rfl
  | j + 1 => by
    have e := cpt_8 (pr := pr) (row := row) j
    have h := fb_ct_all.mp (cpt_ct (pr := pr) (row := row) 8 (by decide))
    show cpt pr row (8 + j + 1) = _
    rw [cpt_n, e]
    rw [e]
    rcases dla_r (pr := pr) (g := (cpt pr row 8).1.testBit) 8 (by decide) with ⟨h1, -⟩ | ⟨k, h1, -, h3⟩
    · exact h1
    · rw [h k h1] at h3
      cases h3
theorem sm31 {t : Nat} (ht : t < 8) : ((nI t &&& 31).toBitVec.smod 32).toNat = t ∧ (1 : Int32) <<< (nI t &&& 31) = nI (2 ^ t) := by
  obtain rfl | rfl | rfl | rfl | rfl | rfl | rfl | rfl : t = 0 ∨ t = 1 ∨ t = 2 ∨ t = 3 ∨ t = 4 ∨ t = 5 ∨ t = 6 ∨ t = 7 := by omega
  all_goals decide
theorem tk_bit {n t : Nat} (hn : n < 2 ^ 8) (ht : t < 8) : (nI n >>> (nI t &&& 31)) &&& 1 = 0 ↔ n.testBit t = false := by
  rw [pk_shrN (Nat.lt_trans hn (by decide)) _ t (sm31 ht).1]
  have := fa_bit (n := n / 2 ^ t) (j := 0) (by decide)
  rw [show (1 : Int32) = nI (2 ^ 0) from rfl, this, Nat.testBit_eq_decide_div_mod_eq, Nat.testBit_eq_decide_div_mod_eq]
  simp
section B47
variable {d L : Nat} {ext : List (Nat × Nat)} {tx : Nat → Nat} {tt : Nat} {fe : Nat → Nat → Option Nat} {I : Nat → Nat → Int32} {G : Nat → Nat → Int64}
theorem s_106 {pr : Nat → Nat} {g : Nat → Bool} (h7 : ∀ k, k < 8 → I 7 k = nI (pr k)) (h23 : ∀ k, k < 8 → I 23 k = if g k = true then 1 else 0) : (am_R (d) 106 0 (am_mem L ext tx tt fe I G) [some (Value.ref 5), none, none] []) = some (some (.int (dla pr g 8)), (am_mem L ext tx tt fe I G)) := by
  refine wp_eq (wp_e e_106_0 ?_)
  refine wp_loop 8 (fun _ (_ : Unit) => True) (fun k _ => wp (am_R d 106 1 (am_mem L ext tx tt fe I G) [some (Value.ref 5), some (Value.int (dla pr g k)), some (Value.int (nI k))] []) _) ?_ ?_ 0 () (Nat.zero_le _) trivial
  · rintro _ -
    exact wp_e e_106_1 (wp_f (by decide) (wp_e e_106_7 (wp_r ⟨rfl, rfl⟩)))
  · rintro k _ hk - hgo
    have hib := ib (n := k) (N := 8) hk (by decide)
    have hcl := nI_clamp (n := k) (by omega)
    have go := hgo () trivial
    refine wp_e e_106_1 (wp_t (nI_lt (b := 8) hk (by decide)) (wp_e e_106_2 (wp_c (by rw [hib]; rfl) ?_)))
    rw [hcl, h23 k hk]
    cases hg : g k with
    | true =>
      rw [show dla pr g (k + 1) = dla pr g k from if_neg (fun e => by rw [hg] at e; exact absurd e.1 (by decide))] at go
      refine wp_f (by decide) (wp_e e_106_6 ?_)
      rw [nI_1]
      exact go
    | false =>
      refine wp_t (by decide) (wp_e e_106_3 (wp_i (fun e => wp_e e_106_5 (wp_e e_106_6 ?_)) (fun e => ?_)))
      · rw [show dla pr g (k + 1) = nI k from if_pos ⟨hg, Or.inl e⟩] at go
        rw [nI_1]
        exact go
      · rcases dla_r (pr := pr) (g := g) k (by omega) with ⟨h1, -⟩ | ⟨j, h1, h2, -⟩
        · exact absurd h1 e
        · have hcj := nI_clamp (n := j) (by omega)
          refine wp_e e_106_4 ?_
          rw [h2, ib (n := j) (N := 8) (by omega) (by decide), hib, hcl, hcj, h7 j (by omega), h7 k hk]
          refine wp_c rfl (wp_i (fun e2 => wp_e e_106_5 (wp_e e_106_6 ?_)) (fun e2 => wp_e e_106_6 ?_))
          · rw [show dla pr g (k + 1) = nI k from if_pos ⟨hg, Or.inr (by rw [h2, hcj]; exact e2)⟩] at go
            rw [nI_1]
            exact go
          · rw [show dla pr g (k + 1) = dla pr g k from if_neg (fun q => q.2.elim e (by rw [h2, hcj]; exact e2)), h2] at go
            rw [nI_1]
            exact go
theorem s_189d {pr : Nat → Nat} {n : Nat} {v1 v3 : Int32} {Q : Option Value → am_M → Prop} (hn : n < 2 ^ 8) (h62 : ∀ k, k < 8 → I 62 k = nI (pr k)) (hQ : wp (am_R d 189 17 (am_mem L ext tx tt fe I G) [some (Value.ref 55), some (Value.int v1), some (Value.int (nI n)), some (Value.int v3), some (Value.int (dla pr n.testBit 8)), some (Value.int 8)] []) Q) : wp (am_R d 189 10 (am_mem L ext tx tt fe I G) [some (Value.ref 55), some (Value.int v1), some (Value.int (nI n)), some (Value.int v3), none, none] []) Q := by
  refine wp_e e_189_10 ?_
  refine wp_loop 8 (fun _ (_ : Unit) => True) (fun k _ => wp (am_R d 189 11 (am_mem L ext tx tt fe I G) [some (Value.ref 55), some (Value.int v1), some (Value.int (nI n)), some (Value.int v3), some (Value.int (dla pr n.testBit k)), some (Value.int (nI k))] []) Q) ?_ ?_ 0 () (Nat.zero_le _) trivial
  · rintro _ -
    exact wp_e e_189_11 (wp_f (by decide) hQ)
  · rintro k _ hk - hgo
    have hib := ib (n := k) (N := 8) hk (by decide)
    have hcl := nI_clamp (n := k) (by omega)
    have go := hgo () trivial
    refine wp_e e_189_11 (wp_t (nI_lt (b := 8) hk (by decide)) (wp_e e_189_12 ?_))
    cases hg : n.testBit k with
    | true =>
      rw [show dla pr n.testBit (k + 1) = dla pr n.testBit k from if_neg (fun e => by rw [hg] at e; exact absurd e.1 (by decide))] at go
      refine wp_f (fun e => ?_) (wp_e e_189_16 ?_)
      · rw [tk_bit hn hk, hg] at e
        cases e
      · rw [nI_1]
        exact go
    | false =>
      refine wp_t ((tk_bit hn hk).mpr hg) (wp_e e_189_13 (wp_i (fun e => wp_e e_189_15 (wp_e e_189_16 ?_)) (fun e => ?_)))
      · rw [show dla pr n.testBit (k + 1) = nI k from if_pos ⟨hg, Or.inl e⟩] at go
        rw [nI_1]
        exact go
      · rcases dla_r (pr := pr) (g := n.testBit) k (by omega) with ⟨h1, -⟩ | ⟨j, h1, h2, -⟩
        · exact absurd h1 e
        · have hcj := nI_clamp (n := j) (by omega)
          refine wp_e e_189_14 ?_
          rw [h2, ib (n := j) (N := 8) (by omega) (by decide), hib, hcl, hcj, h62 j (by omega), h62 k hk]
          refine wp_c rfl (wp_i (fun e2 => wp_e e_189_15 (wp_e e_189_16 ?_)) (fun e2 => wp_e e_189_16 ?_))
          · rw [show dla pr n.testBit (k + 1) = nI k from if_pos ⟨hg, Or.inr (by rw [h2, hcj]; exact e2)⟩] at go
            rw [nI_1]
            exact go
          · rw [show dla pr n.testBit (k + 1) = dla pr n.testBit k from if_neg (fun q => q.2.elim e (by rw [h2, hcj]; exact e2)), h2] at go
            rw [nI_1]
            exact go
/-- the model's difference -/
theorem s_189u {n : Nat} {f : Nat → Int32} {v1 v2 v3 : Int32} {Q : Option Value → am_M → Prop} (hc : I 55 7 = nI n) (h0 : 0 < n) (hm : n ≤ 4) (hf : ∀ c, c < 4 → I 69 c = f c) (hQ : Q (some (.int (un f n))) (am_mem L ext tx tt fe I G)) : wp (am_R d 189 20 (am_mem L ext tx tt fe I G) [some (Value.ref 55), some (Value.int v1), some (Value.int v2), some (Value.int v3), none, none] []) Q := by
  refine wp_e e_189_20 (wp_c (by decide) ?_)
  rw [show (0 : Int32).toNatClampNeg = 0 from rfl, hf 0 (by decide)]
  refine wp_loop (n - 1) (fun _ (_ : Unit) => True) (fun j _ => wp (am_R d 189 21 (am_mem L ext tx tt fe I G) [some (Value.ref 55), some (Value.int v1), some (Value.int v2), some (Value.int (mxl f j)), some (Value.int (mnl f j)), some (Value.int (nI (j + 1)))] []) Q) ?_ ?_ 0 () (Nat.zero_le _) trivial
  · rintro _ -
    refine wp_e e_189_21 ?_
    rw [hc]
    refine wp_f (nI_nlt (by omega) (by omega)) (wp_e e_189_29 (wp_r ?_))
    exact hQ
  · rintro j _ hj - hgo
    have hi := ib (n := j + 1) (N := 4) (by omega) (by omega)
    have hcl := nI_clamp (n := j + 1) (by omega)
    have go := hgo () trivial
    have e1 : mxl f (j + 1) = if mxl f j < f (j + 1) then f (j + 1) else mxl f j := rfl
    have e2 : mnl f (j + 1) = if f (j + 1) < mnl f j then f (j + 1) else mnl f j := rfl
    have r : ∀ x, wp (am_R d 189 21 (am_mem L ext tx tt fe I G) [some (Value.ref 55), some (Value.int v1), some (Value.int v2), some (Value.int x), some (Value.int (mnl f (j + 1))), some (Value.int (nI (j + 1 + 1)))] []) Q → wp (am_R d 189 25 (am_mem L ext tx tt fe I G) [some (Value.ref 55), some (Value.int v1), some (Value.int v2), some (Value.int (mxl f j)), some (Value.int (mnl f j)), some (Value.int (nI (j + 1)))] [Value.int x]) Q := by
      intro x k
      refine wp_e e_189_25 ?_
      rw [hi, hcl, hf (j + 1) (by omega)]
      refine wp_c rfl (wp_i (fun c => wp_e e_189_26 ?_) (fun c => wp_e e_189_27 (wp_e e_189_28 ?_)))
      · rw [hi, hcl, hf (j + 1) (by omega)]
        refine wp_c rfl (wp_e e_189_28 ?_)
        rw [e2, if_pos c] at k
        rw [nI_1]
        exact k
      · rw [e2, if_neg c] at k
        rw [nI_1]
        exact k
    refine wp_e e_189_21 ?_
    rw [hc]
    refine wp_t (nI_lt (by omega) (by omega)) (wp_e e_189_22 ?_)
    rw [hi, hcl, hf (j + 1) (by omega)]
    refine wp_c rfl (wp_i (fun c => wp_e e_189_23 ?_) (fun c => wp_e e_189_24 (r _ ?_)))
    · rw [hi, hcl, hf (j + 1) (by omega)]
      refine wp_c rfl (r _ ?_)
      rw [e1, if_pos c] at go
      exact go
    · rw [e1, if_neg c] at go
      exact go
end B47
