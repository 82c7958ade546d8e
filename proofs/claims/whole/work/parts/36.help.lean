/-! PURE, 6: powers, ways, lowest terms -/
def pw (i : Nat) : Nat → Int32
  | 0 => 1
  | j + 1 => pw i j * nI i
def sop (row : Nat → Nat) (c : Int32) (j : Nat) : Nat → Int32
  | 0 => 0
  | n + 1 => if nI (row n) = c then sop row c j n + pw n j else sop row c j n
/-- whether all rows of numbers are like the first -/
def alq (f : Nat → Int32) (C : Nat) : Bool := (List.range C).all (fun c => decide (f c = f 0))
theorem alq_t {f : Nat → Int32} {C : Nat} (h : ∀ c, c < C → f c = f 0) : alq f C = true := List.all_eq_true.mpr (fun c hc => decide_eq_true (h c (List.mem_range.mp hc)))
theorem alq_f {f : Nat → Int32} {C c : Nat} (hc : c < C) (h : ¬ f c = f 0) : alq f C = false := by
  cases ha : alq f C with
  | false => rfl
  | true => exact absurd (of_decide_eq_true (List.all_eq_true.mp ha c (List.mem_range.mpr hc))) h
/-- the greatest even power -/
def gep (p : Nat → Bool) : Nat → Nat → Int32
  | 0, _ => 4
  | n + 1, k => if p k = true then gep p n (k + 1) else nI k - 1
theorem pow_up {C k D : Nat} (h0 : 0 < C) (hk : k ≤ D) : C ^ k ≤ C ^ D := Nat.pow_le_pow_right h0 hk
section B6
variable {d L : Nat} {ext : List (Nat × Nat)} {tx : Nat → Nat} {tt : Nat} {fe : Nat → Nat → Option Nat} {I : Nat → Nat → Int32} {G : Nat → Nat → Int64}
/-- the class's row -/
def RW (I : Nat → Nat → Int32) (a : Nat) (row : Nat → Nat) (C : Nat) : Prop := ∀ k, k < 24 → I a k = nI (row k) ∧ row k < C
theorem s_96p {C D c j k : Nat} {w1 w3 : Int32} (hj : j < 100) : ∀ n q : Nat, q + n = j → (am_R (d) 96 4 (am_mem L ext tx tt fe I G) [some (Value.ref 5), some (Value.int w1), some (Value.int (nI j)), some (Value.int w3), some (Value.int (nI k)), some (Value.int (pw k q)), some (Value.int (nI q))] []) = (am_R (d) 96 6 (am_mem L ext tx tt fe I G) [some (Value.ref 5), some (Value.int w1), some (Value.int (nI j)), some (Value.int w3), some (Value.int (nI k)), some (Value.int (pw k j)), some (Value.int (nI j))] []) := by
  intro n
  induction n with
  | zero =>
    intro q hq
    have e : q = j := by omega
    subst e
    rw [e_96_4, if_neg (nI_nlt (Nat.le_refl _) (by omega))]
  | succ n ih =>
    intro q hq
    rw [e_96_4, if_pos (nI_lt (by omega) (by omega)), e_96_5, nI_1]
    exact ih (q + 1) (by omega)
theorem s_96 {C D j : Nat} {c : Int32} {row : Nat → Nat} (hD : I 5 1 = nI D) (hD24 : D ≤ 24) (hr : RW I 6 row C) (hj : j < 100) : (am_R (d) 96 0 (am_mem L ext tx tt fe I G) [some (Value.ref 5), some (Value.int c), some (Value.int (nI j)), none, none, none, none] []) = some (some (Value.int (sop row c j D)), (am_mem L ext tx tt fe I G)) := by
  refine wp_eq (wp_e e_96_0 ?_)
  refine wp_loop D (fun k (_ : Unit) => True) (fun k _ => wp (am_R (d) 96 1 (am_mem L ext tx tt fe I G) [some (Value.ref 5), some (Value.int c), some (Value.int (nI j)), some (Value.int (sop row c j k)), some (Value.int (nI k)), none, none] []) _) ?_ ?_ 0 () (Nat.zero_le _) trivial
  · intro _ _
    refine wp_e e_96_1 ?_
    rw [hD]
    exact wp_f (nI_nlt (Nat.le_refl _) (by omega)) (wp_e e_96_8 (wp_r ⟨rfl, rfl⟩))
  · intro k _ hk _ go
    refine wp_e e_96_1 ?_
    rw [hD]
    refine wp_t (nI_lt hk (by omega)) (wp_e e_96_2 (wp_c (by rw [ib (n := k) (N := 24) (by omega) (by decide)]; rfl) ?_))
    rw [nI_clamp (n := k) (by omega), (hr k (by omega)).1]
    have go := go () trivial
    have e : sop row c j (k + 1) = if nI (row k) = c then sop row c j k + pw k j else sop row c j k := rfl
    rw [e] at go
    by_cases hc : nI (row k) = c
    · rw [if_pos hc] at go
      refine wp_t hc (wp_e e_96_3 ?_)
      have hp := s_96p (d := d) (L := L) (ext := ext) (tx := tx) (tt := tt) (fe := fe) (I := I) (G := G) (C := C) (D := D) (c := 0) (j := j) (k := k) (w1 := c) (w3 := sop row c j k) hj j 0 (by omega)
      refine wp_e hp (wp_e e_96_6 ?_)
      refine wp_l (lq_e (lq_e (lq_e (lq_e (lq_e (lq_n (lq_n lq_0))))))) (wp_e e_96_7 ?_)
      rw [nI_1]
      exact go
    · rw [if_neg hc] at go
      refine wp_f hc (wp_e e_96_7 ?_)
      rw [nI_1]
      exact go
theorem s_95 {C D j : Nat} {row : Nat → Nat} (hC : I 5 0 = nI C) (h0 : 0 < C) (hC4 : C ≤ 4) (hD : I 5 1 = nI D) (hD24 : D ≤ 24) (hr : RW I 6 row C) (hj : j < 100) : (am_R (d + 1) 95 0 (am_mem L ext tx tt fe I G) [some (Value.ref 5), some (Value.int (nI j)), none, none] []) = some (some (Value.int (if alq (fun c => sop row (nI c) j D) C = true then 1 else 0)), (am_mem L ext tx tt fe I G)) := by
  refine wp_eq (wp_e e_95_0 (wp_p (s_96 hD hD24 hr hj) (wp_e e_95_1 ?_)))
  refine wp_loop C (fun k (_ : Unit) => 1 ≤ k ∧ ∀ c, c < k → sop row (nI c) j D = sop row (nI 0) j D) (fun k _ => wp (am_R (d + 1) 95 2 (am_mem L ext tx tt fe I G) [some (Value.ref 5), some (Value.int (nI j)), some (Value.int (sop row (nI 0) j D)), some (Value.int (nI k))] []) _) ?_ ?_ 1 () h0 ⟨Nat.le_refl _, fun c hc => by
    have e : c = 0 := by omega
    rw [e]⟩
  · rintro _ ⟨_, h⟩
    refine wp_e e_95_2 ?_
    rw [hC]
    refine wp_f (nI_nlt (Nat.le_refl _) (by omega)) (wp_e e_95_7 (wp_r ⟨?_, rfl⟩))
    rw [if_pos (alq_t h)]
  · rintro k _ hk ⟨h1, h⟩ go
    refine wp_e e_95_2 ?_
    rw [hC]
    refine wp_t (nI_lt hk (by omega)) (wp_e e_95_3 (wp_p (s_96 hD hD24 hr hj) (wp_e e_95_4 ?_)))
    by_cases he : sop row (nI k) j D = sop row (nI 0) j D
    · refine wp_t he (wp_e e_95_6 ?_)
      rw [nI_1]
      refine go () ⟨by omega, fun c hc => ?_⟩
      by_cases e : c = k
      · rw [e]; exact he
      · exact h c (by omega)
    · refine wp_f he (wp_e e_95_5 (wp_r ⟨?_, rfl⟩))
      rw [alq_f (c := k) hk he]
      rfl
theorem s_94l {C D : Nat} {row : Nat → Nat} (hC : I 5 0 = nI C) (h0 : 0 < C) (hC4 : C ≤ 4) (hD : I 5 1 = nI D) (hD24 : D ≤ 24) (hr : RW I 6 row C) : ∀ n k : Nat, k + n = 5 → (am_R (d + 2) 94 1 (am_mem L ext tx tt fe I G) [some (Value.ref 5), some (Value.int (nI k))] []) = some (some (Value.int (gep (fun j => alq (fun c => sop row (nI c) j D) C) n k)), (am_mem L ext tx tt fe I G)) := by
  intro n
  induction n with
  | zero =>
    intro k hk
    have e : k = 5 := by omega
    subst e
    rw [e_94_1, if_pos (by decide), e_94_6]
    rfl
  | succ n ih =>
    intro k hk
    rw [e_94_1, if_neg (show ¬ (4 : Int32) < nI k from nI_nlt (a := 4) (by omega) (by omega)), e_94_2, s_95 hC h0 hC4 hD hD24 hr (by omega), Option.bind_some]
    refine Eq.trans e_94_3 ?_
    show _ = some (some (Value.int (if (fun j => alq (fun c => sop row (nI c) j D) C) k = true then gep _ n (k + 1) else nI k - 1)), _)
    by_cases hb : alq (fun c => sop row (nI c) k D) C = true
    · rw [if_pos hb, if_pos hb, if_neg (by decide), e_94_5, nI_1]
      exact ih (k + 1) (by omega)
    · rw [if_neg hb, if_neg hb, if_pos rfl, e_94_4]
theorem s_94 {C D : Nat} {row : Nat → Nat} (hC : I 5 0 = nI C) (h0 : 0 < C) (hC4 : C ≤ 4) (hD : I 5 1 = nI D) (hD24 : D ≤ 24) (hr : RW I 6 row C) : (am_R (d + 2) 94 0 (am_mem L ext tx tt fe I G) [some (Value.ref 5), none] []) = some (some (Value.int (gep (fun j => alq (fun c => sop row (nI c) j D) C) 5 0)), (am_mem L ext tx tt fe I G)) := by
  rw [e_94_0]
  exact s_94l hC h0 hC4 hD hD24 hr 5 0 (by omega)
theorem s_168p {j k : Nat} {w1 w3 : Int32} (hj : j < 100) : ∀ n q : Nat, q + n = j → (am_R (d) 168 3 (am_mem L ext tx tt fe I G) [some (Value.ref 55), some (Value.int w1), some (Value.int (nI j)), some (Value.int w3), some (Value.int (nI k)), some (Value.int (pw k q)), some (Value.int (nI q))] []) = (am_R (d) 168 5 (am_mem L ext tx tt fe I G) [some (Value.ref 55), some (Value.int w1), some (Value.int (nI j)), some (Value.int w3), some (Value.int (nI k)), some (Value.int (pw k j)), some (Value.int (nI j))] []) := by
  intro n
  induction n with
  | zero =>
    intro q hq
    have e : q = j := by omega
    subst e
    rw [e_168_3, if_neg (nI_nlt (Nat.le_refl _) (by omega))]
  | succ n ih =>
    intro q hq
    rw [e_168_3, if_pos (nI_lt (by omega) (by omega)), e_168_4, nI_1]
    exact ih (q + 1) (by omega)
theorem s_168 {C D j : Nat} {c : Int32} {row : Nat → Nat} (hD : I 55 8 = nI D) (hD24 : D ≤ 24) (hr : RW I 59 row C) (hj : j < 100) : (am_R (d) 168 0 (am_mem L ext tx tt fe I G) [some (Value.ref 55), some (Value.int c), some (Value.int (nI j)), none, none, none, none] []) = some (some (Value.int (sop row c j D)), (am_mem L ext tx tt fe I G)) := by
  refine wp_eq (wp_e e_168_0 ?_)
  refine wp_loop D (fun k (_ : Unit) => True) (fun k _ => wp (am_R (d) 168 1 (am_mem L ext tx tt fe I G) [some (Value.ref 55), some (Value.int c), some (Value.int (nI j)), some (Value.int (sop row c j k)), some (Value.int (nI k)), none, none] []) _) ?_ ?_ 0 () (Nat.zero_le _) trivial
  · intro _ _
    refine wp_e e_168_1 ?_
    rw [hD]
    exact wp_f (nI_nlt (Nat.le_refl _) (by omega)) (wp_e e_168_9 (wp_r ⟨rfl, rfl⟩))
  · intro k _ hk _ go
    refine wp_e e_168_1 ?_
    rw [hD]
    refine wp_t (nI_lt hk (by omega)) (wp_e e_168_2 ?_)
    have hp := s_168p (d := d) (L := L) (ext := ext) (tx := tx) (tt := tt) (fe := fe) (I := I) (G := G) (j := j) (k := k) (w1 := c) (w3 := sop row c j k) hj j 0 (by omega)
    refine wp_e hp (wp_e e_168_5 (wp_c (by rw [ib (n := k) (N := 24) (by omega) (by decide)]; rfl) ?_))
    rw [nI_clamp (n := k) (by omega), (hr k (by omega)).1]
    have go := go () trivial
    have e : sop row c j (k + 1) = if nI (row k) = c then sop row c j k + pw k j else sop row c j k := rfl
    rw [e] at go
    by_cases hc : nI (row k) = c
    · rw [if_pos hc] at go
      refine wp_t hc (wp_e e_168_6 (wp_e e_168_8 ?_))
      rw [nI_1]
      exact wp_l (lq_e (lq_e (lq_e (lq_e (lq_e (lq_n (lq_n lq_0))))))) go
    · rw [if_neg hc] at go
      refine wp_f hc (wp_e e_168_7 (wp_e e_168_8 ?_))
      rw [nI_1, Int32.add_zero]
      exact wp_l (lq_e (lq_e (lq_e (lq_e (lq_e (lq_n (lq_n lq_0))))))) go
theorem s_167l {C D : Nat} {row : Nat → Nat} (hC : I 55 7 = nI C) (h0 : 0 < C) (hC4 : C ≤ 4) (hD : I 55 8 = nI D) (hD24 : D ≤ 24) (hr : RW I 59 row C) : ∀ n k : Nat, k + n = 5 → wp (am_R (d + 1) 167 1 (am_mem L ext tx tt fe I G) [some (Value.ref 55), some (Value.int (nI k)), none, none] []) (fun v M => v = some (.int (gep (fun j => alq (fun c => sop row (nI c) j D) C) n k)) ∧ M = (am_mem L ext tx tt fe I G)) := by
  intro n
  induction n with
  | zero =>
    intro k hk
    have e : k = 5 := by omega
    subst e
    exact wp_e e_167_1 (wp_f (by decide) (wp_e e_167_10 (wp_r ⟨rfl, rfl⟩)))
  | succ n ih =>
    intro k hk
    refine wp_e e_167_1 (wp_t (show nI k < (5 : Int32) from nI_lt (b := 5) (by omega) (by omega)) (wp_e e_167_2 (wp_p (s_168 hD hD24 hr (by omega)) (wp_e e_167_3 ?_))))
    have eg : gep (fun j => alq (fun c => sop row (nI c) j D) C) (n + 1) k = if alq (fun c => sop row (nI c) k D) C = true then gep (fun j => alq (fun c => sop row (nI c) j D) C) n (k + 1) else nI k - 1 := rfl
    rw [eg]
    refine wp_loop C (fun q (_ : Unit) => 1 ≤ q ∧ ∀ c, c < q → sop row (nI c) k D = sop row (nI 0) k D) (fun q _ => wp (am_R (d + 1) 167 4 (am_mem L ext tx tt fe I G) [some (Value.ref 55), some (Value.int (nI k)), some (Value.int (sop row (nI 0) k D)), some (Value.int (nI q))] []) _) ?_ ?_ 1 () h0 ⟨Nat.le_refl _, fun c hc => by
      have e : c = 0 := by omega
      rw [e]⟩
    · rintro _ ⟨_, h⟩
      refine wp_e e_167_4 ?_
      rw [hC]
      refine wp_f (nI_nlt (Nat.le_refl _) (by omega)) (wp_e e_167_9 ?_)
      rw [nI_1, if_pos (alq_t h)]
      exact wp_l (lq_e (lq_e (lq_n (lq_n lq_0)))) (ih (k + 1) (by omega))
    · rintro q _ hq ⟨h1, h⟩ go
      refine wp_e e_167_4 ?_
      rw [hC]
      refine wp_t (nI_lt hq (by omega)) (wp_e e_167_5 (wp_p (s_168 hD hD24 hr (by omega)) (wp_e e_167_6 ?_)))
      by_cases he : sop row (nI q) k D = sop row (nI 0) k D
      · refine wp_t he (wp_e e_167_8 ?_)
        rw [nI_1]
        refine go () ⟨by omega, fun c hc => ?_⟩
        by_cases e : c = q
        · rw [e]; exact he
        · exact h c (by omega)
      · refine wp_f he (wp_e e_167_7 (wp_r ⟨?_, rfl⟩))
        rw [alq_f (c := q) hq he]
        rfl
theorem s_167 {C D : Nat} {row : Nat → Nat} (hC : I 55 7 = nI C) (h0 : 0 < C) (hC4 : C ≤ 4) (hD : I 55 8 = nI D) (hD24 : D ≤ 24) (hr : RW I 59 row C) : (am_R (d + 1) 167 0 (am_mem L ext tx tt fe I G) [some (Value.ref 55), none, none, none] []) = some (some (Value.int (gep (fun j => alq (fun c => sop row (nI c) j D) C) 5 0)), (am_mem L ext tx tt fe I G)) := by
  refine wp_eq (wp_e e_167_0 ?_)
  exact s_167l hC h0 hC4 hD hD24 hr 5 0 (by omega)
/-! how many ways -/
theorem s_97 {C D : Nat} (hC : I 5 0 = nI C) (h0 : 0 < C) (hC4 : C ≤ 4) (hD : I 5 1 = nI D) (hD24 : D ≤ 24) : (am_R (d) 97 0 (am_mem L ext tx tt fe I G) [some (Value.ref 5), none, none] []) = some (some (Value.int (bI (C ^ D ≤ 65536))), (am_mem L ext tx tt fe I G)) := by
  refine wp_eq (wp_e e_97_0 ?_)
  refine wp_loop D (fun k (_ : Unit) => C ^ k ≤ 65536) (fun k _ => wp (am_R (d) 97 1 (am_mem L ext tx tt fe I G) [some (Value.ref 5), some (Value.int (nI (C ^ k))), some (Value.int (nI k))] []) _) ?_ ?_ 0 () (Nat.zero_le _) (by rw [Nat.pow_zero]; omega)
  · intro _ h
    refine wp_e e_97_1 ?_
    rw [hD]
    refine wp_f (nI_nlt (Nat.le_refl _) (by omega)) (wp_e e_97_5 (wp_r ⟨?_, rfl⟩))
    rw [bI_t h]
  · intro k _ hk h go
    have hp : C ^ (k + 1) = C ^ k * C := Nat.pow_succ ..
    have hm : C ^ k * C ≤ 65536 * 4 := Nat.mul_le_mul h hC4
    refine wp_e e_97_1 ?_
    rw [hD]
    refine wp_t (nI_lt hk (by omega)) (wp_e e_97_2 ?_)
    rw [hC, pk_mul, ← hp]
    by_cases hb : 65536 < C ^ (k + 1)
    · refine wp_t (show (65536 : Int32) < nI (C ^ (k + 1)) from nI_lt (a := 65536) hb (by omega)) (wp_e e_97_3 (wp_r ⟨?_, rfl⟩))
      have := pow_up (k := k + 1) (D := D) h0 (by omega)
      rw [bI_f (by omega)]
    · refine wp_f (show ¬ (65536 : Int32) < nI (C ^ (k + 1)) from nI_nlt (a := 65536) (by omega) (by omega)) (wp_e e_97_4 ?_)
      rw [nI_1]
      exact go () (by omega)
theorem s_172 {C D : Nat} (hC : I 55 7 = nI C) (h0 : 0 < C) (hC4 : C ≤ 4) (hD : I 55 8 = nI D) (hD24 : D ≤ 24) : (am_R (d) 172 0 (am_mem L ext tx tt fe I G) [some (Value.ref 55), none, none] []) = some (some (Value.int (bI (65536 < C ^ D))), (am_mem L ext tx tt fe I G)) := by
  refine wp_eq (wp_e e_172_0 ?_)
  have fin : ∀ (k : Nat), k ≤ D → C ^ k ≤ 65536 * 4 → (k = D ∨ 65536 < C ^ k) → wp (am_R (d) 172 4 (am_mem L ext tx tt fe I G) [some (Value.ref 55), some (Value.int (nI (C ^ k))), some (Value.int (nI k))] []) (fun v M => v = some (Value.int (bI (65536 < C ^ D))) ∧ M = (am_mem L ext tx tt fe I G)) := by
    intro k hk hle hor
    refine wp_e e_172_4 ?_
    by_cases hb : 65536 < C ^ k
    · refine wp_t (show (65536 : Int32) < nI (C ^ k) from nI_lt (a := 65536) hb (by omega)) (wp_e e_172_5 (wp_e e_172_7 (wp_r ⟨?_, rfl⟩)))
      have := pow_up (k := k) (D := D) h0 hk
      rw [bI_t (show 65536 < C ^ D by omega)]
      rfl
    · refine wp_f (show ¬ (65536 : Int32) < nI (C ^ k) from nI_nlt (a := 65536) (by omega) (by omega)) (wp_e e_172_6 (wp_e e_172_7 (wp_r ⟨?_, rfl⟩)))
      have e : k = D := hor.resolve_right hb
      subst e
      rw [bI_f hb]
      rfl
  refine wp_loop D (fun k (_ : Unit) => C ^ k ≤ 65536 * 4) (fun k _ => k ≤ D → wp (am_R (d) 172 1 (am_mem L ext tx tt fe I G) [some (Value.ref 55), some (Value.int (nI (C ^ k))), some (Value.int (nI k))] []) _) ?_ ?_ 0 () (Nat.zero_le _) (by rw [Nat.pow_zero]; omega) (Nat.zero_le _)
  · intro _ h _
    refine wp_e e_172_1 ?_
    rw [hD]
    exact wp_f (nI_nlt (Nat.le_refl _) (by omega)) (fin D (Nat.le_refl _) h (Or.inl rfl))
  · intro k _ hk h go _
    refine wp_e e_172_1 ?_
    rw [hD]
    refine wp_t (nI_lt hk (by omega)) (wp_e e_172_2 ?_)
    by_cases hb : 65536 < C ^ k
    · exact wp_t (show (65536 : Int32) < nI (C ^ k) from nI_lt (a := 65536) hb (by omega)) (fin k (by omega) h (Or.inr hb))
    · refine wp_f (show ¬ (65536 : Int32) < nI (C ^ k) from nI_nlt (a := 65536) (by omega) (by omega)) (wp_e e_172_3 ?_)
      have hp : C ^ (k + 1) = C ^ k * C := Nat.pow_succ ..
      have hm : C ^ k * C ≤ 65536 * 4 := Nat.mul_le_mul (by omega) hC4
      rw [hC, pk_mul, ← hp, nI_1]
      exact go () (by omega) (by omega)
/-! lowest terms -/
theorem nzl {n : Nat} (h0 : 0 < n) (h : n < 2 ^ 63) : am_nzl (lN n) = true := decide_eq_true (fun e => by
  have := (pk_lEQ (a := n) (b := 0) h (by omega)).mp e
  omega)
theorem lcmp0 {n : Nat} (h : n < 2 ^ 63) : lg_cmp (lN n) (0 : Int64) = 0 ↔ n = 0 := by
  rw [lg_cmp_eq]
  exact pk_lEQ (a := n) (b := 0) h (by omega)
def low (a b : Nat) (part : Int32) : Nat := if part = 0 then a / Nat.gcd b a else b / Nat.gcd b a
theorem s_100 {a b : Nat} {part : Int32} (ha : a < 2 ^ 31) (h0 : 0 < b) (hb : b ≤ 100) : (am_R (d) 100 0 (am_mem L ext tx tt fe I G) [some (Value.long (lN a)), none, some (Value.long (lN b)), none, some (Value.int part), none, none, none, none, none, none, none] []) = some (some (Value.long (lN (low a b part))), (am_mem L ext tx tt fe I G)) := by
  refine wp_eq (wp_e e_100_0 ?_)
  have key : ∀ q p k : Nat, p < 2 ^ 31 → q ≤ 100 → k + q ≤ 101 → Nat.gcd q p = Nat.gcd b a → wp (am_R (d) 100 1 (am_mem L ext tx tt fe I G) [some (Value.long (lN a)), none, some (Value.long (lN b)), none, some (Value.int part), some (Value.long (lN p)), none, some (Value.long (lN q)), none, some (Value.int (nI k)), none, none] []) (fun v M => v = some (Value.long (lN (low a b part))) ∧ M = (am_mem L ext tx tt fe I G)) := by
    intro q
    induction q using Nat.strongRecOn with
    | _ q ih =>
      intro p k hp hq hk hg
      refine wp_e e_100_1 (wp_t (show nI k < (200 : Int32) from nI_lt (b := 200) (by omega) (by omega)) (wp_e e_100_2 ?_))
      by_cases hz : q = 0
      · refine wp_t ((lcmp0 (by omega)).mpr hz) (wp_e e_100_4 ?_)
        subst hz
        rw [Nat.gcd_zero_left] at hg
        have hpos : 0 < p := by rw [hg]; exact Nat.gcd_pos_of_pos_left _ h0
        refine wp_f (fun e => by have := (lcmp0 (by omega)).mp e; omega) (wp_e e_100_6 ?_)
        unfold low
        by_cases hpt : part = 0
        · refine wp_t hpt (wp_e e_100_7 (wp_e e_100_9 (wp_c (by rw [nzl hpos (by omega)]; rfl) (wp_r ⟨?_, rfl⟩))))
          rw [if_pos hpt, pk_lDiv (by omega) hpos (by omega), hg]
        · refine wp_f hpt (wp_e e_100_8 (wp_e e_100_9 (wp_c (by rw [nzl hpos (by omega)]; rfl) (wp_r ⟨?_, rfl⟩))))
          rw [if_neg hpt, pk_lDiv (by omega) hpos (by omega), hg]
      · refine wp_f (fun e => hz ((lcmp0 (by omega)).mp e)) (wp_e e_100_3 (wp_c (by rw [nzl (by omega) (by omega)]; rfl) ?_))
        have hm := Nat.mod_lt p (show 0 < q by omega)
        rw [pk_lRem (by omega) (by omega) (by omega), nI_1]
        refine wp_l (lq_e (lq_e (lq_e (lq_e (lq_e (lq_e (lq_e (lq_e (lq_e (lq_e (lq_n (lq_e lq_0)))))))))))) (ih (p % q) hm q (k + 1) (by omega) (by omega) (by omega) ?_)
        rw [← hg]
        exact (Nat.gcd_rec q p).symm
  exact key b a 0 ha hb (by omega) rfl
theorem s_170 {a b : Nat} {part : Int32} (ha : a < 2 ^ 31) (h0 : 0 < b) (hb : b ≤ 100) : (am_R (d) 170 0 (am_mem L ext tx tt fe I G) [some (Value.long (lN a)), none, some (Value.long (lN b)), none, some (Value.int part), none, none, none, none, none, none] []) = some (some (Value.long (lN (low a b part))), (am_mem L ext tx tt fe I G)) := by
  refine wp_eq (wp_e e_170_0 ?_)
  have key : ∀ q p : Nat, p < 2 ^ 31 → q ≤ 100 → Nat.gcd q p = Nat.gcd b a → wp (am_R (d) 170 1 (am_mem L ext tx tt fe I G) [some (Value.long (lN a)), none, some (Value.long (lN b)), none, some (Value.int part), some (Value.long (lN p)), none, some (Value.long (lN q)), none, none, none] []) (fun v M => v = some (Value.long (lN (low a b part))) ∧ M = (am_mem L ext tx tt fe I G)) := by
    intro q
    induction q using Nat.strongRecOn with
    | _ q ih =>
      intro p hp hq hg
      refine wp_e e_170_1 ?_
      by_cases hz : q = 0
      · refine wp_t ((lcmp0 (by omega)).mpr hz) (wp_e e_170_3 ?_)
        subst hz
        rw [Nat.gcd_zero_left] at hg
        have hpos : 0 < p := by rw [hg]; exact Nat.gcd_pos_of_pos_left _ h0
        unfold low
        by_cases hpt : part = 0
        · refine wp_t hpt (wp_e e_170_4 (wp_c (by rw [nzl hpos (by omega)]; rfl) (wp_e e_170_6 (wp_r ⟨?_, rfl⟩))))
          rw [if_pos hpt, pk_lDiv (by omega) hpos (by omega), hg]
        · refine wp_f hpt (wp_e e_170_5 (wp_c (by rw [nzl hpos (by omega)]; rfl) (wp_e e_170_6 (wp_r ⟨?_, rfl⟩))))
          rw [if_neg hpt, pk_lDiv (by omega) hpos (by omega), hg]
      · refine wp_f (fun e => hz ((lcmp0 (by omega)).mp e)) (wp_e e_170_2 (wp_c (by rw [nzl (by omega) (by omega)]; rfl) ?_))
        have hm := Nat.mod_lt p (show 0 < q by omega)
        rw [pk_lRem (by omega) (by omega) (by omega)]
        refine wp_l (lq_e (lq_e (lq_e (lq_e (lq_e (lq_e (lq_e (lq_e (lq_e (lq_n (lq_e lq_0))))))))))) (ih (p % q) hm q (by omega) (by omega) ?_)
        rw [← hg]
        exact (Nat.gcd_rec q p).symm
  exact key b a ha hb rfl
end B6
