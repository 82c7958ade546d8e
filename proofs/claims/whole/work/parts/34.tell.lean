/-! PURE, 4: what a text says (class) -/
def jn (c x y : Int32) : Int32 := if c = -61 then (if x = y then 1 else 0) else if c = -60 then (if x < y then 1 else 0) else if c = -45 then x - y else if c = -43 then x + y else if c = -10 then (if x = 0 then 0 else if y = 0 then 0 else 1) else if c = -9 then (if x = 0 then (if y = 0 then 0 else 1) else 1) else x * y
def wn (nm : Nat → Int32) (c : Int32) : Int32 := if c < 10000 then c else if c - 10000 < 6 then nm (c - 10000).toNatClampNeg else 0
/-- one deed on a row of numbers, the last first -/
def wv1 (nm : Nat → Int32) (c : Int32) (st : List Int32) : Option (List Int32) :=
  if c < 0 then
    (if c = -11 ∨ c = -3 then (match st with
      | x :: r => some ((if c = -3 then -x else if x = 0 then 1 else 0) :: r)
      | [] => none)
    else (match st with
      | y :: x :: r => some (jn c x y :: r)
      | _ => none))
  else if st.length < 40 then some (wn nm c :: st) else none
def wv (nm : Nat → Int32) : List Int32 → List Int32 → Int32
  | [], st => (match st with | [x] => x | _ => 0)
  | c :: cs, st => (match wv1 nm c st with | some st' => wv nm cs st' | none => 0)
theorem wn_c {nm nm' : Nat → Int32} (h : ∀ k, k < 6 → nm k = nm' k) {c : Int32} (hc : ¬ c < 0) : wn nm c = wn nm' c := by
  unfold wn
  by_cases h1 : c < 10000
  · rw [if_pos h1, if_pos h1]
  · rw [if_neg h1, if_neg h1]
    by_cases h2 : c - 10000 < 6
    · rw [if_pos h2, if_pos h2]
      refine h _ ?_
      have e1 : c.toInt ≥ 10000 := by
        have := fa_lt c 10000
        rw [this] at h1
        have e : (10000 : Int32).toInt = 10000 := rfl
        omega
      have e2 := fb_rng c
      have e3 : (c - 10000).toInt = c.toInt - 10000 := by
        have e : (10000 : Int32).toInt = 10000 := rfl
        rw [fb_subI] <;> rw [e] <;> omega
      rw [fa_lt, e3] at h2
      have e : (6 : Int32).toInt = 6 := rfl
      show (c - 10000).toInt.toNat < 6
      omega
    · rw [if_neg h2, if_neg h2]
theorem wv1_c {nm nm' : Nat → Int32} (h : ∀ k, k < 6 → nm k = nm' k) (c : Int32) (st : List Int32) : wv1 nm c st = wv1 nm' c st := by
  unfold wv1
  by_cases hc : c < 0
  · rw [if_pos hc, if_pos hc]
  · rw [if_neg hc, if_neg hc, wn_c h hc]
theorem wv_c {nm nm' : Nat → Int32} (h : ∀ k, k < 6 → nm k = nm' k) : ∀ (cs st : List Int32), wv nm cs st = wv nm' cs st
  | [], st => rfl
  | c :: cs, st => by
    show (match wv1 nm c st with | some st' => wv nm cs st' | none => 0) = (match wv1 nm' c st with | some st' => wv nm' cs st' | none => 0)
    rw [wv1_c h]
    cases wv1 nm' c st with
    | none => rfl
    | some st' => exact wv_c h cs st'
def skr (I : Nat → Nat → Int32) : List Int32 → Prop
  | [] => True
  | x :: r => I 44 r.length = x ∧ skr I r
def codr (I : Nat → Nat → Int32) (r : Nat) : Nat → List Int32 → Prop
  | _, [] => True
  | k, c :: cs => I r k = c ∧ codr I r (k + 1) cs
theorem skr_u {I : Nat → Nat → Int32} {k : Nat} {v : Int32} : ∀ st : List Int32, st.length ≤ k → skr I st → skr (am_u2 I 44 k v) st
  | [], _, _ => trivial
  | x :: r, hk, h => by
    have hk : r.length + 1 ≤ k := hk
    refine ⟨?_, skr_u r (by omega) h.2⟩
    rw [u2_k, if_neg (by omega)]
    exact h.1
theorem codr_f {I I' : Nat → Nat → Int32} {r : Nat} (h : I' r = I r) : ∀ (cs : List Int32) (k : Nat), codr I r k cs → codr I' r k cs
  | [], _, _ => trivial
  | c :: cs, k, hc => ⟨by rw [h]; exact hc.1, codr_f h cs (k + 1) hc.2⟩
def wi (most x : Int32) : Int32 := if (0 : Int32) < (if most < x then most else x) then (if most < x then most else x) else 0
section B4
variable {d L : Nat} {ext : List (Nat × Nat)} {tx : Nat → Nat} {tt : Nat} {fe : Nat → Nat → Option Nat} {I : Nat → Nat → Int32} {G : Nat → Nat → Int64}
theorem s_64 {c x y : Int32} : (am_R (d) 64 0 (am_mem L ext tx tt fe I G) [some (Value.int c), some (Value.int x), some (Value.int y)] []) = some (some (Value.int (jn c x y)), (am_mem L ext tx tt fe I G)) := by
  rw [e_64_0]
  unfold jn
  by_cases h1 : c = -61
  · rw [if_pos h1, if_pos h1, e_64_15]
    by_cases h : x = y
    · rw [if_pos h, if_pos h, e_64_16, e_64_18]
    · rw [if_neg h, if_neg h, e_64_17, e_64_18]
  rw [if_neg h1, if_neg h1]
  by_cases h2 : c = -60
  · rw [if_pos h2, if_pos h2, e_64_11]
    by_cases h : x < y
    · rw [if_pos h, if_pos h, e_64_12, e_64_14]
    · rw [if_neg h, if_neg h, e_64_13, e_64_14]
  rw [if_neg h2, if_neg h2]
  by_cases h3 : c = -45
  · rw [if_pos h3, if_pos h3, e_64_20]
  rw [if_neg h3, if_neg h3]
  by_cases h4 : c = -43
  · rw [if_pos h4, if_pos h4, e_64_19]
  rw [if_neg h4, if_neg h4]
  by_cases h5 : c = -10
  · rw [if_pos h5, if_pos h5, e_64_6]
    by_cases h : x = 0
    · rw [if_pos h, if_pos h, e_64_9, e_64_10]
    · rw [if_neg h, if_neg h, e_64_7]
      by_cases h' : y = 0
      · rw [if_pos h', if_pos h', e_64_9, e_64_10]
      · rw [if_neg h', if_neg h', e_64_8, e_64_10]
  rw [if_neg h5, if_neg h5]
  by_cases h6 : c = -9
  · rw [if_pos h6, if_pos h6, e_64_1]
    by_cases h : x = 0
    · rw [if_pos h, if_pos h, e_64_2]
      by_cases h' : y = 0
      · rw [if_pos h', if_pos h', e_64_4, e_64_5]
      · rw [if_neg h', if_neg h', e_64_3, e_64_5]
    · rw [if_neg h, if_neg h, e_64_3, e_64_5]
  rw [if_neg h6, if_neg h6, e_64_21]
theorem s_63 {c : Int32} (h1 : ¬ c < 10000) : (am_R (d) 63 0 (am_mem L ext tx tt fe I G) [some (Value.ref 42), some (Value.int (c - 10000))] []) = some (some (Value.int (wn (I 43) c)), (am_mem L ext tx tt fe I G)) := by
  unfold wn
  rw [if_neg h1, e_63_0]
  by_cases h2 : c - 10000 < 6
  · rw [if_pos h2, if_pos h2, e_63_1]
    have h3 : am_inb (c - 10000) 6 = true := by
      refine decide_eq_true ?_
      have e1 : c.toInt ≥ 10000 := by
        rw [fa_lt] at h1
        have e : (10000 : Int32).toInt = 10000 := rfl
        omega
      have e2 := fb_rng c
      have e3 : (c - 10000).toInt = c.toInt - 10000 := by
        have e : (10000 : Int32).toInt = 10000 := rfl
        rw [fb_subI] <;> rw [e] <;> omega
      rw [fa_lt, e3] at h2
      have e : (6 : Int32).toInt = 6 := rfl
      have e0 : (0 : Int32).toInt = 0 := rfl
      rw [fa_lt, e3, e0]
      show ¬ (_ ∨ 6 ≤ (c - 10000).toInt.toNat)
      omega
    rw [h3]
    simp only [Bool.and_true, cond_true]
    rw [e_63_3]
  · rw [if_neg h2, if_neg h2, e_63_2, e_63_3]
/-- a formula's worth, from any place of it on -/
theorem s_62l {r n : Nat} (hr : (am_S0 L ++ ext)[r]? = some (20, n)) (hn : n < 2 ^ 31) (hr44 : r ≠ 44) : ∀ (cs st : List Int32) (k : Nat) (I : Nat → Nat → Int32), k + cs.length = n → codr I r k cs → skr I st → st.length ≤ 40 → wp (am_R (d + 1) 62 1 (am_mem L ext tx tt fe I G) [some (Value.ref 42), some (Value.ref r), some (Value.int (nI st.length)), some (Value.int (nI k)), none, none] []) (fun v M => v = some (.int (wv (I 43) cs st)) ∧ ∃ I', M = (am_mem L ext tx tt fe (I') G) ∧ fr [44] I I') := by
  intro cs
  induction cs with
  | nil =>
    intro st k I hk hc hs hl
    have e : k = n := by simpa using hk
    subst e
    refine wp_e e_62_1 (wp_c (by rw [kd_of hr]; rfl) ?_)
    rw [ln_of hr]
    refine wp_f (nI_nlt (Nat.le_refl _) hn) (wp_e e_62_25 ?_)
    have done : ∀ v : Int32, wp (some (some (.int v), (am_mem L ext tx tt fe I G))) (fun v' M => v' = some (.int v) ∧ ∃ I', M = (am_mem L ext tx tt fe (I') G) ∧ fr [44] I I') := fun v => wp_r ⟨rfl, I, rfl, fr_r _ _⟩
    match st, hs, hl with
    | [], hs, hl =>
      refine wp_f (by show ¬ nI 0 = (1 : Int32); decide) (wp_e e_62_27 (wp_e e_62_28 (done 0)))
    | [x], hs, hl =>
      refine wp_t (show nI 1 = (1 : Int32) from rfl) (wp_e e_62_26 (wp_c rfl (wp_e e_62_28 ?_)))
      have e : I 44 (0 : Int32).toNatClampNeg = x := hs.1
      rw [e]
      exact done x
    | x :: y :: r', hs, hl =>
      have hl : r'.length + 1 + 1 ≤ 40 := hl
      refine wp_f (show ¬ nI (r'.length + 1 + 1) = (1 : Int32) from fun e => ?_) (wp_e e_62_27 (wp_e e_62_28 (done 0)))
      have := (nI_eq (a := r'.length + 1 + 1) (b := 1) (by omega) (by omega)).mp e
      omega
  | cons c cs ih =>
    intro st k I hk hc hs hl
    have hk : k + (cs.length + 1) = n := hk
    have hcl := nI_clamp (n := k) (by omega)
    refine wp_e e_62_1 (wp_c (by rw [kd_of hr]; rfl) ?_)
    rw [ln_of hr]
    refine wp_t (nI_lt (by omega) hn) (wp_e e_62_2 (wp_c (by rw [kd_of hr, ln_of hr, ib (by omega) hn]; rfl) ?_))
    rw [hcl, hc.1]
    -- how it goes on with a new row of numbers
    have go : ∀ (I1 : Nat → Nat → Int32) (st' : List Int32) (l4 l5 : Option Value), fr [44] I I1 → wv1 (I 43) c st = some st' → skr I1 st' → st'.length ≤ 40 → wp (am_R (d + 1) 62 24 (am_mem L ext tx tt fe (I1) G) [some (Value.ref 42), some (Value.ref r), some (Value.int (nI st'.length)), some (Value.int (nI k)), l4, l5] []) (fun v M => v = some (.int (wv (I 43) (c :: cs) st)) ∧ ∃ I', M = (am_mem L ext tx tt fe (I') G) ∧ fr [44] I I') := by
      intro I1 st' l4 l5 hf hw hs' hl'
      have hi := ih st' (k + 1) I1 (by omega) (codr_f (hf r (by simpa using hr44)) _ _ hc.2) hs' hl'
      have e43 : I1 43 = I 43 := hf 43 (by decide)
      have e0 : wv (I 43) (c :: cs) st = wv (I 43) cs st' := by
        show (match wv1 (I 43) c st with | some st' => wv (I 43) cs st' | none => 0) = _
        rw [hw]
      rw [e43] at hi
      have step : am_R (d + 1) 62 24 (am_mem L ext tx tt fe (I1) G) [some (Value.ref 42), some (Value.ref r), some (Value.int (nI st'.length)), some (Value.int (nI k)), l4, l5] [] = am_R (d + 1) 62 1 (am_mem L ext tx tt fe (I1) G) [some (Value.ref 42), some (Value.ref r), some (Value.int (nI st'.length)), some (Value.int (nI k + 1)), l4, l5] [] := (am_R_eq _ _ _ _ _ _).trans rfl
      rw [step, nI_1]
      refine wp_l (lq_e (lq_e (lq_e (lq_e (lq_n (lq_n lq_0)))))) (wp_m hi ?_)
      rintro v M ⟨rfl, I2, rfl, h2⟩
      exact ⟨by rw [e0], I2, rfl, fr_t hf h2⟩
    have stop : wv1 (I 43) c st = none → wp (some (some (.int 0), (am_mem L ext tx tt fe I G))) (fun v M => v = some (.int (wv (I 43) (c :: cs) st)) ∧ ∃ I', M = (am_mem L ext tx tt fe (I') G) ∧ fr [44] I I') := by
      intro hw
      refine wp_r ⟨?_, I, rfl, fr_r _ _⟩
      show _ = some (Value.int (match wv1 (I 43) c st with | some st' => wv (I 43) cs st' | none => 0))
      rw [hw]
    by_cases h0 : c < 0
    · refine wp_t h0 ?_
      -- a deed
      have one : (c = -11 ∨ c = -3) → wp (am_R (d + 1) 62 11 (am_mem L ext tx tt fe I G) [some (Value.ref 42), some (Value.ref r), some (Value.int (nI st.length)), some (Value.int (nI k)), some (Value.int c), none] []) (fun v M => v = some (.int (wv (I 43) (c :: cs) st)) ∧ ∃ I', M = (am_mem L ext tx tt fe (I') G) ∧ fr [44] I I') := by
        intro hc1
        refine wp_e e_62_11 ?_
        match st, hs, hl, go, stop with
        | [], hs, hl, go, stop =>
          refine wp_t (by show nI 0 < (1 : Int32); decide) (wp_e e_62_12 (stop ?_))
          unfold wv1
          rw [if_pos h0, if_pos hc1]
        | x :: r', hs, hl, go, stop =>
          have hl : r'.length + 1 ≤ 40 := hl
          have hx : I 44 r'.length = x := hs.1
          have hcl2 := nI_clamp (n := r'.length) (by omega)
          refine wp_f (show ¬ nI (r'.length + 1) < (1 : Int32) from nI_nlt (a := r'.length + 1) (b := 1) (by omega) (by omega)) (wp_e e_62_13 ?_)
          rw [show nI (x :: r').length - 1 = nI r'.length from nI_pred _, ib (n := r'.length) (by omega) (by omega)]
          refine wp_c rfl ?_
          rw [hcl2, hx]
          have fin : ∀ z : Int32, z = (if c = -3 then -x else if x = 0 then 1 else 0) → wp (am_R (d + 1) 62 18 (am_mem L ext tx tt fe I G) [some (Value.ref 42), some (Value.ref r), some (Value.int (nI (r'.length + 1))), some (Value.int (nI k)), some (Value.int c), some (Value.int x)] [Value.int z, Value.int (nI r'.length), Value.ref 44]) (fun v M => v = some (.int (wv (I 43) (c :: cs) (x :: r'))) ∧ ∃ I', M = (am_mem L ext tx tt fe (I') G) ∧ fr [44] I I') := by
            intro z hz
            refine wp_e e_62_18 (wp_c (by rw [ib (n := r'.length) (by omega) (by omega)]; rfl) ?_)
            rw [hcl2]
            refine go (am_u2 I 44 r'.length z) (z :: r') _ _ (fr_2 (by decide)) ?_ ⟨u2_s _ _ _ _, skr_u r' (Nat.le_refl _) hs.2⟩ hl
            unfold wv1
            rw [if_pos h0, if_pos hc1, hz]
          by_cases h3 : c = -3
          · refine wp_t h3 (wp_e e_62_14 (fin _ ?_))
            rw [if_pos h3]
          · refine wp_f h3 (wp_e e_62_15 ?_)
            by_cases hx0 : x = 0
            · refine wp_t hx0 (wp_e e_62_16 (fin _ ?_))
              rw [if_neg h3, if_pos hx0]
            · refine wp_f hx0 (wp_e e_62_17 (fin _ ?_))
              rw [if_neg h3, if_neg hx0]
      refine wp_e e_62_9 ?_
      by_cases h11 : c = -11
      · exact wp_t h11 (one (Or.inl h11))
      refine wp_f h11 (wp_e e_62_10 ?_)
      by_cases h3 : c = -3
      · exact wp_t h3 (one (Or.inr h3))
      refine wp_f h3 (wp_e e_62_19 ?_)
      have hno : ¬ (c = -11 ∨ c = -3) := fun h => h.elim h11 h3
      match st, hs, hl, go, stop with
      | [], hs, hl, go, stop =>
        refine wp_t (by show nI 0 < (2 : Int32); decide) (wp_e e_62_20 (stop ?_))
        unfold wv1
        rw [if_pos h0, if_neg hno]
      | [x], hs, hl, go, stop =>
        refine wp_t (by show nI 1 < (2 : Int32); decide) (wp_e e_62_20 (stop ?_))
        unfold wv1
        rw [if_pos h0, if_neg hno]
      | y :: x :: r', hs, hl, go, stop =>
        have hl : r'.length + 1 + 1 ≤ 40 := hl
        have hy : I 44 (r'.length + 1) = y := hs.1
        have hx : I 44 r'.length = x := hs.2.1
        have hcl2 := nI_clamp (n := r'.length) (by omega)
        have hcl3 := nI_clamp (n := r'.length + 1) (by omega)
        refine wp_f (show ¬ nI (r'.length + 1 + 1) < (2 : Int32) from nI_nlt (a := r'.length + 1 + 1) (b := 2) (by omega) (by omega)) (wp_e e_62_21 ?_)
        rw [show nI (y :: x :: r').length + (-1) = nI (r'.length + 1) from pk_m1 _]
        refine wp_e e_62_22 ?_
        rw [show nI (r'.length + 1) - 1 = nI r'.length from nI_pred _, ib (n := r'.length) (by omega) (by omega), ib (n := r'.length + 1) (by omega) (by omega)]
        refine wp_c rfl ?_
        rw [hcl2, hcl3, hx, hy]
        refine wp_p s_64 (wp_e e_62_23 (wp_c (by rw [ib (n := r'.length) (by omega) (by omega)]; rfl) ?_))
        rw [hcl2]
        refine go (am_u2 I 44 r'.length (jn c x y)) (jn c x y :: r') _ _ (fr_2 (by decide)) ?_ ⟨u2_s _ _ _ _, skr_u r' (Nat.le_refl _) hs.2.2⟩ (by show r'.length + 1 ≤ 40; omega)
        unfold wv1
        rw [if_pos h0, if_neg hno]
    · refine wp_f h0 (wp_e e_62_3 ?_)
      by_cases h40 : st.length < 40
      · refine wp_t (show nI st.length < (40 : Int32) from nI_lt (b := 40) h40 (by omega)) (wp_e e_62_5 ?_)
        have hcl2 := nI_clamp (n := st.length) (by omega)
        have fin : wp (am_R (d + 1) 62 8 (am_mem L ext tx tt fe I G) [some (Value.ref 42), some (Value.ref r), some (Value.int (nI st.length)), some (Value.int (nI k)), some (Value.int c), none] [Value.int (wn (I 43) c), Value.int (nI st.length), Value.ref 44]) (fun v M => v = some (.int (wv (I 43) (c :: cs) st)) ∧ ∃ I', M = (am_mem L ext tx tt fe (I') G) ∧ fr [44] I I') := by
          refine wp_e e_62_8 (wp_c (by rw [ib (n := st.length) (by omega) (by omega)]; rfl) ?_)
          rw [hcl2, nI_1]
          refine go (am_u2 I 44 st.length (wn (I 43) c)) (wn (I 43) c :: st) _ _ (fr_2 (by decide)) ?_ ⟨u2_s _ _ _ _, skr_u st (Nat.le_refl _) hs⟩ (by show st.length + 1 ≤ 40; omega)
          unfold wv1
          rw [if_neg h0, if_pos h40]
        by_cases h1 : c < 10000
        · refine wp_t h1 (wp_e e_62_6 ?_)
          have e : wn (I 43) c = c := if_pos h1
          rw [e] at fin
          exact fin
        · exact wp_f h1 (wp_e e_62_7 (wp_p (s_63 h1) fin))
      · refine wp_f (show ¬ nI st.length < (40 : Int32) from nI_nlt (b := 40) (by omega) (by omega)) (wp_e e_62_4 (stop ?_))
        unfold wv1
        rw [if_neg h0, if_neg h40]
theorem s_62 {r : Nat} {cs : List Int32} (hr : (am_S0 L ++ ext)[r]? = some (20, cs.length)) (hn : cs.length < 2 ^ 31) (hr44 : r ≠ 44) (hc : codr I r 0 cs) : wp (am_R (d + 1) 62 0 (am_mem L ext tx tt fe I G) [some (Value.ref 42), some (Value.ref r), none, none, none, none] []) (fun v M => v = some (.int (wv (I 43) cs [])) ∧ ∃ I', M = (am_mem L ext tx tt fe (I') G) ∧ fr [44] I I') := by
  refine wp_e e_62_0 ?_
  exact s_62l hr hn hr44 cs [] 0 I (by simp) hc trivial (by simp)
theorem s_61 {x m : Int32} : (am_R (d + 1) 61 0 (am_mem L ext tx tt fe I G) [some (Value.int x), some (Value.int m)] []) = some (some (Value.int (wi m x)), (am_mem L ext tx tt fe I G)) := e_61_0
/-- the cell a is a text of these formulas -/
def arr (L : Nat) (ext : List (Nat × Nat)) (I : Nat → Nat → Int32) (a : Nat) (cs : List Int32) : Prop := (a = 24 ∨ a = 25 ∨ a = 26 ∨ 77 ≤ a) ∧ (am_S0 L ++ ext)[a]? = some (20, cs.length) ∧ codr I a 0 cs ∧ cs.length ≤ 160
def txo (L : Nat) (ext : List (Nat × Nat)) (F : Nat → Nat → Option Nat) (I : Nat → Nat → Int32) (a : Nat) (cs cd cl : List Int32) : Prop := (a = 27 ∨ 77 ≤ a) ∧ (am_S0 L ++ ext)[a]? = some (8, 3) ∧ ∃ a0 a1 a2, F a 0 = some a0 ∧ F a 1 = some a1 ∧ F a 2 = some a2 ∧ arr L ext I a0 cs ∧ arr L ext I a1 cd ∧ arr L ext I a2 cl
/-- cells that no text is made of -/
def ntx (S : List Nat) : Prop := ∀ a ∈ S, a < 77 ∧ a ≠ 24 ∧ a ≠ 25 ∧ a ≠ 26
theorem arr_f {L : Nat} {ext : List (Nat × Nat)} {I I' : Nat → Nat → Int32} {S : List Nat} (hS : ntx S) (h : fr S I I') {a : Nat} {cs : List Int32} (ha : arr L ext I a cs) : arr L ext I' a cs := by
  obtain ⟨h1, h2, h3, h4⟩ := ha
  refine ⟨h1, h2, codr_f (h a (fun hm => ?_)) cs 0 h3, h4⟩
  obtain ⟨g1, g2, g3, g4⟩ := hS a hm
  omega
theorem txo_f {L : Nat} {ext : List (Nat × Nat)} {F : Nat → Nat → Option Nat} {I I' : Nat → Nat → Int32} {S : List Nat} (hS : ntx S) (h : fr S I I') {a : Nat} {cs cd cl : List Int32} (ha : txo L ext F I a cs cd cl) : txo L ext F I' a cs cd cl := by
  obtain ⟨h1, h2, a0, a1, a2, g0, g1, g2, k0, k1, k2⟩ := ha
  exact ⟨h1, h2, a0, a1, a2, g0, g1, g2, arr_f hS h k0, arr_f hS h k1, arr_f hS h k2⟩
theorem Fx_any {a r : Nat} (h : a ≠ 42) : am_Fx tx r fe a = am_Fx tx tt fe a := by
  rw [← Fx_tt (tt := tt) (r := r), u2_a h]
theorem txo_tt {I : Nat → Nat → Int32} {a r : Nat} {cs cd cl : List Int32} (ha : txo L ext (am_Fx tx tt fe) I a cs cd cl) : txo L ext (am_Fx tx r fe) I a cs cd cl := by
  have h1 := ha.1
  unfold txo at ha ⊢
  rw [Fx_any (tt := tt) (by omega)]
  exact ha
theorem arr_r {a : Nat} {cs : List Int32} (ha : arr L ext I a cs) : (am_S0 L ++ ext)[a]? = some (20, cs.length) ∧ cs.length < 2 ^ 31 ∧ a ≠ 44 ∧ codr I a 0 cs := by
  obtain ⟨h1, h2, h3, h4⟩ := ha
  exact ⟨h2, by omega, by omega, h3⟩
theorem s_58 {cs cd cl : List Int32} (ht : txo L ext (am_Fx tx tt fe) I tt cs cd cl) : wp (am_R (d + 2) 58 0 (am_mem L ext tx tt fe I G) [some (Value.ref 42)] []) (fun v M => v = some (.int (wi 999 (wv (I 43) cs []))) ∧ ∃ I', M = (am_mem L ext tx tt fe (I') G) ∧ fr [44] I I') := by
  obtain ⟨h1, h2, a0, a1, a2, g0, g1, g2, k0, k1, k2⟩ := ht
  obtain ⟨q1, q2, q3, q4⟩ := arr_r k0
  refine wp_e e_58_0 (wp_c (by rw [kd_of h2]; rfl) ?_)
  rw [g0]
  refine wp_e e_58_1 (wp_b (s_62 q1 q2 q3 q4) ?_)
  rintro v M ⟨rfl, I', rfl, hf⟩
  exact wp_e e_58_2 (wp_p s_61 (wp_e e_58_3 (wp_r ⟨rfl, I', rfl, hf⟩)))
theorem s_59 {cs cd cl : List Int32} {has : Int32} (ht : txo L ext (am_Fx tx tt fe) I tt cs cd cl) : wp (am_R (d + 2) 59 0 (am_mem L ext tx tt fe I G) [some (Value.ref 42), some (Value.int has)] []) (fun v M => v = some (.int (if has < wi 999 (wv (I 43) cd []) then has else wi 999 (wv (I 43) cd []))) ∧ ∃ I', M = (am_mem L ext tx tt fe (I') G) ∧ fr [44] I I') := by
  obtain ⟨h1, h2, a0, a1, a2, g0, g1, g2, k0, k1, k2⟩ := ht
  obtain ⟨q1, q2, q3, q4⟩ := arr_r k1
  refine wp_e e_59_0 (wp_c (by rw [kd_of h2]; rfl) ?_)
  rw [g1]
  refine wp_e e_59_1 (wp_b (s_62 q1 q2 q3 q4) ?_)
  rintro v M ⟨rfl, I', rfl, hf⟩
  exact wp_e e_59_2 (wp_p s_61 (wp_e e_59_3 (wp_r ⟨rfl, I', rfl, hf⟩)))
theorem s_60 {cs cd cl : List Int32} (ht : txo L ext (am_Fx tx tt fe) I tt cs cd cl) : wp (am_R (d + 2) 60 0 (am_mem L ext tx tt fe I G) [some (Value.ref 42)] []) (fun v M => v = some (.int (wi 9999 (wv (I 43) cl []))) ∧ ∃ I', M = (am_mem L ext tx tt fe (I') G) ∧ fr [44] I I') := by
  obtain ⟨h1, h2, a0, a1, a2, g0, g1, g2, k0, k1, k2⟩ := ht
  obtain ⟨q1, q2, q3, q4⟩ := arr_r k2
  refine wp_e e_60_0 (wp_c (by rw [kd_of h2]; rfl) ?_)
  rw [g2]
  refine wp_e e_60_1 (wp_b (s_62 q1 q2 q3 q4) ?_)
  rintro v M ⟨rfl, I', rfl, hf⟩
  exact wp_e e_60_2 (wp_p s_61 (wp_e e_60_3 (wp_r ⟨rfl, I', rfl, hf⟩)))
/-- the names, told -/
def nmf (D C i c full was : Int32) (k : Nat) : Int32 := match k with
  | 0 => i
  | 1 => D
  | 2 => C
  | 3 => c
  | 4 => full
  | _ => was
theorem s_57 {D C i c full was : Int32} (hD : I 43 1 = D) (hC : I 43 2 = C) : wp (am_R (d) 57 0 (am_mem L ext tx tt fe I G) [some (Value.ref 42), some (Value.int i), some (Value.int c), some (Value.int full), some (Value.int was)] []) (fun v M => v = none ∧ ∃ I', M = (am_mem L ext tx tt fe (I') G) ∧ fr [43] I I' ∧ ∀ k, k < 6 → I' 43 k = nmf D C i c full was k) := by
  refine wp_e e_57_0 (wp_c rfl (wp_r ⟨rfl, _, rfl, ?_, ?_⟩))
  · exact fr_t (fr_2 (by decide)) (fr_t (fr_2 (by decide)) (fr_t (fr_2 (by decide)) (fr_2 (by decide))))
  · intro k hk
    have c0 : (0 : Int32).toNatClampNeg = 0 := rfl
    have c3 : (3 : Int32).toNatClampNeg = 3 := rfl
    have c4 : (4 : Int32).toNatClampNeg = 4 := rfl
    have c5 : (5 : Int32).toNatClampNeg = 5 := rfl
    rw [c0, c3, c4, c5]
    simp only [u2_k]
    obtain rfl | rfl | rfl | rfl | rfl | rfl : k = 0 ∨ k = 1 ∨ k = 2 ∨ k = 3 ∨ k = 4 ∨ k = 5 := by omega
    · rfl
    · exact hD
    · exact hC
    · rfl
    · rfl
    · rfl
theorem s_56 {r : Nat} {C D : Int32} (h5 : 5 ≤ r) : wp (am_R (d) 56 0 (am_mem L ext tx tt fe I G) [some (Value.ref 42), some (Value.ref r), some (Value.int C), some (Value.int D)] []) (fun v M => v = none ∧ ∃ I', M = am_mem L ext tx r fe I' G ∧ fr [43] I I' ∧ I' 43 1 = D ∧ I' 43 2 = C) := by
  refine wp_e e_56_0 (wp_c (by rw [Nat.ble_eq_true_of_le h5]; rfl) (wp_r ⟨rfl, am_u2 (am_u2 I 43 2 C) 43 1 D, ?_, ?_, ?_, ?_⟩))
  · rw [Fx_tt]
    rfl
  · exact fr_t (fr_2 (by decide)) (fr_2 (by decide))
  · exact u2_s _ _ _ _
  · rw [u2_k, if_neg (by decide), u2_s]
end B4
