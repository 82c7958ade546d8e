/-! PURE, 3: uneven; where a pourer goes -/
def mxl (f : Nat → Int32) : Nat → Int32
  | 0 => f 0
  | k + 1 => if mxl f k < f (k + 1) then f (k + 1) else mxl f k
def mnl (f : Nat → Int32) : Nat → Int32
  | 0 => f 0
  | k + 1 => if f (k + 1) < mnl f k then f (k + 1) else mnl f k
def un (f : Nat → Int32) (n : Nat) : Int32 := mxl f (n - 1) - mnl f (n - 1)
theorem mxl_c {f g : Nat → Int32} : ∀ k : Nat, (∀ j, j ≤ k → f j = g j) → mxl f k = mxl g k
  | 0, h => h 0 (Nat.le_refl 0)
  | k + 1, h => by
    show (if mxl f k < f (k + 1) then f (k + 1) else mxl f k) = (if mxl g k < g (k + 1) then g (k + 1) else mxl g k)
    rw [mxl_c k (fun j hj => h j (by omega)), h (k + 1) (Nat.le_refl _)]
theorem mnl_c {f g : Nat → Int32} : ∀ k : Nat, (∀ j, j ≤ k → f j = g j) → mnl f k = mnl g k
  | 0, h => h 0 (Nat.le_refl 0)
  | k + 1, h => by
    show (if f (k + 1) < mnl f k then f (k + 1) else mnl f k) = (if g (k + 1) < mnl g k then g (k + 1) else mnl g k)
    rw [mnl_c k (fun j hj => h j (by omega)), h (k + 1) (Nat.le_refl _)]
theorem un_c {f g : Nat → Int32} {n : Nat} (h0 : 0 < n) (h : ∀ j, j < n → f j = g j) : un f n = un g n := by
  unfold un
  rw [mxl_c (n - 1) (fun j hj => h j (by omega)), mnl_c (n - 1) (fun j hj => h j (by omega))]
def zig (C i : Nat) : Nat := if i / C % 2 = 0 then i % C else C - 1 - i % C
theorem zig_lt {C i : Nat} (h : 0 < C) : zig C i < C := by
  unfold zig
  have := Nat.mod_lt i h
  split <;> omega
def dgs (b : Nat) : Nat → Nat → Nat
  | 0, _ => 0
  | f + 1, n => if n = 0 then 0 else n % b + dgs b f (n / b)
theorem dgs_le (b : Nat) : ∀ f n : Nat, dgs b f n ≤ n
  | 0, n => Nat.zero_le n
  | f + 1, n => by
    show (if n = 0 then 0 else n % b + dgs b f (n / b)) ≤ n
    split
    · omega
    · have h1 := dgs_le b f (n / b)
      have h2 := Nat.div_add_mod n b
      have h3 : n / b ≤ b * (n / b) ∨ b = 0 := by
        rcases Nat.eq_zero_or_pos b with h | h
        · exact Or.inr h
        · exact Or.inl (Nat.le_mul_of_pos_left _ h)
      rcases h3 with h3 | h3
      · omega
      · subst h3
        simp at h1 ⊢
        omega
def wk (f : Nat → Int32) : Nat → Nat
  | 0 => 0
  | k + 1 => if f (k + 1) < f (wk f k) then k + 1 else wk f k
theorem wk_le (f : Nat → Int32) : ∀ k, wk f k ≤ k
  | 0 => Nat.le_refl 0
  | k + 1 => by
    show (if f (k + 1) < f (wk f k) then k + 1 else wk f k) ≤ k + 1
    have := wk_le f k
    split <;> omega
theorem wk_c {f g : Nat → Int32} : ∀ k : Nat, (∀ j, j ≤ k → f j = g j) → wk f k = wk g k
  | 0, h => rfl
  | k + 1, h => by
    show (if f (k + 1) < f (wk f k) then k + 1 else wk f k) = (if g (k + 1) < g (wk g k) then k + 1 else wk g k)
    have e := wk_c k (fun j hj => h j (by omega))
    have l := wk_le g k
    rw [e, h (k + 1) (Nat.le_refl _), h (wk g k) (by omega)]
/-- where a pourer of a kind and a number goes -/
def gz (C kind num i : Nat) (f : Nat → Int32) : Nat := match kind with
  | 0 => (i + num) % C
  | 1 => zig C i
  | 2 => dgs (max C 2) 32 i % C
  | 3 => zig C (i / (num + 1))
  | 4 => (dgs (max C 2) 32 (i + num) + 1) % C
  | _ => if i < num then zig C i else wk f (C - 1)
theorem gz_lt {C kind num i : Nat} {f : Nat → Int32} (h : 0 < C) : gz C kind num i f < C := by
  unfold gz
  split
  · exact Nat.mod_lt _ h
  · exact zig_lt h
  · exact Nat.mod_lt _ h
  · exact zig_lt h
  · exact Nat.mod_lt _ h
  · split
    · exact zig_lt h
    · have := wk_le f (C - 1)
      omega
theorem gz_c {C kind num i : Nat} {f g : Nat → Int32} (h0 : 0 < C) (h : ∀ j, j < C → f j = g j) : gz C kind num i f = gz C kind num i g := by
  unfold gz
  split <;> try rfl
  rw [wk_c (C - 1) (fun j hj => h j (by omega))]
theorem nz {n : Nat} (h0 : 0 < n) (h : n < 2 ^ 31) : am_nz (nI n) = true := decide_eq_true (nI_ne0 h0 h)
theorem n0 : (0 : Int32) = nI 0 := rfl
theorem n1 : (1 : Int32) = nI 1 := rfl
theorem n2 : (2 : Int32) = nI 2 := rfl
section B3
variable {d L : Nat} {ext : List (Nat × Nat)} {tx : Nat → Nat} {tt : Nat} {fe : Nat → Nat → Option Nat} {I : Nat → Nat → Int32} {G : Nat → Nat → Int64}
theorem s_107l {r m n : Nat} (hr : (am_S0 L ++ ext)[r]? = some (20, m)) (hm : n ≤ m) (hn : m < 2 ^ 31) : ∀ k j : Nat, j + 1 + k = n → (am_R (d + 1) 107 1 (am_mem L ext tx tt fe I G) [some (Value.ref r), some (Value.int (nI n)), some (Value.int (mxl (I r) j)), some (Value.int (mnl (I r) j)), some (Value.int (nI (j + 1)))] []) = some (some (Value.int (un (I r) n)), (am_mem L ext tx tt fe I G)) := by
  intro k
  induction k with
  | zero =>
    intro j hj
    rw [e_107_1, if_neg (nI_nlt (by omega) (by omega)), e_107_3]
    unfold un
    rw [show n - 1 = j by omega]
  | succ k ih =>
    intro j hj
    rw [e_107_1, if_pos (nI_lt (by omega) (by omega)), e_107_2, kd_of hr, ln_of hr, ib (by omega) hn]
    simp only [Bool.and_true, cond_true]
    rw [nI_clamp (by omega), nI_1]
    exact ih (j + 1) (by omega)
theorem s_107 {r m n : Nat} (hr : (am_S0 L ++ ext)[r]? = some (20, m)) (h0 : 0 < n) (hm : n ≤ m) (hn : m < 2 ^ 31) : (am_R (d + 1) 107 0 (am_mem L ext tx tt fe I G) [some (Value.ref r), some (Value.int (nI n)), none, none, none] []) = some (some (Value.int (un (I r) n)), (am_mem L ext tx tt fe I G)) := by
  rw [e_107_0, kd_of hr, ln_of hr, show (0 : Int32) = nI 0 from rfl, ib (by omega) hn]
  simp only [Bool.and_true, cond_true]
  rw [nI_clamp (by omega)]
  exact s_107l hr hm hn (n - 1) 0 (by omega)
theorem s_10 {n : Nat} (hc : I 45 3 = nI n) (h0 : 0 < n) (hm : n ≤ 4) : (am_R (d + 2) 10 0 (am_mem L ext tx tt fe I G) [some (Value.ref 45)] []) = some (some (Value.int (un (I 47) n)), (am_mem L ext tx tt fe I G)) := by
  rw [e_10_0, hc, s_107 (r := 47) (m := 4) rfl h0 hm (by omega), Option.bind_some]
  exact e_10_1
theorem s_164l {n : Nat} (hc : I 55 7 = nI n) (hm : n ≤ 4) : ∀ k j : Nat, j + 1 + k = n → (am_R (d) 164 1 (am_mem L ext tx tt fe I G) [some (Value.ref 55), some (Value.int (mxl (I 66) j)), some (Value.int (mnl (I 66) j)), some (Value.int (nI (j + 1)))] []) = some (some (Value.int (un (I 66) n)), (am_mem L ext tx tt fe I G)) := by
  intro k
  induction k with
  | zero =>
    intro j hj
    rw [e_164_1, hc, if_neg (nI_nlt (by omega) (by omega)), e_164_9]
    unfold un
    rw [show n - 1 = j by omega]
  | succ k ih =>
    intro j hj
    have hi := ib (n := j + 1) (N := 4) (by omega) (by omega)
    have hcl := nI_clamp (n := j + 1) (by omega)
    have hx := ih (j + 1) (by omega)
    have e1 : mxl (I 66) (j + 1) = if mxl (I 66) j < I 66 (j + 1) then I 66 (j + 1) else mxl (I 66) j := rfl
    have e2 : mnl (I 66) (j + 1) = if I 66 (j + 1) < mnl (I 66) j then I 66 (j + 1) else mnl (I 66) j := rfl
    rw [e1, e2] at hx
    rw [e_164_1, hc, if_pos (nI_lt (by omega) (by omega)), e_164_2]
    simp only [hi, hcl, Bool.and_true, cond_true]
    by_cases c1 : mxl (I 66) j < I 66 (j + 1)
    · rw [if_pos c1] at hx ⊢
      rw [e_164_3]
      simp only [hi, hcl, Bool.and_true, cond_true]
      rw [e_164_5]
      simp only [hi, hcl, Bool.and_true, cond_true]
      by_cases c2 : I 66 (j + 1) < mnl (I 66) j
      · rw [if_pos c2] at hx ⊢
        rw [e_164_6]
        simp only [hi, hcl, Bool.and_true, cond_true]
        rw [e_164_8, nI_1]
        exact hx
      · rw [if_neg c2] at hx ⊢
        rw [e_164_7, e_164_8, nI_1]
        exact hx
    · rw [if_neg c1] at hx ⊢
      rw [e_164_4, e_164_5]
      simp only [hi, hcl, Bool.and_true, cond_true]
      by_cases c2 : I 66 (j + 1) < mnl (I 66) j
      · rw [if_pos c2] at hx ⊢
        rw [e_164_6]
        simp only [hi, hcl, Bool.and_true, cond_true]
        rw [e_164_8, nI_1]
        exact hx
      · rw [if_neg c2] at hx ⊢
        rw [e_164_7, e_164_8, nI_1]
        exact hx
theorem s_164 {n : Nat} (hc : I 55 7 = nI n) (h0 : 0 < n) (hm : n ≤ 4) : (am_R (d) 164 0 (am_mem L ext tx tt fe I G) [some (Value.ref 55), none, none, none] []) = some (some (Value.int (un (I 66) n)), (am_mem L ext tx tt fe I G)) := by
  rw [e_164_0, show (0 : Int32) = nI 0 from rfl, ib (by omega) (by omega)]
  simp only [Bool.and_true, cond_true]
  rw [nI_clamp (by omega)]
  exact s_164l hc hm (n - 1) 0 (by omega)
theorem s_4 {C i : Nat} (h0 : 0 < C) (hC : C < 2 ^ 31) (hi : i < 2 ^ 31) : (am_R (d) 4 0 (am_mem L ext tx tt fe I G) [some (Value.int (nI i)), some (Value.int (nI C)), none] []) = some (some (Value.int (nI (zig C i))), (am_mem L ext tx tt fe I G)) := by
  have hd : i / C < 2 ^ 31 := Nat.lt_of_le_of_lt (Nat.div_le_self _ _) hi
  have hm := Nat.mod_lt i h0
  rw [e_4_0, nz h0 hC, n2, nz (by omega) (by omega)]
  simp only [Bool.and_true, cond_true]
  rw [pk_rem hi h0 hC, pk_div hi h0 hC, pk_rem hd (by omega) (by omega)]
  unfold zig
  by_cases h : i / C % 2 = 0
  · rw [h, if_pos (show nI 0 = (0 : Int32) from rfl), if_pos rfl, e_4_1, e_4_3]
  · rw [if_neg (nI_ne0 (by omega) (by omega)), if_neg h, e_4_2, e_4_3, n1, pk_sub (by omega), pk_sub (by omega)]
theorem s_182 {C i : Nat} (hc : I 55 7 = nI C) (h0 : 0 < C) (hC : C < 2 ^ 31) (hi : i < 2 ^ 31) : (am_R (d) 182 0 (am_mem L ext tx tt fe I G) [some (Value.ref 55), some (Value.int (nI i))] []) = some (some (Value.int (nI (zig C i))), (am_mem L ext tx tt fe I G)) := by
  have hd : i / C < 2 ^ 31 := Nat.lt_of_le_of_lt (Nat.div_le_self _ _) hi
  have hm := Nat.mod_lt i h0
  rw [e_182_0, hc, nz h0 hC, n2, nz (by omega) (by omega)]
  simp only [Bool.and_true, cond_true]
  rw [pk_div hi h0 hC, pk_rem hd (by omega) (by omega)]
  unfold zig
  by_cases h : i / C % 2 = 0
  · rw [h, if_pos (show nI 0 = (0 : Int32) from rfl), if_pos rfl, e_182_1, hc, nz h0 hC]
    simp only [Bool.and_true, cond_true]
    rw [pk_rem hi h0 hC, e_182_3]
  · rw [if_neg (nI_ne0 (by omega) (by omega)), if_neg h, e_182_2, hc, nz h0 hC]
    simp only [Bool.and_true, cond_true]
    rw [pk_rem hi h0 hC, n1, pk_sub (by omega), pk_sub (by omega), e_182_3]
theorem s_5l {C b n0' : Nat} (h2 : 2 ≤ b) (hb : b < 2 ^ 31) : ∀ f k left sum : Nat, k + f = 32 → left < 2 ^ 31 → (am_R (d) 5 1 (am_mem L ext tx tt fe I G) [some (Value.int (nI n0')), some (Value.int (nI C)), some (Value.int (nI b)), some (Value.int (nI left)), some (Value.int (nI sum)), some (Value.int (nI k))] []) = some (some (Value.int (nI (sum + dgs b f left))), (am_mem L ext tx tt fe I G)) := by
  intro f
  induction f with
  | zero =>
    intro k left sum hk hl
    have e : k = 32 := by omega
    subst e
    rw [e_5_1, if_neg (by decide), e_5_4]
    rfl
  | succ f ih =>
    intro k left sum hk hl
    rw [e_5_1, if_pos (show nI k < (32 : Int32) from nI_lt (a := k) (b := 32) (by omega) (by omega)), e_5_2]
    have hm := Nat.mod_lt left (show 0 < b by omega)
    have hd : left / b < 2 ^ 31 := Nat.lt_of_le_of_lt (Nat.div_le_self _ _) hl
    by_cases h : left = 0
    · subst h
      rw [if_neg (by decide), e_5_4]
      rfl
    · rw [if_pos (show (0 : Int32) < nI left from nI_lt (a := 0) (by omega) hl), e_5_3, nz (by omega) hb]
      simp only [Bool.and_true, cond_true]
      rw [pk_rem hl (by omega) hb, pk_div hl (by omega) hb, nI_add, nI_1, ih (k + 1) (left / b) (sum + left % b) (by omega) hd]
      show _ = some (some (Value.int (nI (sum + (if left = 0 then 0 else left % b + dgs b f (left / b))))), _)
      rw [if_neg h, Nat.add_assoc]
theorem s_5 {C i : Nat} (hC : C < 2 ^ 31) (hi : i < 2 ^ 31) : (am_R (d + 1) 5 0 (am_mem L ext tx tt fe I G) [some (Value.int (nI i)), some (Value.int (nI C)), none, none, none, none] []) = some (some (Value.int (nI (dgs (max C 2) 32 i))), (am_mem L ext tx tt fe I G)) := by
  rw [e_5_0]
  have e : (if nI C < (2 : Int32) then (2 : Int32) else nI C) = nI (max C 2) := by
    rw [n2]
    by_cases h : C < 2
    · rw [if_pos (nI_lt h (by omega)), Nat.max_eq_right (by omega)]
    · rw [if_neg (nI_nlt (by omega) hC), Nat.max_eq_left (by omega)]
  rw [e]
  have := s_5l (d := d + 1) (L := L) (ext := ext) (tx := tx) (tt := tt) (fe := fe) (I := I) (G := G) (C := C) (b := max C 2) (n0' := i) (by omega) (by omega) 32 0 i 0 rfl hi
  rw [Nat.zero_add] at this
  exact this
theorem s_183l {C b : Nat} (hc : I 55 7 = nI C) (h0 : 0 < C) (hC : C < 2 ^ 31) (h2 : 2 ≤ b) (hb : b < 2 ^ 31) {v : Int32} : ∀ f left sum : Nat, left < 2 ^ f → sum + left < 2 ^ 31 → (am_R (d) 183 4 (am_mem L ext tx tt fe I G) [some (Value.ref 55), some (Value.int v), some (Value.int (nI b)), some (Value.int (nI sum)), some (Value.int (nI left))] []) = some (some (Value.int (nI ((sum + dgs b f left) % C))), (am_mem L ext tx tt fe I G)) := by
  intro f
  induction f with
  | zero =>
    intro left sum hl hs
    have e : left = 0 := by simpa using hl
    subst e
    rw [e_183_4, if_neg (by decide), e_183_6, hc, nz h0 hC]
    simp only [Bool.and_true, cond_true]
    rw [pk_rem (by omega) h0 hC]
    rfl
  | succ f ih =>
    intro left sum hl hs
    have hm := Nat.mod_lt left (show 0 < b by omega)
    have hd : left / b < 2 ^ f := by
      rw [Nat.div_lt_iff_lt_mul (by omega)]
      calc left < 2 ^ (f + 1) := hl
        _ = 2 ^ f * 2 := Nat.pow_succ ..
        _ ≤ 2 ^ f * b := Nat.mul_le_mul_left _ h2
    have hdm := Nat.div_add_mod left b
    have hle : left / b ≤ b * (left / b) := Nat.le_mul_of_pos_left _ (by omega)
    by_cases h : left = 0
    · subst h
      rw [e_183_4, if_neg (by decide), e_183_6, hc, nz h0 hC]
      simp only [Bool.and_true, cond_true]
      rw [pk_rem (by omega) h0 hC]
      rfl
    · rw [e_183_4, if_pos (show (0 : Int32) < nI left from nI_lt (a := 0) (by omega) (by omega)), e_183_5, nz (by omega) hb]
      simp only [Bool.and_true, cond_true]
      rw [pk_rem (by omega) (by omega) hb, pk_div (by omega) (by omega) hb, nI_add, ih (left / b) (sum + left % b) hd (by omega)]
      show _ = some (some (Value.int (nI ((sum + (if left = 0 then 0 else left % b + dgs b f (left / b))) % C))), _)
      rw [if_neg h, Nat.add_assoc]
theorem s_183 {C i : Nat} (hc : I 55 7 = nI C) (h0 : 0 < C) (hC : C < 2 ^ 31) (hi : i < 2 ^ 31) : (am_R (d) 183 0 (am_mem L ext tx tt fe I G) [some (Value.ref 55), some (Value.int (nI i)), none, none, none] []) = some (some (Value.int (nI (dgs (max C 2) 32 i % C))), (am_mem L ext tx tt fe I G)) := by
  have k : ∀ b, 2 ≤ b → b < 2 ^ 31 → (am_R (d) 183 3 (am_mem L ext tx tt fe I G) [some (Value.ref 55), some (Value.int (nI i)), none, none, none] [Value.int (nI b)]) = some (some (Value.int (nI (dgs b 32 i % C))), (am_mem L ext tx tt fe I G)) := by
    intro b h2 hb
    rw [e_183_3, n0, s_183l hc h0 hC h2 hb 32 i 0 (by omega) (by omega), Nat.zero_add]
  rw [e_183_0, hc]
  by_cases h : C = 1
  · subst h
    rw [if_pos (show nI 1 = (1 : Int32) from rfl), e_183_1]
    exact k 2 (by omega) (by omega)
  · rw [if_neg (show ¬ nI C = (1 : Int32) from fun e => h ((nI_eq hC (by omega)).mp (show nI C = nI 1 from e))), e_183_2, hc, Nat.max_eq_left (by omega)]
    exact k C (by omega) hC
theorem s_6l {r m n : Nat} (hr : (am_S0 L ++ ext)[r]? = some (20, m)) (hm : n ≤ m) (hn : m < 2 ^ 31) : ∀ k j : Nat, j + 1 + k = n → (am_R (d) 6 1 (am_mem L ext tx tt fe I G) [some (Value.int (nI n)), some (Value.ref r), some (Value.int (nI (wk (I r) j))), some (Value.int (nI (j + 1)))] []) = some (some (Value.int (nI (wk (I r) (n - 1)))), (am_mem L ext tx tt fe I G)) := by
  intro k
  induction k with
  | zero =>
    intro j hj
    rw [e_6_1, if_neg (nI_nlt (by omega) (by omega)), e_6_5, show n - 1 = j by omega]
  | succ k ih =>
    intro j hj
    have hw := wk_le (I r) j
    have hx := ih (j + 1) (by omega)
    have e1 : wk (I r) (j + 1) = if I r (j + 1) < I r (wk (I r) j) then j + 1 else wk (I r) j := rfl
    rw [e1] at hx
    rw [e_6_1, if_pos (nI_lt (by omega) (by omega)), e_6_2, kd_of hr, ln_of hr, ib (by omega) hn, ib (by omega) hn]
    simp only [Bool.and_true, cond_true]
    rw [nI_clamp (by omega), nI_clamp (by omega)]
    by_cases c1 : I r (j + 1) < I r (wk (I r) j)
    · rw [if_pos c1] at hx ⊢
      rw [e_6_3, e_6_4, nI_1]
      exact hx
    · rw [if_neg c1] at hx ⊢
      rw [e_6_4, nI_1]
      exact hx
theorem s_6 {r m n : Nat} (hr : (am_S0 L ++ ext)[r]? = some (20, m)) (h0 : 0 < n) (hm : n ≤ m) (hn : m < 2 ^ 31) : (am_R (d) 6 0 (am_mem L ext tx tt fe I G) [some (Value.int (nI n)), some (Value.ref r), none, none] []) = some (some (Value.int (nI (wk (I r) (n - 1)))), (am_mem L ext tx tt fe I G)) := by
  rw [e_6_0]
  exact s_6l hr hm hn (n - 1) 0 (by omega)
/-- the class's pourer -/
theorem s_3 {p r m C k q i : Nat} (hp : (am_S0 L ++ ext)[p]? = some (1, 2)) (hr : (am_S0 L ++ ext)[r]? = some (20, m)) (hm : C ≤ m) (hn : m < 2 ^ 31) (h0 : 0 < C) (hk : I p 0 = nI k) (hk6 : k < 6) (hq : I p 1 = nI q) (hq9 : q ≤ 9) (hi : i < 1000) : (am_R (d + 2) 3 0 (am_mem L ext tx tt fe I G) [some (Value.ref p), some (Value.int (nI i)), some (Value.int (nI C)), some (Value.ref r)] []) = some (some (Value.int (nI (gz C k q i (I r)))), (am_mem L ext tx tt fe I G)) := by
  rw [e_3_0, if_neg (show ¬ nI C < (1 : Int32) from nI_nlt (a := C) (b := 1) (by omega) (by omega)), e_3_1, kd_of hp]
  simp only [Bool.and_true, cond_true]
  rw [hq, if_neg (nI_pos (by omega)), e_3_3, kd_of hp]
  simp only [Bool.and_true, cond_true]
  have hC : C < 2 ^ 31 := by omega
  have hzz := nz h0 hC
  have hz := zig_lt (i := i) h0
  rw [hk]
  obtain rfl | rfl | rfl | rfl | rfl | rfl : k = 0 ∨ k = 1 ∨ k = 2 ∨ k = 3 ∨ k = 4 ∨ k = 5 := by omega
  · rw [if_pos (by decide), e_3_4, hzz, kd_of hp, hq]
    simp only [Bool.and_true, cond_true]
    rw [nI_add, pk_rem (by omega) h0 hC]
    rfl
  · rw [if_neg (by decide), if_pos (by decide), e_3_5, s_4 h0 hC (by omega), Option.bind_some]
    exact e_3_6
  · rw [if_neg (by decide), if_neg (by decide), if_pos (by decide), e_3_7, s_5 hC (by omega), Option.bind_some]
    refine Eq.trans e_3_8 ?_
    have := dgs_le (max C 2) 32 i
    rw [hzz]
    simp only [Bool.and_true, cond_true]
    rw [pk_rem (by omega) h0 hC]
    rfl
  · rw [if_neg (by decide), if_neg (by decide), if_neg (by decide), if_pos (by decide), e_3_9, hq, nI_1, nz (by omega) (by omega), kd_of hp]
    simp only [Bool.and_true, cond_true]
    rw [pk_div (by omega) (by omega) (by omega), s_4 h0 hC (Nat.lt_of_le_of_lt (Nat.div_le_self _ _) (by omega)), Option.bind_some]
    exact e_3_10
  · rw [if_neg (by decide), if_neg (by decide), if_neg (by decide), if_neg (by decide), if_pos (by decide), e_3_11, hq, kd_of hp]
    simp only [Bool.and_true, cond_true]
    have := dgs_le (max C 2) 32 (i + q)
    rw [nI_add, s_5 hC (by omega), Option.bind_some]
    refine Eq.trans e_3_12 ?_
    rw [hzz]
    simp only [Bool.and_true, cond_true]
    rw [nI_1, pk_rem (by omega) h0 hC]
    rfl
  · rw [if_neg (by decide), if_neg (by decide), if_neg (by decide), if_neg (by decide), if_neg (by decide), e_3_13, hq, kd_of hp]
    simp only [Bool.and_true, cond_true]
    by_cases h : i < q
    · rw [if_pos (nI_lt h (by omega)), e_3_14, s_4 h0 hC (by omega), Option.bind_some]
      refine Eq.trans e_3_15 (e_3_17.trans ?_)
      unfold gz
      rw [if_pos h]
      rfl
    · rw [if_neg (nI_nlt (by omega) (by omega)), e_3_16, s_6 hr h0 hm hn, Option.bind_some]
      refine Eq.trans e_3_17 ?_
      unfold gz
      rw [if_neg h]
      rfl
theorem s_184l {C k q i p : Nat} (hc : I 55 7 = nI C) (h0 : 0 < C) (hC4 : C ≤ 4) {w1 w2 w3 w4 : Int32} : ∀ n j : Nat, j + 1 + n = C → (am_R (d) 184 16 (am_mem L ext tx tt fe I G) [some (Value.ref 55), some (Value.int w1), some (Value.int w2), some (Value.int w3), some (Value.int w4), some (Value.int (nI (wk (I 66) j))), some (Value.int (nI (j + 1)))] []) = some (some (Value.int (nI (wk (I 66) (C - 1)))), (am_mem L ext tx tt fe I G)) := by
  intro n
  induction n with
  | zero =>
    intro j hj
    rw [e_184_16, hc, if_neg (nI_nlt (by omega) (by omega)), e_184_21, show C - 1 = j by omega]
  | succ n ih =>
    intro j hj
    have hw := wk_le (I 66) j
    have hx := ih (j + 1) (by omega)
    have e1 : wk (I 66) (j + 1) = if I 66 (j + 1) < I 66 (wk (I 66) j) then j + 1 else wk (I 66) j := rfl
    rw [e1] at hx
    rw [e_184_16, hc, if_pos (nI_lt (by omega) (by omega)), e_184_17, ib (n := j + 1) (by omega) (by omega), ib (n := wk (I 66) j) (by omega) (by omega)]
    simp only [Bool.and_true, cond_true]
    rw [nI_clamp (by omega), nI_clamp (by omega)]
    by_cases c1 : I 66 (j + 1) < I 66 (wk (I 66) j)
    · rw [if_pos c1] at hx ⊢
      rw [e_184_18, e_184_20, nI_1]
      exact hx
    · rw [if_neg c1] at hx ⊢
      rw [e_184_19, e_184_20, nI_1]
      exact hx
/-- the model's -/
theorem s_184 {p C k q i : Nat} (hp : p < 6) (hc : I 55 7 = nI C) (h0 : 0 < C) (hC4 : C ≤ 4) (hk : I 60 p = nI k) (hk6 : k < 6) (hq : I 61 p = nI q) (hq9 : q ≤ 9) (hi : i < 1000) : (am_R (d + 1) 184 0 (am_mem L ext tx tt fe I G) [some (Value.ref 55), some (Value.int (nI p)), some (Value.int (nI i)), none, none, none, none] []) = some (some (Value.int (nI (gz C k q i (I 66)))), (am_mem L ext tx tt fe I G)) := by
  have hC : C < 2 ^ 31 := by omega
  have hzz := nz h0 hC
  rw [e_184_0, ib hp (by omega)]
  simp only [Bool.and_true, cond_true]
  rw [nI_clamp (by omega), hk, hq]
  obtain rfl | rfl | rfl | rfl | rfl | rfl : k = 0 ∨ k = 1 ∨ k = 2 ∨ k = 3 ∨ k = 4 ∨ k = 5 := by omega
  · rw [if_pos (by decide), e_184_1, hc, hzz]
    simp only [Bool.and_true, cond_true]
    rw [nI_add, pk_rem (by omega) h0 hC]
    rfl
  · rw [if_neg (by decide), e_184_2, if_neg (by decide), e_184_5, if_neg (by decide), e_184_8, if_neg (by decide), e_184_11, if_pos (by decide), e_184_13, s_182 hc h0 hC (by omega), Option.bind_some]
    exact e_184_14
  · rw [if_neg (by decide), e_184_2, if_pos (by decide), e_184_3, s_183 hc h0 hC (by omega), Option.bind_some]
    exact e_184_4
  · rw [if_neg (by decide), e_184_2, if_neg (by decide), e_184_5, if_neg (by decide), e_184_8, if_pos (by decide), e_184_9, nI_1, nz (by omega) (by omega)]
    simp only [Bool.and_true, cond_true]
    rw [pk_div (by omega) (by omega) (by omega), s_182 hc h0 hC (Nat.lt_of_le_of_lt (Nat.div_le_self _ _) (by omega)), Option.bind_some]
    exact e_184_10
  · rw [if_neg (by decide), e_184_2, if_neg (by decide), e_184_5, if_pos (by decide), e_184_6, nI_add, s_183 hc h0 hC (by omega), Option.bind_some]
    refine Eq.trans e_184_7 ?_
    have := Nat.mod_lt (dgs (max C 2) 32 (i + q)) h0
    rw [hc, hzz]
    simp only [Bool.and_true, cond_true]
    rw [nI_1, pk_rem (by omega) h0 hC]
    rw [Nat.mod_add_mod]
    rfl
  · rw [if_neg (by decide), e_184_2, if_neg (by decide), e_184_5, if_neg (by decide), e_184_8, if_neg (by decide), e_184_11, if_neg (by decide), e_184_12]
    by_cases h : i < q
    · rw [if_pos (nI_lt h (by omega)), e_184_13, s_182 hc h0 hC (by omega), Option.bind_some]
      refine Eq.trans e_184_14 ?_
      unfold gz
      rw [if_pos h]
      rfl
    · rw [if_neg (nI_nlt (by omega) (by omega)), e_184_15]
      refine Eq.trans (s_184l (k := 5) (q := q) (i := i) (p := p) hc h0 hC4 (C - 1) 0 (by omega)) ?_
      unfold gz
      rw [if_neg h]
      rfl
end B3
