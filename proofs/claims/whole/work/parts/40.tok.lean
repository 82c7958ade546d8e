/-! PURE, 10: tokens -/
def isL (v : Nat) : Bool := decide (97 ≤ v ∧ v ≤ 122)
def isD (v : Nat) : Bool := decide (48 ≤ v ∧ v ≤ 57)
def isB (v : Nat) : Bool := decide (v = 32 ∨ v = 10)
def isS (v : Nat) : Bool := decide (v = 40 ∨ v = 41 ∨ v = 42 ∨ v = 43 ∨ v = 45 ∨ v = 59 ∨ v = 60 ∨ v = 61)
/-- the first place from p on, f places far at most, that P doesn't hold of -/
def rn (P : Nat → Bool) : Nat → Nat → Nat
  | 0, p => p
  | f + 1, p => if P p = true then rn P f (p + 1) else p
theorem rn_ge (P : Nat → Bool) : ∀ f p : Nat, p ≤ rn P f p
  | 0, p => Nat.le_refl p
  | f + 1, p => by
    show p ≤ (if P p = true then rn P f (p + 1) else p)
    have := rn_ge P f (p + 1)
    split <;> omega
theorem rn_le (P : Nat → Bool) : ∀ f p : Nat, rn P f p ≤ p + f
  | 0, p => Nat.le_refl p
  | f + 1, p => by
    show (if P p = true then rn P f (p + 1) else p) ≤ _
    have := rn_le P f (p + 1)
    split <;> omega
def te (bt : Nat → Nat) (n p : Nat) : Nat := if isL (bt p) = true then rn (fun k => isL (bt k)) (n - (p + 1)) (p + 1) else if isD (bt p) = true then rn (fun k => isD (bt k)) (n - (p + 1)) (p + 1) else p + 1
def sk (bt : Nat → Nat) (n p : Nat) : Nat := rn (fun k => isB (bt k)) (n - p) p
def adv (bt : Nat → Nat) (n q : Nat) : Nat := sk bt n (te bt n q)
def ltr (bt : Nat → Nat) (p e : Nat) : List Nat := (List.range (e - p)).map (fun j => bt (p + j))
def WL : List (List Nat) := [[100, 114, 105, 98], [100, 114, 105, 98, 115], [99, 117, 112, 115], [99, 117, 112], [102, 117, 108, 108], [119, 97, 115], [115, 116, 114, 111, 110, 103], [100, 114, 105, 112, 115], [108, 105, 107, 101, 100], [111, 114], [97, 110, 100], [110, 111, 116]]
def wcf : Nat → List (List Nat) → List Nat → Int32
  | _, [], _ => -2
  | w, x :: xs, l => if l = x then (if w < 6 then nI (10000 + w) else -nI w) else wcf (w + 1) xs l
def wco (l : List Nat) : Int32 := wcf 0 WL l
def nv (bt : Nat → Nat) (q : Nat) : Nat → Nat
  | 0 => 0
  | j + 1 => nv bt q j * 10 + (bt (q + j) - 48)
def cd (bt : Nat → Nat) (n q : Nat) : Int32 := if q < n then (if isL (bt q) = true then wco (ltr bt q (te bt n q)) else if isD (bt q) = true then (if 4 < te bt n q - q then -2 else nI (nv bt q (te bt n q - q))) else if isS (bt q) = true then -nI (bt q) else -2) else -1
theorem te_gt (bt : Nat → Nat) (n p : Nat) : p < te bt n p := by
  unfold te
  have h1 := rn_ge (fun k => isL (bt k)) (n - (p + 1)) (p + 1)
  have h2 := rn_ge (fun k => isD (bt k)) (n - (p + 1)) (p + 1)
  split
  · omega
  · split <;> omega
theorem te_le {bt : Nat → Nat} {n p : Nat} (h : p < n) : te bt n p ≤ n := by
  unfold te
  have h1 := rn_le (fun k => isL (bt k)) (n - (p + 1)) (p + 1)
  have h2 := rn_le (fun k => isD (bt k)) (n - (p + 1)) (p + 1)
  split
  · omega
  · split <;> omega
theorem sk_ge (bt : Nat → Nat) (n p : Nat) : p ≤ sk bt n p := rn_ge _ _ _
theorem sk_le {bt : Nat → Nat} {n p : Nat} (h : p ≤ n) : sk bt n p ≤ n := by
  have := rn_le (fun k => isB (bt k)) (n - p) p
  unfold sk
  omega
theorem sk_n (bt : Nat → Nat) (n : Nat) : sk bt n n = n := by
  unfold sk
  rw [Nat.sub_self]
  rfl
theorem sk_b {bt : Nat → Nat} {n p : Nat} (h : p < n) (hb : isB (bt p) = true) : sk bt n p = sk bt n (p + 1) := by
  unfold sk
  rw [show n - p = (n - (p + 1)) + 1 by omega]
  show (if isB (bt p) = true then _ else _) = _
  rw [if_pos hb]
theorem sk_s {bt : Nat → Nat} {n p : Nat} (hb : ¬ isB (bt p) = true) : sk bt n p = p := by
  unfold sk
  cases hf : n - p with
  | zero => rfl
  | succ f =>
    show (if isB (bt p) = true then _ else p) = p
    rw [if_neg hb]
theorem adv_gt (bt : Nat → Nat) (n q : Nat) : q < adv bt n q := Nat.lt_of_lt_of_le (te_gt bt n q) (sk_ge bt n _)
theorem adv_le {bt : Nat → Nat} {n q : Nat} (h : q < n) : adv bt n q ≤ n := sk_le (te_le h)
/-- the h-th token's place -/
def tq (bt : Nat → Nat) (n : Nat) : Nat → Nat
  | 0 => sk bt n 0
  | h + 1 => adv bt n (tq bt n h)
theorem nv_lt {bt : Nat → Nat} {q : Nat} : ∀ j : Nat, (∀ i, i < j → bt (q + i) ≤ 57) → nv bt q j < 10 ^ j
  | 0, _ => by show 0 < 1; omega
  | j + 1, h => by
    have h1 := nv_lt j (fun i hi => h i (by omega))
    have h2 := h j (by omega)
    show nv bt q j * 10 + (bt (q + j) - 48) < 10 ^ (j + 1)
    rw [Nat.pow_succ]
    omega
theorem rn_P {P : Nat → Bool} : ∀ f p k : Nat, p ≤ k → k < rn P f p → P k = true
  | 0, p, k, h1, h2 => by
    have h2 : k < p := h2
    omega
  | f + 1, p, k, h1, h2 => by
    have h2 : k < (if P p = true then rn P f (p + 1) else p) := h2
    by_cases hp : P p = true
    · rw [if_pos hp] at h2
      by_cases e : k = p
      · rw [e]; exact hp
      · exact rn_P f (p + 1) k (by omega) h2
    · rw [if_neg hp] at h2
      omega
theorem rn_N {P : Nat → Bool} : ∀ f p : Nat, rn P f p < p + f → ¬ P (rn P f p) = true
  | 0, p, h => by
    have h : p < p + 0 := h
    omega
  | f + 1, p, h => by
    have e : rn P (f + 1) p = if P p = true then rn P f (p + 1) else p := rfl
    rw [e] at h ⊢
    by_cases hp : P p = true
    · rw [if_pos hp] at h ⊢
      exact rn_N f (p + 1) (by omega)
    · rw [if_neg hp]
      exact hp
theorem s_54k : ∀ w : Fin 256, (if nI w.val = 40 then 1 else if nI w.val = 41 then 1 else if nI w.val = 42 then 1 else if nI w.val = 43 then 1 else if nI w.val = 44 then 2 else if nI w.val = 45 then 1 else if nI w.val = 46 then 2 else if nI w.val = 47 then 2 else if nI w.val = 48 then 2 else if nI w.val = 49 then 2 else if nI w.val = 50 then 2 else if nI w.val = 51 then 2 else if nI w.val = 52 then 2 else if nI w.val = 53 then 2 else if nI w.val = 54 then 2 else if nI w.val = 55 then 2 else if nI w.val = 56 then 2 else if nI w.val = 57 then 2 else if nI w.val = 58 then 2 else if nI w.val = 59 then 1 else if nI w.val = 60 then 1 else if nI w.val = 61 then 1 else 2) = if isS w.val = true then 1 else 2 := by decide +kernel
section B10
variable {d L : Nat} {ext : List (Nat × Nat)} {tx : Nat → Nat} {tt : Nat} {fe : Nat → Nat → Option Nat} {I : Nat → Nat → Int32} {G : Nat → Nat → Int64}
/-- what the string holds -/
def SW (I : Nat → Nat → Int32) : Prop := I 2 0 = 0 ∧ ∀ k, k < 59 → I 3 k = sm_by.getD k 0
/-- the tape -/
def TW (I : Nat → Nat → Int32) (bt : Nat → Nat) (n : Nat) : Prop := n ≤ 160 ∧ I 10 1 = nI n ∧ ∀ k, k < n → I 11 k = nI (bt k) ∧ bt k < 256
theorem s_52 {v : Nat} (h : v < 1000) : (am_R (d) 52 0 (am_mem L ext tx tt fe I G) [some (Value.int (nI v))] []) = some (some (Value.int (if isL v = true then 1 else 0)), (am_mem L ext tx tt fe I G)) := by
  unfold isL
  by_cases h1 : v < 97
  · rw [e_52_0, if_pos (show nI v < (97 : Int32) from nI_lt (b := 97) h1 (by omega)), e_52_3, e_52_4, if_neg (by simp; omega)]; rfl
  · rw [e_52_0, if_neg (show ¬ nI v < (97 : Int32) from nI_nlt (b := 97) (by omega) (by omega)), e_52_1]
    by_cases h2 : 122 < v
    · rw [if_pos (show (122 : Int32) < nI v from nI_lt (a := 122) h2 (by omega)), e_52_3, e_52_4, if_neg (by simp; omega)]; rfl
    · rw [if_neg (show ¬ (122 : Int32) < nI v from nI_nlt (a := 122) (by omega) (by omega)), e_52_2, e_52_4, if_pos (by simp; omega)]; rfl
theorem s_53 {v : Nat} (h : v < 1000) : (am_R (d) 53 0 (am_mem L ext tx tt fe I G) [some (Value.int (nI v))] []) = some (some (Value.int (if isD v = true then 1 else 0)), (am_mem L ext tx tt fe I G)) := by
  unfold isD
  by_cases h1 : v < 48
  · rw [e_53_0, if_pos (show nI v < (48 : Int32) from nI_lt (b := 48) h1 (by omega)), e_53_3, e_53_4, if_neg (by simp; omega)]; rfl
  · rw [e_53_0, if_neg (show ¬ nI v < (48 : Int32) from nI_nlt (b := 48) (by omega) (by omega)), e_53_1]
    by_cases h2 : 57 < v
    · rw [if_pos (show (57 : Int32) < nI v from nI_lt (a := 57) h2 (by omega)), e_53_3, e_53_4, if_neg (by simp; omega)]; rfl
    · rw [if_neg (show ¬ (57 : Int32) < nI v from nI_nlt (a := 57) (by omega) (by omega)), e_53_2, e_53_4, if_pos (by simp; omega)]; rfl
theorem s_54 {v : Nat} (h : v < 256) : (am_R (d) 54 0 (am_mem L ext tx tt fe I G) [some (Value.int (nI v))] []) = some (some (Value.int (if isS v = true then 1 else 0)), (am_mem L ext tx tt fe I G)) := by
  have hk := s_54k ⟨v, h⟩
  rw [e_54_0]
  rw [show (if nI v = 40 then 1 else if nI v = 41 then 1 else if nI v = 42 then 1 else if nI v = 43 then 1 else if nI v = 44 then 2 else if nI v = 45 then 1 else if nI v = 46 then 2 else if nI v = 47 then 2 else if nI v = 48 then 2 else if nI v = 49 then 2 else if nI v = 50 then 2 else if nI v = 51 then 2 else if nI v = 52 then 2 else if nI v = 53 then 2 else if nI v = 54 then 2 else if nI v = 55 then 2 else if nI v = 56 then 2 else if nI v = 57 then 2 else if nI v = 58 then 2 else if nI v = 59 then 1 else if nI v = 60 then 1 else if nI v = 61 then 1 else 2) = _ from hk]
  by_cases hs : isS v = true
  · rw [if_pos hs, if_pos hs, e_54_1]
  · rw [if_neg hs, if_neg hs, e_54_2]

/-- a row's end -/
theorem s_47L {bt : Nat → Nat} {n q : Nat} (ht : TW I bt n) : ∀ f p : Nat, p + f = n → (am_R (d + 1) 47 2 (am_mem L ext tx tt fe I G) [some (Value.ref 10), some (Value.int (nI q)), some (Value.int (nI p))] []) = some (some (Value.int (nI (rn (fun k => isL (bt k)) f p))), (am_mem L ext tx tt fe I G)) := by
  obtain ⟨hn, h1, h2⟩ := ht
  intro f
  induction f with
  | zero =>
    intro p hp
    rw [e_47_2, h1, if_neg (nI_nlt (by omega) (by omega)), e_47_12]
    rfl
  | succ f ih =>
    intro p hp
    obtain ⟨g1, g2⟩ := h2 p (by omega)
    rw [e_47_2, h1, if_pos (nI_lt (by omega) (by omega)), e_47_3, ib (n := p) (N := 160) (by omega) (by decide)]
    simp only [Bool.and_true, cond_true]
    rw [nI_clamp (by omega), g1, s_52 (by omega), Option.bind_some]
    refine Eq.trans e_47_4 ?_
    show _ = some (some (Value.int (nI (if isL (bt p) = true then rn (fun k => isL (bt k)) f (p + 1) else p))), _)
    by_cases hb : isL (bt p) = true
    · rw [if_pos hb, if_pos hb, if_neg (by decide), e_47_5, nI_1]
      exact ih (p + 1) (by omega)
    · rw [if_neg hb, if_neg hb, if_pos rfl, e_47_12]
theorem s_47D {bt : Nat → Nat} {n q : Nat} (ht : TW I bt n) : ∀ f p : Nat, p + f = n → (am_R (d + 1) 47 8 (am_mem L ext tx tt fe I G) [some (Value.ref 10), some (Value.int (nI q)), some (Value.int (nI p))] []) = some (some (Value.int (nI (rn (fun k => isD (bt k)) f p))), (am_mem L ext tx tt fe I G)) := by
  obtain ⟨hn, h1, h2⟩ := ht
  intro f
  induction f with
  | zero =>
    intro p hp
    rw [e_47_8, h1, if_neg (nI_nlt (by omega) (by omega)), e_47_12]
    rfl
  | succ f ih =>
    intro p hp
    obtain ⟨g1, g2⟩ := h2 p (by omega)
    rw [e_47_8, h1, if_pos (nI_lt (by omega) (by omega)), e_47_9, ib (n := p) (N := 160) (by omega) (by decide)]
    simp only [Bool.and_true, cond_true]
    rw [nI_clamp (by omega), g1, s_53 (by omega), Option.bind_some]
    refine Eq.trans e_47_10 ?_
    show _ = some (some (Value.int (nI (if isD (bt p) = true then rn (fun k => isD (bt k)) f (p + 1) else p))), _)
    by_cases hb : isD (bt p) = true
    · rw [if_pos hb, if_pos hb, if_neg (by decide), e_47_11, nI_1]
      exact ih (p + 1) (by omega)
    · rw [if_neg hb, if_neg hb, if_pos rfl, e_47_12]
theorem s_47 {bt : Nat → Nat} {n p : Nat} (ht : TW I bt n) (hp : p < n) : (am_R (d + 1) 47 0 (am_mem L ext tx tt fe I G) [some (Value.ref 10), some (Value.int (nI p)), none] []) = some (some (Value.int (nI (te bt n p))), (am_mem L ext tx tt fe I G)) := by
  have ht0 := ht
  obtain ⟨hn, h1, h2⟩ := ht
  obtain ⟨g1, g2⟩ := h2 p hp
  have hib := ib (n := p) (N := 160) (by omega) (by decide)
  have hcl := nI_clamp (n := p) (by omega)
  rw [e_47_0, hib]
  simp only [Bool.and_true, cond_true]
  rw [hcl, g1, s_52 (by omega), Option.bind_some, nI_1]
  refine Eq.trans e_47_1 ?_
  unfold te
  by_cases hb : isL (bt p) = true
  · rw [if_pos hb, if_pos hb, if_neg (by decide)]
    exact s_47L ht0 (n - (p + 1)) (p + 1) (by omega)
  · rw [if_neg hb, if_neg hb, if_pos rfl, e_47_6, hib]
    simp only [Bool.and_true, cond_true]
    rw [hcl, g1, s_53 (by omega), Option.bind_some]
    refine Eq.trans e_47_7 ?_
    by_cases hd : isD (bt p) = true
    · rw [if_pos hd, if_pos hd, if_neg (by decide)]
      exact s_47D ht0 (n - (p + 1)) (p + 1) (by omega)
    · rw [if_neg hd, if_neg hd, if_pos rfl, e_47_12]
theorem s_49 {bt : Nat → Nat} {n q e : Nat} (ht : TW I bt n) (he : e ≤ n) (hq : q ≤ e) (h4 : e - q ≤ 4) (hd : ∀ k, q ≤ k → k < e → isD (bt k) = true) : (am_R (d) 49 0 (am_mem L ext tx tt fe I G) [some (Value.ref 10), some (Value.int (nI q)), some (Value.int (nI e)), none, none] []) = some (some (Value.int (nI (nv bt q (e - q)))), (am_mem L ext tx tt fe I G)) := by
  obtain ⟨hn, h1, h2⟩ := ht
  refine wp_eq (wp_e e_49_0 ?_)
  refine wp_loop (e - q) (fun j (_ : Unit) => True) (fun j _ => wp (am_R (d) 49 1 (am_mem L ext tx tt fe I G) [some (Value.ref 10), some (Value.int (nI q)), some (Value.int (nI e)), some (Value.int (nI (nv bt q j))), some (Value.int (nI (q + j)))] []) _) ?_ ?_ 0 () (Nat.zero_le _) trivial
  · intro _ _
    refine wp_e e_49_1 (wp_f (nI_nlt (by omega) (by omega)) (wp_e e_49_3 (wp_r ⟨rfl, rfl⟩)))
  · intro j _ hj _ go
    obtain ⟨g1, g2⟩ := h2 (q + j) (by omega)
    refine wp_e e_49_1 (wp_t (nI_lt (by omega) (by omega)) (wp_e e_49_2 (wp_c (by rw [ib (n := q + j) (N := 160) (by omega) (by decide)]; rfl) ?_)))
    have hdj := hd (q + j) (by omega) (by omega)
    unfold isD at hdj
    rw [decide_eq_true_eq] at hdj
    rw [nI_clamp (n := q + j) (by omega), g1, show (10 : Int32) = nI 10 from rfl, show (48 : Int32) = nI 48 from rfl, pk_mul, nI_add, pk_sub (by omega), nI_1]
    have e1 : nv bt q j * 10 + bt (q + j) - 48 = nv bt q (j + 1) := by
      show _ = nv bt q j * 10 + (bt (q + j) - 48)
      omega
    rw [e1, show q + j + 1 = q + (j + 1) by omega]
    exact go () trivial
end B10
