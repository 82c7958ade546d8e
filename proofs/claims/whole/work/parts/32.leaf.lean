/-! PURE, 2: the leaves -/
theorem i11 : (1 : Int32) &&& 1 = 1 := rfl
theorem i01 : (0 : Int32) &&& 1 = 0 := rfl
section B2
variable {d L : Nat} {ext : List (Nat × Nat)} {tx : Nat → Nat} {tt : Nat} {fe : Nat → Nat → Option Nat} {I : Nat → Nat → Int32} {G : Nat → Nat → Int64}
theorem s_76 {v : Int32} : (am_R (d) 76 0 (am_mem L ext tx tt fe I G) [some (Value.ref 5), some (Value.int v)] []) = some (some (Value.int (bI (¬ v < 0 ∧ v < I 5 0))), (am_mem L ext tx tt fe I G)) := by
  unfold bI
  by_cases h1 : v < 0
  · simp only [e_76_0, e_76_1, e_76_2, e_76_3, e_76_4, h1, if_true, not_true_eq_false, false_and, if_false, i01]
  · by_cases h2 : v < I 5 0 <;> simp only [e_76_0, e_76_1, e_76_2, e_76_3, e_76_4, h1, h2, if_true, not_false_eq_true, true_and, if_false, i01, i11]
theorem s_77 {v : Int32} : (am_R (d) 77 0 (am_mem L ext tx tt fe I G) [some (Value.ref 5), some (Value.int v)] []) = some (some (Value.int (bI (¬ v < 0 ∧ v < I 5 1))), (am_mem L ext tx tt fe I G)) := by
  unfold bI
  by_cases h1 : v < 0
  · simp only [e_77_0, e_77_1, e_77_2, e_77_3, e_77_4, h1, if_true, not_true_eq_false, false_and, if_false, i01]
  · by_cases h2 : v < I 5 1 <;> simp only [e_77_0, e_77_1, e_77_2, e_77_3, e_77_4, h1, h2, if_true, not_false_eq_true, true_and, if_false, i01, i11]
theorem s_78 {v : Int32} : (am_R (d) 78 0 (am_mem L ext tx tt fe I G) [some (Value.ref 5), some (Value.int v)] []) = some (some (Value.int (bI (¬ v < 0 ∧ v < I 5 5))), (am_mem L ext tx tt fe I G)) := by
  unfold bI
  by_cases h1 : v < 0
  · simp only [e_78_0, e_78_1, e_78_2, e_78_3, e_78_4, h1, if_true, not_true_eq_false, false_and, if_false, i01]
  · by_cases h2 : v < I 5 5 <;> simp only [e_78_0, e_78_1, e_78_2, e_78_3, e_78_4, h1, h2, if_true, not_false_eq_true, true_and, if_false, i01, i11]
theorem s_79 {v : Int32} : (am_R (d) 79 0 (am_mem L ext tx tt fe I G) [some (Value.int v)] []) = some (some (Value.int (bI (¬ v < 0 ∧ v < (6 : Int32)))), (am_mem L ext tx tt fe I G)) := by
  unfold bI
  by_cases h1 : v < 0
  · simp only [e_79_0, e_79_1, e_79_2, e_79_3, e_79_4, h1, if_true, not_true_eq_false, false_and, if_false, i01]
  · by_cases h2 : v < (6 : Int32) <;> simp only [e_79_0, e_79_1, e_79_2, e_79_3, e_79_4, h1, h2, if_true, not_false_eq_true, true_and, if_false, i01, i11]
theorem s_80 {v : Int32} : (am_R (d) 80 0 (am_mem L ext tx tt fe I G) [some (Value.int v)] []) = some (some (Value.int (bI (¬ v < 0 ∧ v < (8 : Int32)))), (am_mem L ext tx tt fe I G)) := by
  unfold bI
  by_cases h1 : v < 0
  · simp only [e_80_0, e_80_1, e_80_2, e_80_3, e_80_4, h1, if_true, not_true_eq_false, false_and, if_false, i01]
  · by_cases h2 : v < (8 : Int32) <;> simp only [e_80_0, e_80_1, e_80_2, e_80_3, e_80_4, h1, h2, if_true, not_false_eq_true, true_and, if_false, i01, i11]
theorem s_125 {v : Int32} : (am_R (d) 125 0 (am_mem L ext tx tt fe I G) [some (Value.int v)] []) = some (some (Value.int (bI (¬ v < 0 ∧ v < (4 : Int32)))), (am_mem L ext tx tt fe I G)) := by
  unfold bI
  by_cases h1 : v < 0
  · simp only [e_125_0, e_125_1, e_125_2, e_125_3, e_125_4, h1, if_true, not_true_eq_false, false_and, if_false, i01]
  · by_cases h2 : v < (4 : Int32) <;> simp only [e_125_0, e_125_1, e_125_2, e_125_3, e_125_4, h1, h2, if_true, not_false_eq_true, true_and, if_false, i01, i11]
theorem s_126 {v : Int32} : (am_R (d) 126 0 (am_mem L ext tx tt fe I G) [some (Value.int v)] []) = some (some (Value.int (bI (¬ v < 0 ∧ v < (3 : Int32)))), (am_mem L ext tx tt fe I G)) := by
  unfold bI
  by_cases h1 : v < 0
  · simp only [e_126_0, e_126_1, e_126_2, e_126_3, e_126_4, h1, if_true, not_true_eq_false, false_and, if_false, i01]
  · by_cases h2 : v < (3 : Int32) <;> simp only [e_126_0, e_126_1, e_126_2, e_126_3, e_126_4, h1, h2, if_true, not_false_eq_true, true_and, if_false, i01, i11]
theorem s_99 {v : Int32} : (am_R (d) 99 0 (am_mem L ext tx tt fe I G) [some (Value.int v)] []) = some (some (Value.int (bI (v = 0 ∨ v = 1))), (am_mem L ext tx tt fe I G)) := by
  unfold bI
  by_cases h1 : v = 0
  · rw [e_99_0, if_pos h1, e_99_2, e_99_4, if_pos (Or.inl h1)]; rfl
  · by_cases h2 : v = 1
    · rw [e_99_0, if_neg h1, e_99_1, if_pos h2, e_99_2, e_99_4, if_pos (Or.inr h2)]; rfl
    · rw [e_99_0, if_neg h1, e_99_1, if_neg h2, e_99_3, e_99_4, if_neg (fun h => h.elim h1 h2)]; rfl
theorem s_115 {v : Int32} : (am_R (d) 115 0 (am_mem L ext tx tt fe I G) [some (Value.int v)] []) = some (some (Value.int (bI (¬ v < 0 ∧ ¬ 20 < v))), (am_mem L ext tx tt fe I G)) := by
  unfold bI
  by_cases h1 : v < 0
  · simp only [e_115_0, e_115_1, e_115_2, e_115_3, e_115_4, h1, if_true, not_true_eq_false, false_and, if_false, i01]
  · by_cases h2 : 20 < v <;> simp only [e_115_0, e_115_1, e_115_2, e_115_3, e_115_4, h1, h2, if_true, not_false_eq_true, true_and, not_true_eq_false, if_false, i01, i11]
theorem s_127 {v a b : Int64} : (am_R (d) 127 0 (am_mem L ext tx tt fe I G) [some (Value.long v), none, some (Value.long a), none, some (Value.long b), none] []) = some (some (Value.int (bI (¬ v < a ∧ ¬ b < v))), (am_mem L ext tx tt fe I G)) := by
  unfold bI
  by_cases h1 : v < a
  · simp only [e_127_0, e_127_1, e_127_2, e_127_3, e_127_4, lg_cmp_lt, h1, if_true, not_true_eq_false, false_and, if_false, i01]
  · by_cases h2 : b < v <;> simp only [e_127_0, e_127_1, e_127_2, e_127_3, e_127_4, lg_cmp_lt, lg_cmp_gt, h1, h2, if_true, not_false_eq_true, true_and, not_true_eq_false, if_false, i01, i11]
theorem s_128 {v a b : Int32} : (am_R (d) 128 0 (am_mem L ext tx tt fe I G) [some (Value.int v), some (Value.int a), some (Value.int b)] []) = some (some (Value.int (if v < a then a else if b < v then b else v)), (am_mem L ext tx tt fe I G)) := by
  by_cases h1 : v < a
  · simp only [e_128_0, e_128_1, e_128_2, e_128_3, e_128_4, e_128_5, h1, if_true]
  · by_cases h2 : b < v <;> simp only [e_128_0, e_128_1, e_128_2, e_128_3, e_128_4, e_128_5, h1, h2, if_true, if_false]
/-- how the model's 'in' reads of ints -/
theorem in_i {v a b : Int32} : (¬ v.toInt64 < a.toInt64 ∧ ¬ b.toInt64 < v.toInt64) ↔ (¬ v < a ∧ ¬ b < v) := by rw [fa_wide_lt, fa_wide_lt]
theorem m1_lt {v : Int32} {n : Nat} (h : n < 2 ^ 31) : ¬ (nI n - 1 < v) ↔ v < nI n := by
  have e : (nI n - 1).toInt = (n : Int) - 1 := by
    rw [fb_subI] <;> rw [nI_toInt h] <;> show _ <;> (have : (1 : Int32).toInt = 1 := rfl) <;> rw [this] <;> omega
  rw [fa_lt, fa_lt, e, nI_toInt h]
  omega
theorem s_131 {v : Int32} {n : Nat} (hn : I 55 7 = nI n) (h : n < 2 ^ 31) : (am_R (d + 1) 131 0 (am_mem L ext tx tt fe I G) [some (Value.ref 55), some (Value.int v)] []) = some (some (Value.int (bI (¬ v < 0 ∧ v < nI n))), (am_mem L ext tx tt fe I G)) := by
  rw [e_131_0]
  rw [show (0 : Int64) = (0 : Int32).toInt64 from rfl, s_127, Option.bind_some]
  show (am_R (d + 1) 131 1 (am_mem L ext tx tt fe I G) [some (Value.ref 55), some (Value.int v)] [Value.int (bI (¬ v.toInt64 < (0 : Int32).toInt64 ∧ ¬ (I 55 7 - 1).toInt64 < v.toInt64))]) = _
  rw [e_131_1, bI_and, hn, bI_c (in_i.trans (and_congr Iff.rfl (m1_lt h)))]
theorem s_132 {v : Int32} {n : Nat} (hn : I 55 12 = nI n) (h : n < 2 ^ 31) : (am_R (d + 1) 132 0 (am_mem L ext tx tt fe I G) [some (Value.ref 55), some (Value.int v)] []) = some (some (Value.int (bI (¬ v < 0 ∧ v < nI n))), (am_mem L ext tx tt fe I G)) := by
  rw [e_132_0]
  rw [show (0 : Int64) = (0 : Int32).toInt64 from rfl, s_127, Option.bind_some]
  show (am_R (d + 1) 132 1 (am_mem L ext tx tt fe I G) [some (Value.ref 55), some (Value.int v)] [Value.int (bI (¬ v.toInt64 < (0 : Int32).toInt64 ∧ ¬ (I 55 12 - 1).toInt64 < v.toInt64))]) = _
  rw [e_132_1, bI_and, hn, bI_c (in_i.trans (and_congr Iff.rfl (m1_lt h)))]
theorem s_200 {v : Int32} : (am_R (d + 1) 200 0 (am_mem L ext tx tt fe I G) [some (Value.int v)] []) = some (some (Value.int (bI (¬ v < 0 ∧ ¬ 3 < v))), (am_mem L ext tx tt fe I G)) := by
  rw [e_200_0]
  rw [show (0 : Int64) = (0 : Int32).toInt64 from rfl, show (3 : Int64) = (3 : Int32).toInt64 from rfl, s_127, Option.bind_some]
  show (am_R (d + 1) 200 1 (am_mem L ext tx tt fe I G) [some (Value.int v)] [Value.int (bI (¬ v.toInt64 < (0 : Int32).toInt64 ∧ ¬ (3 : Int32).toInt64 < v.toInt64))]) = _
  rw [e_200_1, bI_and, bI_c in_i]
/-! Arrays.fill -/
theorem s_214l {r n : Nat} {v : Int32} (hr : (am_S0 L ++ ext)[r]? = some (20, n)) (h5 : 5 ≤ r) (hn : n < 2 ^ 31) : ∀ k i : Nat, i + k = n → ∀ I : Nat → Nat → Int32, (am_R (d) 214 1 (am_mem L ext tx tt fe I G) [some (Value.ref r), some (Value.int v), some (Value.int (nI i)), some (Value.int (nI n))] []) = some (none, (am_mem L ext tx tt fe (am_u1 I r (fun y => if i ≤ y ∧ y < n then v else I r y)) G)) := by
  intro k
  induction k with
  | zero =>
    intro i hi I
    have e : i = n := by omega
    subst e
    rw [e_214_1, if_neg (nI_nlt (Nat.le_refl i) hn), e_214_3]
    have : (fun y => if i ≤ y ∧ y < i then v else I r y) = I r := by
      funext y
      rw [if_neg (by omega)]
    rw [this, u1_id]
  | succ k ih =>
    intro i hi I
    rw [e_214_1, if_pos (nI_lt (by omega) hn), e_214_2, kd_of hr, ln_of hr, Nat.ble_eq_true_of_le h5, ib (by omega) hn]
    simp only [Bool.and_true, cond_true]
    rw [nI_clamp (by omega), nI_1, ih (i + 1) (by omega) _, u2_as1]
    congr 3
    funext x y
    simp only [am_u1]
    by_cases hx : x = r
    · simp only [hx, if_true]
      by_cases hy : y = i
      · rw [if_neg (by omega), if_pos hy, if_pos (by omega)]
      · rw [if_neg hy]
        by_cases hc : i + 1 ≤ y ∧ y < n
        · rw [if_pos hc, if_pos (by omega)]
        · rw [if_neg hc, if_neg (by omega)]
    · simp only [hx, if_false]
theorem s_214 {r n : Nat} {v : Int32} (hr : (am_S0 L ++ ext)[r]? = some (20, n)) (h5 : 5 ≤ r) (hn : n < 2 ^ 31) : (am_R (d) 214 0 (am_mem L ext tx tt fe I G) [some (Value.ref r), some (Value.int v), none, none] []) = some (none, (am_mem L ext tx tt fe (am_u1 I r (fun y => if y < n then v else I r y)) G)) := by
  rw [e_214_0, kd_of hr, ln_of hr, Bool.true_or, Bool.true_and, cond_true, show (0 : Int32) = nI 0 from rfl, s_214l hr h5 hn n 0 (by omega) I]
  congr 4
  funext y
  by_cases hy : y < n
  · rw [if_pos hy, if_pos (by omega)]
  · rw [if_neg hy, if_neg (by omega)]
end B2
