/-! PURE, 39: tasted as told -/
def tas (f g : Nat → Int32) (b : Int32) : Nat → Bool
  | 0 => true
  | k + 1 => tas f g b k && (decide (nI k = b) || decide (f k = g k))
theorem tas_f {f g : Nat → Int32} {b : Int32} {k : Nat} (h : tas f g b k = false) : ∀ j, tas f g b (k + j) = false
  | 0 => h
  | j + 1 => by
    show (tas f g b (k + j) && _) = false
    rw [tas_f h j, Bool.false_and]
theorem tas_1 {f g : Nat → Int32} {b : Int32} {k : Nat} (h : tas f g b k = true) (h2 : nI k = b ∨ f k = g k) : tas f g b (k + 1) = true := by
  show (tas f g b k && (decide (nI k = b) || decide (f k = g k))) = true
  rw [h]
  rcases h2 with e | e <;> simp [e]
theorem tas_0 {f g : Nat → Int32} {b : Int32} {k : Nat} (h1 : ¬ nI k = b) (h2 : ¬ f k = g k) : tas f g b (k + 1) = false := by
  show (tas f g b k && (decide (nI k = b) || decide (f k = g k))) = false
  simp [h1, h2]
section B39
variable {d L : Nat} {ext : List (Nat × Nat)} {tx : Nat → Nat} {tt : Nat} {fe : Nat → Nat → Option Nat} {I : Nat → Nat → Int32} {G : Nat → Nat → Int64}
theorem c_112 {C r : Nat} {f g : Nat → Int32} {b : Int32} (hC : I 5 0 = nI C) (hC4 : C ≤ 4) (hr : (am_S0 L ++ ext)[r]? = some (20, 40)) (hf : ∀ c, c < C → I 47 c = f c) (hg : ∀ c, c < C → I r c = g c) : (am_R (d) 112 0 (am_mem L ext tx tt fe I G) [some (Value.ref 5), some (Value.ref r), some (Value.int b), none] []) = some (some (.int (if tas f g b C = true then 1 else 0)), (am_mem L ext tx tt fe I G)) := by
  refine wp_eq (wp_e e_112_0 ?_)
  refine wp_loop C (fun k (_ : Unit) => tas f g b k = true) (fun k _ => wp (am_R d 112 1 (am_mem L ext tx tt fe I G) [some (Value.ref 5), some (Value.ref r), some (Value.int b), some (Value.int (nI k))] []) _) ?_ ?_ 0 () (Nat.zero_le _) rfl
  · rintro _ h
    refine wp_e e_112_1 ?_
    rw [hC]
    refine wp_f (nI_nlt (Nat.le_refl _) (by omega)) (wp_e e_112_6 (wp_r ⟨?_, rfl⟩))
    rw [if_pos h]
  · rintro k _ hk h hgo
    have hib := ib (n := k) (N := 4) (by omega) (by decide)
    refine wp_e e_112_1 ?_
    rw [hC]
    refine wp_t (nI_lt hk (by omega)) (wp_e e_112_2 (wp_i (fun e => wp_e e_112_5 ?_) (fun e => wp_e e_112_3 (wp_c (by rw [kd_of hr, ln_of hr, hib, ib (n := k) (N := 40) (by omega) (by decide)]; rfl) ?_))))
    · rw [nI_1]
      exact hgo () (tas_1 h (Or.inl e))
    · rw [nI_clamp (n := k) (by omega), hf k hk, hg k hk]
      refine wp_i (fun e2 => wp_e e_112_5 ?_) (fun e2 => wp_e e_112_4 (wp_r ⟨?_, rfl⟩))
      · rw [nI_1]
        exact hgo () (tas_1 h (Or.inr e2))
      · have := tas_f (tas_0 (f := f) (g := g) e e2) (C - (k + 1))
        rw [show k + 1 + (C - (k + 1)) = C by omega] at this
        rw [this]
        rfl
end B39
