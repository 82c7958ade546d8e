/-! PURE, 40: WHOM -/
theorem nIm4 {k : Nat} (hk : k < 100) : ¬ nI k = -1 := fun e => nI_pos (n := k) (by omega) (by rw [e]; decide)
section B40
variable {d L : Nat} {ext : List (Nat × Nat)} {tx : Nat → Nat} {tt : Nat} {fe : Nat → Nat → Option Nat} {I : Nat → Nat → Int32} {G : Nat → Nat → Int64}
/-- the model's look at the cups -/
theorem m_192t {C q : Nat} {f : Nat → Int32} {v2 v3 v4 : Int32} {Q : Option Value → am_M → Prop} (hC : I 55 7 = nI C) (hC4 : C ≤ 4) (hq : q < 4) (hf : ∀ c, c < C → I 66 c = f c) (hQ : wp (am_R d 192 13 (am_mem L ext tx tt fe I G) [some (Value.ref 55), some (Value.int (nI q)), some (Value.int v2), some (Value.int v3), some (Value.int v4), some (Value.int (if tas f (fun c => I 76 (40 * q + c)) (-1) C = true then 1 else 0)), some (Value.int (nI C))] []) Q) : wp (am_R d 192 6 (am_mem L ext tx tt fe I G) [some (Value.ref 55), some (Value.int (nI q)), some (Value.int v2), some (Value.int v3), some (Value.int v4), none, none] []) Q := by
  refine wp_e e_192_6 ?_
  refine wp_loop C (fun k (_ : Unit) => True) (fun k _ => wp (am_R d 192 7 (am_mem L ext tx tt fe I G) [some (Value.ref 55), some (Value.int (nI q)), some (Value.int v2), some (Value.int v3), some (Value.int v4), some (Value.int (if tas f (fun c => I 76 (40 * q + c)) (-1) k = true then 1 else 0)), some (Value.int (nI k))] []) Q) ?_ ?_ 0 () (Nat.zero_le _) trivial
  · rintro _ -
    refine wp_e e_192_7 ?_
    rw [hC]
    exact wp_f (nI_nlt (Nat.le_refl _) (by omega)) hQ
  · rintro k _ hk - hgo
    have hib := ib (n := k) (N := 4) (by omega) (by decide)
    have go := hgo () trivial
    refine wp_e e_192_7 ?_
    rw [hC]
    refine wp_t (nI_lt hk (by omega)) (wp_e e_192_8 ?_)
    cases ht : tas f (fun c => I 76 (40 * q + c)) (-1) k with
    | false =>
      rw [show tas f (fun c => I 76 (40 * q + c)) (-1) (k + 1) = false from tas_f ht 1] at go
      refine wp_t rfl (wp_e e_192_11 (wp_e e_192_12 ?_))
      rw [nI_1]
      exact go
    | true =>
      refine wp_f (by decide) (wp_e e_192_9 ?_)
      rw [show (40 : Int32) * nI q + nI k = nI (40 * q + k) by rw [show (40 : Int32) = nI 40 from rfl, pk_mul, nI_add], hib, ib (n := 40 * q + k) (N := 160) (by omega) (by decide)]
      refine wp_c rfl ?_
      rw [nI_clamp (n := k) (by omega), nI_clamp (n := 40 * q + k) (by omega), hf k hk]
      refine wp_i (fun e => wp_e e_192_10 (wp_e e_192_12 ?_)) (fun e => wp_e e_192_11 (wp_e e_192_12 ?_))
      · rw [tas_1 ht (Or.inr e)] at go
        rw [nI_1]
        exact go
      · rw [tas_0 (f := f) (g := fun c => I 76 (40 * q + c)) (nIm4 (by omega)) e] at go
        rw [nI_1]
        exact go
end B40
