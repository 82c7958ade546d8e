/-! PURE, 56: the model's search -/
def drp (t : PS) (x : Int32) : PS := (t.1, t.2.1, t.2.2.1, t.2.2.2.1, x)
theorem pstep_d {s d : SF} {i c : Nat} {t : PS} {x : Int32} : ∃ y, pstep s d i c 0 (drp t x) = drp (pstep s d i c 0 t) y := by
  refine ⟨(pstep s d i c 0 (drp t x)).2.2.2.2, ?_⟩
  unfold pstep
  rw [show pah c (drp t x) = pah c t from rfl]
  split <;> rfl
def SG : List Nat := [63, 64, 65, 66, 67, 68]
def TG : List Nat := [14, 15, 16, 17, 18, 19, 20, 21, 22, 23, 24, 26, 27, 28, 33, 34, 35, 38, 39, 42]
def ME (D : Nat) (I : Nat → Nat → Int32) (a : MA) : Prop := I 55 42 = a.1 ∧ I 55 38 = a.2.1 ∧ I 55 39 = a.2.2.1 ∧ ∀ j, j < D → I 68 j = a.2.2.2 j
theorem ME_f {D : Nat} {I I' : Nat → Nat → Int32} {a : MA} (h : ME D I a) (h5 : ∀ k, k = 38 ∨ k = 39 ∨ k = 42 → I' 55 k = I 55 k) (h8 : I' 68 = I 68) : ME D I' a := by
  obtain ⟨a1, a2, a3, a4⟩ := h
  exact ⟨by rw [h5 42 (by decide)]; exact a1, by rw [h5 38 (by decide)]; exact a2, by rw [h5 39 (by decide)]; exact a3, by rw [h8]; exact a4⟩
section B56
variable {d L : Nat} {ext : List (Nat × Nat)} {tx : Nat → Nat} {tt : Nat} {fe : Nat → Nat → Option Nat} {I : Nat → Nat → Int32} {G : Nat → Nat → Int64}
theorem m_172l {C D : Nat} (h0 : 0 < C) (hC : C ≤ 4) (hD : D ≤ 24) (h7 : I 55 7 = nI C) (h8 : I 55 8 = nI D) : ∀ f k, k + f = D → C ^ k ≤ 262144 → wp (am_R (d) 172 1 (am_mem L ext tx tt fe I G) [some (Value.ref 55), some (Value.int (nI (C ^ k))), some (Value.int (nI k))] []) (fun v M => v = some (.int (bI (65536 < C ^ D))) ∧ M = (am_mem L ext tx tt fe I G)) := by
  have fin : ∀ k, k ≤ D → C ^ k ≤ 262144 → (k = D ∨ 65536 < C ^ k) → wp (am_R (d) 172 4 (am_mem L ext tx tt fe I G) [some (Value.ref 55), some (Value.int (nI (C ^ k))), some (Value.int (nI k))] []) (fun v M => v = some (.int (bI (65536 < C ^ D))) ∧ M = (am_mem L ext tx tt fe I G)) := by
    intro k hk hb hq
    refine wp_e e_172_4 (wp_i (fun e => wp_e e_172_5 (wp_e e_172_7 (wp_r ⟨?_, rfl⟩))) (fun e => wp_e e_172_6 (wp_e e_172_7 (wp_r ⟨?_, rfl⟩))))
    · have e : nI 65536 < nI (C ^ k) := e
      rw [nI_ltI (by decide) (by omega)] at e
      rw [bI_t (Nat.lt_of_lt_of_le e (Nat.pow_le_pow_right h0 hk))]
      rfl
    · have e : ¬ nI 65536 < nI (C ^ k) := e
      rw [nI_ltI (by decide) (by omega)] at e
      rw [bI_f (fun q => ?_)]
      · rfl
      · rcases hq with rfl | hq
        · exact e q
        · exact e hq
  intro f
  induction f with
  | zero =>
    intro k hk hb
    refine wp_e e_172_1 ?_
    rw [h8]
    exact wp_f (nI_nlt (by omega) (by omega)) (fin k (by omega) hb (Or.inl (by omega)))
  | succ f ih =>
    intro k hk hb
    refine wp_e e_172_1 ?_
    rw [h8]
    refine wp_t (nI_lt (by omega) (by omega)) (wp_e e_172_2 (wp_i (fun e => fin k (by omega) hb (Or.inr ?_)) (fun e => wp_e e_172_3 ?_)))
    · have e : nI 65536 < nI (C ^ k) := e
      rw [nI_ltI (by decide) (by omega)] at e
      exact e
    · have e : ¬ nI 65536 < nI (C ^ k) := e
      rw [nI_ltI (by decide) (by omega)] at e
      rw [h7, pk_mul, ← Nat.pow_succ, nI_1]
      refine ih (k + 1) (by omega) ?_
      rw [Nat.pow_succ]
      exact Nat.le_trans (Nat.mul_le_mul (Nat.le_of_not_lt e) hC) (by decide)
theorem m_172 {C D : Nat} (h0 : 0 < C) (hC : C ≤ 4) (hD : D ≤ 24) (h7 : I 55 7 = nI C) (h8 : I 55 8 = nI D) : (am_R (d) 172 0 (am_mem L ext tx tt fe I G) [some (Value.ref 55), none, none] []) = some (some (.int (bI (65536 < C ^ D))), (am_mem L ext tx tt fe I G)) := wp_eq (wp_e e_172_0 (m_172l h0 hC hD h7 h8 D 0 (Nat.zero_add D) (by rw [Nat.pow_zero]; decide)))
theorem m_174 {C D : Nat} {t : PS} (h0 : 0 < C) (hC : C ≤ 4) (hD : D ≤ 24) (h7 : I 55 7 = nI C) (h8 : I 55 8 = nI D) (h65 : ∀ c, c < 4 → I 65 c = t.1 c) : (am_R (d) 174 0 (am_mem L ext tx tt fe I G) [some (Value.ref 55), none] []) = some (some (.int (if bldl (D / C) t C = true then 1 else 0)), (am_mem L ext tx tt fe I G)) := by
  refine wp_eq (wp_e e_174_0 ?_)
  refine wp_loop C (fun k (_ : Unit) => bldl (D / C) t k = true) (fun k _ => wp (am_R d 174 1 (am_mem L ext tx tt fe I G) [some (Value.ref 55), some (Value.int (nI k))] []) _) ?_ ?_ 0 () (Nat.zero_le _) rfl
  · rintro _ h
    refine wp_e e_174_1 ?_
    rw [h7]
    refine wp_f (nI_nlt (Nat.le_refl _) (by omega)) (wp_e e_174_5 (wp_r ⟨?_, rfl⟩))
    rw [if_pos h]
  · rintro k _ hk h hgo
    refine wp_e e_174_1 ?_
    rw [h7]
    refine wp_t (nI_lt hk (by omega)) (wp_e e_174_2 ?_)
    rw [h7, h8, nz h0 (by omega), ib (n := k) (N := 4) (by omega) (by decide), nI_clamp (n := k) (by omega), h65 k (by omega), pk_div (by omega) h0 (by omega)]
    refine wp_c rfl (wp_i (fun e => wp_e e_174_3 (wp_r ⟨?_, rfl⟩)) (fun e => wp_e e_174_4 ?_))
    · rw [if_neg]
      intro q
      rw [bldl_t] at q
      exact q k hk e
    · rw [nI_1]
      refine hgo () ?_
      show (bldl (D / C) t k && decide (¬ t.1 k < nI (D / C))) = true
      rw [h, decide_eq_true e]
      rfl
theorem m_176 {D : Nat} (hD : D ≤ 24) (h8 : I 55 8 = nI D) {Q : Option Value → am_M → Prop} (hQ : ∀ I', fr [68] I I' → (∀ j, j < D → I' 68 j = I 67 j) → Q none (am_mem L ext tx tt fe (I') G)) : wp (am_R (d) 176 0 (am_mem L ext tx tt fe I G) [some (Value.ref 55), none] []) Q := by
  refine wp_e e_176_0 ?_
  refine wp_loop D (fun k (J : Nat → Nat → Int32) => fr [68] I J ∧ ∀ j, j < k → J 68 j = I 67 j) (fun k J => wp (am_R d 176 1 (am_mem L ext tx tt fe J G) [some (Value.ref 55), some (Value.int (nI k))] []) Q) ?_ ?_ 0 I (Nat.zero_le _) ⟨fr_r _ _, fun j hj => absurd hj (Nat.not_lt_zero j)⟩
  · rintro J ⟨f1, z⟩
    refine wp_e e_176_1 ?_
    rw [f1 55 (by decide), h8]
    exact wp_f (nI_nlt (Nat.le_refl _) (by omega)) (wp_e e_176_3 (wp_r (hQ J f1 z)))
  · rintro k J hk ⟨f1, z⟩ hgo
    refine wp_e e_176_1 ?_
    rw [f1 55 (by decide), h8]
    refine wp_t (nI_lt hk (by omega)) (wp_e e_176_2 ?_)
    rw [ib (n := k) (N := 24) (by omega) (by decide), nI_clamp (n := k) (by omega), nI_1, f1 67 (by decide)]
    refine wp_c rfl (hgo _ ⟨fr_t f1 (fr_2 (by decide)), fun j hj => ?_⟩)
    rw [u2_k]
    by_cases e : j = k
    · rw [if_pos e, e]
    · rw [if_neg e]
      exact z j (by omega)
/-- the model at the end of a way -/
theorem m_175 {C D q : Nat} {so v : Int32} {it : Nat → Int32} {t : PS} {w : Nat → Nat} {a : MA} (h0 : 0 < C) (hC : C ≤ 4) (hD : D ≤ 24) (h7 : I 55 7 = nI C) (h8 : I 55 8 = nI D) (h65 : ∀ c, c < 4 → I 65 c = t.1 c) (h66 : ∀ c, c < 4 → I 66 c = t.2.1 c) (h34 : I 55 34 = t.2.2.2.1) (h40 : I 55 40 = so) (h41 : I 55 41 = v) (h67 : ∀ j, j < D → I 67 j = nI (w j)) (he : ME D I a) (hso : so = 0 ∨ so = 1 ∨ (so = 2 ∧ v = nI q ∧ q < 4 ∧ ∀ c, c < C → I 76 (40 * q + c) = it c)) : wp (am_R (d + 2) 175 0 (am_mem L ext tx tt fe I G) [some (Value.ref 55), none, none] []) (fun v' M => v' = none ∧ ∃ I', M = (am_mem L ext tx tt fe (I') G) ∧ mf [68] [38, 39, 42] I I' ∧ ME D I' (mle so v C D it t w a)) := by
  obtain ⟨a1, a2, a3, a4⟩ := he
  have keep : ∀ {b}, b = a → ∃ I', (am_mem L ext tx tt fe I G) = (am_mem L ext tx tt fe (I') G) ∧ mf [68] [38, 39, 42] I I' ∧ ME D I' b := fun {b} e => ⟨I, rfl, mf_r _ _ _, by rw [e]; exact ⟨a1, a2, a3, a4⟩⟩
  refine wp_e e_175_0 ?_
  rw [h40]
  by_cases h2 : so = 2
  · obtain ⟨-, hv, hq, hit⟩ : so = 2 ∧ v = nI q ∧ q < 4 ∧ ∀ c, c < C → I 76 (40 * q + c) = it c := by
      rcases hso with z | z | z
      · rw [h2] at z; exact absurd z (by decide)
      · rw [h2] at z; exact absurd z (by decide)
      · exact z
    subst hv
    have em : mle so (nI q) C D it t w a = if tas t.2.1 it (-1) C = true then (a.1 + 1, a.2.1, a.2.2.1, if a.1 + 1 = 1 then (fun j => nI (w j)) else a.2.2.2) else a := if_pos h2
    refine wp_t h2 (wp_e e_175_1 ?_)
    refine wp_loop C (fun k (_ : Unit) => True) (fun k _ => wp (am_R (d + 2) 175 2 (am_mem L ext tx tt fe I G) [some (Value.ref 55), some (Value.int (if tas t.2.1 it (-1) k = true then 1 else 0)), some (Value.int (nI k))] []) _) ?_ ?_ 0 () (Nat.zero_le _) trivial
    · rintro _ -
      refine wp_e e_175_2 ?_
      rw [h7]
      refine wp_f (nI_nlt (Nat.le_refl _) (by omega)) (wp_e e_175_8 ?_)
      rw [em]
      by_cases e : tas t.2.1 it (-1) C = true
      · rw [if_pos (c := tas t.2.1 it (-1) C = true) (t := (1 : Int32)) e, if_pos (c := tas t.2.1 it (-1) C = true) (t := (a.1 + 1, a.2.1, a.2.2.1, if a.1 + 1 = 1 then (fun j => nI (w j)) else a.2.2.2)) e]
        refine wp_f (by decide) (wp_e e_175_9 ?_)
        rw [a1, u2_s]
        by_cases e1 : a.1 + 1 = 1
        · rw [if_pos (c := a.1 + 1 = 1) (t := fun j => nI (w j)) e1]
          refine wp_t e1 (wp_e e_175_10 (wp_b (Q' := fun v' M => v' = none ∧ ∃ I', M = (am_mem L ext tx tt fe (I') G) ∧ mf [68] [38, 39, 42] I I' ∧ ME D I' (a.1 + 1, a.2.1, a.2.2.1, fun j => nI (w j))) (m_176 hD (by rw [u2_k, if_neg (by decide)]; exact h8) (fun I' f1 z => ⟨rfl, I', rfl, mf_t (mf_5 (by decide)) ⟨fun x hx hs => f1 x hs, fun x hx => by rw [f1 55 (by decide)]⟩, ?_, ?_, ?_, fun j hj => ?_⟩)) ?_))
          · rw [f1 55 (by decide), u2_s]
          · rw [f1 55 (by decide), u2_k, if_neg (by decide)]
            exact a2
          · rw [f1 55 (by decide), u2_k, if_neg (by decide)]
            exact a3
          · rw [z j hj, u2_a (by decide)]
            exact h67 j hj
          · rintro v' M ⟨rfl, I', rfl, h⟩
            exact wp_e e_175_11 (wp_r ⟨rfl, I', rfl, h⟩)
        · rw [if_neg (c := a.1 + 1 = 1) (t := fun j => nI (w j)) e1]
          refine wp_f e1 (wp_e e_175_11 (wp_r ⟨rfl, _, rfl, mf_5 (by decide), u2_s _ _ _ _, ?_, ?_, fun j hj => ?_⟩))
          · rw [u2_k, if_neg (by decide)]
            exact a2
          · rw [u2_k, if_neg (by decide)]
            exact a3
          · rw [u2_a (by decide)]
            exact a4 j hj
      · rw [if_neg (c := tas t.2.1 it (-1) C = true) (t := (1 : Int32)) e]
        exact wp_t rfl (wp_e e_175_11 (wp_r ⟨rfl, keep (if_neg e)⟩))
    · rintro k _ hk - hgo
      have hib := ib (n := k) (N := 4) (by omega) (by decide)
      have go := hgo () trivial
      refine wp_e e_175_2 ?_
      rw [h7]
      refine wp_t (nI_lt hk (by omega)) (wp_e e_175_3 ?_)
      cases ht : tas t.2.1 it (-1) k with
      | false =>
        rw [show tas t.2.1 it (-1) (k + 1) = false from tas_f ht 1] at go
        refine wp_t rfl (wp_e e_175_6 (wp_e e_175_7 ?_))
        rw [nI_1]
        exact go
      | true =>
        refine wp_f (by decide) (wp_e e_175_4 ?_)
        rw [h41, show (40 : Int32) * nI q + nI k = nI (40 * q + k) by rw [show (40 : Int32) = nI 40 from rfl, pk_mul, nI_add], hib, ib (n := 40 * q + k) (N := 160) (by omega) (by decide)]
        refine wp_c rfl ?_
        rw [nI_clamp (n := k) (by omega), nI_clamp (n := 40 * q + k) (by omega), h66 k (by omega), hit k hk]
        refine wp_i (fun e => wp_e e_175_5 (wp_e e_175_7 ?_)) (fun e => wp_e e_175_6 (wp_e e_175_7 ?_))
        · rw [tas_1 ht (Or.inr e)] at go
          rw [nI_1]
          exact go
        · rw [tas_0 (nIm4 (by omega)) e] at go
          rw [nI_1]
          exact go
  · have em : mle so v C D it t w a = if bldl (D / C) t C = true then (if so = 1 then (if ¬ v < un t.2.1 C ∧ (a.1 = -1 ∨ t.2.2.2.1 < a.1) then (t.2.2.2.1, a.2) else a) else (if a.1 = -1 ∨ (un t.2.1 C < a.2.1 ∨ (un t.2.1 C = a.2.1 ∧ t.2.2.2.1 < a.2.2.1)) then (0, un t.2.1 C, t.2.2.2.1, fun j => nI (w j)) else a)) else a := if_neg h2
    refine wp_f h2 (wp_e e_175_12 (wp_p (m_174 h0 hC hD h7 h8 h65) (wp_e e_175_13 ?_)))
    rw [em]
    by_cases hb : bldl (D / C) t C = true
    · rw [if_pos (c := bldl (D / C) t C = true) (t := (1 : Int32)) hb, if_pos (c := bldl (D / C) t C = true) (t := (if so = 1 then (if ¬ v < un t.2.1 C ∧ (a.1 = -1 ∨ t.2.2.2.1 < a.1) then (t.2.2.2.1, a.2) else a) else (if a.1 = -1 ∨ (un t.2.1 C < a.2.1 ∨ (un t.2.1 C = a.2.1 ∧ t.2.2.2.1 < a.2.2.1)) then (0, un t.2.1 C, t.2.2.2.1, fun j => nI (w j)) else a))) hb]
      refine wp_f (by decide) (wp_e e_175_15 (wp_p (s_164 h7 h0 hC) (wp_e e_175_16 ?_)))
      rw [h40, un_c h0 (fun j hj => h66 j (by omega))]
      by_cases h1 : so = 1
      · rw [if_pos (c := so = 1) (t := (if ¬ v < un t.2.1 C ∧ (a.1 = -1 ∨ t.2.2.2.1 < a.1) then (t.2.2.2.1, a.2) else a)) h1]
        refine wp_t h1 (wp_e e_175_17 ?_)
        rw [h41]
        refine wp_i (fun e => wp_e e_175_21 (wp_r ⟨rfl, keep (if_neg (fun q => q.1 e))⟩)) (fun e => wp_e e_175_18 ?_)
        have yes : (a.1 = -1 ∨ t.2.2.2.1 < a.1) → wp (am_R (d + 2) 175 20 (am_mem L ext tx tt fe I G) [some (Value.ref 55), some (Value.int (un t.2.1 C)), none] []) (fun v' M => v' = none ∧ ∃ I', M = (am_mem L ext tx tt fe (I') G) ∧ mf [68] [38, 39, 42] I I' ∧ ME D I' (if ¬ v < un t.2.1 C ∧ (a.1 = -1 ∨ t.2.2.2.1 < a.1) then (t.2.2.2.1, a.2) else a)) := by
          intro z
          rw [if_pos ⟨e, z⟩]
          refine wp_e e_175_20 (wp_e e_175_21 (wp_r ⟨rfl, _, rfl, mf_5 (by decide), ?_, ?_, ?_, fun j hj => ?_⟩))
          · rw [u2_s]; exact h34
          · rw [u2_k, if_neg (by decide)]; exact a2
          · rw [u2_k, if_neg (by decide)]; exact a3
          · rw [u2_a (by decide)]; exact a4 j hj
        rw [a1]
        refine wp_i (fun e2 => yes (Or.inl e2)) (fun e2 => wp_e e_175_19 ?_)
        rw [a1, h34]
        exact wp_i (fun e3 => yes (Or.inr e3)) (fun e3 => wp_e e_175_21 (wp_r ⟨rfl, keep (if_neg (fun q => q.2.elim e2 e3))⟩))
      · rw [if_neg (c := so = 1) (t := (if ¬ v < un t.2.1 C ∧ (a.1 = -1 ∨ t.2.2.2.1 < a.1) then (t.2.2.2.1, a.2) else a)) h1]
        refine wp_f h1 (wp_e e_175_22 ?_)
        have yes : (a.1 = -1 ∨ (un t.2.1 C < a.2.1 ∨ (un t.2.1 C = a.2.1 ∧ t.2.2.2.1 < a.2.2.1))) → wp (am_R (d + 2) 175 26 (am_mem L ext tx tt fe I G) [some (Value.ref 55), some (Value.int (un t.2.1 C)), none] []) (fun v' M => v' = none ∧ ∃ I', M = (am_mem L ext tx tt fe (I') G) ∧ mf [68] [38, 39, 42] I I' ∧ ME D I' (if a.1 = -1 ∨ (un t.2.1 C < a.2.1 ∨ (un t.2.1 C = a.2.1 ∧ t.2.2.2.1 < a.2.2.1)) then (0, un t.2.1 C, t.2.2.2.1, fun j => nI (w j)) else a)) := by
          intro z
          rw [if_pos z]
          refine wp_e e_175_26 ?_
          rw [show am_u2 (am_u2 I 55 42 0) 55 38 (un t.2.1 C) 55 34 = t.2.2.2.1 by rw [u2_k, if_neg (by decide), u2_k, if_neg (by decide)]; exact h34]
          have ff : mf [68] [38, 39, 42] I (am_u2 (am_u2 (am_u2 I 55 42 0) 55 38 (un t.2.1 C)) 55 39 t.2.2.2.1) := mf_t (mf_t (mf_5 (by decide)) (mf_5 (by decide))) (mf_5 (by decide))
          refine wp_b (Q' := fun v' M => v' = none ∧ ∃ I', M = (am_mem L ext tx tt fe (I') G) ∧ mf [68] [38, 39, 42] I I' ∧ ME D I' (0, un t.2.1 C, t.2.2.2.1, fun j => nI (w j))) (m_176 hD (by rw [ff.2 8 (by decide)]; exact h8) (fun I' f1 z => ⟨rfl, I', rfl, mf_t ff ⟨fun x hx hs => f1 x hs, fun x hx => by rw [f1 55 (by decide)]⟩, ?_, ?_, ?_, fun j hj => ?_⟩)) ?_
          · rw [f1 55 (by decide), u2_k, if_neg (by decide), u2_k, if_neg (by decide), u2_s]
          · rw [f1 55 (by decide), u2_k, if_neg (by decide), u2_s]
          · rw [f1 55 (by decide), u2_s]
          · rw [z j hj, ff.1 67 (by decide) (by decide)]
            exact h67 j hj
          · rintro v' M ⟨rfl, I', rfl, h⟩
            exact wp_e e_175_27 (wp_r ⟨rfl, I', rfl, h⟩)
        rw [a1]
        refine wp_i (fun e => yes (Or.inl e)) (fun e1 => wp_e e_175_23 ?_)
        rw [a2]
        refine wp_i (fun e => yes (Or.inr (Or.inl e))) (fun e2 => wp_e e_175_24 ?_)
        rw [a2]
        refine wp_i (fun e3 => wp_e e_175_25 ?_) (fun e3 => wp_e e_175_27 (wp_r ⟨rfl, keep (if_neg (fun q => q.elim e1 (fun q => q.elim e2 (fun q => e3 q.1))))⟩))
        rw [h34, a3]
        exact wp_i (fun e4 => yes (Or.inr (Or.inr ⟨e3, e4⟩))) (fun e4 => wp_e e_175_27 (wp_r ⟨rfl, keep (if_neg (fun q => q.elim e1 (fun q => q.elim e2 (fun q => e4 q.2))))⟩))
    · rw [if_neg (c := bldl (D / C) t C = true) (t := (1 : Int32)) hb]
      exact wp_t rfl (wp_e e_175_14 (wp_r ⟨rfl, keep (if_neg hb)⟩))
end B56
