/-! PURE, 14: the model's tokens -/
/-- only these fields of the model may have changed -/
def f5 (S : List Nat) (I I' : Nat → Nat → Int32) : Prop := (∀ a, a ≠ 55 → I' a = I a) ∧ ∀ k, k ∉ S → I' 55 k = I 55 k
theorem f5_r (S : List Nat) (I : Nat → Nat → Int32) : f5 S I I := ⟨fun _ _ => rfl, fun _ _ => rfl⟩
theorem f5_t {S : List Nat} {I I' I'' : Nat → Nat → Int32} (h : f5 S I I') (h2 : f5 S I' I'') : f5 S I I'' := ⟨fun a ha => (h2.1 a ha).trans (h.1 a ha), fun k hk => (h2.2 k hk).trans (h.2 k hk)⟩
theorem f5_m {S T : List Nat} {I I' : Nat → Nat → Int32} (h : f5 S I I') (hs : ∀ a, a ∈ S → a ∈ T) : f5 T I I' := ⟨h.1, fun k hk => h.2 k (fun e => hk (hs k e))⟩
theorem f5_2 {S : List Nat} {I : Nat → Nat → Int32} {k : Nat} {v : Int32} (h : k ∈ S) : f5 S I (am_u2 I 55 k v) := ⟨fun a ha => u2_a ha, fun x hx => by rw [u2_k, if_neg (show ¬ x = k from fun e => hx (by rw [e]; exact h))]⟩
def bta (bt : Nat → Nat) (n p : Nat) : Int32 := if p < n then nI (bt p) else -1
/-- the text that the model reads -/
def MT (I : Nat → Nat → Int32) (bt : Nat → Nat) (n : Nat) : Prop := ∃ f, I 55 20 = nI f ∧ f + 160 ≤ 960 ∧ I 55 21 = nI n ∧ n ≤ 160 ∧ ∀ k, k < n → I 56 (f + k) = nI (bt k) ∧ bt k < 256
theorem MT_f {I I' : Nat → Nat → Int32} {bt : Nat → Nat} {n : Nat} {S : List Nat} (h : MT I bt n) (hf : f5 S I I') (h0 : 20 ∉ S) (h1 : 21 ∉ S) : MT I' bt n := by
  obtain ⟨f, a1, a2, a3, a4, a5⟩ := h
  exact ⟨f, by rw [hf.2 20 h0]; exact a1, a2, by rw [hf.2 21 h1]; exact a3, a4, fun k hk => by rw [hf.1 56 (by decide)]; exact a5 k hk⟩
def FK : List Nat := [22, 23, 24]
/-- the token at hand -/
def MS (I : Nat → Nat → Int32) (G : Nat → Nat → Int64) (bt : Nat → Nat) (n q : Nat) : Prop := I 55 24 = nI q ∧ q ≤ n ∧ ((q = n ∧ I 55 23 = 0) ∨ (q < n ∧ isL (bt q) = true ∧ I 55 23 = 1 ∧ I 55 22 = nI (te bt n q)) ∨ (q < n ∧ ¬ isL (bt q) = true ∧ isD (bt q) = true ∧ te bt n q - q ≤ 4 ∧ I 55 23 = 2 ∧ I 55 22 = nI (te bt n q) ∧ G 55 25 = lN (nv bt q (te bt n q - q))) ∨ (q < n ∧ ¬ isL (bt q) = true ∧ ¬ isD (bt q) = true ∧ isS (bt q) = true ∧ I 55 23 = 3 ∧ I 55 22 = nI (te bt n q) ∧ G 55 25 = lN (bt q)) ∨ (q < n ∧ ¬ isL (bt q) = true ∧ cd bt n q = -2 ∧ I 55 23 = 4))
theorem rn_s {P : Nat → Bool} {n p : Nat} (h : p < n) (hp : P p = true) : rn P (n - p) p = rn P (n - (p + 1)) (p + 1) := by
  rw [show n - p = (n - (p + 1)) + 1 by omega]
  show (if P p = true then _ else _) = _
  rw [if_pos hp]
theorem rn_x {P : Nat → Bool} {n p : Nat} (h : ¬ (p < n ∧ P p = true)) : rn P (n - p) p = p := by
  cases hf : n - p with
  | zero => rfl
  | succ f =>
    show (if P p = true then _ else p) = p
    rw [if_neg (fun e => h ⟨by omega, e⟩)]
theorem te_L {bt : Nat → Nat} {n q : Nat} (h : q < n) (hL : isL (bt q) = true) : te bt n q = rn (fun k => isL (bt k)) (n - q) q := by
  unfold te
  rw [if_pos hL, rn_s (P := fun k => isL (bt k)) h hL]
theorem te_D {bt : Nat → Nat} {n q : Nat} (h : q < n) (hL : ¬ isL (bt q) = true) (hD : isD (bt q) = true) : te bt n q = rn (fun k => isD (bt k)) (n - q) q := by
  unfold te
  rw [if_neg hL, if_pos hD, rn_s (P := fun k => isD (bt k)) h hD]
theorem bta_L {bt : Nat → Nat} {n p : Nat} (hb : p < n → bt p < 256) : (¬ bta bt n p < 97 ∧ ¬ 122 < bta bt n p) ↔ (p < n ∧ isL (bt p) = true) := by
  unfold bta isL
  by_cases h : p < n
  · have := hb h
    rw [if_pos h, decide_eq_true_eq, show (97 : Int32) = nI 97 from rfl, show (122 : Int32) = nI 122 from rfl, nI_ltI (by omega) (by omega), nI_ltI (by omega) (by omega)]
    omega
  · rw [if_neg h]
    exact ⟨fun e => absurd (show (-1 : Int32) < 97 by decide) e.1, fun e => absurd e.1 h⟩
theorem bta_D {bt : Nat → Nat} {n p : Nat} (hb : p < n → bt p < 256) : (¬ bta bt n p < 48 ∧ ¬ 57 < bta bt n p) ↔ (p < n ∧ isD (bt p) = true) := by
  unfold bta isD
  by_cases h : p < n
  · have := hb h
    rw [if_pos h, decide_eq_true_eq, show (48 : Int32) = nI 48 from rfl, show (57 : Int32) = nI 57 from rfl, nI_ltI (by omega) (by omega), nI_ltI (by omega) (by omega)]
    omega
  · rw [if_neg h]
    exact ⟨fun e => absurd (show (-1 : Int32) < 48 by decide) e.1, fun e => absurd e.1 h⟩
section B14
variable {d L : Nat} {ext : List (Nat × Nat)} {tx : Nat → Nat} {tt : Nat} {fe : Nat → Nat → Option Nat} {I : Nat → Nat → Int32} {G : Nat → Nat → Int64}
theorem s_139 {bt : Nat → Nat} {n p : Nat} (ht : MT I bt n) (hp : p < 1000) : (am_R (d) 139 0 (am_mem L ext tx tt fe I G) [some (Value.ref 55), some (Value.int (nI p))] []) = some (some (Value.int (bta bt n p)), (am_mem L ext tx tt fe I G)) := by
  obtain ⟨f, a1, a2, a3, a4, a5⟩ := ht
  unfold bta
  rw [e_139_0, a3]
  by_cases h : p < n
  · rw [if_pos (nI_lt h (by omega)), if_pos h, e_139_1, a1, nI_add, ib (n := f + p) (N := 960) (by omega) (by decide)]
    simp only [Bool.and_true, cond_true]
    rw [nI_clamp (by omega), (a5 p h).1, e_139_3]
  · rw [if_neg (nI_nlt (by omega) (by omega)), if_neg h, e_139_2, e_139_3]
theorem s_inL {bt : Nat → Nat} {n p : Nat} (hb : p < n → bt p < 256) : (am_R (d) 127 0 (am_mem L ext tx tt fe I G) [some (Value.long (bta bt n p).toInt64), none, some (Value.long (97)), none, some (Value.long (122)), none] []) = some (some (Value.int (bI (p < n ∧ isL (bt p) = true))), (am_mem L ext tx tt fe I G)) := by
  rw [show (97 : Int64) = (97 : Int32).toInt64 from rfl, show (122 : Int64) = (122 : Int32).toInt64 from rfl, s_127, bI_c (in_i.trans (bta_L hb))]
theorem s_inD {bt : Nat → Nat} {n p : Nat} (hb : p < n → bt p < 256) : (am_R (d) 127 0 (am_mem L ext tx tt fe I G) [some (Value.long (bta bt n p).toInt64), none, some (Value.long (48)), none, some (Value.long (57)), none] []) = some (some (Value.int (bI (p < n ∧ isD (bt p) = true))), (am_mem L ext tx tt fe I G)) := by
  rw [show (48 : Int64) = (48 : Int32).toInt64 from rfl, show (57 : Int64) = (57 : Int32).toInt64 from rfl, s_127, bI_c (in_i.trans (bta_D hb))]
theorem MT_b {bt : Nat → Nat} {n : Nat} (ht : MT I bt n) (p : Nat) : p < n → bt p < 256 := by
  obtain ⟨f, a1, a2, a3, a4, a5⟩ := ht
  exact fun h => (a5 p h).2
theorem MT_n {bt : Nat → Nat} {n : Nat} (ht : MT I bt n) : n ≤ 160 := by
  obtain ⟨f, a1, a2, a3, a4, a5⟩ := ht
  exact a4
/-- letters -/
theorem s_140L {bt : Nat → Nat} {n q E : Nat} {w1 : Int32} : ∀ f p : Nat, p + f = n → ∀ I : Nat → Nat → Int32, MT I bt n → I 55 22 = nI p → rn (fun k => isL (bt k)) (n - p) p = E → wp (am_R (d + 1) 140 11 (am_mem L ext tx tt fe I G) [some (Value.ref 55), some (Value.int w1), none] []) (fun v M => v = none ∧ ∃ I' G', M = am_mem L ext tx tt fe I' G' ∧ f5 [22] I I' ∧ I' 55 22 = nI E) := by
  intro f
  induction f with
  | zero =>
    intro p hp I ht hh hE
    have hn := MT_n ht
    refine wp_e e_140_11 ?_
    rw [hh]
    refine wp_p (s_139 ht (by omega)) (wp_e e_140_12 (wp_p (s_inL (MT_b ht p)) (wp_e e_140_13 ?_)))
    rw [bI_f (fun e => by omega)]
    rw [rn_x (fun e => by omega)] at hE
    exact wp_t rfl (wp_e e_140_39 (wp_r ⟨rfl, I, G, rfl, f5_r _ _, by rw [hh, hE]⟩))
  | succ f ih =>
    intro p hp I ht hh hE
    have hn := MT_n ht
    refine wp_e e_140_11 ?_
    rw [hh]
    refine wp_p (s_139 ht (by omega)) (wp_e e_140_12 (wp_p (s_inL (MT_b ht p)) (wp_e e_140_13 ?_)))
    by_cases hb : p < n ∧ isL (bt p) = true
    · rw [bI_t hb]
      refine wp_f (by decide) (wp_e e_140_14 ?_)
      rw [hh, nI_1]
      have f1 : f5 [22] I (am_u2 I 55 22 (nI (p + 1))) := f5_2 (by decide)
      rw [rn_s (P := fun k => isL (bt k)) hb.1 hb.2] at hE
      refine wp_m (ih (p + 1) (by omega) _ (MT_f ht f1 (by decide) (by decide)) (u2_s _ _ _ _) hE) ?_
      rintro v M ⟨rfl, I2, G2, rfl, f2, g2⟩
      exact ⟨rfl, I2, G2, rfl, f5_t f1 f2, g2⟩
    · rw [bI_f hb]
      rw [rn_x hb] at hE
      exact wp_t rfl (wp_e e_140_39 (wp_r ⟨rfl, I, G, rfl, f5_r _ _, by rw [hh, hE]⟩))
/-- digits -/
theorem s_140D {bt : Nat → Nat} {n q E : Nat} {w1 : Int32} (hE0 : rn (fun k => isD (bt k)) (n - q) q = E) : ∀ f j : Nat, q + j + f = n → ∀ (I : Nat → Nat → Int32) (G : Nat → Nat → Int64), MT I bt n → I 55 22 = nI (q + j) → rn (fun k => isD (bt k)) (n - (q + j)) (q + j) = E → (j ≤ 4 → G 55 25 = lN (nv bt q j)) → (4 < j → True) → (∀ i, i < j → isD (bt (q + i)) = true) → (4 ≤ j → G 55 25 = lN (nv bt q 4)) → wp (am_R (d + 1) 140 18 (am_mem L ext tx tt fe I G) [some (Value.ref 55), some (Value.int w1), some (Value.int (nI j))] []) (fun v M => v = none ∧ ∃ I' G', M = am_mem L ext tx tt fe I' G' ∧ f5 [22, 23] I I' ∧ I' 55 22 = nI E ∧ I' 55 23 = (if 4 < E - q then 4 else 2) ∧ (E - q ≤ 4 → G' 55 25 = lN (nv bt q (E - q)))) := by
  -- the end
  have fin : ∀ (j : Nat) (I : Nat → Nat → Int32) (G : Nat → Nat → Int64), q + j ≤ 200 → I 55 22 = nI (q + j) → E = q + j → (j ≤ 4 → G 55 25 = lN (nv bt q j)) → wp (am_R (d + 1) 140 26 (am_mem L ext tx tt fe I G) [some (Value.ref 55), some (Value.int w1), some (Value.int (nI j))] []) (fun v M => v = none ∧ ∃ I' G', M = am_mem L ext tx tt fe I' G' ∧ f5 [22, 23] I I' ∧ I' 55 22 = nI E ∧ I' 55 23 = (if 4 < E - q then 4 else 2) ∧ (E - q ≤ 4 → G' 55 25 = lN (nv bt q (E - q)))) := by
    intro j I G hj hh hE hg
    have ej : E - q = j := by omega
    refine wp_e e_140_26 ?_
    by_cases h4 : 4 < j
    · refine wp_t (show (4 : Int32) < nI j from nI_lt (a := 4) h4 (by omega)) (wp_e e_140_27 (wp_e e_140_29 (wp_l (lq_e (lq_e (lq_n lq_0))) (wp_e e_140_39 (wp_r ⟨rfl, _, G, rfl, f5_2 (by decide), ?_, ?_, ?_⟩)))))
      · rw [u2_k, if_neg (by decide), hh, hE]
      · rw [u2_s, if_pos (by omega)]
      · intro h; omega
    · refine wp_f (show ¬ (4 : Int32) < nI j from nI_nlt (a := 4) (by omega) (by omega)) (wp_e e_140_28 (wp_e e_140_29 (wp_l (lq_e (lq_e (lq_n lq_0))) (wp_e e_140_39 (wp_r ⟨rfl, _, G, rfl, f5_2 (by decide), ?_, ?_, ?_⟩)))))
      · rw [u2_k, if_neg (by decide), hh, hE]
      · rw [u2_s, if_neg (by omega)]
      · intro h; rw [ej]; exact hg (by omega)
  intro f
  induction f with
  | zero =>
    intro j hj I G ht hh hE hg _ hd hg4
    have hn := MT_n ht
    refine wp_e e_140_18 ?_
    rw [hh]
    refine wp_p (s_139 ht (by omega)) (wp_e e_140_19 (wp_p (s_inD (MT_b ht _)) (wp_e e_140_20 ?_)))
    rw [bI_f (fun e => by omega)]
    rw [rn_x (fun e => by omega)] at hE
    exact wp_t rfl (fin j I G (by omega) hh hE.symm hg)
  | succ f ih =>
    intro j hj I G ht hh hE hg _ hd hg4
    have hn := MT_n ht
    refine wp_e e_140_18 ?_
    rw [hh]
    refine wp_p (s_139 ht (by omega)) (wp_e e_140_19 (wp_p (s_inD (MT_b ht _)) (wp_e e_140_20 ?_)))
    by_cases hb : q + j < n ∧ isD (bt (q + j)) = true
    · rw [bI_t hb]
      refine wp_f (by decide) (wp_e e_140_21 ?_)
      rw [rn_s (P := fun k => isD (bt k)) hb.1 hb.2] at hE
      have f1 : f5 [22, 23] I (am_u2 I 55 22 (nI (q + j + 1))) := f5_2 (by decide)
      have hv := hb.2
      unfold isD at hv
      rw [decide_eq_true_eq] at hv
      have hd' : ∀ i, i < j + 1 → isD (bt (q + i)) = true := fun i hi => by
        by_cases e : i = j
        · rw [e]; exact hb.2
        · exact hd i (by omega)
      by_cases h4 : j < 4
      · refine wp_t (show nI j < (4 : Int32) from nI_lt (b := 4) h4 (by omega)) (wp_e e_140_22 ?_)
        rw [hh]
        refine wp_p (s_139 ht (by omega)) (wp_e e_140_23 (wp_e e_140_25 ?_))
        have eb : bta bt n (q + j) = nI (bt (q + j)) := by
          unfold bta
          rw [if_pos hb.1]
        have hnv : nv bt q j < 10 ^ j := nv_lt j (fun i hi => by
          have := hd i hi
          unfold isD at this
          rw [decide_eq_true_eq] at this
          omega)
        have hp4 : 10 ^ j ≤ 10 ^ 4 := Nat.pow_le_pow_right (by omega) (by omega)
        have e1 : (10 : Int64) * G 55 25 + (bta bt n (q + j)).toInt64 - 48 = lN (nv bt q (j + 1)) := by
          rw [hg (by omega), eb, nI_l (by omega), show (10 : Int64) = lN 10 from rfl, show (48 : Int64) = lN 48 from rfl, lN_mul, lN_add, lN_sub (by omega)]
          congr 1
          show _ = nv bt q j * 10 + (bt (q + j) - 48)
          omega
        rw [e1, hh, nI_1, nI_1]
        refine wp_m (ih (j + 1) (by omega) _ _ (MT_f ht f1 (by decide) (by decide)) (u2_s _ _ _ _) hE (fun _ => u2_s _ _ _ _) (fun _ => trivial) hd' (fun h => ?_)) ?_
        · have e : j + 1 = 4 := by omega
          rw [e]
          exact u2_s _ _ _ _
        · rintro v M ⟨rfl, I2, G2, rfl, f2, g2⟩
          exact ⟨rfl, I2, G2, rfl, f5_t f1 f2, g2⟩
      · refine wp_f (show ¬ nI j < (4 : Int32) from nI_nlt (b := 4) (by omega) (by omega)) (wp_e e_140_24 (wp_e e_140_25 ?_))
        rw [hh, nI_1, nI_1]
        refine wp_m (ih (j + 1) (by omega) _ _ (MT_f ht f1 (by decide) (by decide)) (u2_s _ _ _ _) hE (fun h => by omega) (fun _ => trivial) hd' (fun h => ?_)) ?_
        · rw [u2_s]; exact hg4 (by omega)
        · rintro v M ⟨rfl, I2, G2, rfl, f2, g2⟩
          exact ⟨rfl, I2, G2, rfl, f5_t f1 f2, g2⟩
    · rw [bI_f hb]
      rw [rn_x hb] at hE
      exact wp_t rfl (fin j I G (by omega) hh hE.symm hg)
/-- the next token -/
theorem s_140 {bt : Nat → Nat} {n : Nat} : ∀ f p : Nat, p + f = n → ∀ I : Nat → Nat → Int32, MT I bt n → I 55 22 = nI p → wp (am_R (d + 2) 140 0 (am_mem L ext tx tt fe I G) [some (Value.ref 55), none, none] []) (fun v M => v = none ∧ ∃ I' G', M = am_mem L ext tx tt fe I' G' ∧ f5 FK I I' ∧ MS I' G' bt n (sk bt n p)) := by
  intro f
  induction f using Nat.strongRecOn with
  | _ f ih =>
    intro p hp I ht hh
    have hn := MT_n ht
    have hbl : (bta bt n p = 32 ∨ bta bt n p = 10) ↔ (p < n ∧ isB (bt p) = true) := by
      unfold bta isB
      by_cases h : p < n
      · have := MT_b ht p h
        rw [if_pos h, decide_eq_true_eq, show (32 : Int32) = nI 32 from rfl, show (10 : Int32) = nI 10 from rfl, nI_eq (by omega) (by omega), nI_eq (by omega) (by omega)]
        exact ⟨fun e => ⟨h, e⟩, fun e => e.2⟩
      · rw [if_neg h]
        exact ⟨fun e => by rcases e with e | e <;> exact absurd e (by decide), fun e => absurd e.1 h⟩
    refine wp_e e_140_0 ?_
    rw [hh]
    refine wp_p (s_139 ht (by omega)) (wp_e e_140_1 ?_)
    have blank : (p < n ∧ isB (bt p) = true) → wp (am_R (d + 2) 140 4 (am_mem L ext tx tt fe I G) [some (Value.ref 55), none, none] []) (fun v M => v = none ∧ ∃ I' G', M = am_mem L ext tx tt fe I' G' ∧ f5 FK I I' ∧ MS I' G' bt n (sk bt n p)) := by
      intro hb
      refine wp_e e_140_4 ?_
      rw [hh, nI_1]
      have f1 : f5 FK I (am_u2 I 55 22 (nI (p + 1))) := f5_2 (by decide)
      refine wp_m (ih (n - (p + 1)) (by omega) (p + 1) (by omega) _ (MT_f ht f1 (by decide) (by decide)) (u2_s _ _ _ _)) ?_
      rintro v M ⟨rfl, I2, G2, rfl, f2, g2⟩
      exact ⟨rfl, I2, G2, rfl, f5_t f1 f2, by rw [sk_b hb.1 hb.2]; exact g2⟩
    by_cases h32 : bta bt n p = 32
    · exact wp_t h32 (blank (hbl.mp (Or.inl h32)))
    refine wp_f h32 (wp_e e_140_2 ?_)
    rw [hh]
    refine wp_p (s_139 ht (by omega)) (wp_e e_140_3 ?_)
    by_cases h10 : bta bt n p = 10
    · exact wp_t h10 (blank (hbl.mp (Or.inr h10)))
    have hnb : ¬ (p < n ∧ isB (bt p) = true) := fun e => (hbl.mpr e).elim h32 h10
    have hsk : sk bt n p = p := rn_x (P := fun k => isB (bt k)) hnb
    refine wp_f h10 (wp_e e_140_5 ?_)
    rw [hh, u2_k, if_neg (show ¬ (22 : Nat) = 24 by decide), hh, hsk]
    have f1 : f5 FK I (am_u2 I 55 24 (nI p)) := f5_2 (by decide)
    have ht1 := MT_f ht f1 (by decide) (by decide)
    refine wp_p (s_139 ht1 (by omega)) (wp_e e_140_6 ?_)
    have f2 : f5 FK I (am_u2 (am_u2 I 55 24 (nI p)) 55 23 4) := f5_t f1 (f5_2 (by decide))
    have ht2 := MT_f ht f2 (by decide) (by decide)
    have u24 : (am_u2 (am_u2 I 55 24 (nI p)) 55 23 4) 55 24 = nI p := by rw [u2_k, if_neg (by decide), u2_s]
    have u22 : (am_u2 (am_u2 I 55 24 (nI p)) 55 23 4) 55 22 = nI p := by rw [u2_k, if_neg (by decide), u2_k, if_neg (by decide)]; exact hh
    have u23 : (am_u2 (am_u2 I 55 24 (nI p)) 55 23 4) 55 23 = 4 := u2_s _ _ _ _
    generalize (am_u2 (am_u2 I 55 24 (nI p)) 55 23 4) = I2 at f2 ht2 u24 u22 u23 ⊢
    by_cases hpn : p < n
    · have hb256 := MT_b ht p hpn
      have eb : bta bt n p = nI (bt p) := by
        unfold bta
        rw [if_pos hpn]
      refine wp_f (by rw [eb]; exact nI_pos (by omega)) (wp_e e_140_8 (wp_p (s_inL (MT_b ht p)) (wp_e e_140_9 ?_)))
      by_cases hL : isL (bt p) = true
      · rw [bI_t ⟨hpn, hL⟩]
        refine wp_f (by decide) (wp_e e_140_10 ?_)
        have f3 : f5 FK I2 (am_u2 I2 55 23 1) := f5_2 (by decide)
        refine wp_m (s_140L (q := p) (E := te bt n p) (n - p) p (by omega) _ (MT_f ht2 f3 (by decide) (by decide)) (by rw [u2_k, if_neg (by decide)]; exact u22) (te_L hpn hL).symm) ?_
        rintro v M ⟨rfl, I4, G4, rfl, f4, g4⟩
        refine ⟨rfl, I4, G4, rfl, f5_t f2 (f5_t f3 (f5_m f4 (by decide))), ?_, by omega, Or.inr (Or.inl ⟨hpn, hL, ?_, g4⟩)⟩
        · rw [f4.2 24 (by decide), u2_k, if_neg (by decide)]; exact u24
        · rw [f4.2 23 (by decide), u2_s]
      rw [bI_f (fun e => hL e.2)]
      refine wp_t rfl (wp_e e_140_15 (wp_p (s_inD (MT_b ht p)) (wp_e e_140_16 ?_)))
      by_cases hD : isD (bt p) = true
      · rw [bI_t ⟨hpn, hD⟩]
        refine wp_f (by decide) (wp_e e_140_17 ?_)
        have f3 : f5 FK I2 (am_u2 I2 55 23 2) := f5_2 (by decide)
        have eD := te_D hpn hL hD
        refine wp_m (s_140D (d := d + 1) (L := L) (ext := ext) (tx := tx) (tt := tt) (fe := fe) (q := p) (E := te bt n p) eD.symm (n - p) 0 (by omega) _ _ (MT_f ht2 f3 (by decide) (by decide)) (by rw [u2_k, if_neg (by decide)]; exact u22) eD.symm (fun _ => u2_s _ _ _ _) (fun _ => trivial) (fun i hi => by omega) (fun h => by omega)) ?_
        rintro v M ⟨rfl, I4, G4, rfl, f4, g4, g5, g6⟩
        refine ⟨rfl, I4, G4, rfl, f5_t f2 (f5_t f3 (f5_m f4 (by decide))), ?_, by omega, ?_⟩
        · rw [f4.2 24 (by decide), u2_k, if_neg (by decide)]; exact u24
        · by_cases h4 : 4 < te bt n p - p
          · rw [if_pos h4] at g5
            refine Or.inr (Or.inr (Or.inr (Or.inr ⟨hpn, hL, ?_, g5⟩)))
            unfold cd
            rw [if_pos hpn, if_neg hL, if_pos hD, if_pos h4]
          · rw [if_neg h4] at g5
            exact Or.inr (Or.inr (Or.inl ⟨hpn, hL, hD, by omega, g5, g4, g6 (by omega)⟩))
      rw [bI_f (fun e => hD e.2)]
      have ete : te bt n p = p + 1 := by
        unfold te
        rw [if_neg hL, if_neg hD]
      have sign : isS (bt p) = true → wp (am_R (d + 2) 140 38 (am_mem L ext tx tt fe (I2) G) [some (Value.ref 55), some (Value.int (bta bt n p)), none] []) (fun v M => v = none ∧ ∃ I' G', M = am_mem L ext tx tt fe I' G' ∧ f5 FK I I' ∧ MS I' G' bt n p) := by
        intro hS
        refine wp_e e_140_38 (wp_e e_140_39 (wp_r ⟨rfl, _, _, rfl, f5_t f2 (f5_t (f5_2 (by decide)) (f5_2 (by decide))), ?_, by omega, Or.inr (Or.inr (Or.inr (Or.inl ⟨hpn, hL, hD, hS, ?_, ?_, ?_⟩)))⟩))
        · rw [u2_k, if_neg (by decide), u2_k, if_neg (by decide)]; exact u24
        · rw [u2_k, if_neg (by decide), u2_s]
        · rw [u2_s, u2_k, if_neg (by decide), u22, nI_1, ete]
        · rw [u2_s, eb, nI_l (by omega)]
      have hS : isS (bt p) = true ↔ (bt p = 40 ∨ bt p = 41 ∨ bt p = 42 ∨ bt p = 43 ∨ bt p = 45 ∨ bt p = 59 ∨ bt p = 60 ∨ bt p = 61) := by
        unfold isS
        rw [decide_eq_true_eq]
      have cmp : ∀ c : Nat, c < 256 → (bta bt n p = nI c ↔ bt p = c) := fun c hc => by rw [eb]; exact nI_eq (by omega) (by omega)
      refine wp_t rfl (wp_e e_140_30 ?_)
      by_cases c1 : bt p = 40
      · exact wp_t ((cmp 40 (by omega)).mpr c1) (sign (hS.mpr (by omega)))
      refine wp_f (fun e => c1 ((cmp 40 (by omega)).mp e)) (wp_e e_140_31 ?_)
      by_cases c2 : bt p = 41
      · exact wp_t ((cmp 41 (by omega)).mpr c2) (sign (hS.mpr (by omega)))
      refine wp_f (fun e => c2 ((cmp 41 (by omega)).mp e)) (wp_e e_140_32 ?_)
      by_cases c3 : bt p = 59
      · exact wp_t ((cmp 59 (by omega)).mpr c3) (sign (hS.mpr (by omega)))
      refine wp_f (fun e => c3 ((cmp 59 (by omega)).mp e)) (wp_e e_140_33 ?_)
      by_cases c4 : bt p = 43
      · exact wp_t ((cmp 43 (by omega)).mpr c4) (sign (hS.mpr (by omega)))
      refine wp_f (fun e => c4 ((cmp 43 (by omega)).mp e)) (wp_e e_140_34 ?_)
      by_cases c5 : bt p = 45
      · exact wp_t ((cmp 45 (by omega)).mpr c5) (sign (hS.mpr (by omega)))
      refine wp_f (fun e => c5 ((cmp 45 (by omega)).mp e)) (wp_e e_140_35 ?_)
      by_cases c6 : bt p = 42
      · exact wp_t ((cmp 42 (by omega)).mpr c6) (sign (hS.mpr (by omega)))
      refine wp_f (fun e => c6 ((cmp 42 (by omega)).mp e)) (wp_e e_140_36 ?_)
      by_cases c7 : bt p = 60
      · exact wp_t ((cmp 60 (by omega)).mpr c7) (sign (hS.mpr (by omega)))
      refine wp_f (fun e => c7 ((cmp 60 (by omega)).mp e)) (wp_e e_140_37 ?_)
      by_cases c8 : bt p = 61
      · exact wp_t ((cmp 61 (by omega)).mpr c8) (sign (hS.mpr (by omega)))
      refine wp_f (fun e => c8 ((cmp 61 (by omega)).mp e)) (wp_e e_140_39 (wp_r ⟨rfl, I2, G, rfl, f2, u24, by omega, Or.inr (Or.inr (Or.inr (Or.inr ⟨hpn, hL, ?_, u23⟩)))⟩))
      unfold cd
      rw [if_pos hpn, if_neg hL, if_neg hD, if_neg (fun e => by have := hS.mp e; omega)]
    · have e : p = n := by omega
      have eb : bta bt n p = -1 := by
        unfold bta
        rw [if_neg hpn]
      refine wp_t (by rw [eb]; decide) (wp_e e_140_7 ?_)
      have h21 : I2 55 21 = nI n := by
        obtain ⟨f, a1, a2, a3, a4, a5⟩ := ht2
        exact a3
      rw [u2_k, if_neg (show ¬ (21 : Nat) = 23 by decide), h21]
      refine wp_e e_140_39 (wp_r ⟨rfl, _, G, rfl, f5_t f2 (f5_t (f5_2 (by decide)) (f5_2 (by decide))), ?_, by omega, Or.inl ⟨e, ?_⟩⟩)
      · rw [u2_s, e]
      · rw [u2_k, if_neg (by decide), u2_s]
end B14
