/-! PURE, 59: the class gets ready -/
/-- ahead in the order of drib, cup, full, was -/
def lxb (i c f w i' c' f' w' : Nat) : Prop := i' < i ∨ (i' = i ∧ (c' < c ∨ (c' = c ∧ (f' < f ∨ (f' = f ∧ w' < w)))))
def LG (I : Nat → Nat → Int32) (s d : SF) (C D i c f w : Nat) : Prop := ∀ i' c' f' w', i' < D → c' < C → f' ≤ i' → w' < C → lxb i c f w i' c' f' w' → I 49 (gpl C D i' c' f' w') = gn s d i' c' f' w'
theorem LG_m {I : Nat → Nat → Int32} {s d : SF} {C D i c f w i2 c2 f2 w2 : Nat} (h : LG I s d C D i c f w) (hl : ∀ i' c' f' w', i' < D → c' < C → f' ≤ i' → w' < C → lxb i2 c2 f2 w2 i' c' f' w' → lxb i c f w i' c' f' w') : LG I s d C D i2 c2 f2 w2 := fun i' c' f' w' a b e g hx => h i' c' f' w' a b e g (hl i' c' f' w' a b e g hx)
/-- what the search gets ready on -/
def RB (L : Nat) (ext : List (Nat × Nat)) (tx : Nat → Nat) (tt : Nat) (fe : Nat → Nat → Option Nat) (I : Nat → Nat → Int32) (C D : Nat) (cs cd cl : List Int32) : Prop := txo L ext (am_Fx tx tt fe) I tt cs cd cl ∧ I 43 1 = nI D ∧ I 43 2 = nI C ∧ I 48 6 = nI C ∧ I 48 7 = nI D
theorem RB_f {L : Nat} {ext : List (Nat × Nat)} {tx : Nat → Nat} {tt : Nat} {fe : Nat → Nat → Option Nat} {I I' : Nat → Nat → Int32} {C D : Nat} {cs cd cl : List Int32} {S : List Nat} (h : RB L ext tx tt fe I C D cs cd cl) (hS : ntx S) (hf : fr S I I') (h43 : 43 ∉ S) (h48 : 48 ∉ S) : RB L ext tx tt fe I' C D cs cd cl := by
  obtain ⟨h1, h2, h3, h4, h5⟩ := h
  exact ⟨txo_f hS hf h1, by rw [hf 43 h43]; exact h2, by rw [hf 43 h43]; exact h3, by rw [hf 48 h48]; exact h4, by rw [hf 48 h48]; exact h5⟩
section B59
variable {d L : Nat} {ext : List (Nat × Nat)} {tx : Nat → Nat} {tt : Nat} {fe : Nat → Nat → Option Nat} {I : Nat → Nat → Int32} {G : Nat → Nat → Int64}
theorem c_27s {C D i c f w : Nat} {cs cd cl : List Int32} {v5 : Option Value} {v6 : Option Value} (h0 : 0 < C) (hC : C ≤ 4) (hD : D ≤ 24) (hp : C ^ D ≤ 65536) (hi : i < D) (hc : c < C) (hf : f ≤ i) (hw : w < C) (hb : RB L ext tx tt fe I C D cs cd cl) (hg : LG I (sS cs (nI D) (nI C)) (sS cd (nI D) (nI C)) C D i c f w) {Q : Option Value → am_M → Prop} (hQ : ∀ I', fr [43, 44, 49] I I' → RB L ext tx tt fe I' C D cs cd cl → LG I' (sS cs (nI D) (nI C)) (sS cd (nI D) (nI C)) C D i c f (w + 1) → wp (am_R (d + 3) 27 3 (am_mem L ext tx tt fe (I') G) [some (Value.ref 48), some (Value.int (nI i)), some (Value.int (nI c)), some (Value.int (nI f)), some (Value.int (nI (w + 1))), none, none] []) Q) : wp (am_R (d + 3) 27 4 (am_mem L ext tx tt fe I G) [some (Value.ref 48), some (Value.int (nI i)), some (Value.int (nI c)), some (Value.int (nI f)), some (Value.int (nI w)), none, none] []) Q := by
  obtain ⟨t1, t2, t3, t4, t5⟩ := hb
  refine wp_e e_27_4 (wp_b (s_57 (D := nI D) (C := nI C) t2 t3) ?_)
  rintro v M ⟨rfl, I1, rfl, f1, n1'⟩
  have u1 : RB L ext tx tt fe I1 C D cs cd cl := ⟨txo_f (ntx_d (by decide)) f1 t1, n1' 1 (by decide), n1' 2 (by decide), by rw [f1 48 (by decide)]; exact t4, by rw [f1 48 (by decide)]; exact t5⟩
  refine wp_e e_27_5 (wp_b (s_58 (d := d) u1.1) ?_)
  rintro v M ⟨rfl, I2, rfl, f2⟩
  have u2 := RB_f u1 (ntx_d (by decide)) f2 (by decide) (by decide)
  rw [wv_nm n1' cs]
  have es : sS cs (nI D) (nI C) (nI i) (nI c) (nI f) (nI w) = wi 999 (wv (nmf (nI D) (nI C) (nI i) (nI c) (nI f) (nI w)) cs []) := rfl
  have ed : sS cd (nI D) (nI C) (nI i) (nI c) (nI f) (nI w) = wi 999 (wv (nmf (nI D) (nI C) (nI i) (nI c) (nI f) (nI w)) cd []) := rfl
  rw [← es]
  have hlt := gpl_lt h0 hC hD hp hi hc hf hw
  have fin : ∀ (J : Nat → Nat → Int32) (v5 : Int32), fr [43, 44] I J → RB L ext tx tt fe J C D cs cd cl → v5 = gn (sS cs (nI D) (nI C)) (sS cd (nI D) (nI C)) i c f w → wp (am_R (d + 3) 27 9 (am_mem L ext tx tt fe (J) G) [some (Value.ref 48), some (Value.int (nI i)), some (Value.int (nI c)), some (Value.int (nI f)), some (Value.int (nI w)), some (Value.int v5), none] []) Q := by
    intro J v5 fJ uJ hv
    refine wp_e e_27_9 (wp_p (c_28 uJ.2.2.2.1 uJ.2.2.2.2) (wp_e e_27_10 (wp_t (nI_lt (b := 1152) hlt (by decide)) (wp_e e_27_11 (wp_c (by rw [ib hlt (by decide)]; rfl) (wp_e e_27_12 ?_))))))
    rw [nI_clamp (by omega), nI_1]
    have fK : fr [43, 44, 49] I (am_u2 J 49 (gpl C D i c f w) v5) := fr_t (fr_m fJ (by decide)) (fr_2 (by decide))
    refine wp_l (lq_e (lq_e (lq_e (lq_e (lq_e (lq_n (lq_n lq_0))))))) (hQ _ fK (RB_f uJ (S := [49]) (ntx_d (by decide)) (fr_2 (by decide)) (by decide) (by decide)) (fun i' c' f' w' a b e g hx => ?_))
    rw [u2_k]
    by_cases z : gpl C D i' c' f' w' = gpl C D i c f w
    · obtain ⟨z1, z2, z3, z4⟩ := gpl_i b (show f' < D + 1 by omega) g hc (show f < D + 1 by omega) hw z
      rw [if_pos z, z1, z2, z3, z4]
      exact hv
    · rw [if_neg z, fJ 49 (by decide)]
      refine hg i' c' f' w' a b e g ?_
      unfold lxb at hx ⊢
      have : ¬ (i' = i ∧ c' = c ∧ f' = f ∧ w' = w) := fun q => z (by rw [q.1, q.2.1, q.2.2.1, q.2.2.2])
      omega
  have f02 : fr [43, 44] I I2 := fr_t (fr_m f1 (by decide)) (fr_m f2 (by decide))
  refine wp_e e_27_6 (wp_i (fun e => fin I2 _ f02 u2 ?_) (fun e => wp_e e_27_7 (wp_b (s_59 (d := d) u2.1) ?_)))
  · unfold gn
    rw [if_pos ((nI_eq (by omega) (by omega)).mp e)]
  · rintro v M ⟨rfl, I3, rfl, f3⟩
    have u3 := RB_f u2 (ntx_d (by decide)) f3 (by decide) (by decide)
    have n2' : ∀ k, k < 6 → I2 43 k = nmf (nI D) (nI C) (nI i) (nI c) (nI f) (nI w) k := fun k hk => by
      rw [f2 43 (by decide)]
      exact n1' k hk
    rw [wv_nm n2' cd, ← ed]
    refine wp_e e_27_8 (fin I3 _ (fr_t f02 (fr_m f3 (by decide))) u3 ?_)
    unfold gn
    rw [if_neg (c := c = w) (fun z => e (by rw [z]))]
theorem c_27 {C D i c : Nat} {cs cd cl : List Int32} (h0 : 0 < C) (hC : C ≤ 4) (hD : D ≤ 24) (hp : C ^ D ≤ 65536) (hi : i < D) (hc : c < C) (hb : RB L ext tx tt fe I C D cs cd cl) (hg : LG I (sS cs (nI D) (nI C)) (sS cd (nI D) (nI C)) C D i c 0 0) : wp (am_R (d + 3) 27 0 (am_mem L ext tx tt fe I G) [some (Value.ref 48), some (Value.int (nI i)), some (Value.int (nI c)), none, none, none, none] []) (fun v M => v = none ∧ ∃ I', M = (am_mem L ext tx tt fe (I') G) ∧ fr [43, 44, 49] I I' ∧ RB L ext tx tt fe I' C D cs cd cl ∧ LG I' (sS cs (nI D) (nI C)) (sS cd (nI D) (nI C)) C D i (c + 1) 0 0) := by
  refine wp_e e_27_0 ?_
  refine wp_loop (i + 1) (fun k (J : Nat → Nat → Int32) => fr [43, 44, 49] I J ∧ RB L ext tx tt fe J C D cs cd cl ∧ LG J (sS cs (nI D) (nI C)) (sS cd (nI D) (nI C)) C D i c k 0) (fun k J => wp (am_R (d + 3) 27 1 (am_mem L ext tx tt fe J G) [some (Value.ref 48), some (Value.int (nI i)), some (Value.int (nI c)), some (Value.int (nI k)), none, none, none] []) _) ?_ ?_ 0 I (Nat.zero_le _) ⟨fr_r _ _, hb, hg⟩
  · rintro J ⟨f1, u1, g1⟩
    refine wp_e e_27_1 (wp_t (nI_lt (by omega) (by omega)) (wp_e e_27_14 (wp_r ⟨rfl, J, rfl, f1, u1, LG_m g1 (fun i' c' f' w' a b e g hx => ?_)⟩)))
    unfold lxb at hx ⊢
    omega
  · rintro k J hk ⟨f1, u1, g1⟩ hgo
    refine wp_e e_27_1 (wp_f (nI_nlt (by omega) (by omega)) (wp_e e_27_2 ?_))
    refine wp_loop C (fun w (J : Nat → Nat → Int32) => fr [43, 44, 49] I J ∧ RB L ext tx tt fe J C D cs cd cl ∧ LG J (sS cs (nI D) (nI C)) (sS cd (nI D) (nI C)) C D i c k w) (fun w J => wp (am_R (d + 3) 27 3 (am_mem L ext tx tt fe J G) [some (Value.ref 48), some (Value.int (nI i)), some (Value.int (nI c)), some (Value.int (nI k)), some (Value.int (nI w)), none, none] []) _) ?_ ?_ 0 J (Nat.zero_le _) ⟨f1, u1, g1⟩
    · rintro J' ⟨f2, u2, g2⟩
      refine wp_e e_27_3 ?_
      rw [u2.2.2.2.1]
      refine wp_f (nI_nlt (Nat.le_refl _) (by omega)) (wp_e e_27_13 ?_)
      rw [nI_1]
      refine wp_l (lq_e (lq_e (lq_e (lq_e (lq_n (lq_n (lq_n lq_0))))))) (hgo J' ⟨f2, u2, LG_m g2 (fun i' c' f' w' a b e g hx => ?_)⟩)
      unfold lxb at hx ⊢
      omega
    · rintro w J' hw ⟨f2, u2, g2⟩ hgo2
      refine wp_e e_27_3 ?_
      rw [u2.2.2.2.1]
      exact wp_t (nI_lt hw (by omega)) (c_27s (v5 := none) (v6 := none) h0 hC hD hp hi hc (show k ≤ i by omega) hw u2 g2 (fun I' z1 z2 z3 => hgo2 I' ⟨fr_t f2 z1, z2, z3⟩))
end B59
/-- what is ready -/
def RY (s : St) (I : Nat → Nat → Int32) : Prop := I 48 5 = nI (sR s) ∧ SB I (ss1 s) (ss2 s) (sC s) (sD s) ∧ (I 48 10 = 0 ∨ (I 48 10 = 1 ∧ EV I (sD s) (evA (ss1 s) (ss2 s) (sC s) (sD s))))
theorem CA_RY {s : St} {I : Nat → Nat → Int32} (hs : Sok s) (hp : sC s ^ sD s ≤ 65536) (h : RY s I) : CA s I := by
  obtain ⟨h1, ⟨h2, h3, h4, h5, h6⟩, h7⟩ := h
  exact Or.inr ⟨sR s, sC s, sD s, hs.1.2.1, hs.1.1, hp, h1, h2, h3, h4, h5, h6, h7⟩
theorem pk_rem2 {a d : Nat} (ha : a < 2 ^ 31) (h0 : 0 < d) (hd : d < 2 ^ 31) : nI a - nI (a / d) * nI d = nI (a % d) := by
  rw [← pk_div ha h0 hd]
  exact pk_rem ha h0 hd
section B59
variable {d L : Nat} {ext : List (Nat × Nat)} {tx : Nat → Nat} {tt : Nat} {fe : Nat → Nat → Option Nat} {I : Nat → Nat → Int32} {G : Nat → Nat → Int64}
theorem c_26 {s : St} (hs : Sok s) (hp : sC s ^ sD s ≤ 65536) (h : CB s L ext tx tt fe I) (ha : CA s I) : wp (am_R (d + 4) 26 0 (am_mem L ext tx tt fe I G) [some (Value.ref 48), some (Value.int (nI (sR s))), some (Value.ref (tx (sR s))), some (Value.int (nI (sC s))), some (Value.int (nI (sD s))), none, none] []) (fun v M => v = none ∧ ∃ tt' I', M = am_mem L ext tx tt' fe I' G ∧ fr [43, 44, 48, 49] I I' ∧ RY s I') := by
  have hs0 := hs.1
  obtain ⟨⟨h0, hC, hD⟩, hR, hT6, -⟩ := hs0
  have ht := h.2.2.2.1 _ hR
  have new : wp (am_R (d + 4) 26 5 (am_mem L ext tx tt fe I G) [some (Value.ref 48), some (Value.int (nI (sR s))), some (Value.ref (tx (sR s))), some (Value.int (nI (sC s))), some (Value.int (nI (sD s))), none, none] []) (fun v M => v = none ∧ ∃ tt' I', M = am_mem L ext tx tt' fe I' G ∧ fr [43, 44, 48, 49] I I' ∧ RY s I') := by
    refine wp_e e_26_5 ?_
    rw [nz h0 (by omega), pk_div (by omega) h0 (by omega), pk_rem2 (by omega) h0 (by omega)]
    refine wp_c rfl ?_
    have k5 : am_u2 (am_u2 (am_u2 (am_u2 (am_u2 (am_u2 I 48 5 (nI (sR s))) 48 6 (nI (sC s))) 48 7 (nI (sD s))) 48 8 (nI (sD s / sC s))) 48 9 (nI (sD s % sC s))) 48 10 0 48 5 = nI (sR s) := by
      simp [am_u2]
    have k6 : am_u2 (am_u2 (am_u2 (am_u2 (am_u2 (am_u2 I 48 5 (nI (sR s))) 48 6 (nI (sC s))) 48 7 (nI (sD s))) 48 8 (nI (sD s / sC s))) 48 9 (nI (sD s % sC s))) 48 10 0 48 6 = nI (sC s) := by
      simp [am_u2]
    have k7 : am_u2 (am_u2 (am_u2 (am_u2 (am_u2 (am_u2 I 48 5 (nI (sR s))) 48 6 (nI (sC s))) 48 7 (nI (sD s))) 48 8 (nI (sD s / sC s))) 48 9 (nI (sD s % sC s))) 48 10 0 48 7 = nI (sD s) := by
      simp [am_u2]
    have k8 : am_u2 (am_u2 (am_u2 (am_u2 (am_u2 (am_u2 I 48 5 (nI (sR s))) 48 6 (nI (sC s))) 48 7 (nI (sD s))) 48 8 (nI (sD s / sC s))) 48 9 (nI (sD s % sC s))) 48 10 0 48 8 = nI (sD s / sC s) := by
      simp [am_u2]
    have k9 : am_u2 (am_u2 (am_u2 (am_u2 (am_u2 (am_u2 I 48 5 (nI (sR s))) 48 6 (nI (sC s))) 48 7 (nI (sD s))) 48 8 (nI (sD s / sC s))) 48 9 (nI (sD s % sC s))) 48 10 0 48 9 = nI (sD s % sC s) := by
      simp [am_u2]
    have k10 : am_u2 (am_u2 (am_u2 (am_u2 (am_u2 (am_u2 I 48 5 (nI (sR s))) 48 6 (nI (sC s))) 48 7 (nI (sD s))) 48 8 (nI (sD s / sC s))) 48 9 (nI (sD s % sC s))) 48 10 0 48 10 = 0 := u2_s _ _ _ _
    have fK : fr [43, 44, 48, 49] I (am_u2 (am_u2 (am_u2 (am_u2 (am_u2 (am_u2 I 48 5 (nI (sR s))) 48 6 (nI (sC s))) 48 7 (nI (sD s))) 48 8 (nI (sD s / sC s))) 48 9 (nI (sD s % sC s))) 48 10 0) := fr_t (fr_t (fr_t (fr_t (fr_t (fr_2 (by decide)) (fr_2 (by decide))) (fr_2 (by decide))) (fr_2 (by decide))) (fr_2 (by decide))) (fr_2 (by decide))
    rw [k6, k7]
    generalize am_u2 (am_u2 (am_u2 (am_u2 (am_u2 (am_u2 I 48 5 (nI (sR s))) 48 6 (nI (sC s))) 48 7 (nI (sD s))) 48 8 (nI (sD s / sC s))) 48 9 (nI (sD s % sC s))) 48 10 0 = K at k5 k6 k7 k8 k9 k10 fK ⊢
    have h5x : 5 ≤ tx (sR s) := by have := ht.1; omega
    refine wp_b (s_56 (C := nI (sC s)) (D := nI (sD s)) h5x) ?_
    rintro v M ⟨rfl, I1, rfl, f1, t1, t2⟩
    have tb : RB L ext tx (tx (sR s)) fe I1 (sC s) (sD s) (stw s (sR s)).1 (stw s (sR s)).2.1 (stw s (sR s)).2.2 := ⟨txo_tt (txo_f (ntx_d (by decide)) f1 (txo_f (ntx_d (by decide)) fK ht)), t1, t2, by rw [f1 48 (by decide)]; exact k6, by rw [f1 48 (by decide)]; exact k7⟩
    have fI1 : fr [43, 44, 48, 49] I I1 := fr_t fK (fr_m f1 (by decide))
    have k48 : I1 48 = K 48 := f1 48 (by decide)
    refine wp_e e_26_6 ?_
    refine wp_loop (sD s) (fun i (J : Nat → Nat → Int32) => fr [43, 44, 49] I1 J ∧ RB L ext tx (tx (sR s)) fe J (sC s) (sD s) (stw s (sR s)).1 (stw s (sR s)).2.1 (stw s (sR s)).2.2 ∧ LG J (ss1 s) (ss2 s) (sC s) (sD s) i 0 0 0) (fun i J => wp (am_R (d + 4) 26 7 (am_mem L ext tx (tx (sR s)) fe J G) [some (Value.ref 48), some (Value.int (nI (sR s))), some (Value.ref (tx (sR s))), some (Value.int (nI (sC s))), some (Value.int (nI (sD s))), some (Value.int (nI i)), none] []) _) ?_ ?_ 0 I1 (Nat.zero_le _) ⟨fr_r _ _, tb, fun i' c' f' w' a b e g hx => ?_⟩
    · rintro J ⟨f2, u2, g2⟩
      refine wp_e e_26_7 ?_
      rw [u2.2.2.2.2]
      refine wp_f (nI_nlt (Nat.le_refl _) (by omega)) (wp_e e_26_13 (wp_r ⟨rfl, tx (sR s), J, rfl, fr_t fI1 (fr_m f2 (by decide)), ?_⟩))
      have j48 : J 48 = K 48 := (f2 48 (by decide)).trans k48
      refine ⟨by rw [j48]; exact k5, ⟨by rw [j48]; exact k6, by rw [j48]; exact k7, by rw [j48]; exact k8, by rw [j48]; exact k9, fun i c f w a b e g => g2 i c f w a b e g (Or.inl a)⟩, Or.inl (by rw [j48]; exact k10)⟩
    · rintro i J hi ⟨f2, u2, g2⟩ hgo
      refine wp_e e_26_7 ?_
      rw [u2.2.2.2.2]
      refine wp_t (nI_lt hi (by omega)) (wp_e e_26_8 ?_)
      refine wp_loop (sC s) (fun c (J' : Nat → Nat → Int32) => fr [43, 44, 49] I1 J' ∧ RB L ext tx (tx (sR s)) fe J' (sC s) (sD s) (stw s (sR s)).1 (stw s (sR s)).2.1 (stw s (sR s)).2.2 ∧ LG J' (ss1 s) (ss2 s) (sC s) (sD s) i c 0 0) (fun c J' => wp (am_R (d + 4) 26 9 (am_mem L ext tx (tx (sR s)) fe J' G) [some (Value.ref 48), some (Value.int (nI (sR s))), some (Value.ref (tx (sR s))), some (Value.int (nI (sC s))), some (Value.int (nI (sD s))), some (Value.int (nI i)), some (Value.int (nI c))] []) _) ?_ ?_ 0 J (Nat.zero_le _) ⟨f2, u2, g2⟩
      · rintro J' ⟨f3, u3, g3⟩
        refine wp_e e_26_9 ?_
        rw [u3.2.2.2.1]
        refine wp_f (nI_nlt (Nat.le_refl _) (by omega)) (wp_e e_26_12 ?_)
        rw [nI_1]
        refine wp_l (lq_e (lq_e (lq_e (lq_e (lq_e (lq_e (lq_n lq_0))))))) (hgo J' ⟨f3, u3, LG_m g3 (fun i' c' f' w' a b e g hx => ?_)⟩)
        unfold lxb at hx ⊢
        omega
      · rintro c J' hc ⟨f3, u3, g3⟩ hgo2
        refine wp_e e_26_9 ?_
        rw [u3.2.2.2.1]
        refine wp_t (nI_lt hc (by omega)) (wp_e e_26_10 (wp_b (c_27 (d := d) h0 hC hD hp hi hc u3 g3) ?_))
        rintro v M ⟨rfl, I', rfl, f4, u4, g4⟩
        refine wp_e e_26_11 ?_
        rw [nI_1]
        exact hgo2 I' ⟨fr_t f3 f4, u4, g4⟩
    · unfold lxb at hx
      omega
  refine wp_e e_26_0 (wp_f (nI_nlt (b := 1) (by omega) (by omega)) (wp_e e_26_1 (wp_i (fun e1 => wp_e e_26_2 (wp_i (fun e2 => wp_e e_26_3 (wp_i (fun e3 => wp_e e_26_4 (wp_r ⟨rfl, tt, I, rfl, fr_r _ _, ?_⟩)) (fun _ => new))) (fun _ => new))) (fun _ => new))))
  rcases ha with a0 | ⟨R, C, D, a1, a2, a3, a4, a5, a6, a7, a8, a9, a10⟩
  · rw [a0] at e1
    exact absurd e1.symm (nIm4 (by omega))
  · have eR : R = sR s := (nI_eq (by omega) (by omega)).mp (by rw [← a4]; exact e1)
    have eC : C = sC s := (nI_eq (by omega) (by omega)).mp (by rw [← a5]; exact e2)
    have eD : D = sD s := (nI_eq (by omega) (by omega)).mp (by rw [← a6]; exact e3)
    subst eR eC eD
    exact ⟨a4, ⟨a5, a6, a7, a8, a9⟩, a10⟩
theorem c_30 {s : St} (hs : Sok s) (hp : sC s ^ sD s ≤ 65536) (h : RY s I) : wp (am_R (2045) 30 0 (am_mem L ext tx tt fe I G) [some (Value.ref 48)] []) (fun v M => v = none ∧ ∃ I', M = (am_mem L ext tx tt fe (I') G) ∧ fr [48, 50, 51, 52, 53, 54] I I' ∧ RY s I' ∧ EV I' (sD s) (evA (ss1 s) (ss2 s) (sC s) (sD s))) := by
  have hs0 := hs.1
  obtain ⟨⟨h0, hC, hD⟩, -⟩ := hs0
  obtain ⟨h5, hb, hk⟩ := h
  refine wp_e e_30_0 ?_
  rcases hk with hk | ⟨hk, he⟩
  · rw [hk]
    refine wp_t rfl (wp_e e_30_2 (wp_p (s_214 (r := 54) (n := 25) rfl (by decide) (by decide)) (wp_e e_30_3 ?_)))
    have X : ∀ k, k < 25 → am_u1 (am_u2 (am_u2 (am_u2 I 48 10 1) 48 12 2147483647) 48 13 2147483647) 54 (fun y => if y < 25 then 2147483647 else (am_u2 (am_u2 (am_u2 I 48 10 1) 48 12 2147483647) 48 13 2147483647) 54 y) 54 k = 2147483647 := fun k hk => by
      rw [u1_s, if_pos hk]
    have Y : ∀ k, k ≠ 10 → k ≠ 12 → k ≠ 13 → am_u1 (am_u2 (am_u2 (am_u2 I 48 10 1) 48 12 2147483647) 48 13 2147483647) 54 (fun y => if y < 25 then 2147483647 else (am_u2 (am_u2 (am_u2 I 48 10 1) 48 12 2147483647) 48 13 2147483647) 54 y) 48 k = I 48 k := fun k a b c => by
      rw [u1_a (by decide), u2_k, if_neg c, u2_k, if_neg b, u2_k, if_neg a]
    have Z : am_u1 (am_u2 (am_u2 (am_u2 I 48 10 1) 48 12 2147483647) 48 13 2147483647) 54 (fun y => if y < 25 then 2147483647 else (am_u2 (am_u2 (am_u2 I 48 10 1) 48 12 2147483647) 48 13 2147483647) 54 y) 48 10 = 1 ∧ am_u1 (am_u2 (am_u2 (am_u2 I 48 10 1) 48 12 2147483647) 48 13 2147483647) 54 (fun y => if y < 25 then 2147483647 else (am_u2 (am_u2 (am_u2 I 48 10 1) 48 12 2147483647) 48 13 2147483647) 54 y) 48 12 = 2147483647 ∧ am_u1 (am_u2 (am_u2 (am_u2 I 48 10 1) 48 12 2147483647) 48 13 2147483647) 54 (fun y => if y < 25 then 2147483647 else (am_u2 (am_u2 (am_u2 I 48 10 1) 48 12 2147483647) 48 13 2147483647) 54 y) 48 13 = 2147483647 := by
      rw [u1_a (by decide)]
      refine ⟨?_, ?_, u2_s _ _ _ _⟩
      · rw [u2_k, if_neg (by decide), u2_k, if_neg (by decide), u2_s]
      · rw [u2_k, if_neg (by decide), u2_s]
    have fX : cf [54] [10, 12, 13] I (am_u1 (am_u2 (am_u2 (am_u2 I 48 10 1) 48 12 2147483647) 48 13 2147483647) 54 (fun y => if y < 25 then 2147483647 else (am_u2 (am_u2 (am_u2 I 48 10 1) 48 12 2147483647) 48 13 2147483647) 54 y)) := cf_t (cf_t (cf_t (cf_4 (by decide)) (cf_4 (by decide))) (cf_4 (by decide))) (cf_1 (by decide) (by decide))
    generalize am_u1 (am_u2 (am_u2 (am_u2 I 48 10 1) 48 12 2147483647) 48 13 2147483647) 54 (fun y => if y < 25 then 2147483647 else (am_u2 (am_u2 (am_u2 I 48 10 1) 48 12 2147483647) 48 13 2147483647) 54 y) = K at X Y Z fX ⊢
    have r32 : (am_R (2044) 32 0 (am_mem L ext tx tt fe (K) G) [some (Value.ref 48)] []) = some (none, (am_mem L ext tx tt fe (am_u1 (am_u1 K 50 (fun y => if y < 4 then 0 else K 50 y)) 51 (fun y => if y < 4 then 0 else (am_u1 K 50 (fun y => if y < 4 then 0 else K 50 y)) 51 y)) G)) := wp_eq (wp_e e_32_0 (wp_p (s_214 (r := 50) (n := 4) rfl (by decide) (by decide)) (wp_e e_32_1 (wp_p (s_214 (r := 51) (n := 4) rfl (by decide) (by decide)) (wp_e e_32_2 (wp_r ⟨rfl, rfl⟩))))))
    refine wp_p r32 (wp_e e_30_4 ?_)
    have z50 : ∀ c, c < 4 → am_u1 (am_u1 K 50 (fun y => if y < 4 then 0 else K 50 y)) 51 (fun y => if y < 4 then 0 else (am_u1 K 50 (fun y => if y < 4 then 0 else K 50 y)) 51 y) 50 c = 0 := fun c hc => by
      rw [u1_a (by decide), u1_s, if_pos hc]
    have z51 : ∀ c, c < 4 → am_u1 (am_u1 K 50 (fun y => if y < 4 then 0 else K 50 y)) 51 (fun y => if y < 4 then 0 else (am_u1 K 50 (fun y => if y < 4 then 0 else K 50 y)) 51 y) 51 c = 0 := fun c hc => by
      rw [u1_s, if_pos hc]
    have fK : cf [50, 51, 54] [10, 12, 13] I (am_u1 (am_u1 K 50 (fun y => if y < 4 then 0 else K 50 y)) 51 (fun y => if y < 4 then 0 else (am_u1 K 50 (fun y => if y < 4 then 0 else K 50 y)) 51 y)) := cf_t (cf_m fX (by decide) (by decide)) (cf_t (cf_1 (by decide) (by decide)) (cf_1 (by decide) (by decide)))
    have k48 : am_u1 (am_u1 K 50 (fun y => if y < 4 then 0 else K 50 y)) 51 (fun y => if y < 4 then 0 else (am_u1 K 50 (fun y => if y < 4 then 0 else K 50 y)) 51 y) 48 = K 48 := by
      rw [u1_a (by decide), u1_a (by decide)]
    have k54 : am_u1 (am_u1 K 50 (fun y => if y < 4 then 0 else K 50 y)) 51 (fun y => if y < 4 then 0 else (am_u1 K 50 (fun y => if y < 4 then 0 else K 50 y)) 51 y) 54 = K 54 := by
      rw [u1_a (by decide), u1_a (by decide)]
    generalize am_u1 (am_u1 K 50 (fun y => if y < 4 then 0 else K 50 y)) 51 (fun y => if y < 4 then 0 else (am_u1 K 50 (fun y => if y < 4 then 0 else K 50 y)) 51 y) = K2 at z50 z51 fK k48 k54 ⊢
    have b2 := SB_f hb fK (by decide) (by decide)
    have r := c_33 (L := L) (ext := ext) (tx := tx) (tt := tt) (fe := fe) (G := G) (d := 2034 - sD s) rg_s rg_s h0 hC hD hp (sD s) 0 ps0 (fun _ => 0) ea0 K2 0 (Nat.zero_add _) kQ_0 (Or.inl ⟨rfl, rfl⟩) b2 ⟨z50, z51⟩ ⟨by rw [k48]; exact Z.2.1, by rw [k48]; exact Z.2.2, Or.inl rfl, fun k hk => by rw [k54]; exact X k hk⟩ (fun j hj => absurd hj (Nat.not_lt_zero j)) (fun v M => v = none ∧ ∃ I', M = (am_mem L ext tx tt fe (I') G) ∧ cf [50, 51, 52, 53, 54] [12, 13] K2 I' ∧ EV0 I' (sD s) (evA (ss1 s) (ss2 s) (sC s) (sD s))) (fun I' z1 _ z3 _ => ⟨rfl, I', rfl, z1, z3⟩)
    rw [show sD s + (2034 - sD s) + 10 = 2044 by omega] at r
    refine wp_b r ?_
    rintro v M ⟨rfl, I', rfl, f3, e1, e2, e3, e4⟩
    have ev : EV I' (sD s) (evA (ss1 s) (ss2 s) (sC s) (sD s)) := ⟨e1, e2, e3.resolve_left (ev_found rg_s rg_s h0 hC hD), e4⟩
    have fI : cf [50, 51, 52, 53, 54] [10, 12, 13] I I' := cf_t (cf_m fK (by decide) (by decide)) (cf_m f3 (by decide) (by decide))
    refine wp_e e_30_5 (wp_r ⟨rfl, I', rfl, fun a ha => fI.1 a (fun e => ha (by rw [e]; decide)) (fun e => ha ((by decide : ∀ x, x ∈ [50, 51, 52, 53, 54] → x ∈ [48, 50, 51, 52, 53, 54]) a e)), ⟨?_, SB_f hb fI (by decide) (by decide), Or.inr ⟨?_, ev⟩⟩, ev⟩)
    · rw [fI.2 5 (by decide)]
      exact h5
    · rw [f3.2 10 (by decide), k48]
      exact Z.1
  · rw [hk]
    exact wp_f (by decide) (wp_e e_30_1 (wp_r ⟨rfl, I, rfl, fr_r _ _, ⟨h5, hb, Or.inr ⟨hk, he⟩⟩, he⟩))
/-- ways are few -/
theorem c_97l {C D : Nat} (h0 : 0 < C) (hC : C ≤ 4) (hD : D ≤ 24) (h5 : I 5 0 = nI C) (h51 : I 5 1 = nI D) : ∀ f k, k + f = D → C ^ k ≤ 65536 → wp (am_R (d) 97 1 (am_mem L ext tx tt fe I G) [some (Value.ref 5), some (Value.int (nI (C ^ k))), some (Value.int (nI k))] []) (fun v M => v = some (.int (bI (C ^ D ≤ 65536))) ∧ M = (am_mem L ext tx tt fe I G)) := by
  intro f
  induction f with
  | zero =>
    intro k hk hb
    refine wp_e e_97_1 ?_
    rw [h51]
    refine wp_f (nI_nlt (by omega) (by omega)) (wp_e e_97_5 (wp_r ⟨?_, rfl⟩))
    rw [bI_t]
    rw [← hk]
    exact hb
  | succ f ih =>
    intro k hk hb
    have h4 : C ^ (k + 1) ≤ 262144 := by
      rw [Nat.pow_succ]
      exact Nat.le_trans (Nat.mul_le_mul hb hC) (by decide)
    refine wp_e e_97_1 ?_
    rw [h51]
    refine wp_t (nI_lt (by omega) (by omega)) (wp_e e_97_2 ?_)
    rw [h5, pk_mul, ← Nat.pow_succ]
    refine wp_i (fun e => wp_e e_97_3 (wp_r ⟨?_, rfl⟩)) (fun e => wp_e e_97_4 ?_)
    · have e : nI 65536 < nI (C ^ (k + 1)) := e
      rw [nI_ltI (by decide) (by omega)] at e
      rw [bI_f]
      have := Nat.pow_le_pow_right h0 (show k + 1 ≤ D by omega)
      omega
    · have e : ¬ nI 65536 < nI (C ^ (k + 1)) := e
      rw [nI_ltI (by decide) (by omega)] at e
      rw [nI_1]
      exact ih (k + 1) (by omega) (by omega)
theorem c_97 {s : St} (hs : Sok s) (h : CB s L ext tx tt fe I) : (am_R (d) 97 0 (am_mem L ext tx tt fe I G) [some (Value.ref 5), none, none] []) = some (some (.int (bI (sC s ^ sD s ≤ 65536))), (am_mem L ext tx tt fe I G)) := wp_eq (wp_e e_97_0 (c_97l hs.1.1.1 hs.1.1.2.1 hs.1.1.2.2 h.2.1.1 h.2.1.2.1 (sD s) 0 (Nat.zero_add _) (by rw [Nat.pow_zero]; decide)))
theorem c_98 {s : St} (hs : Sok s) (hp : sC s ^ sD s ≤ 65536) (h : CB s L ext tx tt fe I) (ha : CA s I) : wp (am_R (2046) 98 0 (am_mem L ext tx tt fe I G) [some (Value.ref 5)] []) (fun v M => v = none ∧ ∃ tt' I', M = am_mem L ext tx tt' fe I' G ∧ fr FCS I I' ∧ RY s I' ∧ EV I' (sD s) (evA (ss1 s) (ss2 s) (sC s) (sD s))) := by
  have hR := hs.1.2.1
  have hT6 := hs.1.2.2.1
  refine wp_e e_98_0 ?_
  rw [h.2.1.2.2.2.2.1, ib (n := sR s) (N := 6) (by omega) (by decide), nI_clamp (n := sR s) (by omega), Fx9 (by omega)]
  refine wp_c rfl (wp_e e_98_1 ?_)
  rw [h.2.1.1, h.2.1.2.1]
  refine wp_b (c_26 (d := 2041) hs hp h ha) ?_
  rintro v M ⟨rfl, tt', I1, rfl, f1, r1⟩
  refine wp_e e_98_2 (wp_b (c_30 (tt := tt') hs hp r1) ?_)
  rintro v M ⟨rfl, I2, rfl, f2, r2, e2⟩
  exact wp_e e_98_3 (wp_r ⟨rfl, tt', I2, rfl, fr_t (fr_m f1 (by decide)) (fr_m f2 (by decide)), r2, e2⟩)
end B59
