/-! PURE, 58: the class's search -/
def cf (S T : List Nat) (I I' : Nat → Nat → Int32) : Prop := (∀ a, a ≠ 48 → a ∉ S → I' a = I a) ∧ ∀ k, k ∉ T → I' 48 k = I 48 k
theorem cf_r (S T : List Nat) (I : Nat → Nat → Int32) : cf S T I I := ⟨fun _ _ _ => rfl, fun _ _ => rfl⟩
theorem cf_t {S T : List Nat} {I I' I'' : Nat → Nat → Int32} (h : cf S T I I') (h2 : cf S T I' I'') : cf S T I I'' := ⟨fun a ha hs => (h2.1 a ha hs).trans (h.1 a ha hs), fun k hk => (h2.2 k hk).trans (h.2 k hk)⟩
theorem cf_m {S T S' T' : List Nat} {I I' : Nat → Nat → Int32} (h : cf S T I I') (hs : ∀ a, a ∈ S → a ∈ S') (ht : ∀ a, a ∈ T → a ∈ T') : cf S' T' I I' := ⟨fun a ha hq => h.1 a ha (fun e => hq (hs a e)), fun k hk => h.2 k (fun e => hk (ht k e))⟩
theorem cf_4 {S T : List Nat} {I : Nat → Nat → Int32} {k : Nat} {v : Int32} (h : k ∈ T) : cf S T I (am_u2 I 48 k v) := ⟨fun a ha _ => u2_a ha, fun x hx => by rw [u2_k, if_neg (show ¬ x = k from fun e => hx (by rw [e]; exact h))]⟩
theorem cf_2 {S T : List Nat} {I : Nat → Nat → Int32} {a k : Nat} {v : Int32} (h : a ∈ S) (h4 : a ≠ 48) : cf S T I (am_u2 I a k v) := ⟨fun x _ hs => u2_a (fun e => hs (e ▸ h)), fun x _ => by rw [u2_a (Ne.symm h4)]⟩
theorem cf_1 {S T : List Nat} {I : Nat → Nat → Int32} {a : Nat} {g : Nat → Int32} (h : a ∈ S) (h4 : a ≠ 48) : cf S T I (am_u1 I a g) := ⟨fun x _ hs => u1_a (fun e => hs (e ▸ h)), fun x _ => by rw [u1_a (Ne.symm h4)]⟩
theorem mal {a b n m : Nat} (ha : a < n) (hb : b < m) : a * m + b < n * m := by
  have h : a * m + b < (a + 1) * m := by
    rw [Nat.succ_mul]
    omega
  exact Nat.lt_of_lt_of_le h (Nat.mul_le_mul_right m ha)
theorem mai {a b a' b' m : Nat} (hb : b < m) (hb' : b' < m) (h : a * m + b = a' * m + b') : a = a' ∧ b = b' := by
  have e : a = a' := by
    by_cases z : a < a'
    · have := mal z hb
      omega
    · by_cases z2 : a' < a
      · have := mal z2 hb'
        omega
      · omega
  subst e
  exact ⟨rfl, by omega⟩
def gpl (C D i c f w : Nat) : Nat := ((i * C + c) * (D + 1) + f) * C + w
theorem gpl_all : ∀ C, C < 5 → ∀ D, D < 25 → C ^ D ≤ 65536 → 0 < C → D * C * (D + 1) * C ≤ 1152 := by decide +kernel
theorem gpl_lt {C D i c f w : Nat} (h0 : 0 < C) (hC : C ≤ 4) (hD : D ≤ 24) (hp : C ^ D ≤ 65536) (hi : i < D) (hc : c < C) (hf : f ≤ i) (hw : w < C) : gpl C D i c f w < 1152 := Nat.lt_of_lt_of_le (mal (mal (mal hi hc) (show f < D + 1 by omega)) hw) (gpl_all C (by omega) D (by omega) hp h0)
theorem gpl_i {C D i c f w i' c' f' w' : Nat} (hc : c < C) (hf : f < D + 1) (hw : w < C) (hc' : c' < C) (hf' : f' < D + 1) (hw' : w' < C) (h : gpl C D i c f w = gpl C D i' c' f' w') : i = i' ∧ c = c' ∧ f = f' ∧ w = w' := by
  obtain ⟨h1, h2⟩ := mai hw hw' h
  obtain ⟨h3, h4⟩ := mai hf hf' h1
  obtain ⟨h5, h6⟩ := mai hc hc' h3
  exact ⟨h5, h6, h4, h2⟩
def EV0 (I : Nat → Nat → Int32) (D : Nat) (a : EA) : Prop := I 48 12 = a.1 ∧ I 48 13 = a.2.1 ∧ (a.1 = 2147483647 ∨ ∀ k, k < D → I 53 k = nI (a.2.2.1 k)) ∧ ∀ k, k < 25 → I 54 k = a.2.2.2 k
theorem EV0_f {I I' : Nat → Nat → Int32} {D : Nat} {a : EA} (h : EV0 I D a) (h1 : I' 48 12 = I 48 12) (h2 : I' 48 13 = I 48 13) (h3 : I' 53 = I 53) (h4 : I' 54 = I 54) : EV0 I' D a := by
  unfold EV0 at h ⊢
  rw [h1, h2, h3, h4]
  exact h
def CS0 (I : Nat → Nat → Int32) (t : PS) : Prop := (∀ c, c < 4 → I 50 c = t.1 c) ∧ ∀ c, c < 4 → I 51 c = t.2.1 c
/-- what the search stands on -/
def SB (I : Nat → Nat → Int32) (s d : SF) (C D : Nat) : Prop := I 48 6 = nI C ∧ I 48 7 = nI D ∧ I 48 8 = nI (D / C) ∧ I 48 9 = nI (D % C) ∧ GT I s d C D
theorem SB_f {I I' : Nat → Nat → Int32} {s d : SF} {C D : Nat} {S T : List Nat} (h : SB I s d C D) (hf : cf S T I I') (hT : ∀ k, k ∈ T → 10 ≤ k) (hS : 49 ∉ S) : SB I' s d C D := by
  obtain ⟨h1, h2, h3, h4, h5⟩ := h
  have n : ∀ k, k < 10 → I' 48 k = I 48 k := fun k hk => hf.2 k (fun e => by have := hT k e; omega)
  refine ⟨by rw [n 6 (by decide)]; exact h1, by rw [n 7 (by decide)]; exact h2, by rw [n 8 (by decide)]; exact h3, by rw [n 9 (by decide)]; exact h4, ?_⟩
  unfold GT
  rw [hf.1 49 (by decide) hS]
  exact h5
section B58
variable {d L : Nat} {ext : List (Nat × Nat)} {tx : Nat → Nat} {tt : Nat} {fe : Nat → Nat → Option Nat} {I : Nat → Nat → Int32} {G : Nat → Nat → Int64}
theorem c_28 {C D i c f w : Nat} (h6 : I 48 6 = nI C) (h7 : I 48 7 = nI D) : (am_R (d) 28 0 (am_mem L ext tx tt fe I G) [some (Value.ref 48), some (Value.int (nI i)), some (Value.int (nI c)), some (Value.int (nI f)), some (Value.int (nI w))] []) = some (some (.int (nI (gpl C D i c f w))), (am_mem L ext tx tt fe I G)) := by
  rw [e_28_0, h6, h7, nI_1, pk_mul, nI_add, pk_mul, nI_add, pk_mul, nI_add]
  rfl
theorem c_29 {s dd : SF} {C D i c f w : Nat} {v3 : Int32} (hb : SB I s dd C D) (h0 : 0 < C) (hC : C ≤ 4) (hD : D ≤ 24) (hp : C ^ D ≤ 65536) (hi : i < D) (hc : c < C) (hf : f ≤ i) (hw : w < C) (h50 : I 50 c = nI f) (hv : (i = 0 ∧ w = c) ∨ (0 < i ∧ v3 = nI w)) : (am_R (d + 1) 29 0 (am_mem L ext tx tt fe I G) [some (Value.ref 48), some (Value.int (nI i)), some (Value.int (nI c)), some (Value.int v3), none] []) = some (some (.int (gn s dd i c f w)), (am_mem L ext tx tt fe I G)) := by
  obtain ⟨h6, h7, -, -, hg⟩ := hb
  have hlt := gpl_lt h0 hC hD hp hi hc hf hw
  have r : wp (am_R (d + 1) 29 3 (am_mem L ext tx tt fe I G) [some (Value.ref 48), some (Value.int (nI i)), some (Value.int (nI c)), some (Value.int v3), none] [Value.int (nI w), Value.int (nI f), Value.int (nI c), Value.int (nI i), Value.ref 48]) (fun v M => v = some (.int (gn s dd i c f w)) ∧ M = (am_mem L ext tx tt fe I G)) := by
    refine wp_e e_29_3 (wp_p (c_28 h6 h7) (wp_e e_29_4 (wp_t (nI_lt (b := 1152) hlt (by decide)) (wp_e e_29_5 (wp_c (by rw [ib hlt (by decide)]; rfl) (wp_e e_29_7 (wp_r ⟨?_, rfl⟩)))))))
    rw [nI_clamp (by omega)]
    exact congrArg (fun x => some (Value.int x)) (hg i c f w hi hc hf hw)
  refine wp_eq (wp_e e_29_0 (wp_c (by rw [ib (n := c) (N := 4) (by omega) (by decide)]; rfl) ?_))
  rw [nI_clamp (n := c) (by omega), h50]
  rcases hv with ⟨rfl, rfl⟩ | ⟨h1, rfl⟩
  · exact wp_t rfl (wp_e e_29_1 r)
  · exact wp_f (nI_ne0 h1 (by omega)) (wp_e e_29_2 r)
theorem c_34 {C e r c : Nat} {t : PS} (hC : C ≤ 4) (hc : c < C) (hr : r < 1000) (h6 : I 48 6 = nI C) (h8 : I 48 8 = nI e) (h9 : I 48 9 = nI r) (h50 : ∀ o, o < 4 → I 50 o = t.1 o) : (am_R (d) 34 0 (am_mem L ext tx tt fe I G) [some (Value.ref 48), some (Value.int (nI c)), none, none] []) = some (some (.int (if hrm C e r c t = true then 1 else 0)), (am_mem L ext tx tt fe I G)) := by
  have hcb := ib (n := c) (N := 4) (by omega) (by decide)
  have hcc := nI_clamp (n := c) (by omega)
  refine wp_eq (wp_e e_34_0 (wp_c (by rw [hcb]; rfl) ?_))
  rw [hcc, h50 c (by omega), h8]
  unfold hrm
  by_cases e1 : t.1 c = nI e
  · rw [if_pos (c := t.1 c = nI e) (t := decide (fb_ct (fun o => decide (nI e < t.1 o)) C + 1 ≤ r)) e1]
    refine wp_t e1 (wp_e e_34_5 ?_)
    refine wp_loop C (fun k (_ : Unit) => True) (fun k _ => wp (am_R d 34 6 (am_mem L ext tx tt fe I G) [some (Value.ref 48), some (Value.int (nI c)), some (Value.int (nI (fb_ct (fun o => decide (nI e < t.1 o)) k + 1))), some (Value.int (nI k))] []) _) ?_ ?_ 0 () (Nat.zero_le _) trivial
    · rintro _ -
      have hle := fb_ct_le (fun o => decide (nI e < t.1 o)) C
      refine wp_e e_34_6 ?_
      rw [h6]
      refine wp_f (nI_nlt (Nat.le_refl _) (by omega)) (wp_e e_34_10 ?_)
      rw [h9]
      refine wp_i (fun z => wp_e e_34_12 (wp_e e_34_13 (wp_r ⟨?_, rfl⟩))) (fun z => wp_e e_34_11 (wp_e e_34_13 (wp_r ⟨?_, rfl⟩)))
      · rw [nI_ltI (by omega) (by omega)] at z
        rw [if_neg (by rw [decide_eq_true_eq]; omega)]
        rfl
      · rw [nI_ltI (by omega) (by omega)] at z
        rw [if_pos (by rw [decide_eq_true_eq]; omega)]
        rfl
    · rintro k _ hk - hgo
      have go := hgo () trivial
      refine wp_e e_34_6 ?_
      rw [h6]
      refine wp_t (nI_lt hk (by omega)) (wp_e e_34_7 ?_)
      rw [ib (n := k) (N := 4) (by omega) (by decide), nI_clamp (n := k) (by omega), h8, h50 k (by omega)]
      refine wp_c rfl (wp_i (fun z => wp_e e_34_8 (wp_e e_34_9 ?_)) (fun z => wp_e e_34_9 ?_))
      · rw [fb_ct_succ, if_pos (decide_eq_true z)] at go
        rw [nI_1, nI_1]
        exact go
      · rw [fb_ct_succ, if_neg (by rw [decide_eq_true_eq]; exact z)] at go
        rw [nI_1]
        exact go
  · rw [if_neg (c := t.1 c = nI e) (t := decide (fb_ct (fun o => decide (nI e < t.1 o)) C + 1 ≤ r)) e1]
    refine wp_f e1 (wp_e e_34_1 (wp_c (by rw [hcb]; rfl) ?_))
    rw [hcc, h50 c (by omega), h8]
    refine wp_i (fun z => wp_e e_34_2 (wp_e e_34_4 (wp_r ⟨?_, rfl⟩))) (fun z => wp_e e_34_3 (wp_e e_34_4 (wp_r ⟨?_, rfl⟩)))
    · rw [if_pos (decide_eq_true z)]
      rfl
    · rw [if_neg (by rw [decide_eq_true_eq]; exact z)]
      rfl
theorem c_35 {C D x : Nat} {t : PS} {w : Nat → Nat} {a : EA} (h0 : 0 < C) (hC : C ≤ 4) (hD : D ≤ 24) (hx : x ≤ 24) (hch : t.2.2.2.1 = nI x) (h6 : I 48 6 = nI C) (h7 : I 48 7 = nI D) (h51 : ∀ c, c < 4 → I 51 c = t.2.1 c) (h52 : ∀ j, j < D → I 52 j = nI (w j)) (he : EV0 I D a) {Q : Option Value → am_M → Prop} (hQ : ∀ I', cf [53, 54] [12, 13] I I' → EV0 I' D (jdg C t w a) → Q none (am_mem L ext tx tt fe (I') G)) : wp (am_R (d + 2) 35 0 (am_mem L ext tx tt fe I G) [some (Value.ref 48), some (Value.int t.2.2.2.1), none] []) Q := by
  obtain ⟨e1, e2, e3, e4⟩ := he
  obtain ⟨j1, j2, j3, j4⟩ := jdg_1 (C := C) (t := t) (w := w) (a := a)
  have hcx := nI_clamp (n := x) (by omega)
  refine wp_e e_35_0 ?_
  rw [h6]
  refine wp_p (s_107 (r := 51) (m := 4) (n := C) rfl h0 hC (by decide)) (wp_e e_35_1 ?_)
  rw [un_c (f := I 51) (g := t.2.1) h0 (fun c hc => h51 c (by omega)), hch, ib (n := x) (N := 25) (by omega) (by decide), hcx, e4 x (by omega), u2_a (show (48 : Nat) ≠ 54 by decide), e1]
  refine wp_c rfl ?_
  have f1 : cf [53, 54] [12, 13] I (am_u2 I 54 x (if un t.2.1 C < a.2.2.2 x then un t.2.1 C else a.2.2.2 x)) := cf_2 (by decide) (by decide)
  have l4 : ∀ k, k < 25 → am_u2 I 54 x (if un t.2.1 C < a.2.2.2 x then un t.2.1 C else a.2.2.2 x) 54 k = (jdg C t w a).2.2.2 k := fun k hk => by
    rw [j4, u2_k]
    show _ = if nI k = t.2.2.2.1 then (if un t.2.1 C < a.2.2.2 k then un t.2.1 C else a.2.2.2 k) else a.2.2.2 k
    rw [hch]
    by_cases z : k = x
    · rw [if_pos z, if_pos (c := nI k = nI x) (by rw [z]), z]
    · rw [if_neg z, if_neg (c := nI k = nI x) (fun q => z ((nI_eq (by omega) (by omega)).mp q)), e4 k hk]
  have f12 : ∀ k, am_u2 I 54 x (if un t.2.1 C < a.2.2.2 x then un t.2.1 C else a.2.2.2 x) 48 k = I 48 k := fun k => by rw [u2_a (by decide)]
  have k53 : am_u2 I 54 x (if un t.2.1 C < a.2.2.2 x then un t.2.1 C else a.2.2.2 x) 53 = I 53 := u2_a (by decide)
  generalize am_u2 I 54 x (if un t.2.1 C < a.2.2.2 x then un t.2.1 C else a.2.2.2 x) = K at f1 l4 f12 k53 ⊢
  have k12 : K 48 12 = a.1 := (f12 12).trans e1
  have k13 : K 48 13 = a.2.1 := (f12 13).trans e2
  have no : ¬ (un t.2.1 C < a.1 ∨ (un t.2.1 C = a.1 ∧ t.2.2.2.1 < a.2.1)) → wp (am_R (d + 2) 35 5 (am_mem L ext tx tt fe K G) [some (Value.ref 48), some (Value.int (nI x)), some (Value.int (un t.2.1 C))] []) Q := by
    intro z
    rw [if_neg z] at j1 j2 j3
    refine wp_e e_35_5 (wp_r (hQ K f1 ⟨?_, ?_, ?_, l4⟩))
    · rw [j1, k12]
    · rw [j2, k13]
    · rw [j1, j3, k53]
      exact e3
  have yes : (un t.2.1 C < a.1 ∨ (un t.2.1 C = a.1 ∧ t.2.2.2.1 < a.2.1)) → wp (am_R (d + 2) 35 4 (am_mem L ext tx tt fe K G) [some (Value.ref 48), some (Value.int (nI x)), some (Value.int (un t.2.1 C))] []) Q := by
    intro z
    rw [if_pos z] at j1 j2 j3
    refine wp_e e_35_4 ?_
    have k7 : am_u2 (am_u2 K 48 12 (un t.2.1 C)) 48 13 (nI x) 48 7 = nI D := by
      rw [u2_k, if_neg (by decide), u2_k, if_neg (by decide), f1.2 7 (by decide)]
      exact h7
    rw [k7, nI_clamp (n := D) (by omega), show (0 : Int32).toNatClampNeg = 0 from rfl, decide_eq_true (show ¬ (0 : Int32) < 0 ∧ ¬ (0 : Int32) < 0 ∧ ¬ nI D < 0 ∧ 0 + D ≤ 24 ∧ 0 + D ≤ 24 from ⟨by decide, by decide, nI_pos (by omega), by omega, by omega⟩)]
    refine wp_c rfl (wp_e e_35_5 (wp_r (hQ _ (cf_t f1 (cf_t (cf_t (cf_4 (by decide)) (cf_4 (by decide))) (cf_1 (by decide) (by decide)))) ⟨?_, ?_, Or.inr (fun k hk => ?_), fun k hk => ?_⟩)))
    · rw [j1, u1_a (by decide), u2_k, if_neg (by decide), u2_s]
    · rw [j2, u1_a (by decide), u2_s, hch]
    · rw [j3, u1_s, pk_cpy_in (Nat.zero_le _) (by omega), show 0 + (k - 0) = k by omega, u2_a (by decide), u2_a (by decide), f1.1 52 (by decide) (by decide)]
      exact h52 k hk
    · rw [u1_a (by decide), u2_a (by decide), u2_a (by decide)]
      exact l4 k hk
  refine wp_i (fun z => yes (Or.inl z)) (fun z1 => wp_e e_35_2 ?_)
  rw [k12]
  refine wp_i (fun z => wp_e e_35_3 ?_) (fun z2 => no (fun q => q.elim z1 (fun q => z2 q.1)))
  rw [k13]
  exact wp_i (fun z3 => yes (Or.inr ⟨z, by rw [hch]; exact z3⟩)) (fun z3 => no (fun q => q.elim z1 (fun q => z3 (by rw [← hch]; exact q.2))))
/-- what came ahead -/
def wsR (C i : Nat) (t : PS) (v2 : Int32) : Prop := (i = 0 ∧ t.2.2.1 = -1) ∨ (0 < i ∧ v2 = t.2.2.1 ∧ ∃ w, w < C ∧ t.2.2.1 = nI w)
theorem wsR_p {C i c : Nat} {t : PS} {v2 : Int32} (h : wsR C i t v2) (hC : C ≤ 4) (hc : c < C) : ∃ w, w < C ∧ pah c t = nI w ∧ ((i = 0 ∧ w = c) ∨ (0 < i ∧ v2 = nI w)) := by
  unfold pah
  rcases h with ⟨h1, h2⟩ | ⟨h1, h2, w, h3, h4⟩
  · exact ⟨c, hc, if_pos h2, Or.inl ⟨h1, rfl⟩⟩
  · refine ⟨w, h3, ?_, Or.inr ⟨h1, by rw [h2, h4]⟩⟩
    rw [h4, if_neg (nIm4 (by omega))]
theorem c_33 {s dd : SF} {C D : Nat} (hs : rg s) (hdd : rg dd) (h0 : 0 < C) (hC : C ≤ 4) (hD : D ≤ 24) (hp : C ^ D ≤ 65536) : ∀ (k i : Nat) (t : PS) (w : Nat → Nat) (a : EA) (I : Nat → Nat → Int32) (v2 : Int32), i + k = D → kQ C D i t w → wsR C i t v2 → SB I s dd C D → CS0 I t → EV0 I D a → (∀ j, j < i → I 52 j = nI (w j)) → ∀ Q : Option Value → am_M → Prop, (∀ I', cf [50, 51, 52, 53, 54] [12, 13] I I' → CS0 I' t → EV0 I' D (dfs s dd C (okc C D) (jdg C) k i t w a) → (∀ j, j < i → I' 52 j = nI (w j)) → Q none (am_mem L ext tx tt fe (I') G)) → wp (am_R (k + d + 10) 33 0 (am_mem L ext tx tt fe I G) [some (Value.ref 48), some (Value.int (nI i)), some (Value.int v2), some (Value.int t.2.2.2.1), none, none] []) Q := by
  intro k
  induction k with
  | zero =>
    intro i t w a I v2 hi hq hw hb hc0 he h52 Q hQ
    have e : i = D := by omega
    subst e
    obtain ⟨x, x1, x2⟩ := hq.2.2.1
    refine wp_e e_33_0 ?_
    rw [hb.2.1]
    refine wp_f (nI_nlt (Nat.le_refl _) (by omega)) (wp_e e_33_1 (wp_b (Q' := fun v M => v = none ∧ ∃ I', M = (am_mem L ext tx tt fe (I') G) ∧ cf [53, 54] [12, 13] I I' ∧ EV0 I' i (jdg C t w a)) (c_35 (d := 0 + d + 7) (w := w) (a := a) h0 hC hD (by omega) x2 hb.1 hb.2.1 hc0.2 h52 he (fun I' f e => ⟨rfl, I', rfl, f, e⟩)) ?_))
    rintro v M ⟨rfl, I', rfl, f1, e1⟩
    refine wp_e e_33_2 (wp_r (hQ I' (cf_m f1 (by decide) (by decide)) ?_ e1 ?_))
    · unfold CS0
      rw [f1.1 50 (by decide) (by decide), f1.1 51 (by decide) (by decide)]
      exact hc0
    · rw [f1.1 52 (by decide) (by decide)]
      exact h52
  | succ k ih =>
    intro i t w a I v2 hi hq hw hb hc0 he h52 Q hQ
    obtain ⟨x, x1, x2⟩ := hq.2.2.1
    refine wp_e e_33_0 ?_
    rw [hb.2.1]
    refine wp_t (nI_lt (by omega) (by omega)) (wp_e e_33_3 ?_)
    refine wp_loop C (fun c (J : Nat → Nat → Int32) => cf [50, 51, 52, 53, 54] [12, 13] I J ∧ CS0 J t ∧ EV0 J D (dfl (fun c a => if okc C D i c t = true then dfs s dd C (okc C D) (jdg C) k (i + 1) (pstep s dd i c 0 t) (wup w i c) a else a) c a) ∧ ∀ j, j < i → J 52 j = nI (w j)) (fun c J => wp (am_R (k + 1 + d + 10) 33 4 (am_mem L ext tx tt fe J G) [some (Value.ref 48), some (Value.int (nI i)), some (Value.int v2), some (Value.int t.2.2.2.1), some (Value.int (nI c)), none] []) Q) ?_ ?_ 0 I (Nat.zero_le _) ⟨cf_r _ _ _, hc0, he, h52⟩
    · rintro J ⟨f1, c1, e1, w1⟩
      refine wp_e e_33_4 ?_
      rw [f1.2 6 (by decide), hb.1]
      exact wp_f (nI_nlt (Nat.le_refl _) (by omega)) (wp_e e_33_15 (wp_r (hQ J f1 c1 e1 w1)))
    · rintro c J hc ⟨f1, c1, e1, w1⟩ hgo
      have b1 := SB_f hb f1 (by decide) (by decide)
      have hcb := ib (n := c) (N := 4) (by omega) (by decide)
      have hcc := nI_clamp (n := c) (by omega)
      have hib := ib (n := i) (N := 24) (by omega) (by decide)
      have hic := nI_clamp (n := i) (by omega)
      have hmr := Nat.mod_lt D h0
      refine wp_e e_33_4 ?_
      rw [b1.1]
      refine wp_t (nI_lt hc (by omega)) (wp_e e_33_5 (wp_p (c_34 (d := k + 1 + d + 9) (t := t) hC hc (by omega) b1.1 b1.2.2.1 b1.2.2.2.1 c1.1) (wp_e e_33_6 ?_)))
      cases ho : hrm C (D / C) (D % C) c t with
      | false =>
        refine wp_t rfl (wp_e e_33_14 ?_)
        rw [nI_1]
        refine hgo J ⟨f1, c1, ?_, w1⟩
        show EV0 J D (if okc C D i c t = true then _ else dfl _ c a)
        rw [if_neg (by show ¬ hrm C (D / C) (D % C) c t = true; rw [ho]; decide)]
        exact e1
      | true =>
        obtain ⟨f, ff1, ff2⟩ := hq.1.1 c (by omega)
        obtain ⟨w', w'1, w'2, w'3⟩ := wsR_p hw hC hc
        obtain ⟨g1, g2, g3, g4⟩ := pstep_g (s := s) (d := dd) (i := i) (show c < 4 by omega) (show w' < 4 by omega) ff2 w'2
        refine wp_f (by decide) (wp_e e_33_7 (wp_p (c_29 (d := k + 1 + d + 8) b1 h0 hC hD hp (by omega) hc ff1 w'1 (by rw [c1.1 c (by omega)]; exact ff2) w'3) (wp_e e_33_8 ?_)))
        rw [hcb, hcc, hib, hic]
        refine wp_c rfl ?_
        have X : ∀ y, am_u2 (am_u2 (am_u2 J 52 i (nI c)) 50 c (am_u2 J 52 i (nI c) 50 c + 1)) 51 c (am_u2 (am_u2 J 52 i (nI c)) 50 c (am_u2 J 52 i (nI c) 50 c + 1) 51 c + gn s dd i c f w') 50 y = (if y = c then t.1 c + 1 else J 50 y) := fun y => by
          rw [u2_a (show (50 : Nat) ≠ 51 by decide), u2_k, u2_a (show (50 : Nat) ≠ 52 by decide), c1.1 c (by omega)]
        have Y : ∀ y, am_u2 (am_u2 (am_u2 J 52 i (nI c)) 50 c (am_u2 J 52 i (nI c) 50 c + 1)) 51 c (am_u2 (am_u2 J 52 i (nI c)) 50 c (am_u2 J 52 i (nI c) 50 c + 1) 51 c + gn s dd i c f w') 51 y = (if y = c then t.2.1 c + gn s dd i c f w' else J 51 y) := fun y => by
          rw [u2_k, u2_a (show (51 : Nat) ≠ 50 by decide), u2_a (show (51 : Nat) ≠ 52 by decide), c1.2 c (by omega)]
        have Z : ∀ y, am_u2 (am_u2 (am_u2 J 52 i (nI c)) 50 c (am_u2 J 52 i (nI c) 50 c + 1)) 51 c (am_u2 (am_u2 J 52 i (nI c)) 50 c (am_u2 J 52 i (nI c) 50 c + 1) 51 c + gn s dd i c f w') 52 y = (if y = i then nI c else J 52 y) := fun y => by
          rw [u2_a (show (52 : Nat) ≠ 51 by decide), u2_a (show (52 : Nat) ≠ 50 by decide), u2_k]
        have fK : cf [50, 51, 52, 53, 54] [12, 13] J (am_u2 (am_u2 (am_u2 J 52 i (nI c)) 50 c (am_u2 J 52 i (nI c) 50 c + 1)) 51 c (am_u2 (am_u2 J 52 i (nI c)) 50 c (am_u2 J 52 i (nI c) 50 c + 1) 51 c + gn s dd i c f w')) := cf_t (cf_t (cf_2 (by decide) (by decide)) (cf_2 (by decide) (by decide))) (cf_2 (by decide) (by decide))
        have f53 : am_u2 (am_u2 (am_u2 J 52 i (nI c)) 50 c (am_u2 J 52 i (nI c) 50 c + 1)) 51 c (am_u2 (am_u2 J 52 i (nI c)) 50 c (am_u2 J 52 i (nI c) 50 c + 1) 51 c + gn s dd i c f w') 53 = J 53 := by
          rw [u2_a (by decide), u2_a (by decide), u2_a (by decide)]
        have f54 : am_u2 (am_u2 (am_u2 J 52 i (nI c)) 50 c (am_u2 J 52 i (nI c) 50 c + 1)) 51 c (am_u2 (am_u2 J 52 i (nI c)) 50 c (am_u2 J 52 i (nI c) 50 c + 1) 51 c + gn s dd i c f w') 54 = J 54 := by
          rw [u2_a (by decide), u2_a (by decide), u2_a (by decide)]
        have f48 : am_u2 (am_u2 (am_u2 J 52 i (nI c)) 50 c (am_u2 J 52 i (nI c) 50 c + 1)) 51 c (am_u2 (am_u2 J 52 i (nI c)) 50 c (am_u2 J 52 i (nI c) 50 c + 1) 51 c + gn s dd i c f w') 48 = J 48 := by
          rw [u2_a (by decide), u2_a (by decide), u2_a (by decide)]
        generalize am_u2 (am_u2 (am_u2 J 52 i (nI c)) 50 c (am_u2 J 52 i (nI c) 50 c + 1)) 51 c (am_u2 (am_u2 J 52 i (nI c)) 50 c (am_u2 J 52 i (nI c) 50 c + 1) 51 c + gn s dd i c f w') = K at X Y Z fK f53 f54 f48 ⊢
        have rcc : wp (am_R (k + 1 + d + 10) 33 12 (am_mem L ext tx tt fe K G) [some (Value.ref 48), some (Value.int (nI i)), some (Value.int v2), some (Value.int t.2.2.2.1), some (Value.int (nI c)), some (Value.int (gn s dd i c f w'))] [Value.int (pstep s dd i c 0 t).2.2.2.1, Value.int (nI c), Value.int (nI (i + 1)), Value.ref 48]) Q := by
          rw [show k + 1 + d + 10 = k + d + 10 + 1 by omega]
          refine wp_e e_33_12 (wp_b (Q' := fun v M => v = none ∧ ∃ I', M = (am_mem L ext tx tt fe (I') G) ∧ cf [50, 51, 52, 53, 54] [12, 13] K I' ∧ CS0 I' (pstep s dd i c 0 t) ∧ EV0 I' D (dfs s dd C (okc C D) (jdg C) k (i + 1) (pstep s dd i c 0 t) (wup w i c) (dfl (fun c a => if okc C D i c t = true then dfs s dd C (okc C D) (jdg C) k (i + 1) (pstep s dd i c 0 t) (wup w i c) a else a) c a)) ∧ ∀ j, j < i + 1 → I' 52 j = nI (wup w i c j)) (ih (i + 1) (pstep s dd i c 0 t) (wup w i c) _ K (nI c) (by omega) (kQ_s hs hdd hC hD (by omega) hc hq ho) (Or.inr ⟨Nat.succ_pos i, g3.symm, c, hc, g3⟩) (SB_f b1 fK (by decide) (by decide)) ⟨fun y hy => ?_, fun y hy => ?_⟩ (EV0_f e1 (by rw [f48]) (by rw [f48]) f53 f54) (fun j hj => ?_) _ (fun I' z1 z2 z3 z4 => ⟨rfl, I', rfl, z1, z2, z3, z4⟩)) ?_)
          · rw [X y, g1]
            by_cases e : y = c
            · rw [if_pos e]
              exact (if_pos e).symm
            · rw [if_neg e, c1.1 y hy]
              exact (if_neg e).symm
          · rw [Y y, g2]
            by_cases e : y = c
            · rw [if_pos e]
              exact (if_pos e).symm
            · rw [if_neg e, c1.2 y hy]
              exact (if_neg e).symm
          · rw [Z j]
            show _ = nI (if j = i then c else w j)
            by_cases e : j = i
            · rw [if_pos e, if_pos e]
            · rw [if_neg e, if_neg e]
              exact w1 j (by omega)
          · rintro v M ⟨rfl, I2, rfl, f2, c2, e2, w2⟩
            refine wp_e e_33_13 ?_
            rw [hcb, hcc, u2_a (show (51 : Nat) ≠ 50 by decide), c2.1 c (by omega), c2.2 c (by omega), g1, g2]
            have q1 : (fun y => if y = c then t.1 c + 1 else t.1 y) c - 1 = t.1 c := by
              show (if c = c then t.1 c + 1 else t.1 c) - 1 = t.1 c
              rw [if_pos rfl, Int32.add_sub_cancel]
            have q2 : (fun y => if y = c then t.2.1 c + gn s dd i c f w' else t.2.1 y) c - gn s dd i c f w' = t.2.1 c := by
              show (if c = c then t.2.1 c + gn s dd i c f w' else t.2.1 c) - gn s dd i c f w' = t.2.1 c
              rw [if_pos rfl, Int32.add_sub_cancel]
            rw [q1, q2, show k + d + 10 + 1 = k + 1 + d + 10 by omega]
            refine wp_c rfl (wp_l (lq_e (lq_e (lq_e (lq_e (lq_e (lq_n lq_0)))))) (wp_e e_33_14 ?_))
            rw [nI_1]
            have f3 : cf [50, 51, 52, 53, 54] [12, 13] I2 (am_u2 (am_u2 I2 50 c (t.1 c)) 51 c (t.2.1 c)) := cf_t (cf_2 (by decide) (by decide)) (cf_2 (by decide) (by decide))
            refine hgo _ ⟨cf_t f1 (cf_t fK (cf_t f2 f3)), ⟨fun y hy => ?_, fun y hy => ?_⟩, ?_, fun j hj => ?_⟩
            · rw [u2_a (by decide), u2_k]
              by_cases e : y = c
              · rw [if_pos e, e]
              · rw [if_neg e, c2.1 y hy, g1]
                exact if_neg e
            · rw [u2_k]
              by_cases e : y = c
              · rw [if_pos e, e]
              · rw [if_neg e, u2_a (by decide), c2.2 y hy, g2]
                exact if_neg e
            · show EV0 _ D (if okc C D i c t = true then dfs s dd C (okc C D) (jdg C) k (i + 1) (pstep s dd i c 0 t) (wup w i c) (dfl _ c a) else dfl _ c a)
              rw [if_pos (show okc C D i c t = true from ho)]
              exact EV0_f e2 (by rw [u2_a (by decide), u2_a (by decide)]) (by rw [u2_a (by decide), u2_a (by decide)]) (by rw [u2_a (by decide), u2_a (by decide)]) (by rw [u2_a (by decide), u2_a (by decide)])
            · rw [u2_a (by decide), u2_a (by decide), w2 j (by omega)]
              show nI (if j = i then c else w j) = nI (w j)
              rw [if_neg (by omega)]
        rw [nI_1]
        rw [g4] at rcc
        rcases w'3 with ⟨i0, wc⟩ | ⟨i1, hv2⟩
        · rw [if_pos wc.symm] at rcc
          refine wp_f ?_ (wp_e e_33_11 rcc)
          rw [i0]
          decide
        · refine wp_t (nI_lt (a := 0) i1 (by omega)) (wp_e e_33_9 ?_)
          rw [hv2]
          rw [hv2] at rcc
          by_cases e : c = w'
          · rw [if_pos e] at rcc
            exact wp_t (by rw [e]) (wp_e e_33_11 rcc)
          · rw [if_neg e] at rcc
            exact wp_f (fun z => e ((nI_eq (by omega) (by omega)).mp z)) (wp_e e_33_10 rcc)
end B58
