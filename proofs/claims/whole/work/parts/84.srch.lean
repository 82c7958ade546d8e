/-! PURE, 54: two searches, one beside the other -/
theorem pstep_g {s d : SF} {i c f w : Nat} {t : PS} (hc : c < 4) (hw : w < 4) (h1 : t.1 c = nI f) (h2 : pah c t = nI w) : (pstep s d i c 0 t).1 = (fun y => if y = c then t.1 c + 1 else t.1 y) ∧ (pstep s d i c 0 t).2.1 = (fun y => if y = c then t.2.1 c + gn s d i c f w else t.2.1 y) ∧ (pstep s d i c 0 t).2.2.1 = nI c ∧ (pstep s d i c 0 t).2.2.2.1 = (if c = w then t.2.2.2.1 else t.2.2.2.1 + 1) := by
  have hs : phs s i c 0 t = s (nI i) (nI c) (nI f) (nI w) := by
    unfold phs
    rw [h1, h2, Int32.add_zero]
  unfold pstep gn pls
  rw [hs, h1, h2]
  by_cases e : c = w
  · rw [if_pos e, if_pos e, if_pos (show nI c = nI w by rw [e])]
    exact ⟨rfl, rfl, rfl, rfl⟩
  · rw [if_neg e, if_neg e, if_neg (show ¬ nI c = nI w from fun z => e ((nI_eq (by omega) (by omega)).mp z))]
    exact ⟨rfl, rfl, rfl, rfl⟩
theorem pstep_1 {s d : SF} {i c : Nat} {t : PS} : (pstep s d i c 0 t).1 = fun y => if y = c then t.1 c + 1 else t.1 y := by
  unfold pstep
  split <;> rfl
theorem gn_r {s d : SF} {i c f w : Nat} (hs : rg s) (hd : rg d) : ∃ g, g ≤ 999 ∧ gn s d i c f w = nI g := by
  obtain ⟨m, h1, h2⟩ := hs (nI i) (nI c) (nI f) (nI w)
  obtain ⟨l, l1, l2⟩ := hd (nI i) (nI c) (nI f) (nI w)
  unfold gn
  rw [h2, l2]
  by_cases e : c = w
  · exact ⟨m, h1, if_pos e⟩
  · rw [if_neg e]
    by_cases e2 : m < l
    · refine ⟨0, by omega, ?_⟩
      rw [if_pos (nI_lt e2 (by omega)), pk_sub (Nat.le_refl m), Nat.sub_self]
    · refine ⟨m - l, by omega, ?_⟩
      rw [if_neg (nI_nlt (by omega) (by omega)), pk_sub (by omega)]
section S54
variable {A B : Type} {s d : SF} {C D : Nat}
abbrev wup (w : Nat → Nat) (i c : Nat) : Nat → Nat := fun y => if y = i then c else w y
theorem dfs_z {ok : Nat → Nat → PS → Bool} {l : PS → (Nat → Nat) → B → B} (Z : Nat → PS → Prop) (h1 : ∀ i c t, i < D → c < C → Z i t → Z (i + 1) (pstep s d i c 0 t)) (h3 : ∀ t w b, Z D t → l t w b = b) : ∀ k i t w b, i + k = D → Z i t → dfs s d C ok l k i t w b = b := by
  intro k
  induction k with
  | zero =>
    intro i t w b hi hz
    have e : i = D := by omega
    subst e
    exact h3 t w b hz
  | succ k ih =>
    intro i t w b hi hz
    have g : ∀ n, n ≤ C → dfl (fun c a => if ok i c t = true then dfs s d C ok l k (i + 1) (pstep s d i c 0 t) (wup w i c) a else a) n b = b := by
      intro n
      induction n with
      | zero => intro _; rfl
      | succ n ihn =>
        intro hn
        show (if ok i n t = true then dfs s d C ok l k (i + 1) (pstep s d i n 0 t) (wup w i n) (dfl _ n b) else dfl _ n b) = b
        rw [ihn (by omega)]
        split
        · exact ih (i + 1) _ _ b (by omega) (h1 i n t (by omega) (by omega) hz)
        · rfl
    exact g C (Nat.le_refl C)
theorem dfs_2 {ok1 ok2 : Nat → Nat → PS → Bool} {l1 : PS → (Nat → Nat) → A → A} {l2 : PS → (Nat → Nat) → B → B} (R : Nat → A → B → Prop) (Q : Nat → PS → (Nat → Nat) → Prop) (hC : 0 < C) (hm : ∀ m m' a b, m ≤ m' → R m a b → R m' a b) (h1 : ∀ i c t w, i < D → c < C → Q i t w → ok1 i c t = true → ok2 i c t = true ∧ Q (i + 1) (pstep s d i c 0 t) (wup w i c)) (h2 : ∀ k i c t w, i + 1 + k = D → c < C → Q i t w → ok1 i c t = false → ok2 i c t = true → ∀ b, dfs s d C ok2 l2 k (i + 1) (pstep s d i c 0 t) (wup w i c) b = b) (h3 : ∀ m t w a b, Q D t w → R m a b → R (m + 1) (l1 t w a) (l2 t w b)) : ∀ k i t w m a b, i + k = D → Q i t w → R m a b → R (m + C ^ k) (dfs s d C ok1 l1 k i t w a) (dfs s d C ok2 l2 k i t w b) := by
  intro k
  induction k with
  | zero =>
    intro i t w m a b hi hq hr
    have e : i = D := by omega
    subst e
    exact h3 m t w a b hq hr
  | succ k ih =>
    intro i t w m a b hi hq hr
    have g : ∀ n, n ≤ C → R (m + n * C ^ k) (dfl (fun c a => if ok1 i c t = true then dfs s d C ok1 l1 k (i + 1) (pstep s d i c 0 t) (wup w i c) a else a) n a) (dfl (fun c a => if ok2 i c t = true then dfs s d C ok2 l2 k (i + 1) (pstep s d i c 0 t) (wup w i c) a else a) n b) := by
      intro n
      induction n with
      | zero =>
        intro _
        rw [Nat.zero_mul]
        exact hr
      | succ n ihn =>
        intro hn
        have r0 := ihn (by omega)
        rw [Nat.succ_mul, ← Nat.add_assoc]
        show R _ (if ok1 i n t = true then dfs s d C ok1 l1 k (i + 1) (pstep s d i n 0 t) (wup w i n) (dfl _ n a) else dfl _ n a) (if ok2 i n t = true then dfs s d C ok2 l2 k (i + 1) (pstep s d i n 0 t) (wup w i n) (dfl _ n b) else dfl _ n b)
        cases e1 : ok1 i n t with
        | true =>
          obtain ⟨e2, hq2⟩ := h1 i n t w (by omega) (by omega) hq e1
          rw [if_pos rfl, if_pos e2]
          exact ih (i + 1) _ _ _ _ _ (by omega) hq2 r0
        | false =>
          rw [if_neg (by decide)]
          cases e2 : ok2 i n t with
          | true =>
            rw [if_pos rfl, h2 k i n t w (by omega) (by omega) hq e1 e2]
            exact hm _ _ _ _ (Nat.le_add_right _ _) r0
          | false =>
            rw [if_neg (by decide)]
            exact hm _ _ _ _ (Nat.le_add_right _ _) r0
    have e := g C (Nat.le_refl C)
    rw [Nat.mul_comm, ← Nat.pow_succ] at e
    exact e
theorem dfs_k {ok : Nat → Nat → PS → Bool} {l : PS → (Nat → Nat) → A → A} (P : A → Prop) (h : ∀ t w a, P a → P (l t w a)) : ∀ k i t w a, P a → P (dfs s d C ok l k i t w a) := by
  intro k
  induction k with
  | zero =>
    intro i t w a hp
    exact h t w a hp
  | succ k ih =>
    intro i t w a hp
    have g : ∀ n, P (dfl (fun c a => if ok i c t = true then dfs s d C ok l k (i + 1) (pstep s d i c 0 t) (wup w i c) a else a) n a) := by
      intro n
      induction n with
      | zero => exact hp
      | succ n ihn =>
        show P (if ok i n t = true then dfs s d C ok l k (i + 1) (pstep s d i n 0 t) (wup w i n) (dfl _ n a) else dfl _ n a)
        split
        · exact ih _ _ _ _ ihn
        · exact ihn
    exact g C
theorem dfs_m {ok : Nat → Nat → PS → Bool} {l : PS → (Nat → Nat) → A → A} (P : A → Prop) (Q : Nat → PS → (Nat → Nat) → Prop) (h : ∀ t w a, P a → P (l t w a)) (h1 : ∀ i c t w, i < D → c < C → Q i t w → ok i c t = true → Q (i + 1) (pstep s d i c 0 t) (wup w i c)) (h2 : ∀ i t w, i < D → Q i t w → ∃ c, c < C ∧ ok i c t = true) (h3 : ∀ t w a, Q D t w → P (l t w a)) : ∀ k i t w a, i + k = D → Q i t w → P (dfs s d C ok l k i t w a) := by
  intro k
  induction k with
  | zero =>
    intro i t w a hi hq
    have e : i = D := by omega
    subst e
    exact h3 t w a hq
  | succ k ih =>
    intro i t w a hi hq
    obtain ⟨c0, hc0, ok0⟩ := h2 i t w (by omega) hq
    have g : ∀ n, n ≤ C → c0 < n → P (dfl (fun c a => if ok i c t = true then dfs s d C ok l k (i + 1) (pstep s d i c 0 t) (wup w i c) a else a) n a) := by
      intro n
      induction n with
      | zero => intro _ h; exact absurd h (Nat.not_lt_zero _)
      | succ n ihn =>
        intro hn h0
        show P (if ok i n t = true then dfs s d C ok l k (i + 1) (pstep s d i n 0 t) (wup w i n) (dfl _ n a) else dfl _ n a)
        by_cases e : n = c0
        · subst e
          rw [if_pos ok0]
          exact ih _ _ _ _ (by omega) (h1 i n t w (by omega) hc0 hq ok0)
        · have p := ihn (by omega) (by omega)
          split
          · exact dfs_k P h k _ _ _ _ p
          · exact p
    exact g C (Nat.le_refl C) hc0
end S54
/-! how full the cups are -/
def kF (t : PS) (C i : Nat) (F : Nat → Nat) : Prop := (∀ c, c < 4 → t.1 c = nI (F c) ∧ F c ≤ i) ∧ fb_sm F C = i
def hiF (F : Nat → Nat) (e C : Nat) : Nat := fb_ct (fun o => decide (e < F o)) C
theorem kF_0 {C : Nat} : kF ps0 C 0 (fun _ => 0) := ⟨fun c _ => ⟨rfl, Nat.le_refl 0⟩, by rw [fb_sm_const, Nat.mul_zero]⟩
theorem kF_s {s d : SF} {t : PS} {C i c : Nat} {F : Nat → Nat} (h : kF t C i F) (hc : c < C) (hC : C ≤ 4) : kF (pstep s d i c 0 t) C (i + 1) (fun y => if y = c then F c + 1 else F y) := by
  obtain ⟨h1, h2⟩ := h
  refine ⟨fun y hy => ?_, ?_⟩
  · rw [pstep_1]
    show (if y = c then t.1 c + 1 else t.1 y) = nI (if y = c then F c + 1 else F y) ∧ (if y = c then F c + 1 else F y) ≤ i + 1
    by_cases e : y = c
    · rw [if_pos e, if_pos e, (h1 c (by omega)).1, nI_1]
      have := (h1 c (by omega)).2
      exact ⟨rfl, by omega⟩
    · rw [if_neg e, if_neg e]
      exact ⟨(h1 y hy).1, Nat.le_succ_of_le (h1 y hy).2⟩
  · have := fb_sm_upd F (F c + 1) hc
    omega
theorem hiF_s {F : Nat → Nat} {e C c : Nat} (hc : c < C) : hiF (fun y => if y = c then F c + 1 else F y) e C = hiF F e C + if F c = e then 1 else 0 := by
  unfold hiF
  have a : fb_ct (fun o => decide (e < if o = c then F c + 1 else F o)) C = fb_ct (fun o => if o = c then decide (e < F c + 1) else decide (e < F o)) C := fb_ct_cong (fun o _ => by
    by_cases z : o = c
    · rw [if_pos z, if_pos z]
    · rw [if_neg z, if_neg z])
  have b := fb_ct_upd (fun o => decide (e < F o)) (decide (e < F c + 1)) hc
  rw [a]
  by_cases z : F c = e
  · rw [if_pos z]
    rw [if_neg (show ¬ decide (e < F c) = true by rw [decide_eq_true_eq]; omega), if_pos (show decide (e < F c + 1) = true by rw [decide_eq_true_eq]; omega)] at b
    exact b
  · rw [if_neg z]
    by_cases z2 : e < F c
    · rw [if_pos (show decide (e < F c) = true by rw [decide_eq_true_eq]; omega), if_pos (show decide (e < F c + 1) = true by rw [decide_eq_true_eq]; omega)] at b
      omega
    · rw [if_neg (show ¬ decide (e < F c) = true by rw [decide_eq_true_eq]; omega), if_neg (show ¬ decide (e < F c + 1) = true by rw [decide_eq_true_eq]; omega)] at b
      omega
theorem sm_hi {F : Nat → Nat} {e : Nat} : ∀ n, (∀ c, c < n → e ≤ F c) → n * e + hiF F e n ≤ fb_sm F n
  | 0, _ => by
    rw [Nat.zero_mul]
    exact Nat.le_refl _
  | n + 1, h => by
    have ih := sm_hi (F := F) (e := e) n (fun c hc => h c (by omega))
    have h0 := h n (by omega)
    have a : hiF F e (n + 1) = hiF F e n + (if decide (e < F n) = true then 1 else 0) := rfl
    have b : fb_sm F (n + 1) = fb_sm F n + F n := rfl
    rw [a, b, Nat.succ_mul]
    by_cases z : e < F n
    · rw [if_pos (decide_eq_true z)]
      omega
    · rw [if_neg (by rw [decide_eq_true_eq]; exact z)]
      omega
theorem sm_lo {F : Nat → Nat} {e : Nat} : ∀ n, (∀ c, c < n → F c ≤ e + 1) → fb_sm F n + fb_ct (fun o => decide (F o < e)) n ≤ n * e + hiF F e n
  | 0, _ => by
    rw [Nat.zero_mul]
    exact Nat.le_refl _
  | n + 1, h => by
    have ih := sm_lo (F := F) (e := e) n (fun c hc => h c (by omega))
    have h0 := h n (by omega)
    have a : hiF F e (n + 1) = hiF F e n + (if decide (e < F n) = true then 1 else 0) := rfl
    have b : fb_sm F (n + 1) = fb_sm F n + F n := rfl
    have c : fb_ct (fun o => decide (F o < e)) (n + 1) = fb_ct (fun o => decide (F o < e)) n + (if decide (F n < e) = true then 1 else 0) := rfl
    rw [a, b, c, Nat.succ_mul]
    by_cases z : e < F n
    · rw [if_pos (c := decide (e < F n) = true) (decide_eq_true z), if_neg (c := decide (F n < e) = true) (by rw [decide_eq_true_eq]; omega)]
      omega
    · rw [if_neg (c := decide (e < F n) = true) (by rw [decide_eq_true_eq]; exact z)]
      by_cases z2 : F n < e
      · rw [if_pos (c := decide (F n < e) = true) (decide_eq_true z2)]
        omega
      · rw [if_neg (c := decide (F n < e) = true) (by rw [decide_eq_true_eq]; exact z2)]
        omega
theorem hrm_F {t : PS} {C i e r c : Nat} {F : Nat → Nat} (h : kF t C i F) (hC : C ≤ 4) (hc : c < C) (hi : i < 1000) (he : e < 1000) : hrm C e r c t = decide (F c < e ∨ (F c = e ∧ hiF F e C + 1 ≤ r)) := by
  obtain ⟨h1, -⟩ := h
  obtain ⟨k1, k2⟩ := h1 c (by omega)
  have a : fb_ct (fun o => decide (nI e < t.1 o)) C = hiF F e C := fb_ct_cong (fun o ho => by
    obtain ⟨m1, m2⟩ := h1 o (by omega)
    rw [m1]
    exact decide_eq_decide.mpr (nI_ltI (by omega) (by omega)))
  unfold hrm
  rw [a, k1]
  by_cases z : F c = e
  · rw [if_pos (by rw [z])]
    exact decide_eq_decide.mpr ⟨fun q => Or.inr ⟨z, q⟩, fun q => q.elim (fun q => absurd q (by omega)) (fun q => q.2)⟩
  · rw [if_neg (fun q => z ((nI_eq (by omega) (by omega)).mp q))]
    refine decide_eq_decide.mpr ?_
    rw [nI_ltI (by omega) (by omega)]
    exact ⟨Or.inl, fun q => q.elim id (fun q => absurd q.1 z)⟩
theorem chg {s d : SF} {i c : Nat} {t : PS} {hC : c < 4} (h1 : PSok i t) (hx : ∃ x, x ≤ i ∧ t.2.2.2.1 = nI x) : ∃ x, x ≤ i + 1 ∧ (pstep s d i c 0 t).2.2.2.1 = nI x := by
  obtain ⟨x, x1, x2⟩ := hx
  obtain ⟨f, -, f2⟩ := h1.1 c hC
  obtain ⟨w, w1, w2⟩ := pah_w h1 hC
  rw [(pstep_g (s := s) (d := d) (i := i) hC w1 f2 w2).2.2.2, x2]
  by_cases e : c = w
  · rw [if_pos e]
    exact ⟨x, by omega, rfl⟩
  · rw [if_neg e, nI_1]
    exact ⟨x + 1, by omega, rfl⟩
/-- what the class keeps on its way -/
def kQ (C D : Nat) (i : Nat) (t : PS) (w : Nat → Nat) : Prop := PSok i t ∧ (∀ j, j < i → w j < C) ∧ (∃ x, x ≤ i ∧ t.2.2.2.1 = nI x) ∧ ∃ F, kF t C i F ∧ (∀ c, c < C → F c ≤ D / C + 1) ∧ hiF F (D / C) C ≤ D % C
theorem kQ_0 {C D : Nat} {w : Nat → Nat} : kQ C D 0 ps0 w := ⟨ps0_ok, fun j hj => absurd hj (Nat.not_lt_zero j), ⟨0, Nat.le_refl 0, rfl⟩, fun _ => 0, kF_0, fun _ _ => Nat.zero_le _, by
  have : hiF (fun _ => 0) (D / C) C = 0 := fb_ct_zero.mpr (fun k _ => decide_eq_false (Nat.not_lt_zero _))
  rw [this]
  exact Nat.zero_le _⟩
theorem kQ_s {s d : SF} {C D i c : Nat} {t : PS} {w : Nat → Nat} (hs : rg s) (hd : rg d) (hC : C ≤ 4) (hD : D ≤ 24) (hi : i < D) (hc : c < C) (h : kQ C D i t w) (ho : hrm C (D / C) (D % C) c t = true) : kQ C D (i + 1) (pstep s d i c 0 t) (wup w i c) := by
  obtain ⟨h1, h2, hx, F, h3, h4, h5⟩ := h
  have he : D / C ≤ D := Nat.div_le_self D C
  rw [hrm_F h3 hC hc (by omega) (by omega), decide_eq_true_eq] at ho
  refine ⟨pstep_ok (k := 0) hs hd (by omega) (by omega) (by omega) h1, fun j hj => ?_, chg (hC := by omega) h1 hx, _, kF_s h3 hc hC, fun y hy => ?_, ?_⟩
  · show (if j = i then c else w j) < C
    by_cases e : j = i
    · rw [if_pos e]; exact hc
    · rw [if_neg e]; exact h2 j (by omega)
  · show (if y = c then F c + 1 else F y) ≤ D / C + 1
    by_cases e : y = c
    · rw [if_pos e]; omega
    · rw [if_neg e]; exact h4 y hy
  · rw [hiF_s hc]
    by_cases e : F c = D / C
    · rw [if_pos e]
      omega
    · rw [if_neg e]
      exact h5
theorem kQ_e {C D i : Nat} {t : PS} {w : Nat → Nat} (h0 : 0 < C) (hC : C ≤ 4) (hD : D ≤ 24) (hi : i < D) (h : kQ C D i t w) : ∃ c, c < C ∧ hrm C (D / C) (D % C) c t = true := by
  obtain ⟨-, -, -, F, h3, h4, h5⟩ := h
  have he : D / C ≤ D := Nat.div_le_self D C
  have hdm := Nat.div_add_mod D C
  have hr := Nat.mod_lt D h0
  by_cases z : ∃ c, c < C ∧ F c < D / C
  · obtain ⟨c, c1, c2⟩ := z
    refine ⟨c, c1, ?_⟩
    rw [hrm_F h3 hC c1 (by omega) (by omega), decide_eq_true_eq]
    exact Or.inl c2
  · have h := sm_hi (F := F) (e := D / C) C (fun c hc => Nat.le_of_not_lt (fun q => z ⟨c, hc, q⟩))
    rw [h3.2] at h
    by_cases y : ∃ c, c < C ∧ F c = D / C
    · obtain ⟨c, c1, c2⟩ := y
      refine ⟨c, c1, ?_⟩
      rw [hrm_F h3 hC c1 (by omega) (by omega), decide_eq_true_eq]
      refine Or.inr ⟨c2, ?_⟩
      omega
    · have : hiF F (D / C) C = C := fb_ct_all.mpr (fun c hc => decide_eq_true (by
        have a : ¬ F c < D / C := fun q => z ⟨c, hc, q⟩
        have b : ¬ F c = D / C := fun q => y ⟨c, hc, q⟩
        omega))
      omega
