/-! PURE, 55: what both searches find -/
def bldl (e : Nat) (t : PS) : Nat → Bool
  | 0 => true
  | k + 1 => bldl e t k && decide (¬ t.1 k < nI e)
theorem bldl_t {e : Nat} {t : PS} : ∀ n, bldl e t n = true ↔ ∀ c, c < n → ¬ t.1 c < nI e
  | 0 => ⟨fun _ c hc => absurd hc (Nat.not_lt_zero c), fun _ => rfl⟩
  | n + 1 => by
    show (bldl e t n && decide (¬ t.1 n < nI e)) = true ↔ _
    rw [Bool.and_eq_true, bldl_t n, decide_eq_true_eq]
    constructor
    · rintro ⟨h1, h2⟩ c hc
      by_cases z : c = n
      · rw [z]; exact h2
      · exact h1 c (by omega)
    · exact fun h => ⟨fun c hc => h c (by omega), h n (by omega)⟩
/-- found; least uneven, its changes; its row -/
abbrev MA : Type := Int32 × Int32 × Int32 × (Nat → Int32)
def mle (so v : Int32) (C D : Nat) (it : Nat → Int32) (t : PS) (w : Nat → Nat) (b : MA) : MA :=
  if so = 2 then (if tas t.2.1 it (-1) C = true then (b.1 + 1, b.2.1, b.2.2.1, if b.1 + 1 = 1 then (fun j => nI (w j)) else b.2.2.2) else b)
  else if bldl (D / C) t C = true then
    (if so = 1 then (if ¬ v < un t.2.1 C ∧ (b.1 = -1 ∨ t.2.2.2.1 < b.1) then (t.2.2.2.1, b.2) else b)
    else (if b.1 = -1 ∨ (un t.2.1 C < b.2.1 ∨ (un t.2.1 C = b.2.1 ∧ t.2.2.2.1 < b.2.2.1)) then (0, un t.2.1 C, t.2.2.2.1, fun j => nI (w j)) else b))
  else b
def okm (so : Int32) (C D : Nat) (_ : Nat) (c : Nat) (t : PS) : Bool := decide (so = 2 ∨ t.1 c < nI ((D + C - 1) / C))
abbrev okc (C D : Nat) (_ : Nat) (c : Nat) (t : PS) : Bool := hrm C (D / C) (D % C) c t
theorem cap_e {C D : Nat} (h0 : 0 < C) (hC : C ≤ 4) : (D + C - 1) / C = D / C + if D % C = 0 then 0 else 1 := by
  obtain rfl | rfl | rfl | rfl : C = 1 ∨ C = 2 ∨ C = 3 ∨ C = 4 := by omega
  all_goals
    split <;> omega
theorem mle_z {so v : Int32} {C D i : Nat} {it : Nat → Int32} {s d : SF} (h0 : 0 < C) (hC : C ≤ 4) (hD : D ≤ 24) (h2 : ¬ so = 2) {k c : Nat} {t : PS} {w : Nat → Nat} (hi : i + 1 + k = D) (hc : c < C) (hq : kQ C D i t w) (o1 : okc C D i c t = false) (o2 : okm so C D i c t = true) (b : MA) : dfs s d C (okm so C D) (mle so v C D it) k (i + 1) (pstep s d i c 0 t) (wup w i c) b = b := by
  obtain ⟨-, -, -, F, h3, h4, h5⟩ := hq
  have he : D / C ≤ D := Nat.div_le_self D C
  have hdm := Nat.div_add_mod D C
  have o1 : hrm C (D / C) (D % C) c t = false := o1
  rw [hrm_F h3 hC hc (by omega) (by omega), decide_eq_false_iff_not] at o1
  have o2 : decide (so = 2 ∨ t.1 c < nI ((D + C - 1) / C)) = true := o2
  rw [decide_eq_true_eq, (h3.1 c (by omega)).1, cap_e h0 hC] at o2
  have o2 := o2.resolve_left h2
  have hFc := (h3.1 c (by omega)).2
  rw [nI_ltI (by omega) (by split <;> omega)] at o2
  have hcap : (if D % C = 0 then 0 else 1) ≤ 1 := by split <;> omega
  refine dfs_z (D := D) (fun j t => ∃ F, kF t C j F ∧ D % C < hiF F (D / C) C) ?_ ?_ k (i + 1) _ _ b hi ⟨_, kF_s h3 hc hC, ?_⟩
  · rintro j y t' hj hy ⟨F', f1, f2⟩
    refine ⟨_, kF_s f1 hy hC, ?_⟩
    rw [hiF_s hy]
    omega
  · rintro t' w' b' ⟨F', f1, f2⟩
    unfold mle
    rw [if_neg h2, if_neg]
    intro hb
    rw [bldl_t] at hb
    have := sm_hi (F := F') (e := D / C) C (fun y hy => by
      have z := hb y hy
      have zf := f1.1 y (by omega)
      rw [zf.1, nI_ltI (by omega) (by omega)] at z
      omega)
    rw [f1.2] at this
    omega
  · rw [hiF_s hc, if_pos (by omega)]
    omega
theorem kQ_b {C D : Nat} {t : PS} {w : Nat → Nat} (h0 : 0 < C) (hC : C ≤ 4) (hD : D ≤ 24) (hq : kQ C D D t w) : bldl (D / C) t C = true := by
  obtain ⟨-, -, -, F, h3, h4, h5⟩ := hq
  have he : D / C ≤ D := Nat.div_le_self D C
  have hdm := Nat.div_add_mod D C
  have := sm_lo (F := F) (e := D / C) C h4
  rw [h3.2] at this
  have z : fb_ct (fun o => decide (F o < D / C)) C = 0 := by omega
  rw [fb_ct_zero] at z
  rw [bldl_t]
  intro c hc
  have := of_decide_eq_false (z c hc)
  rw [(h3.1 c (by omega)).1]
  exact nI_nlt (by omega) (by have := (h3.1 c (by omega)).2; omega)
theorem okq_12 {so : Int32} {C D i c : Nat} {t : PS} {w : Nat → Nat} (h0 : 0 < C) (hC : C ≤ 4) (hD : D ≤ 24) (hi : i < D) (hc : c < C) (hq : kQ C D i t w) (o : okc C D i c t = true) : okm so C D i c t = true := by
  obtain ⟨-, -, -, F, h3, h4, h5⟩ := hq
  have he : D / C ≤ D := Nat.div_le_self D C
  have o : hrm C (D / C) (D % C) c t = true := o
  rw [hrm_F h3 hC hc (by omega) (by omega), decide_eq_true_eq] at o
  refine decide_eq_true (Or.inr ?_)
  rw [(h3.1 c (by omega)).1, cap_e h0 hC]
  have := (h3.1 c (by omega)).2
  by_cases e : D % C = 0
  · rw [if_pos e]
    exact nI_lt (by omega) (by omega)
  · rw [if_neg e]
    exact nI_lt (by omega) (by omega)
theorem kQ_u {C D : Nat} {t : PS} {w : Nat → Nat} (h0 : 0 < C) (hC : C ≤ 4) (hD : D ≤ 24) (hq : kQ C D D t w) : ∃ u, u ≤ 24456 ∧ un t.2.1 C = nI u := un_r (B := 24456) (by decide) h0 (fun c hc => by
  obtain ⟨m, m1, m2⟩ := hq.1.2.1 c (by omega)
  exact ⟨m, by have := Nat.mul_le_mul_right 1019 hD; omega, m2⟩)
theorem mx_e : (2147483647 : Int32) = nI 2147483647 := rfl
def evR (C D : Nat) (_ : Nat) (a : EA) (b : MA) : Prop := (b.1 = -1 ∧ a.1 = 2147483647) ∨ (b.1 = 0 ∧ ¬ a.1 = 2147483647 ∧ b.2.1 = a.1 ∧ b.2.2.1 = a.2.1 ∧ ∀ j, j < D → b.2.2.2 j = nI (a.2.2.1 j) ∧ a.2.2.1 j < C)
theorem jdg_1 {C : Nat} {t : PS} {w : Nat → Nat} {a : EA} : (jdg C t w a).1 = (if un t.2.1 C < a.1 ∨ (un t.2.1 C = a.1 ∧ t.2.2.2.1 < a.2.1) then un t.2.1 C else a.1) ∧ (jdg C t w a).2.1 = (if un t.2.1 C < a.1 ∨ (un t.2.1 C = a.1 ∧ t.2.2.2.1 < a.2.1) then t.2.2.2.1 else a.2.1) ∧ (jdg C t w a).2.2.1 = (if un t.2.1 C < a.1 ∨ (un t.2.1 C = a.1 ∧ t.2.2.2.1 < a.2.1) then w else a.2.2.1) ∧ (jdg C t w a).2.2.2 = fun k => if nI k = t.2.2.2.1 then (if un t.2.1 C < a.2.2.2 k then un t.2.1 C else a.2.2.2 k) else a.2.2.2 k := by
  unfold jdg
  split
  · exact ⟨rfl, rfl, rfl, rfl⟩
  · exact ⟨rfl, rfl, rfl, rfl⟩
theorem un_mx {u : Nat} {x : Int32} (hu : u ≤ 24456) (h : ¬ nI u < x) : ¬ x = 2147483647 := fun e => h (by rw [e, mx_e]; exact nI_lt (by omega) (by decide))
theorem ev_rel {s d : SF} {C D : Nat} {it : Nat → Int32} {w0 : Nat → Nat} {b0 : MA} (hs : rg s) (hd : rg d) (h0 : 0 < C) (hC : C ≤ 4) (hD : D ≤ 24) (hb : b0.1 = -1) : evR C D 0 (dfs s d C (okc C D) (jdg C) D 0 ps0 (fun _ => 0) ea0) (dfs s d C (okm 0 C D) (mle 0 0 C D it) D 0 ps0 (fun _ => 0) b0) := by
  refine dfs_2 (D := D) (s := s) (d := d) (l1 := jdg C) (l2 := mle 0 0 C D it) (evR C D) (kQ C D) h0 (fun m m' a b _ h => h) (fun i c t w hi hc hq o => ⟨okq_12 h0 hC hD hi hc hq o, kQ_s hs hd hC hD hi hc hq o⟩) (fun k i c t w hi hc hq o1 o2 b => mle_z h0 hC hD (by decide) hi hc hq o1 o2 b) ?_ D 0 ps0 (fun _ => 0) 0 ea0 b0 (Nat.zero_add D) kQ_0 (Or.inl ⟨hb, rfl⟩)
  intro m t w a b hq hr
  obtain ⟨u, u1, u2⟩ := kQ_u h0 hC hD hq
  have hbl := kQ_b h0 hC hD hq
  obtain ⟨j1, j2, j3, -⟩ := jdg_1 (C := C) (t := t) (w := w) (a := a)
  have e : mle 0 0 C D it t w b = if b.1 = -1 ∨ (un t.2.1 C < b.2.1 ∨ (un t.2.1 C = b.2.1 ∧ t.2.2.2.1 < b.2.2.1)) then (0, un t.2.1 C, t.2.2.2.1, fun j => nI (w j)) else b := by
    unfold mle
    rw [if_neg (by decide), if_pos hbl, if_neg (by decide)]
  have new : (un t.2.1 C < a.1 ∨ (un t.2.1 C = a.1 ∧ t.2.2.2.1 < a.2.1)) → evR C D 0 (jdg C t w a) (0, un t.2.1 C, t.2.2.2.1, fun j => nI (w j)) := by
    intro z
    rw [if_pos z] at j1 j2 j3
    refine Or.inr ⟨rfl, ?_, j1.symm, j2.symm, fun j hj => ?_⟩
    · rw [j1, u2]
      exact un_mx u1 (fun q => nI_nlt (Nat.le_refl u) (by omega) q)
    · rw [j3]
      exact ⟨rfl, hq.2.1 j hj⟩
  show evR C D 0 (jdg C t w a) (mle 0 0 C D it t w b)
  rw [e]
  rcases hr with ⟨r1, r2⟩ | ⟨r1, r2, r3, r4, r5⟩
  · rw [if_pos (Or.inl r1)]
    refine new (Or.inl ?_)
    rw [r2, u2, mx_e]
    exact nI_lt (by omega) (by decide)
  · rw [r3, r4]
    by_cases z : un t.2.1 C < a.1 ∨ (un t.2.1 C = a.1 ∧ t.2.2.2.1 < a.2.1)
    · rw [if_pos (Or.inr z)]
      exact new z
    · rw [if_neg (fun q => q.elim (fun q => by rw [r1] at q; exact absurd q (by decide)) z)]
      rw [if_neg z] at j1 j2 j3
      refine Or.inr ⟨r1, by rw [j1]; exact r2, by rw [j1]; exact r3, by rw [j2]; exact r4, fun j hj => ?_⟩
      rw [j3]
      exact r5 j hj
/-- a balanced way is always found -/
theorem ev_found {s d : SF} {C D : Nat} (hs : rg s) (hd : rg d) (h0 : 0 < C) (hC : C ≤ 4) (hD : D ≤ 24) : ¬ (evA s d C D).1 = 2147483647 := by
  refine dfs_m (D := D) (s := s) (d := d) (C := C) (ok := okc C D) (l := jdg C) (fun a => ¬ a.1 = 2147483647) (kQ C D) ?_ (fun i c t w hi hc hq o => kQ_s hs hd hC hD hi hc hq o) (fun i t w hi hq => kQ_e h0 hC hD hi hq) ?_ D 0 ps0 (fun _ => 0) ea0 (Nat.zero_add D) kQ_0
  · intro t w a h
    rw [jdg_1.1]
    by_cases z : un t.2.1 C < a.1 ∨ (un t.2.1 C = a.1 ∧ t.2.2.2.1 < a.2.1)
    · rw [if_pos z]
      rcases z with z | z
      · intro e
        rw [e, fa_lt] at z
        have r := fb_rng a.1
        have o : (2147483647 : Int32).toInt = 2147483647 := rfl
        rw [o] at z
        omega
      · rw [z.1]; exact h
    · rw [if_neg z]
      exact h
  · intro t w a hq
    obtain ⟨u, u1, u2⟩ := kQ_u h0 hC hD hq
    rw [jdg_1.1]
    by_cases z : un t.2.1 C < a.1 ∨ (un t.2.1 C = a.1 ∧ t.2.2.2.1 < a.2.1)
    · rw [if_pos z, u2]
      exact un_mx u1 (fun q => nI_nlt (Nat.le_refl u) (by omega) q)
    · rw [if_neg z]
      exact un_mx u1 (fun q => z (Or.inl (by rw [u2]; exact q)))
/-! FEWEST -/
def fwl (g : Nat → Int32) (v : Int32) : Nat → Nat → Int32
  | 0, _ => -1
  | f + 1, k => if v < g k then fwl g v f (k + 1) else nI k
def fwR (v : Int32) (g : Nat → Int32) (x : Int32) : Prop := (x = -1 ∧ ∀ k, k < 25 → v < g k) ∨ ∃ m, m < 25 ∧ x = nI m ∧ ¬ v < g m ∧ ∀ k, k < m → v < g k
theorem fwl_u {v x : Int32} {g : Nat → Int32} (h : fwR v g x) : ∀ f k, k + f = 25 → (∀ j, j < k → v < g j) → x = fwl g v f k
  | 0, k, hk, hj => by
    rcases h with h | ⟨m, m1, -, m3, -⟩
    · exact h.1
    · exact absurd (hj m (by omega)) m3
  | f + 1, k, hk, hj => by
    show x = if v < g k then fwl g v f (k + 1) else nI k
    by_cases e : v < g k
    · rw [if_pos e]
      exact fwl_u h f (k + 1) (by omega) (fun j hj2 => by
        by_cases z : j = k
        · rw [z]; exact e
        · exact hj j (by omega))
    · rw [if_neg e]
      rcases h with h | ⟨m, m1, m2, m3, m4⟩
      · exact absurd (h.2 k (by omega)) e
      · have : m = k := by
          by_cases z : m < k
          · exact absurd (hj m z) m3
          · by_cases z2 : k < m
            · exact absurd (m4 k z2) e
            · omega
        rw [m2, this]
theorem fw_rel {s d : SF} {C D : Nat} {v : Int32} {it : Nat → Int32} {b0 : MA} (hs : rg s) (hd : rg d) (h0 : 0 < C) (hC : C ≤ 4) (hD : D ≤ 24) (hv : v < 2147483647) (hb : b0.1 = -1) : fwR v (dfs s d C (okc C D) (jdg C) D 0 ps0 (fun _ => 0) ea0).2.2.2 (dfs s d C (okm 1 C D) (mle 1 v C D it) D 0 ps0 (fun _ => 0) b0).1 := by
  refine dfs_2 (D := D) (s := s) (d := d) (l1 := jdg C) (l2 := mle 1 v C D it) (fun _ a b => fwR v a.2.2.2 b.1) (kQ C D) h0 (fun m m' a b _ h => h) (fun i c t w hi hc hq o => ⟨okq_12 h0 hC hD hi hc hq o, kQ_s hs hd hC hD hi hc hq o⟩) (fun k i c t w hi hc hq o1 o2 b => mle_z h0 hC hD (by decide) hi hc hq o1 o2 b) ?_ D 0 ps0 (fun _ => 0) 0 ea0 b0 (Nat.zero_add D) kQ_0 (Or.inl ⟨hb, fun _ _ => hv⟩)
  intro m t w a b hq hr
  obtain ⟨u, u1, u2⟩ := kQ_u h0 hC hD hq
  have hbl := kQ_b h0 hC hD hq
  obtain ⟨-, -, ⟨x, x1, x2⟩, -⟩ := hq
  have e : mle 1 v C D it t w b = if ¬ v < un t.2.1 C ∧ (b.1 = -1 ∨ t.2.2.2.1 < b.1) then (t.2.2.2.1, b.2) else b := by
    unfold mle
    rw [if_neg (by decide), if_pos hbl, if_pos rfl]
  have ej : ∀ k, k < 25 → (jdg C t w a).2.2.2 k = if k = x then (if un t.2.1 C < a.2.2.2 k then un t.2.1 C else a.2.2.2 k) else a.2.2.2 k := fun k hk => by
    rw [jdg_1.2.2.2, x2]
    show (if nI k = nI x then (if un t.2.1 C < a.2.2.2 k then un t.2.1 C else a.2.2.2 k) else a.2.2.2 k) = _
    by_cases z : k = x
    · rw [if_pos z, if_pos (c := nI k = nI x) (by rw [z])]
    · rw [if_neg z, if_neg (c := nI k = nI x) (fun q => z ((nI_eq (by omega) (by omega)).mp q))]
  -- which numbers of changes do
  have ek : ∀ k, k < 25 → (¬ v < (jdg C t w a).2.2.2 k ↔ (¬ v < a.2.2.2 k ∨ (k = x ∧ ¬ v < un t.2.1 C))) := fun k hk => by
    rw [ej k hk]
    by_cases z : k = x
    · rw [if_pos z]
      by_cases z2 : un t.2.1 C < a.2.2.2 k
      · rw [if_pos z2]
        rw [fa_lt] at z2 ⊢
        rw [fa_lt]
        omega
      · rw [if_neg z2]
        rw [fa_lt] at z2 ⊢
        rw [fa_lt]
        omega
    · rw [if_neg z]
      exact ⟨Or.inl, fun q => q.elim id (fun q => absurd q.1 z)⟩
  show fwR v (jdg C t w a).2.2.2 (mle 1 v C D it t w b).1
  rw [e]
  have lt_k : ∀ k, k < 25 → v < a.2.2.2 k → ¬ (k = x ∧ ¬ v < un t.2.1 C) → v < (jdg C t w a).2.2.2 k := fun k hk z1 z2 => Decidable.byContradiction (fun q => ((ek k hk).mp q).elim (fun y => y z1) z2)
  rcases hr with ⟨r1, r2⟩ | ⟨m, m1, m2, m3, m4⟩
  · by_cases z : v < un t.2.1 C
    · rw [if_neg (fun q => q.1 z)]
      exact Or.inl ⟨r1, fun k hk => lt_k k hk (r2 k hk) (fun q => q.2 z)⟩
    · rw [if_pos ⟨z, Or.inl r1⟩]
      exact Or.inr ⟨x, by omega, x2, (ek x (by omega)).mpr (Or.inr ⟨rfl, z⟩), fun k hk => lt_k k (by omega) (r2 k (by omega)) (fun q => by omega)⟩
  · by_cases z : v < un t.2.1 C
    · rw [if_neg (fun q => q.1 z)]
      exact Or.inr ⟨m, m1, m2, (ek m m1).mpr (Or.inl m3), fun k hk => lt_k k (by omega) (m4 k hk) (fun q => q.2 z)⟩
    · by_cases z2 : x < m
      · rw [if_pos ⟨z, Or.inr (by rw [x2, m2]; exact nI_lt z2 (by omega))⟩]
        exact Or.inr ⟨x, by omega, x2, (ek x (by omega)).mpr (Or.inr ⟨rfl, z⟩), fun k hk => lt_k k (by omega) (m4 k (by omega)) (fun q => by omega)⟩
      · rw [if_neg]
        · exact Or.inr ⟨m, m1, m2, (ek m m1).mpr (Or.inl m3), fun k hk => lt_k k (by omega) (m4 k hk) (fun q => by omega)⟩
        · rintro ⟨-, q | q⟩
          · rw [m2] at q
            exact nIm4 (by omega) q
          · rw [x2, m2] at q
            exact nI_nlt (by omega) (by omega) q
