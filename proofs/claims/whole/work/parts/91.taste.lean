/-! PURE, 61: TASTES -/
def okt (s d : SF) (it : Nat → Int32) (i c : Nat) (t : PS) : Bool := decide (¬ it c < (pstep s d i c 0 t).2.1 c)
def dig (w : Nat → Nat) : Nat → Int32
  | 0 => 0
  | i + 1 => dig w i * 10 + nI (w i)
def dgr (r : Nat → Int32) : Nat → Int32
  | 0 => 0
  | i + 1 => 10 * dgr r i + r i
theorem dig_r {w : Nat → Nat} : ∀ i, dig w i = dgr (fun j => nI (w j)) i
  | 0 => rfl
  | i + 1 => by
    show dig w i * 10 + nI (w i) = 10 * dgr (fun j => nI (w j)) i + nI (w i)
    rw [dig_r i, Int32.mul_comm]
theorem dig_c {w w' : Nat → Nat} : ∀ i, (∀ j, j < i → w j = w' j) → dig w i = dig w' i
  | 0, _ => rfl
  | i + 1, h => by
    show dig w i * 10 + nI (w i) = dig w' i * 10 + nI (w' i)
    rw [dig_c i (fun j hj => h j (by omega)), h i (by omega)]
theorem dgr_c {r r' : Nat → Int32} : ∀ i, (∀ j, j < i → r j = r' j) → dgr r i = dgr r' i
  | 0, _ => rfl
  | i + 1, h => by
    show 10 * dgr r i + r i = 10 * dgr r' i + r' i
    rw [dgr_c i (fun j hj => h j (by omega)), h i (by omega)]
abbrev TA : Type := Int32 × Int32
def clt (it : Nat → Int32) (C D : Nat) (t : PS) (w : Nat → Nat) (a : TA) : TA := if tas t.2.1 it (-1) C = true then (a.1 + 1, if a.1 = 0 then dig w D else a.2) else a
theorem tas_e {f g : Nat → Int32} : ∀ n, n ≤ 100 → tas f g (-1) n = true → ∀ c, c < n → f c = g c
  | 0, _, _, c, hc => absurd hc (Nat.not_lt_zero c)
  | n + 1, hn, h, c, hc => by
    have h : (tas f g (-1) n && (decide (nI n = -1) || decide (f n = g n))) = true := h
    rw [Bool.and_eq_true, Bool.or_eq_true, decide_eq_true_eq, decide_eq_true_eq] at h
    by_cases e : c = n
    · rw [e]
      exact h.2.resolve_left (nIm4 (by omega))
    · exact tas_e n (by omega) h.1 c (by omega)
def taR (D m : Nat) (a : TA) (b : MA) : Prop := m < 2147483647 → ∃ n, n ≤ m ∧ a.1 = nI n ∧ b.1 = nI n ∧ ((n = 0 ∧ a.2 = -1) ∨ (0 < n ∧ a.2 = dgr b.2.2.2 D))
theorem ps_up {s d : SF} {i c y : Nat} {t : PS} {x : Int32} (hs : rg s) (hd : rg d) (hi : i < 1000) (hc : c < 4) (hy : y < 4) (hk : PSok i t) (hx : x < t.2.1 y) : x < (pstep s d i c 0 t).2.1 y := by
  obtain ⟨f, -, f2⟩ := hk.1 c hc
  obtain ⟨w, w1, w2⟩ := pah_w hk hc
  obtain ⟨g, g1, g2⟩ := gn_r (i := i) (c := c) (f := f) (w := w) hs hd
  rw [(pstep_g (s := s) (d := d) (i := i) hc w1 f2 w2).2.1]
  show x < if y = c then t.2.1 c + gn s d i c f w else t.2.1 y
  by_cases e : y = c
  · rw [if_pos e, ← e]
    obtain ⟨m, m1, m2⟩ := hk.2.1 y hy
    have hm : m ≤ 1000 * 1019 := Nat.le_trans m1 (Nat.mul_le_mul_right 1019 (by omega))
    rw [m2] at hx ⊢
    rw [e] at *
    rw [g2, nI_add, fa_lt, nI_toInt (by omega)]
    rw [fa_lt, nI_toInt (by omega)] at hx
    omega
  · rw [if_neg e]
    exact hx
theorem ta_rel {s d : SF} {C D : Nat} {v : Int32} {it : Nat → Int32} {b0 : MA} (hs : rg s) (hd : rg d) (h0 : 0 < C) (hC : C ≤ 4) (hD : D ≤ 24) (hb : b0.1 = 0) : taR D (0 + C ^ D) (dfs s d C (okt s d it) (clt it C D) D 0 ps0 (fun _ => 0) (0, -1)) (dfs s d C (okm 2 C D) (mle 2 v C D it) D 0 ps0 (fun _ => 0) b0) := by
  refine dfs_2 (D := D) (s := s) (d := d) (l1 := clt it C D) (l2 := mle 2 v C D it) (taR D) (fun i t _ => PSok i t) h0 (fun m m' a b hm h hlt => ?_) (fun i c t w hi hc hq o => ⟨decide_eq_true (Or.inl rfl), pstep_ok (k := 0) hs hd (by omega) (by omega) (by omega) hq⟩) (fun k i c t w hi hc hq o1 o2 b => ?_) ?_ D 0 ps0 (fun _ => 0) 0 (0, -1) b0 (Nat.zero_add D) ps0_ok (fun _ => ⟨0, Nat.le_refl 0, rfl, hb, Or.inl ⟨rfl, rfl⟩⟩)
  · obtain ⟨n, n1', n2'⟩ := h (by omega)
    exact ⟨n, by omega, n2'⟩
  · have o1 := of_decide_eq_false o1
    have o1 := Decidable.not_not.mp o1
    refine dfs_z (D := D) (fun j t => PSok j t ∧ ∃ y, y < C ∧ it y < t.2.1 y) ?_ ?_ k (i + 1) _ _ b hi ⟨pstep_ok (k := 0) hs hd (by omega) (by omega) (by omega) hq, c, hc, o1⟩
    · rintro j c' t' hj hc' ⟨p1, y, y1, y2⟩
      exact ⟨pstep_ok (k := 0) hs hd (by omega) (by omega) (by omega) p1, y, y1, ps_up hs hd (by omega) (by omega) (by omega) p1 y2⟩
    · rintro t' w' b' ⟨p1, y, y1, y2⟩
      unfold mle
      rw [if_pos rfl, if_neg]
      intro e
      have := tas_e C (by omega) e y y1
      rw [this, fa_lt] at y2
      omega
  · intro m t w a b hq hr hlt
    obtain ⟨n, k1, k2, k3, k4⟩ := hr (by omega)
    have em : mle 2 v C D it t w b = if tas t.2.1 it (-1) C = true then (b.1 + 1, b.2.1, b.2.2.1, if b.1 + 1 = 1 then (fun j => nI (w j)) else b.2.2.2) else b := if_pos rfl
    rw [em]
    unfold clt
    by_cases e : tas t.2.1 it (-1) C = true
    · rw [if_pos (c := tas t.2.1 it (-1) C = true) (t := (a.1 + 1, if a.1 = 0 then dig w D else a.2)) e, if_pos (c := tas t.2.1 it (-1) C = true) (t := (b.1 + 1, b.2.1, b.2.2.1, if b.1 + 1 = 1 then (fun j => nI (w j)) else b.2.2.2)) e]
      refine ⟨n + 1, by omega, ?_, ?_, Or.inr ⟨Nat.succ_pos n, ?_⟩⟩
      · show a.1 + 1 = nI (n + 1)
        rw [k2, nI_1]
      · show b.1 + 1 = nI (n + 1)
        rw [k3, nI_1]
      · show (if a.1 = 0 then dig w D else a.2) = dgr (if b.1 + 1 = 1 then (fun j => nI (w j)) else b.2.2.2) D
        rcases k4 with ⟨z1, z2⟩ | ⟨z1, z2⟩
        · rw [if_pos (by rw [k2, z1]; rfl), if_pos (by rw [k3, z1]; rfl)]
          exact dig_r D
        · rw [if_neg (by rw [k2]; exact nI_ne0 z1 (by omega)), if_neg (fun q => ?_)]
          · exact z2
          · rw [k3, nI_1] at q
            have := (nI_eq (a := n + 1) (b := 1) (by omega) (by decide)).mp q
            omega
    · rw [if_neg (c := tas t.2.1 it (-1) C = true) (t := (a.1 + 1, if a.1 = 0 then dig w D else a.2)) e, if_neg (c := tas t.2.1 it (-1) C = true) (t := (b.1 + 1, b.2.1, b.2.2.1, if b.1 + 1 = 1 then (fun j => nI (w j)) else b.2.2.2)) e]
      exact ⟨n, by omega, k2, k3, k4⟩
def TE (I : Nat → Nat → Int32) (a : TA) : Prop := I 48 15 = a.1 ∧ I 48 16 = a.2
theorem RY_f {s : St} {I I' : Nat → Nat → Int32} (h : RY s I) (hf : cf [50, 51] [15, 16] I I') : RY s I' := by
  obtain ⟨h1, h2, h3⟩ := h
  refine ⟨by rw [hf.2 5 (by decide)]; exact h1, SB_f h2 hf (by decide) (by decide), ?_⟩
  unfold EV at h3 ⊢
  rw [hf.2 10 (by decide), hf.2 12 (by decide), hf.2 13 (by decide), hf.1 53 (by decide) (by decide), hf.1 54 (by decide) (by decide)]
  exact h3
section B61
variable {d L : Nat} {ext : List (Nat × Nat)} {tx : Nat → Nat} {tt : Nat} {fe : Nat → Nat → Option Nat} {I : Nat → Nat → Int32} {G : Nat → Nat → Int64}
theorem c_38 {C D r : Nat} {it : Nat → Int32} {t : PS} {w : Nat → Nat} {a : TA} (hC : C ≤ 4) (h6 : I 48 6 = nI C) (h51 : ∀ c, c < 4 → I 51 c = t.2.1 c) (hr : (am_S0 L ++ ext)[r]? = some (20, 40)) (hit : ∀ c, c < C → I r c = it c) (he : TE I a) {Q : Option Value → am_M → Prop} (hQ : ∀ I', cf [50, 51] [15, 16] I I' → I' 50 = I 50 → I' 51 = I 51 → TE I' (clt it C D t w a) → Q none (am_mem L ext tx tt fe (I') G)) : wp (am_R (d) 38 0 (am_mem L ext tx tt fe I G) [some (Value.ref 48), some (Value.int (dig w D)), some (Value.ref r), none] []) Q := by
  refine wp_e e_38_0 ?_
  refine wp_loop C (fun k (_ : Unit) => tas t.2.1 it (-1) k = true) (fun k _ => wp (am_R d 38 1 (am_mem L ext tx tt fe I G) [some (Value.ref 48), some (Value.int (dig w D)), some (Value.ref r), some (Value.int (nI k))] []) Q) ?_ ?_ 0 () (Nat.zero_le _) rfl
  · rintro _ h
    have ec : clt it C D t w a = (a.1 + 1, if a.1 = 0 then dig w D else a.2) := if_pos h
    refine wp_e e_38_1 ?_
    rw [h6]
    refine wp_f (nI_nlt (Nat.le_refl _) (by omega)) (wp_e e_38_5 ?_)
    rw [he.1]
    refine wp_i (fun e => wp_e e_38_6 (wp_e e_38_7 (wp_r (hQ _ (cf_t (cf_4 (by decide)) (cf_4 (by decide))) ?_ ?_ ?_)))) (fun e => wp_e e_38_7 (wp_r (hQ _ (cf_4 (by decide)) ?_ ?_ ?_)))
    · rw [u2_a (by decide), u2_a (by decide)]
    · rw [u2_a (by decide), u2_a (by decide)]
    · rw [ec, if_pos e]
      refine ⟨?_, ?_⟩
      · rw [u2_s, u2_k, if_neg (by decide), he.1]
      · rw [u2_k, if_neg (by decide), u2_s]
    · rw [u2_a (by decide)]
    · rw [u2_a (by decide)]
    · rw [ec, if_neg e]
      refine ⟨?_, ?_⟩
      · rw [u2_s, he.1]
      · rw [u2_k, if_neg (by decide)]
        exact he.2
  · rintro k _ hk h hgo
    refine wp_e e_38_1 ?_
    rw [h6]
    refine wp_t (nI_lt hk (by omega)) (wp_e e_38_2 (wp_c (by rw [kd_of hr, ln_of hr, ib (n := k) (N := 40) (by omega) (by decide), ib (n := k) (N := 4) (by omega) (by decide)]; rfl) ?_))
    rw [nI_clamp (n := k) (by omega), h51 k (by omega), hit k hk]
    refine wp_i (fun e => wp_e e_38_4 ?_) (fun e => wp_e e_38_3 (wp_r (hQ I (cf_r _ _ _) rfl rfl ?_)))
    · rw [nI_1]
      exact hgo () (tas_1 h (Or.inr e))
    · have := tas_f (tas_0 (f := t.2.1) (g := it) (b := -1) (nIm4 (k := k) (by omega)) e) (C - (k + 1))
      rw [show k + 1 + (C - (k + 1)) = C by omega] at this
      unfold clt
      rw [if_neg (by rw [this]; decide)]
      exact he
theorem c_37 {s dd : SF} {C D r : Nat} {it : Nat → Int32} (hs : rg s) (hdd : rg dd) (h0 : 0 < C) (hC : C ≤ 4) (hD : D ≤ 24) (hp : C ^ D ≤ 65536) (hr : (am_S0 L ++ ext)[r]? = some (20, 40)) (hr2 : r ≠ 48 ∧ r ≠ 50 ∧ r ≠ 51) : ∀ (k i : Nat) (t : PS) (w : Nat → Nat) (a : TA) (I : Nat → Nat → Int32) (v2 : Int32), i + k = D → PSok i t → wsR C i t v2 → SB I s dd C D → CS0 I t → TE I a → (∀ c, c < C → I r c = it c) → ∀ Q : Option Value → am_M → Prop, (∀ I', cf [50, 51] [15, 16] I I' → CS0 I' t → TE I' (dfs s dd C (okt s dd it) (clt it C D) k i t w a) → Q none (am_mem L ext tx tt fe (I') G)) → wp (am_R (k + d + 10) 37 0 (am_mem L ext tx tt fe I G) [some (Value.ref 48), some (Value.int (nI i)), some (Value.int v2), some (Value.int (dig w i)), some (Value.ref r), none, none] []) Q := by
  intro k
  induction k with
  | zero =>
    intro i t w a I v2 hi hq hw hb hc0 he hit Q hQ
    have e : i = D := by omega
    subst e
    refine wp_e e_37_0 ?_
    rw [hb.2.1]
    refine wp_f (nI_nlt (Nat.le_refl _) (by omega)) (wp_e e_37_1 (wp_b (Q' := fun v M => v = none ∧ ∃ I', M = (am_mem L ext tx tt fe (I') G) ∧ cf [50, 51] [15, 16] I I' ∧ I' 50 = I 50 ∧ I' 51 = I 51 ∧ TE I' (clt it C i t w a)) (c_38 (d := 0 + d + 9) (w := w) (a := a) hC hb.1 hc0.2 hr hit he (fun I' z1 z2 z3 z4 => ⟨rfl, I', rfl, z1, z2, z3, z4⟩)) ?_))
    rintro v M ⟨rfl, I', rfl, f1, z0, z1, e1⟩
    refine wp_e e_37_2 (wp_r (hQ I' f1 ?_ e1))
    unfold CS0
    rw [z0, z1]
    exact hc0
  | succ k ih =>
    intro i t w a I v2 hi hq hw hb hc0 he hit Q hQ
    refine wp_e e_37_0 ?_
    rw [hb.2.1]
    refine wp_t (nI_lt (by omega) (by omega)) (wp_e e_37_3 ?_)
    refine wp_loop C (fun c (J : Nat → Nat → Int32) => cf [50, 51] [15, 16] I J ∧ CS0 J t ∧ TE J (dfl (fun c a => if okt s dd it i c t = true then dfs s dd C (okt s dd it) (clt it C D) k (i + 1) (pstep s dd i c 0 t) (wup w i c) a else a) c a)) (fun c J => wp (am_R (k + 1 + d + 10) 37 4 (am_mem L ext tx tt fe J G) [some (Value.ref 48), some (Value.int (nI i)), some (Value.int v2), some (Value.int (dig w i)), some (Value.ref r), some (Value.int (nI c)), none] []) Q) ?_ ?_ 0 I (Nat.zero_le _) ⟨cf_r _ _ _, hc0, he⟩
    · rintro J ⟨f1, c1, e1⟩
      refine wp_e e_37_4 ?_
      rw [f1.2 6 (by decide), hb.1]
      exact wp_f (nI_nlt (Nat.le_refl _) (by omega)) (wp_e e_37_10 (wp_r (hQ J f1 c1 e1)))
    · rintro c J hc ⟨f1, c1, e1⟩ hgo
      have b1 := SB_f hb f1 (by decide) (by decide)
      have hcb := ib (n := c) (N := 4) (by omega) (by decide)
      have hcc := nI_clamp (n := c) (by omega)
      obtain ⟨f, ff1, ff2⟩ := hq.1 c (by omega)
      obtain ⟨w', w'1, w'2, w'3⟩ := wsR_p hw hC hc
      obtain ⟨g1, g2, g3, g4⟩ := pstep_g (s := s) (d := dd) (i := i) (show c < 4 by omega) (show w' < 4 by omega) ff2 w'2
      have hJr : J r = I r := f1.1 r hr2.1 (by simp; exact hr2.2)
      have eo : okt s dd it i c t = decide (¬ it c < t.2.1 c + gn s dd i c f w') := by
        unfold okt
        rw [g2]
        show decide (¬ it c < if c = c then t.2.1 c + gn s dd i c f w' else t.2.1 c) = _
        rw [if_pos rfl]
      refine wp_e e_37_4 ?_
      rw [b1.1]
      refine wp_t (nI_lt hc (by omega)) (wp_e e_37_5 (wp_p (c_29 (d := k + 1 + d + 8) b1 h0 hC hD hp (by omega) hc ff1 w'1 (by rw [c1.1 c (by omega)]; exact ff2) w'3) (wp_e e_37_6 (wp_c (by rw [kd_of hr, ln_of hr, ib (n := c) (N := 40) (by omega) (by decide), hcb]; rfl) ?_))))
      rw [hcc, hJr, hit c hc, c1.2 c (by omega)]
      refine wp_i (fun e => wp_l (lq_e (lq_e (lq_e (lq_e (lq_e (lq_e (lq_e lq_0))))))) (wp_e e_37_9 ?_)) (fun e => wp_e e_37_7 ?_)
      · rw [nI_1]
        refine wp_l (lq_e (lq_e (lq_e (lq_e (lq_e (lq_e (lq_n lq_0))))))) (hgo J ⟨f1, c1, ?_⟩)
        show TE J (if okt s dd it i c t = true then _ else dfl _ c a)
        rw [if_neg (by rw [eo, decide_eq_true_eq]; exact fun q => q e)]
        exact e1
      · have ho : okt s dd it i c t = true := by
          rw [eo]
          exact decide_eq_true e
        rw [hcb, hcc]
        refine wp_c rfl ?_
        have X : ∀ y, am_u2 (am_u2 J 50 c (J 50 c + 1)) 51 c (am_u2 J 50 c (J 50 c + 1) 51 c + gn s dd i c f w') 50 y = (if y = c then t.1 c + 1 else J 50 y) := fun y => by
          rw [u2_a (show (50 : Nat) ≠ 51 by decide), u2_k, c1.1 c (by omega)]
        have Y : ∀ y, am_u2 (am_u2 J 50 c (J 50 c + 1)) 51 c (am_u2 J 50 c (J 50 c + 1) 51 c + gn s dd i c f w') 51 y = (if y = c then t.2.1 c + gn s dd i c f w' else J 51 y) := fun y => by
          rw [u2_k, u2_a (show (51 : Nat) ≠ 50 by decide), c1.2 c (by omega)]
        have fK : cf [50, 51] [15, 16] J (am_u2 (am_u2 J 50 c (J 50 c + 1)) 51 c (am_u2 J 50 c (J 50 c + 1) 51 c + gn s dd i c f w')) := cf_t (cf_2 (by decide) (by decide)) (cf_2 (by decide) (by decide))
        have f48 : am_u2 (am_u2 J 50 c (J 50 c + 1)) 51 c (am_u2 J 50 c (J 50 c + 1) 51 c + gn s dd i c f w') 48 = J 48 := by
          rw [u2_a (by decide), u2_a (by decide)]
        have fr' : am_u2 (am_u2 J 50 c (J 50 c + 1)) 51 c (am_u2 J 50 c (J 50 c + 1) 51 c + gn s dd i c f w') r = I r := by
          rw [u2_a hr2.2.2, u2_a hr2.2.1]
          exact hJr
        generalize am_u2 (am_u2 J 50 c (J 50 c + 1)) 51 c (am_u2 J 50 c (J 50 c + 1) 51 c + gn s dd i c f w') = K at X Y fK f48 fr' ⊢
        rw [nI_1, show dig w i * 10 + nI c = dig (wup w i c) (i + 1) by
          show dig w i * 10 + nI c = dig (wup w i c) i * 10 + nI (wup w i c i)
          rw [dig_c (w := wup w i c) (w' := w) i (fun j hj => if_neg (by omega)), show wup w i c i = c from if_pos rfl], show k + 1 + d + 9 = k + d + 10 by omega]
        refine wp_b (Q' := fun v M => v = none ∧ ∃ I', M = (am_mem L ext tx tt fe (I') G) ∧ cf [50, 51] [15, 16] K I' ∧ CS0 I' (pstep s dd i c 0 t) ∧ TE I' (dfs s dd C (okt s dd it) (clt it C D) k (i + 1) (pstep s dd i c 0 t) (wup w i c) (dfl (fun c a => if okt s dd it i c t = true then dfs s dd C (okt s dd it) (clt it C D) k (i + 1) (pstep s dd i c 0 t) (wup w i c) a else a) c a))) (ih (i + 1) (pstep s dd i c 0 t) (wup w i c) _ K (nI c) (by omega) (pstep_ok (k := 0) hs hdd (by omega) (by omega) (by omega) hq) (Or.inr ⟨Nat.succ_pos i, g3.symm, c, hc, g3⟩) (SB_f b1 fK (by decide) (by decide)) ⟨fun y hy => ?_, fun y hy => ?_⟩ ⟨by rw [f48]; exact e1.1, by rw [f48]; exact e1.2⟩ (fun y hy => by rw [fr']; exact hit y hy) _ (fun I' z1 z2 z3 => ⟨rfl, I', rfl, z1, z2, z3⟩)) ?_
        · rw [X y, g1]
          by_cases e : y = c
          · rw [if_pos e]
            exact (if_pos e).symm
          · rw [if_neg e, c1.1 y hy]
            exact (if_neg e).symm
        · rw [Y y, g2]
          by_cases e : y = c
          · rw [if_pos e]
            exact (if_pos e).symm
          · rw [if_neg e, c1.2 y hy]
            exact (if_neg e).symm
        · rintro v M ⟨rfl, I2, rfl, f2, c2, e2⟩
          refine wp_e e_37_8 ?_
          rw [hcb, hcc, u2_a (show (51 : Nat) ≠ 50 by decide), c2.1 c (by omega), c2.2 c (by omega), g1, g2]
          have q1 : (fun y => if y = c then t.1 c + 1 else t.1 y) c - 1 = t.1 c := by
            show (if c = c then t.1 c + 1 else t.1 c) - 1 = t.1 c
            rw [if_pos rfl, Int32.add_sub_cancel]
          have q2 : (fun y => if y = c then t.2.1 c + gn s dd i c f w' else t.2.1 y) c - gn s dd i c f w' = t.2.1 c := by
            show (if c = c then t.2.1 c + gn s dd i c f w' else t.2.1 c) - gn s dd i c f w' = t.2.1 c
            rw [if_pos rfl, Int32.add_sub_cancel]
          rw [q1, q2, show k + d + 10 + 1 = k + 1 + d + 10 by omega]
          refine wp_c rfl (wp_e e_37_9 ?_)
          rw [nI_1]
          have f3 : cf [50, 51] [15, 16] I2 (am_u2 (am_u2 I2 50 c (t.1 c)) 51 c (t.2.1 c)) := cf_t (cf_2 (by decide) (by decide)) (cf_2 (by decide) (by decide))
          refine wp_l (lq_e (lq_e (lq_e (lq_e (lq_e (lq_e (lq_n lq_0))))))) (hgo _ ⟨cf_t f1 (cf_t fK (cf_t f2 f3)), ⟨fun y hy => ?_, fun y hy => ?_⟩, ?_⟩)
          · rw [u2_a (by decide), u2_k]
            by_cases e : y = c
            · rw [if_pos e, e]
            · rw [if_neg e, c2.1 y hy, g1]
              exact if_neg e
          · rw [u2_k]
            by_cases e : y = c
            · rw [if_pos e, e]
            · rw [if_neg e, u2_a (by decide), c2.2 y hy, g2]
              exact if_neg e
          · show TE _ (if okt s dd it i c t = true then dfs s dd C (okt s dd it) (clt it C D) k (i + 1) (pstep s dd i c 0 t) (wup w i c) (dfl _ c a) else dfl _ c a)
            rw [if_pos ho]
            refine ⟨?_, ?_⟩
            · rw [u2_a (by decide), u2_a (by decide)]
              exact e2.1
            · rw [u2_a (by decide), u2_a (by decide)]
              exact e2.2
end B61
