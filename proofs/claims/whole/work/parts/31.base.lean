/-! PURE, 1: ways to run the blocks -/
theorem lq_len_set (L : am_L) (x : Nat) (v : Option Value) : (L.set x v).length = L.length := by simp
/-- what the one has in its locals, the other has too -/
def am_lq (L L' : am_L) : Prop := L.length = L'.length ∧ ∀ (i : Nat) (v : Value), L[i]? = some (some v) → L'[i]? = some (some v)
theorem lq_r (L : am_L) : am_lq L L := ⟨rfl, fun _ _ h => h⟩
theorem lq_0 : am_lq [] [] := lq_r []
theorem lq_e {a : Option Value} {l m : am_L} (h : am_lq l m) : am_lq (a :: l) (a :: m) := by
  refine ⟨by simp [h.1], fun i v hi => ?_⟩
  cases i with
  | zero => exact hi
  | succ i => exact h.2 i v hi
theorem lq_n {a : Option Value} {l m : am_L} (h : am_lq l m) : am_lq (none :: l) (a :: m) := by
  refine ⟨by simp [h.1], fun i v hi => ?_⟩
  cases i with
  | zero => simp at hi
  | succ i => exact h.2 i v hi
theorem lq_len (L : am_L) (x : Nat) : (am_clr L x).length = L.length := by
  unfold am_clr
  split
  · rfl
  · cases am_isl _ <;> simp
theorem lq_clr {L : am_L} {x i : Nat} {v : Value} : (am_clr L x)[i]? = some (some v) ↔ L[i]? = some (some v) ∧ ¬ (i + 1 = x ∧ am_isl (some (some v)) = true) := by
  cases x with
  | zero => simp [am_clr]
  | succ y =>
    show (cond (am_isl L[y]?) (L.set y none) L)[i]? = some (some v) ↔ _
    cases hc : am_isl L[y]? with
    | true =>
      simp only [cond_true]
      by_cases hj : i = y
      · subst hj
        constructor
        · intro h
          rw [List.getElem?_set] at h
          simp at h
        · intro h
          rw [h.1] at hc
          exact absurd ⟨rfl, hc⟩ h.2
      · rw [List.getElem?_set_ne (Ne.symm hj)]
        exact ⟨fun h => ⟨h, fun e => hj (by omega)⟩, fun h => h.1⟩
    | false =>
      simp only [cond_false]
      refine ⟨fun h => ⟨h, fun e => ?_⟩, fun h => h.1⟩
      have hj : i = y := by omega
      subst hj
      rw [h, e.2] at hc
      cases hc
theorem lq_c {L L' : am_L} (h : am_lq L L') (x : Nat) : am_lq (am_clr L x) (am_clr L' x) := by
  refine ⟨by rw [lq_len, lq_len]; exact h.1, fun i v hi => ?_⟩
  rw [lq_clr] at hi ⊢
  exact ⟨h.2 i v hi.1, hi.2⟩
theorem lq_s {L L' : am_L} (h : am_lq L L') (x : Nat) (a : Option Value) : am_lq (L.set x a) (L'.set x a) := by
  refine ⟨by simp [h.1], fun i v hi => ?_⟩
  by_cases hj : i = x
  · subst hj
    have hl : i < L.length := by
      have := (List.getElem?_eq_some_iff.mp hi).1
      simpa using this
    rw [List.getElem?_set_self hl] at hi
    rw [List.getElem?_set_self (by rw [← h.1]; exact hl)]
    exact hi
  · rw [List.getElem?_set_ne (Ne.symm hj)] at hi ⊢
    exact h.2 i v hi
/-- an instruction that leaves the locals alone -/
def lq_k (f : am_M → am_L → List Value → am_Q) : Prop := ∀ (M : am_M) (L L' : am_L) (S : List Value) (q : Bool × am_M × am_L × List Value), f M L S = some q → q.2.2.1 = L ∧ f M L' S = some (q.1, q.2.1, L', q.2.2.2)
theorem lq_psh (v : Value) : lq_k (am_psh v) := by
  intro M L L' S q h
  cases h
  exact ⟨rfl, rfl⟩
theorem lq_b2 (g : Int32 → Int32 → Int32) : lq_k (am_b2 g) := by
  intro M L L' S q h
  unfold am_b2 at h ⊢
  split at h <;> first | (cases h; done) | (cases h; exact ⟨rfl, rfl⟩)
theorem lq_d2 (g : Int32 → Int32 → Int32) : lq_k (am_d2 g) := by
  intro M L L' S q h
  unfold am_d2 at h ⊢
  split at h <;> first | (cases h; done) | (cases h; exact ⟨rfl, rfl⟩)
theorem lq_b1 (g : Int32 → Int32) : lq_k (am_b1 g) := by
  intro M L L' S q h
  unfold am_b1 at h ⊢
  split at h <;> first | (cases h; done) | (cases h; exact ⟨rfl, rfl⟩)
theorem lq_l2 (g : Int64 → Int64 → Int64) : lq_k (am_l2 g) := by
  intro M L L' S q h
  unfold am_l2 at h ⊢
  split at h <;> first | (cases h; done) | (cases h; exact ⟨rfl, rfl⟩)
theorem lq_e2 (g : Int64 → Int64 → Int64) : lq_k (am_e2 g) := by
  intro M L L' S q h
  unfold am_e2 at h ⊢
  split at h <;> first | (cases h; done) | (cases h; exact ⟨rfl, rfl⟩)
theorem lq_cmp : lq_k am_cmp := by
  intro M L L' S q h
  unfold am_cmp at h ⊢
  split at h <;> first | (cases h; done) | (cases h; exact ⟨rfl, rfl⟩)
theorem lq_i2l : lq_k am_i2l := by
  intro M L L' S q h
  unfold am_i2l at h ⊢
  split at h <;> first | (cases h; done) | (cases h; exact ⟨rfl, rfl⟩)
theorem lq_l2i : lq_k am_l2i := by
  intro M L L' S q h
  unfold am_l2i at h ⊢
  split at h <;> first | (cases h; done) | (cases h; exact ⟨rfl, rfl⟩)
theorem lq_dup : lq_k am_dup := by
  intro M L L' S q h
  unfold am_dup at h ⊢
  split at h
  · simp only [Bool.cond_eq_ite] at h ⊢
    split at h
    · rename_i hc
      cases h
      exact ⟨rfl, by rw [if_pos hc]⟩
    · cases h
  · cases h
theorem lq_dp2 : lq_k am_dp2 := by
  intro M L L' S q h
  unfold am_dp2 at h ⊢
  split at h
  · simp only [Bool.cond_eq_ite] at h ⊢
    split at h
    · rename_i hc
      cases h
      exact ⟨rfl, by rw [if_pos hc]⟩
    · cases h
  · cases h
theorem lq_pop : lq_k am_pop1 := by
  intro M L L' S q h
  unfold am_pop1 at h ⊢
  split at h
  · simp only [Bool.cond_eq_ite] at h ⊢
    split at h
    · rename_i hc
      cases h
      exact ⟨rfl, by rw [if_pos hc]⟩
    · cases h
  · cases h
theorem lq_gf (c k w : Nat) : lq_k (am_gf c k w) := by
  intro M L L' S q h
  unfold am_gf at h ⊢
  split at h <;> first | (cases h; done) | (cases h; exact ⟨rfl, rfl⟩)
theorem lq_pf (c k w : Nat) : lq_k (am_pf c k w) := by
  intro M L L' S q h
  unfold am_pf at h ⊢
  simp only [Bool.cond_eq_ite] at h ⊢
  split at h
  · split at h
    · rename_i h1
      cases h
      exact ⟨rfl, by simp only [h1, if_true]⟩
    · rename_i h1
      split at h
      · rename_i h2
        cases h
        exact ⟨rfl, by simp only [h2, if_true]; rw [if_neg h1]⟩
      · cases h
  · split at h
    · rename_i h1
      cases h
      exact ⟨rfl, by simp only [h1, if_true]⟩
    · cases h
  · split at h
    · rename_i h1
      cases h
      exact ⟨rfl, by simp only [h1, if_true]⟩
    · cases h
  · cases h
theorem lq_ia (c : Nat) : lq_k (am_ia c) := by
  intro M L L' S q h
  unfold am_ia at h ⊢
  split at h <;> first | (cases h; done) | (cases h; exact ⟨rfl, rfl⟩)
theorem lq_aa (c : Nat) : lq_k (am_aa c) := by
  intro M L L' S q h
  unfold am_aa at h ⊢
  split at h <;> first | (cases h; done) | (cases h; exact ⟨rfl, rfl⟩)
theorem lq_is : lq_k am_is := by
  intro M L L' S q h
  unfold am_is at h ⊢
  split at h <;> first | (cases h; done) | (cases h; exact ⟨rfl, rfl⟩)
theorem lq_bs : lq_k am_bs := by
  intro M L L' S q h
  unfold am_bs at h ⊢
  split at h <;> first | (cases h; done) | (cases h; exact ⟨rfl, rfl⟩)
theorem lq_as (c y : Nat) : lq_k (am_as c y) := by
  intro M L L' S q h
  unfold am_as at h ⊢
  split at h <;> first | (cases h; done) | (cases h; exact ⟨rfl, rfl⟩)
theorem lq_al : lq_k am_al := by
  intro M L L' S q h
  unfold am_al at h ⊢
  split at h <;> first | (cases h; done) | (cases h; exact ⟨rfl, rfl⟩)
theorem lq_na (c : Nat) : lq_k (am_na c) := by
  intro M L L' S q h
  unfold am_na at h ⊢
  split at h <;> first | (cases h; done) | (cases h; exact ⟨rfl, rfl⟩)
theorem lq_no (c n : Nat) : lq_k (am_no c n) := by
  intro M L L' S q h
  cases h
  exact ⟨rfl, rfl⟩
theorem lq_oi (d : Nat) : lq_k (am_oi d) := by
  intro M L L' S q h
  unfold am_oi at h ⊢
  split at h <;> first | (cases h; done) | (cases h; exact ⟨rfl, rfl⟩)
theorem lq_cp (d : Nat) : lq_k (am_cp d) := by
  intro M L L' S q h
  unfold am_cp at h ⊢
  split at h <;> first | (cases h; done) | (cases h; exact ⟨rfl, rfl⟩)
theorem lq_ma (d w : Nat) : lq_k (am_ma d w) := by
  intro M L L' S q h
  unfold am_ma at h ⊢
  split at h <;> split at h <;> first | (cases h; done) | (cases h; exact ⟨rfl, rfl⟩)
theorem lq_go {f : am_M → am_L → List Value → am_Q} (hf : lq_k f) {M : am_M} {L L' : am_L} {S : List Value} {q : Bool × am_M × am_L × List Value} (hl : am_lq L L') (h : f M L S = some q) : ∃ L1, f M L' S = some (q.1, q.2.1, L1, q.2.2.2) ∧ am_lq q.2.2.1 L1 := by
  obtain ⟨h1, h2⟩ := hf M L L' S q h
  exact ⟨L', h2, by rw [h1]; exact hl⟩
theorem lq_ld {t x : Nat} {M : am_M} {L L' : am_L} {S : List Value} {q : Bool × am_M × am_L × List Value} (hl : am_lq L L') (h : am_ld t x M L S = some q) : ∃ L1, am_ld t x M L' S = some (q.1, q.2.1, L1, q.2.2.2) ∧ am_lq q.2.2.1 L1 := by
  unfold am_ld at h ⊢
  split at h
  · rename_i v hv
    rw [hl.2 _ _ hv]
    simp only [Bool.cond_eq_ite] at h ⊢
    split at h
    · rename_i hc
      cases h
      exact ⟨L', by rw [if_pos hc], hl⟩
    · cases h
  · cases h
theorem lq_so {t x : Nat} {M : am_M} {L L' : am_L} {S : List Value} {q : Bool × am_M × am_L × List Value} (hl : am_lq L L') (h : am_so t x M L S = some q) : ∃ L1, am_so t x M L' S = some (q.1, q.2.1, L1, q.2.2.2) ∧ am_lq q.2.2.1 L1 := by
  unfold am_so at h ⊢
  split at h
  · rw [← hl.1]
    simp only [Bool.cond_eq_ite] at h ⊢
    split at h
    · rename_i hc
      cases h
      exact ⟨_, by rw [if_pos hc]; rfl, lq_s (lq_c hl _) _ _⟩
    · cases h
  · cases h
theorem lq_so2 {x : Nat} {M : am_M} {L L' : am_L} {S : List Value} {q : Bool × am_M × am_L × List Value} (hl : am_lq L L') (h : am_so2 x M L S = some q) : ∃ L1, am_so2 x M L' S = some (q.1, q.2.1, L1, q.2.2.2) ∧ am_lq q.2.2.1 L1 := by
  unfold am_so2 at h ⊢
  split at h
  · rw [← hl.1]
    simp only [Bool.cond_eq_ite] at h ⊢
    split at h
    · rename_i hc
      cases h
      exact ⟨_, by rw [if_pos hc]; rfl, lq_s (lq_s (lq_c hl _) _ _) _ _⟩
    · cases h
  · cases h
theorem lq_inc {x : Nat} {n : Int32} {M : am_M} {L L' : am_L} {S : List Value} {q : Bool × am_M × am_L × List Value} (hl : am_lq L L') (h : am_inc x n M L S = some q) : ∃ L1, am_inc x n M L' S = some (q.1, q.2.1, L1, q.2.2.2) ∧ am_lq q.2.2.1 L1 := by
  unfold am_inc at h ⊢
  split at h
  · rename_i v hv
    rw [hl.2 _ _ hv]
    cases h
    exact ⟨_, rfl, lq_s (lq_c hl _) _ _⟩
  · cases h
theorem lq_s1 {d : Nat} {i : am_P} {M : am_M} {L L' : am_L} {S : List Value} {q : Bool × am_M × am_L × List Value} (hl : am_lq L L') (h : am_s1 d i M L S = some q) : ∃ L1, am_s1 d i M L' S = some (q.1, q.2.1, L1, q.2.2.2) ∧ am_lq q.2.2.1 L1 := by
  obtain ⟨ins, r⟩ := i
  cases ins <;> first | (cases h; done) | exact lq_ld hl h | exact lq_so hl h | exact lq_so2 hl h | exact lq_inc hl h | exact lq_go (lq_psh _) hl h | exact lq_go (lq_b2 _) hl h | exact lq_go (lq_d2 _) hl h | exact lq_go (lq_b1 _) hl h | exact lq_go (lq_l2 _) hl h | exact lq_go (lq_e2 _) hl h | exact lq_go lq_cmp hl h | exact lq_go lq_i2l hl h | exact lq_go lq_l2i hl h | exact lq_go lq_dup hl h | exact lq_go lq_dp2 hl h | exact lq_go lq_pop hl h | exact lq_go (lq_gf _ _ _) hl h | exact lq_go (lq_pf _ _ _) hl h | exact lq_go (lq_ia _) hl h | exact lq_go (lq_aa _) hl h | exact lq_go lq_is hl h | exact lq_go lq_bs hl h | exact lq_go (lq_as _ _) hl h | exact lq_go lq_al hl h | exact lq_go (lq_na _) hl h | exact lq_go (lq_no _ _) hl h | exact lq_go (lq_oi _) hl h | (obtain ⟨⟨a1, a2, a3, a4, a5, a6⟩, im, tb⟩ := r; cases a6 with | zero => exact lq_go (lq_cp _) hl h | succ w => exact lq_go (lq_ma _ _) hl h)
theorem am_ex_lq {d : Nat} {J : Nat → am_M → am_L → List Value → Option am_V} {C : Nat → am_M → List Value → Option am_V} (hJ : ∀ b M L L' S v, am_lq L L' → J b M L S = some v → J b M L' S = some v) : ∀ (is : List am_P) (f : Bool) (M : am_M) (L L' : am_L) (S : List Value) (v : am_V), am_lq L L' → am_ex d J C is f M L S = some v → am_ex d J C is f M L' S = some v := by
  intro is
  induction is with
  | nil => intro f M L L' S v hl h; cases h
  | cons i is ih =>
    intro f M L L' S v hl h
    rw [am_ex_cons] at h ⊢
    unfold am_st at h ⊢
    generalize am_srt i = s at h ⊢
    rcases s with _ | _ | _ | s
    · unfold am_sS at h ⊢
      cases hq : am_s1 d i M L S with
      | none => rw [hq] at h; cases h
      | some q =>
        rw [hq] at h
        obtain ⟨L1, e1, e2⟩ := lq_s1 hl hq
        rw [e1]
        exact ih _ _ _ _ _ _ e2 h
    · unfold am_sS at h ⊢
      cases hq : am_s2 i S with
      | none => rw [hq] at h; cases h
      | some q =>
        rw [hq] at h
        cases f with
        | false => cases h
        | true => exact hJ _ _ _ _ _ _ hl h
    · unfold am_sS at h ⊢
      cases hq : am_s3 i M S with
      | none => rw [hq] at h; cases h
      | some q =>
        rw [hq] at h
        simp only [Option.bind_some] at h ⊢
        cases hf : (q.1 && f) with
        | false => rw [hf] at h; cases h
        | true =>
          rw [hf] at h
          simp only [cond_true] at h ⊢
          cases hc : C (am_x i) M q.2.1 with
          | none => rw [hc] at h; cases h
          | some r =>
            rw [hc] at h
            exact hJ _ _ _ _ _ _ hl h
    · exact h
theorem am_run_lq : ∀ (n d m b : Nat) (M : am_M) (L L' : am_L) (S : List Value) (v : am_V), am_lq L L' → am_run n d m b M L S = some v → am_run n d m b M L' S = some v := by
  intro n
  induction n with
  | zero => intro d m b M L L' S v hl h; cases h
  | succ n ih =>
    intro d m b M L L' S v hl h
    rw [am_run] at h ⊢
    exact am_ex_lq (J := fun b' M' L' S' => am_run n d m b' M' L' S') (fun b M L L' S v hl h => ih d m b M L L' S v hl h) _ _ _ _ _ _ _ hl h
theorem am_R_lq {d m b : Nat} {M : am_M} {L L' : am_L} {S : List Value} {v : am_V} (hl : am_lq L L') (h : am_R d m b M L S = some v) : am_R d m b M L' S = some v := by
  obtain ⟨n, hn⟩ := am_R_some h
  exact am_R_of (am_run_lq n d m b M L L' S v hl hn)
/-! what a run comes to -/
def wp (r : Option am_V) (Q : Option Value → am_M → Prop) : Prop := ∃ v M, r = some (v, M) ∧ Q v M
theorem wp_r {v : Option Value} {M : am_M} {Q : Option Value → am_M → Prop} (h : Q v M) : wp (some (v, M)) Q := ⟨v, M, rfl, h⟩
theorem wp_b {r : Option am_V} {f : am_V → Option am_V} {Q Q' : Option Value → am_M → Prop} (h : wp r Q') (k : ∀ v M, Q' v M → wp (f (v, M)) Q) : wp (r.bind f) Q := by
  obtain ⟨v, M, rfl, hq⟩ := h
  exact k v M hq
theorem wp_p {r : Option am_V} {f : am_V → Option am_V} {Q : Option Value → am_M → Prop} {v : Option Value} {M : am_M} (h : r = some (v, M)) (k : wp (f (v, M)) Q) : wp (r.bind f) Q := by
  rw [h]
  exact k
theorem wp_c {b : Bool} {r : Option am_V} {Q : Option Value → am_M → Prop} (h : b = true) (k : wp r Q) : wp (cond b r none) Q := by
  rw [h]
  exact k
theorem wp_e {r r' : Option am_V} {Q : Option Value → am_M → Prop} (h : r = r') (k : wp r' Q) : wp r Q := by
  rw [h]
  exact k
theorem wp_i {c : Prop} [Decidable c] {d m a b : Nat} {M : am_M} {L : am_L} {S : List Value} {Q : Option Value → am_M → Prop} (h1 : c → wp (am_R d m a M L S) Q) (h2 : ¬ c → wp (am_R d m b M L S) Q) : wp (am_R d m (if c then a else b) M L S) Q := by
  split
  · exact h1 ‹_›
  · exact h2 ‹_›
theorem wp_t {c : Prop} [Decidable c] {d m a b : Nat} {M : am_M} {L : am_L} {S : List Value} {Q : Option Value → am_M → Prop} (h : c) (k : wp (am_R d m a M L S) Q) : wp (am_R d m (if c then a else b) M L S) Q := by
  rw [if_pos h]
  exact k
theorem wp_f {c : Prop} [Decidable c] {d m a b : Nat} {M : am_M} {L : am_L} {S : List Value} {Q : Option Value → am_M → Prop} (h : ¬ c) (k : wp (am_R d m b M L S) Q) : wp (am_R d m (if c then a else b) M L S) Q := by
  rw [if_neg h]
  exact k
theorem wp_m {r : Option am_V} {Q Q' : Option Value → am_M → Prop} (h : wp r Q') (k : ∀ v M, Q' v M → Q v M) : wp r Q := by
  obtain ⟨v, M, e, hq⟩ := h
  exact ⟨v, M, e, k v M hq⟩
theorem wp_l {d m b : Nat} {M : am_M} {L L' : am_L} {S : List Value} {Q : Option Value → am_M → Prop} (hl : am_lq L L') (k : wp (am_R d m b M L S) Q) : wp (am_R d m b M L' S) Q := by
  obtain ⟨v, M, e, hq⟩ := k
  exact ⟨v, M, am_R_lq hl e, hq⟩
theorem wp_eq {r : Option am_V} {v : Option Value} {M : am_M} (h : wp r (fun v' M' => v' = v ∧ M' = M)) : r = some (v, M) := by
  obtain ⟨v', M', e, rfl, rfl⟩ := h
  exact e
/-- a loop -/
theorem wp_loop {σ : Type} (n : Nat) (P : Nat → σ → Prop) (W : Nat → σ → Prop) (hx : ∀ s, P n s → W n s) (hs : ∀ i s, i < n → P i s → (∀ s', P (i + 1) s' → W (i + 1) s') → W i s) : ∀ i s, i ≤ n → P i s → W i s := by
  intro i
  generalize hk : n - i = k
  induction k generalizing i with
  | zero =>
    intro s hi hp
    have e : i = n := by omega
    subst e
    exact hx s hp
  | succ k ih =>
    intro s hi hp
    exact hs i s (by omega) hp (fun s' hp' => ih (i + 1) (by omega) s' (by omega) hp')
/-! numbers -/
def bI (p : Prop) [Decidable p] : Int32 := if p then 1 else 0
theorem bI_and {p : Prop} [Decidable p] : bI p &&& 1 = bI p := by
  unfold bI
  split <;> rfl
theorem bI_0 {p : Prop} [Decidable p] : bI p = 0 ↔ ¬ p := by
  unfold bI
  by_cases h : p <;> simp [h]
theorem bI_t {p : Prop} [Decidable p] (h : p) : bI p = 1 := if_pos h
theorem bI_f {p : Prop} [Decidable p] (h : ¬ p) : bI p = 0 := if_neg h
theorem bI_c {p q : Prop} [Decidable p] [Decidable q] (h : p ↔ q) : bI p = bI q := by
  unfold bI
  by_cases hp : p
  · rw [if_pos hp, if_pos (h.mp hp)]
  · rw [if_neg hp, if_neg (fun e => hp (h.mpr e))]
theorem ib {n N : Nat} (h : n < N) (hN : N < 2 ^ 31) : am_inb (nI n) N = true := decide_eq_true (nI_in h hN)
theorem u2_s {α : Type} (f : Nat → Nat → α) (a k : Nat) (v : α) : am_u2 f a k v a k = v := by simp [am_u2]
theorem u2_k {α : Type} (f : Nat → Nat → α) (a k x : Nat) (v : α) : am_u2 f a k v a x = if x = k then v else f a x := by simp [am_u2]
theorem u2_a {α : Type} {f : Nat → Nat → α} {a k x : Nat} {v : α} (h : x ≠ a) : am_u2 f a k v x = f x := by
  funext y
  simp [am_u2, h]
theorem u1_s {α : Type} (f : Nat → Nat → α) (a : Nat) (g : Nat → α) : am_u1 f a g a = g := by
  funext y
  simp [am_u1]
theorem u1_a {α : Type} {f : Nat → Nat → α} {a x : Nat} {g : Nat → α} (h : x ≠ a) : am_u1 f a g x = f x := by
  funext y
  simp [am_u1, h]
theorem u2_u1 {α : Type} (f : Nat → Nat → α) (a k : Nat) (v : α) (g : Nat → α) : am_u2 (am_u1 f a g) a k v = am_u1 f a (fun y => if y = k then v else g y) := by
  funext x y
  simp only [am_u2, am_u1]
  by_cases h : x = a <;> by_cases h2 : y = k <;> simp [h, h2]
theorem u1_id {α : Type} (f : Nat → Nat → α) (a : Nat) : am_u1 f a (f a) = f := by
  funext x y
  simp only [am_u1]
  split
  · rename_i h; rw [h]
  · rfl
theorem u2_as1 {α : Type} (f : Nat → Nat → α) (a k : Nat) (v : α) : am_u2 f a k v = am_u1 f a (fun y => if y = k then v else f a y) := by
  funext x y
  simp only [am_u2, am_u1]
  by_cases h : x = a <;> by_cases h2 : y = k <;> simp [h, h2]
/-- only these cells may have changed -/
def fr (S : List Nat) (I I' : Nat → Nat → Int32) : Prop := ∀ a, a ∉ S → I' a = I a
theorem fr_r (S : List Nat) (I : Nat → Nat → Int32) : fr S I I := fun _ _ => rfl
theorem fr_t {S : List Nat} {I I' I'' : Nat → Nat → Int32} (h : fr S I I') (h2 : fr S I' I'') : fr S I I'' := fun a ha => (h2 a ha).trans (h a ha)
theorem fr_m {S T : List Nat} {I I' : Nat → Nat → Int32} (h : fr S I I') (hs : ∀ a, a ∈ S → a ∈ T) : fr T I I' := fun a ha => h a (fun e => ha (hs a e))
theorem fr_2 {S : List Nat} {I : Nat → Nat → Int32} {a k : Nat} {v : Int32} (h : a ∈ S) : fr S I (am_u2 I a k v) := fun x hx => u2_a (fun e => hx (e ▸ h))
theorem fr_1 {S : List Nat} {I : Nat → Nat → Int32} {a : Nat} {g : Nat → Int32} (h : a ∈ S) : fr S I (am_u1 I a g) := fun x hx => u1_a (fun e => hx (e ▸ h))
/-- the cell a is a row of n ints -/
def rw20 (L : Nat) (ext : List (Nat × Nat)) (a n : Nat) : Prop := (am_S0 L ++ ext)[a]? = some (20, n)
section B1
variable {d L : Nat} {ext : List (Nat × Nat)} {tx : Nat → Nat} {tt : Nat} {fe : Nat → Nat → Option Nat} {I : Nat → Nat → Int32} {G : Nat → Nat → Int64}
theorem kd_of {a c n : Nat} (h : (am_S0 L ++ ext)[a]? = some (c, n)) {F : Nat → Nat → Option Nat} : am_kd (am_S0 L ++ ext, I, F, G) a c = true := by
  unfold am_kd
  show (match (am_S0 L ++ ext)[a]? with | some q => Nat.beq q.1 c | none => false) = true
  rw [h]
  exact Nat.beq_refl c
theorem ln_of {a c n : Nat} (h : (am_S0 L ++ ext)[a]? = some (c, n)) {F : Nat → Nat → Option Nat} : am_ln (am_S0 L ++ ext, I, F, G) a = n := by
  unfold am_ln
  show (match (am_S0 L ++ ext)[a]? with | some q => q.2 | none => 0) = n
  rw [h]
theorem Fx_tt {r : Nat} : am_u2 (am_Fx tx tt fe) 42 2 (some r) = am_Fx tx r fe := by
  funext a k
  by_cases ha : a = 42
  · subst ha
    rw [u2_k]
    match k with
    | 0 => rfl
    | 1 => rfl
    | 2 => rfl
    | k + 3 => rfl
  · rw [u2_a ha]
    have e : am_F0 tx r = (am_F0 tx tt).set 42 (fun k => match k with | 0 => some 43 | 1 => some 44 | 2 => some r | _ => none) := rfl
    unfold am_Fx
    rw [e, List.getElem?_set_ne (Ne.symm ha)]
end B1
