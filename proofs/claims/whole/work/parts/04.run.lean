/-! THE RUN. Fuel n counts blocks, d the calls that may stand open. -/
noncomputable def am_isV (v : Value) : Bool := am_isT 0 v || (am_isT 1 v || am_isT 2 v)
/-- what a call hands over fits -/
noncomputable def am_okA (y : Nat) (as : List Value) : Bool := Nat.ble (am_sl as).length (am_mx y) && as.all am_isV
noncomputable def am_run : Nat → Nat → Nat → Nat → am_M → am_L → List Value → Option am_V
  | 0, _, _, _, _, _, _ => none
  | n + 1, d, m, b, M, L, S => am_ex d (fun b' M' L' S' => am_run n d m b' M' L' S') (fun y M' as => match d with | 0 => none | e + 1 => cond (am_okA y as) (am_run n e y 0 M' (am_in (am_mx y) as) []) none) (am_blk m b) true M L S
theorem am_ex_cons (d : Nat) (J : Nat → am_M → am_L → List Value → Option am_V) (C : Nat → am_M → List Value → Option am_V) (i : am_P) (is : List am_P) : am_ex d J C (i :: is) = am_st d J C i (am_ex d J C is) := rfl
theorem am_ex_nil (d : Nat) (J : Nat → am_M → am_L → List Value → Option am_V) (C : Nat → am_M → List Value → Option am_V) (f : Bool) (M : am_M) (L : am_L) (S : List Value) : am_ex d J C [] f M L S = none := rfl
/-- more answers behind, more answers ahead -/
theorem am_ex_mono {d : Nat} {J J' : Nat → am_M → am_L → List Value → Option am_V} {C C' : Nat → am_M → List Value → Option am_V} (hJ : ∀ b M L S v, J b M L S = some v → J' b M L S = some v) (hC : ∀ y M as v, C y M as = some v → C' y M as = some v) : ∀ (is : List am_P) (f : Bool) (M : am_M) (L : am_L) (S : List Value) (v : am_V), am_ex d J C is f M L S = some v → am_ex d J' C' is f M L S = some v := by
  intro is
  induction is with
  | nil => intro f M L S v h; exact h
  | cons i is ih =>
    intro f M L S v h
    rw [am_ex_cons] at h ⊢
    unfold am_st at h ⊢
    generalize am_srt i = s at h ⊢
    rcases s with _ | _ | _ | s
    · unfold am_sS at h ⊢
      cases hq : am_s1 d i M L S with
      | none => rw [hq] at h; cases h
      | some q => rw [hq] at h; exact ih _ _ _ _ _ h
    · unfold am_sS at h ⊢
      cases hq : am_s2 i S with
      | none => rw [hq] at h; cases h
      | some q =>
        rw [hq] at h
        cases f with
        | false => cases h
        | true => exact hJ _ _ _ _ _ h
    · unfold am_sS at h ⊢
      cases hq : am_s3 i M S with
      | none => rw [hq] at h; cases h
      | some q =>
        rw [hq] at h
        simp only [Option.bind_some] at h ⊢
        cases hf : (q.1 && f) with
        | false => rw [hf] at h; cases h
        | true =>
          rw [hf] at h
          simp only [cond_true] at h ⊢
          cases hc : C (am_x i) M q.2.1 with
          | none => rw [hc] at h; cases h
          | some r =>
            rw [hc] at h
            rw [hC _ _ _ _ hc]
            exact hJ _ _ _ _ _ h
    · exact h
theorem am_run_mono1 : ∀ (n d m b : Nat) (M : am_M) (L : am_L) (S : List Value) (v : am_V), am_run n d m b M L S = some v → am_run (n + 1) d m b M L S = some v := by
  intro n
  induction n with
  | zero => intro d m b M L S v h; cases h
  | succ n ih =>
    intro d m b M L S v h
    rw [am_run] at h ⊢
    refine am_ex_mono (fun b M L S v h => ih _ _ _ _ _ _ _ h) (fun y M as v h => ?_) _ _ _ _ _ _ h
    cases d with
    | zero => cases h
    | succ e =>
      cases hk : am_okA y as with
      | false => simp only [hk, cond_false] at h; cases h
      | true =>
        simp only [hk, cond_true] at h ⊢
        exact ih _ _ _ _ _ _ _ h
theorem am_run_mono {n n' : Nat} (hn : n ≤ n') {d m b : Nat} {M : am_M} {L : am_L} {S : List Value} {v : am_V} (h : am_run n d m b M L S = some v) : am_run n' d m b M L S = some v := by
  induction hn with
  | refl => exact h
  | step _ ih => exact am_run_mono1 _ _ _ _ _ _ _ _ ih
noncomputable def am_R (d m b : Nat) (M : am_M) (L : am_L) (S : List Value) : Option am_V := Classical.epsilon (fun o => (∃ n, am_run n d m b M L S = o ∧ o.isSome) ∨ (o = none ∧ ∀ n, am_run n d m b M L S = none))
theorem am_R_spec (d m b : Nat) (M : am_M) (L : am_L) (S : List Value) : (∃ n, am_run n d m b M L S = am_R d m b M L S ∧ (am_R d m b M L S).isSome) ∨ (am_R d m b M L S = none ∧ ∀ n, am_run n d m b M L S = none) := by
  refine Classical.epsilon_spec (p := fun o => (∃ n, am_run n d m b M L S = o ∧ o.isSome) ∨ (o = none ∧ ∀ n, am_run n d m b M L S = none)) ?_
  by_cases h : ∃ n, (am_run n d m b M L S).isSome
  · obtain ⟨n, hn⟩ := h
    exact ⟨_, Or.inl ⟨n, rfl, hn⟩⟩
  · refine ⟨none, Or.inr ⟨rfl, fun n => ?_⟩⟩
    cases hr : am_run n d m b M L S with
    | none => rfl
    | some v => exact absurd ⟨n, by rw [hr]; rfl⟩ h
theorem am_R_some {d m b : Nat} {M : am_M} {L : am_L} {S : List Value} {v : am_V} (h : am_R d m b M L S = some v) : ∃ n, am_run n d m b M L S = some v := by
  rcases am_R_spec d m b M L S with ⟨n, h1, -⟩ | ⟨h1, -⟩
  · exact ⟨n, h1.trans h⟩
  · rw [h] at h1; cases h1
theorem am_R_of {n d m b : Nat} {M : am_M} {L : am_L} {S : List Value} {v : am_V} (h : am_run n d m b M L S = some v) : am_R d m b M L S = some v := by
  rcases am_R_spec d m b M L S with ⟨k, h1, h2⟩ | ⟨-, h1⟩
  · cases hr : am_R d m b M L S with
    | none => rw [hr] at h2; cases h2
    | some w =>
      rw [hr] at h1
      have e1 := am_run_mono (Nat.le_max_left n k) h
      have e2 := am_run_mono (Nat.le_max_right n k) h1
      rw [e1] at e2
      exact e2.symm
  · rw [h1 n] at h; cases h
/-- what a call answers -/
noncomputable def am_C (d y : Nat) (M : am_M) (as : List Value) : Option am_V := match d with
  | 0 => none
  | e + 1 => cond (am_okA y as) (am_R e y 0 M (am_in (am_mx y) as) []) none
/-- finitely many answers behind an answer: one fuel for all of them -/
theorem am_ex_fin {d m : Nat} : ∀ (is : List am_P) (f : Bool) (M : am_M) (L : am_L) (S : List Value) (v : am_V), am_ex d (am_R d m) (am_C d) is f M L S = some v → ∃ n, am_ex d (fun b' M' L' S' => am_run n d m b' M' L' S') (fun y M' as => match d with | 0 => none | e + 1 => cond (am_okA y as) (am_run n e y 0 M' (am_in (am_mx y) as) []) none) is f M L S = some v := by
  intro is
  induction is with
  | nil => intro f M L S v h; cases h
  | cons i is ih =>
    intro f M L S v h
    rw [am_ex_cons] at h
    simp only [am_ex_cons]
    unfold am_st at h ⊢
    generalize am_srt i = s at h ⊢
    rcases s with _ | _ | _ | s
    · unfold am_sS at h ⊢
      cases hq : am_s1 d i M L S with
      | none => rw [hq] at h; cases h
      | some q => rw [hq] at h; exact ih _ _ _ _ _ h
    · unfold am_sS at h ⊢
      cases hq : am_s2 i S with
      | none => rw [hq] at h; cases h
      | some q =>
        rw [hq] at h
        cases f with
        | false => cases h
        | true => exact am_R_some h
    · unfold am_sS at h ⊢
      cases hq : am_s3 i M S with
      | none => rw [hq] at h; cases h
      | some q =>
        rw [hq] at h
        simp only [Option.bind_some] at h ⊢
        cases hf : (q.1 && f) with
        | false => rw [hf] at h; cases h
        | true =>
          rw [hf] at h
          simp only [cond_true] at h ⊢
          cases hc : am_C d (am_x i) M q.2.1 with
          | none => rw [hc] at h; cases h
          | some r =>
            rw [hc] at h
            obtain ⟨n2, h2⟩ := am_R_some h
            cases d with
            | zero => cases hc
            | succ e =>
              cases hk : am_okA (am_x i) q.2.1 with
              | false => simp only [am_C, hk, cond_false] at hc; cases hc
              | true =>
                simp only [am_C, hk, cond_true] at hc
                obtain ⟨n1, h1⟩ := am_R_some hc
                refine ⟨max n1 n2, ?_⟩
                simp only [hk, cond_true, am_run_mono (Nat.le_max_left n1 n2) h1, Option.bind_some]
                exact am_run_mono (Nat.le_max_right n1 n2) h2
    · exact ⟨0, h⟩
/-- THE EQUATION OF A BLOCK -/
theorem am_R_eq (d m b : Nat) (M : am_M) (L : am_L) (S : List Value) : am_R d m b M L S = am_ex d (am_R d m) (am_C d) (am_blk m b) true M L S := by
  cases hr : am_ex d (am_R d m) (am_C d) (am_blk m b) true M L S with
  | some v =>
    obtain ⟨n, hn⟩ := am_ex_fin _ _ _ _ _ _ hr
    exact am_R_of (n := n + 1) (by rw [am_run]; exact hn)
  | none =>
    cases h : am_R d m b M L S with
    | none => rfl
    | some v =>
      obtain ⟨n, hn⟩ := am_R_some h
      cases n with
      | zero => cases hn
      | succ n =>
        rw [am_run] at hn
        have := am_ex_mono (J' := am_R d m) (C' := am_C d) (fun b M L S v h => am_R_of h) (fun y M as v h => by
          cases d with
          | zero => cases h
          | succ e =>
            cases hk : am_okA y as with
            | false => simp only [hk, cond_false] at h; cases h
            | true =>
              simp only [am_C, hk, cond_true] at h ⊢
              exact am_R_of h) _ _ _ _ _ _ hn
        rw [hr] at this
        cases this
theorem am_R_b {m b : Nat} {is : List am_P} (h : am_blk m b = is) (d : Nat) (M : am_M) (L : am_L) (S : List Value) : am_R d m b M L S = am_ex d (am_R d m) (am_C d) is true M L S := by rw [am_R_eq, h]
