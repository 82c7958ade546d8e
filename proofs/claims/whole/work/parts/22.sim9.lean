/-! THE SIMULATION, 9: memories grow; a failed check stays failed; jumps -/
def gr_ (M M1 : am_M) : Prop := M.1.length ≤ M1.1.length ∧ am_sz M ≤ am_sz M1
theorem gr_same {M M1 : am_M} (h : M1.1 = M.1) : gr_ M M1 := ⟨by rw [h]; exact Nat.le_refl _, by unfold am_sz; rw [h]; exact Nat.le_refl _⟩
theorem gr_nw (c n : Nat) (M : am_M) : gr_ M (am_nw c n M) := by
  refine ⟨?_, ?_⟩
  · show _ ≤ (M.1 ++ [(c, n)]).length
    rw [List.length_append]
    omega
  · unfold am_sz
    show _ ≤ ((M.1 ++ [(c, n)]).map (fun q => q.2)).sum
    rw [List.map_append, List.sum_append]
    omega
theorem gr_trans {A B C : am_M} (h : gr_ A B) (h2 : gr_ B C) : gr_ A C := ⟨Nat.le_trans h.1 h2.1, Nat.le_trans h.2 h2.2⟩
theorem gr_ld {t x : Nat}  {M : am_M} {L : am_L} {S : List Value} {q : Bool × am_M × am_L × List Value} (h : am_ld t x M L S = some q) : gr_ M q.2.1 := by
  unfold am_ld at h
  (try simp only [cond_eq_ite] at h)
  repeat' split at h
  all_goals first | (cases h; exact gr_same rfl) | (cases h; exact gr_nw _ _ _) | cases h
theorem gr_so {t x : Nat}  {M : am_M} {L : am_L} {S : List Value} {q : Bool × am_M × am_L × List Value} (h : am_so t x M L S = some q) : gr_ M q.2.1 := by
  unfold am_so at h
  (try simp only [cond_eq_ite] at h)
  repeat' split at h
  all_goals first | (cases h; exact gr_same rfl) | (cases h; exact gr_nw _ _ _) | cases h
theorem gr_so2 {x : Nat}  {M : am_M} {L : am_L} {S : List Value} {q : Bool × am_M × am_L × List Value} (h : am_so2 x M L S = some q) : gr_ M q.2.1 := by
  unfold am_so2 at h
  (try simp only [cond_eq_ite] at h)
  repeat' split at h
  all_goals first | (cases h; exact gr_same rfl) | (cases h; exact gr_nw _ _ _) | cases h
theorem gr_inc {x : Nat} {z : Int32} {M : am_M} {L : am_L} {S : List Value} {q : Bool × am_M × am_L × List Value} (h : am_inc x z M L S = some q) : gr_ M q.2.1 := by
  unfold am_inc at h
  (try simp only [cond_eq_ite] at h)
  repeat' split at h
  all_goals first | (cases h; exact gr_same rfl) | (cases h; exact gr_nw _ _ _) | cases h
theorem gr_psh  {v : Value} {M : am_M} {L : am_L} {S : List Value} {q : Bool × am_M × am_L × List Value} (h : am_psh v M L S = some q) : gr_ M q.2.1 := by
  unfold am_psh at h
  (try simp only [cond_eq_ite] at h)
  repeat' split at h
  all_goals first | (cases h; exact gr_same rfl) | (cases h; exact gr_nw _ _ _) | cases h
theorem gr_b2  {g : Int32 → Int32 → Int32} {M : am_M} {L : am_L} {S : List Value} {q : Bool × am_M × am_L × List Value} (h : am_b2 g M L S = some q) : gr_ M q.2.1 := by
  unfold am_b2 at h
  (try simp only [cond_eq_ite] at h)
  repeat' split at h
  all_goals first | (cases h; exact gr_same rfl) | (cases h; exact gr_nw _ _ _) | cases h
theorem gr_d2  {g : Int32 → Int32 → Int32} {M : am_M} {L : am_L} {S : List Value} {q : Bool × am_M × am_L × List Value} (h : am_d2 g M L S = some q) : gr_ M q.2.1 := by
  unfold am_d2 at h
  (try simp only [cond_eq_ite] at h)
  repeat' split at h
  all_goals first | (cases h; exact gr_same rfl) | (cases h; exact gr_nw _ _ _) | cases h
theorem gr_b1  {g : Int32 → Int32} {M : am_M} {L : am_L} {S : List Value} {q : Bool × am_M × am_L × List Value} (h : am_b1 g M L S = some q) : gr_ M q.2.1 := by
  unfold am_b1 at h
  (try simp only [cond_eq_ite] at h)
  repeat' split at h
  all_goals first | (cases h; exact gr_same rfl) | (cases h; exact gr_nw _ _ _) | cases h
theorem gr_l2  {g : Int64 → Int64 → Int64} {M : am_M} {L : am_L} {S : List Value} {q : Bool × am_M × am_L × List Value} (h : am_l2 g M L S = some q) : gr_ M q.2.1 := by
  unfold am_l2 at h
  (try simp only [cond_eq_ite] at h)
  repeat' split at h
  all_goals first | (cases h; exact gr_same rfl) | (cases h; exact gr_nw _ _ _) | cases h
theorem gr_e2  {g : Int64 → Int64 → Int64} {M : am_M} {L : am_L} {S : List Value} {q : Bool × am_M × am_L × List Value} (h : am_e2 g M L S = some q) : gr_ M q.2.1 := by
  unfold am_e2 at h
  (try simp only [cond_eq_ite] at h)
  repeat' split at h
  all_goals first | (cases h; exact gr_same rfl) | (cases h; exact gr_nw _ _ _) | cases h
theorem gr_cmp   {M : am_M} {L : am_L} {S : List Value} {q : Bool × am_M × am_L × List Value} (h : am_cmp  M L S = some q) : gr_ M q.2.1 := by
  unfold am_cmp at h
  (try simp only [cond_eq_ite] at h)
  repeat' split at h
  all_goals first | (cases h; exact gr_same rfl) | (cases h; exact gr_nw _ _ _) | cases h
theorem gr_i2l   {M : am_M} {L : am_L} {S : List Value} {q : Bool × am_M × am_L × List Value} (h : am_i2l  M L S = some q) : gr_ M q.2.1 := by
  unfold am_i2l at h
  (try simp only [cond_eq_ite] at h)
  repeat' split at h
  all_goals first | (cases h; exact gr_same rfl) | (cases h; exact gr_nw _ _ _) | cases h
theorem gr_l2i   {M : am_M} {L : am_L} {S : List Value} {q : Bool × am_M × am_L × List Value} (h : am_l2i  M L S = some q) : gr_ M q.2.1 := by
  unfold am_l2i at h
  (try simp only [cond_eq_ite] at h)
  repeat' split at h
  all_goals first | (cases h; exact gr_same rfl) | (cases h; exact gr_nw _ _ _) | cases h
theorem gr_dup   {M : am_M} {L : am_L} {S : List Value} {q : Bool × am_M × am_L × List Value} (h : am_dup  M L S = some q) : gr_ M q.2.1 := by
  unfold am_dup at h
  (try simp only [cond_eq_ite] at h)
  repeat' split at h
  all_goals first | (cases h; exact gr_same rfl) | (cases h; exact gr_nw _ _ _) | cases h
theorem gr_dp2   {M : am_M} {L : am_L} {S : List Value} {q : Bool × am_M × am_L × List Value} (h : am_dp2  M L S = some q) : gr_ M q.2.1 := by
  unfold am_dp2 at h
  (try simp only [cond_eq_ite] at h)
  repeat' split at h
  all_goals first | (cases h; exact gr_same rfl) | (cases h; exact gr_nw _ _ _) | cases h
theorem gr_pop1   {M : am_M} {L : am_L} {S : List Value} {q : Bool × am_M × am_L × List Value} (h : am_pop1  M L S = some q) : gr_ M q.2.1 := by
  unfold am_pop1 at h
  (try simp only [cond_eq_ite] at h)
  repeat' split at h
  all_goals first | (cases h; exact gr_same rfl) | (cases h; exact gr_nw _ _ _) | cases h
theorem gr_gf {c k w : Nat}  {M : am_M} {L : am_L} {S : List Value} {q : Bool × am_M × am_L × List Value} (h : am_gf c k w M L S = some q) : gr_ M q.2.1 := by
  unfold am_gf at h
  (try simp only [cond_eq_ite] at h)
  repeat' split at h
  all_goals first | (cases h; exact gr_same rfl) | (cases h; exact gr_nw _ _ _) | cases h
theorem gr_pf {c k w : Nat}  {M : am_M} {L : am_L} {S : List Value} {q : Bool × am_M × am_L × List Value} (h : am_pf c k w M L S = some q) : gr_ M q.2.1 := by
  unfold am_pf at h
  (try simp only [cond_eq_ite] at h)
  repeat' split at h
  all_goals first | (cases h; exact gr_same rfl) | (cases h; exact gr_nw _ _ _) | cases h
theorem gr_ia {c : Nat}  {M : am_M} {L : am_L} {S : List Value} {q : Bool × am_M × am_L × List Value} (h : am_ia c M L S = some q) : gr_ M q.2.1 := by
  unfold am_ia at h
  (try simp only [cond_eq_ite] at h)
  repeat' split at h
  all_goals first | (cases h; exact gr_same rfl) | (cases h; exact gr_nw _ _ _) | cases h
theorem gr_aa {c : Nat}  {M : am_M} {L : am_L} {S : List Value} {q : Bool × am_M × am_L × List Value} (h : am_aa c M L S = some q) : gr_ M q.2.1 := by
  unfold am_aa at h
  (try simp only [cond_eq_ite] at h)
  repeat' split at h
  all_goals first | (cases h; exact gr_same rfl) | (cases h; exact gr_nw _ _ _) | cases h
theorem gr_is   {M : am_M} {L : am_L} {S : List Value} {q : Bool × am_M × am_L × List Value} (h : am_is  M L S = some q) : gr_ M q.2.1 := by
  unfold am_is at h
  (try simp only [cond_eq_ite] at h)
  repeat' split at h
  all_goals first | (cases h; exact gr_same rfl) | (cases h; exact gr_nw _ _ _) | cases h
theorem gr_bs   {M : am_M} {L : am_L} {S : List Value} {q : Bool × am_M × am_L × List Value} (h : am_bs  M L S = some q) : gr_ M q.2.1 := by
  unfold am_bs at h
  (try simp only [cond_eq_ite] at h)
  repeat' split at h
  all_goals first | (cases h; exact gr_same rfl) | (cases h; exact gr_nw _ _ _) | cases h
theorem gr_as {c y : Nat}  {M : am_M} {L : am_L} {S : List Value} {q : Bool × am_M × am_L × List Value} (h : am_as c y M L S = some q) : gr_ M q.2.1 := by
  unfold am_as at h
  (try simp only [cond_eq_ite] at h)
  repeat' split at h
  all_goals first | (cases h; exact gr_same rfl) | (cases h; exact gr_nw _ _ _) | cases h
theorem gr_al   {M : am_M} {L : am_L} {S : List Value} {q : Bool × am_M × am_L × List Value} (h : am_al  M L S = some q) : gr_ M q.2.1 := by
  unfold am_al at h
  (try simp only [cond_eq_ite] at h)
  repeat' split at h
  all_goals first | (cases h; exact gr_same rfl) | (cases h; exact gr_nw _ _ _) | cases h
theorem gr_na {c : Nat}  {M : am_M} {L : am_L} {S : List Value} {q : Bool × am_M × am_L × List Value} (h : am_na c M L S = some q) : gr_ M q.2.1 := by
  unfold am_na at h
  (try simp only [cond_eq_ite] at h)
  repeat' split at h
  all_goals first | (cases h; exact gr_same rfl) | (cases h; exact gr_nw _ _ _) | cases h
theorem gr_no {c n : Nat}  {M : am_M} {L : am_L} {S : List Value} {q : Bool × am_M × am_L × List Value} (h : am_no c n M L S = some q) : gr_ M q.2.1 := by
  unfold am_no at h
  (try simp only [cond_eq_ite] at h)
  repeat' split at h
  all_goals first | (cases h; exact gr_same rfl) | (cases h; exact gr_nw _ _ _) | cases h
theorem gr_oi {d : Nat}  {M : am_M} {L : am_L} {S : List Value} {q : Bool × am_M × am_L × List Value} (h : am_oi d M L S = some q) : gr_ M q.2.1 := by
  unfold am_oi at h
  (try simp only [cond_eq_ite] at h)
  repeat' split at h
  all_goals first | (cases h; exact gr_same rfl) | (cases h; exact gr_nw _ _ _) | cases h
theorem gr_cp {d : Nat}  {M : am_M} {L : am_L} {S : List Value} {q : Bool × am_M × am_L × List Value} (h : am_cp d M L S = some q) : gr_ M q.2.1 := by
  unfold am_cp at h
  (try simp only [cond_eq_ite] at h)
  repeat' split at h
  all_goals first | (cases h; exact gr_same rfl) | (cases h; exact gr_nw _ _ _) | cases h
theorem gr_ma {d w : Nat}  {M : am_M} {L : am_L} {S : List Value} {q : Bool × am_M × am_L × List Value} (h : am_ma d w M L S = some q) : gr_ M q.2.1 := by
  unfold am_ma at h
  (try simp only [cond_eq_ite] at h)
  repeat' split at h
  all_goals first | (cases h; exact gr_same rfl) | (cases h; exact gr_nw _ _ _) | cases h
theorem gr_s1 {d : Nat} {i : am_P} {M : am_M} {L : am_L} {S : List Value} {q : Bool × am_M × am_L × List Value} (h : am_s1 d i M L S = some q) : gr_ M q.2.1 := by
  obtain ⟨ins, ⟨ln, sr, x, y, z, w⟩, im, tb⟩ := i
  cases ins with
  | aload_n _ => exact gr_ld h
  | aload _ => exact gr_ld h
  | iload_n _ => exact gr_ld h
  | iload _ => exact gr_ld h
  | lload_n _ => exact gr_ld h
  | lload _ => exact gr_ld h
  | astore_n _ => exact gr_so h
  | astore _ => exact gr_so h
  | istore_n _ => exact gr_so h
  | istore _ => exact gr_so h
  | lstore_n _ => exact gr_so2 h
  | lstore _ => exact gr_so2 h
  | iinc _ _ => exact gr_inc h
  | iconst _ => exact gr_psh h
  | bipush _ => exact gr_psh h
  | sipush _ => exact gr_psh h
  | ldc _ => exact gr_psh h
  | ldc_w _ => exact gr_psh h
  | lconst _ => exact gr_psh h
  | ldc2_w _ => exact gr_psh h
  | aconst_null => exact gr_psh h
  | iadd => exact gr_b2 h
  | isub => exact gr_b2 h
  | imul => exact gr_b2 h
  | iand => exact gr_b2 h
  | ior => exact gr_b2 h
  | ishl => exact gr_b2 h
  | ishr => exact gr_b2 h
  | iushr => exact gr_b2 h
  | idiv => exact gr_d2 h
  | irem => exact gr_d2 h
  | ineg => exact gr_b1 h
  | i2b => exact gr_b1 h
  | i2s => exact gr_b1 h
  | i2c => exact gr_b1 h
  | ladd => exact gr_l2 h
  | lsub => exact gr_l2 h
  | lmul => exact gr_l2 h
  | ldiv => exact gr_e2 h
  | lrem => exact gr_e2 h
  | lcmp => exact gr_cmp h
  | i2l => exact gr_i2l h
  | l2i => exact gr_l2i h
  | dup => exact gr_dup h
  | dup2 => exact gr_dp2 h
  | pop => exact gr_pop1 h
  | getfield _ => exact gr_gf h
  | putfield _ => exact gr_pf h
  | getstatic _ => exact gr_psh h
  | iaload => exact gr_ia h
  | baload => exact gr_ia h
  | aaload => exact gr_aa h
  | iastore => exact gr_is h
  | bastore => exact gr_bs h
  | aastore => exact gr_as h
  | arraylength => exact gr_al h
  | newarray _ => exact gr_na h
  | anewarray _ => exact gr_na h
  | new _ => exact gr_no h
  | invokespecial _ => exact gr_oi h
  | invokestatic _ =>
    match w, h with
    | 0, h => exact gr_cp h
    | w + 1, h => exact gr_ma h
  | _ => cases h
theorem gr_ex {d : Nat} {J : Nat → am_M → am_L → List Value → Option am_V} {C : Nat → am_M → List Value → Option am_V} (hJ : ∀ b M L S v, J b M L S = some v → gr_ M v.2) (hC : ∀ y M as v, C y M as = some v → gr_ M v.2) : ∀ (is : List am_P) (f : Bool) (M : am_M) (L : am_L) (S : List Value) (v : am_V), am_ex d J C is f M L S = some v → gr_ M v.2 := by
  intro is
  induction is with
  | nil => intro f M L S v h; cases h
  | cons i is ih =>
    intro f M L S v h
    rw [am_ex_cons] at h
    unfold am_st at h
    generalize am_srt i = s at h
    rcases s with _ | _ | _ | s
    · unfold am_sS at h
      cases hq : am_s1 d i M L S with
      | none => rw [hq] at h; cases h
      | some q => rw [hq] at h; exact gr_trans (gr_s1 hq) (ih _ _ _ _ _ h)
    · unfold am_sS at h
      cases hq : am_s2 i S with
      | none => rw [hq] at h; cases h
      | some q =>
        rw [hq] at h
        cases f with
        | false => cases h
        | true => exact hJ _ _ _ _ _ h
    · unfold am_sS at h
      cases hq : am_s3 i M S with
      | none => rw [hq] at h; cases h
      | some q =>
        rw [hq] at h
        simp only [Option.bind_some] at h
        cases hf : (q.1 && f) with
        | false => rw [hf] at h; cases h
        | true =>
          rw [hf] at h
          simp only [cond_true] at h
          cases hc : C (am_x i) M q.2.1 with
          | none => rw [hc] at h; cases h
          | some r =>
            rw [hc] at h
            exact gr_trans (hC _ _ _ _ hc) (hJ _ _ _ _ _ h)
    · have h : (am_s4 i S).bind (fun v => cond f (some (v, M)) none) = some v := h
      cases hq : am_s4 i S with
      | none => rw [hq] at h; cases h
      | some q =>
        rw [hq] at h
        cases f with
        | false => cases h
        | true => cases h; exact gr_same rfl
theorem gr_run : ∀ (n d m b : Nat) (M : am_M) (L : am_L) (S : List Value) (v : am_V), am_run n d m b M L S = some v → gr_ M v.2 := by
  intro n
  induction n with
  | zero => intro d m b M L S v h; cases h
  | succ n ih =>
    intro d m b M L S v h
    rw [am_run] at h
    refine gr_ex (fun b M L S v h => ih _ _ _ _ _ _ _ h) (fun y M as v h => ?_) _ _ _ _ _ _ h
    cases d with
    | zero => cases h
    | succ e =>
      cases hk : am_okA y as with
      | false => simp only [hk, cond_false] at h; cases h
      | true =>
        simp only [hk, cond_true] at h
        exact ih _ _ _ _ _ _ _ h
theorem fl_ex {d : Nat} {J : Nat → am_M → am_L → List Value → Option am_V} {C : Nat → am_M → List Value → Option am_V} : ∀ (is : List am_P) (M : am_M) (L : am_L) (S : List Value), am_ex d J C is false M L S = none := by
  intro is
  induction is with
  | nil => intro M L S; rfl
  | cons i is ih =>
    intro M L S
    rw [am_ex_cons]
    unfold am_st
    generalize am_srt i = s
    rcases s with _ | _ | _ | s
    · unfold am_sS
      cases hq : am_s1 d i M L S with
      | none => rfl
      | some q => show am_ex d J C is (q.1 && false) _ _ _ = none; rw [Bool.and_false]; exact ih _ _ _
    · unfold am_sS
      cases hq : am_s2 i S with
      | none => rfl
      | some q => rfl
    · unfold am_sS
      cases hq : am_s3 i M S with
      | none => rfl
      | some q => show cond (q.1 && false) _ none = none; rw [Bool.and_false]; rfl
    · show (am_s4 i S).bind (fun v => cond false (some (v, M)) none) = none
      cases hq : am_s4 i S with
      | none => rfl
      | some q => rfl
