/-! PURE, 63: what a method hands back -/
def rti (i : am_P) : Bool := Nat.ble (am_srt i) 2 || (match i.1 with | .ireturn => true | _ => false)
def rtl (i : am_P) : Bool := Nat.ble (am_srt i) 2 || (match i.1 with | .lreturn => true | _ => false)
def tyI (v : Option Value) : Prop := ∃ x, v = some (.int x)
def tyL (v : Option Value) : Prop := ∃ x, v = some (.long x)
theorem s4i {i : am_P} {S : List Value} (hi : i.1 = .ireturn) : am_s4 i S = (match S with | [.int x] => some (some (.int (am_nar (am_w i) x))) | _ => none) := by
  unfold am_s4
  rw [hi]
  rfl
theorem s4l {i : am_P} {S : List Value} (hi : i.1 = .lreturn) : am_s4 i S = (match S with | [.long x] => some (some (.long x)) | _ => none) := by
  unfold am_s4
  rw [hi]
  rfl
theorem rti_4 {i : am_P} {S : List Value} {v : Option Value} (h : rti i = true) (hs : ¬ am_srt i ≤ 2) (e : am_s4 i S = some v) : tyI v := by
  unfold rti at h
  rw [Bool.or_eq_true] at h
  rcases h with h | h
  · exact absurd (Nat.le_of_ble_eq_true h) hs
  · split at h
    · rename_i hi
      rw [s4i hi] at e
      split at e
      · cases e
        exact ⟨_, rfl⟩
      · cases e
    · cases h
theorem rtl_4 {i : am_P} {S : List Value} {v : Option Value} (h : rtl i = true) (hs : ¬ am_srt i ≤ 2) (e : am_s4 i S = some v) : tyL v := by
  unfold rtl at h
  rw [Bool.or_eq_true] at h
  rcases h with h | h
  · exact absurd (Nat.le_of_ble_eq_true h) hs
  · split at h
    · rename_i hi
      rw [s4l hi] at e
      split at e
      · cases e
        exact ⟨_, rfl⟩
      · cases e
    · cases h
theorem am_ex_ret {P : am_P → Bool} {T : Option Value → Prop} {d : Nat} {J : Nat → am_M → am_L → List Value → Option am_V} {C : Nat → am_M → List Value → Option am_V} (hJ : ∀ b M L S v M', J b M L S = some (v, M') → T v) (hP : ∀ i S v, P i = true → ¬ am_srt i ≤ 2 → am_s4 i S = some v → T v) : ∀ (is : List am_P), is.all P = true → ∀ (f : Bool) (M : am_M) (L : am_L) (S : List Value) (v : Option Value) (M' : am_M), am_ex d J C is f M L S = some (v, M') → T v := by
  intro is
  induction is with
  | nil => intro _ f M L S v M' h; cases h
  | cons i is ih =>
    intro hall f M L S v M' h
    rw [List.all_cons, Bool.and_eq_true] at hall
    rw [am_ex_cons] at h
    unfold am_st at h
    generalize hsr : am_srt i = s at h
    rcases s with _ | _ | _ | s
    · unfold am_sS at h
      cases hq : am_s1 d i M L S with
      | none => rw [hq] at h; cases h
      | some q =>
        rw [hq] at h
        exact ih hall.2 _ _ _ _ _ _ h
    · unfold am_sS at h
      cases hq : am_s2 i S with
      | none => rw [hq] at h; cases h
      | some q =>
        rw [hq] at h
        cases f with
        | false => cases h
        | true => exact hJ _ _ _ _ _ _ h
    · unfold am_sS at h
      cases hq : am_s3 i M S with
      | none => rw [hq] at h; cases h
      | some q =>
        rw [hq] at h
        simp only [Option.bind_some] at h
        cases hf : (q.1 && f) with
        | false => rw [hf] at h; cases h
        | true =>
          rw [hf] at h
          simp only [cond_true] at h
          cases hc : C (am_x i) M q.2.1 with
          | none => rw [hc] at h; cases h
          | some r =>
            rw [hc] at h
            exact hJ _ _ _ _ _ _ h
    · unfold am_sS at h
      cases hq : am_s4 i S with
      | none => rw [hq] at h; cases h
      | some q =>
        rw [hq] at h
        cases f with
        | false => cases h
        | true =>
          cases h
          exact hP i S _ hall.1 (by omega) hq
theorem am_run_ret {P : am_P → Bool} {T : Option Value → Prop} {m : Nat} (hP : ∀ i S v, P i = true → ¬ am_srt i ≤ 2 → am_s4 i S = some v → T v) (hm : (am_pg.getD m []).all (fun b => b.all P) = true) : ∀ (n d b : Nat) (M : am_M) (L : am_L) (S : List Value) (v : Option Value) (M' : am_M), am_run n d m b M L S = some (v, M') → T v := by
  intro n
  induction n with
  | zero => intro d b M L S v M' h; cases h
  | succ n ih =>
    intro d b M L S v M' h
    rw [am_run] at h
    refine am_ex_ret (P := P) (fun b' M1 L1 S1 v1 M1' h1 => ih d b' M1 L1 S1 v1 M1' h1) hP (am_blk m b) ?_ _ _ _ _ _ _ h
    unfold am_blk
    by_cases hb : b < (am_pg.getD m []).length
    · rw [List.getD_eq_getElem?_getD, List.getElem?_eq_getElem hb]
      exact List.all_eq_true.mp hm _ (List.getElem_mem hb)
    · rw [List.getD_eq_getElem?_getD, List.getElem?_eq_none (by omega)]
      rfl
theorem am_R_I {d m b : Nat} {M : am_M} {L : am_L} {S : List Value} {v : Option Value} {M' : am_M} (hm : (am_pg.getD m []).all (fun b => b.all rti) = true) (h : am_R d m b M L S = some (v, M')) : tyI v := by
  obtain ⟨n, hn⟩ := am_R_some h
  exact am_run_ret (P := rti) (fun _ _ _ => rti_4) hm n _ _ _ _ _ _ _ hn
theorem am_R_L {d m b : Nat} {M : am_M} {L : am_L} {S : List Value} {v : Option Value} {M' : am_M} (hm : (am_pg.getD m []).all (fun b => b.all rtl) = true) (h : am_R d m b M L S = some (v, M')) : tyL v := by
  obtain ⟨n, hn⟩ := am_R_some h
  exact am_run_ret (P := rtl) (fun _ _ _ => rtl_4) hm n _ _ _ _ _ _ _ hn
theorem rt_ints : [67, 72, 73, 74, 75, 81, 82, 83, 84, 85, 87, 88, 89, 90, 101, 102, 103, 105, 108, 109, 110, 113, 117, 118, 119, 120, 121, 122, 123, 124].all (fun m => (am_pg.getD m []).all (fun b => b.all rti)) = true := by decide +kernel
theorem rt_longs : [86, 114].all (fun m => (am_pg.getD m []).all (fun b => b.all rtl)) = true := by decide +kernel
