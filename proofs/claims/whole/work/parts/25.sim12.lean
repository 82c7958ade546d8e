/-! THE SIMULATION, 12: the whole -/
theorem no_0 : am_pg.all (fun m => m.all (fun b => b.all (fun i => !(Nat.beq (am_srt i) 2) || !(Nat.beq (am_x i) 207)))) = true := by decide +kernel
theorem pc_00 : (List.range 217).all (fun y => Nat.beq (am_pc y 0) 0) = true := by decide +kernel
theorem pc_0 (y : Nat) (h : y < 217) : am_pc y 0 = 0 := Nat.eq_of_beq_eq_true (List.all_eq_true.mp pc_00 y (List.mem_range.mpr h))
theorem no_1 (m b : Nat) : ∀ i ∈ am_blk m b, am_srt i = 2 → ¬ am_x i = 207 := by
  intro i hi hs
  unfold am_blk at hi
  by_cases hm : m < am_pg.length
  · rw [List.getD_eq_getElem?_getD (l := am_pg), List.getElem?_eq_getElem hm, Option.getD_some] at hi
    have h1 := List.all_eq_true.mp no_0 _ (List.getElem_mem hm)
    by_cases hb : b < (am_pg[m]).length
    · rw [List.getD_eq_getElem?_getD, List.getElem?_eq_getElem hb, Option.getD_some] at hi
      have h2 := List.all_eq_true.mp (List.all_eq_true.mp h1 _ (List.getElem_mem hb)) i hi
      rw [hs] at h2
      have h3 : (!(Nat.beq (am_x i) 207)) = true := h2
      exact fun e => by rw [e] at h3; exact absurd h3 (by decide)
    · rw [List.getD_eq_getElem?_getD, List.getElem?_eq_none (by omega)] at hi
      cases hi
  · rw [List.getD_eq_getElem?_getD (l := am_pg), List.getElem?_eq_none (by omega)] at hi
    cases hi
/-- a method that runs is one of ours -/
theorem blk_lt {n d m b : Nat} {M : am_M} {L : am_L} {S : List Value} {w : am_V} (h : am_run n d m b M L S = some w) : m < 217 := by
  apply Decidable.byContradiction
  intro hm
  cases n with
  | zero => cases h
  | succ n =>
    rw [am_run] at h
    have e : am_blk m b = [] := by
      unfold am_blk
      rw [List.getD_eq_getElem?_getD (l := am_pg), List.getElem?_eq_none (by rw [am_pg_len]; omega)]
      rfl
    rw [e] at h
    cases h
/-- what a call comes to -/
noncomputable def am_cn (n d y : Nat) (M' : am_M) (as : List Value) : Option am_V := match d with
  | 0 => none
  | e + 1 => cond (am_okA y as) (am_run n e y 0 M' (am_in (am_mx y) as) []) none
theorem am_cn_s (n e y : Nat) (M' : am_M) (as : List Value) : am_cn n (e + 1) y M' as = cond (am_okA y as) (am_run n e y 0 M' (am_in (am_mx y) as) []) none := rfl
theorem am_run_s (n d m b : Nat) (M : am_M) (L : am_L) (S : List Value) : am_run (n + 1) d m b M L S = am_ex d (fun b' M' L' S' => am_run n d m b' M' L' S') (am_cn n d) (am_blk m b) true M L S := rfl
theorem sl_cat {a : Value} (h : am_isV a = true) : (am_isT 2 a = true ∧ a.category = 2) ∨ (am_isT 2 a = false ∧ a.category = 1) := by
  cases a <;> first | exact Or.inl ⟨rfl, rfl⟩ | exact Or.inr ⟨rfl, rfl⟩ | (cases h; done)
section SM12
variable {G : sm_G} {p : Program} {l : Launch} {e : Env} {R : Room} {s : State} {mI : MethodId} {args : Array Value} {below : List Frame} {meth : Method} {c : Code} {H H1 : Heap} {locs : List Loc} {cells slots : Nat} {Q : State → Prop} {m d pc : Nat} {ls : Array Slot} {M M1 : am_M} {L L1 : am_L} {S S1 : List Value}
theorem sl_get (hP : sm_P G) : ∀ (as : List Value) (i : Nat) (v : Value), as.all am_isV = true → (am_sl as)[i]? = some (some v) → (lg_sl (as.map (sm_v G)))[i]? = some (.val (sm_v G v)) := by
  intro as
  induction as with
  | nil => intro i v hv h; exact absurd (show ([] : am_L)[i]? = some (some v) from h) (by simp)
  | cons a as ih =>
    intro i v hv h
    rw [List.all_cons, Bool.and_eq_true] at hv
    have e : am_sl (a :: as) = cond (am_isT 2 a) (some a :: none :: am_sl as) (some a :: am_sl as) := rfl
    have e2 : lg_sl ((a :: as).map (sm_v G)) = (if (sm_v G a).category = 2 then [.val (sm_v G a), .second] else [.val (sm_v G a)]) ++ lg_sl (as.map (sm_v G)) := by simp [lg_sl]
    rw [e] at h
    rw [e2, sm_cat G hP]
    rcases sl_cat hv.1 with ⟨h1, h2⟩ | ⟨h1, h2⟩
    · rw [h1] at h
      rw [if_pos h2]
      rcases i with _ | _ | i
      · cases h; rfl
      · cases h
      · exact ih i v hv.2 h
    · rw [h1] at h
      rw [if_neg (by omega)]
      rcases i with _ | i
      · cases h; rfl
      · exact ih i v hv.2 h
theorem sl_len (hP : sm_P G) : ∀ (as : List Value), as.all am_isV = true → (lg_sl (as.map (sm_v G))).length = (am_sl as).length := by
  intro as
  induction as with
  | nil => intro _; rfl
  | cons a as ih =>
    intro hv
    rw [List.all_cons, Bool.and_eq_true] at hv
    have e : am_sl (a :: as) = cond (am_isT 2 a) (some a :: none :: am_sl as) (some a :: am_sl as) := rfl
    have e2 : lg_sl ((a :: as).map (sm_v G)) = (if (sm_v G a).category = 2 then [.val (sm_v G a), .second] else [.val (sm_v G a)]) ++ lg_sl (as.map (sm_v G)) := by simp [lg_sl]
    rw [e, e2, sm_cat G hP]
    rcases sl_cat hv.1 with ⟨h1, h2⟩ | ⟨h1, h2⟩
    · rw [h1, if_pos h2]
      simp [ih hv.2]
    · rw [h1, if_neg (by omega)]
      simp [ih hv.2]
theorem sm_in {as : List Value} {n : Nat} (hP : sm_P G) (hv : as.all am_isV = true) (hn : (am_sl as).length ≤ n) : sm_L G (am_in n as) ((lg_sl (as.map (sm_v G)) ++ List.replicate (n - (lg_sl (as.map (sm_v G))).length) Slot.unset).toArray) n := by
  have h0 := lv_entry (as.map (sm_v G)) (n := n) (by rw [sl_len hP as hv]; exact hn)
  refine ⟨by unfold am_in; rw [List.length_append, List.length_replicate]; omega, h0.1, h0.2.1, fun q hq => ?_⟩
  obtain ⟨v, h1, h2, h3⟩ := sm_ll_of hq
  unfold am_in at h1
  have hlt : q.1 < (am_sl as).length := by
    apply Decidable.byContradiction
    intro hge
    rw [List.getElem?_append_right (by omega), List.getElem?_replicate] at h1
    split at h1 <;> simp at h1
  rw [List.getElem?_append_left hlt] at h1
  have h4 := sl_get hP as q.1 v hv h1
  rw [h3]
  rw [List.getElem?_toArray, List.getElem?_append_left (by rw [sl_len hP as hv]; exact hlt)]
  exact h4
/-- what a run comes to, wherever it stands -/
def sm_T (G : sm_G) (l : Launch) (n : Nat) : Prop := ∀ (d m b : Nat) (M : am_M) (L : am_L) (S : List Value) (v : Option Value) (M' : am_M), am_run n d m b M L S = some (v, M') → ∀ (p : Program) (e : Env) (R : Room) (s : State) (mI : MethodId) (args : Array Value) (below : List Frame) (meth : Method) (c : Code) (H : Heap) (locs : List Loc) (cells slots kc ks : Nat) (ls : Array Slot), sm_cx G p R s mI args meth c m d → sm_rl G M s H locs → sm_L G L ls (am_mx m) → meth.sig.returnType = am_rt m → meth.locks = false → kc = cells + (M'.1.length - M.1.length) → ks = slots + (am_sz M' - am_sz M) → kc ≤ R.cells → ks ≤ R.slots → W p l e R s mI args below meth c H locs cells slots (MQ below (sm_Qc G v M') args s kc ks (sm_A G)) (F0 mI (am_pc m b) ls (S.map (sm_v G)))
theorem sm_met {n e1 y : Nat} {as : List Value} {v : Option Value} (hT : sm_T G l n) (hP : sm_P G) (hy : y < 217) (hy2 : ¬ y = 207) (hok : am_okA y as = true) (h : am_run n e1 y 0 M (am_in (am_mx y) as) [] = some (v, M1)) : sm_K G l e1 y M as v M1 := by
  obtain ⟨-, -, -, -, o5, -, -⟩ := sm_okn hy hy2
  unfold am_okA at hok
  rw [Bool.and_eq_true] at hok
  refine Met.ofW (cc := am_cd y) (maxL := am_mx y) (ret := am_rt y) o5 rfl ?_
  intro p e s m args below meth c s₁ B hml hv
  obtain ⟨rfl, hS, hhp, hfr⟩ := hv
  have hts := atoms_spec (ws := sm_ws y) B.pre
  rw [lg_entry_eq]
  have hpc0 : am_pc y 0 = 0 := pc_0 y hy
  have k := hT e1 y 0 M _ [] v M1 h p e (sm_rm e1 M M1) s m _ below meth c s.heap [] 0 0 (M1.1.length - M.1.length) (am_sz M1 - am_sz M) _ ⟨B.exec, B.bytes, hml, findClass_of_methodNamed B.named, fun w hw => hts w (List.mem_cons_of_mem _ hw), hS, Or.inr (name_of_methodNamed B.named B.method).1, Nat.le_refl _, Nat.le_refl _, hP⟩ ⟨hhp, hfr, va_S.rf⟩ (sm_in hP hok.2 (Nat.le_of_ble_eq_true hok.1)) B.returns B.notSynchronized (by omega) (by omega) (Nat.le_refl _) (Nat.le_refl _)
  rw [hpc0] at k
  exact k
theorem sm_exl {n : Nat} (ih : sm_T G l n) (hr : meth.sig.returnType = am_rt m) (hlk : meth.locks = false) (X : sm_cx G p R s mI args meth c m d) : ∀ (is : List am_P) (pc : Nat) (M : am_M) (L : am_L) (S : List Value) (v : Option Value) (M' : am_M) (H : Heap) (locs : List Loc) (cells slots kc ks : Nat) (ls : Array Slot), am_oks m pc is = true → (∀ i ∈ is, am_srt i = 2 → ¬ am_x i = 207) → am_ex d (fun b' M' L' S' => am_run n d m b' M' L' S') (am_cn n d) is true M L S = some (v, M') → sm_rl G M s H locs → sm_L G L ls (am_mx m) → kc = cells + (M'.1.length - M.1.length) → ks = slots + (am_sz M' - am_sz M) → kc ≤ R.cells → ks ≤ R.slots → W p l e R s mI args below meth c H locs cells slots (MQ below (sm_Qc G v M') args s kc ks (sm_A G)) (F0 mI pc ls (S.map (sm_v G))) := by
  have hP := X.2.2.2.2.2.2.2.2.2
  have hJg : ∀ (b : Nat) (M : am_M) (L : am_L) (S : List Value) (v : am_V), (fun b' M' L' S' => am_run n d m b' M' L' S') b M L S = some v → gr_ M v.2 := fun b M L S v h => gr_run _ _ _ _ _ _ _ _ h
  have hCg : ∀ (y : Nat) (M : am_M) (as : List Value) (v : am_V), am_cn n d y M as = some v → gr_ M v.2 := fun y M as v h => by
    cases d with
    | zero => cases h
    | succ e =>
      cases hk : am_okA y as with
      | false => simp only [am_cn_s, hk, cond_false] at h; cases h
      | true =>
        simp only [am_cn_s, hk, cond_true] at h
        exact gr_run _ _ _ _ _ _ _ _ h
  intro is
  induction is with
  | nil => intro pc M L S v M' H locs cells slots kc ks ls _ _ h; cases h
  | cons i is ihl =>
    intro pc M L S v M' H locs cells slots kc ks ls hck hno h hrl hl hkc hks hkc2 hks2
    have hck : (am_chk m pc i && am_oks m (pc + am_len i) is) = true := hck
    rw [Bool.and_eq_true] at hck
    rw [am_ex_cons] at h
    unfold am_st at h
    rcases hs : am_srt i with _ | _ | _ | s3
    · rw [hs] at h
      unfold am_sS at h
      cases hq : am_s1 d i M L S with
      | none => rw [hq] at h; cases h
      | some q =>
        obtain ⟨f, M1, L1, S1⟩ := q
        rw [hq] at h
        simp only [Option.bind_some] at h
        cases f with
        | false =>
          simp only [Bool.false_and] at h
          rw [fl_ex] at h
          cases h
        | true =>
          simp only [Bool.and_true] at h
          have g1 : gr_ M M1 := gr_s1 hq
          have g2 : gr_ M1 M' := gr_ex hJg hCg is true M1 L1 S1 (v, M') h
          obtain ⟨g1a, g1b⟩ := g1
          obtain ⟨g2a, g2b⟩ := g2
          refine sm_s1 X hrl hl hs hck.1 hq (by omega) (by omega) (fun H1 locs1 ls1 hr1 hl1 => ?_)
          exact ihl _ _ _ _ _ _ _ _ _ _ kc ks _ hck.2 (fun i hi => hno i (List.mem_cons_of_mem _ hi)) h hr1 hl1 (by omega) (by omega) hkc2 hks2
    · rw [hs] at h
      unfold am_sS at h
      cases hq : am_s2 i S with
      | none => rw [hq] at h; cases h
      | some q =>
        obtain ⟨b', S'⟩ := q
        rw [hq] at h
        simp only [Option.bind_some, cond_true] at h
        exact sm_s2 X hrl hl hs hck.1 hq (ih _ _ _ _ _ _ _ _ h _ _ _ _ _ _ _ _ _ _ _ _ _ _ _ _ X hrl hl hr hlk hkc hks hkc2 hks2)
    · rw [hs] at h
      unfold am_sS at h
      cases hq : am_s3 i M S with
      | none => rw [hq] at h; cases h
      | some q =>
        obtain ⟨f, as, rest⟩ := q
        rw [hq] at h
        simp only [Option.bind_some] at h
        cases f with
        | false => simp only [Bool.false_and, cond_false] at h; cases h
        | true =>
          simp only [Bool.and_true, cond_true] at h
          cases d with
          | zero => cases h
          | succ e1 =>
            cases hk : am_okA (am_x i) as with
            | false => simp only [am_cn_s, hk, cond_false] at h; cases h
            | true =>
              simp only [am_cn_s, hk, cond_true] at h
              cases hc : am_run n e1 (am_x i) 0 M (am_in (am_mx (am_x i)) as) [] with
              | none => rw [hc] at h; cases h
              | some r =>
                obtain ⟨v1, M1⟩ := r
                rw [hc] at h
                simp only [Option.bind_some] at h
                have hy2 := hno i List.mem_cons_self hs
                have hy := blk_lt hc
                have g1 : gr_ M M1 := gr_run n e1 (am_x i) 0 M _ [] (v1, M1) hc
                have g2 : gr_ M1 M' := gr_run n (e1 + 1) m (am_y i) M1 L _ (v, M') h
                obtain ⟨g1a, g1b⟩ := g1
                obtain ⟨g2a, g2b⟩ := g2
                refine sm_s3 X hrl hl hs hck.1 hq hy hy2 (sm_met ih hP hy hy2 hk hc) ⟨n, hc⟩ (by omega) (by omega) (fun H1 locs1 hr1 => ?_)
                exact ih _ _ _ _ _ _ _ _ h _ _ _ _ _ _ _ _ _ _ _ _ _ kc ks _ X hr1 hl hr hlk (by omega) (by omega) hkc2 hks2
    · have h : (am_s4 i S).bind (fun v => cond true (some (v, M)) none) = some (v, M') := by
        rw [hs] at h
        exact h
      cases hq : am_s4 i S with
      | none => rw [hq] at h; cases h
      | some q =>
        rw [hq] at h
        simp only [Option.bind_some, cond_true, Option.some.injEq, Prod.mk.injEq] at h
        obtain ⟨rfl, rfl⟩ := h
        rw [Nat.sub_self] at hkc hks
        have e1 : kc = cells := by omega
        have e2 : ks = slots := by omega
        subst e1
        subst e2
        refine sm_s4 X hck.1 (by omega) hr hlk hq (fun q hq => hrl.2.2.2.2 q hq) (fun t ht hW => ⟨rfl, by rw [ht]; exact hrl.1, hrl.2.1, hrl.2.2.F ht⟩)
theorem sm_all (G : sm_G) (l : Launch) : ∀ n, sm_T G l n := by
  intro n
  induction n with
  | zero => intro d m b M L S v M' h; cases h
  | succ n ih =>
    intro d m b M L S v M' h p e R s mI args below meth c H locs cells slots kc ks ls X hrl hl hr hlk hkc hks hkc2 hks2
    rw [am_run_s] at h
    exact sm_exl ih hr hlk X _ _ _ _ _ _ _ _ _ _ _ kc ks _ (ok_blk m b) (no_1 m b) h hrl hl hkc hks hkc2 hks2
end SM12
