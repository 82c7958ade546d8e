/-! THE SIMULATION, 10: jumps and ends -/
section SM10
variable {G : sm_G} {p : Program} {l : Launch} {e : Env} {R : Room} {s : State} {mI : MethodId} {args : Array Value} {below : List Frame} {meth : Method} {c : Code} {H H1 : Heap} {locs : List Loc} {cells slots : Nat} {Q : State → Prop} {m d pc : Nat} {ls : Array Slot} {M M1 : am_M} {L L1 : am_L} {S S1 : List Value}
theorem sw_look {m pc y : Nat} {f : Nat → Nat} {dl : Int} {a : Int32} (hd : (pc : Int) + dl = (f y : Int)) : ∀ (tb : List (Int32 × Nat)) (ps : List (Int × Int)), am_swl m pc tb ps f = true → (pc : Int) + Op.lookupswitch.offset ps dl a.toInt = (f (am_swt a y tb) : Int) := by
  intro tb
  induction tb with
  | nil =>
    intro ps h
    cases ps with
    | nil => exact hd
    | cons q ps => cases h
  | cons t tb ih =>
    intro ps h
    cases ps with
    | nil => cases h
    | cons q ps =>
      obtain ⟨k, b⟩ := t
      obtain ⟨a0, o⟩ := q
      simp only [am_swl, Bool.and_eq_true, decide_eq_true_eq] at h
      obtain ⟨h1, h2, h3⟩ := h
      rw [Op.lookupswitch.offset_cons]
      show _ = ((f (if a = k then b else am_swt a y tb) : Nat) : Int)
      by_cases hk : a = k
      · rw [if_pos hk, if_pos (by rw [hk]; exact h1.symm)]
        exact h2
      · rw [if_neg hk, if_neg (fun e => hk (Int32.toInt_inj.mp (by rw [← e]; exact h1.symm)))]
        exact ih ps h3
theorem sw_tab {m pc y : Nat} {f : Nat → Nat} {dl : Int} {a : Int32} (hd : (pc : Int) + dl = (f y : Int)) : ∀ (os : List Int) (lo : Int) (tb : List (Int32 × Nat)), am_swl m pc tb (am_tbl lo os) f = true → ((a.toInt < lo ∨ lo + (os.length : Int) ≤ a.toInt) → am_swt a y tb = y) ∧ (¬ (a.toInt < lo ∨ lo + (os.length : Int) ≤ a.toInt) → ∃ o, os[(a.toInt - lo).toNat]? = some o ∧ (pc : Int) + o = (f (am_swt a y tb) : Int)) := by
  intro os
  induction os with
  | nil =>
    intro lo tb h
    cases tb with
    | nil => exact ⟨fun _ => rfl, fun h => absurd (show a.toInt < lo ∨ lo + (([] : List Int).length : Int) ≤ a.toInt by simp; omega) h⟩
    | cons t tb => cases h
  | cons o os ih =>
    intro lo tb h
    cases tb with
    | nil => cases h
    | cons t tb =>
      obtain ⟨k, b⟩ := t
      simp only [am_tbl, am_swl, Bool.and_eq_true, decide_eq_true_eq] at h
      obtain ⟨h1, h2, h3⟩ := h
      obtain ⟨i1, i2⟩ := ih (lo + 1) tb h3
      have hs : am_swt a y ((k, b) :: tb) = if a = k then b else am_swt a y tb := rfl
      rw [hs]
      have hlen : (((o :: os).length : Nat) : Int) = (os.length : Int) + 1 := by simp
      rw [hlen]
      by_cases hk : a = k
      · have hal : a.toInt = lo := by rw [hk]; exact h1
        rw [if_pos hk]
        refine ⟨fun hh => by omega, fun _ => ⟨o, ?_, h2⟩⟩
        rw [hal, Int.sub_self]
        rfl
      · have hal : a.toInt ≠ lo := fun e => hk (Int32.toInt_inj.mp (by rw [e]; exact h1.symm))
        rw [if_neg hk]
        refine ⟨fun hh => i1 (by omega), fun hh => ?_⟩
        obtain ⟨o', e1, e2⟩ := i2 (by omega)
        refine ⟨o', ?_, e2⟩
        rw [show (a.toInt - lo).toNat = (a.toInt - (lo + 1)).toNat + 1 by omega]
        exact e1
theorem sm_s2 {i : am_P} {b' : Nat} {S' : List Value} (X : sm_cx G p R s mI args meth c m d) (hr : sm_rl G M s H locs) (hl : sm_L G L ls (am_mx m)) (hsr : am_srt i = 1) (hck : am_chk m pc i = true) (hq : am_s2 i S = some (b', S')) (k : W p l e R s mI args below meth c H locs cells slots Q (F0 mI (am_pc m b') ls (S'.map (sm_v G)))) : W p l e R s mI args below meth c H locs cells slots Q (F0 mI pc ls (S.map (sm_v G))) := by
  obtain ⟨ins, ⟨ln, sr, x, y, z, w⟩, im, tb⟩ := i
  have hsr : sr = 1 := hsr
  subst hsr
  cases ins with
  | goto off =>
    simp only [am_chk, Bool.and_eq_true, decide_eq_true_eq] at hck
    cases hq
    exact lv_goto X.1 X.2.1 hck.1 hck.2 k
  | nop =>
    have hck : Nat.beq (am_pc m x) pc = true := hck
    cases hq
    rw [Nat.eq_of_beq_eq_true hck] at k
    exact k
  | ifCond cnd off =>
    simp only [am_chk, Bool.and_eq_true, decide_eq_true_eq] at hck
    obtain ⟨hdg, ht, hy0⟩ := hck
    have hy := Nat.eq_of_beq_eq_true hy0
    cases cnd with
    | eq =>
      simp only [am_s2] at hq
      split at hq
      · simp only [Option.some.injEq, Prod.mk.injEq] at hq
        obtain ⟨rfl, rfl⟩ := hq
        refine lv_if_eq X.1 X.2.1 hdg ht (fun h => ?_) (fun h => ?_)
        · rw [if_pos h] at k
          exact k
        · rw [if_neg h, hy] at k
          exact k
      · cases hq
    | ne =>
      simp only [am_s2] at hq
      split at hq
      · simp only [Option.some.injEq, Prod.mk.injEq] at hq
        obtain ⟨rfl, rfl⟩ := hq
        refine lv_if_ne X.1 X.2.1 hdg ht (fun h => ?_) (fun h => ?_)
        · rw [if_neg h] at k
          exact k
        · rw [if_pos h, hy] at k
          exact k
      · cases hq
    | lt =>
      simp only [am_s2] at hq
      split at hq
      · simp only [Option.some.injEq, Prod.mk.injEq] at hq
        obtain ⟨rfl, rfl⟩ := hq
        refine lv_if_lt X.1 X.2.1 hdg ht (fun h => ?_) (fun h => ?_)
        · rw [if_pos h] at k
          exact k
        · rw [if_neg h, hy] at k
          exact k
      · cases hq
    | ge =>
      simp only [am_s2] at hq
      split at hq
      · simp only [Option.some.injEq, Prod.mk.injEq] at hq
        obtain ⟨rfl, rfl⟩ := hq
        refine lv_if_ge X.1 X.2.1 hdg ht (fun h => ?_) (fun h => ?_)
        · rw [if_neg (Int32.not_lt.mpr h)] at k
          exact k
        · rw [if_pos (Int32.not_le.mp h), hy] at k
          exact k
      · cases hq
    | gt =>
      simp only [am_s2] at hq
      split at hq
      · simp only [Option.some.injEq, Prod.mk.injEq] at hq
        obtain ⟨rfl, rfl⟩ := hq
        refine lv_if_gt X.1 X.2.1 hdg ht (fun h => ?_) (fun h => ?_)
        · rw [if_pos h] at k
          exact k
        · rw [if_neg h, hy] at k
          exact k
      · cases hq
    | le =>
      simp only [am_s2] at hq
      split at hq
      · simp only [Option.some.injEq, Prod.mk.injEq] at hq
        obtain ⟨rfl, rfl⟩ := hq
        refine lv_if_le X.1 X.2.1 hdg ht (fun h => ?_) (fun h => ?_)
        · rw [if_neg (Int32.not_lt.mpr h)] at k
          exact k
        · rw [if_pos (Int32.not_le.mp h), hy] at k
          exact k
      · cases hq
  | if_icmp cnd off =>
    simp only [am_chk, Bool.and_eq_true, decide_eq_true_eq] at hck
    obtain ⟨hdg, ht, hy0⟩ := hck
    have hy := Nat.eq_of_beq_eq_true hy0
    cases cnd with
    | eq =>
      simp only [am_s2] at hq
      split at hq
      · simp only [Option.some.injEq, Prod.mk.injEq] at hq
        obtain ⟨rfl, rfl⟩ := hq
        refine lv_icmp_eq X.1 X.2.1 hdg ht (fun h => ?_) (fun h => ?_)
        · rw [if_pos h] at k
          exact k
        · rw [if_neg h, hy] at k
          exact k
      · cases hq
    | ne =>
      simp only [am_s2] at hq
      split at hq
      · simp only [Option.some.injEq, Prod.mk.injEq] at hq
        obtain ⟨rfl, rfl⟩ := hq
        refine lv_icmp_ne X.1 X.2.1 hdg ht (fun h => ?_) (fun h => ?_)
        · rw [if_neg h] at k
          exact k
        · rw [if_pos h, hy] at k
          exact k
      · cases hq
    | lt =>
      simp only [am_s2] at hq
      split at hq
      · simp only [Option.some.injEq, Prod.mk.injEq] at hq
        obtain ⟨rfl, rfl⟩ := hq
        refine lv_icmp_lt X.1 X.2.1 hdg ht (fun h => ?_) (fun h => ?_)
        · rw [if_pos h] at k
          exact k
        · rw [if_neg h, hy] at k
          exact k
      · cases hq
    | ge =>
      simp only [am_s2] at hq
      split at hq
      · simp only [Option.some.injEq, Prod.mk.injEq] at hq
        obtain ⟨rfl, rfl⟩ := hq
        refine lv_icmp_ge X.1 X.2.1 hdg ht (fun h => ?_) (fun h => ?_)
        · rw [if_neg (Int32.not_lt.mpr h)] at k
          exact k
        · rw [if_pos (Int32.not_le.mp h), hy] at k
          exact k
      · cases hq
    | gt =>
      simp only [am_s2] at hq
      split at hq
      · simp only [Option.some.injEq, Prod.mk.injEq] at hq
        obtain ⟨rfl, rfl⟩ := hq
        refine lv_icmp_gt X.1 X.2.1 hdg ht (fun h => ?_) (fun h => ?_)
        · rw [if_pos h] at k
          exact k
        · rw [if_neg h, hy] at k
          exact k
      · cases hq
    | le =>
      simp only [am_s2] at hq
      split at hq
      · simp only [Option.some.injEq, Prod.mk.injEq] at hq
        obtain ⟨rfl, rfl⟩ := hq
        refine lv_icmp_le X.1 X.2.1 hdg ht (fun h => ?_) (fun h => ?_)
        · rw [if_neg (Int32.not_lt.mpr h)] at k
          exact k
        · rw [if_pos (Int32.not_le.mp h), hy] at k
          exact k
      · cases hq
  | ifnonnull off =>
    simp only [am_chk, Bool.and_eq_true, decide_eq_true_eq] at hck
    obtain ⟨hdg, ht, hy0⟩ := hck
    have hy := Nat.eq_of_beq_eq_true hy0
    simp only [am_s2] at hq
    split at hq
    · simp only [Option.some.injEq, Prod.mk.injEq] at hq
      obtain ⟨rfl, rfl⟩ := hq
      rw [hy] at k
      exact lv_ifnonnullN X.1 X.2.1 hdg k
    · rename_i a r
      cases h5 : Nat.ble 5 a with
      | false => rw [h5] at hq; cases hq
      | true =>
        rw [h5] at hq
        simp only [cond_true, Option.some.injEq, Prod.mk.injEq] at hq
        obtain ⟨rfl, rfl⟩ := hq
        rw [List.map_cons, sm_v5 (Nat.le_of_ble_eq_true h5)]
        exact lv_ifnonnull X.1 X.2.1 hdg ht k
    · cases hq
  | tableswitch dl lo hi os =>
    simp only [am_chk, Bool.and_eq_true, decide_eq_true_eq] at hck
    obtain ⟨hdg, hd, h1, h2, h3⟩ := hck
    simp only [am_s2] at hq
    split at hq
    · rename_i a r
      simp only [Option.some.injEq, Prod.mk.injEq] at hq
      obtain ⟨rfl, rfl⟩ := hq
      obtain ⟨i1, i2⟩ := sw_tab (a := a) hd os.toList lo tb h3
      by_cases ho : a.toInt < lo ∨ lo + (os.toList.length : Int) ≤ a.toInt
      · have e : am_swt a y tb = y := i1 ho
        rw [e] at k
        exact lv_tableOut X.1 X.2.1 hdg (by omega) hd k
      · obtain ⟨o, e1, e2⟩ := i2 ho
        exact lv_tableIn X.1 X.2.1 hdg (by omega) (by omega) (by rw [← Array.getElem?_toList]; exact e1) e2 k
    · cases hq
  | lookupswitch dl ps =>
    simp only [am_chk, Bool.and_eq_true, decide_eq_true_eq] at hck
    obtain ⟨hdg, hd, h1, h2⟩ := hck
    simp only [am_s2] at hq
    split at hq
    · rename_i a r
      simp only [Option.some.injEq, Prod.mk.injEq] at hq
      obtain ⟨rfl, rfl⟩ := hq
      exact lv_lookup X.1 X.2.1 hdg h1 rfl (sw_look (a := a) hd tb ps.toList h2) k
    · cases hq
  | _ => cases hq
/-- an answer of a narrow type -/
theorem sm_zret {cc : ByteArray} {Qc : Array Value → State → Outcome → State → Prop} {free : Addr → Prop} {v z : Int32} {ty : FieldType} (hexec : p.tables.exec = Jvm.exec) (hb : c.code = cc) (hr : meth.sig.returnType = some ty) (hn : narrow ty (.int v) = .int z) (hq : ∀ t : State, t.heap = H → s.WarmedH t.vm → Qc args s (.returned (some (.int z))) t) (hf : ∀ q ∈ locs, free q.base) (hdg : decode cc pc = .ok (.ireturn, 1)) (hlocks : meth.locks = false) : W p l e R s mI args below meth c H locs cells slots (MQ below Qc args s cells slots free) (F0 mI pc ls [.int v]) := by
  intro T hT X
  obtain ⟨fs, hret, hrun, hended, hW, hframe⟩ := X.leave (v := some (.int z)) (hlocks := hlocks) (fun h => by rw [hr] at h; cases h)
  have hmeth' : T.vm.method? mI = some meth := X.method'
  refine ⟨T.setFrames fs, ?_, .returned (some (.int z)), hrun, hended, hq _ hT hW, locs, ⟨⟨_, rfl⟩, hW, hframe⟩, hf⟩
  jvm_step X.here [X.here.top, hexec, hb, hdg, hmeth', hr, hn]
  (try refine ⟨rfl, ?_⟩); (try refine ⟨rfl, ?_⟩)
  first | (intro acts; rw [hret _ acts rfl rfl rfl]) | rw [hret _ _ rfl rfl rfl]
  exact Steps.refl _
theorem sm_s4 {i : am_P} {v : Option Value} {Qc : Array Value → State → Outcome → State → Prop} {free : Addr → Prop} (X : sm_cx G p R s mI args meth c m d) (hck : am_chk m pc i = true) (hsr : 3 ≤ am_srt i) (hrt : meth.sig.returnType = am_rt m) (hlocks : meth.locks = false) (hq : am_s4 i S = some v) (hf : ∀ q ∈ locs, free q.base) (hQ : ∀ t : State, t.heap = H → s.WarmedH t.vm → Qc args s (.returned (v.map (sm_v G))) t) : W p l e R s mI args below meth c H locs cells slots (MQ below Qc args s cells slots free) (F0 mI pc ls (S.map (sm_v G))) := by
  have hP := X.2.2.2.2.2.2.2.2.2
  obtain ⟨ins, ⟨ln, sr, x, y, z, w⟩, im, tb⟩ := i
  match sr, hsr, hck with
  | sr + 3, _, hck =>
  simp only [am_chk, Bool.and_eq_true, decide_eq_true_eq] at hck
  obtain ⟨hdg, hck⟩ := hck
  cases ins with
  | ireturn =>
    simp only [am_s4] at hq
    split at hq
    · rename_i v0
      cases hq
      have hck : (match am_rt m with | some .int => Nat.beq w 0 | some .boolean => Nat.beq w 1 | some .char => Nat.beq w 2 | some .byte => Nat.beq w 3 | _ => false) = true := hck
      split at hck
      · rename_i hty
        have e : w = 0 := Nat.eq_of_beq_eq_true hck
        subst e
        exact sm_zret X.1 X.2.1 (hrt.trans hty) rfl hQ hf hdg hlocks
      · rename_i hty
        have e : w = 1 := Nat.eq_of_beq_eq_true hck
        subst e
        exact sm_zret X.1 X.2.1 (hrt.trans hty) rfl hQ hf hdg hlocks
      · rename_i hty
        have e : w = 2 := Nat.eq_of_beq_eq_true hck
        subst e
        exact sm_zret X.1 X.2.1 (hrt.trans hty) rfl hQ hf hdg hlocks
      · rename_i hty
        have e : w = 3 := Nat.eq_of_beq_eq_true hck
        subst e
        exact sm_zret X.1 X.2.1 (hrt.trans hty) rfl hQ hf hdg hlocks
      · cases hck
    · cases hq
  | lreturn =>
    simp only [am_s4] at hq
    split at hq
    · cases hq
      exact W.lret X.1 X.2.1 (hrt.trans (of_decide_eq_true hck)) hQ hf hdg hlocks
    · cases hq
  | areturn =>
    have hty : ∃ rt, am_rt m = some rt ∧ ((∃ n, rt = .object n) ∨ ∃ t, rt = .array t) := by
      have hck : (match am_rt m with | some (.object _) => true | some (.array _) => true | _ => false) = true := hck
      split at hck
      · rename_i n h
        exact ⟨_, h, Or.inl ⟨n, rfl⟩⟩
      · rename_i t h
        exact ⟨_, h, Or.inr ⟨t, rfl⟩⟩
      · cases hck
    obtain ⟨rt, h1, h2⟩ := hty
    simp only [am_s4] at hq
    split at hq
    · rename_i a
      cases hq
      exact W.aret X.1 X.2.1 (hrt.trans h1) h2 (sm_isr (G := G) (v := .ref a) hP rfl) hQ hf hdg hlocks
    · cases hq
      exact W.aret X.1 X.2.1 (hrt.trans h1) h2 (Or.inl rfl) hQ hf hdg hlocks
    · cases hq
  | return_ =>
    simp only [am_s4] at hq
    split at hq
    · cases hq
      exact W.vret X.1 X.2.1 (hrt.trans (of_decide_eq_true hck)) hQ hf hdg hlocks
    · cases hq
  | _ => cases hq
end SM10
