/-! THE SIMULATION, 1: how an abstract memory lies in a heap -/
/-- what a simulation is about: the classes' numbers and slots, the array classes, where the cells lie, the first own address, the formatter, the script -/
abbrev sm_G : Type := va_G × (Nat → ClassId) × (Nat → Nat) × Nat × Value × Nat × (Nat → Int32)
abbrev sm_D (G : sm_G) : va_G := G.1
abbrev sm_c (G : sm_G) : Nat → ClassId := G.2.1
abbrev sm_a (G : sm_G) : Nat → Nat := G.2.2.1
abbrev sm_b (G : sm_G) : Nat := G.2.2.2.1
abbrev sm_f (G : sm_G) : Value := G.2.2.2.2.1
abbrev sm_n (G : sm_G) : Nat := G.2.2.2.2.2.1
abbrev sm_x (G : sm_G) : Nat → Int32 := G.2.2.2.2.2.2
def sm_A (G : sm_G) : Nat → Prop := fun q => sm_b G ≤ q
def sm_P (G : sm_G) : Prop := (∀ k, sm_a G (k + 5) = sm_b G + k) ∧ (sm_f G = .null ∨ ∃ t, sm_f G = .ref t) ∧ sm_n G < 2 ^ 31
/-- the machine's value of an abstract one -/
def sm_v (G : sm_G) (v : Value) : Value := match v with
  | .ref k => if k = 4 then sm_f G else .ref (sm_a G k)
  | v => v
def sm_un : List Int32 := [-1, 0, 0, 1, 2, 1]
def sm_tx : String := "drib dribs cups cup full was strong drips liked or and not "
def sm_by : List Int32 := [100, 114, 105, 98, 32, 100, 114, 105, 98, 115, 32, 99, 117, 112, 115, 32, 99, 117, 112, 32, 102, 117, 108, 108, 32, 119, 97, 115, 32, 115, 116, 114, 111, 110, 103, 32, 100, 114, 105, 112, 115, 32, 108, 105, 107, 101, 100, 32, 111, 114, 32, 97, 110, 100, 32, 110, 111, 116, 32]
def sm_fv (G : sm_G) (M : am_M) (k c j : Nat) : Value := match am_wc (am_ty c j) with
  | 1 => va_rf ((M.2.2.1 k j).map (sm_a G))
  | 2 => .long (M.2.2.2 k j)
  | _ => .int (M.2.1 k j)
def sm_at (G : sm_G) (M : am_M) (k : Nat) (H : Heap) : Prop := ∀ c n, M.1[k]? = some (c, n) → (c < 11 → (∃ q, am_cl[c]? = some q ∧ n = q.2.2) ∧ t_OB (sm_a G k) ((sm_D G).1 c) n ((sm_D G).2 c) H (sm_fv G M k c)) ∧ ((c = 20 ∨ c = 21) → H[sm_a G k]? = some (arrV (sm_c G c) n (fun j => .int (M.2.1 k j)))) ∧ (22 ≤ c → c ≤ 24 → H[sm_a G k]? = some (arrV (sm_c G c) n (fun j => va_rf ((M.2.2.1 k j).map (sm_a G))))) ∧ (c < 11 ∨ (20 ≤ c ∧ c ≤ 24))
def sm_hp (G : sm_G) (M : am_M) (H : Heap) : Prop := (∀ k, 5 ≤ k → sm_at G M k H) ∧ H.size + 5 = sm_b G + M.1.length ∧ 5 ≤ M.1.length
def sm_fr (G : sm_G) (M : am_M) : Prop := M.1.take 5 = [(20, sm_n G), (20, 6), (26, 2), (25, 59), (99, 0)] ∧ (∀ j, j < sm_n G → M.2.1 0 j = sm_x G j) ∧ (∀ j, j < 6 → M.2.1 1 j = sm_un.getD j 0) ∧ M.2.1 2 0 = 0 ∧ M.2.2.1 2 1 = some 3 ∧ (∀ j, j < 59 → M.2.1 3 j = sm_by.getD j 0) ∧ ∀ a k v, 5 ≤ a → M.2.2.1 a k = some v → 5 ≤ v
def sm_nw : List Cond := lw_tbl.filter (fun w => match w with | .fieldLinkNest .. => true | .methodLinkNest .. => true | _ => false)
def sm_ts (G : sm_G) : List (ClassId × FieldType) := [(sm_c G 20, .int), (sm_c G 21, .boolean), (sm_c G 22, .object "EvenlyPoured$Pourer"), (sm_c G 23, .object "EvenlyPoured$Text"), (sm_c G 24, .object "EvenlyPoured$Sheet")]
/-- what stays true of the tables and of the cells that aren't the law's own -/
def sm_S (G : sm_G) (U : State) : Prop := va_K (sm_D G) am_cl (sm_ts G) U ∧ (∀ c, va_AO (am_rc c) U) ∧ (∀ w ∈ sm_nw, va_Nw w U) ∧ vk_R "EvenlyPoured$Tape" 52 sm_tx (sm_a G 2) U ∧ vk_S 1 [59] [sm_by] (fun _ => sm_a G 2) (fun _ => sm_a G 3) (sm_A G) U U.heap ∧ (va_X (sm_a G 0) (sm_n G) (sm_x G) U U.heap ∧ sm_a G 0 < sm_b G) ∧ va_T .int (sm_a G 1) 6 (fun j => .int (sm_un.getD j 0)) (sm_A G) U U.heap ∧ va_Z "EvenlyPoured" "UNDER" "[I" (.ref (sm_a G 1)) (sm_A G) U U.heap ∧ va_Z "java/lang/String" "COMPACT_STRINGS" "Z" (.int 1) (sm_A G) U U.heap ∧ va_Z "jdk/internal/util/Preconditions" "SIOOBE_FORMATTER" "Ljava/util/function/BiFunction;" (sm_f G) (sm_A G) U U.heap ∧ sm_b G ≤ U.heap.size
theorem sm_nw_warm {s U : State} (hW : s.WarmedH U.vm) {w : Cond} (hw : w ∈ sm_nw) (h : va_Nw w s) : va_Nw w U := by
  have h1 := (List.mem_filter.mp hw).2
  cases w <;> first | exact va_Nw.warmF hW h | exact va_Nw.warmM hW h | cases h1
theorem sm_S.to {G : sm_G} {s U : State} (h : sm_S G s) (hW : s.WarmedH U.vm) (hq : ∀ q : Nat, q < s.heap.size → ¬ sm_A G q → U.heap[q]? = s.heap[q]?) (hb : s.heap.size ≤ U.heap.size) : sm_S G U := by
  obtain ⟨h1, h2, h3, h4, h5, ⟨h6, h6'⟩, h7, h8, h9, h10, h11⟩ := h
  have ha := hW.alike
  refine ⟨va_K.moved ha h1, fun c => va_AO.moved ha (h2 c), fun w hw => sm_nw_warm hW hw (h3 w hw), vk_R.warm hW h4, vk_S.moved ha (vk_S.kept h5 hq), ⟨va_X.moved ha (va_X.kept h6 (hq _ (Nat.lt_of_lt_of_le h6' h11) (Nat.not_le.mpr h6'))), h6'⟩, va_T.moved ha (va_T.kept h7 hq), va_Z.moved ha (va_Z.kept h8 hq), va_Z.moved ha (va_Z.kept h9 hq), va_Z.moved ha (va_Z.kept h10 hq), Nat.le_trans h11 hb⟩
/-- the locals -/
noncomputable def sm_ll (G : sm_G) (L : am_L) : List (Nat × Value) := (List.range L.length).filterMap (fun i => match L[i]? with | some (some v) => cond (am_isV v) (some (i, sm_v G v)) none | _ => none)
def sm_L (G : sm_G) (L : am_L) (ls : Array Slot) (n : Nat) : Prop := L.length = n ∧ lv_has ls n (sm_ll G L)
theorem sm_ll_mem {G : sm_G} {L : am_L} {i : Nat} {v : Value} (h : L[i]? = some (some v)) (hv : am_isV v = true) : (i, sm_v G v) ∈ sm_ll G L := by
  refine List.mem_filterMap.mpr ⟨i, List.mem_range.mpr (List.getElem?_eq_some_iff.mp h).1, ?_⟩
  rw [h]
  simp only [hv, cond_true]
theorem sm_ll_of {G : sm_G} {L : am_L} {q : Nat × Value} (h : q ∈ sm_ll G L) : ∃ v, L[q.1]? = some (some v) ∧ am_isV v = true ∧ q.2 = sm_v G v := by
  obtain ⟨i, -, hi⟩ := List.mem_filterMap.mp h
  split at hi
  · rename_i v hv
    cases hc : am_isV v with
    | false => rw [hc] at hi; cases hi
    | true =>
      rw [hc] at hi
      cases hi
      exact ⟨v, hv, hc, rfl⟩
  · cases hi
theorem sm_L.at {G : sm_G} {L : am_L} {ls : Array Slot} {n i : Nat} {v : Value} (h : sm_L G L ls n) (hi : L[i]? = some (some v)) (hv : am_isV v = true) : ls[i]? = some (.val (sm_v G v)) := h.2.2.2 _ (sm_ll_mem hi hv)
theorem sm_cat (G : sm_G) (hP : sm_P G) (v : Value) : (sm_v G v).category = v.category := by
  cases v with
  | ref k =>
    show (if k = 4 then sm_f G else Value.ref (sm_a G k)).category = 1
    split
    · rcases hP.2.1 with h | ⟨t, h⟩ <;> rw [h] <;> rfl
    · rfl
  | _ => rfl
theorem sm_clr_get {L : am_L} {x j : Nat} {v : Value} (h : (am_clr L x)[j]? = some (some v)) (hv : am_isV v = true) : L[j]? = some (some v) ∧ ¬ (j + 1 = x ∧ v.category = 2) := by
  cases x with
  | zero => exact ⟨h, fun e => by omega⟩
  | succ y =>
    replace h : (cond (am_isl L[y]?) (L.set y none) L)[j]? = some (some v) := h
    cases hc : am_isl L[y]? with
    | true =>
      rw [hc] at h
      simp only [cond_true] at h
      by_cases hj : j = y
      · subst hj
        rw [List.getElem?_set] at h
        simp at h
      · rw [List.getElem?_set_ne (Ne.symm hj)] at h
        exact ⟨h, fun e => hj (by omega)⟩
    | false =>
      rw [hc] at h
      simp only [cond_false] at h
      refine ⟨h, fun e => ?_⟩
      have hj : j = y := by omega
      subst hj
      rw [h] at hc
      obtain ⟨-, e2⟩ := e
      cases v <;> first | (cases hc; done) | (cases hv; done) | (simp [Value.category] at e2; done)
theorem sm_clr_len (L : am_L) (x : Nat) : (am_clr L x).length = L.length := by
  unfold am_clr
  split
  · rfl
  · cases am_isl _ <;> simp
/-- after a store of one slot -/
theorem sm_L.set1 {G : sm_G} (hP : sm_P G) {L : am_L} {ls' : Array Slot} {n x : Nat} {v : Value} {lv : List (Nat × Value)} (hn : L.length = n) (hx : x < n) (hlv : lv = (x, sm_v G v) :: (sm_ll G L).filter (fun q => !(q.1 == x) && !(q.1 + 1 == x && q.2.category == 2))) (h : lv_has ls' n lv) : sm_L G (am_set1 L x v) ls' n := by
  refine ⟨by unfold am_set1; rw [List.length_set, sm_clr_len]; exact hn, h.1, h.2.1, fun q hq => ?_⟩
  obtain ⟨w, h1, h2, h3⟩ := sm_ll_of hq
  refine h.2.2 q ?_
  rw [hlv]
  unfold am_set1 at h1
  by_cases hj : q.1 = x
  · rw [hj, List.getElem?_set_self (by rw [sm_clr_len]; omega)] at h1
    cases h1
    exact List.mem_cons.mpr (Or.inl (Prod.ext hj h3))
  · rw [List.getElem?_set_ne (Ne.symm hj)] at h1
    obtain ⟨g1, g2⟩ := sm_clr_get h1 h2
    refine List.mem_cons_of_mem _ (List.mem_filter.mpr ⟨?_, ?_⟩)
    · have := sm_ll_mem (G := G) g1 h2
      rw [← h3] at this
      exact this
    · rw [h3, sm_cat G hP]
      simp only [Bool.and_eq_true, Bool.not_eq_true', beq_eq_false_iff_ne, ne_eq, Bool.and_eq_false_iff]
      refine ⟨hj, ?_⟩
      by_cases e : q.1 + 1 = x
      · exact Or.inr (fun e2 => g2 ⟨e, e2⟩)
      · exact Or.inl e
theorem sm_L.set2 {G : sm_G} (hP : sm_P G) {L : am_L} {ls' : Array Slot} {n x : Nat} {v : Value} {lv : List (Nat × Value)} (hn : L.length = n) (hx : x + 1 < n) (hlv : lv = (x, sm_v G v) :: (sm_ll G L).filter (fun q => !(q.1 == x) && (!(q.1 == x + 1) && !(q.1 + 1 == x && q.2.category == 2)))) (h : lv_has ls' n lv) : sm_L G (am_set2 L x v) ls' n := by
  refine ⟨by unfold am_set2; rw [List.length_set, List.length_set, sm_clr_len]; exact hn, h.1, h.2.1, fun q hq => ?_⟩
  obtain ⟨w, h1, h2, h3⟩ := sm_ll_of hq
  refine h.2.2 q ?_
  rw [hlv]
  unfold am_set2 at h1
  by_cases hj1 : q.1 = x + 1
  · rw [hj1, List.getElem?_set_self (by rw [List.length_set, sm_clr_len]; omega)] at h1
    cases h1
  · rw [List.getElem?_set_ne (Ne.symm hj1)] at h1
    by_cases hj : q.1 = x
    · rw [hj, List.getElem?_set_self (by rw [sm_clr_len]; omega)] at h1
      cases h1
      exact List.mem_cons.mpr (Or.inl (Prod.ext hj h3))
    · rw [List.getElem?_set_ne (Ne.symm hj)] at h1
      obtain ⟨g1, g2⟩ := sm_clr_get h1 h2
      refine List.mem_cons_of_mem _ (List.mem_filter.mpr ⟨?_, ?_⟩)
      · have := sm_ll_mem (G := G) g1 h2
        rw [← h3] at this
        exact this
      · rw [h3, sm_cat G hP]
        simp only [Bool.and_eq_true, Bool.not_eq_true', beq_eq_false_iff_ne, ne_eq, Bool.and_eq_false_iff]
        refine ⟨hj, hj1, ?_⟩
        by_cases e : q.1 + 1 = x
        · exact Or.inr (fun e2 => g2 ⟨e, e2⟩)
        · exact Or.inl e
/-! THE SIMULATION, 2: the instructions that go on -/
/-- how many fields and elements -/
def am_sz (M : am_M) : Nat := (M.1.map (fun q => q.2)).sum
/-- what a method's frame has, all the time -/
def sm_cx (G : sm_G) (p : Program) (R : Room) (s : State) (mI : MethodId) (args : Array Value) (meth : Method) (c : Code) (m d : Nat) : Prop := p.tables.exec = Jvm.exec ∧ c.code = am_cd m ∧ c.maxLocals = am_mx m ∧ s.vm.findClass (am_nm m).cls = some mI.cls ∧ (∀ w ∈ am_W, w.before args s = true) ∧ sm_S G s ∧ (m = 207 ∨ meth.name = (am_nm m).name) ∧ d ≤ R.frames ∧ 40 * d ≤ R.locals ∧ sm_P G
def sm_rl (G : sm_G) (M : am_M) (s : State) (H : Heap) (locs : List Loc) : Prop := sm_hp G M H ∧ sm_fr G M ∧ va_S (sm_A G) s.heap H locs
section SM2
variable {G : sm_G} {p : Program} {l : Launch} {e : Env} {R : Room} {s : State} {mI : MethodId} {args : Array Value} {below : List Frame} {meth : Method} {c : Code} {H : Heap} {locs : List Loc} {cells slots : Nat} {Q : State → Prop} {m d pc : Nat} {ls : Array Slot} {M M1 : am_M} {L L1 : am_L} {S S1 : List Value}
/-- the goal behind an instruction -/
def sm_nx (G : sm_G) (p : Program) (l : Launch) (e : Env) (R : Room) (s : State) (mI : MethodId) (args : Array Value) (below : List Frame) (meth : Method) (c : Code) (cells slots : Nat) (Q : State → Prop) (m pc : Nat) (M M1 : am_M) (L1 : am_L) (S1 : List Value) : Prop := ∀ (H1 : Heap) (locs1 : List Loc) (ls1 : Array Slot), sm_rl G M1 s H1 locs1 → sm_L G L1 ls1 (am_mx m) → W p l e R s mI args below meth c H1 locs1 (cells + (M1.1.length - M.1.length)) (slots + (am_sz M1 - am_sz M)) Q (F0 mI pc ls1 (S1.map (sm_v G)))
theorem sm_nx.same (h : sm_nx G p l e R s mI args below meth c cells slots Q m pc M M L1 S1) (hr : sm_rl G M s H locs) (hl : sm_L G L1 ls (am_mx m)) : W p l e R s mI args below meth c H locs cells slots Q (F0 mI pc ls (S1.map (sm_v G))) := by
  have := h H locs ls hr hl
  rw [Nat.sub_self, Nat.sub_self] at this
  exact this
/-- a value off the locals -/
theorem sm_ld {t x : Nat} (hP : sm_P G) (hl : sm_L G L ls (am_mx m)) (hq : am_ld t x M L S = some (true, M1, L1, S1)) : M1 = M ∧ L1 = L ∧ ∃ v, S1 = v :: S ∧ am_isT t v = true ∧ ls[x]? = some (.val (sm_v G v)) := by
  unfold am_ld at hq
  split at hq
  · rename_i v hv
    cases ht : am_isT t v with
    | false => rw [ht] at hq; cases hq
    | true =>
      rw [ht] at hq
      cases hq
      refine ⟨rfl, rfl, v, rfl, ht, hl.at hv ?_⟩
      unfold am_isV
      cases v <;> first | rfl | (cases ht; done)
  · cases hq
theorem sm_isI {v : Value} (h : am_isT 0 v = true) : ∃ x, v = .int x := by
  cases v <;> first | exact ⟨_, rfl⟩ | (cases h; done)
theorem sm_isl {v : Value} (h : am_isT 2 v = true) : ∃ x, v = .long x := by
  cases v <;> first | exact ⟨_, rfl⟩ | (cases h; done)
theorem sm_isr {v : Value} (hP : sm_P G) (h : am_isT 1 v = true) : sm_v G v = .null ∨ ∃ x, sm_v G v = .ref x := by
  cases v with
  | null => exact Or.inl rfl
  | ref k =>
    show (if k = 4 then sm_f G else Value.ref (sm_a G k)) = .null ∨ _
    by_cases hk : k = 4
    · rcases hP.2.1 with h | ⟨t, h⟩
      · exact Or.inl (by rw [if_pos hk, h])
      · exact Or.inr ⟨t, by show (if k = 4 then sm_f G else Value.ref (sm_a G k)) = _; rw [if_pos hk, h]⟩
    · exact Or.inr ⟨sm_a G k, by show (if k = 4 then sm_f G else Value.ref (sm_a G k)) = _; rw [if_neg hk]⟩
  | _ => cases h
theorem sm_vr {k : Nat} (h : ¬ k = 4) : sm_v G (.ref k) = .ref (sm_a G k) := if_neg h
theorem sm_c1 {v : Value} (hP : sm_P G) (h : am_c1 v = true) : (sm_v G v).category = 1 := by
  rw [sm_cat G hP]
  cases v <;> first | rfl | (cases h; done)
end SM2
