/-! THE CLAIM OUT OF ONE WALK OF THE LAW'S BODY. Your part is whole_start (and what it stands on); all else here is the same for every law, but numbers. -/
def R_law : String := "EvenlyPouredLaw"
def lw_P (b : Addr) (xs : List Int32) (args : Array Value) (s : State) : Prop := args = #[.ref b] ∧ s.IntsAt b xs ∧ xs.length ≤ 3072 ∧ (Jvm.Cond.and given_1 narrow_1).before args s = true
def lw_Q (_ : Array Value) (s : State) (o : Outcome) (t : State) : Prop := o = .returned (some (.int 1)) ∧ Framed s o t [] 600000 7302250
def lw_Z (below : List Frame) (a : Array Value) (s : State) : State → Prop := fun t => ∃ o, t.status = .running ∧ Ended t below o ∧ lw_Q a s o t
/-- the law's own end, with 1 on the stack, nothing written that was there before, its room as the claim has it -/
theorem lw_ret {p : Program} {l : Launch} {e : Env} {s : State} {m : MethodId} {below : List Frame} {meth : Method} {c : Code} {b : Nat} (hx : p.tables.exec = Jvm.exec) (hb : c.code = code) (hr : meth.sig.returnType = ret) (hlocks : meth.locks = false) {pc : Nat} {H : Heap} {ls : Array Slot} (hdg : decode code pc = .ok (.ireturn, 1)) : W p l e room_1 s m #[Value.ref b] below meth c H [] 600000 7302250 (lw_Z below #[Value.ref b] s) (F0 m pc ls [.int 1]) := by
  intro T hT X
  obtain ⟨fs, hret, hrun, hended, hW, hframe⟩ := X.leave (v := some (.int 1)) (hlocks := hlocks) (fun h => by rw [hr] at h; cases h)
  have hmeth' : T.vm.method? m = some meth := X.method'
  refine ⟨T.setFrames fs, ?_, .returned (some (.int 1)), hrun, hended, rfl, ⟨_, rfl⟩, hW, hframe⟩
  jvm_step X.here [X.here.top, hx, hb, hdg, hmeth', hr, ret, narrow_b1]
  (try refine ⟨rfl, ?_⟩); (try refine ⟨rfl, ?_⟩)
  first | (intro acts; rw [hret _ acts rfl rfl rfl]) | rw [hret _ _ rfl rfl rfl]
  exact Steps.refl _
/-- what holds at the law's entry: the machine, the code, the tables' words (any of lw_tbl by 'hts w (by decide +kernel)'), the script of L ints xs at the cell b, what the Statement gives of the start (any of its parts by flat_of_before) -/
def lw_At (p : Program) (s : State) (m : MethodId) (meth : Method) (c : Code) (b L : Nat) (xs : Nat → Int32) : Prop :=
  p.tables.exec = Jvm.exec ∧ c.code = code ∧ meth.sig.returnType = ret ∧ c.maxLocals = 4 ∧ s.vm.findClass R_law = some m.cls ∧ (∀ w ∈ lw_tbl, w.before #[Value.ref b] s = true) ∧ va_X b L xs s s.heap ∧ b < s.heap.size ∧ meth.locks = false ∧ (Jvm.Cond.and given_1 narrow_1).before #[Value.ref b] s = true

/-! THE SIMULATION, 13: the law's entry -/
noncomputable def am_I0 (xs : Nat → Int32) (a k : Nat) : Int32 := match a with
  | 0 => xs k
  | 1 => sm_un.getD k 0
  | 3 => sm_by.getD k 0
  | _ => 0
noncomputable def am_M0 (L : Nat) (xs : Nat → Int32) : am_M := ([(20, L), (20, 6), (26, 2), (25, 59), (99, 0)], am_I0 xs, (fun a k => if a = 2 ∧ k = 1 then some 3 else none), fun _ _ => 0)
/-- what is left to be shown: on every script the law's run answers 1, within the room -/
def whole_pure : Prop := ∀ (L : Nat) (xs : Nat → Int32), L ≤ 3072 → ∃ M' : am_M, am_R 2048 207 0 (am_M0 L xs) [some (.ref 0), none, none, none] [] = some (some (.int 1), M') ∧ M'.1.length ≤ 600005 ∧ am_sz M' ≤ am_sz (am_M0 L xs) + 7302250
theorem st_by : (List.range 59).all (fun j => decide (Cond.eq (.elem (.field (.string "EvenlyPoured$Tape" 52) "java/lang/String" "value" "[B") (.int (Int32.ofNat j))) (.int (([sm_by].getD 0 []).getD j 0)) ∈ flatC (Jvm.Cond.and given_1 narrow_1))) = true := by decide +kernel
theorem st_un : (List.range 6).all (fun j => decide (Cond.eq (.elem (.static "EvenlyPoured" "UNDER" "[I") (.int (Int32.ofNat j))) (.int (sm_un.getD j 0)) ∈ flatC (Jvm.Cond.and given_1 narrow_1))) = true := by decide +kernel
theorem sm_arr {A : Array Value} {s : State} {ty : FieldType} (h : (Cond.arrayClass ty).before A s = true) : ∃ cA, s.vm.findClass ("[" ++ ty.toString) = some cA ∧ ArrOfT s cA ty := by
  obtain ⟨cA, kA, comp, h1, h2, h3⟩ := Cond.arrayClass_spec (show (Cond.arrayClass ty).holds A s none s [] = true from h)
  exact ⟨cA, h1, fun N z => ⟨(fun k h => by cases h), kA, h2, comp, h3⟩⟩
theorem sm_arrO {A : Array Value} {s : State} {C : String} (h : (Cond.arrayOver (.object C)).before A s = true) : ∃ cA, ArrOfT s cA (.object C) ∧ va_RA s cA (.object C) := by
  obtain ⟨comp, cA, kA, h1, h2, h3, h4, h5⟩ := Cond.arrayOver_spec (show (Cond.arrayOver (.object C)).holds A s none s [] = true from h)
  exact ⟨cA, fun N z => ⟨(fun k h => by cases h), kA, h3, comp, h4⟩, kA, comp, h3, h4, h1, h5⟩
theorem sameButNew_forget {s t : State} {L : List Loc} {k n k2 n2 : Nat} (h : s.sameButNew t L k n) (hL : ∀ q ∈ L, s.heap.size ≤ q.base) (hk : k ≤ k2) (hn : n ≤ n2) : s.sameButNew t [] k2 n2 := by
  obtain ⟨h1, h2, h3, h4, h5, h6⟩ := h
  refine ⟨h1, h2, by omega, h4, by omega, fun a c hc => ?_⟩
  obtain ⟨c', e1, e2, e3, e4⟩ := h6 a c hc
  refine ⟨c', e1, e2, e3, fun i _ => e4 i (fun hm => ?_)⟩
  have h7 : s.heap.size ≤ a := hL _ hm
  have h8 : a < s.heap.size := (Array.getElem?_eq_some_iff.mp hc).1
  exact absurd h7 (Nat.not_le.mpr h8)
set_option maxRecDepth 20000 in
theorem whole_open {p : Program} {e : Env} {s : State} {m : MethodId} {below : List Frame} {meth : Method} {c : Code} (l : Launch) {b L : Nat} {xs : Nat → Int32} (hL : L ≤ 3072) (C0 : lw_At p s m meth c b L xs) (hgoal : whole_pure) : W p l e room_1 s m #[Value.ref b] below meth c s.heap [] 0 0 (lw_Z below #[Value.ref b] s) (entryFrame m ([Value.ref b] : List Value).toArray 4) := by
  obtain ⟨hx, hcode, hret, hml, hown, hts, hX, hb, hlk, hgv⟩ := C0
  have hs := flat_of_before _ hgv
  have htW : ∀ w ∈ am_W, w.before #[Value.ref b] s = true := fun w hw => hts w (List.mem_filter.mp hw).1
  -- the classes
  have hcls : ∀ c0 : Nat, ∃ q0 : ClassId × (Nat → Nat), ∀ q, am_cl[c0]? = some q → u_Kn s q.1 q.2.1 q.2.2 q0.1 q0.2 := by
    intro c0
    cases hq : am_cl[c0]? with
    | none => exact ⟨(0, fun _ => 0), fun q h => by cases h⟩
    | some q =>
      obtain ⟨w1, w2, w3⟩ := cl_w hq
      obtain ⟨cC, iS, hk⟩ := u_known htW w1 (htW _ w3)
      exact ⟨(cC, iS), fun q' h => by cases h; exact hk⟩
  obtain ⟨D0, hD0⟩ := Classical.axiomOfChoice hcls
  -- the arrays
  obtain ⟨c20, f20, a20⟩ := sm_arr (htW _ cl_ar.1)
  obtain ⟨c21, f21, a21⟩ := sm_arr (htW _ cl_ar.2)
  have w22 : (Cond.arrayOver (.object "EvenlyPoured$Pourer")).before #[Value.ref b] s = true := hts _ (am_tp_in (k := 1) (List.mem_of_getElem? (i := 28) rfl))
  have w23 : (Cond.arrayOver (.object "EvenlyPoured$Text")).before #[Value.ref b] s = true := hts _ (am_tp_in (k := 1) (List.mem_of_getElem? (i := 30) rfl))
  have w24 : (Cond.arrayOver (.object "EvenlyPoured$Sheet")).before #[Value.ref b] s = true := hts _ (am_tp_in (k := 1) (List.mem_of_getElem? (i := 82) rfl))
  obtain ⟨c22, a22, r22⟩ := sm_arrO w22
  obtain ⟨c23, a23, r23⟩ := sm_arrO w23
  obtain ⟨c24, a24, r24⟩ := sm_arrO w24
  have hA : ∀ a : Nat, a < s.heap.size → ¬ s.heap.size ≤ a := fun a h => by omega
  -- the string
  obtain ⟨adK, adV, hvS, hvE⟩ := vk_Sof (args := #[Value.ref b]) (s := s) (N := 1) (tm := fun _ => .string "EvenlyPoured$Tape" 52) (len := [59]) (byt := [sm_by]) (A := fun q => s.heap.size ≤ q)
    (fun i hi => by have e : i = 0 := by omega
                    subst e; decide) (fun i hi => hs _ (by decide +kernel)) (fun i hi => hs _ (by decide +kernel)) (fun i hi => hs _ (by decide +kernel))
    (fun i hi => by have e : i = 0 := by omega
                    subst e; exact hs _ (by decide +kernel))
    (fun i hi j hj => by have e : i = 0 := by omega
                         subst e
                         exact hs _ (of_decide_eq_true (List.all_eq_true.mp st_by j (List.mem_range.mpr hj))))
    (fun i j hi hj hij => absurd (by omega : i = j) hij) hA
  -- the table
  obtain ⟨t1, ht1, hT1⟩ := va_Tof (args := #[Value.ref b]) (s := s) (tm := .static "EvenlyPoured" "UNDER" "[I") (ty := .int) (N := 6) (f := fun j => .int (sm_un.getD j 0)) (A := fun q => s.heap.size ≤ q) (by decide) (hs _ (by decide +kernel)) (va_eqt (hs _ (by decide +kernel))) (fun j hj => va_eqt (hs _ (of_decide_eq_true (List.all_eq_true.mp st_un j (List.mem_range.mpr hj))))) hA
  have hZ1 := va_Zof (A := fun q => s.heap.size ≤ q) (hts (.laysStatic "EvenlyPoured" "UNDER" "[I") (am_tp_in (k := 4) (List.mem_of_getElem? (i := 170) rfl))) (htW _ (am_mem_W (k := 1) (j := 1) rfl rfl)) ht1 hA
  have hZ2 := va_Zof (A := fun q => s.heap.size ≤ q) (v := .int 1) (hts (.laysStatic "java/lang/String" "COMPACT_STRINGS" "Z") (am_tp_in (k := 2) (List.mem_of_getElem? (i := 200) rfl))) (htW _ (am_mem_W (k := 1) (j := 13) rfl rfl)) (va_eqt (hs _ (by decide +kernel))) hA
  obtain ⟨vf, hvf, hvr⟩ := Cond.isRef_spec (hs (Cond.isRef (.static "jdk/internal/util/Preconditions" "SIOOBE_FORMATTER" "Ljava/util/function/BiFunction;")) (by decide +kernel))
  have hZ3 := va_Zof (A := fun q => s.heap.size ≤ q) (hts (.laysStatic "jdk/internal/util/Preconditions" "SIOOBE_FORMATTER" "Ljava/util/function/BiFunction;") (am_tp_in (k := 2) (List.mem_of_getElem? (i := 216) rfl))) (htW _ (am_mem_W (k := 1) (j := 15) rfl rfl)) hvf hA
  have hvr2 : vf = .null ∨ ∃ t, vf = .ref t := by
    clear hvf
    cases vf <;> first | exact Or.inl rfl | exact Or.inr ⟨_, rfl⟩ | cases hvr
  -- what the simulation is about
  obtain ⟨G, hG⟩ : ∃ G : sm_G, G = ((fun c => (D0 c).1, fun c => (D0 c).2), (fun c => match c with | 20 => c20 | 21 => c21 | 22 => c22 | 23 => c23 | _ => c24), (fun k => match k with | 0 => b | 1 => t1 | 2 => adK 0 | 3 => adV 0 | 4 => 0 | k + 5 => s.heap.size + k), s.heap.size, vf, L, xs) := ⟨_, rfl⟩
  have hS : sm_S G s := by
    rw [hG]
    refine ⟨⟨fun c0 q h => hD0 c0 q h, fun k q h => ?_⟩, fun c => ?_, fun w hw => ?_, vk_R.of (hts _ (am_tp_in (k := 2) (List.mem_of_getElem? (i := 190) rfl))) (hvE 0 (by omega)), ?_, ⟨hX, hb⟩, hT1, hZ1, hZ2, hZ3, Nat.le_refl _⟩
    · rcases k with _ | _ | _ | _ | _ | k
      · cases h; exact ⟨a20, f20⟩
      · cases h; exact ⟨a21, f21⟩
      · cases h; exact ⟨a22, r22⟩
      · cases h; exact ⟨a23, r23⟩
      · cases h; exact ⟨a24, r24⟩
      · cases h
    · rcases cl_rc c with h | h | h <;> rw [h]
      · exact va_AO.of w22
      · exact va_AO.of w23
      · exact va_AO.of w24
    · have hw1 := (List.mem_filter.mp hw).1
      have hw2 := (List.mem_filter.mp hw).2
      cases w <;> first | exact va_Nw.of rfl (hts _ hw1) | cases hw2
    · exact ⟨fun i hi => by have e : i = 0 := by omega
                            subst e; exact hvS.1 0 (by omega), fun i j hi hj _ => by omega⟩
  have hP : sm_P G := by
    rw [hG]
    exact ⟨fun k => rfl, hvr2, by show L < 2 ^ 31; omega⟩
  obtain ⟨M', hrun, hr1, hr2⟩ := hgoal L xs hL
  obtain ⟨n, hn⟩ := am_R_some hrun
  have ha0 : sm_a G 0 = b := by rw [hG]
  have hrl : sm_rl G (am_M0 L xs) s s.heap [] := by
    refine ⟨⟨fun k hk c0 n0 h => ?_, ?_, Nat.le_refl _⟩, ⟨?_, ?_, fun j hj => rfl, rfl, rfl, fun j hj => rfl, fun a k v ha hv => ?_⟩, va_S.rf⟩
    · exact absurd (show ([(20, L), (20, 6), (26, 2), (25, 59), (99, 0)] : List (Nat × Nat))[k]? = some (c0, n0) from h) (by rw [List.getElem?_eq_none (by simpa using hk)]; intro h; cases h)
    · rw [hG]; rfl
    · rw [hG]; rfl
    · intro j hj
      rw [hG]; rfl
    · exfalso
      have hv : (if a = 2 ∧ k = 1 then some 3 else none : Option Nat) = some v := hv
      rw [if_neg (fun h => by omega)] at hv
      cases hv
  have hin := sm_in (G := G) (as := [.ref 0]) (n := 4) hP rfl (by decide)
  have e0 : ([.ref 0] : List Value).map (sm_v G) = [.ref b] := by
    show [sm_v G (.ref 0)] = [.ref b]
    rw [sm_vr (by decide), ha0]
  rw [e0] at hin
  rw [lg_entry_eq]
  have k := sm_all G l n 2048 207 0 (am_M0 L xs) [some (.ref 0), none, none, none] [] (some (.int 1)) M' hn p e room_1 s m #[Value.ref b] below meth c s.heap [] 0 0 (M'.1.length - 5) (am_sz M' - am_sz (am_M0 L xs)) _ ⟨hx, hcode, hml, hown, htW, hS, Or.inl rfl, Nat.le_refl _, Nat.le_of_ble_eq_true rfl, hP⟩ hrl hin hret hlk (by rw [Nat.zero_add]; rfl) (by omega) (by show M'.1.length - 5 ≤ 600000; omega) (by show am_sz M' - am_sz (am_M0 L xs) ≤ 7302250; omega)
  intro T hT X
  obtain ⟨t, g1, o, g2, g3, g4, L2, g5, g6⟩ := k T hT X
  refine ⟨t, g1, o, g2, g3, g4.1, g5.1, g5.2.1, sameButNew_forget g5.2.2 (fun q hq => ?_) (by omega) (by omega)⟩
  have h9 : sm_b G ≤ q.base := g6 q hq
  rw [hG] at h9
  exact h9
