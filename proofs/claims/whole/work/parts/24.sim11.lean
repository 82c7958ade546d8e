/-! THE SIMULATION, 11: calls, and the whole -/
section SM11
variable {G : sm_G} {p : Program} {l : Launch} {e : Env} {R : Room} {s : State} {mI : MethodId} {args : Array Value} {below : List Frame} {meth : Method} {c : Code} {H H1 : Heap} {locs : List Loc} {cells slots : Nat} {Q : State → Prop} {m d pc : Nat} {ls : Array Slot} {M M1 : am_M} {L L1 : am_L} {S S1 : List Value}
theorem sm_use {mc ms : Nat} {g : JFrame} {rest : List Value} {Qa : State → Outcome → State → Prop} {free : Addr → Prop} (hr : va_Run p l e R s mI args below meth c H locs cells slots mc ms g rest Qa free) (kk : ∀ (v : Option Value) (st₀ t T' : State) (L : List Loc), st₀.heap = H → T'.heap = t.heap → Qa st₀ (.returned v) t → (∀ q ∈ L, free q.base) → W p l e R s mI args below meth c T'.heap (locs ++ L) (cells + mc) (slots + ms) Q { g with pc := g.pc + 3, stack := v.toList ++ rest }) : W p l e R s mI args below meth c H locs cells slots Q g := by
  intro T hT X
  obtain ⟨v, st₀, t, T', L, h0, X', hL, e1, e2, hq, st⟩ := hr T hT X
  obtain ⟨t2, a1, b1⟩ := kk v st₀ t T' L h0 e1 hq hL T' rfl X'
  exact ⟨t2, st t2 a1, b1⟩
def sm_rm (d : Nat) (M M' : am_M) : Room := { frames := d, cells := M'.1.length - M.1.length, slots := am_sz M' - am_sz M, locals := 40 * d }
noncomputable def sm_ws (y : Nat) : List Cond := Cond.code (am_nm y) (am_cd y) (am_mx y) (am_rt y) :: am_W
def sm_Pc (G : sm_G) (M : am_M) (as : List Value) : Array Value → State → Prop := fun a U => a = (as.map (sm_v G)).toArray ∧ sm_S G U ∧ sm_hp G M U.heap ∧ sm_fr G M
def sm_Qc (G : sm_G) (v : Option Value) (M' : am_M) : Array Value → State → Outcome → State → Prop := fun _ st o t => o = .returned (v.map (sm_v G)) ∧ sm_hp G M' t.heap ∧ sm_fr G M' ∧ va_F (sm_A G) st t
/-- the contract of a run -/
def sm_K (G : sm_G) (l : Launch) (d y : Nat) (M : am_M) (as : List Value) (v : Option Value) (M' : am_M) : Prop := Met l (am_nm y) (sm_ws y) (sm_rm d M M') (sm_Pc G M as) (sm_Qc G v M') (M'.1.length - M.1.length) (am_sz M' - am_sz M) (sm_A G)
theorem sm_blind (as : List Value) : FrameBlind (sm_Pc G M as) := by
  intro a U g mk h
  obtain ⟨h1, h2, h3, h4⟩ := h
  exact ⟨h1, sm_S.to (s := U) (U := U.calling g mk a) h2 (State.WarmedH.refl U) (fun q _ _ => rfl) (Nat.le_refl _), h3, h4⟩
theorem sm_good {y : Nat} (h : y < 217) (h2 : ¬ y = 207) : GoodIn am_W (sm_ws y) := by
  intro w hw
  rcases List.mem_cons.mp hw with e | e
  · rw [e]
    exact ⟨okw_m y h h2, good_of_word (List.mem_filter.mp (okw_m y h h2)).2⟩
  · exact ⟨e, good_of_word (List.mem_filter.mp e).2⟩
theorem sm_okn {y : Nat} (h : y < 217) (h2 : ¬ y = 207) : Cond.initialized (am_nm y).cls ∈ am_W ∧ am_mx y ≤ 20 ∧ ((am_nm y).cls ≠ "java/lang/invoke/MethodHandle" ∧ (am_nm y).cls ≠ "java/lang/invoke/VarHandle") ∧ (parseMethodDescriptor (am_nm y).desc).map (fun d => d.parameters.length) = some (am_me y).2.2.2.2.2.2.2.2.2 ∧ plainName (am_nm y).cls = true ∧ ((am_me y).2.2.2.2.1 = true → Cond.static (am_nm y) ∈ am_W) ∧ ((am_me y).2.2.2.2.1 = false → Cond.instanceMethod (am_nm y) ∈ am_W ∧ (((am_nm y).name = "<init>" ∧ am_rt y = none) ∨ Cond.selects (am_nm y).cls (am_nm y) (am_nm y) ∈ am_W)) := by
  have h := okn_m y h h2
  unfold am_okn at h
  unfold am_nm am_rt
  generalize am_me y = q at h
  obtain ⟨yn, cc, mx, r, st, p1, p2, p3, p4, n⟩ := q
  simp only [Bool.and_eq_true, decide_eq_true_eq] at h
  obtain ⟨g1, g2, g3, g4, g5, g6, g7⟩ := h
  have e := Nat.eq_of_beq_eq_true g2
  refine ⟨am_lk_in g1, by rw [← e]; exact Nat.le_of_ble_eq_true g3, g4, g5, g6, fun hs => ?_, fun hs => ?_⟩
  · have hs : st = true := hs
    rw [hs] at g7
    exact am_lk_in g7
  · have hs : st = false := hs
    rw [hs] at g7
    simp only [cond_false, Bool.and_eq_true, Bool.or_eq_true, decide_eq_true_eq] at g7
    exact ⟨am_lk_in g7.1, g7.2.imp id am_lk_in⟩
theorem sm_tk : ∀ (n : Nat) (acc S as rest : List Value), am_tk n acc S = some (as, rest) → ∃ t, as = t.reverse ++ acc ∧ S = t ++ rest ∧ t.length = n := by
  intro n
  induction n with
  | zero => intro acc S as rest h; cases h; exact ⟨[], rfl, rfl, rfl⟩
  | succ n ih =>
    intro acc S as rest h
    cases S with
    | nil => cases h
    | cons v S =>
      have h : am_tk n (v :: acc) S = some (as, rest) := h
      obtain ⟨t, e1, e2, e3⟩ := ih _ _ _ _ h
      exact ⟨v :: t, by rw [e1]; simp, by rw [e2]; rfl, by simp [e3]⟩
/-- behind a call -/
theorem sm_back {mc ms nb : Nat} {rest : List Value} {free : Addr → Prop} {v : Option Value} {a : Array Value} {st0 : List Value} (hS : sm_rl G M s H locs) (hmc : mc = M1.1.length - M.1.length) (hms : ms = am_sz M1 - am_sz M) (hr : va_Run p l e R s mI args below meth c H locs cells slots mc ms (F0 mI pc ls st0) (rest.map (sm_v G)) (sm_Qc G v M1 a) (sm_A G)) (hnb : am_pc m nb = pc + 3) (k : ∀ (H1 : Heap) (locs1 : List Loc), sm_rl G M1 s H1 locs1 → W p l e R s mI args below meth c H1 locs1 (cells + (M1.1.length - M.1.length)) (slots + (am_sz M1 - am_sz M)) Q (F0 mI (am_pc m nb) ls ((v.toList ++ rest).map (sm_v G)))) : W p l e R s mI args below meth c H locs cells slots Q (F0 mI pc ls st0) := by
  refine sm_use hr (fun v' st₀ t T' L h0 e1 hq hL => ?_)
  obtain ⟨q1, q2, q3, q4, q5⟩ := hq
  cases q1
  rw [h0] at q4 q5
  have := k T'.heap (locs ++ L) ⟨by rw [e1]; exact q2, q3, Nat.le_trans hS.2.2.1 (by rw [e1]; exact q4), fun q r1 r2 => by rw [e1, q5 q (Nat.lt_of_lt_of_le r1 hS.2.2.1) r2]; exact hS.2.2.2.1 q r1 r2, fun q hq => by
    rcases List.mem_append.mp hq with h | h
    · exact hS.2.2.2.2 q h
    · exact hL q h⟩
  rw [hnb] at this
  subst hmc
  subst hms
  rw [List.map_append] at this
  cases v with
  | none => exact this
  | some v => exact this
theorem sm_catl (hP : sm_P G) (l : List Value) : ((l.map (sm_v G)).map fun v => v.category).sum = am_cat l := by
  unfold am_cat
  induction l with
  | nil => rfl
  | cons v l ih =>
    simp only [List.map_cons, List.sum_cons]
    rw [ih, sm_cat G hP]
/-- the receiver of a call -/
theorem sm_recv {a q : Nat} (hS : sm_S G s) (hr : sm_rl G M s H locs) (hk : am_kd M a q = true) (h5 : (Nat.ble 5 a || Nat.beq a 2) = true) (hc : (Nat.ble (q + 1) 11 || Nat.beq (q + 1) 27) = true) : ∃ cell : Cell, H[sm_a G a]? = some cell ∧ cell.vm.isStatics = false ∧ s.vm.findClass (am_kn q) = some cell.cls := by
  have hkd : ∃ n, M.1[a]? = some (q, n) := by
    unfold am_kd at hk
    split at hk
    · rename_i w hw
      have e : w.1 = q := Nat.eq_of_beq_eq_true hk
      exact ⟨w.2, by rw [hw, ← e]⟩
    · cases hk
  obtain ⟨n, hn⟩ := hkd
  have h2 : M.1[2]? = some (26, 2) := by
    have e1 := hr.2.1.1
    have e2 : (M.1.take 5)[2]? = M.1[2]? := List.getElem?_take_of_lt (by omega)
    rw [← e2, e1]
    rfl
  rw [Bool.or_eq_true] at h5 hc
  by_cases ha : a = 2
  · subst ha
    rw [h2] at hn
    cases hn
    exact vk_recv hS.2.2.2.2.1 (i := 0) (by omega) hr.2.2
  · have ha5 : 5 ≤ a := by
      rcases h5 with h | h
      · exact Nat.le_of_ble_eq_true h
      · exact absurd (Nat.eq_of_beq_eq_true h) ha
    obtain ⟨g1, -, -, g4⟩ := hr.1.1 a ha5 q n hn
    have hq : q < 11 := by
      rcases hc with h | h
      · exact Nat.lt_of_succ_le (Nat.le_of_ble_eq_true h)
      · have := Nat.eq_of_beq_eq_true h
        omega
    obtain ⟨⟨w, hw, -⟩, cell, h1, h2', h3, -⟩ := g1 hq
    refine ⟨cell, h1, by rw [h3]; rfl, ?_⟩
    have hK := (hS.1.1 q w hw).2
    have e : am_kn q = w.1 := by
      unfold am_kn
      rw [hw]
    rw [e, h2']
    exact hK.1
theorem sm_pre {as : List Value} (hS : sm_S G s) (hr : sm_rl G M s H locs) : ∀ U : State, U.heap = H → s.WarmedH U.vm → sm_Pc G M as ((as.map (sm_v G))).toArray U := by
  intro U hU hW
  refine ⟨rfl, sm_S.to hS hW (fun q h1 h2 => by rw [hU]; exact hr.2.2.2.1 q h1 h2) (by rw [hU]; exact hr.2.2.1), by rw [hU]; exact hr.1, hr.2.1⟩
set_option maxRecDepth 20000 in
theorem in_0 : (List.range 217).all (fun y => !(decide ((am_nm y).name = "<init>")) || (decide (am_rt y = none) && (match am_blk y 0 with | i1 :: i2 :: _ => Nat.beq (am_srt i1) 0 && (Nat.beq (am_x i1) 0 && (Nat.beq (am_srt i2) 0 && (match i1.1 with | .aload_n _ => (match i2.1 with | .invokespecial _ => true | _ => false) | _ => false))) | _ => false))) = true := by decide +kernel
/-- a constructor is run on an object -/
theorem in_ref {y n e1 : Nat} {as : List Value} {w : am_V} (hy : y < 217) (hn : (am_nm y).name = "<init>") (h : am_run n e1 y 0 M (am_in (am_mx y) as) [] = some w) : am_rt y = none ∧ ∃ a as', as = .ref a :: as' ∧ 5 ≤ a := by
  have h0 := List.all_eq_true.mp in_0 y (List.mem_range.mpr hy)
  rw [decide_eq_true hn] at h0
  simp only [Bool.not_true, Bool.false_or, Bool.and_eq_true, decide_eq_true_eq] at h0
  obtain ⟨hrt, h0⟩ := h0
  refine ⟨hrt, ?_⟩
  cases n with
  | zero => cases h
  | succ n =>
    rw [am_run] at h
    split at h0
    · rename_i i1 i2 is hb
      rw [hb] at h
      simp only [Bool.and_eq_true] at h0
      obtain ⟨s1, x1, s2, h0⟩ := h0
      rw [am_ex_cons] at h
      unfold am_st at h
      rw [Nat.eq_of_beq_eq_true s1] at h
      have h : (am_s1 e1 i1 M (am_in (am_mx y) as) []).bind _ = some w := h
      cases hq : am_s1 e1 i1 M (am_in (am_mx y) as) [] with
      | none => rw [hq] at h; cases h
      | some q =>
        rw [hq] at h
        simp only [Option.bind_some] at h
        split at h0
        · rename_i a1 ha1
          obtain ⟨ins, ⟨ln, sr, x, yy, z, ww⟩, im, tb⟩ := i1
          have ha1 : ins = .aload_n a1 := ha1
          subst ha1
          have x1 : x = 0 := Nat.eq_of_beq_eq_true x1
          subst x1
          have hq : am_ld 1 0 M (am_in (am_mx y) as) [] = some q := hq
          unfold am_ld at hq
          split at hq
          · rename_i v hv
            cases hT : am_isT 1 v with
            | false => rw [hT] at hq; cases hq
            | true =>
              rw [hT] at hq
              cases hq
              rw [am_ex_cons] at h
              unfold am_st at h
              rw [Nat.eq_of_beq_eq_true s2] at h
              have h : (am_s1 e1 i2 M (am_in (am_mx y) as) [v]).bind _ = some w := h
              cases hq2 : am_s1 e1 i2 M (am_in (am_mx y) as) [v] with
              | none => rw [hq2] at h; cases h
              | some q2 =>
                split at h0
                · rename_i a2 ha2
                  obtain ⟨ins2, r2⟩ := i2
                  have ha2 : ins2 = .invokespecial a2 := ha2
                  subst ha2
                  have hq3 : am_oi e1 M (am_in (am_mx y) as) [v] = some q2 := hq2
                  unfold am_oi at hq3
                  split at hq3
                  · rename_i a hS
                    cases hS
                    rw [hq2] at h
                    clear hq2
                    cases h5 : Nat.ble 5 a with
                    | false =>
                      rw [h5] at hq3
                      simp only [Bool.and_false] at hq3
                      cases hq3
                      exfalso
                      simp only [Option.bind_some, Bool.false_and] at h
                      rw [fl_ex] at h
                      cases h
                    | true =>
                      cases as with
                      | nil =>
                        exfalso
                        unfold am_in am_sl at hv
                        simp only [List.nil_append, List.length_nil] at hv
                        rw [List.getElem?_replicate] at hv
                        split at hv <;> simp at hv
                      | cons a0 as =>
                        refine ⟨a, as, ?_, Nat.le_of_ble_eq_true h5⟩
                        have : (am_in (am_mx y) (a0 :: as))[0]? = some (some a0) := by
                          unfold am_in
                          have e : am_sl (a0 :: as) = cond (am_isT 2 a0) (some a0 :: none :: am_sl as) (some a0 :: am_sl as) := rfl
                          rw [e]
                          cases am_isT 2 a0 <;> rfl
                        rw [this] at hv
                        cases hv
                        rfl
                  · cases hq3
                · cases h0
          · cases hq
        · cases h0
    · cases h0
/-- a call -/
theorem sm_s3 {i : am_P} {e1 : Nat} {as rest : List Value} {v : Option Value} (X : sm_cx G p R s mI args meth c m (e1 + 1)) (hr : sm_rl G M s H locs) (hl : sm_L G L ls (am_mx m)) (hsr : am_srt i = 2) (hck : am_chk m pc i = true) (hq : am_s3 i M S = some (true, as, rest)) (hy : am_x i < 217) (hy2 : ¬ am_x i = 207) (hK : sm_K G l e1 (am_x i) M as v M1) (hrun : ∃ n, am_run n e1 (am_x i) 0 M (am_in (am_mx (am_x i)) as) [] = some (v, M1)) (hcl : cells + (M1.1.length - M.1.length) ≤ R.cells) (hsl : slots + (am_sz M1 - am_sz M) ≤ R.slots) (k : ∀ (H1 : Heap) (locs1 : List Loc), sm_rl G M1 s H1 locs1 → W p l e R s mI args below meth c H1 locs1 (cells + (M1.1.length - M.1.length)) (slots + (am_sz M1 - am_sz M)) Q (F0 mI (am_pc m (am_y i)) ls ((v.toList ++ rest).map (sm_v G)))) : W p l e R s mI args below meth c H locs cells slots Q (F0 mI pc ls (S.map (sm_v G))) := by
  have hP := X.2.2.2.2.2.2.2.2.2
  have hS := X.2.2.2.2.2.1
  have hF1 : e1 + 1 ≤ R.frames := X.2.2.2.2.2.2.2.1
  have hF2 : 40 * (e1 + 1) ≤ R.locals := X.2.2.2.2.2.2.2.2.1
  have S0 : CallFix p mI c (am_cd m) (am_mx m) s args am_W (am_nm m).cls := ⟨X.1, X.2.1, X.2.2.1, X.2.2.2.1, X.2.2.2.2.1⟩
  have hts := X.2.2.2.2.1
  obtain ⟨ins, ⟨ln, sr, x, y, z, w⟩, im, tb⟩ := i
  have hsr : sr = 2 := hsr
  subst hsr
  have hy : x < 217 := hy
  have hy2 : ¬ x = 207 := hy2
  have hK : sm_K G l e1 x M as v M1 := hK
  have hrun : ∃ n, am_run n e1 x 0 M (am_in (am_mx x) as) [] = some (v, M1) := hrun
  obtain ⟨o1, o2, o3, o4, o5, o6, o7⟩ := sm_okn hy hy2
  have hgood := sm_good hy hy2
  simp only [am_chk, Bool.and_eq_true, decide_eq_true_eq, Bool.or_eq_true] at hck
  obtain ⟨hdg, hck⟩ := hck
  replace hck := hck.resolve_left (fun h => by
    have := Nat.le_of_ble_eq_true h
    have e : am_x (ins, (ln, 2, x, y, z, w), im, tb) = x := rfl
    omega)
  obtain ⟨hpc, hck⟩ := hck
  have hpc : am_pc m y = pc + 3 := Nat.eq_of_beq_eq_true hpc
  have hq' : ∃ t, S = t ++ rest ∧ as = t.reverse ∧ t.length = z ∧ am_cat rest ≤ 8 ∧ am_rcv M w as = true := by
    unfold am_s3 at hq
    split at hq
    · rename_i q hh
      simp only [Option.some.injEq, Prod.mk.injEq, Bool.and_eq_true] at hq
      obtain ⟨⟨h1, h2⟩, h3, h4⟩ := hq
      obtain ⟨q1, q2⟩ := q
      obtain ⟨t, g1, g2, g3⟩ := sm_tk _ _ _ _ _ hh
      subst h3
      subst h4
      exact ⟨t, g2, by rw [g1]; simp, g3, Nat.le_of_ble_eq_true h1, h2⟩
    · cases hq
  obtain ⟨t, eS, eas, elen, hcat, hrcv⟩ := hq'
  have hW8 : 2 * (F0 mI pc ls (S.map (sm_v G))).monitorRoom + ((rest.map (sm_v G)).map fun v => v.category).sum ≤ 8 := by
    rw [sm_catl hP]
    exact Nat.le_trans (Nat.le_of_eq (by show 2 * 0 + am_cat rest = am_cat rest; omega)) hcat
  have hroom : (sm_rm e1 M M1).frames + 1 ≤ R.frames ∧ 8 + (am_mx x + 11) + (sm_rm e1 M M1).locals ≤ R.locals := ⟨hF1, by show 8 + (am_mx x + 11) + 40 * e1 ≤ R.locals; omega⟩
  have fin : ∀ (a : Array Value), va_Run p l e R s mI args below meth c H locs cells slots (M1.1.length - M.1.length) (am_sz M1 - am_sz M) (F0 mI pc ls (S.map (sm_v G))) (rest.map (sm_v G)) (sm_Qc G v M1 a) (sm_A G) → W p l e R s mI args below meth c H locs cells slots Q (F0 mI pc ls (S.map (sm_v G))) := fun a hrun => sm_back (free := sm_A G) (nb := y) hr rfl rfl hrun hpc k
  cases ins with
  | invokevirtual k0 =>
    have hck : am_cw (am_nm m).cls k0 (.invokevirtual k0, (ln, 2, x, y, z, w), im, tb) 0 = true := hck
    unfold am_cw at hck
    replace hck : (match am_me x with | (y, _, _, _, st, _, _, _, _, n) => (am_lk im.toNatClampNeg (.methodLink (am_nm m).cls k0 y) || am_nk im.toNatClampNeg (.methodLinkNest (am_nm m).cls k0 y "EvenlyPoured")) && (cond st false (decide (¬ y.name = "<init>") && (Nat.ble 1 w && ((Nat.ble w 11 || Nat.beq w 27) && (decide (am_kn (w - 1) = y.cls) && Nat.beq z (n + 1))))))) = true := hck
    have hnm : (am_me x).1 = am_nm x := rfl
    rw [← hnm] at o3 o4 o5 o6 o7
    generalize hme : am_me x = q at hck o4 o6 o7 hnm o3 o5
    obtain ⟨yn, cc, mx, rr, st, p1, p2, p3, p4, n⟩ := q
    have hnm : yn = am_nm x := hnm
    subst hnm
    cases st with
    | true => simp at hck
    | false =>
      simp only [cond_false, Bool.and_eq_true, Bool.or_eq_true, decide_eq_true_eq] at hck
      obtain ⟨hlk, hni, hw1, hw2, hkn, hz⟩ := hck
      have hz : z = n + 1 := Nat.eq_of_beq_eq_true hz
      have hw1 : 1 ≤ w := Nat.le_of_ble_eq_true hw1
      obtain ⟨hin, hsel⟩ := o7 rfl
      have hsel := hsel.resolve_left (fun h => hni h.1)
      obtain ⟨c0, rfl⟩ : ∃ c0, w = c0 + 1 := ⟨w - 1, by omega⟩
      cases as with
      | nil => exact absurd (show false = true from hrcv) (by decide)
      | cons a0 as' =>
       cases a0 with
       | ref a =>
        have hrcv : (am_kd M a c0 && (Nat.ble 5 a || Nat.beq a 2)) = true := hrcv
        rw [Bool.and_eq_true] at hrcv
        have hrec := sm_recv hS hr hrcv.1 hrcv.2 (by rw [Bool.or_eq_true]; exact hw2)
        rw [show c0 + 1 - 1 = c0 from rfl] at hkn
        rw [hkn] at hrec
        have ha4 : ¬ a = 4 := by
          rcases (Bool.or_eq_true _ _).mp hrcv.2 with h | h
          · exact fun e => absurd (show (5 : Nat) ≤ 4 by have h' := Nat.le_of_ble_eq_true h; rw [e] at h'; exact h') (by decide)
          · exact fun e => absurd (show (4 : Nat) = 2 by have h' := Nat.eq_of_beq_eq_true h; rw [e] at h'; exact h') (by decide)
        have hst : S.map (sm_v G) = (as'.map (sm_v G)).reverse ++ .ref (sm_a G a) :: rest.map (sm_v G) := by
          have e : t = as'.reverse ++ [.ref a] := by
            have := congrArg List.reverse eas
            rw [List.reverse_reverse] at this
            rw [← this]; simp
          rw [eS, e]
          simp [sm_vr ha4]
        have hlen : (as'.map (sm_v G)).length = n := by
          have : (Value.ref a :: as').length = z := by rw [eas, List.length_reverse]; exact elen
          simp at this ⊢
          omega
        have hpre : PreV s H (am_nm x).cls (sm_a G a) (sm_Pc G M (.ref a :: as')) (as'.map (sm_v G)) := ⟨sm_blind _, hrec, fun U hU hW => by
          have := sm_pre (as := .ref a :: as') hS hr U hU hW
          rw [List.map_cons, sm_vr ha4] at this
          exact this⟩
        rcases hlk with hlk | hlk
        · refine fin _ (va_runV S0 hK ⟨callB_of (Ts := am_W) n hts hgood rfl rfl rfl (hts _ o1) (hts _ (am_lk_in hlk)) ⟨o3.1, o3.2, o4⟩ hroom, hts _ hin, hts _ hsel⟩ hpre rfl hlen hl.2.1 hst hW8 hdg ⟨hcl, hsl⟩)
        · have hnw : va_Nw (.methodLinkNest (am_nm m).cls k0 (am_nm x) "EvenlyPoured") s := hS.2.2.1 _ (List.mem_filter.mpr ⟨am_nk_in hlk, rfl⟩)
          refine fin _ (va_runVN S0 hK ⟨va_cnB (Ts := am_W) n hts hgood rfl rfl rfl hnw (hts _ o1) ⟨o3.1, o3.2, o4⟩ hroom, hts _ hin, hts _ hsel⟩ hpre rfl hlen hl.2.1 hst hW8 hdg ⟨hcl, hsl⟩)
       | _ => exact absurd (show false = true from hrcv) (by decide)
  | invokestatic k0 =>
    have hck : am_cw (am_nm m).cls k0 (.invokestatic k0, (ln, 2, x, y, z, w), im, tb) 1 = true := hck
    unfold am_cw at hck
    replace hck : (match am_me x with | (y, _, _, _, st, _, _, _, _, n) => (am_lk im.toNatClampNeg (.methodLink (am_nm m).cls k0 y) || am_nk im.toNatClampNeg (.methodLinkNest (am_nm m).cls k0 y "EvenlyPoured")) && (cond st (Nat.beq w 0 && Nat.beq z n) false)) = true := hck
    have hnm : (am_me x).1 = am_nm x := rfl
    rw [← hnm] at o3 o4 o5 o6 o7
    generalize hme : am_me x = q at hck o4 o6 o7 hnm o3 o5
    obtain ⟨yn, cc, mx, rr, st, p1, p2, p3, p4, n⟩ := q
    have hnm : yn = am_nm x := hnm
    subst hnm
    cases st with
    | false => simp at hck
    | true =>
      simp only [cond_true, Bool.and_eq_true, Bool.or_eq_true] at hck
      obtain ⟨hlk, -, hz⟩ := hck
      have hz : z = n := Nat.eq_of_beq_eq_true hz
      have hstt := o6 rfl
      have hst : S.map (sm_v G) = (as.map (sm_v G)).reverse ++ rest.map (sm_v G) := by
        rw [eS, eas]
        simp
      have hlen : (as.map (sm_v G)).length = n := by
        rw [List.length_map, eas, List.length_reverse, elen, hz]
      have hpre : PreS s H (sm_Pc G M as) (as.map (sm_v G)) := ⟨sm_blind _, sm_pre hS hr⟩
      rcases hlk with hlk | hlk
      · refine fin _ (va_runS S0 hK ⟨callB_of (Ts := am_W) n hts hgood rfl rfl rfl (hts _ o1) (hts _ (am_lk_in hlk)) ⟨o3.1, o3.2, o4⟩ hroom, hts _ hstt⟩ hpre rfl hlen hl.2.1 hst hW8 hdg ⟨hcl, hsl⟩)
      · have hnw : va_Nw (.methodLinkNest (am_nm m).cls k0 (am_nm x) "EvenlyPoured") s := hS.2.2.1 _ (List.mem_filter.mpr ⟨am_nk_in hlk, rfl⟩)
        refine fin _ (va_runSN S0 hK ⟨va_cnB (Ts := am_W) n hts hgood rfl rfl rfl hnw (hts _ o1) ⟨o3.1, o3.2, o4⟩ hroom, hts _ hstt, trivial⟩ hpre rfl hlen hl.2.1 hst hW8 hdg ⟨hcl, hsl⟩)
  | invokespecial k0 =>
    have hck : am_cw (am_nm m).cls k0 (.invokespecial k0, (ln, 2, x, y, z, w), im, tb) 2 = true := hck
    unfold am_cw at hck
    replace hck : (match am_me x with | (y, _, _, _, st, _, _, _, _, n) => (am_lk im.toNatClampNeg (.methodLink (am_nm m).cls k0 y) || am_nk im.toNatClampNeg (.methodLinkNest (am_nm m).cls k0 y "EvenlyPoured")) && (cond st false (decide (y.name = "<init>") && (Nat.beq w 0 && Nat.beq z (n + 1))))) = true := hck
    have hnm : (am_me x).1 = am_nm x := rfl
    rw [← hnm] at o3 o4 o5 o6 o7
    generalize hme : am_me x = q at hck o4 o6 o7 hnm o3 o5
    obtain ⟨yn, cc, mx, rr, st, p1, p2, p3, p4, n⟩ := q
    have hnm : yn = am_nm x := hnm
    subst hnm
    cases st with
    | true => simp at hck
    | false =>
      simp only [cond_false, Bool.and_eq_true, Bool.or_eq_true, decide_eq_true_eq] at hck
      obtain ⟨hlk, hni, -, hz⟩ := hck
      have hz : z = n + 1 := Nat.eq_of_beq_eq_true hz
      obtain ⟨hin, hsel⟩ := o7 rfl
      obtain ⟨nf, hrun⟩ := hrun
      obtain ⟨hrt, a, as', eas', ha5⟩ := in_ref hy hni hrun
      subst eas'
      have ha4 : ¬ a = 4 := fun e => absurd (show (5 : Nat) ≤ 4 by rw [e] at ha5; exact ha5) (by decide)
      have hws : sm_ws x = Cond.code (am_nm x) (am_cd x) (am_mx x) none :: am_W := by unfold sm_ws; rw [hrt]
      have hst : S.map (sm_v G) = (as'.map (sm_v G)).reverse ++ .ref (sm_a G a) :: rest.map (sm_v G) := by
        have e : t = as'.reverse ++ [.ref a] := by
          have := congrArg List.reverse eas
          rw [List.reverse_reverse] at this
          rw [← this]; simp
        rw [eS, e]
        simp [sm_vr ha4]
      have hlen : (as'.map (sm_v G)).length = n := by
        have : (Value.ref a :: as').length = z := by rw [eas, List.length_reverse]; exact elen
        simp at this ⊢
        omega
      have hpre : PreS s H (sm_Pc G M (.ref a :: as')) (.ref (sm_a G a) :: as'.map (sm_v G)) := ⟨sm_blind _, fun U hU hW => by
        have := sm_pre (as := .ref a :: as') hS hr U hU hW
        rw [List.map_cons, sm_vr ha4] at this
        exact this⟩
      rcases hlk with hlk | hlk
      · refine fin _ (va_runI S0 hK ⟨callB_of (Ts := am_W) n hts hgood hws rfl rfl (hts _ o1) (hts _ (am_lk_in hlk)) ⟨o3.1, o3.2, o4⟩ hroom, hni, hts _ hin⟩ hpre rfl hlen hl.2.1 hst hW8 hdg ⟨hcl, hsl⟩)
      · have hnw : va_Nw (.methodLinkNest (am_nm m).cls k0 (am_nm x) "EvenlyPoured") s := hS.2.2.1 _ (List.mem_filter.mpr ⟨am_nk_in hlk, rfl⟩)
        refine fin _ (va_runIN S0 hK ⟨va_cnB (Ts := am_W) n hts hgood hws rfl rfl hnw (hts _ o1) ⟨o3.1, o3.2, o4⟩ hroom, hni, hts _ hin⟩ hpre rfl hlen hl.2.1 hst hW8 hdg ⟨hcl, hsl⟩)
  | _ => cases hck
end SM11
