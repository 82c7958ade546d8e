/-! PURE, 16: the model's parts -/
def evl (nm : Nat → Int32) : List Int32 → List Int32 → Option (List Int32)
  | [], st => some st
  | c :: cs, st => (match wv1 nm c st with | some st' => evl nm cs st' | none => none)
theorem evl_a {nm : Nat → Int32} : ∀ (a b st : List Int32), evl nm (a ++ b) st = (evl nm a st).bind (evl nm b)
  | [], b, st => rfl
  | c :: a, b, st => by
    show (match wv1 nm c st with | some st' => evl nm (a ++ b) st' | none => none) = (match wv1 nm c st with | some st' => evl nm a st' | none => none).bind (evl nm b)
    cases wv1 nm c st with
    | none => rfl
    | some st' => exact evl_a a b st'
theorem wv_evl {nm : Nat → Int32} : ∀ (cs st : List Int32), wv nm cs st = (match evl nm cs st with | some [x] => x | _ => 0)
  | [], st => by
    show (match st with | [x] => x | _ => 0) = (match some st with | some [x] => x | _ => 0)
    match st with
    | [] => rfl
    | [x] => rfl
    | x :: y :: r => rfl
  | c :: cs, st => by
    show (match wv1 nm c st with | some st' => wv nm cs st' | none => 0) = (match (match wv1 nm c st with | some st' => evl nm cs st' | none => none) with | some [x] => x | _ => 0)
    cases wv1 nm c st with
    | none => rfl
    | some st' => exact wv_evl cs st'
/-- a row of deeds leaves one number more -/
def Vo (nm : Nat → Int32) (hg : Nat) (w : List Int32) (x : Int32) : Prop := ∀ st : List Int32, st.length + hg ≤ 40 → evl nm w st = some (x :: st)
theorem Vo_m {nm : Nat → Int32} {a b : Nat} {w : List Int32} {x : Int32} (h : Vo nm a w x) (hab : a ≤ b) : Vo nm b w x := fun st hs => h st (by omega)
theorem Vo_1 {nm : Nat → Int32} {a : Nat} {w : List Int32} {x z c : Int32} (h : Vo nm a w x) (hc : ∀ st, wv1 nm c (x :: st) = some (z :: st)) : Vo nm a (w ++ [c]) z := fun st hs => by
  rw [evl_a, h st hs, Option.bind_some]
  show (match wv1 nm c (x :: st) with | some st' => evl nm [] st' | none => none) = _
  rw [hc st]
  rfl
theorem Vo_2 {nm : Nat → Int32} {a : Nat} {w w' : List Int32} {x y c : Int32} (h : Vo nm (a + 1) w x) (h' : Vo nm a w' y) (hc : c < 0) (hn : ¬ (c = -11 ∨ c = -3)) : Vo nm (a + 1) (w ++ w' ++ [c]) (jn c x y) := fun st hs => by
  rw [evl_a, evl_a, h st hs, Option.bind_some, h' (x :: st) (by show st.length + 1 + a ≤ 40; omega), Option.bind_some]
  show (match wv1 nm c (y :: x :: st) with | some st' => evl nm [] st' | none => none) = _
  have e : wv1 nm c (y :: x :: st) = some (jn c x y :: st) := by
    unfold wv1
    rw [if_pos hc, if_neg hn]
  rw [e]
  rfl
theorem Vo_0 {nm : Nat → Int32} {a : Nat} {c : Int32} (hc : ¬ c < 0) (ha : 0 < a) : Vo nm a [c] (wn nm c) := fun st hs => by
  show (match wv1 nm c st with | some st' => evl nm [] st' | none => none) = _
  have e : wv1 nm c st = some (wn nm c :: st) := by
    unfold wv1
    rw [if_neg hc, if_pos (by omega)]
  rw [e]
  rfl
def FM : List Nat := [22, 23, 24, 26, 27, 28]
def Mo (I I' : Nat → Nat → Int32) (G' : Nat → Nat → Int64) (bt : Nat → Nat) (n q : Nat) (o : Int32) (nm : Nat → Int32) (hg : Nat) (x : Int32) (r : PR) : Prop := f5 FM I I' ∧ (match r with
  | (q', some w) => I' 55 27 = 0 ∧ I' 55 26 = o ∧ MS I' G' bt n q' ∧ q < q' ∧ Vo nm hg w x
  | (q', none) => I' 55 27 = 1 ∧ I' 55 28 = nI q')
noncomputable def mcall (d j : Nat) (M : am_M) : Option am_V := match j with
  | 0 => am_R d 147 0 M [some (.ref 55), none] []
  | 1 => am_R d 148 0 M [some (.ref 55), none] []
  | 2 => am_R d 149 0 M [some (.ref 55), none, none, none] []
  | 3 => am_R d 150 0 M [some (.ref 55), none, none, none] []
  | 4 => am_R d 151 0 M [some (.ref 55), none, none] []
  | _ => am_R d 152 0 M [some (.ref 55), none, none] []
/-- the model's state at a token, with no fault -/
def Mq (I : Nat → Nat → Int32) (G : Nat → Nat → Int64) (bt : Nat → Nat) (n q k : Nat) (nm : Nat → Int32) : Prop := MT I bt n ∧ MS I G bt n q ∧ I 55 27 = 0 ∧ I 55 26 = nI (5 - k) ∧ ∀ i, i < 6 → I 55 (14 + i) = nm i
theorem FM_nm {I I' : Nat → Nat → Int32} {nm : Nat → Int32} (hf : f5 FM I I') (h : ∀ i, i < 6 → I 55 (14 + i) = nm i) : ∀ i, i < 6 → I' 55 (14 + i) = nm i := fun i hi => by
  rw [hf.2 (14 + i) (by unfold FM; simp; omega)]
  exact h i hi
def MPT (L : Nat) (ext : List (Nat × Nat)) (tx : Nat → Nat) (tt : Nat) (fe : Nat → Nat → Option Nat) (bt : Nat → Nat) (n k j : Nat) (nm : Nat → Int32) : Prop := ∀ (d : Nat), 7 * k + j + 12 ≤ d → ∀ (I : Nat → Nat → Int32) (G : Nat → Nat → Int64) (q : Nat), Mq I G bt n q k nm → wp (mcall d j (am_mem L ext tx tt fe I G)) (fun v M => ∃ x I' G', v = some (.int x) ∧ M = am_mem L ext tx tt fe I' G' ∧ Mo I I' G' bt n q (nI (5 - k)) nm (5 * k + 1 + j) x (Pf (cd bt n) (adv bt n) k j q))
theorem MS_h {I : Nat → Nat → Int32} {G : Nat → Nat → Int64} {bt : Nat → Nat} {n q : Nat} (h : MS I G bt n q) (h1 : ¬ cd bt n q = -1) (h2 : ¬ cd bt n q = -2) : q < n ∧ I 55 22 = nI (te bt n q) := by
  obtain ⟨h24, hqn, hor⟩ := h
  rcases hor with h | h | h | h | h
  · exfalso
    apply h1
    unfold cd
    rw [if_neg (by omega)]
  · exact ⟨h.1, h.2.2.2⟩
  · exact ⟨h.1, h.2.2.2.2.2.1⟩
  · exact ⟨h.1, h.2.2.2.2.2.1⟩
  · exact absurd h.2.2.1 h2
section B16
variable {d L : Nat} {ext : List (Nat × Nat)} {tx : Nat → Nat} {tt : Nat} {fe : Nat → Nat → Option Nat} {I : Nat → Nat → Int32} {G : Nat → Nat → Int64}
theorem s_141 (hb : I 55 27 = 0) : (am_R (d) 141 0 (am_mem L ext tx tt fe I G) [some (Value.ref 55)] []) = some (none, (am_mem L ext tx tt fe (am_u2 (am_u2 I 55 27 1) 55 28 (I 55 24)) G)) := by
  rw [e_141_0, if_pos hb, e_141_1, u2_k, if_neg (by decide), e_141_2]
theorem s_141b (hb : I 55 27 = 1) : (am_R (d) 141 0 (am_mem L ext tx tt fe I G) [some (Value.ref 55)] []) = some (none, (am_mem L ext tx tt fe I G)) := by
  rw [e_141_0, if_neg (by rw [hb]; decide), e_141_2]
theorem s_144b {v : Int32} (hb : I 55 27 = 1) : (am_R (d) 144 0 (am_mem L ext tx tt fe I G) [some (Value.ref 55), some (Value.int v)] []) = some (some (Value.int 0), (am_mem L ext tx tt fe I G)) := by
  rw [e_144_0, if_neg (by rw [hb]; decide), e_144_4, e_144_5]
  rfl
theorem s_143b {a b c e f g h i : Int32} (hb : I 55 27 = 1) : (am_R (d) 143 0 (am_mem L ext tx tt fe I G) [some (Value.ref 55), some (Value.int a), some (Value.int b), some (Value.int c), some (Value.int e), some (Value.int f), some (Value.int g), some (Value.int h), some (Value.int i)] []) = some (some (Value.int 0), (am_mem L ext tx tt fe I G)) := by
  rw [e_143_0, if_neg (by rw [hb]; decide), e_143_20, e_143_21]
  rfl
/-- nextToken, behind a good one -/
theorem s_nt {bt : Nat → Nat} {n q k : Nat} {nm : Nat → Int32} (hq : Mq I G bt n q k nm) (h1 : ¬ cd bt n q = -1) (h2 : ¬ cd bt n q = -2) : wp (am_R (d + 2) 140 0 (am_mem L ext tx tt fe I G) [some (Value.ref 55), none, none] []) (fun v M => v = none ∧ ∃ I' G', M = am_mem L ext tx tt fe I' G' ∧ f5 FK I I' ∧ Mq I' G' bt n (adv bt n q) k nm) := by
  obtain ⟨ht, hs, hb, ho, hnm⟩ := hq
  obtain ⟨g1, g2⟩ := MS_h hs h1 h2
  have hle := te_le (bt := bt) g1
  refine wp_m (s_140 (n - te bt n q) (te bt n q) (by omega) I ht g2) ?_
  rintro v M ⟨rfl, I', G', rfl, f, m⟩
  exact ⟨rfl, I', G', rfl, f, MT_f ht f (by decide) (by decide), m, by rw [f.2 27 (by decide)]; exact hb, by rw [f.2 26 (by decide)]; exact ho, FM_nm (f5_m f (by decide)) hnm⟩
/-- one more is open -/
theorem s_145 {bt : Nat → Nat} {n q k : Nat} {nm : Nat → Int32} (hk : k ≤ 5) (hq : Mq I G bt n q k nm) (h1 : ¬ cd bt n q = -1) (h2 : ¬ cd bt n q = -2) : wp (am_R (d + 3) 145 0 (am_mem L ext tx tt fe I G) [some (Value.ref 55)] []) (fun v M => (k = 0 ∧ v = some (.int 0) ∧ ∃ I', M = (am_mem L ext tx tt fe (I') G) ∧ f5 FM I I' ∧ I' 55 27 = 1 ∧ I' 55 28 = nI q) ∨ (∃ k', k = k' + 1 ∧ v = some (.int 1) ∧ ∃ I' G', M = am_mem L ext tx tt fe I' G' ∧ f5 FM I I' ∧ Mq I' G' bt n (adv bt n q) k' nm)) := by
  obtain ⟨ht, hs, hb, ho, hnm⟩ := hq
  refine wp_e e_145_0 ?_
  rw [ho]
  cases k with
  | zero =>
    refine wp_t (by decide) (wp_e e_145_1 (wp_p (s_141 hb) (wp_e e_145_2 (wp_r (Or.inl ⟨rfl, rfl, _, rfl, f5_t (f5_2 (by decide)) (f5_2 (by decide)), ?_, ?_⟩)))))
    · rw [u2_k, if_neg (by decide), u2_s]
    · rw [u2_s, hs.1]
  | succ k =>
    refine wp_f (fun e => ?_) (wp_e e_145_3 ?_)
    · have := (nI_eq (a := 5 - (k + 1)) (b := 5) (by omega) (by omega)).mp e
      omega
    rw [ho, nI_1, show 5 - (k + 1) + 1 = 5 - k by omega]
    have f1 : f5 FM I (am_u2 I 55 26 (nI (5 - k))) := f5_2 (by decide)
    have hq1 : Mq (am_u2 I 55 26 (nI (5 - k))) G bt n q k nm := by
      refine ⟨MT_f ht f1 (by decide) (by decide), ?_, by rw [u2_k, if_neg (by decide)]; exact hb, u2_s _ _ _ _, FM_nm f1 hnm⟩
      unfold MS
      rw [u2_k, if_neg (by decide), u2_k, if_neg (by decide), u2_k, if_neg (by decide)]
      exact hs
    refine wp_b (s_nt hq1 h1 h2) ?_
    rintro v M ⟨rfl, I2, G2, rfl, f2, g2⟩
    exact wp_e e_145_4 (wp_r (Or.inr ⟨k, rfl, rfl, I2, G2, rfl, f5_t f1 (f5_m f2 (by decide)), g2⟩))
/-- a fault told here -/
theorem s_fail {bt : Nat → Nat} {n q k : Nat} {nm : Nat → Int32} {o : Int32} {hg : Nat} {x : Int32} {G' : Nat → Nat → Int64} (hq : Mq I G bt n q k nm) : Mo I (am_u2 (am_u2 I 55 27 1) 55 28 (I 55 24)) G' bt n q o nm hg x (q, none) := by
  refine ⟨f5_t (f5_2 (by decide)) (f5_2 (by decide)), ?_, ?_⟩
  · rw [u2_k, if_neg (by decide), u2_s]
  · rw [u2_s, hq.2.1.1]
/-- a loop of parts -/
theorem s_gl {bt : Nat → Nat} {n k j : Nat} {nm : Nat → Int32} {sub : Nat → PR} (d' : Nat) (Hd : Int32 → am_M → Option am_V) (l : Int32)
    (hsub : ∀ (I : Nat → Nat → Int32) (G : Nat → Nat → Int64) (q : Nat), Mq I G bt n q k nm → wp (mcall d' j (am_mem L ext tx tt fe I G)) (fun v M => ∃ x I' G', v = some (.int x) ∧ M = am_mem L ext tx tt fe I' G' ∧ Mo I I' G' bt n q (nI (5 - k)) nm (5 * k + 1 + j) x (sub q)))
    (hl : ∀ c : Int32, lvo c = l → c < 0 ∧ ¬ (c = -11 ∨ c = -3) ∧ ¬ c = -1 ∧ ¬ c = -2)
    (hexit : ∀ (x : Int32) (I : Nat → Nat → Int32) (G : Nat → Nat → Int64) (q : Nat), Mq I G bt n q k nm → ¬ lvo (cd bt n q) = l → Hd x (am_mem L ext tx tt fe I G) = some (some (.int x), am_mem L ext tx tt fe I G))
    (hbad : ∀ (x : Int32) (I : Nat → Nat → Int32) (G : Nat → Nat → Int64), I 55 27 = 1 → Hd x (am_mem L ext tx tt fe I G) = some (some (.int x), am_mem L ext tx tt fe I G))
    (hop : ∀ (x : Int32) (I : Nat → Nat → Int32) (G : Nat → Nat → Int64) (q : Nat) (Q : Option Value → am_M → Prop), Mq I G bt n q k nm → lvo (cd bt n q) = l → (∀ (I1 : Nat → Nat → Int32) (G1 : Nat → Nat → Int64), f5 FK I I1 → Mq I1 G1 bt n (adv bt n q) k nm → wp (mcall d' j (am_mem L ext tx tt fe I1 G1)) (fun v M => ∃ y I2 G2, v = some (.int y) ∧ M = am_mem L ext tx tt fe I2 G2 ∧ ∀ z, z = jn (cd bt n q) x y → wp (Hd z (am_mem L ext tx tt fe I2 G2)) Q)) → wp (Hd x (am_mem L ext tx tt fe I G)) Q) {q0 : Nat} (I0 : Nat → Nat → Int32) : ∀ (f : Nat) (I : Nat → Nat → Int32) (G : Nat → Nat → Int64) (q : Nat) (w : List Int32) (x : Int32), n - q ≤ f → f5 FM I0 I → Mq I G bt n q k nm → q0 < q → Vo nm (5 * k + 1 + (j + 1)) w x → wp (Hd x (am_mem L ext tx tt fe I G)) (fun v M => ∃ x I' G', v = some (.int x) ∧ M = am_mem L ext tx tt fe I' G' ∧ Mo I0 I' G' bt n q0 (nI (5 - k)) nm (5 * k + 1 + (j + 1)) x (lpf (cd bt n) (adv bt n) sub l f q w)) := by
  intro f
  induction f with
  | zero =>
    intro I G q w x hf f0 hq hlt hv
    have hqn := hq.2.1.2.1
    have hno : ¬ lvo (cd bt n q) = l := fun e => by
      obtain ⟨-, -, h3, -⟩ := hl _ e
      apply h3
      unfold cd
      rw [if_neg (by omega)]
    exact wp_e (hexit x I G q hq hno) (wp_r ⟨x, I, G, rfl, rfl, f0, hq.2.2.1, hq.2.2.2.1, hq.2.1, hlt, hv⟩)
  | succ f ih =>
    intro I G q w x hf f0 hq hlt hv
    have el : lpf (cd bt n) (adv bt n) sub l (f + 1) q w = if lvo (cd bt n q) = l then (match sub (adv bt n q) with
      | (q', some w') => lpf (cd bt n) (adv bt n) sub l f q' (w ++ w' ++ [cd bt n q])
      | (q', none) => (q', none)) else (q, some w) := rfl
    rw [el]
    by_cases hc : lvo (cd bt n q) = l
    · obtain ⟨l1, l2, l3, l4⟩ := hl _ hc
      rw [if_pos hc]
      refine hop x I G q _ hq hc (fun I1 G1 f1 hq1 => wp_m (hsub I1 G1 _ hq1) ?_)
      rintro v M ⟨y, I2, G2, rfl, rfl, f2, o2⟩
      refine ⟨y, I2, G2, rfl, rfl, fun z hz => ?_⟩
      subst hz
      have f02 : f5 FM I0 I2 := f5_t f0 (f5_t (f5_m f1 (by decide)) f2)
      have hag := adv_gt bt n q
      revert o2
      cases sub (adv bt n q) with
      | mk q' ow =>
        cases ow with
        | none =>
          rintro ⟨b1, b2⟩
          exact wp_e (hbad _ I2 G2 b1) (wp_r ⟨_, I2, G2, rfl, rfl, f02, b1, b2⟩)
        | some w' =>
          rintro ⟨b1, b2, b3, b4, b5⟩
          refine ih I2 G2 q' (w ++ w' ++ [cd bt n q]) _ (by omega) f02 ⟨MT_f hq1.1 f2 (by decide) (by decide), b3, b1, b2, FM_nm f2 hq1.2.2.2.2⟩ (by omega) ?_
          exact Vo_2 hv b5 l1 l2
    · rw [if_neg hc]
      exact wp_e (hexit x I G q hq hc) (wp_r ⟨x, I, G, rfl, rfl, f0, hq.2.2.1, hq.2.2.2.1, hq.2.1, hlt, hv⟩)
end B16
