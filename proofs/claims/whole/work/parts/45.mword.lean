/-! PURE, 15: the model's words and signs; what a row of deeds leaves -/
def kc (w : Nat) : Int32 := if w < 6 then nI (10000 + w) else -nI w
theorem kc_0 : (List.range 12).all (fun w => (List.range 12).all (fun v => decide (kc w = kc v) == decide (w = v))) = true := by decide +kernel
theorem kc_1 : (List.range 12).all (fun w => decide (¬ kc w = -2) && (decide (¬ kc w = -1) && ((List.range 10000).all (fun v => !(decide (kc w = nI v))) && (List.range 62).all (fun v => Nat.ble v 39 || !(decide (kc w = -nI v)))))) = true := by decide +kernel
theorem wl_len : (List.range 12).all (fun w => Nat.ble (WL.getD w []).length 8 && ((List.range 8).all (fun i => decide (i < (WL.getD w []).length ↔ (WL.getD w []).getD i 0 ≠ 0)) && (List.range (WL.getD w []).length).all (fun i => Nat.ble ((WL.getD w []).getD i 0) 255))) = true := by decide +kernel
theorem wl_ne : (List.range 12).all (fun w => (List.range 12).all (fun v => decide (WL.getD w [] = WL.getD v []) == decide (w = v))) = true := by decide +kernel
theorem wcf_no {l : List Nat} : ∀ (f w : Nat), w + f = 12 → (∀ v, w ≤ v → v < 12 → ¬ l = WL.getD v []) → wcf w (WL.drop w) l = -2 := by
  intro f
  induction f with
  | zero =>
    intro w hw h
    have e : w = 12 := by omega
    subst e
    rfl
  | succ f ih =>
    intro w hw h
    have h12 : w < WL.length := by show w < 12; omega
    have hx : WL.drop w = WL.getD w [] :: WL.drop (w + 1) := by
      rw [List.drop_eq_getElem_cons h12, List.getD_eq_getElem?_getD, List.getElem?_eq_getElem h12]
      rfl
    rw [hx]
    show (if l = WL.getD w [] then _ else wcf (w + 1) (WL.drop (w + 1)) l) = -2
    rw [if_neg (h w (Nat.le_refl _) (by omega))]
    exact ih (w + 1) (by omega) (fun v h1 h2 => h v (by omega) h2)
theorem wcf_yes {l : List Nat} : ∀ (f w v : Nat), w + f = 12 → w ≤ v → v < 12 → l = WL.getD v [] → wcf w (WL.drop w) l = kc v := by
  intro f
  induction f with
  | zero => intro w v hw h1 h2 _; omega
  | succ f ih =>
    intro w v hw h1 h2 hl
    have h12 : w < WL.length := by show w < 12; omega
    have hx : WL.drop w = WL.getD w [] :: WL.drop (w + 1) := by
      rw [List.drop_eq_getElem_cons h12, List.getD_eq_getElem?_getD, List.getElem?_eq_getElem h12]
      rfl
    rw [hx]
    show (if l = WL.getD w [] then (if w < 6 then nI (10000 + w) else -nI w) else wcf (w + 1) (WL.drop (w + 1)) l) = kc v
    by_cases e : w = v
    · subst e
      rw [if_pos hl]
      rfl
    · rw [if_neg (fun h => ?_)]
      · exact ih (w + 1) v (by omega) (by omega) h2 hl
      · have h3 := List.all_eq_true.mp (List.all_eq_true.mp wl_ne w (List.mem_range.mpr (by omega))) v (List.mem_range.mpr h2)
        rw [beq_iff_eq, decide_eq_decide] at h3
        exact e (h3.mp (h.symm.trans hl))
/-- the code of a row of letters is that of the w-th word just where it is that word -/
theorem wco_iff {l : List Nat} {w : Nat} (hw : w < 12) : wco l = kc w ↔ l = WL.getD w [] := by
  constructor
  · intro h
    apply Decidable.byContradiction
    intro hne
    by_cases he : ∃ v, v < 12 ∧ l = WL.getD v []
    · obtain ⟨v, h1, h2⟩ := he
      have h3 : wco l = kc v := wcf_yes 12 0 v rfl (Nat.zero_le _) h1 h2
      have h4 := List.all_eq_true.mp (List.all_eq_true.mp kc_0 w (List.mem_range.mpr hw)) v (List.mem_range.mpr h1)
      rw [beq_iff_eq, decide_eq_decide] at h4
      have h5 := h4.mp (h.symm.trans h3)
      subst h5
      exact hne h2
    · have h3 : wco l = -2 := wcf_no 12 0 rfl (fun v _ h1 h2 => he ⟨v, h1, h2⟩)
      have h4 := List.all_eq_true.mp kc_1 w (List.mem_range.mpr hw)
      rw [Bool.and_eq_true, decide_eq_true_eq] at h4
      exact h4.1 (h.symm.trans h3)
  · intro h
    exact wcf_yes 12 0 w rfl (Nat.zero_le _) hw h
theorem kc_n {w v : Nat} (hw : w < 12) (hv : v < 10000) : ¬ nI v = kc w := by
  have h4 := List.all_eq_true.mp kc_1 w (List.mem_range.mpr hw)
  simp only [Bool.and_eq_true] at h4
  have := List.all_eq_true.mp h4.2.2.1 v (List.mem_range.mpr hv)
  rw [Bool.not_eq_true', decide_eq_false_iff_not] at this
  exact fun e => this e.symm
theorem kc_s {w v : Nat} (hw : w < 12) (h0 : 40 ≤ v) (hv : v < 62) : ¬ -nI v = kc w := by
  have h4 := List.all_eq_true.mp kc_1 w (List.mem_range.mpr hw)
  simp only [Bool.and_eq_true] at h4
  have := List.all_eq_true.mp h4.2.2.2 v (List.mem_range.mpr hv)
  rw [Bool.or_eq_true, Bool.not_eq_true', decide_eq_false_iff_not] at this
  rcases this with h | h
  · have := Nat.le_of_ble_eq_true h
    omega
  · exact fun e => h e.symm
theorem kc_m {w : Nat} (hw : w < 12) : ¬ (-2 : Int32) = kc w ∧ ¬ (-1 : Int32) = kc w := by
  have h4 := List.all_eq_true.mp kc_1 w (List.mem_range.mpr hw)
  simp only [Bool.and_eq_true, decide_eq_true_eq] at h4
  exact ⟨fun e => h4.1 e.symm, fun e => h4.2.1 e.symm⟩
theorem isS_in {v : Nat} (h : isS v = true) : 40 ≤ v ∧ v < 62 := by
  unfold isS at h
  rw [decide_eq_true_eq] at h
  omega
/-- the word at hand is the w-th just where the code says so -/
theorem cd_w {bt : Nat → Nat} {n q w : Nat} (hw : w < 12) : cd bt n q = kc w ↔ (q < n ∧ isL (bt q) = true ∧ ltr bt q (te bt n q) = WL.getD w []) := by
  unfold cd
  by_cases h : q < n
  · rw [if_pos h]
    by_cases hL : isL (bt q) = true
    · rw [if_pos hL, wco_iff hw]
      exact ⟨fun e => ⟨h, hL, e⟩, fun e => e.2.2⟩
    · rw [if_neg hL]
      refine ⟨fun e => ?_, fun e => absurd e.2.1 hL⟩
      exfalso
      by_cases hD : isD (bt q) = true
      · rw [if_pos hD] at e
        by_cases h4 : 4 < te bt n q - q
        · rw [if_pos h4] at e
          exact (kc_m hw).1 e
        · rw [if_neg h4] at e
          refine kc_n hw ?_ e
          have eD := te_D h hL hD
          have hv : nv bt q (te bt n q - q) < 10 ^ (te bt n q - q) := nv_lt _ (fun i hi => by
            have := rn_P (P := fun k => isD (bt k)) (n - q) q (q + i) (by omega) (by rw [← eD]; omega)
            unfold isD at this
            rw [decide_eq_true_eq] at this
            omega)
          have hp : 10 ^ (te bt n q - q) ≤ 10 ^ 4 := Nat.pow_le_pow_right (by omega) (by omega)
          omega
      · rw [if_neg hD] at e
        by_cases hS : isS (bt q) = true
        · rw [if_pos hS] at e
          obtain ⟨s1, s2⟩ := isS_in hS
          exact kc_s hw s1 s2 e
        · rw [if_neg hS] at e
          exact (kc_m hw).1 e
  · rw [if_neg h]
    exact ⟨fun e => absurd e (kc_m hw).2, fun e => absurd e.1 h⟩
theorem wco_in (l : List Nat) : wco l = -2 ∨ ∃ w, w < 12 ∧ wco l = kc w := by
  by_cases he : ∃ v, v < 12 ∧ l = WL.getD v []
  · obtain ⟨v, h1, h2⟩ := he
    exact Or.inr ⟨v, h1, wcf_yes 12 0 v rfl (Nat.zero_le _) h1 h2⟩
  · exact Or.inl (wcf_no 12 0 rfl (fun v _ h1 h2 => he ⟨v, h1, h2⟩))
theorem neg_nI {a b : Nat} (ha : a < 1000) (hb : b < 1000) : -nI a = -nI b ↔ a = b := by
  constructor
  · intro h
    have e1 := sb_negT (w := a) (by omega)
    have e2 := sb_negT (w := b) (by omega)
    rw [h] at e1
    omega
  · intro h
    rw [h]
theorem neg_2 {a : Nat} (ha : 40 ≤ a) (hb : a < 1000) : ¬ -nI a = -2 ∧ ¬ -nI a = -1 ∧ -nI a < 0 := by
  have e1 := sb_negT (w := a) (by omega)
  refine ⟨fun h => ?_, fun h => ?_, ?_⟩
  · rw [h] at e1
    have : (-2 : Int32).toInt = -2 := rfl
    omega
  · rw [h] at e1
    have : (-1 : Int32).toInt = -1 := rfl
    omega
  · rw [fa_lt, e1]
    have : (0 : Int32).toInt = 0 := rfl
    omega
/-- the sign at hand is v just where the code says so -/
theorem cd_s {bt : Nat → Nat} {n q v : Nat} (hv : isS v = true) : cd bt n q = -nI v ↔ (q < n ∧ ¬ isL (bt q) = true ∧ ¬ isD (bt q) = true ∧ bt q = v) := by
  obtain ⟨v1, v2⟩ := isS_in hv
  obtain ⟨m2, m1, m0⟩ := neg_2 v1 (by omega)
  unfold cd
  by_cases h : q < n
  · rw [if_pos h]
    by_cases hL : isL (bt q) = true
    · rw [if_pos hL]
      refine ⟨fun e => ?_, fun e => absurd hL e.2.1⟩
      exfalso
      rcases wco_in (ltr bt q (te bt n q)) with h1 | ⟨w, hw, h1⟩
      · rw [h1] at e
        exact m2 e.symm
      · rw [h1] at e
        exact kc_s hw v1 v2 e.symm
    · rw [if_neg hL]
      by_cases hD : isD (bt q) = true
      · rw [if_pos hD]
        refine ⟨fun e => ?_, fun e => absurd hD e.2.2.1⟩
        exfalso
        by_cases h4 : 4 < te bt n q - q
        · rw [if_pos h4] at e
          exact m2 e.symm
        · rw [if_neg h4] at e
          have eD := te_D h hL hD
          have hv : nv bt q (te bt n q - q) < 10 ^ (te bt n q - q) := nv_lt _ (fun i hi => by
            have := rn_P (P := fun k => isD (bt k)) (n - q) q (q + i) (by omega) (by rw [← eD]; omega)
            unfold isD at this
            rw [decide_eq_true_eq] at this
            omega)
          have hp : 10 ^ (te bt n q - q) ≤ 10 ^ 4 := Nat.pow_le_pow_right (by omega) (by omega)
          rw [← e] at m0
          exact nI_pos (by omega) m0
      · rw [if_neg hD]
        by_cases hS : isS (bt q) = true
        · rw [if_pos hS]
          obtain ⟨s1, s2⟩ := isS_in hS
          rw [neg_nI (by omega) (by omega)]
          exact ⟨fun e => ⟨h, hL, hD, e⟩, fun e => e.2.2.2⟩
        · rw [if_neg hS]
          refine ⟨fun e => absurd e.symm m2, fun e => ?_⟩
          rw [e.2.2.2] at hS
          exact absurd hv hS
  · rw [if_neg h]
    exact ⟨fun e => absurd e.symm m1, fun e => absurd e.1 h⟩
section B15
variable {d L : Nat} {ext : List (Nat × Nat)} {tx : Nat → Nat} {tt : Nat} {fe : Nat → Nat → Option Nat} {I : Nat → Nat → Int32} {G : Nat → Nat → Int64}
theorem s_142 {bt : Nat → Nat} {n q i x : Nat} (ht : MT I bt n) (h24 : I 55 24 = nI q) (h22 : I 55 22 = nI (te bt n q)) (hq : q < n) (hi : i < 8) (hx : x < 256) : (am_R (d + 1) 142 0 (am_mem L ext tx tt fe I G) [some (Value.ref 55), some (Value.int (nI i)), some (Value.int (nI x))] []) = some (some (Value.int (bI ((q + i < te bt n q ∧ bt (q + i) = x) ∨ (¬ q + i < te bt n q ∧ x = 0)))), (am_mem L ext tx tt fe I G)) := by
  have hn := MT_n ht
  have h1 := te_le (bt := bt) hq
  refine wp_eq (wp_e e_142_0 ?_)
  rw [h24, h22, nI_add]
  by_cases h : q + i < te bt n q
  · have hb := MT_b ht (q + i) (by omega)
    refine wp_t (nI_lt h (by omega)) (wp_e e_142_1 ?_)
    rw [h24, nI_add]
    refine wp_p (s_139 ht (by omega)) (wp_e e_142_2 ?_)
    have eb : bta bt n (q + i) = nI (bt (q + i)) := by
      unfold bta
      rw [if_pos (by omega)]
    rw [eb]
    by_cases hc : bt (q + i) = x
    · refine wp_t (by rw [hc]) (wp_e e_142_3 (wp_e e_142_8 (wp_r ⟨?_, rfl⟩)))
      rw [bI_t (Or.inl ⟨h, hc⟩)]
      rfl
    · refine wp_f (fun e => hc ((nI_eq (by omega) (by omega)).mp e)) (wp_e e_142_4 (wp_e e_142_8 (wp_r ⟨?_, rfl⟩)))
      rw [bI_f (fun e => by rcases e with e | e; exact hc e.2; exact e.1 h)]
      rfl
  · refine wp_f (nI_nlt (by omega) (by omega)) (wp_e e_142_5 ?_)
    by_cases hc : x = 0
    · refine wp_t (by rw [hc]; rfl) (wp_e e_142_6 (wp_e e_142_8 (wp_r ⟨?_, rfl⟩)))
      rw [bI_t (Or.inr ⟨h, hc⟩)]
      rfl
    · refine wp_f (nI_ne0 (by omega) (by omega)) (wp_e e_142_7 (wp_e e_142_8 (wp_r ⟨?_, rfl⟩)))
      rw [bI_f (fun e => by rcases e with e | e; exact h e.1; exact hc e.2)]
      rfl
/-- whether the word at hand is the w-th -/
theorem s_143 {bt : Nat → Nat} {n q w : Nat} (hw : w < 12) (ht : MT I bt n) (hs : MS I G bt n q) : (am_R (d + 2) 143 0 (am_mem L ext tx tt fe I G) [some (Value.ref 55), some (Value.int (nI ((WL.getD w []).getD 0 0))), some (Value.int (nI ((WL.getD w []).getD 1 0))), some (Value.int (nI ((WL.getD w []).getD 2 0))), some (Value.int (nI ((WL.getD w []).getD 3 0))), some (Value.int (nI ((WL.getD w []).getD 4 0))), some (Value.int (nI ((WL.getD w []).getD 5 0))), some (Value.int (nI ((WL.getD w []).getD 6 0))), some (Value.int (nI ((WL.getD w []).getD 7 0)))] []) = some (some (Value.int (if I 55 27 = 0 ∧ cd bt n q = kc w then 1 else 0)), (am_mem L ext tx tt fe I G)) := by
  have hn := MT_n ht
  have hl := List.all_eq_true.mp wl_len w (List.mem_range.mpr hw)
  simp only [Bool.and_eq_true] at hl
  obtain ⟨l1, l2, l3⟩ := hl
  have l1 := Nat.le_of_ble_eq_true l1
  have l2 : ∀ i, i < 8 → (i < (WL.getD w []).length ↔ (WL.getD w []).getD i 0 ≠ 0) := fun i hi => of_decide_eq_true (List.all_eq_true.mp l2 i (List.mem_range.mpr hi))
  have l3 : ∀ i, (WL.getD w []).getD i 0 < 256 := fun i => by
    by_cases h : i < (WL.getD w []).length
    · have := Nat.le_of_ble_eq_true (List.all_eq_true.mp l3 i (List.mem_range.mpr h))
      omega
    · rw [List.getD_eq_getElem?_getD, List.getElem?_eq_none (by omega)]
      decide
  have no : ¬ (I 55 27 = 0 ∧ cd bt n q = kc w) → wp (am_R (d + 2) 143 20 (am_mem L ext tx tt fe I G) [some (Value.ref 55), some (Value.int (nI ((WL.getD w []).getD 0 0))), some (Value.int (nI ((WL.getD w []).getD 1 0))), some (Value.int (nI ((WL.getD w []).getD 2 0))), some (Value.int (nI ((WL.getD w []).getD 3 0))), some (Value.int (nI ((WL.getD w []).getD 4 0))), some (Value.int (nI ((WL.getD w []).getD 5 0))), some (Value.int (nI ((WL.getD w []).getD 6 0))), some (Value.int (nI ((WL.getD w []).getD 7 0)))] []) (fun v M => v = some (Value.int (if I 55 27 = 0 ∧ cd bt n q = kc w then 1 else 0)) ∧ M = (am_mem L ext tx tt fe I G)) := by
    intro h
    refine wp_e e_143_20 (wp_e e_143_21 (wp_r ⟨?_, rfl⟩))
    rw [if_neg h]
    rfl
  refine wp_eq (wp_e e_143_0 ?_)
  by_cases hb : I 55 27 = 0
  · refine wp_t hb (wp_e e_143_1 ?_)
    by_cases hk : I 55 23 = 1
    · refine wp_t hk (wp_e e_143_2 ?_)
      obtain ⟨h24, hqn, hor⟩ := hs
      have hL : q < n ∧ isL (bt q) = true ∧ I 55 22 = nI (te bt n q) := by
        rcases hor with h | h | h | h | h
        · rw [h.2] at hk; exact absurd hk (by decide)
        · exact ⟨h.1, h.2.1, h.2.2.2⟩
        · rw [h.2.2.2.2.1] at hk; exact absurd hk (by decide)
        · rw [h.2.2.2.2.1] at hk; exact absurd hk (by decide)
        · rw [h.2.2.2] at hk; exact absurd hk (by decide)
      obtain ⟨hq, hLL, h22⟩ := hL
      have h1 := te_le (bt := bt) hq
      have h0 := te_gt bt n q
      have hcd := cd_w (bt := bt) (n := n) (q := q) hw
      rw [h24, h22, show (8 : Int32) = nI 8 from rfl, nI_add]
      by_cases h8 : q + 8 < te bt n q
      · refine wp_t (nI_lt h8 (by omega)) (no (fun e => ?_))
        have := (ltr_eq.mp (hcd.mp e.2).2.2).1
        omega
      · refine wp_f (nI_nlt (by omega) (by omega)) ?_
        -- a letter that isn't the word's
        have bad : ∀ i, i < 8 → ¬ ((q + i < te bt n q ∧ bt (q + i) = (WL.getD w []).getD i 0) ∨ (¬ q + i < te bt n q ∧ (WL.getD w []).getD i 0 = 0)) → ¬ (I 55 27 = 0 ∧ cd bt n q = kc w) := by
          intro i hi h e
          obtain ⟨g1, g2⟩ := ltr_eq.mp (hcd.mp e.2).2.2
          by_cases hil : i < (WL.getD w []).length
          · exact h (Or.inl ⟨by omega, g2 i hil⟩)
          · refine h (Or.inr ⟨by omega, ?_⟩)
            apply Decidable.byContradiction
            intro hne
            exact hil ((l2 i hi).mpr hne)
        have st : ∀ i, i < 8 → (am_R (d + 1) 142 0 (am_mem L ext tx tt fe I G) [some (Value.ref 55), some (Value.int (nI i)), some (Value.int (nI ((WL.getD w []).getD i 0)))] []) = some (some (Value.int (bI ((q + i < te bt n q ∧ bt (q + i) = (WL.getD w []).getD i 0) ∨ (¬ q + i < te bt n q ∧ (WL.getD w []).getD i 0 = 0)))), (am_mem L ext tx tt fe I G)) := fun i hi => s_142 ht h24 h22 hq hi (l3 i)
        refine wp_e e_143_3 (wp_p (st 0 (by omega)) (wp_e e_143_4 ?_))
        by_cases c0 : (q + 0 < te bt n q ∧ bt (q + 0) = (WL.getD w []).getD 0 0) ∨ (¬ q + 0 < te bt n q ∧ (WL.getD w []).getD 0 0 = 0)
        case neg => rw [bI_f c0]; exact wp_t rfl (no (bad 0 (by omega) c0))
        rw [bI_t c0]
        refine wp_f (by decide) (wp_e e_143_5 (wp_p (st 1 (by omega)) (wp_e e_143_6 ?_)))
        by_cases c1 : (q + 1 < te bt n q ∧ bt (q + 1) = (WL.getD w []).getD 1 0) ∨ (¬ q + 1 < te bt n q ∧ (WL.getD w []).getD 1 0 = 0)
        case neg => rw [bI_f c1]; exact wp_t rfl (no (bad 1 (by omega) c1))
        rw [bI_t c1]
        refine wp_f (by decide) (wp_e e_143_7 (wp_p (st 2 (by omega)) (wp_e e_143_8 ?_)))
        by_cases c2 : (q + 2 < te bt n q ∧ bt (q + 2) = (WL.getD w []).getD 2 0) ∨ (¬ q + 2 < te bt n q ∧ (WL.getD w []).getD 2 0 = 0)
        case neg => rw [bI_f c2]; exact wp_t rfl (no (bad 2 (by omega) c2))
        rw [bI_t c2]
        refine wp_f (by decide) (wp_e e_143_9 (wp_p (st 3 (by omega)) (wp_e e_143_10 ?_)))
        by_cases c3 : (q + 3 < te bt n q ∧ bt (q + 3) = (WL.getD w []).getD 3 0) ∨ (¬ q + 3 < te bt n q ∧ (WL.getD w []).getD 3 0 = 0)
        case neg => rw [bI_f c3]; exact wp_t rfl (no (bad 3 (by omega) c3))
        rw [bI_t c3]
        refine wp_f (by decide) (wp_e e_143_11 (wp_p (st 4 (by omega)) (wp_e e_143_12 ?_)))
        by_cases c4 : (q + 4 < te bt n q ∧ bt (q + 4) = (WL.getD w []).getD 4 0) ∨ (¬ q + 4 < te bt n q ∧ (WL.getD w []).getD 4 0 = 0)
        case neg => rw [bI_f c4]; exact wp_t rfl (no (bad 4 (by omega) c4))
        rw [bI_t c4]
        refine wp_f (by decide) (wp_e e_143_13 (wp_p (st 5 (by omega)) (wp_e e_143_14 ?_)))
        by_cases c5 : (q + 5 < te bt n q ∧ bt (q + 5) = (WL.getD w []).getD 5 0) ∨ (¬ q + 5 < te bt n q ∧ (WL.getD w []).getD 5 0 = 0)
        case neg => rw [bI_f c5]; exact wp_t rfl (no (bad 5 (by omega) c5))
        rw [bI_t c5]
        refine wp_f (by decide) (wp_e e_143_15 (wp_p (st 6 (by omega)) (wp_e e_143_16 ?_)))
        by_cases c6 : (q + 6 < te bt n q ∧ bt (q + 6) = (WL.getD w []).getD 6 0) ∨ (¬ q + 6 < te bt n q ∧ (WL.getD w []).getD 6 0 = 0)
        case neg => rw [bI_f c6]; exact wp_t rfl (no (bad 6 (by omega) c6))
        rw [bI_t c6]
        refine wp_f (by decide) (wp_e e_143_17 (wp_p (st 7 (by omega)) (wp_e e_143_18 ?_)))
        by_cases c7 : (q + 7 < te bt n q ∧ bt (q + 7) = (WL.getD w []).getD 7 0) ∨ (¬ q + 7 < te bt n q ∧ (WL.getD w []).getD 7 0 = 0)
        case neg => rw [bI_f c7]; exact wp_t rfl (no (bad 7 (by omega) c7))
        rw [bI_t c7]
        refine wp_f (by decide) (wp_e e_143_19 (wp_e e_143_21 (wp_r ⟨?_, rfl⟩)))
        have all : ∀ i, i < 8 → (q + i < te bt n q ∧ bt (q + i) = (WL.getD w []).getD i 0) ∨ (¬ q + i < te bt n q ∧ (WL.getD w []).getD i 0 = 0) := by
          intro i hi
          obtain rfl | rfl | rfl | rfl | rfl | rfl | rfl | rfl : i = 0 ∨ i = 1 ∨ i = 2 ∨ i = 3 ∨ i = 4 ∨ i = 5 ∨ i = 6 ∨ i = 7 := by omega
          · exact c0
          · exact c1
          · exact c2
          · exact c3
          · exact c4
          · exact c5
          · exact c6
          · exact c7
        have yes : cd bt n q = kc w := by
          refine hcd.mpr ⟨hq, hLL, ltr_eq.mpr ⟨?_, fun i hi => ?_⟩⟩
          · -- the length
            apply Decidable.byContradiction
            intro hne
            by_cases hlt : te bt n q - q < (WL.getD w []).length
            · rcases all (te bt n q - q) (by omega) with h | h
              · omega
              · exact (l2 (te bt n q - q) (by omega)).mp hlt h.2
            · rcases all (WL.getD w []).length (by omega) with h | h
              · have h2 := (l2 (WL.getD w []).length (by omega))
                have h3 : (WL.getD w []).getD (WL.getD w []).length 0 = 0 := by
                  rw [List.getD_eq_getElem?_getD, List.getElem?_eq_none (Nat.le_refl _)]
                  rfl
                rw [h3] at h
                have h4 : isL (bt (q + (WL.getD w []).length)) = true := rn_P (P := fun k => isL (bt k)) (n - q) q _ (by omega) (by rw [← te_L hq hLL]; omega)
                rw [h.2] at h4
                exact absurd h4 (by decide)
              · omega
          · rcases all i (by omega) with h | h
            · exact h.2
            · exact absurd h.2 ((l2 i (by omega)).mp hi)
        rw [if_pos ⟨hb, yes⟩]
        rfl
    · refine wp_f hk (no (fun e => ?_))
      obtain ⟨h24, hqn, hor⟩ := hs
      have hc := (cd_w hw).mp e.2
      rcases hor with h | h | h | h | h
      · omega
      · exact hk h.2.2.1
      · exact h.2.1 hc.2.1
      · exact h.2.1 hc.2.1
      · exact h.2.1 hc.2.1
  · exact wp_f hb (no (fun e => hb e.1))
/-- whether the sign at hand is v -/
theorem s_144 {bt : Nat → Nat} {n q v : Nat} (hv : isS v = true) (ht : MT I bt n) (hs : MS I G bt n q) : (am_R (d) 144 0 (am_mem L ext tx tt fe I G) [some (Value.ref 55), some (Value.int (nI v))] []) = some (some (Value.int (if I 55 27 = 0 ∧ cd bt n q = -nI v then 1 else 0)), (am_mem L ext tx tt fe I G)) := by
  obtain ⟨v1, v2⟩ := isS_in hv
  obtain ⟨h24, hqn, hor⟩ := hs
  have no : ¬ (I 55 27 = 0 ∧ cd bt n q = -nI v) → wp (am_R (d) 144 4 (am_mem L ext tx tt fe I G) [some (Value.ref 55), some (Value.int (nI v))] []) (fun w M => w = some (Value.int (if I 55 27 = 0 ∧ cd bt n q = -nI v then 1 else 0)) ∧ M = (am_mem L ext tx tt fe I G)) := by
    intro h
    refine wp_e e_144_4 (wp_e e_144_5 (wp_r ⟨?_, rfl⟩))
    rw [if_neg h]
    rfl
  refine wp_eq (wp_e e_144_0 ?_)
  by_cases hb : I 55 27 = 0
  · refine wp_t hb (wp_e e_144_1 ?_)
    by_cases hk : I 55 23 = 3
    · refine wp_t hk (wp_e e_144_2 ?_)
      have hS : q < n ∧ ¬ isL (bt q) = true ∧ ¬ isD (bt q) = true ∧ isS (bt q) = true ∧ G 55 25 = lN (bt q) := by
        rcases hor with h | h | h | h | h
        · rw [h.2] at hk; exact absurd hk (by decide)
        · rw [h.2.2.1] at hk; exact absurd hk (by decide)
        · rw [h.2.2.2.2.1] at hk; exact absurd hk (by decide)
        · exact ⟨h.1, h.2.1, h.2.2.1, h.2.2.2.1, h.2.2.2.2.2.2⟩
        · rw [h.2.2.2] at hk; exact absurd hk (by decide)
      obtain ⟨g1, g2, g3, g4, g5⟩ := hS
      have hb256 := MT_b ht q g1
      rw [g5, nI_l (by omega)]
      by_cases hc : bt q = v
      · refine wp_t ((lg_cmp_eq _ _).mpr (by rw [hc])) (wp_e e_144_3 (wp_e e_144_5 (wp_r ⟨?_, rfl⟩)))
        rw [if_pos ⟨hb, (cd_s hv).mpr ⟨g1, g2, g3, hc⟩⟩]
        rfl
      · refine wp_f (fun e => hc ((pk_lEQ (by omega) (by omega)).mp ((lg_cmp_eq _ _).mp e))) (no (fun e => hc ((cd_s hv).mp e.2).2.2.2))
    · refine wp_f hk (no (fun e => ?_))
      have hc := (cd_s hv).mp e.2
      rcases hor with h | h | h | h | h
      · omega
      · exact hc.2.1 h.2.1
      · exact hc.2.2.1 h.2.2.1
      · exact hk h.2.2.2.2.1
      · have e2 := h.2.2.1
        have e3 := e.2
        rw [e2] at e3
        exact (neg_2 v1 (by omega)).1 e3.symm
  · exact wp_f hb (no (fun e => hb e.1))
end B15
