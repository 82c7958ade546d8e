/-! PURE, 11: the tape splits up -/
def Fw : List Nat := [0, 5, 11, 16, 20, 25, 29, 36, 42, 48, 51, 55, 59]
theorem by_0 : (List.range 59).all (fun k => decide (am_nar 2 (am_nar 2 (((sm_by.getD k 0 &&& 255).toUInt32 % 65536).toInt32)) = sm_by.getD k 0)) = true := by decide +kernel
theorem by_1 : (List.range 12).all (fun w => (List.range (WL.getD w []).length).all (fun j => decide (sm_by.getD (Fw.getD w 0 + j) 0 = nI ((WL.getD w []).getD j 0) ∧ (WL.getD w []).getD j 0 < 256 ∧ ¬ sm_by.getD (Fw.getD w 0 + j) 0 = 32))) = true := by decide +kernel
theorem by_2 : (List.range 12).all (fun w => decide (sm_by.getD (Fw.getD w 0 + (WL.getD w []).length) 0 = 32 ∧ Fw.getD (w + 1) 0 = Fw.getD w 0 + (WL.getD w []).length + 1 ∧ Fw.getD w 0 + (WL.getD w []).length < 59)) = true := by decide +kernel
theorem by1 {w j : Nat} (hw : w < 12) (hj : j < (WL.getD w []).length) : sm_by.getD (Fw.getD w 0 + j) 0 = nI ((WL.getD w []).getD j 0) ∧ (WL.getD w []).getD j 0 < 256 ∧ ¬ sm_by.getD (Fw.getD w 0 + j) 0 = 32 := of_decide_eq_true (List.all_eq_true.mp (List.all_eq_true.mp by_1 w (List.mem_range.mpr hw)) j (List.mem_range.mpr hj))
theorem by2 {w : Nat} (hw : w < 12) : sm_by.getD (Fw.getD w 0 + (WL.getD w []).length) 0 = 32 ∧ Fw.getD (w + 1) 0 = Fw.getD w 0 + (WL.getD w []).length + 1 ∧ Fw.getD w 0 + (WL.getD w []).length < 59 := of_decide_eq_true (List.all_eq_true.mp by_2 w (List.mem_range.mpr hw))
theorem ltr_eq {bt : Nat → Nat} {p e : Nat} {x : List Nat} : ltr bt p e = x ↔ e - p = x.length ∧ ∀ i, i < x.length → bt (p + i) = x.getD i 0 := by
  unfold ltr
  constructor
  · intro h
    subst h
    refine ⟨by simp, fun i hi => ?_⟩
    simp at hi
    simp [List.getD_eq_getElem?_getD, hi]
  · rintro ⟨h1, h2⟩
    apply List.ext_getElem
    · simpa using h1
    · intro i h3 h4
      have := h2 i h4
      rw [List.getD_eq_getElem?_getD, List.getElem?_eq_getElem h4, Option.getD_some] at this
      simpa using this
section B11
variable {d L : Nat} {ext : List (Nat × Nat)} {tx : Nat → Nat} {tt : Nat} {fe : Nat → Nat → Option Nat} {I : Nat → Nat → Int32} {G : Nat → Nat → Int64}
theorem s_210 (h : SW I) : (am_R (d) 210 0 (am_mem L ext tx tt fe I G) [some (Value.ref 2)] []) = some (some (Value.int 0), (am_mem L ext tx tt fe I G)) := by
  rw [e_210_0, if_neg (by decide), e_210_1, e_210_3, h.1]
  rfl
theorem s_208 (h : SW I) : (am_R (d + 1) 208 0 (am_mem L ext tx tt fe I G) [some (Value.ref 2)] []) = some (some (Value.int 59), (am_mem L ext tx tt fe I G)) := by
  rw [e_208_0, s_210 h, Option.bind_some]
  exact e_208_1
theorem s_211 (h : SW I) : (am_R (d) 211 0 (am_mem L ext tx tt fe I G) [some (Value.ref 2)] []) = some (some (Value.int 1), (am_mem L ext tx tt fe I G)) := by
  rw [e_211_0, if_neg (by decide), e_211_1, if_pos h.1, e_211_2, e_211_4]
  rfl
theorem s_216 {k : Nat} (hk : k < 59) : (am_R (d) 216 0 (am_mem L ext tx tt fe I G) [some (Value.int (nI k)), some (Value.int (nI 59)), some (Value.ref 4)] []) = some (some (Value.int (nI k)), (am_mem L ext tx tt fe I G)) := by
  rw [e_216_0, if_neg (nI_pos (by omega)), e_216_1, if_pos (nI_lt hk (by omega)), e_216_4]
theorem s_212 {k : Nat} (hk : k < 59) : (am_R (d + 1) 212 0 (am_mem L ext tx tt fe I G) [some (Value.int (nI k)), some (Value.int (nI 59))] []) = some (none, (am_mem L ext tx tt fe I G)) := wp_eq (wp_e e_212_0 (wp_p (s_216 hk) (wp_e e_212_1 (wp_r ⟨rfl, rfl⟩))))
theorem s_213 {k : Nat} (hk : k < 59) : (am_R (d + 2) 213 0 (am_mem L ext tx tt fe I G) [some (Value.ref 3), some (Value.int (nI k))] []) = some (some (Value.int (am_nar 2 (((I 3 k &&& 255).toUInt32 % 65536).toInt32))), (am_mem L ext tx tt fe I G)) := by
  refine wp_eq (wp_e e_213_0 (wp_p (s_212 hk) (wp_e e_213_1 (wp_c (by rw [ib hk (by decide)]; rfl) (wp_r ⟨?_, rfl⟩)))))
  rw [nI_clamp (by omega)]
theorem s_209 {k : Nat} (h : SW I) (hk : k < 59) : (am_R (d + 4) 209 0 (am_mem L ext tx tt fe I G) [some (Value.ref 2), some (Value.int (nI k))] []) = some (some (Value.int (sm_by.getD k 0)), (am_mem L ext tx tt fe I G)) := by
  have e1 := of_decide_eq_true (List.all_eq_true.mp by_0 k (List.mem_range.mpr hk))
  refine wp_eq (wp_e e_209_0 (wp_p (s_211 h) (wp_e e_209_1 (wp_f (by decide) (wp_e e_209_2 (wp_p (s_213 hk) (wp_e e_209_3 (wp_r ⟨?_, rfl⟩))))))))
  rw [h.2 k hk, e1]
theorem s_51 {bt : Nat → Nat} {n p e w : Nat} (hs : SW I) (ht : TW I bt n) (hw : w < 12) (hp : p ≤ e) (he : e ≤ n) (hl : e - p = (WL.getD w []).length) : (am_R (d + 5) 51 0 (am_mem L ext tx tt fe I G) [some (Value.ref 10), some (Value.int (nI p)), some (Value.int (nI (Fw.getD w 0))), some (Value.int (nI (Fw.getD w 0 + (WL.getD w []).length))), none] []) = some (some (Value.int (if ltr bt p e = WL.getD w [] then 1 else 0)), (am_mem L ext tx tt fe I G)) := by
  obtain ⟨hn, h1, h2⟩ := ht
  obtain ⟨b1, b2, b3⟩ := by2 hw
  refine wp_eq (wp_e e_51_0 ?_)
  refine wp_loop (WL.getD w []).length (fun j (_ : Unit) => ∀ i, i < j → bt (p + i) = (WL.getD w []).getD i 0) (fun j _ => wp (am_R (d + 5) 51 1 (am_mem L ext tx tt fe I G) [some (Value.ref 10), some (Value.int (nI p)), some (Value.int (nI (Fw.getD w 0))), some (Value.int (nI (Fw.getD w 0 + (WL.getD w []).length))), some (Value.int (nI (Fw.getD w 0 + j)))] []) _) ?_ ?_ 0 () (Nat.zero_le _) (fun i hi => by omega)
  · intro _ h
    refine wp_e e_51_1 (wp_f (nI_nlt (Nat.le_refl _) (by omega)) (wp_e e_51_6 (wp_r ⟨?_, rfl⟩)))
    rw [if_pos (ltr_eq.mpr ⟨hl, h⟩)]
  · intro j _ hj h go
    obtain ⟨g1, g2⟩ := h2 (p + j) (by omega)
    obtain ⟨c1, c2, c3⟩ := by1 hw hj
    refine wp_e e_51_1 (wp_t (nI_lt (by omega) (by omega)) (wp_e e_51_2 (wp_p (s_209 hs (by omega)) (wp_e e_51_3 ?_))))
    rw [nI_add, pk_sub (by omega), show p + (Fw.getD w 0 + j) - Fw.getD w 0 = p + j by omega]
    refine wp_c (by rw [ib (n := p + j) (N := 160) (by omega) (by decide)]; rfl) ?_
    rw [nI_clamp (n := p + j) (by omega), g1, c1]
    by_cases hc : bt (p + j) = (WL.getD w []).getD j 0
    · refine wp_t (by rw [hc]) (wp_e e_51_5 ?_)
      rw [nI_1, show Fw.getD w 0 + j + 1 = Fw.getD w 0 + (j + 1) by omega]
      refine go () (fun i hi => ?_)
      by_cases e : i = j
      · rw [e]; exact hc
      · exact h i (by omega)
    · refine wp_f (fun e => hc ((nI_eq (by omega) (by omega)).mp e).symm) (wp_e e_51_4 (wp_r ⟨?_, rfl⟩))
      rw [if_neg (fun e => hc ((ltr_eq.mp e).2 j hj))]
theorem s_50l {bt : Nat → Nat} {n p e : Nat} (hs : SW I) (ht : TW I bt n) (hp : p ≤ e) (he : e ≤ n) : ∀ f w : Nat, w + f = 12 → wp (am_R (d + 6) 50 1 (am_mem L ext tx tt fe I G) [some (Value.ref 10), some (Value.int (nI p)), some (Value.int (nI e)), some (Value.int (nI w)), some (Value.int (nI (Fw.getD w 0))), some (Value.int (nI (Fw.getD w 0)))] []) (fun v M => v = some (.int (wcf w (WL.drop w) (ltr bt p e))) ∧ M = (am_mem L ext tx tt fe I G)) := by
  have hn := ht.1
  intro f
  induction f with
  | zero =>
    intro w hw
    have e0 : w = 12 := by omega
    subst e0
    refine wp_e e_50_1 (wp_p (s_208 hs) (wp_e e_50_2 (wp_f (by decide) (wp_e e_50_14 (wp_r ⟨rfl, rfl⟩)))))
  | succ f ih =>
    intro w hw
    obtain ⟨b1, b2, b3⟩ := by2 (w := w) (by omega)
    have hx : WL.drop w = WL.getD w [] :: WL.drop (w + 1) := by
      have h12 : w < WL.length := by show w < 12; omega
      rw [List.drop_eq_getElem_cons h12, List.getD_eq_getElem?_getD, List.getElem?_eq_getElem h12]
      rfl
    have ewc : wcf w (WL.drop w) (ltr bt p e) = if ltr bt p e = WL.getD w [] then (if w < 6 then nI (10000 + w) else -nI w) else wcf (w + 1) (WL.drop (w + 1)) (ltr bt p e) := by
      rw [hx]
      rfl
    refine wp_loop (WL.getD w []).length (fun j (_ : Unit) => True) (fun j _ => wp (am_R (d + 6) 50 1 (am_mem L ext tx tt fe I G) [some (Value.ref 10), some (Value.int (nI p)), some (Value.int (nI e)), some (Value.int (nI w)), some (Value.int (nI (Fw.getD w 0))), some (Value.int (nI (Fw.getD w 0 + j)))] []) _) ?_ ?_ 0 () (Nat.zero_le _) trivial
    · intro _ _
      refine wp_e e_50_1 (wp_p (s_208 hs) (wp_e e_50_2 (wp_t (show nI (Fw.getD w 0 + (WL.getD w []).length) < (59 : Int32) from nI_lt (b := 59) b3 (by omega)) (wp_e e_50_3 (wp_p (s_209 hs b3) (wp_e e_50_4 (wp_t b1 (wp_e e_50_5 ?_))))))))
      rw [pk_sub (by omega), pk_sub hp, show Fw.getD w 0 + (WL.getD w []).length - Fw.getD w 0 = (WL.getD w []).length by omega]
      have nx : ¬ ltr bt p e = WL.getD w [] → wp (am_R (d + 6) 50 12 (am_mem L ext tx tt fe I G) [some (Value.ref 10), some (Value.int (nI p)), some (Value.int (nI e)), some (Value.int (nI w)), some (Value.int (nI (Fw.getD w 0))), some (Value.int (nI (Fw.getD w 0 + (WL.getD w []).length)))] []) (fun v M => v = some (.int (wcf w (WL.drop w) (ltr bt p e))) ∧ M = (am_mem L ext tx tt fe I G)) := by
        intro hne
        refine wp_e e_50_12 (wp_e e_50_13 ?_)
        rw [nI_1, nI_1, ← b2, ewc, if_neg hne]
        exact ih (w + 1) (by omega)
      by_cases hlen : (WL.getD w []).length = e - p
      · refine wp_t (by rw [hlen]) (wp_e e_50_6 (wp_p (s_51 hs ht (by omega) hp he hlen.symm) (wp_e e_50_7 ?_)))
        by_cases heq : ltr bt p e = WL.getD w []
        · rw [if_pos heq]
          refine wp_f (by decide) (wp_e e_50_8 ?_)
          rw [if_pos heq] at ewc
          by_cases h6 : w < 6
          · refine wp_t (show nI w < (6 : Int32) from nI_lt (b := 6) h6 (by omega)) (wp_e e_50_9 (wp_e e_50_11 (wp_r ⟨?_, rfl⟩)))
            rw [ewc, if_pos h6, show (10000 : Int32) = nI 10000 from rfl, nI_add]
          · refine wp_f (show ¬ nI w < (6 : Int32) from nI_nlt (b := 6) (by omega) (by omega)) (wp_e e_50_10 (wp_e e_50_11 (wp_r ⟨?_, rfl⟩)))
            rw [ewc, if_neg h6]
        · rw [if_neg heq]
          exact wp_t rfl (nx heq)
      · refine wp_f (fun h => hlen ((nI_eq (by omega) (by omega)).mp h)) (nx (fun h => hlen (ltr_eq.mp h).1.symm))
    · intro j _ hj _ go
      obtain ⟨c1, c2, c3⟩ := by1 (w := w) (by omega) hj
      refine wp_e e_50_1 (wp_p (s_208 hs) (wp_e e_50_2 (wp_t (show nI (Fw.getD w 0 + j) < (59 : Int32) from nI_lt (b := 59) (by omega) (by omega)) (wp_e e_50_3 (wp_p (s_209 hs (by omega)) (wp_e e_50_4 (wp_f c3 (wp_e e_50_13 ?_))))))))
      rw [nI_1, show Fw.getD w 0 + j + 1 = Fw.getD w 0 + (j + 1) by omega]
      exact go () trivial
theorem s_50 {bt : Nat → Nat} {n p e : Nat} (hs : SW I) (ht : TW I bt n) (hp : p ≤ e) (he : e ≤ n) : (am_R (d + 6) 50 0 (am_mem L ext tx tt fe I G) [some (Value.ref 10), some (Value.int (nI p)), some (Value.int (nI e)), none, none, none] []) = some (some (Value.int (wco (ltr bt p e))), (am_mem L ext tx tt fe I G)) := by
  refine wp_eq (wp_e e_50_0 ?_)
  exact s_50l hs ht hp he 12 0 rfl
theorem s_48 {bt : Nat → Nat} {n p : Nat} (hs : SW I) (ht : TW I bt n) (hp : p < n) : (am_R (d + 7) 48 0 (am_mem L ext tx tt fe I G) [some (Value.ref 10), some (Value.int (nI p)), some (Value.int (nI (te bt n p))), none] []) = some (some (Value.int (cd bt n p)), (am_mem L ext tx tt fe I G)) := by
  obtain ⟨hn, h1, h2⟩ := ht
  have ht : TW I bt n := ⟨hn, h1, h2⟩
  obtain ⟨g1, g2⟩ := h2 p hp
  have t1 := te_gt bt n p
  have t2 := te_le (bt := bt) hp
  unfold cd
  rw [if_pos hp]
  refine wp_eq (wp_e e_48_0 (wp_c (by rw [ib (n := p) (N := 160) (by omega) (by decide)]; rfl) ?_))
  rw [nI_clamp (n := p) (by omega), g1]
  refine wp_p (s_52 (by omega)) (wp_e e_48_1 ?_)
  by_cases hL : isL (bt p) = true
  · rw [if_pos hL, if_pos hL]
    exact wp_f (by decide) (wp_e e_48_2 (wp_p (s_50 hs ht (by omega) t2) (wp_e e_48_3 (wp_r ⟨rfl, rfl⟩))))
  · rw [if_neg hL, if_neg hL]
    refine wp_t rfl (wp_e e_48_4 (wp_p (s_53 (by omega)) (wp_e e_48_5 ?_)))
    by_cases hD : isD (bt p) = true
    · rw [if_pos hD, if_pos hD]
      refine wp_f (by decide) (wp_e e_48_6 ?_)
      rw [pk_sub (by omega)]
      by_cases h4 : 4 < te bt n p - p
      · rw [if_pos h4]
        exact wp_t (show (4 : Int32) < nI (te bt n p - p) from nI_lt (a := 4) h4 (by omega)) (wp_e e_48_7 (wp_e e_48_9 (wp_r ⟨rfl, rfl⟩)))
      · rw [if_neg h4]
        refine wp_f (show ¬ (4 : Int32) < nI (te bt n p - p) from nI_nlt (a := 4) (by omega) (by omega)) (wp_e e_48_8 (wp_p (s_49 ht t2 (by omega) (by omega) ?_) (wp_e e_48_9 (wp_r ⟨rfl, rfl⟩))))
        intro k hk1 hk2
        by_cases e : k = p
        · rw [e]; exact hD
        · have et : te bt n p = rn (fun k => isD (bt k)) (n - (p + 1)) (p + 1) := by
            unfold te
            rw [if_neg hL, if_pos hD]
          rw [et] at hk2
          exact rn_P (P := fun k => isD (bt k)) _ _ k (by omega) hk2
    · rw [if_neg hD, if_neg hD]
      refine wp_t rfl (wp_e e_48_10 (wp_p (s_54 g2) (wp_e e_48_11 ?_)))
      by_cases hS : isS (bt p) = true
      · rw [if_pos hS, if_pos hS]
        exact wp_f (by decide) (wp_e e_48_12 (wp_e e_48_14 (wp_r ⟨rfl, rfl⟩)))
      · rw [if_neg hS, if_neg hS]
        exact wp_t rfl (wp_e e_48_13 (wp_e e_48_14 (wp_r ⟨rfl, rfl⟩)))
/-- the tokens as they lie -/
def TK (I : Nat → Nat → Int32) (bt : Nat → Nat) (n s : Nat) : Prop := I 10 4 = nI s ∧ s ≤ n ∧ (∀ h, h ≤ s → I 12 h = cd bt n (tq bt n h) ∧ I 13 h = nI (tq bt n h)) ∧ tq bt n s = n ∧ ∀ h, h < s → tq bt n h < n
def FT : List Nat := [10, 12, 13]
theorem SW_f {I' : Nat → Nat → Int32} {S : List Nat} (h : SW I) (hf : fr S I I') (h2 : 2 ∉ S) (h3 : 3 ∉ S) : SW I' := ⟨by rw [hf 2 h2]; exact h.1, fun k hk => by rw [hf 3 h3]; exact h.2 k hk⟩
theorem s_46 {bt : Nat → Nat} {n : Nat} (hs : SW I) (ht : TW I bt n) : wp (am_R (d + 8) 46 0 (am_mem L ext tx tt fe I G) [some (Value.ref 10), none, none, none] []) (fun v M => v = none ∧ ∃ I' s, M = (am_mem L ext tx tt fe (I') G) ∧ fr FT I I' ∧ I' 10 1 = nI n ∧ TK I' bt n s) := by
  obtain ⟨hn, t1, t2⟩ := ht
  refine wp_e e_46_0 ?_
  -- at a place, with what was split so far
  have loop : ∀ f k p h : Nat, ∀ (I1 : Nat → Nat → Int32), p + f = n → k ≤ p → h ≤ k → fr FT I I1 → I1 10 1 = nI n → I1 10 4 = nI h → sk bt n p = tq bt n h → (∀ j, j < h → I1 12 j = cd bt n (tq bt n j) ∧ I1 13 j = nI (tq bt n j) ∧ tq bt n j < n) → wp (am_R (d + 8) 46 1 (am_mem L ext tx tt fe (I1) G) [some (Value.ref 10), some (Value.int (nI p)), some (Value.int (nI k)), none] []) (fun v M => v = none ∧ ∃ I' s, M = (am_mem L ext tx tt fe (I') G) ∧ fr FT I I' ∧ I' 10 1 = nI n ∧ TK I' bt n s) := by
    intro f
    induction f using Nat.strongRecOn with
    | _ f ih =>
      intro k p h I1 hp hkp hhk f1 u1 u4 hsk hall
      have fin : p = n → wp (am_R (d + 8) 46 9 (am_mem L ext tx tt fe (I1) G) [some (Value.ref 10), some (Value.int (nI p)), some (Value.int (nI k)), none] []) (fun v M => v = none ∧ ∃ I' s, M = (am_mem L ext tx tt fe (I') G) ∧ fr FT I I' ∧ I' 10 1 = nI n ∧ TK I' bt n s) := by
        intro e
        subst e
        rw [sk_n] at hsk
        refine wp_e e_46_9 ?_
        rw [u2_a (show (10 : Nat) ≠ 12 by decide), u4, u1]
        refine wp_c (by rw [ib (n := h) (N := 161) (by omega) (by decide)]; rfl) ?_
        rw [nI_clamp (n := h) (by omega)]
        have ff : fr FT I1 (am_u2 (am_u2 I1 12 h (-1)) 13 h (nI p)) := fr_t (fr_2 (by decide)) (fr_2 (by decide))
        refine wp_r ⟨rfl, _, h, rfl, fr_t f1 ff, ?_, ?_, by omega, fun j hj => ?_, hsk.symm, fun j hj => (hall j hj).2.2⟩
        · rw [u2_a (by decide), u2_a (by decide)]; exact u1
        · rw [u2_a (by decide), u2_a (by decide)]; exact u4
        · by_cases e : j = h
          · subst e
            refine ⟨?_, ?_⟩
            · rw [u2_a (by decide), u2_s, ← hsk]
              unfold cd
              rw [if_neg (Nat.lt_irrefl _)]
            · rw [u2_s, ← hsk]
          · obtain ⟨a1, a2, a3⟩ := hall j (by omega)
            exact ⟨by rw [u2_a (by decide), u2_k, if_neg e]; exact a1, by rw [u2_k, if_neg e, u2_a (by decide)]; exact a2⟩
      by_cases hpn : p < n
      · have hib := ib (n := p) (N := 160) (by omega) (by decide)
        have hcl := nI_clamp (n := p) (by omega)
        have tw1 : TW I1 bt n := ⟨hn, u1, fun j hj => by rw [f1 11 (by decide)]; exact t2 j hj⟩
        have sw1 : SW I1 := SW_f hs f1 (by decide) (by decide)
        obtain ⟨g1, g2⟩ := tw1.2.2 p hpn
        have q1 := te_gt bt n p
        have q2 := te_le (bt := bt) hpn
        refine wp_e e_46_1 (wp_t (show nI k < (160 : Int32) from nI_lt (b := 160) (by omega) (by omega)) (wp_e e_46_2 ?_))
        rw [u1]
        refine wp_t (nI_lt hpn (by omega)) (wp_e e_46_3 (wp_p (s_47 (d := d + 6) tw1 hpn) (wp_e e_46_4 (wp_c (by rw [hib]; rfl) ?_))))
        rw [hcl, g1]
        have blank : isB (bt p) = true → wp (am_R (d + 8) 46 8 (am_mem L ext tx tt fe (I1) G) [some (Value.ref 10), some (Value.int (nI p)), some (Value.int (nI k)), some (Value.int (nI (te bt n p)))] []) (fun v M => v = none ∧ ∃ I' s, M = (am_mem L ext tx tt fe (I') G) ∧ fr FT I I' ∧ I' 10 1 = nI n ∧ TK I' bt n s) := by
          intro hb
          have et : te bt n p = p + 1 := by
            unfold isB at hb
            rw [decide_eq_true_eq] at hb
            unfold te isL isD
            rw [if_neg (by simp; omega), if_neg (by simp; omega)]
          rw [et]
          refine wp_e e_46_8 (wp_l (lq_e (lq_e (lq_e (lq_n lq_0)))) ?_)
          rw [nI_1]
          exact ih (n - (p + 1)) (by omega) (k + 1) (p + 1) h I1 (by omega) (by omega) (by omega) f1 u1 u4 (by rw [← sk_b hpn hb]; exact hsk) hall
        by_cases h32 : bt p = 32
        · exact wp_t (by rw [h32]; rfl) (blank (by unfold isB; rw [decide_eq_true_eq]; exact Or.inl h32))
        refine wp_f (fun e => h32 ((nI_eq (a := bt p) (b := 32) (by omega) (by omega)).mp e)) (wp_e e_46_5 (wp_c (by rw [hib]; rfl) ?_))
        rw [hcl, g1]
        by_cases h10 : bt p = 10
        · exact wp_t (by rw [h10]; rfl) (blank (by unfold isB; rw [decide_eq_true_eq]; exact Or.inr h10))
        refine wp_f (fun e => h10 ((nI_eq (a := bt p) (b := 10) (by omega) (by omega)).mp e)) (wp_e e_46_6 (wp_p (s_48 (d := d) sw1 tw1 hpn) (wp_e e_46_7 ?_)))
        have hnb : ¬ isB (bt p) = true := by
          unfold isB
          rw [decide_eq_true_eq]
          omega
        rw [sk_s hnb] at hsk
        rw [u2_a (show (10 : Nat) ≠ 12 by decide), u4]
        refine wp_c (by rw [ib (n := h) (N := 161) (by omega) (by decide)]; rfl) ?_
        rw [nI_clamp (n := h) (by omega), u2_a (show (10 : Nat) ≠ 13 by decide), u2_a (show (10 : Nat) ≠ 12 by decide), u4, nI_1]
        refine wp_e e_46_8 (wp_l (lq_e (lq_e (lq_e (lq_n lq_0)))) ?_)
        rw [nI_1]
        have ff : fr FT I1 (am_u2 (am_u2 (am_u2 I1 12 h (cd bt n p)) 13 h (nI p)) 10 4 (nI (h + 1))) := fr_t (fr_2 (by decide)) (fr_t (fr_2 (by decide)) (fr_2 (by decide)))
        refine ih (n - te bt n p) (by omega) (k + 1) (te bt n p) (h + 1) _ (by omega) (by omega) (by omega) (fr_t f1 ff) ?_ (u2_s _ _ _ _) ?_ ?_
        · rw [u2_k, if_neg (by decide), u2_a (by decide), u2_a (by decide)]; exact u1
        · show sk bt n (te bt n p) = adv bt n (tq bt n h)
          rw [← hsk]
          rfl
        · intro j hj
          by_cases e : j = h
          · subst e
            refine ⟨?_, ?_, by omega⟩
            · rw [u2_a (by decide), u2_a (by decide), u2_s, ← hsk]
            · rw [u2_a (by decide), u2_s, ← hsk]
          · obtain ⟨a1, a2, a3⟩ := hall j (by omega)
            exact ⟨by rw [u2_a (by decide), u2_a (by decide), u2_k, if_neg e]; exact a1, by rw [u2_a (by decide), u2_k, if_neg e, u2_a (by decide)]; exact a2, a3⟩
      · have e : p = n := by omega
        refine wp_e e_46_1 ?_
        by_cases hk160 : k < 160
        · refine wp_t (show nI k < (160 : Int32) from nI_lt (b := 160) hk160 (by omega)) (wp_e e_46_2 ?_)
          rw [u1]
          exact wp_f (nI_nlt (by omega) (by omega)) (fin e)
        · exact wp_f (show ¬ nI k < (160 : Int32) from nI_nlt (b := 160) (by omega) (by omega)) (fin e)
  exact loop n 0 0 0 _ (by omega) (by omega) (by omega) (fr_2 (by decide)) (by rw [u2_k, if_neg (by decide)]; exact t1) (u2_s _ _ _ _) rfl (fun j hj => by omega)
end B11
