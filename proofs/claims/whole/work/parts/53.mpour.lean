/-! PURE, 23: pouring (model) -/
/-- but for these cells, and these fields of the model -/
def mf (S T : List Nat) (I I' : Nat → Nat → Int32) : Prop := (∀ a, a ≠ 55 → a ∉ S → I' a = I a) ∧ ∀ k, k ∉ T → I' 55 k = I 55 k
theorem mf_r (S T : List Nat) (I : Nat → Nat → Int32) : mf S T I I := ⟨fun _ _ _ => rfl, fun _ _ => rfl⟩
theorem mf_t {S T : List Nat} {I I' I'' : Nat → Nat → Int32} (h : mf S T I I') (h2 : mf S T I' I'') : mf S T I I'' := ⟨fun a ha hs => (h2.1 a ha hs).trans (h.1 a ha hs), fun k hk => (h2.2 k hk).trans (h.2 k hk)⟩
theorem mf_m {S T S' T' : List Nat} {I I' : Nat → Nat → Int32} (h : mf S T I I') (hs : ∀ a, a ∈ S → a ∈ S') (ht : ∀ a, a ∈ T → a ∈ T') : mf S' T' I I' := ⟨fun a ha hq => h.1 a ha (fun e => hq (hs a e)), fun k hk => h.2 k (fun e => hk (ht k e))⟩
theorem mf_5 {S T : List Nat} {I : Nat → Nat → Int32} {k : Nat} {v : Int32} (h : k ∈ T) : mf S T I (am_u2 I 55 k v) := ⟨fun a ha _ => u2_a ha, fun x hx => by rw [u2_k, if_neg (show ¬ x = k from fun e => hx (by rw [e]; exact h))]⟩
theorem mf_2 {S T : List Nat} {I : Nat → Nat → Int32} {a k : Nat} {v : Int32} (h : a ∈ S) (h5 : a ≠ 55) : mf S T I (am_u2 I a k v) := ⟨fun x _ hs => u2_a (fun e => hs (e ▸ h)), fun x _ => by rw [u2_a (Ne.symm h5)]⟩
theorem mf_f5 {S T T0 : List Nat} {I I' : Nat → Nat → Int32} (h : f5 T0 I I') (ht : ∀ a, a ∈ T0 → a ∈ T) : mf S T I I' := ⟨fun a ha _ => h.1 a ha, fun k hk => h.2 k (fun e => hk (ht k e))⟩
def SP : List Nat := [63, 64, 65, 66]
def TP : List Nat := [14, 15, 16, 17, 18, 19, 20, 21, 22, 23, 24, 26, 27, 28, 33, 34, 35]
def TY : List Nat := [14, 15, 16, 17, 18, 19, 20, 21, 22, 23, 24, 26, 27, 28]
theorem wi_in (m : Nat) (hm : 0 < m) (h : m < 2 ^ 31) (x : Int32) : ∃ k, k ≤ m ∧ wi (nI m) x = nI k := by
  unfold wi
  by_cases h1 : nI m < x
  · rw [if_pos h1, if_pos (show (0 : Int32) < nI m from nI_lt (a := 0) hm h)]
    exact ⟨m, Nat.le_refl m, rfl⟩
  · rw [if_neg h1]
    by_cases h2 : (0 : Int32) < x
    · rw [if_pos h2]
      rw [fa_lt, nI_toInt h] at h1
      rw [fa_lt] at h2
      have e0 : (0 : Int32).toInt = 0 := rfl
      refine ⟨x.toInt.toNat, by omega, ?_⟩
      rw [fa_eq, nI_toInt (by omega)]
      omega
    · rw [if_neg h2]
      exact ⟨0, Nat.zero_le m, rfl⟩
theorem wi_m {m : Nat} (hm : 0 < m) (h : m < 2 ^ 31) {x : Int32} : (if x < 0 then 0 else if nI m < x then nI m else x) = wi (nI m) x := by
  unfold wi
  by_cases h1 : nI m < x
  · have h0 : ¬ x < 0 := by
      rw [fa_lt, nI_toInt h] at h1
      rw [fa_lt]
      have e0 : (0 : Int32).toInt = 0 := rfl
      omega
    rw [if_pos h1, if_neg h0, if_pos (show (0 : Int32) < nI m from nI_lt (a := 0) hm h)]
  · rw [if_neg h1]
    by_cases h2 : (0 : Int32) < x
    · rw [if_pos h2, if_neg (fa_of_lt h2).2.2.1]
    · rw [if_neg h2]
      by_cases h3 : x < 0
      · rw [if_pos h3]
      · rw [if_neg h3, fa_eq]
        rw [fa_lt] at h2 h3
        have e0 : (0 : Int32).toInt = 0 := rfl
        omega
def rg (s : SF) : Prop := ∀ a b c e, ∃ m, m ≤ 999 ∧ s a b c e = nI m
theorem rg_s {cs : List Int32} {D C : Int32} : rg (sS cs D C) := fun _ _ _ _ => wi_in 999 (by decide) (by decide) _
theorem rg_n {s : SF} (h : rg s) {a b c e : Int32} : ¬ s a b c e = -1 := by
  obtain ⟨m, h1, h2⟩ := h a b c e
  rw [h2]
  exact fun e => nI_pos (n := m) (by omega) (by rw [e]; decide)
/-- n dribs are in the cups -/
def PSok (n : Nat) (t : PS) : Prop := (∀ c, c < 4 → ∃ f, f ≤ n ∧ t.1 c = nI f) ∧ (∀ c, c < 4 → ∃ m, m ≤ n * 1019 ∧ t.2.1 c = nI m) ∧ (t.2.2.1 = -1 ∨ ∃ w, w < 4 ∧ t.2.2.1 = nI w)
theorem ps0_ok : PSok 0 ps0 := ⟨fun _ _ => ⟨0, Nat.le_refl 0, rfl⟩, fun _ _ => ⟨0, Nat.zero_le _, rfl⟩, Or.inl rfl⟩
theorem PSok_up {n m : Nat} {t : PS} (h : PSok n t) (hm : n ≤ m) : PSok m t := ⟨fun c hc => by obtain ⟨f, h1, h2⟩ := h.1 c hc; exact ⟨f, by omega, h2⟩, fun c hc => by obtain ⟨f, h1, h2⟩ := h.2.1 c hc; exact ⟨f, Nat.le_trans h1 (Nat.mul_le_mul_right 1019 hm), h2⟩, h.2.2⟩
theorem pah_w {n c : Nat} {t : PS} (h : PSok n t) (hc : c < 4) : ∃ w, w < 4 ∧ pah c t = nI w := by
  unfold pah
  rcases h.2.2 with e | ⟨w, h1, h2⟩
  · exact ⟨c, hc, if_pos e⟩
  · refine ⟨w, h1, ?_⟩
    rw [if_neg, h2]
    rw [h2]
    exact fun e => nI_pos (n := w) (by omega) (by rw [e]; decide)
theorem phs_r {s : SF} {i c k : Nat} {t : PS} (h : rg s) (hk : k ≤ 20) : ∃ m, m ≤ 1019 ∧ phs s i c (nI k) t = nI m := by
  obtain ⟨m, h1, h2⟩ := h (nI i) (nI c) (t.1 c) (pah c t)
  refine ⟨m + k, by omega, ?_⟩
  unfold phs
  rw [h2, nI_add]
theorem pls_r {s d : SF} {i c k m : Nat} {t : PS} (hd : rg d) (hm : m ≤ 1019) (e : phs s i c (nI k) t = nI m) : ∃ l, l ≤ m ∧ pls s d i c (nI k) t = nI l := by
  obtain ⟨x, h1, h2⟩ := hd (nI i) (nI c) (t.1 c) (pah c t)
  unfold pls
  rw [e, h2]
  by_cases hx : m < x
  · rw [if_pos (nI_lt hx (by omega))]
    exact ⟨m, Nat.le_refl m, rfl⟩
  · rw [if_neg (nI_nlt (by omega) (by omega))]
    exact ⟨x, by omega, rfl⟩
theorem pstep_ok {s d : SF} {n i c k : Nat} {t : PS} (hs : rg s) (hd : rg d) (hk : k ≤ 20) (hn : n < 1000) (hc : c < 4) (h : PSok n t) : PSok (n + 1) (pstep s d i c (nI k) t) := by
  obtain ⟨m, m1, m2⟩ := phs_r (i := i) (c := c) (t := t) hs hk
  obtain ⟨l, l1, l2⟩ := pls_r hd m1 m2
  have key : ∀ (x : Int32) (y z : Int32) (q : Nat), q ≤ 1019 → x = nI q → PSok (n + 1) ((fun y => if y = c then t.1 c + 1 else t.1 y), (fun y => if y = c then t.2.1 c + x else t.2.1 y), nI c, y, z) := by
    intro x y z q hq hx
    refine ⟨fun a ha => ?_, fun a ha => ?_, Or.inr ⟨c, hc, rfl⟩⟩
    · show ∃ f, f ≤ n + 1 ∧ (if a = c then t.1 c + 1 else t.1 a) = nI f
      obtain ⟨f, f1, f2⟩ := h.1 a ha
      by_cases e : a = c
      · subst e
        rw [if_pos rfl, f2, n1, nI_add]
        exact ⟨f + 1, by omega, rfl⟩
      · rw [if_neg e]
        exact ⟨f, by omega, f2⟩
    · show ∃ f, f ≤ (n + 1) * 1019 ∧ (if a = c then t.2.1 c + x else t.2.1 a) = nI f
      obtain ⟨f, f1, f2⟩ := h.2.1 a ha
      by_cases e : a = c
      · subst e
        rw [if_pos rfl, f2, hx, nI_add]
        exact ⟨f + q, by omega, rfl⟩
      · rw [if_neg e]
        exact ⟨f, Nat.le_trans f1 (Nat.mul_le_mul_right 1019 (Nat.le_succ n)), f2⟩
  unfold pstep
  by_cases e : nI c = pah c t
  · rw [if_pos e]
    exact key _ _ _ m m1 m2
  · rw [if_neg e]
    exact key _ _ _ (m - l) (by omega) (by rw [m2, l2, pk_sub (by omega)])
/-- the model's world of pouring -/
def MW (I : Nat → Nat → Int32) (C D R : Nat) (bt : Nat → Nat) (n : Nat) (cs cd cl : List Int32) : Prop := I 55 7 = nI C ∧ I 55 8 = nI D ∧ I 55 4 = nI R ∧ (0 < C ∧ C ≤ 4 ∧ D ≤ 24 ∧ R < 6) ∧ MB I R bt n ∧ ∃ q, txt bt n = (q, some (cs, cd, cl))
theorem MW_f {I I' : Nat → Nat → Int32} {C D R : Nat} {bt : Nat → Nat} {n : Nat} {cs cd cl : List Int32} {S T : List Nat} (h : MW I C D R bt n cs cd cl) (hf : mf S T I I') (h4 : 4 ∉ T) (h7 : 7 ∉ T) (h8 : 8 ∉ T) (h56 : 56 ∉ S) (h57 : 57 ∉ S) : MW I' C D R bt n cs cd cl := by
  obtain ⟨a1, a2, a3, a4, ⟨a5, a6, a7, a8⟩, a9⟩ := h
  exact ⟨by rw [hf.2 7 h7]; exact a1, by rw [hf.2 8 h8]; exact a2, by rw [hf.2 4 h4]; exact a3, a4, ⟨a5, a6, by rw [hf.1 57 (by decide) h57]; exact a7, fun k hk => by rw [hf.1 56 (by decide) h56]; exact a8 k hk⟩, a9⟩
def kno (i c f w : Nat) : Nat := ((i * 4 + c) * 25 + f) * 4 + w
/-- the notes are right -/
def NW (I : Nat → Nat → Int32) (s d : SF) : Prop := ∀ i c f w, i < 24 → c < 4 → f < 25 → w < 4 → (I 63 (kno i c f w) = -1 ∨ I 63 (kno i c f w) = s (nI i) (nI c) (nI f) (nI w)) ∧ (I 64 (kno i c f w) = -1 ∨ I 64 (kno i c f w) = d (nI i) (nI c) (nI f) (nI w))
theorem NW_f {I I' : Nat → Nat → Int32} {s d : SF} (h : NW I s d) (h3 : I' 63 = I 63) (h4 : I' 64 = I 64) : NW I' s d := fun i c f w a b e g => by
  rw [h3, h4]
  exact h i c f w a b e g
theorem kno_i {i c f w i' c' f' w' : Nat} (hc : c < 4) (hf : f < 25) (hw : w < 4) (hc' : c' < 4) (hf' : f' < 25) (hw' : w' < 4) (h : kno i' c' f' w' = kno i c f w) : i' = i ∧ c' = c ∧ f' = f ∧ w' = w := by
  unfold kno at h
  omega
theorem kno_lt {i c f w : Nat} (hi : i < 24) (hc : c < 4) (hf : f < 25) (hw : w < 4) : kno i c f w < 9600 := by
  unfold kno
  omega
/-- what is in the model's cups -/
def psM (I : Nat → Nat → Int32) (t : PS) : Prop := (∀ k, k < 4 → I 65 k = t.1 k) ∧ (∀ k, k < 4 → I 66 k = t.2.1 k) ∧ I 55 33 = t.2.2.1 ∧ I 55 34 = t.2.2.2.1 ∧ I 55 35 = t.2.2.2.2
theorem NW_3 {I I' : Nat → Nat → Int32} {s d : SF} {i c f w : Nat} (h : NW I s d) (hc : c < 4) (hf : f < 25) (hw : w < 4) (h4 : I' 64 = I 64) (h3 : ∀ k, I' 63 k = if k = kno i c f w then s (nI i) (nI c) (nI f) (nI w) else I 63 k) : NW I' s d := fun i' c' f' w' a b e g => by
  have o := h i' c' f' w' a b e g
  refine ⟨?_, by rw [h4]; exact o.2⟩
  rw [h3]
  by_cases hk : kno i' c' f' w' = kno i c f w
  · obtain ⟨rfl, rfl, rfl, rfl⟩ := kno_i hc hf hw b e g hk
    rw [if_pos rfl]
    exact Or.inr rfl
  · rw [if_neg hk]
    exact o.1
theorem NW_4 {I I' : Nat → Nat → Int32} {s d : SF} {i c f w : Nat} (h : NW I s d) (hc : c < 4) (hf : f < 25) (hw : w < 4) (h3 : I' 63 = I 63) (h4 : ∀ k, I' 64 k = if k = kno i c f w then d (nI i) (nI c) (nI f) (nI w) else I 64 k) : NW I' s d := fun i' c' f' w' a b e g => by
  have o := h i' c' f' w' a b e g
  refine ⟨by rw [h3]; exact o.1, ?_⟩
  rw [h4]
  by_cases hk : kno i' c' f' w' = kno i c f w
  · obtain ⟨rfl, rfl, rfl, rfl⟩ := kno_i hc hf hw b e g hk
    rw [if_pos rfl]
    exact Or.inr rfl
  · rw [if_neg hk]
    exact o.2
section B23
variable {d L : Nat} {ext : List (Nat × Nat)} {tx : Nat → Nat} {tt : Nat} {fe : Nat → Nat → Option Nat} {I : Nat → Nat → Int32} {G : Nat → Nat → Int64}
theorem s_157 {C D R n which : Nat} {bt : Nat → Nat} {cs cd cl : List Int32} {i c full was : Int32} (hm : MW I C D R bt n cs cd cl) (hd : 70 ≤ d) (hw : which < 3) : wp (am_R (d + 1) 157 0 (am_mem L ext tx tt fe I G) [some (Value.ref 55), some (Value.int (nI which)), some (Value.int i), some (Value.int c), some (Value.int full), some (Value.int was)] []) (fun v M => v = some (.int (wi (if which = 2 then 9999 else 999) (wv (nmf (nI D) (nI C) i c full was) (pick which cs cd cl) []))) ∧ ∃ I' G', M = am_mem L ext tx tt fe I' G' ∧ f5 TY I I') := by
  obtain ⟨h7, h8, h4, ⟨hC0, hC4, hD, hR⟩, hb, q, hq⟩ := hm
  obtain ⟨d, rfl⟩ : ∃ e, d = e + 4 := ⟨d - 4, by omega⟩
  refine wp_e e_157_0 ?_
  have x8 : am_u2 I 55 14 i 55 8 = nI D := by rw [u2_k, if_neg (by decide)]; exact h8
  have x7 : am_u2 (am_u2 I 55 14 i) 55 15 (nI D) 55 7 = nI C := by rw [u2_k, if_neg (by decide), u2_k, if_neg (by decide)]; exact h7
  rw [x8, x7]
  have fa : f5 TY I (am_u2 (am_u2 (am_u2 (am_u2 (am_u2 (am_u2 I 55 14 i) 55 15 (nI D)) 55 16 (nI C)) 55 17 c) 55 18 full) 55 19 was) := f5_t (f5_2 (by decide)) (f5_t (f5_2 (by decide)) (f5_t (f5_2 (by decide)) (f5_t (f5_2 (by decide)) (f5_t (f5_2 (by decide)) (f5_2 (by decide))))))
  have an : ∀ k, k < 6 → (am_u2 (am_u2 (am_u2 (am_u2 (am_u2 (am_u2 I 55 14 i) 55 15 (nI D)) 55 16 (nI C)) 55 17 c) 55 18 full) 55 19 was) 55 (14 + k) = nmf (nI D) (nI C) i c full was k := by
    intro k hk
    simp only [u2_k]
    obtain rfl | rfl | rfl | rfl | rfl | rfl : k = 0 ∨ k = 1 ∨ k = 2 ∨ k = 3 ∨ k = 4 ∨ k = 5 := by omega
    all_goals rfl
  generalize (am_u2 (am_u2 (am_u2 (am_u2 (am_u2 (am_u2 I 55 14 i) 55 15 (nI D)) 55 16 (nI C)) 55 17 c) 55 18 full) 55 19 was) = Ia at fa an ⊢
  rw [fa.2 4 (by decide), h4]
  have hb' : MB Ia R bt n := ⟨hb.1, hb.2.1, by rw [fa.1 57 (by decide)]; exact hb.2.2.1, fun k hk => by rw [fa.1 56 (by decide)]; exact hb.2.2.2 k hk⟩
  refine wp_b (s_154 (d := d + 3) hb' an (by omega) hw) ?_
  rintro v M ⟨x, I2, G2, rfl, rfl, f2, o2⟩
  rw [hq] at o2
  obtain ⟨-, rfl⟩ := o2
  have ff : f5 TY I I2 := f5_t fa (f5_m f2 (by decide))
  refine wp_e e_157_1 ?_
  by_cases h2 : which = 2
  · subst h2
    rw [if_pos rfl]
    refine wp_t rfl (wp_e e_157_2 (wp_e e_157_4 (wp_p s_128 (wp_e e_157_5 (wp_r ⟨?_, I2, G2, rfl, ff⟩)))))
    rw [show (9999 : Int32) = nI 9999 from rfl, wi_m (by decide) (by decide)]
  · rw [if_neg h2]
    refine wp_f (fun e => h2 ((nI_eq (by omega) (by decide)).mp e)) (wp_e e_157_3 (wp_e e_157_4 (wp_p s_128 (wp_e e_157_5 (wp_r ⟨?_, I2, G2, rfl, ff⟩)))))
    rw [show (999 : Int32) = nI 999 from rfl, wi_m (by decide) (by decide)]
theorem kno_e {i c f w : Nat} : nI i * 4 + nI c = nI (i * 4 + c) ∧ ((nI i * 4 + nI c) * 25 + nI f) * 4 + nI w = nI (kno i c f w) := by
  have e1 : nI i * 4 + nI c = nI (i * 4 + c) := by rw [show (4 : Int32) = nI 4 from rfl, pk_mul, nI_add]
  refine ⟨e1, ?_⟩
  rw [e1, show (4 : Int32) = nI 4 from rfl, show (25 : Int32) = nI 25 from rfl, pk_mul, nI_add, pk_mul, nI_add]
  rfl
theorem s_160 {C D R n i c f w : Nat} {bt : Nat → Nat} {cs cd cl : List Int32} (hm : MW I C D R bt n cs cd cl) (hn : NW I (sS cs (nI D) (nI C)) (sS cd (nI D) (nI C))) (hd : 70 ≤ d) (hi : i < 24) (hc : c < 4) (hf : f < 25) (hw : w < 4) : wp (am_R (d + 2) 160 0 (am_mem L ext tx tt fe I G) [some (Value.ref 55), some (Value.int (nI i)), some (Value.int (nI c)), some (Value.int (nI f)), some (Value.int (nI w)), none] []) (fun v M => v = some (.int (sS cs (nI D) (nI C) (nI i) (nI c) (nI f) (nI w))) ∧ ∃ I' G', M = am_mem L ext tx tt fe I' G' ∧ mf SP TP I I' ∧ NW I' (sS cs (nI D) (nI C)) (sS cd (nI D) (nI C)) ∧ I' 65 = I 65 ∧ I' 66 = I 66 ∧ I' 55 33 = I 55 33 ∧ I' 55 34 = I 55 34 ∧ I' 55 35 = I 55 35) := by
  have hk := kno_lt hi hc hf hw
  have hib := ib hk (N := 9600) (by decide)
  have hcl := nI_clamp (n := kno i c f w) (by omega)
  refine wp_e e_160_0 (wp_p e_159_0 (wp_e e_160_1 ?_))
  rw [kno_e.2]
  refine wp_c (by rw [hib]; rfl) ?_
  rw [hcl]
  by_cases hno : I 63 (kno i c f w) = -1
  · refine wp_t hno (wp_e e_160_2 (wp_b (s_157 (which := 0) (d := d) hm hd (by decide)) ?_))
    rintro v M ⟨rfl, I2, G2, rfl, f2⟩
    refine wp_e e_160_3 (wp_c (by rw [hib]; rfl) ?_)
    rw [hcl]
    refine wp_e e_160_4 (wp_c (by rw [hib]; rfl) (wp_r ?_))
    rw [hcl, u2_s]
    have ff : mf SP TP I (am_u2 I2 63 (kno i c f w) (sS cs (nI D) (nI C) (nI i) (nI c) (nI f) (nI w))) := mf_t (mf_f5 f2 (by decide)) (mf_2 (by decide) (by decide))
    refine ⟨rfl, _, _, rfl, ff, ?_, by rw [u2_a (by decide)]; exact f2.1 65 (by decide), by rw [u2_a (by decide)]; exact f2.1 66 (by decide), by rw [u2_a (by decide)]; exact f2.2 33 (by decide), by rw [u2_a (by decide)]; exact f2.2 34 (by decide), by rw [u2_a (by decide)]; exact f2.2 35 (by decide)⟩
    refine NW_3 (NW_f hn (f2.1 63 (by decide)) (f2.1 64 (by decide))) (i := i) hc hf hw (u2_a (by decide)) (fun k => ?_)
    rw [u2_k]
    rfl
  · refine wp_f hno (wp_e e_160_4 (wp_c (by rw [hib]; rfl) (wp_r ?_)))
    rw [hcl]
    refine ⟨?_, I, G, rfl, mf_r _ _ _, hn, rfl, rfl, rfl, rfl, rfl⟩
    rcases (hn i c f w hi hc hf hw).1 with h | h
    · exact absurd h hno
    · rw [h]
theorem s_161 {C D R n i c f w : Nat} {bt : Nat → Nat} {cs cd cl : List Int32} (hm : MW I C D R bt n cs cd cl) (hn : NW I (sS cs (nI D) (nI C)) (sS cd (nI D) (nI C))) (hd : 70 ≤ d) (hi : i < 24) (hc : c < 4) (hf : f < 25) (hw : w < 4) : wp (am_R (d + 2) 161 0 (am_mem L ext tx tt fe I G) [some (Value.ref 55), some (Value.int (nI i)), some (Value.int (nI c)), some (Value.int (nI f)), some (Value.int (nI w)), none] []) (fun v M => v = some (.int (sS cd (nI D) (nI C) (nI i) (nI c) (nI f) (nI w))) ∧ ∃ I' G', M = am_mem L ext tx tt fe I' G' ∧ mf SP TP I I' ∧ NW I' (sS cs (nI D) (nI C)) (sS cd (nI D) (nI C)) ∧ I' 65 = I 65 ∧ I' 66 = I 66 ∧ I' 55 33 = I 55 33 ∧ I' 55 34 = I 55 34 ∧ I' 55 35 = I 55 35) := by
  have hk := kno_lt hi hc hf hw
  have hib := ib hk (N := 9600) (by decide)
  have hcl := nI_clamp (n := kno i c f w) (by omega)
  refine wp_e e_161_0 (wp_p e_159_0 (wp_e e_161_1 ?_))
  rw [kno_e.2]
  refine wp_c (by rw [hib]; rfl) ?_
  rw [hcl]
  by_cases hno : I 64 (kno i c f w) = -1
  · refine wp_t hno (wp_e e_161_2 (wp_b (s_157 (which := 1) (d := d) hm hd (by decide)) ?_))
    rintro v M ⟨rfl, I2, G2, rfl, f2⟩
    refine wp_e e_161_3 (wp_c (by rw [hib]; rfl) ?_)
    rw [hcl]
    refine wp_e e_161_4 (wp_c (by rw [hib]; rfl) (wp_r ?_))
    rw [hcl, u2_s]
    have ff : mf SP TP I (am_u2 I2 64 (kno i c f w) (sS cd (nI D) (nI C) (nI i) (nI c) (nI f) (nI w))) := mf_t (mf_f5 f2 (by decide)) (mf_2 (by decide) (by decide))
    refine ⟨rfl, _, _, rfl, ff, ?_, by rw [u2_a (by decide)]; exact f2.1 65 (by decide), by rw [u2_a (by decide)]; exact f2.1 66 (by decide), by rw [u2_a (by decide)]; exact f2.2 33 (by decide), by rw [u2_a (by decide)]; exact f2.2 34 (by decide), by rw [u2_a (by decide)]; exact f2.2 35 (by decide)⟩
    refine NW_4 (NW_f hn (f2.1 63 (by decide)) (f2.1 64 (by decide))) (i := i) hc hf hw (u2_a (by decide)) (fun k => ?_)
    rw [u2_k]
    rfl
  · refine wp_f hno (wp_e e_161_4 (wp_c (by rw [hib]; rfl) (wp_r ?_)))
    rw [hcl]
    refine ⟨?_, I, G, rfl, mf_r _ _ _, hn, rfl, rfl, rfl, rfl, rfl⟩
    rcases (hn i c f w hi hc hf hw).2 with h | h
    · exact absurd h hno
    · rw [h]
/-- one drib more (model) -/
theorem s_163 {C D R n i c k N : Nat} {bt : Nat → Nat} {cs cd cl : List Int32} {t : PS} (hm : MW I C D R bt n cs cd cl) (hn : NW I (sS cs (nI D) (nI C)) (sS cd (nI D) (nI C))) (hd : 70 ≤ d) (hi : i < 24) (hc : c < 4) (hp : psM I t) (hk : PSok N t) (hN : N ≤ 24) : wp (am_R (d + 3) 163 0 (am_mem L ext tx tt fe I G) [some (Value.ref 55), some (Value.int (nI i)), some (Value.int (nI c)), some (Value.int (nI k)), none, none, none] []) (fun v M => v = none ∧ ∃ I' G', M = am_mem L ext tx tt fe I' G' ∧ mf SP TP I I' ∧ NW I' (sS cs (nI D) (nI C)) (sS cd (nI D) (nI C)) ∧ psM I' (pstep (sS cs (nI D) (nI C)) (sS cd (nI D) (nI C)) i c (nI k) t)) := by
  obtain ⟨p1, p2, p3, p4, p5⟩ := hp
  have hib := ib hc (N := 4) (by decide)
  have hcl := nI_clamp (n := c) (by omega)
  obtain ⟨f, f1, f2⟩ := hk.1 c hc
  obtain ⟨w, w1, w2⟩ := pah_w hk hc
  have last : ∀ (I1 : Nat → Nat → Int32) (G1 : Nat → Nat → Int64) (ah v5 ch dr : Int32) (l6 : Option Value), mf SP TP I I1 → NW I1 (sS cs (nI D) (nI C)) (sS cd (nI D) (nI C)) → I1 65 = I 65 → I1 66 = I 66 → I1 55 34 = ch → I1 55 35 = dr → pstep (sS cs (nI D) (nI C)) (sS cd (nI D) (nI C)) i c (nI k) t = ((fun y => if y = c then t.1 c + 1 else t.1 y), (fun y => if y = c then t.2.1 c + v5 else t.2.1 y), nI c, ch, dr) → wp (am_R (d + 3) 163 10 (am_mem L ext tx tt fe I1 G1) [some (Value.ref 55), some (Value.int (nI i)), some (Value.int (nI c)), some (Value.int (nI k)), some (Value.int ah), some (Value.int v5), none] []) (fun v M => v = none ∧ ∃ I' G', M = am_mem L ext tx tt fe I' G' ∧ mf SP TP I I' ∧ NW I' (sS cs (nI D) (nI C)) (sS cd (nI D) (nI C)) ∧ psM I' (pstep (sS cs (nI D) (nI C)) (sS cd (nI D) (nI C)) i c (nI k) t)) := by
    intro I1 G1 ah v5 ch dr l6 q1 q2 q3 q4 q5 q6 q7
    refine wp_e e_163_10 (wp_c (by rw [hib]; rfl) (wp_r ?_))
    rw [hcl]
    refine ⟨rfl, _, _, rfl, mf_t q1 (mf_t (mf_2 (by decide) (by decide)) (mf_t (mf_2 (by decide) (by decide)) (mf_5 (by decide)))), NW_f q2 ?_ ?_, ?_⟩
    · rw [u2_a (by decide), u2_a (by decide), u2_a (by decide)]
    · rw [u2_a (by decide), u2_a (by decide), u2_a (by decide)]
    · rw [q7]
      refine ⟨fun y hy => ?_, fun y hy => ?_, ?_, ?_, ?_⟩
      · rw [u2_a (by decide), u2_a (by decide), u2_k, q3]
        show _ = if y = c then t.1 c + 1 else t.1 y
        rw [p1 c hc, p1 y hy]
      · rw [u2_a (by decide), u2_k, u2_a (by decide), q4]
        show _ = if y = c then t.2.1 c + v5 else t.2.1 y
        rw [p2 c hc, p2 y hy]
      · rw [u2_s]
      · rw [u2_k, if_neg (by decide), u2_a (by decide), u2_a (by decide)]
        exact q5
      · rw [u2_k, if_neg (by decide), u2_a (by decide), u2_a (by decide)]
        exact q6
  have main : ∀ ah : Int32, ah = pah c t → wp (am_R (d + 3) 163 3 (am_mem L ext tx tt fe I G) [some (Value.ref 55), some (Value.int (nI i)), some (Value.int (nI c)), some (Value.int (nI k)), none, none, none] [Value.int ah]) (fun v M => v = none ∧ ∃ I' G', M = am_mem L ext tx tt fe I' G' ∧ mf SP TP I I' ∧ NW I' (sS cs (nI D) (nI C)) (sS cd (nI D) (nI C)) ∧ psM I' (pstep (sS cs (nI D) (nI C)) (sS cd (nI D) (nI C)) i c (nI k) t)) := by
    intro ah hah
    refine wp_e e_163_3 (wp_c (by rw [hib]; rfl) ?_)
    rw [hcl, p1 c hc, f2, hah, w2]
    refine wp_b (s_160 (d := d) hm hn hd hi hc (by omega) w1) ?_
    rintro v M ⟨rfl, I1, G1, rfl, g1, g2, g3, g4, g5, g6, g7⟩
    refine wp_e e_163_4 ?_
    have hs : sS cs (nI D) (nI C) (nI i) (nI c) (nI f) (nI w) + nI k = phs (sS cs (nI D) (nI C)) i c (nI k) t := by
      unfold phs
      rw [f2, w2]
    rw [hs]
    by_cases e : nI w = nI c
    · refine wp_t e (last I1 G1 _ _ _ _ none g1 g2 g3 g4 (g6.trans p4) (g7.trans p5) ?_)
      unfold pstep
      rw [if_pos (by rw [w2, e])]
    · refine wp_f e (wp_e e_163_5 (wp_c (by rw [hib]; rfl) ?_))
      rw [hcl, g3, p1 c hc, f2]
      refine wp_b (s_161 (d := d) (MW_f hm g1 (by decide) (by decide) (by decide) (by decide) (by decide)) g2 hd hi hc (by omega) w1) ?_
      rintro v M ⟨rfl, I2, G2, rfl, r1, r2, r3, r4, r5, r6, r7⟩
      refine wp_e e_163_6 ?_
      have hdd : sS cd (nI D) (nI C) (nI i) (nI c) (nI f) (nI w) = sS cd (nI D) (nI C) (nI i) (nI c) (t.1 c) (pah c t) := by rw [f2, w2]
      have hl : ∀ x : Int32, x = pls (sS cs (nI D) (nI C)) (sS cd (nI D) (nI C)) i c (nI k) t → wp (am_R (d + 3) 163 9 (am_mem L ext tx tt fe I2 G2) [some (Value.ref 55), some (Value.int (nI i)), some (Value.int (nI c)), some (Value.int (nI k)), some (Value.int (nI w)), some (Value.int (phs (sS cs (nI D) (nI C)) i c (nI k) t)), some (Value.int (sS cd (nI D) (nI C) (nI i) (nI c) (nI f) (nI w)))] [Value.int x]) (fun v M => v = none ∧ ∃ I' G', M = am_mem L ext tx tt fe I' G' ∧ mf SP TP I I' ∧ NW I' (sS cs (nI D) (nI C)) (sS cd (nI D) (nI C)) ∧ psM I' (pstep (sS cs (nI D) (nI C)) (sS cd (nI D) (nI C)) i c (nI k) t)) := by
        intro x hx
        refine wp_e e_163_9 ?_
        refine wp_l (lq_e (lq_e (lq_e (lq_e (lq_e (lq_e (lq_n lq_0))))))) (last _ G2 _ _ (t.2.2.2.1 + 1) (t.2.2.2.2 + x) none (mf_t g1 (mf_t r1 (mf_t (mf_5 (k := 35) (by decide)) (mf_5 (k := 34) (by decide))))) (NW_f r2 ?_ ?_) ?_ ?_ ?_ ?_ ?_)
        · rw [u2_a (by decide), u2_a (by decide)]
        · rw [u2_a (by decide), u2_a (by decide)]
        · rw [u2_a (by decide), u2_a (by decide), r3, g3]
        · rw [u2_a (by decide), u2_a (by decide), r4, g4]
        · rw [u2_s, u2_k, if_neg (by decide), r6, g6, p4]
        · rw [u2_k, if_neg (by decide), u2_s, r7, g7, p5]
        · unfold pstep
          rw [if_neg (show ¬ nI c = pah c t from fun h => e (by rw [h, w2])), hx]
      by_cases hlt : sS cd (nI D) (nI C) (nI i) (nI c) (nI f) (nI w) < phs (sS cs (nI D) (nI C)) i c (nI k) t
      · refine wp_t hlt (wp_e e_163_7 (hl _ ?_))
        unfold pls
        rw [hdd] at hlt
        rw [hdd, if_neg (fa_of_lt hlt).2.2.1]
      · refine wp_f hlt (wp_e e_163_8 (hl _ ?_))
        unfold pls
        rw [hdd] at hlt
        by_cases h2 : phs (sS cs (nI D) (nI C)) i c (nI k) t < sS cd (nI D) (nI C) (nI i) (nI c) (t.1 c) (pah c t)
        · rw [if_pos h2]
        · rw [if_neg h2]
          rcases fa_three (phs (sS cs (nI D) (nI C)) i c (nI k) t) (sS cd (nI D) (nI C) (nI i) (nI c) (t.1 c) (pah c t)) with h | h | h
          · exact absurd h h2
          · exact h
          · exact absurd h hlt
  by_cases h : I 55 33 = -1
  · refine wp_e e_163_0 (wp_t h (wp_e e_163_1 (main _ ?_)))
    unfold pah
    rw [if_pos (by rw [← p3]; exact h)]
  · refine wp_e e_163_0 (wp_f h (wp_e e_163_2 (main _ ?_)))
    unfold pah
    rw [if_neg (by rw [← p3]; exact h), p3]
end B23
