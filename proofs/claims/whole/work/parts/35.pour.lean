/-! PURE, 5: pouring (class) -/
abbrev PS : Type := (Nat → Int32) × (Nat → Int32) × Int32 × Int32 × Int32
abbrev SF : Type := Int32 → Int32 → Int32 → Int32 → Int32
def ps0 : PS := (fun _ => 0, fun _ => 0, -1, 0, 0)
def pah (c : Nat) (t : PS) : Int32 := if t.2.2.1 = -1 then nI c else t.2.2.1
def phs (s : SF) (i c : Nat) (more : Int32) (t : PS) : Int32 := s (nI i) (nI c) (t.1 c) (pah c t) + more
def pls (s d : SF) (i c : Nat) (more : Int32) (t : PS) : Int32 := if phs s i c more t < d (nI i) (nI c) (t.1 c) (pah c t) then phs s i c more t else d (nI i) (nI c) (t.1 c) (pah c t)
/-- one drib more -/
def pstep (s d : SF) (i c : Nat) (more : Int32) (t : PS) : PS :=
  if nI c = pah c t then ((fun y => if y = c then t.1 c + 1 else t.1 y), (fun y => if y = c then t.2.1 c + phs s i c more t else t.2.1 y), nI c, t.2.2.2.1, t.2.2.2.2)
  else ((fun y => if y = c then t.1 c + 1 else t.1 y), (fun y => if y = c then t.2.1 c + (phs s i c more t - pls s d i c more t) else t.2.1 y), nI c, t.2.2.2.1 + 1, t.2.2.2.2 + pls s d i c more t)
def itr (F : Nat → PS → PS) : Nat → PS
  | 0 => ps0
  | n + 1 => F n (itr F n)
def sS (cs : List Int32) (D C : Int32) : SF := fun i c full was => wi 999 (wv (nmf D C i c full was) cs [])
def psE (I : Nat → Nat → Int32) (t : PS) : Prop := (∀ k, k < 4 → I 46 k = t.1 k) ∧ (∀ k, k < 4 → I 47 k = t.2.1 k) ∧ I 45 5 = t.2.2.1 ∧ I 45 6 = t.2.2.2.1 ∧ I 45 7 = t.2.2.2.2
def FP : List Nat := [43, 44, 45, 46, 47]
theorem ntx_d {S : List Nat} (h : S.all (fun a => decide (a < 77 ∧ a ≠ 24 ∧ a ≠ 25 ∧ a ≠ 26)) = true) : ntx S := fun a ha => of_decide_eq_true (List.all_eq_true.mp h a ha)
/-- the class's world of pouring -/
def PW (L : Nat) (ext : List (Nat × Nat)) (tx : Nat → Nat) (tt : Nat) (fe : Nat → Nat → Option Nat) (I : Nat → Nat → Int32) (C D : Int32) (cs cd cl : List Int32) (t : PS) : Prop := txo L ext (am_Fx tx tt fe) I tt cs cd cl ∧ I 43 1 = D ∧ I 43 2 = C ∧ I 45 3 = C ∧ I 45 4 = D ∧ psE I t
section B5
variable {d L : Nat} {ext : List (Nat × Nat)} {tx : Nat → Nat} {tt : Nat} {fe : Nat → Nat → Option Nat} {I : Nat → Nat → Int32} {G : Nat → Nat → Int64}
theorem Fx9 {k : Nat} (h : k < 6) : am_Fx tx tt fe 9 k = some (tx k) := by
  show (if k < 6 then some (tx k) else none) = _
  rw [if_pos h]
theorem s_8 {r C D : Nat} {cs cd cl : List Int32} (ht : txo L ext (am_Fx tx tt fe) I r cs cd cl) : wp (am_R (d + 1) 8 0 (am_mem L ext tx tt fe I G) [some (Value.ref 45), some (Value.ref r), some (Value.int (nI C)), some (Value.int (nI D))] []) (fun v M => v = none ∧ ∃ I', M = am_mem L ext tx r fe I' G ∧ fr FP I I' ∧ PW L ext tx r fe I' (nI C) (nI D) cs cd cl ps0) := by
  have h5 : 5 ≤ r := by have := ht.1; omega
  refine wp_e e_8_0 (wp_b (s_56 h5) ?_)
  rintro v M ⟨rfl, I1, rfl, f1, g1, g2⟩
  refine wp_e e_8_1 (wp_p (s_214 (n := 4) rfl (by decide) (by decide)) (wp_e e_8_2 (wp_p (s_214 (n := 4) rfl (by decide) (by decide)) (wp_e e_8_3 (wp_r ⟨rfl, _, rfl, ?_, ?_, ?_, ?_, ?_, ?_, ?_, ?_, ?_, ?_, ?_⟩)))))
  · refine fr_t (fr_m f1 (by decide)) (fr_t (fr_2 (by decide)) (fr_t (fr_2 (by decide)) (fr_t (fr_2 (by decide)) (fr_t (fr_2 (by decide)) (fr_t (fr_2 (by decide)) (fr_t (fr_1 (by decide)) (fr_1 (by decide))))))))
  · refine txo_f (S := FP) (ntx_d (by decide)) ?_ (txo_tt ht)
    refine fr_t (fr_m f1 (by decide)) (fr_t (fr_2 (by decide)) (fr_t (fr_2 (by decide)) (fr_t (fr_2 (by decide)) (fr_t (fr_2 (by decide)) (fr_t (fr_2 (by decide)) (fr_t (fr_1 (by decide)) (fr_1 (by decide))))))))
  · rw [u1_a (by decide), u1_a (by decide), u2_a (by decide), u2_a (by decide), u2_a (by decide), u2_a (by decide), u2_a (by decide)]
    exact g1
  · rw [u1_a (by decide), u1_a (by decide), u2_a (by decide), u2_a (by decide), u2_a (by decide), u2_a (by decide), u2_a (by decide)]
    exact g2
  · rw [u1_a (by decide), u1_a (by decide)]
    simp only [u2_k]
    rfl
  · rw [u1_a (by decide), u1_a (by decide)]
    simp only [u2_k]
    rfl
  · intro k hk
    rw [u1_a (by decide), u1_s, if_pos hk]
    rfl
  · intro k hk
    rw [u1_s, if_pos hk]
    rfl
  · rw [u1_a (by decide), u1_a (by decide)]
    simp only [u2_k]
    rfl
  · rw [u1_a (by decide), u1_a (by decide)]
    simp only [u2_k]
    rfl
  · rw [u1_a (by decide), u1_a (by decide)]
    simp only [u2_k]
    rfl
theorem wv_nm {D C i c full was : Int32} (h : ∀ k, k < 6 → I 43 k = nmf D C i c full was k) (cs : List Int32) : wv (I 43) cs [] = wv (nmf D C i c full was) cs [] := wv_c h cs []
theorem s_9 {C D more : Int32} {i c : Nat} {cs cd cl : List Int32} {t : PS} (hw : PW L ext tx tt fe I C D cs cd cl t) (hc : c < 4) : wp (am_R (d + 3) 9 0 (am_mem L ext tx tt fe I G) [some (Value.ref 45), some (Value.int (nI i)), some (Value.int (nI c)), some (Value.int more), none, none, none] []) (fun v M => v = none ∧ ∃ I', M = (am_mem L ext tx tt fe (I') G) ∧ fr FP I I' ∧ PW L ext tx tt fe I' C D cs cd cl (pstep (sS cs D C) (sS cd D C) i c more t)) := by
  obtain ⟨ht, hD, hC, hC2, hD2, p1, p2, p3, p4, p5⟩ := hw
  have hcl := nI_clamp (n := c) (by omega)
  have hib := ib hc (N := 4) (by decide)
  -- the last rows
  have tail : ∀ (I1 : Nat → Nat → Int32) (ah v5 : Int32) (l6 : Option Value) (ch dr : Int32), fr FP I I1 → I1 46 = I 46 → I1 47 = I 47 → I1 43 1 = D → I1 43 2 = C → I1 45 3 = C → I1 45 4 = D → I1 45 6 = ch → I1 45 7 = dr → pstep (sS cs D C) (sS cd D C) i c more t = ((fun y => if y = c then t.1 c + 1 else t.1 y), (fun y => if y = c then t.2.1 c + v5 else t.2.1 y), nI c, ch, dr) → wp (am_R (d + 3) 9 8 (am_mem L ext tx tt fe (I1) G) [some (Value.ref 45), some (Value.int (nI i)), some (Value.int (nI c)), some (Value.int more), some (Value.int ah), some (Value.int v5), l6] []) (fun v M => v = none ∧ ∃ I', M = (am_mem L ext tx tt fe (I') G) ∧ fr FP I I' ∧ PW L ext tx tt fe I' C D cs cd cl (pstep (sS cs D C) (sS cd D C) i c more t)) := by
    intro I1 ah v5 l6 ch dr f1 h46 h47 g1 g2 g3 g4 g5 g6 hps
    refine wp_l (lq_e (lq_e (lq_e (lq_e (lq_e (lq_e (lq_n lq_0))))))) (wp_e e_9_8 (wp_c (by rw [hib]; rfl) (wp_r ?_)))
    rw [hcl]
    have ff : fr FP I1 (am_u2 (am_u2 (am_u2 I1 46 c (I1 46 c + 1)) 47 c (am_u2 I1 46 c (I1 46 c + 1) 47 c + v5)) 45 5 (nI c)) := fr_t (fr_2 (by decide)) (fr_t (fr_2 (by decide)) (fr_2 (by decide)))
    refine ⟨rfl, _, rfl, fr_t f1 ff, txo_f (S := FP) (ntx_d (by decide)) (fr_t f1 ff) ht, ?_, ?_, ?_, ?_, ?_⟩
    · rw [u2_a (by decide), u2_a (by decide), u2_a (by decide)]; exact g1
    · rw [u2_a (by decide), u2_a (by decide), u2_a (by decide)]; exact g2
    · rw [u2_k, if_neg (by decide), u2_a (by decide), u2_a (by decide)]; exact g3
    · rw [u2_k, if_neg (by decide), u2_a (by decide), u2_a (by decide)]; exact g4
    · rw [hps]
      refine ⟨fun k hk => ?_, fun k hk => ?_, ?_, ?_, ?_⟩
      · rw [u2_a (by decide), u2_a (by decide), u2_k, h46]
        show _ = if k = c then t.1 c + 1 else t.1 k
        rw [p1 c hc, p1 k hk]
      · rw [u2_a (by decide), u2_k, u2_a (by decide), h47]
        show _ = if k = c then t.2.1 c + v5 else t.2.1 k
        rw [p2 c hc, p2 k hk]
      · exact u2_s _ _ _ _
      · rw [u2_k, if_neg (by decide), u2_a (by decide), u2_a (by decide)]; exact g5
      · rw [u2_k, if_neg (by decide), u2_a (by decide), u2_a (by decide)]; exact g6
  have k : ∀ ah : Int32, ah = pah c t → wp (am_R (d + 3) 9 3 (am_mem L ext tx tt fe I G) [some (Value.ref 45), some (Value.int (nI i)), some (Value.int (nI c)), some (Value.int more), none, none, none] [Value.int ah]) (fun v M => v = none ∧ ∃ I', M = (am_mem L ext tx tt fe (I') G) ∧ fr FP I I' ∧ PW L ext tx tt fe I' C D cs cd cl (pstep (sS cs D C) (sS cd D C) i c more t)) := by
    intro ah hah
    refine wp_e e_9_3 (wp_c (by rw [hib]; rfl) ?_)
    rw [hcl, p1 c hc]
    refine wp_b (s_57 hD hC) ?_
    rintro v M ⟨rfl, I1, rfl, f1, n1⟩
    refine wp_e e_9_4 (wp_b (s_58 (txo_f (S := [43]) (ntx_d (by decide)) f1 ht)) ?_)
    rintro v M ⟨rfl, I2, rfl, f2⟩
    rw [wv_nm n1]
    have f12 : fr FP I I2 := fr_t (fr_m f1 (by decide)) (fr_m f2 (by decide))
    have r12 : ∀ a, a ≠ 43 → a ≠ 44 → I2 a = I a := fun a h1 h2 => (f2 a (by simpa using h2)).trans (f1 a (by simpa using h1))
    have hs : wi 999 (wv (nmf D C (nI i) (nI c) (t.1 c) ah) cs []) + more = phs (sS cs D C) i c more t := by
      unfold phs sS
      rw [← hah]
    refine wp_e e_9_5 ?_
    rw [hs]
    have n2 : ∀ k, k < 6 → I2 43 k = nmf D C (nI i) (nI c) (t.1 c) ah k := fun k hk => by rw [f2 43 (by decide)]; exact n1 k hk
    by_cases hca : nI c = ah
    · refine wp_t hca ?_
      refine tail I2 ah _ _ t.2.2.2.1 t.2.2.2.2 f12 (r12 _ (by decide) (by decide)) (r12 _ (by decide) (by decide)) (n2 1 (by decide)) (n2 2 (by decide)) (by rw [r12 _ (by decide) (by decide)]; exact hC2) (by rw [r12 _ (by decide) (by decide)]; exact hD2) (by rw [r12 _ (by decide) (by decide)]; exact p4) (by rw [r12 _ (by decide) (by decide)]; exact p5) ?_
      unfold pstep
      rw [if_pos (by rw [← hah]; exact hca)]
    · refine wp_f hca (wp_e e_9_6 (wp_b (s_59 (txo_f (S := FP) (ntx_d (by decide)) f12 ht)) ?_))
      rintro v M ⟨rfl, I3, rfl, f3⟩
      rw [wv_nm n2]
      have f13 : fr FP I I3 := fr_t f12 (fr_m f3 (by decide))
      have r13 : ∀ a, a ≠ 43 → a ≠ 44 → I3 a = I a := fun a h1 h2 => (f3 a (by simpa using h2)).trans (r12 a h1 h2)
      have hl : (if phs (sS cs D C) i c more t < wi 999 (wv (nmf D C (nI i) (nI c) (t.1 c) ah) cd []) then phs (sS cs D C) i c more t else wi 999 (wv (nmf D C (nI i) (nI c) (t.1 c) ah) cd [])) = pls (sS cs D C) (sS cd D C) i c more t := by
        unfold pls
        rw [← hah]
        rfl
      rw [hl]
      refine wp_e e_9_7 ?_
      have ff : fr FP I3 (am_u2 (am_u2 I3 45 7 (I3 45 7 + pls (sS cs D C) (sS cd D C) i c more t)) 45 6 (am_u2 I3 45 7 (I3 45 7 + pls (sS cs D C) (sS cd D C) i c more t) 45 6 + 1)) := fr_t (fr_2 (by decide)) (fr_2 (by decide))
      refine tail _ ah _ _ (t.2.2.2.1 + 1) (t.2.2.2.2 + pls (sS cs D C) (sS cd D C) i c more t) (fr_t f13 ff) ?_ ?_ ?_ ?_ ?_ ?_ ?_ ?_ ?_
      · rw [u2_a (by decide), u2_a (by decide), r13 _ (by decide) (by decide)]
      · rw [u2_a (by decide), u2_a (by decide), r13 _ (by decide) (by decide)]
      · rw [u2_a (by decide), u2_a (by decide), f3 43 (by decide)]; exact n2 1 (by decide)
      · rw [u2_a (by decide), u2_a (by decide), f3 43 (by decide)]; exact n2 2 (by decide)
      · rw [u2_k, if_neg (by decide), u2_k, if_neg (by decide), r13 _ (by decide) (by decide)]; exact hC2
      · rw [u2_k, if_neg (by decide), u2_k, if_neg (by decide), r13 _ (by decide) (by decide)]; exact hD2
      · rw [u2_s, u2_k, if_neg (by decide), r13 _ (by decide) (by decide), p4]
      · rw [u2_k, if_neg (by decide), u2_s, r13 _ (by decide) (by decide), p5]
      · unfold pstep
        rw [if_neg (by rw [← hah]; exact hca)]
  refine wp_e e_9_0 ?_
  rw [p3]
  by_cases h : t.2.2.1 = -1
  · refine wp_t h (wp_e e_9_1 (k _ ?_))
    unfold pah
    rw [if_pos h]
  · refine wp_f h (wp_e e_9_2 (k _ ?_))
    unfold pah
    rw [if_neg h, p3]
theorem s_12 {C D : Int32} {c : Nat} {cs cd cl : List Int32} {t : PS} (hw : PW L ext tx tt fe I C D cs cd cl t) (hc : c < 4) : wp (am_R (d + 3) 12 0 (am_mem L ext tx tt fe I G) [some (Value.ref 45), some (Value.int (nI c))] []) (fun v M => v = some (.int (wi 9999 (wv (nmf D C D (nI c) (t.1 c) (nI c)) cl []))) ∧ ∃ I', M = (am_mem L ext tx tt fe (I') G) ∧ fr FP I I' ∧ PW L ext tx tt fe I' C D cs cd cl t) := by
  obtain ⟨ht, hD, hC, hC2, hD2, p1, p2, p3, p4, p5⟩ := hw
  have hcl := nI_clamp (n := c) (by omega)
  have hib := ib hc (N := 4) (by decide)
  refine wp_e e_12_0 (wp_c (by rw [hib]; rfl) ?_)
  rw [hcl, p1 c hc, hD2]
  refine wp_b (s_57 hD hC) ?_
  rintro v M ⟨rfl, I1, rfl, f1, n1⟩
  refine wp_e e_12_1 (wp_b (s_60 (txo_f (S := [43]) (ntx_d (by decide)) f1 ht)) ?_)
  rintro v M ⟨rfl, I2, rfl, f2⟩
  have f12 : fr FP I I2 := fr_t (fr_m f1 (by decide)) (fr_m f2 (by decide))
  have r12 : ∀ a, a ≠ 43 → a ≠ 44 → I2 a = I a := fun a h1 h2 => (f2 a (by simpa using h2)).trans (f1 a (by simpa using h1))
  refine wp_e e_12_2 (wp_r ⟨by rw [wv_nm n1], I2, rfl, f12, txo_f (S := FP) (ntx_d (by decide)) f12 ht, ?_, ?_, ?_, ?_, ?_⟩)
  · rw [f2 43 (by decide)]; exact n1 1 (by decide)
  · rw [f2 43 (by decide)]; exact n1 2 (by decide)
  · rw [r12 _ (by decide) (by decide)]; exact hC2
  · rw [r12 _ (by decide) (by decide)]; exact hD2
  · unfold psE
    rw [r12 45 (by decide) (by decide), r12 46 (by decide) (by decide), r12 47 (by decide) (by decide)]
    exact ⟨p1, p2, p3, p4, p5⟩
/-- what the cups are off by -/
def odf (C D : Int32) (cl : List Int32) (t : PS) : Nat → Int32
  | 0 => 0
  | k + 1 => odf C D cl t k + (if 0 ≤ t.2.1 k - wi 9999 (wv (nmf D C D (nI k) (t.1 k) (nI k)) cl []) then t.2.1 k - wi 9999 (wv (nmf D C D (nI k) (t.1 k) (nI k)) cl []) else 0 - (t.2.1 k - wi 9999 (wv (nmf D C D (nI k) (t.1 k) (nI k)) cl [])))
theorem s_11 {C : Nat} {D : Int32} {cs cd cl : List Int32} {t : PS} (hw : PW L ext tx tt fe I (nI C) D cs cd cl t) (hC : C ≤ 4) : wp (am_R (d + 4) 11 0 (am_mem L ext tx tt fe I G) [some (Value.ref 45), none, none] []) (fun v M => v = some (.int (odf (nI C) D cl t C)) ∧ ∃ I', M = (am_mem L ext tx tt fe (I') G) ∧ fr FP I I' ∧ PW L ext tx tt fe I' (nI C) D cs cd cl t) := by
  refine wp_e e_11_0 ?_
  refine wp_loop C (fun k I1 => fr FP I I1 ∧ PW L ext tx tt fe I1 (nI C) D cs cd cl t) (fun k I1 => wp (am_R (d + 4) 11 1 (am_mem L ext tx tt fe (I1) G) [some (Value.ref 45), some (Value.int (odf (nI C) D cl t k)), some (Value.int (nI k))] []) (fun v M => v = some (.int (odf (nI C) D cl t C)) ∧ ∃ I', M = (am_mem L ext tx tt fe (I') G) ∧ fr FP I I' ∧ PW L ext tx tt fe I' (nI C) D cs cd cl t)) ?_ ?_ 0 I (Nat.zero_le _) ⟨fr_r _ _, hw⟩
  · rintro I1 ⟨f1, w1⟩
    refine wp_e e_11_1 ?_
    rw [w1.2.2.2.1]
    exact wp_f (nI_nlt (Nat.le_refl _) (by omega)) (wp_e e_11_4 (wp_r ⟨rfl, I1, rfl, f1, w1⟩))
  · rintro k I1 hk ⟨f1, w1⟩ hgo
    refine wp_e e_11_1 ?_
    rw [w1.2.2.2.1]
    refine wp_t (nI_lt hk (by omega)) (wp_e e_11_2 (wp_c (by rw [ib (n := k) (N := 4) (by omega) (by decide)]; rfl) ?_))
    have hst : I1 47 k = t.2.1 k := w1.2.2.2.2.2.2.1 k (by omega)
    rw [nI_clamp (n := k) (by omega), hst]
    refine wp_b (s_12 w1 (by omega)) ?_
    rintro v M ⟨rfl, I2, rfl, f2, w2⟩
    refine wp_e e_11_3 ?_
    rw [nI_1]
    exact hgo I2 ⟨fr_t f1 f2, w2⟩
/-- what the class's own cells say of cups, dribs, the rule -/
def EW (L : Nat) (ext : List (Nat × Nat)) (tx : Nat → Nat) (tt : Nat) (fe : Nat → Nat → Option Nat) (I : Nat → Nat → Int32) (C D R : Nat) (row : Nat → Nat) (cs cd cl : List Int32) : Prop := I 5 0 = nI C ∧ I 5 1 = nI D ∧ I 5 8 = nI R ∧ (0 < C ∧ C ≤ 4 ∧ D ≤ 24 ∧ R < 6) ∧ (∀ k, k < 24 → I 6 k = nI (row k) ∧ row k < C) ∧ txo L ext (am_Fx tx tt fe) I (tx R) cs cd cl
theorem EW_f {I' : Nat → Nat → Int32} {r C D R : Nat} {row : Nat → Nat} {cs cd cl : List Int32} {S : List Nat} (hw : EW L ext tx tt fe I C D R row cs cd cl) (hf : fr S I I') (hS : ntx S) (h5 : 5 ∉ S) (h6 : 6 ∉ S) : EW L ext tx r fe I' C D R row cs cd cl := by
  obtain ⟨h1, h2, h3, h4, h5', h6'⟩ := hw
  refine ⟨by rw [hf 5 h5]; exact h1, by rw [hf 5 h5]; exact h2, by rw [hf 5 h5]; exact h3, h4, fun k hk => by rw [hf 6 h6]; exact h5' k hk, txo_tt (txo_f hS hf h6')⟩
/-- the row, but for one cup's dribs -/
def fbut (s d : SF) (row : Nat → Nat) (b : Int32) (k : Nat) (t : PS) : PS := if nI (row k) = b then t else pstep s d k (row k) 0 t
theorem s_93 {C D R : Nat} {row : Nat → Nat} {b : Int32} {cs cd cl : List Int32} (hw : EW L ext tx tt fe I C D R row cs cd cl) : wp (am_R (d + 4) 93 0 (am_mem L ext tx tt fe I G) [some (Value.ref 5), some (Value.int b), none] []) (fun v M => v = none ∧ ∃ I', M = am_mem L ext tx (tx R) fe I' G ∧ fr FP I I' ∧ PW L ext tx (tx R) fe I' (nI C) (nI D) cs cd cl (itr (fbut (sS cs (nI D) (nI C)) (sS cd (nI D) (nI C)) row b) D)) := by
  have hw0 := hw
  obtain ⟨h1, h2, h3, ⟨h0, hC4, hD24, hR6⟩, h5, h6⟩ := hw
  refine wp_e e_93_0 ?_
  rw [h3]
  refine wp_c (by rw [ib hR6 (by decide)]; rfl) ?_
  rw [nI_clamp (by omega), Fx9 hR6]
  refine wp_e e_93_1 ?_
  rw [h1, h2]
  refine wp_b (s_8 h6) ?_
  rintro v M ⟨rfl, I1, rfl, f1, w1⟩
  refine wp_e e_93_2 ?_
  refine wp_loop D (fun k I1 => fr FP I I1 ∧ PW L ext tx (tx R) fe I1 (nI C) (nI D) cs cd cl (itr (fbut (sS cs (nI D) (nI C)) (sS cd (nI D) (nI C)) row b) k)) (fun k I1 => wp (am_R (d + 4) 93 3 (am_mem L ext tx (tx R) fe I1 G) [some (Value.ref 5), some (Value.int b), some (Value.int (nI k))] []) _) ?_ ?_ 0 I1 (Nat.zero_le _) ⟨f1, w1⟩
  · rintro I1 ⟨f1, w1⟩
    refine wp_e e_93_3 ?_
    rw [f1 5 (by decide), h2]
    exact wp_f (nI_nlt (Nat.le_refl _) (by omega)) (wp_e e_93_7 (wp_r ⟨rfl, I1, rfl, f1, w1⟩))
  · rintro k I1 hk ⟨f1, w1⟩ hgo
    obtain ⟨e6, l6⟩ := h5 k (by omega)
    have hkb := ib (n := k) (N := 24) (by omega) (by decide)
    refine wp_e e_93_3 ?_
    rw [f1 5 (by decide), h2]
    refine wp_t (nI_lt hk (by omega)) (wp_e e_93_4 (wp_c (by rw [hkb]; rfl) ?_))
    rw [nI_clamp (n := k) (by omega), f1 6 (by decide), e6]
    by_cases hb : nI (row k) = b
    · refine wp_t hb (wp_e e_93_6 ?_)
      rw [nI_1]
      refine hgo I1 ⟨f1, ?_⟩
      show PW _ _ _ _ _ _ _ _ _ _ _ (fbut _ _ row b k (itr _ k))
      unfold fbut
      rw [if_pos hb]
      exact w1
    · refine wp_f hb (wp_e e_93_5 (wp_c (by rw [hkb]; rfl) ?_))
      rw [nI_clamp (n := k) (by omega), f1 6 (by decide), e6]
      refine wp_b (s_9 w1 (by omega)) ?_
      rintro v M ⟨rfl, I2, rfl, f2, w2⟩
      refine wp_e e_93_6 ?_
      rw [nI_1]
      refine hgo I2 ⟨fr_t f1 f2, ?_⟩
      show PW _ _ _ _ _ _ _ _ _ _ _ (fbut _ _ row b k (itr _ k))
      unfold fbut
      rw [if_neg hb]
      exact w2
theorem s_92 {C D R : Nat} {row : Nat → Nat} {cs cd cl : List Int32} (hw : EW L ext tx tt fe I C D R row cs cd cl) : wp (am_R (d + 5) 92 0 (am_mem L ext tx tt fe I G) [some (Value.ref 5)] []) (fun v M => v = none ∧ ∃ I', M = am_mem L ext tx (tx R) fe I' G ∧ fr FP I I' ∧ PW L ext tx (tx R) fe I' (nI C) (nI D) cs cd cl (itr (fbut (sS cs (nI D) (nI C)) (sS cd (nI D) (nI C)) row (-1)) D)) := by
  refine wp_e e_92_0 (wp_b (s_93 hw) ?_)
  rintro v M ⟨rfl, I1, rfl, f1, w1⟩
  exact wp_e e_92_1 (wp_r ⟨rfl, I1, rfl, f1, w1⟩)
/-- the row, and one drib more in a cup -/
def fmore (s d : SF) (row : Nat → Nat) (D c : Nat) (k : Nat) (t : PS) : PS := if k < D then pstep s d k (row k) 0 t else pstep s d k c 0 t
theorem s_91 {C D R c : Nat} {row : Nat → Nat} {cs cd cl : List Int32} (hw : EW L ext tx tt fe I C D R row cs cd cl) (hc : c < C) : wp (am_R (d + 4) 91 0 (am_mem L ext tx tt fe I G) [some (Value.ref 5), some (Value.int (nI c)), none] []) (fun v M => v = some (.int (un (itr (fmore (sS cs (nI (D + 1)) (nI C)) (sS cd (nI (D + 1)) (nI C)) row D c) (D + 1)).2.1 C)) ∧ ∃ I', M = am_mem L ext tx (tx R) fe I' G ∧ fr FP I I') := by
  have hw0 := hw
  obtain ⟨h1, h2, h3, ⟨h0, hC4, hD24, hR6⟩, h5, h6⟩ := hw
  refine wp_e e_91_0 ?_
  rw [h3]
  refine wp_c (by rw [ib hR6 (by decide)]; rfl) ?_
  rw [nI_clamp (by omega), Fx9 hR6]
  refine wp_e e_91_1 ?_
  rw [h1, h2, nI_1]
  refine wp_b (s_8 h6) ?_
  rintro v M ⟨rfl, I1, rfl, f1, w1⟩
  refine wp_e e_91_2 ?_
  refine wp_loop D (fun k I1 => fr FP I I1 ∧ PW L ext tx (tx R) fe I1 (nI C) (nI (D + 1)) cs cd cl (itr (fmore (sS cs (nI (D + 1)) (nI C)) (sS cd (nI (D + 1)) (nI C)) row D c) k)) (fun k I1 => wp (am_R (d + 4) 91 3 (am_mem L ext tx (tx R) fe I1 G) [some (Value.ref 5), some (Value.int (nI c)), some (Value.int (nI k))] []) _) ?_ ?_ 0 I1 (Nat.zero_le _) ⟨f1, w1⟩
  · rintro I1 ⟨f1, w1⟩
    refine wp_e e_91_3 ?_
    rw [f1 5 (by decide), h2]
    refine wp_f (nI_nlt (Nat.le_refl _) (by omega)) (wp_e e_91_6 ?_)
    rw [f1 5 (by decide), h2]
    refine wp_b (s_9 w1 (by omega)) ?_
    rintro v M ⟨rfl, I2, rfl, f2, w2⟩
    refine wp_e e_91_7 (wp_p (s_10 w2.2.2.2.1 h0 hC4) (wp_e e_91_8 (wp_r ⟨?_, I2, rfl, fr_t f1 f2⟩)))
    have e : itr (fmore (sS cs (nI (D + 1)) (nI C)) (sS cd (nI (D + 1)) (nI C)) row D c) (D + 1) = pstep (sS cs (nI (D + 1)) (nI C)) (sS cd (nI (D + 1)) (nI C)) D c 0 (itr (fmore (sS cs (nI (D + 1)) (nI C)) (sS cd (nI (D + 1)) (nI C)) row D c) D) := by
      show fmore _ _ row D c D (itr _ D) = _
      unfold fmore
      rw [if_neg (Nat.lt_irrefl _)]
    rw [e, un_c h0 (fun j hj => w2.2.2.2.2.2.2.1 j (by omega))]
  · rintro k I1 hk ⟨f1, w1⟩ hgo
    obtain ⟨e6, l6⟩ := h5 k (by omega)
    have hkb := ib (n := k) (N := 24) (by omega) (by decide)
    refine wp_e e_91_3 ?_
    rw [f1 5 (by decide), h2]
    refine wp_t (nI_lt hk (by omega)) (wp_e e_91_4 (wp_c (by rw [hkb]; rfl) ?_))
    rw [nI_clamp (n := k) (by omega), f1 6 (by decide), e6]
    refine wp_b (s_9 w1 (by omega)) ?_
    rintro v M ⟨rfl, I2, rfl, f2, w2⟩
    refine wp_e e_91_5 ?_
    rw [nI_1]
    refine hgo I2 ⟨fr_t f1 f2, ?_⟩
    show PW _ _ _ _ _ _ _ _ _ _ _ (fmore _ _ row D c k (itr _ k))
    unfold fmore
    rw [if_pos hk]
    exact w2
end B5
