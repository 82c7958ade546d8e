/-! PURE, 26: both sides of a call -/
/-- what a drib gains -/
def gn (s d : SF) (i c f w : Nat) : Int32 := if c = w then s (nI i) (nI c) (nI f) (nI w) else s (nI i) (nI c) (nI f) (nI w) - (if s (nI i) (nI c) (nI f) (nI w) < d (nI i) (nI c) (nI f) (nI w) then s (nI i) (nI c) (nI f) (nI w) else d (nI i) (nI c) (nI f) (nI w))
def dfl {A : Type} (F : Nat → A → A) : Nat → A → A
  | 0, a => a
  | n + 1, a => F n (dfl F n a)
/-- all ways in their order, but for what ok leaves out -/
def dfs {A : Type} (s d : SF) (C : Nat) (ok : Nat → Nat → PS → Bool) (leaf : PS → (Nat → Nat) → A → A) : Nat → Nat → PS → (Nat → Nat) → A → A
  | 0, _, t, w, a => leaf t w a
  | k + 1, i, t, w, a => dfl (fun c a => if ok i c t = true then dfs s d C ok leaf k (i + 1) (pstep s d i c 0 t) (fun y => if y = i then c else w y) a else a) C a
/-- whether a cup has room for one more -/
def hrm (C e r : Nat) (c : Nat) (t : PS) : Bool := if t.1 c = nI e then decide (fb_ct (fun o => decide (nI e < t.1 o)) C + 1 ≤ r) else decide (t.1 c < nI e)
/-- the least uneven way so far, its changes, its row; the least uneven for each number of changes -/
abbrev EA : Type := Int32 × Int32 × (Nat → Nat) × (Nat → Int32)
def jdg (C : Nat) (t : PS) (w : Nat → Nat) (a : EA) : EA :=
  if un t.2.1 C < a.1 ∨ (un t.2.1 C = a.1 ∧ t.2.2.2.1 < a.2.1) then (un t.2.1 C, t.2.2.2.1, w, fun k => if nI k = t.2.2.2.1 then (if un t.2.1 C < a.2.2.2 k then un t.2.1 C else a.2.2.2 k) else a.2.2.2 k)
  else (a.1, a.2.1, a.2.2.1, fun k => if nI k = t.2.2.2.1 then (if un t.2.1 C < a.2.2.2 k then un t.2.1 C else a.2.2.2 k) else a.2.2.2 k)
def ea0 : EA := (2147483647, 2147483647, fun _ => 0, fun _ => 2147483647)
def evA (s d : SF) (C D : Nat) : EA := dfs s d C (fun _ c t => hrm C (D / C) (D % C) c t) (jdg C) D 0 ps0 (fun _ => 0) ea0
/-- the gains that the class has learned -/
def GT (I : Nat → Nat → Int32) (s d : SF) (C D : Nat) : Prop := ∀ i c f w, i < D → c < C → f ≤ i → w < C → I 49 (((i * C + c) * (D + 1) + f) * C + w) = gn s d i c f w
def EV (I : Nat → Nat → Int32) (D : Nat) (a : EA) : Prop := I 48 12 = a.1 ∧ I 48 13 = a.2.1 ∧ (∀ k, k < D → I 53 k = nI (a.2.2.1 k)) ∧ ∀ k, k < 25 → I 54 k = a.2.2.2 k
/-- what the search of the class has kept -/
def CA (s : St) (I : Nat → Nat → Int32) : Prop := I 48 5 = -1 ∨ ∃ R C D, R < sT s ∧ (0 < C ∧ C ≤ 4 ∧ D ≤ 24) ∧ C ^ D ≤ 65536 ∧ I 48 5 = nI R ∧ I 48 6 = nI C ∧ I 48 7 = nI D ∧ I 48 8 = nI (D / C) ∧ I 48 9 = nI (D % C) ∧ GT I (sS (stw s R).1 (nI D) (nI C)) (sS (stw s R).2.1 (nI D) (nI C)) C D ∧ (I 48 10 = 0 ∨ (I 48 10 = 1 ∧ EV I D (evA (sS (stw s R).1 (nI D) (nI C)) (sS (stw s R).2.1 (nI D) (nI C)) C D)))
def CJ (s : St) (L : Nat) (ext : List (Nat × Nat)) (tx : Nat → Nat) (tt : Nat) (fe : Nat → Nat → Option Nat) (I : Nat → Nat → Int32) : Prop := CB s L ext tx tt fe I ∧ CA s I
theorem CA_f {s : St} {I I' : Nat → Nat → Int32} (h : CA s I) (h1 : I' 48 = I 48) (h2 : I' 49 = I 49) (h3 : I' 53 = I 53) (h4 : I' 54 = I 54) : CA s I' := by
  unfold CA GT EV at h ⊢
  rw [h1, h2, h3, h4]
  exact h
/-- an answer of the class -/
def CQo (L : Nat) (ext : List (Nat × Nat)) (I : Nat → Nat → Int32) (s' : St) (r : Value) (v : Option Value) (M : am_M) : Prop := v = some r ∧ ∃ es tx' tt' fe' I' G', M = am_mem L (ext ++ es) tx' tt' fe' I' G' ∧ es.length ≤ 4 ∧ (∀ q ∈ es, q.2 ≤ 160) ∧ CJ s' L (ext ++ es) tx' tt' fe' I' ∧ ∀ a, a = 0 ∨ (55 ≤ a ∧ a ≤ 76) → I' a = I a
/-- of the model -/
def MQo (L : Nat) (ext : List (Nat × Nat)) (tx : Nat → Nat) (tt : Nat) (fe : Nat → Nat → Option Nat) (I : Nat → Nat → Int32) (s' : St) (r : Value) (v : Option Value) (M : am_M) : Prop := v = some r ∧ ∃ I' G', M = am_mem L ext tx tt fe I' G' ∧ MJ s' I' ∧ ∀ a, (a < 55 ∨ 76 < a) → I' a = I a
/-- a call that both answer alike -/
def OP (s : St) (f g : am_M → Option am_V) : Prop := ∃ s' r, Sok s' ∧ (∀ L ext tx tt fe I G, CJ s L ext tx tt fe I → wp (f (am_mem L ext tx tt fe I G)) (CQo L ext I s' r)) ∧ ∀ L ext tx tt fe I G, MJ s I → wp (g (am_mem L ext tx tt fe I G)) (MQo L ext tx tt fe I s' r)
def qC (L : Nat) (ext : List (Nat × Nat)) (tx : Nat → Nat) (fe : Nat → Nat → Option Nat) (I : Nat → Nat → Int32) (G : Nat → Nat → Int64) (r : Value) (v : Option Value) (M : am_M) : Prop := v = some r ∧ ∃ tt' I', M = am_mem L ext tx tt' fe I' G ∧ fr FCQ I I'
def qM (L : Nat) (ext : List (Nat × Nat)) (tx : Nat → Nat) (tt : Nat) (fe : Nat → Nat → Option Nat) (I : Nat → Nat → Int32) (r : Value) (v : Option Value) (M : am_M) : Prop := v = some r ∧ ∃ I' G', M = am_mem L ext tx tt fe I' G' ∧ mf SQ TQ I I'
theorem SQ_in {a : Nat} (h : a ∈ SQ) : 63 ≤ a ∧ a ≤ 69 := by
  unfold SQ at h
  simp at h
  omega
theorem FCQ_in {a : Nat} (h : a ∈ FCQ) : 21 ≤ a ∧ a ≤ 47 := by
  unfold FCQ at h
  simp at h
  omega
/-- a question that leaves all as it is -/
theorem OP_q {s : St} {f g : am_M → Option am_V} (hs : Sok s) (r : Value) (hc : ∀ L ext tx tt fe I G, CB s L ext tx tt fe I → wp (f (am_mem L ext tx tt fe I G)) (qC L ext tx fe I G r)) (hm : ∀ L ext tx tt fe I G, MJ s I → wp (g (am_mem L ext tx tt fe I G)) (qM L ext tx tt fe I r)) : OP s f g := by
  refine ⟨s, r, hs, fun L ext tx tt fe I G h => wp_m (hc L ext tx tt fe I G h.1) ?_, fun L ext tx tt fe I G h => wp_m (hm L ext tx tt fe I G h) ?_⟩
  · rintro v M ⟨rfl, tt', I', rfl, hf⟩
    refine ⟨rfl, [], tx, tt', fe, I', G, by rw [List.append_nil], Nat.zero_le _, fun q hq => absurd hq (by simp), ?_, fun a ha => hf a (fun e => by have := FCQ_in e; omega)⟩
    rw [List.append_nil]
    exact ⟨CB_f hs h.1 (fr_m hf (by decide)), CA_f h.2 (hf 48 (by decide)) (hf 49 (by decide)) (hf 53 (by decide)) (hf 54 (by decide))⟩
  · rintro v M ⟨rfl, I', G', rfl, hf⟩
    exact ⟨rfl, I', G', rfl, MJ_f h hf, fun a ha => hf.1 a (by omega) (fun e => by have := SQ_in e; omega)⟩
theorem ix_lt {v : Int32} {n : Nat} (hn : n < 2 ^ 31) (h : ¬ v < 0 ∧ v < nI n) : ∃ j, j < n ∧ v = nI j := by
  obtain ⟨j, h1, rfl⟩ := nI_of h.1
  exact ⟨j, (nI_ltI h1 hn).mp h.2, rfl⟩
theorem ix_le {v : Int32} {n : Nat} (hn : n < 2 ^ 31) (h : ¬ v < 0 ∧ ¬ nI n < v) : ∃ j, j ≤ n ∧ v = nI j := by
  obtain ⟨j, h1, rfl⟩ := nI_of h.1
  exact ⟨j, by have := h.2; rw [nI_ltI hn h1] at this; omega, rfl⟩
theorem in_k {v : Int32} {k : Nat} (hk : k < 2 ^ 31) : (¬ v.toInt64 < (0 : Int64) ∧ ¬ lN k < v.toInt64) ↔ (¬ v < 0 ∧ ¬ nI k < v) := by
  rw [← nI_l hk, show (0 : Int64) = (0 : Int32).toInt64 from rfl, in_i]
/-- what is in the cups of the row -/
def rps (s : St) : PS := itr (frow (sS (stw s (sR s)).1 (nI (sD s)) (nI (sC s))) (sS (stw s (sR s)).2.1 (nI (sD s)) (nI (sC s))) (srow s)) (sD s)
theorem row4 {s : St} (hs : Sok s) {k : Nat} (hk : k < 24) : srow s k < 4 := Nat.lt_of_lt_of_le (hs.1.2.2.2.2.2.1 k hk) hs.1.1.2.1
theorem rps_b {s : St} (hs : Sok s) : itr (fbut (sS (stw s (sR s)).1 (nI (sD s)) (nI (sC s))) (sS (stw s (sR s)).2.1 (nI (sD s)) (nI (sC s))) (srow s) (-1)) (sD s) = rps s := fbut_row (fun k hk => row4 hs (Nat.lt_of_lt_of_le hk hs.1.1.2.2))
theorem rps_ok {s : St} (hs : Sok s) : PSok (sD s) (rps s) := frow_ok rg_s rg_s (N := 24) (by omega) (fun k hk => row4 hs hk) _ hs.1.1.2.2
section B26
variable {d L : Nat} {ext : List (Nat × Nat)} {tx : Nat → Nat} {tt : Nat} {fe : Nat → Nat → Option Nat} {I : Nat → Nat → Int32} {G : Nat → Nat → Int64}
/-- the model pours its row -/
theorem m_165 {s : St} (hs : Sok s) (h : MJ s I) (hd : 70 ≤ d) : wp (am_R (d + 4) 165 0 (am_mem L ext tx tt fe I G) [some (Value.ref 55), none] []) (fun v M => v = none ∧ ∃ I' G', M = am_mem L ext tx tt fe I' G' ∧ mf SP TP I I' ∧ psM I' (rps s)) := s_165 (MW_of hs h) (fun k hk => ⟨h.1.2.2.2.2.2.2.1 k (Nat.lt_of_lt_of_le hk hs.1.1.2.2), row4 hs (Nat.lt_of_lt_of_le hk hs.1.1.2.2)⟩) hd
theorem c_92 {s : St} (hs : Sok s) (h : CB s L ext tx tt fe I) : wp (am_R (d + 5) 92 0 (am_mem L ext tx tt fe I G) [some (Value.ref 5)] []) (fun v M => v = none ∧ ∃ I', M = am_mem L ext tx (tx (sR s)) fe I' G ∧ fr FP I I' ∧ PW L ext tx (tx (sR s)) fe I' (nI (sC s)) (nI (sD s)) (stw s (sR s)).1 (stw s (sR s)).2.1 (stw s (sR s)).2.2 (rps s)) := by
  have := s_92 (d := d) (G := G) (EW_of hs h)
  rw [rps_b hs] at this
  exact this
theorem qm_of {I' : Nat → Nat → Int32} {G' : Nat → Nat → Int64} {r : Value} (h : mf SP TP I I') : qM L ext tx tt fe I r (some r) (am_mem L ext tx tt fe I' G') := ⟨rfl, I', G', rfl, mf_m h (by decide) (by decide)⟩
theorem qc_of {I' : Nat → Nat → Int32} {r : Value} {tt' : Nat} (h : fr FP I I') : qC L ext tx fe I G r (some r) (am_mem L ext tx tt' fe I' G) := ⟨rfl, tt', I', rfl, fr_m h (by decide)⟩
end B26
/-- CUP -/
theorem op_cup {s : St} (hs : Sok s) {a b : Int32} : OP s (fun M => (am_R (2047) 84 0 M [some (Value.ref 5), some (Value.int a), some (Value.int b)] [])) (fun M => (am_R (2047) 166 0 M [some (Value.ref 55), some (Value.int a), some (Value.int b)] [])) := by
  by_cases h : (¬ a < 0 ∧ a < nI (sC s)) ∧ (¬ b < 0 ∧ ¬ nI 2 < b)
  · obtain ⟨⟨C0, C4, D24⟩, -⟩ := hs.1
    obtain ⟨c, hc, rfl⟩ := ix_lt (by omega) h.1
    obtain ⟨w, hw, rfl⟩ := ix_le (by decide) h.2
    have hcl := nI_clamp (n := c) (by omega)
    have hib := ib (n := c) (N := 4) (by omega) (by decide)
    have hC : ∀ L ext tx tt fe I G (r : Value), CB s L ext tx tt fe I → (∀ I' tt', fr FP I I' → PW L ext tx tt' fe I' (nI (sC s)) (nI (sD s)) (stw s (sR s)).1 (stw s (sR s)).2.1 (stw s (sR s)).2.2 (rps s) → wp (am_R 2047 84 6 (am_mem L ext tx tt' fe I' G) [some (Value.ref 5), some (Value.int (nI c)), some (Value.int (nI w))] []) (qC L ext tx fe I G r)) → wp (am_R 2047 84 0 (am_mem L ext tx tt fe I G) [some (Value.ref 5), some (Value.int (nI c)), some (Value.int (nI w))] []) (qC L ext tx fe I G r) := by
      intro L ext tx tt fe I G r hb k
      refine wp_e e_84_0 (wp_p s_76 (wp_e e_84_1 (wp_f (fun e => bI_0.mp e (by rw [hb.2.1.1]; exact h.1)) (wp_e e_84_2 (wp_f h.2.1 (wp_e e_84_3 (wp_f h.2.2 (wp_e e_84_5 (wp_b (c_92 (d := 2041) hs hb) ?_)))))))))
      rintro v M ⟨rfl, I', rfl, f1, w1⟩
      exact k I' _ f1 w1
    have hM : ∀ L ext tx tt fe I G (r : Value), MJ s I → (∀ I' G', mf SP TP I I' → psM I' (rps s) → wp (am_R 2047 166 6 (am_mem L ext tx tt fe I' G') [some (Value.ref 55), some (Value.int (nI c)), some (Value.int (nI w))] []) (qM L ext tx tt fe I r)) → wp (am_R 2047 166 0 (am_mem L ext tx tt fe I G) [some (Value.ref 55), some (Value.int (nI c)), some (Value.int (nI w))] []) (qM L ext tx tt fe I r) := by
      intro L ext tx tt fe I G r hb k
      refine wp_e e_166_0 (wp_p (s_131 hb.1.1 (by omega)) (wp_e e_166_1 (wp_f (fun e => bI_0.mp e h.1) (wp_e e_166_2 (wp_p s_127 (wp_e e_166_3 (wp_f (fun e => bI_0.mp e ((in_k (k := 2) (by decide)).mpr h.2)) (wp_e e_166_5 (wp_b (m_165 (d := 2042) hs hb (by decide)) ?_)))))))))
      rintro v M ⟨rfl, I', G', rfl, f1, w1⟩
      exact k I' G' f1 w1
    obtain rfl | rfl | rfl : w = 0 ∨ w = 1 ∨ w = 2 := by omega
    · refine OP_q hs (.int ((rps s).1 c)) (fun L ext tx tt fe I G hb => hC L ext tx tt fe I G _ hb (fun I' tt' f1 w1 => ?_)) (fun L ext tx tt fe I G hb => hM L ext tx tt fe I G _ hb (fun I' G' f1 w1 => ?_))
      · refine wp_e e_84_6 (wp_t rfl (wp_e e_84_7 (wp_c (by rw [hib]; rfl) (wp_r ?_))))
        rw [hcl, w1.2.2.2.2.2.1 c (by omega)]
        exact qc_of f1
      · refine wp_e e_166_6 (wp_t rfl (wp_e e_166_7 (wp_c (by rw [hib]; rfl) (wp_e e_166_11 (wp_r ?_)))))
        rw [hcl, w1.1 c (by omega)]
        exact qm_of f1
    · refine OP_q hs (.int ((rps s).2.1 c)) (fun L ext tx tt fe I G hb => hC L ext tx tt fe I G _ hb (fun I' tt' f1 w1 => ?_)) (fun L ext tx tt fe I G hb => hM L ext tx tt fe I G _ hb (fun I' G' f1 w1 => ?_))
      · refine wp_e e_84_6 ?_
        rw [if_neg (show ¬ nI 1 = 0 by decide)]
        refine wp_t rfl (wp_e e_84_8 (wp_c (by rw [hib]; rfl) (wp_r ?_)))
        rw [hcl, w1.2.2.2.2.2.2.1 c (by omega)]
        exact qc_of f1
      · refine wp_e e_166_6 (wp_f (by decide) (wp_e e_166_8 (wp_t rfl (wp_e e_166_9 (wp_c (by rw [hib]; rfl) (wp_e e_166_11 (wp_r ?_)))))))
        rw [hcl, w1.2.1 c (by omega)]
        exact qm_of f1
    · refine OP_q hs (.int (wi 9999 (wv (nmf (nI (sD s)) (nI (sC s)) (nI (sD s)) (nI c) ((rps s).1 c) (nI c)) (stw s (sR s)).2.2 []))) (fun L ext tx tt fe I G hb => hC L ext tx tt fe I G _ hb (fun I' tt' f1 w1 => ?_)) (fun L ext tx tt fe I G hb => hM L ext tx tt fe I G _ hb (fun I' G' f1 w1 => ?_))
      · refine wp_e e_84_6 ?_
        rw [if_neg (show ¬ nI 2 = 0 by decide)]
        refine wp_f (by decide) (wp_e e_84_9 (wp_b (s_12 (d := 2043) w1 (by omega)) ?_))
        rintro v M ⟨rfl, I2, rfl, f2, -⟩
        exact wp_e e_84_10 (wp_r (qc_of (fr_t f1 f2)))
      · refine wp_e e_166_6 (wp_f (by decide) (wp_e e_166_8 (wp_f (by decide) (wp_e e_166_10 (wp_c (by rw [hib]; rfl) ?_)))))
        have m1 := MW_f (MW_of hs hb) f1 (by decide) (by decide) (by decide) (by decide) (by decide)
        rw [hcl, w1.1 c (by omega), m1.2.1]
        refine wp_b (s_157 (which := 2) (d := 2045) m1 (by decide) (by decide)) ?_
        rintro v M ⟨rfl, I2, G2, rfl, f2⟩
        exact wp_e e_166_11 (wp_r (qm_of (mf_t f1 (mf_f5 f2 (by decide)))))
  · refine OP_q hs (.int (-2)) (fun L ext tx tt fe I G hb => ?_) (fun L ext tx tt fe I G hb => ?_)
    · have fin : ∀ I', fr FP I I' → wp (am_R 2047 84 4 (am_mem L ext tx tt fe I' G) [some (Value.ref 5), some (Value.int a), some (Value.int b)] []) (qC L ext tx fe I G (.int (-2))) := fun I' f => wp_e e_84_4 (wp_r (qc_of f))
      refine wp_e e_84_0 (wp_p s_76 (wp_e e_84_1 (wp_i (fun _ => fin I (fr_r _ _)) (fun h1 => wp_e e_84_2 (wp_i (fun _ => fin I (fr_r _ _)) (fun h2 => wp_e e_84_3 (wp_i (fun _ => fin I (fr_r _ _)) (fun h3 => ?_))))))))
      refine absurd ⟨?_, h2, h3⟩ h
      rw [← hb.2.1.1]
      exact Decidable.byContradiction (fun e => h1 (bI_0.mpr e))
    · have fin : wp (am_R 2047 166 4 (am_mem L ext tx tt fe I G) [some (Value.ref 55), some (Value.int a), some (Value.int b)] []) (qM L ext tx tt fe I (.int (-2))) := wp_e e_166_4 (wp_r (qm_of (mf_r _ _ _)))
      have hC4 := hs.1.1.2.1
      refine wp_e e_166_0 (wp_p (s_131 hb.1.1 (by omega)) (wp_e e_166_1 (wp_i (fun _ => fin) (fun h1 => wp_e e_166_2 (wp_p s_127 (wp_e e_166_3 (wp_i (fun _ => fin) (fun h2 => ?_))))))))
      exact absurd ⟨Decidable.byContradiction (fun e => h1 (bI_0.mpr e)), (in_k (k := 2) (by decide)).mp (Decidable.byContradiction (fun e => h2 (bI_0.mpr e)))⟩ h
