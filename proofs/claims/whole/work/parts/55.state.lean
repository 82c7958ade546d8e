/-! PURE, 25: the state that both keep -/
abbrev L3 : Type := List Int32 × List Int32 × List Int32
/-- numbers; rows; items; texts -/
abbrev St : Type := (Nat → Nat) × (Nat → Nat → Nat) × (Nat → Nat → Int32) × (Nat → L3)
abbrev sC (s : St) : Nat := s.1 0
abbrev sD (s : St) : Nat := s.1 1
abbrev sR (s : St) : Nat := s.1 2
abbrev sPn (s : St) : Nat := s.1 3
abbrev sT (s : St) : Nat := s.1 4
abbrev sn (s : St) : Nat := s.1 5
/-- 6: kept or not, 7 to 10: cups, dribs, pourers, rule kept -/
abbrev sbt (s : St) : Nat → Nat := s.2.1 0
abbrev srow (s : St) : Nat → Nat := s.2.1 1
abbrev spr (s : St) : Nat → Nat := s.2.1 2
abbrev skd (s : St) : Nat → Nat := s.2.1 3
abbrev snu (s : St) : Nat → Nat := s.2.1 4
abbrev stn (s : St) : Nat → Nat := s.2.1 5
/-- a sheet's sort and one, 0: missing; its size -/
abbrev sso (s : St) : Nat → Nat := s.2.1 6
abbrev ssz (s : St) : Nat → Nat := s.2.1 7
/-- 8 to 10: row, prices, numbers kept; 20 and on: the texts' bytes -/
abbrev stb (s : St) (t : Nat) : Nat → Nat := s.2.1 (20 + t)
abbrev sit (s : St) : Nat → Nat → Int32 := s.2.2.1
abbrev stw (s : St) : Nat → L3 := s.2.2.2
def setN (s : St) (k v : Nat) : St := ((fun j => if j = k then v else s.1 j), s.2)
def setR (s : St) (k : Nat) (g : Nat → Nat) : St := (s.1, (fun j => if j = k then g else s.2.1 j), s.2.2)
def setI (s : St) (q : Nat) (g : Nat → Int32) : St := (s.1, s.2.1, (fun j => if j = q then g else s.2.2.1 j), s.2.2.2)
def setT (s : St) (t : Nat) (g : L3) : St := (s.1, s.2.1, s.2.2.1, fun j => if j = t then g else s.2.2.2 j)
/-- the numbers are in their ranges -/
def SN (s : St) : Prop := (0 < sC s ∧ sC s ≤ 4 ∧ sD s ≤ 24) ∧ sR s < sT s ∧ sT s ≤ 6 ∧ sPn s ≤ 6 ∧ sn s ≤ 160 ∧ (∀ k, k < 24 → srow s k < sC s) ∧ (∀ k, k < 8 → spr s k ≤ 99) ∧ (∀ p, p < sPn s → skd s p < 6 ∧ snu s p ≤ 9) ∧ ∀ k, k < sn s → sbt s k < 256
def ST (s : St) : Prop := ∀ t, t < sT s → ∃ q, txt (stb s t) (stn s t) = (q, some (stw s t))
def SS (s : St) : Prop := ∀ q, q < 4 → sso s q ≤ 3 ∧ ssz s q ≤ 40
def SK (s : St) : Prop := s.1 6 = 1 → (0 < s.1 7 ∧ s.1 7 ≤ 4 ∧ s.1 8 ≤ 24) ∧ s.1 9 ≤ sPn s ∧ s.1 10 < sT s ∧ (∀ k, k < 24 → s.2.1 8 k < s.1 7) ∧ (∀ k, k < 8 → s.2.1 9 k ≤ 99) ∧ ∀ p, p < s.1 9 → s.2.1 10 p ≤ 9
def Sok (s : St) : Prop := SN s ∧ ST s ∧ SS s ∧ SK s ∧ s.1 6 ≤ 1
/-- the class's cells -/
def CN (s : St) (I : Nat → Nat → Int32) : Prop := I 5 0 = nI (sC s) ∧ I 5 1 = nI (sD s) ∧ I 5 5 = nI (sPn s) ∧ I 5 7 = nI (sT s) ∧ I 5 8 = nI (sR s) ∧ (∀ k, k < 24 → I 6 k = nI (srow s k)) ∧ (∀ k, k < 8 → I 7 k = nI (spr s k)) ∧ ∀ p, p < sPn s → I (28 + p) 0 = nI (skd s p) ∧ I (28 + p) 1 = nI (snu s p)
def UW (I : Nat → Nat → Int32) : Prop := ∀ k, k < 6 → I 1 k = sm_un.getD k 0
def CT (s : St) (L : Nat) (ext : List (Nat × Nat)) (tx : Nat → Nat) (tt : Nat) (fe : Nat → Nat → Option Nat) (I : Nat → Nat → Int32) : Prop := ∀ t, t < sT s → txo L ext (am_Fx tx tt fe) I (tx t) (stw s t).1 (stw s t).2.1 (stw s t).2.2
def CS (s : St) (I : Nat → Nat → Int32) : Prop := ∀ q, q < 4 → I (34 + 2 * q) 0 = nI (sso s q) - 1 ∧ (0 < sso s q → I (34 + 2 * q) 1 = nI (ssz s q) ∧ ∀ i, i < ssz s q → I (35 + 2 * q) i = sit s q i)
def CK (s : St) (I : Nat → Nat → Int32) : Prop := I 17 0 = nI (s.1 6) ∧ (s.1 6 = 1 → I 17 1 = nI (s.1 7) ∧ I 17 2 = nI (s.1 8) ∧ I 17 3 = nI (s.1 9) ∧ I 17 4 = nI (s.1 10) ∧ (∀ k, k < 24 → I 18 k = nI (s.2.1 8 k)) ∧ (∀ k, k < 8 → I 19 k = nI (s.2.1 9 k)) ∧ ∀ p, p < s.1 9 → I 20 p = nI (s.2.1 10 p))
def CB (s : St) (L : Nat) (ext : List (Nat × Nat)) (tx : Nat → Nat) (tt : Nat) (fe : Nat → Nat → Option Nat) (I : Nat → Nat → Int32) : Prop := (SW I ∧ UW I) ∧ CN s I ∧ TW I (sbt s) (sn s) ∧ CT s L ext tx tt fe I ∧ CS s I ∧ CK s I
/-- the model's cells -/
def MN (s : St) (I : Nat → Nat → Int32) : Prop := I 55 7 = nI (sC s) ∧ I 55 8 = nI (sD s) ∧ I 55 12 = nI (sPn s) ∧ I 55 3 = nI (sT s) ∧ I 55 4 = nI (sR s) ∧ I 55 6 = nI (sn s) ∧ (∀ k, k < 24 → I 59 k = nI (srow s k)) ∧ (∀ k, k < 8 → I 62 k = nI (spr s k)) ∧ (∀ p, p < sPn s → I 60 p = nI (skd s p) ∧ I 61 p = nI (snu s p)) ∧ ∀ k, k < sn s → I 58 k = nI (sbt s k)
def MTx (s : St) (I : Nat → Nat → Int32) : Prop := ∀ t, t < sT s → MB I t (stb s t) (stn s t)
def MSh (s : St) (I : Nat → Nat → Int32) : Prop := ∀ q, q < 4 → I 73 q = (if 0 < sso s q then 1 else 0) ∧ (0 < sso s q → I 74 q = nI (sso s q) - 1 ∧ I 75 q = nI (ssz s q) ∧ ∀ i, i < ssz s q → I 76 (40 * q + i) = sit s q i)
def MK (s : St) (I : Nat → Nat → Int32) : Prop := (s.1 6 = 0 → I 55 47 = -1) ∧ (s.1 6 = 1 → I 55 47 = nI (s.1 8) ∧ I 55 48 = nI (s.1 7) ∧ I 55 49 = nI (s.1 9) ∧ I 55 50 = nI (s.1 10) ∧ (∀ k, k < 24 → I 70 k = nI (s.2.1 8 k)) ∧ (∀ k, k < 8 → I 71 k = nI (s.2.1 9 k)) ∧ ∀ p, p < s.1 9 → I 72 p = nI (s.2.1 10 p))
def MJ (s : St) (I : Nat → Nat → Int32) : Prop := MN s I ∧ MTx s I ∧ MSh s I ∧ MK s I
/-- what a question to the class may change, but for the search -/
def FCQ : List Nat := [21, 22, 23, 43, 44, 45, 46, 47]
/-- what it may change at all -/
def FCS : List Nat := [12, 13, 14, 15, 21, 22, 23, 43, 44, 45, 46, 47, 48, 49, 50, 51, 52, 53, 54]
def SQ : List Nat := [63, 64, 65, 66, 67, 68, 69]
def TQ : List Nat := [14, 15, 16, 17, 18, 19, 20, 21, 22, 23, 24, 26, 27, 28, 33, 34, 35, 38, 39, 40, 41, 42]
theorem MJ_f {s : St} {I I' : Nat → Nat → Int32} (h : MJ s I) (hf : mf SQ TQ I I') : MJ s I' := by
  obtain ⟨⟨a1, a2, a3, a4, a5, a6, a7, a8, a9, a10⟩, b, c, e1, e2⟩ := h
  have k : ∀ k, k ∉ TQ → I' 55 k = I 55 k := hf.2
  have g : ∀ a, 56 ≤ a → a ∉ SQ → I' a = I a := fun a ha hs => hf.1 a (by omega) hs
  refine ⟨⟨by rw [k 7 (by decide)]; exact a1, by rw [k 8 (by decide)]; exact a2, by rw [k 12 (by decide)]; exact a3, by rw [k 3 (by decide)]; exact a4, by rw [k 4 (by decide)]; exact a5, by rw [k 6 (by decide)]; exact a6, by rw [g 59 (by decide) (by decide)]; exact a7, by rw [g 62 (by decide) (by decide)]; exact a8, by rw [g 60 (by decide) (by decide), g 61 (by decide) (by decide)]; exact a9, by rw [g 58 (by decide) (by decide)]; exact a10⟩, fun t ht => ?_, fun q hq => ?_, by rw [k 47 (by decide)]; exact e1, ?_⟩
  · obtain ⟨m1, m2, m3, m4⟩ := b t ht
    exact ⟨m1, m2, by rw [g 57 (by decide) (by decide)]; exact m3, by rw [g 56 (by decide) (by decide)]; exact m4⟩
  · rw [g 73 (by decide) (by decide), g 74 (by decide) (by decide), g 75 (by decide) (by decide), g 76 (by decide) (by decide)]
    exact c q hq
  · rw [k 47 (by decide), k 48 (by decide), k 49 (by decide), k 50 (by decide), g 70 (by decide) (by decide), g 71 (by decide) (by decide), g 72 (by decide) (by decide)]
    exact e2
theorem SW_e {I I' : Nat → Nat → Int32} (h : SW I) (h2 : I' 2 = I 2) (h3 : I' 3 = I 3) : SW I' := ⟨by rw [h2]; exact h.1, fun k hk => by rw [h3]; exact h.2 k hk⟩
theorem CS_f {s : St} {I I' : Nat → Nat → Int32} (h : CS s I) (hf : ∀ a, 34 ≤ a → a ≤ 41 → I' a = I a) : CS s I' := fun q hq => by
  rw [hf (34 + 2 * q) (by omega) (by omega), hf (35 + 2 * q) (by omega) (by omega)]
  exact h q hq
theorem CN_f {s : St} {I I' : Nat → Nat → Int32} (h : CN s I) (h5 : I' 5 = I 5) (h6 : I' 6 = I 6) (h7 : I' 7 = I 7) (hp : ∀ p, p < sPn s → I' (28 + p) = I (28 + p)) : CN s I' := by
  obtain ⟨a1, a2, a3, a4, a5, a6, a7, a8⟩ := h
  refine ⟨by rw [h5]; exact a1, by rw [h5]; exact a2, by rw [h5]; exact a3, by rw [h5]; exact a4, by rw [h5]; exact a5, by rw [h6]; exact a6, by rw [h7]; exact a7, fun p hq => ?_⟩
  rw [hp p hq]
  exact a8 p hq
theorem CK_f {s : St} {I I' : Nat → Nat → Int32} (h : CK s I) (h1 : I' 17 = I 17) (h2 : I' 18 = I 18) (h3 : I' 19 = I 19) (h4 : I' 20 = I 20) : CK s I' := by
  unfold CK at h ⊢
  rw [h1, h2, h3, h4]
  exact h
section B25
variable {d L : Nat} {ext : List (Nat × Nat)} {tx : Nat → Nat} {tt : Nat} {fe : Nat → Nat → Option Nat} {I : Nat → Nat → Int32} {G : Nat → Nat → Int64}
theorem CT_f {s : St} {I' : Nat → Nat → Int32} {r : Nat} {S : List Nat} (h : CT s L ext tx tt fe I) (hS : ntx S) (hf : fr S I I') : CT s L ext tx r fe I' := fun t ht => txo_tt (txo_f hS hf (h t ht))
theorem CB_f {s : St} {I' : Nat → Nat → Int32} {r : Nat} (hs : Sok s) (h : CB s L ext tx tt fe I) (hf : fr FCS I I') : CB s L ext tx r fe I' := by
  obtain ⟨⟨a1, a2⟩, b, ⟨c1, c2, c3⟩, e, f, g⟩ := h
  have hp : sPn s ≤ 6 := hs.1.2.2.2.1
  refine ⟨⟨SW_e a1 (hf 2 (by decide)) (hf 3 (by decide)), by rw [UW, hf 1 (by decide)]; exact a2⟩, CN_f b (hf 5 (by decide)) (hf 6 (by decide)) (hf 7 (by decide)) (fun p hq => hf _ (by unfold FCS; simp; omega)), ⟨c1, by rw [hf 10 (by decide)]; exact c2, by rw [hf 11 (by decide)]; exact c3⟩, CT_f e (ntx_d (by decide)) hf, CS_f f (fun a h1 h2 => hf a (by unfold FCS; simp; omega)), CK_f g (hf 17 (by decide)) (hf 18 (by decide)) (hf 19 (by decide)) (hf 20 (by decide))⟩
theorem EW_of {s : St} (hs : Sok s) (h : CB s L ext tx tt fe I) : EW L ext tx tt fe I (sC s) (sD s) (sR s) (srow s) (stw s (sR s)).1 (stw s (sR s)).2.1 (stw s (sR s)).2.2 := by
  obtain ⟨⟨a1, a2, a3⟩, b1, b2, b3, b4, b5, -⟩ := hs.1
  obtain ⟨-, ⟨c1, c2, c3, c4, c5, c6, -⟩, -, e, -⟩ := h
  exact ⟨c1, c2, c5, ⟨a1, a2, a3, by omega⟩, fun k hk => ⟨c6 k hk, b5 k hk⟩, e _ b1⟩
theorem MW_of {s : St} (hs : Sok s) (h : MJ s I) : MW I (sC s) (sD s) (sR s) (stb s (sR s)) (stn s (sR s)) (stw s (sR s)).1 (stw s (sR s)).2.1 (stw s (sR s)).2.2 := by
  obtain ⟨⟨⟨a1, a2, a3⟩, b1, b2, -⟩, ht, -⟩ := hs
  obtain ⟨⟨c1, c2, c3, c4, c5, -⟩, e, -⟩ := h
  exact ⟨c1, c2, c5, ⟨a1, a2, a3, by omega⟩, e _ b1, ht _ b1⟩
end B25
