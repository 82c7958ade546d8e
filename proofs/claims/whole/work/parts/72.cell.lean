/-! PURE, 42: CELL -/
theorem CB_i {s : St} {L : Nat} {ext : List (Nat × Nat)} {tx : Nat → Nat} {tt r : Nat} {fe : Nat → Nat → Option Nat} {I I' : Nat → Nat → Int32} {S : List Nat} {q : Nat} {g : Nat → Int32} (hs : Sok s) (h : CB s L ext tx tt fe I) (hf : fr S I I') (hS : ∀ a, a ∈ S → 34 ≤ a ∧ a ≤ 41) (hi : CS (setI s q g) I') : CB (setI s q g) L ext tx r fe I' := by
  obtain ⟨⟨a1, a2⟩, b, ⟨c1, c2, c3⟩, e, f, k⟩ := h
  have hP := hs.1.2.2.2.1
  have n : ∀ a, ¬ (34 ≤ a ∧ a ≤ 41) → I' a = I a := fun a ha => hf a (fun z => ha (hS a z))
  have b' : CN s I' := CN_f b (n 5 (by omega)) (n 6 (by omega)) (n 7 (by omega)) (fun p hp => n _ (by omega))
  have e' : CT s L ext tx r fe I' := CT_f e (fun a ha => by have := hS a ha; omega) hf
  have k' : CK s I' := CK_f k (n 17 (by omega)) (n 18 (by omega)) (n 19 (by omega)) (n 20 (by omega))
  exact ⟨⟨SW_e a1 (n 2 (by omega)) (n 3 (by omega)), by rw [UW, n 1 (by omega)]; exact a2⟩, b', ⟨c1, by rw [n 10 (by omega)]; exact c2, by rw [n 11 (by omega)]; exact c3⟩, e', hi, k'⟩
theorem MJ_i {s : St} {I I' : Nat → Nat → Int32} {q : Nat} {g : Nat → Int32} (h : MJ s I) (hf : fr [76] I I') (hi : MSh (setI s q g) I') : MJ (setI s q g) I' := by
  obtain ⟨⟨b1, b2, b3, b4, b5, b6, b7, b8, b9, b10⟩, c, -, f1, f2⟩ := h
  have n : ∀ a, a ≠ 76 → I' a = I a := fun a ha => hf a (by simpa using ha)
  refine ⟨⟨by rw [n 55 (by decide)]; exact b1, by rw [n 55 (by decide)]; exact b2, by rw [n 55 (by decide)]; exact b3, by rw [n 55 (by decide)]; exact b4, by rw [n 55 (by decide)]; exact b5, by rw [n 55 (by decide)]; exact b6, by rw [n 59 (by decide)]; exact b7, by rw [n 62 (by decide)]; exact b8, by rw [n 60 (by decide), n 61 (by decide)]; exact b9, by rw [n 58 (by decide)]; exact b10⟩, fun t ht => ?_, hi, by rw [n 55 (by decide)]; exact f1, ?_⟩
  · obtain ⟨m1, m2, m3, m4⟩ := c t ht
    exact ⟨m1, m2, by rw [n 57 (by decide)]; exact m3, by rw [n 56 (by decide)]; exact m4⟩
  · rw [n 55 (by decide), n 70 (by decide), n 71 (by decide), n 72 (by decide)]
    exact f2
