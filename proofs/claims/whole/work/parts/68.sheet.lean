/-! PURE, 38: sheets, and whether they can be tasted -/
theorem sp34 {L : Nat} {ext : List (Nat × Nat)} {q : Nat} (hq : q < 4) : (am_S0 L ++ ext)[34 + 2 * q]? = some (5, 3) ∧ (am_S0 L ++ ext)[35 + 2 * q]? = some (20, 40) := by
  obtain rfl | rfl | rfl | rfl : q = 0 ∨ q = 1 ∨ q = 2 ∨ q = 3 := by omega
  all_goals exact ⟨rfl, rfl⟩
theorem m1_0 {n : Nat} (h : n < 1000) : nI n - 1 = -1 ↔ n = 0 := by
  rw [fa_eq, fb_subI] <;> rw [nI_toInt (by omega)] <;> (have a : (1 : Int32).toInt = 1 := rfl) <;> (have b : (-1 : Int32).toInt = -1 := rfl) <;> rw [a] <;> try rw [b]
  all_goals omega
/-- why a sheet can't be tasted -/
def tasb (s : St) (q : Nat) : Int32 := if sso s q = 0 then -11 else if ssz s q = sC s then 0 else -2
section B38
variable {d L : Nat} {ext : List (Nat × Nat)} {tx : Nat → Nat} {tt : Nat} {fe : Nat → Nat → Option Nat} {I : Nat → Nat → Int32} {G : Nat → Nat → Int64}
theorem Fx16 {q : Nat} (h : q < 4) : am_Fx tx tt fe 16 q = some (34 + 2 * q) ∧ am_Fx tx tt fe (34 + 2 * q) 2 = some (35 + 2 * q) := by
  obtain rfl | rfl | rfl | rfl : q = 0 ∨ q = 1 ∨ q = 2 ∨ q = 3 := by omega
  all_goals exact ⟨rfl, rfl⟩
theorem c_41 {s : St} (hs : Sok s) (h : CS s I) {q : Nat} (hq : q < 4) : (am_R (d) 41 0 (am_mem L ext tx tt fe I G) [some (Value.ref (34 + 2 * q))] []) = some (some (.int (bI (sso s q = 0))), (am_mem L ext tx tt fe I G)) := by
  have hk := kd_of (sp34 (L := L) (ext := ext) hq).1 (I := I) (G := G) (F := am_Fx tx tt fe)
  have h3 := (hs.2.2.1 q hq).1
  refine wp_eq (wp_e e_41_0 (wp_c (by rw [hk]; rfl) ?_))
  rw [(h q hq).1]
  by_cases e : sso s q = 0
  · refine wp_t ((m1_0 (by omega)).mpr e) (wp_e e_41_1 (wp_e e_41_3 (wp_r ⟨?_, rfl⟩)))
    rw [bI_t e]
    rfl
  · refine wp_f (fun z => e ((m1_0 (by omega)).mp z)) (wp_e e_41_2 (wp_e e_41_3 (wp_r ⟨?_, rfl⟩)))
    rw [bI_f e]
    rfl
theorem c_111 {s : St} (hs : Sok s) (h : CB s L ext tx tt fe I) {q : Nat} (hq : q < 4) : (am_R (d + 1) 111 0 (am_mem L ext tx tt fe I G) [some (Value.ref 5), some (Value.int (nI q))] []) = some (some (.int (tasb s q)), (am_mem L ext tx tt fe I G)) := by
  have hk := kd_of (sp34 (L := L) (ext := ext) hq).1 (I := I) (G := G) (F := am_Fx tx tt fe)
  have hib := ib (n := q) (N := 4) hq (by decide)
  have hcl := nI_clamp (n := q) (by omega)
  have h40 := (hs.2.2.1 q hq).2
  have hC4 := hs.1.1.2.1
  refine wp_eq (wp_e e_111_0 (wp_c (by rw [hib]; rfl) ?_))
  rw [hcl, (Fx16 hq).1]
  refine wp_e e_111_1 (wp_c (by rw [hk, Nat.ble_eq_true_of_le (show 5 ≤ 34 + 2 * q by omega)]; rfl) (wp_p (c_41 hs h.2.2.2.2.1 hq) (wp_e e_111_2 ?_)))
  unfold tasb
  by_cases e : sso s q = 0
  · rw [if_pos e]
    exact wp_f (bI_y e) (wp_e e_111_3 (wp_r ⟨rfl, rfl⟩))
  · rw [if_neg e]
    refine wp_t (bI_f e) (wp_e e_111_4 (wp_c (by rw [hib]; rfl) ?_))
    rw [hcl, (Fx16 hq).1]
    refine wp_e e_111_5 (wp_c (by rw [hk]; rfl) ?_)
    rw [((h.2.2.2.2.1 q hq).2 (by omega)).1, h.2.1.1]
    by_cases e2 : ssz s q = sC s
    · rw [if_pos (c := ssz s q = sC s) (t := (0 : Int32)) e2]
      exact wp_t (by rw [e2]) (wp_e e_111_6 (wp_e e_111_8 (wp_r ⟨rfl, rfl⟩)))
    · rw [if_neg (c := ssz s q = sC s) (t := (0 : Int32)) e2]
      exact wp_f (fun z => e2 ((nI_eq (by omega) (by omega)).mp z)) (wp_e e_111_7 (wp_e e_111_8 (wp_r ⟨rfl, rfl⟩)))
theorem m_190 {s : St} (hs : Sok s) (h : MJ s I) {q : Nat} (hq : q < 4) : (am_R (d + 2) 190 0 (am_mem L ext tx tt fe I G) [some (Value.ref 55), some (Value.int (nI q))] []) = some (some (.int (tasb s q)), (am_mem L ext tx tt fe I G)) := by
  have hib := ib (n := q) (N := 4) hq (by decide)
  have hcl := nI_clamp (n := q) (by omega)
  have h40 := (hs.2.2.1 q hq).2
  have hC4 := hs.1.1.2.1
  obtain ⟨h73, hr⟩ := h.2.2.1 q hq
  refine wp_eq (wp_e e_190_0 (wp_p s_200 (wp_e e_190_1 (wp_f (bI_y ⟨nI_pos (by omega), nI_nlt (a := 3) (by omega) (by decide)⟩) (wp_e e_190_3 (wp_c (by rw [hib]; rfl) ?_))))))
  rw [hcl, h73]
  unfold tasb
  by_cases e : sso s q = 0
  · rw [if_pos e, if_neg (show ¬ 0 < sso s q by omega)]
    exact wp_t rfl (wp_e e_190_4 (wp_r ⟨rfl, rfl⟩))
  · rw [if_neg e, if_pos (show 0 < sso s q by omega)]
    refine wp_f (by decide) (wp_e e_190_5 (wp_c (by rw [hib]; rfl) ?_))
    rw [hcl, (hr (by omega)).2.1, h.1.1]
    by_cases e2 : ssz s q = sC s
    · rw [if_pos (c := ssz s q = sC s) (t := (0 : Int32)) e2]
      exact wp_t (by rw [e2]) (wp_e e_190_6 (wp_e e_190_8 (wp_r ⟨rfl, rfl⟩)))
    · rw [if_neg (c := ssz s q = sC s) (t := (0 : Int32)) e2]
      exact wp_f (fun z => e2 ((nI_eq (by omega) (by omega)).mp z)) (wp_e e_190_7 (wp_e e_190_8 (wp_r ⟨rfl, rfl⟩)))
end B38
