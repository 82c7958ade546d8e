/-! PURE, 43: a sheet's place -/
section B43
variable {d L : Nat} {ext : List (Nat × Nat)} {tx : Nat → Nat} {tt : Nat} {fe : Nat → Nat → Option Nat} {I : Nat → Nat → Int32} {G : Nat → Nat → Int64}
theorem c_42 {s : St} (h : CS s I) {q : Nat} (hq : q < 4) (h0 : 0 < sso s q) {v : Int32} : (am_R (d) 42 0 (am_mem L ext tx tt fe I G) [some (Value.ref (34 + 2 * q)), some (Value.int v)] []) = some (some (.int (bI (¬ v < 0 ∧ v < nI (ssz s q)))), (am_mem L ext tx tt fe I G)) := by
  have hk := kd_of (sp34 (L := L) (ext := ext) hq).1 (I := I) (G := G) (F := am_Fx tx tt fe)
  have h1 := ((h q hq).2 h0).1
  refine wp_eq (wp_e e_42_0 (wp_i (fun e => wp_e e_42_3 (wp_e e_42_4 (wp_r ⟨?_, rfl⟩))) (fun e => wp_e e_42_1 (wp_c (by rw [hk]; rfl) ?_))))
  · rw [bI_f (fun z => z.1 e)]
    rfl
  · rw [h1]
    refine wp_i (fun e2 => wp_e e_42_2 (wp_e e_42_4 (wp_r ⟨?_, rfl⟩))) (fun e2 => wp_e e_42_3 (wp_e e_42_4 (wp_r ⟨?_, rfl⟩)))
    · rw [bI_t ⟨e, e2⟩]
      rfl
    · rw [bI_f (fun z => e2 z.2)]
      rfl
/-- what a sheet of a sort keeps of a number -/
def nrw (so : Nat) (v : Int32) : Int32 := if so = 1 then v.toInt8.toInt32 else if so = 2 then v.toInt16.toInt32 else v
theorem c_44 {s : St} (hs : Sok s) (h : CS s I) {q j : Nat} (hq : q < 4) (h0 : 0 < sso s q) (hj : j < ssz s q) {v : Int32} : (am_R (d) 44 0 (am_mem L ext tx tt fe I G) [some (Value.ref (34 + 2 * q)), some (Value.int (nI j)), some (Value.int v)] []) = some (none, (am_mem L ext tx tt fe (am_u2 I (35 + 2 * q) j (nrw (sso s q) v)) G)) := by
  have hk := kd_of (sp34 (L := L) (ext := ext) hq).1 (I := I) (G := G) (F := am_Fx tx tt fe)
  have hk2 := kd_of (sp34 (L := L) (ext := ext) hq).2 (I := I) (G := G) (F := am_Fx tx tt fe)
  have hl2 := ln_of (sp34 (L := L) (ext := ext) hq).2 (I := I) (G := G) (F := am_Fx tx tt fe)
  obtain ⟨h3, h40⟩ := hs.2.2.1 q hq
  have hcl := nI_clamp (n := j) (by omega)
  have hib := ib (n := j) (N := 40) (by omega) (by decide)
  have h5 : Nat.ble 5 (35 + 2 * q) = true := Nat.ble_eq_true_of_le (by omega)
  have e0 := (h q hq).1
  refine wp_eq (wp_e e_44_0 (wp_c (by rw [hk]; rfl) ?_))
  rw [e0]
  unfold nrw
  have hc : sso s q = 1 ∨ sso s q = 2 ∨ sso s q = 3 := by omega
  rcases hc with e | e | e
  · rw [e, if_pos (c := (1 : Nat) = 1) rfl]
    refine wp_t (by decide) (wp_e e_44_1 (wp_c (by rw [hk]; rfl) ?_))
    rw [(Fx16 hq).2]
    refine wp_e e_44_2 (wp_c (by rw [hk2, hl2, h5, hib]; rfl) (wp_e e_44_7 (wp_r ⟨rfl, ?_⟩)))
    rw [hcl]
  · rw [e, if_neg (show ¬ (2 : Nat) = 1 by decide), if_pos (c := (2 : Nat) = 2) rfl, if_neg (show ¬ nI 2 - 1 = 0 by decide)]
    refine wp_t (by decide) (wp_e e_44_3 (wp_c (by rw [hk]; rfl) ?_))
    rw [(Fx16 hq).2]
    refine wp_e e_44_4 (wp_c (by rw [hk2, hl2, h5, hib]; rfl) (wp_e e_44_7 (wp_r ⟨rfl, ?_⟩)))
    rw [hcl]
  · rw [e, if_neg (show ¬ (3 : Nat) = 1 by decide), if_neg (show ¬ (3 : Nat) = 2 by decide), if_neg (show ¬ nI 3 - 1 = 0 by decide)]
    refine wp_f (by decide) (wp_e e_44_5 (wp_c (by rw [hk]; rfl) ?_))
    rw [(Fx16 hq).2]
    refine wp_e e_44_6 (wp_c (by rw [hk2, hl2, h5, hib]; rfl) (wp_e e_44_7 (wp_r ⟨rfl, ?_⟩)))
    rw [hcl]
end B43
