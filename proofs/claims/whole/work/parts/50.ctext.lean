/-! PURE, 20: whole texts of the class -/
theorem tq_up {bt : Nat → Nat} {n : Nat} : ∀ j h : Nat, tq bt n h + j ≤ tq bt n (h + j)
  | 0, h => Nat.le_refl _
  | j + 1, h => by
    have h1 := tq_up (bt := bt) (n := n) j h
    have h2 := adv_gt bt n (tq bt n (h + j))
    show tq bt n h + (j + 1) ≤ adv bt n (tq bt n (h + j))
    omega
section B20
variable {d L : Nat} {ext : List (Nat × Nat)} {tx : Nat → Nat} {tt : Nat} {fe : Nat → Nat → Option Nat} {I : Nat → Nat → Int32} {G : Nat → Nat → Int64}
theorem Fx_new {Q : Nat} {g : Nat → Option Nat} (h : 77 ≤ Q) : am_u1 (am_Fx tx tt fe) Q g = am_Fx tx tt (am_u1 fe Q g) := by
  funext a k
  by_cases ha : a = Q
  · subst ha
    rw [u1_s]
    have e : (am_F0 tx tt)[a]? = none := List.getElem?_eq_none (by show 77 ≤ a; exact h)
    unfold am_Fx
    rw [e, u1_s]
  · rw [u1_a ha]
    unfold am_Fx
    cases (am_F0 tx tt)[a]? with
    | some f => rfl
    | none => show fe a k = am_u1 fe Q g a k; rw [u1_a ha]
theorem S0_len : (am_S0 L ++ ext).length = 77 + ext.length := by
  rw [List.length_append]
  rfl
theorem S0_at {e2 : List (Nat × Nat)} {a : Nat} {x : Nat × Nat} (h : (am_S0 L ++ ext)[a]? = some x) : (am_S0 L ++ (ext ++ e2))[a]? = some x := by
  rw [← List.append_assoc, List.getElem?_append_left (List.getElem?_eq_some_iff.mp h).1]
  exact h
theorem S0_last {x : Nat × Nat} : (am_S0 L ++ (ext ++ [x]))[77 + ext.length]? = some x := by
  rw [← List.append_assoc, List.getElem?_append_right (by rw [S0_len]; exact Nat.le_refl _), S0_len, Nat.sub_self]
  rfl
/-- Arrays.copyOf, of fewer -/
theorem e_215_3' {v : Int32} : am_R (d + 1) 215 3 (am_mem L ext tx tt fe I G) [some (Value.ref 15), some (Value.int v), none] [] = cond ((am_kd ((am_S0 L ++ ext) ++ [(20, v.toNatClampNeg)], am_u1 I (am_S0 L ++ ext).length (fun _ => 0), am_u1 (am_Fx tx tt fe) (am_S0 L ++ ext).length (fun _ => none), am_u1 G (am_S0 L ++ ext).length (fun _ => 0)) (am_S0 L ++ ext).length 20 && (Nat.ble 5 (am_S0 L ++ ext).length && decide (¬ (0 : Int32) < 0 ∧ ¬ (0 : Int32) < 0 ∧ ¬ (if v < nI 160 then v else nI 160) < 0 ∧ (0 : Int32).toNatClampNeg + (if v < nI 160 then v else nI 160).toNatClampNeg ≤ 160 ∧ (0 : Int32).toNatClampNeg + (if v < nI 160 then v else nI 160).toNatClampNeg ≤ am_ln ((am_S0 L ++ ext) ++ [(20, v.toNatClampNeg)], am_u1 I (am_S0 L ++ ext).length (fun _ => 0), am_u1 (am_Fx tx tt fe) (am_S0 L ++ ext).length (fun _ => none), am_u1 G (am_S0 L ++ ext).length (fun _ => 0)) (am_S0 L ++ ext).length))) && ((decide (¬ v < 0) && Nat.ble v.toNatClampNeg 100000) && true)) (some (some (.ref (am_S0 L ++ ext).length), ((am_S0 L ++ ext) ++ [(20, v.toNatClampNeg)], am_u1 (am_u1 I (am_S0 L ++ ext).length (fun _ => 0)) (am_S0 L ++ ext).length (va_cpy ((am_u1 I (am_S0 L ++ ext).length (fun _ => 0)) 15) ((am_u1 I (am_S0 L ++ ext).length (fun _ => 0)) (am_S0 L ++ ext).length) (0 : Int32).toNatClampNeg (0 : Int32).toNatClampNeg (if v < nI 160 then v else nI 160).toNatClampNeg), am_u1 (am_Fx tx tt fe) (am_S0 L ++ ext).length (fun _ => none), am_u1 G (am_S0 L ++ ext).length (fun _ => 0)))) none := (am_R_eq _ _ _ _ _ _).trans rfl
theorem s_215 {m : Nat} (hm : m < 160) : (am_R (d + 1) 215 0 (am_mem L ext tx tt fe I G) [some (Value.ref 15), some (Value.int (nI m)), none] []) = some (some (Value.ref (77 + ext.length)), am_mem L (ext ++ [(20, m)]) tx tt (am_u1 fe (77 + ext.length) (fun _ => none)) (am_u1 I (77 + ext.length) (fun y => if y < m then I 15 y else 0)) (am_u1 G (77 + ext.length) (fun _ => 0))) := by
  have e160 : (am_S0 L ++ ext)[15]? = some (20, 160) := rfl
  rw [e_215_0, kd_of e160, Bool.true_or, Bool.true_and, cond_true, ln_of e160, if_neg (fun e => by have := (nI_eq (by omega) (by omega)).mp e; omega), e_215_3']
  have hcl := nI_clamp (n := m) (by omega)
  have hmin : (if nI m < nI 160 then nI m else nI 160) = nI m := if_pos (nI_lt hm (by omega))
  have hlast : ((am_S0 L ++ ext) ++ [(20, m)])[(am_S0 L ++ ext).length]? = some (20, m) := by
    rw [List.getElem?_append_right (Nat.le_refl _), Nat.sub_self]
    rfl
  have h77 : 77 ≤ (am_S0 L ++ ext).length := by rw [S0_len]; omega
  rw [hmin, hcl]
  have hk : am_kd ((am_S0 L ++ ext) ++ [(20, m)], am_u1 I (am_S0 L ++ ext).length (fun _ => 0), am_u1 (am_Fx tx tt fe) (am_S0 L ++ ext).length (fun _ => none), am_u1 G (am_S0 L ++ ext).length (fun _ => 0)) (am_S0 L ++ ext).length 20 = true := by
    unfold am_kd
    show (match ((am_S0 L ++ ext) ++ [(20, m)])[(am_S0 L ++ ext).length]? with | some q => Nat.beq q.1 20 | none => false) = true
    rw [hlast]
    rfl
  have hl : am_ln ((am_S0 L ++ ext) ++ [(20, m)], am_u1 I (am_S0 L ++ ext).length (fun _ => 0), am_u1 (am_Fx tx tt fe) (am_S0 L ++ ext).length (fun _ => none), am_u1 G (am_S0 L ++ ext).length (fun _ => 0)) (am_S0 L ++ ext).length = m := by
    unfold am_ln
    show (match ((am_S0 L ++ ext) ++ [(20, m)])[(am_S0 L ++ ext).length]? with | some q => q.2 | none => 0) = m
    rw [hlast]
  rw [hk, hl, Nat.ble_eq_true_of_le (show 5 ≤ (am_S0 L ++ ext).length by omega), decide_eq_true (show ¬ (0 : Int32) < 0 ∧ ¬ (0 : Int32) < 0 ∧ ¬ nI m < 0 ∧ (0 : Int32).toNatClampNeg + m ≤ 160 ∧ (0 : Int32).toNatClampNeg + m ≤ m from ⟨by decide, by decide, nI_pos (by omega), by show 0 + m ≤ 160; omega, by show 0 + m ≤ m; omega⟩), decide_eq_true (show ¬ nI m < 0 from nI_pos (by omega)), Nat.ble_eq_true_of_le (show m ≤ 100000 by omega)]
  simp only [Bool.and_true, cond_true]
  have e1 : am_u1 (am_u1 I (am_S0 L ++ ext).length (fun _ => 0)) (am_S0 L ++ ext).length (va_cpy ((am_u1 I (am_S0 L ++ ext).length (fun _ => 0)) 15) ((am_u1 I (am_S0 L ++ ext).length (fun _ => 0)) (am_S0 L ++ ext).length) (0 : Int32).toNatClampNeg (0 : Int32).toNatClampNeg m) = am_u1 I (am_S0 L ++ ext).length (fun y => if y < m then I 15 y else 0) := by
    funext a y
    simp only [am_u1]
    by_cases ha : a = (am_S0 L ++ ext).length
    · rw [if_pos ha, if_pos ha]
      have c0 : (0 : Int32).toNatClampNeg = 0 := rfl
      rw [c0]
      by_cases hy : y < m
      · rw [pk_cpy_in (Nat.zero_le _) (by omega), if_pos hy, u1_a (show (15 : Nat) ≠ (am_S0 L ++ ext).length by omega), show 0 + (y - 0) = y by omega]
      · rw [pk_cpy_out (Or.inr (by omega)), if_neg hy, u1_s]
    · rw [if_neg ha, if_neg ha, if_neg ha]
  rw [e1, Fx_new h77, S0_len, List.append_assoc]
/-- a new text -/
theorem e_65' {Sh : List (Nat × Nat)} {F : Nat → Nat → Option Nat} {q a b c : Nat} : am_R (d + 1) 65 0 (Sh, I, F, G) [some (Value.ref q), some (Value.ref a), some (Value.ref b), some (Value.ref c)] [] = cond ((am_kd (Sh, I, am_u2 (am_u2 F q 0 (some a)) q 1 (some b), G) q 8 && (Nat.ble 5 q && Nat.ble 5 c)) && ((am_kd (Sh, I, am_u2 F q 0 (some a), G) q 8 && (Nat.ble 5 q && Nat.ble 5 b)) && ((am_kd (Sh, I, F, G) q 8 && (Nat.ble 5 q && Nat.ble 5 a)) && (Nat.ble 5 q && true)))) (some (none, (Sh, I, am_u2 (am_u2 (am_u2 F q 0 (some a)) q 1 (some b)) q 2 (some c), G))) none := (am_R_eq _ _ _ _ _ _).trans rfl
theorem e_14_9' {a b c : Nat} : am_R (d + 1) 14 9 (am_mem L ext tx tt fe I G) [some (Value.ref 14), some (Value.ref a), some (Value.ref b), some (Value.ref c)] [] = (am_R d 65 0 (am_nw 8 3 (am_mem L ext tx tt fe I G)) [some (Value.ref (am_S0 L ++ ext).length), some (Value.ref a), some (Value.ref b), some (Value.ref c)] []).bind (fun r => am_R (d + 1) 14 10 r.2 [some (Value.ref 14), some (Value.ref a), some (Value.ref b), some (Value.ref c)] (r.1.toList ++ [Value.ref (am_S0 L ++ ext).length])) := (am_R_eq _ _ _ _ _ _).trans rfl
theorem e_14_10' {M : am_M} {l : am_L} {q : Nat} : am_R d 14 10 M l [Value.ref q] = some (some (.ref q), M) := (am_R_eq _ _ _ _ _ _).trans rfl
end B20
