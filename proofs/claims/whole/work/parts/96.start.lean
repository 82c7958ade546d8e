/-! PURE: the start (genstart.py) -/
def bt0 (k : Nat) : Nat := [115, 116, 114, 111, 110, 103, 32, 100, 114, 105, 98, 32, 43, 32, 49, 32, 59, 32, 100, 114, 105, 112, 115, 32, 48, 32, 59, 32, 108, 105, 107, 101, 100, 32, 100, 114, 105, 98, 115, 32, 42, 32, 51, 32, 59, 32, 32, 32].getD k 0
def tw0 : L3 := ([10000, 1, -43], [0], [10001, 3, -42])
def st0 : St := (fun k => match k with | 0 => 2 | 1 => 8 | 4 => 1 | _ => 0, fun k => if k = 20 then bt0 else if k = 5 then (fun _ => 48) else fun _ => 0, fun _ _ => 0, fun _ => tw0)
theorem txt_0 : txt bt0 48 = (48, some tw0) := by decide +kernel
theorem Sok_0 : Sok st0 := by
  refine ⟨⟨⟨by decide, by decide, by decide⟩, by decide, by decide, by decide, by decide, fun k hk => Nat.zero_lt_succ 1, fun k hk => Nat.zero_le _, fun p hp => absurd hp (Nat.not_lt_zero p), fun k hk => absurd hk (Nat.not_lt_zero k)⟩, fun t ht => ?_, fun q hq => ⟨Nat.zero_le _, Nat.zero_le _⟩, fun h => absurd (show (0 : Nat) = 1 from h) (by decide), Nat.zero_le 1⟩
  have ht : t < 1 := ht
  obtain rfl : t = 0 := by omega
  exact ⟨48, txt_0⟩
section B96
variable {d L : Nat} {I : Nat → Nat → Int32} {F : Nat → Nat → Option Nat} {G : Nat → Nat → Int64}
def cA (I : Nat → Nat → Int32) : Prop := I 5 0 = 2 ∧ I 5 1 = 8 ∧ I 5 5 = 0 ∧ I 5 7 = 1 ∧ I 5 8 = 0 ∧ I 10 1 = 0 ∧ I 24 0 = 10000 ∧ I 24 1 = 1 ∧ I 24 2 = (-43) ∧ I 25 0 = 0 ∧ I 26 0 = 10001 ∧ I 26 1 = 3 ∧ I 26 2 = (-42) ∧ I 34 0 = (-1) ∧ I 36 0 = (-1) ∧ I 38 0 = (-1) ∧ I 40 0 = (-1) ∧ I 17 0 = 0 ∧ I 48 5 = (-1) ∧ (∀ k, I 6 k = 0) ∧ ∀ k, I 7 k = 0
theorem con_C : ∃ I' F' G', am_R (d + 2) 66 0 (List.take 6 (am_S0 L), am_u1 I 5 (fun _ => 0), am_u1 F 5 (fun _ => none), am_u1 G 5 (fun _ => 0)) [some (Value.ref 5), none, none, none, none, none] [] = some (none, (List.take 55 (am_S0 L), I', F', G')) ∧ (∀ a, a < 5 → I' a = I a ∧ F' a = F a) ∧ cA I' ∧ (∀ a, 5 ≤ a → a < 55 → ∀ k, F' a k = am_Fx (fun _ => 27) 27 (fun _ _ => none) a k) := by
  refine ⟨_, _, _, wp_eq (wp_e z_1 (wp_p z_2 (wp_e z_3 (wp_p z_4 (wp_e z_5 (wp_p z_6 (wp_e z_7 (wp_p z_8 (wp_e z_9 (wp_e z_10 (wp_e z_11 (wp_e z_12 (wp_e z_13 (wp_e z_14 (wp_e z_15 (wp_e z_16 (wp_e z_17 (wp_e z_18 (wp_e z_19 (wp_e z_20 (wp_e z_21 (wp_e z_22 (wp_e z_23 (wp_e z_24 (wp_e z_25 (wp_p z_26 (wp_e z_27 (wp_e z_28 (wp_e z_29 (wp_p z_30 (wp_e z_31 (wp_e z_32 (wp_e z_33 (wp_p z_34 (wp_e z_35 (wp_e z_36 (wp_e z_37 (wp_p z_38 (wp_e z_39 (wp_e z_40 (wp_e z_41 (wp_p z_42 (wp_e z_43 (wp_e z_44 (wp_e z_45 (wp_p z_46 (wp_e z_47 (wp_e z_48 (wp_e z_49 (wp_e z_50 (wp_e z_51 (wp_p z_52 (wp_e z_53 (wp_e z_54 (wp_e z_55 (wp_p z_56 (wp_e z_57 (wp_e z_58 (wp_e z_59 (wp_p z_60 (wp_e z_61 (wp_e z_62 (wp_e z_63 (wp_p z_64 (wp_e z_65 (wp_e z_66 (wp_e z_67 (wp_p z_68 (wp_e z_69 (wp_p z_70 (wp_e z_71 (wp_p z_72 (wp_e z_73 (wp_r ⟨rfl, rfl⟩)))))))))))))))))))))))))))))))))))))))))))))))))))))))))))))))))))))))))), fun a ha => ⟨?_, ?_⟩, ⟨rfl, rfl, rfl, rfl, rfl, rfl, rfl, rfl, rfl, rfl, rfl, rfl, rfl, rfl, rfl, rfl, rfl, rfl, rfl, fun k => rfl, fun k => rfl⟩, fun a h5 h55 => ?_⟩
  · repeat (first | rw [u2_a (show a ≠ _ by omega)] | rw [u1_a (show a ≠ _ by omega)])
  · repeat (first | rw [u2_a (show a ≠ _ by omega)] | rw [u1_a (show a ≠ _ by omega)])
  · exact match a, h5, h55 with
      | 0, h, _ => absurd h (by decide)
      | 1, h, _ => absurd h (by decide)
      | 2, h, _ => absurd h (by decide)
      | 3, h, _ => absurd h (by decide)
      | 4, h, _ => absurd h (by decide)
      | 5, _, _ => fun k => match k with | 0 => rfl | 1 => rfl | 2 => rfl | 3 => rfl | 4 => rfl | 5 => rfl | 6 => rfl | 7 => rfl | 8 => rfl | 9 => rfl | 10 => rfl | 11 => rfl | 12 => rfl | 13 => rfl | 14 => rfl | 15 => rfl | 16 => rfl | 17 => rfl | k + 18 => rfl
      | 6, _, _ => fun k => rfl
      | 7, _, _ => fun k => rfl
      | 8, _, _ => fun k => match k with | 0 => rfl | 1 => rfl | 2 => rfl | 3 => rfl | 4 => rfl | 5 => rfl | k + 6 => rfl
      | 9, _, _ => fun k => match k with | 0 => rfl | 1 => rfl | 2 => rfl | 3 => rfl | 4 => rfl | 5 => rfl | k + 6 => rfl
      | 10, _, _ => fun k => match k with | 0 => rfl | 1 => rfl | 2 => rfl | 3 => rfl | k + 4 => rfl
      | 11, _, _ => fun k => rfl
      | 12, _, _ => fun k => rfl
      | 13, _, _ => fun k => rfl
      | 14, _, _ => fun k => match k with | 0 => rfl | 1 => rfl | 2 => rfl | 3 => rfl | k + 4 => rfl
      | 15, _, _ => fun k => rfl
      | 16, _, _ => fun k => match k with | 0 => rfl | 1 => rfl | 2 => rfl | 3 => rfl | k + 4 => rfl
      | 17, _, _ => fun k => match k with | 0 => rfl | 1 => rfl | 2 => rfl | 3 => rfl | 4 => rfl | 5 => rfl | 6 => rfl | 7 => rfl | k + 8 => rfl
      | 18, _, _ => fun k => rfl
      | 19, _, _ => fun k => rfl
      | 20, _, _ => fun k => rfl
      | 21, _, _ => fun k => rfl
      | 22, _, _ => fun k => rfl
      | 23, _, _ => fun k => rfl
      | 24, _, _ => fun k => rfl
      | 25, _, _ => fun k => rfl
      | 26, _, _ => fun k => rfl
      | 27, _, _ => fun k => match k with | 0 => rfl | 1 => rfl | 2 => rfl | k + 3 => rfl
      | 28, _, _ => fun k => rfl
      | 29, _, _ => fun k => rfl
      | 30, _, _ => fun k => rfl
      | 31, _, _ => fun k => rfl
      | 32, _, _ => fun k => rfl
      | 33, _, _ => fun k => rfl
      | 34, _, _ => fun k => match k with | 0 => rfl | 1 => rfl | 2 => rfl | k + 3 => rfl
      | 35, _, _ => fun k => rfl
      | 36, _, _ => fun k => match k with | 0 => rfl | 1 => rfl | 2 => rfl | k + 3 => rfl
      | 37, _, _ => fun k => rfl
      | 38, _, _ => fun k => match k with | 0 => rfl | 1 => rfl | 2 => rfl | k + 3 => rfl
      | 39, _, _ => fun k => rfl
      | 40, _, _ => fun k => match k with | 0 => rfl | 1 => rfl | 2 => rfl | k + 3 => rfl
      | 41, _, _ => fun k => rfl
      | 42, _, _ => fun k => match k with | 0 => rfl | 1 => rfl | 2 => rfl | k + 3 => rfl
      | 43, _, _ => fun k => rfl
      | 44, _, _ => fun k => rfl
      | 45, _, _ => fun k => match k with | 0 => rfl | 1 => rfl | 2 => rfl | k + 3 => rfl
      | 46, _, _ => fun k => rfl
      | 47, _, _ => fun k => rfl
      | 48, _, _ => fun k => match k with | 0 => rfl | 1 => rfl | 2 => rfl | 3 => rfl | 4 => rfl | 5 => rfl | 6 => rfl | 7 => rfl | 8 => rfl | 9 => rfl | 10 => rfl | 11 => rfl | 12 => rfl | 13 => rfl | 14 => rfl | k + 15 => rfl
      | 49, _, _ => fun k => rfl
      | 50, _, _ => fun k => rfl
      | 51, _, _ => fun k => rfl
      | 52, _, _ => fun k => rfl
      | 53, _, _ => fun k => rfl
      | 54, _, _ => fun k => rfl
      | a + 55, _, h => absurd h (by omega)
def cB (I : Nat → Nat → Int32) : Prop := I 55 7 = 2 ∧ I 55 8 = 8 ∧ I 55 12 = 0 ∧ I 55 3 = 1 ∧ I 55 4 = 0 ∧ I 55 6 = 0 ∧ I 55 47 = (-1) ∧ I 57 0 = 48 ∧ (∀ k, I 59 k = 0) ∧ (∀ k, I 62 k = 0) ∧ (∀ k, I 73 k = 0) ∧ ∀ k, k < 48 → I 56 k = nI (bt0 k)
theorem con_M : ∃ I' F' G', am_R (d + 2) 129 0 (List.take 56 (am_S0 L), am_u1 I 55 (fun _ => 0), am_u1 F 55 (fun _ => none), am_u1 G 55 (fun _ => 0)) [some (Value.ref 55)] [] = some (none, (List.take 77 (am_S0 L), I', F', G')) ∧ (∀ a, a < 55 → I' a = I a ∧ F' a = F a) ∧ cB I' ∧ (∀ a, 55 ≤ a → a < 77 → ∀ k, F' a k = am_Fx (fun _ => 27) 27 (fun _ _ => none) a k) := by
  refine ⟨_, _, _, wp_eq (wp_e z_75 (wp_p z_76 (wp_e z_77 (wp_p z_78 (wp_e z_79 (wp_p z_80 (wp_e z_81 (wp_p z_82 (wp_e z_83 (wp_p z_84 (wp_e z_85 (wp_p z_86 (wp_e z_87 (wp_r ⟨rfl, rfl⟩)))))))))))))), fun a ha => ⟨?_, ?_⟩, ⟨rfl, rfl, rfl, rfl, rfl, rfl, rfl, rfl, fun k => rfl, fun k => rfl, fun k => rfl, fun k hk => ?_⟩, fun a h5 h55 => ?_⟩
  · repeat (first | rw [u2_a (show a ≠ _ by omega)] | rw [u1_a (show a ≠ _ by omega)])
  · repeat (first | rw [u2_a (show a ≠ _ by omega)] | rw [u1_a (show a ≠ _ by omega)])
  · exact match k, hk with
      | 0, _ => rfl
      | 1, _ => rfl
      | 2, _ => rfl
      | 3, _ => rfl
      | 4, _ => rfl
      | 5, _ => rfl
      | 6, _ => rfl
      | 7, _ => rfl
      | 8, _ => rfl
      | 9, _ => rfl
      | 10, _ => rfl
      | 11, _ => rfl
      | 12, _ => rfl
      | 13, _ => rfl
      | 14, _ => rfl
      | 15, _ => rfl
      | 16, _ => rfl
      | 17, _ => rfl
      | 18, _ => rfl
      | 19, _ => rfl
      | 20, _ => rfl
      | 21, _ => rfl
      | 22, _ => rfl
      | 23, _ => rfl
      | 24, _ => rfl
      | 25, _ => rfl
      | 26, _ => rfl
      | 27, _ => rfl
      | 28, _ => rfl
      | 29, _ => rfl
      | 30, _ => rfl
      | 31, _ => rfl
      | 32, _ => rfl
      | 33, _ => rfl
      | 34, _ => rfl
      | 35, _ => rfl
      | 36, _ => rfl
      | 37, _ => rfl
      | 38, _ => rfl
      | 39, _ => rfl
      | 40, _ => rfl
      | 41, _ => rfl
      | 42, _ => rfl
      | 43, _ => rfl
      | 44, _ => rfl
      | 45, _ => rfl
      | 46, _ => rfl
      | 47, _ => rfl
      | k + 48, h => absurd h (by omega)
  · obtain ⟨j, rfl⟩ : ∃ j, a = 55 + j := ⟨a - 55, by omega⟩
    exact match j, h55 with
      | 0, _ => fun k => match k with | 0 => rfl | 1 => rfl | 2 => rfl | 3 => rfl | 4 => rfl | 5 => rfl | 6 => rfl | 7 => rfl | 8 => rfl | 9 => rfl | 10 => rfl | 11 => rfl | 12 => rfl | 13 => rfl | 14 => rfl | 15 => rfl | 16 => rfl | 17 => rfl | 18 => rfl | 19 => rfl | 20 => rfl | 21 => rfl | 22 => rfl | 23 => rfl | 24 => rfl | 25 => rfl | 26 => rfl | 27 => rfl | 28 => rfl | 29 => rfl | 30 => rfl | 31 => rfl | 32 => rfl | 33 => rfl | 34 => rfl | 35 => rfl | 36 => rfl | 37 => rfl | 38 => rfl | 39 => rfl | 40 => rfl | 41 => rfl | 42 => rfl | 43 => rfl | 44 => rfl | 45 => rfl | 46 => rfl | 47 => rfl | 48 => rfl | 49 => rfl | 50 => rfl | 51 => rfl | 52 => rfl | 53 => rfl | 54 => rfl | k + 55 => rfl
      | 1, _ => fun k => rfl
      | 2, _ => fun k => rfl
      | 3, _ => fun k => rfl
      | 4, _ => fun k => rfl
      | 5, _ => fun k => rfl
      | 6, _ => fun k => rfl
      | 7, _ => fun k => rfl
      | 8, _ => fun k => rfl
      | 9, _ => fun k => rfl
      | 10, _ => fun k => rfl
      | 11, _ => fun k => rfl
      | 12, _ => fun k => rfl
      | 13, _ => fun k => rfl
      | 14, _ => fun k => rfl
      | 15, _ => fun k => rfl
      | 16, _ => fun k => rfl
      | 17, _ => fun k => rfl
      | 18, _ => fun k => rfl
      | 19, _ => fun k => rfl
      | 20, _ => fun k => rfl
      | 21, _ => fun k => rfl
      | j + 22, h => absurd h (by omega)
end B96
theorem CJ_0 {L : Nat} {tt : Nat} {fe : Nat → Nat → Option Nat} {I : Nat → Nat → Int32} (h0 : SW I ∧ UW I) (h : cA I) : CJ st0 L [] (fun _ => 27) tt fe I := by
  obtain ⟨a0, a1, a2, a3, a4, a5, a6, a7, a8, a9, a10, a11, a12, a13, a14, a15, a16, a17, a18, z6, z7⟩ := h
  refine ⟨⟨h0, ⟨a0, a1, a2, a3, a4, fun k _ => z6 k, fun k _ => z7 k, fun p hp => absurd hp (Nat.not_lt_zero p)⟩, ⟨Nat.zero_le _, a5, fun k hk => absurd hk (Nat.not_lt_zero k)⟩, fun t ht => ?_, fun q hq => ⟨?_, fun h => absurd h (Nat.not_lt_zero 0)⟩, ⟨a17, fun h => absurd (show (0 : Nat) = 1 from h) (by decide)⟩⟩, Or.inl a18⟩
  · exact ⟨Or.inl rfl, rfl, 24, 25, 26, rfl, rfl, rfl, ⟨Or.inl rfl, rfl, ⟨a6, a7, a8, trivial⟩, show (3 : Nat) ≤ 160 by decide⟩, ⟨Or.inr (Or.inl rfl), rfl, ⟨a9, trivial⟩, show (1 : Nat) ≤ 160 by decide⟩, ⟨Or.inr (Or.inr (Or.inl rfl)), rfl, ⟨a10, a11, a12, trivial⟩, show (3 : Nat) ≤ 160 by decide⟩⟩
  · obtain rfl | rfl | rfl | rfl : q = 0 ∨ q = 1 ∨ q = 2 ∨ q = 3 := by omega
    · exact a13
    · exact a14
    · exact a15
    · exact a16
theorem MJ_0 {I : Nat → Nat → Int32} (h : cB I) : MJ st0 I := by
  obtain ⟨b0, b1, b2, b3, b4, b5, b6, b7, z59, z62, z73, z56⟩ := h
  refine ⟨⟨b0, b1, b2, b3, b4, b5, fun k _ => z59 k, fun k _ => z62 k, fun p hp => absurd hp (Nat.not_lt_zero p), fun k hk => absurd hk (Nat.not_lt_zero k)⟩, fun t ht => ?_, fun q hq => ⟨z73 q, fun h => absurd h (Nat.not_lt_zero 0)⟩, fun _ => b6, fun h => absurd (show (0 : Nat) = 1 from h) (by decide)⟩
  have ht : t < 1 := ht
  obtain rfl : t = 0 := by omega
  refine ⟨by decide, show 48 ≤ 160 by decide, b7, fun k hk => ?_⟩
  have hk : k < 48 := hk
  refine ⟨?_, ?_⟩
  · rw [Nat.mul_zero, Nat.zero_add]
    exact z56 k hk
  · exact (by decide : ∀ k, k < 48 → bt0 k < 256) k hk
/-- where the loop of the law begins -/
theorem law_0 {L : Nat} {xs : Nat → Int32} {Q : Option Value → am_M → Prop} (hQ : ∀ fe I G, CJ st0 L [] (fun _ => 27) 27 fe I → MJ st0 I → (∀ j, I 0 j = xs j) → wp (am_R 2048 207 3 (am_mem L [] (fun _ => 27) 27 fe I G) [some (Value.ref 0), some (Value.ref 5), some (Value.ref 55), some (Value.int (nI 0))] []) Q) : wp (am_R 2048 207 0 (am_M0 L xs) [some (Value.ref 0), none, none, none] []) Q := by
  obtain ⟨I1, F1, G1, e1, k1, k2, k3⟩ := con_C (d := 2045) (L := L) (I := am_I0 xs) (F := fun a k => if a = 2 ∧ k = 1 then some 3 else none) (G := fun _ _ => 0)
  obtain ⟨I2, F2, G2, e2, m1, m2, m3⟩ := con_M (d := 2045) (L := L) (I := I1) (F := F1) (G := G1)
  refine wp_e (z_0 (d := 2047) (L := L) (I := am_I0 xs) (F := fun a k => if a = 2 ∧ k = 1 then some 3 else none) (G := fun _ _ => 0)) (wp_p e1 (wp_e z_74 (wp_p e2 (wp_e z_88 ?_))))
  have hF : F2 = am_Fx (fun _ => 27) 27 F2 := by
    funext a k
    by_cases h : a < 77
    · have e : am_Fx (fun _ => 27) 27 F2 a k = am_Fx (fun _ => 27) 27 (fun _ _ => none) a k := by
        unfold am_Fx
        cases hc : (am_F0 (fun _ => 27) 27)[a]? with
        | some f => rfl
        | none => exact absurd (List.getElem?_eq_none_iff.mp hc) (by
            have : (am_F0 (fun _ => 27) 27).length = 77 := rfl
            omega)
      rw [e]
      by_cases h55 : a < 55
      · rw [(m1 a h55).2]
        by_cases h5 : a < 5
        · rw [(k1 a h5).2]
          obtain rfl | rfl | rfl | rfl | rfl : a = 0 ∨ a = 1 ∨ a = 2 ∨ a = 3 ∨ a = 4 := by omega
          · rfl
          · rfl
          · match k with
            | 0 => rfl
            | 1 => rfl
            | k + 2 => rfl
          · rfl
          · rfl
        · exact k3 a (by omega) h55 k
      · exact m3 a (by omega) h k
    · unfold am_Fx
      rw [List.getElem?_eq_none (by
        have : (am_F0 (fun _ => 27) 27).length = 77 := rfl
        omega)]
  have hS : List.take 77 (am_S0 L) = am_S0 L ++ [] := by
    rw [List.append_nil]
    rfl
  have n1' : ∀ a, a < 5 → I2 a = am_I0 xs a := fun a ha => (m1 a (by omega)).1.trans (k1 a ha).1
  have nA : ∀ a, a < 55 → I2 a = I1 a := fun a ha => (m1 a ha).1
  have go := hQ F2 I2 G2 (CJ_0 ⟨⟨by rw [n1' 2 (by decide)]; rfl, fun k _ => by rw [n1' 3 (by decide)]; rfl⟩, fun k _ => by rw [n1' 1 (by decide)]; rfl⟩ ?_) (MJ_0 m2) (fun j => by rw [n1' 0 (by decide)]; rfl)
  · rw [hS, hF]
    exact go
  · unfold cA at k2 ⊢
    rw [nA 5 (by decide), nA 10 (by decide), nA 24 (by decide), nA 25 (by decide), nA 26 (by decide), nA 34 (by decide), nA 36 (by decide), nA 38 (by decide), nA 40 (by decide), nA 17 (by decide), nA 48 (by decide), nA 6 (by decide), nA 7 (by decide)]
    exact k2
