/-! PURE, 51: COPY -/
/-- n items from i on are there -/
def hal (sz : Nat) (i n : Int32) : Prop := ¬ n < 0 ∧ ¬ i < 0 ∧ ¬ (nI sz - n) < i
theorem hal_n {sz : Nat} {i n : Int32} (h40 : sz ≤ 40) (h : hal sz i n) : ∃ a m, i = nI a ∧ n = nI m ∧ a + m ≤ sz := by
  obtain ⟨h1, h2, h3⟩ := h
  rw [fa_lt] at h1 h2 h3
  have z : (0 : Int32).toInt = 0 := rfl
  have rn := fb_rng n
  have ri := fb_rng i
  have rs := nI_toInt (n := sz) (by omega)
  rw [z] at h1 h2
  rw [fb_subI (by omega) (by omega), rs] at h3
  refine ⟨i.toInt.toNat, n.toInt.toNat, ?_, ?_, by omega⟩
  · rw [fa_eq, nI_toInt (by omega)]
    omega
  · rw [fa_eq, nI_toInt (by omega)]
    omega
theorem hal_of {sz a m : Nat} (h40 : sz ≤ 40) (h : a + m ≤ sz) : hal sz (nI a) (nI m) := ⟨nI_pos (by omega), nI_pos (by omega), by rw [pk_sub (by omega)]; exact nI_nlt (by omega) (by omega)⟩
section B51
variable {d L : Nat} {ext : List (Nat × Nat)} {tx : Nat → Nat} {tt : Nat} {fe : Nat → Nat → Option Nat} {I : Nat → Nat → Int32} {G : Nat → Nat → Int64}
theorem c_43 {s : St} (hs : Sok s) (h : CS s I) {q : Nat} (hq : q < 4) (h0 : 0 < sso s q) {i n : Int32} {Q : Option Value → am_M → Prop} (h1 : hal (ssz s q) i n → Q (some (.int 1)) (am_mem L ext tx tt fe I G)) (h2 : ¬ hal (ssz s q) i n → Q (some (.int 0)) (am_mem L ext tx tt fe I G)) : wp (am_R (d) 43 0 (am_mem L ext tx tt fe I G) [some (Value.ref (34 + 2 * q)), some (Value.int i), some (Value.int n)] []) Q := by
  have hk := kd_of (sp34 (L := L) (ext := ext) hq).1 (I := I) (G := G) (F := am_Fx tx tt fe)
  have h40 := (hs.2.2.1 q hq).2
  have e1 := ((h q hq).2 h0).1
  have no : ¬ hal (ssz s q) i n → wp (am_R (d) 43 5 (am_mem L ext tx tt fe I G) [some (Value.ref (34 + 2 * q)), some (Value.int i), some (Value.int n)] []) Q := fun e => wp_e e_43_5 (wp_e e_43_6 (wp_r (h2 e)))
  have rs := nI_toInt (n := ssz s q) (by omega)
  refine wp_e e_43_0 (wp_i (fun e => no (fun z => z.2.1 e)) (fun a1 => wp_e e_43_1 (wp_i (fun e => no (fun z => z.1 e)) (fun a2 => wp_e e_43_2 (wp_c (by rw [hk]; rfl) ?_)))))
  rw [e1]
  refine wp_i (fun e => no (fun z => ?_)) (fun a3 => wp_e e_43_3 (wp_c (by rw [hk]; rfl) ?_))
  · obtain ⟨a, m, rfl, rfl, ham⟩ := hal_n h40 z
    exact nI_nlt (a := ssz s q) (b := a) (by omega) (by omega) e
  · rw [e1]
    refine wp_i (fun e => no (fun z => ?_)) (fun a4 => wp_e e_43_4 (wp_e e_43_6 (wp_r (h1 ?_))))
    · obtain ⟨a, m, rfl, rfl, ham⟩ := hal_n h40 z
      rw [pk_sub (by omega)] at e
      exact nI_nlt (a := ssz s q - a) (b := m) (by omega) (by omega) e
    · obtain ⟨a, ha, rfl⟩ := nI_of a1
      obtain ⟨m, hm, rfl⟩ := nI_of a2
      rw [nI_ltI (by omega) ha] at a3
      rw [pk_sub (by omega), nI_ltI (by omega) hm] at a4
      exact hal_of h40 (by omega)
end B51
def cpi (s : St) (q a o b m : Nat) : Nat → Int32 := fun x => if b ≤ x ∧ x < b + m then sit s q (a + (x - b)) else sit s o x
/-- COPY -/
theorem op_copy {s : St} (hs : Sok s) {v1 v2 v3 v4 v5 : Int32} : OP s (fun M => (am_R (2047) 122 0 M [some (Value.ref 5), some (Value.int v1), some (Value.int v2), some (Value.int v3), some (Value.int v4), some (Value.int v5), none, none] [])) (fun M => (am_R (2047) 203 0 M [some (Value.ref 55), some (Value.int v1), some (Value.int v2), some (Value.int v3), some (Value.int v4), some (Value.int v5), none, none, none] [])) := by
  have i3 : ∀ {a : Int32}, (¬ a < 0 ∧ ¬ 3 < a) → (¬ a < 0 ∧ a < (4 : Int32)) := fun {a} e => by
    obtain ⟨j, j1, rfl⟩ := ix_le (n := 3) (by decide) e
    exact ⟨nI_pos (by omega), nI_lt (b := 4) (by omega) (by decide)⟩
  by_cases h : (¬ v1 < 0 ∧ v1 < (4 : Int32)) ∧ (¬ v3 < 0 ∧ v3 < (4 : Int32))
  · obtain ⟨q, hq, rfl⟩ := ix_lt (n := 4) (by decide) h.1
    obtain ⟨o, ho, rfl⟩ := ix_lt (n := 4) (by decide) h.2
    have hqb := ib (n := q) (N := 4) hq (by decide)
    have hqc := nI_clamp (n := q) (by omega)
    have hob := ib (n := o) (N := 4) ho (by decide)
    have hoc := nI_clamp (n := o) (by omega)
    have hq2 : ∀ x, x < 4 → ¬ nI x < 0 ∧ ¬ 3 < nI x := fun x hx => ⟨nI_pos (by omega), nI_nlt (a := 3) (by omega) (by decide)⟩
    have h5q : Nat.ble 5 (34 + 2 * q) = true := Nat.ble_eq_true_of_le (by omega)
    have h5o : Nat.ble 5 (34 + 2 * o) = true := Nat.ble_eq_true_of_le (by omega)
    obtain ⟨q3, q40⟩ := hs.2.2.1 q hq
    obtain ⟨o3, o40⟩ := hs.2.2.1 o ho
    have c0 : ∀ {L ext tx tt fe I G} {Q : Option Value → am_M → Prop}, CB s L ext tx tt fe I → wp (am_R 2047 122 8 (am_mem L ext tx tt fe I G) [some (Value.ref 5), some (Value.int (nI q)), some (Value.int v2), some (Value.int (nI o)), some (Value.int v4), some (Value.int v5), some (Value.ref (34 + 2 * q)), some (Value.ref (34 + 2 * o))] [Value.int (bI (sso s q = 0))]) Q → wp (am_R 2047 122 0 (am_mem L ext tx tt fe I G) [some (Value.ref 5), some (Value.int (nI q)), some (Value.int v2), some (Value.int (nI o)), some (Value.int v4), some (Value.int v5), none, none] []) Q := by
      intro L ext tx tt fe I G Q hb k
      refine wp_e e_122_0 (wp_p s_125 (wp_e e_122_1 (wp_f (bI_y h.1) (wp_e e_122_2 (wp_p s_125 (wp_e e_122_3 (wp_f (bI_y h.2) (wp_e e_122_5 (wp_c (by rw [hqb]; rfl) ?_)))))))))
      rw [hqc, (Fx16 hq).1]
      refine wp_e e_122_6 (wp_c (by rw [hob]; rfl) ?_)
      rw [hoc, (Fx16 ho).1]
      exact wp_e e_122_7 (wp_c (by rw [kd_of (sp34 hq).1, h5q]; rfl) (wp_p (c_41 hs hb.2.2.2.2.1 hq) k))
    have m0 : ∀ {L ext tx tt fe I G} {Q : Option Value → am_M → Prop}, MJ s I → (sso s q = 0 → wp (am_R 2047 203 7 (am_mem L ext tx tt fe I G) [some (Value.ref 55), some (Value.int (nI q)), some (Value.int v2), some (Value.int (nI o)), some (Value.int v4), some (Value.int v5), none, none, none] []) Q) → (¬ sso s q = 0 → wp (am_R 2047 203 6 (am_mem L ext tx tt fe I G) [some (Value.ref 55), some (Value.int (nI q)), some (Value.int v2), some (Value.int (nI o)), some (Value.int v4), some (Value.int v5), none, none, none] []) Q) → wp (am_R 2047 203 0 (am_mem L ext tx tt fe I G) [some (Value.ref 55), some (Value.int (nI q)), some (Value.int v2), some (Value.int (nI o)), some (Value.int v4), some (Value.int v5), none, none, none] []) Q := by
      intro L ext tx tt fe I G Q hb k1 k2
      refine wp_e e_203_0 (wp_p s_200 (wp_e e_203_1 (wp_f (bI_y (hq2 q hq)) (wp_e e_203_2 (wp_p s_200 (wp_e e_203_3 (wp_f (bI_y (hq2 o ho)) (wp_e e_203_5 (wp_c (by rw [hqb]; rfl) ?_)))))))))
      rw [hqc, (hb.2.2.1 q hq).1]
      exact wp_i (fun e => k1 (isZ.mp e)) (fun e => k2 (fun z => e (isZ.mpr z)))
    have c11 : ∀ {L ext tx tt fe I G}, wp (am_R 2047 122 11 (am_mem L ext tx tt fe I G) [some (Value.ref 5), some (Value.int (nI q)), some (Value.int v2), some (Value.int (nI o)), some (Value.int v4), some (Value.int v5), some (Value.ref (34 + 2 * q)), some (Value.ref (34 + 2 * o))] []) (qC L ext tx fe I G (.int (-11))) := fun {L ext tx tt fe I G} => wp_e e_122_11 (wp_r (qc_of (fr_r _ _)))
    by_cases hq0 : sso s q = 0
    · refine OP_q hs (.int (-11)) (fun L ext tx tt fe I G hb => c0 hb (wp_e e_122_8 (wp_f (bI_y hq0) c11))) (fun L ext tx tt fe I G hb => m0 hb (fun _ => wp_e e_203_7 (wp_r (qm_of (mf_r _ _ _)))) (fun e => absurd hq0 e))
    · have c1 : ∀ {L ext tx tt fe I G} {Q : Option Value → am_M → Prop}, CB s L ext tx tt fe I → wp (am_R 2047 122 10 (am_mem L ext tx tt fe I G) [some (Value.ref 5), some (Value.int (nI q)), some (Value.int v2), some (Value.int (nI o)), some (Value.int v4), some (Value.int v5), some (Value.ref (34 + 2 * q)), some (Value.ref (34 + 2 * o))] [Value.int (bI (sso s o = 0))]) Q → wp (am_R 2047 122 0 (am_mem L ext tx tt fe I G) [some (Value.ref 5), some (Value.int (nI q)), some (Value.int v2), some (Value.int (nI o)), some (Value.int v4), some (Value.int v5), none, none] []) Q := by
        intro L ext tx tt fe I G Q hb k
        exact c0 hb (wp_e e_122_8 (wp_t (bI_f hq0) (wp_e e_122_9 (wp_c (by rw [kd_of (sp34 ho).1, h5o]; rfl) (wp_p (c_41 hs hb.2.2.2.2.1 ho) k)))))
      have m1 : ∀ {L ext tx tt fe I G} {Q : Option Value → am_M → Prop}, MJ s I → (sso s o = 0 → wp (am_R 2047 203 7 (am_mem L ext tx tt fe I G) [some (Value.ref 55), some (Value.int (nI q)), some (Value.int v2), some (Value.int (nI o)), some (Value.int v4), some (Value.int v5), none, none, none] []) Q) → (¬ sso s o = 0 → wp (am_R 2047 203 8 (am_mem L ext tx tt fe I G) [some (Value.ref 55), some (Value.int (nI q)), some (Value.int v2), some (Value.int (nI o)), some (Value.int v4), some (Value.int v5), none, none, none] []) Q) → wp (am_R 2047 203 0 (am_mem L ext tx tt fe I G) [some (Value.ref 55), some (Value.int (nI q)), some (Value.int v2), some (Value.int (nI o)), some (Value.int v4), some (Value.int v5), none, none, none] []) Q := by
        intro L ext tx tt fe I G Q hb k1 k2
        refine m0 hb (fun e => absurd e hq0) (fun _ => wp_e e_203_6 (wp_c (by rw [hob]; rfl) ?_))
        rw [hoc, (hb.2.2.1 o ho).1]
        exact wp_i (fun e => k1 (isZ.mp e)) (fun e => k2 (fun z => e (isZ.mpr z)))
      by_cases ho0 : sso s o = 0
      · exact OP_q hs (.int (-11)) (fun L ext tx tt fe I G hb => c1 hb (wp_e e_122_10 (wp_f (bI_y ho0) c11))) (fun L ext tx tt fe I G hb => m1 hb (fun _ => wp_e e_203_7 (wp_r (qm_of (mf_r _ _ _)))) (fun e => absurd ho0 e))
      · have hqp : 0 < sso s q := by omega
        have hop : 0 < sso s o := by omega
        have nIm : ∀ {x y : Nat}, x ≤ 3 → y ≤ 3 → 0 < x → 0 < y → (nI x - 1 = nI y - 1 ↔ x = y) := fun {x y} hx hy h1 h2 => by
          rw [n1, pk_sub (by omega), pk_sub (by omega), nI_eq (by omega) (by omega)]
          omega
        have c2 : ∀ {L ext tx tt fe I G} {Q : Option Value → am_M → Prop}, CB s L ext tx tt fe I → (sso s q = sso s o → wp (am_R 2047 122 14 (am_mem L ext tx tt fe I G) [some (Value.ref 5), some (Value.int (nI q)), some (Value.int v2), some (Value.int (nI o)), some (Value.int v4), some (Value.int v5), some (Value.ref (34 + 2 * q)), some (Value.ref (34 + 2 * o))] []) Q) → (¬ sso s q = sso s o → Q (some (.int (-13))) (am_mem L ext tx tt fe I G)) → wp (am_R 2047 122 0 (am_mem L ext tx tt fe I G) [some (Value.ref 5), some (Value.int (nI q)), some (Value.int v2), some (Value.int (nI o)), some (Value.int v4), some (Value.int v5), none, none] []) Q := by
          intro L ext tx tt fe I G Q hb k1 k2
          refine c1 hb (wp_e e_122_10 (wp_t (bI_f ho0) (wp_e e_122_12 (wp_c (by rw [kd_of (sp34 ho).1, kd_of (sp34 hq).1]; rfl) ?_))))
          rw [(hb.2.2.2.2.1 q hq).1, (hb.2.2.2.2.1 o ho).1]
          exact wp_i (fun e => k1 ((nIm q3 o3 hqp hop).mp e)) (fun e => wp_e e_122_13 (wp_r (k2 (fun z => e ((nIm q3 o3 hqp hop).mpr z)))))
        have m2 : ∀ {L ext tx tt fe I G} {Q : Option Value → am_M → Prop}, MJ s I → (sso s q = sso s o → wp (am_R 2047 203 10 (am_mem L ext tx tt fe I G) [some (Value.ref 55), some (Value.int (nI q)), some (Value.int v2), some (Value.int (nI o)), some (Value.int v4), some (Value.int v5), none, none, none] []) Q) → (¬ sso s q = sso s o → Q (some (.int (-13))) (am_mem L ext tx tt fe I G)) → wp (am_R 2047 203 0 (am_mem L ext tx tt fe I G) [some (Value.ref 55), some (Value.int (nI q)), some (Value.int v2), some (Value.int (nI o)), some (Value.int v4), some (Value.int v5), none, none, none] []) Q := by
          intro L ext tx tt fe I G Q hb k1 k2
          refine m1 hb (fun e => absurd e ho0) (fun _ => wp_e e_203_8 (wp_c (by rw [hob, hqb]; rfl) ?_))
          rw [hqc, hoc, ((hb.2.2.1 q hq).2 hqp).1, ((hb.2.2.1 o ho).2 hop).1]
          exact wp_i (fun e => k1 ((nIm q3 o3 hqp hop).mp e)) (fun e => wp_e e_203_9 (wp_r (k2 (fun z => e ((nIm q3 o3 hqp hop).mpr z)))))
        by_cases hso : sso s q = sso s o
        · have c3 : ∀ {L ext tx tt fe I G} {Q : Option Value → am_M → Prop}, CB s L ext tx tt fe I → (hal (ssz s q) v2 v5 → hal (ssz s o) v4 v5 → wp (am_R 2047 122 19 (am_mem L ext tx tt fe I G) [some (Value.ref 5), some (Value.int (nI q)), some (Value.int v2), some (Value.int (nI o)), some (Value.int v4), some (Value.int v5), some (Value.ref (34 + 2 * q)), some (Value.ref (34 + 2 * o))] []) Q) → (¬ (hal (ssz s q) v2 v5 ∧ hal (ssz s o) v4 v5) → Q (some (.int (-12))) (am_mem L ext tx tt fe I G)) → wp (am_R 2047 122 0 (am_mem L ext tx tt fe I G) [some (Value.ref 5), some (Value.int (nI q)), some (Value.int v2), some (Value.int (nI o)), some (Value.int v4), some (Value.int v5), none, none] []) Q := by
            intro L ext tx tt fe I G Q hb k1 k2
            have fin : ¬ (hal (ssz s q) v2 v5 ∧ hal (ssz s o) v4 v5) → wp (am_R 2047 122 18 (am_mem L ext tx tt fe I G) [some (Value.ref 5), some (Value.int (nI q)), some (Value.int v2), some (Value.int (nI o)), some (Value.int v4), some (Value.int v5), some (Value.ref (34 + 2 * q)), some (Value.ref (34 + 2 * o))] []) Q := fun e => wp_e e_122_18 (wp_r (k2 e))
            refine c2 hb (fun _ => wp_e e_122_14 (wp_c (by rw [kd_of (sp34 hq).1, h5q]; rfl) (wp_b (Q' := fun v M => (v = some (.int 1) ∧ hal (ssz s q) v2 v5 ∨ v = some (.int 0) ∧ ¬ hal (ssz s q) v2 v5) ∧ M = am_mem L ext tx tt fe I G) (c_43 hs hb.2.2.2.2.1 hq hqp (fun e => ⟨Or.inl ⟨rfl, e⟩, rfl⟩) (fun e => ⟨Or.inr ⟨rfl, e⟩, rfl⟩)) ?_))) (fun e => absurd hso e)
            rintro v M ⟨⟨rfl, g1⟩ | ⟨rfl, g1⟩, rfl⟩
            · refine wp_e e_122_15 (wp_f (by decide) (wp_e e_122_16 (wp_c (by rw [kd_of (sp34 ho).1, h5o]; rfl) (wp_b (Q' := fun v M => (v = some (.int 1) ∧ hal (ssz s o) v4 v5 ∨ v = some (.int 0) ∧ ¬ hal (ssz s o) v4 v5) ∧ M = am_mem L ext tx tt fe I G) (c_43 hs hb.2.2.2.2.1 ho hop (fun e => ⟨Or.inl ⟨rfl, e⟩, rfl⟩) (fun e => ⟨Or.inr ⟨rfl, e⟩, rfl⟩)) ?_))))
              rintro v M ⟨⟨rfl, g2⟩ | ⟨rfl, g2⟩, rfl⟩
              · exact wp_e e_122_17 (wp_f (by decide) (k1 g1 g2))
              · exact wp_e e_122_17 (wp_t rfl (fin (fun z => g2 z.2)))
            · exact wp_e e_122_15 (wp_t rfl (fin (fun z => g1 z.1)))
          have m3 : ∀ {L ext tx tt fe I G} {Q : Option Value → am_M → Prop}, MJ s I → (hal (ssz s q) v2 v5 → hal (ssz s o) v4 v5 → wp (am_R 2047 203 16 (am_mem L ext tx tt fe I G) [some (Value.ref 55), some (Value.int (nI q)), some (Value.int v2), some (Value.int (nI o)), some (Value.int v4), some (Value.int v5), none, none, none] []) Q) → (¬ (hal (ssz s q) v2 v5 ∧ hal (ssz s o) v4 v5) → Q (some (.int (-12))) (am_mem L ext tx tt fe I G)) → wp (am_R 2047 203 0 (am_mem L ext tx tt fe I G) [some (Value.ref 55), some (Value.int (nI q)), some (Value.int v2), some (Value.int (nI o)), some (Value.int v4), some (Value.int v5), none, none, none] []) Q := by
            intro L ext tx tt fe I G Q hb k1 k2
            have fin : ¬ (hal (ssz s q) v2 v5 ∧ hal (ssz s o) v4 v5) → wp (am_R 2047 203 15 (am_mem L ext tx tt fe I G) [some (Value.ref 55), some (Value.int (nI q)), some (Value.int v2), some (Value.int (nI o)), some (Value.int v4), some (Value.int v5), none, none, none] []) Q := fun e => wp_e e_203_15 (wp_r (k2 e))
            refine m2 hb (fun _ => wp_e e_203_10 (wp_i (fun e => fin (fun z => z.1.1 e)) (fun g1 => wp_e e_203_11 (wp_i (fun e => fin (fun z => z.1.2.1 e)) (fun g2 => wp_e e_203_12 (wp_i (fun e => fin (fun z => z.2.2.1 e)) (fun g3 => wp_e e_203_13 (wp_c (by rw [hqb]; rfl) ?_)))))))) (fun e => absurd hso e)
            rw [hqc, ((hb.2.2.1 q hq).2 hqp).2.1]
            refine wp_i (fun e => fin (fun z => z.1.2.2 e)) (fun g4 => wp_e e_203_14 (wp_c (by rw [hob]; rfl) ?_))
            rw [hoc, ((hb.2.2.1 o ho).2 hop).2.1]
            exact wp_i (fun e => fin (fun z => z.2.2.2 e)) (fun g5 => k1 ⟨g1, g2, g4⟩ ⟨g1, g3, g5⟩)
          by_cases hh : hal (ssz s q) v2 v5 ∧ hal (ssz s o) v4 v5
          · obtain ⟨a, m, rfl, rfl, ham⟩ := hal_n q40 hh.1
            obtain ⟨b, m', rfl, em, hbm⟩ := hal_n o40 hh.2
            rw [nI_eq (by omega) (by omega)] at em
            subst em
            have hx : sit (setI s o (cpi s q a o b m)) o = cpi s q a o b m := if_pos rfl
            have hy : ∀ q', q' ≠ o → sit (setI s o (cpi s q a o b m)) q' = sit s q' := fun q' e => if_neg e
            refine OP_g (s := s) (s' := setI s o (cpi s q a o b m)) (.int (nI m)) ⟨hs.1, hs.2.1, hs.2.2.1, hs.2.2.2.1, hs.2.2.2.2⟩ rfl rfl (fun L ext tx tt fe I G hb => c3 hb (fun _ _ => ?_) (fun e => absurd hh e)) (fun L ext tx tt fe I G hb => m3 hb (fun _ _ => ?_) (fun e => absurd hh e))
            · have w5q : Nat.ble 5 (35 + 2 * q) = true := Nat.ble_eq_true_of_le (by omega)
              have w5o : Nat.ble 5 (35 + 2 * o) = true := Nat.ble_eq_true_of_le (by omega)
              refine wp_e e_122_19 (wp_c (by rw [kd_of (sp34 hq).1]; rfl) ?_)
              rw [(Fx16 hq).2]
              refine wp_e e_122_20 (wp_c (by rw [kd_of (sp34 ho).1]; rfl) ?_)
              rw [(Fx16 ho).2]
              refine wp_e e_122_21 ?_
              rw [kd_of (sp34 hq).2, kd_of (sp34 ho).2, w5q, w5o, ln_of (sp34 hq).2, ln_of (sp34 ho).2, nI_clamp (n := a) (by omega), nI_clamp (n := b) (by omega), nI_clamp (n := m) (by omega), decide_eq_true (show ¬ nI a < 0 ∧ ¬ nI b < 0 ∧ ¬ nI m < 0 ∧ a + m ≤ 40 ∧ b + m ≤ 40 from ⟨nI_pos (by omega), nI_pos (by omega), nI_pos (by omega), by omega, by omega⟩)]
              refine wp_c rfl (wp_r ?_)
              have ff : fr [35 + 2 * o] I (am_u1 I (35 + 2 * o) (va_cpy (I (35 + 2 * q)) (I (35 + 2 * o)) a b m)) := fr_1 (by simp)
              refine ⟨rfl, tt, _, rfl, CB_i hs hb ff (fun x hx => by simp at hx; omega) (fun q' hq' => ?_), [35 + 2 * o], ff, fun x hx => by simp at hx; omega⟩
              obtain ⟨z1, z2⟩ := hb.2.2.2.2.1 q' hq'
              rw [u1_a (show 34 + 2 * q' ≠ 35 + 2 * o by omega)]
              refine ⟨z1, fun z => ⟨(z2 z).1, fun i hi => ?_⟩⟩
              have hi : i < ssz s q' := hi
              by_cases e : q' = o
              · subst e
                rw [u1_s, hx]
                unfold cpi
                by_cases e2 : b ≤ i ∧ i < b + m
                · rw [if_pos e2, pk_cpy_in e2.1 e2.2]
                  exact ((hb.2.2.2.2.1 q hq).2 hqp).2 _ (by omega)
                · rw [if_neg e2, pk_cpy_out (by omega)]
                  exact (z2 z).2 i hi
              · rw [u1_a (show 35 + 2 * q' ≠ 35 + 2 * o by omega), hy q' e]
                exact (z2 z).2 i hi
            · have hA : ∀ p, p < m → 40 * nI q + nI a + nI p = nI (40 * q + a + p) ∧ 40 * nI o + nI b + nI p = nI (40 * o + b + p) := fun p hp => by
                rw [show (40 : Int32) = nI 40 from rfl, pk_mul, pk_mul, nI_add, nI_add, nI_add, nI_add]
                exact ⟨rfl, rfl⟩
              have fin : ∀ J, fr [76] I J → (∀ x, J 76 x = if 40 * o + b ≤ x ∧ x < 40 * o + b + m then I 76 (40 * q + a + (x - (40 * o + b))) else I 76 x) → ∀ w, wp (am_R 2047 203 26 (am_mem L ext tx tt fe J G) [some (Value.ref 55), some (Value.int (nI q)), some (Value.int (nI a)), some (Value.int (nI o)), some (Value.int (nI b)), some (Value.int (nI m)), some (Value.int w), some (Value.int (nI m)), none] []) (fun v M => v = some (.int (nI m)) ∧ ∃ I' G', M = am_mem L ext tx tt fe I' G' ∧ MJ (setI s o (cpi s q a o b m)) I' ∧ ∃ S : List Nat, fr S I I' ∧ ∀ a, a ∈ S → 55 ≤ a ∧ a ≤ 76) := by
                intro J ff z76 w
                refine wp_e e_203_26 (wp_r ⟨rfl, J, G, rfl, MJ_i hb ff (fun q' hq' => ?_), [76], ff, by decide⟩)
                obtain ⟨z1, z2⟩ := hb.2.2.1 q' hq'
                have hsz := (hs.2.2.1 q' hq').2
                rw [ff 73 (by decide), ff 74 (by decide), ff 75 (by decide)]
                refine ⟨z1, fun z => ⟨(z2 z).1, (z2 z).2.1, fun i hi => ?_⟩⟩
                have hi : i < ssz s q' := hi
                rw [z76]
                by_cases e : q' = o
                · subst e
                  rw [hx]
                  unfold cpi
                  by_cases e2 : b ≤ i ∧ i < b + m
                  · rw [if_pos e2, if_pos (by omega), show 40 * q + a + (40 * q' + i - (40 * q' + b)) = 40 * q + (a + (i - b)) by omega]
                    exact ((hb.2.2.1 q hq).2 hqp).2.2 _ (by omega)
                  · rw [if_neg e2, if_neg (by omega)]
                    exact (z2 z).2.2 i hi
                · rw [hy q' e, if_neg (by omega)]
                  exact (z2 z).2.2 i hi
              have down : ¬ (q = o ∧ a < b) → wp (am_R 2047 203 19 (am_mem L ext tx tt fe I G) [some (Value.ref 55), some (Value.int (nI q)), some (Value.int (nI a)), some (Value.int (nI o)), some (Value.int (nI b)), some (Value.int (nI m)), none, none, none] []) (fun v M => v = some (.int (nI m)) ∧ ∃ I' G', M = am_mem L ext tx tt fe I' G' ∧ MJ (setI s o (cpi s q a o b m)) I' ∧ ∃ S : List Nat, fr S I I' ∧ ∀ a, a ∈ S → 55 ≤ a ∧ a ≤ 76) := by
                intro hnu
                refine wp_e e_203_19 (wp_e e_203_20 ?_)
                refine wp_loop m (fun k (J : Nat → Nat → Int32) => fr [76] I J ∧ ∀ x, J 76 x = if 40 * o + b ≤ x ∧ x < 40 * o + b + k then I 76 (40 * q + a + (x - (40 * o + b))) else I 76 x) (fun k J => wp (am_R 2047 203 21 (am_mem L ext tx tt fe J G) [some (Value.ref 55), some (Value.int (nI q)), some (Value.int (nI a)), some (Value.int (nI o)), some (Value.int (nI b)), some (Value.int (nI m)), some (Value.int 0), some (Value.int (nI k)), none] []) _) ?_ ?_ 0 I (Nat.zero_le _) ⟨fr_r _ _, fun x => by rw [if_neg (by omega)]⟩
                · rintro J ⟨ff, z76⟩
                  exact wp_e e_203_21 (wp_f (nI_nlt (Nat.le_refl _) (by omega)) (fin J ff z76 0))
                · rintro k J hk ⟨ff, z76⟩ hgo
                  refine wp_e e_203_21 (wp_t (nI_lt hk (by omega)) (wp_e e_203_22 (wp_t rfl (wp_e e_203_24 (wp_e e_203_25 ?_)))))
                  rw [(hA k hk).1, (hA k hk).2, ib (n := 40 * o + b + k) (N := 160) (by omega) (by decide), ib (n := 40 * q + a + k) (N := 160) (by omega) (by decide), nI_clamp (n := 40 * o + b + k) (by omega), nI_clamp (n := 40 * q + a + k) (by omega), nI_1]
                  refine wp_c rfl (wp_l (lq_e (lq_e (lq_e (lq_e (lq_e (lq_e (lq_e (lq_e (lq_n lq_0))))))))) (hgo _ ⟨fr_t ff (fr_2 (by decide)), fun x => ?_⟩))
                  rw [u2_k, z76 x, z76 (40 * q + a + k), if_neg (c := 40 * o + b ≤ 40 * q + a + k ∧ 40 * q + a + k < 40 * o + b + k) (by omega)]
                  by_cases e : x = 40 * o + b + k
                  · rw [if_pos e, if_pos (by omega), e, show 40 * o + b + k - (40 * o + b) = k by omega]
                  · rw [if_neg e]
                    by_cases e2 : 40 * o + b ≤ x ∧ x < 40 * o + b + k
                    · rw [if_pos e2, if_pos (by omega)]
                    · rw [if_neg e2, if_neg (by omega)]
              refine wp_e e_203_16 (wp_i (fun e => wp_e e_203_17 (wp_i (fun e2 => wp_e e_203_18 (wp_e e_203_20 ?_)) (fun e2 => down (fun z => e2 (nI_lt z.2 (by omega)))))) (fun e => down (fun z => e (by rw [z.1]))))
              have eqo : q = o := (nI_eq (by omega) (by omega)).mp e
              have eab : a < b := (nI_ltI (by omega) (by omega)).mp e2
              refine wp_loop m (fun k (J : Nat → Nat → Int32) => fr [76] I J ∧ ∀ x, J 76 x = if 40 * o + b + (m - k) ≤ x ∧ x < 40 * o + b + m then I 76 (40 * q + a + (x - (40 * o + b))) else I 76 x) (fun k J => wp (am_R 2047 203 21 (am_mem L ext tx tt fe J G) [some (Value.ref 55), some (Value.int (nI q)), some (Value.int (nI a)), some (Value.int (nI o)), some (Value.int (nI b)), some (Value.int (nI m)), some (Value.int 1), some (Value.int (nI k)), none] []) _) ?_ ?_ 0 I (Nat.zero_le _) ⟨fr_r _ _, fun x => by rw [if_neg (by omega)]⟩
              · rintro J ⟨ff, z76⟩
                refine wp_e e_203_21 (wp_f (nI_nlt (Nat.le_refl _) (by omega)) (fin J ff (fun x => ?_) 1))
                rw [z76, Nat.sub_self, Nat.add_zero]
              · rintro k J hk ⟨ff, z76⟩ hgo
                refine wp_e e_203_21 (wp_t (nI_lt hk (by omega)) (wp_e e_203_22 (wp_f (by decide) (wp_e e_203_23 (wp_e e_203_25 ?_)))))
                rw [n1, pk_sub (a := m) (b := 1) (by omega), pk_sub (a := m - 1) (b := k) (by omega), (hA (m - 1 - k) (by omega)).1, (hA (m - 1 - k) (by omega)).2, ib (n := 40 * o + b + (m - 1 - k)) (N := 160) (by omega) (by decide), ib (n := 40 * q + a + (m - 1 - k)) (N := 160) (by omega) (by decide), nI_clamp (n := 40 * o + b + (m - 1 - k)) (by omega), nI_clamp (n := 40 * q + a + (m - 1 - k)) (by omega), ← n1, nI_1]
                refine wp_c rfl (wp_l (lq_e (lq_e (lq_e (lq_e (lq_e (lq_e (lq_e (lq_e (lq_n lq_0))))))))) (hgo _ ⟨fr_t ff (fr_2 (by decide)), fun x => ?_⟩))
                rw [u2_k, z76 x, z76 (40 * q + a + (m - 1 - k)), if_neg (c := 40 * o + b + (m - k) ≤ 40 * q + a + (m - 1 - k) ∧ 40 * q + a + (m - 1 - k) < 40 * o + b + m) (by omega)]
                by_cases e : x = 40 * o + b + (m - 1 - k)
                · rw [if_pos e, if_pos (by omega), e, show 40 * o + b + (m - 1 - k) - (40 * o + b) = m - 1 - k by omega]
                · rw [if_neg e]
                  by_cases e2 : 40 * o + b + (m - k) ≤ x ∧ x < 40 * o + b + m
                  · rw [if_pos e2, if_pos (by omega)]
                  · rw [if_neg e2, if_neg (by omega)]
          · exact OP_q hs (.int (-12)) (fun L ext tx tt fe I G hb => c3 hb (fun g1 g2 => absurd ⟨g1, g2⟩ hh) (fun _ => qc_of (fr_r _ _))) (fun L ext tx tt fe I G hb => m3 hb (fun g1 g2 => absurd ⟨g1, g2⟩ hh) (fun _ => qm_of (mf_r _ _ _)))
        · exact OP_q hs (.int (-13)) (fun L ext tx tt fe I G hb => c2 hb (fun e => absurd e hso) (fun _ => qc_of (fr_r _ _))) (fun L ext tx tt fe I G hb => m2 hb (fun e => absurd e hso) (fun _ => qm_of (mf_r _ _ _)))
  · refine OP_q hs (.int (-2)) (fun L ext tx tt fe I G hb => ?_) (fun L ext tx tt fe I G hb => ?_)
    · have fin : wp (am_R 2047 122 4 (am_mem L ext tx tt fe I G) [some (Value.ref 5), some (Value.int v1), some (Value.int v2), some (Value.int v3), some (Value.int v4), some (Value.int v5), none, none] []) (qC L ext tx fe I G (.int (-2))) := wp_e e_122_4 (wp_r (qc_of (fr_r _ _)))
      exact wp_e e_122_0 (wp_p s_125 (wp_e e_122_1 (wp_i (fun _ => fin) (fun h1 => wp_e e_122_2 (wp_p s_125 (wp_e e_122_3 (wp_i (fun _ => fin) (fun h2 => absurd ⟨bI_n h1, bI_n h2⟩ h))))))))
    · have fin : wp (am_R 2047 203 4 (am_mem L ext tx tt fe I G) [some (Value.ref 55), some (Value.int v1), some (Value.int v2), some (Value.int v3), some (Value.int v4), some (Value.int v5), none, none, none] []) (qM L ext tx tt fe I (.int (-2))) := wp_e e_203_4 (wp_r (qm_of (mf_r _ _ _)))
      exact wp_e e_203_0 (wp_p s_200 (wp_e e_203_1 (wp_i (fun _ => fin) (fun h1 => wp_e e_203_2 (wp_p s_200 (wp_e e_203_3 (wp_i (fun _ => fin) (fun h2 => absurd ⟨i3 (bI_n h1), i3 (bI_n h2)⟩ h))))))))
