/-! PURE, 37: TAKEN -/
/-- whether a kind is under another (or is it), within f steps -/
def ansk : Nat → Int32 → Int32 → Bool
  | 0, _, _ => false
  | f + 1, x, a => if x = -1 then false else if x = a then true else ansk f (sm_un.getD x.toNatClampNeg 0) a
def dpk (x : Int32) : Nat := if x = -1 then 0 else if x = 0 then 1 else if x = 1 then 2 else if x = 2 then 2 else 3
def okk (x : Int32) : Prop := x = -1 ∨ ∃ k, k < 6 ∧ x = nI k
theorem unk {k : Nat} (hk : k < 6) : okk (sm_un.getD k 0) ∧ dpk (sm_un.getD k 0) < dpk (nI k) := by
  obtain rfl | rfl | rfl | rfl | rfl | rfl : k = 0 ∨ k = 1 ∨ k = 2 ∨ k = 3 ∨ k = 4 ∨ k = 5 := by omega
  · exact ⟨Or.inl rfl, by decide⟩
  · exact ⟨Or.inr ⟨0, by decide, rfl⟩, by decide⟩
  · exact ⟨Or.inr ⟨0, by decide, rfl⟩, by decide⟩
  · exact ⟨Or.inr ⟨1, by decide, rfl⟩, by decide⟩
  · exact ⟨Or.inr ⟨2, by decide, rfl⟩, by decide⟩
  · exact ⟨Or.inr ⟨1, by decide, rfl⟩, by decide⟩
theorem nIm1 {k : Nat} (hk : k < 6) : ¬ nI k = -1 := fun e => nI_pos (n := k) (by omega) (by rw [e]; decide)
section B37
variable {d L : Nat} {ext : List (Nat × Nat)} {tx : Nat → Nat} {tt : Nat} {fe : Nat → Nat → Option Nat} {I : Nat → Nat → Int32} {G : Nat → Nat → Int64}
theorem s_2l {p : Nat} {a : Int32} (hu : UW I) : ∀ (f j : Nat) (x : Int32), j + f = 6 → okk x → wp (am_R (d + 1) 2 1 (am_mem L ext tx tt fe I G) [some (Value.ref p), some (Value.int a), some (Value.int x), some (Value.int (nI j))] []) (fun v M => v = some (.int (if ansk f x a = true then 1 else 0)) ∧ M = (am_mem L ext tx tt fe I G)) := by
  intro f
  induction f with
  | zero =>
    intro j x hj hx
    have : j = 6 := by omega
    subst this
    exact wp_e e_2_1 (wp_f (by decide) (wp_e e_2_7 (wp_r ⟨rfl, rfl⟩)))
  | succ f ih =>
    intro j x hj hx
    refine wp_e e_2_1 (wp_t (show nI j < 6 from nI_lt (b := 6) (by omega) (by decide)) (wp_e e_2_2 (wp_p s_79 (wp_e e_2_3 ?_))))
    rcases hx with rfl | ⟨k, hk, rfl⟩
    · exact wp_t (bI_f (by decide)) (wp_e e_2_7 (wp_r ⟨rfl, rfl⟩))
    · have hr : ¬ nI k < 0 ∧ nI k < (6 : Int32) := ⟨nI_pos (by omega), nI_lt (b := 6) hk (by decide)⟩
      refine wp_f (bI_y hr) (wp_e e_2_4 (wp_i (fun e => wp_e e_2_5 (wp_r ⟨?_, rfl⟩)) (fun e => wp_e e_2_6 (wp_c (by rw [ib hk (by decide)]; rfl) ?_))))
      · rw [show ansk (f + 1) (nI k) a = true by unfold ansk; rw [if_neg (nIm1 hk), if_pos e]]
        rfl
      · rw [nI_1, nI_clamp (n := k) (by omega), hu k hk]
        rw [show ansk (f + 1) (nI k) a = ansk f (sm_un.getD k 0) a by
          show (if nI k = -1 then false else if nI k = a then true else ansk f (sm_un.getD (nI k).toNatClampNeg 0) a) = _
          rw [if_neg (nIm1 hk), if_neg e, nI_clamp (n := k) (by omega)]]
        exact ih (j + 1) _ (by omega) (unk hk).1
theorem s_205 {k : Nat} (hk : k < 6) : (am_R (d) 205 0 (am_mem L ext tx tt fe I G) [some (Value.int (nI k))] []) = some (some (.int (sm_un.getD k 0)), (am_mem L ext tx tt fe I G)) := by
  obtain rfl | rfl | rfl | rfl | rfl | rfl : k = 0 ∨ k = 1 ∨ k = 2 ∨ k = 3 ∨ k = 4 ∨ k = 5 := by omega
  · exact wp_eq (wp_e e_205_0 (wp_t rfl (wp_e e_205_1 (wp_e e_205_8 (wp_r ⟨rfl, rfl⟩)))))
  · exact wp_eq (wp_e e_205_0 (wp_f (by decide) (wp_e e_205_2 (wp_f (by decide) (wp_e e_205_4 (wp_f (by decide) (wp_e e_205_5 (wp_f (by decide) (wp_e e_205_7 (wp_e e_205_8 (wp_r ⟨rfl, rfl⟩)))))))))))
  · exact wp_eq (wp_e e_205_0 (wp_f (by decide) (wp_e e_205_2 (wp_f (by decide) (wp_e e_205_4 (wp_f (by decide) (wp_e e_205_5 (wp_f (by decide) (wp_e e_205_7 (wp_e e_205_8 (wp_r ⟨rfl, rfl⟩)))))))))))
  · exact wp_eq (wp_e e_205_0 (wp_f (by decide) (wp_e e_205_2 (wp_f (by decide) (wp_e e_205_4 (wp_t rfl (wp_e e_205_6 (wp_e e_205_8 (wp_r ⟨rfl, rfl⟩)))))))))
  · exact wp_eq (wp_e e_205_0 (wp_f (by decide) (wp_e e_205_2 (wp_t rfl (wp_e e_205_3 (wp_e e_205_8 (wp_r ⟨rfl, rfl⟩)))))))
  · exact wp_eq (wp_e e_205_0 (wp_f (by decide) (wp_e e_205_2 (wp_f (by decide) (wp_e e_205_4 (wp_f (by decide) (wp_e e_205_5 (wp_t rfl (wp_e e_205_6 (wp_e e_205_8 (wp_r ⟨rfl, rfl⟩)))))))))))
theorem s_206l {p a : Nat} {n : Int32} (hp : p < 6) (ha : a < 6) (hn : I 61 p = n) : ∀ (f : Nat) (x : Int32), dpk x ≤ f → okk x → wp (am_R (d + 1) 206 7 (am_mem L ext tx tt fe I G) [some (Value.ref 55), some (Value.int (nI p)), some (Value.int (nI a)), some (Value.int x)] []) (fun v M => v = some (.int (if ansk f x (nI a) = true then n else -13)) ∧ M = (am_mem L ext tx tt fe I G)) := by
  intro f
  induction f with
  | zero =>
    intro x hd hx
    rcases hx with rfl | ⟨k, hk, rfl⟩
    · exact wp_e e_206_7 (wp_t rfl (wp_e e_206_11 (wp_f (fun e => nIm1 ha e.symm) (wp_e e_206_13 (wp_e e_206_14 (wp_r ⟨rfl, rfl⟩))))))
    · have := (unk hk).2
      omega
  | succ f ih =>
    intro x hd hx
    rcases hx with rfl | ⟨k, hk, rfl⟩
    · exact wp_e e_206_7 (wp_t rfl (wp_e e_206_11 (wp_f (fun e => nIm1 ha e.symm) (wp_e e_206_13 (wp_e e_206_14 (wp_r ⟨rfl, rfl⟩))))))
    · refine wp_e e_206_7 (wp_f (nIm1 hk) (wp_e e_206_8 (wp_i (fun e => wp_e e_206_11 (wp_t e (wp_e e_206_12 (wp_c (by rw [ib hp (by decide)]; rfl) (wp_e e_206_14 (wp_r ⟨?_, rfl⟩)))))) (fun e => wp_e e_206_9 (wp_p (s_205 hk) (wp_e e_206_10 ?_))))))
      · rw [show ansk (f + 1) (nI k) (nI a) = true by unfold ansk; rw [if_neg (nIm1 hk), if_pos e], nI_clamp (n := p) (by omega), hn]
        rfl
      · rw [show ansk (f + 1) (nI k) (nI a) = ansk f (sm_un.getD k 0) (nI a) by
          show (if nI k = -1 then false else if nI k = nI a then true else ansk f (sm_un.getD (nI k).toNatClampNeg 0) (nI a)) = _
          rw [if_neg (nIm1 hk), if_neg e, nI_clamp (n := k) (by omega)]]
        have := (unk hk).2
        exact ih _ (by omega) (unk hk).1
end B37
/-- TAKEN -/
theorem op_taken {s : St} (hs : Sok s) {a b : Int32} : OP s (fun M => (am_R (2047) 124 0 M [some (Value.ref 5), some (Value.int a), some (Value.int b)] [])) (fun M => (am_R (2047) 206 0 M [some (Value.ref 55), some (Value.int a), some (Value.int b), none] [])) := by
  have P6 := hs.1.2.2.2.1
  have i5 : (¬ b < 0 ∧ b < (6 : Int32)) ↔ (¬ b < 0 ∧ ¬ nI 5 < b) := by
    rw [show (6 : Int32) = nI 6 from rfl]
    constructor
    · intro q
      obtain ⟨j, j1, rfl⟩ := ix_lt (by decide) q
      exact ⟨q.1, nI_nlt (by omega) (by decide)⟩
    · intro q
      obtain ⟨j, j1, rfl⟩ := ix_le (by decide) q
      exact ⟨q.1, nI_lt (by omega) (by decide)⟩
  by_cases hb2 : ¬ b < 0 ∧ b < (6 : Int32)
  · by_cases h : ¬ a < 0 ∧ a < nI (sPn s)
    · obtain ⟨p, hp, rfl⟩ := ix_lt (by omega) h
      obtain ⟨q, hq, rfl⟩ := ix_lt (n := 6) (by decide) hb2
      have hib := ib (n := p) (N := 6) (by omega) (by decide)
      have hcl := nI_clamp (n := p) (by omega)
      have hkd := (hs.1.2.2.2.2.2.2.2.1 p hp).1
      have hok : okk (nI (skd s p)) := Or.inr ⟨_, hkd, rfl⟩
      refine OP_q hs (.int (if ansk 6 (nI (skd s p)) (nI q) = true then nI (snu s p) else -13)) (fun L ext tx tt fe I G hb => ?_) (fun L ext tx tt fe I G hb => ?_)
      · obtain ⟨b1, b2, b3, b4, b5, b6, b7, b8⟩ := hb.2.1
        have hsp := sp28 (L := L) (ext := ext) (p := p) (by omega)
        have h5p : Nat.ble 5 (28 + p) = true := Nat.ble_eq_true_of_le (by omega)
        refine wp_e e_124_0 (wp_p s_79 (wp_e e_124_1 (wp_f (bI_y hb2) (wp_e e_124_3 (wp_p s_78 (wp_e e_124_4 (wp_f (bI_y (by rw [b3]; exact h)) (wp_e e_124_6 (wp_c (by rw [hib]; rfl) ?_)))))))))
        rw [hcl, Fx8 (by omega)]
        have r2 : wp (am_R 2046 2 0 (am_mem L ext tx tt fe I G) [some (Value.ref (28 + p)), some (Value.int (nI q)), none, none] []) (fun v M => v = some (.int (if ansk 6 (nI (skd s p)) (nI q) = true then 1 else 0)) ∧ M = am_mem L ext tx tt fe I G) := by
          refine wp_e e_2_0 (wp_c (by rw [kd_of hsp]; rfl) ?_)
          rw [(b8 p hp).1]
          exact s_2l (d := 2045) hb.1.2 6 0 _ rfl hok
        refine wp_e e_124_7 (wp_c (by rw [kd_of hsp, h5p]; rfl) (wp_b r2 ?_))
        · rintro v M ⟨rfl, rfl⟩
          refine wp_e e_124_8 ?_
          by_cases e : ansk 6 (nI (skd s p)) (nI q) = true
          · rw [if_pos (c := ansk 6 (nI (skd s p)) (nI q) = true) (t := nI (snu s p)) e, if_pos (c := ansk 6 (nI (skd s p)) (nI q) = true) (t := (1 : Int32)) e]
            refine wp_f (by decide) (wp_e e_124_9 (wp_c (by rw [hib]; rfl) ?_))
            rw [hcl, Fx8 (by omega)]
            refine wp_e e_124_10 (wp_c (by rw [kd_of hsp]; rfl) (wp_e e_124_12 (wp_r ?_)))
            rw [(b8 p hp).2]
            exact qc_of (fr_r _ _)
          · rw [if_neg (c := ansk 6 (nI (skd s p)) (nI q) = true) (t := nI (snu s p)) e, if_neg (c := ansk 6 (nI (skd s p)) (nI q) = true) (t := (1 : Int32)) e]
            exact wp_t rfl (wp_e e_124_11 (wp_e e_124_12 (wp_r (qc_of (fr_r _ _)))))
      · have b9 := hb.1.2.2.2.2.2.2.2.2.1 p hp
        refine wp_e e_206_0 (wp_p s_127 (wp_e e_206_1 (wp_f (bI_y ((in_k (k := 5) (by decide)).mpr (i5.mp hb2))) (wp_e e_206_3 (wp_p (s_132 hb.1.2.2.1 (by omega)) (wp_e e_206_4 (wp_f (bI_y h) (wp_e e_206_6 (wp_c (by rw [hib]; rfl) ?_)))))))))
        rw [hcl, b9.1]
        refine wp_m (s_206l (d := 2046) (by omega) hq b9.2 6 _ ?_ hok) ?_
        · unfold dpk
          repeat' split
          all_goals decide
        · rintro v M ⟨rfl, rfl⟩
          exact qm_of (mf_r _ _ _)
    · refine OP_q hs (.int (-11)) (fun L ext tx tt fe I G hb => ?_) (fun L ext tx tt fe I G hb => ?_)
      · exact wp_e e_124_0 (wp_p s_79 (wp_e e_124_1 (wp_f (bI_y hb2) (wp_e e_124_3 (wp_p s_78 (wp_e e_124_4 (wp_t (bI_f (by rw [hb.2.1.2.2.1]; exact h)) (wp_e e_124_5 (wp_r (qc_of (fr_r _ _)))))))))))
      · exact wp_e e_206_0 (wp_p s_127 (wp_e e_206_1 (wp_f (bI_y ((in_k (k := 5) (by decide)).mpr (i5.mp hb2))) (wp_e e_206_3 (wp_p (s_132 hb.1.2.2.1 (by omega)) (wp_e e_206_4 (wp_t (bI_f h) (wp_e e_206_5 (wp_r (qm_of (mf_r _ _ _)))))))))))
  · refine OP_q hs (.int (-2)) (fun L ext tx tt fe I G hb => ?_) (fun L ext tx tt fe I G hb => ?_)
    · exact wp_e e_124_0 (wp_p s_79 (wp_e e_124_1 (wp_t (bI_f hb2) (wp_e e_124_2 (wp_r (qc_of (fr_r _ _)))))))
    · exact wp_e e_206_0 (wp_p s_127 (wp_e e_206_1 (wp_t (bI_f (fun e => hb2 (i5.mpr ((in_k (k := 5) (by decide)).mp e)))) (wp_e e_206_2 (wp_r (qm_of (mf_r _ _ _)))))))
