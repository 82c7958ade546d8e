/-! PURE, 45: FORGOTTEN -/
def fps (s : St) (b : Nat) : PS := itr (fbut (ss1 s) (ss2 s) (srow s) (nI b)) (sD s)
theorem fbut_ok {s d : SF} {row : Nat → Nat} {b : Int32} {N : Nat} (hs : rg s) (hd : rg d) (hN : N ≤ 100) (hr : ∀ k, k < N → row k < 4) : ∀ n, n ≤ N → PSok n (itr (fbut s d row b) n) := itr_ok N (fun k t hk h => by
  unfold fbut
  by_cases e : nI (row k) = b
  · rw [if_pos e]
    exact PSok_up h (by omega)
  · rw [if_neg e]
    exact pstep_ok (k := 0) hs hd (by omega) (by omega) (hr k hk) h)
section B45
variable {d L : Nat} {ext : List (Nat × Nat)} {tx : Nat → Nat} {tt : Nat} {fe : Nat → Nat → Option Nat} {I : Nat → Nat → Int32} {G : Nat → Nat → Int64}
theorem c_93 {s : St} (hs : Sok s) (h : CB s L ext tx tt fe I) {b : Nat} : wp (am_R (d + 4) 93 0 (am_mem L ext tx tt fe I G) [some (Value.ref 5), some (Value.int (nI b)), none] []) (fun v M => v = none ∧ ∃ I' tt', M = am_mem L ext tx tt' fe I' G ∧ fr FP I I' ∧ ∀ k, k < 4 → I' 47 k = (fps s b).2.1 k) := by
  refine wp_m (s_93 (d := d) (G := G) (b := nI b) (EW_of hs h)) ?_
  rintro v M ⟨rfl, I', rfl, f1, w1⟩
  exact ⟨rfl, I', _, rfl, f1, w1.2.2.2.2.2.2.1⟩
/-- the model's row but for a cup -/
theorem m_193 {s : St} (hs : Sok s) (h : MJ s I) (hn : NW I (ss1 s) (ss2 s)) {q b : Nat} {v2 : Int32} {Q : Option Value → am_M → Prop} (hd : 70 ≤ d) (hQ : ∀ I' G', mf SP TP I I' → NW I' (ss1 s) (ss2 s) → (∀ k, k < 4 → I' 66 k = (fps s b).2.1 k) → wp (am_R (d + 4) 193 12 (am_mem L ext tx tt fe I' G') [some (Value.ref 55), some (Value.int (nI q)), some (Value.int v2), some (Value.int (nI b)), some (Value.int (nI (sD s))), none] []) Q) : wp (am_R (d + 4) 193 6 (am_mem L ext tx tt fe I G) [some (Value.ref 55), some (Value.int (nI q)), some (Value.int v2), some (Value.int (nI b)), none, none] []) Q := by
  have hD := hs.1.1.2.2
  refine wp_e e_193_6 (wp_b s_162 ?_)
  rintro v M ⟨rfl, I2, rfl, f2, x3, x4, p2⟩
  refine wp_e e_193_7 ?_
  refine wp_loop (sD s) (fun k (J : (Nat → Nat → Int32) × (Nat → Nat → Int64)) => mf SP TP I J.1 ∧ NW J.1 (ss1 s) (ss2 s) ∧ psM J.1 (itr (fbut (ss1 s) (ss2 s) (srow s) (nI b)) k)) (fun k J => wp (am_R (d + 4) 193 8 (am_mem L ext tx tt fe J.1 J.2) [some (Value.ref 55), some (Value.int (nI q)), some (Value.int v2), some (Value.int (nI b)), some (Value.int (nI k)), none] []) Q) ?_ ?_ 0 (I2, G) (Nat.zero_le _) ⟨f2, NW_f hn x3 x4, p2⟩
  · rintro ⟨J, G3⟩ ⟨g3, w3, p3⟩
    have m3 := MW_f (MW_of hs h) g3 (by decide) (by decide) (by decide) (by decide) (by decide)
    refine wp_e e_193_8 ?_
    rw [m3.2.1]
    exact wp_f (nI_nlt (Nat.le_refl _) (by omega)) (hQ J G3 g3 w3 p3.2.1)
  · rintro k ⟨J, G3⟩ hk ⟨g3, w3, p3⟩ hgo
    have m3 := MW_f (MW_of hs h) g3 (by decide) (by decide) (by decide) (by decide) (by decide)
    have hkb := ib (n := k) (N := 24) (by omega) (by decide)
    have hrk : (J, G3).1 59 k = nI (srow s k) := by rw [g3.1 59 (by decide) (by decide)]; exact h.1.2.2.2.2.2.2.1 k (by omega)
    refine wp_e e_193_8 ?_
    rw [m3.2.1]
    refine wp_t (nI_lt hk (by omega)) (wp_e e_193_9 (wp_c (by rw [hkb]; rfl) ?_))
    rw [nI_clamp (n := k) (by omega), hrk]
    refine wp_i (fun e => wp_e e_193_11 ?_) (fun e => wp_e e_193_10 (wp_c (by rw [hkb]; rfl) ?_))
    · rw [nI_1]
      refine hgo (J, G3) ⟨g3, w3, ?_⟩
      show psM J (fbut _ _ (srow s) (nI b) k (itr _ k))
      unfold fbut
      rw [if_pos e]
      exact p3
    · rw [nI_clamp (n := k) (by omega), hrk]
      refine wp_b (s_163 (i := k) (k := 0) (N := k) (d := d) m3 w3 (by omega) (by omega) (row4 hs (by omega)) p3 (fbut_ok rg_s rg_s (N := 24) (by omega) (fun j hj => row4 hs hj) k (by omega)) (by omega)) ?_
      rintro v M ⟨rfl, I4, G4, rfl, g5, w4, p4⟩
      refine wp_e e_193_11 ?_
      rw [nI_1]
      refine hgo (I4, G4) ⟨mf_t g3 g5, w4, ?_⟩
      show psM I4 (fbut _ _ (srow s) (nI b) k (itr _ k))
      unfold fbut
      rw [if_neg e]
      exact p4
end B45
