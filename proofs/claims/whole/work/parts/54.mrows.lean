/-! PURE, 24: whole pourings, both sides -/
def frow (s d : SF) (row : Nat → Nat) (k : Nat) (t : PS) : PS := pstep s d k (row k) 0 t
def fby (s d : SF) (C kd q : Nat) (k : Nat) (t : PS) : PS := pstep s d k (gz C kd q k t.2.1) 0 t
def wby (s d : SF) (C kd q : Nat) (j : Nat) : Nat := gz C kd q j (itr (fby s d C kd q) j).2.1
def zq (seed : Int32) : Nat → Int32
  | 0 => seed
  | k + 1 => zq seed k * 1103515245 + 12345
def lot (z o : Int32) : Int32 := ((z.toUInt32 >>> ((10 : Int32).toUInt32 &&& Int32.toUInt32 31)).toInt32) - ((z.toUInt32 >>> ((10 : Int32).toUInt32 &&& Int32.toUInt32 31)).toInt32) / (o + 1) * (o + 1)
def flot (s d : SF) (row : Nat → Nat) (seed o : Int32) (k : Nat) (t : PS) : PS := pstep s d k (row k) (lot (zq seed (k + 1)) o) t
theorem lot_r {z : Int32} {o : Nat} (ho : o ≤ 20) : ∃ m, m ≤ 20 ∧ lot z (nI o) = nI m := by
  have h := pk_ushr z 10 10 (by decide)
  have hz : z.toBitVec.toNat < 2 ^ 32 := z.toBitVec.isLt
  have hq : z.toBitVec.toNat / 2 ^ 10 < 2 ^ 22 := by omega
  have e : (z.toUInt32 >>> ((10 : Int32).toUInt32 &&& Int32.toUInt32 31)).toInt32 = nI (z.toBitVec.toNat / 2 ^ 10) := by
    apply Int32.toBitVec_inj.mp
    apply BitVec.eq_of_toNat_eq
    rw [h, pk_tn (by omega)]
  unfold lot
  rw [e, nI_1, pk_rem (by omega) (by omega) (by omega)]
  exact ⟨_, by have := Nat.mod_lt (z.toBitVec.toNat / 2 ^ 10) (show 0 < o + 1 by omega); omega, rfl⟩
theorem itr_ok {F : Nat → PS → PS} (N : Nat) (h : ∀ k t, k < N → PSok k t → PSok (k + 1) (F k t)) : ∀ n, n ≤ N → PSok n (itr F n)
  | 0, _ => ps0_ok
  | n + 1, hn => h n _ (by omega) (itr_ok N h n (by omega))
theorem frow_ok {s d : SF} {row : Nat → Nat} {N : Nat} (hs : rg s) (hd : rg d) (hN : N ≤ 100) (hr : ∀ k, k < N → row k < 4) : ∀ n, n ≤ N → PSok n (itr (frow s d row) n) := itr_ok N (fun k t hk h => pstep_ok (k := 0) hs hd (by omega) (by omega) (hr k hk) h)
theorem fby_ok {s d : SF} {C kd q N : Nat} (hs : rg s) (hd : rg d) (h0 : 0 < C) (hC : C ≤ 4) (hN : N ≤ 100) : ∀ n, n ≤ N → PSok n (itr (fby s d C kd q) n) := itr_ok N (fun k t hk h => pstep_ok (k := 0) hs hd (by omega) (by omega) (Nat.lt_of_lt_of_le (gz_lt h0) hC) h)
theorem flot_ok {s d : SF} {row : Nat → Nat} {seed : Int32} {o N : Nat} (hs : rg s) (hd : rg d) (hN : N ≤ 100) (ho : o ≤ 20) (hr : ∀ k, k < N → row k < 4) : ∀ n, n ≤ N → PSok n (itr (flot s d row seed (nI o)) n) := itr_ok N (fun k t hk h => by
  obtain ⟨m, m1, m2⟩ := lot_r (z := zq seed (k + 1)) ho
  unfold flot
  rw [m2]
  exact pstep_ok hs hd m1 (by omega) (hr k hk) h)
theorem itr_c {F F' : Nat → PS → PS} : ∀ n, (∀ k t, k < n → F k t = F' k t) → itr F n = itr F' n
  | 0, _ => rfl
  | n + 1, h => by
    show F n (itr F n) = F' n (itr F' n)
    rw [itr_c n (fun k t hk => h k t (by omega)), h n _ (by omega)]
theorem fbut_row {s d : SF} {row : Nat → Nat} {n : Nat} (hr : ∀ k, k < n → row k < 4) : itr (fbut s d row (-1)) n = itr (frow s d row) n := itr_c n (fun k t hk => by
  unfold fbut frow
  rw [if_neg]
  intro e
  have := hr k hk
  exact nI_pos (n := row k) (by omega) (by rw [e]; decide))
section B24
variable {d L : Nat} {ext : List (Nat × Nat)} {tx : Nat → Nat} {tt : Nat} {fe : Nat → Nat → Option Nat} {I : Nat → Nat → Int32} {G : Nat → Nat → Int64}
theorem s_158 : wp (am_R (d) 158 0 (am_mem L ext tx tt fe I G) [some (Value.ref 55), none] []) (fun v M => v = none ∧ ∃ I', M = (am_mem L ext tx tt fe (I') G) ∧ fr [63, 64] I I' ∧ ∀ s dd, NW I' s dd) := by
  refine wp_e e_158_0 ?_
  refine wp_loop 9600 (fun k J => fr [63, 64] I J ∧ ∀ j, j < k → J 63 j = -1 ∧ J 64 j = -1) (fun k J => wp (am_R d 158 1 (am_mem L ext tx tt fe (J) G) [some (Value.ref 55), some (Value.int (nI k))] []) _) ?_ ?_ 0 I (by decide) ⟨fr_r _ _, fun j hj => absurd hj (Nat.not_lt_zero j)⟩
  · rintro J ⟨f1, h1⟩
    refine wp_e e_158_1 (wp_f (show ¬ nI 9600 < 9600 from by decide) (wp_e e_158_3 (wp_r ⟨rfl, J, rfl, f1, fun s dd i c f w hi hc hf hw => ?_⟩)))
    have := h1 (kno i c f w) (kno_lt hi hc hf hw)
    exact ⟨Or.inl this.1, Or.inl this.2⟩
  · rintro k J hk ⟨f1, h1⟩ hgo
    have hkb := ib (n := k) (N := 9600) hk (by decide)
    refine wp_e e_158_1 (wp_t (show nI k < 9600 from nI_lt (b := 9600) hk (by decide)) (wp_e e_158_2 (wp_c (by rw [hkb]; rfl) ?_)))
    rw [nI_1, nI_clamp (n := k) (by omega)]
    refine hgo _ ⟨fr_t f1 (fr_t (fr_2 (by decide)) (fr_2 (by decide))), fun j hj => ?_⟩
    rw [u2_a (show (63 : Nat) ≠ 64 by decide), u2_k, u2_k, u2_a (show (64 : Nat) ≠ 63 by decide)]
    by_cases e : j = k
    · rw [if_pos e, if_pos e]
      exact ⟨rfl, rfl⟩
    · rw [if_neg e, if_neg e]
      exact h1 j (by omega)
theorem s_162 : wp (am_R (d) 162 0 (am_mem L ext tx tt fe I G) [some (Value.ref 55), none] []) (fun v M => v = none ∧ ∃ I', M = (am_mem L ext tx tt fe (I') G) ∧ mf SP TP I I' ∧ I' 63 = I 63 ∧ I' 64 = I 64 ∧ psM I' ps0) := by
  refine wp_e e_162_0 ?_
  refine wp_loop 4 (fun k J => fr [65, 66] I J ∧ ∀ j, j < k → J 65 j = 0 ∧ J 66 j = 0) (fun k J => wp (am_R d 162 1 (am_mem L ext tx tt fe (J) G) [some (Value.ref 55), some (Value.int (nI k))] []) _) ?_ ?_ 0 I (by decide) ⟨fr_r _ _, fun j hj => absurd hj (Nat.not_lt_zero j)⟩
  · rintro J ⟨f1, h1⟩
    refine wp_e e_162_1 (wp_f (show ¬ nI 4 < 4 from by decide) (wp_e e_162_3 (wp_r ⟨rfl, _, rfl, mf_t ?_ (mf_t (mf_5 (k := 33) (by decide)) (mf_t (mf_5 (k := 34) (by decide)) (mf_5 (k := 35) (by decide)))), ?_, ?_, ?_⟩)))
    · exact ⟨fun a h5 hs => f1 a (fun e => hs (by unfold SP; simp at e ⊢; omega)), fun k _ => by rw [f1 55 (by decide)]⟩
    · rw [u2_a (by decide), u2_a (by decide), u2_a (by decide)]
      exact f1 63 (by decide)
    · rw [u2_a (by decide), u2_a (by decide), u2_a (by decide)]
      exact f1 64 (by decide)
    · refine ⟨fun k hk => ?_, fun k hk => ?_, ?_, ?_, ?_⟩
      · rw [u2_a (by decide), u2_a (by decide), u2_a (by decide)]
        exact (h1 k hk).1
      · rw [u2_a (by decide), u2_a (by decide), u2_a (by decide)]
        exact (h1 k hk).2
      · simp only [u2_k]; rfl
      · simp only [u2_k]; rfl
      · simp only [u2_k]; rfl
  · rintro k J hk ⟨f1, h1⟩ hgo
    have hkb := ib (n := k) (N := 4) hk (by decide)
    refine wp_e e_162_1 (wp_t (show nI k < 4 from nI_lt (b := 4) hk (by decide)) (wp_e e_162_2 (wp_c (by rw [hkb]; rfl) ?_)))
    rw [nI_1, nI_clamp (n := k) (by omega)]
    refine hgo _ ⟨fr_t f1 (fr_t (fr_2 (by decide)) (fr_2 (by decide))), fun j hj => ?_⟩
    rw [u2_a (show (65 : Nat) ≠ 66 by decide), u2_k, u2_k, u2_a (show (66 : Nat) ≠ 65 by decide)]
    by_cases e : j = k
    · rw [if_pos e, if_pos e]
      exact ⟨rfl, rfl⟩
    · rw [if_neg e, if_neg e]
      exact h1 j (by omega)
/-- forgets, begins -/
theorem psM_f {I' : Nat → Nat → Int32} {t : PS} (h : psM I t) (h5 : I' 65 = I 65) (h6 : I' 66 = I 66) (h3 : ∀ k, 33 ≤ k → k ≤ 35 → I' 55 k = I 55 k) : psM I' t := by
  obtain ⟨a, b, c, e, f⟩ := h
  exact ⟨by rw [h5]; exact a, by rw [h6]; exact b, by rw [h3 33 (by omega) (by omega)]; exact c, by rw [h3 34 (by omega) (by omega)]; exact e, by rw [h3 35 (by omega) (by omega)]; exact f⟩
/-- the model's row, poured -/
theorem s_165 {C D R n : Nat} {bt : Nat → Nat} {cs cd cl : List Int32} {row : Nat → Nat} (hm : MW I C D R bt n cs cd cl) (hr : ∀ k, k < D → I 59 k = nI (row k) ∧ row k < 4) (hd : 70 ≤ d) : wp (am_R (d + 4) 165 0 (am_mem L ext tx tt fe I G) [some (Value.ref 55), none] []) (fun v M => v = none ∧ ∃ I' G', M = am_mem L ext tx tt fe I' G' ∧ mf SP TP I I' ∧ psM I' (itr (frow (sS cs (nI D) (nI C)) (sS cd (nI D) (nI C)) row) D)) := by
  have hD : D ≤ 24 := hm.2.2.2.1.2.2.1
  refine wp_e e_165_0 (wp_b s_158 ?_)
  rintro v M ⟨rfl, I1, rfl, f1, w1⟩
  have g1 : mf SP TP I I1 := ⟨fun a h5 hs => f1 a (fun e => hs (by unfold SP; simp at e ⊢; omega)), fun k _ => by rw [f1 55 (by decide)]⟩
  refine wp_e e_165_1 (wp_b s_162 ?_)
  rintro v M ⟨rfl, I2, rfl, f2, x3, x4, p2⟩
  refine wp_e e_165_2 ?_
  refine wp_loop D (fun k (J : (Nat → Nat → Int32) × (Nat → Nat → Int64)) => mf SP TP I J.1 ∧ NW J.1 (sS cs (nI D) (nI C)) (sS cd (nI D) (nI C)) ∧ psM J.1 (itr (frow (sS cs (nI D) (nI C)) (sS cd (nI D) (nI C)) row) k)) (fun k J => wp (am_R (d + 4) 165 3 (am_mem L ext tx tt fe J.1 J.2) [some (Value.ref 55), some (Value.int (nI k))] []) _) ?_ ?_ 0 (I2, G) (Nat.zero_le _) ⟨mf_t g1 f2, NW_f (w1 _ _) x3 x4, p2⟩
  · rintro ⟨J, G3⟩ ⟨g3, w3, p3⟩
    have m3 := MW_f hm g3 (by decide) (by decide) (by decide) (by decide) (by decide)
    refine wp_e e_165_3 ?_
    rw [m3.2.1]
    exact wp_f (nI_nlt (Nat.le_refl _) (by omega)) (wp_e e_165_6 (wp_r ⟨rfl, J, G3, rfl, g3, p3⟩))
  · rintro k ⟨J, G3⟩ hk ⟨g3, w3, p3⟩ hgo
    have m3 := MW_f hm g3 (by decide) (by decide) (by decide) (by decide) (by decide)
    refine wp_e e_165_3 ?_
    rw [m3.2.1]
    refine wp_t (nI_lt hk (by omega)) (wp_e e_165_4 (wp_c (by rw [ib (n := k) (N := 24) (by omega) (by decide)]; rfl) ?_))
    rw [nI_clamp (n := k) (by omega), g3.1 59 (by decide) (by decide), (hr k hk).1]
    refine wp_b (s_163 (i := k) (k := 0) (N := k) (d := d) m3 w3 (by omega) (by omega) (hr k hk).2 p3 (frow_ok rg_s rg_s (by omega) (fun j hj => (hr j hj).2) k (by omega)) (by omega)) ?_
    rintro v M ⟨rfl, I4, G4, rfl, g4, w4, p4⟩
    refine wp_e e_165_5 ?_
    rw [nI_1]
    exact hgo (I4, G4) ⟨mf_t g3 g4, w4, p4⟩
/-- a pourer's, the model's -/
theorem s_185 {C D R n p kd q : Nat} {bt : Nat → Nat} {cs cd cl : List Int32} (hm : MW I C D R bt n cs cd cl) (hp : p < 6) (hkd : I 60 p = nI kd) (hk6 : kd < 6) (hq : I 61 p = nI q) (hq9 : q ≤ 9) (hd : 70 ≤ d) : wp (am_R (d + 4) 185 0 (am_mem L ext tx tt fe I G) [some (Value.ref 55), some (Value.int (nI p)), none] []) (fun v M => v = none ∧ ∃ I' G', M = am_mem L ext tx tt fe I' G' ∧ mf (67 :: SP) TP I I' ∧ psM I' (itr (fby (sS cs (nI D) (nI C)) (sS cd (nI D) (nI C)) C kd q) D) ∧ ∀ j, j < D → I' 67 j = nI (wby (sS cs (nI D) (nI C)) (sS cd (nI D) (nI C)) C kd q j)) := by
  have hm0 := hm
  obtain ⟨-, -, -, ⟨hC0, hC4, hD, hR⟩, -, -⟩ := hm0
  refine wp_e e_185_0 (wp_b s_158 ?_)
  rintro v M ⟨rfl, I1, rfl, f1, w1⟩
  have g1 : mf (67 :: SP) TP I I1 := ⟨fun a h5 hs => f1 a (fun e => hs (by unfold SP; simp at e ⊢; omega)), fun k _ => by rw [f1 55 (by decide)]⟩
  refine wp_e e_185_1 (wp_b s_162 ?_)
  rintro v M ⟨rfl, I2, rfl, f2, x3, x4, p2⟩
  refine wp_e e_185_2 ?_
  refine wp_loop D (fun k (J : (Nat → Nat → Int32) × (Nat → Nat → Int64)) => mf (67 :: SP) TP I J.1 ∧ NW J.1 (sS cs (nI D) (nI C)) (sS cd (nI D) (nI C)) ∧ psM J.1 (itr (fby (sS cs (nI D) (nI C)) (sS cd (nI D) (nI C)) C kd q) k) ∧ ∀ j, j < k → J.1 67 j = nI (wby (sS cs (nI D) (nI C)) (sS cd (nI D) (nI C)) C kd q j)) (fun k J => wp (am_R (d + 4) 185 3 (am_mem L ext tx tt fe J.1 J.2) [some (Value.ref 55), some (Value.int (nI p)), some (Value.int (nI k))] []) _) ?_ ?_ 0 (I2, G) (Nat.zero_le _) ⟨mf_t g1 (mf_m f2 (by decide) (by decide)), NW_f (w1 _ _) x3 x4, p2, fun j hj => absurd hj (Nat.not_lt_zero j)⟩
  · rintro ⟨J, G3⟩ ⟨g3, w3, p3, r3⟩
    have m3 := MW_f hm g3 (by decide) (by decide) (by decide) (by decide) (by decide)
    refine wp_e e_185_3 ?_
    rw [m3.2.1]
    exact wp_f (nI_nlt (Nat.le_refl _) (by omega)) (wp_e e_185_7 (wp_r ⟨rfl, J, G3, rfl, g3, p3, r3⟩))
  · rintro k ⟨J, G3⟩ hk ⟨g3, w3, p3, r3⟩ hgo
    have m3 := MW_f hm g3 (by decide) (by decide) (by decide) (by decide) (by decide)
    have hgz : gz C kd q k (J 66) = gz C kd q k (itr (fby (sS cs (nI D) (nI C)) (sS cd (nI D) (nI C)) C kd q) k).2.1 := gz_c hC0 (fun j hj => p3.2.1 j (by omega))
    have hlt : gz C kd q k (itr (fby (sS cs (nI D) (nI C)) (sS cd (nI D) (nI C)) C kd q) k).2.1 < 4 := Nat.lt_of_lt_of_le (gz_lt hC0) hC4
    refine wp_e e_185_3 ?_
    rw [m3.2.1]
    refine wp_t (nI_lt hk (by omega)) (wp_e e_185_4 (wp_p (s_184 (d := d + 2) (k := kd) (q := q) (i := k) hp m3.1 hC0 hC4 (by rw [g3.1 60 (by decide) (by decide)]; exact hkd) hk6 (by rw [g3.1 61 (by decide) (by decide)]; exact hq) hq9 (by omega)) (wp_e e_185_5 (wp_c (by rw [ib (n := k) (N := 24) (by omega) (by decide)]; rfl) ?_))))
    rw [nI_clamp (n := k) (by omega), u2_s, hgz]
    have g4 : mf (67 :: SP) TP J (am_u2 J 67 k (nI (gz C kd q k (itr (fby (sS cs (nI D) (nI C)) (sS cd (nI D) (nI C)) C kd q) k).2.1))) := mf_2 (by decide) (by decide)
    refine wp_b (s_163 (i := k) (k := 0) (N := k) (d := d) (MW_f m3 g4 (by decide) (by decide) (by decide) (by decide) (by decide)) (NW_f w3 (u2_a (by decide)) (u2_a (by decide))) (by omega) (by omega) hlt (psM_f p3 (u2_a (by decide)) (u2_a (by decide)) (fun _ _ _ => by rw [u2_a (show (55 : Nat) ≠ 67 by decide)])) (fby_ok rg_s rg_s hC0 hC4 (N := 24) (by omega) k (by omega)) (by omega)) ?_
    rintro v M ⟨rfl, I4, G4, rfl, g5, w4, p4⟩
    refine wp_e e_185_6 ?_
    rw [nI_1]
    refine hgo (I4, G4) ⟨mf_t g3 (mf_t g4 (mf_m g5 (by decide) (by decide))), w4, p4, fun j hj => ?_⟩
    show I4 67 j = _
    rw [g5.1 67 (by decide) (by decide), u2_k]
    by_cases e : j = k
    · rw [if_pos e, e]
      rfl
    · rw [if_neg e]
      exact r3 j (by omega)
/-- by lot, the model's -/
theorem s_194 {C D R n o : Nat} {bt : Nat → Nat} {cs cd cl : List Int32} {row : Nat → Nat} {seed : Int32} (hm : MW I C D R bt n cs cd cl) (hw : NW I (sS cs (nI D) (nI C)) (sS cd (nI D) (nI C))) (hr : ∀ k, k < 24 → I 59 k = nI (row k) ∧ row k < C) (ho : o ≤ 20) (hd : 70 ≤ d) : wp (am_R (d + 4) 194 0 (am_mem L ext tx tt fe I G) [some (Value.ref 55), some (Value.int seed), some (Value.int (nI o)), none, none] []) (fun v M => v = some (.int (un (itr (flot (sS cs (nI D) (nI C)) (sS cd (nI D) (nI C)) row seed (nI o)) D).2.1 C)) ∧ ∃ I' G', M = am_mem L ext tx tt fe I' G' ∧ mf SP TP I I' ∧ NW I' (sS cs (nI D) (nI C)) (sS cd (nI D) (nI C))) := by
  have hm0 := hm
  obtain ⟨-, -, -, ⟨hC0, hC4, hD, hR⟩, -, -⟩ := hm0
  refine wp_e e_194_0 (wp_b s_162 ?_)
  rintro v M ⟨rfl, I2, rfl, f2, x3, x4, p2⟩
  refine wp_e e_194_1 ?_
  refine wp_loop D (fun k (J : (Nat → Nat → Int32) × (Nat → Nat → Int64)) => mf SP TP I J.1 ∧ NW J.1 (sS cs (nI D) (nI C)) (sS cd (nI D) (nI C)) ∧ psM J.1 (itr (flot (sS cs (nI D) (nI C)) (sS cd (nI D) (nI C)) row seed (nI o)) k)) (fun k J => wp (am_R (d + 4) 194 2 (am_mem L ext tx tt fe J.1 J.2) [some (Value.ref 55), some (Value.int seed), some (Value.int (nI o)), some (Value.int (zq seed k)), some (Value.int (nI k))] []) _) ?_ ?_ 0 (I2, G) (Nat.zero_le _) ⟨f2, NW_f hw x3 x4, p2⟩
  · rintro ⟨J, G3⟩ ⟨g3, w3, p3⟩
    have m3 := MW_f hm g3 (by decide) (by decide) (by decide) (by decide) (by decide)
    refine wp_e e_194_2 ?_
    rw [m3.2.1]
    refine wp_f (nI_nlt (Nat.le_refl _) (by omega)) (wp_e e_194_5 (wp_p (s_164 m3.1 hC0 hC4) (wp_e e_194_6 (wp_r ⟨?_, J, G3, rfl, g3, w3⟩))))
    rw [un_c hC0 (fun j hj => p3.2.1 j (by omega))]
  · rintro k ⟨J, G3⟩ hk ⟨g3, w3, p3⟩ hgo
    have m3 := MW_f hm g3 (by decide) (by decide) (by decide) (by decide) (by decide)
    have hrk := hr k (by omega)
    obtain ⟨m, m1, m2⟩ := lot_r (z := zq seed (k + 1)) ho
    refine wp_e e_194_2 ?_
    rw [m3.2.1]
    refine wp_t (nI_lt hk (by omega)) (wp_e e_194_3 (wp_c (by rw [ib (n := k) (N := 24) (by omega) (by decide), nI_1, nz (by omega) (by omega)]; rfl) ?_))
    rw [nI_clamp (n := k) (by omega), g3.1 59 (by decide) (by decide), hrk.1]
    rw [show (((zq seed k * 1103515245 + 12345).toUInt32 >>> ((10 : Int32).toUInt32 &&& Int32.toUInt32 31)).toInt32) - (((zq seed k * 1103515245 + 12345).toUInt32 >>> ((10 : Int32).toUInt32 &&& Int32.toUInt32 31)).toInt32) / (nI o + 1) * (nI o + 1) = nI m from m2]
    refine wp_b (s_163 (i := k) (k := m) (N := k) (d := d) m3 w3 (by omega) (by omega) (by omega) p3 (flot_ok rg_s rg_s (N := 24) (by omega) ho (fun j hj => Nat.lt_of_lt_of_le (hr j hj).2 hC4) k (by omega)) (by omega)) ?_
    rintro v M ⟨rfl, I4, G4, rfl, g5, w4, p4⟩
    refine wp_e e_194_4 ?_
    rw [nI_1]
    refine hgo (I4, G4) ⟨mf_t g3 g5, w4, ?_⟩
    show psM I4 (flot _ _ row seed (nI o) k (itr _ k))
    unfold flot
    rw [m2]
    exact p4
/-- a pourer's, the class's -/
theorem s_104 {C D R p kd q : Nat} {row : Nat → Nat} {cs cd cl : List Int32} (hw : EW L ext tx tt fe I C D R row cs cd cl) (hp : 28 ≤ p ∧ p ≤ 33) (hkd : I p 0 = nI kd) (hk6 : kd < 6) (hq : I p 1 = nI q) (hq9 : q ≤ 9) : wp (am_R (d + 4) 104 0 (am_mem L ext tx tt fe I G) [some (Value.ref 5), some (Value.ref p), none, none] []) (fun v M => v = none ∧ ∃ I', M = am_mem L ext tx (tx R) fe I' G ∧ fr (21 :: FP) I I' ∧ PW L ext tx (tx R) fe I' (nI C) (nI D) cs cd cl (itr (fby (sS cs (nI D) (nI C)) (sS cd (nI D) (nI C)) C kd q) D) ∧ ∀ j, j < D → I' 21 j = nI (wby (sS cs (nI D) (nI C)) (sS cd (nI D) (nI C)) C kd q j)) := by
  have hw0 := hw
  obtain ⟨h1, h2, h3, ⟨h0, hC4, hD24, hR6⟩, h5, h6⟩ := hw
  have hsp : (am_S0 L ++ ext)[p]? = some (1, 2) := by
    obtain ⟨a, b⟩ := hp
    obtain rfl | rfl | rfl | rfl | rfl | rfl : p = 28 ∨ p = 29 ∨ p = 30 ∨ p = 31 ∨ p = 32 ∨ p = 33 := by omega
    all_goals rfl
  have hs47 : (am_S0 L ++ ext)[47]? = some (20, 4) := rfl
  have hpf : p ∉ (21 :: FP) := by unfold FP; simp; omega
  refine wp_e e_104_0 ?_
  rw [h3]
  refine wp_c (by rw [ib hR6 (by decide)]; rfl) ?_
  rw [nI_clamp (by omega), Fx9 hR6]
  refine wp_e e_104_1 ?_
  rw [h1, h2]
  refine wp_b (s_8 h6) ?_
  rintro v M ⟨rfl, I1, rfl, f1, w1⟩
  refine wp_e e_104_2 ?_
  refine wp_loop D (fun k I1 => fr (21 :: FP) I I1 ∧ PW L ext tx (tx R) fe I1 (nI C) (nI D) cs cd cl (itr (fby (sS cs (nI D) (nI C)) (sS cd (nI D) (nI C)) C kd q) k) ∧ ∀ j, j < k → I1 21 j = nI (wby (sS cs (nI D) (nI C)) (sS cd (nI D) (nI C)) C kd q j)) (fun k I1 => wp (am_R (d + 4) 104 3 (am_mem L ext tx (tx R) fe I1 G) [some (Value.ref 5), some (Value.ref p), some (Value.int (nI k)), none] []) _) ?_ ?_ 0 I1 (Nat.zero_le _) ⟨fr_m f1 (by decide), w1, fun j hj => absurd hj (Nat.not_lt_zero j)⟩
  · rintro I1 ⟨f1, w1, r1⟩
    refine wp_e e_104_3 ?_
    rw [f1 5 (by decide), h2]
    exact wp_f (nI_nlt (Nat.le_refl _) (by omega)) (wp_e e_104_7 (wp_r ⟨rfl, I1, rfl, f1, w1, r1⟩))
  · rintro k I1 hk ⟨f1, w1, r1⟩ hgo
    have hkb := ib (n := k) (N := 24) (by omega) (by decide)
    have hgz : gz C kd q k (I1 47) = gz C kd q k (itr (fby (sS cs (nI D) (nI C)) (sS cd (nI D) (nI C)) C kd q) k).2.1 := gz_c h0 (fun j hj => w1.2.2.2.2.2.2.1 j (by omega))
    have hlt : gz C kd q k (itr (fby (sS cs (nI D) (nI C)) (sS cd (nI D) (nI C)) C kd q) k).2.1 < 4 := Nat.lt_of_lt_of_le (gz_lt h0) hC4
    refine wp_e e_104_3 ?_
    rw [f1 5 (by decide), h2]
    refine wp_t (nI_lt hk (by omega)) (wp_e e_104_4 (wp_c (by rw [kd_of hsp, Nat.ble_eq_true_of_le (show 5 ≤ p by omega)]; rfl) ?_))
    rw [f1 5 (by decide), h1]
    refine wp_p (s_3 (d := d + 1) (k := kd) (q := q) (i := k) hsp hs47 hC4 (by decide) h0 (by rw [f1 p hpf]; exact hkd) hk6 (by rw [f1 p hpf]; exact hq) hq9 (by omega)) (wp_e e_104_5 (wp_c (by rw [hkb]; rfl) ?_))
    rw [nI_clamp (n := k) (by omega), hgz]
    have f4 : fr [21] I1 (am_u2 I1 21 k (nI (gz C kd q k (itr (fby (sS cs (nI D) (nI C)) (sS cd (nI D) (nI C)) C kd q) k).2.1))) := fr_2 (by decide)
    have w4 : PW L ext tx (tx R) fe (am_u2 I1 21 k (nI (gz C kd q k (itr (fby (sS cs (nI D) (nI C)) (sS cd (nI D) (nI C)) C kd q) k).2.1))) (nI C) (nI D) cs cd cl (itr (fby (sS cs (nI D) (nI C)) (sS cd (nI D) (nI C)) C kd q) k) := by
      obtain ⟨a1, a2, a3, a4, a5, a6, a7, a8, a9, a10⟩ := w1
      refine ⟨txo_f (ntx_d (by decide)) f4 a1, ?_, ?_, ?_, ?_, fun j hj => ?_, fun j hj => ?_, ?_, ?_, ?_⟩
      · rw [f4 43 (by decide)]; exact a2
      · rw [f4 43 (by decide)]; exact a3
      · rw [f4 45 (by decide)]; exact a4
      · rw [f4 45 (by decide)]; exact a5
      · rw [f4 46 (by decide)]; exact a6 j hj
      · rw [f4 47 (by decide)]; exact a7 j hj
      · rw [f4 45 (by decide)]; exact a8
      · rw [f4 45 (by decide)]; exact a9
      · rw [f4 45 (by decide)]; exact a10
    refine wp_b (s_9 (d := d) (i := k) w4 hlt) ?_
    rintro v M ⟨rfl, I2, rfl, f2, w2⟩
    refine wp_e e_104_6 ?_
    rw [nI_1]
    refine wp_l (lq_e (lq_e (lq_e (lq_n lq_0)))) (hgo I2 ⟨fr_t f1 (fr_t (fr_m f4 (by decide)) (fr_m f2 (by decide))), w2, fun j hj => ?_⟩)
    rw [f2 21 (by decide), u2_k]
    by_cases e : j = k
    · rw [if_pos e, e]
      rfl
    · rw [if_neg e]
      exact r1 j (by omega)
/-- by lot, the class's -/
theorem s_116 {C D R o : Nat} {row : Nat → Nat} {cs cd cl : List Int32} {seed : Int32} (hw : EW L ext tx tt fe I C D R row cs cd cl) (ho : o ≤ 20) : wp (am_R (d + 4) 116 0 (am_mem L ext tx tt fe I G) [some (Value.ref 5), some (Value.int seed), some (Value.int (nI o)), none, none] []) (fun v M => v = some (.int (un (itr (flot (sS cs (nI D) (nI C)) (sS cd (nI D) (nI C)) row seed (nI o)) D).2.1 C)) ∧ ∃ I', M = am_mem L ext tx (tx R) fe I' G ∧ fr FP I I') := by
  have hw0 := hw
  obtain ⟨h1, h2, h3, ⟨h0, hC4, hD24, hR6⟩, h5, h6⟩ := hw
  refine wp_e e_116_0 ?_
  rw [h3]
  refine wp_c (by rw [ib hR6 (by decide)]; rfl) ?_
  rw [nI_clamp (by omega), Fx9 hR6]
  refine wp_e e_116_1 ?_
  rw [h1, h2]
  refine wp_b (s_8 h6) ?_
  rintro v M ⟨rfl, I1, rfl, f1, w1⟩
  refine wp_e e_116_2 ?_
  refine wp_loop D (fun k I1 => fr FP I I1 ∧ PW L ext tx (tx R) fe I1 (nI C) (nI D) cs cd cl (itr (flot (sS cs (nI D) (nI C)) (sS cd (nI D) (nI C)) row seed (nI o)) k)) (fun k I1 => wp (am_R (d + 4) 116 3 (am_mem L ext tx (tx R) fe I1 G) [some (Value.ref 5), some (Value.int seed), some (Value.int (nI o)), some (Value.int (zq seed k)), some (Value.int (nI k))] []) _) ?_ ?_ 0 I1 (Nat.zero_le _) ⟨f1, w1⟩
  · rintro I1 ⟨f1, w1⟩
    refine wp_e e_116_3 ?_
    rw [f1 5 (by decide), h2]
    refine wp_f (nI_nlt (Nat.le_refl _) (by omega)) (wp_e e_116_6 (wp_p (s_10 w1.2.2.2.1 h0 hC4) (wp_e e_116_7 (wp_r ⟨?_, I1, rfl, f1⟩))))
    rw [un_c h0 (fun j hj => w1.2.2.2.2.2.2.1 j (by omega))]
  · rintro k I1 hk ⟨f1, w1⟩ hgo
    have hkb := ib (n := k) (N := 24) (by omega) (by decide)
    obtain ⟨e6, l6⟩ := h5 k (by omega)
    refine wp_e e_116_3 ?_
    rw [f1 5 (by decide), h2]
    refine wp_t (nI_lt hk (by omega)) (wp_e e_116_4 (wp_c (by rw [hkb, nI_1, nz (by omega) (by omega)]; rfl) ?_))
    rw [nI_clamp (n := k) (by omega), f1 6 (by decide), e6]
    refine wp_b (s_9 (d := d) (i := k) (more := lot (zq seed (k + 1)) (nI o)) w1 (by omega)) ?_
    rintro v M ⟨rfl, I2, rfl, f2, w2⟩
    refine wp_e e_116_5 ?_
    rw [nI_1]
    exact hgo I2 ⟨fr_t f1 f2, w2⟩
end B24
