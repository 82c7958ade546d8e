/-! THE SIMULATION, 4: fields and rows -/
theorem cl_wc0 : (List.range 11).all (fun x => match am_cl[x]? with | some q => (List.range q.2.2).all (fun k => Nat.ble (am_wc (am_ty x k)) 3) | none => false) = true := by decide +kernel
theorem cl_wc {x : Nat} {q : vw_C} (h : am_cl[x]? = some q) : ∀ k, k < q.2.2 → am_wc (am_ty x k) ≤ 3 := by
  intro k hk
  have h1 := List.all_eq_true.mp cl_wc0 x (List.mem_range.mpr (cl_lt h))
  rw [h] at h1
  exact Nat.le_of_ble_eq_true (List.all_eq_true.mp h1 k (List.mem_range.mpr hk))
section SM4
variable {G : sm_G} {p : Program} {l : Launch} {e : Env} {R : Room} {s : State} {mI : MethodId} {args : Array Value} {below : List Frame} {meth : Method} {c : Code} {H H1 : Heap} {locs : List Loc} {cells slots : Nat} {Q : State → Prop} {m d pc : Nat} {ls : Array Slot} {M M1 : am_M} {L L1 : am_L} {S S1 : List Value}
theorem sm_kd {a x : Nat} (h : am_kd M a x = true) : ∃ n, M.1[a]? = some (x, n) := by
  unfold am_kd at h
  split at h
  · rename_i q hq
    exact ⟨q.2, by rw [hq, ← Nat.eq_of_beq_eq_true h]⟩
  · cases h
theorem sm_ln {a x n : Nat} (h : M.1[a]? = some (x, n)) : am_ln M a = n := by
  unfold am_ln
  rw [h]
theorem sm_fr_get (hf : sm_fr G M) {a : Nat} (ha : a < 5) : M.1[a]? = [(20, sm_n G), (20, 6), (26, 2), (25, 59), (99, 0)][a]? := by
  rw [← hf.1, List.getElem?_take, if_pos ha]
theorem sm_ge (hf : sm_fr G M) {a x n : Nat} (h : M.1[a]? = some (x, n)) (hx : x ≠ 20 ∧ x ≠ 25 ∧ x ≠ 26 ∧ x ≠ 99) : 5 ≤ a := by
  rcases Nat.lt_or_ge a 5 with ha | ha
  · rw [sm_fr_get hf ha] at h
    rcases (show a = 0 ∨ a = 1 ∨ a = 2 ∨ a = 3 ∨ a = 4 by omega) with rfl | rfl | rfl | rfl | rfl <;> simp at h <;> omega
  · exact ha
theorem sm_ai (hP : sm_P G) {a b : Nat} (ha : 5 ≤ a) (hb : 5 ≤ b) (h : sm_a G a = sm_a G b) : a = b := by
  obtain ⟨a, rfl⟩ := Nat.exists_eq_add_of_le' ha
  obtain ⟨b, rfl⟩ := Nat.exists_eq_add_of_le' hb
  rw [hP.1, hP.1] at h
  omega
theorem sm_v5 {k : Nat} (h : 5 ≤ k) : sm_v G (.ref k) = .ref (sm_a G k) := sm_vr (by omega)
theorem sm_aA (hP : sm_P G) {a : Nat} (ha : 5 ≤ a) : sm_A G (sm_a G a) := by
  obtain ⟨a, rfl⟩ := Nat.exists_eq_add_of_le' ha
  show sm_b G ≤ sm_a G (a + 5)
  rw [hP.1]
  omega
theorem sm_rf (hf : sm_fr G M) {a k : Nat} (ha : 5 ≤ a) : sm_v G (va_rf (M.2.2.1 a k)) = va_rf ((M.2.2.1 a k).map (sm_a G)) := by
  cases h : M.2.2.1 a k with
  | none => rfl
  | some v =>
    exact sm_vr (fun e => by have := hf.2.2.2.2.2.2 a k v ha h; omega)
theorem sm_rd (hf : sm_fr G M) {a k c w : Nat} (ha : 5 ≤ a) (hw : am_wc (am_ty c k) = w) : sm_v G (am_rd w M a k) = sm_fv G M a c k := by
  unfold sm_fv
  rw [hw]
  clear hw
  match w with
  | 0 => rfl
  | 1 => exact sm_rf hf ha
  | 2 => rfl
  | w + 3 => rfl
/-- one cell is written -/
theorem sm_hp_set (hP : sm_P G) (hp : sm_hp G M H) {a : Nat} (h5 : 5 ≤ a) (hs : M1.1 = M.1) (oth : ∀ k, k ≠ a → ∀ j, M1.2.1 k j = M.2.1 k j ∧ M1.2.2.1 k j = M.2.2.1 k j ∧ M1.2.2.2 k j = M.2.2.2 k j) (hz : H1.size = H.size) (oq : ∀ q : Nat, q ≠ sm_a G a → H1[q]? = H[q]?) (hat : sm_at G M1 a H1) : sm_hp G M1 H1 := by
  refine ⟨fun k hk => ?_, by rw [hz, hs]; exact hp.2.1, by rw [hs]; exact hp.2.2⟩
  by_cases hka : k = a
  · rw [hka]; exact hat
  · have hne : sm_a G k ≠ sm_a G a := fun h => hka (sm_ai hP hk h5 h)
    have hq := oq _ hne
    intro c n hcn
    rw [hs] at hcn
    obtain ⟨h1, h2, h3, h4⟩ := hp.1 k hk c n hcn
    refine ⟨fun h => ⟨(h1 h).1, ((h1 h).2.kept hq).to (fun j _ => ?_)⟩, fun h => ?_, fun h h' => ?_, h4⟩
    · unfold sm_fv
      obtain ⟨e1, e2, e3⟩ := oth k hka j
      rw [e1, e2, e3]
    · rw [hq, h2 h]
      congr 2
      funext j
      rw [(oth k hka j).1]
    · rw [hq, h3 h h']
      congr 2
      funext j
      rw [(oth k hka j).2.1]
theorem sm_fr_set (hf : sm_fr G M) {a : Nat} (h5 : 5 ≤ a) (hs : M1.1 = M.1) (oth : ∀ k, k ≠ a → ∀ j, M1.2.1 k j = M.2.1 k j ∧ M1.2.2.1 k j = M.2.2.1 k j ∧ M1.2.2.2 k j = M.2.2.2 k j) (hF : ∀ j v, M1.2.2.1 a j = some v → 5 ≤ v) : sm_fr G M1 := by
  obtain ⟨h1, h2, h3, h4, h5', h6, h7⟩ := hf
  refine ⟨by rw [hs]; exact h1, fun j hj => ?_, fun j hj => ?_, ?_, ?_, fun j hj => ?_, fun k j v hk hv => ?_⟩
  · rw [(oth 0 (by omega) j).1]; exact h2 j hj
  · rw [(oth 1 (by omega) j).1]; exact h3 j hj
  · rw [(oth 2 (by omega) 0).1]; exact h4
  · rw [(oth 2 (by omega) 1).2.1]; exact h5'
  · rw [(oth 3 (by omega) j).1]; exact h6 j hj
  · by_cases hka : k = a
    · rw [hka] at hv; exact hF j v hv
    · rw [(oth k hka j).2.1] at hv; exact h7 k j v hk hv
theorem sm_getf {x y z w n : Nat} (X : sm_cx G p R s mI args meth c m d) (hr : sm_rl G M s H locs) (hl : sm_L G L ls (am_mx m)) (hdg : decode (am_cd m) pc = .ok (.getfield n, 3)) (hf : am_fl (am_nm m).cls n x y z w = true) (hq : am_gf x y w M L S = some (true, M1, L1, S1)) (k : sm_nx G p l e R s mI args below meth c cells slots Q m (pc + 3) M M1 L1 S1) : W p l e R s mI args below meth c H locs cells slots Q (F0 mI pc ls (S.map (sm_v G))) := by
  unfold am_gf at hq
  split at hq
  · rename_i a r
    simp only [Option.some.injEq, Prod.mk.injEq] at hq
    obtain ⟨h0, rfl, rfl, rfl⟩ := hq
    obtain ⟨n', hn⟩ := sm_kd h0
    unfold am_fl at hf
    split at hf
    · rename_i q hqc
      simp only [Bool.and_eq_true, decide_eq_true_eq, Bool.or_eq_true] at hf
      obtain ⟨f1, f2, f3, f4⟩ := hf
      have f1 : y < q.2.2 := Nat.le_of_ble_eq_true f1
      have f3 := Nat.eq_of_beq_eq_true f3
      have hx11 := cl_lt hqc
      have h5 : 5 ≤ a := sm_ge hr.2.1 hn (by omega)
      obtain ⟨⟨q', hq', hnq⟩, cell, g1, g2, g3, g4⟩ := (hr.1.1 a h5 x n' hn).1 hx11
      cases hqc.symm.trans hq'
      obtain ⟨hS, hfc, kC, hkC, hkind⟩ := X.2.2.2.2.2.1.1.1 x q hqc
      obtain ⟨cf, kf, fi, f, hi, hsl⟩ := hS y f1
      have hst := (u_facts hfc hkC (u_lays X.2.2.2.2.1 (cl_w hqc).1 f1) hi).1
      have hi' : s.fieldFound? q.1 (q.2.1 y).2.1 (q.2.1 y).2.2.1 = some (cf, kf, fi, f) := by rw [← f2]; exact hi
      have kk := k.same hr hl
      have hv : cell.slots[f.slot]? = some (sm_v G (am_rd w M a y)) := by rw [hsl, g4 y (by omega), sm_rd hr.2.1 h5 f3]
      rw [List.map_cons, sm_v5 h5]
      rcases f4 with f4 | f4
      · exact W.getf X.1 X.2.1 X.2.2.2.1 (X.2.2.2.2.1 _ (am_lk_in f4)) hi' hst g1 (by rw [g3]; exact fun h => by cases h) hv rfl rfl hdg kk
      · exact va_Wgetf X.1 X.2.1 X.2.2.2.1 (va_Nw.use rfl (X.2.2.2.2.2.1.2.2.1 _ (List.mem_filter.mpr ⟨am_nk_in f4, rfl⟩))) hi' hst g1 (by rw [g3]; exact fun h => by cases h) hv rfl rfl hdg kk
    · cases hf
  · cases hq
/-- a field of an own object is written -/
theorem sm_putw {x y z w n a n' : Nat} {v : Value} {r : List Value} (X : sm_cx G p R s mI args meth c m d) (hr : sm_rl G M s H locs) (hl : sm_L G L ls (am_mx m)) (hdg : decode (am_cd m) pc = .ok (.putfield n, 3)) (hf : am_fp (am_nm m).cls (am_nm m).name n x y z w = true) (hn : M.1[a]? = some (x, n')) (h5 : 5 ≤ a) (hs : M1.1 = M.1) (oth : ∀ k j, ¬ (k = a ∧ j = y) → M1.2.1 k j = M.2.1 k j ∧ M1.2.2.1 k j = M.2.2.1 k j ∧ M1.2.2.2 k j = M.2.2.2 k j) (hF : ∀ u, M1.2.2.1 a y = some u → 5 ≤ u) (hv : am_wc (am_ty x y) = w → sm_fv G M1 a x y = v ∧ narrow (am_ty x y) v = v ∧ fits (am_ty x y) v = true) (k : sm_nx G p l e R s mI args below meth c cells slots Q m (pc + 3) M M1 L r) : W p l e R s mI args below meth c H locs cells slots Q (F0 mI pc ls (v :: .ref (sm_a G a) :: r.map (sm_v G))) := by
  have hP := X.2.2.2.2.2.2.2.2.2
  unfold am_fp at hf
  split at hf
  · rename_i q hqc
    simp only [Bool.and_eq_true, decide_eq_true_eq] at hf
    obtain ⟨f1, f2, f3, f4⟩ := hf
    have f1 : y < q.2.2 := Nat.le_of_ble_eq_true f1
    have f3 := Nat.eq_of_beq_eq_true f3
    obtain ⟨v1, v2, v3⟩ := hv f3
    have hx11 := cl_lt hqc
    obtain ⟨⟨q', hq', hnq⟩, cell, g1, g2, g3, g4⟩ := (hr.1.1 a h5 x n' hn).1 hx11
    cases hqc.symm.trans hq'
    subst hnq
    obtain ⟨hS, hfc, kC, hkC, hkind⟩ := X.2.2.2.2.2.1.1.1 x q hqc
    obtain ⟨cf, kf, fi, f, hi, hsl⟩ := hS y f1
    have hlays := u_lays X.2.2.2.2.1 (cl_w hqc).1 f1
    have hst := (u_facts hfc hkC hlays hi).1
    have hi' : s.fieldFound? q.1 (q.2.1 y).2.1 (q.2.1 y).2.2.1 = some (cf, kf, fi, f) := by rw [← f2]; exact hi
    have hap := va_apart (own := (am_nm m).cls) X.2.2.2.2.1 (cl_w hqc).1 (am_ty x) (cl_t hqc) (cl_n hqc) X.2.2.2.2.2.1.1 hqc
    have hslt : f.slot < cell.slots.size := by rw [hsl]; exact k2_hasslot (g4 y f1)
    have done : ∀ H' : Heap, H'[sm_a G a]? = some (cell.setSlot f.slot v) → H'.size = H.size → (∀ q, q ≠ sm_a G a → H'[q]? = H[q]?) → W p l e R s mI args below meth c H' (locs ++ [⟨sm_a G a, f.slot⟩]) cells slots Q (F0 mI (pc + 3) ls (r.map (sm_v G))) := by
      intro H' e1 e2 e3
      have oth' : ∀ k, k ≠ a → ∀ j, M1.2.1 k j = M.2.1 k j ∧ M1.2.2.1 k j = M.2.2.1 k j ∧ M1.2.2.2 k j = M.2.2.2 k j := fun k hk j => oth k j (fun h => hk h.1)
      have hat : sm_at G M1 a H' := by
        intro c2 n2 hcn
        rw [hs, hn] at hcn
        cases hcn
        refine ⟨fun _ => ⟨⟨q, hqc, rfl⟩, cell.setSlot f.slot v, e1, g2, g3, fun j hj => ?_⟩, fun h => by omega, fun h => by omega, Or.inl hx11⟩
        rw [hsl, t_set g4 hap f1 v j hj]
        unfold updV
        by_cases hjy : j = y
        · rw [if_pos hjy, hjy, v1]
        · rw [if_neg hjy]
          unfold sm_fv
          obtain ⟨o1, o2, o3⟩ := oth a j (fun h => hjy h.2)
          rw [o1, o2, o3]
      have hr1 : sm_rl G M1 s H' (locs ++ [⟨sm_a G a, f.slot⟩]) := ⟨sm_hp_set hP hr.1 h5 hs oth' e2 e3 hat, sm_fr_set hr.2.1 h5 hs oth' (fun j u hu => by
        by_cases hjy : j = y
        · rw [hjy] at hu; exact hF u hu
        · rw [(oth a j (fun h => hjy h.2)).2.1] at hu; exact hr.2.1.2.2.2.2.2.2 a j u h5 hu), hr.2.2.put e2 e3 (sm_aA hP h5)⟩
      have := k H' _ ls hr1 hl
      rw [hs, Nat.sub_self, show am_sz M1 = am_sz M by unfold am_sz; rw [hs], Nat.sub_self] at this
      exact this
    cases hfin : (q.2.1 y).2.2.2 with
    | true =>
      rw [hfin] at f4
      simp only [cond_true, Bool.and_eq_true, decide_eq_true_eq] at f4
      obtain ⟨n1, n2, n3⟩ := f4
      have hlay := X.2.2.2.2.1 _ ((cl_w hqc).1 _ (u_in_lay f1))
      unfold u_lay at hlay
      rw [if_pos hfin] at hlay
      have hcf : mI.cls = cf := by
        obtain ⟨_, _, c', _, _, _, -, -, hf', -, -, -, hown2, -⟩ := Cond.laysFinal_spec hlay
        have e1 : c' = cf := by have := hi.symm.trans hf'; simp at this; exact this.1.symm
        rw [f2, n2] at hown2
        rw [← e1]
        exact Option.some.inj (X.2.2.2.1.symm.trans hown2)
      have h6 := u_fits hfc hkC hkind (Or.inr hlay) hi (cl_t hqc y f1) v2 v3
      exact W.putFinK X.1 X.2.1 X.2.2.2.1 (X.2.2.2.2.1 _ (am_lk_in n3)) hi' hst hcf (X.2.2.2.2.2.2.1.elim (fun hm => absurd (show ("law" : String) = "<init>" by rw [hm] at n1; exact n1) (by decide)) (fun hm => hm.trans n1)) (by rw [g2]; exact h6) g1 g3 hslt rfl rfl hdg done
    | false =>
      rw [hfin] at f4
      simp only [cond_false, Bool.or_eq_true] at f4
      have hlay := X.2.2.2.2.1 _ ((cl_w hqc).1 _ (u_in_lay f1))
      unfold u_lay at hlay
      rw [if_neg (by rw [hfin]; decide)] at hlay
      have h6 := u_store hfc hkC hkind hlay hi (cl_t hqc y f1) v2 v3
      rcases f4 with f4 | f4
      · exact W.putK X.1 X.2.1 (f := f) ⟨X.2.2.2.1, X.2.2.2.2.1 _ (am_lk_in f4), ⟨_, _, _, hi'⟩, hst⟩ (by rw [g2]; exact h6) g1 g3 hslt rfl rfl hdg done
      · exact va_WputK X.1 X.2.1 X.2.2.2.1 (va_Nw.use rfl (X.2.2.2.2.2.1.2.2.1 _ (List.mem_filter.mpr ⟨am_nk_in f4, rfl⟩))) hi' hst (by rw [g2]; exact h6) g1 g3 hslt rfl rfl hdg done
  · cases hf
theorem sm_u2o {α : Type} (f : Nat → Nat → α) (a y : Nat) (v : α) {k j : Nat} (h : ¬ (k = a ∧ j = y)) : am_u2 f a y v k j = f k j := if_neg h
theorem sm_u2s {α : Type} (f : Nat → Nat → α) (a y : Nat) (v : α) : am_u2 f a y v a y = v := if_pos ⟨rfl, rfl⟩
theorem sm_putf {x y z w n : Nat} (X : sm_cx G p R s mI args meth c m d) (hr : sm_rl G M s H locs) (hl : sm_L G L ls (am_mx m)) (hdg : decode (am_cd m) pc = .ok (.putfield n, 3)) (hf : am_fp (am_nm m).cls (am_nm m).name n x y z w = true) (hq : am_pf x y w M L S = some (true, M1, L1, S1)) (k : sm_nx G p l e R s mI args below meth c cells slots Q m (pc + 3) M M1 L1 S1) : W p l e R s mI args below meth c H locs cells slots Q (F0 mI pc ls (S.map (sm_v G))) := by
  unfold am_pf at hq
  split at hq
  · rename_i v a r
    cases hw : Nat.beq w 0 with
    | true =>
      rw [hw] at hq
      simp only [cond_true] at hq
      simp only [Option.some.injEq, Prod.mk.injEq] at hq
      obtain ⟨h0, rfl, rfl, rfl⟩ := hq
      rw [Bool.and_eq_true] at h0
      obtain ⟨n', hn⟩ := sm_kd h0.1
      have h5 : 5 ≤ a := Nat.le_of_ble_eq_true h0.2
      rw [List.map_cons, List.map_cons, sm_v5 h5]
      refine sm_putw X hr hl hdg hf hn h5 (M1 := (M.1, am_u2 M.2.1 a y v, M.2.2.1, M.2.2.2)) rfl (fun k j hkj => ⟨sm_u2o _ _ _ _ hkj, rfl, rfl⟩) (fun u hu => hr.2.1.2.2.2.2.2.2 a y u h5 hu) (fun hc => ?_) k
      have hc0 : am_wc (am_ty x y) = 0 := hc.trans (Nat.eq_of_beq_eq_true hw)
      have ht : am_ty x y = .int := by
        cases h : am_ty x y <;> rw [h] at hc0 <;> first | rfl | (simp [am_wc] at hc0)
      refine ⟨?_, by rw [ht]; rfl, by rw [ht]; rfl⟩
      unfold sm_fv
      rw [hc0]
      show Value.int (am_u2 M.2.1 a y v a y) = _
      rw [sm_u2s]
      rfl
    | false =>
      rw [hw] at hq
      simp only [cond_false] at hq
      cases hw3 : Nat.beq w 3 with
      | false => rw [hw3] at hq; cases hq
      | true =>
        rw [hw3] at hq
        simp only [cond_true] at hq
        simp only [Option.some.injEq, Prod.mk.injEq] at hq
        obtain ⟨h0, rfl, rfl, rfl⟩ := hq
        rw [Bool.and_eq_true, Bool.and_eq_true] at h0
        obtain ⟨n', hn⟩ := sm_kd h0.1
        have h5 : 5 ≤ a := Nat.le_of_ble_eq_true h0.2.1
        have hb : v = 0 ∨ v = 1 := of_decide_eq_true h0.2.2
        rw [List.map_cons, List.map_cons, sm_v5 h5]
        refine sm_putw X hr hl hdg hf hn h5 (M1 := (M.1, am_u2 M.2.1 a y v, M.2.2.1, M.2.2.2)) rfl (fun k j hkj => ⟨sm_u2o _ _ _ _ hkj, rfl, rfl⟩) (fun u hu => hr.2.1.2.2.2.2.2.2 a y u h5 hu) (fun hc => ?_) k
        have hc0 : am_wc (am_ty x y) = 3 := hc.trans (Nat.eq_of_beq_eq_true hw3)
        have ht : am_ty x y = .boolean := by
          cases h : am_ty x y <;> rw [h] at hc0 <;> first | rfl | (simp [am_wc] at hc0)
        refine ⟨?_, ?_, ?_⟩
        · unfold sm_fv
          rw [hc0]
          show Value.int (am_u2 M.2.1 a y v a y) = _
          rw [sm_u2s]
          rfl
        · rw [ht]
          rcases hb with rfl | rfl <;> rfl
        · rw [ht]
          rcases hb with rfl | rfl <;> rfl
  · rename_i v a r
    cases hw : Nat.beq w 2 with
    | false => rw [hw] at hq; cases hq
    | true =>
      rw [hw] at hq
      simp only [cond_true] at hq
      simp only [Option.some.injEq, Prod.mk.injEq] at hq
      obtain ⟨h0, rfl, rfl, rfl⟩ := hq
      rw [Bool.and_eq_true] at h0
      obtain ⟨n', hn⟩ := sm_kd h0.1
      have h5 : 5 ≤ a := Nat.le_of_ble_eq_true h0.2
      rw [List.map_cons, List.map_cons, sm_v5 h5]
      refine sm_putw X hr hl hdg hf hn h5 (M1 := (M.1, M.2.1, M.2.2.1, am_u2 M.2.2.2 a y v)) rfl (fun k j hkj => ⟨rfl, rfl, sm_u2o _ _ _ _ hkj⟩) (fun u hu => hr.2.1.2.2.2.2.2.2 a y u h5 hu) (fun hc => ?_) k
      have hc0 : am_wc (am_ty x y) = 2 := hc.trans (Nat.eq_of_beq_eq_true hw)
      have ht : am_ty x y = .long := by
        cases h : am_ty x y <;> rw [h] at hc0 <;> first | rfl | (simp [am_wc] at hc0)
      refine ⟨?_, by rw [ht]; rfl, by rw [ht]; rfl⟩
      unfold sm_fv
      rw [hc0]
      show Value.long (am_u2 M.2.2.2 a y v a y) = _
      rw [sm_u2s]
      rfl
  · rename_i v a r
    cases hw : Nat.beq w 1 with
    | false => rw [hw] at hq; cases hq
    | true =>
      rw [hw] at hq
      simp only [cond_true] at hq
      simp only [Option.some.injEq, Prod.mk.injEq] at hq
      obtain ⟨h0, rfl, rfl, rfl⟩ := hq
      rw [Bool.and_eq_true, Bool.and_eq_true] at h0
      obtain ⟨n', hn⟩ := sm_kd h0.1
      have h5 : 5 ≤ a := Nat.le_of_ble_eq_true h0.2.1
      have h5v : 5 ≤ v := Nat.le_of_ble_eq_true h0.2.2
      rw [List.map_cons, List.map_cons, sm_v5 h5, sm_v5 h5v]
      refine sm_putw X hr hl hdg hf hn h5 (M1 := (M.1, M.2.1, am_u2 M.2.2.1 a y (some v), M.2.2.2)) rfl (fun k j hkj => ⟨rfl, sm_u2o _ _ _ _ hkj, rfl⟩) (fun u hu => ?_) (fun hc => ?_) k
      · have hu : am_u2 M.2.2.1 a y (some v) a y = some u := hu
        rw [sm_u2s] at hu
        cases hu
        exact h5v
      have hc0 : am_wc (am_ty x y) = 1 := hc.trans (Nat.eq_of_beq_eq_true hw)
      refine ⟨?_, ?_, ?_⟩
      · unfold sm_fv
        rw [hc0]
        show va_rf ((am_u2 M.2.2.1 a y (some v) a y).map (sm_a G)) = _
        rw [sm_u2s]
        rfl
      · cases h : am_ty x y <;> rw [h] at hc0 <;> first | rfl | (simp [am_wc] at hc0)
      · cases h : am_ty x y <;> rw [h] at hc0 <;> first | rfl | (simp [am_wc] at hc0)
  · cases hq
end SM4
