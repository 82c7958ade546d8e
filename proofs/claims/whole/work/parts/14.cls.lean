/-! THE CLASSES: their words, their fields -/
def cl_lp : List (List Nat) := [[1101, 1103, 1105, 1107, 1109, 1111, 1113, 1115], [1146, 1148], [1203, 1205, 1207, 1209, 1211, 1213, 1215, 1217], [1070, 1072, 1074, 1076, 1078], [2009, 2011, 2013, 2015, 2017, 2019, 2021, 2023, 2025, 2027, 2029, 2031, 2033, 2035, 2037, 2039, 2041], [1162, 1164, 1166], [1047, 1049, 1051, 1053, 1055], [1178, 1180, 1182], [1129, 1131, 1133], [2062, 2064, 2066, 2068, 2070, 2072, 2074, 2076, 2078, 2080, 2082, 2084, 2086, 2088, 2090, 2092, 2094, 2096], [4235, 4237, 4239, 5001, 5003, 5005, 5007, 5009, 5011, 5013, 5015, 5017, 5019, 5021, 5023, 5025, 5027, 5029, 5031, 5033, 5035, 5037, 5039, 5041, 5043, 5045, 5047, 5049, 5051, 5053, 5055, 5057, 5059, 5061, 5063, 5065, 5067, 5069, 5071, 5073, 5075, 5077, 5079, 5081, 5083, 5085, 5087, 5089, 5091, 5093, 5095, 5097, 5099, 5101, 5103]]
def cl_ip : List (Nat × Nat) := [(1004, 1084), (1006, 1137), (1009, 1186), (1003, 1060), (1010, 1221), (1007, 1151), (1002, 1032), (1008, 1170), (1005, 1118), (1001, 1020), (1011, 4172)]
theorem cl_w0 : (List.range 11).all (fun x => match am_cl[x]? with | some q => (List.range q.2.2).all (fun k => am_lk ((cl_lp.getD x []).getD k 0) (u_lay q.1 q.2.1 k)) && (am_lk (cl_ip.getD x (0, 0)).1 (.initialized q.1) && am_lk (cl_ip.getD x (0, 0)).2 (.instantiable q.1 q.2.2)) | none => false) = true := by decide +kernel
theorem cl_lt {x : Nat} {q : vw_C} (h : am_cl[x]? = some q) : x < 11 := (List.getElem?_eq_some_iff.mp h).1
theorem cl_w {x : Nat} {q : vw_C} (h : am_cl[x]? = some q) : (∀ w ∈ u_ws q.1 q.2.1 q.2.2, w ∈ am_W) ∧ Cond.initialized q.1 ∈ am_W ∧ Cond.instantiable q.1 q.2.2 ∈ am_W := by
  have h1 := List.all_eq_true.mp cl_w0 x (List.mem_range.mpr (cl_lt h))
  rw [h] at h1
  simp only [Bool.and_eq_true] at h1
  refine ⟨fun w hw => ?_, am_lk_in h1.2.1, am_lk_in h1.2.2⟩
  obtain ⟨k, hk, rfl⟩ := List.mem_map.mp hw
  exact am_lk_in (List.all_eq_true.mp h1.1 k hk)
theorem cl_t0 : (List.range 11).all (fun x => match am_cl[x]? with | some q => (List.range q.2.2).all (fun k => decide (parseFieldDescriptor (q.2.1 k).2.2.1 = some (am_ty x k))) | none => false) = true := by decide +kernel
theorem cl_t {x : Nat} {q : vw_C} (h : am_cl[x]? = some q) : ∀ k, k < q.2.2 → parseFieldDescriptor (q.2.1 k).2.2.1 = some (am_ty x k) := by
  intro k hk
  have h1 := List.all_eq_true.mp cl_t0 x (List.mem_range.mpr (cl_lt h))
  rw [h] at h1
  exact of_decide_eq_true (List.all_eq_true.mp h1 k (List.mem_range.mpr hk))
theorem cl_n0 : (List.range 11).all (fun x => match am_cl[x]? with | some q => (List.range q.2.2).all (fun a => (List.range q.2.2).all (fun b => Nat.beq a b || decide ((q.2.1 a).2.1 ≠ (q.2.1 b).2.1))) | none => false) = true := by decide +kernel
theorem cl_n {x : Nat} {q : vw_C} (h : am_cl[x]? = some q) : ∀ a, a < q.2.2 → ∀ b, b < q.2.2 → a ≠ b → (q.2.1 a).2.1 ≠ (q.2.1 b).2.1 := by
  intro a ha b hb hab
  have h1 := List.all_eq_true.mp cl_n0 x (List.mem_range.mpr (cl_lt h))
  rw [h] at h1
  have h2 := List.all_eq_true.mp (List.all_eq_true.mp h1 a (List.mem_range.mpr ha)) b (List.mem_range.mpr hb)
  rw [Bool.or_eq_true] at h2
  exact of_decide_eq_true (h2.resolve_left (fun e => hab (Nat.eq_of_beq_eq_true e)))
theorem cl_rc : ∀ x, am_rc x = "EvenlyPoured$Pourer" ∨ am_rc x = "EvenlyPoured$Text" ∨ am_rc x = "EvenlyPoured$Sheet" := by
  intro x
  unfold am_rc
  split <;> simp
theorem cl_oi : Cond.instanceMethod objectInit ∈ am_W ∧ Cond.code objectInit ⟨#[0xb1]⟩ 1 none ∈ am_W := ⟨am_mem_W (k := 1) (j := 25) rfl rfl, am_mem_W (k := 1) (j := 26) rfl rfl⟩
theorem cl_ac : Cond.native arraycopyName ∈ am_W ∧ Cond.static arraycopyName ∈ am_W ∧ Cond.initialized "java/lang/System" ∈ am_W := ⟨am_mem_W (k := 3) (j := 60) rfl rfl, am_mem_W (k := 3) (j := 59) rfl rfl, am_mem_W (k := 1) (j := 18) rfl rfl⟩
theorem cl_mmax : Cond.static Lib.Math.max.name ∈ am_W ∧ Cond.initialized "java/lang/Math" ∈ am_W ∧ Cond.code Lib.Math.max.name Lib.Math.max.code 2 (some .int) ∈ am_W := ⟨am_mem_W (k := 3) (j := 121) rfl rfl, am_mem_W (k := 1) (j := 17) rfl rfl, am_mem_W (k := 3) (j := 122) rfl rfl⟩
theorem cl_mmin : Cond.static Lib.Math.min.name ∈ am_W ∧ Cond.initialized "java/lang/Math" ∈ am_W ∧ Cond.code Lib.Math.min.name Lib.Math.min.code 2 (some .int) ∈ am_W := ⟨am_mem_W (k := 3) (j := 56) rfl rfl, am_mem_W (k := 1) (j := 17) rfl rfl, am_mem_W (k := 3) (j := 57) rfl rfl⟩
theorem cl_mabs : Cond.static Lib.Math.abs.name ∈ am_W ∧ Cond.initialized "java/lang/Math" ∈ am_W ∧ Cond.code Lib.Math.abs.name Lib.Math.abs.code 1 (some .int) ∈ am_W := ⟨am_mem_W (k := 3) (j := 154) rfl rfl, am_mem_W (k := 1) (j := 17) rfl rfl, am_mem_W (k := 3) (j := 155) rfl rfl⟩
theorem cl_ar : Cond.arrayClass .int ∈ am_W ∧ Cond.arrayClass .boolean ∈ am_W := ⟨am_mem_W (k := 1) (j := 58) rfl rfl, am_mem_W (k := 1) (j := 136) rfl rfl⟩
