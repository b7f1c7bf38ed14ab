/-! what the tables and the Statement give of the law's start -/
theorem ar_ok {A : Array Value} {s : State} {t : FieldType} (h : (Cond.arrayClass t).before A s = true) : ∃ cA, ArrOfT s cA t ∧ s.vm.findClass ("[" ++ t.toString) = some cA := by
  obtain ⟨cA, kA, comp, h1, h2, h3⟩ := Cond.arrayClass_spec h
  exact ⟨cA, fun n z => ⟨fun k h => (by cases h), kA, h2, comp, h3⟩, h1⟩
theorem ao_ok {A : Array Value} {s : State} {t : FieldType} (h : (Cond.arrayOver (.array t)).before A s = true) : ∃ cA, ArrOfT s cA (.array t) ∧ s.vm.findClass ("[" ++ (FieldType.array t).toString) = some cA := by
  obtain ⟨comp, cA, kA, h1, h2, h3, h4, h5⟩ := z_aoSpec h
  exact ⟨cA, fun n z => ⟨fun k h => (by cases h), kA, h3, comp, h4⟩, h5⟩
set_option maxRecDepth 20000 in
theorem st_str : ∀ q ∈ zStr, Cond.stringRef RX5 q.1 q.2 ∈ lw_tbl := by decide +kernel
set_option maxRecDepth 20000 in
theorem st_exa : ∀ q ∈ zStr, Cond.exactly (.string RX5 q.1) "java/lang/String" ∈ flatC (Jvm.Cond.and given_1 narrow_1) := by decide +kernel
set_option maxRecDepth 20000 in
theorem st_cst : ∀ q ∈ zEx, Cond.castable q q ∈ lw_tbl := by decide +kernel
set_option maxRecDepth 20000 in
theorem st_not : ∀ q ∈ zEx, ∀ r ∈ zEx, q ≠ r → Cond.not (.castable q r) ∈ flatC (Jvm.Cond.and given_1 narrow_1) := by decide +kernel
set_option maxRecDepth 20000 in
theorem st_dec : ∀ q ∈ zDc, Cond.declares (Bundle.initS q) ∈ lw_tbl := by decide +kernel
set_option maxRecDepth 20000 in
theorem st_nest : ∀ w ∈ [Cond.methodLinkNest RX3 29 yX5_hasBit RX5, .methodLinkNest RX4 29 yX5_hasBit RX5, .methodLinkNest RX5 9 yX3_init RX5, .methodLinkNest RX5 18 yX2_init RX5, .methodLinkNest RX5 28 yX1_init RX5, .methodLinkNest RX5 35 yX4_init RX5, .methodLinkNest RX5 42 yX0_init RX5, .arrayOver (.array .boolean), .arrayOver (.array .int), .arrayClass .int, .arrayClass .boolean, .arrayClass .long, .arrayClass .double, .laysStatic Bundle.tN "UNASSIGNED_STACK" Bundle.steD, .laysStatic Bundle.tN "SUPPRESSED_SENTINEL" Bundle.listD, .initialized Bundle.tN], w ∈ lw_tbl := by decide +kernel
set_option maxRecDepth 20000 in
theorem st_inst : ∀ w ∈ [Cond.instantiable RX0 4, .instantiable RX1 3, .instantiable RX2 4, .instantiable RX3 3, .instantiable RX4 3, .instantiable RX5 8, .instantiable RX6 8], w ∈ lw_tbl := by decide +kernel
theorem st_isr : ∀ w ∈ [Cond.isRef (.static Bundle.tN "UNASSIGNED_STACK" Bundle.steD), .isRef (.static Bundle.tN "SUPPRESSED_SENTINEL" Bundle.listD)], w ∈ flatC (Jvm.Cond.and given_1 narrow_1) := by decide +kernel
theorem st_aoa {A : Array Value} {s : State} {t : FieldType} (h : (Cond.arrayOver (.array t)).before A s = true) : va_AOA t s := h
theorem st_K {s : State} {A : Array Value} (hts : ∀ w ∈ lw_tbl, w.before A s = true) : ∃ K : zK, zU K s := by
  have hi := fun w hw => hts w (st_inst w hw)
  have hn := fun w hw => hts w (st_nest w hw)
  obtain ⟨c0, i0, k0⟩ := u_known (C := RX0) (T := TX0) (N := 4) (n := 4) hts inX0 (hi _ (by simp))
  obtain ⟨c1, i1, k1⟩ := u_known (C := RX1) (T := TX1) (N := 3) (n := 3) hts inX1 (hi _ (by simp))
  obtain ⟨c2, i2, k2⟩ := u_known (C := RX2) (T := TX2) (N := 4) (n := 4) hts inX2 (hi _ (by simp))
  obtain ⟨c3, i3, k3⟩ := u_known (C := RX3) (T := TX3) (N := 3) (n := 3) hts inX3 (hi _ (by simp))
  obtain ⟨c4, i4, k4⟩ := u_known (C := RX4) (T := TX4) (N := 3) (n := 3) hts inX4 (hi _ (by simp))
  obtain ⟨c5, i5, k5⟩ := u_known (C := RX5) (T := TX5) (N := 8) (n := 8) hts inX5 (hi _ (by simp))
  obtain ⟨c6, i6, k6⟩ := u_known (C := RX6) (T := TX6) (N := 8) (n := 8) hts inX6 (hi _ (by simp))
  obtain ⟨dC, dI, hKc⟩ : ∃ (dC : Nat → ClassId) (dI : Nat → Nat → Nat), ∀ (k : Nat) (q : vw_C), vwCl[k]? = some q → u_Kn s q.1 q.2.1 q.2.2 (dC k) (dI k) := by
    refine ⟨fun k => match k with | 0 => c0 | 1 => c1 | 2 => c2 | 3 => c3 | 4 => c4 | 5 => c5 | _ => c6, fun k => match k with | 0 => i0 | 1 => i1 | 2 => i2 | 3 => i3 | 4 => i4 | 5 => i5 | _ => i6, ?_⟩
    intro k q hq
    match k, hq with
    | 0, hq => cases hq; exact k0
    | 1, hq => cases hq; exact k1
    | 2, hq => cases hq; exact k2
    | 3, hq => cases hq; exact k3
    | 4, hq => cases hq; exact k4
    | 5, hq => cases hq; exact k5
    | 6, hq => cases hq; exact k6
    | k + 7, hq => simp [vwCl] at hq
  obtain ⟨t0, a0, b0⟩ := ar_ok (hn (.arrayClass .int) (by simp))
  obtain ⟨t1, a1, b1⟩ := ar_ok (hn (.arrayClass .boolean) (by simp))
  obtain ⟨t4, a4, b4⟩ := ar_ok (hn (.arrayClass .long) (by simp))
  obtain ⟨t5, a5, b5⟩ := ar_ok (hn (.arrayClass .double) (by simp))
  obtain ⟨t2, a2, b2⟩ := ao_ok (hn (.arrayOver (.array .int)) (by simp))
  obtain ⟨t3, a3, b3⟩ := ao_ok (hn (.arrayOver (.array .boolean)) (by simp))
  refine ⟨((dC, dI), fun k => match k with | 0 => t0 | 1 => t1 | 2 => t2 | 3 => t3 | 4 => t4 | _ => t5), ⟨hKc, ?_⟩, va_Nw.of rfl (hn _ (by simp)), va_Nw.of rfl (hn _ (by simp)), va_Nw.of rfl (hn _ (by simp)), va_Nw.of rfl (hn _ (by simp)), va_Nw.of rfl (hn _ (by simp)), va_Nw.of rfl (hn _ (by simp)), va_Nw.of rfl (hn _ (by simp)), st_aoa (hn _ (by simp)), st_aoa (hn _ (by simp))⟩
  intro k q hq
  match k, hq with
  | 0, hq => cases hq; exact ⟨a0, b0⟩
  | 1, hq => cases hq; exact ⟨a1, b1⟩
  | 2, hq => cases hq; exact ⟨a2, b2⟩
  | 3, hq => cases hq; exact ⟨a3, b3⟩
  | 4, hq => cases hq; exact ⟨a4, b4⟩
  | 5, hq => cases hq; exact ⟨a5, b5⟩
  | k + 6, hq => simp [zT] at hq
theorem st_E {l : Launch} {s : State} {A : Array Value} (hflags : l.flags = flags0) (hts : ∀ w ∈ lw_tbl, w.before A s = true) (hs : ∀ w ∈ flatC (Jvm.Cond.and given_1 narrow_1), w.before A s = true) : zE l (fun q => s.heap.size ≤ q) s s.heap := by
  have hn := fun w hw => hts w (st_nest w hw)
  have hA : ∀ a : Nat, a < s.heap.size → ¬ s.heap.size ≤ a := fun a h => Nat.not_le.mpr h
  refine ⟨?_, vx_Zqof (hn _ (by simp)) (hn _ (by simp)) (hs _ (st_isr _ (by simp))) hA, vx_Zqof (hn _ (by simp)) (hn _ (by simp)) (hs _ (st_isr _ (by simp))) hA, fun q hq => ?_, fun q hq => va_Nw.of rfl (hts _ (st_cst q hq)), fun q hq r hr hne => va_Nc.of (hs _ (st_not q hq r hr hne)), fun q hq => va_Nw.of rfl (hts _ (st_dec q hq))⟩
  · unfold Launch.stackTraces
    rw [hflags]
    decide
  · obtain ⟨a, c, cell, k, h1, -⟩ := Cond.exactly_spec (hs _ (st_exa q hq))
    exact ⟨a, vk_R.of (hts _ (st_str q hq)) h1⟩
