theorem dX3_init_0 : decode cX3_init 0 = .ok (.aload_n 0, 1) := by decide +kernel
theorem dX3_init_1 : decode cX3_init 1 = .ok (.invokespecial 3, 3) := by decide +kernel
theorem dX3_init_4 : decode cX3_init 4 = .ok (.aload_n 0, 1) := by decide +kernel
theorem dX3_init_5 : decode cX3_init 5 = .ok (.bipush 12, 2) := by decide +kernel
theorem dX3_init_7 : decode cX3_init 7 = .ok (.newarray .int, 2) := by decide +kernel
theorem dX3_init_9 : decode cX3_init 9 = .ok (.putfield 9, 3) := by decide +kernel
theorem dX3_init_12 : decode cX3_init 12 = .ok (.aload_n 0, 1) := by decide +kernel
theorem dX3_init_13 : decode cX3_init 13 = .ok (.bipush 12, 2) := by decide +kernel
theorem dX3_init_15 : decode cX3_init 15 = .ok (.newarray .int, 2) := by decide +kernel
theorem dX3_init_17 : decode cX3_init 17 = .ok (.putfield 15, 3) := by decide +kernel
theorem dX3_init_20 : decode cX3_init 20 = .ok (.aload_n 0, 1) := by decide +kernel
theorem dX3_init_21 : decode cX3_init 21 = .ok (.iconst 0, 1) := by decide +kernel
theorem dX3_init_22 : decode cX3_init 22 = .ok (.putfield 18, 3) := by decide +kernel
theorem dX3_init_25 : decode cX3_init 25 = .ok (.return_, 1) := by decide +kernel
theorem mX3_init_0 : Cond.methodLink RX3 3 objectInit ∈ wsX3_init := by decide +kernel
theorem mX3_init_1 : Cond.instanceMethod objectInit ∈ wsX3_init := by decide +kernel
theorem mX3_init_2 : Cond.code objectInit ⟨#[0xb1]⟩ 1 none ∈ wsX3_init := by decide +kernel
theorem mX3_init_3 : Cond.arrayClass .int ∈ wsX3_init := by decide +kernel
theorem mX3_init_4 : Cond.fieldLink RX3 9 "Layerways$Net" "keys" "[I" ∈ wsX3_init := by decide +kernel
theorem iX3_init_X3 : ∀ w ∈ u_ws RX3 TX3 3, w ∈ wsX3_init := by decide +kernel
theorem mX3_init_6 : Cond.fieldLink RX3 15 "Layerways$Net" "near" "[I" ∈ wsX3_init := by decide +kernel
theorem mX3_init_7 : Cond.fieldLink RX3 18 "Layerways$Net" "size" "I" ∈ wsX3_init := by decide +kernel
set_option maxRecDepth 100000 in
set_option maxHeartbeats 4000000 in
theorem kX3_init (l : Launch) (K : zK) (aN : Nat) : zM l K yX3_init wsX3_init ({ frames := 1, cells := 2, slots := 24, locals := 14 }) [.ref aN] [(aN, .inr (3, [.null, .null, .int 0]))] (fun _ : Nat × Nat => none) (fun u : Nat × Nat => [(aN, .inr (3, [.ref u.1, .ref u.2, .int 0])), (u.1, .inl (K.2 0, 12, .inl (fun _ => 0))), (u.2, .inl (K.2 0, 12, .inl (fun _ => 0)))]) 2 24 := by
  refine zM.intV (cc := cX3_init) (maxL := 1) (ret := none) rfl (by decide) (Nat.le_of_ble_eq_true rfl) rfl (fun _ => rfl) ?_
  intro G hGl hG hN hE
  show zj G 0 [(0, .ref aN)] [] [(aN, .inr (3, [.null, .null, .int 0]))] 0 0
  refine z_aload_n hG dX3_init_0 0 rfl ?_
  refine z_objInit hG dX3_init_1 mX3_init_0 mX3_init_1 mX3_init_2 (by decide) (Nat.le_of_ble_eq_true rfl) ?_
  refine z_aload_n hG dX3_init_4 0 rfl ?_
  refine z_bipush 12 hG dX3_init_5 (by decide) ?_
  refine z_newI (ws0 := []) (N' := 12) hG dX3_init_7 mX3_init_3 (by decide) (by decide) (by decide) (Nat.le_of_ble_eq_true rfl) (Nat.le_of_ble_eq_true rfl) (fun q1 => ?_)
  show zj G 9 [(0, .ref aN)] [.ref q1, .ref aN] [(aN, .inr (3, [.null, .null, .int 0])), (q1, .inl (K.2 0, 12, .inl (fun _ => 0)))] 1 12
  refine z_putF (ci := 3) (C := RX3) (T := TX3) (N := 3) (ws' := [(aN, .inr (3, [.ref q1, .null, .int 0])), (q1, .inl (K.2 0, 12, .inl (fun _ => 0)))]) hG (hN rfl) dX3_init_9 iX3_init_X3 tyX3_ok nmX3 0 (by decide) mX3_init_4 rfl rfl rfl rfl rfl rfl rfl 0 rfl (Nat.le_of_ble_eq_true rfl) rfl ?_
  refine z_aload_n hG dX3_init_12 0 rfl ?_
  refine z_bipush 12 hG dX3_init_13 (by decide) ?_
  refine z_newI (ws0 := []) (N' := 12) hG dX3_init_15 mX3_init_3 (by decide) (by decide) (by decide) (Nat.le_of_ble_eq_true rfl) (Nat.le_of_ble_eq_true rfl) (fun q2 => ?_)
  show zj G 17 [(0, .ref aN)] [.ref q2, .ref aN] [(aN, .inr (3, [.ref q1, .null, .int 0])), (q1, .inl (K.2 0, 12, .inl (fun _ => 0))), (q2, .inl (K.2 0, 12, .inl (fun _ => 0)))] 2 24
  refine z_putF (ci := 3) (C := RX3) (T := TX3) (N := 3) (ws' := [(aN, .inr (3, [.ref q1, .ref q2, .int 0])), (q1, .inl (K.2 0, 12, .inl (fun _ => 0))), (q2, .inl (K.2 0, 12, .inl (fun _ => 0)))]) hG (hN rfl) dX3_init_17 iX3_init_X3 tyX3_ok nmX3 1 (by decide) mX3_init_6 rfl rfl rfl rfl rfl rfl rfl 0 rfl (Nat.le_of_ble_eq_true rfl) rfl ?_
  refine z_aload_n hG dX3_init_20 0 rfl ?_
  refine z_iconst 0 hG dX3_init_21 (by decide) ?_
  refine z_put (ci := 3) (C := RX3) (T := TX3) (N := 3) (ws' := [(aN, .inr (3, [.ref q1, .ref q2, .int 0])), (q1, .inl (K.2 0, 12, .inl (fun _ => 0))), (q2, .inl (K.2 0, 12, .inl (fun _ => 0)))]) hG dX3_init_22 iX3_init_X3 tyX3_ok nmX3 2 (by decide) mX3_init_7 rfl rfl rfl rfl rfl rfl 0 rfl (Nat.le_of_ble_eq_true rfl) rfl ?_
  exact (hE (q1, q2) _ _ dX3_init_25)

theorem dX2_init_0 : decode cX2_init 0 = .ok (.aload_n 0, 1) := by decide +kernel
theorem dX2_init_1 : decode cX2_init 1 = .ok (.invokespecial 3, 3) := by decide +kernel
theorem dX2_init_4 : decode cX2_init 4 = .ok (.aload_n 0, 1) := by decide +kernel
theorem dX2_init_5 : decode cX2_init 5 = .ok (.bipush 12, 2) := by decide +kernel
theorem dX2_init_7 : decode cX2_init 7 = .ok (.newarray .int, 2) := by decide +kernel
theorem dX2_init_9 : decode cX2_init 9 = .ok (.putfield 9, 3) := by decide +kernel
theorem dX2_init_12 : decode cX2_init 12 = .ok (.aload_n 0, 1) := by decide +kernel
theorem dX2_init_13 : decode cX2_init 13 = .ok (.bipush 12, 2) := by decide +kernel
theorem dX2_init_15 : decode cX2_init 15 = .ok (.newarray .int, 2) := by decide +kernel
theorem dX2_init_17 : decode cX2_init 17 = .ok (.putfield 15, 3) := by decide +kernel
theorem dX2_init_20 : decode cX2_init 20 = .ok (.aload_n 0, 1) := by decide +kernel
theorem dX2_init_21 : decode cX2_init 21 = .ok (.bipush 12, 2) := by decide +kernel
theorem dX2_init_23 : decode cX2_init 23 = .ok (.newarray .int, 2) := by decide +kernel
theorem dX2_init_25 : decode cX2_init 25 = .ok (.putfield 18, 3) := by decide +kernel
theorem dX2_init_28 : decode cX2_init 28 = .ok (.aload_n 0, 1) := by decide +kernel
theorem dX2_init_29 : decode cX2_init 29 = .ok (.iconst 0, 1) := by decide +kernel
theorem dX2_init_30 : decode cX2_init 30 = .ok (.putfield 21, 3) := by decide +kernel
theorem dX2_init_33 : decode cX2_init 33 = .ok (.return_, 1) := by decide +kernel
theorem mX2_init_0 : Cond.methodLink RX2 3 objectInit ∈ wsX2_init := by decide +kernel
theorem mX2_init_1 : Cond.instanceMethod objectInit ∈ wsX2_init := by decide +kernel
theorem mX2_init_2 : Cond.code objectInit ⟨#[0xb1]⟩ 1 none ∈ wsX2_init := by decide +kernel
theorem mX2_init_3 : Cond.arrayClass .int ∈ wsX2_init := by decide +kernel
theorem mX2_init_4 : Cond.fieldLink RX2 9 "Layerways$Layers" "lengths" "[I" ∈ wsX2_init := by decide +kernel
theorem iX2_init_X2 : ∀ w ∈ u_ws RX2 TX2 4, w ∈ wsX2_init := by decide +kernel
theorem mX2_init_6 : Cond.fieldLink RX2 15 "Layerways$Layers" "counts" "[I" ∈ wsX2_init := by decide +kernel
theorem mX2_init_7 : Cond.fieldLink RX2 18 "Layerways$Layers" "queue" "[I" ∈ wsX2_init := by decide +kernel
theorem mX2_init_8 : Cond.fieldLink RX2 21 "Layerways$Layers" "come" "I" ∈ wsX2_init := by decide +kernel
set_option maxRecDepth 100000 in
set_option maxHeartbeats 4000000 in
theorem kX2_init (l : Launch) (K : zK) (aY : Nat) : zM l K yX2_init wsX2_init ({ frames := 1, cells := 3, slots := 36, locals := 14 }) [.ref aY] [(aY, .inr (2, [.null, .null, .null, .int 0]))] (fun _ : Nat × Nat × Nat => none) (fun u : Nat × Nat × Nat => [(aY, .inr (2, [.ref u.1, .ref u.2.1, .ref u.2.2, .int 0])), (u.1, .inl (K.2 0, 12, .inl (fun _ => 0))), (u.2.1, .inl (K.2 0, 12, .inl (fun _ => 0))), (u.2.2, .inl (K.2 0, 12, .inl (fun _ => 0)))]) 3 36 := by
  refine zM.intV (cc := cX2_init) (maxL := 1) (ret := none) rfl (by decide) (Nat.le_of_ble_eq_true rfl) rfl (fun _ => rfl) ?_
  intro G hGl hG hN hE
  show zj G 0 [(0, .ref aY)] [] [(aY, .inr (2, [.null, .null, .null, .int 0]))] 0 0
  refine z_aload_n hG dX2_init_0 0 rfl ?_
  refine z_objInit hG dX2_init_1 mX2_init_0 mX2_init_1 mX2_init_2 (by decide) (Nat.le_of_ble_eq_true rfl) ?_
  refine z_aload_n hG dX2_init_4 0 rfl ?_
  refine z_bipush 12 hG dX2_init_5 (by decide) ?_
  refine z_newI (ws0 := []) (N' := 12) hG dX2_init_7 mX2_init_3 (by decide) (by decide) (by decide) (Nat.le_of_ble_eq_true rfl) (Nat.le_of_ble_eq_true rfl) (fun q1 => ?_)
  show zj G 9 [(0, .ref aY)] [.ref q1, .ref aY] [(aY, .inr (2, [.null, .null, .null, .int 0])), (q1, .inl (K.2 0, 12, .inl (fun _ => 0)))] 1 12
  refine z_putF (ci := 2) (C := RX2) (T := TX2) (N := 4) (ws' := [(aY, .inr (2, [.ref q1, .null, .null, .int 0])), (q1, .inl (K.2 0, 12, .inl (fun _ => 0)))]) hG (hN rfl) dX2_init_9 iX2_init_X2 tyX2_ok nmX2 0 (by decide) mX2_init_4 rfl rfl rfl rfl rfl rfl rfl 0 rfl (Nat.le_of_ble_eq_true rfl) rfl ?_
  refine z_aload_n hG dX2_init_12 0 rfl ?_
  refine z_bipush 12 hG dX2_init_13 (by decide) ?_
  refine z_newI (ws0 := []) (N' := 12) hG dX2_init_15 mX2_init_3 (by decide) (by decide) (by decide) (Nat.le_of_ble_eq_true rfl) (Nat.le_of_ble_eq_true rfl) (fun q2 => ?_)
  show zj G 17 [(0, .ref aY)] [.ref q2, .ref aY] [(aY, .inr (2, [.ref q1, .null, .null, .int 0])), (q1, .inl (K.2 0, 12, .inl (fun _ => 0))), (q2, .inl (K.2 0, 12, .inl (fun _ => 0)))] 2 24
  refine z_putF (ci := 2) (C := RX2) (T := TX2) (N := 4) (ws' := [(aY, .inr (2, [.ref q1, .ref q2, .null, .int 0])), (q1, .inl (K.2 0, 12, .inl (fun _ => 0))), (q2, .inl (K.2 0, 12, .inl (fun _ => 0)))]) hG (hN rfl) dX2_init_17 iX2_init_X2 tyX2_ok nmX2 1 (by decide) mX2_init_6 rfl rfl rfl rfl rfl rfl rfl 0 rfl (Nat.le_of_ble_eq_true rfl) rfl ?_
  refine z_aload_n hG dX2_init_20 0 rfl ?_
  refine z_bipush 12 hG dX2_init_21 (by decide) ?_
  refine z_newI (ws0 := []) (N' := 12) hG dX2_init_23 mX2_init_3 (by decide) (by decide) (by decide) (Nat.le_of_ble_eq_true rfl) (Nat.le_of_ble_eq_true rfl) (fun q3 => ?_)
  show zj G 25 [(0, .ref aY)] [.ref q3, .ref aY] [(aY, .inr (2, [.ref q1, .ref q2, .null, .int 0])), (q1, .inl (K.2 0, 12, .inl (fun _ => 0))), (q2, .inl (K.2 0, 12, .inl (fun _ => 0))), (q3, .inl (K.2 0, 12, .inl (fun _ => 0)))] 3 36
  refine z_putF (ci := 2) (C := RX2) (T := TX2) (N := 4) (ws' := [(aY, .inr (2, [.ref q1, .ref q2, .ref q3, .int 0])), (q1, .inl (K.2 0, 12, .inl (fun _ => 0))), (q2, .inl (K.2 0, 12, .inl (fun _ => 0))), (q3, .inl (K.2 0, 12, .inl (fun _ => 0)))]) hG (hN rfl) dX2_init_25 iX2_init_X2 tyX2_ok nmX2 2 (by decide) mX2_init_7 rfl rfl rfl rfl rfl rfl rfl 0 rfl (Nat.le_of_ble_eq_true rfl) rfl ?_
  refine z_aload_n hG dX2_init_28 0 rfl ?_
  refine z_iconst 0 hG dX2_init_29 (by decide) ?_
  refine z_put (ci := 2) (C := RX2) (T := TX2) (N := 4) (ws' := [(aY, .inr (2, [.ref q1, .ref q2, .ref q3, .int 0])), (q1, .inl (K.2 0, 12, .inl (fun _ => 0))), (q2, .inl (K.2 0, 12, .inl (fun _ => 0))), (q3, .inl (K.2 0, 12, .inl (fun _ => 0)))]) hG dX2_init_30 iX2_init_X2 tyX2_ok nmX2 3 (by decide) mX2_init_8 rfl rfl rfl rfl rfl rfl 0 rfl (Nat.le_of_ble_eq_true rfl) rfl ?_
  exact (hE (q1, q2, q3) _ _ dX2_init_33)

theorem dX1_init_0 : decode cX1_init 0 = .ok (.aload_n 0, 1) := by decide +kernel
theorem dX1_init_1 : decode cX1_init 1 = .ok (.invokespecial 3, 3) := by decide +kernel
theorem dX1_init_4 : decode cX1_init 4 = .ok (.aload_n 0, 1) := by decide +kernel
theorem dX1_init_5 : decode cX1_init 5 = .ok (.bipush 12, 2) := by decide +kernel
theorem dX1_init_7 : decode cX1_init 7 = .ok (.newarray .int, 2) := by decide +kernel
theorem dX1_init_9 : decode cX1_init 9 = .ok (.putfield 9, 3) := by decide +kernel
theorem dX1_init_12 : decode cX1_init 12 = .ok (.aload_n 0, 1) := by decide +kernel
theorem dX1_init_13 : decode cX1_init 13 = .ok (.iconst 0, 1) := by decide +kernel
theorem dX1_init_14 : decode cX1_init 14 = .ok (.putfield 15, 3) := by decide +kernel
theorem dX1_init_17 : decode cX1_init 17 = .ok (.aload_n 0, 1) := by decide +kernel
theorem dX1_init_18 : decode cX1_init 18 = .ok (.iconst 1, 1) := by decide +kernel
theorem dX1_init_19 : decode cX1_init 19 = .ok (.putfield 19, 3) := by decide +kernel
theorem dX1_init_22 : decode cX1_init 22 = .ok (.return_, 1) := by decide +kernel
theorem mX1_init_0 : Cond.methodLink RX1 3 objectInit ∈ wsX1_init := by decide +kernel
theorem mX1_init_1 : Cond.instanceMethod objectInit ∈ wsX1_init := by decide +kernel
theorem mX1_init_2 : Cond.code objectInit ⟨#[0xb1]⟩ 1 none ∈ wsX1_init := by decide +kernel
theorem mX1_init_3 : Cond.arrayClass .int ∈ wsX1_init := by decide +kernel
theorem mX1_init_4 : Cond.fieldLink RX1 9 "Layerways$Colours" "tints" "[I" ∈ wsX1_init := by decide +kernel
theorem iX1_init_X1 : ∀ w ∈ u_ws RX1 TX1 3, w ∈ wsX1_init := by decide +kernel
theorem mX1_init_6 : Cond.fieldLink RX1 15 "Layerways$Colours" "parts" "I" ∈ wsX1_init := by decide +kernel
theorem mX1_init_7 : Cond.fieldLink RX1 19 "Layerways$Colours" "two" "Z" ∈ wsX1_init := by decide +kernel
set_option maxRecDepth 100000 in
set_option maxHeartbeats 4000000 in
theorem kX1_init (l : Launch) (K : zK) (aC : Nat) : zM l K yX1_init wsX1_init ({ frames := 1, cells := 1, slots := 12, locals := 14 }) [.ref aC] [(aC, .inr (1, [.null, .int 0, .int 0]))] (fun _ : Nat => none) (fun u : Nat => [(aC, .inr (1, [.ref u, .int 0, .int 1])), (u, .inl (K.2 0, 12, .inl (fun _ => 0)))]) 1 12 := by
  refine zM.intV (cc := cX1_init) (maxL := 1) (ret := none) rfl (by decide) (Nat.le_of_ble_eq_true rfl) rfl (fun _ => rfl) ?_
  intro G hGl hG hN hE
  show zj G 0 [(0, .ref aC)] [] [(aC, .inr (1, [.null, .int 0, .int 0]))] 0 0
  refine z_aload_n hG dX1_init_0 0 rfl ?_
  refine z_objInit hG dX1_init_1 mX1_init_0 mX1_init_1 mX1_init_2 (by decide) (Nat.le_of_ble_eq_true rfl) ?_
  refine z_aload_n hG dX1_init_4 0 rfl ?_
  refine z_bipush 12 hG dX1_init_5 (by decide) ?_
  refine z_newI (ws0 := []) (N' := 12) hG dX1_init_7 mX1_init_3 (by decide) (by decide) (by decide) (Nat.le_of_ble_eq_true rfl) (Nat.le_of_ble_eq_true rfl) (fun q1 => ?_)
  show zj G 9 [(0, .ref aC)] [.ref q1, .ref aC] [(aC, .inr (1, [.null, .int 0, .int 0])), (q1, .inl (K.2 0, 12, .inl (fun _ => 0)))] 1 12
  refine z_putF (ci := 1) (C := RX1) (T := TX1) (N := 3) (ws' := [(aC, .inr (1, [.ref q1, .int 0, .int 0])), (q1, .inl (K.2 0, 12, .inl (fun _ => 0)))]) hG (hN rfl) dX1_init_9 iX1_init_X1 tyX1_ok nmX1 0 (by decide) mX1_init_4 rfl rfl rfl rfl rfl rfl rfl 0 rfl (Nat.le_of_ble_eq_true rfl) rfl ?_
  refine z_aload_n hG dX1_init_12 0 rfl ?_
  refine z_iconst 0 hG dX1_init_13 (by decide) ?_
  refine z_put (ci := 1) (C := RX1) (T := TX1) (N := 3) (ws' := [(aC, .inr (1, [.ref q1, .int 0, .int 0])), (q1, .inl (K.2 0, 12, .inl (fun _ => 0)))]) hG dX1_init_14 iX1_init_X1 tyX1_ok nmX1 1 (by decide) mX1_init_6 rfl rfl rfl rfl rfl rfl 0 rfl (Nat.le_of_ble_eq_true rfl) rfl ?_
  refine z_aload_n hG dX1_init_17 0 rfl ?_
  refine z_iconst 1 hG dX1_init_18 (by decide) ?_
  refine z_put (ci := 1) (C := RX1) (T := TX1) (N := 3) (ws' := [(aC, .inr (1, [.ref q1, .int 0, .int 1])), (q1, .inl (K.2 0, 12, .inl (fun _ => 0)))]) hG dX1_init_19 iX1_init_X1 tyX1_ok nmX1 2 (by decide) mX1_init_7 rfl rfl rfl rfl rfl rfl 0 rfl (Nat.le_of_ble_eq_true rfl) rfl ?_
  exact (hE q1 _ _ dX1_init_22)

theorem dX4_init_0 : decode cX4_init 0 = .ok (.aload_n 0, 1) := by decide +kernel
theorem dX4_init_1 : decode cX4_init 1 = .ok (.invokespecial 3, 3) := by decide +kernel
theorem dX4_init_4 : decode cX4_init 4 = .ok (.aload_n 0, 1) := by decide +kernel
theorem dX4_init_5 : decode cX4_init 5 = .ok (.bipush 12, 2) := by decide +kernel
theorem dX4_init_7 : decode cX4_init 7 = .ok (.newarray .int, 2) := by decide +kernel
theorem dX4_init_9 : decode cX4_init 9 = .ok (.putfield 9, 3) := by decide +kernel
theorem dX4_init_12 : decode cX4_init 12 = .ok (.aload_n 0, 1) := by decide +kernel
theorem dX4_init_13 : decode cX4_init 13 = .ok (.bipush 13, 2) := by decide +kernel
theorem dX4_init_15 : decode cX4_init 15 = .ok (.newarray .int, 2) := by decide +kernel
theorem dX4_init_17 : decode cX4_init 17 = .ok (.putfield 15, 3) := by decide +kernel
theorem dX4_init_20 : decode cX4_init 20 = .ok (.aload_n 0, 1) := by decide +kernel
theorem dX4_init_21 : decode cX4_init 21 = .ok (.iconst 0, 1) := by decide +kernel
theorem dX4_init_22 : decode cX4_init 22 = .ok (.putfield 18, 3) := by decide +kernel
theorem dX4_init_25 : decode cX4_init 25 = .ok (.return_, 1) := by decide +kernel
theorem mX4_init_0 : Cond.methodLink RX4 3 objectInit ∈ wsX4_init := by decide +kernel
theorem mX4_init_1 : Cond.instanceMethod objectInit ∈ wsX4_init := by decide +kernel
theorem mX4_init_2 : Cond.code objectInit ⟨#[0xb1]⟩ 1 none ∈ wsX4_init := by decide +kernel
theorem mX4_init_3 : Cond.arrayClass .int ∈ wsX4_init := by decide +kernel
theorem mX4_init_4 : Cond.fieldLink RX4 9 "Layerways$OddRing" "row" "[I" ∈ wsX4_init := by decide +kernel
theorem iX4_init_X4 : ∀ w ∈ u_ws RX4 TX4 3, w ∈ wsX4_init := by decide +kernel
theorem mX4_init_6 : Cond.fieldLink RX4 15 "Layerways$OddRing" "reach" "[I" ∈ wsX4_init := by decide +kernel
theorem mX4_init_7 : Cond.fieldLink RX4 18 "Layerways$OddRing" "size" "I" ∈ wsX4_init := by decide +kernel
set_option maxRecDepth 100000 in
set_option maxHeartbeats 4000000 in
theorem kX4_init (l : Launch) (K : zK) (aO : Nat) : zM l K yX4_init wsX4_init ({ frames := 1, cells := 2, slots := 25, locals := 14 }) [.ref aO] [(aO, .inr (4, [.null, .null, .int 0]))] (fun _ : Nat × Nat => none) (fun u : Nat × Nat => [(aO, .inr (4, [.ref u.1, .ref u.2, .int 0])), (u.1, .inl (K.2 0, 12, .inl (fun _ => 0))), (u.2, .inl (K.2 0, 13, .inl (fun _ => 0)))]) 2 25 := by
  refine zM.intV (cc := cX4_init) (maxL := 1) (ret := none) rfl (by decide) (Nat.le_of_ble_eq_true rfl) rfl (fun _ => rfl) ?_
  intro G hGl hG hN hE
  show zj G 0 [(0, .ref aO)] [] [(aO, .inr (4, [.null, .null, .int 0]))] 0 0
  refine z_aload_n hG dX4_init_0 0 rfl ?_
  refine z_objInit hG dX4_init_1 mX4_init_0 mX4_init_1 mX4_init_2 (by decide) (Nat.le_of_ble_eq_true rfl) ?_
  refine z_aload_n hG dX4_init_4 0 rfl ?_
  refine z_bipush 12 hG dX4_init_5 (by decide) ?_
  refine z_newI (ws0 := []) (N' := 12) hG dX4_init_7 mX4_init_3 (by decide) (by decide) (by decide) (Nat.le_of_ble_eq_true rfl) (Nat.le_of_ble_eq_true rfl) (fun q1 => ?_)
  show zj G 9 [(0, .ref aO)] [.ref q1, .ref aO] [(aO, .inr (4, [.null, .null, .int 0])), (q1, .inl (K.2 0, 12, .inl (fun _ => 0)))] 1 12
  refine z_putF (ci := 4) (C := RX4) (T := TX4) (N := 3) (ws' := [(aO, .inr (4, [.ref q1, .null, .int 0])), (q1, .inl (K.2 0, 12, .inl (fun _ => 0)))]) hG (hN rfl) dX4_init_9 iX4_init_X4 tyX4_ok nmX4 0 (by decide) mX4_init_4 rfl rfl rfl rfl rfl rfl rfl 0 rfl (Nat.le_of_ble_eq_true rfl) rfl ?_
  refine z_aload_n hG dX4_init_12 0 rfl ?_
  refine z_bipush 13 hG dX4_init_13 (by decide) ?_
  refine z_newI (ws0 := []) (N' := 13) hG dX4_init_15 mX4_init_3 (by decide) (by decide) (by decide) (Nat.le_of_ble_eq_true rfl) (Nat.le_of_ble_eq_true rfl) (fun q2 => ?_)
  show zj G 17 [(0, .ref aO)] [.ref q2, .ref aO] [(aO, .inr (4, [.ref q1, .null, .int 0])), (q1, .inl (K.2 0, 12, .inl (fun _ => 0))), (q2, .inl (K.2 0, 13, .inl (fun _ => 0)))] 2 25
  refine z_putF (ci := 4) (C := RX4) (T := TX4) (N := 3) (ws' := [(aO, .inr (4, [.ref q1, .ref q2, .int 0])), (q1, .inl (K.2 0, 12, .inl (fun _ => 0))), (q2, .inl (K.2 0, 13, .inl (fun _ => 0)))]) hG (hN rfl) dX4_init_17 iX4_init_X4 tyX4_ok nmX4 1 (by decide) mX4_init_6 rfl rfl rfl rfl rfl rfl rfl 0 rfl (Nat.le_of_ble_eq_true rfl) rfl ?_
  refine z_aload_n hG dX4_init_20 0 rfl ?_
  refine z_iconst 0 hG dX4_init_21 (by decide) ?_
  refine z_put (ci := 4) (C := RX4) (T := TX4) (N := 3) (ws' := [(aO, .inr (4, [.ref q1, .ref q2, .int 0])), (q1, .inl (K.2 0, 12, .inl (fun _ => 0))), (q2, .inl (K.2 0, 13, .inl (fun _ => 0)))]) hG dX4_init_22 iX4_init_X4 tyX4_ok nmX4 2 (by decide) mX4_init_7 rfl rfl rfl rfl rfl rfl 0 rfl (Nat.le_of_ble_eq_true rfl) rfl ?_
  exact (hE (q1, q2) _ _ dX4_init_25)

theorem dX0_init_0 : decode cX0_init 0 = .ok (.aload_n 0, 1) := by decide +kernel
theorem dX0_init_1 : decode cX0_init 1 = .ok (.invokespecial 3, 3) := by decide +kernel
theorem dX0_init_4 : decode cX0_init 4 = .ok (.aload_n 0, 1) := by decide +kernel
theorem dX0_init_5 : decode cX0_init 5 = .ok (.bipush 12, 2) := by decide +kernel
theorem dX0_init_7 : decode cX0_init 7 = .ok (.newarray .int, 2) := by decide +kernel
theorem dX0_init_9 : decode cX0_init 9 = .ok (.putfield 9, 3) := by decide +kernel
theorem dX0_init_12 : decode cX0_init 12 = .ok (.aload_n 0, 1) := by decide +kernel
theorem dX0_init_13 : decode cX0_init 13 = .ok (.bipush 12, 2) := by decide +kernel
theorem dX0_init_15 : decode cX0_init 15 = .ok (.newarray .int, 2) := by decide +kernel
theorem dX0_init_17 : decode cX0_init 17 = .ok (.putfield 15, 3) := by decide +kernel
theorem dX0_init_20 : decode cX0_init 20 = .ok (.aload_n 0, 1) := by decide +kernel
theorem dX0_init_21 : decode cX0_init 21 = .ok (.bipush 12, 2) := by decide +kernel
theorem dX0_init_23 : decode cX0_init 23 = .ok (.newarray .int, 2) := by decide +kernel
theorem dX0_init_25 : decode cX0_init 25 = .ok (.putfield 18, 3) := by decide +kernel
theorem dX0_init_28 : decode cX0_init 28 = .ok (.aload_n 0, 1) := by decide +kernel
theorem dX0_init_29 : decode cX0_init 29 = .ok (.iconst 0, 1) := by decide +kernel
theorem dX0_init_30 : decode cX0_init 30 = .ok (.putfield 21, 3) := by decide +kernel
theorem dX0_init_33 : decode cX0_init 33 = .ok (.return_, 1) := by decide +kernel
theorem mX0_init_0 : Cond.methodLink RX0 3 objectInit ∈ wsX0_init := by decide +kernel
theorem mX0_init_1 : Cond.instanceMethod objectInit ∈ wsX0_init := by decide +kernel
theorem mX0_init_2 : Cond.code objectInit ⟨#[0xb1]⟩ 1 none ∈ wsX0_init := by decide +kernel
theorem mX0_init_3 : Cond.arrayClass .int ∈ wsX0_init := by decide +kernel
theorem mX0_init_4 : Cond.fieldLink RX0 9 "Layerways$Change" "before" "[I" ∈ wsX0_init := by decide +kernel
theorem iX0_init_X0 : ∀ w ∈ u_ws RX0 TX0 4, w ∈ wsX0_init := by decide +kernel
theorem mX0_init_6 : Cond.fieldLink RX0 15 "Layerways$Change" "keys" "[I" ∈ wsX0_init := by decide +kernel
theorem mX0_init_7 : Cond.fieldLink RX0 18 "Layerways$Change" "were" "[I" ∈ wsX0_init := by decide +kernel
theorem mX0_init_8 : Cond.fieldLink RX0 21 "Layerways$Change" "size" "I" ∈ wsX0_init := by decide +kernel
set_option maxRecDepth 100000 in
set_option maxHeartbeats 4000000 in
theorem kX0_init (l : Launch) (K : zK) (aX : Nat) : zM l K yX0_init wsX0_init ({ frames := 1, cells := 3, slots := 36, locals := 14 }) [.ref aX] [(aX, .inr (0, [.null, .null, .null, .int 0]))] (fun _ : Nat × Nat × Nat => none) (fun u : Nat × Nat × Nat => [(aX, .inr (0, [.ref u.1, .ref u.2.1, .ref u.2.2, .int 0])), (u.1, .inl (K.2 0, 12, .inl (fun _ => 0))), (u.2.1, .inl (K.2 0, 12, .inl (fun _ => 0))), (u.2.2, .inl (K.2 0, 12, .inl (fun _ => 0)))]) 3 36 := by
  refine zM.intV (cc := cX0_init) (maxL := 1) (ret := none) rfl (by decide) (Nat.le_of_ble_eq_true rfl) rfl (fun _ => rfl) ?_
  intro G hGl hG hN hE
  show zj G 0 [(0, .ref aX)] [] [(aX, .inr (0, [.null, .null, .null, .int 0]))] 0 0
  refine z_aload_n hG dX0_init_0 0 rfl ?_
  refine z_objInit hG dX0_init_1 mX0_init_0 mX0_init_1 mX0_init_2 (by decide) (Nat.le_of_ble_eq_true rfl) ?_
  refine z_aload_n hG dX0_init_4 0 rfl ?_
  refine z_bipush 12 hG dX0_init_5 (by decide) ?_
  refine z_newI (ws0 := []) (N' := 12) hG dX0_init_7 mX0_init_3 (by decide) (by decide) (by decide) (Nat.le_of_ble_eq_true rfl) (Nat.le_of_ble_eq_true rfl) (fun q1 => ?_)
  show zj G 9 [(0, .ref aX)] [.ref q1, .ref aX] [(aX, .inr (0, [.null, .null, .null, .int 0])), (q1, .inl (K.2 0, 12, .inl (fun _ => 0)))] 1 12
  refine z_putF (ci := 0) (C := RX0) (T := TX0) (N := 4) (ws' := [(aX, .inr (0, [.ref q1, .null, .null, .int 0])), (q1, .inl (K.2 0, 12, .inl (fun _ => 0)))]) hG (hN rfl) dX0_init_9 iX0_init_X0 tyX0_ok nmX0 0 (by decide) mX0_init_4 rfl rfl rfl rfl rfl rfl rfl 0 rfl (Nat.le_of_ble_eq_true rfl) rfl ?_
  refine z_aload_n hG dX0_init_12 0 rfl ?_
  refine z_bipush 12 hG dX0_init_13 (by decide) ?_
  refine z_newI (ws0 := []) (N' := 12) hG dX0_init_15 mX0_init_3 (by decide) (by decide) (by decide) (Nat.le_of_ble_eq_true rfl) (Nat.le_of_ble_eq_true rfl) (fun q2 => ?_)
  show zj G 17 [(0, .ref aX)] [.ref q2, .ref aX] [(aX, .inr (0, [.ref q1, .null, .null, .int 0])), (q1, .inl (K.2 0, 12, .inl (fun _ => 0))), (q2, .inl (K.2 0, 12, .inl (fun _ => 0)))] 2 24
  refine z_putF (ci := 0) (C := RX0) (T := TX0) (N := 4) (ws' := [(aX, .inr (0, [.ref q1, .ref q2, .null, .int 0])), (q1, .inl (K.2 0, 12, .inl (fun _ => 0))), (q2, .inl (K.2 0, 12, .inl (fun _ => 0)))]) hG (hN rfl) dX0_init_17 iX0_init_X0 tyX0_ok nmX0 1 (by decide) mX0_init_6 rfl rfl rfl rfl rfl rfl rfl 0 rfl (Nat.le_of_ble_eq_true rfl) rfl ?_
  refine z_aload_n hG dX0_init_20 0 rfl ?_
  refine z_bipush 12 hG dX0_init_21 (by decide) ?_
  refine z_newI (ws0 := []) (N' := 12) hG dX0_init_23 mX0_init_3 (by decide) (by decide) (by decide) (Nat.le_of_ble_eq_true rfl) (Nat.le_of_ble_eq_true rfl) (fun q3 => ?_)
  show zj G 25 [(0, .ref aX)] [.ref q3, .ref aX] [(aX, .inr (0, [.ref q1, .ref q2, .null, .int 0])), (q1, .inl (K.2 0, 12, .inl (fun _ => 0))), (q2, .inl (K.2 0, 12, .inl (fun _ => 0))), (q3, .inl (K.2 0, 12, .inl (fun _ => 0)))] 3 36
  refine z_putF (ci := 0) (C := RX0) (T := TX0) (N := 4) (ws' := [(aX, .inr (0, [.ref q1, .ref q2, .ref q3, .int 0])), (q1, .inl (K.2 0, 12, .inl (fun _ => 0))), (q2, .inl (K.2 0, 12, .inl (fun _ => 0))), (q3, .inl (K.2 0, 12, .inl (fun _ => 0)))]) hG (hN rfl) dX0_init_25 iX0_init_X0 tyX0_ok nmX0 2 (by decide) mX0_init_7 rfl rfl rfl rfl rfl rfl rfl 0 rfl (Nat.le_of_ble_eq_true rfl) rfl ?_
  refine z_aload_n hG dX0_init_28 0 rfl ?_
  refine z_iconst 0 hG dX0_init_29 (by decide) ?_
  refine z_put (ci := 0) (C := RX0) (T := TX0) (N := 4) (ws' := [(aX, .inr (0, [.ref q1, .ref q2, .ref q3, .int 0])), (q1, .inl (K.2 0, 12, .inl (fun _ => 0))), (q2, .inl (K.2 0, 12, .inl (fun _ => 0))), (q3, .inl (K.2 0, 12, .inl (fun _ => 0)))]) hG dX0_init_30 iX0_init_X0 tyX0_ok nmX0 3 (by decide) mX0_init_8 rfl rfl rfl rfl rfl rfl 0 rfl (Nat.le_of_ble_eq_true rfl) rfl ?_
  exact (hE (q1, q2, q3) _ _ dX0_init_33)

theorem dX5_init_0 : decode cX5_init 0 = .ok (.aload_n 0, 1) := by decide +kernel
theorem dX5_init_1 : decode cX5_init 1 = .ok (.invokespecial 1, 3) := by decide +kernel
theorem dX5_init_4 : decode cX5_init 4 = .ok (.aload_n 0, 1) := by decide +kernel
theorem dX5_init_5 : decode cX5_init 5 = .ok (.new 7, 3) := by decide +kernel
theorem dX5_init_8 : decode cX5_init 8 = .ok (.dup, 1) := by decide +kernel
theorem dX5_init_9 : decode cX5_init 9 = .ok (.invokespecial 9, 3) := by decide +kernel
theorem dX5_init_12 : decode cX5_init 12 = .ok (.putfield 10, 3) := by decide +kernel
theorem dX5_init_15 : decode cX5_init 15 = .ok (.aload_n 0, 1) := by decide +kernel
theorem dX5_init_16 : decode cX5_init 16 = .ok (.new 16, 3) := by decide +kernel
theorem dX5_init_19 : decode cX5_init 19 = .ok (.dup, 1) := by decide +kernel
theorem dX5_init_20 : decode cX5_init 20 = .ok (.invokespecial 18, 3) := by decide +kernel
theorem dX5_init_23 : decode cX5_init 23 = .ok (.putfield 19, 3) := by decide +kernel
theorem dX5_init_26 : decode cX5_init 26 = .ok (.aload_n 0, 1) := by decide +kernel
theorem dX5_init_27 : decode cX5_init 27 = .ok (.new 16, 3) := by decide +kernel
theorem dX5_init_30 : decode cX5_init 30 = .ok (.dup, 1) := by decide +kernel
theorem dX5_init_31 : decode cX5_init 31 = .ok (.invokespecial 18, 3) := by decide +kernel
theorem dX5_init_34 : decode cX5_init 34 = .ok (.putfield 23, 3) := by decide +kernel
theorem dX5_init_37 : decode cX5_init 37 = .ok (.aload_n 0, 1) := by decide +kernel
theorem dX5_init_38 : decode cX5_init 38 = .ok (.new 26, 3) := by decide +kernel
theorem dX5_init_41 : decode cX5_init 41 = .ok (.dup, 1) := by decide +kernel
theorem dX5_init_42 : decode cX5_init 42 = .ok (.invokespecial 28, 3) := by decide +kernel
theorem dX5_init_45 : decode cX5_init 45 = .ok (.putfield 29, 3) := by decide +kernel
theorem dX5_init_48 : decode cX5_init 48 = .ok (.aload_n 0, 1) := by decide +kernel
theorem dX5_init_49 : decode cX5_init 49 = .ok (.new 33, 3) := by decide +kernel
theorem dX5_init_52 : decode cX5_init 52 = .ok (.dup, 1) := by decide +kernel
theorem dX5_init_53 : decode cX5_init 53 = .ok (.invokespecial 35, 3) := by decide +kernel
theorem dX5_init_56 : decode cX5_init 56 = .ok (.putfield 36, 3) := by decide +kernel
theorem dX5_init_59 : decode cX5_init 59 = .ok (.aload_n 0, 1) := by decide +kernel
theorem dX5_init_60 : decode cX5_init 60 = .ok (.new 40, 3) := by decide +kernel
theorem dX5_init_63 : decode cX5_init 63 = .ok (.dup, 1) := by decide +kernel
theorem dX5_init_64 : decode cX5_init 64 = .ok (.invokespecial 42, 3) := by decide +kernel
theorem dX5_init_67 : decode cX5_init 67 = .ok (.putfield 43, 3) := by decide +kernel
theorem dX5_init_70 : decode cX5_init 70 = .ok (.aload_n 0, 1) := by decide +kernel
theorem dX5_init_71 : decode cX5_init 71 = .ok (.iconst 0, 1) := by decide +kernel
theorem dX5_init_72 : decode cX5_init 72 = .ok (.putfield 47, 3) := by decide +kernel
theorem dX5_init_75 : decode cX5_init 75 = .ok (.aload_n 0, 1) := by decide +kernel
theorem dX5_init_76 : decode cX5_init 76 = .ok (.iconst 0, 1) := by decide +kernel
theorem dX5_init_77 : decode cX5_init 77 = .ok (.putfield 51, 3) := by decide +kernel
theorem dX5_init_80 : decode cX5_init 80 = .ok (.return_, 1) := by decide +kernel
set_option maxRecDepth 20000 in
theorem ggX5_init_X3_init : GoodIn wsX5_init wsX3_init := goodIn_r _ [28, 29, 2, 3, 30, 31, 32, 33, 60, 61, 62] (by decide +kernel) (by decide +kernel)
set_option maxRecDepth 20000 in
theorem gX5_init_X3_init_n9 : GoodIn wsX5_init (wsX3_init) := ggX5_init_X3_init
set_option maxRecDepth 20000 in
theorem ggX5_init_X2_init : GoodIn wsX5_init wsX2_init := goodIn_r _ [35, 36, 2, 3, 30, 37, 38, 39, 40, 71, 72, 73, 74] (by decide +kernel) (by decide +kernel)
set_option maxRecDepth 20000 in
theorem gX5_init_X2_init_n18 : GoodIn wsX5_init (wsX2_init) := ggX5_init_X2_init
set_option maxRecDepth 20000 in
theorem ggX5_init_X1_init : GoodIn wsX5_init wsX1_init := goodIn_r _ [42, 43, 2, 3, 30, 44, 45, 46, 75, 76, 77] (by decide +kernel) (by decide +kernel)
set_option maxRecDepth 20000 in
theorem gX5_init_X1_init_n28 : GoodIn wsX5_init (wsX1_init) := ggX5_init_X1_init
set_option maxRecDepth 20000 in
theorem ggX5_init_X4_init : GoodIn wsX5_init wsX4_init := goodIn_r _ [48, 49, 2, 3, 30, 50, 51, 52, 78, 79, 80] (by decide +kernel) (by decide +kernel)
set_option maxRecDepth 20000 in
theorem gX5_init_X4_init_n35 : GoodIn wsX5_init (wsX4_init) := ggX5_init_X4_init
set_option maxRecDepth 20000 in
theorem ggX5_init_X0_init : GoodIn wsX5_init wsX0_init := goodIn_r _ [54, 55, 2, 3, 30, 56, 57, 58, 59, 81, 82, 83, 84] (by decide +kernel) (by decide +kernel)
set_option maxRecDepth 20000 in
theorem gX5_init_X0_init_n42 : GoodIn wsX5_init (wsX0_init) := ggX5_init_X0_init
theorem mX5_init_0 : Cond.methodLink RX5 1 objectInit ∈ wsX5_init := by decide +kernel
theorem mX5_init_1 : Cond.instanceMethod objectInit ∈ wsX5_init := by decide +kernel
theorem mX5_init_2 : Cond.code objectInit ⟨#[0xb1]⟩ 1 none ∈ wsX5_init := by decide +kernel
theorem mX5_init_3 : Cond.classLink RX5 7 RX3 ∈ wsX5_init := by decide +kernel
theorem mX5_init_4 : Cond.instantiable RX3 3 ∈ wsX5_init := by decide +kernel
theorem mX5_init_5 : Cond.initialized RX3 ∈ wsX5_init := by decide +kernel
theorem iX5_init_X3 : ∀ w ∈ u_ws RX3 TX3 3, w ∈ wsX5_init := by decide +kernel
theorem mX5_init_7 : Cond.instanceMethod yX3_init ∈ wsX5_init := by decide +kernel
theorem mX5_init_8 : Cond.fieldLink RX5 10 "Layerways" "net" "LLayerways$Net;" ∈ wsX5_init := by decide +kernel
theorem iX5_init_X5 : ∀ w ∈ u_ws RX5 TX5 8, w ∈ wsX5_init := by decide +kernel
theorem mX5_init_10 : Cond.classLink RX5 16 RX2 ∈ wsX5_init := by decide +kernel
theorem mX5_init_11 : Cond.instantiable RX2 4 ∈ wsX5_init := by decide +kernel
theorem mX5_init_12 : Cond.initialized RX2 ∈ wsX5_init := by decide +kernel
theorem iX5_init_X2 : ∀ w ∈ u_ws RX2 TX2 4, w ∈ wsX5_init := by decide +kernel
theorem mX5_init_14 : Cond.instanceMethod yX2_init ∈ wsX5_init := by decide +kernel
theorem mX5_init_15 : Cond.fieldLink RX5 19 "Layerways" "fromStart" "LLayerways$Layers;" ∈ wsX5_init := by decide +kernel
theorem mX5_init_16 : Cond.fieldLink RX5 23 "Layerways" "aside" "LLayerways$Layers;" ∈ wsX5_init := by decide +kernel
theorem mX5_init_17 : Cond.classLink RX5 26 RX1 ∈ wsX5_init := by decide +kernel
theorem mX5_init_18 : Cond.instantiable RX1 3 ∈ wsX5_init := by decide +kernel
theorem mX5_init_19 : Cond.initialized RX1 ∈ wsX5_init := by decide +kernel
theorem iX5_init_X1 : ∀ w ∈ u_ws RX1 TX1 3, w ∈ wsX5_init := by decide +kernel
theorem mX5_init_21 : Cond.instanceMethod yX1_init ∈ wsX5_init := by decide +kernel
theorem mX5_init_22 : Cond.fieldLink RX5 29 "Layerways" "colours" "LLayerways$Colours;" ∈ wsX5_init := by decide +kernel
theorem mX5_init_23 : Cond.classLink RX5 33 RX4 ∈ wsX5_init := by decide +kernel
theorem mX5_init_24 : Cond.instantiable RX4 3 ∈ wsX5_init := by decide +kernel
theorem mX5_init_25 : Cond.initialized RX4 ∈ wsX5_init := by decide +kernel
theorem iX5_init_X4 : ∀ w ∈ u_ws RX4 TX4 3, w ∈ wsX5_init := by decide +kernel
theorem mX5_init_27 : Cond.instanceMethod yX4_init ∈ wsX5_init := by decide +kernel
theorem mX5_init_28 : Cond.fieldLink RX5 36 "Layerways" "oddRing" "LLayerways$OddRing;" ∈ wsX5_init := by decide +kernel
theorem mX5_init_29 : Cond.classLink RX5 40 RX0 ∈ wsX5_init := by decide +kernel
theorem mX5_init_30 : Cond.instantiable RX0 4 ∈ wsX5_init := by decide +kernel
theorem mX5_init_31 : Cond.initialized RX0 ∈ wsX5_init := by decide +kernel
theorem iX5_init_X0 : ∀ w ∈ u_ws RX0 TX0 4, w ∈ wsX5_init := by decide +kernel
theorem mX5_init_33 : Cond.instanceMethod yX0_init ∈ wsX5_init := by decide +kernel
theorem mX5_init_34 : Cond.fieldLink RX5 43 "Layerways" "change" "LLayerways$Change;" ∈ wsX5_init := by decide +kernel
theorem mX5_init_35 : Cond.fieldLink RX5 47 "Layerways" "begun" "Z" ∈ wsX5_init := by decide +kernel
theorem mX5_init_36 : Cond.fieldLink RX5 51 "Layerways" "startKey" "I" ∈ wsX5_init := by decide +kernel
set_option maxRecDepth 100000 in
set_option maxHeartbeats 4000000 in
theorem kX5_init (l : Launch) (K : zK) (aH : Nat) : zM l K yX5_init wsX5_init ({ frames := 2, cells := 20, slots := 400, locals := 34 }) [.ref aH] [(aH, .inr (5, [.null, .null, .null, .null, .null, .null, .int 0, .int 0]))] (fun _ : Nat × Nat × Nat × Nat × Nat × Nat × Nat × Nat × Nat × Nat × Nat × Nat × Nat × Nat × Nat × Nat × Nat × Nat × Nat × Nat => none) (fun u : Nat × Nat × Nat × Nat × Nat × Nat × Nat × Nat × Nat × Nat × Nat × Nat × Nat × Nat × Nat × Nat × Nat × Nat × Nat × Nat => [(aH, .inr (5, [.ref u.1, .ref u.2.2.2.1, .ref u.2.2.2.2.2.2.2.1, .ref u.2.2.2.2.2.2.2.2.2.2.2.1, .ref u.2.2.2.2.2.2.2.2.2.2.2.2.2.1, .ref u.2.2.2.2.2.2.2.2.2.2.2.2.2.2.2.2.1, .int 0, .int 0])), (u.1, .inr (3, [.ref u.2.1, .ref u.2.2.1, .int 0])), (u.2.1, .inl (K.2 0, 12, .inl (fun _ => 0))), (u.2.2.1, .inl (K.2 0, 12, .inl (fun _ => 0))), (u.2.2.2.1, .inr (2, [.ref u.2.2.2.2.1, .ref u.2.2.2.2.2.1, .ref u.2.2.2.2.2.2.1, .int 0])), (u.2.2.2.2.1, .inl (K.2 0, 12, .inl (fun _ => 0))), (u.2.2.2.2.2.1, .inl (K.2 0, 12, .inl (fun _ => 0))), (u.2.2.2.2.2.2.1, .inl (K.2 0, 12, .inl (fun _ => 0))), (u.2.2.2.2.2.2.2.1, .inr (2, [.ref u.2.2.2.2.2.2.2.2.1, .ref u.2.2.2.2.2.2.2.2.2.1, .ref u.2.2.2.2.2.2.2.2.2.2.1, .int 0])), (u.2.2.2.2.2.2.2.2.1, .inl (K.2 0, 12, .inl (fun _ => 0))), (u.2.2.2.2.2.2.2.2.2.1, .inl (K.2 0, 12, .inl (fun _ => 0))), (u.2.2.2.2.2.2.2.2.2.2.1, .inl (K.2 0, 12, .inl (fun _ => 0))), (u.2.2.2.2.2.2.2.2.2.2.2.1, .inr (1, [.ref u.2.2.2.2.2.2.2.2.2.2.2.2.1, .int 0, .int 1])), (u.2.2.2.2.2.2.2.2.2.2.2.2.1, .inl (K.2 0, 12, .inl (fun _ => 0))), (u.2.2.2.2.2.2.2.2.2.2.2.2.2.1, .inr (4, [.ref u.2.2.2.2.2.2.2.2.2.2.2.2.2.2.1, .ref u.2.2.2.2.2.2.2.2.2.2.2.2.2.2.2.1, .int 0])), (u.2.2.2.2.2.2.2.2.2.2.2.2.2.2.1, .inl (K.2 0, 12, .inl (fun _ => 0))), (u.2.2.2.2.2.2.2.2.2.2.2.2.2.2.2.1, .inl (K.2 0, 13, .inl (fun _ => 0))), (u.2.2.2.2.2.2.2.2.2.2.2.2.2.2.2.2.1, .inr (0, [.ref u.2.2.2.2.2.2.2.2.2.2.2.2.2.2.2.2.2.1, .ref u.2.2.2.2.2.2.2.2.2.2.2.2.2.2.2.2.2.2.1, .ref u.2.2.2.2.2.2.2.2.2.2.2.2.2.2.2.2.2.2.2, .int 0])), (u.2.2.2.2.2.2.2.2.2.2.2.2.2.2.2.2.2.1, .inl (K.2 0, 12, .inl (fun _ => 0))), (u.2.2.2.2.2.2.2.2.2.2.2.2.2.2.2.2.2.2.1, .inl (K.2 0, 12, .inl (fun _ => 0))), (u.2.2.2.2.2.2.2.2.2.2.2.2.2.2.2.2.2.2.2, .inl (K.2 0, 12, .inl (fun _ => 0)))]) 20 400 := by
  refine zM.intV (cc := cX5_init) (maxL := 1) (ret := none) rfl (by decide) (Nat.le_of_ble_eq_true rfl) rfl (fun _ => rfl) ?_
  intro G hGl hG hN hE
  show zj G 0 [(0, .ref aH)] [] [(aH, .inr (5, [.null, .null, .null, .null, .null, .null, .int 0, .int 0]))] 0 0
  refine z_aload_n hG dX5_init_0 0 rfl ?_
  refine z_objInit hG dX5_init_1 mX5_init_0 mX5_init_1 mX5_init_2 (by decide) (Nat.le_of_ble_eq_true rfl) ?_
  refine z_aload_n hG dX5_init_4 0 rfl ?_
  refine z_new (ci := 3) (fs := [.null, .null, .int 0]) (C := RX3) (T := TX3) (N := 3) hG dX5_init_5 iX5_init_X3 tyX3_ok mX5_init_3 mX5_init_4 mX5_init_5 rfl (by decide) (Nat.le_of_ble_eq_true rfl) (Nat.le_of_ble_eq_true rfl) (fun q1 => ?_)
  show zj G 8 [(0, .ref aH)] [.ref q1, .ref aH] [(aH, .inr (5, [.null, .null, .null, .null, .null, .null, .int 0, .int 0])), (q1, .inr (3, [.null, .null, .int 0]))] 1 3
  refine z_dup hG dX5_init_8 rfl ?_
  refine z_callIN (As := []) (rest := [.ref q1, .ref aH]) (wr := [(aH, .inr (5, [.null, .null, .null, .null, .null, .null, .int 0, .int 0]))]) (ws' := (fun u2 : Nat × Nat => [(aH, .inr (5, [.null, .null, .null, .null, .null, .null, .int 0, .int 0])), (q1, .inr (3, [.ref u2.1, .ref u2.2, .int 0])), (u2.1, .inl (K.2 0, 12, .inl (fun _ => 0))), (u2.2, .inl (K.2 0, 12, .inl (fun _ => 0)))])) (stk := (fun _ => [.ref q1, .ref aH])) (kc' := 3) (ks' := 27) (n := 0) (host := RX5) hG dX5_init_9 (kX3_init _ K q1) gX5_init_X3_init_n9 rfl rfl rfl ⟨by decide, by decide, rfl⟩ ⟨by decide, by decide⟩ (Nat.le_of_ble_eq_true rfl) ⟨(Nat.le_of_ble_eq_true rfl), (Nat.le_of_ble_eq_true rfl)⟩ [1] [0] [0, 1, 2, 3] rfl rfl rfl rfl (by decide) rfl (fun _ => rfl) (fun _ => rfl) rfl rfl (fun h => h.2.2.1) mX5_init_5 rfl mX5_init_7 rfl rfl rfl (fun u2 => ?_)
  show zj G 12 [(0, .ref aH)] [.ref q1, .ref aH] [(aH, .inr (5, [.null, .null, .null, .null, .null, .null, .int 0, .int 0])), (q1, .inr (3, [.ref u2.1, .ref u2.2, .int 0])), (u2.1, .inl (K.2 0, 12, .inl (fun _ => 0))), (u2.2, .inl (K.2 0, 12, .inl (fun _ => 0)))] 3 27
  refine z_putF (ci := 5) (C := RX5) (T := TX5) (N := 8) (ws' := [(aH, .inr (5, [.ref q1, .null, .null, .null, .null, .null, .int 0, .int 0])), (q1, .inr (3, [.ref u2.1, .ref u2.2, .int 0])), (u2.1, .inl (K.2 0, 12, .inl (fun _ => 0))), (u2.2, .inl (K.2 0, 12, .inl (fun _ => 0)))]) hG (hN rfl) dX5_init_12 iX5_init_X5 tyX5_ok nmX5 0 (by decide) mX5_init_8 rfl rfl rfl rfl rfl rfl rfl 0 rfl (Nat.le_of_ble_eq_true rfl) rfl ?_
  refine z_aload_n hG dX5_init_15 0 rfl ?_
  refine z_new (ci := 2) (fs := [.null, .null, .null, .int 0]) (C := RX2) (T := TX2) (N := 4) hG dX5_init_16 iX5_init_X2 tyX2_ok mX5_init_10 mX5_init_11 mX5_init_12 rfl (by decide) (Nat.le_of_ble_eq_true rfl) (Nat.le_of_ble_eq_true rfl) (fun q3 => ?_)
  show zj G 19 [(0, .ref aH)] [.ref q3, .ref aH] [(aH, .inr (5, [.ref q1, .null, .null, .null, .null, .null, .int 0, .int 0])), (q1, .inr (3, [.ref u2.1, .ref u2.2, .int 0])), (u2.1, .inl (K.2 0, 12, .inl (fun _ => 0))), (u2.2, .inl (K.2 0, 12, .inl (fun _ => 0))), (q3, .inr (2, [.null, .null, .null, .int 0]))] 4 31
  refine z_dup hG dX5_init_19 rfl ?_
  refine z_callIN (As := []) (rest := [.ref q3, .ref aH]) (wr := [(aH, .inr (5, [.ref q1, .null, .null, .null, .null, .null, .int 0, .int 0])), (q1, .inr (3, [.ref u2.1, .ref u2.2, .int 0])), (u2.1, .inl (K.2 0, 12, .inl (fun _ => 0))), (u2.2, .inl (K.2 0, 12, .inl (fun _ => 0)))]) (ws' := (fun u4 : Nat × Nat × Nat => [(aH, .inr (5, [.ref q1, .null, .null, .null, .null, .null, .int 0, .int 0])), (q1, .inr (3, [.ref u2.1, .ref u2.2, .int 0])), (u2.1, .inl (K.2 0, 12, .inl (fun _ => 0))), (u2.2, .inl (K.2 0, 12, .inl (fun _ => 0))), (q3, .inr (2, [.ref u4.1, .ref u4.2.1, .ref u4.2.2, .int 0])), (u4.1, .inl (K.2 0, 12, .inl (fun _ => 0))), (u4.2.1, .inl (K.2 0, 12, .inl (fun _ => 0))), (u4.2.2, .inl (K.2 0, 12, .inl (fun _ => 0)))])) (stk := (fun _ => [.ref q3, .ref aH])) (kc' := 7) (ks' := 67) (n := 0) (host := RX5) hG dX5_init_20 (kX2_init _ K q3) gX5_init_X2_init_n18 rfl rfl rfl ⟨by decide, by decide, rfl⟩ ⟨by decide, by decide⟩ (Nat.le_of_ble_eq_true rfl) ⟨(Nat.le_of_ble_eq_true rfl), (Nat.le_of_ble_eq_true rfl)⟩ [4] [0, 1, 2, 3] [0, 1, 2, 3, 4, 5, 6, 7] rfl rfl rfl rfl (by decide) rfl (fun _ => rfl) (fun _ => rfl) rfl rfl (fun h => h.2.2.2.1) mX5_init_12 rfl mX5_init_14 rfl rfl rfl (fun u4 => ?_)
  show zj G 23 [(0, .ref aH)] [.ref q3, .ref aH] [(aH, .inr (5, [.ref q1, .null, .null, .null, .null, .null, .int 0, .int 0])), (q1, .inr (3, [.ref u2.1, .ref u2.2, .int 0])), (u2.1, .inl (K.2 0, 12, .inl (fun _ => 0))), (u2.2, .inl (K.2 0, 12, .inl (fun _ => 0))), (q3, .inr (2, [.ref u4.1, .ref u4.2.1, .ref u4.2.2, .int 0])), (u4.1, .inl (K.2 0, 12, .inl (fun _ => 0))), (u4.2.1, .inl (K.2 0, 12, .inl (fun _ => 0))), (u4.2.2, .inl (K.2 0, 12, .inl (fun _ => 0)))] 7 67
  refine z_putF (ci := 5) (C := RX5) (T := TX5) (N := 8) (ws' := [(aH, .inr (5, [.ref q1, .ref q3, .null, .null, .null, .null, .int 0, .int 0])), (q1, .inr (3, [.ref u2.1, .ref u2.2, .int 0])), (u2.1, .inl (K.2 0, 12, .inl (fun _ => 0))), (u2.2, .inl (K.2 0, 12, .inl (fun _ => 0))), (q3, .inr (2, [.ref u4.1, .ref u4.2.1, .ref u4.2.2, .int 0])), (u4.1, .inl (K.2 0, 12, .inl (fun _ => 0))), (u4.2.1, .inl (K.2 0, 12, .inl (fun _ => 0))), (u4.2.2, .inl (K.2 0, 12, .inl (fun _ => 0)))]) hG (hN rfl) dX5_init_23 iX5_init_X5 tyX5_ok nmX5 1 (by decide) mX5_init_15 rfl rfl rfl rfl rfl rfl rfl 0 rfl (Nat.le_of_ble_eq_true rfl) rfl ?_
  refine z_aload_n hG dX5_init_26 0 rfl ?_
  refine z_new (ci := 2) (fs := [.null, .null, .null, .int 0]) (C := RX2) (T := TX2) (N := 4) hG dX5_init_27 iX5_init_X2 tyX2_ok mX5_init_10 mX5_init_11 mX5_init_12 rfl (by decide) (Nat.le_of_ble_eq_true rfl) (Nat.le_of_ble_eq_true rfl) (fun q5 => ?_)
  show zj G 30 [(0, .ref aH)] [.ref q5, .ref aH] [(aH, .inr (5, [.ref q1, .ref q3, .null, .null, .null, .null, .int 0, .int 0])), (q1, .inr (3, [.ref u2.1, .ref u2.2, .int 0])), (u2.1, .inl (K.2 0, 12, .inl (fun _ => 0))), (u2.2, .inl (K.2 0, 12, .inl (fun _ => 0))), (q3, .inr (2, [.ref u4.1, .ref u4.2.1, .ref u4.2.2, .int 0])), (u4.1, .inl (K.2 0, 12, .inl (fun _ => 0))), (u4.2.1, .inl (K.2 0, 12, .inl (fun _ => 0))), (u4.2.2, .inl (K.2 0, 12, .inl (fun _ => 0))), (q5, .inr (2, [.null, .null, .null, .int 0]))] 8 71
  refine z_dup hG dX5_init_30 rfl ?_
  refine z_callIN (As := []) (rest := [.ref q5, .ref aH]) (wr := [(aH, .inr (5, [.ref q1, .ref q3, .null, .null, .null, .null, .int 0, .int 0])), (q1, .inr (3, [.ref u2.1, .ref u2.2, .int 0])), (u2.1, .inl (K.2 0, 12, .inl (fun _ => 0))), (u2.2, .inl (K.2 0, 12, .inl (fun _ => 0))), (q3, .inr (2, [.ref u4.1, .ref u4.2.1, .ref u4.2.2, .int 0])), (u4.1, .inl (K.2 0, 12, .inl (fun _ => 0))), (u4.2.1, .inl (K.2 0, 12, .inl (fun _ => 0))), (u4.2.2, .inl (K.2 0, 12, .inl (fun _ => 0)))]) (ws' := (fun u6 : Nat × Nat × Nat => [(aH, .inr (5, [.ref q1, .ref q3, .null, .null, .null, .null, .int 0, .int 0])), (q1, .inr (3, [.ref u2.1, .ref u2.2, .int 0])), (u2.1, .inl (K.2 0, 12, .inl (fun _ => 0))), (u2.2, .inl (K.2 0, 12, .inl (fun _ => 0))), (q3, .inr (2, [.ref u4.1, .ref u4.2.1, .ref u4.2.2, .int 0])), (u4.1, .inl (K.2 0, 12, .inl (fun _ => 0))), (u4.2.1, .inl (K.2 0, 12, .inl (fun _ => 0))), (u4.2.2, .inl (K.2 0, 12, .inl (fun _ => 0))), (q5, .inr (2, [.ref u6.1, .ref u6.2.1, .ref u6.2.2, .int 0])), (u6.1, .inl (K.2 0, 12, .inl (fun _ => 0))), (u6.2.1, .inl (K.2 0, 12, .inl (fun _ => 0))), (u6.2.2, .inl (K.2 0, 12, .inl (fun _ => 0)))])) (stk := (fun _ => [.ref q5, .ref aH])) (kc' := 11) (ks' := 107) (n := 0) (host := RX5) hG dX5_init_31 (kX2_init _ K q5) gX5_init_X2_init_n18 rfl rfl rfl ⟨by decide, by decide, rfl⟩ ⟨by decide, by decide⟩ (Nat.le_of_ble_eq_true rfl) ⟨(Nat.le_of_ble_eq_true rfl), (Nat.le_of_ble_eq_true rfl)⟩ [8] [0, 1, 2, 3, 4, 5, 6, 7] [0, 1, 2, 3, 4, 5, 6, 7, 8, 9, 10, 11] rfl rfl rfl rfl (by decide) rfl (fun _ => rfl) (fun _ => rfl) rfl rfl (fun h => h.2.2.2.1) mX5_init_12 rfl mX5_init_14 rfl rfl rfl (fun u6 => ?_)
  show zj G 34 [(0, .ref aH)] [.ref q5, .ref aH] [(aH, .inr (5, [.ref q1, .ref q3, .null, .null, .null, .null, .int 0, .int 0])), (q1, .inr (3, [.ref u2.1, .ref u2.2, .int 0])), (u2.1, .inl (K.2 0, 12, .inl (fun _ => 0))), (u2.2, .inl (K.2 0, 12, .inl (fun _ => 0))), (q3, .inr (2, [.ref u4.1, .ref u4.2.1, .ref u4.2.2, .int 0])), (u4.1, .inl (K.2 0, 12, .inl (fun _ => 0))), (u4.2.1, .inl (K.2 0, 12, .inl (fun _ => 0))), (u4.2.2, .inl (K.2 0, 12, .inl (fun _ => 0))), (q5, .inr (2, [.ref u6.1, .ref u6.2.1, .ref u6.2.2, .int 0])), (u6.1, .inl (K.2 0, 12, .inl (fun _ => 0))), (u6.2.1, .inl (K.2 0, 12, .inl (fun _ => 0))), (u6.2.2, .inl (K.2 0, 12, .inl (fun _ => 0)))] 11 107
  refine z_putF (ci := 5) (C := RX5) (T := TX5) (N := 8) (ws' := [(aH, .inr (5, [.ref q1, .ref q3, .ref q5, .null, .null, .null, .int 0, .int 0])), (q1, .inr (3, [.ref u2.1, .ref u2.2, .int 0])), (u2.1, .inl (K.2 0, 12, .inl (fun _ => 0))), (u2.2, .inl (K.2 0, 12, .inl (fun _ => 0))), (q3, .inr (2, [.ref u4.1, .ref u4.2.1, .ref u4.2.2, .int 0])), (u4.1, .inl (K.2 0, 12, .inl (fun _ => 0))), (u4.2.1, .inl (K.2 0, 12, .inl (fun _ => 0))), (u4.2.2, .inl (K.2 0, 12, .inl (fun _ => 0))), (q5, .inr (2, [.ref u6.1, .ref u6.2.1, .ref u6.2.2, .int 0])), (u6.1, .inl (K.2 0, 12, .inl (fun _ => 0))), (u6.2.1, .inl (K.2 0, 12, .inl (fun _ => 0))), (u6.2.2, .inl (K.2 0, 12, .inl (fun _ => 0)))]) hG (hN rfl) dX5_init_34 iX5_init_X5 tyX5_ok nmX5 2 (by decide) mX5_init_16 rfl rfl rfl rfl rfl rfl rfl 0 rfl (Nat.le_of_ble_eq_true rfl) rfl ?_
  refine z_aload_n hG dX5_init_37 0 rfl ?_
  refine z_new (ci := 1) (fs := [.null, .int 0, .int 0]) (C := RX1) (T := TX1) (N := 3) hG dX5_init_38 iX5_init_X1 tyX1_ok mX5_init_17 mX5_init_18 mX5_init_19 rfl (by decide) (Nat.le_of_ble_eq_true rfl) (Nat.le_of_ble_eq_true rfl) (fun q7 => ?_)
  show zj G 41 [(0, .ref aH)] [.ref q7, .ref aH] [(aH, .inr (5, [.ref q1, .ref q3, .ref q5, .null, .null, .null, .int 0, .int 0])), (q1, .inr (3, [.ref u2.1, .ref u2.2, .int 0])), (u2.1, .inl (K.2 0, 12, .inl (fun _ => 0))), (u2.2, .inl (K.2 0, 12, .inl (fun _ => 0))), (q3, .inr (2, [.ref u4.1, .ref u4.2.1, .ref u4.2.2, .int 0])), (u4.1, .inl (K.2 0, 12, .inl (fun _ => 0))), (u4.2.1, .inl (K.2 0, 12, .inl (fun _ => 0))), (u4.2.2, .inl (K.2 0, 12, .inl (fun _ => 0))), (q5, .inr (2, [.ref u6.1, .ref u6.2.1, .ref u6.2.2, .int 0])), (u6.1, .inl (K.2 0, 12, .inl (fun _ => 0))), (u6.2.1, .inl (K.2 0, 12, .inl (fun _ => 0))), (u6.2.2, .inl (K.2 0, 12, .inl (fun _ => 0))), (q7, .inr (1, [.null, .int 0, .int 0]))] 12 110
  refine z_dup hG dX5_init_41 rfl ?_
  refine z_callIN (As := []) (rest := [.ref q7, .ref aH]) (wr := [(aH, .inr (5, [.ref q1, .ref q3, .ref q5, .null, .null, .null, .int 0, .int 0])), (q1, .inr (3, [.ref u2.1, .ref u2.2, .int 0])), (u2.1, .inl (K.2 0, 12, .inl (fun _ => 0))), (u2.2, .inl (K.2 0, 12, .inl (fun _ => 0))), (q3, .inr (2, [.ref u4.1, .ref u4.2.1, .ref u4.2.2, .int 0])), (u4.1, .inl (K.2 0, 12, .inl (fun _ => 0))), (u4.2.1, .inl (K.2 0, 12, .inl (fun _ => 0))), (u4.2.2, .inl (K.2 0, 12, .inl (fun _ => 0))), (q5, .inr (2, [.ref u6.1, .ref u6.2.1, .ref u6.2.2, .int 0])), (u6.1, .inl (K.2 0, 12, .inl (fun _ => 0))), (u6.2.1, .inl (K.2 0, 12, .inl (fun _ => 0))), (u6.2.2, .inl (K.2 0, 12, .inl (fun _ => 0)))]) (ws' := (fun u8 : Nat => [(aH, .inr (5, [.ref q1, .ref q3, .ref q5, .null, .null, .null, .int 0, .int 0])), (q1, .inr (3, [.ref u2.1, .ref u2.2, .int 0])), (u2.1, .inl (K.2 0, 12, .inl (fun _ => 0))), (u2.2, .inl (K.2 0, 12, .inl (fun _ => 0))), (q3, .inr (2, [.ref u4.1, .ref u4.2.1, .ref u4.2.2, .int 0])), (u4.1, .inl (K.2 0, 12, .inl (fun _ => 0))), (u4.2.1, .inl (K.2 0, 12, .inl (fun _ => 0))), (u4.2.2, .inl (K.2 0, 12, .inl (fun _ => 0))), (q5, .inr (2, [.ref u6.1, .ref u6.2.1, .ref u6.2.2, .int 0])), (u6.1, .inl (K.2 0, 12, .inl (fun _ => 0))), (u6.2.1, .inl (K.2 0, 12, .inl (fun _ => 0))), (u6.2.2, .inl (K.2 0, 12, .inl (fun _ => 0))), (q7, .inr (1, [.ref u8, .int 0, .int 1])), (u8, .inl (K.2 0, 12, .inl (fun _ => 0)))])) (stk := (fun _ => [.ref q7, .ref aH])) (kc' := 13) (ks' := 122) (n := 0) (host := RX5) hG dX5_init_42 (kX1_init _ K q7) gX5_init_X1_init_n28 rfl rfl rfl ⟨by decide, by decide, rfl⟩ ⟨by decide, by decide⟩ (Nat.le_of_ble_eq_true rfl) ⟨(Nat.le_of_ble_eq_true rfl), (Nat.le_of_ble_eq_true rfl)⟩ [12] [0, 1, 2, 3, 4, 5, 6, 7, 8, 9, 10, 11] [0, 1, 2, 3, 4, 5, 6, 7, 8, 9, 10, 11, 12, 13] rfl rfl rfl rfl (by decide) rfl (fun _ => rfl) (fun _ => rfl) rfl rfl (fun h => h.2.2.2.2.1) mX5_init_19 rfl mX5_init_21 rfl rfl rfl (fun u8 => ?_)
  show zj G 45 [(0, .ref aH)] [.ref q7, .ref aH] [(aH, .inr (5, [.ref q1, .ref q3, .ref q5, .null, .null, .null, .int 0, .int 0])), (q1, .inr (3, [.ref u2.1, .ref u2.2, .int 0])), (u2.1, .inl (K.2 0, 12, .inl (fun _ => 0))), (u2.2, .inl (K.2 0, 12, .inl (fun _ => 0))), (q3, .inr (2, [.ref u4.1, .ref u4.2.1, .ref u4.2.2, .int 0])), (u4.1, .inl (K.2 0, 12, .inl (fun _ => 0))), (u4.2.1, .inl (K.2 0, 12, .inl (fun _ => 0))), (u4.2.2, .inl (K.2 0, 12, .inl (fun _ => 0))), (q5, .inr (2, [.ref u6.1, .ref u6.2.1, .ref u6.2.2, .int 0])), (u6.1, .inl (K.2 0, 12, .inl (fun _ => 0))), (u6.2.1, .inl (K.2 0, 12, .inl (fun _ => 0))), (u6.2.2, .inl (K.2 0, 12, .inl (fun _ => 0))), (q7, .inr (1, [.ref u8, .int 0, .int 1])), (u8, .inl (K.2 0, 12, .inl (fun _ => 0)))] 13 122
  refine z_putF (ci := 5) (C := RX5) (T := TX5) (N := 8) (ws' := [(aH, .inr (5, [.ref q1, .ref q3, .ref q5, .ref q7, .null, .null, .int 0, .int 0])), (q1, .inr (3, [.ref u2.1, .ref u2.2, .int 0])), (u2.1, .inl (K.2 0, 12, .inl (fun _ => 0))), (u2.2, .inl (K.2 0, 12, .inl (fun _ => 0))), (q3, .inr (2, [.ref u4.1, .ref u4.2.1, .ref u4.2.2, .int 0])), (u4.1, .inl (K.2 0, 12, .inl (fun _ => 0))), (u4.2.1, .inl (K.2 0, 12, .inl (fun _ => 0))), (u4.2.2, .inl (K.2 0, 12, .inl (fun _ => 0))), (q5, .inr (2, [.ref u6.1, .ref u6.2.1, .ref u6.2.2, .int 0])), (u6.1, .inl (K.2 0, 12, .inl (fun _ => 0))), (u6.2.1, .inl (K.2 0, 12, .inl (fun _ => 0))), (u6.2.2, .inl (K.2 0, 12, .inl (fun _ => 0))), (q7, .inr (1, [.ref u8, .int 0, .int 1])), (u8, .inl (K.2 0, 12, .inl (fun _ => 0)))]) hG (hN rfl) dX5_init_45 iX5_init_X5 tyX5_ok nmX5 3 (by decide) mX5_init_22 rfl rfl rfl rfl rfl rfl rfl 0 rfl (Nat.le_of_ble_eq_true rfl) rfl ?_
  refine z_aload_n hG dX5_init_48 0 rfl ?_
  refine z_new (ci := 4) (fs := [.null, .null, .int 0]) (C := RX4) (T := TX4) (N := 3) hG dX5_init_49 iX5_init_X4 tyX4_ok mX5_init_23 mX5_init_24 mX5_init_25 rfl (by decide) (Nat.le_of_ble_eq_true rfl) (Nat.le_of_ble_eq_true rfl) (fun q9 => ?_)
  show zj G 52 [(0, .ref aH)] [.ref q9, .ref aH] [(aH, .inr (5, [.ref q1, .ref q3, .ref q5, .ref q7, .null, .null, .int 0, .int 0])), (q1, .inr (3, [.ref u2.1, .ref u2.2, .int 0])), (u2.1, .inl (K.2 0, 12, .inl (fun _ => 0))), (u2.2, .inl (K.2 0, 12, .inl (fun _ => 0))), (q3, .inr (2, [.ref u4.1, .ref u4.2.1, .ref u4.2.2, .int 0])), (u4.1, .inl (K.2 0, 12, .inl (fun _ => 0))), (u4.2.1, .inl (K.2 0, 12, .inl (fun _ => 0))), (u4.2.2, .inl (K.2 0, 12, .inl (fun _ => 0))), (q5, .inr (2, [.ref u6.1, .ref u6.2.1, .ref u6.2.2, .int 0])), (u6.1, .inl (K.2 0, 12, .inl (fun _ => 0))), (u6.2.1, .inl (K.2 0, 12, .inl (fun _ => 0))), (u6.2.2, .inl (K.2 0, 12, .inl (fun _ => 0))), (q7, .inr (1, [.ref u8, .int 0, .int 1])), (u8, .inl (K.2 0, 12, .inl (fun _ => 0))), (q9, .inr (4, [.null, .null, .int 0]))] 14 125
  refine z_dup hG dX5_init_52 rfl ?_
  refine z_callIN (As := []) (rest := [.ref q9, .ref aH]) (wr := [(aH, .inr (5, [.ref q1, .ref q3, .ref q5, .ref q7, .null, .null, .int 0, .int 0])), (q1, .inr (3, [.ref u2.1, .ref u2.2, .int 0])), (u2.1, .inl (K.2 0, 12, .inl (fun _ => 0))), (u2.2, .inl (K.2 0, 12, .inl (fun _ => 0))), (q3, .inr (2, [.ref u4.1, .ref u4.2.1, .ref u4.2.2, .int 0])), (u4.1, .inl (K.2 0, 12, .inl (fun _ => 0))), (u4.2.1, .inl (K.2 0, 12, .inl (fun _ => 0))), (u4.2.2, .inl (K.2 0, 12, .inl (fun _ => 0))), (q5, .inr (2, [.ref u6.1, .ref u6.2.1, .ref u6.2.2, .int 0])), (u6.1, .inl (K.2 0, 12, .inl (fun _ => 0))), (u6.2.1, .inl (K.2 0, 12, .inl (fun _ => 0))), (u6.2.2, .inl (K.2 0, 12, .inl (fun _ => 0))), (q7, .inr (1, [.ref u8, .int 0, .int 1])), (u8, .inl (K.2 0, 12, .inl (fun _ => 0)))]) (ws' := (fun u10 : Nat × Nat => [(aH, .inr (5, [.ref q1, .ref q3, .ref q5, .ref q7, .null, .null, .int 0, .int 0])), (q1, .inr (3, [.ref u2.1, .ref u2.2, .int 0])), (u2.1, .inl (K.2 0, 12, .inl (fun _ => 0))), (u2.2, .inl (K.2 0, 12, .inl (fun _ => 0))), (q3, .inr (2, [.ref u4.1, .ref u4.2.1, .ref u4.2.2, .int 0])), (u4.1, .inl (K.2 0, 12, .inl (fun _ => 0))), (u4.2.1, .inl (K.2 0, 12, .inl (fun _ => 0))), (u4.2.2, .inl (K.2 0, 12, .inl (fun _ => 0))), (q5, .inr (2, [.ref u6.1, .ref u6.2.1, .ref u6.2.2, .int 0])), (u6.1, .inl (K.2 0, 12, .inl (fun _ => 0))), (u6.2.1, .inl (K.2 0, 12, .inl (fun _ => 0))), (u6.2.2, .inl (K.2 0, 12, .inl (fun _ => 0))), (q7, .inr (1, [.ref u8, .int 0, .int 1])), (u8, .inl (K.2 0, 12, .inl (fun _ => 0))), (q9, .inr (4, [.ref u10.1, .ref u10.2, .int 0])), (u10.1, .inl (K.2 0, 12, .inl (fun _ => 0))), (u10.2, .inl (K.2 0, 13, .inl (fun _ => 0)))])) (stk := (fun _ => [.ref q9, .ref aH])) (kc' := 16) (ks' := 150) (n := 0) (host := RX5) hG dX5_init_53 (kX4_init _ K q9) gX5_init_X4_init_n35 rfl rfl rfl ⟨by decide, by decide, rfl⟩ ⟨by decide, by decide⟩ (Nat.le_of_ble_eq_true rfl) ⟨(Nat.le_of_ble_eq_true rfl), (Nat.le_of_ble_eq_true rfl)⟩ [14] [0, 1, 2, 3, 4, 5, 6, 7, 8, 9, 10, 11, 12, 13] [0, 1, 2, 3, 4, 5, 6, 7, 8, 9, 10, 11, 12, 13, 14, 15, 16] rfl rfl rfl rfl (by decide) rfl (fun _ => rfl) (fun _ => rfl) rfl rfl (fun h => h.2.2.2.2.2.1) mX5_init_25 rfl mX5_init_27 rfl rfl rfl (fun u10 => ?_)
  show zj G 56 [(0, .ref aH)] [.ref q9, .ref aH] [(aH, .inr (5, [.ref q1, .ref q3, .ref q5, .ref q7, .null, .null, .int 0, .int 0])), (q1, .inr (3, [.ref u2.1, .ref u2.2, .int 0])), (u2.1, .inl (K.2 0, 12, .inl (fun _ => 0))), (u2.2, .inl (K.2 0, 12, .inl (fun _ => 0))), (q3, .inr (2, [.ref u4.1, .ref u4.2.1, .ref u4.2.2, .int 0])), (u4.1, .inl (K.2 0, 12, .inl (fun _ => 0))), (u4.2.1, .inl (K.2 0, 12, .inl (fun _ => 0))), (u4.2.2, .inl (K.2 0, 12, .inl (fun _ => 0))), (q5, .inr (2, [.ref u6.1, .ref u6.2.1, .ref u6.2.2, .int 0])), (u6.1, .inl (K.2 0, 12, .inl (fun _ => 0))), (u6.2.1, .inl (K.2 0, 12, .inl (fun _ => 0))), (u6.2.2, .inl (K.2 0, 12, .inl (fun _ => 0))), (q7, .inr (1, [.ref u8, .int 0, .int 1])), (u8, .inl (K.2 0, 12, .inl (fun _ => 0))), (q9, .inr (4, [.ref u10.1, .ref u10.2, .int 0])), (u10.1, .inl (K.2 0, 12, .inl (fun _ => 0))), (u10.2, .inl (K.2 0, 13, .inl (fun _ => 0)))] 16 150
  refine z_putF (ci := 5) (C := RX5) (T := TX5) (N := 8) (ws' := [(aH, .inr (5, [.ref q1, .ref q3, .ref q5, .ref q7, .ref q9, .null, .int 0, .int 0])), (q1, .inr (3, [.ref u2.1, .ref u2.2, .int 0])), (u2.1, .inl (K.2 0, 12, .inl (fun _ => 0))), (u2.2, .inl (K.2 0, 12, .inl (fun _ => 0))), (q3, .inr (2, [.ref u4.1, .ref u4.2.1, .ref u4.2.2, .int 0])), (u4.1, .inl (K.2 0, 12, .inl (fun _ => 0))), (u4.2.1, .inl (K.2 0, 12, .inl (fun _ => 0))), (u4.2.2, .inl (K.2 0, 12, .inl (fun _ => 0))), (q5, .inr (2, [.ref u6.1, .ref u6.2.1, .ref u6.2.2, .int 0])), (u6.1, .inl (K.2 0, 12, .inl (fun _ => 0))), (u6.2.1, .inl (K.2 0, 12, .inl (fun _ => 0))), (u6.2.2, .inl (K.2 0, 12, .inl (fun _ => 0))), (q7, .inr (1, [.ref u8, .int 0, .int 1])), (u8, .inl (K.2 0, 12, .inl (fun _ => 0))), (q9, .inr (4, [.ref u10.1, .ref u10.2, .int 0])), (u10.1, .inl (K.2 0, 12, .inl (fun _ => 0))), (u10.2, .inl (K.2 0, 13, .inl (fun _ => 0)))]) hG (hN rfl) dX5_init_56 iX5_init_X5 tyX5_ok nmX5 4 (by decide) mX5_init_28 rfl rfl rfl rfl rfl rfl rfl 0 rfl (Nat.le_of_ble_eq_true rfl) rfl ?_
  refine z_aload_n hG dX5_init_59 0 rfl ?_
  refine z_new (ci := 0) (fs := [.null, .null, .null, .int 0]) (C := RX0) (T := TX0) (N := 4) hG dX5_init_60 iX5_init_X0 tyX0_ok mX5_init_29 mX5_init_30 mX5_init_31 rfl (by decide) (Nat.le_of_ble_eq_true rfl) (Nat.le_of_ble_eq_true rfl) (fun q11 => ?_)
  show zj G 63 [(0, .ref aH)] [.ref q11, .ref aH] [(aH, .inr (5, [.ref q1, .ref q3, .ref q5, .ref q7, .ref q9, .null, .int 0, .int 0])), (q1, .inr (3, [.ref u2.1, .ref u2.2, .int 0])), (u2.1, .inl (K.2 0, 12, .inl (fun _ => 0))), (u2.2, .inl (K.2 0, 12, .inl (fun _ => 0))), (q3, .inr (2, [.ref u4.1, .ref u4.2.1, .ref u4.2.2, .int 0])), (u4.1, .inl (K.2 0, 12, .inl (fun _ => 0))), (u4.2.1, .inl (K.2 0, 12, .inl (fun _ => 0))), (u4.2.2, .inl (K.2 0, 12, .inl (fun _ => 0))), (q5, .inr (2, [.ref u6.1, .ref u6.2.1, .ref u6.2.2, .int 0])), (u6.1, .inl (K.2 0, 12, .inl (fun _ => 0))), (u6.2.1, .inl (K.2 0, 12, .inl (fun _ => 0))), (u6.2.2, .inl (K.2 0, 12, .inl (fun _ => 0))), (q7, .inr (1, [.ref u8, .int 0, .int 1])), (u8, .inl (K.2 0, 12, .inl (fun _ => 0))), (q9, .inr (4, [.ref u10.1, .ref u10.2, .int 0])), (u10.1, .inl (K.2 0, 12, .inl (fun _ => 0))), (u10.2, .inl (K.2 0, 13, .inl (fun _ => 0))), (q11, .inr (0, [.null, .null, .null, .int 0]))] 17 154
  refine z_dup hG dX5_init_63 rfl ?_
  refine z_callIN (As := []) (rest := [.ref q11, .ref aH]) (wr := [(aH, .inr (5, [.ref q1, .ref q3, .ref q5, .ref q7, .ref q9, .null, .int 0, .int 0])), (q1, .inr (3, [.ref u2.1, .ref u2.2, .int 0])), (u2.1, .inl (K.2 0, 12, .inl (fun _ => 0))), (u2.2, .inl (K.2 0, 12, .inl (fun _ => 0))), (q3, .inr (2, [.ref u4.1, .ref u4.2.1, .ref u4.2.2, .int 0])), (u4.1, .inl (K.2 0, 12, .inl (fun _ => 0))), (u4.2.1, .inl (K.2 0, 12, .inl (fun _ => 0))), (u4.2.2, .inl (K.2 0, 12, .inl (fun _ => 0))), (q5, .inr (2, [.ref u6.1, .ref u6.2.1, .ref u6.2.2, .int 0])), (u6.1, .inl (K.2 0, 12, .inl (fun _ => 0))), (u6.2.1, .inl (K.2 0, 12, .inl (fun _ => 0))), (u6.2.2, .inl (K.2 0, 12, .inl (fun _ => 0))), (q7, .inr (1, [.ref u8, .int 0, .int 1])), (u8, .inl (K.2 0, 12, .inl (fun _ => 0))), (q9, .inr (4, [.ref u10.1, .ref u10.2, .int 0])), (u10.1, .inl (K.2 0, 12, .inl (fun _ => 0))), (u10.2, .inl (K.2 0, 13, .inl (fun _ => 0)))]) (ws' := (fun u12 : Nat × Nat × Nat => [(aH, .inr (5, [.ref q1, .ref q3, .ref q5, .ref q7, .ref q9, .null, .int 0, .int 0])), (q1, .inr (3, [.ref u2.1, .ref u2.2, .int 0])), (u2.1, .inl (K.2 0, 12, .inl (fun _ => 0))), (u2.2, .inl (K.2 0, 12, .inl (fun _ => 0))), (q3, .inr (2, [.ref u4.1, .ref u4.2.1, .ref u4.2.2, .int 0])), (u4.1, .inl (K.2 0, 12, .inl (fun _ => 0))), (u4.2.1, .inl (K.2 0, 12, .inl (fun _ => 0))), (u4.2.2, .inl (K.2 0, 12, .inl (fun _ => 0))), (q5, .inr (2, [.ref u6.1, .ref u6.2.1, .ref u6.2.2, .int 0])), (u6.1, .inl (K.2 0, 12, .inl (fun _ => 0))), (u6.2.1, .inl (K.2 0, 12, .inl (fun _ => 0))), (u6.2.2, .inl (K.2 0, 12, .inl (fun _ => 0))), (q7, .inr (1, [.ref u8, .int 0, .int 1])), (u8, .inl (K.2 0, 12, .inl (fun _ => 0))), (q9, .inr (4, [.ref u10.1, .ref u10.2, .int 0])), (u10.1, .inl (K.2 0, 12, .inl (fun _ => 0))), (u10.2, .inl (K.2 0, 13, .inl (fun _ => 0))), (q11, .inr (0, [.ref u12.1, .ref u12.2.1, .ref u12.2.2, .int 0])), (u12.1, .inl (K.2 0, 12, .inl (fun _ => 0))), (u12.2.1, .inl (K.2 0, 12, .inl (fun _ => 0))), (u12.2.2, .inl (K.2 0, 12, .inl (fun _ => 0)))])) (stk := (fun _ => [.ref q11, .ref aH])) (kc' := 20) (ks' := 190) (n := 0) (host := RX5) hG dX5_init_64 (kX0_init _ K q11) gX5_init_X0_init_n42 rfl rfl rfl ⟨by decide, by decide, rfl⟩ ⟨by decide, by decide⟩ (Nat.le_of_ble_eq_true rfl) ⟨(Nat.le_of_ble_eq_true rfl), (Nat.le_of_ble_eq_true rfl)⟩ [17] [0, 1, 2, 3, 4, 5, 6, 7, 8, 9, 10, 11, 12, 13, 14, 15, 16] [0, 1, 2, 3, 4, 5, 6, 7, 8, 9, 10, 11, 12, 13, 14, 15, 16, 17, 18, 19, 20] rfl rfl rfl rfl (by decide) rfl (fun _ => rfl) (fun _ => rfl) rfl rfl (fun h => h.2.2.2.2.2.2.1) mX5_init_31 rfl mX5_init_33 rfl rfl rfl (fun u12 => ?_)
  show zj G 67 [(0, .ref aH)] [.ref q11, .ref aH] [(aH, .inr (5, [.ref q1, .ref q3, .ref q5, .ref q7, .ref q9, .null, .int 0, .int 0])), (q1, .inr (3, [.ref u2.1, .ref u2.2, .int 0])), (u2.1, .inl (K.2 0, 12, .inl (fun _ => 0))), (u2.2, .inl (K.2 0, 12, .inl (fun _ => 0))), (q3, .inr (2, [.ref u4.1, .ref u4.2.1, .ref u4.2.2, .int 0])), (u4.1, .inl (K.2 0, 12, .inl (fun _ => 0))), (u4.2.1, .inl (K.2 0, 12, .inl (fun _ => 0))), (u4.2.2, .inl (K.2 0, 12, .inl (fun _ => 0))), (q5, .inr (2, [.ref u6.1, .ref u6.2.1, .ref u6.2.2, .int 0])), (u6.1, .inl (K.2 0, 12, .inl (fun _ => 0))), (u6.2.1, .inl (K.2 0, 12, .inl (fun _ => 0))), (u6.2.2, .inl (K.2 0, 12, .inl (fun _ => 0))), (q7, .inr (1, [.ref u8, .int 0, .int 1])), (u8, .inl (K.2 0, 12, .inl (fun _ => 0))), (q9, .inr (4, [.ref u10.1, .ref u10.2, .int 0])), (u10.1, .inl (K.2 0, 12, .inl (fun _ => 0))), (u10.2, .inl (K.2 0, 13, .inl (fun _ => 0))), (q11, .inr (0, [.ref u12.1, .ref u12.2.1, .ref u12.2.2, .int 0])), (u12.1, .inl (K.2 0, 12, .inl (fun _ => 0))), (u12.2.1, .inl (K.2 0, 12, .inl (fun _ => 0))), (u12.2.2, .inl (K.2 0, 12, .inl (fun _ => 0)))] 20 190
  refine z_putF (ci := 5) (C := RX5) (T := TX5) (N := 8) (ws' := [(aH, .inr (5, [.ref q1, .ref q3, .ref q5, .ref q7, .ref q9, .ref q11, .int 0, .int 0])), (q1, .inr (3, [.ref u2.1, .ref u2.2, .int 0])), (u2.1, .inl (K.2 0, 12, .inl (fun _ => 0))), (u2.2, .inl (K.2 0, 12, .inl (fun _ => 0))), (q3, .inr (2, [.ref u4.1, .ref u4.2.1, .ref u4.2.2, .int 0])), (u4.1, .inl (K.2 0, 12, .inl (fun _ => 0))), (u4.2.1, .inl (K.2 0, 12, .inl (fun _ => 0))), (u4.2.2, .inl (K.2 0, 12, .inl (fun _ => 0))), (q5, .inr (2, [.ref u6.1, .ref u6.2.1, .ref u6.2.2, .int 0])), (u6.1, .inl (K.2 0, 12, .inl (fun _ => 0))), (u6.2.1, .inl (K.2 0, 12, .inl (fun _ => 0))), (u6.2.2, .inl (K.2 0, 12, .inl (fun _ => 0))), (q7, .inr (1, [.ref u8, .int 0, .int 1])), (u8, .inl (K.2 0, 12, .inl (fun _ => 0))), (q9, .inr (4, [.ref u10.1, .ref u10.2, .int 0])), (u10.1, .inl (K.2 0, 12, .inl (fun _ => 0))), (u10.2, .inl (K.2 0, 13, .inl (fun _ => 0))), (q11, .inr (0, [.ref u12.1, .ref u12.2.1, .ref u12.2.2, .int 0])), (u12.1, .inl (K.2 0, 12, .inl (fun _ => 0))), (u12.2.1, .inl (K.2 0, 12, .inl (fun _ => 0))), (u12.2.2, .inl (K.2 0, 12, .inl (fun _ => 0)))]) hG (hN rfl) dX5_init_67 iX5_init_X5 tyX5_ok nmX5 5 (by decide) mX5_init_34 rfl rfl rfl rfl rfl rfl rfl 0 rfl (Nat.le_of_ble_eq_true rfl) rfl ?_
  refine z_aload_n hG dX5_init_70 0 rfl ?_
  refine z_iconst 0 hG dX5_init_71 (by decide) ?_
  refine z_put (ci := 5) (C := RX5) (T := TX5) (N := 8) (ws' := [(aH, .inr (5, [.ref q1, .ref q3, .ref q5, .ref q7, .ref q9, .ref q11, .int 0, .int 0])), (q1, .inr (3, [.ref u2.1, .ref u2.2, .int 0])), (u2.1, .inl (K.2 0, 12, .inl (fun _ => 0))), (u2.2, .inl (K.2 0, 12, .inl (fun _ => 0))), (q3, .inr (2, [.ref u4.1, .ref u4.2.1, .ref u4.2.2, .int 0])), (u4.1, .inl (K.2 0, 12, .inl (fun _ => 0))), (u4.2.1, .inl (K.2 0, 12, .inl (fun _ => 0))), (u4.2.2, .inl (K.2 0, 12, .inl (fun _ => 0))), (q5, .inr (2, [.ref u6.1, .ref u6.2.1, .ref u6.2.2, .int 0])), (u6.1, .inl (K.2 0, 12, .inl (fun _ => 0))), (u6.2.1, .inl (K.2 0, 12, .inl (fun _ => 0))), (u6.2.2, .inl (K.2 0, 12, .inl (fun _ => 0))), (q7, .inr (1, [.ref u8, .int 0, .int 1])), (u8, .inl (K.2 0, 12, .inl (fun _ => 0))), (q9, .inr (4, [.ref u10.1, .ref u10.2, .int 0])), (u10.1, .inl (K.2 0, 12, .inl (fun _ => 0))), (u10.2, .inl (K.2 0, 13, .inl (fun _ => 0))), (q11, .inr (0, [.ref u12.1, .ref u12.2.1, .ref u12.2.2, .int 0])), (u12.1, .inl (K.2 0, 12, .inl (fun _ => 0))), (u12.2.1, .inl (K.2 0, 12, .inl (fun _ => 0))), (u12.2.2, .inl (K.2 0, 12, .inl (fun _ => 0)))]) hG dX5_init_72 iX5_init_X5 tyX5_ok nmX5 6 (by decide) mX5_init_35 rfl rfl rfl rfl rfl rfl 0 rfl (Nat.le_of_ble_eq_true rfl) rfl ?_
  refine z_aload_n hG dX5_init_75 0 rfl ?_
  refine z_iconst 0 hG dX5_init_76 (by decide) ?_
  refine z_put (ci := 5) (C := RX5) (T := TX5) (N := 8) (ws' := [(aH, .inr (5, [.ref q1, .ref q3, .ref q5, .ref q7, .ref q9, .ref q11, .int 0, .int 0])), (q1, .inr (3, [.ref u2.1, .ref u2.2, .int 0])), (u2.1, .inl (K.2 0, 12, .inl (fun _ => 0))), (u2.2, .inl (K.2 0, 12, .inl (fun _ => 0))), (q3, .inr (2, [.ref u4.1, .ref u4.2.1, .ref u4.2.2, .int 0])), (u4.1, .inl (K.2 0, 12, .inl (fun _ => 0))), (u4.2.1, .inl (K.2 0, 12, .inl (fun _ => 0))), (u4.2.2, .inl (K.2 0, 12, .inl (fun _ => 0))), (q5, .inr (2, [.ref u6.1, .ref u6.2.1, .ref u6.2.2, .int 0])), (u6.1, .inl (K.2 0, 12, .inl (fun _ => 0))), (u6.2.1, .inl (K.2 0, 12, .inl (fun _ => 0))), (u6.2.2, .inl (K.2 0, 12, .inl (fun _ => 0))), (q7, .inr (1, [.ref u8, .int 0, .int 1])), (u8, .inl (K.2 0, 12, .inl (fun _ => 0))), (q9, .inr (4, [.ref u10.1, .ref u10.2, .int 0])), (u10.1, .inl (K.2 0, 12, .inl (fun _ => 0))), (u10.2, .inl (K.2 0, 13, .inl (fun _ => 0))), (q11, .inr (0, [.ref u12.1, .ref u12.2.1, .ref u12.2.2, .int 0])), (u12.1, .inl (K.2 0, 12, .inl (fun _ => 0))), (u12.2.1, .inl (K.2 0, 12, .inl (fun _ => 0))), (u12.2.2, .inl (K.2 0, 12, .inl (fun _ => 0)))]) hG dX5_init_77 iX5_init_X5 tyX5_ok nmX5 7 (by decide) mX5_init_36 rfl rfl rfl rfl rfl rfl 0 rfl (Nat.le_of_ble_eq_true rfl) rfl ?_
  exact (z_wid (Nat.le_of_ble_eq_true rfl) (Nat.le_of_ble_eq_true rfl) (hE (q1, u2.1, u2.2, q3, u4.1, u4.2.1, u4.2.2, q5, u6.1, u6.2.1, u6.2.2, q7, u8, q9, u10.1, u10.2, q11, u12.1, u12.2.1, u12.2.2) _ _ dX5_init_80))

theorem dX6_init_0 : decode cX6_init 0 = .ok (.aload_n 0, 1) := by decide +kernel
theorem dX6_init_1 : decode cX6_init 1 = .ok (.invokespecial 1, 3) := by decide +kernel
theorem dX6_init_4 : decode cX6_init 4 = .ok (.aload_n 0, 1) := by decide +kernel
theorem dX6_init_5 : decode cX6_init 5 = .ok (.bipush 12, 2) := by decide +kernel
theorem dX6_init_7 : decode cX6_init 7 = .ok (.newarray .int, 2) := by decide +kernel
theorem dX6_init_9 : decode cX6_init 9 = .ok (.putfield 9, 3) := by decide +kernel
theorem dX6_init_12 : decode cX6_init 12 = .ok (.aload_n 0, 1) := by decide +kernel
theorem dX6_init_13 : decode cX6_init 13 = .ok (.bipush 12, 2) := by decide +kernel
theorem dX6_init_15 : decode cX6_init 15 = .ok (.bipush 12, 2) := by decide +kernel
theorem dX6_init_17 : decode cX6_init 17 = .ok (.multianewarray 13 2, 4) := by decide +kernel
theorem dX6_init_21 : decode cX6_init 21 = .ok (.putfield 15, 3) := by decide +kernel
theorem dX6_init_24 : decode cX6_init 24 = .ok (.aload_n 0, 1) := by decide +kernel
theorem dX6_init_25 : decode cX6_init 25 = .ok (.iconst (-1), 1) := by decide +kernel
theorem dX6_init_26 : decode cX6_init 26 = .ok (.putfield 18, 3) := by decide +kernel
theorem dX6_init_29 : decode cX6_init 29 = .ok (.aload_n 0, 1) := by decide +kernel
theorem dX6_init_30 : decode cX6_init 30 = .ok (.bipush 12, 2) := by decide +kernel
theorem dX6_init_32 : decode cX6_init 32 = .ok (.newarray .int, 2) := by decide +kernel
theorem dX6_init_34 : decode cX6_init 34 = .ok (.putfield 22, 3) := by decide +kernel
theorem dX6_init_37 : decode cX6_init 37 = .ok (.aload_n 0, 1) := by decide +kernel
theorem dX6_init_38 : decode cX6_init 38 = .ok (.bipush 12, 2) := by decide +kernel
theorem dX6_init_40 : decode cX6_init 40 = .ok (.newarray .int, 2) := by decide +kernel
theorem dX6_init_42 : decode cX6_init 42 = .ok (.putfield 25, 3) := by decide +kernel
theorem dX6_init_45 : decode cX6_init 45 = .ok (.return_, 1) := by decide +kernel
theorem mX6_init_0 : Cond.methodLink RX6 1 objectInit ∈ wsX6_init := by decide +kernel
theorem mX6_init_1 : Cond.instanceMethod objectInit ∈ wsX6_init := by decide +kernel
theorem mX6_init_2 : Cond.code objectInit ⟨#[0xb1]⟩ 1 none ∈ wsX6_init := by decide +kernel
theorem mX6_init_3 : Cond.arrayClass .int ∈ wsX6_init := by decide +kernel
theorem mX6_init_4 : Cond.fieldLink RX6 9 "LayerwaysModel" "keys" "[I" ∈ wsX6_init := by decide +kernel
theorem iX6_init_X6 : ∀ w ∈ u_ws RX6 TX6 8, w ∈ wsX6_init := by decide +kernel
theorem mX6_init_6 : Cond.classLink RX6 13 "[[Z" ∈ wsX6_init := by decide +kernel
theorem mX6_init_7 : Cond.arrayClass .boolean ∈ wsX6_init := by decide +kernel
theorem mX6_init_8 : Cond.fieldLink RX6 15 "LayerwaysModel" "joined" "[[Z" ∈ wsX6_init := by decide +kernel
theorem mX6_init_9 : Cond.fieldLink RX6 18 "LayerwaysModel" "start" "I" ∈ wsX6_init := by decide +kernel
theorem mX6_init_10 : Cond.fieldLink RX6 22 "LayerwaysModel" "changed" "[I" ∈ wsX6_init := by decide +kernel
theorem mX6_init_11 : Cond.fieldLink RX6 25 "LayerwaysModel" "was" "[I" ∈ wsX6_init := by decide +kernel
set_option maxRecDepth 100000 in
set_option maxHeartbeats 4000000 in
theorem kX6_init (l : Launch) (K : zK) (aM : Nat) : zM l K yX6_init wsX6_init ({ frames := 1, cells := 16, slots := 400, locals := 14 }) [.ref aM] [(aM, .inr (6, [.null, .null, .int 0, .int 0, .null, .null, .int 0, .int 0]))] (fun _ : Nat × Nat × (Nat → Nat) × Nat × Nat => none) (fun u : Nat × Nat × (Nat → Nat) × Nat × Nat => ([(aM, .inr (6, [.ref u.1, .ref u.2.1, .int 0, .int (-1), .ref u.2.2.2.1, .ref u.2.2.2.2, .int 0, .int 0])), (u.1, .inl (K.2 0, 12, .inl (fun _ => 0))), (u.2.1, .inl (K.2 3, 12, .inr (.inr (.inr (.inr (zo u.2.2.1 12))))))] ++ zR12Z K u.2.2.1 (fun _ _ => 0) ++ [(u.2.2.2.1, .inl (K.2 0, 12, .inl (fun _ => 0))), (u.2.2.2.2, .inl (K.2 0, 12, .inl (fun _ => 0)))])) 16 400 := by
  refine zM.intV (cc := cX6_init) (maxL := 1) (ret := none) rfl (by decide) (Nat.le_of_ble_eq_true rfl) rfl (fun _ => rfl) ?_
  intro G hGl hG hN hE
  show zj G 0 [(0, .ref aM)] [] [(aM, .inr (6, [.null, .null, .int 0, .int 0, .null, .null, .int 0, .int 0]))] 0 0
  refine z_aload_n hG dX6_init_0 0 rfl ?_
  refine z_objInit hG dX6_init_1 mX6_init_0 mX6_init_1 mX6_init_2 (by decide) (Nat.le_of_ble_eq_true rfl) ?_
  refine z_aload_n hG dX6_init_4 0 rfl ?_
  refine z_bipush 12 hG dX6_init_5 (by decide) ?_
  refine z_newI (ws0 := []) (N' := 12) hG dX6_init_7 mX6_init_3 (by decide) (by decide) (by decide) (Nat.le_of_ble_eq_true rfl) (Nat.le_of_ble_eq_true rfl) (fun q1 => ?_)
  show zj G 9 [(0, .ref aM)] [.ref q1, .ref aM] [(aM, .inr (6, [.null, .null, .int 0, .int 0, .null, .null, .int 0, .int 0])), (q1, .inl (K.2 0, 12, .inl (fun _ => 0)))] 1 12
  refine z_putF (ci := 6) (C := RX6) (T := TX6) (N := 8) (ws' := [(aM, .inr (6, [.ref q1, .null, .int 0, .int 0, .null, .null, .int 0, .int 0])), (q1, .inl (K.2 0, 12, .inl (fun _ => 0)))]) hG (hN rfl) dX6_init_9 iX6_init_X6 tyX6_ok nmX6 0 (by decide) mX6_init_4 rfl rfl rfl rfl rfl rfl rfl 0 rfl (Nat.le_of_ble_eq_true rfl) rfl ?_
  refine z_aload_n hG dX6_init_12 0 rfl ?_
  refine z_bipush 12 hG dX6_init_13 (by decide) ?_
  refine z_bipush 12 hG dX6_init_15 (by decide) ?_
  refine z_mnaZ (N' := 12) (K' := 12) hG dX6_init_17 mX6_init_6 (by decide +kernel) mX6_init_7 (by decide) (by decide) (by decide) (by decide) (by decide) (by decide) (by decide) (Nat.le_of_ble_eq_true rfl) (Nat.le_of_ble_eq_true rfl) (fun q2 r3 => ?_)
  show zj G 21 [(0, .ref aM)] [.ref q2, .ref aM] ([(aM, .inr (6, [.ref q1, .null, .int 0, .int 0, .null, .null, .int 0, .int 0])), (q1, .inl (K.2 0, 12, .inl (fun _ => 0))), (q2, .inl (K.2 3, 12, .inr (.inr (.inr (.inr (zo r3 12))))))] ++ zR12Z K r3 (fun _ _ => 0)) 14 168
  refine z_putF (ci := 6) (C := RX6) (T := TX6) (N := 8) (ws' := ([(aM, .inr (6, [.ref q1, .ref q2, .int 0, .int 0, .null, .null, .int 0, .int 0])), (q1, .inl (K.2 0, 12, .inl (fun _ => 0))), (q2, .inl (K.2 3, 12, .inr (.inr (.inr (.inr (zo r3 12))))))] ++ zR12Z K r3 (fun _ _ => 0))) hG (hN rfl) dX6_init_21 iX6_init_X6 tyX6_ok nmX6 1 (by decide) mX6_init_8 rfl rfl rfl rfl rfl rfl rfl 0 rfl (Nat.le_of_ble_eq_true rfl) rfl ?_
  refine z_aload_n hG dX6_init_24 0 rfl ?_
  refine z_iconst (-1) hG dX6_init_25 (by decide) ?_
  refine z_put (ci := 6) (C := RX6) (T := TX6) (N := 8) (ws' := ([(aM, .inr (6, [.ref q1, .ref q2, .int 0, .int (-1), .null, .null, .int 0, .int 0])), (q1, .inl (K.2 0, 12, .inl (fun _ => 0))), (q2, .inl (K.2 3, 12, .inr (.inr (.inr (.inr (zo r3 12))))))] ++ zR12Z K r3 (fun _ _ => 0))) hG dX6_init_26 iX6_init_X6 tyX6_ok nmX6 3 (by decide) mX6_init_9 rfl rfl rfl rfl rfl rfl 0 rfl (Nat.le_of_ble_eq_true rfl) rfl ?_
  refine z_aload_n hG dX6_init_29 0 rfl ?_
  refine z_bipush 12 hG dX6_init_30 (by decide) ?_
  refine z_newI (ws0 := []) (N' := 12) hG dX6_init_32 mX6_init_3 (by decide) (by decide) (by decide) (Nat.le_of_ble_eq_true rfl) (Nat.le_of_ble_eq_true rfl) (fun q4 => ?_)
  show zj G 34 [(0, .ref aM)] [.ref q4, .ref aM] ([(aM, .inr (6, [.ref q1, .ref q2, .int 0, .int (-1), .null, .null, .int 0, .int 0])), (q1, .inl (K.2 0, 12, .inl (fun _ => 0))), (q2, .inl (K.2 3, 12, .inr (.inr (.inr (.inr (zo r3 12))))))] ++ zR12Z K r3 (fun _ _ => 0) ++ [(q4, .inl (K.2 0, 12, .inl (fun _ => 0)))]) 15 180
  refine z_putF (ci := 6) (C := RX6) (T := TX6) (N := 8) (ws' := ([(aM, .inr (6, [.ref q1, .ref q2, .int 0, .int (-1), .ref q4, .null, .int 0, .int 0])), (q1, .inl (K.2 0, 12, .inl (fun _ => 0))), (q2, .inl (K.2 3, 12, .inr (.inr (.inr (.inr (zo r3 12))))))] ++ zR12Z K r3 (fun _ _ => 0) ++ [(q4, .inl (K.2 0, 12, .inl (fun _ => 0)))])) hG (hN rfl) dX6_init_34 iX6_init_X6 tyX6_ok nmX6 4 (by decide) mX6_init_10 rfl rfl rfl rfl rfl rfl rfl 0 rfl (Nat.le_of_ble_eq_true rfl) rfl ?_
  refine z_aload_n hG dX6_init_37 0 rfl ?_
  refine z_bipush 12 hG dX6_init_38 (by decide) ?_
  refine z_newI (ws0 := []) (N' := 12) hG dX6_init_40 mX6_init_3 (by decide) (by decide) (by decide) (Nat.le_of_ble_eq_true rfl) (Nat.le_of_ble_eq_true rfl) (fun q5 => ?_)
  show zj G 42 [(0, .ref aM)] [.ref q5, .ref aM] ([(aM, .inr (6, [.ref q1, .ref q2, .int 0, .int (-1), .ref q4, .null, .int 0, .int 0])), (q1, .inl (K.2 0, 12, .inl (fun _ => 0))), (q2, .inl (K.2 3, 12, .inr (.inr (.inr (.inr (zo r3 12))))))] ++ zR12Z K r3 (fun _ _ => 0) ++ [(q4, .inl (K.2 0, 12, .inl (fun _ => 0))), (q5, .inl (K.2 0, 12, .inl (fun _ => 0)))]) 16 192
  refine z_putF (ci := 6) (C := RX6) (T := TX6) (N := 8) (ws' := ([(aM, .inr (6, [.ref q1, .ref q2, .int 0, .int (-1), .ref q4, .ref q5, .int 0, .int 0])), (q1, .inl (K.2 0, 12, .inl (fun _ => 0))), (q2, .inl (K.2 3, 12, .inr (.inr (.inr (.inr (zo r3 12))))))] ++ zR12Z K r3 (fun _ _ => 0) ++ [(q4, .inl (K.2 0, 12, .inl (fun _ => 0))), (q5, .inl (K.2 0, 12, .inl (fun _ => 0)))])) hG (hN rfl) dX6_init_42 iX6_init_X6 tyX6_ok nmX6 5 (by decide) mX6_init_11 rfl rfl rfl rfl rfl rfl rfl 0 rfl (Nat.le_of_ble_eq_true rfl) rfl ?_
  exact (z_wid (Nat.le_of_ble_eq_true rfl) (Nat.le_of_ble_eq_true rfl) (hE (q1, q2, r3, q4, q5) _ _ dX6_init_45))
