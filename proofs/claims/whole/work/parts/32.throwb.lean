theorem dX5_place_0 : decode cX5_place 0 = .ok (.aload_n 0, 1) := by decide +kernel
theorem dX5_place_1 : decode cX5_place 1 = .ok (.getfield 10, 3) := by decide +kernel
theorem dX5_place_4 : decode cX5_place 4 = .ok (.iload_n 1, 1) := by decide +kernel
theorem dX5_place_5 : decode cX5_place 5 = .ok (.invokevirtual 55, 3) := by decide +kernel
theorem dX5_place_8 : decode cX5_place 8 = .ok (.iconst (-1), 1) := by decide +kernel
theorem dX5_place_9 : decode cX5_place 9 = .ok (.if_icmp .eq 13, 3) := by decide +kernel
theorem dX5_place_12 : decode cX5_place 12 = .ok (.new 59, 3) := by decide +kernel
theorem dX5_place_15 : decode cX5_place 15 = .ok (.dup, 1) := by decide +kernel
theorem dX5_place_16 : decode cX5_place 16 = .ok (.ldc 61, 2) := by decide +kernel
theorem dX5_place_18 : decode cX5_place 18 = .ok (.invokespecial 63, 3) := by decide +kernel
theorem dX5_place_21 : decode cX5_place 21 = .ok (.athrow, 1) := by decide +kernel
theorem dX5_place_22 : decode cX5_place 22 = .ok (.aload_n 0, 1) := by decide +kernel
theorem dX5_place_23 : decode cX5_place 23 = .ok (.getfield 10, 3) := by decide +kernel
theorem dX5_place_26 : decode cX5_place 26 = .ok (.getfield 66, 3) := by decide +kernel
theorem dX5_place_29 : decode cX5_place 29 = .ok (.bipush 12, 2) := by decide +kernel
theorem dX5_place_31 : decode cX5_place 31 = .ok (.if_icmp .lt 13, 3) := by decide +kernel
theorem dX5_place_34 : decode cX5_place 34 = .ok (.new 69, 3) := by decide +kernel
theorem dX5_place_37 : decode cX5_place 37 = .ok (.dup, 1) := by decide +kernel
theorem dX5_place_38 : decode cX5_place 38 = .ok (.ldc 71, 2) := by decide +kernel
theorem dX5_place_40 : decode cX5_place 40 = .ok (.invokespecial 73, 3) := by decide +kernel
theorem dX5_place_43 : decode cX5_place 43 = .ok (.athrow, 1) := by decide +kernel
theorem dX5_place_44 : decode cX5_place 44 = .ok (.aload_n 0, 1) := by decide +kernel
theorem dX5_place_45 : decode cX5_place 45 = .ok (.getfield 10, 3) := by decide +kernel
theorem dX5_place_48 : decode cX5_place 48 = .ok (.iload_n 1, 1) := by decide +kernel
theorem dX5_place_49 : decode cX5_place 49 = .ok (.invokevirtual 74, 3) := by decide +kernel
theorem dX5_place_52 : decode cX5_place 52 = .ok (.aload_n 0, 1) := by decide +kernel
theorem dX5_place_53 : decode cX5_place 53 = .ok (.getfield 43, 3) := by decide +kernel
theorem dX5_place_56 : decode cX5_place 56 = .ok (.invokevirtual 78, 3) := by decide +kernel
theorem dX5_place_59 : decode cX5_place 59 = .ok (.aload_n 0, 1) := by decide +kernel
theorem dX5_place_60 : decode cX5_place 60 = .ok (.invokevirtual 81, 3) := by decide +kernel
theorem dX5_place_63 : decode cX5_place 63 = .ok (.aload_n 0, 1) := by decide +kernel
theorem dX5_place_64 : decode cX5_place 64 = .ok (.getfield 10, 3) := by decide +kernel
theorem dX5_place_67 : decode cX5_place 67 = .ok (.getfield 66, 3) := by decide +kernel
theorem dX5_place_70 : decode cX5_place 70 = .ok (.ireturn, 1) := by decide +kernel
set_option maxRecDepth 20000 in
theorem ggX5_place_X3_find : GoodIn wsX5_place wsX3_find := goodIn_r _ [12, 13, 14, 65, 66, 67] (by decide +kernel) (by decide +kernel)
set_option maxRecDepth 20000 in
theorem gX5_place_X3_find : GoodIn wsX5_place (wsV RX5 55 RX3 yX3_find wsX3_find) := goodIn_app (goodIn_of _ (by decide +kernel)) ggX5_place_X3_find
set_option maxRecDepth 20000 in
theorem ggX5_place_X3_insert : GoodIn wsX5_place wsX3_insert := goodIn_r _ [18, 13, 14, 19, 20, 21, 11, 22, 65, 66, 67] (by decide +kernel) (by decide +kernel)
set_option maxRecDepth 20000 in
theorem gX5_place_X3_insert : GoodIn wsX5_place (wsV RX5 74 RX3 yX3_insert wsX3_insert) := goodIn_app (goodIn_of _ (by decide +kernel)) ggX5_place_X3_insert
set_option maxRecDepth 20000 in
theorem ggX5_place_X0_clear : GoodIn wsX5_place wsX0_clear := goodIn_r _ [27, 28, 68, 69, 70, 71] (by decide +kernel) (by decide +kernel)
set_option maxRecDepth 20000 in
theorem gX5_place_X0_clear : GoodIn wsX5_place (wsV RX5 78 RX0 yX0_clear wsX0_clear) := goodIn_app (goodIn_of _ (by decide +kernel)) ggX5_place_X0_clear
set_option maxRecDepth 20000 in
theorem ggX5_place_X5_spreadFromStart : GoodIn wsX5_place wsX5_spreadFromStart := goodIn_r _ [33, 34, 5, 35, 36, 8, 9, 10, 11, 12, 13, 14, 37, 38, 39, 40, 41, 42, 43, 44, 45, 46, 47, 48, 49, 50, 51, 52, 53, 54, 19, 55, 32, 56, 57, 58, 59, 60, 61, 62, 63, 64, 65, 66, 67, 72, 73, 74, 75] (by decide +kernel) (by decide +kernel)
set_option maxRecDepth 20000 in
theorem gX5_place_X5_spreadFromStart : GoodIn wsX5_place (wsV RX5 81 RX5 yX5_spreadFromStart wsX5_spreadFromStart) := goodIn_app (goodIn_of _ (by decide +kernel)) ggX5_place_X5_spreadFromStart
theorem mX5_place_0 : Cond.fieldLink RX5 10 "Layerways" "net" "LLayerways$Net;" ∈ wsX5_place := by decide +kernel
theorem iX5_place_X5 : ∀ w ∈ u_ws RX5 TX5 8, w ∈ wsX5_place := by decide +kernel
theorem mX5_place_2 : Cond.fieldLink RX5 66 "Layerways$Net" "size" "I" ∈ wsX5_place := by decide +kernel
theorem iX5_place_X3 : ∀ w ∈ u_ws RX3 TX3 3, w ∈ wsX5_place := by decide +kernel
theorem mX5_place_4 : Cond.fieldLink RX5 43 "Layerways" "change" "LLayerways$Change;" ∈ wsX5_place := by decide +kernel
theorem mX5_place_5 : Cond.classLink RX5 69 "java/lang/IllegalStateException" ∈ wsX5_place := by decide +kernel
theorem mX5_place_6 : Cond.initialized "java/lang/IllegalStateException" ∈ wsX5_place := by decide +kernel
theorem hX5_place_73 : ∀ w ∈ (vx_atS RX5 73 "java/lang/IllegalStateException" ["java/lang/RuntimeException", "java/lang/Exception"]).filter goodWord, w ∈ wsX5_place := fun w h => List.mem_cons_of_mem _ (List.mem_append_right _ h)
theorem mX5_place_8 : Cond.classLink RX5 59 "java/lang/IllegalArgumentException" ∈ wsX5_place := by decide +kernel
theorem mX5_place_9 : Cond.initialized "java/lang/IllegalArgumentException" ∈ wsX5_place := by decide +kernel
theorem hX5_place_63 : ∀ w ∈ (vx_atS RX5 63 "java/lang/IllegalArgumentException" ["java/lang/RuntimeException", "java/lang/Exception"]).filter goodWord, w ∈ wsX5_place := fun w h => List.mem_cons_of_mem _ (List.mem_append_left _ (List.mem_append_right _ h))
def fX5_place (gB : Int32) (gK : Int32) (nS : Int32) (nK : (Nat → Int32)) (nN : (Nat → Int32)) (fM : Int32) (fL : (Nat → Int32)) (fC : (Nat → Int32)) (fQ : (Nat → Int32)) (xS : Int32) (p0 : Int32) : Option ((String ⊕ Int32) × Int32 × (Nat → Int32) × (Nat → Int32) × Int32 × (Nat → Int32) × (Nat → Int32) × (Nat → Int32) × Int32) := (fX3_find nS nK p0).bind fun v1 => if v1 = (-1) then if nS < 12 then (fX3_insert nS nK nN p0).bind fun v2 => fX0_clear.bind fun v3 => (fX5_spreadFromStart gB gK v2.1 v2.2.1 v2.2.2 fL fC fQ).bind fun v4 => some (.inr v2.1, v2.1, v2.2.1, v2.2.2, v4.1, v4.2.1, v4.2.2.1, v4.2.2.2, v3) else some (.inl "java/lang/IllegalStateException", nS, nK, nN, fM, fL, fC, fQ, xS) else some (.inl "java/lang/IllegalArgumentException", nS, nK, nN, fM, fL, fC, fQ, xS)
set_option maxRecDepth 100000 in
set_option maxHeartbeats 4000000 in
theorem kX5_place (l : Launch) (K : zK) (aH : Nat) (aN : Nat) (aNk : Nat) (aNn : Nat) (aF : Nat) (aFl : Nat) (aFc : Nat) (aFq : Nat) (aX : Nat) (aXb : Nat) (aXk : Nat) (aXw : Nat) (aA : Nat) (aC : Nat) (aO : Nat)  (gB : Int32) (gK : Int32) (nS : Int32) (nK : (Nat → Int32)) (nN : (Nat → Int32)) (fM : Int32) (fL : (Nat → Int32)) (fC : (Nat → Int32)) (fQ : (Nat → Int32)) (xS : Int32) (xB : (Nat → Int32)) (xK : (Nat → Int32)) (xW : (Nat → Int32)) (p0 : Int32) (r : (String ⊕ Int32) × Int32 × (Nat → Int32) × (Nat → Int32) × Int32 × (Nat → Int32) × (Nat → Int32) × (Nat → Int32) × Int32) (hres : fX5_place gB gK nS nK nN fM fL fC fQ xS p0 = some r) : zX l K yX5_place wsX5_place ({ frames := 6, cells := 8, slots := 48, locals := 109 }) [.ref aH, .int p0] [(aH, .inr (5, [.ref aN, .ref aF, .ref aA, .ref aC, .ref aO, .ref aX, .int gB, .int gK])), (aN, .inr (3, [.ref aNk, .ref aNn, .int nS])), (aNk, .inl (K.2 0, 12, .inl nK)), (aNn, .inl (K.2 0, 12, .inl nN)), (aF, .inr (2, [.ref aFl, .ref aFc, .ref aFq, .int fM])), (aFl, .inl (K.2 0, 12, .inl fL)), (aFc, .inl (K.2 0, 12, .inl fC)), (aFq, .inl (K.2 0, 12, .inl fQ)), (aX, .inr (0, [.ref aXb, .ref aXk, .ref aXw, .int xS])), (aXb, .inl (K.2 0, 12, .inl xB)), (aXk, .inl (K.2 0, 12, .inl xK)), (aXw, .inl (K.2 0, 12, .inl xW))] (zoI r.1) [(aH, .inr (5, [.ref aN, .ref aF, .ref aA, .ref aC, .ref aO, .ref aX, .int gB, .int gK])), (aN, .inr (3, [.ref aNk, .ref aNn, .int r.2.1])), (aNk, .inl (K.2 0, 12, .inl r.2.2.1)), (aNn, .inl (K.2 0, 12, .inl r.2.2.2.1)), (aF, .inr (2, [.ref aFl, .ref aFc, .ref aFq, .int r.2.2.2.2.1])), (aFl, .inl (K.2 0, 12, .inl r.2.2.2.2.2.1)), (aFc, .inl (K.2 0, 12, .inl r.2.2.2.2.2.2.1)), (aFq, .inl (K.2 0, 12, .inl r.2.2.2.2.2.2.2.1)), (aX, .inr (0, [.ref aXb, .ref aXk, .ref aXw, .int r.2.2.2.2.2.2.2.2])), (aXb, .inl (K.2 0, 12, .inl xB)), (aXk, .inl (K.2 0, 12, .inl xK)), (aXw, .inl (K.2 0, 12, .inl xW))] 8 48 := by
  refine zX.intI (cc := cX5_place) (maxL := 2) (ret := (some .int)) rfl (by decide) (Nat.le_of_ble_eq_true rfl) rfl ?_
  intro G hGl hG hV hR hT hP
  unfold fX5_place at hres
  show zj G 0 [(0, .ref aH), (1, .int p0)] [] [(aH, .inr (5, [.ref aN, .ref aF, .ref aA, .ref aC, .ref aO, .ref aX, .int gB, .int gK])), (aN, .inr (3, [.ref aNk, .ref aNn, .int nS])), (aNk, .inl (K.2 0, 12, .inl nK)), (aNn, .inl (K.2 0, 12, .inl nN)), (aF, .inr (2, [.ref aFl, .ref aFc, .ref aFq, .int fM])), (aFl, .inl (K.2 0, 12, .inl fL)), (aFc, .inl (K.2 0, 12, .inl fC)), (aFq, .inl (K.2 0, 12, .inl fQ)), (aX, .inr (0, [.ref aXb, .ref aXk, .ref aXw, .int xS])), (aXb, .inl (K.2 0, 12, .inl xB)), (aXk, .inl (K.2 0, 12, .inl xK)), (aXw, .inl (K.2 0, 12, .inl xW))] 0 0
  refine z_aload_n hG dX5_place_0 0 rfl ?_
  refine z_get (ci := 5) (C := RX5) (T := TX5) (N := 8) hG dX5_place_1 iX5_place_X5 0 (by decide) mX5_place_0 rfl rfl 0 rfl rfl ?_
  refine z_iload_n hG dX5_place_4 1 rfl ?_
  obtain ⟨v1, hv, hres⟩ := z_bind hres
  refine z_callV (As := [.int p0]) (rest := []) (wr := [(aH, .inr (5, [.ref aN, .ref aF, .ref aA, .ref aC, .ref aO, .ref aX, .int gB, .int gK])), (aF, .inr (2, [.ref aFl, .ref aFc, .ref aFq, .int fM])), (aFl, .inl (K.2 0, 12, .inl fL)), (aFc, .inl (K.2 0, 12, .inl fC)), (aFq, .inl (K.2 0, 12, .inl fQ)), (aX, .inr (0, [.ref aXb, .ref aXk, .ref aXw, .int xS])), (aXb, .inl (K.2 0, 12, .inl xB)), (aXk, .inl (K.2 0, 12, .inl xK)), (aXw, .inl (K.2 0, 12, .inl xW))]) (ws' := (fun _ : Unit => [(aH, .inr (5, [.ref aN, .ref aF, .ref aA, .ref aC, .ref aO, .ref aX, .int gB, .int gK])), (aN, .inr (3, [.ref aNk, .ref aNn, .int nS])), (aNk, .inl (K.2 0, 12, .inl nK)), (aNn, .inl (K.2 0, 12, .inl nN)), (aF, .inr (2, [.ref aFl, .ref aFc, .ref aFq, .int fM])), (aFl, .inl (K.2 0, 12, .inl fL)), (aFc, .inl (K.2 0, 12, .inl fC)), (aFq, .inl (K.2 0, 12, .inl fQ)), (aX, .inr (0, [.ref aXb, .ref aXk, .ref aXw, .int xS])), (aXb, .inl (K.2 0, 12, .inl xB)), (aXk, .inl (K.2 0, 12, .inl xK)), (aXw, .inl (K.2 0, 12, .inl xW))])) (stk := (fun _ : Unit => [.int v1])) (kc' := 0) (ks' := 0) (n := 1) (C := RX3) (ci := 3) hG dX5_place_5 (kX3_find _ K aN aNk aNn nS nK nN p0 v1 hv) gX5_place_X3_find rfl rfl rfl ⟨rfl, by decide, by decide, rfl⟩ ⟨by decide, by decide⟩ (Nat.le_of_ble_eq_true rfl) ⟨(Nat.le_of_ble_eq_true rfl), (Nat.le_of_ble_eq_true rfl)⟩ [1, 2, 3] [0, 4, 5, 6, 7, 8, 9, 10, 11] [0, 9, 10, 11, 1, 2, 3, 4, 5, 6, 7, 8] rfl rfl rfl rfl (by decide) rfl (fun _ => rfl) (fun _ => rfl) rfl rfl rfl 0 rfl rfl rfl rfl (fun _ => ?_)
  refine z_iconst (-1) hG dX5_place_8 (by decide) ?_
  refine z_icmp_eq 22 hG dX5_place_9 (by decide) (fun c => ?_) (fun c => ?_)
  · replace hres := z_ifp c hres
    refine z_aload_n hG dX5_place_22 0 rfl ?_
    refine z_get (ci := 5) (C := RX5) (T := TX5) (N := 8) hG dX5_place_23 iX5_place_X5 0 (by decide) mX5_place_0 rfl rfl 0 rfl rfl ?_
    refine z_get (ci := 3) (C := RX3) (T := TX3) (N := 3) hG dX5_place_26 iX5_place_X3 2 (by decide) mX5_place_2 rfl rfl 1 rfl rfl ?_
    refine z_bipush 12 hG dX5_place_29 (by decide) ?_
    refine z_icmp_lt 44 hG dX5_place_31 (by decide) (fun c => ?_) (fun c => ?_)
    · replace hres := z_ifp c hres
      refine z_aload_n hG dX5_place_44 0 rfl ?_
      refine z_get (ci := 5) (C := RX5) (T := TX5) (N := 8) hG dX5_place_45 iX5_place_X5 0 (by decide) mX5_place_0 rfl rfl 0 rfl rfl ?_
      refine z_iload_n hG dX5_place_48 1 rfl ?_
      obtain ⟨v2, hv, hres⟩ := z_bind hres
      refine z_callV (As := [.int p0]) (rest := []) (wr := [(aH, .inr (5, [.ref aN, .ref aF, .ref aA, .ref aC, .ref aO, .ref aX, .int gB, .int gK])), (aF, .inr (2, [.ref aFl, .ref aFc, .ref aFq, .int fM])), (aFl, .inl (K.2 0, 12, .inl fL)), (aFc, .inl (K.2 0, 12, .inl fC)), (aFq, .inl (K.2 0, 12, .inl fQ)), (aX, .inr (0, [.ref aXb, .ref aXk, .ref aXw, .int xS])), (aXb, .inl (K.2 0, 12, .inl xB)), (aXk, .inl (K.2 0, 12, .inl xK)), (aXw, .inl (K.2 0, 12, .inl xW))]) (ws' := (fun _ : Unit => [(aH, .inr (5, [.ref aN, .ref aF, .ref aA, .ref aC, .ref aO, .ref aX, .int gB, .int gK])), (aN, .inr (3, [.ref aNk, .ref aNn, .int v2.1])), (aNk, .inl (K.2 0, 12, .inl v2.2.1)), (aNn, .inl (K.2 0, 12, .inl v2.2.2)), (aF, .inr (2, [.ref aFl, .ref aFc, .ref aFq, .int fM])), (aFl, .inl (K.2 0, 12, .inl fL)), (aFc, .inl (K.2 0, 12, .inl fC)), (aFq, .inl (K.2 0, 12, .inl fQ)), (aX, .inr (0, [.ref aXb, .ref aXk, .ref aXw, .int xS])), (aXb, .inl (K.2 0, 12, .inl xB)), (aXk, .inl (K.2 0, 12, .inl xK)), (aXw, .inl (K.2 0, 12, .inl xW))])) (stk := (fun _ : Unit => [])) (kc' := 0) (ks' := 0) (n := 1) (C := RX3) (ci := 3) hG dX5_place_49 (kX3_insert _ K aN aNk aNn nS nK nN p0 v2 hv) gX5_place_X3_insert rfl rfl rfl ⟨rfl, by decide, by decide, rfl⟩ ⟨by decide, by decide⟩ (Nat.le_of_ble_eq_true rfl) ⟨(Nat.le_of_ble_eq_true rfl), (Nat.le_of_ble_eq_true rfl)⟩ [1, 2, 3] [0, 4, 5, 6, 7, 8, 9, 10, 11] [0, 9, 10, 11, 1, 2, 3, 4, 5, 6, 7, 8] rfl rfl rfl rfl (by decide) rfl (fun _ => rfl) (fun _ => rfl) rfl rfl rfl 0 rfl rfl rfl rfl (fun _ => ?_)
      refine z_aload_n hG dX5_place_52 0 rfl ?_
      refine z_get (ci := 5) (C := RX5) (T := TX5) (N := 8) hG dX5_place_53 iX5_place_X5 5 (by decide) mX5_place_4 rfl rfl 0 rfl rfl ?_
      obtain ⟨v3, hv, hres⟩ := z_bind hres
      refine z_callV (As := []) (rest := []) (wr := [(aH, .inr (5, [.ref aN, .ref aF, .ref aA, .ref aC, .ref aO, .ref aX, .int gB, .int gK])), (aN, .inr (3, [.ref aNk, .ref aNn, .int v2.1])), (aNk, .inl (K.2 0, 12, .inl v2.2.1)), (aNn, .inl (K.2 0, 12, .inl v2.2.2)), (aF, .inr (2, [.ref aFl, .ref aFc, .ref aFq, .int fM])), (aFl, .inl (K.2 0, 12, .inl fL)), (aFc, .inl (K.2 0, 12, .inl fC)), (aFq, .inl (K.2 0, 12, .inl fQ))]) (ws' := (fun _ : Unit => [(aH, .inr (5, [.ref aN, .ref aF, .ref aA, .ref aC, .ref aO, .ref aX, .int gB, .int gK])), (aN, .inr (3, [.ref aNk, .ref aNn, .int v2.1])), (aNk, .inl (K.2 0, 12, .inl v2.2.1)), (aNn, .inl (K.2 0, 12, .inl v2.2.2)), (aF, .inr (2, [.ref aFl, .ref aFc, .ref aFq, .int fM])), (aFl, .inl (K.2 0, 12, .inl fL)), (aFc, .inl (K.2 0, 12, .inl fC)), (aFq, .inl (K.2 0, 12, .inl fQ)), (aX, .inr (0, [.ref aXb, .ref aXk, .ref aXw, .int v3])), (aXb, .inl (K.2 0, 12, .inl xB)), (aXk, .inl (K.2 0, 12, .inl xK)), (aXw, .inl (K.2 0, 12, .inl xW))])) (stk := (fun _ : Unit => [])) (kc' := 0) (ks' := 0) (n := 0) (C := RX0) (ci := 0) hG dX5_place_56 (kX0_clear _ K aX aXb aXk aXw xS xB xK xW v3 hv) gX5_place_X0_clear rfl rfl rfl ⟨rfl, by decide, by decide, rfl⟩ ⟨by decide, by decide⟩ (Nat.le_of_ble_eq_true rfl) ⟨(Nat.le_of_ble_eq_true rfl), (Nat.le_of_ble_eq_true rfl)⟩ [8, 9, 10, 11] [0, 1, 2, 3, 4, 5, 6, 7] [0, 1, 2, 3, 4, 5, 6, 7, 8, 9, 10, 11] rfl rfl rfl rfl (by decide) rfl (fun _ => rfl) (fun _ => rfl) rfl rfl rfl 0 rfl rfl rfl rfl (fun _ => ?_)
      refine z_aload_n hG dX5_place_59 0 rfl ?_
      obtain ⟨v4, hv, hres⟩ := z_bind hres
      refine z_callV (As := []) (rest := []) (wr := [(aX, .inr (0, [.ref aXb, .ref aXk, .ref aXw, .int v3])), (aXb, .inl (K.2 0, 12, .inl xB)), (aXk, .inl (K.2 0, 12, .inl xK)), (aXw, .inl (K.2 0, 12, .inl xW))]) (ws' := (fun _ : Unit => [(aH, .inr (5, [.ref aN, .ref aF, .ref aA, .ref aC, .ref aO, .ref aX, .int gB, .int gK])), (aN, .inr (3, [.ref aNk, .ref aNn, .int v2.1])), (aNk, .inl (K.2 0, 12, .inl v2.2.1)), (aNn, .inl (K.2 0, 12, .inl v2.2.2)), (aF, .inr (2, [.ref aFl, .ref aFc, .ref aFq, .int v4.1])), (aFl, .inl (K.2 0, 12, .inl v4.2.1)), (aFc, .inl (K.2 0, 12, .inl v4.2.2.1)), (aFq, .inl (K.2 0, 12, .inl v4.2.2.2)), (aX, .inr (0, [.ref aXb, .ref aXk, .ref aXw, .int v3])), (aXb, .inl (K.2 0, 12, .inl xB)), (aXk, .inl (K.2 0, 12, .inl xK)), (aXw, .inl (K.2 0, 12, .inl xW))])) (stk := (fun _ : Unit => [])) (kc' := 0) (ks' := 0) (n := 0) (C := RX5) (ci := 5) hG dX5_place_60 (kX5_spreadFromStart _ K aH aN aNk aNn aF aFl aFc aFq aA aC aO aX gB gK v2.1 v2.2.1 v2.2.2 fM fL fC fQ v4 hv) gX5_place_X5_spreadFromStart rfl rfl rfl ⟨rfl, by decide, by decide, rfl⟩ ⟨by decide, by decide⟩ (Nat.le_of_ble_eq_true rfl) ⟨(Nat.le_of_ble_eq_true rfl), (Nat.le_of_ble_eq_true rfl)⟩ [0, 1, 2, 3, 4, 5, 6, 7] [8, 9, 10, 11] [4, 5, 6, 7, 8, 9, 10, 11, 0, 1, 2, 3] rfl rfl rfl rfl (by decide) rfl (fun _ => rfl) (fun _ => rfl) rfl rfl rfl 0 rfl rfl rfl rfl (fun _ => ?_)
      refine z_aload_n hG dX5_place_63 0 rfl ?_
      refine z_get (ci := 5) (C := RX5) (T := TX5) (N := 8) hG dX5_place_64 iX5_place_X5 0 (by decide) mX5_place_0 rfl rfl 0 rfl rfl ?_
      refine z_get (ci := 3) (C := RX3) (T := TX3) (N := 3) hG dX5_place_67 iX5_place_X3 2 (by decide) mX5_place_2 rfl rfl 1 rfl rfl ?_
      obtain rfl := Option.some.inj hres
      exact (z_wid (Nat.le_of_ble_eq_true rfl) (Nat.le_of_ble_eq_true rfl) (hR _ rfl _ _ dX5_place_70))
    · replace hres := z_ifn c hres
      obtain rfl := Option.some.inj hres
      exact z_throw "the net is full" hG (hT _ rfl) (by decide) mX5_place_5 mX5_place_6 (by decide) rfl (by decide) hX5_place_73 zng_IllegalStateException zgd_IllegalStateException dX5_place_34 dX5_place_37 dX5_place_38 dX5_place_40 dX5_place_43 (by decide) (Nat.le_of_ble_eq_true rfl) (Nat.le_of_ble_eq_true rfl) (Nat.le_of_ble_eq_true rfl) (Nat.le_of_ble_eq_true rfl) (Nat.le_of_ble_eq_true rfl)
  · replace hres := z_ifn c hres
    obtain rfl := Option.some.inj hres
    exact z_throw "a place has that key" hG (hT _ rfl) (by decide) mX5_place_8 mX5_place_9 (by decide) rfl (by decide) hX5_place_63 zng_IllegalArgumentException zgd_IllegalArgumentException dX5_place_12 dX5_place_15 dX5_place_16 dX5_place_18 dX5_place_21 (by decide) (Nat.le_of_ble_eq_true rfl) (Nat.le_of_ble_eq_true rfl) (Nat.le_of_ble_eq_true rfl) (Nat.le_of_ble_eq_true rfl) (Nat.le_of_ble_eq_true rfl)

theorem dX5_leave_0 : decode cX5_leave 0 = .ok (.aload_n 0, 1) := by decide +kernel
theorem dX5_leave_1 : decode cX5_leave 1 = .ok (.iload_n 1, 1) := by decide +kernel
theorem dX5_leave_2 : decode cX5_leave 2 = .ok (.invokevirtual 84, 3) := by decide +kernel
theorem dX5_leave_5 : decode cX5_leave 5 = .ok (.istore_n 2, 1) := by decide +kernel
theorem dX5_leave_6 : decode cX5_leave 6 = .ok (.aload_n 0, 1) := by decide +kernel
theorem dX5_leave_7 : decode cX5_leave 7 = .ok (.getfield 10, 3) := by decide +kernel
theorem dX5_leave_10 : decode cX5_leave 10 = .ok (.iload_n 2, 1) := by decide +kernel
theorem dX5_leave_11 : decode cX5_leave 11 = .ok (.invokevirtual 87, 3) := by decide +kernel
theorem dX5_leave_14 : decode cX5_leave 14 = .ok (.istore_n 3, 1) := by decide +kernel
theorem dX5_leave_15 : decode cX5_leave 15 = .ok (.aload_n 0, 1) := by decide +kernel
theorem dX5_leave_16 : decode cX5_leave 16 = .ok (.getfield 10, 3) := by decide +kernel
theorem dX5_leave_19 : decode cX5_leave 19 = .ok (.iload_n 2, 1) := by decide +kernel
theorem dX5_leave_20 : decode cX5_leave 20 = .ok (.invokevirtual 90, 3) := by decide +kernel
theorem dX5_leave_23 : decode cX5_leave 23 = .ok (.aload_n 0, 1) := by decide +kernel
theorem dX5_leave_24 : decode cX5_leave 24 = .ok (.getfield 47, 3) := by decide +kernel
theorem dX5_leave_27 : decode cX5_leave 27 = .ok (.ifCond .eq 16, 3) := by decide +kernel
theorem dX5_leave_30 : decode cX5_leave 30 = .ok (.aload_n 0, 1) := by decide +kernel
theorem dX5_leave_31 : decode cX5_leave 31 = .ok (.getfield 51, 3) := by decide +kernel
theorem dX5_leave_34 : decode cX5_leave 34 = .ok (.iload_n 1, 1) := by decide +kernel
theorem dX5_leave_35 : decode cX5_leave 35 = .ok (.if_icmp .ne 8, 3) := by decide +kernel
theorem dX5_leave_38 : decode cX5_leave 38 = .ok (.aload_n 0, 1) := by decide +kernel
theorem dX5_leave_39 : decode cX5_leave 39 = .ok (.iconst 0, 1) := by decide +kernel
theorem dX5_leave_40 : decode cX5_leave 40 = .ok (.putfield 47, 3) := by decide +kernel
theorem dX5_leave_43 : decode cX5_leave 43 = .ok (.aload_n 0, 1) := by decide +kernel
theorem dX5_leave_44 : decode cX5_leave 44 = .ok (.getfield 43, 3) := by decide +kernel
theorem dX5_leave_47 : decode cX5_leave 47 = .ok (.invokevirtual 78, 3) := by decide +kernel
theorem dX5_leave_50 : decode cX5_leave 50 = .ok (.aload_n 0, 1) := by decide +kernel
theorem dX5_leave_51 : decode cX5_leave 51 = .ok (.invokevirtual 81, 3) := by decide +kernel
theorem dX5_leave_54 : decode cX5_leave 54 = .ok (.iload_n 3, 1) := by decide +kernel
theorem dX5_leave_55 : decode cX5_leave 55 = .ok (.ireturn, 1) := by decide +kernel
set_option maxRecDepth 20000 in
theorem ggX5_leave_X5_placeOf : GoodIn wsX5_leave wsX5_placeOf := goodIn_ca (goodIn_r _ [9, 10, 11, 1, 12, 13, 14, 15, 16, 17, 18, 69, 70, 71, 72, 73, 74, 75, 76, 77, 78, 79] (by decide +kernel) (by decide +kernel)) (goodIn_sub (fun _ h => List.mem_cons_of_mem _ (List.mem_append_right _ h)) (by decide +kernel))
set_option maxRecDepth 20000 in
theorem gX5_leave_X5_placeOf : GoodIn wsX5_leave (wsV RX5 84 RX5 yX5_placeOf wsX5_placeOf) := goodIn_app (goodIn_of _ (by decide +kernel)) ggX5_leave_X5_placeOf
set_option maxRecDepth 20000 in
theorem ggX5_leave_X3_degree : GoodIn wsX5_leave wsX3_degree := goodIn_r _ [22, 23, 24, 25, 26, 27, 28, 29, 30, 77, 78, 79] (by decide +kernel) (by decide +kernel)
set_option maxRecDepth 20000 in
theorem gX5_leave_X3_degree : GoodIn wsX5_leave (wsV RX5 87 RX3 yX3_degree wsX3_degree) := goodIn_app (goodIn_of _ (by decide +kernel)) ggX5_leave_X3_degree
set_option maxRecDepth 20000 in
theorem ggX5_leave_X3_remove : GoodIn wsX5_leave wsX3_remove := goodIn_r _ [34, 17, 18, 23, 35, 36, 15, 37, 77, 78, 79] (by decide +kernel) (by decide +kernel)
set_option maxRecDepth 20000 in
theorem gX5_leave_X3_remove : GoodIn wsX5_leave (wsV RX5 90 RX3 yX3_remove wsX3_remove) := goodIn_app (goodIn_of _ (by decide +kernel)) ggX5_leave_X3_remove
set_option maxRecDepth 20000 in
theorem ggX5_leave_X0_clear : GoodIn wsX5_leave wsX0_clear := goodIn_r _ [42, 43, 80, 81, 82, 83] (by decide +kernel) (by decide +kernel)
set_option maxRecDepth 20000 in
theorem gX5_leave_X0_clear : GoodIn wsX5_leave (wsV RX5 78 RX0 yX0_clear wsX0_clear) := goodIn_app (goodIn_of _ (by decide +kernel)) ggX5_leave_X0_clear
set_option maxRecDepth 20000 in
theorem ggX5_leave_X5_spreadFromStart : GoodIn wsX5_leave wsX5_spreadFromStart := goodIn_r _ [47, 48, 1, 2, 3, 12, 13, 14, 15, 16, 17, 18, 49, 50, 51, 52, 53, 54, 55, 56, 57, 58, 59, 60, 61, 62, 63, 64, 65, 66, 23, 67, 8, 68, 69, 70, 71, 72, 73, 74, 75, 76, 77, 78, 79, 84, 85, 86, 87] (by decide +kernel) (by decide +kernel)
set_option maxRecDepth 20000 in
theorem gX5_leave_X5_spreadFromStart : GoodIn wsX5_leave (wsV RX5 81 RX5 yX5_spreadFromStart wsX5_spreadFromStart) := goodIn_app (goodIn_of _ (by decide +kernel)) ggX5_leave_X5_spreadFromStart
theorem mX5_leave_0 : Cond.fieldLink RX5 10 "Layerways" "net" "LLayerways$Net;" ∈ wsX5_leave := by decide +kernel
theorem iX5_leave_X5 : ∀ w ∈ u_ws RX5 TX5 8, w ∈ wsX5_leave := by decide +kernel
theorem mX5_leave_2 : Cond.fieldLink RX5 47 "Layerways" "begun" "Z" ∈ wsX5_leave := by decide +kernel
theorem mX5_leave_3 : Cond.fieldLink RX5 51 "Layerways" "startKey" "I" ∈ wsX5_leave := by decide +kernel
theorem mX5_leave_4 : Cond.fieldLink RX5 43 "Layerways" "change" "LLayerways$Change;" ∈ wsX5_leave := by decide +kernel
def fX5_leave (gB : Int32) (gK : Int32) (nS : Int32) (nK : (Nat → Int32)) (nN : (Nat → Int32)) (fM : Int32) (fL : (Nat → Int32)) (fC : (Nat → Int32)) (fQ : (Nat → Int32)) (xS : Int32) (p0 : Int32) : Option ((String ⊕ Int32) × Int32 × Int32 × (Nat → Int32) × (Nat → Int32) × Int32 × (Nat → Int32) × (Nat → Int32) × (Nat → Int32) × Int32) := (fX5_placeOf nS nK p0).bind fun v1 => Sum.elim (fun x2 : String => some (.inl x2, gB, nS, nK, nN, fM, fL, fC, fQ, xS)) (fun r3 : Int32 => (fX3_degree nN r3).bind fun v4 => (fX3_remove nS nK nN r3).bind fun v5 => ((if gB = 0 then some gB else if gK = p0 then some 0 else some gB) : Option Int32).bind fun v6 => fX0_clear.bind fun v7 => (fX5_spreadFromStart v6 gK v5.1 v5.2.1 v5.2.2 fL fC fQ).bind fun v8 => some (.inr v4, v6, v5.1, v5.2.1, v5.2.2, v8.1, v8.2.1, v8.2.2.1, v8.2.2.2, v7)) v1
set_option maxRecDepth 100000 in
set_option maxHeartbeats 4000000 in
theorem kX5_leave (l : Launch) (K : zK) (aH : Nat) (aN : Nat) (aNk : Nat) (aNn : Nat) (aF : Nat) (aFl : Nat) (aFc : Nat) (aFq : Nat) (aX : Nat) (aXb : Nat) (aXk : Nat) (aXw : Nat) (aA : Nat) (aC : Nat) (aO : Nat)  (gB : Int32) (gK : Int32) (nS : Int32) (nK : (Nat → Int32)) (nN : (Nat → Int32)) (fM : Int32) (fL : (Nat → Int32)) (fC : (Nat → Int32)) (fQ : (Nat → Int32)) (xS : Int32) (xB : (Nat → Int32)) (xK : (Nat → Int32)) (xW : (Nat → Int32)) (p0 : Int32) (r : (String ⊕ Int32) × Int32 × Int32 × (Nat → Int32) × (Nat → Int32) × Int32 × (Nat → Int32) × (Nat → Int32) × (Nat → Int32) × Int32) (hres : fX5_leave gB gK nS nK nN fM fL fC fQ xS p0 = some r) : zX l K yX5_leave wsX5_leave ({ frames := 7, cells := 8, slots := 48, locals := 109 }) [.ref aH, .int p0] [(aH, .inr (5, [.ref aN, .ref aF, .ref aA, .ref aC, .ref aO, .ref aX, .int gB, .int gK])), (aN, .inr (3, [.ref aNk, .ref aNn, .int nS])), (aNk, .inl (K.2 0, 12, .inl nK)), (aNn, .inl (K.2 0, 12, .inl nN)), (aF, .inr (2, [.ref aFl, .ref aFc, .ref aFq, .int fM])), (aFl, .inl (K.2 0, 12, .inl fL)), (aFc, .inl (K.2 0, 12, .inl fC)), (aFq, .inl (K.2 0, 12, .inl fQ)), (aX, .inr (0, [.ref aXb, .ref aXk, .ref aXw, .int xS])), (aXb, .inl (K.2 0, 12, .inl xB)), (aXk, .inl (K.2 0, 12, .inl xK)), (aXw, .inl (K.2 0, 12, .inl xW))] (zoI r.1) [(aH, .inr (5, [.ref aN, .ref aF, .ref aA, .ref aC, .ref aO, .ref aX, .int r.2.1, .int gK])), (aN, .inr (3, [.ref aNk, .ref aNn, .int r.2.2.1])), (aNk, .inl (K.2 0, 12, .inl r.2.2.2.1)), (aNn, .inl (K.2 0, 12, .inl r.2.2.2.2.1)), (aF, .inr (2, [.ref aFl, .ref aFc, .ref aFq, .int r.2.2.2.2.2.1])), (aFl, .inl (K.2 0, 12, .inl r.2.2.2.2.2.2.1)), (aFc, .inl (K.2 0, 12, .inl r.2.2.2.2.2.2.2.1)), (aFq, .inl (K.2 0, 12, .inl r.2.2.2.2.2.2.2.2.1)), (aX, .inr (0, [.ref aXb, .ref aXk, .ref aXw, .int r.2.2.2.2.2.2.2.2.2])), (aXb, .inl (K.2 0, 12, .inl xB)), (aXk, .inl (K.2 0, 12, .inl xK)), (aXw, .inl (K.2 0, 12, .inl xW))] 8 48 := by
  refine zX.intI (cc := cX5_leave) (maxL := 4) (ret := (some .int)) rfl (by decide) (Nat.le_of_ble_eq_true rfl) rfl ?_
  intro G hGl hG hV hR hT hP
  unfold fX5_leave at hres
  show zj G 0 [(0, .ref aH), (1, .int p0)] [] [(aH, .inr (5, [.ref aN, .ref aF, .ref aA, .ref aC, .ref aO, .ref aX, .int gB, .int gK])), (aN, .inr (3, [.ref aNk, .ref aNn, .int nS])), (aNk, .inl (K.2 0, 12, .inl nK)), (aNn, .inl (K.2 0, 12, .inl nN)), (aF, .inr (2, [.ref aFl, .ref aFc, .ref aFq, .int fM])), (aFl, .inl (K.2 0, 12, .inl fL)), (aFc, .inl (K.2 0, 12, .inl fC)), (aFq, .inl (K.2 0, 12, .inl fQ)), (aX, .inr (0, [.ref aXb, .ref aXk, .ref aXw, .int xS])), (aXb, .inl (K.2 0, 12, .inl xB)), (aXk, .inl (K.2 0, 12, .inl xK)), (aXw, .inl (K.2 0, 12, .inl xW))] 0 0
  refine z_aload_n hG dX5_leave_0 0 rfl ?_
  refine z_iload_n hG dX5_leave_1 1 rfl ?_
  obtain ⟨v1, hv, hres⟩ := z_bind hres
  refine z_callX (As := [.int p0]) (rest := []) (wr := [(aF, .inr (2, [.ref aFl, .ref aFc, .ref aFq, .int fM])), (aFl, .inl (K.2 0, 12, .inl fL)), (aFc, .inl (K.2 0, 12, .inl fC)), (aFq, .inl (K.2 0, 12, .inl fQ)), (aX, .inr (0, [.ref aXb, .ref aXk, .ref aXw, .int xS])), (aXb, .inl (K.2 0, 12, .inl xB)), (aXk, .inl (K.2 0, 12, .inl xK)), (aXw, .inl (K.2 0, 12, .inl xW))]) (ws' := [(aH, .inr (5, [.ref aN, .ref aF, .ref aA, .ref aC, .ref aO, .ref aX, .int gB, .int gK])), (aN, .inr (3, [.ref aNk, .ref aNn, .int nS])), (aNk, .inl (K.2 0, 12, .inl nK)), (aNn, .inl (K.2 0, 12, .inl nN)), (aF, .inr (2, [.ref aFl, .ref aFc, .ref aFq, .int fM])), (aFl, .inl (K.2 0, 12, .inl fL)), (aFc, .inl (K.2 0, 12, .inl fC)), (aFq, .inl (K.2 0, 12, .inl fQ)), (aX, .inr (0, [.ref aXb, .ref aXk, .ref aXw, .int xS])), (aXb, .inl (K.2 0, 12, .inl xB)), (aXk, .inl (K.2 0, 12, .inl xK)), (aXw, .inl (K.2 0, 12, .inl xW))]) (kc' := 1) (ks' := 6) (n := 1) (C := RX5) (ci := 5) hG hV dX5_leave_2 (kX5_placeOf _ K aH aN aNk aNn aF aA aC aO aX gB gK nS nK nN p0 v1 hv) gX5_leave_X5_placeOf rfl rfl rfl ⟨rfl, by decide, by decide, rfl⟩ ⟨by decide, by decide⟩ (Nat.le_of_ble_eq_true rfl) ⟨(Nat.le_of_ble_eq_true rfl), (Nat.le_of_ble_eq_true rfl)⟩ [0, 1, 2, 3] [4, 5, 6, 7, 8, 9, 10, 11] [8, 9, 10, 11, 0, 1, 2, 3, 4, 5, 6, 7] rfl rfl rfl rfl (by decide) rfl rfl rfl rfl rfl 0 rfl rfl rfl rfl (fun o9 ho => ?_) (fun E9 ho => ?_)
  · rcases hv1 : v1 with x2 | r3
    · rw [hv1] at ho
      cases ho
    rw [hv1] at ho
    obtain rfl := Sum.inr.inj ho
    replace hres := z_elimR hv1 hres
    show zj G 5 [(0, .ref aH), (1, .int p0)] [.int r3] [(aH, .inr (5, [.ref aN, .ref aF, .ref aA, .ref aC, .ref aO, .ref aX, .int gB, .int gK])), (aN, .inr (3, [.ref aNk, .ref aNn, .int nS])), (aNk, .inl (K.2 0, 12, .inl nK)), (aNn, .inl (K.2 0, 12, .inl nN)), (aF, .inr (2, [.ref aFl, .ref aFc, .ref aFq, .int fM])), (aFl, .inl (K.2 0, 12, .inl fL)), (aFc, .inl (K.2 0, 12, .inl fC)), (aFq, .inl (K.2 0, 12, .inl fQ)), (aX, .inr (0, [.ref aXb, .ref aXk, .ref aXw, .int xS])), (aXb, .inl (K.2 0, 12, .inl xB)), (aXk, .inl (K.2 0, 12, .inl xK)), (aXw, .inl (K.2 0, 12, .inl xW))] 1 6
    refine z_istore_n (lv' := [(2, .int r3), (0, .ref aH), (1, .int p0)]) hG dX5_leave_5 (by decide) rfl ?_
    refine z_aload_n hG dX5_leave_6 1 rfl ?_
    refine z_get (ci := 5) (C := RX5) (T := TX5) (N := 8) hG dX5_leave_7 iX5_leave_X5 0 (by decide) mX5_leave_0 rfl rfl 0 rfl rfl ?_
    refine z_iload_n hG dX5_leave_10 0 rfl ?_
    obtain ⟨v4, hv, hres⟩ := z_bind hres
    refine z_callV (As := [.int r3]) (rest := []) (wr := [(aH, .inr (5, [.ref aN, .ref aF, .ref aA, .ref aC, .ref aO, .ref aX, .int gB, .int gK])), (aF, .inr (2, [.ref aFl, .ref aFc, .ref aFq, .int fM])), (aFl, .inl (K.2 0, 12, .inl fL)), (aFc, .inl (K.2 0, 12, .inl fC)), (aFq, .inl (K.2 0, 12, .inl fQ)), (aX, .inr (0, [.ref aXb, .ref aXk, .ref aXw, .int xS])), (aXb, .inl (K.2 0, 12, .inl xB)), (aXk, .inl (K.2 0, 12, .inl xK)), (aXw, .inl (K.2 0, 12, .inl xW))]) (ws' := (fun _ : Unit => [(aH, .inr (5, [.ref aN, .ref aF, .ref aA, .ref aC, .ref aO, .ref aX, .int gB, .int gK])), (aN, .inr (3, [.ref aNk, .ref aNn, .int nS])), (aNk, .inl (K.2 0, 12, .inl nK)), (aNn, .inl (K.2 0, 12, .inl nN)), (aF, .inr (2, [.ref aFl, .ref aFc, .ref aFq, .int fM])), (aFl, .inl (K.2 0, 12, .inl fL)), (aFc, .inl (K.2 0, 12, .inl fC)), (aFq, .inl (K.2 0, 12, .inl fQ)), (aX, .inr (0, [.ref aXb, .ref aXk, .ref aXw, .int xS])), (aXb, .inl (K.2 0, 12, .inl xB)), (aXk, .inl (K.2 0, 12, .inl xK)), (aXw, .inl (K.2 0, 12, .inl xW))])) (stk := (fun _ : Unit => [.int v4])) (kc' := 1) (ks' := 6) (n := 1) (C := RX3) (ci := 3) hG dX5_leave_11 (kX3_degree _ K aN aNk aNn nS nK nN r3 v4 hv) gX5_leave_X3_degree rfl rfl rfl ⟨rfl, by decide, by decide, rfl⟩ ⟨by decide, by decide⟩ (Nat.le_of_ble_eq_true rfl) ⟨(Nat.le_of_ble_eq_true rfl), (Nat.le_of_ble_eq_true rfl)⟩ [1, 2, 3] [0, 4, 5, 6, 7, 8, 9, 10, 11] [0, 9, 10, 11, 1, 2, 3, 4, 5, 6, 7, 8] rfl rfl rfl rfl (by decide) rfl (fun _ => rfl) (fun _ => rfl) rfl rfl rfl 0 rfl rfl rfl rfl (fun _ => ?_)
    refine z_istore_n (lv' := [(3, .int v4), (2, .int r3), (0, .ref aH), (1, .int p0)]) hG dX5_leave_14 (by decide) rfl ?_
    refine z_aload_n hG dX5_leave_15 2 rfl ?_
    refine z_get (ci := 5) (C := RX5) (T := TX5) (N := 8) hG dX5_leave_16 iX5_leave_X5 0 (by decide) mX5_leave_0 rfl rfl 0 rfl rfl ?_
    refine z_iload_n hG dX5_leave_19 1 rfl ?_
    obtain ⟨v5, hv, hres⟩ := z_bind hres
    refine z_callV (As := [.int r3]) (rest := []) (wr := [(aH, .inr (5, [.ref aN, .ref aF, .ref aA, .ref aC, .ref aO, .ref aX, .int gB, .int gK])), (aF, .inr (2, [.ref aFl, .ref aFc, .ref aFq, .int fM])), (aFl, .inl (K.2 0, 12, .inl fL)), (aFc, .inl (K.2 0, 12, .inl fC)), (aFq, .inl (K.2 0, 12, .inl fQ)), (aX, .inr (0, [.ref aXb, .ref aXk, .ref aXw, .int xS])), (aXb, .inl (K.2 0, 12, .inl xB)), (aXk, .inl (K.2 0, 12, .inl xK)), (aXw, .inl (K.2 0, 12, .inl xW))]) (ws' := (fun _ : Unit => [(aH, .inr (5, [.ref aN, .ref aF, .ref aA, .ref aC, .ref aO, .ref aX, .int gB, .int gK])), (aN, .inr (3, [.ref aNk, .ref aNn, .int v5.1])), (aNk, .inl (K.2 0, 12, .inl v5.2.1)), (aNn, .inl (K.2 0, 12, .inl v5.2.2)), (aF, .inr (2, [.ref aFl, .ref aFc, .ref aFq, .int fM])), (aFl, .inl (K.2 0, 12, .inl fL)), (aFc, .inl (K.2 0, 12, .inl fC)), (aFq, .inl (K.2 0, 12, .inl fQ)), (aX, .inr (0, [.ref aXb, .ref aXk, .ref aXw, .int xS])), (aXb, .inl (K.2 0, 12, .inl xB)), (aXk, .inl (K.2 0, 12, .inl xK)), (aXw, .inl (K.2 0, 12, .inl xW))])) (stk := (fun _ : Unit => [])) (kc' := 1) (ks' := 6) (n := 1) (C := RX3) (ci := 3) hG dX5_leave_20 (kX3_remove _ K aN aNk aNn nS nK nN r3 v5 hv) gX5_leave_X3_remove rfl rfl rfl ⟨rfl, by decide, by decide, rfl⟩ ⟨by decide, by decide⟩ (Nat.le_of_ble_eq_true rfl) ⟨(Nat.le_of_ble_eq_true rfl), (Nat.le_of_ble_eq_true rfl)⟩ [1, 2, 3] [0, 4, 5, 6, 7, 8, 9, 10, 11] [0, 9, 10, 11, 1, 2, 3, 4, 5, 6, 7, 8] rfl rfl rfl rfl (by decide) rfl (fun _ => rfl) (fun _ => rfl) rfl rfl rfl 0 rfl rfl rfl rfl (fun _ => ?_)
    refine z_aload_n hG dX5_leave_23 2 rfl ?_
    refine z_get (ci := 5) (C := RX5) (T := TX5) (N := 8) hG dX5_leave_24 iX5_leave_X5 6 (by decide) mX5_leave_2 rfl rfl 0 rfl rfl ?_
    obtain ⟨v6, hv, hres⟩ := z_bind hres
    have J : zj G 43 [(3, .int v4), (2, .int r3), (0, .ref aH), (1, .int p0)] [] [(aH, .inr (5, [.ref aN, .ref aF, .ref aA, .ref aC, .ref aO, .ref aX, .int v6, .int gK])), (aN, .inr (3, [.ref aNk, .ref aNn, .int v5.1])), (aNk, .inl (K.2 0, 12, .inl v5.2.1)), (aNn, .inl (K.2 0, 12, .inl v5.2.2)), (aF, .inr (2, [.ref aFl, .ref aFc, .ref aFq, .int fM])), (aFl, .inl (K.2 0, 12, .inl fL)), (aFc, .inl (K.2 0, 12, .inl fC)), (aFq, .inl (K.2 0, 12, .inl fQ)), (aX, .inr (0, [.ref aXb, .ref aXk, .ref aXw, .int xS])), (aXb, .inl (K.2 0, 12, .inl xB)), (aXk, .inl (K.2 0, 12, .inl xK)), (aXw, .inl (K.2 0, 12, .inl xW))] 1 6 := by
      refine z_aload_n hG dX5_leave_43 2 rfl ?_
      refine z_get (ci := 5) (C := RX5) (T := TX5) (N := 8) hG dX5_leave_44 iX5_leave_X5 5 (by decide) mX5_leave_4 rfl rfl 0 rfl rfl ?_
      obtain ⟨v7, hv, hres⟩ := z_bind hres
      refine z_callV (As := []) (rest := []) (wr := [(aH, .inr (5, [.ref aN, .ref aF, .ref aA, .ref aC, .ref aO, .ref aX, .int v6, .int gK])), (aN, .inr (3, [.ref aNk, .ref aNn, .int v5.1])), (aNk, .inl (K.2 0, 12, .inl v5.2.1)), (aNn, .inl (K.2 0, 12, .inl v5.2.2)), (aF, .inr (2, [.ref aFl, .ref aFc, .ref aFq, .int fM])), (aFl, .inl (K.2 0, 12, .inl fL)), (aFc, .inl (K.2 0, 12, .inl fC)), (aFq, .inl (K.2 0, 12, .inl fQ))]) (ws' := (fun _ : Unit => [(aH, .inr (5, [.ref aN, .ref aF, .ref aA, .ref aC, .ref aO, .ref aX, .int v6, .int gK])), (aN, .inr (3, [.ref aNk, .ref aNn, .int v5.1])), (aNk, .inl (K.2 0, 12, .inl v5.2.1)), (aNn, .inl (K.2 0, 12, .inl v5.2.2)), (aF, .inr (2, [.ref aFl, .ref aFc, .ref aFq, .int fM])), (aFl, .inl (K.2 0, 12, .inl fL)), (aFc, .inl (K.2 0, 12, .inl fC)), (aFq, .inl (K.2 0, 12, .inl fQ)), (aX, .inr (0, [.ref aXb, .ref aXk, .ref aXw, .int v7])), (aXb, .inl (K.2 0, 12, .inl xB)), (aXk, .inl (K.2 0, 12, .inl xK)), (aXw, .inl (K.2 0, 12, .inl xW))])) (stk := (fun _ : Unit => [])) (kc' := 1) (ks' := 6) (n := 0) (C := RX0) (ci := 0) hG dX5_leave_47 (kX0_clear _ K aX aXb aXk aXw xS xB xK xW v7 hv) gX5_leave_X0_clear rfl rfl rfl ⟨rfl, by decide, by decide, rfl⟩ ⟨by decide, by decide⟩ (Nat.le_of_ble_eq_true rfl) ⟨(Nat.le_of_ble_eq_true rfl), (Nat.le_of_ble_eq_true rfl)⟩ [8, 9, 10, 11] [0, 1, 2, 3, 4, 5, 6, 7] [0, 1, 2, 3, 4, 5, 6, 7, 8, 9, 10, 11] rfl rfl rfl rfl (by decide) rfl (fun _ => rfl) (fun _ => rfl) rfl rfl rfl 0 rfl rfl rfl rfl (fun _ => ?_)
      refine z_aload_n hG dX5_leave_50 2 rfl ?_
      obtain ⟨v8, hv, hres⟩ := z_bind hres
      refine z_callV (As := []) (rest := []) (wr := [(aX, .inr (0, [.ref aXb, .ref aXk, .ref aXw, .int v7])), (aXb, .inl (K.2 0, 12, .inl xB)), (aXk, .inl (K.2 0, 12, .inl xK)), (aXw, .inl (K.2 0, 12, .inl xW))]) (ws' := (fun _ : Unit => [(aH, .inr (5, [.ref aN, .ref aF, .ref aA, .ref aC, .ref aO, .ref aX, .int v6, .int gK])), (aN, .inr (3, [.ref aNk, .ref aNn, .int v5.1])), (aNk, .inl (K.2 0, 12, .inl v5.2.1)), (aNn, .inl (K.2 0, 12, .inl v5.2.2)), (aF, .inr (2, [.ref aFl, .ref aFc, .ref aFq, .int v8.1])), (aFl, .inl (K.2 0, 12, .inl v8.2.1)), (aFc, .inl (K.2 0, 12, .inl v8.2.2.1)), (aFq, .inl (K.2 0, 12, .inl v8.2.2.2)), (aX, .inr (0, [.ref aXb, .ref aXk, .ref aXw, .int v7])), (aXb, .inl (K.2 0, 12, .inl xB)), (aXk, .inl (K.2 0, 12, .inl xK)), (aXw, .inl (K.2 0, 12, .inl xW))])) (stk := (fun _ : Unit => [])) (kc' := 1) (ks' := 6) (n := 0) (C := RX5) (ci := 5) hG dX5_leave_51 (kX5_spreadFromStart _ K aH aN aNk aNn aF aFl aFc aFq aA aC aO aX v6 gK v5.1 v5.2.1 v5.2.2 fM fL fC fQ v8 hv) gX5_leave_X5_spreadFromStart rfl rfl rfl ⟨rfl, by decide, by decide, rfl⟩ ⟨by decide, by decide⟩ (Nat.le_of_ble_eq_true rfl) ⟨(Nat.le_of_ble_eq_true rfl), (Nat.le_of_ble_eq_true rfl)⟩ [0, 1, 2, 3, 4, 5, 6, 7] [8, 9, 10, 11] [4, 5, 6, 7, 8, 9, 10, 11, 0, 1, 2, 3] rfl rfl rfl rfl (by decide) rfl (fun _ => rfl) (fun _ => rfl) rfl rfl rfl 0 rfl rfl rfl rfl (fun _ => ?_)
      refine z_iload_n hG dX5_leave_54 0 rfl ?_
      obtain rfl := Option.some.inj hres
      exact (z_wid (Nat.le_of_ble_eq_true rfl) (Nat.le_of_ble_eq_true rfl) (hR _ rfl _ _ dX5_leave_55))
    replace hres := hv
    clear hv
    refine z_if_eq 43 hG dX5_leave_27 (by decide) (fun c => ?_) (fun c => ?_)
    · replace hres := z_ifp c hres
      obtain rfl := Option.some.inj hres
      exact J
    · replace hres := z_ifn c hres
      refine z_aload_n hG dX5_leave_30 2 rfl ?_
      refine z_get (ci := 5) (C := RX5) (T := TX5) (N := 8) hG dX5_leave_31 iX5_leave_X5 7 (by decide) mX5_leave_3 rfl rfl 0 rfl rfl ?_
      refine z_iload_n hG dX5_leave_34 3 rfl ?_
      refine z_icmp_ne 43 hG dX5_leave_35 (by decide) (fun c => ?_) (fun c => ?_)
      · replace hres := z_ifn c hres
        obtain rfl := Option.some.inj hres
        exact J
      · replace hres := z_ifp c hres
        refine z_aload_n hG dX5_leave_38 2 rfl ?_
        refine z_iconst 0 hG dX5_leave_39 (by decide) ?_
        refine z_put (ci := 5) (C := RX5) (T := TX5) (N := 8) (ws' := [(aH, .inr (5, [.ref aN, .ref aF, .ref aA, .ref aC, .ref aO, .ref aX, .int 0, .int gK])), (aN, .inr (3, [.ref aNk, .ref aNn, .int v5.1])), (aNk, .inl (K.2 0, 12, .inl v5.2.1)), (aNn, .inl (K.2 0, 12, .inl v5.2.2)), (aF, .inr (2, [.ref aFl, .ref aFc, .ref aFq, .int fM])), (aFl, .inl (K.2 0, 12, .inl fL)), (aFc, .inl (K.2 0, 12, .inl fC)), (aFq, .inl (K.2 0, 12, .inl fQ)), (aX, .inr (0, [.ref aXb, .ref aXk, .ref aXw, .int xS])), (aXb, .inl (K.2 0, 12, .inl xB)), (aXk, .inl (K.2 0, 12, .inl xK)), (aXw, .inl (K.2 0, 12, .inl xW))]) hG dX5_leave_40 iX5_leave_X5 tyX5_ok nmX5 6 (by decide) mX5_leave_2 rfl rfl rfl rfl rfl rfl 0 rfl (Nat.le_of_ble_eq_true rfl) rfl ?_
        obtain rfl := Option.some.inj hres
        exact J
  · rcases hv1 : v1 with x2 | r3
    · rw [hv1] at ho
      obtain rfl := Sum.inl.inj ho
      replace hres := z_elimL hv1 hres
      obtain rfl := Option.some.inj hres
      exact z_xwid (Nat.le_of_ble_eq_true rfl) (Nat.le_of_ble_eq_true rfl) (hP _ rfl _ _)
    rw [hv1] at ho
    cases ho

theorem dX5_street_0 : decode cX5_street 0 = .ok (.aload_n 0, 1) := by decide +kernel
theorem dX5_street_1 : decode cX5_street 1 = .ok (.iload_n 1, 1) := by decide +kernel
theorem dX5_street_2 : decode cX5_street 2 = .ok (.invokevirtual 84, 3) := by decide +kernel
theorem dX5_street_5 : decode cX5_street 5 = .ok (.istore_n 3, 1) := by decide +kernel
theorem dX5_street_6 : decode cX5_street 6 = .ok (.aload_n 0, 1) := by decide +kernel
theorem dX5_street_7 : decode cX5_street 7 = .ok (.iload_n 2, 1) := by decide +kernel
theorem dX5_street_8 : decode cX5_street 8 = .ok (.invokevirtual 84, 3) := by decide +kernel
theorem dX5_street_11 : decode cX5_street 11 = .ok (.istore 4, 2) := by decide +kernel
theorem dX5_street_13 : decode cX5_street 13 = .ok (.iload_n 3, 1) := by decide +kernel
theorem dX5_street_14 : decode cX5_street 14 = .ok (.iload 4, 2) := by decide +kernel
theorem dX5_street_16 : decode cX5_street 16 = .ok (.if_icmp .ne 13, 3) := by decide +kernel
theorem dX5_street_19 : decode cX5_street 19 = .ok (.new 59, 3) := by decide +kernel
theorem dX5_street_22 : decode cX5_street 22 = .ok (.dup, 1) := by decide +kernel
theorem dX5_street_23 : decode cX5_street 23 = .ok (.ldc 93, 2) := by decide +kernel
theorem dX5_street_25 : decode cX5_street 25 = .ok (.invokespecial 63, 3) := by decide +kernel
theorem dX5_street_28 : decode cX5_street 28 = .ok (.athrow, 1) := by decide +kernel
theorem dX5_street_29 : decode cX5_street 29 = .ok (.aload_n 0, 1) := by decide +kernel
theorem dX5_street_30 : decode cX5_street 30 = .ok (.getfield 10, 3) := by decide +kernel
theorem dX5_street_33 : decode cX5_street 33 = .ok (.iload_n 3, 1) := by decide +kernel
theorem dX5_street_34 : decode cX5_street 34 = .ok (.iload 4, 2) := by decide +kernel
theorem dX5_street_36 : decode cX5_street 36 = .ok (.invokevirtual 95, 3) := by decide +kernel
theorem dX5_street_39 : decode cX5_street 39 = .ok (.ifCond .eq 13, 3) := by decide +kernel
theorem dX5_street_42 : decode cX5_street 42 = .ok (.new 69, 3) := by decide +kernel
theorem dX5_street_45 : decode cX5_street 45 = .ok (.dup, 1) := by decide +kernel
theorem dX5_street_46 : decode cX5_street 46 = .ok (.ldc 99, 2) := by decide +kernel
theorem dX5_street_48 : decode cX5_street 48 = .ok (.invokespecial 73, 3) := by decide +kernel
theorem dX5_street_51 : decode cX5_street 51 = .ok (.athrow, 1) := by decide +kernel
theorem dX5_street_52 : decode cX5_street 52 = .ok (.aload_n 0, 1) := by decide +kernel
theorem dX5_street_53 : decode cX5_street 53 = .ok (.getfield 43, 3) := by decide +kernel
theorem dX5_street_56 : decode cX5_street 56 = .ok (.aload_n 0, 1) := by decide +kernel
theorem dX5_street_57 : decode cX5_street 57 = .ok (.getfield 19, 3) := by decide +kernel
theorem dX5_street_60 : decode cX5_street 60 = .ok (.invokevirtual 101, 3) := by decide +kernel
theorem dX5_street_63 : decode cX5_street 63 = .ok (.aload_n 0, 1) := by decide +kernel
theorem dX5_street_64 : decode cX5_street 64 = .ok (.getfield 10, 3) := by decide +kernel
theorem dX5_street_67 : decode cX5_street 67 = .ok (.iload_n 3, 1) := by decide +kernel
theorem dX5_street_68 : decode cX5_street 68 = .ok (.iload 4, 2) := by decide +kernel
theorem dX5_street_70 : decode cX5_street 70 = .ok (.invokevirtual 105, 3) := by decide +kernel
theorem dX5_street_73 : decode cX5_street 73 = .ok (.aload_n 0, 1) := by decide +kernel
theorem dX5_street_74 : decode cX5_street 74 = .ok (.invokevirtual 81, 3) := by decide +kernel
theorem dX5_street_77 : decode cX5_street 77 = .ok (.aload_n 0, 1) := by decide +kernel
theorem dX5_street_78 : decode cX5_street 78 = .ok (.getfield 43, 3) := by decide +kernel
theorem dX5_street_81 : decode cX5_street 81 = .ok (.aload_n 0, 1) := by decide +kernel
theorem dX5_street_82 : decode cX5_street 82 = .ok (.getfield 10, 3) := by decide +kernel
theorem dX5_street_85 : decode cX5_street 85 = .ok (.aload_n 0, 1) := by decide +kernel
theorem dX5_street_86 : decode cX5_street 86 = .ok (.getfield 19, 3) := by decide +kernel
theorem dX5_street_89 : decode cX5_street 89 = .ok (.invokevirtual 109, 3) := by decide +kernel
theorem dX5_street_92 : decode cX5_street 92 = .ok (.aload_n 0, 1) := by decide +kernel
theorem dX5_street_93 : decode cX5_street 93 = .ok (.getfield 43, 3) := by decide +kernel
theorem dX5_street_96 : decode cX5_street 96 = .ok (.getfield 113, 3) := by decide +kernel
theorem dX5_street_99 : decode cX5_street 99 = .ok (.ireturn, 1) := by decide +kernel
set_option maxRecDepth 20000 in
theorem ggX5_street_X5_placeOf : GoodIn wsX5_street wsX5_placeOf := goodIn_ca (goodIn_r _ [13, 14, 15, 5, 16, 17, 18, 19, 20, 21, 22, 71, 72, 73, 74, 75, 76, 77, 78, 83, 84, 85] (by decide +kernel) (by decide +kernel)) (goodIn_sub (fun _ h => List.mem_cons_of_mem _ (List.mem_append_right _ h)) (by decide +kernel))
set_option maxRecDepth 20000 in
theorem gX5_street_X5_placeOf : GoodIn wsX5_street (wsV RX5 84 RX5 yX5_placeOf wsX5_placeOf) := goodIn_app (goodIn_of _ (by decide +kernel)) ggX5_street_X5_placeOf
set_option maxRecDepth 20000 in
theorem ggX5_street_X3_joins : GoodIn wsX5_street wsX3_joins := goodIn_r _ [26, 27, 28, 12, 29, 83, 84, 85] (by decide +kernel) (by decide +kernel)
set_option maxRecDepth 20000 in
theorem gX5_street_X3_joins : GoodIn wsX5_street (wsV RX5 95 RX3 yX3_joins wsX3_joins) := goodIn_app (goodIn_of _ (by decide +kernel)) ggX5_street_X3_joins
set_option maxRecDepth 20000 in
theorem ggX5_street_X0_remember : GoodIn wsX5_street wsX0_remember := goodIn_r _ [34, 35, 36, 79, 80, 81, 82, 86, 87, 88, 89] (by decide +kernel) (by decide +kernel)
set_option maxRecDepth 20000 in
theorem gX5_street_X0_remember : GoodIn wsX5_street (wsV RX5 101 RX0 yX0_remember wsX0_remember) := goodIn_app (goodIn_of _ (by decide +kernel)) ggX5_street_X0_remember
set_option maxRecDepth 20000 in
theorem ggX5_street_X3_join : GoodIn wsX5_street wsX3_join := goodIn_r _ [40, 27, 83, 84, 85] (by decide +kernel) (by decide +kernel)
set_option maxRecDepth 20000 in
theorem gX5_street_X3_join : GoodIn wsX5_street (wsV RX5 105 RX3 yX3_join wsX3_join) := goodIn_app (goodIn_of _ (by decide +kernel)) ggX5_street_X3_join
set_option maxRecDepth 20000 in
theorem ggX5_street_X5_spreadFromStart : GoodIn wsX5_street wsX5_spreadFromStart := goodIn_r _ [44, 7, 5, 45, 46, 16, 17, 18, 19, 20, 21, 22, 47, 48, 49, 50, 51, 52, 53, 54, 55, 56, 57, 58, 59, 60, 61, 24, 25, 26, 27, 28, 12, 29, 71, 72, 73, 74, 75, 76, 77, 78, 83, 84, 85, 86, 87, 88, 89] (by decide +kernel) (by decide +kernel)
set_option maxRecDepth 20000 in
theorem gX5_street_X5_spreadFromStart : GoodIn wsX5_street (wsV RX5 81 RX5 yX5_spreadFromStart wsX5_spreadFromStart) := goodIn_app (goodIn_of _ (by decide +kernel)) ggX5_street_X5_spreadFromStart
set_option maxRecDepth 20000 in
theorem ggX5_street_X0_compare : GoodIn wsX5_street wsX0_compare := goodIn_r _ [65, 66, 67, 35, 36, 68, 69, 70, 79, 80, 81, 82, 83, 84, 85, 86, 87, 88, 89] (by decide +kernel) (by decide +kernel)
set_option maxRecDepth 20000 in
theorem gX5_street_X0_compare : GoodIn wsX5_street (wsV RX5 109 RX0 yX0_compare wsX0_compare) := goodIn_app (goodIn_of _ (by decide +kernel)) ggX5_street_X0_compare
theorem mX5_street_0 : Cond.fieldLink RX5 10 "Layerways" "net" "LLayerways$Net;" ∈ wsX5_street := by decide +kernel
theorem iX5_street_X5 : ∀ w ∈ u_ws RX5 TX5 8, w ∈ wsX5_street := by decide +kernel
theorem mX5_street_2 : Cond.fieldLink RX5 43 "Layerways" "change" "LLayerways$Change;" ∈ wsX5_street := by decide +kernel
theorem mX5_street_3 : Cond.fieldLink RX5 19 "Layerways" "fromStart" "LLayerways$Layers;" ∈ wsX5_street := by decide +kernel
theorem mX5_street_4 : Cond.fieldLink RX5 113 "Layerways$Change" "size" "I" ∈ wsX5_street := by decide +kernel
theorem iX5_street_X0 : ∀ w ∈ u_ws RX0 TX0 4, w ∈ wsX5_street := by decide +kernel
theorem mX5_street_6 : Cond.classLink RX5 69 "java/lang/IllegalStateException" ∈ wsX5_street := by decide +kernel
theorem mX5_street_7 : Cond.initialized "java/lang/IllegalStateException" ∈ wsX5_street := by decide +kernel
theorem hX5_street_73 : ∀ w ∈ (vx_atS RX5 73 "java/lang/IllegalStateException" ["java/lang/RuntimeException", "java/lang/Exception"]).filter goodWord, w ∈ wsX5_street := fun w h => List.mem_cons_of_mem _ (List.mem_append_left _ (List.mem_append_right _ h))
theorem mX5_street_9 : Cond.classLink RX5 59 "java/lang/IllegalArgumentException" ∈ wsX5_street := by decide +kernel
theorem mX5_street_10 : Cond.initialized "java/lang/IllegalArgumentException" ∈ wsX5_street := by decide +kernel
theorem hX5_street_63 : ∀ w ∈ (vx_atS RX5 63 "java/lang/IllegalArgumentException" ["java/lang/RuntimeException", "java/lang/Exception"]).filter goodWord, w ∈ wsX5_street := fun w h => List.mem_cons_of_mem _ (List.mem_append_left _ (List.mem_append_left _ (List.mem_append_right _ h)))
def fX5_street (gB : Int32) (gK : Int32) (nS : Int32) (nK : (Nat → Int32)) (nN : (Nat → Int32)) (fM : Int32) (fL : (Nat → Int32)) (fC : (Nat → Int32)) (fQ : (Nat → Int32)) (xS : Int32) (xB : (Nat → Int32)) (xK : (Nat → Int32)) (xW : (Nat → Int32)) (p0 : Int32) (p1 : Int32) : Option ((String ⊕ Int32) × (Nat → Int32) × Int32 × (Nat → Int32) × (Nat → Int32) × (Nat → Int32) × Int32 × (Nat → Int32) × (Nat → Int32) × (Nat → Int32)) := (fX5_placeOf nS nK p0).bind fun v1 => Sum.elim (fun x2 : String => some (.inl x2, nN, fM, fL, fC, fQ, xS, xB, xK, xW)) (fun r3 : Int32 => (fX5_placeOf nS nK p1).bind fun v4 => Sum.elim (fun x5 : String => some (.inl x5, nN, fM, fL, fC, fQ, xS, xB, xK, xW)) (fun r6 : Int32 => if r3 = r6 then some (.inl "java/lang/IllegalArgumentException", nN, fM, fL, fC, fQ, xS, xB, xK, xW) else (fX3_joins nN r3 r6).bind fun v7 => if v7 = 0 then (fX0_remember xB fL).bind fun v8 => (fX3_join nN r3 r6).bind fun v9 => (fX5_spreadFromStart gB gK nS nK v9 fL fC fQ).bind fun v10 => (fX0_compare v8 xK xW nS nK v10.2.1).bind fun v11 => some (.inr v11.1, v9, v10.1, v10.2.1, v10.2.2.1, v10.2.2.2, v11.1, v8, v11.2.1, v11.2.2) else some (.inl "java/lang/IllegalStateException", nN, fM, fL, fC, fQ, xS, xB, xK, xW)) v4) v1
set_option maxRecDepth 100000 in
set_option maxHeartbeats 4000000 in
theorem kX5_street (l : Launch) (K : zK) (aH : Nat) (aN : Nat) (aNk : Nat) (aNn : Nat) (aF : Nat) (aFl : Nat) (aFc : Nat) (aFq : Nat) (aX : Nat) (aXb : Nat) (aXk : Nat) (aXw : Nat) (aA : Nat) (aC : Nat) (aO : Nat)  (gB : Int32) (gK : Int32) (nS : Int32) (nK : (Nat → Int32)) (nN : (Nat → Int32)) (fM : Int32) (fL : (Nat → Int32)) (fC : (Nat → Int32)) (fQ : (Nat → Int32)) (xS : Int32) (xB : (Nat → Int32)) (xK : (Nat → Int32)) (xW : (Nat → Int32)) (p0 : Int32) (p1 : Int32) (r : (String ⊕ Int32) × (Nat → Int32) × Int32 × (Nat → Int32) × (Nat → Int32) × (Nat → Int32) × Int32 × (Nat → Int32) × (Nat → Int32) × (Nat → Int32)) (hres : fX5_street gB gK nS nK nN fM fL fC fQ xS xB xK xW p0 p1 = some r) : zX l K yX5_street wsX5_street ({ frames := 7, cells := 8, slots := 48, locals := 109 }) [.ref aH, .int p0, .int p1] [(aH, .inr (5, [.ref aN, .ref aF, .ref aA, .ref aC, .ref aO, .ref aX, .int gB, .int gK])), (aN, .inr (3, [.ref aNk, .ref aNn, .int nS])), (aNk, .inl (K.2 0, 12, .inl nK)), (aNn, .inl (K.2 0, 12, .inl nN)), (aF, .inr (2, [.ref aFl, .ref aFc, .ref aFq, .int fM])), (aFl, .inl (K.2 0, 12, .inl fL)), (aFc, .inl (K.2 0, 12, .inl fC)), (aFq, .inl (K.2 0, 12, .inl fQ)), (aX, .inr (0, [.ref aXb, .ref aXk, .ref aXw, .int xS])), (aXb, .inl (K.2 0, 12, .inl xB)), (aXk, .inl (K.2 0, 12, .inl xK)), (aXw, .inl (K.2 0, 12, .inl xW))] (zoI r.1) [(aH, .inr (5, [.ref aN, .ref aF, .ref aA, .ref aC, .ref aO, .ref aX, .int gB, .int gK])), (aN, .inr (3, [.ref aNk, .ref aNn, .int nS])), (aNk, .inl (K.2 0, 12, .inl nK)), (aNn, .inl (K.2 0, 12, .inl r.2.1)), (aF, .inr (2, [.ref aFl, .ref aFc, .ref aFq, .int r.2.2.1])), (aFl, .inl (K.2 0, 12, .inl r.2.2.2.1)), (aFc, .inl (K.2 0, 12, .inl r.2.2.2.2.1)), (aFq, .inl (K.2 0, 12, .inl r.2.2.2.2.2.1)), (aX, .inr (0, [.ref aXb, .ref aXk, .ref aXw, .int r.2.2.2.2.2.2.1])), (aXb, .inl (K.2 0, 12, .inl r.2.2.2.2.2.2.2.1)), (aXk, .inl (K.2 0, 12, .inl r.2.2.2.2.2.2.2.2.1)), (aXw, .inl (K.2 0, 12, .inl r.2.2.2.2.2.2.2.2.2))] 8 48 := by
  refine zX.intI (cc := cX5_street) (maxL := 5) (ret := (some .int)) rfl (by decide) (Nat.le_of_ble_eq_true rfl) rfl ?_
  intro G hGl hG hV hR hT hP
  unfold fX5_street at hres
  show zj G 0 [(0, .ref aH), (1, .int p0), (2, .int p1)] [] [(aH, .inr (5, [.ref aN, .ref aF, .ref aA, .ref aC, .ref aO, .ref aX, .int gB, .int gK])), (aN, .inr (3, [.ref aNk, .ref aNn, .int nS])), (aNk, .inl (K.2 0, 12, .inl nK)), (aNn, .inl (K.2 0, 12, .inl nN)), (aF, .inr (2, [.ref aFl, .ref aFc, .ref aFq, .int fM])), (aFl, .inl (K.2 0, 12, .inl fL)), (aFc, .inl (K.2 0, 12, .inl fC)), (aFq, .inl (K.2 0, 12, .inl fQ)), (aX, .inr (0, [.ref aXb, .ref aXk, .ref aXw, .int xS])), (aXb, .inl (K.2 0, 12, .inl xB)), (aXk, .inl (K.2 0, 12, .inl xK)), (aXw, .inl (K.2 0, 12, .inl xW))] 0 0
  refine z_aload_n hG dX5_street_0 0 rfl ?_
  refine z_iload_n hG dX5_street_1 1 rfl ?_
  obtain ⟨v1, hv, hres⟩ := z_bind hres
  refine z_callX (As := [.int p0]) (rest := []) (wr := [(aF, .inr (2, [.ref aFl, .ref aFc, .ref aFq, .int fM])), (aFl, .inl (K.2 0, 12, .inl fL)), (aFc, .inl (K.2 0, 12, .inl fC)), (aFq, .inl (K.2 0, 12, .inl fQ)), (aX, .inr (0, [.ref aXb, .ref aXk, .ref aXw, .int xS])), (aXb, .inl (K.2 0, 12, .inl xB)), (aXk, .inl (K.2 0, 12, .inl xK)), (aXw, .inl (K.2 0, 12, .inl xW))]) (ws' := [(aH, .inr (5, [.ref aN, .ref aF, .ref aA, .ref aC, .ref aO, .ref aX, .int gB, .int gK])), (aN, .inr (3, [.ref aNk, .ref aNn, .int nS])), (aNk, .inl (K.2 0, 12, .inl nK)), (aNn, .inl (K.2 0, 12, .inl nN)), (aF, .inr (2, [.ref aFl, .ref aFc, .ref aFq, .int fM])), (aFl, .inl (K.2 0, 12, .inl fL)), (aFc, .inl (K.2 0, 12, .inl fC)), (aFq, .inl (K.2 0, 12, .inl fQ)), (aX, .inr (0, [.ref aXb, .ref aXk, .ref aXw, .int xS])), (aXb, .inl (K.2 0, 12, .inl xB)), (aXk, .inl (K.2 0, 12, .inl xK)), (aXw, .inl (K.2 0, 12, .inl xW))]) (kc' := 1) (ks' := 6) (n := 1) (C := RX5) (ci := 5) hG hV dX5_street_2 (kX5_placeOf _ K aH aN aNk aNn aF aA aC aO aX gB gK nS nK nN p0 v1 hv) gX5_street_X5_placeOf rfl rfl rfl ⟨rfl, by decide, by decide, rfl⟩ ⟨by decide, by decide⟩ (Nat.le_of_ble_eq_true rfl) ⟨(Nat.le_of_ble_eq_true rfl), (Nat.le_of_ble_eq_true rfl)⟩ [0, 1, 2, 3] [4, 5, 6, 7, 8, 9, 10, 11] [8, 9, 10, 11, 0, 1, 2, 3, 4, 5, 6, 7] rfl rfl rfl rfl (by decide) rfl rfl rfl rfl rfl 0 rfl rfl rfl rfl (fun o9 ho => ?_) (fun E9 ho => ?_)
  · rcases hv1 : v1 with x2 | r3
    · rw [hv1] at ho
      cases ho
    rw [hv1] at ho
    obtain rfl := Sum.inr.inj ho
    replace hres := z_elimR hv1 hres
    show zj G 5 [(0, .ref aH), (1, .int p0), (2, .int p1)] [.int r3] [(aH, .inr (5, [.ref aN, .ref aF, .ref aA, .ref aC, .ref aO, .ref aX, .int gB, .int gK])), (aN, .inr (3, [.ref aNk, .ref aNn, .int nS])), (aNk, .inl (K.2 0, 12, .inl nK)), (aNn, .inl (K.2 0, 12, .inl nN)), (aF, .inr (2, [.ref aFl, .ref aFc, .ref aFq, .int fM])), (aFl, .inl (K.2 0, 12, .inl fL)), (aFc, .inl (K.2 0, 12, .inl fC)), (aFq, .inl (K.2 0, 12, .inl fQ)), (aX, .inr (0, [.ref aXb, .ref aXk, .ref aXw, .int xS])), (aXb, .inl (K.2 0, 12, .inl xB)), (aXk, .inl (K.2 0, 12, .inl xK)), (aXw, .inl (K.2 0, 12, .inl xW))] 1 6
    refine z_istore_n (lv' := [(3, .int r3), (0, .ref aH), (1, .int p0), (2, .int p1)]) hG dX5_street_5 (by decide) rfl ?_
    refine z_aload_n hG dX5_street_6 1 rfl ?_
    refine z_iload_n hG dX5_street_7 3 rfl ?_
    obtain ⟨v4, hv, hres⟩ := z_bind hres
    refine z_callX (As := [.int p1]) (rest := []) (wr := [(aF, .inr (2, [.ref aFl, .ref aFc, .ref aFq, .int fM])), (aFl, .inl (K.2 0, 12, .inl fL)), (aFc, .inl (K.2 0, 12, .inl fC)), (aFq, .inl (K.2 0, 12, .inl fQ)), (aX, .inr (0, [.ref aXb, .ref aXk, .ref aXw, .int xS])), (aXb, .inl (K.2 0, 12, .inl xB)), (aXk, .inl (K.2 0, 12, .inl xK)), (aXw, .inl (K.2 0, 12, .inl xW))]) (ws' := [(aH, .inr (5, [.ref aN, .ref aF, .ref aA, .ref aC, .ref aO, .ref aX, .int gB, .int gK])), (aN, .inr (3, [.ref aNk, .ref aNn, .int nS])), (aNk, .inl (K.2 0, 12, .inl nK)), (aNn, .inl (K.2 0, 12, .inl nN)), (aF, .inr (2, [.ref aFl, .ref aFc, .ref aFq, .int fM])), (aFl, .inl (K.2 0, 12, .inl fL)), (aFc, .inl (K.2 0, 12, .inl fC)), (aFq, .inl (K.2 0, 12, .inl fQ)), (aX, .inr (0, [.ref aXb, .ref aXk, .ref aXw, .int xS])), (aXb, .inl (K.2 0, 12, .inl xB)), (aXk, .inl (K.2 0, 12, .inl xK)), (aXw, .inl (K.2 0, 12, .inl xW))]) (kc' := 2) (ks' := 12) (n := 1) (C := RX5) (ci := 5) hG hV dX5_street_8 (kX5_placeOf _ K aH aN aNk aNn aF aA aC aO aX gB gK nS nK nN p1 v4 hv) gX5_street_X5_placeOf rfl rfl rfl ⟨rfl, by decide, by decide, rfl⟩ ⟨by decide, by decide⟩ (Nat.le_of_ble_eq_true rfl) ⟨(Nat.le_of_ble_eq_true rfl), (Nat.le_of_ble_eq_true rfl)⟩ [0, 1, 2, 3] [4, 5, 6, 7, 8, 9, 10, 11] [8, 9, 10, 11, 0, 1, 2, 3, 4, 5, 6, 7] rfl rfl rfl rfl (by decide) rfl rfl rfl rfl rfl 0 rfl rfl rfl rfl (fun o9 ho => ?_) (fun E9 ho => ?_)
    · rcases hv1 : v4 with x5 | r6
      · rw [hv1] at ho
        cases ho
      rw [hv1] at ho
      obtain rfl := Sum.inr.inj ho
      replace hres := z_elimR hv1 hres
      show zj G 11 [(3, .int r3), (0, .ref aH), (1, .int p0), (2, .int p1)] [.int r6] [(aH, .inr (5, [.ref aN, .ref aF, .ref aA, .ref aC, .ref aO, .ref aX, .int gB, .int gK])), (aN, .inr (3, [.ref aNk, .ref aNn, .int nS])), (aNk, .inl (K.2 0, 12, .inl nK)), (aNn, .inl (K.2 0, 12, .inl nN)), (aF, .inr (2, [.ref aFl, .ref aFc, .ref aFq, .int fM])), (aFl, .inl (K.2 0, 12, .inl fL)), (aFc, .inl (K.2 0, 12, .inl fC)), (aFq, .inl (K.2 0, 12, .inl fQ)), (aX, .inr (0, [.ref aXb, .ref aXk, .ref aXw, .int xS])), (aXb, .inl (K.2 0, 12, .inl xB)), (aXk, .inl (K.2 0, 12, .inl xK)), (aXw, .inl (K.2 0, 12, .inl xW))] 2 12
      refine z_istore (lv' := [(4, .int r6), (3, .int r3), (0, .ref aH), (1, .int p0), (2, .int p1)]) hG dX5_street_11 (by decide) rfl ?_
      refine z_iload_n hG dX5_street_13 1 rfl ?_
      refine z_iload hG dX5_street_14 0 rfl ?_
      refine z_icmp_ne 29 hG dX5_street_16 (by decide) (fun c => ?_) (fun c => ?_)
      · replace hres := z_ifn c hres
        refine z_aload_n hG dX5_street_29 2 rfl ?_
        refine z_get (ci := 5) (C := RX5) (T := TX5) (N := 8) hG dX5_street_30 iX5_street_X5 0 (by decide) mX5_street_0 rfl rfl 0 rfl rfl ?_
        refine z_iload_n hG dX5_street_33 1 rfl ?_
        refine z_iload hG dX5_street_34 0 rfl ?_
        obtain ⟨v7, hv, hres⟩ := z_bind hres
        refine z_callV (As := [.int r3, .int r6]) (rest := []) (wr := [(aH, .inr (5, [.ref aN, .ref aF, .ref aA, .ref aC, .ref aO, .ref aX, .int gB, .int gK])), (aF, .inr (2, [.ref aFl, .ref aFc, .ref aFq, .int fM])), (aFl, .inl (K.2 0, 12, .inl fL)), (aFc, .inl (K.2 0, 12, .inl fC)), (aFq, .inl (K.2 0, 12, .inl fQ)), (aX, .inr (0, [.ref aXb, .ref aXk, .ref aXw, .int xS])), (aXb, .inl (K.2 0, 12, .inl xB)), (aXk, .inl (K.2 0, 12, .inl xK)), (aXw, .inl (K.2 0, 12, .inl xW))]) (ws' := (fun _ : Unit => [(aH, .inr (5, [.ref aN, .ref aF, .ref aA, .ref aC, .ref aO, .ref aX, .int gB, .int gK])), (aN, .inr (3, [.ref aNk, .ref aNn, .int nS])), (aNk, .inl (K.2 0, 12, .inl nK)), (aNn, .inl (K.2 0, 12, .inl nN)), (aF, .inr (2, [.ref aFl, .ref aFc, .ref aFq, .int fM])), (aFl, .inl (K.2 0, 12, .inl fL)), (aFc, .inl (K.2 0, 12, .inl fC)), (aFq, .inl (K.2 0, 12, .inl fQ)), (aX, .inr (0, [.ref aXb, .ref aXk, .ref aXw, .int xS])), (aXb, .inl (K.2 0, 12, .inl xB)), (aXk, .inl (K.2 0, 12, .inl xK)), (aXw, .inl (K.2 0, 12, .inl xW))])) (stk := (fun _ : Unit => [.int v7])) (kc' := 2) (ks' := 12) (n := 2) (C := RX3) (ci := 3) hG dX5_street_36 (kX3_joins _ K aN aNk aNn nS nK nN r3 r6 v7 hv) gX5_street_X3_joins rfl rfl rfl ⟨rfl, by decide, by decide, rfl⟩ ⟨by decide, by decide⟩ (Nat.le_of_ble_eq_true rfl) ⟨(Nat.le_of_ble_eq_true rfl), (Nat.le_of_ble_eq_true rfl)⟩ [1, 2, 3] [0, 4, 5, 6, 7, 8, 9, 10, 11] [0, 9, 10, 11, 1, 2, 3, 4, 5, 6, 7, 8] rfl rfl rfl rfl (by decide) rfl (fun _ => rfl) (fun _ => rfl) rfl rfl rfl 0 rfl rfl rfl rfl (fun _ => ?_)
        refine z_if_eq 52 hG dX5_street_39 (by decide) (fun c => ?_) (fun c => ?_)
        · replace hres := z_ifp c hres
          refine z_aload_n hG dX5_street_52 2 rfl ?_
          refine z_get (ci := 5) (C := RX5) (T := TX5) (N := 8) hG dX5_street_53 iX5_street_X5 5 (by decide) mX5_street_2 rfl rfl 0 rfl rfl ?_
          refine z_aload_n hG dX5_street_56 2 rfl ?_
          refine z_get (ci := 5) (C := RX5) (T := TX5) (N := 8) hG dX5_street_57 iX5_street_X5 1 (by decide) mX5_street_3 rfl rfl 0 rfl rfl ?_
          obtain ⟨v8, hv, hres⟩ := z_bind hres
          refine z_callV (As := [.ref aF]) (rest := []) (wr := [(aH, .inr (5, [.ref aN, .ref aF, .ref aA, .ref aC, .ref aO, .ref aX, .int gB, .int gK])), (aN, .inr (3, [.ref aNk, .ref aNn, .int nS])), (aNk, .inl (K.2 0, 12, .inl nK)), (aNn, .inl (K.2 0, 12, .inl nN))]) (ws' := (fun _ : Unit => [(aH, .inr (5, [.ref aN, .ref aF, .ref aA, .ref aC, .ref aO, .ref aX, .int gB, .int gK])), (aN, .inr (3, [.ref aNk, .ref aNn, .int nS])), (aNk, .inl (K.2 0, 12, .inl nK)), (aNn, .inl (K.2 0, 12, .inl nN)), (aF, .inr (2, [.ref aFl, .ref aFc, .ref aFq, .int fM])), (aFl, .inl (K.2 0, 12, .inl fL)), (aFc, .inl (K.2 0, 12, .inl fC)), (aFq, .inl (K.2 0, 12, .inl fQ)), (aX, .inr (0, [.ref aXb, .ref aXk, .ref aXw, .int xS])), (aXb, .inl (K.2 0, 12, .inl v8)), (aXk, .inl (K.2 0, 12, .inl xK)), (aXw, .inl (K.2 0, 12, .inl xW))])) (stk := (fun _ : Unit => [])) (kc' := 2) (ks' := 12) (n := 1) (C := RX0) (ci := 0) hG dX5_street_60 (kX0_remember _ K aX aXb aXk aXw aF aFl aFc aFq xS xB xK xW fM fL fC fQ v8 hv) gX5_street_X0_remember rfl rfl rfl ⟨rfl, by decide, by decide, rfl⟩ ⟨by decide, by decide⟩ (Nat.le_of_ble_eq_true rfl) ⟨(Nat.le_of_ble_eq_true rfl), (Nat.le_of_ble_eq_true rfl)⟩ [8, 9, 10, 11, 4, 5, 6, 7] [0, 1, 2, 3] [0, 1, 2, 3, 8, 9, 10, 11, 4, 5, 6, 7] rfl rfl rfl rfl (by decide) rfl (fun _ => rfl) (fun _ => rfl) rfl rfl rfl 0 rfl rfl rfl rfl (fun _ => ?_)
          refine z_aload_n hG dX5_street_63 2 rfl ?_
          refine z_get (ci := 5) (C := RX5) (T := TX5) (N := 8) hG dX5_street_64 iX5_street_X5 0 (by decide) mX5_street_0 rfl rfl 0 rfl rfl ?_
          refine z_iload_n hG dX5_street_67 1 rfl ?_
          refine z_iload hG dX5_street_68 0 rfl ?_
          obtain ⟨v9, hv, hres⟩ := z_bind hres
          refine z_callV (As := [.int r3, .int r6]) (rest := []) (wr := [(aH, .inr (5, [.ref aN, .ref aF, .ref aA, .ref aC, .ref aO, .ref aX, .int gB, .int gK])), (aF, .inr (2, [.ref aFl, .ref aFc, .ref aFq, .int fM])), (aFl, .inl (K.2 0, 12, .inl fL)), (aFc, .inl (K.2 0, 12, .inl fC)), (aFq, .inl (K.2 0, 12, .inl fQ)), (aX, .inr (0, [.ref aXb, .ref aXk, .ref aXw, .int xS])), (aXb, .inl (K.2 0, 12, .inl v8)), (aXk, .inl (K.2 0, 12, .inl xK)), (aXw, .inl (K.2 0, 12, .inl xW))]) (ws' := (fun _ : Unit => [(aH, .inr (5, [.ref aN, .ref aF, .ref aA, .ref aC, .ref aO, .ref aX, .int gB, .int gK])), (aN, .inr (3, [.ref aNk, .ref aNn, .int nS])), (aNk, .inl (K.2 0, 12, .inl nK)), (aNn, .inl (K.2 0, 12, .inl v9)), (aF, .inr (2, [.ref aFl, .ref aFc, .ref aFq, .int fM])), (aFl, .inl (K.2 0, 12, .inl fL)), (aFc, .inl (K.2 0, 12, .inl fC)), (aFq, .inl (K.2 0, 12, .inl fQ)), (aX, .inr (0, [.ref aXb, .ref aXk, .ref aXw, .int xS])), (aXb, .inl (K.2 0, 12, .inl v8)), (aXk, .inl (K.2 0, 12, .inl xK)), (aXw, .inl (K.2 0, 12, .inl xW))])) (stk := (fun _ : Unit => [])) (kc' := 2) (ks' := 12) (n := 2) (C := RX3) (ci := 3) hG dX5_street_70 (kX3_join _ K aN aNk aNn nS nK nN r3 r6 v9 hv) gX5_street_X3_join rfl rfl rfl ⟨rfl, by decide, by decide, rfl⟩ ⟨by decide, by decide⟩ (Nat.le_of_ble_eq_true rfl) ⟨(Nat.le_of_ble_eq_true rfl), (Nat.le_of_ble_eq_true rfl)⟩ [1, 2, 3] [0, 4, 5, 6, 7, 8, 9, 10, 11] [0, 9, 10, 11, 1, 2, 3, 4, 5, 6, 7, 8] rfl rfl rfl rfl (by decide) rfl (fun _ => rfl) (fun _ => rfl) rfl rfl rfl 0 rfl rfl rfl rfl (fun _ => ?_)
          refine z_aload_n hG dX5_street_73 2 rfl ?_
          obtain ⟨v10, hv, hres⟩ := z_bind hres
          refine z_callV (As := []) (rest := []) (wr := [(aX, .inr (0, [.ref aXb, .ref aXk, .ref aXw, .int xS])), (aXb, .inl (K.2 0, 12, .inl v8)), (aXk, .inl (K.2 0, 12, .inl xK)), (aXw, .inl (K.2 0, 12, .inl xW))]) (ws' := (fun _ : Unit => [(aH, .inr (5, [.ref aN, .ref aF, .ref aA, .ref aC, .ref aO, .ref aX, .int gB, .int gK])), (aN, .inr (3, [.ref aNk, .ref aNn, .int nS])), (aNk, .inl (K.2 0, 12, .inl nK)), (aNn, .inl (K.2 0, 12, .inl v9)), (aF, .inr (2, [.ref aFl, .ref aFc, .ref aFq, .int v10.1])), (aFl, .inl (K.2 0, 12, .inl v10.2.1)), (aFc, .inl (K.2 0, 12, .inl v10.2.2.1)), (aFq, .inl (K.2 0, 12, .inl v10.2.2.2)), (aX, .inr (0, [.ref aXb, .ref aXk, .ref aXw, .int xS])), (aXb, .inl (K.2 0, 12, .inl v8)), (aXk, .inl (K.2 0, 12, .inl xK)), (aXw, .inl (K.2 0, 12, .inl xW))])) (stk := (fun _ : Unit => [])) (kc' := 2) (ks' := 12) (n := 0) (C := RX5) (ci := 5) hG dX5_street_74 (kX5_spreadFromStart _ K aH aN aNk aNn aF aFl aFc aFq aA aC aO aX gB gK nS nK v9 fM fL fC fQ v10 hv) gX5_street_X5_spreadFromStart rfl rfl rfl ⟨rfl, by decide, by decide, rfl⟩ ⟨by decide, by decide⟩ (Nat.le_of_ble_eq_true rfl) ⟨(Nat.le_of_ble_eq_true rfl), (Nat.le_of_ble_eq_true rfl)⟩ [0, 1, 2, 3, 4, 5, 6, 7] [8, 9, 10, 11] [4, 5, 6, 7, 8, 9, 10, 11, 0, 1, 2, 3] rfl rfl rfl rfl (by decide) rfl (fun _ => rfl) (fun _ => rfl) rfl rfl rfl 0 rfl rfl rfl rfl (fun _ => ?_)
          refine z_aload_n hG dX5_street_77 2 rfl ?_
          refine z_get (ci := 5) (C := RX5) (T := TX5) (N := 8) hG dX5_street_78 iX5_street_X5 5 (by decide) mX5_street_2 rfl rfl 0 rfl rfl ?_
          refine z_aload_n hG dX5_street_81 2 rfl ?_
          refine z_get (ci := 5) (C := RX5) (T := TX5) (N := 8) hG dX5_street_82 iX5_street_X5 0 (by decide) mX5_street_0 rfl rfl 0 rfl rfl ?_
          refine z_aload_n hG dX5_street_85 2 rfl ?_
          refine z_get (ci := 5) (C := RX5) (T := TX5) (N := 8) hG dX5_street_86 iX5_street_X5 1 (by decide) mX5_street_3 rfl rfl 0 rfl rfl ?_
          obtain ⟨v11, hv, hres⟩ := z_bind hres
          refine z_callV (As := [.ref aN, .ref aF]) (rest := []) (wr := [(aH, .inr (5, [.ref aN, .ref aF, .ref aA, .ref aC, .ref aO, .ref aX, .int gB, .int gK]))]) (ws' := (fun _ : Unit => [(aH, .inr (5, [.ref aN, .ref aF, .ref aA, .ref aC, .ref aO, .ref aX, .int gB, .int gK])), (aN, .inr (3, [.ref aNk, .ref aNn, .int nS])), (aNk, .inl (K.2 0, 12, .inl nK)), (aNn, .inl (K.2 0, 12, .inl v9)), (aF, .inr (2, [.ref aFl, .ref aFc, .ref aFq, .int v10.1])), (aFl, .inl (K.2 0, 12, .inl v10.2.1)), (aFc, .inl (K.2 0, 12, .inl v10.2.2.1)), (aFq, .inl (K.2 0, 12, .inl v10.2.2.2)), (aX, .inr (0, [.ref aXb, .ref aXk, .ref aXw, .int v11.1])), (aXb, .inl (K.2 0, 12, .inl v8)), (aXk, .inl (K.2 0, 12, .inl v11.2.1)), (aXw, .inl (K.2 0, 12, .inl v11.2.2))])) (stk := (fun _ : Unit => [])) (kc' := 2) (ks' := 12) (n := 2) (C := RX0) (ci := 0) hG dX5_street_89 (kX0_compare _ K aX aXb aXk aXw aN aNk aNn aF aFl aFc aFq xS v8 xK xW nS nK v9 v10.1 v10.2.1 v10.2.2.1 v10.2.2.2 v11 hv) gX5_street_X0_compare rfl rfl rfl ⟨rfl, by decide, by decide, rfl⟩ ⟨by decide, by decide⟩ (Nat.le_of_ble_eq_true rfl) ⟨(Nat.le_of_ble_eq_true rfl), (Nat.le_of_ble_eq_true rfl)⟩ [8, 9, 10, 11, 1, 2, 3, 4, 5, 6, 7] [0] [0, 5, 6, 7, 8, 9, 10, 11, 1, 2, 3, 4] rfl rfl rfl rfl (by decide) rfl (fun _ => rfl) (fun _ => rfl) rfl rfl rfl 0 rfl rfl rfl rfl (fun _ => ?_)
          refine z_aload_n hG dX5_street_92 2 rfl ?_
          refine z_get (ci := 5) (C := RX5) (T := TX5) (N := 8) hG dX5_street_93 iX5_street_X5 5 (by decide) mX5_street_2 rfl rfl 0 rfl rfl ?_
          refine z_get (ci := 0) (C := RX0) (T := TX0) (N := 4) hG dX5_street_96 iX5_street_X0 3 (by decide) mX5_street_4 rfl rfl 8 rfl rfl ?_
          obtain rfl := Option.some.inj hres
          exact (z_wid (Nat.le_of_ble_eq_true rfl) (Nat.le_of_ble_eq_true rfl) (hR _ rfl _ _ dX5_street_99))
        · replace hres := z_ifn c hres
          obtain rfl := Option.some.inj hres
          exact z_throw "there is a street between them" hG (hT _ rfl) (by decide) mX5_street_6 mX5_street_7 (by decide) rfl (by decide) hX5_street_73 zng_IllegalStateException zgd_IllegalStateException dX5_street_42 dX5_street_45 dX5_street_46 dX5_street_48 dX5_street_51 (by decide) (Nat.le_of_ble_eq_true rfl) (Nat.le_of_ble_eq_true rfl) (Nat.le_of_ble_eq_true rfl) (Nat.le_of_ble_eq_true rfl) (Nat.le_of_ble_eq_true rfl)
      · replace hres := z_ifp c hres
        obtain rfl := Option.some.inj hres
        exact z_throw "a street joins two different places" hG (hT _ rfl) (by decide) mX5_street_9 mX5_street_10 (by decide) rfl (by decide) hX5_street_63 zng_IllegalArgumentException zgd_IllegalArgumentException dX5_street_19 dX5_street_22 dX5_street_23 dX5_street_25 dX5_street_28 (by decide) (Nat.le_of_ble_eq_true rfl) (Nat.le_of_ble_eq_true rfl) (Nat.le_of_ble_eq_true rfl) (Nat.le_of_ble_eq_true rfl) (Nat.le_of_ble_eq_true rfl)
    · rcases hv1 : v4 with x5 | r6
      · rw [hv1] at ho
        obtain rfl := Sum.inl.inj ho
        replace hres := z_elimL hv1 hres
        obtain rfl := Option.some.inj hres
        exact z_xwid (Nat.le_of_ble_eq_true rfl) (Nat.le_of_ble_eq_true rfl) (hP _ rfl _ _)
      rw [hv1] at ho
      cases ho
  · rcases hv1 : v1 with x2 | r3
    · rw [hv1] at ho
      obtain rfl := Sum.inl.inj ho
      replace hres := z_elimL hv1 hres
      obtain rfl := Option.some.inj hres
      exact z_xwid (Nat.le_of_ble_eq_true rfl) (Nat.le_of_ble_eq_true rfl) (hP _ rfl _ _)
    rw [hv1] at ho
    cases ho

theorem dX5_tear_0 : decode cX5_tear 0 = .ok (.aload_n 0, 1) := by decide +kernel
theorem dX5_tear_1 : decode cX5_tear 1 = .ok (.iload_n 1, 1) := by decide +kernel
theorem dX5_tear_2 : decode cX5_tear 2 = .ok (.invokevirtual 84, 3) := by decide +kernel
theorem dX5_tear_5 : decode cX5_tear 5 = .ok (.istore_n 3, 1) := by decide +kernel
theorem dX5_tear_6 : decode cX5_tear 6 = .ok (.aload_n 0, 1) := by decide +kernel
theorem dX5_tear_7 : decode cX5_tear 7 = .ok (.iload_n 2, 1) := by decide +kernel
theorem dX5_tear_8 : decode cX5_tear 8 = .ok (.invokevirtual 84, 3) := by decide +kernel
theorem dX5_tear_11 : decode cX5_tear 11 = .ok (.istore 4, 2) := by decide +kernel
theorem dX5_tear_13 : decode cX5_tear 13 = .ok (.aload_n 0, 1) := by decide +kernel
theorem dX5_tear_14 : decode cX5_tear 14 = .ok (.getfield 10, 3) := by decide +kernel
theorem dX5_tear_17 : decode cX5_tear 17 = .ok (.iload_n 3, 1) := by decide +kernel
theorem dX5_tear_18 : decode cX5_tear 18 = .ok (.iload 4, 2) := by decide +kernel
theorem dX5_tear_20 : decode cX5_tear 20 = .ok (.invokevirtual 95, 3) := by decide +kernel
theorem dX5_tear_23 : decode cX5_tear 23 = .ok (.ifCond .ne 13, 3) := by decide +kernel
theorem dX5_tear_26 : decode cX5_tear 26 = .ok (.new 114, 3) := by decide +kernel
theorem dX5_tear_29 : decode cX5_tear 29 = .ok (.dup, 1) := by decide +kernel
theorem dX5_tear_30 : decode cX5_tear 30 = .ok (.ldc 116, 2) := by decide +kernel
theorem dX5_tear_32 : decode cX5_tear 32 = .ok (.invokespecial 118, 3) := by decide +kernel
theorem dX5_tear_35 : decode cX5_tear 35 = .ok (.athrow, 1) := by decide +kernel
theorem dX5_tear_36 : decode cX5_tear 36 = .ok (.aload_n 0, 1) := by decide +kernel
theorem dX5_tear_37 : decode cX5_tear 37 = .ok (.getfield 43, 3) := by decide +kernel
theorem dX5_tear_40 : decode cX5_tear 40 = .ok (.aload_n 0, 1) := by decide +kernel
theorem dX5_tear_41 : decode cX5_tear 41 = .ok (.getfield 19, 3) := by decide +kernel
theorem dX5_tear_44 : decode cX5_tear 44 = .ok (.invokevirtual 101, 3) := by decide +kernel
theorem dX5_tear_47 : decode cX5_tear 47 = .ok (.aload_n 0, 1) := by decide +kernel
theorem dX5_tear_48 : decode cX5_tear 48 = .ok (.getfield 10, 3) := by decide +kernel
theorem dX5_tear_51 : decode cX5_tear 51 = .ok (.iload_n 3, 1) := by decide +kernel
theorem dX5_tear_52 : decode cX5_tear 52 = .ok (.iload 4, 2) := by decide +kernel
theorem dX5_tear_54 : decode cX5_tear 54 = .ok (.invokevirtual 119, 3) := by decide +kernel
theorem dX5_tear_57 : decode cX5_tear 57 = .ok (.aload_n 0, 1) := by decide +kernel
theorem dX5_tear_58 : decode cX5_tear 58 = .ok (.invokevirtual 81, 3) := by decide +kernel
theorem dX5_tear_61 : decode cX5_tear 61 = .ok (.aload_n 0, 1) := by decide +kernel
theorem dX5_tear_62 : decode cX5_tear 62 = .ok (.getfield 43, 3) := by decide +kernel
theorem dX5_tear_65 : decode cX5_tear 65 = .ok (.aload_n 0, 1) := by decide +kernel
theorem dX5_tear_66 : decode cX5_tear 66 = .ok (.getfield 10, 3) := by decide +kernel
theorem dX5_tear_69 : decode cX5_tear 69 = .ok (.aload_n 0, 1) := by decide +kernel
theorem dX5_tear_70 : decode cX5_tear 70 = .ok (.getfield 19, 3) := by decide +kernel
theorem dX5_tear_73 : decode cX5_tear 73 = .ok (.invokevirtual 109, 3) := by decide +kernel
theorem dX5_tear_76 : decode cX5_tear 76 = .ok (.aload_n 0, 1) := by decide +kernel
theorem dX5_tear_77 : decode cX5_tear 77 = .ok (.getfield 43, 3) := by decide +kernel
theorem dX5_tear_80 : decode cX5_tear 80 = .ok (.getfield 113, 3) := by decide +kernel
theorem dX5_tear_83 : decode cX5_tear 83 = .ok (.ireturn, 1) := by decide +kernel
set_option maxRecDepth 20000 in
theorem ggX5_tear_X5_placeOf : GoodIn wsX5_tear wsX5_placeOf := goodIn_ca (goodIn_r _ [11, 1, 2, 3, 12, 13, 14, 15, 16, 17, 18, 67, 68, 69, 70, 71, 72, 73, 74, 79, 80, 81] (by decide +kernel) (by decide +kernel)) (goodIn_sub (fun _ h => List.mem_cons_of_mem _ (List.mem_append_right _ h)) (by decide +kernel))
set_option maxRecDepth 20000 in
theorem gX5_tear_X5_placeOf : GoodIn wsX5_tear (wsV RX5 84 RX5 yX5_placeOf wsX5_placeOf) := goodIn_app (goodIn_of _ (by decide +kernel)) ggX5_tear_X5_placeOf
set_option maxRecDepth 20000 in
theorem ggX5_tear_X3_joins : GoodIn wsX5_tear wsX3_joins := goodIn_r _ [22, 23, 24, 10, 25, 79, 80, 81] (by decide +kernel) (by decide +kernel)
set_option maxRecDepth 20000 in
theorem gX5_tear_X3_joins : GoodIn wsX5_tear (wsV RX5 95 RX3 yX3_joins wsX3_joins) := goodIn_app (goodIn_of _ (by decide +kernel)) ggX5_tear_X3_joins
set_option maxRecDepth 20000 in
theorem ggX5_tear_X0_remember : GoodIn wsX5_tear wsX0_remember := goodIn_r _ [30, 31, 32, 75, 76, 77, 78, 82, 83, 84, 85] (by decide +kernel) (by decide +kernel)
set_option maxRecDepth 20000 in
theorem gX5_tear_X0_remember : GoodIn wsX5_tear (wsV RX5 101 RX0 yX0_remember wsX0_remember) := goodIn_app (goodIn_of _ (by decide +kernel)) ggX5_tear_X0_remember
set_option maxRecDepth 20000 in
theorem ggX5_tear_X3_part : GoodIn wsX5_tear wsX3_part := goodIn_r _ [36, 23, 79, 80, 81] (by decide +kernel) (by decide +kernel)
set_option maxRecDepth 20000 in
theorem gX5_tear_X3_part : GoodIn wsX5_tear (wsV RX5 119 RX3 yX3_part wsX3_part) := goodIn_app (goodIn_of _ (by decide +kernel)) ggX5_tear_X3_part
set_option maxRecDepth 20000 in
theorem ggX5_tear_X5_spreadFromStart : GoodIn wsX5_tear wsX5_spreadFromStart := goodIn_r _ [40, 5, 3, 41, 42, 12, 13, 14, 15, 16, 17, 18, 43, 44, 45, 46, 47, 48, 49, 50, 51, 52, 53, 54, 55, 56, 57, 20, 21, 22, 23, 24, 10, 25, 67, 68, 69, 70, 71, 72, 73, 74, 79, 80, 81, 82, 83, 84, 85] (by decide +kernel) (by decide +kernel)
set_option maxRecDepth 20000 in
theorem gX5_tear_X5_spreadFromStart : GoodIn wsX5_tear (wsV RX5 81 RX5 yX5_spreadFromStart wsX5_spreadFromStart) := goodIn_app (goodIn_of _ (by decide +kernel)) ggX5_tear_X5_spreadFromStart
set_option maxRecDepth 20000 in
theorem ggX5_tear_X0_compare : GoodIn wsX5_tear wsX0_compare := goodIn_r _ [61, 62, 63, 31, 32, 64, 65, 66, 75, 76, 77, 78, 79, 80, 81, 82, 83, 84, 85] (by decide +kernel) (by decide +kernel)
set_option maxRecDepth 20000 in
theorem gX5_tear_X0_compare : GoodIn wsX5_tear (wsV RX5 109 RX0 yX0_compare wsX0_compare) := goodIn_app (goodIn_of _ (by decide +kernel)) ggX5_tear_X0_compare
theorem mX5_tear_0 : Cond.fieldLink RX5 10 "Layerways" "net" "LLayerways$Net;" ∈ wsX5_tear := by decide +kernel
theorem iX5_tear_X5 : ∀ w ∈ u_ws RX5 TX5 8, w ∈ wsX5_tear := by decide +kernel
theorem mX5_tear_2 : Cond.fieldLink RX5 43 "Layerways" "change" "LLayerways$Change;" ∈ wsX5_tear := by decide +kernel
theorem mX5_tear_3 : Cond.fieldLink RX5 19 "Layerways" "fromStart" "LLayerways$Layers;" ∈ wsX5_tear := by decide +kernel
theorem mX5_tear_4 : Cond.fieldLink RX5 113 "Layerways$Change" "size" "I" ∈ wsX5_tear := by decide +kernel
theorem iX5_tear_X0 : ∀ w ∈ u_ws RX0 TX0 4, w ∈ wsX5_tear := by decide +kernel
theorem mX5_tear_6 : Cond.classLink RX5 114 "java/util/NoSuchElementException" ∈ wsX5_tear := by decide +kernel
theorem mX5_tear_7 : Cond.initialized "java/util/NoSuchElementException" ∈ wsX5_tear := by decide +kernel
theorem hX5_tear_118 : ∀ w ∈ (vx_atS RX5 118 "java/util/NoSuchElementException" ["java/lang/RuntimeException", "java/lang/Exception"]).filter goodWord, w ∈ wsX5_tear := fun w h => List.mem_cons_of_mem _ (List.mem_append_right _ h)
def fX5_tear (gB : Int32) (gK : Int32) (nS : Int32) (nK : (Nat → Int32)) (nN : (Nat → Int32)) (fM : Int32) (fL : (Nat → Int32)) (fC : (Nat → Int32)) (fQ : (Nat → Int32)) (xS : Int32) (xB : (Nat → Int32)) (xK : (Nat → Int32)) (xW : (Nat → Int32)) (p0 : Int32) (p1 : Int32) : Option ((String ⊕ Int32) × (Nat → Int32) × Int32 × (Nat → Int32) × (Nat → Int32) × (Nat → Int32) × Int32 × (Nat → Int32) × (Nat → Int32) × (Nat → Int32)) := (fX5_placeOf nS nK p0).bind fun v1 => Sum.elim (fun x2 : String => some (.inl x2, nN, fM, fL, fC, fQ, xS, xB, xK, xW)) (fun r3 : Int32 => (fX5_placeOf nS nK p1).bind fun v4 => Sum.elim (fun x5 : String => some (.inl x5, nN, fM, fL, fC, fQ, xS, xB, xK, xW)) (fun r6 : Int32 => (fX3_joins nN r3 r6).bind fun v7 => if v7 = 0 then some (.inl "java/util/NoSuchElementException", nN, fM, fL, fC, fQ, xS, xB, xK, xW) else (fX0_remember xB fL).bind fun v8 => (fX3_part nN r3 r6).bind fun v9 => (fX5_spreadFromStart gB gK nS nK v9 fL fC fQ).bind fun v10 => (fX0_compare v8 xK xW nS nK v10.2.1).bind fun v11 => some (.inr v11.1, v9, v10.1, v10.2.1, v10.2.2.1, v10.2.2.2, v11.1, v8, v11.2.1, v11.2.2)) v4) v1
set_option maxRecDepth 100000 in
set_option maxHeartbeats 4000000 in
theorem kX5_tear (l : Launch) (K : zK) (aH : Nat) (aN : Nat) (aNk : Nat) (aNn : Nat) (aF : Nat) (aFl : Nat) (aFc : Nat) (aFq : Nat) (aX : Nat) (aXb : Nat) (aXk : Nat) (aXw : Nat) (aA : Nat) (aC : Nat) (aO : Nat)  (gB : Int32) (gK : Int32) (nS : Int32) (nK : (Nat → Int32)) (nN : (Nat → Int32)) (fM : Int32) (fL : (Nat → Int32)) (fC : (Nat → Int32)) (fQ : (Nat → Int32)) (xS : Int32) (xB : (Nat → Int32)) (xK : (Nat → Int32)) (xW : (Nat → Int32)) (p0 : Int32) (p1 : Int32) (r : (String ⊕ Int32) × (Nat → Int32) × Int32 × (Nat → Int32) × (Nat → Int32) × (Nat → Int32) × Int32 × (Nat → Int32) × (Nat → Int32) × (Nat → Int32)) (hres : fX5_tear gB gK nS nK nN fM fL fC fQ xS xB xK xW p0 p1 = some r) : zX l K yX5_tear wsX5_tear ({ frames := 7, cells := 8, slots := 48, locals := 109 }) [.ref aH, .int p0, .int p1] [(aH, .inr (5, [.ref aN, .ref aF, .ref aA, .ref aC, .ref aO, .ref aX, .int gB, .int gK])), (aN, .inr (3, [.ref aNk, .ref aNn, .int nS])), (aNk, .inl (K.2 0, 12, .inl nK)), (aNn, .inl (K.2 0, 12, .inl nN)), (aF, .inr (2, [.ref aFl, .ref aFc, .ref aFq, .int fM])), (aFl, .inl (K.2 0, 12, .inl fL)), (aFc, .inl (K.2 0, 12, .inl fC)), (aFq, .inl (K.2 0, 12, .inl fQ)), (aX, .inr (0, [.ref aXb, .ref aXk, .ref aXw, .int xS])), (aXb, .inl (K.2 0, 12, .inl xB)), (aXk, .inl (K.2 0, 12, .inl xK)), (aXw, .inl (K.2 0, 12, .inl xW))] (zoI r.1) [(aH, .inr (5, [.ref aN, .ref aF, .ref aA, .ref aC, .ref aO, .ref aX, .int gB, .int gK])), (aN, .inr (3, [.ref aNk, .ref aNn, .int nS])), (aNk, .inl (K.2 0, 12, .inl nK)), (aNn, .inl (K.2 0, 12, .inl r.2.1)), (aF, .inr (2, [.ref aFl, .ref aFc, .ref aFq, .int r.2.2.1])), (aFl, .inl (K.2 0, 12, .inl r.2.2.2.1)), (aFc, .inl (K.2 0, 12, .inl r.2.2.2.2.1)), (aFq, .inl (K.2 0, 12, .inl r.2.2.2.2.2.1)), (aX, .inr (0, [.ref aXb, .ref aXk, .ref aXw, .int r.2.2.2.2.2.2.1])), (aXb, .inl (K.2 0, 12, .inl r.2.2.2.2.2.2.2.1)), (aXk, .inl (K.2 0, 12, .inl r.2.2.2.2.2.2.2.2.1)), (aXw, .inl (K.2 0, 12, .inl r.2.2.2.2.2.2.2.2.2))] 8 48 := by
  refine zX.intI (cc := cX5_tear) (maxL := 5) (ret := (some .int)) rfl (by decide) (Nat.le_of_ble_eq_true rfl) rfl ?_
  intro G hGl hG hV hR hT hP
  unfold fX5_tear at hres
  show zj G 0 [(0, .ref aH), (1, .int p0), (2, .int p1)] [] [(aH, .inr (5, [.ref aN, .ref aF, .ref aA, .ref aC, .ref aO, .ref aX, .int gB, .int gK])), (aN, .inr (3, [.ref aNk, .ref aNn, .int nS])), (aNk, .inl (K.2 0, 12, .inl nK)), (aNn, .inl (K.2 0, 12, .inl nN)), (aF, .inr (2, [.ref aFl, .ref aFc, .ref aFq, .int fM])), (aFl, .inl (K.2 0, 12, .inl fL)), (aFc, .inl (K.2 0, 12, .inl fC)), (aFq, .inl (K.2 0, 12, .inl fQ)), (aX, .inr (0, [.ref aXb, .ref aXk, .ref aXw, .int xS])), (aXb, .inl (K.2 0, 12, .inl xB)), (aXk, .inl (K.2 0, 12, .inl xK)), (aXw, .inl (K.2 0, 12, .inl xW))] 0 0
  refine z_aload_n hG dX5_tear_0 0 rfl ?_
  refine z_iload_n hG dX5_tear_1 1 rfl ?_
  obtain ⟨v1, hv, hres⟩ := z_bind hres
  refine z_callX (As := [.int p0]) (rest := []) (wr := [(aF, .inr (2, [.ref aFl, .ref aFc, .ref aFq, .int fM])), (aFl, .inl (K.2 0, 12, .inl fL)), (aFc, .inl (K.2 0, 12, .inl fC)), (aFq, .inl (K.2 0, 12, .inl fQ)), (aX, .inr (0, [.ref aXb, .ref aXk, .ref aXw, .int xS])), (aXb, .inl (K.2 0, 12, .inl xB)), (aXk, .inl (K.2 0, 12, .inl xK)), (aXw, .inl (K.2 0, 12, .inl xW))]) (ws' := [(aH, .inr (5, [.ref aN, .ref aF, .ref aA, .ref aC, .ref aO, .ref aX, .int gB, .int gK])), (aN, .inr (3, [.ref aNk, .ref aNn, .int nS])), (aNk, .inl (K.2 0, 12, .inl nK)), (aNn, .inl (K.2 0, 12, .inl nN)), (aF, .inr (2, [.ref aFl, .ref aFc, .ref aFq, .int fM])), (aFl, .inl (K.2 0, 12, .inl fL)), (aFc, .inl (K.2 0, 12, .inl fC)), (aFq, .inl (K.2 0, 12, .inl fQ)), (aX, .inr (0, [.ref aXb, .ref aXk, .ref aXw, .int xS])), (aXb, .inl (K.2 0, 12, .inl xB)), (aXk, .inl (K.2 0, 12, .inl xK)), (aXw, .inl (K.2 0, 12, .inl xW))]) (kc' := 1) (ks' := 6) (n := 1) (C := RX5) (ci := 5) hG hV dX5_tear_2 (kX5_placeOf _ K aH aN aNk aNn aF aA aC aO aX gB gK nS nK nN p0 v1 hv) gX5_tear_X5_placeOf rfl rfl rfl ⟨rfl, by decide, by decide, rfl⟩ ⟨by decide, by decide⟩ (Nat.le_of_ble_eq_true rfl) ⟨(Nat.le_of_ble_eq_true rfl), (Nat.le_of_ble_eq_true rfl)⟩ [0, 1, 2, 3] [4, 5, 6, 7, 8, 9, 10, 11] [8, 9, 10, 11, 0, 1, 2, 3, 4, 5, 6, 7] rfl rfl rfl rfl (by decide) rfl rfl rfl rfl rfl 0 rfl rfl rfl rfl (fun o9 ho => ?_) (fun E9 ho => ?_)
  · rcases hv1 : v1 with x2 | r3
    · rw [hv1] at ho
      cases ho
    rw [hv1] at ho
    obtain rfl := Sum.inr.inj ho
    replace hres := z_elimR hv1 hres
    show zj G 5 [(0, .ref aH), (1, .int p0), (2, .int p1)] [.int r3] [(aH, .inr (5, [.ref aN, .ref aF, .ref aA, .ref aC, .ref aO, .ref aX, .int gB, .int gK])), (aN, .inr (3, [.ref aNk, .ref aNn, .int nS])), (aNk, .inl (K.2 0, 12, .inl nK)), (aNn, .inl (K.2 0, 12, .inl nN)), (aF, .inr (2, [.ref aFl, .ref aFc, .ref aFq, .int fM])), (aFl, .inl (K.2 0, 12, .inl fL)), (aFc, .inl (K.2 0, 12, .inl fC)), (aFq, .inl (K.2 0, 12, .inl fQ)), (aX, .inr (0, [.ref aXb, .ref aXk, .ref aXw, .int xS])), (aXb, .inl (K.2 0, 12, .inl xB)), (aXk, .inl (K.2 0, 12, .inl xK)), (aXw, .inl (K.2 0, 12, .inl xW))] 1 6
    refine z_istore_n (lv' := [(3, .int r3), (0, .ref aH), (1, .int p0), (2, .int p1)]) hG dX5_tear_5 (by decide) rfl ?_
    refine z_aload_n hG dX5_tear_6 1 rfl ?_
    refine z_iload_n hG dX5_tear_7 3 rfl ?_
    obtain ⟨v4, hv, hres⟩ := z_bind hres
    refine z_callX (As := [.int p1]) (rest := []) (wr := [(aF, .inr (2, [.ref aFl, .ref aFc, .ref aFq, .int fM])), (aFl, .inl (K.2 0, 12, .inl fL)), (aFc, .inl (K.2 0, 12, .inl fC)), (aFq, .inl (K.2 0, 12, .inl fQ)), (aX, .inr (0, [.ref aXb, .ref aXk, .ref aXw, .int xS])), (aXb, .inl (K.2 0, 12, .inl xB)), (aXk, .inl (K.2 0, 12, .inl xK)), (aXw, .inl (K.2 0, 12, .inl xW))]) (ws' := [(aH, .inr (5, [.ref aN, .ref aF, .ref aA, .ref aC, .ref aO, .ref aX, .int gB, .int gK])), (aN, .inr (3, [.ref aNk, .ref aNn, .int nS])), (aNk, .inl (K.2 0, 12, .inl nK)), (aNn, .inl (K.2 0, 12, .inl nN)), (aF, .inr (2, [.ref aFl, .ref aFc, .ref aFq, .int fM])), (aFl, .inl (K.2 0, 12, .inl fL)), (aFc, .inl (K.2 0, 12, .inl fC)), (aFq, .inl (K.2 0, 12, .inl fQ)), (aX, .inr (0, [.ref aXb, .ref aXk, .ref aXw, .int xS])), (aXb, .inl (K.2 0, 12, .inl xB)), (aXk, .inl (K.2 0, 12, .inl xK)), (aXw, .inl (K.2 0, 12, .inl xW))]) (kc' := 2) (ks' := 12) (n := 1) (C := RX5) (ci := 5) hG hV dX5_tear_8 (kX5_placeOf _ K aH aN aNk aNn aF aA aC aO aX gB gK nS nK nN p1 v4 hv) gX5_tear_X5_placeOf rfl rfl rfl ⟨rfl, by decide, by decide, rfl⟩ ⟨by decide, by decide⟩ (Nat.le_of_ble_eq_true rfl) ⟨(Nat.le_of_ble_eq_true rfl), (Nat.le_of_ble_eq_true rfl)⟩ [0, 1, 2, 3] [4, 5, 6, 7, 8, 9, 10, 11] [8, 9, 10, 11, 0, 1, 2, 3, 4, 5, 6, 7] rfl rfl rfl rfl (by decide) rfl rfl rfl rfl rfl 0 rfl rfl rfl rfl (fun o9 ho => ?_) (fun E9 ho => ?_)
    · rcases hv1 : v4 with x5 | r6
      · rw [hv1] at ho
        cases ho
      rw [hv1] at ho
      obtain rfl := Sum.inr.inj ho
      replace hres := z_elimR hv1 hres
      show zj G 11 [(3, .int r3), (0, .ref aH), (1, .int p0), (2, .int p1)] [.int r6] [(aH, .inr (5, [.ref aN, .ref aF, .ref aA, .ref aC, .ref aO, .ref aX, .int gB, .int gK])), (aN, .inr (3, [.ref aNk, .ref aNn, .int nS])), (aNk, .inl (K.2 0, 12, .inl nK)), (aNn, .inl (K.2 0, 12, .inl nN)), (aF, .inr (2, [.ref aFl, .ref aFc, .ref aFq, .int fM])), (aFl, .inl (K.2 0, 12, .inl fL)), (aFc, .inl (K.2 0, 12, .inl fC)), (aFq, .inl (K.2 0, 12, .inl fQ)), (aX, .inr (0, [.ref aXb, .ref aXk, .ref aXw, .int xS])), (aXb, .inl (K.2 0, 12, .inl xB)), (aXk, .inl (K.2 0, 12, .inl xK)), (aXw, .inl (K.2 0, 12, .inl xW))] 2 12
      refine z_istore (lv' := [(4, .int r6), (3, .int r3), (0, .ref aH), (1, .int p0), (2, .int p1)]) hG dX5_tear_11 (by decide) rfl ?_
      refine z_aload_n hG dX5_tear_13 2 rfl ?_
      refine z_get (ci := 5) (C := RX5) (T := TX5) (N := 8) hG dX5_tear_14 iX5_tear_X5 0 (by decide) mX5_tear_0 rfl rfl 0 rfl rfl ?_
      refine z_iload_n hG dX5_tear_17 1 rfl ?_
      refine z_iload hG dX5_tear_18 0 rfl ?_
      obtain ⟨v7, hv, hres⟩ := z_bind hres
      refine z_callV (As := [.int r3, .int r6]) (rest := []) (wr := [(aH, .inr (5, [.ref aN, .ref aF, .ref aA, .ref aC, .ref aO, .ref aX, .int gB, .int gK])), (aF, .inr (2, [.ref aFl, .ref aFc, .ref aFq, .int fM])), (aFl, .inl (K.2 0, 12, .inl fL)), (aFc, .inl (K.2 0, 12, .inl fC)), (aFq, .inl (K.2 0, 12, .inl fQ)), (aX, .inr (0, [.ref aXb, .ref aXk, .ref aXw, .int xS])), (aXb, .inl (K.2 0, 12, .inl xB)), (aXk, .inl (K.2 0, 12, .inl xK)), (aXw, .inl (K.2 0, 12, .inl xW))]) (ws' := (fun _ : Unit => [(aH, .inr (5, [.ref aN, .ref aF, .ref aA, .ref aC, .ref aO, .ref aX, .int gB, .int gK])), (aN, .inr (3, [.ref aNk, .ref aNn, .int nS])), (aNk, .inl (K.2 0, 12, .inl nK)), (aNn, .inl (K.2 0, 12, .inl nN)), (aF, .inr (2, [.ref aFl, .ref aFc, .ref aFq, .int fM])), (aFl, .inl (K.2 0, 12, .inl fL)), (aFc, .inl (K.2 0, 12, .inl fC)), (aFq, .inl (K.2 0, 12, .inl fQ)), (aX, .inr (0, [.ref aXb, .ref aXk, .ref aXw, .int xS])), (aXb, .inl (K.2 0, 12, .inl xB)), (aXk, .inl (K.2 0, 12, .inl xK)), (aXw, .inl (K.2 0, 12, .inl xW))])) (stk := (fun _ : Unit => [.int v7])) (kc' := 2) (ks' := 12) (n := 2) (C := RX3) (ci := 3) hG dX5_tear_20 (kX3_joins _ K aN aNk aNn nS nK nN r3 r6 v7 hv) gX5_tear_X3_joins rfl rfl rfl ⟨rfl, by decide, by decide, rfl⟩ ⟨by decide, by decide⟩ (Nat.le_of_ble_eq_true rfl) ⟨(Nat.le_of_ble_eq_true rfl), (Nat.le_of_ble_eq_true rfl)⟩ [1, 2, 3] [0, 4, 5, 6, 7, 8, 9, 10, 11] [0, 9, 10, 11, 1, 2, 3, 4, 5, 6, 7, 8] rfl rfl rfl rfl (by decide) rfl (fun _ => rfl) (fun _ => rfl) rfl rfl rfl 0 rfl rfl rfl rfl (fun _ => ?_)
      refine z_if_ne 36 hG dX5_tear_23 (by decide) (fun c => ?_) (fun c => ?_)
      · replace hres := z_ifn c hres
        refine z_aload_n hG dX5_tear_36 2 rfl ?_
        refine z_get (ci := 5) (C := RX5) (T := TX5) (N := 8) hG dX5_tear_37 iX5_tear_X5 5 (by decide) mX5_tear_2 rfl rfl 0 rfl rfl ?_
        refine z_aload_n hG dX5_tear_40 2 rfl ?_
        refine z_get (ci := 5) (C := RX5) (T := TX5) (N := 8) hG dX5_tear_41 iX5_tear_X5 1 (by decide) mX5_tear_3 rfl rfl 0 rfl rfl ?_
        obtain ⟨v8, hv, hres⟩ := z_bind hres
        refine z_callV (As := [.ref aF]) (rest := []) (wr := [(aH, .inr (5, [.ref aN, .ref aF, .ref aA, .ref aC, .ref aO, .ref aX, .int gB, .int gK])), (aN, .inr (3, [.ref aNk, .ref aNn, .int nS])), (aNk, .inl (K.2 0, 12, .inl nK)), (aNn, .inl (K.2 0, 12, .inl nN))]) (ws' := (fun _ : Unit => [(aH, .inr (5, [.ref aN, .ref aF, .ref aA, .ref aC, .ref aO, .ref aX, .int gB, .int gK])), (aN, .inr (3, [.ref aNk, .ref aNn, .int nS])), (aNk, .inl (K.2 0, 12, .inl nK)), (aNn, .inl (K.2 0, 12, .inl nN)), (aF, .inr (2, [.ref aFl, .ref aFc, .ref aFq, .int fM])), (aFl, .inl (K.2 0, 12, .inl fL)), (aFc, .inl (K.2 0, 12, .inl fC)), (aFq, .inl (K.2 0, 12, .inl fQ)), (aX, .inr (0, [.ref aXb, .ref aXk, .ref aXw, .int xS])), (aXb, .inl (K.2 0, 12, .inl v8)), (aXk, .inl (K.2 0, 12, .inl xK)), (aXw, .inl (K.2 0, 12, .inl xW))])) (stk := (fun _ : Unit => [])) (kc' := 2) (ks' := 12) (n := 1) (C := RX0) (ci := 0) hG dX5_tear_44 (kX0_remember _ K aX aXb aXk aXw aF aFl aFc aFq xS xB xK xW fM fL fC fQ v8 hv) gX5_tear_X0_remember rfl rfl rfl ⟨rfl, by decide, by decide, rfl⟩ ⟨by decide, by decide⟩ (Nat.le_of_ble_eq_true rfl) ⟨(Nat.le_of_ble_eq_true rfl), (Nat.le_of_ble_eq_true rfl)⟩ [8, 9, 10, 11, 4, 5, 6, 7] [0, 1, 2, 3] [0, 1, 2, 3, 8, 9, 10, 11, 4, 5, 6, 7] rfl rfl rfl rfl (by decide) rfl (fun _ => rfl) (fun _ => rfl) rfl rfl rfl 0 rfl rfl rfl rfl (fun _ => ?_)
        refine z_aload_n hG dX5_tear_47 2 rfl ?_
        refine z_get (ci := 5) (C := RX5) (T := TX5) (N := 8) hG dX5_tear_48 iX5_tear_X5 0 (by decide) mX5_tear_0 rfl rfl 0 rfl rfl ?_
        refine z_iload_n hG dX5_tear_51 1 rfl ?_
        refine z_iload hG dX5_tear_52 0 rfl ?_
        obtain ⟨v9, hv, hres⟩ := z_bind hres
        refine z_callV (As := [.int r3, .int r6]) (rest := []) (wr := [(aH, .inr (5, [.ref aN, .ref aF, .ref aA, .ref aC, .ref aO, .ref aX, .int gB, .int gK])), (aF, .inr (2, [.ref aFl, .ref aFc, .ref aFq, .int fM])), (aFl, .inl (K.2 0, 12, .inl fL)), (aFc, .inl (K.2 0, 12, .inl fC)), (aFq, .inl (K.2 0, 12, .inl fQ)), (aX, .inr (0, [.ref aXb, .ref aXk, .ref aXw, .int xS])), (aXb, .inl (K.2 0, 12, .inl v8)), (aXk, .inl (K.2 0, 12, .inl xK)), (aXw, .inl (K.2 0, 12, .inl xW))]) (ws' := (fun _ : Unit => [(aH, .inr (5, [.ref aN, .ref aF, .ref aA, .ref aC, .ref aO, .ref aX, .int gB, .int gK])), (aN, .inr (3, [.ref aNk, .ref aNn, .int nS])), (aNk, .inl (K.2 0, 12, .inl nK)), (aNn, .inl (K.2 0, 12, .inl v9)), (aF, .inr (2, [.ref aFl, .ref aFc, .ref aFq, .int fM])), (aFl, .inl (K.2 0, 12, .inl fL)), (aFc, .inl (K.2 0, 12, .inl fC)), (aFq, .inl (K.2 0, 12, .inl fQ)), (aX, .inr (0, [.ref aXb, .ref aXk, .ref aXw, .int xS])), (aXb, .inl (K.2 0, 12, .inl v8)), (aXk, .inl (K.2 0, 12, .inl xK)), (aXw, .inl (K.2 0, 12, .inl xW))])) (stk := (fun _ : Unit => [])) (kc' := 2) (ks' := 12) (n := 2) (C := RX3) (ci := 3) hG dX5_tear_54 (kX3_part _ K aN aNk aNn nS nK nN r3 r6 v9 hv) gX5_tear_X3_part rfl rfl rfl ⟨rfl, by decide, by decide, rfl⟩ ⟨by decide, by decide⟩ (Nat.le_of_ble_eq_true rfl) ⟨(Nat.le_of_ble_eq_true rfl), (Nat.le_of_ble_eq_true rfl)⟩ [1, 2, 3] [0, 4, 5, 6, 7, 8, 9, 10, 11] [0, 9, 10, 11, 1, 2, 3, 4, 5, 6, 7, 8] rfl rfl rfl rfl (by decide) rfl (fun _ => rfl) (fun _ => rfl) rfl rfl rfl 0 rfl rfl rfl rfl (fun _ => ?_)
        refine z_aload_n hG dX5_tear_57 2 rfl ?_
        obtain ⟨v10, hv, hres⟩ := z_bind hres
        refine z_callV (As := []) (rest := []) (wr := [(aX, .inr (0, [.ref aXb, .ref aXk, .ref aXw, .int xS])), (aXb, .inl (K.2 0, 12, .inl v8)), (aXk, .inl (K.2 0, 12, .inl xK)), (aXw, .inl (K.2 0, 12, .inl xW))]) (ws' := (fun _ : Unit => [(aH, .inr (5, [.ref aN, .ref aF, .ref aA, .ref aC, .ref aO, .ref aX, .int gB, .int gK])), (aN, .inr (3, [.ref aNk, .ref aNn, .int nS])), (aNk, .inl (K.2 0, 12, .inl nK)), (aNn, .inl (K.2 0, 12, .inl v9)), (aF, .inr (2, [.ref aFl, .ref aFc, .ref aFq, .int v10.1])), (aFl, .inl (K.2 0, 12, .inl v10.2.1)), (aFc, .inl (K.2 0, 12, .inl v10.2.2.1)), (aFq, .inl (K.2 0, 12, .inl v10.2.2.2)), (aX, .inr (0, [.ref aXb, .ref aXk, .ref aXw, .int xS])), (aXb, .inl (K.2 0, 12, .inl v8)), (aXk, .inl (K.2 0, 12, .inl xK)), (aXw, .inl (K.2 0, 12, .inl xW))])) (stk := (fun _ : Unit => [])) (kc' := 2) (ks' := 12) (n := 0) (C := RX5) (ci := 5) hG dX5_tear_58 (kX5_spreadFromStart _ K aH aN aNk aNn aF aFl aFc aFq aA aC aO aX gB gK nS nK v9 fM fL fC fQ v10 hv) gX5_tear_X5_spreadFromStart rfl rfl rfl ⟨rfl, by decide, by decide, rfl⟩ ⟨by decide, by decide⟩ (Nat.le_of_ble_eq_true rfl) ⟨(Nat.le_of_ble_eq_true rfl), (Nat.le_of_ble_eq_true rfl)⟩ [0, 1, 2, 3, 4, 5, 6, 7] [8, 9, 10, 11] [4, 5, 6, 7, 8, 9, 10, 11, 0, 1, 2, 3] rfl rfl rfl rfl (by decide) rfl (fun _ => rfl) (fun _ => rfl) rfl rfl rfl 0 rfl rfl rfl rfl (fun _ => ?_)
        refine z_aload_n hG dX5_tear_61 2 rfl ?_
        refine z_get (ci := 5) (C := RX5) (T := TX5) (N := 8) hG dX5_tear_62 iX5_tear_X5 5 (by decide) mX5_tear_2 rfl rfl 0 rfl rfl ?_
        refine z_aload_n hG dX5_tear_65 2 rfl ?_
        refine z_get (ci := 5) (C := RX5) (T := TX5) (N := 8) hG dX5_tear_66 iX5_tear_X5 0 (by decide) mX5_tear_0 rfl rfl 0 rfl rfl ?_
        refine z_aload_n hG dX5_tear_69 2 rfl ?_
        refine z_get (ci := 5) (C := RX5) (T := TX5) (N := 8) hG dX5_tear_70 iX5_tear_X5 1 (by decide) mX5_tear_3 rfl rfl 0 rfl rfl ?_
        obtain ⟨v11, hv, hres⟩ := z_bind hres
        refine z_callV (As := [.ref aN, .ref aF]) (rest := []) (wr := [(aH, .inr (5, [.ref aN, .ref aF, .ref aA, .ref aC, .ref aO, .ref aX, .int gB, .int gK]))]) (ws' := (fun _ : Unit => [(aH, .inr (5, [.ref aN, .ref aF, .ref aA, .ref aC, .ref aO, .ref aX, .int gB, .int gK])), (aN, .inr (3, [.ref aNk, .ref aNn, .int nS])), (aNk, .inl (K.2 0, 12, .inl nK)), (aNn, .inl (K.2 0, 12, .inl v9)), (aF, .inr (2, [.ref aFl, .ref aFc, .ref aFq, .int v10.1])), (aFl, .inl (K.2 0, 12, .inl v10.2.1)), (aFc, .inl (K.2 0, 12, .inl v10.2.2.1)), (aFq, .inl (K.2 0, 12, .inl v10.2.2.2)), (aX, .inr (0, [.ref aXb, .ref aXk, .ref aXw, .int v11.1])), (aXb, .inl (K.2 0, 12, .inl v8)), (aXk, .inl (K.2 0, 12, .inl v11.2.1)), (aXw, .inl (K.2 0, 12, .inl v11.2.2))])) (stk := (fun _ : Unit => [])) (kc' := 2) (ks' := 12) (n := 2) (C := RX0) (ci := 0) hG dX5_tear_73 (kX0_compare _ K aX aXb aXk aXw aN aNk aNn aF aFl aFc aFq xS v8 xK xW nS nK v9 v10.1 v10.2.1 v10.2.2.1 v10.2.2.2 v11 hv) gX5_tear_X0_compare rfl rfl rfl ⟨rfl, by decide, by decide, rfl⟩ ⟨by decide, by decide⟩ (Nat.le_of_ble_eq_true rfl) ⟨(Nat.le_of_ble_eq_true rfl), (Nat.le_of_ble_eq_true rfl)⟩ [8, 9, 10, 11, 1, 2, 3, 4, 5, 6, 7] [0] [0, 5, 6, 7, 8, 9, 10, 11, 1, 2, 3, 4] rfl rfl rfl rfl (by decide) rfl (fun _ => rfl) (fun _ => rfl) rfl rfl rfl 0 rfl rfl rfl rfl (fun _ => ?_)
        refine z_aload_n hG dX5_tear_76 2 rfl ?_
        refine z_get (ci := 5) (C := RX5) (T := TX5) (N := 8) hG dX5_tear_77 iX5_tear_X5 5 (by decide) mX5_tear_2 rfl rfl 0 rfl rfl ?_
        refine z_get (ci := 0) (C := RX0) (T := TX0) (N := 4) hG dX5_tear_80 iX5_tear_X0 3 (by decide) mX5_tear_4 rfl rfl 8 rfl rfl ?_
        obtain rfl := Option.some.inj hres
        exact (z_wid (Nat.le_of_ble_eq_true rfl) (Nat.le_of_ble_eq_true rfl) (hR _ rfl _ _ dX5_tear_83))
      · replace hres := z_ifp c hres
        obtain rfl := Option.some.inj hres
        exact z_throw "no street between them" hG (hT _ rfl) (by decide) mX5_tear_6 mX5_tear_7 (by decide) rfl (by decide) hX5_tear_118 zng_NoSuchElementException zgd_NoSuchElementException dX5_tear_26 dX5_tear_29 dX5_tear_30 dX5_tear_32 dX5_tear_35 (by decide) (Nat.le_of_ble_eq_true rfl) (Nat.le_of_ble_eq_true rfl) (Nat.le_of_ble_eq_true rfl) (Nat.le_of_ble_eq_true rfl) (Nat.le_of_ble_eq_true rfl)
    · rcases hv1 : v4 with x5 | r6
      · rw [hv1] at ho
        obtain rfl := Sum.inl.inj ho
        replace hres := z_elimL hv1 hres
        obtain rfl := Option.some.inj hres
        exact z_xwid (Nat.le_of_ble_eq_true rfl) (Nat.le_of_ble_eq_true rfl) (hP _ rfl _ _)
      rw [hv1] at ho
      cases ho
  · rcases hv1 : v1 with x2 | r3
    · rw [hv1] at ho
      obtain rfl := Sum.inl.inj ho
      replace hres := z_elimL hv1 hres
      obtain rfl := Option.some.inj hres
      exact z_xwid (Nat.le_of_ble_eq_true rfl) (Nat.le_of_ble_eq_true rfl) (hP _ rfl _ _)
    rw [hv1] at ho
    cases ho

theorem dX5_begin_0 : decode cX5_begin 0 = .ok (.aload_n 0, 1) := by decide +kernel
theorem dX5_begin_1 : decode cX5_begin 1 = .ok (.iload_n 1, 1) := by decide +kernel
theorem dX5_begin_2 : decode cX5_begin 2 = .ok (.invokevirtual 84, 3) := by decide +kernel
theorem dX5_begin_5 : decode cX5_begin 5 = .ok (.pop, 1) := by decide +kernel
theorem dX5_begin_6 : decode cX5_begin 6 = .ok (.aload_n 0, 1) := by decide +kernel
theorem dX5_begin_7 : decode cX5_begin 7 = .ok (.iconst 1, 1) := by decide +kernel
theorem dX5_begin_8 : decode cX5_begin 8 = .ok (.putfield 47, 3) := by decide +kernel
theorem dX5_begin_11 : decode cX5_begin 11 = .ok (.aload_n 0, 1) := by decide +kernel
theorem dX5_begin_12 : decode cX5_begin 12 = .ok (.iload_n 1, 1) := by decide +kernel
theorem dX5_begin_13 : decode cX5_begin 13 = .ok (.putfield 51, 3) := by decide +kernel
theorem dX5_begin_16 : decode cX5_begin 16 = .ok (.aload_n 0, 1) := by decide +kernel
theorem dX5_begin_17 : decode cX5_begin 17 = .ok (.getfield 43, 3) := by decide +kernel
theorem dX5_begin_20 : decode cX5_begin 20 = .ok (.invokevirtual 78, 3) := by decide +kernel
theorem dX5_begin_23 : decode cX5_begin 23 = .ok (.aload_n 0, 1) := by decide +kernel
theorem dX5_begin_24 : decode cX5_begin 24 = .ok (.invokevirtual 81, 3) := by decide +kernel
theorem dX5_begin_27 : decode cX5_begin 27 = .ok (.aload_n 0, 1) := by decide +kernel
theorem dX5_begin_28 : decode cX5_begin 28 = .ok (.getfield 19, 3) := by decide +kernel
theorem dX5_begin_31 : decode cX5_begin 31 = .ok (.getfield 131, 3) := by decide +kernel
theorem dX5_begin_34 : decode cX5_begin 34 = .ok (.ireturn, 1) := by decide +kernel
set_option maxRecDepth 20000 in
theorem ggX5_begin_X5_placeOf : GoodIn wsX5_begin wsX5_placeOf := goodIn_ca (goodIn_r _ [10, 11, 12, 13, 14, 15, 16, 17, 18, 19, 20, 52, 53, 54, 55, 56, 57, 58, 59, 64, 65, 66] (by decide +kernel) (by decide +kernel)) (goodIn_sub (fun _ h => List.mem_cons_of_mem _ (List.mem_append_right _ h)) (by decide +kernel))
set_option maxRecDepth 20000 in
theorem gX5_begin_X5_placeOf : GoodIn wsX5_begin (wsV RX5 84 RX5 yX5_placeOf wsX5_placeOf) := goodIn_app (goodIn_of _ (by decide +kernel)) ggX5_begin_X5_placeOf
set_option maxRecDepth 20000 in
theorem ggX5_begin_X0_clear : GoodIn wsX5_begin wsX0_clear := goodIn_r _ [25, 26, 67, 68, 69, 70] (by decide +kernel) (by decide +kernel)
set_option maxRecDepth 20000 in
theorem gX5_begin_X0_clear : GoodIn wsX5_begin (wsV RX5 78 RX0 yX0_clear wsX0_clear) := goodIn_app (goodIn_of _ (by decide +kernel)) ggX5_begin_X0_clear
set_option maxRecDepth 20000 in
theorem ggX5_begin_X5_spreadFromStart : GoodIn wsX5_begin wsX5_spreadFromStart := goodIn_r _ [30, 4, 13, 1, 2, 14, 15, 16, 17, 18, 19, 20, 31, 32, 33, 34, 35, 36, 37, 38, 39, 40, 41, 42, 43, 44, 45, 46, 47, 48, 49, 50, 9, 51, 52, 53, 54, 55, 56, 57, 58, 59, 64, 65, 66, 60, 61, 62, 63] (by decide +kernel) (by decide +kernel)
set_option maxRecDepth 20000 in
theorem gX5_begin_X5_spreadFromStart : GoodIn wsX5_begin (wsV RX5 81 RX5 yX5_spreadFromStart wsX5_spreadFromStart) := goodIn_app (goodIn_of _ (by decide +kernel)) ggX5_begin_X5_spreadFromStart
theorem mX5_begin_0 : Cond.fieldLink RX5 47 "Layerways" "begun" "Z" ∈ wsX5_begin := by decide +kernel
theorem iX5_begin_X5 : ∀ w ∈ u_ws RX5 TX5 8, w ∈ wsX5_begin := by decide +kernel
theorem mX5_begin_2 : Cond.fieldLink RX5 51 "Layerways" "startKey" "I" ∈ wsX5_begin := by decide +kernel
theorem mX5_begin_3 : Cond.fieldLink RX5 43 "Layerways" "change" "LLayerways$Change;" ∈ wsX5_begin := by decide +kernel
theorem mX5_begin_4 : Cond.fieldLink RX5 19 "Layerways" "fromStart" "LLayerways$Layers;" ∈ wsX5_begin := by decide +kernel
theorem mX5_begin_5 : Cond.fieldLink RX5 131 "Layerways$Layers" "come" "I" ∈ wsX5_begin := by decide +kernel
theorem iX5_begin_X2 : ∀ w ∈ u_ws RX2 TX2 4, w ∈ wsX5_begin := by decide +kernel
def fX5_begin (gB : Int32) (gK : Int32) (nS : Int32) (nK : (Nat → Int32)) (nN : (Nat → Int32)) (fM : Int32) (fL : (Nat → Int32)) (fC : (Nat → Int32)) (fQ : (Nat → Int32)) (xS : Int32) (p0 : Int32) : Option ((String ⊕ Int32) × Int32 × Int32 × Int32 × (Nat → Int32) × (Nat → Int32) × (Nat → Int32) × Int32) := (fX5_placeOf nS nK p0).bind fun v1 => Sum.elim (fun x2 : String => some (.inl x2, gB, gK, fM, fL, fC, fQ, xS)) (fun r3 : Int32 => fX0_clear.bind fun v4 => (fX5_spreadFromStart 1 p0 nS nK nN fL fC fQ).bind fun v5 => some (.inr v5.1, 1, p0, v5.1, v5.2.1, v5.2.2.1, v5.2.2.2, v4)) v1
set_option maxRecDepth 100000 in
set_option maxHeartbeats 4000000 in
theorem kX5_begin (l : Launch) (K : zK) (aH : Nat) (aN : Nat) (aNk : Nat) (aNn : Nat) (aF : Nat) (aFl : Nat) (aFc : Nat) (aFq : Nat) (aX : Nat) (aXb : Nat) (aXk : Nat) (aXw : Nat) (aA : Nat) (aC : Nat) (aO : Nat)  (gB : Int32) (gK : Int32) (nS : Int32) (nK : (Nat → Int32)) (nN : (Nat → Int32)) (fM : Int32) (fL : (Nat → Int32)) (fC : (Nat → Int32)) (fQ : (Nat → Int32)) (xS : Int32) (xB : (Nat → Int32)) (xK : (Nat → Int32)) (xW : (Nat → Int32)) (p0 : Int32) (r : (String ⊕ Int32) × Int32 × Int32 × Int32 × (Nat → Int32) × (Nat → Int32) × (Nat → Int32) × Int32) (hres : fX5_begin gB gK nS nK nN fM fL fC fQ xS p0 = some r) : zX l K yX5_begin wsX5_begin ({ frames := 7, cells := 8, slots := 48, locals := 109 }) [.ref aH, .int p0] [(aH, .inr (5, [.ref aN, .ref aF, .ref aA, .ref aC, .ref aO, .ref aX, .int gB, .int gK])), (aN, .inr (3, [.ref aNk, .ref aNn, .int nS])), (aNk, .inl (K.2 0, 12, .inl nK)), (aNn, .inl (K.2 0, 12, .inl nN)), (aF, .inr (2, [.ref aFl, .ref aFc, .ref aFq, .int fM])), (aFl, .inl (K.2 0, 12, .inl fL)), (aFc, .inl (K.2 0, 12, .inl fC)), (aFq, .inl (K.2 0, 12, .inl fQ)), (aX, .inr (0, [.ref aXb, .ref aXk, .ref aXw, .int xS])), (aXb, .inl (K.2 0, 12, .inl xB)), (aXk, .inl (K.2 0, 12, .inl xK)), (aXw, .inl (K.2 0, 12, .inl xW))] (zoI r.1) [(aH, .inr (5, [.ref aN, .ref aF, .ref aA, .ref aC, .ref aO, .ref aX, .int r.2.1, .int r.2.2.1])), (aN, .inr (3, [.ref aNk, .ref aNn, .int nS])), (aNk, .inl (K.2 0, 12, .inl nK)), (aNn, .inl (K.2 0, 12, .inl nN)), (aF, .inr (2, [.ref aFl, .ref aFc, .ref aFq, .int r.2.2.2.1])), (aFl, .inl (K.2 0, 12, .inl r.2.2.2.2.1)), (aFc, .inl (K.2 0, 12, .inl r.2.2.2.2.2.1)), (aFq, .inl (K.2 0, 12, .inl r.2.2.2.2.2.2.1)), (aX, .inr (0, [.ref aXb, .ref aXk, .ref aXw, .int r.2.2.2.2.2.2.2])), (aXb, .inl (K.2 0, 12, .inl xB)), (aXk, .inl (K.2 0, 12, .inl xK)), (aXw, .inl (K.2 0, 12, .inl xW))] 8 48 := by
  refine zX.intI (cc := cX5_begin) (maxL := 2) (ret := (some .int)) rfl (by decide) (Nat.le_of_ble_eq_true rfl) rfl ?_
  intro G hGl hG hV hR hT hP
  unfold fX5_begin at hres
  show zj G 0 [(0, .ref aH), (1, .int p0)] [] [(aH, .inr (5, [.ref aN, .ref aF, .ref aA, .ref aC, .ref aO, .ref aX, .int gB, .int gK])), (aN, .inr (3, [.ref aNk, .ref aNn, .int nS])), (aNk, .inl (K.2 0, 12, .inl nK)), (aNn, .inl (K.2 0, 12, .inl nN)), (aF, .inr (2, [.ref aFl, .ref aFc, .ref aFq, .int fM])), (aFl, .inl (K.2 0, 12, .inl fL)), (aFc, .inl (K.2 0, 12, .inl fC)), (aFq, .inl (K.2 0, 12, .inl fQ)), (aX, .inr (0, [.ref aXb, .ref aXk, .ref aXw, .int xS])), (aXb, .inl (K.2 0, 12, .inl xB)), (aXk, .inl (K.2 0, 12, .inl xK)), (aXw, .inl (K.2 0, 12, .inl xW))] 0 0
  refine z_aload_n hG dX5_begin_0 0 rfl ?_
  refine z_iload_n hG dX5_begin_1 1 rfl ?_
  obtain ⟨v1, hv, hres⟩ := z_bind hres
  refine z_callX (As := [.int p0]) (rest := []) (wr := [(aF, .inr (2, [.ref aFl, .ref aFc, .ref aFq, .int fM])), (aFl, .inl (K.2 0, 12, .inl fL)), (aFc, .inl (K.2 0, 12, .inl fC)), (aFq, .inl (K.2 0, 12, .inl fQ)), (aX, .inr (0, [.ref aXb, .ref aXk, .ref aXw, .int xS])), (aXb, .inl (K.2 0, 12, .inl xB)), (aXk, .inl (K.2 0, 12, .inl xK)), (aXw, .inl (K.2 0, 12, .inl xW))]) (ws' := [(aH, .inr (5, [.ref aN, .ref aF, .ref aA, .ref aC, .ref aO, .ref aX, .int gB, .int gK])), (aN, .inr (3, [.ref aNk, .ref aNn, .int nS])), (aNk, .inl (K.2 0, 12, .inl nK)), (aNn, .inl (K.2 0, 12, .inl nN)), (aF, .inr (2, [.ref aFl, .ref aFc, .ref aFq, .int fM])), (aFl, .inl (K.2 0, 12, .inl fL)), (aFc, .inl (K.2 0, 12, .inl fC)), (aFq, .inl (K.2 0, 12, .inl fQ)), (aX, .inr (0, [.ref aXb, .ref aXk, .ref aXw, .int xS])), (aXb, .inl (K.2 0, 12, .inl xB)), (aXk, .inl (K.2 0, 12, .inl xK)), (aXw, .inl (K.2 0, 12, .inl xW))]) (kc' := 1) (ks' := 6) (n := 1) (C := RX5) (ci := 5) hG hV dX5_begin_2 (kX5_placeOf _ K aH aN aNk aNn aF aA aC aO aX gB gK nS nK nN p0 v1 hv) gX5_begin_X5_placeOf rfl rfl rfl ⟨rfl, by decide, by decide, rfl⟩ ⟨by decide, by decide⟩ (Nat.le_of_ble_eq_true rfl) ⟨(Nat.le_of_ble_eq_true rfl), (Nat.le_of_ble_eq_true rfl)⟩ [0, 1, 2, 3] [4, 5, 6, 7, 8, 9, 10, 11] [8, 9, 10, 11, 0, 1, 2, 3, 4, 5, 6, 7] rfl rfl rfl rfl (by decide) rfl rfl rfl rfl rfl 0 rfl rfl rfl rfl (fun o9 ho => ?_) (fun E9 ho => ?_)
  · rcases hv1 : v1 with x2 | r3
    · rw [hv1] at ho
      cases ho
    rw [hv1] at ho
    obtain rfl := Sum.inr.inj ho
    replace hres := z_elimR hv1 hres
    show zj G 5 [(0, .ref aH), (1, .int p0)] [.int r3] [(aH, .inr (5, [.ref aN, .ref aF, .ref aA, .ref aC, .ref aO, .ref aX, .int gB, .int gK])), (aN, .inr (3, [.ref aNk, .ref aNn, .int nS])), (aNk, .inl (K.2 0, 12, .inl nK)), (aNn, .inl (K.2 0, 12, .inl nN)), (aF, .inr (2, [.ref aFl, .ref aFc, .ref aFq, .int fM])), (aFl, .inl (K.2 0, 12, .inl fL)), (aFc, .inl (K.2 0, 12, .inl fC)), (aFq, .inl (K.2 0, 12, .inl fQ)), (aX, .inr (0, [.ref aXb, .ref aXk, .ref aXw, .int xS])), (aXb, .inl (K.2 0, 12, .inl xB)), (aXk, .inl (K.2 0, 12, .inl xK)), (aXw, .inl (K.2 0, 12, .inl xW))] 1 6
    refine z_pop hG dX5_begin_5 rfl ?_
    refine z_aload_n hG dX5_begin_6 0 rfl ?_
    refine z_iconst 1 hG dX5_begin_7 (by decide) ?_
    refine z_put (ci := 5) (C := RX5) (T := TX5) (N := 8) (ws' := [(aH, .inr (5, [.ref aN, .ref aF, .ref aA, .ref aC, .ref aO, .ref aX, .int 1, .int gK])), (aN, .inr (3, [.ref aNk, .ref aNn, .int nS])), (aNk, .inl (K.2 0, 12, .inl nK)), (aNn, .inl (K.2 0, 12, .inl nN)), (aF, .inr (2, [.ref aFl, .ref aFc, .ref aFq, .int fM])), (aFl, .inl (K.2 0, 12, .inl fL)), (aFc, .inl (K.2 0, 12, .inl fC)), (aFq, .inl (K.2 0, 12, .inl fQ)), (aX, .inr (0, [.ref aXb, .ref aXk, .ref aXw, .int xS])), (aXb, .inl (K.2 0, 12, .inl xB)), (aXk, .inl (K.2 0, 12, .inl xK)), (aXw, .inl (K.2 0, 12, .inl xW))]) hG dX5_begin_8 iX5_begin_X5 tyX5_ok nmX5 6 (by decide) mX5_begin_0 rfl rfl rfl rfl rfl rfl 0 rfl (Nat.le_of_ble_eq_true rfl) rfl ?_
    refine z_aload_n hG dX5_begin_11 0 rfl ?_
    refine z_iload_n hG dX5_begin_12 1 rfl ?_
    refine z_put (ci := 5) (C := RX5) (T := TX5) (N := 8) (ws' := [(aH, .inr (5, [.ref aN, .ref aF, .ref aA, .ref aC, .ref aO, .ref aX, .int 1, .int p0])), (aN, .inr (3, [.ref aNk, .ref aNn, .int nS])), (aNk, .inl (K.2 0, 12, .inl nK)), (aNn, .inl (K.2 0, 12, .inl nN)), (aF, .inr (2, [.ref aFl, .ref aFc, .ref aFq, .int fM])), (aFl, .inl (K.2 0, 12, .inl fL)), (aFc, .inl (K.2 0, 12, .inl fC)), (aFq, .inl (K.2 0, 12, .inl fQ)), (aX, .inr (0, [.ref aXb, .ref aXk, .ref aXw, .int xS])), (aXb, .inl (K.2 0, 12, .inl xB)), (aXk, .inl (K.2 0, 12, .inl xK)), (aXw, .inl (K.2 0, 12, .inl xW))]) hG dX5_begin_13 iX5_begin_X5 tyX5_ok nmX5 7 (by decide) mX5_begin_2 rfl rfl rfl rfl rfl rfl 0 rfl (Nat.le_of_ble_eq_true rfl) rfl ?_
    refine z_aload_n hG dX5_begin_16 0 rfl ?_
    refine z_get (ci := 5) (C := RX5) (T := TX5) (N := 8) hG dX5_begin_17 iX5_begin_X5 5 (by decide) mX5_begin_3 rfl rfl 0 rfl rfl ?_
    obtain ⟨v4, hv, hres⟩ := z_bind hres
    refine z_callV (As := []) (rest := []) (wr := [(aH, .inr (5, [.ref aN, .ref aF, .ref aA, .ref aC, .ref aO, .ref aX, .int 1, .int p0])), (aN, .inr (3, [.ref aNk, .ref aNn, .int nS])), (aNk, .inl (K.2 0, 12, .inl nK)), (aNn, .inl (K.2 0, 12, .inl nN)), (aF, .inr (2, [.ref aFl, .ref aFc, .ref aFq, .int fM])), (aFl, .inl (K.2 0, 12, .inl fL)), (aFc, .inl (K.2 0, 12, .inl fC)), (aFq, .inl (K.2 0, 12, .inl fQ))]) (ws' := (fun _ : Unit => [(aH, .inr (5, [.ref aN, .ref aF, .ref aA, .ref aC, .ref aO, .ref aX, .int 1, .int p0])), (aN, .inr (3, [.ref aNk, .ref aNn, .int nS])), (aNk, .inl (K.2 0, 12, .inl nK)), (aNn, .inl (K.2 0, 12, .inl nN)), (aF, .inr (2, [.ref aFl, .ref aFc, .ref aFq, .int fM])), (aFl, .inl (K.2 0, 12, .inl fL)), (aFc, .inl (K.2 0, 12, .inl fC)), (aFq, .inl (K.2 0, 12, .inl fQ)), (aX, .inr (0, [.ref aXb, .ref aXk, .ref aXw, .int v4])), (aXb, .inl (K.2 0, 12, .inl xB)), (aXk, .inl (K.2 0, 12, .inl xK)), (aXw, .inl (K.2 0, 12, .inl xW))])) (stk := (fun _ : Unit => [])) (kc' := 1) (ks' := 6) (n := 0) (C := RX0) (ci := 0) hG dX5_begin_20 (kX0_clear _ K aX aXb aXk aXw xS xB xK xW v4 hv) gX5_begin_X0_clear rfl rfl rfl ⟨rfl, by decide, by decide, rfl⟩ ⟨by decide, by decide⟩ (Nat.le_of_ble_eq_true rfl) ⟨(Nat.le_of_ble_eq_true rfl), (Nat.le_of_ble_eq_true rfl)⟩ [8, 9, 10, 11] [0, 1, 2, 3, 4, 5, 6, 7] [0, 1, 2, 3, 4, 5, 6, 7, 8, 9, 10, 11] rfl rfl rfl rfl (by decide) rfl (fun _ => rfl) (fun _ => rfl) rfl rfl rfl 0 rfl rfl rfl rfl (fun _ => ?_)
    refine z_aload_n hG dX5_begin_23 0 rfl ?_
    obtain ⟨v5, hv, hres⟩ := z_bind hres
    refine z_callV (As := []) (rest := []) (wr := [(aX, .inr (0, [.ref aXb, .ref aXk, .ref aXw, .int v4])), (aXb, .inl (K.2 0, 12, .inl xB)), (aXk, .inl (K.2 0, 12, .inl xK)), (aXw, .inl (K.2 0, 12, .inl xW))]) (ws' := (fun _ : Unit => [(aH, .inr (5, [.ref aN, .ref aF, .ref aA, .ref aC, .ref aO, .ref aX, .int 1, .int p0])), (aN, .inr (3, [.ref aNk, .ref aNn, .int nS])), (aNk, .inl (K.2 0, 12, .inl nK)), (aNn, .inl (K.2 0, 12, .inl nN)), (aF, .inr (2, [.ref aFl, .ref aFc, .ref aFq, .int v5.1])), (aFl, .inl (K.2 0, 12, .inl v5.2.1)), (aFc, .inl (K.2 0, 12, .inl v5.2.2.1)), (aFq, .inl (K.2 0, 12, .inl v5.2.2.2)), (aX, .inr (0, [.ref aXb, .ref aXk, .ref aXw, .int v4])), (aXb, .inl (K.2 0, 12, .inl xB)), (aXk, .inl (K.2 0, 12, .inl xK)), (aXw, .inl (K.2 0, 12, .inl xW))])) (stk := (fun _ : Unit => [])) (kc' := 1) (ks' := 6) (n := 0) (C := RX5) (ci := 5) hG dX5_begin_24 (kX5_spreadFromStart _ K aH aN aNk aNn aF aFl aFc aFq aA aC aO aX 1 p0 nS nK nN fM fL fC fQ v5 hv) gX5_begin_X5_spreadFromStart rfl rfl rfl ⟨rfl, by decide, by decide, rfl⟩ ⟨by decide, by decide⟩ (Nat.le_of_ble_eq_true rfl) ⟨(Nat.le_of_ble_eq_true rfl), (Nat.le_of_ble_eq_true rfl)⟩ [0, 1, 2, 3, 4, 5, 6, 7] [8, 9, 10, 11] [4, 5, 6, 7, 8, 9, 10, 11, 0, 1, 2, 3] rfl rfl rfl rfl (by decide) rfl (fun _ => rfl) (fun _ => rfl) rfl rfl rfl 0 rfl rfl rfl rfl (fun _ => ?_)
    refine z_aload_n hG dX5_begin_27 0 rfl ?_
    refine z_get (ci := 5) (C := RX5) (T := TX5) (N := 8) hG dX5_begin_28 iX5_begin_X5 1 (by decide) mX5_begin_4 rfl rfl 0 rfl rfl ?_
    refine z_get (ci := 2) (C := RX2) (T := TX2) (N := 4) hG dX5_begin_31 iX5_begin_X2 3 (by decide) mX5_begin_5 rfl rfl 4 rfl rfl ?_
    obtain rfl := Option.some.inj hres
    exact (z_wid (Nat.le_of_ble_eq_true rfl) (Nat.le_of_ble_eq_true rfl) (hR _ rfl _ _ dX5_begin_34))
  · rcases hv1 : v1 with x2 | r3
    · rw [hv1] at ho
      obtain rfl := Sum.inl.inj ho
      replace hres := z_elimL hv1 hres
      obtain rfl := Option.some.inj hres
      exact z_xwid (Nat.le_of_ble_eq_true rfl) (Nat.le_of_ble_eq_true rfl) (hP _ rfl _ _)
    rw [hv1] at ho
    cases ho
