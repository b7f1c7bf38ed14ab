theorem dX5_placeOf_0 : decode cX5_placeOf 0 = .ok (.aload_n 0, 1) := by decide +kernel
theorem dX5_placeOf_1 : decode cX5_placeOf 1 = .ok (.getfield 10, 3) := by decide +kernel
theorem dX5_placeOf_4 : decode cX5_placeOf 4 = .ok (.iload_n 1, 1) := by decide +kernel
theorem dX5_placeOf_5 : decode cX5_placeOf 5 = .ok (.invokevirtual 55, 3) := by decide +kernel
theorem dX5_placeOf_8 : decode cX5_placeOf 8 = .ok (.istore_n 2, 1) := by decide +kernel
theorem dX5_placeOf_9 : decode cX5_placeOf 9 = .ok (.iload_n 2, 1) := by decide +kernel
theorem dX5_placeOf_10 : decode cX5_placeOf 10 = .ok (.iconst (-1), 1) := by decide +kernel
theorem dX5_placeOf_11 : decode cX5_placeOf 11 = .ok (.if_icmp .ne 13, 3) := by decide +kernel
theorem dX5_placeOf_14 : decode cX5_placeOf 14 = .ok (.new 114, 3) := by decide +kernel
theorem dX5_placeOf_17 : decode cX5_placeOf 17 = .ok (.dup, 1) := by decide +kernel
theorem dX5_placeOf_18 : decode cX5_placeOf 18 = .ok (.ldc 230, 2) := by decide +kernel
theorem dX5_placeOf_20 : decode cX5_placeOf 20 = .ok (.invokespecial 118, 3) := by decide +kernel
theorem dX5_placeOf_23 : decode cX5_placeOf 23 = .ok (.athrow, 1) := by decide +kernel
theorem dX5_placeOf_24 : decode cX5_placeOf 24 = .ok (.iload_n 2, 1) := by decide +kernel
theorem dX5_placeOf_25 : decode cX5_placeOf 25 = .ok (.ireturn, 1) := by decide +kernel
set_option maxRecDepth 20000 in
theorem ggX5_placeOf_X3_find : GoodIn wsX5_placeOf wsX3_find := goodIn_r _ [8, 9, 10, 19, 20, 21] (by decide +kernel) (by decide +kernel)
set_option maxRecDepth 20000 in
theorem gX5_placeOf_X3_find : GoodIn wsX5_placeOf (wsV RX5 55 RX3 yX3_find wsX3_find) := goodIn_app (goodIn_of _ (by decide +kernel)) ggX5_placeOf_X3_find
theorem mX5_placeOf_0 : Cond.fieldLink RX5 10 "Layerways" "net" "LLayerways$Net;" ∈ wsX5_placeOf := by decide +kernel
theorem iX5_placeOf_X5 : ∀ w ∈ u_ws RX5 TX5 8, w ∈ wsX5_placeOf := by decide +kernel
theorem mX5_placeOf_2 : Cond.classLink RX5 114 "java/util/NoSuchElementException" ∈ wsX5_placeOf := by decide +kernel
theorem mX5_placeOf_3 : Cond.initialized "java/util/NoSuchElementException" ∈ wsX5_placeOf := by decide +kernel
theorem hX5_placeOf_118 : ∀ w ∈ (vx_atS RX5 118 "java/util/NoSuchElementException" ["java/lang/RuntimeException", "java/lang/Exception"]).filter goodWord, w ∈ wsX5_placeOf := fun w h => List.mem_cons_of_mem _ (List.mem_append_right _ h)
def fX5_placeOf (nS : Int32) (nK : (Nat → Int32)) (p0 : Int32) : Option ((String ⊕ Int32)) := (fX3_find nS nK p0).bind fun v1 => if v1 = (-1) then some (.inl "java/util/NoSuchElementException") else some (.inr v1)
set_option maxRecDepth 100000 in
set_option maxHeartbeats 4000000 in
theorem kX5_placeOf (l : Launch) (K : zK) (aH : Nat) (aN : Nat) (aNk : Nat) (aNn : Nat) (aF : Nat) (aA : Nat) (aC : Nat) (aO : Nat) (aX : Nat)  (gB : Int32) (gK : Int32) (nS : Int32) (nK : (Nat → Int32)) (nN : (Nat → Int32)) (p0 : Int32) (r : (String ⊕ Int32)) (hres : fX5_placeOf nS nK p0 = some r) : zX l K yX5_placeOf wsX5_placeOf ({ frames := 6, cells := 1, slots := 6, locals := 82 }) [.ref aH, .int p0] [(aH, .inr (5, [.ref aN, .ref aF, .ref aA, .ref aC, .ref aO, .ref aX, .int gB, .int gK])), (aN, .inr (3, [.ref aNk, .ref aNn, .int nS])), (aNk, .inl (K.2 0, 12, .inl nK)), (aNn, .inl (K.2 0, 12, .inl nN))] (zoI r) [(aH, .inr (5, [.ref aN, .ref aF, .ref aA, .ref aC, .ref aO, .ref aX, .int gB, .int gK])), (aN, .inr (3, [.ref aNk, .ref aNn, .int nS])), (aNk, .inl (K.2 0, 12, .inl nK)), (aNn, .inl (K.2 0, 12, .inl nN))] 1 6 := by
  refine zX.intI (cc := cX5_placeOf) (maxL := 3) (ret := (some .int)) rfl (by decide) (Nat.le_of_ble_eq_true rfl) rfl ?_
  intro G hGl hG hV hR hT hP
  unfold fX5_placeOf at hres
  show zj G 0 [(0, .ref aH), (1, .int p0)] [] [(aH, .inr (5, [.ref aN, .ref aF, .ref aA, .ref aC, .ref aO, .ref aX, .int gB, .int gK])), (aN, .inr (3, [.ref aNk, .ref aNn, .int nS])), (aNk, .inl (K.2 0, 12, .inl nK)), (aNn, .inl (K.2 0, 12, .inl nN))] 0 0
  refine z_aload_n hG dX5_placeOf_0 0 rfl ?_
  refine z_get (ci := 5) (C := RX5) (T := TX5) (N := 8) hG dX5_placeOf_1 iX5_placeOf_X5 0 (by decide) mX5_placeOf_0 rfl rfl 0 rfl rfl ?_
  refine z_iload_n hG dX5_placeOf_4 1 rfl ?_
  obtain ⟨v1, hv, hres⟩ := z_bind hres
  refine z_callV (As := [.int p0]) (rest := []) (wr := [(aH, .inr (5, [.ref aN, .ref aF, .ref aA, .ref aC, .ref aO, .ref aX, .int gB, .int gK]))]) (ws' := (fun _ : Unit => [(aH, .inr (5, [.ref aN, .ref aF, .ref aA, .ref aC, .ref aO, .ref aX, .int gB, .int gK])), (aN, .inr (3, [.ref aNk, .ref aNn, .int nS])), (aNk, .inl (K.2 0, 12, .inl nK)), (aNn, .inl (K.2 0, 12, .inl nN))])) (stk := (fun _ : Unit => [.int v1])) (kc' := 0) (ks' := 0) (n := 1) (C := RX3) (ci := 3) hG dX5_placeOf_5 (kX3_find _ K aN aNk aNn nS nK nN p0 v1 hv) gX5_placeOf_X3_find rfl rfl rfl ⟨rfl, by decide, by decide, rfl⟩ ⟨by decide, by decide⟩ (Nat.le_of_ble_eq_true rfl) ⟨(Nat.le_of_ble_eq_true rfl), (Nat.le_of_ble_eq_true rfl)⟩ [1, 2, 3] [0] [0, 1, 2, 3] rfl rfl rfl rfl (by decide) rfl (fun _ => rfl) (fun _ => rfl) rfl rfl rfl 0 rfl rfl rfl rfl (fun _ => ?_)
  refine z_istore_n (lv' := [(2, .int v1), (0, .ref aH), (1, .int p0)]) hG dX5_placeOf_8 (by decide) rfl ?_
  refine z_iload_n hG dX5_placeOf_9 0 rfl ?_
  refine z_iconst (-1) hG dX5_placeOf_10 (by decide) ?_
  refine z_icmp_ne 24 hG dX5_placeOf_11 (by decide) (fun c => ?_) (fun c => ?_)
  · replace hres := z_ifn c hres
    refine z_iload_n hG dX5_placeOf_24 0 rfl ?_
    obtain rfl := Option.some.inj hres
    exact (z_wid (Nat.le_of_ble_eq_true rfl) (Nat.le_of_ble_eq_true rfl) (hR _ rfl _ _ dX5_placeOf_25))
  · replace hres := z_ifp c hres
    obtain rfl := Option.some.inj hres
    exact z_throw "no such place" hG (hT _ rfl) (by decide) mX5_placeOf_2 mX5_placeOf_3 (by decide) rfl (by decide) hX5_placeOf_118 zng_NoSuchElementException zgd_NoSuchElementException dX5_placeOf_14 dX5_placeOf_17 dX5_placeOf_18 dX5_placeOf_20 dX5_placeOf_23 (by decide) (Nat.le_of_ble_eq_true rfl) (Nat.le_of_ble_eq_true rfl) (Nat.le_of_ble_eq_true rfl) (Nat.le_of_ble_eq_true rfl) (Nat.le_of_ble_eq_true rfl)

theorem dX5_needStart_0 : decode cX5_needStart 0 = .ok (.aload_n 0, 1) := by decide +kernel
theorem dX5_needStart_1 : decode cX5_needStart 1 = .ok (.getfield 47, 3) := by decide +kernel
theorem dX5_needStart_4 : decode cX5_needStart 4 = .ok (.ifCond .ne 13, 3) := by decide +kernel
theorem dX5_needStart_7 : decode cX5_needStart 7 = .ok (.new 69, 3) := by decide +kernel
theorem dX5_needStart_10 : decode cX5_needStart 10 = .ok (.dup, 1) := by decide +kernel
theorem dX5_needStart_11 : decode cX5_needStart 11 = .ok (.ldc 232, 2) := by decide +kernel
theorem dX5_needStart_13 : decode cX5_needStart 13 = .ok (.invokespecial 73, 3) := by decide +kernel
theorem dX5_needStart_16 : decode cX5_needStart 16 = .ok (.athrow, 1) := by decide +kernel
theorem dX5_needStart_17 : decode cX5_needStart 17 = .ok (.return_, 1) := by decide +kernel
theorem mX5_needStart_0 : Cond.fieldLink RX5 47 "Layerways" "begun" "Z" ∈ wsX5_needStart := by decide +kernel
theorem iX5_needStart_X5 : ∀ w ∈ u_ws RX5 TX5 8, w ∈ wsX5_needStart := by decide +kernel
theorem mX5_needStart_2 : Cond.classLink RX5 69 "java/lang/IllegalStateException" ∈ wsX5_needStart := by decide +kernel
theorem mX5_needStart_3 : Cond.initialized "java/lang/IllegalStateException" ∈ wsX5_needStart := by decide +kernel
theorem hX5_needStart_73 : ∀ w ∈ (vx_atS RX5 73 "java/lang/IllegalStateException" ["java/lang/RuntimeException", "java/lang/Exception"]).filter goodWord, w ∈ wsX5_needStart := fun w h => List.mem_cons_of_mem _ (List.mem_append_right _ h)
def fX5_needStart (gB : Int32) : Option ((String ⊕ Unit)) := if gB = 0 then some (.inl "java/lang/IllegalStateException") else some (.inr ())
set_option maxRecDepth 100000 in
set_option maxHeartbeats 4000000 in
theorem kX5_needStart (l : Launch) (K : zK) (aH : Nat) (aN : Nat) (aF : Nat) (aA : Nat) (aC : Nat) (aO : Nat) (aX : Nat)  (gB : Int32) (gK : Int32) (r : (String ⊕ Unit)) (hres : fX5_needStart gB = some r) : zX l K yX5_needStart wsX5_needStart ({ frames := 6, cells := 1, slots := 6, locals := 82 }) [.ref aH] [(aH, .inr (5, [.ref aN, .ref aF, .ref aA, .ref aC, .ref aO, .ref aX, .int gB, .int gK]))] (zoV r) [(aH, .inr (5, [.ref aN, .ref aF, .ref aA, .ref aC, .ref aO, .ref aX, .int gB, .int gK]))] 1 6 := by
  refine zX.intV (cc := cX5_needStart) (maxL := 1) (ret := none) rfl (by decide) (Nat.le_of_ble_eq_true rfl) rfl ?_
  intro G hGl hG hV hR hT hP
  unfold fX5_needStart at hres
  show zj G 0 [(0, .ref aH)] [] [(aH, .inr (5, [.ref aN, .ref aF, .ref aA, .ref aC, .ref aO, .ref aX, .int gB, .int gK]))] 0 0
  refine z_aload_n hG dX5_needStart_0 0 rfl ?_
  refine z_get (ci := 5) (C := RX5) (T := TX5) (N := 8) hG dX5_needStart_1 iX5_needStart_X5 6 (by decide) mX5_needStart_0 rfl rfl 0 rfl rfl ?_
  refine z_if_ne 17 hG dX5_needStart_4 (by decide) (fun c => ?_) (fun c => ?_)
  · replace hres := z_ifn c hres
    obtain rfl := Option.some.inj hres
    exact (z_wid (Nat.le_of_ble_eq_true rfl) (Nat.le_of_ble_eq_true rfl) (hR () rfl _ _ dX5_needStart_17))
  · replace hres := z_ifp c hres
    obtain rfl := Option.some.inj hres
    exact z_throw "there is no start" hG (hT _ rfl) (by decide) mX5_needStart_2 mX5_needStart_3 (by decide) rfl (by decide) hX5_needStart_73 zng_IllegalStateException zgd_IllegalStateException dX5_needStart_7 dX5_needStart_10 dX5_needStart_11 dX5_needStart_13 dX5_needStart_16 (by decide) (Nat.le_of_ble_eq_true rfl) (Nat.le_of_ble_eq_true rfl) (Nat.le_of_ble_eq_true rfl) (Nat.le_of_ble_eq_true rfl) (Nat.le_of_ble_eq_true rfl)

theorem dX5_needWay_0 : decode cX5_needWay 0 = .ok (.aload_n 0, 1) := by decide +kernel
theorem dX5_needWay_1 : decode cX5_needWay 1 = .ok (.getfield 19, 3) := by decide +kernel
theorem dX5_needWay_4 : decode cX5_needWay 4 = .ok (.getfield 137, 3) := by decide +kernel
theorem dX5_needWay_7 : decode cX5_needWay 7 = .ok (.iload_n 1, 1) := by decide +kernel
theorem dX5_needWay_8 : decode cX5_needWay 8 = .ok (.iaload, 1) := by decide +kernel
theorem dX5_needWay_9 : decode cX5_needWay 9 = .ok (.iconst (-1), 1) := by decide +kernel
theorem dX5_needWay_10 : decode cX5_needWay 10 = .ok (.if_icmp .ne 13, 3) := by decide +kernel
theorem dX5_needWay_13 : decode cX5_needWay 13 = .ok (.new 180, 3) := by decide +kernel
theorem dX5_needWay_16 : decode cX5_needWay 16 = .ok (.dup, 1) := by decide +kernel
theorem dX5_needWay_17 : decode cX5_needWay 17 = .ok (.ldc 234, 2) := by decide +kernel
theorem dX5_needWay_19 : decode cX5_needWay 19 = .ok (.invokespecial 184, 3) := by decide +kernel
theorem dX5_needWay_22 : decode cX5_needWay 22 = .ok (.athrow, 1) := by decide +kernel
theorem dX5_needWay_23 : decode cX5_needWay 23 = .ok (.return_, 1) := by decide +kernel
theorem mX5_needWay_0 : Cond.fieldLink RX5 19 "Layerways" "fromStart" "LLayerways$Layers;" ∈ wsX5_needWay := by decide +kernel
theorem iX5_needWay_X5 : ∀ w ∈ u_ws RX5 TX5 8, w ∈ wsX5_needWay := by decide +kernel
theorem mX5_needWay_2 : Cond.fieldLink RX5 137 "Layerways$Layers" "lengths" "[I" ∈ wsX5_needWay := by decide +kernel
theorem iX5_needWay_X2 : ∀ w ∈ u_ws RX2 TX2 4, w ∈ wsX5_needWay := by decide +kernel
theorem mX5_needWay_4 : Cond.classLink RX5 180 "java/lang/UnsupportedOperationException" ∈ wsX5_needWay := by decide +kernel
theorem mX5_needWay_5 : Cond.initialized "java/lang/UnsupportedOperationException" ∈ wsX5_needWay := by decide +kernel
theorem hX5_needWay_184 : ∀ w ∈ (vx_atS RX5 184 "java/lang/UnsupportedOperationException" ["java/lang/RuntimeException", "java/lang/Exception"]).filter goodWord, w ∈ wsX5_needWay := fun w h => List.mem_cons_of_mem _ (List.mem_append_right _ h)
def fX5_needWay (fL : (Nat → Int32)) (p0 : Int32) : Option ((String ⊕ Unit)) := if zin p0 12 then if (fL p0.toNatClampNeg) = (-1) then some (.inl "java/lang/UnsupportedOperationException") else some (.inr ()) else none
set_option maxRecDepth 100000 in
set_option maxHeartbeats 4000000 in
theorem kX5_needWay (l : Launch) (K : zK) (aH : Nat) (aF : Nat) (aFl : Nat) (aFc : Nat) (aFq : Nat) (aN : Nat) (aA : Nat) (aC : Nat) (aO : Nat) (aX : Nat)  (gB : Int32) (gK : Int32) (fM : Int32) (fL : (Nat → Int32)) (fC : (Nat → Int32)) (fQ : (Nat → Int32)) (p0 : Int32) (r : (String ⊕ Unit)) (hres : fX5_needWay fL p0 = some r) : zX l K yX5_needWay wsX5_needWay ({ frames := 6, cells := 1, slots := 6, locals := 82 }) [.ref aH, .int p0] [(aH, .inr (5, [.ref aN, .ref aF, .ref aA, .ref aC, .ref aO, .ref aX, .int gB, .int gK])), (aF, .inr (2, [.ref aFl, .ref aFc, .ref aFq, .int fM])), (aFl, .inl (K.2 0, 12, .inl fL)), (aFc, .inl (K.2 0, 12, .inl fC)), (aFq, .inl (K.2 0, 12, .inl fQ))] (zoV r) [(aH, .inr (5, [.ref aN, .ref aF, .ref aA, .ref aC, .ref aO, .ref aX, .int gB, .int gK])), (aF, .inr (2, [.ref aFl, .ref aFc, .ref aFq, .int fM])), (aFl, .inl (K.2 0, 12, .inl fL)), (aFc, .inl (K.2 0, 12, .inl fC)), (aFq, .inl (K.2 0, 12, .inl fQ))] 1 6 := by
  refine zX.intV (cc := cX5_needWay) (maxL := 2) (ret := none) rfl (by decide) (Nat.le_of_ble_eq_true rfl) rfl ?_
  intro G hGl hG hV hR hT hP
  unfold fX5_needWay at hres
  show zj G 0 [(0, .ref aH), (1, .int p0)] [] [(aH, .inr (5, [.ref aN, .ref aF, .ref aA, .ref aC, .ref aO, .ref aX, .int gB, .int gK])), (aF, .inr (2, [.ref aFl, .ref aFc, .ref aFq, .int fM])), (aFl, .inl (K.2 0, 12, .inl fL)), (aFc, .inl (K.2 0, 12, .inl fC)), (aFq, .inl (K.2 0, 12, .inl fQ))] 0 0
  refine z_aload_n hG dX5_needWay_0 0 rfl ?_
  refine z_get (ci := 5) (C := RX5) (T := TX5) (N := 8) hG dX5_needWay_1 iX5_needWay_X5 1 (by decide) mX5_needWay_0 rfl rfl 0 rfl rfl ?_
  refine z_get (ci := 2) (C := RX2) (T := TX2) (N := 4) hG dX5_needWay_4 iX5_needWay_X2 0 (by decide) mX5_needWay_2 rfl rfl 1 rfl rfl ?_
  refine z_iload_n hG dX5_needWay_7 1 rfl ?_
  obtain ⟨hg, hres⟩ := z_guard hres
  refine z_iald hG dX5_needWay_8 2 rfl hg ?_
  refine z_iconst (-1) hG dX5_needWay_9 (by decide) ?_
  refine z_icmp_ne 23 hG dX5_needWay_10 (by decide) (fun c => ?_) (fun c => ?_)
  · replace hres := z_ifn c hres
    obtain rfl := Option.some.inj hres
    exact (z_wid (Nat.le_of_ble_eq_true rfl) (Nat.le_of_ble_eq_true rfl) (hR () rfl _ _ dX5_needWay_23))
  · replace hres := z_ifp c hres
    obtain rfl := Option.some.inj hres
    exact z_throw "no way leads there" hG (hT _ rfl) (by decide) mX5_needWay_4 mX5_needWay_5 (by decide) rfl (by decide) hX5_needWay_184 zng_UnsupportedOperationException zgd_UnsupportedOperationException dX5_needWay_13 dX5_needWay_16 dX5_needWay_17 dX5_needWay_19 dX5_needWay_22 (by decide) (Nat.le_of_ble_eq_true rfl) (Nat.le_of_ble_eq_true rfl) (Nat.le_of_ble_eq_true rfl) (Nat.le_of_ble_eq_true rfl) (Nat.le_of_ble_eq_true rfl)

theorem dX5_findOddRing_0 : decode cX5_findOddRing 0 = .ok (.aload_n 0, 1) := by decide +kernel
theorem dX5_findOddRing_1 : decode cX5_findOddRing 1 = .ok (.getfield 29, 3) := by decide +kernel
theorem dX5_findOddRing_4 : decode cX5_findOddRing 4 = .ok (.aload_n 0, 1) := by decide +kernel
theorem dX5_findOddRing_5 : decode cX5_findOddRing 5 = .ok (.getfield 10, 3) := by decide +kernel
theorem dX5_findOddRing_8 : decode cX5_findOddRing 8 = .ok (.aload_n 0, 1) := by decide +kernel
theorem dX5_findOddRing_9 : decode cX5_findOddRing 9 = .ok (.getfield 23, 3) := by decide +kernel
theorem dX5_findOddRing_12 : decode cX5_findOddRing 12 = .ok (.invokevirtual 171, 3) := by decide +kernel
theorem dX5_findOddRing_15 : decode cX5_findOddRing 15 = .ok (.aload_n 0, 1) := by decide +kernel
theorem dX5_findOddRing_16 : decode cX5_findOddRing 16 = .ok (.getfield 29, 3) := by decide +kernel
theorem dX5_findOddRing_19 : decode cX5_findOddRing 19 = .ok (.getfield 177, 3) := by decide +kernel
theorem dX5_findOddRing_22 : decode cX5_findOddRing 22 = .ok (.ifCond .eq 13, 3) := by decide +kernel
theorem dX5_findOddRing_25 : decode cX5_findOddRing 25 = .ok (.new 180, 3) := by decide +kernel
theorem dX5_findOddRing_28 : decode cX5_findOddRing 28 = .ok (.dup, 1) := by decide +kernel
theorem dX5_findOddRing_29 : decode cX5_findOddRing 29 = .ok (.ldc 236, 2) := by decide +kernel
theorem dX5_findOddRing_31 : decode cX5_findOddRing 31 = .ok (.invokespecial 184, 3) := by decide +kernel
theorem dX5_findOddRing_34 : decode cX5_findOddRing 34 = .ok (.athrow, 1) := by decide +kernel
theorem dX5_findOddRing_35 : decode cX5_findOddRing 35 = .ok (.aload_n 0, 1) := by decide +kernel
theorem dX5_findOddRing_36 : decode cX5_findOddRing 36 = .ok (.getfield 36, 3) := by decide +kernel
theorem dX5_findOddRing_39 : decode cX5_findOddRing 39 = .ok (.aload_n 0, 1) := by decide +kernel
theorem dX5_findOddRing_40 : decode cX5_findOddRing 40 = .ok (.getfield 10, 3) := by decide +kernel
theorem dX5_findOddRing_43 : decode cX5_findOddRing 43 = .ok (.invokevirtual 217, 3) := by decide +kernel
theorem dX5_findOddRing_46 : decode cX5_findOddRing 46 = .ok (.return_, 1) := by decide +kernel
set_option maxRecDepth 20000 in
theorem ggX5_findOddRing_X1_paint : GoodIn wsX5_findOddRing wsX1_paint := goodIn_r _ [12, 13, 14, 15, 16, 17, 18, 19, 20, 21, 22, 23, 24, 25, 26, 27, 28, 29, 30, 31, 32, 33, 34, 35, 36, 37, 38, 39, 40, 41, 42, 11, 43, 44, 45, 46, 47, 48, 49, 82, 83, 84, 85, 86, 87, 88, 89, 90, 91] (by decide +kernel) (by decide +kernel)
set_option maxRecDepth 20000 in
theorem gX5_findOddRing_X1_paint : GoodIn wsX5_findOddRing (wsV RX5 171 RX1 yX1_paint wsX1_paint) := goodIn_app (goodIn_of _ (by decide +kernel)) ggX5_findOddRing_X1_paint
set_option maxRecDepth 20000 in
theorem ggX5_findOddRing_X4_find : GoodIn wsX5_findOddRing wsX4_find := goodIn_r _ [54, 55, 56, 57, 58, 59, 60, 53, 61, 62, 63, 64, 65, 37, 38, 39, 66, 67, 68, 69, 70, 71, 72, 73, 92, 93, 94, 85, 86, 87] (by decide +kernel) (by decide +kernel)
set_option maxRecDepth 20000 in
theorem gX5_findOddRing_X4_find : GoodIn wsX5_findOddRing (wsV RX5 217 RX4 yX4_find wsX4_find) := goodIn_app (goodIn_of _ (by decide +kernel)) ggX5_findOddRing_X4_find
theorem mX5_findOddRing_0 : Cond.fieldLink RX5 29 "Layerways" "colours" "LLayerways$Colours;" ∈ wsX5_findOddRing := by decide +kernel
theorem iX5_findOddRing_X5 : ∀ w ∈ u_ws RX5 TX5 8, w ∈ wsX5_findOddRing := by decide +kernel
theorem mX5_findOddRing_2 : Cond.fieldLink RX5 10 "Layerways" "net" "LLayerways$Net;" ∈ wsX5_findOddRing := by decide +kernel
theorem mX5_findOddRing_3 : Cond.fieldLink RX5 23 "Layerways" "aside" "LLayerways$Layers;" ∈ wsX5_findOddRing := by decide +kernel
theorem mX5_findOddRing_4 : Cond.fieldLink RX5 177 "Layerways$Colours" "two" "Z" ∈ wsX5_findOddRing := by decide +kernel
theorem iX5_findOddRing_X1 : ∀ w ∈ u_ws RX1 TX1 3, w ∈ wsX5_findOddRing := by decide +kernel
theorem mX5_findOddRing_6 : Cond.fieldLink RX5 36 "Layerways" "oddRing" "LLayerways$OddRing;" ∈ wsX5_findOddRing := by decide +kernel
theorem mX5_findOddRing_7 : Cond.classLink RX5 180 "java/lang/UnsupportedOperationException" ∈ wsX5_findOddRing := by decide +kernel
theorem mX5_findOddRing_8 : Cond.initialized "java/lang/UnsupportedOperationException" ∈ wsX5_findOddRing := by decide +kernel
theorem hX5_findOddRing_184 : ∀ w ∈ (vx_atS RX5 184 "java/lang/UnsupportedOperationException" ["java/lang/RuntimeException", "java/lang/Exception"]).filter goodWord, w ∈ wsX5_findOddRing := fun w h => List.mem_cons_of_mem _ (List.mem_append_right _ h)
def fX5_findOddRing (nS : Int32) (nN : (Nat → Int32)) (wM : Int32) (wL : (Nat → Int32)) (wC : (Nat → Int32)) (wQ : (Nat → Int32)) (cT : (Nat → Int32)) (oS : Int32) (oR : (Nat → Int32)) (oX : (Nat → Int32)) : Option ((String ⊕ Unit) × Int32 × (Nat → Int32) × (Nat → Int32) × (Nat → Int32) × Int32 × Int32 × (Nat → Int32) × Int32 × (Nat → Int32) × (Nat → Int32)) := (fX1_paint cT nS nN wM wL wC wQ).bind fun v1 => if v1.2.1 = 0 then (fX4_find oR oX nS nN).bind fun v2 => some (.inr (), v1.2.2.2.1, v1.2.2.2.2.1, v1.2.2.2.2.2.1, v1.2.2.2.2.2.2, v1.1, v1.2.1, v1.2.2.1, v2.1, v2.2.1, v2.2.2) else some (.inl "java/lang/UnsupportedOperationException", v1.2.2.2.1, v1.2.2.2.2.1, v1.2.2.2.2.2.1, v1.2.2.2.2.2.2, v1.1, v1.2.1, v1.2.2.1, oS, oR, oX)
set_option maxRecDepth 100000 in
set_option maxHeartbeats 4000000 in
theorem kX5_findOddRing (l : Launch) (K : zK) (aH : Nat) (aN : Nat) (aNk : Nat) (aNn : Nat) (aA : Nat) (aAl : Nat) (aAc : Nat) (aAq : Nat) (aC : Nat) (aCt : Nat) (aO : Nat) (aOr : Nat) (aOx : Nat) (aF : Nat) (aX : Nat)  (gB : Int32) (gK : Int32) (nS : Int32) (nK : (Nat → Int32)) (nN : (Nat → Int32)) (wM : Int32) (wL : (Nat → Int32)) (wC : (Nat → Int32)) (wQ : (Nat → Int32)) (cP : Int32) (cW : Int32) (cT : (Nat → Int32)) (oS : Int32) (oR : (Nat → Int32)) (oX : (Nat → Int32)) (r : (String ⊕ Unit) × Int32 × (Nat → Int32) × (Nat → Int32) × (Nat → Int32) × Int32 × Int32 × (Nat → Int32) × Int32 × (Nat → Int32) × (Nat → Int32)) (hres : fX5_findOddRing nS nN wM wL wC wQ cT oS oR oX = some r) : zX l K yX5_findOddRing wsX5_findOddRing ({ frames := 6, cells := 1, slots := 6, locals := 112 }) [.ref aH] [(aH, .inr (5, [.ref aN, .ref aF, .ref aA, .ref aC, .ref aO, .ref aX, .int gB, .int gK])), (aN, .inr (3, [.ref aNk, .ref aNn, .int nS])), (aNk, .inl (K.2 0, 12, .inl nK)), (aNn, .inl (K.2 0, 12, .inl nN)), (aA, .inr (2, [.ref aAl, .ref aAc, .ref aAq, .int wM])), (aAl, .inl (K.2 0, 12, .inl wL)), (aAc, .inl (K.2 0, 12, .inl wC)), (aAq, .inl (K.2 0, 12, .inl wQ)), (aC, .inr (1, [.ref aCt, .int cP, .int cW])), (aCt, .inl (K.2 0, 12, .inl cT)), (aO, .inr (4, [.ref aOr, .ref aOx, .int oS])), (aOr, .inl (K.2 0, 12, .inl oR)), (aOx, .inl (K.2 0, 13, .inl oX))] (zoV r.1) [(aH, .inr (5, [.ref aN, .ref aF, .ref aA, .ref aC, .ref aO, .ref aX, .int gB, .int gK])), (aN, .inr (3, [.ref aNk, .ref aNn, .int nS])), (aNk, .inl (K.2 0, 12, .inl nK)), (aNn, .inl (K.2 0, 12, .inl nN)), (aA, .inr (2, [.ref aAl, .ref aAc, .ref aAq, .int r.2.1])), (aAl, .inl (K.2 0, 12, .inl r.2.2.1)), (aAc, .inl (K.2 0, 12, .inl r.2.2.2.1)), (aAq, .inl (K.2 0, 12, .inl r.2.2.2.2.1)), (aC, .inr (1, [.ref aCt, .int r.2.2.2.2.2.1, .int r.2.2.2.2.2.2.1])), (aCt, .inl (K.2 0, 12, .inl r.2.2.2.2.2.2.2.1)), (aO, .inr (4, [.ref aOr, .ref aOx, .int r.2.2.2.2.2.2.2.2.1])), (aOr, .inl (K.2 0, 12, .inl r.2.2.2.2.2.2.2.2.2.1)), (aOx, .inl (K.2 0, 13, .inl r.2.2.2.2.2.2.2.2.2.2))] 1 6 := by
  refine zX.intV (cc := cX5_findOddRing) (maxL := 1) (ret := none) rfl (by decide) (Nat.le_of_ble_eq_true rfl) rfl ?_
  intro G hGl hG hV hR hT hP
  unfold fX5_findOddRing at hres
  show zj G 0 [(0, .ref aH)] [] [(aH, .inr (5, [.ref aN, .ref aF, .ref aA, .ref aC, .ref aO, .ref aX, .int gB, .int gK])), (aN, .inr (3, [.ref aNk, .ref aNn, .int nS])), (aNk, .inl (K.2 0, 12, .inl nK)), (aNn, .inl (K.2 0, 12, .inl nN)), (aA, .inr (2, [.ref aAl, .ref aAc, .ref aAq, .int wM])), (aAl, .inl (K.2 0, 12, .inl wL)), (aAc, .inl (K.2 0, 12, .inl wC)), (aAq, .inl (K.2 0, 12, .inl wQ)), (aC, .inr (1, [.ref aCt, .int cP, .int cW])), (aCt, .inl (K.2 0, 12, .inl cT)), (aO, .inr (4, [.ref aOr, .ref aOx, .int oS])), (aOr, .inl (K.2 0, 12, .inl oR)), (aOx, .inl (K.2 0, 13, .inl oX))] 0 0
  refine z_aload_n hG dX5_findOddRing_0 0 rfl ?_
  refine z_get (ci := 5) (C := RX5) (T := TX5) (N := 8) hG dX5_findOddRing_1 iX5_findOddRing_X5 3 (by decide) mX5_findOddRing_0 rfl rfl 0 rfl rfl ?_
  refine z_aload_n hG dX5_findOddRing_4 0 rfl ?_
  refine z_get (ci := 5) (C := RX5) (T := TX5) (N := 8) hG dX5_findOddRing_5 iX5_findOddRing_X5 0 (by decide) mX5_findOddRing_2 rfl rfl 0 rfl rfl ?_
  refine z_aload_n hG dX5_findOddRing_8 0 rfl ?_
  refine z_get (ci := 5) (C := RX5) (T := TX5) (N := 8) hG dX5_findOddRing_9 iX5_findOddRing_X5 2 (by decide) mX5_findOddRing_3 rfl rfl 0 rfl rfl ?_
  obtain ⟨v1, hv, hres⟩ := z_bind hres
  refine z_callV (As := [.ref aN, .ref aA]) (rest := []) (wr := [(aH, .inr (5, [.ref aN, .ref aF, .ref aA, .ref aC, .ref aO, .ref aX, .int gB, .int gK])), (aO, .inr (4, [.ref aOr, .ref aOx, .int oS])), (aOr, .inl (K.2 0, 12, .inl oR)), (aOx, .inl (K.2 0, 13, .inl oX))]) (ws' := (fun _ : Unit => [(aH, .inr (5, [.ref aN, .ref aF, .ref aA, .ref aC, .ref aO, .ref aX, .int gB, .int gK])), (aN, .inr (3, [.ref aNk, .ref aNn, .int nS])), (aNk, .inl (K.2 0, 12, .inl nK)), (aNn, .inl (K.2 0, 12, .inl nN)), (aA, .inr (2, [.ref aAl, .ref aAc, .ref aAq, .int v1.2.2.2.1])), (aAl, .inl (K.2 0, 12, .inl v1.2.2.2.2.1)), (aAc, .inl (K.2 0, 12, .inl v1.2.2.2.2.2.1)), (aAq, .inl (K.2 0, 12, .inl v1.2.2.2.2.2.2)), (aC, .inr (1, [.ref aCt, .int v1.1, .int v1.2.1])), (aCt, .inl (K.2 0, 12, .inl v1.2.2.1)), (aO, .inr (4, [.ref aOr, .ref aOx, .int oS])), (aOr, .inl (K.2 0, 12, .inl oR)), (aOx, .inl (K.2 0, 13, .inl oX))])) (stk := (fun _ : Unit => [])) (kc' := 0) (ks' := 0) (n := 2) (C := RX1) (ci := 1) hG dX5_findOddRing_12 (kX1_paint _ K aC aCt aN aNk aNn aA aAl aAc aAq cP cW cT nS nK nN wM wL wC wQ v1 hv) gX5_findOddRing_X1_paint rfl rfl rfl ⟨rfl, by decide, by decide, rfl⟩ ⟨by decide, by decide⟩ (Nat.le_of_ble_eq_true rfl) ⟨(Nat.le_of_ble_eq_true rfl), (Nat.le_of_ble_eq_true rfl)⟩ [8, 9, 1, 2, 3, 4, 5, 6, 7] [0, 10, 11, 12] [0, 6, 7, 8, 9, 10, 11, 12, 4, 5, 1, 2, 3] rfl rfl rfl rfl (by decide) rfl (fun _ => rfl) (fun _ => rfl) rfl rfl rfl 0 rfl rfl rfl rfl (fun _ => ?_)
  refine z_aload_n hG dX5_findOddRing_15 0 rfl ?_
  refine z_get (ci := 5) (C := RX5) (T := TX5) (N := 8) hG dX5_findOddRing_16 iX5_findOddRing_X5 3 (by decide) mX5_findOddRing_0 rfl rfl 0 rfl rfl ?_
  refine z_get (ci := 1) (C := RX1) (T := TX1) (N := 3) hG dX5_findOddRing_19 iX5_findOddRing_X1 2 (by decide) mX5_findOddRing_4 rfl rfl 8 rfl rfl ?_
  refine z_if_eq 35 hG dX5_findOddRing_22 (by decide) (fun c => ?_) (fun c => ?_)
  · replace hres := z_ifp c hres
    refine z_aload_n hG dX5_findOddRing_35 0 rfl ?_
    refine z_get (ci := 5) (C := RX5) (T := TX5) (N := 8) hG dX5_findOddRing_36 iX5_findOddRing_X5 4 (by decide) mX5_findOddRing_6 rfl rfl 0 rfl rfl ?_
    refine z_aload_n hG dX5_findOddRing_39 0 rfl ?_
    refine z_get (ci := 5) (C := RX5) (T := TX5) (N := 8) hG dX5_findOddRing_40 iX5_findOddRing_X5 0 (by decide) mX5_findOddRing_2 rfl rfl 0 rfl rfl ?_
    obtain ⟨v2, hv, hres⟩ := z_bind hres
    refine z_callV (As := [.ref aN]) (rest := []) (wr := [(aH, .inr (5, [.ref aN, .ref aF, .ref aA, .ref aC, .ref aO, .ref aX, .int gB, .int gK])), (aA, .inr (2, [.ref aAl, .ref aAc, .ref aAq, .int v1.2.2.2.1])), (aAl, .inl (K.2 0, 12, .inl v1.2.2.2.2.1)), (aAc, .inl (K.2 0, 12, .inl v1.2.2.2.2.2.1)), (aAq, .inl (K.2 0, 12, .inl v1.2.2.2.2.2.2)), (aC, .inr (1, [.ref aCt, .int v1.1, .int v1.2.1])), (aCt, .inl (K.2 0, 12, .inl v1.2.2.1))]) (ws' := (fun _ : Unit => [(aH, .inr (5, [.ref aN, .ref aF, .ref aA, .ref aC, .ref aO, .ref aX, .int gB, .int gK])), (aN, .inr (3, [.ref aNk, .ref aNn, .int nS])), (aNk, .inl (K.2 0, 12, .inl nK)), (aNn, .inl (K.2 0, 12, .inl nN)), (aA, .inr (2, [.ref aAl, .ref aAc, .ref aAq, .int v1.2.2.2.1])), (aAl, .inl (K.2 0, 12, .inl v1.2.2.2.2.1)), (aAc, .inl (K.2 0, 12, .inl v1.2.2.2.2.2.1)), (aAq, .inl (K.2 0, 12, .inl v1.2.2.2.2.2.2)), (aC, .inr (1, [.ref aCt, .int v1.1, .int v1.2.1])), (aCt, .inl (K.2 0, 12, .inl v1.2.2.1)), (aO, .inr (4, [.ref aOr, .ref aOx, .int v2.1])), (aOr, .inl (K.2 0, 12, .inl v2.2.1)), (aOx, .inl (K.2 0, 13, .inl v2.2.2))])) (stk := (fun _ : Unit => [])) (kc' := 0) (ks' := 0) (n := 1) (C := RX4) (ci := 4) hG dX5_findOddRing_43 (kX4_find _ K aO aOr aOx aN aNk aNn oS oR oX nS nK nN v2 hv) gX5_findOddRing_X4_find rfl rfl rfl ⟨rfl, by decide, by decide, rfl⟩ ⟨by decide, by decide⟩ (Nat.le_of_ble_eq_true rfl) ⟨(Nat.le_of_ble_eq_true rfl), (Nat.le_of_ble_eq_true rfl)⟩ [10, 11, 12, 1, 2, 3] [0, 4, 5, 6, 7, 8, 9] [0, 10, 11, 12, 1, 2, 3, 4, 5, 6, 7, 8, 9] rfl rfl rfl rfl (by decide) rfl (fun _ => rfl) (fun _ => rfl) rfl rfl rfl 0 rfl rfl rfl rfl (fun _ => ?_)
    obtain rfl := Option.some.inj hres
    exact (z_wid (Nat.le_of_ble_eq_true rfl) (Nat.le_of_ble_eq_true rfl) (hR () rfl _ _ dX5_findOddRing_46))
  · replace hres := z_ifn c hres
    obtain rfl := Option.some.inj hres
    exact z_throw "the net has two colours" hG (hT _ rfl) (by decide) mX5_findOddRing_7 mX5_findOddRing_8 (by decide) rfl (by decide) hX5_findOddRing_184 zng_UnsupportedOperationException zgd_UnsupportedOperationException dX5_findOddRing_25 dX5_findOddRing_28 dX5_findOddRing_29 dX5_findOddRing_31 dX5_findOddRing_34 (by decide) (Nat.le_of_ble_eq_true rfl) (Nat.le_of_ble_eq_true rfl) (Nat.le_of_ble_eq_true rfl) (Nat.le_of_ble_eq_true rfl) (Nat.le_of_ble_eq_true rfl)

theorem dX5_keyAt_0 : decode cX5_keyAt 0 = .ok (.iload_n 1, 1) := by decide +kernel
theorem dX5_keyAt_1 : decode cX5_keyAt 1 = .ok (.ifCond .lt 14, 3) := by decide +kernel
theorem dX5_keyAt_4 : decode cX5_keyAt 4 = .ok (.iload_n 1, 1) := by decide +kernel
theorem dX5_keyAt_5 : decode cX5_keyAt 5 = .ok (.aload_n 0, 1) := by decide +kernel
theorem dX5_keyAt_6 : decode cX5_keyAt 6 = .ok (.getfield 10, 3) := by decide +kernel
theorem dX5_keyAt_9 : decode cX5_keyAt 9 = .ok (.getfield 66, 3) := by decide +kernel
theorem dX5_keyAt_12 : decode cX5_keyAt 12 = .ok (.if_icmp .lt 13, 3) := by decide +kernel
theorem dX5_keyAt_15 : decode cX5_keyAt 15 = .ok (.new 122, 3) := by decide +kernel
theorem dX5_keyAt_18 : decode cX5_keyAt 18 = .ok (.dup, 1) := by decide +kernel
theorem dX5_keyAt_19 : decode cX5_keyAt 19 = .ok (.ldc 124, 2) := by decide +kernel
theorem dX5_keyAt_21 : decode cX5_keyAt 21 = .ok (.invokespecial 126, 3) := by decide +kernel
theorem dX5_keyAt_24 : decode cX5_keyAt 24 = .ok (.athrow, 1) := by decide +kernel
theorem dX5_keyAt_25 : decode cX5_keyAt 25 = .ok (.aload_n 0, 1) := by decide +kernel
theorem dX5_keyAt_26 : decode cX5_keyAt 26 = .ok (.getfield 10, 3) := by decide +kernel
theorem dX5_keyAt_29 : decode cX5_keyAt 29 = .ok (.getfield 127, 3) := by decide +kernel
theorem dX5_keyAt_32 : decode cX5_keyAt 32 = .ok (.iload_n 1, 1) := by decide +kernel
theorem dX5_keyAt_33 : decode cX5_keyAt 33 = .ok (.iaload, 1) := by decide +kernel
theorem dX5_keyAt_34 : decode cX5_keyAt 34 = .ok (.ireturn, 1) := by decide +kernel
theorem mX5_keyAt_0 : Cond.classLink RX5 122 "java/lang/IndexOutOfBoundsException" ∈ wsX5_keyAt := by decide +kernel
theorem mX5_keyAt_1 : Cond.initialized "java/lang/IndexOutOfBoundsException" ∈ wsX5_keyAt := by decide +kernel
theorem hX5_keyAt_126 : ∀ w ∈ (vx_atS RX5 126 "java/lang/IndexOutOfBoundsException" ["java/lang/RuntimeException", "java/lang/Exception"]).filter goodWord, w ∈ wsX5_keyAt := fun w h => List.mem_cons_of_mem _ (List.mem_append_right _ h)
theorem mX5_keyAt_3 : Cond.fieldLink RX5 10 "Layerways" "net" "LLayerways$Net;" ∈ wsX5_keyAt := by decide +kernel
theorem iX5_keyAt_X5 : ∀ w ∈ u_ws RX5 TX5 8, w ∈ wsX5_keyAt := by decide +kernel
theorem mX5_keyAt_5 : Cond.fieldLink RX5 66 "Layerways$Net" "size" "I" ∈ wsX5_keyAt := by decide +kernel
theorem iX5_keyAt_X3 : ∀ w ∈ u_ws RX3 TX3 3, w ∈ wsX5_keyAt := by decide +kernel
theorem mX5_keyAt_7 : Cond.fieldLink RX5 127 "Layerways$Net" "keys" "[I" ∈ wsX5_keyAt := by decide +kernel
def fX5_keyAt (nS : Int32) (nK : (Nat → Int32)) (p0 : Int32) : Option ((String ⊕ Int32)) := if p0 < 0 then some (.inl "java/lang/IndexOutOfBoundsException") else if p0 < nS then if zin p0 12 then some (.inr (nK p0.toNatClampNeg)) else none else some (.inl "java/lang/IndexOutOfBoundsException")
set_option maxRecDepth 100000 in
set_option maxHeartbeats 4000000 in
theorem kX5_keyAt (l : Launch) (K : zK) (aH : Nat) (aN : Nat) (aNk : Nat) (aNn : Nat) (aF : Nat) (aA : Nat) (aC : Nat) (aO : Nat) (aX : Nat)  (gB : Int32) (gK : Int32) (nS : Int32) (nK : (Nat → Int32)) (nN : (Nat → Int32)) (p0 : Int32) (r : (String ⊕ Int32)) (hres : fX5_keyAt nS nK p0 = some r) : zX l K yX5_keyAt wsX5_keyAt ({ frames := 6, cells := 8, slots := 48, locals := 82 }) [.ref aH, .int p0] [(aH, .inr (5, [.ref aN, .ref aF, .ref aA, .ref aC, .ref aO, .ref aX, .int gB, .int gK])), (aN, .inr (3, [.ref aNk, .ref aNn, .int nS])), (aNk, .inl (K.2 0, 12, .inl nK)), (aNn, .inl (K.2 0, 12, .inl nN))] (zoI r) [(aH, .inr (5, [.ref aN, .ref aF, .ref aA, .ref aC, .ref aO, .ref aX, .int gB, .int gK])), (aN, .inr (3, [.ref aNk, .ref aNn, .int nS])), (aNk, .inl (K.2 0, 12, .inl nK)), (aNn, .inl (K.2 0, 12, .inl nN))] 8 48 := by
  refine zX.intI (cc := cX5_keyAt) (maxL := 2) (ret := (some .int)) rfl (by decide) (Nat.le_of_ble_eq_true rfl) rfl ?_
  intro G hGl hG hV hR hT hP
  unfold fX5_keyAt at hres
  show zj G 0 [(0, .ref aH), (1, .int p0)] [] [(aH, .inr (5, [.ref aN, .ref aF, .ref aA, .ref aC, .ref aO, .ref aX, .int gB, .int gK])), (aN, .inr (3, [.ref aNk, .ref aNn, .int nS])), (aNk, .inl (K.2 0, 12, .inl nK)), (aNn, .inl (K.2 0, 12, .inl nN))] 0 0
  refine z_iload_n hG dX5_keyAt_0 1 rfl ?_
  refine z_if_lt 15 hG dX5_keyAt_1 (by decide) (fun c => ?_) (fun c => ?_)
  · replace hres := z_ifp c hres
    obtain rfl := Option.some.inj hres
    exact z_throw "no such key" hG (hT _ rfl) (by decide) mX5_keyAt_0 mX5_keyAt_1 (by decide) rfl (by decide) hX5_keyAt_126 zng_IndexOutOfBoundsException zgd_IndexOutOfBoundsException dX5_keyAt_15 dX5_keyAt_18 dX5_keyAt_19 dX5_keyAt_21 dX5_keyAt_24 (by decide) (Nat.le_of_ble_eq_true rfl) (Nat.le_of_ble_eq_true rfl) (Nat.le_of_ble_eq_true rfl) (Nat.le_of_ble_eq_true rfl) (Nat.le_of_ble_eq_true rfl)
  · replace hres := z_ifn c hres
    refine z_iload_n hG dX5_keyAt_4 1 rfl ?_
    refine z_aload_n hG dX5_keyAt_5 0 rfl ?_
    refine z_get (ci := 5) (C := RX5) (T := TX5) (N := 8) hG dX5_keyAt_6 iX5_keyAt_X5 0 (by decide) mX5_keyAt_3 rfl rfl 0 rfl rfl ?_
    refine z_get (ci := 3) (C := RX3) (T := TX3) (N := 3) hG dX5_keyAt_9 iX5_keyAt_X3 2 (by decide) mX5_keyAt_5 rfl rfl 1 rfl rfl ?_
    refine z_icmp_lt 25 hG dX5_keyAt_12 (by decide) (fun c => ?_) (fun c => ?_)
    · replace hres := z_ifp c hres
      refine z_aload_n hG dX5_keyAt_25 0 rfl ?_
      refine z_get (ci := 5) (C := RX5) (T := TX5) (N := 8) hG dX5_keyAt_26 iX5_keyAt_X5 0 (by decide) mX5_keyAt_3 rfl rfl 0 rfl rfl ?_
      refine z_get (ci := 3) (C := RX3) (T := TX3) (N := 3) hG dX5_keyAt_29 iX5_keyAt_X3 0 (by decide) mX5_keyAt_7 rfl rfl 1 rfl rfl ?_
      refine z_iload_n hG dX5_keyAt_32 1 rfl ?_
      obtain ⟨hg, hres⟩ := z_guard hres
      refine z_iald hG dX5_keyAt_33 2 rfl hg ?_
      obtain rfl := Option.some.inj hres
      exact (z_wid (Nat.le_of_ble_eq_true rfl) (Nat.le_of_ble_eq_true rfl) (hR _ rfl _ _ dX5_keyAt_34))
    · replace hres := z_ifn c hres
      obtain rfl := Option.some.inj hres
      exact z_throw "no such key" hG (hT _ rfl) (by decide) mX5_keyAt_0 mX5_keyAt_1 (by decide) rfl (by decide) hX5_keyAt_126 zng_IndexOutOfBoundsException zgd_IndexOutOfBoundsException dX5_keyAt_15 dX5_keyAt_18 dX5_keyAt_19 dX5_keyAt_21 dX5_keyAt_24 (by decide) (Nat.le_of_ble_eq_true rfl) (Nat.le_of_ble_eq_true rfl) (Nat.le_of_ble_eq_true rfl) (Nat.le_of_ble_eq_true rfl) (Nat.le_of_ble_eq_true rfl)

theorem dX5_changedAt_0 : decode cX5_changedAt 0 = .ok (.iload_n 1, 1) := by decide +kernel
theorem dX5_changedAt_1 : decode cX5_changedAt 1 = .ok (.ifCond .lt 14, 3) := by decide +kernel
theorem dX5_changedAt_4 : decode cX5_changedAt 4 = .ok (.iload_n 1, 1) := by decide +kernel
theorem dX5_changedAt_5 : decode cX5_changedAt 5 = .ok (.aload_n 0, 1) := by decide +kernel
theorem dX5_changedAt_6 : decode cX5_changedAt 6 = .ok (.getfield 43, 3) := by decide +kernel
theorem dX5_changedAt_9 : decode cX5_changedAt 9 = .ok (.getfield 113, 3) := by decide +kernel
theorem dX5_changedAt_12 : decode cX5_changedAt 12 = .ok (.if_icmp .lt 13, 3) := by decide +kernel
theorem dX5_changedAt_15 : decode cX5_changedAt 15 = .ok (.new 122, 3) := by decide +kernel
theorem dX5_changedAt_18 : decode cX5_changedAt 18 = .ok (.dup, 1) := by decide +kernel
theorem dX5_changedAt_19 : decode cX5_changedAt 19 = .ok (.ldc 197, 2) := by decide +kernel
theorem dX5_changedAt_21 : decode cX5_changedAt 21 = .ok (.invokespecial 126, 3) := by decide +kernel
theorem dX5_changedAt_24 : decode cX5_changedAt 24 = .ok (.athrow, 1) := by decide +kernel
theorem dX5_changedAt_25 : decode cX5_changedAt 25 = .ok (.aload_n 0, 1) := by decide +kernel
theorem dX5_changedAt_26 : decode cX5_changedAt 26 = .ok (.getfield 43, 3) := by decide +kernel
theorem dX5_changedAt_29 : decode cX5_changedAt 29 = .ok (.getfield 199, 3) := by decide +kernel
theorem dX5_changedAt_32 : decode cX5_changedAt 32 = .ok (.iload_n 1, 1) := by decide +kernel
theorem dX5_changedAt_33 : decode cX5_changedAt 33 = .ok (.iaload, 1) := by decide +kernel
theorem dX5_changedAt_34 : decode cX5_changedAt 34 = .ok (.ireturn, 1) := by decide +kernel
theorem mX5_changedAt_0 : Cond.classLink RX5 122 "java/lang/IndexOutOfBoundsException" ∈ wsX5_changedAt := by decide +kernel
theorem mX5_changedAt_1 : Cond.initialized "java/lang/IndexOutOfBoundsException" ∈ wsX5_changedAt := by decide +kernel
theorem hX5_changedAt_126 : ∀ w ∈ (vx_atS RX5 126 "java/lang/IndexOutOfBoundsException" ["java/lang/RuntimeException", "java/lang/Exception"]).filter goodWord, w ∈ wsX5_changedAt := fun w h => List.mem_cons_of_mem _ (List.mem_append_right _ h)
theorem mX5_changedAt_3 : Cond.fieldLink RX5 43 "Layerways" "change" "LLayerways$Change;" ∈ wsX5_changedAt := by decide +kernel
theorem iX5_changedAt_X5 : ∀ w ∈ u_ws RX5 TX5 8, w ∈ wsX5_changedAt := by decide +kernel
theorem mX5_changedAt_5 : Cond.fieldLink RX5 113 "Layerways$Change" "size" "I" ∈ wsX5_changedAt := by decide +kernel
theorem iX5_changedAt_X0 : ∀ w ∈ u_ws RX0 TX0 4, w ∈ wsX5_changedAt := by decide +kernel
theorem mX5_changedAt_7 : Cond.fieldLink RX5 199 "Layerways$Change" "keys" "[I" ∈ wsX5_changedAt := by decide +kernel
def fX5_changedAt (xS : Int32) (xK : (Nat → Int32)) (p0 : Int32) : Option ((String ⊕ Int32)) := if p0 < 0 then some (.inl "java/lang/IndexOutOfBoundsException") else if p0 < xS then if zin p0 12 then some (.inr (xK p0.toNatClampNeg)) else none else some (.inl "java/lang/IndexOutOfBoundsException")
set_option maxRecDepth 100000 in
set_option maxHeartbeats 4000000 in
theorem kX5_changedAt (l : Launch) (K : zK) (aH : Nat) (aX : Nat) (aXb : Nat) (aXk : Nat) (aXw : Nat) (aN : Nat) (aF : Nat) (aA : Nat) (aC : Nat) (aO : Nat)  (gB : Int32) (gK : Int32) (xS : Int32) (xB : (Nat → Int32)) (xK : (Nat → Int32)) (xW : (Nat → Int32)) (p0 : Int32) (r : (String ⊕ Int32)) (hres : fX5_changedAt xS xK p0 = some r) : zX l K yX5_changedAt wsX5_changedAt ({ frames := 6, cells := 8, slots := 48, locals := 82 }) [.ref aH, .int p0] [(aH, .inr (5, [.ref aN, .ref aF, .ref aA, .ref aC, .ref aO, .ref aX, .int gB, .int gK])), (aX, .inr (0, [.ref aXb, .ref aXk, .ref aXw, .int xS])), (aXb, .inl (K.2 0, 12, .inl xB)), (aXk, .inl (K.2 0, 12, .inl xK)), (aXw, .inl (K.2 0, 12, .inl xW))] (zoI r) [(aH, .inr (5, [.ref aN, .ref aF, .ref aA, .ref aC, .ref aO, .ref aX, .int gB, .int gK])), (aX, .inr (0, [.ref aXb, .ref aXk, .ref aXw, .int xS])), (aXb, .inl (K.2 0, 12, .inl xB)), (aXk, .inl (K.2 0, 12, .inl xK)), (aXw, .inl (K.2 0, 12, .inl xW))] 8 48 := by
  refine zX.intI (cc := cX5_changedAt) (maxL := 2) (ret := (some .int)) rfl (by decide) (Nat.le_of_ble_eq_true rfl) rfl ?_
  intro G hGl hG hV hR hT hP
  unfold fX5_changedAt at hres
  show zj G 0 [(0, .ref aH), (1, .int p0)] [] [(aH, .inr (5, [.ref aN, .ref aF, .ref aA, .ref aC, .ref aO, .ref aX, .int gB, .int gK])), (aX, .inr (0, [.ref aXb, .ref aXk, .ref aXw, .int xS])), (aXb, .inl (K.2 0, 12, .inl xB)), (aXk, .inl (K.2 0, 12, .inl xK)), (aXw, .inl (K.2 0, 12, .inl xW))] 0 0
  refine z_iload_n hG dX5_changedAt_0 1 rfl ?_
  refine z_if_lt 15 hG dX5_changedAt_1 (by decide) (fun c => ?_) (fun c => ?_)
  · replace hres := z_ifp c hres
    obtain rfl := Option.some.inj hres
    exact z_throw "the change has no such place" hG (hT _ rfl) (by decide) mX5_changedAt_0 mX5_changedAt_1 (by decide) rfl (by decide) hX5_changedAt_126 zng_IndexOutOfBoundsException zgd_IndexOutOfBoundsException dX5_changedAt_15 dX5_changedAt_18 dX5_changedAt_19 dX5_changedAt_21 dX5_changedAt_24 (by decide) (Nat.le_of_ble_eq_true rfl) (Nat.le_of_ble_eq_true rfl) (Nat.le_of_ble_eq_true rfl) (Nat.le_of_ble_eq_true rfl) (Nat.le_of_ble_eq_true rfl)
  · replace hres := z_ifn c hres
    refine z_iload_n hG dX5_changedAt_4 1 rfl ?_
    refine z_aload_n hG dX5_changedAt_5 0 rfl ?_
    refine z_get (ci := 5) (C := RX5) (T := TX5) (N := 8) hG dX5_changedAt_6 iX5_changedAt_X5 5 (by decide) mX5_changedAt_3 rfl rfl 0 rfl rfl ?_
    refine z_get (ci := 0) (C := RX0) (T := TX0) (N := 4) hG dX5_changedAt_9 iX5_changedAt_X0 3 (by decide) mX5_changedAt_5 rfl rfl 1 rfl rfl ?_
    refine z_icmp_lt 25 hG dX5_changedAt_12 (by decide) (fun c => ?_) (fun c => ?_)
    · replace hres := z_ifp c hres
      refine z_aload_n hG dX5_changedAt_25 0 rfl ?_
      refine z_get (ci := 5) (C := RX5) (T := TX5) (N := 8) hG dX5_changedAt_26 iX5_changedAt_X5 5 (by decide) mX5_changedAt_3 rfl rfl 0 rfl rfl ?_
      refine z_get (ci := 0) (C := RX0) (T := TX0) (N := 4) hG dX5_changedAt_29 iX5_changedAt_X0 1 (by decide) mX5_changedAt_7 rfl rfl 1 rfl rfl ?_
      refine z_iload_n hG dX5_changedAt_32 1 rfl ?_
      obtain ⟨hg, hres⟩ := z_guard hres
      refine z_iald hG dX5_changedAt_33 3 rfl hg ?_
      obtain rfl := Option.some.inj hres
      exact (z_wid (Nat.le_of_ble_eq_true rfl) (Nat.le_of_ble_eq_true rfl) (hR _ rfl _ _ dX5_changedAt_34))
    · replace hres := z_ifn c hres
      obtain rfl := Option.some.inj hres
      exact z_throw "the change has no such place" hG (hT _ rfl) (by decide) mX5_changedAt_0 mX5_changedAt_1 (by decide) rfl (by decide) hX5_changedAt_126 zng_IndexOutOfBoundsException zgd_IndexOutOfBoundsException dX5_changedAt_15 dX5_changedAt_18 dX5_changedAt_19 dX5_changedAt_21 dX5_changedAt_24 (by decide) (Nat.le_of_ble_eq_true rfl) (Nat.le_of_ble_eq_true rfl) (Nat.le_of_ble_eq_true rfl) (Nat.le_of_ble_eq_true rfl) (Nat.le_of_ble_eq_true rfl)

theorem dX5_wasAt_0 : decode cX5_wasAt 0 = .ok (.iload_n 1, 1) := by decide +kernel
theorem dX5_wasAt_1 : decode cX5_wasAt 1 = .ok (.ifCond .lt 14, 3) := by decide +kernel
theorem dX5_wasAt_4 : decode cX5_wasAt 4 = .ok (.iload_n 1, 1) := by decide +kernel
theorem dX5_wasAt_5 : decode cX5_wasAt 5 = .ok (.aload_n 0, 1) := by decide +kernel
theorem dX5_wasAt_6 : decode cX5_wasAt 6 = .ok (.getfield 43, 3) := by decide +kernel
theorem dX5_wasAt_9 : decode cX5_wasAt 9 = .ok (.getfield 113, 3) := by decide +kernel
theorem dX5_wasAt_12 : decode cX5_wasAt 12 = .ok (.if_icmp .lt 13, 3) := by decide +kernel
theorem dX5_wasAt_15 : decode cX5_wasAt 15 = .ok (.new 122, 3) := by decide +kernel
theorem dX5_wasAt_18 : decode cX5_wasAt 18 = .ok (.dup, 1) := by decide +kernel
theorem dX5_wasAt_19 : decode cX5_wasAt 19 = .ok (.ldc 197, 2) := by decide +kernel
theorem dX5_wasAt_21 : decode cX5_wasAt 21 = .ok (.invokespecial 126, 3) := by decide +kernel
theorem dX5_wasAt_24 : decode cX5_wasAt 24 = .ok (.athrow, 1) := by decide +kernel
theorem dX5_wasAt_25 : decode cX5_wasAt 25 = .ok (.aload_n 0, 1) := by decide +kernel
theorem dX5_wasAt_26 : decode cX5_wasAt 26 = .ok (.getfield 43, 3) := by decide +kernel
theorem dX5_wasAt_29 : decode cX5_wasAt 29 = .ok (.getfield 200, 3) := by decide +kernel
theorem dX5_wasAt_32 : decode cX5_wasAt 32 = .ok (.iload_n 1, 1) := by decide +kernel
theorem dX5_wasAt_33 : decode cX5_wasAt 33 = .ok (.iaload, 1) := by decide +kernel
theorem dX5_wasAt_34 : decode cX5_wasAt 34 = .ok (.ireturn, 1) := by decide +kernel
theorem mX5_wasAt_0 : Cond.classLink RX5 122 "java/lang/IndexOutOfBoundsException" ∈ wsX5_wasAt := by decide +kernel
theorem mX5_wasAt_1 : Cond.initialized "java/lang/IndexOutOfBoundsException" ∈ wsX5_wasAt := by decide +kernel
theorem hX5_wasAt_126 : ∀ w ∈ (vx_atS RX5 126 "java/lang/IndexOutOfBoundsException" ["java/lang/RuntimeException", "java/lang/Exception"]).filter goodWord, w ∈ wsX5_wasAt := fun w h => List.mem_cons_of_mem _ (List.mem_append_right _ h)
theorem mX5_wasAt_3 : Cond.fieldLink RX5 43 "Layerways" "change" "LLayerways$Change;" ∈ wsX5_wasAt := by decide +kernel
theorem iX5_wasAt_X5 : ∀ w ∈ u_ws RX5 TX5 8, w ∈ wsX5_wasAt := by decide +kernel
theorem mX5_wasAt_5 : Cond.fieldLink RX5 113 "Layerways$Change" "size" "I" ∈ wsX5_wasAt := by decide +kernel
theorem iX5_wasAt_X0 : ∀ w ∈ u_ws RX0 TX0 4, w ∈ wsX5_wasAt := by decide +kernel
theorem mX5_wasAt_7 : Cond.fieldLink RX5 200 "Layerways$Change" "were" "[I" ∈ wsX5_wasAt := by decide +kernel
def fX5_wasAt (xS : Int32) (xW : (Nat → Int32)) (p0 : Int32) : Option ((String ⊕ Int32)) := if p0 < 0 then some (.inl "java/lang/IndexOutOfBoundsException") else if p0 < xS then if zin p0 12 then some (.inr (xW p0.toNatClampNeg)) else none else some (.inl "java/lang/IndexOutOfBoundsException")
set_option maxRecDepth 100000 in
set_option maxHeartbeats 4000000 in
theorem kX5_wasAt (l : Launch) (K : zK) (aH : Nat) (aX : Nat) (aXb : Nat) (aXk : Nat) (aXw : Nat) (aN : Nat) (aF : Nat) (aA : Nat) (aC : Nat) (aO : Nat)  (gB : Int32) (gK : Int32) (xS : Int32) (xB : (Nat → Int32)) (xK : (Nat → Int32)) (xW : (Nat → Int32)) (p0 : Int32) (r : (String ⊕ Int32)) (hres : fX5_wasAt xS xW p0 = some r) : zX l K yX5_wasAt wsX5_wasAt ({ frames := 6, cells := 8, slots := 48, locals := 82 }) [.ref aH, .int p0] [(aH, .inr (5, [.ref aN, .ref aF, .ref aA, .ref aC, .ref aO, .ref aX, .int gB, .int gK])), (aX, .inr (0, [.ref aXb, .ref aXk, .ref aXw, .int xS])), (aXb, .inl (K.2 0, 12, .inl xB)), (aXk, .inl (K.2 0, 12, .inl xK)), (aXw, .inl (K.2 0, 12, .inl xW))] (zoI r) [(aH, .inr (5, [.ref aN, .ref aF, .ref aA, .ref aC, .ref aO, .ref aX, .int gB, .int gK])), (aX, .inr (0, [.ref aXb, .ref aXk, .ref aXw, .int xS])), (aXb, .inl (K.2 0, 12, .inl xB)), (aXk, .inl (K.2 0, 12, .inl xK)), (aXw, .inl (K.2 0, 12, .inl xW))] 8 48 := by
  refine zX.intI (cc := cX5_wasAt) (maxL := 2) (ret := (some .int)) rfl (by decide) (Nat.le_of_ble_eq_true rfl) rfl ?_
  intro G hGl hG hV hR hT hP
  unfold fX5_wasAt at hres
  show zj G 0 [(0, .ref aH), (1, .int p0)] [] [(aH, .inr (5, [.ref aN, .ref aF, .ref aA, .ref aC, .ref aO, .ref aX, .int gB, .int gK])), (aX, .inr (0, [.ref aXb, .ref aXk, .ref aXw, .int xS])), (aXb, .inl (K.2 0, 12, .inl xB)), (aXk, .inl (K.2 0, 12, .inl xK)), (aXw, .inl (K.2 0, 12, .inl xW))] 0 0
  refine z_iload_n hG dX5_wasAt_0 1 rfl ?_
  refine z_if_lt 15 hG dX5_wasAt_1 (by decide) (fun c => ?_) (fun c => ?_)
  · replace hres := z_ifp c hres
    obtain rfl := Option.some.inj hres
    exact z_throw "the change has no such place" hG (hT _ rfl) (by decide) mX5_wasAt_0 mX5_wasAt_1 (by decide) rfl (by decide) hX5_wasAt_126 zng_IndexOutOfBoundsException zgd_IndexOutOfBoundsException dX5_wasAt_15 dX5_wasAt_18 dX5_wasAt_19 dX5_wasAt_21 dX5_wasAt_24 (by decide) (Nat.le_of_ble_eq_true rfl) (Nat.le_of_ble_eq_true rfl) (Nat.le_of_ble_eq_true rfl) (Nat.le_of_ble_eq_true rfl) (Nat.le_of_ble_eq_true rfl)
  · replace hres := z_ifn c hres
    refine z_iload_n hG dX5_wasAt_4 1 rfl ?_
    refine z_aload_n hG dX5_wasAt_5 0 rfl ?_
    refine z_get (ci := 5) (C := RX5) (T := TX5) (N := 8) hG dX5_wasAt_6 iX5_wasAt_X5 5 (by decide) mX5_wasAt_3 rfl rfl 0 rfl rfl ?_
    refine z_get (ci := 0) (C := RX0) (T := TX0) (N := 4) hG dX5_wasAt_9 iX5_wasAt_X0 3 (by decide) mX5_wasAt_5 rfl rfl 1 rfl rfl ?_
    refine z_icmp_lt 25 hG dX5_wasAt_12 (by decide) (fun c => ?_) (fun c => ?_)
    · replace hres := z_ifp c hres
      refine z_aload_n hG dX5_wasAt_25 0 rfl ?_
      refine z_get (ci := 5) (C := RX5) (T := TX5) (N := 8) hG dX5_wasAt_26 iX5_wasAt_X5 5 (by decide) mX5_wasAt_3 rfl rfl 0 rfl rfl ?_
      refine z_get (ci := 0) (C := RX0) (T := TX0) (N := 4) hG dX5_wasAt_29 iX5_wasAt_X0 2 (by decide) mX5_wasAt_7 rfl rfl 1 rfl rfl ?_
      refine z_iload_n hG dX5_wasAt_32 1 rfl ?_
      obtain ⟨hg, hres⟩ := z_guard hres
      refine z_iald hG dX5_wasAt_33 4 rfl hg ?_
      obtain rfl := Option.some.inj hres
      exact (z_wid (Nat.le_of_ble_eq_true rfl) (Nat.le_of_ble_eq_true rfl) (hR _ rfl _ _ dX5_wasAt_34))
    · replace hres := z_ifn c hres
      obtain rfl := Option.some.inj hres
      exact z_throw "the change has no such place" hG (hT _ rfl) (by decide) mX5_wasAt_0 mX5_wasAt_1 (by decide) rfl (by decide) hX5_wasAt_126 zng_IndexOutOfBoundsException zgd_IndexOutOfBoundsException dX5_wasAt_15 dX5_wasAt_18 dX5_wasAt_19 dX5_wasAt_21 dX5_wasAt_24 (by decide) (Nat.le_of_ble_eq_true rfl) (Nat.le_of_ble_eq_true rfl) (Nat.le_of_ble_eq_true rfl) (Nat.le_of_ble_eq_true rfl) (Nat.le_of_ble_eq_true rfl)

theorem dX5_isStreet_0 : decode cX5_isStreet 0 = .ok (.aload_n 0, 1) := by decide +kernel
theorem dX5_isStreet_1 : decode cX5_isStreet 1 = .ok (.iload_n 1, 1) := by decide +kernel
theorem dX5_isStreet_2 : decode cX5_isStreet 2 = .ok (.invokevirtual 84, 3) := by decide +kernel
theorem dX5_isStreet_5 : decode cX5_isStreet 5 = .ok (.istore_n 3, 1) := by decide +kernel
theorem dX5_isStreet_6 : decode cX5_isStreet 6 = .ok (.aload_n 0, 1) := by decide +kernel
theorem dX5_isStreet_7 : decode cX5_isStreet 7 = .ok (.iload_n 2, 1) := by decide +kernel
theorem dX5_isStreet_8 : decode cX5_isStreet 8 = .ok (.invokevirtual 84, 3) := by decide +kernel
theorem dX5_isStreet_11 : decode cX5_isStreet 11 = .ok (.istore 4, 2) := by decide +kernel
theorem dX5_isStreet_13 : decode cX5_isStreet 13 = .ok (.aload_n 0, 1) := by decide +kernel
theorem dX5_isStreet_14 : decode cX5_isStreet 14 = .ok (.getfield 10, 3) := by decide +kernel
theorem dX5_isStreet_17 : decode cX5_isStreet 17 = .ok (.iload_n 3, 1) := by decide +kernel
theorem dX5_isStreet_18 : decode cX5_isStreet 18 = .ok (.iload 4, 2) := by decide +kernel
theorem dX5_isStreet_20 : decode cX5_isStreet 20 = .ok (.invokevirtual 95, 3) := by decide +kernel
theorem dX5_isStreet_23 : decode cX5_isStreet 23 = .ok (.ireturn, 1) := by decide +kernel
set_option maxRecDepth 20000 in
theorem ggX5_isStreet_X5_placeOf : GoodIn wsX5_isStreet wsX5_placeOf := goodIn_ca (goodIn_r _ [6, 7, 8, 1, 9, 10, 11, 12, 13, 14, 15, 23, 24, 25, 26, 27, 28, 29, 30, 31, 32, 33] (by decide +kernel) (by decide +kernel)) (goodIn_sub (fun _ h => List.mem_cons_of_mem _ (List.mem_append_right _ h)) (by decide +kernel))
set_option maxRecDepth 20000 in
theorem gX5_isStreet_X5_placeOf : GoodIn wsX5_isStreet (wsV RX5 84 RX5 yX5_placeOf wsX5_placeOf) := goodIn_app (goodIn_of _ (by decide +kernel)) ggX5_isStreet_X5_placeOf
set_option maxRecDepth 20000 in
theorem ggX5_isStreet_X3_joins : GoodIn wsX5_isStreet wsX3_joins := goodIn_r _ [19, 20, 21, 5, 22, 31, 32, 33] (by decide +kernel) (by decide +kernel)
set_option maxRecDepth 20000 in
theorem gX5_isStreet_X3_joins : GoodIn wsX5_isStreet (wsV RX5 95 RX3 yX3_joins wsX3_joins) := goodIn_app (goodIn_of _ (by decide +kernel)) ggX5_isStreet_X3_joins
theorem mX5_isStreet_0 : Cond.fieldLink RX5 10 "Layerways" "net" "LLayerways$Net;" ∈ wsX5_isStreet := by decide +kernel
theorem iX5_isStreet_X5 : ∀ w ∈ u_ws RX5 TX5 8, w ∈ wsX5_isStreet := by decide +kernel
def fX5_isStreet (nS : Int32) (nK : (Nat → Int32)) (nN : (Nat → Int32)) (p0 : Int32) (p1 : Int32) : Option ((String ⊕ Int32)) := (fX5_placeOf nS nK p0).bind fun v1 => Sum.elim (fun x2 : String => some (.inl x2)) (fun r3 : Int32 => (fX5_placeOf nS nK p1).bind fun v4 => Sum.elim (fun x5 : String => some (.inl x5)) (fun r6 : Int32 => (fX3_joins nN r3 r6).bind fun v7 => if (v7 = 0 ∨ v7 = 1) then some (.inr v7) else none) v4) v1
set_option maxRecDepth 100000 in
set_option maxHeartbeats 4000000 in
theorem kX5_isStreet (l : Launch) (K : zK) (aH : Nat) (aN : Nat) (aNk : Nat) (aNn : Nat) (aF : Nat) (aA : Nat) (aC : Nat) (aO : Nat) (aX : Nat)  (gB : Int32) (gK : Int32) (nS : Int32) (nK : (Nat → Int32)) (nN : (Nat → Int32)) (p0 : Int32) (p1 : Int32) (r : (String ⊕ Int32)) (hres : fX5_isStreet nS nK nN p0 p1 = some r) : zX l K yX5_isStreet wsX5_isStreet ({ frames := 7, cells := 8, slots := 48, locals := 104 }) [.ref aH, .int p0, .int p1] [(aH, .inr (5, [.ref aN, .ref aF, .ref aA, .ref aC, .ref aO, .ref aX, .int gB, .int gK])), (aN, .inr (3, [.ref aNk, .ref aNn, .int nS])), (aNk, .inl (K.2 0, 12, .inl nK)), (aNn, .inl (K.2 0, 12, .inl nN))] (zoI r) [(aH, .inr (5, [.ref aN, .ref aF, .ref aA, .ref aC, .ref aO, .ref aX, .int gB, .int gK])), (aN, .inr (3, [.ref aNk, .ref aNn, .int nS])), (aNk, .inl (K.2 0, 12, .inl nK)), (aNn, .inl (K.2 0, 12, .inl nN))] 8 48 := by
  refine zX.intZ (cc := cX5_isStreet) (maxL := 5) (ret := (some .boolean)) rfl (by decide) (Nat.le_of_ble_eq_true rfl) rfl ?_
  intro G hGl hG hV hR hT hP
  unfold fX5_isStreet at hres
  show zj G 0 [(0, .ref aH), (1, .int p0), (2, .int p1)] [] [(aH, .inr (5, [.ref aN, .ref aF, .ref aA, .ref aC, .ref aO, .ref aX, .int gB, .int gK])), (aN, .inr (3, [.ref aNk, .ref aNn, .int nS])), (aNk, .inl (K.2 0, 12, .inl nK)), (aNn, .inl (K.2 0, 12, .inl nN))] 0 0
  refine z_aload_n hG dX5_isStreet_0 0 rfl ?_
  refine z_iload_n hG dX5_isStreet_1 1 rfl ?_
  obtain ⟨v1, hv, hres⟩ := z_bind hres
  refine z_callX (As := [.int p0]) (rest := []) (wr := ([] : va_W)) (ws' := [(aH, .inr (5, [.ref aN, .ref aF, .ref aA, .ref aC, .ref aO, .ref aX, .int gB, .int gK])), (aN, .inr (3, [.ref aNk, .ref aNn, .int nS])), (aNk, .inl (K.2 0, 12, .inl nK)), (aNn, .inl (K.2 0, 12, .inl nN))]) (kc' := 1) (ks' := 6) (n := 1) (C := RX5) (ci := 5) hG hV dX5_isStreet_2 (kX5_placeOf _ K aH aN aNk aNn aF aA aC aO aX gB gK nS nK nN p0 v1 hv) gX5_isStreet_X5_placeOf rfl rfl rfl ⟨rfl, by decide, by decide, rfl⟩ ⟨by decide, by decide⟩ (Nat.le_of_ble_eq_true rfl) ⟨(Nat.le_of_ble_eq_true rfl), (Nat.le_of_ble_eq_true rfl)⟩ [0, 1, 2, 3] [] [0, 1, 2, 3] rfl rfl rfl rfl (by decide) rfl rfl rfl rfl rfl 0 rfl rfl rfl rfl (fun o9 ho => ?_) (fun E9 ho => ?_)
  · rcases hv1 : v1 with x2 | r3
    · rw [hv1] at ho
      cases ho
    rw [hv1] at ho
    obtain rfl := Sum.inr.inj ho
    replace hres := z_elimR hv1 hres
    show zj G 5 [(0, .ref aH), (1, .int p0), (2, .int p1)] [.int r3] [(aH, .inr (5, [.ref aN, .ref aF, .ref aA, .ref aC, .ref aO, .ref aX, .int gB, .int gK])), (aN, .inr (3, [.ref aNk, .ref aNn, .int nS])), (aNk, .inl (K.2 0, 12, .inl nK)), (aNn, .inl (K.2 0, 12, .inl nN))] 1 6
    refine z_istore_n (lv' := [(3, .int r3), (0, .ref aH), (1, .int p0), (2, .int p1)]) hG dX5_isStreet_5 (by decide) rfl ?_
    refine z_aload_n hG dX5_isStreet_6 1 rfl ?_
    refine z_iload_n hG dX5_isStreet_7 3 rfl ?_
    obtain ⟨v4, hv, hres⟩ := z_bind hres
    refine z_callX (As := [.int p1]) (rest := []) (wr := ([] : va_W)) (ws' := [(aH, .inr (5, [.ref aN, .ref aF, .ref aA, .ref aC, .ref aO, .ref aX, .int gB, .int gK])), (aN, .inr (3, [.ref aNk, .ref aNn, .int nS])), (aNk, .inl (K.2 0, 12, .inl nK)), (aNn, .inl (K.2 0, 12, .inl nN))]) (kc' := 2) (ks' := 12) (n := 1) (C := RX5) (ci := 5) hG hV dX5_isStreet_8 (kX5_placeOf _ K aH aN aNk aNn aF aA aC aO aX gB gK nS nK nN p1 v4 hv) gX5_isStreet_X5_placeOf rfl rfl rfl ⟨rfl, by decide, by decide, rfl⟩ ⟨by decide, by decide⟩ (Nat.le_of_ble_eq_true rfl) ⟨(Nat.le_of_ble_eq_true rfl), (Nat.le_of_ble_eq_true rfl)⟩ [0, 1, 2, 3] [] [0, 1, 2, 3] rfl rfl rfl rfl (by decide) rfl rfl rfl rfl rfl 0 rfl rfl rfl rfl (fun o9 ho => ?_) (fun E9 ho => ?_)
    · rcases hv1 : v4 with x5 | r6
      · rw [hv1] at ho
        cases ho
      rw [hv1] at ho
      obtain rfl := Sum.inr.inj ho
      replace hres := z_elimR hv1 hres
      show zj G 11 [(3, .int r3), (0, .ref aH), (1, .int p0), (2, .int p1)] [.int r6] [(aH, .inr (5, [.ref aN, .ref aF, .ref aA, .ref aC, .ref aO, .ref aX, .int gB, .int gK])), (aN, .inr (3, [.ref aNk, .ref aNn, .int nS])), (aNk, .inl (K.2 0, 12, .inl nK)), (aNn, .inl (K.2 0, 12, .inl nN))] 2 12
      refine z_istore (lv' := [(4, .int r6), (3, .int r3), (0, .ref aH), (1, .int p0), (2, .int p1)]) hG dX5_isStreet_11 (by decide) rfl ?_
      refine z_aload_n hG dX5_isStreet_13 2 rfl ?_
      refine z_get (ci := 5) (C := RX5) (T := TX5) (N := 8) hG dX5_isStreet_14 iX5_isStreet_X5 0 (by decide) mX5_isStreet_0 rfl rfl 0 rfl rfl ?_
      refine z_iload_n hG dX5_isStreet_17 1 rfl ?_
      refine z_iload hG dX5_isStreet_18 0 rfl ?_
      obtain ⟨v7, hv, hres⟩ := z_bind hres
      refine z_callV (As := [.int r3, .int r6]) (rest := []) (wr := [(aH, .inr (5, [.ref aN, .ref aF, .ref aA, .ref aC, .ref aO, .ref aX, .int gB, .int gK]))]) (ws' := (fun _ : Unit => [(aH, .inr (5, [.ref aN, .ref aF, .ref aA, .ref aC, .ref aO, .ref aX, .int gB, .int gK])), (aN, .inr (3, [.ref aNk, .ref aNn, .int nS])), (aNk, .inl (K.2 0, 12, .inl nK)), (aNn, .inl (K.2 0, 12, .inl nN))])) (stk := (fun _ : Unit => [.int v7])) (kc' := 2) (ks' := 12) (n := 2) (C := RX3) (ci := 3) hG dX5_isStreet_20 (kX3_joins _ K aN aNk aNn nS nK nN r3 r6 v7 hv) gX5_isStreet_X3_joins rfl rfl rfl ⟨rfl, by decide, by decide, rfl⟩ ⟨by decide, by decide⟩ (Nat.le_of_ble_eq_true rfl) ⟨(Nat.le_of_ble_eq_true rfl), (Nat.le_of_ble_eq_true rfl)⟩ [1, 2, 3] [0] [0, 1, 2, 3] rfl rfl rfl rfl (by decide) rfl (fun _ => rfl) (fun _ => rfl) rfl rfl rfl 0 rfl rfl rfl rfl (fun _ => ?_)
      obtain ⟨hg, hres⟩ := z_guard hres
      obtain rfl := Option.some.inj hres
      exact (z_wid (Nat.le_of_ble_eq_true rfl) (Nat.le_of_ble_eq_true rfl) (hR _ rfl _ _ (z_nar01 hg) dX5_isStreet_23))
    · rcases hv1 : v4 with x5 | r6
      · rw [hv1] at ho
        obtain rfl := Sum.inl.inj ho
        replace hres := z_elimL hv1 hres
        obtain rfl := Option.some.inj hres
        exact z_xwid (Nat.le_of_ble_eq_true rfl) (Nat.le_of_ble_eq_true rfl) (hP _ rfl _ _)
      rw [hv1] at ho
      cases ho
  · rcases hv1 : v1 with x2 | r3
    · rw [hv1] at ho
      obtain rfl := Sum.inl.inj ho
      replace hres := z_elimL hv1 hres
      obtain rfl := Option.some.inj hres
      exact z_xwid (Nat.le_of_ble_eq_true rfl) (Nat.le_of_ble_eq_true rfl) (hP _ rfl _ _)
    rw [hv1] at ho
    cases ho

theorem dX5_length_0 : decode cX5_length 0 = .ok (.aload_n 0, 1) := by decide +kernel
theorem dX5_length_1 : decode cX5_length 1 = .ok (.iload_n 1, 1) := by decide +kernel
theorem dX5_length_2 : decode cX5_length 2 = .ok (.invokevirtual 84, 3) := by decide +kernel
theorem dX5_length_5 : decode cX5_length 5 = .ok (.istore_n 2, 1) := by decide +kernel
theorem dX5_length_6 : decode cX5_length 6 = .ok (.aload_n 0, 1) := by decide +kernel
theorem dX5_length_7 : decode cX5_length 7 = .ok (.invokevirtual 134, 3) := by decide +kernel
theorem dX5_length_10 : decode cX5_length 10 = .ok (.aload_n 0, 1) := by decide +kernel
theorem dX5_length_11 : decode cX5_length 11 = .ok (.getfield 19, 3) := by decide +kernel
theorem dX5_length_14 : decode cX5_length 14 = .ok (.getfield 137, 3) := by decide +kernel
theorem dX5_length_17 : decode cX5_length 17 = .ok (.iload_n 2, 1) := by decide +kernel
theorem dX5_length_18 : decode cX5_length 18 = .ok (.iaload, 1) := by decide +kernel
theorem dX5_length_19 : decode cX5_length 19 = .ok (.ireturn, 1) := by decide +kernel
set_option maxRecDepth 20000 in
theorem ggX5_length_X5_placeOf : GoodIn wsX5_length wsX5_placeOf := goodIn_ca (goodIn_r _ [7, 8, 9, 10, 11, 12, 13, 14, 15, 16, 17, 25, 26, 27, 28, 29, 30, 31, 32, 37, 38, 39] (by decide +kernel) (by decide +kernel)) (goodIn_sub (fun _ h => List.mem_cons_of_mem _ (List.mem_append_left _ (List.mem_append_right _ h))) (by decide +kernel))
set_option maxRecDepth 20000 in
theorem gX5_length_X5_placeOf : GoodIn wsX5_length (wsV RX5 84 RX5 yX5_placeOf wsX5_placeOf) := goodIn_app (goodIn_of _ (by decide +kernel)) ggX5_length_X5_placeOf
set_option maxRecDepth 20000 in
theorem ggX5_length_X5_needStart : GoodIn wsX5_length wsX5_needStart := goodIn_ca (goodIn_r _ [21, 22, 23, 24, 25, 26, 27, 28, 29, 30, 31, 32] (by decide +kernel) (by decide +kernel)) (goodIn_sub (fun _ h => List.mem_cons_of_mem _ (List.mem_append_right _ h)) (by decide +kernel))
set_option maxRecDepth 20000 in
theorem gX5_length_X5_needStart : GoodIn wsX5_length (wsV RX5 134 RX5 yX5_needStart wsX5_needStart) := goodIn_app (goodIn_of _ (by decide +kernel)) ggX5_length_X5_needStart
theorem mX5_length_0 : Cond.fieldLink RX5 19 "Layerways" "fromStart" "LLayerways$Layers;" ∈ wsX5_length := by decide +kernel
theorem iX5_length_X5 : ∀ w ∈ u_ws RX5 TX5 8, w ∈ wsX5_length := by decide +kernel
theorem mX5_length_2 : Cond.fieldLink RX5 137 "Layerways$Layers" "lengths" "[I" ∈ wsX5_length := by decide +kernel
theorem iX5_length_X2 : ∀ w ∈ u_ws RX2 TX2 4, w ∈ wsX5_length := by decide +kernel
def fX5_length (gB : Int32) (nS : Int32) (nK : (Nat → Int32)) (fL : (Nat → Int32)) (p0 : Int32) : Option ((String ⊕ Int32)) := (fX5_placeOf nS nK p0).bind fun v1 => Sum.elim (fun x2 : String => some (.inl x2)) (fun r3 : Int32 => (fX5_needStart gB).bind fun v4 => Sum.elim (fun x5 : String => some (.inl x5)) (fun r6 : Unit => if zin r3 12 then some (.inr (fL r3.toNatClampNeg)) else none) v4) v1
set_option maxRecDepth 100000 in
set_option maxHeartbeats 4000000 in
theorem kX5_length (l : Launch) (K : zK) (aH : Nat) (aN : Nat) (aNk : Nat) (aNn : Nat) (aF : Nat) (aFl : Nat) (aFc : Nat) (aFq : Nat) (aA : Nat) (aC : Nat) (aO : Nat) (aX : Nat)  (gB : Int32) (gK : Int32) (nS : Int32) (nK : (Nat → Int32)) (nN : (Nat → Int32)) (fM : Int32) (fL : (Nat → Int32)) (fC : (Nat → Int32)) (fQ : (Nat → Int32)) (p0 : Int32) (r : (String ⊕ Int32)) (hres : fX5_length gB nS nK fL p0 = some r) : zX l K yX5_length wsX5_length ({ frames := 7, cells := 8, slots := 48, locals := 104 }) [.ref aH, .int p0] [(aH, .inr (5, [.ref aN, .ref aF, .ref aA, .ref aC, .ref aO, .ref aX, .int gB, .int gK])), (aN, .inr (3, [.ref aNk, .ref aNn, .int nS])), (aNk, .inl (K.2 0, 12, .inl nK)), (aNn, .inl (K.2 0, 12, .inl nN)), (aF, .inr (2, [.ref aFl, .ref aFc, .ref aFq, .int fM])), (aFl, .inl (K.2 0, 12, .inl fL)), (aFc, .inl (K.2 0, 12, .inl fC)), (aFq, .inl (K.2 0, 12, .inl fQ))] (zoI r) [(aH, .inr (5, [.ref aN, .ref aF, .ref aA, .ref aC, .ref aO, .ref aX, .int gB, .int gK])), (aN, .inr (3, [.ref aNk, .ref aNn, .int nS])), (aNk, .inl (K.2 0, 12, .inl nK)), (aNn, .inl (K.2 0, 12, .inl nN)), (aF, .inr (2, [.ref aFl, .ref aFc, .ref aFq, .int fM])), (aFl, .inl (K.2 0, 12, .inl fL)), (aFc, .inl (K.2 0, 12, .inl fC)), (aFq, .inl (K.2 0, 12, .inl fQ))] 8 48 := by
  refine zX.intI (cc := cX5_length) (maxL := 3) (ret := (some .int)) rfl (by decide) (Nat.le_of_ble_eq_true rfl) rfl ?_
  intro G hGl hG hV hR hT hP
  unfold fX5_length at hres
  show zj G 0 [(0, .ref aH), (1, .int p0)] [] [(aH, .inr (5, [.ref aN, .ref aF, .ref aA, .ref aC, .ref aO, .ref aX, .int gB, .int gK])), (aN, .inr (3, [.ref aNk, .ref aNn, .int nS])), (aNk, .inl (K.2 0, 12, .inl nK)), (aNn, .inl (K.2 0, 12, .inl nN)), (aF, .inr (2, [.ref aFl, .ref aFc, .ref aFq, .int fM])), (aFl, .inl (K.2 0, 12, .inl fL)), (aFc, .inl (K.2 0, 12, .inl fC)), (aFq, .inl (K.2 0, 12, .inl fQ))] 0 0
  refine z_aload_n hG dX5_length_0 0 rfl ?_
  refine z_iload_n hG dX5_length_1 1 rfl ?_
  obtain ⟨v1, hv, hres⟩ := z_bind hres
  refine z_callX (As := [.int p0]) (rest := []) (wr := [(aF, .inr (2, [.ref aFl, .ref aFc, .ref aFq, .int fM])), (aFl, .inl (K.2 0, 12, .inl fL)), (aFc, .inl (K.2 0, 12, .inl fC)), (aFq, .inl (K.2 0, 12, .inl fQ))]) (ws' := [(aH, .inr (5, [.ref aN, .ref aF, .ref aA, .ref aC, .ref aO, .ref aX, .int gB, .int gK])), (aN, .inr (3, [.ref aNk, .ref aNn, .int nS])), (aNk, .inl (K.2 0, 12, .inl nK)), (aNn, .inl (K.2 0, 12, .inl nN)), (aF, .inr (2, [.ref aFl, .ref aFc, .ref aFq, .int fM])), (aFl, .inl (K.2 0, 12, .inl fL)), (aFc, .inl (K.2 0, 12, .inl fC)), (aFq, .inl (K.2 0, 12, .inl fQ))]) (kc' := 1) (ks' := 6) (n := 1) (C := RX5) (ci := 5) hG hV dX5_length_2 (kX5_placeOf _ K aH aN aNk aNn aF aA aC aO aX gB gK nS nK nN p0 v1 hv) gX5_length_X5_placeOf rfl rfl rfl ⟨rfl, by decide, by decide, rfl⟩ ⟨by decide, by decide⟩ (Nat.le_of_ble_eq_true rfl) ⟨(Nat.le_of_ble_eq_true rfl), (Nat.le_of_ble_eq_true rfl)⟩ [0, 1, 2, 3] [4, 5, 6, 7] [4, 5, 6, 7, 0, 1, 2, 3] rfl rfl rfl rfl (by decide) rfl rfl rfl rfl rfl 0 rfl rfl rfl rfl (fun o9 ho => ?_) (fun E9 ho => ?_)
  · rcases hv1 : v1 with x2 | r3
    · rw [hv1] at ho
      cases ho
    rw [hv1] at ho
    obtain rfl := Sum.inr.inj ho
    replace hres := z_elimR hv1 hres
    show zj G 5 [(0, .ref aH), (1, .int p0)] [.int r3] [(aH, .inr (5, [.ref aN, .ref aF, .ref aA, .ref aC, .ref aO, .ref aX, .int gB, .int gK])), (aN, .inr (3, [.ref aNk, .ref aNn, .int nS])), (aNk, .inl (K.2 0, 12, .inl nK)), (aNn, .inl (K.2 0, 12, .inl nN)), (aF, .inr (2, [.ref aFl, .ref aFc, .ref aFq, .int fM])), (aFl, .inl (K.2 0, 12, .inl fL)), (aFc, .inl (K.2 0, 12, .inl fC)), (aFq, .inl (K.2 0, 12, .inl fQ))] 1 6
    refine z_istore_n (lv' := [(2, .int r3), (0, .ref aH), (1, .int p0)]) hG dX5_length_5 (by decide) rfl ?_
    refine z_aload_n hG dX5_length_6 1 rfl ?_
    obtain ⟨v4, hv, hres⟩ := z_bind hres
    refine z_callX (As := []) (rest := []) (wr := [(aN, .inr (3, [.ref aNk, .ref aNn, .int nS])), (aNk, .inl (K.2 0, 12, .inl nK)), (aNn, .inl (K.2 0, 12, .inl nN)), (aF, .inr (2, [.ref aFl, .ref aFc, .ref aFq, .int fM])), (aFl, .inl (K.2 0, 12, .inl fL)), (aFc, .inl (K.2 0, 12, .inl fC)), (aFq, .inl (K.2 0, 12, .inl fQ))]) (ws' := [(aH, .inr (5, [.ref aN, .ref aF, .ref aA, .ref aC, .ref aO, .ref aX, .int gB, .int gK])), (aN, .inr (3, [.ref aNk, .ref aNn, .int nS])), (aNk, .inl (K.2 0, 12, .inl nK)), (aNn, .inl (K.2 0, 12, .inl nN)), (aF, .inr (2, [.ref aFl, .ref aFc, .ref aFq, .int fM])), (aFl, .inl (K.2 0, 12, .inl fL)), (aFc, .inl (K.2 0, 12, .inl fC)), (aFq, .inl (K.2 0, 12, .inl fQ))]) (kc' := 2) (ks' := 12) (n := 0) (C := RX5) (ci := 5) hG hV dX5_length_7 (kX5_needStart _ K aH aN aF aA aC aO aX gB gK v4 hv) gX5_length_X5_needStart rfl rfl rfl ⟨rfl, by decide, by decide, rfl⟩ ⟨by decide, by decide⟩ (Nat.le_of_ble_eq_true rfl) ⟨(Nat.le_of_ble_eq_true rfl), (Nat.le_of_ble_eq_true rfl)⟩ [0] [1, 2, 3, 4, 5, 6, 7] [7, 0, 1, 2, 3, 4, 5, 6] rfl rfl rfl rfl (by decide) rfl rfl rfl rfl rfl 0 rfl rfl rfl rfl (fun o9 ho => ?_) (fun E9 ho => ?_)
    · rcases hv1 : v4 with x5 | r6
      · rw [hv1] at ho
        cases ho
      rw [hv1] at ho
      obtain rfl := Sum.inr.inj ho
      replace hres := z_elimR hv1 hres
      show zj G 10 [(2, .int r3), (0, .ref aH), (1, .int p0)] [] [(aH, .inr (5, [.ref aN, .ref aF, .ref aA, .ref aC, .ref aO, .ref aX, .int gB, .int gK])), (aN, .inr (3, [.ref aNk, .ref aNn, .int nS])), (aNk, .inl (K.2 0, 12, .inl nK)), (aNn, .inl (K.2 0, 12, .inl nN)), (aF, .inr (2, [.ref aFl, .ref aFc, .ref aFq, .int fM])), (aFl, .inl (K.2 0, 12, .inl fL)), (aFc, .inl (K.2 0, 12, .inl fC)), (aFq, .inl (K.2 0, 12, .inl fQ))] 2 12
      refine z_aload_n hG dX5_length_10 1 rfl ?_
      refine z_get (ci := 5) (C := RX5) (T := TX5) (N := 8) hG dX5_length_11 iX5_length_X5 1 (by decide) mX5_length_0 rfl rfl 0 rfl rfl ?_
      refine z_get (ci := 2) (C := RX2) (T := TX2) (N := 4) hG dX5_length_14 iX5_length_X2 0 (by decide) mX5_length_2 rfl rfl 4 rfl rfl ?_
      refine z_iload_n hG dX5_length_17 0 rfl ?_
      obtain ⟨hg, hres⟩ := z_guard hres
      refine z_iald hG dX5_length_18 5 rfl hg ?_
      obtain rfl := Option.some.inj hres
      exact (z_wid (Nat.le_of_ble_eq_true rfl) (Nat.le_of_ble_eq_true rfl) (hR _ rfl _ _ dX5_length_19))
    · rcases hv1 : v4 with x5 | r6
      · rw [hv1] at ho
        obtain rfl := Sum.inl.inj ho
        replace hres := z_elimL hv1 hres
        obtain rfl := Option.some.inj hres
        exact z_xwid (Nat.le_of_ble_eq_true rfl) (Nat.le_of_ble_eq_true rfl) (hP _ rfl _ _)
      rw [hv1] at ho
      cases ho
  · rcases hv1 : v1 with x2 | r3
    · rw [hv1] at ho
      obtain rfl := Sum.inl.inj ho
      replace hres := z_elimL hv1 hres
      obtain rfl := Option.some.inj hres
      exact z_xwid (Nat.le_of_ble_eq_true rfl) (Nat.le_of_ble_eq_true rfl) (hP _ rfl _ _)
    rw [hv1] at ho
    cases ho

theorem dX5_ways_0 : decode cX5_ways 0 = .ok (.aload_n 0, 1) := by decide +kernel
theorem dX5_ways_1 : decode cX5_ways 1 = .ok (.iload_n 1, 1) := by decide +kernel
theorem dX5_ways_2 : decode cX5_ways 2 = .ok (.invokevirtual 84, 3) := by decide +kernel
theorem dX5_ways_5 : decode cX5_ways 5 = .ok (.istore_n 2, 1) := by decide +kernel
theorem dX5_ways_6 : decode cX5_ways 6 = .ok (.aload_n 0, 1) := by decide +kernel
theorem dX5_ways_7 : decode cX5_ways 7 = .ok (.invokevirtual 134, 3) := by decide +kernel
theorem dX5_ways_10 : decode cX5_ways 10 = .ok (.aload_n 0, 1) := by decide +kernel
theorem dX5_ways_11 : decode cX5_ways 11 = .ok (.getfield 19, 3) := by decide +kernel
theorem dX5_ways_14 : decode cX5_ways 14 = .ok (.getfield 151, 3) := by decide +kernel
theorem dX5_ways_17 : decode cX5_ways 17 = .ok (.iload_n 2, 1) := by decide +kernel
theorem dX5_ways_18 : decode cX5_ways 18 = .ok (.iaload, 1) := by decide +kernel
theorem dX5_ways_19 : decode cX5_ways 19 = .ok (.ireturn, 1) := by decide +kernel
set_option maxRecDepth 20000 in
theorem ggX5_ways_X5_placeOf : GoodIn wsX5_ways wsX5_placeOf := goodIn_ca (goodIn_r _ [7, 8, 9, 10, 11, 12, 13, 14, 15, 16, 17, 25, 26, 27, 28, 29, 30, 31, 32, 37, 38, 39] (by decide +kernel) (by decide +kernel)) (goodIn_sub (fun _ h => List.mem_cons_of_mem _ (List.mem_append_left _ (List.mem_append_right _ h))) (by decide +kernel))
set_option maxRecDepth 20000 in
theorem gX5_ways_X5_placeOf : GoodIn wsX5_ways (wsV RX5 84 RX5 yX5_placeOf wsX5_placeOf) := goodIn_app (goodIn_of _ (by decide +kernel)) ggX5_ways_X5_placeOf
set_option maxRecDepth 20000 in
theorem ggX5_ways_X5_needStart : GoodIn wsX5_ways wsX5_needStart := goodIn_ca (goodIn_r _ [21, 22, 23, 24, 25, 26, 27, 28, 29, 30, 31, 32] (by decide +kernel) (by decide +kernel)) (goodIn_sub (fun _ h => List.mem_cons_of_mem _ (List.mem_append_right _ h)) (by decide +kernel))
set_option maxRecDepth 20000 in
theorem gX5_ways_X5_needStart : GoodIn wsX5_ways (wsV RX5 134 RX5 yX5_needStart wsX5_needStart) := goodIn_app (goodIn_of _ (by decide +kernel)) ggX5_ways_X5_needStart
theorem mX5_ways_0 : Cond.fieldLink RX5 19 "Layerways" "fromStart" "LLayerways$Layers;" ∈ wsX5_ways := by decide +kernel
theorem iX5_ways_X5 : ∀ w ∈ u_ws RX5 TX5 8, w ∈ wsX5_ways := by decide +kernel
theorem mX5_ways_2 : Cond.fieldLink RX5 151 "Layerways$Layers" "counts" "[I" ∈ wsX5_ways := by decide +kernel
theorem iX5_ways_X2 : ∀ w ∈ u_ws RX2 TX2 4, w ∈ wsX5_ways := by decide +kernel
def fX5_ways (gB : Int32) (nS : Int32) (nK : (Nat → Int32)) (fC : (Nat → Int32)) (p0 : Int32) : Option ((String ⊕ Int32)) := (fX5_placeOf nS nK p0).bind fun v1 => Sum.elim (fun x2 : String => some (.inl x2)) (fun r3 : Int32 => (fX5_needStart gB).bind fun v4 => Sum.elim (fun x5 : String => some (.inl x5)) (fun r6 : Unit => if zin r3 12 then some (.inr (fC r3.toNatClampNeg)) else none) v4) v1
set_option maxRecDepth 100000 in
set_option maxHeartbeats 4000000 in
theorem kX5_ways (l : Launch) (K : zK) (aH : Nat) (aN : Nat) (aNk : Nat) (aNn : Nat) (aF : Nat) (aFl : Nat) (aFc : Nat) (aFq : Nat) (aA : Nat) (aC : Nat) (aO : Nat) (aX : Nat)  (gB : Int32) (gK : Int32) (nS : Int32) (nK : (Nat → Int32)) (nN : (Nat → Int32)) (fM : Int32) (fL : (Nat → Int32)) (fC : (Nat → Int32)) (fQ : (Nat → Int32)) (p0 : Int32) (r : (String ⊕ Int32)) (hres : fX5_ways gB nS nK fC p0 = some r) : zX l K yX5_ways wsX5_ways ({ frames := 7, cells := 8, slots := 48, locals := 104 }) [.ref aH, .int p0] [(aH, .inr (5, [.ref aN, .ref aF, .ref aA, .ref aC, .ref aO, .ref aX, .int gB, .int gK])), (aN, .inr (3, [.ref aNk, .ref aNn, .int nS])), (aNk, .inl (K.2 0, 12, .inl nK)), (aNn, .inl (K.2 0, 12, .inl nN)), (aF, .inr (2, [.ref aFl, .ref aFc, .ref aFq, .int fM])), (aFl, .inl (K.2 0, 12, .inl fL)), (aFc, .inl (K.2 0, 12, .inl fC)), (aFq, .inl (K.2 0, 12, .inl fQ))] (zoI r) [(aH, .inr (5, [.ref aN, .ref aF, .ref aA, .ref aC, .ref aO, .ref aX, .int gB, .int gK])), (aN, .inr (3, [.ref aNk, .ref aNn, .int nS])), (aNk, .inl (K.2 0, 12, .inl nK)), (aNn, .inl (K.2 0, 12, .inl nN)), (aF, .inr (2, [.ref aFl, .ref aFc, .ref aFq, .int fM])), (aFl, .inl (K.2 0, 12, .inl fL)), (aFc, .inl (K.2 0, 12, .inl fC)), (aFq, .inl (K.2 0, 12, .inl fQ))] 8 48 := by
  refine zX.intI (cc := cX5_ways) (maxL := 3) (ret := (some .int)) rfl (by decide) (Nat.le_of_ble_eq_true rfl) rfl ?_
  intro G hGl hG hV hR hT hP
  unfold fX5_ways at hres
  show zj G 0 [(0, .ref aH), (1, .int p0)] [] [(aH, .inr (5, [.ref aN, .ref aF, .ref aA, .ref aC, .ref aO, .ref aX, .int gB, .int gK])), (aN, .inr (3, [.ref aNk, .ref aNn, .int nS])), (aNk, .inl (K.2 0, 12, .inl nK)), (aNn, .inl (K.2 0, 12, .inl nN)), (aF, .inr (2, [.ref aFl, .ref aFc, .ref aFq, .int fM])), (aFl, .inl (K.2 0, 12, .inl fL)), (aFc, .inl (K.2 0, 12, .inl fC)), (aFq, .inl (K.2 0, 12, .inl fQ))] 0 0
  refine z_aload_n hG dX5_ways_0 0 rfl ?_
  refine z_iload_n hG dX5_ways_1 1 rfl ?_
  obtain ⟨v1, hv, hres⟩ := z_bind hres
  refine z_callX (As := [.int p0]) (rest := []) (wr := [(aF, .inr (2, [.ref aFl, .ref aFc, .ref aFq, .int fM])), (aFl, .inl (K.2 0, 12, .inl fL)), (aFc, .inl (K.2 0, 12, .inl fC)), (aFq, .inl (K.2 0, 12, .inl fQ))]) (ws' := [(aH, .inr (5, [.ref aN, .ref aF, .ref aA, .ref aC, .ref aO, .ref aX, .int gB, .int gK])), (aN, .inr (3, [.ref aNk, .ref aNn, .int nS])), (aNk, .inl (K.2 0, 12, .inl nK)), (aNn, .inl (K.2 0, 12, .inl nN)), (aF, .inr (2, [.ref aFl, .ref aFc, .ref aFq, .int fM])), (aFl, .inl (K.2 0, 12, .inl fL)), (aFc, .inl (K.2 0, 12, .inl fC)), (aFq, .inl (K.2 0, 12, .inl fQ))]) (kc' := 1) (ks' := 6) (n := 1) (C := RX5) (ci := 5) hG hV dX5_ways_2 (kX5_placeOf _ K aH aN aNk aNn aF aA aC aO aX gB gK nS nK nN p0 v1 hv) gX5_ways_X5_placeOf rfl rfl rfl ⟨rfl, by decide, by decide, rfl⟩ ⟨by decide, by decide⟩ (Nat.le_of_ble_eq_true rfl) ⟨(Nat.le_of_ble_eq_true rfl), (Nat.le_of_ble_eq_true rfl)⟩ [0, 1, 2, 3] [4, 5, 6, 7] [4, 5, 6, 7, 0, 1, 2, 3] rfl rfl rfl rfl (by decide) rfl rfl rfl rfl rfl 0 rfl rfl rfl rfl (fun o9 ho => ?_) (fun E9 ho => ?_)
  · rcases hv1 : v1 with x2 | r3
    · rw [hv1] at ho
      cases ho
    rw [hv1] at ho
    obtain rfl := Sum.inr.inj ho
    replace hres := z_elimR hv1 hres
    show zj G 5 [(0, .ref aH), (1, .int p0)] [.int r3] [(aH, .inr (5, [.ref aN, .ref aF, .ref aA, .ref aC, .ref aO, .ref aX, .int gB, .int gK])), (aN, .inr (3, [.ref aNk, .ref aNn, .int nS])), (aNk, .inl (K.2 0, 12, .inl nK)), (aNn, .inl (K.2 0, 12, .inl nN)), (aF, .inr (2, [.ref aFl, .ref aFc, .ref aFq, .int fM])), (aFl, .inl (K.2 0, 12, .inl fL)), (aFc, .inl (K.2 0, 12, .inl fC)), (aFq, .inl (K.2 0, 12, .inl fQ))] 1 6
    refine z_istore_n (lv' := [(2, .int r3), (0, .ref aH), (1, .int p0)]) hG dX5_ways_5 (by decide) rfl ?_
    refine z_aload_n hG dX5_ways_6 1 rfl ?_
    obtain ⟨v4, hv, hres⟩ := z_bind hres
    refine z_callX (As := []) (rest := []) (wr := [(aN, .inr (3, [.ref aNk, .ref aNn, .int nS])), (aNk, .inl (K.2 0, 12, .inl nK)), (aNn, .inl (K.2 0, 12, .inl nN)), (aF, .inr (2, [.ref aFl, .ref aFc, .ref aFq, .int fM])), (aFl, .inl (K.2 0, 12, .inl fL)), (aFc, .inl (K.2 0, 12, .inl fC)), (aFq, .inl (K.2 0, 12, .inl fQ))]) (ws' := [(aH, .inr (5, [.ref aN, .ref aF, .ref aA, .ref aC, .ref aO, .ref aX, .int gB, .int gK])), (aN, .inr (3, [.ref aNk, .ref aNn, .int nS])), (aNk, .inl (K.2 0, 12, .inl nK)), (aNn, .inl (K.2 0, 12, .inl nN)), (aF, .inr (2, [.ref aFl, .ref aFc, .ref aFq, .int fM])), (aFl, .inl (K.2 0, 12, .inl fL)), (aFc, .inl (K.2 0, 12, .inl fC)), (aFq, .inl (K.2 0, 12, .inl fQ))]) (kc' := 2) (ks' := 12) (n := 0) (C := RX5) (ci := 5) hG hV dX5_ways_7 (kX5_needStart _ K aH aN aF aA aC aO aX gB gK v4 hv) gX5_ways_X5_needStart rfl rfl rfl ⟨rfl, by decide, by decide, rfl⟩ ⟨by decide, by decide⟩ (Nat.le_of_ble_eq_true rfl) ⟨(Nat.le_of_ble_eq_true rfl), (Nat.le_of_ble_eq_true rfl)⟩ [0] [1, 2, 3, 4, 5, 6, 7] [7, 0, 1, 2, 3, 4, 5, 6] rfl rfl rfl rfl (by decide) rfl rfl rfl rfl rfl 0 rfl rfl rfl rfl (fun o9 ho => ?_) (fun E9 ho => ?_)
    · rcases hv1 : v4 with x5 | r6
      · rw [hv1] at ho
        cases ho
      rw [hv1] at ho
      obtain rfl := Sum.inr.inj ho
      replace hres := z_elimR hv1 hres
      show zj G 10 [(2, .int r3), (0, .ref aH), (1, .int p0)] [] [(aH, .inr (5, [.ref aN, .ref aF, .ref aA, .ref aC, .ref aO, .ref aX, .int gB, .int gK])), (aN, .inr (3, [.ref aNk, .ref aNn, .int nS])), (aNk, .inl (K.2 0, 12, .inl nK)), (aNn, .inl (K.2 0, 12, .inl nN)), (aF, .inr (2, [.ref aFl, .ref aFc, .ref aFq, .int fM])), (aFl, .inl (K.2 0, 12, .inl fL)), (aFc, .inl (K.2 0, 12, .inl fC)), (aFq, .inl (K.2 0, 12, .inl fQ))] 2 12
      refine z_aload_n hG dX5_ways_10 1 rfl ?_
      refine z_get (ci := 5) (C := RX5) (T := TX5) (N := 8) hG dX5_ways_11 iX5_ways_X5 1 (by decide) mX5_ways_0 rfl rfl 0 rfl rfl ?_
      refine z_get (ci := 2) (C := RX2) (T := TX2) (N := 4) hG dX5_ways_14 iX5_ways_X2 1 (by decide) mX5_ways_2 rfl rfl 4 rfl rfl ?_
      refine z_iload_n hG dX5_ways_17 0 rfl ?_
      obtain ⟨hg, hres⟩ := z_guard hres
      refine z_iald hG dX5_ways_18 6 rfl hg ?_
      obtain rfl := Option.some.inj hres
      exact (z_wid (Nat.le_of_ble_eq_true rfl) (Nat.le_of_ble_eq_true rfl) (hR _ rfl _ _ dX5_ways_19))
    · rcases hv1 : v4 with x5 | r6
      · rw [hv1] at ho
        obtain rfl := Sum.inl.inj ho
        replace hres := z_elimL hv1 hres
        obtain rfl := Option.some.inj hres
        exact z_xwid (Nat.le_of_ble_eq_true rfl) (Nat.le_of_ble_eq_true rfl) (hP _ rfl _ _)
      rw [hv1] at ho
      cases ho
  · rcases hv1 : v1 with x2 | r3
    · rw [hv1] at ho
      obtain rfl := Sum.inl.inj ho
      replace hres := z_elimL hv1 hres
      obtain rfl := Option.some.inj hres
      exact z_xwid (Nat.le_of_ble_eq_true rfl) (Nat.le_of_ble_eq_true rfl) (hP _ rfl _ _)
    rw [hv1] at ho
    cases ho

theorem dX5_comes_0 : decode cX5_comes 0 = .ok (.aload_n 0, 1) := by decide +kernel
theorem dX5_comes_1 : decode cX5_comes 1 = .ok (.invokevirtual 134, 3) := by decide +kernel
theorem dX5_comes_4 : decode cX5_comes 4 = .ok (.iload_n 1, 1) := by decide +kernel
theorem dX5_comes_5 : decode cX5_comes 5 = .ok (.ifCond .lt 14, 3) := by decide +kernel
theorem dX5_comes_8 : decode cX5_comes 8 = .ok (.iload_n 1, 1) := by decide +kernel
theorem dX5_comes_9 : decode cX5_comes 9 = .ok (.aload_n 0, 1) := by decide +kernel
theorem dX5_comes_10 : decode cX5_comes 10 = .ok (.getfield 19, 3) := by decide +kernel
theorem dX5_comes_13 : decode cX5_comes 13 = .ok (.getfield 131, 3) := by decide +kernel
theorem dX5_comes_16 : decode cX5_comes 16 = .ok (.if_icmp .lt 13, 3) := by decide +kernel
theorem dX5_comes_19 : decode cX5_comes 19 = .ok (.new 122, 3) := by decide +kernel
theorem dX5_comes_22 : decode cX5_comes 22 = .ok (.dup, 1) := by decide +kernel
theorem dX5_comes_23 : decode cX5_comes 23 = .ok (.ldc 146, 2) := by decide +kernel
theorem dX5_comes_25 : decode cX5_comes 25 = .ok (.invokespecial 126, 3) := by decide +kernel
theorem dX5_comes_28 : decode cX5_comes 28 = .ok (.athrow, 1) := by decide +kernel
theorem dX5_comes_29 : decode cX5_comes 29 = .ok (.aload_n 0, 1) := by decide +kernel
theorem dX5_comes_30 : decode cX5_comes 30 = .ok (.getfield 10, 3) := by decide +kernel
theorem dX5_comes_33 : decode cX5_comes 33 = .ok (.getfield 127, 3) := by decide +kernel
theorem dX5_comes_36 : decode cX5_comes 36 = .ok (.aload_n 0, 1) := by decide +kernel
theorem dX5_comes_37 : decode cX5_comes 37 = .ok (.getfield 19, 3) := by decide +kernel
theorem dX5_comes_40 : decode cX5_comes 40 = .ok (.getfield 148, 3) := by decide +kernel
theorem dX5_comes_43 : decode cX5_comes 43 = .ok (.iload_n 1, 1) := by decide +kernel
theorem dX5_comes_44 : decode cX5_comes 44 = .ok (.iaload, 1) := by decide +kernel
theorem dX5_comes_45 : decode cX5_comes 45 = .ok (.iaload, 1) := by decide +kernel
theorem dX5_comes_46 : decode cX5_comes 46 = .ok (.ireturn, 1) := by decide +kernel
set_option maxRecDepth 20000 in
theorem ggX5_comes_X5_needStart : GoodIn wsX5_comes wsX5_needStart := goodIn_ca (goodIn_r _ [12, 13, 14, 15, 16, 17, 18, 19, 20, 21, 22, 23] (by decide +kernel) (by decide +kernel)) (goodIn_sub (fun _ h => List.mem_cons_of_mem _ (List.mem_append_right _ h)) (by decide +kernel))
set_option maxRecDepth 20000 in
theorem gX5_comes_X5_needStart : GoodIn wsX5_comes (wsV RX5 134 RX5 yX5_needStart wsX5_needStart) := goodIn_app (goodIn_of _ (by decide +kernel)) ggX5_comes_X5_needStart
theorem mX5_comes_0 : Cond.classLink RX5 122 "java/lang/IndexOutOfBoundsException" ∈ wsX5_comes := by decide +kernel
theorem mX5_comes_1 : Cond.initialized "java/lang/IndexOutOfBoundsException" ∈ wsX5_comes := by decide +kernel
theorem hX5_comes_126 : ∀ w ∈ (vx_atS RX5 126 "java/lang/IndexOutOfBoundsException" ["java/lang/RuntimeException", "java/lang/Exception"]).filter goodWord, w ∈ wsX5_comes := fun w h => List.mem_cons_of_mem _ (List.mem_append_left _ (List.mem_append_right _ h))
theorem mX5_comes_3 : Cond.fieldLink RX5 19 "Layerways" "fromStart" "LLayerways$Layers;" ∈ wsX5_comes := by decide +kernel
theorem iX5_comes_X5 : ∀ w ∈ u_ws RX5 TX5 8, w ∈ wsX5_comes := by decide +kernel
theorem mX5_comes_5 : Cond.fieldLink RX5 131 "Layerways$Layers" "come" "I" ∈ wsX5_comes := by decide +kernel
theorem iX5_comes_X2 : ∀ w ∈ u_ws RX2 TX2 4, w ∈ wsX5_comes := by decide +kernel
theorem mX5_comes_7 : Cond.fieldLink RX5 10 "Layerways" "net" "LLayerways$Net;" ∈ wsX5_comes := by decide +kernel
theorem mX5_comes_8 : Cond.fieldLink RX5 127 "Layerways$Net" "keys" "[I" ∈ wsX5_comes := by decide +kernel
theorem iX5_comes_X3 : ∀ w ∈ u_ws RX3 TX3 3, w ∈ wsX5_comes := by decide +kernel
theorem mX5_comes_10 : Cond.fieldLink RX5 148 "Layerways$Layers" "queue" "[I" ∈ wsX5_comes := by decide +kernel
def fX5_comes (gB : Int32) (nK : (Nat → Int32)) (fM : Int32) (fQ : (Nat → Int32)) (p0 : Int32) : Option ((String ⊕ Int32)) := (fX5_needStart gB).bind fun v1 => Sum.elim (fun x2 : String => some (.inl x2)) (fun r3 : Unit => if p0 < 0 then some (.inl "java/lang/IndexOutOfBoundsException") else if p0 < fM then if zin p0 12 then if zin (fQ p0.toNatClampNeg) 12 then some (.inr (nK (fQ p0.toNatClampNeg).toNatClampNeg)) else none else none else some (.inl "java/lang/IndexOutOfBoundsException")) v1
set_option maxRecDepth 100000 in
set_option maxHeartbeats 4000000 in
theorem kX5_comes (l : Launch) (K : zK) (aH : Nat) (aN : Nat) (aNk : Nat) (aNn : Nat) (aF : Nat) (aFl : Nat) (aFc : Nat) (aFq : Nat) (aA : Nat) (aC : Nat) (aO : Nat) (aX : Nat)  (gB : Int32) (gK : Int32) (nS : Int32) (nK : (Nat → Int32)) (nN : (Nat → Int32)) (fM : Int32) (fL : (Nat → Int32)) (fC : (Nat → Int32)) (fQ : (Nat → Int32)) (p0 : Int32) (r : (String ⊕ Int32)) (hres : fX5_comes gB nK fM fQ p0 = some r) : zX l K yX5_comes wsX5_comes ({ frames := 7, cells := 8, slots := 48, locals := 102 }) [.ref aH, .int p0] [(aH, .inr (5, [.ref aN, .ref aF, .ref aA, .ref aC, .ref aO, .ref aX, .int gB, .int gK])), (aN, .inr (3, [.ref aNk, .ref aNn, .int nS])), (aNk, .inl (K.2 0, 12, .inl nK)), (aNn, .inl (K.2 0, 12, .inl nN)), (aF, .inr (2, [.ref aFl, .ref aFc, .ref aFq, .int fM])), (aFl, .inl (K.2 0, 12, .inl fL)), (aFc, .inl (K.2 0, 12, .inl fC)), (aFq, .inl (K.2 0, 12, .inl fQ))] (zoI r) [(aH, .inr (5, [.ref aN, .ref aF, .ref aA, .ref aC, .ref aO, .ref aX, .int gB, .int gK])), (aN, .inr (3, [.ref aNk, .ref aNn, .int nS])), (aNk, .inl (K.2 0, 12, .inl nK)), (aNn, .inl (K.2 0, 12, .inl nN)), (aF, .inr (2, [.ref aFl, .ref aFc, .ref aFq, .int fM])), (aFl, .inl (K.2 0, 12, .inl fL)), (aFc, .inl (K.2 0, 12, .inl fC)), (aFq, .inl (K.2 0, 12, .inl fQ))] 8 48 := by
  refine zX.intI (cc := cX5_comes) (maxL := 2) (ret := (some .int)) rfl (by decide) (Nat.le_of_ble_eq_true rfl) rfl ?_
  intro G hGl hG hV hR hT hP
  unfold fX5_comes at hres
  show zj G 0 [(0, .ref aH), (1, .int p0)] [] [(aH, .inr (5, [.ref aN, .ref aF, .ref aA, .ref aC, .ref aO, .ref aX, .int gB, .int gK])), (aN, .inr (3, [.ref aNk, .ref aNn, .int nS])), (aNk, .inl (K.2 0, 12, .inl nK)), (aNn, .inl (K.2 0, 12, .inl nN)), (aF, .inr (2, [.ref aFl, .ref aFc, .ref aFq, .int fM])), (aFl, .inl (K.2 0, 12, .inl fL)), (aFc, .inl (K.2 0, 12, .inl fC)), (aFq, .inl (K.2 0, 12, .inl fQ))] 0 0
  refine z_aload_n hG dX5_comes_0 0 rfl ?_
  obtain ⟨v1, hv, hres⟩ := z_bind hres
  refine z_callX (As := []) (rest := []) (wr := [(aN, .inr (3, [.ref aNk, .ref aNn, .int nS])), (aNk, .inl (K.2 0, 12, .inl nK)), (aNn, .inl (K.2 0, 12, .inl nN)), (aF, .inr (2, [.ref aFl, .ref aFc, .ref aFq, .int fM])), (aFl, .inl (K.2 0, 12, .inl fL)), (aFc, .inl (K.2 0, 12, .inl fC)), (aFq, .inl (K.2 0, 12, .inl fQ))]) (ws' := [(aH, .inr (5, [.ref aN, .ref aF, .ref aA, .ref aC, .ref aO, .ref aX, .int gB, .int gK])), (aN, .inr (3, [.ref aNk, .ref aNn, .int nS])), (aNk, .inl (K.2 0, 12, .inl nK)), (aNn, .inl (K.2 0, 12, .inl nN)), (aF, .inr (2, [.ref aFl, .ref aFc, .ref aFq, .int fM])), (aFl, .inl (K.2 0, 12, .inl fL)), (aFc, .inl (K.2 0, 12, .inl fC)), (aFq, .inl (K.2 0, 12, .inl fQ))]) (kc' := 1) (ks' := 6) (n := 0) (C := RX5) (ci := 5) hG hV dX5_comes_1 (kX5_needStart _ K aH aN aF aA aC aO aX gB gK v1 hv) gX5_comes_X5_needStart rfl rfl rfl ⟨rfl, by decide, by decide, rfl⟩ ⟨by decide, by decide⟩ (Nat.le_of_ble_eq_true rfl) ⟨(Nat.le_of_ble_eq_true rfl), (Nat.le_of_ble_eq_true rfl)⟩ [0] [1, 2, 3, 4, 5, 6, 7] [7, 0, 1, 2, 3, 4, 5, 6] rfl rfl rfl rfl (by decide) rfl rfl rfl rfl rfl 0 rfl rfl rfl rfl (fun o9 ho => ?_) (fun E9 ho => ?_)
  · rcases hv1 : v1 with x2 | r3
    · rw [hv1] at ho
      cases ho
    rw [hv1] at ho
    obtain rfl := Sum.inr.inj ho
    replace hres := z_elimR hv1 hres
    show zj G 4 [(0, .ref aH), (1, .int p0)] [] [(aH, .inr (5, [.ref aN, .ref aF, .ref aA, .ref aC, .ref aO, .ref aX, .int gB, .int gK])), (aN, .inr (3, [.ref aNk, .ref aNn, .int nS])), (aNk, .inl (K.2 0, 12, .inl nK)), (aNn, .inl (K.2 0, 12, .inl nN)), (aF, .inr (2, [.ref aFl, .ref aFc, .ref aFq, .int fM])), (aFl, .inl (K.2 0, 12, .inl fL)), (aFc, .inl (K.2 0, 12, .inl fC)), (aFq, .inl (K.2 0, 12, .inl fQ))] 1 6
    refine z_iload_n hG dX5_comes_4 1 rfl ?_
    refine z_if_lt 19 hG dX5_comes_5 (by decide) (fun c => ?_) (fun c => ?_)
    · replace hres := z_ifp c hres
      obtain rfl := Option.some.inj hres
      exact z_throw "not so many come" hG (hT _ rfl) (by decide) mX5_comes_0 mX5_comes_1 (by decide) rfl (by decide) hX5_comes_126 zng_IndexOutOfBoundsException zgd_IndexOutOfBoundsException dX5_comes_19 dX5_comes_22 dX5_comes_23 dX5_comes_25 dX5_comes_28 (by decide) (Nat.le_of_ble_eq_true rfl) (Nat.le_of_ble_eq_true rfl) (Nat.le_of_ble_eq_true rfl) (Nat.le_of_ble_eq_true rfl) (Nat.le_of_ble_eq_true rfl)
    · replace hres := z_ifn c hres
      refine z_iload_n hG dX5_comes_8 1 rfl ?_
      refine z_aload_n hG dX5_comes_9 0 rfl ?_
      refine z_get (ci := 5) (C := RX5) (T := TX5) (N := 8) hG dX5_comes_10 iX5_comes_X5 1 (by decide) mX5_comes_3 rfl rfl 0 rfl rfl ?_
      refine z_get (ci := 2) (C := RX2) (T := TX2) (N := 4) hG dX5_comes_13 iX5_comes_X2 3 (by decide) mX5_comes_5 rfl rfl 4 rfl rfl ?_
      refine z_icmp_lt 29 hG dX5_comes_16 (by decide) (fun c => ?_) (fun c => ?_)
      · replace hres := z_ifp c hres
        refine z_aload_n hG dX5_comes_29 0 rfl ?_
        refine z_get (ci := 5) (C := RX5) (T := TX5) (N := 8) hG dX5_comes_30 iX5_comes_X5 0 (by decide) mX5_comes_7 rfl rfl 0 rfl rfl ?_
        refine z_get (ci := 3) (C := RX3) (T := TX3) (N := 3) hG dX5_comes_33 iX5_comes_X3 0 (by decide) mX5_comes_8 rfl rfl 1 rfl rfl ?_
        refine z_aload_n hG dX5_comes_36 0 rfl ?_
        refine z_get (ci := 5) (C := RX5) (T := TX5) (N := 8) hG dX5_comes_37 iX5_comes_X5 1 (by decide) mX5_comes_3 rfl rfl 0 rfl rfl ?_
        refine z_get (ci := 2) (C := RX2) (T := TX2) (N := 4) hG dX5_comes_40 iX5_comes_X2 2 (by decide) mX5_comes_10 rfl rfl 4 rfl rfl ?_
        refine z_iload_n hG dX5_comes_43 1 rfl ?_
        obtain ⟨hg, hres⟩ := z_guard hres
        refine z_iald hG dX5_comes_44 7 rfl hg ?_
        obtain ⟨hg, hres⟩ := z_guard hres
        refine z_iald hG dX5_comes_45 2 rfl hg ?_
        obtain rfl := Option.some.inj hres
        exact (z_wid (Nat.le_of_ble_eq_true rfl) (Nat.le_of_ble_eq_true rfl) (hR _ rfl _ _ dX5_comes_46))
      · replace hres := z_ifn c hres
        obtain rfl := Option.some.inj hres
        exact z_throw "not so many come" hG (hT _ rfl) (by decide) mX5_comes_0 mX5_comes_1 (by decide) rfl (by decide) hX5_comes_126 zng_IndexOutOfBoundsException zgd_IndexOutOfBoundsException dX5_comes_19 dX5_comes_22 dX5_comes_23 dX5_comes_25 dX5_comes_28 (by decide) (Nat.le_of_ble_eq_true rfl) (Nat.le_of_ble_eq_true rfl) (Nat.le_of_ble_eq_true rfl) (Nat.le_of_ble_eq_true rfl) (Nat.le_of_ble_eq_true rfl)
  · rcases hv1 : v1 with x2 | r3
    · rw [hv1] at ho
      obtain rfl := Sum.inl.inj ho
      replace hres := z_elimL hv1 hres
      obtain rfl := Option.some.inj hres
      exact z_xwid (Nat.le_of_ble_eq_true rfl) (Nat.le_of_ble_eq_true rfl) (hP _ rfl _ _)
    rw [hv1] at ho
    cases ho

theorem dX5_layer_0 : decode cX5_layer 0 = .ok (.aload_n 0, 1) := by decide +kernel
theorem dX5_layer_1 : decode cX5_layer 1 = .ok (.invokevirtual 134, 3) := by decide +kernel
theorem dX5_layer_4 : decode cX5_layer 4 = .ok (.iload_n 1, 1) := by decide +kernel
theorem dX5_layer_5 : decode cX5_layer 5 = .ok (.ifCond .ge 5, 3) := by decide +kernel
theorem dX5_layer_8 : decode cX5_layer 8 = .ok (.iconst 0, 1) := by decide +kernel
theorem dX5_layer_9 : decode cX5_layer 9 = .ok (.ireturn, 1) := by decide +kernel
theorem dX5_layer_10 : decode cX5_layer 10 = .ok (.iconst 0, 1) := by decide +kernel
theorem dX5_layer_11 : decode cX5_layer 11 = .ok (.istore_n 2, 1) := by decide +kernel
theorem dX5_layer_12 : decode cX5_layer 12 = .ok (.iconst 0, 1) := by decide +kernel
theorem dX5_layer_13 : decode cX5_layer 13 = .ok (.istore_n 3, 1) := by decide +kernel
theorem dX5_layer_14 : decode cX5_layer 14 = .ok (.iload_n 3, 1) := by decide +kernel
theorem dX5_layer_15 : decode cX5_layer 15 = .ok (.aload_n 0, 1) := by decide +kernel
theorem dX5_layer_16 : decode cX5_layer 16 = .ok (.getfield 10, 3) := by decide +kernel
theorem dX5_layer_19 : decode cX5_layer 19 = .ok (.getfield 66, 3) := by decide +kernel
theorem dX5_layer_22 : decode cX5_layer 22 = .ok (.if_icmp .ge 25, 3) := by decide +kernel
theorem dX5_layer_25 : decode cX5_layer 25 = .ok (.aload_n 0, 1) := by decide +kernel
theorem dX5_layer_26 : decode cX5_layer 26 = .ok (.getfield 19, 3) := by decide +kernel
theorem dX5_layer_29 : decode cX5_layer 29 = .ok (.getfield 137, 3) := by decide +kernel
theorem dX5_layer_32 : decode cX5_layer 32 = .ok (.iload_n 3, 1) := by decide +kernel
theorem dX5_layer_33 : decode cX5_layer 33 = .ok (.iaload, 1) := by decide +kernel
theorem dX5_layer_34 : decode cX5_layer 34 = .ok (.iload_n 1, 1) := by decide +kernel
theorem dX5_layer_35 : decode cX5_layer 35 = .ok (.if_icmp .ne 6, 3) := by decide +kernel
theorem dX5_layer_38 : decode cX5_layer 38 = .ok (.iinc 2 1, 3) := by decide +kernel
theorem dX5_layer_41 : decode cX5_layer 41 = .ok (.iinc 3 1, 3) := by decide +kernel
theorem dX5_layer_44 : decode cX5_layer 44 = .ok (.goto (-30), 3) := by decide +kernel
theorem dX5_layer_47 : decode cX5_layer 47 = .ok (.iload_n 2, 1) := by decide +kernel
theorem dX5_layer_48 : decode cX5_layer 48 = .ok (.ireturn, 1) := by decide +kernel
set_option maxRecDepth 20000 in
theorem ggX5_layer_X5_needStart : GoodIn wsX5_layer wsX5_needStart := goodIn_ca (goodIn_r _ [9, 10, 11, 12, 13, 14, 15, 16, 17, 18, 19, 20] (by decide +kernel) (by decide +kernel)) (goodIn_sub (fun _ h => List.mem_cons_of_mem _ (List.mem_append_right _ h)) (by decide +kernel))
set_option maxRecDepth 20000 in
theorem gX5_layer_X5_needStart : GoodIn wsX5_layer (wsV RX5 134 RX5 yX5_needStart wsX5_needStart) := goodIn_app (goodIn_of _ (by decide +kernel)) ggX5_layer_X5_needStart
theorem mX5_layer_0 : Cond.fieldLink RX5 10 "Layerways" "net" "LLayerways$Net;" ∈ wsX5_layer := by decide +kernel
theorem iX5_layer_X5 : ∀ w ∈ u_ws RX5 TX5 8, w ∈ wsX5_layer := by decide +kernel
theorem mX5_layer_2 : Cond.fieldLink RX5 66 "Layerways$Net" "size" "I" ∈ wsX5_layer := by decide +kernel
theorem iX5_layer_X3 : ∀ w ∈ u_ws RX3 TX3 3, w ∈ wsX5_layer := by decide +kernel
theorem mX5_layer_4 : Cond.fieldLink RX5 19 "Layerways" "fromStart" "LLayerways$Layers;" ∈ wsX5_layer := by decide +kernel
theorem mX5_layer_5 : Cond.fieldLink RX5 137 "Layerways$Layers" "lengths" "[I" ∈ wsX5_layer := by decide +kernel
theorem iX5_layer_X2 : ∀ w ∈ u_ws RX2 TX2 4, w ∈ wsX5_layer := by decide +kernel
def sX5_layer_14 (nS : Int32) (fL : (Nat → Int32)) (p0 : Int32) (s4 : Int32 × Int32) : Option ((Int32 × Int32) ⊕ (Int32 × Int32)) := if nS ≤ s4.2 then some (.inl (s4.1, s4.2)) else if zin s4.2 12 then if (fL s4.2.toNatClampNeg) = p0 then some (.inr ((s4.1 + 1), (s4.2 + 1))) else some (.inr (s4.1, (s4.2 + 1))) else none
def fX5_layer (gB : Int32) (nS : Int32) (fL : (Nat → Int32)) (p0 : Int32) : Option ((String ⊕ Int32)) := (fX5_needStart gB).bind fun v1 => Sum.elim (fun x2 : String => some (.inl x2)) (fun r3 : Unit => if 0 ≤ p0 then (zloop (sX5_layer_14 nS fL p0) 32 (0, 0)).bind fun e6 => some (.inr e6.1) else some (.inr 0)) v1
set_option maxRecDepth 100000 in
set_option maxHeartbeats 4000000 in
theorem kX5_layer (l : Launch) (K : zK) (aH : Nat) (aN : Nat) (aNk : Nat) (aNn : Nat) (aF : Nat) (aFl : Nat) (aFc : Nat) (aFq : Nat) (aA : Nat) (aC : Nat) (aO : Nat) (aX : Nat)  (gB : Int32) (gK : Int32) (nS : Int32) (nK : (Nat → Int32)) (nN : (Nat → Int32)) (fM : Int32) (fL : (Nat → Int32)) (fC : (Nat → Int32)) (fQ : (Nat → Int32)) (p0 : Int32) (r : (String ⊕ Int32)) (hres : fX5_layer gB nS fL p0 = some r) : zX l K yX5_layer wsX5_layer ({ frames := 7, cells := 8, slots := 48, locals := 102 }) [.ref aH, .int p0] [(aH, .inr (5, [.ref aN, .ref aF, .ref aA, .ref aC, .ref aO, .ref aX, .int gB, .int gK])), (aN, .inr (3, [.ref aNk, .ref aNn, .int nS])), (aNk, .inl (K.2 0, 12, .inl nK)), (aNn, .inl (K.2 0, 12, .inl nN)), (aF, .inr (2, [.ref aFl, .ref aFc, .ref aFq, .int fM])), (aFl, .inl (K.2 0, 12, .inl fL)), (aFc, .inl (K.2 0, 12, .inl fC)), (aFq, .inl (K.2 0, 12, .inl fQ))] (zoI r) [(aH, .inr (5, [.ref aN, .ref aF, .ref aA, .ref aC, .ref aO, .ref aX, .int gB, .int gK])), (aN, .inr (3, [.ref aNk, .ref aNn, .int nS])), (aNk, .inl (K.2 0, 12, .inl nK)), (aNn, .inl (K.2 0, 12, .inl nN)), (aF, .inr (2, [.ref aFl, .ref aFc, .ref aFq, .int fM])), (aFl, .inl (K.2 0, 12, .inl fL)), (aFc, .inl (K.2 0, 12, .inl fC)), (aFq, .inl (K.2 0, 12, .inl fQ))] 8 48 := by
  refine zX.intI (cc := cX5_layer) (maxL := 4) (ret := (some .int)) rfl (by decide) (Nat.le_of_ble_eq_true rfl) rfl ?_
  intro G hGl hG hV hR hT hP
  unfold fX5_layer at hres
  show zj G 0 [(0, .ref aH), (1, .int p0)] [] [(aH, .inr (5, [.ref aN, .ref aF, .ref aA, .ref aC, .ref aO, .ref aX, .int gB, .int gK])), (aN, .inr (3, [.ref aNk, .ref aNn, .int nS])), (aNk, .inl (K.2 0, 12, .inl nK)), (aNn, .inl (K.2 0, 12, .inl nN)), (aF, .inr (2, [.ref aFl, .ref aFc, .ref aFq, .int fM])), (aFl, .inl (K.2 0, 12, .inl fL)), (aFc, .inl (K.2 0, 12, .inl fC)), (aFq, .inl (K.2 0, 12, .inl fQ))] 0 0
  refine z_aload_n hG dX5_layer_0 0 rfl ?_
  obtain ⟨v1, hv, hres⟩ := z_bind hres
  refine z_callX (As := []) (rest := []) (wr := [(aN, .inr (3, [.ref aNk, .ref aNn, .int nS])), (aNk, .inl (K.2 0, 12, .inl nK)), (aNn, .inl (K.2 0, 12, .inl nN)), (aF, .inr (2, [.ref aFl, .ref aFc, .ref aFq, .int fM])), (aFl, .inl (K.2 0, 12, .inl fL)), (aFc, .inl (K.2 0, 12, .inl fC)), (aFq, .inl (K.2 0, 12, .inl fQ))]) (ws' := [(aH, .inr (5, [.ref aN, .ref aF, .ref aA, .ref aC, .ref aO, .ref aX, .int gB, .int gK])), (aN, .inr (3, [.ref aNk, .ref aNn, .int nS])), (aNk, .inl (K.2 0, 12, .inl nK)), (aNn, .inl (K.2 0, 12, .inl nN)), (aF, .inr (2, [.ref aFl, .ref aFc, .ref aFq, .int fM])), (aFl, .inl (K.2 0, 12, .inl fL)), (aFc, .inl (K.2 0, 12, .inl fC)), (aFq, .inl (K.2 0, 12, .inl fQ))]) (kc' := 1) (ks' := 6) (n := 0) (C := RX5) (ci := 5) hG hV dX5_layer_1 (kX5_needStart _ K aH aN aF aA aC aO aX gB gK v1 hv) gX5_layer_X5_needStart rfl rfl rfl ⟨rfl, by decide, by decide, rfl⟩ ⟨by decide, by decide⟩ (Nat.le_of_ble_eq_true rfl) ⟨(Nat.le_of_ble_eq_true rfl), (Nat.le_of_ble_eq_true rfl)⟩ [0] [1, 2, 3, 4, 5, 6, 7] [7, 0, 1, 2, 3, 4, 5, 6] rfl rfl rfl rfl (by decide) rfl rfl rfl rfl rfl 0 rfl rfl rfl rfl (fun o9 ho => ?_) (fun E9 ho => ?_)
  · rcases hv1 : v1 with x2 | r3
    · rw [hv1] at ho
      cases ho
    rw [hv1] at ho
    obtain rfl := Sum.inr.inj ho
    replace hres := z_elimR hv1 hres
    show zj G 4 [(0, .ref aH), (1, .int p0)] [] [(aH, .inr (5, [.ref aN, .ref aF, .ref aA, .ref aC, .ref aO, .ref aX, .int gB, .int gK])), (aN, .inr (3, [.ref aNk, .ref aNn, .int nS])), (aNk, .inl (K.2 0, 12, .inl nK)), (aNn, .inl (K.2 0, 12, .inl nN)), (aF, .inr (2, [.ref aFl, .ref aFc, .ref aFq, .int fM])), (aFl, .inl (K.2 0, 12, .inl fL)), (aFc, .inl (K.2 0, 12, .inl fC)), (aFq, .inl (K.2 0, 12, .inl fQ))] 1 6
    refine z_iload_n hG dX5_layer_4 1 rfl ?_
    refine z_if_ge 10 hG dX5_layer_5 (by decide) (fun c => ?_) (fun c => ?_)
    · replace hres := z_ifp c hres
      refine z_iconst 0 hG dX5_layer_10 (by decide) ?_
      refine z_istore_n (lv' := [(2, .int 0), (0, .ref aH), (1, .int p0)]) hG dX5_layer_11 (by decide) rfl ?_
      refine z_iconst 0 hG dX5_layer_12 (by decide) ?_
      refine z_istore_n (lv' := [(3, .int 0), (2, .int 0), (0, .ref aH), (1, .int p0)]) hG dX5_layer_13 (by decide) rfl ?_
      obtain ⟨e6, hx, hres⟩ := z_bind hres
      refine z_lv [2, 3, 1, 0] (lv' := [(0, .ref aH), (1, .int p0), (2, .int 0), (3, .int 0)]) rfl ?_
      refine z_loop hx (fun s4 : Int32 × Int32 => [(0, .ref aH), (1, .int p0), (2, .int s4.1), (3, .int s4.2)]) (fun s4 : Int32 × Int32 => [(aH, .inr (5, [.ref aN, .ref aF, .ref aA, .ref aC, .ref aO, .ref aX, .int gB, .int gK])), (aN, .inr (3, [.ref aNk, .ref aNn, .int nS])), (aNk, .inl (K.2 0, 12, .inl nK)), (aNn, .inl (K.2 0, 12, .inl nN)), (aF, .inr (2, [.ref aFl, .ref aFc, .ref aFq, .int fM])), (aFl, .inl (K.2 0, 12, .inl fL)), (aFc, .inl (K.2 0, 12, .inl fC)), (aFq, .inl (K.2 0, 12, .inl fQ))]) (fun e6 : Int32 × Int32 => zj G 47 [(0, .ref aH), (1, .int p0), (2, .int e6.1), (3, .int e6.2)] [] [(aH, .inr (5, [.ref aN, .ref aF, .ref aA, .ref aC, .ref aO, .ref aX, .int gB, .int gK])), (aN, .inr (3, [.ref aNk, .ref aNn, .int nS])), (aNk, .inl (K.2 0, 12, .inl nK)), (aNn, .inl (K.2 0, 12, .inl nN)), (aF, .inr (2, [.ref aFl, .ref aFc, .ref aFq, .int fM])), (aFl, .inl (K.2 0, 12, .inl fL)), (aFc, .inl (K.2 0, 12, .inl fC)), (aFq, .inl (K.2 0, 12, .inl fQ))] 1 6) ?_ ?_
      · refine z_iload_n hG dX5_layer_47 2 rfl ?_
        obtain rfl := Option.some.inj hres
        exact (z_wid (Nat.le_of_ble_eq_true rfl) (Nat.le_of_ble_eq_true rfl) (hR _ rfl _ _ dX5_layer_48))
      · intro s4 w5 hres hX hB
        unfold sX5_layer_14 at hres
        replace hB : ∀ (z0 : Int32) (z1 : Int32), w5 = .inr (z0, z1) → zj G 14 [(0, .ref aH), (1, .int p0), (2, .int z0), (3, .int z1)] [] [(aH, .inr (5, [.ref aN, .ref aF, .ref aA, .ref aC, .ref aO, .ref aX, .int gB, .int gK])), (aN, .inr (3, [.ref aNk, .ref aNn, .int nS])), (aNk, .inl (K.2 0, 12, .inl nK)), (aNn, .inl (K.2 0, 12, .inl nN)), (aF, .inr (2, [.ref aFl, .ref aFc, .ref aFq, .int fM])), (aFl, .inl (K.2 0, 12, .inl fL)), (aFc, .inl (K.2 0, 12, .inl fC)), (aFq, .inl (K.2 0, 12, .inl fQ))] 1 6 := fun z0 z1 h => hB (z0, z1) h
        replace hX : ∀ (z0 : Int32) (z1 : Int32), w5 = .inl (z0, z1) → zj G 47 [(0, .ref aH), (1, .int p0), (2, .int z0), (3, .int z1)] [] [(aH, .inr (5, [.ref aN, .ref aF, .ref aA, .ref aC, .ref aO, .ref aX, .int gB, .int gK])), (aN, .inr (3, [.ref aNk, .ref aNn, .int nS])), (aNk, .inl (K.2 0, 12, .inl nK)), (aNn, .inl (K.2 0, 12, .inl nN)), (aF, .inr (2, [.ref aFl, .ref aFc, .ref aFq, .int fM])), (aFl, .inl (K.2 0, 12, .inl fL)), (aFc, .inl (K.2 0, 12, .inl fC)), (aFq, .inl (K.2 0, 12, .inl fQ))] 1 6 := fun z0 z1 h => hX (z0, z1) h
        refine z_iload_n hG dX5_layer_14 3 rfl ?_
        refine z_aload_n hG dX5_layer_15 0 rfl ?_
        refine z_get (ci := 5) (C := RX5) (T := TX5) (N := 8) hG dX5_layer_16 iX5_layer_X5 0 (by decide) mX5_layer_0 rfl rfl 0 rfl rfl ?_
        refine z_get (ci := 3) (C := RX3) (T := TX3) (N := 3) hG dX5_layer_19 iX5_layer_X3 2 (by decide) mX5_layer_2 rfl rfl 1 rfl rfl ?_
        refine z_icmp_ge 47 hG dX5_layer_22 (by decide) (fun c => ?_) (fun c => ?_)
        · replace hres := z_ifp c hres
          exact (hX s4.1 s4.2 (Option.some.inj hres).symm)
        · replace hres := z_ifn c hres
          refine z_aload_n hG dX5_layer_25 0 rfl ?_
          refine z_get (ci := 5) (C := RX5) (T := TX5) (N := 8) hG dX5_layer_26 iX5_layer_X5 1 (by decide) mX5_layer_4 rfl rfl 0 rfl rfl ?_
          refine z_get (ci := 2) (C := RX2) (T := TX2) (N := 4) hG dX5_layer_29 iX5_layer_X2 0 (by decide) mX5_layer_5 rfl rfl 4 rfl rfl ?_
          refine z_iload_n hG dX5_layer_32 3 rfl ?_
          obtain ⟨hg, hres⟩ := z_guard hres
          refine z_iald hG dX5_layer_33 5 rfl hg ?_
          refine z_iload_n hG dX5_layer_34 1 rfl ?_
          refine z_icmp_ne 41 hG dX5_layer_35 (by decide) (fun c => ?_) (fun c => ?_)
          · replace hres := z_ifn c hres
            refine z_iinc (s4.2 + 1) (lv' := [(3, .int (s4.2 + 1)), (0, .ref aH), (1, .int p0), (2, .int s4.1)]) hG dX5_layer_41 3 rfl rfl (by decide) rfl ?_
            refine z_goto 14 hG dX5_layer_44 (by decide) ?_
            exact (z_lv [1, 2, 3, 0] rfl (hB s4.1 (s4.2 + 1) (Option.some.inj hres).symm))
          · replace hres := z_ifp c hres
            refine z_iinc (s4.1 + 1) (lv' := [(2, .int (s4.1 + 1)), (0, .ref aH), (1, .int p0), (3, .int s4.2)]) hG dX5_layer_38 2 rfl rfl (by decide) rfl ?_
            refine z_iinc (s4.2 + 1) (lv' := [(3, .int (s4.2 + 1)), (2, .int (s4.1 + 1)), (0, .ref aH), (1, .int p0)]) hG dX5_layer_41 3 rfl rfl (by decide) rfl ?_
            refine z_goto 14 hG dX5_layer_44 (by decide) ?_
            exact (z_lv [2, 3, 1, 0] rfl (hB (s4.1 + 1) (s4.2 + 1) (Option.some.inj hres).symm))
    · replace hres := z_ifn c hres
      refine z_iconst 0 hG dX5_layer_8 (by decide) ?_
      obtain rfl := Option.some.inj hres
      exact (z_wid (Nat.le_of_ble_eq_true rfl) (Nat.le_of_ble_eq_true rfl) (hR _ rfl _ _ dX5_layer_9))
  · rcases hv1 : v1 with x2 | r3
    · rw [hv1] at ho
      obtain rfl := Sum.inl.inj ho
      replace hres := z_elimL hv1 hres
      obtain rfl := Option.some.inj hres
      exact z_xwid (Nat.le_of_ble_eq_true rfl) (Nat.le_of_ble_eq_true rfl) (hP _ rfl _ _)
    rw [hv1] at ho
    cases ho

theorem dX5_farthest_0 : decode cX5_farthest 0 = .ok (.aload_n 0, 1) := by decide +kernel
theorem dX5_farthest_1 : decode cX5_farthest 1 = .ok (.invokevirtual 134, 3) := by decide +kernel
theorem dX5_farthest_4 : decode cX5_farthest 4 = .ok (.iconst 0, 1) := by decide +kernel
theorem dX5_farthest_5 : decode cX5_farthest 5 = .ok (.istore_n 1, 1) := by decide +kernel
theorem dX5_farthest_6 : decode cX5_farthest 6 = .ok (.iconst 0, 1) := by decide +kernel
theorem dX5_farthest_7 : decode cX5_farthest 7 = .ok (.istore_n 2, 1) := by decide +kernel
theorem dX5_farthest_8 : decode cX5_farthest 8 = .ok (.iload_n 2, 1) := by decide +kernel
theorem dX5_farthest_9 : decode cX5_farthest 9 = .ok (.aload_n 0, 1) := by decide +kernel
theorem dX5_farthest_10 : decode cX5_farthest 10 = .ok (.getfield 10, 3) := by decide +kernel
theorem dX5_farthest_13 : decode cX5_farthest 13 = .ok (.getfield 66, 3) := by decide +kernel
theorem dX5_farthest_16 : decode cX5_farthest 16 = .ok (.if_icmp .ge 23, 3) := by decide +kernel
theorem dX5_farthest_19 : decode cX5_farthest 19 = .ok (.iload_n 1, 1) := by decide +kernel
theorem dX5_farthest_20 : decode cX5_farthest 20 = .ok (.aload_n 0, 1) := by decide +kernel
theorem dX5_farthest_21 : decode cX5_farthest 21 = .ok (.getfield 19, 3) := by decide +kernel
theorem dX5_farthest_24 : decode cX5_farthest 24 = .ok (.getfield 137, 3) := by decide +kernel
theorem dX5_farthest_27 : decode cX5_farthest 27 = .ok (.iload_n 2, 1) := by decide +kernel
theorem dX5_farthest_28 : decode cX5_farthest 28 = .ok (.iaload, 1) := by decide +kernel
theorem dX5_farthest_29 : decode cX5_farthest 29 = .ok (.invokestatic 140, 3) := by decide +kernel
theorem dX5_farthest_32 : decode cX5_farthest 32 = .ok (.istore_n 1, 1) := by decide +kernel
theorem dX5_farthest_33 : decode cX5_farthest 33 = .ok (.iinc 2 1, 3) := by decide +kernel
theorem dX5_farthest_36 : decode cX5_farthest 36 = .ok (.goto (-28), 3) := by decide +kernel
theorem dX5_farthest_39 : decode cX5_farthest 39 = .ok (.iload_n 1, 1) := by decide +kernel
theorem dX5_farthest_40 : decode cX5_farthest 40 = .ok (.ireturn, 1) := by decide +kernel
set_option maxRecDepth 20000 in
theorem ggX5_farthest_X5_needStart : GoodIn wsX5_farthest wsX5_needStart := goodIn_ca (goodIn_r _ [13, 14, 15, 16, 17, 18, 19, 20, 21, 22, 23, 24] (by decide +kernel) (by decide +kernel)) (goodIn_sub (fun _ h => List.mem_cons_of_mem _ (List.mem_append_right _ h)) (by decide +kernel))
set_option maxRecDepth 20000 in
theorem gX5_farthest_X5_needStart : GoodIn wsX5_farthest (wsV RX5 134 RX5 yX5_needStart wsX5_needStart) := goodIn_app (goodIn_of _ (by decide +kernel)) ggX5_farthest_X5_needStart
theorem mX5_farthest_0 : Cond.fieldLink RX5 10 "Layerways" "net" "LLayerways$Net;" ∈ wsX5_farthest := by decide +kernel
theorem iX5_farthest_X5 : ∀ w ∈ u_ws RX5 TX5 8, w ∈ wsX5_farthest := by decide +kernel
theorem mX5_farthest_2 : Cond.fieldLink RX5 66 "Layerways$Net" "size" "I" ∈ wsX5_farthest := by decide +kernel
theorem iX5_farthest_X3 : ∀ w ∈ u_ws RX3 TX3 3, w ∈ wsX5_farthest := by decide +kernel
theorem mX5_farthest_4 : Cond.fieldLink RX5 19 "Layerways" "fromStart" "LLayerways$Layers;" ∈ wsX5_farthest := by decide +kernel
theorem mX5_farthest_5 : Cond.fieldLink RX5 137 "Layerways$Layers" "lengths" "[I" ∈ wsX5_farthest := by decide +kernel
theorem iX5_farthest_X2 : ∀ w ∈ u_ws RX2 TX2 4, w ∈ wsX5_farthest := by decide +kernel
theorem mX5_farthest_7 : Cond.methodLink RX5 140 Lib.Math.max.name ∈ wsX5_farthest := by decide +kernel
theorem mX5_farthest_8 : Cond.static Lib.Math.max.name ∈ wsX5_farthest := by decide +kernel
theorem mX5_farthest_9 : Cond.initialized "java/lang/Math" ∈ wsX5_farthest := by decide +kernel
theorem mX5_farthest_10 : Cond.code Lib.Math.max.name Lib.Math.max.code 2 (some .int) ∈ wsX5_farthest := by decide +kernel
def sX5_farthest_8 (nS : Int32) (fL : (Nat → Int32)) (s4 : Int32 × Int32) : Option ((Int32 × Int32) ⊕ (Int32 × Int32)) := if nS ≤ s4.2 then some (.inl (s4.1, s4.2)) else if zin s4.2 12 then some (.inr ((if s4.1 < (fL s4.2.toNatClampNeg) then (fL s4.2.toNatClampNeg) else s4.1), (s4.2 + 1))) else none
def fX5_farthest (gB : Int32) (nS : Int32) (fL : (Nat → Int32)) : Option ((String ⊕ Int32)) := (fX5_needStart gB).bind fun v1 => Sum.elim (fun x2 : String => some (.inl x2)) (fun r3 : Unit => (zloop (sX5_farthest_8 nS fL) 32 (0, 0)).bind fun e6 => some (.inr e6.1)) v1
set_option maxRecDepth 100000 in
set_option maxHeartbeats 4000000 in
theorem kX5_farthest (l : Launch) (K : zK) (aH : Nat) (aN : Nat) (aNk : Nat) (aNn : Nat) (aF : Nat) (aFl : Nat) (aFc : Nat) (aFq : Nat) (aA : Nat) (aC : Nat) (aO : Nat) (aX : Nat)  (gB : Int32) (gK : Int32) (nS : Int32) (nK : (Nat → Int32)) (nN : (Nat → Int32)) (fM : Int32) (fL : (Nat → Int32)) (fC : (Nat → Int32)) (fQ : (Nat → Int32)) (r : (String ⊕ Int32)) (hres : fX5_farthest gB nS fL = some r) : zX l K yX5_farthest wsX5_farthest ({ frames := 7, cells := 8, slots := 48, locals := 102 }) [.ref aH] [(aH, .inr (5, [.ref aN, .ref aF, .ref aA, .ref aC, .ref aO, .ref aX, .int gB, .int gK])), (aN, .inr (3, [.ref aNk, .ref aNn, .int nS])), (aNk, .inl (K.2 0, 12, .inl nK)), (aNn, .inl (K.2 0, 12, .inl nN)), (aF, .inr (2, [.ref aFl, .ref aFc, .ref aFq, .int fM])), (aFl, .inl (K.2 0, 12, .inl fL)), (aFc, .inl (K.2 0, 12, .inl fC)), (aFq, .inl (K.2 0, 12, .inl fQ))] (zoI r) [(aH, .inr (5, [.ref aN, .ref aF, .ref aA, .ref aC, .ref aO, .ref aX, .int gB, .int gK])), (aN, .inr (3, [.ref aNk, .ref aNn, .int nS])), (aNk, .inl (K.2 0, 12, .inl nK)), (aNn, .inl (K.2 0, 12, .inl nN)), (aF, .inr (2, [.ref aFl, .ref aFc, .ref aFq, .int fM])), (aFl, .inl (K.2 0, 12, .inl fL)), (aFc, .inl (K.2 0, 12, .inl fC)), (aFq, .inl (K.2 0, 12, .inl fQ))] 8 48 := by
  refine zX.intI (cc := cX5_farthest) (maxL := 3) (ret := (some .int)) rfl (by decide) (Nat.le_of_ble_eq_true rfl) rfl ?_
  intro G hGl hG hV hR hT hP
  unfold fX5_farthest at hres
  show zj G 0 [(0, .ref aH)] [] [(aH, .inr (5, [.ref aN, .ref aF, .ref aA, .ref aC, .ref aO, .ref aX, .int gB, .int gK])), (aN, .inr (3, [.ref aNk, .ref aNn, .int nS])), (aNk, .inl (K.2 0, 12, .inl nK)), (aNn, .inl (K.2 0, 12, .inl nN)), (aF, .inr (2, [.ref aFl, .ref aFc, .ref aFq, .int fM])), (aFl, .inl (K.2 0, 12, .inl fL)), (aFc, .inl (K.2 0, 12, .inl fC)), (aFq, .inl (K.2 0, 12, .inl fQ))] 0 0
  refine z_aload_n hG dX5_farthest_0 0 rfl ?_
  obtain ⟨v1, hv, hres⟩ := z_bind hres
  refine z_callX (As := []) (rest := []) (wr := [(aN, .inr (3, [.ref aNk, .ref aNn, .int nS])), (aNk, .inl (K.2 0, 12, .inl nK)), (aNn, .inl (K.2 0, 12, .inl nN)), (aF, .inr (2, [.ref aFl, .ref aFc, .ref aFq, .int fM])), (aFl, .inl (K.2 0, 12, .inl fL)), (aFc, .inl (K.2 0, 12, .inl fC)), (aFq, .inl (K.2 0, 12, .inl fQ))]) (ws' := [(aH, .inr (5, [.ref aN, .ref aF, .ref aA, .ref aC, .ref aO, .ref aX, .int gB, .int gK])), (aN, .inr (3, [.ref aNk, .ref aNn, .int nS])), (aNk, .inl (K.2 0, 12, .inl nK)), (aNn, .inl (K.2 0, 12, .inl nN)), (aF, .inr (2, [.ref aFl, .ref aFc, .ref aFq, .int fM])), (aFl, .inl (K.2 0, 12, .inl fL)), (aFc, .inl (K.2 0, 12, .inl fC)), (aFq, .inl (K.2 0, 12, .inl fQ))]) (kc' := 1) (ks' := 6) (n := 0) (C := RX5) (ci := 5) hG hV dX5_farthest_1 (kX5_needStart _ K aH aN aF aA aC aO aX gB gK v1 hv) gX5_farthest_X5_needStart rfl rfl rfl ⟨rfl, by decide, by decide, rfl⟩ ⟨by decide, by decide⟩ (Nat.le_of_ble_eq_true rfl) ⟨(Nat.le_of_ble_eq_true rfl), (Nat.le_of_ble_eq_true rfl)⟩ [0] [1, 2, 3, 4, 5, 6, 7] [7, 0, 1, 2, 3, 4, 5, 6] rfl rfl rfl rfl (by decide) rfl rfl rfl rfl rfl 0 rfl rfl rfl rfl (fun o9 ho => ?_) (fun E9 ho => ?_)
  · rcases hv1 : v1 with x2 | r3
    · rw [hv1] at ho
      cases ho
    rw [hv1] at ho
    obtain rfl := Sum.inr.inj ho
    replace hres := z_elimR hv1 hres
    show zj G 4 [(0, .ref aH)] [] [(aH, .inr (5, [.ref aN, .ref aF, .ref aA, .ref aC, .ref aO, .ref aX, .int gB, .int gK])), (aN, .inr (3, [.ref aNk, .ref aNn, .int nS])), (aNk, .inl (K.2 0, 12, .inl nK)), (aNn, .inl (K.2 0, 12, .inl nN)), (aF, .inr (2, [.ref aFl, .ref aFc, .ref aFq, .int fM])), (aFl, .inl (K.2 0, 12, .inl fL)), (aFc, .inl (K.2 0, 12, .inl fC)), (aFq, .inl (K.2 0, 12, .inl fQ))] 1 6
    refine z_iconst 0 hG dX5_farthest_4 (by decide) ?_
    refine z_istore_n (lv' := [(1, .int 0), (0, .ref aH)]) hG dX5_farthest_5 (by decide) rfl ?_
    refine z_iconst 0 hG dX5_farthest_6 (by decide) ?_
    refine z_istore_n (lv' := [(2, .int 0), (1, .int 0), (0, .ref aH)]) hG dX5_farthest_7 (by decide) rfl ?_
    obtain ⟨e6, hx, hres⟩ := z_bind hres
    refine z_lv [2, 1, 0] (lv' := [(0, .ref aH), (1, .int 0), (2, .int 0)]) rfl ?_
    refine z_loop hx (fun s4 : Int32 × Int32 => [(0, .ref aH), (1, .int s4.1), (2, .int s4.2)]) (fun s4 : Int32 × Int32 => [(aH, .inr (5, [.ref aN, .ref aF, .ref aA, .ref aC, .ref aO, .ref aX, .int gB, .int gK])), (aN, .inr (3, [.ref aNk, .ref aNn, .int nS])), (aNk, .inl (K.2 0, 12, .inl nK)), (aNn, .inl (K.2 0, 12, .inl nN)), (aF, .inr (2, [.ref aFl, .ref aFc, .ref aFq, .int fM])), (aFl, .inl (K.2 0, 12, .inl fL)), (aFc, .inl (K.2 0, 12, .inl fC)), (aFq, .inl (K.2 0, 12, .inl fQ))]) (fun e6 : Int32 × Int32 => zj G 39 [(0, .ref aH), (1, .int e6.1), (2, .int e6.2)] [] [(aH, .inr (5, [.ref aN, .ref aF, .ref aA, .ref aC, .ref aO, .ref aX, .int gB, .int gK])), (aN, .inr (3, [.ref aNk, .ref aNn, .int nS])), (aNk, .inl (K.2 0, 12, .inl nK)), (aNn, .inl (K.2 0, 12, .inl nN)), (aF, .inr (2, [.ref aFl, .ref aFc, .ref aFq, .int fM])), (aFl, .inl (K.2 0, 12, .inl fL)), (aFc, .inl (K.2 0, 12, .inl fC)), (aFq, .inl (K.2 0, 12, .inl fQ))] 1 6) ?_ ?_
    · refine z_iload_n hG dX5_farthest_39 1 rfl ?_
      obtain rfl := Option.some.inj hres
      exact (z_wid (Nat.le_of_ble_eq_true rfl) (Nat.le_of_ble_eq_true rfl) (hR _ rfl _ _ dX5_farthest_40))
    · intro s4 w5 hres hX hB
      unfold sX5_farthest_8 at hres
      replace hB : ∀ (z0 : Int32) (z1 : Int32), w5 = .inr (z0, z1) → zj G 8 [(0, .ref aH), (1, .int z0), (2, .int z1)] [] [(aH, .inr (5, [.ref aN, .ref aF, .ref aA, .ref aC, .ref aO, .ref aX, .int gB, .int gK])), (aN, .inr (3, [.ref aNk, .ref aNn, .int nS])), (aNk, .inl (K.2 0, 12, .inl nK)), (aNn, .inl (K.2 0, 12, .inl nN)), (aF, .inr (2, [.ref aFl, .ref aFc, .ref aFq, .int fM])), (aFl, .inl (K.2 0, 12, .inl fL)), (aFc, .inl (K.2 0, 12, .inl fC)), (aFq, .inl (K.2 0, 12, .inl fQ))] 1 6 := fun z0 z1 h => hB (z0, z1) h
      replace hX : ∀ (z0 : Int32) (z1 : Int32), w5 = .inl (z0, z1) → zj G 39 [(0, .ref aH), (1, .int z0), (2, .int z1)] [] [(aH, .inr (5, [.ref aN, .ref aF, .ref aA, .ref aC, .ref aO, .ref aX, .int gB, .int gK])), (aN, .inr (3, [.ref aNk, .ref aNn, .int nS])), (aNk, .inl (K.2 0, 12, .inl nK)), (aNn, .inl (K.2 0, 12, .inl nN)), (aF, .inr (2, [.ref aFl, .ref aFc, .ref aFq, .int fM])), (aFl, .inl (K.2 0, 12, .inl fL)), (aFc, .inl (K.2 0, 12, .inl fC)), (aFq, .inl (K.2 0, 12, .inl fQ))] 1 6 := fun z0 z1 h => hX (z0, z1) h
      refine z_iload_n hG dX5_farthest_8 2 rfl ?_
      refine z_aload_n hG dX5_farthest_9 0 rfl ?_
      refine z_get (ci := 5) (C := RX5) (T := TX5) (N := 8) hG dX5_farthest_10 iX5_farthest_X5 0 (by decide) mX5_farthest_0 rfl rfl 0 rfl rfl ?_
      refine z_get (ci := 3) (C := RX3) (T := TX3) (N := 3) hG dX5_farthest_13 iX5_farthest_X3 2 (by decide) mX5_farthest_2 rfl rfl 1 rfl rfl ?_
      refine z_icmp_ge 39 hG dX5_farthest_16 (by decide) (fun c => ?_) (fun c => ?_)
      · replace hres := z_ifp c hres
        exact (hX s4.1 s4.2 (Option.some.inj hres).symm)
      · replace hres := z_ifn c hres
        refine z_iload_n hG dX5_farthest_19 1 rfl ?_
        refine z_aload_n hG dX5_farthest_20 0 rfl ?_
        refine z_get (ci := 5) (C := RX5) (T := TX5) (N := 8) hG dX5_farthest_21 iX5_farthest_X5 1 (by decide) mX5_farthest_4 rfl rfl 0 rfl rfl ?_
        refine z_get (ci := 2) (C := RX2) (T := TX2) (N := 4) hG dX5_farthest_24 iX5_farthest_X2 0 (by decide) mX5_farthest_5 rfl rfl 4 rfl rfl ?_
        refine z_iload_n hG dX5_farthest_27 2 rfl ?_
        obtain ⟨hg, hres⟩ := z_guard hres
        refine z_iald hG dX5_farthest_28 5 rfl hg ?_
        refine z_mmax hG dX5_farthest_29 mX5_farthest_7 mX5_farthest_8 mX5_farthest_9 mX5_farthest_10 (by decide) (Nat.le_of_ble_eq_true rfl) (Nat.le_of_ble_eq_true rfl) (Nat.le_of_ble_eq_true rfl) ?_
        refine z_istore_n (lv' := [(1, .int (if s4.1 < (fL s4.2.toNatClampNeg) then (fL s4.2.toNatClampNeg) else s4.1)), (0, .ref aH), (2, .int s4.2)]) hG dX5_farthest_32 (by decide) rfl ?_
        refine z_iinc (s4.2 + 1) (lv' := [(2, .int (s4.2 + 1)), (1, .int (if s4.1 < (fL s4.2.toNatClampNeg) then (fL s4.2.toNatClampNeg) else s4.1)), (0, .ref aH)]) hG dX5_farthest_33 2 rfl rfl (by decide) rfl ?_
        refine z_goto 8 hG dX5_farthest_36 (by decide) ?_
        exact (z_lv [2, 1, 0] rfl (hB (if s4.1 < (fL s4.2.toNatClampNeg) then (fL s4.2.toNatClampNeg) else s4.1) (s4.2 + 1) (Option.some.inj hres).symm))
  · rcases hv1 : v1 with x2 | r3
    · rw [hv1] at ho
      obtain rfl := Sum.inl.inj ho
      replace hres := z_elimL hv1 hres
      obtain rfl := Option.some.inj hres
      exact z_xwid (Nat.le_of_ble_eq_true rfl) (Nat.le_of_ble_eq_true rfl) (hP _ rfl _ _)
    rw [hv1] at ho
    cases ho

theorem dX5_mean_0 : decode cX5_mean 0 = .ok (.aload_n 0, 1) := by decide +kernel
theorem dX5_mean_1 : decode cX5_mean 1 = .ok (.invokevirtual 134, 3) := by decide +kernel
theorem dX5_mean_4 : decode cX5_mean 4 = .ok (.iconst 0, 1) := by decide +kernel
theorem dX5_mean_5 : decode cX5_mean 5 = .ok (.istore_n 1, 1) := by decide +kernel
theorem dX5_mean_6 : decode cX5_mean 6 = .ok (.iconst 0, 1) := by decide +kernel
theorem dX5_mean_7 : decode cX5_mean 7 = .ok (.istore_n 2, 1) := by decide +kernel
theorem dX5_mean_8 : decode cX5_mean 8 = .ok (.iconst 0, 1) := by decide +kernel
theorem dX5_mean_9 : decode cX5_mean 9 = .ok (.istore_n 3, 1) := by decide +kernel
theorem dX5_mean_10 : decode cX5_mean 10 = .ok (.iload_n 3, 1) := by decide +kernel
theorem dX5_mean_11 : decode cX5_mean 11 = .ok (.aload_n 0, 1) := by decide +kernel
theorem dX5_mean_12 : decode cX5_mean 12 = .ok (.getfield 10, 3) := by decide +kernel
theorem dX5_mean_15 : decode cX5_mean 15 = .ok (.getfield 66, 3) := by decide +kernel
theorem dX5_mean_18 : decode cX5_mean 18 = .ok (.if_icmp .ge 37, 3) := by decide +kernel
theorem dX5_mean_21 : decode cX5_mean 21 = .ok (.aload_n 0, 1) := by decide +kernel
theorem dX5_mean_22 : decode cX5_mean 22 = .ok (.getfield 19, 3) := by decide +kernel
theorem dX5_mean_25 : decode cX5_mean 25 = .ok (.getfield 137, 3) := by decide +kernel
theorem dX5_mean_28 : decode cX5_mean 28 = .ok (.iload_n 3, 1) := by decide +kernel
theorem dX5_mean_29 : decode cX5_mean 29 = .ok (.iaload, 1) := by decide +kernel
theorem dX5_mean_30 : decode cX5_mean 30 = .ok (.iconst (-1), 1) := by decide +kernel
theorem dX5_mean_31 : decode cX5_mean 31 = .ok (.if_icmp .eq 18, 3) := by decide +kernel
theorem dX5_mean_34 : decode cX5_mean 34 = .ok (.iload_n 1, 1) := by decide +kernel
theorem dX5_mean_35 : decode cX5_mean 35 = .ok (.aload_n 0, 1) := by decide +kernel
theorem dX5_mean_36 : decode cX5_mean 36 = .ok (.getfield 19, 3) := by decide +kernel
theorem dX5_mean_39 : decode cX5_mean 39 = .ok (.getfield 137, 3) := by decide +kernel
theorem dX5_mean_42 : decode cX5_mean 42 = .ok (.iload_n 3, 1) := by decide +kernel
theorem dX5_mean_43 : decode cX5_mean 43 = .ok (.iaload, 1) := by decide +kernel
theorem dX5_mean_44 : decode cX5_mean 44 = .ok (.iadd, 1) := by decide +kernel
theorem dX5_mean_45 : decode cX5_mean 45 = .ok (.istore_n 1, 1) := by decide +kernel
theorem dX5_mean_46 : decode cX5_mean 46 = .ok (.iinc 2 1, 3) := by decide +kernel
theorem dX5_mean_49 : decode cX5_mean 49 = .ok (.iinc 3 1, 3) := by decide +kernel
theorem dX5_mean_52 : decode cX5_mean 52 = .ok (.goto (-42), 3) := by decide +kernel
theorem dX5_mean_55 : decode cX5_mean 55 = .ok (.iload_n 2, 1) := by decide +kernel
theorem dX5_mean_56 : decode cX5_mean 56 = .ok (.ifCond .ne 7, 3) := by decide +kernel
theorem dX5_mean_59 : decode cX5_mean 59 = .ok (.dconst 0, 1) := by decide +kernel
theorem dX5_mean_60 : decode cX5_mean 60 = .ok (.goto 8, 3) := by decide +kernel
theorem dX5_mean_63 : decode cX5_mean 63 = .ok (.iload_n 1, 1) := by decide +kernel
theorem dX5_mean_64 : decode cX5_mean 64 = .ok (.i2d, 1) := by decide +kernel
theorem dX5_mean_65 : decode cX5_mean 65 = .ok (.iload_n 2, 1) := by decide +kernel
theorem dX5_mean_66 : decode cX5_mean 66 = .ok (.i2d, 1) := by decide +kernel
theorem dX5_mean_67 : decode cX5_mean 67 = .ok (.ddiv, 1) := by decide +kernel
theorem dX5_mean_68 : decode cX5_mean 68 = .ok (.dreturn, 1) := by decide +kernel
set_option maxRecDepth 20000 in
theorem ggX5_mean_X5_needStart : GoodIn wsX5_mean wsX5_needStart := goodIn_ca (goodIn_r _ [9, 10, 11, 12, 13, 14, 15, 16, 17, 18, 19, 20] (by decide +kernel) (by decide +kernel)) (goodIn_sub (fun _ h => List.mem_cons_of_mem _ (List.mem_append_right _ h)) (by decide +kernel))
set_option maxRecDepth 20000 in
theorem gX5_mean_X5_needStart : GoodIn wsX5_mean (wsV RX5 134 RX5 yX5_needStart wsX5_needStart) := goodIn_app (goodIn_of _ (by decide +kernel)) ggX5_mean_X5_needStart
theorem mX5_mean_0 : Cond.fieldLink RX5 10 "Layerways" "net" "LLayerways$Net;" ∈ wsX5_mean := by decide +kernel
theorem iX5_mean_X5 : ∀ w ∈ u_ws RX5 TX5 8, w ∈ wsX5_mean := by decide +kernel
theorem mX5_mean_2 : Cond.fieldLink RX5 66 "Layerways$Net" "size" "I" ∈ wsX5_mean := by decide +kernel
theorem iX5_mean_X3 : ∀ w ∈ u_ws RX3 TX3 3, w ∈ wsX5_mean := by decide +kernel
theorem mX5_mean_4 : Cond.fieldLink RX5 19 "Layerways" "fromStart" "LLayerways$Layers;" ∈ wsX5_mean := by decide +kernel
theorem mX5_mean_5 : Cond.fieldLink RX5 137 "Layerways$Layers" "lengths" "[I" ∈ wsX5_mean := by decide +kernel
theorem iX5_mean_X2 : ∀ w ∈ u_ws RX2 TX2 4, w ∈ wsX5_mean := by decide +kernel
def sX5_mean_10 (nS : Int32) (fL : (Nat → Int32)) (s4 : Int32 × Int32 × Int32) : Option ((Int32 × Int32 × Int32) ⊕ (Int32 × Int32 × Int32)) := if nS ≤ s4.2.2 then some (.inl (s4.1, s4.2.1, s4.2.2)) else if zin s4.2.2 12 then if (fL s4.2.2.toNatClampNeg) = (-1) then some (.inr (s4.1, s4.2.1, (s4.2.2 + 1))) else if zin s4.2.2 12 then some (.inr ((s4.1 + (fL s4.2.2.toNatClampNeg)), (s4.2.1 + 1), (s4.2.2 + 1))) else none else none
def fX5_mean (gB : Int32) (nS : Int32) (fL : (Nat → Int32)) : Option ((String ⊕ UInt64)) := (fX5_needStart gB).bind fun v1 => Sum.elim (fun x2 : String => some (.inl x2)) (fun r3 : Unit => (zloop (sX5_mean_10 nS fL) 32 (0, 0, 0)).bind fun e6 => if e6.2.1 = 0 then some (.inr FP.dconst0) else if ((FP.ddiv (FP.i2d e6.1) (FP.i2d e6.2.1)) &&& 0x7fffffffffffffff ≤ (0x7ff0000000000000 : UInt64)) then some (.inr (FP.ddiv (FP.i2d e6.1) (FP.i2d e6.2.1))) else none) v1
set_option maxRecDepth 100000 in
set_option maxHeartbeats 4000000 in
theorem kX5_mean (l : Launch) (K : zK) (aH : Nat) (aN : Nat) (aNk : Nat) (aNn : Nat) (aF : Nat) (aFl : Nat) (aFc : Nat) (aFq : Nat) (aA : Nat) (aC : Nat) (aO : Nat) (aX : Nat)  (gB : Int32) (gK : Int32) (nS : Int32) (nK : (Nat → Int32)) (nN : (Nat → Int32)) (fM : Int32) (fL : (Nat → Int32)) (fC : (Nat → Int32)) (fQ : (Nat → Int32)) (r : (String ⊕ UInt64)) (hres : fX5_mean gB nS fL = some r) : zX l K yX5_mean wsX5_mean ({ frames := 7, cells := 8, slots := 48, locals := 102 }) [.ref aH] [(aH, .inr (5, [.ref aN, .ref aF, .ref aA, .ref aC, .ref aO, .ref aX, .int gB, .int gK])), (aN, .inr (3, [.ref aNk, .ref aNn, .int nS])), (aNk, .inl (K.2 0, 12, .inl nK)), (aNn, .inl (K.2 0, 12, .inl nN)), (aF, .inr (2, [.ref aFl, .ref aFc, .ref aFq, .int fM])), (aFl, .inl (K.2 0, 12, .inl fL)), (aFc, .inl (K.2 0, 12, .inl fC)), (aFq, .inl (K.2 0, 12, .inl fQ))] (zoD r) [(aH, .inr (5, [.ref aN, .ref aF, .ref aA, .ref aC, .ref aO, .ref aX, .int gB, .int gK])), (aN, .inr (3, [.ref aNk, .ref aNn, .int nS])), (aNk, .inl (K.2 0, 12, .inl nK)), (aNn, .inl (K.2 0, 12, .inl nN)), (aF, .inr (2, [.ref aFl, .ref aFc, .ref aFq, .int fM])), (aFl, .inl (K.2 0, 12, .inl fL)), (aFc, .inl (K.2 0, 12, .inl fC)), (aFq, .inl (K.2 0, 12, .inl fQ))] 8 48 := by
  refine zX.intD (cc := cX5_mean) (maxL := 4) (ret := (some .double)) rfl (by decide) (Nat.le_of_ble_eq_true rfl) rfl ?_
  intro G hGl hG hV hR hT hP
  unfold fX5_mean at hres
  show zj G 0 [(0, .ref aH)] [] [(aH, .inr (5, [.ref aN, .ref aF, .ref aA, .ref aC, .ref aO, .ref aX, .int gB, .int gK])), (aN, .inr (3, [.ref aNk, .ref aNn, .int nS])), (aNk, .inl (K.2 0, 12, .inl nK)), (aNn, .inl (K.2 0, 12, .inl nN)), (aF, .inr (2, [.ref aFl, .ref aFc, .ref aFq, .int fM])), (aFl, .inl (K.2 0, 12, .inl fL)), (aFc, .inl (K.2 0, 12, .inl fC)), (aFq, .inl (K.2 0, 12, .inl fQ))] 0 0
  refine z_aload_n hG dX5_mean_0 0 rfl ?_
  obtain ⟨v1, hv, hres⟩ := z_bind hres
  refine z_callX (As := []) (rest := []) (wr := [(aN, .inr (3, [.ref aNk, .ref aNn, .int nS])), (aNk, .inl (K.2 0, 12, .inl nK)), (aNn, .inl (K.2 0, 12, .inl nN)), (aF, .inr (2, [.ref aFl, .ref aFc, .ref aFq, .int fM])), (aFl, .inl (K.2 0, 12, .inl fL)), (aFc, .inl (K.2 0, 12, .inl fC)), (aFq, .inl (K.2 0, 12, .inl fQ))]) (ws' := [(aH, .inr (5, [.ref aN, .ref aF, .ref aA, .ref aC, .ref aO, .ref aX, .int gB, .int gK])), (aN, .inr (3, [.ref aNk, .ref aNn, .int nS])), (aNk, .inl (K.2 0, 12, .inl nK)), (aNn, .inl (K.2 0, 12, .inl nN)), (aF, .inr (2, [.ref aFl, .ref aFc, .ref aFq, .int fM])), (aFl, .inl (K.2 0, 12, .inl fL)), (aFc, .inl (K.2 0, 12, .inl fC)), (aFq, .inl (K.2 0, 12, .inl fQ))]) (kc' := 1) (ks' := 6) (n := 0) (C := RX5) (ci := 5) hG hV dX5_mean_1 (kX5_needStart _ K aH aN aF aA aC aO aX gB gK v1 hv) gX5_mean_X5_needStart rfl rfl rfl ⟨rfl, by decide, by decide, rfl⟩ ⟨by decide, by decide⟩ (Nat.le_of_ble_eq_true rfl) ⟨(Nat.le_of_ble_eq_true rfl), (Nat.le_of_ble_eq_true rfl)⟩ [0] [1, 2, 3, 4, 5, 6, 7] [7, 0, 1, 2, 3, 4, 5, 6] rfl rfl rfl rfl (by decide) rfl rfl rfl rfl rfl 0 rfl rfl rfl rfl (fun o9 ho => ?_) (fun E9 ho => ?_)
  · rcases hv1 : v1 with x2 | r3
    · rw [hv1] at ho
      cases ho
    rw [hv1] at ho
    obtain rfl := Sum.inr.inj ho
    replace hres := z_elimR hv1 hres
    show zj G 4 [(0, .ref aH)] [] [(aH, .inr (5, [.ref aN, .ref aF, .ref aA, .ref aC, .ref aO, .ref aX, .int gB, .int gK])), (aN, .inr (3, [.ref aNk, .ref aNn, .int nS])), (aNk, .inl (K.2 0, 12, .inl nK)), (aNn, .inl (K.2 0, 12, .inl nN)), (aF, .inr (2, [.ref aFl, .ref aFc, .ref aFq, .int fM])), (aFl, .inl (K.2 0, 12, .inl fL)), (aFc, .inl (K.2 0, 12, .inl fC)), (aFq, .inl (K.2 0, 12, .inl fQ))] 1 6
    refine z_iconst 0 hG dX5_mean_4 (by decide) ?_
    refine z_istore_n (lv' := [(1, .int 0), (0, .ref aH)]) hG dX5_mean_5 (by decide) rfl ?_
    refine z_iconst 0 hG dX5_mean_6 (by decide) ?_
    refine z_istore_n (lv' := [(2, .int 0), (1, .int 0), (0, .ref aH)]) hG dX5_mean_7 (by decide) rfl ?_
    refine z_iconst 0 hG dX5_mean_8 (by decide) ?_
    refine z_istore_n (lv' := [(3, .int 0), (2, .int 0), (1, .int 0), (0, .ref aH)]) hG dX5_mean_9 (by decide) rfl ?_
    obtain ⟨e6, hx, hres⟩ := z_bind hres
    refine z_lv [3, 2, 1, 0] (lv' := [(0, .ref aH), (1, .int 0), (2, .int 0), (3, .int 0)]) rfl ?_
    refine z_loop hx (fun s4 : Int32 × Int32 × Int32 => [(0, .ref aH), (1, .int s4.1), (2, .int s4.2.1), (3, .int s4.2.2)]) (fun s4 : Int32 × Int32 × Int32 => [(aH, .inr (5, [.ref aN, .ref aF, .ref aA, .ref aC, .ref aO, .ref aX, .int gB, .int gK])), (aN, .inr (3, [.ref aNk, .ref aNn, .int nS])), (aNk, .inl (K.2 0, 12, .inl nK)), (aNn, .inl (K.2 0, 12, .inl nN)), (aF, .inr (2, [.ref aFl, .ref aFc, .ref aFq, .int fM])), (aFl, .inl (K.2 0, 12, .inl fL)), (aFc, .inl (K.2 0, 12, .inl fC)), (aFq, .inl (K.2 0, 12, .inl fQ))]) (fun e6 : Int32 × Int32 × Int32 => zj G 55 [(0, .ref aH), (1, .int e6.1), (2, .int e6.2.1), (3, .int e6.2.2)] [] [(aH, .inr (5, [.ref aN, .ref aF, .ref aA, .ref aC, .ref aO, .ref aX, .int gB, .int gK])), (aN, .inr (3, [.ref aNk, .ref aNn, .int nS])), (aNk, .inl (K.2 0, 12, .inl nK)), (aNn, .inl (K.2 0, 12, .inl nN)), (aF, .inr (2, [.ref aFl, .ref aFc, .ref aFq, .int fM])), (aFl, .inl (K.2 0, 12, .inl fL)), (aFc, .inl (K.2 0, 12, .inl fC)), (aFq, .inl (K.2 0, 12, .inl fQ))] 1 6) ?_ ?_
    · refine z_iload_n hG dX5_mean_55 2 rfl ?_
      refine z_if_ne 63 hG dX5_mean_56 (by decide) (fun c => ?_) (fun c => ?_)
      · replace hres := z_ifn c hres
        refine z_iload_n hG dX5_mean_63 1 rfl ?_
        refine z_i2d hG dX5_mean_64 ?_
        refine z_iload_n hG dX5_mean_65 2 rfl ?_
        refine z_i2d hG dX5_mean_66 ?_
        obtain ⟨hg, hres⟩ := z_guard hres
        refine z_ddiv hG dX5_mean_67 hg ?_
        obtain rfl := Option.some.inj hres
        exact (z_wid (Nat.le_of_ble_eq_true rfl) (Nat.le_of_ble_eq_true rfl) (hR _ rfl _ _ dX5_mean_68))
      · replace hres := z_ifp c hres
        refine z_dconst0 hG dX5_mean_59 ?_
        refine z_goto 68 hG dX5_mean_60 (by decide) ?_
        obtain rfl := Option.some.inj hres
        exact (z_wid (Nat.le_of_ble_eq_true rfl) (Nat.le_of_ble_eq_true rfl) (hR _ rfl _ _ dX5_mean_68))
    · intro s4 w5 hres hX hB
      unfold sX5_mean_10 at hres
      replace hB : ∀ (z0 : Int32) (z1 : Int32) (z2 : Int32), w5 = .inr (z0, z1, z2) → zj G 10 [(0, .ref aH), (1, .int z0), (2, .int z1), (3, .int z2)] [] [(aH, .inr (5, [.ref aN, .ref aF, .ref aA, .ref aC, .ref aO, .ref aX, .int gB, .int gK])), (aN, .inr (3, [.ref aNk, .ref aNn, .int nS])), (aNk, .inl (K.2 0, 12, .inl nK)), (aNn, .inl (K.2 0, 12, .inl nN)), (aF, .inr (2, [.ref aFl, .ref aFc, .ref aFq, .int fM])), (aFl, .inl (K.2 0, 12, .inl fL)), (aFc, .inl (K.2 0, 12, .inl fC)), (aFq, .inl (K.2 0, 12, .inl fQ))] 1 6 := fun z0 z1 z2 h => hB (z0, z1, z2) h
      replace hX : ∀ (z0 : Int32) (z1 : Int32) (z2 : Int32), w5 = .inl (z0, z1, z2) → zj G 55 [(0, .ref aH), (1, .int z0), (2, .int z1), (3, .int z2)] [] [(aH, .inr (5, [.ref aN, .ref aF, .ref aA, .ref aC, .ref aO, .ref aX, .int gB, .int gK])), (aN, .inr (3, [.ref aNk, .ref aNn, .int nS])), (aNk, .inl (K.2 0, 12, .inl nK)), (aNn, .inl (K.2 0, 12, .inl nN)), (aF, .inr (2, [.ref aFl, .ref aFc, .ref aFq, .int fM])), (aFl, .inl (K.2 0, 12, .inl fL)), (aFc, .inl (K.2 0, 12, .inl fC)), (aFq, .inl (K.2 0, 12, .inl fQ))] 1 6 := fun z0 z1 z2 h => hX (z0, z1, z2) h
      refine z_iload_n hG dX5_mean_10 3 rfl ?_
      refine z_aload_n hG dX5_mean_11 0 rfl ?_
      refine z_get (ci := 5) (C := RX5) (T := TX5) (N := 8) hG dX5_mean_12 iX5_mean_X5 0 (by decide) mX5_mean_0 rfl rfl 0 rfl rfl ?_
      refine z_get (ci := 3) (C := RX3) (T := TX3) (N := 3) hG dX5_mean_15 iX5_mean_X3 2 (by decide) mX5_mean_2 rfl rfl 1 rfl rfl ?_
      refine z_icmp_ge 55 hG dX5_mean_18 (by decide) (fun c => ?_) (fun c => ?_)
      · replace hres := z_ifp c hres
        exact (hX s4.1 s4.2.1 s4.2.2 (Option.some.inj hres).symm)
      · replace hres := z_ifn c hres
        refine z_aload_n hG dX5_mean_21 0 rfl ?_
        refine z_get (ci := 5) (C := RX5) (T := TX5) (N := 8) hG dX5_mean_22 iX5_mean_X5 1 (by decide) mX5_mean_4 rfl rfl 0 rfl rfl ?_
        refine z_get (ci := 2) (C := RX2) (T := TX2) (N := 4) hG dX5_mean_25 iX5_mean_X2 0 (by decide) mX5_mean_5 rfl rfl 4 rfl rfl ?_
        refine z_iload_n hG dX5_mean_28 3 rfl ?_
        obtain ⟨hg, hres⟩ := z_guard hres
        refine z_iald hG dX5_mean_29 5 rfl hg ?_
        refine z_iconst (-1) hG dX5_mean_30 (by decide) ?_
        refine z_icmp_eq 49 hG dX5_mean_31 (by decide) (fun c => ?_) (fun c => ?_)
        · replace hres := z_ifp c hres
          refine z_iinc (s4.2.2 + 1) (lv' := [(3, .int (s4.2.2 + 1)), (0, .ref aH), (1, .int s4.1), (2, .int s4.2.1)]) hG dX5_mean_49 3 rfl rfl (by decide) rfl ?_
          refine z_goto 10 hG dX5_mean_52 (by decide) ?_
          exact (z_lv [1, 2, 3, 0] rfl (hB s4.1 s4.2.1 (s4.2.2 + 1) (Option.some.inj hres).symm))
        · replace hres := z_ifn c hres
          refine z_iload_n hG dX5_mean_34 1 rfl ?_
          refine z_aload_n hG dX5_mean_35 0 rfl ?_
          refine z_get (ci := 5) (C := RX5) (T := TX5) (N := 8) hG dX5_mean_36 iX5_mean_X5 1 (by decide) mX5_mean_4 rfl rfl 0 rfl rfl ?_
          refine z_get (ci := 2) (C := RX2) (T := TX2) (N := 4) hG dX5_mean_39 iX5_mean_X2 0 (by decide) mX5_mean_5 rfl rfl 4 rfl rfl ?_
          refine z_iload_n hG dX5_mean_42 3 rfl ?_
          obtain ⟨hg, hres⟩ := z_guard hres
          refine z_iald hG dX5_mean_43 5 rfl hg ?_
          refine z_iadd hG dX5_mean_44 ?_
          refine z_istore_n (lv' := [(1, .int (s4.1 + (fL s4.2.2.toNatClampNeg))), (0, .ref aH), (2, .int s4.2.1), (3, .int s4.2.2)]) hG dX5_mean_45 (by decide) rfl ?_
          refine z_iinc (s4.2.1 + 1) (lv' := [(2, .int (s4.2.1 + 1)), (1, .int (s4.1 + (fL s4.2.2.toNatClampNeg))), (0, .ref aH), (3, .int s4.2.2)]) hG dX5_mean_46 2 rfl rfl (by decide) rfl ?_
          refine z_iinc (s4.2.2 + 1) (lv' := [(3, .int (s4.2.2 + 1)), (2, .int (s4.2.1 + 1)), (1, .int (s4.1 + (fL s4.2.2.toNatClampNeg))), (0, .ref aH)]) hG dX5_mean_49 3 rfl rfl (by decide) rfl ?_
          refine z_goto 10 hG dX5_mean_52 (by decide) ?_
          exact (z_lv [3, 2, 1, 0] rfl (hB (s4.1 + (fL s4.2.2.toNatClampNeg)) (s4.2.1 + 1) (s4.2.2 + 1) (Option.some.inj hres).symm))
  · rcases hv1 : v1 with x2 | r3
    · rw [hv1] at ho
      obtain rfl := Sum.inl.inj ho
      replace hres := z_elimL hv1 hres
      obtain rfl := Option.some.inj hres
      exact z_xwid (Nat.le_of_ble_eq_true rfl) (Nat.le_of_ble_eq_true rfl) (hP _ rfl _ _)
    rw [hv1] at ho
    cases ho
