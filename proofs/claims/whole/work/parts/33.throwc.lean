theorem dX5_wayAt_0 : decode cX5_wayAt 0 = .ok (.aload_n 0, 1) := by decide +kernel
theorem dX5_wayAt_1 : decode cX5_wayAt 1 = .ok (.iload_n 1, 1) := by decide +kernel
theorem dX5_wayAt_2 : decode cX5_wayAt 2 = .ok (.invokevirtual 84, 3) := by decide +kernel
theorem dX5_wayAt_5 : decode cX5_wayAt 5 = .ok (.istore 4, 2) := by decide +kernel
theorem dX5_wayAt_7 : decode cX5_wayAt 7 = .ok (.aload_n 0, 1) := by decide +kernel
theorem dX5_wayAt_8 : decode cX5_wayAt 8 = .ok (.invokevirtual 134, 3) := by decide +kernel
theorem dX5_wayAt_11 : decode cX5_wayAt 11 = .ok (.iload_n 2, 1) := by decide +kernel
theorem dX5_wayAt_12 : decode cX5_wayAt 12 = .ok (.ifCond .lt 17, 3) := by decide +kernel
theorem dX5_wayAt_15 : decode cX5_wayAt 15 = .ok (.iload_n 2, 1) := by decide +kernel
theorem dX5_wayAt_16 : decode cX5_wayAt 16 = .ok (.aload_n 0, 1) := by decide +kernel
theorem dX5_wayAt_17 : decode cX5_wayAt 17 = .ok (.getfield 19, 3) := by decide +kernel
theorem dX5_wayAt_20 : decode cX5_wayAt 20 = .ok (.getfield 151, 3) := by decide +kernel
theorem dX5_wayAt_23 : decode cX5_wayAt 23 = .ok (.iload 4, 2) := by decide +kernel
theorem dX5_wayAt_25 : decode cX5_wayAt 25 = .ok (.iaload, 1) := by decide +kernel
theorem dX5_wayAt_26 : decode cX5_wayAt 26 = .ok (.if_icmp .lt 13, 3) := by decide +kernel
theorem dX5_wayAt_29 : decode cX5_wayAt 29 = .ok (.new 122, 3) := by decide +kernel
theorem dX5_wayAt_32 : decode cX5_wayAt 32 = .ok (.dup, 1) := by decide +kernel
theorem dX5_wayAt_33 : decode cX5_wayAt 33 = .ok (.ldc 154, 2) := by decide +kernel
theorem dX5_wayAt_35 : decode cX5_wayAt 35 = .ok (.invokespecial 126, 3) := by decide +kernel
theorem dX5_wayAt_38 : decode cX5_wayAt 38 = .ok (.athrow, 1) := by decide +kernel
theorem dX5_wayAt_39 : decode cX5_wayAt 39 = .ok (.iload_n 3, 1) := by decide +kernel
theorem dX5_wayAt_40 : decode cX5_wayAt 40 = .ok (.ifCond .lt 17, 3) := by decide +kernel
theorem dX5_wayAt_43 : decode cX5_wayAt 43 = .ok (.iload_n 3, 1) := by decide +kernel
theorem dX5_wayAt_44 : decode cX5_wayAt 44 = .ok (.aload_n 0, 1) := by decide +kernel
theorem dX5_wayAt_45 : decode cX5_wayAt 45 = .ok (.getfield 19, 3) := by decide +kernel
theorem dX5_wayAt_48 : decode cX5_wayAt 48 = .ok (.getfield 137, 3) := by decide +kernel
theorem dX5_wayAt_51 : decode cX5_wayAt 51 = .ok (.iload 4, 2) := by decide +kernel
theorem dX5_wayAt_53 : decode cX5_wayAt 53 = .ok (.iaload, 1) := by decide +kernel
theorem dX5_wayAt_54 : decode cX5_wayAt 54 = .ok (.if_icmp .le 13, 3) := by decide +kernel
theorem dX5_wayAt_57 : decode cX5_wayAt 57 = .ok (.new 122, 3) := by decide +kernel
theorem dX5_wayAt_60 : decode cX5_wayAt 60 = .ok (.dup, 1) := by decide +kernel
theorem dX5_wayAt_61 : decode cX5_wayAt 61 = .ok (.ldc 156, 2) := by decide +kernel
theorem dX5_wayAt_63 : decode cX5_wayAt 63 = .ok (.invokespecial 126, 3) := by decide +kernel
theorem dX5_wayAt_66 : decode cX5_wayAt 66 = .ok (.athrow, 1) := by decide +kernel
theorem dX5_wayAt_67 : decode cX5_wayAt 67 = .ok (.aload_n 0, 1) := by decide +kernel
theorem dX5_wayAt_68 : decode cX5_wayAt 68 = .ok (.getfield 23, 3) := by decide +kernel
theorem dX5_wayAt_71 : decode cX5_wayAt 71 = .ok (.aload_n 0, 1) := by decide +kernel
theorem dX5_wayAt_72 : decode cX5_wayAt 72 = .ok (.getfield 10, 3) := by decide +kernel
theorem dX5_wayAt_75 : decode cX5_wayAt 75 = .ok (.iload 4, 2) := by decide +kernel
theorem dX5_wayAt_77 : decode cX5_wayAt 77 = .ok (.invokevirtual 158, 3) := by decide +kernel
theorem dX5_wayAt_80 : decode cX5_wayAt 80 = .ok (.aload_n 0, 1) := by decide +kernel
theorem dX5_wayAt_81 : decode cX5_wayAt 81 = .ok (.getfield 10, 3) := by decide +kernel
theorem dX5_wayAt_84 : decode cX5_wayAt 84 = .ok (.getfield 127, 3) := by decide +kernel
theorem dX5_wayAt_87 : decode cX5_wayAt 87 = .ok (.aload_n 0, 1) := by decide +kernel
theorem dX5_wayAt_88 : decode cX5_wayAt 88 = .ok (.iload_n 2, 1) := by decide +kernel
theorem dX5_wayAt_89 : decode cX5_wayAt 89 = .ok (.iload_n 3, 1) := by decide +kernel
theorem dX5_wayAt_90 : decode cX5_wayAt 90 = .ok (.invokevirtual 162, 3) := by decide +kernel
theorem dX5_wayAt_93 : decode cX5_wayAt 93 = .ok (.iaload, 1) := by decide +kernel
theorem dX5_wayAt_94 : decode cX5_wayAt 94 = .ok (.ireturn, 1) := by decide +kernel
set_option maxRecDepth 20000 in
theorem ggX5_wayAt_X5_placeOf : GoodIn wsX5_wayAt wsX5_placeOf := goodIn_ca (goodIn_r _ [13, 14, 15, 7, 16, 17, 18, 19, 20, 21, 22, 62, 63, 64, 65, 66, 67, 68, 69, 74, 75, 76] (by decide +kernel) (by decide +kernel)) (goodIn_sub (fun _ h => List.mem_cons_of_mem _ (List.mem_append_left _ (List.mem_append_right _ h))) (by decide +kernel))
set_option maxRecDepth 20000 in
theorem gX5_wayAt_X5_placeOf : GoodIn wsX5_wayAt (wsV RX5 84 RX5 yX5_placeOf wsX5_placeOf) := goodIn_app (goodIn_of _ (by decide +kernel)) ggX5_wayAt_X5_placeOf
set_option maxRecDepth 20000 in
theorem ggX5_wayAt_X5_needStart : GoodIn wsX5_wayAt wsX5_needStart := goodIn_ca (goodIn_r _ [26, 27, 28, 29, 62, 63, 64, 65, 66, 67, 68, 69] (by decide +kernel) (by decide +kernel)) (goodIn_sub (fun _ h => List.mem_cons_of_mem _ (List.mem_append_right _ h)) (by decide +kernel))
set_option maxRecDepth 20000 in
theorem gX5_wayAt_X5_needStart : GoodIn wsX5_wayAt (wsV RX5 134 RX5 yX5_needStart wsX5_needStart) := goodIn_app (goodIn_of _ (by decide +kernel)) ggX5_wayAt_X5_needStart
set_option maxRecDepth 20000 in
theorem ggX5_wayAt_X2_spread : GoodIn wsX5_wayAt wsX2_spread := goodIn_r _ [34, 35, 36, 37, 38, 39, 40, 41, 42, 33, 43, 44, 45, 46, 19, 47, 48, 49, 12, 50, 70, 71, 72, 73, 74, 75, 76] (by decide +kernel) (by decide +kernel)
set_option maxRecDepth 20000 in
theorem gX5_wayAt_X2_spread : GoodIn wsX5_wayAt (wsV RX5 158 RX2 yX2_spread wsX2_spread) := goodIn_app (goodIn_of _ (by decide +kernel)) ggX5_wayAt_X2_spread
set_option maxRecDepth 20000 in
theorem ggX5_wayAt_X5_goAlong : GoodIn wsX5_wayAt wsX5_goAlong := goodIn_r _ [54, 3, 55, 7, 56, 6, 4, 57, 58, 59, 12, 60, 5, 61, 45, 46, 19, 47, 48, 49, 50, 62, 63, 64, 65, 66, 67, 68, 69, 70, 71, 72, 73, 74, 75, 76] (by decide +kernel) (by decide +kernel)
set_option maxRecDepth 20000 in
theorem gX5_wayAt_X5_goAlong : GoodIn wsX5_wayAt (wsV RX5 162 RX5 yX5_goAlong wsX5_goAlong) := goodIn_app (goodIn_of _ (by decide +kernel)) ggX5_wayAt_X5_goAlong
theorem mX5_wayAt_0 : Cond.classLink RX5 122 "java/lang/IndexOutOfBoundsException" ∈ wsX5_wayAt := by decide +kernel
theorem mX5_wayAt_1 : Cond.initialized "java/lang/IndexOutOfBoundsException" ∈ wsX5_wayAt := by decide +kernel
theorem hX5_wayAt_126 : ∀ w ∈ (vx_atS RX5 126 "java/lang/IndexOutOfBoundsException" ["java/lang/RuntimeException", "java/lang/Exception"]).filter goodWord, w ∈ wsX5_wayAt := fun w h => List.mem_cons_of_mem _ (List.mem_append_left _ (List.mem_append_left _ (List.mem_append_right _ h)))
theorem mX5_wayAt_3 : Cond.fieldLink RX5 19 "Layerways" "fromStart" "LLayerways$Layers;" ∈ wsX5_wayAt := by decide +kernel
theorem iX5_wayAt_X5 : ∀ w ∈ u_ws RX5 TX5 8, w ∈ wsX5_wayAt := by decide +kernel
theorem mX5_wayAt_5 : Cond.fieldLink RX5 151 "Layerways$Layers" "counts" "[I" ∈ wsX5_wayAt := by decide +kernel
theorem iX5_wayAt_X2 : ∀ w ∈ u_ws RX2 TX2 4, w ∈ wsX5_wayAt := by decide +kernel
theorem mX5_wayAt_7 : Cond.fieldLink RX5 137 "Layerways$Layers" "lengths" "[I" ∈ wsX5_wayAt := by decide +kernel
theorem mX5_wayAt_8 : Cond.fieldLink RX5 23 "Layerways" "aside" "LLayerways$Layers;" ∈ wsX5_wayAt := by decide +kernel
theorem mX5_wayAt_9 : Cond.fieldLink RX5 10 "Layerways" "net" "LLayerways$Net;" ∈ wsX5_wayAt := by decide +kernel
theorem mX5_wayAt_10 : Cond.fieldLink RX5 127 "Layerways$Net" "keys" "[I" ∈ wsX5_wayAt := by decide +kernel
theorem iX5_wayAt_X3 : ∀ w ∈ u_ws RX3 TX3 3, w ∈ wsX5_wayAt := by decide +kernel
def fX5_wayAt (gB : Int32) (nS : Int32) (nK : (Nat → Int32)) (nN : (Nat → Int32)) (fL : (Nat → Int32)) (fC : (Nat → Int32)) (fQ : (Nat → Int32)) (wM : Int32) (wL : (Nat → Int32)) (wC : (Nat → Int32)) (wQ : (Nat → Int32)) (p0 : Int32) (p1 : Int32) (p2 : Int32) : Option ((String ⊕ Int32) × Int32 × (Nat → Int32) × (Nat → Int32) × (Nat → Int32)) := (fX5_placeOf nS nK p0).bind fun v1 => Sum.elim (fun x2 : String => some (.inl x2, wM, wL, wC, wQ)) (fun r3 : Int32 => (fX5_needStart gB).bind fun v4 => Sum.elim (fun x5 : String => some (.inl x5, wM, wL, wC, wQ)) (fun r6 : Unit => if p1 < 0 then some (.inl "java/lang/IndexOutOfBoundsException", wM, wL, wC, wQ) else if zin r3 12 then if p1 < (fC r3.toNatClampNeg) then if p2 < 0 then some (.inl "java/lang/IndexOutOfBoundsException", wM, wL, wC, wQ) else if zin r3 12 then if p2 ≤ (fL r3.toNatClampNeg) then (fX2_spread wL wC wQ nS nN r3).bind fun v7 => (fX5_goAlong nS nN fQ v7.2.1 v7.2.2.1 p1 p2).bind fun v8 => if zin v8 12 then some (.inr (nK v8.toNatClampNeg), v7.1, v7.2.1, v7.2.2.1, v7.2.2.2) else none else some (.inl "java/lang/IndexOutOfBoundsException", wM, wL, wC, wQ) else none else some (.inl "java/lang/IndexOutOfBoundsException", wM, wL, wC, wQ) else none) v4) v1
set_option maxRecDepth 100000 in
set_option maxHeartbeats 4000000 in
theorem kX5_wayAt (l : Launch) (K : zK) (aH : Nat) (aN : Nat) (aNk : Nat) (aNn : Nat) (aF : Nat) (aFl : Nat) (aFc : Nat) (aFq : Nat) (aA : Nat) (aAl : Nat) (aAc : Nat) (aAq : Nat) (aC : Nat) (aO : Nat) (aX : Nat)  (gB : Int32) (gK : Int32) (nS : Int32) (nK : (Nat → Int32)) (nN : (Nat → Int32)) (fM : Int32) (fL : (Nat → Int32)) (fC : (Nat → Int32)) (fQ : (Nat → Int32)) (wM : Int32) (wL : (Nat → Int32)) (wC : (Nat → Int32)) (wQ : (Nat → Int32)) (p0 : Int32) (p1 : Int32) (p2 : Int32) (r : (String ⊕ Int32) × Int32 × (Nat → Int32) × (Nat → Int32) × (Nat → Int32)) (hres : fX5_wayAt gB nS nK nN fL fC fQ wM wL wC wQ p0 p1 p2 = some r) : zX l K yX5_wayAt wsX5_wayAt ({ frames := 7, cells := 8, slots := 48, locals := 104 }) [.ref aH, .int p0, .int p1, .int p2] [(aH, .inr (5, [.ref aN, .ref aF, .ref aA, .ref aC, .ref aO, .ref aX, .int gB, .int gK])), (aN, .inr (3, [.ref aNk, .ref aNn, .int nS])), (aNk, .inl (K.2 0, 12, .inl nK)), (aNn, .inl (K.2 0, 12, .inl nN)), (aF, .inr (2, [.ref aFl, .ref aFc, .ref aFq, .int fM])), (aFl, .inl (K.2 0, 12, .inl fL)), (aFc, .inl (K.2 0, 12, .inl fC)), (aFq, .inl (K.2 0, 12, .inl fQ)), (aA, .inr (2, [.ref aAl, .ref aAc, .ref aAq, .int wM])), (aAl, .inl (K.2 0, 12, .inl wL)), (aAc, .inl (K.2 0, 12, .inl wC)), (aAq, .inl (K.2 0, 12, .inl wQ))] (zoI r.1) [(aH, .inr (5, [.ref aN, .ref aF, .ref aA, .ref aC, .ref aO, .ref aX, .int gB, .int gK])), (aN, .inr (3, [.ref aNk, .ref aNn, .int nS])), (aNk, .inl (K.2 0, 12, .inl nK)), (aNn, .inl (K.2 0, 12, .inl nN)), (aF, .inr (2, [.ref aFl, .ref aFc, .ref aFq, .int fM])), (aFl, .inl (K.2 0, 12, .inl fL)), (aFc, .inl (K.2 0, 12, .inl fC)), (aFq, .inl (K.2 0, 12, .inl fQ)), (aA, .inr (2, [.ref aAl, .ref aAc, .ref aAq, .int r.2.1])), (aAl, .inl (K.2 0, 12, .inl r.2.2.1)), (aAc, .inl (K.2 0, 12, .inl r.2.2.2.1)), (aAq, .inl (K.2 0, 12, .inl r.2.2.2.2))] 8 48 := by
  refine zX.intI (cc := cX5_wayAt) (maxL := 5) (ret := (some .int)) rfl (by decide) (Nat.le_of_ble_eq_true rfl) rfl ?_
  intro G hGl hG hV hR hT hP
  unfold fX5_wayAt at hres
  show zj G 0 [(0, .ref aH), (1, .int p0), (2, .int p1), (3, .int p2)] [] [(aH, .inr (5, [.ref aN, .ref aF, .ref aA, .ref aC, .ref aO, .ref aX, .int gB, .int gK])), (aN, .inr (3, [.ref aNk, .ref aNn, .int nS])), (aNk, .inl (K.2 0, 12, .inl nK)), (aNn, .inl (K.2 0, 12, .inl nN)), (aF, .inr (2, [.ref aFl, .ref aFc, .ref aFq, .int fM])), (aFl, .inl (K.2 0, 12, .inl fL)), (aFc, .inl (K.2 0, 12, .inl fC)), (aFq, .inl (K.2 0, 12, .inl fQ)), (aA, .inr (2, [.ref aAl, .ref aAc, .ref aAq, .int wM])), (aAl, .inl (K.2 0, 12, .inl wL)), (aAc, .inl (K.2 0, 12, .inl wC)), (aAq, .inl (K.2 0, 12, .inl wQ))] 0 0
  refine z_aload_n hG dX5_wayAt_0 0 rfl ?_
  refine z_iload_n hG dX5_wayAt_1 1 rfl ?_
  obtain ⟨v1, hv, hres⟩ := z_bind hres
  refine z_callX (As := [.int p0]) (rest := []) (wr := [(aF, .inr (2, [.ref aFl, .ref aFc, .ref aFq, .int fM])), (aFl, .inl (K.2 0, 12, .inl fL)), (aFc, .inl (K.2 0, 12, .inl fC)), (aFq, .inl (K.2 0, 12, .inl fQ)), (aA, .inr (2, [.ref aAl, .ref aAc, .ref aAq, .int wM])), (aAl, .inl (K.2 0, 12, .inl wL)), (aAc, .inl (K.2 0, 12, .inl wC)), (aAq, .inl (K.2 0, 12, .inl wQ))]) (ws' := [(aH, .inr (5, [.ref aN, .ref aF, .ref aA, .ref aC, .ref aO, .ref aX, .int gB, .int gK])), (aN, .inr (3, [.ref aNk, .ref aNn, .int nS])), (aNk, .inl (K.2 0, 12, .inl nK)), (aNn, .inl (K.2 0, 12, .inl nN)), (aF, .inr (2, [.ref aFl, .ref aFc, .ref aFq, .int fM])), (aFl, .inl (K.2 0, 12, .inl fL)), (aFc, .inl (K.2 0, 12, .inl fC)), (aFq, .inl (K.2 0, 12, .inl fQ)), (aA, .inr (2, [.ref aAl, .ref aAc, .ref aAq, .int wM])), (aAl, .inl (K.2 0, 12, .inl wL)), (aAc, .inl (K.2 0, 12, .inl wC)), (aAq, .inl (K.2 0, 12, .inl wQ))]) (kc' := 1) (ks' := 6) (n := 1) (C := RX5) (ci := 5) hG hV dX5_wayAt_2 (kX5_placeOf _ K aH aN aNk aNn aF aA aC aO aX gB gK nS nK nN p0 v1 hv) gX5_wayAt_X5_placeOf rfl rfl rfl ⟨rfl, by decide, by decide, rfl⟩ ⟨by decide, by decide⟩ (Nat.le_of_ble_eq_true rfl) ⟨(Nat.le_of_ble_eq_true rfl), (Nat.le_of_ble_eq_true rfl)⟩ [0, 1, 2, 3] [4, 5, 6, 7, 8, 9, 10, 11] [8, 9, 10, 11, 0, 1, 2, 3, 4, 5, 6, 7] rfl rfl rfl rfl (by decide) rfl rfl rfl rfl rfl 0 rfl rfl rfl rfl (fun o9 ho => ?_) (fun E9 ho => ?_)
  · rcases hv1 : v1 with x2 | r3
    · rw [hv1] at ho
      cases ho
    rw [hv1] at ho
    obtain rfl := Sum.inr.inj ho
    replace hres := z_elimR hv1 hres
    show zj G 5 [(0, .ref aH), (1, .int p0), (2, .int p1), (3, .int p2)] [.int r3] [(aH, .inr (5, [.ref aN, .ref aF, .ref aA, .ref aC, .ref aO, .ref aX, .int gB, .int gK])), (aN, .inr (3, [.ref aNk, .ref aNn, .int nS])), (aNk, .inl (K.2 0, 12, .inl nK)), (aNn, .inl (K.2 0, 12, .inl nN)), (aF, .inr (2, [.ref aFl, .ref aFc, .ref aFq, .int fM])), (aFl, .inl (K.2 0, 12, .inl fL)), (aFc, .inl (K.2 0, 12, .inl fC)), (aFq, .inl (K.2 0, 12, .inl fQ)), (aA, .inr (2, [.ref aAl, .ref aAc, .ref aAq, .int wM])), (aAl, .inl (K.2 0, 12, .inl wL)), (aAc, .inl (K.2 0, 12, .inl wC)), (aAq, .inl (K.2 0, 12, .inl wQ))] 1 6
    refine z_istore (lv' := [(4, .int r3), (0, .ref aH), (1, .int p0), (2, .int p1), (3, .int p2)]) hG dX5_wayAt_5 (by decide) rfl ?_
    refine z_aload_n hG dX5_wayAt_7 1 rfl ?_
    obtain ⟨v4, hv, hres⟩ := z_bind hres
    refine z_callX (As := []) (rest := []) (wr := [(aN, .inr (3, [.ref aNk, .ref aNn, .int nS])), (aNk, .inl (K.2 0, 12, .inl nK)), (aNn, .inl (K.2 0, 12, .inl nN)), (aF, .inr (2, [.ref aFl, .ref aFc, .ref aFq, .int fM])), (aFl, .inl (K.2 0, 12, .inl fL)), (aFc, .inl (K.2 0, 12, .inl fC)), (aFq, .inl (K.2 0, 12, .inl fQ)), (aA, .inr (2, [.ref aAl, .ref aAc, .ref aAq, .int wM])), (aAl, .inl (K.2 0, 12, .inl wL)), (aAc, .inl (K.2 0, 12, .inl wC)), (aAq, .inl (K.2 0, 12, .inl wQ))]) (ws' := [(aH, .inr (5, [.ref aN, .ref aF, .ref aA, .ref aC, .ref aO, .ref aX, .int gB, .int gK])), (aN, .inr (3, [.ref aNk, .ref aNn, .int nS])), (aNk, .inl (K.2 0, 12, .inl nK)), (aNn, .inl (K.2 0, 12, .inl nN)), (aF, .inr (2, [.ref aFl, .ref aFc, .ref aFq, .int fM])), (aFl, .inl (K.2 0, 12, .inl fL)), (aFc, .inl (K.2 0, 12, .inl fC)), (aFq, .inl (K.2 0, 12, .inl fQ)), (aA, .inr (2, [.ref aAl, .ref aAc, .ref aAq, .int wM])), (aAl, .inl (K.2 0, 12, .inl wL)), (aAc, .inl (K.2 0, 12, .inl wC)), (aAq, .inl (K.2 0, 12, .inl wQ))]) (kc' := 2) (ks' := 12) (n := 0) (C := RX5) (ci := 5) hG hV dX5_wayAt_8 (kX5_needStart _ K aH aN aF aA aC aO aX gB gK v4 hv) gX5_wayAt_X5_needStart rfl rfl rfl ⟨rfl, by decide, by decide, rfl⟩ ⟨by decide, by decide⟩ (Nat.le_of_ble_eq_true rfl) ⟨(Nat.le_of_ble_eq_true rfl), (Nat.le_of_ble_eq_true rfl)⟩ [0] [1, 2, 3, 4, 5, 6, 7, 8, 9, 10, 11] [11, 0, 1, 2, 3, 4, 5, 6, 7, 8, 9, 10] rfl rfl rfl rfl (by decide) rfl rfl rfl rfl rfl 0 rfl rfl rfl rfl (fun o9 ho => ?_) (fun E9 ho => ?_)
    · rcases hv1 : v4 with x5 | r6
      · rw [hv1] at ho
        cases ho
      rw [hv1] at ho
      obtain rfl := Sum.inr.inj ho
      replace hres := z_elimR hv1 hres
      show zj G 11 [(4, .int r3), (0, .ref aH), (1, .int p0), (2, .int p1), (3, .int p2)] [] [(aH, .inr (5, [.ref aN, .ref aF, .ref aA, .ref aC, .ref aO, .ref aX, .int gB, .int gK])), (aN, .inr (3, [.ref aNk, .ref aNn, .int nS])), (aNk, .inl (K.2 0, 12, .inl nK)), (aNn, .inl (K.2 0, 12, .inl nN)), (aF, .inr (2, [.ref aFl, .ref aFc, .ref aFq, .int fM])), (aFl, .inl (K.2 0, 12, .inl fL)), (aFc, .inl (K.2 0, 12, .inl fC)), (aFq, .inl (K.2 0, 12, .inl fQ)), (aA, .inr (2, [.ref aAl, .ref aAc, .ref aAq, .int wM])), (aAl, .inl (K.2 0, 12, .inl wL)), (aAc, .inl (K.2 0, 12, .inl wC)), (aAq, .inl (K.2 0, 12, .inl wQ))] 2 12
      refine z_iload_n hG dX5_wayAt_11 3 rfl ?_
      refine z_if_lt 29 hG dX5_wayAt_12 (by decide) (fun c => ?_) (fun c => ?_)
      · replace hres := z_ifp c hres
        obtain rfl := Option.some.inj hres
        exact z_throw "no such shortest way" hG (hT _ rfl) (by decide) mX5_wayAt_0 mX5_wayAt_1 (by decide) rfl (by decide) hX5_wayAt_126 zng_IndexOutOfBoundsException zgd_IndexOutOfBoundsException dX5_wayAt_29 dX5_wayAt_32 dX5_wayAt_33 dX5_wayAt_35 dX5_wayAt_38 (by decide) (Nat.le_of_ble_eq_true rfl) (Nat.le_of_ble_eq_true rfl) (Nat.le_of_ble_eq_true rfl) (Nat.le_of_ble_eq_true rfl) (Nat.le_of_ble_eq_true rfl)
      · replace hres := z_ifn c hres
        refine z_iload_n hG dX5_wayAt_15 3 rfl ?_
        refine z_aload_n hG dX5_wayAt_16 1 rfl ?_
        refine z_get (ci := 5) (C := RX5) (T := TX5) (N := 8) hG dX5_wayAt_17 iX5_wayAt_X5 1 (by decide) mX5_wayAt_3 rfl rfl 0 rfl rfl ?_
        refine z_get (ci := 2) (C := RX2) (T := TX2) (N := 4) hG dX5_wayAt_20 iX5_wayAt_X2 1 (by decide) mX5_wayAt_5 rfl rfl 4 rfl rfl ?_
        refine z_iload hG dX5_wayAt_23 0 rfl ?_
        obtain ⟨hg, hres⟩ := z_guard hres
        refine z_iald hG dX5_wayAt_25 6 rfl hg ?_
        refine z_icmp_lt 39 hG dX5_wayAt_26 (by decide) (fun c => ?_) (fun c => ?_)
        · replace hres := z_ifp c hres
          refine z_iload_n hG dX5_wayAt_39 4 rfl ?_
          refine z_if_lt 57 hG dX5_wayAt_40 (by decide) (fun c => ?_) (fun c => ?_)
          · replace hres := z_ifp c hres
            obtain rfl := Option.some.inj hres
            exact z_throw "the way has no such place" hG (hT _ rfl) (by decide) mX5_wayAt_0 mX5_wayAt_1 (by decide) rfl (by decide) hX5_wayAt_126 zng_IndexOutOfBoundsException zgd_IndexOutOfBoundsException dX5_wayAt_57 dX5_wayAt_60 dX5_wayAt_61 dX5_wayAt_63 dX5_wayAt_66 (by decide) (Nat.le_of_ble_eq_true rfl) (Nat.le_of_ble_eq_true rfl) (Nat.le_of_ble_eq_true rfl) (Nat.le_of_ble_eq_true rfl) (Nat.le_of_ble_eq_true rfl)
          · replace hres := z_ifn c hres
            refine z_iload_n hG dX5_wayAt_43 4 rfl ?_
            refine z_aload_n hG dX5_wayAt_44 1 rfl ?_
            refine z_get (ci := 5) (C := RX5) (T := TX5) (N := 8) hG dX5_wayAt_45 iX5_wayAt_X5 1 (by decide) mX5_wayAt_3 rfl rfl 0 rfl rfl ?_
            refine z_get (ci := 2) (C := RX2) (T := TX2) (N := 4) hG dX5_wayAt_48 iX5_wayAt_X2 0 (by decide) mX5_wayAt_7 rfl rfl 4 rfl rfl ?_
            refine z_iload hG dX5_wayAt_51 0 rfl ?_
            obtain ⟨hg, hres⟩ := z_guard hres
            refine z_iald hG dX5_wayAt_53 5 rfl hg ?_
            refine z_icmp_le 67 hG dX5_wayAt_54 (by decide) (fun c => ?_) (fun c => ?_)
            · replace hres := z_ifp c hres
              refine z_aload_n hG dX5_wayAt_67 1 rfl ?_
              refine z_get (ci := 5) (C := RX5) (T := TX5) (N := 8) hG dX5_wayAt_68 iX5_wayAt_X5 2 (by decide) mX5_wayAt_8 rfl rfl 0 rfl rfl ?_
              refine z_aload_n hG dX5_wayAt_71 1 rfl ?_
              refine z_get (ci := 5) (C := RX5) (T := TX5) (N := 8) hG dX5_wayAt_72 iX5_wayAt_X5 0 (by decide) mX5_wayAt_9 rfl rfl 0 rfl rfl ?_
              refine z_iload hG dX5_wayAt_75 0 rfl ?_
              obtain ⟨v7, hv, hres⟩ := z_bind hres
              refine z_callV (As := [.ref aN, .int r3]) (rest := []) (wr := [(aH, .inr (5, [.ref aN, .ref aF, .ref aA, .ref aC, .ref aO, .ref aX, .int gB, .int gK])), (aF, .inr (2, [.ref aFl, .ref aFc, .ref aFq, .int fM])), (aFl, .inl (K.2 0, 12, .inl fL)), (aFc, .inl (K.2 0, 12, .inl fC)), (aFq, .inl (K.2 0, 12, .inl fQ))]) (ws' := (fun _ : Unit => [(aH, .inr (5, [.ref aN, .ref aF, .ref aA, .ref aC, .ref aO, .ref aX, .int gB, .int gK])), (aN, .inr (3, [.ref aNk, .ref aNn, .int nS])), (aNk, .inl (K.2 0, 12, .inl nK)), (aNn, .inl (K.2 0, 12, .inl nN)), (aF, .inr (2, [.ref aFl, .ref aFc, .ref aFq, .int fM])), (aFl, .inl (K.2 0, 12, .inl fL)), (aFc, .inl (K.2 0, 12, .inl fC)), (aFq, .inl (K.2 0, 12, .inl fQ)), (aA, .inr (2, [.ref aAl, .ref aAc, .ref aAq, .int v7.1])), (aAl, .inl (K.2 0, 12, .inl v7.2.1)), (aAc, .inl (K.2 0, 12, .inl v7.2.2.1)), (aAq, .inl (K.2 0, 12, .inl v7.2.2.2))])) (stk := (fun _ : Unit => [])) (kc' := 2) (ks' := 12) (n := 2) (C := RX2) (ci := 2) hG dX5_wayAt_77 (kX2_spread _ K aA aAl aAc aAq aN aNk aNn wM wL wC wQ nS nK nN r3 v7 hv) gX5_wayAt_X2_spread rfl rfl rfl ⟨rfl, by decide, by decide, rfl⟩ ⟨by decide, by decide⟩ (Nat.le_of_ble_eq_true rfl) ⟨(Nat.le_of_ble_eq_true rfl), (Nat.le_of_ble_eq_true rfl)⟩ [8, 9, 10, 11, 1, 2, 3] [0, 4, 5, 6, 7] [0, 9, 10, 11, 1, 2, 3, 4, 5, 6, 7, 8] rfl rfl rfl rfl (by decide) rfl (fun _ => rfl) (fun _ => rfl) rfl rfl rfl 0 rfl rfl rfl rfl (fun _ => ?_)
              refine z_aload_n hG dX5_wayAt_80 1 rfl ?_
              refine z_get (ci := 5) (C := RX5) (T := TX5) (N := 8) hG dX5_wayAt_81 iX5_wayAt_X5 0 (by decide) mX5_wayAt_9 rfl rfl 0 rfl rfl ?_
              refine z_get (ci := 3) (C := RX3) (T := TX3) (N := 3) hG dX5_wayAt_84 iX5_wayAt_X3 0 (by decide) mX5_wayAt_10 rfl rfl 1 rfl rfl ?_
              refine z_aload_n hG dX5_wayAt_87 1 rfl ?_
              refine z_iload_n hG dX5_wayAt_88 3 rfl ?_
              refine z_iload_n hG dX5_wayAt_89 4 rfl ?_
              obtain ⟨v8, hv, hres⟩ := z_bind hres
              refine z_callV (As := [.int p1, .int p2]) (rest := [.ref aNk]) (wr := ([] : va_W)) (ws' := (fun _ : Unit => [(aH, .inr (5, [.ref aN, .ref aF, .ref aA, .ref aC, .ref aO, .ref aX, .int gB, .int gK])), (aN, .inr (3, [.ref aNk, .ref aNn, .int nS])), (aNk, .inl (K.2 0, 12, .inl nK)), (aNn, .inl (K.2 0, 12, .inl nN)), (aF, .inr (2, [.ref aFl, .ref aFc, .ref aFq, .int fM])), (aFl, .inl (K.2 0, 12, .inl fL)), (aFc, .inl (K.2 0, 12, .inl fC)), (aFq, .inl (K.2 0, 12, .inl fQ)), (aA, .inr (2, [.ref aAl, .ref aAc, .ref aAq, .int v7.1])), (aAl, .inl (K.2 0, 12, .inl v7.2.1)), (aAc, .inl (K.2 0, 12, .inl v7.2.2.1)), (aAq, .inl (K.2 0, 12, .inl v7.2.2.2))])) (stk := (fun _ : Unit => [.int v8, .ref aNk])) (kc' := 2) (ks' := 12) (n := 2) (C := RX5) (ci := 5) hG dX5_wayAt_90 (kX5_goAlong _ K aH aN aNk aNn aF aFl aFc aFq aA aAl aAc aAq aC aO aX gB gK nS nK nN fM fL fC fQ v7.1 v7.2.1 v7.2.2.1 v7.2.2.2 p1 p2 v8 hv) gX5_wayAt_X5_goAlong rfl rfl rfl ⟨rfl, by decide, by decide, rfl⟩ ⟨by decide, by decide⟩ (Nat.le_of_ble_eq_true rfl) ⟨(Nat.le_of_ble_eq_true rfl), (Nat.le_of_ble_eq_true rfl)⟩ [0, 1, 2, 3, 4, 5, 6, 7, 8, 9, 10, 11] [] [0, 1, 2, 3, 4, 5, 6, 7, 8, 9, 10, 11] rfl rfl rfl rfl (by decide) rfl (fun _ => rfl) (fun _ => rfl) rfl rfl rfl 0 rfl rfl rfl rfl (fun _ => ?_)
              obtain ⟨hg, hres⟩ := z_guard hres
              refine z_iald hG dX5_wayAt_93 2 rfl hg ?_
              obtain rfl := Option.some.inj hres
              exact (z_wid (Nat.le_of_ble_eq_true rfl) (Nat.le_of_ble_eq_true rfl) (hR _ rfl _ _ dX5_wayAt_94))
            · replace hres := z_ifn c hres
              obtain rfl := Option.some.inj hres
              exact z_throw "the way has no such place" hG (hT _ rfl) (by decide) mX5_wayAt_0 mX5_wayAt_1 (by decide) rfl (by decide) hX5_wayAt_126 zng_IndexOutOfBoundsException zgd_IndexOutOfBoundsException dX5_wayAt_57 dX5_wayAt_60 dX5_wayAt_61 dX5_wayAt_63 dX5_wayAt_66 (by decide) (Nat.le_of_ble_eq_true rfl) (Nat.le_of_ble_eq_true rfl) (Nat.le_of_ble_eq_true rfl) (Nat.le_of_ble_eq_true rfl) (Nat.le_of_ble_eq_true rfl)
        · replace hres := z_ifn c hres
          obtain rfl := Option.some.inj hres
          exact z_throw "no such shortest way" hG (hT _ rfl) (by decide) mX5_wayAt_0 mX5_wayAt_1 (by decide) rfl (by decide) hX5_wayAt_126 zng_IndexOutOfBoundsException zgd_IndexOutOfBoundsException dX5_wayAt_29 dX5_wayAt_32 dX5_wayAt_33 dX5_wayAt_35 dX5_wayAt_38 (by decide) (Nat.le_of_ble_eq_true rfl) (Nat.le_of_ble_eq_true rfl) (Nat.le_of_ble_eq_true rfl) (Nat.le_of_ble_eq_true rfl) (Nat.le_of_ble_eq_true rfl)
    · rcases hv1 : v4 with x5 | r6
      · rw [hv1] at ho
        obtain rfl := Sum.inl.inj ho
        replace hres := z_elimL hv1 hres
        obtain rfl := Option.some.inj hres
        exact z_xwid (Nat.le_of_ble_eq_true rfl) (Nat.le_of_ble_eq_true rfl) (hP _ rfl _ _)
      rw [hv1] at ho
      cases ho
  · rcases hv1 : v1 with x2 | r3
    · rw [hv1] at ho
      obtain rfl := Sum.inl.inj ho
      replace hres := z_elimL hv1 hres
      obtain rfl := Option.some.inj hres
      exact z_xwid (Nat.le_of_ble_eq_true rfl) (Nat.le_of_ble_eq_true rfl) (hP _ rfl _ _)
    rw [hv1] at ho
    cases ho

theorem dX5_through_0 : decode cX5_through 0 = .ok (.aload_n 0, 1) := by decide +kernel
theorem dX5_through_1 : decode cX5_through 1 = .ok (.iload_n 1, 1) := by decide +kernel
theorem dX5_through_2 : decode cX5_through 2 = .ok (.invokevirtual 84, 3) := by decide +kernel
theorem dX5_through_5 : decode cX5_through 5 = .ok (.istore_n 3, 1) := by decide +kernel
theorem dX5_through_6 : decode cX5_through 6 = .ok (.aload_n 0, 1) := by decide +kernel
theorem dX5_through_7 : decode cX5_through 7 = .ok (.iload_n 2, 1) := by decide +kernel
theorem dX5_through_8 : decode cX5_through 8 = .ok (.invokevirtual 84, 3) := by decide +kernel
theorem dX5_through_11 : decode cX5_through 11 = .ok (.istore 4, 2) := by decide +kernel
theorem dX5_through_13 : decode cX5_through 13 = .ok (.aload_n 0, 1) := by decide +kernel
theorem dX5_through_14 : decode cX5_through 14 = .ok (.invokevirtual 134, 3) := by decide +kernel
theorem dX5_through_17 : decode cX5_through 17 = .ok (.aload_n 0, 1) := by decide +kernel
theorem dX5_through_18 : decode cX5_through 18 = .ok (.getfield 23, 3) := by decide +kernel
theorem dX5_through_21 : decode cX5_through 21 = .ok (.aload_n 0, 1) := by decide +kernel
theorem dX5_through_22 : decode cX5_through 22 = .ok (.getfield 10, 3) := by decide +kernel
theorem dX5_through_25 : decode cX5_through 25 = .ok (.iload_n 3, 1) := by decide +kernel
theorem dX5_through_26 : decode cX5_through 26 = .ok (.invokevirtual 158, 3) := by decide +kernel
theorem dX5_through_29 : decode cX5_through 29 = .ok (.aload_n 0, 1) := by decide +kernel
theorem dX5_through_30 : decode cX5_through 30 = .ok (.iload_n 3, 1) := by decide +kernel
theorem dX5_through_31 : decode cX5_through 31 = .ok (.iload 4, 2) := by decide +kernel
theorem dX5_through_33 : decode cX5_through 33 = .ok (.invokevirtual 165, 3) := by decide +kernel
theorem dX5_through_36 : decode cX5_through 36 = .ok (.ireturn, 1) := by decide +kernel
set_option maxRecDepth 20000 in
theorem ggX5_through_X5_placeOf : GoodIn wsX5_through wsX5_placeOf := goodIn_ca (goodIn_r _ [7, 8, 9, 2, 10, 11, 12, 13, 14, 15, 16, 52, 53, 54, 55, 56, 57, 58, 59, 60, 61, 62] (by decide +kernel) (by decide +kernel)) (goodIn_sub (fun _ h => List.mem_cons_of_mem _ (List.mem_append_left _ (List.mem_append_right _ h))) (by decide +kernel))
set_option maxRecDepth 20000 in
theorem gX5_through_X5_placeOf : GoodIn wsX5_through (wsV RX5 84 RX5 yX5_placeOf wsX5_placeOf) := goodIn_app (goodIn_of _ (by decide +kernel)) ggX5_through_X5_placeOf
set_option maxRecDepth 20000 in
theorem ggX5_through_X5_needStart : GoodIn wsX5_through wsX5_needStart := goodIn_ca (goodIn_r _ [20, 21, 22, 23, 52, 53, 54, 55, 56, 57, 58, 59] (by decide +kernel) (by decide +kernel)) (goodIn_sub (fun _ h => List.mem_cons_of_mem _ (List.mem_append_right _ h)) (by decide +kernel))
set_option maxRecDepth 20000 in
theorem gX5_through_X5_needStart : GoodIn wsX5_through (wsV RX5 134 RX5 yX5_needStart wsX5_needStart) := goodIn_app (goodIn_of _ (by decide +kernel)) ggX5_through_X5_needStart
set_option maxRecDepth 20000 in
theorem ggX5_through_X2_spread : GoodIn wsX5_through wsX2_spread := goodIn_r _ [28, 29, 30, 31, 32, 33, 34, 35, 36, 27, 37, 38, 39, 40, 13, 41, 42, 43, 6, 44, 63, 64, 65, 66, 60, 61, 62] (by decide +kernel) (by decide +kernel)
set_option maxRecDepth 20000 in
theorem gX5_through_X2_spread : GoodIn wsX5_through (wsV RX5 158 RX2 yX2_spread wsX2_spread) := goodIn_app (goodIn_of _ (by decide +kernel)) ggX5_through_X2_spread
set_option maxRecDepth 20000 in
theorem ggX5_through_X5_countThrough : GoodIn wsX5_through wsX5_countThrough := goodIn_r _ [48, 49, 50, 1, 51, 52, 53, 54, 55, 56, 57, 58, 59, 63, 64, 65, 66] (by decide +kernel) (by decide +kernel)
set_option maxRecDepth 20000 in
theorem gX5_through_X5_countThrough : GoodIn wsX5_through (wsV RX5 165 RX5 yX5_countThrough wsX5_countThrough) := goodIn_app (goodIn_of _ (by decide +kernel)) ggX5_through_X5_countThrough
theorem mX5_through_0 : Cond.fieldLink RX5 23 "Layerways" "aside" "LLayerways$Layers;" ∈ wsX5_through := by decide +kernel
theorem iX5_through_X5 : ∀ w ∈ u_ws RX5 TX5 8, w ∈ wsX5_through := by decide +kernel
theorem mX5_through_2 : Cond.fieldLink RX5 10 "Layerways" "net" "LLayerways$Net;" ∈ wsX5_through := by decide +kernel
def fX5_through (gB : Int32) (nS : Int32) (nK : (Nat → Int32)) (nN : (Nat → Int32)) (fL : (Nat → Int32)) (fC : (Nat → Int32)) (wM : Int32) (wL : (Nat → Int32)) (wC : (Nat → Int32)) (wQ : (Nat → Int32)) (p0 : Int32) (p1 : Int32) : Option ((String ⊕ Int32) × Int32 × (Nat → Int32) × (Nat → Int32) × (Nat → Int32)) := (fX5_placeOf nS nK p0).bind fun v1 => Sum.elim (fun x2 : String => some (.inl x2, wM, wL, wC, wQ)) (fun r3 : Int32 => (fX5_placeOf nS nK p1).bind fun v4 => Sum.elim (fun x5 : String => some (.inl x5, wM, wL, wC, wQ)) (fun r6 : Int32 => (fX5_needStart gB).bind fun v7 => Sum.elim (fun x8 : String => some (.inl x8, wM, wL, wC, wQ)) (fun r9 : Unit => (fX2_spread wL wC wQ nS nN r3).bind fun v10 => (fX5_countThrough fL fC v10.2.1 v10.2.2.1 r3 r6).bind fun v11 => some (.inr v11, v10.1, v10.2.1, v10.2.2.1, v10.2.2.2)) v7) v4) v1
set_option maxRecDepth 100000 in
set_option maxHeartbeats 4000000 in
theorem kX5_through (l : Launch) (K : zK) (aH : Nat) (aN : Nat) (aNk : Nat) (aNn : Nat) (aF : Nat) (aFl : Nat) (aFc : Nat) (aFq : Nat) (aA : Nat) (aAl : Nat) (aAc : Nat) (aAq : Nat) (aC : Nat) (aO : Nat) (aX : Nat)  (gB : Int32) (gK : Int32) (nS : Int32) (nK : (Nat → Int32)) (nN : (Nat → Int32)) (fM : Int32) (fL : (Nat → Int32)) (fC : (Nat → Int32)) (fQ : (Nat → Int32)) (wM : Int32) (wL : (Nat → Int32)) (wC : (Nat → Int32)) (wQ : (Nat → Int32)) (p0 : Int32) (p1 : Int32) (r : (String ⊕ Int32) × Int32 × (Nat → Int32) × (Nat → Int32) × (Nat → Int32)) (hres : fX5_through gB nS nK nN fL fC wM wL wC wQ p0 p1 = some r) : zX l K yX5_through wsX5_through ({ frames := 7, cells := 8, slots := 48, locals := 104 }) [.ref aH, .int p0, .int p1] [(aH, .inr (5, [.ref aN, .ref aF, .ref aA, .ref aC, .ref aO, .ref aX, .int gB, .int gK])), (aN, .inr (3, [.ref aNk, .ref aNn, .int nS])), (aNk, .inl (K.2 0, 12, .inl nK)), (aNn, .inl (K.2 0, 12, .inl nN)), (aF, .inr (2, [.ref aFl, .ref aFc, .ref aFq, .int fM])), (aFl, .inl (K.2 0, 12, .inl fL)), (aFc, .inl (K.2 0, 12, .inl fC)), (aFq, .inl (K.2 0, 12, .inl fQ)), (aA, .inr (2, [.ref aAl, .ref aAc, .ref aAq, .int wM])), (aAl, .inl (K.2 0, 12, .inl wL)), (aAc, .inl (K.2 0, 12, .inl wC)), (aAq, .inl (K.2 0, 12, .inl wQ))] (zoI r.1) [(aH, .inr (5, [.ref aN, .ref aF, .ref aA, .ref aC, .ref aO, .ref aX, .int gB, .int gK])), (aN, .inr (3, [.ref aNk, .ref aNn, .int nS])), (aNk, .inl (K.2 0, 12, .inl nK)), (aNn, .inl (K.2 0, 12, .inl nN)), (aF, .inr (2, [.ref aFl, .ref aFc, .ref aFq, .int fM])), (aFl, .inl (K.2 0, 12, .inl fL)), (aFc, .inl (K.2 0, 12, .inl fC)), (aFq, .inl (K.2 0, 12, .inl fQ)), (aA, .inr (2, [.ref aAl, .ref aAc, .ref aAq, .int r.2.1])), (aAl, .inl (K.2 0, 12, .inl r.2.2.1)), (aAc, .inl (K.2 0, 12, .inl r.2.2.2.1)), (aAq, .inl (K.2 0, 12, .inl r.2.2.2.2))] 8 48 := by
  refine zX.intI (cc := cX5_through) (maxL := 5) (ret := (some .int)) rfl (by decide) (Nat.le_of_ble_eq_true rfl) rfl ?_
  intro G hGl hG hV hR hT hP
  unfold fX5_through at hres
  show zj G 0 [(0, .ref aH), (1, .int p0), (2, .int p1)] [] [(aH, .inr (5, [.ref aN, .ref aF, .ref aA, .ref aC, .ref aO, .ref aX, .int gB, .int gK])), (aN, .inr (3, [.ref aNk, .ref aNn, .int nS])), (aNk, .inl (K.2 0, 12, .inl nK)), (aNn, .inl (K.2 0, 12, .inl nN)), (aF, .inr (2, [.ref aFl, .ref aFc, .ref aFq, .int fM])), (aFl, .inl (K.2 0, 12, .inl fL)), (aFc, .inl (K.2 0, 12, .inl fC)), (aFq, .inl (K.2 0, 12, .inl fQ)), (aA, .inr (2, [.ref aAl, .ref aAc, .ref aAq, .int wM])), (aAl, .inl (K.2 0, 12, .inl wL)), (aAc, .inl (K.2 0, 12, .inl wC)), (aAq, .inl (K.2 0, 12, .inl wQ))] 0 0
  refine z_aload_n hG dX5_through_0 0 rfl ?_
  refine z_iload_n hG dX5_through_1 1 rfl ?_
  obtain ⟨v1, hv, hres⟩ := z_bind hres
  refine z_callX (As := [.int p0]) (rest := []) (wr := [(aF, .inr (2, [.ref aFl, .ref aFc, .ref aFq, .int fM])), (aFl, .inl (K.2 0, 12, .inl fL)), (aFc, .inl (K.2 0, 12, .inl fC)), (aFq, .inl (K.2 0, 12, .inl fQ)), (aA, .inr (2, [.ref aAl, .ref aAc, .ref aAq, .int wM])), (aAl, .inl (K.2 0, 12, .inl wL)), (aAc, .inl (K.2 0, 12, .inl wC)), (aAq, .inl (K.2 0, 12, .inl wQ))]) (ws' := [(aH, .inr (5, [.ref aN, .ref aF, .ref aA, .ref aC, .ref aO, .ref aX, .int gB, .int gK])), (aN, .inr (3, [.ref aNk, .ref aNn, .int nS])), (aNk, .inl (K.2 0, 12, .inl nK)), (aNn, .inl (K.2 0, 12, .inl nN)), (aF, .inr (2, [.ref aFl, .ref aFc, .ref aFq, .int fM])), (aFl, .inl (K.2 0, 12, .inl fL)), (aFc, .inl (K.2 0, 12, .inl fC)), (aFq, .inl (K.2 0, 12, .inl fQ)), (aA, .inr (2, [.ref aAl, .ref aAc, .ref aAq, .int wM])), (aAl, .inl (K.2 0, 12, .inl wL)), (aAc, .inl (K.2 0, 12, .inl wC)), (aAq, .inl (K.2 0, 12, .inl wQ))]) (kc' := 1) (ks' := 6) (n := 1) (C := RX5) (ci := 5) hG hV dX5_through_2 (kX5_placeOf _ K aH aN aNk aNn aF aA aC aO aX gB gK nS nK nN p0 v1 hv) gX5_through_X5_placeOf rfl rfl rfl ⟨rfl, by decide, by decide, rfl⟩ ⟨by decide, by decide⟩ (Nat.le_of_ble_eq_true rfl) ⟨(Nat.le_of_ble_eq_true rfl), (Nat.le_of_ble_eq_true rfl)⟩ [0, 1, 2, 3] [4, 5, 6, 7, 8, 9, 10, 11] [8, 9, 10, 11, 0, 1, 2, 3, 4, 5, 6, 7] rfl rfl rfl rfl (by decide) rfl rfl rfl rfl rfl 0 rfl rfl rfl rfl (fun o9 ho => ?_) (fun E9 ho => ?_)
  · rcases hv1 : v1 with x2 | r3
    · rw [hv1] at ho
      cases ho
    rw [hv1] at ho
    obtain rfl := Sum.inr.inj ho
    replace hres := z_elimR hv1 hres
    show zj G 5 [(0, .ref aH), (1, .int p0), (2, .int p1)] [.int r3] [(aH, .inr (5, [.ref aN, .ref aF, .ref aA, .ref aC, .ref aO, .ref aX, .int gB, .int gK])), (aN, .inr (3, [.ref aNk, .ref aNn, .int nS])), (aNk, .inl (K.2 0, 12, .inl nK)), (aNn, .inl (K.2 0, 12, .inl nN)), (aF, .inr (2, [.ref aFl, .ref aFc, .ref aFq, .int fM])), (aFl, .inl (K.2 0, 12, .inl fL)), (aFc, .inl (K.2 0, 12, .inl fC)), (aFq, .inl (K.2 0, 12, .inl fQ)), (aA, .inr (2, [.ref aAl, .ref aAc, .ref aAq, .int wM])), (aAl, .inl (K.2 0, 12, .inl wL)), (aAc, .inl (K.2 0, 12, .inl wC)), (aAq, .inl (K.2 0, 12, .inl wQ))] 1 6
    refine z_istore_n (lv' := [(3, .int r3), (0, .ref aH), (1, .int p0), (2, .int p1)]) hG dX5_through_5 (by decide) rfl ?_
    refine z_aload_n hG dX5_through_6 1 rfl ?_
    refine z_iload_n hG dX5_through_7 3 rfl ?_
    obtain ⟨v4, hv, hres⟩ := z_bind hres
    refine z_callX (As := [.int p1]) (rest := []) (wr := [(aF, .inr (2, [.ref aFl, .ref aFc, .ref aFq, .int fM])), (aFl, .inl (K.2 0, 12, .inl fL)), (aFc, .inl (K.2 0, 12, .inl fC)), (aFq, .inl (K.2 0, 12, .inl fQ)), (aA, .inr (2, [.ref aAl, .ref aAc, .ref aAq, .int wM])), (aAl, .inl (K.2 0, 12, .inl wL)), (aAc, .inl (K.2 0, 12, .inl wC)), (aAq, .inl (K.2 0, 12, .inl wQ))]) (ws' := [(aH, .inr (5, [.ref aN, .ref aF, .ref aA, .ref aC, .ref aO, .ref aX, .int gB, .int gK])), (aN, .inr (3, [.ref aNk, .ref aNn, .int nS])), (aNk, .inl (K.2 0, 12, .inl nK)), (aNn, .inl (K.2 0, 12, .inl nN)), (aF, .inr (2, [.ref aFl, .ref aFc, .ref aFq, .int fM])), (aFl, .inl (K.2 0, 12, .inl fL)), (aFc, .inl (K.2 0, 12, .inl fC)), (aFq, .inl (K.2 0, 12, .inl fQ)), (aA, .inr (2, [.ref aAl, .ref aAc, .ref aAq, .int wM])), (aAl, .inl (K.2 0, 12, .inl wL)), (aAc, .inl (K.2 0, 12, .inl wC)), (aAq, .inl (K.2 0, 12, .inl wQ))]) (kc' := 2) (ks' := 12) (n := 1) (C := RX5) (ci := 5) hG hV dX5_through_8 (kX5_placeOf _ K aH aN aNk aNn aF aA aC aO aX gB gK nS nK nN p1 v4 hv) gX5_through_X5_placeOf rfl rfl rfl ⟨rfl, by decide, by decide, rfl⟩ ⟨by decide, by decide⟩ (Nat.le_of_ble_eq_true rfl) ⟨(Nat.le_of_ble_eq_true rfl), (Nat.le_of_ble_eq_true rfl)⟩ [0, 1, 2, 3] [4, 5, 6, 7, 8, 9, 10, 11] [8, 9, 10, 11, 0, 1, 2, 3, 4, 5, 6, 7] rfl rfl rfl rfl (by decide) rfl rfl rfl rfl rfl 0 rfl rfl rfl rfl (fun o9 ho => ?_) (fun E9 ho => ?_)
    · rcases hv1 : v4 with x5 | r6
      · rw [hv1] at ho
        cases ho
      rw [hv1] at ho
      obtain rfl := Sum.inr.inj ho
      replace hres := z_elimR hv1 hres
      show zj G 11 [(3, .int r3), (0, .ref aH), (1, .int p0), (2, .int p1)] [.int r6] [(aH, .inr (5, [.ref aN, .ref aF, .ref aA, .ref aC, .ref aO, .ref aX, .int gB, .int gK])), (aN, .inr (3, [.ref aNk, .ref aNn, .int nS])), (aNk, .inl (K.2 0, 12, .inl nK)), (aNn, .inl (K.2 0, 12, .inl nN)), (aF, .inr (2, [.ref aFl, .ref aFc, .ref aFq, .int fM])), (aFl, .inl (K.2 0, 12, .inl fL)), (aFc, .inl (K.2 0, 12, .inl fC)), (aFq, .inl (K.2 0, 12, .inl fQ)), (aA, .inr (2, [.ref aAl, .ref aAc, .ref aAq, .int wM])), (aAl, .inl (K.2 0, 12, .inl wL)), (aAc, .inl (K.2 0, 12, .inl wC)), (aAq, .inl (K.2 0, 12, .inl wQ))] 2 12
      refine z_istore (lv' := [(4, .int r6), (3, .int r3), (0, .ref aH), (1, .int p0), (2, .int p1)]) hG dX5_through_11 (by decide) rfl ?_
      refine z_aload_n hG dX5_through_13 2 rfl ?_
      obtain ⟨v7, hv, hres⟩ := z_bind hres
      refine z_callX (As := []) (rest := []) (wr := [(aN, .inr (3, [.ref aNk, .ref aNn, .int nS])), (aNk, .inl (K.2 0, 12, .inl nK)), (aNn, .inl (K.2 0, 12, .inl nN)), (aF, .inr (2, [.ref aFl, .ref aFc, .ref aFq, .int fM])), (aFl, .inl (K.2 0, 12, .inl fL)), (aFc, .inl (K.2 0, 12, .inl fC)), (aFq, .inl (K.2 0, 12, .inl fQ)), (aA, .inr (2, [.ref aAl, .ref aAc, .ref aAq, .int wM])), (aAl, .inl (K.2 0, 12, .inl wL)), (aAc, .inl (K.2 0, 12, .inl wC)), (aAq, .inl (K.2 0, 12, .inl wQ))]) (ws' := [(aH, .inr (5, [.ref aN, .ref aF, .ref aA, .ref aC, .ref aO, .ref aX, .int gB, .int gK])), (aN, .inr (3, [.ref aNk, .ref aNn, .int nS])), (aNk, .inl (K.2 0, 12, .inl nK)), (aNn, .inl (K.2 0, 12, .inl nN)), (aF, .inr (2, [.ref aFl, .ref aFc, .ref aFq, .int fM])), (aFl, .inl (K.2 0, 12, .inl fL)), (aFc, .inl (K.2 0, 12, .inl fC)), (aFq, .inl (K.2 0, 12, .inl fQ)), (aA, .inr (2, [.ref aAl, .ref aAc, .ref aAq, .int wM])), (aAl, .inl (K.2 0, 12, .inl wL)), (aAc, .inl (K.2 0, 12, .inl wC)), (aAq, .inl (K.2 0, 12, .inl wQ))]) (kc' := 3) (ks' := 18) (n := 0) (C := RX5) (ci := 5) hG hV dX5_through_14 (kX5_needStart _ K aH aN aF aA aC aO aX gB gK v7 hv) gX5_through_X5_needStart rfl rfl rfl ⟨rfl, by decide, by decide, rfl⟩ ⟨by decide, by decide⟩ (Nat.le_of_ble_eq_true rfl) ⟨(Nat.le_of_ble_eq_true rfl), (Nat.le_of_ble_eq_true rfl)⟩ [0] [1, 2, 3, 4, 5, 6, 7, 8, 9, 10, 11] [11, 0, 1, 2, 3, 4, 5, 6, 7, 8, 9, 10] rfl rfl rfl rfl (by decide) rfl rfl rfl rfl rfl 0 rfl rfl rfl rfl (fun o9 ho => ?_) (fun E9 ho => ?_)
      · rcases hv1 : v7 with x8 | r9
        · rw [hv1] at ho
          cases ho
        rw [hv1] at ho
        obtain rfl := Sum.inr.inj ho
        replace hres := z_elimR hv1 hres
        show zj G 17 [(4, .int r6), (3, .int r3), (0, .ref aH), (1, .int p0), (2, .int p1)] [] [(aH, .inr (5, [.ref aN, .ref aF, .ref aA, .ref aC, .ref aO, .ref aX, .int gB, .int gK])), (aN, .inr (3, [.ref aNk, .ref aNn, .int nS])), (aNk, .inl (K.2 0, 12, .inl nK)), (aNn, .inl (K.2 0, 12, .inl nN)), (aF, .inr (2, [.ref aFl, .ref aFc, .ref aFq, .int fM])), (aFl, .inl (K.2 0, 12, .inl fL)), (aFc, .inl (K.2 0, 12, .inl fC)), (aFq, .inl (K.2 0, 12, .inl fQ)), (aA, .inr (2, [.ref aAl, .ref aAc, .ref aAq, .int wM])), (aAl, .inl (K.2 0, 12, .inl wL)), (aAc, .inl (K.2 0, 12, .inl wC)), (aAq, .inl (K.2 0, 12, .inl wQ))] 3 18
        refine z_aload_n hG dX5_through_17 2 rfl ?_
        refine z_get (ci := 5) (C := RX5) (T := TX5) (N := 8) hG dX5_through_18 iX5_through_X5 2 (by decide) mX5_through_0 rfl rfl 0 rfl rfl ?_
        refine z_aload_n hG dX5_through_21 2 rfl ?_
        refine z_get (ci := 5) (C := RX5) (T := TX5) (N := 8) hG dX5_through_22 iX5_through_X5 0 (by decide) mX5_through_2 rfl rfl 0 rfl rfl ?_
        refine z_iload_n hG dX5_through_25 1 rfl ?_
        obtain ⟨v10, hv, hres⟩ := z_bind hres
        refine z_callV (As := [.ref aN, .int r3]) (rest := []) (wr := [(aH, .inr (5, [.ref aN, .ref aF, .ref aA, .ref aC, .ref aO, .ref aX, .int gB, .int gK])), (aF, .inr (2, [.ref aFl, .ref aFc, .ref aFq, .int fM])), (aFl, .inl (K.2 0, 12, .inl fL)), (aFc, .inl (K.2 0, 12, .inl fC)), (aFq, .inl (K.2 0, 12, .inl fQ))]) (ws' := (fun _ : Unit => [(aH, .inr (5, [.ref aN, .ref aF, .ref aA, .ref aC, .ref aO, .ref aX, .int gB, .int gK])), (aN, .inr (3, [.ref aNk, .ref aNn, .int nS])), (aNk, .inl (K.2 0, 12, .inl nK)), (aNn, .inl (K.2 0, 12, .inl nN)), (aF, .inr (2, [.ref aFl, .ref aFc, .ref aFq, .int fM])), (aFl, .inl (K.2 0, 12, .inl fL)), (aFc, .inl (K.2 0, 12, .inl fC)), (aFq, .inl (K.2 0, 12, .inl fQ)), (aA, .inr (2, [.ref aAl, .ref aAc, .ref aAq, .int v10.1])), (aAl, .inl (K.2 0, 12, .inl v10.2.1)), (aAc, .inl (K.2 0, 12, .inl v10.2.2.1)), (aAq, .inl (K.2 0, 12, .inl v10.2.2.2))])) (stk := (fun _ : Unit => [])) (kc' := 3) (ks' := 18) (n := 2) (C := RX2) (ci := 2) hG dX5_through_26 (kX2_spread _ K aA aAl aAc aAq aN aNk aNn wM wL wC wQ nS nK nN r3 v10 hv) gX5_through_X2_spread rfl rfl rfl ⟨rfl, by decide, by decide, rfl⟩ ⟨by decide, by decide⟩ (Nat.le_of_ble_eq_true rfl) ⟨(Nat.le_of_ble_eq_true rfl), (Nat.le_of_ble_eq_true rfl)⟩ [8, 9, 10, 11, 1, 2, 3] [0, 4, 5, 6, 7] [0, 9, 10, 11, 1, 2, 3, 4, 5, 6, 7, 8] rfl rfl rfl rfl (by decide) rfl (fun _ => rfl) (fun _ => rfl) rfl rfl rfl 0 rfl rfl rfl rfl (fun _ => ?_)
        refine z_aload_n hG dX5_through_29 2 rfl ?_
        refine z_iload_n hG dX5_through_30 1 rfl ?_
        refine z_iload hG dX5_through_31 0 rfl ?_
        obtain ⟨v11, hv, hres⟩ := z_bind hres
        refine z_callV (As := [.int r3, .int r6]) (rest := []) (wr := [(aN, .inr (3, [.ref aNk, .ref aNn, .int nS])), (aNk, .inl (K.2 0, 12, .inl nK)), (aNn, .inl (K.2 0, 12, .inl nN))]) (ws' := (fun _ : Unit => [(aH, .inr (5, [.ref aN, .ref aF, .ref aA, .ref aC, .ref aO, .ref aX, .int gB, .int gK])), (aN, .inr (3, [.ref aNk, .ref aNn, .int nS])), (aNk, .inl (K.2 0, 12, .inl nK)), (aNn, .inl (K.2 0, 12, .inl nN)), (aF, .inr (2, [.ref aFl, .ref aFc, .ref aFq, .int fM])), (aFl, .inl (K.2 0, 12, .inl fL)), (aFc, .inl (K.2 0, 12, .inl fC)), (aFq, .inl (K.2 0, 12, .inl fQ)), (aA, .inr (2, [.ref aAl, .ref aAc, .ref aAq, .int v10.1])), (aAl, .inl (K.2 0, 12, .inl v10.2.1)), (aAc, .inl (K.2 0, 12, .inl v10.2.2.1)), (aAq, .inl (K.2 0, 12, .inl v10.2.2.2))])) (stk := (fun _ : Unit => [.int v11])) (kc' := 3) (ks' := 18) (n := 2) (C := RX5) (ci := 5) hG dX5_through_33 (kX5_countThrough _ K aH aF aFl aFc aFq aA aAl aAc aAq aN aC aO aX gB gK fM fL fC fQ v10.1 v10.2.1 v10.2.2.1 v10.2.2.2 r3 r6 v11 hv) gX5_through_X5_countThrough rfl rfl rfl ⟨rfl, by decide, by decide, rfl⟩ ⟨by decide, by decide⟩ (Nat.le_of_ble_eq_true rfl) ⟨(Nat.le_of_ble_eq_true rfl), (Nat.le_of_ble_eq_true rfl)⟩ [0, 4, 5, 6, 7, 8, 9, 10, 11] [1, 2, 3] [3, 0, 1, 2, 4, 5, 6, 7, 8, 9, 10, 11] rfl rfl rfl rfl (by decide) rfl (fun _ => rfl) (fun _ => rfl) rfl rfl rfl 0 rfl rfl rfl rfl (fun _ => ?_)
        obtain rfl := Option.some.inj hres
        exact (z_wid (Nat.le_of_ble_eq_true rfl) (Nat.le_of_ble_eq_true rfl) (hR _ rfl _ _ dX5_through_36))
      · rcases hv1 : v7 with x8 | r9
        · rw [hv1] at ho
          obtain rfl := Sum.inl.inj ho
          replace hres := z_elimL hv1 hres
          obtain rfl := Option.some.inj hres
          exact z_xwid (Nat.le_of_ble_eq_true rfl) (Nat.le_of_ble_eq_true rfl) (hP _ rfl _ _)
        rw [hv1] at ho
        cases ho
    · rcases hv1 : v4 with x5 | r6
      · rw [hv1] at ho
        obtain rfl := Sum.inl.inj ho
        replace hres := z_elimL hv1 hres
        obtain rfl := Option.some.inj hres
        exact z_xwid (Nat.le_of_ble_eq_true rfl) (Nat.le_of_ble_eq_true rfl) (hP _ rfl _ _)
      rw [hv1] at ho
      cases ho
  · rcases hv1 : v1 with x2 | r3
    · rw [hv1] at ho
      obtain rfl := Sum.inl.inj ho
      replace hres := z_elimL hv1 hres
      obtain rfl := Option.some.inj hres
      exact z_xwid (Nat.le_of_ble_eq_true rfl) (Nat.le_of_ble_eq_true rfl) (hP _ rfl _ _)
    rw [hv1] at ho
    cases ho

theorem dX5_isOnAll_0 : decode cX5_isOnAll 0 = .ok (.aload_n 0, 1) := by decide +kernel
theorem dX5_isOnAll_1 : decode cX5_isOnAll 1 = .ok (.iload_n 1, 1) := by decide +kernel
theorem dX5_isOnAll_2 : decode cX5_isOnAll 2 = .ok (.invokevirtual 84, 3) := by decide +kernel
theorem dX5_isOnAll_5 : decode cX5_isOnAll 5 = .ok (.istore_n 3, 1) := by decide +kernel
theorem dX5_isOnAll_6 : decode cX5_isOnAll 6 = .ok (.aload_n 0, 1) := by decide +kernel
theorem dX5_isOnAll_7 : decode cX5_isOnAll 7 = .ok (.iload_n 2, 1) := by decide +kernel
theorem dX5_isOnAll_8 : decode cX5_isOnAll 8 = .ok (.invokevirtual 84, 3) := by decide +kernel
theorem dX5_isOnAll_11 : decode cX5_isOnAll 11 = .ok (.istore 4, 2) := by decide +kernel
theorem dX5_isOnAll_13 : decode cX5_isOnAll 13 = .ok (.aload_n 0, 1) := by decide +kernel
theorem dX5_isOnAll_14 : decode cX5_isOnAll 14 = .ok (.invokevirtual 134, 3) := by decide +kernel
theorem dX5_isOnAll_17 : decode cX5_isOnAll 17 = .ok (.aload_n 0, 1) := by decide +kernel
theorem dX5_isOnAll_18 : decode cX5_isOnAll 18 = .ok (.iload_n 3, 1) := by decide +kernel
theorem dX5_isOnAll_19 : decode cX5_isOnAll 19 = .ok (.invokevirtual 168, 3) := by decide +kernel
theorem dX5_isOnAll_22 : decode cX5_isOnAll 22 = .ok (.aload_n 0, 1) := by decide +kernel
theorem dX5_isOnAll_23 : decode cX5_isOnAll 23 = .ok (.getfield 23, 3) := by decide +kernel
theorem dX5_isOnAll_26 : decode cX5_isOnAll 26 = .ok (.aload_n 0, 1) := by decide +kernel
theorem dX5_isOnAll_27 : decode cX5_isOnAll 27 = .ok (.getfield 10, 3) := by decide +kernel
theorem dX5_isOnAll_30 : decode cX5_isOnAll 30 = .ok (.iload_n 3, 1) := by decide +kernel
theorem dX5_isOnAll_31 : decode cX5_isOnAll 31 = .ok (.invokevirtual 158, 3) := by decide +kernel
theorem dX5_isOnAll_34 : decode cX5_isOnAll 34 = .ok (.aload_n 0, 1) := by decide +kernel
theorem dX5_isOnAll_35 : decode cX5_isOnAll 35 = .ok (.iload_n 3, 1) := by decide +kernel
theorem dX5_isOnAll_36 : decode cX5_isOnAll 36 = .ok (.iload 4, 2) := by decide +kernel
theorem dX5_isOnAll_38 : decode cX5_isOnAll 38 = .ok (.invokevirtual 165, 3) := by decide +kernel
theorem dX5_isOnAll_41 : decode cX5_isOnAll 41 = .ok (.aload_n 0, 1) := by decide +kernel
theorem dX5_isOnAll_42 : decode cX5_isOnAll 42 = .ok (.getfield 19, 3) := by decide +kernel
theorem dX5_isOnAll_45 : decode cX5_isOnAll 45 = .ok (.getfield 151, 3) := by decide +kernel
theorem dX5_isOnAll_48 : decode cX5_isOnAll 48 = .ok (.iload_n 3, 1) := by decide +kernel
theorem dX5_isOnAll_49 : decode cX5_isOnAll 49 = .ok (.iaload, 1) := by decide +kernel
theorem dX5_isOnAll_50 : decode cX5_isOnAll 50 = .ok (.if_icmp .ne 7, 3) := by decide +kernel
theorem dX5_isOnAll_53 : decode cX5_isOnAll 53 = .ok (.iconst 1, 1) := by decide +kernel
theorem dX5_isOnAll_54 : decode cX5_isOnAll 54 = .ok (.goto 4, 3) := by decide +kernel
theorem dX5_isOnAll_57 : decode cX5_isOnAll 57 = .ok (.iconst 0, 1) := by decide +kernel
theorem dX5_isOnAll_58 : decode cX5_isOnAll 58 = .ok (.ireturn, 1) := by decide +kernel
set_option maxRecDepth 20000 in
theorem ggX5_isOnAll_X5_placeOf : GoodIn wsX5_isOnAll wsX5_placeOf := goodIn_ca (goodIn_r _ [9, 10, 11, 2, 12, 13, 14, 15, 16, 17, 18, 58, 59, 60, 61, 62, 63, 64, 65, 70, 71, 72] (by decide +kernel) (by decide +kernel)) (goodIn_sub (fun _ h => List.mem_cons_of_mem _ (List.mem_append_left _ (List.mem_append_left _ (List.mem_append_right _ h)))) (by decide +kernel))
set_option maxRecDepth 20000 in
theorem gX5_isOnAll_X5_placeOf : GoodIn wsX5_isOnAll (wsV RX5 84 RX5 yX5_placeOf wsX5_placeOf) := goodIn_app (goodIn_of _ (by decide +kernel)) ggX5_isOnAll_X5_placeOf
set_option maxRecDepth 20000 in
theorem ggX5_isOnAll_X5_needStart : GoodIn wsX5_isOnAll wsX5_needStart := goodIn_ca (goodIn_r _ [22, 23, 24, 25, 58, 59, 60, 61, 62, 63, 64, 65] (by decide +kernel) (by decide +kernel)) (goodIn_sub (fun _ h => List.mem_cons_of_mem _ (List.mem_append_left _ (List.mem_append_right _ h))) (by decide +kernel))
set_option maxRecDepth 20000 in
theorem gX5_isOnAll_X5_needStart : GoodIn wsX5_isOnAll (wsV RX5 134 RX5 yX5_needStart wsX5_needStart) := goodIn_app (goodIn_of _ (by decide +kernel)) ggX5_isOnAll_X5_needStart
set_option maxRecDepth 20000 in
theorem ggX5_isOnAll_X5_needWay : GoodIn wsX5_isOnAll wsX5_needWay := goodIn_ca (goodIn_r _ [29, 30, 31, 3, 32, 58, 59, 60, 61, 62, 63, 64, 65, 66, 67, 68, 69] (by decide +kernel) (by decide +kernel)) (goodIn_sub (fun _ h => List.mem_cons_of_mem _ (List.mem_append_right _ h)) (by decide +kernel))
set_option maxRecDepth 20000 in
theorem gX5_isOnAll_X5_needWay : GoodIn wsX5_isOnAll (wsV RX5 168 RX5 yX5_needWay wsX5_needWay) := goodIn_app (goodIn_of _ (by decide +kernel)) ggX5_isOnAll_X5_needWay
set_option maxRecDepth 20000 in
theorem ggX5_isOnAll_X2_spread : GoodIn wsX5_isOnAll wsX2_spread := goodIn_r _ [37, 38, 39, 40, 41, 42, 43, 44, 45, 36, 46, 47, 48, 49, 15, 50, 51, 52, 8, 53, 66, 67, 68, 69, 70, 71, 72] (by decide +kernel) (by decide +kernel)
set_option maxRecDepth 20000 in
theorem gX5_isOnAll_X2_spread : GoodIn wsX5_isOnAll (wsV RX5 158 RX2 yX2_spread wsX2_spread) := goodIn_app (goodIn_of _ (by decide +kernel)) ggX5_isOnAll_X2_spread
set_option maxRecDepth 20000 in
theorem ggX5_isOnAll_X5_countThrough : GoodIn wsX5_isOnAll wsX5_countThrough := goodIn_r _ [57, 3, 32, 1, 4, 58, 59, 60, 61, 62, 63, 64, 65, 66, 67, 68, 69] (by decide +kernel) (by decide +kernel)
set_option maxRecDepth 20000 in
theorem gX5_isOnAll_X5_countThrough : GoodIn wsX5_isOnAll (wsV RX5 165 RX5 yX5_countThrough wsX5_countThrough) := goodIn_app (goodIn_of _ (by decide +kernel)) ggX5_isOnAll_X5_countThrough
theorem mX5_isOnAll_0 : Cond.fieldLink RX5 23 "Layerways" "aside" "LLayerways$Layers;" ∈ wsX5_isOnAll := by decide +kernel
theorem iX5_isOnAll_X5 : ∀ w ∈ u_ws RX5 TX5 8, w ∈ wsX5_isOnAll := by decide +kernel
theorem mX5_isOnAll_2 : Cond.fieldLink RX5 10 "Layerways" "net" "LLayerways$Net;" ∈ wsX5_isOnAll := by decide +kernel
theorem mX5_isOnAll_3 : Cond.fieldLink RX5 19 "Layerways" "fromStart" "LLayerways$Layers;" ∈ wsX5_isOnAll := by decide +kernel
theorem mX5_isOnAll_4 : Cond.fieldLink RX5 151 "Layerways$Layers" "counts" "[I" ∈ wsX5_isOnAll := by decide +kernel
theorem iX5_isOnAll_X2 : ∀ w ∈ u_ws RX2 TX2 4, w ∈ wsX5_isOnAll := by decide +kernel
def fX5_isOnAll (gB : Int32) (nS : Int32) (nK : (Nat → Int32)) (nN : (Nat → Int32)) (fL : (Nat → Int32)) (fC : (Nat → Int32)) (wM : Int32) (wL : (Nat → Int32)) (wC : (Nat → Int32)) (wQ : (Nat → Int32)) (p0 : Int32) (p1 : Int32) : Option ((String ⊕ Int32) × Int32 × (Nat → Int32) × (Nat → Int32) × (Nat → Int32)) := (fX5_placeOf nS nK p0).bind fun v1 => Sum.elim (fun x2 : String => some (.inl x2, wM, wL, wC, wQ)) (fun r3 : Int32 => (fX5_placeOf nS nK p1).bind fun v4 => Sum.elim (fun x5 : String => some (.inl x5, wM, wL, wC, wQ)) (fun r6 : Int32 => (fX5_needStart gB).bind fun v7 => Sum.elim (fun x8 : String => some (.inl x8, wM, wL, wC, wQ)) (fun r9 : Unit => (fX5_needWay fL r3).bind fun v10 => Sum.elim (fun x11 : String => some (.inl x11, wM, wL, wC, wQ)) (fun r12 : Unit => (fX2_spread wL wC wQ nS nN r3).bind fun v13 => (fX5_countThrough fL fC v13.2.1 v13.2.2.1 r3 r6).bind fun v14 => if zin r3 12 then if v14 = (fC r3.toNatClampNeg) then some (.inr 1, v13.1, v13.2.1, v13.2.2.1, v13.2.2.2) else some (.inr 0, v13.1, v13.2.1, v13.2.2.1, v13.2.2.2) else none) v10) v7) v4) v1
set_option maxRecDepth 100000 in
set_option maxHeartbeats 4000000 in
theorem kX5_isOnAll (l : Launch) (K : zK) (aH : Nat) (aN : Nat) (aNk : Nat) (aNn : Nat) (aF : Nat) (aFl : Nat) (aFc : Nat) (aFq : Nat) (aA : Nat) (aAl : Nat) (aAc : Nat) (aAq : Nat) (aC : Nat) (aO : Nat) (aX : Nat)  (gB : Int32) (gK : Int32) (nS : Int32) (nK : (Nat → Int32)) (nN : (Nat → Int32)) (fM : Int32) (fL : (Nat → Int32)) (fC : (Nat → Int32)) (fQ : (Nat → Int32)) (wM : Int32) (wL : (Nat → Int32)) (wC : (Nat → Int32)) (wQ : (Nat → Int32)) (p0 : Int32) (p1 : Int32) (r : (String ⊕ Int32) × Int32 × (Nat → Int32) × (Nat → Int32) × (Nat → Int32)) (hres : fX5_isOnAll gB nS nK nN fL fC wM wL wC wQ p0 p1 = some r) : zX l K yX5_isOnAll wsX5_isOnAll ({ frames := 7, cells := 8, slots := 48, locals := 104 }) [.ref aH, .int p0, .int p1] [(aH, .inr (5, [.ref aN, .ref aF, .ref aA, .ref aC, .ref aO, .ref aX, .int gB, .int gK])), (aN, .inr (3, [.ref aNk, .ref aNn, .int nS])), (aNk, .inl (K.2 0, 12, .inl nK)), (aNn, .inl (K.2 0, 12, .inl nN)), (aF, .inr (2, [.ref aFl, .ref aFc, .ref aFq, .int fM])), (aFl, .inl (K.2 0, 12, .inl fL)), (aFc, .inl (K.2 0, 12, .inl fC)), (aFq, .inl (K.2 0, 12, .inl fQ)), (aA, .inr (2, [.ref aAl, .ref aAc, .ref aAq, .int wM])), (aAl, .inl (K.2 0, 12, .inl wL)), (aAc, .inl (K.2 0, 12, .inl wC)), (aAq, .inl (K.2 0, 12, .inl wQ))] (zoI r.1) [(aH, .inr (5, [.ref aN, .ref aF, .ref aA, .ref aC, .ref aO, .ref aX, .int gB, .int gK])), (aN, .inr (3, [.ref aNk, .ref aNn, .int nS])), (aNk, .inl (K.2 0, 12, .inl nK)), (aNn, .inl (K.2 0, 12, .inl nN)), (aF, .inr (2, [.ref aFl, .ref aFc, .ref aFq, .int fM])), (aFl, .inl (K.2 0, 12, .inl fL)), (aFc, .inl (K.2 0, 12, .inl fC)), (aFq, .inl (K.2 0, 12, .inl fQ)), (aA, .inr (2, [.ref aAl, .ref aAc, .ref aAq, .int r.2.1])), (aAl, .inl (K.2 0, 12, .inl r.2.2.1)), (aAc, .inl (K.2 0, 12, .inl r.2.2.2.1)), (aAq, .inl (K.2 0, 12, .inl r.2.2.2.2))] 8 48 := by
  refine zX.intZ (cc := cX5_isOnAll) (maxL := 5) (ret := (some .boolean)) rfl (by decide) (Nat.le_of_ble_eq_true rfl) rfl ?_
  intro G hGl hG hV hR hT hP
  unfold fX5_isOnAll at hres
  show zj G 0 [(0, .ref aH), (1, .int p0), (2, .int p1)] [] [(aH, .inr (5, [.ref aN, .ref aF, .ref aA, .ref aC, .ref aO, .ref aX, .int gB, .int gK])), (aN, .inr (3, [.ref aNk, .ref aNn, .int nS])), (aNk, .inl (K.2 0, 12, .inl nK)), (aNn, .inl (K.2 0, 12, .inl nN)), (aF, .inr (2, [.ref aFl, .ref aFc, .ref aFq, .int fM])), (aFl, .inl (K.2 0, 12, .inl fL)), (aFc, .inl (K.2 0, 12, .inl fC)), (aFq, .inl (K.2 0, 12, .inl fQ)), (aA, .inr (2, [.ref aAl, .ref aAc, .ref aAq, .int wM])), (aAl, .inl (K.2 0, 12, .inl wL)), (aAc, .inl (K.2 0, 12, .inl wC)), (aAq, .inl (K.2 0, 12, .inl wQ))] 0 0
  refine z_aload_n hG dX5_isOnAll_0 0 rfl ?_
  refine z_iload_n hG dX5_isOnAll_1 1 rfl ?_
  obtain ⟨v1, hv, hres⟩ := z_bind hres
  refine z_callX (As := [.int p0]) (rest := []) (wr := [(aF, .inr (2, [.ref aFl, .ref aFc, .ref aFq, .int fM])), (aFl, .inl (K.2 0, 12, .inl fL)), (aFc, .inl (K.2 0, 12, .inl fC)), (aFq, .inl (K.2 0, 12, .inl fQ)), (aA, .inr (2, [.ref aAl, .ref aAc, .ref aAq, .int wM])), (aAl, .inl (K.2 0, 12, .inl wL)), (aAc, .inl (K.2 0, 12, .inl wC)), (aAq, .inl (K.2 0, 12, .inl wQ))]) (ws' := [(aH, .inr (5, [.ref aN, .ref aF, .ref aA, .ref aC, .ref aO, .ref aX, .int gB, .int gK])), (aN, .inr (3, [.ref aNk, .ref aNn, .int nS])), (aNk, .inl (K.2 0, 12, .inl nK)), (aNn, .inl (K.2 0, 12, .inl nN)), (aF, .inr (2, [.ref aFl, .ref aFc, .ref aFq, .int fM])), (aFl, .inl (K.2 0, 12, .inl fL)), (aFc, .inl (K.2 0, 12, .inl fC)), (aFq, .inl (K.2 0, 12, .inl fQ)), (aA, .inr (2, [.ref aAl, .ref aAc, .ref aAq, .int wM])), (aAl, .inl (K.2 0, 12, .inl wL)), (aAc, .inl (K.2 0, 12, .inl wC)), (aAq, .inl (K.2 0, 12, .inl wQ))]) (kc' := 1) (ks' := 6) (n := 1) (C := RX5) (ci := 5) hG hV dX5_isOnAll_2 (kX5_placeOf _ K aH aN aNk aNn aF aA aC aO aX gB gK nS nK nN p0 v1 hv) gX5_isOnAll_X5_placeOf rfl rfl rfl ⟨rfl, by decide, by decide, rfl⟩ ⟨by decide, by decide⟩ (Nat.le_of_ble_eq_true rfl) ⟨(Nat.le_of_ble_eq_true rfl), (Nat.le_of_ble_eq_true rfl)⟩ [0, 1, 2, 3] [4, 5, 6, 7, 8, 9, 10, 11] [8, 9, 10, 11, 0, 1, 2, 3, 4, 5, 6, 7] rfl rfl rfl rfl (by decide) rfl rfl rfl rfl rfl 0 rfl rfl rfl rfl (fun o9 ho => ?_) (fun E9 ho => ?_)
  · rcases hv1 : v1 with x2 | r3
    · rw [hv1] at ho
      cases ho
    rw [hv1] at ho
    obtain rfl := Sum.inr.inj ho
    replace hres := z_elimR hv1 hres
    show zj G 5 [(0, .ref aH), (1, .int p0), (2, .int p1)] [.int r3] [(aH, .inr (5, [.ref aN, .ref aF, .ref aA, .ref aC, .ref aO, .ref aX, .int gB, .int gK])), (aN, .inr (3, [.ref aNk, .ref aNn, .int nS])), (aNk, .inl (K.2 0, 12, .inl nK)), (aNn, .inl (K.2 0, 12, .inl nN)), (aF, .inr (2, [.ref aFl, .ref aFc, .ref aFq, .int fM])), (aFl, .inl (K.2 0, 12, .inl fL)), (aFc, .inl (K.2 0, 12, .inl fC)), (aFq, .inl (K.2 0, 12, .inl fQ)), (aA, .inr (2, [.ref aAl, .ref aAc, .ref aAq, .int wM])), (aAl, .inl (K.2 0, 12, .inl wL)), (aAc, .inl (K.2 0, 12, .inl wC)), (aAq, .inl (K.2 0, 12, .inl wQ))] 1 6
    refine z_istore_n (lv' := [(3, .int r3), (0, .ref aH), (1, .int p0), (2, .int p1)]) hG dX5_isOnAll_5 (by decide) rfl ?_
    refine z_aload_n hG dX5_isOnAll_6 1 rfl ?_
    refine z_iload_n hG dX5_isOnAll_7 3 rfl ?_
    obtain ⟨v4, hv, hres⟩ := z_bind hres
    refine z_callX (As := [.int p1]) (rest := []) (wr := [(aF, .inr (2, [.ref aFl, .ref aFc, .ref aFq, .int fM])), (aFl, .inl (K.2 0, 12, .inl fL)), (aFc, .inl (K.2 0, 12, .inl fC)), (aFq, .inl (K.2 0, 12, .inl fQ)), (aA, .inr (2, [.ref aAl, .ref aAc, .ref aAq, .int wM])), (aAl, .inl (K.2 0, 12, .inl wL)), (aAc, .inl (K.2 0, 12, .inl wC)), (aAq, .inl (K.2 0, 12, .inl wQ))]) (ws' := [(aH, .inr (5, [.ref aN, .ref aF, .ref aA, .ref aC, .ref aO, .ref aX, .int gB, .int gK])), (aN, .inr (3, [.ref aNk, .ref aNn, .int nS])), (aNk, .inl (K.2 0, 12, .inl nK)), (aNn, .inl (K.2 0, 12, .inl nN)), (aF, .inr (2, [.ref aFl, .ref aFc, .ref aFq, .int fM])), (aFl, .inl (K.2 0, 12, .inl fL)), (aFc, .inl (K.2 0, 12, .inl fC)), (aFq, .inl (K.2 0, 12, .inl fQ)), (aA, .inr (2, [.ref aAl, .ref aAc, .ref aAq, .int wM])), (aAl, .inl (K.2 0, 12, .inl wL)), (aAc, .inl (K.2 0, 12, .inl wC)), (aAq, .inl (K.2 0, 12, .inl wQ))]) (kc' := 2) (ks' := 12) (n := 1) (C := RX5) (ci := 5) hG hV dX5_isOnAll_8 (kX5_placeOf _ K aH aN aNk aNn aF aA aC aO aX gB gK nS nK nN p1 v4 hv) gX5_isOnAll_X5_placeOf rfl rfl rfl ⟨rfl, by decide, by decide, rfl⟩ ⟨by decide, by decide⟩ (Nat.le_of_ble_eq_true rfl) ⟨(Nat.le_of_ble_eq_true rfl), (Nat.le_of_ble_eq_true rfl)⟩ [0, 1, 2, 3] [4, 5, 6, 7, 8, 9, 10, 11] [8, 9, 10, 11, 0, 1, 2, 3, 4, 5, 6, 7] rfl rfl rfl rfl (by decide) rfl rfl rfl rfl rfl 0 rfl rfl rfl rfl (fun o9 ho => ?_) (fun E9 ho => ?_)
    · rcases hv1 : v4 with x5 | r6
      · rw [hv1] at ho
        cases ho
      rw [hv1] at ho
      obtain rfl := Sum.inr.inj ho
      replace hres := z_elimR hv1 hres
      show zj G 11 [(3, .int r3), (0, .ref aH), (1, .int p0), (2, .int p1)] [.int r6] [(aH, .inr (5, [.ref aN, .ref aF, .ref aA, .ref aC, .ref aO, .ref aX, .int gB, .int gK])), (aN, .inr (3, [.ref aNk, .ref aNn, .int nS])), (aNk, .inl (K.2 0, 12, .inl nK)), (aNn, .inl (K.2 0, 12, .inl nN)), (aF, .inr (2, [.ref aFl, .ref aFc, .ref aFq, .int fM])), (aFl, .inl (K.2 0, 12, .inl fL)), (aFc, .inl (K.2 0, 12, .inl fC)), (aFq, .inl (K.2 0, 12, .inl fQ)), (aA, .inr (2, [.ref aAl, .ref aAc, .ref aAq, .int wM])), (aAl, .inl (K.2 0, 12, .inl wL)), (aAc, .inl (K.2 0, 12, .inl wC)), (aAq, .inl (K.2 0, 12, .inl wQ))] 2 12
      refine z_istore (lv' := [(4, .int r6), (3, .int r3), (0, .ref aH), (1, .int p0), (2, .int p1)]) hG dX5_isOnAll_11 (by decide) rfl ?_
      refine z_aload_n hG dX5_isOnAll_13 2 rfl ?_
      obtain ⟨v7, hv, hres⟩ := z_bind hres
      refine z_callX (As := []) (rest := []) (wr := [(aN, .inr (3, [.ref aNk, .ref aNn, .int nS])), (aNk, .inl (K.2 0, 12, .inl nK)), (aNn, .inl (K.2 0, 12, .inl nN)), (aF, .inr (2, [.ref aFl, .ref aFc, .ref aFq, .int fM])), (aFl, .inl (K.2 0, 12, .inl fL)), (aFc, .inl (K.2 0, 12, .inl fC)), (aFq, .inl (K.2 0, 12, .inl fQ)), (aA, .inr (2, [.ref aAl, .ref aAc, .ref aAq, .int wM])), (aAl, .inl (K.2 0, 12, .inl wL)), (aAc, .inl (K.2 0, 12, .inl wC)), (aAq, .inl (K.2 0, 12, .inl wQ))]) (ws' := [(aH, .inr (5, [.ref aN, .ref aF, .ref aA, .ref aC, .ref aO, .ref aX, .int gB, .int gK])), (aN, .inr (3, [.ref aNk, .ref aNn, .int nS])), (aNk, .inl (K.2 0, 12, .inl nK)), (aNn, .inl (K.2 0, 12, .inl nN)), (aF, .inr (2, [.ref aFl, .ref aFc, .ref aFq, .int fM])), (aFl, .inl (K.2 0, 12, .inl fL)), (aFc, .inl (K.2 0, 12, .inl fC)), (aFq, .inl (K.2 0, 12, .inl fQ)), (aA, .inr (2, [.ref aAl, .ref aAc, .ref aAq, .int wM])), (aAl, .inl (K.2 0, 12, .inl wL)), (aAc, .inl (K.2 0, 12, .inl wC)), (aAq, .inl (K.2 0, 12, .inl wQ))]) (kc' := 3) (ks' := 18) (n := 0) (C := RX5) (ci := 5) hG hV dX5_isOnAll_14 (kX5_needStart _ K aH aN aF aA aC aO aX gB gK v7 hv) gX5_isOnAll_X5_needStart rfl rfl rfl ⟨rfl, by decide, by decide, rfl⟩ ⟨by decide, by decide⟩ (Nat.le_of_ble_eq_true rfl) ⟨(Nat.le_of_ble_eq_true rfl), (Nat.le_of_ble_eq_true rfl)⟩ [0] [1, 2, 3, 4, 5, 6, 7, 8, 9, 10, 11] [11, 0, 1, 2, 3, 4, 5, 6, 7, 8, 9, 10] rfl rfl rfl rfl (by decide) rfl rfl rfl rfl rfl 0 rfl rfl rfl rfl (fun o9 ho => ?_) (fun E9 ho => ?_)
      · rcases hv1 : v7 with x8 | r9
        · rw [hv1] at ho
          cases ho
        rw [hv1] at ho
        obtain rfl := Sum.inr.inj ho
        replace hres := z_elimR hv1 hres
        show zj G 17 [(4, .int r6), (3, .int r3), (0, .ref aH), (1, .int p0), (2, .int p1)] [] [(aH, .inr (5, [.ref aN, .ref aF, .ref aA, .ref aC, .ref aO, .ref aX, .int gB, .int gK])), (aN, .inr (3, [.ref aNk, .ref aNn, .int nS])), (aNk, .inl (K.2 0, 12, .inl nK)), (aNn, .inl (K.2 0, 12, .inl nN)), (aF, .inr (2, [.ref aFl, .ref aFc, .ref aFq, .int fM])), (aFl, .inl (K.2 0, 12, .inl fL)), (aFc, .inl (K.2 0, 12, .inl fC)), (aFq, .inl (K.2 0, 12, .inl fQ)), (aA, .inr (2, [.ref aAl, .ref aAc, .ref aAq, .int wM])), (aAl, .inl (K.2 0, 12, .inl wL)), (aAc, .inl (K.2 0, 12, .inl wC)), (aAq, .inl (K.2 0, 12, .inl wQ))] 3 18
        refine z_aload_n hG dX5_isOnAll_17 2 rfl ?_
        refine z_iload_n hG dX5_isOnAll_18 1 rfl ?_
        obtain ⟨v10, hv, hres⟩ := z_bind hres
        refine z_callX (As := [.int r3]) (rest := []) (wr := [(aN, .inr (3, [.ref aNk, .ref aNn, .int nS])), (aNk, .inl (K.2 0, 12, .inl nK)), (aNn, .inl (K.2 0, 12, .inl nN)), (aA, .inr (2, [.ref aAl, .ref aAc, .ref aAq, .int wM])), (aAl, .inl (K.2 0, 12, .inl wL)), (aAc, .inl (K.2 0, 12, .inl wC)), (aAq, .inl (K.2 0, 12, .inl wQ))]) (ws' := [(aH, .inr (5, [.ref aN, .ref aF, .ref aA, .ref aC, .ref aO, .ref aX, .int gB, .int gK])), (aN, .inr (3, [.ref aNk, .ref aNn, .int nS])), (aNk, .inl (K.2 0, 12, .inl nK)), (aNn, .inl (K.2 0, 12, .inl nN)), (aF, .inr (2, [.ref aFl, .ref aFc, .ref aFq, .int fM])), (aFl, .inl (K.2 0, 12, .inl fL)), (aFc, .inl (K.2 0, 12, .inl fC)), (aFq, .inl (K.2 0, 12, .inl fQ)), (aA, .inr (2, [.ref aAl, .ref aAc, .ref aAq, .int wM])), (aAl, .inl (K.2 0, 12, .inl wL)), (aAc, .inl (K.2 0, 12, .inl wC)), (aAq, .inl (K.2 0, 12, .inl wQ))]) (kc' := 4) (ks' := 24) (n := 1) (C := RX5) (ci := 5) hG hV dX5_isOnAll_19 (kX5_needWay _ K aH aF aFl aFc aFq aN aA aC aO aX gB gK fM fL fC fQ r3 v10 hv) gX5_isOnAll_X5_needWay rfl rfl rfl ⟨rfl, by decide, by decide, rfl⟩ ⟨by decide, by decide⟩ (Nat.le_of_ble_eq_true rfl) ⟨(Nat.le_of_ble_eq_true rfl), (Nat.le_of_ble_eq_true rfl)⟩ [0, 4, 5, 6, 7] [1, 2, 3, 8, 9, 10, 11] [7, 0, 1, 2, 8, 9, 10, 11, 3, 4, 5, 6] rfl rfl rfl rfl (by decide) rfl rfl rfl rfl rfl 0 rfl rfl rfl rfl (fun o9 ho => ?_) (fun E9 ho => ?_)
        · rcases hv1 : v10 with x11 | r12
          · rw [hv1] at ho
            cases ho
          rw [hv1] at ho
          obtain rfl := Sum.inr.inj ho
          replace hres := z_elimR hv1 hres
          show zj G 22 [(4, .int r6), (3, .int r3), (0, .ref aH), (1, .int p0), (2, .int p1)] [] [(aH, .inr (5, [.ref aN, .ref aF, .ref aA, .ref aC, .ref aO, .ref aX, .int gB, .int gK])), (aN, .inr (3, [.ref aNk, .ref aNn, .int nS])), (aNk, .inl (K.2 0, 12, .inl nK)), (aNn, .inl (K.2 0, 12, .inl nN)), (aF, .inr (2, [.ref aFl, .ref aFc, .ref aFq, .int fM])), (aFl, .inl (K.2 0, 12, .inl fL)), (aFc, .inl (K.2 0, 12, .inl fC)), (aFq, .inl (K.2 0, 12, .inl fQ)), (aA, .inr (2, [.ref aAl, .ref aAc, .ref aAq, .int wM])), (aAl, .inl (K.2 0, 12, .inl wL)), (aAc, .inl (K.2 0, 12, .inl wC)), (aAq, .inl (K.2 0, 12, .inl wQ))] 4 24
          refine z_aload_n hG dX5_isOnAll_22 2 rfl ?_
          refine z_get (ci := 5) (C := RX5) (T := TX5) (N := 8) hG dX5_isOnAll_23 iX5_isOnAll_X5 2 (by decide) mX5_isOnAll_0 rfl rfl 0 rfl rfl ?_
          refine z_aload_n hG dX5_isOnAll_26 2 rfl ?_
          refine z_get (ci := 5) (C := RX5) (T := TX5) (N := 8) hG dX5_isOnAll_27 iX5_isOnAll_X5 0 (by decide) mX5_isOnAll_2 rfl rfl 0 rfl rfl ?_
          refine z_iload_n hG dX5_isOnAll_30 1 rfl ?_
          obtain ⟨v13, hv, hres⟩ := z_bind hres
          refine z_callV (As := [.ref aN, .int r3]) (rest := []) (wr := [(aH, .inr (5, [.ref aN, .ref aF, .ref aA, .ref aC, .ref aO, .ref aX, .int gB, .int gK])), (aF, .inr (2, [.ref aFl, .ref aFc, .ref aFq, .int fM])), (aFl, .inl (K.2 0, 12, .inl fL)), (aFc, .inl (K.2 0, 12, .inl fC)), (aFq, .inl (K.2 0, 12, .inl fQ))]) (ws' := (fun _ : Unit => [(aH, .inr (5, [.ref aN, .ref aF, .ref aA, .ref aC, .ref aO, .ref aX, .int gB, .int gK])), (aN, .inr (3, [.ref aNk, .ref aNn, .int nS])), (aNk, .inl (K.2 0, 12, .inl nK)), (aNn, .inl (K.2 0, 12, .inl nN)), (aF, .inr (2, [.ref aFl, .ref aFc, .ref aFq, .int fM])), (aFl, .inl (K.2 0, 12, .inl fL)), (aFc, .inl (K.2 0, 12, .inl fC)), (aFq, .inl (K.2 0, 12, .inl fQ)), (aA, .inr (2, [.ref aAl, .ref aAc, .ref aAq, .int v13.1])), (aAl, .inl (K.2 0, 12, .inl v13.2.1)), (aAc, .inl (K.2 0, 12, .inl v13.2.2.1)), (aAq, .inl (K.2 0, 12, .inl v13.2.2.2))])) (stk := (fun _ : Unit => [])) (kc' := 4) (ks' := 24) (n := 2) (C := RX2) (ci := 2) hG dX5_isOnAll_31 (kX2_spread _ K aA aAl aAc aAq aN aNk aNn wM wL wC wQ nS nK nN r3 v13 hv) gX5_isOnAll_X2_spread rfl rfl rfl ⟨rfl, by decide, by decide, rfl⟩ ⟨by decide, by decide⟩ (Nat.le_of_ble_eq_true rfl) ⟨(Nat.le_of_ble_eq_true rfl), (Nat.le_of_ble_eq_true rfl)⟩ [8, 9, 10, 11, 1, 2, 3] [0, 4, 5, 6, 7] [0, 9, 10, 11, 1, 2, 3, 4, 5, 6, 7, 8] rfl rfl rfl rfl (by decide) rfl (fun _ => rfl) (fun _ => rfl) rfl rfl rfl 0 rfl rfl rfl rfl (fun _ => ?_)
          refine z_aload_n hG dX5_isOnAll_34 2 rfl ?_
          refine z_iload_n hG dX5_isOnAll_35 1 rfl ?_
          refine z_iload hG dX5_isOnAll_36 0 rfl ?_
          obtain ⟨v14, hv, hres⟩ := z_bind hres
          refine z_callV (As := [.int r3, .int r6]) (rest := []) (wr := [(aN, .inr (3, [.ref aNk, .ref aNn, .int nS])), (aNk, .inl (K.2 0, 12, .inl nK)), (aNn, .inl (K.2 0, 12, .inl nN))]) (ws' := (fun _ : Unit => [(aH, .inr (5, [.ref aN, .ref aF, .ref aA, .ref aC, .ref aO, .ref aX, .int gB, .int gK])), (aN, .inr (3, [.ref aNk, .ref aNn, .int nS])), (aNk, .inl (K.2 0, 12, .inl nK)), (aNn, .inl (K.2 0, 12, .inl nN)), (aF, .inr (2, [.ref aFl, .ref aFc, .ref aFq, .int fM])), (aFl, .inl (K.2 0, 12, .inl fL)), (aFc, .inl (K.2 0, 12, .inl fC)), (aFq, .inl (K.2 0, 12, .inl fQ)), (aA, .inr (2, [.ref aAl, .ref aAc, .ref aAq, .int v13.1])), (aAl, .inl (K.2 0, 12, .inl v13.2.1)), (aAc, .inl (K.2 0, 12, .inl v13.2.2.1)), (aAq, .inl (K.2 0, 12, .inl v13.2.2.2))])) (stk := (fun _ : Unit => [.int v14])) (kc' := 4) (ks' := 24) (n := 2) (C := RX5) (ci := 5) hG dX5_isOnAll_38 (kX5_countThrough _ K aH aF aFl aFc aFq aA aAl aAc aAq aN aC aO aX gB gK fM fL fC fQ v13.1 v13.2.1 v13.2.2.1 v13.2.2.2 r3 r6 v14 hv) gX5_isOnAll_X5_countThrough rfl rfl rfl ⟨rfl, by decide, by decide, rfl⟩ ⟨by decide, by decide⟩ (Nat.le_of_ble_eq_true rfl) ⟨(Nat.le_of_ble_eq_true rfl), (Nat.le_of_ble_eq_true rfl)⟩ [0, 4, 5, 6, 7, 8, 9, 10, 11] [1, 2, 3] [3, 0, 1, 2, 4, 5, 6, 7, 8, 9, 10, 11] rfl rfl rfl rfl (by decide) rfl (fun _ => rfl) (fun _ => rfl) rfl rfl rfl 0 rfl rfl rfl rfl (fun _ => ?_)
          refine z_aload_n hG dX5_isOnAll_41 2 rfl ?_
          refine z_get (ci := 5) (C := RX5) (T := TX5) (N := 8) hG dX5_isOnAll_42 iX5_isOnAll_X5 1 (by decide) mX5_isOnAll_3 rfl rfl 0 rfl rfl ?_
          refine z_get (ci := 2) (C := RX2) (T := TX2) (N := 4) hG dX5_isOnAll_45 iX5_isOnAll_X2 1 (by decide) mX5_isOnAll_4 rfl rfl 4 rfl rfl ?_
          refine z_iload_n hG dX5_isOnAll_48 1 rfl ?_
          obtain ⟨hg, hres⟩ := z_guard hres
          refine z_iald hG dX5_isOnAll_49 6 rfl hg ?_
          refine z_icmp_ne 57 hG dX5_isOnAll_50 (by decide) (fun c => ?_) (fun c => ?_)
          · replace hres := z_ifn c hres
            refine z_iconst 0 hG dX5_isOnAll_57 (by decide) ?_
            obtain rfl := Option.some.inj hres
            exact (z_wid (Nat.le_of_ble_eq_true rfl) (Nat.le_of_ble_eq_true rfl) (hR _ rfl _ _ (z_nar01 (Or.inl rfl)) dX5_isOnAll_58))
          · replace hres := z_ifp c hres
            refine z_iconst 1 hG dX5_isOnAll_53 (by decide) ?_
            refine z_goto 58 hG dX5_isOnAll_54 (by decide) ?_
            obtain rfl := Option.some.inj hres
            exact (z_wid (Nat.le_of_ble_eq_true rfl) (Nat.le_of_ble_eq_true rfl) (hR _ rfl _ _ (z_nar01 (Or.inr rfl)) dX5_isOnAll_58))
        · rcases hv1 : v10 with x11 | r12
          · rw [hv1] at ho
            obtain rfl := Sum.inl.inj ho
            replace hres := z_elimL hv1 hres
            obtain rfl := Option.some.inj hres
            exact z_xwid (Nat.le_of_ble_eq_true rfl) (Nat.le_of_ble_eq_true rfl) (hP _ rfl _ _)
          rw [hv1] at ho
          cases ho
      · rcases hv1 : v7 with x8 | r9
        · rw [hv1] at ho
          obtain rfl := Sum.inl.inj ho
          replace hres := z_elimL hv1 hres
          obtain rfl := Option.some.inj hres
          exact z_xwid (Nat.le_of_ble_eq_true rfl) (Nat.le_of_ble_eq_true rfl) (hP _ rfl _ _)
        rw [hv1] at ho
        cases ho
    · rcases hv1 : v4 with x5 | r6
      · rw [hv1] at ho
        obtain rfl := Sum.inl.inj ho
        replace hres := z_elimL hv1 hres
        obtain rfl := Option.some.inj hres
        exact z_xwid (Nat.le_of_ble_eq_true rfl) (Nat.le_of_ble_eq_true rfl) (hP _ rfl _ _)
      rw [hv1] at ho
      cases ho
  · rcases hv1 : v1 with x2 | r3
    · rw [hv1] at ho
      obtain rfl := Sum.inl.inj ho
      replace hres := z_elimL hv1 hres
      obtain rfl := Option.some.inj hres
      exact z_xwid (Nat.le_of_ble_eq_true rfl) (Nat.le_of_ble_eq_true rfl) (hP _ rfl _ _)
    rw [hv1] at ho
    cases ho

theorem dX5_onAll_0 : decode cX5_onAll 0 = .ok (.aload_n 0, 1) := by decide +kernel
theorem dX5_onAll_1 : decode cX5_onAll 1 = .ok (.iload_n 1, 1) := by decide +kernel
theorem dX5_onAll_2 : decode cX5_onAll 2 = .ok (.invokevirtual 84, 3) := by decide +kernel
theorem dX5_onAll_5 : decode cX5_onAll 5 = .ok (.istore_n 2, 1) := by decide +kernel
theorem dX5_onAll_6 : decode cX5_onAll 6 = .ok (.aload_n 0, 1) := by decide +kernel
theorem dX5_onAll_7 : decode cX5_onAll 7 = .ok (.invokevirtual 134, 3) := by decide +kernel
theorem dX5_onAll_10 : decode cX5_onAll 10 = .ok (.aload_n 0, 1) := by decide +kernel
theorem dX5_onAll_11 : decode cX5_onAll 11 = .ok (.iload_n 2, 1) := by decide +kernel
theorem dX5_onAll_12 : decode cX5_onAll 12 = .ok (.invokevirtual 168, 3) := by decide +kernel
theorem dX5_onAll_15 : decode cX5_onAll 15 = .ok (.aload_n 0, 1) := by decide +kernel
theorem dX5_onAll_16 : decode cX5_onAll 16 = .ok (.getfield 23, 3) := by decide +kernel
theorem dX5_onAll_19 : decode cX5_onAll 19 = .ok (.aload_n 0, 1) := by decide +kernel
theorem dX5_onAll_20 : decode cX5_onAll 20 = .ok (.getfield 10, 3) := by decide +kernel
theorem dX5_onAll_23 : decode cX5_onAll 23 = .ok (.iload_n 2, 1) := by decide +kernel
theorem dX5_onAll_24 : decode cX5_onAll 24 = .ok (.invokevirtual 158, 3) := by decide +kernel
theorem dX5_onAll_27 : decode cX5_onAll 27 = .ok (.iconst 0, 1) := by decide +kernel
theorem dX5_onAll_28 : decode cX5_onAll 28 = .ok (.istore_n 3, 1) := by decide +kernel
theorem dX5_onAll_29 : decode cX5_onAll 29 = .ok (.iconst 0, 1) := by decide +kernel
theorem dX5_onAll_30 : decode cX5_onAll 30 = .ok (.istore 4, 2) := by decide +kernel
theorem dX5_onAll_32 : decode cX5_onAll 32 = .ok (.iload 4, 2) := by decide +kernel
theorem dX5_onAll_34 : decode cX5_onAll 34 = .ok (.aload_n 0, 1) := by decide +kernel
theorem dX5_onAll_35 : decode cX5_onAll 35 = .ok (.getfield 10, 3) := by decide +kernel
theorem dX5_onAll_38 : decode cX5_onAll 38 = .ok (.getfield 66, 3) := by decide +kernel
theorem dX5_onAll_41 : decode cX5_onAll 41 = .ok (.if_icmp .ge 31, 3) := by decide +kernel
theorem dX5_onAll_44 : decode cX5_onAll 44 = .ok (.aload_n 0, 1) := by decide +kernel
theorem dX5_onAll_45 : decode cX5_onAll 45 = .ok (.iload_n 2, 1) := by decide +kernel
theorem dX5_onAll_46 : decode cX5_onAll 46 = .ok (.iload 4, 2) := by decide +kernel
theorem dX5_onAll_48 : decode cX5_onAll 48 = .ok (.invokevirtual 165, 3) := by decide +kernel
theorem dX5_onAll_51 : decode cX5_onAll 51 = .ok (.aload_n 0, 1) := by decide +kernel
theorem dX5_onAll_52 : decode cX5_onAll 52 = .ok (.getfield 19, 3) := by decide +kernel
theorem dX5_onAll_55 : decode cX5_onAll 55 = .ok (.getfield 151, 3) := by decide +kernel
theorem dX5_onAll_58 : decode cX5_onAll 58 = .ok (.iload_n 2, 1) := by decide +kernel
theorem dX5_onAll_59 : decode cX5_onAll 59 = .ok (.iaload, 1) := by decide +kernel
theorem dX5_onAll_60 : decode cX5_onAll 60 = .ok (.if_icmp .ne 6, 3) := by decide +kernel
theorem dX5_onAll_63 : decode cX5_onAll 63 = .ok (.iinc 3 1, 3) := by decide +kernel
theorem dX5_onAll_66 : decode cX5_onAll 66 = .ok (.iinc 4 1, 3) := by decide +kernel
theorem dX5_onAll_69 : decode cX5_onAll 69 = .ok (.goto (-37), 3) := by decide +kernel
theorem dX5_onAll_72 : decode cX5_onAll 72 = .ok (.iload_n 3, 1) := by decide +kernel
theorem dX5_onAll_73 : decode cX5_onAll 73 = .ok (.ireturn, 1) := by decide +kernel
set_option maxRecDepth 20000 in
theorem ggX5_onAll_X5_placeOf : GoodIn wsX5_onAll wsX5_placeOf := goodIn_ca (goodIn_r _ [10, 11, 12, 2, 13, 14, 15, 16, 17, 18, 19, 59, 60, 61, 62, 63, 64, 65, 66, 67, 68, 69] (by decide +kernel) (by decide +kernel)) (goodIn_sub (fun _ h => List.mem_cons_of_mem _ (List.mem_append_left _ (List.mem_append_left _ (List.mem_append_right _ h)))) (by decide +kernel))
set_option maxRecDepth 20000 in
theorem gX5_onAll_X5_placeOf : GoodIn wsX5_onAll (wsV RX5 84 RX5 yX5_placeOf wsX5_placeOf) := goodIn_app (goodIn_of _ (by decide +kernel)) ggX5_onAll_X5_placeOf
set_option maxRecDepth 20000 in
theorem ggX5_onAll_X5_needStart : GoodIn wsX5_onAll wsX5_needStart := goodIn_ca (goodIn_r _ [23, 24, 25, 26, 59, 60, 61, 62, 63, 64, 65, 66] (by decide +kernel) (by decide +kernel)) (goodIn_sub (fun _ h => List.mem_cons_of_mem _ (List.mem_append_left _ (List.mem_append_right _ h))) (by decide +kernel))
set_option maxRecDepth 20000 in
theorem gX5_onAll_X5_needStart : GoodIn wsX5_onAll (wsV RX5 134 RX5 yX5_needStart wsX5_needStart) := goodIn_app (goodIn_of _ (by decide +kernel)) ggX5_onAll_X5_needStart
set_option maxRecDepth 20000 in
theorem ggX5_onAll_X5_needWay : GoodIn wsX5_onAll wsX5_needWay := goodIn_ca (goodIn_r _ [30, 31, 32, 4, 33, 59, 60, 61, 62, 63, 64, 65, 66, 70, 71, 72, 73] (by decide +kernel) (by decide +kernel)) (goodIn_sub (fun _ h => List.mem_cons_of_mem _ (List.mem_append_right _ h)) (by decide +kernel))
set_option maxRecDepth 20000 in
theorem gX5_onAll_X5_needWay : GoodIn wsX5_onAll (wsV RX5 168 RX5 yX5_needWay wsX5_needWay) := goodIn_app (goodIn_of _ (by decide +kernel)) ggX5_onAll_X5_needWay
set_option maxRecDepth 20000 in
theorem ggX5_onAll_X2_spread : GoodIn wsX5_onAll wsX2_spread := goodIn_r _ [38, 39, 40, 41, 42, 43, 44, 45, 46, 37, 47, 48, 49, 50, 16, 51, 52, 53, 9, 54, 70, 71, 72, 73, 67, 68, 69] (by decide +kernel) (by decide +kernel)
set_option maxRecDepth 20000 in
theorem gX5_onAll_X2_spread : GoodIn wsX5_onAll (wsV RX5 158 RX2 yX2_spread wsX2_spread) := goodIn_app (goodIn_of _ (by decide +kernel)) ggX5_onAll_X2_spread
set_option maxRecDepth 20000 in
theorem ggX5_onAll_X5_countThrough : GoodIn wsX5_onAll wsX5_countThrough := goodIn_r _ [58, 4, 33, 1, 5, 59, 60, 61, 62, 63, 64, 65, 66, 70, 71, 72, 73] (by decide +kernel) (by decide +kernel)
set_option maxRecDepth 20000 in
theorem gX5_onAll_X5_countThrough : GoodIn wsX5_onAll (wsV RX5 165 RX5 yX5_countThrough wsX5_countThrough) := goodIn_app (goodIn_of _ (by decide +kernel)) ggX5_onAll_X5_countThrough
theorem mX5_onAll_0 : Cond.fieldLink RX5 23 "Layerways" "aside" "LLayerways$Layers;" ∈ wsX5_onAll := by decide +kernel
theorem iX5_onAll_X5 : ∀ w ∈ u_ws RX5 TX5 8, w ∈ wsX5_onAll := by decide +kernel
theorem mX5_onAll_2 : Cond.fieldLink RX5 10 "Layerways" "net" "LLayerways$Net;" ∈ wsX5_onAll := by decide +kernel
theorem mX5_onAll_3 : Cond.fieldLink RX5 66 "Layerways$Net" "size" "I" ∈ wsX5_onAll := by decide +kernel
theorem iX5_onAll_X3 : ∀ w ∈ u_ws RX3 TX3 3, w ∈ wsX5_onAll := by decide +kernel
theorem mX5_onAll_5 : Cond.fieldLink RX5 19 "Layerways" "fromStart" "LLayerways$Layers;" ∈ wsX5_onAll := by decide +kernel
theorem mX5_onAll_6 : Cond.fieldLink RX5 151 "Layerways$Layers" "counts" "[I" ∈ wsX5_onAll := by decide +kernel
theorem iX5_onAll_X2 : ∀ w ∈ u_ws RX2 TX2 4, w ∈ wsX5_onAll := by decide +kernel
def sX5_onAll_32 (nS : Int32) (fL : (Nat → Int32)) (fC : (Nat → Int32)) (r3 : Int32) (v10 : Int32 × (Nat → Int32) × (Nat → Int32) × (Nat → Int32)) (s13 : Int32 × Int32) : Option ((Int32 × Int32) ⊕ (Int32 × Int32)) := if nS ≤ s13.2 then some (.inl (s13.1, s13.2)) else (fX5_countThrough fL fC v10.2.1 v10.2.2.1 r3 s13.2).bind fun v17 => if zin r3 12 then if v17 = (fC r3.toNatClampNeg) then some (.inr ((s13.1 + 1), (s13.2 + 1))) else some (.inr (s13.1, (s13.2 + 1))) else none
def fX5_onAll (gB : Int32) (nS : Int32) (nK : (Nat → Int32)) (nN : (Nat → Int32)) (fL : (Nat → Int32)) (fC : (Nat → Int32)) (wM : Int32) (wL : (Nat → Int32)) (wC : (Nat → Int32)) (wQ : (Nat → Int32)) (p0 : Int32) : Option ((String ⊕ Int32) × Int32 × (Nat → Int32) × (Nat → Int32) × (Nat → Int32)) := (fX5_placeOf nS nK p0).bind fun v1 => Sum.elim (fun x2 : String => some (.inl x2, wM, wL, wC, wQ)) (fun r3 : Int32 => (fX5_needStart gB).bind fun v4 => Sum.elim (fun x5 : String => some (.inl x5, wM, wL, wC, wQ)) (fun r6 : Unit => (fX5_needWay fL r3).bind fun v7 => Sum.elim (fun x8 : String => some (.inl x8, wM, wL, wC, wQ)) (fun r9 : Unit => (fX2_spread wL wC wQ nS nN r3).bind fun v10 => (zloop (sX5_onAll_32 nS fL fC r3 v10) 32 (0, 0)).bind fun e15 => some (.inr e15.1, v10.1, v10.2.1, v10.2.2.1, v10.2.2.2)) v7) v4) v1
set_option maxRecDepth 100000 in
set_option maxHeartbeats 4000000 in
theorem kX5_onAll (l : Launch) (K : zK) (aH : Nat) (aN : Nat) (aNk : Nat) (aNn : Nat) (aF : Nat) (aFl : Nat) (aFc : Nat) (aFq : Nat) (aA : Nat) (aAl : Nat) (aAc : Nat) (aAq : Nat) (aC : Nat) (aO : Nat) (aX : Nat)  (gB : Int32) (gK : Int32) (nS : Int32) (nK : (Nat → Int32)) (nN : (Nat → Int32)) (fM : Int32) (fL : (Nat → Int32)) (fC : (Nat → Int32)) (fQ : (Nat → Int32)) (wM : Int32) (wL : (Nat → Int32)) (wC : (Nat → Int32)) (wQ : (Nat → Int32)) (p0 : Int32) (r : (String ⊕ Int32) × Int32 × (Nat → Int32) × (Nat → Int32) × (Nat → Int32)) (hres : fX5_onAll gB nS nK nN fL fC wM wL wC wQ p0 = some r) : zX l K yX5_onAll wsX5_onAll ({ frames := 7, cells := 8, slots := 48, locals := 104 }) [.ref aH, .int p0] [(aH, .inr (5, [.ref aN, .ref aF, .ref aA, .ref aC, .ref aO, .ref aX, .int gB, .int gK])), (aN, .inr (3, [.ref aNk, .ref aNn, .int nS])), (aNk, .inl (K.2 0, 12, .inl nK)), (aNn, .inl (K.2 0, 12, .inl nN)), (aF, .inr (2, [.ref aFl, .ref aFc, .ref aFq, .int fM])), (aFl, .inl (K.2 0, 12, .inl fL)), (aFc, .inl (K.2 0, 12, .inl fC)), (aFq, .inl (K.2 0, 12, .inl fQ)), (aA, .inr (2, [.ref aAl, .ref aAc, .ref aAq, .int wM])), (aAl, .inl (K.2 0, 12, .inl wL)), (aAc, .inl (K.2 0, 12, .inl wC)), (aAq, .inl (K.2 0, 12, .inl wQ))] (zoI r.1) [(aH, .inr (5, [.ref aN, .ref aF, .ref aA, .ref aC, .ref aO, .ref aX, .int gB, .int gK])), (aN, .inr (3, [.ref aNk, .ref aNn, .int nS])), (aNk, .inl (K.2 0, 12, .inl nK)), (aNn, .inl (K.2 0, 12, .inl nN)), (aF, .inr (2, [.ref aFl, .ref aFc, .ref aFq, .int fM])), (aFl, .inl (K.2 0, 12, .inl fL)), (aFc, .inl (K.2 0, 12, .inl fC)), (aFq, .inl (K.2 0, 12, .inl fQ)), (aA, .inr (2, [.ref aAl, .ref aAc, .ref aAq, .int r.2.1])), (aAl, .inl (K.2 0, 12, .inl r.2.2.1)), (aAc, .inl (K.2 0, 12, .inl r.2.2.2.1)), (aAq, .inl (K.2 0, 12, .inl r.2.2.2.2))] 8 48 := by
  refine zX.intI (cc := cX5_onAll) (maxL := 5) (ret := (some .int)) rfl (by decide) (Nat.le_of_ble_eq_true rfl) rfl ?_
  intro G hGl hG hV hR hT hP
  unfold fX5_onAll at hres
  show zj G 0 [(0, .ref aH), (1, .int p0)] [] [(aH, .inr (5, [.ref aN, .ref aF, .ref aA, .ref aC, .ref aO, .ref aX, .int gB, .int gK])), (aN, .inr (3, [.ref aNk, .ref aNn, .int nS])), (aNk, .inl (K.2 0, 12, .inl nK)), (aNn, .inl (K.2 0, 12, .inl nN)), (aF, .inr (2, [.ref aFl, .ref aFc, .ref aFq, .int fM])), (aFl, .inl (K.2 0, 12, .inl fL)), (aFc, .inl (K.2 0, 12, .inl fC)), (aFq, .inl (K.2 0, 12, .inl fQ)), (aA, .inr (2, [.ref aAl, .ref aAc, .ref aAq, .int wM])), (aAl, .inl (K.2 0, 12, .inl wL)), (aAc, .inl (K.2 0, 12, .inl wC)), (aAq, .inl (K.2 0, 12, .inl wQ))] 0 0
  refine z_aload_n hG dX5_onAll_0 0 rfl ?_
  refine z_iload_n hG dX5_onAll_1 1 rfl ?_
  obtain ⟨v1, hv, hres⟩ := z_bind hres
  refine z_callX (As := [.int p0]) (rest := []) (wr := [(aF, .inr (2, [.ref aFl, .ref aFc, .ref aFq, .int fM])), (aFl, .inl (K.2 0, 12, .inl fL)), (aFc, .inl (K.2 0, 12, .inl fC)), (aFq, .inl (K.2 0, 12, .inl fQ)), (aA, .inr (2, [.ref aAl, .ref aAc, .ref aAq, .int wM])), (aAl, .inl (K.2 0, 12, .inl wL)), (aAc, .inl (K.2 0, 12, .inl wC)), (aAq, .inl (K.2 0, 12, .inl wQ))]) (ws' := [(aH, .inr (5, [.ref aN, .ref aF, .ref aA, .ref aC, .ref aO, .ref aX, .int gB, .int gK])), (aN, .inr (3, [.ref aNk, .ref aNn, .int nS])), (aNk, .inl (K.2 0, 12, .inl nK)), (aNn, .inl (K.2 0, 12, .inl nN)), (aF, .inr (2, [.ref aFl, .ref aFc, .ref aFq, .int fM])), (aFl, .inl (K.2 0, 12, .inl fL)), (aFc, .inl (K.2 0, 12, .inl fC)), (aFq, .inl (K.2 0, 12, .inl fQ)), (aA, .inr (2, [.ref aAl, .ref aAc, .ref aAq, .int wM])), (aAl, .inl (K.2 0, 12, .inl wL)), (aAc, .inl (K.2 0, 12, .inl wC)), (aAq, .inl (K.2 0, 12, .inl wQ))]) (kc' := 1) (ks' := 6) (n := 1) (C := RX5) (ci := 5) hG hV dX5_onAll_2 (kX5_placeOf _ K aH aN aNk aNn aF aA aC aO aX gB gK nS nK nN p0 v1 hv) gX5_onAll_X5_placeOf rfl rfl rfl ⟨rfl, by decide, by decide, rfl⟩ ⟨by decide, by decide⟩ (Nat.le_of_ble_eq_true rfl) ⟨(Nat.le_of_ble_eq_true rfl), (Nat.le_of_ble_eq_true rfl)⟩ [0, 1, 2, 3] [4, 5, 6, 7, 8, 9, 10, 11] [8, 9, 10, 11, 0, 1, 2, 3, 4, 5, 6, 7] rfl rfl rfl rfl (by decide) rfl rfl rfl rfl rfl 0 rfl rfl rfl rfl (fun o9 ho => ?_) (fun E9 ho => ?_)
  · rcases hv1 : v1 with x2 | r3
    · rw [hv1] at ho
      cases ho
    rw [hv1] at ho
    obtain rfl := Sum.inr.inj ho
    replace hres := z_elimR hv1 hres
    show zj G 5 [(0, .ref aH), (1, .int p0)] [.int r3] [(aH, .inr (5, [.ref aN, .ref aF, .ref aA, .ref aC, .ref aO, .ref aX, .int gB, .int gK])), (aN, .inr (3, [.ref aNk, .ref aNn, .int nS])), (aNk, .inl (K.2 0, 12, .inl nK)), (aNn, .inl (K.2 0, 12, .inl nN)), (aF, .inr (2, [.ref aFl, .ref aFc, .ref aFq, .int fM])), (aFl, .inl (K.2 0, 12, .inl fL)), (aFc, .inl (K.2 0, 12, .inl fC)), (aFq, .inl (K.2 0, 12, .inl fQ)), (aA, .inr (2, [.ref aAl, .ref aAc, .ref aAq, .int wM])), (aAl, .inl (K.2 0, 12, .inl wL)), (aAc, .inl (K.2 0, 12, .inl wC)), (aAq, .inl (K.2 0, 12, .inl wQ))] 1 6
    refine z_istore_n (lv' := [(2, .int r3), (0, .ref aH), (1, .int p0)]) hG dX5_onAll_5 (by decide) rfl ?_
    refine z_aload_n hG dX5_onAll_6 1 rfl ?_
    obtain ⟨v4, hv, hres⟩ := z_bind hres
    refine z_callX (As := []) (rest := []) (wr := [(aN, .inr (3, [.ref aNk, .ref aNn, .int nS])), (aNk, .inl (K.2 0, 12, .inl nK)), (aNn, .inl (K.2 0, 12, .inl nN)), (aF, .inr (2, [.ref aFl, .ref aFc, .ref aFq, .int fM])), (aFl, .inl (K.2 0, 12, .inl fL)), (aFc, .inl (K.2 0, 12, .inl fC)), (aFq, .inl (K.2 0, 12, .inl fQ)), (aA, .inr (2, [.ref aAl, .ref aAc, .ref aAq, .int wM])), (aAl, .inl (K.2 0, 12, .inl wL)), (aAc, .inl (K.2 0, 12, .inl wC)), (aAq, .inl (K.2 0, 12, .inl wQ))]) (ws' := [(aH, .inr (5, [.ref aN, .ref aF, .ref aA, .ref aC, .ref aO, .ref aX, .int gB, .int gK])), (aN, .inr (3, [.ref aNk, .ref aNn, .int nS])), (aNk, .inl (K.2 0, 12, .inl nK)), (aNn, .inl (K.2 0, 12, .inl nN)), (aF, .inr (2, [.ref aFl, .ref aFc, .ref aFq, .int fM])), (aFl, .inl (K.2 0, 12, .inl fL)), (aFc, .inl (K.2 0, 12, .inl fC)), (aFq, .inl (K.2 0, 12, .inl fQ)), (aA, .inr (2, [.ref aAl, .ref aAc, .ref aAq, .int wM])), (aAl, .inl (K.2 0, 12, .inl wL)), (aAc, .inl (K.2 0, 12, .inl wC)), (aAq, .inl (K.2 0, 12, .inl wQ))]) (kc' := 2) (ks' := 12) (n := 0) (C := RX5) (ci := 5) hG hV dX5_onAll_7 (kX5_needStart _ K aH aN aF aA aC aO aX gB gK v4 hv) gX5_onAll_X5_needStart rfl rfl rfl ⟨rfl, by decide, by decide, rfl⟩ ⟨by decide, by decide⟩ (Nat.le_of_ble_eq_true rfl) ⟨(Nat.le_of_ble_eq_true rfl), (Nat.le_of_ble_eq_true rfl)⟩ [0] [1, 2, 3, 4, 5, 6, 7, 8, 9, 10, 11] [11, 0, 1, 2, 3, 4, 5, 6, 7, 8, 9, 10] rfl rfl rfl rfl (by decide) rfl rfl rfl rfl rfl 0 rfl rfl rfl rfl (fun o9 ho => ?_) (fun E9 ho => ?_)
    · rcases hv1 : v4 with x5 | r6
      · rw [hv1] at ho
        cases ho
      rw [hv1] at ho
      obtain rfl := Sum.inr.inj ho
      replace hres := z_elimR hv1 hres
      show zj G 10 [(2, .int r3), (0, .ref aH), (1, .int p0)] [] [(aH, .inr (5, [.ref aN, .ref aF, .ref aA, .ref aC, .ref aO, .ref aX, .int gB, .int gK])), (aN, .inr (3, [.ref aNk, .ref aNn, .int nS])), (aNk, .inl (K.2 0, 12, .inl nK)), (aNn, .inl (K.2 0, 12, .inl nN)), (aF, .inr (2, [.ref aFl, .ref aFc, .ref aFq, .int fM])), (aFl, .inl (K.2 0, 12, .inl fL)), (aFc, .inl (K.2 0, 12, .inl fC)), (aFq, .inl (K.2 0, 12, .inl fQ)), (aA, .inr (2, [.ref aAl, .ref aAc, .ref aAq, .int wM])), (aAl, .inl (K.2 0, 12, .inl wL)), (aAc, .inl (K.2 0, 12, .inl wC)), (aAq, .inl (K.2 0, 12, .inl wQ))] 2 12
      refine z_aload_n hG dX5_onAll_10 1 rfl ?_
      refine z_iload_n hG dX5_onAll_11 0 rfl ?_
      obtain ⟨v7, hv, hres⟩ := z_bind hres
      refine z_callX (As := [.int r3]) (rest := []) (wr := [(aN, .inr (3, [.ref aNk, .ref aNn, .int nS])), (aNk, .inl (K.2 0, 12, .inl nK)), (aNn, .inl (K.2 0, 12, .inl nN)), (aA, .inr (2, [.ref aAl, .ref aAc, .ref aAq, .int wM])), (aAl, .inl (K.2 0, 12, .inl wL)), (aAc, .inl (K.2 0, 12, .inl wC)), (aAq, .inl (K.2 0, 12, .inl wQ))]) (ws' := [(aH, .inr (5, [.ref aN, .ref aF, .ref aA, .ref aC, .ref aO, .ref aX, .int gB, .int gK])), (aN, .inr (3, [.ref aNk, .ref aNn, .int nS])), (aNk, .inl (K.2 0, 12, .inl nK)), (aNn, .inl (K.2 0, 12, .inl nN)), (aF, .inr (2, [.ref aFl, .ref aFc, .ref aFq, .int fM])), (aFl, .inl (K.2 0, 12, .inl fL)), (aFc, .inl (K.2 0, 12, .inl fC)), (aFq, .inl (K.2 0, 12, .inl fQ)), (aA, .inr (2, [.ref aAl, .ref aAc, .ref aAq, .int wM])), (aAl, .inl (K.2 0, 12, .inl wL)), (aAc, .inl (K.2 0, 12, .inl wC)), (aAq, .inl (K.2 0, 12, .inl wQ))]) (kc' := 3) (ks' := 18) (n := 1) (C := RX5) (ci := 5) hG hV dX5_onAll_12 (kX5_needWay _ K aH aF aFl aFc aFq aN aA aC aO aX gB gK fM fL fC fQ r3 v7 hv) gX5_onAll_X5_needWay rfl rfl rfl ⟨rfl, by decide, by decide, rfl⟩ ⟨by decide, by decide⟩ (Nat.le_of_ble_eq_true rfl) ⟨(Nat.le_of_ble_eq_true rfl), (Nat.le_of_ble_eq_true rfl)⟩ [0, 4, 5, 6, 7] [1, 2, 3, 8, 9, 10, 11] [7, 0, 1, 2, 8, 9, 10, 11, 3, 4, 5, 6] rfl rfl rfl rfl (by decide) rfl rfl rfl rfl rfl 0 rfl rfl rfl rfl (fun o9 ho => ?_) (fun E9 ho => ?_)
      · rcases hv1 : v7 with x8 | r9
        · rw [hv1] at ho
          cases ho
        rw [hv1] at ho
        obtain rfl := Sum.inr.inj ho
        replace hres := z_elimR hv1 hres
        show zj G 15 [(2, .int r3), (0, .ref aH), (1, .int p0)] [] [(aH, .inr (5, [.ref aN, .ref aF, .ref aA, .ref aC, .ref aO, .ref aX, .int gB, .int gK])), (aN, .inr (3, [.ref aNk, .ref aNn, .int nS])), (aNk, .inl (K.2 0, 12, .inl nK)), (aNn, .inl (K.2 0, 12, .inl nN)), (aF, .inr (2, [.ref aFl, .ref aFc, .ref aFq, .int fM])), (aFl, .inl (K.2 0, 12, .inl fL)), (aFc, .inl (K.2 0, 12, .inl fC)), (aFq, .inl (K.2 0, 12, .inl fQ)), (aA, .inr (2, [.ref aAl, .ref aAc, .ref aAq, .int wM])), (aAl, .inl (K.2 0, 12, .inl wL)), (aAc, .inl (K.2 0, 12, .inl wC)), (aAq, .inl (K.2 0, 12, .inl wQ))] 3 18
        refine z_aload_n hG dX5_onAll_15 1 rfl ?_
        refine z_get (ci := 5) (C := RX5) (T := TX5) (N := 8) hG dX5_onAll_16 iX5_onAll_X5 2 (by decide) mX5_onAll_0 rfl rfl 0 rfl rfl ?_
        refine z_aload_n hG dX5_onAll_19 1 rfl ?_
        refine z_get (ci := 5) (C := RX5) (T := TX5) (N := 8) hG dX5_onAll_20 iX5_onAll_X5 0 (by decide) mX5_onAll_2 rfl rfl 0 rfl rfl ?_
        refine z_iload_n hG dX5_onAll_23 0 rfl ?_
        obtain ⟨v10, hv, hres⟩ := z_bind hres
        refine z_callV (As := [.ref aN, .int r3]) (rest := []) (wr := [(aH, .inr (5, [.ref aN, .ref aF, .ref aA, .ref aC, .ref aO, .ref aX, .int gB, .int gK])), (aF, .inr (2, [.ref aFl, .ref aFc, .ref aFq, .int fM])), (aFl, .inl (K.2 0, 12, .inl fL)), (aFc, .inl (K.2 0, 12, .inl fC)), (aFq, .inl (K.2 0, 12, .inl fQ))]) (ws' := (fun _ : Unit => [(aH, .inr (5, [.ref aN, .ref aF, .ref aA, .ref aC, .ref aO, .ref aX, .int gB, .int gK])), (aN, .inr (3, [.ref aNk, .ref aNn, .int nS])), (aNk, .inl (K.2 0, 12, .inl nK)), (aNn, .inl (K.2 0, 12, .inl nN)), (aF, .inr (2, [.ref aFl, .ref aFc, .ref aFq, .int fM])), (aFl, .inl (K.2 0, 12, .inl fL)), (aFc, .inl (K.2 0, 12, .inl fC)), (aFq, .inl (K.2 0, 12, .inl fQ)), (aA, .inr (2, [.ref aAl, .ref aAc, .ref aAq, .int v10.1])), (aAl, .inl (K.2 0, 12, .inl v10.2.1)), (aAc, .inl (K.2 0, 12, .inl v10.2.2.1)), (aAq, .inl (K.2 0, 12, .inl v10.2.2.2))])) (stk := (fun _ : Unit => [])) (kc' := 3) (ks' := 18) (n := 2) (C := RX2) (ci := 2) hG dX5_onAll_24 (kX2_spread _ K aA aAl aAc aAq aN aNk aNn wM wL wC wQ nS nK nN r3 v10 hv) gX5_onAll_X2_spread rfl rfl rfl ⟨rfl, by decide, by decide, rfl⟩ ⟨by decide, by decide⟩ (Nat.le_of_ble_eq_true rfl) ⟨(Nat.le_of_ble_eq_true rfl), (Nat.le_of_ble_eq_true rfl)⟩ [8, 9, 10, 11, 1, 2, 3] [0, 4, 5, 6, 7] [0, 9, 10, 11, 1, 2, 3, 4, 5, 6, 7, 8] rfl rfl rfl rfl (by decide) rfl (fun _ => rfl) (fun _ => rfl) rfl rfl rfl 0 rfl rfl rfl rfl (fun _ => ?_)
        refine z_iconst 0 hG dX5_onAll_27 (by decide) ?_
        refine z_istore_n (lv' := [(3, .int 0), (2, .int r3), (0, .ref aH), (1, .int p0)]) hG dX5_onAll_28 (by decide) rfl ?_
        refine z_iconst 0 hG dX5_onAll_29 (by decide) ?_
        refine z_istore (lv' := [(4, .int 0), (3, .int 0), (2, .int r3), (0, .ref aH), (1, .int p0)]) hG dX5_onAll_30 (by decide) rfl ?_
        obtain ⟨e15, hx, hres⟩ := z_bind hres
        refine z_lv [3, 4, 2, 1, 0] (lv' := [(0, .ref aH), (1, .int p0), (2, .int r3), (3, .int 0), (4, .int 0)]) rfl ?_
        refine z_loop hx (fun s13 : Int32 × Int32 => [(0, .ref aH), (1, .int p0), (2, .int r3), (3, .int s13.1), (4, .int s13.2)]) (fun s13 : Int32 × Int32 => [(aH, .inr (5, [.ref aN, .ref aF, .ref aA, .ref aC, .ref aO, .ref aX, .int gB, .int gK])), (aN, .inr (3, [.ref aNk, .ref aNn, .int nS])), (aNk, .inl (K.2 0, 12, .inl nK)), (aNn, .inl (K.2 0, 12, .inl nN)), (aF, .inr (2, [.ref aFl, .ref aFc, .ref aFq, .int fM])), (aFl, .inl (K.2 0, 12, .inl fL)), (aFc, .inl (K.2 0, 12, .inl fC)), (aFq, .inl (K.2 0, 12, .inl fQ)), (aA, .inr (2, [.ref aAl, .ref aAc, .ref aAq, .int v10.1])), (aAl, .inl (K.2 0, 12, .inl v10.2.1)), (aAc, .inl (K.2 0, 12, .inl v10.2.2.1)), (aAq, .inl (K.2 0, 12, .inl v10.2.2.2))]) (fun e15 : Int32 × Int32 => zj G 72 [(0, .ref aH), (1, .int p0), (2, .int r3), (3, .int e15.1), (4, .int e15.2)] [] [(aH, .inr (5, [.ref aN, .ref aF, .ref aA, .ref aC, .ref aO, .ref aX, .int gB, .int gK])), (aN, .inr (3, [.ref aNk, .ref aNn, .int nS])), (aNk, .inl (K.2 0, 12, .inl nK)), (aNn, .inl (K.2 0, 12, .inl nN)), (aF, .inr (2, [.ref aFl, .ref aFc, .ref aFq, .int fM])), (aFl, .inl (K.2 0, 12, .inl fL)), (aFc, .inl (K.2 0, 12, .inl fC)), (aFq, .inl (K.2 0, 12, .inl fQ)), (aA, .inr (2, [.ref aAl, .ref aAc, .ref aAq, .int v10.1])), (aAl, .inl (K.2 0, 12, .inl v10.2.1)), (aAc, .inl (K.2 0, 12, .inl v10.2.2.1)), (aAq, .inl (K.2 0, 12, .inl v10.2.2.2))] 3 18) ?_ ?_
        · refine z_iload_n hG dX5_onAll_72 3 rfl ?_
          obtain rfl := Option.some.inj hres
          exact (z_wid (Nat.le_of_ble_eq_true rfl) (Nat.le_of_ble_eq_true rfl) (hR _ rfl _ _ dX5_onAll_73))
        · intro s13 w14 hres hX hB
          unfold sX5_onAll_32 at hres
          replace hB : ∀ (z0 : Int32) (z1 : Int32), w14 = .inr (z0, z1) → zj G 32 [(0, .ref aH), (1, .int p0), (2, .int r3), (3, .int z0), (4, .int z1)] [] [(aH, .inr (5, [.ref aN, .ref aF, .ref aA, .ref aC, .ref aO, .ref aX, .int gB, .int gK])), (aN, .inr (3, [.ref aNk, .ref aNn, .int nS])), (aNk, .inl (K.2 0, 12, .inl nK)), (aNn, .inl (K.2 0, 12, .inl nN)), (aF, .inr (2, [.ref aFl, .ref aFc, .ref aFq, .int fM])), (aFl, .inl (K.2 0, 12, .inl fL)), (aFc, .inl (K.2 0, 12, .inl fC)), (aFq, .inl (K.2 0, 12, .inl fQ)), (aA, .inr (2, [.ref aAl, .ref aAc, .ref aAq, .int v10.1])), (aAl, .inl (K.2 0, 12, .inl v10.2.1)), (aAc, .inl (K.2 0, 12, .inl v10.2.2.1)), (aAq, .inl (K.2 0, 12, .inl v10.2.2.2))] 3 18 := fun z0 z1 h => hB (z0, z1) h
          replace hX : ∀ (z0 : Int32) (z1 : Int32), w14 = .inl (z0, z1) → zj G 72 [(0, .ref aH), (1, .int p0), (2, .int r3), (3, .int z0), (4, .int z1)] [] [(aH, .inr (5, [.ref aN, .ref aF, .ref aA, .ref aC, .ref aO, .ref aX, .int gB, .int gK])), (aN, .inr (3, [.ref aNk, .ref aNn, .int nS])), (aNk, .inl (K.2 0, 12, .inl nK)), (aNn, .inl (K.2 0, 12, .inl nN)), (aF, .inr (2, [.ref aFl, .ref aFc, .ref aFq, .int fM])), (aFl, .inl (K.2 0, 12, .inl fL)), (aFc, .inl (K.2 0, 12, .inl fC)), (aFq, .inl (K.2 0, 12, .inl fQ)), (aA, .inr (2, [.ref aAl, .ref aAc, .ref aAq, .int v10.1])), (aAl, .inl (K.2 0, 12, .inl v10.2.1)), (aAc, .inl (K.2 0, 12, .inl v10.2.2.1)), (aAq, .inl (K.2 0, 12, .inl v10.2.2.2))] 3 18 := fun z0 z1 h => hX (z0, z1) h
          refine z_iload hG dX5_onAll_32 4 rfl ?_
          refine z_aload_n hG dX5_onAll_34 0 rfl ?_
          refine z_get (ci := 5) (C := RX5) (T := TX5) (N := 8) hG dX5_onAll_35 iX5_onAll_X5 0 (by decide) mX5_onAll_2 rfl rfl 0 rfl rfl ?_
          refine z_get (ci := 3) (C := RX3) (T := TX3) (N := 3) hG dX5_onAll_38 iX5_onAll_X3 2 (by decide) mX5_onAll_3 rfl rfl 1 rfl rfl ?_
          refine z_icmp_ge 72 hG dX5_onAll_41 (by decide) (fun c => ?_) (fun c => ?_)
          · replace hres := z_ifp c hres
            exact (hX s13.1 s13.2 (Option.some.inj hres).symm)
          · replace hres := z_ifn c hres
            refine z_aload_n hG dX5_onAll_44 0 rfl ?_
            refine z_iload_n hG dX5_onAll_45 2 rfl ?_
            refine z_iload hG dX5_onAll_46 4 rfl ?_
            obtain ⟨v17, hv, hres⟩ := z_bind hres
            refine z_callV (As := [.int r3, .int s13.2]) (rest := []) (wr := [(aN, .inr (3, [.ref aNk, .ref aNn, .int nS])), (aNk, .inl (K.2 0, 12, .inl nK)), (aNn, .inl (K.2 0, 12, .inl nN))]) (ws' := (fun _ : Unit => [(aH, .inr (5, [.ref aN, .ref aF, .ref aA, .ref aC, .ref aO, .ref aX, .int gB, .int gK])), (aN, .inr (3, [.ref aNk, .ref aNn, .int nS])), (aNk, .inl (K.2 0, 12, .inl nK)), (aNn, .inl (K.2 0, 12, .inl nN)), (aF, .inr (2, [.ref aFl, .ref aFc, .ref aFq, .int fM])), (aFl, .inl (K.2 0, 12, .inl fL)), (aFc, .inl (K.2 0, 12, .inl fC)), (aFq, .inl (K.2 0, 12, .inl fQ)), (aA, .inr (2, [.ref aAl, .ref aAc, .ref aAq, .int v10.1])), (aAl, .inl (K.2 0, 12, .inl v10.2.1)), (aAc, .inl (K.2 0, 12, .inl v10.2.2.1)), (aAq, .inl (K.2 0, 12, .inl v10.2.2.2))])) (stk := (fun _ : Unit => [.int v17])) (kc' := 3) (ks' := 18) (n := 2) (C := RX5) (ci := 5) hG dX5_onAll_48 (kX5_countThrough _ K aH aF aFl aFc aFq aA aAl aAc aAq aN aC aO aX gB gK fM fL fC fQ v10.1 v10.2.1 v10.2.2.1 v10.2.2.2 r3 s13.2 v17 hv) gX5_onAll_X5_countThrough rfl rfl rfl ⟨rfl, by decide, by decide, rfl⟩ ⟨by decide, by decide⟩ (Nat.le_of_ble_eq_true rfl) ⟨(Nat.le_of_ble_eq_true rfl), (Nat.le_of_ble_eq_true rfl)⟩ [0, 4, 5, 6, 7, 8, 9, 10, 11] [1, 2, 3] [3, 0, 1, 2, 4, 5, 6, 7, 8, 9, 10, 11] rfl rfl rfl rfl (by decide) rfl (fun _ => rfl) (fun _ => rfl) rfl rfl rfl 0 rfl rfl rfl rfl (fun _ => ?_)
            refine z_aload_n hG dX5_onAll_51 0 rfl ?_
            refine z_get (ci := 5) (C := RX5) (T := TX5) (N := 8) hG dX5_onAll_52 iX5_onAll_X5 1 (by decide) mX5_onAll_5 rfl rfl 0 rfl rfl ?_
            refine z_get (ci := 2) (C := RX2) (T := TX2) (N := 4) hG dX5_onAll_55 iX5_onAll_X2 1 (by decide) mX5_onAll_6 rfl rfl 4 rfl rfl ?_
            refine z_iload_n hG dX5_onAll_58 2 rfl ?_
            obtain ⟨hg, hres⟩ := z_guard hres
            refine z_iald hG dX5_onAll_59 6 rfl hg ?_
            refine z_icmp_ne 66 hG dX5_onAll_60 (by decide) (fun c => ?_) (fun c => ?_)
            · replace hres := z_ifn c hres
              refine z_iinc (s13.2 + 1) (lv' := [(4, .int (s13.2 + 1)), (0, .ref aH), (1, .int p0), (2, .int r3), (3, .int s13.1)]) hG dX5_onAll_66 4 rfl rfl (by decide) rfl ?_
              refine z_goto 32 hG dX5_onAll_69 (by decide) ?_
              exact (z_lv [1, 2, 3, 4, 0] rfl (hB s13.1 (s13.2 + 1) (Option.some.inj hres).symm))
            · replace hres := z_ifp c hres
              refine z_iinc (s13.1 + 1) (lv' := [(3, .int (s13.1 + 1)), (0, .ref aH), (1, .int p0), (2, .int r3), (4, .int s13.2)]) hG dX5_onAll_63 3 rfl rfl (by decide) rfl ?_
              refine z_iinc (s13.2 + 1) (lv' := [(4, .int (s13.2 + 1)), (3, .int (s13.1 + 1)), (0, .ref aH), (1, .int p0), (2, .int r3)]) hG dX5_onAll_66 4 rfl rfl (by decide) rfl ?_
              refine z_goto 32 hG dX5_onAll_69 (by decide) ?_
              exact (z_lv [2, 3, 4, 1, 0] rfl (hB (s13.1 + 1) (s13.2 + 1) (Option.some.inj hres).symm))
      · rcases hv1 : v7 with x8 | r9
        · rw [hv1] at ho
          obtain rfl := Sum.inl.inj ho
          replace hres := z_elimL hv1 hres
          obtain rfl := Option.some.inj hres
          exact z_xwid (Nat.le_of_ble_eq_true rfl) (Nat.le_of_ble_eq_true rfl) (hP _ rfl _ _)
        rw [hv1] at ho
        cases ho
    · rcases hv1 : v4 with x5 | r6
      · rw [hv1] at ho
        obtain rfl := Sum.inl.inj ho
        replace hres := z_elimL hv1 hres
        obtain rfl := Option.some.inj hres
        exact z_xwid (Nat.le_of_ble_eq_true rfl) (Nat.le_of_ble_eq_true rfl) (hP _ rfl _ _)
      rw [hv1] at ho
      cases ho
  · rcases hv1 : v1 with x2 | r3
    · rw [hv1] at ho
      obtain rfl := Sum.inl.inj ho
      replace hres := z_elimL hv1 hres
      obtain rfl := Option.some.inj hres
      exact z_xwid (Nat.le_of_ble_eq_true rfl) (Nat.le_of_ble_eq_true rfl) (hP _ rfl _ _)
    rw [hv1] at ho
    cases ho

theorem dX5_between_0 : decode cX5_between 0 = .ok (.aload_n 0, 1) := by decide +kernel
theorem dX5_between_1 : decode cX5_between 1 = .ok (.iload_n 1, 1) := by decide +kernel
theorem dX5_between_2 : decode cX5_between 2 = .ok (.invokevirtual 84, 3) := by decide +kernel
theorem dX5_between_5 : decode cX5_between 5 = .ok (.istore_n 3, 1) := by decide +kernel
theorem dX5_between_6 : decode cX5_between 6 = .ok (.aload_n 0, 1) := by decide +kernel
theorem dX5_between_7 : decode cX5_between 7 = .ok (.iload_n 2, 1) := by decide +kernel
theorem dX5_between_8 : decode cX5_between 8 = .ok (.invokevirtual 84, 3) := by decide +kernel
theorem dX5_between_11 : decode cX5_between 11 = .ok (.istore 4, 2) := by decide +kernel
theorem dX5_between_13 : decode cX5_between 13 = .ok (.aload_n 0, 1) := by decide +kernel
theorem dX5_between_14 : decode cX5_between 14 = .ok (.getfield 23, 3) := by decide +kernel
theorem dX5_between_17 : decode cX5_between 17 = .ok (.aload_n 0, 1) := by decide +kernel
theorem dX5_between_18 : decode cX5_between 18 = .ok (.getfield 10, 3) := by decide +kernel
theorem dX5_between_21 : decode cX5_between 21 = .ok (.iload_n 3, 1) := by decide +kernel
theorem dX5_between_22 : decode cX5_between 22 = .ok (.invokevirtual 158, 3) := by decide +kernel
theorem dX5_between_25 : decode cX5_between 25 = .ok (.aload_n 0, 1) := by decide +kernel
theorem dX5_between_26 : decode cX5_between 26 = .ok (.getfield 23, 3) := by decide +kernel
theorem dX5_between_29 : decode cX5_between 29 = .ok (.getfield 137, 3) := by decide +kernel
theorem dX5_between_32 : decode cX5_between 32 = .ok (.iload 4, 2) := by decide +kernel
theorem dX5_between_34 : decode cX5_between 34 = .ok (.iaload, 1) := by decide +kernel
theorem dX5_between_35 : decode cX5_between 35 = .ok (.ireturn, 1) := by decide +kernel
set_option maxRecDepth 20000 in
theorem ggX5_between_X5_placeOf : GoodIn wsX5_between wsX5_placeOf := goodIn_ca (goodIn_r _ [8, 9, 10, 2, 11, 12, 13, 14, 15, 16, 17, 39, 40, 41, 42, 43, 44, 45, 46, 51, 52, 53] (by decide +kernel) (by decide +kernel)) (goodIn_sub (fun _ h => List.mem_cons_of_mem _ (List.mem_append_right _ h)) (by decide +kernel))
set_option maxRecDepth 20000 in
theorem gX5_between_X5_placeOf : GoodIn wsX5_between (wsV RX5 84 RX5 yX5_placeOf wsX5_placeOf) := goodIn_app (goodIn_of _ (by decide +kernel)) ggX5_between_X5_placeOf
set_option maxRecDepth 20000 in
theorem ggX5_between_X2_spread : GoodIn wsX5_between wsX2_spread := goodIn_r _ [22, 23, 24, 25, 26, 27, 28, 29, 30, 21, 31, 32, 33, 34, 14, 35, 36, 37, 7, 38, 47, 48, 49, 50, 51, 52, 53] (by decide +kernel) (by decide +kernel)
set_option maxRecDepth 20000 in
theorem gX5_between_X2_spread : GoodIn wsX5_between (wsV RX5 158 RX2 yX2_spread wsX2_spread) := goodIn_app (goodIn_of _ (by decide +kernel)) ggX5_between_X2_spread
theorem mX5_between_0 : Cond.fieldLink RX5 23 "Layerways" "aside" "LLayerways$Layers;" ∈ wsX5_between := by decide +kernel
theorem iX5_between_X5 : ∀ w ∈ u_ws RX5 TX5 8, w ∈ wsX5_between := by decide +kernel
theorem mX5_between_2 : Cond.fieldLink RX5 10 "Layerways" "net" "LLayerways$Net;" ∈ wsX5_between := by decide +kernel
theorem mX5_between_3 : Cond.fieldLink RX5 137 "Layerways$Layers" "lengths" "[I" ∈ wsX5_between := by decide +kernel
theorem iX5_between_X2 : ∀ w ∈ u_ws RX2 TX2 4, w ∈ wsX5_between := by decide +kernel
def fX5_between (nS : Int32) (nK : (Nat → Int32)) (nN : (Nat → Int32)) (wM : Int32) (wL : (Nat → Int32)) (wC : (Nat → Int32)) (wQ : (Nat → Int32)) (p0 : Int32) (p1 : Int32) : Option ((String ⊕ Int32) × Int32 × (Nat → Int32) × (Nat → Int32) × (Nat → Int32)) := (fX5_placeOf nS nK p0).bind fun v1 => Sum.elim (fun x2 : String => some (.inl x2, wM, wL, wC, wQ)) (fun r3 : Int32 => (fX5_placeOf nS nK p1).bind fun v4 => Sum.elim (fun x5 : String => some (.inl x5, wM, wL, wC, wQ)) (fun r6 : Int32 => (fX2_spread wL wC wQ nS nN r3).bind fun v7 => if zin r6 12 then some (.inr (v7.2.1 r6.toNatClampNeg), v7.1, v7.2.1, v7.2.2.1, v7.2.2.2) else none) v4) v1
set_option maxRecDepth 100000 in
set_option maxHeartbeats 4000000 in
theorem kX5_between (l : Launch) (K : zK) (aH : Nat) (aN : Nat) (aNk : Nat) (aNn : Nat) (aA : Nat) (aAl : Nat) (aAc : Nat) (aAq : Nat) (aF : Nat) (aC : Nat) (aO : Nat) (aX : Nat)  (gB : Int32) (gK : Int32) (nS : Int32) (nK : (Nat → Int32)) (nN : (Nat → Int32)) (wM : Int32) (wL : (Nat → Int32)) (wC : (Nat → Int32)) (wQ : (Nat → Int32)) (p0 : Int32) (p1 : Int32) (r : (String ⊕ Int32) × Int32 × (Nat → Int32) × (Nat → Int32) × (Nat → Int32)) (hres : fX5_between nS nK nN wM wL wC wQ p0 p1 = some r) : zX l K yX5_between wsX5_between ({ frames := 7, cells := 8, slots := 48, locals := 104 }) [.ref aH, .int p0, .int p1] [(aH, .inr (5, [.ref aN, .ref aF, .ref aA, .ref aC, .ref aO, .ref aX, .int gB, .int gK])), (aN, .inr (3, [.ref aNk, .ref aNn, .int nS])), (aNk, .inl (K.2 0, 12, .inl nK)), (aNn, .inl (K.2 0, 12, .inl nN)), (aA, .inr (2, [.ref aAl, .ref aAc, .ref aAq, .int wM])), (aAl, .inl (K.2 0, 12, .inl wL)), (aAc, .inl (K.2 0, 12, .inl wC)), (aAq, .inl (K.2 0, 12, .inl wQ))] (zoI r.1) [(aH, .inr (5, [.ref aN, .ref aF, .ref aA, .ref aC, .ref aO, .ref aX, .int gB, .int gK])), (aN, .inr (3, [.ref aNk, .ref aNn, .int nS])), (aNk, .inl (K.2 0, 12, .inl nK)), (aNn, .inl (K.2 0, 12, .inl nN)), (aA, .inr (2, [.ref aAl, .ref aAc, .ref aAq, .int r.2.1])), (aAl, .inl (K.2 0, 12, .inl r.2.2.1)), (aAc, .inl (K.2 0, 12, .inl r.2.2.2.1)), (aAq, .inl (K.2 0, 12, .inl r.2.2.2.2))] 8 48 := by
  refine zX.intI (cc := cX5_between) (maxL := 5) (ret := (some .int)) rfl (by decide) (Nat.le_of_ble_eq_true rfl) rfl ?_
  intro G hGl hG hV hR hT hP
  unfold fX5_between at hres
  show zj G 0 [(0, .ref aH), (1, .int p0), (2, .int p1)] [] [(aH, .inr (5, [.ref aN, .ref aF, .ref aA, .ref aC, .ref aO, .ref aX, .int gB, .int gK])), (aN, .inr (3, [.ref aNk, .ref aNn, .int nS])), (aNk, .inl (K.2 0, 12, .inl nK)), (aNn, .inl (K.2 0, 12, .inl nN)), (aA, .inr (2, [.ref aAl, .ref aAc, .ref aAq, .int wM])), (aAl, .inl (K.2 0, 12, .inl wL)), (aAc, .inl (K.2 0, 12, .inl wC)), (aAq, .inl (K.2 0, 12, .inl wQ))] 0 0
  refine z_aload_n hG dX5_between_0 0 rfl ?_
  refine z_iload_n hG dX5_between_1 1 rfl ?_
  obtain ⟨v1, hv, hres⟩ := z_bind hres
  refine z_callX (As := [.int p0]) (rest := []) (wr := [(aA, .inr (2, [.ref aAl, .ref aAc, .ref aAq, .int wM])), (aAl, .inl (K.2 0, 12, .inl wL)), (aAc, .inl (K.2 0, 12, .inl wC)), (aAq, .inl (K.2 0, 12, .inl wQ))]) (ws' := [(aH, .inr (5, [.ref aN, .ref aF, .ref aA, .ref aC, .ref aO, .ref aX, .int gB, .int gK])), (aN, .inr (3, [.ref aNk, .ref aNn, .int nS])), (aNk, .inl (K.2 0, 12, .inl nK)), (aNn, .inl (K.2 0, 12, .inl nN)), (aA, .inr (2, [.ref aAl, .ref aAc, .ref aAq, .int wM])), (aAl, .inl (K.2 0, 12, .inl wL)), (aAc, .inl (K.2 0, 12, .inl wC)), (aAq, .inl (K.2 0, 12, .inl wQ))]) (kc' := 1) (ks' := 6) (n := 1) (C := RX5) (ci := 5) hG hV dX5_between_2 (kX5_placeOf _ K aH aN aNk aNn aF aA aC aO aX gB gK nS nK nN p0 v1 hv) gX5_between_X5_placeOf rfl rfl rfl ⟨rfl, by decide, by decide, rfl⟩ ⟨by decide, by decide⟩ (Nat.le_of_ble_eq_true rfl) ⟨(Nat.le_of_ble_eq_true rfl), (Nat.le_of_ble_eq_true rfl)⟩ [0, 1, 2, 3] [4, 5, 6, 7] [4, 5, 6, 7, 0, 1, 2, 3] rfl rfl rfl rfl (by decide) rfl rfl rfl rfl rfl 0 rfl rfl rfl rfl (fun o9 ho => ?_) (fun E9 ho => ?_)
  · rcases hv1 : v1 with x2 | r3
    · rw [hv1] at ho
      cases ho
    rw [hv1] at ho
    obtain rfl := Sum.inr.inj ho
    replace hres := z_elimR hv1 hres
    show zj G 5 [(0, .ref aH), (1, .int p0), (2, .int p1)] [.int r3] [(aH, .inr (5, [.ref aN, .ref aF, .ref aA, .ref aC, .ref aO, .ref aX, .int gB, .int gK])), (aN, .inr (3, [.ref aNk, .ref aNn, .int nS])), (aNk, .inl (K.2 0, 12, .inl nK)), (aNn, .inl (K.2 0, 12, .inl nN)), (aA, .inr (2, [.ref aAl, .ref aAc, .ref aAq, .int wM])), (aAl, .inl (K.2 0, 12, .inl wL)), (aAc, .inl (K.2 0, 12, .inl wC)), (aAq, .inl (K.2 0, 12, .inl wQ))] 1 6
    refine z_istore_n (lv' := [(3, .int r3), (0, .ref aH), (1, .int p0), (2, .int p1)]) hG dX5_between_5 (by decide) rfl ?_
    refine z_aload_n hG dX5_between_6 1 rfl ?_
    refine z_iload_n hG dX5_between_7 3 rfl ?_
    obtain ⟨v4, hv, hres⟩ := z_bind hres
    refine z_callX (As := [.int p1]) (rest := []) (wr := [(aA, .inr (2, [.ref aAl, .ref aAc, .ref aAq, .int wM])), (aAl, .inl (K.2 0, 12, .inl wL)), (aAc, .inl (K.2 0, 12, .inl wC)), (aAq, .inl (K.2 0, 12, .inl wQ))]) (ws' := [(aH, .inr (5, [.ref aN, .ref aF, .ref aA, .ref aC, .ref aO, .ref aX, .int gB, .int gK])), (aN, .inr (3, [.ref aNk, .ref aNn, .int nS])), (aNk, .inl (K.2 0, 12, .inl nK)), (aNn, .inl (K.2 0, 12, .inl nN)), (aA, .inr (2, [.ref aAl, .ref aAc, .ref aAq, .int wM])), (aAl, .inl (K.2 0, 12, .inl wL)), (aAc, .inl (K.2 0, 12, .inl wC)), (aAq, .inl (K.2 0, 12, .inl wQ))]) (kc' := 2) (ks' := 12) (n := 1) (C := RX5) (ci := 5) hG hV dX5_between_8 (kX5_placeOf _ K aH aN aNk aNn aF aA aC aO aX gB gK nS nK nN p1 v4 hv) gX5_between_X5_placeOf rfl rfl rfl ⟨rfl, by decide, by decide, rfl⟩ ⟨by decide, by decide⟩ (Nat.le_of_ble_eq_true rfl) ⟨(Nat.le_of_ble_eq_true rfl), (Nat.le_of_ble_eq_true rfl)⟩ [0, 1, 2, 3] [4, 5, 6, 7] [4, 5, 6, 7, 0, 1, 2, 3] rfl rfl rfl rfl (by decide) rfl rfl rfl rfl rfl 0 rfl rfl rfl rfl (fun o9 ho => ?_) (fun E9 ho => ?_)
    · rcases hv1 : v4 with x5 | r6
      · rw [hv1] at ho
        cases ho
      rw [hv1] at ho
      obtain rfl := Sum.inr.inj ho
      replace hres := z_elimR hv1 hres
      show zj G 11 [(3, .int r3), (0, .ref aH), (1, .int p0), (2, .int p1)] [.int r6] [(aH, .inr (5, [.ref aN, .ref aF, .ref aA, .ref aC, .ref aO, .ref aX, .int gB, .int gK])), (aN, .inr (3, [.ref aNk, .ref aNn, .int nS])), (aNk, .inl (K.2 0, 12, .inl nK)), (aNn, .inl (K.2 0, 12, .inl nN)), (aA, .inr (2, [.ref aAl, .ref aAc, .ref aAq, .int wM])), (aAl, .inl (K.2 0, 12, .inl wL)), (aAc, .inl (K.2 0, 12, .inl wC)), (aAq, .inl (K.2 0, 12, .inl wQ))] 2 12
      refine z_istore (lv' := [(4, .int r6), (3, .int r3), (0, .ref aH), (1, .int p0), (2, .int p1)]) hG dX5_between_11 (by decide) rfl ?_
      refine z_aload_n hG dX5_between_13 2 rfl ?_
      refine z_get (ci := 5) (C := RX5) (T := TX5) (N := 8) hG dX5_between_14 iX5_between_X5 2 (by decide) mX5_between_0 rfl rfl 0 rfl rfl ?_
      refine z_aload_n hG dX5_between_17 2 rfl ?_
      refine z_get (ci := 5) (C := RX5) (T := TX5) (N := 8) hG dX5_between_18 iX5_between_X5 0 (by decide) mX5_between_2 rfl rfl 0 rfl rfl ?_
      refine z_iload_n hG dX5_between_21 1 rfl ?_
      obtain ⟨v7, hv, hres⟩ := z_bind hres
      refine z_callV (As := [.ref aN, .int r3]) (rest := []) (wr := [(aH, .inr (5, [.ref aN, .ref aF, .ref aA, .ref aC, .ref aO, .ref aX, .int gB, .int gK]))]) (ws' := (fun _ : Unit => [(aH, .inr (5, [.ref aN, .ref aF, .ref aA, .ref aC, .ref aO, .ref aX, .int gB, .int gK])), (aN, .inr (3, [.ref aNk, .ref aNn, .int nS])), (aNk, .inl (K.2 0, 12, .inl nK)), (aNn, .inl (K.2 0, 12, .inl nN)), (aA, .inr (2, [.ref aAl, .ref aAc, .ref aAq, .int v7.1])), (aAl, .inl (K.2 0, 12, .inl v7.2.1)), (aAc, .inl (K.2 0, 12, .inl v7.2.2.1)), (aAq, .inl (K.2 0, 12, .inl v7.2.2.2))])) (stk := (fun _ : Unit => [])) (kc' := 2) (ks' := 12) (n := 2) (C := RX2) (ci := 2) hG dX5_between_22 (kX2_spread _ K aA aAl aAc aAq aN aNk aNn wM wL wC wQ nS nK nN r3 v7 hv) gX5_between_X2_spread rfl rfl rfl ⟨rfl, by decide, by decide, rfl⟩ ⟨by decide, by decide⟩ (Nat.le_of_ble_eq_true rfl) ⟨(Nat.le_of_ble_eq_true rfl), (Nat.le_of_ble_eq_true rfl)⟩ [4, 5, 6, 7, 1, 2, 3] [0] [0, 5, 6, 7, 1, 2, 3, 4] rfl rfl rfl rfl (by decide) rfl (fun _ => rfl) (fun _ => rfl) rfl rfl rfl 0 rfl rfl rfl rfl (fun _ => ?_)
      refine z_aload_n hG dX5_between_25 2 rfl ?_
      refine z_get (ci := 5) (C := RX5) (T := TX5) (N := 8) hG dX5_between_26 iX5_between_X5 2 (by decide) mX5_between_0 rfl rfl 0 rfl rfl ?_
      refine z_get (ci := 2) (C := RX2) (T := TX2) (N := 4) hG dX5_between_29 iX5_between_X2 0 (by decide) mX5_between_3 rfl rfl 4 rfl rfl ?_
      refine z_iload hG dX5_between_32 0 rfl ?_
      obtain ⟨hg, hres⟩ := z_guard hres
      refine z_iald hG dX5_between_34 5 rfl hg ?_
      obtain rfl := Option.some.inj hres
      exact (z_wid (Nat.le_of_ble_eq_true rfl) (Nat.le_of_ble_eq_true rfl) (hR _ rfl _ _ dX5_between_35))
    · rcases hv1 : v4 with x5 | r6
      · rw [hv1] at ho
        obtain rfl := Sum.inl.inj ho
        replace hres := z_elimL hv1 hres
        obtain rfl := Option.some.inj hres
        exact z_xwid (Nat.le_of_ble_eq_true rfl) (Nat.le_of_ble_eq_true rfl) (hP _ rfl _ _)
      rw [hv1] at ho
      cases ho
  · rcases hv1 : v1 with x2 | r3
    · rw [hv1] at ho
      obtain rfl := Sum.inl.inj ho
      replace hres := z_elimL hv1 hres
      obtain rfl := Option.some.inj hres
      exact z_xwid (Nat.le_of_ble_eq_true rfl) (Nat.le_of_ble_eq_true rfl) (hP _ rfl _ _)
    rw [hv1] at ho
    cases ho

theorem dX5_colour_0 : decode cX5_colour 0 = .ok (.aload_n 0, 1) := by decide +kernel
theorem dX5_colour_1 : decode cX5_colour 1 = .ok (.iload_n 1, 1) := by decide +kernel
theorem dX5_colour_2 : decode cX5_colour 2 = .ok (.invokevirtual 84, 3) := by decide +kernel
theorem dX5_colour_5 : decode cX5_colour 5 = .ok (.istore_n 2, 1) := by decide +kernel
theorem dX5_colour_6 : decode cX5_colour 6 = .ok (.aload_n 0, 1) := by decide +kernel
theorem dX5_colour_7 : decode cX5_colour 7 = .ok (.getfield 29, 3) := by decide +kernel
theorem dX5_colour_10 : decode cX5_colour 10 = .ok (.aload_n 0, 1) := by decide +kernel
theorem dX5_colour_11 : decode cX5_colour 11 = .ok (.getfield 10, 3) := by decide +kernel
theorem dX5_colour_14 : decode cX5_colour 14 = .ok (.aload_n 0, 1) := by decide +kernel
theorem dX5_colour_15 : decode cX5_colour 15 = .ok (.getfield 23, 3) := by decide +kernel
theorem dX5_colour_18 : decode cX5_colour 18 = .ok (.invokevirtual 171, 3) := by decide +kernel
theorem dX5_colour_21 : decode cX5_colour 21 = .ok (.aload_n 0, 1) := by decide +kernel
theorem dX5_colour_22 : decode cX5_colour 22 = .ok (.getfield 29, 3) := by decide +kernel
theorem dX5_colour_25 : decode cX5_colour 25 = .ok (.getfield 177, 3) := by decide +kernel
theorem dX5_colour_28 : decode cX5_colour 28 = .ok (.ifCond .ne 13, 3) := by decide +kernel
theorem dX5_colour_31 : decode cX5_colour 31 = .ok (.new 180, 3) := by decide +kernel
theorem dX5_colour_34 : decode cX5_colour 34 = .ok (.dup, 1) := by decide +kernel
theorem dX5_colour_35 : decode cX5_colour 35 = .ok (.ldc 182, 2) := by decide +kernel
theorem dX5_colour_37 : decode cX5_colour 37 = .ok (.invokespecial 184, 3) := by decide +kernel
theorem dX5_colour_40 : decode cX5_colour 40 = .ok (.athrow, 1) := by decide +kernel
theorem dX5_colour_41 : decode cX5_colour 41 = .ok (.aload_n 0, 1) := by decide +kernel
theorem dX5_colour_42 : decode cX5_colour 42 = .ok (.getfield 29, 3) := by decide +kernel
theorem dX5_colour_45 : decode cX5_colour 45 = .ok (.getfield 185, 3) := by decide +kernel
theorem dX5_colour_48 : decode cX5_colour 48 = .ok (.iload_n 2, 1) := by decide +kernel
theorem dX5_colour_49 : decode cX5_colour 49 = .ok (.iaload, 1) := by decide +kernel
theorem dX5_colour_50 : decode cX5_colour 50 = .ok (.ireturn, 1) := by decide +kernel
set_option maxRecDepth 20000 in
theorem ggX5_colour_X5_placeOf : GoodIn wsX5_colour wsX5_placeOf := goodIn_ca (goodIn_r _ [12, 13, 14, 4, 15, 16, 17, 18, 19, 20, 21, 62, 63, 64, 65, 66, 67, 68, 69, 73, 74, 75] (by decide +kernel) (by decide +kernel)) (goodIn_sub (fun _ h => List.mem_cons_of_mem _ (List.mem_append_right _ h)) (by decide +kernel))
set_option maxRecDepth 20000 in
theorem gX5_colour_X5_placeOf : GoodIn wsX5_colour (wsV RX5 84 RX5 yX5_placeOf wsX5_placeOf) := goodIn_app (goodIn_of _ (by decide +kernel)) ggX5_colour_X5_placeOf
set_option maxRecDepth 20000 in
theorem ggX5_colour_X1_paint : GoodIn wsX5_colour wsX1_paint := goodIn_r _ [26, 27, 28, 29, 30, 31, 32, 33, 34, 35, 36, 37, 38, 39, 40, 41, 42, 43, 44, 45, 46, 47, 18, 48, 49, 50, 11, 51, 52, 53, 54, 25, 55, 56, 57, 58, 59, 60, 61, 70, 71, 72, 73, 74, 75, 76, 77, 78, 79] (by decide +kernel) (by decide +kernel)
set_option maxRecDepth 20000 in
theorem gX5_colour_X1_paint : GoodIn wsX5_colour (wsV RX5 171 RX1 yX1_paint wsX1_paint) := goodIn_app (goodIn_of _ (by decide +kernel)) ggX5_colour_X1_paint
theorem mX5_colour_0 : Cond.fieldLink RX5 29 "Layerways" "colours" "LLayerways$Colours;" ∈ wsX5_colour := by decide +kernel
theorem iX5_colour_X5 : ∀ w ∈ u_ws RX5 TX5 8, w ∈ wsX5_colour := by decide +kernel
theorem mX5_colour_2 : Cond.fieldLink RX5 10 "Layerways" "net" "LLayerways$Net;" ∈ wsX5_colour := by decide +kernel
theorem mX5_colour_3 : Cond.fieldLink RX5 23 "Layerways" "aside" "LLayerways$Layers;" ∈ wsX5_colour := by decide +kernel
theorem mX5_colour_4 : Cond.fieldLink RX5 177 "Layerways$Colours" "two" "Z" ∈ wsX5_colour := by decide +kernel
theorem iX5_colour_X1 : ∀ w ∈ u_ws RX1 TX1 3, w ∈ wsX5_colour := by decide +kernel
theorem mX5_colour_6 : Cond.fieldLink RX5 185 "Layerways$Colours" "tints" "[I" ∈ wsX5_colour := by decide +kernel
theorem mX5_colour_7 : Cond.classLink RX5 180 "java/lang/UnsupportedOperationException" ∈ wsX5_colour := by decide +kernel
theorem mX5_colour_8 : Cond.initialized "java/lang/UnsupportedOperationException" ∈ wsX5_colour := by decide +kernel
theorem hX5_colour_184 : ∀ w ∈ (vx_atS RX5 184 "java/lang/UnsupportedOperationException" ["java/lang/RuntimeException", "java/lang/Exception"]).filter goodWord, w ∈ wsX5_colour := fun w h => List.mem_cons_of_mem _ (List.mem_append_left _ (List.mem_append_right _ h))
def fX5_colour (nS : Int32) (nK : (Nat → Int32)) (nN : (Nat → Int32)) (wM : Int32) (wL : (Nat → Int32)) (wC : (Nat → Int32)) (wQ : (Nat → Int32)) (cP : Int32) (cW : Int32) (cT : (Nat → Int32)) (p0 : Int32) : Option ((String ⊕ Int32) × Int32 × (Nat → Int32) × (Nat → Int32) × (Nat → Int32) × Int32 × Int32 × (Nat → Int32)) := (fX5_placeOf nS nK p0).bind fun v1 => Sum.elim (fun x2 : String => some (.inl x2, wM, wL, wC, wQ, cP, cW, cT)) (fun r3 : Int32 => (fX1_paint cT nS nN wM wL wC wQ).bind fun v4 => if v4.2.1 = 0 then some (.inl "java/lang/UnsupportedOperationException", v4.2.2.2.1, v4.2.2.2.2.1, v4.2.2.2.2.2.1, v4.2.2.2.2.2.2, v4.1, v4.2.1, v4.2.2.1) else if zin r3 12 then some (.inr (v4.2.2.1 r3.toNatClampNeg), v4.2.2.2.1, v4.2.2.2.2.1, v4.2.2.2.2.2.1, v4.2.2.2.2.2.2, v4.1, v4.2.1, v4.2.2.1) else none) v1
set_option maxRecDepth 100000 in
set_option maxHeartbeats 4000000 in
theorem kX5_colour (l : Launch) (K : zK) (aH : Nat) (aN : Nat) (aNk : Nat) (aNn : Nat) (aA : Nat) (aAl : Nat) (aAc : Nat) (aAq : Nat) (aC : Nat) (aCt : Nat) (aF : Nat) (aO : Nat) (aX : Nat)  (gB : Int32) (gK : Int32) (nS : Int32) (nK : (Nat → Int32)) (nN : (Nat → Int32)) (wM : Int32) (wL : (Nat → Int32)) (wC : (Nat → Int32)) (wQ : (Nat → Int32)) (cP : Int32) (cW : Int32) (cT : (Nat → Int32)) (p0 : Int32) (r : (String ⊕ Int32) × Int32 × (Nat → Int32) × (Nat → Int32) × (Nat → Int32) × Int32 × Int32 × (Nat → Int32)) (hres : fX5_colour nS nK nN wM wL wC wQ cP cW cT p0 = some r) : zX l K yX5_colour wsX5_colour ({ frames := 7, cells := 8, slots := 48, locals := 112 }) [.ref aH, .int p0] [(aH, .inr (5, [.ref aN, .ref aF, .ref aA, .ref aC, .ref aO, .ref aX, .int gB, .int gK])), (aN, .inr (3, [.ref aNk, .ref aNn, .int nS])), (aNk, .inl (K.2 0, 12, .inl nK)), (aNn, .inl (K.2 0, 12, .inl nN)), (aA, .inr (2, [.ref aAl, .ref aAc, .ref aAq, .int wM])), (aAl, .inl (K.2 0, 12, .inl wL)), (aAc, .inl (K.2 0, 12, .inl wC)), (aAq, .inl (K.2 0, 12, .inl wQ)), (aC, .inr (1, [.ref aCt, .int cP, .int cW])), (aCt, .inl (K.2 0, 12, .inl cT))] (zoI r.1) [(aH, .inr (5, [.ref aN, .ref aF, .ref aA, .ref aC, .ref aO, .ref aX, .int gB, .int gK])), (aN, .inr (3, [.ref aNk, .ref aNn, .int nS])), (aNk, .inl (K.2 0, 12, .inl nK)), (aNn, .inl (K.2 0, 12, .inl nN)), (aA, .inr (2, [.ref aAl, .ref aAc, .ref aAq, .int r.2.1])), (aAl, .inl (K.2 0, 12, .inl r.2.2.1)), (aAc, .inl (K.2 0, 12, .inl r.2.2.2.1)), (aAq, .inl (K.2 0, 12, .inl r.2.2.2.2.1)), (aC, .inr (1, [.ref aCt, .int r.2.2.2.2.2.1, .int r.2.2.2.2.2.2.1])), (aCt, .inl (K.2 0, 12, .inl r.2.2.2.2.2.2.2))] 8 48 := by
  refine zX.intI (cc := cX5_colour) (maxL := 3) (ret := (some .int)) rfl (by decide) (Nat.le_of_ble_eq_true rfl) rfl ?_
  intro G hGl hG hV hR hT hP
  unfold fX5_colour at hres
  show zj G 0 [(0, .ref aH), (1, .int p0)] [] [(aH, .inr (5, [.ref aN, .ref aF, .ref aA, .ref aC, .ref aO, .ref aX, .int gB, .int gK])), (aN, .inr (3, [.ref aNk, .ref aNn, .int nS])), (aNk, .inl (K.2 0, 12, .inl nK)), (aNn, .inl (K.2 0, 12, .inl nN)), (aA, .inr (2, [.ref aAl, .ref aAc, .ref aAq, .int wM])), (aAl, .inl (K.2 0, 12, .inl wL)), (aAc, .inl (K.2 0, 12, .inl wC)), (aAq, .inl (K.2 0, 12, .inl wQ)), (aC, .inr (1, [.ref aCt, .int cP, .int cW])), (aCt, .inl (K.2 0, 12, .inl cT))] 0 0
  refine z_aload_n hG dX5_colour_0 0 rfl ?_
  refine z_iload_n hG dX5_colour_1 1 rfl ?_
  obtain ⟨v1, hv, hres⟩ := z_bind hres
  refine z_callX (As := [.int p0]) (rest := []) (wr := [(aA, .inr (2, [.ref aAl, .ref aAc, .ref aAq, .int wM])), (aAl, .inl (K.2 0, 12, .inl wL)), (aAc, .inl (K.2 0, 12, .inl wC)), (aAq, .inl (K.2 0, 12, .inl wQ)), (aC, .inr (1, [.ref aCt, .int cP, .int cW])), (aCt, .inl (K.2 0, 12, .inl cT))]) (ws' := [(aH, .inr (5, [.ref aN, .ref aF, .ref aA, .ref aC, .ref aO, .ref aX, .int gB, .int gK])), (aN, .inr (3, [.ref aNk, .ref aNn, .int nS])), (aNk, .inl (K.2 0, 12, .inl nK)), (aNn, .inl (K.2 0, 12, .inl nN)), (aA, .inr (2, [.ref aAl, .ref aAc, .ref aAq, .int wM])), (aAl, .inl (K.2 0, 12, .inl wL)), (aAc, .inl (K.2 0, 12, .inl wC)), (aAq, .inl (K.2 0, 12, .inl wQ)), (aC, .inr (1, [.ref aCt, .int cP, .int cW])), (aCt, .inl (K.2 0, 12, .inl cT))]) (kc' := 1) (ks' := 6) (n := 1) (C := RX5) (ci := 5) hG hV dX5_colour_2 (kX5_placeOf _ K aH aN aNk aNn aF aA aC aO aX gB gK nS nK nN p0 v1 hv) gX5_colour_X5_placeOf rfl rfl rfl ⟨rfl, by decide, by decide, rfl⟩ ⟨by decide, by decide⟩ (Nat.le_of_ble_eq_true rfl) ⟨(Nat.le_of_ble_eq_true rfl), (Nat.le_of_ble_eq_true rfl)⟩ [0, 1, 2, 3] [4, 5, 6, 7, 8, 9] [6, 7, 8, 9, 0, 1, 2, 3, 4, 5] rfl rfl rfl rfl (by decide) rfl rfl rfl rfl rfl 0 rfl rfl rfl rfl (fun o9 ho => ?_) (fun E9 ho => ?_)
  · rcases hv1 : v1 with x2 | r3
    · rw [hv1] at ho
      cases ho
    rw [hv1] at ho
    obtain rfl := Sum.inr.inj ho
    replace hres := z_elimR hv1 hres
    show zj G 5 [(0, .ref aH), (1, .int p0)] [.int r3] [(aH, .inr (5, [.ref aN, .ref aF, .ref aA, .ref aC, .ref aO, .ref aX, .int gB, .int gK])), (aN, .inr (3, [.ref aNk, .ref aNn, .int nS])), (aNk, .inl (K.2 0, 12, .inl nK)), (aNn, .inl (K.2 0, 12, .inl nN)), (aA, .inr (2, [.ref aAl, .ref aAc, .ref aAq, .int wM])), (aAl, .inl (K.2 0, 12, .inl wL)), (aAc, .inl (K.2 0, 12, .inl wC)), (aAq, .inl (K.2 0, 12, .inl wQ)), (aC, .inr (1, [.ref aCt, .int cP, .int cW])), (aCt, .inl (K.2 0, 12, .inl cT))] 1 6
    refine z_istore_n (lv' := [(2, .int r3), (0, .ref aH), (1, .int p0)]) hG dX5_colour_5 (by decide) rfl ?_
    refine z_aload_n hG dX5_colour_6 1 rfl ?_
    refine z_get (ci := 5) (C := RX5) (T := TX5) (N := 8) hG dX5_colour_7 iX5_colour_X5 3 (by decide) mX5_colour_0 rfl rfl 0 rfl rfl ?_
    refine z_aload_n hG dX5_colour_10 1 rfl ?_
    refine z_get (ci := 5) (C := RX5) (T := TX5) (N := 8) hG dX5_colour_11 iX5_colour_X5 0 (by decide) mX5_colour_2 rfl rfl 0 rfl rfl ?_
    refine z_aload_n hG dX5_colour_14 1 rfl ?_
    refine z_get (ci := 5) (C := RX5) (T := TX5) (N := 8) hG dX5_colour_15 iX5_colour_X5 2 (by decide) mX5_colour_3 rfl rfl 0 rfl rfl ?_
    obtain ⟨v4, hv, hres⟩ := z_bind hres
    refine z_callV (As := [.ref aN, .ref aA]) (rest := []) (wr := [(aH, .inr (5, [.ref aN, .ref aF, .ref aA, .ref aC, .ref aO, .ref aX, .int gB, .int gK]))]) (ws' := (fun _ : Unit => [(aH, .inr (5, [.ref aN, .ref aF, .ref aA, .ref aC, .ref aO, .ref aX, .int gB, .int gK])), (aN, .inr (3, [.ref aNk, .ref aNn, .int nS])), (aNk, .inl (K.2 0, 12, .inl nK)), (aNn, .inl (K.2 0, 12, .inl nN)), (aA, .inr (2, [.ref aAl, .ref aAc, .ref aAq, .int v4.2.2.2.1])), (aAl, .inl (K.2 0, 12, .inl v4.2.2.2.2.1)), (aAc, .inl (K.2 0, 12, .inl v4.2.2.2.2.2.1)), (aAq, .inl (K.2 0, 12, .inl v4.2.2.2.2.2.2)), (aC, .inr (1, [.ref aCt, .int v4.1, .int v4.2.1])), (aCt, .inl (K.2 0, 12, .inl v4.2.2.1))])) (stk := (fun _ : Unit => [])) (kc' := 1) (ks' := 6) (n := 2) (C := RX1) (ci := 1) hG dX5_colour_18 (kX1_paint _ K aC aCt aN aNk aNn aA aAl aAc aAq cP cW cT nS nK nN wM wL wC wQ v4 hv) gX5_colour_X1_paint rfl rfl rfl ⟨rfl, by decide, by decide, rfl⟩ ⟨by decide, by decide⟩ (Nat.le_of_ble_eq_true rfl) ⟨(Nat.le_of_ble_eq_true rfl), (Nat.le_of_ble_eq_true rfl)⟩ [8, 9, 1, 2, 3, 4, 5, 6, 7] [0] [0, 3, 4, 5, 6, 7, 8, 9, 1, 2] rfl rfl rfl rfl (by decide) rfl (fun _ => rfl) (fun _ => rfl) rfl rfl rfl 0 rfl rfl rfl rfl (fun _ => ?_)
    refine z_aload_n hG dX5_colour_21 1 rfl ?_
    refine z_get (ci := 5) (C := RX5) (T := TX5) (N := 8) hG dX5_colour_22 iX5_colour_X5 3 (by decide) mX5_colour_0 rfl rfl 0 rfl rfl ?_
    refine z_get (ci := 1) (C := RX1) (T := TX1) (N := 3) hG dX5_colour_25 iX5_colour_X1 2 (by decide) mX5_colour_4 rfl rfl 8 rfl rfl ?_
    refine z_if_ne 41 hG dX5_colour_28 (by decide) (fun c => ?_) (fun c => ?_)
    · replace hres := z_ifn c hres
      refine z_aload_n hG dX5_colour_41 1 rfl ?_
      refine z_get (ci := 5) (C := RX5) (T := TX5) (N := 8) hG dX5_colour_42 iX5_colour_X5 3 (by decide) mX5_colour_0 rfl rfl 0 rfl rfl ?_
      refine z_get (ci := 1) (C := RX1) (T := TX1) (N := 3) hG dX5_colour_45 iX5_colour_X1 0 (by decide) mX5_colour_6 rfl rfl 8 rfl rfl ?_
      refine z_iload_n hG dX5_colour_48 0 rfl ?_
      obtain ⟨hg, hres⟩ := z_guard hres
      refine z_iald hG dX5_colour_49 9 rfl hg ?_
      obtain rfl := Option.some.inj hres
      exact (z_wid (Nat.le_of_ble_eq_true rfl) (Nat.le_of_ble_eq_true rfl) (hR _ rfl _ _ dX5_colour_50))
    · replace hres := z_ifp c hres
      obtain rfl := Option.some.inj hres
      exact z_throw "the net does not have two colours" hG (hT _ rfl) (by decide) mX5_colour_7 mX5_colour_8 (by decide) rfl (by decide) hX5_colour_184 zng_UnsupportedOperationException zgd_UnsupportedOperationException dX5_colour_31 dX5_colour_34 dX5_colour_35 dX5_colour_37 dX5_colour_40 (by decide) (Nat.le_of_ble_eq_true rfl) (Nat.le_of_ble_eq_true rfl) (Nat.le_of_ble_eq_true rfl) (Nat.le_of_ble_eq_true rfl) (Nat.le_of_ble_eq_true rfl)
  · rcases hv1 : v1 with x2 | r3
    · rw [hv1] at ho
      obtain rfl := Sum.inl.inj ho
      replace hres := z_elimL hv1 hres
      obtain rfl := Option.some.inj hres
      exact z_xwid (Nat.le_of_ble_eq_true rfl) (Nat.le_of_ble_eq_true rfl) (hP _ rfl _ _)
    rw [hv1] at ho
    cases ho

theorem dX5_ring_0 : decode cX5_ring 0 = .ok (.aload_n 0, 1) := by decide +kernel
theorem dX5_ring_1 : decode cX5_ring 1 = .ok (.invokevirtual 188, 3) := by decide +kernel
theorem dX5_ring_4 : decode cX5_ring 4 = .ok (.aload_n 0, 1) := by decide +kernel
theorem dX5_ring_5 : decode cX5_ring 5 = .ok (.getfield 36, 3) := by decide +kernel
theorem dX5_ring_8 : decode cX5_ring 8 = .ok (.getfield 191, 3) := by decide +kernel
theorem dX5_ring_11 : decode cX5_ring 11 = .ok (.ireturn, 1) := by decide +kernel
set_option maxRecDepth 20000 in
theorem ggX5_ring_X5_findOddRing : GoodIn wsX5_ring wsX5_findOddRing := goodIn_ca (goodIn_r _ [7, 8, 9, 10, 11, 12, 13, 1, 14, 15, 16, 17, 18, 19, 20, 21, 22, 23, 24, 25, 26, 27, 28, 29, 30, 31, 32, 33, 34, 35, 36, 37, 38, 39, 40, 41, 42, 43, 6, 44, 45, 46, 47, 48, 49, 50, 51, 52, 53, 54, 55, 56, 57, 58, 59, 60, 61, 62, 63, 64, 65, 66, 67, 68, 69, 70, 71, 72, 73, 74, 75, 76, 77, 78, 79, 80, 81, 82, 83, 84, 85, 86, 90, 91, 92, 93, 94, 95, 96, 97, 98, 99, 87, 88, 89] (by decide +kernel) (by decide +kernel)) (goodIn_sub (fun _ h => List.mem_cons_of_mem _ (List.mem_append_right _ h)) (by decide +kernel))
set_option maxRecDepth 20000 in
theorem gX5_ring_X5_findOddRing : GoodIn wsX5_ring (wsV RX5 188 RX5 yX5_findOddRing wsX5_findOddRing) := goodIn_app (goodIn_of _ (by decide +kernel)) ggX5_ring_X5_findOddRing
theorem mX5_ring_0 : Cond.fieldLink RX5 36 "Layerways" "oddRing" "LLayerways$OddRing;" ∈ wsX5_ring := by decide +kernel
theorem iX5_ring_X5 : ∀ w ∈ u_ws RX5 TX5 8, w ∈ wsX5_ring := by decide +kernel
theorem mX5_ring_2 : Cond.fieldLink RX5 191 "Layerways$OddRing" "size" "I" ∈ wsX5_ring := by decide +kernel
theorem iX5_ring_X4 : ∀ w ∈ u_ws RX4 TX4 3, w ∈ wsX5_ring := by decide +kernel
def fX5_ring (nS : Int32) (nN : (Nat → Int32)) (wM : Int32) (wL : (Nat → Int32)) (wC : (Nat → Int32)) (wQ : (Nat → Int32)) (cT : (Nat → Int32)) (oS : Int32) (oR : (Nat → Int32)) (oX : (Nat → Int32)) : Option ((String ⊕ Int32) × Int32 × (Nat → Int32) × (Nat → Int32) × (Nat → Int32) × Int32 × Int32 × (Nat → Int32) × Int32 × (Nat → Int32) × (Nat → Int32)) := (fX5_findOddRing nS nN wM wL wC wQ cT oS oR oX).bind fun v1 => Sum.elim (fun x2 : String => some (.inl x2, v1.2.1, v1.2.2.1, v1.2.2.2.1, v1.2.2.2.2.1, v1.2.2.2.2.2.1, v1.2.2.2.2.2.2.1, v1.2.2.2.2.2.2.2.1, v1.2.2.2.2.2.2.2.2.1, v1.2.2.2.2.2.2.2.2.2.1, v1.2.2.2.2.2.2.2.2.2.2)) (fun r3 : Unit => some (.inr v1.2.2.2.2.2.2.2.2.1, v1.2.1, v1.2.2.1, v1.2.2.2.1, v1.2.2.2.2.1, v1.2.2.2.2.2.1, v1.2.2.2.2.2.2.1, v1.2.2.2.2.2.2.2.1, v1.2.2.2.2.2.2.2.2.1, v1.2.2.2.2.2.2.2.2.2.1, v1.2.2.2.2.2.2.2.2.2.2)) v1.1
set_option maxRecDepth 100000 in
set_option maxHeartbeats 4000000 in
theorem kX5_ring (l : Launch) (K : zK) (aH : Nat) (aN : Nat) (aNk : Nat) (aNn : Nat) (aA : Nat) (aAl : Nat) (aAc : Nat) (aAq : Nat) (aC : Nat) (aCt : Nat) (aO : Nat) (aOr : Nat) (aOx : Nat) (aF : Nat) (aX : Nat)  (gB : Int32) (gK : Int32) (nS : Int32) (nK : (Nat → Int32)) (nN : (Nat → Int32)) (wM : Int32) (wL : (Nat → Int32)) (wC : (Nat → Int32)) (wQ : (Nat → Int32)) (cP : Int32) (cW : Int32) (cT : (Nat → Int32)) (oS : Int32) (oR : (Nat → Int32)) (oX : (Nat → Int32)) (r : (String ⊕ Int32) × Int32 × (Nat → Int32) × (Nat → Int32) × (Nat → Int32) × Int32 × Int32 × (Nat → Int32) × Int32 × (Nat → Int32) × (Nat → Int32)) (hres : fX5_ring nS nN wM wL wC wQ cT oS oR oX = some r) : zX l K yX5_ring wsX5_ring ({ frames := 7, cells := 8, slots := 48, locals := 132 }) [.ref aH] [(aH, .inr (5, [.ref aN, .ref aF, .ref aA, .ref aC, .ref aO, .ref aX, .int gB, .int gK])), (aN, .inr (3, [.ref aNk, .ref aNn, .int nS])), (aNk, .inl (K.2 0, 12, .inl nK)), (aNn, .inl (K.2 0, 12, .inl nN)), (aA, .inr (2, [.ref aAl, .ref aAc, .ref aAq, .int wM])), (aAl, .inl (K.2 0, 12, .inl wL)), (aAc, .inl (K.2 0, 12, .inl wC)), (aAq, .inl (K.2 0, 12, .inl wQ)), (aC, .inr (1, [.ref aCt, .int cP, .int cW])), (aCt, .inl (K.2 0, 12, .inl cT)), (aO, .inr (4, [.ref aOr, .ref aOx, .int oS])), (aOr, .inl (K.2 0, 12, .inl oR)), (aOx, .inl (K.2 0, 13, .inl oX))] (zoI r.1) [(aH, .inr (5, [.ref aN, .ref aF, .ref aA, .ref aC, .ref aO, .ref aX, .int gB, .int gK])), (aN, .inr (3, [.ref aNk, .ref aNn, .int nS])), (aNk, .inl (K.2 0, 12, .inl nK)), (aNn, .inl (K.2 0, 12, .inl nN)), (aA, .inr (2, [.ref aAl, .ref aAc, .ref aAq, .int r.2.1])), (aAl, .inl (K.2 0, 12, .inl r.2.2.1)), (aAc, .inl (K.2 0, 12, .inl r.2.2.2.1)), (aAq, .inl (K.2 0, 12, .inl r.2.2.2.2.1)), (aC, .inr (1, [.ref aCt, .int r.2.2.2.2.2.1, .int r.2.2.2.2.2.2.1])), (aCt, .inl (K.2 0, 12, .inl r.2.2.2.2.2.2.2.1)), (aO, .inr (4, [.ref aOr, .ref aOx, .int r.2.2.2.2.2.2.2.2.1])), (aOr, .inl (K.2 0, 12, .inl r.2.2.2.2.2.2.2.2.2.1)), (aOx, .inl (K.2 0, 13, .inl r.2.2.2.2.2.2.2.2.2.2))] 8 48 := by
  refine zX.intI (cc := cX5_ring) (maxL := 1) (ret := (some .int)) rfl (by decide) (Nat.le_of_ble_eq_true rfl) rfl ?_
  intro G hGl hG hV hR hT hP
  unfold fX5_ring at hres
  show zj G 0 [(0, .ref aH)] [] [(aH, .inr (5, [.ref aN, .ref aF, .ref aA, .ref aC, .ref aO, .ref aX, .int gB, .int gK])), (aN, .inr (3, [.ref aNk, .ref aNn, .int nS])), (aNk, .inl (K.2 0, 12, .inl nK)), (aNn, .inl (K.2 0, 12, .inl nN)), (aA, .inr (2, [.ref aAl, .ref aAc, .ref aAq, .int wM])), (aAl, .inl (K.2 0, 12, .inl wL)), (aAc, .inl (K.2 0, 12, .inl wC)), (aAq, .inl (K.2 0, 12, .inl wQ)), (aC, .inr (1, [.ref aCt, .int cP, .int cW])), (aCt, .inl (K.2 0, 12, .inl cT)), (aO, .inr (4, [.ref aOr, .ref aOx, .int oS])), (aOr, .inl (K.2 0, 12, .inl oR)), (aOx, .inl (K.2 0, 13, .inl oX))] 0 0
  refine z_aload_n hG dX5_ring_0 0 rfl ?_
  obtain ⟨v1, hv, hres⟩ := z_bind hres
  refine z_callX (As := []) (rest := []) (wr := ([] : va_W)) (ws' := [(aH, .inr (5, [.ref aN, .ref aF, .ref aA, .ref aC, .ref aO, .ref aX, .int gB, .int gK])), (aN, .inr (3, [.ref aNk, .ref aNn, .int nS])), (aNk, .inl (K.2 0, 12, .inl nK)), (aNn, .inl (K.2 0, 12, .inl nN)), (aA, .inr (2, [.ref aAl, .ref aAc, .ref aAq, .int v1.2.1])), (aAl, .inl (K.2 0, 12, .inl v1.2.2.1)), (aAc, .inl (K.2 0, 12, .inl v1.2.2.2.1)), (aAq, .inl (K.2 0, 12, .inl v1.2.2.2.2.1)), (aC, .inr (1, [.ref aCt, .int v1.2.2.2.2.2.1, .int v1.2.2.2.2.2.2.1])), (aCt, .inl (K.2 0, 12, .inl v1.2.2.2.2.2.2.2.1)), (aO, .inr (4, [.ref aOr, .ref aOx, .int v1.2.2.2.2.2.2.2.2.1])), (aOr, .inl (K.2 0, 12, .inl v1.2.2.2.2.2.2.2.2.2.1)), (aOx, .inl (K.2 0, 13, .inl v1.2.2.2.2.2.2.2.2.2.2))]) (kc' := 1) (ks' := 6) (n := 0) (C := RX5) (ci := 5) hG hV dX5_ring_1 (kX5_findOddRing _ K aH aN aNk aNn aA aAl aAc aAq aC aCt aO aOr aOx aF aX gB gK nS nK nN wM wL wC wQ cP cW cT oS oR oX v1 hv) gX5_ring_X5_findOddRing rfl rfl rfl ⟨rfl, by decide, by decide, rfl⟩ ⟨by decide, by decide⟩ (Nat.le_of_ble_eq_true rfl) ⟨(Nat.le_of_ble_eq_true rfl), (Nat.le_of_ble_eq_true rfl)⟩ [0, 1, 2, 3, 4, 5, 6, 7, 8, 9, 10, 11, 12] [] [0, 1, 2, 3, 4, 5, 6, 7, 8, 9, 10, 11, 12] rfl rfl rfl rfl (by decide) rfl rfl rfl rfl rfl 0 rfl rfl rfl rfl (fun o9 ho => ?_) (fun E9 ho => ?_)
  · rcases hv1 : v1.1 with x2 | r3
    · rw [hv1] at ho
      cases ho
    rw [hv1] at ho
    obtain rfl := Sum.inr.inj ho
    replace hres := z_elimR hv1 hres
    show zj G 4 [(0, .ref aH)] [] [(aH, .inr (5, [.ref aN, .ref aF, .ref aA, .ref aC, .ref aO, .ref aX, .int gB, .int gK])), (aN, .inr (3, [.ref aNk, .ref aNn, .int nS])), (aNk, .inl (K.2 0, 12, .inl nK)), (aNn, .inl (K.2 0, 12, .inl nN)), (aA, .inr (2, [.ref aAl, .ref aAc, .ref aAq, .int v1.2.1])), (aAl, .inl (K.2 0, 12, .inl v1.2.2.1)), (aAc, .inl (K.2 0, 12, .inl v1.2.2.2.1)), (aAq, .inl (K.2 0, 12, .inl v1.2.2.2.2.1)), (aC, .inr (1, [.ref aCt, .int v1.2.2.2.2.2.1, .int v1.2.2.2.2.2.2.1])), (aCt, .inl (K.2 0, 12, .inl v1.2.2.2.2.2.2.2.1)), (aO, .inr (4, [.ref aOr, .ref aOx, .int v1.2.2.2.2.2.2.2.2.1])), (aOr, .inl (K.2 0, 12, .inl v1.2.2.2.2.2.2.2.2.2.1)), (aOx, .inl (K.2 0, 13, .inl v1.2.2.2.2.2.2.2.2.2.2))] 1 6
    refine z_aload_n hG dX5_ring_4 0 rfl ?_
    refine z_get (ci := 5) (C := RX5) (T := TX5) (N := 8) hG dX5_ring_5 iX5_ring_X5 4 (by decide) mX5_ring_0 rfl rfl 0 rfl rfl ?_
    refine z_get (ci := 4) (C := RX4) (T := TX4) (N := 3) hG dX5_ring_8 iX5_ring_X4 2 (by decide) mX5_ring_2 rfl rfl 10 rfl rfl ?_
    obtain rfl := Option.some.inj hres
    exact (z_wid (Nat.le_of_ble_eq_true rfl) (Nat.le_of_ble_eq_true rfl) (hR _ rfl _ _ dX5_ring_11))
  · rcases hv1 : v1.1 with x2 | r3
    · rw [hv1] at ho
      obtain rfl := Sum.inl.inj ho
      replace hres := z_elimL hv1 hres
      obtain rfl := Option.some.inj hres
      exact z_xwid (Nat.le_of_ble_eq_true rfl) (Nat.le_of_ble_eq_true rfl) (hP _ rfl _ _)
    rw [hv1] at ho
    cases ho

theorem dX5_ringAt_0 : decode cX5_ringAt 0 = .ok (.aload_n 0, 1) := by decide +kernel
theorem dX5_ringAt_1 : decode cX5_ringAt 1 = .ok (.invokevirtual 188, 3) := by decide +kernel
theorem dX5_ringAt_4 : decode cX5_ringAt 4 = .ok (.iload_n 1, 1) := by decide +kernel
theorem dX5_ringAt_5 : decode cX5_ringAt 5 = .ok (.ifCond .lt 14, 3) := by decide +kernel
theorem dX5_ringAt_8 : decode cX5_ringAt 8 = .ok (.iload_n 1, 1) := by decide +kernel
theorem dX5_ringAt_9 : decode cX5_ringAt 9 = .ok (.aload_n 0, 1) := by decide +kernel
theorem dX5_ringAt_10 : decode cX5_ringAt 10 = .ok (.getfield 36, 3) := by decide +kernel
theorem dX5_ringAt_13 : decode cX5_ringAt 13 = .ok (.getfield 191, 3) := by decide +kernel
theorem dX5_ringAt_16 : decode cX5_ringAt 16 = .ok (.if_icmp .lt 13, 3) := by decide +kernel
theorem dX5_ringAt_19 : decode cX5_ringAt 19 = .ok (.new 122, 3) := by decide +kernel
theorem dX5_ringAt_22 : decode cX5_ringAt 22 = .ok (.dup, 1) := by decide +kernel
theorem dX5_ringAt_23 : decode cX5_ringAt 23 = .ok (.ldc 192, 2) := by decide +kernel
theorem dX5_ringAt_25 : decode cX5_ringAt 25 = .ok (.invokespecial 126, 3) := by decide +kernel
theorem dX5_ringAt_28 : decode cX5_ringAt 28 = .ok (.athrow, 1) := by decide +kernel
theorem dX5_ringAt_29 : decode cX5_ringAt 29 = .ok (.aload_n 0, 1) := by decide +kernel
theorem dX5_ringAt_30 : decode cX5_ringAt 30 = .ok (.getfield 10, 3) := by decide +kernel
theorem dX5_ringAt_33 : decode cX5_ringAt 33 = .ok (.getfield 127, 3) := by decide +kernel
theorem dX5_ringAt_36 : decode cX5_ringAt 36 = .ok (.aload_n 0, 1) := by decide +kernel
theorem dX5_ringAt_37 : decode cX5_ringAt 37 = .ok (.getfield 36, 3) := by decide +kernel
theorem dX5_ringAt_40 : decode cX5_ringAt 40 = .ok (.getfield 194, 3) := by decide +kernel
theorem dX5_ringAt_43 : decode cX5_ringAt 43 = .ok (.iload_n 1, 1) := by decide +kernel
theorem dX5_ringAt_44 : decode cX5_ringAt 44 = .ok (.iaload, 1) := by decide +kernel
theorem dX5_ringAt_45 : decode cX5_ringAt 45 = .ok (.iaload, 1) := by decide +kernel
theorem dX5_ringAt_46 : decode cX5_ringAt 46 = .ok (.ireturn, 1) := by decide +kernel
set_option maxRecDepth 20000 in
theorem ggX5_ringAt_X5_findOddRing : GoodIn wsX5_ringAt wsX5_findOddRing := goodIn_ca (goodIn_r _ [12, 13, 14, 15, 5, 16, 17, 3, 18, 19, 20, 21, 22, 23, 24, 25, 26, 27, 28, 29, 30, 31, 32, 33, 34, 35, 36, 37, 38, 39, 40, 41, 42, 43, 44, 45, 46, 47, 11, 48, 49, 50, 51, 52, 53, 54, 55, 56, 57, 58, 59, 60, 61, 62, 63, 64, 65, 66, 67, 68, 69, 70, 71, 72, 73, 74, 75, 76, 77, 78, 79, 80, 81, 82, 83, 84, 85, 86, 87, 88, 89, 90, 97, 98, 99, 94, 95, 96, 100, 101, 102, 103, 91, 92, 93] (by decide +kernel) (by decide +kernel)) (goodIn_sub (fun _ h => List.mem_cons_of_mem _ (List.mem_append_right _ h)) (by decide +kernel))
set_option maxRecDepth 20000 in
theorem gX5_ringAt_X5_findOddRing : GoodIn wsX5_ringAt (wsV RX5 188 RX5 yX5_findOddRing wsX5_findOddRing) := goodIn_app (goodIn_of _ (by decide +kernel)) ggX5_ringAt_X5_findOddRing
theorem mX5_ringAt_0 : Cond.classLink RX5 122 "java/lang/IndexOutOfBoundsException" ∈ wsX5_ringAt := by decide +kernel
theorem mX5_ringAt_1 : Cond.initialized "java/lang/IndexOutOfBoundsException" ∈ wsX5_ringAt := by decide +kernel
theorem hX5_ringAt_126 : ∀ w ∈ (vx_atS RX5 126 "java/lang/IndexOutOfBoundsException" ["java/lang/RuntimeException", "java/lang/Exception"]).filter goodWord, w ∈ wsX5_ringAt := fun w h => List.mem_cons_of_mem _ (List.mem_append_left _ (List.mem_append_right _ h))
theorem mX5_ringAt_3 : Cond.fieldLink RX5 36 "Layerways" "oddRing" "LLayerways$OddRing;" ∈ wsX5_ringAt := by decide +kernel
theorem iX5_ringAt_X5 : ∀ w ∈ u_ws RX5 TX5 8, w ∈ wsX5_ringAt := by decide +kernel
theorem mX5_ringAt_5 : Cond.fieldLink RX5 191 "Layerways$OddRing" "size" "I" ∈ wsX5_ringAt := by decide +kernel
theorem iX5_ringAt_X4 : ∀ w ∈ u_ws RX4 TX4 3, w ∈ wsX5_ringAt := by decide +kernel
theorem mX5_ringAt_7 : Cond.fieldLink RX5 10 "Layerways" "net" "LLayerways$Net;" ∈ wsX5_ringAt := by decide +kernel
theorem mX5_ringAt_8 : Cond.fieldLink RX5 127 "Layerways$Net" "keys" "[I" ∈ wsX5_ringAt := by decide +kernel
theorem iX5_ringAt_X3 : ∀ w ∈ u_ws RX3 TX3 3, w ∈ wsX5_ringAt := by decide +kernel
theorem mX5_ringAt_10 : Cond.fieldLink RX5 194 "Layerways$OddRing" "row" "[I" ∈ wsX5_ringAt := by decide +kernel
def fX5_ringAt (nS : Int32) (nK : (Nat → Int32)) (nN : (Nat → Int32)) (wM : Int32) (wL : (Nat → Int32)) (wC : (Nat → Int32)) (wQ : (Nat → Int32)) (cT : (Nat → Int32)) (oS : Int32) (oR : (Nat → Int32)) (oX : (Nat → Int32)) (p0 : Int32) : Option ((String ⊕ Int32) × Int32 × (Nat → Int32) × (Nat → Int32) × (Nat → Int32) × Int32 × Int32 × (Nat → Int32) × Int32 × (Nat → Int32) × (Nat → Int32)) := (fX5_findOddRing nS nN wM wL wC wQ cT oS oR oX).bind fun v1 => Sum.elim (fun x2 : String => some (.inl x2, v1.2.1, v1.2.2.1, v1.2.2.2.1, v1.2.2.2.2.1, v1.2.2.2.2.2.1, v1.2.2.2.2.2.2.1, v1.2.2.2.2.2.2.2.1, v1.2.2.2.2.2.2.2.2.1, v1.2.2.2.2.2.2.2.2.2.1, v1.2.2.2.2.2.2.2.2.2.2)) (fun r3 : Unit => if p0 < 0 then some (.inl "java/lang/IndexOutOfBoundsException", v1.2.1, v1.2.2.1, v1.2.2.2.1, v1.2.2.2.2.1, v1.2.2.2.2.2.1, v1.2.2.2.2.2.2.1, v1.2.2.2.2.2.2.2.1, v1.2.2.2.2.2.2.2.2.1, v1.2.2.2.2.2.2.2.2.2.1, v1.2.2.2.2.2.2.2.2.2.2) else if p0 < v1.2.2.2.2.2.2.2.2.1 then if zin p0 12 then if zin (v1.2.2.2.2.2.2.2.2.2.1 p0.toNatClampNeg) 12 then some (.inr (nK (v1.2.2.2.2.2.2.2.2.2.1 p0.toNatClampNeg).toNatClampNeg), v1.2.1, v1.2.2.1, v1.2.2.2.1, v1.2.2.2.2.1, v1.2.2.2.2.2.1, v1.2.2.2.2.2.2.1, v1.2.2.2.2.2.2.2.1, v1.2.2.2.2.2.2.2.2.1, v1.2.2.2.2.2.2.2.2.2.1, v1.2.2.2.2.2.2.2.2.2.2) else none else none else some (.inl "java/lang/IndexOutOfBoundsException", v1.2.1, v1.2.2.1, v1.2.2.2.1, v1.2.2.2.2.1, v1.2.2.2.2.2.1, v1.2.2.2.2.2.2.1, v1.2.2.2.2.2.2.2.1, v1.2.2.2.2.2.2.2.2.1, v1.2.2.2.2.2.2.2.2.2.1, v1.2.2.2.2.2.2.2.2.2.2)) v1.1
set_option maxRecDepth 100000 in
set_option maxHeartbeats 4000000 in
theorem kX5_ringAt (l : Launch) (K : zK) (aH : Nat) (aN : Nat) (aNk : Nat) (aNn : Nat) (aA : Nat) (aAl : Nat) (aAc : Nat) (aAq : Nat) (aC : Nat) (aCt : Nat) (aO : Nat) (aOr : Nat) (aOx : Nat) (aF : Nat) (aX : Nat)  (gB : Int32) (gK : Int32) (nS : Int32) (nK : (Nat → Int32)) (nN : (Nat → Int32)) (wM : Int32) (wL : (Nat → Int32)) (wC : (Nat → Int32)) (wQ : (Nat → Int32)) (cP : Int32) (cW : Int32) (cT : (Nat → Int32)) (oS : Int32) (oR : (Nat → Int32)) (oX : (Nat → Int32)) (p0 : Int32) (r : (String ⊕ Int32) × Int32 × (Nat → Int32) × (Nat → Int32) × (Nat → Int32) × Int32 × Int32 × (Nat → Int32) × Int32 × (Nat → Int32) × (Nat → Int32)) (hres : fX5_ringAt nS nK nN wM wL wC wQ cT oS oR oX p0 = some r) : zX l K yX5_ringAt wsX5_ringAt ({ frames := 7, cells := 8, slots := 48, locals := 132 }) [.ref aH, .int p0] [(aH, .inr (5, [.ref aN, .ref aF, .ref aA, .ref aC, .ref aO, .ref aX, .int gB, .int gK])), (aN, .inr (3, [.ref aNk, .ref aNn, .int nS])), (aNk, .inl (K.2 0, 12, .inl nK)), (aNn, .inl (K.2 0, 12, .inl nN)), (aA, .inr (2, [.ref aAl, .ref aAc, .ref aAq, .int wM])), (aAl, .inl (K.2 0, 12, .inl wL)), (aAc, .inl (K.2 0, 12, .inl wC)), (aAq, .inl (K.2 0, 12, .inl wQ)), (aC, .inr (1, [.ref aCt, .int cP, .int cW])), (aCt, .inl (K.2 0, 12, .inl cT)), (aO, .inr (4, [.ref aOr, .ref aOx, .int oS])), (aOr, .inl (K.2 0, 12, .inl oR)), (aOx, .inl (K.2 0, 13, .inl oX))] (zoI r.1) [(aH, .inr (5, [.ref aN, .ref aF, .ref aA, .ref aC, .ref aO, .ref aX, .int gB, .int gK])), (aN, .inr (3, [.ref aNk, .ref aNn, .int nS])), (aNk, .inl (K.2 0, 12, .inl nK)), (aNn, .inl (K.2 0, 12, .inl nN)), (aA, .inr (2, [.ref aAl, .ref aAc, .ref aAq, .int r.2.1])), (aAl, .inl (K.2 0, 12, .inl r.2.2.1)), (aAc, .inl (K.2 0, 12, .inl r.2.2.2.1)), (aAq, .inl (K.2 0, 12, .inl r.2.2.2.2.1)), (aC, .inr (1, [.ref aCt, .int r.2.2.2.2.2.1, .int r.2.2.2.2.2.2.1])), (aCt, .inl (K.2 0, 12, .inl r.2.2.2.2.2.2.2.1)), (aO, .inr (4, [.ref aOr, .ref aOx, .int r.2.2.2.2.2.2.2.2.1])), (aOr, .inl (K.2 0, 12, .inl r.2.2.2.2.2.2.2.2.2.1)), (aOx, .inl (K.2 0, 13, .inl r.2.2.2.2.2.2.2.2.2.2))] 8 48 := by
  refine zX.intI (cc := cX5_ringAt) (maxL := 2) (ret := (some .int)) rfl (by decide) (Nat.le_of_ble_eq_true rfl) rfl ?_
  intro G hGl hG hV hR hT hP
  unfold fX5_ringAt at hres
  show zj G 0 [(0, .ref aH), (1, .int p0)] [] [(aH, .inr (5, [.ref aN, .ref aF, .ref aA, .ref aC, .ref aO, .ref aX, .int gB, .int gK])), (aN, .inr (3, [.ref aNk, .ref aNn, .int nS])), (aNk, .inl (K.2 0, 12, .inl nK)), (aNn, .inl (K.2 0, 12, .inl nN)), (aA, .inr (2, [.ref aAl, .ref aAc, .ref aAq, .int wM])), (aAl, .inl (K.2 0, 12, .inl wL)), (aAc, .inl (K.2 0, 12, .inl wC)), (aAq, .inl (K.2 0, 12, .inl wQ)), (aC, .inr (1, [.ref aCt, .int cP, .int cW])), (aCt, .inl (K.2 0, 12, .inl cT)), (aO, .inr (4, [.ref aOr, .ref aOx, .int oS])), (aOr, .inl (K.2 0, 12, .inl oR)), (aOx, .inl (K.2 0, 13, .inl oX))] 0 0
  refine z_aload_n hG dX5_ringAt_0 0 rfl ?_
  obtain ⟨v1, hv, hres⟩ := z_bind hres
  refine z_callX (As := []) (rest := []) (wr := ([] : va_W)) (ws' := [(aH, .inr (5, [.ref aN, .ref aF, .ref aA, .ref aC, .ref aO, .ref aX, .int gB, .int gK])), (aN, .inr (3, [.ref aNk, .ref aNn, .int nS])), (aNk, .inl (K.2 0, 12, .inl nK)), (aNn, .inl (K.2 0, 12, .inl nN)), (aA, .inr (2, [.ref aAl, .ref aAc, .ref aAq, .int v1.2.1])), (aAl, .inl (K.2 0, 12, .inl v1.2.2.1)), (aAc, .inl (K.2 0, 12, .inl v1.2.2.2.1)), (aAq, .inl (K.2 0, 12, .inl v1.2.2.2.2.1)), (aC, .inr (1, [.ref aCt, .int v1.2.2.2.2.2.1, .int v1.2.2.2.2.2.2.1])), (aCt, .inl (K.2 0, 12, .inl v1.2.2.2.2.2.2.2.1)), (aO, .inr (4, [.ref aOr, .ref aOx, .int v1.2.2.2.2.2.2.2.2.1])), (aOr, .inl (K.2 0, 12, .inl v1.2.2.2.2.2.2.2.2.2.1)), (aOx, .inl (K.2 0, 13, .inl v1.2.2.2.2.2.2.2.2.2.2))]) (kc' := 1) (ks' := 6) (n := 0) (C := RX5) (ci := 5) hG hV dX5_ringAt_1 (kX5_findOddRing _ K aH aN aNk aNn aA aAl aAc aAq aC aCt aO aOr aOx aF aX gB gK nS nK nN wM wL wC wQ cP cW cT oS oR oX v1 hv) gX5_ringAt_X5_findOddRing rfl rfl rfl ⟨rfl, by decide, by decide, rfl⟩ ⟨by decide, by decide⟩ (Nat.le_of_ble_eq_true rfl) ⟨(Nat.le_of_ble_eq_true rfl), (Nat.le_of_ble_eq_true rfl)⟩ [0, 1, 2, 3, 4, 5, 6, 7, 8, 9, 10, 11, 12] [] [0, 1, 2, 3, 4, 5, 6, 7, 8, 9, 10, 11, 12] rfl rfl rfl rfl (by decide) rfl rfl rfl rfl rfl 0 rfl rfl rfl rfl (fun o9 ho => ?_) (fun E9 ho => ?_)
  · rcases hv1 : v1.1 with x2 | r3
    · rw [hv1] at ho
      cases ho
    rw [hv1] at ho
    obtain rfl := Sum.inr.inj ho
    replace hres := z_elimR hv1 hres
    show zj G 4 [(0, .ref aH), (1, .int p0)] [] [(aH, .inr (5, [.ref aN, .ref aF, .ref aA, .ref aC, .ref aO, .ref aX, .int gB, .int gK])), (aN, .inr (3, [.ref aNk, .ref aNn, .int nS])), (aNk, .inl (K.2 0, 12, .inl nK)), (aNn, .inl (K.2 0, 12, .inl nN)), (aA, .inr (2, [.ref aAl, .ref aAc, .ref aAq, .int v1.2.1])), (aAl, .inl (K.2 0, 12, .inl v1.2.2.1)), (aAc, .inl (K.2 0, 12, .inl v1.2.2.2.1)), (aAq, .inl (K.2 0, 12, .inl v1.2.2.2.2.1)), (aC, .inr (1, [.ref aCt, .int v1.2.2.2.2.2.1, .int v1.2.2.2.2.2.2.1])), (aCt, .inl (K.2 0, 12, .inl v1.2.2.2.2.2.2.2.1)), (aO, .inr (4, [.ref aOr, .ref aOx, .int v1.2.2.2.2.2.2.2.2.1])), (aOr, .inl (K.2 0, 12, .inl v1.2.2.2.2.2.2.2.2.2.1)), (aOx, .inl (K.2 0, 13, .inl v1.2.2.2.2.2.2.2.2.2.2))] 1 6
    refine z_iload_n hG dX5_ringAt_4 1 rfl ?_
    refine z_if_lt 19 hG dX5_ringAt_5 (by decide) (fun c => ?_) (fun c => ?_)
    · replace hres := z_ifp c hres
      obtain rfl := Option.some.inj hres
      exact z_throw "the ring has no such place" hG (hT _ rfl) (by decide) mX5_ringAt_0 mX5_ringAt_1 (by decide) rfl (by decide) hX5_ringAt_126 zng_IndexOutOfBoundsException zgd_IndexOutOfBoundsException dX5_ringAt_19 dX5_ringAt_22 dX5_ringAt_23 dX5_ringAt_25 dX5_ringAt_28 (by decide) (Nat.le_of_ble_eq_true rfl) (Nat.le_of_ble_eq_true rfl) (Nat.le_of_ble_eq_true rfl) (Nat.le_of_ble_eq_true rfl) (Nat.le_of_ble_eq_true rfl)
    · replace hres := z_ifn c hres
      refine z_iload_n hG dX5_ringAt_8 1 rfl ?_
      refine z_aload_n hG dX5_ringAt_9 0 rfl ?_
      refine z_get (ci := 5) (C := RX5) (T := TX5) (N := 8) hG dX5_ringAt_10 iX5_ringAt_X5 4 (by decide) mX5_ringAt_3 rfl rfl 0 rfl rfl ?_
      refine z_get (ci := 4) (C := RX4) (T := TX4) (N := 3) hG dX5_ringAt_13 iX5_ringAt_X4 2 (by decide) mX5_ringAt_5 rfl rfl 10 rfl rfl ?_
      refine z_icmp_lt 29 hG dX5_ringAt_16 (by decide) (fun c => ?_) (fun c => ?_)
      · replace hres := z_ifp c hres
        refine z_aload_n hG dX5_ringAt_29 0 rfl ?_
        refine z_get (ci := 5) (C := RX5) (T := TX5) (N := 8) hG dX5_ringAt_30 iX5_ringAt_X5 0 (by decide) mX5_ringAt_7 rfl rfl 0 rfl rfl ?_
        refine z_get (ci := 3) (C := RX3) (T := TX3) (N := 3) hG dX5_ringAt_33 iX5_ringAt_X3 0 (by decide) mX5_ringAt_8 rfl rfl 1 rfl rfl ?_
        refine z_aload_n hG dX5_ringAt_36 0 rfl ?_
        refine z_get (ci := 5) (C := RX5) (T := TX5) (N := 8) hG dX5_ringAt_37 iX5_ringAt_X5 4 (by decide) mX5_ringAt_3 rfl rfl 0 rfl rfl ?_
        refine z_get (ci := 4) (C := RX4) (T := TX4) (N := 3) hG dX5_ringAt_40 iX5_ringAt_X4 0 (by decide) mX5_ringAt_10 rfl rfl 10 rfl rfl ?_
        refine z_iload_n hG dX5_ringAt_43 1 rfl ?_
        obtain ⟨hg, hres⟩ := z_guard hres
        refine z_iald hG dX5_ringAt_44 11 rfl hg ?_
        obtain ⟨hg, hres⟩ := z_guard hres
        refine z_iald hG dX5_ringAt_45 2 rfl hg ?_
        obtain rfl := Option.some.inj hres
        exact (z_wid (Nat.le_of_ble_eq_true rfl) (Nat.le_of_ble_eq_true rfl) (hR _ rfl _ _ dX5_ringAt_46))
      · replace hres := z_ifn c hres
        obtain rfl := Option.some.inj hres
        exact z_throw "the ring has no such place" hG (hT _ rfl) (by decide) mX5_ringAt_0 mX5_ringAt_1 (by decide) rfl (by decide) hX5_ringAt_126 zng_IndexOutOfBoundsException zgd_IndexOutOfBoundsException dX5_ringAt_19 dX5_ringAt_22 dX5_ringAt_23 dX5_ringAt_25 dX5_ringAt_28 (by decide) (Nat.le_of_ble_eq_true rfl) (Nat.le_of_ble_eq_true rfl) (Nat.le_of_ble_eq_true rfl) (Nat.le_of_ble_eq_true rfl) (Nat.le_of_ble_eq_true rfl)
  · rcases hv1 : v1.1 with x2 | r3
    · rw [hv1] at ho
      obtain rfl := Sum.inl.inj ho
      replace hres := z_elimL hv1 hres
      obtain rfl := Option.some.inj hres
      exact z_xwid (Nat.le_of_ble_eq_true rfl) (Nat.le_of_ble_eq_true rfl) (hP _ rfl _ _)
    rw [hv1] at ho
    cases ho
