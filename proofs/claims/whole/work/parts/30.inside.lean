theorem dX5_spreadFromStart_0 : decode cX5_spreadFromStart 0 = .ok (.aload_n 0, 1) := by decide +kernel
theorem dX5_spreadFromStart_1 : decode cX5_spreadFromStart 1 = .ok (.getfield 19, 3) := by decide +kernel
theorem dX5_spreadFromStart_4 : decode cX5_spreadFromStart 4 = .ok (.aload_n 0, 1) := by decide +kernel
theorem dX5_spreadFromStart_5 : decode cX5_spreadFromStart 5 = .ok (.getfield 10, 3) := by decide +kernel
theorem dX5_spreadFromStart_8 : decode cX5_spreadFromStart 8 = .ok (.aload_n 0, 1) := by decide +kernel
theorem dX5_spreadFromStart_9 : decode cX5_spreadFromStart 9 = .ok (.getfield 47, 3) := by decide +kernel
theorem dX5_spreadFromStart_12 : decode cX5_spreadFromStart 12 = .ok (.ifCond .eq 17, 3) := by decide +kernel
theorem dX5_spreadFromStart_15 : decode cX5_spreadFromStart 15 = .ok (.aload_n 0, 1) := by decide +kernel
theorem dX5_spreadFromStart_16 : decode cX5_spreadFromStart 16 = .ok (.getfield 10, 3) := by decide +kernel
theorem dX5_spreadFromStart_19 : decode cX5_spreadFromStart 19 = .ok (.aload_n 0, 1) := by decide +kernel
theorem dX5_spreadFromStart_20 : decode cX5_spreadFromStart 20 = .ok (.getfield 51, 3) := by decide +kernel
theorem dX5_spreadFromStart_23 : decode cX5_spreadFromStart 23 = .ok (.invokevirtual 55, 3) := by decide +kernel
theorem dX5_spreadFromStart_26 : decode cX5_spreadFromStart 26 = .ok (.goto 4, 3) := by decide +kernel
theorem dX5_spreadFromStart_29 : decode cX5_spreadFromStart 29 = .ok (.iconst (-1), 1) := by decide +kernel
theorem dX5_spreadFromStart_30 : decode cX5_spreadFromStart 30 = .ok (.invokevirtual 158, 3) := by decide +kernel
theorem dX5_spreadFromStart_33 : decode cX5_spreadFromStart 33 = .ok (.return_, 1) := by decide +kernel
set_option maxRecDepth 20000 in
theorem ggX5_spreadFromStart_X3_find : GoodIn wsX5_spreadFromStart wsX3_find := goodIn_r _ [9, 10, 11, 42, 43, 44] (by decide +kernel) (by decide +kernel)
set_option maxRecDepth 20000 in
theorem gX5_spreadFromStart_X3_find : GoodIn wsX5_spreadFromStart (wsV RX5 55 RX3 yX3_find wsX3_find) := goodIn_app (goodIn_of _ (by decide +kernel)) ggX5_spreadFromStart_X3_find
set_option maxRecDepth 20000 in
theorem ggX5_spreadFromStart_X2_spread : GoodIn wsX5_spreadFromStart wsX2_spread := goodIn_r _ [16, 17, 18, 19, 20, 21, 22, 23, 24, 15, 25, 26, 27, 28, 8, 29, 30, 31, 32, 33, 45, 46, 47, 48, 42, 43, 44] (by decide +kernel) (by decide +kernel)
set_option maxRecDepth 20000 in
theorem gX5_spreadFromStart_X2_spread : GoodIn wsX5_spreadFromStart (wsV RX5 158 RX2 yX2_spread wsX2_spread) := goodIn_app (goodIn_of _ (by decide +kernel)) ggX5_spreadFromStart_X2_spread
theorem mX5_spreadFromStart_0 : Cond.fieldLink RX5 19 "Layerways" "fromStart" "LLayerways$Layers;" ∈ wsX5_spreadFromStart := by decide +kernel
theorem iX5_spreadFromStart_X5 : ∀ w ∈ u_ws RX5 TX5 8, w ∈ wsX5_spreadFromStart := by decide +kernel
theorem mX5_spreadFromStart_2 : Cond.fieldLink RX5 10 "Layerways" "net" "LLayerways$Net;" ∈ wsX5_spreadFromStart := by decide +kernel
theorem mX5_spreadFromStart_3 : Cond.fieldLink RX5 47 "Layerways" "begun" "Z" ∈ wsX5_spreadFromStart := by decide +kernel
theorem mX5_spreadFromStart_4 : Cond.fieldLink RX5 51 "Layerways" "startKey" "I" ∈ wsX5_spreadFromStart := by decide +kernel
def fX5_spreadFromStart (gB : Int32) (gK : Int32) (nS : Int32) (nK : (Nat → Int32)) (nN : (Nat → Int32)) (fL : (Nat → Int32)) (fC : (Nat → Int32)) (fQ : (Nat → Int32)) : Option (Int32 × (Nat → Int32) × (Nat → Int32) × (Nat → Int32)) := ((if gB = 0 then some (-1) else (fX3_find nS nK gK).bind fun v4 => some v4) : Option Int32).bind fun v2 => (fX2_spread fL fC fQ nS nN v2).bind fun v3 => some (v3.1, v3.2.1, v3.2.2.1, v3.2.2.2)
set_option maxRecDepth 100000 in
set_option maxHeartbeats 4000000 in
theorem kX5_spreadFromStart (l : Launch) (K : zK) (aH : Nat) (aN : Nat) (aNk : Nat) (aNn : Nat) (aF : Nat) (aFl : Nat) (aFc : Nat) (aFq : Nat) (aA : Nat) (aC : Nat) (aO : Nat) (aX : Nat)  (gB : Int32) (gK : Int32) (nS : Int32) (nK : (Nat → Int32)) (nN : (Nat → Int32)) (fM : Int32) (fL : (Nat → Int32)) (fC : (Nat → Int32)) (fQ : (Nat → Int32)) (r : Int32 × (Nat → Int32) × (Nat → Int32) × (Nat → Int32)) (hres : fX5_spreadFromStart gB gK nS nK nN fL fC fQ = some r) : zM l K yX5_spreadFromStart wsX5_spreadFromStart ({ frames := 4, cells := 0, slots := 0, locals := 89 }) [.ref aH] [(aH, .inr (5, [.ref aN, .ref aF, .ref aA, .ref aC, .ref aO, .ref aX, .int gB, .int gK])), (aN, .inr (3, [.ref aNk, .ref aNn, .int nS])), (aNk, .inl (K.2 0, 12, .inl nK)), (aNn, .inl (K.2 0, 12, .inl nN)), (aF, .inr (2, [.ref aFl, .ref aFc, .ref aFq, .int fM])), (aFl, .inl (K.2 0, 12, .inl fL)), (aFc, .inl (K.2 0, 12, .inl fC)), (aFq, .inl (K.2 0, 12, .inl fQ))] (fun _ : Unit => none) (fun _ : Unit => [(aH, .inr (5, [.ref aN, .ref aF, .ref aA, .ref aC, .ref aO, .ref aX, .int gB, .int gK])), (aN, .inr (3, [.ref aNk, .ref aNn, .int nS])), (aNk, .inl (K.2 0, 12, .inl nK)), (aNn, .inl (K.2 0, 12, .inl nN)), (aF, .inr (2, [.ref aFl, .ref aFc, .ref aFq, .int r.1])), (aFl, .inl (K.2 0, 12, .inl r.2.1)), (aFc, .inl (K.2 0, 12, .inl r.2.2.1)), (aFq, .inl (K.2 0, 12, .inl r.2.2.2))]) 0 0 := by
  refine zM.intV (cc := cX5_spreadFromStart) (maxL := 1) (ret := none) rfl (by decide) (Nat.le_of_ble_eq_true rfl) rfl (fun _ => rfl) ?_
  intro G hGl hG hN hE
  have hR : ∀ (pc : Nat) (lv : zL), decode cX5_spreadFromStart pc = .ok (.return_, 1) → zj G pc lv [] [(aH, .inr (5, [.ref aN, .ref aF, .ref aA, .ref aC, .ref aO, .ref aX, .int gB, .int gK])), (aN, .inr (3, [.ref aNk, .ref aNn, .int nS])), (aNk, .inl (K.2 0, 12, .inl nK)), (aNn, .inl (K.2 0, 12, .inl nN)), (aF, .inr (2, [.ref aFl, .ref aFc, .ref aFq, .int r.1])), (aFl, .inl (K.2 0, 12, .inl r.2.1)), (aFc, .inl (K.2 0, 12, .inl r.2.2.1)), (aFq, .inl (K.2 0, 12, .inl r.2.2.2))] 0 0 := fun pc lv d => hE () pc lv d
  clear hE
  unfold fX5_spreadFromStart at hres
  show zj G 0 [(0, .ref aH)] [] [(aH, .inr (5, [.ref aN, .ref aF, .ref aA, .ref aC, .ref aO, .ref aX, .int gB, .int gK])), (aN, .inr (3, [.ref aNk, .ref aNn, .int nS])), (aNk, .inl (K.2 0, 12, .inl nK)), (aNn, .inl (K.2 0, 12, .inl nN)), (aF, .inr (2, [.ref aFl, .ref aFc, .ref aFq, .int fM])), (aFl, .inl (K.2 0, 12, .inl fL)), (aFc, .inl (K.2 0, 12, .inl fC)), (aFq, .inl (K.2 0, 12, .inl fQ))] 0 0
  refine z_aload_n hG dX5_spreadFromStart_0 0 rfl ?_
  refine z_get (ci := 5) (C := RX5) (T := TX5) (N := 8) hG dX5_spreadFromStart_1 iX5_spreadFromStart_X5 1 (by decide) mX5_spreadFromStart_0 rfl rfl 0 rfl rfl ?_
  refine z_aload_n hG dX5_spreadFromStart_4 0 rfl ?_
  refine z_get (ci := 5) (C := RX5) (T := TX5) (N := 8) hG dX5_spreadFromStart_5 iX5_spreadFromStart_X5 0 (by decide) mX5_spreadFromStart_2 rfl rfl 0 rfl rfl ?_
  refine z_aload_n hG dX5_spreadFromStart_8 0 rfl ?_
  refine z_get (ci := 5) (C := RX5) (T := TX5) (N := 8) hG dX5_spreadFromStart_9 iX5_spreadFromStart_X5 6 (by decide) mX5_spreadFromStart_3 rfl rfl 0 rfl rfl ?_
  obtain ⟨v2, hv, hres⟩ := z_bind hres
  have J : zj G 30 [(0, .ref aH)] [.int v2, .ref aN, .ref aF] [(aH, .inr (5, [.ref aN, .ref aF, .ref aA, .ref aC, .ref aO, .ref aX, .int gB, .int gK])), (aN, .inr (3, [.ref aNk, .ref aNn, .int nS])), (aNk, .inl (K.2 0, 12, .inl nK)), (aNn, .inl (K.2 0, 12, .inl nN)), (aF, .inr (2, [.ref aFl, .ref aFc, .ref aFq, .int fM])), (aFl, .inl (K.2 0, 12, .inl fL)), (aFc, .inl (K.2 0, 12, .inl fC)), (aFq, .inl (K.2 0, 12, .inl fQ))] 0 0 := by
    obtain ⟨v3, hv, hres⟩ := z_bind hres
    refine z_callV (As := [.ref aN, .int v2]) (rest := []) (wr := [(aH, .inr (5, [.ref aN, .ref aF, .ref aA, .ref aC, .ref aO, .ref aX, .int gB, .int gK]))]) (ws' := (fun _ : Unit => [(aH, .inr (5, [.ref aN, .ref aF, .ref aA, .ref aC, .ref aO, .ref aX, .int gB, .int gK])), (aN, .inr (3, [.ref aNk, .ref aNn, .int nS])), (aNk, .inl (K.2 0, 12, .inl nK)), (aNn, .inl (K.2 0, 12, .inl nN)), (aF, .inr (2, [.ref aFl, .ref aFc, .ref aFq, .int v3.1])), (aFl, .inl (K.2 0, 12, .inl v3.2.1)), (aFc, .inl (K.2 0, 12, .inl v3.2.2.1)), (aFq, .inl (K.2 0, 12, .inl v3.2.2.2))])) (stk := (fun _ : Unit => [])) (kc' := 0) (ks' := 0) (n := 2) (C := RX2) (ci := 2) hG dX5_spreadFromStart_30 (kX2_spread _ K aF aFl aFc aFq aN aNk aNn fM fL fC fQ nS nK nN v2 v3 hv) gX5_spreadFromStart_X2_spread rfl rfl rfl ⟨rfl, by decide, by decide, rfl⟩ ⟨by decide, by decide⟩ (Nat.le_of_ble_eq_true rfl) ⟨(Nat.le_of_ble_eq_true rfl), (Nat.le_of_ble_eq_true rfl)⟩ [4, 5, 6, 7, 1, 2, 3] [0] [0, 5, 6, 7, 1, 2, 3, 4] rfl rfl rfl rfl (by decide) rfl (fun _ => rfl) (fun _ => rfl) rfl rfl rfl 0 rfl rfl rfl rfl (fun _ => ?_)
    obtain rfl := Option.some.inj hres
    exact (hR _ _ dX5_spreadFromStart_33)
  replace hres := hv
  clear hv
  refine z_if_eq 29 hG dX5_spreadFromStart_12 (by decide) (fun c => ?_) (fun c => ?_)
  · replace hres := z_ifp c hres
    refine z_iconst (-1) hG dX5_spreadFromStart_29 (by decide) ?_
    obtain rfl := Option.some.inj hres
    exact J
  · replace hres := z_ifn c hres
    refine z_aload_n hG dX5_spreadFromStart_15 0 rfl ?_
    refine z_get (ci := 5) (C := RX5) (T := TX5) (N := 8) hG dX5_spreadFromStart_16 iX5_spreadFromStart_X5 0 (by decide) mX5_spreadFromStart_2 rfl rfl 0 rfl rfl ?_
    refine z_aload_n hG dX5_spreadFromStart_19 0 rfl ?_
    refine z_get (ci := 5) (C := RX5) (T := TX5) (N := 8) hG dX5_spreadFromStart_20 iX5_spreadFromStart_X5 7 (by decide) mX5_spreadFromStart_4 rfl rfl 0 rfl rfl ?_
    obtain ⟨v4, hv, hres⟩ := z_bind hres
    refine z_callV (As := [.int gK]) (rest := [.ref aN, .ref aF]) (wr := [(aH, .inr (5, [.ref aN, .ref aF, .ref aA, .ref aC, .ref aO, .ref aX, .int gB, .int gK])), (aF, .inr (2, [.ref aFl, .ref aFc, .ref aFq, .int fM])), (aFl, .inl (K.2 0, 12, .inl fL)), (aFc, .inl (K.2 0, 12, .inl fC)), (aFq, .inl (K.2 0, 12, .inl fQ))]) (ws' := (fun _ : Unit => [(aH, .inr (5, [.ref aN, .ref aF, .ref aA, .ref aC, .ref aO, .ref aX, .int gB, .int gK])), (aN, .inr (3, [.ref aNk, .ref aNn, .int nS])), (aNk, .inl (K.2 0, 12, .inl nK)), (aNn, .inl (K.2 0, 12, .inl nN)), (aF, .inr (2, [.ref aFl, .ref aFc, .ref aFq, .int fM])), (aFl, .inl (K.2 0, 12, .inl fL)), (aFc, .inl (K.2 0, 12, .inl fC)), (aFq, .inl (K.2 0, 12, .inl fQ))])) (stk := (fun _ : Unit => [.int v4, .ref aN, .ref aF])) (kc' := 0) (ks' := 0) (n := 1) (C := RX3) (ci := 3) hG dX5_spreadFromStart_23 (kX3_find _ K aN aNk aNn nS nK nN gK v4 hv) gX5_spreadFromStart_X3_find rfl rfl rfl ⟨rfl, by decide, by decide, rfl⟩ ⟨by decide, by decide⟩ (Nat.le_of_ble_eq_true rfl) ⟨(Nat.le_of_ble_eq_true rfl), (Nat.le_of_ble_eq_true rfl)⟩ [1, 2, 3] [0, 4, 5, 6, 7] [0, 5, 6, 7, 1, 2, 3, 4] rfl rfl rfl rfl (by decide) rfl (fun _ => rfl) (fun _ => rfl) rfl rfl rfl 0 rfl rfl rfl rfl (fun _ => ?_)
    refine z_goto 30 hG dX5_spreadFromStart_26 (by decide) ?_
    obtain rfl := Option.some.inj hres
    exact J

theorem dX5_countThrough_0 : decode cX5_countThrough 0 = .ok (.aload_n 0, 1) := by decide +kernel
theorem dX5_countThrough_1 : decode cX5_countThrough 1 = .ok (.getfield 19, 3) := by decide +kernel
theorem dX5_countThrough_4 : decode cX5_countThrough 4 = .ok (.getfield 137, 3) := by decide +kernel
theorem dX5_countThrough_7 : decode cX5_countThrough 7 = .ok (.iload_n 2, 1) := by decide +kernel
theorem dX5_countThrough_8 : decode cX5_countThrough 8 = .ok (.iaload, 1) := by decide +kernel
theorem dX5_countThrough_9 : decode cX5_countThrough 9 = .ok (.istore_n 3, 1) := by decide +kernel
theorem dX5_countThrough_10 : decode cX5_countThrough 10 = .ok (.aload_n 0, 1) := by decide +kernel
theorem dX5_countThrough_11 : decode cX5_countThrough 11 = .ok (.getfield 23, 3) := by decide +kernel
theorem dX5_countThrough_14 : decode cX5_countThrough 14 = .ok (.getfield 137, 3) := by decide +kernel
theorem dX5_countThrough_17 : decode cX5_countThrough 17 = .ok (.iload_n 2, 1) := by decide +kernel
theorem dX5_countThrough_18 : decode cX5_countThrough 18 = .ok (.iaload, 1) := by decide +kernel
theorem dX5_countThrough_19 : decode cX5_countThrough 19 = .ok (.istore 4, 2) := by decide +kernel
theorem dX5_countThrough_21 : decode cX5_countThrough 21 = .ok (.iload_n 3, 1) := by decide +kernel
theorem dX5_countThrough_22 : decode cX5_countThrough 22 = .ok (.iconst (-1), 1) := by decide +kernel
theorem dX5_countThrough_23 : decode cX5_countThrough 23 = .ok (.if_icmp .eq 25, 3) := by decide +kernel
theorem dX5_countThrough_26 : decode cX5_countThrough 26 = .ok (.iload 4, 2) := by decide +kernel
theorem dX5_countThrough_28 : decode cX5_countThrough 28 = .ok (.iconst (-1), 1) := by decide +kernel
theorem dX5_countThrough_29 : decode cX5_countThrough 29 = .ok (.if_icmp .eq 19, 3) := by decide +kernel
theorem dX5_countThrough_32 : decode cX5_countThrough 32 = .ok (.iload_n 3, 1) := by decide +kernel
theorem dX5_countThrough_33 : decode cX5_countThrough 33 = .ok (.iload 4, 2) := by decide +kernel
theorem dX5_countThrough_35 : decode cX5_countThrough 35 = .ok (.iadd, 1) := by decide +kernel
theorem dX5_countThrough_36 : decode cX5_countThrough 36 = .ok (.aload_n 0, 1) := by decide +kernel
theorem dX5_countThrough_37 : decode cX5_countThrough 37 = .ok (.getfield 19, 3) := by decide +kernel
theorem dX5_countThrough_40 : decode cX5_countThrough 40 = .ok (.getfield 137, 3) := by decide +kernel
theorem dX5_countThrough_43 : decode cX5_countThrough 43 = .ok (.iload_n 1, 1) := by decide +kernel
theorem dX5_countThrough_44 : decode cX5_countThrough 44 = .ok (.iaload, 1) := by decide +kernel
theorem dX5_countThrough_45 : decode cX5_countThrough 45 = .ok (.if_icmp .eq 5, 3) := by decide +kernel
theorem dX5_countThrough_48 : decode cX5_countThrough 48 = .ok (.iconst 0, 1) := by decide +kernel
theorem dX5_countThrough_49 : decode cX5_countThrough 49 = .ok (.ireturn, 1) := by decide +kernel
theorem dX5_countThrough_50 : decode cX5_countThrough 50 = .ok (.aload_n 0, 1) := by decide +kernel
theorem dX5_countThrough_51 : decode cX5_countThrough 51 = .ok (.getfield 19, 3) := by decide +kernel
theorem dX5_countThrough_54 : decode cX5_countThrough 54 = .ok (.getfield 151, 3) := by decide +kernel
theorem dX5_countThrough_57 : decode cX5_countThrough 57 = .ok (.iload_n 2, 1) := by decide +kernel
theorem dX5_countThrough_58 : decode cX5_countThrough 58 = .ok (.iaload, 1) := by decide +kernel
theorem dX5_countThrough_59 : decode cX5_countThrough 59 = .ok (.aload_n 0, 1) := by decide +kernel
theorem dX5_countThrough_60 : decode cX5_countThrough 60 = .ok (.getfield 23, 3) := by decide +kernel
theorem dX5_countThrough_63 : decode cX5_countThrough 63 = .ok (.getfield 151, 3) := by decide +kernel
theorem dX5_countThrough_66 : decode cX5_countThrough 66 = .ok (.iload_n 2, 1) := by decide +kernel
theorem dX5_countThrough_67 : decode cX5_countThrough 67 = .ok (.iaload, 1) := by decide +kernel
theorem dX5_countThrough_68 : decode cX5_countThrough 68 = .ok (.imul, 1) := by decide +kernel
theorem dX5_countThrough_69 : decode cX5_countThrough 69 = .ok (.ireturn, 1) := by decide +kernel
theorem mX5_countThrough_0 : Cond.fieldLink RX5 19 "Layerways" "fromStart" "LLayerways$Layers;" ∈ wsX5_countThrough := by decide +kernel
theorem iX5_countThrough_X5 : ∀ w ∈ u_ws RX5 TX5 8, w ∈ wsX5_countThrough := by decide +kernel
theorem mX5_countThrough_2 : Cond.fieldLink RX5 137 "Layerways$Layers" "lengths" "[I" ∈ wsX5_countThrough := by decide +kernel
theorem iX5_countThrough_X2 : ∀ w ∈ u_ws RX2 TX2 4, w ∈ wsX5_countThrough := by decide +kernel
theorem mX5_countThrough_4 : Cond.fieldLink RX5 23 "Layerways" "aside" "LLayerways$Layers;" ∈ wsX5_countThrough := by decide +kernel
theorem mX5_countThrough_5 : Cond.fieldLink RX5 151 "Layerways$Layers" "counts" "[I" ∈ wsX5_countThrough := by decide +kernel
def fX5_countThrough (fL : (Nat → Int32)) (fC : (Nat → Int32)) (wL : (Nat → Int32)) (wC : (Nat → Int32)) (p0 : Int32) (p1 : Int32) : Option (Int32) := if zin p1 12 then if zin p1 12 then if (fL p1.toNatClampNeg) = (-1) then some 0 else if (wL p1.toNatClampNeg) = (-1) then some 0 else if zin p0 12 then if ((fL p1.toNatClampNeg) + (wL p1.toNatClampNeg)) = (fL p0.toNatClampNeg) then if zin p1 12 then if zin p1 12 then some ((fC p1.toNatClampNeg) * (wC p1.toNatClampNeg)) else none else none else some 0 else none else none else none
set_option maxRecDepth 100000 in
set_option maxHeartbeats 4000000 in
theorem kX5_countThrough (l : Launch) (K : zK) (aH : Nat) (aF : Nat) (aFl : Nat) (aFc : Nat) (aFq : Nat) (aA : Nat) (aAl : Nat) (aAc : Nat) (aAq : Nat) (aN : Nat) (aC : Nat) (aO : Nat) (aX : Nat)  (gB : Int32) (gK : Int32) (fM : Int32) (fL : (Nat → Int32)) (fC : (Nat → Int32)) (fQ : (Nat → Int32)) (wM : Int32) (wL : (Nat → Int32)) (wC : (Nat → Int32)) (wQ : (Nat → Int32)) (p0 : Int32) (p1 : Int32) (r : Int32) (hres : fX5_countThrough fL fC wL wC p0 p1 = some r) : zM l K yX5_countThrough wsX5_countThrough ({ frames := 0, cells := 0, slots := 0, locals := 0 }) [.ref aH, .int p0, .int p1] [(aH, .inr (5, [.ref aN, .ref aF, .ref aA, .ref aC, .ref aO, .ref aX, .int gB, .int gK])), (aF, .inr (2, [.ref aFl, .ref aFc, .ref aFq, .int fM])), (aFl, .inl (K.2 0, 12, .inl fL)), (aFc, .inl (K.2 0, 12, .inl fC)), (aFq, .inl (K.2 0, 12, .inl fQ)), (aA, .inr (2, [.ref aAl, .ref aAc, .ref aAq, .int wM])), (aAl, .inl (K.2 0, 12, .inl wL)), (aAc, .inl (K.2 0, 12, .inl wC)), (aAq, .inl (K.2 0, 12, .inl wQ))] (fun _ : Unit => some (.int r)) (fun _ : Unit => [(aH, .inr (5, [.ref aN, .ref aF, .ref aA, .ref aC, .ref aO, .ref aX, .int gB, .int gK])), (aF, .inr (2, [.ref aFl, .ref aFc, .ref aFq, .int fM])), (aFl, .inl (K.2 0, 12, .inl fL)), (aFc, .inl (K.2 0, 12, .inl fC)), (aFq, .inl (K.2 0, 12, .inl fQ)), (aA, .inr (2, [.ref aAl, .ref aAc, .ref aAq, .int wM])), (aAl, .inl (K.2 0, 12, .inl wL)), (aAc, .inl (K.2 0, 12, .inl wC)), (aAq, .inl (K.2 0, 12, .inl wQ))]) 0 0 := by
  refine zM.intI (cc := cX5_countThrough) (maxL := 5) (ret := (some .int)) rfl (by decide) (Nat.le_of_ble_eq_true rfl) rfl ?_
  intro G hGl hG hN hE
  have hR : ∀ (pc : Nat) (lv : zL), decode cX5_countThrough pc = .ok (.ireturn, 1) → zj G pc lv [.int r] [(aH, .inr (5, [.ref aN, .ref aF, .ref aA, .ref aC, .ref aO, .ref aX, .int gB, .int gK])), (aF, .inr (2, [.ref aFl, .ref aFc, .ref aFq, .int fM])), (aFl, .inl (K.2 0, 12, .inl fL)), (aFc, .inl (K.2 0, 12, .inl fC)), (aFq, .inl (K.2 0, 12, .inl fQ)), (aA, .inr (2, [.ref aAl, .ref aAc, .ref aAq, .int wM])), (aAl, .inl (K.2 0, 12, .inl wL)), (aAc, .inl (K.2 0, 12, .inl wC)), (aAq, .inl (K.2 0, 12, .inl wQ))] 0 0 := fun pc lv d => hE () _ rfl pc lv d
  clear hE
  unfold fX5_countThrough at hres
  show zj G 0 [(0, .ref aH), (1, .int p0), (2, .int p1)] [] [(aH, .inr (5, [.ref aN, .ref aF, .ref aA, .ref aC, .ref aO, .ref aX, .int gB, .int gK])), (aF, .inr (2, [.ref aFl, .ref aFc, .ref aFq, .int fM])), (aFl, .inl (K.2 0, 12, .inl fL)), (aFc, .inl (K.2 0, 12, .inl fC)), (aFq, .inl (K.2 0, 12, .inl fQ)), (aA, .inr (2, [.ref aAl, .ref aAc, .ref aAq, .int wM])), (aAl, .inl (K.2 0, 12, .inl wL)), (aAc, .inl (K.2 0, 12, .inl wC)), (aAq, .inl (K.2 0, 12, .inl wQ))] 0 0
  refine z_aload_n hG dX5_countThrough_0 0 rfl ?_
  refine z_get (ci := 5) (C := RX5) (T := TX5) (N := 8) hG dX5_countThrough_1 iX5_countThrough_X5 1 (by decide) mX5_countThrough_0 rfl rfl 0 rfl rfl ?_
  refine z_get (ci := 2) (C := RX2) (T := TX2) (N := 4) hG dX5_countThrough_4 iX5_countThrough_X2 0 (by decide) mX5_countThrough_2 rfl rfl 1 rfl rfl ?_
  refine z_iload_n hG dX5_countThrough_7 2 rfl ?_
  obtain ⟨hg, hres⟩ := z_guard hres
  refine z_iald hG dX5_countThrough_8 2 rfl hg ?_
  refine z_istore_n (lv' := [(3, .int (fL p1.toNatClampNeg)), (0, .ref aH), (1, .int p0), (2, .int p1)]) hG dX5_countThrough_9 (by decide) rfl ?_
  refine z_aload_n hG dX5_countThrough_10 1 rfl ?_
  refine z_get (ci := 5) (C := RX5) (T := TX5) (N := 8) hG dX5_countThrough_11 iX5_countThrough_X5 2 (by decide) mX5_countThrough_4 rfl rfl 0 rfl rfl ?_
  refine z_get (ci := 2) (C := RX2) (T := TX2) (N := 4) hG dX5_countThrough_14 iX5_countThrough_X2 0 (by decide) mX5_countThrough_2 rfl rfl 5 rfl rfl ?_
  refine z_iload_n hG dX5_countThrough_17 3 rfl ?_
  obtain ⟨hg, hres⟩ := z_guard hres
  refine z_iald hG dX5_countThrough_18 6 rfl hg ?_
  refine z_istore (lv' := [(4, .int (wL p1.toNatClampNeg)), (3, .int (fL p1.toNatClampNeg)), (0, .ref aH), (1, .int p0), (2, .int p1)]) hG dX5_countThrough_19 (by decide) rfl ?_
  refine z_iload_n hG dX5_countThrough_21 1 rfl ?_
  refine z_iconst (-1) hG dX5_countThrough_22 (by decide) ?_
  refine z_icmp_eq 48 hG dX5_countThrough_23 (by decide) (fun c => ?_) (fun c => ?_)
  · replace hres := z_ifp c hres
    refine z_iconst 0 hG dX5_countThrough_48 (by decide) ?_
    obtain rfl := Option.some.inj hres
    exact (hR _ _ dX5_countThrough_49)
  · replace hres := z_ifn c hres
    refine z_iload hG dX5_countThrough_26 0 rfl ?_
    refine z_iconst (-1) hG dX5_countThrough_28 (by decide) ?_
    refine z_icmp_eq 48 hG dX5_countThrough_29 (by decide) (fun c => ?_) (fun c => ?_)
    · replace hres := z_ifp c hres
      refine z_iconst 0 hG dX5_countThrough_48 (by decide) ?_
      obtain rfl := Option.some.inj hres
      exact (hR _ _ dX5_countThrough_49)
    · replace hres := z_ifn c hres
      refine z_iload_n hG dX5_countThrough_32 1 rfl ?_
      refine z_iload hG dX5_countThrough_33 0 rfl ?_
      refine z_iadd hG dX5_countThrough_35 ?_
      refine z_aload_n hG dX5_countThrough_36 2 rfl ?_
      refine z_get (ci := 5) (C := RX5) (T := TX5) (N := 8) hG dX5_countThrough_37 iX5_countThrough_X5 1 (by decide) mX5_countThrough_0 rfl rfl 0 rfl rfl ?_
      refine z_get (ci := 2) (C := RX2) (T := TX2) (N := 4) hG dX5_countThrough_40 iX5_countThrough_X2 0 (by decide) mX5_countThrough_2 rfl rfl 1 rfl rfl ?_
      refine z_iload_n hG dX5_countThrough_43 3 rfl ?_
      obtain ⟨hg, hres⟩ := z_guard hres
      refine z_iald hG dX5_countThrough_44 2 rfl hg ?_
      refine z_icmp_eq 50 hG dX5_countThrough_45 (by decide) (fun c => ?_) (fun c => ?_)
      · replace hres := z_ifp c hres
        refine z_aload_n hG dX5_countThrough_50 2 rfl ?_
        refine z_get (ci := 5) (C := RX5) (T := TX5) (N := 8) hG dX5_countThrough_51 iX5_countThrough_X5 1 (by decide) mX5_countThrough_0 rfl rfl 0 rfl rfl ?_
        refine z_get (ci := 2) (C := RX2) (T := TX2) (N := 4) hG dX5_countThrough_54 iX5_countThrough_X2 1 (by decide) mX5_countThrough_5 rfl rfl 1 rfl rfl ?_
        refine z_iload_n hG dX5_countThrough_57 4 rfl ?_
        obtain ⟨hg, hres⟩ := z_guard hres
        refine z_iald hG dX5_countThrough_58 3 rfl hg ?_
        refine z_aload_n hG dX5_countThrough_59 2 rfl ?_
        refine z_get (ci := 5) (C := RX5) (T := TX5) (N := 8) hG dX5_countThrough_60 iX5_countThrough_X5 2 (by decide) mX5_countThrough_4 rfl rfl 0 rfl rfl ?_
        refine z_get (ci := 2) (C := RX2) (T := TX2) (N := 4) hG dX5_countThrough_63 iX5_countThrough_X2 1 (by decide) mX5_countThrough_5 rfl rfl 5 rfl rfl ?_
        refine z_iload_n hG dX5_countThrough_66 4 rfl ?_
        obtain ⟨hg, hres⟩ := z_guard hres
        refine z_iald hG dX5_countThrough_67 7 rfl hg ?_
        refine z_imul hG dX5_countThrough_68 ?_
        obtain rfl := Option.some.inj hres
        exact (hR _ _ dX5_countThrough_69)
      · replace hres := z_ifn c hres
        refine z_iconst 0 hG dX5_countThrough_48 (by decide) ?_
        obtain rfl := Option.some.inj hres
        exact (hR _ _ dX5_countThrough_49)

theorem dX5_leadsOn_0 : decode cX5_leadsOn 0 = .ok (.aload_n 0, 1) := by decide +kernel
theorem dX5_leadsOn_1 : decode cX5_leadsOn 1 = .ok (.getfield 10, 3) := by decide +kernel
theorem dX5_leadsOn_4 : decode cX5_leadsOn 4 = .ok (.iload_n 1, 1) := by decide +kernel
theorem dX5_leadsOn_5 : decode cX5_leadsOn 5 = .ok (.iload_n 2, 1) := by decide +kernel
theorem dX5_leadsOn_6 : decode cX5_leadsOn 6 = .ok (.invokevirtual 95, 3) := by decide +kernel
theorem dX5_leadsOn_9 : decode cX5_leadsOn 9 = .ok (.ifCond .eq 30, 3) := by decide +kernel
theorem dX5_leadsOn_12 : decode cX5_leadsOn 12 = .ok (.aload_n 0, 1) := by decide +kernel
theorem dX5_leadsOn_13 : decode cX5_leadsOn 13 = .ok (.getfield 23, 3) := by decide +kernel
theorem dX5_leadsOn_16 : decode cX5_leadsOn 16 = .ok (.getfield 137, 3) := by decide +kernel
theorem dX5_leadsOn_19 : decode cX5_leadsOn 19 = .ok (.iload_n 2, 1) := by decide +kernel
theorem dX5_leadsOn_20 : decode cX5_leadsOn 20 = .ok (.iaload, 1) := by decide +kernel
theorem dX5_leadsOn_21 : decode cX5_leadsOn 21 = .ok (.aload_n 0, 1) := by decide +kernel
theorem dX5_leadsOn_22 : decode cX5_leadsOn 22 = .ok (.getfield 23, 3) := by decide +kernel
theorem dX5_leadsOn_25 : decode cX5_leadsOn 25 = .ok (.getfield 137, 3) := by decide +kernel
theorem dX5_leadsOn_28 : decode cX5_leadsOn 28 = .ok (.iload_n 1, 1) := by decide +kernel
theorem dX5_leadsOn_29 : decode cX5_leadsOn 29 = .ok (.iaload, 1) := by decide +kernel
theorem dX5_leadsOn_30 : decode cX5_leadsOn 30 = .ok (.iconst 1, 1) := by decide +kernel
theorem dX5_leadsOn_31 : decode cX5_leadsOn 31 = .ok (.isub, 1) := by decide +kernel
theorem dX5_leadsOn_32 : decode cX5_leadsOn 32 = .ok (.if_icmp .ne 7, 3) := by decide +kernel
theorem dX5_leadsOn_35 : decode cX5_leadsOn 35 = .ok (.iconst 1, 1) := by decide +kernel
theorem dX5_leadsOn_36 : decode cX5_leadsOn 36 = .ok (.goto 4, 3) := by decide +kernel
theorem dX5_leadsOn_39 : decode cX5_leadsOn 39 = .ok (.iconst 0, 1) := by decide +kernel
theorem dX5_leadsOn_40 : decode cX5_leadsOn 40 = .ok (.ireturn, 1) := by decide +kernel
set_option maxRecDepth 20000 in
theorem ggX5_leadsOn_X3_joins : GoodIn wsX5_leadsOn wsX3_joins := goodIn_r _ [8, 9, 10, 11, 12, 25, 26, 27] (by decide +kernel) (by decide +kernel)
set_option maxRecDepth 20000 in
theorem gX5_leadsOn_X3_joins : GoodIn wsX5_leadsOn (wsV RX5 95 RX3 yX3_joins wsX3_joins) := goodIn_app (goodIn_of _ (by decide +kernel)) ggX5_leadsOn_X3_joins
theorem mX5_leadsOn_0 : Cond.fieldLink RX5 10 "Layerways" "net" "LLayerways$Net;" ∈ wsX5_leadsOn := by decide +kernel
theorem iX5_leadsOn_X5 : ∀ w ∈ u_ws RX5 TX5 8, w ∈ wsX5_leadsOn := by decide +kernel
theorem mX5_leadsOn_2 : Cond.fieldLink RX5 23 "Layerways" "aside" "LLayerways$Layers;" ∈ wsX5_leadsOn := by decide +kernel
theorem mX5_leadsOn_3 : Cond.fieldLink RX5 137 "Layerways$Layers" "lengths" "[I" ∈ wsX5_leadsOn := by decide +kernel
theorem iX5_leadsOn_X2 : ∀ w ∈ u_ws RX2 TX2 4, w ∈ wsX5_leadsOn := by decide +kernel
def fX5_leadsOn (nN : (Nat → Int32)) (wL : (Nat → Int32)) (p0 : Int32) (p1 : Int32) : Option (Int32) := (fX3_joins nN p0 p1).bind fun v1 => if v1 = 0 then some 0 else if zin p1 12 then if zin p0 12 then if (wL p1.toNatClampNeg) = ((wL p0.toNatClampNeg) - 1) then some 1 else some 0 else none else none
set_option maxRecDepth 100000 in
set_option maxHeartbeats 4000000 in
theorem kX5_leadsOn (l : Launch) (K : zK) (aH : Nat) (aN : Nat) (aNk : Nat) (aNn : Nat) (aA : Nat) (aAl : Nat) (aAc : Nat) (aAq : Nat) (aF : Nat) (aC : Nat) (aO : Nat) (aX : Nat)  (gB : Int32) (gK : Int32) (nS : Int32) (nK : (Nat → Int32)) (nN : (Nat → Int32)) (wM : Int32) (wL : (Nat → Int32)) (wC : (Nat → Int32)) (wQ : (Nat → Int32)) (p0 : Int32) (p1 : Int32) (r : Int32) (hres : fX5_leadsOn nN wL p0 p1 = some r) : zM l K yX5_leadsOn wsX5_leadsOn ({ frames := 2, cells := 0, slots := 0, locals := 43 }) [.ref aH, .int p0, .int p1] [(aH, .inr (5, [.ref aN, .ref aF, .ref aA, .ref aC, .ref aO, .ref aX, .int gB, .int gK])), (aN, .inr (3, [.ref aNk, .ref aNn, .int nS])), (aNk, .inl (K.2 0, 12, .inl nK)), (aNn, .inl (K.2 0, 12, .inl nN)), (aA, .inr (2, [.ref aAl, .ref aAc, .ref aAq, .int wM])), (aAl, .inl (K.2 0, 12, .inl wL)), (aAc, .inl (K.2 0, 12, .inl wC)), (aAq, .inl (K.2 0, 12, .inl wQ))] (fun _ : Unit => some (.int r)) (fun _ : Unit => [(aH, .inr (5, [.ref aN, .ref aF, .ref aA, .ref aC, .ref aO, .ref aX, .int gB, .int gK])), (aN, .inr (3, [.ref aNk, .ref aNn, .int nS])), (aNk, .inl (K.2 0, 12, .inl nK)), (aNn, .inl (K.2 0, 12, .inl nN)), (aA, .inr (2, [.ref aAl, .ref aAc, .ref aAq, .int wM])), (aAl, .inl (K.2 0, 12, .inl wL)), (aAc, .inl (K.2 0, 12, .inl wC)), (aAq, .inl (K.2 0, 12, .inl wQ))]) 0 0 := by
  refine zM.intZ (cc := cX5_leadsOn) (maxL := 3) (ret := (some .boolean)) rfl (by decide) (Nat.le_of_ble_eq_true rfl) rfl ?_
  intro G hGl hG hN hE
  have hR : ∀ (pc : Nat) (lv : zL), narrow .boolean (.int r) = .int r → decode cX5_leadsOn pc = .ok (.ireturn, 1) → zj G pc lv [.int r] [(aH, .inr (5, [.ref aN, .ref aF, .ref aA, .ref aC, .ref aO, .ref aX, .int gB, .int gK])), (aN, .inr (3, [.ref aNk, .ref aNn, .int nS])), (aNk, .inl (K.2 0, 12, .inl nK)), (aNn, .inl (K.2 0, 12, .inl nN)), (aA, .inr (2, [.ref aAl, .ref aAc, .ref aAq, .int wM])), (aAl, .inl (K.2 0, 12, .inl wL)), (aAc, .inl (K.2 0, 12, .inl wC)), (aAq, .inl (K.2 0, 12, .inl wQ))] 0 0 := fun pc lv n d => hE () _ rfl n pc lv d
  clear hE
  unfold fX5_leadsOn at hres
  show zj G 0 [(0, .ref aH), (1, .int p0), (2, .int p1)] [] [(aH, .inr (5, [.ref aN, .ref aF, .ref aA, .ref aC, .ref aO, .ref aX, .int gB, .int gK])), (aN, .inr (3, [.ref aNk, .ref aNn, .int nS])), (aNk, .inl (K.2 0, 12, .inl nK)), (aNn, .inl (K.2 0, 12, .inl nN)), (aA, .inr (2, [.ref aAl, .ref aAc, .ref aAq, .int wM])), (aAl, .inl (K.2 0, 12, .inl wL)), (aAc, .inl (K.2 0, 12, .inl wC)), (aAq, .inl (K.2 0, 12, .inl wQ))] 0 0
  refine z_aload_n hG dX5_leadsOn_0 0 rfl ?_
  refine z_get (ci := 5) (C := RX5) (T := TX5) (N := 8) hG dX5_leadsOn_1 iX5_leadsOn_X5 0 (by decide) mX5_leadsOn_0 rfl rfl 0 rfl rfl ?_
  refine z_iload_n hG dX5_leadsOn_4 1 rfl ?_
  refine z_iload_n hG dX5_leadsOn_5 2 rfl ?_
  obtain ⟨v1, hv, hres⟩ := z_bind hres
  refine z_callV (As := [.int p0, .int p1]) (rest := []) (wr := [(aH, .inr (5, [.ref aN, .ref aF, .ref aA, .ref aC, .ref aO, .ref aX, .int gB, .int gK])), (aA, .inr (2, [.ref aAl, .ref aAc, .ref aAq, .int wM])), (aAl, .inl (K.2 0, 12, .inl wL)), (aAc, .inl (K.2 0, 12, .inl wC)), (aAq, .inl (K.2 0, 12, .inl wQ))]) (ws' := (fun _ : Unit => [(aH, .inr (5, [.ref aN, .ref aF, .ref aA, .ref aC, .ref aO, .ref aX, .int gB, .int gK])), (aN, .inr (3, [.ref aNk, .ref aNn, .int nS])), (aNk, .inl (K.2 0, 12, .inl nK)), (aNn, .inl (K.2 0, 12, .inl nN)), (aA, .inr (2, [.ref aAl, .ref aAc, .ref aAq, .int wM])), (aAl, .inl (K.2 0, 12, .inl wL)), (aAc, .inl (K.2 0, 12, .inl wC)), (aAq, .inl (K.2 0, 12, .inl wQ))])) (stk := (fun _ : Unit => [.int v1])) (kc' := 0) (ks' := 0) (n := 2) (C := RX3) (ci := 3) hG dX5_leadsOn_6 (kX3_joins _ K aN aNk aNn nS nK nN p0 p1 v1 hv) gX5_leadsOn_X3_joins rfl rfl rfl ⟨rfl, by decide, by decide, rfl⟩ ⟨by decide, by decide⟩ (Nat.le_of_ble_eq_true rfl) ⟨(Nat.le_of_ble_eq_true rfl), (Nat.le_of_ble_eq_true rfl)⟩ [1, 2, 3] [0, 4, 5, 6, 7] [0, 5, 6, 7, 1, 2, 3, 4] rfl rfl rfl rfl (by decide) rfl (fun _ => rfl) (fun _ => rfl) rfl rfl rfl 0 rfl rfl rfl rfl (fun _ => ?_)
  refine z_if_eq 39 hG dX5_leadsOn_9 (by decide) (fun c => ?_) (fun c => ?_)
  · replace hres := z_ifp c hres
    refine z_iconst 0 hG dX5_leadsOn_39 (by decide) ?_
    obtain rfl := Option.some.inj hres
    exact (hR _ _ (z_nar01 (Or.inl rfl)) dX5_leadsOn_40)
  · replace hres := z_ifn c hres
    refine z_aload_n hG dX5_leadsOn_12 0 rfl ?_
    refine z_get (ci := 5) (C := RX5) (T := TX5) (N := 8) hG dX5_leadsOn_13 iX5_leadsOn_X5 2 (by decide) mX5_leadsOn_2 rfl rfl 0 rfl rfl ?_
    refine z_get (ci := 2) (C := RX2) (T := TX2) (N := 4) hG dX5_leadsOn_16 iX5_leadsOn_X2 0 (by decide) mX5_leadsOn_3 rfl rfl 4 rfl rfl ?_
    refine z_iload_n hG dX5_leadsOn_19 2 rfl ?_
    obtain ⟨hg, hres⟩ := z_guard hres
    refine z_iald hG dX5_leadsOn_20 5 rfl hg ?_
    refine z_aload_n hG dX5_leadsOn_21 0 rfl ?_
    refine z_get (ci := 5) (C := RX5) (T := TX5) (N := 8) hG dX5_leadsOn_22 iX5_leadsOn_X5 2 (by decide) mX5_leadsOn_2 rfl rfl 0 rfl rfl ?_
    refine z_get (ci := 2) (C := RX2) (T := TX2) (N := 4) hG dX5_leadsOn_25 iX5_leadsOn_X2 0 (by decide) mX5_leadsOn_3 rfl rfl 4 rfl rfl ?_
    refine z_iload_n hG dX5_leadsOn_28 1 rfl ?_
    obtain ⟨hg, hres⟩ := z_guard hres
    refine z_iald hG dX5_leadsOn_29 5 rfl hg ?_
    refine z_iconst 1 hG dX5_leadsOn_30 (by decide) ?_
    refine z_isub hG dX5_leadsOn_31 ?_
    refine z_icmp_ne 39 hG dX5_leadsOn_32 (by decide) (fun c => ?_) (fun c => ?_)
    · replace hres := z_ifn c hres
      refine z_iconst 0 hG dX5_leadsOn_39 (by decide) ?_
      obtain rfl := Option.some.inj hres
      exact (hR _ _ (z_nar01 (Or.inl rfl)) dX5_leadsOn_40)
    · replace hres := z_ifp c hres
      refine z_iconst 1 hG dX5_leadsOn_35 (by decide) ?_
      refine z_goto 40 hG dX5_leadsOn_36 (by decide) ?_
      obtain rfl := Option.some.inj hres
      exact (hR _ _ (z_nar01 (Or.inr rfl)) dX5_leadsOn_40)

theorem dX5_goAlong_0 : decode cX5_goAlong 0 = .ok (.aload_n 0, 1) := by decide +kernel
theorem dX5_goAlong_1 : decode cX5_goAlong 1 = .ok (.getfield 19, 3) := by decide +kernel
theorem dX5_goAlong_4 : decode cX5_goAlong 4 = .ok (.getfield 148, 3) := by decide +kernel
theorem dX5_goAlong_7 : decode cX5_goAlong 7 = .ok (.iconst 0, 1) := by decide +kernel
theorem dX5_goAlong_8 : decode cX5_goAlong 8 = .ok (.iaload, 1) := by decide +kernel
theorem dX5_goAlong_9 : decode cX5_goAlong 9 = .ok (.istore_n 3, 1) := by decide +kernel
theorem dX5_goAlong_10 : decode cX5_goAlong 10 = .ok (.iload_n 1, 1) := by decide +kernel
theorem dX5_goAlong_11 : decode cX5_goAlong 11 = .ok (.istore 4, 2) := by decide +kernel
theorem dX5_goAlong_13 : decode cX5_goAlong 13 = .ok (.iconst 0, 1) := by decide +kernel
theorem dX5_goAlong_14 : decode cX5_goAlong 14 = .ok (.istore 5, 2) := by decide +kernel
theorem dX5_goAlong_16 : decode cX5_goAlong 16 = .ok (.iload 5, 2) := by decide +kernel
theorem dX5_goAlong_18 : decode cX5_goAlong 18 = .ok (.iload_n 2, 1) := by decide +kernel
theorem dX5_goAlong_19 : decode cX5_goAlong 19 = .ok (.if_icmp .ge 85, 3) := by decide +kernel
theorem dX5_goAlong_22 : decode cX5_goAlong 22 = .ok (.iconst 0, 1) := by decide +kernel
theorem dX5_goAlong_23 : decode cX5_goAlong 23 = .ok (.istore 6, 2) := by decide +kernel
theorem dX5_goAlong_25 : decode cX5_goAlong 25 = .ok (.iload 6, 2) := by decide +kernel
theorem dX5_goAlong_27 : decode cX5_goAlong 27 = .ok (.aload_n 0, 1) := by decide +kernel
theorem dX5_goAlong_28 : decode cX5_goAlong 28 = .ok (.getfield 10, 3) := by decide +kernel
theorem dX5_goAlong_31 : decode cX5_goAlong 31 = .ok (.getfield 66, 3) := by decide +kernel
theorem dX5_goAlong_34 : decode cX5_goAlong 34 = .ok (.iconst 1, 1) := by decide +kernel
theorem dX5_goAlong_35 : decode cX5_goAlong 35 = .ok (.isub, 1) := by decide +kernel
theorem dX5_goAlong_36 : decode cX5_goAlong 36 = .ok (.if_icmp .ge 59, 3) := by decide +kernel
theorem dX5_goAlong_39 : decode cX5_goAlong 39 = .ok (.aload_n 0, 1) := by decide +kernel
theorem dX5_goAlong_40 : decode cX5_goAlong 40 = .ok (.iload_n 3, 1) := by decide +kernel
theorem dX5_goAlong_41 : decode cX5_goAlong 41 = .ok (.iload 6, 2) := by decide +kernel
theorem dX5_goAlong_43 : decode cX5_goAlong 43 = .ok (.invokevirtual 238, 3) := by decide +kernel
theorem dX5_goAlong_46 : decode cX5_goAlong 46 = .ok (.ifCond .eq 18, 3) := by decide +kernel
theorem dX5_goAlong_49 : decode cX5_goAlong 49 = .ok (.iload 4, 2) := by decide +kernel
theorem dX5_goAlong_51 : decode cX5_goAlong 51 = .ok (.aload_n 0, 1) := by decide +kernel
theorem dX5_goAlong_52 : decode cX5_goAlong 52 = .ok (.getfield 23, 3) := by decide +kernel
theorem dX5_goAlong_55 : decode cX5_goAlong 55 = .ok (.getfield 151, 3) := by decide +kernel
theorem dX5_goAlong_58 : decode cX5_goAlong 58 = .ok (.iload 6, 2) := by decide +kernel
theorem dX5_goAlong_60 : decode cX5_goAlong 60 = .ok (.iaload, 1) := by decide +kernel
theorem dX5_goAlong_61 : decode cX5_goAlong 61 = .ok (.if_icmp .lt 34, 3) := by decide +kernel
theorem dX5_goAlong_64 : decode cX5_goAlong 64 = .ok (.aload_n 0, 1) := by decide +kernel
theorem dX5_goAlong_65 : decode cX5_goAlong 65 = .ok (.iload_n 3, 1) := by decide +kernel
theorem dX5_goAlong_66 : decode cX5_goAlong 66 = .ok (.iload 6, 2) := by decide +kernel
theorem dX5_goAlong_68 : decode cX5_goAlong 68 = .ok (.invokevirtual 238, 3) := by decide +kernel
theorem dX5_goAlong_71 : decode cX5_goAlong 71 = .ok (.ifCond .eq 18, 3) := by decide +kernel
theorem dX5_goAlong_74 : decode cX5_goAlong 74 = .ok (.iload 4, 2) := by decide +kernel
theorem dX5_goAlong_76 : decode cX5_goAlong 76 = .ok (.aload_n 0, 1) := by decide +kernel
theorem dX5_goAlong_77 : decode cX5_goAlong 77 = .ok (.getfield 23, 3) := by decide +kernel
theorem dX5_goAlong_80 : decode cX5_goAlong 80 = .ok (.getfield 151, 3) := by decide +kernel
theorem dX5_goAlong_83 : decode cX5_goAlong 83 = .ok (.iload 6, 2) := by decide +kernel
theorem dX5_goAlong_85 : decode cX5_goAlong 85 = .ok (.iaload, 1) := by decide +kernel
theorem dX5_goAlong_86 : decode cX5_goAlong 86 = .ok (.isub, 1) := by decide +kernel
theorem dX5_goAlong_87 : decode cX5_goAlong 87 = .ok (.istore 4, 2) := by decide +kernel
theorem dX5_goAlong_89 : decode cX5_goAlong 89 = .ok (.iinc 6 1, 3) := by decide +kernel
theorem dX5_goAlong_92 : decode cX5_goAlong 92 = .ok (.goto (-67), 3) := by decide +kernel
theorem dX5_goAlong_95 : decode cX5_goAlong 95 = .ok (.iload 6, 2) := by decide +kernel
theorem dX5_goAlong_97 : decode cX5_goAlong 97 = .ok (.istore_n 3, 1) := by decide +kernel
theorem dX5_goAlong_98 : decode cX5_goAlong 98 = .ok (.iinc 5 1, 3) := by decide +kernel
theorem dX5_goAlong_101 : decode cX5_goAlong 101 = .ok (.goto (-85), 3) := by decide +kernel
theorem dX5_goAlong_104 : decode cX5_goAlong 104 = .ok (.iload_n 3, 1) := by decide +kernel
theorem dX5_goAlong_105 : decode cX5_goAlong 105 = .ok (.ireturn, 1) := by decide +kernel
set_option maxRecDepth 20000 in
theorem ggX5_goAlong_X5_leadsOn : GoodIn wsX5_goAlong wsX5_leadsOn := goodIn_r _ [11, 3, 5, 12, 13, 14, 15, 16, 17, 18, 19, 10, 20, 21, 22, 23, 24, 25, 26, 27, 28, 29, 30, 31, 32, 33, 34, 35] (by decide +kernel) (by decide +kernel)
set_option maxRecDepth 20000 in
theorem gX5_goAlong_X5_leadsOn : GoodIn wsX5_goAlong (wsV RX5 238 RX5 yX5_leadsOn wsX5_leadsOn) := goodIn_app (goodIn_of _ (by decide +kernel)) ggX5_goAlong_X5_leadsOn
theorem mX5_goAlong_0 : Cond.fieldLink RX5 19 "Layerways" "fromStart" "LLayerways$Layers;" ∈ wsX5_goAlong := by decide +kernel
theorem iX5_goAlong_X5 : ∀ w ∈ u_ws RX5 TX5 8, w ∈ wsX5_goAlong := by decide +kernel
theorem mX5_goAlong_2 : Cond.fieldLink RX5 148 "Layerways$Layers" "queue" "[I" ∈ wsX5_goAlong := by decide +kernel
theorem iX5_goAlong_X2 : ∀ w ∈ u_ws RX2 TX2 4, w ∈ wsX5_goAlong := by decide +kernel
theorem mX5_goAlong_4 : Cond.fieldLink RX5 10 "Layerways" "net" "LLayerways$Net;" ∈ wsX5_goAlong := by decide +kernel
theorem mX5_goAlong_5 : Cond.fieldLink RX5 66 "Layerways$Net" "size" "I" ∈ wsX5_goAlong := by decide +kernel
theorem iX5_goAlong_X3 : ∀ w ∈ u_ws RX3 TX3 3, w ∈ wsX5_goAlong := by decide +kernel
theorem mX5_goAlong_7 : Cond.fieldLink RX5 23 "Layerways" "aside" "LLayerways$Layers;" ∈ wsX5_goAlong := by decide +kernel
theorem mX5_goAlong_8 : Cond.fieldLink RX5 151 "Layerways$Layers" "counts" "[I" ∈ wsX5_goAlong := by decide +kernel
def sX5_goAlong_25 (nS : Int32) (nN : (Nat → Int32)) (wL : (Nat → Int32)) (wC : (Nat → Int32)) (s27 : Int32 × Int32 × Int32) (s37 : Int32 × Int32) : Option ((Int32 × Int32) ⊕ (Int32 × Int32)) := if (nS - 1) ≤ s37.2 then some (.inl (s37.1, s37.2)) else (fX5_leadsOn nN wL s27.1 s37.2).bind fun v41 => if v41 = 0 then (fX5_leadsOn nN wL s27.1 s37.2).bind fun v42 => if v42 = 0 then some (.inr (s37.1, (s37.2 + 1))) else if zin s37.2 12 then some (.inr ((s37.1 - (wC s37.2.toNatClampNeg)), (s37.2 + 1))) else none else if zin s37.2 12 then if s37.1 < (wC s37.2.toNatClampNeg) then some (.inl (s37.1, s37.2)) else (fX5_leadsOn nN wL s27.1 s37.2).bind fun v43 => if v43 = 0 then some (.inr (s37.1, (s37.2 + 1))) else if zin s37.2 12 then some (.inr ((s37.1 - (wC s37.2.toNatClampNeg)), (s37.2 + 1))) else none else none
def sX5_goAlong_16 (nS : Int32) (nN : (Nat → Int32)) (wL : (Nat → Int32)) (wC : (Nat → Int32)) (p1 : Int32) (s27 : Int32 × Int32 × Int32) : Option ((Int32 × Int32 × Int32) ⊕ (Int32 × Int32 × Int32)) := if p1 ≤ s27.2.2 then some (.inl (s27.1, s27.2.1, s27.2.2)) else (zloop (sX5_goAlong_25 nS nN wL wC s27) 32 (s27.2.1, 0)).bind fun e39 => some (.inr (e39.2, e39.1, (s27.2.2 + 1)))
def fX5_goAlong (nS : Int32) (nN : (Nat → Int32)) (fQ : (Nat → Int32)) (wL : (Nat → Int32)) (wC : (Nat → Int32)) (p0 : Int32) (p1 : Int32) : Option (Int32) := if zin 0 12 then (zloop (sX5_goAlong_16 nS nN wL wC p1) 32 ((fQ (0 : Int32).toNatClampNeg), p0, 0)).bind fun e29 => some e29.1 else none
set_option maxRecDepth 100000 in
set_option maxHeartbeats 4000000 in
theorem kX5_goAlong (l : Launch) (K : zK) (aH : Nat) (aN : Nat) (aNk : Nat) (aNn : Nat) (aF : Nat) (aFl : Nat) (aFc : Nat) (aFq : Nat) (aA : Nat) (aAl : Nat) (aAc : Nat) (aAq : Nat) (aC : Nat) (aO : Nat) (aX : Nat)  (gB : Int32) (gK : Int32) (nS : Int32) (nK : (Nat → Int32)) (nN : (Nat → Int32)) (fM : Int32) (fL : (Nat → Int32)) (fC : (Nat → Int32)) (fQ : (Nat → Int32)) (wM : Int32) (wL : (Nat → Int32)) (wC : (Nat → Int32)) (wQ : (Nat → Int32)) (p0 : Int32) (p1 : Int32) (r : Int32) (hres : fX5_goAlong nS nN fQ wL wC p0 p1 = some r) : zM l K yX5_goAlong wsX5_goAlong ({ frames := 3, cells := 0, slots := 0, locals := 65 }) [.ref aH, .int p0, .int p1] [(aH, .inr (5, [.ref aN, .ref aF, .ref aA, .ref aC, .ref aO, .ref aX, .int gB, .int gK])), (aN, .inr (3, [.ref aNk, .ref aNn, .int nS])), (aNk, .inl (K.2 0, 12, .inl nK)), (aNn, .inl (K.2 0, 12, .inl nN)), (aF, .inr (2, [.ref aFl, .ref aFc, .ref aFq, .int fM])), (aFl, .inl (K.2 0, 12, .inl fL)), (aFc, .inl (K.2 0, 12, .inl fC)), (aFq, .inl (K.2 0, 12, .inl fQ)), (aA, .inr (2, [.ref aAl, .ref aAc, .ref aAq, .int wM])), (aAl, .inl (K.2 0, 12, .inl wL)), (aAc, .inl (K.2 0, 12, .inl wC)), (aAq, .inl (K.2 0, 12, .inl wQ))] (fun _ : Unit => some (.int r)) (fun _ : Unit => [(aH, .inr (5, [.ref aN, .ref aF, .ref aA, .ref aC, .ref aO, .ref aX, .int gB, .int gK])), (aN, .inr (3, [.ref aNk, .ref aNn, .int nS])), (aNk, .inl (K.2 0, 12, .inl nK)), (aNn, .inl (K.2 0, 12, .inl nN)), (aF, .inr (2, [.ref aFl, .ref aFc, .ref aFq, .int fM])), (aFl, .inl (K.2 0, 12, .inl fL)), (aFc, .inl (K.2 0, 12, .inl fC)), (aFq, .inl (K.2 0, 12, .inl fQ)), (aA, .inr (2, [.ref aAl, .ref aAc, .ref aAq, .int wM])), (aAl, .inl (K.2 0, 12, .inl wL)), (aAc, .inl (K.2 0, 12, .inl wC)), (aAq, .inl (K.2 0, 12, .inl wQ))]) 0 0 := by
  refine zM.intI (cc := cX5_goAlong) (maxL := 7) (ret := (some .int)) rfl (by decide) (Nat.le_of_ble_eq_true rfl) rfl ?_
  intro G hGl hG hN hE
  have hR : ∀ (pc : Nat) (lv : zL), decode cX5_goAlong pc = .ok (.ireturn, 1) → zj G pc lv [.int r] [(aH, .inr (5, [.ref aN, .ref aF, .ref aA, .ref aC, .ref aO, .ref aX, .int gB, .int gK])), (aN, .inr (3, [.ref aNk, .ref aNn, .int nS])), (aNk, .inl (K.2 0, 12, .inl nK)), (aNn, .inl (K.2 0, 12, .inl nN)), (aF, .inr (2, [.ref aFl, .ref aFc, .ref aFq, .int fM])), (aFl, .inl (K.2 0, 12, .inl fL)), (aFc, .inl (K.2 0, 12, .inl fC)), (aFq, .inl (K.2 0, 12, .inl fQ)), (aA, .inr (2, [.ref aAl, .ref aAc, .ref aAq, .int wM])), (aAl, .inl (K.2 0, 12, .inl wL)), (aAc, .inl (K.2 0, 12, .inl wC)), (aAq, .inl (K.2 0, 12, .inl wQ))] 0 0 := fun pc lv d => hE () _ rfl pc lv d
  clear hE
  unfold fX5_goAlong at hres
  show zj G 0 [(0, .ref aH), (1, .int p0), (2, .int p1)] [] [(aH, .inr (5, [.ref aN, .ref aF, .ref aA, .ref aC, .ref aO, .ref aX, .int gB, .int gK])), (aN, .inr (3, [.ref aNk, .ref aNn, .int nS])), (aNk, .inl (K.2 0, 12, .inl nK)), (aNn, .inl (K.2 0, 12, .inl nN)), (aF, .inr (2, [.ref aFl, .ref aFc, .ref aFq, .int fM])), (aFl, .inl (K.2 0, 12, .inl fL)), (aFc, .inl (K.2 0, 12, .inl fC)), (aFq, .inl (K.2 0, 12, .inl fQ)), (aA, .inr (2, [.ref aAl, .ref aAc, .ref aAq, .int wM])), (aAl, .inl (K.2 0, 12, .inl wL)), (aAc, .inl (K.2 0, 12, .inl wC)), (aAq, .inl (K.2 0, 12, .inl wQ))] 0 0
  refine z_aload_n hG dX5_goAlong_0 0 rfl ?_
  refine z_get (ci := 5) (C := RX5) (T := TX5) (N := 8) hG dX5_goAlong_1 iX5_goAlong_X5 1 (by decide) mX5_goAlong_0 rfl rfl 0 rfl rfl ?_
  refine z_get (ci := 2) (C := RX2) (T := TX2) (N := 4) hG dX5_goAlong_4 iX5_goAlong_X2 2 (by decide) mX5_goAlong_2 rfl rfl 4 rfl rfl ?_
  refine z_iconst 0 hG dX5_goAlong_7 (by decide) ?_
  obtain ⟨hg, hres⟩ := z_guard hres
  refine z_iald hG dX5_goAlong_8 7 rfl hg ?_
  refine z_istore_n (lv' := [(3, .int (fQ (0 : Int32).toNatClampNeg)), (0, .ref aH), (1, .int p0), (2, .int p1)]) hG dX5_goAlong_9 (by decide) rfl ?_
  refine z_iload_n hG dX5_goAlong_10 2 rfl ?_
  refine z_istore (lv' := [(4, .int p0), (3, .int (fQ (0 : Int32).toNatClampNeg)), (0, .ref aH), (1, .int p0), (2, .int p1)]) hG dX5_goAlong_11 (by decide) rfl ?_
  refine z_iconst 0 hG dX5_goAlong_13 (by decide) ?_
  refine z_istore (lv' := [(5, .int 0), (4, .int p0), (3, .int (fQ (0 : Int32).toNatClampNeg)), (0, .ref aH), (1, .int p0), (2, .int p1)]) hG dX5_goAlong_14 (by decide) rfl ?_
  obtain ⟨e29, hx, hres⟩ := z_bind hres
  refine z_lv [3, 4, 5, 2, 1, 0] (lv' := [(0, .ref aH), (1, .int p0), (2, .int p1), (3, .int (fQ (0 : Int32).toNatClampNeg)), (4, .int p0), (5, .int 0)]) rfl ?_
  refine z_loop hx (fun s27 : Int32 × Int32 × Int32 => [(0, .ref aH), (1, .int p0), (2, .int p1), (3, .int s27.1), (4, .int s27.2.1), (5, .int s27.2.2)]) (fun s27 : Int32 × Int32 × Int32 => [(aH, .inr (5, [.ref aN, .ref aF, .ref aA, .ref aC, .ref aO, .ref aX, .int gB, .int gK])), (aN, .inr (3, [.ref aNk, .ref aNn, .int nS])), (aNk, .inl (K.2 0, 12, .inl nK)), (aNn, .inl (K.2 0, 12, .inl nN)), (aF, .inr (2, [.ref aFl, .ref aFc, .ref aFq, .int fM])), (aFl, .inl (K.2 0, 12, .inl fL)), (aFc, .inl (K.2 0, 12, .inl fC)), (aFq, .inl (K.2 0, 12, .inl fQ)), (aA, .inr (2, [.ref aAl, .ref aAc, .ref aAq, .int wM])), (aAl, .inl (K.2 0, 12, .inl wL)), (aAc, .inl (K.2 0, 12, .inl wC)), (aAq, .inl (K.2 0, 12, .inl wQ))]) (fun e29 : Int32 × Int32 × Int32 => zj G 104 [(0, .ref aH), (1, .int p0), (2, .int p1), (3, .int e29.1), (4, .int e29.2.1), (5, .int e29.2.2)] [] [(aH, .inr (5, [.ref aN, .ref aF, .ref aA, .ref aC, .ref aO, .ref aX, .int gB, .int gK])), (aN, .inr (3, [.ref aNk, .ref aNn, .int nS])), (aNk, .inl (K.2 0, 12, .inl nK)), (aNn, .inl (K.2 0, 12, .inl nN)), (aF, .inr (2, [.ref aFl, .ref aFc, .ref aFq, .int fM])), (aFl, .inl (K.2 0, 12, .inl fL)), (aFc, .inl (K.2 0, 12, .inl fC)), (aFq, .inl (K.2 0, 12, .inl fQ)), (aA, .inr (2, [.ref aAl, .ref aAc, .ref aAq, .int wM])), (aAl, .inl (K.2 0, 12, .inl wL)), (aAc, .inl (K.2 0, 12, .inl wC)), (aAq, .inl (K.2 0, 12, .inl wQ))] 0 0) ?_ ?_
  · refine z_iload_n hG dX5_goAlong_104 3 rfl ?_
    obtain rfl := Option.some.inj hres
    exact (hR _ _ dX5_goAlong_105)
  · intro s27 w28 hres hX hB
    unfold sX5_goAlong_16 at hres
    replace hB : ∀ (z0 : Int32) (z1 : Int32) (z2 : Int32), w28 = .inr (z0, z1, z2) → zj G 16 [(0, .ref aH), (1, .int p0), (2, .int p1), (3, .int z0), (4, .int z1), (5, .int z2)] [] [(aH, .inr (5, [.ref aN, .ref aF, .ref aA, .ref aC, .ref aO, .ref aX, .int gB, .int gK])), (aN, .inr (3, [.ref aNk, .ref aNn, .int nS])), (aNk, .inl (K.2 0, 12, .inl nK)), (aNn, .inl (K.2 0, 12, .inl nN)), (aF, .inr (2, [.ref aFl, .ref aFc, .ref aFq, .int fM])), (aFl, .inl (K.2 0, 12, .inl fL)), (aFc, .inl (K.2 0, 12, .inl fC)), (aFq, .inl (K.2 0, 12, .inl fQ)), (aA, .inr (2, [.ref aAl, .ref aAc, .ref aAq, .int wM])), (aAl, .inl (K.2 0, 12, .inl wL)), (aAc, .inl (K.2 0, 12, .inl wC)), (aAq, .inl (K.2 0, 12, .inl wQ))] 0 0 := fun z0 z1 z2 h => hB (z0, z1, z2) h
    replace hX : ∀ (z0 : Int32) (z1 : Int32) (z2 : Int32), w28 = .inl (z0, z1, z2) → zj G 104 [(0, .ref aH), (1, .int p0), (2, .int p1), (3, .int z0), (4, .int z1), (5, .int z2)] [] [(aH, .inr (5, [.ref aN, .ref aF, .ref aA, .ref aC, .ref aO, .ref aX, .int gB, .int gK])), (aN, .inr (3, [.ref aNk, .ref aNn, .int nS])), (aNk, .inl (K.2 0, 12, .inl nK)), (aNn, .inl (K.2 0, 12, .inl nN)), (aF, .inr (2, [.ref aFl, .ref aFc, .ref aFq, .int fM])), (aFl, .inl (K.2 0, 12, .inl fL)), (aFc, .inl (K.2 0, 12, .inl fC)), (aFq, .inl (K.2 0, 12, .inl fQ)), (aA, .inr (2, [.ref aAl, .ref aAc, .ref aAq, .int wM])), (aAl, .inl (K.2 0, 12, .inl wL)), (aAc, .inl (K.2 0, 12, .inl wC)), (aAq, .inl (K.2 0, 12, .inl wQ))] 0 0 := fun z0 z1 z2 h => hX (z0, z1, z2) h
    refine z_iload hG dX5_goAlong_16 5 rfl ?_
    refine z_iload_n hG dX5_goAlong_18 2 rfl ?_
    refine z_icmp_ge 104 hG dX5_goAlong_19 (by decide) (fun c => ?_) (fun c => ?_)
    · replace hres := z_ifp c hres
      exact (hX s27.1 s27.2.1 s27.2.2 (Option.some.inj hres).symm)
    · replace hres := z_ifn c hres
      refine z_iconst 0 hG dX5_goAlong_22 (by decide) ?_
      refine z_istore (lv' := [(6, .int 0), (0, .ref aH), (1, .int p0), (2, .int p1), (3, .int s27.1), (4, .int s27.2.1), (5, .int s27.2.2)]) hG dX5_goAlong_23 (by decide) rfl ?_
      obtain ⟨e39, hx, hres⟩ := z_bind hres
      refine z_lv [1, 2, 3, 4, 5, 6, 0] (lv' := [(0, .ref aH), (1, .int p0), (2, .int p1), (3, .int s27.1), (4, .int s27.2.1), (5, .int s27.2.2), (6, .int 0)]) rfl ?_
      refine z_loop hx (fun s37 : Int32 × Int32 => [(0, .ref aH), (1, .int p0), (2, .int p1), (3, .int s27.1), (4, .int s37.1), (5, .int s27.2.2), (6, .int s37.2)]) (fun s37 : Int32 × Int32 => [(aH, .inr (5, [.ref aN, .ref aF, .ref aA, .ref aC, .ref aO, .ref aX, .int gB, .int gK])), (aN, .inr (3, [.ref aNk, .ref aNn, .int nS])), (aNk, .inl (K.2 0, 12, .inl nK)), (aNn, .inl (K.2 0, 12, .inl nN)), (aF, .inr (2, [.ref aFl, .ref aFc, .ref aFq, .int fM])), (aFl, .inl (K.2 0, 12, .inl fL)), (aFc, .inl (K.2 0, 12, .inl fC)), (aFq, .inl (K.2 0, 12, .inl fQ)), (aA, .inr (2, [.ref aAl, .ref aAc, .ref aAq, .int wM])), (aAl, .inl (K.2 0, 12, .inl wL)), (aAc, .inl (K.2 0, 12, .inl wC)), (aAq, .inl (K.2 0, 12, .inl wQ))]) (fun e39 : Int32 × Int32 => zj G 95 [(0, .ref aH), (1, .int p0), (2, .int p1), (3, .int s27.1), (4, .int e39.1), (5, .int s27.2.2), (6, .int e39.2)] [] [(aH, .inr (5, [.ref aN, .ref aF, .ref aA, .ref aC, .ref aO, .ref aX, .int gB, .int gK])), (aN, .inr (3, [.ref aNk, .ref aNn, .int nS])), (aNk, .inl (K.2 0, 12, .inl nK)), (aNn, .inl (K.2 0, 12, .inl nN)), (aF, .inr (2, [.ref aFl, .ref aFc, .ref aFq, .int fM])), (aFl, .inl (K.2 0, 12, .inl fL)), (aFc, .inl (K.2 0, 12, .inl fC)), (aFq, .inl (K.2 0, 12, .inl fQ)), (aA, .inr (2, [.ref aAl, .ref aAc, .ref aAq, .int wM])), (aAl, .inl (K.2 0, 12, .inl wL)), (aAc, .inl (K.2 0, 12, .inl wC)), (aAq, .inl (K.2 0, 12, .inl wQ))] 0 0) ?_ ?_
      · refine z_iload hG dX5_goAlong_95 6 rfl ?_
        refine z_istore_n (lv' := [(3, .int e39.2), (0, .ref aH), (1, .int p0), (2, .int p1), (4, .int e39.1), (5, .int s27.2.2), (6, .int e39.2)]) hG dX5_goAlong_97 (by decide) rfl ?_
        refine z_iinc (s27.2.2 + 1) (lv' := [(5, .int (s27.2.2 + 1)), (3, .int e39.2), (0, .ref aH), (1, .int p0), (2, .int p1), (4, .int e39.1), (6, .int e39.2)]) hG dX5_goAlong_98 5 rfl rfl (by decide) rfl ?_
        refine z_goto 16 hG dX5_goAlong_101 (by decide) ?_
        exact (z_lv [2, 3, 4, 1, 5, 0] rfl (hB e39.2 e39.1 (s27.2.2 + 1) (Option.some.inj hres).symm))
      · intro s37 w38 hres hX hB
        unfold sX5_goAlong_25 at hres
        replace hB : ∀ (z0 : Int32) (z1 : Int32), w38 = .inr (z0, z1) → zj G 25 [(0, .ref aH), (1, .int p0), (2, .int p1), (3, .int s27.1), (4, .int z0), (5, .int s27.2.2), (6, .int z1)] [] [(aH, .inr (5, [.ref aN, .ref aF, .ref aA, .ref aC, .ref aO, .ref aX, .int gB, .int gK])), (aN, .inr (3, [.ref aNk, .ref aNn, .int nS])), (aNk, .inl (K.2 0, 12, .inl nK)), (aNn, .inl (K.2 0, 12, .inl nN)), (aF, .inr (2, [.ref aFl, .ref aFc, .ref aFq, .int fM])), (aFl, .inl (K.2 0, 12, .inl fL)), (aFc, .inl (K.2 0, 12, .inl fC)), (aFq, .inl (K.2 0, 12, .inl fQ)), (aA, .inr (2, [.ref aAl, .ref aAc, .ref aAq, .int wM])), (aAl, .inl (K.2 0, 12, .inl wL)), (aAc, .inl (K.2 0, 12, .inl wC)), (aAq, .inl (K.2 0, 12, .inl wQ))] 0 0 := fun z0 z1 h => hB (z0, z1) h
        replace hX : ∀ (z0 : Int32) (z1 : Int32), w38 = .inl (z0, z1) → zj G 95 [(0, .ref aH), (1, .int p0), (2, .int p1), (3, .int s27.1), (4, .int z0), (5, .int s27.2.2), (6, .int z1)] [] [(aH, .inr (5, [.ref aN, .ref aF, .ref aA, .ref aC, .ref aO, .ref aX, .int gB, .int gK])), (aN, .inr (3, [.ref aNk, .ref aNn, .int nS])), (aNk, .inl (K.2 0, 12, .inl nK)), (aNn, .inl (K.2 0, 12, .inl nN)), (aF, .inr (2, [.ref aFl, .ref aFc, .ref aFq, .int fM])), (aFl, .inl (K.2 0, 12, .inl fL)), (aFc, .inl (K.2 0, 12, .inl fC)), (aFq, .inl (K.2 0, 12, .inl fQ)), (aA, .inr (2, [.ref aAl, .ref aAc, .ref aAq, .int wM])), (aAl, .inl (K.2 0, 12, .inl wL)), (aAc, .inl (K.2 0, 12, .inl wC)), (aAq, .inl (K.2 0, 12, .inl wQ))] 0 0 := fun z0 z1 h => hX (z0, z1) h
        refine z_iload hG dX5_goAlong_25 6 rfl ?_
        refine z_aload_n hG dX5_goAlong_27 0 rfl ?_
        refine z_get (ci := 5) (C := RX5) (T := TX5) (N := 8) hG dX5_goAlong_28 iX5_goAlong_X5 0 (by decide) mX5_goAlong_4 rfl rfl 0 rfl rfl ?_
        refine z_get (ci := 3) (C := RX3) (T := TX3) (N := 3) hG dX5_goAlong_31 iX5_goAlong_X3 2 (by decide) mX5_goAlong_5 rfl rfl 1 rfl rfl ?_
        refine z_iconst 1 hG dX5_goAlong_34 (by decide) ?_
        refine z_isub hG dX5_goAlong_35 ?_
        refine z_icmp_ge 95 hG dX5_goAlong_36 (by decide) (fun c => ?_) (fun c => ?_)
        · replace hres := z_ifp c hres
          exact (hX s37.1 s37.2 (Option.some.inj hres).symm)
        · replace hres := z_ifn c hres
          refine z_aload_n hG dX5_goAlong_39 0 rfl ?_
          refine z_iload_n hG dX5_goAlong_40 3 rfl ?_
          refine z_iload hG dX5_goAlong_41 6 rfl ?_
          obtain ⟨v41, hv, hres⟩ := z_bind hres
          refine z_callV (As := [.int s27.1, .int s37.2]) (rest := []) (wr := [(aF, .inr (2, [.ref aFl, .ref aFc, .ref aFq, .int fM])), (aFl, .inl (K.2 0, 12, .inl fL)), (aFc, .inl (K.2 0, 12, .inl fC)), (aFq, .inl (K.2 0, 12, .inl fQ))]) (ws' := (fun _ : Unit => [(aH, .inr (5, [.ref aN, .ref aF, .ref aA, .ref aC, .ref aO, .ref aX, .int gB, .int gK])), (aN, .inr (3, [.ref aNk, .ref aNn, .int nS])), (aNk, .inl (K.2 0, 12, .inl nK)), (aNn, .inl (K.2 0, 12, .inl nN)), (aF, .inr (2, [.ref aFl, .ref aFc, .ref aFq, .int fM])), (aFl, .inl (K.2 0, 12, .inl fL)), (aFc, .inl (K.2 0, 12, .inl fC)), (aFq, .inl (K.2 0, 12, .inl fQ)), (aA, .inr (2, [.ref aAl, .ref aAc, .ref aAq, .int wM])), (aAl, .inl (K.2 0, 12, .inl wL)), (aAc, .inl (K.2 0, 12, .inl wC)), (aAq, .inl (K.2 0, 12, .inl wQ))])) (stk := (fun _ : Unit => [.int v41])) (kc' := 0) (ks' := 0) (n := 2) (C := RX5) (ci := 5) hG dX5_goAlong_43 (kX5_leadsOn _ K aH aN aNk aNn aA aAl aAc aAq aF aC aO aX gB gK nS nK nN wM wL wC wQ s27.1 s37.2 v41 hv) gX5_goAlong_X5_leadsOn rfl rfl rfl ⟨rfl, by decide, by decide, rfl⟩ ⟨by decide, by decide⟩ (Nat.le_of_ble_eq_true rfl) ⟨(Nat.le_of_ble_eq_true rfl), (Nat.le_of_ble_eq_true rfl)⟩ [0, 1, 2, 3, 8, 9, 10, 11] [4, 5, 6, 7] [4, 5, 6, 7, 0, 1, 2, 3, 8, 9, 10, 11] rfl rfl rfl rfl (by decide) rfl (fun _ => rfl) (fun _ => rfl) rfl rfl rfl 0 rfl rfl rfl rfl (fun _ => ?_)
          refine z_if_eq 64 hG dX5_goAlong_46 (by decide) (fun c => ?_) (fun c => ?_)
          · replace hres := z_ifp c hres
            refine z_aload_n hG dX5_goAlong_64 0 rfl ?_
            refine z_iload_n hG dX5_goAlong_65 3 rfl ?_
            refine z_iload hG dX5_goAlong_66 6 rfl ?_
            obtain ⟨v42, hv, hres⟩ := z_bind hres
            refine z_callV (As := [.int s27.1, .int s37.2]) (rest := []) (wr := [(aF, .inr (2, [.ref aFl, .ref aFc, .ref aFq, .int fM])), (aFl, .inl (K.2 0, 12, .inl fL)), (aFc, .inl (K.2 0, 12, .inl fC)), (aFq, .inl (K.2 0, 12, .inl fQ))]) (ws' := (fun _ : Unit => [(aH, .inr (5, [.ref aN, .ref aF, .ref aA, .ref aC, .ref aO, .ref aX, .int gB, .int gK])), (aN, .inr (3, [.ref aNk, .ref aNn, .int nS])), (aNk, .inl (K.2 0, 12, .inl nK)), (aNn, .inl (K.2 0, 12, .inl nN)), (aF, .inr (2, [.ref aFl, .ref aFc, .ref aFq, .int fM])), (aFl, .inl (K.2 0, 12, .inl fL)), (aFc, .inl (K.2 0, 12, .inl fC)), (aFq, .inl (K.2 0, 12, .inl fQ)), (aA, .inr (2, [.ref aAl, .ref aAc, .ref aAq, .int wM])), (aAl, .inl (K.2 0, 12, .inl wL)), (aAc, .inl (K.2 0, 12, .inl wC)), (aAq, .inl (K.2 0, 12, .inl wQ))])) (stk := (fun _ : Unit => [.int v42])) (kc' := 0) (ks' := 0) (n := 2) (C := RX5) (ci := 5) hG dX5_goAlong_68 (kX5_leadsOn _ K aH aN aNk aNn aA aAl aAc aAq aF aC aO aX gB gK nS nK nN wM wL wC wQ s27.1 s37.2 v42 hv) gX5_goAlong_X5_leadsOn rfl rfl rfl ⟨rfl, by decide, by decide, rfl⟩ ⟨by decide, by decide⟩ (Nat.le_of_ble_eq_true rfl) ⟨(Nat.le_of_ble_eq_true rfl), (Nat.le_of_ble_eq_true rfl)⟩ [0, 1, 2, 3, 8, 9, 10, 11] [4, 5, 6, 7] [4, 5, 6, 7, 0, 1, 2, 3, 8, 9, 10, 11] rfl rfl rfl rfl (by decide) rfl (fun _ => rfl) (fun _ => rfl) rfl rfl rfl 0 rfl rfl rfl rfl (fun _ => ?_)
            refine z_if_eq 89 hG dX5_goAlong_71 (by decide) (fun c => ?_) (fun c => ?_)
            · replace hres := z_ifp c hres
              refine z_iinc (s37.2 + 1) (lv' := [(6, .int (s37.2 + 1)), (0, .ref aH), (1, .int p0), (2, .int p1), (3, .int s27.1), (4, .int s37.1), (5, .int s27.2.2)]) hG dX5_goAlong_89 6 rfl rfl (by decide) rfl ?_
              refine z_goto 25 hG dX5_goAlong_92 (by decide) ?_
              exact (z_lv [1, 2, 3, 4, 5, 6, 0] rfl (hB s37.1 (s37.2 + 1) (Option.some.inj hres).symm))
            · replace hres := z_ifn c hres
              refine z_iload hG dX5_goAlong_74 4 rfl ?_
              refine z_aload_n hG dX5_goAlong_76 0 rfl ?_
              refine z_get (ci := 5) (C := RX5) (T := TX5) (N := 8) hG dX5_goAlong_77 iX5_goAlong_X5 2 (by decide) mX5_goAlong_7 rfl rfl 0 rfl rfl ?_
              refine z_get (ci := 2) (C := RX2) (T := TX2) (N := 4) hG dX5_goAlong_80 iX5_goAlong_X2 1 (by decide) mX5_goAlong_8 rfl rfl 8 rfl rfl ?_
              refine z_iload hG dX5_goAlong_83 6 rfl ?_
              obtain ⟨hg, hres⟩ := z_guard hres
              refine z_iald hG dX5_goAlong_85 10 rfl hg ?_
              refine z_isub hG dX5_goAlong_86 ?_
              refine z_istore (lv' := [(4, .int (s37.1 - (wC s37.2.toNatClampNeg))), (0, .ref aH), (1, .int p0), (2, .int p1), (3, .int s27.1), (5, .int s27.2.2), (6, .int s37.2)]) hG dX5_goAlong_87 (by decide) rfl ?_
              refine z_iinc (s37.2 + 1) (lv' := [(6, .int (s37.2 + 1)), (4, .int (s37.1 - (wC s37.2.toNatClampNeg))), (0, .ref aH), (1, .int p0), (2, .int p1), (3, .int s27.1), (5, .int s27.2.2)]) hG dX5_goAlong_89 6 rfl rfl (by decide) rfl ?_
              refine z_goto 25 hG dX5_goAlong_92 (by decide) ?_
              exact (z_lv [2, 3, 4, 5, 1, 6, 0] rfl (hB (s37.1 - (wC s37.2.toNatClampNeg)) (s37.2 + 1) (Option.some.inj hres).symm))
          · replace hres := z_ifn c hres
            refine z_iload hG dX5_goAlong_49 4 rfl ?_
            refine z_aload_n hG dX5_goAlong_51 0 rfl ?_
            refine z_get (ci := 5) (C := RX5) (T := TX5) (N := 8) hG dX5_goAlong_52 iX5_goAlong_X5 2 (by decide) mX5_goAlong_7 rfl rfl 0 rfl rfl ?_
            refine z_get (ci := 2) (C := RX2) (T := TX2) (N := 4) hG dX5_goAlong_55 iX5_goAlong_X2 1 (by decide) mX5_goAlong_8 rfl rfl 8 rfl rfl ?_
            refine z_iload hG dX5_goAlong_58 6 rfl ?_
            obtain ⟨hg, hres⟩ := z_guard hres
            refine z_iald hG dX5_goAlong_60 10 rfl hg ?_
            refine z_icmp_lt 95 hG dX5_goAlong_61 (by decide) (fun c => ?_) (fun c => ?_)
            · replace hres := z_ifp c hres
              exact (hX s37.1 s37.2 (Option.some.inj hres).symm)
            · replace hres := z_ifn c hres
              refine z_aload_n hG dX5_goAlong_64 0 rfl ?_
              refine z_iload_n hG dX5_goAlong_65 3 rfl ?_
              refine z_iload hG dX5_goAlong_66 6 rfl ?_
              obtain ⟨v43, hv, hres⟩ := z_bind hres
              refine z_callV (As := [.int s27.1, .int s37.2]) (rest := []) (wr := [(aF, .inr (2, [.ref aFl, .ref aFc, .ref aFq, .int fM])), (aFl, .inl (K.2 0, 12, .inl fL)), (aFc, .inl (K.2 0, 12, .inl fC)), (aFq, .inl (K.2 0, 12, .inl fQ))]) (ws' := (fun _ : Unit => [(aH, .inr (5, [.ref aN, .ref aF, .ref aA, .ref aC, .ref aO, .ref aX, .int gB, .int gK])), (aN, .inr (3, [.ref aNk, .ref aNn, .int nS])), (aNk, .inl (K.2 0, 12, .inl nK)), (aNn, .inl (K.2 0, 12, .inl nN)), (aF, .inr (2, [.ref aFl, .ref aFc, .ref aFq, .int fM])), (aFl, .inl (K.2 0, 12, .inl fL)), (aFc, .inl (K.2 0, 12, .inl fC)), (aFq, .inl (K.2 0, 12, .inl fQ)), (aA, .inr (2, [.ref aAl, .ref aAc, .ref aAq, .int wM])), (aAl, .inl (K.2 0, 12, .inl wL)), (aAc, .inl (K.2 0, 12, .inl wC)), (aAq, .inl (K.2 0, 12, .inl wQ))])) (stk := (fun _ : Unit => [.int v43])) (kc' := 0) (ks' := 0) (n := 2) (C := RX5) (ci := 5) hG dX5_goAlong_68 (kX5_leadsOn _ K aH aN aNk aNn aA aAl aAc aAq aF aC aO aX gB gK nS nK nN wM wL wC wQ s27.1 s37.2 v43 hv) gX5_goAlong_X5_leadsOn rfl rfl rfl ⟨rfl, by decide, by decide, rfl⟩ ⟨by decide, by decide⟩ (Nat.le_of_ble_eq_true rfl) ⟨(Nat.le_of_ble_eq_true rfl), (Nat.le_of_ble_eq_true rfl)⟩ [0, 1, 2, 3, 8, 9, 10, 11] [4, 5, 6, 7] [4, 5, 6, 7, 0, 1, 2, 3, 8, 9, 10, 11] rfl rfl rfl rfl (by decide) rfl (fun _ => rfl) (fun _ => rfl) rfl rfl rfl 0 rfl rfl rfl rfl (fun _ => ?_)
              refine z_if_eq 89 hG dX5_goAlong_71 (by decide) (fun c => ?_) (fun c => ?_)
              · replace hres := z_ifp c hres
                refine z_iinc (s37.2 + 1) (lv' := [(6, .int (s37.2 + 1)), (0, .ref aH), (1, .int p0), (2, .int p1), (3, .int s27.1), (4, .int s37.1), (5, .int s27.2.2)]) hG dX5_goAlong_89 6 rfl rfl (by decide) rfl ?_
                refine z_goto 25 hG dX5_goAlong_92 (by decide) ?_
                exact (z_lv [1, 2, 3, 4, 5, 6, 0] rfl (hB s37.1 (s37.2 + 1) (Option.some.inj hres).symm))
              · replace hres := z_ifn c hres
                refine z_iload hG dX5_goAlong_74 4 rfl ?_
                refine z_aload_n hG dX5_goAlong_76 0 rfl ?_
                refine z_get (ci := 5) (C := RX5) (T := TX5) (N := 8) hG dX5_goAlong_77 iX5_goAlong_X5 2 (by decide) mX5_goAlong_7 rfl rfl 0 rfl rfl ?_
                refine z_get (ci := 2) (C := RX2) (T := TX2) (N := 4) hG dX5_goAlong_80 iX5_goAlong_X2 1 (by decide) mX5_goAlong_8 rfl rfl 8 rfl rfl ?_
                refine z_iload hG dX5_goAlong_83 6 rfl ?_
                obtain ⟨hg, hres⟩ := z_guard hres
                refine z_iald hG dX5_goAlong_85 10 rfl hg ?_
                refine z_isub hG dX5_goAlong_86 ?_
                refine z_istore (lv' := [(4, .int (s37.1 - (wC s37.2.toNatClampNeg))), (0, .ref aH), (1, .int p0), (2, .int p1), (3, .int s27.1), (5, .int s27.2.2), (6, .int s37.2)]) hG dX5_goAlong_87 (by decide) rfl ?_
                refine z_iinc (s37.2 + 1) (lv' := [(6, .int (s37.2 + 1)), (4, .int (s37.1 - (wC s37.2.toNatClampNeg))), (0, .ref aH), (1, .int p0), (2, .int p1), (3, .int s27.1), (5, .int s27.2.2)]) hG dX5_goAlong_89 6 rfl rfl (by decide) rfl ?_
                refine z_goto 25 hG dX5_goAlong_92 (by decide) ?_
                exact (z_lv [2, 3, 4, 5, 1, 6, 0] rfl (hB (s37.1 - (wC s37.2.toNatClampNeg)) (s37.2 + 1) (Option.some.inj hres).symm))

theorem dX5_isSameOrNextLayer_0 : decode cX5_isSameOrNextLayer 0 = .ok (.aload_n 0, 1) := by decide +kernel
theorem dX5_isSameOrNextLayer_1 : decode cX5_isSameOrNextLayer 1 = .ok (.getfield 19, 3) := by decide +kernel
theorem dX5_isSameOrNextLayer_4 : decode cX5_isSameOrNextLayer 4 = .ok (.getfield 137, 3) := by decide +kernel
theorem dX5_isSameOrNextLayer_7 : decode cX5_isSameOrNextLayer 7 = .ok (.iload_n 1, 1) := by decide +kernel
theorem dX5_isSameOrNextLayer_8 : decode cX5_isSameOrNextLayer 8 = .ok (.iaload, 1) := by decide +kernel
theorem dX5_isSameOrNextLayer_9 : decode cX5_isSameOrNextLayer 9 = .ok (.istore_n 3, 1) := by decide +kernel
theorem dX5_isSameOrNextLayer_10 : decode cX5_isSameOrNextLayer 10 = .ok (.aload_n 0, 1) := by decide +kernel
theorem dX5_isSameOrNextLayer_11 : decode cX5_isSameOrNextLayer 11 = .ok (.getfield 19, 3) := by decide +kernel
theorem dX5_isSameOrNextLayer_14 : decode cX5_isSameOrNextLayer 14 = .ok (.getfield 137, 3) := by decide +kernel
theorem dX5_isSameOrNextLayer_17 : decode cX5_isSameOrNextLayer 17 = .ok (.iload_n 2, 1) := by decide +kernel
theorem dX5_isSameOrNextLayer_18 : decode cX5_isSameOrNextLayer 18 = .ok (.iaload, 1) := by decide +kernel
theorem dX5_isSameOrNextLayer_19 : decode cX5_isSameOrNextLayer 19 = .ok (.istore 4, 2) := by decide +kernel
theorem dX5_isSameOrNextLayer_21 : decode cX5_isSameOrNextLayer 21 = .ok (.iload_n 3, 1) := by decide +kernel
theorem dX5_isSameOrNextLayer_22 : decode cX5_isSameOrNextLayer 22 = .ok (.iconst (-1), 1) := by decide +kernel
theorem dX5_isSameOrNextLayer_23 : decode cX5_isSameOrNextLayer 23 = .ok (.if_icmp .eq 9, 3) := by decide +kernel
theorem dX5_isSameOrNextLayer_26 : decode cX5_isSameOrNextLayer 26 = .ok (.iload 4, 2) := by decide +kernel
theorem dX5_isSameOrNextLayer_28 : decode cX5_isSameOrNextLayer 28 = .ok (.iconst (-1), 1) := by decide +kernel
theorem dX5_isSameOrNextLayer_29 : decode cX5_isSameOrNextLayer 29 = .ok (.if_icmp .ne 15, 3) := by decide +kernel
theorem dX5_isSameOrNextLayer_32 : decode cX5_isSameOrNextLayer 32 = .ok (.iload_n 3, 1) := by decide +kernel
theorem dX5_isSameOrNextLayer_33 : decode cX5_isSameOrNextLayer 33 = .ok (.iload 4, 2) := by decide +kernel
theorem dX5_isSameOrNextLayer_35 : decode cX5_isSameOrNextLayer 35 = .ok (.if_icmp .ne 7, 3) := by decide +kernel
theorem dX5_isSameOrNextLayer_38 : decode cX5_isSameOrNextLayer 38 = .ok (.iconst 1, 1) := by decide +kernel
theorem dX5_isSameOrNextLayer_39 : decode cX5_isSameOrNextLayer 39 = .ok (.goto 4, 3) := by decide +kernel
theorem dX5_isSameOrNextLayer_42 : decode cX5_isSameOrNextLayer 42 = .ok (.iconst 0, 1) := by decide +kernel
theorem dX5_isSameOrNextLayer_43 : decode cX5_isSameOrNextLayer 43 = .ok (.ireturn, 1) := by decide +kernel
theorem dX5_isSameOrNextLayer_44 : decode cX5_isSameOrNextLayer 44 = .ok (.iload_n 3, 1) := by decide +kernel
theorem dX5_isSameOrNextLayer_45 : decode cX5_isSameOrNextLayer 45 = .ok (.iload 4, 2) := by decide +kernel
theorem dX5_isSameOrNextLayer_47 : decode cX5_isSameOrNextLayer 47 = .ok (.isub, 1) := by decide +kernel
theorem dX5_isSameOrNextLayer_48 : decode cX5_isSameOrNextLayer 48 = .ok (.invokestatic 244, 3) := by decide +kernel
theorem dX5_isSameOrNextLayer_51 : decode cX5_isSameOrNextLayer 51 = .ok (.iconst 1, 1) := by decide +kernel
theorem dX5_isSameOrNextLayer_52 : decode cX5_isSameOrNextLayer 52 = .ok (.if_icmp .gt 7, 3) := by decide +kernel
theorem dX5_isSameOrNextLayer_55 : decode cX5_isSameOrNextLayer 55 = .ok (.iconst 1, 1) := by decide +kernel
theorem dX5_isSameOrNextLayer_56 : decode cX5_isSameOrNextLayer 56 = .ok (.goto 4, 3) := by decide +kernel
theorem dX5_isSameOrNextLayer_59 : decode cX5_isSameOrNextLayer 59 = .ok (.iconst 0, 1) := by decide +kernel
theorem dX5_isSameOrNextLayer_60 : decode cX5_isSameOrNextLayer 60 = .ok (.ireturn, 1) := by decide +kernel
theorem mX5_isSameOrNextLayer_0 : Cond.fieldLink RX5 19 "Layerways" "fromStart" "LLayerways$Layers;" ∈ wsX5_isSameOrNextLayer := by decide +kernel
theorem iX5_isSameOrNextLayer_X5 : ∀ w ∈ u_ws RX5 TX5 8, w ∈ wsX5_isSameOrNextLayer := by decide +kernel
theorem mX5_isSameOrNextLayer_2 : Cond.fieldLink RX5 137 "Layerways$Layers" "lengths" "[I" ∈ wsX5_isSameOrNextLayer := by decide +kernel
theorem iX5_isSameOrNextLayer_X2 : ∀ w ∈ u_ws RX2 TX2 4, w ∈ wsX5_isSameOrNextLayer := by decide +kernel
theorem mX5_isSameOrNextLayer_4 : Cond.methodLink RX5 244 Lib.Math.abs.name ∈ wsX5_isSameOrNextLayer := by decide +kernel
theorem mX5_isSameOrNextLayer_5 : Cond.static Lib.Math.abs.name ∈ wsX5_isSameOrNextLayer := by decide +kernel
theorem mX5_isSameOrNextLayer_6 : Cond.initialized "java/lang/Math" ∈ wsX5_isSameOrNextLayer := by decide +kernel
theorem mX5_isSameOrNextLayer_7 : Cond.code Lib.Math.abs.name Lib.Math.abs.code 1 (some .int) ∈ wsX5_isSameOrNextLayer := by decide +kernel
def fX5_isSameOrNextLayer (fL : (Nat → Int32)) (p0 : Int32) (p1 : Int32) : Option (Int32) := if zin p0 12 then if zin p1 12 then if (fL p0.toNatClampNeg) = (-1) then if (fL p0.toNatClampNeg) = (fL p1.toNatClampNeg) then some 1 else some 0 else if (fL p1.toNatClampNeg) = (-1) then if (fL p0.toNatClampNeg) = (fL p1.toNatClampNeg) then some 1 else some 0 else if 1 < (if 0 ≤ ((fL p0.toNatClampNeg) - (fL p1.toNatClampNeg)) then ((fL p0.toNatClampNeg) - (fL p1.toNatClampNeg)) else 0 - ((fL p0.toNatClampNeg) - (fL p1.toNatClampNeg))) then some 0 else some 1 else none else none
set_option maxRecDepth 100000 in
set_option maxHeartbeats 4000000 in
theorem kX5_isSameOrNextLayer (l : Launch) (K : zK) (aH : Nat) (aF : Nat) (aFl : Nat) (aFc : Nat) (aFq : Nat) (aN : Nat) (aA : Nat) (aC : Nat) (aO : Nat) (aX : Nat)  (gB : Int32) (gK : Int32) (fM : Int32) (fL : (Nat → Int32)) (fC : (Nat → Int32)) (fQ : (Nat → Int32)) (p0 : Int32) (p1 : Int32) (r : Int32) (hres : fX5_isSameOrNextLayer fL p0 p1 = some r) : zM l K yX5_isSameOrNextLayer wsX5_isSameOrNextLayer ({ frames := 1, cells := 0, slots := 0, locals := 15 }) [.ref aH, .int p0, .int p1] [(aH, .inr (5, [.ref aN, .ref aF, .ref aA, .ref aC, .ref aO, .ref aX, .int gB, .int gK])), (aF, .inr (2, [.ref aFl, .ref aFc, .ref aFq, .int fM])), (aFl, .inl (K.2 0, 12, .inl fL)), (aFc, .inl (K.2 0, 12, .inl fC)), (aFq, .inl (K.2 0, 12, .inl fQ))] (fun _ : Unit => some (.int r)) (fun _ : Unit => [(aH, .inr (5, [.ref aN, .ref aF, .ref aA, .ref aC, .ref aO, .ref aX, .int gB, .int gK])), (aF, .inr (2, [.ref aFl, .ref aFc, .ref aFq, .int fM])), (aFl, .inl (K.2 0, 12, .inl fL)), (aFc, .inl (K.2 0, 12, .inl fC)), (aFq, .inl (K.2 0, 12, .inl fQ))]) 0 0 := by
  refine zM.intZ (cc := cX5_isSameOrNextLayer) (maxL := 5) (ret := (some .boolean)) rfl (by decide) (Nat.le_of_ble_eq_true rfl) rfl ?_
  intro G hGl hG hN hE
  have hR : ∀ (pc : Nat) (lv : zL), narrow .boolean (.int r) = .int r → decode cX5_isSameOrNextLayer pc = .ok (.ireturn, 1) → zj G pc lv [.int r] [(aH, .inr (5, [.ref aN, .ref aF, .ref aA, .ref aC, .ref aO, .ref aX, .int gB, .int gK])), (aF, .inr (2, [.ref aFl, .ref aFc, .ref aFq, .int fM])), (aFl, .inl (K.2 0, 12, .inl fL)), (aFc, .inl (K.2 0, 12, .inl fC)), (aFq, .inl (K.2 0, 12, .inl fQ))] 0 0 := fun pc lv n d => hE () _ rfl n pc lv d
  clear hE
  unfold fX5_isSameOrNextLayer at hres
  show zj G 0 [(0, .ref aH), (1, .int p0), (2, .int p1)] [] [(aH, .inr (5, [.ref aN, .ref aF, .ref aA, .ref aC, .ref aO, .ref aX, .int gB, .int gK])), (aF, .inr (2, [.ref aFl, .ref aFc, .ref aFq, .int fM])), (aFl, .inl (K.2 0, 12, .inl fL)), (aFc, .inl (K.2 0, 12, .inl fC)), (aFq, .inl (K.2 0, 12, .inl fQ))] 0 0
  refine z_aload_n hG dX5_isSameOrNextLayer_0 0 rfl ?_
  refine z_get (ci := 5) (C := RX5) (T := TX5) (N := 8) hG dX5_isSameOrNextLayer_1 iX5_isSameOrNextLayer_X5 1 (by decide) mX5_isSameOrNextLayer_0 rfl rfl 0 rfl rfl ?_
  refine z_get (ci := 2) (C := RX2) (T := TX2) (N := 4) hG dX5_isSameOrNextLayer_4 iX5_isSameOrNextLayer_X2 0 (by decide) mX5_isSameOrNextLayer_2 rfl rfl 1 rfl rfl ?_
  refine z_iload_n hG dX5_isSameOrNextLayer_7 1 rfl ?_
  obtain ⟨hg, hres⟩ := z_guard hres
  refine z_iald hG dX5_isSameOrNextLayer_8 2 rfl hg ?_
  refine z_istore_n (lv' := [(3, .int (fL p0.toNatClampNeg)), (0, .ref aH), (1, .int p0), (2, .int p1)]) hG dX5_isSameOrNextLayer_9 (by decide) rfl ?_
  refine z_aload_n hG dX5_isSameOrNextLayer_10 1 rfl ?_
  refine z_get (ci := 5) (C := RX5) (T := TX5) (N := 8) hG dX5_isSameOrNextLayer_11 iX5_isSameOrNextLayer_X5 1 (by decide) mX5_isSameOrNextLayer_0 rfl rfl 0 rfl rfl ?_
  refine z_get (ci := 2) (C := RX2) (T := TX2) (N := 4) hG dX5_isSameOrNextLayer_14 iX5_isSameOrNextLayer_X2 0 (by decide) mX5_isSameOrNextLayer_2 rfl rfl 1 rfl rfl ?_
  refine z_iload_n hG dX5_isSameOrNextLayer_17 3 rfl ?_
  obtain ⟨hg, hres⟩ := z_guard hres
  refine z_iald hG dX5_isSameOrNextLayer_18 2 rfl hg ?_
  refine z_istore (lv' := [(4, .int (fL p1.toNatClampNeg)), (3, .int (fL p0.toNatClampNeg)), (0, .ref aH), (1, .int p0), (2, .int p1)]) hG dX5_isSameOrNextLayer_19 (by decide) rfl ?_
  refine z_iload_n hG dX5_isSameOrNextLayer_21 1 rfl ?_
  refine z_iconst (-1) hG dX5_isSameOrNextLayer_22 (by decide) ?_
  refine z_icmp_eq 32 hG dX5_isSameOrNextLayer_23 (by decide) (fun c => ?_) (fun c => ?_)
  · replace hres := z_ifp c hres
    refine z_iload_n hG dX5_isSameOrNextLayer_32 1 rfl ?_
    refine z_iload hG dX5_isSameOrNextLayer_33 0 rfl ?_
    refine z_icmp_ne 42 hG dX5_isSameOrNextLayer_35 (by decide) (fun c => ?_) (fun c => ?_)
    · replace hres := z_ifn c hres
      refine z_iconst 0 hG dX5_isSameOrNextLayer_42 (by decide) ?_
      obtain rfl := Option.some.inj hres
      exact (hR _ _ (z_nar01 (Or.inl rfl)) dX5_isSameOrNextLayer_43)
    · replace hres := z_ifp c hres
      refine z_iconst 1 hG dX5_isSameOrNextLayer_38 (by decide) ?_
      refine z_goto 43 hG dX5_isSameOrNextLayer_39 (by decide) ?_
      obtain rfl := Option.some.inj hres
      exact (hR _ _ (z_nar01 (Or.inr rfl)) dX5_isSameOrNextLayer_43)
  · replace hres := z_ifn c hres
    refine z_iload hG dX5_isSameOrNextLayer_26 0 rfl ?_
    refine z_iconst (-1) hG dX5_isSameOrNextLayer_28 (by decide) ?_
    refine z_icmp_ne 44 hG dX5_isSameOrNextLayer_29 (by decide) (fun c => ?_) (fun c => ?_)
    · replace hres := z_ifn c hres
      refine z_iload_n hG dX5_isSameOrNextLayer_44 1 rfl ?_
      refine z_iload hG dX5_isSameOrNextLayer_45 0 rfl ?_
      refine z_isub hG dX5_isSameOrNextLayer_47 ?_
      refine z_mabs hG dX5_isSameOrNextLayer_48 mX5_isSameOrNextLayer_4 mX5_isSameOrNextLayer_5 mX5_isSameOrNextLayer_6 mX5_isSameOrNextLayer_7 (by decide) (Nat.le_of_ble_eq_true rfl) (Nat.le_of_ble_eq_true rfl) (Nat.le_of_ble_eq_true rfl) ?_
      refine z_iconst 1 hG dX5_isSameOrNextLayer_51 (by decide) ?_
      refine z_icmp_gt 59 hG dX5_isSameOrNextLayer_52 (by decide) (fun c => ?_) (fun c => ?_)
      · replace hres := z_ifp c hres
        refine z_iconst 0 hG dX5_isSameOrNextLayer_59 (by decide) ?_
        obtain rfl := Option.some.inj hres
        exact (hR _ _ (z_nar01 (Or.inl rfl)) dX5_isSameOrNextLayer_60)
      · replace hres := z_ifn c hres
        refine z_iconst 1 hG dX5_isSameOrNextLayer_55 (by decide) ?_
        refine z_goto 60 hG dX5_isSameOrNextLayer_56 (by decide) ?_
        obtain rfl := Option.some.inj hres
        exact (hR _ _ (z_nar01 (Or.inr rfl)) dX5_isSameOrNextLayer_60)
    · replace hres := z_ifp c hres
      refine z_iload_n hG dX5_isSameOrNextLayer_32 1 rfl ?_
      refine z_iload hG dX5_isSameOrNextLayer_33 0 rfl ?_
      refine z_icmp_ne 42 hG dX5_isSameOrNextLayer_35 (by decide) (fun c => ?_) (fun c => ?_)
      · replace hres := z_ifn c hres
        refine z_iconst 0 hG dX5_isSameOrNextLayer_42 (by decide) ?_
        obtain rfl := Option.some.inj hres
        exact (hR _ _ (z_nar01 (Or.inl rfl)) dX5_isSameOrNextLayer_43)
      · replace hres := z_ifp c hres
        refine z_iconst 1 hG dX5_isSameOrNextLayer_38 (by decide) ?_
        refine z_goto 43 hG dX5_isSameOrNextLayer_39 (by decide) ?_
        obtain rfl := Option.some.inj hres
        exact (hR _ _ (z_nar01 (Or.inr rfl)) dX5_isSameOrNextLayer_43)

theorem dX5_streetsKeepLayers_0 : decode cX5_streetsKeepLayers 0 = .ok (.iconst 0, 1) := by decide +kernel
theorem dX5_streetsKeepLayers_1 : decode cX5_streetsKeepLayers 1 = .ok (.istore_n 1, 1) := by decide +kernel
theorem dX5_streetsKeepLayers_2 : decode cX5_streetsKeepLayers 2 = .ok (.iload_n 1, 1) := by decide +kernel
theorem dX5_streetsKeepLayers_3 : decode cX5_streetsKeepLayers 3 = .ok (.aload_n 0, 1) := by decide +kernel
theorem dX5_streetsKeepLayers_4 : decode cX5_streetsKeepLayers 4 = .ok (.getfield 10, 3) := by decide +kernel
theorem dX5_streetsKeepLayers_7 : decode cX5_streetsKeepLayers 7 = .ok (.getfield 66, 3) := by decide +kernel
theorem dX5_streetsKeepLayers_10 : decode cX5_streetsKeepLayers 10 = .ok (.if_icmp .ge 45, 3) := by decide +kernel
theorem dX5_streetsKeepLayers_13 : decode cX5_streetsKeepLayers 13 = .ok (.iconst 0, 1) := by decide +kernel
theorem dX5_streetsKeepLayers_14 : decode cX5_streetsKeepLayers 14 = .ok (.istore_n 2, 1) := by decide +kernel
theorem dX5_streetsKeepLayers_15 : decode cX5_streetsKeepLayers 15 = .ok (.iload_n 2, 1) := by decide +kernel
theorem dX5_streetsKeepLayers_16 : decode cX5_streetsKeepLayers 16 = .ok (.iload_n 1, 1) := by decide +kernel
theorem dX5_streetsKeepLayers_17 : decode cX5_streetsKeepLayers 17 = .ok (.if_icmp .ge 32, 3) := by decide +kernel
theorem dX5_streetsKeepLayers_20 : decode cX5_streetsKeepLayers 20 = .ok (.aload_n 0, 1) := by decide +kernel
theorem dX5_streetsKeepLayers_21 : decode cX5_streetsKeepLayers 21 = .ok (.getfield 10, 3) := by decide +kernel
theorem dX5_streetsKeepLayers_24 : decode cX5_streetsKeepLayers 24 = .ok (.iload_n 1, 1) := by decide +kernel
theorem dX5_streetsKeepLayers_25 : decode cX5_streetsKeepLayers 25 = .ok (.iload_n 2, 1) := by decide +kernel
theorem dX5_streetsKeepLayers_26 : decode cX5_streetsKeepLayers 26 = .ok (.invokevirtual 95, 3) := by decide +kernel
theorem dX5_streetsKeepLayers_29 : decode cX5_streetsKeepLayers 29 = .ok (.ifCond .eq 14, 3) := by decide +kernel
theorem dX5_streetsKeepLayers_32 : decode cX5_streetsKeepLayers 32 = .ok (.aload_n 0, 1) := by decide +kernel
theorem dX5_streetsKeepLayers_33 : decode cX5_streetsKeepLayers 33 = .ok (.iload_n 1, 1) := by decide +kernel
theorem dX5_streetsKeepLayers_34 : decode cX5_streetsKeepLayers 34 = .ok (.iload_n 2, 1) := by decide +kernel
theorem dX5_streetsKeepLayers_35 : decode cX5_streetsKeepLayers 35 = .ok (.invokevirtual 241, 3) := by decide +kernel
theorem dX5_streetsKeepLayers_38 : decode cX5_streetsKeepLayers 38 = .ok (.ifCond .ne 5, 3) := by decide +kernel
theorem dX5_streetsKeepLayers_41 : decode cX5_streetsKeepLayers 41 = .ok (.iconst 0, 1) := by decide +kernel
theorem dX5_streetsKeepLayers_42 : decode cX5_streetsKeepLayers 42 = .ok (.ireturn, 1) := by decide +kernel
theorem dX5_streetsKeepLayers_43 : decode cX5_streetsKeepLayers 43 = .ok (.iinc 2 1, 3) := by decide +kernel
theorem dX5_streetsKeepLayers_46 : decode cX5_streetsKeepLayers 46 = .ok (.goto (-31), 3) := by decide +kernel
theorem dX5_streetsKeepLayers_49 : decode cX5_streetsKeepLayers 49 = .ok (.iinc 1 1, 3) := by decide +kernel
theorem dX5_streetsKeepLayers_52 : decode cX5_streetsKeepLayers 52 = .ok (.goto (-50), 3) := by decide +kernel
theorem dX5_streetsKeepLayers_55 : decode cX5_streetsKeepLayers 55 = .ok (.iconst 1, 1) := by decide +kernel
theorem dX5_streetsKeepLayers_56 : decode cX5_streetsKeepLayers 56 = .ok (.ireturn, 1) := by decide +kernel
set_option maxRecDepth 20000 in
theorem ggX5_streetsKeepLayers_X3_joins : GoodIn wsX5_streetsKeepLayers wsX3_joins := goodIn_r _ [7, 8, 9, 10, 11, 30, 31, 32] (by decide +kernel) (by decide +kernel)
set_option maxRecDepth 20000 in
theorem gX5_streetsKeepLayers_X3_joins : GoodIn wsX5_streetsKeepLayers (wsV RX5 95 RX3 yX3_joins wsX3_joins) := goodIn_app (goodIn_of _ (by decide +kernel)) ggX5_streetsKeepLayers_X3_joins
set_option maxRecDepth 20000 in
theorem ggX5_streetsKeepLayers_X5_isSameOrNextLayer : GoodIn wsX5_streetsKeepLayers wsX5_isSameOrNextLayer := goodIn_r _ [15, 16, 17, 18, 19, 20, 21, 22, 23, 24, 25, 26, 27, 28, 29, 33, 34, 35, 36] (by decide +kernel) (by decide +kernel)
set_option maxRecDepth 20000 in
theorem gX5_streetsKeepLayers_X5_isSameOrNextLayer : GoodIn wsX5_streetsKeepLayers (wsV RX5 241 RX5 yX5_isSameOrNextLayer wsX5_isSameOrNextLayer) := goodIn_app (goodIn_of _ (by decide +kernel)) ggX5_streetsKeepLayers_X5_isSameOrNextLayer
theorem mX5_streetsKeepLayers_0 : Cond.fieldLink RX5 10 "Layerways" "net" "LLayerways$Net;" ∈ wsX5_streetsKeepLayers := by decide +kernel
theorem iX5_streetsKeepLayers_X5 : ∀ w ∈ u_ws RX5 TX5 8, w ∈ wsX5_streetsKeepLayers := by decide +kernel
theorem mX5_streetsKeepLayers_2 : Cond.fieldLink RX5 66 "Layerways$Net" "size" "I" ∈ wsX5_streetsKeepLayers := by decide +kernel
theorem iX5_streetsKeepLayers_X3 : ∀ w ∈ u_ws RX3 TX3 3, w ∈ wsX5_streetsKeepLayers := by decide +kernel
def sX5_streetsKeepLayers_15 (nN : (Nat → Int32)) (fL : (Nat → Int32)) (s16 : Int32) (s24 : Int32) : Option ((Int32 ⊕ Int32) ⊕ Int32) := if s16 ≤ s24 then some (.inl (.inr s24)) else (fX3_joins nN s16 s24).bind fun v28 => if v28 = 0 then some (.inr (s24 + 1)) else (fX5_isSameOrNextLayer fL s16 s24).bind fun v29 => if v29 = 0 then some (.inl (.inl 0)) else some (.inr (s24 + 1))
def sX5_streetsKeepLayers_2 (nS : Int32) (nN : (Nat → Int32)) (fL : (Nat → Int32)) (s16 : Int32) : Option ((Int32 ⊕ Int32) ⊕ Int32) := if nS ≤ s16 then some (.inl (.inr s16)) else (zloop (sX5_streetsKeepLayers_15 nN fL s16) 32 0).bind fun e26 => Sum.elim (fun p30 : Int32 => some (.inl (.inl p30))) (fun e26 : Int32 => some (.inr (s16 + 1))) e26
def fX5_streetsKeepLayers (nS : Int32) (nN : (Nat → Int32)) (fL : (Nat → Int32)) : Option (Int32) := (zloop (sX5_streetsKeepLayers_2 nS nN fL) 32 0).bind fun e18 => Sum.elim (fun p31 : Int32 => some p31) (fun e18 : Int32 => some 1) e18
set_option maxRecDepth 100000 in
set_option maxHeartbeats 4000000 in
theorem kX5_streetsKeepLayers (l : Launch) (K : zK) (aH : Nat) (aN : Nat) (aNk : Nat) (aNn : Nat) (aF : Nat) (aFl : Nat) (aFc : Nat) (aFq : Nat) (aA : Nat) (aC : Nat) (aO : Nat) (aX : Nat)  (gB : Int32) (gK : Int32) (nS : Int32) (nK : (Nat → Int32)) (nN : (Nat → Int32)) (fM : Int32) (fL : (Nat → Int32)) (fC : (Nat → Int32)) (fQ : (Nat → Int32)) (r : Int32) (hres : fX5_streetsKeepLayers nS nN fL = some r) : zM l K yX5_streetsKeepLayers wsX5_streetsKeepLayers ({ frames := 2, cells := 0, slots := 0, locals := 43 }) [.ref aH] [(aH, .inr (5, [.ref aN, .ref aF, .ref aA, .ref aC, .ref aO, .ref aX, .int gB, .int gK])), (aN, .inr (3, [.ref aNk, .ref aNn, .int nS])), (aNk, .inl (K.2 0, 12, .inl nK)), (aNn, .inl (K.2 0, 12, .inl nN)), (aF, .inr (2, [.ref aFl, .ref aFc, .ref aFq, .int fM])), (aFl, .inl (K.2 0, 12, .inl fL)), (aFc, .inl (K.2 0, 12, .inl fC)), (aFq, .inl (K.2 0, 12, .inl fQ))] (fun _ : Unit => some (.int r)) (fun _ : Unit => [(aH, .inr (5, [.ref aN, .ref aF, .ref aA, .ref aC, .ref aO, .ref aX, .int gB, .int gK])), (aN, .inr (3, [.ref aNk, .ref aNn, .int nS])), (aNk, .inl (K.2 0, 12, .inl nK)), (aNn, .inl (K.2 0, 12, .inl nN)), (aF, .inr (2, [.ref aFl, .ref aFc, .ref aFq, .int fM])), (aFl, .inl (K.2 0, 12, .inl fL)), (aFc, .inl (K.2 0, 12, .inl fC)), (aFq, .inl (K.2 0, 12, .inl fQ))]) 0 0 := by
  refine zM.intZ (cc := cX5_streetsKeepLayers) (maxL := 3) (ret := (some .boolean)) rfl (by decide) (Nat.le_of_ble_eq_true rfl) rfl ?_
  intro G hGl hG hN hE
  have hR : ∀ (pc : Nat) (lv : zL), narrow .boolean (.int r) = .int r → decode cX5_streetsKeepLayers pc = .ok (.ireturn, 1) → zj G pc lv [.int r] [(aH, .inr (5, [.ref aN, .ref aF, .ref aA, .ref aC, .ref aO, .ref aX, .int gB, .int gK])), (aN, .inr (3, [.ref aNk, .ref aNn, .int nS])), (aNk, .inl (K.2 0, 12, .inl nK)), (aNn, .inl (K.2 0, 12, .inl nN)), (aF, .inr (2, [.ref aFl, .ref aFc, .ref aFq, .int fM])), (aFl, .inl (K.2 0, 12, .inl fL)), (aFc, .inl (K.2 0, 12, .inl fC)), (aFq, .inl (K.2 0, 12, .inl fQ))] 0 0 := fun pc lv n d => hE () _ rfl n pc lv d
  clear hE
  unfold fX5_streetsKeepLayers at hres
  show zj G 0 [(0, .ref aH)] [] [(aH, .inr (5, [.ref aN, .ref aF, .ref aA, .ref aC, .ref aO, .ref aX, .int gB, .int gK])), (aN, .inr (3, [.ref aNk, .ref aNn, .int nS])), (aNk, .inl (K.2 0, 12, .inl nK)), (aNn, .inl (K.2 0, 12, .inl nN)), (aF, .inr (2, [.ref aFl, .ref aFc, .ref aFq, .int fM])), (aFl, .inl (K.2 0, 12, .inl fL)), (aFc, .inl (K.2 0, 12, .inl fC)), (aFq, .inl (K.2 0, 12, .inl fQ))] 0 0
  refine z_iconst 0 hG dX5_streetsKeepLayers_0 (by decide) ?_
  refine z_istore_n (lv' := [(1, .int 0), (0, .ref aH)]) hG dX5_streetsKeepLayers_1 (by decide) rfl ?_
  obtain ⟨e18, hx, hres⟩ := z_bind hres
  refine z_lv [1, 0] (lv' := [(0, .ref aH), (1, .int 0)]) rfl ?_
  refine z_loopE hx (fun s16 : Int32 => [(0, .ref aH), (1, .int s16)]) (fun s16 : Int32 => [(aH, .inr (5, [.ref aN, .ref aF, .ref aA, .ref aC, .ref aO, .ref aX, .int gB, .int gK])), (aN, .inr (3, [.ref aNk, .ref aNn, .int nS])), (aNk, .inl (K.2 0, 12, .inl nK)), (aNn, .inl (K.2 0, 12, .inl nN)), (aF, .inr (2, [.ref aFl, .ref aFc, .ref aFq, .int fM])), (aFl, .inl (K.2 0, 12, .inl fL)), (aFc, .inl (K.2 0, 12, .inl fC)), (aFq, .inl (K.2 0, 12, .inl fQ))]) (fun p31 : Int32 => ∀ (pc : Nat) (lv : zL), narrow .boolean (.int p31) = .int p31 → decode cX5_streetsKeepLayers pc = .ok (.ireturn, 1) → zj G pc lv [.int p31] [(aH, .inr (5, [.ref aN, .ref aF, .ref aA, .ref aC, .ref aO, .ref aX, .int gB, .int gK])), (aN, .inr (3, [.ref aNk, .ref aNn, .int nS])), (aNk, .inl (K.2 0, 12, .inl nK)), (aNn, .inl (K.2 0, 12, .inl nN)), (aF, .inr (2, [.ref aFl, .ref aFc, .ref aFq, .int fM])), (aFl, .inl (K.2 0, 12, .inl fL)), (aFc, .inl (K.2 0, 12, .inl fC)), (aFq, .inl (K.2 0, 12, .inl fQ))] 0 0) (fun e18 : Int32 => zj G 55 [(0, .ref aH), (1, .int e18)] [] [(aH, .inr (5, [.ref aN, .ref aF, .ref aA, .ref aC, .ref aO, .ref aX, .int gB, .int gK])), (aN, .inr (3, [.ref aNk, .ref aNn, .int nS])), (aNk, .inl (K.2 0, 12, .inl nK)), (aNn, .inl (K.2 0, 12, .inl nN)), (aF, .inr (2, [.ref aFl, .ref aFc, .ref aFq, .int fM])), (aFl, .inl (K.2 0, 12, .inl fL)), (aFc, .inl (K.2 0, 12, .inl fC)), (aFq, .inl (K.2 0, 12, .inl fQ))] 0 0) (fun p31 hp => ?_) (fun e18 hp => ?_) ?_
  · subst hp
    replace hres := z_eliml hres
    obtain rfl := Option.some.inj hres
    exact hR
  · subst hp
    replace hres := z_elimr hres
    refine z_iconst 1 hG dX5_streetsKeepLayers_55 (by decide) ?_
    obtain rfl := Option.some.inj hres
    exact (hR _ _ (z_nar01 (Or.inr rfl)) dX5_streetsKeepLayers_56)
  · intro s16 w17 hres hX1 hX2 hB
    unfold sX5_streetsKeepLayers_2 at hres
    refine z_iload_n hG dX5_streetsKeepLayers_2 1 rfl ?_
    refine z_aload_n hG dX5_streetsKeepLayers_3 0 rfl ?_
    refine z_get (ci := 5) (C := RX5) (T := TX5) (N := 8) hG dX5_streetsKeepLayers_4 iX5_streetsKeepLayers_X5 0 (by decide) mX5_streetsKeepLayers_0 rfl rfl 0 rfl rfl ?_
    refine z_get (ci := 3) (C := RX3) (T := TX3) (N := 3) hG dX5_streetsKeepLayers_7 iX5_streetsKeepLayers_X3 2 (by decide) mX5_streetsKeepLayers_2 rfl rfl 1 rfl rfl ?_
    refine z_icmp_ge 55 hG dX5_streetsKeepLayers_10 (by decide) (fun c => ?_) (fun c => ?_)
    · replace hres := z_ifp c hres
      exact (hX2 s16 (Option.some.inj hres).symm)
    · replace hres := z_ifn c hres
      refine z_iconst 0 hG dX5_streetsKeepLayers_13 (by decide) ?_
      refine z_istore_n (lv' := [(2, .int 0), (0, .ref aH), (1, .int s16)]) hG dX5_streetsKeepLayers_14 (by decide) rfl ?_
      obtain ⟨e26, hx, hres⟩ := z_bind hres
      refine z_lv [1, 2, 0] (lv' := [(0, .ref aH), (1, .int s16), (2, .int 0)]) rfl ?_
      refine z_loopE hx (fun s24 : Int32 => [(0, .ref aH), (1, .int s16), (2, .int s24)]) (fun s24 : Int32 => [(aH, .inr (5, [.ref aN, .ref aF, .ref aA, .ref aC, .ref aO, .ref aX, .int gB, .int gK])), (aN, .inr (3, [.ref aNk, .ref aNn, .int nS])), (aNk, .inl (K.2 0, 12, .inl nK)), (aNn, .inl (K.2 0, 12, .inl nN)), (aF, .inr (2, [.ref aFl, .ref aFc, .ref aFq, .int fM])), (aFl, .inl (K.2 0, 12, .inl fL)), (aFc, .inl (K.2 0, 12, .inl fC)), (aFq, .inl (K.2 0, 12, .inl fQ))]) (fun p30 : Int32 => ∀ (pc : Nat) (lv : zL), narrow .boolean (.int p30) = .int p30 → decode cX5_streetsKeepLayers pc = .ok (.ireturn, 1) → zj G pc lv [.int p30] [(aH, .inr (5, [.ref aN, .ref aF, .ref aA, .ref aC, .ref aO, .ref aX, .int gB, .int gK])), (aN, .inr (3, [.ref aNk, .ref aNn, .int nS])), (aNk, .inl (K.2 0, 12, .inl nK)), (aNn, .inl (K.2 0, 12, .inl nN)), (aF, .inr (2, [.ref aFl, .ref aFc, .ref aFq, .int fM])), (aFl, .inl (K.2 0, 12, .inl fL)), (aFc, .inl (K.2 0, 12, .inl fC)), (aFq, .inl (K.2 0, 12, .inl fQ))] 0 0) (fun e26 : Int32 => zj G 49 [(0, .ref aH), (1, .int s16), (2, .int e26)] [] [(aH, .inr (5, [.ref aN, .ref aF, .ref aA, .ref aC, .ref aO, .ref aX, .int gB, .int gK])), (aN, .inr (3, [.ref aNk, .ref aNn, .int nS])), (aNk, .inl (K.2 0, 12, .inl nK)), (aNn, .inl (K.2 0, 12, .inl nN)), (aF, .inr (2, [.ref aFl, .ref aFc, .ref aFq, .int fM])), (aFl, .inl (K.2 0, 12, .inl fL)), (aFc, .inl (K.2 0, 12, .inl fC)), (aFq, .inl (K.2 0, 12, .inl fQ))] 0 0) (fun p30 hp => ?_) (fun e26 hp => ?_) ?_
      · subst hp
        replace hres := z_eliml hres
        exact hX1 _ (Option.some.inj hres).symm
      · subst hp
        replace hres := z_elimr hres
        refine z_iinc (s16 + 1) (lv' := [(1, .int (s16 + 1)), (0, .ref aH), (2, .int e26)]) hG dX5_streetsKeepLayers_49 1 rfl rfl (by decide) rfl ?_
        refine z_goto 2 hG dX5_streetsKeepLayers_52 (by decide) ?_
        exact (z_lv [1, 0] rfl (hB (s16 + 1) (Option.some.inj hres).symm))
      · intro s24 w25 hres hX1 hX2 hB
        unfold sX5_streetsKeepLayers_15 at hres
        refine z_iload_n hG dX5_streetsKeepLayers_15 2 rfl ?_
        refine z_iload_n hG dX5_streetsKeepLayers_16 1 rfl ?_
        refine z_icmp_ge 49 hG dX5_streetsKeepLayers_17 (by decide) (fun c => ?_) (fun c => ?_)
        · replace hres := z_ifp c hres
          exact (hX2 s24 (Option.some.inj hres).symm)
        · replace hres := z_ifn c hres
          refine z_aload_n hG dX5_streetsKeepLayers_20 0 rfl ?_
          refine z_get (ci := 5) (C := RX5) (T := TX5) (N := 8) hG dX5_streetsKeepLayers_21 iX5_streetsKeepLayers_X5 0 (by decide) mX5_streetsKeepLayers_0 rfl rfl 0 rfl rfl ?_
          refine z_iload_n hG dX5_streetsKeepLayers_24 1 rfl ?_
          refine z_iload_n hG dX5_streetsKeepLayers_25 2 rfl ?_
          obtain ⟨v28, hv, hres⟩ := z_bind hres
          refine z_callV (As := [.int s16, .int s24]) (rest := []) (wr := [(aH, .inr (5, [.ref aN, .ref aF, .ref aA, .ref aC, .ref aO, .ref aX, .int gB, .int gK])), (aF, .inr (2, [.ref aFl, .ref aFc, .ref aFq, .int fM])), (aFl, .inl (K.2 0, 12, .inl fL)), (aFc, .inl (K.2 0, 12, .inl fC)), (aFq, .inl (K.2 0, 12, .inl fQ))]) (ws' := (fun _ : Unit => [(aH, .inr (5, [.ref aN, .ref aF, .ref aA, .ref aC, .ref aO, .ref aX, .int gB, .int gK])), (aN, .inr (3, [.ref aNk, .ref aNn, .int nS])), (aNk, .inl (K.2 0, 12, .inl nK)), (aNn, .inl (K.2 0, 12, .inl nN)), (aF, .inr (2, [.ref aFl, .ref aFc, .ref aFq, .int fM])), (aFl, .inl (K.2 0, 12, .inl fL)), (aFc, .inl (K.2 0, 12, .inl fC)), (aFq, .inl (K.2 0, 12, .inl fQ))])) (stk := (fun _ : Unit => [.int v28])) (kc' := 0) (ks' := 0) (n := 2) (C := RX3) (ci := 3) hG dX5_streetsKeepLayers_26 (kX3_joins _ K aN aNk aNn nS nK nN s16 s24 v28 hv) gX5_streetsKeepLayers_X3_joins rfl rfl rfl ⟨rfl, by decide, by decide, rfl⟩ ⟨by decide, by decide⟩ (Nat.le_of_ble_eq_true rfl) ⟨(Nat.le_of_ble_eq_true rfl), (Nat.le_of_ble_eq_true rfl)⟩ [1, 2, 3] [0, 4, 5, 6, 7] [0, 5, 6, 7, 1, 2, 3, 4] rfl rfl rfl rfl (by decide) rfl (fun _ => rfl) (fun _ => rfl) rfl rfl rfl 0 rfl rfl rfl rfl (fun _ => ?_)
          refine z_if_eq 43 hG dX5_streetsKeepLayers_29 (by decide) (fun c => ?_) (fun c => ?_)
          · replace hres := z_ifp c hres
            refine z_iinc (s24 + 1) (lv' := [(2, .int (s24 + 1)), (0, .ref aH), (1, .int s16)]) hG dX5_streetsKeepLayers_43 2 rfl rfl (by decide) rfl ?_
            refine z_goto 15 hG dX5_streetsKeepLayers_46 (by decide) ?_
            exact (z_lv [1, 2, 0] rfl (hB (s24 + 1) (Option.some.inj hres).symm))
          · replace hres := z_ifn c hres
            refine z_aload_n hG dX5_streetsKeepLayers_32 0 rfl ?_
            refine z_iload_n hG dX5_streetsKeepLayers_33 1 rfl ?_
            refine z_iload_n hG dX5_streetsKeepLayers_34 2 rfl ?_
            obtain ⟨v29, hv, hres⟩ := z_bind hres
            refine z_callV (As := [.int s16, .int s24]) (rest := []) (wr := [(aN, .inr (3, [.ref aNk, .ref aNn, .int nS])), (aNk, .inl (K.2 0, 12, .inl nK)), (aNn, .inl (K.2 0, 12, .inl nN))]) (ws' := (fun _ : Unit => [(aH, .inr (5, [.ref aN, .ref aF, .ref aA, .ref aC, .ref aO, .ref aX, .int gB, .int gK])), (aN, .inr (3, [.ref aNk, .ref aNn, .int nS])), (aNk, .inl (K.2 0, 12, .inl nK)), (aNn, .inl (K.2 0, 12, .inl nN)), (aF, .inr (2, [.ref aFl, .ref aFc, .ref aFq, .int fM])), (aFl, .inl (K.2 0, 12, .inl fL)), (aFc, .inl (K.2 0, 12, .inl fC)), (aFq, .inl (K.2 0, 12, .inl fQ))])) (stk := (fun _ : Unit => [.int v29])) (kc' := 0) (ks' := 0) (n := 2) (C := RX5) (ci := 5) hG dX5_streetsKeepLayers_35 (kX5_isSameOrNextLayer _ K aH aF aFl aFc aFq aN aA aC aO aX gB gK fM fL fC fQ s16 s24 v29 hv) gX5_streetsKeepLayers_X5_isSameOrNextLayer rfl rfl rfl ⟨rfl, by decide, by decide, rfl⟩ ⟨by decide, by decide⟩ (Nat.le_of_ble_eq_true rfl) ⟨(Nat.le_of_ble_eq_true rfl), (Nat.le_of_ble_eq_true rfl)⟩ [0, 4, 5, 6, 7] [1, 2, 3] [3, 0, 1, 2, 4, 5, 6, 7] rfl rfl rfl rfl (by decide) rfl (fun _ => rfl) (fun _ => rfl) rfl rfl rfl 0 rfl rfl rfl rfl (fun _ => ?_)
            refine z_if_ne 43 hG dX5_streetsKeepLayers_38 (by decide) (fun c => ?_) (fun c => ?_)
            · replace hres := z_ifn c hres
              refine z_iinc (s24 + 1) (lv' := [(2, .int (s24 + 1)), (0, .ref aH), (1, .int s16)]) hG dX5_streetsKeepLayers_43 2 rfl rfl (by decide) rfl ?_
              refine z_goto 15 hG dX5_streetsKeepLayers_46 (by decide) ?_
              exact (z_lv [1, 2, 0] rfl (hB (s24 + 1) (Option.some.inj hres).symm))
            · replace hres := z_ifp c hres
              refine z_iconst 0 hG dX5_streetsKeepLayers_41 (by decide) ?_
              exact (hX1 0 (Option.some.inj hres).symm _ _ (z_nar01 (Or.inl rfl)) dX5_streetsKeepLayers_42)

theorem dX5_isFedByLayerBefore_0 : decode cX5_isFedByLayerBefore 0 = .ok (.iconst 0, 1) := by decide +kernel
theorem dX5_isFedByLayerBefore_1 : decode cX5_isFedByLayerBefore 1 = .ok (.istore_n 2, 1) := by decide +kernel
theorem dX5_isFedByLayerBefore_2 : decode cX5_isFedByLayerBefore 2 = .ok (.iconst 0, 1) := by decide +kernel
theorem dX5_isFedByLayerBefore_3 : decode cX5_isFedByLayerBefore 3 = .ok (.istore_n 3, 1) := by decide +kernel
theorem dX5_isFedByLayerBefore_4 : decode cX5_isFedByLayerBefore 4 = .ok (.iconst 0, 1) := by decide +kernel
theorem dX5_isFedByLayerBefore_5 : decode cX5_isFedByLayerBefore 5 = .ok (.istore 4, 2) := by decide +kernel
theorem dX5_isFedByLayerBefore_7 : decode cX5_isFedByLayerBefore 7 = .ok (.iload 4, 2) := by decide +kernel
theorem dX5_isFedByLayerBefore_9 : decode cX5_isFedByLayerBefore 9 = .ok (.aload_n 0, 1) := by decide +kernel
theorem dX5_isFedByLayerBefore_10 : decode cX5_isFedByLayerBefore 10 = .ok (.getfield 10, 3) := by decide +kernel
theorem dX5_isFedByLayerBefore_13 : decode cX5_isFedByLayerBefore 13 = .ok (.getfield 66, 3) := by decide +kernel
theorem dX5_isFedByLayerBefore_16 : decode cX5_isFedByLayerBefore 16 = .ok (.if_icmp .ge 62, 3) := by decide +kernel
theorem dX5_isFedByLayerBefore_19 : decode cX5_isFedByLayerBefore 19 = .ok (.aload_n 0, 1) := by decide +kernel
theorem dX5_isFedByLayerBefore_20 : decode cX5_isFedByLayerBefore 20 = .ok (.getfield 10, 3) := by decide +kernel
theorem dX5_isFedByLayerBefore_23 : decode cX5_isFedByLayerBefore 23 = .ok (.iload_n 1, 1) := by decide +kernel
theorem dX5_isFedByLayerBefore_24 : decode cX5_isFedByLayerBefore 24 = .ok (.iload 4, 2) := by decide +kernel
theorem dX5_isFedByLayerBefore_26 : decode cX5_isFedByLayerBefore 26 = .ok (.invokevirtual 95, 3) := by decide +kernel
theorem dX5_isFedByLayerBefore_29 : decode cX5_isFedByLayerBefore 29 = .ok (.ifCond .eq 43, 3) := by decide +kernel
theorem dX5_isFedByLayerBefore_32 : decode cX5_isFedByLayerBefore 32 = .ok (.aload_n 0, 1) := by decide +kernel
theorem dX5_isFedByLayerBefore_33 : decode cX5_isFedByLayerBefore 33 = .ok (.getfield 19, 3) := by decide +kernel
theorem dX5_isFedByLayerBefore_36 : decode cX5_isFedByLayerBefore 36 = .ok (.getfield 137, 3) := by decide +kernel
theorem dX5_isFedByLayerBefore_39 : decode cX5_isFedByLayerBefore 39 = .ok (.iload 4, 2) := by decide +kernel
theorem dX5_isFedByLayerBefore_41 : decode cX5_isFedByLayerBefore 41 = .ok (.iaload, 1) := by decide +kernel
theorem dX5_isFedByLayerBefore_42 : decode cX5_isFedByLayerBefore 42 = .ok (.aload_n 0, 1) := by decide +kernel
theorem dX5_isFedByLayerBefore_43 : decode cX5_isFedByLayerBefore 43 = .ok (.getfield 19, 3) := by decide +kernel
theorem dX5_isFedByLayerBefore_46 : decode cX5_isFedByLayerBefore 46 = .ok (.getfield 137, 3) := by decide +kernel
theorem dX5_isFedByLayerBefore_49 : decode cX5_isFedByLayerBefore 49 = .ok (.iload_n 1, 1) := by decide +kernel
theorem dX5_isFedByLayerBefore_50 : decode cX5_isFedByLayerBefore 50 = .ok (.iaload, 1) := by decide +kernel
theorem dX5_isFedByLayerBefore_51 : decode cX5_isFedByLayerBefore 51 = .ok (.iconst 1, 1) := by decide +kernel
theorem dX5_isFedByLayerBefore_52 : decode cX5_isFedByLayerBefore 52 = .ok (.isub, 1) := by decide +kernel
theorem dX5_isFedByLayerBefore_53 : decode cX5_isFedByLayerBefore 53 = .ok (.if_icmp .ne 19, 3) := by decide +kernel
theorem dX5_isFedByLayerBefore_56 : decode cX5_isFedByLayerBefore 56 = .ok (.iinc 2 1, 3) := by decide +kernel
theorem dX5_isFedByLayerBefore_59 : decode cX5_isFedByLayerBefore 59 = .ok (.iload_n 3, 1) := by decide +kernel
theorem dX5_isFedByLayerBefore_60 : decode cX5_isFedByLayerBefore 60 = .ok (.aload_n 0, 1) := by decide +kernel
theorem dX5_isFedByLayerBefore_61 : decode cX5_isFedByLayerBefore 61 = .ok (.getfield 19, 3) := by decide +kernel
theorem dX5_isFedByLayerBefore_64 : decode cX5_isFedByLayerBefore 64 = .ok (.getfield 151, 3) := by decide +kernel
theorem dX5_isFedByLayerBefore_67 : decode cX5_isFedByLayerBefore 67 = .ok (.iload 4, 2) := by decide +kernel
theorem dX5_isFedByLayerBefore_69 : decode cX5_isFedByLayerBefore 69 = .ok (.iaload, 1) := by decide +kernel
theorem dX5_isFedByLayerBefore_70 : decode cX5_isFedByLayerBefore 70 = .ok (.iadd, 1) := by decide +kernel
theorem dX5_isFedByLayerBefore_71 : decode cX5_isFedByLayerBefore 71 = .ok (.istore_n 3, 1) := by decide +kernel
theorem dX5_isFedByLayerBefore_72 : decode cX5_isFedByLayerBefore 72 = .ok (.iinc 4 1, 3) := by decide +kernel
theorem dX5_isFedByLayerBefore_75 : decode cX5_isFedByLayerBefore 75 = .ok (.goto (-68), 3) := by decide +kernel
theorem dX5_isFedByLayerBefore_78 : decode cX5_isFedByLayerBefore 78 = .ok (.iload_n 2, 1) := by decide +kernel
theorem dX5_isFedByLayerBefore_79 : decode cX5_isFedByLayerBefore 79 = .ok (.ifCond .le 20, 3) := by decide +kernel
theorem dX5_isFedByLayerBefore_82 : decode cX5_isFedByLayerBefore 82 = .ok (.iload_n 3, 1) := by decide +kernel
theorem dX5_isFedByLayerBefore_83 : decode cX5_isFedByLayerBefore 83 = .ok (.aload_n 0, 1) := by decide +kernel
theorem dX5_isFedByLayerBefore_84 : decode cX5_isFedByLayerBefore 84 = .ok (.getfield 19, 3) := by decide +kernel
theorem dX5_isFedByLayerBefore_87 : decode cX5_isFedByLayerBefore 87 = .ok (.getfield 151, 3) := by decide +kernel
theorem dX5_isFedByLayerBefore_90 : decode cX5_isFedByLayerBefore 90 = .ok (.iload_n 1, 1) := by decide +kernel
theorem dX5_isFedByLayerBefore_91 : decode cX5_isFedByLayerBefore 91 = .ok (.iaload, 1) := by decide +kernel
theorem dX5_isFedByLayerBefore_92 : decode cX5_isFedByLayerBefore 92 = .ok (.if_icmp .ne 7, 3) := by decide +kernel
theorem dX5_isFedByLayerBefore_95 : decode cX5_isFedByLayerBefore 95 = .ok (.iconst 1, 1) := by decide +kernel
theorem dX5_isFedByLayerBefore_96 : decode cX5_isFedByLayerBefore 96 = .ok (.goto 4, 3) := by decide +kernel
theorem dX5_isFedByLayerBefore_99 : decode cX5_isFedByLayerBefore 99 = .ok (.iconst 0, 1) := by decide +kernel
theorem dX5_isFedByLayerBefore_100 : decode cX5_isFedByLayerBefore 100 = .ok (.ireturn, 1) := by decide +kernel
set_option maxRecDepth 20000 in
theorem ggX5_isFedByLayerBefore_X3_joins : GoodIn wsX5_isFedByLayerBefore wsX3_joins := goodIn_r _ [10, 11, 12, 13, 14, 23, 24, 25] (by decide +kernel) (by decide +kernel)
set_option maxRecDepth 20000 in
theorem gX5_isFedByLayerBefore_X3_joins : GoodIn wsX5_isFedByLayerBefore (wsV RX5 95 RX3 yX3_joins wsX3_joins) := goodIn_app (goodIn_of _ (by decide +kernel)) ggX5_isFedByLayerBefore_X3_joins
theorem mX5_isFedByLayerBefore_0 : Cond.fieldLink RX5 10 "Layerways" "net" "LLayerways$Net;" ∈ wsX5_isFedByLayerBefore := by decide +kernel
theorem iX5_isFedByLayerBefore_X5 : ∀ w ∈ u_ws RX5 TX5 8, w ∈ wsX5_isFedByLayerBefore := by decide +kernel
theorem mX5_isFedByLayerBefore_2 : Cond.fieldLink RX5 66 "Layerways$Net" "size" "I" ∈ wsX5_isFedByLayerBefore := by decide +kernel
theorem iX5_isFedByLayerBefore_X3 : ∀ w ∈ u_ws RX3 TX3 3, w ∈ wsX5_isFedByLayerBefore := by decide +kernel
theorem mX5_isFedByLayerBefore_4 : Cond.fieldLink RX5 19 "Layerways" "fromStart" "LLayerways$Layers;" ∈ wsX5_isFedByLayerBefore := by decide +kernel
theorem mX5_isFedByLayerBefore_5 : Cond.fieldLink RX5 137 "Layerways$Layers" "lengths" "[I" ∈ wsX5_isFedByLayerBefore := by decide +kernel
theorem iX5_isFedByLayerBefore_X2 : ∀ w ∈ u_ws RX2 TX2 4, w ∈ wsX5_isFedByLayerBefore := by decide +kernel
theorem mX5_isFedByLayerBefore_7 : Cond.fieldLink RX5 151 "Layerways$Layers" "counts" "[I" ∈ wsX5_isFedByLayerBefore := by decide +kernel
def sX5_isFedByLayerBefore_7 (nS : Int32) (nN : (Nat → Int32)) (fL : (Nat → Int32)) (fC : (Nat → Int32)) (p0 : Int32) (s3 : Int32 × Int32 × Int32) : Option ((Int32 × Int32 × Int32) ⊕ (Int32 × Int32 × Int32)) := if nS ≤ s3.2.2 then some (.inl (s3.1, s3.2.1, s3.2.2)) else (fX3_joins nN p0 s3.2.2).bind fun v7 => if v7 = 0 then some (.inr (s3.1, s3.2.1, (s3.2.2 + 1))) else if zin s3.2.2 12 then if zin p0 12 then if (fL s3.2.2.toNatClampNeg) = ((fL p0.toNatClampNeg) - 1) then if zin s3.2.2 12 then some (.inr ((s3.1 + 1), (s3.2.1 + (fC s3.2.2.toNatClampNeg)), (s3.2.2 + 1))) else none else some (.inr (s3.1, s3.2.1, (s3.2.2 + 1))) else none else none
def fX5_isFedByLayerBefore (nS : Int32) (nN : (Nat → Int32)) (fL : (Nat → Int32)) (fC : (Nat → Int32)) (p0 : Int32) : Option (Int32) := (zloop (sX5_isFedByLayerBefore_7 nS nN fL fC p0) 32 (0, 0, 0)).bind fun e5 => if e5.1 ≤ 0 then some 0 else if zin p0 12 then if e5.2.1 = (fC p0.toNatClampNeg) then some 1 else some 0 else none
set_option maxRecDepth 100000 in
set_option maxHeartbeats 4000000 in
theorem kX5_isFedByLayerBefore (l : Launch) (K : zK) (aH : Nat) (aN : Nat) (aNk : Nat) (aNn : Nat) (aF : Nat) (aFl : Nat) (aFc : Nat) (aFq : Nat) (aA : Nat) (aC : Nat) (aO : Nat) (aX : Nat)  (gB : Int32) (gK : Int32) (nS : Int32) (nK : (Nat → Int32)) (nN : (Nat → Int32)) (fM : Int32) (fL : (Nat → Int32)) (fC : (Nat → Int32)) (fQ : (Nat → Int32)) (p0 : Int32) (r : Int32) (hres : fX5_isFedByLayerBefore nS nN fL fC p0 = some r) : zM l K yX5_isFedByLayerBefore wsX5_isFedByLayerBefore ({ frames := 2, cells := 0, slots := 0, locals := 43 }) [.ref aH, .int p0] [(aH, .inr (5, [.ref aN, .ref aF, .ref aA, .ref aC, .ref aO, .ref aX, .int gB, .int gK])), (aN, .inr (3, [.ref aNk, .ref aNn, .int nS])), (aNk, .inl (K.2 0, 12, .inl nK)), (aNn, .inl (K.2 0, 12, .inl nN)), (aF, .inr (2, [.ref aFl, .ref aFc, .ref aFq, .int fM])), (aFl, .inl (K.2 0, 12, .inl fL)), (aFc, .inl (K.2 0, 12, .inl fC)), (aFq, .inl (K.2 0, 12, .inl fQ))] (fun _ : Unit => some (.int r)) (fun _ : Unit => [(aH, .inr (5, [.ref aN, .ref aF, .ref aA, .ref aC, .ref aO, .ref aX, .int gB, .int gK])), (aN, .inr (3, [.ref aNk, .ref aNn, .int nS])), (aNk, .inl (K.2 0, 12, .inl nK)), (aNn, .inl (K.2 0, 12, .inl nN)), (aF, .inr (2, [.ref aFl, .ref aFc, .ref aFq, .int fM])), (aFl, .inl (K.2 0, 12, .inl fL)), (aFc, .inl (K.2 0, 12, .inl fC)), (aFq, .inl (K.2 0, 12, .inl fQ))]) 0 0 := by
  refine zM.intZ (cc := cX5_isFedByLayerBefore) (maxL := 5) (ret := (some .boolean)) rfl (by decide) (Nat.le_of_ble_eq_true rfl) rfl ?_
  intro G hGl hG hN hE
  have hR : ∀ (pc : Nat) (lv : zL), narrow .boolean (.int r) = .int r → decode cX5_isFedByLayerBefore pc = .ok (.ireturn, 1) → zj G pc lv [.int r] [(aH, .inr (5, [.ref aN, .ref aF, .ref aA, .ref aC, .ref aO, .ref aX, .int gB, .int gK])), (aN, .inr (3, [.ref aNk, .ref aNn, .int nS])), (aNk, .inl (K.2 0, 12, .inl nK)), (aNn, .inl (K.2 0, 12, .inl nN)), (aF, .inr (2, [.ref aFl, .ref aFc, .ref aFq, .int fM])), (aFl, .inl (K.2 0, 12, .inl fL)), (aFc, .inl (K.2 0, 12, .inl fC)), (aFq, .inl (K.2 0, 12, .inl fQ))] 0 0 := fun pc lv n d => hE () _ rfl n pc lv d
  clear hE
  unfold fX5_isFedByLayerBefore at hres
  show zj G 0 [(0, .ref aH), (1, .int p0)] [] [(aH, .inr (5, [.ref aN, .ref aF, .ref aA, .ref aC, .ref aO, .ref aX, .int gB, .int gK])), (aN, .inr (3, [.ref aNk, .ref aNn, .int nS])), (aNk, .inl (K.2 0, 12, .inl nK)), (aNn, .inl (K.2 0, 12, .inl nN)), (aF, .inr (2, [.ref aFl, .ref aFc, .ref aFq, .int fM])), (aFl, .inl (K.2 0, 12, .inl fL)), (aFc, .inl (K.2 0, 12, .inl fC)), (aFq, .inl (K.2 0, 12, .inl fQ))] 0 0
  refine z_iconst 0 hG dX5_isFedByLayerBefore_0 (by decide) ?_
  refine z_istore_n (lv' := [(2, .int 0), (0, .ref aH), (1, .int p0)]) hG dX5_isFedByLayerBefore_1 (by decide) rfl ?_
  refine z_iconst 0 hG dX5_isFedByLayerBefore_2 (by decide) ?_
  refine z_istore_n (lv' := [(3, .int 0), (2, .int 0), (0, .ref aH), (1, .int p0)]) hG dX5_isFedByLayerBefore_3 (by decide) rfl ?_
  refine z_iconst 0 hG dX5_isFedByLayerBefore_4 (by decide) ?_
  refine z_istore (lv' := [(4, .int 0), (3, .int 0), (2, .int 0), (0, .ref aH), (1, .int p0)]) hG dX5_isFedByLayerBefore_5 (by decide) rfl ?_
  obtain ⟨e5, hx, hres⟩ := z_bind hres
  refine z_lv [3, 4, 2, 1, 0] (lv' := [(0, .ref aH), (1, .int p0), (2, .int 0), (3, .int 0), (4, .int 0)]) rfl ?_
  refine z_loop hx (fun s3 : Int32 × Int32 × Int32 => [(0, .ref aH), (1, .int p0), (2, .int s3.1), (3, .int s3.2.1), (4, .int s3.2.2)]) (fun s3 : Int32 × Int32 × Int32 => [(aH, .inr (5, [.ref aN, .ref aF, .ref aA, .ref aC, .ref aO, .ref aX, .int gB, .int gK])), (aN, .inr (3, [.ref aNk, .ref aNn, .int nS])), (aNk, .inl (K.2 0, 12, .inl nK)), (aNn, .inl (K.2 0, 12, .inl nN)), (aF, .inr (2, [.ref aFl, .ref aFc, .ref aFq, .int fM])), (aFl, .inl (K.2 0, 12, .inl fL)), (aFc, .inl (K.2 0, 12, .inl fC)), (aFq, .inl (K.2 0, 12, .inl fQ))]) (fun e5 : Int32 × Int32 × Int32 => zj G 78 [(0, .ref aH), (1, .int p0), (2, .int e5.1), (3, .int e5.2.1), (4, .int e5.2.2)] [] [(aH, .inr (5, [.ref aN, .ref aF, .ref aA, .ref aC, .ref aO, .ref aX, .int gB, .int gK])), (aN, .inr (3, [.ref aNk, .ref aNn, .int nS])), (aNk, .inl (K.2 0, 12, .inl nK)), (aNn, .inl (K.2 0, 12, .inl nN)), (aF, .inr (2, [.ref aFl, .ref aFc, .ref aFq, .int fM])), (aFl, .inl (K.2 0, 12, .inl fL)), (aFc, .inl (K.2 0, 12, .inl fC)), (aFq, .inl (K.2 0, 12, .inl fQ))] 0 0) ?_ ?_
  · refine z_iload_n hG dX5_isFedByLayerBefore_78 2 rfl ?_
    refine z_if_le 99 hG dX5_isFedByLayerBefore_79 (by decide) (fun c => ?_) (fun c => ?_)
    · replace hres := z_ifp c hres
      refine z_iconst 0 hG dX5_isFedByLayerBefore_99 (by decide) ?_
      obtain rfl := Option.some.inj hres
      exact (hR _ _ (z_nar01 (Or.inl rfl)) dX5_isFedByLayerBefore_100)
    · replace hres := z_ifn c hres
      refine z_iload_n hG dX5_isFedByLayerBefore_82 3 rfl ?_
      refine z_aload_n hG dX5_isFedByLayerBefore_83 0 rfl ?_
      refine z_get (ci := 5) (C := RX5) (T := TX5) (N := 8) hG dX5_isFedByLayerBefore_84 iX5_isFedByLayerBefore_X5 1 (by decide) mX5_isFedByLayerBefore_4 rfl rfl 0 rfl rfl ?_
      refine z_get (ci := 2) (C := RX2) (T := TX2) (N := 4) hG dX5_isFedByLayerBefore_87 iX5_isFedByLayerBefore_X2 1 (by decide) mX5_isFedByLayerBefore_7 rfl rfl 4 rfl rfl ?_
      refine z_iload_n hG dX5_isFedByLayerBefore_90 1 rfl ?_
      obtain ⟨hg, hres⟩ := z_guard hres
      refine z_iald hG dX5_isFedByLayerBefore_91 6 rfl hg ?_
      refine z_icmp_ne 99 hG dX5_isFedByLayerBefore_92 (by decide) (fun c => ?_) (fun c => ?_)
      · replace hres := z_ifn c hres
        refine z_iconst 0 hG dX5_isFedByLayerBefore_99 (by decide) ?_
        obtain rfl := Option.some.inj hres
        exact (hR _ _ (z_nar01 (Or.inl rfl)) dX5_isFedByLayerBefore_100)
      · replace hres := z_ifp c hres
        refine z_iconst 1 hG dX5_isFedByLayerBefore_95 (by decide) ?_
        refine z_goto 100 hG dX5_isFedByLayerBefore_96 (by decide) ?_
        obtain rfl := Option.some.inj hres
        exact (hR _ _ (z_nar01 (Or.inr rfl)) dX5_isFedByLayerBefore_100)
  · intro s3 w4 hres hX hB
    unfold sX5_isFedByLayerBefore_7 at hres
    replace hB : ∀ (z0 : Int32) (z1 : Int32) (z2 : Int32), w4 = .inr (z0, z1, z2) → zj G 7 [(0, .ref aH), (1, .int p0), (2, .int z0), (3, .int z1), (4, .int z2)] [] [(aH, .inr (5, [.ref aN, .ref aF, .ref aA, .ref aC, .ref aO, .ref aX, .int gB, .int gK])), (aN, .inr (3, [.ref aNk, .ref aNn, .int nS])), (aNk, .inl (K.2 0, 12, .inl nK)), (aNn, .inl (K.2 0, 12, .inl nN)), (aF, .inr (2, [.ref aFl, .ref aFc, .ref aFq, .int fM])), (aFl, .inl (K.2 0, 12, .inl fL)), (aFc, .inl (K.2 0, 12, .inl fC)), (aFq, .inl (K.2 0, 12, .inl fQ))] 0 0 := fun z0 z1 z2 h => hB (z0, z1, z2) h
    replace hX : ∀ (z0 : Int32) (z1 : Int32) (z2 : Int32), w4 = .inl (z0, z1, z2) → zj G 78 [(0, .ref aH), (1, .int p0), (2, .int z0), (3, .int z1), (4, .int z2)] [] [(aH, .inr (5, [.ref aN, .ref aF, .ref aA, .ref aC, .ref aO, .ref aX, .int gB, .int gK])), (aN, .inr (3, [.ref aNk, .ref aNn, .int nS])), (aNk, .inl (K.2 0, 12, .inl nK)), (aNn, .inl (K.2 0, 12, .inl nN)), (aF, .inr (2, [.ref aFl, .ref aFc, .ref aFq, .int fM])), (aFl, .inl (K.2 0, 12, .inl fL)), (aFc, .inl (K.2 0, 12, .inl fC)), (aFq, .inl (K.2 0, 12, .inl fQ))] 0 0 := fun z0 z1 z2 h => hX (z0, z1, z2) h
    refine z_iload hG dX5_isFedByLayerBefore_7 4 rfl ?_
    refine z_aload_n hG dX5_isFedByLayerBefore_9 0 rfl ?_
    refine z_get (ci := 5) (C := RX5) (T := TX5) (N := 8) hG dX5_isFedByLayerBefore_10 iX5_isFedByLayerBefore_X5 0 (by decide) mX5_isFedByLayerBefore_0 rfl rfl 0 rfl rfl ?_
    refine z_get (ci := 3) (C := RX3) (T := TX3) (N := 3) hG dX5_isFedByLayerBefore_13 iX5_isFedByLayerBefore_X3 2 (by decide) mX5_isFedByLayerBefore_2 rfl rfl 1 rfl rfl ?_
    refine z_icmp_ge 78 hG dX5_isFedByLayerBefore_16 (by decide) (fun c => ?_) (fun c => ?_)
    · replace hres := z_ifp c hres
      exact (hX s3.1 s3.2.1 s3.2.2 (Option.some.inj hres).symm)
    · replace hres := z_ifn c hres
      refine z_aload_n hG dX5_isFedByLayerBefore_19 0 rfl ?_
      refine z_get (ci := 5) (C := RX5) (T := TX5) (N := 8) hG dX5_isFedByLayerBefore_20 iX5_isFedByLayerBefore_X5 0 (by decide) mX5_isFedByLayerBefore_0 rfl rfl 0 rfl rfl ?_
      refine z_iload_n hG dX5_isFedByLayerBefore_23 1 rfl ?_
      refine z_iload hG dX5_isFedByLayerBefore_24 4 rfl ?_
      obtain ⟨v7, hv, hres⟩ := z_bind hres
      refine z_callV (As := [.int p0, .int s3.2.2]) (rest := []) (wr := [(aH, .inr (5, [.ref aN, .ref aF, .ref aA, .ref aC, .ref aO, .ref aX, .int gB, .int gK])), (aF, .inr (2, [.ref aFl, .ref aFc, .ref aFq, .int fM])), (aFl, .inl (K.2 0, 12, .inl fL)), (aFc, .inl (K.2 0, 12, .inl fC)), (aFq, .inl (K.2 0, 12, .inl fQ))]) (ws' := (fun _ : Unit => [(aH, .inr (5, [.ref aN, .ref aF, .ref aA, .ref aC, .ref aO, .ref aX, .int gB, .int gK])), (aN, .inr (3, [.ref aNk, .ref aNn, .int nS])), (aNk, .inl (K.2 0, 12, .inl nK)), (aNn, .inl (K.2 0, 12, .inl nN)), (aF, .inr (2, [.ref aFl, .ref aFc, .ref aFq, .int fM])), (aFl, .inl (K.2 0, 12, .inl fL)), (aFc, .inl (K.2 0, 12, .inl fC)), (aFq, .inl (K.2 0, 12, .inl fQ))])) (stk := (fun _ : Unit => [.int v7])) (kc' := 0) (ks' := 0) (n := 2) (C := RX3) (ci := 3) hG dX5_isFedByLayerBefore_26 (kX3_joins _ K aN aNk aNn nS nK nN p0 s3.2.2 v7 hv) gX5_isFedByLayerBefore_X3_joins rfl rfl rfl ⟨rfl, by decide, by decide, rfl⟩ ⟨by decide, by decide⟩ (Nat.le_of_ble_eq_true rfl) ⟨(Nat.le_of_ble_eq_true rfl), (Nat.le_of_ble_eq_true rfl)⟩ [1, 2, 3] [0, 4, 5, 6, 7] [0, 5, 6, 7, 1, 2, 3, 4] rfl rfl rfl rfl (by decide) rfl (fun _ => rfl) (fun _ => rfl) rfl rfl rfl 0 rfl rfl rfl rfl (fun _ => ?_)
      refine z_if_eq 72 hG dX5_isFedByLayerBefore_29 (by decide) (fun c => ?_) (fun c => ?_)
      · replace hres := z_ifp c hres
        refine z_iinc (s3.2.2 + 1) (lv' := [(4, .int (s3.2.2 + 1)), (0, .ref aH), (1, .int p0), (2, .int s3.1), (3, .int s3.2.1)]) hG dX5_isFedByLayerBefore_72 4 rfl rfl (by decide) rfl ?_
        refine z_goto 7 hG dX5_isFedByLayerBefore_75 (by decide) ?_
        exact (z_lv [1, 2, 3, 4, 0] rfl (hB s3.1 s3.2.1 (s3.2.2 + 1) (Option.some.inj hres).symm))
      · replace hres := z_ifn c hres
        refine z_aload_n hG dX5_isFedByLayerBefore_32 0 rfl ?_
        refine z_get (ci := 5) (C := RX5) (T := TX5) (N := 8) hG dX5_isFedByLayerBefore_33 iX5_isFedByLayerBefore_X5 1 (by decide) mX5_isFedByLayerBefore_4 rfl rfl 0 rfl rfl ?_
        refine z_get (ci := 2) (C := RX2) (T := TX2) (N := 4) hG dX5_isFedByLayerBefore_36 iX5_isFedByLayerBefore_X2 0 (by decide) mX5_isFedByLayerBefore_5 rfl rfl 4 rfl rfl ?_
        refine z_iload hG dX5_isFedByLayerBefore_39 4 rfl ?_
        obtain ⟨hg, hres⟩ := z_guard hres
        refine z_iald hG dX5_isFedByLayerBefore_41 5 rfl hg ?_
        refine z_aload_n hG dX5_isFedByLayerBefore_42 0 rfl ?_
        refine z_get (ci := 5) (C := RX5) (T := TX5) (N := 8) hG dX5_isFedByLayerBefore_43 iX5_isFedByLayerBefore_X5 1 (by decide) mX5_isFedByLayerBefore_4 rfl rfl 0 rfl rfl ?_
        refine z_get (ci := 2) (C := RX2) (T := TX2) (N := 4) hG dX5_isFedByLayerBefore_46 iX5_isFedByLayerBefore_X2 0 (by decide) mX5_isFedByLayerBefore_5 rfl rfl 4 rfl rfl ?_
        refine z_iload_n hG dX5_isFedByLayerBefore_49 1 rfl ?_
        obtain ⟨hg, hres⟩ := z_guard hres
        refine z_iald hG dX5_isFedByLayerBefore_50 5 rfl hg ?_
        refine z_iconst 1 hG dX5_isFedByLayerBefore_51 (by decide) ?_
        refine z_isub hG dX5_isFedByLayerBefore_52 ?_
        refine z_icmp_ne 72 hG dX5_isFedByLayerBefore_53 (by decide) (fun c => ?_) (fun c => ?_)
        · replace hres := z_ifn c hres
          refine z_iinc (s3.2.2 + 1) (lv' := [(4, .int (s3.2.2 + 1)), (0, .ref aH), (1, .int p0), (2, .int s3.1), (3, .int s3.2.1)]) hG dX5_isFedByLayerBefore_72 4 rfl rfl (by decide) rfl ?_
          refine z_goto 7 hG dX5_isFedByLayerBefore_75 (by decide) ?_
          exact (z_lv [1, 2, 3, 4, 0] rfl (hB s3.1 s3.2.1 (s3.2.2 + 1) (Option.some.inj hres).symm))
        · replace hres := z_ifp c hres
          refine z_iinc (s3.1 + 1) (lv' := [(2, .int (s3.1 + 1)), (0, .ref aH), (1, .int p0), (3, .int s3.2.1), (4, .int s3.2.2)]) hG dX5_isFedByLayerBefore_56 2 rfl rfl (by decide) rfl ?_
          refine z_iload_n hG dX5_isFedByLayerBefore_59 3 rfl ?_
          refine z_aload_n hG dX5_isFedByLayerBefore_60 1 rfl ?_
          refine z_get (ci := 5) (C := RX5) (T := TX5) (N := 8) hG dX5_isFedByLayerBefore_61 iX5_isFedByLayerBefore_X5 1 (by decide) mX5_isFedByLayerBefore_4 rfl rfl 0 rfl rfl ?_
          refine z_get (ci := 2) (C := RX2) (T := TX2) (N := 4) hG dX5_isFedByLayerBefore_64 iX5_isFedByLayerBefore_X2 1 (by decide) mX5_isFedByLayerBefore_7 rfl rfl 4 rfl rfl ?_
          refine z_iload hG dX5_isFedByLayerBefore_67 4 rfl ?_
          obtain ⟨hg, hres⟩ := z_guard hres
          refine z_iald hG dX5_isFedByLayerBefore_69 6 rfl hg ?_
          refine z_iadd hG dX5_isFedByLayerBefore_70 ?_
          refine z_istore_n (lv' := [(3, .int (s3.2.1 + (fC s3.2.2.toNatClampNeg))), (2, .int (s3.1 + 1)), (0, .ref aH), (1, .int p0), (4, .int s3.2.2)]) hG dX5_isFedByLayerBefore_71 (by decide) rfl ?_
          refine z_iinc (s3.2.2 + 1) (lv' := [(4, .int (s3.2.2 + 1)), (3, .int (s3.2.1 + (fC s3.2.2.toNatClampNeg))), (2, .int (s3.1 + 1)), (0, .ref aH), (1, .int p0)]) hG dX5_isFedByLayerBefore_72 4 rfl rfl (by decide) rfl ?_
          refine z_goto 7 hG dX5_isFedByLayerBefore_75 (by decide) ?_
          exact (z_lv [3, 4, 2, 1, 0] rfl (hB (s3.1 + 1) (s3.2.1 + (fC s3.2.2.toNatClampNeg)) (s3.2.2 + 1) (Option.some.inj hres).symm))

theorem dX5_waysAddUp_0 : decode cX5_waysAddUp 0 = .ok (.iconst 0, 1) := by decide +kernel
theorem dX5_waysAddUp_1 : decode cX5_waysAddUp 1 = .ok (.istore_n 1, 1) := by decide +kernel
theorem dX5_waysAddUp_2 : decode cX5_waysAddUp 2 = .ok (.iload_n 1, 1) := by decide +kernel
theorem dX5_waysAddUp_3 : decode cX5_waysAddUp 3 = .ok (.aload_n 0, 1) := by decide +kernel
theorem dX5_waysAddUp_4 : decode cX5_waysAddUp 4 = .ok (.getfield 10, 3) := by decide +kernel
theorem dX5_waysAddUp_7 : decode cX5_waysAddUp 7 = .ok (.getfield 66, 3) := by decide +kernel
theorem dX5_waysAddUp_10 : decode cX5_waysAddUp 10 = .ok (.if_icmp .ge 31, 3) := by decide +kernel
theorem dX5_waysAddUp_13 : decode cX5_waysAddUp 13 = .ok (.aload_n 0, 1) := by decide +kernel
theorem dX5_waysAddUp_14 : decode cX5_waysAddUp 14 = .ok (.getfield 19, 3) := by decide +kernel
theorem dX5_waysAddUp_17 : decode cX5_waysAddUp 17 = .ok (.getfield 137, 3) := by decide +kernel
theorem dX5_waysAddUp_20 : decode cX5_waysAddUp 20 = .ok (.iload_n 1, 1) := by decide +kernel
theorem dX5_waysAddUp_21 : decode cX5_waysAddUp 21 = .ok (.iaload, 1) := by decide +kernel
theorem dX5_waysAddUp_22 : decode cX5_waysAddUp 22 = .ok (.ifCond .le 13, 3) := by decide +kernel
theorem dX5_waysAddUp_25 : decode cX5_waysAddUp 25 = .ok (.aload_n 0, 1) := by decide +kernel
theorem dX5_waysAddUp_26 : decode cX5_waysAddUp 26 = .ok (.iload_n 1, 1) := by decide +kernel
theorem dX5_waysAddUp_27 : decode cX5_waysAddUp 27 = .ok (.invokevirtual 247, 3) := by decide +kernel
theorem dX5_waysAddUp_30 : decode cX5_waysAddUp 30 = .ok (.ifCond .ne 5, 3) := by decide +kernel
theorem dX5_waysAddUp_33 : decode cX5_waysAddUp 33 = .ok (.iconst 0, 1) := by decide +kernel
theorem dX5_waysAddUp_34 : decode cX5_waysAddUp 34 = .ok (.ireturn, 1) := by decide +kernel
theorem dX5_waysAddUp_35 : decode cX5_waysAddUp 35 = .ok (.iinc 1 1, 3) := by decide +kernel
theorem dX5_waysAddUp_38 : decode cX5_waysAddUp 38 = .ok (.goto (-36), 3) := by decide +kernel
theorem dX5_waysAddUp_41 : decode cX5_waysAddUp 41 = .ok (.iconst 1, 1) := by decide +kernel
theorem dX5_waysAddUp_42 : decode cX5_waysAddUp 42 = .ok (.ireturn, 1) := by decide +kernel
set_option maxRecDepth 20000 in
theorem ggX5_waysAddUp_X5_isFedByLayerBefore : GoodIn wsX5_waysAddUp wsX5_isFedByLayerBefore := goodIn_r _ [9, 1, 2, 3, 4, 10, 11, 12, 13, 14, 15, 16, 17, 8, 18, 19, 20, 21, 22, 23, 24, 25, 26, 27, 28, 29, 30, 31, 32, 33] (by decide +kernel) (by decide +kernel)
set_option maxRecDepth 20000 in
theorem gX5_waysAddUp_X5_isFedByLayerBefore : GoodIn wsX5_waysAddUp (wsV RX5 247 RX5 yX5_isFedByLayerBefore wsX5_isFedByLayerBefore) := goodIn_app (goodIn_of _ (by decide +kernel)) ggX5_waysAddUp_X5_isFedByLayerBefore
theorem mX5_waysAddUp_0 : Cond.fieldLink RX5 10 "Layerways" "net" "LLayerways$Net;" ∈ wsX5_waysAddUp := by decide +kernel
theorem iX5_waysAddUp_X5 : ∀ w ∈ u_ws RX5 TX5 8, w ∈ wsX5_waysAddUp := by decide +kernel
theorem mX5_waysAddUp_2 : Cond.fieldLink RX5 66 "Layerways$Net" "size" "I" ∈ wsX5_waysAddUp := by decide +kernel
theorem iX5_waysAddUp_X3 : ∀ w ∈ u_ws RX3 TX3 3, w ∈ wsX5_waysAddUp := by decide +kernel
theorem mX5_waysAddUp_4 : Cond.fieldLink RX5 19 "Layerways" "fromStart" "LLayerways$Layers;" ∈ wsX5_waysAddUp := by decide +kernel
theorem mX5_waysAddUp_5 : Cond.fieldLink RX5 137 "Layerways$Layers" "lengths" "[I" ∈ wsX5_waysAddUp := by decide +kernel
theorem iX5_waysAddUp_X2 : ∀ w ∈ u_ws RX2 TX2 4, w ∈ wsX5_waysAddUp := by decide +kernel
def sX5_waysAddUp_2 (nS : Int32) (nN : (Nat → Int32)) (fL : (Nat → Int32)) (fC : (Nat → Int32)) (s3 : Int32) : Option ((Int32 ⊕ Int32) ⊕ Int32) := if nS ≤ s3 then some (.inl (.inr s3)) else if zin s3 12 then if (fL s3.toNatClampNeg) ≤ 0 then some (.inr (s3 + 1)) else (fX5_isFedByLayerBefore nS nN fL fC s3).bind fun v7 => if v7 = 0 then some (.inl (.inl 0)) else some (.inr (s3 + 1)) else none
def fX5_waysAddUp (nS : Int32) (nN : (Nat → Int32)) (fL : (Nat → Int32)) (fC : (Nat → Int32)) : Option (Int32) := (zloop (sX5_waysAddUp_2 nS nN fL fC) 32 0).bind fun e5 => Sum.elim (fun p8 : Int32 => some p8) (fun e5 : Int32 => some 1) e5
set_option maxRecDepth 100000 in
set_option maxHeartbeats 4000000 in
theorem kX5_waysAddUp (l : Launch) (K : zK) (aH : Nat) (aN : Nat) (aNk : Nat) (aNn : Nat) (aF : Nat) (aFl : Nat) (aFc : Nat) (aFq : Nat) (aA : Nat) (aC : Nat) (aO : Nat) (aX : Nat)  (gB : Int32) (gK : Int32) (nS : Int32) (nK : (Nat → Int32)) (nN : (Nat → Int32)) (fM : Int32) (fL : (Nat → Int32)) (fC : (Nat → Int32)) (fQ : (Nat → Int32)) (r : Int32) (hres : fX5_waysAddUp nS nN fL fC = some r) : zM l K yX5_waysAddUp wsX5_waysAddUp ({ frames := 3, cells := 0, slots := 0, locals := 67 }) [.ref aH] [(aH, .inr (5, [.ref aN, .ref aF, .ref aA, .ref aC, .ref aO, .ref aX, .int gB, .int gK])), (aN, .inr (3, [.ref aNk, .ref aNn, .int nS])), (aNk, .inl (K.2 0, 12, .inl nK)), (aNn, .inl (K.2 0, 12, .inl nN)), (aF, .inr (2, [.ref aFl, .ref aFc, .ref aFq, .int fM])), (aFl, .inl (K.2 0, 12, .inl fL)), (aFc, .inl (K.2 0, 12, .inl fC)), (aFq, .inl (K.2 0, 12, .inl fQ))] (fun _ : Unit => some (.int r)) (fun _ : Unit => [(aH, .inr (5, [.ref aN, .ref aF, .ref aA, .ref aC, .ref aO, .ref aX, .int gB, .int gK])), (aN, .inr (3, [.ref aNk, .ref aNn, .int nS])), (aNk, .inl (K.2 0, 12, .inl nK)), (aNn, .inl (K.2 0, 12, .inl nN)), (aF, .inr (2, [.ref aFl, .ref aFc, .ref aFq, .int fM])), (aFl, .inl (K.2 0, 12, .inl fL)), (aFc, .inl (K.2 0, 12, .inl fC)), (aFq, .inl (K.2 0, 12, .inl fQ))]) 0 0 := by
  refine zM.intZ (cc := cX5_waysAddUp) (maxL := 2) (ret := (some .boolean)) rfl (by decide) (Nat.le_of_ble_eq_true rfl) rfl ?_
  intro G hGl hG hN hE
  have hR : ∀ (pc : Nat) (lv : zL), narrow .boolean (.int r) = .int r → decode cX5_waysAddUp pc = .ok (.ireturn, 1) → zj G pc lv [.int r] [(aH, .inr (5, [.ref aN, .ref aF, .ref aA, .ref aC, .ref aO, .ref aX, .int gB, .int gK])), (aN, .inr (3, [.ref aNk, .ref aNn, .int nS])), (aNk, .inl (K.2 0, 12, .inl nK)), (aNn, .inl (K.2 0, 12, .inl nN)), (aF, .inr (2, [.ref aFl, .ref aFc, .ref aFq, .int fM])), (aFl, .inl (K.2 0, 12, .inl fL)), (aFc, .inl (K.2 0, 12, .inl fC)), (aFq, .inl (K.2 0, 12, .inl fQ))] 0 0 := fun pc lv n d => hE () _ rfl n pc lv d
  clear hE
  unfold fX5_waysAddUp at hres
  show zj G 0 [(0, .ref aH)] [] [(aH, .inr (5, [.ref aN, .ref aF, .ref aA, .ref aC, .ref aO, .ref aX, .int gB, .int gK])), (aN, .inr (3, [.ref aNk, .ref aNn, .int nS])), (aNk, .inl (K.2 0, 12, .inl nK)), (aNn, .inl (K.2 0, 12, .inl nN)), (aF, .inr (2, [.ref aFl, .ref aFc, .ref aFq, .int fM])), (aFl, .inl (K.2 0, 12, .inl fL)), (aFc, .inl (K.2 0, 12, .inl fC)), (aFq, .inl (K.2 0, 12, .inl fQ))] 0 0
  refine z_iconst 0 hG dX5_waysAddUp_0 (by decide) ?_
  refine z_istore_n (lv' := [(1, .int 0), (0, .ref aH)]) hG dX5_waysAddUp_1 (by decide) rfl ?_
  obtain ⟨e5, hx, hres⟩ := z_bind hres
  refine z_lv [1, 0] (lv' := [(0, .ref aH), (1, .int 0)]) rfl ?_
  refine z_loopE hx (fun s3 : Int32 => [(0, .ref aH), (1, .int s3)]) (fun s3 : Int32 => [(aH, .inr (5, [.ref aN, .ref aF, .ref aA, .ref aC, .ref aO, .ref aX, .int gB, .int gK])), (aN, .inr (3, [.ref aNk, .ref aNn, .int nS])), (aNk, .inl (K.2 0, 12, .inl nK)), (aNn, .inl (K.2 0, 12, .inl nN)), (aF, .inr (2, [.ref aFl, .ref aFc, .ref aFq, .int fM])), (aFl, .inl (K.2 0, 12, .inl fL)), (aFc, .inl (K.2 0, 12, .inl fC)), (aFq, .inl (K.2 0, 12, .inl fQ))]) (fun p8 : Int32 => ∀ (pc : Nat) (lv : zL), narrow .boolean (.int p8) = .int p8 → decode cX5_waysAddUp pc = .ok (.ireturn, 1) → zj G pc lv [.int p8] [(aH, .inr (5, [.ref aN, .ref aF, .ref aA, .ref aC, .ref aO, .ref aX, .int gB, .int gK])), (aN, .inr (3, [.ref aNk, .ref aNn, .int nS])), (aNk, .inl (K.2 0, 12, .inl nK)), (aNn, .inl (K.2 0, 12, .inl nN)), (aF, .inr (2, [.ref aFl, .ref aFc, .ref aFq, .int fM])), (aFl, .inl (K.2 0, 12, .inl fL)), (aFc, .inl (K.2 0, 12, .inl fC)), (aFq, .inl (K.2 0, 12, .inl fQ))] 0 0) (fun e5 : Int32 => zj G 41 [(0, .ref aH), (1, .int e5)] [] [(aH, .inr (5, [.ref aN, .ref aF, .ref aA, .ref aC, .ref aO, .ref aX, .int gB, .int gK])), (aN, .inr (3, [.ref aNk, .ref aNn, .int nS])), (aNk, .inl (K.2 0, 12, .inl nK)), (aNn, .inl (K.2 0, 12, .inl nN)), (aF, .inr (2, [.ref aFl, .ref aFc, .ref aFq, .int fM])), (aFl, .inl (K.2 0, 12, .inl fL)), (aFc, .inl (K.2 0, 12, .inl fC)), (aFq, .inl (K.2 0, 12, .inl fQ))] 0 0) (fun p8 hp => ?_) (fun e5 hp => ?_) ?_
  · subst hp
    replace hres := z_eliml hres
    obtain rfl := Option.some.inj hres
    exact hR
  · subst hp
    replace hres := z_elimr hres
    refine z_iconst 1 hG dX5_waysAddUp_41 (by decide) ?_
    obtain rfl := Option.some.inj hres
    exact (hR _ _ (z_nar01 (Or.inr rfl)) dX5_waysAddUp_42)
  · intro s3 w4 hres hX1 hX2 hB
    unfold sX5_waysAddUp_2 at hres
    refine z_iload_n hG dX5_waysAddUp_2 1 rfl ?_
    refine z_aload_n hG dX5_waysAddUp_3 0 rfl ?_
    refine z_get (ci := 5) (C := RX5) (T := TX5) (N := 8) hG dX5_waysAddUp_4 iX5_waysAddUp_X5 0 (by decide) mX5_waysAddUp_0 rfl rfl 0 rfl rfl ?_
    refine z_get (ci := 3) (C := RX3) (T := TX3) (N := 3) hG dX5_waysAddUp_7 iX5_waysAddUp_X3 2 (by decide) mX5_waysAddUp_2 rfl rfl 1 rfl rfl ?_
    refine z_icmp_ge 41 hG dX5_waysAddUp_10 (by decide) (fun c => ?_) (fun c => ?_)
    · replace hres := z_ifp c hres
      exact (hX2 s3 (Option.some.inj hres).symm)
    · replace hres := z_ifn c hres
      refine z_aload_n hG dX5_waysAddUp_13 0 rfl ?_
      refine z_get (ci := 5) (C := RX5) (T := TX5) (N := 8) hG dX5_waysAddUp_14 iX5_waysAddUp_X5 1 (by decide) mX5_waysAddUp_4 rfl rfl 0 rfl rfl ?_
      refine z_get (ci := 2) (C := RX2) (T := TX2) (N := 4) hG dX5_waysAddUp_17 iX5_waysAddUp_X2 0 (by decide) mX5_waysAddUp_5 rfl rfl 4 rfl rfl ?_
      refine z_iload_n hG dX5_waysAddUp_20 1 rfl ?_
      obtain ⟨hg, hres⟩ := z_guard hres
      refine z_iald hG dX5_waysAddUp_21 5 rfl hg ?_
      refine z_if_le 35 hG dX5_waysAddUp_22 (by decide) (fun c => ?_) (fun c => ?_)
      · replace hres := z_ifp c hres
        refine z_iinc (s3 + 1) (lv' := [(1, .int (s3 + 1)), (0, .ref aH)]) hG dX5_waysAddUp_35 1 rfl rfl (by decide) rfl ?_
        refine z_goto 2 hG dX5_waysAddUp_38 (by decide) ?_
        exact (z_lv [1, 0] rfl (hB (s3 + 1) (Option.some.inj hres).symm))
      · replace hres := z_ifn c hres
        refine z_aload_n hG dX5_waysAddUp_25 0 rfl ?_
        refine z_iload_n hG dX5_waysAddUp_26 1 rfl ?_
        obtain ⟨v7, hv, hres⟩ := z_bind hres
        refine z_callV (As := [.int s3]) (rest := []) (wr := ([] : va_W)) (ws' := (fun _ : Unit => [(aH, .inr (5, [.ref aN, .ref aF, .ref aA, .ref aC, .ref aO, .ref aX, .int gB, .int gK])), (aN, .inr (3, [.ref aNk, .ref aNn, .int nS])), (aNk, .inl (K.2 0, 12, .inl nK)), (aNn, .inl (K.2 0, 12, .inl nN)), (aF, .inr (2, [.ref aFl, .ref aFc, .ref aFq, .int fM])), (aFl, .inl (K.2 0, 12, .inl fL)), (aFc, .inl (K.2 0, 12, .inl fC)), (aFq, .inl (K.2 0, 12, .inl fQ))])) (stk := (fun _ : Unit => [.int v7])) (kc' := 0) (ks' := 0) (n := 1) (C := RX5) (ci := 5) hG dX5_waysAddUp_27 (kX5_isFedByLayerBefore _ K aH aN aNk aNn aF aFl aFc aFq aA aC aO aX gB gK nS nK nN fM fL fC fQ s3 v7 hv) gX5_waysAddUp_X5_isFedByLayerBefore rfl rfl rfl ⟨rfl, by decide, by decide, rfl⟩ ⟨by decide, by decide⟩ (Nat.le_of_ble_eq_true rfl) ⟨(Nat.le_of_ble_eq_true rfl), (Nat.le_of_ble_eq_true rfl)⟩ [0, 1, 2, 3, 4, 5, 6, 7] [] [0, 1, 2, 3, 4, 5, 6, 7] rfl rfl rfl rfl (by decide) rfl (fun _ => rfl) (fun _ => rfl) rfl rfl rfl 0 rfl rfl rfl rfl (fun _ => ?_)
        refine z_if_ne 35 hG dX5_waysAddUp_30 (by decide) (fun c => ?_) (fun c => ?_)
        · replace hres := z_ifn c hres
          refine z_iinc (s3 + 1) (lv' := [(1, .int (s3 + 1)), (0, .ref aH)]) hG dX5_waysAddUp_35 1 rfl rfl (by decide) rfl ?_
          refine z_goto 2 hG dX5_waysAddUp_38 (by decide) ?_
          exact (z_lv [1, 0] rfl (hB (s3 + 1) (Option.some.inj hres).symm))
        · replace hres := z_ifp c hres
          refine z_iconst 0 hG dX5_waysAddUp_33 (by decide) ?_
          exact (hX1 0 (Option.some.inj hres).symm _ _ (z_nar01 (Or.inl rfl)) dX5_waysAddUp_34)

theorem dX5_lengthsRise_0 : decode cX5_lengthsRise 0 = .ok (.iconst 1, 1) := by decide +kernel
theorem dX5_lengthsRise_1 : decode cX5_lengthsRise 1 = .ok (.istore_n 1, 1) := by decide +kernel
theorem dX5_lengthsRise_2 : decode cX5_lengthsRise 2 = .ok (.iload_n 1, 1) := by decide +kernel
theorem dX5_lengthsRise_3 : decode cX5_lengthsRise 3 = .ok (.aload_n 0, 1) := by decide +kernel
theorem dX5_lengthsRise_4 : decode cX5_lengthsRise 4 = .ok (.getfield 19, 3) := by decide +kernel
theorem dX5_lengthsRise_7 : decode cX5_lengthsRise 7 = .ok (.getfield 131, 3) := by decide +kernel
theorem dX5_lengthsRise_10 : decode cX5_lengthsRise 10 = .ok (.if_icmp .ge 54, 3) := by decide +kernel
theorem dX5_lengthsRise_13 : decode cX5_lengthsRise 13 = .ok (.aload_n 0, 1) := by decide +kernel
theorem dX5_lengthsRise_14 : decode cX5_lengthsRise 14 = .ok (.getfield 19, 3) := by decide +kernel
theorem dX5_lengthsRise_17 : decode cX5_lengthsRise 17 = .ok (.getfield 148, 3) := by decide +kernel
theorem dX5_lengthsRise_20 : decode cX5_lengthsRise 20 = .ok (.iload_n 1, 1) := by decide +kernel
theorem dX5_lengthsRise_21 : decode cX5_lengthsRise 21 = .ok (.iconst 1, 1) := by decide +kernel
theorem dX5_lengthsRise_22 : decode cX5_lengthsRise 22 = .ok (.isub, 1) := by decide +kernel
theorem dX5_lengthsRise_23 : decode cX5_lengthsRise 23 = .ok (.iaload, 1) := by decide +kernel
theorem dX5_lengthsRise_24 : decode cX5_lengthsRise 24 = .ok (.istore_n 2, 1) := by decide +kernel
theorem dX5_lengthsRise_25 : decode cX5_lengthsRise 25 = .ok (.aload_n 0, 1) := by decide +kernel
theorem dX5_lengthsRise_26 : decode cX5_lengthsRise 26 = .ok (.getfield 19, 3) := by decide +kernel
theorem dX5_lengthsRise_29 : decode cX5_lengthsRise 29 = .ok (.getfield 148, 3) := by decide +kernel
theorem dX5_lengthsRise_32 : decode cX5_lengthsRise 32 = .ok (.iload_n 1, 1) := by decide +kernel
theorem dX5_lengthsRise_33 : decode cX5_lengthsRise 33 = .ok (.iaload, 1) := by decide +kernel
theorem dX5_lengthsRise_34 : decode cX5_lengthsRise 34 = .ok (.istore_n 3, 1) := by decide +kernel
theorem dX5_lengthsRise_35 : decode cX5_lengthsRise 35 = .ok (.aload_n 0, 1) := by decide +kernel
theorem dX5_lengthsRise_36 : decode cX5_lengthsRise 36 = .ok (.getfield 19, 3) := by decide +kernel
theorem dX5_lengthsRise_39 : decode cX5_lengthsRise 39 = .ok (.getfield 137, 3) := by decide +kernel
theorem dX5_lengthsRise_42 : decode cX5_lengthsRise 42 = .ok (.iload_n 2, 1) := by decide +kernel
theorem dX5_lengthsRise_43 : decode cX5_lengthsRise 43 = .ok (.iaload, 1) := by decide +kernel
theorem dX5_lengthsRise_44 : decode cX5_lengthsRise 44 = .ok (.aload_n 0, 1) := by decide +kernel
theorem dX5_lengthsRise_45 : decode cX5_lengthsRise 45 = .ok (.getfield 19, 3) := by decide +kernel
theorem dX5_lengthsRise_48 : decode cX5_lengthsRise 48 = .ok (.getfield 137, 3) := by decide +kernel
theorem dX5_lengthsRise_51 : decode cX5_lengthsRise 51 = .ok (.iload_n 3, 1) := by decide +kernel
theorem dX5_lengthsRise_52 : decode cX5_lengthsRise 52 = .ok (.iaload, 1) := by decide +kernel
theorem dX5_lengthsRise_53 : decode cX5_lengthsRise 53 = .ok (.if_icmp .le 5, 3) := by decide +kernel
theorem dX5_lengthsRise_56 : decode cX5_lengthsRise 56 = .ok (.iconst 0, 1) := by decide +kernel
theorem dX5_lengthsRise_57 : decode cX5_lengthsRise 57 = .ok (.ireturn, 1) := by decide +kernel
theorem dX5_lengthsRise_58 : decode cX5_lengthsRise 58 = .ok (.iinc 1 1, 3) := by decide +kernel
theorem dX5_lengthsRise_61 : decode cX5_lengthsRise 61 = .ok (.goto (-59), 3) := by decide +kernel
theorem dX5_lengthsRise_64 : decode cX5_lengthsRise 64 = .ok (.iconst 1, 1) := by decide +kernel
theorem dX5_lengthsRise_65 : decode cX5_lengthsRise 65 = .ok (.ireturn, 1) := by decide +kernel
theorem mX5_lengthsRise_0 : Cond.fieldLink RX5 19 "Layerways" "fromStart" "LLayerways$Layers;" ∈ wsX5_lengthsRise := by decide +kernel
theorem iX5_lengthsRise_X5 : ∀ w ∈ u_ws RX5 TX5 8, w ∈ wsX5_lengthsRise := by decide +kernel
theorem mX5_lengthsRise_2 : Cond.fieldLink RX5 131 "Layerways$Layers" "come" "I" ∈ wsX5_lengthsRise := by decide +kernel
theorem iX5_lengthsRise_X2 : ∀ w ∈ u_ws RX2 TX2 4, w ∈ wsX5_lengthsRise := by decide +kernel
theorem mX5_lengthsRise_4 : Cond.fieldLink RX5 148 "Layerways$Layers" "queue" "[I" ∈ wsX5_lengthsRise := by decide +kernel
theorem mX5_lengthsRise_5 : Cond.fieldLink RX5 137 "Layerways$Layers" "lengths" "[I" ∈ wsX5_lengthsRise := by decide +kernel
def sX5_lengthsRise_2 (fM : Int32) (fL : (Nat → Int32)) (fQ : (Nat → Int32)) (s1 : Int32) : Option ((Int32 ⊕ Int32) ⊕ Int32) := if fM ≤ s1 then some (.inl (.inr s1)) else if zin (s1 - 1) 12 then if zin s1 12 then if zin (fQ (s1 - 1).toNatClampNeg) 12 then if zin (fQ s1.toNatClampNeg) 12 then if (fL (fQ (s1 - 1).toNatClampNeg).toNatClampNeg) ≤ (fL (fQ s1.toNatClampNeg).toNatClampNeg) then some (.inr (s1 + 1)) else some (.inl (.inl 0)) else none else none else none else none
def fX5_lengthsRise (fM : Int32) (fL : (Nat → Int32)) (fQ : (Nat → Int32)) : Option (Int32) := (zloop (sX5_lengthsRise_2 fM fL fQ) 32 1).bind fun e3 => Sum.elim (fun p5 : Int32 => some p5) (fun e3 : Int32 => some 1) e3
set_option maxRecDepth 100000 in
set_option maxHeartbeats 4000000 in
theorem kX5_lengthsRise (l : Launch) (K : zK) (aH : Nat) (aF : Nat) (aFl : Nat) (aFc : Nat) (aFq : Nat) (aN : Nat) (aA : Nat) (aC : Nat) (aO : Nat) (aX : Nat)  (gB : Int32) (gK : Int32) (fM : Int32) (fL : (Nat → Int32)) (fC : (Nat → Int32)) (fQ : (Nat → Int32)) (r : Int32) (hres : fX5_lengthsRise fM fL fQ = some r) : zM l K yX5_lengthsRise wsX5_lengthsRise ({ frames := 0, cells := 0, slots := 0, locals := 0 }) [.ref aH] [(aH, .inr (5, [.ref aN, .ref aF, .ref aA, .ref aC, .ref aO, .ref aX, .int gB, .int gK])), (aF, .inr (2, [.ref aFl, .ref aFc, .ref aFq, .int fM])), (aFl, .inl (K.2 0, 12, .inl fL)), (aFc, .inl (K.2 0, 12, .inl fC)), (aFq, .inl (K.2 0, 12, .inl fQ))] (fun _ : Unit => some (.int r)) (fun _ : Unit => [(aH, .inr (5, [.ref aN, .ref aF, .ref aA, .ref aC, .ref aO, .ref aX, .int gB, .int gK])), (aF, .inr (2, [.ref aFl, .ref aFc, .ref aFq, .int fM])), (aFl, .inl (K.2 0, 12, .inl fL)), (aFc, .inl (K.2 0, 12, .inl fC)), (aFq, .inl (K.2 0, 12, .inl fQ))]) 0 0 := by
  refine zM.intZ (cc := cX5_lengthsRise) (maxL := 4) (ret := (some .boolean)) rfl (by decide) (Nat.le_of_ble_eq_true rfl) rfl ?_
  intro G hGl hG hN hE
  have hR : ∀ (pc : Nat) (lv : zL), narrow .boolean (.int r) = .int r → decode cX5_lengthsRise pc = .ok (.ireturn, 1) → zj G pc lv [.int r] [(aH, .inr (5, [.ref aN, .ref aF, .ref aA, .ref aC, .ref aO, .ref aX, .int gB, .int gK])), (aF, .inr (2, [.ref aFl, .ref aFc, .ref aFq, .int fM])), (aFl, .inl (K.2 0, 12, .inl fL)), (aFc, .inl (K.2 0, 12, .inl fC)), (aFq, .inl (K.2 0, 12, .inl fQ))] 0 0 := fun pc lv n d => hE () _ rfl n pc lv d
  clear hE
  unfold fX5_lengthsRise at hres
  show zj G 0 [(0, .ref aH)] [] [(aH, .inr (5, [.ref aN, .ref aF, .ref aA, .ref aC, .ref aO, .ref aX, .int gB, .int gK])), (aF, .inr (2, [.ref aFl, .ref aFc, .ref aFq, .int fM])), (aFl, .inl (K.2 0, 12, .inl fL)), (aFc, .inl (K.2 0, 12, .inl fC)), (aFq, .inl (K.2 0, 12, .inl fQ))] 0 0
  refine z_iconst 1 hG dX5_lengthsRise_0 (by decide) ?_
  refine z_istore_n (lv' := [(1, .int 1), (0, .ref aH)]) hG dX5_lengthsRise_1 (by decide) rfl ?_
  obtain ⟨e3, hx, hres⟩ := z_bind hres
  refine z_lv [1, 0] (lv' := [(0, .ref aH), (1, .int 1)]) rfl ?_
  refine z_loopE hx (fun s1 : Int32 => [(0, .ref aH), (1, .int s1)]) (fun s1 : Int32 => [(aH, .inr (5, [.ref aN, .ref aF, .ref aA, .ref aC, .ref aO, .ref aX, .int gB, .int gK])), (aF, .inr (2, [.ref aFl, .ref aFc, .ref aFq, .int fM])), (aFl, .inl (K.2 0, 12, .inl fL)), (aFc, .inl (K.2 0, 12, .inl fC)), (aFq, .inl (K.2 0, 12, .inl fQ))]) (fun p5 : Int32 => ∀ (pc : Nat) (lv : zL), narrow .boolean (.int p5) = .int p5 → decode cX5_lengthsRise pc = .ok (.ireturn, 1) → zj G pc lv [.int p5] [(aH, .inr (5, [.ref aN, .ref aF, .ref aA, .ref aC, .ref aO, .ref aX, .int gB, .int gK])), (aF, .inr (2, [.ref aFl, .ref aFc, .ref aFq, .int fM])), (aFl, .inl (K.2 0, 12, .inl fL)), (aFc, .inl (K.2 0, 12, .inl fC)), (aFq, .inl (K.2 0, 12, .inl fQ))] 0 0) (fun e3 : Int32 => zj G 64 [(0, .ref aH), (1, .int e3)] [] [(aH, .inr (5, [.ref aN, .ref aF, .ref aA, .ref aC, .ref aO, .ref aX, .int gB, .int gK])), (aF, .inr (2, [.ref aFl, .ref aFc, .ref aFq, .int fM])), (aFl, .inl (K.2 0, 12, .inl fL)), (aFc, .inl (K.2 0, 12, .inl fC)), (aFq, .inl (K.2 0, 12, .inl fQ))] 0 0) (fun p5 hp => ?_) (fun e3 hp => ?_) ?_
  · subst hp
    replace hres := z_eliml hres
    obtain rfl := Option.some.inj hres
    exact hR
  · subst hp
    replace hres := z_elimr hres
    refine z_iconst 1 hG dX5_lengthsRise_64 (by decide) ?_
    obtain rfl := Option.some.inj hres
    exact (hR _ _ (z_nar01 (Or.inr rfl)) dX5_lengthsRise_65)
  · intro s1 w2 hres hX1 hX2 hB
    unfold sX5_lengthsRise_2 at hres
    refine z_iload_n hG dX5_lengthsRise_2 1 rfl ?_
    refine z_aload_n hG dX5_lengthsRise_3 0 rfl ?_
    refine z_get (ci := 5) (C := RX5) (T := TX5) (N := 8) hG dX5_lengthsRise_4 iX5_lengthsRise_X5 1 (by decide) mX5_lengthsRise_0 rfl rfl 0 rfl rfl ?_
    refine z_get (ci := 2) (C := RX2) (T := TX2) (N := 4) hG dX5_lengthsRise_7 iX5_lengthsRise_X2 3 (by decide) mX5_lengthsRise_2 rfl rfl 1 rfl rfl ?_
    refine z_icmp_ge 64 hG dX5_lengthsRise_10 (by decide) (fun c => ?_) (fun c => ?_)
    · replace hres := z_ifp c hres
      exact (hX2 s1 (Option.some.inj hres).symm)
    · replace hres := z_ifn c hres
      refine z_aload_n hG dX5_lengthsRise_13 0 rfl ?_
      refine z_get (ci := 5) (C := RX5) (T := TX5) (N := 8) hG dX5_lengthsRise_14 iX5_lengthsRise_X5 1 (by decide) mX5_lengthsRise_0 rfl rfl 0 rfl rfl ?_
      refine z_get (ci := 2) (C := RX2) (T := TX2) (N := 4) hG dX5_lengthsRise_17 iX5_lengthsRise_X2 2 (by decide) mX5_lengthsRise_4 rfl rfl 1 rfl rfl ?_
      refine z_iload_n hG dX5_lengthsRise_20 1 rfl ?_
      refine z_iconst 1 hG dX5_lengthsRise_21 (by decide) ?_
      refine z_isub hG dX5_lengthsRise_22 ?_
      obtain ⟨hg, hres⟩ := z_guard hres
      refine z_iald hG dX5_lengthsRise_23 4 rfl hg ?_
      refine z_istore_n (lv' := [(2, .int (fQ (s1 - 1).toNatClampNeg)), (0, .ref aH), (1, .int s1)]) hG dX5_lengthsRise_24 (by decide) rfl ?_
      refine z_aload_n hG dX5_lengthsRise_25 1 rfl ?_
      refine z_get (ci := 5) (C := RX5) (T := TX5) (N := 8) hG dX5_lengthsRise_26 iX5_lengthsRise_X5 1 (by decide) mX5_lengthsRise_0 rfl rfl 0 rfl rfl ?_
      refine z_get (ci := 2) (C := RX2) (T := TX2) (N := 4) hG dX5_lengthsRise_29 iX5_lengthsRise_X2 2 (by decide) mX5_lengthsRise_4 rfl rfl 1 rfl rfl ?_
      refine z_iload_n hG dX5_lengthsRise_32 2 rfl ?_
      obtain ⟨hg, hres⟩ := z_guard hres
      refine z_iald hG dX5_lengthsRise_33 4 rfl hg ?_
      refine z_istore_n (lv' := [(3, .int (fQ s1.toNatClampNeg)), (2, .int (fQ (s1 - 1).toNatClampNeg)), (0, .ref aH), (1, .int s1)]) hG dX5_lengthsRise_34 (by decide) rfl ?_
      refine z_aload_n hG dX5_lengthsRise_35 2 rfl ?_
      refine z_get (ci := 5) (C := RX5) (T := TX5) (N := 8) hG dX5_lengthsRise_36 iX5_lengthsRise_X5 1 (by decide) mX5_lengthsRise_0 rfl rfl 0 rfl rfl ?_
      refine z_get (ci := 2) (C := RX2) (T := TX2) (N := 4) hG dX5_lengthsRise_39 iX5_lengthsRise_X2 0 (by decide) mX5_lengthsRise_5 rfl rfl 1 rfl rfl ?_
      refine z_iload_n hG dX5_lengthsRise_42 1 rfl ?_
      obtain ⟨hg, hres⟩ := z_guard hres
      refine z_iald hG dX5_lengthsRise_43 2 rfl hg ?_
      refine z_aload_n hG dX5_lengthsRise_44 2 rfl ?_
      refine z_get (ci := 5) (C := RX5) (T := TX5) (N := 8) hG dX5_lengthsRise_45 iX5_lengthsRise_X5 1 (by decide) mX5_lengthsRise_0 rfl rfl 0 rfl rfl ?_
      refine z_get (ci := 2) (C := RX2) (T := TX2) (N := 4) hG dX5_lengthsRise_48 iX5_lengthsRise_X2 0 (by decide) mX5_lengthsRise_5 rfl rfl 1 rfl rfl ?_
      refine z_iload_n hG dX5_lengthsRise_51 0 rfl ?_
      obtain ⟨hg, hres⟩ := z_guard hres
      refine z_iald hG dX5_lengthsRise_52 2 rfl hg ?_
      refine z_icmp_le 58 hG dX5_lengthsRise_53 (by decide) (fun c => ?_) (fun c => ?_)
      · replace hres := z_ifp c hres
        refine z_iinc (s1 + 1) (lv' := [(1, .int (s1 + 1)), (3, .int (fQ s1.toNatClampNeg)), (2, .int (fQ (s1 - 1).toNatClampNeg)), (0, .ref aH)]) hG dX5_lengthsRise_58 3 rfl rfl (by decide) rfl ?_
        refine z_goto 2 hG dX5_lengthsRise_61 (by decide) ?_
        exact (z_lv [3, 0] rfl (hB (s1 + 1) (Option.some.inj hres).symm))
      · replace hres := z_ifn c hres
        refine z_iconst 0 hG dX5_lengthsRise_56 (by decide) ?_
        exact (hX1 0 (Option.some.inj hres).symm _ _ (z_nar01 (Or.inl rfl)) dX5_lengthsRise_57)

theorem dX5_places_0 : decode cX5_places 0 = .ok (.aload_n 0, 1) := by decide +kernel
theorem dX5_places_1 : decode cX5_places 1 = .ok (.getfield 10, 3) := by decide +kernel
theorem dX5_places_4 : decode cX5_places 4 = .ok (.getfield 66, 3) := by decide +kernel
theorem dX5_places_7 : decode cX5_places 7 = .ok (.ireturn, 1) := by decide +kernel
theorem mX5_places_0 : Cond.fieldLink RX5 10 "Layerways" "net" "LLayerways$Net;" ∈ wsX5_places := by decide +kernel
theorem iX5_places_X5 : ∀ w ∈ u_ws RX5 TX5 8, w ∈ wsX5_places := by decide +kernel
theorem mX5_places_2 : Cond.fieldLink RX5 66 "Layerways$Net" "size" "I" ∈ wsX5_places := by decide +kernel
theorem iX5_places_X3 : ∀ w ∈ u_ws RX3 TX3 3, w ∈ wsX5_places := by decide +kernel
def fX5_places (nS : Int32) : Option (Int32) := some nS
set_option maxRecDepth 100000 in
set_option maxHeartbeats 4000000 in
theorem kX5_places (l : Launch) (K : zK) (aH : Nat) (aN : Nat) (aNk : Nat) (aNn : Nat) (aF : Nat) (aA : Nat) (aC : Nat) (aO : Nat) (aX : Nat)  (gB : Int32) (gK : Int32) (nS : Int32) (nK : (Nat → Int32)) (nN : (Nat → Int32)) (r : Int32) (hres : fX5_places nS = some r) : zM l K yX5_places wsX5_places ({ frames := 0, cells := 0, slots := 0, locals := 0 }) [.ref aH] [(aH, .inr (5, [.ref aN, .ref aF, .ref aA, .ref aC, .ref aO, .ref aX, .int gB, .int gK])), (aN, .inr (3, [.ref aNk, .ref aNn, .int nS])), (aNk, .inl (K.2 0, 12, .inl nK)), (aNn, .inl (K.2 0, 12, .inl nN))] (fun _ : Unit => some (.int r)) (fun _ : Unit => [(aH, .inr (5, [.ref aN, .ref aF, .ref aA, .ref aC, .ref aO, .ref aX, .int gB, .int gK])), (aN, .inr (3, [.ref aNk, .ref aNn, .int nS])), (aNk, .inl (K.2 0, 12, .inl nK)), (aNn, .inl (K.2 0, 12, .inl nN))]) 0 0 := by
  refine zM.intI (cc := cX5_places) (maxL := 1) (ret := (some .int)) rfl (by decide) (Nat.le_of_ble_eq_true rfl) rfl ?_
  intro G hGl hG hN hE
  have hR : ∀ (pc : Nat) (lv : zL), decode cX5_places pc = .ok (.ireturn, 1) → zj G pc lv [.int r] [(aH, .inr (5, [.ref aN, .ref aF, .ref aA, .ref aC, .ref aO, .ref aX, .int gB, .int gK])), (aN, .inr (3, [.ref aNk, .ref aNn, .int nS])), (aNk, .inl (K.2 0, 12, .inl nK)), (aNn, .inl (K.2 0, 12, .inl nN))] 0 0 := fun pc lv d => hE () _ rfl pc lv d
  clear hE
  unfold fX5_places at hres
  show zj G 0 [(0, .ref aH)] [] [(aH, .inr (5, [.ref aN, .ref aF, .ref aA, .ref aC, .ref aO, .ref aX, .int gB, .int gK])), (aN, .inr (3, [.ref aNk, .ref aNn, .int nS])), (aNk, .inl (K.2 0, 12, .inl nK)), (aNn, .inl (K.2 0, 12, .inl nN))] 0 0
  refine z_aload_n hG dX5_places_0 0 rfl ?_
  refine z_get (ci := 5) (C := RX5) (T := TX5) (N := 8) hG dX5_places_1 iX5_places_X5 0 (by decide) mX5_places_0 rfl rfl 0 rfl rfl ?_
  refine z_get (ci := 3) (C := RX3) (T := TX3) (N := 3) hG dX5_places_4 iX5_places_X3 2 (by decide) mX5_places_2 rfl rfl 1 rfl rfl ?_
  obtain rfl := Option.some.inj hres
  exact (hR _ _ dX5_places_7)

theorem dX5_streets_0 : decode cX5_streets 0 = .ok (.iconst 0, 1) := by decide +kernel
theorem dX5_streets_1 : decode cX5_streets 1 = .ok (.istore_n 1, 1) := by decide +kernel
theorem dX5_streets_2 : decode cX5_streets 2 = .ok (.iconst 0, 1) := by decide +kernel
theorem dX5_streets_3 : decode cX5_streets 3 = .ok (.istore_n 2, 1) := by decide +kernel
theorem dX5_streets_4 : decode cX5_streets 4 = .ok (.iload_n 2, 1) := by decide +kernel
theorem dX5_streets_5 : decode cX5_streets 5 = .ok (.aload_n 0, 1) := by decide +kernel
theorem dX5_streets_6 : decode cX5_streets 6 = .ok (.getfield 10, 3) := by decide +kernel
theorem dX5_streets_9 : decode cX5_streets 9 = .ok (.getfield 66, 3) := by decide +kernel
theorem dX5_streets_12 : decode cX5_streets 12 = .ok (.if_icmp .ge 20, 3) := by decide +kernel
theorem dX5_streets_15 : decode cX5_streets 15 = .ok (.iload_n 1, 1) := by decide +kernel
theorem dX5_streets_16 : decode cX5_streets 16 = .ok (.aload_n 0, 1) := by decide +kernel
theorem dX5_streets_17 : decode cX5_streets 17 = .ok (.getfield 10, 3) := by decide +kernel
theorem dX5_streets_20 : decode cX5_streets 20 = .ok (.iload_n 2, 1) := by decide +kernel
theorem dX5_streets_21 : decode cX5_streets 21 = .ok (.invokevirtual 87, 3) := by decide +kernel
theorem dX5_streets_24 : decode cX5_streets 24 = .ok (.iadd, 1) := by decide +kernel
theorem dX5_streets_25 : decode cX5_streets 25 = .ok (.istore_n 1, 1) := by decide +kernel
theorem dX5_streets_26 : decode cX5_streets 26 = .ok (.iinc 2 1, 3) := by decide +kernel
theorem dX5_streets_29 : decode cX5_streets 29 = .ok (.goto (-25), 3) := by decide +kernel
theorem dX5_streets_32 : decode cX5_streets 32 = .ok (.iload_n 1, 1) := by decide +kernel
theorem dX5_streets_33 : decode cX5_streets 33 = .ok (.iconst 2, 1) := by decide +kernel
theorem dX5_streets_34 : decode cX5_streets 34 = .ok (.idiv, 1) := by decide +kernel
theorem dX5_streets_35 : decode cX5_streets 35 = .ok (.ireturn, 1) := by decide +kernel
set_option maxRecDepth 20000 in
theorem ggX5_streets_X3_degree : GoodIn wsX5_streets wsX3_degree := goodIn_r _ [7, 8, 9, 10, 11, 12, 13, 14, 15, 24, 25, 26] (by decide +kernel) (by decide +kernel)
set_option maxRecDepth 20000 in
theorem gX5_streets_X3_degree : GoodIn wsX5_streets (wsV RX5 87 RX3 yX3_degree wsX3_degree) := goodIn_app (goodIn_of _ (by decide +kernel)) ggX5_streets_X3_degree
theorem mX5_streets_0 : Cond.fieldLink RX5 10 "Layerways" "net" "LLayerways$Net;" ∈ wsX5_streets := by decide +kernel
theorem iX5_streets_X5 : ∀ w ∈ u_ws RX5 TX5 8, w ∈ wsX5_streets := by decide +kernel
theorem mX5_streets_2 : Cond.fieldLink RX5 66 "Layerways$Net" "size" "I" ∈ wsX5_streets := by decide +kernel
theorem iX5_streets_X3 : ∀ w ∈ u_ws RX3 TX3 3, w ∈ wsX5_streets := by decide +kernel
def sX5_streets_4 (nS : Int32) (nN : (Nat → Int32)) (s3 : Int32 × Int32) : Option ((Int32 × Int32) ⊕ (Int32 × Int32)) := if nS ≤ s3.2 then some (.inl (s3.1, s3.2)) else (fX3_degree nN s3.2).bind fun v7 => some (.inr ((s3.1 + v7), (s3.2 + 1)))
def fX5_streets (nS : Int32) (nN : (Nat → Int32)) : Option (Int32) := (zloop (sX5_streets_4 nS nN) 32 (0, 0)).bind fun e5 => some (e5.1 / 2)
set_option maxRecDepth 100000 in
set_option maxHeartbeats 4000000 in
theorem kX5_streets (l : Launch) (K : zK) (aH : Nat) (aN : Nat) (aNk : Nat) (aNn : Nat) (aF : Nat) (aA : Nat) (aC : Nat) (aO : Nat) (aX : Nat)  (gB : Int32) (gK : Int32) (nS : Int32) (nK : (Nat → Int32)) (nN : (Nat → Int32)) (r : Int32) (hres : fX5_streets nS nN = some r) : zM l K yX5_streets wsX5_streets ({ frames := 2, cells := 0, slots := 0, locals := 41 }) [.ref aH] [(aH, .inr (5, [.ref aN, .ref aF, .ref aA, .ref aC, .ref aO, .ref aX, .int gB, .int gK])), (aN, .inr (3, [.ref aNk, .ref aNn, .int nS])), (aNk, .inl (K.2 0, 12, .inl nK)), (aNn, .inl (K.2 0, 12, .inl nN))] (fun _ : Unit => some (.int r)) (fun _ : Unit => [(aH, .inr (5, [.ref aN, .ref aF, .ref aA, .ref aC, .ref aO, .ref aX, .int gB, .int gK])), (aN, .inr (3, [.ref aNk, .ref aNn, .int nS])), (aNk, .inl (K.2 0, 12, .inl nK)), (aNn, .inl (K.2 0, 12, .inl nN))]) 0 0 := by
  refine zM.intI (cc := cX5_streets) (maxL := 3) (ret := (some .int)) rfl (by decide) (Nat.le_of_ble_eq_true rfl) rfl ?_
  intro G hGl hG hN hE
  have hR : ∀ (pc : Nat) (lv : zL), decode cX5_streets pc = .ok (.ireturn, 1) → zj G pc lv [.int r] [(aH, .inr (5, [.ref aN, .ref aF, .ref aA, .ref aC, .ref aO, .ref aX, .int gB, .int gK])), (aN, .inr (3, [.ref aNk, .ref aNn, .int nS])), (aNk, .inl (K.2 0, 12, .inl nK)), (aNn, .inl (K.2 0, 12, .inl nN))] 0 0 := fun pc lv d => hE () _ rfl pc lv d
  clear hE
  unfold fX5_streets at hres
  show zj G 0 [(0, .ref aH)] [] [(aH, .inr (5, [.ref aN, .ref aF, .ref aA, .ref aC, .ref aO, .ref aX, .int gB, .int gK])), (aN, .inr (3, [.ref aNk, .ref aNn, .int nS])), (aNk, .inl (K.2 0, 12, .inl nK)), (aNn, .inl (K.2 0, 12, .inl nN))] 0 0
  refine z_iconst 0 hG dX5_streets_0 (by decide) ?_
  refine z_istore_n (lv' := [(1, .int 0), (0, .ref aH)]) hG dX5_streets_1 (by decide) rfl ?_
  refine z_iconst 0 hG dX5_streets_2 (by decide) ?_
  refine z_istore_n (lv' := [(2, .int 0), (1, .int 0), (0, .ref aH)]) hG dX5_streets_3 (by decide) rfl ?_
  obtain ⟨e5, hx, hres⟩ := z_bind hres
  refine z_lv [2, 1, 0] (lv' := [(0, .ref aH), (1, .int 0), (2, .int 0)]) rfl ?_
  refine z_loop hx (fun s3 : Int32 × Int32 => [(0, .ref aH), (1, .int s3.1), (2, .int s3.2)]) (fun s3 : Int32 × Int32 => [(aH, .inr (5, [.ref aN, .ref aF, .ref aA, .ref aC, .ref aO, .ref aX, .int gB, .int gK])), (aN, .inr (3, [.ref aNk, .ref aNn, .int nS])), (aNk, .inl (K.2 0, 12, .inl nK)), (aNn, .inl (K.2 0, 12, .inl nN))]) (fun e5 : Int32 × Int32 => zj G 32 [(0, .ref aH), (1, .int e5.1), (2, .int e5.2)] [] [(aH, .inr (5, [.ref aN, .ref aF, .ref aA, .ref aC, .ref aO, .ref aX, .int gB, .int gK])), (aN, .inr (3, [.ref aNk, .ref aNn, .int nS])), (aNk, .inl (K.2 0, 12, .inl nK)), (aNn, .inl (K.2 0, 12, .inl nN))] 0 0) ?_ ?_
  · refine z_iload_n hG dX5_streets_32 1 rfl ?_
    refine z_iconst 2 hG dX5_streets_33 (by decide) ?_
    refine z_idiv hG dX5_streets_34 (by decide) ?_
    obtain rfl := Option.some.inj hres
    exact (hR _ _ dX5_streets_35)
  · intro s3 w4 hres hX hB
    unfold sX5_streets_4 at hres
    replace hB : ∀ (z0 : Int32) (z1 : Int32), w4 = .inr (z0, z1) → zj G 4 [(0, .ref aH), (1, .int z0), (2, .int z1)] [] [(aH, .inr (5, [.ref aN, .ref aF, .ref aA, .ref aC, .ref aO, .ref aX, .int gB, .int gK])), (aN, .inr (3, [.ref aNk, .ref aNn, .int nS])), (aNk, .inl (K.2 0, 12, .inl nK)), (aNn, .inl (K.2 0, 12, .inl nN))] 0 0 := fun z0 z1 h => hB (z0, z1) h
    replace hX : ∀ (z0 : Int32) (z1 : Int32), w4 = .inl (z0, z1) → zj G 32 [(0, .ref aH), (1, .int z0), (2, .int z1)] [] [(aH, .inr (5, [.ref aN, .ref aF, .ref aA, .ref aC, .ref aO, .ref aX, .int gB, .int gK])), (aN, .inr (3, [.ref aNk, .ref aNn, .int nS])), (aNk, .inl (K.2 0, 12, .inl nK)), (aNn, .inl (K.2 0, 12, .inl nN))] 0 0 := fun z0 z1 h => hX (z0, z1) h
    refine z_iload_n hG dX5_streets_4 2 rfl ?_
    refine z_aload_n hG dX5_streets_5 0 rfl ?_
    refine z_get (ci := 5) (C := RX5) (T := TX5) (N := 8) hG dX5_streets_6 iX5_streets_X5 0 (by decide) mX5_streets_0 rfl rfl 0 rfl rfl ?_
    refine z_get (ci := 3) (C := RX3) (T := TX3) (N := 3) hG dX5_streets_9 iX5_streets_X3 2 (by decide) mX5_streets_2 rfl rfl 1 rfl rfl ?_
    refine z_icmp_ge 32 hG dX5_streets_12 (by decide) (fun c => ?_) (fun c => ?_)
    · replace hres := z_ifp c hres
      exact (hX s3.1 s3.2 (Option.some.inj hres).symm)
    · replace hres := z_ifn c hres
      refine z_iload_n hG dX5_streets_15 1 rfl ?_
      refine z_aload_n hG dX5_streets_16 0 rfl ?_
      refine z_get (ci := 5) (C := RX5) (T := TX5) (N := 8) hG dX5_streets_17 iX5_streets_X5 0 (by decide) mX5_streets_0 rfl rfl 0 rfl rfl ?_
      refine z_iload_n hG dX5_streets_20 2 rfl ?_
      obtain ⟨v7, hv, hres⟩ := z_bind hres
      refine z_callV (As := [.int s3.2]) (rest := [.int s3.1]) (wr := [(aH, .inr (5, [.ref aN, .ref aF, .ref aA, .ref aC, .ref aO, .ref aX, .int gB, .int gK]))]) (ws' := (fun _ : Unit => [(aH, .inr (5, [.ref aN, .ref aF, .ref aA, .ref aC, .ref aO, .ref aX, .int gB, .int gK])), (aN, .inr (3, [.ref aNk, .ref aNn, .int nS])), (aNk, .inl (K.2 0, 12, .inl nK)), (aNn, .inl (K.2 0, 12, .inl nN))])) (stk := (fun _ : Unit => [.int v7, .int s3.1])) (kc' := 0) (ks' := 0) (n := 1) (C := RX3) (ci := 3) hG dX5_streets_21 (kX3_degree _ K aN aNk aNn nS nK nN s3.2 v7 hv) gX5_streets_X3_degree rfl rfl rfl ⟨rfl, by decide, by decide, rfl⟩ ⟨by decide, by decide⟩ (Nat.le_of_ble_eq_true rfl) ⟨(Nat.le_of_ble_eq_true rfl), (Nat.le_of_ble_eq_true rfl)⟩ [1, 2, 3] [0] [0, 1, 2, 3] rfl rfl rfl rfl (by decide) rfl (fun _ => rfl) (fun _ => rfl) rfl rfl rfl 0 rfl rfl rfl rfl (fun _ => ?_)
      refine z_iadd hG dX5_streets_24 ?_
      refine z_istore_n (lv' := [(1, .int (s3.1 + v7)), (0, .ref aH), (2, .int s3.2)]) hG dX5_streets_25 (by decide) rfl ?_
      refine z_iinc (s3.2 + 1) (lv' := [(2, .int (s3.2 + 1)), (1, .int (s3.1 + v7)), (0, .ref aH)]) hG dX5_streets_26 2 rfl rfl (by decide) rfl ?_
      refine z_goto 4 hG dX5_streets_29 (by decide) ?_
      exact (z_lv [2, 1, 0] rfl (hB (s3.1 + v7) (s3.2 + 1) (Option.some.inj hres).symm))

theorem dX5_parts_0 : decode cX5_parts 0 = .ok (.aload_n 0, 1) := by decide +kernel
theorem dX5_parts_1 : decode cX5_parts 1 = .ok (.getfield 29, 3) := by decide +kernel
theorem dX5_parts_4 : decode cX5_parts 4 = .ok (.aload_n 0, 1) := by decide +kernel
theorem dX5_parts_5 : decode cX5_parts 5 = .ok (.getfield 10, 3) := by decide +kernel
theorem dX5_parts_8 : decode cX5_parts 8 = .ok (.aload_n 0, 1) := by decide +kernel
theorem dX5_parts_9 : decode cX5_parts 9 = .ok (.getfield 23, 3) := by decide +kernel
theorem dX5_parts_12 : decode cX5_parts 12 = .ok (.invokevirtual 171, 3) := by decide +kernel
theorem dX5_parts_15 : decode cX5_parts 15 = .ok (.aload_n 0, 1) := by decide +kernel
theorem dX5_parts_16 : decode cX5_parts 16 = .ok (.getfield 29, 3) := by decide +kernel
theorem dX5_parts_19 : decode cX5_parts 19 = .ok (.getfield 174, 3) := by decide +kernel
theorem dX5_parts_22 : decode cX5_parts 22 = .ok (.ireturn, 1) := by decide +kernel
set_option maxRecDepth 20000 in
theorem ggX5_parts_X1_paint : GoodIn wsX5_parts wsX1_paint := goodIn_r _ [9, 10, 11, 12, 13, 14, 15, 16, 17, 18, 19, 20, 21, 22, 23, 24, 25, 26, 27, 28, 29, 30, 31, 32, 33, 34, 35, 36, 37, 38, 39, 8, 40, 41, 42, 43, 44, 45, 46, 55, 56, 57, 58, 59, 60, 61, 62, 63, 64] (by decide +kernel) (by decide +kernel)
set_option maxRecDepth 20000 in
theorem gX5_parts_X1_paint : GoodIn wsX5_parts (wsV RX5 171 RX1 yX1_paint wsX1_paint) := goodIn_app (goodIn_of _ (by decide +kernel)) ggX5_parts_X1_paint
theorem mX5_parts_0 : Cond.fieldLink RX5 29 "Layerways" "colours" "LLayerways$Colours;" ∈ wsX5_parts := by decide +kernel
theorem iX5_parts_X5 : ∀ w ∈ u_ws RX5 TX5 8, w ∈ wsX5_parts := by decide +kernel
theorem mX5_parts_2 : Cond.fieldLink RX5 10 "Layerways" "net" "LLayerways$Net;" ∈ wsX5_parts := by decide +kernel
theorem mX5_parts_3 : Cond.fieldLink RX5 23 "Layerways" "aside" "LLayerways$Layers;" ∈ wsX5_parts := by decide +kernel
theorem mX5_parts_4 : Cond.fieldLink RX5 174 "Layerways$Colours" "parts" "I" ∈ wsX5_parts := by decide +kernel
theorem iX5_parts_X1 : ∀ w ∈ u_ws RX1 TX1 3, w ∈ wsX5_parts := by decide +kernel
def fX5_parts (nS : Int32) (nN : (Nat → Int32)) (wM : Int32) (wL : (Nat → Int32)) (wC : (Nat → Int32)) (wQ : (Nat → Int32)) (cT : (Nat → Int32)) : Option (Int32 × Int32 × (Nat → Int32) × (Nat → Int32) × (Nat → Int32) × Int32 × Int32 × (Nat → Int32)) := (fX1_paint cT nS nN wM wL wC wQ).bind fun v1 => some (v1.1, v1.2.2.2.1, v1.2.2.2.2.1, v1.2.2.2.2.2.1, v1.2.2.2.2.2.2, v1.1, v1.2.1, v1.2.2.1)
set_option maxRecDepth 100000 in
set_option maxHeartbeats 4000000 in
theorem kX5_parts (l : Launch) (K : zK) (aH : Nat) (aN : Nat) (aNk : Nat) (aNn : Nat) (aA : Nat) (aAl : Nat) (aAc : Nat) (aAq : Nat) (aC : Nat) (aCt : Nat) (aF : Nat) (aO : Nat) (aX : Nat)  (gB : Int32) (gK : Int32) (nS : Int32) (nK : (Nat → Int32)) (nN : (Nat → Int32)) (wM : Int32) (wL : (Nat → Int32)) (wC : (Nat → Int32)) (wQ : (Nat → Int32)) (cP : Int32) (cW : Int32) (cT : (Nat → Int32)) (r : Int32 × Int32 × (Nat → Int32) × (Nat → Int32) × (Nat → Int32) × Int32 × Int32 × (Nat → Int32)) (hres : fX5_parts nS nN wM wL wC wQ cT = some r) : zM l K yX5_parts wsX5_parts ({ frames := 5, cells := 0, slots := 0, locals := 112 }) [.ref aH] [(aH, .inr (5, [.ref aN, .ref aF, .ref aA, .ref aC, .ref aO, .ref aX, .int gB, .int gK])), (aN, .inr (3, [.ref aNk, .ref aNn, .int nS])), (aNk, .inl (K.2 0, 12, .inl nK)), (aNn, .inl (K.2 0, 12, .inl nN)), (aA, .inr (2, [.ref aAl, .ref aAc, .ref aAq, .int wM])), (aAl, .inl (K.2 0, 12, .inl wL)), (aAc, .inl (K.2 0, 12, .inl wC)), (aAq, .inl (K.2 0, 12, .inl wQ)), (aC, .inr (1, [.ref aCt, .int cP, .int cW])), (aCt, .inl (K.2 0, 12, .inl cT))] (fun _ : Unit => some (.int r.1)) (fun _ : Unit => [(aH, .inr (5, [.ref aN, .ref aF, .ref aA, .ref aC, .ref aO, .ref aX, .int gB, .int gK])), (aN, .inr (3, [.ref aNk, .ref aNn, .int nS])), (aNk, .inl (K.2 0, 12, .inl nK)), (aNn, .inl (K.2 0, 12, .inl nN)), (aA, .inr (2, [.ref aAl, .ref aAc, .ref aAq, .int r.2.1])), (aAl, .inl (K.2 0, 12, .inl r.2.2.1)), (aAc, .inl (K.2 0, 12, .inl r.2.2.2.1)), (aAq, .inl (K.2 0, 12, .inl r.2.2.2.2.1)), (aC, .inr (1, [.ref aCt, .int r.2.2.2.2.2.1, .int r.2.2.2.2.2.2.1])), (aCt, .inl (K.2 0, 12, .inl r.2.2.2.2.2.2.2))]) 0 0 := by
  refine zM.intI (cc := cX5_parts) (maxL := 1) (ret := (some .int)) rfl (by decide) (Nat.le_of_ble_eq_true rfl) rfl ?_
  intro G hGl hG hN hE
  have hR : ∀ (pc : Nat) (lv : zL), decode cX5_parts pc = .ok (.ireturn, 1) → zj G pc lv [.int r.1] [(aH, .inr (5, [.ref aN, .ref aF, .ref aA, .ref aC, .ref aO, .ref aX, .int gB, .int gK])), (aN, .inr (3, [.ref aNk, .ref aNn, .int nS])), (aNk, .inl (K.2 0, 12, .inl nK)), (aNn, .inl (K.2 0, 12, .inl nN)), (aA, .inr (2, [.ref aAl, .ref aAc, .ref aAq, .int r.2.1])), (aAl, .inl (K.2 0, 12, .inl r.2.2.1)), (aAc, .inl (K.2 0, 12, .inl r.2.2.2.1)), (aAq, .inl (K.2 0, 12, .inl r.2.2.2.2.1)), (aC, .inr (1, [.ref aCt, .int r.2.2.2.2.2.1, .int r.2.2.2.2.2.2.1])), (aCt, .inl (K.2 0, 12, .inl r.2.2.2.2.2.2.2))] 0 0 := fun pc lv d => hE () _ rfl pc lv d
  clear hE
  unfold fX5_parts at hres
  show zj G 0 [(0, .ref aH)] [] [(aH, .inr (5, [.ref aN, .ref aF, .ref aA, .ref aC, .ref aO, .ref aX, .int gB, .int gK])), (aN, .inr (3, [.ref aNk, .ref aNn, .int nS])), (aNk, .inl (K.2 0, 12, .inl nK)), (aNn, .inl (K.2 0, 12, .inl nN)), (aA, .inr (2, [.ref aAl, .ref aAc, .ref aAq, .int wM])), (aAl, .inl (K.2 0, 12, .inl wL)), (aAc, .inl (K.2 0, 12, .inl wC)), (aAq, .inl (K.2 0, 12, .inl wQ)), (aC, .inr (1, [.ref aCt, .int cP, .int cW])), (aCt, .inl (K.2 0, 12, .inl cT))] 0 0
  refine z_aload_n hG dX5_parts_0 0 rfl ?_
  refine z_get (ci := 5) (C := RX5) (T := TX5) (N := 8) hG dX5_parts_1 iX5_parts_X5 3 (by decide) mX5_parts_0 rfl rfl 0 rfl rfl ?_
  refine z_aload_n hG dX5_parts_4 0 rfl ?_
  refine z_get (ci := 5) (C := RX5) (T := TX5) (N := 8) hG dX5_parts_5 iX5_parts_X5 0 (by decide) mX5_parts_2 rfl rfl 0 rfl rfl ?_
  refine z_aload_n hG dX5_parts_8 0 rfl ?_
  refine z_get (ci := 5) (C := RX5) (T := TX5) (N := 8) hG dX5_parts_9 iX5_parts_X5 2 (by decide) mX5_parts_3 rfl rfl 0 rfl rfl ?_
  obtain ⟨v1, hv, hres⟩ := z_bind hres
  refine z_callV (As := [.ref aN, .ref aA]) (rest := []) (wr := [(aH, .inr (5, [.ref aN, .ref aF, .ref aA, .ref aC, .ref aO, .ref aX, .int gB, .int gK]))]) (ws' := (fun _ : Unit => [(aH, .inr (5, [.ref aN, .ref aF, .ref aA, .ref aC, .ref aO, .ref aX, .int gB, .int gK])), (aN, .inr (3, [.ref aNk, .ref aNn, .int nS])), (aNk, .inl (K.2 0, 12, .inl nK)), (aNn, .inl (K.2 0, 12, .inl nN)), (aA, .inr (2, [.ref aAl, .ref aAc, .ref aAq, .int v1.2.2.2.1])), (aAl, .inl (K.2 0, 12, .inl v1.2.2.2.2.1)), (aAc, .inl (K.2 0, 12, .inl v1.2.2.2.2.2.1)), (aAq, .inl (K.2 0, 12, .inl v1.2.2.2.2.2.2)), (aC, .inr (1, [.ref aCt, .int v1.1, .int v1.2.1])), (aCt, .inl (K.2 0, 12, .inl v1.2.2.1))])) (stk := (fun _ : Unit => [])) (kc' := 0) (ks' := 0) (n := 2) (C := RX1) (ci := 1) hG dX5_parts_12 (kX1_paint _ K aC aCt aN aNk aNn aA aAl aAc aAq cP cW cT nS nK nN wM wL wC wQ v1 hv) gX5_parts_X1_paint rfl rfl rfl ⟨rfl, by decide, by decide, rfl⟩ ⟨by decide, by decide⟩ (Nat.le_of_ble_eq_true rfl) ⟨(Nat.le_of_ble_eq_true rfl), (Nat.le_of_ble_eq_true rfl)⟩ [8, 9, 1, 2, 3, 4, 5, 6, 7] [0] [0, 3, 4, 5, 6, 7, 8, 9, 1, 2] rfl rfl rfl rfl (by decide) rfl (fun _ => rfl) (fun _ => rfl) rfl rfl rfl 0 rfl rfl rfl rfl (fun _ => ?_)
  refine z_aload_n hG dX5_parts_15 0 rfl ?_
  refine z_get (ci := 5) (C := RX5) (T := TX5) (N := 8) hG dX5_parts_16 iX5_parts_X5 3 (by decide) mX5_parts_0 rfl rfl 0 rfl rfl ?_
  refine z_get (ci := 1) (C := RX1) (T := TX1) (N := 3) hG dX5_parts_19 iX5_parts_X1 1 (by decide) mX5_parts_4 rfl rfl 8 rfl rfl ?_
  obtain rfl := Option.some.inj hres
  exact (hR _ _ dX5_parts_22)

theorem dX5_isTwoColours_0 : decode cX5_isTwoColours 0 = .ok (.aload_n 0, 1) := by decide +kernel
theorem dX5_isTwoColours_1 : decode cX5_isTwoColours 1 = .ok (.getfield 29, 3) := by decide +kernel
theorem dX5_isTwoColours_4 : decode cX5_isTwoColours 4 = .ok (.aload_n 0, 1) := by decide +kernel
theorem dX5_isTwoColours_5 : decode cX5_isTwoColours 5 = .ok (.getfield 10, 3) := by decide +kernel
theorem dX5_isTwoColours_8 : decode cX5_isTwoColours 8 = .ok (.aload_n 0, 1) := by decide +kernel
theorem dX5_isTwoColours_9 : decode cX5_isTwoColours 9 = .ok (.getfield 23, 3) := by decide +kernel
theorem dX5_isTwoColours_12 : decode cX5_isTwoColours 12 = .ok (.invokevirtual 171, 3) := by decide +kernel
theorem dX5_isTwoColours_15 : decode cX5_isTwoColours 15 = .ok (.aload_n 0, 1) := by decide +kernel
theorem dX5_isTwoColours_16 : decode cX5_isTwoColours 16 = .ok (.getfield 29, 3) := by decide +kernel
theorem dX5_isTwoColours_19 : decode cX5_isTwoColours 19 = .ok (.getfield 177, 3) := by decide +kernel
theorem dX5_isTwoColours_22 : decode cX5_isTwoColours 22 = .ok (.ireturn, 1) := by decide +kernel
set_option maxRecDepth 20000 in
theorem ggX5_isTwoColours_X1_paint : GoodIn wsX5_isTwoColours wsX1_paint := goodIn_r _ [9, 10, 11, 12, 13, 14, 15, 16, 17, 18, 19, 20, 21, 22, 23, 24, 25, 26, 27, 28, 29, 30, 31, 32, 33, 34, 35, 36, 37, 38, 39, 8, 40, 41, 42, 43, 44, 45, 46, 55, 56, 57, 58, 59, 60, 61, 62, 63, 64] (by decide +kernel) (by decide +kernel)
set_option maxRecDepth 20000 in
theorem gX5_isTwoColours_X1_paint : GoodIn wsX5_isTwoColours (wsV RX5 171 RX1 yX1_paint wsX1_paint) := goodIn_app (goodIn_of _ (by decide +kernel)) ggX5_isTwoColours_X1_paint
theorem mX5_isTwoColours_0 : Cond.fieldLink RX5 29 "Layerways" "colours" "LLayerways$Colours;" ∈ wsX5_isTwoColours := by decide +kernel
theorem iX5_isTwoColours_X5 : ∀ w ∈ u_ws RX5 TX5 8, w ∈ wsX5_isTwoColours := by decide +kernel
theorem mX5_isTwoColours_2 : Cond.fieldLink RX5 10 "Layerways" "net" "LLayerways$Net;" ∈ wsX5_isTwoColours := by decide +kernel
theorem mX5_isTwoColours_3 : Cond.fieldLink RX5 23 "Layerways" "aside" "LLayerways$Layers;" ∈ wsX5_isTwoColours := by decide +kernel
theorem mX5_isTwoColours_4 : Cond.fieldLink RX5 177 "Layerways$Colours" "two" "Z" ∈ wsX5_isTwoColours := by decide +kernel
theorem iX5_isTwoColours_X1 : ∀ w ∈ u_ws RX1 TX1 3, w ∈ wsX5_isTwoColours := by decide +kernel
def fX5_isTwoColours (nS : Int32) (nN : (Nat → Int32)) (wM : Int32) (wL : (Nat → Int32)) (wC : (Nat → Int32)) (wQ : (Nat → Int32)) (cT : (Nat → Int32)) : Option (Int32 × Int32 × (Nat → Int32) × (Nat → Int32) × (Nat → Int32) × Int32 × Int32 × (Nat → Int32)) := (fX1_paint cT nS nN wM wL wC wQ).bind fun v1 => if (v1.2.1 = 0 ∨ v1.2.1 = 1) then some (v1.2.1, v1.2.2.2.1, v1.2.2.2.2.1, v1.2.2.2.2.2.1, v1.2.2.2.2.2.2, v1.1, v1.2.1, v1.2.2.1) else none
set_option maxRecDepth 100000 in
set_option maxHeartbeats 4000000 in
theorem kX5_isTwoColours (l : Launch) (K : zK) (aH : Nat) (aN : Nat) (aNk : Nat) (aNn : Nat) (aA : Nat) (aAl : Nat) (aAc : Nat) (aAq : Nat) (aC : Nat) (aCt : Nat) (aF : Nat) (aO : Nat) (aX : Nat)  (gB : Int32) (gK : Int32) (nS : Int32) (nK : (Nat → Int32)) (nN : (Nat → Int32)) (wM : Int32) (wL : (Nat → Int32)) (wC : (Nat → Int32)) (wQ : (Nat → Int32)) (cP : Int32) (cW : Int32) (cT : (Nat → Int32)) (r : Int32 × Int32 × (Nat → Int32) × (Nat → Int32) × (Nat → Int32) × Int32 × Int32 × (Nat → Int32)) (hres : fX5_isTwoColours nS nN wM wL wC wQ cT = some r) : zM l K yX5_isTwoColours wsX5_isTwoColours ({ frames := 5, cells := 0, slots := 0, locals := 112 }) [.ref aH] [(aH, .inr (5, [.ref aN, .ref aF, .ref aA, .ref aC, .ref aO, .ref aX, .int gB, .int gK])), (aN, .inr (3, [.ref aNk, .ref aNn, .int nS])), (aNk, .inl (K.2 0, 12, .inl nK)), (aNn, .inl (K.2 0, 12, .inl nN)), (aA, .inr (2, [.ref aAl, .ref aAc, .ref aAq, .int wM])), (aAl, .inl (K.2 0, 12, .inl wL)), (aAc, .inl (K.2 0, 12, .inl wC)), (aAq, .inl (K.2 0, 12, .inl wQ)), (aC, .inr (1, [.ref aCt, .int cP, .int cW])), (aCt, .inl (K.2 0, 12, .inl cT))] (fun _ : Unit => some (.int r.1)) (fun _ : Unit => [(aH, .inr (5, [.ref aN, .ref aF, .ref aA, .ref aC, .ref aO, .ref aX, .int gB, .int gK])), (aN, .inr (3, [.ref aNk, .ref aNn, .int nS])), (aNk, .inl (K.2 0, 12, .inl nK)), (aNn, .inl (K.2 0, 12, .inl nN)), (aA, .inr (2, [.ref aAl, .ref aAc, .ref aAq, .int r.2.1])), (aAl, .inl (K.2 0, 12, .inl r.2.2.1)), (aAc, .inl (K.2 0, 12, .inl r.2.2.2.1)), (aAq, .inl (K.2 0, 12, .inl r.2.2.2.2.1)), (aC, .inr (1, [.ref aCt, .int r.2.2.2.2.2.1, .int r.2.2.2.2.2.2.1])), (aCt, .inl (K.2 0, 12, .inl r.2.2.2.2.2.2.2))]) 0 0 := by
  refine zM.intZ (cc := cX5_isTwoColours) (maxL := 1) (ret := (some .boolean)) rfl (by decide) (Nat.le_of_ble_eq_true rfl) rfl ?_
  intro G hGl hG hN hE
  have hR : ∀ (pc : Nat) (lv : zL), narrow .boolean (.int r.1) = .int r.1 → decode cX5_isTwoColours pc = .ok (.ireturn, 1) → zj G pc lv [.int r.1] [(aH, .inr (5, [.ref aN, .ref aF, .ref aA, .ref aC, .ref aO, .ref aX, .int gB, .int gK])), (aN, .inr (3, [.ref aNk, .ref aNn, .int nS])), (aNk, .inl (K.2 0, 12, .inl nK)), (aNn, .inl (K.2 0, 12, .inl nN)), (aA, .inr (2, [.ref aAl, .ref aAc, .ref aAq, .int r.2.1])), (aAl, .inl (K.2 0, 12, .inl r.2.2.1)), (aAc, .inl (K.2 0, 12, .inl r.2.2.2.1)), (aAq, .inl (K.2 0, 12, .inl r.2.2.2.2.1)), (aC, .inr (1, [.ref aCt, .int r.2.2.2.2.2.1, .int r.2.2.2.2.2.2.1])), (aCt, .inl (K.2 0, 12, .inl r.2.2.2.2.2.2.2))] 0 0 := fun pc lv n d => hE () _ rfl n pc lv d
  clear hE
  unfold fX5_isTwoColours at hres
  show zj G 0 [(0, .ref aH)] [] [(aH, .inr (5, [.ref aN, .ref aF, .ref aA, .ref aC, .ref aO, .ref aX, .int gB, .int gK])), (aN, .inr (3, [.ref aNk, .ref aNn, .int nS])), (aNk, .inl (K.2 0, 12, .inl nK)), (aNn, .inl (K.2 0, 12, .inl nN)), (aA, .inr (2, [.ref aAl, .ref aAc, .ref aAq, .int wM])), (aAl, .inl (K.2 0, 12, .inl wL)), (aAc, .inl (K.2 0, 12, .inl wC)), (aAq, .inl (K.2 0, 12, .inl wQ)), (aC, .inr (1, [.ref aCt, .int cP, .int cW])), (aCt, .inl (K.2 0, 12, .inl cT))] 0 0
  refine z_aload_n hG dX5_isTwoColours_0 0 rfl ?_
  refine z_get (ci := 5) (C := RX5) (T := TX5) (N := 8) hG dX5_isTwoColours_1 iX5_isTwoColours_X5 3 (by decide) mX5_isTwoColours_0 rfl rfl 0 rfl rfl ?_
  refine z_aload_n hG dX5_isTwoColours_4 0 rfl ?_
  refine z_get (ci := 5) (C := RX5) (T := TX5) (N := 8) hG dX5_isTwoColours_5 iX5_isTwoColours_X5 0 (by decide) mX5_isTwoColours_2 rfl rfl 0 rfl rfl ?_
  refine z_aload_n hG dX5_isTwoColours_8 0 rfl ?_
  refine z_get (ci := 5) (C := RX5) (T := TX5) (N := 8) hG dX5_isTwoColours_9 iX5_isTwoColours_X5 2 (by decide) mX5_isTwoColours_3 rfl rfl 0 rfl rfl ?_
  obtain ⟨v1, hv, hres⟩ := z_bind hres
  refine z_callV (As := [.ref aN, .ref aA]) (rest := []) (wr := [(aH, .inr (5, [.ref aN, .ref aF, .ref aA, .ref aC, .ref aO, .ref aX, .int gB, .int gK]))]) (ws' := (fun _ : Unit => [(aH, .inr (5, [.ref aN, .ref aF, .ref aA, .ref aC, .ref aO, .ref aX, .int gB, .int gK])), (aN, .inr (3, [.ref aNk, .ref aNn, .int nS])), (aNk, .inl (K.2 0, 12, .inl nK)), (aNn, .inl (K.2 0, 12, .inl nN)), (aA, .inr (2, [.ref aAl, .ref aAc, .ref aAq, .int v1.2.2.2.1])), (aAl, .inl (K.2 0, 12, .inl v1.2.2.2.2.1)), (aAc, .inl (K.2 0, 12, .inl v1.2.2.2.2.2.1)), (aAq, .inl (K.2 0, 12, .inl v1.2.2.2.2.2.2)), (aC, .inr (1, [.ref aCt, .int v1.1, .int v1.2.1])), (aCt, .inl (K.2 0, 12, .inl v1.2.2.1))])) (stk := (fun _ : Unit => [])) (kc' := 0) (ks' := 0) (n := 2) (C := RX1) (ci := 1) hG dX5_isTwoColours_12 (kX1_paint _ K aC aCt aN aNk aNn aA aAl aAc aAq cP cW cT nS nK nN wM wL wC wQ v1 hv) gX5_isTwoColours_X1_paint rfl rfl rfl ⟨rfl, by decide, by decide, rfl⟩ ⟨by decide, by decide⟩ (Nat.le_of_ble_eq_true rfl) ⟨(Nat.le_of_ble_eq_true rfl), (Nat.le_of_ble_eq_true rfl)⟩ [8, 9, 1, 2, 3, 4, 5, 6, 7] [0] [0, 3, 4, 5, 6, 7, 8, 9, 1, 2] rfl rfl rfl rfl (by decide) rfl (fun _ => rfl) (fun _ => rfl) rfl rfl rfl 0 rfl rfl rfl rfl (fun _ => ?_)
  refine z_aload_n hG dX5_isTwoColours_15 0 rfl ?_
  refine z_get (ci := 5) (C := RX5) (T := TX5) (N := 8) hG dX5_isTwoColours_16 iX5_isTwoColours_X5 3 (by decide) mX5_isTwoColours_0 rfl rfl 0 rfl rfl ?_
  refine z_get (ci := 1) (C := RX1) (T := TX1) (N := 3) hG dX5_isTwoColours_19 iX5_isTwoColours_X1 2 (by decide) mX5_isTwoColours_4 rfl rfl 8 rfl rfl ?_
  obtain ⟨hg, hres⟩ := z_guard hres
  obtain rfl := Option.some.inj hres
  exact (hR _ _ (z_nar01 hg) dX5_isTwoColours_22)

theorem dX5_isTrue_0 : decode cX5_isTrue 0 = .ok (.aload_n 0, 1) := by decide +kernel
theorem dX5_isTrue_1 : decode cX5_isTrue 1 = .ok (.getfield 47, 3) := by decide +kernel
theorem dX5_isTrue_4 : decode cX5_isTrue 4 = .ok (.ifCond .eq 26, 3) := by decide +kernel
theorem dX5_isTrue_7 : decode cX5_isTrue 7 = .ok (.aload_n 0, 1) := by decide +kernel
theorem dX5_isTrue_8 : decode cX5_isTrue 8 = .ok (.invokevirtual 203, 3) := by decide +kernel
theorem dX5_isTrue_11 : decode cX5_isTrue 11 = .ok (.ifCond .eq 17, 3) := by decide +kernel
theorem dX5_isTrue_14 : decode cX5_isTrue 14 = .ok (.aload_n 0, 1) := by decide +kernel
theorem dX5_isTrue_15 : decode cX5_isTrue 15 = .ok (.invokevirtual 207, 3) := by decide +kernel
theorem dX5_isTrue_18 : decode cX5_isTrue 18 = .ok (.ifCond .eq 10, 3) := by decide +kernel
theorem dX5_isTrue_21 : decode cX5_isTrue 21 = .ok (.aload_n 0, 1) := by decide +kernel
theorem dX5_isTrue_22 : decode cX5_isTrue 22 = .ok (.invokevirtual 210, 3) := by decide +kernel
theorem dX5_isTrue_25 : decode cX5_isTrue 25 = .ok (.ifCond .ne 5, 3) := by decide +kernel
theorem dX5_isTrue_28 : decode cX5_isTrue 28 = .ok (.iconst 0, 1) := by decide +kernel
theorem dX5_isTrue_29 : decode cX5_isTrue 29 = .ok (.ireturn, 1) := by decide +kernel
theorem dX5_isTrue_30 : decode cX5_isTrue 30 = .ok (.aload_n 0, 1) := by decide +kernel
theorem dX5_isTrue_31 : decode cX5_isTrue 31 = .ok (.getfield 29, 3) := by decide +kernel
theorem dX5_isTrue_34 : decode cX5_isTrue 34 = .ok (.aload_n 0, 1) := by decide +kernel
theorem dX5_isTrue_35 : decode cX5_isTrue 35 = .ok (.getfield 10, 3) := by decide +kernel
theorem dX5_isTrue_38 : decode cX5_isTrue 38 = .ok (.aload_n 0, 1) := by decide +kernel
theorem dX5_isTrue_39 : decode cX5_isTrue 39 = .ok (.getfield 23, 3) := by decide +kernel
theorem dX5_isTrue_42 : decode cX5_isTrue 42 = .ok (.invokevirtual 171, 3) := by decide +kernel
theorem dX5_isTrue_45 : decode cX5_isTrue 45 = .ok (.aload_n 0, 1) := by decide +kernel
theorem dX5_isTrue_46 : decode cX5_isTrue 46 = .ok (.getfield 29, 3) := by decide +kernel
theorem dX5_isTrue_49 : decode cX5_isTrue 49 = .ok (.getfield 177, 3) := by decide +kernel
theorem dX5_isTrue_52 : decode cX5_isTrue 52 = .ok (.ifCond .eq 15, 3) := by decide +kernel
theorem dX5_isTrue_55 : decode cX5_isTrue 55 = .ok (.aload_n 0, 1) := by decide +kernel
theorem dX5_isTrue_56 : decode cX5_isTrue 56 = .ok (.getfield 29, 3) := by decide +kernel
theorem dX5_isTrue_59 : decode cX5_isTrue 59 = .ok (.aload_n 0, 1) := by decide +kernel
theorem dX5_isTrue_60 : decode cX5_isTrue 60 = .ok (.getfield 10, 3) := by decide +kernel
theorem dX5_isTrue_63 : decode cX5_isTrue 63 = .ok (.invokevirtual 213, 3) := by decide +kernel
theorem dX5_isTrue_66 : decode cX5_isTrue 66 = .ok (.ireturn, 1) := by decide +kernel
theorem dX5_isTrue_67 : decode cX5_isTrue 67 = .ok (.aload_n 0, 1) := by decide +kernel
theorem dX5_isTrue_68 : decode cX5_isTrue 68 = .ok (.getfield 36, 3) := by decide +kernel
theorem dX5_isTrue_71 : decode cX5_isTrue 71 = .ok (.aload_n 0, 1) := by decide +kernel
theorem dX5_isTrue_72 : decode cX5_isTrue 72 = .ok (.getfield 10, 3) := by decide +kernel
theorem dX5_isTrue_75 : decode cX5_isTrue 75 = .ok (.invokevirtual 217, 3) := by decide +kernel
theorem dX5_isTrue_78 : decode cX5_isTrue 78 = .ok (.aload_n 0, 1) := by decide +kernel
theorem dX5_isTrue_79 : decode cX5_isTrue 79 = .ok (.getfield 36, 3) := by decide +kernel
theorem dX5_isTrue_82 : decode cX5_isTrue 82 = .ok (.invokevirtual 220, 3) := by decide +kernel
theorem dX5_isTrue_85 : decode cX5_isTrue 85 = .ok (.ifCond .eq 17, 3) := by decide +kernel
theorem dX5_isTrue_88 : decode cX5_isTrue 88 = .ok (.aload_n 0, 1) := by decide +kernel
theorem dX5_isTrue_89 : decode cX5_isTrue 89 = .ok (.getfield 36, 3) := by decide +kernel
theorem dX5_isTrue_92 : decode cX5_isTrue 92 = .ok (.invokevirtual 223, 3) := by decide +kernel
theorem dX5_isTrue_95 : decode cX5_isTrue 95 = .ok (.ifCond .eq 7, 3) := by decide +kernel
theorem dX5_isTrue_98 : decode cX5_isTrue 98 = .ok (.iconst 1, 1) := by decide +kernel
theorem dX5_isTrue_99 : decode cX5_isTrue 99 = .ok (.goto 4, 3) := by decide +kernel
theorem dX5_isTrue_102 : decode cX5_isTrue 102 = .ok (.iconst 0, 1) := by decide +kernel
theorem dX5_isTrue_103 : decode cX5_isTrue 103 = .ok (.ireturn, 1) := by decide +kernel
set_option maxRecDepth 20000 in
theorem ggX5_isTrue_X5_streetsKeepLayers : GoodIn wsX5_isTrue wsX5_streetsKeepLayers := goodIn_r _ [11, 3, 12, 13, 14, 15, 16, 17, 18, 19, 10, 20, 21, 22, 23, 24, 25, 26, 27, 28, 29, 30, 113, 114, 115, 116, 117, 118, 119, 120, 124, 125, 126, 127, 128, 129, 130] (by decide +kernel) (by decide +kernel)
set_option maxRecDepth 20000 in
theorem gX5_isTrue_X5_streetsKeepLayers : GoodIn wsX5_isTrue (wsV RX5 203 RX5 yX5_streetsKeepLayers wsX5_streetsKeepLayers) := goodIn_app (goodIn_of _ (by decide +kernel)) ggX5_isTrue_X5_streetsKeepLayers
set_option maxRecDepth 20000 in
theorem ggX5_isTrue_X5_waysAddUp : GoodIn wsX5_isTrue wsX5_waysAddUp := goodIn_r _ [34, 3, 12, 25, 26, 35, 36, 37, 10, 38, 39, 13, 14, 15, 16, 17, 18, 19, 20, 113, 114, 115, 116, 117, 118, 119, 120, 124, 125, 126, 127, 128, 129, 130] (by decide +kernel) (by decide +kernel)
set_option maxRecDepth 20000 in
theorem gX5_isTrue_X5_waysAddUp : GoodIn wsX5_isTrue (wsV RX5 207 RX5 yX5_waysAddUp wsX5_waysAddUp) := goodIn_app (goodIn_of _ (by decide +kernel)) ggX5_isTrue_X5_waysAddUp
set_option maxRecDepth 20000 in
theorem ggX5_isTrue_X5_lengthsRise : GoodIn wsX5_isTrue wsX5_lengthsRise := goodIn_r _ [43, 25, 44, 45, 26, 113, 114, 115, 116, 117, 118, 119, 120, 127, 128, 129, 130] (by decide +kernel) (by decide +kernel)
set_option maxRecDepth 20000 in
theorem gX5_isTrue_X5_lengthsRise : GoodIn wsX5_isTrue (wsV RX5 210 RX5 yX5_lengthsRise wsX5_lengthsRise) := goodIn_app (goodIn_of _ (by decide +kernel)) ggX5_isTrue_X5_lengthsRise
set_option maxRecDepth 20000 in
theorem ggX5_isTrue_X1_paint : GoodIn wsX5_isTrue wsX1_paint := goodIn_r _ [50, 51, 52, 53, 54, 55, 56, 57, 58, 59, 60, 61, 62, 63, 64, 65, 66, 67, 68, 69, 14, 15, 16, 17, 18, 19, 10, 20, 70, 71, 72, 49, 73, 74, 75, 76, 77, 78, 79, 121, 122, 123, 124, 125, 126, 127, 128, 129, 130] (by decide +kernel) (by decide +kernel)
set_option maxRecDepth 20000 in
theorem gX5_isTrue_X1_paint : GoodIn wsX5_isTrue (wsV RX5 171 RX1 yX1_paint wsX1_paint) := goodIn_app (goodIn_of _ (by decide +kernel)) ggX5_isTrue_X1_paint
set_option maxRecDepth 20000 in
theorem ggX5_isTrue_X1_areUnlike : GoodIn wsX5_isTrue wsX1_areUnlike := goodIn_r _ [78, 53, 52, 79, 14, 15, 16, 17, 18, 19, 10, 20, 124, 125, 126, 121, 122, 123] (by decide +kernel) (by decide +kernel)
set_option maxRecDepth 20000 in
theorem gX5_isTrue_X1_areUnlike : GoodIn wsX5_isTrue (wsV RX5 213 RX1 yX1_areUnlike wsX1_areUnlike) := goodIn_app (goodIn_of _ (by decide +kernel)) ggX5_isTrue_X1_areUnlike
set_option maxRecDepth 20000 in
theorem ggX5_isTrue_X4_find : GoodIn wsX5_isTrue wsX4_find := goodIn_r _ [85, 86, 87, 88, 89, 90, 91, 84, 92, 93, 94, 95, 96, 19, 10, 20, 97, 98, 99, 100, 101, 102, 103, 104, 131, 132, 133, 124, 125, 126] (by decide +kernel) (by decide +kernel)
set_option maxRecDepth 20000 in
theorem gX5_isTrue_X4_find : GoodIn wsX5_isTrue (wsV RX5 217 RX4 yX4_find wsX4_find) := goodIn_app (goodIn_of _ (by decide +kernel)) ggX5_isTrue_X4_find
set_option maxRecDepth 20000 in
theorem ggX5_isTrue_X4_isOdd : GoodIn wsX5_isTrue wsX4_isOdd := goodIn_r _ [108, 86, 131, 132, 133] (by decide +kernel) (by decide +kernel)
set_option maxRecDepth 20000 in
theorem gX5_isTrue_X4_isOdd : GoodIn wsX5_isTrue (wsV RX5 220 RX4 yX4_isOdd wsX4_isOdd) := goodIn_app (goodIn_of _ (by decide +kernel)) ggX5_isTrue_X4_isOdd
set_option maxRecDepth 20000 in
theorem ggX5_isTrue_X4_isUnlike : GoodIn wsX5_isTrue wsX4_isUnlike := goodIn_r _ [112, 86, 101, 131, 132, 133] (by decide +kernel) (by decide +kernel)
set_option maxRecDepth 20000 in
theorem gX5_isTrue_X4_isUnlike : GoodIn wsX5_isTrue (wsV RX5 223 RX4 yX4_isUnlike wsX4_isUnlike) := goodIn_app (goodIn_of _ (by decide +kernel)) ggX5_isTrue_X4_isUnlike
theorem mX5_isTrue_0 : Cond.fieldLink RX5 47 "Layerways" "begun" "Z" ∈ wsX5_isTrue := by decide +kernel
theorem iX5_isTrue_X5 : ∀ w ∈ u_ws RX5 TX5 8, w ∈ wsX5_isTrue := by decide +kernel
theorem mX5_isTrue_2 : Cond.fieldLink RX5 29 "Layerways" "colours" "LLayerways$Colours;" ∈ wsX5_isTrue := by decide +kernel
theorem mX5_isTrue_3 : Cond.fieldLink RX5 10 "Layerways" "net" "LLayerways$Net;" ∈ wsX5_isTrue := by decide +kernel
theorem mX5_isTrue_4 : Cond.fieldLink RX5 23 "Layerways" "aside" "LLayerways$Layers;" ∈ wsX5_isTrue := by decide +kernel
theorem mX5_isTrue_5 : Cond.fieldLink RX5 177 "Layerways$Colours" "two" "Z" ∈ wsX5_isTrue := by decide +kernel
theorem iX5_isTrue_X1 : ∀ w ∈ u_ws RX1 TX1 3, w ∈ wsX5_isTrue := by decide +kernel
theorem mX5_isTrue_7 : Cond.fieldLink RX5 36 "Layerways" "oddRing" "LLayerways$OddRing;" ∈ wsX5_isTrue := by decide +kernel
def fX5_isTrue (gB : Int32) (nS : Int32) (nN : (Nat → Int32)) (fM : Int32) (fL : (Nat → Int32)) (fC : (Nat → Int32)) (fQ : (Nat → Int32)) (wM : Int32) (wL : (Nat → Int32)) (wC : (Nat → Int32)) (wQ : (Nat → Int32)) (cP : Int32) (cW : Int32) (cT : (Nat → Int32)) (oS : Int32) (oR : (Nat → Int32)) (oX : (Nat → Int32)) : Option (Int32 × Int32 × (Nat → Int32) × (Nat → Int32) × (Nat → Int32) × Int32 × Int32 × (Nat → Int32) × Int32 × (Nat → Int32) × (Nat → Int32)) := if gB = 0 then (fX1_paint cT nS nN wM wL wC wQ).bind fun v1 => if v1.2.1 = 0 then (fX4_find oR oX nS nN).bind fun v2 => (fX4_isOdd v2.1).bind fun v3 => if v3 = 0 then some (0, v1.2.2.2.1, v1.2.2.2.2.1, v1.2.2.2.2.2.1, v1.2.2.2.2.2.2, v1.1, v1.2.1, v1.2.2.1, v2.1, v2.2.1, v2.2.2) else (fX4_isUnlike v2.1 v2.2.1).bind fun v4 => if v4 = 0 then some (0, v1.2.2.2.1, v1.2.2.2.2.1, v1.2.2.2.2.2.1, v1.2.2.2.2.2.2, v1.1, v1.2.1, v1.2.2.1, v2.1, v2.2.1, v2.2.2) else some (1, v1.2.2.2.1, v1.2.2.2.2.1, v1.2.2.2.2.2.1, v1.2.2.2.2.2.2, v1.1, v1.2.1, v1.2.2.1, v2.1, v2.2.1, v2.2.2) else (fX1_areUnlike v1.2.2.1 nS nN).bind fun v5 => if (v5 = 0 ∨ v5 = 1) then some (v5, v1.2.2.2.1, v1.2.2.2.2.1, v1.2.2.2.2.2.1, v1.2.2.2.2.2.2, v1.1, v1.2.1, v1.2.2.1, oS, oR, oX) else none else (fX5_streetsKeepLayers nS nN fL).bind fun v6 => if v6 = 0 then some (0, wM, wL, wC, wQ, cP, cW, cT, oS, oR, oX) else (fX5_waysAddUp nS nN fL fC).bind fun v7 => if v7 = 0 then some (0, wM, wL, wC, wQ, cP, cW, cT, oS, oR, oX) else (fX5_lengthsRise fM fL fQ).bind fun v8 => if v8 = 0 then some (0, wM, wL, wC, wQ, cP, cW, cT, oS, oR, oX) else (fX1_paint cT nS nN wM wL wC wQ).bind fun v9 => if v9.2.1 = 0 then (fX4_find oR oX nS nN).bind fun v10 => (fX4_isOdd v10.1).bind fun v11 => if v11 = 0 then some (0, v9.2.2.2.1, v9.2.2.2.2.1, v9.2.2.2.2.2.1, v9.2.2.2.2.2.2, v9.1, v9.2.1, v9.2.2.1, v10.1, v10.2.1, v10.2.2) else (fX4_isUnlike v10.1 v10.2.1).bind fun v12 => if v12 = 0 then some (0, v9.2.2.2.1, v9.2.2.2.2.1, v9.2.2.2.2.2.1, v9.2.2.2.2.2.2, v9.1, v9.2.1, v9.2.2.1, v10.1, v10.2.1, v10.2.2) else some (1, v9.2.2.2.1, v9.2.2.2.2.1, v9.2.2.2.2.2.1, v9.2.2.2.2.2.2, v9.1, v9.2.1, v9.2.2.1, v10.1, v10.2.1, v10.2.2) else (fX1_areUnlike v9.2.2.1 nS nN).bind fun v13 => if (v13 = 0 ∨ v13 = 1) then some (v13, v9.2.2.2.1, v9.2.2.2.2.1, v9.2.2.2.2.2.1, v9.2.2.2.2.2.2, v9.1, v9.2.1, v9.2.2.1, oS, oR, oX) else none
set_option maxRecDepth 100000 in
set_option maxHeartbeats 4000000 in
theorem kX5_isTrue (l : Launch) (K : zK) (aH : Nat) (aN : Nat) (aNk : Nat) (aNn : Nat) (aF : Nat) (aFl : Nat) (aFc : Nat) (aFq : Nat) (aA : Nat) (aAl : Nat) (aAc : Nat) (aAq : Nat) (aC : Nat) (aCt : Nat) (aO : Nat) (aOr : Nat) (aOx : Nat) (aX : Nat)  (gB : Int32) (gK : Int32) (nS : Int32) (nK : (Nat → Int32)) (nN : (Nat → Int32)) (fM : Int32) (fL : (Nat → Int32)) (fC : (Nat → Int32)) (fQ : (Nat → Int32)) (wM : Int32) (wL : (Nat → Int32)) (wC : (Nat → Int32)) (wQ : (Nat → Int32)) (cP : Int32) (cW : Int32) (cT : (Nat → Int32)) (oS : Int32) (oR : (Nat → Int32)) (oX : (Nat → Int32)) (r : Int32 × Int32 × (Nat → Int32) × (Nat → Int32) × (Nat → Int32) × Int32 × Int32 × (Nat → Int32) × Int32 × (Nat → Int32) × (Nat → Int32)) (hres : fX5_isTrue gB nS nN fM fL fC fQ wM wL wC wQ cP cW cT oS oR oX = some r) : zM l K yX5_isTrue wsX5_isTrue ({ frames := 5, cells := 0, slots := 0, locals := 112 }) [.ref aH] [(aH, .inr (5, [.ref aN, .ref aF, .ref aA, .ref aC, .ref aO, .ref aX, .int gB, .int gK])), (aN, .inr (3, [.ref aNk, .ref aNn, .int nS])), (aNk, .inl (K.2 0, 12, .inl nK)), (aNn, .inl (K.2 0, 12, .inl nN)), (aF, .inr (2, [.ref aFl, .ref aFc, .ref aFq, .int fM])), (aFl, .inl (K.2 0, 12, .inl fL)), (aFc, .inl (K.2 0, 12, .inl fC)), (aFq, .inl (K.2 0, 12, .inl fQ)), (aA, .inr (2, [.ref aAl, .ref aAc, .ref aAq, .int wM])), (aAl, .inl (K.2 0, 12, .inl wL)), (aAc, .inl (K.2 0, 12, .inl wC)), (aAq, .inl (K.2 0, 12, .inl wQ)), (aC, .inr (1, [.ref aCt, .int cP, .int cW])), (aCt, .inl (K.2 0, 12, .inl cT)), (aO, .inr (4, [.ref aOr, .ref aOx, .int oS])), (aOr, .inl (K.2 0, 12, .inl oR)), (aOx, .inl (K.2 0, 13, .inl oX))] (fun _ : Unit => some (.int r.1)) (fun _ : Unit => [(aH, .inr (5, [.ref aN, .ref aF, .ref aA, .ref aC, .ref aO, .ref aX, .int gB, .int gK])), (aN, .inr (3, [.ref aNk, .ref aNn, .int nS])), (aNk, .inl (K.2 0, 12, .inl nK)), (aNn, .inl (K.2 0, 12, .inl nN)), (aF, .inr (2, [.ref aFl, .ref aFc, .ref aFq, .int fM])), (aFl, .inl (K.2 0, 12, .inl fL)), (aFc, .inl (K.2 0, 12, .inl fC)), (aFq, .inl (K.2 0, 12, .inl fQ)), (aA, .inr (2, [.ref aAl, .ref aAc, .ref aAq, .int r.2.1])), (aAl, .inl (K.2 0, 12, .inl r.2.2.1)), (aAc, .inl (K.2 0, 12, .inl r.2.2.2.1)), (aAq, .inl (K.2 0, 12, .inl r.2.2.2.2.1)), (aC, .inr (1, [.ref aCt, .int r.2.2.2.2.2.1, .int r.2.2.2.2.2.2.1])), (aCt, .inl (K.2 0, 12, .inl r.2.2.2.2.2.2.2.1)), (aO, .inr (4, [.ref aOr, .ref aOx, .int r.2.2.2.2.2.2.2.2.1])), (aOr, .inl (K.2 0, 12, .inl r.2.2.2.2.2.2.2.2.2.1)), (aOx, .inl (K.2 0, 13, .inl r.2.2.2.2.2.2.2.2.2.2))]) 0 0 := by
  refine zM.intZ (cc := cX5_isTrue) (maxL := 1) (ret := (some .boolean)) rfl (by decide) (Nat.le_of_ble_eq_true rfl) rfl ?_
  intro G hGl hG hN hE
  have hR : ∀ (pc : Nat) (lv : zL), narrow .boolean (.int r.1) = .int r.1 → decode cX5_isTrue pc = .ok (.ireturn, 1) → zj G pc lv [.int r.1] [(aH, .inr (5, [.ref aN, .ref aF, .ref aA, .ref aC, .ref aO, .ref aX, .int gB, .int gK])), (aN, .inr (3, [.ref aNk, .ref aNn, .int nS])), (aNk, .inl (K.2 0, 12, .inl nK)), (aNn, .inl (K.2 0, 12, .inl nN)), (aF, .inr (2, [.ref aFl, .ref aFc, .ref aFq, .int fM])), (aFl, .inl (K.2 0, 12, .inl fL)), (aFc, .inl (K.2 0, 12, .inl fC)), (aFq, .inl (K.2 0, 12, .inl fQ)), (aA, .inr (2, [.ref aAl, .ref aAc, .ref aAq, .int r.2.1])), (aAl, .inl (K.2 0, 12, .inl r.2.2.1)), (aAc, .inl (K.2 0, 12, .inl r.2.2.2.1)), (aAq, .inl (K.2 0, 12, .inl r.2.2.2.2.1)), (aC, .inr (1, [.ref aCt, .int r.2.2.2.2.2.1, .int r.2.2.2.2.2.2.1])), (aCt, .inl (K.2 0, 12, .inl r.2.2.2.2.2.2.2.1)), (aO, .inr (4, [.ref aOr, .ref aOx, .int r.2.2.2.2.2.2.2.2.1])), (aOr, .inl (K.2 0, 12, .inl r.2.2.2.2.2.2.2.2.2.1)), (aOx, .inl (K.2 0, 13, .inl r.2.2.2.2.2.2.2.2.2.2))] 0 0 := fun pc lv n d => hE () _ rfl n pc lv d
  clear hE
  unfold fX5_isTrue at hres
  show zj G 0 [(0, .ref aH)] [] [(aH, .inr (5, [.ref aN, .ref aF, .ref aA, .ref aC, .ref aO, .ref aX, .int gB, .int gK])), (aN, .inr (3, [.ref aNk, .ref aNn, .int nS])), (aNk, .inl (K.2 0, 12, .inl nK)), (aNn, .inl (K.2 0, 12, .inl nN)), (aF, .inr (2, [.ref aFl, .ref aFc, .ref aFq, .int fM])), (aFl, .inl (K.2 0, 12, .inl fL)), (aFc, .inl (K.2 0, 12, .inl fC)), (aFq, .inl (K.2 0, 12, .inl fQ)), (aA, .inr (2, [.ref aAl, .ref aAc, .ref aAq, .int wM])), (aAl, .inl (K.2 0, 12, .inl wL)), (aAc, .inl (K.2 0, 12, .inl wC)), (aAq, .inl (K.2 0, 12, .inl wQ)), (aC, .inr (1, [.ref aCt, .int cP, .int cW])), (aCt, .inl (K.2 0, 12, .inl cT)), (aO, .inr (4, [.ref aOr, .ref aOx, .int oS])), (aOr, .inl (K.2 0, 12, .inl oR)), (aOx, .inl (K.2 0, 13, .inl oX))] 0 0
  refine z_aload_n hG dX5_isTrue_0 0 rfl ?_
  refine z_get (ci := 5) (C := RX5) (T := TX5) (N := 8) hG dX5_isTrue_1 iX5_isTrue_X5 6 (by decide) mX5_isTrue_0 rfl rfl 0 rfl rfl ?_
  refine z_if_eq 30 hG dX5_isTrue_4 (by decide) (fun c => ?_) (fun c => ?_)
  · replace hres := z_ifp c hres
    refine z_aload_n hG dX5_isTrue_30 0 rfl ?_
    refine z_get (ci := 5) (C := RX5) (T := TX5) (N := 8) hG dX5_isTrue_31 iX5_isTrue_X5 3 (by decide) mX5_isTrue_2 rfl rfl 0 rfl rfl ?_
    refine z_aload_n hG dX5_isTrue_34 0 rfl ?_
    refine z_get (ci := 5) (C := RX5) (T := TX5) (N := 8) hG dX5_isTrue_35 iX5_isTrue_X5 0 (by decide) mX5_isTrue_3 rfl rfl 0 rfl rfl ?_
    refine z_aload_n hG dX5_isTrue_38 0 rfl ?_
    refine z_get (ci := 5) (C := RX5) (T := TX5) (N := 8) hG dX5_isTrue_39 iX5_isTrue_X5 2 (by decide) mX5_isTrue_4 rfl rfl 0 rfl rfl ?_
    obtain ⟨v1, hv, hres⟩ := z_bind hres
    refine z_callV (As := [.ref aN, .ref aA]) (rest := []) (wr := [(aH, .inr (5, [.ref aN, .ref aF, .ref aA, .ref aC, .ref aO, .ref aX, .int gB, .int gK])), (aF, .inr (2, [.ref aFl, .ref aFc, .ref aFq, .int fM])), (aFl, .inl (K.2 0, 12, .inl fL)), (aFc, .inl (K.2 0, 12, .inl fC)), (aFq, .inl (K.2 0, 12, .inl fQ)), (aO, .inr (4, [.ref aOr, .ref aOx, .int oS])), (aOr, .inl (K.2 0, 12, .inl oR)), (aOx, .inl (K.2 0, 13, .inl oX))]) (ws' := (fun _ : Unit => [(aH, .inr (5, [.ref aN, .ref aF, .ref aA, .ref aC, .ref aO, .ref aX, .int gB, .int gK])), (aN, .inr (3, [.ref aNk, .ref aNn, .int nS])), (aNk, .inl (K.2 0, 12, .inl nK)), (aNn, .inl (K.2 0, 12, .inl nN)), (aF, .inr (2, [.ref aFl, .ref aFc, .ref aFq, .int fM])), (aFl, .inl (K.2 0, 12, .inl fL)), (aFc, .inl (K.2 0, 12, .inl fC)), (aFq, .inl (K.2 0, 12, .inl fQ)), (aA, .inr (2, [.ref aAl, .ref aAc, .ref aAq, .int v1.2.2.2.1])), (aAl, .inl (K.2 0, 12, .inl v1.2.2.2.2.1)), (aAc, .inl (K.2 0, 12, .inl v1.2.2.2.2.2.1)), (aAq, .inl (K.2 0, 12, .inl v1.2.2.2.2.2.2)), (aC, .inr (1, [.ref aCt, .int v1.1, .int v1.2.1])), (aCt, .inl (K.2 0, 12, .inl v1.2.2.1)), (aO, .inr (4, [.ref aOr, .ref aOx, .int oS])), (aOr, .inl (K.2 0, 12, .inl oR)), (aOx, .inl (K.2 0, 13, .inl oX))])) (stk := (fun _ : Unit => [])) (kc' := 0) (ks' := 0) (n := 2) (C := RX1) (ci := 1) hG dX5_isTrue_42 (kX1_paint _ K aC aCt aN aNk aNn aA aAl aAc aAq cP cW cT nS nK nN wM wL wC wQ v1 hv) gX5_isTrue_X1_paint rfl rfl rfl ⟨rfl, by decide, by decide, rfl⟩ ⟨by decide, by decide⟩ (Nat.le_of_ble_eq_true rfl) ⟨(Nat.le_of_ble_eq_true rfl), (Nat.le_of_ble_eq_true rfl)⟩ [12, 13, 1, 2, 3, 8, 9, 10, 11] [0, 4, 5, 6, 7, 14, 15, 16] [0, 10, 11, 12, 1, 2, 3, 4, 13, 14, 15, 16, 8, 9, 5, 6, 7] rfl rfl rfl rfl (by decide) rfl (fun _ => rfl) (fun _ => rfl) rfl rfl rfl 0 rfl rfl rfl rfl (fun _ => ?_)
    refine z_aload_n hG dX5_isTrue_45 0 rfl ?_
    refine z_get (ci := 5) (C := RX5) (T := TX5) (N := 8) hG dX5_isTrue_46 iX5_isTrue_X5 3 (by decide) mX5_isTrue_2 rfl rfl 0 rfl rfl ?_
    refine z_get (ci := 1) (C := RX1) (T := TX1) (N := 3) hG dX5_isTrue_49 iX5_isTrue_X1 2 (by decide) mX5_isTrue_5 rfl rfl 12 rfl rfl ?_
    refine z_if_eq 67 hG dX5_isTrue_52 (by decide) (fun c => ?_) (fun c => ?_)
    · replace hres := z_ifp c hres
      refine z_aload_n hG dX5_isTrue_67 0 rfl ?_
      refine z_get (ci := 5) (C := RX5) (T := TX5) (N := 8) hG dX5_isTrue_68 iX5_isTrue_X5 4 (by decide) mX5_isTrue_7 rfl rfl 0 rfl rfl ?_
      refine z_aload_n hG dX5_isTrue_71 0 rfl ?_
      refine z_get (ci := 5) (C := RX5) (T := TX5) (N := 8) hG dX5_isTrue_72 iX5_isTrue_X5 0 (by decide) mX5_isTrue_3 rfl rfl 0 rfl rfl ?_
      obtain ⟨v2, hv, hres⟩ := z_bind hres
      refine z_callV (As := [.ref aN]) (rest := []) (wr := [(aH, .inr (5, [.ref aN, .ref aF, .ref aA, .ref aC, .ref aO, .ref aX, .int gB, .int gK])), (aF, .inr (2, [.ref aFl, .ref aFc, .ref aFq, .int fM])), (aFl, .inl (K.2 0, 12, .inl fL)), (aFc, .inl (K.2 0, 12, .inl fC)), (aFq, .inl (K.2 0, 12, .inl fQ)), (aA, .inr (2, [.ref aAl, .ref aAc, .ref aAq, .int v1.2.2.2.1])), (aAl, .inl (K.2 0, 12, .inl v1.2.2.2.2.1)), (aAc, .inl (K.2 0, 12, .inl v1.2.2.2.2.2.1)), (aAq, .inl (K.2 0, 12, .inl v1.2.2.2.2.2.2)), (aC, .inr (1, [.ref aCt, .int v1.1, .int v1.2.1])), (aCt, .inl (K.2 0, 12, .inl v1.2.2.1))]) (ws' := (fun _ : Unit => [(aH, .inr (5, [.ref aN, .ref aF, .ref aA, .ref aC, .ref aO, .ref aX, .int gB, .int gK])), (aN, .inr (3, [.ref aNk, .ref aNn, .int nS])), (aNk, .inl (K.2 0, 12, .inl nK)), (aNn, .inl (K.2 0, 12, .inl nN)), (aF, .inr (2, [.ref aFl, .ref aFc, .ref aFq, .int fM])), (aFl, .inl (K.2 0, 12, .inl fL)), (aFc, .inl (K.2 0, 12, .inl fC)), (aFq, .inl (K.2 0, 12, .inl fQ)), (aA, .inr (2, [.ref aAl, .ref aAc, .ref aAq, .int v1.2.2.2.1])), (aAl, .inl (K.2 0, 12, .inl v1.2.2.2.2.1)), (aAc, .inl (K.2 0, 12, .inl v1.2.2.2.2.2.1)), (aAq, .inl (K.2 0, 12, .inl v1.2.2.2.2.2.2)), (aC, .inr (1, [.ref aCt, .int v1.1, .int v1.2.1])), (aCt, .inl (K.2 0, 12, .inl v1.2.2.1)), (aO, .inr (4, [.ref aOr, .ref aOx, .int v2.1])), (aOr, .inl (K.2 0, 12, .inl v2.2.1)), (aOx, .inl (K.2 0, 13, .inl v2.2.2))])) (stk := (fun _ : Unit => [])) (kc' := 0) (ks' := 0) (n := 1) (C := RX4) (ci := 4) hG dX5_isTrue_75 (kX4_find _ K aO aOr aOx aN aNk aNn oS oR oX nS nK nN v2 hv) gX5_isTrue_X4_find rfl rfl rfl ⟨rfl, by decide, by decide, rfl⟩ ⟨by decide, by decide⟩ (Nat.le_of_ble_eq_true rfl) ⟨(Nat.le_of_ble_eq_true rfl), (Nat.le_of_ble_eq_true rfl)⟩ [14, 15, 16, 1, 2, 3] [0, 4, 5, 6, 7, 8, 9, 10, 11, 12, 13] [0, 14, 15, 16, 1, 2, 3, 4, 5, 6, 7, 8, 9, 10, 11, 12, 13] rfl rfl rfl rfl (by decide) rfl (fun _ => rfl) (fun _ => rfl) rfl rfl rfl 0 rfl rfl rfl rfl (fun _ => ?_)
      refine z_aload_n hG dX5_isTrue_78 0 rfl ?_
      refine z_get (ci := 5) (C := RX5) (T := TX5) (N := 8) hG dX5_isTrue_79 iX5_isTrue_X5 4 (by decide) mX5_isTrue_7 rfl rfl 0 rfl rfl ?_
      obtain ⟨v3, hv, hres⟩ := z_bind hres
      refine z_callV (As := []) (rest := []) (wr := [(aH, .inr (5, [.ref aN, .ref aF, .ref aA, .ref aC, .ref aO, .ref aX, .int gB, .int gK])), (aN, .inr (3, [.ref aNk, .ref aNn, .int nS])), (aNk, .inl (K.2 0, 12, .inl nK)), (aNn, .inl (K.2 0, 12, .inl nN)), (aF, .inr (2, [.ref aFl, .ref aFc, .ref aFq, .int fM])), (aFl, .inl (K.2 0, 12, .inl fL)), (aFc, .inl (K.2 0, 12, .inl fC)), (aFq, .inl (K.2 0, 12, .inl fQ)), (aA, .inr (2, [.ref aAl, .ref aAc, .ref aAq, .int v1.2.2.2.1])), (aAl, .inl (K.2 0, 12, .inl v1.2.2.2.2.1)), (aAc, .inl (K.2 0, 12, .inl v1.2.2.2.2.2.1)), (aAq, .inl (K.2 0, 12, .inl v1.2.2.2.2.2.2)), (aC, .inr (1, [.ref aCt, .int v1.1, .int v1.2.1])), (aCt, .inl (K.2 0, 12, .inl v1.2.2.1))]) (ws' := (fun _ : Unit => [(aH, .inr (5, [.ref aN, .ref aF, .ref aA, .ref aC, .ref aO, .ref aX, .int gB, .int gK])), (aN, .inr (3, [.ref aNk, .ref aNn, .int nS])), (aNk, .inl (K.2 0, 12, .inl nK)), (aNn, .inl (K.2 0, 12, .inl nN)), (aF, .inr (2, [.ref aFl, .ref aFc, .ref aFq, .int fM])), (aFl, .inl (K.2 0, 12, .inl fL)), (aFc, .inl (K.2 0, 12, .inl fC)), (aFq, .inl (K.2 0, 12, .inl fQ)), (aA, .inr (2, [.ref aAl, .ref aAc, .ref aAq, .int v1.2.2.2.1])), (aAl, .inl (K.2 0, 12, .inl v1.2.2.2.2.1)), (aAc, .inl (K.2 0, 12, .inl v1.2.2.2.2.2.1)), (aAq, .inl (K.2 0, 12, .inl v1.2.2.2.2.2.2)), (aC, .inr (1, [.ref aCt, .int v1.1, .int v1.2.1])), (aCt, .inl (K.2 0, 12, .inl v1.2.2.1)), (aO, .inr (4, [.ref aOr, .ref aOx, .int v2.1])), (aOr, .inl (K.2 0, 12, .inl v2.2.1)), (aOx, .inl (K.2 0, 13, .inl v2.2.2))])) (stk := (fun _ : Unit => [.int v3])) (kc' := 0) (ks' := 0) (n := 0) (C := RX4) (ci := 4) hG dX5_isTrue_82 (kX4_isOdd _ K aO aOr aOx v2.1 v2.2.1 v2.2.2 v3 hv) gX5_isTrue_X4_isOdd rfl rfl rfl ⟨rfl, by decide, by decide, rfl⟩ ⟨by decide, by decide⟩ (Nat.le_of_ble_eq_true rfl) ⟨(Nat.le_of_ble_eq_true rfl), (Nat.le_of_ble_eq_true rfl)⟩ [14, 15, 16] [0, 1, 2, 3, 4, 5, 6, 7, 8, 9, 10, 11, 12, 13] [0, 1, 2, 3, 4, 5, 6, 7, 8, 9, 10, 11, 12, 13, 14, 15, 16] rfl rfl rfl rfl (by decide) rfl (fun _ => rfl) (fun _ => rfl) rfl rfl rfl 0 rfl rfl rfl rfl (fun _ => ?_)
      refine z_if_eq 102 hG dX5_isTrue_85 (by decide) (fun c => ?_) (fun c => ?_)
      · replace hres := z_ifp c hres
        refine z_iconst 0 hG dX5_isTrue_102 (by decide) ?_
        obtain rfl := Option.some.inj hres
        exact (hR _ _ (z_nar01 (Or.inl rfl)) dX5_isTrue_103)
      · replace hres := z_ifn c hres
        refine z_aload_n hG dX5_isTrue_88 0 rfl ?_
        refine z_get (ci := 5) (C := RX5) (T := TX5) (N := 8) hG dX5_isTrue_89 iX5_isTrue_X5 4 (by decide) mX5_isTrue_7 rfl rfl 0 rfl rfl ?_
        obtain ⟨v4, hv, hres⟩ := z_bind hres
        refine z_callV (As := []) (rest := []) (wr := [(aH, .inr (5, [.ref aN, .ref aF, .ref aA, .ref aC, .ref aO, .ref aX, .int gB, .int gK])), (aN, .inr (3, [.ref aNk, .ref aNn, .int nS])), (aNk, .inl (K.2 0, 12, .inl nK)), (aNn, .inl (K.2 0, 12, .inl nN)), (aF, .inr (2, [.ref aFl, .ref aFc, .ref aFq, .int fM])), (aFl, .inl (K.2 0, 12, .inl fL)), (aFc, .inl (K.2 0, 12, .inl fC)), (aFq, .inl (K.2 0, 12, .inl fQ)), (aA, .inr (2, [.ref aAl, .ref aAc, .ref aAq, .int v1.2.2.2.1])), (aAl, .inl (K.2 0, 12, .inl v1.2.2.2.2.1)), (aAc, .inl (K.2 0, 12, .inl v1.2.2.2.2.2.1)), (aAq, .inl (K.2 0, 12, .inl v1.2.2.2.2.2.2)), (aC, .inr (1, [.ref aCt, .int v1.1, .int v1.2.1])), (aCt, .inl (K.2 0, 12, .inl v1.2.2.1))]) (ws' := (fun _ : Unit => [(aH, .inr (5, [.ref aN, .ref aF, .ref aA, .ref aC, .ref aO, .ref aX, .int gB, .int gK])), (aN, .inr (3, [.ref aNk, .ref aNn, .int nS])), (aNk, .inl (K.2 0, 12, .inl nK)), (aNn, .inl (K.2 0, 12, .inl nN)), (aF, .inr (2, [.ref aFl, .ref aFc, .ref aFq, .int fM])), (aFl, .inl (K.2 0, 12, .inl fL)), (aFc, .inl (K.2 0, 12, .inl fC)), (aFq, .inl (K.2 0, 12, .inl fQ)), (aA, .inr (2, [.ref aAl, .ref aAc, .ref aAq, .int v1.2.2.2.1])), (aAl, .inl (K.2 0, 12, .inl v1.2.2.2.2.1)), (aAc, .inl (K.2 0, 12, .inl v1.2.2.2.2.2.1)), (aAq, .inl (K.2 0, 12, .inl v1.2.2.2.2.2.2)), (aC, .inr (1, [.ref aCt, .int v1.1, .int v1.2.1])), (aCt, .inl (K.2 0, 12, .inl v1.2.2.1)), (aO, .inr (4, [.ref aOr, .ref aOx, .int v2.1])), (aOr, .inl (K.2 0, 12, .inl v2.2.1)), (aOx, .inl (K.2 0, 13, .inl v2.2.2))])) (stk := (fun _ : Unit => [.int v4])) (kc' := 0) (ks' := 0) (n := 0) (C := RX4) (ci := 4) hG dX5_isTrue_92 (kX4_isUnlike _ K aO aOr aOx v2.1 v2.2.1 v2.2.2 v4 hv) gX5_isTrue_X4_isUnlike rfl rfl rfl ⟨rfl, by decide, by decide, rfl⟩ ⟨by decide, by decide⟩ (Nat.le_of_ble_eq_true rfl) ⟨(Nat.le_of_ble_eq_true rfl), (Nat.le_of_ble_eq_true rfl)⟩ [14, 15, 16] [0, 1, 2, 3, 4, 5, 6, 7, 8, 9, 10, 11, 12, 13] [0, 1, 2, 3, 4, 5, 6, 7, 8, 9, 10, 11, 12, 13, 14, 15, 16] rfl rfl rfl rfl (by decide) rfl (fun _ => rfl) (fun _ => rfl) rfl rfl rfl 0 rfl rfl rfl rfl (fun _ => ?_)
        refine z_if_eq 102 hG dX5_isTrue_95 (by decide) (fun c => ?_) (fun c => ?_)
        · replace hres := z_ifp c hres
          refine z_iconst 0 hG dX5_isTrue_102 (by decide) ?_
          obtain rfl := Option.some.inj hres
          exact (hR _ _ (z_nar01 (Or.inl rfl)) dX5_isTrue_103)
        · replace hres := z_ifn c hres
          refine z_iconst 1 hG dX5_isTrue_98 (by decide) ?_
          refine z_goto 103 hG dX5_isTrue_99 (by decide) ?_
          obtain rfl := Option.some.inj hres
          exact (hR _ _ (z_nar01 (Or.inr rfl)) dX5_isTrue_103)
    · replace hres := z_ifn c hres
      refine z_aload_n hG dX5_isTrue_55 0 rfl ?_
      refine z_get (ci := 5) (C := RX5) (T := TX5) (N := 8) hG dX5_isTrue_56 iX5_isTrue_X5 3 (by decide) mX5_isTrue_2 rfl rfl 0 rfl rfl ?_
      refine z_aload_n hG dX5_isTrue_59 0 rfl ?_
      refine z_get (ci := 5) (C := RX5) (T := TX5) (N := 8) hG dX5_isTrue_60 iX5_isTrue_X5 0 (by decide) mX5_isTrue_3 rfl rfl 0 rfl rfl ?_
      obtain ⟨v5, hv, hres⟩ := z_bind hres
      refine z_callV (As := [.ref aN]) (rest := []) (wr := [(aH, .inr (5, [.ref aN, .ref aF, .ref aA, .ref aC, .ref aO, .ref aX, .int gB, .int gK])), (aF, .inr (2, [.ref aFl, .ref aFc, .ref aFq, .int fM])), (aFl, .inl (K.2 0, 12, .inl fL)), (aFc, .inl (K.2 0, 12, .inl fC)), (aFq, .inl (K.2 0, 12, .inl fQ)), (aA, .inr (2, [.ref aAl, .ref aAc, .ref aAq, .int v1.2.2.2.1])), (aAl, .inl (K.2 0, 12, .inl v1.2.2.2.2.1)), (aAc, .inl (K.2 0, 12, .inl v1.2.2.2.2.2.1)), (aAq, .inl (K.2 0, 12, .inl v1.2.2.2.2.2.2)), (aO, .inr (4, [.ref aOr, .ref aOx, .int oS])), (aOr, .inl (K.2 0, 12, .inl oR)), (aOx, .inl (K.2 0, 13, .inl oX))]) (ws' := (fun _ : Unit => [(aH, .inr (5, [.ref aN, .ref aF, .ref aA, .ref aC, .ref aO, .ref aX, .int gB, .int gK])), (aN, .inr (3, [.ref aNk, .ref aNn, .int nS])), (aNk, .inl (K.2 0, 12, .inl nK)), (aNn, .inl (K.2 0, 12, .inl nN)), (aF, .inr (2, [.ref aFl, .ref aFc, .ref aFq, .int fM])), (aFl, .inl (K.2 0, 12, .inl fL)), (aFc, .inl (K.2 0, 12, .inl fC)), (aFq, .inl (K.2 0, 12, .inl fQ)), (aA, .inr (2, [.ref aAl, .ref aAc, .ref aAq, .int v1.2.2.2.1])), (aAl, .inl (K.2 0, 12, .inl v1.2.2.2.2.1)), (aAc, .inl (K.2 0, 12, .inl v1.2.2.2.2.2.1)), (aAq, .inl (K.2 0, 12, .inl v1.2.2.2.2.2.2)), (aC, .inr (1, [.ref aCt, .int v1.1, .int v1.2.1])), (aCt, .inl (K.2 0, 12, .inl v1.2.2.1)), (aO, .inr (4, [.ref aOr, .ref aOx, .int oS])), (aOr, .inl (K.2 0, 12, .inl oR)), (aOx, .inl (K.2 0, 13, .inl oX))])) (stk := (fun _ : Unit => [.int v5])) (kc' := 0) (ks' := 0) (n := 1) (C := RX1) (ci := 1) hG dX5_isTrue_63 (kX1_areUnlike _ K aC aCt aN aNk aNn v1.1 v1.2.1 v1.2.2.1 nS nK nN v5 hv) gX5_isTrue_X1_areUnlike rfl rfl rfl ⟨rfl, by decide, by decide, rfl⟩ ⟨by decide, by decide⟩ (Nat.le_of_ble_eq_true rfl) ⟨(Nat.le_of_ble_eq_true rfl), (Nat.le_of_ble_eq_true rfl)⟩ [12, 13, 1, 2, 3] [0, 4, 5, 6, 7, 8, 9, 10, 11, 14, 15, 16] [0, 14, 15, 16, 1, 2, 3, 4, 5, 6, 7, 8, 12, 13, 9, 10, 11] rfl rfl rfl rfl (by decide) rfl (fun _ => rfl) (fun _ => rfl) rfl rfl rfl 0 rfl rfl rfl rfl (fun _ => ?_)
      obtain ⟨hg, hres⟩ := z_guard hres
      obtain rfl := Option.some.inj hres
      exact (hR _ _ (z_nar01 hg) dX5_isTrue_66)
  · replace hres := z_ifn c hres
    refine z_aload_n hG dX5_isTrue_7 0 rfl ?_
    obtain ⟨v6, hv, hres⟩ := z_bind hres
    refine z_callV (As := []) (rest := []) (wr := [(aA, .inr (2, [.ref aAl, .ref aAc, .ref aAq, .int wM])), (aAl, .inl (K.2 0, 12, .inl wL)), (aAc, .inl (K.2 0, 12, .inl wC)), (aAq, .inl (K.2 0, 12, .inl wQ)), (aC, .inr (1, [.ref aCt, .int cP, .int cW])), (aCt, .inl (K.2 0, 12, .inl cT)), (aO, .inr (4, [.ref aOr, .ref aOx, .int oS])), (aOr, .inl (K.2 0, 12, .inl oR)), (aOx, .inl (K.2 0, 13, .inl oX))]) (ws' := (fun _ : Unit => [(aH, .inr (5, [.ref aN, .ref aF, .ref aA, .ref aC, .ref aO, .ref aX, .int gB, .int gK])), (aN, .inr (3, [.ref aNk, .ref aNn, .int nS])), (aNk, .inl (K.2 0, 12, .inl nK)), (aNn, .inl (K.2 0, 12, .inl nN)), (aF, .inr (2, [.ref aFl, .ref aFc, .ref aFq, .int fM])), (aFl, .inl (K.2 0, 12, .inl fL)), (aFc, .inl (K.2 0, 12, .inl fC)), (aFq, .inl (K.2 0, 12, .inl fQ)), (aA, .inr (2, [.ref aAl, .ref aAc, .ref aAq, .int wM])), (aAl, .inl (K.2 0, 12, .inl wL)), (aAc, .inl (K.2 0, 12, .inl wC)), (aAq, .inl (K.2 0, 12, .inl wQ)), (aC, .inr (1, [.ref aCt, .int cP, .int cW])), (aCt, .inl (K.2 0, 12, .inl cT)), (aO, .inr (4, [.ref aOr, .ref aOx, .int oS])), (aOr, .inl (K.2 0, 12, .inl oR)), (aOx, .inl (K.2 0, 13, .inl oX))])) (stk := (fun _ : Unit => [.int v6])) (kc' := 0) (ks' := 0) (n := 0) (C := RX5) (ci := 5) hG dX5_isTrue_8 (kX5_streetsKeepLayers _ K aH aN aNk aNn aF aFl aFc aFq aA aC aO aX gB gK nS nK nN fM fL fC fQ v6 hv) gX5_isTrue_X5_streetsKeepLayers rfl rfl rfl ⟨rfl, by decide, by decide, rfl⟩ ⟨by decide, by decide⟩ (Nat.le_of_ble_eq_true rfl) ⟨(Nat.le_of_ble_eq_true rfl), (Nat.le_of_ble_eq_true rfl)⟩ [0, 1, 2, 3, 4, 5, 6, 7] [8, 9, 10, 11, 12, 13, 14, 15, 16] [9, 10, 11, 12, 13, 14, 15, 16, 0, 1, 2, 3, 4, 5, 6, 7, 8] rfl rfl rfl rfl (by decide) rfl (fun _ => rfl) (fun _ => rfl) rfl rfl rfl 0 rfl rfl rfl rfl (fun _ => ?_)
    refine z_if_eq 28 hG dX5_isTrue_11 (by decide) (fun c => ?_) (fun c => ?_)
    · replace hres := z_ifp c hres
      refine z_iconst 0 hG dX5_isTrue_28 (by decide) ?_
      obtain rfl := Option.some.inj hres
      exact (hR _ _ (z_nar01 (Or.inl rfl)) dX5_isTrue_29)
    · replace hres := z_ifn c hres
      refine z_aload_n hG dX5_isTrue_14 0 rfl ?_
      obtain ⟨v7, hv, hres⟩ := z_bind hres
      refine z_callV (As := []) (rest := []) (wr := [(aA, .inr (2, [.ref aAl, .ref aAc, .ref aAq, .int wM])), (aAl, .inl (K.2 0, 12, .inl wL)), (aAc, .inl (K.2 0, 12, .inl wC)), (aAq, .inl (K.2 0, 12, .inl wQ)), (aC, .inr (1, [.ref aCt, .int cP, .int cW])), (aCt, .inl (K.2 0, 12, .inl cT)), (aO, .inr (4, [.ref aOr, .ref aOx, .int oS])), (aOr, .inl (K.2 0, 12, .inl oR)), (aOx, .inl (K.2 0, 13, .inl oX))]) (ws' := (fun _ : Unit => [(aH, .inr (5, [.ref aN, .ref aF, .ref aA, .ref aC, .ref aO, .ref aX, .int gB, .int gK])), (aN, .inr (3, [.ref aNk, .ref aNn, .int nS])), (aNk, .inl (K.2 0, 12, .inl nK)), (aNn, .inl (K.2 0, 12, .inl nN)), (aF, .inr (2, [.ref aFl, .ref aFc, .ref aFq, .int fM])), (aFl, .inl (K.2 0, 12, .inl fL)), (aFc, .inl (K.2 0, 12, .inl fC)), (aFq, .inl (K.2 0, 12, .inl fQ)), (aA, .inr (2, [.ref aAl, .ref aAc, .ref aAq, .int wM])), (aAl, .inl (K.2 0, 12, .inl wL)), (aAc, .inl (K.2 0, 12, .inl wC)), (aAq, .inl (K.2 0, 12, .inl wQ)), (aC, .inr (1, [.ref aCt, .int cP, .int cW])), (aCt, .inl (K.2 0, 12, .inl cT)), (aO, .inr (4, [.ref aOr, .ref aOx, .int oS])), (aOr, .inl (K.2 0, 12, .inl oR)), (aOx, .inl (K.2 0, 13, .inl oX))])) (stk := (fun _ : Unit => [.int v7])) (kc' := 0) (ks' := 0) (n := 0) (C := RX5) (ci := 5) hG dX5_isTrue_15 (kX5_waysAddUp _ K aH aN aNk aNn aF aFl aFc aFq aA aC aO aX gB gK nS nK nN fM fL fC fQ v7 hv) gX5_isTrue_X5_waysAddUp rfl rfl rfl ⟨rfl, by decide, by decide, rfl⟩ ⟨by decide, by decide⟩ (Nat.le_of_ble_eq_true rfl) ⟨(Nat.le_of_ble_eq_true rfl), (Nat.le_of_ble_eq_true rfl)⟩ [0, 1, 2, 3, 4, 5, 6, 7] [8, 9, 10, 11, 12, 13, 14, 15, 16] [9, 10, 11, 12, 13, 14, 15, 16, 0, 1, 2, 3, 4, 5, 6, 7, 8] rfl rfl rfl rfl (by decide) rfl (fun _ => rfl) (fun _ => rfl) rfl rfl rfl 0 rfl rfl rfl rfl (fun _ => ?_)
      refine z_if_eq 28 hG dX5_isTrue_18 (by decide) (fun c => ?_) (fun c => ?_)
      · replace hres := z_ifp c hres
        refine z_iconst 0 hG dX5_isTrue_28 (by decide) ?_
        obtain rfl := Option.some.inj hres
        exact (hR _ _ (z_nar01 (Or.inl rfl)) dX5_isTrue_29)
      · replace hres := z_ifn c hres
        refine z_aload_n hG dX5_isTrue_21 0 rfl ?_
        obtain ⟨v8, hv, hres⟩ := z_bind hres
        refine z_callV (As := []) (rest := []) (wr := [(aN, .inr (3, [.ref aNk, .ref aNn, .int nS])), (aNk, .inl (K.2 0, 12, .inl nK)), (aNn, .inl (K.2 0, 12, .inl nN)), (aA, .inr (2, [.ref aAl, .ref aAc, .ref aAq, .int wM])), (aAl, .inl (K.2 0, 12, .inl wL)), (aAc, .inl (K.2 0, 12, .inl wC)), (aAq, .inl (K.2 0, 12, .inl wQ)), (aC, .inr (1, [.ref aCt, .int cP, .int cW])), (aCt, .inl (K.2 0, 12, .inl cT)), (aO, .inr (4, [.ref aOr, .ref aOx, .int oS])), (aOr, .inl (K.2 0, 12, .inl oR)), (aOx, .inl (K.2 0, 13, .inl oX))]) (ws' := (fun _ : Unit => [(aH, .inr (5, [.ref aN, .ref aF, .ref aA, .ref aC, .ref aO, .ref aX, .int gB, .int gK])), (aN, .inr (3, [.ref aNk, .ref aNn, .int nS])), (aNk, .inl (K.2 0, 12, .inl nK)), (aNn, .inl (K.2 0, 12, .inl nN)), (aF, .inr (2, [.ref aFl, .ref aFc, .ref aFq, .int fM])), (aFl, .inl (K.2 0, 12, .inl fL)), (aFc, .inl (K.2 0, 12, .inl fC)), (aFq, .inl (K.2 0, 12, .inl fQ)), (aA, .inr (2, [.ref aAl, .ref aAc, .ref aAq, .int wM])), (aAl, .inl (K.2 0, 12, .inl wL)), (aAc, .inl (K.2 0, 12, .inl wC)), (aAq, .inl (K.2 0, 12, .inl wQ)), (aC, .inr (1, [.ref aCt, .int cP, .int cW])), (aCt, .inl (K.2 0, 12, .inl cT)), (aO, .inr (4, [.ref aOr, .ref aOx, .int oS])), (aOr, .inl (K.2 0, 12, .inl oR)), (aOx, .inl (K.2 0, 13, .inl oX))])) (stk := (fun _ : Unit => [.int v8])) (kc' := 0) (ks' := 0) (n := 0) (C := RX5) (ci := 5) hG dX5_isTrue_22 (kX5_lengthsRise _ K aH aF aFl aFc aFq aN aA aC aO aX gB gK fM fL fC fQ v8 hv) gX5_isTrue_X5_lengthsRise rfl rfl rfl ⟨rfl, by decide, by decide, rfl⟩ ⟨by decide, by decide⟩ (Nat.le_of_ble_eq_true rfl) ⟨(Nat.le_of_ble_eq_true rfl), (Nat.le_of_ble_eq_true rfl)⟩ [0, 4, 5, 6, 7] [1, 2, 3, 8, 9, 10, 11, 12, 13, 14, 15, 16] [12, 0, 1, 2, 13, 14, 15, 16, 3, 4, 5, 6, 7, 8, 9, 10, 11] rfl rfl rfl rfl (by decide) rfl (fun _ => rfl) (fun _ => rfl) rfl rfl rfl 0 rfl rfl rfl rfl (fun _ => ?_)
        refine z_if_ne 30 hG dX5_isTrue_25 (by decide) (fun c => ?_) (fun c => ?_)
        · replace hres := z_ifn c hres
          refine z_aload_n hG dX5_isTrue_30 0 rfl ?_
          refine z_get (ci := 5) (C := RX5) (T := TX5) (N := 8) hG dX5_isTrue_31 iX5_isTrue_X5 3 (by decide) mX5_isTrue_2 rfl rfl 0 rfl rfl ?_
          refine z_aload_n hG dX5_isTrue_34 0 rfl ?_
          refine z_get (ci := 5) (C := RX5) (T := TX5) (N := 8) hG dX5_isTrue_35 iX5_isTrue_X5 0 (by decide) mX5_isTrue_3 rfl rfl 0 rfl rfl ?_
          refine z_aload_n hG dX5_isTrue_38 0 rfl ?_
          refine z_get (ci := 5) (C := RX5) (T := TX5) (N := 8) hG dX5_isTrue_39 iX5_isTrue_X5 2 (by decide) mX5_isTrue_4 rfl rfl 0 rfl rfl ?_
          obtain ⟨v9, hv, hres⟩ := z_bind hres
          refine z_callV (As := [.ref aN, .ref aA]) (rest := []) (wr := [(aH, .inr (5, [.ref aN, .ref aF, .ref aA, .ref aC, .ref aO, .ref aX, .int gB, .int gK])), (aF, .inr (2, [.ref aFl, .ref aFc, .ref aFq, .int fM])), (aFl, .inl (K.2 0, 12, .inl fL)), (aFc, .inl (K.2 0, 12, .inl fC)), (aFq, .inl (K.2 0, 12, .inl fQ)), (aO, .inr (4, [.ref aOr, .ref aOx, .int oS])), (aOr, .inl (K.2 0, 12, .inl oR)), (aOx, .inl (K.2 0, 13, .inl oX))]) (ws' := (fun _ : Unit => [(aH, .inr (5, [.ref aN, .ref aF, .ref aA, .ref aC, .ref aO, .ref aX, .int gB, .int gK])), (aN, .inr (3, [.ref aNk, .ref aNn, .int nS])), (aNk, .inl (K.2 0, 12, .inl nK)), (aNn, .inl (K.2 0, 12, .inl nN)), (aF, .inr (2, [.ref aFl, .ref aFc, .ref aFq, .int fM])), (aFl, .inl (K.2 0, 12, .inl fL)), (aFc, .inl (K.2 0, 12, .inl fC)), (aFq, .inl (K.2 0, 12, .inl fQ)), (aA, .inr (2, [.ref aAl, .ref aAc, .ref aAq, .int v9.2.2.2.1])), (aAl, .inl (K.2 0, 12, .inl v9.2.2.2.2.1)), (aAc, .inl (K.2 0, 12, .inl v9.2.2.2.2.2.1)), (aAq, .inl (K.2 0, 12, .inl v9.2.2.2.2.2.2)), (aC, .inr (1, [.ref aCt, .int v9.1, .int v9.2.1])), (aCt, .inl (K.2 0, 12, .inl v9.2.2.1)), (aO, .inr (4, [.ref aOr, .ref aOx, .int oS])), (aOr, .inl (K.2 0, 12, .inl oR)), (aOx, .inl (K.2 0, 13, .inl oX))])) (stk := (fun _ : Unit => [])) (kc' := 0) (ks' := 0) (n := 2) (C := RX1) (ci := 1) hG dX5_isTrue_42 (kX1_paint _ K aC aCt aN aNk aNn aA aAl aAc aAq cP cW cT nS nK nN wM wL wC wQ v9 hv) gX5_isTrue_X1_paint rfl rfl rfl ⟨rfl, by decide, by decide, rfl⟩ ⟨by decide, by decide⟩ (Nat.le_of_ble_eq_true rfl) ⟨(Nat.le_of_ble_eq_true rfl), (Nat.le_of_ble_eq_true rfl)⟩ [12, 13, 1, 2, 3, 8, 9, 10, 11] [0, 4, 5, 6, 7, 14, 15, 16] [0, 10, 11, 12, 1, 2, 3, 4, 13, 14, 15, 16, 8, 9, 5, 6, 7] rfl rfl rfl rfl (by decide) rfl (fun _ => rfl) (fun _ => rfl) rfl rfl rfl 0 rfl rfl rfl rfl (fun _ => ?_)
          refine z_aload_n hG dX5_isTrue_45 0 rfl ?_
          refine z_get (ci := 5) (C := RX5) (T := TX5) (N := 8) hG dX5_isTrue_46 iX5_isTrue_X5 3 (by decide) mX5_isTrue_2 rfl rfl 0 rfl rfl ?_
          refine z_get (ci := 1) (C := RX1) (T := TX1) (N := 3) hG dX5_isTrue_49 iX5_isTrue_X1 2 (by decide) mX5_isTrue_5 rfl rfl 12 rfl rfl ?_
          refine z_if_eq 67 hG dX5_isTrue_52 (by decide) (fun c => ?_) (fun c => ?_)
          · replace hres := z_ifp c hres
            refine z_aload_n hG dX5_isTrue_67 0 rfl ?_
            refine z_get (ci := 5) (C := RX5) (T := TX5) (N := 8) hG dX5_isTrue_68 iX5_isTrue_X5 4 (by decide) mX5_isTrue_7 rfl rfl 0 rfl rfl ?_
            refine z_aload_n hG dX5_isTrue_71 0 rfl ?_
            refine z_get (ci := 5) (C := RX5) (T := TX5) (N := 8) hG dX5_isTrue_72 iX5_isTrue_X5 0 (by decide) mX5_isTrue_3 rfl rfl 0 rfl rfl ?_
            obtain ⟨v10, hv, hres⟩ := z_bind hres
            refine z_callV (As := [.ref aN]) (rest := []) (wr := [(aH, .inr (5, [.ref aN, .ref aF, .ref aA, .ref aC, .ref aO, .ref aX, .int gB, .int gK])), (aF, .inr (2, [.ref aFl, .ref aFc, .ref aFq, .int fM])), (aFl, .inl (K.2 0, 12, .inl fL)), (aFc, .inl (K.2 0, 12, .inl fC)), (aFq, .inl (K.2 0, 12, .inl fQ)), (aA, .inr (2, [.ref aAl, .ref aAc, .ref aAq, .int v9.2.2.2.1])), (aAl, .inl (K.2 0, 12, .inl v9.2.2.2.2.1)), (aAc, .inl (K.2 0, 12, .inl v9.2.2.2.2.2.1)), (aAq, .inl (K.2 0, 12, .inl v9.2.2.2.2.2.2)), (aC, .inr (1, [.ref aCt, .int v9.1, .int v9.2.1])), (aCt, .inl (K.2 0, 12, .inl v9.2.2.1))]) (ws' := (fun _ : Unit => [(aH, .inr (5, [.ref aN, .ref aF, .ref aA, .ref aC, .ref aO, .ref aX, .int gB, .int gK])), (aN, .inr (3, [.ref aNk, .ref aNn, .int nS])), (aNk, .inl (K.2 0, 12, .inl nK)), (aNn, .inl (K.2 0, 12, .inl nN)), (aF, .inr (2, [.ref aFl, .ref aFc, .ref aFq, .int fM])), (aFl, .inl (K.2 0, 12, .inl fL)), (aFc, .inl (K.2 0, 12, .inl fC)), (aFq, .inl (K.2 0, 12, .inl fQ)), (aA, .inr (2, [.ref aAl, .ref aAc, .ref aAq, .int v9.2.2.2.1])), (aAl, .inl (K.2 0, 12, .inl v9.2.2.2.2.1)), (aAc, .inl (K.2 0, 12, .inl v9.2.2.2.2.2.1)), (aAq, .inl (K.2 0, 12, .inl v9.2.2.2.2.2.2)), (aC, .inr (1, [.ref aCt, .int v9.1, .int v9.2.1])), (aCt, .inl (K.2 0, 12, .inl v9.2.2.1)), (aO, .inr (4, [.ref aOr, .ref aOx, .int v10.1])), (aOr, .inl (K.2 0, 12, .inl v10.2.1)), (aOx, .inl (K.2 0, 13, .inl v10.2.2))])) (stk := (fun _ : Unit => [])) (kc' := 0) (ks' := 0) (n := 1) (C := RX4) (ci := 4) hG dX5_isTrue_75 (kX4_find _ K aO aOr aOx aN aNk aNn oS oR oX nS nK nN v10 hv) gX5_isTrue_X4_find rfl rfl rfl ⟨rfl, by decide, by decide, rfl⟩ ⟨by decide, by decide⟩ (Nat.le_of_ble_eq_true rfl) ⟨(Nat.le_of_ble_eq_true rfl), (Nat.le_of_ble_eq_true rfl)⟩ [14, 15, 16, 1, 2, 3] [0, 4, 5, 6, 7, 8, 9, 10, 11, 12, 13] [0, 14, 15, 16, 1, 2, 3, 4, 5, 6, 7, 8, 9, 10, 11, 12, 13] rfl rfl rfl rfl (by decide) rfl (fun _ => rfl) (fun _ => rfl) rfl rfl rfl 0 rfl rfl rfl rfl (fun _ => ?_)
            refine z_aload_n hG dX5_isTrue_78 0 rfl ?_
            refine z_get (ci := 5) (C := RX5) (T := TX5) (N := 8) hG dX5_isTrue_79 iX5_isTrue_X5 4 (by decide) mX5_isTrue_7 rfl rfl 0 rfl rfl ?_
            obtain ⟨v11, hv, hres⟩ := z_bind hres
            refine z_callV (As := []) (rest := []) (wr := [(aH, .inr (5, [.ref aN, .ref aF, .ref aA, .ref aC, .ref aO, .ref aX, .int gB, .int gK])), (aN, .inr (3, [.ref aNk, .ref aNn, .int nS])), (aNk, .inl (K.2 0, 12, .inl nK)), (aNn, .inl (K.2 0, 12, .inl nN)), (aF, .inr (2, [.ref aFl, .ref aFc, .ref aFq, .int fM])), (aFl, .inl (K.2 0, 12, .inl fL)), (aFc, .inl (K.2 0, 12, .inl fC)), (aFq, .inl (K.2 0, 12, .inl fQ)), (aA, .inr (2, [.ref aAl, .ref aAc, .ref aAq, .int v9.2.2.2.1])), (aAl, .inl (K.2 0, 12, .inl v9.2.2.2.2.1)), (aAc, .inl (K.2 0, 12, .inl v9.2.2.2.2.2.1)), (aAq, .inl (K.2 0, 12, .inl v9.2.2.2.2.2.2)), (aC, .inr (1, [.ref aCt, .int v9.1, .int v9.2.1])), (aCt, .inl (K.2 0, 12, .inl v9.2.2.1))]) (ws' := (fun _ : Unit => [(aH, .inr (5, [.ref aN, .ref aF, .ref aA, .ref aC, .ref aO, .ref aX, .int gB, .int gK])), (aN, .inr (3, [.ref aNk, .ref aNn, .int nS])), (aNk, .inl (K.2 0, 12, .inl nK)), (aNn, .inl (K.2 0, 12, .inl nN)), (aF, .inr (2, [.ref aFl, .ref aFc, .ref aFq, .int fM])), (aFl, .inl (K.2 0, 12, .inl fL)), (aFc, .inl (K.2 0, 12, .inl fC)), (aFq, .inl (K.2 0, 12, .inl fQ)), (aA, .inr (2, [.ref aAl, .ref aAc, .ref aAq, .int v9.2.2.2.1])), (aAl, .inl (K.2 0, 12, .inl v9.2.2.2.2.1)), (aAc, .inl (K.2 0, 12, .inl v9.2.2.2.2.2.1)), (aAq, .inl (K.2 0, 12, .inl v9.2.2.2.2.2.2)), (aC, .inr (1, [.ref aCt, .int v9.1, .int v9.2.1])), (aCt, .inl (K.2 0, 12, .inl v9.2.2.1)), (aO, .inr (4, [.ref aOr, .ref aOx, .int v10.1])), (aOr, .inl (K.2 0, 12, .inl v10.2.1)), (aOx, .inl (K.2 0, 13, .inl v10.2.2))])) (stk := (fun _ : Unit => [.int v11])) (kc' := 0) (ks' := 0) (n := 0) (C := RX4) (ci := 4) hG dX5_isTrue_82 (kX4_isOdd _ K aO aOr aOx v10.1 v10.2.1 v10.2.2 v11 hv) gX5_isTrue_X4_isOdd rfl rfl rfl ⟨rfl, by decide, by decide, rfl⟩ ⟨by decide, by decide⟩ (Nat.le_of_ble_eq_true rfl) ⟨(Nat.le_of_ble_eq_true rfl), (Nat.le_of_ble_eq_true rfl)⟩ [14, 15, 16] [0, 1, 2, 3, 4, 5, 6, 7, 8, 9, 10, 11, 12, 13] [0, 1, 2, 3, 4, 5, 6, 7, 8, 9, 10, 11, 12, 13, 14, 15, 16] rfl rfl rfl rfl (by decide) rfl (fun _ => rfl) (fun _ => rfl) rfl rfl rfl 0 rfl rfl rfl rfl (fun _ => ?_)
            refine z_if_eq 102 hG dX5_isTrue_85 (by decide) (fun c => ?_) (fun c => ?_)
            · replace hres := z_ifp c hres
              refine z_iconst 0 hG dX5_isTrue_102 (by decide) ?_
              obtain rfl := Option.some.inj hres
              exact (hR _ _ (z_nar01 (Or.inl rfl)) dX5_isTrue_103)
            · replace hres := z_ifn c hres
              refine z_aload_n hG dX5_isTrue_88 0 rfl ?_
              refine z_get (ci := 5) (C := RX5) (T := TX5) (N := 8) hG dX5_isTrue_89 iX5_isTrue_X5 4 (by decide) mX5_isTrue_7 rfl rfl 0 rfl rfl ?_
              obtain ⟨v12, hv, hres⟩ := z_bind hres
              refine z_callV (As := []) (rest := []) (wr := [(aH, .inr (5, [.ref aN, .ref aF, .ref aA, .ref aC, .ref aO, .ref aX, .int gB, .int gK])), (aN, .inr (3, [.ref aNk, .ref aNn, .int nS])), (aNk, .inl (K.2 0, 12, .inl nK)), (aNn, .inl (K.2 0, 12, .inl nN)), (aF, .inr (2, [.ref aFl, .ref aFc, .ref aFq, .int fM])), (aFl, .inl (K.2 0, 12, .inl fL)), (aFc, .inl (K.2 0, 12, .inl fC)), (aFq, .inl (K.2 0, 12, .inl fQ)), (aA, .inr (2, [.ref aAl, .ref aAc, .ref aAq, .int v9.2.2.2.1])), (aAl, .inl (K.2 0, 12, .inl v9.2.2.2.2.1)), (aAc, .inl (K.2 0, 12, .inl v9.2.2.2.2.2.1)), (aAq, .inl (K.2 0, 12, .inl v9.2.2.2.2.2.2)), (aC, .inr (1, [.ref aCt, .int v9.1, .int v9.2.1])), (aCt, .inl (K.2 0, 12, .inl v9.2.2.1))]) (ws' := (fun _ : Unit => [(aH, .inr (5, [.ref aN, .ref aF, .ref aA, .ref aC, .ref aO, .ref aX, .int gB, .int gK])), (aN, .inr (3, [.ref aNk, .ref aNn, .int nS])), (aNk, .inl (K.2 0, 12, .inl nK)), (aNn, .inl (K.2 0, 12, .inl nN)), (aF, .inr (2, [.ref aFl, .ref aFc, .ref aFq, .int fM])), (aFl, .inl (K.2 0, 12, .inl fL)), (aFc, .inl (K.2 0, 12, .inl fC)), (aFq, .inl (K.2 0, 12, .inl fQ)), (aA, .inr (2, [.ref aAl, .ref aAc, .ref aAq, .int v9.2.2.2.1])), (aAl, .inl (K.2 0, 12, .inl v9.2.2.2.2.1)), (aAc, .inl (K.2 0, 12, .inl v9.2.2.2.2.2.1)), (aAq, .inl (K.2 0, 12, .inl v9.2.2.2.2.2.2)), (aC, .inr (1, [.ref aCt, .int v9.1, .int v9.2.1])), (aCt, .inl (K.2 0, 12, .inl v9.2.2.1)), (aO, .inr (4, [.ref aOr, .ref aOx, .int v10.1])), (aOr, .inl (K.2 0, 12, .inl v10.2.1)), (aOx, .inl (K.2 0, 13, .inl v10.2.2))])) (stk := (fun _ : Unit => [.int v12])) (kc' := 0) (ks' := 0) (n := 0) (C := RX4) (ci := 4) hG dX5_isTrue_92 (kX4_isUnlike _ K aO aOr aOx v10.1 v10.2.1 v10.2.2 v12 hv) gX5_isTrue_X4_isUnlike rfl rfl rfl ⟨rfl, by decide, by decide, rfl⟩ ⟨by decide, by decide⟩ (Nat.le_of_ble_eq_true rfl) ⟨(Nat.le_of_ble_eq_true rfl), (Nat.le_of_ble_eq_true rfl)⟩ [14, 15, 16] [0, 1, 2, 3, 4, 5, 6, 7, 8, 9, 10, 11, 12, 13] [0, 1, 2, 3, 4, 5, 6, 7, 8, 9, 10, 11, 12, 13, 14, 15, 16] rfl rfl rfl rfl (by decide) rfl (fun _ => rfl) (fun _ => rfl) rfl rfl rfl 0 rfl rfl rfl rfl (fun _ => ?_)
              refine z_if_eq 102 hG dX5_isTrue_95 (by decide) (fun c => ?_) (fun c => ?_)
              · replace hres := z_ifp c hres
                refine z_iconst 0 hG dX5_isTrue_102 (by decide) ?_
                obtain rfl := Option.some.inj hres
                exact (hR _ _ (z_nar01 (Or.inl rfl)) dX5_isTrue_103)
              · replace hres := z_ifn c hres
                refine z_iconst 1 hG dX5_isTrue_98 (by decide) ?_
                refine z_goto 103 hG dX5_isTrue_99 (by decide) ?_
                obtain rfl := Option.some.inj hres
                exact (hR _ _ (z_nar01 (Or.inr rfl)) dX5_isTrue_103)
          · replace hres := z_ifn c hres
            refine z_aload_n hG dX5_isTrue_55 0 rfl ?_
            refine z_get (ci := 5) (C := RX5) (T := TX5) (N := 8) hG dX5_isTrue_56 iX5_isTrue_X5 3 (by decide) mX5_isTrue_2 rfl rfl 0 rfl rfl ?_
            refine z_aload_n hG dX5_isTrue_59 0 rfl ?_
            refine z_get (ci := 5) (C := RX5) (T := TX5) (N := 8) hG dX5_isTrue_60 iX5_isTrue_X5 0 (by decide) mX5_isTrue_3 rfl rfl 0 rfl rfl ?_
            obtain ⟨v13, hv, hres⟩ := z_bind hres
            refine z_callV (As := [.ref aN]) (rest := []) (wr := [(aH, .inr (5, [.ref aN, .ref aF, .ref aA, .ref aC, .ref aO, .ref aX, .int gB, .int gK])), (aF, .inr (2, [.ref aFl, .ref aFc, .ref aFq, .int fM])), (aFl, .inl (K.2 0, 12, .inl fL)), (aFc, .inl (K.2 0, 12, .inl fC)), (aFq, .inl (K.2 0, 12, .inl fQ)), (aA, .inr (2, [.ref aAl, .ref aAc, .ref aAq, .int v9.2.2.2.1])), (aAl, .inl (K.2 0, 12, .inl v9.2.2.2.2.1)), (aAc, .inl (K.2 0, 12, .inl v9.2.2.2.2.2.1)), (aAq, .inl (K.2 0, 12, .inl v9.2.2.2.2.2.2)), (aO, .inr (4, [.ref aOr, .ref aOx, .int oS])), (aOr, .inl (K.2 0, 12, .inl oR)), (aOx, .inl (K.2 0, 13, .inl oX))]) (ws' := (fun _ : Unit => [(aH, .inr (5, [.ref aN, .ref aF, .ref aA, .ref aC, .ref aO, .ref aX, .int gB, .int gK])), (aN, .inr (3, [.ref aNk, .ref aNn, .int nS])), (aNk, .inl (K.2 0, 12, .inl nK)), (aNn, .inl (K.2 0, 12, .inl nN)), (aF, .inr (2, [.ref aFl, .ref aFc, .ref aFq, .int fM])), (aFl, .inl (K.2 0, 12, .inl fL)), (aFc, .inl (K.2 0, 12, .inl fC)), (aFq, .inl (K.2 0, 12, .inl fQ)), (aA, .inr (2, [.ref aAl, .ref aAc, .ref aAq, .int v9.2.2.2.1])), (aAl, .inl (K.2 0, 12, .inl v9.2.2.2.2.1)), (aAc, .inl (K.2 0, 12, .inl v9.2.2.2.2.2.1)), (aAq, .inl (K.2 0, 12, .inl v9.2.2.2.2.2.2)), (aC, .inr (1, [.ref aCt, .int v9.1, .int v9.2.1])), (aCt, .inl (K.2 0, 12, .inl v9.2.2.1)), (aO, .inr (4, [.ref aOr, .ref aOx, .int oS])), (aOr, .inl (K.2 0, 12, .inl oR)), (aOx, .inl (K.2 0, 13, .inl oX))])) (stk := (fun _ : Unit => [.int v13])) (kc' := 0) (ks' := 0) (n := 1) (C := RX1) (ci := 1) hG dX5_isTrue_63 (kX1_areUnlike _ K aC aCt aN aNk aNn v9.1 v9.2.1 v9.2.2.1 nS nK nN v13 hv) gX5_isTrue_X1_areUnlike rfl rfl rfl ⟨rfl, by decide, by decide, rfl⟩ ⟨by decide, by decide⟩ (Nat.le_of_ble_eq_true rfl) ⟨(Nat.le_of_ble_eq_true rfl), (Nat.le_of_ble_eq_true rfl)⟩ [12, 13, 1, 2, 3] [0, 4, 5, 6, 7, 8, 9, 10, 11, 14, 15, 16] [0, 14, 15, 16, 1, 2, 3, 4, 5, 6, 7, 8, 12, 13, 9, 10, 11] rfl rfl rfl rfl (by decide) rfl (fun _ => rfl) (fun _ => rfl) rfl rfl rfl 0 rfl rfl rfl rfl (fun _ => ?_)
            obtain ⟨hg, hres⟩ := z_guard hres
            obtain rfl := Option.some.inj hres
            exact (hR _ _ (z_nar01 hg) dX5_isTrue_66)
        · replace hres := z_ifp c hres
          refine z_iconst 0 hG dX5_isTrue_28 (by decide) ?_
          obtain rfl := Option.some.inj hres
          exact (hR _ _ (z_nar01 (Or.inl rfl)) dX5_isTrue_29)

theorem dX5_checksum_0 : decode cX5_checksum 0 = .ok (.ldc2_w 226, 3) := by decide +kernel
theorem dX5_checksum_3 : decode cX5_checksum 3 = .ok (.lstore_n 1, 1) := by decide +kernel
theorem dX5_checksum_4 : decode cX5_checksum 4 = .ok (.iconst 0, 1) := by decide +kernel
theorem dX5_checksum_5 : decode cX5_checksum 5 = .ok (.istore_n 3, 1) := by decide +kernel
theorem dX5_checksum_6 : decode cX5_checksum 6 = .ok (.iload_n 3, 1) := by decide +kernel
theorem dX5_checksum_7 : decode cX5_checksum 7 = .ok (.aload_n 0, 1) := by decide +kernel
theorem dX5_checksum_8 : decode cX5_checksum 8 = .ok (.getfield 10, 3) := by decide +kernel
theorem dX5_checksum_11 : decode cX5_checksum 11 = .ok (.getfield 66, 3) := by decide +kernel
theorem dX5_checksum_14 : decode cX5_checksum 14 = .ok (.if_icmp .ge 76, 3) := by decide +kernel
theorem dX5_checksum_17 : decode cX5_checksum 17 = .ok (.ldc2_w 228, 3) := by decide +kernel
theorem dX5_checksum_20 : decode cX5_checksum 20 = .ok (.lload_n 1, 1) := by decide +kernel
theorem dX5_checksum_21 : decode cX5_checksum 21 = .ok (.lmul, 1) := by decide +kernel
theorem dX5_checksum_22 : decode cX5_checksum 22 = .ok (.aload_n 0, 1) := by decide +kernel
theorem dX5_checksum_23 : decode cX5_checksum 23 = .ok (.getfield 10, 3) := by decide +kernel
theorem dX5_checksum_26 : decode cX5_checksum 26 = .ok (.getfield 127, 3) := by decide +kernel
theorem dX5_checksum_29 : decode cX5_checksum 29 = .ok (.iload_n 3, 1) := by decide +kernel
theorem dX5_checksum_30 : decode cX5_checksum 30 = .ok (.iaload, 1) := by decide +kernel
theorem dX5_checksum_31 : decode cX5_checksum 31 = .ok (.i2l, 1) := by decide +kernel
theorem dX5_checksum_32 : decode cX5_checksum 32 = .ok (.ladd, 1) := by decide +kernel
theorem dX5_checksum_33 : decode cX5_checksum 33 = .ok (.lstore_n 1, 1) := by decide +kernel
theorem dX5_checksum_34 : decode cX5_checksum 34 = .ok (.ldc2_w 228, 3) := by decide +kernel
theorem dX5_checksum_37 : decode cX5_checksum 37 = .ok (.lload_n 1, 1) := by decide +kernel
theorem dX5_checksum_38 : decode cX5_checksum 38 = .ok (.lmul, 1) := by decide +kernel
theorem dX5_checksum_39 : decode cX5_checksum 39 = .ok (.aload_n 0, 1) := by decide +kernel
theorem dX5_checksum_40 : decode cX5_checksum 40 = .ok (.getfield 10, 3) := by decide +kernel
theorem dX5_checksum_43 : decode cX5_checksum 43 = .ok (.iload_n 3, 1) := by decide +kernel
theorem dX5_checksum_44 : decode cX5_checksum 44 = .ok (.invokevirtual 87, 3) := by decide +kernel
theorem dX5_checksum_47 : decode cX5_checksum 47 = .ok (.i2l, 1) := by decide +kernel
theorem dX5_checksum_48 : decode cX5_checksum 48 = .ok (.ladd, 1) := by decide +kernel
theorem dX5_checksum_49 : decode cX5_checksum 49 = .ok (.lstore_n 1, 1) := by decide +kernel
theorem dX5_checksum_50 : decode cX5_checksum 50 = .ok (.ldc2_w 228, 3) := by decide +kernel
theorem dX5_checksum_53 : decode cX5_checksum 53 = .ok (.lload_n 1, 1) := by decide +kernel
theorem dX5_checksum_54 : decode cX5_checksum 54 = .ok (.lmul, 1) := by decide +kernel
theorem dX5_checksum_55 : decode cX5_checksum 55 = .ok (.aload_n 0, 1) := by decide +kernel
theorem dX5_checksum_56 : decode cX5_checksum 56 = .ok (.getfield 19, 3) := by decide +kernel
theorem dX5_checksum_59 : decode cX5_checksum 59 = .ok (.getfield 137, 3) := by decide +kernel
theorem dX5_checksum_62 : decode cX5_checksum 62 = .ok (.iload_n 3, 1) := by decide +kernel
theorem dX5_checksum_63 : decode cX5_checksum 63 = .ok (.iaload, 1) := by decide +kernel
theorem dX5_checksum_64 : decode cX5_checksum 64 = .ok (.i2l, 1) := by decide +kernel
theorem dX5_checksum_65 : decode cX5_checksum 65 = .ok (.ladd, 1) := by decide +kernel
theorem dX5_checksum_66 : decode cX5_checksum 66 = .ok (.lstore_n 1, 1) := by decide +kernel
theorem dX5_checksum_67 : decode cX5_checksum 67 = .ok (.ldc2_w 228, 3) := by decide +kernel
theorem dX5_checksum_70 : decode cX5_checksum 70 = .ok (.lload_n 1, 1) := by decide +kernel
theorem dX5_checksum_71 : decode cX5_checksum 71 = .ok (.lmul, 1) := by decide +kernel
theorem dX5_checksum_72 : decode cX5_checksum 72 = .ok (.aload_n 0, 1) := by decide +kernel
theorem dX5_checksum_73 : decode cX5_checksum 73 = .ok (.getfield 19, 3) := by decide +kernel
theorem dX5_checksum_76 : decode cX5_checksum 76 = .ok (.getfield 151, 3) := by decide +kernel
theorem dX5_checksum_79 : decode cX5_checksum 79 = .ok (.iload_n 3, 1) := by decide +kernel
theorem dX5_checksum_80 : decode cX5_checksum 80 = .ok (.iaload, 1) := by decide +kernel
theorem dX5_checksum_81 : decode cX5_checksum 81 = .ok (.i2l, 1) := by decide +kernel
theorem dX5_checksum_82 : decode cX5_checksum 82 = .ok (.ladd, 1) := by decide +kernel
theorem dX5_checksum_83 : decode cX5_checksum 83 = .ok (.lstore_n 1, 1) := by decide +kernel
theorem dX5_checksum_84 : decode cX5_checksum 84 = .ok (.iinc 3 1, 3) := by decide +kernel
theorem dX5_checksum_87 : decode cX5_checksum 87 = .ok (.goto (-81), 3) := by decide +kernel
theorem dX5_checksum_90 : decode cX5_checksum 90 = .ok (.aload_n 0, 1) := by decide +kernel
theorem dX5_checksum_91 : decode cX5_checksum 91 = .ok (.getfield 29, 3) := by decide +kernel
theorem dX5_checksum_94 : decode cX5_checksum 94 = .ok (.aload_n 0, 1) := by decide +kernel
theorem dX5_checksum_95 : decode cX5_checksum 95 = .ok (.getfield 10, 3) := by decide +kernel
theorem dX5_checksum_98 : decode cX5_checksum 98 = .ok (.aload_n 0, 1) := by decide +kernel
theorem dX5_checksum_99 : decode cX5_checksum 99 = .ok (.getfield 23, 3) := by decide +kernel
theorem dX5_checksum_102 : decode cX5_checksum 102 = .ok (.invokevirtual 171, 3) := by decide +kernel
theorem dX5_checksum_105 : decode cX5_checksum 105 = .ok (.ldc2_w 228, 3) := by decide +kernel
theorem dX5_checksum_108 : decode cX5_checksum 108 = .ok (.lload_n 1, 1) := by decide +kernel
theorem dX5_checksum_109 : decode cX5_checksum 109 = .ok (.lmul, 1) := by decide +kernel
theorem dX5_checksum_110 : decode cX5_checksum 110 = .ok (.aload_n 0, 1) := by decide +kernel
theorem dX5_checksum_111 : decode cX5_checksum 111 = .ok (.getfield 29, 3) := by decide +kernel
theorem dX5_checksum_114 : decode cX5_checksum 114 = .ok (.getfield 174, 3) := by decide +kernel
theorem dX5_checksum_117 : decode cX5_checksum 117 = .ok (.i2l, 1) := by decide +kernel
theorem dX5_checksum_118 : decode cX5_checksum 118 = .ok (.ladd, 1) := by decide +kernel
theorem dX5_checksum_119 : decode cX5_checksum 119 = .ok (.lstore_n 1, 1) := by decide +kernel
theorem dX5_checksum_120 : decode cX5_checksum 120 = .ok (.ldc2_w 228, 3) := by decide +kernel
theorem dX5_checksum_123 : decode cX5_checksum 123 = .ok (.lload_n 1, 1) := by decide +kernel
theorem dX5_checksum_124 : decode cX5_checksum 124 = .ok (.lmul, 1) := by decide +kernel
theorem dX5_checksum_125 : decode cX5_checksum 125 = .ok (.aload_n 0, 1) := by decide +kernel
theorem dX5_checksum_126 : decode cX5_checksum 126 = .ok (.getfield 29, 3) := by decide +kernel
theorem dX5_checksum_129 : decode cX5_checksum 129 = .ok (.getfield 177, 3) := by decide +kernel
theorem dX5_checksum_132 : decode cX5_checksum 132 = .ok (.ifCond .eq 7, 3) := by decide +kernel
theorem dX5_checksum_135 : decode cX5_checksum 135 = .ok (.iconst 1, 1) := by decide +kernel
theorem dX5_checksum_136 : decode cX5_checksum 136 = .ok (.goto 4, 3) := by decide +kernel
theorem dX5_checksum_139 : decode cX5_checksum 139 = .ok (.iconst 0, 1) := by decide +kernel
theorem dX5_checksum_140 : decode cX5_checksum 140 = .ok (.i2l, 1) := by decide +kernel
theorem dX5_checksum_141 : decode cX5_checksum 141 = .ok (.ladd, 1) := by decide +kernel
theorem dX5_checksum_142 : decode cX5_checksum 142 = .ok (.lstore_n 1, 1) := by decide +kernel
theorem dX5_checksum_143 : decode cX5_checksum 143 = .ok (.ldc2_w 228, 3) := by decide +kernel
theorem dX5_checksum_146 : decode cX5_checksum 146 = .ok (.lload_n 1, 1) := by decide +kernel
theorem dX5_checksum_147 : decode cX5_checksum 147 = .ok (.lmul, 1) := by decide +kernel
theorem dX5_checksum_148 : decode cX5_checksum 148 = .ok (.aload_n 0, 1) := by decide +kernel
theorem dX5_checksum_149 : decode cX5_checksum 149 = .ok (.getfield 43, 3) := by decide +kernel
theorem dX5_checksum_152 : decode cX5_checksum 152 = .ok (.getfield 113, 3) := by decide +kernel
theorem dX5_checksum_155 : decode cX5_checksum 155 = .ok (.i2l, 1) := by decide +kernel
theorem dX5_checksum_156 : decode cX5_checksum 156 = .ok (.ladd, 1) := by decide +kernel
theorem dX5_checksum_157 : decode cX5_checksum 157 = .ok (.lstore_n 1, 1) := by decide +kernel
theorem dX5_checksum_158 : decode cX5_checksum 158 = .ok (.iconst 0, 1) := by decide +kernel
theorem dX5_checksum_159 : decode cX5_checksum 159 = .ok (.istore_n 3, 1) := by decide +kernel
theorem dX5_checksum_160 : decode cX5_checksum 160 = .ok (.iload_n 3, 1) := by decide +kernel
theorem dX5_checksum_161 : decode cX5_checksum 161 = .ok (.aload_n 0, 1) := by decide +kernel
theorem dX5_checksum_162 : decode cX5_checksum 162 = .ok (.getfield 43, 3) := by decide +kernel
theorem dX5_checksum_165 : decode cX5_checksum 165 = .ok (.getfield 113, 3) := by decide +kernel
theorem dX5_checksum_168 : decode cX5_checksum 168 = .ok (.if_icmp .ge 43, 3) := by decide +kernel
theorem dX5_checksum_171 : decode cX5_checksum 171 = .ok (.ldc2_w 228, 3) := by decide +kernel
theorem dX5_checksum_174 : decode cX5_checksum 174 = .ok (.lload_n 1, 1) := by decide +kernel
theorem dX5_checksum_175 : decode cX5_checksum 175 = .ok (.lmul, 1) := by decide +kernel
theorem dX5_checksum_176 : decode cX5_checksum 176 = .ok (.aload_n 0, 1) := by decide +kernel
theorem dX5_checksum_177 : decode cX5_checksum 177 = .ok (.getfield 43, 3) := by decide +kernel
theorem dX5_checksum_180 : decode cX5_checksum 180 = .ok (.getfield 199, 3) := by decide +kernel
theorem dX5_checksum_183 : decode cX5_checksum 183 = .ok (.iload_n 3, 1) := by decide +kernel
theorem dX5_checksum_184 : decode cX5_checksum 184 = .ok (.iaload, 1) := by decide +kernel
theorem dX5_checksum_185 : decode cX5_checksum 185 = .ok (.i2l, 1) := by decide +kernel
theorem dX5_checksum_186 : decode cX5_checksum 186 = .ok (.ladd, 1) := by decide +kernel
theorem dX5_checksum_187 : decode cX5_checksum 187 = .ok (.lstore_n 1, 1) := by decide +kernel
theorem dX5_checksum_188 : decode cX5_checksum 188 = .ok (.ldc2_w 228, 3) := by decide +kernel
theorem dX5_checksum_191 : decode cX5_checksum 191 = .ok (.lload_n 1, 1) := by decide +kernel
theorem dX5_checksum_192 : decode cX5_checksum 192 = .ok (.lmul, 1) := by decide +kernel
theorem dX5_checksum_193 : decode cX5_checksum 193 = .ok (.aload_n 0, 1) := by decide +kernel
theorem dX5_checksum_194 : decode cX5_checksum 194 = .ok (.getfield 43, 3) := by decide +kernel
theorem dX5_checksum_197 : decode cX5_checksum 197 = .ok (.getfield 200, 3) := by decide +kernel
theorem dX5_checksum_200 : decode cX5_checksum 200 = .ok (.iload_n 3, 1) := by decide +kernel
theorem dX5_checksum_201 : decode cX5_checksum 201 = .ok (.iaload, 1) := by decide +kernel
theorem dX5_checksum_202 : decode cX5_checksum 202 = .ok (.i2l, 1) := by decide +kernel
theorem dX5_checksum_203 : decode cX5_checksum 203 = .ok (.ladd, 1) := by decide +kernel
theorem dX5_checksum_204 : decode cX5_checksum 204 = .ok (.lstore_n 1, 1) := by decide +kernel
theorem dX5_checksum_205 : decode cX5_checksum 205 = .ok (.iinc 3 1, 3) := by decide +kernel
theorem dX5_checksum_208 : decode cX5_checksum 208 = .ok (.goto (-48), 3) := by decide +kernel
theorem dX5_checksum_211 : decode cX5_checksum 211 = .ok (.lload_n 1, 1) := by decide +kernel
theorem dX5_checksum_212 : decode cX5_checksum 212 = .ok (.lreturn, 1) := by decide +kernel
set_option maxRecDepth 20000 in
theorem ggX5_checksum_X3_degree : GoodIn wsX5_checksum wsX3_degree := goodIn_r _ [21, 22, 23, 24, 25, 26, 27, 28, 29, 78, 79, 80] (by decide +kernel) (by decide +kernel)
set_option maxRecDepth 20000 in
theorem gX5_checksum_X3_degree : GoodIn wsX5_checksum (wsV RX5 87 RX3 yX3_degree wsX3_degree) := goodIn_app (goodIn_of _ (by decide +kernel)) ggX5_checksum_X3_degree
set_option maxRecDepth 20000 in
theorem ggX5_checksum_X1_paint : GoodIn wsX5_checksum wsX1_paint := goodIn_r _ [34, 35, 36, 37, 38, 39, 40, 41, 42, 43, 44, 45, 46, 47, 48, 49, 50, 51, 52, 53, 54, 55, 20, 56, 22, 57, 58, 59, 60, 61, 62, 33, 63, 64, 65, 66, 67, 68, 69, 85, 86, 87, 78, 79, 80, 81, 82, 83, 84] (by decide +kernel) (by decide +kernel)
set_option maxRecDepth 20000 in
theorem gX5_checksum_X1_paint : GoodIn wsX5_checksum (wsV RX5 171 RX1 yX1_paint wsX1_paint) := goodIn_app (goodIn_of _ (by decide +kernel)) ggX5_checksum_X1_paint
theorem mX5_checksum_0 : Cond.constantLong RX5 226 (7) ∈ wsX5_checksum := by decide +kernel
theorem mX5_checksum_1 : Cond.fieldLink RX5 10 "Layerways" "net" "LLayerways$Net;" ∈ wsX5_checksum := by decide +kernel
theorem iX5_checksum_X5 : ∀ w ∈ u_ws RX5 TX5 8, w ∈ wsX5_checksum := by decide +kernel
theorem mX5_checksum_3 : Cond.fieldLink RX5 66 "Layerways$Net" "size" "I" ∈ wsX5_checksum := by decide +kernel
theorem iX5_checksum_X3 : ∀ w ∈ u_ws RX3 TX3 3, w ∈ wsX5_checksum := by decide +kernel
theorem mX5_checksum_5 : Cond.constantLong RX5 228 (31) ∈ wsX5_checksum := by decide +kernel
theorem mX5_checksum_6 : Cond.fieldLink RX5 127 "Layerways$Net" "keys" "[I" ∈ wsX5_checksum := by decide +kernel
theorem mX5_checksum_7 : Cond.fieldLink RX5 19 "Layerways" "fromStart" "LLayerways$Layers;" ∈ wsX5_checksum := by decide +kernel
theorem mX5_checksum_8 : Cond.fieldLink RX5 137 "Layerways$Layers" "lengths" "[I" ∈ wsX5_checksum := by decide +kernel
theorem iX5_checksum_X2 : ∀ w ∈ u_ws RX2 TX2 4, w ∈ wsX5_checksum := by decide +kernel
theorem mX5_checksum_10 : Cond.fieldLink RX5 151 "Layerways$Layers" "counts" "[I" ∈ wsX5_checksum := by decide +kernel
theorem mX5_checksum_11 : Cond.fieldLink RX5 29 "Layerways" "colours" "LLayerways$Colours;" ∈ wsX5_checksum := by decide +kernel
theorem mX5_checksum_12 : Cond.fieldLink RX5 23 "Layerways" "aside" "LLayerways$Layers;" ∈ wsX5_checksum := by decide +kernel
theorem mX5_checksum_13 : Cond.fieldLink RX5 174 "Layerways$Colours" "parts" "I" ∈ wsX5_checksum := by decide +kernel
theorem iX5_checksum_X1 : ∀ w ∈ u_ws RX1 TX1 3, w ∈ wsX5_checksum := by decide +kernel
theorem mX5_checksum_15 : Cond.fieldLink RX5 177 "Layerways$Colours" "two" "Z" ∈ wsX5_checksum := by decide +kernel
theorem mX5_checksum_16 : Cond.fieldLink RX5 43 "Layerways" "change" "LLayerways$Change;" ∈ wsX5_checksum := by decide +kernel
theorem mX5_checksum_17 : Cond.fieldLink RX5 113 "Layerways$Change" "size" "I" ∈ wsX5_checksum := by decide +kernel
theorem iX5_checksum_X0 : ∀ w ∈ u_ws RX0 TX0 4, w ∈ wsX5_checksum := by decide +kernel
theorem mX5_checksum_19 : Cond.fieldLink RX5 199 "Layerways$Change" "keys" "[I" ∈ wsX5_checksum := by decide +kernel
theorem mX5_checksum_20 : Cond.fieldLink RX5 200 "Layerways$Change" "were" "[I" ∈ wsX5_checksum := by decide +kernel
def sX5_checksum_6 (nS : Int32) (nK : (Nat → Int32)) (nN : (Nat → Int32)) (fL : (Nat → Int32)) (fC : (Nat → Int32)) (s3 : Int64 × Int32) : Option ((Int64 × Int32) ⊕ (Int64 × Int32)) := if nS ≤ s3.2 then some (.inl (s3.1, s3.2)) else if zin s3.2 12 then (fX3_degree nN s3.2).bind fun v7 => if zin s3.2 12 then if zin s3.2 12 then some (.inr ((((31 : Int64) * (((31 : Int64) * (((31 : Int64) * (((31 : Int64) * s3.1) + (nK s3.2.toNatClampNeg).toInt64)) + v7.toInt64)) + (fL s3.2.toNatClampNeg).toInt64)) + (fC s3.2.toNatClampNeg).toInt64), (s3.2 + 1))) else none else none else none
def sX5_checksum_160 (xS : Int32) (xK : (Nat → Int32)) (xW : (Nat → Int32)) (s10 : Int64 × Int32) : Option ((Int64 × Int32) ⊕ (Int64 × Int32)) := if xS ≤ s10.2 then some (.inl (s10.1, s10.2)) else if zin s10.2 12 then if zin s10.2 12 then some (.inr ((((31 : Int64) * (((31 : Int64) * s10.1) + (xK s10.2.toNatClampNeg).toInt64)) + (xW s10.2.toNatClampNeg).toInt64), (s10.2 + 1))) else none else none
def fX5_checksum (nS : Int32) (nK : (Nat → Int32)) (nN : (Nat → Int32)) (fL : (Nat → Int32)) (fC : (Nat → Int32)) (wM : Int32) (wL : (Nat → Int32)) (wC : (Nat → Int32)) (wQ : (Nat → Int32)) (cT : (Nat → Int32)) (xS : Int32) (xK : (Nat → Int32)) (xW : (Nat → Int32)) : Option (Int64 × Int32 × (Nat → Int32) × (Nat → Int32) × (Nat → Int32) × Int32 × Int32 × (Nat → Int32)) := (zloop (sX5_checksum_6 nS nK nN fL fC) 32 (7, 0)).bind fun e5 => (fX1_paint cT nS nN wM wL wC wQ).bind fun v8 => ((if v8.2.1 = 0 then some 0 else some 1) : Option Int32).bind fun v9 => (zloop (sX5_checksum_160 xS xK xW) 32 ((((31 : Int64) * (((31 : Int64) * (((31 : Int64) * e5.1) + v8.1.toInt64)) + v9.toInt64)) + xS.toInt64), 0)).bind fun e12 => some (e12.1, v8.2.2.2.1, v8.2.2.2.2.1, v8.2.2.2.2.2.1, v8.2.2.2.2.2.2, v8.1, v8.2.1, v8.2.2.1)
set_option maxRecDepth 100000 in
set_option maxHeartbeats 4000000 in
theorem kX5_checksum (l : Launch) (K : zK) (aH : Nat) (aN : Nat) (aNk : Nat) (aNn : Nat) (aF : Nat) (aFl : Nat) (aFc : Nat) (aFq : Nat) (aA : Nat) (aAl : Nat) (aAc : Nat) (aAq : Nat) (aC : Nat) (aCt : Nat) (aX : Nat) (aXb : Nat) (aXk : Nat) (aXw : Nat) (aO : Nat)  (gB : Int32) (gK : Int32) (nS : Int32) (nK : (Nat → Int32)) (nN : (Nat → Int32)) (fM : Int32) (fL : (Nat → Int32)) (fC : (Nat → Int32)) (fQ : (Nat → Int32)) (wM : Int32) (wL : (Nat → Int32)) (wC : (Nat → Int32)) (wQ : (Nat → Int32)) (cP : Int32) (cW : Int32) (cT : (Nat → Int32)) (xS : Int32) (xB : (Nat → Int32)) (xK : (Nat → Int32)) (xW : (Nat → Int32)) (r : Int64 × Int32 × (Nat → Int32) × (Nat → Int32) × (Nat → Int32) × Int32 × Int32 × (Nat → Int32)) (hres : fX5_checksum nS nK nN fL fC wM wL wC wQ cT xS xK xW = some r) : zM l K yX5_checksum wsX5_checksum ({ frames := 5, cells := 0, slots := 0, locals := 112 }) [.ref aH] [(aH, .inr (5, [.ref aN, .ref aF, .ref aA, .ref aC, .ref aO, .ref aX, .int gB, .int gK])), (aN, .inr (3, [.ref aNk, .ref aNn, .int nS])), (aNk, .inl (K.2 0, 12, .inl nK)), (aNn, .inl (K.2 0, 12, .inl nN)), (aF, .inr (2, [.ref aFl, .ref aFc, .ref aFq, .int fM])), (aFl, .inl (K.2 0, 12, .inl fL)), (aFc, .inl (K.2 0, 12, .inl fC)), (aFq, .inl (K.2 0, 12, .inl fQ)), (aA, .inr (2, [.ref aAl, .ref aAc, .ref aAq, .int wM])), (aAl, .inl (K.2 0, 12, .inl wL)), (aAc, .inl (K.2 0, 12, .inl wC)), (aAq, .inl (K.2 0, 12, .inl wQ)), (aC, .inr (1, [.ref aCt, .int cP, .int cW])), (aCt, .inl (K.2 0, 12, .inl cT)), (aX, .inr (0, [.ref aXb, .ref aXk, .ref aXw, .int xS])), (aXb, .inl (K.2 0, 12, .inl xB)), (aXk, .inl (K.2 0, 12, .inl xK)), (aXw, .inl (K.2 0, 12, .inl xW))] (fun _ : Unit => some (.long r.1)) (fun _ : Unit => [(aH, .inr (5, [.ref aN, .ref aF, .ref aA, .ref aC, .ref aO, .ref aX, .int gB, .int gK])), (aN, .inr (3, [.ref aNk, .ref aNn, .int nS])), (aNk, .inl (K.2 0, 12, .inl nK)), (aNn, .inl (K.2 0, 12, .inl nN)), (aF, .inr (2, [.ref aFl, .ref aFc, .ref aFq, .int fM])), (aFl, .inl (K.2 0, 12, .inl fL)), (aFc, .inl (K.2 0, 12, .inl fC)), (aFq, .inl (K.2 0, 12, .inl fQ)), (aA, .inr (2, [.ref aAl, .ref aAc, .ref aAq, .int r.2.1])), (aAl, .inl (K.2 0, 12, .inl r.2.2.1)), (aAc, .inl (K.2 0, 12, .inl r.2.2.2.1)), (aAq, .inl (K.2 0, 12, .inl r.2.2.2.2.1)), (aC, .inr (1, [.ref aCt, .int r.2.2.2.2.2.1, .int r.2.2.2.2.2.2.1])), (aCt, .inl (K.2 0, 12, .inl r.2.2.2.2.2.2.2)), (aX, .inr (0, [.ref aXb, .ref aXk, .ref aXw, .int xS])), (aXb, .inl (K.2 0, 12, .inl xB)), (aXk, .inl (K.2 0, 12, .inl xK)), (aXw, .inl (K.2 0, 12, .inl xW))]) 0 0 := by
  refine zM.intL (cc := cX5_checksum) (maxL := 4) (ret := (some .long)) rfl (by decide) (Nat.le_of_ble_eq_true rfl) rfl ?_
  intro G hGl hG hN hE
  have hR : ∀ (pc : Nat) (lv : zL), decode cX5_checksum pc = .ok (.lreturn, 1) → zj G pc lv [.long r.1] [(aH, .inr (5, [.ref aN, .ref aF, .ref aA, .ref aC, .ref aO, .ref aX, .int gB, .int gK])), (aN, .inr (3, [.ref aNk, .ref aNn, .int nS])), (aNk, .inl (K.2 0, 12, .inl nK)), (aNn, .inl (K.2 0, 12, .inl nN)), (aF, .inr (2, [.ref aFl, .ref aFc, .ref aFq, .int fM])), (aFl, .inl (K.2 0, 12, .inl fL)), (aFc, .inl (K.2 0, 12, .inl fC)), (aFq, .inl (K.2 0, 12, .inl fQ)), (aA, .inr (2, [.ref aAl, .ref aAc, .ref aAq, .int r.2.1])), (aAl, .inl (K.2 0, 12, .inl r.2.2.1)), (aAc, .inl (K.2 0, 12, .inl r.2.2.2.1)), (aAq, .inl (K.2 0, 12, .inl r.2.2.2.2.1)), (aC, .inr (1, [.ref aCt, .int r.2.2.2.2.2.1, .int r.2.2.2.2.2.2.1])), (aCt, .inl (K.2 0, 12, .inl r.2.2.2.2.2.2.2)), (aX, .inr (0, [.ref aXb, .ref aXk, .ref aXw, .int xS])), (aXb, .inl (K.2 0, 12, .inl xB)), (aXk, .inl (K.2 0, 12, .inl xK)), (aXw, .inl (K.2 0, 12, .inl xW))] 0 0 := fun pc lv d => hE () _ rfl pc lv d
  clear hE
  unfold fX5_checksum at hres
  show zj G 0 [(0, .ref aH)] [] [(aH, .inr (5, [.ref aN, .ref aF, .ref aA, .ref aC, .ref aO, .ref aX, .int gB, .int gK])), (aN, .inr (3, [.ref aNk, .ref aNn, .int nS])), (aNk, .inl (K.2 0, 12, .inl nK)), (aNn, .inl (K.2 0, 12, .inl nN)), (aF, .inr (2, [.ref aFl, .ref aFc, .ref aFq, .int fM])), (aFl, .inl (K.2 0, 12, .inl fL)), (aFc, .inl (K.2 0, 12, .inl fC)), (aFq, .inl (K.2 0, 12, .inl fQ)), (aA, .inr (2, [.ref aAl, .ref aAc, .ref aAq, .int wM])), (aAl, .inl (K.2 0, 12, .inl wL)), (aAc, .inl (K.2 0, 12, .inl wC)), (aAq, .inl (K.2 0, 12, .inl wQ)), (aC, .inr (1, [.ref aCt, .int cP, .int cW])), (aCt, .inl (K.2 0, 12, .inl cT)), (aX, .inr (0, [.ref aXb, .ref aXk, .ref aXw, .int xS])), (aXb, .inl (K.2 0, 12, .inl xB)), (aXk, .inl (K.2 0, 12, .inl xK)), (aXw, .inl (K.2 0, 12, .inl xW))] 0 0
  refine z_ldc2 hG dX5_checksum_0 mX5_checksum_0 ?_
  refine z_lstore_n (lv' := [(1, .long 7), (0, .ref aH)]) hG dX5_checksum_3 (by decide) rfl ?_
  refine z_iconst 0 hG dX5_checksum_4 (by decide) ?_
  refine z_istore_n (lv' := [(3, .int 0), (1, .long 7), (0, .ref aH)]) hG dX5_checksum_5 (by decide) rfl ?_
  obtain ⟨e5, hx, hres⟩ := z_bind hres
  refine z_lv [2, 1, 0] (lv' := [(0, .ref aH), (1, .long 7), (3, .int 0)]) rfl ?_
  refine z_loop hx (fun s3 : Int64 × Int32 => [(0, .ref aH), (1, .long s3.1), (3, .int s3.2)]) (fun s3 : Int64 × Int32 => [(aH, .inr (5, [.ref aN, .ref aF, .ref aA, .ref aC, .ref aO, .ref aX, .int gB, .int gK])), (aN, .inr (3, [.ref aNk, .ref aNn, .int nS])), (aNk, .inl (K.2 0, 12, .inl nK)), (aNn, .inl (K.2 0, 12, .inl nN)), (aF, .inr (2, [.ref aFl, .ref aFc, .ref aFq, .int fM])), (aFl, .inl (K.2 0, 12, .inl fL)), (aFc, .inl (K.2 0, 12, .inl fC)), (aFq, .inl (K.2 0, 12, .inl fQ)), (aA, .inr (2, [.ref aAl, .ref aAc, .ref aAq, .int wM])), (aAl, .inl (K.2 0, 12, .inl wL)), (aAc, .inl (K.2 0, 12, .inl wC)), (aAq, .inl (K.2 0, 12, .inl wQ)), (aC, .inr (1, [.ref aCt, .int cP, .int cW])), (aCt, .inl (K.2 0, 12, .inl cT)), (aX, .inr (0, [.ref aXb, .ref aXk, .ref aXw, .int xS])), (aXb, .inl (K.2 0, 12, .inl xB)), (aXk, .inl (K.2 0, 12, .inl xK)), (aXw, .inl (K.2 0, 12, .inl xW))]) (fun e5 : Int64 × Int32 => zj G 90 [(0, .ref aH), (1, .long e5.1), (3, .int e5.2)] [] [(aH, .inr (5, [.ref aN, .ref aF, .ref aA, .ref aC, .ref aO, .ref aX, .int gB, .int gK])), (aN, .inr (3, [.ref aNk, .ref aNn, .int nS])), (aNk, .inl (K.2 0, 12, .inl nK)), (aNn, .inl (K.2 0, 12, .inl nN)), (aF, .inr (2, [.ref aFl, .ref aFc, .ref aFq, .int fM])), (aFl, .inl (K.2 0, 12, .inl fL)), (aFc, .inl (K.2 0, 12, .inl fC)), (aFq, .inl (K.2 0, 12, .inl fQ)), (aA, .inr (2, [.ref aAl, .ref aAc, .ref aAq, .int wM])), (aAl, .inl (K.2 0, 12, .inl wL)), (aAc, .inl (K.2 0, 12, .inl wC)), (aAq, .inl (K.2 0, 12, .inl wQ)), (aC, .inr (1, [.ref aCt, .int cP, .int cW])), (aCt, .inl (K.2 0, 12, .inl cT)), (aX, .inr (0, [.ref aXb, .ref aXk, .ref aXw, .int xS])), (aXb, .inl (K.2 0, 12, .inl xB)), (aXk, .inl (K.2 0, 12, .inl xK)), (aXw, .inl (K.2 0, 12, .inl xW))] 0 0) ?_ ?_
  · refine z_aload_n hG dX5_checksum_90 0 rfl ?_
    refine z_get (ci := 5) (C := RX5) (T := TX5) (N := 8) hG dX5_checksum_91 iX5_checksum_X5 3 (by decide) mX5_checksum_11 rfl rfl 0 rfl rfl ?_
    refine z_aload_n hG dX5_checksum_94 0 rfl ?_
    refine z_get (ci := 5) (C := RX5) (T := TX5) (N := 8) hG dX5_checksum_95 iX5_checksum_X5 0 (by decide) mX5_checksum_1 rfl rfl 0 rfl rfl ?_
    refine z_aload_n hG dX5_checksum_98 0 rfl ?_
    refine z_get (ci := 5) (C := RX5) (T := TX5) (N := 8) hG dX5_checksum_99 iX5_checksum_X5 2 (by decide) mX5_checksum_12 rfl rfl 0 rfl rfl ?_
    obtain ⟨v8, hv, hres⟩ := z_bind hres
    refine z_callV (As := [.ref aN, .ref aA]) (rest := []) (wr := [(aH, .inr (5, [.ref aN, .ref aF, .ref aA, .ref aC, .ref aO, .ref aX, .int gB, .int gK])), (aF, .inr (2, [.ref aFl, .ref aFc, .ref aFq, .int fM])), (aFl, .inl (K.2 0, 12, .inl fL)), (aFc, .inl (K.2 0, 12, .inl fC)), (aFq, .inl (K.2 0, 12, .inl fQ)), (aX, .inr (0, [.ref aXb, .ref aXk, .ref aXw, .int xS])), (aXb, .inl (K.2 0, 12, .inl xB)), (aXk, .inl (K.2 0, 12, .inl xK)), (aXw, .inl (K.2 0, 12, .inl xW))]) (ws' := (fun _ : Unit => [(aH, .inr (5, [.ref aN, .ref aF, .ref aA, .ref aC, .ref aO, .ref aX, .int gB, .int gK])), (aN, .inr (3, [.ref aNk, .ref aNn, .int nS])), (aNk, .inl (K.2 0, 12, .inl nK)), (aNn, .inl (K.2 0, 12, .inl nN)), (aF, .inr (2, [.ref aFl, .ref aFc, .ref aFq, .int fM])), (aFl, .inl (K.2 0, 12, .inl fL)), (aFc, .inl (K.2 0, 12, .inl fC)), (aFq, .inl (K.2 0, 12, .inl fQ)), (aA, .inr (2, [.ref aAl, .ref aAc, .ref aAq, .int v8.2.2.2.1])), (aAl, .inl (K.2 0, 12, .inl v8.2.2.2.2.1)), (aAc, .inl (K.2 0, 12, .inl v8.2.2.2.2.2.1)), (aAq, .inl (K.2 0, 12, .inl v8.2.2.2.2.2.2)), (aC, .inr (1, [.ref aCt, .int v8.1, .int v8.2.1])), (aCt, .inl (K.2 0, 12, .inl v8.2.2.1)), (aX, .inr (0, [.ref aXb, .ref aXk, .ref aXw, .int xS])), (aXb, .inl (K.2 0, 12, .inl xB)), (aXk, .inl (K.2 0, 12, .inl xK)), (aXw, .inl (K.2 0, 12, .inl xW))])) (stk := (fun _ : Unit => [])) (kc' := 0) (ks' := 0) (n := 2) (C := RX1) (ci := 1) hG dX5_checksum_102 (kX1_paint _ K aC aCt aN aNk aNn aA aAl aAc aAq cP cW cT nS nK nN wM wL wC wQ v8 hv) gX5_checksum_X1_paint rfl rfl rfl ⟨rfl, by decide, by decide, rfl⟩ ⟨by decide, by decide⟩ (Nat.le_of_ble_eq_true rfl) ⟨(Nat.le_of_ble_eq_true rfl), (Nat.le_of_ble_eq_true rfl)⟩ [12, 13, 1, 2, 3, 8, 9, 10, 11] [0, 4, 5, 6, 7, 14, 15, 16, 17] [0, 11, 12, 13, 1, 2, 3, 4, 14, 15, 16, 17, 9, 10, 5, 6, 7, 8] rfl rfl rfl rfl (by decide) rfl (fun _ => rfl) (fun _ => rfl) rfl rfl rfl 0 rfl rfl rfl rfl (fun _ => ?_)
    refine z_ldc2 hG dX5_checksum_105 mX5_checksum_5 ?_
    refine z_lload_n hG dX5_checksum_108 1 rfl ?_
    refine z_lmul hG dX5_checksum_109 ?_
    refine z_aload_n hG dX5_checksum_110 0 rfl ?_
    refine z_get (ci := 5) (C := RX5) (T := TX5) (N := 8) hG dX5_checksum_111 iX5_checksum_X5 3 (by decide) mX5_checksum_11 rfl rfl 0 rfl rfl ?_
    refine z_get (ci := 1) (C := RX1) (T := TX1) (N := 3) hG dX5_checksum_114 iX5_checksum_X1 1 (by decide) mX5_checksum_13 rfl rfl 12 rfl rfl ?_
    refine z_i2l hG dX5_checksum_117 ?_
    refine z_ladd hG dX5_checksum_118 ?_
    refine z_lstore_n (lv' := [(1, .long (((31 : Int64) * e5.1) + v8.1.toInt64)), (0, .ref aH), (3, .int e5.2)]) hG dX5_checksum_119 (by decide) rfl ?_
    refine z_ldc2 hG dX5_checksum_120 mX5_checksum_5 ?_
    refine z_lload_n hG dX5_checksum_123 0 rfl ?_
    refine z_lmul hG dX5_checksum_124 ?_
    refine z_aload_n hG dX5_checksum_125 1 rfl ?_
    refine z_get (ci := 5) (C := RX5) (T := TX5) (N := 8) hG dX5_checksum_126 iX5_checksum_X5 3 (by decide) mX5_checksum_11 rfl rfl 0 rfl rfl ?_
    refine z_get (ci := 1) (C := RX1) (T := TX1) (N := 3) hG dX5_checksum_129 iX5_checksum_X1 2 (by decide) mX5_checksum_15 rfl rfl 12 rfl rfl ?_
    obtain ⟨v9, hv, hres⟩ := z_bind hres
    have J : zj G 140 [(1, .long (((31 : Int64) * e5.1) + v8.1.toInt64)), (0, .ref aH), (3, .int e5.2)] [.int v9, .long ((31 : Int64) * (((31 : Int64) * e5.1) + v8.1.toInt64))] [(aH, .inr (5, [.ref aN, .ref aF, .ref aA, .ref aC, .ref aO, .ref aX, .int gB, .int gK])), (aN, .inr (3, [.ref aNk, .ref aNn, .int nS])), (aNk, .inl (K.2 0, 12, .inl nK)), (aNn, .inl (K.2 0, 12, .inl nN)), (aF, .inr (2, [.ref aFl, .ref aFc, .ref aFq, .int fM])), (aFl, .inl (K.2 0, 12, .inl fL)), (aFc, .inl (K.2 0, 12, .inl fC)), (aFq, .inl (K.2 0, 12, .inl fQ)), (aA, .inr (2, [.ref aAl, .ref aAc, .ref aAq, .int v8.2.2.2.1])), (aAl, .inl (K.2 0, 12, .inl v8.2.2.2.2.1)), (aAc, .inl (K.2 0, 12, .inl v8.2.2.2.2.2.1)), (aAq, .inl (K.2 0, 12, .inl v8.2.2.2.2.2.2)), (aC, .inr (1, [.ref aCt, .int v8.1, .int v8.2.1])), (aCt, .inl (K.2 0, 12, .inl v8.2.2.1)), (aX, .inr (0, [.ref aXb, .ref aXk, .ref aXw, .int xS])), (aXb, .inl (K.2 0, 12, .inl xB)), (aXk, .inl (K.2 0, 12, .inl xK)), (aXw, .inl (K.2 0, 12, .inl xW))] 0 0 := by
      refine z_i2l hG dX5_checksum_140 ?_
      refine z_ladd hG dX5_checksum_141 ?_
      refine z_lstore_n (lv' := [(1, .long (((31 : Int64) * (((31 : Int64) * e5.1) + v8.1.toInt64)) + v9.toInt64)), (0, .ref aH), (3, .int e5.2)]) hG dX5_checksum_142 (by decide) rfl ?_
      refine z_ldc2 hG dX5_checksum_143 mX5_checksum_5 ?_
      refine z_lload_n hG dX5_checksum_146 0 rfl ?_
      refine z_lmul hG dX5_checksum_147 ?_
      refine z_aload_n hG dX5_checksum_148 1 rfl ?_
      refine z_get (ci := 5) (C := RX5) (T := TX5) (N := 8) hG dX5_checksum_149 iX5_checksum_X5 5 (by decide) mX5_checksum_16 rfl rfl 0 rfl rfl ?_
      refine z_get (ci := 0) (C := RX0) (T := TX0) (N := 4) hG dX5_checksum_152 iX5_checksum_X0 3 (by decide) mX5_checksum_17 rfl rfl 14 rfl rfl ?_
      refine z_i2l hG dX5_checksum_155 ?_
      refine z_ladd hG dX5_checksum_156 ?_
      refine z_lstore_n (lv' := [(1, .long (((31 : Int64) * (((31 : Int64) * (((31 : Int64) * e5.1) + v8.1.toInt64)) + v9.toInt64)) + xS.toInt64)), (0, .ref aH), (3, .int e5.2)]) hG dX5_checksum_157 (by decide) rfl ?_
      refine z_iconst 0 hG dX5_checksum_158 (by decide) ?_
      refine z_istore_n (lv' := [(3, .int 0), (1, .long (((31 : Int64) * (((31 : Int64) * (((31 : Int64) * e5.1) + v8.1.toInt64)) + v9.toInt64)) + xS.toInt64)), (0, .ref aH)]) hG dX5_checksum_159 (by decide) rfl ?_
      obtain ⟨e12, hx, hres⟩ := z_bind hres
      refine z_lv [2, 1, 0] (lv' := [(0, .ref aH), (1, .long (((31 : Int64) * (((31 : Int64) * (((31 : Int64) * e5.1) + v8.1.toInt64)) + v9.toInt64)) + xS.toInt64)), (3, .int 0)]) rfl ?_
      refine z_loop hx (fun s10 : Int64 × Int32 => [(0, .ref aH), (1, .long s10.1), (3, .int s10.2)]) (fun s10 : Int64 × Int32 => [(aH, .inr (5, [.ref aN, .ref aF, .ref aA, .ref aC, .ref aO, .ref aX, .int gB, .int gK])), (aN, .inr (3, [.ref aNk, .ref aNn, .int nS])), (aNk, .inl (K.2 0, 12, .inl nK)), (aNn, .inl (K.2 0, 12, .inl nN)), (aF, .inr (2, [.ref aFl, .ref aFc, .ref aFq, .int fM])), (aFl, .inl (K.2 0, 12, .inl fL)), (aFc, .inl (K.2 0, 12, .inl fC)), (aFq, .inl (K.2 0, 12, .inl fQ)), (aA, .inr (2, [.ref aAl, .ref aAc, .ref aAq, .int v8.2.2.2.1])), (aAl, .inl (K.2 0, 12, .inl v8.2.2.2.2.1)), (aAc, .inl (K.2 0, 12, .inl v8.2.2.2.2.2.1)), (aAq, .inl (K.2 0, 12, .inl v8.2.2.2.2.2.2)), (aC, .inr (1, [.ref aCt, .int v8.1, .int v8.2.1])), (aCt, .inl (K.2 0, 12, .inl v8.2.2.1)), (aX, .inr (0, [.ref aXb, .ref aXk, .ref aXw, .int xS])), (aXb, .inl (K.2 0, 12, .inl xB)), (aXk, .inl (K.2 0, 12, .inl xK)), (aXw, .inl (K.2 0, 12, .inl xW))]) (fun e12 : Int64 × Int32 => zj G 211 [(0, .ref aH), (1, .long e12.1), (3, .int e12.2)] [] [(aH, .inr (5, [.ref aN, .ref aF, .ref aA, .ref aC, .ref aO, .ref aX, .int gB, .int gK])), (aN, .inr (3, [.ref aNk, .ref aNn, .int nS])), (aNk, .inl (K.2 0, 12, .inl nK)), (aNn, .inl (K.2 0, 12, .inl nN)), (aF, .inr (2, [.ref aFl, .ref aFc, .ref aFq, .int fM])), (aFl, .inl (K.2 0, 12, .inl fL)), (aFc, .inl (K.2 0, 12, .inl fC)), (aFq, .inl (K.2 0, 12, .inl fQ)), (aA, .inr (2, [.ref aAl, .ref aAc, .ref aAq, .int v8.2.2.2.1])), (aAl, .inl (K.2 0, 12, .inl v8.2.2.2.2.1)), (aAc, .inl (K.2 0, 12, .inl v8.2.2.2.2.2.1)), (aAq, .inl (K.2 0, 12, .inl v8.2.2.2.2.2.2)), (aC, .inr (1, [.ref aCt, .int v8.1, .int v8.2.1])), (aCt, .inl (K.2 0, 12, .inl v8.2.2.1)), (aX, .inr (0, [.ref aXb, .ref aXk, .ref aXw, .int xS])), (aXb, .inl (K.2 0, 12, .inl xB)), (aXk, .inl (K.2 0, 12, .inl xK)), (aXw, .inl (K.2 0, 12, .inl xW))] 0 0) ?_ ?_
      · refine z_lload_n hG dX5_checksum_211 1 rfl ?_
        obtain rfl := Option.some.inj hres
        exact (hR _ _ dX5_checksum_212)
      · intro s10 w11 hres hX hB
        unfold sX5_checksum_160 at hres
        replace hB : ∀ (z0 : Int64) (z1 : Int32), w11 = .inr (z0, z1) → zj G 160 [(0, .ref aH), (1, .long z0), (3, .int z1)] [] [(aH, .inr (5, [.ref aN, .ref aF, .ref aA, .ref aC, .ref aO, .ref aX, .int gB, .int gK])), (aN, .inr (3, [.ref aNk, .ref aNn, .int nS])), (aNk, .inl (K.2 0, 12, .inl nK)), (aNn, .inl (K.2 0, 12, .inl nN)), (aF, .inr (2, [.ref aFl, .ref aFc, .ref aFq, .int fM])), (aFl, .inl (K.2 0, 12, .inl fL)), (aFc, .inl (K.2 0, 12, .inl fC)), (aFq, .inl (K.2 0, 12, .inl fQ)), (aA, .inr (2, [.ref aAl, .ref aAc, .ref aAq, .int v8.2.2.2.1])), (aAl, .inl (K.2 0, 12, .inl v8.2.2.2.2.1)), (aAc, .inl (K.2 0, 12, .inl v8.2.2.2.2.2.1)), (aAq, .inl (K.2 0, 12, .inl v8.2.2.2.2.2.2)), (aC, .inr (1, [.ref aCt, .int v8.1, .int v8.2.1])), (aCt, .inl (K.2 0, 12, .inl v8.2.2.1)), (aX, .inr (0, [.ref aXb, .ref aXk, .ref aXw, .int xS])), (aXb, .inl (K.2 0, 12, .inl xB)), (aXk, .inl (K.2 0, 12, .inl xK)), (aXw, .inl (K.2 0, 12, .inl xW))] 0 0 := fun z0 z1 h => hB (z0, z1) h
        replace hX : ∀ (z0 : Int64) (z1 : Int32), w11 = .inl (z0, z1) → zj G 211 [(0, .ref aH), (1, .long z0), (3, .int z1)] [] [(aH, .inr (5, [.ref aN, .ref aF, .ref aA, .ref aC, .ref aO, .ref aX, .int gB, .int gK])), (aN, .inr (3, [.ref aNk, .ref aNn, .int nS])), (aNk, .inl (K.2 0, 12, .inl nK)), (aNn, .inl (K.2 0, 12, .inl nN)), (aF, .inr (2, [.ref aFl, .ref aFc, .ref aFq, .int fM])), (aFl, .inl (K.2 0, 12, .inl fL)), (aFc, .inl (K.2 0, 12, .inl fC)), (aFq, .inl (K.2 0, 12, .inl fQ)), (aA, .inr (2, [.ref aAl, .ref aAc, .ref aAq, .int v8.2.2.2.1])), (aAl, .inl (K.2 0, 12, .inl v8.2.2.2.2.1)), (aAc, .inl (K.2 0, 12, .inl v8.2.2.2.2.2.1)), (aAq, .inl (K.2 0, 12, .inl v8.2.2.2.2.2.2)), (aC, .inr (1, [.ref aCt, .int v8.1, .int v8.2.1])), (aCt, .inl (K.2 0, 12, .inl v8.2.2.1)), (aX, .inr (0, [.ref aXb, .ref aXk, .ref aXw, .int xS])), (aXb, .inl (K.2 0, 12, .inl xB)), (aXk, .inl (K.2 0, 12, .inl xK)), (aXw, .inl (K.2 0, 12, .inl xW))] 0 0 := fun z0 z1 h => hX (z0, z1) h
        refine z_iload_n hG dX5_checksum_160 2 rfl ?_
        refine z_aload_n hG dX5_checksum_161 0 rfl ?_
        refine z_get (ci := 5) (C := RX5) (T := TX5) (N := 8) hG dX5_checksum_162 iX5_checksum_X5 5 (by decide) mX5_checksum_16 rfl rfl 0 rfl rfl ?_
        refine z_get (ci := 0) (C := RX0) (T := TX0) (N := 4) hG dX5_checksum_165 iX5_checksum_X0 3 (by decide) mX5_checksum_17 rfl rfl 14 rfl rfl ?_
        refine z_icmp_ge 211 hG dX5_checksum_168 (by decide) (fun c => ?_) (fun c => ?_)
        · replace hres := z_ifp c hres
          exact (hX s10.1 s10.2 (Option.some.inj hres).symm)
        · replace hres := z_ifn c hres
          refine z_ldc2 hG dX5_checksum_171 mX5_checksum_5 ?_
          refine z_lload_n hG dX5_checksum_174 1 rfl ?_
          refine z_lmul hG dX5_checksum_175 ?_
          refine z_aload_n hG dX5_checksum_176 0 rfl ?_
          refine z_get (ci := 5) (C := RX5) (T := TX5) (N := 8) hG dX5_checksum_177 iX5_checksum_X5 5 (by decide) mX5_checksum_16 rfl rfl 0 rfl rfl ?_
          refine z_get (ci := 0) (C := RX0) (T := TX0) (N := 4) hG dX5_checksum_180 iX5_checksum_X0 1 (by decide) mX5_checksum_19 rfl rfl 14 rfl rfl ?_
          refine z_iload_n hG dX5_checksum_183 2 rfl ?_
          obtain ⟨hg, hres⟩ := z_guard hres
          refine z_iald hG dX5_checksum_184 16 rfl hg ?_
          refine z_i2l hG dX5_checksum_185 ?_
          refine z_ladd hG dX5_checksum_186 ?_
          refine z_lstore_n (lv' := [(1, .long (((31 : Int64) * s10.1) + (xK s10.2.toNatClampNeg).toInt64)), (0, .ref aH), (3, .int s10.2)]) hG dX5_checksum_187 (by decide) rfl ?_
          refine z_ldc2 hG dX5_checksum_188 mX5_checksum_5 ?_
          refine z_lload_n hG dX5_checksum_191 0 rfl ?_
          refine z_lmul hG dX5_checksum_192 ?_
          refine z_aload_n hG dX5_checksum_193 1 rfl ?_
          refine z_get (ci := 5) (C := RX5) (T := TX5) (N := 8) hG dX5_checksum_194 iX5_checksum_X5 5 (by decide) mX5_checksum_16 rfl rfl 0 rfl rfl ?_
          refine z_get (ci := 0) (C := RX0) (T := TX0) (N := 4) hG dX5_checksum_197 iX5_checksum_X0 2 (by decide) mX5_checksum_20 rfl rfl 14 rfl rfl ?_
          refine z_iload_n hG dX5_checksum_200 2 rfl ?_
          obtain ⟨hg, hres⟩ := z_guard hres
          refine z_iald hG dX5_checksum_201 17 rfl hg ?_
          refine z_i2l hG dX5_checksum_202 ?_
          refine z_ladd hG dX5_checksum_203 ?_
          refine z_lstore_n (lv' := [(1, .long (((31 : Int64) * (((31 : Int64) * s10.1) + (xK s10.2.toNatClampNeg).toInt64)) + (xW s10.2.toNatClampNeg).toInt64)), (0, .ref aH), (3, .int s10.2)]) hG dX5_checksum_204 (by decide) rfl ?_
          refine z_iinc (s10.2 + 1) (lv' := [(3, .int (s10.2 + 1)), (1, .long (((31 : Int64) * (((31 : Int64) * s10.1) + (xK s10.2.toNatClampNeg).toInt64)) + (xW s10.2.toNatClampNeg).toInt64)), (0, .ref aH)]) hG dX5_checksum_205 2 rfl rfl (by decide) rfl ?_
          refine z_goto 160 hG dX5_checksum_208 (by decide) ?_
          exact (z_lv [2, 1, 0] rfl (hB (((31 : Int64) * (((31 : Int64) * s10.1) + (xK s10.2.toNatClampNeg).toInt64)) + (xW s10.2.toNatClampNeg).toInt64) (s10.2 + 1) (Option.some.inj hres).symm))
    replace hres := hv
    clear hv
    refine z_if_eq 139 hG dX5_checksum_132 (by decide) (fun c => ?_) (fun c => ?_)
    · replace hres := z_ifp c hres
      refine z_iconst 0 hG dX5_checksum_139 (by decide) ?_
      obtain rfl := Option.some.inj hres
      exact J
    · replace hres := z_ifn c hres
      refine z_iconst 1 hG dX5_checksum_135 (by decide) ?_
      refine z_goto 140 hG dX5_checksum_136 (by decide) ?_
      obtain rfl := Option.some.inj hres
      exact J
  · intro s3 w4 hres hX hB
    unfold sX5_checksum_6 at hres
    replace hB : ∀ (z0 : Int64) (z1 : Int32), w4 = .inr (z0, z1) → zj G 6 [(0, .ref aH), (1, .long z0), (3, .int z1)] [] [(aH, .inr (5, [.ref aN, .ref aF, .ref aA, .ref aC, .ref aO, .ref aX, .int gB, .int gK])), (aN, .inr (3, [.ref aNk, .ref aNn, .int nS])), (aNk, .inl (K.2 0, 12, .inl nK)), (aNn, .inl (K.2 0, 12, .inl nN)), (aF, .inr (2, [.ref aFl, .ref aFc, .ref aFq, .int fM])), (aFl, .inl (K.2 0, 12, .inl fL)), (aFc, .inl (K.2 0, 12, .inl fC)), (aFq, .inl (K.2 0, 12, .inl fQ)), (aA, .inr (2, [.ref aAl, .ref aAc, .ref aAq, .int wM])), (aAl, .inl (K.2 0, 12, .inl wL)), (aAc, .inl (K.2 0, 12, .inl wC)), (aAq, .inl (K.2 0, 12, .inl wQ)), (aC, .inr (1, [.ref aCt, .int cP, .int cW])), (aCt, .inl (K.2 0, 12, .inl cT)), (aX, .inr (0, [.ref aXb, .ref aXk, .ref aXw, .int xS])), (aXb, .inl (K.2 0, 12, .inl xB)), (aXk, .inl (K.2 0, 12, .inl xK)), (aXw, .inl (K.2 0, 12, .inl xW))] 0 0 := fun z0 z1 h => hB (z0, z1) h
    replace hX : ∀ (z0 : Int64) (z1 : Int32), w4 = .inl (z0, z1) → zj G 90 [(0, .ref aH), (1, .long z0), (3, .int z1)] [] [(aH, .inr (5, [.ref aN, .ref aF, .ref aA, .ref aC, .ref aO, .ref aX, .int gB, .int gK])), (aN, .inr (3, [.ref aNk, .ref aNn, .int nS])), (aNk, .inl (K.2 0, 12, .inl nK)), (aNn, .inl (K.2 0, 12, .inl nN)), (aF, .inr (2, [.ref aFl, .ref aFc, .ref aFq, .int fM])), (aFl, .inl (K.2 0, 12, .inl fL)), (aFc, .inl (K.2 0, 12, .inl fC)), (aFq, .inl (K.2 0, 12, .inl fQ)), (aA, .inr (2, [.ref aAl, .ref aAc, .ref aAq, .int wM])), (aAl, .inl (K.2 0, 12, .inl wL)), (aAc, .inl (K.2 0, 12, .inl wC)), (aAq, .inl (K.2 0, 12, .inl wQ)), (aC, .inr (1, [.ref aCt, .int cP, .int cW])), (aCt, .inl (K.2 0, 12, .inl cT)), (aX, .inr (0, [.ref aXb, .ref aXk, .ref aXw, .int xS])), (aXb, .inl (K.2 0, 12, .inl xB)), (aXk, .inl (K.2 0, 12, .inl xK)), (aXw, .inl (K.2 0, 12, .inl xW))] 0 0 := fun z0 z1 h => hX (z0, z1) h
    refine z_iload_n hG dX5_checksum_6 2 rfl ?_
    refine z_aload_n hG dX5_checksum_7 0 rfl ?_
    refine z_get (ci := 5) (C := RX5) (T := TX5) (N := 8) hG dX5_checksum_8 iX5_checksum_X5 0 (by decide) mX5_checksum_1 rfl rfl 0 rfl rfl ?_
    refine z_get (ci := 3) (C := RX3) (T := TX3) (N := 3) hG dX5_checksum_11 iX5_checksum_X3 2 (by decide) mX5_checksum_3 rfl rfl 1 rfl rfl ?_
    refine z_icmp_ge 90 hG dX5_checksum_14 (by decide) (fun c => ?_) (fun c => ?_)
    · replace hres := z_ifp c hres
      exact (hX s3.1 s3.2 (Option.some.inj hres).symm)
    · replace hres := z_ifn c hres
      refine z_ldc2 hG dX5_checksum_17 mX5_checksum_5 ?_
      refine z_lload_n hG dX5_checksum_20 1 rfl ?_
      refine z_lmul hG dX5_checksum_21 ?_
      refine z_aload_n hG dX5_checksum_22 0 rfl ?_
      refine z_get (ci := 5) (C := RX5) (T := TX5) (N := 8) hG dX5_checksum_23 iX5_checksum_X5 0 (by decide) mX5_checksum_1 rfl rfl 0 rfl rfl ?_
      refine z_get (ci := 3) (C := RX3) (T := TX3) (N := 3) hG dX5_checksum_26 iX5_checksum_X3 0 (by decide) mX5_checksum_6 rfl rfl 1 rfl rfl ?_
      refine z_iload_n hG dX5_checksum_29 2 rfl ?_
      obtain ⟨hg, hres⟩ := z_guard hres
      refine z_iald hG dX5_checksum_30 2 rfl hg ?_
      refine z_i2l hG dX5_checksum_31 ?_
      refine z_ladd hG dX5_checksum_32 ?_
      refine z_lstore_n (lv' := [(1, .long (((31 : Int64) * s3.1) + (nK s3.2.toNatClampNeg).toInt64)), (0, .ref aH), (3, .int s3.2)]) hG dX5_checksum_33 (by decide) rfl ?_
      refine z_ldc2 hG dX5_checksum_34 mX5_checksum_5 ?_
      refine z_lload_n hG dX5_checksum_37 0 rfl ?_
      refine z_lmul hG dX5_checksum_38 ?_
      refine z_aload_n hG dX5_checksum_39 1 rfl ?_
      refine z_get (ci := 5) (C := RX5) (T := TX5) (N := 8) hG dX5_checksum_40 iX5_checksum_X5 0 (by decide) mX5_checksum_1 rfl rfl 0 rfl rfl ?_
      refine z_iload_n hG dX5_checksum_43 2 rfl ?_
      obtain ⟨v7, hv, hres⟩ := z_bind hres
      refine z_callV (As := [.int s3.2]) (rest := [.long ((31 : Int64) * (((31 : Int64) * s3.1) + (nK s3.2.toNatClampNeg).toInt64))]) (wr := [(aH, .inr (5, [.ref aN, .ref aF, .ref aA, .ref aC, .ref aO, .ref aX, .int gB, .int gK])), (aF, .inr (2, [.ref aFl, .ref aFc, .ref aFq, .int fM])), (aFl, .inl (K.2 0, 12, .inl fL)), (aFc, .inl (K.2 0, 12, .inl fC)), (aFq, .inl (K.2 0, 12, .inl fQ)), (aA, .inr (2, [.ref aAl, .ref aAc, .ref aAq, .int wM])), (aAl, .inl (K.2 0, 12, .inl wL)), (aAc, .inl (K.2 0, 12, .inl wC)), (aAq, .inl (K.2 0, 12, .inl wQ)), (aC, .inr (1, [.ref aCt, .int cP, .int cW])), (aCt, .inl (K.2 0, 12, .inl cT)), (aX, .inr (0, [.ref aXb, .ref aXk, .ref aXw, .int xS])), (aXb, .inl (K.2 0, 12, .inl xB)), (aXk, .inl (K.2 0, 12, .inl xK)), (aXw, .inl (K.2 0, 12, .inl xW))]) (ws' := (fun _ : Unit => [(aH, .inr (5, [.ref aN, .ref aF, .ref aA, .ref aC, .ref aO, .ref aX, .int gB, .int gK])), (aN, .inr (3, [.ref aNk, .ref aNn, .int nS])), (aNk, .inl (K.2 0, 12, .inl nK)), (aNn, .inl (K.2 0, 12, .inl nN)), (aF, .inr (2, [.ref aFl, .ref aFc, .ref aFq, .int fM])), (aFl, .inl (K.2 0, 12, .inl fL)), (aFc, .inl (K.2 0, 12, .inl fC)), (aFq, .inl (K.2 0, 12, .inl fQ)), (aA, .inr (2, [.ref aAl, .ref aAc, .ref aAq, .int wM])), (aAl, .inl (K.2 0, 12, .inl wL)), (aAc, .inl (K.2 0, 12, .inl wC)), (aAq, .inl (K.2 0, 12, .inl wQ)), (aC, .inr (1, [.ref aCt, .int cP, .int cW])), (aCt, .inl (K.2 0, 12, .inl cT)), (aX, .inr (0, [.ref aXb, .ref aXk, .ref aXw, .int xS])), (aXb, .inl (K.2 0, 12, .inl xB)), (aXk, .inl (K.2 0, 12, .inl xK)), (aXw, .inl (K.2 0, 12, .inl xW))])) (stk := (fun _ : Unit => [.int v7, .long ((31 : Int64) * (((31 : Int64) * s3.1) + (nK s3.2.toNatClampNeg).toInt64))])) (kc' := 0) (ks' := 0) (n := 1) (C := RX3) (ci := 3) hG dX5_checksum_44 (kX3_degree _ K aN aNk aNn nS nK nN s3.2 v7 hv) gX5_checksum_X3_degree rfl rfl rfl ⟨rfl, by decide, by decide, rfl⟩ ⟨by decide, by decide⟩ (Nat.le_of_ble_eq_true rfl) ⟨(Nat.le_of_ble_eq_true rfl), (Nat.le_of_ble_eq_true rfl)⟩ [1, 2, 3] [0, 4, 5, 6, 7, 8, 9, 10, 11, 12, 13, 14, 15, 16, 17] [0, 15, 16, 17, 1, 2, 3, 4, 5, 6, 7, 8, 9, 10, 11, 12, 13, 14] rfl rfl rfl rfl (by decide) rfl (fun _ => rfl) (fun _ => rfl) rfl rfl rfl 0 rfl rfl rfl rfl (fun _ => ?_)
      refine z_i2l hG dX5_checksum_47 ?_
      refine z_ladd hG dX5_checksum_48 ?_
      refine z_lstore_n (lv' := [(1, .long (((31 : Int64) * (((31 : Int64) * s3.1) + (nK s3.2.toNatClampNeg).toInt64)) + v7.toInt64)), (0, .ref aH), (3, .int s3.2)]) hG dX5_checksum_49 (by decide) rfl ?_
      refine z_ldc2 hG dX5_checksum_50 mX5_checksum_5 ?_
      refine z_lload_n hG dX5_checksum_53 0 rfl ?_
      refine z_lmul hG dX5_checksum_54 ?_
      refine z_aload_n hG dX5_checksum_55 1 rfl ?_
      refine z_get (ci := 5) (C := RX5) (T := TX5) (N := 8) hG dX5_checksum_56 iX5_checksum_X5 1 (by decide) mX5_checksum_7 rfl rfl 0 rfl rfl ?_
      refine z_get (ci := 2) (C := RX2) (T := TX2) (N := 4) hG dX5_checksum_59 iX5_checksum_X2 0 (by decide) mX5_checksum_8 rfl rfl 4 rfl rfl ?_
      refine z_iload_n hG dX5_checksum_62 2 rfl ?_
      obtain ⟨hg, hres⟩ := z_guard hres
      refine z_iald hG dX5_checksum_63 5 rfl hg ?_
      refine z_i2l hG dX5_checksum_64 ?_
      refine z_ladd hG dX5_checksum_65 ?_
      refine z_lstore_n (lv' := [(1, .long (((31 : Int64) * (((31 : Int64) * (((31 : Int64) * s3.1) + (nK s3.2.toNatClampNeg).toInt64)) + v7.toInt64)) + (fL s3.2.toNatClampNeg).toInt64)), (0, .ref aH), (3, .int s3.2)]) hG dX5_checksum_66 (by decide) rfl ?_
      refine z_ldc2 hG dX5_checksum_67 mX5_checksum_5 ?_
      refine z_lload_n hG dX5_checksum_70 0 rfl ?_
      refine z_lmul hG dX5_checksum_71 ?_
      refine z_aload_n hG dX5_checksum_72 1 rfl ?_
      refine z_get (ci := 5) (C := RX5) (T := TX5) (N := 8) hG dX5_checksum_73 iX5_checksum_X5 1 (by decide) mX5_checksum_7 rfl rfl 0 rfl rfl ?_
      refine z_get (ci := 2) (C := RX2) (T := TX2) (N := 4) hG dX5_checksum_76 iX5_checksum_X2 1 (by decide) mX5_checksum_10 rfl rfl 4 rfl rfl ?_
      refine z_iload_n hG dX5_checksum_79 2 rfl ?_
      obtain ⟨hg, hres⟩ := z_guard hres
      refine z_iald hG dX5_checksum_80 6 rfl hg ?_
      refine z_i2l hG dX5_checksum_81 ?_
      refine z_ladd hG dX5_checksum_82 ?_
      refine z_lstore_n (lv' := [(1, .long (((31 : Int64) * (((31 : Int64) * (((31 : Int64) * (((31 : Int64) * s3.1) + (nK s3.2.toNatClampNeg).toInt64)) + v7.toInt64)) + (fL s3.2.toNatClampNeg).toInt64)) + (fC s3.2.toNatClampNeg).toInt64)), (0, .ref aH), (3, .int s3.2)]) hG dX5_checksum_83 (by decide) rfl ?_
      refine z_iinc (s3.2 + 1) (lv' := [(3, .int (s3.2 + 1)), (1, .long (((31 : Int64) * (((31 : Int64) * (((31 : Int64) * (((31 : Int64) * s3.1) + (nK s3.2.toNatClampNeg).toInt64)) + v7.toInt64)) + (fL s3.2.toNatClampNeg).toInt64)) + (fC s3.2.toNatClampNeg).toInt64)), (0, .ref aH)]) hG dX5_checksum_84 2 rfl rfl (by decide) rfl ?_
      refine z_goto 6 hG dX5_checksum_87 (by decide) ?_
      exact (z_lv [2, 1, 0] rfl (hB (((31 : Int64) * (((31 : Int64) * (((31 : Int64) * (((31 : Int64) * s3.1) + (nK s3.2.toNatClampNeg).toInt64)) + v7.toInt64)) + (fL s3.2.toNatClampNeg).toInt64)) + (fC s3.2.toNatClampNeg).toInt64) (s3.2 + 1) (Option.some.inj hres).symm))
