theorem dX4_neighbours_0 : decode cX4_neighbours 0 = .ok (.iconst 0, 1) := by decide +kernel
theorem dX4_neighbours_1 : decode cX4_neighbours 1 = .ok (.istore_n 2, 1) := by decide +kernel
theorem dX4_neighbours_2 : decode cX4_neighbours 2 = .ok (.iconst 0, 1) := by decide +kernel
theorem dX4_neighbours_3 : decode cX4_neighbours 3 = .ok (.istore_n 3, 1) := by decide +kernel
theorem dX4_neighbours_4 : decode cX4_neighbours 4 = .ok (.iload_n 3, 1) := by decide +kernel
theorem dX4_neighbours_5 : decode cX4_neighbours 5 = .ok (.aload_n 0, 1) := by decide +kernel
theorem dX4_neighbours_6 : decode cX4_neighbours 6 = .ok (.getfield 22, 3) := by decide +kernel
theorem dX4_neighbours_9 : decode cX4_neighbours 9 = .ok (.if_icmp .ge 26, 3) := by decide +kernel
theorem dX4_neighbours_12 : decode cX4_neighbours 12 = .ok (.iload_n 1, 1) := by decide +kernel
theorem dX4_neighbours_13 : decode cX4_neighbours 13 = .ok (.iload_n 3, 1) := by decide +kernel
theorem dX4_neighbours_14 : decode cX4_neighbours 14 = .ok (.invokestatic 29, 3) := by decide +kernel
theorem dX4_neighbours_17 : decode cX4_neighbours 17 = .ok (.ifCond .eq 12, 3) := by decide +kernel
theorem dX4_neighbours_20 : decode cX4_neighbours 20 = .ok (.iload_n 2, 1) := by decide +kernel
theorem dX4_neighbours_21 : decode cX4_neighbours 21 = .ok (.aload_n 0, 1) := by decide +kernel
theorem dX4_neighbours_22 : decode cX4_neighbours 22 = .ok (.getfield 40, 3) := by decide +kernel
theorem dX4_neighbours_25 : decode cX4_neighbours 25 = .ok (.iload_n 3, 1) := by decide +kernel
theorem dX4_neighbours_26 : decode cX4_neighbours 26 = .ok (.iaload, 1) := by decide +kernel
theorem dX4_neighbours_27 : decode cX4_neighbours 27 = .ok (.ior, 1) := by decide +kernel
theorem dX4_neighbours_28 : decode cX4_neighbours 28 = .ok (.istore_n 2, 1) := by decide +kernel
theorem dX4_neighbours_29 : decode cX4_neighbours 29 = .ok (.iinc 3 1, 3) := by decide +kernel
theorem dX4_neighbours_32 : decode cX4_neighbours 32 = .ok (.goto (-28), 3) := by decide +kernel
theorem dX4_neighbours_35 : decode cX4_neighbours 35 = .ok (.iload_n 2, 1) := by decide +kernel
theorem dX4_neighbours_36 : decode cX4_neighbours 36 = .ok (.ireturn, 1) := by decide +kernel
set_option maxRecDepth 20000 in
theorem ggX4_neighbours_X5_hasBit : GoodIn wsX4_neighbours wsX5_hasBit := goodIn_r _ [5] (by decide +kernel) (by decide +kernel)
set_option maxRecDepth 20000 in
theorem gX4_neighbours_X5_hasBit_n29 : GoodIn wsX4_neighbours (wsX5_hasBit) := ggX4_neighbours_X5_hasBit
theorem mX4_neighbours_0 : Cond.fieldLink RX4 22 "Layerways$Net" "size" "I" ∈ wsX4_neighbours := by decide +kernel
theorem iX4_neighbours_X3 : ∀ w ∈ u_ws RX3 TX3 3, w ∈ wsX4_neighbours := by decide +kernel
theorem mX4_neighbours_2 : Cond.initialized RX5 ∈ wsX4_neighbours := by decide +kernel
theorem mX4_neighbours_3 : Cond.static yX5_hasBit ∈ wsX4_neighbours := by decide +kernel
theorem mX4_neighbours_4 : Cond.fieldLink RX4 40 "Layerways$Net" "near" "[I" ∈ wsX4_neighbours := by decide +kernel
def sX4_neighbours_4 (nS : Int32) (nN : (Nat → Int32)) (p0 : Int32) (s3 : Int32 × Int32) : Option ((Int32 × Int32) ⊕ (Int32 × Int32)) := if nS ≤ s3.2 then some (.inl (s3.1, s3.2)) else (fX5_hasBit p0 s3.2).bind fun v7 => if v7 = 0 then some (.inr (s3.1, (s3.2 + 1))) else if zin s3.2 12 then some (.inr ((s3.1 ||| (nN s3.2.toNatClampNeg)), (s3.2 + 1))) else none
def fX4_neighbours (nS : Int32) (nN : (Nat → Int32)) (p0 : Int32) : Option (Int32) := (zloop (sX4_neighbours_4 nS nN p0) 32 (0, 0)).bind fun e5 => some e5.1
set_option maxRecDepth 100000 in
set_option maxHeartbeats 4000000 in
theorem kX4_neighbours (l : Launch) (K : zK) (aN : Nat) (aNk : Nat) (aNn : Nat)  (nS : Int32) (nK : (Nat → Int32)) (nN : (Nat → Int32)) (p0 : Int32) (r : Int32) (hres : fX4_neighbours nS nN p0 = some r) : zM l K yX4_neighbours wsX4_neighbours ({ frames := 1, cells := 0, slots := 0, locals := 21 }) [.ref aN, .int p0] [(aN, .inr (3, [.ref aNk, .ref aNn, .int nS])), (aNk, .inl (K.2 0, 12, .inl nK)), (aNn, .inl (K.2 0, 12, .inl nN))] (fun _ : Unit => some (.int r)) (fun _ : Unit => [(aN, .inr (3, [.ref aNk, .ref aNn, .int nS])), (aNk, .inl (K.2 0, 12, .inl nK)), (aNn, .inl (K.2 0, 12, .inl nN))]) 0 0 := by
  refine zM.intI (cc := cX4_neighbours) (maxL := 4) (ret := (some .int)) rfl (by decide) (Nat.le_of_ble_eq_true rfl) rfl ?_
  intro G hGl hG hN hE
  have hR : ∀ (pc : Nat) (lv : zL), decode cX4_neighbours pc = .ok (.ireturn, 1) → zj G pc lv [.int r] [(aN, .inr (3, [.ref aNk, .ref aNn, .int nS])), (aNk, .inl (K.2 0, 12, .inl nK)), (aNn, .inl (K.2 0, 12, .inl nN))] 0 0 := fun pc lv d => hE () _ rfl pc lv d
  clear hE
  unfold fX4_neighbours at hres
  show zj G 0 [(0, .ref aN), (1, .int p0)] [] [(aN, .inr (3, [.ref aNk, .ref aNn, .int nS])), (aNk, .inl (K.2 0, 12, .inl nK)), (aNn, .inl (K.2 0, 12, .inl nN))] 0 0
  refine z_iconst 0 hG dX4_neighbours_0 (by decide) ?_
  refine z_istore_n (lv' := [(2, .int 0), (0, .ref aN), (1, .int p0)]) hG dX4_neighbours_1 (by decide) rfl ?_
  refine z_iconst 0 hG dX4_neighbours_2 (by decide) ?_
  refine z_istore_n (lv' := [(3, .int 0), (2, .int 0), (0, .ref aN), (1, .int p0)]) hG dX4_neighbours_3 (by decide) rfl ?_
  obtain ⟨e5, hx, hres⟩ := z_bind hres
  refine z_lv [2, 3, 1, 0] (lv' := [(0, .ref aN), (1, .int p0), (2, .int 0), (3, .int 0)]) rfl ?_
  refine z_loop hx (fun s3 : Int32 × Int32 => [(0, .ref aN), (1, .int p0), (2, .int s3.1), (3, .int s3.2)]) (fun s3 : Int32 × Int32 => [(aN, .inr (3, [.ref aNk, .ref aNn, .int nS])), (aNk, .inl (K.2 0, 12, .inl nK)), (aNn, .inl (K.2 0, 12, .inl nN))]) (fun e5 : Int32 × Int32 => zj G 35 [(0, .ref aN), (1, .int p0), (2, .int e5.1), (3, .int e5.2)] [] [(aN, .inr (3, [.ref aNk, .ref aNn, .int nS])), (aNk, .inl (K.2 0, 12, .inl nK)), (aNn, .inl (K.2 0, 12, .inl nN))] 0 0) ?_ ?_
  · refine z_iload_n hG dX4_neighbours_35 2 rfl ?_
    obtain rfl := Option.some.inj hres
    exact (hR _ _ dX4_neighbours_36)
  · intro s3 w4 hres hX hB
    unfold sX4_neighbours_4 at hres
    refine z_iload_n hG dX4_neighbours_4 3 rfl ?_
    refine z_aload_n hG dX4_neighbours_5 0 rfl ?_
    refine z_get (ci := 3) (C := RX3) (T := TX3) (N := 3) hG dX4_neighbours_6 iX4_neighbours_X3 2 (by decide) mX4_neighbours_0 rfl rfl 0 rfl rfl ?_
    refine z_icmp_ge 35 hG dX4_neighbours_9 (by decide) (fun c => ?_) (fun c => ?_)
    · replace hres := z_ifp c hres
      exact (hX (s3.1, s3.2) (Option.some.inj hres).symm)
    · replace hres := z_ifn c hres
      refine z_iload_n hG dX4_neighbours_12 1 rfl ?_
      refine z_iload_n hG dX4_neighbours_13 3 rfl ?_
      obtain ⟨v7, hv, hres⟩ := z_bind hres
      refine z_callSN (As := [.int p0, .int s3.2]) (rest := []) (wr := [(aN, .inr (3, [.ref aNk, .ref aNn, .int nS])), (aNk, .inl (K.2 0, 12, .inl nK)), (aNn, .inl (K.2 0, 12, .inl nN))]) (ws' := (fun _ : Unit => [(aN, .inr (3, [.ref aNk, .ref aNn, .int nS])), (aNk, .inl (K.2 0, 12, .inl nK)), (aNn, .inl (K.2 0, 12, .inl nN))])) (stk := (fun _ : Unit => [.int v7])) (kc' := 0) (ks' := 0) (n := 2) (host := RX5) hG dX4_neighbours_14 (kX5_hasBit _ K p0 s3.2 v7 hv) gX4_neighbours_X5_hasBit_n29 rfl rfl rfl ⟨by decide, by decide, rfl⟩ ⟨by decide, by decide⟩ (Nat.le_of_ble_eq_true rfl) ⟨(Nat.le_of_ble_eq_true rfl), (Nat.le_of_ble_eq_true rfl)⟩ [] [0, 1, 2] [0, 1, 2] rfl rfl rfl rfl (by decide) rfl (fun _ => rfl) (fun _ => rfl) rfl (fun h => h.2.1) mX4_neighbours_2 mX4_neighbours_3 rfl rfl rfl (fun _ => ?_)
      refine z_if_eq 29 hG dX4_neighbours_17 (by decide) (fun c => ?_) (fun c => ?_)
      · replace hres := z_ifp c hres
        refine z_iinc (s3.2 + 1) (lv' := [(3, .int (s3.2 + 1)), (0, .ref aN), (1, .int p0), (2, .int s3.1)]) hG dX4_neighbours_29 3 rfl rfl (by decide) rfl ?_
        refine z_goto 4 hG dX4_neighbours_32 (by decide) ?_
        exact (z_lv [1, 2, 3, 0] rfl (hB (s3.1, (s3.2 + 1)) (Option.some.inj hres).symm))
      · replace hres := z_ifn c hres
        refine z_iload_n hG dX4_neighbours_20 2 rfl ?_
        refine z_aload_n hG dX4_neighbours_21 0 rfl ?_
        refine z_get (ci := 3) (C := RX3) (T := TX3) (N := 3) hG dX4_neighbours_22 iX4_neighbours_X3 1 (by decide) mX4_neighbours_4 rfl rfl 0 rfl rfl ?_
        refine z_iload_n hG dX4_neighbours_25 3 rfl ?_
        obtain ⟨hg, hres⟩ := z_guard hres
        refine z_iald hG dX4_neighbours_26 2 rfl hg ?_
        refine z_ior hG dX4_neighbours_27 ?_
        refine z_istore_n (lv' := [(2, .int (s3.1 ||| (nN s3.2.toNatClampNeg))), (0, .ref aN), (1, .int p0), (3, .int s3.2)]) hG dX4_neighbours_28 (by decide) rfl ?_
        refine z_iinc (s3.2 + 1) (lv' := [(3, .int (s3.2 + 1)), (2, .int (s3.1 ||| (nN s3.2.toNatClampNeg))), (0, .ref aN), (1, .int p0)]) hG dX4_neighbours_29 3 rfl rfl (by decide) rfl ?_
        refine z_goto 4 hG dX4_neighbours_32 (by decide) ?_
        exact (z_lv [2, 3, 1, 0] rfl (hB ((s3.1 ||| (nN s3.2.toNatClampNeg)), (s3.2 + 1)) (Option.some.inj hres).symm))

theorem dX4_least_0 : decode cX4_least 0 = .ok (.iconst 0, 1) := by decide +kernel
theorem dX4_least_1 : decode cX4_least 1 = .ok (.istore_n 2, 1) := by decide +kernel
theorem dX4_least_2 : decode cX4_least 2 = .ok (.iload_n 2, 1) := by decide +kernel
theorem dX4_least_3 : decode cX4_least 3 = .ok (.aload_n 0, 1) := by decide +kernel
theorem dX4_least_4 : decode cX4_least 4 = .ok (.getfield 22, 3) := by decide +kernel
theorem dX4_least_7 : decode cX4_least 7 = .ok (.iconst 1, 1) := by decide +kernel
theorem dX4_least_8 : decode cX4_least 8 = .ok (.isub, 1) := by decide +kernel
theorem dX4_least_9 : decode cX4_least 9 = .ok (.if_icmp .ge 17, 3) := by decide +kernel
theorem dX4_least_12 : decode cX4_least 12 = .ok (.iload_n 1, 1) := by decide +kernel
theorem dX4_least_13 : decode cX4_least 13 = .ok (.iload_n 2, 1) := by decide +kernel
theorem dX4_least_14 : decode cX4_least 14 = .ok (.invokestatic 29, 3) := by decide +kernel
theorem dX4_least_17 : decode cX4_least 17 = .ok (.ifCond .ne 9, 3) := by decide +kernel
theorem dX4_least_20 : decode cX4_least 20 = .ok (.iinc 2 1, 3) := by decide +kernel
theorem dX4_least_23 : decode cX4_least 23 = .ok (.goto (-21), 3) := by decide +kernel
theorem dX4_least_26 : decode cX4_least 26 = .ok (.iload_n 2, 1) := by decide +kernel
theorem dX4_least_27 : decode cX4_least 27 = .ok (.ireturn, 1) := by decide +kernel
set_option maxRecDepth 20000 in
theorem ggX4_least_X5_hasBit : GoodIn wsX4_least wsX5_hasBit := goodIn_r _ [4] (by decide +kernel) (by decide +kernel)
set_option maxRecDepth 20000 in
theorem gX4_least_X5_hasBit_n29 : GoodIn wsX4_least (wsX5_hasBit) := ggX4_least_X5_hasBit
theorem mX4_least_0 : Cond.fieldLink RX4 22 "Layerways$Net" "size" "I" ∈ wsX4_least := by decide +kernel
theorem iX4_least_X3 : ∀ w ∈ u_ws RX3 TX3 3, w ∈ wsX4_least := by decide +kernel
theorem mX4_least_2 : Cond.initialized RX5 ∈ wsX4_least := by decide +kernel
theorem mX4_least_3 : Cond.static yX5_hasBit ∈ wsX4_least := by decide +kernel
def sX4_least_2 (nS : Int32) (p0 : Int32) (s3 : Int32) : Option (Int32 ⊕ Int32) := if (nS - 1) ≤ s3 then some (.inl s3) else (fX5_hasBit p0 s3).bind fun v7 => if v7 = 0 then some (.inr (s3 + 1)) else some (.inl s3)
def fX4_least (nS : Int32) (p0 : Int32) : Option (Int32) := (zloop (sX4_least_2 nS p0) 32 0).bind fun e5 => some e5
set_option maxRecDepth 100000 in
set_option maxHeartbeats 4000000 in
theorem kX4_least (l : Launch) (K : zK) (aN : Nat) (aNk : Nat) (aNn : Nat)  (nS : Int32) (nK : (Nat → Int32)) (nN : (Nat → Int32)) (p0 : Int32) (r : Int32) (hres : fX4_least nS p0 = some r) : zM l K yX4_least wsX4_least ({ frames := 1, cells := 0, slots := 0, locals := 21 }) [.ref aN, .int p0] [(aN, .inr (3, [.ref aNk, .ref aNn, .int nS])), (aNk, .inl (K.2 0, 12, .inl nK)), (aNn, .inl (K.2 0, 12, .inl nN))] (fun _ : Unit => some (.int r)) (fun _ : Unit => [(aN, .inr (3, [.ref aNk, .ref aNn, .int nS])), (aNk, .inl (K.2 0, 12, .inl nK)), (aNn, .inl (K.2 0, 12, .inl nN))]) 0 0 := by
  refine zM.intI (cc := cX4_least) (maxL := 3) (ret := (some .int)) rfl (by decide) (Nat.le_of_ble_eq_true rfl) rfl ?_
  intro G hGl hG hN hE
  have hR : ∀ (pc : Nat) (lv : zL), decode cX4_least pc = .ok (.ireturn, 1) → zj G pc lv [.int r] [(aN, .inr (3, [.ref aNk, .ref aNn, .int nS])), (aNk, .inl (K.2 0, 12, .inl nK)), (aNn, .inl (K.2 0, 12, .inl nN))] 0 0 := fun pc lv d => hE () _ rfl pc lv d
  clear hE
  unfold fX4_least at hres
  show zj G 0 [(0, .ref aN), (1, .int p0)] [] [(aN, .inr (3, [.ref aNk, .ref aNn, .int nS])), (aNk, .inl (K.2 0, 12, .inl nK)), (aNn, .inl (K.2 0, 12, .inl nN))] 0 0
  refine z_iconst 0 hG dX4_least_0 (by decide) ?_
  refine z_istore_n (lv' := [(2, .int 0), (0, .ref aN), (1, .int p0)]) hG dX4_least_1 (by decide) rfl ?_
  obtain ⟨e5, hx, hres⟩ := z_bind hres
  refine z_lv [1, 2, 0] (lv' := [(0, .ref aN), (1, .int p0), (2, .int 0)]) rfl ?_
  refine z_loop hx (fun s3 : Int32 => [(0, .ref aN), (1, .int p0), (2, .int s3)]) (fun s3 : Int32 => [(aN, .inr (3, [.ref aNk, .ref aNn, .int nS])), (aNk, .inl (K.2 0, 12, .inl nK)), (aNn, .inl (K.2 0, 12, .inl nN))]) (fun e5 : Int32 => zj G 26 [(0, .ref aN), (1, .int p0), (2, .int e5)] [] [(aN, .inr (3, [.ref aNk, .ref aNn, .int nS])), (aNk, .inl (K.2 0, 12, .inl nK)), (aNn, .inl (K.2 0, 12, .inl nN))] 0 0) ?_ ?_
  · refine z_iload_n hG dX4_least_26 2 rfl ?_
    obtain rfl := Option.some.inj hres
    exact (hR _ _ dX4_least_27)
  · intro s3 w4 hres hX hB
    unfold sX4_least_2 at hres
    refine z_iload_n hG dX4_least_2 2 rfl ?_
    refine z_aload_n hG dX4_least_3 0 rfl ?_
    refine z_get (ci := 3) (C := RX3) (T := TX3) (N := 3) hG dX4_least_4 iX4_least_X3 2 (by decide) mX4_least_0 rfl rfl 0 rfl rfl ?_
    refine z_iconst 1 hG dX4_least_7 (by decide) ?_
    refine z_isub hG dX4_least_8 ?_
    refine z_icmp_ge 26 hG dX4_least_9 (by decide) (fun c => ?_) (fun c => ?_)
    · replace hres := z_ifp c hres
      exact (hX s3 (Option.some.inj hres).symm)
    · replace hres := z_ifn c hres
      refine z_iload_n hG dX4_least_12 1 rfl ?_
      refine z_iload_n hG dX4_least_13 2 rfl ?_
      obtain ⟨v7, hv, hres⟩ := z_bind hres
      refine z_callSN (As := [.int p0, .int s3]) (rest := []) (wr := [(aN, .inr (3, [.ref aNk, .ref aNn, .int nS])), (aNk, .inl (K.2 0, 12, .inl nK)), (aNn, .inl (K.2 0, 12, .inl nN))]) (ws' := (fun _ : Unit => [(aN, .inr (3, [.ref aNk, .ref aNn, .int nS])), (aNk, .inl (K.2 0, 12, .inl nK)), (aNn, .inl (K.2 0, 12, .inl nN))])) (stk := (fun _ : Unit => [.int v7])) (kc' := 0) (ks' := 0) (n := 2) (host := RX5) hG dX4_least_14 (kX5_hasBit _ K p0 s3 v7 hv) gX4_least_X5_hasBit_n29 rfl rfl rfl ⟨by decide, by decide, rfl⟩ ⟨by decide, by decide⟩ (Nat.le_of_ble_eq_true rfl) ⟨(Nat.le_of_ble_eq_true rfl), (Nat.le_of_ble_eq_true rfl)⟩ [] [0, 1, 2] [0, 1, 2] rfl rfl rfl rfl (by decide) rfl (fun _ => rfl) (fun _ => rfl) rfl (fun h => h.2.1) mX4_least_2 mX4_least_3 rfl rfl rfl (fun _ => ?_)
      refine z_if_ne 26 hG dX4_least_17 (by decide) (fun c => ?_) (fun c => ?_)
      · replace hres := z_ifn c hres
        exact (hX s3 (Option.some.inj hres).symm)
      · replace hres := z_ifp c hres
        refine z_iinc (s3 + 1) (lv' := [(2, .int (s3 + 1)), (0, .ref aN), (1, .int p0)]) hG dX4_least_20 2 rfl rfl (by decide) rfl ?_
        refine z_goto 2 hG dX4_least_23 (by decide) ?_
        exact (z_lv [1, 2, 0] rfl (hB (s3 + 1) (Option.some.inj hres).symm))

theorem dX4_reachBack_0 : decode cX4_reachBack 0 = .ok (.aload_n 0, 1) := by decide +kernel
theorem dX4_reachBack_1 : decode cX4_reachBack 1 = .ok (.getfield 15, 3) := by decide +kernel
theorem dX4_reachBack_4 : decode cX4_reachBack 4 = .ok (.iconst 0, 1) := by decide +kernel
theorem dX4_reachBack_5 : decode cX4_reachBack 5 = .ok (.iconst 1, 1) := by decide +kernel
theorem dX4_reachBack_6 : decode cX4_reachBack 6 = .ok (.iload_n 2, 1) := by decide +kernel
theorem dX4_reachBack_7 : decode cX4_reachBack 7 = .ok (.ishl, 1) := by decide +kernel
theorem dX4_reachBack_8 : decode cX4_reachBack 8 = .ok (.iastore, 1) := by decide +kernel
theorem dX4_reachBack_9 : decode cX4_reachBack 9 = .ok (.iconst 1, 1) := by decide +kernel
theorem dX4_reachBack_10 : decode cX4_reachBack 10 = .ok (.istore 4, 2) := by decide +kernel
theorem dX4_reachBack_12 : decode cX4_reachBack 12 = .ok (.iload 4, 2) := by decide +kernel
theorem dX4_reachBack_14 : decode cX4_reachBack 14 = .ok (.iload_n 3, 1) := by decide +kernel
theorem dX4_reachBack_15 : decode cX4_reachBack 15 = .ok (.if_icmp .gt 36, 3) := by decide +kernel
theorem dX4_reachBack_18 : decode cX4_reachBack 18 = .ok (.iload 4, 2) := by decide +kernel
theorem dX4_reachBack_20 : decode cX4_reachBack 20 = .ok (.bipush 12, 2) := by decide +kernel
theorem dX4_reachBack_22 : decode cX4_reachBack 22 = .ok (.if_icmp .gt 29, 3) := by decide +kernel
theorem dX4_reachBack_25 : decode cX4_reachBack 25 = .ok (.aload_n 0, 1) := by decide +kernel
theorem dX4_reachBack_26 : decode cX4_reachBack 26 = .ok (.getfield 15, 3) := by decide +kernel
theorem dX4_reachBack_29 : decode cX4_reachBack 29 = .ok (.iload 4, 2) := by decide +kernel
theorem dX4_reachBack_31 : decode cX4_reachBack 31 = .ok (.aload_n 1, 1) := by decide +kernel
theorem dX4_reachBack_32 : decode cX4_reachBack 32 = .ok (.aload_n 0, 1) := by decide +kernel
theorem dX4_reachBack_33 : decode cX4_reachBack 33 = .ok (.getfield 15, 3) := by decide +kernel
theorem dX4_reachBack_36 : decode cX4_reachBack 36 = .ok (.iload 4, 2) := by decide +kernel
theorem dX4_reachBack_38 : decode cX4_reachBack 38 = .ok (.iconst 1, 1) := by decide +kernel
theorem dX4_reachBack_39 : decode cX4_reachBack 39 = .ok (.isub, 1) := by decide +kernel
theorem dX4_reachBack_40 : decode cX4_reachBack 40 = .ok (.iaload, 1) := by decide +kernel
theorem dX4_reachBack_41 : decode cX4_reachBack 41 = .ok (.invokestatic 36, 3) := by decide +kernel
theorem dX4_reachBack_44 : decode cX4_reachBack 44 = .ok (.iastore, 1) := by decide +kernel
theorem dX4_reachBack_45 : decode cX4_reachBack 45 = .ok (.iinc 4 1, 3) := by decide +kernel
theorem dX4_reachBack_48 : decode cX4_reachBack 48 = .ok (.goto (-36), 3) := by decide +kernel
theorem dX4_reachBack_51 : decode cX4_reachBack 51 = .ok (.return_, 1) := by decide +kernel
set_option maxRecDepth 20000 in
theorem ggX4_reachBack_X4_neighbours : GoodIn wsX4_reachBack wsX4_neighbours := goodIn_r _ [5, 6, 7, 8, 9, 10, 14, 15, 16] (by decide +kernel) (by decide +kernel)
set_option maxRecDepth 20000 in
theorem gX4_reachBack_X4_neighbours : GoodIn wsX4_reachBack (va_wsS RX4 36 yX4_neighbours wsX4_neighbours) := goodIn_app (goodIn_of _ (by decide +kernel)) ggX4_reachBack_X4_neighbours
theorem mX4_reachBack_0 : Cond.fieldLink RX4 15 "Layerways$OddRing" "reach" "[I" ∈ wsX4_reachBack := by decide +kernel
theorem iX4_reachBack_X4 : ∀ w ∈ u_ws RX4 TX4 3, w ∈ wsX4_reachBack := by decide +kernel
def sX4_reachBack_12 (nS : Int32) (nN : (Nat → Int32)) (p1 : Int32) (s3 : Int32 × (Nat → Int32)) : Option ((Int32 × (Nat → Int32)) ⊕ (Int32 × (Nat → Int32))) := if p1 < s3.1 then some (.inl (s3.1, s3.2)) else if 12 < s3.1 then some (.inl (s3.1, s3.2)) else if zin (s3.1 - 1) 13 then (fX4_neighbours nS nN (s3.2 (s3.1 - 1).toNatClampNeg)).bind fun v7 => if zin s3.1 13 then some (.inr ((s3.1 + 1), (upd s3.2 s3.1.toNatClampNeg v7))) else none else none
def fX4_reachBack (oX : (Nat → Int32)) (nS : Int32) (nN : (Nat → Int32)) (p0 : Int32) (p1 : Int32) : Option ((Nat → Int32)) := if zin 0 13 then (zloop (sX4_reachBack_12 nS nN p1) 32 (1, (upd oX (0 : Int32).toNatClampNeg ((1 : Int32) <<< (p0 &&& 31))))).bind fun e5 => some e5.2 else none
set_option maxRecDepth 100000 in
set_option maxHeartbeats 4000000 in
theorem kX4_reachBack (l : Launch) (K : zK) (aO : Nat) (aOr : Nat) (aOx : Nat) (aN : Nat) (aNk : Nat) (aNn : Nat)  (oS : Int32) (oR : (Nat → Int32)) (oX : (Nat → Int32)) (nS : Int32) (nK : (Nat → Int32)) (nN : (Nat → Int32)) (p0 : Int32) (p1 : Int32) (r : (Nat → Int32)) (hres : fX4_reachBack oX nS nN p0 p1 = some r) : zM l K yX4_reachBack wsX4_reachBack ({ frames := 2, cells := 0, slots := 0, locals := 44 }) [.ref aO, .ref aN, .int p0, .int p1] [(aO, .inr (4, [.ref aOr, .ref aOx, .int oS])), (aOr, .inl (K.2 0, 12, .inl oR)), (aOx, .inl (K.2 0, 13, .inl oX)), (aN, .inr (3, [.ref aNk, .ref aNn, .int nS])), (aNk, .inl (K.2 0, 12, .inl nK)), (aNn, .inl (K.2 0, 12, .inl nN))] (fun _ : Unit => none) (fun _ : Unit => [(aO, .inr (4, [.ref aOr, .ref aOx, .int oS])), (aOr, .inl (K.2 0, 12, .inl oR)), (aOx, .inl (K.2 0, 13, .inl r)), (aN, .inr (3, [.ref aNk, .ref aNn, .int nS])), (aNk, .inl (K.2 0, 12, .inl nK)), (aNn, .inl (K.2 0, 12, .inl nN))]) 0 0 := by
  refine zM.intV (cc := cX4_reachBack) (maxL := 5) (ret := none) rfl (by decide) (Nat.le_of_ble_eq_true rfl) rfl (fun _ => rfl) ?_
  intro G hGl hG hN hE
  have hR : ∀ (pc : Nat) (lv : zL), decode cX4_reachBack pc = .ok (.return_, 1) → zj G pc lv [] [(aO, .inr (4, [.ref aOr, .ref aOx, .int oS])), (aOr, .inl (K.2 0, 12, .inl oR)), (aOx, .inl (K.2 0, 13, .inl r)), (aN, .inr (3, [.ref aNk, .ref aNn, .int nS])), (aNk, .inl (K.2 0, 12, .inl nK)), (aNn, .inl (K.2 0, 12, .inl nN))] 0 0 := fun pc lv d => hE () pc lv d
  clear hE
  unfold fX4_reachBack at hres
  show zj G 0 [(0, .ref aO), (1, .ref aN), (2, .int p0), (3, .int p1)] [] [(aO, .inr (4, [.ref aOr, .ref aOx, .int oS])), (aOr, .inl (K.2 0, 12, .inl oR)), (aOx, .inl (K.2 0, 13, .inl oX)), (aN, .inr (3, [.ref aNk, .ref aNn, .int nS])), (aNk, .inl (K.2 0, 12, .inl nK)), (aNn, .inl (K.2 0, 12, .inl nN))] 0 0
  refine z_aload_n hG dX4_reachBack_0 0 rfl ?_
  refine z_get (ci := 4) (C := RX4) (T := TX4) (N := 3) hG dX4_reachBack_1 iX4_reachBack_X4 1 (by decide) mX4_reachBack_0 rfl rfl 0 rfl rfl ?_
  refine z_iconst 0 hG dX4_reachBack_4 (by decide) ?_
  refine z_iconst 1 hG dX4_reachBack_5 (by decide) ?_
  refine z_iload_n hG dX4_reachBack_6 2 rfl ?_
  refine z_ishl hG dX4_reachBack_7 ?_
  obtain ⟨hg, hres⟩ := z_guard hres
  refine z_iast (ws' := [(aO, .inr (4, [.ref aOr, .ref aOx, .int oS])), (aOr, .inl (K.2 0, 12, .inl oR)), (aOx, .inl (K.2 0, 13, .inl (upd oX (0 : Int32).toNatClampNeg ((1 : Int32) <<< (p0 &&& 31))))), (aN, .inr (3, [.ref aNk, .ref aNn, .int nS])), (aNk, .inl (K.2 0, 12, .inl nK)), (aNn, .inl (K.2 0, 12, .inl nN))]) hG dX4_reachBack_8 2 rfl hg rfl ?_
  refine z_iconst 1 hG dX4_reachBack_9 (by decide) ?_
  refine z_istore (lv' := [(4, .int 1), (0, .ref aO), (1, .ref aN), (2, .int p0), (3, .int p1)]) hG dX4_reachBack_10 (by decide) rfl ?_
  obtain ⟨e5, hx, hres⟩ := z_bind hres
  refine z_lv [1, 2, 3, 4, 0] (lv' := [(0, .ref aO), (1, .ref aN), (2, .int p0), (3, .int p1), (4, .int 1)]) rfl ?_
  refine z_loop hx (fun s3 : Int32 × (Nat → Int32) => [(0, .ref aO), (1, .ref aN), (2, .int p0), (3, .int p1), (4, .int s3.1)]) (fun s3 : Int32 × (Nat → Int32) => [(aO, .inr (4, [.ref aOr, .ref aOx, .int oS])), (aOr, .inl (K.2 0, 12, .inl oR)), (aOx, .inl (K.2 0, 13, .inl s3.2)), (aN, .inr (3, [.ref aNk, .ref aNn, .int nS])), (aNk, .inl (K.2 0, 12, .inl nK)), (aNn, .inl (K.2 0, 12, .inl nN))]) (fun e5 : Int32 × (Nat → Int32) => zj G 51 [(0, .ref aO), (1, .ref aN), (2, .int p0), (3, .int p1), (4, .int e5.1)] [] [(aO, .inr (4, [.ref aOr, .ref aOx, .int oS])), (aOr, .inl (K.2 0, 12, .inl oR)), (aOx, .inl (K.2 0, 13, .inl e5.2)), (aN, .inr (3, [.ref aNk, .ref aNn, .int nS])), (aNk, .inl (K.2 0, 12, .inl nK)), (aNn, .inl (K.2 0, 12, .inl nN))] 0 0) ?_ ?_
  · obtain rfl := Option.some.inj hres
    exact (hR _ _ dX4_reachBack_51)
  · intro s3 w4 hres hX hB
    unfold sX4_reachBack_12 at hres
    refine z_iload hG dX4_reachBack_12 4 rfl ?_
    refine z_iload_n hG dX4_reachBack_14 3 rfl ?_
    refine z_icmp_gt 51 hG dX4_reachBack_15 (by decide) (fun c => ?_) (fun c => ?_)
    · replace hres := z_ifp c hres
      exact (hX (s3.1, s3.2) (Option.some.inj hres).symm)
    · replace hres := z_ifn c hres
      refine z_iload hG dX4_reachBack_18 4 rfl ?_
      refine z_bipush 12 hG dX4_reachBack_20 (by decide) ?_
      refine z_icmp_gt 51 hG dX4_reachBack_22 (by decide) (fun c => ?_) (fun c => ?_)
      · replace hres := z_ifp c hres
        exact (hX (s3.1, s3.2) (Option.some.inj hres).symm)
      · replace hres := z_ifn c hres
        refine z_aload_n hG dX4_reachBack_25 0 rfl ?_
        refine z_get (ci := 4) (C := RX4) (T := TX4) (N := 3) hG dX4_reachBack_26 iX4_reachBack_X4 1 (by decide) mX4_reachBack_0 rfl rfl 0 rfl rfl ?_
        refine z_iload hG dX4_reachBack_29 4 rfl ?_
        refine z_aload_n hG dX4_reachBack_31 1 rfl ?_
        refine z_aload_n hG dX4_reachBack_32 0 rfl ?_
        refine z_get (ci := 4) (C := RX4) (T := TX4) (N := 3) hG dX4_reachBack_33 iX4_reachBack_X4 1 (by decide) mX4_reachBack_0 rfl rfl 0 rfl rfl ?_
        refine z_iload hG dX4_reachBack_36 4 rfl ?_
        refine z_iconst 1 hG dX4_reachBack_38 (by decide) ?_
        refine z_isub hG dX4_reachBack_39 ?_
        obtain ⟨hg, hres⟩ := z_guard hres
        refine z_iald hG dX4_reachBack_40 2 rfl hg ?_
        obtain ⟨v7, hv, hres⟩ := z_bind hres
        refine z_callS (As := [.ref aN, .int (s3.2 (s3.1 - 1).toNatClampNeg)]) (rest := [.int s3.1, .ref aOx]) (wr := [(aO, .inr (4, [.ref aOr, .ref aOx, .int oS])), (aOr, .inl (K.2 0, 12, .inl oR)), (aOx, .inl (K.2 0, 13, .inl s3.2))]) (ws' := (fun _ : Unit => [(aO, .inr (4, [.ref aOr, .ref aOx, .int oS])), (aOr, .inl (K.2 0, 12, .inl oR)), (aOx, .inl (K.2 0, 13, .inl s3.2)), (aN, .inr (3, [.ref aNk, .ref aNn, .int nS])), (aNk, .inl (K.2 0, 12, .inl nK)), (aNn, .inl (K.2 0, 12, .inl nN))])) (stk := (fun _ : Unit => [.int v7, .int s3.1, .ref aOx])) (kc' := 0) (ks' := 0) (n := 2) hG dX4_reachBack_41 (kX4_neighbours _ K aN aNk aNn nS nK nN (s3.2 (s3.1 - 1).toNatClampNeg) v7 hv) gX4_reachBack_X4_neighbours rfl rfl rfl ⟨by decide, by decide, rfl⟩ ⟨by decide, by decide⟩ (Nat.le_of_ble_eq_true rfl) ⟨(Nat.le_of_ble_eq_true rfl), (Nat.le_of_ble_eq_true rfl)⟩ [3, 4, 5] [0, 1, 2] [0, 1, 2, 3, 4, 5] rfl rfl rfl rfl (by decide) rfl (fun _ => rfl) (fun _ => rfl) rfl rfl rfl rfl (fun _ => ?_)
        obtain ⟨hg, hres⟩ := z_guard hres
        refine z_iast (ws' := [(aO, .inr (4, [.ref aOr, .ref aOx, .int oS])), (aOr, .inl (K.2 0, 12, .inl oR)), (aOx, .inl (K.2 0, 13, .inl (upd s3.2 s3.1.toNatClampNeg v7))), (aN, .inr (3, [.ref aNk, .ref aNn, .int nS])), (aNk, .inl (K.2 0, 12, .inl nK)), (aNn, .inl (K.2 0, 12, .inl nN))]) hG dX4_reachBack_44 2 rfl hg rfl ?_
        refine z_iinc (s3.1 + 1) (lv' := [(4, .int (s3.1 + 1)), (0, .ref aO), (1, .ref aN), (2, .int p0), (3, .int p1)]) hG dX4_reachBack_45 4 rfl rfl (by decide) rfl ?_
        refine z_goto 12 hG dX4_reachBack_48 (by decide) ?_
        exact (z_lv [1, 2, 3, 4, 0] rfl (hB ((s3.1 + 1), (upd s3.2 s3.1.toNatClampNeg v7)) (Option.some.inj hres).symm))

theorem dX4_follow_0 : decode cX4_follow 0 = .ok (.iload_n 2, 1) := by decide +kernel
theorem dX4_follow_1 : decode cX4_follow 1 = .ok (.istore 4, 2) := by decide +kernel
theorem dX4_follow_3 : decode cX4_follow 3 = .ok (.iconst 0, 1) := by decide +kernel
theorem dX4_follow_4 : decode cX4_follow 4 = .ok (.istore 5, 2) := by decide +kernel
theorem dX4_follow_6 : decode cX4_follow 6 = .ok (.iload 5, 2) := by decide +kernel
theorem dX4_follow_8 : decode cX4_follow 8 = .ok (.iload_n 3, 1) := by decide +kernel
theorem dX4_follow_9 : decode cX4_follow 9 = .ok (.if_icmp .ge 50, 3) := by decide +kernel
theorem dX4_follow_12 : decode cX4_follow 12 = .ok (.iload 5, 2) := by decide +kernel
theorem dX4_follow_14 : decode cX4_follow 14 = .ok (.bipush 12, 2) := by decide +kernel
theorem dX4_follow_16 : decode cX4_follow 16 = .ok (.if_icmp .ge 43, 3) := by decide +kernel
theorem dX4_follow_19 : decode cX4_follow 19 = .ok (.aload_n 0, 1) := by decide +kernel
theorem dX4_follow_20 : decode cX4_follow 20 = .ok (.getfield 9, 3) := by decide +kernel
theorem dX4_follow_23 : decode cX4_follow 23 = .ok (.iload 5, 2) := by decide +kernel
theorem dX4_follow_25 : decode cX4_follow 25 = .ok (.iload 4, 2) := by decide +kernel
theorem dX4_follow_27 : decode cX4_follow 27 = .ok (.iastore, 1) := by decide +kernel
theorem dX4_follow_28 : decode cX4_follow 28 = .ok (.aload_n 1, 1) := by decide +kernel
theorem dX4_follow_29 : decode cX4_follow 29 = .ok (.aload_n 1, 1) := by decide +kernel
theorem dX4_follow_30 : decode cX4_follow 30 = .ok (.getfield 40, 3) := by decide +kernel
theorem dX4_follow_33 : decode cX4_follow 33 = .ok (.iload 4, 2) := by decide +kernel
theorem dX4_follow_35 : decode cX4_follow 35 = .ok (.iaload, 1) := by decide +kernel
theorem dX4_follow_36 : decode cX4_follow 36 = .ok (.aload_n 0, 1) := by decide +kernel
theorem dX4_follow_37 : decode cX4_follow 37 = .ok (.getfield 15, 3) := by decide +kernel
theorem dX4_follow_40 : decode cX4_follow 40 = .ok (.iload_n 3, 1) := by decide +kernel
theorem dX4_follow_41 : decode cX4_follow 41 = .ok (.iload 5, 2) := by decide +kernel
theorem dX4_follow_43 : decode cX4_follow 43 = .ok (.isub, 1) := by decide +kernel
theorem dX4_follow_44 : decode cX4_follow 44 = .ok (.iconst 1, 1) := by decide +kernel
theorem dX4_follow_45 : decode cX4_follow 45 = .ok (.isub, 1) := by decide +kernel
theorem dX4_follow_46 : decode cX4_follow 46 = .ok (.iaload, 1) := by decide +kernel
theorem dX4_follow_47 : decode cX4_follow 47 = .ok (.iand, 1) := by decide +kernel
theorem dX4_follow_48 : decode cX4_follow 48 = .ok (.invokestatic 43, 3) := by decide +kernel
theorem dX4_follow_51 : decode cX4_follow 51 = .ok (.istore 4, 2) := by decide +kernel
theorem dX4_follow_53 : decode cX4_follow 53 = .ok (.iinc 5 1, 3) := by decide +kernel
theorem dX4_follow_56 : decode cX4_follow 56 = .ok (.goto (-50), 3) := by decide +kernel
theorem dX4_follow_59 : decode cX4_follow 59 = .ok (.aload_n 0, 1) := by decide +kernel
theorem dX4_follow_60 : decode cX4_follow 60 = .ok (.iload_n 3, 1) := by decide +kernel
theorem dX4_follow_61 : decode cX4_follow 61 = .ok (.putfield 18, 3) := by decide +kernel
theorem dX4_follow_64 : decode cX4_follow 64 = .ok (.return_, 1) := by decide +kernel
set_option maxRecDepth 20000 in
theorem ggX4_follow_X4_least : GoodIn wsX4_follow wsX4_least := goodIn_r _ [8, 9, 10, 11, 12, 16, 17, 18] (by decide +kernel) (by decide +kernel)
set_option maxRecDepth 20000 in
theorem gX4_follow_X4_least : GoodIn wsX4_follow (va_wsS RX4 43 yX4_least wsX4_least) := goodIn_app (goodIn_of _ (by decide +kernel)) ggX4_follow_X4_least
theorem mX4_follow_0 : Cond.fieldLink RX4 9 "Layerways$OddRing" "row" "[I" ∈ wsX4_follow := by decide +kernel
theorem iX4_follow_X4 : ∀ w ∈ u_ws RX4 TX4 3, w ∈ wsX4_follow := by decide +kernel
theorem mX4_follow_2 : Cond.fieldLink RX4 40 "Layerways$Net" "near" "[I" ∈ wsX4_follow := by decide +kernel
theorem iX4_follow_X3 : ∀ w ∈ u_ws RX3 TX3 3, w ∈ wsX4_follow := by decide +kernel
theorem mX4_follow_4 : Cond.fieldLink RX4 15 "Layerways$OddRing" "reach" "[I" ∈ wsX4_follow := by decide +kernel
theorem mX4_follow_5 : Cond.fieldLink RX4 18 "Layerways$OddRing" "size" "I" ∈ wsX4_follow := by decide +kernel
def sX4_follow_6 (oX : (Nat → Int32)) (nS : Int32) (nN : (Nat → Int32)) (p1 : Int32) (s3 : Int32 × Int32 × (Nat → Int32)) : Option ((Int32 × Int32 × (Nat → Int32)) ⊕ (Int32 × Int32 × (Nat → Int32))) := if p1 ≤ s3.2.1 then some (.inl (s3.1, s3.2.1, s3.2.2)) else if 12 ≤ s3.2.1 then some (.inl (s3.1, s3.2.1, s3.2.2)) else if zin s3.2.1 12 then if zin s3.1 12 then if zin ((p1 - s3.2.1) - 1) 13 then (fX4_least nS ((nN s3.1.toNatClampNeg) &&& (oX ((p1 - s3.2.1) - 1).toNatClampNeg))).bind fun v7 => some (.inr (v7, (s3.2.1 + 1), (upd s3.2.2 s3.2.1.toNatClampNeg s3.1))) else none else none else none
def fX4_follow (oR : (Nat → Int32)) (oX : (Nat → Int32)) (nS : Int32) (nN : (Nat → Int32)) (p0 : Int32) (p1 : Int32) : Option (Int32 × (Nat → Int32)) := (zloop (sX4_follow_6 oX nS nN p1) 32 (p0, 0, oR)).bind fun e5 => some (p1, e5.2.2)
set_option maxRecDepth 100000 in
set_option maxHeartbeats 4000000 in
theorem kX4_follow (l : Launch) (K : zK) (aO : Nat) (aOr : Nat) (aOx : Nat) (aN : Nat) (aNk : Nat) (aNn : Nat)  (oS : Int32) (oR : (Nat → Int32)) (oX : (Nat → Int32)) (nS : Int32) (nK : (Nat → Int32)) (nN : (Nat → Int32)) (p0 : Int32) (p1 : Int32) (r : Int32 × (Nat → Int32)) (hres : fX4_follow oR oX nS nN p0 p1 = some r) : zM l K yX4_follow wsX4_follow ({ frames := 2, cells := 0, slots := 0, locals := 43 }) [.ref aO, .ref aN, .int p0, .int p1] [(aO, .inr (4, [.ref aOr, .ref aOx, .int oS])), (aOr, .inl (K.2 0, 12, .inl oR)), (aOx, .inl (K.2 0, 13, .inl oX)), (aN, .inr (3, [.ref aNk, .ref aNn, .int nS])), (aNk, .inl (K.2 0, 12, .inl nK)), (aNn, .inl (K.2 0, 12, .inl nN))] (fun _ : Unit => none) (fun _ : Unit => [(aO, .inr (4, [.ref aOr, .ref aOx, .int r.1])), (aOr, .inl (K.2 0, 12, .inl r.2)), (aOx, .inl (K.2 0, 13, .inl oX)), (aN, .inr (3, [.ref aNk, .ref aNn, .int nS])), (aNk, .inl (K.2 0, 12, .inl nK)), (aNn, .inl (K.2 0, 12, .inl nN))]) 0 0 := by
  refine zM.intV (cc := cX4_follow) (maxL := 6) (ret := none) rfl (by decide) (Nat.le_of_ble_eq_true rfl) rfl (fun _ => rfl) ?_
  intro G hGl hG hN hE
  have hR : ∀ (pc : Nat) (lv : zL), decode cX4_follow pc = .ok (.return_, 1) → zj G pc lv [] [(aO, .inr (4, [.ref aOr, .ref aOx, .int r.1])), (aOr, .inl (K.2 0, 12, .inl r.2)), (aOx, .inl (K.2 0, 13, .inl oX)), (aN, .inr (3, [.ref aNk, .ref aNn, .int nS])), (aNk, .inl (K.2 0, 12, .inl nK)), (aNn, .inl (K.2 0, 12, .inl nN))] 0 0 := fun pc lv d => hE () pc lv d
  clear hE
  unfold fX4_follow at hres
  show zj G 0 [(0, .ref aO), (1, .ref aN), (2, .int p0), (3, .int p1)] [] [(aO, .inr (4, [.ref aOr, .ref aOx, .int oS])), (aOr, .inl (K.2 0, 12, .inl oR)), (aOx, .inl (K.2 0, 13, .inl oX)), (aN, .inr (3, [.ref aNk, .ref aNn, .int nS])), (aNk, .inl (K.2 0, 12, .inl nK)), (aNn, .inl (K.2 0, 12, .inl nN))] 0 0
  refine z_iload_n hG dX4_follow_0 2 rfl ?_
  refine z_istore (lv' := [(4, .int p0), (0, .ref aO), (1, .ref aN), (2, .int p0), (3, .int p1)]) hG dX4_follow_1 (by decide) rfl ?_
  refine z_iconst 0 hG dX4_follow_3 (by decide) ?_
  refine z_istore (lv' := [(5, .int 0), (4, .int p0), (0, .ref aO), (1, .ref aN), (2, .int p0), (3, .int p1)]) hG dX4_follow_4 (by decide) rfl ?_
  obtain ⟨e5, hx, hres⟩ := z_bind hres
  refine z_lv [2, 3, 4, 5, 1, 0] (lv' := [(0, .ref aO), (1, .ref aN), (2, .int p0), (3, .int p1), (4, .int p0), (5, .int 0)]) rfl ?_
  refine z_loop hx (fun s3 : Int32 × Int32 × (Nat → Int32) => [(0, .ref aO), (1, .ref aN), (2, .int p0), (3, .int p1), (4, .int s3.1), (5, .int s3.2.1)]) (fun s3 : Int32 × Int32 × (Nat → Int32) => [(aO, .inr (4, [.ref aOr, .ref aOx, .int oS])), (aOr, .inl (K.2 0, 12, .inl s3.2.2)), (aOx, .inl (K.2 0, 13, .inl oX)), (aN, .inr (3, [.ref aNk, .ref aNn, .int nS])), (aNk, .inl (K.2 0, 12, .inl nK)), (aNn, .inl (K.2 0, 12, .inl nN))]) (fun e5 : Int32 × Int32 × (Nat → Int32) => zj G 59 [(0, .ref aO), (1, .ref aN), (2, .int p0), (3, .int p1), (4, .int e5.1), (5, .int e5.2.1)] [] [(aO, .inr (4, [.ref aOr, .ref aOx, .int oS])), (aOr, .inl (K.2 0, 12, .inl e5.2.2)), (aOx, .inl (K.2 0, 13, .inl oX)), (aN, .inr (3, [.ref aNk, .ref aNn, .int nS])), (aNk, .inl (K.2 0, 12, .inl nK)), (aNn, .inl (K.2 0, 12, .inl nN))] 0 0) ?_ ?_
  · refine z_aload_n hG dX4_follow_59 0 rfl ?_
    refine z_iload_n hG dX4_follow_60 3 rfl ?_
    refine z_put (ci := 4) (C := RX4) (T := TX4) (N := 3) (ws' := [(aO, .inr (4, [.ref aOr, .ref aOx, .int p1])), (aOr, .inl (K.2 0, 12, .inl e5.2.2)), (aOx, .inl (K.2 0, 13, .inl oX)), (aN, .inr (3, [.ref aNk, .ref aNn, .int nS])), (aNk, .inl (K.2 0, 12, .inl nK)), (aNn, .inl (K.2 0, 12, .inl nN))]) hG dX4_follow_61 iX4_follow_X4 tyX4_ok nmX4 2 (by decide) mX4_follow_5 rfl rfl rfl rfl rfl rfl 0 rfl (Nat.le_of_ble_eq_true rfl) rfl ?_
    obtain rfl := Option.some.inj hres
    exact (hR _ _ dX4_follow_64)
  · intro s3 w4 hres hX hB
    unfold sX4_follow_6 at hres
    refine z_iload hG dX4_follow_6 5 rfl ?_
    refine z_iload_n hG dX4_follow_8 3 rfl ?_
    refine z_icmp_ge 59 hG dX4_follow_9 (by decide) (fun c => ?_) (fun c => ?_)
    · replace hres := z_ifp c hres
      exact (hX (s3.1, s3.2.1, s3.2.2) (Option.some.inj hres).symm)
    · replace hres := z_ifn c hres
      refine z_iload hG dX4_follow_12 5 rfl ?_
      refine z_bipush 12 hG dX4_follow_14 (by decide) ?_
      refine z_icmp_ge 59 hG dX4_follow_16 (by decide) (fun c => ?_) (fun c => ?_)
      · replace hres := z_ifp c hres
        exact (hX (s3.1, s3.2.1, s3.2.2) (Option.some.inj hres).symm)
      · replace hres := z_ifn c hres
        refine z_aload_n hG dX4_follow_19 0 rfl ?_
        refine z_get (ci := 4) (C := RX4) (T := TX4) (N := 3) hG dX4_follow_20 iX4_follow_X4 0 (by decide) mX4_follow_0 rfl rfl 0 rfl rfl ?_
        refine z_iload hG dX4_follow_23 5 rfl ?_
        refine z_iload hG dX4_follow_25 4 rfl ?_
        obtain ⟨hg, hres⟩ := z_guard hres
        refine z_iast (ws' := [(aO, .inr (4, [.ref aOr, .ref aOx, .int oS])), (aOr, .inl (K.2 0, 12, .inl (upd s3.2.2 s3.2.1.toNatClampNeg s3.1))), (aOx, .inl (K.2 0, 13, .inl oX)), (aN, .inr (3, [.ref aNk, .ref aNn, .int nS])), (aNk, .inl (K.2 0, 12, .inl nK)), (aNn, .inl (K.2 0, 12, .inl nN))]) hG dX4_follow_27 1 rfl hg rfl ?_
        refine z_aload_n hG dX4_follow_28 1 rfl ?_
        refine z_aload_n hG dX4_follow_29 1 rfl ?_
        refine z_get (ci := 3) (C := RX3) (T := TX3) (N := 3) hG dX4_follow_30 iX4_follow_X3 1 (by decide) mX4_follow_2 rfl rfl 3 rfl rfl ?_
        refine z_iload hG dX4_follow_33 4 rfl ?_
        obtain ⟨hg, hres⟩ := z_guard hres
        refine z_iald hG dX4_follow_35 5 rfl hg ?_
        refine z_aload_n hG dX4_follow_36 0 rfl ?_
        refine z_get (ci := 4) (C := RX4) (T := TX4) (N := 3) hG dX4_follow_37 iX4_follow_X4 1 (by decide) mX4_follow_4 rfl rfl 0 rfl rfl ?_
        refine z_iload_n hG dX4_follow_40 3 rfl ?_
        refine z_iload hG dX4_follow_41 5 rfl ?_
        refine z_isub hG dX4_follow_43 ?_
        refine z_iconst 1 hG dX4_follow_44 (by decide) ?_
        refine z_isub hG dX4_follow_45 ?_
        obtain ⟨hg, hres⟩ := z_guard hres
        refine z_iald hG dX4_follow_46 2 rfl hg ?_
        refine z_iand hG dX4_follow_47 ?_
        obtain ⟨v7, hv, hres⟩ := z_bind hres
        refine z_callS (As := [.ref aN, .int ((nN s3.1.toNatClampNeg) &&& (oX ((p1 - s3.2.1) - 1).toNatClampNeg))]) (rest := []) (wr := [(aO, .inr (4, [.ref aOr, .ref aOx, .int oS])), (aOr, .inl (K.2 0, 12, .inl (upd s3.2.2 s3.2.1.toNatClampNeg s3.1))), (aOx, .inl (K.2 0, 13, .inl oX))]) (ws' := (fun _ : Unit => [(aO, .inr (4, [.ref aOr, .ref aOx, .int oS])), (aOr, .inl (K.2 0, 12, .inl (upd s3.2.2 s3.2.1.toNatClampNeg s3.1))), (aOx, .inl (K.2 0, 13, .inl oX)), (aN, .inr (3, [.ref aNk, .ref aNn, .int nS])), (aNk, .inl (K.2 0, 12, .inl nK)), (aNn, .inl (K.2 0, 12, .inl nN))])) (stk := (fun _ : Unit => [.int v7])) (kc' := 0) (ks' := 0) (n := 2) hG dX4_follow_48 (kX4_least _ K aN aNk aNn nS nK nN ((nN s3.1.toNatClampNeg) &&& (oX ((p1 - s3.2.1) - 1).toNatClampNeg)) v7 hv) gX4_follow_X4_least rfl rfl rfl ⟨by decide, by decide, rfl⟩ ⟨by decide, by decide⟩ (Nat.le_of_ble_eq_true rfl) ⟨(Nat.le_of_ble_eq_true rfl), (Nat.le_of_ble_eq_true rfl)⟩ [3, 4, 5] [0, 1, 2] [0, 1, 2, 3, 4, 5] rfl rfl rfl rfl (by decide) rfl (fun _ => rfl) (fun _ => rfl) rfl rfl rfl rfl (fun _ => ?_)
        refine z_istore (lv' := [(4, .int v7), (0, .ref aO), (1, .ref aN), (2, .int p0), (3, .int p1), (5, .int s3.2.1)]) hG dX4_follow_51 (by decide) rfl ?_
        refine z_iinc (s3.2.1 + 1) (lv' := [(5, .int (s3.2.1 + 1)), (4, .int v7), (0, .ref aO), (1, .ref aN), (2, .int p0), (3, .int p1)]) hG dX4_follow_53 5 rfl rfl (by decide) rfl ?_
        refine z_goto 6 hG dX4_follow_56 (by decide) ?_
        exact (z_lv [2, 3, 4, 5, 1, 0] rfl (hB (v7, (s3.2.1 + 1), (upd s3.2.2 s3.2.1.toNatClampNeg s3.1)) (Option.some.inj hres).symm))

theorem dX4_find_0 : decode cX4_find 0 = .ok (.aload_n 0, 1) := by decide +kernel
theorem dX4_find_1 : decode cX4_find 1 = .ok (.iconst 0, 1) := by decide +kernel
theorem dX4_find_2 : decode cX4_find 2 = .ok (.putfield 18, 3) := by decide +kernel
theorem dX4_find_5 : decode cX4_find 5 = .ok (.iconst 3, 1) := by decide +kernel
theorem dX4_find_6 : decode cX4_find 6 = .ok (.istore_n 2, 1) := by decide +kernel
theorem dX4_find_7 : decode cX4_find 7 = .ok (.iload_n 2, 1) := by decide +kernel
theorem dX4_find_8 : decode cX4_find 8 = .ok (.aload_n 1, 1) := by decide +kernel
theorem dX4_find_9 : decode cX4_find 9 = .ok (.getfield 22, 3) := by decide +kernel
theorem dX4_find_12 : decode cX4_find 12 = .ok (.if_icmp .gt 53, 3) := by decide +kernel
theorem dX4_find_15 : decode cX4_find 15 = .ok (.iconst 0, 1) := by decide +kernel
theorem dX4_find_16 : decode cX4_find 16 = .ok (.istore_n 3, 1) := by decide +kernel
theorem dX4_find_17 : decode cX4_find 17 = .ok (.iload_n 3, 1) := by decide +kernel
theorem dX4_find_18 : decode cX4_find 18 = .ok (.aload_n 1, 1) := by decide +kernel
theorem dX4_find_19 : decode cX4_find 19 = .ok (.getfield 22, 3) := by decide +kernel
theorem dX4_find_22 : decode cX4_find 22 = .ok (.if_icmp .ge 37, 3) := by decide +kernel
theorem dX4_find_25 : decode cX4_find 25 = .ok (.aload_n 0, 1) := by decide +kernel
theorem dX4_find_26 : decode cX4_find 26 = .ok (.aload_n 1, 1) := by decide +kernel
theorem dX4_find_27 : decode cX4_find 27 = .ok (.iload_n 3, 1) := by decide +kernel
theorem dX4_find_28 : decode cX4_find 28 = .ok (.iload_n 2, 1) := by decide +kernel
theorem dX4_find_29 : decode cX4_find 29 = .ok (.invokevirtual 25, 3) := by decide +kernel
theorem dX4_find_32 : decode cX4_find 32 = .ok (.aload_n 0, 1) := by decide +kernel
theorem dX4_find_33 : decode cX4_find 33 = .ok (.getfield 15, 3) := by decide +kernel
theorem dX4_find_36 : decode cX4_find 36 = .ok (.iload_n 2, 1) := by decide +kernel
theorem dX4_find_37 : decode cX4_find 37 = .ok (.iaload, 1) := by decide +kernel
theorem dX4_find_38 : decode cX4_find 38 = .ok (.iload_n 3, 1) := by decide +kernel
theorem dX4_find_39 : decode cX4_find 39 = .ok (.invokestatic 29, 3) := by decide +kernel
theorem dX4_find_42 : decode cX4_find 42 = .ok (.ifCond .eq 11, 3) := by decide +kernel
theorem dX4_find_45 : decode cX4_find 45 = .ok (.aload_n 0, 1) := by decide +kernel
theorem dX4_find_46 : decode cX4_find 46 = .ok (.aload_n 1, 1) := by decide +kernel
theorem dX4_find_47 : decode cX4_find 47 = .ok (.iload_n 3, 1) := by decide +kernel
theorem dX4_find_48 : decode cX4_find 48 = .ok (.iload_n 2, 1) := by decide +kernel
theorem dX4_find_49 : decode cX4_find 49 = .ok (.invokevirtual 33, 3) := by decide +kernel
theorem dX4_find_52 : decode cX4_find 52 = .ok (.return_, 1) := by decide +kernel
theorem dX4_find_53 : decode cX4_find 53 = .ok (.iinc 3 1, 3) := by decide +kernel
theorem dX4_find_56 : decode cX4_find 56 = .ok (.goto (-39), 3) := by decide +kernel
theorem dX4_find_59 : decode cX4_find 59 = .ok (.iinc 2 2, 3) := by decide +kernel
theorem dX4_find_62 : decode cX4_find 62 = .ok (.goto (-55), 3) := by decide +kernel
theorem dX4_find_65 : decode cX4_find 65 = .ok (.return_, 1) := by decide +kernel
set_option maxRecDepth 20000 in
theorem ggX4_find_X4_reachBack : GoodIn wsX4_find wsX4_reachBack := goodIn_r _ [8, 3, 9, 10, 7, 11, 2, 12, 13, 14, 15, 24, 25, 26, 27, 28, 29] (by decide +kernel) (by decide +kernel)
set_option maxRecDepth 20000 in
theorem gX4_find_X4_reachBack : GoodIn wsX4_find (wsV RX4 25 RX4 yX4_reachBack wsX4_reachBack) := goodIn_app (goodIn_of _ (by decide +kernel)) ggX4_find_X4_reachBack
set_option maxRecDepth 20000 in
theorem ggX4_find_X5_hasBit : GoodIn wsX4_find wsX5_hasBit := goodIn_r _ [15] (by decide +kernel) (by decide +kernel)
set_option maxRecDepth 20000 in
theorem gX4_find_X5_hasBit_n29 : GoodIn wsX4_find (wsX5_hasBit) := ggX4_find_X5_hasBit
set_option maxRecDepth 20000 in
theorem ggX4_find_X4_follow : GoodIn wsX4_find wsX4_follow := goodIn_r _ [19, 20, 12, 3, 1, 21, 22, 7, 23, 2, 13, 14, 15, 24, 25, 26, 27, 28, 29] (by decide +kernel) (by decide +kernel)
set_option maxRecDepth 20000 in
theorem gX4_find_X4_follow : GoodIn wsX4_find (wsV RX4 33 RX4 yX4_follow wsX4_follow) := goodIn_app (goodIn_of _ (by decide +kernel)) ggX4_find_X4_follow
theorem mX4_find_0 : Cond.fieldLink RX4 18 "Layerways$OddRing" "size" "I" ∈ wsX4_find := by decide +kernel
theorem iX4_find_X4 : ∀ w ∈ u_ws RX4 TX4 3, w ∈ wsX4_find := by decide +kernel
theorem mX4_find_2 : Cond.fieldLink RX4 22 "Layerways$Net" "size" "I" ∈ wsX4_find := by decide +kernel
theorem iX4_find_X3 : ∀ w ∈ u_ws RX3 TX3 3, w ∈ wsX4_find := by decide +kernel
theorem mX4_find_4 : Cond.fieldLink RX4 15 "Layerways$OddRing" "reach" "[I" ∈ wsX4_find := by decide +kernel
theorem mX4_find_5 : Cond.initialized RX5 ∈ wsX4_find := by decide +kernel
theorem mX4_find_6 : Cond.static yX5_hasBit ∈ wsX4_find := by decide +kernel
def sX4_find_17 (oR : (Nat → Int32)) (nS : Int32) (nN : (Nat → Int32)) (s29 : Int32 × (Nat → Int32)) (s39 : Int32 × (Nat → Int32)) : Option (((Int32 × (Nat → Int32) × (Nat → Int32)) ⊕ (Int32 × (Nat → Int32))) ⊕ (Int32 × (Nat → Int32))) := if nS ≤ s39.1 then some (.inl (.inr (s39.1, s39.2))) else (fX4_reachBack s39.2 nS nN s39.1 s29.1).bind fun v43 => if zin s29.1 13 then (fX5_hasBit (v43 s29.1.toNatClampNeg) s39.1).bind fun v44 => if v44 = 0 then some (.inr ((s39.1 + 1), v43)) else (fX4_follow oR v43 nS nN s39.1 s29.1).bind fun v45 => some (.inl (.inl (v45.1, v45.2, v43))) else none
def sX4_find_7 (oR : (Nat → Int32)) (nS : Int32) (nN : (Nat → Int32)) (s29 : Int32 × (Nat → Int32)) : Option (((Int32 × (Nat → Int32) × (Nat → Int32)) ⊕ (Int32 × (Nat → Int32))) ⊕ (Int32 × (Nat → Int32))) := if nS < s29.1 then some (.inl (.inr (s29.1, s29.2))) else (zloop (sX4_find_17 oR nS nN s29) 32 (0, s29.2)).bind fun e41 => Sum.elim (fun p46 : Int32 × (Nat → Int32) × (Nat → Int32) => some (.inl (.inl p46))) (fun e41 : Int32 × (Nat → Int32) => some (.inr ((s29.1 + 2), e41.2))) e41
def fX4_find (oR : (Nat → Int32)) (oX : (Nat → Int32)) (nS : Int32) (nN : (Nat → Int32)) : Option (Int32 × (Nat → Int32) × (Nat → Int32)) := (zloop (sX4_find_7 oR nS nN) 32 (3, oX)).bind fun e31 => Sum.elim (fun p47 : Int32 × (Nat → Int32) × (Nat → Int32) => some p47) (fun e31 : Int32 × (Nat → Int32) => some (0, oR, e31.2)) e31
set_option maxRecDepth 100000 in
set_option maxHeartbeats 4000000 in
theorem kX4_find (l : Launch) (K : zK) (aO : Nat) (aOr : Nat) (aOx : Nat) (aN : Nat) (aNk : Nat) (aNn : Nat)  (oS : Int32) (oR : (Nat → Int32)) (oX : (Nat → Int32)) (nS : Int32) (nK : (Nat → Int32)) (nN : (Nat → Int32)) (r : Int32 × (Nat → Int32) × (Nat → Int32)) (hres : fX4_find oR oX nS nN = some r) : zM l K yX4_find wsX4_find ({ frames := 3, cells := 0, slots := 0, locals := 68 }) [.ref aO, .ref aN] [(aO, .inr (4, [.ref aOr, .ref aOx, .int oS])), (aOr, .inl (K.2 0, 12, .inl oR)), (aOx, .inl (K.2 0, 13, .inl oX)), (aN, .inr (3, [.ref aNk, .ref aNn, .int nS])), (aNk, .inl (K.2 0, 12, .inl nK)), (aNn, .inl (K.2 0, 12, .inl nN))] (fun _ : Unit => none) (fun _ : Unit => [(aO, .inr (4, [.ref aOr, .ref aOx, .int r.1])), (aOr, .inl (K.2 0, 12, .inl r.2.1)), (aOx, .inl (K.2 0, 13, .inl r.2.2)), (aN, .inr (3, [.ref aNk, .ref aNn, .int nS])), (aNk, .inl (K.2 0, 12, .inl nK)), (aNn, .inl (K.2 0, 12, .inl nN))]) 0 0 := by
  refine zM.intV (cc := cX4_find) (maxL := 4) (ret := none) rfl (by decide) (Nat.le_of_ble_eq_true rfl) rfl (fun _ => rfl) ?_
  intro G hGl hG hN hE
  have hR : ∀ (pc : Nat) (lv : zL), decode cX4_find pc = .ok (.return_, 1) → zj G pc lv [] [(aO, .inr (4, [.ref aOr, .ref aOx, .int r.1])), (aOr, .inl (K.2 0, 12, .inl r.2.1)), (aOx, .inl (K.2 0, 13, .inl r.2.2)), (aN, .inr (3, [.ref aNk, .ref aNn, .int nS])), (aNk, .inl (K.2 0, 12, .inl nK)), (aNn, .inl (K.2 0, 12, .inl nN))] 0 0 := fun pc lv d => hE () pc lv d
  clear hE
  unfold fX4_find at hres
  show zj G 0 [(0, .ref aO), (1, .ref aN)] [] [(aO, .inr (4, [.ref aOr, .ref aOx, .int oS])), (aOr, .inl (K.2 0, 12, .inl oR)), (aOx, .inl (K.2 0, 13, .inl oX)), (aN, .inr (3, [.ref aNk, .ref aNn, .int nS])), (aNk, .inl (K.2 0, 12, .inl nK)), (aNn, .inl (K.2 0, 12, .inl nN))] 0 0
  refine z_aload_n hG dX4_find_0 0 rfl ?_
  refine z_iconst 0 hG dX4_find_1 (by decide) ?_
  refine z_put (ci := 4) (C := RX4) (T := TX4) (N := 3) (ws' := [(aO, .inr (4, [.ref aOr, .ref aOx, .int 0])), (aOr, .inl (K.2 0, 12, .inl oR)), (aOx, .inl (K.2 0, 13, .inl oX)), (aN, .inr (3, [.ref aNk, .ref aNn, .int nS])), (aNk, .inl (K.2 0, 12, .inl nK)), (aNn, .inl (K.2 0, 12, .inl nN))]) hG dX4_find_2 iX4_find_X4 tyX4_ok nmX4 2 (by decide) mX4_find_0 rfl rfl rfl rfl rfl rfl 0 rfl (Nat.le_of_ble_eq_true rfl) rfl ?_
  refine z_iconst 3 hG dX4_find_5 (by decide) ?_
  refine z_istore_n (lv' := [(2, .int 3), (0, .ref aO), (1, .ref aN)]) hG dX4_find_6 (by decide) rfl ?_
  obtain ⟨e31, hx, hres⟩ := z_bind hres
  refine z_lv [1, 2, 0] (lv' := [(0, .ref aO), (1, .ref aN), (2, .int 3)]) rfl ?_
  refine z_loopE hx (fun s29 : Int32 × (Nat → Int32) => [(0, .ref aO), (1, .ref aN), (2, .int s29.1)]) (fun s29 : Int32 × (Nat → Int32) => [(aO, .inr (4, [.ref aOr, .ref aOx, .int 0])), (aOr, .inl (K.2 0, 12, .inl oR)), (aOx, .inl (K.2 0, 13, .inl s29.2)), (aN, .inr (3, [.ref aNk, .ref aNn, .int nS])), (aNk, .inl (K.2 0, 12, .inl nK)), (aNn, .inl (K.2 0, 12, .inl nN))]) (fun p47 : Int32 × (Nat → Int32) × (Nat → Int32) => ∀ (pc : Nat) (lv : zL), decode cX4_find pc = .ok (.return_, 1) → zj G pc lv [] [(aO, .inr (4, [.ref aOr, .ref aOx, .int p47.1])), (aOr, .inl (K.2 0, 12, .inl p47.2.1)), (aOx, .inl (K.2 0, 13, .inl p47.2.2)), (aN, .inr (3, [.ref aNk, .ref aNn, .int nS])), (aNk, .inl (K.2 0, 12, .inl nK)), (aNn, .inl (K.2 0, 12, .inl nN))] 0 0) (fun e31 : Int32 × (Nat → Int32) => zj G 65 [(0, .ref aO), (1, .ref aN), (2, .int e31.1)] [] [(aO, .inr (4, [.ref aOr, .ref aOx, .int 0])), (aOr, .inl (K.2 0, 12, .inl oR)), (aOx, .inl (K.2 0, 13, .inl e31.2)), (aN, .inr (3, [.ref aNk, .ref aNn, .int nS])), (aNk, .inl (K.2 0, 12, .inl nK)), (aNn, .inl (K.2 0, 12, .inl nN))] 0 0) (fun p47 hp => ?_) (fun e31 hp => ?_) ?_
  · subst hp
    replace hres := z_eliml hres
    obtain rfl := Option.some.inj hres
    exact hR
  · subst hp
    replace hres := z_elimr hres
    obtain rfl := Option.some.inj hres
    exact (hR _ _ dX4_find_65)
  · intro s29 w30 hres hX1 hX2 hB
    unfold sX4_find_7 at hres
    refine z_iload_n hG dX4_find_7 2 rfl ?_
    refine z_aload_n hG dX4_find_8 1 rfl ?_
    refine z_get (ci := 3) (C := RX3) (T := TX3) (N := 3) hG dX4_find_9 iX4_find_X3 2 (by decide) mX4_find_2 rfl rfl 3 rfl rfl ?_
    refine z_icmp_gt 65 hG dX4_find_12 (by decide) (fun c => ?_) (fun c => ?_)
    · replace hres := z_ifp c hres
      exact (hX2 (s29.1, s29.2) (Option.some.inj hres).symm)
    · replace hres := z_ifn c hres
      refine z_iconst 0 hG dX4_find_15 (by decide) ?_
      refine z_istore_n (lv' := [(3, .int 0), (0, .ref aO), (1, .ref aN), (2, .int s29.1)]) hG dX4_find_16 (by decide) rfl ?_
      obtain ⟨e41, hx, hres⟩ := z_bind hres
      refine z_lv [1, 2, 3, 0] (lv' := [(0, .ref aO), (1, .ref aN), (2, .int s29.1), (3, .int 0)]) rfl ?_
      refine z_loopE hx (fun s39 : Int32 × (Nat → Int32) => [(0, .ref aO), (1, .ref aN), (2, .int s29.1), (3, .int s39.1)]) (fun s39 : Int32 × (Nat → Int32) => [(aO, .inr (4, [.ref aOr, .ref aOx, .int 0])), (aOr, .inl (K.2 0, 12, .inl oR)), (aOx, .inl (K.2 0, 13, .inl s39.2)), (aN, .inr (3, [.ref aNk, .ref aNn, .int nS])), (aNk, .inl (K.2 0, 12, .inl nK)), (aNn, .inl (K.2 0, 12, .inl nN))]) (fun p46 : Int32 × (Nat → Int32) × (Nat → Int32) => ∀ (pc : Nat) (lv : zL), decode cX4_find pc = .ok (.return_, 1) → zj G pc lv [] [(aO, .inr (4, [.ref aOr, .ref aOx, .int p46.1])), (aOr, .inl (K.2 0, 12, .inl p46.2.1)), (aOx, .inl (K.2 0, 13, .inl p46.2.2)), (aN, .inr (3, [.ref aNk, .ref aNn, .int nS])), (aNk, .inl (K.2 0, 12, .inl nK)), (aNn, .inl (K.2 0, 12, .inl nN))] 0 0) (fun e41 : Int32 × (Nat → Int32) => zj G 59 [(0, .ref aO), (1, .ref aN), (2, .int s29.1), (3, .int e41.1)] [] [(aO, .inr (4, [.ref aOr, .ref aOx, .int 0])), (aOr, .inl (K.2 0, 12, .inl oR)), (aOx, .inl (K.2 0, 13, .inl e41.2)), (aN, .inr (3, [.ref aNk, .ref aNn, .int nS])), (aNk, .inl (K.2 0, 12, .inl nK)), (aNn, .inl (K.2 0, 12, .inl nN))] 0 0) (fun p46 hp => ?_) (fun e41 hp => ?_) ?_
      · subst hp
        replace hres := z_eliml hres
        exact hX1 _ (Option.some.inj hres).symm
      · subst hp
        replace hres := z_elimr hres
        refine z_iinc (s29.1 + 2) (lv' := [(2, .int (s29.1 + 2)), (0, .ref aO), (1, .ref aN), (3, .int e41.1)]) hG dX4_find_59 2 rfl rfl (by decide) rfl ?_
        refine z_goto 7 hG dX4_find_62 (by decide) ?_
        exact (z_lv [1, 2, 0] rfl (hB ((s29.1 + 2), e41.2) (Option.some.inj hres).symm))
      · intro s39 w40 hres hX1 hX2 hB
        unfold sX4_find_17 at hres
        refine z_iload_n hG dX4_find_17 3 rfl ?_
        refine z_aload_n hG dX4_find_18 1 rfl ?_
        refine z_get (ci := 3) (C := RX3) (T := TX3) (N := 3) hG dX4_find_19 iX4_find_X3 2 (by decide) mX4_find_2 rfl rfl 3 rfl rfl ?_
        refine z_icmp_ge 59 hG dX4_find_22 (by decide) (fun c => ?_) (fun c => ?_)
        · replace hres := z_ifp c hres
          exact (hX2 (s39.1, s39.2) (Option.some.inj hres).symm)
        · replace hres := z_ifn c hres
          refine z_aload_n hG dX4_find_25 0 rfl ?_
          refine z_aload_n hG dX4_find_26 1 rfl ?_
          refine z_iload_n hG dX4_find_27 3 rfl ?_
          refine z_iload_n hG dX4_find_28 2 rfl ?_
          obtain ⟨v43, hv, hres⟩ := z_bind hres
          refine z_callV (As := [.ref aN, .int s39.1, .int s29.1]) (rest := []) (wr := ([] : va_W)) (ws' := (fun _ : Unit => [(aO, .inr (4, [.ref aOr, .ref aOx, .int 0])), (aOr, .inl (K.2 0, 12, .inl oR)), (aOx, .inl (K.2 0, 13, .inl v43)), (aN, .inr (3, [.ref aNk, .ref aNn, .int nS])), (aNk, .inl (K.2 0, 12, .inl nK)), (aNn, .inl (K.2 0, 12, .inl nN))])) (stk := (fun _ : Unit => [])) (kc' := 0) (ks' := 0) (n := 3) (C := RX4) (ci := 4) hG dX4_find_29 (kX4_reachBack _ K aO aOr aOx aN aNk aNn 0 oR s39.2 nS nK nN s39.1 s29.1 v43 hv) gX4_find_X4_reachBack rfl rfl rfl ⟨rfl, by decide, by decide, rfl⟩ ⟨by decide, by decide⟩ (Nat.le_of_ble_eq_true rfl) ⟨(Nat.le_of_ble_eq_true rfl), (Nat.le_of_ble_eq_true rfl)⟩ [0, 1, 2, 3, 4, 5] [] [0, 1, 2, 3, 4, 5] rfl rfl rfl rfl (by decide) rfl (fun _ => rfl) (fun _ => rfl) rfl rfl rfl 0 rfl rfl rfl rfl (fun _ => ?_)
          refine z_aload_n hG dX4_find_32 0 rfl ?_
          refine z_get (ci := 4) (C := RX4) (T := TX4) (N := 3) hG dX4_find_33 iX4_find_X4 1 (by decide) mX4_find_4 rfl rfl 0 rfl rfl ?_
          refine z_iload_n hG dX4_find_36 2 rfl ?_
          obtain ⟨hg, hres⟩ := z_guard hres
          refine z_iald hG dX4_find_37 2 rfl hg ?_
          refine z_iload_n hG dX4_find_38 3 rfl ?_
          obtain ⟨v44, hv, hres⟩ := z_bind hres
          refine z_callSN (As := [.int (v43 s29.1.toNatClampNeg), .int s39.1]) (rest := []) (wr := [(aO, .inr (4, [.ref aOr, .ref aOx, .int 0])), (aOr, .inl (K.2 0, 12, .inl oR)), (aOx, .inl (K.2 0, 13, .inl v43)), (aN, .inr (3, [.ref aNk, .ref aNn, .int nS])), (aNk, .inl (K.2 0, 12, .inl nK)), (aNn, .inl (K.2 0, 12, .inl nN))]) (ws' := (fun _ : Unit => [(aO, .inr (4, [.ref aOr, .ref aOx, .int 0])), (aOr, .inl (K.2 0, 12, .inl oR)), (aOx, .inl (K.2 0, 13, .inl v43)), (aN, .inr (3, [.ref aNk, .ref aNn, .int nS])), (aNk, .inl (K.2 0, 12, .inl nK)), (aNn, .inl (K.2 0, 12, .inl nN))])) (stk := (fun _ : Unit => [.int v44])) (kc' := 0) (ks' := 0) (n := 2) (host := RX5) hG dX4_find_39 (kX5_hasBit _ K (v43 s29.1.toNatClampNeg) s39.1 v44 hv) gX4_find_X5_hasBit_n29 rfl rfl rfl ⟨by decide, by decide, rfl⟩ ⟨by decide, by decide⟩ (Nat.le_of_ble_eq_true rfl) ⟨(Nat.le_of_ble_eq_true rfl), (Nat.le_of_ble_eq_true rfl)⟩ [] [0, 1, 2, 3, 4, 5] [0, 1, 2, 3, 4, 5] rfl rfl rfl rfl (by decide) rfl (fun _ => rfl) (fun _ => rfl) rfl (fun h => h.2.1) mX4_find_5 mX4_find_6 rfl rfl rfl (fun _ => ?_)
          refine z_if_eq 53 hG dX4_find_42 (by decide) (fun c => ?_) (fun c => ?_)
          · replace hres := z_ifp c hres
            refine z_iinc (s39.1 + 1) (lv' := [(3, .int (s39.1 + 1)), (0, .ref aO), (1, .ref aN), (2, .int s29.1)]) hG dX4_find_53 3 rfl rfl (by decide) rfl ?_
            refine z_goto 17 hG dX4_find_56 (by decide) ?_
            exact (z_lv [1, 2, 3, 0] rfl (hB ((s39.1 + 1), v43) (Option.some.inj hres).symm))
          · replace hres := z_ifn c hres
            refine z_aload_n hG dX4_find_45 0 rfl ?_
            refine z_aload_n hG dX4_find_46 1 rfl ?_
            refine z_iload_n hG dX4_find_47 3 rfl ?_
            refine z_iload_n hG dX4_find_48 2 rfl ?_
            obtain ⟨v45, hv, hres⟩ := z_bind hres
            refine z_callV (As := [.ref aN, .int s39.1, .int s29.1]) (rest := []) (wr := ([] : va_W)) (ws' := (fun _ : Unit => [(aO, .inr (4, [.ref aOr, .ref aOx, .int v45.1])), (aOr, .inl (K.2 0, 12, .inl v45.2)), (aOx, .inl (K.2 0, 13, .inl v43)), (aN, .inr (3, [.ref aNk, .ref aNn, .int nS])), (aNk, .inl (K.2 0, 12, .inl nK)), (aNn, .inl (K.2 0, 12, .inl nN))])) (stk := (fun _ : Unit => [])) (kc' := 0) (ks' := 0) (n := 3) (C := RX4) (ci := 4) hG dX4_find_49 (kX4_follow _ K aO aOr aOx aN aNk aNn 0 oR v43 nS nK nN s39.1 s29.1 v45 hv) gX4_find_X4_follow rfl rfl rfl ⟨rfl, by decide, by decide, rfl⟩ ⟨by decide, by decide⟩ (Nat.le_of_ble_eq_true rfl) ⟨(Nat.le_of_ble_eq_true rfl), (Nat.le_of_ble_eq_true rfl)⟩ [0, 1, 2, 3, 4, 5] [] [0, 1, 2, 3, 4, 5] rfl rfl rfl rfl (by decide) rfl (fun _ => rfl) (fun _ => rfl) rfl rfl rfl 0 rfl rfl rfl rfl (fun _ => ?_)
            exact (hX1 (v45.1, v45.2, v43) (Option.some.inj hres).symm _ _ dX4_find_52)

theorem dX4_isOdd_0 : decode cX4_isOdd 0 = .ok (.aload_n 0, 1) := by decide +kernel
theorem dX4_isOdd_1 : decode cX4_isOdd 1 = .ok (.getfield 18, 3) := by decide +kernel
theorem dX4_isOdd_4 : decode cX4_isOdd 4 = .ok (.iconst 3, 1) := by decide +kernel
theorem dX4_isOdd_5 : decode cX4_isOdd 5 = .ok (.if_icmp .lt 17, 3) := by decide +kernel
theorem dX4_isOdd_8 : decode cX4_isOdd 8 = .ok (.aload_n 0, 1) := by decide +kernel
theorem dX4_isOdd_9 : decode cX4_isOdd 9 = .ok (.getfield 18, 3) := by decide +kernel
theorem dX4_isOdd_12 : decode cX4_isOdd 12 = .ok (.iconst 1, 1) := by decide +kernel
theorem dX4_isOdd_13 : decode cX4_isOdd 13 = .ok (.iand, 1) := by decide +kernel
theorem dX4_isOdd_14 : decode cX4_isOdd 14 = .ok (.iconst 1, 1) := by decide +kernel
theorem dX4_isOdd_15 : decode cX4_isOdd 15 = .ok (.if_icmp .ne 7, 3) := by decide +kernel
theorem dX4_isOdd_18 : decode cX4_isOdd 18 = .ok (.iconst 1, 1) := by decide +kernel
theorem dX4_isOdd_19 : decode cX4_isOdd 19 = .ok (.goto 4, 3) := by decide +kernel
theorem dX4_isOdd_22 : decode cX4_isOdd 22 = .ok (.iconst 0, 1) := by decide +kernel
theorem dX4_isOdd_23 : decode cX4_isOdd 23 = .ok (.ireturn, 1) := by decide +kernel
theorem mX4_isOdd_0 : Cond.fieldLink RX4 18 "Layerways$OddRing" "size" "I" ∈ wsX4_isOdd := by decide +kernel
theorem iX4_isOdd_X4 : ∀ w ∈ u_ws RX4 TX4 3, w ∈ wsX4_isOdd := by decide +kernel
def fX4_isOdd (oS : Int32) : Option (Int32) := if oS < 3 then some 0 else if (oS &&& 1) = 1 then some 1 else some 0
set_option maxRecDepth 100000 in
set_option maxHeartbeats 4000000 in
theorem kX4_isOdd (l : Launch) (K : zK) (aO : Nat) (aOr : Nat) (aOx : Nat)  (oS : Int32) (oR : (Nat → Int32)) (oX : (Nat → Int32)) (r : Int32) (hres : fX4_isOdd oS = some r) : zM l K yX4_isOdd wsX4_isOdd ({ frames := 0, cells := 0, slots := 0, locals := 0 }) [.ref aO] [(aO, .inr (4, [.ref aOr, .ref aOx, .int oS])), (aOr, .inl (K.2 0, 12, .inl oR)), (aOx, .inl (K.2 0, 13, .inl oX))] (fun _ : Unit => some (.int r)) (fun _ : Unit => [(aO, .inr (4, [.ref aOr, .ref aOx, .int oS])), (aOr, .inl (K.2 0, 12, .inl oR)), (aOx, .inl (K.2 0, 13, .inl oX))]) 0 0 := by
  refine zM.intZ (cc := cX4_isOdd) (maxL := 1) (ret := (some .boolean)) rfl (by decide) (Nat.le_of_ble_eq_true rfl) rfl ?_
  intro G hGl hG hN hE
  have hR : ∀ (pc : Nat) (lv : zL), narrow .boolean (.int r) = .int r → decode cX4_isOdd pc = .ok (.ireturn, 1) → zj G pc lv [.int r] [(aO, .inr (4, [.ref aOr, .ref aOx, .int oS])), (aOr, .inl (K.2 0, 12, .inl oR)), (aOx, .inl (K.2 0, 13, .inl oX))] 0 0 := fun pc lv n d => hE () _ rfl n pc lv d
  clear hE
  unfold fX4_isOdd at hres
  show zj G 0 [(0, .ref aO)] [] [(aO, .inr (4, [.ref aOr, .ref aOx, .int oS])), (aOr, .inl (K.2 0, 12, .inl oR)), (aOx, .inl (K.2 0, 13, .inl oX))] 0 0
  refine z_aload_n hG dX4_isOdd_0 0 rfl ?_
  refine z_get (ci := 4) (C := RX4) (T := TX4) (N := 3) hG dX4_isOdd_1 iX4_isOdd_X4 2 (by decide) mX4_isOdd_0 rfl rfl 0 rfl rfl ?_
  refine z_iconst 3 hG dX4_isOdd_4 (by decide) ?_
  refine z_icmp_lt 22 hG dX4_isOdd_5 (by decide) (fun c => ?_) (fun c => ?_)
  · replace hres := z_ifp c hres
    refine z_iconst 0 hG dX4_isOdd_22 (by decide) ?_
    obtain rfl := Option.some.inj hres
    exact (hR _ _ (z_nar01 (Or.inl rfl)) dX4_isOdd_23)
  · replace hres := z_ifn c hres
    refine z_aload_n hG dX4_isOdd_8 0 rfl ?_
    refine z_get (ci := 4) (C := RX4) (T := TX4) (N := 3) hG dX4_isOdd_9 iX4_isOdd_X4 2 (by decide) mX4_isOdd_0 rfl rfl 0 rfl rfl ?_
    refine z_iconst 1 hG dX4_isOdd_12 (by decide) ?_
    refine z_iand hG dX4_isOdd_13 ?_
    refine z_iconst 1 hG dX4_isOdd_14 (by decide) ?_
    refine z_icmp_ne 22 hG dX4_isOdd_15 (by decide) (fun c => ?_) (fun c => ?_)
    · replace hres := z_ifn c hres
      refine z_iconst 0 hG dX4_isOdd_22 (by decide) ?_
      obtain rfl := Option.some.inj hres
      exact (hR _ _ (z_nar01 (Or.inl rfl)) dX4_isOdd_23)
    · replace hres := z_ifp c hres
      refine z_iconst 1 hG dX4_isOdd_18 (by decide) ?_
      refine z_goto 23 hG dX4_isOdd_19 (by decide) ?_
      obtain rfl := Option.some.inj hres
      exact (hR _ _ (z_nar01 (Or.inr rfl)) dX4_isOdd_23)

theorem dX4_isUnlike_0 : decode cX4_isUnlike 0 = .ok (.iconst 0, 1) := by decide +kernel
theorem dX4_isUnlike_1 : decode cX4_isUnlike 1 = .ok (.istore_n 1, 1) := by decide +kernel
theorem dX4_isUnlike_2 : decode cX4_isUnlike 2 = .ok (.iload_n 1, 1) := by decide +kernel
theorem dX4_isUnlike_3 : decode cX4_isUnlike 3 = .ok (.aload_n 0, 1) := by decide +kernel
theorem dX4_isUnlike_4 : decode cX4_isUnlike 4 = .ok (.getfield 18, 3) := by decide +kernel
theorem dX4_isUnlike_7 : decode cX4_isUnlike 7 = .ok (.if_icmp .ge 39, 3) := by decide +kernel
theorem dX4_isUnlike_10 : decode cX4_isUnlike 10 = .ok (.iconst 0, 1) := by decide +kernel
theorem dX4_isUnlike_11 : decode cX4_isUnlike 11 = .ok (.istore_n 2, 1) := by decide +kernel
theorem dX4_isUnlike_12 : decode cX4_isUnlike 12 = .ok (.iload_n 2, 1) := by decide +kernel
theorem dX4_isUnlike_13 : decode cX4_isUnlike 13 = .ok (.iload_n 1, 1) := by decide +kernel
theorem dX4_isUnlike_14 : decode cX4_isUnlike 14 = .ok (.if_icmp .ge 26, 3) := by decide +kernel
theorem dX4_isUnlike_17 : decode cX4_isUnlike 17 = .ok (.aload_n 0, 1) := by decide +kernel
theorem dX4_isUnlike_18 : decode cX4_isUnlike 18 = .ok (.getfield 9, 3) := by decide +kernel
theorem dX4_isUnlike_21 : decode cX4_isUnlike 21 = .ok (.iload_n 1, 1) := by decide +kernel
theorem dX4_isUnlike_22 : decode cX4_isUnlike 22 = .ok (.iaload, 1) := by decide +kernel
theorem dX4_isUnlike_23 : decode cX4_isUnlike 23 = .ok (.aload_n 0, 1) := by decide +kernel
theorem dX4_isUnlike_24 : decode cX4_isUnlike 24 = .ok (.getfield 9, 3) := by decide +kernel
theorem dX4_isUnlike_27 : decode cX4_isUnlike 27 = .ok (.iload_n 2, 1) := by decide +kernel
theorem dX4_isUnlike_28 : decode cX4_isUnlike 28 = .ok (.iaload, 1) := by decide +kernel
theorem dX4_isUnlike_29 : decode cX4_isUnlike 29 = .ok (.if_icmp .ne 5, 3) := by decide +kernel
theorem dX4_isUnlike_32 : decode cX4_isUnlike 32 = .ok (.iconst 0, 1) := by decide +kernel
theorem dX4_isUnlike_33 : decode cX4_isUnlike 33 = .ok (.ireturn, 1) := by decide +kernel
theorem dX4_isUnlike_34 : decode cX4_isUnlike 34 = .ok (.iinc 2 1, 3) := by decide +kernel
theorem dX4_isUnlike_37 : decode cX4_isUnlike 37 = .ok (.goto (-25), 3) := by decide +kernel
theorem dX4_isUnlike_40 : decode cX4_isUnlike 40 = .ok (.iinc 1 1, 3) := by decide +kernel
theorem dX4_isUnlike_43 : decode cX4_isUnlike 43 = .ok (.goto (-41), 3) := by decide +kernel
theorem dX4_isUnlike_46 : decode cX4_isUnlike 46 = .ok (.iconst 1, 1) := by decide +kernel
theorem dX4_isUnlike_47 : decode cX4_isUnlike 47 = .ok (.ireturn, 1) := by decide +kernel
theorem mX4_isUnlike_0 : Cond.fieldLink RX4 18 "Layerways$OddRing" "size" "I" ∈ wsX4_isUnlike := by decide +kernel
theorem iX4_isUnlike_X4 : ∀ w ∈ u_ws RX4 TX4 3, w ∈ wsX4_isUnlike := by decide +kernel
theorem mX4_isUnlike_2 : Cond.fieldLink RX4 9 "Layerways$OddRing" "row" "[I" ∈ wsX4_isUnlike := by decide +kernel
def sX4_isUnlike_12 (oR : (Nat → Int32)) (s10 : Int32) (s14 : Int32) : Option ((Int32 ⊕ Int32) ⊕ Int32) := if s10 ≤ s14 then some (.inl (.inr s14)) else if zin s10 12 then if zin s14 12 then if (oR s10.toNatClampNeg) = (oR s14.toNatClampNeg) then some (.inl (.inl 0)) else some (.inr (s14 + 1)) else none else none
def sX4_isUnlike_2 (oS : Int32) (oR : (Nat → Int32)) (s10 : Int32) : Option ((Int32 ⊕ Int32) ⊕ Int32) := if oS ≤ s10 then some (.inl (.inr s10)) else (zloop (sX4_isUnlike_12 oR s10) 32 0).bind fun e16 => Sum.elim (fun p18 : Int32 => some (.inl (.inl p18))) (fun e16 : Int32 => some (.inr (s10 + 1))) e16
def fX4_isUnlike (oS : Int32) (oR : (Nat → Int32)) : Option (Int32) := (zloop (sX4_isUnlike_2 oS oR) 32 0).bind fun e12 => Sum.elim (fun p19 : Int32 => some p19) (fun e12 : Int32 => some 1) e12
set_option maxRecDepth 100000 in
set_option maxHeartbeats 4000000 in
theorem kX4_isUnlike (l : Launch) (K : zK) (aO : Nat) (aOr : Nat) (aOx : Nat)  (oS : Int32) (oR : (Nat → Int32)) (oX : (Nat → Int32)) (r : Int32) (hres : fX4_isUnlike oS oR = some r) : zM l K yX4_isUnlike wsX4_isUnlike ({ frames := 0, cells := 0, slots := 0, locals := 0 }) [.ref aO] [(aO, .inr (4, [.ref aOr, .ref aOx, .int oS])), (aOr, .inl (K.2 0, 12, .inl oR)), (aOx, .inl (K.2 0, 13, .inl oX))] (fun _ : Unit => some (.int r)) (fun _ : Unit => [(aO, .inr (4, [.ref aOr, .ref aOx, .int oS])), (aOr, .inl (K.2 0, 12, .inl oR)), (aOx, .inl (K.2 0, 13, .inl oX))]) 0 0 := by
  refine zM.intZ (cc := cX4_isUnlike) (maxL := 3) (ret := (some .boolean)) rfl (by decide) (Nat.le_of_ble_eq_true rfl) rfl ?_
  intro G hGl hG hN hE
  have hR : ∀ (pc : Nat) (lv : zL), narrow .boolean (.int r) = .int r → decode cX4_isUnlike pc = .ok (.ireturn, 1) → zj G pc lv [.int r] [(aO, .inr (4, [.ref aOr, .ref aOx, .int oS])), (aOr, .inl (K.2 0, 12, .inl oR)), (aOx, .inl (K.2 0, 13, .inl oX))] 0 0 := fun pc lv n d => hE () _ rfl n pc lv d
  clear hE
  unfold fX4_isUnlike at hres
  show zj G 0 [(0, .ref aO)] [] [(aO, .inr (4, [.ref aOr, .ref aOx, .int oS])), (aOr, .inl (K.2 0, 12, .inl oR)), (aOx, .inl (K.2 0, 13, .inl oX))] 0 0
  refine z_iconst 0 hG dX4_isUnlike_0 (by decide) ?_
  refine z_istore_n (lv' := [(1, .int 0), (0, .ref aO)]) hG dX4_isUnlike_1 (by decide) rfl ?_
  obtain ⟨e12, hx, hres⟩ := z_bind hres
  refine z_lv [1, 0] (lv' := [(0, .ref aO), (1, .int 0)]) rfl ?_
  refine z_loopE hx (fun s10 : Int32 => [(0, .ref aO), (1, .int s10)]) (fun s10 : Int32 => [(aO, .inr (4, [.ref aOr, .ref aOx, .int oS])), (aOr, .inl (K.2 0, 12, .inl oR)), (aOx, .inl (K.2 0, 13, .inl oX))]) (fun p19 : Int32 => ∀ (pc : Nat) (lv : zL), narrow .boolean (.int p19) = .int p19 → decode cX4_isUnlike pc = .ok (.ireturn, 1) → zj G pc lv [.int p19] [(aO, .inr (4, [.ref aOr, .ref aOx, .int oS])), (aOr, .inl (K.2 0, 12, .inl oR)), (aOx, .inl (K.2 0, 13, .inl oX))] 0 0) (fun e12 : Int32 => zj G 46 [(0, .ref aO), (1, .int e12)] [] [(aO, .inr (4, [.ref aOr, .ref aOx, .int oS])), (aOr, .inl (K.2 0, 12, .inl oR)), (aOx, .inl (K.2 0, 13, .inl oX))] 0 0) (fun p19 hp => ?_) (fun e12 hp => ?_) ?_
  · subst hp
    replace hres := z_eliml hres
    obtain rfl := Option.some.inj hres
    exact hR
  · subst hp
    replace hres := z_elimr hres
    refine z_iconst 1 hG dX4_isUnlike_46 (by decide) ?_
    obtain rfl := Option.some.inj hres
    exact (hR _ _ (z_nar01 (Or.inr rfl)) dX4_isUnlike_47)
  · intro s10 w11 hres hX1 hX2 hB
    unfold sX4_isUnlike_2 at hres
    refine z_iload_n hG dX4_isUnlike_2 1 rfl ?_
    refine z_aload_n hG dX4_isUnlike_3 0 rfl ?_
    refine z_get (ci := 4) (C := RX4) (T := TX4) (N := 3) hG dX4_isUnlike_4 iX4_isUnlike_X4 2 (by decide) mX4_isUnlike_0 rfl rfl 0 rfl rfl ?_
    refine z_icmp_ge 46 hG dX4_isUnlike_7 (by decide) (fun c => ?_) (fun c => ?_)
    · replace hres := z_ifp c hres
      exact (hX2 s10 (Option.some.inj hres).symm)
    · replace hres := z_ifn c hres
      refine z_iconst 0 hG dX4_isUnlike_10 (by decide) ?_
      refine z_istore_n (lv' := [(2, .int 0), (0, .ref aO), (1, .int s10)]) hG dX4_isUnlike_11 (by decide) rfl ?_
      obtain ⟨e16, hx, hres⟩ := z_bind hres
      refine z_lv [1, 2, 0] (lv' := [(0, .ref aO), (1, .int s10), (2, .int 0)]) rfl ?_
      refine z_loopE hx (fun s14 : Int32 => [(0, .ref aO), (1, .int s10), (2, .int s14)]) (fun s14 : Int32 => [(aO, .inr (4, [.ref aOr, .ref aOx, .int oS])), (aOr, .inl (K.2 0, 12, .inl oR)), (aOx, .inl (K.2 0, 13, .inl oX))]) (fun p18 : Int32 => ∀ (pc : Nat) (lv : zL), narrow .boolean (.int p18) = .int p18 → decode cX4_isUnlike pc = .ok (.ireturn, 1) → zj G pc lv [.int p18] [(aO, .inr (4, [.ref aOr, .ref aOx, .int oS])), (aOr, .inl (K.2 0, 12, .inl oR)), (aOx, .inl (K.2 0, 13, .inl oX))] 0 0) (fun e16 : Int32 => zj G 40 [(0, .ref aO), (1, .int s10), (2, .int e16)] [] [(aO, .inr (4, [.ref aOr, .ref aOx, .int oS])), (aOr, .inl (K.2 0, 12, .inl oR)), (aOx, .inl (K.2 0, 13, .inl oX))] 0 0) (fun p18 hp => ?_) (fun e16 hp => ?_) ?_
      · subst hp
        replace hres := z_eliml hres
        exact hX1 _ (Option.some.inj hres).symm
      · subst hp
        replace hres := z_elimr hres
        refine z_iinc (s10 + 1) (lv' := [(1, .int (s10 + 1)), (0, .ref aO), (2, .int e16)]) hG dX4_isUnlike_40 1 rfl rfl (by decide) rfl ?_
        refine z_goto 2 hG dX4_isUnlike_43 (by decide) ?_
        exact (z_lv [1, 0] rfl (hB (s10 + 1) (Option.some.inj hres).symm))
      · intro s14 w15 hres hX1 hX2 hB
        unfold sX4_isUnlike_12 at hres
        refine z_iload_n hG dX4_isUnlike_12 2 rfl ?_
        refine z_iload_n hG dX4_isUnlike_13 1 rfl ?_
        refine z_icmp_ge 40 hG dX4_isUnlike_14 (by decide) (fun c => ?_) (fun c => ?_)
        · replace hres := z_ifp c hres
          exact (hX2 s14 (Option.some.inj hres).symm)
        · replace hres := z_ifn c hres
          refine z_aload_n hG dX4_isUnlike_17 0 rfl ?_
          refine z_get (ci := 4) (C := RX4) (T := TX4) (N := 3) hG dX4_isUnlike_18 iX4_isUnlike_X4 0 (by decide) mX4_isUnlike_2 rfl rfl 0 rfl rfl ?_
          refine z_iload_n hG dX4_isUnlike_21 1 rfl ?_
          obtain ⟨hg, hres⟩ := z_guard hres
          refine z_iald hG dX4_isUnlike_22 1 rfl hg ?_
          refine z_aload_n hG dX4_isUnlike_23 0 rfl ?_
          refine z_get (ci := 4) (C := RX4) (T := TX4) (N := 3) hG dX4_isUnlike_24 iX4_isUnlike_X4 0 (by decide) mX4_isUnlike_2 rfl rfl 0 rfl rfl ?_
          refine z_iload_n hG dX4_isUnlike_27 2 rfl ?_
          obtain ⟨hg, hres⟩ := z_guard hres
          refine z_iald hG dX4_isUnlike_28 1 rfl hg ?_
          refine z_icmp_ne 34 hG dX4_isUnlike_29 (by decide) (fun c => ?_) (fun c => ?_)
          · replace hres := z_ifn c hres
            refine z_iinc (s14 + 1) (lv' := [(2, .int (s14 + 1)), (0, .ref aO), (1, .int s10)]) hG dX4_isUnlike_34 2 rfl rfl (by decide) rfl ?_
            refine z_goto 12 hG dX4_isUnlike_37 (by decide) ?_
            exact (z_lv [1, 2, 0] rfl (hB (s14 + 1) (Option.some.inj hres).symm))
          · replace hres := z_ifp c hres
            refine z_iconst 0 hG dX4_isUnlike_32 (by decide) ?_
            exact (hX1 0 (Option.some.inj hres).symm _ _ (z_nar01 (Or.inl rfl)) dX4_isUnlike_33)
