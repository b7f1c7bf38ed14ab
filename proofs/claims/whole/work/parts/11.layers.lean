theorem dX2_visitNeighbours_0 : decode cX2_visitNeighbours 0 = .ok (.iconst 0, 1) := by decide +kernel
theorem dX2_visitNeighbours_1 : decode cX2_visitNeighbours 1 = .ok (.istore_n 3, 1) := by decide +kernel
theorem dX2_visitNeighbours_2 : decode cX2_visitNeighbours 2 = .ok (.iload_n 3, 1) := by decide +kernel
theorem dX2_visitNeighbours_3 : decode cX2_visitNeighbours 3 = .ok (.aload_n 1, 1) := by decide +kernel
theorem dX2_visitNeighbours_4 : decode cX2_visitNeighbours 4 = .ok (.getfield 25, 3) := by decide +kernel
theorem dX2_visitNeighbours_7 : decode cX2_visitNeighbours 7 = .ok (.if_icmp .ge 106, 3) := by decide +kernel
theorem dX2_visitNeighbours_10 : decode cX2_visitNeighbours 10 = .ok (.aload_n 1, 1) := by decide +kernel
theorem dX2_visitNeighbours_11 : decode cX2_visitNeighbours 11 = .ok (.iload_n 2, 1) := by decide +kernel
theorem dX2_visitNeighbours_12 : decode cX2_visitNeighbours 12 = .ok (.iload_n 3, 1) := by decide +kernel
theorem dX2_visitNeighbours_13 : decode cX2_visitNeighbours 13 = .ok (.invokevirtual 34, 3) := by decide +kernel
theorem dX2_visitNeighbours_16 : decode cX2_visitNeighbours 16 = .ok (.ifCond .ne 6, 3) := by decide +kernel
theorem dX2_visitNeighbours_19 : decode cX2_visitNeighbours 19 = .ok (.goto 88, 3) := by decide +kernel
theorem dX2_visitNeighbours_22 : decode cX2_visitNeighbours 22 = .ok (.aload_n 0, 1) := by decide +kernel
theorem dX2_visitNeighbours_23 : decode cX2_visitNeighbours 23 = .ok (.getfield 9, 3) := by decide +kernel
theorem dX2_visitNeighbours_26 : decode cX2_visitNeighbours 26 = .ok (.iload_n 3, 1) := by decide +kernel
theorem dX2_visitNeighbours_27 : decode cX2_visitNeighbours 27 = .ok (.iaload, 1) := by decide +kernel
theorem dX2_visitNeighbours_28 : decode cX2_visitNeighbours 28 = .ok (.iconst (-1), 1) := by decide +kernel
theorem dX2_visitNeighbours_29 : decode cX2_visitNeighbours 29 = .ok (.if_icmp .ne 46, 3) := by decide +kernel
theorem dX2_visitNeighbours_32 : decode cX2_visitNeighbours 32 = .ok (.aload_n 0, 1) := by decide +kernel
theorem dX2_visitNeighbours_33 : decode cX2_visitNeighbours 33 = .ok (.getfield 21, 3) := by decide +kernel
theorem dX2_visitNeighbours_36 : decode cX2_visitNeighbours 36 = .ok (.bipush 12, 2) := by decide +kernel
theorem dX2_visitNeighbours_38 : decode cX2_visitNeighbours 38 = .ok (.if_icmp .ge 37, 3) := by decide +kernel
theorem dX2_visitNeighbours_41 : decode cX2_visitNeighbours 41 = .ok (.aload_n 0, 1) := by decide +kernel
theorem dX2_visitNeighbours_42 : decode cX2_visitNeighbours 42 = .ok (.getfield 9, 3) := by decide +kernel
theorem dX2_visitNeighbours_45 : decode cX2_visitNeighbours 45 = .ok (.iload_n 3, 1) := by decide +kernel
theorem dX2_visitNeighbours_46 : decode cX2_visitNeighbours 46 = .ok (.aload_n 0, 1) := by decide +kernel
theorem dX2_visitNeighbours_47 : decode cX2_visitNeighbours 47 = .ok (.getfield 9, 3) := by decide +kernel
theorem dX2_visitNeighbours_50 : decode cX2_visitNeighbours 50 = .ok (.iload_n 2, 1) := by decide +kernel
theorem dX2_visitNeighbours_51 : decode cX2_visitNeighbours 51 = .ok (.iaload, 1) := by decide +kernel
theorem dX2_visitNeighbours_52 : decode cX2_visitNeighbours 52 = .ok (.iconst 1, 1) := by decide +kernel
theorem dX2_visitNeighbours_53 : decode cX2_visitNeighbours 53 = .ok (.iadd, 1) := by decide +kernel
theorem dX2_visitNeighbours_54 : decode cX2_visitNeighbours 54 = .ok (.iastore, 1) := by decide +kernel
theorem dX2_visitNeighbours_55 : decode cX2_visitNeighbours 55 = .ok (.aload_n 0, 1) := by decide +kernel
theorem dX2_visitNeighbours_56 : decode cX2_visitNeighbours 56 = .ok (.getfield 18, 3) := by decide +kernel
theorem dX2_visitNeighbours_59 : decode cX2_visitNeighbours 59 = .ok (.aload_n 0, 1) := by decide +kernel
theorem dX2_visitNeighbours_60 : decode cX2_visitNeighbours 60 = .ok (.getfield 21, 3) := by decide +kernel
theorem dX2_visitNeighbours_63 : decode cX2_visitNeighbours 63 = .ok (.iload_n 3, 1) := by decide +kernel
theorem dX2_visitNeighbours_64 : decode cX2_visitNeighbours 64 = .ok (.iastore, 1) := by decide +kernel
theorem dX2_visitNeighbours_65 : decode cX2_visitNeighbours 65 = .ok (.aload_n 0, 1) := by decide +kernel
theorem dX2_visitNeighbours_66 : decode cX2_visitNeighbours 66 = .ok (.dup, 1) := by decide +kernel
theorem dX2_visitNeighbours_67 : decode cX2_visitNeighbours 67 = .ok (.getfield 21, 3) := by decide +kernel
theorem dX2_visitNeighbours_70 : decode cX2_visitNeighbours 70 = .ok (.iconst 1, 1) := by decide +kernel
theorem dX2_visitNeighbours_71 : decode cX2_visitNeighbours 71 = .ok (.iadd, 1) := by decide +kernel
theorem dX2_visitNeighbours_72 : decode cX2_visitNeighbours 72 = .ok (.putfield 21, 3) := by decide +kernel
theorem dX2_visitNeighbours_75 : decode cX2_visitNeighbours 75 = .ok (.aload_n 0, 1) := by decide +kernel
theorem dX2_visitNeighbours_76 : decode cX2_visitNeighbours 76 = .ok (.getfield 9, 3) := by decide +kernel
theorem dX2_visitNeighbours_79 : decode cX2_visitNeighbours 79 = .ok (.iload_n 3, 1) := by decide +kernel
theorem dX2_visitNeighbours_80 : decode cX2_visitNeighbours 80 = .ok (.iaload, 1) := by decide +kernel
theorem dX2_visitNeighbours_81 : decode cX2_visitNeighbours 81 = .ok (.aload_n 0, 1) := by decide +kernel
theorem dX2_visitNeighbours_82 : decode cX2_visitNeighbours 82 = .ok (.getfield 9, 3) := by decide +kernel
theorem dX2_visitNeighbours_85 : decode cX2_visitNeighbours 85 = .ok (.iload_n 2, 1) := by decide +kernel
theorem dX2_visitNeighbours_86 : decode cX2_visitNeighbours 86 = .ok (.iaload, 1) := by decide +kernel
theorem dX2_visitNeighbours_87 : decode cX2_visitNeighbours 87 = .ok (.iconst 1, 1) := by decide +kernel
theorem dX2_visitNeighbours_88 : decode cX2_visitNeighbours 88 = .ok (.iadd, 1) := by decide +kernel
theorem dX2_visitNeighbours_89 : decode cX2_visitNeighbours 89 = .ok (.if_icmp .ne 18, 3) := by decide +kernel
theorem dX2_visitNeighbours_92 : decode cX2_visitNeighbours 92 = .ok (.aload_n 0, 1) := by decide +kernel
theorem dX2_visitNeighbours_93 : decode cX2_visitNeighbours 93 = .ok (.getfield 15, 3) := by decide +kernel
theorem dX2_visitNeighbours_96 : decode cX2_visitNeighbours 96 = .ok (.iload_n 3, 1) := by decide +kernel
theorem dX2_visitNeighbours_97 : decode cX2_visitNeighbours 97 = .ok (.dup2, 1) := by decide +kernel
theorem dX2_visitNeighbours_98 : decode cX2_visitNeighbours 98 = .ok (.iaload, 1) := by decide +kernel
theorem dX2_visitNeighbours_99 : decode cX2_visitNeighbours 99 = .ok (.aload_n 0, 1) := by decide +kernel
theorem dX2_visitNeighbours_100 : decode cX2_visitNeighbours 100 = .ok (.getfield 15, 3) := by decide +kernel
theorem dX2_visitNeighbours_103 : decode cX2_visitNeighbours 103 = .ok (.iload_n 2, 1) := by decide +kernel
theorem dX2_visitNeighbours_104 : decode cX2_visitNeighbours 104 = .ok (.iaload, 1) := by decide +kernel
theorem dX2_visitNeighbours_105 : decode cX2_visitNeighbours 105 = .ok (.iadd, 1) := by decide +kernel
theorem dX2_visitNeighbours_106 : decode cX2_visitNeighbours 106 = .ok (.iastore, 1) := by decide +kernel
theorem dX2_visitNeighbours_107 : decode cX2_visitNeighbours 107 = .ok (.iinc 3 1, 3) := by decide +kernel
theorem dX2_visitNeighbours_110 : decode cX2_visitNeighbours 110 = .ok (.goto (-108), 3) := by decide +kernel
theorem dX2_visitNeighbours_113 : decode cX2_visitNeighbours 113 = .ok (.return_, 1) := by decide +kernel
set_option maxRecDepth 20000 in
theorem ggX2_visitNeighbours_X3_joins : GoodIn wsX2_visitNeighbours wsX3_joins := goodIn_r _ [10, 11, 12, 13, 14, 15, 16, 17] (by decide +kernel) (by decide +kernel)
set_option maxRecDepth 20000 in
theorem gX2_visitNeighbours_X3_joins : GoodIn wsX2_visitNeighbours (wsV RX2 34 RX3 yX3_joins wsX3_joins) := goodIn_app (goodIn_of _ (by decide +kernel)) ggX2_visitNeighbours_X3_joins
theorem mX2_visitNeighbours_0 : Cond.fieldLink RX2 25 "Layerways$Net" "size" "I" ∈ wsX2_visitNeighbours := by decide +kernel
theorem iX2_visitNeighbours_X3 : ∀ w ∈ u_ws RX3 TX3 3, w ∈ wsX2_visitNeighbours := by decide +kernel
theorem mX2_visitNeighbours_2 : Cond.fieldLink RX2 9 "Layerways$Layers" "lengths" "[I" ∈ wsX2_visitNeighbours := by decide +kernel
theorem iX2_visitNeighbours_X2 : ∀ w ∈ u_ws RX2 TX2 4, w ∈ wsX2_visitNeighbours := by decide +kernel
theorem mX2_visitNeighbours_4 : Cond.fieldLink RX2 21 "Layerways$Layers" "come" "I" ∈ wsX2_visitNeighbours := by decide +kernel
theorem mX2_visitNeighbours_5 : Cond.fieldLink RX2 18 "Layerways$Layers" "queue" "[I" ∈ wsX2_visitNeighbours := by decide +kernel
theorem mX2_visitNeighbours_6 : Cond.fieldLink RX2 15 "Layerways$Layers" "counts" "[I" ∈ wsX2_visitNeighbours := by decide +kernel
def sX2_visitNeighbours_2 (nS : Int32) (nN : (Nat → Int32)) (p0 : Int32) (s5 : Int32 × Int32 × (Nat → Int32) × (Nat → Int32) × (Nat → Int32)) : Option ((Int32 × Int32 × (Nat → Int32) × (Nat → Int32) × (Nat → Int32)) ⊕ (Int32 × Int32 × (Nat → Int32) × (Nat → Int32) × (Nat → Int32))) := if nS ≤ s5.1 then some (.inl (s5.1, s5.2.1, s5.2.2.1, s5.2.2.2.1, s5.2.2.2.2)) else (fX3_joins nN p0 s5.1).bind fun v9 => if v9 = 0 then some (.inr ((s5.1 + 1), s5.2.1, s5.2.2.1, s5.2.2.2.1, s5.2.2.2.2)) else if zin s5.1 12 then ((if (s5.2.2.1 s5.1.toNatClampNeg) = (-1) then if 12 ≤ s5.2.1 then some (s5.2.1, s5.2.2.1, s5.2.2.2.2) else if zin p0 12 then if zin s5.1 12 then if zin s5.2.1 12 then some ((s5.2.1 + 1), (upd s5.2.2.1 s5.1.toNatClampNeg ((s5.2.2.1 p0.toNatClampNeg) + 1)), (upd s5.2.2.2.2 s5.2.1.toNatClampNeg s5.1)) else none else none else none else some (s5.2.1, s5.2.2.1, s5.2.2.2.2)) : Option (Int32 × (Nat → Int32) × (Nat → Int32))).bind fun v10 => if zin s5.1 12 then if zin p0 12 then if (v10.2.1 s5.1.toNatClampNeg) = ((v10.2.1 p0.toNatClampNeg) + 1) then if zin s5.1 12 then if zin p0 12 then if zin s5.1 12 then some (.inr ((s5.1 + 1), v10.1, v10.2.1, (upd s5.2.2.2.1 s5.1.toNatClampNeg ((s5.2.2.2.1 s5.1.toNatClampNeg) + (s5.2.2.2.1 p0.toNatClampNeg))), v10.2.2)) else none else none else none else some (.inr ((s5.1 + 1), v10.1, v10.2.1, s5.2.2.2.1, v10.2.2)) else none else none else none
def fX2_visitNeighbours (yM : Int32) (yL : (Nat → Int32)) (yC : (Nat → Int32)) (yQ : (Nat → Int32)) (nS : Int32) (nN : (Nat → Int32)) (p0 : Int32) : Option (Int32 × (Nat → Int32) × (Nat → Int32) × (Nat → Int32)) := (zloop (sX2_visitNeighbours_2 nS nN p0) 32 (0, yM, yL, yC, yQ)).bind fun e7 => some (e7.2.1, e7.2.2.1, e7.2.2.2.1, e7.2.2.2.2)
set_option maxRecDepth 100000 in
set_option maxHeartbeats 4000000 in
theorem kX2_visitNeighbours (l : Launch) (K : zK) (aY : Nat) (aYl : Nat) (aYc : Nat) (aYq : Nat) (aN : Nat) (aNk : Nat) (aNn : Nat)  (yM : Int32) (yL : (Nat → Int32)) (yC : (Nat → Int32)) (yQ : (Nat → Int32)) (nS : Int32) (nK : (Nat → Int32)) (nN : (Nat → Int32)) (p0 : Int32) (r : Int32 × (Nat → Int32) × (Nat → Int32) × (Nat → Int32)) (hres : fX2_visitNeighbours yM yL yC yQ nS nN p0 = some r) : zM l K yX2_visitNeighbours wsX2_visitNeighbours ({ frames := 2, cells := 0, slots := 0, locals := 43 }) [.ref aY, .ref aN, .int p0] [(aY, .inr (2, [.ref aYl, .ref aYc, .ref aYq, .int yM])), (aYl, .inl (K.2 0, 12, .inl yL)), (aYc, .inl (K.2 0, 12, .inl yC)), (aYq, .inl (K.2 0, 12, .inl yQ)), (aN, .inr (3, [.ref aNk, .ref aNn, .int nS])), (aNk, .inl (K.2 0, 12, .inl nK)), (aNn, .inl (K.2 0, 12, .inl nN))] (fun _ : Unit => none) (fun _ : Unit => [(aY, .inr (2, [.ref aYl, .ref aYc, .ref aYq, .int r.1])), (aYl, .inl (K.2 0, 12, .inl r.2.1)), (aYc, .inl (K.2 0, 12, .inl r.2.2.1)), (aYq, .inl (K.2 0, 12, .inl r.2.2.2)), (aN, .inr (3, [.ref aNk, .ref aNn, .int nS])), (aNk, .inl (K.2 0, 12, .inl nK)), (aNn, .inl (K.2 0, 12, .inl nN))]) 0 0 := by
  refine zM.intV (cc := cX2_visitNeighbours) (maxL := 4) (ret := none) rfl (by decide) (Nat.le_of_ble_eq_true rfl) rfl (fun _ => rfl) ?_
  intro G hGl hG hN hE
  have hR : ∀ (pc : Nat) (lv : zL), decode cX2_visitNeighbours pc = .ok (.return_, 1) → zj G pc lv [] [(aY, .inr (2, [.ref aYl, .ref aYc, .ref aYq, .int r.1])), (aYl, .inl (K.2 0, 12, .inl r.2.1)), (aYc, .inl (K.2 0, 12, .inl r.2.2.1)), (aYq, .inl (K.2 0, 12, .inl r.2.2.2)), (aN, .inr (3, [.ref aNk, .ref aNn, .int nS])), (aNk, .inl (K.2 0, 12, .inl nK)), (aNn, .inl (K.2 0, 12, .inl nN))] 0 0 := fun pc lv d => hE () pc lv d
  clear hE
  unfold fX2_visitNeighbours at hres
  show zj G 0 [(0, .ref aY), (1, .ref aN), (2, .int p0)] [] [(aY, .inr (2, [.ref aYl, .ref aYc, .ref aYq, .int yM])), (aYl, .inl (K.2 0, 12, .inl yL)), (aYc, .inl (K.2 0, 12, .inl yC)), (aYq, .inl (K.2 0, 12, .inl yQ)), (aN, .inr (3, [.ref aNk, .ref aNn, .int nS])), (aNk, .inl (K.2 0, 12, .inl nK)), (aNn, .inl (K.2 0, 12, .inl nN))] 0 0
  refine z_iconst 0 hG dX2_visitNeighbours_0 (by decide) ?_
  refine z_istore_n (lv' := [(3, .int 0), (0, .ref aY), (1, .ref aN), (2, .int p0)]) hG dX2_visitNeighbours_1 (by decide) rfl ?_
  obtain ⟨e7, hx, hres⟩ := z_bind hres
  refine z_lv [1, 2, 3, 0] (lv' := [(0, .ref aY), (1, .ref aN), (2, .int p0), (3, .int 0)]) rfl ?_
  refine z_loop hx (fun s5 : Int32 × Int32 × (Nat → Int32) × (Nat → Int32) × (Nat → Int32) => [(0, .ref aY), (1, .ref aN), (2, .int p0), (3, .int s5.1)]) (fun s5 : Int32 × Int32 × (Nat → Int32) × (Nat → Int32) × (Nat → Int32) => [(aY, .inr (2, [.ref aYl, .ref aYc, .ref aYq, .int s5.2.1])), (aYl, .inl (K.2 0, 12, .inl s5.2.2.1)), (aYc, .inl (K.2 0, 12, .inl s5.2.2.2.1)), (aYq, .inl (K.2 0, 12, .inl s5.2.2.2.2)), (aN, .inr (3, [.ref aNk, .ref aNn, .int nS])), (aNk, .inl (K.2 0, 12, .inl nK)), (aNn, .inl (K.2 0, 12, .inl nN))]) (fun e7 : Int32 × Int32 × (Nat → Int32) × (Nat → Int32) × (Nat → Int32) => zj G 113 [(0, .ref aY), (1, .ref aN), (2, .int p0), (3, .int e7.1)] [] [(aY, .inr (2, [.ref aYl, .ref aYc, .ref aYq, .int e7.2.1])), (aYl, .inl (K.2 0, 12, .inl e7.2.2.1)), (aYc, .inl (K.2 0, 12, .inl e7.2.2.2.1)), (aYq, .inl (K.2 0, 12, .inl e7.2.2.2.2)), (aN, .inr (3, [.ref aNk, .ref aNn, .int nS])), (aNk, .inl (K.2 0, 12, .inl nK)), (aNn, .inl (K.2 0, 12, .inl nN))] 0 0) ?_ ?_
  · obtain rfl := Option.some.inj hres
    exact (hR _ _ dX2_visitNeighbours_113)
  · intro s5 w6 hres hX hB
    unfold sX2_visitNeighbours_2 at hres
    refine z_iload_n hG dX2_visitNeighbours_2 3 rfl ?_
    refine z_aload_n hG dX2_visitNeighbours_3 1 rfl ?_
    refine z_get (ci := 3) (C := RX3) (T := TX3) (N := 3) hG dX2_visitNeighbours_4 iX2_visitNeighbours_X3 2 (by decide) mX2_visitNeighbours_0 rfl rfl 4 rfl rfl ?_
    refine z_icmp_ge 113 hG dX2_visitNeighbours_7 (by decide) (fun c => ?_) (fun c => ?_)
    · replace hres := z_ifp c hres
      exact (hX (s5.1, s5.2.1, s5.2.2.1, s5.2.2.2.1, s5.2.2.2.2) (Option.some.inj hres).symm)
    · replace hres := z_ifn c hres
      refine z_aload_n hG dX2_visitNeighbours_10 1 rfl ?_
      refine z_iload_n hG dX2_visitNeighbours_11 2 rfl ?_
      refine z_iload_n hG dX2_visitNeighbours_12 3 rfl ?_
      obtain ⟨v9, hv, hres⟩ := z_bind hres
      refine z_callV (As := [.int p0, .int s5.1]) (rest := []) (wr := [(aY, .inr (2, [.ref aYl, .ref aYc, .ref aYq, .int s5.2.1])), (aYl, .inl (K.2 0, 12, .inl s5.2.2.1)), (aYc, .inl (K.2 0, 12, .inl s5.2.2.2.1)), (aYq, .inl (K.2 0, 12, .inl s5.2.2.2.2))]) (ws' := (fun _ : Unit => [(aY, .inr (2, [.ref aYl, .ref aYc, .ref aYq, .int s5.2.1])), (aYl, .inl (K.2 0, 12, .inl s5.2.2.1)), (aYc, .inl (K.2 0, 12, .inl s5.2.2.2.1)), (aYq, .inl (K.2 0, 12, .inl s5.2.2.2.2)), (aN, .inr (3, [.ref aNk, .ref aNn, .int nS])), (aNk, .inl (K.2 0, 12, .inl nK)), (aNn, .inl (K.2 0, 12, .inl nN))])) (stk := (fun _ : Unit => [.int v9])) (kc' := 0) (ks' := 0) (n := 2) (C := RX3) (ci := 3) hG dX2_visitNeighbours_13 (kX3_joins _ K aN aNk aNn nS nK nN p0 s5.1 v9 hv) gX2_visitNeighbours_X3_joins rfl rfl rfl ⟨rfl, by decide, by decide, rfl⟩ ⟨by decide, by decide⟩ (Nat.le_of_ble_eq_true rfl) ⟨(Nat.le_of_ble_eq_true rfl), (Nat.le_of_ble_eq_true rfl)⟩ [4, 5, 6] [0, 1, 2, 3] [0, 1, 2, 3, 4, 5, 6] rfl rfl rfl rfl (by decide) rfl (fun _ => rfl) (fun _ => rfl) rfl rfl rfl 0 rfl rfl rfl rfl (fun _ => ?_)
      refine z_if_ne 22 hG dX2_visitNeighbours_16 (by decide) (fun c => ?_) (fun c => ?_)
      · replace hres := z_ifn c hres
        refine z_aload_n hG dX2_visitNeighbours_22 0 rfl ?_
        refine z_get (ci := 2) (C := RX2) (T := TX2) (N := 4) hG dX2_visitNeighbours_23 iX2_visitNeighbours_X2 0 (by decide) mX2_visitNeighbours_2 rfl rfl 0 rfl rfl ?_
        refine z_iload_n hG dX2_visitNeighbours_26 3 rfl ?_
        obtain ⟨hg, hres⟩ := z_guard hres
        refine z_iald hG dX2_visitNeighbours_27 1 rfl hg ?_
        refine z_iconst (-1) hG dX2_visitNeighbours_28 (by decide) ?_
        obtain ⟨v10, hv, hres⟩ := z_bind hres
        have J : zj G 75 [(0, .ref aY), (1, .ref aN), (2, .int p0), (3, .int s5.1)] [] [(aY, .inr (2, [.ref aYl, .ref aYc, .ref aYq, .int v10.1])), (aYl, .inl (K.2 0, 12, .inl v10.2.1)), (aYc, .inl (K.2 0, 12, .inl s5.2.2.2.1)), (aYq, .inl (K.2 0, 12, .inl v10.2.2)), (aN, .inr (3, [.ref aNk, .ref aNn, .int nS])), (aNk, .inl (K.2 0, 12, .inl nK)), (aNn, .inl (K.2 0, 12, .inl nN))] 0 0 := by
          refine z_aload_n hG dX2_visitNeighbours_75 0 rfl ?_
          refine z_get (ci := 2) (C := RX2) (T := TX2) (N := 4) hG dX2_visitNeighbours_76 iX2_visitNeighbours_X2 0 (by decide) mX2_visitNeighbours_2 rfl rfl 0 rfl rfl ?_
          refine z_iload_n hG dX2_visitNeighbours_79 3 rfl ?_
          obtain ⟨hg, hres⟩ := z_guard hres
          refine z_iald hG dX2_visitNeighbours_80 1 rfl hg ?_
          refine z_aload_n hG dX2_visitNeighbours_81 0 rfl ?_
          refine z_get (ci := 2) (C := RX2) (T := TX2) (N := 4) hG dX2_visitNeighbours_82 iX2_visitNeighbours_X2 0 (by decide) mX2_visitNeighbours_2 rfl rfl 0 rfl rfl ?_
          refine z_iload_n hG dX2_visitNeighbours_85 2 rfl ?_
          obtain ⟨hg, hres⟩ := z_guard hres
          refine z_iald hG dX2_visitNeighbours_86 1 rfl hg ?_
          refine z_iconst 1 hG dX2_visitNeighbours_87 (by decide) ?_
          refine z_iadd hG dX2_visitNeighbours_88 ?_
          refine z_icmp_ne 107 hG dX2_visitNeighbours_89 (by decide) (fun c => ?_) (fun c => ?_)
          · replace hres := z_ifn c hres
            refine z_iinc (s5.1 + 1) (lv' := [(3, .int (s5.1 + 1)), (0, .ref aY), (1, .ref aN), (2, .int p0)]) hG dX2_visitNeighbours_107 3 rfl rfl (by decide) rfl ?_
            refine z_goto 2 hG dX2_visitNeighbours_110 (by decide) ?_
            exact (z_lv [1, 2, 3, 0] rfl (hB ((s5.1 + 1), v10.1, v10.2.1, s5.2.2.2.1, v10.2.2) (Option.some.inj hres).symm))
          · replace hres := z_ifp c hres
            refine z_aload_n hG dX2_visitNeighbours_92 0 rfl ?_
            refine z_get (ci := 2) (C := RX2) (T := TX2) (N := 4) hG dX2_visitNeighbours_93 iX2_visitNeighbours_X2 1 (by decide) mX2_visitNeighbours_6 rfl rfl 0 rfl rfl ?_
            refine z_iload_n hG dX2_visitNeighbours_96 3 rfl ?_
            refine z_dup2 hG dX2_visitNeighbours_97 rfl rfl ?_
            obtain ⟨hg, hres⟩ := z_guard hres
            refine z_iald hG dX2_visitNeighbours_98 2 rfl hg ?_
            refine z_aload_n hG dX2_visitNeighbours_99 0 rfl ?_
            refine z_get (ci := 2) (C := RX2) (T := TX2) (N := 4) hG dX2_visitNeighbours_100 iX2_visitNeighbours_X2 1 (by decide) mX2_visitNeighbours_6 rfl rfl 0 rfl rfl ?_
            refine z_iload_n hG dX2_visitNeighbours_103 2 rfl ?_
            obtain ⟨hg, hres⟩ := z_guard hres
            refine z_iald hG dX2_visitNeighbours_104 2 rfl hg ?_
            refine z_iadd hG dX2_visitNeighbours_105 ?_
            obtain ⟨hg, hres⟩ := z_guard hres
            refine z_iast (ws' := [(aY, .inr (2, [.ref aYl, .ref aYc, .ref aYq, .int v10.1])), (aYl, .inl (K.2 0, 12, .inl v10.2.1)), (aYc, .inl (K.2 0, 12, .inl (upd s5.2.2.2.1 s5.1.toNatClampNeg ((s5.2.2.2.1 s5.1.toNatClampNeg) + (s5.2.2.2.1 p0.toNatClampNeg))))), (aYq, .inl (K.2 0, 12, .inl v10.2.2)), (aN, .inr (3, [.ref aNk, .ref aNn, .int nS])), (aNk, .inl (K.2 0, 12, .inl nK)), (aNn, .inl (K.2 0, 12, .inl nN))]) hG dX2_visitNeighbours_106 2 rfl hg rfl ?_
            refine z_iinc (s5.1 + 1) (lv' := [(3, .int (s5.1 + 1)), (0, .ref aY), (1, .ref aN), (2, .int p0)]) hG dX2_visitNeighbours_107 3 rfl rfl (by decide) rfl ?_
            refine z_goto 2 hG dX2_visitNeighbours_110 (by decide) ?_
            exact (z_lv [1, 2, 3, 0] rfl (hB ((s5.1 + 1), v10.1, v10.2.1, (upd s5.2.2.2.1 s5.1.toNatClampNeg ((s5.2.2.2.1 s5.1.toNatClampNeg) + (s5.2.2.2.1 p0.toNatClampNeg))), v10.2.2) (Option.some.inj hres).symm))
        replace hres := hv
        clear hv
        refine z_icmp_ne 75 hG dX2_visitNeighbours_29 (by decide) (fun c => ?_) (fun c => ?_)
        · replace hres := z_ifn c hres
          obtain rfl := Option.some.inj hres
          exact J
        · replace hres := z_ifp c hres
          refine z_aload_n hG dX2_visitNeighbours_32 0 rfl ?_
          refine z_get (ci := 2) (C := RX2) (T := TX2) (N := 4) hG dX2_visitNeighbours_33 iX2_visitNeighbours_X2 3 (by decide) mX2_visitNeighbours_4 rfl rfl 0 rfl rfl ?_
          refine z_bipush 12 hG dX2_visitNeighbours_36 (by decide) ?_
          refine z_icmp_ge 75 hG dX2_visitNeighbours_38 (by decide) (fun c => ?_) (fun c => ?_)
          · replace hres := z_ifp c hres
            obtain rfl := Option.some.inj hres
            exact J
          · replace hres := z_ifn c hres
            refine z_aload_n hG dX2_visitNeighbours_41 0 rfl ?_
            refine z_get (ci := 2) (C := RX2) (T := TX2) (N := 4) hG dX2_visitNeighbours_42 iX2_visitNeighbours_X2 0 (by decide) mX2_visitNeighbours_2 rfl rfl 0 rfl rfl ?_
            refine z_iload_n hG dX2_visitNeighbours_45 3 rfl ?_
            refine z_aload_n hG dX2_visitNeighbours_46 0 rfl ?_
            refine z_get (ci := 2) (C := RX2) (T := TX2) (N := 4) hG dX2_visitNeighbours_47 iX2_visitNeighbours_X2 0 (by decide) mX2_visitNeighbours_2 rfl rfl 0 rfl rfl ?_
            refine z_iload_n hG dX2_visitNeighbours_50 2 rfl ?_
            obtain ⟨hg, hres⟩ := z_guard hres
            refine z_iald hG dX2_visitNeighbours_51 1 rfl hg ?_
            refine z_iconst 1 hG dX2_visitNeighbours_52 (by decide) ?_
            refine z_iadd hG dX2_visitNeighbours_53 ?_
            obtain ⟨hg, hres⟩ := z_guard hres
            refine z_iast (ws' := [(aY, .inr (2, [.ref aYl, .ref aYc, .ref aYq, .int s5.2.1])), (aYl, .inl (K.2 0, 12, .inl (upd s5.2.2.1 s5.1.toNatClampNeg ((s5.2.2.1 p0.toNatClampNeg) + 1)))), (aYc, .inl (K.2 0, 12, .inl s5.2.2.2.1)), (aYq, .inl (K.2 0, 12, .inl s5.2.2.2.2)), (aN, .inr (3, [.ref aNk, .ref aNn, .int nS])), (aNk, .inl (K.2 0, 12, .inl nK)), (aNn, .inl (K.2 0, 12, .inl nN))]) hG dX2_visitNeighbours_54 1 rfl hg rfl ?_
            refine z_aload_n hG dX2_visitNeighbours_55 0 rfl ?_
            refine z_get (ci := 2) (C := RX2) (T := TX2) (N := 4) hG dX2_visitNeighbours_56 iX2_visitNeighbours_X2 2 (by decide) mX2_visitNeighbours_5 rfl rfl 0 rfl rfl ?_
            refine z_aload_n hG dX2_visitNeighbours_59 0 rfl ?_
            refine z_get (ci := 2) (C := RX2) (T := TX2) (N := 4) hG dX2_visitNeighbours_60 iX2_visitNeighbours_X2 3 (by decide) mX2_visitNeighbours_4 rfl rfl 0 rfl rfl ?_
            refine z_iload_n hG dX2_visitNeighbours_63 3 rfl ?_
            obtain ⟨hg, hres⟩ := z_guard hres
            refine z_iast (ws' := [(aY, .inr (2, [.ref aYl, .ref aYc, .ref aYq, .int s5.2.1])), (aYl, .inl (K.2 0, 12, .inl (upd s5.2.2.1 s5.1.toNatClampNeg ((s5.2.2.1 p0.toNatClampNeg) + 1)))), (aYc, .inl (K.2 0, 12, .inl s5.2.2.2.1)), (aYq, .inl (K.2 0, 12, .inl (upd s5.2.2.2.2 s5.2.1.toNatClampNeg s5.1))), (aN, .inr (3, [.ref aNk, .ref aNn, .int nS])), (aNk, .inl (K.2 0, 12, .inl nK)), (aNn, .inl (K.2 0, 12, .inl nN))]) hG dX2_visitNeighbours_64 3 rfl hg rfl ?_
            refine z_aload_n hG dX2_visitNeighbours_65 0 rfl ?_
            refine z_dup hG dX2_visitNeighbours_66 rfl ?_
            refine z_get (ci := 2) (C := RX2) (T := TX2) (N := 4) hG dX2_visitNeighbours_67 iX2_visitNeighbours_X2 3 (by decide) mX2_visitNeighbours_4 rfl rfl 0 rfl rfl ?_
            refine z_iconst 1 hG dX2_visitNeighbours_70 (by decide) ?_
            refine z_iadd hG dX2_visitNeighbours_71 ?_
            refine z_put (ci := 2) (C := RX2) (T := TX2) (N := 4) (ws' := [(aY, .inr (2, [.ref aYl, .ref aYc, .ref aYq, .int (s5.2.1 + 1)])), (aYl, .inl (K.2 0, 12, .inl (upd s5.2.2.1 s5.1.toNatClampNeg ((s5.2.2.1 p0.toNatClampNeg) + 1)))), (aYc, .inl (K.2 0, 12, .inl s5.2.2.2.1)), (aYq, .inl (K.2 0, 12, .inl (upd s5.2.2.2.2 s5.2.1.toNatClampNeg s5.1))), (aN, .inr (3, [.ref aNk, .ref aNn, .int nS])), (aNk, .inl (K.2 0, 12, .inl nK)), (aNn, .inl (K.2 0, 12, .inl nN))]) hG dX2_visitNeighbours_72 iX2_visitNeighbours_X2 tyX2_ok nmX2 3 (by decide) mX2_visitNeighbours_4 rfl rfl rfl rfl rfl rfl 0 rfl (Nat.le_of_ble_eq_true rfl) rfl ?_
            obtain rfl := Option.some.inj hres
            exact J
      · replace hres := z_ifp c hres
        refine z_goto 107 hG dX2_visitNeighbours_19 (by decide) ?_
        refine z_iinc (s5.1 + 1) (lv' := [(3, .int (s5.1 + 1)), (0, .ref aY), (1, .ref aN), (2, .int p0)]) hG dX2_visitNeighbours_107 3 rfl rfl (by decide) rfl ?_
        refine z_goto 2 hG dX2_visitNeighbours_110 (by decide) ?_
        exact (z_lv [1, 2, 3, 0] rfl (hB ((s5.1 + 1), s5.2.1, s5.2.2.1, s5.2.2.2.1, s5.2.2.2.2) (Option.some.inj hres).symm))

theorem dX2_spread_0 : decode cX2_spread 0 = .ok (.aload_n 0, 1) := by decide +kernel
theorem dX2_spread_1 : decode cX2_spread 1 = .ok (.iconst 0, 1) := by decide +kernel
theorem dX2_spread_2 : decode cX2_spread 2 = .ok (.putfield 21, 3) := by decide +kernel
theorem dX2_spread_5 : decode cX2_spread 5 = .ok (.iconst 0, 1) := by decide +kernel
theorem dX2_spread_6 : decode cX2_spread 6 = .ok (.istore_n 3, 1) := by decide +kernel
theorem dX2_spread_7 : decode cX2_spread 7 = .ok (.iload_n 3, 1) := by decide +kernel
theorem dX2_spread_8 : decode cX2_spread 8 = .ok (.bipush 12, 2) := by decide +kernel
theorem dX2_spread_10 : decode cX2_spread 10 = .ok (.if_icmp .ge 23, 3) := by decide +kernel
theorem dX2_spread_13 : decode cX2_spread 13 = .ok (.aload_n 0, 1) := by decide +kernel
theorem dX2_spread_14 : decode cX2_spread 14 = .ok (.getfield 9, 3) := by decide +kernel
theorem dX2_spread_17 : decode cX2_spread 17 = .ok (.iload_n 3, 1) := by decide +kernel
theorem dX2_spread_18 : decode cX2_spread 18 = .ok (.iconst (-1), 1) := by decide +kernel
theorem dX2_spread_19 : decode cX2_spread 19 = .ok (.iastore, 1) := by decide +kernel
theorem dX2_spread_20 : decode cX2_spread 20 = .ok (.aload_n 0, 1) := by decide +kernel
theorem dX2_spread_21 : decode cX2_spread 21 = .ok (.getfield 15, 3) := by decide +kernel
theorem dX2_spread_24 : decode cX2_spread 24 = .ok (.iload_n 3, 1) := by decide +kernel
theorem dX2_spread_25 : decode cX2_spread 25 = .ok (.iconst 0, 1) := by decide +kernel
theorem dX2_spread_26 : decode cX2_spread 26 = .ok (.iastore, 1) := by decide +kernel
theorem dX2_spread_27 : decode cX2_spread 27 = .ok (.iinc 3 1, 3) := by decide +kernel
theorem dX2_spread_30 : decode cX2_spread 30 = .ok (.goto (-23), 3) := by decide +kernel
theorem dX2_spread_33 : decode cX2_spread 33 = .ok (.iload_n 2, 1) := by decide +kernel
theorem dX2_spread_34 : decode cX2_spread 34 = .ok (.ifCond .lt 11, 3) := by decide +kernel
theorem dX2_spread_37 : decode cX2_spread 37 = .ok (.iload_n 2, 1) := by decide +kernel
theorem dX2_spread_38 : decode cX2_spread 38 = .ok (.aload_n 1, 1) := by decide +kernel
theorem dX2_spread_39 : decode cX2_spread 39 = .ok (.getfield 25, 3) := by decide +kernel
theorem dX2_spread_42 : decode cX2_spread 42 = .ok (.if_icmp .lt 4, 3) := by decide +kernel
theorem dX2_spread_45 : decode cX2_spread 45 = .ok (.return_, 1) := by decide +kernel
theorem dX2_spread_46 : decode cX2_spread 46 = .ok (.aload_n 0, 1) := by decide +kernel
theorem dX2_spread_47 : decode cX2_spread 47 = .ok (.getfield 9, 3) := by decide +kernel
theorem dX2_spread_50 : decode cX2_spread 50 = .ok (.iload_n 2, 1) := by decide +kernel
theorem dX2_spread_51 : decode cX2_spread 51 = .ok (.iconst 0, 1) := by decide +kernel
theorem dX2_spread_52 : decode cX2_spread 52 = .ok (.iastore, 1) := by decide +kernel
theorem dX2_spread_53 : decode cX2_spread 53 = .ok (.aload_n 0, 1) := by decide +kernel
theorem dX2_spread_54 : decode cX2_spread 54 = .ok (.getfield 15, 3) := by decide +kernel
theorem dX2_spread_57 : decode cX2_spread 57 = .ok (.iload_n 2, 1) := by decide +kernel
theorem dX2_spread_58 : decode cX2_spread 58 = .ok (.iconst 1, 1) := by decide +kernel
theorem dX2_spread_59 : decode cX2_spread 59 = .ok (.iastore, 1) := by decide +kernel
theorem dX2_spread_60 : decode cX2_spread 60 = .ok (.aload_n 0, 1) := by decide +kernel
theorem dX2_spread_61 : decode cX2_spread 61 = .ok (.getfield 18, 3) := by decide +kernel
theorem dX2_spread_64 : decode cX2_spread 64 = .ok (.iconst 0, 1) := by decide +kernel
theorem dX2_spread_65 : decode cX2_spread 65 = .ok (.iload_n 2, 1) := by decide +kernel
theorem dX2_spread_66 : decode cX2_spread 66 = .ok (.iastore, 1) := by decide +kernel
theorem dX2_spread_67 : decode cX2_spread 67 = .ok (.aload_n 0, 1) := by decide +kernel
theorem dX2_spread_68 : decode cX2_spread 68 = .ok (.iconst 1, 1) := by decide +kernel
theorem dX2_spread_69 : decode cX2_spread 69 = .ok (.putfield 21, 3) := by decide +kernel
theorem dX2_spread_72 : decode cX2_spread 72 = .ok (.iconst 0, 1) := by decide +kernel
theorem dX2_spread_73 : decode cX2_spread 73 = .ok (.istore_n 3, 1) := by decide +kernel
theorem dX2_spread_74 : decode cX2_spread 74 = .ok (.iload_n 3, 1) := by decide +kernel
theorem dX2_spread_75 : decode cX2_spread 75 = .ok (.aload_n 0, 1) := by decide +kernel
theorem dX2_spread_76 : decode cX2_spread 76 = .ok (.getfield 21, 3) := by decide +kernel
theorem dX2_spread_79 : decode cX2_spread 79 = .ok (.if_icmp .ge 26, 3) := by decide +kernel
theorem dX2_spread_82 : decode cX2_spread 82 = .ok (.iload_n 3, 1) := by decide +kernel
theorem dX2_spread_83 : decode cX2_spread 83 = .ok (.bipush 12, 2) := by decide +kernel
theorem dX2_spread_85 : decode cX2_spread 85 = .ok (.if_icmp .ge 20, 3) := by decide +kernel
theorem dX2_spread_88 : decode cX2_spread 88 = .ok (.aload_n 0, 1) := by decide +kernel
theorem dX2_spread_89 : decode cX2_spread 89 = .ok (.aload_n 1, 1) := by decide +kernel
theorem dX2_spread_90 : decode cX2_spread 90 = .ok (.aload_n 0, 1) := by decide +kernel
theorem dX2_spread_91 : decode cX2_spread 91 = .ok (.getfield 18, 3) := by decide +kernel
theorem dX2_spread_94 : decode cX2_spread 94 = .ok (.iload_n 3, 1) := by decide +kernel
theorem dX2_spread_95 : decode cX2_spread 95 = .ok (.iaload, 1) := by decide +kernel
theorem dX2_spread_96 : decode cX2_spread 96 = .ok (.invokevirtual 30, 3) := by decide +kernel
theorem dX2_spread_99 : decode cX2_spread 99 = .ok (.iinc 3 1, 3) := by decide +kernel
theorem dX2_spread_102 : decode cX2_spread 102 = .ok (.goto (-28), 3) := by decide +kernel
theorem dX2_spread_105 : decode cX2_spread 105 = .ok (.return_, 1) := by decide +kernel
set_option maxRecDepth 20000 in
theorem ggX2_spread_X2_visitNeighbours : GoodIn wsX2_spread wsX2_visitNeighbours := goodIn_r _ [10, 4, 2, 1, 5, 3, 11, 12, 13, 14, 15, 16, 17, 18, 19, 24, 25, 26, 20, 21, 22, 23] (by decide +kernel) (by decide +kernel)
set_option maxRecDepth 20000 in
theorem gX2_spread_X2_visitNeighbours : GoodIn wsX2_spread (wsV RX2 30 RX2 yX2_visitNeighbours wsX2_visitNeighbours) := goodIn_app (goodIn_of _ (by decide +kernel)) ggX2_spread_X2_visitNeighbours
theorem mX2_spread_0 : Cond.fieldLink RX2 21 "Layerways$Layers" "come" "I" ∈ wsX2_spread := by decide +kernel
theorem iX2_spread_X2 : ∀ w ∈ u_ws RX2 TX2 4, w ∈ wsX2_spread := by decide +kernel
theorem mX2_spread_2 : Cond.fieldLink RX2 9 "Layerways$Layers" "lengths" "[I" ∈ wsX2_spread := by decide +kernel
theorem mX2_spread_3 : Cond.fieldLink RX2 15 "Layerways$Layers" "counts" "[I" ∈ wsX2_spread := by decide +kernel
theorem mX2_spread_4 : Cond.fieldLink RX2 25 "Layerways$Net" "size" "I" ∈ wsX2_spread := by decide +kernel
theorem iX2_spread_X3 : ∀ w ∈ u_ws RX3 TX3 3, w ∈ wsX2_spread := by decide +kernel
theorem mX2_spread_6 : Cond.fieldLink RX2 18 "Layerways$Layers" "queue" "[I" ∈ wsX2_spread := by decide +kernel
def sX2_spread_7  (s1 : Int32 × (Nat → Int32) × (Nat → Int32)) : Option ((Int32 × (Nat → Int32) × (Nat → Int32)) ⊕ (Int32 × (Nat → Int32) × (Nat → Int32))) := if 12 ≤ s1.1 then some (.inl (s1.1, s1.2.1, s1.2.2)) else if zin s1.1 12 then if zin s1.1 12 then some (.inr ((s1.1 + 1), (upd s1.2.1 s1.1.toNatClampNeg (-1)), (upd s1.2.2 s1.1.toNatClampNeg 0))) else none else none
def sX2_spread_74 (nS : Int32) (nN : (Nat → Int32)) (s7 : Int32 × Int32 × (Nat → Int32) × (Nat → Int32) × (Nat → Int32)) : Option ((Int32 × Int32 × (Nat → Int32) × (Nat → Int32) × (Nat → Int32)) ⊕ (Int32 × Int32 × (Nat → Int32) × (Nat → Int32) × (Nat → Int32))) := if s7.2.1 ≤ s7.1 then some (.inl (s7.1, s7.2.1, s7.2.2.1, s7.2.2.2.1, s7.2.2.2.2)) else if 12 ≤ s7.1 then some (.inl (s7.1, s7.2.1, s7.2.2.1, s7.2.2.2.1, s7.2.2.2.2)) else if zin s7.1 12 then (fX2_visitNeighbours s7.2.1 s7.2.2.1 s7.2.2.2.1 s7.2.2.2.2 nS nN (s7.2.2.2.2 s7.1.toNatClampNeg)).bind fun v11 => some (.inr ((s7.1 + 1), v11.1, v11.2.1, v11.2.2.1, v11.2.2.2)) else none
def fX2_spread (yL : (Nat → Int32)) (yC : (Nat → Int32)) (yQ : (Nat → Int32)) (nS : Int32) (nN : (Nat → Int32)) (p0 : Int32) : Option (Int32 × (Nat → Int32) × (Nat → Int32) × (Nat → Int32)) := (zloop sX2_spread_7 32 (0, yL, yC)).bind fun e3 => if p0 < 0 then some (0, e3.2.1, e3.2.2, yQ) else if p0 < nS then if zin p0 12 then if zin p0 12 then if zin 0 12 then (zloop (sX2_spread_74 nS nN) 32 (0, 1, (upd e3.2.1 p0.toNatClampNeg 0), (upd e3.2.2 p0.toNatClampNeg 1), (upd yQ (0 : Int32).toNatClampNeg p0))).bind fun e9 => some (e9.2.1, e9.2.2.1, e9.2.2.2.1, e9.2.2.2.2) else none else none else none else some (0, e3.2.1, e3.2.2, yQ)
set_option maxRecDepth 100000 in
set_option maxHeartbeats 4000000 in
theorem kX2_spread (l : Launch) (K : zK) (aY : Nat) (aYl : Nat) (aYc : Nat) (aYq : Nat) (aN : Nat) (aNk : Nat) (aNn : Nat)  (yM : Int32) (yL : (Nat → Int32)) (yC : (Nat → Int32)) (yQ : (Nat → Int32)) (nS : Int32) (nK : (Nat → Int32)) (nN : (Nat → Int32)) (p0 : Int32) (r : Int32 × (Nat → Int32) × (Nat → Int32) × (Nat → Int32)) (hres : fX2_spread yL yC yQ nS nN p0 = some r) : zM l K yX2_spread wsX2_spread ({ frames := 3, cells := 0, slots := 0, locals := 66 }) [.ref aY, .ref aN, .int p0] [(aY, .inr (2, [.ref aYl, .ref aYc, .ref aYq, .int yM])), (aYl, .inl (K.2 0, 12, .inl yL)), (aYc, .inl (K.2 0, 12, .inl yC)), (aYq, .inl (K.2 0, 12, .inl yQ)), (aN, .inr (3, [.ref aNk, .ref aNn, .int nS])), (aNk, .inl (K.2 0, 12, .inl nK)), (aNn, .inl (K.2 0, 12, .inl nN))] (fun _ : Unit => none) (fun _ : Unit => [(aY, .inr (2, [.ref aYl, .ref aYc, .ref aYq, .int r.1])), (aYl, .inl (K.2 0, 12, .inl r.2.1)), (aYc, .inl (K.2 0, 12, .inl r.2.2.1)), (aYq, .inl (K.2 0, 12, .inl r.2.2.2)), (aN, .inr (3, [.ref aNk, .ref aNn, .int nS])), (aNk, .inl (K.2 0, 12, .inl nK)), (aNn, .inl (K.2 0, 12, .inl nN))]) 0 0 := by
  refine zM.intV (cc := cX2_spread) (maxL := 4) (ret := none) rfl (by decide) (Nat.le_of_ble_eq_true rfl) rfl (fun _ => rfl) ?_
  intro G hGl hG hN hE
  have hR : ∀ (pc : Nat) (lv : zL), decode cX2_spread pc = .ok (.return_, 1) → zj G pc lv [] [(aY, .inr (2, [.ref aYl, .ref aYc, .ref aYq, .int r.1])), (aYl, .inl (K.2 0, 12, .inl r.2.1)), (aYc, .inl (K.2 0, 12, .inl r.2.2.1)), (aYq, .inl (K.2 0, 12, .inl r.2.2.2)), (aN, .inr (3, [.ref aNk, .ref aNn, .int nS])), (aNk, .inl (K.2 0, 12, .inl nK)), (aNn, .inl (K.2 0, 12, .inl nN))] 0 0 := fun pc lv d => hE () pc lv d
  clear hE
  unfold fX2_spread at hres
  show zj G 0 [(0, .ref aY), (1, .ref aN), (2, .int p0)] [] [(aY, .inr (2, [.ref aYl, .ref aYc, .ref aYq, .int yM])), (aYl, .inl (K.2 0, 12, .inl yL)), (aYc, .inl (K.2 0, 12, .inl yC)), (aYq, .inl (K.2 0, 12, .inl yQ)), (aN, .inr (3, [.ref aNk, .ref aNn, .int nS])), (aNk, .inl (K.2 0, 12, .inl nK)), (aNn, .inl (K.2 0, 12, .inl nN))] 0 0
  refine z_aload_n hG dX2_spread_0 0 rfl ?_
  refine z_iconst 0 hG dX2_spread_1 (by decide) ?_
  refine z_put (ci := 2) (C := RX2) (T := TX2) (N := 4) (ws' := [(aY, .inr (2, [.ref aYl, .ref aYc, .ref aYq, .int 0])), (aYl, .inl (K.2 0, 12, .inl yL)), (aYc, .inl (K.2 0, 12, .inl yC)), (aYq, .inl (K.2 0, 12, .inl yQ)), (aN, .inr (3, [.ref aNk, .ref aNn, .int nS])), (aNk, .inl (K.2 0, 12, .inl nK)), (aNn, .inl (K.2 0, 12, .inl nN))]) hG dX2_spread_2 iX2_spread_X2 tyX2_ok nmX2 3 (by decide) mX2_spread_0 rfl rfl rfl rfl rfl rfl 0 rfl (Nat.le_of_ble_eq_true rfl) rfl ?_
  refine z_iconst 0 hG dX2_spread_5 (by decide) ?_
  refine z_istore_n (lv' := [(3, .int 0), (0, .ref aY), (1, .ref aN), (2, .int p0)]) hG dX2_spread_6 (by decide) rfl ?_
  obtain ⟨e3, hx, hres⟩ := z_bind hres
  refine z_lv [1, 2, 3, 0] (lv' := [(0, .ref aY), (1, .ref aN), (2, .int p0), (3, .int 0)]) rfl ?_
  refine z_loop hx (fun s1 : Int32 × (Nat → Int32) × (Nat → Int32) => [(0, .ref aY), (1, .ref aN), (2, .int p0), (3, .int s1.1)]) (fun s1 : Int32 × (Nat → Int32) × (Nat → Int32) => [(aY, .inr (2, [.ref aYl, .ref aYc, .ref aYq, .int 0])), (aYl, .inl (K.2 0, 12, .inl s1.2.1)), (aYc, .inl (K.2 0, 12, .inl s1.2.2)), (aYq, .inl (K.2 0, 12, .inl yQ)), (aN, .inr (3, [.ref aNk, .ref aNn, .int nS])), (aNk, .inl (K.2 0, 12, .inl nK)), (aNn, .inl (K.2 0, 12, .inl nN))]) (fun e3 : Int32 × (Nat → Int32) × (Nat → Int32) => zj G 33 [(0, .ref aY), (1, .ref aN), (2, .int p0), (3, .int e3.1)] [] [(aY, .inr (2, [.ref aYl, .ref aYc, .ref aYq, .int 0])), (aYl, .inl (K.2 0, 12, .inl e3.2.1)), (aYc, .inl (K.2 0, 12, .inl e3.2.2)), (aYq, .inl (K.2 0, 12, .inl yQ)), (aN, .inr (3, [.ref aNk, .ref aNn, .int nS])), (aNk, .inl (K.2 0, 12, .inl nK)), (aNn, .inl (K.2 0, 12, .inl nN))] 0 0) ?_ ?_
  · refine z_iload_n hG dX2_spread_33 2 rfl ?_
    refine z_if_lt 45 hG dX2_spread_34 (by decide) (fun c => ?_) (fun c => ?_)
    · replace hres := z_ifp c hres
      obtain rfl := Option.some.inj hres
      exact (hR _ _ dX2_spread_45)
    · replace hres := z_ifn c hres
      refine z_iload_n hG dX2_spread_37 2 rfl ?_
      refine z_aload_n hG dX2_spread_38 1 rfl ?_
      refine z_get (ci := 3) (C := RX3) (T := TX3) (N := 3) hG dX2_spread_39 iX2_spread_X3 2 (by decide) mX2_spread_4 rfl rfl 4 rfl rfl ?_
      refine z_icmp_lt 46 hG dX2_spread_42 (by decide) (fun c => ?_) (fun c => ?_)
      · replace hres := z_ifp c hres
        refine z_aload_n hG dX2_spread_46 0 rfl ?_
        refine z_get (ci := 2) (C := RX2) (T := TX2) (N := 4) hG dX2_spread_47 iX2_spread_X2 0 (by decide) mX2_spread_2 rfl rfl 0 rfl rfl ?_
        refine z_iload_n hG dX2_spread_50 2 rfl ?_
        refine z_iconst 0 hG dX2_spread_51 (by decide) ?_
        obtain ⟨hg, hres⟩ := z_guard hres
        refine z_iast (ws' := [(aY, .inr (2, [.ref aYl, .ref aYc, .ref aYq, .int 0])), (aYl, .inl (K.2 0, 12, .inl (upd e3.2.1 p0.toNatClampNeg 0))), (aYc, .inl (K.2 0, 12, .inl e3.2.2)), (aYq, .inl (K.2 0, 12, .inl yQ)), (aN, .inr (3, [.ref aNk, .ref aNn, .int nS])), (aNk, .inl (K.2 0, 12, .inl nK)), (aNn, .inl (K.2 0, 12, .inl nN))]) hG dX2_spread_52 1 rfl hg rfl ?_
        refine z_aload_n hG dX2_spread_53 0 rfl ?_
        refine z_get (ci := 2) (C := RX2) (T := TX2) (N := 4) hG dX2_spread_54 iX2_spread_X2 1 (by decide) mX2_spread_3 rfl rfl 0 rfl rfl ?_
        refine z_iload_n hG dX2_spread_57 2 rfl ?_
        refine z_iconst 1 hG dX2_spread_58 (by decide) ?_
        obtain ⟨hg, hres⟩ := z_guard hres
        refine z_iast (ws' := [(aY, .inr (2, [.ref aYl, .ref aYc, .ref aYq, .int 0])), (aYl, .inl (K.2 0, 12, .inl (upd e3.2.1 p0.toNatClampNeg 0))), (aYc, .inl (K.2 0, 12, .inl (upd e3.2.2 p0.toNatClampNeg 1))), (aYq, .inl (K.2 0, 12, .inl yQ)), (aN, .inr (3, [.ref aNk, .ref aNn, .int nS])), (aNk, .inl (K.2 0, 12, .inl nK)), (aNn, .inl (K.2 0, 12, .inl nN))]) hG dX2_spread_59 2 rfl hg rfl ?_
        refine z_aload_n hG dX2_spread_60 0 rfl ?_
        refine z_get (ci := 2) (C := RX2) (T := TX2) (N := 4) hG dX2_spread_61 iX2_spread_X2 2 (by decide) mX2_spread_6 rfl rfl 0 rfl rfl ?_
        refine z_iconst 0 hG dX2_spread_64 (by decide) ?_
        refine z_iload_n hG dX2_spread_65 2 rfl ?_
        obtain ⟨hg, hres⟩ := z_guard hres
        refine z_iast (ws' := [(aY, .inr (2, [.ref aYl, .ref aYc, .ref aYq, .int 0])), (aYl, .inl (K.2 0, 12, .inl (upd e3.2.1 p0.toNatClampNeg 0))), (aYc, .inl (K.2 0, 12, .inl (upd e3.2.2 p0.toNatClampNeg 1))), (aYq, .inl (K.2 0, 12, .inl (upd yQ (0 : Int32).toNatClampNeg p0))), (aN, .inr (3, [.ref aNk, .ref aNn, .int nS])), (aNk, .inl (K.2 0, 12, .inl nK)), (aNn, .inl (K.2 0, 12, .inl nN))]) hG dX2_spread_66 3 rfl hg rfl ?_
        refine z_aload_n hG dX2_spread_67 0 rfl ?_
        refine z_iconst 1 hG dX2_spread_68 (by decide) ?_
        refine z_put (ci := 2) (C := RX2) (T := TX2) (N := 4) (ws' := [(aY, .inr (2, [.ref aYl, .ref aYc, .ref aYq, .int 1])), (aYl, .inl (K.2 0, 12, .inl (upd e3.2.1 p0.toNatClampNeg 0))), (aYc, .inl (K.2 0, 12, .inl (upd e3.2.2 p0.toNatClampNeg 1))), (aYq, .inl (K.2 0, 12, .inl (upd yQ (0 : Int32).toNatClampNeg p0))), (aN, .inr (3, [.ref aNk, .ref aNn, .int nS])), (aNk, .inl (K.2 0, 12, .inl nK)), (aNn, .inl (K.2 0, 12, .inl nN))]) hG dX2_spread_69 iX2_spread_X2 tyX2_ok nmX2 3 (by decide) mX2_spread_0 rfl rfl rfl rfl rfl rfl 0 rfl (Nat.le_of_ble_eq_true rfl) rfl ?_
        refine z_iconst 0 hG dX2_spread_72 (by decide) ?_
        refine z_istore_n (lv' := [(3, .int 0), (0, .ref aY), (1, .ref aN), (2, .int p0)]) hG dX2_spread_73 (by decide) rfl ?_
        obtain ⟨e9, hx, hres⟩ := z_bind hres
        refine z_lv [1, 2, 3, 0] (lv' := [(0, .ref aY), (1, .ref aN), (2, .int p0), (3, .int 0)]) rfl ?_
        refine z_loop hx (fun s7 : Int32 × Int32 × (Nat → Int32) × (Nat → Int32) × (Nat → Int32) => [(0, .ref aY), (1, .ref aN), (2, .int p0), (3, .int s7.1)]) (fun s7 : Int32 × Int32 × (Nat → Int32) × (Nat → Int32) × (Nat → Int32) => [(aY, .inr (2, [.ref aYl, .ref aYc, .ref aYq, .int s7.2.1])), (aYl, .inl (K.2 0, 12, .inl s7.2.2.1)), (aYc, .inl (K.2 0, 12, .inl s7.2.2.2.1)), (aYq, .inl (K.2 0, 12, .inl s7.2.2.2.2)), (aN, .inr (3, [.ref aNk, .ref aNn, .int nS])), (aNk, .inl (K.2 0, 12, .inl nK)), (aNn, .inl (K.2 0, 12, .inl nN))]) (fun e9 : Int32 × Int32 × (Nat → Int32) × (Nat → Int32) × (Nat → Int32) => zj G 105 [(0, .ref aY), (1, .ref aN), (2, .int p0), (3, .int e9.1)] [] [(aY, .inr (2, [.ref aYl, .ref aYc, .ref aYq, .int e9.2.1])), (aYl, .inl (K.2 0, 12, .inl e9.2.2.1)), (aYc, .inl (K.2 0, 12, .inl e9.2.2.2.1)), (aYq, .inl (K.2 0, 12, .inl e9.2.2.2.2)), (aN, .inr (3, [.ref aNk, .ref aNn, .int nS])), (aNk, .inl (K.2 0, 12, .inl nK)), (aNn, .inl (K.2 0, 12, .inl nN))] 0 0) ?_ ?_
        · obtain rfl := Option.some.inj hres
          exact (hR _ _ dX2_spread_105)
        · intro s7 w8 hres hX hB
          unfold sX2_spread_74 at hres
          refine z_iload_n hG dX2_spread_74 3 rfl ?_
          refine z_aload_n hG dX2_spread_75 0 rfl ?_
          refine z_get (ci := 2) (C := RX2) (T := TX2) (N := 4) hG dX2_spread_76 iX2_spread_X2 3 (by decide) mX2_spread_0 rfl rfl 0 rfl rfl ?_
          refine z_icmp_ge 105 hG dX2_spread_79 (by decide) (fun c => ?_) (fun c => ?_)
          · replace hres := z_ifp c hres
            exact (hX (s7.1, s7.2.1, s7.2.2.1, s7.2.2.2.1, s7.2.2.2.2) (Option.some.inj hres).symm)
          · replace hres := z_ifn c hres
            refine z_iload_n hG dX2_spread_82 3 rfl ?_
            refine z_bipush 12 hG dX2_spread_83 (by decide) ?_
            refine z_icmp_ge 105 hG dX2_spread_85 (by decide) (fun c => ?_) (fun c => ?_)
            · replace hres := z_ifp c hres
              exact (hX (s7.1, s7.2.1, s7.2.2.1, s7.2.2.2.1, s7.2.2.2.2) (Option.some.inj hres).symm)
            · replace hres := z_ifn c hres
              refine z_aload_n hG dX2_spread_88 0 rfl ?_
              refine z_aload_n hG dX2_spread_89 1 rfl ?_
              refine z_aload_n hG dX2_spread_90 0 rfl ?_
              refine z_get (ci := 2) (C := RX2) (T := TX2) (N := 4) hG dX2_spread_91 iX2_spread_X2 2 (by decide) mX2_spread_6 rfl rfl 0 rfl rfl ?_
              refine z_iload_n hG dX2_spread_94 3 rfl ?_
              obtain ⟨hg, hres⟩ := z_guard hres
              refine z_iald hG dX2_spread_95 3 rfl hg ?_
              obtain ⟨v11, hv, hres⟩ := z_bind hres
              refine z_callV (As := [.ref aN, .int (s7.2.2.2.2 s7.1.toNatClampNeg)]) (rest := []) (wr := ([] : va_W)) (ws' := (fun _ : Unit => [(aY, .inr (2, [.ref aYl, .ref aYc, .ref aYq, .int v11.1])), (aYl, .inl (K.2 0, 12, .inl v11.2.1)), (aYc, .inl (K.2 0, 12, .inl v11.2.2.1)), (aYq, .inl (K.2 0, 12, .inl v11.2.2.2)), (aN, .inr (3, [.ref aNk, .ref aNn, .int nS])), (aNk, .inl (K.2 0, 12, .inl nK)), (aNn, .inl (K.2 0, 12, .inl nN))])) (stk := (fun _ : Unit => [])) (kc' := 0) (ks' := 0) (n := 2) (C := RX2) (ci := 2) hG dX2_spread_96 (kX2_visitNeighbours _ K aY aYl aYc aYq aN aNk aNn s7.2.1 s7.2.2.1 s7.2.2.2.1 s7.2.2.2.2 nS nK nN (s7.2.2.2.2 s7.1.toNatClampNeg) v11 hv) gX2_spread_X2_visitNeighbours rfl rfl rfl ⟨rfl, by decide, by decide, rfl⟩ ⟨by decide, by decide⟩ (Nat.le_of_ble_eq_true rfl) ⟨(Nat.le_of_ble_eq_true rfl), (Nat.le_of_ble_eq_true rfl)⟩ [0, 1, 2, 3, 4, 5, 6] [] [0, 1, 2, 3, 4, 5, 6] rfl rfl rfl rfl (by decide) rfl (fun _ => rfl) (fun _ => rfl) rfl rfl rfl 0 rfl rfl rfl rfl (fun _ => ?_)
              refine z_iinc (s7.1 + 1) (lv' := [(3, .int (s7.1 + 1)), (0, .ref aY), (1, .ref aN), (2, .int p0)]) hG dX2_spread_99 3 rfl rfl (by decide) rfl ?_
              refine z_goto 74 hG dX2_spread_102 (by decide) ?_
              exact (z_lv [1, 2, 3, 0] rfl (hB ((s7.1 + 1), v11.1, v11.2.1, v11.2.2.1, v11.2.2.2) (Option.some.inj hres).symm))
      · replace hres := z_ifn c hres
        obtain rfl := Option.some.inj hres
        exact (hR _ _ dX2_spread_45)
  · intro s1 w2 hres hX hB
    unfold sX2_spread_7 at hres
    refine z_iload_n hG dX2_spread_7 3 rfl ?_
    refine z_bipush 12 hG dX2_spread_8 (by decide) ?_
    refine z_icmp_ge 33 hG dX2_spread_10 (by decide) (fun c => ?_) (fun c => ?_)
    · replace hres := z_ifp c hres
      exact (hX (s1.1, s1.2.1, s1.2.2) (Option.some.inj hres).symm)
    · replace hres := z_ifn c hres
      refine z_aload_n hG dX2_spread_13 0 rfl ?_
      refine z_get (ci := 2) (C := RX2) (T := TX2) (N := 4) hG dX2_spread_14 iX2_spread_X2 0 (by decide) mX2_spread_2 rfl rfl 0 rfl rfl ?_
      refine z_iload_n hG dX2_spread_17 3 rfl ?_
      refine z_iconst (-1) hG dX2_spread_18 (by decide) ?_
      obtain ⟨hg, hres⟩ := z_guard hres
      refine z_iast (ws' := [(aY, .inr (2, [.ref aYl, .ref aYc, .ref aYq, .int 0])), (aYl, .inl (K.2 0, 12, .inl (upd s1.2.1 s1.1.toNatClampNeg (-1)))), (aYc, .inl (K.2 0, 12, .inl s1.2.2)), (aYq, .inl (K.2 0, 12, .inl yQ)), (aN, .inr (3, [.ref aNk, .ref aNn, .int nS])), (aNk, .inl (K.2 0, 12, .inl nK)), (aNn, .inl (K.2 0, 12, .inl nN))]) hG dX2_spread_19 1 rfl hg rfl ?_
      refine z_aload_n hG dX2_spread_20 0 rfl ?_
      refine z_get (ci := 2) (C := RX2) (T := TX2) (N := 4) hG dX2_spread_21 iX2_spread_X2 1 (by decide) mX2_spread_3 rfl rfl 0 rfl rfl ?_
      refine z_iload_n hG dX2_spread_24 3 rfl ?_
      refine z_iconst 0 hG dX2_spread_25 (by decide) ?_
      obtain ⟨hg, hres⟩ := z_guard hres
      refine z_iast (ws' := [(aY, .inr (2, [.ref aYl, .ref aYc, .ref aYq, .int 0])), (aYl, .inl (K.2 0, 12, .inl (upd s1.2.1 s1.1.toNatClampNeg (-1)))), (aYc, .inl (K.2 0, 12, .inl (upd s1.2.2 s1.1.toNatClampNeg 0))), (aYq, .inl (K.2 0, 12, .inl yQ)), (aN, .inr (3, [.ref aNk, .ref aNn, .int nS])), (aNk, .inl (K.2 0, 12, .inl nK)), (aNn, .inl (K.2 0, 12, .inl nN))]) hG dX2_spread_26 2 rfl hg rfl ?_
      refine z_iinc (s1.1 + 1) (lv' := [(3, .int (s1.1 + 1)), (0, .ref aY), (1, .ref aN), (2, .int p0)]) hG dX2_spread_27 3 rfl rfl (by decide) rfl ?_
      refine z_goto 7 hG dX2_spread_30 (by decide) ?_
      exact (z_lv [1, 2, 3, 0] rfl (hB ((s1.1 + 1), (upd s1.2.1 s1.1.toNatClampNeg (-1)), (upd s1.2.2 s1.1.toNatClampNeg 0)) (Option.some.inj hres).symm))
