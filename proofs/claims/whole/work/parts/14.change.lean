theorem dX0_clear_0 : decode cX0_clear 0 = .ok (.aload_n 0, 1) := by decide +kernel
theorem dX0_clear_1 : decode cX0_clear 1 = .ok (.iconst 0, 1) := by decide +kernel
theorem dX0_clear_2 : decode cX0_clear 2 = .ok (.putfield 21, 3) := by decide +kernel
theorem dX0_clear_5 : decode cX0_clear 5 = .ok (.return_, 1) := by decide +kernel
theorem mX0_clear_0 : Cond.fieldLink RX0 21 "Layerways$Change" "size" "I" ∈ wsX0_clear := by decide +kernel
theorem iX0_clear_X0 : ∀ w ∈ u_ws RX0 TX0 4, w ∈ wsX0_clear := by decide +kernel
def fX0_clear  : Option (Int32) := some 0
set_option maxRecDepth 100000 in
set_option maxHeartbeats 4000000 in
theorem kX0_clear (l : Launch) (K : zK) (aX : Nat) (aXb : Nat) (aXk : Nat) (aXw : Nat)  (xS : Int32) (xB : (Nat → Int32)) (xK : (Nat → Int32)) (xW : (Nat → Int32)) (r : Int32) (hres : fX0_clear = some r) : zM l K yX0_clear wsX0_clear ({ frames := 0, cells := 0, slots := 0, locals := 0 }) [.ref aX] [(aX, .inr (0, [.ref aXb, .ref aXk, .ref aXw, .int xS])), (aXb, .inl (K.2 0, 12, .inl xB)), (aXk, .inl (K.2 0, 12, .inl xK)), (aXw, .inl (K.2 0, 12, .inl xW))] (fun _ : Unit => none) (fun _ : Unit => [(aX, .inr (0, [.ref aXb, .ref aXk, .ref aXw, .int r])), (aXb, .inl (K.2 0, 12, .inl xB)), (aXk, .inl (K.2 0, 12, .inl xK)), (aXw, .inl (K.2 0, 12, .inl xW))]) 0 0 := by
  refine zM.intV (cc := cX0_clear) (maxL := 1) (ret := none) rfl (by decide) (Nat.le_of_ble_eq_true rfl) rfl (fun _ => rfl) ?_
  intro G hGl hG hN hE
  have hR : ∀ (pc : Nat) (lv : zL), decode cX0_clear pc = .ok (.return_, 1) → zj G pc lv [] [(aX, .inr (0, [.ref aXb, .ref aXk, .ref aXw, .int r])), (aXb, .inl (K.2 0, 12, .inl xB)), (aXk, .inl (K.2 0, 12, .inl xK)), (aXw, .inl (K.2 0, 12, .inl xW))] 0 0 := fun pc lv d => hE () pc lv d
  clear hE
  unfold fX0_clear at hres
  show zj G 0 [(0, .ref aX)] [] [(aX, .inr (0, [.ref aXb, .ref aXk, .ref aXw, .int xS])), (aXb, .inl (K.2 0, 12, .inl xB)), (aXk, .inl (K.2 0, 12, .inl xK)), (aXw, .inl (K.2 0, 12, .inl xW))] 0 0
  refine z_aload_n hG dX0_clear_0 0 rfl ?_
  refine z_iconst 0 hG dX0_clear_1 (by decide) ?_
  refine z_put (ci := 0) (C := RX0) (T := TX0) (N := 4) (ws' := [(aX, .inr (0, [.ref aXb, .ref aXk, .ref aXw, .int 0])), (aXb, .inl (K.2 0, 12, .inl xB)), (aXk, .inl (K.2 0, 12, .inl xK)), (aXw, .inl (K.2 0, 12, .inl xW))]) hG dX0_clear_2 iX0_clear_X0 tyX0_ok nmX0 3 (by decide) mX0_clear_0 rfl rfl rfl rfl rfl rfl 0 rfl (Nat.le_of_ble_eq_true rfl) rfl ?_
  obtain rfl := Option.some.inj hres
  exact (hR _ _ dX0_clear_5)

theorem dX0_remember_0 : decode cX0_remember 0 = .ok (.iconst 0, 1) := by decide +kernel
theorem dX0_remember_1 : decode cX0_remember 1 = .ok (.istore_n 2, 1) := by decide +kernel
theorem dX0_remember_2 : decode cX0_remember 2 = .ok (.iload_n 2, 1) := by decide +kernel
theorem dX0_remember_3 : decode cX0_remember 3 = .ok (.bipush 12, 2) := by decide +kernel
theorem dX0_remember_5 : decode cX0_remember 5 = .ok (.if_icmp .ge 21, 3) := by decide +kernel
theorem dX0_remember_8 : decode cX0_remember 8 = .ok (.aload_n 0, 1) := by decide +kernel
theorem dX0_remember_9 : decode cX0_remember 9 = .ok (.getfield 9, 3) := by decide +kernel
theorem dX0_remember_12 : decode cX0_remember 12 = .ok (.iload_n 2, 1) := by decide +kernel
theorem dX0_remember_13 : decode cX0_remember 13 = .ok (.aload_n 1, 1) := by decide +kernel
theorem dX0_remember_14 : decode cX0_remember 14 = .ok (.getfield 25, 3) := by decide +kernel
theorem dX0_remember_17 : decode cX0_remember 17 = .ok (.iload_n 2, 1) := by decide +kernel
theorem dX0_remember_18 : decode cX0_remember 18 = .ok (.iaload, 1) := by decide +kernel
theorem dX0_remember_19 : decode cX0_remember 19 = .ok (.iastore, 1) := by decide +kernel
theorem dX0_remember_20 : decode cX0_remember 20 = .ok (.iinc 2 1, 3) := by decide +kernel
theorem dX0_remember_23 : decode cX0_remember 23 = .ok (.goto (-21), 3) := by decide +kernel
theorem dX0_remember_26 : decode cX0_remember 26 = .ok (.return_, 1) := by decide +kernel
theorem mX0_remember_0 : Cond.fieldLink RX0 9 "Layerways$Change" "before" "[I" ∈ wsX0_remember := by decide +kernel
theorem iX0_remember_X0 : ∀ w ∈ u_ws RX0 TX0 4, w ∈ wsX0_remember := by decide +kernel
theorem mX0_remember_2 : Cond.fieldLink RX0 25 "Layerways$Layers" "lengths" "[I" ∈ wsX0_remember := by decide +kernel
theorem iX0_remember_X2 : ∀ w ∈ u_ws RX2 TX2 4, w ∈ wsX0_remember := by decide +kernel
def sX0_remember_2 (yL : (Nat → Int32)) (s1 : Int32 × (Nat → Int32)) : Option ((Int32 × (Nat → Int32)) ⊕ (Int32 × (Nat → Int32))) := if 12 ≤ s1.1 then some (.inl (s1.1, s1.2)) else if zin s1.1 12 then if zin s1.1 12 then some (.inr ((s1.1 + 1), (upd s1.2 s1.1.toNatClampNeg (yL s1.1.toNatClampNeg)))) else none else none
def fX0_remember (xB : (Nat → Int32)) (yL : (Nat → Int32)) : Option ((Nat → Int32)) := (zloop (sX0_remember_2 yL) 32 (0, xB)).bind fun e3 => some e3.2
set_option maxRecDepth 100000 in
set_option maxHeartbeats 4000000 in
theorem kX0_remember (l : Launch) (K : zK) (aX : Nat) (aXb : Nat) (aXk : Nat) (aXw : Nat) (aY : Nat) (aYl : Nat) (aYc : Nat) (aYq : Nat)  (xS : Int32) (xB : (Nat → Int32)) (xK : (Nat → Int32)) (xW : (Nat → Int32)) (yM : Int32) (yL : (Nat → Int32)) (yC : (Nat → Int32)) (yQ : (Nat → Int32)) (r : (Nat → Int32)) (hres : fX0_remember xB yL = some r) : zM l K yX0_remember wsX0_remember ({ frames := 0, cells := 0, slots := 0, locals := 0 }) [.ref aX, .ref aY] [(aX, .inr (0, [.ref aXb, .ref aXk, .ref aXw, .int xS])), (aXb, .inl (K.2 0, 12, .inl xB)), (aXk, .inl (K.2 0, 12, .inl xK)), (aXw, .inl (K.2 0, 12, .inl xW)), (aY, .inr (2, [.ref aYl, .ref aYc, .ref aYq, .int yM])), (aYl, .inl (K.2 0, 12, .inl yL)), (aYc, .inl (K.2 0, 12, .inl yC)), (aYq, .inl (K.2 0, 12, .inl yQ))] (fun _ : Unit => none) (fun _ : Unit => [(aX, .inr (0, [.ref aXb, .ref aXk, .ref aXw, .int xS])), (aXb, .inl (K.2 0, 12, .inl r)), (aXk, .inl (K.2 0, 12, .inl xK)), (aXw, .inl (K.2 0, 12, .inl xW)), (aY, .inr (2, [.ref aYl, .ref aYc, .ref aYq, .int yM])), (aYl, .inl (K.2 0, 12, .inl yL)), (aYc, .inl (K.2 0, 12, .inl yC)), (aYq, .inl (K.2 0, 12, .inl yQ))]) 0 0 := by
  refine zM.intV (cc := cX0_remember) (maxL := 3) (ret := none) rfl (by decide) (Nat.le_of_ble_eq_true rfl) rfl (fun _ => rfl) ?_
  intro G hGl hG hN hE
  have hR : ∀ (pc : Nat) (lv : zL), decode cX0_remember pc = .ok (.return_, 1) → zj G pc lv [] [(aX, .inr (0, [.ref aXb, .ref aXk, .ref aXw, .int xS])), (aXb, .inl (K.2 0, 12, .inl r)), (aXk, .inl (K.2 0, 12, .inl xK)), (aXw, .inl (K.2 0, 12, .inl xW)), (aY, .inr (2, [.ref aYl, .ref aYc, .ref aYq, .int yM])), (aYl, .inl (K.2 0, 12, .inl yL)), (aYc, .inl (K.2 0, 12, .inl yC)), (aYq, .inl (K.2 0, 12, .inl yQ))] 0 0 := fun pc lv d => hE () pc lv d
  clear hE
  unfold fX0_remember at hres
  show zj G 0 [(0, .ref aX), (1, .ref aY)] [] [(aX, .inr (0, [.ref aXb, .ref aXk, .ref aXw, .int xS])), (aXb, .inl (K.2 0, 12, .inl xB)), (aXk, .inl (K.2 0, 12, .inl xK)), (aXw, .inl (K.2 0, 12, .inl xW)), (aY, .inr (2, [.ref aYl, .ref aYc, .ref aYq, .int yM])), (aYl, .inl (K.2 0, 12, .inl yL)), (aYc, .inl (K.2 0, 12, .inl yC)), (aYq, .inl (K.2 0, 12, .inl yQ))] 0 0
  refine z_iconst 0 hG dX0_remember_0 (by decide) ?_
  refine z_istore_n (lv' := [(2, .int 0), (0, .ref aX), (1, .ref aY)]) hG dX0_remember_1 (by decide) rfl ?_
  obtain ⟨e3, hx, hres⟩ := z_bind hres
  refine z_lv [1, 2, 0] (lv' := [(0, .ref aX), (1, .ref aY), (2, .int 0)]) rfl ?_
  refine z_loop hx (fun s1 : Int32 × (Nat → Int32) => [(0, .ref aX), (1, .ref aY), (2, .int s1.1)]) (fun s1 : Int32 × (Nat → Int32) => [(aX, .inr (0, [.ref aXb, .ref aXk, .ref aXw, .int xS])), (aXb, .inl (K.2 0, 12, .inl s1.2)), (aXk, .inl (K.2 0, 12, .inl xK)), (aXw, .inl (K.2 0, 12, .inl xW)), (aY, .inr (2, [.ref aYl, .ref aYc, .ref aYq, .int yM])), (aYl, .inl (K.2 0, 12, .inl yL)), (aYc, .inl (K.2 0, 12, .inl yC)), (aYq, .inl (K.2 0, 12, .inl yQ))]) (fun e3 : Int32 × (Nat → Int32) => zj G 26 [(0, .ref aX), (1, .ref aY), (2, .int e3.1)] [] [(aX, .inr (0, [.ref aXb, .ref aXk, .ref aXw, .int xS])), (aXb, .inl (K.2 0, 12, .inl e3.2)), (aXk, .inl (K.2 0, 12, .inl xK)), (aXw, .inl (K.2 0, 12, .inl xW)), (aY, .inr (2, [.ref aYl, .ref aYc, .ref aYq, .int yM])), (aYl, .inl (K.2 0, 12, .inl yL)), (aYc, .inl (K.2 0, 12, .inl yC)), (aYq, .inl (K.2 0, 12, .inl yQ))] 0 0) ?_ ?_
  · obtain rfl := Option.some.inj hres
    exact (hR _ _ dX0_remember_26)
  · intro s1 w2 hres hX hB
    unfold sX0_remember_2 at hres
    refine z_iload_n hG dX0_remember_2 2 rfl ?_
    refine z_bipush 12 hG dX0_remember_3 (by decide) ?_
    refine z_icmp_ge 26 hG dX0_remember_5 (by decide) (fun c => ?_) (fun c => ?_)
    · replace hres := z_ifp c hres
      exact (hX (s1.1, s1.2) (Option.some.inj hres).symm)
    · replace hres := z_ifn c hres
      refine z_aload_n hG dX0_remember_8 0 rfl ?_
      refine z_get (ci := 0) (C := RX0) (T := TX0) (N := 4) hG dX0_remember_9 iX0_remember_X0 0 (by decide) mX0_remember_0 rfl rfl 0 rfl rfl ?_
      refine z_iload_n hG dX0_remember_12 2 rfl ?_
      refine z_aload_n hG dX0_remember_13 1 rfl ?_
      refine z_get (ci := 2) (C := RX2) (T := TX2) (N := 4) hG dX0_remember_14 iX0_remember_X2 0 (by decide) mX0_remember_2 rfl rfl 4 rfl rfl ?_
      refine z_iload_n hG dX0_remember_17 2 rfl ?_
      obtain ⟨hg, hres⟩ := z_guard hres
      refine z_iald hG dX0_remember_18 5 rfl hg ?_
      obtain ⟨hg, hres⟩ := z_guard hres
      refine z_iast (ws' := [(aX, .inr (0, [.ref aXb, .ref aXk, .ref aXw, .int xS])), (aXb, .inl (K.2 0, 12, .inl (upd s1.2 s1.1.toNatClampNeg (yL s1.1.toNatClampNeg)))), (aXk, .inl (K.2 0, 12, .inl xK)), (aXw, .inl (K.2 0, 12, .inl xW)), (aY, .inr (2, [.ref aYl, .ref aYc, .ref aYq, .int yM])), (aYl, .inl (K.2 0, 12, .inl yL)), (aYc, .inl (K.2 0, 12, .inl yC)), (aYq, .inl (K.2 0, 12, .inl yQ))]) hG dX0_remember_19 1 rfl hg rfl ?_
      refine z_iinc (s1.1 + 1) (lv' := [(2, .int (s1.1 + 1)), (0, .ref aX), (1, .ref aY)]) hG dX0_remember_20 2 rfl rfl (by decide) rfl ?_
      refine z_goto 2 hG dX0_remember_23 (by decide) ?_
      exact (z_lv [1, 2, 0] rfl (hB ((s1.1 + 1), (upd s1.2 s1.1.toNatClampNeg (yL s1.1.toNatClampNeg))) (Option.some.inj hres).symm))

theorem dX0_compare_0 : decode cX0_compare 0 = .ok (.aload_n 0, 1) := by decide +kernel
theorem dX0_compare_1 : decode cX0_compare 1 = .ok (.iconst 0, 1) := by decide +kernel
theorem dX0_compare_2 : decode cX0_compare 2 = .ok (.putfield 21, 3) := by decide +kernel
theorem dX0_compare_5 : decode cX0_compare 5 = .ok (.iconst 0, 1) := by decide +kernel
theorem dX0_compare_6 : decode cX0_compare 6 = .ok (.istore_n 3, 1) := by decide +kernel
theorem dX0_compare_7 : decode cX0_compare 7 = .ok (.iload_n 3, 1) := by decide +kernel
theorem dX0_compare_8 : decode cX0_compare 8 = .ok (.aload_n 1, 1) := by decide +kernel
theorem dX0_compare_9 : decode cX0_compare 9 = .ok (.getfield 30, 3) := by decide +kernel
theorem dX0_compare_12 : decode cX0_compare 12 = .ok (.if_icmp .ge 64, 3) := by decide +kernel
theorem dX0_compare_15 : decode cX0_compare 15 = .ok (.aload_n 0, 1) := by decide +kernel
theorem dX0_compare_16 : decode cX0_compare 16 = .ok (.getfield 9, 3) := by decide +kernel
theorem dX0_compare_19 : decode cX0_compare 19 = .ok (.iload_n 3, 1) := by decide +kernel
theorem dX0_compare_20 : decode cX0_compare 20 = .ok (.iaload, 1) := by decide +kernel
theorem dX0_compare_21 : decode cX0_compare 21 = .ok (.aload_n 2, 1) := by decide +kernel
theorem dX0_compare_22 : decode cX0_compare 22 = .ok (.getfield 25, 3) := by decide +kernel
theorem dX0_compare_25 : decode cX0_compare 25 = .ok (.iload_n 3, 1) := by decide +kernel
theorem dX0_compare_26 : decode cX0_compare 26 = .ok (.iaload, 1) := by decide +kernel
theorem dX0_compare_27 : decode cX0_compare 27 = .ok (.if_icmp .eq 43, 3) := by decide +kernel
theorem dX0_compare_30 : decode cX0_compare 30 = .ok (.aload_n 0, 1) := by decide +kernel
theorem dX0_compare_31 : decode cX0_compare 31 = .ok (.getfield 15, 3) := by decide +kernel
theorem dX0_compare_34 : decode cX0_compare 34 = .ok (.aload_n 0, 1) := by decide +kernel
theorem dX0_compare_35 : decode cX0_compare 35 = .ok (.getfield 21, 3) := by decide +kernel
theorem dX0_compare_38 : decode cX0_compare 38 = .ok (.aload_n 1, 1) := by decide +kernel
theorem dX0_compare_39 : decode cX0_compare 39 = .ok (.getfield 33, 3) := by decide +kernel
theorem dX0_compare_42 : decode cX0_compare 42 = .ok (.iload_n 3, 1) := by decide +kernel
theorem dX0_compare_43 : decode cX0_compare 43 = .ok (.iaload, 1) := by decide +kernel
theorem dX0_compare_44 : decode cX0_compare 44 = .ok (.iastore, 1) := by decide +kernel
theorem dX0_compare_45 : decode cX0_compare 45 = .ok (.aload_n 0, 1) := by decide +kernel
theorem dX0_compare_46 : decode cX0_compare 46 = .ok (.getfield 18, 3) := by decide +kernel
theorem dX0_compare_49 : decode cX0_compare 49 = .ok (.aload_n 0, 1) := by decide +kernel
theorem dX0_compare_50 : decode cX0_compare 50 = .ok (.getfield 21, 3) := by decide +kernel
theorem dX0_compare_53 : decode cX0_compare 53 = .ok (.aload_n 0, 1) := by decide +kernel
theorem dX0_compare_54 : decode cX0_compare 54 = .ok (.getfield 9, 3) := by decide +kernel
theorem dX0_compare_57 : decode cX0_compare 57 = .ok (.iload_n 3, 1) := by decide +kernel
theorem dX0_compare_58 : decode cX0_compare 58 = .ok (.iaload, 1) := by decide +kernel
theorem dX0_compare_59 : decode cX0_compare 59 = .ok (.iastore, 1) := by decide +kernel
theorem dX0_compare_60 : decode cX0_compare 60 = .ok (.aload_n 0, 1) := by decide +kernel
theorem dX0_compare_61 : decode cX0_compare 61 = .ok (.dup, 1) := by decide +kernel
theorem dX0_compare_62 : decode cX0_compare 62 = .ok (.getfield 21, 3) := by decide +kernel
theorem dX0_compare_65 : decode cX0_compare 65 = .ok (.iconst 1, 1) := by decide +kernel
theorem dX0_compare_66 : decode cX0_compare 66 = .ok (.iadd, 1) := by decide +kernel
theorem dX0_compare_67 : decode cX0_compare 67 = .ok (.putfield 21, 3) := by decide +kernel
theorem dX0_compare_70 : decode cX0_compare 70 = .ok (.iinc 3 1, 3) := by decide +kernel
theorem dX0_compare_73 : decode cX0_compare 73 = .ok (.goto (-66), 3) := by decide +kernel
theorem dX0_compare_76 : decode cX0_compare 76 = .ok (.return_, 1) := by decide +kernel
theorem mX0_compare_0 : Cond.fieldLink RX0 21 "Layerways$Change" "size" "I" ∈ wsX0_compare := by decide +kernel
theorem iX0_compare_X0 : ∀ w ∈ u_ws RX0 TX0 4, w ∈ wsX0_compare := by decide +kernel
theorem mX0_compare_2 : Cond.fieldLink RX0 30 "Layerways$Net" "size" "I" ∈ wsX0_compare := by decide +kernel
theorem iX0_compare_X3 : ∀ w ∈ u_ws RX3 TX3 3, w ∈ wsX0_compare := by decide +kernel
theorem mX0_compare_4 : Cond.fieldLink RX0 9 "Layerways$Change" "before" "[I" ∈ wsX0_compare := by decide +kernel
theorem mX0_compare_5 : Cond.fieldLink RX0 25 "Layerways$Layers" "lengths" "[I" ∈ wsX0_compare := by decide +kernel
theorem iX0_compare_X2 : ∀ w ∈ u_ws RX2 TX2 4, w ∈ wsX0_compare := by decide +kernel
theorem mX0_compare_7 : Cond.fieldLink RX0 15 "Layerways$Change" "keys" "[I" ∈ wsX0_compare := by decide +kernel
theorem mX0_compare_8 : Cond.fieldLink RX0 33 "Layerways$Net" "keys" "[I" ∈ wsX0_compare := by decide +kernel
theorem mX0_compare_9 : Cond.fieldLink RX0 18 "Layerways$Change" "were" "[I" ∈ wsX0_compare := by decide +kernel
def sX0_compare_7 (xB : (Nat → Int32)) (nS : Int32) (nK : (Nat → Int32)) (yL : (Nat → Int32)) (s1 : Int32 × Int32 × (Nat → Int32) × (Nat → Int32)) : Option ((Int32 × Int32 × (Nat → Int32) × (Nat → Int32)) ⊕ (Int32 × Int32 × (Nat → Int32) × (Nat → Int32))) := if nS ≤ s1.1 then some (.inl (s1.1, s1.2.1, s1.2.2.1, s1.2.2.2)) else if zin s1.1 12 then if zin s1.1 12 then if (xB s1.1.toNatClampNeg) = (yL s1.1.toNatClampNeg) then some (.inr ((s1.1 + 1), s1.2.1, s1.2.2.1, s1.2.2.2)) else if zin s1.1 12 then if zin s1.2.1 12 then if zin s1.1 12 then if zin s1.2.1 12 then some (.inr ((s1.1 + 1), (s1.2.1 + 1), (upd s1.2.2.1 s1.2.1.toNatClampNeg (nK s1.1.toNatClampNeg)), (upd s1.2.2.2 s1.2.1.toNatClampNeg (xB s1.1.toNatClampNeg)))) else none else none else none else none else none else none
def fX0_compare (xB : (Nat → Int32)) (xK : (Nat → Int32)) (xW : (Nat → Int32)) (nS : Int32) (nK : (Nat → Int32)) (yL : (Nat → Int32)) : Option (Int32 × (Nat → Int32) × (Nat → Int32)) := (zloop (sX0_compare_7 xB nS nK yL) 32 (0, 0, xK, xW)).bind fun e3 => some (e3.2.1, e3.2.2.1, e3.2.2.2)
set_option maxRecDepth 100000 in
set_option maxHeartbeats 4000000 in
theorem kX0_compare (l : Launch) (K : zK) (aX : Nat) (aXb : Nat) (aXk : Nat) (aXw : Nat) (aN : Nat) (aNk : Nat) (aNn : Nat) (aY : Nat) (aYl : Nat) (aYc : Nat) (aYq : Nat)  (xS : Int32) (xB : (Nat → Int32)) (xK : (Nat → Int32)) (xW : (Nat → Int32)) (nS : Int32) (nK : (Nat → Int32)) (nN : (Nat → Int32)) (yM : Int32) (yL : (Nat → Int32)) (yC : (Nat → Int32)) (yQ : (Nat → Int32)) (r : Int32 × (Nat → Int32) × (Nat → Int32)) (hres : fX0_compare xB xK xW nS nK yL = some r) : zM l K yX0_compare wsX0_compare ({ frames := 0, cells := 0, slots := 0, locals := 0 }) [.ref aX, .ref aN, .ref aY] [(aX, .inr (0, [.ref aXb, .ref aXk, .ref aXw, .int xS])), (aXb, .inl (K.2 0, 12, .inl xB)), (aXk, .inl (K.2 0, 12, .inl xK)), (aXw, .inl (K.2 0, 12, .inl xW)), (aN, .inr (3, [.ref aNk, .ref aNn, .int nS])), (aNk, .inl (K.2 0, 12, .inl nK)), (aNn, .inl (K.2 0, 12, .inl nN)), (aY, .inr (2, [.ref aYl, .ref aYc, .ref aYq, .int yM])), (aYl, .inl (K.2 0, 12, .inl yL)), (aYc, .inl (K.2 0, 12, .inl yC)), (aYq, .inl (K.2 0, 12, .inl yQ))] (fun _ : Unit => none) (fun _ : Unit => [(aX, .inr (0, [.ref aXb, .ref aXk, .ref aXw, .int r.1])), (aXb, .inl (K.2 0, 12, .inl xB)), (aXk, .inl (K.2 0, 12, .inl r.2.1)), (aXw, .inl (K.2 0, 12, .inl r.2.2)), (aN, .inr (3, [.ref aNk, .ref aNn, .int nS])), (aNk, .inl (K.2 0, 12, .inl nK)), (aNn, .inl (K.2 0, 12, .inl nN)), (aY, .inr (2, [.ref aYl, .ref aYc, .ref aYq, .int yM])), (aYl, .inl (K.2 0, 12, .inl yL)), (aYc, .inl (K.2 0, 12, .inl yC)), (aYq, .inl (K.2 0, 12, .inl yQ))]) 0 0 := by
  refine zM.intV (cc := cX0_compare) (maxL := 4) (ret := none) rfl (by decide) (Nat.le_of_ble_eq_true rfl) rfl (fun _ => rfl) ?_
  intro G hGl hG hN hE
  have hR : ∀ (pc : Nat) (lv : zL), decode cX0_compare pc = .ok (.return_, 1) → zj G pc lv [] [(aX, .inr (0, [.ref aXb, .ref aXk, .ref aXw, .int r.1])), (aXb, .inl (K.2 0, 12, .inl xB)), (aXk, .inl (K.2 0, 12, .inl r.2.1)), (aXw, .inl (K.2 0, 12, .inl r.2.2)), (aN, .inr (3, [.ref aNk, .ref aNn, .int nS])), (aNk, .inl (K.2 0, 12, .inl nK)), (aNn, .inl (K.2 0, 12, .inl nN)), (aY, .inr (2, [.ref aYl, .ref aYc, .ref aYq, .int yM])), (aYl, .inl (K.2 0, 12, .inl yL)), (aYc, .inl (K.2 0, 12, .inl yC)), (aYq, .inl (K.2 0, 12, .inl yQ))] 0 0 := fun pc lv d => hE () pc lv d
  clear hE
  unfold fX0_compare at hres
  show zj G 0 [(0, .ref aX), (1, .ref aN), (2, .ref aY)] [] [(aX, .inr (0, [.ref aXb, .ref aXk, .ref aXw, .int xS])), (aXb, .inl (K.2 0, 12, .inl xB)), (aXk, .inl (K.2 0, 12, .inl xK)), (aXw, .inl (K.2 0, 12, .inl xW)), (aN, .inr (3, [.ref aNk, .ref aNn, .int nS])), (aNk, .inl (K.2 0, 12, .inl nK)), (aNn, .inl (K.2 0, 12, .inl nN)), (aY, .inr (2, [.ref aYl, .ref aYc, .ref aYq, .int yM])), (aYl, .inl (K.2 0, 12, .inl yL)), (aYc, .inl (K.2 0, 12, .inl yC)), (aYq, .inl (K.2 0, 12, .inl yQ))] 0 0
  refine z_aload_n hG dX0_compare_0 0 rfl ?_
  refine z_iconst 0 hG dX0_compare_1 (by decide) ?_
  refine z_put (ci := 0) (C := RX0) (T := TX0) (N := 4) (ws' := [(aX, .inr (0, [.ref aXb, .ref aXk, .ref aXw, .int 0])), (aXb, .inl (K.2 0, 12, .inl xB)), (aXk, .inl (K.2 0, 12, .inl xK)), (aXw, .inl (K.2 0, 12, .inl xW)), (aN, .inr (3, [.ref aNk, .ref aNn, .int nS])), (aNk, .inl (K.2 0, 12, .inl nK)), (aNn, .inl (K.2 0, 12, .inl nN)), (aY, .inr (2, [.ref aYl, .ref aYc, .ref aYq, .int yM])), (aYl, .inl (K.2 0, 12, .inl yL)), (aYc, .inl (K.2 0, 12, .inl yC)), (aYq, .inl (K.2 0, 12, .inl yQ))]) hG dX0_compare_2 iX0_compare_X0 tyX0_ok nmX0 3 (by decide) mX0_compare_0 rfl rfl rfl rfl rfl rfl 0 rfl (Nat.le_of_ble_eq_true rfl) rfl ?_
  refine z_iconst 0 hG dX0_compare_5 (by decide) ?_
  refine z_istore_n (lv' := [(3, .int 0), (0, .ref aX), (1, .ref aN), (2, .ref aY)]) hG dX0_compare_6 (by decide) rfl ?_
  obtain ⟨e3, hx, hres⟩ := z_bind hres
  refine z_lv [1, 2, 3, 0] (lv' := [(0, .ref aX), (1, .ref aN), (2, .ref aY), (3, .int 0)]) rfl ?_
  refine z_loop hx (fun s1 : Int32 × Int32 × (Nat → Int32) × (Nat → Int32) => [(0, .ref aX), (1, .ref aN), (2, .ref aY), (3, .int s1.1)]) (fun s1 : Int32 × Int32 × (Nat → Int32) × (Nat → Int32) => [(aX, .inr (0, [.ref aXb, .ref aXk, .ref aXw, .int s1.2.1])), (aXb, .inl (K.2 0, 12, .inl xB)), (aXk, .inl (K.2 0, 12, .inl s1.2.2.1)), (aXw, .inl (K.2 0, 12, .inl s1.2.2.2)), (aN, .inr (3, [.ref aNk, .ref aNn, .int nS])), (aNk, .inl (K.2 0, 12, .inl nK)), (aNn, .inl (K.2 0, 12, .inl nN)), (aY, .inr (2, [.ref aYl, .ref aYc, .ref aYq, .int yM])), (aYl, .inl (K.2 0, 12, .inl yL)), (aYc, .inl (K.2 0, 12, .inl yC)), (aYq, .inl (K.2 0, 12, .inl yQ))]) (fun e3 : Int32 × Int32 × (Nat → Int32) × (Nat → Int32) => zj G 76 [(0, .ref aX), (1, .ref aN), (2, .ref aY), (3, .int e3.1)] [] [(aX, .inr (0, [.ref aXb, .ref aXk, .ref aXw, .int e3.2.1])), (aXb, .inl (K.2 0, 12, .inl xB)), (aXk, .inl (K.2 0, 12, .inl e3.2.2.1)), (aXw, .inl (K.2 0, 12, .inl e3.2.2.2)), (aN, .inr (3, [.ref aNk, .ref aNn, .int nS])), (aNk, .inl (K.2 0, 12, .inl nK)), (aNn, .inl (K.2 0, 12, .inl nN)), (aY, .inr (2, [.ref aYl, .ref aYc, .ref aYq, .int yM])), (aYl, .inl (K.2 0, 12, .inl yL)), (aYc, .inl (K.2 0, 12, .inl yC)), (aYq, .inl (K.2 0, 12, .inl yQ))] 0 0) ?_ ?_
  · obtain rfl := Option.some.inj hres
    exact (hR _ _ dX0_compare_76)
  · intro s1 w2 hres hX hB
    unfold sX0_compare_7 at hres
    refine z_iload_n hG dX0_compare_7 3 rfl ?_
    refine z_aload_n hG dX0_compare_8 1 rfl ?_
    refine z_get (ci := 3) (C := RX3) (T := TX3) (N := 3) hG dX0_compare_9 iX0_compare_X3 2 (by decide) mX0_compare_2 rfl rfl 4 rfl rfl ?_
    refine z_icmp_ge 76 hG dX0_compare_12 (by decide) (fun c => ?_) (fun c => ?_)
    · replace hres := z_ifp c hres
      exact (hX (s1.1, s1.2.1, s1.2.2.1, s1.2.2.2) (Option.some.inj hres).symm)
    · replace hres := z_ifn c hres
      refine z_aload_n hG dX0_compare_15 0 rfl ?_
      refine z_get (ci := 0) (C := RX0) (T := TX0) (N := 4) hG dX0_compare_16 iX0_compare_X0 0 (by decide) mX0_compare_4 rfl rfl 0 rfl rfl ?_
      refine z_iload_n hG dX0_compare_19 3 rfl ?_
      obtain ⟨hg, hres⟩ := z_guard hres
      refine z_iald hG dX0_compare_20 1 rfl hg ?_
      refine z_aload_n hG dX0_compare_21 2 rfl ?_
      refine z_get (ci := 2) (C := RX2) (T := TX2) (N := 4) hG dX0_compare_22 iX0_compare_X2 0 (by decide) mX0_compare_5 rfl rfl 7 rfl rfl ?_
      refine z_iload_n hG dX0_compare_25 3 rfl ?_
      obtain ⟨hg, hres⟩ := z_guard hres
      refine z_iald hG dX0_compare_26 8 rfl hg ?_
      refine z_icmp_eq 70 hG dX0_compare_27 (by decide) (fun c => ?_) (fun c => ?_)
      · replace hres := z_ifp c hres
        refine z_iinc (s1.1 + 1) (lv' := [(3, .int (s1.1 + 1)), (0, .ref aX), (1, .ref aN), (2, .ref aY)]) hG dX0_compare_70 3 rfl rfl (by decide) rfl ?_
        refine z_goto 7 hG dX0_compare_73 (by decide) ?_
        exact (z_lv [1, 2, 3, 0] rfl (hB ((s1.1 + 1), s1.2.1, s1.2.2.1, s1.2.2.2) (Option.some.inj hres).symm))
      · replace hres := z_ifn c hres
        refine z_aload_n hG dX0_compare_30 0 rfl ?_
        refine z_get (ci := 0) (C := RX0) (T := TX0) (N := 4) hG dX0_compare_31 iX0_compare_X0 1 (by decide) mX0_compare_7 rfl rfl 0 rfl rfl ?_
        refine z_aload_n hG dX0_compare_34 0 rfl ?_
        refine z_get (ci := 0) (C := RX0) (T := TX0) (N := 4) hG dX0_compare_35 iX0_compare_X0 3 (by decide) mX0_compare_0 rfl rfl 0 rfl rfl ?_
        refine z_aload_n hG dX0_compare_38 1 rfl ?_
        refine z_get (ci := 3) (C := RX3) (T := TX3) (N := 3) hG dX0_compare_39 iX0_compare_X3 0 (by decide) mX0_compare_8 rfl rfl 4 rfl rfl ?_
        refine z_iload_n hG dX0_compare_42 3 rfl ?_
        obtain ⟨hg, hres⟩ := z_guard hres
        refine z_iald hG dX0_compare_43 5 rfl hg ?_
        obtain ⟨hg, hres⟩ := z_guard hres
        refine z_iast (ws' := [(aX, .inr (0, [.ref aXb, .ref aXk, .ref aXw, .int s1.2.1])), (aXb, .inl (K.2 0, 12, .inl xB)), (aXk, .inl (K.2 0, 12, .inl (upd s1.2.2.1 s1.2.1.toNatClampNeg (nK s1.1.toNatClampNeg)))), (aXw, .inl (K.2 0, 12, .inl s1.2.2.2)), (aN, .inr (3, [.ref aNk, .ref aNn, .int nS])), (aNk, .inl (K.2 0, 12, .inl nK)), (aNn, .inl (K.2 0, 12, .inl nN)), (aY, .inr (2, [.ref aYl, .ref aYc, .ref aYq, .int yM])), (aYl, .inl (K.2 0, 12, .inl yL)), (aYc, .inl (K.2 0, 12, .inl yC)), (aYq, .inl (K.2 0, 12, .inl yQ))]) hG dX0_compare_44 2 rfl hg rfl ?_
        refine z_aload_n hG dX0_compare_45 0 rfl ?_
        refine z_get (ci := 0) (C := RX0) (T := TX0) (N := 4) hG dX0_compare_46 iX0_compare_X0 2 (by decide) mX0_compare_9 rfl rfl 0 rfl rfl ?_
        refine z_aload_n hG dX0_compare_49 0 rfl ?_
        refine z_get (ci := 0) (C := RX0) (T := TX0) (N := 4) hG dX0_compare_50 iX0_compare_X0 3 (by decide) mX0_compare_0 rfl rfl 0 rfl rfl ?_
        refine z_aload_n hG dX0_compare_53 0 rfl ?_
        refine z_get (ci := 0) (C := RX0) (T := TX0) (N := 4) hG dX0_compare_54 iX0_compare_X0 0 (by decide) mX0_compare_4 rfl rfl 0 rfl rfl ?_
        refine z_iload_n hG dX0_compare_57 3 rfl ?_
        obtain ⟨hg, hres⟩ := z_guard hres
        refine z_iald hG dX0_compare_58 1 rfl hg ?_
        obtain ⟨hg, hres⟩ := z_guard hres
        refine z_iast (ws' := [(aX, .inr (0, [.ref aXb, .ref aXk, .ref aXw, .int s1.2.1])), (aXb, .inl (K.2 0, 12, .inl xB)), (aXk, .inl (K.2 0, 12, .inl (upd s1.2.2.1 s1.2.1.toNatClampNeg (nK s1.1.toNatClampNeg)))), (aXw, .inl (K.2 0, 12, .inl (upd s1.2.2.2 s1.2.1.toNatClampNeg (xB s1.1.toNatClampNeg)))), (aN, .inr (3, [.ref aNk, .ref aNn, .int nS])), (aNk, .inl (K.2 0, 12, .inl nK)), (aNn, .inl (K.2 0, 12, .inl nN)), (aY, .inr (2, [.ref aYl, .ref aYc, .ref aYq, .int yM])), (aYl, .inl (K.2 0, 12, .inl yL)), (aYc, .inl (K.2 0, 12, .inl yC)), (aYq, .inl (K.2 0, 12, .inl yQ))]) hG dX0_compare_59 3 rfl hg rfl ?_
        refine z_aload_n hG dX0_compare_60 0 rfl ?_
        refine z_dup hG dX0_compare_61 rfl ?_
        refine z_get (ci := 0) (C := RX0) (T := TX0) (N := 4) hG dX0_compare_62 iX0_compare_X0 3 (by decide) mX0_compare_0 rfl rfl 0 rfl rfl ?_
        refine z_iconst 1 hG dX0_compare_65 (by decide) ?_
        refine z_iadd hG dX0_compare_66 ?_
        refine z_put (ci := 0) (C := RX0) (T := TX0) (N := 4) (ws' := [(aX, .inr (0, [.ref aXb, .ref aXk, .ref aXw, .int (s1.2.1 + 1)])), (aXb, .inl (K.2 0, 12, .inl xB)), (aXk, .inl (K.2 0, 12, .inl (upd s1.2.2.1 s1.2.1.toNatClampNeg (nK s1.1.toNatClampNeg)))), (aXw, .inl (K.2 0, 12, .inl (upd s1.2.2.2 s1.2.1.toNatClampNeg (xB s1.1.toNatClampNeg)))), (aN, .inr (3, [.ref aNk, .ref aNn, .int nS])), (aNk, .inl (K.2 0, 12, .inl nK)), (aNn, .inl (K.2 0, 12, .inl nN)), (aY, .inr (2, [.ref aYl, .ref aYc, .ref aYq, .int yM])), (aYl, .inl (K.2 0, 12, .inl yL)), (aYc, .inl (K.2 0, 12, .inl yC)), (aYq, .inl (K.2 0, 12, .inl yQ))]) hG dX0_compare_67 iX0_compare_X0 tyX0_ok nmX0 3 (by decide) mX0_compare_0 rfl rfl rfl rfl rfl rfl 0 rfl (Nat.le_of_ble_eq_true rfl) rfl ?_
        refine z_iinc (s1.1 + 1) (lv' := [(3, .int (s1.1 + 1)), (0, .ref aX), (1, .ref aN), (2, .ref aY)]) hG dX0_compare_70 3 rfl rfl (by decide) rfl ?_
        refine z_goto 7 hG dX0_compare_73 (by decide) ?_
        exact (z_lv [1, 2, 3, 0] rfl (hB ((s1.1 + 1), (s1.2.1 + 1), (upd s1.2.2.1 s1.2.1.toNatClampNeg (nK s1.1.toNatClampNeg)), (upd s1.2.2.2 s1.2.1.toNatClampNeg (xB s1.1.toNatClampNeg))) (Option.some.inj hres).symm))
