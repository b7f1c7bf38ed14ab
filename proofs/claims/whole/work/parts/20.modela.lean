theorem dX6_thrown_0 : decode cX6_thrown 0 = .ok (.aload_n 0, 1) := by decide +kernel
theorem dX6_thrown_1 : decode cX6_thrown 1 = .ok (.getfield 28, 3) := by decide +kernel
theorem dX6_thrown_4 : decode cX6_thrown 4 = .ok (.ireturn, 1) := by decide +kernel
theorem mX6_thrown_0 : Cond.fieldLink RX6 28 "LayerwaysModel" "thrown" "I" ∈ wsX6_thrown := by decide +kernel
theorem iX6_thrown_X6 : ∀ w ∈ u_ws RX6 TX6 8, w ∈ wsX6_thrown := by decide +kernel
def fX6_thrown (mT : Int32) : Option (Int32) := some mT
set_option maxRecDepth 100000 in
set_option maxHeartbeats 4000000 in
theorem kX6_thrown (l : Launch) (K : zK) (aM : Nat) (aMk : Nat) (aMj : Nat) (aMc : Nat) (aMw : Nat)  (mN : Int32) (mS : Int32) (mX : Int32) (mT : Int32) (r : Int32) (hres : fX6_thrown mT = some r) : zM l K yX6_thrown wsX6_thrown ({ frames := 0, cells := 0, slots := 0, locals := 0 }) [.ref aM] [(aM, .inr (6, [.ref aMk, .ref aMj, .int mN, .int mS, .ref aMc, .ref aMw, .int mX, .int mT]))] (fun _ : Unit => some (.int r)) (fun _ : Unit => [(aM, .inr (6, [.ref aMk, .ref aMj, .int mN, .int mS, .ref aMc, .ref aMw, .int mX, .int mT]))]) 0 0 := by
  refine zM.intI (cc := cX6_thrown) (maxL := 1) (ret := (some .int)) rfl (by decide) (Nat.le_of_ble_eq_true rfl) rfl ?_
  intro G hGl hG hN hE
  have hR : ∀ (pc : Nat) (lv : zL), decode cX6_thrown pc = .ok (.ireturn, 1) → zj G pc lv [.int r] [(aM, .inr (6, [.ref aMk, .ref aMj, .int mN, .int mS, .ref aMc, .ref aMw, .int mX, .int mT]))] 0 0 := fun pc lv d => hE () _ rfl pc lv d
  clear hE
  unfold fX6_thrown at hres
  show zj G 0 [(0, .ref aM)] [] [(aM, .inr (6, [.ref aMk, .ref aMj, .int mN, .int mS, .ref aMc, .ref aMw, .int mX, .int mT]))] 0 0
  refine z_aload_n hG dX6_thrown_0 0 rfl ?_
  refine z_get (ci := 6) (C := RX6) (T := TX6) (N := 8) hG dX6_thrown_1 iX6_thrown_X6 7 (by decide) mX6_thrown_0 rfl rfl 0 rfl rfl ?_
  obtain rfl := Option.some.inj hres
  exact (hR _ _ dX6_thrown_4)

theorem dX6_can_0 : decode cX6_can 0 = .ok (.aload_n 0, 1) := by decide +kernel
theorem dX6_can_1 : decode cX6_can 1 = .ok (.iload_n 1, 1) := by decide +kernel
theorem dX6_can_2 : decode cX6_can 2 = .ok (.ifCond .ne 7, 3) := by decide +kernel
theorem dX6_can_5 : decode cX6_can 5 = .ok (.iconst 1, 1) := by decide +kernel
theorem dX6_can_6 : decode cX6_can 6 = .ok (.goto 20, 3) := by decide +kernel
theorem dX6_can_9 : decode cX6_can 9 = .ok (.iload_n 2, 1) := by decide +kernel
theorem dX6_can_10 : decode cX6_can 10 = .ok (.ifCond .ne 7, 3) := by decide +kernel
theorem dX6_can_13 : decode cX6_can 13 = .ok (.iconst 2, 1) := by decide +kernel
theorem dX6_can_14 : decode cX6_can 14 = .ok (.goto 12, 3) := by decide +kernel
theorem dX6_can_17 : decode cX6_can 17 = .ok (.iload_n 3, 1) := by decide +kernel
theorem dX6_can_18 : decode cX6_can 18 = .ok (.ifCond .ne 7, 3) := by decide +kernel
theorem dX6_can_21 : decode cX6_can 21 = .ok (.iconst 3, 1) := by decide +kernel
theorem dX6_can_22 : decode cX6_can 22 = .ok (.goto 4, 3) := by decide +kernel
theorem dX6_can_25 : decode cX6_can 25 = .ok (.iconst 0, 1) := by decide +kernel
theorem dX6_can_26 : decode cX6_can 26 = .ok (.putfield 28, 3) := by decide +kernel
theorem dX6_can_29 : decode cX6_can 29 = .ok (.aload_n 0, 1) := by decide +kernel
theorem dX6_can_30 : decode cX6_can 30 = .ok (.getfield 28, 3) := by decide +kernel
theorem dX6_can_33 : decode cX6_can 33 = .ok (.ifCond .ne 7, 3) := by decide +kernel
theorem dX6_can_36 : decode cX6_can 36 = .ok (.iconst 1, 1) := by decide +kernel
theorem dX6_can_37 : decode cX6_can 37 = .ok (.goto 4, 3) := by decide +kernel
theorem dX6_can_40 : decode cX6_can 40 = .ok (.iconst 0, 1) := by decide +kernel
theorem dX6_can_41 : decode cX6_can 41 = .ok (.ireturn, 1) := by decide +kernel
theorem mX6_can_0 : Cond.fieldLink RX6 28 "LayerwaysModel" "thrown" "I" ∈ wsX6_can := by decide +kernel
theorem iX6_can_X6 : ∀ w ∈ u_ws RX6 TX6 8, w ∈ wsX6_can := by decide +kernel
def fX6_can (p0 : Int32) (p1 : Int32) (p2 : Int32) : Option (Int32 × Int32) := ((if p0 = 0 then some 1 else if p1 = 0 then some 2 else if p2 = 0 then some 3 else some 0) : Option Int32).bind fun v1 => if v1 = 0 then some (1, v1) else some (0, v1)
set_option maxRecDepth 100000 in
set_option maxHeartbeats 4000000 in
theorem kX6_can (l : Launch) (K : zK) (aM : Nat) (aMk : Nat) (aMj : Nat) (aMc : Nat) (aMw : Nat)  (mN : Int32) (mS : Int32) (mX : Int32) (mT : Int32) (p0 : Int32) (p1 : Int32) (p2 : Int32) (r : Int32 × Int32) (hres : fX6_can p0 p1 p2 = some r) : zM l K yX6_can wsX6_can ({ frames := 0, cells := 0, slots := 0, locals := 0 }) [.ref aM, .int p0, .int p1, .int p2] [(aM, .inr (6, [.ref aMk, .ref aMj, .int mN, .int mS, .ref aMc, .ref aMw, .int mX, .int mT]))] (fun _ : Unit => some (.int r.1)) (fun _ : Unit => [(aM, .inr (6, [.ref aMk, .ref aMj, .int mN, .int mS, .ref aMc, .ref aMw, .int mX, .int r.2]))]) 0 0 := by
  refine zM.intZ (cc := cX6_can) (maxL := 4) (ret := (some .boolean)) rfl (by decide) (Nat.le_of_ble_eq_true rfl) rfl ?_
  intro G hGl hG hN hE
  have hR : ∀ (pc : Nat) (lv : zL), narrow .boolean (.int r.1) = .int r.1 → decode cX6_can pc = .ok (.ireturn, 1) → zj G pc lv [.int r.1] [(aM, .inr (6, [.ref aMk, .ref aMj, .int mN, .int mS, .ref aMc, .ref aMw, .int mX, .int r.2]))] 0 0 := fun pc lv n d => hE () _ rfl n pc lv d
  clear hE
  unfold fX6_can at hres
  show zj G 0 [(0, .ref aM), (1, .int p0), (2, .int p1), (3, .int p2)] [] [(aM, .inr (6, [.ref aMk, .ref aMj, .int mN, .int mS, .ref aMc, .ref aMw, .int mX, .int mT]))] 0 0
  refine z_aload_n hG dX6_can_0 0 rfl ?_
  refine z_iload_n hG dX6_can_1 1 rfl ?_
  obtain ⟨v1, hv, hres⟩ := z_bind hres
  have J : zj G 26 [(0, .ref aM), (1, .int p0), (2, .int p1), (3, .int p2)] [.int v1, .ref aM] [(aM, .inr (6, [.ref aMk, .ref aMj, .int mN, .int mS, .ref aMc, .ref aMw, .int mX, .int mT]))] 0 0 := by
    refine z_put (ci := 6) (C := RX6) (T := TX6) (N := 8) (ws' := [(aM, .inr (6, [.ref aMk, .ref aMj, .int mN, .int mS, .ref aMc, .ref aMw, .int mX, .int v1]))]) hG dX6_can_26 iX6_can_X6 tyX6_ok nmX6 7 (by decide) mX6_can_0 rfl rfl rfl rfl rfl rfl 0 rfl (Nat.le_of_ble_eq_true rfl) rfl ?_
    refine z_aload_n hG dX6_can_29 0 rfl ?_
    refine z_get (ci := 6) (C := RX6) (T := TX6) (N := 8) hG dX6_can_30 iX6_can_X6 7 (by decide) mX6_can_0 rfl rfl 0 rfl rfl ?_
    refine z_if_ne 40 hG dX6_can_33 (by decide) (fun c => ?_) (fun c => ?_)
    · replace hres := z_ifn c hres
      refine z_iconst 0 hG dX6_can_40 (by decide) ?_
      obtain rfl := Option.some.inj hres
      exact (hR _ _ (z_nar01 (Or.inl rfl)) dX6_can_41)
    · replace hres := z_ifp c hres
      refine z_iconst 1 hG dX6_can_36 (by decide) ?_
      refine z_goto 41 hG dX6_can_37 (by decide) ?_
      obtain rfl := Option.some.inj hres
      exact (hR _ _ (z_nar01 (Or.inr rfl)) dX6_can_41)
  replace hres := hv
  clear hv
  refine z_if_ne 9 hG dX6_can_2 (by decide) (fun c => ?_) (fun c => ?_)
  · replace hres := z_ifn c hres
    refine z_iload_n hG dX6_can_9 2 rfl ?_
    refine z_if_ne 17 hG dX6_can_10 (by decide) (fun c => ?_) (fun c => ?_)
    · replace hres := z_ifn c hres
      refine z_iload_n hG dX6_can_17 3 rfl ?_
      refine z_if_ne 25 hG dX6_can_18 (by decide) (fun c => ?_) (fun c => ?_)
      · replace hres := z_ifn c hres
        refine z_iconst 0 hG dX6_can_25 (by decide) ?_
        obtain rfl := Option.some.inj hres
        exact J
      · replace hres := z_ifp c hres
        refine z_iconst 3 hG dX6_can_21 (by decide) ?_
        refine z_goto 26 hG dX6_can_22 (by decide) ?_
        obtain rfl := Option.some.inj hres
        exact J
    · replace hres := z_ifp c hres
      refine z_iconst 2 hG dX6_can_13 (by decide) ?_
      refine z_goto 26 hG dX6_can_14 (by decide) ?_
      obtain rfl := Option.some.inj hres
      exact J
  · replace hres := z_ifp c hres
    refine z_iconst 1 hG dX6_can_5 (by decide) ?_
    refine z_goto 26 hG dX6_can_6 (by decide) ?_
    obtain rfl := Option.some.inj hres
    exact J

theorem dX6_at_0 : decode cX6_at 0 = .ok (.iconst 0, 1) := by decide +kernel
theorem dX6_at_1 : decode cX6_at 1 = .ok (.istore_n 2, 1) := by decide +kernel
theorem dX6_at_2 : decode cX6_at 2 = .ok (.iload_n 2, 1) := by decide +kernel
theorem dX6_at_3 : decode cX6_at 3 = .ok (.aload_n 0, 1) := by decide +kernel
theorem dX6_at_4 : decode cX6_at 4 = .ok (.getfield 31, 3) := by decide +kernel
theorem dX6_at_7 : decode cX6_at 7 = .ok (.if_icmp .ge 21, 3) := by decide +kernel
theorem dX6_at_10 : decode cX6_at 10 = .ok (.aload_n 0, 1) := by decide +kernel
theorem dX6_at_11 : decode cX6_at 11 = .ok (.getfield 9, 3) := by decide +kernel
theorem dX6_at_14 : decode cX6_at 14 = .ok (.iload_n 2, 1) := by decide +kernel
theorem dX6_at_15 : decode cX6_at 15 = .ok (.iaload, 1) := by decide +kernel
theorem dX6_at_16 : decode cX6_at 16 = .ok (.iload_n 1, 1) := by decide +kernel
theorem dX6_at_17 : decode cX6_at 17 = .ok (.if_icmp .ne 5, 3) := by decide +kernel
theorem dX6_at_20 : decode cX6_at 20 = .ok (.iload_n 2, 1) := by decide +kernel
theorem dX6_at_21 : decode cX6_at 21 = .ok (.ireturn, 1) := by decide +kernel
theorem dX6_at_22 : decode cX6_at 22 = .ok (.iinc 2 1, 3) := by decide +kernel
theorem dX6_at_25 : decode cX6_at 25 = .ok (.goto (-23), 3) := by decide +kernel
theorem dX6_at_28 : decode cX6_at 28 = .ok (.iconst (-1), 1) := by decide +kernel
theorem dX6_at_29 : decode cX6_at 29 = .ok (.ireturn, 1) := by decide +kernel
theorem mX6_at_0 : Cond.fieldLink RX6 31 "LayerwaysModel" "many" "I" ∈ wsX6_at := by decide +kernel
theorem iX6_at_X6 : ∀ w ∈ u_ws RX6 TX6 8, w ∈ wsX6_at := by decide +kernel
theorem mX6_at_2 : Cond.fieldLink RX6 9 "LayerwaysModel" "keys" "[I" ∈ wsX6_at := by decide +kernel
def sX6_at_2 (mN : Int32) (mK : (Nat → Int32)) (p0 : Int32) (s1 : Int32) : Option ((Int32 ⊕ Int32) ⊕ Int32) := if mN ≤ s1 then some (.inl (.inr s1)) else if zin s1 12 then if (mK s1.toNatClampNeg) = p0 then some (.inl (.inl s1)) else some (.inr (s1 + 1)) else none
def fX6_at (mN : Int32) (mK : (Nat → Int32)) (p0 : Int32) : Option (Int32) := (zloop (sX6_at_2 mN mK p0) 32 0).bind fun e3 => Sum.elim (fun p5 : Int32 => some p5) (fun e3 : Int32 => some (-1)) e3
set_option maxRecDepth 100000 in
set_option maxHeartbeats 4000000 in
theorem kX6_at (l : Launch) (K : zK) (aM : Nat) (aMk : Nat) (aMj : Nat) (aMc : Nat) (aMw : Nat) (aMr : (Nat → Nat))  (mN : Int32) (mS : Int32) (mX : Int32) (mT : Int32) (mK : (Nat → Int32)) (mC : (Nat → Int32)) (mW : (Nat → Int32)) (mJ : (Nat → Nat → Int32)) (p0 : Int32) (r : Int32) (hres : fX6_at mN mK p0 = some r) : zM l K yX6_at wsX6_at ({ frames := 0, cells := 0, slots := 0, locals := 0 }) [.ref aM, .int p0] ([(aM, .inr (6, [.ref aMk, .ref aMj, .int mN, .int mS, .ref aMc, .ref aMw, .int mX, .int mT])), (aMk, .inl (K.2 0, 12, .inl mK)), (aMj, .inl (K.2 3, 12, .inr (.inr (.inr (.inr (zo aMr 12)))))), (aMc, .inl (K.2 0, 12, .inl mC)), (aMw, .inl (K.2 0, 12, .inl mW))] ++ zR12Z K aMr mJ) (fun _ : Unit => some (.int r)) (fun _ : Unit => ([(aM, .inr (6, [.ref aMk, .ref aMj, .int mN, .int mS, .ref aMc, .ref aMw, .int mX, .int mT])), (aMk, .inl (K.2 0, 12, .inl mK)), (aMj, .inl (K.2 3, 12, .inr (.inr (.inr (.inr (zo aMr 12)))))), (aMc, .inl (K.2 0, 12, .inl mC)), (aMw, .inl (K.2 0, 12, .inl mW))] ++ zR12Z K aMr mJ)) 0 0 := by
  refine zM.intI (cc := cX6_at) (maxL := 3) (ret := (some .int)) rfl (by decide) (Nat.le_of_ble_eq_true rfl) rfl ?_
  intro G hGl hG hN hE
  have hR : ∀ (pc : Nat) (lv : zL), decode cX6_at pc = .ok (.ireturn, 1) → zj G pc lv [.int r] ([(aM, .inr (6, [.ref aMk, .ref aMj, .int mN, .int mS, .ref aMc, .ref aMw, .int mX, .int mT])), (aMk, .inl (K.2 0, 12, .inl mK)), (aMj, .inl (K.2 3, 12, .inr (.inr (.inr (.inr (zo aMr 12)))))), (aMc, .inl (K.2 0, 12, .inl mC)), (aMw, .inl (K.2 0, 12, .inl mW))] ++ zR12Z K aMr mJ) 0 0 := fun pc lv d => hE () _ rfl pc lv d
  clear hE
  unfold fX6_at at hres
  show zj G 0 [(0, .ref aM), (1, .int p0)] [] ([(aM, .inr (6, [.ref aMk, .ref aMj, .int mN, .int mS, .ref aMc, .ref aMw, .int mX, .int mT])), (aMk, .inl (K.2 0, 12, .inl mK)), (aMj, .inl (K.2 3, 12, .inr (.inr (.inr (.inr (zo aMr 12)))))), (aMc, .inl (K.2 0, 12, .inl mC)), (aMw, .inl (K.2 0, 12, .inl mW))] ++ zR12Z K aMr mJ) 0 0
  refine z_iconst 0 hG dX6_at_0 (by decide) ?_
  refine z_istore_n (lv' := [(2, .int 0), (0, .ref aM), (1, .int p0)]) hG dX6_at_1 (by decide) rfl ?_
  obtain ⟨e3, hx, hres⟩ := z_bind hres
  refine z_lv [1, 2, 0] (lv' := [(0, .ref aM), (1, .int p0), (2, .int 0)]) rfl ?_
  refine z_loopE hx (fun s1 : Int32 => [(0, .ref aM), (1, .int p0), (2, .int s1)]) (fun s1 : Int32 => ([(aM, .inr (6, [.ref aMk, .ref aMj, .int mN, .int mS, .ref aMc, .ref aMw, .int mX, .int mT])), (aMk, .inl (K.2 0, 12, .inl mK)), (aMj, .inl (K.2 3, 12, .inr (.inr (.inr (.inr (zo aMr 12)))))), (aMc, .inl (K.2 0, 12, .inl mC)), (aMw, .inl (K.2 0, 12, .inl mW))] ++ zR12Z K aMr mJ)) (fun p5 : Int32 => ∀ (pc : Nat) (lv : zL), decode cX6_at pc = .ok (.ireturn, 1) → zj G pc lv [.int p5] ([(aM, .inr (6, [.ref aMk, .ref aMj, .int mN, .int mS, .ref aMc, .ref aMw, .int mX, .int mT])), (aMk, .inl (K.2 0, 12, .inl mK)), (aMj, .inl (K.2 3, 12, .inr (.inr (.inr (.inr (zo aMr 12)))))), (aMc, .inl (K.2 0, 12, .inl mC)), (aMw, .inl (K.2 0, 12, .inl mW))] ++ zR12Z K aMr mJ) 0 0) (fun e3 : Int32 => zj G 28 [(0, .ref aM), (1, .int p0), (2, .int e3)] [] ([(aM, .inr (6, [.ref aMk, .ref aMj, .int mN, .int mS, .ref aMc, .ref aMw, .int mX, .int mT])), (aMk, .inl (K.2 0, 12, .inl mK)), (aMj, .inl (K.2 3, 12, .inr (.inr (.inr (.inr (zo aMr 12)))))), (aMc, .inl (K.2 0, 12, .inl mC)), (aMw, .inl (K.2 0, 12, .inl mW))] ++ zR12Z K aMr mJ) 0 0) (fun p5 hp => ?_) (fun e3 hp => ?_) ?_
  · subst hp
    replace hres := z_eliml hres
    obtain rfl := Option.some.inj hres
    exact hR
  · subst hp
    replace hres := z_elimr hres
    refine z_iconst (-1) hG dX6_at_28 (by decide) ?_
    obtain rfl := Option.some.inj hres
    exact (hR _ _ dX6_at_29)
  · intro s1 w2 hres hX1 hX2 hB
    unfold sX6_at_2 at hres
    refine z_iload_n hG dX6_at_2 2 rfl ?_
    refine z_aload_n hG dX6_at_3 0 rfl ?_
    refine z_get (ci := 6) (C := RX6) (T := TX6) (N := 8) hG dX6_at_4 iX6_at_X6 2 (by decide) mX6_at_0 rfl rfl 0 rfl rfl ?_
    refine z_icmp_ge 28 hG dX6_at_7 (by decide) (fun c => ?_) (fun c => ?_)
    · replace hres := z_ifp c hres
      exact (hX2 s1 (Option.some.inj hres).symm)
    · replace hres := z_ifn c hres
      refine z_aload_n hG dX6_at_10 0 rfl ?_
      refine z_get (ci := 6) (C := RX6) (T := TX6) (N := 8) hG dX6_at_11 iX6_at_X6 0 (by decide) mX6_at_2 rfl rfl 0 rfl rfl ?_
      refine z_iload_n hG dX6_at_14 2 rfl ?_
      obtain ⟨hg, hres⟩ := z_guard hres
      refine z_iald hG dX6_at_15 1 rfl hg ?_
      refine z_iload_n hG dX6_at_16 1 rfl ?_
      refine z_icmp_ne 22 hG dX6_at_17 (by decide) (fun c => ?_) (fun c => ?_)
      · replace hres := z_ifn c hres
        refine z_iinc (s1 + 1) (lv' := [(2, .int (s1 + 1)), (0, .ref aM), (1, .int p0)]) hG dX6_at_22 2 rfl rfl (by decide) rfl ?_
        refine z_goto 2 hG dX6_at_25 (by decide) ?_
        exact (z_lv [1, 2, 0] rfl (hB (s1 + 1) (Option.some.inj hres).symm))
      · replace hres := z_ifp c hres
        refine z_iload_n hG dX6_at_20 2 rfl ?_
        exact (hX1 s1 (Option.some.inj hres).symm _ _ dX6_at_21)

theorem dX6_is_0 : decode cX6_is 0 = .ok (.aload_n 0, 1) := by decide +kernel
theorem dX6_is_1 : decode cX6_is 1 = .ok (.iload_n 1, 1) := by decide +kernel
theorem dX6_is_2 : decode cX6_is 2 = .ok (.invokevirtual 34, 3) := by decide +kernel
theorem dX6_is_5 : decode cX6_is 5 = .ok (.ifCond .lt 7, 3) := by decide +kernel
theorem dX6_is_8 : decode cX6_is 8 = .ok (.iconst 1, 1) := by decide +kernel
theorem dX6_is_9 : decode cX6_is 9 = .ok (.goto 4, 3) := by decide +kernel
theorem dX6_is_12 : decode cX6_is 12 = .ok (.iconst 0, 1) := by decide +kernel
theorem dX6_is_13 : decode cX6_is 13 = .ok (.ireturn, 1) := by decide +kernel
set_option maxRecDepth 20000 in
theorem ggX6_is_X6_at : GoodIn wsX6_is wsX6_at := goodIn_r _ [5, 6, 7, 8, 9, 10, 11, 12, 13, 14, 15] (by decide +kernel) (by decide +kernel)
set_option maxRecDepth 20000 in
theorem gX6_is_X6_at : GoodIn wsX6_is (wsV RX6 34 RX6 yX6_at wsX6_at) := goodIn_app (goodIn_of _ (by decide +kernel)) ggX6_is_X6_at
def fX6_is (mN : Int32) (mK : (Nat → Int32)) (p0 : Int32) : Option (Int32) := (fX6_at mN mK p0).bind fun v1 => if v1 < 0 then some 0 else some 1
set_option maxRecDepth 100000 in
set_option maxHeartbeats 4000000 in
theorem kX6_is (l : Launch) (K : zK) (aM : Nat) (aMk : Nat) (aMj : Nat) (aMc : Nat) (aMw : Nat) (aMr : (Nat → Nat))  (mN : Int32) (mS : Int32) (mX : Int32) (mT : Int32) (mK : (Nat → Int32)) (mC : (Nat → Int32)) (mW : (Nat → Int32)) (mJ : (Nat → Nat → Int32)) (p0 : Int32) (r : Int32) (hres : fX6_is mN mK p0 = some r) : zM l K yX6_is wsX6_is ({ frames := 1, cells := 0, slots := 0, locals := 22 }) [.ref aM, .int p0] ([(aM, .inr (6, [.ref aMk, .ref aMj, .int mN, .int mS, .ref aMc, .ref aMw, .int mX, .int mT])), (aMk, .inl (K.2 0, 12, .inl mK)), (aMj, .inl (K.2 3, 12, .inr (.inr (.inr (.inr (zo aMr 12)))))), (aMc, .inl (K.2 0, 12, .inl mC)), (aMw, .inl (K.2 0, 12, .inl mW))] ++ zR12Z K aMr mJ) (fun _ : Unit => some (.int r)) (fun _ : Unit => ([(aM, .inr (6, [.ref aMk, .ref aMj, .int mN, .int mS, .ref aMc, .ref aMw, .int mX, .int mT])), (aMk, .inl (K.2 0, 12, .inl mK)), (aMj, .inl (K.2 3, 12, .inr (.inr (.inr (.inr (zo aMr 12)))))), (aMc, .inl (K.2 0, 12, .inl mC)), (aMw, .inl (K.2 0, 12, .inl mW))] ++ zR12Z K aMr mJ)) 0 0 := by
  refine zM.intZ (cc := cX6_is) (maxL := 2) (ret := (some .boolean)) rfl (by decide) (Nat.le_of_ble_eq_true rfl) rfl ?_
  intro G hGl hG hN hE
  have hR : ∀ (pc : Nat) (lv : zL), narrow .boolean (.int r) = .int r → decode cX6_is pc = .ok (.ireturn, 1) → zj G pc lv [.int r] ([(aM, .inr (6, [.ref aMk, .ref aMj, .int mN, .int mS, .ref aMc, .ref aMw, .int mX, .int mT])), (aMk, .inl (K.2 0, 12, .inl mK)), (aMj, .inl (K.2 3, 12, .inr (.inr (.inr (.inr (zo aMr 12)))))), (aMc, .inl (K.2 0, 12, .inl mC)), (aMw, .inl (K.2 0, 12, .inl mW))] ++ zR12Z K aMr mJ) 0 0 := fun pc lv n d => hE () _ rfl n pc lv d
  clear hE
  unfold fX6_is at hres
  show zj G 0 [(0, .ref aM), (1, .int p0)] [] ([(aM, .inr (6, [.ref aMk, .ref aMj, .int mN, .int mS, .ref aMc, .ref aMw, .int mX, .int mT])), (aMk, .inl (K.2 0, 12, .inl mK)), (aMj, .inl (K.2 3, 12, .inr (.inr (.inr (.inr (zo aMr 12)))))), (aMc, .inl (K.2 0, 12, .inl mC)), (aMw, .inl (K.2 0, 12, .inl mW))] ++ zR12Z K aMr mJ) 0 0
  refine z_aload_n hG dX6_is_0 0 rfl ?_
  refine z_iload_n hG dX6_is_1 1 rfl ?_
  obtain ⟨v1, hv, hres⟩ := z_bind hres
  refine z_callV (As := [.int p0]) (rest := []) (wr := ([] : va_W)) (ws' := (fun _ : Unit => ([(aM, .inr (6, [.ref aMk, .ref aMj, .int mN, .int mS, .ref aMc, .ref aMw, .int mX, .int mT])), (aMk, .inl (K.2 0, 12, .inl mK)), (aMj, .inl (K.2 3, 12, .inr (.inr (.inr (.inr (zo aMr 12)))))), (aMc, .inl (K.2 0, 12, .inl mC)), (aMw, .inl (K.2 0, 12, .inl mW))] ++ zR12Z K aMr mJ))) (stk := (fun _ : Unit => [.int v1])) (kc' := 0) (ks' := 0) (n := 1) (C := RX6) (ci := 6) hG dX6_is_2 (kX6_at _ K aM aMk aMj aMc aMw aMr mN mS mX mT mK mC mW mJ p0 v1 hv) gX6_is_X6_at rfl rfl rfl ⟨rfl, by decide, by decide, rfl⟩ ⟨by decide, by decide⟩ (Nat.le_of_ble_eq_true rfl) ⟨(Nat.le_of_ble_eq_true rfl), (Nat.le_of_ble_eq_true rfl)⟩ [0, 1, 2, 3, 4, 5, 6, 7, 8, 9, 10, 11, 12, 13, 14, 15, 16] [] [0, 1, 2, 3, 4, 5, 6, 7, 8, 9, 10, 11, 12, 13, 14, 15, 16] rfl rfl rfl rfl (by decide) rfl (fun _ => rfl) (fun _ => rfl) rfl rfl rfl 0 rfl rfl rfl rfl (fun _ => ?_)
  refine z_if_lt 12 hG dX6_is_5 (by decide) (fun c => ?_) (fun c => ?_)
  · replace hres := z_ifp c hres
    refine z_iconst 0 hG dX6_is_12 (by decide) ?_
    obtain rfl := Option.some.inj hres
    exact (hR _ _ (z_nar01 (Or.inl rfl)) dX6_is_13)
  · replace hres := z_ifn c hres
    refine z_iconst 1 hG dX6_is_8 (by decide) ?_
    refine z_goto 13 hG dX6_is_9 (by decide) ?_
    obtain rfl := Option.some.inj hres
    exact (hR _ _ (z_nar01 (Or.inr rfl)) dX6_is_13)

theorem dX6_degree_0 : decode cX6_degree 0 = .ok (.iconst 0, 1) := by decide +kernel
theorem dX6_degree_1 : decode cX6_degree 1 = .ok (.istore_n 2, 1) := by decide +kernel
theorem dX6_degree_2 : decode cX6_degree 2 = .ok (.iconst 0, 1) := by decide +kernel
theorem dX6_degree_3 : decode cX6_degree 3 = .ok (.istore_n 3, 1) := by decide +kernel
theorem dX6_degree_4 : decode cX6_degree 4 = .ok (.iload_n 3, 1) := by decide +kernel
theorem dX6_degree_5 : decode cX6_degree 5 = .ok (.aload_n 0, 1) := by decide +kernel
theorem dX6_degree_6 : decode cX6_degree 6 = .ok (.getfield 31, 3) := by decide +kernel
theorem dX6_degree_9 : decode cX6_degree 9 = .ok (.if_icmp .ge 28, 3) := by decide +kernel
theorem dX6_degree_12 : decode cX6_degree 12 = .ok (.iload_n 2, 1) := by decide +kernel
theorem dX6_degree_13 : decode cX6_degree 13 = .ok (.aload_n 0, 1) := by decide +kernel
theorem dX6_degree_14 : decode cX6_degree 14 = .ok (.getfield 15, 3) := by decide +kernel
theorem dX6_degree_17 : decode cX6_degree 17 = .ok (.iload_n 1, 1) := by decide +kernel
theorem dX6_degree_18 : decode cX6_degree 18 = .ok (.aaload, 1) := by decide +kernel
theorem dX6_degree_19 : decode cX6_degree 19 = .ok (.iload_n 3, 1) := by decide +kernel
theorem dX6_degree_20 : decode cX6_degree 20 = .ok (.baload, 1) := by decide +kernel
theorem dX6_degree_21 : decode cX6_degree 21 = .ok (.ifCond .eq 7, 3) := by decide +kernel
theorem dX6_degree_24 : decode cX6_degree 24 = .ok (.iconst 1, 1) := by decide +kernel
theorem dX6_degree_25 : decode cX6_degree 25 = .ok (.goto 4, 3) := by decide +kernel
theorem dX6_degree_28 : decode cX6_degree 28 = .ok (.iconst 0, 1) := by decide +kernel
theorem dX6_degree_29 : decode cX6_degree 29 = .ok (.iadd, 1) := by decide +kernel
theorem dX6_degree_30 : decode cX6_degree 30 = .ok (.istore_n 2, 1) := by decide +kernel
theorem dX6_degree_31 : decode cX6_degree 31 = .ok (.iinc 3 1, 3) := by decide +kernel
theorem dX6_degree_34 : decode cX6_degree 34 = .ok (.goto (-30), 3) := by decide +kernel
theorem dX6_degree_37 : decode cX6_degree 37 = .ok (.iload_n 2, 1) := by decide +kernel
theorem dX6_degree_38 : decode cX6_degree 38 = .ok (.ireturn, 1) := by decide +kernel
theorem mX6_degree_0 : Cond.fieldLink RX6 31 "LayerwaysModel" "many" "I" ∈ wsX6_degree := by decide +kernel
theorem iX6_degree_X6 : ∀ w ∈ u_ws RX6 TX6 8, w ∈ wsX6_degree := by decide +kernel
theorem mX6_degree_2 : Cond.fieldLink RX6 15 "LayerwaysModel" "joined" "[[Z" ∈ wsX6_degree := by decide +kernel
def sX6_degree_4 (mN : Int32) (mJ : (Nat → Nat → Int32)) (p0 : Int32) (s3 : Int32 × Int32) : Option ((Int32 × Int32) ⊕ (Int32 × Int32)) := if mN ≤ s3.2 then some (.inl (s3.1, s3.2)) else if zin p0 12 then if zin s3.2 12 then if (mJ p0.toNatClampNeg s3.2.toNatClampNeg) = 0 then some (.inr ((s3.1 + 0), (s3.2 + 1))) else some (.inr ((s3.1 + 1), (s3.2 + 1))) else none else none
def fX6_degree (mN : Int32) (mJ : (Nat → Nat → Int32)) (p0 : Int32) : Option (Int32) := (zloop (sX6_degree_4 mN mJ p0) 32 (0, 0)).bind fun e5 => some e5.1
set_option maxRecDepth 100000 in
set_option maxHeartbeats 4000000 in
theorem kX6_degree (l : Launch) (K : zK) (aM : Nat) (aMk : Nat) (aMj : Nat) (aMc : Nat) (aMw : Nat) (aMr : (Nat → Nat))  (mN : Int32) (mS : Int32) (mX : Int32) (mT : Int32) (mK : (Nat → Int32)) (mC : (Nat → Int32)) (mW : (Nat → Int32)) (mJ : (Nat → Nat → Int32)) (p0 : Int32) (r : Int32) (hres : fX6_degree mN mJ p0 = some r) : zM l K yX6_degree wsX6_degree ({ frames := 0, cells := 0, slots := 0, locals := 0 }) [.ref aM, .int p0] ([(aM, .inr (6, [.ref aMk, .ref aMj, .int mN, .int mS, .ref aMc, .ref aMw, .int mX, .int mT])), (aMk, .inl (K.2 0, 12, .inl mK)), (aMj, .inl (K.2 3, 12, .inr (.inr (.inr (.inr (zo aMr 12)))))), (aMc, .inl (K.2 0, 12, .inl mC)), (aMw, .inl (K.2 0, 12, .inl mW))] ++ zR12Z K aMr mJ) (fun _ : Unit => some (.int r)) (fun _ : Unit => ([(aM, .inr (6, [.ref aMk, .ref aMj, .int mN, .int mS, .ref aMc, .ref aMw, .int mX, .int mT])), (aMk, .inl (K.2 0, 12, .inl mK)), (aMj, .inl (K.2 3, 12, .inr (.inr (.inr (.inr (zo aMr 12)))))), (aMc, .inl (K.2 0, 12, .inl mC)), (aMw, .inl (K.2 0, 12, .inl mW))] ++ zR12Z K aMr mJ)) 0 0 := by
  refine zM.intI (cc := cX6_degree) (maxL := 4) (ret := (some .int)) rfl (by decide) (Nat.le_of_ble_eq_true rfl) rfl ?_
  intro G hGl hG hN hE
  have hR : ∀ (pc : Nat) (lv : zL), decode cX6_degree pc = .ok (.ireturn, 1) → zj G pc lv [.int r] ([(aM, .inr (6, [.ref aMk, .ref aMj, .int mN, .int mS, .ref aMc, .ref aMw, .int mX, .int mT])), (aMk, .inl (K.2 0, 12, .inl mK)), (aMj, .inl (K.2 3, 12, .inr (.inr (.inr (.inr (zo aMr 12)))))), (aMc, .inl (K.2 0, 12, .inl mC)), (aMw, .inl (K.2 0, 12, .inl mW))] ++ zR12Z K aMr mJ) 0 0 := fun pc lv d => hE () _ rfl pc lv d
  clear hE
  unfold fX6_degree at hres
  show zj G 0 [(0, .ref aM), (1, .int p0)] [] ([(aM, .inr (6, [.ref aMk, .ref aMj, .int mN, .int mS, .ref aMc, .ref aMw, .int mX, .int mT])), (aMk, .inl (K.2 0, 12, .inl mK)), (aMj, .inl (K.2 3, 12, .inr (.inr (.inr (.inr (zo aMr 12)))))), (aMc, .inl (K.2 0, 12, .inl mC)), (aMw, .inl (K.2 0, 12, .inl mW))] ++ zR12Z K aMr mJ) 0 0
  refine z_iconst 0 hG dX6_degree_0 (by decide) ?_
  refine z_istore_n (lv' := [(2, .int 0), (0, .ref aM), (1, .int p0)]) hG dX6_degree_1 (by decide) rfl ?_
  refine z_iconst 0 hG dX6_degree_2 (by decide) ?_
  refine z_istore_n (lv' := [(3, .int 0), (2, .int 0), (0, .ref aM), (1, .int p0)]) hG dX6_degree_3 (by decide) rfl ?_
  obtain ⟨e5, hx, hres⟩ := z_bind hres
  refine z_lv [2, 3, 1, 0] (lv' := [(0, .ref aM), (1, .int p0), (2, .int 0), (3, .int 0)]) rfl ?_
  refine z_loop hx (fun s3 : Int32 × Int32 => [(0, .ref aM), (1, .int p0), (2, .int s3.1), (3, .int s3.2)]) (fun s3 : Int32 × Int32 => ([(aM, .inr (6, [.ref aMk, .ref aMj, .int mN, .int mS, .ref aMc, .ref aMw, .int mX, .int mT])), (aMk, .inl (K.2 0, 12, .inl mK)), (aMj, .inl (K.2 3, 12, .inr (.inr (.inr (.inr (zo aMr 12)))))), (aMc, .inl (K.2 0, 12, .inl mC)), (aMw, .inl (K.2 0, 12, .inl mW))] ++ zR12Z K aMr mJ)) (fun e5 : Int32 × Int32 => zj G 37 [(0, .ref aM), (1, .int p0), (2, .int e5.1), (3, .int e5.2)] [] ([(aM, .inr (6, [.ref aMk, .ref aMj, .int mN, .int mS, .ref aMc, .ref aMw, .int mX, .int mT])), (aMk, .inl (K.2 0, 12, .inl mK)), (aMj, .inl (K.2 3, 12, .inr (.inr (.inr (.inr (zo aMr 12)))))), (aMc, .inl (K.2 0, 12, .inl mC)), (aMw, .inl (K.2 0, 12, .inl mW))] ++ zR12Z K aMr mJ) 0 0) ?_ ?_
  · refine z_iload_n hG dX6_degree_37 2 rfl ?_
    obtain rfl := Option.some.inj hres
    exact (hR _ _ dX6_degree_38)
  · intro s3 w4 hres hX hB
    unfold sX6_degree_4 at hres
    refine z_iload_n hG dX6_degree_4 3 rfl ?_
    refine z_aload_n hG dX6_degree_5 0 rfl ?_
    refine z_get (ci := 6) (C := RX6) (T := TX6) (N := 8) hG dX6_degree_6 iX6_degree_X6 2 (by decide) mX6_degree_0 rfl rfl 0 rfl rfl ?_
    refine z_icmp_ge 37 hG dX6_degree_9 (by decide) (fun c => ?_) (fun c => ?_)
    · replace hres := z_ifp c hres
      exact (hX (s3.1, s3.2) (Option.some.inj hres).symm)
    · replace hres := z_ifn c hres
      refine z_iload_n hG dX6_degree_12 2 rfl ?_
      refine z_aload_n hG dX6_degree_13 0 rfl ?_
      refine z_get (ci := 6) (C := RX6) (T := TX6) (N := 8) hG dX6_degree_14 iX6_degree_X6 1 (by decide) mX6_degree_2 rfl rfl 0 rfl rfl ?_
      refine z_iload_n hG dX6_degree_17 1 rfl ?_
      obtain ⟨hr7, hres⟩ := z_guard hres
      refine z_aaldZ hG dX6_degree_18 2 rfl hr7 ?_
      refine z_iload_n hG dX6_degree_19 3 rfl ?_
      obtain ⟨hg, hres⟩ := z_guard hres
      refine z_zaldG (M := mJ) hG dX6_degree_20 5 (z_12 rfl rfl rfl rfl rfl rfl rfl rfl rfl rfl rfl rfl) hr7 hg ?_
      refine z_if_eq 28 hG dX6_degree_21 (by decide) (fun c => ?_) (fun c => ?_)
      · replace hres := z_ifp c hres
        refine z_iconst 0 hG dX6_degree_28 (by decide) ?_
        refine z_iadd hG dX6_degree_29 ?_
        refine z_istore_n (lv' := [(2, .int (s3.1 + 0)), (0, .ref aM), (1, .int p0), (3, .int s3.2)]) hG dX6_degree_30 (by decide) rfl ?_
        refine z_iinc (s3.2 + 1) (lv' := [(3, .int (s3.2 + 1)), (2, .int (s3.1 + 0)), (0, .ref aM), (1, .int p0)]) hG dX6_degree_31 3 rfl rfl (by decide) rfl ?_
        refine z_goto 4 hG dX6_degree_34 (by decide) ?_
        exact (z_lv [2, 3, 1, 0] rfl (hB ((s3.1 + 0), (s3.2 + 1)) (Option.some.inj hres).symm))
      · replace hres := z_ifn c hres
        refine z_iconst 1 hG dX6_degree_24 (by decide) ?_
        refine z_goto 29 hG dX6_degree_25 (by decide) ?_
        refine z_iadd hG dX6_degree_29 ?_
        refine z_istore_n (lv' := [(2, .int (s3.1 + 1)), (0, .ref aM), (1, .int p0), (3, .int s3.2)]) hG dX6_degree_30 (by decide) rfl ?_
        refine z_iinc (s3.2 + 1) (lv' := [(3, .int (s3.2 + 1)), (2, .int (s3.1 + 1)), (0, .ref aM), (1, .int p0)]) hG dX6_degree_31 3 rfl rfl (by decide) rfl ?_
        refine z_goto 4 hG dX6_degree_34 (by decide) ?_
        exact (z_lv [2, 3, 1, 0] rfl (hB ((s3.1 + 1), (s3.2 + 1)) (Option.some.inj hres).symm))

theorem dX6_places_0 : decode cX6_places 0 = .ok (.aload_n 0, 1) := by decide +kernel
theorem dX6_places_1 : decode cX6_places 1 = .ok (.iconst 0, 1) := by decide +kernel
theorem dX6_places_2 : decode cX6_places 2 = .ok (.putfield 28, 3) := by decide +kernel
theorem dX6_places_5 : decode cX6_places 5 = .ok (.aload_n 0, 1) := by decide +kernel
theorem dX6_places_6 : decode cX6_places 6 = .ok (.getfield 31, 3) := by decide +kernel
theorem dX6_places_9 : decode cX6_places 9 = .ok (.ireturn, 1) := by decide +kernel
theorem mX6_places_0 : Cond.fieldLink RX6 28 "LayerwaysModel" "thrown" "I" ∈ wsX6_places := by decide +kernel
theorem iX6_places_X6 : ∀ w ∈ u_ws RX6 TX6 8, w ∈ wsX6_places := by decide +kernel
theorem mX6_places_2 : Cond.fieldLink RX6 31 "LayerwaysModel" "many" "I" ∈ wsX6_places := by decide +kernel
def fX6_places (mN : Int32) : Option (Int32 × Int32) := some (mN, 0)
set_option maxRecDepth 100000 in
set_option maxHeartbeats 4000000 in
theorem kX6_places (l : Launch) (K : zK) (aM : Nat) (aMk : Nat) (aMj : Nat) (aMc : Nat) (aMw : Nat) (aMr : (Nat → Nat))  (mN : Int32) (mS : Int32) (mX : Int32) (mT : Int32) (mK : (Nat → Int32)) (mC : (Nat → Int32)) (mW : (Nat → Int32)) (mJ : (Nat → Nat → Int32)) (r : Int32 × Int32) (hres : fX6_places mN = some r) : zM l K yX6_places wsX6_places ({ frames := 0, cells := 0, slots := 0, locals := 0 }) [.ref aM] ([(aM, .inr (6, [.ref aMk, .ref aMj, .int mN, .int mS, .ref aMc, .ref aMw, .int mX, .int mT])), (aMk, .inl (K.2 0, 12, .inl mK)), (aMj, .inl (K.2 3, 12, .inr (.inr (.inr (.inr (zo aMr 12)))))), (aMc, .inl (K.2 0, 12, .inl mC)), (aMw, .inl (K.2 0, 12, .inl mW))] ++ zR12Z K aMr mJ) (fun _ : Unit => some (.int r.1)) (fun _ : Unit => ([(aM, .inr (6, [.ref aMk, .ref aMj, .int mN, .int mS, .ref aMc, .ref aMw, .int mX, .int r.2])), (aMk, .inl (K.2 0, 12, .inl mK)), (aMj, .inl (K.2 3, 12, .inr (.inr (.inr (.inr (zo aMr 12)))))), (aMc, .inl (K.2 0, 12, .inl mC)), (aMw, .inl (K.2 0, 12, .inl mW))] ++ zR12Z K aMr mJ)) 0 0 := by
  refine zM.intI (cc := cX6_places) (maxL := 1) (ret := (some .int)) rfl (by decide) (Nat.le_of_ble_eq_true rfl) rfl ?_
  intro G hGl hG hN hE
  have hR : ∀ (pc : Nat) (lv : zL), decode cX6_places pc = .ok (.ireturn, 1) → zj G pc lv [.int r.1] ([(aM, .inr (6, [.ref aMk, .ref aMj, .int mN, .int mS, .ref aMc, .ref aMw, .int mX, .int r.2])), (aMk, .inl (K.2 0, 12, .inl mK)), (aMj, .inl (K.2 3, 12, .inr (.inr (.inr (.inr (zo aMr 12)))))), (aMc, .inl (K.2 0, 12, .inl mC)), (aMw, .inl (K.2 0, 12, .inl mW))] ++ zR12Z K aMr mJ) 0 0 := fun pc lv d => hE () _ rfl pc lv d
  clear hE
  unfold fX6_places at hres
  show zj G 0 [(0, .ref aM)] [] ([(aM, .inr (6, [.ref aMk, .ref aMj, .int mN, .int mS, .ref aMc, .ref aMw, .int mX, .int mT])), (aMk, .inl (K.2 0, 12, .inl mK)), (aMj, .inl (K.2 3, 12, .inr (.inr (.inr (.inr (zo aMr 12)))))), (aMc, .inl (K.2 0, 12, .inl mC)), (aMw, .inl (K.2 0, 12, .inl mW))] ++ zR12Z K aMr mJ) 0 0
  refine z_aload_n hG dX6_places_0 0 rfl ?_
  refine z_iconst 0 hG dX6_places_1 (by decide) ?_
  refine z_put (ci := 6) (C := RX6) (T := TX6) (N := 8) (ws' := ([(aM, .inr (6, [.ref aMk, .ref aMj, .int mN, .int mS, .ref aMc, .ref aMw, .int mX, .int 0])), (aMk, .inl (K.2 0, 12, .inl mK)), (aMj, .inl (K.2 3, 12, .inr (.inr (.inr (.inr (zo aMr 12)))))), (aMc, .inl (K.2 0, 12, .inl mC)), (aMw, .inl (K.2 0, 12, .inl mW))] ++ zR12Z K aMr mJ)) hG dX6_places_2 iX6_places_X6 tyX6_ok nmX6 7 (by decide) mX6_places_0 rfl rfl rfl rfl rfl rfl 0 rfl (Nat.le_of_ble_eq_true rfl) rfl ?_
  refine z_aload_n hG dX6_places_5 0 rfl ?_
  refine z_get (ci := 6) (C := RX6) (T := TX6) (N := 8) hG dX6_places_6 iX6_places_X6 2 (by decide) mX6_places_2 rfl rfl 0 rfl rfl ?_
  obtain rfl := Option.some.inj hres
  exact (hR _ _ dX6_places_9)

theorem dX6_streets_0 : decode cX6_streets 0 = .ok (.aload_n 0, 1) := by decide +kernel
theorem dX6_streets_1 : decode cX6_streets 1 = .ok (.iconst 0, 1) := by decide +kernel
theorem dX6_streets_2 : decode cX6_streets 2 = .ok (.putfield 28, 3) := by decide +kernel
theorem dX6_streets_5 : decode cX6_streets 5 = .ok (.iconst 0, 1) := by decide +kernel
theorem dX6_streets_6 : decode cX6_streets 6 = .ok (.istore_n 1, 1) := by decide +kernel
theorem dX6_streets_7 : decode cX6_streets 7 = .ok (.iconst 0, 1) := by decide +kernel
theorem dX6_streets_8 : decode cX6_streets 8 = .ok (.istore_n 2, 1) := by decide +kernel
theorem dX6_streets_9 : decode cX6_streets 9 = .ok (.iload_n 2, 1) := by decide +kernel
theorem dX6_streets_10 : decode cX6_streets 10 = .ok (.aload_n 0, 1) := by decide +kernel
theorem dX6_streets_11 : decode cX6_streets 11 = .ok (.getfield 31, 3) := by decide +kernel
theorem dX6_streets_14 : decode cX6_streets 14 = .ok (.if_icmp .ge 17, 3) := by decide +kernel
theorem dX6_streets_17 : decode cX6_streets 17 = .ok (.iload_n 1, 1) := by decide +kernel
theorem dX6_streets_18 : decode cX6_streets 18 = .ok (.aload_n 0, 1) := by decide +kernel
theorem dX6_streets_19 : decode cX6_streets 19 = .ok (.iload_n 2, 1) := by decide +kernel
theorem dX6_streets_20 : decode cX6_streets 20 = .ok (.invokevirtual 49, 3) := by decide +kernel
theorem dX6_streets_23 : decode cX6_streets 23 = .ok (.iadd, 1) := by decide +kernel
theorem dX6_streets_24 : decode cX6_streets 24 = .ok (.istore_n 1, 1) := by decide +kernel
theorem dX6_streets_25 : decode cX6_streets 25 = .ok (.iinc 2 1, 3) := by decide +kernel
theorem dX6_streets_28 : decode cX6_streets 28 = .ok (.goto (-19), 3) := by decide +kernel
theorem dX6_streets_31 : decode cX6_streets 31 = .ok (.iload_n 1, 1) := by decide +kernel
theorem dX6_streets_32 : decode cX6_streets 32 = .ok (.iconst 2, 1) := by decide +kernel
theorem dX6_streets_33 : decode cX6_streets 33 = .ok (.idiv, 1) := by decide +kernel
theorem dX6_streets_34 : decode cX6_streets 34 = .ok (.ireturn, 1) := by decide +kernel
set_option maxRecDepth 20000 in
theorem ggX6_streets_X6_degree : GoodIn wsX6_streets wsX6_degree := goodIn_r _ [7, 2, 8, 9, 10, 11, 12, 13, 14, 15, 16] (by decide +kernel) (by decide +kernel)
set_option maxRecDepth 20000 in
theorem gX6_streets_X6_degree : GoodIn wsX6_streets (wsV RX6 49 RX6 yX6_degree wsX6_degree) := goodIn_app (goodIn_of _ (by decide +kernel)) ggX6_streets_X6_degree
theorem mX6_streets_0 : Cond.fieldLink RX6 28 "LayerwaysModel" "thrown" "I" ∈ wsX6_streets := by decide +kernel
theorem iX6_streets_X6 : ∀ w ∈ u_ws RX6 TX6 8, w ∈ wsX6_streets := by decide +kernel
theorem mX6_streets_2 : Cond.fieldLink RX6 31 "LayerwaysModel" "many" "I" ∈ wsX6_streets := by decide +kernel
def sX6_streets_9 (mN : Int32) (mJ : (Nat → Nat → Int32)) (s3 : Int32 × Int32) : Option ((Int32 × Int32) ⊕ (Int32 × Int32)) := if mN ≤ s3.2 then some (.inl (s3.1, s3.2)) else (fX6_degree mN mJ s3.2).bind fun v7 => some (.inr ((s3.1 + v7), (s3.2 + 1)))
def fX6_streets (mN : Int32) (mJ : (Nat → Nat → Int32)) : Option (Int32 × Int32) := (zloop (sX6_streets_9 mN mJ) 32 (0, 0)).bind fun e5 => some ((e5.1 / 2), 0)
set_option maxRecDepth 100000 in
set_option maxHeartbeats 4000000 in
theorem kX6_streets (l : Launch) (K : zK) (aM : Nat) (aMk : Nat) (aMj : Nat) (aMc : Nat) (aMw : Nat) (aMr : (Nat → Nat))  (mN : Int32) (mS : Int32) (mX : Int32) (mT : Int32) (mK : (Nat → Int32)) (mC : (Nat → Int32)) (mW : (Nat → Int32)) (mJ : (Nat → Nat → Int32)) (r : Int32 × Int32) (hres : fX6_streets mN mJ = some r) : zM l K yX6_streets wsX6_streets ({ frames := 1, cells := 0, slots := 0, locals := 23 }) [.ref aM] ([(aM, .inr (6, [.ref aMk, .ref aMj, .int mN, .int mS, .ref aMc, .ref aMw, .int mX, .int mT])), (aMk, .inl (K.2 0, 12, .inl mK)), (aMj, .inl (K.2 3, 12, .inr (.inr (.inr (.inr (zo aMr 12)))))), (aMc, .inl (K.2 0, 12, .inl mC)), (aMw, .inl (K.2 0, 12, .inl mW))] ++ zR12Z K aMr mJ) (fun _ : Unit => some (.int r.1)) (fun _ : Unit => ([(aM, .inr (6, [.ref aMk, .ref aMj, .int mN, .int mS, .ref aMc, .ref aMw, .int mX, .int r.2])), (aMk, .inl (K.2 0, 12, .inl mK)), (aMj, .inl (K.2 3, 12, .inr (.inr (.inr (.inr (zo aMr 12)))))), (aMc, .inl (K.2 0, 12, .inl mC)), (aMw, .inl (K.2 0, 12, .inl mW))] ++ zR12Z K aMr mJ)) 0 0 := by
  refine zM.intI (cc := cX6_streets) (maxL := 3) (ret := (some .int)) rfl (by decide) (Nat.le_of_ble_eq_true rfl) rfl ?_
  intro G hGl hG hN hE
  have hR : ∀ (pc : Nat) (lv : zL), decode cX6_streets pc = .ok (.ireturn, 1) → zj G pc lv [.int r.1] ([(aM, .inr (6, [.ref aMk, .ref aMj, .int mN, .int mS, .ref aMc, .ref aMw, .int mX, .int r.2])), (aMk, .inl (K.2 0, 12, .inl mK)), (aMj, .inl (K.2 3, 12, .inr (.inr (.inr (.inr (zo aMr 12)))))), (aMc, .inl (K.2 0, 12, .inl mC)), (aMw, .inl (K.2 0, 12, .inl mW))] ++ zR12Z K aMr mJ) 0 0 := fun pc lv d => hE () _ rfl pc lv d
  clear hE
  unfold fX6_streets at hres
  show zj G 0 [(0, .ref aM)] [] ([(aM, .inr (6, [.ref aMk, .ref aMj, .int mN, .int mS, .ref aMc, .ref aMw, .int mX, .int mT])), (aMk, .inl (K.2 0, 12, .inl mK)), (aMj, .inl (K.2 3, 12, .inr (.inr (.inr (.inr (zo aMr 12)))))), (aMc, .inl (K.2 0, 12, .inl mC)), (aMw, .inl (K.2 0, 12, .inl mW))] ++ zR12Z K aMr mJ) 0 0
  refine z_aload_n hG dX6_streets_0 0 rfl ?_
  refine z_iconst 0 hG dX6_streets_1 (by decide) ?_
  refine z_put (ci := 6) (C := RX6) (T := TX6) (N := 8) (ws' := ([(aM, .inr (6, [.ref aMk, .ref aMj, .int mN, .int mS, .ref aMc, .ref aMw, .int mX, .int 0])), (aMk, .inl (K.2 0, 12, .inl mK)), (aMj, .inl (K.2 3, 12, .inr (.inr (.inr (.inr (zo aMr 12)))))), (aMc, .inl (K.2 0, 12, .inl mC)), (aMw, .inl (K.2 0, 12, .inl mW))] ++ zR12Z K aMr mJ)) hG dX6_streets_2 iX6_streets_X6 tyX6_ok nmX6 7 (by decide) mX6_streets_0 rfl rfl rfl rfl rfl rfl 0 rfl (Nat.le_of_ble_eq_true rfl) rfl ?_
  refine z_iconst 0 hG dX6_streets_5 (by decide) ?_
  refine z_istore_n (lv' := [(1, .int 0), (0, .ref aM)]) hG dX6_streets_6 (by decide) rfl ?_
  refine z_iconst 0 hG dX6_streets_7 (by decide) ?_
  refine z_istore_n (lv' := [(2, .int 0), (1, .int 0), (0, .ref aM)]) hG dX6_streets_8 (by decide) rfl ?_
  obtain ⟨e5, hx, hres⟩ := z_bind hres
  refine z_lv [2, 1, 0] (lv' := [(0, .ref aM), (1, .int 0), (2, .int 0)]) rfl ?_
  refine z_loop hx (fun s3 : Int32 × Int32 => [(0, .ref aM), (1, .int s3.1), (2, .int s3.2)]) (fun s3 : Int32 × Int32 => ([(aM, .inr (6, [.ref aMk, .ref aMj, .int mN, .int mS, .ref aMc, .ref aMw, .int mX, .int 0])), (aMk, .inl (K.2 0, 12, .inl mK)), (aMj, .inl (K.2 3, 12, .inr (.inr (.inr (.inr (zo aMr 12)))))), (aMc, .inl (K.2 0, 12, .inl mC)), (aMw, .inl (K.2 0, 12, .inl mW))] ++ zR12Z K aMr mJ)) (fun e5 : Int32 × Int32 => zj G 31 [(0, .ref aM), (1, .int e5.1), (2, .int e5.2)] [] ([(aM, .inr (6, [.ref aMk, .ref aMj, .int mN, .int mS, .ref aMc, .ref aMw, .int mX, .int 0])), (aMk, .inl (K.2 0, 12, .inl mK)), (aMj, .inl (K.2 3, 12, .inr (.inr (.inr (.inr (zo aMr 12)))))), (aMc, .inl (K.2 0, 12, .inl mC)), (aMw, .inl (K.2 0, 12, .inl mW))] ++ zR12Z K aMr mJ) 0 0) ?_ ?_
  · refine z_iload_n hG dX6_streets_31 1 rfl ?_
    refine z_iconst 2 hG dX6_streets_32 (by decide) ?_
    refine z_idiv hG dX6_streets_33 (by decide) ?_
    obtain rfl := Option.some.inj hres
    exact (hR _ _ dX6_streets_34)
  · intro s3 w4 hres hX hB
    unfold sX6_streets_9 at hres
    refine z_iload_n hG dX6_streets_9 2 rfl ?_
    refine z_aload_n hG dX6_streets_10 0 rfl ?_
    refine z_get (ci := 6) (C := RX6) (T := TX6) (N := 8) hG dX6_streets_11 iX6_streets_X6 2 (by decide) mX6_streets_2 rfl rfl 0 rfl rfl ?_
    refine z_icmp_ge 31 hG dX6_streets_14 (by decide) (fun c => ?_) (fun c => ?_)
    · replace hres := z_ifp c hres
      exact (hX (s3.1, s3.2) (Option.some.inj hres).symm)
    · replace hres := z_ifn c hres
      refine z_iload_n hG dX6_streets_17 1 rfl ?_
      refine z_aload_n hG dX6_streets_18 0 rfl ?_
      refine z_iload_n hG dX6_streets_19 2 rfl ?_
      obtain ⟨v7, hv, hres⟩ := z_bind hres
      refine z_callV (As := [.int s3.2]) (rest := [.int s3.1]) (wr := ([] : va_W)) (ws' := (fun _ : Unit => ([(aM, .inr (6, [.ref aMk, .ref aMj, .int mN, .int mS, .ref aMc, .ref aMw, .int mX, .int 0])), (aMk, .inl (K.2 0, 12, .inl mK)), (aMj, .inl (K.2 3, 12, .inr (.inr (.inr (.inr (zo aMr 12)))))), (aMc, .inl (K.2 0, 12, .inl mC)), (aMw, .inl (K.2 0, 12, .inl mW))] ++ zR12Z K aMr mJ))) (stk := (fun _ : Unit => [.int v7, .int s3.1])) (kc' := 0) (ks' := 0) (n := 1) (C := RX6) (ci := 6) hG dX6_streets_20 (kX6_degree _ K aM aMk aMj aMc aMw aMr mN mS mX 0 mK mC mW mJ s3.2 v7 hv) gX6_streets_X6_degree rfl rfl rfl ⟨rfl, by decide, by decide, rfl⟩ ⟨by decide, by decide⟩ (Nat.le_of_ble_eq_true rfl) ⟨(Nat.le_of_ble_eq_true rfl), (Nat.le_of_ble_eq_true rfl)⟩ [0, 1, 2, 3, 4, 5, 6, 7, 8, 9, 10, 11, 12, 13, 14, 15, 16] [] [0, 1, 2, 3, 4, 5, 6, 7, 8, 9, 10, 11, 12, 13, 14, 15, 16] rfl rfl rfl rfl (by decide) rfl (fun _ => rfl) (fun _ => rfl) rfl rfl rfl 0 rfl rfl rfl rfl (fun _ => ?_)
      refine z_iadd hG dX6_streets_23 ?_
      refine z_istore_n (lv' := [(1, .int (s3.1 + v7)), (0, .ref aM), (2, .int s3.2)]) hG dX6_streets_24 (by decide) rfl ?_
      refine z_iinc (s3.2 + 1) (lv' := [(2, .int (s3.2 + 1)), (1, .int (s3.1 + v7)), (0, .ref aM)]) hG dX6_streets_25 2 rfl rfl (by decide) rfl ?_
      refine z_goto 9 hG dX6_streets_28 (by decide) ?_
      exact (z_lv [2, 1, 0] rfl (hB ((s3.1 + v7), (s3.2 + 1)) (Option.some.inj hres).symm))

theorem dX6_isStreet_0 : decode cX6_isStreet 0 = .ok (.aload_n 0, 1) := by decide +kernel
theorem dX6_isStreet_1 : decode cX6_isStreet 1 = .ok (.aload_n 0, 1) := by decide +kernel
theorem dX6_isStreet_2 : decode cX6_isStreet 2 = .ok (.iload_n 1, 1) := by decide +kernel
theorem dX6_isStreet_3 : decode cX6_isStreet 3 = .ok (.invokevirtual 38, 3) := by decide +kernel
theorem dX6_isStreet_6 : decode cX6_isStreet 6 = .ok (.ifCond .eq 15, 3) := by decide +kernel
theorem dX6_isStreet_9 : decode cX6_isStreet 9 = .ok (.aload_n 0, 1) := by decide +kernel
theorem dX6_isStreet_10 : decode cX6_isStreet 10 = .ok (.iload_n 2, 1) := by decide +kernel
theorem dX6_isStreet_11 : decode cX6_isStreet 11 = .ok (.invokevirtual 38, 3) := by decide +kernel
theorem dX6_isStreet_14 : decode cX6_isStreet 14 = .ok (.ifCond .eq 7, 3) := by decide +kernel
theorem dX6_isStreet_17 : decode cX6_isStreet 17 = .ok (.iconst 1, 1) := by decide +kernel
theorem dX6_isStreet_18 : decode cX6_isStreet 18 = .ok (.goto 4, 3) := by decide +kernel
theorem dX6_isStreet_21 : decode cX6_isStreet 21 = .ok (.iconst 0, 1) := by decide +kernel
theorem dX6_isStreet_22 : decode cX6_isStreet 22 = .ok (.iconst 1, 1) := by decide +kernel
theorem dX6_isStreet_23 : decode cX6_isStreet 23 = .ok (.iconst 1, 1) := by decide +kernel
theorem dX6_isStreet_24 : decode cX6_isStreet 24 = .ok (.invokevirtual 42, 3) := by decide +kernel
theorem dX6_isStreet_27 : decode cX6_isStreet 27 = .ok (.ifCond .eq 26, 3) := by decide +kernel
theorem dX6_isStreet_30 : decode cX6_isStreet 30 = .ok (.aload_n 0, 1) := by decide +kernel
theorem dX6_isStreet_31 : decode cX6_isStreet 31 = .ok (.getfield 15, 3) := by decide +kernel
theorem dX6_isStreet_34 : decode cX6_isStreet 34 = .ok (.aload_n 0, 1) := by decide +kernel
theorem dX6_isStreet_35 : decode cX6_isStreet 35 = .ok (.iload_n 1, 1) := by decide +kernel
theorem dX6_isStreet_36 : decode cX6_isStreet 36 = .ok (.invokevirtual 34, 3) := by decide +kernel
theorem dX6_isStreet_39 : decode cX6_isStreet 39 = .ok (.aaload, 1) := by decide +kernel
theorem dX6_isStreet_40 : decode cX6_isStreet 40 = .ok (.aload_n 0, 1) := by decide +kernel
theorem dX6_isStreet_41 : decode cX6_isStreet 41 = .ok (.iload_n 2, 1) := by decide +kernel
theorem dX6_isStreet_42 : decode cX6_isStreet 42 = .ok (.invokevirtual 34, 3) := by decide +kernel
theorem dX6_isStreet_45 : decode cX6_isStreet 45 = .ok (.baload, 1) := by decide +kernel
theorem dX6_isStreet_46 : decode cX6_isStreet 46 = .ok (.ifCond .eq 7, 3) := by decide +kernel
theorem dX6_isStreet_49 : decode cX6_isStreet 49 = .ok (.iconst 1, 1) := by decide +kernel
theorem dX6_isStreet_50 : decode cX6_isStreet 50 = .ok (.goto 4, 3) := by decide +kernel
theorem dX6_isStreet_53 : decode cX6_isStreet 53 = .ok (.iconst 0, 1) := by decide +kernel
theorem dX6_isStreet_54 : decode cX6_isStreet 54 = .ok (.ireturn, 1) := by decide +kernel
set_option maxRecDepth 20000 in
theorem ggX6_isStreet_X6_is : GoodIn wsX6_isStreet wsX6_is := goodIn_r _ [6, 7, 8, 9, 5, 10, 11, 12, 18, 19, 20, 21, 22, 23, 24, 25] (by decide +kernel) (by decide +kernel)
set_option maxRecDepth 20000 in
theorem gX6_isStreet_X6_is : GoodIn wsX6_isStreet (wsV RX6 38 RX6 yX6_is wsX6_is) := goodIn_app (goodIn_of _ (by decide +kernel)) ggX6_isStreet_X6_is
set_option maxRecDepth 20000 in
theorem ggX6_isStreet_X6_can : GoodIn wsX6_isStreet wsX6_can := goodIn_r _ [16, 17, 18, 19, 20, 21, 22, 23, 24, 25] (by decide +kernel) (by decide +kernel)
set_option maxRecDepth 20000 in
theorem gX6_isStreet_X6_can : GoodIn wsX6_isStreet (wsV RX6 42 RX6 yX6_can wsX6_can) := goodIn_app (goodIn_of _ (by decide +kernel)) ggX6_isStreet_X6_can
set_option maxRecDepth 20000 in
theorem ggX6_isStreet_X6_at : GoodIn wsX6_isStreet wsX6_at := goodIn_r _ [10, 11, 12, 18, 19, 20, 21, 22, 23, 24, 25] (by decide +kernel) (by decide +kernel)
set_option maxRecDepth 20000 in
theorem gX6_isStreet_X6_at : GoodIn wsX6_isStreet (wsV RX6 34 RX6 yX6_at wsX6_at) := goodIn_app (goodIn_of _ (by decide +kernel)) ggX6_isStreet_X6_at
theorem mX6_isStreet_0 : Cond.fieldLink RX6 15 "LayerwaysModel" "joined" "[[Z" ∈ wsX6_isStreet := by decide +kernel
theorem iX6_isStreet_X6 : ∀ w ∈ u_ws RX6 TX6 8, w ∈ wsX6_isStreet := by decide +kernel
def fX6_isStreet (mN : Int32) (mK : (Nat → Int32)) (mJ : (Nat → Nat → Int32)) (p0 : Int32) (p1 : Int32) : Option (Int32 × Int32) := (fX6_is mN mK p0).bind fun v1 => ((if v1 = 0 then some 0 else (fX6_is mN mK p1).bind fun v8 => if v8 = 0 then some 0 else some 1) : Option Int32).bind fun v3 => (fX6_can v3 1 1).bind fun v4 => if v4.1 = 0 then some (0, v4.2) else (fX6_at mN mK p0).bind fun v5 => if zin v5 12 then (fX6_at mN mK p1).bind fun v7 => if zin v7 12 then if (mJ v5.toNatClampNeg v7.toNatClampNeg) = 0 then some (0, v4.2) else some (1, v4.2) else none else none
set_option maxRecDepth 100000 in
set_option maxHeartbeats 4000000 in
theorem kX6_isStreet (l : Launch) (K : zK) (aM : Nat) (aMk : Nat) (aMj : Nat) (aMc : Nat) (aMw : Nat) (aMr : (Nat → Nat))  (mN : Int32) (mS : Int32) (mX : Int32) (mT : Int32) (mK : (Nat → Int32)) (mC : (Nat → Int32)) (mW : (Nat → Int32)) (mJ : (Nat → Nat → Int32)) (p0 : Int32) (p1 : Int32) (r : Int32 × Int32) (hres : fX6_isStreet mN mK mJ p0 p1 = some r) : zM l K yX6_isStreet wsX6_isStreet ({ frames := 2, cells := 0, slots := 0, locals := 43 }) [.ref aM, .int p0, .int p1] ([(aM, .inr (6, [.ref aMk, .ref aMj, .int mN, .int mS, .ref aMc, .ref aMw, .int mX, .int mT])), (aMk, .inl (K.2 0, 12, .inl mK)), (aMj, .inl (K.2 3, 12, .inr (.inr (.inr (.inr (zo aMr 12)))))), (aMc, .inl (K.2 0, 12, .inl mC)), (aMw, .inl (K.2 0, 12, .inl mW))] ++ zR12Z K aMr mJ) (fun _ : Unit => some (.int r.1)) (fun _ : Unit => ([(aM, .inr (6, [.ref aMk, .ref aMj, .int mN, .int mS, .ref aMc, .ref aMw, .int mX, .int r.2])), (aMk, .inl (K.2 0, 12, .inl mK)), (aMj, .inl (K.2 3, 12, .inr (.inr (.inr (.inr (zo aMr 12)))))), (aMc, .inl (K.2 0, 12, .inl mC)), (aMw, .inl (K.2 0, 12, .inl mW))] ++ zR12Z K aMr mJ)) 0 0 := by
  refine zM.intZ (cc := cX6_isStreet) (maxL := 3) (ret := (some .boolean)) rfl (by decide) (Nat.le_of_ble_eq_true rfl) rfl ?_
  intro G hGl hG hN hE
  have hR : ∀ (pc : Nat) (lv : zL), narrow .boolean (.int r.1) = .int r.1 → decode cX6_isStreet pc = .ok (.ireturn, 1) → zj G pc lv [.int r.1] ([(aM, .inr (6, [.ref aMk, .ref aMj, .int mN, .int mS, .ref aMc, .ref aMw, .int mX, .int r.2])), (aMk, .inl (K.2 0, 12, .inl mK)), (aMj, .inl (K.2 3, 12, .inr (.inr (.inr (.inr (zo aMr 12)))))), (aMc, .inl (K.2 0, 12, .inl mC)), (aMw, .inl (K.2 0, 12, .inl mW))] ++ zR12Z K aMr mJ) 0 0 := fun pc lv n d => hE () _ rfl n pc lv d
  clear hE
  unfold fX6_isStreet at hres
  show zj G 0 [(0, .ref aM), (1, .int p0), (2, .int p1)] [] ([(aM, .inr (6, [.ref aMk, .ref aMj, .int mN, .int mS, .ref aMc, .ref aMw, .int mX, .int mT])), (aMk, .inl (K.2 0, 12, .inl mK)), (aMj, .inl (K.2 3, 12, .inr (.inr (.inr (.inr (zo aMr 12)))))), (aMc, .inl (K.2 0, 12, .inl mC)), (aMw, .inl (K.2 0, 12, .inl mW))] ++ zR12Z K aMr mJ) 0 0
  refine z_aload_n hG dX6_isStreet_0 0 rfl ?_
  refine z_aload_n hG dX6_isStreet_1 0 rfl ?_
  refine z_iload_n hG dX6_isStreet_2 1 rfl ?_
  obtain ⟨v1, hv, hres⟩ := z_bind hres
  refine z_callV (As := [.int p0]) (rest := [.ref aM]) (wr := ([] : va_W)) (ws' := (fun _ : Unit => ([(aM, .inr (6, [.ref aMk, .ref aMj, .int mN, .int mS, .ref aMc, .ref aMw, .int mX, .int mT])), (aMk, .inl (K.2 0, 12, .inl mK)), (aMj, .inl (K.2 3, 12, .inr (.inr (.inr (.inr (zo aMr 12)))))), (aMc, .inl (K.2 0, 12, .inl mC)), (aMw, .inl (K.2 0, 12, .inl mW))] ++ zR12Z K aMr mJ))) (stk := (fun _ : Unit => [.int v1, .ref aM])) (kc' := 0) (ks' := 0) (n := 1) (C := RX6) (ci := 6) hG dX6_isStreet_3 (kX6_is _ K aM aMk aMj aMc aMw aMr mN mS mX mT mK mC mW mJ p0 v1 hv) gX6_isStreet_X6_is rfl rfl rfl ⟨rfl, by decide, by decide, rfl⟩ ⟨by decide, by decide⟩ (Nat.le_of_ble_eq_true rfl) ⟨(Nat.le_of_ble_eq_true rfl), (Nat.le_of_ble_eq_true rfl)⟩ [0, 1, 2, 3, 4, 5, 6, 7, 8, 9, 10, 11, 12, 13, 14, 15, 16] [] [0, 1, 2, 3, 4, 5, 6, 7, 8, 9, 10, 11, 12, 13, 14, 15, 16] rfl rfl rfl rfl (by decide) rfl (fun _ => rfl) (fun _ => rfl) rfl rfl rfl 0 rfl rfl rfl rfl (fun _ => ?_)
  obtain ⟨v3, hv, hres⟩ := z_bind hres
  have J : zj G 22 [(0, .ref aM), (1, .int p0), (2, .int p1)] [.int v3, .ref aM] ([(aM, .inr (6, [.ref aMk, .ref aMj, .int mN, .int mS, .ref aMc, .ref aMw, .int mX, .int mT])), (aMk, .inl (K.2 0, 12, .inl mK)), (aMj, .inl (K.2 3, 12, .inr (.inr (.inr (.inr (zo aMr 12)))))), (aMc, .inl (K.2 0, 12, .inl mC)), (aMw, .inl (K.2 0, 12, .inl mW))] ++ zR12Z K aMr mJ) 0 0 := by
    refine z_iconst 1 hG dX6_isStreet_22 (by decide) ?_
    refine z_iconst 1 hG dX6_isStreet_23 (by decide) ?_
    obtain ⟨v4, hv, hres⟩ := z_bind hres
    refine z_callV (As := [.int v3, .int 1, .int 1]) (rest := []) (wr := ([(aMk, .inl (K.2 0, 12, .inl mK)), (aMj, .inl (K.2 3, 12, .inr (.inr (.inr (.inr (zo aMr 12)))))), (aMc, .inl (K.2 0, 12, .inl mC)), (aMw, .inl (K.2 0, 12, .inl mW))] ++ zR12Z K aMr mJ)) (ws' := (fun _ : Unit => ([(aM, .inr (6, [.ref aMk, .ref aMj, .int mN, .int mS, .ref aMc, .ref aMw, .int mX, .int v4.2])), (aMk, .inl (K.2 0, 12, .inl mK)), (aMj, .inl (K.2 3, 12, .inr (.inr (.inr (.inr (zo aMr 12)))))), (aMc, .inl (K.2 0, 12, .inl mC)), (aMw, .inl (K.2 0, 12, .inl mW))] ++ zR12Z K aMr mJ))) (stk := (fun _ : Unit => [.int v4.1])) (kc' := 0) (ks' := 0) (n := 3) (C := RX6) (ci := 6) hG dX6_isStreet_24 (kX6_can _ K aM aMk aMj aMc aMw mN mS mX mT v3 1 1 v4 hv) gX6_isStreet_X6_can rfl rfl rfl ⟨rfl, by decide, by decide, rfl⟩ ⟨by decide, by decide⟩ (Nat.le_of_ble_eq_true rfl) ⟨(Nat.le_of_ble_eq_true rfl), (Nat.le_of_ble_eq_true rfl)⟩ [0] [1, 2, 3, 4, 5, 6, 7, 8, 9, 10, 11, 12, 13, 14, 15, 16] [16, 0, 1, 2, 3, 4, 5, 6, 7, 8, 9, 10, 11, 12, 13, 14, 15] rfl rfl rfl rfl (by decide) rfl (fun _ => rfl) (fun _ => rfl) rfl rfl rfl 0 rfl rfl rfl rfl (fun _ => ?_)
    refine z_if_eq 53 hG dX6_isStreet_27 (by decide) (fun c => ?_) (fun c => ?_)
    · replace hres := z_ifp c hres
      refine z_iconst 0 hG dX6_isStreet_53 (by decide) ?_
      obtain rfl := Option.some.inj hres
      exact (hR _ _ (z_nar01 (Or.inl rfl)) dX6_isStreet_54)
    · replace hres := z_ifn c hres
      refine z_aload_n hG dX6_isStreet_30 0 rfl ?_
      refine z_get (ci := 6) (C := RX6) (T := TX6) (N := 8) hG dX6_isStreet_31 iX6_isStreet_X6 1 (by decide) mX6_isStreet_0 rfl rfl 0 rfl rfl ?_
      refine z_aload_n hG dX6_isStreet_34 0 rfl ?_
      refine z_iload_n hG dX6_isStreet_35 1 rfl ?_
      obtain ⟨v5, hv, hres⟩ := z_bind hres
      refine z_callV (As := [.int p0]) (rest := [.ref aMj]) (wr := ([] : va_W)) (ws' := (fun _ : Unit => ([(aM, .inr (6, [.ref aMk, .ref aMj, .int mN, .int mS, .ref aMc, .ref aMw, .int mX, .int v4.2])), (aMk, .inl (K.2 0, 12, .inl mK)), (aMj, .inl (K.2 3, 12, .inr (.inr (.inr (.inr (zo aMr 12)))))), (aMc, .inl (K.2 0, 12, .inl mC)), (aMw, .inl (K.2 0, 12, .inl mW))] ++ zR12Z K aMr mJ))) (stk := (fun _ : Unit => [.int v5, .ref aMj])) (kc' := 0) (ks' := 0) (n := 1) (C := RX6) (ci := 6) hG dX6_isStreet_36 (kX6_at _ K aM aMk aMj aMc aMw aMr mN mS mX v4.2 mK mC mW mJ p0 v5 hv) gX6_isStreet_X6_at rfl rfl rfl ⟨rfl, by decide, by decide, rfl⟩ ⟨by decide, by decide⟩ (Nat.le_of_ble_eq_true rfl) ⟨(Nat.le_of_ble_eq_true rfl), (Nat.le_of_ble_eq_true rfl)⟩ [0, 1, 2, 3, 4, 5, 6, 7, 8, 9, 10, 11, 12, 13, 14, 15, 16] [] [0, 1, 2, 3, 4, 5, 6, 7, 8, 9, 10, 11, 12, 13, 14, 15, 16] rfl rfl rfl rfl (by decide) rfl (fun _ => rfl) (fun _ => rfl) rfl rfl rfl 0 rfl rfl rfl rfl (fun _ => ?_)
      obtain ⟨hr6, hres⟩ := z_guard hres
      refine z_aaldZ hG dX6_isStreet_39 2 rfl hr6 ?_
      refine z_aload_n hG dX6_isStreet_40 0 rfl ?_
      refine z_iload_n hG dX6_isStreet_41 2 rfl ?_
      obtain ⟨v7, hv, hres⟩ := z_bind hres
      refine z_callV (As := [.int p1]) (rest := [.ref (aMr v5.toNatClampNeg)]) (wr := ([] : va_W)) (ws' := (fun _ : Unit => ([(aM, .inr (6, [.ref aMk, .ref aMj, .int mN, .int mS, .ref aMc, .ref aMw, .int mX, .int v4.2])), (aMk, .inl (K.2 0, 12, .inl mK)), (aMj, .inl (K.2 3, 12, .inr (.inr (.inr (.inr (zo aMr 12)))))), (aMc, .inl (K.2 0, 12, .inl mC)), (aMw, .inl (K.2 0, 12, .inl mW))] ++ zR12Z K aMr mJ))) (stk := (fun _ : Unit => [.int v7, .ref (aMr v5.toNatClampNeg)])) (kc' := 0) (ks' := 0) (n := 1) (C := RX6) (ci := 6) hG dX6_isStreet_42 (kX6_at _ K aM aMk aMj aMc aMw aMr mN mS mX v4.2 mK mC mW mJ p1 v7 hv) gX6_isStreet_X6_at rfl rfl rfl ⟨rfl, by decide, by decide, rfl⟩ ⟨by decide, by decide⟩ (Nat.le_of_ble_eq_true rfl) ⟨(Nat.le_of_ble_eq_true rfl), (Nat.le_of_ble_eq_true rfl)⟩ [0, 1, 2, 3, 4, 5, 6, 7, 8, 9, 10, 11, 12, 13, 14, 15, 16] [] [0, 1, 2, 3, 4, 5, 6, 7, 8, 9, 10, 11, 12, 13, 14, 15, 16] rfl rfl rfl rfl (by decide) rfl (fun _ => rfl) (fun _ => rfl) rfl rfl rfl 0 rfl rfl rfl rfl (fun _ => ?_)
      obtain ⟨hg, hres⟩ := z_guard hres
      refine z_zaldG (M := mJ) hG dX6_isStreet_45 5 (z_12 rfl rfl rfl rfl rfl rfl rfl rfl rfl rfl rfl rfl) hr6 hg ?_
      refine z_if_eq 53 hG dX6_isStreet_46 (by decide) (fun c => ?_) (fun c => ?_)
      · replace hres := z_ifp c hres
        refine z_iconst 0 hG dX6_isStreet_53 (by decide) ?_
        obtain rfl := Option.some.inj hres
        exact (hR _ _ (z_nar01 (Or.inl rfl)) dX6_isStreet_54)
      · replace hres := z_ifn c hres
        refine z_iconst 1 hG dX6_isStreet_49 (by decide) ?_
        refine z_goto 54 hG dX6_isStreet_50 (by decide) ?_
        obtain rfl := Option.some.inj hres
        exact (hR _ _ (z_nar01 (Or.inr rfl)) dX6_isStreet_54)
  replace hres := hv
  clear hv
  refine z_if_eq 21 hG dX6_isStreet_6 (by decide) (fun c => ?_) (fun c => ?_)
  · replace hres := z_ifp c hres
    refine z_iconst 0 hG dX6_isStreet_21 (by decide) ?_
    obtain rfl := Option.some.inj hres
    exact J
  · replace hres := z_ifn c hres
    refine z_aload_n hG dX6_isStreet_9 0 rfl ?_
    refine z_iload_n hG dX6_isStreet_10 2 rfl ?_
    obtain ⟨v8, hv, hres⟩ := z_bind hres
    refine z_callV (As := [.int p1]) (rest := [.ref aM]) (wr := ([] : va_W)) (ws' := (fun _ : Unit => ([(aM, .inr (6, [.ref aMk, .ref aMj, .int mN, .int mS, .ref aMc, .ref aMw, .int mX, .int mT])), (aMk, .inl (K.2 0, 12, .inl mK)), (aMj, .inl (K.2 3, 12, .inr (.inr (.inr (.inr (zo aMr 12)))))), (aMc, .inl (K.2 0, 12, .inl mC)), (aMw, .inl (K.2 0, 12, .inl mW))] ++ zR12Z K aMr mJ))) (stk := (fun _ : Unit => [.int v8, .ref aM])) (kc' := 0) (ks' := 0) (n := 1) (C := RX6) (ci := 6) hG dX6_isStreet_11 (kX6_is _ K aM aMk aMj aMc aMw aMr mN mS mX mT mK mC mW mJ p1 v8 hv) gX6_isStreet_X6_is rfl rfl rfl ⟨rfl, by decide, by decide, rfl⟩ ⟨by decide, by decide⟩ (Nat.le_of_ble_eq_true rfl) ⟨(Nat.le_of_ble_eq_true rfl), (Nat.le_of_ble_eq_true rfl)⟩ [0, 1, 2, 3, 4, 5, 6, 7, 8, 9, 10, 11, 12, 13, 14, 15, 16] [] [0, 1, 2, 3, 4, 5, 6, 7, 8, 9, 10, 11, 12, 13, 14, 15, 16] rfl rfl rfl rfl (by decide) rfl (fun _ => rfl) (fun _ => rfl) rfl rfl rfl 0 rfl rfl rfl rfl (fun _ => ?_)
    refine z_if_eq 21 hG dX6_isStreet_14 (by decide) (fun c => ?_) (fun c => ?_)
    · replace hres := z_ifp c hres
      refine z_iconst 0 hG dX6_isStreet_21 (by decide) ?_
      obtain rfl := Option.some.inj hres
      exact J
    · replace hres := z_ifn c hres
      refine z_iconst 1 hG dX6_isStreet_17 (by decide) ?_
      refine z_goto 22 hG dX6_isStreet_18 (by decide) ?_
      obtain rfl := Option.some.inj hres
      exact J

theorem dX6_keyAt_0 : decode cX6_keyAt 0 = .ok (.aload_n 0, 1) := by decide +kernel
theorem dX6_keyAt_1 : decode cX6_keyAt 1 = .ok (.iload_n 1, 1) := by decide +kernel
theorem dX6_keyAt_2 : decode cX6_keyAt 2 = .ok (.ifCond .lt 15, 3) := by decide +kernel
theorem dX6_keyAt_5 : decode cX6_keyAt 5 = .ok (.iload_n 1, 1) := by decide +kernel
theorem dX6_keyAt_6 : decode cX6_keyAt 6 = .ok (.aload_n 0, 1) := by decide +kernel
theorem dX6_keyAt_7 : decode cX6_keyAt 7 = .ok (.getfield 31, 3) := by decide +kernel
theorem dX6_keyAt_10 : decode cX6_keyAt 10 = .ok (.if_icmp .ge 7, 3) := by decide +kernel
theorem dX6_keyAt_13 : decode cX6_keyAt 13 = .ok (.iconst 1, 1) := by decide +kernel
theorem dX6_keyAt_14 : decode cX6_keyAt 14 = .ok (.goto 4, 3) := by decide +kernel
theorem dX6_keyAt_17 : decode cX6_keyAt 17 = .ok (.iconst 0, 1) := by decide +kernel
theorem dX6_keyAt_18 : decode cX6_keyAt 18 = .ok (.iconst 1, 1) := by decide +kernel
theorem dX6_keyAt_19 : decode cX6_keyAt 19 = .ok (.iconst 1, 1) := by decide +kernel
theorem dX6_keyAt_20 : decode cX6_keyAt 20 = .ok (.invokevirtual 42, 3) := by decide +kernel
theorem dX6_keyAt_23 : decode cX6_keyAt 23 = .ok (.ifCond .eq 12, 3) := by decide +kernel
theorem dX6_keyAt_26 : decode cX6_keyAt 26 = .ok (.aload_n 0, 1) := by decide +kernel
theorem dX6_keyAt_27 : decode cX6_keyAt 27 = .ok (.getfield 9, 3) := by decide +kernel
theorem dX6_keyAt_30 : decode cX6_keyAt 30 = .ok (.iload_n 1, 1) := by decide +kernel
theorem dX6_keyAt_31 : decode cX6_keyAt 31 = .ok (.iaload, 1) := by decide +kernel
theorem dX6_keyAt_32 : decode cX6_keyAt 32 = .ok (.goto 4, 3) := by decide +kernel
theorem dX6_keyAt_35 : decode cX6_keyAt 35 = .ok (.iconst 0, 1) := by decide +kernel
theorem dX6_keyAt_36 : decode cX6_keyAt 36 = .ok (.ireturn, 1) := by decide +kernel
set_option maxRecDepth 20000 in
theorem ggX6_keyAt_X6_can : GoodIn wsX6_keyAt wsX6_can := goodIn_r _ [7, 8, 9, 10, 11, 12, 13, 14, 15, 16] (by decide +kernel) (by decide +kernel)
set_option maxRecDepth 20000 in
theorem gX6_keyAt_X6_can : GoodIn wsX6_keyAt (wsV RX6 42 RX6 yX6_can wsX6_can) := goodIn_app (goodIn_of _ (by decide +kernel)) ggX6_keyAt_X6_can
theorem mX6_keyAt_0 : Cond.fieldLink RX6 31 "LayerwaysModel" "many" "I" ∈ wsX6_keyAt := by decide +kernel
theorem iX6_keyAt_X6 : ∀ w ∈ u_ws RX6 TX6 8, w ∈ wsX6_keyAt := by decide +kernel
theorem mX6_keyAt_2 : Cond.fieldLink RX6 9 "LayerwaysModel" "keys" "[I" ∈ wsX6_keyAt := by decide +kernel
def fX6_keyAt (mN : Int32) (mK : (Nat → Int32)) (p0 : Int32) : Option (Int32 × Int32) := ((if p0 < 0 then some 0 else if mN ≤ p0 then some 0 else some 1) : Option Int32).bind fun v1 => (fX6_can v1 1 1).bind fun v2 => if v2.1 = 0 then some (0, v2.2) else if zin p0 12 then some ((mK p0.toNatClampNeg), v2.2) else none
set_option maxRecDepth 100000 in
set_option maxHeartbeats 4000000 in
theorem kX6_keyAt (l : Launch) (K : zK) (aM : Nat) (aMk : Nat) (aMj : Nat) (aMc : Nat) (aMw : Nat) (aMr : (Nat → Nat))  (mN : Int32) (mS : Int32) (mX : Int32) (mT : Int32) (mK : (Nat → Int32)) (mC : (Nat → Int32)) (mW : (Nat → Int32)) (mJ : (Nat → Nat → Int32)) (p0 : Int32) (r : Int32 × Int32) (hres : fX6_keyAt mN mK p0 = some r) : zM l K yX6_keyAt wsX6_keyAt ({ frames := 1, cells := 0, slots := 0, locals := 23 }) [.ref aM, .int p0] ([(aM, .inr (6, [.ref aMk, .ref aMj, .int mN, .int mS, .ref aMc, .ref aMw, .int mX, .int mT])), (aMk, .inl (K.2 0, 12, .inl mK)), (aMj, .inl (K.2 3, 12, .inr (.inr (.inr (.inr (zo aMr 12)))))), (aMc, .inl (K.2 0, 12, .inl mC)), (aMw, .inl (K.2 0, 12, .inl mW))] ++ zR12Z K aMr mJ) (fun _ : Unit => some (.int r.1)) (fun _ : Unit => ([(aM, .inr (6, [.ref aMk, .ref aMj, .int mN, .int mS, .ref aMc, .ref aMw, .int mX, .int r.2])), (aMk, .inl (K.2 0, 12, .inl mK)), (aMj, .inl (K.2 3, 12, .inr (.inr (.inr (.inr (zo aMr 12)))))), (aMc, .inl (K.2 0, 12, .inl mC)), (aMw, .inl (K.2 0, 12, .inl mW))] ++ zR12Z K aMr mJ)) 0 0 := by
  refine zM.intI (cc := cX6_keyAt) (maxL := 2) (ret := (some .int)) rfl (by decide) (Nat.le_of_ble_eq_true rfl) rfl ?_
  intro G hGl hG hN hE
  have hR : ∀ (pc : Nat) (lv : zL), decode cX6_keyAt pc = .ok (.ireturn, 1) → zj G pc lv [.int r.1] ([(aM, .inr (6, [.ref aMk, .ref aMj, .int mN, .int mS, .ref aMc, .ref aMw, .int mX, .int r.2])), (aMk, .inl (K.2 0, 12, .inl mK)), (aMj, .inl (K.2 3, 12, .inr (.inr (.inr (.inr (zo aMr 12)))))), (aMc, .inl (K.2 0, 12, .inl mC)), (aMw, .inl (K.2 0, 12, .inl mW))] ++ zR12Z K aMr mJ) 0 0 := fun pc lv d => hE () _ rfl pc lv d
  clear hE
  unfold fX6_keyAt at hres
  show zj G 0 [(0, .ref aM), (1, .int p0)] [] ([(aM, .inr (6, [.ref aMk, .ref aMj, .int mN, .int mS, .ref aMc, .ref aMw, .int mX, .int mT])), (aMk, .inl (K.2 0, 12, .inl mK)), (aMj, .inl (K.2 3, 12, .inr (.inr (.inr (.inr (zo aMr 12)))))), (aMc, .inl (K.2 0, 12, .inl mC)), (aMw, .inl (K.2 0, 12, .inl mW))] ++ zR12Z K aMr mJ) 0 0
  refine z_aload_n hG dX6_keyAt_0 0 rfl ?_
  refine z_iload_n hG dX6_keyAt_1 1 rfl ?_
  obtain ⟨v1, hv, hres⟩ := z_bind hres
  have J : zj G 18 [(0, .ref aM), (1, .int p0)] [.int v1, .ref aM] ([(aM, .inr (6, [.ref aMk, .ref aMj, .int mN, .int mS, .ref aMc, .ref aMw, .int mX, .int mT])), (aMk, .inl (K.2 0, 12, .inl mK)), (aMj, .inl (K.2 3, 12, .inr (.inr (.inr (.inr (zo aMr 12)))))), (aMc, .inl (K.2 0, 12, .inl mC)), (aMw, .inl (K.2 0, 12, .inl mW))] ++ zR12Z K aMr mJ) 0 0 := by
    refine z_iconst 1 hG dX6_keyAt_18 (by decide) ?_
    refine z_iconst 1 hG dX6_keyAt_19 (by decide) ?_
    obtain ⟨v2, hv, hres⟩ := z_bind hres
    refine z_callV (As := [.int v1, .int 1, .int 1]) (rest := []) (wr := ([(aMk, .inl (K.2 0, 12, .inl mK)), (aMj, .inl (K.2 3, 12, .inr (.inr (.inr (.inr (zo aMr 12)))))), (aMc, .inl (K.2 0, 12, .inl mC)), (aMw, .inl (K.2 0, 12, .inl mW))] ++ zR12Z K aMr mJ)) (ws' := (fun _ : Unit => ([(aM, .inr (6, [.ref aMk, .ref aMj, .int mN, .int mS, .ref aMc, .ref aMw, .int mX, .int v2.2])), (aMk, .inl (K.2 0, 12, .inl mK)), (aMj, .inl (K.2 3, 12, .inr (.inr (.inr (.inr (zo aMr 12)))))), (aMc, .inl (K.2 0, 12, .inl mC)), (aMw, .inl (K.2 0, 12, .inl mW))] ++ zR12Z K aMr mJ))) (stk := (fun _ : Unit => [.int v2.1])) (kc' := 0) (ks' := 0) (n := 3) (C := RX6) (ci := 6) hG dX6_keyAt_20 (kX6_can _ K aM aMk aMj aMc aMw mN mS mX mT v1 1 1 v2 hv) gX6_keyAt_X6_can rfl rfl rfl ⟨rfl, by decide, by decide, rfl⟩ ⟨by decide, by decide⟩ (Nat.le_of_ble_eq_true rfl) ⟨(Nat.le_of_ble_eq_true rfl), (Nat.le_of_ble_eq_true rfl)⟩ [0] [1, 2, 3, 4, 5, 6, 7, 8, 9, 10, 11, 12, 13, 14, 15, 16] [16, 0, 1, 2, 3, 4, 5, 6, 7, 8, 9, 10, 11, 12, 13, 14, 15] rfl rfl rfl rfl (by decide) rfl (fun _ => rfl) (fun _ => rfl) rfl rfl rfl 0 rfl rfl rfl rfl (fun _ => ?_)
    refine z_if_eq 35 hG dX6_keyAt_23 (by decide) (fun c => ?_) (fun c => ?_)
    · replace hres := z_ifp c hres
      refine z_iconst 0 hG dX6_keyAt_35 (by decide) ?_
      obtain rfl := Option.some.inj hres
      exact (hR _ _ dX6_keyAt_36)
    · replace hres := z_ifn c hres
      refine z_aload_n hG dX6_keyAt_26 0 rfl ?_
      refine z_get (ci := 6) (C := RX6) (T := TX6) (N := 8) hG dX6_keyAt_27 iX6_keyAt_X6 0 (by decide) mX6_keyAt_2 rfl rfl 0 rfl rfl ?_
      refine z_iload_n hG dX6_keyAt_30 1 rfl ?_
      obtain ⟨hg, hres⟩ := z_guard hres
      refine z_iald hG dX6_keyAt_31 1 rfl hg ?_
      refine z_goto 36 hG dX6_keyAt_32 (by decide) ?_
      obtain rfl := Option.some.inj hres
      exact (hR _ _ dX6_keyAt_36)
  replace hres := hv
  clear hv
  refine z_if_lt 17 hG dX6_keyAt_2 (by decide) (fun c => ?_) (fun c => ?_)
  · replace hres := z_ifp c hres
    refine z_iconst 0 hG dX6_keyAt_17 (by decide) ?_
    obtain rfl := Option.some.inj hres
    exact J
  · replace hres := z_ifn c hres
    refine z_iload_n hG dX6_keyAt_5 1 rfl ?_
    refine z_aload_n hG dX6_keyAt_6 0 rfl ?_
    refine z_get (ci := 6) (C := RX6) (T := TX6) (N := 8) hG dX6_keyAt_7 iX6_keyAt_X6 2 (by decide) mX6_keyAt_0 rfl rfl 0 rfl rfl ?_
    refine z_icmp_ge 17 hG dX6_keyAt_10 (by decide) (fun c => ?_) (fun c => ?_)
    · replace hres := z_ifp c hres
      refine z_iconst 0 hG dX6_keyAt_17 (by decide) ?_
      obtain rfl := Option.some.inj hres
      exact J
    · replace hres := z_ifn c hres
      refine z_iconst 1 hG dX6_keyAt_13 (by decide) ?_
      refine z_goto 18 hG dX6_keyAt_14 (by decide) ?_
      obtain rfl := Option.some.inj hres
      exact J

theorem dX6_changedAt_0 : decode cX6_changedAt 0 = .ok (.aload_n 0, 1) := by decide +kernel
theorem dX6_changedAt_1 : decode cX6_changedAt 1 = .ok (.iload_n 1, 1) := by decide +kernel
theorem dX6_changedAt_2 : decode cX6_changedAt 2 = .ok (.ifCond .lt 15, 3) := by decide +kernel
theorem dX6_changedAt_5 : decode cX6_changedAt 5 = .ok (.iload_n 1, 1) := by decide +kernel
theorem dX6_changedAt_6 : decode cX6_changedAt 6 = .ok (.aload_n 0, 1) := by decide +kernel
theorem dX6_changedAt_7 : decode cX6_changedAt 7 = .ok (.getfield 46, 3) := by decide +kernel
theorem dX6_changedAt_10 : decode cX6_changedAt 10 = .ok (.if_icmp .ge 7, 3) := by decide +kernel
theorem dX6_changedAt_13 : decode cX6_changedAt 13 = .ok (.iconst 1, 1) := by decide +kernel
theorem dX6_changedAt_14 : decode cX6_changedAt 14 = .ok (.goto 4, 3) := by decide +kernel
theorem dX6_changedAt_17 : decode cX6_changedAt 17 = .ok (.iconst 0, 1) := by decide +kernel
theorem dX6_changedAt_18 : decode cX6_changedAt 18 = .ok (.iconst 1, 1) := by decide +kernel
theorem dX6_changedAt_19 : decode cX6_changedAt 19 = .ok (.iconst 1, 1) := by decide +kernel
theorem dX6_changedAt_20 : decode cX6_changedAt 20 = .ok (.invokevirtual 42, 3) := by decide +kernel
theorem dX6_changedAt_23 : decode cX6_changedAt 23 = .ok (.ifCond .eq 12, 3) := by decide +kernel
theorem dX6_changedAt_26 : decode cX6_changedAt 26 = .ok (.aload_n 0, 1) := by decide +kernel
theorem dX6_changedAt_27 : decode cX6_changedAt 27 = .ok (.getfield 22, 3) := by decide +kernel
theorem dX6_changedAt_30 : decode cX6_changedAt 30 = .ok (.iload_n 1, 1) := by decide +kernel
theorem dX6_changedAt_31 : decode cX6_changedAt 31 = .ok (.iaload, 1) := by decide +kernel
theorem dX6_changedAt_32 : decode cX6_changedAt 32 = .ok (.goto 4, 3) := by decide +kernel
theorem dX6_changedAt_35 : decode cX6_changedAt 35 = .ok (.iconst 0, 1) := by decide +kernel
theorem dX6_changedAt_36 : decode cX6_changedAt 36 = .ok (.ireturn, 1) := by decide +kernel
set_option maxRecDepth 20000 in
theorem ggX6_changedAt_X6_can : GoodIn wsX6_changedAt wsX6_can := goodIn_r _ [7, 8, 9, 10, 11, 12, 13, 14, 15, 16] (by decide +kernel) (by decide +kernel)
set_option maxRecDepth 20000 in
theorem gX6_changedAt_X6_can : GoodIn wsX6_changedAt (wsV RX6 42 RX6 yX6_can wsX6_can) := goodIn_app (goodIn_of _ (by decide +kernel)) ggX6_changedAt_X6_can
theorem mX6_changedAt_0 : Cond.fieldLink RX6 46 "LayerwaysModel" "changes" "I" ∈ wsX6_changedAt := by decide +kernel
theorem iX6_changedAt_X6 : ∀ w ∈ u_ws RX6 TX6 8, w ∈ wsX6_changedAt := by decide +kernel
theorem mX6_changedAt_2 : Cond.fieldLink RX6 22 "LayerwaysModel" "changed" "[I" ∈ wsX6_changedAt := by decide +kernel
def fX6_changedAt (mX : Int32) (mC : (Nat → Int32)) (p0 : Int32) : Option (Int32 × Int32) := ((if p0 < 0 then some 0 else if mX ≤ p0 then some 0 else some 1) : Option Int32).bind fun v1 => (fX6_can v1 1 1).bind fun v2 => if v2.1 = 0 then some (0, v2.2) else if zin p0 12 then some ((mC p0.toNatClampNeg), v2.2) else none
set_option maxRecDepth 100000 in
set_option maxHeartbeats 4000000 in
theorem kX6_changedAt (l : Launch) (K : zK) (aM : Nat) (aMk : Nat) (aMj : Nat) (aMc : Nat) (aMw : Nat) (aMr : (Nat → Nat))  (mN : Int32) (mS : Int32) (mX : Int32) (mT : Int32) (mK : (Nat → Int32)) (mC : (Nat → Int32)) (mW : (Nat → Int32)) (mJ : (Nat → Nat → Int32)) (p0 : Int32) (r : Int32 × Int32) (hres : fX6_changedAt mX mC p0 = some r) : zM l K yX6_changedAt wsX6_changedAt ({ frames := 1, cells := 0, slots := 0, locals := 23 }) [.ref aM, .int p0] ([(aM, .inr (6, [.ref aMk, .ref aMj, .int mN, .int mS, .ref aMc, .ref aMw, .int mX, .int mT])), (aMk, .inl (K.2 0, 12, .inl mK)), (aMj, .inl (K.2 3, 12, .inr (.inr (.inr (.inr (zo aMr 12)))))), (aMc, .inl (K.2 0, 12, .inl mC)), (aMw, .inl (K.2 0, 12, .inl mW))] ++ zR12Z K aMr mJ) (fun _ : Unit => some (.int r.1)) (fun _ : Unit => ([(aM, .inr (6, [.ref aMk, .ref aMj, .int mN, .int mS, .ref aMc, .ref aMw, .int mX, .int r.2])), (aMk, .inl (K.2 0, 12, .inl mK)), (aMj, .inl (K.2 3, 12, .inr (.inr (.inr (.inr (zo aMr 12)))))), (aMc, .inl (K.2 0, 12, .inl mC)), (aMw, .inl (K.2 0, 12, .inl mW))] ++ zR12Z K aMr mJ)) 0 0 := by
  refine zM.intI (cc := cX6_changedAt) (maxL := 2) (ret := (some .int)) rfl (by decide) (Nat.le_of_ble_eq_true rfl) rfl ?_
  intro G hGl hG hN hE
  have hR : ∀ (pc : Nat) (lv : zL), decode cX6_changedAt pc = .ok (.ireturn, 1) → zj G pc lv [.int r.1] ([(aM, .inr (6, [.ref aMk, .ref aMj, .int mN, .int mS, .ref aMc, .ref aMw, .int mX, .int r.2])), (aMk, .inl (K.2 0, 12, .inl mK)), (aMj, .inl (K.2 3, 12, .inr (.inr (.inr (.inr (zo aMr 12)))))), (aMc, .inl (K.2 0, 12, .inl mC)), (aMw, .inl (K.2 0, 12, .inl mW))] ++ zR12Z K aMr mJ) 0 0 := fun pc lv d => hE () _ rfl pc lv d
  clear hE
  unfold fX6_changedAt at hres
  show zj G 0 [(0, .ref aM), (1, .int p0)] [] ([(aM, .inr (6, [.ref aMk, .ref aMj, .int mN, .int mS, .ref aMc, .ref aMw, .int mX, .int mT])), (aMk, .inl (K.2 0, 12, .inl mK)), (aMj, .inl (K.2 3, 12, .inr (.inr (.inr (.inr (zo aMr 12)))))), (aMc, .inl (K.2 0, 12, .inl mC)), (aMw, .inl (K.2 0, 12, .inl mW))] ++ zR12Z K aMr mJ) 0 0
  refine z_aload_n hG dX6_changedAt_0 0 rfl ?_
  refine z_iload_n hG dX6_changedAt_1 1 rfl ?_
  obtain ⟨v1, hv, hres⟩ := z_bind hres
  have J : zj G 18 [(0, .ref aM), (1, .int p0)] [.int v1, .ref aM] ([(aM, .inr (6, [.ref aMk, .ref aMj, .int mN, .int mS, .ref aMc, .ref aMw, .int mX, .int mT])), (aMk, .inl (K.2 0, 12, .inl mK)), (aMj, .inl (K.2 3, 12, .inr (.inr (.inr (.inr (zo aMr 12)))))), (aMc, .inl (K.2 0, 12, .inl mC)), (aMw, .inl (K.2 0, 12, .inl mW))] ++ zR12Z K aMr mJ) 0 0 := by
    refine z_iconst 1 hG dX6_changedAt_18 (by decide) ?_
    refine z_iconst 1 hG dX6_changedAt_19 (by decide) ?_
    obtain ⟨v2, hv, hres⟩ := z_bind hres
    refine z_callV (As := [.int v1, .int 1, .int 1]) (rest := []) (wr := ([(aMk, .inl (K.2 0, 12, .inl mK)), (aMj, .inl (K.2 3, 12, .inr (.inr (.inr (.inr (zo aMr 12)))))), (aMc, .inl (K.2 0, 12, .inl mC)), (aMw, .inl (K.2 0, 12, .inl mW))] ++ zR12Z K aMr mJ)) (ws' := (fun _ : Unit => ([(aM, .inr (6, [.ref aMk, .ref aMj, .int mN, .int mS, .ref aMc, .ref aMw, .int mX, .int v2.2])), (aMk, .inl (K.2 0, 12, .inl mK)), (aMj, .inl (K.2 3, 12, .inr (.inr (.inr (.inr (zo aMr 12)))))), (aMc, .inl (K.2 0, 12, .inl mC)), (aMw, .inl (K.2 0, 12, .inl mW))] ++ zR12Z K aMr mJ))) (stk := (fun _ : Unit => [.int v2.1])) (kc' := 0) (ks' := 0) (n := 3) (C := RX6) (ci := 6) hG dX6_changedAt_20 (kX6_can _ K aM aMk aMj aMc aMw mN mS mX mT v1 1 1 v2 hv) gX6_changedAt_X6_can rfl rfl rfl ⟨rfl, by decide, by decide, rfl⟩ ⟨by decide, by decide⟩ (Nat.le_of_ble_eq_true rfl) ⟨(Nat.le_of_ble_eq_true rfl), (Nat.le_of_ble_eq_true rfl)⟩ [0] [1, 2, 3, 4, 5, 6, 7, 8, 9, 10, 11, 12, 13, 14, 15, 16] [16, 0, 1, 2, 3, 4, 5, 6, 7, 8, 9, 10, 11, 12, 13, 14, 15] rfl rfl rfl rfl (by decide) rfl (fun _ => rfl) (fun _ => rfl) rfl rfl rfl 0 rfl rfl rfl rfl (fun _ => ?_)
    refine z_if_eq 35 hG dX6_changedAt_23 (by decide) (fun c => ?_) (fun c => ?_)
    · replace hres := z_ifp c hres
      refine z_iconst 0 hG dX6_changedAt_35 (by decide) ?_
      obtain rfl := Option.some.inj hres
      exact (hR _ _ dX6_changedAt_36)
    · replace hres := z_ifn c hres
      refine z_aload_n hG dX6_changedAt_26 0 rfl ?_
      refine z_get (ci := 6) (C := RX6) (T := TX6) (N := 8) hG dX6_changedAt_27 iX6_changedAt_X6 4 (by decide) mX6_changedAt_2 rfl rfl 0 rfl rfl ?_
      refine z_iload_n hG dX6_changedAt_30 1 rfl ?_
      obtain ⟨hg, hres⟩ := z_guard hres
      refine z_iald hG dX6_changedAt_31 3 rfl hg ?_
      refine z_goto 36 hG dX6_changedAt_32 (by decide) ?_
      obtain rfl := Option.some.inj hres
      exact (hR _ _ dX6_changedAt_36)
  replace hres := hv
  clear hv
  refine z_if_lt 17 hG dX6_changedAt_2 (by decide) (fun c => ?_) (fun c => ?_)
  · replace hres := z_ifp c hres
    refine z_iconst 0 hG dX6_changedAt_17 (by decide) ?_
    obtain rfl := Option.some.inj hres
    exact J
  · replace hres := z_ifn c hres
    refine z_iload_n hG dX6_changedAt_5 1 rfl ?_
    refine z_aload_n hG dX6_changedAt_6 0 rfl ?_
    refine z_get (ci := 6) (C := RX6) (T := TX6) (N := 8) hG dX6_changedAt_7 iX6_changedAt_X6 6 (by decide) mX6_changedAt_0 rfl rfl 0 rfl rfl ?_
    refine z_icmp_ge 17 hG dX6_changedAt_10 (by decide) (fun c => ?_) (fun c => ?_)
    · replace hres := z_ifp c hres
      refine z_iconst 0 hG dX6_changedAt_17 (by decide) ?_
      obtain rfl := Option.some.inj hres
      exact J
    · replace hres := z_ifn c hres
      refine z_iconst 1 hG dX6_changedAt_13 (by decide) ?_
      refine z_goto 18 hG dX6_changedAt_14 (by decide) ?_
      obtain rfl := Option.some.inj hres
      exact J

theorem dX6_wasAt_0 : decode cX6_wasAt 0 = .ok (.aload_n 0, 1) := by decide +kernel
theorem dX6_wasAt_1 : decode cX6_wasAt 1 = .ok (.iload_n 1, 1) := by decide +kernel
theorem dX6_wasAt_2 : decode cX6_wasAt 2 = .ok (.ifCond .lt 15, 3) := by decide +kernel
theorem dX6_wasAt_5 : decode cX6_wasAt 5 = .ok (.iload_n 1, 1) := by decide +kernel
theorem dX6_wasAt_6 : decode cX6_wasAt 6 = .ok (.aload_n 0, 1) := by decide +kernel
theorem dX6_wasAt_7 : decode cX6_wasAt 7 = .ok (.getfield 46, 3) := by decide +kernel
theorem dX6_wasAt_10 : decode cX6_wasAt 10 = .ok (.if_icmp .ge 7, 3) := by decide +kernel
theorem dX6_wasAt_13 : decode cX6_wasAt 13 = .ok (.iconst 1, 1) := by decide +kernel
theorem dX6_wasAt_14 : decode cX6_wasAt 14 = .ok (.goto 4, 3) := by decide +kernel
theorem dX6_wasAt_17 : decode cX6_wasAt 17 = .ok (.iconst 0, 1) := by decide +kernel
theorem dX6_wasAt_18 : decode cX6_wasAt 18 = .ok (.iconst 1, 1) := by decide +kernel
theorem dX6_wasAt_19 : decode cX6_wasAt 19 = .ok (.iconst 1, 1) := by decide +kernel
theorem dX6_wasAt_20 : decode cX6_wasAt 20 = .ok (.invokevirtual 42, 3) := by decide +kernel
theorem dX6_wasAt_23 : decode cX6_wasAt 23 = .ok (.ifCond .eq 12, 3) := by decide +kernel
theorem dX6_wasAt_26 : decode cX6_wasAt 26 = .ok (.aload_n 0, 1) := by decide +kernel
theorem dX6_wasAt_27 : decode cX6_wasAt 27 = .ok (.getfield 25, 3) := by decide +kernel
theorem dX6_wasAt_30 : decode cX6_wasAt 30 = .ok (.iload_n 1, 1) := by decide +kernel
theorem dX6_wasAt_31 : decode cX6_wasAt 31 = .ok (.iaload, 1) := by decide +kernel
theorem dX6_wasAt_32 : decode cX6_wasAt 32 = .ok (.goto 4, 3) := by decide +kernel
theorem dX6_wasAt_35 : decode cX6_wasAt 35 = .ok (.iconst 0, 1) := by decide +kernel
theorem dX6_wasAt_36 : decode cX6_wasAt 36 = .ok (.ireturn, 1) := by decide +kernel
set_option maxRecDepth 20000 in
theorem ggX6_wasAt_X6_can : GoodIn wsX6_wasAt wsX6_can := goodIn_r _ [7, 8, 9, 10, 11, 12, 13, 14, 15, 16] (by decide +kernel) (by decide +kernel)
set_option maxRecDepth 20000 in
theorem gX6_wasAt_X6_can : GoodIn wsX6_wasAt (wsV RX6 42 RX6 yX6_can wsX6_can) := goodIn_app (goodIn_of _ (by decide +kernel)) ggX6_wasAt_X6_can
theorem mX6_wasAt_0 : Cond.fieldLink RX6 46 "LayerwaysModel" "changes" "I" ∈ wsX6_wasAt := by decide +kernel
theorem iX6_wasAt_X6 : ∀ w ∈ u_ws RX6 TX6 8, w ∈ wsX6_wasAt := by decide +kernel
theorem mX6_wasAt_2 : Cond.fieldLink RX6 25 "LayerwaysModel" "was" "[I" ∈ wsX6_wasAt := by decide +kernel
def fX6_wasAt (mX : Int32) (mW : (Nat → Int32)) (p0 : Int32) : Option (Int32 × Int32) := ((if p0 < 0 then some 0 else if mX ≤ p0 then some 0 else some 1) : Option Int32).bind fun v1 => (fX6_can v1 1 1).bind fun v2 => if v2.1 = 0 then some (0, v2.2) else if zin p0 12 then some ((mW p0.toNatClampNeg), v2.2) else none
set_option maxRecDepth 100000 in
set_option maxHeartbeats 4000000 in
theorem kX6_wasAt (l : Launch) (K : zK) (aM : Nat) (aMk : Nat) (aMj : Nat) (aMc : Nat) (aMw : Nat) (aMr : (Nat → Nat))  (mN : Int32) (mS : Int32) (mX : Int32) (mT : Int32) (mK : (Nat → Int32)) (mC : (Nat → Int32)) (mW : (Nat → Int32)) (mJ : (Nat → Nat → Int32)) (p0 : Int32) (r : Int32 × Int32) (hres : fX6_wasAt mX mW p0 = some r) : zM l K yX6_wasAt wsX6_wasAt ({ frames := 1, cells := 0, slots := 0, locals := 23 }) [.ref aM, .int p0] ([(aM, .inr (6, [.ref aMk, .ref aMj, .int mN, .int mS, .ref aMc, .ref aMw, .int mX, .int mT])), (aMk, .inl (K.2 0, 12, .inl mK)), (aMj, .inl (K.2 3, 12, .inr (.inr (.inr (.inr (zo aMr 12)))))), (aMc, .inl (K.2 0, 12, .inl mC)), (aMw, .inl (K.2 0, 12, .inl mW))] ++ zR12Z K aMr mJ) (fun _ : Unit => some (.int r.1)) (fun _ : Unit => ([(aM, .inr (6, [.ref aMk, .ref aMj, .int mN, .int mS, .ref aMc, .ref aMw, .int mX, .int r.2])), (aMk, .inl (K.2 0, 12, .inl mK)), (aMj, .inl (K.2 3, 12, .inr (.inr (.inr (.inr (zo aMr 12)))))), (aMc, .inl (K.2 0, 12, .inl mC)), (aMw, .inl (K.2 0, 12, .inl mW))] ++ zR12Z K aMr mJ)) 0 0 := by
  refine zM.intI (cc := cX6_wasAt) (maxL := 2) (ret := (some .int)) rfl (by decide) (Nat.le_of_ble_eq_true rfl) rfl ?_
  intro G hGl hG hN hE
  have hR : ∀ (pc : Nat) (lv : zL), decode cX6_wasAt pc = .ok (.ireturn, 1) → zj G pc lv [.int r.1] ([(aM, .inr (6, [.ref aMk, .ref aMj, .int mN, .int mS, .ref aMc, .ref aMw, .int mX, .int r.2])), (aMk, .inl (K.2 0, 12, .inl mK)), (aMj, .inl (K.2 3, 12, .inr (.inr (.inr (.inr (zo aMr 12)))))), (aMc, .inl (K.2 0, 12, .inl mC)), (aMw, .inl (K.2 0, 12, .inl mW))] ++ zR12Z K aMr mJ) 0 0 := fun pc lv d => hE () _ rfl pc lv d
  clear hE
  unfold fX6_wasAt at hres
  show zj G 0 [(0, .ref aM), (1, .int p0)] [] ([(aM, .inr (6, [.ref aMk, .ref aMj, .int mN, .int mS, .ref aMc, .ref aMw, .int mX, .int mT])), (aMk, .inl (K.2 0, 12, .inl mK)), (aMj, .inl (K.2 3, 12, .inr (.inr (.inr (.inr (zo aMr 12)))))), (aMc, .inl (K.2 0, 12, .inl mC)), (aMw, .inl (K.2 0, 12, .inl mW))] ++ zR12Z K aMr mJ) 0 0
  refine z_aload_n hG dX6_wasAt_0 0 rfl ?_
  refine z_iload_n hG dX6_wasAt_1 1 rfl ?_
  obtain ⟨v1, hv, hres⟩ := z_bind hres
  have J : zj G 18 [(0, .ref aM), (1, .int p0)] [.int v1, .ref aM] ([(aM, .inr (6, [.ref aMk, .ref aMj, .int mN, .int mS, .ref aMc, .ref aMw, .int mX, .int mT])), (aMk, .inl (K.2 0, 12, .inl mK)), (aMj, .inl (K.2 3, 12, .inr (.inr (.inr (.inr (zo aMr 12)))))), (aMc, .inl (K.2 0, 12, .inl mC)), (aMw, .inl (K.2 0, 12, .inl mW))] ++ zR12Z K aMr mJ) 0 0 := by
    refine z_iconst 1 hG dX6_wasAt_18 (by decide) ?_
    refine z_iconst 1 hG dX6_wasAt_19 (by decide) ?_
    obtain ⟨v2, hv, hres⟩ := z_bind hres
    refine z_callV (As := [.int v1, .int 1, .int 1]) (rest := []) (wr := ([(aMk, .inl (K.2 0, 12, .inl mK)), (aMj, .inl (K.2 3, 12, .inr (.inr (.inr (.inr (zo aMr 12)))))), (aMc, .inl (K.2 0, 12, .inl mC)), (aMw, .inl (K.2 0, 12, .inl mW))] ++ zR12Z K aMr mJ)) (ws' := (fun _ : Unit => ([(aM, .inr (6, [.ref aMk, .ref aMj, .int mN, .int mS, .ref aMc, .ref aMw, .int mX, .int v2.2])), (aMk, .inl (K.2 0, 12, .inl mK)), (aMj, .inl (K.2 3, 12, .inr (.inr (.inr (.inr (zo aMr 12)))))), (aMc, .inl (K.2 0, 12, .inl mC)), (aMw, .inl (K.2 0, 12, .inl mW))] ++ zR12Z K aMr mJ))) (stk := (fun _ : Unit => [.int v2.1])) (kc' := 0) (ks' := 0) (n := 3) (C := RX6) (ci := 6) hG dX6_wasAt_20 (kX6_can _ K aM aMk aMj aMc aMw mN mS mX mT v1 1 1 v2 hv) gX6_wasAt_X6_can rfl rfl rfl ⟨rfl, by decide, by decide, rfl⟩ ⟨by decide, by decide⟩ (Nat.le_of_ble_eq_true rfl) ⟨(Nat.le_of_ble_eq_true rfl), (Nat.le_of_ble_eq_true rfl)⟩ [0] [1, 2, 3, 4, 5, 6, 7, 8, 9, 10, 11, 12, 13, 14, 15, 16] [16, 0, 1, 2, 3, 4, 5, 6, 7, 8, 9, 10, 11, 12, 13, 14, 15] rfl rfl rfl rfl (by decide) rfl (fun _ => rfl) (fun _ => rfl) rfl rfl rfl 0 rfl rfl rfl rfl (fun _ => ?_)
    refine z_if_eq 35 hG dX6_wasAt_23 (by decide) (fun c => ?_) (fun c => ?_)
    · replace hres := z_ifp c hres
      refine z_iconst 0 hG dX6_wasAt_35 (by decide) ?_
      obtain rfl := Option.some.inj hres
      exact (hR _ _ dX6_wasAt_36)
    · replace hres := z_ifn c hres
      refine z_aload_n hG dX6_wasAt_26 0 rfl ?_
      refine z_get (ci := 6) (C := RX6) (T := TX6) (N := 8) hG dX6_wasAt_27 iX6_wasAt_X6 5 (by decide) mX6_wasAt_2 rfl rfl 0 rfl rfl ?_
      refine z_iload_n hG dX6_wasAt_30 1 rfl ?_
      obtain ⟨hg, hres⟩ := z_guard hres
      refine z_iald hG dX6_wasAt_31 4 rfl hg ?_
      refine z_goto 36 hG dX6_wasAt_32 (by decide) ?_
      obtain rfl := Option.some.inj hres
      exact (hR _ _ dX6_wasAt_36)
  replace hres := hv
  clear hv
  refine z_if_lt 17 hG dX6_wasAt_2 (by decide) (fun c => ?_) (fun c => ?_)
  · replace hres := z_ifp c hres
    refine z_iconst 0 hG dX6_wasAt_17 (by decide) ?_
    obtain rfl := Option.some.inj hres
    exact J
  · replace hres := z_ifn c hres
    refine z_iload_n hG dX6_wasAt_5 1 rfl ?_
    refine z_aload_n hG dX6_wasAt_6 0 rfl ?_
    refine z_get (ci := 6) (C := RX6) (T := TX6) (N := 8) hG dX6_wasAt_7 iX6_wasAt_X6 6 (by decide) mX6_wasAt_0 rfl rfl 0 rfl rfl ?_
    refine z_icmp_ge 17 hG dX6_wasAt_10 (by decide) (fun c => ?_) (fun c => ?_)
    · replace hres := z_ifp c hres
      refine z_iconst 0 hG dX6_wasAt_17 (by decide) ?_
      obtain rfl := Option.some.inj hres
      exact J
    · replace hres := z_ifn c hres
      refine z_iconst 1 hG dX6_wasAt_13 (by decide) ?_
      refine z_goto 18 hG dX6_wasAt_14 (by decide) ?_
      obtain rfl := Option.some.inj hres
      exact J

theorem dX6_isTrue_0 : decode cX6_isTrue 0 = .ok (.aload_n 0, 1) := by decide +kernel
theorem dX6_isTrue_1 : decode cX6_isTrue 1 = .ok (.iconst 0, 1) := by decide +kernel
theorem dX6_isTrue_2 : decode cX6_isTrue 2 = .ok (.putfield 28, 3) := by decide +kernel
theorem dX6_isTrue_5 : decode cX6_isTrue 5 = .ok (.iconst 1, 1) := by decide +kernel
theorem dX6_isTrue_6 : decode cX6_isTrue 6 = .ok (.ireturn, 1) := by decide +kernel
theorem mX6_isTrue_0 : Cond.fieldLink RX6 28 "LayerwaysModel" "thrown" "I" ∈ wsX6_isTrue := by decide +kernel
theorem iX6_isTrue_X6 : ∀ w ∈ u_ws RX6 TX6 8, w ∈ wsX6_isTrue := by decide +kernel
def fX6_isTrue  : Option (Int32 × Int32) := some (1, 0)
set_option maxRecDepth 100000 in
set_option maxHeartbeats 4000000 in
theorem kX6_isTrue (l : Launch) (K : zK) (aM : Nat) (aMk : Nat) (aMj : Nat) (aMc : Nat) (aMw : Nat) (aMr : (Nat → Nat))  (mN : Int32) (mS : Int32) (mX : Int32) (mT : Int32) (mK : (Nat → Int32)) (mC : (Nat → Int32)) (mW : (Nat → Int32)) (mJ : (Nat → Nat → Int32)) (r : Int32 × Int32) (hres : fX6_isTrue = some r) : zM l K yX6_isTrue wsX6_isTrue ({ frames := 0, cells := 0, slots := 0, locals := 0 }) [.ref aM] ([(aM, .inr (6, [.ref aMk, .ref aMj, .int mN, .int mS, .ref aMc, .ref aMw, .int mX, .int mT])), (aMk, .inl (K.2 0, 12, .inl mK)), (aMj, .inl (K.2 3, 12, .inr (.inr (.inr (.inr (zo aMr 12)))))), (aMc, .inl (K.2 0, 12, .inl mC)), (aMw, .inl (K.2 0, 12, .inl mW))] ++ zR12Z K aMr mJ) (fun _ : Unit => some (.int r.1)) (fun _ : Unit => ([(aM, .inr (6, [.ref aMk, .ref aMj, .int mN, .int mS, .ref aMc, .ref aMw, .int mX, .int r.2])), (aMk, .inl (K.2 0, 12, .inl mK)), (aMj, .inl (K.2 3, 12, .inr (.inr (.inr (.inr (zo aMr 12)))))), (aMc, .inl (K.2 0, 12, .inl mC)), (aMw, .inl (K.2 0, 12, .inl mW))] ++ zR12Z K aMr mJ)) 0 0 := by
  refine zM.intZ (cc := cX6_isTrue) (maxL := 1) (ret := (some .boolean)) rfl (by decide) (Nat.le_of_ble_eq_true rfl) rfl ?_
  intro G hGl hG hN hE
  have hR : ∀ (pc : Nat) (lv : zL), narrow .boolean (.int r.1) = .int r.1 → decode cX6_isTrue pc = .ok (.ireturn, 1) → zj G pc lv [.int r.1] ([(aM, .inr (6, [.ref aMk, .ref aMj, .int mN, .int mS, .ref aMc, .ref aMw, .int mX, .int r.2])), (aMk, .inl (K.2 0, 12, .inl mK)), (aMj, .inl (K.2 3, 12, .inr (.inr (.inr (.inr (zo aMr 12)))))), (aMc, .inl (K.2 0, 12, .inl mC)), (aMw, .inl (K.2 0, 12, .inl mW))] ++ zR12Z K aMr mJ) 0 0 := fun pc lv n d => hE () _ rfl n pc lv d
  clear hE
  unfold fX6_isTrue at hres
  show zj G 0 [(0, .ref aM)] [] ([(aM, .inr (6, [.ref aMk, .ref aMj, .int mN, .int mS, .ref aMc, .ref aMw, .int mX, .int mT])), (aMk, .inl (K.2 0, 12, .inl mK)), (aMj, .inl (K.2 3, 12, .inr (.inr (.inr (.inr (zo aMr 12)))))), (aMc, .inl (K.2 0, 12, .inl mC)), (aMw, .inl (K.2 0, 12, .inl mW))] ++ zR12Z K aMr mJ) 0 0
  refine z_aload_n hG dX6_isTrue_0 0 rfl ?_
  refine z_iconst 0 hG dX6_isTrue_1 (by decide) ?_
  refine z_put (ci := 6) (C := RX6) (T := TX6) (N := 8) (ws' := ([(aM, .inr (6, [.ref aMk, .ref aMj, .int mN, .int mS, .ref aMc, .ref aMw, .int mX, .int 0])), (aMk, .inl (K.2 0, 12, .inl mK)), (aMj, .inl (K.2 3, 12, .inr (.inr (.inr (.inr (zo aMr 12)))))), (aMc, .inl (K.2 0, 12, .inl mC)), (aMw, .inl (K.2 0, 12, .inl mW))] ++ zR12Z K aMr mJ)) hG dX6_isTrue_2 iX6_isTrue_X6 tyX6_ok nmX6 7 (by decide) mX6_isTrue_0 rfl rfl rfl rfl rfl rfl 0 rfl (Nat.le_of_ble_eq_true rfl) rfl ?_
  refine z_iconst 1 hG dX6_isTrue_5 (by decide) ?_
  obtain rfl := Option.some.inj hres
  exact (hR _ _ (z_nar01 (Or.inr rfl)) dX6_isTrue_6)
