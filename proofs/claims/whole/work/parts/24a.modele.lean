theorem dX6_head_0 : decode cX6_head 0 = .ok (.aload_n 0, 1) := by decide +kernel
theorem dX6_head_1 : decode cX6_head 1 = .ok (.iload_n 1, 1) := by decide +kernel
theorem dX6_head_2 : decode cX6_head 2 = .ok (.invokevirtual 52, 3) := by decide +kernel
theorem dX6_head_5 : decode cX6_head 5 = .ok (.astore_n 2, 1) := by decide +kernel
theorem dX6_head_6 : decode cX6_head 6 = .ok (.iload_n 1, 1) := by decide +kernel
theorem dX6_head_7 : decode cX6_head 7 = .ok (.istore_n 3, 1) := by decide +kernel
theorem dX6_head_8 : decode cX6_head 8 = .ok (.aload_n 0, 1) := by decide +kernel
theorem dX6_head_9 : decode cX6_head 9 = .ok (.getfield 31, 3) := by decide +kernel
theorem dX6_head_12 : decode cX6_head 12 = .ok (.iconst 1, 1) := by decide +kernel
theorem dX6_head_13 : decode cX6_head 13 = .ok (.isub, 1) := by decide +kernel
theorem dX6_head_14 : decode cX6_head 14 = .ok (.istore 4, 2) := by decide +kernel
theorem dX6_head_16 : decode cX6_head 16 = .ok (.iload 4, 2) := by decide +kernel
theorem dX6_head_18 : decode cX6_head 18 = .ok (.ifCond .lt 24, 3) := by decide +kernel
theorem dX6_head_21 : decode cX6_head 21 = .ok (.aload_n 2, 1) := by decide +kernel
theorem dX6_head_22 : decode cX6_head 22 = .ok (.iload 4, 2) := by decide +kernel
theorem dX6_head_24 : decode cX6_head 24 = .ok (.iaload, 1) := by decide +kernel
theorem dX6_head_25 : decode cX6_head 25 = .ok (.iconst (-1), 1) := by decide +kernel
theorem dX6_head_26 : decode cX6_head 26 = .ok (.if_icmp .ne 7, 3) := by decide +kernel
theorem dX6_head_29 : decode cX6_head 29 = .ok (.iload_n 3, 1) := by decide +kernel
theorem dX6_head_30 : decode cX6_head 30 = .ok (.goto 5, 3) := by decide +kernel
theorem dX6_head_33 : decode cX6_head 33 = .ok (.iload 4, 2) := by decide +kernel
theorem dX6_head_35 : decode cX6_head 35 = .ok (.istore_n 3, 1) := by decide +kernel
theorem dX6_head_36 : decode cX6_head 36 = .ok (.iinc 4 (-1), 3) := by decide +kernel
theorem dX6_head_39 : decode cX6_head 39 = .ok (.goto (-23), 3) := by decide +kernel
theorem dX6_head_42 : decode cX6_head 42 = .ok (.iload_n 3, 1) := by decide +kernel
theorem dX6_head_43 : decode cX6_head 43 = .ok (.ireturn, 1) := by decide +kernel
set_option maxRecDepth 20000 in
theorem ggX6_head_X6_lengths : GoodIn wsX6_head wsX6_lengths := goodIn_r _ [6, 7, 1, 8, 9, 10, 11, 12, 13, 14, 15, 16] (by decide +kernel) (by decide +kernel)
set_option maxRecDepth 20000 in
theorem gX6_head_X6_lengths : GoodIn wsX6_head (wsV RX6 52 RX6 yX6_lengths wsX6_lengths) := goodIn_app (goodIn_of _ (by decide +kernel)) ggX6_head_X6_lengths
theorem mX6_head_0 : Cond.fieldLink RX6 31 "LayerwaysModel" "many" "I" ∈ wsX6_head := by decide +kernel
theorem iX6_head_X6 : ∀ w ∈ u_ws RX6 TX6 8, w ∈ wsX6_head := by decide +kernel
def sX6_head_16 (v1 : (Nat → Int32)) (s3 : Int32 × Int32) : Option ((Int32 × Int32) ⊕ (Int32 × Int32)) := if s3.2 < 0 then some (.inl (s3.1, s3.2)) else if zin s3.2 12 then if (v1 s3.2.toNatClampNeg) = (-1) then some (.inr (s3.1, (s3.2 + (-1)))) else some (.inr (s3.2, (s3.2 + (-1)))) else none
def fX6_head (mN : Int32) (mJ : (Nat → Nat → Int32)) (p0 : Int32) : Option (Int32) := (fX6_lengths mN mJ p0).bind fun v1 => (zloop (sX6_head_16 v1) 32 (p0, (mN - 1))).bind fun e5 => some e5.1
set_option maxRecDepth 100000 in
set_option maxHeartbeats 4000000 in
theorem kX6_head (l : Launch) (K : zK) (aM : Nat) (aMk : Nat) (aMj : Nat) (aMc : Nat) (aMw : Nat) (aMr : (Nat → Nat))  (mN : Int32) (mS : Int32) (mX : Int32) (mT : Int32) (mK : (Nat → Int32)) (mC : (Nat → Int32)) (mW : (Nat → Int32)) (mJ : (Nat → Nat → Int32)) (p0 : Int32) (r : Int32) (hres : fX6_head mN mJ p0 = some r) : zM l K yX6_head wsX6_head ({ frames := 1, cells := 1, slots := 12, locals := 25 }) [.ref aM, .int p0] ([(aM, .inr (6, [.ref aMk, .ref aMj, .int mN, .int mS, .ref aMc, .ref aMw, .int mX, .int mT])), (aMk, .inl (K.2 0, 12, .inl mK)), (aMj, .inl (K.2 3, 12, .inr (.inr (.inr (.inr (zo aMr 12)))))), (aMc, .inl (K.2 0, 12, .inl mC)), (aMw, .inl (K.2 0, 12, .inl mW))] ++ zR12Z K aMr mJ) (fun _ : Unit => some (.int r)) (fun _ : Unit => ([(aM, .inr (6, [.ref aMk, .ref aMj, .int mN, .int mS, .ref aMc, .ref aMw, .int mX, .int mT])), (aMk, .inl (K.2 0, 12, .inl mK)), (aMj, .inl (K.2 3, 12, .inr (.inr (.inr (.inr (zo aMr 12)))))), (aMc, .inl (K.2 0, 12, .inl mC)), (aMw, .inl (K.2 0, 12, .inl mW))] ++ zR12Z K aMr mJ)) 1 12 := by
  refine zM.intI (cc := cX6_head) (maxL := 5) (ret := (some .int)) rfl (by decide) (Nat.le_of_ble_eq_true rfl) rfl ?_
  intro G hGl hG hN hE
  have hR : ∀ (pc : Nat) (lv : zL), decode cX6_head pc = .ok (.ireturn, 1) → zj G pc lv [.int r] ([(aM, .inr (6, [.ref aMk, .ref aMj, .int mN, .int mS, .ref aMc, .ref aMw, .int mX, .int mT])), (aMk, .inl (K.2 0, 12, .inl mK)), (aMj, .inl (K.2 3, 12, .inr (.inr (.inr (.inr (zo aMr 12)))))), (aMc, .inl (K.2 0, 12, .inl mC)), (aMw, .inl (K.2 0, 12, .inl mW))] ++ zR12Z K aMr mJ) 1 12 := fun pc lv d => hE () _ rfl pc lv d
  clear hE
  unfold fX6_head at hres
  show zj G 0 [(0, .ref aM), (1, .int p0)] [] ([(aM, .inr (6, [.ref aMk, .ref aMj, .int mN, .int mS, .ref aMc, .ref aMw, .int mX, .int mT])), (aMk, .inl (K.2 0, 12, .inl mK)), (aMj, .inl (K.2 3, 12, .inr (.inr (.inr (.inr (zo aMr 12)))))), (aMc, .inl (K.2 0, 12, .inl mC)), (aMw, .inl (K.2 0, 12, .inl mW))] ++ zR12Z K aMr mJ) 0 0
  refine z_aload_n hG dX6_head_0 0 rfl ?_
  refine z_iload_n hG dX6_head_1 1 rfl ?_
  obtain ⟨v1, hv, hres⟩ := z_bind hres
  refine z_callV (As := [.int p0]) (rest := []) (wr := ([] : va_W)) (ws' := (fun q2 : Nat => ([(aM, .inr (6, [.ref aMk, .ref aMj, .int mN, .int mS, .ref aMc, .ref aMw, .int mX, .int mT])), (aMk, .inl (K.2 0, 12, .inl mK)), (aMj, .inl (K.2 3, 12, .inr (.inr (.inr (.inr (zo aMr 12)))))), (aMc, .inl (K.2 0, 12, .inl mC)), (aMw, .inl (K.2 0, 12, .inl mW))] ++ zR12Z K aMr mJ ++ [(q2, .inl (K.2 0, 12, .inl v1))]))) (stk := (fun q2 : Nat => [.ref q2])) (kc' := 1) (ks' := 12) (n := 1) (C := RX6) (ci := 6) hG dX6_head_2 (kX6_lengths _ K aM aMk aMj aMc aMw aMr mN mS mX mT mK mC mW mJ p0 v1 hv) gX6_head_X6_lengths rfl rfl rfl ⟨rfl, by decide, by decide, rfl⟩ ⟨by decide, by decide⟩ (Nat.le_of_ble_eq_true rfl) ⟨(Nat.le_of_ble_eq_true rfl), (Nat.le_of_ble_eq_true rfl)⟩ [0, 1, 2, 3, 4, 5, 6, 7, 8, 9, 10, 11, 12, 13, 14, 15, 16] [] [0, 1, 2, 3, 4, 5, 6, 7, 8, 9, 10, 11, 12, 13, 14, 15, 16, 17] rfl rfl rfl rfl (by decide) rfl (fun _ => rfl) (fun _ => rfl) rfl rfl rfl 0 rfl rfl rfl rfl (fun q2 => ?_)
  refine z_astore_n (lv' := [(2, .ref q2), (0, .ref aM), (1, .int p0)]) hG dX6_head_5 (by decide) rfl ?_
  refine z_iload_n hG dX6_head_6 2 rfl ?_
  refine z_istore_n (lv' := [(3, .int p0), (2, .ref q2), (0, .ref aM), (1, .int p0)]) hG dX6_head_7 (by decide) rfl ?_
  refine z_aload_n hG dX6_head_8 2 rfl ?_
  refine z_get (ci := 6) (C := RX6) (T := TX6) (N := 8) hG dX6_head_9 iX6_head_X6 2 (by decide) mX6_head_0 rfl rfl 0 rfl rfl ?_
  refine z_iconst 1 hG dX6_head_12 (by decide) ?_
  refine z_isub hG dX6_head_13 ?_
  refine z_istore (lv' := [(4, .int (mN - 1)), (3, .int p0), (2, .ref q2), (0, .ref aM), (1, .int p0)]) hG dX6_head_14 (by decide) rfl ?_
  obtain ⟨e5, hx, hres⟩ := z_bind hres
  refine z_lv [3, 4, 2, 1, 0] (lv' := [(0, .ref aM), (1, .int p0), (2, .ref q2), (3, .int p0), (4, .int (mN - 1))]) rfl ?_
  refine z_loop hx (fun s3 : Int32 × Int32 => [(0, .ref aM), (1, .int p0), (2, .ref q2), (3, .int s3.1), (4, .int s3.2)]) (fun s3 : Int32 × Int32 => ([(aM, .inr (6, [.ref aMk, .ref aMj, .int mN, .int mS, .ref aMc, .ref aMw, .int mX, .int mT])), (aMk, .inl (K.2 0, 12, .inl mK)), (aMj, .inl (K.2 3, 12, .inr (.inr (.inr (.inr (zo aMr 12)))))), (aMc, .inl (K.2 0, 12, .inl mC)), (aMw, .inl (K.2 0, 12, .inl mW))] ++ zR12Z K aMr mJ ++ [(q2, .inl (K.2 0, 12, .inl v1))])) (fun e5 : Int32 × Int32 => zj G 42 [(0, .ref aM), (1, .int p0), (2, .ref q2), (3, .int e5.1), (4, .int e5.2)] [] ([(aM, .inr (6, [.ref aMk, .ref aMj, .int mN, .int mS, .ref aMc, .ref aMw, .int mX, .int mT])), (aMk, .inl (K.2 0, 12, .inl mK)), (aMj, .inl (K.2 3, 12, .inr (.inr (.inr (.inr (zo aMr 12)))))), (aMc, .inl (K.2 0, 12, .inl mC)), (aMw, .inl (K.2 0, 12, .inl mW))] ++ zR12Z K aMr mJ ++ [(q2, .inl (K.2 0, 12, .inl v1))]) 1 12) ?_ ?_
  · refine z_iload_n hG dX6_head_42 3 rfl ?_
    obtain rfl := Option.some.inj hres
    exact (z_ws [0, 1, 2, 3, 4, 5, 6, 7, 8, 9, 10, 11, 12, 13, 14, 15, 16] rfl rfl (hR _ _ dX6_head_43))
  · intro s3 w4 hres hX hB
    unfold sX6_head_16 at hres
    replace hB : ∀ (z0 : Int32) (z1 : Int32), w4 = .inr (z0, z1) → zj G 16 [(0, .ref aM), (1, .int p0), (2, .ref q2), (3, .int z0), (4, .int z1)] [] ([(aM, .inr (6, [.ref aMk, .ref aMj, .int mN, .int mS, .ref aMc, .ref aMw, .int mX, .int mT])), (aMk, .inl (K.2 0, 12, .inl mK)), (aMj, .inl (K.2 3, 12, .inr (.inr (.inr (.inr (zo aMr 12)))))), (aMc, .inl (K.2 0, 12, .inl mC)), (aMw, .inl (K.2 0, 12, .inl mW))] ++ zR12Z K aMr mJ ++ [(q2, .inl (K.2 0, 12, .inl v1))]) 1 12 := fun z0 z1 h => hB (z0, z1) h
    replace hX : ∀ (z0 : Int32) (z1 : Int32), w4 = .inl (z0, z1) → zj G 42 [(0, .ref aM), (1, .int p0), (2, .ref q2), (3, .int z0), (4, .int z1)] [] ([(aM, .inr (6, [.ref aMk, .ref aMj, .int mN, .int mS, .ref aMc, .ref aMw, .int mX, .int mT])), (aMk, .inl (K.2 0, 12, .inl mK)), (aMj, .inl (K.2 3, 12, .inr (.inr (.inr (.inr (zo aMr 12)))))), (aMc, .inl (K.2 0, 12, .inl mC)), (aMw, .inl (K.2 0, 12, .inl mW))] ++ zR12Z K aMr mJ ++ [(q2, .inl (K.2 0, 12, .inl v1))]) 1 12 := fun z0 z1 h => hX (z0, z1) h
    refine z_iload hG dX6_head_16 4 rfl ?_
    refine z_if_lt 42 hG dX6_head_18 (by decide) (fun c => ?_) (fun c => ?_)
    · replace hres := z_ifp c hres
      exact (hX s3.1 s3.2 (Option.some.inj hres).symm)
    · replace hres := z_ifn c hres
      refine z_aload_n hG dX6_head_21 2 rfl ?_
      refine z_iload hG dX6_head_22 4 rfl ?_
      obtain ⟨hg, hres⟩ := z_guard hres
      refine z_iald hG dX6_head_24 17 rfl hg ?_
      refine z_iconst (-1) hG dX6_head_25 (by decide) ?_
      refine z_icmp_ne 33 hG dX6_head_26 (by decide) (fun c => ?_) (fun c => ?_)
      · replace hres := z_ifn c hres
        refine z_iload hG dX6_head_33 4 rfl ?_
        refine z_istore_n (lv' := [(3, .int s3.2), (0, .ref aM), (1, .int p0), (2, .ref q2), (4, .int s3.2)]) hG dX6_head_35 (by decide) rfl ?_
        refine z_iinc (s3.2 + (-1)) (lv' := [(4, .int (s3.2 + (-1))), (3, .int s3.2), (0, .ref aM), (1, .int p0), (2, .ref q2)]) hG dX6_head_36 4 rfl rfl (by decide) rfl ?_
        refine z_goto 16 hG dX6_head_39 (by decide) ?_
        exact (z_lv [2, 3, 4, 1, 0] rfl (hB s3.2 (s3.2 + (-1)) (Option.some.inj hres).symm))
      · replace hres := z_ifp c hres
        refine z_iload_n hG dX6_head_29 3 rfl ?_
        refine z_goto 35 hG dX6_head_30 (by decide) ?_
        refine z_istore_n (lv' := [(3, .int s3.1), (0, .ref aM), (1, .int p0), (2, .ref q2), (4, .int s3.2)]) hG dX6_head_35 (by decide) rfl ?_
        refine z_iinc (s3.2 + (-1)) (lv' := [(4, .int (s3.2 + (-1))), (3, .int s3.1), (0, .ref aM), (1, .int p0), (2, .ref q2)]) hG dX6_head_36 4 rfl rfl (by decide) rfl ?_
        refine z_goto 16 hG dX6_head_39 (by decide) ?_
        exact (z_lv [2, 3, 4, 1, 0] rfl (hB s3.1 (s3.2 + (-1)) (Option.some.inj hres).symm))

theorem dX6_parts_0 : decode cX6_parts 0 = .ok (.aload_n 0, 1) := by decide +kernel
theorem dX6_parts_1 : decode cX6_parts 1 = .ok (.iconst 0, 1) := by decide +kernel
theorem dX6_parts_2 : decode cX6_parts 2 = .ok (.putfield 28, 3) := by decide +kernel
theorem dX6_parts_5 : decode cX6_parts 5 = .ok (.iconst 0, 1) := by decide +kernel
theorem dX6_parts_6 : decode cX6_parts 6 = .ok (.istore_n 1, 1) := by decide +kernel
theorem dX6_parts_7 : decode cX6_parts 7 = .ok (.iconst 0, 1) := by decide +kernel
theorem dX6_parts_8 : decode cX6_parts 8 = .ok (.istore_n 2, 1) := by decide +kernel
theorem dX6_parts_9 : decode cX6_parts 9 = .ok (.iload_n 2, 1) := by decide +kernel
theorem dX6_parts_10 : decode cX6_parts 10 = .ok (.aload_n 0, 1) := by decide +kernel
theorem dX6_parts_11 : decode cX6_parts 11 = .ok (.getfield 31, 3) := by decide +kernel
theorem dX6_parts_14 : decode cX6_parts 14 = .ok (.if_icmp .ge 26, 3) := by decide +kernel
theorem dX6_parts_17 : decode cX6_parts 17 = .ok (.iload_n 1, 1) := by decide +kernel
theorem dX6_parts_18 : decode cX6_parts 18 = .ok (.aload_n 0, 1) := by decide +kernel
theorem dX6_parts_19 : decode cX6_parts 19 = .ok (.iload_n 2, 1) := by decide +kernel
theorem dX6_parts_20 : decode cX6_parts 20 = .ok (.invokevirtual 79, 3) := by decide +kernel
theorem dX6_parts_23 : decode cX6_parts 23 = .ok (.iload_n 2, 1) := by decide +kernel
theorem dX6_parts_24 : decode cX6_parts 24 = .ok (.if_icmp .ne 7, 3) := by decide +kernel
theorem dX6_parts_27 : decode cX6_parts 27 = .ok (.iconst 1, 1) := by decide +kernel
theorem dX6_parts_28 : decode cX6_parts 28 = .ok (.goto 4, 3) := by decide +kernel
theorem dX6_parts_31 : decode cX6_parts 31 = .ok (.iconst 0, 1) := by decide +kernel
theorem dX6_parts_32 : decode cX6_parts 32 = .ok (.iadd, 1) := by decide +kernel
theorem dX6_parts_33 : decode cX6_parts 33 = .ok (.istore_n 1, 1) := by decide +kernel
theorem dX6_parts_34 : decode cX6_parts 34 = .ok (.iinc 2 1, 3) := by decide +kernel
theorem dX6_parts_37 : decode cX6_parts 37 = .ok (.goto (-28), 3) := by decide +kernel
theorem dX6_parts_40 : decode cX6_parts 40 = .ok (.iload_n 1, 1) := by decide +kernel
theorem dX6_parts_41 : decode cX6_parts 41 = .ok (.ireturn, 1) := by decide +kernel
set_option maxRecDepth 20000 in
theorem ggX6_parts_X6_head : GoodIn wsX6_parts wsX6_head := goodIn_r _ [7, 2, 8, 9, 10, 6, 11, 12, 13, 14, 15, 16, 17, 18, 19, 20, 21] (by decide +kernel) (by decide +kernel)
set_option maxRecDepth 20000 in
theorem gX6_parts_X6_head : GoodIn wsX6_parts (wsV RX6 79 RX6 yX6_head wsX6_head) := goodIn_app (goodIn_of _ (by decide +kernel)) ggX6_parts_X6_head
theorem mX6_parts_0 : Cond.fieldLink RX6 28 "LayerwaysModel" "thrown" "I" ∈ wsX6_parts := by decide +kernel
theorem iX6_parts_X6 : ∀ w ∈ u_ws RX6 TX6 8, w ∈ wsX6_parts := by decide +kernel
theorem mX6_parts_2 : Cond.fieldLink RX6 31 "LayerwaysModel" "many" "I" ∈ wsX6_parts := by decide +kernel
def sX6_parts_9 (mN : Int32) (mJ : (Nat → Nat → Int32)) (s3 : Int32 × Int32) : Option ((Int32 × Int32) ⊕ (Int32 × Int32)) := if mN ≤ s3.2 then some (.inl (s3.1, s3.2)) else (fX6_head mN mJ s3.2).bind fun v7 => if v7 = s3.2 then some (.inr ((s3.1 + 1), (s3.2 + 1))) else some (.inr ((s3.1 + 0), (s3.2 + 1)))
def fX6_parts (mN : Int32) (mJ : (Nat → Nat → Int32)) : Option (Int32 × Int32) := (zloop (sX6_parts_9 mN mJ) 32 (0, 0)).bind fun e5 => some (e5.1, 0)
set_option maxRecDepth 100000 in
set_option maxHeartbeats 4000000 in
theorem kX6_parts (l : Launch) (K : zK) (aM : Nat) (aMk : Nat) (aMj : Nat) (aMc : Nat) (aMw : Nat) (aMr : (Nat → Nat))  (mN : Int32) (mS : Int32) (mX : Int32) (mT : Int32) (mK : (Nat → Int32)) (mC : (Nat → Int32)) (mW : (Nat → Int32)) (mJ : (Nat → Nat → Int32)) (r : Int32 × Int32) (hres : fX6_parts mN mJ = some r) : zM l K yX6_parts wsX6_parts ({ frames := 2, cells := 32, slots := 384, locals := 49 }) [.ref aM] ([(aM, .inr (6, [.ref aMk, .ref aMj, .int mN, .int mS, .ref aMc, .ref aMw, .int mX, .int mT])), (aMk, .inl (K.2 0, 12, .inl mK)), (aMj, .inl (K.2 3, 12, .inr (.inr (.inr (.inr (zo aMr 12)))))), (aMc, .inl (K.2 0, 12, .inl mC)), (aMw, .inl (K.2 0, 12, .inl mW))] ++ zR12Z K aMr mJ) (fun _ : Unit => some (.int r.1)) (fun _ : Unit => ([(aM, .inr (6, [.ref aMk, .ref aMj, .int mN, .int mS, .ref aMc, .ref aMw, .int mX, .int r.2])), (aMk, .inl (K.2 0, 12, .inl mK)), (aMj, .inl (K.2 3, 12, .inr (.inr (.inr (.inr (zo aMr 12)))))), (aMc, .inl (K.2 0, 12, .inl mC)), (aMw, .inl (K.2 0, 12, .inl mW))] ++ zR12Z K aMr mJ)) 32 384 := by
  refine zM.intI (cc := cX6_parts) (maxL := 3) (ret := (some .int)) rfl (by decide) (Nat.le_of_ble_eq_true rfl) rfl ?_
  intro G hGl hG hN hE
  have hR : ∀ (pc : Nat) (lv : zL), decode cX6_parts pc = .ok (.ireturn, 1) → zj G pc lv [.int r.1] ([(aM, .inr (6, [.ref aMk, .ref aMj, .int mN, .int mS, .ref aMc, .ref aMw, .int mX, .int r.2])), (aMk, .inl (K.2 0, 12, .inl mK)), (aMj, .inl (K.2 3, 12, .inr (.inr (.inr (.inr (zo aMr 12)))))), (aMc, .inl (K.2 0, 12, .inl mC)), (aMw, .inl (K.2 0, 12, .inl mW))] ++ zR12Z K aMr mJ) 32 384 := fun pc lv d => hE () _ rfl pc lv d
  clear hE
  unfold fX6_parts at hres
  show zj G 0 [(0, .ref aM)] [] ([(aM, .inr (6, [.ref aMk, .ref aMj, .int mN, .int mS, .ref aMc, .ref aMw, .int mX, .int mT])), (aMk, .inl (K.2 0, 12, .inl mK)), (aMj, .inl (K.2 3, 12, .inr (.inr (.inr (.inr (zo aMr 12)))))), (aMc, .inl (K.2 0, 12, .inl mC)), (aMw, .inl (K.2 0, 12, .inl mW))] ++ zR12Z K aMr mJ) 0 0
  refine z_aload_n hG dX6_parts_0 0 rfl ?_
  refine z_iconst 0 hG dX6_parts_1 (by decide) ?_
  refine z_put (ci := 6) (C := RX6) (T := TX6) (N := 8) (ws' := ([(aM, .inr (6, [.ref aMk, .ref aMj, .int mN, .int mS, .ref aMc, .ref aMw, .int mX, .int 0])), (aMk, .inl (K.2 0, 12, .inl mK)), (aMj, .inl (K.2 3, 12, .inr (.inr (.inr (.inr (zo aMr 12)))))), (aMc, .inl (K.2 0, 12, .inl mC)), (aMw, .inl (K.2 0, 12, .inl mW))] ++ zR12Z K aMr mJ)) hG dX6_parts_2 iX6_parts_X6 tyX6_ok nmX6 7 (by decide) mX6_parts_0 rfl rfl rfl rfl rfl rfl 0 rfl (Nat.le_of_ble_eq_true rfl) rfl ?_
  refine z_iconst 0 hG dX6_parts_5 (by decide) ?_
  refine z_istore_n (lv' := [(1, .int 0), (0, .ref aM)]) hG dX6_parts_6 (by decide) rfl ?_
  refine z_iconst 0 hG dX6_parts_7 (by decide) ?_
  refine z_istore_n (lv' := [(2, .int 0), (1, .int 0), (0, .ref aM)]) hG dX6_parts_8 (by decide) rfl ?_
  obtain ⟨e5, hx, hres⟩ := z_bind hres
  refine z_lv [2, 1, 0] (lv' := [(0, .ref aM), (1, .int 0), (2, .int 0)]) rfl ?_
  refine z_loopA hx (fun s3 : Int32 × Int32 => [(0, .ref aM), (1, .int s3.1), (2, .int s3.2)]) (fun s3 : Int32 × Int32 => ([(aM, .inr (6, [.ref aMk, .ref aMj, .int mN, .int mS, .ref aMc, .ref aMw, .int mX, .int 0])), (aMk, .inl (K.2 0, 12, .inl mK)), (aMj, .inl (K.2 3, 12, .inr (.inr (.inr (.inr (zo aMr 12)))))), (aMc, .inl (K.2 0, 12, .inl mC)), (aMw, .inl (K.2 0, 12, .inl mW))] ++ zR12Z K aMr mJ)) 1 12 (fun e5 : Int32 × Int32 => zj G 40 [(0, .ref aM), (1, .int e5.1), (2, .int e5.2)] [] ([(aM, .inr (6, [.ref aMk, .ref aMj, .int mN, .int mS, .ref aMc, .ref aMw, .int mX, .int 0])), (aMk, .inl (K.2 0, 12, .inl mK)), (aMj, .inl (K.2 3, 12, .inr (.inr (.inr (.inr (zo aMr 12)))))), (aMc, .inl (K.2 0, 12, .inl mC)), (aMw, .inl (K.2 0, 12, .inl mW))] ++ zR12Z K aMr mJ) 32 384) ?_ ?_
  · refine z_iload_n hG dX6_parts_40 1 rfl ?_
    obtain rfl := Option.some.inj hres
    exact (hR _ _ dX6_parts_41)
  · intro i6 s3 w4 hi hres hX hB
    unfold sX6_parts_9 at hres
    replace hB : ∀ (z0 : Int32) (z1 : Int32), w4 = .inr (z0, z1) → zj G 9 [(0, .ref aM), (1, .int z0), (2, .int z1)] [] ([(aM, .inr (6, [.ref aMk, .ref aMj, .int mN, .int mS, .ref aMc, .ref aMw, .int mX, .int 0])), (aMk, .inl (K.2 0, 12, .inl mK)), (aMj, .inl (K.2 3, 12, .inr (.inr (.inr (.inr (zo aMr 12)))))), (aMc, .inl (K.2 0, 12, .inl mC)), (aMw, .inl (K.2 0, 12, .inl mW))] ++ zR12Z K aMr mJ) (0 + 1 * (i6 + 1)) (0 + 12 * (i6 + 1)) := fun z0 z1 h => hB (z0, z1) h
    replace hX : ∀ (z0 : Int32) (z1 : Int32), w4 = .inl (z0, z1) → zj G 40 [(0, .ref aM), (1, .int z0), (2, .int z1)] [] ([(aM, .inr (6, [.ref aMk, .ref aMj, .int mN, .int mS, .ref aMc, .ref aMw, .int mX, .int 0])), (aMk, .inl (K.2 0, 12, .inl mK)), (aMj, .inl (K.2 3, 12, .inr (.inr (.inr (.inr (zo aMr 12)))))), (aMc, .inl (K.2 0, 12, .inl mC)), (aMw, .inl (K.2 0, 12, .inl mW))] ++ zR12Z K aMr mJ) 32 384 := fun z0 z1 h => hX (z0, z1) h
    refine z_iload_n hG dX6_parts_9 2 rfl ?_
    refine z_aload_n hG dX6_parts_10 0 rfl ?_
    refine z_get (ci := 6) (C := RX6) (T := TX6) (N := 8) hG dX6_parts_11 iX6_parts_X6 2 (by decide) mX6_parts_2 rfl rfl 0 rfl rfl ?_
    refine z_icmp_ge 40 hG dX6_parts_14 (by decide) (fun c => ?_) (fun c => ?_)
    · replace hres := z_ifp c hres
      exact (z_wid (by omega) (by omega) (hX s3.1 s3.2 (Option.some.inj hres).symm))
    · replace hres := z_ifn c hres
      refine z_iload_n hG dX6_parts_17 1 rfl ?_
      refine z_aload_n hG dX6_parts_18 0 rfl ?_
      refine z_iload_n hG dX6_parts_19 2 rfl ?_
      obtain ⟨v7, hv, hres⟩ := z_bind hres
      refine z_callV (As := [.int s3.2]) (rest := [.int s3.1]) (wr := ([] : va_W)) (ws' := (fun _ : Unit => ([(aM, .inr (6, [.ref aMk, .ref aMj, .int mN, .int mS, .ref aMc, .ref aMw, .int mX, .int 0])), (aMk, .inl (K.2 0, 12, .inl mK)), (aMj, .inl (K.2 3, 12, .inr (.inr (.inr (.inr (zo aMr 12)))))), (aMc, .inl (K.2 0, 12, .inl mC)), (aMw, .inl (K.2 0, 12, .inl mW))] ++ zR12Z K aMr mJ))) (stk := (fun _ : Unit => [.int v7, .int s3.1])) (kc' := ((0 + 1 * i6) + 1)) (ks' := ((0 + 12 * i6) + 12)) (n := 1) (C := RX6) (ci := 6) hG dX6_parts_20 (kX6_head _ K aM aMk aMj aMc aMw aMr mN mS mX 0 mK mC mW mJ s3.2 v7 hv) gX6_parts_X6_head rfl rfl rfl ⟨rfl, by decide, by decide, rfl⟩ ⟨by decide, by decide⟩ (Nat.le_of_ble_eq_true rfl) ⟨(by show _ ≤ 32; omega), (by show _ ≤ 384; omega)⟩ [0, 1, 2, 3, 4, 5, 6, 7, 8, 9, 10, 11, 12, 13, 14, 15, 16] [] [0, 1, 2, 3, 4, 5, 6, 7, 8, 9, 10, 11, 12, 13, 14, 15, 16] rfl rfl rfl rfl (by decide) rfl (fun _ => rfl) (fun _ => rfl) rfl rfl rfl 0 rfl rfl rfl rfl (fun _ => ?_)
      refine z_iload_n hG dX6_parts_23 2 rfl ?_
      refine z_icmp_ne 31 hG dX6_parts_24 (by decide) (fun c => ?_) (fun c => ?_)
      · replace hres := z_ifn c hres
        refine z_iconst 0 hG dX6_parts_31 (by decide) ?_
        refine z_iadd hG dX6_parts_32 ?_
        refine z_istore_n (lv' := [(1, .int (s3.1 + 0)), (0, .ref aM), (2, .int s3.2)]) hG dX6_parts_33 (by decide) rfl ?_
        refine z_iinc (s3.2 + 1) (lv' := [(2, .int (s3.2 + 1)), (1, .int (s3.1 + 0)), (0, .ref aM)]) hG dX6_parts_34 2 rfl rfl (by decide) rfl ?_
        refine z_goto 9 hG dX6_parts_37 (by decide) ?_
        exact (z_lv [2, 1, 0] rfl (z_wid (by omega) (by omega) (hB (s3.1 + 0) (s3.2 + 1) (Option.some.inj hres).symm)))
      · replace hres := z_ifp c hres
        refine z_iconst 1 hG dX6_parts_27 (by decide) ?_
        refine z_goto 32 hG dX6_parts_28 (by decide) ?_
        refine z_iadd hG dX6_parts_32 ?_
        refine z_istore_n (lv' := [(1, .int (s3.1 + 1)), (0, .ref aM), (2, .int s3.2)]) hG dX6_parts_33 (by decide) rfl ?_
        refine z_iinc (s3.2 + 1) (lv' := [(2, .int (s3.2 + 1)), (1, .int (s3.1 + 1)), (0, .ref aM)]) hG dX6_parts_34 2 rfl rfl (by decide) rfl ?_
        refine z_goto 9 hG dX6_parts_37 (by decide) ?_
        exact (z_lv [2, 1, 0] rfl (z_wid (by omega) (by omega) (hB (s3.1 + 1) (s3.2 + 1) (Option.some.inj hres).symm)))

theorem dX6_walks_0 : decode cX6_walks 0 = .ok (.iconst 2, 1) := by decide +kernel
theorem dX6_walks_1 : decode cX6_walks 1 = .ok (.bipush 12, 2) := by decide +kernel
theorem dX6_walks_3 : decode cX6_walks 3 = .ok (.multianewarray 86 2, 4) := by decide +kernel
theorem dX6_walks_7 : decode cX6_walks 7 = .ok (.astore_n 2, 1) := by decide +kernel
theorem dX6_walks_8 : decode cX6_walks 8 = .ok (.iconst 0, 1) := by decide +kernel
theorem dX6_walks_9 : decode cX6_walks 9 = .ok (.istore_n 3, 1) := by decide +kernel
theorem dX6_walks_10 : decode cX6_walks 10 = .ok (.iload_n 3, 1) := by decide +kernel
theorem dX6_walks_11 : decode cX6_walks 11 = .ok (.bipush 12, 2) := by decide +kernel
theorem dX6_walks_13 : decode cX6_walks 13 = .ok (.if_icmp .ge 30, 3) := by decide +kernel
theorem dX6_walks_16 : decode cX6_walks 16 = .ok (.aload_n 2, 1) := by decide +kernel
theorem dX6_walks_17 : decode cX6_walks 17 = .ok (.iconst 0, 1) := by decide +kernel
theorem dX6_walks_18 : decode cX6_walks 18 = .ok (.aaload, 1) := by decide +kernel
theorem dX6_walks_19 : decode cX6_walks 19 = .ok (.iload_n 3, 1) := by decide +kernel
theorem dX6_walks_20 : decode cX6_walks 20 = .ok (.iload_n 3, 1) := by decide +kernel
theorem dX6_walks_21 : decode cX6_walks 21 = .ok (.iload_n 1, 1) := by decide +kernel
theorem dX6_walks_22 : decode cX6_walks 22 = .ok (.if_icmp .ne 7, 3) := by decide +kernel
theorem dX6_walks_25 : decode cX6_walks 25 = .ok (.iconst 0, 1) := by decide +kernel
theorem dX6_walks_26 : decode cX6_walks 26 = .ok (.goto 4, 3) := by decide +kernel
theorem dX6_walks_29 : decode cX6_walks 29 = .ok (.iconst (-1), 1) := by decide +kernel
theorem dX6_walks_30 : decode cX6_walks 30 = .ok (.iastore, 1) := by decide +kernel
theorem dX6_walks_31 : decode cX6_walks 31 = .ok (.aload_n 2, 1) := by decide +kernel
theorem dX6_walks_32 : decode cX6_walks 32 = .ok (.iconst 1, 1) := by decide +kernel
theorem dX6_walks_33 : decode cX6_walks 33 = .ok (.aaload, 1) := by decide +kernel
theorem dX6_walks_34 : decode cX6_walks 34 = .ok (.iload_n 3, 1) := by decide +kernel
theorem dX6_walks_35 : decode cX6_walks 35 = .ok (.iconst (-1), 1) := by decide +kernel
theorem dX6_walks_36 : decode cX6_walks 36 = .ok (.iastore, 1) := by decide +kernel
theorem dX6_walks_37 : decode cX6_walks 37 = .ok (.iinc 3 1, 3) := by decide +kernel
theorem dX6_walks_40 : decode cX6_walks 40 = .ok (.goto (-30), 3) := by decide +kernel
theorem dX6_walks_43 : decode cX6_walks 43 = .ok (.iconst 1, 1) := by decide +kernel
theorem dX6_walks_44 : decode cX6_walks 44 = .ok (.istore_n 3, 1) := by decide +kernel
theorem dX6_walks_45 : decode cX6_walks 45 = .ok (.iload_n 3, 1) := by decide +kernel
theorem dX6_walks_46 : decode cX6_walks 46 = .ok (.iconst 2, 1) := by decide +kernel
theorem dX6_walks_47 : decode cX6_walks 47 = .ok (.aload_n 0, 1) := by decide +kernel
theorem dX6_walks_48 : decode cX6_walks 48 = .ok (.getfield 31, 3) := by decide +kernel
theorem dX6_walks_51 : decode cX6_walks 51 = .ok (.imul, 1) := by decide +kernel
theorem dX6_walks_52 : decode cX6_walks 52 = .ok (.if_icmp .ge 95, 3) := by decide +kernel
theorem dX6_walks_55 : decode cX6_walks 55 = .ok (.iconst 0, 1) := by decide +kernel
theorem dX6_walks_56 : decode cX6_walks 56 = .ok (.istore 4, 2) := by decide +kernel
theorem dX6_walks_58 : decode cX6_walks 58 = .ok (.iload 4, 2) := by decide +kernel
theorem dX6_walks_60 : decode cX6_walks 60 = .ok (.aload_n 0, 1) := by decide +kernel
theorem dX6_walks_61 : decode cX6_walks 61 = .ok (.getfield 31, 3) := by decide +kernel
theorem dX6_walks_64 : decode cX6_walks 64 = .ok (.if_icmp .ge 77, 3) := by decide +kernel
theorem dX6_walks_67 : decode cX6_walks 67 = .ok (.iconst 0, 1) := by decide +kernel
theorem dX6_walks_68 : decode cX6_walks 68 = .ok (.istore 5, 2) := by decide +kernel
theorem dX6_walks_70 : decode cX6_walks 70 = .ok (.iload 5, 2) := by decide +kernel
theorem dX6_walks_72 : decode cX6_walks 72 = .ok (.aload_n 0, 1) := by decide +kernel
theorem dX6_walks_73 : decode cX6_walks 73 = .ok (.getfield 31, 3) := by decide +kernel
theorem dX6_walks_76 : decode cX6_walks 76 = .ok (.if_icmp .ge 59, 3) := by decide +kernel
theorem dX6_walks_79 : decode cX6_walks 79 = .ok (.aload_n 0, 1) := by decide +kernel
theorem dX6_walks_80 : decode cX6_walks 80 = .ok (.getfield 15, 3) := by decide +kernel
theorem dX6_walks_83 : decode cX6_walks 83 = .ok (.iload 4, 2) := by decide +kernel
theorem dX6_walks_85 : decode cX6_walks 85 = .ok (.aaload, 1) := by decide +kernel
theorem dX6_walks_86 : decode cX6_walks 86 = .ok (.iload 5, 2) := by decide +kernel
theorem dX6_walks_88 : decode cX6_walks 88 = .ok (.baload, 1) := by decide +kernel
theorem dX6_walks_89 : decode cX6_walks 89 = .ok (.ifCond .eq 40, 3) := by decide +kernel
theorem dX6_walks_92 : decode cX6_walks 92 = .ok (.aload_n 2, 1) := by decide +kernel
theorem dX6_walks_93 : decode cX6_walks 93 = .ok (.iload_n 3, 1) := by decide +kernel
theorem dX6_walks_94 : decode cX6_walks 94 = .ok (.iconst 1, 1) := by decide +kernel
theorem dX6_walks_95 : decode cX6_walks 95 = .ok (.iadd, 1) := by decide +kernel
theorem dX6_walks_96 : decode cX6_walks 96 = .ok (.iconst 2, 1) := by decide +kernel
theorem dX6_walks_97 : decode cX6_walks 97 = .ok (.irem, 1) := by decide +kernel
theorem dX6_walks_98 : decode cX6_walks 98 = .ok (.aaload, 1) := by decide +kernel
theorem dX6_walks_99 : decode cX6_walks 99 = .ok (.iload 4, 2) := by decide +kernel
theorem dX6_walks_101 : decode cX6_walks 101 = .ok (.iaload, 1) := by decide +kernel
theorem dX6_walks_102 : decode cX6_walks 102 = .ok (.iload_n 3, 1) := by decide +kernel
theorem dX6_walks_103 : decode cX6_walks 103 = .ok (.iconst 1, 1) := by decide +kernel
theorem dX6_walks_104 : decode cX6_walks 104 = .ok (.isub, 1) := by decide +kernel
theorem dX6_walks_105 : decode cX6_walks 105 = .ok (.if_icmp .ne 24, 3) := by decide +kernel
theorem dX6_walks_108 : decode cX6_walks 108 = .ok (.aload_n 2, 1) := by decide +kernel
theorem dX6_walks_109 : decode cX6_walks 109 = .ok (.iload_n 3, 1) := by decide +kernel
theorem dX6_walks_110 : decode cX6_walks 110 = .ok (.iconst 2, 1) := by decide +kernel
theorem dX6_walks_111 : decode cX6_walks 111 = .ok (.irem, 1) := by decide +kernel
theorem dX6_walks_112 : decode cX6_walks 112 = .ok (.aaload, 1) := by decide +kernel
theorem dX6_walks_113 : decode cX6_walks 113 = .ok (.iload 5, 2) := by decide +kernel
theorem dX6_walks_115 : decode cX6_walks 115 = .ok (.iaload, 1) := by decide +kernel
theorem dX6_walks_116 : decode cX6_walks 116 = .ok (.iconst (-1), 1) := by decide +kernel
theorem dX6_walks_117 : decode cX6_walks 117 = .ok (.if_icmp .ne 12, 3) := by decide +kernel
theorem dX6_walks_120 : decode cX6_walks 120 = .ok (.aload_n 2, 1) := by decide +kernel
theorem dX6_walks_121 : decode cX6_walks 121 = .ok (.iload_n 3, 1) := by decide +kernel
theorem dX6_walks_122 : decode cX6_walks 122 = .ok (.iconst 2, 1) := by decide +kernel
theorem dX6_walks_123 : decode cX6_walks 123 = .ok (.irem, 1) := by decide +kernel
theorem dX6_walks_124 : decode cX6_walks 124 = .ok (.aaload, 1) := by decide +kernel
theorem dX6_walks_125 : decode cX6_walks 125 = .ok (.iload 5, 2) := by decide +kernel
theorem dX6_walks_127 : decode cX6_walks 127 = .ok (.iload_n 3, 1) := by decide +kernel
theorem dX6_walks_128 : decode cX6_walks 128 = .ok (.iastore, 1) := by decide +kernel
theorem dX6_walks_129 : decode cX6_walks 129 = .ok (.iinc 5 1, 3) := by decide +kernel
theorem dX6_walks_132 : decode cX6_walks 132 = .ok (.goto (-62), 3) := by decide +kernel
theorem dX6_walks_135 : decode cX6_walks 135 = .ok (.iinc 4 1, 3) := by decide +kernel
theorem dX6_walks_138 : decode cX6_walks 138 = .ok (.goto (-80), 3) := by decide +kernel
theorem dX6_walks_141 : decode cX6_walks 141 = .ok (.iinc 3 1, 3) := by decide +kernel
theorem dX6_walks_144 : decode cX6_walks 144 = .ok (.goto (-99), 3) := by decide +kernel
theorem dX6_walks_147 : decode cX6_walks 147 = .ok (.aload_n 2, 1) := by decide +kernel
theorem dX6_walks_148 : decode cX6_walks 148 = .ok (.areturn, 1) := by decide +kernel
theorem mX6_walks_0 : Cond.classLink RX6 86 "[[I" ∈ wsX6_walks := by decide +kernel
theorem mX6_walks_1 : Cond.arrayClass .int ∈ wsX6_walks := by decide +kernel
theorem mX6_walks_2 : Cond.fieldLink RX6 31 "LayerwaysModel" "many" "I" ∈ wsX6_walks := by decide +kernel
theorem iX6_walks_X6 : ∀ w ∈ u_ws RX6 TX6 8, w ∈ wsX6_walks := by decide +kernel
theorem mX6_walks_4 : Cond.fieldLink RX6 15 "LayerwaysModel" "joined" "[[Z" ∈ wsX6_walks := by decide +kernel
def sX6_walks_10 (p0 : Int32) (s17 : Int32 × (Nat → Nat → Int32)) : Option ((Int32 × (Nat → Nat → Int32)) ⊕ (Int32 × (Nat → Nat → Int32))) := if 12 ≤ s17.1 then some (.inl (s17.1, s17.2)) else if zin 0 2 then if s17.1 = p0 then if zin s17.1 12 then (some (zup2 s17.2 (0 : Int32).toNatClampNeg s17.1.toNatClampNeg 0) : Option (Nat → Nat → Int32)).bind fun M25 => if zin 1 2 then if zin s17.1 12 then (some (zup2 M25 (1 : Int32).toNatClampNeg s17.1.toNatClampNeg (-1)) : Option (Nat → Nat → Int32)).bind fun M27 => some (.inr ((s17.1 + 1), M27)) else none else none else none else if zin s17.1 12 then (some (zup2 s17.2 (0 : Int32).toNatClampNeg s17.1.toNatClampNeg (-1)) : Option (Nat → Nat → Int32)).bind fun M22 => if zin 1 2 then if zin s17.1 12 then (some (zup2 M22 (1 : Int32).toNatClampNeg s17.1.toNatClampNeg (-1)) : Option (Nat → Nat → Int32)).bind fun M24 => some (.inr ((s17.1 + 1), M24)) else none else none else none else none
def sX6_walks_70 (mN : Int32) (mJ : (Nat → Nat → Int32)) (s150 : Int32 × (Nat → Nat → Int32)) (s192 : Int32 × (Nat → Nat → Int32)) (s206 : Int32 × (Nat → Nat → Int32)) : Option ((Int32 × (Nat → Nat → Int32)) ⊕ (Int32 × (Nat → Nat → Int32))) := if mN ≤ s206.1 then some (.inl (s206.1, s206.2)) else if zin s192.1 12 then if zin s206.1 12 then if (mJ s192.1.toNatClampNeg s206.1.toNatClampNeg) = 0 then some (.inr ((s206.1 + 1), s206.2)) else if zin ((s150.1 + 1) - (s150.1 + 1) / 2 * 2) 2 then if zin s192.1 12 then if (s206.2 ((s150.1 + 1) - (s150.1 + 1) / 2 * 2).toNatClampNeg s192.1.toNatClampNeg) = (s150.1 - 1) then if zin (s150.1 - s150.1 / 2 * 2) 2 then if zin s206.1 12 then if (s206.2 (s150.1 - s150.1 / 2 * 2).toNatClampNeg s206.1.toNatClampNeg) = (-1) then if zin (s150.1 - s150.1 / 2 * 2) 2 then if zin s206.1 12 then (some (zup2 s206.2 (s150.1 - s150.1 / 2 * 2).toNatClampNeg s206.1.toNatClampNeg s150.1) : Option (Nat → Nat → Int32)).bind fun M214 => some (.inr ((s206.1 + 1), M214)) else none else none else some (.inr ((s206.1 + 1), s206.2)) else none else none else some (.inr ((s206.1 + 1), s206.2)) else none else none else none else none
def sX6_walks_58 (mN : Int32) (mJ : (Nat → Nat → Int32)) (s150 : Int32 × (Nat → Nat → Int32)) (s192 : Int32 × (Nat → Nat → Int32)) : Option ((Int32 × (Nat → Nat → Int32)) ⊕ (Int32 × (Nat → Nat → Int32))) := if mN ≤ s192.1 then some (.inl (s192.1, s192.2)) else (zloop (sX6_walks_70 mN mJ s150 s192) 32 (0, s192.2)).bind fun e208 => some (.inr ((s192.1 + 1), e208.2))
def sX6_walks_45 (mN : Int32) (mJ : (Nat → Nat → Int32)) (s150 : Int32 × (Nat → Nat → Int32)) : Option ((Int32 × (Nat → Nat → Int32)) ⊕ (Int32 × (Nat → Nat → Int32))) := if ((2 : Int32) * mN) ≤ s150.1 then some (.inl (s150.1, s150.2)) else (zloop (sX6_walks_58 mN mJ s150) 32 (0, s150.2)).bind fun e194 => some (.inr ((s150.1 + 1), e194.2))
def fX6_walks (mN : Int32) (mJ : (Nat → Nat → Int32)) (p0 : Int32) : Option ((Nat → Nat → Int32)) := (zloop (sX6_walks_10 p0) 32 (0, (fun _ _ => 0))).bind fun e19 => (zloop (sX6_walks_45 mN mJ) 32 (1, e19.2)).bind fun e152 => some e152.2
set_option maxRecDepth 100000 in
set_option maxHeartbeats 4000000 in
theorem kX6_walks (l : Launch) (K : zK) (aM : Nat) (aMk : Nat) (aMj : Nat) (aMc : Nat) (aMw : Nat) (aMr : (Nat → Nat))  (mN : Int32) (mS : Int32) (mX : Int32) (mT : Int32) (mK : (Nat → Int32)) (mC : (Nat → Int32)) (mW : (Nat → Int32)) (mJ : (Nat → Nat → Int32)) (p0 : Int32) (r : (Nat → Nat → Int32)) (hres : fX6_walks mN mJ p0 = some r) : zM l K yX6_walks wsX6_walks ({ frames := 0, cells := 3, slots := 26, locals := 0 }) [.ref aM, .int p0] ([(aM, .inr (6, [.ref aMk, .ref aMj, .int mN, .int mS, .ref aMc, .ref aMw, .int mX, .int mT])), (aMk, .inl (K.2 0, 12, .inl mK)), (aMj, .inl (K.2 3, 12, .inr (.inr (.inr (.inr (zo aMr 12)))))), (aMc, .inl (K.2 0, 12, .inl mC)), (aMw, .inl (K.2 0, 12, .inl mW))] ++ zR12Z K aMr mJ) (fun u : Nat × (Nat → Nat) => some (.ref u.1)) (fun u : Nat × (Nat → Nat) => ([(aM, .inr (6, [.ref aMk, .ref aMj, .int mN, .int mS, .ref aMc, .ref aMw, .int mX, .int mT])), (aMk, .inl (K.2 0, 12, .inl mK)), (aMj, .inl (K.2 3, 12, .inr (.inr (.inr (.inr (zo aMr 12)))))), (aMc, .inl (K.2 0, 12, .inl mC)), (aMw, .inl (K.2 0, 12, .inl mW))] ++ zR12Z K aMr mJ ++ [(u.1, .inl (K.2 2, 2, .inr (.inr (.inr (.inr (zo u.2 2))))))] ++ zR2I K u.2 r)) 3 26 := by
  refine zM.intA (cc := cX6_walks) (maxL := 6) (ret := (some (.array (.array .int)))) rfl (by decide) (Nat.le_of_ble_eq_true rfl) rfl ?_
  intro G hGl hG hN hE
  have hR : ∀ (q0 : Nat) (q1 : Nat → Nat) (pc : Nat) (lv : zL), decode cX6_walks pc = .ok (.areturn, 1) → zj G pc lv [.ref q0] ([(aM, .inr (6, [.ref aMk, .ref aMj, .int mN, .int mS, .ref aMc, .ref aMw, .int mX, .int mT])), (aMk, .inl (K.2 0, 12, .inl mK)), (aMj, .inl (K.2 3, 12, .inr (.inr (.inr (.inr (zo aMr 12)))))), (aMc, .inl (K.2 0, 12, .inl mC)), (aMw, .inl (K.2 0, 12, .inl mW))] ++ zR12Z K aMr mJ ++ [(q0, .inl (K.2 2, 2, .inr (.inr (.inr (.inr (zo q1 2))))))] ++ zR2I K q1 r) 3 26 := fun q0 q1 pc lv d => hE (q0, q1) _ rfl pc lv d
  clear hE
  unfold fX6_walks at hres
  show zj G 0 [(0, .ref aM), (1, .int p0)] [] ([(aM, .inr (6, [.ref aMk, .ref aMj, .int mN, .int mS, .ref aMc, .ref aMw, .int mX, .int mT])), (aMk, .inl (K.2 0, 12, .inl mK)), (aMj, .inl (K.2 3, 12, .inr (.inr (.inr (.inr (zo aMr 12)))))), (aMc, .inl (K.2 0, 12, .inl mC)), (aMw, .inl (K.2 0, 12, .inl mW))] ++ zR12Z K aMr mJ) 0 0
  refine z_iconst 2 hG dX6_walks_0 (by decide) ?_
  refine z_bipush 12 hG dX6_walks_1 (by decide) ?_
  refine z_mnaI (N' := 2) (K' := 12) hG dX6_walks_3 mX6_walks_0 (by decide +kernel) mX6_walks_1 (by decide) (by decide) (by decide) (by decide) (by decide) (by decide) (by decide) (Nat.le_of_ble_eq_true rfl) (Nat.le_of_ble_eq_true rfl) (fun q1 r2 => ?_)
  show zj G 7 [(0, .ref aM), (1, .int p0)] [.ref q1] ([(aM, .inr (6, [.ref aMk, .ref aMj, .int mN, .int mS, .ref aMc, .ref aMw, .int mX, .int mT])), (aMk, .inl (K.2 0, 12, .inl mK)), (aMj, .inl (K.2 3, 12, .inr (.inr (.inr (.inr (zo aMr 12)))))), (aMc, .inl (K.2 0, 12, .inl mC)), (aMw, .inl (K.2 0, 12, .inl mW))] ++ zR12Z K aMr mJ ++ [(q1, .inl (K.2 2, 2, .inr (.inr (.inr (.inr (zo r2 2))))))] ++ zR2I K r2 (fun _ _ => 0)) 3 26
  refine z_astore_n (lv' := [(2, .ref q1), (0, .ref aM), (1, .int p0)]) hG dX6_walks_7 (by decide) rfl ?_
  refine z_iconst 0 hG dX6_walks_8 (by decide) ?_
  refine z_istore_n (lv' := [(3, .int 0), (2, .ref q1), (0, .ref aM), (1, .int p0)]) hG dX6_walks_9 (by decide) rfl ?_
  obtain ⟨e19, hx, hres⟩ := z_bind hres
  refine z_lv [2, 3, 1, 0] (lv' := [(0, .ref aM), (1, .int p0), (2, .ref q1), (3, .int 0)]) rfl ?_
  refine z_loop hx (fun s17 : Int32 × (Nat → Nat → Int32) => [(0, .ref aM), (1, .int p0), (2, .ref q1), (3, .int s17.1)]) (fun s17 : Int32 × (Nat → Nat → Int32) => ([(aM, .inr (6, [.ref aMk, .ref aMj, .int mN, .int mS, .ref aMc, .ref aMw, .int mX, .int mT])), (aMk, .inl (K.2 0, 12, .inl mK)), (aMj, .inl (K.2 3, 12, .inr (.inr (.inr (.inr (zo aMr 12)))))), (aMc, .inl (K.2 0, 12, .inl mC)), (aMw, .inl (K.2 0, 12, .inl mW))] ++ zR12Z K aMr mJ ++ [(q1, .inl (K.2 2, 2, .inr (.inr (.inr (.inr (zo r2 2))))))] ++ zR2I K r2 s17.2)) (fun e19 : Int32 × (Nat → Nat → Int32) => zj G 43 [(0, .ref aM), (1, .int p0), (2, .ref q1), (3, .int e19.1)] [] ([(aM, .inr (6, [.ref aMk, .ref aMj, .int mN, .int mS, .ref aMc, .ref aMw, .int mX, .int mT])), (aMk, .inl (K.2 0, 12, .inl mK)), (aMj, .inl (K.2 3, 12, .inr (.inr (.inr (.inr (zo aMr 12)))))), (aMc, .inl (K.2 0, 12, .inl mC)), (aMw, .inl (K.2 0, 12, .inl mW))] ++ zR12Z K aMr mJ ++ [(q1, .inl (K.2 2, 2, .inr (.inr (.inr (.inr (zo r2 2))))))] ++ zR2I K r2 e19.2) 3 26) ?_ ?_
  · refine z_iconst 1 hG dX6_walks_43 (by decide) ?_
    refine z_istore_n (lv' := [(3, .int 1), (0, .ref aM), (1, .int p0), (2, .ref q1)]) hG dX6_walks_44 (by decide) rfl ?_
    obtain ⟨e152, hx, hres⟩ := z_bind hres
    refine z_lv [1, 2, 3, 0] (lv' := [(0, .ref aM), (1, .int p0), (2, .ref q1), (3, .int 1)]) rfl ?_
    refine z_loop hx (fun s150 : Int32 × (Nat → Nat → Int32) => [(0, .ref aM), (1, .int p0), (2, .ref q1), (3, .int s150.1)]) (fun s150 : Int32 × (Nat → Nat → Int32) => ([(aM, .inr (6, [.ref aMk, .ref aMj, .int mN, .int mS, .ref aMc, .ref aMw, .int mX, .int mT])), (aMk, .inl (K.2 0, 12, .inl mK)), (aMj, .inl (K.2 3, 12, .inr (.inr (.inr (.inr (zo aMr 12)))))), (aMc, .inl (K.2 0, 12, .inl mC)), (aMw, .inl (K.2 0, 12, .inl mW))] ++ zR12Z K aMr mJ ++ [(q1, .inl (K.2 2, 2, .inr (.inr (.inr (.inr (zo r2 2))))))] ++ zR2I K r2 s150.2)) (fun e152 : Int32 × (Nat → Nat → Int32) => zj G 147 [(0, .ref aM), (1, .int p0), (2, .ref q1), (3, .int e152.1)] [] ([(aM, .inr (6, [.ref aMk, .ref aMj, .int mN, .int mS, .ref aMc, .ref aMw, .int mX, .int mT])), (aMk, .inl (K.2 0, 12, .inl mK)), (aMj, .inl (K.2 3, 12, .inr (.inr (.inr (.inr (zo aMr 12)))))), (aMc, .inl (K.2 0, 12, .inl mC)), (aMw, .inl (K.2 0, 12, .inl mW))] ++ zR12Z K aMr mJ ++ [(q1, .inl (K.2 2, 2, .inr (.inr (.inr (.inr (zo r2 2))))))] ++ zR2I K r2 e152.2) 3 26) ?_ ?_
    · refine z_aload_n hG dX6_walks_147 2 rfl ?_
      obtain rfl := Option.some.inj hres
      exact (hR q1 r2 _ _ dX6_walks_148)
    · intro s150 w151 hres hX hB
      unfold sX6_walks_45 at hres
      replace hB : ∀ (z0 : Int32) (z1 : (Nat → Nat → Int32)), w151 = .inr (z0, z1) → zj G 45 [(0, .ref aM), (1, .int p0), (2, .ref q1), (3, .int z0)] [] ([(aM, .inr (6, [.ref aMk, .ref aMj, .int mN, .int mS, .ref aMc, .ref aMw, .int mX, .int mT])), (aMk, .inl (K.2 0, 12, .inl mK)), (aMj, .inl (K.2 3, 12, .inr (.inr (.inr (.inr (zo aMr 12)))))), (aMc, .inl (K.2 0, 12, .inl mC)), (aMw, .inl (K.2 0, 12, .inl mW))] ++ zR12Z K aMr mJ ++ [(q1, .inl (K.2 2, 2, .inr (.inr (.inr (.inr (zo r2 2))))))] ++ zR2I K r2 z1) 3 26 := fun z0 z1 h => hB (z0, z1) h
      replace hX : ∀ (z0 : Int32) (z1 : (Nat → Nat → Int32)), w151 = .inl (z0, z1) → zj G 147 [(0, .ref aM), (1, .int p0), (2, .ref q1), (3, .int z0)] [] ([(aM, .inr (6, [.ref aMk, .ref aMj, .int mN, .int mS, .ref aMc, .ref aMw, .int mX, .int mT])), (aMk, .inl (K.2 0, 12, .inl mK)), (aMj, .inl (K.2 3, 12, .inr (.inr (.inr (.inr (zo aMr 12)))))), (aMc, .inl (K.2 0, 12, .inl mC)), (aMw, .inl (K.2 0, 12, .inl mW))] ++ zR12Z K aMr mJ ++ [(q1, .inl (K.2 2, 2, .inr (.inr (.inr (.inr (zo r2 2))))))] ++ zR2I K r2 z1) 3 26 := fun z0 z1 h => hX (z0, z1) h
      refine z_iload_n hG dX6_walks_45 3 rfl ?_
      refine z_iconst 2 hG dX6_walks_46 (by decide) ?_
      refine z_aload_n hG dX6_walks_47 0 rfl ?_
      refine z_get (ci := 6) (C := RX6) (T := TX6) (N := 8) hG dX6_walks_48 iX6_walks_X6 2 (by decide) mX6_walks_2 rfl rfl 0 rfl rfl ?_
      refine z_imul hG dX6_walks_51 ?_
      refine z_icmp_ge 147 hG dX6_walks_52 (by decide) (fun c => ?_) (fun c => ?_)
      · replace hres := z_ifp c hres
        exact (hX s150.1 s150.2 (Option.some.inj hres).symm)
      · replace hres := z_ifn c hres
        refine z_iconst 0 hG dX6_walks_55 (by decide) ?_
        refine z_istore (lv' := [(4, .int 0), (0, .ref aM), (1, .int p0), (2, .ref q1), (3, .int s150.1)]) hG dX6_walks_56 (by decide) rfl ?_
        obtain ⟨e194, hx, hres⟩ := z_bind hres
        refine z_lv [1, 2, 3, 4, 0] (lv' := [(0, .ref aM), (1, .int p0), (2, .ref q1), (3, .int s150.1), (4, .int 0)]) rfl ?_
        refine z_loop hx (fun s192 : Int32 × (Nat → Nat → Int32) => [(0, .ref aM), (1, .int p0), (2, .ref q1), (3, .int s150.1), (4, .int s192.1)]) (fun s192 : Int32 × (Nat → Nat → Int32) => ([(aM, .inr (6, [.ref aMk, .ref aMj, .int mN, .int mS, .ref aMc, .ref aMw, .int mX, .int mT])), (aMk, .inl (K.2 0, 12, .inl mK)), (aMj, .inl (K.2 3, 12, .inr (.inr (.inr (.inr (zo aMr 12)))))), (aMc, .inl (K.2 0, 12, .inl mC)), (aMw, .inl (K.2 0, 12, .inl mW))] ++ zR12Z K aMr mJ ++ [(q1, .inl (K.2 2, 2, .inr (.inr (.inr (.inr (zo r2 2))))))] ++ zR2I K r2 s192.2)) (fun e194 : Int32 × (Nat → Nat → Int32) => zj G 141 [(0, .ref aM), (1, .int p0), (2, .ref q1), (3, .int s150.1), (4, .int e194.1)] [] ([(aM, .inr (6, [.ref aMk, .ref aMj, .int mN, .int mS, .ref aMc, .ref aMw, .int mX, .int mT])), (aMk, .inl (K.2 0, 12, .inl mK)), (aMj, .inl (K.2 3, 12, .inr (.inr (.inr (.inr (zo aMr 12)))))), (aMc, .inl (K.2 0, 12, .inl mC)), (aMw, .inl (K.2 0, 12, .inl mW))] ++ zR12Z K aMr mJ ++ [(q1, .inl (K.2 2, 2, .inr (.inr (.inr (.inr (zo r2 2))))))] ++ zR2I K r2 e194.2) 3 26) ?_ ?_
        · refine z_iinc (s150.1 + 1) (lv' := [(3, .int (s150.1 + 1)), (0, .ref aM), (1, .int p0), (2, .ref q1), (4, .int e194.1)]) hG dX6_walks_141 3 rfl rfl (by decide) rfl ?_
          refine z_goto 45 hG dX6_walks_144 (by decide) ?_
          exact (z_lv [1, 2, 3, 0] rfl (hB (s150.1 + 1) e194.2 (Option.some.inj hres).symm))
        · intro s192 w193 hres hX hB
          unfold sX6_walks_58 at hres
          replace hB : ∀ (z0 : Int32) (z1 : (Nat → Nat → Int32)), w193 = .inr (z0, z1) → zj G 58 [(0, .ref aM), (1, .int p0), (2, .ref q1), (3, .int s150.1), (4, .int z0)] [] ([(aM, .inr (6, [.ref aMk, .ref aMj, .int mN, .int mS, .ref aMc, .ref aMw, .int mX, .int mT])), (aMk, .inl (K.2 0, 12, .inl mK)), (aMj, .inl (K.2 3, 12, .inr (.inr (.inr (.inr (zo aMr 12)))))), (aMc, .inl (K.2 0, 12, .inl mC)), (aMw, .inl (K.2 0, 12, .inl mW))] ++ zR12Z K aMr mJ ++ [(q1, .inl (K.2 2, 2, .inr (.inr (.inr (.inr (zo r2 2))))))] ++ zR2I K r2 z1) 3 26 := fun z0 z1 h => hB (z0, z1) h
          replace hX : ∀ (z0 : Int32) (z1 : (Nat → Nat → Int32)), w193 = .inl (z0, z1) → zj G 141 [(0, .ref aM), (1, .int p0), (2, .ref q1), (3, .int s150.1), (4, .int z0)] [] ([(aM, .inr (6, [.ref aMk, .ref aMj, .int mN, .int mS, .ref aMc, .ref aMw, .int mX, .int mT])), (aMk, .inl (K.2 0, 12, .inl mK)), (aMj, .inl (K.2 3, 12, .inr (.inr (.inr (.inr (zo aMr 12)))))), (aMc, .inl (K.2 0, 12, .inl mC)), (aMw, .inl (K.2 0, 12, .inl mW))] ++ zR12Z K aMr mJ ++ [(q1, .inl (K.2 2, 2, .inr (.inr (.inr (.inr (zo r2 2))))))] ++ zR2I K r2 z1) 3 26 := fun z0 z1 h => hX (z0, z1) h
          refine z_iload hG dX6_walks_58 4 rfl ?_
          refine z_aload_n hG dX6_walks_60 0 rfl ?_
          refine z_get (ci := 6) (C := RX6) (T := TX6) (N := 8) hG dX6_walks_61 iX6_walks_X6 2 (by decide) mX6_walks_2 rfl rfl 0 rfl rfl ?_
          refine z_icmp_ge 141 hG dX6_walks_64 (by decide) (fun c => ?_) (fun c => ?_)
          · replace hres := z_ifp c hres
            exact (hX s192.1 s192.2 (Option.some.inj hres).symm)
          · replace hres := z_ifn c hres
            refine z_iconst 0 hG dX6_walks_67 (by decide) ?_
            refine z_istore (lv' := [(5, .int 0), (0, .ref aM), (1, .int p0), (2, .ref q1), (3, .int s150.1), (4, .int s192.1)]) hG dX6_walks_68 (by decide) rfl ?_
            obtain ⟨e208, hx, hres⟩ := z_bind hres
            refine z_lv [1, 2, 3, 4, 5, 0] (lv' := [(0, .ref aM), (1, .int p0), (2, .ref q1), (3, .int s150.1), (4, .int s192.1), (5, .int 0)]) rfl ?_
            refine z_loop hx (fun s206 : Int32 × (Nat → Nat → Int32) => [(0, .ref aM), (1, .int p0), (2, .ref q1), (3, .int s150.1), (4, .int s192.1), (5, .int s206.1)]) (fun s206 : Int32 × (Nat → Nat → Int32) => ([(aM, .inr (6, [.ref aMk, .ref aMj, .int mN, .int mS, .ref aMc, .ref aMw, .int mX, .int mT])), (aMk, .inl (K.2 0, 12, .inl mK)), (aMj, .inl (K.2 3, 12, .inr (.inr (.inr (.inr (zo aMr 12)))))), (aMc, .inl (K.2 0, 12, .inl mC)), (aMw, .inl (K.2 0, 12, .inl mW))] ++ zR12Z K aMr mJ ++ [(q1, .inl (K.2 2, 2, .inr (.inr (.inr (.inr (zo r2 2))))))] ++ zR2I K r2 s206.2)) (fun e208 : Int32 × (Nat → Nat → Int32) => zj G 135 [(0, .ref aM), (1, .int p0), (2, .ref q1), (3, .int s150.1), (4, .int s192.1), (5, .int e208.1)] [] ([(aM, .inr (6, [.ref aMk, .ref aMj, .int mN, .int mS, .ref aMc, .ref aMw, .int mX, .int mT])), (aMk, .inl (K.2 0, 12, .inl mK)), (aMj, .inl (K.2 3, 12, .inr (.inr (.inr (.inr (zo aMr 12)))))), (aMc, .inl (K.2 0, 12, .inl mC)), (aMw, .inl (K.2 0, 12, .inl mW))] ++ zR12Z K aMr mJ ++ [(q1, .inl (K.2 2, 2, .inr (.inr (.inr (.inr (zo r2 2))))))] ++ zR2I K r2 e208.2) 3 26) ?_ ?_
            · refine z_iinc (s192.1 + 1) (lv' := [(4, .int (s192.1 + 1)), (0, .ref aM), (1, .int p0), (2, .ref q1), (3, .int s150.1), (5, .int e208.1)]) hG dX6_walks_135 4 rfl rfl (by decide) rfl ?_
              refine z_goto 58 hG dX6_walks_138 (by decide) ?_
              exact (z_lv [1, 2, 3, 4, 0] rfl (hB (s192.1 + 1) e208.2 (Option.some.inj hres).symm))
            · intro s206 w207 hres hX hB
              unfold sX6_walks_70 at hres
              replace hB : ∀ (z0 : Int32) (z1 : (Nat → Nat → Int32)), w207 = .inr (z0, z1) → zj G 70 [(0, .ref aM), (1, .int p0), (2, .ref q1), (3, .int s150.1), (4, .int s192.1), (5, .int z0)] [] ([(aM, .inr (6, [.ref aMk, .ref aMj, .int mN, .int mS, .ref aMc, .ref aMw, .int mX, .int mT])), (aMk, .inl (K.2 0, 12, .inl mK)), (aMj, .inl (K.2 3, 12, .inr (.inr (.inr (.inr (zo aMr 12)))))), (aMc, .inl (K.2 0, 12, .inl mC)), (aMw, .inl (K.2 0, 12, .inl mW))] ++ zR12Z K aMr mJ ++ [(q1, .inl (K.2 2, 2, .inr (.inr (.inr (.inr (zo r2 2))))))] ++ zR2I K r2 z1) 3 26 := fun z0 z1 h => hB (z0, z1) h
              replace hX : ∀ (z0 : Int32) (z1 : (Nat → Nat → Int32)), w207 = .inl (z0, z1) → zj G 135 [(0, .ref aM), (1, .int p0), (2, .ref q1), (3, .int s150.1), (4, .int s192.1), (5, .int z0)] [] ([(aM, .inr (6, [.ref aMk, .ref aMj, .int mN, .int mS, .ref aMc, .ref aMw, .int mX, .int mT])), (aMk, .inl (K.2 0, 12, .inl mK)), (aMj, .inl (K.2 3, 12, .inr (.inr (.inr (.inr (zo aMr 12)))))), (aMc, .inl (K.2 0, 12, .inl mC)), (aMw, .inl (K.2 0, 12, .inl mW))] ++ zR12Z K aMr mJ ++ [(q1, .inl (K.2 2, 2, .inr (.inr (.inr (.inr (zo r2 2))))))] ++ zR2I K r2 z1) 3 26 := fun z0 z1 h => hX (z0, z1) h
              refine z_iload hG dX6_walks_70 5 rfl ?_
              refine z_aload_n hG dX6_walks_72 0 rfl ?_
              refine z_get (ci := 6) (C := RX6) (T := TX6) (N := 8) hG dX6_walks_73 iX6_walks_X6 2 (by decide) mX6_walks_2 rfl rfl 0 rfl rfl ?_
              refine z_icmp_ge 135 hG dX6_walks_76 (by decide) (fun c => ?_) (fun c => ?_)
              · replace hres := z_ifp c hres
                exact (hX s206.1 s206.2 (Option.some.inj hres).symm)
              · replace hres := z_ifn c hres
                refine z_aload_n hG dX6_walks_79 0 rfl ?_
                refine z_get (ci := 6) (C := RX6) (T := TX6) (N := 8) hG dX6_walks_80 iX6_walks_X6 1 (by decide) mX6_walks_4 rfl rfl 0 rfl rfl ?_
                refine z_iload hG dX6_walks_83 4 rfl ?_
                obtain ⟨hr210, hres⟩ := z_guard hres
                refine z_aaldZ hG dX6_walks_85 2 rfl hr210 ?_
                refine z_iload hG dX6_walks_86 5 rfl ?_
                obtain ⟨hg, hres⟩ := z_guard hres
                refine z_zaldG (M := mJ) hG dX6_walks_88 5 (z_12 rfl rfl rfl rfl rfl rfl rfl rfl rfl rfl rfl rfl) hr210 hg ?_
                refine z_if_eq 129 hG dX6_walks_89 (by decide) (fun c => ?_) (fun c => ?_)
                · replace hres := z_ifp c hres
                  refine z_iinc (s206.1 + 1) (lv' := [(5, .int (s206.1 + 1)), (0, .ref aM), (1, .int p0), (2, .ref q1), (3, .int s150.1), (4, .int s192.1)]) hG dX6_walks_129 5 rfl rfl (by decide) rfl ?_
                  refine z_goto 70 hG dX6_walks_132 (by decide) ?_
                  exact (z_lv [1, 2, 3, 4, 5, 0] rfl (hB (s206.1 + 1) s206.2 (Option.some.inj hres).symm))
                · replace hres := z_ifn c hres
                  refine z_aload_n hG dX6_walks_92 2 rfl ?_
                  refine z_iload_n hG dX6_walks_93 3 rfl ?_
                  refine z_iconst 1 hG dX6_walks_94 (by decide) ?_
                  refine z_iadd hG dX6_walks_95 ?_
                  refine z_iconst 2 hG dX6_walks_96 (by decide) ?_
                  refine z_irem hG dX6_walks_97 (by decide) ?_
                  obtain ⟨hr211, hres⟩ := z_guard hres
                  refine z_aaldI hG dX6_walks_98 17 rfl hr211 ?_
                  refine z_iload hG dX6_walks_99 4 rfl ?_
                  obtain ⟨hg, hres⟩ := z_guard hres
                  refine z_ialdG (M := s206.2) hG dX6_walks_101 18 (z_2 rfl rfl) hr211 hg ?_
                  refine z_iload_n hG dX6_walks_102 3 rfl ?_
                  refine z_iconst 1 hG dX6_walks_103 (by decide) ?_
                  refine z_isub hG dX6_walks_104 ?_
                  refine z_icmp_ne 129 hG dX6_walks_105 (by decide) (fun c => ?_) (fun c => ?_)
                  · replace hres := z_ifn c hres
                    refine z_iinc (s206.1 + 1) (lv' := [(5, .int (s206.1 + 1)), (0, .ref aM), (1, .int p0), (2, .ref q1), (3, .int s150.1), (4, .int s192.1)]) hG dX6_walks_129 5 rfl rfl (by decide) rfl ?_
                    refine z_goto 70 hG dX6_walks_132 (by decide) ?_
                    exact (z_lv [1, 2, 3, 4, 5, 0] rfl (hB (s206.1 + 1) s206.2 (Option.some.inj hres).symm))
                  · replace hres := z_ifp c hres
                    refine z_aload_n hG dX6_walks_108 2 rfl ?_
                    refine z_iload_n hG dX6_walks_109 3 rfl ?_
                    refine z_iconst 2 hG dX6_walks_110 (by decide) ?_
                    refine z_irem hG dX6_walks_111 (by decide) ?_
                    obtain ⟨hr212, hres⟩ := z_guard hres
                    refine z_aaldI hG dX6_walks_112 17 rfl hr212 ?_
                    refine z_iload hG dX6_walks_113 5 rfl ?_
                    obtain ⟨hg, hres⟩ := z_guard hres
                    refine z_ialdG (M := s206.2) hG dX6_walks_115 18 (z_2 rfl rfl) hr212 hg ?_
                    refine z_iconst (-1) hG dX6_walks_116 (by decide) ?_
                    refine z_icmp_ne 129 hG dX6_walks_117 (by decide) (fun c => ?_) (fun c => ?_)
                    · replace hres := z_ifn c hres
                      refine z_iinc (s206.1 + 1) (lv' := [(5, .int (s206.1 + 1)), (0, .ref aM), (1, .int p0), (2, .ref q1), (3, .int s150.1), (4, .int s192.1)]) hG dX6_walks_129 5 rfl rfl (by decide) rfl ?_
                      refine z_goto 70 hG dX6_walks_132 (by decide) ?_
                      exact (z_lv [1, 2, 3, 4, 5, 0] rfl (hB (s206.1 + 1) s206.2 (Option.some.inj hres).symm))
                    · replace hres := z_ifp c hres
                      refine z_aload_n hG dX6_walks_120 2 rfl ?_
                      refine z_iload_n hG dX6_walks_121 3 rfl ?_
                      refine z_iconst 2 hG dX6_walks_122 (by decide) ?_
                      refine z_irem hG dX6_walks_123 (by decide) ?_
                      obtain ⟨hr213, hres⟩ := z_guard hres
                      refine z_aaldI hG dX6_walks_124 17 rfl hr213 ?_
                      refine z_iload hG dX6_walks_125 5 rfl ?_
                      refine z_iload_n hG dX6_walks_127 3 rfl ?_
                      obtain ⟨hg, hres⟩ := z_guard hres
                      refine z_iastG (M := s206.2) (ws' := fun k => ([(aM, .inr (6, [.ref aMk, .ref aMj, .int mN, .int mS, .ref aMc, .ref aMw, .int mX, .int mT])), (aMk, .inl (K.2 0, 12, .inl mK)), (aMj, .inl (K.2 3, 12, .inr (.inr (.inr (.inr (zo aMr 12)))))), (aMc, .inl (K.2 0, 12, .inl mC)), (aMw, .inl (K.2 0, 12, .inl mW))] ++ zR12Z K aMr mJ ++ [(q1, .inl (K.2 2, 2, .inr (.inr (.inr (.inr (zo r2 2))))))] ++ zR2I K r2 (zup2 s206.2 k s206.1.toNatClampNeg s150.1))) hG dX6_walks_128 18 (z_2 rfl rfl) hr213 hg (z_2 rfl rfl) ?_
                      obtain ⟨M214, hM, hres⟩ := z_bind hres
                      replace hM := Option.some.inj hM
                      show zj G 129 [(0, .ref aM), (1, .int p0), (2, .ref q1), (3, .int s150.1), (4, .int s192.1), (5, .int s206.1)] [] ([(aM, .inr (6, [.ref aMk, .ref aMj, .int mN, .int mS, .ref aMc, .ref aMw, .int mX, .int mT])), (aMk, .inl (K.2 0, 12, .inl mK)), (aMj, .inl (K.2 3, 12, .inr (.inr (.inr (.inr (zo aMr 12)))))), (aMc, .inl (K.2 0, 12, .inl mC)), (aMw, .inl (K.2 0, 12, .inl mW))] ++ zR12Z K aMr mJ ++ [(q1, .inl (K.2 2, 2, .inr (.inr (.inr (.inr (zo r2 2))))))] ++ zR2I K r2 (zup2 s206.2 (s150.1 - s150.1 / 2 * 2).toNatClampNeg s206.1.toNatClampNeg s150.1)) 3 26
                      rw [hM]
                      clear hM
                      refine z_iinc (s206.1 + 1) (lv' := [(5, .int (s206.1 + 1)), (0, .ref aM), (1, .int p0), (2, .ref q1), (3, .int s150.1), (4, .int s192.1)]) hG dX6_walks_129 5 rfl rfl (by decide) rfl ?_
                      refine z_goto 70 hG dX6_walks_132 (by decide) ?_
                      exact (z_lv [1, 2, 3, 4, 5, 0] rfl (hB (s206.1 + 1) M214 (Option.some.inj hres).symm))
  · intro s17 w18 hres hX hB
    unfold sX6_walks_10 at hres
    replace hB : ∀ (z0 : Int32) (z1 : (Nat → Nat → Int32)), w18 = .inr (z0, z1) → zj G 10 [(0, .ref aM), (1, .int p0), (2, .ref q1), (3, .int z0)] [] ([(aM, .inr (6, [.ref aMk, .ref aMj, .int mN, .int mS, .ref aMc, .ref aMw, .int mX, .int mT])), (aMk, .inl (K.2 0, 12, .inl mK)), (aMj, .inl (K.2 3, 12, .inr (.inr (.inr (.inr (zo aMr 12)))))), (aMc, .inl (K.2 0, 12, .inl mC)), (aMw, .inl (K.2 0, 12, .inl mW))] ++ zR12Z K aMr mJ ++ [(q1, .inl (K.2 2, 2, .inr (.inr (.inr (.inr (zo r2 2))))))] ++ zR2I K r2 z1) 3 26 := fun z0 z1 h => hB (z0, z1) h
    replace hX : ∀ (z0 : Int32) (z1 : (Nat → Nat → Int32)), w18 = .inl (z0, z1) → zj G 43 [(0, .ref aM), (1, .int p0), (2, .ref q1), (3, .int z0)] [] ([(aM, .inr (6, [.ref aMk, .ref aMj, .int mN, .int mS, .ref aMc, .ref aMw, .int mX, .int mT])), (aMk, .inl (K.2 0, 12, .inl mK)), (aMj, .inl (K.2 3, 12, .inr (.inr (.inr (.inr (zo aMr 12)))))), (aMc, .inl (K.2 0, 12, .inl mC)), (aMw, .inl (K.2 0, 12, .inl mW))] ++ zR12Z K aMr mJ ++ [(q1, .inl (K.2 2, 2, .inr (.inr (.inr (.inr (zo r2 2))))))] ++ zR2I K r2 z1) 3 26 := fun z0 z1 h => hX (z0, z1) h
    refine z_iload_n hG dX6_walks_10 3 rfl ?_
    refine z_bipush 12 hG dX6_walks_11 (by decide) ?_
    refine z_icmp_ge 43 hG dX6_walks_13 (by decide) (fun c => ?_) (fun c => ?_)
    · replace hres := z_ifp c hres
      exact (hX s17.1 s17.2 (Option.some.inj hres).symm)
    · replace hres := z_ifn c hres
      refine z_aload_n hG dX6_walks_16 2 rfl ?_
      refine z_iconst 0 hG dX6_walks_17 (by decide) ?_
      obtain ⟨hr21, hres⟩ := z_guard hres
      refine z_aaldI hG dX6_walks_18 17 rfl hr21 ?_
      refine z_iload_n hG dX6_walks_19 3 rfl ?_
      refine z_iload_n hG dX6_walks_20 3 rfl ?_
      refine z_iload_n hG dX6_walks_21 1 rfl ?_
      refine z_icmp_ne 29 hG dX6_walks_22 (by decide) (fun c => ?_) (fun c => ?_)
      · replace hres := z_ifn c hres
        refine z_iconst (-1) hG dX6_walks_29 (by decide) ?_
        obtain ⟨hg, hres⟩ := z_guard hres
        refine z_iastG (M := s17.2) (ws' := fun k => ([(aM, .inr (6, [.ref aMk, .ref aMj, .int mN, .int mS, .ref aMc, .ref aMw, .int mX, .int mT])), (aMk, .inl (K.2 0, 12, .inl mK)), (aMj, .inl (K.2 3, 12, .inr (.inr (.inr (.inr (zo aMr 12)))))), (aMc, .inl (K.2 0, 12, .inl mC)), (aMw, .inl (K.2 0, 12, .inl mW))] ++ zR12Z K aMr mJ ++ [(q1, .inl (K.2 2, 2, .inr (.inr (.inr (.inr (zo r2 2))))))] ++ zR2I K r2 (zup2 s17.2 k s17.1.toNatClampNeg (-1)))) hG dX6_walks_30 18 (z_2 rfl rfl) hr21 hg (z_2 rfl rfl) ?_
        obtain ⟨M22, hM, hres⟩ := z_bind hres
        replace hM := Option.some.inj hM
        show zj G 31 [(0, .ref aM), (1, .int p0), (2, .ref q1), (3, .int s17.1)] [] ([(aM, .inr (6, [.ref aMk, .ref aMj, .int mN, .int mS, .ref aMc, .ref aMw, .int mX, .int mT])), (aMk, .inl (K.2 0, 12, .inl mK)), (aMj, .inl (K.2 3, 12, .inr (.inr (.inr (.inr (zo aMr 12)))))), (aMc, .inl (K.2 0, 12, .inl mC)), (aMw, .inl (K.2 0, 12, .inl mW))] ++ zR12Z K aMr mJ ++ [(q1, .inl (K.2 2, 2, .inr (.inr (.inr (.inr (zo r2 2))))))] ++ zR2I K r2 (zup2 s17.2 (0 : Int32).toNatClampNeg s17.1.toNatClampNeg (-1))) 3 26
        rw [hM]
        clear hM
        refine z_aload_n hG dX6_walks_31 2 rfl ?_
        refine z_iconst 1 hG dX6_walks_32 (by decide) ?_
        obtain ⟨hr23, hres⟩ := z_guard hres
        refine z_aaldI hG dX6_walks_33 17 rfl hr23 ?_
        refine z_iload_n hG dX6_walks_34 3 rfl ?_
        refine z_iconst (-1) hG dX6_walks_35 (by decide) ?_
        obtain ⟨hg, hres⟩ := z_guard hres
        refine z_iastG (M := M22) (ws' := fun k => ([(aM, .inr (6, [.ref aMk, .ref aMj, .int mN, .int mS, .ref aMc, .ref aMw, .int mX, .int mT])), (aMk, .inl (K.2 0, 12, .inl mK)), (aMj, .inl (K.2 3, 12, .inr (.inr (.inr (.inr (zo aMr 12)))))), (aMc, .inl (K.2 0, 12, .inl mC)), (aMw, .inl (K.2 0, 12, .inl mW))] ++ zR12Z K aMr mJ ++ [(q1, .inl (K.2 2, 2, .inr (.inr (.inr (.inr (zo r2 2))))))] ++ zR2I K r2 (zup2 M22 k s17.1.toNatClampNeg (-1)))) hG dX6_walks_36 18 (z_2 rfl rfl) hr23 hg (z_2 rfl rfl) ?_
        obtain ⟨M24, hM, hres⟩ := z_bind hres
        replace hM := Option.some.inj hM
        show zj G 37 [(0, .ref aM), (1, .int p0), (2, .ref q1), (3, .int s17.1)] [] ([(aM, .inr (6, [.ref aMk, .ref aMj, .int mN, .int mS, .ref aMc, .ref aMw, .int mX, .int mT])), (aMk, .inl (K.2 0, 12, .inl mK)), (aMj, .inl (K.2 3, 12, .inr (.inr (.inr (.inr (zo aMr 12)))))), (aMc, .inl (K.2 0, 12, .inl mC)), (aMw, .inl (K.2 0, 12, .inl mW))] ++ zR12Z K aMr mJ ++ [(q1, .inl (K.2 2, 2, .inr (.inr (.inr (.inr (zo r2 2))))))] ++ zR2I K r2 (zup2 M22 (1 : Int32).toNatClampNeg s17.1.toNatClampNeg (-1))) 3 26
        rw [hM]
        clear hM
        refine z_iinc (s17.1 + 1) (lv' := [(3, .int (s17.1 + 1)), (0, .ref aM), (1, .int p0), (2, .ref q1)]) hG dX6_walks_37 3 rfl rfl (by decide) rfl ?_
        refine z_goto 10 hG dX6_walks_40 (by decide) ?_
        exact (z_lv [1, 2, 3, 0] rfl (hB (s17.1 + 1) M24 (Option.some.inj hres).symm))
      · replace hres := z_ifp c hres
        refine z_iconst 0 hG dX6_walks_25 (by decide) ?_
        refine z_goto 30 hG dX6_walks_26 (by decide) ?_
        obtain ⟨hg, hres⟩ := z_guard hres
        refine z_iastG (M := s17.2) (ws' := fun k => ([(aM, .inr (6, [.ref aMk, .ref aMj, .int mN, .int mS, .ref aMc, .ref aMw, .int mX, .int mT])), (aMk, .inl (K.2 0, 12, .inl mK)), (aMj, .inl (K.2 3, 12, .inr (.inr (.inr (.inr (zo aMr 12)))))), (aMc, .inl (K.2 0, 12, .inl mC)), (aMw, .inl (K.2 0, 12, .inl mW))] ++ zR12Z K aMr mJ ++ [(q1, .inl (K.2 2, 2, .inr (.inr (.inr (.inr (zo r2 2))))))] ++ zR2I K r2 (zup2 s17.2 k s17.1.toNatClampNeg 0))) hG dX6_walks_30 18 (z_2 rfl rfl) hr21 hg (z_2 rfl rfl) ?_
        obtain ⟨M25, hM, hres⟩ := z_bind hres
        replace hM := Option.some.inj hM
        show zj G 31 [(0, .ref aM), (1, .int p0), (2, .ref q1), (3, .int s17.1)] [] ([(aM, .inr (6, [.ref aMk, .ref aMj, .int mN, .int mS, .ref aMc, .ref aMw, .int mX, .int mT])), (aMk, .inl (K.2 0, 12, .inl mK)), (aMj, .inl (K.2 3, 12, .inr (.inr (.inr (.inr (zo aMr 12)))))), (aMc, .inl (K.2 0, 12, .inl mC)), (aMw, .inl (K.2 0, 12, .inl mW))] ++ zR12Z K aMr mJ ++ [(q1, .inl (K.2 2, 2, .inr (.inr (.inr (.inr (zo r2 2))))))] ++ zR2I K r2 (zup2 s17.2 (0 : Int32).toNatClampNeg s17.1.toNatClampNeg 0)) 3 26
        rw [hM]
        clear hM
        refine z_aload_n hG dX6_walks_31 2 rfl ?_
        refine z_iconst 1 hG dX6_walks_32 (by decide) ?_
        obtain ⟨hr26, hres⟩ := z_guard hres
        refine z_aaldI hG dX6_walks_33 17 rfl hr26 ?_
        refine z_iload_n hG dX6_walks_34 3 rfl ?_
        refine z_iconst (-1) hG dX6_walks_35 (by decide) ?_
        obtain ⟨hg, hres⟩ := z_guard hres
        refine z_iastG (M := M25) (ws' := fun k => ([(aM, .inr (6, [.ref aMk, .ref aMj, .int mN, .int mS, .ref aMc, .ref aMw, .int mX, .int mT])), (aMk, .inl (K.2 0, 12, .inl mK)), (aMj, .inl (K.2 3, 12, .inr (.inr (.inr (.inr (zo aMr 12)))))), (aMc, .inl (K.2 0, 12, .inl mC)), (aMw, .inl (K.2 0, 12, .inl mW))] ++ zR12Z K aMr mJ ++ [(q1, .inl (K.2 2, 2, .inr (.inr (.inr (.inr (zo r2 2))))))] ++ zR2I K r2 (zup2 M25 k s17.1.toNatClampNeg (-1)))) hG dX6_walks_36 18 (z_2 rfl rfl) hr26 hg (z_2 rfl rfl) ?_
        obtain ⟨M27, hM, hres⟩ := z_bind hres
        replace hM := Option.some.inj hM
        show zj G 37 [(0, .ref aM), (1, .int p0), (2, .ref q1), (3, .int s17.1)] [] ([(aM, .inr (6, [.ref aMk, .ref aMj, .int mN, .int mS, .ref aMc, .ref aMw, .int mX, .int mT])), (aMk, .inl (K.2 0, 12, .inl mK)), (aMj, .inl (K.2 3, 12, .inr (.inr (.inr (.inr (zo aMr 12)))))), (aMc, .inl (K.2 0, 12, .inl mC)), (aMw, .inl (K.2 0, 12, .inl mW))] ++ zR12Z K aMr mJ ++ [(q1, .inl (K.2 2, 2, .inr (.inr (.inr (.inr (zo r2 2))))))] ++ zR2I K r2 (zup2 M25 (1 : Int32).toNatClampNeg s17.1.toNatClampNeg (-1))) 3 26
        rw [hM]
        clear hM
        refine z_iinc (s17.1 + 1) (lv' := [(3, .int (s17.1 + 1)), (0, .ref aM), (1, .int p0), (2, .ref q1)]) hG dX6_walks_37 3 rfl rfl (by decide) rfl ?_
        refine z_goto 10 hG dX6_walks_40 (by decide) ?_
        exact (z_lv [1, 2, 3, 0] rfl (hB (s17.1 + 1) M27 (Option.some.inj hres).symm))

theorem dX6_oddWalk_0 : decode cX6_oddWalk 0 = .ok (.aload_n 0, 1) := by decide +kernel
theorem dX6_oddWalk_1 : decode cX6_oddWalk 1 = .ok (.iload_n 1, 1) := by decide +kernel
theorem dX6_oddWalk_2 : decode cX6_oddWalk 2 = .ok (.invokevirtual 82, 3) := by decide +kernel
theorem dX6_oddWalk_5 : decode cX6_oddWalk 5 = .ok (.iconst 1, 1) := by decide +kernel
theorem dX6_oddWalk_6 : decode cX6_oddWalk 6 = .ok (.aaload, 1) := by decide +kernel
theorem dX6_oddWalk_7 : decode cX6_oddWalk 7 = .ok (.iload_n 1, 1) := by decide +kernel
theorem dX6_oddWalk_8 : decode cX6_oddWalk 8 = .ok (.iaload, 1) := by decide +kernel
theorem dX6_oddWalk_9 : decode cX6_oddWalk 9 = .ok (.ireturn, 1) := by decide +kernel
set_option maxRecDepth 20000 in
theorem ggX6_oddWalk_X6_walks : GoodIn wsX6_oddWalk wsX6_walks := goodIn_r _ [5, 6, 7, 8, 9, 10, 11, 12, 13, 14, 15, 16, 17] (by decide +kernel) (by decide +kernel)
set_option maxRecDepth 20000 in
theorem gX6_oddWalk_X6_walks : GoodIn wsX6_oddWalk (wsV RX6 82 RX6 yX6_walks wsX6_walks) := goodIn_app (goodIn_of _ (by decide +kernel)) ggX6_oddWalk_X6_walks
def fX6_oddWalk (mN : Int32) (mJ : (Nat → Nat → Int32)) (p0 : Int32) : Option (Int32) := (fX6_walks mN mJ p0).bind fun v1 => if zin 1 2 then if zin p0 12 then some (v1 (1 : Int32).toNatClampNeg p0.toNatClampNeg) else none else none
set_option maxRecDepth 100000 in
set_option maxHeartbeats 4000000 in
theorem kX6_oddWalk (l : Launch) (K : zK) (aM : Nat) (aMk : Nat) (aMj : Nat) (aMc : Nat) (aMw : Nat) (aMr : (Nat → Nat))  (mN : Int32) (mS : Int32) (mX : Int32) (mT : Int32) (mK : (Nat → Int32)) (mC : (Nat → Int32)) (mW : (Nat → Int32)) (mJ : (Nat → Nat → Int32)) (p0 : Int32) (r : Int32) (hres : fX6_oddWalk mN mJ p0 = some r) : zM l K yX6_oddWalk wsX6_oddWalk ({ frames := 1, cells := 3, slots := 26, locals := 25 }) [.ref aM, .int p0] ([(aM, .inr (6, [.ref aMk, .ref aMj, .int mN, .int mS, .ref aMc, .ref aMw, .int mX, .int mT])), (aMk, .inl (K.2 0, 12, .inl mK)), (aMj, .inl (K.2 3, 12, .inr (.inr (.inr (.inr (zo aMr 12)))))), (aMc, .inl (K.2 0, 12, .inl mC)), (aMw, .inl (K.2 0, 12, .inl mW))] ++ zR12Z K aMr mJ) (fun _ : Unit => some (.int r)) (fun _ : Unit => ([(aM, .inr (6, [.ref aMk, .ref aMj, .int mN, .int mS, .ref aMc, .ref aMw, .int mX, .int mT])), (aMk, .inl (K.2 0, 12, .inl mK)), (aMj, .inl (K.2 3, 12, .inr (.inr (.inr (.inr (zo aMr 12)))))), (aMc, .inl (K.2 0, 12, .inl mC)), (aMw, .inl (K.2 0, 12, .inl mW))] ++ zR12Z K aMr mJ)) 3 26 := by
  refine zM.intI (cc := cX6_oddWalk) (maxL := 2) (ret := (some .int)) rfl (by decide) (Nat.le_of_ble_eq_true rfl) rfl ?_
  intro G hGl hG hN hE
  have hR : ∀ (pc : Nat) (lv : zL), decode cX6_oddWalk pc = .ok (.ireturn, 1) → zj G pc lv [.int r] ([(aM, .inr (6, [.ref aMk, .ref aMj, .int mN, .int mS, .ref aMc, .ref aMw, .int mX, .int mT])), (aMk, .inl (K.2 0, 12, .inl mK)), (aMj, .inl (K.2 3, 12, .inr (.inr (.inr (.inr (zo aMr 12)))))), (aMc, .inl (K.2 0, 12, .inl mC)), (aMw, .inl (K.2 0, 12, .inl mW))] ++ zR12Z K aMr mJ) 3 26 := fun pc lv d => hE () _ rfl pc lv d
  clear hE
  unfold fX6_oddWalk at hres
  show zj G 0 [(0, .ref aM), (1, .int p0)] [] ([(aM, .inr (6, [.ref aMk, .ref aMj, .int mN, .int mS, .ref aMc, .ref aMw, .int mX, .int mT])), (aMk, .inl (K.2 0, 12, .inl mK)), (aMj, .inl (K.2 3, 12, .inr (.inr (.inr (.inr (zo aMr 12)))))), (aMc, .inl (K.2 0, 12, .inl mC)), (aMw, .inl (K.2 0, 12, .inl mW))] ++ zR12Z K aMr mJ) 0 0
  refine z_aload_n hG dX6_oddWalk_0 0 rfl ?_
  refine z_iload_n hG dX6_oddWalk_1 1 rfl ?_
  obtain ⟨v1, hv, hres⟩ := z_bind hres
  refine z_callV (As := [.int p0]) (rest := []) (wr := ([] : va_W)) (ws' := (fun q2 : Nat × (Nat → Nat) => ([(aM, .inr (6, [.ref aMk, .ref aMj, .int mN, .int mS, .ref aMc, .ref aMw, .int mX, .int mT])), (aMk, .inl (K.2 0, 12, .inl mK)), (aMj, .inl (K.2 3, 12, .inr (.inr (.inr (.inr (zo aMr 12)))))), (aMc, .inl (K.2 0, 12, .inl mC)), (aMw, .inl (K.2 0, 12, .inl mW))] ++ zR12Z K aMr mJ ++ [(q2.1, .inl (K.2 2, 2, .inr (.inr (.inr (.inr (zo q2.2 2))))))] ++ zR2I K q2.2 v1))) (stk := (fun q2 : Nat × (Nat → Nat) => [.ref q2.1])) (kc' := 3) (ks' := 26) (n := 1) (C := RX6) (ci := 6) hG dX6_oddWalk_2 (kX6_walks _ K aM aMk aMj aMc aMw aMr mN mS mX mT mK mC mW mJ p0 v1 hv) gX6_oddWalk_X6_walks rfl rfl rfl ⟨rfl, by decide, by decide, rfl⟩ ⟨by decide, by decide⟩ (Nat.le_of_ble_eq_true rfl) ⟨(Nat.le_of_ble_eq_true rfl), (Nat.le_of_ble_eq_true rfl)⟩ [0, 1, 2, 3, 4, 5, 6, 7, 8, 9, 10, 11, 12, 13, 14, 15, 16] [] [0, 1, 2, 3, 4, 5, 6, 7, 8, 9, 10, 11, 12, 13, 14, 15, 16, 17, 18, 19] rfl rfl rfl rfl (by decide) rfl (fun _ => rfl) (fun _ => rfl) rfl rfl rfl 0 rfl rfl rfl rfl (fun q2 => ?_)
  refine z_iconst 1 hG dX6_oddWalk_5 (by decide) ?_
  obtain ⟨hr3, hres⟩ := z_guard hres
  refine z_aaldI hG dX6_oddWalk_6 17 rfl hr3 ?_
  refine z_iload_n hG dX6_oddWalk_7 1 rfl ?_
  obtain ⟨hg, hres⟩ := z_guard hres
  refine z_ialdG (M := v1) hG dX6_oddWalk_8 18 (z_2 rfl rfl) hr3 hg ?_
  obtain rfl := Option.some.inj hres
  exact (z_ws [0, 1, 2, 3, 4, 5, 6, 7, 8, 9, 10, 11, 12, 13, 14, 15, 16] rfl rfl (hR _ _ dX6_oddWalk_9))

theorem dX6_odd_0 : decode cX6_odd 0 = .ok (.iconst 0, 1) := by decide +kernel
theorem dX6_odd_1 : decode cX6_odd 1 = .ok (.istore_n 1, 1) := by decide +kernel
theorem dX6_odd_2 : decode cX6_odd 2 = .ok (.iconst 0, 1) := by decide +kernel
theorem dX6_odd_3 : decode cX6_odd 3 = .ok (.istore_n 2, 1) := by decide +kernel
theorem dX6_odd_4 : decode cX6_odd 4 = .ok (.iload_n 2, 1) := by decide +kernel
theorem dX6_odd_5 : decode cX6_odd 5 = .ok (.aload_n 0, 1) := by decide +kernel
theorem dX6_odd_6 : decode cX6_odd 6 = .ok (.getfield 31, 3) := by decide +kernel
theorem dX6_odd_9 : decode cX6_odd 9 = .ok (.if_icmp .ge 35, 3) := by decide +kernel
theorem dX6_odd_12 : decode cX6_odd 12 = .ok (.aload_n 0, 1) := by decide +kernel
theorem dX6_odd_13 : decode cX6_odd 13 = .ok (.iload_n 2, 1) := by decide +kernel
theorem dX6_odd_14 : decode cX6_odd 14 = .ok (.invokevirtual 88, 3) := by decide +kernel
theorem dX6_odd_17 : decode cX6_odd 17 = .ok (.istore_n 3, 1) := by decide +kernel
theorem dX6_odd_18 : decode cX6_odd 18 = .ok (.iload_n 3, 1) := by decide +kernel
theorem dX6_odd_19 : decode cX6_odd 19 = .ok (.iconst (-1), 1) := by decide +kernel
theorem dX6_odd_20 : decode cX6_odd 20 = .ok (.if_icmp .eq 16, 3) := by decide +kernel
theorem dX6_odd_23 : decode cX6_odd 23 = .ok (.iload_n 1, 1) := by decide +kernel
theorem dX6_odd_24 : decode cX6_odd 24 = .ok (.ifCond .eq 8, 3) := by decide +kernel
theorem dX6_odd_27 : decode cX6_odd 27 = .ok (.iload_n 3, 1) := by decide +kernel
theorem dX6_odd_28 : decode cX6_odd 28 = .ok (.iload_n 1, 1) := by decide +kernel
theorem dX6_odd_29 : decode cX6_odd 29 = .ok (.if_icmp .ge 7, 3) := by decide +kernel
theorem dX6_odd_32 : decode cX6_odd 32 = .ok (.iload_n 3, 1) := by decide +kernel
theorem dX6_odd_33 : decode cX6_odd 33 = .ok (.goto 4, 3) := by decide +kernel
theorem dX6_odd_36 : decode cX6_odd 36 = .ok (.iload_n 1, 1) := by decide +kernel
theorem dX6_odd_37 : decode cX6_odd 37 = .ok (.istore_n 1, 1) := by decide +kernel
theorem dX6_odd_38 : decode cX6_odd 38 = .ok (.iinc 2 1, 3) := by decide +kernel
theorem dX6_odd_41 : decode cX6_odd 41 = .ok (.goto (-37), 3) := by decide +kernel
theorem dX6_odd_44 : decode cX6_odd 44 = .ok (.iload_n 1, 1) := by decide +kernel
theorem dX6_odd_45 : decode cX6_odd 45 = .ok (.ireturn, 1) := by decide +kernel
set_option maxRecDepth 20000 in
theorem ggX6_odd_X6_oddWalk : GoodIn wsX6_odd wsX6_oddWalk := goodIn_r _ [6, 7, 8, 9, 5, 10, 11, 12, 1, 13, 14, 15, 16, 17, 18, 19, 20, 21] (by decide +kernel) (by decide +kernel)
set_option maxRecDepth 20000 in
theorem gX6_odd_X6_oddWalk : GoodIn wsX6_odd (wsV RX6 88 RX6 yX6_oddWalk wsX6_oddWalk) := goodIn_app (goodIn_of _ (by decide +kernel)) ggX6_odd_X6_oddWalk
theorem mX6_odd_0 : Cond.fieldLink RX6 31 "LayerwaysModel" "many" "I" ∈ wsX6_odd := by decide +kernel
theorem iX6_odd_X6 : ∀ w ∈ u_ws RX6 TX6 8, w ∈ wsX6_odd := by decide +kernel
def sX6_odd_4 (mN : Int32) (mJ : (Nat → Nat → Int32)) (s3 : Int32 × Int32) : Option ((Int32 × Int32) ⊕ (Int32 × Int32)) := if mN ≤ s3.2 then some (.inl (s3.1, s3.2)) else (fX6_oddWalk mN mJ s3.2).bind fun v7 => if v7 = (-1) then some (.inr (s3.1, (s3.2 + 1))) else if s3.1 = 0 then some (.inr (v7, (s3.2 + 1))) else if s3.1 ≤ v7 then some (.inr (s3.1, (s3.2 + 1))) else some (.inr (v7, (s3.2 + 1)))
def fX6_odd (mN : Int32) (mJ : (Nat → Nat → Int32)) : Option (Int32) := (zloop (sX6_odd_4 mN mJ) 32 (0, 0)).bind fun e5 => some e5.1
set_option maxRecDepth 100000 in
set_option maxHeartbeats 4000000 in
theorem kX6_odd (l : Launch) (K : zK) (aM : Nat) (aMk : Nat) (aMj : Nat) (aMc : Nat) (aMw : Nat) (aMr : (Nat → Nat))  (mN : Int32) (mS : Int32) (mX : Int32) (mT : Int32) (mK : (Nat → Int32)) (mC : (Nat → Int32)) (mW : (Nat → Int32)) (mJ : (Nat → Nat → Int32)) (r : Int32) (hres : fX6_odd mN mJ = some r) : zM l K yX6_odd wsX6_odd ({ frames := 2, cells := 96, slots := 832, locals := 46 }) [.ref aM] ([(aM, .inr (6, [.ref aMk, .ref aMj, .int mN, .int mS, .ref aMc, .ref aMw, .int mX, .int mT])), (aMk, .inl (K.2 0, 12, .inl mK)), (aMj, .inl (K.2 3, 12, .inr (.inr (.inr (.inr (zo aMr 12)))))), (aMc, .inl (K.2 0, 12, .inl mC)), (aMw, .inl (K.2 0, 12, .inl mW))] ++ zR12Z K aMr mJ) (fun _ : Unit => some (.int r)) (fun _ : Unit => ([(aM, .inr (6, [.ref aMk, .ref aMj, .int mN, .int mS, .ref aMc, .ref aMw, .int mX, .int mT])), (aMk, .inl (K.2 0, 12, .inl mK)), (aMj, .inl (K.2 3, 12, .inr (.inr (.inr (.inr (zo aMr 12)))))), (aMc, .inl (K.2 0, 12, .inl mC)), (aMw, .inl (K.2 0, 12, .inl mW))] ++ zR12Z K aMr mJ)) 96 832 := by
  refine zM.intI (cc := cX6_odd) (maxL := 4) (ret := (some .int)) rfl (by decide) (Nat.le_of_ble_eq_true rfl) rfl ?_
  intro G hGl hG hN hE
  have hR : ∀ (pc : Nat) (lv : zL), decode cX6_odd pc = .ok (.ireturn, 1) → zj G pc lv [.int r] ([(aM, .inr (6, [.ref aMk, .ref aMj, .int mN, .int mS, .ref aMc, .ref aMw, .int mX, .int mT])), (aMk, .inl (K.2 0, 12, .inl mK)), (aMj, .inl (K.2 3, 12, .inr (.inr (.inr (.inr (zo aMr 12)))))), (aMc, .inl (K.2 0, 12, .inl mC)), (aMw, .inl (K.2 0, 12, .inl mW))] ++ zR12Z K aMr mJ) 96 832 := fun pc lv d => hE () _ rfl pc lv d
  clear hE
  unfold fX6_odd at hres
  show zj G 0 [(0, .ref aM)] [] ([(aM, .inr (6, [.ref aMk, .ref aMj, .int mN, .int mS, .ref aMc, .ref aMw, .int mX, .int mT])), (aMk, .inl (K.2 0, 12, .inl mK)), (aMj, .inl (K.2 3, 12, .inr (.inr (.inr (.inr (zo aMr 12)))))), (aMc, .inl (K.2 0, 12, .inl mC)), (aMw, .inl (K.2 0, 12, .inl mW))] ++ zR12Z K aMr mJ) 0 0
  refine z_iconst 0 hG dX6_odd_0 (by decide) ?_
  refine z_istore_n (lv' := [(1, .int 0), (0, .ref aM)]) hG dX6_odd_1 (by decide) rfl ?_
  refine z_iconst 0 hG dX6_odd_2 (by decide) ?_
  refine z_istore_n (lv' := [(2, .int 0), (1, .int 0), (0, .ref aM)]) hG dX6_odd_3 (by decide) rfl ?_
  obtain ⟨e5, hx, hres⟩ := z_bind hres
  refine z_lv [2, 1, 0] (lv' := [(0, .ref aM), (1, .int 0), (2, .int 0)]) rfl ?_
  refine z_loopA hx (fun s3 : Int32 × Int32 => [(0, .ref aM), (1, .int s3.1), (2, .int s3.2)]) (fun s3 : Int32 × Int32 => ([(aM, .inr (6, [.ref aMk, .ref aMj, .int mN, .int mS, .ref aMc, .ref aMw, .int mX, .int mT])), (aMk, .inl (K.2 0, 12, .inl mK)), (aMj, .inl (K.2 3, 12, .inr (.inr (.inr (.inr (zo aMr 12)))))), (aMc, .inl (K.2 0, 12, .inl mC)), (aMw, .inl (K.2 0, 12, .inl mW))] ++ zR12Z K aMr mJ)) 3 26 (fun e5 : Int32 × Int32 => zj G 44 [(0, .ref aM), (1, .int e5.1), (2, .int e5.2)] [] ([(aM, .inr (6, [.ref aMk, .ref aMj, .int mN, .int mS, .ref aMc, .ref aMw, .int mX, .int mT])), (aMk, .inl (K.2 0, 12, .inl mK)), (aMj, .inl (K.2 3, 12, .inr (.inr (.inr (.inr (zo aMr 12)))))), (aMc, .inl (K.2 0, 12, .inl mC)), (aMw, .inl (K.2 0, 12, .inl mW))] ++ zR12Z K aMr mJ) 96 832) ?_ ?_
  · refine z_iload_n hG dX6_odd_44 1 rfl ?_
    obtain rfl := Option.some.inj hres
    exact (hR _ _ dX6_odd_45)
  · intro i6 s3 w4 hi hres hX hB
    unfold sX6_odd_4 at hres
    replace hB : ∀ (z0 : Int32) (z1 : Int32), w4 = .inr (z0, z1) → zj G 4 [(0, .ref aM), (1, .int z0), (2, .int z1)] [] ([(aM, .inr (6, [.ref aMk, .ref aMj, .int mN, .int mS, .ref aMc, .ref aMw, .int mX, .int mT])), (aMk, .inl (K.2 0, 12, .inl mK)), (aMj, .inl (K.2 3, 12, .inr (.inr (.inr (.inr (zo aMr 12)))))), (aMc, .inl (K.2 0, 12, .inl mC)), (aMw, .inl (K.2 0, 12, .inl mW))] ++ zR12Z K aMr mJ) (0 + 3 * (i6 + 1)) (0 + 26 * (i6 + 1)) := fun z0 z1 h => hB (z0, z1) h
    replace hX : ∀ (z0 : Int32) (z1 : Int32), w4 = .inl (z0, z1) → zj G 44 [(0, .ref aM), (1, .int z0), (2, .int z1)] [] ([(aM, .inr (6, [.ref aMk, .ref aMj, .int mN, .int mS, .ref aMc, .ref aMw, .int mX, .int mT])), (aMk, .inl (K.2 0, 12, .inl mK)), (aMj, .inl (K.2 3, 12, .inr (.inr (.inr (.inr (zo aMr 12)))))), (aMc, .inl (K.2 0, 12, .inl mC)), (aMw, .inl (K.2 0, 12, .inl mW))] ++ zR12Z K aMr mJ) 96 832 := fun z0 z1 h => hX (z0, z1) h
    refine z_iload_n hG dX6_odd_4 2 rfl ?_
    refine z_aload_n hG dX6_odd_5 0 rfl ?_
    refine z_get (ci := 6) (C := RX6) (T := TX6) (N := 8) hG dX6_odd_6 iX6_odd_X6 2 (by decide) mX6_odd_0 rfl rfl 0 rfl rfl ?_
    refine z_icmp_ge 44 hG dX6_odd_9 (by decide) (fun c => ?_) (fun c => ?_)
    · replace hres := z_ifp c hres
      exact (z_wid (by omega) (by omega) (hX s3.1 s3.2 (Option.some.inj hres).symm))
    · replace hres := z_ifn c hres
      refine z_aload_n hG dX6_odd_12 0 rfl ?_
      refine z_iload_n hG dX6_odd_13 2 rfl ?_
      obtain ⟨v7, hv, hres⟩ := z_bind hres
      refine z_callV (As := [.int s3.2]) (rest := []) (wr := ([] : va_W)) (ws' := (fun _ : Unit => ([(aM, .inr (6, [.ref aMk, .ref aMj, .int mN, .int mS, .ref aMc, .ref aMw, .int mX, .int mT])), (aMk, .inl (K.2 0, 12, .inl mK)), (aMj, .inl (K.2 3, 12, .inr (.inr (.inr (.inr (zo aMr 12)))))), (aMc, .inl (K.2 0, 12, .inl mC)), (aMw, .inl (K.2 0, 12, .inl mW))] ++ zR12Z K aMr mJ))) (stk := (fun _ : Unit => [.int v7])) (kc' := ((0 + 3 * i6) + 3)) (ks' := ((0 + 26 * i6) + 26)) (n := 1) (C := RX6) (ci := 6) hG dX6_odd_14 (kX6_oddWalk _ K aM aMk aMj aMc aMw aMr mN mS mX mT mK mC mW mJ s3.2 v7 hv) gX6_odd_X6_oddWalk rfl rfl rfl ⟨rfl, by decide, by decide, rfl⟩ ⟨by decide, by decide⟩ (Nat.le_of_ble_eq_true rfl) ⟨(by show _ ≤ 96; omega), (by show _ ≤ 832; omega)⟩ [0, 1, 2, 3, 4, 5, 6, 7, 8, 9, 10, 11, 12, 13, 14, 15, 16] [] [0, 1, 2, 3, 4, 5, 6, 7, 8, 9, 10, 11, 12, 13, 14, 15, 16] rfl rfl rfl rfl (by decide) rfl (fun _ => rfl) (fun _ => rfl) rfl rfl rfl 0 rfl rfl rfl rfl (fun _ => ?_)
      refine z_istore_n (lv' := [(3, .int v7), (0, .ref aM), (1, .int s3.1), (2, .int s3.2)]) hG dX6_odd_17 (by decide) rfl ?_
      refine z_iload_n hG dX6_odd_18 0 rfl ?_
      refine z_iconst (-1) hG dX6_odd_19 (by decide) ?_
      refine z_icmp_eq 36 hG dX6_odd_20 (by decide) (fun c => ?_) (fun c => ?_)
      · replace hres := z_ifp c hres
        refine z_iload_n hG dX6_odd_36 2 rfl ?_
        refine z_istore_n (lv' := [(1, .int s3.1), (3, .int v7), (0, .ref aM), (2, .int s3.2)]) hG dX6_odd_37 (by decide) rfl ?_
        refine z_iinc (s3.2 + 1) (lv' := [(2, .int (s3.2 + 1)), (1, .int s3.1), (3, .int v7), (0, .ref aM)]) hG dX6_odd_38 3 rfl rfl (by decide) rfl ?_
        refine z_goto 4 hG dX6_odd_41 (by decide) ?_
        exact (z_lv [3, 1, 0] rfl (z_wid (by omega) (by omega) (hB s3.1 (s3.2 + 1) (Option.some.inj hres).symm)))
      · replace hres := z_ifn c hres
        refine z_iload_n hG dX6_odd_23 2 rfl ?_
        refine z_if_eq 32 hG dX6_odd_24 (by decide) (fun c => ?_) (fun c => ?_)
        · replace hres := z_ifp c hres
          refine z_iload_n hG dX6_odd_32 0 rfl ?_
          refine z_goto 37 hG dX6_odd_33 (by decide) ?_
          refine z_istore_n (lv' := [(1, .int v7), (3, .int v7), (0, .ref aM), (2, .int s3.2)]) hG dX6_odd_37 (by decide) rfl ?_
          refine z_iinc (s3.2 + 1) (lv' := [(2, .int (s3.2 + 1)), (1, .int v7), (3, .int v7), (0, .ref aM)]) hG dX6_odd_38 3 rfl rfl (by decide) rfl ?_
          refine z_goto 4 hG dX6_odd_41 (by decide) ?_
          exact (z_lv [3, 1, 0] rfl (z_wid (by omega) (by omega) (hB v7 (s3.2 + 1) (Option.some.inj hres).symm)))
        · replace hres := z_ifn c hres
          refine z_iload_n hG dX6_odd_27 0 rfl ?_
          refine z_iload_n hG dX6_odd_28 2 rfl ?_
          refine z_icmp_ge 36 hG dX6_odd_29 (by decide) (fun c => ?_) (fun c => ?_)
          · replace hres := z_ifp c hres
            refine z_iload_n hG dX6_odd_36 2 rfl ?_
            refine z_istore_n (lv' := [(1, .int s3.1), (3, .int v7), (0, .ref aM), (2, .int s3.2)]) hG dX6_odd_37 (by decide) rfl ?_
            refine z_iinc (s3.2 + 1) (lv' := [(2, .int (s3.2 + 1)), (1, .int s3.1), (3, .int v7), (0, .ref aM)]) hG dX6_odd_38 3 rfl rfl (by decide) rfl ?_
            refine z_goto 4 hG dX6_odd_41 (by decide) ?_
            exact (z_lv [3, 1, 0] rfl (z_wid (by omega) (by omega) (hB s3.1 (s3.2 + 1) (Option.some.inj hres).symm)))
          · replace hres := z_ifn c hres
            refine z_iload_n hG dX6_odd_32 0 rfl ?_
            refine z_goto 37 hG dX6_odd_33 (by decide) ?_
            refine z_istore_n (lv' := [(1, .int v7), (3, .int v7), (0, .ref aM), (2, .int s3.2)]) hG dX6_odd_37 (by decide) rfl ?_
            refine z_iinc (s3.2 + 1) (lv' := [(2, .int (s3.2 + 1)), (1, .int v7), (3, .int v7), (0, .ref aM)]) hG dX6_odd_38 3 rfl rfl (by decide) rfl ?_
            refine z_goto 4 hG dX6_odd_41 (by decide) ?_
            exact (z_lv [3, 1, 0] rfl (z_wid (by omega) (by omega) (hB v7 (s3.2 + 1) (Option.some.inj hres).symm)))

theorem dX6_isTwoColours_0 : decode cX6_isTwoColours 0 = .ok (.aload_n 0, 1) := by decide +kernel
theorem dX6_isTwoColours_1 : decode cX6_isTwoColours 1 = .ok (.iconst 0, 1) := by decide +kernel
theorem dX6_isTwoColours_2 : decode cX6_isTwoColours 2 = .ok (.putfield 28, 3) := by decide +kernel
theorem dX6_isTwoColours_5 : decode cX6_isTwoColours 5 = .ok (.aload_n 0, 1) := by decide +kernel
theorem dX6_isTwoColours_6 : decode cX6_isTwoColours 6 = .ok (.invokevirtual 91, 3) := by decide +kernel
theorem dX6_isTwoColours_9 : decode cX6_isTwoColours 9 = .ok (.ifCond .ne 7, 3) := by decide +kernel
theorem dX6_isTwoColours_12 : decode cX6_isTwoColours 12 = .ok (.iconst 1, 1) := by decide +kernel
theorem dX6_isTwoColours_13 : decode cX6_isTwoColours 13 = .ok (.goto 4, 3) := by decide +kernel
theorem dX6_isTwoColours_16 : decode cX6_isTwoColours 16 = .ok (.iconst 0, 1) := by decide +kernel
theorem dX6_isTwoColours_17 : decode cX6_isTwoColours 17 = .ok (.ireturn, 1) := by decide +kernel
set_option maxRecDepth 20000 in
theorem ggX6_isTwoColours_X6_odd : GoodIn wsX6_isTwoColours wsX6_odd := goodIn_r _ [6, 7, 8, 9, 10, 5, 11, 12, 13, 14, 15, 16, 17, 18, 19, 20, 21, 22, 23, 24, 25, 26] (by decide +kernel) (by decide +kernel)
set_option maxRecDepth 20000 in
theorem gX6_isTwoColours_X6_odd : GoodIn wsX6_isTwoColours (wsV RX6 91 RX6 yX6_odd wsX6_odd) := goodIn_app (goodIn_of _ (by decide +kernel)) ggX6_isTwoColours_X6_odd
theorem mX6_isTwoColours_0 : Cond.fieldLink RX6 28 "LayerwaysModel" "thrown" "I" ∈ wsX6_isTwoColours := by decide +kernel
theorem iX6_isTwoColours_X6 : ∀ w ∈ u_ws RX6 TX6 8, w ∈ wsX6_isTwoColours := by decide +kernel
def fX6_isTwoColours (mN : Int32) (mJ : (Nat → Nat → Int32)) : Option (Int32 × Int32) := (fX6_odd mN mJ).bind fun v1 => if v1 = 0 then some (1, 0) else some (0, 0)
set_option maxRecDepth 100000 in
set_option maxHeartbeats 4000000 in
theorem kX6_isTwoColours (l : Launch) (K : zK) (aM : Nat) (aMk : Nat) (aMj : Nat) (aMc : Nat) (aMw : Nat) (aMr : (Nat → Nat))  (mN : Int32) (mS : Int32) (mX : Int32) (mT : Int32) (mK : (Nat → Int32)) (mC : (Nat → Int32)) (mW : (Nat → Int32)) (mJ : (Nat → Nat → Int32)) (r : Int32 × Int32) (hres : fX6_isTwoColours mN mJ = some r) : zM l K yX6_isTwoColours wsX6_isTwoColours ({ frames := 3, cells := 96, slots := 832, locals := 69 }) [.ref aM] ([(aM, .inr (6, [.ref aMk, .ref aMj, .int mN, .int mS, .ref aMc, .ref aMw, .int mX, .int mT])), (aMk, .inl (K.2 0, 12, .inl mK)), (aMj, .inl (K.2 3, 12, .inr (.inr (.inr (.inr (zo aMr 12)))))), (aMc, .inl (K.2 0, 12, .inl mC)), (aMw, .inl (K.2 0, 12, .inl mW))] ++ zR12Z K aMr mJ) (fun _ : Unit => some (.int r.1)) (fun _ : Unit => ([(aM, .inr (6, [.ref aMk, .ref aMj, .int mN, .int mS, .ref aMc, .ref aMw, .int mX, .int r.2])), (aMk, .inl (K.2 0, 12, .inl mK)), (aMj, .inl (K.2 3, 12, .inr (.inr (.inr (.inr (zo aMr 12)))))), (aMc, .inl (K.2 0, 12, .inl mC)), (aMw, .inl (K.2 0, 12, .inl mW))] ++ zR12Z K aMr mJ)) 96 832 := by
  refine zM.intZ (cc := cX6_isTwoColours) (maxL := 1) (ret := (some .boolean)) rfl (by decide) (Nat.le_of_ble_eq_true rfl) rfl ?_
  intro G hGl hG hN hE
  have hR : ∀ (pc : Nat) (lv : zL), narrow .boolean (.int r.1) = .int r.1 → decode cX6_isTwoColours pc = .ok (.ireturn, 1) → zj G pc lv [.int r.1] ([(aM, .inr (6, [.ref aMk, .ref aMj, .int mN, .int mS, .ref aMc, .ref aMw, .int mX, .int r.2])), (aMk, .inl (K.2 0, 12, .inl mK)), (aMj, .inl (K.2 3, 12, .inr (.inr (.inr (.inr (zo aMr 12)))))), (aMc, .inl (K.2 0, 12, .inl mC)), (aMw, .inl (K.2 0, 12, .inl mW))] ++ zR12Z K aMr mJ) 96 832 := fun pc lv n d => hE () _ rfl n pc lv d
  clear hE
  unfold fX6_isTwoColours at hres
  show zj G 0 [(0, .ref aM)] [] ([(aM, .inr (6, [.ref aMk, .ref aMj, .int mN, .int mS, .ref aMc, .ref aMw, .int mX, .int mT])), (aMk, .inl (K.2 0, 12, .inl mK)), (aMj, .inl (K.2 3, 12, .inr (.inr (.inr (.inr (zo aMr 12)))))), (aMc, .inl (K.2 0, 12, .inl mC)), (aMw, .inl (K.2 0, 12, .inl mW))] ++ zR12Z K aMr mJ) 0 0
  refine z_aload_n hG dX6_isTwoColours_0 0 rfl ?_
  refine z_iconst 0 hG dX6_isTwoColours_1 (by decide) ?_
  refine z_put (ci := 6) (C := RX6) (T := TX6) (N := 8) (ws' := ([(aM, .inr (6, [.ref aMk, .ref aMj, .int mN, .int mS, .ref aMc, .ref aMw, .int mX, .int 0])), (aMk, .inl (K.2 0, 12, .inl mK)), (aMj, .inl (K.2 3, 12, .inr (.inr (.inr (.inr (zo aMr 12)))))), (aMc, .inl (K.2 0, 12, .inl mC)), (aMw, .inl (K.2 0, 12, .inl mW))] ++ zR12Z K aMr mJ)) hG dX6_isTwoColours_2 iX6_isTwoColours_X6 tyX6_ok nmX6 7 (by decide) mX6_isTwoColours_0 rfl rfl rfl rfl rfl rfl 0 rfl (Nat.le_of_ble_eq_true rfl) rfl ?_
  refine z_aload_n hG dX6_isTwoColours_5 0 rfl ?_
  obtain ⟨v1, hv, hres⟩ := z_bind hres
  refine z_callV (As := []) (rest := []) (wr := ([] : va_W)) (ws' := (fun _ : Unit => ([(aM, .inr (6, [.ref aMk, .ref aMj, .int mN, .int mS, .ref aMc, .ref aMw, .int mX, .int 0])), (aMk, .inl (K.2 0, 12, .inl mK)), (aMj, .inl (K.2 3, 12, .inr (.inr (.inr (.inr (zo aMr 12)))))), (aMc, .inl (K.2 0, 12, .inl mC)), (aMw, .inl (K.2 0, 12, .inl mW))] ++ zR12Z K aMr mJ))) (stk := (fun _ : Unit => [.int v1])) (kc' := 96) (ks' := 832) (n := 0) (C := RX6) (ci := 6) hG dX6_isTwoColours_6 (kX6_odd _ K aM aMk aMj aMc aMw aMr mN mS mX 0 mK mC mW mJ v1 hv) gX6_isTwoColours_X6_odd rfl rfl rfl ⟨rfl, by decide, by decide, rfl⟩ ⟨by decide, by decide⟩ (Nat.le_of_ble_eq_true rfl) ⟨(Nat.le_of_ble_eq_true rfl), (Nat.le_of_ble_eq_true rfl)⟩ [0, 1, 2, 3, 4, 5, 6, 7, 8, 9, 10, 11, 12, 13, 14, 15, 16] [] [0, 1, 2, 3, 4, 5, 6, 7, 8, 9, 10, 11, 12, 13, 14, 15, 16] rfl rfl rfl rfl (by decide) rfl (fun _ => rfl) (fun _ => rfl) rfl rfl rfl 0 rfl rfl rfl rfl (fun _ => ?_)
  refine z_if_ne 16 hG dX6_isTwoColours_9 (by decide) (fun c => ?_) (fun c => ?_)
  · replace hres := z_ifn c hres
    refine z_iconst 0 hG dX6_isTwoColours_16 (by decide) ?_
    obtain rfl := Option.some.inj hres
    exact (hR _ _ (z_nar01 (Or.inl rfl)) dX6_isTwoColours_17)
  · replace hres := z_ifp c hres
    refine z_iconst 1 hG dX6_isTwoColours_12 (by decide) ?_
    refine z_goto 17 hG dX6_isTwoColours_13 (by decide) ?_
    obtain rfl := Option.some.inj hres
    exact (hR _ _ (z_nar01 (Or.inr rfl)) dX6_isTwoColours_17)

theorem dX6_colour_0 : decode cX6_colour 0 = .ok (.aload_n 0, 1) := by decide +kernel
theorem dX6_colour_1 : decode cX6_colour 1 = .ok (.aload_n 0, 1) := by decide +kernel
theorem dX6_colour_2 : decode cX6_colour 2 = .ok (.iload_n 1, 1) := by decide +kernel
theorem dX6_colour_3 : decode cX6_colour 3 = .ok (.invokevirtual 38, 3) := by decide +kernel
theorem dX6_colour_6 : decode cX6_colour 6 = .ok (.aload_n 0, 1) := by decide +kernel
theorem dX6_colour_7 : decode cX6_colour 7 = .ok (.invokevirtual 91, 3) := by decide +kernel
theorem dX6_colour_10 : decode cX6_colour 10 = .ok (.ifCond .ne 7, 3) := by decide +kernel
theorem dX6_colour_13 : decode cX6_colour 13 = .ok (.iconst 1, 1) := by decide +kernel
theorem dX6_colour_14 : decode cX6_colour 14 = .ok (.goto 4, 3) := by decide +kernel
theorem dX6_colour_17 : decode cX6_colour 17 = .ok (.iconst 0, 1) := by decide +kernel
theorem dX6_colour_18 : decode cX6_colour 18 = .ok (.iconst 1, 1) := by decide +kernel
theorem dX6_colour_19 : decode cX6_colour 19 = .ok (.invokevirtual 42, 3) := by decide +kernel
theorem dX6_colour_22 : decode cX6_colour 22 = .ok (.ifCond .eq 27, 3) := by decide +kernel
theorem dX6_colour_25 : decode cX6_colour 25 = .ok (.aload_n 0, 1) := by decide +kernel
theorem dX6_colour_26 : decode cX6_colour 26 = .ok (.aload_n 0, 1) := by decide +kernel
theorem dX6_colour_27 : decode cX6_colour 27 = .ok (.aload_n 0, 1) := by decide +kernel
theorem dX6_colour_28 : decode cX6_colour 28 = .ok (.iload_n 1, 1) := by decide +kernel
theorem dX6_colour_29 : decode cX6_colour 29 = .ok (.invokevirtual 34, 3) := by decide +kernel
theorem dX6_colour_32 : decode cX6_colour 32 = .ok (.invokevirtual 79, 3) := by decide +kernel
theorem dX6_colour_35 : decode cX6_colour 35 = .ok (.invokevirtual 52, 3) := by decide +kernel
theorem dX6_colour_38 : decode cX6_colour 38 = .ok (.aload_n 0, 1) := by decide +kernel
theorem dX6_colour_39 : decode cX6_colour 39 = .ok (.iload_n 1, 1) := by decide +kernel
theorem dX6_colour_40 : decode cX6_colour 40 = .ok (.invokevirtual 34, 3) := by decide +kernel
theorem dX6_colour_43 : decode cX6_colour 43 = .ok (.iaload, 1) := by decide +kernel
theorem dX6_colour_44 : decode cX6_colour 44 = .ok (.iconst 2, 1) := by decide +kernel
theorem dX6_colour_45 : decode cX6_colour 45 = .ok (.irem, 1) := by decide +kernel
theorem dX6_colour_46 : decode cX6_colour 46 = .ok (.goto 4, 3) := by decide +kernel
theorem dX6_colour_49 : decode cX6_colour 49 = .ok (.iconst 0, 1) := by decide +kernel
theorem dX6_colour_50 : decode cX6_colour 50 = .ok (.ireturn, 1) := by decide +kernel
set_option maxRecDepth 20000 in
theorem ggX6_colour_X6_is : GoodIn wsX6_colour wsX6_is := goodIn_r _ [5, 6, 7, 8, 4, 9, 10, 11, 40, 41, 42, 43, 44, 45, 46, 47] (by decide +kernel) (by decide +kernel)
set_option maxRecDepth 20000 in
theorem gX6_colour_X6_is : GoodIn wsX6_colour (wsV RX6 38 RX6 yX6_is wsX6_is) := goodIn_app (goodIn_of _ (by decide +kernel)) ggX6_colour_X6_is
set_option maxRecDepth 20000 in
theorem ggX6_colour_X6_odd : GoodIn wsX6_colour wsX6_odd := goodIn_r _ [15, 10, 16, 17, 18, 4, 19, 20, 21, 22, 23, 24, 25, 26, 40, 41, 42, 43, 44, 45, 46, 47] (by decide +kernel) (by decide +kernel)
set_option maxRecDepth 20000 in
theorem gX6_colour_X6_odd : GoodIn wsX6_colour (wsV RX6 91 RX6 yX6_odd wsX6_odd) := goodIn_app (goodIn_of _ (by decide +kernel)) ggX6_colour_X6_odd
set_option maxRecDepth 20000 in
theorem ggX6_colour_X6_can : GoodIn wsX6_colour wsX6_can := goodIn_r _ [30, 31, 40, 41, 42, 43, 44, 45, 46, 47] (by decide +kernel) (by decide +kernel)
set_option maxRecDepth 20000 in
theorem gX6_colour_X6_can : GoodIn wsX6_colour (wsV RX6 42 RX6 yX6_can wsX6_can) := goodIn_app (goodIn_of _ (by decide +kernel)) ggX6_colour_X6_can
set_option maxRecDepth 20000 in
theorem ggX6_colour_X6_at : GoodIn wsX6_colour wsX6_at := goodIn_r _ [9, 10, 11, 40, 41, 42, 43, 44, 45, 46, 47] (by decide +kernel) (by decide +kernel)
set_option maxRecDepth 20000 in
theorem gX6_colour_X6_at : GoodIn wsX6_colour (wsV RX6 34 RX6 yX6_at wsX6_at) := goodIn_app (goodIn_of _ (by decide +kernel)) ggX6_colour_X6_at
set_option maxRecDepth 20000 in
theorem ggX6_colour_X6_head : GoodIn wsX6_colour wsX6_head := goodIn_r _ [35, 10, 36, 37, 38, 4, 39, 25, 26, 40, 41, 42, 43, 44, 45, 46, 47] (by decide +kernel) (by decide +kernel)
set_option maxRecDepth 20000 in
theorem gX6_colour_X6_head : GoodIn wsX6_colour (wsV RX6 79 RX6 yX6_head wsX6_head) := goodIn_app (goodIn_of _ (by decide +kernel)) ggX6_colour_X6_head
set_option maxRecDepth 20000 in
theorem ggX6_colour_X6_lengths : GoodIn wsX6_colour wsX6_lengths := goodIn_r _ [39, 25, 10, 26, 40, 41, 42, 43, 44, 45, 46, 47] (by decide +kernel) (by decide +kernel)
set_option maxRecDepth 20000 in
theorem gX6_colour_X6_lengths : GoodIn wsX6_colour (wsV RX6 52 RX6 yX6_lengths wsX6_lengths) := goodIn_app (goodIn_of _ (by decide +kernel)) ggX6_colour_X6_lengths
def fX6_colour (mN : Int32) (mK : (Nat → Int32)) (mJ : (Nat → Nat → Int32)) (p0 : Int32) : Option (Int32 × Int32) := (fX6_is mN mK p0).bind fun v1 => (fX6_odd mN mJ).bind fun v2 => ((if v2 = 0 then some 1 else some 0) : Option Int32).bind fun v3 => (fX6_can v1 v3 1).bind fun v4 => if v4.1 = 0 then some (0, v4.2) else (fX6_at mN mK p0).bind fun v5 => (fX6_head mN mJ v5).bind fun v6 => (fX6_lengths mN mJ v6).bind fun v7 => (fX6_at mN mK p0).bind fun v9 => if zin v9 12 then some (((v7 v9.toNatClampNeg) - (v7 v9.toNatClampNeg) / 2 * 2), v4.2) else none
set_option maxRecDepth 100000 in
set_option maxHeartbeats 4000000 in
theorem kX6_colour (l : Launch) (K : zK) (aM : Nat) (aMk : Nat) (aMj : Nat) (aMc : Nat) (aMw : Nat) (aMr : (Nat → Nat))  (mN : Int32) (mS : Int32) (mX : Int32) (mT : Int32) (mK : (Nat → Int32)) (mC : (Nat → Int32)) (mW : (Nat → Int32)) (mJ : (Nat → Nat → Int32)) (p0 : Int32) (r : Int32 × Int32) (hres : fX6_colour mN mK mJ p0 = some r) : zM l K yX6_colour wsX6_colour ({ frames := 3, cells := 98, slots := 856, locals := 69 }) [.ref aM, .int p0] ([(aM, .inr (6, [.ref aMk, .ref aMj, .int mN, .int mS, .ref aMc, .ref aMw, .int mX, .int mT])), (aMk, .inl (K.2 0, 12, .inl mK)), (aMj, .inl (K.2 3, 12, .inr (.inr (.inr (.inr (zo aMr 12)))))), (aMc, .inl (K.2 0, 12, .inl mC)), (aMw, .inl (K.2 0, 12, .inl mW))] ++ zR12Z K aMr mJ) (fun _ : Unit => some (.int r.1)) (fun _ : Unit => ([(aM, .inr (6, [.ref aMk, .ref aMj, .int mN, .int mS, .ref aMc, .ref aMw, .int mX, .int r.2])), (aMk, .inl (K.2 0, 12, .inl mK)), (aMj, .inl (K.2 3, 12, .inr (.inr (.inr (.inr (zo aMr 12)))))), (aMc, .inl (K.2 0, 12, .inl mC)), (aMw, .inl (K.2 0, 12, .inl mW))] ++ zR12Z K aMr mJ)) 98 856 := by
  refine zM.intI (cc := cX6_colour) (maxL := 2) (ret := (some .int)) rfl (by decide) (Nat.le_of_ble_eq_true rfl) rfl ?_
  intro G hGl hG hN hE
  have hR : ∀ (pc : Nat) (lv : zL), decode cX6_colour pc = .ok (.ireturn, 1) → zj G pc lv [.int r.1] ([(aM, .inr (6, [.ref aMk, .ref aMj, .int mN, .int mS, .ref aMc, .ref aMw, .int mX, .int r.2])), (aMk, .inl (K.2 0, 12, .inl mK)), (aMj, .inl (K.2 3, 12, .inr (.inr (.inr (.inr (zo aMr 12)))))), (aMc, .inl (K.2 0, 12, .inl mC)), (aMw, .inl (K.2 0, 12, .inl mW))] ++ zR12Z K aMr mJ) 98 856 := fun pc lv d => hE () _ rfl pc lv d
  clear hE
  unfold fX6_colour at hres
  show zj G 0 [(0, .ref aM), (1, .int p0)] [] ([(aM, .inr (6, [.ref aMk, .ref aMj, .int mN, .int mS, .ref aMc, .ref aMw, .int mX, .int mT])), (aMk, .inl (K.2 0, 12, .inl mK)), (aMj, .inl (K.2 3, 12, .inr (.inr (.inr (.inr (zo aMr 12)))))), (aMc, .inl (K.2 0, 12, .inl mC)), (aMw, .inl (K.2 0, 12, .inl mW))] ++ zR12Z K aMr mJ) 0 0
  refine z_aload_n hG dX6_colour_0 0 rfl ?_
  refine z_aload_n hG dX6_colour_1 0 rfl ?_
  refine z_iload_n hG dX6_colour_2 1 rfl ?_
  obtain ⟨v1, hv, hres⟩ := z_bind hres
  refine z_callV (As := [.int p0]) (rest := [.ref aM]) (wr := ([] : va_W)) (ws' := (fun _ : Unit => ([(aM, .inr (6, [.ref aMk, .ref aMj, .int mN, .int mS, .ref aMc, .ref aMw, .int mX, .int mT])), (aMk, .inl (K.2 0, 12, .inl mK)), (aMj, .inl (K.2 3, 12, .inr (.inr (.inr (.inr (zo aMr 12)))))), (aMc, .inl (K.2 0, 12, .inl mC)), (aMw, .inl (K.2 0, 12, .inl mW))] ++ zR12Z K aMr mJ))) (stk := (fun _ : Unit => [.int v1, .ref aM])) (kc' := 0) (ks' := 0) (n := 1) (C := RX6) (ci := 6) hG dX6_colour_3 (kX6_is _ K aM aMk aMj aMc aMw aMr mN mS mX mT mK mC mW mJ p0 v1 hv) gX6_colour_X6_is rfl rfl rfl ⟨rfl, by decide, by decide, rfl⟩ ⟨by decide, by decide⟩ (Nat.le_of_ble_eq_true rfl) ⟨(Nat.le_of_ble_eq_true rfl), (Nat.le_of_ble_eq_true rfl)⟩ [0, 1, 2, 3, 4, 5, 6, 7, 8, 9, 10, 11, 12, 13, 14, 15, 16] [] [0, 1, 2, 3, 4, 5, 6, 7, 8, 9, 10, 11, 12, 13, 14, 15, 16] rfl rfl rfl rfl (by decide) rfl (fun _ => rfl) (fun _ => rfl) rfl rfl rfl 0 rfl rfl rfl rfl (fun _ => ?_)
  refine z_aload_n hG dX6_colour_6 0 rfl ?_
  obtain ⟨v2, hv, hres⟩ := z_bind hres
  refine z_callV (As := []) (rest := [.int v1, .ref aM]) (wr := ([] : va_W)) (ws' := (fun _ : Unit => ([(aM, .inr (6, [.ref aMk, .ref aMj, .int mN, .int mS, .ref aMc, .ref aMw, .int mX, .int mT])), (aMk, .inl (K.2 0, 12, .inl mK)), (aMj, .inl (K.2 3, 12, .inr (.inr (.inr (.inr (zo aMr 12)))))), (aMc, .inl (K.2 0, 12, .inl mC)), (aMw, .inl (K.2 0, 12, .inl mW))] ++ zR12Z K aMr mJ))) (stk := (fun _ : Unit => [.int v2, .int v1, .ref aM])) (kc' := 96) (ks' := 832) (n := 0) (C := RX6) (ci := 6) hG dX6_colour_7 (kX6_odd _ K aM aMk aMj aMc aMw aMr mN mS mX mT mK mC mW mJ v2 hv) gX6_colour_X6_odd rfl rfl rfl ⟨rfl, by decide, by decide, rfl⟩ ⟨by decide, by decide⟩ (Nat.le_of_ble_eq_true rfl) ⟨(Nat.le_of_ble_eq_true rfl), (Nat.le_of_ble_eq_true rfl)⟩ [0, 1, 2, 3, 4, 5, 6, 7, 8, 9, 10, 11, 12, 13, 14, 15, 16] [] [0, 1, 2, 3, 4, 5, 6, 7, 8, 9, 10, 11, 12, 13, 14, 15, 16] rfl rfl rfl rfl (by decide) rfl (fun _ => rfl) (fun _ => rfl) rfl rfl rfl 0 rfl rfl rfl rfl (fun _ => ?_)
  obtain ⟨v3, hv, hres⟩ := z_bind hres
  have J : zj G 18 [(0, .ref aM), (1, .int p0)] [.int v3, .int v1, .ref aM] ([(aM, .inr (6, [.ref aMk, .ref aMj, .int mN, .int mS, .ref aMc, .ref aMw, .int mX, .int mT])), (aMk, .inl (K.2 0, 12, .inl mK)), (aMj, .inl (K.2 3, 12, .inr (.inr (.inr (.inr (zo aMr 12)))))), (aMc, .inl (K.2 0, 12, .inl mC)), (aMw, .inl (K.2 0, 12, .inl mW))] ++ zR12Z K aMr mJ) 96 832 := by
    refine z_iconst 1 hG dX6_colour_18 (by decide) ?_
    obtain ⟨v4, hv, hres⟩ := z_bind hres
    refine z_callV (As := [.int v1, .int v3, .int 1]) (rest := []) (wr := ([(aMk, .inl (K.2 0, 12, .inl mK)), (aMj, .inl (K.2 3, 12, .inr (.inr (.inr (.inr (zo aMr 12)))))), (aMc, .inl (K.2 0, 12, .inl mC)), (aMw, .inl (K.2 0, 12, .inl mW))] ++ zR12Z K aMr mJ)) (ws' := (fun _ : Unit => ([(aM, .inr (6, [.ref aMk, .ref aMj, .int mN, .int mS, .ref aMc, .ref aMw, .int mX, .int v4.2])), (aMk, .inl (K.2 0, 12, .inl mK)), (aMj, .inl (K.2 3, 12, .inr (.inr (.inr (.inr (zo aMr 12)))))), (aMc, .inl (K.2 0, 12, .inl mC)), (aMw, .inl (K.2 0, 12, .inl mW))] ++ zR12Z K aMr mJ))) (stk := (fun _ : Unit => [.int v4.1])) (kc' := 96) (ks' := 832) (n := 3) (C := RX6) (ci := 6) hG dX6_colour_19 (kX6_can _ K aM aMk aMj aMc aMw mN mS mX mT v1 v3 1 v4 hv) gX6_colour_X6_can rfl rfl rfl ⟨rfl, by decide, by decide, rfl⟩ ⟨by decide, by decide⟩ (Nat.le_of_ble_eq_true rfl) ⟨(Nat.le_of_ble_eq_true rfl), (Nat.le_of_ble_eq_true rfl)⟩ [0] [1, 2, 3, 4, 5, 6, 7, 8, 9, 10, 11, 12, 13, 14, 15, 16] [16, 0, 1, 2, 3, 4, 5, 6, 7, 8, 9, 10, 11, 12, 13, 14, 15] rfl rfl rfl rfl (by decide) rfl (fun _ => rfl) (fun _ => rfl) rfl rfl rfl 0 rfl rfl rfl rfl (fun _ => ?_)
    refine z_if_eq 49 hG dX6_colour_22 (by decide) (fun c => ?_) (fun c => ?_)
    · replace hres := z_ifp c hres
      refine z_iconst 0 hG dX6_colour_49 (by decide) ?_
      obtain rfl := Option.some.inj hres
      exact (z_wid (Nat.le_of_ble_eq_true rfl) (Nat.le_of_ble_eq_true rfl) (hR _ _ dX6_colour_50))
    · replace hres := z_ifn c hres
      refine z_aload_n hG dX6_colour_25 0 rfl ?_
      refine z_aload_n hG dX6_colour_26 0 rfl ?_
      refine z_aload_n hG dX6_colour_27 0 rfl ?_
      refine z_iload_n hG dX6_colour_28 1 rfl ?_
      obtain ⟨v5, hv, hres⟩ := z_bind hres
      refine z_callV (As := [.int p0]) (rest := [.ref aM, .ref aM]) (wr := ([] : va_W)) (ws' := (fun _ : Unit => ([(aM, .inr (6, [.ref aMk, .ref aMj, .int mN, .int mS, .ref aMc, .ref aMw, .int mX, .int v4.2])), (aMk, .inl (K.2 0, 12, .inl mK)), (aMj, .inl (K.2 3, 12, .inr (.inr (.inr (.inr (zo aMr 12)))))), (aMc, .inl (K.2 0, 12, .inl mC)), (aMw, .inl (K.2 0, 12, .inl mW))] ++ zR12Z K aMr mJ))) (stk := (fun _ : Unit => [.int v5, .ref aM, .ref aM])) (kc' := 96) (ks' := 832) (n := 1) (C := RX6) (ci := 6) hG dX6_colour_29 (kX6_at _ K aM aMk aMj aMc aMw aMr mN mS mX v4.2 mK mC mW mJ p0 v5 hv) gX6_colour_X6_at rfl rfl rfl ⟨rfl, by decide, by decide, rfl⟩ ⟨by decide, by decide⟩ (Nat.le_of_ble_eq_true rfl) ⟨(Nat.le_of_ble_eq_true rfl), (Nat.le_of_ble_eq_true rfl)⟩ [0, 1, 2, 3, 4, 5, 6, 7, 8, 9, 10, 11, 12, 13, 14, 15, 16] [] [0, 1, 2, 3, 4, 5, 6, 7, 8, 9, 10, 11, 12, 13, 14, 15, 16] rfl rfl rfl rfl (by decide) rfl (fun _ => rfl) (fun _ => rfl) rfl rfl rfl 0 rfl rfl rfl rfl (fun _ => ?_)
      obtain ⟨v6, hv, hres⟩ := z_bind hres
      refine z_callV (As := [.int v5]) (rest := [.ref aM]) (wr := ([] : va_W)) (ws' := (fun _ : Unit => ([(aM, .inr (6, [.ref aMk, .ref aMj, .int mN, .int mS, .ref aMc, .ref aMw, .int mX, .int v4.2])), (aMk, .inl (K.2 0, 12, .inl mK)), (aMj, .inl (K.2 3, 12, .inr (.inr (.inr (.inr (zo aMr 12)))))), (aMc, .inl (K.2 0, 12, .inl mC)), (aMw, .inl (K.2 0, 12, .inl mW))] ++ zR12Z K aMr mJ))) (stk := (fun _ : Unit => [.int v6, .ref aM])) (kc' := 97) (ks' := 844) (n := 1) (C := RX6) (ci := 6) hG dX6_colour_32 (kX6_head _ K aM aMk aMj aMc aMw aMr mN mS mX v4.2 mK mC mW mJ v5 v6 hv) gX6_colour_X6_head rfl rfl rfl ⟨rfl, by decide, by decide, rfl⟩ ⟨by decide, by decide⟩ (Nat.le_of_ble_eq_true rfl) ⟨(Nat.le_of_ble_eq_true rfl), (Nat.le_of_ble_eq_true rfl)⟩ [0, 1, 2, 3, 4, 5, 6, 7, 8, 9, 10, 11, 12, 13, 14, 15, 16] [] [0, 1, 2, 3, 4, 5, 6, 7, 8, 9, 10, 11, 12, 13, 14, 15, 16] rfl rfl rfl rfl (by decide) rfl (fun _ => rfl) (fun _ => rfl) rfl rfl rfl 0 rfl rfl rfl rfl (fun _ => ?_)
      obtain ⟨v7, hv, hres⟩ := z_bind hres
      refine z_callV (As := [.int v6]) (rest := []) (wr := ([] : va_W)) (ws' := (fun q8 : Nat => ([(aM, .inr (6, [.ref aMk, .ref aMj, .int mN, .int mS, .ref aMc, .ref aMw, .int mX, .int v4.2])), (aMk, .inl (K.2 0, 12, .inl mK)), (aMj, .inl (K.2 3, 12, .inr (.inr (.inr (.inr (zo aMr 12)))))), (aMc, .inl (K.2 0, 12, .inl mC)), (aMw, .inl (K.2 0, 12, .inl mW))] ++ zR12Z K aMr mJ ++ [(q8, .inl (K.2 0, 12, .inl v7))]))) (stk := (fun q8 : Nat => [.ref q8])) (kc' := 98) (ks' := 856) (n := 1) (C := RX6) (ci := 6) hG dX6_colour_35 (kX6_lengths _ K aM aMk aMj aMc aMw aMr mN mS mX v4.2 mK mC mW mJ v6 v7 hv) gX6_colour_X6_lengths rfl rfl rfl ⟨rfl, by decide, by decide, rfl⟩ ⟨by decide, by decide⟩ (Nat.le_of_ble_eq_true rfl) ⟨(Nat.le_of_ble_eq_true rfl), (Nat.le_of_ble_eq_true rfl)⟩ [0, 1, 2, 3, 4, 5, 6, 7, 8, 9, 10, 11, 12, 13, 14, 15, 16] [] [0, 1, 2, 3, 4, 5, 6, 7, 8, 9, 10, 11, 12, 13, 14, 15, 16, 17] rfl rfl rfl rfl (by decide) rfl (fun _ => rfl) (fun _ => rfl) rfl rfl rfl 0 rfl rfl rfl rfl (fun q8 => ?_)
      refine z_aload_n hG dX6_colour_38 0 rfl ?_
      refine z_iload_n hG dX6_colour_39 1 rfl ?_
      obtain ⟨v9, hv, hres⟩ := z_bind hres
      refine z_callV (As := [.int p0]) (rest := [.ref q8]) (wr := [(q8, .inl (K.2 0, 12, .inl v7))]) (ws' := (fun _ : Unit => ([(aM, .inr (6, [.ref aMk, .ref aMj, .int mN, .int mS, .ref aMc, .ref aMw, .int mX, .int v4.2])), (aMk, .inl (K.2 0, 12, .inl mK)), (aMj, .inl (K.2 3, 12, .inr (.inr (.inr (.inr (zo aMr 12)))))), (aMc, .inl (K.2 0, 12, .inl mC)), (aMw, .inl (K.2 0, 12, .inl mW))] ++ zR12Z K aMr mJ ++ [(q8, .inl (K.2 0, 12, .inl v7))]))) (stk := (fun _ : Unit => [.int v9, .ref q8])) (kc' := 98) (ks' := 856) (n := 1) (C := RX6) (ci := 6) hG dX6_colour_40 (kX6_at _ K aM aMk aMj aMc aMw aMr mN mS mX v4.2 mK mC mW mJ p0 v9 hv) gX6_colour_X6_at rfl rfl rfl ⟨rfl, by decide, by decide, rfl⟩ ⟨by decide, by decide⟩ (Nat.le_of_ble_eq_true rfl) ⟨(Nat.le_of_ble_eq_true rfl), (Nat.le_of_ble_eq_true rfl)⟩ [0, 1, 2, 3, 4, 5, 6, 7, 8, 9, 10, 11, 12, 13, 14, 15, 16] [17] [1, 2, 3, 4, 5, 6, 7, 8, 9, 10, 11, 12, 13, 14, 15, 16, 17, 0] rfl rfl rfl rfl (by decide) rfl (fun _ => rfl) (fun _ => rfl) rfl rfl rfl 0 rfl rfl rfl rfl (fun _ => ?_)
      obtain ⟨hg, hres⟩ := z_guard hres
      refine z_iald hG dX6_colour_43 17 rfl hg ?_
      refine z_iconst 2 hG dX6_colour_44 (by decide) ?_
      refine z_irem hG dX6_colour_45 (by decide) ?_
      refine z_goto 50 hG dX6_colour_46 (by decide) ?_
      obtain rfl := Option.some.inj hres
      exact (z_ws [0, 1, 2, 3, 4, 5, 6, 7, 8, 9, 10, 11, 12, 13, 14, 15, 16] rfl rfl (hR _ _ dX6_colour_50))
  replace hres := hv
  clear hv
  refine z_if_ne 17 hG dX6_colour_10 (by decide) (fun c => ?_) (fun c => ?_)
  · replace hres := z_ifn c hres
    refine z_iconst 0 hG dX6_colour_17 (by decide) ?_
    obtain rfl := Option.some.inj hres
    exact J
  · replace hres := z_ifp c hres
    refine z_iconst 1 hG dX6_colour_13 (by decide) ?_
    refine z_goto 18 hG dX6_colour_14 (by decide) ?_
    obtain rfl := Option.some.inj hres
    exact J
