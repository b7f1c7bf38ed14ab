theorem dX6_ring_0 : decode cX6_ring 0 = .ok (.aload_n 0, 1) := by decide +kernel
theorem dX6_ring_1 : decode cX6_ring 1 = .ok (.aload_n 0, 1) := by decide +kernel
theorem dX6_ring_2 : decode cX6_ring 2 = .ok (.invokevirtual 91, 3) := by decide +kernel
theorem dX6_ring_5 : decode cX6_ring 5 = .ok (.ifCond .le 7, 3) := by decide +kernel
theorem dX6_ring_8 : decode cX6_ring 8 = .ok (.iconst 1, 1) := by decide +kernel
theorem dX6_ring_9 : decode cX6_ring 9 = .ok (.goto 4, 3) := by decide +kernel
theorem dX6_ring_12 : decode cX6_ring 12 = .ok (.iconst 0, 1) := by decide +kernel
theorem dX6_ring_13 : decode cX6_ring 13 = .ok (.iconst 1, 1) := by decide +kernel
theorem dX6_ring_14 : decode cX6_ring 14 = .ok (.iconst 1, 1) := by decide +kernel
theorem dX6_ring_15 : decode cX6_ring 15 = .ok (.invokevirtual 42, 3) := by decide +kernel
theorem dX6_ring_18 : decode cX6_ring 18 = .ok (.ifCond .eq 10, 3) := by decide +kernel
theorem dX6_ring_21 : decode cX6_ring 21 = .ok (.aload_n 0, 1) := by decide +kernel
theorem dX6_ring_22 : decode cX6_ring 22 = .ok (.invokevirtual 91, 3) := by decide +kernel
theorem dX6_ring_25 : decode cX6_ring 25 = .ok (.goto 4, 3) := by decide +kernel
theorem dX6_ring_28 : decode cX6_ring 28 = .ok (.iconst 0, 1) := by decide +kernel
theorem dX6_ring_29 : decode cX6_ring 29 = .ok (.ireturn, 1) := by decide +kernel
set_option maxRecDepth 20000 in
theorem ggX6_ring_X6_odd : GoodIn wsX6_ring wsX6_odd := goodIn_r _ [5, 6, 7, 8, 9, 4, 10, 11, 12, 13, 14, 15, 16, 17, 23, 24, 25, 26, 27, 28, 29, 30] (by decide +kernel) (by decide +kernel)
set_option maxRecDepth 20000 in
theorem gX6_ring_X6_odd : GoodIn wsX6_ring (wsV RX6 91 RX6 yX6_odd wsX6_odd) := goodIn_app (goodIn_of _ (by decide +kernel)) ggX6_ring_X6_odd
set_option maxRecDepth 20000 in
theorem ggX6_ring_X6_can : GoodIn wsX6_ring wsX6_can := goodIn_r _ [21, 22, 23, 24, 25, 26, 27, 28, 29, 30] (by decide +kernel) (by decide +kernel)
set_option maxRecDepth 20000 in
theorem gX6_ring_X6_can : GoodIn wsX6_ring (wsV RX6 42 RX6 yX6_can wsX6_can) := goodIn_app (goodIn_of _ (by decide +kernel)) ggX6_ring_X6_can
def fX6_ring (mN : Int32) (mJ : (Nat → Nat → Int32)) : Option (Int32 × Int32) := (fX6_odd mN mJ).bind fun v1 => ((if v1 ≤ 0 then some 0 else some 1) : Option Int32).bind fun v2 => (fX6_can v2 1 1).bind fun v3 => if v3.1 = 0 then some (0, v3.2) else (fX6_odd mN mJ).bind fun v4 => some (v4, v3.2)
set_option maxRecDepth 100000 in
set_option maxHeartbeats 4000000 in
theorem kX6_ring (l : Launch) (K : zK) (aM : Nat) (aMk : Nat) (aMj : Nat) (aMc : Nat) (aMw : Nat) (aMr : (Nat → Nat))  (mN : Int32) (mS : Int32) (mX : Int32) (mT : Int32) (mK : (Nat → Int32)) (mC : (Nat → Int32)) (mW : (Nat → Int32)) (mJ : (Nat → Nat → Int32)) (r : Int32 × Int32) (hres : fX6_ring mN mJ = some r) : zM l K yX6_ring wsX6_ring ({ frames := 3, cells := 192, slots := 1664, locals := 69 }) [.ref aM] ([(aM, .inr (6, [.ref aMk, .ref aMj, .int mN, .int mS, .ref aMc, .ref aMw, .int mX, .int mT])), (aMk, .inl (K.2 0, 12, .inl mK)), (aMj, .inl (K.2 3, 12, .inr (.inr (.inr (.inr (zo aMr 12)))))), (aMc, .inl (K.2 0, 12, .inl mC)), (aMw, .inl (K.2 0, 12, .inl mW))] ++ zR12Z K aMr mJ) (fun _ : Unit => some (.int r.1)) (fun _ : Unit => ([(aM, .inr (6, [.ref aMk, .ref aMj, .int mN, .int mS, .ref aMc, .ref aMw, .int mX, .int r.2])), (aMk, .inl (K.2 0, 12, .inl mK)), (aMj, .inl (K.2 3, 12, .inr (.inr (.inr (.inr (zo aMr 12)))))), (aMc, .inl (K.2 0, 12, .inl mC)), (aMw, .inl (K.2 0, 12, .inl mW))] ++ zR12Z K aMr mJ)) 192 1664 := by
  refine zM.intI (cc := cX6_ring) (maxL := 1) (ret := (some .int)) rfl (by decide) (Nat.le_of_ble_eq_true rfl) rfl ?_
  intro G hGl hG hN hE
  have hR : ∀ (pc : Nat) (lv : zL), decode cX6_ring pc = .ok (.ireturn, 1) → zj G pc lv [.int r.1] ([(aM, .inr (6, [.ref aMk, .ref aMj, .int mN, .int mS, .ref aMc, .ref aMw, .int mX, .int r.2])), (aMk, .inl (K.2 0, 12, .inl mK)), (aMj, .inl (K.2 3, 12, .inr (.inr (.inr (.inr (zo aMr 12)))))), (aMc, .inl (K.2 0, 12, .inl mC)), (aMw, .inl (K.2 0, 12, .inl mW))] ++ zR12Z K aMr mJ) 192 1664 := fun pc lv d => hE () _ rfl pc lv d
  clear hE
  unfold fX6_ring at hres
  show zj G 0 [(0, .ref aM)] [] ([(aM, .inr (6, [.ref aMk, .ref aMj, .int mN, .int mS, .ref aMc, .ref aMw, .int mX, .int mT])), (aMk, .inl (K.2 0, 12, .inl mK)), (aMj, .inl (K.2 3, 12, .inr (.inr (.inr (.inr (zo aMr 12)))))), (aMc, .inl (K.2 0, 12, .inl mC)), (aMw, .inl (K.2 0, 12, .inl mW))] ++ zR12Z K aMr mJ) 0 0
  refine z_aload_n hG dX6_ring_0 0 rfl ?_
  refine z_aload_n hG dX6_ring_1 0 rfl ?_
  obtain ⟨v1, hv, hres⟩ := z_bind hres
  refine z_callV (As := []) (rest := [.ref aM]) (wr := ([] : va_W)) (ws' := (fun _ : Unit => ([(aM, .inr (6, [.ref aMk, .ref aMj, .int mN, .int mS, .ref aMc, .ref aMw, .int mX, .int mT])), (aMk, .inl (K.2 0, 12, .inl mK)), (aMj, .inl (K.2 3, 12, .inr (.inr (.inr (.inr (zo aMr 12)))))), (aMc, .inl (K.2 0, 12, .inl mC)), (aMw, .inl (K.2 0, 12, .inl mW))] ++ zR12Z K aMr mJ))) (stk := (fun _ : Unit => [.int v1, .ref aM])) (kc' := 96) (ks' := 832) (n := 0) (C := RX6) (ci := 6) hG dX6_ring_2 (kX6_odd _ K aM aMk aMj aMc aMw aMr mN mS mX mT mK mC mW mJ v1 hv) gX6_ring_X6_odd rfl rfl rfl ⟨rfl, by decide, by decide, rfl⟩ ⟨by decide, by decide⟩ (Nat.le_of_ble_eq_true rfl) ⟨(Nat.le_of_ble_eq_true rfl), (Nat.le_of_ble_eq_true rfl)⟩ [0, 1, 2, 3, 4, 5, 6, 7, 8, 9, 10, 11, 12, 13, 14, 15, 16] [] [0, 1, 2, 3, 4, 5, 6, 7, 8, 9, 10, 11, 12, 13, 14, 15, 16] rfl rfl rfl rfl (by decide) rfl (fun _ => rfl) (fun _ => rfl) rfl rfl rfl 0 rfl rfl rfl rfl (fun _ => ?_)
  obtain ⟨v2, hv, hres⟩ := z_bind hres
  have J : zj G 13 [(0, .ref aM)] [.int v2, .ref aM] ([(aM, .inr (6, [.ref aMk, .ref aMj, .int mN, .int mS, .ref aMc, .ref aMw, .int mX, .int mT])), (aMk, .inl (K.2 0, 12, .inl mK)), (aMj, .inl (K.2 3, 12, .inr (.inr (.inr (.inr (zo aMr 12)))))), (aMc, .inl (K.2 0, 12, .inl mC)), (aMw, .inl (K.2 0, 12, .inl mW))] ++ zR12Z K aMr mJ) 96 832 := by
    refine z_iconst 1 hG dX6_ring_13 (by decide) ?_
    refine z_iconst 1 hG dX6_ring_14 (by decide) ?_
    obtain ⟨v3, hv, hres⟩ := z_bind hres
    refine z_callV (As := [.int v2, .int 1, .int 1]) (rest := []) (wr := ([(aMk, .inl (K.2 0, 12, .inl mK)), (aMj, .inl (K.2 3, 12, .inr (.inr (.inr (.inr (zo aMr 12)))))), (aMc, .inl (K.2 0, 12, .inl mC)), (aMw, .inl (K.2 0, 12, .inl mW))] ++ zR12Z K aMr mJ)) (ws' := (fun _ : Unit => ([(aM, .inr (6, [.ref aMk, .ref aMj, .int mN, .int mS, .ref aMc, .ref aMw, .int mX, .int v3.2])), (aMk, .inl (K.2 0, 12, .inl mK)), (aMj, .inl (K.2 3, 12, .inr (.inr (.inr (.inr (zo aMr 12)))))), (aMc, .inl (K.2 0, 12, .inl mC)), (aMw, .inl (K.2 0, 12, .inl mW))] ++ zR12Z K aMr mJ))) (stk := (fun _ : Unit => [.int v3.1])) (kc' := 96) (ks' := 832) (n := 3) (C := RX6) (ci := 6) hG dX6_ring_15 (kX6_can _ K aM aMk aMj aMc aMw mN mS mX mT v2 1 1 v3 hv) gX6_ring_X6_can rfl rfl rfl ⟨rfl, by decide, by decide, rfl⟩ ⟨by decide, by decide⟩ (Nat.le_of_ble_eq_true rfl) ⟨(Nat.le_of_ble_eq_true rfl), (Nat.le_of_ble_eq_true rfl)⟩ [0] [1, 2, 3, 4, 5, 6, 7, 8, 9, 10, 11, 12, 13, 14, 15, 16] [16, 0, 1, 2, 3, 4, 5, 6, 7, 8, 9, 10, 11, 12, 13, 14, 15] rfl rfl rfl rfl (by decide) rfl (fun _ => rfl) (fun _ => rfl) rfl rfl rfl 0 rfl rfl rfl rfl (fun _ => ?_)
    refine z_if_eq 28 hG dX6_ring_18 (by decide) (fun c => ?_) (fun c => ?_)
    · replace hres := z_ifp c hres
      refine z_iconst 0 hG dX6_ring_28 (by decide) ?_
      obtain rfl := Option.some.inj hres
      exact (z_wid (Nat.le_of_ble_eq_true rfl) (Nat.le_of_ble_eq_true rfl) (hR _ _ dX6_ring_29))
    · replace hres := z_ifn c hres
      refine z_aload_n hG dX6_ring_21 0 rfl ?_
      obtain ⟨v4, hv, hres⟩ := z_bind hres
      refine z_callV (As := []) (rest := []) (wr := ([] : va_W)) (ws' := (fun _ : Unit => ([(aM, .inr (6, [.ref aMk, .ref aMj, .int mN, .int mS, .ref aMc, .ref aMw, .int mX, .int v3.2])), (aMk, .inl (K.2 0, 12, .inl mK)), (aMj, .inl (K.2 3, 12, .inr (.inr (.inr (.inr (zo aMr 12)))))), (aMc, .inl (K.2 0, 12, .inl mC)), (aMw, .inl (K.2 0, 12, .inl mW))] ++ zR12Z K aMr mJ))) (stk := (fun _ : Unit => [.int v4])) (kc' := 192) (ks' := 1664) (n := 0) (C := RX6) (ci := 6) hG dX6_ring_22 (kX6_odd _ K aM aMk aMj aMc aMw aMr mN mS mX v3.2 mK mC mW mJ v4 hv) gX6_ring_X6_odd rfl rfl rfl ⟨rfl, by decide, by decide, rfl⟩ ⟨by decide, by decide⟩ (Nat.le_of_ble_eq_true rfl) ⟨(Nat.le_of_ble_eq_true rfl), (Nat.le_of_ble_eq_true rfl)⟩ [0, 1, 2, 3, 4, 5, 6, 7, 8, 9, 10, 11, 12, 13, 14, 15, 16] [] [0, 1, 2, 3, 4, 5, 6, 7, 8, 9, 10, 11, 12, 13, 14, 15, 16] rfl rfl rfl rfl (by decide) rfl (fun _ => rfl) (fun _ => rfl) rfl rfl rfl 0 rfl rfl rfl rfl (fun _ => ?_)
      refine z_goto 29 hG dX6_ring_25 (by decide) ?_
      obtain rfl := Option.some.inj hres
      exact (hR _ _ dX6_ring_29)
  replace hres := hv
  clear hv
  refine z_if_le 12 hG dX6_ring_5 (by decide) (fun c => ?_) (fun c => ?_)
  · replace hres := z_ifp c hres
    refine z_iconst 0 hG dX6_ring_12 (by decide) ?_
    obtain rfl := Option.some.inj hres
    exact J
  · replace hres := z_ifn c hres
    refine z_iconst 1 hG dX6_ring_8 (by decide) ?_
    refine z_goto 13 hG dX6_ring_9 (by decide) ?_
    obtain rfl := Option.some.inj hres
    exact J

theorem dX6_ringAt_0 : decode cX6_ringAt 0 = .ok (.aload_n 0, 1) := by decide +kernel
theorem dX6_ringAt_1 : decode cX6_ringAt 1 = .ok (.aload_n 0, 1) := by decide +kernel
theorem dX6_ringAt_2 : decode cX6_ringAt 2 = .ok (.invokevirtual 91, 3) := by decide +kernel
theorem dX6_ringAt_5 : decode cX6_ringAt 5 = .ok (.ifCond .le 7, 3) := by decide +kernel
theorem dX6_ringAt_8 : decode cX6_ringAt 8 = .ok (.iconst 1, 1) := by decide +kernel
theorem dX6_ringAt_9 : decode cX6_ringAt 9 = .ok (.goto 4, 3) := by decide +kernel
theorem dX6_ringAt_12 : decode cX6_ringAt 12 = .ok (.iconst 0, 1) := by decide +kernel
theorem dX6_ringAt_13 : decode cX6_ringAt 13 = .ok (.iload_n 1, 1) := by decide +kernel
theorem dX6_ringAt_14 : decode cX6_ringAt 14 = .ok (.ifCond .lt 15, 3) := by decide +kernel
theorem dX6_ringAt_17 : decode cX6_ringAt 17 = .ok (.iload_n 1, 1) := by decide +kernel
theorem dX6_ringAt_18 : decode cX6_ringAt 18 = .ok (.aload_n 0, 1) := by decide +kernel
theorem dX6_ringAt_19 : decode cX6_ringAt 19 = .ok (.invokevirtual 91, 3) := by decide +kernel
theorem dX6_ringAt_22 : decode cX6_ringAt 22 = .ok (.if_icmp .ge 7, 3) := by decide +kernel
theorem dX6_ringAt_25 : decode cX6_ringAt 25 = .ok (.iconst 1, 1) := by decide +kernel
theorem dX6_ringAt_26 : decode cX6_ringAt 26 = .ok (.goto 4, 3) := by decide +kernel
theorem dX6_ringAt_29 : decode cX6_ringAt 29 = .ok (.iconst 0, 1) := by decide +kernel
theorem dX6_ringAt_30 : decode cX6_ringAt 30 = .ok (.iconst 1, 1) := by decide +kernel
theorem dX6_ringAt_31 : decode cX6_ringAt 31 = .ok (.invokevirtual 42, 3) := by decide +kernel
theorem dX6_ringAt_34 : decode cX6_ringAt 34 = .ok (.ifCond .ne 5, 3) := by decide +kernel
theorem dX6_ringAt_37 : decode cX6_ringAt 37 = .ok (.iconst 0, 1) := by decide +kernel
theorem dX6_ringAt_38 : decode cX6_ringAt 38 = .ok (.ireturn, 1) := by decide +kernel
theorem dX6_ringAt_39 : decode cX6_ringAt 39 = .ok (.aload_n 0, 1) := by decide +kernel
theorem dX6_ringAt_40 : decode cX6_ringAt 40 = .ok (.invokevirtual 91, 3) := by decide +kernel
theorem dX6_ringAt_43 : decode cX6_ringAt 43 = .ok (.istore_n 2, 1) := by decide +kernel
theorem dX6_ringAt_44 : decode cX6_ringAt 44 = .ok (.iconst 0, 1) := by decide +kernel
theorem dX6_ringAt_45 : decode cX6_ringAt 45 = .ok (.istore_n 3, 1) := by decide +kernel
theorem dX6_ringAt_46 : decode cX6_ringAt 46 = .ok (.aload_n 0, 1) := by decide +kernel
theorem dX6_ringAt_47 : decode cX6_ringAt 47 = .ok (.iload_n 3, 1) := by decide +kernel
theorem dX6_ringAt_48 : decode cX6_ringAt 48 = .ok (.invokevirtual 88, 3) := by decide +kernel
theorem dX6_ringAt_51 : decode cX6_ringAt 51 = .ok (.iload_n 2, 1) := by decide +kernel
theorem dX6_ringAt_52 : decode cX6_ringAt 52 = .ok (.if_icmp .eq 9, 3) := by decide +kernel
theorem dX6_ringAt_55 : decode cX6_ringAt 55 = .ok (.iinc 3 1, 3) := by decide +kernel
theorem dX6_ringAt_58 : decode cX6_ringAt 58 = .ok (.goto (-12), 3) := by decide +kernel
theorem dX6_ringAt_61 : decode cX6_ringAt 61 = .ok (.aload_n 0, 1) := by decide +kernel
theorem dX6_ringAt_62 : decode cX6_ringAt 62 = .ok (.iload_n 3, 1) := by decide +kernel
theorem dX6_ringAt_63 : decode cX6_ringAt 63 = .ok (.invokevirtual 82, 3) := by decide +kernel
theorem dX6_ringAt_66 : decode cX6_ringAt 66 = .ok (.astore 4, 2) := by decide +kernel
theorem dX6_ringAt_68 : decode cX6_ringAt 68 = .ok (.iload_n 3, 1) := by decide +kernel
theorem dX6_ringAt_69 : decode cX6_ringAt 69 = .ok (.istore 5, 2) := by decide +kernel
theorem dX6_ringAt_71 : decode cX6_ringAt 71 = .ok (.iconst 0, 1) := by decide +kernel
theorem dX6_ringAt_72 : decode cX6_ringAt 72 = .ok (.istore 6, 2) := by decide +kernel
theorem dX6_ringAt_74 : decode cX6_ringAt 74 = .ok (.iload 6, 2) := by decide +kernel
theorem dX6_ringAt_76 : decode cX6_ringAt 76 = .ok (.iload_n 1, 1) := by decide +kernel
theorem dX6_ringAt_77 : decode cX6_ringAt 77 = .ok (.if_icmp .ge 51, 3) := by decide +kernel
theorem dX6_ringAt_80 : decode cX6_ringAt 80 = .ok (.iinc 2 (-1), 3) := by decide +kernel
theorem dX6_ringAt_83 : decode cX6_ringAt 83 = .ok (.iconst 0, 1) := by decide +kernel
theorem dX6_ringAt_84 : decode cX6_ringAt 84 = .ok (.istore 7, 2) := by decide +kernel
theorem dX6_ringAt_86 : decode cX6_ringAt 86 = .ok (.aload_n 0, 1) := by decide +kernel
theorem dX6_ringAt_87 : decode cX6_ringAt 87 = .ok (.getfield 15, 3) := by decide +kernel
theorem dX6_ringAt_90 : decode cX6_ringAt 90 = .ok (.iload 5, 2) := by decide +kernel
theorem dX6_ringAt_92 : decode cX6_ringAt 92 = .ok (.aaload, 1) := by decide +kernel
theorem dX6_ringAt_93 : decode cX6_ringAt 93 = .ok (.iload 7, 2) := by decide +kernel
theorem dX6_ringAt_95 : decode cX6_ringAt 95 = .ok (.baload, 1) := by decide +kernel
theorem dX6_ringAt_96 : decode cX6_ringAt 96 = .ok (.ifCond .eq 16, 3) := by decide +kernel
theorem dX6_ringAt_99 : decode cX6_ringAt 99 = .ok (.aload 4, 2) := by decide +kernel
theorem dX6_ringAt_101 : decode cX6_ringAt 101 = .ok (.iload_n 2, 1) := by decide +kernel
theorem dX6_ringAt_102 : decode cX6_ringAt 102 = .ok (.iconst 2, 1) := by decide +kernel
theorem dX6_ringAt_103 : decode cX6_ringAt 103 = .ok (.irem, 1) := by decide +kernel
theorem dX6_ringAt_104 : decode cX6_ringAt 104 = .ok (.aaload, 1) := by decide +kernel
theorem dX6_ringAt_105 : decode cX6_ringAt 105 = .ok (.iload 7, 2) := by decide +kernel
theorem dX6_ringAt_107 : decode cX6_ringAt 107 = .ok (.iaload, 1) := by decide +kernel
theorem dX6_ringAt_108 : decode cX6_ringAt 108 = .ok (.iload_n 2, 1) := by decide +kernel
theorem dX6_ringAt_109 : decode cX6_ringAt 109 = .ok (.if_icmp .eq 9, 3) := by decide +kernel
theorem dX6_ringAt_112 : decode cX6_ringAt 112 = .ok (.iinc 7 1, 3) := by decide +kernel
theorem dX6_ringAt_115 : decode cX6_ringAt 115 = .ok (.goto (-29), 3) := by decide +kernel
theorem dX6_ringAt_118 : decode cX6_ringAt 118 = .ok (.iload 7, 2) := by decide +kernel
theorem dX6_ringAt_120 : decode cX6_ringAt 120 = .ok (.istore 5, 2) := by decide +kernel
theorem dX6_ringAt_122 : decode cX6_ringAt 122 = .ok (.iinc 6 1, 3) := by decide +kernel
theorem dX6_ringAt_125 : decode cX6_ringAt 125 = .ok (.goto (-51), 3) := by decide +kernel
theorem dX6_ringAt_128 : decode cX6_ringAt 128 = .ok (.aload_n 0, 1) := by decide +kernel
theorem dX6_ringAt_129 : decode cX6_ringAt 129 = .ok (.getfield 9, 3) := by decide +kernel
theorem dX6_ringAt_132 : decode cX6_ringAt 132 = .ok (.iload 5, 2) := by decide +kernel
theorem dX6_ringAt_134 : decode cX6_ringAt 134 = .ok (.iaload, 1) := by decide +kernel
theorem dX6_ringAt_135 : decode cX6_ringAt 135 = .ok (.ireturn, 1) := by decide +kernel
set_option maxRecDepth 20000 in
theorem ggX6_ringAt_X6_odd : GoodIn wsX6_ringAt wsX6_odd := goodIn_r _ [7, 8, 9, 10, 11, 6, 12, 13, 14, 15, 16, 17, 18, 1, 24, 25, 26, 27, 28, 29, 30, 31] (by decide +kernel) (by decide +kernel)
set_option maxRecDepth 20000 in
theorem gX6_ringAt_X6_odd : GoodIn wsX6_ringAt (wsV RX6 91 RX6 yX6_odd wsX6_odd) := goodIn_app (goodIn_of _ (by decide +kernel)) ggX6_ringAt_X6_odd
set_option maxRecDepth 20000 in
theorem ggX6_ringAt_X6_can : GoodIn wsX6_ringAt wsX6_can := goodIn_r _ [22, 23, 24, 25, 26, 27, 28, 29, 30, 31] (by decide +kernel) (by decide +kernel)
set_option maxRecDepth 20000 in
theorem gX6_ringAt_X6_can : GoodIn wsX6_ringAt (wsV RX6 42 RX6 yX6_can wsX6_can) := goodIn_app (goodIn_of _ (by decide +kernel)) ggX6_ringAt_X6_can
set_option maxRecDepth 20000 in
theorem ggX6_ringAt_X6_oddWalk : GoodIn wsX6_ringAt wsX6_oddWalk := goodIn_r _ [12, 13, 14, 15, 6, 16, 17, 18, 8, 1, 24, 25, 26, 27, 28, 29, 30, 31] (by decide +kernel) (by decide +kernel)
set_option maxRecDepth 20000 in
theorem gX6_ringAt_X6_oddWalk : GoodIn wsX6_ringAt (wsV RX6 88 RX6 yX6_oddWalk wsX6_oddWalk) := goodIn_app (goodIn_of _ (by decide +kernel)) ggX6_ringAt_X6_oddWalk
set_option maxRecDepth 20000 in
theorem ggX6_ringAt_X6_walks : GoodIn wsX6_ringAt wsX6_walks := goodIn_r _ [16, 17, 18, 8, 1, 24, 25, 26, 27, 28, 29, 30, 31] (by decide +kernel) (by decide +kernel)
set_option maxRecDepth 20000 in
theorem gX6_ringAt_X6_walks : GoodIn wsX6_ringAt (wsV RX6 82 RX6 yX6_walks wsX6_walks) := goodIn_app (goodIn_of _ (by decide +kernel)) ggX6_ringAt_X6_walks
theorem mX6_ringAt_0 : Cond.fieldLink RX6 15 "LayerwaysModel" "joined" "[[Z" ∈ wsX6_ringAt := by decide +kernel
theorem iX6_ringAt_X6 : ∀ w ∈ u_ws RX6 TX6 8, w ∈ wsX6_ringAt := by decide +kernel
theorem mX6_ringAt_2 : Cond.fieldLink RX6 9 "LayerwaysModel" "keys" "[I" ∈ wsX6_ringAt := by decide +kernel
def sX6_ringAt_46 (mN : Int32) (mJ : (Nat → Nat → Int32)) (v6 : Int32) (s9 : Int32) : Option (Int32 ⊕ Int32) := (fX6_oddWalk mN mJ s9).bind fun v13 => if v13 = v6 then some (.inl s9) else some (.inr (s9 + 1))
def sX6_ringAt_86 (mJ : (Nat → Nat → Int32)) (v14 : (Nat → Nat → Int32)) (s36 : Int32 × Int32 × Int32) (s44 : Int32) : Option (Int32 ⊕ Int32) := if zin s36.2.1 12 then if zin s44 12 then if (mJ s36.2.1.toNatClampNeg s44.toNatClampNeg) = 0 then some (.inr (s44 + 1)) else if zin ((s36.1 + (-1)) - (s36.1 + (-1)) / 2 * 2) 2 then if zin s44 12 then if (v14 ((s36.1 + (-1)) - (s36.1 + (-1)) / 2 * 2).toNatClampNeg s44.toNatClampNeg) = (s36.1 + (-1)) then some (.inl s44) else some (.inr (s44 + 1)) else none else none else none else none
def sX6_ringAt_74 (mJ : (Nat → Nat → Int32)) (p0 : Int32) (v14 : (Nat → Nat → Int32)) (s36 : Int32 × Int32 × Int32) : Option ((Int32 × Int32 × Int32) ⊕ (Int32 × Int32 × Int32)) := if p0 ≤ s36.2.2 then some (.inl (s36.1, s36.2.1, s36.2.2)) else (zloop (sX6_ringAt_86 mJ v14 s36) 32 0).bind fun e46 => some (.inr ((s36.1 + (-1)), e46, (s36.2.2 + 1)))
def fX6_ringAt (mN : Int32) (mK : (Nat → Int32)) (mJ : (Nat → Nat → Int32)) (p0 : Int32) : Option (Int32 × Int32) := (fX6_odd mN mJ).bind fun v1 => ((if v1 ≤ 0 then some 0 else some 1) : Option Int32).bind fun v2 => ((if p0 < 0 then some 0 else (fX6_odd mN mJ).bind fun v50 => if v50 ≤ p0 then some 0 else some 1) : Option Int32).bind fun v4 => (fX6_can v2 v4 1).bind fun v5 => if v5.1 = 0 then some (0, v5.2) else (fX6_odd mN mJ).bind fun v6 => (zloop (sX6_ringAt_46 mN mJ v6) 32 0).bind fun e11 => (fX6_walks mN mJ e11).bind fun v14 => (zloop (sX6_ringAt_74 mJ p0 v14) 32 (v6, e11, 0)).bind fun e38 => if zin e38.2.1 12 then some ((mK e38.2.1.toNatClampNeg), v5.2) else none
set_option maxRecDepth 100000 in
set_option maxHeartbeats 4000000 in
theorem kX6_ringAt (l : Launch) (K : zK) (aM : Nat) (aMk : Nat) (aMj : Nat) (aMc : Nat) (aMw : Nat) (aMr : (Nat → Nat))  (mN : Int32) (mS : Int32) (mX : Int32) (mT : Int32) (mK : (Nat → Int32)) (mC : (Nat → Int32)) (mW : (Nat → Int32)) (mJ : (Nat → Nat → Int32)) (p0 : Int32) (r : Int32 × Int32) (hres : fX6_ringAt mN mK mJ p0 = some r) : zM l K yX6_ringAt wsX6_ringAt ({ frames := 3, cells := 387, slots := 3354, locals := 69 }) [.ref aM, .int p0] ([(aM, .inr (6, [.ref aMk, .ref aMj, .int mN, .int mS, .ref aMc, .ref aMw, .int mX, .int mT])), (aMk, .inl (K.2 0, 12, .inl mK)), (aMj, .inl (K.2 3, 12, .inr (.inr (.inr (.inr (zo aMr 12)))))), (aMc, .inl (K.2 0, 12, .inl mC)), (aMw, .inl (K.2 0, 12, .inl mW))] ++ zR12Z K aMr mJ) (fun _ : Unit => some (.int r.1)) (fun _ : Unit => ([(aM, .inr (6, [.ref aMk, .ref aMj, .int mN, .int mS, .ref aMc, .ref aMw, .int mX, .int r.2])), (aMk, .inl (K.2 0, 12, .inl mK)), (aMj, .inl (K.2 3, 12, .inr (.inr (.inr (.inr (zo aMr 12)))))), (aMc, .inl (K.2 0, 12, .inl mC)), (aMw, .inl (K.2 0, 12, .inl mW))] ++ zR12Z K aMr mJ)) 387 3354 := by
  refine zM.intI (cc := cX6_ringAt) (maxL := 8) (ret := (some .int)) rfl (by decide) (Nat.le_of_ble_eq_true rfl) rfl ?_
  intro G hGl hG hN hE
  have hR : ∀ (pc : Nat) (lv : zL), decode cX6_ringAt pc = .ok (.ireturn, 1) → zj G pc lv [.int r.1] ([(aM, .inr (6, [.ref aMk, .ref aMj, .int mN, .int mS, .ref aMc, .ref aMw, .int mX, .int r.2])), (aMk, .inl (K.2 0, 12, .inl mK)), (aMj, .inl (K.2 3, 12, .inr (.inr (.inr (.inr (zo aMr 12)))))), (aMc, .inl (K.2 0, 12, .inl mC)), (aMw, .inl (K.2 0, 12, .inl mW))] ++ zR12Z K aMr mJ) 387 3354 := fun pc lv d => hE () _ rfl pc lv d
  clear hE
  unfold fX6_ringAt at hres
  show zj G 0 [(0, .ref aM), (1, .int p0)] [] ([(aM, .inr (6, [.ref aMk, .ref aMj, .int mN, .int mS, .ref aMc, .ref aMw, .int mX, .int mT])), (aMk, .inl (K.2 0, 12, .inl mK)), (aMj, .inl (K.2 3, 12, .inr (.inr (.inr (.inr (zo aMr 12)))))), (aMc, .inl (K.2 0, 12, .inl mC)), (aMw, .inl (K.2 0, 12, .inl mW))] ++ zR12Z K aMr mJ) 0 0
  refine z_aload_n hG dX6_ringAt_0 0 rfl ?_
  refine z_aload_n hG dX6_ringAt_1 0 rfl ?_
  obtain ⟨v1, hv, hres⟩ := z_bind hres
  refine z_callV (As := []) (rest := [.ref aM]) (wr := ([] : va_W)) (ws' := (fun _ : Unit => ([(aM, .inr (6, [.ref aMk, .ref aMj, .int mN, .int mS, .ref aMc, .ref aMw, .int mX, .int mT])), (aMk, .inl (K.2 0, 12, .inl mK)), (aMj, .inl (K.2 3, 12, .inr (.inr (.inr (.inr (zo aMr 12)))))), (aMc, .inl (K.2 0, 12, .inl mC)), (aMw, .inl (K.2 0, 12, .inl mW))] ++ zR12Z K aMr mJ))) (stk := (fun _ : Unit => [.int v1, .ref aM])) (kc' := 96) (ks' := 832) (n := 0) (C := RX6) (ci := 6) hG dX6_ringAt_2 (kX6_odd _ K aM aMk aMj aMc aMw aMr mN mS mX mT mK mC mW mJ v1 hv) gX6_ringAt_X6_odd rfl rfl rfl ⟨rfl, by decide, by decide, rfl⟩ ⟨by decide, by decide⟩ (Nat.le_of_ble_eq_true rfl) ⟨(Nat.le_of_ble_eq_true rfl), (Nat.le_of_ble_eq_true rfl)⟩ [0, 1, 2, 3, 4, 5, 6, 7, 8, 9, 10, 11, 12, 13, 14, 15, 16] [] [0, 1, 2, 3, 4, 5, 6, 7, 8, 9, 10, 11, 12, 13, 14, 15, 16] rfl rfl rfl rfl (by decide) rfl (fun _ => rfl) (fun _ => rfl) rfl rfl rfl 0 rfl rfl rfl rfl (fun _ => ?_)
  obtain ⟨v2, hv, hres⟩ := z_bind hres
  have J : zj G 13 [(0, .ref aM), (1, .int p0)] [.int v2, .ref aM] ([(aM, .inr (6, [.ref aMk, .ref aMj, .int mN, .int mS, .ref aMc, .ref aMw, .int mX, .int mT])), (aMk, .inl (K.2 0, 12, .inl mK)), (aMj, .inl (K.2 3, 12, .inr (.inr (.inr (.inr (zo aMr 12)))))), (aMc, .inl (K.2 0, 12, .inl mC)), (aMw, .inl (K.2 0, 12, .inl mW))] ++ zR12Z K aMr mJ) 96 832 := by
    refine z_iload_n hG dX6_ringAt_13 1 rfl ?_
    obtain ⟨v4, hv, hres⟩ := z_bind hres
    have J : zj G 30 [(0, .ref aM), (1, .int p0)] [.int v4, .int v2, .ref aM] ([(aM, .inr (6, [.ref aMk, .ref aMj, .int mN, .int mS, .ref aMc, .ref aMw, .int mX, .int mT])), (aMk, .inl (K.2 0, 12, .inl mK)), (aMj, .inl (K.2 3, 12, .inr (.inr (.inr (.inr (zo aMr 12)))))), (aMc, .inl (K.2 0, 12, .inl mC)), (aMw, .inl (K.2 0, 12, .inl mW))] ++ zR12Z K aMr mJ) 192 1664 := by
      refine z_iconst 1 hG dX6_ringAt_30 (by decide) ?_
      obtain ⟨v5, hv, hres⟩ := z_bind hres
      refine z_callV (As := [.int v2, .int v4, .int 1]) (rest := []) (wr := ([(aMk, .inl (K.2 0, 12, .inl mK)), (aMj, .inl (K.2 3, 12, .inr (.inr (.inr (.inr (zo aMr 12)))))), (aMc, .inl (K.2 0, 12, .inl mC)), (aMw, .inl (K.2 0, 12, .inl mW))] ++ zR12Z K aMr mJ)) (ws' := (fun _ : Unit => ([(aM, .inr (6, [.ref aMk, .ref aMj, .int mN, .int mS, .ref aMc, .ref aMw, .int mX, .int v5.2])), (aMk, .inl (K.2 0, 12, .inl mK)), (aMj, .inl (K.2 3, 12, .inr (.inr (.inr (.inr (zo aMr 12)))))), (aMc, .inl (K.2 0, 12, .inl mC)), (aMw, .inl (K.2 0, 12, .inl mW))] ++ zR12Z K aMr mJ))) (stk := (fun _ : Unit => [.int v5.1])) (kc' := 192) (ks' := 1664) (n := 3) (C := RX6) (ci := 6) hG dX6_ringAt_31 (kX6_can _ K aM aMk aMj aMc aMw mN mS mX mT v2 v4 1 v5 hv) gX6_ringAt_X6_can rfl rfl rfl ⟨rfl, by decide, by decide, rfl⟩ ⟨by decide, by decide⟩ (Nat.le_of_ble_eq_true rfl) ⟨(Nat.le_of_ble_eq_true rfl), (Nat.le_of_ble_eq_true rfl)⟩ [0] [1, 2, 3, 4, 5, 6, 7, 8, 9, 10, 11, 12, 13, 14, 15, 16] [16, 0, 1, 2, 3, 4, 5, 6, 7, 8, 9, 10, 11, 12, 13, 14, 15] rfl rfl rfl rfl (by decide) rfl (fun _ => rfl) (fun _ => rfl) rfl rfl rfl 0 rfl rfl rfl rfl (fun _ => ?_)
      refine z_if_ne 39 hG dX6_ringAt_34 (by decide) (fun c => ?_) (fun c => ?_)
      · replace hres := z_ifn c hres
        refine z_aload_n hG dX6_ringAt_39 0 rfl ?_
        obtain ⟨v6, hv, hres⟩ := z_bind hres
        refine z_callV (As := []) (rest := []) (wr := ([] : va_W)) (ws' := (fun _ : Unit => ([(aM, .inr (6, [.ref aMk, .ref aMj, .int mN, .int mS, .ref aMc, .ref aMw, .int mX, .int v5.2])), (aMk, .inl (K.2 0, 12, .inl mK)), (aMj, .inl (K.2 3, 12, .inr (.inr (.inr (.inr (zo aMr 12)))))), (aMc, .inl (K.2 0, 12, .inl mC)), (aMw, .inl (K.2 0, 12, .inl mW))] ++ zR12Z K aMr mJ))) (stk := (fun _ : Unit => [.int v6])) (kc' := 288) (ks' := 2496) (n := 0) (C := RX6) (ci := 6) hG dX6_ringAt_40 (kX6_odd _ K aM aMk aMj aMc aMw aMr mN mS mX v5.2 mK mC mW mJ v6 hv) gX6_ringAt_X6_odd rfl rfl rfl ⟨rfl, by decide, by decide, rfl⟩ ⟨by decide, by decide⟩ (Nat.le_of_ble_eq_true rfl) ⟨(Nat.le_of_ble_eq_true rfl), (Nat.le_of_ble_eq_true rfl)⟩ [0, 1, 2, 3, 4, 5, 6, 7, 8, 9, 10, 11, 12, 13, 14, 15, 16] [] [0, 1, 2, 3, 4, 5, 6, 7, 8, 9, 10, 11, 12, 13, 14, 15, 16] rfl rfl rfl rfl (by decide) rfl (fun _ => rfl) (fun _ => rfl) rfl rfl rfl 0 rfl rfl rfl rfl (fun _ => ?_)
        refine z_istore_n (lv' := [(2, .int v6), (0, .ref aM), (1, .int p0)]) hG dX6_ringAt_43 (by decide) rfl ?_
        refine z_iconst 0 hG dX6_ringAt_44 (by decide) ?_
        refine z_istore_n (lv' := [(3, .int 0), (2, .int v6), (0, .ref aM), (1, .int p0)]) hG dX6_ringAt_45 (by decide) rfl ?_
        obtain ⟨e11, hx, hres⟩ := z_bind hres
        refine z_lv [2, 3, 1, 0] (lv' := [(0, .ref aM), (1, .int p0), (2, .int v6), (3, .int 0)]) rfl ?_
        refine z_loopA hx (fun s9 : Int32 => [(0, .ref aM), (1, .int p0), (2, .int v6), (3, .int s9)]) (fun s9 : Int32 => ([(aM, .inr (6, [.ref aMk, .ref aMj, .int mN, .int mS, .ref aMc, .ref aMw, .int mX, .int v5.2])), (aMk, .inl (K.2 0, 12, .inl mK)), (aMj, .inl (K.2 3, 12, .inr (.inr (.inr (.inr (zo aMr 12)))))), (aMc, .inl (K.2 0, 12, .inl mC)), (aMw, .inl (K.2 0, 12, .inl mW))] ++ zR12Z K aMr mJ)) 3 26 (fun e11 : Int32 => zj G 61 [(0, .ref aM), (1, .int p0), (2, .int v6), (3, .int e11)] [] ([(aM, .inr (6, [.ref aMk, .ref aMj, .int mN, .int mS, .ref aMc, .ref aMw, .int mX, .int v5.2])), (aMk, .inl (K.2 0, 12, .inl mK)), (aMj, .inl (K.2 3, 12, .inr (.inr (.inr (.inr (zo aMr 12)))))), (aMc, .inl (K.2 0, 12, .inl mC)), (aMw, .inl (K.2 0, 12, .inl mW))] ++ zR12Z K aMr mJ) 384 3328) ?_ ?_
        · refine z_aload_n hG dX6_ringAt_61 0 rfl ?_
          refine z_iload_n hG dX6_ringAt_62 3 rfl ?_
          obtain ⟨v14, hv, hres⟩ := z_bind hres
          refine z_callV (As := [.int e11]) (rest := []) (wr := ([] : va_W)) (ws' := (fun q15 : Nat × (Nat → Nat) => ([(aM, .inr (6, [.ref aMk, .ref aMj, .int mN, .int mS, .ref aMc, .ref aMw, .int mX, .int v5.2])), (aMk, .inl (K.2 0, 12, .inl mK)), (aMj, .inl (K.2 3, 12, .inr (.inr (.inr (.inr (zo aMr 12)))))), (aMc, .inl (K.2 0, 12, .inl mC)), (aMw, .inl (K.2 0, 12, .inl mW))] ++ zR12Z K aMr mJ ++ [(q15.1, .inl (K.2 2, 2, .inr (.inr (.inr (.inr (zo q15.2 2))))))] ++ zR2I K q15.2 v14))) (stk := (fun q15 : Nat × (Nat → Nat) => [.ref q15.1])) (kc' := 387) (ks' := 3354) (n := 1) (C := RX6) (ci := 6) hG dX6_ringAt_63 (kX6_walks _ K aM aMk aMj aMc aMw aMr mN mS mX v5.2 mK mC mW mJ e11 v14 hv) gX6_ringAt_X6_walks rfl rfl rfl ⟨rfl, by decide, by decide, rfl⟩ ⟨by decide, by decide⟩ (Nat.le_of_ble_eq_true rfl) ⟨(Nat.le_of_ble_eq_true rfl), (Nat.le_of_ble_eq_true rfl)⟩ [0, 1, 2, 3, 4, 5, 6, 7, 8, 9, 10, 11, 12, 13, 14, 15, 16] [] [0, 1, 2, 3, 4, 5, 6, 7, 8, 9, 10, 11, 12, 13, 14, 15, 16, 17, 18, 19] rfl rfl rfl rfl (by decide) rfl (fun _ => rfl) (fun _ => rfl) rfl rfl rfl 0 rfl rfl rfl rfl (fun q15 => ?_)
          refine z_astore (lv' := [(4, .ref q15.1), (0, .ref aM), (1, .int p0), (2, .int v6), (3, .int e11)]) hG dX6_ringAt_66 (by decide) rfl ?_
          refine z_iload_n hG dX6_ringAt_68 4 rfl ?_
          refine z_istore (lv' := [(5, .int e11), (4, .ref q15.1), (0, .ref aM), (1, .int p0), (2, .int v6), (3, .int e11)]) hG dX6_ringAt_69 (by decide) rfl ?_
          refine z_iconst 0 hG dX6_ringAt_71 (by decide) ?_
          refine z_istore (lv' := [(6, .int 0), (5, .int e11), (4, .ref q15.1), (0, .ref aM), (1, .int p0), (2, .int v6), (3, .int e11)]) hG dX6_ringAt_72 (by decide) rfl ?_
          obtain ⟨e38, hx, hres⟩ := z_bind hres
          refine z_lv [3, 4, 5, 6, 2, 1, 0] (lv' := [(0, .ref aM), (1, .int p0), (2, .int v6), (3, .int e11), (4, .ref q15.1), (5, .int e11), (6, .int 0)]) rfl ?_
          refine z_loop hx (fun s36 : Int32 × Int32 × Int32 => [(0, .ref aM), (1, .int p0), (2, .int s36.1), (3, .int e11), (4, .ref q15.1), (5, .int s36.2.1), (6, .int s36.2.2)]) (fun s36 : Int32 × Int32 × Int32 => ([(aM, .inr (6, [.ref aMk, .ref aMj, .int mN, .int mS, .ref aMc, .ref aMw, .int mX, .int v5.2])), (aMk, .inl (K.2 0, 12, .inl mK)), (aMj, .inl (K.2 3, 12, .inr (.inr (.inr (.inr (zo aMr 12)))))), (aMc, .inl (K.2 0, 12, .inl mC)), (aMw, .inl (K.2 0, 12, .inl mW))] ++ zR12Z K aMr mJ ++ [(q15.1, .inl (K.2 2, 2, .inr (.inr (.inr (.inr (zo q15.2 2))))))] ++ zR2I K q15.2 v14)) (fun e38 : Int32 × Int32 × Int32 => zj G 128 [(0, .ref aM), (1, .int p0), (2, .int e38.1), (3, .int e11), (4, .ref q15.1), (5, .int e38.2.1), (6, .int e38.2.2)] [] ([(aM, .inr (6, [.ref aMk, .ref aMj, .int mN, .int mS, .ref aMc, .ref aMw, .int mX, .int v5.2])), (aMk, .inl (K.2 0, 12, .inl mK)), (aMj, .inl (K.2 3, 12, .inr (.inr (.inr (.inr (zo aMr 12)))))), (aMc, .inl (K.2 0, 12, .inl mC)), (aMw, .inl (K.2 0, 12, .inl mW))] ++ zR12Z K aMr mJ ++ [(q15.1, .inl (K.2 2, 2, .inr (.inr (.inr (.inr (zo q15.2 2))))))] ++ zR2I K q15.2 v14) 387 3354) ?_ ?_
          · refine z_aload_n hG dX6_ringAt_128 0 rfl ?_
            refine z_get (ci := 6) (C := RX6) (T := TX6) (N := 8) hG dX6_ringAt_129 iX6_ringAt_X6 0 (by decide) mX6_ringAt_2 rfl rfl 0 rfl rfl ?_
            refine z_iload hG dX6_ringAt_132 5 rfl ?_
            obtain ⟨hg, hres⟩ := z_guard hres
            refine z_iald hG dX6_ringAt_134 1 rfl hg ?_
            obtain rfl := Option.some.inj hres
            exact (z_ws [0, 1, 2, 3, 4, 5, 6, 7, 8, 9, 10, 11, 12, 13, 14, 15, 16] rfl rfl (hR _ _ dX6_ringAt_135))
          · intro s36 w37 hres hX hB
            unfold sX6_ringAt_74 at hres
            replace hB : ∀ (z0 : Int32) (z1 : Int32) (z2 : Int32), w37 = .inr (z0, z1, z2) → zj G 74 [(0, .ref aM), (1, .int p0), (2, .int z0), (3, .int e11), (4, .ref q15.1), (5, .int z1), (6, .int z2)] [] ([(aM, .inr (6, [.ref aMk, .ref aMj, .int mN, .int mS, .ref aMc, .ref aMw, .int mX, .int v5.2])), (aMk, .inl (K.2 0, 12, .inl mK)), (aMj, .inl (K.2 3, 12, .inr (.inr (.inr (.inr (zo aMr 12)))))), (aMc, .inl (K.2 0, 12, .inl mC)), (aMw, .inl (K.2 0, 12, .inl mW))] ++ zR12Z K aMr mJ ++ [(q15.1, .inl (K.2 2, 2, .inr (.inr (.inr (.inr (zo q15.2 2))))))] ++ zR2I K q15.2 v14) 387 3354 := fun z0 z1 z2 h => hB (z0, z1, z2) h
            replace hX : ∀ (z0 : Int32) (z1 : Int32) (z2 : Int32), w37 = .inl (z0, z1, z2) → zj G 128 [(0, .ref aM), (1, .int p0), (2, .int z0), (3, .int e11), (4, .ref q15.1), (5, .int z1), (6, .int z2)] [] ([(aM, .inr (6, [.ref aMk, .ref aMj, .int mN, .int mS, .ref aMc, .ref aMw, .int mX, .int v5.2])), (aMk, .inl (K.2 0, 12, .inl mK)), (aMj, .inl (K.2 3, 12, .inr (.inr (.inr (.inr (zo aMr 12)))))), (aMc, .inl (K.2 0, 12, .inl mC)), (aMw, .inl (K.2 0, 12, .inl mW))] ++ zR12Z K aMr mJ ++ [(q15.1, .inl (K.2 2, 2, .inr (.inr (.inr (.inr (zo q15.2 2))))))] ++ zR2I K q15.2 v14) 387 3354 := fun z0 z1 z2 h => hX (z0, z1, z2) h
            refine z_iload hG dX6_ringAt_74 6 rfl ?_
            refine z_iload_n hG dX6_ringAt_76 1 rfl ?_
            refine z_icmp_ge 128 hG dX6_ringAt_77 (by decide) (fun c => ?_) (fun c => ?_)
            · replace hres := z_ifp c hres
              exact (hX s36.1 s36.2.1 s36.2.2 (Option.some.inj hres).symm)
            · replace hres := z_ifn c hres
              refine z_iinc (s36.1 + (-1)) (lv' := [(2, .int (s36.1 + (-1))), (0, .ref aM), (1, .int p0), (3, .int e11), (4, .ref q15.1), (5, .int s36.2.1), (6, .int s36.2.2)]) hG dX6_ringAt_80 2 rfl rfl (by decide) rfl ?_
              refine z_iconst 0 hG dX6_ringAt_83 (by decide) ?_
              refine z_istore (lv' := [(7, .int 0), (2, .int (s36.1 + (-1))), (0, .ref aM), (1, .int p0), (3, .int e11), (4, .ref q15.1), (5, .int s36.2.1), (6, .int s36.2.2)]) hG dX6_ringAt_84 (by decide) rfl ?_
              obtain ⟨e46, hx, hres⟩ := z_bind hres
              refine z_lv [2, 3, 1, 4, 5, 6, 7, 0] (lv' := [(0, .ref aM), (1, .int p0), (2, .int (s36.1 + (-1))), (3, .int e11), (4, .ref q15.1), (5, .int s36.2.1), (6, .int s36.2.2), (7, .int 0)]) rfl ?_
              refine z_loop hx (fun s44 : Int32 => [(0, .ref aM), (1, .int p0), (2, .int (s36.1 + (-1))), (3, .int e11), (4, .ref q15.1), (5, .int s36.2.1), (6, .int s36.2.2), (7, .int s44)]) (fun s44 : Int32 => ([(aM, .inr (6, [.ref aMk, .ref aMj, .int mN, .int mS, .ref aMc, .ref aMw, .int mX, .int v5.2])), (aMk, .inl (K.2 0, 12, .inl mK)), (aMj, .inl (K.2 3, 12, .inr (.inr (.inr (.inr (zo aMr 12)))))), (aMc, .inl (K.2 0, 12, .inl mC)), (aMw, .inl (K.2 0, 12, .inl mW))] ++ zR12Z K aMr mJ ++ [(q15.1, .inl (K.2 2, 2, .inr (.inr (.inr (.inr (zo q15.2 2))))))] ++ zR2I K q15.2 v14)) (fun e46 : Int32 => zj G 118 [(0, .ref aM), (1, .int p0), (2, .int (s36.1 + (-1))), (3, .int e11), (4, .ref q15.1), (5, .int s36.2.1), (6, .int s36.2.2), (7, .int e46)] [] ([(aM, .inr (6, [.ref aMk, .ref aMj, .int mN, .int mS, .ref aMc, .ref aMw, .int mX, .int v5.2])), (aMk, .inl (K.2 0, 12, .inl mK)), (aMj, .inl (K.2 3, 12, .inr (.inr (.inr (.inr (zo aMr 12)))))), (aMc, .inl (K.2 0, 12, .inl mC)), (aMw, .inl (K.2 0, 12, .inl mW))] ++ zR12Z K aMr mJ ++ [(q15.1, .inl (K.2 2, 2, .inr (.inr (.inr (.inr (zo q15.2 2))))))] ++ zR2I K q15.2 v14) 387 3354) ?_ ?_
              · refine z_iload hG dX6_ringAt_118 7 rfl ?_
                refine z_istore (lv' := [(5, .int e46), (0, .ref aM), (1, .int p0), (2, .int (s36.1 + (-1))), (3, .int e11), (4, .ref q15.1), (6, .int s36.2.2), (7, .int e46)]) hG dX6_ringAt_120 (by decide) rfl ?_
                refine z_iinc (s36.2.2 + 1) (lv' := [(6, .int (s36.2.2 + 1)), (5, .int e46), (0, .ref aM), (1, .int p0), (2, .int (s36.1 + (-1))), (3, .int e11), (4, .ref q15.1), (7, .int e46)]) hG dX6_ringAt_122 6 rfl rfl (by decide) rfl ?_
                refine z_goto 74 hG dX6_ringAt_125 (by decide) ?_
                exact (z_lv [2, 3, 4, 5, 6, 1, 0] rfl (hB (s36.1 + (-1)) e46 (s36.2.2 + 1) (Option.some.inj hres).symm))
              · intro s44 w45 hres hX hB
                unfold sX6_ringAt_86 at hres
                refine z_aload_n hG dX6_ringAt_86 0 rfl ?_
                refine z_get (ci := 6) (C := RX6) (T := TX6) (N := 8) hG dX6_ringAt_87 iX6_ringAt_X6 1 (by decide) mX6_ringAt_0 rfl rfl 0 rfl rfl ?_
                refine z_iload hG dX6_ringAt_90 5 rfl ?_
                obtain ⟨hr48, hres⟩ := z_guard hres
                refine z_aaldZ hG dX6_ringAt_92 2 rfl hr48 ?_
                refine z_iload hG dX6_ringAt_93 7 rfl ?_
                obtain ⟨hg, hres⟩ := z_guard hres
                refine z_zaldG (M := mJ) hG dX6_ringAt_95 5 (z_12 rfl rfl rfl rfl rfl rfl rfl rfl rfl rfl rfl rfl) hr48 hg ?_
                refine z_if_eq 112 hG dX6_ringAt_96 (by decide) (fun c => ?_) (fun c => ?_)
                · replace hres := z_ifp c hres
                  refine z_iinc (s44 + 1) (lv' := [(7, .int (s44 + 1)), (0, .ref aM), (1, .int p0), (2, .int (s36.1 + (-1))), (3, .int e11), (4, .ref q15.1), (5, .int s36.2.1), (6, .int s36.2.2)]) hG dX6_ringAt_112 7 rfl rfl (by decide) rfl ?_
                  refine z_goto 86 hG dX6_ringAt_115 (by decide) ?_
                  exact (z_lv [1, 2, 3, 4, 5, 6, 7, 0] rfl (hB (s44 + 1) (Option.some.inj hres).symm))
                · replace hres := z_ifn c hres
                  refine z_aload hG dX6_ringAt_99 4 rfl ?_
                  refine z_iload_n hG dX6_ringAt_101 2 rfl ?_
                  refine z_iconst 2 hG dX6_ringAt_102 (by decide) ?_
                  refine z_irem hG dX6_ringAt_103 (by decide) ?_
                  obtain ⟨hr49, hres⟩ := z_guard hres
                  refine z_aaldI hG dX6_ringAt_104 17 rfl hr49 ?_
                  refine z_iload hG dX6_ringAt_105 7 rfl ?_
                  obtain ⟨hg, hres⟩ := z_guard hres
                  refine z_ialdG (M := v14) hG dX6_ringAt_107 18 (z_2 rfl rfl) hr49 hg ?_
                  refine z_iload_n hG dX6_ringAt_108 2 rfl ?_
                  refine z_icmp_eq 118 hG dX6_ringAt_109 (by decide) (fun c => ?_) (fun c => ?_)
                  · replace hres := z_ifp c hres
                    exact (hX s44 (Option.some.inj hres).symm)
                  · replace hres := z_ifn c hres
                    refine z_iinc (s44 + 1) (lv' := [(7, .int (s44 + 1)), (0, .ref aM), (1, .int p0), (2, .int (s36.1 + (-1))), (3, .int e11), (4, .ref q15.1), (5, .int s36.2.1), (6, .int s36.2.2)]) hG dX6_ringAt_112 7 rfl rfl (by decide) rfl ?_
                    refine z_goto 86 hG dX6_ringAt_115 (by decide) ?_
                    exact (z_lv [1, 2, 3, 4, 5, 6, 7, 0] rfl (hB (s44 + 1) (Option.some.inj hres).symm))
        · intro i12 s9 w10 hi hres hX hB
          unfold sX6_ringAt_46 at hres
          refine z_aload_n hG dX6_ringAt_46 0 rfl ?_
          refine z_iload_n hG dX6_ringAt_47 3 rfl ?_
          obtain ⟨v13, hv, hres⟩ := z_bind hres
          refine z_callV (As := [.int s9]) (rest := []) (wr := ([] : va_W)) (ws' := (fun _ : Unit => ([(aM, .inr (6, [.ref aMk, .ref aMj, .int mN, .int mS, .ref aMc, .ref aMw, .int mX, .int v5.2])), (aMk, .inl (K.2 0, 12, .inl mK)), (aMj, .inl (K.2 3, 12, .inr (.inr (.inr (.inr (zo aMr 12)))))), (aMc, .inl (K.2 0, 12, .inl mC)), (aMw, .inl (K.2 0, 12, .inl mW))] ++ zR12Z K aMr mJ))) (stk := (fun _ : Unit => [.int v13])) (kc' := ((288 + 3 * i12) + 3)) (ks' := ((2496 + 26 * i12) + 26)) (n := 1) (C := RX6) (ci := 6) hG dX6_ringAt_48 (kX6_oddWalk _ K aM aMk aMj aMc aMw aMr mN mS mX v5.2 mK mC mW mJ s9 v13 hv) gX6_ringAt_X6_oddWalk rfl rfl rfl ⟨rfl, by decide, by decide, rfl⟩ ⟨by decide, by decide⟩ (Nat.le_of_ble_eq_true rfl) ⟨(by show _ ≤ 387; omega), (by show _ ≤ 3354; omega)⟩ [0, 1, 2, 3, 4, 5, 6, 7, 8, 9, 10, 11, 12, 13, 14, 15, 16] [] [0, 1, 2, 3, 4, 5, 6, 7, 8, 9, 10, 11, 12, 13, 14, 15, 16] rfl rfl rfl rfl (by decide) rfl (fun _ => rfl) (fun _ => rfl) rfl rfl rfl 0 rfl rfl rfl rfl (fun _ => ?_)
          refine z_iload_n hG dX6_ringAt_51 2 rfl ?_
          refine z_icmp_eq 61 hG dX6_ringAt_52 (by decide) (fun c => ?_) (fun c => ?_)
          · replace hres := z_ifp c hres
            exact (z_wid (by omega) (by omega) (hX s9 (Option.some.inj hres).symm))
          · replace hres := z_ifn c hres
            refine z_iinc (s9 + 1) (lv' := [(3, .int (s9 + 1)), (0, .ref aM), (1, .int p0), (2, .int v6)]) hG dX6_ringAt_55 3 rfl rfl (by decide) rfl ?_
            refine z_goto 46 hG dX6_ringAt_58 (by decide) ?_
            exact (z_lv [1, 2, 3, 0] rfl (z_wid (by omega) (by omega) (hB (s9 + 1) (Option.some.inj hres).symm)))
      · replace hres := z_ifp c hres
        refine z_iconst 0 hG dX6_ringAt_37 (by decide) ?_
        obtain rfl := Option.some.inj hres
        exact (z_wid (Nat.le_of_ble_eq_true rfl) (Nat.le_of_ble_eq_true rfl) (hR _ _ dX6_ringAt_38))
    replace hres := hv
    clear hv
    refine z_if_lt 29 hG dX6_ringAt_14 (by decide) (fun c => ?_) (fun c => ?_)
    · replace hres := z_ifp c hres
      refine z_iconst 0 hG dX6_ringAt_29 (by decide) ?_
      obtain rfl := Option.some.inj hres
      exact (z_wid (Nat.le_of_ble_eq_true rfl) (Nat.le_of_ble_eq_true rfl) J)
    · replace hres := z_ifn c hres
      refine z_iload_n hG dX6_ringAt_17 1 rfl ?_
      refine z_aload_n hG dX6_ringAt_18 0 rfl ?_
      obtain ⟨v50, hv, hres⟩ := z_bind hres
      refine z_callV (As := []) (rest := [.int p0, .int v2, .ref aM]) (wr := ([] : va_W)) (ws' := (fun _ : Unit => ([(aM, .inr (6, [.ref aMk, .ref aMj, .int mN, .int mS, .ref aMc, .ref aMw, .int mX, .int mT])), (aMk, .inl (K.2 0, 12, .inl mK)), (aMj, .inl (K.2 3, 12, .inr (.inr (.inr (.inr (zo aMr 12)))))), (aMc, .inl (K.2 0, 12, .inl mC)), (aMw, .inl (K.2 0, 12, .inl mW))] ++ zR12Z K aMr mJ))) (stk := (fun _ : Unit => [.int v50, .int p0, .int v2, .ref aM])) (kc' := 192) (ks' := 1664) (n := 0) (C := RX6) (ci := 6) hG dX6_ringAt_19 (kX6_odd _ K aM aMk aMj aMc aMw aMr mN mS mX mT mK mC mW mJ v50 hv) gX6_ringAt_X6_odd rfl rfl rfl ⟨rfl, by decide, by decide, rfl⟩ ⟨by decide, by decide⟩ (Nat.le_of_ble_eq_true rfl) ⟨(Nat.le_of_ble_eq_true rfl), (Nat.le_of_ble_eq_true rfl)⟩ [0, 1, 2, 3, 4, 5, 6, 7, 8, 9, 10, 11, 12, 13, 14, 15, 16] [] [0, 1, 2, 3, 4, 5, 6, 7, 8, 9, 10, 11, 12, 13, 14, 15, 16] rfl rfl rfl rfl (by decide) rfl (fun _ => rfl) (fun _ => rfl) rfl rfl rfl 0 rfl rfl rfl rfl (fun _ => ?_)
      refine z_icmp_ge 29 hG dX6_ringAt_22 (by decide) (fun c => ?_) (fun c => ?_)
      · replace hres := z_ifp c hres
        refine z_iconst 0 hG dX6_ringAt_29 (by decide) ?_
        obtain rfl := Option.some.inj hres
        exact J
      · replace hres := z_ifn c hres
        refine z_iconst 1 hG dX6_ringAt_25 (by decide) ?_
        refine z_goto 30 hG dX6_ringAt_26 (by decide) ?_
        obtain rfl := Option.some.inj hres
        exact J
  replace hres := hv
  clear hv
  refine z_if_le 12 hG dX6_ringAt_5 (by decide) (fun c => ?_) (fun c => ?_)
  · replace hres := z_ifp c hres
    refine z_iconst 0 hG dX6_ringAt_12 (by decide) ?_
    obtain rfl := Option.some.inj hres
    exact J
  · replace hres := z_ifn c hres
    refine z_iconst 1 hG dX6_ringAt_8 (by decide) ?_
    refine z_goto 13 hG dX6_ringAt_9 (by decide) ?_
    obtain rfl := Option.some.inj hres
    exact J

theorem dX6_checksum_0 : decode cX6_checksum 0 = .ok (.ldc2_w 95, 3) := by decide +kernel
theorem dX6_checksum_3 : decode cX6_checksum 3 = .ok (.lstore_n 1, 1) := by decide +kernel
theorem dX6_checksum_4 : decode cX6_checksum 4 = .ok (.aload_n 0, 1) := by decide +kernel
theorem dX6_checksum_5 : decode cX6_checksum 5 = .ok (.aload_n 0, 1) := by decide +kernel
theorem dX6_checksum_6 : decode cX6_checksum 6 = .ok (.getfield 18, 3) := by decide +kernel
theorem dX6_checksum_9 : decode cX6_checksum 9 = .ok (.invokevirtual 52, 3) := by decide +kernel
theorem dX6_checksum_12 : decode cX6_checksum 12 = .ok (.astore_n 3, 1) := by decide +kernel
theorem dX6_checksum_13 : decode cX6_checksum 13 = .ok (.iconst 0, 1) := by decide +kernel
theorem dX6_checksum_14 : decode cX6_checksum 14 = .ok (.istore 4, 2) := by decide +kernel
theorem dX6_checksum_16 : decode cX6_checksum 16 = .ok (.iload 4, 2) := by decide +kernel
theorem dX6_checksum_18 : decode cX6_checksum 18 = .ok (.aload_n 0, 1) := by decide +kernel
theorem dX6_checksum_19 : decode cX6_checksum 19 = .ok (.getfield 31, 3) := by decide +kernel
theorem dX6_checksum_22 : decode cX6_checksum 22 = .ok (.if_icmp .ge 75, 3) := by decide +kernel
theorem dX6_checksum_25 : decode cX6_checksum 25 = .ok (.ldc2_w 97, 3) := by decide +kernel
theorem dX6_checksum_28 : decode cX6_checksum 28 = .ok (.lload_n 1, 1) := by decide +kernel
theorem dX6_checksum_29 : decode cX6_checksum 29 = .ok (.lmul, 1) := by decide +kernel
theorem dX6_checksum_30 : decode cX6_checksum 30 = .ok (.aload_n 0, 1) := by decide +kernel
theorem dX6_checksum_31 : decode cX6_checksum 31 = .ok (.getfield 9, 3) := by decide +kernel
theorem dX6_checksum_34 : decode cX6_checksum 34 = .ok (.iload 4, 2) := by decide +kernel
theorem dX6_checksum_36 : decode cX6_checksum 36 = .ok (.iaload, 1) := by decide +kernel
theorem dX6_checksum_37 : decode cX6_checksum 37 = .ok (.i2l, 1) := by decide +kernel
theorem dX6_checksum_38 : decode cX6_checksum 38 = .ok (.ladd, 1) := by decide +kernel
theorem dX6_checksum_39 : decode cX6_checksum 39 = .ok (.lstore_n 1, 1) := by decide +kernel
theorem dX6_checksum_40 : decode cX6_checksum 40 = .ok (.ldc2_w 97, 3) := by decide +kernel
theorem dX6_checksum_43 : decode cX6_checksum 43 = .ok (.lload_n 1, 1) := by decide +kernel
theorem dX6_checksum_44 : decode cX6_checksum 44 = .ok (.lmul, 1) := by decide +kernel
theorem dX6_checksum_45 : decode cX6_checksum 45 = .ok (.aload_n 0, 1) := by decide +kernel
theorem dX6_checksum_46 : decode cX6_checksum 46 = .ok (.iload 4, 2) := by decide +kernel
theorem dX6_checksum_48 : decode cX6_checksum 48 = .ok (.invokevirtual 49, 3) := by decide +kernel
theorem dX6_checksum_51 : decode cX6_checksum 51 = .ok (.i2l, 1) := by decide +kernel
theorem dX6_checksum_52 : decode cX6_checksum 52 = .ok (.ladd, 1) := by decide +kernel
theorem dX6_checksum_53 : decode cX6_checksum 53 = .ok (.lstore_n 1, 1) := by decide +kernel
theorem dX6_checksum_54 : decode cX6_checksum 54 = .ok (.ldc2_w 97, 3) := by decide +kernel
theorem dX6_checksum_57 : decode cX6_checksum 57 = .ok (.lload_n 1, 1) := by decide +kernel
theorem dX6_checksum_58 : decode cX6_checksum 58 = .ok (.lmul, 1) := by decide +kernel
theorem dX6_checksum_59 : decode cX6_checksum 59 = .ok (.aload_n 3, 1) := by decide +kernel
theorem dX6_checksum_60 : decode cX6_checksum 60 = .ok (.iload 4, 2) := by decide +kernel
theorem dX6_checksum_62 : decode cX6_checksum 62 = .ok (.iaload, 1) := by decide +kernel
theorem dX6_checksum_63 : decode cX6_checksum 63 = .ok (.i2l, 1) := by decide +kernel
theorem dX6_checksum_64 : decode cX6_checksum 64 = .ok (.ladd, 1) := by decide +kernel
theorem dX6_checksum_65 : decode cX6_checksum 65 = .ok (.lstore_n 1, 1) := by decide +kernel
theorem dX6_checksum_66 : decode cX6_checksum 66 = .ok (.ldc2_w 97, 3) := by decide +kernel
theorem dX6_checksum_69 : decode cX6_checksum 69 = .ok (.lload_n 1, 1) := by decide +kernel
theorem dX6_checksum_70 : decode cX6_checksum 70 = .ok (.lmul, 1) := by decide +kernel
theorem dX6_checksum_71 : decode cX6_checksum 71 = .ok (.aload_n 0, 1) := by decide +kernel
theorem dX6_checksum_72 : decode cX6_checksum 72 = .ok (.getfield 18, 3) := by decide +kernel
theorem dX6_checksum_75 : decode cX6_checksum 75 = .ok (.ifCond .ge 7, 3) := by decide +kernel
theorem dX6_checksum_78 : decode cX6_checksum 78 = .ok (.iconst 0, 1) := by decide +kernel
theorem dX6_checksum_79 : decode cX6_checksum 79 = .ok (.goto 9, 3) := by decide +kernel
theorem dX6_checksum_82 : decode cX6_checksum 82 = .ok (.aload_n 0, 1) := by decide +kernel
theorem dX6_checksum_83 : decode cX6_checksum 83 = .ok (.iload 4, 2) := by decide +kernel
theorem dX6_checksum_85 : decode cX6_checksum 85 = .ok (.invokevirtual 72, 3) := by decide +kernel
theorem dX6_checksum_88 : decode cX6_checksum 88 = .ok (.i2l, 1) := by decide +kernel
theorem dX6_checksum_89 : decode cX6_checksum 89 = .ok (.ladd, 1) := by decide +kernel
theorem dX6_checksum_90 : decode cX6_checksum 90 = .ok (.lstore_n 1, 1) := by decide +kernel
theorem dX6_checksum_91 : decode cX6_checksum 91 = .ok (.iinc 4 1, 3) := by decide +kernel
theorem dX6_checksum_94 : decode cX6_checksum 94 = .ok (.goto (-78), 3) := by decide +kernel
theorem dX6_checksum_97 : decode cX6_checksum 97 = .ok (.ldc2_w 97, 3) := by decide +kernel
theorem dX6_checksum_100 : decode cX6_checksum 100 = .ok (.lload_n 1, 1) := by decide +kernel
theorem dX6_checksum_101 : decode cX6_checksum 101 = .ok (.lmul, 1) := by decide +kernel
theorem dX6_checksum_102 : decode cX6_checksum 102 = .ok (.aload_n 0, 1) := by decide +kernel
theorem dX6_checksum_103 : decode cX6_checksum 103 = .ok (.invokevirtual 99, 3) := by decide +kernel
theorem dX6_checksum_106 : decode cX6_checksum 106 = .ok (.i2l, 1) := by decide +kernel
theorem dX6_checksum_107 : decode cX6_checksum 107 = .ok (.ladd, 1) := by decide +kernel
theorem dX6_checksum_108 : decode cX6_checksum 108 = .ok (.lstore_n 1, 1) := by decide +kernel
theorem dX6_checksum_109 : decode cX6_checksum 109 = .ok (.ldc2_w 97, 3) := by decide +kernel
theorem dX6_checksum_112 : decode cX6_checksum 112 = .ok (.lload_n 1, 1) := by decide +kernel
theorem dX6_checksum_113 : decode cX6_checksum 113 = .ok (.lmul, 1) := by decide +kernel
theorem dX6_checksum_114 : decode cX6_checksum 114 = .ok (.aload_n 0, 1) := by decide +kernel
theorem dX6_checksum_115 : decode cX6_checksum 115 = .ok (.invokevirtual 91, 3) := by decide +kernel
theorem dX6_checksum_118 : decode cX6_checksum 118 = .ok (.ifCond .ne 7, 3) := by decide +kernel
theorem dX6_checksum_121 : decode cX6_checksum 121 = .ok (.iconst 1, 1) := by decide +kernel
theorem dX6_checksum_122 : decode cX6_checksum 122 = .ok (.goto 4, 3) := by decide +kernel
theorem dX6_checksum_125 : decode cX6_checksum 125 = .ok (.iconst 0, 1) := by decide +kernel
theorem dX6_checksum_126 : decode cX6_checksum 126 = .ok (.i2l, 1) := by decide +kernel
theorem dX6_checksum_127 : decode cX6_checksum 127 = .ok (.ladd, 1) := by decide +kernel
theorem dX6_checksum_128 : decode cX6_checksum 128 = .ok (.lstore_n 1, 1) := by decide +kernel
theorem dX6_checksum_129 : decode cX6_checksum 129 = .ok (.ldc2_w 97, 3) := by decide +kernel
theorem dX6_checksum_132 : decode cX6_checksum 132 = .ok (.lload_n 1, 1) := by decide +kernel
theorem dX6_checksum_133 : decode cX6_checksum 133 = .ok (.lmul, 1) := by decide +kernel
theorem dX6_checksum_134 : decode cX6_checksum 134 = .ok (.aload_n 0, 1) := by decide +kernel
theorem dX6_checksum_135 : decode cX6_checksum 135 = .ok (.getfield 46, 3) := by decide +kernel
theorem dX6_checksum_138 : decode cX6_checksum 138 = .ok (.i2l, 1) := by decide +kernel
theorem dX6_checksum_139 : decode cX6_checksum 139 = .ok (.ladd, 1) := by decide +kernel
theorem dX6_checksum_140 : decode cX6_checksum 140 = .ok (.lstore_n 1, 1) := by decide +kernel
theorem dX6_checksum_141 : decode cX6_checksum 141 = .ok (.iconst 0, 1) := by decide +kernel
theorem dX6_checksum_142 : decode cX6_checksum 142 = .ok (.istore 4, 2) := by decide +kernel
theorem dX6_checksum_144 : decode cX6_checksum 144 = .ok (.iload 4, 2) := by decide +kernel
theorem dX6_checksum_146 : decode cX6_checksum 146 = .ok (.aload_n 0, 1) := by decide +kernel
theorem dX6_checksum_147 : decode cX6_checksum 147 = .ok (.getfield 46, 3) := by decide +kernel
theorem dX6_checksum_150 : decode cX6_checksum 150 = .ok (.if_icmp .ge 39, 3) := by decide +kernel
theorem dX6_checksum_153 : decode cX6_checksum 153 = .ok (.ldc2_w 97, 3) := by decide +kernel
theorem dX6_checksum_156 : decode cX6_checksum 156 = .ok (.lload_n 1, 1) := by decide +kernel
theorem dX6_checksum_157 : decode cX6_checksum 157 = .ok (.lmul, 1) := by decide +kernel
theorem dX6_checksum_158 : decode cX6_checksum 158 = .ok (.aload_n 0, 1) := by decide +kernel
theorem dX6_checksum_159 : decode cX6_checksum 159 = .ok (.getfield 22, 3) := by decide +kernel
theorem dX6_checksum_162 : decode cX6_checksum 162 = .ok (.iload 4, 2) := by decide +kernel
theorem dX6_checksum_164 : decode cX6_checksum 164 = .ok (.iaload, 1) := by decide +kernel
theorem dX6_checksum_165 : decode cX6_checksum 165 = .ok (.i2l, 1) := by decide +kernel
theorem dX6_checksum_166 : decode cX6_checksum 166 = .ok (.ladd, 1) := by decide +kernel
theorem dX6_checksum_167 : decode cX6_checksum 167 = .ok (.lstore_n 1, 1) := by decide +kernel
theorem dX6_checksum_168 : decode cX6_checksum 168 = .ok (.ldc2_w 97, 3) := by decide +kernel
theorem dX6_checksum_171 : decode cX6_checksum 171 = .ok (.lload_n 1, 1) := by decide +kernel
theorem dX6_checksum_172 : decode cX6_checksum 172 = .ok (.lmul, 1) := by decide +kernel
theorem dX6_checksum_173 : decode cX6_checksum 173 = .ok (.aload_n 0, 1) := by decide +kernel
theorem dX6_checksum_174 : decode cX6_checksum 174 = .ok (.getfield 25, 3) := by decide +kernel
theorem dX6_checksum_177 : decode cX6_checksum 177 = .ok (.iload 4, 2) := by decide +kernel
theorem dX6_checksum_179 : decode cX6_checksum 179 = .ok (.iaload, 1) := by decide +kernel
theorem dX6_checksum_180 : decode cX6_checksum 180 = .ok (.i2l, 1) := by decide +kernel
theorem dX6_checksum_181 : decode cX6_checksum 181 = .ok (.ladd, 1) := by decide +kernel
theorem dX6_checksum_182 : decode cX6_checksum 182 = .ok (.lstore_n 1, 1) := by decide +kernel
theorem dX6_checksum_183 : decode cX6_checksum 183 = .ok (.iinc 4 1, 3) := by decide +kernel
theorem dX6_checksum_186 : decode cX6_checksum 186 = .ok (.goto (-42), 3) := by decide +kernel
theorem dX6_checksum_189 : decode cX6_checksum 189 = .ok (.aload_n 0, 1) := by decide +kernel
theorem dX6_checksum_190 : decode cX6_checksum 190 = .ok (.iconst 0, 1) := by decide +kernel
theorem dX6_checksum_191 : decode cX6_checksum 191 = .ok (.putfield 28, 3) := by decide +kernel
theorem dX6_checksum_194 : decode cX6_checksum 194 = .ok (.lload_n 1, 1) := by decide +kernel
theorem dX6_checksum_195 : decode cX6_checksum 195 = .ok (.lreturn, 1) := by decide +kernel
set_option maxRecDepth 20000 in
theorem ggX6_checksum_X6_lengths : GoodIn wsX6_checksum wsX6_lengths := goodIn_r _ [14, 15, 3, 16, 50, 51, 52, 53, 54, 55, 56, 57] (by decide +kernel) (by decide +kernel)
set_option maxRecDepth 20000 in
theorem gX6_checksum_X6_lengths : GoodIn wsX6_checksum (wsV RX6 52 RX6 yX6_lengths wsX6_lengths) := goodIn_app (goodIn_of _ (by decide +kernel)) ggX6_checksum_X6_lengths
set_option maxRecDepth 20000 in
theorem ggX6_checksum_X6_degree : GoodIn wsX6_checksum wsX6_degree := goodIn_r _ [20, 3, 16, 50, 51, 52, 53, 54, 55, 56, 57] (by decide +kernel) (by decide +kernel)
set_option maxRecDepth 20000 in
theorem gX6_checksum_X6_degree : GoodIn wsX6_checksum (wsV RX6 49 RX6 yX6_degree wsX6_degree) := goodIn_app (goodIn_of _ (by decide +kernel)) ggX6_checksum_X6_degree
set_option maxRecDepth 20000 in
theorem ggX6_checksum_X6_allWays : GoodIn wsX6_checksum wsX6_allWays := goodIn_r _ [24, 2, 10, 11, 12, 13, 14, 15, 3, 16, 25, 26, 27, 28, 50, 51, 52, 53, 54, 55, 56, 57] (by decide +kernel) (by decide +kernel)
set_option maxRecDepth 20000 in
theorem gX6_checksum_X6_allWays : GoodIn wsX6_checksum (wsV RX6 72 RX6 yX6_allWays wsX6_allWays) := goodIn_app (goodIn_of _ (by decide +kernel)) ggX6_checksum_X6_allWays
set_option maxRecDepth 20000 in
theorem ggX6_checksum_X6_parts : GoodIn wsX6_checksum wsX6_parts := goodIn_r _ [32, 9, 3, 33, 34, 35, 13, 36, 10, 11, 12, 14, 15, 16, 50, 51, 52, 53, 54, 55, 56, 57] (by decide +kernel) (by decide +kernel)
set_option maxRecDepth 20000 in
theorem gX6_checksum_X6_parts : GoodIn wsX6_checksum (wsV RX6 99 RX6 yX6_parts wsX6_parts) := goodIn_app (goodIn_of _ (by decide +kernel)) ggX6_checksum_X6_parts
set_option maxRecDepth 20000 in
theorem ggX6_checksum_X6_odd : GoodIn wsX6_checksum wsX6_odd := goodIn_r _ [40, 3, 41, 42, 43, 13, 44, 45, 46, 47, 48, 49, 15, 16, 50, 51, 52, 53, 54, 55, 56, 57] (by decide +kernel) (by decide +kernel)
set_option maxRecDepth 20000 in
theorem gX6_checksum_X6_odd : GoodIn wsX6_checksum (wsV RX6 91 RX6 yX6_odd wsX6_odd) := goodIn_app (goodIn_of _ (by decide +kernel)) ggX6_checksum_X6_odd
theorem mX6_checksum_0 : Cond.constantLong RX6 95 (7) ∈ wsX6_checksum := by decide +kernel
theorem mX6_checksum_1 : Cond.fieldLink RX6 18 "LayerwaysModel" "start" "I" ∈ wsX6_checksum := by decide +kernel
theorem iX6_checksum_X6 : ∀ w ∈ u_ws RX6 TX6 8, w ∈ wsX6_checksum := by decide +kernel
theorem mX6_checksum_3 : Cond.fieldLink RX6 31 "LayerwaysModel" "many" "I" ∈ wsX6_checksum := by decide +kernel
theorem mX6_checksum_4 : Cond.constantLong RX6 97 (31) ∈ wsX6_checksum := by decide +kernel
theorem mX6_checksum_5 : Cond.fieldLink RX6 9 "LayerwaysModel" "keys" "[I" ∈ wsX6_checksum := by decide +kernel
theorem mX6_checksum_6 : Cond.fieldLink RX6 46 "LayerwaysModel" "changes" "I" ∈ wsX6_checksum := by decide +kernel
theorem mX6_checksum_7 : Cond.fieldLink RX6 22 "LayerwaysModel" "changed" "[I" ∈ wsX6_checksum := by decide +kernel
theorem mX6_checksum_8 : Cond.fieldLink RX6 25 "LayerwaysModel" "was" "[I" ∈ wsX6_checksum := by decide +kernel
theorem mX6_checksum_9 : Cond.fieldLink RX6 28 "LayerwaysModel" "thrown" "I" ∈ wsX6_checksum := by decide +kernel
def sX6_checksum_16 (mN : Int32) (mS : Int32) (mK : (Nat → Int32)) (mJ : (Nat → Nat → Int32)) (v1 : (Nat → Int32)) (s7 : Int64 × Int32) : Option ((Int64 × Int32) ⊕ (Int64 × Int32)) := if mN ≤ s7.2 then some (.inl (s7.1, s7.2)) else if zin s7.2 12 then (fX6_degree mN mJ s7.2).bind fun v11 => if zin s7.2 12 then if 0 ≤ mS then (fX6_allWays mN mS mJ s7.2).bind fun v12 => some (.inr ((((31 : Int64) * (((31 : Int64) * (((31 : Int64) * (((31 : Int64) * s7.1) + (mK s7.2.toNatClampNeg).toInt64)) + v11.toInt64)) + (v1 s7.2.toNatClampNeg).toInt64)) + v12.toInt64), (s7.2 + 1))) else some (.inr ((((31 : Int64) * (((31 : Int64) * (((31 : Int64) * (((31 : Int64) * s7.1) + (mK s7.2.toNatClampNeg).toInt64)) + v11.toInt64)) + (v1 s7.2.toNatClampNeg).toInt64)) + (0 : Int32).toInt64), (s7.2 + 1))) else none else none
def sX6_checksum_144 (mX : Int32) (mC : (Nat → Int32)) (mW : (Nat → Int32)) (s16 : Int64 × Int32) : Option ((Int64 × Int32) ⊕ (Int64 × Int32)) := if mX ≤ s16.2 then some (.inl (s16.1, s16.2)) else if zin s16.2 12 then if zin s16.2 12 then some (.inr ((((31 : Int64) * (((31 : Int64) * s16.1) + (mC s16.2.toNatClampNeg).toInt64)) + (mW s16.2.toNatClampNeg).toInt64), (s16.2 + 1))) else none else none
def fX6_checksum (mN : Int32) (mS : Int32) (mX : Int32) (mK : (Nat → Int32)) (mC : (Nat → Int32)) (mW : (Nat → Int32)) (mJ : (Nat → Nat → Int32)) : Option (Int64 × Int32) := (fX6_lengths mN mJ mS).bind fun v1 => (zloop (sX6_checksum_16 mN mS mK mJ v1) 32 (7, 0)).bind fun e9 => (fX6_parts mN mJ).bind fun v13 => (fX6_odd mN mJ).bind fun v14 => ((if v14 = 0 then some 1 else some 0) : Option Int32).bind fun v15 => (zloop (sX6_checksum_144 mX mC mW) 32 ((((31 : Int64) * (((31 : Int64) * (((31 : Int64) * e9.1) + v13.1.toInt64)) + v15.toInt64)) + mX.toInt64), 0)).bind fun e18 => some (e18.1, 0)
set_option maxRecDepth 100000 in
set_option maxHeartbeats 4000000 in
theorem kX6_checksum (l : Launch) (K : zK) (aM : Nat) (aMk : Nat) (aMj : Nat) (aMc : Nat) (aMw : Nat) (aMr : (Nat → Nat))  (mN : Int32) (mS : Int32) (mX : Int32) (mT : Int32) (mK : (Nat → Int32)) (mC : (Nat → Int32)) (mW : (Nat → Int32)) (mJ : (Nat → Nat → Int32)) (r : Int64 × Int32) (hres : fX6_checksum mN mS mX mK mC mW mJ = some r) : zM l K yX6_checksum wsX6_checksum ({ frames := 3, cells := 193, slots := 1996, locals := 71 }) [.ref aM] ([(aM, .inr (6, [.ref aMk, .ref aMj, .int mN, .int mS, .ref aMc, .ref aMw, .int mX, .int mT])), (aMk, .inl (K.2 0, 12, .inl mK)), (aMj, .inl (K.2 3, 12, .inr (.inr (.inr (.inr (zo aMr 12)))))), (aMc, .inl (K.2 0, 12, .inl mC)), (aMw, .inl (K.2 0, 12, .inl mW))] ++ zR12Z K aMr mJ) (fun _ : Unit => some (.long r.1)) (fun _ : Unit => ([(aM, .inr (6, [.ref aMk, .ref aMj, .int mN, .int mS, .ref aMc, .ref aMw, .int mX, .int r.2])), (aMk, .inl (K.2 0, 12, .inl mK)), (aMj, .inl (K.2 3, 12, .inr (.inr (.inr (.inr (zo aMr 12)))))), (aMc, .inl (K.2 0, 12, .inl mC)), (aMw, .inl (K.2 0, 12, .inl mW))] ++ zR12Z K aMr mJ)) 193 1996 := by
  refine zM.intL (cc := cX6_checksum) (maxL := 5) (ret := (some .long)) rfl (by decide) (Nat.le_of_ble_eq_true rfl) rfl ?_
  intro G hGl hG hN hE
  have hR : ∀ (pc : Nat) (lv : zL), decode cX6_checksum pc = .ok (.lreturn, 1) → zj G pc lv [.long r.1] ([(aM, .inr (6, [.ref aMk, .ref aMj, .int mN, .int mS, .ref aMc, .ref aMw, .int mX, .int r.2])), (aMk, .inl (K.2 0, 12, .inl mK)), (aMj, .inl (K.2 3, 12, .inr (.inr (.inr (.inr (zo aMr 12)))))), (aMc, .inl (K.2 0, 12, .inl mC)), (aMw, .inl (K.2 0, 12, .inl mW))] ++ zR12Z K aMr mJ) 193 1996 := fun pc lv d => hE () _ rfl pc lv d
  clear hE
  unfold fX6_checksum at hres
  show zj G 0 [(0, .ref aM)] [] ([(aM, .inr (6, [.ref aMk, .ref aMj, .int mN, .int mS, .ref aMc, .ref aMw, .int mX, .int mT])), (aMk, .inl (K.2 0, 12, .inl mK)), (aMj, .inl (K.2 3, 12, .inr (.inr (.inr (.inr (zo aMr 12)))))), (aMc, .inl (K.2 0, 12, .inl mC)), (aMw, .inl (K.2 0, 12, .inl mW))] ++ zR12Z K aMr mJ) 0 0
  refine z_ldc2 hG dX6_checksum_0 mX6_checksum_0 ?_
  refine z_lstore_n (lv' := [(1, .long 7), (0, .ref aM)]) hG dX6_checksum_3 (by decide) rfl ?_
  refine z_aload_n hG dX6_checksum_4 1 rfl ?_
  refine z_aload_n hG dX6_checksum_5 1 rfl ?_
  refine z_get (ci := 6) (C := RX6) (T := TX6) (N := 8) hG dX6_checksum_6 iX6_checksum_X6 3 (by decide) mX6_checksum_1 rfl rfl 0 rfl rfl ?_
  obtain ⟨v1, hv, hres⟩ := z_bind hres
  refine z_callV (As := [.int mS]) (rest := []) (wr := ([] : va_W)) (ws' := (fun q2 : Nat => ([(aM, .inr (6, [.ref aMk, .ref aMj, .int mN, .int mS, .ref aMc, .ref aMw, .int mX, .int mT])), (aMk, .inl (K.2 0, 12, .inl mK)), (aMj, .inl (K.2 3, 12, .inr (.inr (.inr (.inr (zo aMr 12)))))), (aMc, .inl (K.2 0, 12, .inl mC)), (aMw, .inl (K.2 0, 12, .inl mW))] ++ zR12Z K aMr mJ ++ [(q2, .inl (K.2 0, 12, .inl v1))]))) (stk := (fun q2 : Nat => [.ref q2])) (kc' := 1) (ks' := 12) (n := 1) (C := RX6) (ci := 6) hG dX6_checksum_9 (kX6_lengths _ K aM aMk aMj aMc aMw aMr mN mS mX mT mK mC mW mJ mS v1 hv) gX6_checksum_X6_lengths rfl rfl rfl ⟨rfl, by decide, by decide, rfl⟩ ⟨by decide, by decide⟩ (Nat.le_of_ble_eq_true rfl) ⟨(Nat.le_of_ble_eq_true rfl), (Nat.le_of_ble_eq_true rfl)⟩ [0, 1, 2, 3, 4, 5, 6, 7, 8, 9, 10, 11, 12, 13, 14, 15, 16] [] [0, 1, 2, 3, 4, 5, 6, 7, 8, 9, 10, 11, 12, 13, 14, 15, 16, 17] rfl rfl rfl rfl (by decide) rfl (fun _ => rfl) (fun _ => rfl) rfl rfl rfl 0 rfl rfl rfl rfl (fun q2 => ?_)
  refine z_astore_n (lv' := [(3, .ref q2), (1, .long 7), (0, .ref aM)]) hG dX6_checksum_12 (by decide) rfl ?_
  refine z_iconst 0 hG dX6_checksum_13 (by decide) ?_
  refine z_istore (lv' := [(4, .int 0), (3, .ref q2), (1, .long 7), (0, .ref aM)]) hG dX6_checksum_14 (by decide) rfl ?_
  obtain ⟨e9, hx, hres⟩ := z_bind hres
  refine z_lv [3, 2, 1, 0] (lv' := [(0, .ref aM), (1, .long 7), (3, .ref q2), (4, .int 0)]) rfl ?_
  refine z_loopA hx (fun s7 : Int64 × Int32 => [(0, .ref aM), (1, .long s7.1), (3, .ref q2), (4, .int s7.2)]) (fun s7 : Int64 × Int32 => ([(aM, .inr (6, [.ref aMk, .ref aMj, .int mN, .int mS, .ref aMc, .ref aMw, .int mX, .int mT])), (aMk, .inl (K.2 0, 12, .inl mK)), (aMj, .inl (K.2 3, 12, .inr (.inr (.inr (.inr (zo aMr 12)))))), (aMc, .inl (K.2 0, 12, .inl mC)), (aMw, .inl (K.2 0, 12, .inl mW))] ++ zR12Z K aMr mJ ++ [(q2, .inl (K.2 0, 12, .inl v1))])) 2 24 (fun e9 : Int64 × Int32 => zj G 97 [(0, .ref aM), (1, .long e9.1), (3, .ref q2), (4, .int e9.2)] [] ([(aM, .inr (6, [.ref aMk, .ref aMj, .int mN, .int mS, .ref aMc, .ref aMw, .int mX, .int mT])), (aMk, .inl (K.2 0, 12, .inl mK)), (aMj, .inl (K.2 3, 12, .inr (.inr (.inr (.inr (zo aMr 12)))))), (aMc, .inl (K.2 0, 12, .inl mC)), (aMw, .inl (K.2 0, 12, .inl mW))] ++ zR12Z K aMr mJ ++ [(q2, .inl (K.2 0, 12, .inl v1))]) 65 780) ?_ ?_
  · refine z_ldc2 hG dX6_checksum_97 mX6_checksum_4 ?_
    refine z_lload_n hG dX6_checksum_100 1 rfl ?_
    refine z_lmul hG dX6_checksum_101 ?_
    refine z_aload_n hG dX6_checksum_102 0 rfl ?_
    obtain ⟨v13, hv, hres⟩ := z_bind hres
    refine z_callV (As := []) (rest := [.long ((31 : Int64) * e9.1)]) (wr := [(q2, .inl (K.2 0, 12, .inl v1))]) (ws' := (fun _ : Unit => ([(aM, .inr (6, [.ref aMk, .ref aMj, .int mN, .int mS, .ref aMc, .ref aMw, .int mX, .int v13.2])), (aMk, .inl (K.2 0, 12, .inl mK)), (aMj, .inl (K.2 3, 12, .inr (.inr (.inr (.inr (zo aMr 12)))))), (aMc, .inl (K.2 0, 12, .inl mC)), (aMw, .inl (K.2 0, 12, .inl mW))] ++ zR12Z K aMr mJ ++ [(q2, .inl (K.2 0, 12, .inl v1))]))) (stk := (fun _ : Unit => [.int v13.1, .long ((31 : Int64) * e9.1)])) (kc' := 97) (ks' := 1164) (n := 0) (C := RX6) (ci := 6) hG dX6_checksum_103 (kX6_parts _ K aM aMk aMj aMc aMw aMr mN mS mX mT mK mC mW mJ v13 hv) gX6_checksum_X6_parts rfl rfl rfl ⟨rfl, by decide, by decide, rfl⟩ ⟨by decide, by decide⟩ (Nat.le_of_ble_eq_true rfl) ⟨(Nat.le_of_ble_eq_true rfl), (Nat.le_of_ble_eq_true rfl)⟩ [0, 1, 2, 3, 4, 5, 6, 7, 8, 9, 10, 11, 12, 13, 14, 15, 16] [17] [1, 2, 3, 4, 5, 6, 7, 8, 9, 10, 11, 12, 13, 14, 15, 16, 17, 0] rfl rfl rfl rfl (by decide) rfl (fun _ => rfl) (fun _ => rfl) rfl rfl rfl 0 rfl rfl rfl rfl (fun _ => ?_)
    refine z_i2l hG dX6_checksum_106 ?_
    refine z_ladd hG dX6_checksum_107 ?_
    refine z_lstore_n (lv' := [(1, .long (((31 : Int64) * e9.1) + v13.1.toInt64)), (0, .ref aM), (3, .ref q2), (4, .int e9.2)]) hG dX6_checksum_108 (by decide) rfl ?_
    refine z_ldc2 hG dX6_checksum_109 mX6_checksum_4 ?_
    refine z_lload_n hG dX6_checksum_112 0 rfl ?_
    refine z_lmul hG dX6_checksum_113 ?_
    refine z_aload_n hG dX6_checksum_114 1 rfl ?_
    obtain ⟨v14, hv, hres⟩ := z_bind hres
    refine z_callV (As := []) (rest := [.long ((31 : Int64) * (((31 : Int64) * e9.1) + v13.1.toInt64))]) (wr := [(q2, .inl (K.2 0, 12, .inl v1))]) (ws' := (fun _ : Unit => ([(aM, .inr (6, [.ref aMk, .ref aMj, .int mN, .int mS, .ref aMc, .ref aMw, .int mX, .int v13.2])), (aMk, .inl (K.2 0, 12, .inl mK)), (aMj, .inl (K.2 3, 12, .inr (.inr (.inr (.inr (zo aMr 12)))))), (aMc, .inl (K.2 0, 12, .inl mC)), (aMw, .inl (K.2 0, 12, .inl mW))] ++ zR12Z K aMr mJ ++ [(q2, .inl (K.2 0, 12, .inl v1))]))) (stk := (fun _ : Unit => [.int v14, .long ((31 : Int64) * (((31 : Int64) * e9.1) + v13.1.toInt64))])) (kc' := 193) (ks' := 1996) (n := 0) (C := RX6) (ci := 6) hG dX6_checksum_115 (kX6_odd _ K aM aMk aMj aMc aMw aMr mN mS mX v13.2 mK mC mW mJ v14 hv) gX6_checksum_X6_odd rfl rfl rfl ⟨rfl, by decide, by decide, rfl⟩ ⟨by decide, by decide⟩ (Nat.le_of_ble_eq_true rfl) ⟨(Nat.le_of_ble_eq_true rfl), (Nat.le_of_ble_eq_true rfl)⟩ [0, 1, 2, 3, 4, 5, 6, 7, 8, 9, 10, 11, 12, 13, 14, 15, 16] [17] [1, 2, 3, 4, 5, 6, 7, 8, 9, 10, 11, 12, 13, 14, 15, 16, 17, 0] rfl rfl rfl rfl (by decide) rfl (fun _ => rfl) (fun _ => rfl) rfl rfl rfl 0 rfl rfl rfl rfl (fun _ => ?_)
    obtain ⟨v15, hv, hres⟩ := z_bind hres
    have J : zj G 126 [(1, .long (((31 : Int64) * e9.1) + v13.1.toInt64)), (0, .ref aM), (3, .ref q2), (4, .int e9.2)] [.int v15, .long ((31 : Int64) * (((31 : Int64) * e9.1) + v13.1.toInt64))] ([(aM, .inr (6, [.ref aMk, .ref aMj, .int mN, .int mS, .ref aMc, .ref aMw, .int mX, .int v13.2])), (aMk, .inl (K.2 0, 12, .inl mK)), (aMj, .inl (K.2 3, 12, .inr (.inr (.inr (.inr (zo aMr 12)))))), (aMc, .inl (K.2 0, 12, .inl mC)), (aMw, .inl (K.2 0, 12, .inl mW))] ++ zR12Z K aMr mJ ++ [(q2, .inl (K.2 0, 12, .inl v1))]) 193 1996 := by
      refine z_i2l hG dX6_checksum_126 ?_
      refine z_ladd hG dX6_checksum_127 ?_
      refine z_lstore_n (lv' := [(1, .long (((31 : Int64) * (((31 : Int64) * e9.1) + v13.1.toInt64)) + v15.toInt64)), (0, .ref aM), (3, .ref q2), (4, .int e9.2)]) hG dX6_checksum_128 (by decide) rfl ?_
      refine z_ldc2 hG dX6_checksum_129 mX6_checksum_4 ?_
      refine z_lload_n hG dX6_checksum_132 0 rfl ?_
      refine z_lmul hG dX6_checksum_133 ?_
      refine z_aload_n hG dX6_checksum_134 1 rfl ?_
      refine z_get (ci := 6) (C := RX6) (T := TX6) (N := 8) hG dX6_checksum_135 iX6_checksum_X6 6 (by decide) mX6_checksum_6 rfl rfl 0 rfl rfl ?_
      refine z_i2l hG dX6_checksum_138 ?_
      refine z_ladd hG dX6_checksum_139 ?_
      refine z_lstore_n (lv' := [(1, .long (((31 : Int64) * (((31 : Int64) * (((31 : Int64) * e9.1) + v13.1.toInt64)) + v15.toInt64)) + mX.toInt64)), (0, .ref aM), (3, .ref q2), (4, .int e9.2)]) hG dX6_checksum_140 (by decide) rfl ?_
      refine z_iconst 0 hG dX6_checksum_141 (by decide) ?_
      refine z_istore (lv' := [(4, .int 0), (1, .long (((31 : Int64) * (((31 : Int64) * (((31 : Int64) * e9.1) + v13.1.toInt64)) + v15.toInt64)) + mX.toInt64)), (0, .ref aM), (3, .ref q2)]) hG dX6_checksum_142 (by decide) rfl ?_
      obtain ⟨e18, hx, hres⟩ := z_bind hres
      refine z_lv [2, 1, 3, 0] (lv' := [(0, .ref aM), (1, .long (((31 : Int64) * (((31 : Int64) * (((31 : Int64) * e9.1) + v13.1.toInt64)) + v15.toInt64)) + mX.toInt64)), (3, .ref q2), (4, .int 0)]) rfl ?_
      refine z_loop hx (fun s16 : Int64 × Int32 => [(0, .ref aM), (1, .long s16.1), (3, .ref q2), (4, .int s16.2)]) (fun s16 : Int64 × Int32 => ([(aM, .inr (6, [.ref aMk, .ref aMj, .int mN, .int mS, .ref aMc, .ref aMw, .int mX, .int v13.2])), (aMk, .inl (K.2 0, 12, .inl mK)), (aMj, .inl (K.2 3, 12, .inr (.inr (.inr (.inr (zo aMr 12)))))), (aMc, .inl (K.2 0, 12, .inl mC)), (aMw, .inl (K.2 0, 12, .inl mW))] ++ zR12Z K aMr mJ ++ [(q2, .inl (K.2 0, 12, .inl v1))])) (fun e18 : Int64 × Int32 => zj G 189 [(0, .ref aM), (1, .long e18.1), (3, .ref q2), (4, .int e18.2)] [] ([(aM, .inr (6, [.ref aMk, .ref aMj, .int mN, .int mS, .ref aMc, .ref aMw, .int mX, .int v13.2])), (aMk, .inl (K.2 0, 12, .inl mK)), (aMj, .inl (K.2 3, 12, .inr (.inr (.inr (.inr (zo aMr 12)))))), (aMc, .inl (K.2 0, 12, .inl mC)), (aMw, .inl (K.2 0, 12, .inl mW))] ++ zR12Z K aMr mJ ++ [(q2, .inl (K.2 0, 12, .inl v1))]) 193 1996) ?_ ?_
      · refine z_aload_n hG dX6_checksum_189 0 rfl ?_
        refine z_iconst 0 hG dX6_checksum_190 (by decide) ?_
        refine z_put (ci := 6) (C := RX6) (T := TX6) (N := 8) (ws' := ([(aM, .inr (6, [.ref aMk, .ref aMj, .int mN, .int mS, .ref aMc, .ref aMw, .int mX, .int 0])), (aMk, .inl (K.2 0, 12, .inl mK)), (aMj, .inl (K.2 3, 12, .inr (.inr (.inr (.inr (zo aMr 12)))))), (aMc, .inl (K.2 0, 12, .inl mC)), (aMw, .inl (K.2 0, 12, .inl mW))] ++ zR12Z K aMr mJ ++ [(q2, .inl (K.2 0, 12, .inl v1))])) hG dX6_checksum_191 iX6_checksum_X6 tyX6_ok nmX6 7 (by decide) mX6_checksum_9 rfl rfl rfl rfl rfl rfl 0 rfl (Nat.le_of_ble_eq_true rfl) rfl ?_
        refine z_lload_n hG dX6_checksum_194 1 rfl ?_
        obtain rfl := Option.some.inj hres
        exact (z_ws [0, 1, 2, 3, 4, 5, 6, 7, 8, 9, 10, 11, 12, 13, 14, 15, 16] rfl rfl (hR _ _ dX6_checksum_195))
      · intro s16 w17 hres hX hB
        unfold sX6_checksum_144 at hres
        replace hB : ∀ (z0 : Int64) (z1 : Int32), w17 = .inr (z0, z1) → zj G 144 [(0, .ref aM), (1, .long z0), (3, .ref q2), (4, .int z1)] [] ([(aM, .inr (6, [.ref aMk, .ref aMj, .int mN, .int mS, .ref aMc, .ref aMw, .int mX, .int v13.2])), (aMk, .inl (K.2 0, 12, .inl mK)), (aMj, .inl (K.2 3, 12, .inr (.inr (.inr (.inr (zo aMr 12)))))), (aMc, .inl (K.2 0, 12, .inl mC)), (aMw, .inl (K.2 0, 12, .inl mW))] ++ zR12Z K aMr mJ ++ [(q2, .inl (K.2 0, 12, .inl v1))]) 193 1996 := fun z0 z1 h => hB (z0, z1) h
        replace hX : ∀ (z0 : Int64) (z1 : Int32), w17 = .inl (z0, z1) → zj G 189 [(0, .ref aM), (1, .long z0), (3, .ref q2), (4, .int z1)] [] ([(aM, .inr (6, [.ref aMk, .ref aMj, .int mN, .int mS, .ref aMc, .ref aMw, .int mX, .int v13.2])), (aMk, .inl (K.2 0, 12, .inl mK)), (aMj, .inl (K.2 3, 12, .inr (.inr (.inr (.inr (zo aMr 12)))))), (aMc, .inl (K.2 0, 12, .inl mC)), (aMw, .inl (K.2 0, 12, .inl mW))] ++ zR12Z K aMr mJ ++ [(q2, .inl (K.2 0, 12, .inl v1))]) 193 1996 := fun z0 z1 h => hX (z0, z1) h
        refine z_iload hG dX6_checksum_144 3 rfl ?_
        refine z_aload_n hG dX6_checksum_146 0 rfl ?_
        refine z_get (ci := 6) (C := RX6) (T := TX6) (N := 8) hG dX6_checksum_147 iX6_checksum_X6 6 (by decide) mX6_checksum_6 rfl rfl 0 rfl rfl ?_
        refine z_icmp_ge 189 hG dX6_checksum_150 (by decide) (fun c => ?_) (fun c => ?_)
        · replace hres := z_ifp c hres
          exact (hX s16.1 s16.2 (Option.some.inj hres).symm)
        · replace hres := z_ifn c hres
          refine z_ldc2 hG dX6_checksum_153 mX6_checksum_4 ?_
          refine z_lload_n hG dX6_checksum_156 1 rfl ?_
          refine z_lmul hG dX6_checksum_157 ?_
          refine z_aload_n hG dX6_checksum_158 0 rfl ?_
          refine z_get (ci := 6) (C := RX6) (T := TX6) (N := 8) hG dX6_checksum_159 iX6_checksum_X6 4 (by decide) mX6_checksum_7 rfl rfl 0 rfl rfl ?_
          refine z_iload hG dX6_checksum_162 3 rfl ?_
          obtain ⟨hg, hres⟩ := z_guard hres
          refine z_iald hG dX6_checksum_164 3 rfl hg ?_
          refine z_i2l hG dX6_checksum_165 ?_
          refine z_ladd hG dX6_checksum_166 ?_
          refine z_lstore_n (lv' := [(1, .long (((31 : Int64) * s16.1) + (mC s16.2.toNatClampNeg).toInt64)), (0, .ref aM), (3, .ref q2), (4, .int s16.2)]) hG dX6_checksum_167 (by decide) rfl ?_
          refine z_ldc2 hG dX6_checksum_168 mX6_checksum_4 ?_
          refine z_lload_n hG dX6_checksum_171 0 rfl ?_
          refine z_lmul hG dX6_checksum_172 ?_
          refine z_aload_n hG dX6_checksum_173 1 rfl ?_
          refine z_get (ci := 6) (C := RX6) (T := TX6) (N := 8) hG dX6_checksum_174 iX6_checksum_X6 5 (by decide) mX6_checksum_8 rfl rfl 0 rfl rfl ?_
          refine z_iload hG dX6_checksum_177 3 rfl ?_
          obtain ⟨hg, hres⟩ := z_guard hres
          refine z_iald hG dX6_checksum_179 4 rfl hg ?_
          refine z_i2l hG dX6_checksum_180 ?_
          refine z_ladd hG dX6_checksum_181 ?_
          refine z_lstore_n (lv' := [(1, .long (((31 : Int64) * (((31 : Int64) * s16.1) + (mC s16.2.toNatClampNeg).toInt64)) + (mW s16.2.toNatClampNeg).toInt64)), (0, .ref aM), (3, .ref q2), (4, .int s16.2)]) hG dX6_checksum_182 (by decide) rfl ?_
          refine z_iinc (s16.2 + 1) (lv' := [(4, .int (s16.2 + 1)), (1, .long (((31 : Int64) * (((31 : Int64) * s16.1) + (mC s16.2.toNatClampNeg).toInt64)) + (mW s16.2.toNatClampNeg).toInt64)), (0, .ref aM), (3, .ref q2)]) hG dX6_checksum_183 3 rfl rfl (by decide) rfl ?_
          refine z_goto 144 hG dX6_checksum_186 (by decide) ?_
          exact (z_lv [2, 1, 3, 0] rfl (hB (((31 : Int64) * (((31 : Int64) * s16.1) + (mC s16.2.toNatClampNeg).toInt64)) + (mW s16.2.toNatClampNeg).toInt64) (s16.2 + 1) (Option.some.inj hres).symm))
    replace hres := hv
    clear hv
    refine z_if_ne 125 hG dX6_checksum_118 (by decide) (fun c => ?_) (fun c => ?_)
    · replace hres := z_ifn c hres
      refine z_iconst 0 hG dX6_checksum_125 (by decide) ?_
      obtain rfl := Option.some.inj hres
      exact J
    · replace hres := z_ifp c hres
      refine z_iconst 1 hG dX6_checksum_121 (by decide) ?_
      refine z_goto 126 hG dX6_checksum_122 (by decide) ?_
      obtain rfl := Option.some.inj hres
      exact J
  · intro i10 s7 w8 hi hres hX hB
    unfold sX6_checksum_16 at hres
    replace hB : ∀ (z0 : Int64) (z1 : Int32), w8 = .inr (z0, z1) → zj G 16 [(0, .ref aM), (1, .long z0), (3, .ref q2), (4, .int z1)] [] ([(aM, .inr (6, [.ref aMk, .ref aMj, .int mN, .int mS, .ref aMc, .ref aMw, .int mX, .int mT])), (aMk, .inl (K.2 0, 12, .inl mK)), (aMj, .inl (K.2 3, 12, .inr (.inr (.inr (.inr (zo aMr 12)))))), (aMc, .inl (K.2 0, 12, .inl mC)), (aMw, .inl (K.2 0, 12, .inl mW))] ++ zR12Z K aMr mJ ++ [(q2, .inl (K.2 0, 12, .inl v1))]) (1 + 2 * (i10 + 1)) (12 + 24 * (i10 + 1)) := fun z0 z1 h => hB (z0, z1) h
    replace hX : ∀ (z0 : Int64) (z1 : Int32), w8 = .inl (z0, z1) → zj G 97 [(0, .ref aM), (1, .long z0), (3, .ref q2), (4, .int z1)] [] ([(aM, .inr (6, [.ref aMk, .ref aMj, .int mN, .int mS, .ref aMc, .ref aMw, .int mX, .int mT])), (aMk, .inl (K.2 0, 12, .inl mK)), (aMj, .inl (K.2 3, 12, .inr (.inr (.inr (.inr (zo aMr 12)))))), (aMc, .inl (K.2 0, 12, .inl mC)), (aMw, .inl (K.2 0, 12, .inl mW))] ++ zR12Z K aMr mJ ++ [(q2, .inl (K.2 0, 12, .inl v1))]) 65 780 := fun z0 z1 h => hX (z0, z1) h
    refine z_iload hG dX6_checksum_16 3 rfl ?_
    refine z_aload_n hG dX6_checksum_18 0 rfl ?_
    refine z_get (ci := 6) (C := RX6) (T := TX6) (N := 8) hG dX6_checksum_19 iX6_checksum_X6 2 (by decide) mX6_checksum_3 rfl rfl 0 rfl rfl ?_
    refine z_icmp_ge 97 hG dX6_checksum_22 (by decide) (fun c => ?_) (fun c => ?_)
    · replace hres := z_ifp c hres
      exact (z_wid (by omega) (by omega) (hX s7.1 s7.2 (Option.some.inj hres).symm))
    · replace hres := z_ifn c hres
      refine z_ldc2 hG dX6_checksum_25 mX6_checksum_4 ?_
      refine z_lload_n hG dX6_checksum_28 1 rfl ?_
      refine z_lmul hG dX6_checksum_29 ?_
      refine z_aload_n hG dX6_checksum_30 0 rfl ?_
      refine z_get (ci := 6) (C := RX6) (T := TX6) (N := 8) hG dX6_checksum_31 iX6_checksum_X6 0 (by decide) mX6_checksum_5 rfl rfl 0 rfl rfl ?_
      refine z_iload hG dX6_checksum_34 3 rfl ?_
      obtain ⟨hg, hres⟩ := z_guard hres
      refine z_iald hG dX6_checksum_36 1 rfl hg ?_
      refine z_i2l hG dX6_checksum_37 ?_
      refine z_ladd hG dX6_checksum_38 ?_
      refine z_lstore_n (lv' := [(1, .long (((31 : Int64) * s7.1) + (mK s7.2.toNatClampNeg).toInt64)), (0, .ref aM), (3, .ref q2), (4, .int s7.2)]) hG dX6_checksum_39 (by decide) rfl ?_
      refine z_ldc2 hG dX6_checksum_40 mX6_checksum_4 ?_
      refine z_lload_n hG dX6_checksum_43 0 rfl ?_
      refine z_lmul hG dX6_checksum_44 ?_
      refine z_aload_n hG dX6_checksum_45 1 rfl ?_
      refine z_iload hG dX6_checksum_46 3 rfl ?_
      obtain ⟨v11, hv, hres⟩ := z_bind hres
      refine z_callV (As := [.int s7.2]) (rest := [.long ((31 : Int64) * (((31 : Int64) * s7.1) + (mK s7.2.toNatClampNeg).toInt64))]) (wr := [(q2, .inl (K.2 0, 12, .inl v1))]) (ws' := (fun _ : Unit => ([(aM, .inr (6, [.ref aMk, .ref aMj, .int mN, .int mS, .ref aMc, .ref aMw, .int mX, .int mT])), (aMk, .inl (K.2 0, 12, .inl mK)), (aMj, .inl (K.2 3, 12, .inr (.inr (.inr (.inr (zo aMr 12)))))), (aMc, .inl (K.2 0, 12, .inl mC)), (aMw, .inl (K.2 0, 12, .inl mW))] ++ zR12Z K aMr mJ ++ [(q2, .inl (K.2 0, 12, .inl v1))]))) (stk := (fun _ : Unit => [.int v11, .long ((31 : Int64) * (((31 : Int64) * s7.1) + (mK s7.2.toNatClampNeg).toInt64))])) (kc' := (1 + 2 * i10)) (ks' := (12 + 24 * i10)) (n := 1) (C := RX6) (ci := 6) hG dX6_checksum_48 (kX6_degree _ K aM aMk aMj aMc aMw aMr mN mS mX mT mK mC mW mJ s7.2 v11 hv) gX6_checksum_X6_degree rfl rfl rfl ⟨rfl, by decide, by decide, rfl⟩ ⟨by decide, by decide⟩ (Nat.le_of_ble_eq_true rfl) ⟨(by show _ ≤ 193; omega), (by show _ ≤ 1996; omega)⟩ [0, 1, 2, 3, 4, 5, 6, 7, 8, 9, 10, 11, 12, 13, 14, 15, 16] [17] [1, 2, 3, 4, 5, 6, 7, 8, 9, 10, 11, 12, 13, 14, 15, 16, 17, 0] rfl rfl rfl rfl (by decide) rfl (fun _ => rfl) (fun _ => rfl) rfl rfl rfl 0 rfl rfl rfl rfl (fun _ => ?_)
      refine z_i2l hG dX6_checksum_51 ?_
      refine z_ladd hG dX6_checksum_52 ?_
      refine z_lstore_n (lv' := [(1, .long (((31 : Int64) * (((31 : Int64) * s7.1) + (mK s7.2.toNatClampNeg).toInt64)) + v11.toInt64)), (0, .ref aM), (3, .ref q2), (4, .int s7.2)]) hG dX6_checksum_53 (by decide) rfl ?_
      refine z_ldc2 hG dX6_checksum_54 mX6_checksum_4 ?_
      refine z_lload_n hG dX6_checksum_57 0 rfl ?_
      refine z_lmul hG dX6_checksum_58 ?_
      refine z_aload_n hG dX6_checksum_59 2 rfl ?_
      refine z_iload hG dX6_checksum_60 3 rfl ?_
      obtain ⟨hg, hres⟩ := z_guard hres
      refine z_iald hG dX6_checksum_62 17 rfl hg ?_
      refine z_i2l hG dX6_checksum_63 ?_
      refine z_ladd hG dX6_checksum_64 ?_
      refine z_lstore_n (lv' := [(1, .long (((31 : Int64) * (((31 : Int64) * (((31 : Int64) * s7.1) + (mK s7.2.toNatClampNeg).toInt64)) + v11.toInt64)) + (v1 s7.2.toNatClampNeg).toInt64)), (0, .ref aM), (3, .ref q2), (4, .int s7.2)]) hG dX6_checksum_65 (by decide) rfl ?_
      refine z_ldc2 hG dX6_checksum_66 mX6_checksum_4 ?_
      refine z_lload_n hG dX6_checksum_69 0 rfl ?_
      refine z_lmul hG dX6_checksum_70 ?_
      refine z_aload_n hG dX6_checksum_71 1 rfl ?_
      refine z_get (ci := 6) (C := RX6) (T := TX6) (N := 8) hG dX6_checksum_72 iX6_checksum_X6 3 (by decide) mX6_checksum_1 rfl rfl 0 rfl rfl ?_
      refine z_if_ge 82 hG dX6_checksum_75 (by decide) (fun c => ?_) (fun c => ?_)
      · replace hres := z_ifp c hres
        refine z_aload_n hG dX6_checksum_82 1 rfl ?_
        refine z_iload hG dX6_checksum_83 3 rfl ?_
        obtain ⟨v12, hv, hres⟩ := z_bind hres
        refine z_callV (As := [.int s7.2]) (rest := [.long ((31 : Int64) * (((31 : Int64) * (((31 : Int64) * (((31 : Int64) * s7.1) + (mK s7.2.toNatClampNeg).toInt64)) + v11.toInt64)) + (v1 s7.2.toNatClampNeg).toInt64))]) (wr := [(q2, .inl (K.2 0, 12, .inl v1))]) (ws' := (fun _ : Unit => ([(aM, .inr (6, [.ref aMk, .ref aMj, .int mN, .int mS, .ref aMc, .ref aMw, .int mX, .int mT])), (aMk, .inl (K.2 0, 12, .inl mK)), (aMj, .inl (K.2 3, 12, .inr (.inr (.inr (.inr (zo aMr 12)))))), (aMc, .inl (K.2 0, 12, .inl mC)), (aMw, .inl (K.2 0, 12, .inl mW))] ++ zR12Z K aMr mJ ++ [(q2, .inl (K.2 0, 12, .inl v1))]))) (stk := (fun _ : Unit => [.int v12, .long ((31 : Int64) * (((31 : Int64) * (((31 : Int64) * (((31 : Int64) * s7.1) + (mK s7.2.toNatClampNeg).toInt64)) + v11.toInt64)) + (v1 s7.2.toNatClampNeg).toInt64))])) (kc' := ((1 + 2 * i10) + 2)) (ks' := ((12 + 24 * i10) + 24)) (n := 1) (C := RX6) (ci := 6) hG dX6_checksum_85 (kX6_allWays _ K aM aMk aMj aMc aMw aMr mN mS mX mT mK mC mW mJ s7.2 v12 hv) gX6_checksum_X6_allWays rfl rfl rfl ⟨rfl, by decide, by decide, rfl⟩ ⟨by decide, by decide⟩ (Nat.le_of_ble_eq_true rfl) ⟨(by show _ ≤ 193; omega), (by show _ ≤ 1996; omega)⟩ [0, 1, 2, 3, 4, 5, 6, 7, 8, 9, 10, 11, 12, 13, 14, 15, 16] [17] [1, 2, 3, 4, 5, 6, 7, 8, 9, 10, 11, 12, 13, 14, 15, 16, 17, 0] rfl rfl rfl rfl (by decide) rfl (fun _ => rfl) (fun _ => rfl) rfl rfl rfl 0 rfl rfl rfl rfl (fun _ => ?_)
        refine z_i2l hG dX6_checksum_88 ?_
        refine z_ladd hG dX6_checksum_89 ?_
        refine z_lstore_n (lv' := [(1, .long (((31 : Int64) * (((31 : Int64) * (((31 : Int64) * (((31 : Int64) * s7.1) + (mK s7.2.toNatClampNeg).toInt64)) + v11.toInt64)) + (v1 s7.2.toNatClampNeg).toInt64)) + v12.toInt64)), (0, .ref aM), (3, .ref q2), (4, .int s7.2)]) hG dX6_checksum_90 (by decide) rfl ?_
        refine z_iinc (s7.2 + 1) (lv' := [(4, .int (s7.2 + 1)), (1, .long (((31 : Int64) * (((31 : Int64) * (((31 : Int64) * (((31 : Int64) * s7.1) + (mK s7.2.toNatClampNeg).toInt64)) + v11.toInt64)) + (v1 s7.2.toNatClampNeg).toInt64)) + v12.toInt64)), (0, .ref aM), (3, .ref q2)]) hG dX6_checksum_91 3 rfl rfl (by decide) rfl ?_
        refine z_goto 16 hG dX6_checksum_94 (by decide) ?_
        exact (z_lv [2, 1, 3, 0] rfl (z_wid (by omega) (by omega) (hB (((31 : Int64) * (((31 : Int64) * (((31 : Int64) * (((31 : Int64) * s7.1) + (mK s7.2.toNatClampNeg).toInt64)) + v11.toInt64)) + (v1 s7.2.toNatClampNeg).toInt64)) + v12.toInt64) (s7.2 + 1) (Option.some.inj hres).symm)))
      · replace hres := z_ifn c hres
        refine z_iconst 0 hG dX6_checksum_78 (by decide) ?_
        refine z_goto 88 hG dX6_checksum_79 (by decide) ?_
        refine z_i2l hG dX6_checksum_88 ?_
        refine z_ladd hG dX6_checksum_89 ?_
        refine z_lstore_n (lv' := [(1, .long (((31 : Int64) * (((31 : Int64) * (((31 : Int64) * (((31 : Int64) * s7.1) + (mK s7.2.toNatClampNeg).toInt64)) + v11.toInt64)) + (v1 s7.2.toNatClampNeg).toInt64)) + (0 : Int32).toInt64)), (0, .ref aM), (3, .ref q2), (4, .int s7.2)]) hG dX6_checksum_90 (by decide) rfl ?_
        refine z_iinc (s7.2 + 1) (lv' := [(4, .int (s7.2 + 1)), (1, .long (((31 : Int64) * (((31 : Int64) * (((31 : Int64) * (((31 : Int64) * s7.1) + (mK s7.2.toNatClampNeg).toInt64)) + v11.toInt64)) + (v1 s7.2.toNatClampNeg).toInt64)) + (0 : Int32).toInt64)), (0, .ref aM), (3, .ref q2)]) hG dX6_checksum_91 3 rfl rfl (by decide) rfl ?_
        refine z_goto 16 hG dX6_checksum_94 (by decide) ?_
        exact (z_lv [2, 1, 3, 0] rfl (z_wid (by omega) (by omega) (hB (((31 : Int64) * (((31 : Int64) * (((31 : Int64) * (((31 : Int64) * s7.1) + (mK s7.2.toNatClampNeg).toInt64)) + v11.toInt64)) + (v1 s7.2.toNatClampNeg).toInt64)) + (0 : Int32).toInt64) (s7.2 + 1) (Option.some.inj hres).symm)))
