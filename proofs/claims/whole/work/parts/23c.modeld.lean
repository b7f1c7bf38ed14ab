theorem dX6_isOnAll_0 : decode cX6_isOnAll 0 = .ok (.aload_n 0, 1) := by decide +kernel
theorem dX6_isOnAll_1 : decode cX6_isOnAll 1 = .ok (.aload_n 0, 1) := by decide +kernel
theorem dX6_isOnAll_2 : decode cX6_isOnAll 2 = .ok (.iload_n 1, 1) := by decide +kernel
theorem dX6_isOnAll_3 : decode cX6_isOnAll 3 = .ok (.invokevirtual 38, 3) := by decide +kernel
theorem dX6_isOnAll_6 : decode cX6_isOnAll 6 = .ok (.ifCond .eq 15, 3) := by decide +kernel
theorem dX6_isOnAll_9 : decode cX6_isOnAll 9 = .ok (.aload_n 0, 1) := by decide +kernel
theorem dX6_isOnAll_10 : decode cX6_isOnAll 10 = .ok (.iload_n 2, 1) := by decide +kernel
theorem dX6_isOnAll_11 : decode cX6_isOnAll 11 = .ok (.invokevirtual 38, 3) := by decide +kernel
theorem dX6_isOnAll_14 : decode cX6_isOnAll 14 = .ok (.ifCond .eq 7, 3) := by decide +kernel
theorem dX6_isOnAll_17 : decode cX6_isOnAll 17 = .ok (.iconst 1, 1) := by decide +kernel
theorem dX6_isOnAll_18 : decode cX6_isOnAll 18 = .ok (.goto 4, 3) := by decide +kernel
theorem dX6_isOnAll_21 : decode cX6_isOnAll 21 = .ok (.iconst 0, 1) := by decide +kernel
theorem dX6_isOnAll_22 : decode cX6_isOnAll 22 = .ok (.aload_n 0, 1) := by decide +kernel
theorem dX6_isOnAll_23 : decode cX6_isOnAll 23 = .ok (.getfield 18, 3) := by decide +kernel
theorem dX6_isOnAll_26 : decode cX6_isOnAll 26 = .ok (.ifCond .lt 7, 3) := by decide +kernel
theorem dX6_isOnAll_29 : decode cX6_isOnAll 29 = .ok (.iconst 1, 1) := by decide +kernel
theorem dX6_isOnAll_30 : decode cX6_isOnAll 30 = .ok (.goto 4, 3) := by decide +kernel
theorem dX6_isOnAll_33 : decode cX6_isOnAll 33 = .ok (.iconst 0, 1) := by decide +kernel
theorem dX6_isOnAll_34 : decode cX6_isOnAll 34 = .ok (.iconst 1, 1) := by decide +kernel
theorem dX6_isOnAll_35 : decode cX6_isOnAll 35 = .ok (.invokevirtual 42, 3) := by decide +kernel
theorem dX6_isOnAll_38 : decode cX6_isOnAll 38 = .ok (.ifCond .eq 29, 3) := by decide +kernel
theorem dX6_isOnAll_41 : decode cX6_isOnAll 41 = .ok (.aload_n 0, 1) := by decide +kernel
theorem dX6_isOnAll_42 : decode cX6_isOnAll 42 = .ok (.iconst 1, 1) := by decide +kernel
theorem dX6_isOnAll_43 : decode cX6_isOnAll 43 = .ok (.iconst 1, 1) := by decide +kernel
theorem dX6_isOnAll_44 : decode cX6_isOnAll 44 = .ok (.aload_n 0, 1) := by decide +kernel
theorem dX6_isOnAll_45 : decode cX6_isOnAll 45 = .ok (.aload_n 0, 1) := by decide +kernel
theorem dX6_isOnAll_46 : decode cX6_isOnAll 46 = .ok (.iload_n 1, 1) := by decide +kernel
theorem dX6_isOnAll_47 : decode cX6_isOnAll 47 = .ok (.invokevirtual 34, 3) := by decide +kernel
theorem dX6_isOnAll_50 : decode cX6_isOnAll 50 = .ok (.invokevirtual 72, 3) := by decide +kernel
theorem dX6_isOnAll_53 : decode cX6_isOnAll 53 = .ok (.ifCond .le 7, 3) := by decide +kernel
theorem dX6_isOnAll_56 : decode cX6_isOnAll 56 = .ok (.iconst 1, 1) := by decide +kernel
theorem dX6_isOnAll_57 : decode cX6_isOnAll 57 = .ok (.goto 4, 3) := by decide +kernel
theorem dX6_isOnAll_60 : decode cX6_isOnAll 60 = .ok (.iconst 0, 1) := by decide +kernel
theorem dX6_isOnAll_61 : decode cX6_isOnAll 61 = .ok (.invokevirtual 42, 3) := by decide +kernel
theorem dX6_isOnAll_64 : decode cX6_isOnAll 64 = .ok (.ifCond .ne 5, 3) := by decide +kernel
theorem dX6_isOnAll_67 : decode cX6_isOnAll 67 = .ok (.iconst 0, 1) := by decide +kernel
theorem dX6_isOnAll_68 : decode cX6_isOnAll 68 = .ok (.ireturn, 1) := by decide +kernel
theorem dX6_isOnAll_69 : decode cX6_isOnAll 69 = .ok (.aload_n 0, 1) := by decide +kernel
theorem dX6_isOnAll_70 : decode cX6_isOnAll 70 = .ok (.aload_n 0, 1) := by decide +kernel
theorem dX6_isOnAll_71 : decode cX6_isOnAll 71 = .ok (.iload_n 1, 1) := by decide +kernel
theorem dX6_isOnAll_72 : decode cX6_isOnAll 72 = .ok (.invokevirtual 34, 3) := by decide +kernel
theorem dX6_isOnAll_75 : decode cX6_isOnAll 75 = .ok (.aload_n 0, 1) := by decide +kernel
theorem dX6_isOnAll_76 : decode cX6_isOnAll 76 = .ok (.iload_n 2, 1) := by decide +kernel
theorem dX6_isOnAll_77 : decode cX6_isOnAll 77 = .ok (.invokevirtual 34, 3) := by decide +kernel
theorem dX6_isOnAll_80 : decode cX6_isOnAll 80 = .ok (.invokevirtual 75, 3) := by decide +kernel
theorem dX6_isOnAll_83 : decode cX6_isOnAll 83 = .ok (.aload_n 0, 1) := by decide +kernel
theorem dX6_isOnAll_84 : decode cX6_isOnAll 84 = .ok (.aload_n 0, 1) := by decide +kernel
theorem dX6_isOnAll_85 : decode cX6_isOnAll 85 = .ok (.iload_n 1, 1) := by decide +kernel
theorem dX6_isOnAll_86 : decode cX6_isOnAll 86 = .ok (.invokevirtual 34, 3) := by decide +kernel
theorem dX6_isOnAll_89 : decode cX6_isOnAll 89 = .ok (.invokevirtual 72, 3) := by decide +kernel
theorem dX6_isOnAll_92 : decode cX6_isOnAll 92 = .ok (.if_icmp .ne 7, 3) := by decide +kernel
theorem dX6_isOnAll_95 : decode cX6_isOnAll 95 = .ok (.iconst 1, 1) := by decide +kernel
theorem dX6_isOnAll_96 : decode cX6_isOnAll 96 = .ok (.goto 4, 3) := by decide +kernel
theorem dX6_isOnAll_99 : decode cX6_isOnAll 99 = .ok (.iconst 0, 1) := by decide +kernel
theorem dX6_isOnAll_100 : decode cX6_isOnAll 100 = .ok (.ireturn, 1) := by decide +kernel
set_option maxRecDepth 20000 in
theorem ggX6_isOnAll_X6_is : GoodIn wsX6_isOnAll wsX6_is := goodIn_r _ [6, 7, 8, 9, 5, 10, 11, 12, 36, 37, 38, 39, 40, 41, 42, 43] (by decide +kernel) (by decide +kernel)
set_option maxRecDepth 20000 in
theorem gX6_isOnAll_X6_is : GoodIn wsX6_isOnAll (wsV RX6 38 RX6 yX6_is wsX6_is) := goodIn_app (goodIn_of _ (by decide +kernel)) ggX6_isOnAll_X6_is
set_option maxRecDepth 20000 in
theorem ggX6_isOnAll_X6_can : GoodIn wsX6_isOnAll wsX6_can := goodIn_r _ [16, 17, 36, 37, 38, 39, 40, 41, 42, 43] (by decide +kernel) (by decide +kernel)
set_option maxRecDepth 20000 in
theorem gX6_isOnAll_X6_can : GoodIn wsX6_isOnAll (wsV RX6 42 RX6 yX6_can wsX6_can) := goodIn_app (goodIn_of _ (by decide +kernel)) ggX6_isOnAll_X6_can
set_option maxRecDepth 20000 in
theorem ggX6_isOnAll_X6_at : GoodIn wsX6_isOnAll wsX6_at := goodIn_r _ [10, 11, 12, 36, 37, 38, 39, 40, 41, 42, 43] (by decide +kernel) (by decide +kernel)
set_option maxRecDepth 20000 in
theorem gX6_isOnAll_X6_at : GoodIn wsX6_isOnAll (wsV RX6 34 RX6 yX6_at wsX6_at) := goodIn_app (goodIn_of _ (by decide +kernel)) ggX6_isOnAll_X6_at
set_option maxRecDepth 20000 in
theorem ggX6_isOnAll_X6_allWays : GoodIn wsX6_isOnAll wsX6_allWays := goodIn_r _ [21, 1, 22, 23, 24, 5, 25, 26, 11, 27, 28, 29, 30, 31, 36, 37, 38, 39, 40, 41, 42, 43] (by decide +kernel) (by decide +kernel)
set_option maxRecDepth 20000 in
theorem gX6_isOnAll_X6_allWays : GoodIn wsX6_isOnAll (wsV RX6 72 RX6 yX6_allWays wsX6_allWays) := goodIn_app (goodIn_of _ (by decide +kernel)) ggX6_isOnAll_X6_allWays
set_option maxRecDepth 20000 in
theorem ggX6_isOnAll_X6_throughs : GoodIn wsX6_isOnAll wsX6_throughs := goodIn_r _ [35, 1, 22, 23, 24, 5, 25, 26, 11, 27, 18, 19, 20, 21, 28, 29, 30, 31, 36, 37, 38, 39, 40, 41, 42, 43] (by decide +kernel) (by decide +kernel)
set_option maxRecDepth 20000 in
theorem gX6_isOnAll_X6_throughs : GoodIn wsX6_isOnAll (wsV RX6 75 RX6 yX6_throughs wsX6_throughs) := goodIn_app (goodIn_of _ (by decide +kernel)) ggX6_isOnAll_X6_throughs
theorem mX6_isOnAll_0 : Cond.fieldLink RX6 18 "LayerwaysModel" "start" "I" ∈ wsX6_isOnAll := by decide +kernel
theorem iX6_isOnAll_X6 : ∀ w ∈ u_ws RX6 TX6 8, w ∈ wsX6_isOnAll := by decide +kernel
def fX6_isOnAll (mN : Int32) (mS : Int32) (mK : (Nat → Int32)) (mJ : (Nat → Nat → Int32)) (p0 : Int32) (p1 : Int32) : Option (Int32 × Int32) := (fX6_is mN mK p0).bind fun v1 => ((if v1 = 0 then some 0 else (fX6_is mN mK p1).bind fun v15 => if v15 = 0 then some 0 else some 1) : Option Int32).bind fun v3 => ((if mS < 0 then some 0 else some 1) : Option Int32).bind fun v4 => (fX6_can v3 v4 1).bind fun v5 => if v5.1 = 0 then some (0, v5.2) else (fX6_at mN mK p0).bind fun v6 => (fX6_allWays mN mS mJ v6).bind fun v7 => ((if v7 ≤ 0 then some 0 else some 1) : Option Int32).bind fun v8 => (fX6_can 1 1 v8).bind fun v9 => if v9.1 = 0 then some (0, v9.2) else (fX6_at mN mK p0).bind fun v10 => (fX6_at mN mK p1).bind fun v11 => (fX6_throughs mN mS mJ v10 v11).bind fun v12 => (fX6_at mN mK p0).bind fun v13 => (fX6_allWays mN mS mJ v13).bind fun v14 => if v12 = v14 then some (1, v9.2) else some (0, v9.2)
set_option maxRecDepth 100000 in
set_option maxHeartbeats 4000000 in
theorem kX6_isOnAll (l : Launch) (K : zK) (aM : Nat) (aMk : Nat) (aMj : Nat) (aMc : Nat) (aMw : Nat) (aMr : (Nat → Nat))  (mN : Int32) (mS : Int32) (mX : Int32) (mT : Int32) (mK : (Nat → Int32)) (mC : (Nat → Int32)) (mW : (Nat → Int32)) (mJ : (Nat → Nat → Int32)) (p0 : Int32) (p1 : Int32) (r : Int32 × Int32) (hres : fX6_isOnAll mN mS mK mJ p0 p1 = some r) : zM l K yX6_isOnAll wsX6_isOnAll ({ frames := 3, cells := 8, slots := 96, locals := 70 }) [.ref aM, .int p0, .int p1] ([(aM, .inr (6, [.ref aMk, .ref aMj, .int mN, .int mS, .ref aMc, .ref aMw, .int mX, .int mT])), (aMk, .inl (K.2 0, 12, .inl mK)), (aMj, .inl (K.2 3, 12, .inr (.inr (.inr (.inr (zo aMr 12)))))), (aMc, .inl (K.2 0, 12, .inl mC)), (aMw, .inl (K.2 0, 12, .inl mW))] ++ zR12Z K aMr mJ) (fun _ : Unit => some (.int r.1)) (fun _ : Unit => ([(aM, .inr (6, [.ref aMk, .ref aMj, .int mN, .int mS, .ref aMc, .ref aMw, .int mX, .int r.2])), (aMk, .inl (K.2 0, 12, .inl mK)), (aMj, .inl (K.2 3, 12, .inr (.inr (.inr (.inr (zo aMr 12)))))), (aMc, .inl (K.2 0, 12, .inl mC)), (aMw, .inl (K.2 0, 12, .inl mW))] ++ zR12Z K aMr mJ)) 8 96 := by
  refine zM.intZ (cc := cX6_isOnAll) (maxL := 3) (ret := (some .boolean)) rfl (by decide) (Nat.le_of_ble_eq_true rfl) rfl ?_
  intro G hGl hG hN hE
  have hR : ∀ (pc : Nat) (lv : zL), narrow .boolean (.int r.1) = .int r.1 → decode cX6_isOnAll pc = .ok (.ireturn, 1) → zj G pc lv [.int r.1] ([(aM, .inr (6, [.ref aMk, .ref aMj, .int mN, .int mS, .ref aMc, .ref aMw, .int mX, .int r.2])), (aMk, .inl (K.2 0, 12, .inl mK)), (aMj, .inl (K.2 3, 12, .inr (.inr (.inr (.inr (zo aMr 12)))))), (aMc, .inl (K.2 0, 12, .inl mC)), (aMw, .inl (K.2 0, 12, .inl mW))] ++ zR12Z K aMr mJ) 8 96 := fun pc lv n d => hE () _ rfl n pc lv d
  clear hE
  unfold fX6_isOnAll at hres
  show zj G 0 [(0, .ref aM), (1, .int p0), (2, .int p1)] [] ([(aM, .inr (6, [.ref aMk, .ref aMj, .int mN, .int mS, .ref aMc, .ref aMw, .int mX, .int mT])), (aMk, .inl (K.2 0, 12, .inl mK)), (aMj, .inl (K.2 3, 12, .inr (.inr (.inr (.inr (zo aMr 12)))))), (aMc, .inl (K.2 0, 12, .inl mC)), (aMw, .inl (K.2 0, 12, .inl mW))] ++ zR12Z K aMr mJ) 0 0
  refine z_aload_n hG dX6_isOnAll_0 0 rfl ?_
  refine z_aload_n hG dX6_isOnAll_1 0 rfl ?_
  refine z_iload_n hG dX6_isOnAll_2 1 rfl ?_
  obtain ⟨v1, hv, hres⟩ := z_bind hres
  refine z_callV (As := [.int p0]) (rest := [.ref aM]) (wr := ([] : va_W)) (ws' := (fun _ : Unit => ([(aM, .inr (6, [.ref aMk, .ref aMj, .int mN, .int mS, .ref aMc, .ref aMw, .int mX, .int mT])), (aMk, .inl (K.2 0, 12, .inl mK)), (aMj, .inl (K.2 3, 12, .inr (.inr (.inr (.inr (zo aMr 12)))))), (aMc, .inl (K.2 0, 12, .inl mC)), (aMw, .inl (K.2 0, 12, .inl mW))] ++ zR12Z K aMr mJ))) (stk := (fun _ : Unit => [.int v1, .ref aM])) (kc' := 0) (ks' := 0) (n := 1) (C := RX6) (ci := 6) hG dX6_isOnAll_3 (kX6_is _ K aM aMk aMj aMc aMw aMr mN mS mX mT mK mC mW mJ p0 v1 hv) gX6_isOnAll_X6_is rfl rfl rfl ⟨rfl, by decide, by decide, rfl⟩ ⟨by decide, by decide⟩ (Nat.le_of_ble_eq_true rfl) ⟨(Nat.le_of_ble_eq_true rfl), (Nat.le_of_ble_eq_true rfl)⟩ [0, 1, 2, 3, 4, 5, 6, 7, 8, 9, 10, 11, 12, 13, 14, 15, 16] [] [0, 1, 2, 3, 4, 5, 6, 7, 8, 9, 10, 11, 12, 13, 14, 15, 16] rfl rfl rfl rfl (by decide) rfl (fun _ => rfl) (fun _ => rfl) rfl rfl rfl 0 rfl rfl rfl rfl (fun _ => ?_)
  obtain ⟨v3, hv, hres⟩ := z_bind hres
  have J : zj G 22 [(0, .ref aM), (1, .int p0), (2, .int p1)] [.int v3, .ref aM] ([(aM, .inr (6, [.ref aMk, .ref aMj, .int mN, .int mS, .ref aMc, .ref aMw, .int mX, .int mT])), (aMk, .inl (K.2 0, 12, .inl mK)), (aMj, .inl (K.2 3, 12, .inr (.inr (.inr (.inr (zo aMr 12)))))), (aMc, .inl (K.2 0, 12, .inl mC)), (aMw, .inl (K.2 0, 12, .inl mW))] ++ zR12Z K aMr mJ) 0 0 := by
    refine z_aload_n hG dX6_isOnAll_22 0 rfl ?_
    refine z_get (ci := 6) (C := RX6) (T := TX6) (N := 8) hG dX6_isOnAll_23 iX6_isOnAll_X6 3 (by decide) mX6_isOnAll_0 rfl rfl 0 rfl rfl ?_
    obtain ⟨v4, hv, hres⟩ := z_bind hres
    have J : zj G 34 [(0, .ref aM), (1, .int p0), (2, .int p1)] [.int v4, .int v3, .ref aM] ([(aM, .inr (6, [.ref aMk, .ref aMj, .int mN, .int mS, .ref aMc, .ref aMw, .int mX, .int mT])), (aMk, .inl (K.2 0, 12, .inl mK)), (aMj, .inl (K.2 3, 12, .inr (.inr (.inr (.inr (zo aMr 12)))))), (aMc, .inl (K.2 0, 12, .inl mC)), (aMw, .inl (K.2 0, 12, .inl mW))] ++ zR12Z K aMr mJ) 0 0 := by
      refine z_iconst 1 hG dX6_isOnAll_34 (by decide) ?_
      obtain ⟨v5, hv, hres⟩ := z_bind hres
      refine z_callV (As := [.int v3, .int v4, .int 1]) (rest := []) (wr := ([(aMk, .inl (K.2 0, 12, .inl mK)), (aMj, .inl (K.2 3, 12, .inr (.inr (.inr (.inr (zo aMr 12)))))), (aMc, .inl (K.2 0, 12, .inl mC)), (aMw, .inl (K.2 0, 12, .inl mW))] ++ zR12Z K aMr mJ)) (ws' := (fun _ : Unit => ([(aM, .inr (6, [.ref aMk, .ref aMj, .int mN, .int mS, .ref aMc, .ref aMw, .int mX, .int v5.2])), (aMk, .inl (K.2 0, 12, .inl mK)), (aMj, .inl (K.2 3, 12, .inr (.inr (.inr (.inr (zo aMr 12)))))), (aMc, .inl (K.2 0, 12, .inl mC)), (aMw, .inl (K.2 0, 12, .inl mW))] ++ zR12Z K aMr mJ))) (stk := (fun _ : Unit => [.int v5.1])) (kc' := 0) (ks' := 0) (n := 3) (C := RX6) (ci := 6) hG dX6_isOnAll_35 (kX6_can _ K aM aMk aMj aMc aMw mN mS mX mT v3 v4 1 v5 hv) gX6_isOnAll_X6_can rfl rfl rfl ⟨rfl, by decide, by decide, rfl⟩ ⟨by decide, by decide⟩ (Nat.le_of_ble_eq_true rfl) ⟨(Nat.le_of_ble_eq_true rfl), (Nat.le_of_ble_eq_true rfl)⟩ [0] [1, 2, 3, 4, 5, 6, 7, 8, 9, 10, 11, 12, 13, 14, 15, 16] [16, 0, 1, 2, 3, 4, 5, 6, 7, 8, 9, 10, 11, 12, 13, 14, 15] rfl rfl rfl rfl (by decide) rfl (fun _ => rfl) (fun _ => rfl) rfl rfl rfl 0 rfl rfl rfl rfl (fun _ => ?_)
      refine z_if_eq 67 hG dX6_isOnAll_38 (by decide) (fun c => ?_) (fun c => ?_)
      · replace hres := z_ifp c hres
        refine z_iconst 0 hG dX6_isOnAll_67 (by decide) ?_
        obtain rfl := Option.some.inj hres
        exact (z_wid (Nat.le_of_ble_eq_true rfl) (Nat.le_of_ble_eq_true rfl) (hR _ _ (z_nar01 (Or.inl rfl)) dX6_isOnAll_68))
      · replace hres := z_ifn c hres
        refine z_aload_n hG dX6_isOnAll_41 0 rfl ?_
        refine z_iconst 1 hG dX6_isOnAll_42 (by decide) ?_
        refine z_iconst 1 hG dX6_isOnAll_43 (by decide) ?_
        refine z_aload_n hG dX6_isOnAll_44 0 rfl ?_
        refine z_aload_n hG dX6_isOnAll_45 0 rfl ?_
        refine z_iload_n hG dX6_isOnAll_46 1 rfl ?_
        obtain ⟨v6, hv, hres⟩ := z_bind hres
        refine z_callV (As := [.int p0]) (rest := [.ref aM, .int 1, .int 1, .ref aM]) (wr := ([] : va_W)) (ws' := (fun _ : Unit => ([(aM, .inr (6, [.ref aMk, .ref aMj, .int mN, .int mS, .ref aMc, .ref aMw, .int mX, .int v5.2])), (aMk, .inl (K.2 0, 12, .inl mK)), (aMj, .inl (K.2 3, 12, .inr (.inr (.inr (.inr (zo aMr 12)))))), (aMc, .inl (K.2 0, 12, .inl mC)), (aMw, .inl (K.2 0, 12, .inl mW))] ++ zR12Z K aMr mJ))) (stk := (fun _ : Unit => [.int v6, .ref aM, .int 1, .int 1, .ref aM])) (kc' := 0) (ks' := 0) (n := 1) (C := RX6) (ci := 6) hG dX6_isOnAll_47 (kX6_at _ K aM aMk aMj aMc aMw aMr mN mS mX v5.2 mK mC mW mJ p0 v6 hv) gX6_isOnAll_X6_at rfl rfl rfl ⟨rfl, by decide, by decide, rfl⟩ ⟨by decide, by decide⟩ (Nat.le_of_ble_eq_true rfl) ⟨(Nat.le_of_ble_eq_true rfl), (Nat.le_of_ble_eq_true rfl)⟩ [0, 1, 2, 3, 4, 5, 6, 7, 8, 9, 10, 11, 12, 13, 14, 15, 16] [] [0, 1, 2, 3, 4, 5, 6, 7, 8, 9, 10, 11, 12, 13, 14, 15, 16] rfl rfl rfl rfl (by decide) rfl (fun _ => rfl) (fun _ => rfl) rfl rfl rfl 0 rfl rfl rfl rfl (fun _ => ?_)
        obtain ⟨v7, hv, hres⟩ := z_bind hres
        refine z_callV (As := [.int v6]) (rest := [.int 1, .int 1, .ref aM]) (wr := ([] : va_W)) (ws' := (fun _ : Unit => ([(aM, .inr (6, [.ref aMk, .ref aMj, .int mN, .int mS, .ref aMc, .ref aMw, .int mX, .int v5.2])), (aMk, .inl (K.2 0, 12, .inl mK)), (aMj, .inl (K.2 3, 12, .inr (.inr (.inr (.inr (zo aMr 12)))))), (aMc, .inl (K.2 0, 12, .inl mC)), (aMw, .inl (K.2 0, 12, .inl mW))] ++ zR12Z K aMr mJ))) (stk := (fun _ : Unit => [.int v7, .int 1, .int 1, .ref aM])) (kc' := 2) (ks' := 24) (n := 1) (C := RX6) (ci := 6) hG dX6_isOnAll_50 (kX6_allWays _ K aM aMk aMj aMc aMw aMr mN mS mX v5.2 mK mC mW mJ v6 v7 hv) gX6_isOnAll_X6_allWays rfl rfl rfl ⟨rfl, by decide, by decide, rfl⟩ ⟨by decide, by decide⟩ (Nat.le_of_ble_eq_true rfl) ⟨(Nat.le_of_ble_eq_true rfl), (Nat.le_of_ble_eq_true rfl)⟩ [0, 1, 2, 3, 4, 5, 6, 7, 8, 9, 10, 11, 12, 13, 14, 15, 16] [] [0, 1, 2, 3, 4, 5, 6, 7, 8, 9, 10, 11, 12, 13, 14, 15, 16] rfl rfl rfl rfl (by decide) rfl (fun _ => rfl) (fun _ => rfl) rfl rfl rfl 0 rfl rfl rfl rfl (fun _ => ?_)
        obtain ⟨v8, hv, hres⟩ := z_bind hres
        have J : zj G 61 [(0, .ref aM), (1, .int p0), (2, .int p1)] [.int v8, .int 1, .int 1, .ref aM] ([(aM, .inr (6, [.ref aMk, .ref aMj, .int mN, .int mS, .ref aMc, .ref aMw, .int mX, .int v5.2])), (aMk, .inl (K.2 0, 12, .inl mK)), (aMj, .inl (K.2 3, 12, .inr (.inr (.inr (.inr (zo aMr 12)))))), (aMc, .inl (K.2 0, 12, .inl mC)), (aMw, .inl (K.2 0, 12, .inl mW))] ++ zR12Z K aMr mJ) 2 24 := by
          obtain ⟨v9, hv, hres⟩ := z_bind hres
          refine z_callV (As := [.int 1, .int 1, .int v8]) (rest := []) (wr := ([(aMk, .inl (K.2 0, 12, .inl mK)), (aMj, .inl (K.2 3, 12, .inr (.inr (.inr (.inr (zo aMr 12)))))), (aMc, .inl (K.2 0, 12, .inl mC)), (aMw, .inl (K.2 0, 12, .inl mW))] ++ zR12Z K aMr mJ)) (ws' := (fun _ : Unit => ([(aM, .inr (6, [.ref aMk, .ref aMj, .int mN, .int mS, .ref aMc, .ref aMw, .int mX, .int v9.2])), (aMk, .inl (K.2 0, 12, .inl mK)), (aMj, .inl (K.2 3, 12, .inr (.inr (.inr (.inr (zo aMr 12)))))), (aMc, .inl (K.2 0, 12, .inl mC)), (aMw, .inl (K.2 0, 12, .inl mW))] ++ zR12Z K aMr mJ))) (stk := (fun _ : Unit => [.int v9.1])) (kc' := 2) (ks' := 24) (n := 3) (C := RX6) (ci := 6) hG dX6_isOnAll_61 (kX6_can _ K aM aMk aMj aMc aMw mN mS mX v5.2 1 1 v8 v9 hv) gX6_isOnAll_X6_can rfl rfl rfl ⟨rfl, by decide, by decide, rfl⟩ ⟨by decide, by decide⟩ (Nat.le_of_ble_eq_true rfl) ⟨(Nat.le_of_ble_eq_true rfl), (Nat.le_of_ble_eq_true rfl)⟩ [0] [1, 2, 3, 4, 5, 6, 7, 8, 9, 10, 11, 12, 13, 14, 15, 16] [16, 0, 1, 2, 3, 4, 5, 6, 7, 8, 9, 10, 11, 12, 13, 14, 15] rfl rfl rfl rfl (by decide) rfl (fun _ => rfl) (fun _ => rfl) rfl rfl rfl 0 rfl rfl rfl rfl (fun _ => ?_)
          refine z_if_ne 69 hG dX6_isOnAll_64 (by decide) (fun c => ?_) (fun c => ?_)
          · replace hres := z_ifn c hres
            refine z_aload_n hG dX6_isOnAll_69 0 rfl ?_
            refine z_aload_n hG dX6_isOnAll_70 0 rfl ?_
            refine z_iload_n hG dX6_isOnAll_71 1 rfl ?_
            obtain ⟨v10, hv, hres⟩ := z_bind hres
            refine z_callV (As := [.int p0]) (rest := [.ref aM]) (wr := ([] : va_W)) (ws' := (fun _ : Unit => ([(aM, .inr (6, [.ref aMk, .ref aMj, .int mN, .int mS, .ref aMc, .ref aMw, .int mX, .int v9.2])), (aMk, .inl (K.2 0, 12, .inl mK)), (aMj, .inl (K.2 3, 12, .inr (.inr (.inr (.inr (zo aMr 12)))))), (aMc, .inl (K.2 0, 12, .inl mC)), (aMw, .inl (K.2 0, 12, .inl mW))] ++ zR12Z K aMr mJ))) (stk := (fun _ : Unit => [.int v10, .ref aM])) (kc' := 2) (ks' := 24) (n := 1) (C := RX6) (ci := 6) hG dX6_isOnAll_72 (kX6_at _ K aM aMk aMj aMc aMw aMr mN mS mX v9.2 mK mC mW mJ p0 v10 hv) gX6_isOnAll_X6_at rfl rfl rfl ⟨rfl, by decide, by decide, rfl⟩ ⟨by decide, by decide⟩ (Nat.le_of_ble_eq_true rfl) ⟨(Nat.le_of_ble_eq_true rfl), (Nat.le_of_ble_eq_true rfl)⟩ [0, 1, 2, 3, 4, 5, 6, 7, 8, 9, 10, 11, 12, 13, 14, 15, 16] [] [0, 1, 2, 3, 4, 5, 6, 7, 8, 9, 10, 11, 12, 13, 14, 15, 16] rfl rfl rfl rfl (by decide) rfl (fun _ => rfl) (fun _ => rfl) rfl rfl rfl 0 rfl rfl rfl rfl (fun _ => ?_)
            refine z_aload_n hG dX6_isOnAll_75 0 rfl ?_
            refine z_iload_n hG dX6_isOnAll_76 2 rfl ?_
            obtain ⟨v11, hv, hres⟩ := z_bind hres
            refine z_callV (As := [.int p1]) (rest := [.int v10, .ref aM]) (wr := ([] : va_W)) (ws' := (fun _ : Unit => ([(aM, .inr (6, [.ref aMk, .ref aMj, .int mN, .int mS, .ref aMc, .ref aMw, .int mX, .int v9.2])), (aMk, .inl (K.2 0, 12, .inl mK)), (aMj, .inl (K.2 3, 12, .inr (.inr (.inr (.inr (zo aMr 12)))))), (aMc, .inl (K.2 0, 12, .inl mC)), (aMw, .inl (K.2 0, 12, .inl mW))] ++ zR12Z K aMr mJ))) (stk := (fun _ : Unit => [.int v11, .int v10, .ref aM])) (kc' := 2) (ks' := 24) (n := 1) (C := RX6) (ci := 6) hG dX6_isOnAll_77 (kX6_at _ K aM aMk aMj aMc aMw aMr mN mS mX v9.2 mK mC mW mJ p1 v11 hv) gX6_isOnAll_X6_at rfl rfl rfl ⟨rfl, by decide, by decide, rfl⟩ ⟨by decide, by decide⟩ (Nat.le_of_ble_eq_true rfl) ⟨(Nat.le_of_ble_eq_true rfl), (Nat.le_of_ble_eq_true rfl)⟩ [0, 1, 2, 3, 4, 5, 6, 7, 8, 9, 10, 11, 12, 13, 14, 15, 16] [] [0, 1, 2, 3, 4, 5, 6, 7, 8, 9, 10, 11, 12, 13, 14, 15, 16] rfl rfl rfl rfl (by decide) rfl (fun _ => rfl) (fun _ => rfl) rfl rfl rfl 0 rfl rfl rfl rfl (fun _ => ?_)
            obtain ⟨v12, hv, hres⟩ := z_bind hres
            refine z_callV (As := [.int v10, .int v11]) (rest := []) (wr := ([] : va_W)) (ws' := (fun _ : Unit => ([(aM, .inr (6, [.ref aMk, .ref aMj, .int mN, .int mS, .ref aMc, .ref aMw, .int mX, .int v9.2])), (aMk, .inl (K.2 0, 12, .inl mK)), (aMj, .inl (K.2 3, 12, .inr (.inr (.inr (.inr (zo aMr 12)))))), (aMc, .inl (K.2 0, 12, .inl mC)), (aMw, .inl (K.2 0, 12, .inl mW))] ++ zR12Z K aMr mJ))) (stk := (fun _ : Unit => [.int v12])) (kc' := 6) (ks' := 72) (n := 2) (C := RX6) (ci := 6) hG dX6_isOnAll_80 (kX6_throughs _ K aM aMk aMj aMc aMw aMr mN mS mX v9.2 mK mC mW mJ v10 v11 v12 hv) gX6_isOnAll_X6_throughs rfl rfl rfl ⟨rfl, by decide, by decide, rfl⟩ ⟨by decide, by decide⟩ (Nat.le_of_ble_eq_true rfl) ⟨(Nat.le_of_ble_eq_true rfl), (Nat.le_of_ble_eq_true rfl)⟩ [0, 1, 2, 3, 4, 5, 6, 7, 8, 9, 10, 11, 12, 13, 14, 15, 16] [] [0, 1, 2, 3, 4, 5, 6, 7, 8, 9, 10, 11, 12, 13, 14, 15, 16] rfl rfl rfl rfl (by decide) rfl (fun _ => rfl) (fun _ => rfl) rfl rfl rfl 0 rfl rfl rfl rfl (fun _ => ?_)
            refine z_aload_n hG dX6_isOnAll_83 0 rfl ?_
            refine z_aload_n hG dX6_isOnAll_84 0 rfl ?_
            refine z_iload_n hG dX6_isOnAll_85 1 rfl ?_
            obtain ⟨v13, hv, hres⟩ := z_bind hres
            refine z_callV (As := [.int p0]) (rest := [.ref aM, .int v12]) (wr := ([] : va_W)) (ws' := (fun _ : Unit => ([(aM, .inr (6, [.ref aMk, .ref aMj, .int mN, .int mS, .ref aMc, .ref aMw, .int mX, .int v9.2])), (aMk, .inl (K.2 0, 12, .inl mK)), (aMj, .inl (K.2 3, 12, .inr (.inr (.inr (.inr (zo aMr 12)))))), (aMc, .inl (K.2 0, 12, .inl mC)), (aMw, .inl (K.2 0, 12, .inl mW))] ++ zR12Z K aMr mJ))) (stk := (fun _ : Unit => [.int v13, .ref aM, .int v12])) (kc' := 6) (ks' := 72) (n := 1) (C := RX6) (ci := 6) hG dX6_isOnAll_86 (kX6_at _ K aM aMk aMj aMc aMw aMr mN mS mX v9.2 mK mC mW mJ p0 v13 hv) gX6_isOnAll_X6_at rfl rfl rfl ⟨rfl, by decide, by decide, rfl⟩ ⟨by decide, by decide⟩ (Nat.le_of_ble_eq_true rfl) ⟨(Nat.le_of_ble_eq_true rfl), (Nat.le_of_ble_eq_true rfl)⟩ [0, 1, 2, 3, 4, 5, 6, 7, 8, 9, 10, 11, 12, 13, 14, 15, 16] [] [0, 1, 2, 3, 4, 5, 6, 7, 8, 9, 10, 11, 12, 13, 14, 15, 16] rfl rfl rfl rfl (by decide) rfl (fun _ => rfl) (fun _ => rfl) rfl rfl rfl 0 rfl rfl rfl rfl (fun _ => ?_)
            obtain ⟨v14, hv, hres⟩ := z_bind hres
            refine z_callV (As := [.int v13]) (rest := [.int v12]) (wr := ([] : va_W)) (ws' := (fun _ : Unit => ([(aM, .inr (6, [.ref aMk, .ref aMj, .int mN, .int mS, .ref aMc, .ref aMw, .int mX, .int v9.2])), (aMk, .inl (K.2 0, 12, .inl mK)), (aMj, .inl (K.2 3, 12, .inr (.inr (.inr (.inr (zo aMr 12)))))), (aMc, .inl (K.2 0, 12, .inl mC)), (aMw, .inl (K.2 0, 12, .inl mW))] ++ zR12Z K aMr mJ))) (stk := (fun _ : Unit => [.int v14, .int v12])) (kc' := 8) (ks' := 96) (n := 1) (C := RX6) (ci := 6) hG dX6_isOnAll_89 (kX6_allWays _ K aM aMk aMj aMc aMw aMr mN mS mX v9.2 mK mC mW mJ v13 v14 hv) gX6_isOnAll_X6_allWays rfl rfl rfl ⟨rfl, by decide, by decide, rfl⟩ ⟨by decide, by decide⟩ (Nat.le_of_ble_eq_true rfl) ⟨(Nat.le_of_ble_eq_true rfl), (Nat.le_of_ble_eq_true rfl)⟩ [0, 1, 2, 3, 4, 5, 6, 7, 8, 9, 10, 11, 12, 13, 14, 15, 16] [] [0, 1, 2, 3, 4, 5, 6, 7, 8, 9, 10, 11, 12, 13, 14, 15, 16] rfl rfl rfl rfl (by decide) rfl (fun _ => rfl) (fun _ => rfl) rfl rfl rfl 0 rfl rfl rfl rfl (fun _ => ?_)
            refine z_icmp_ne 99 hG dX6_isOnAll_92 (by decide) (fun c => ?_) (fun c => ?_)
            · replace hres := z_ifn c hres
              refine z_iconst 0 hG dX6_isOnAll_99 (by decide) ?_
              obtain rfl := Option.some.inj hres
              exact (hR _ _ (z_nar01 (Or.inl rfl)) dX6_isOnAll_100)
            · replace hres := z_ifp c hres
              refine z_iconst 1 hG dX6_isOnAll_95 (by decide) ?_
              refine z_goto 100 hG dX6_isOnAll_96 (by decide) ?_
              obtain rfl := Option.some.inj hres
              exact (hR _ _ (z_nar01 (Or.inr rfl)) dX6_isOnAll_100)
          · replace hres := z_ifp c hres
            refine z_iconst 0 hG dX6_isOnAll_67 (by decide) ?_
            obtain rfl := Option.some.inj hres
            exact (z_wid (Nat.le_of_ble_eq_true rfl) (Nat.le_of_ble_eq_true rfl) (hR _ _ (z_nar01 (Or.inl rfl)) dX6_isOnAll_68))
        replace hres := hv
        clear hv
        refine z_if_le 60 hG dX6_isOnAll_53 (by decide) (fun c => ?_) (fun c => ?_)
        · replace hres := z_ifp c hres
          refine z_iconst 0 hG dX6_isOnAll_60 (by decide) ?_
          obtain rfl := Option.some.inj hres
          exact J
        · replace hres := z_ifn c hres
          refine z_iconst 1 hG dX6_isOnAll_56 (by decide) ?_
          refine z_goto 61 hG dX6_isOnAll_57 (by decide) ?_
          obtain rfl := Option.some.inj hres
          exact J
    replace hres := hv
    clear hv
    refine z_if_lt 33 hG dX6_isOnAll_26 (by decide) (fun c => ?_) (fun c => ?_)
    · replace hres := z_ifp c hres
      refine z_iconst 0 hG dX6_isOnAll_33 (by decide) ?_
      obtain rfl := Option.some.inj hres
      exact J
    · replace hres := z_ifn c hres
      refine z_iconst 1 hG dX6_isOnAll_29 (by decide) ?_
      refine z_goto 34 hG dX6_isOnAll_30 (by decide) ?_
      obtain rfl := Option.some.inj hres
      exact J
  replace hres := hv
  clear hv
  refine z_if_eq 21 hG dX6_isOnAll_6 (by decide) (fun c => ?_) (fun c => ?_)
  · replace hres := z_ifp c hres
    refine z_iconst 0 hG dX6_isOnAll_21 (by decide) ?_
    obtain rfl := Option.some.inj hres
    exact J
  · replace hres := z_ifn c hres
    refine z_aload_n hG dX6_isOnAll_9 0 rfl ?_
    refine z_iload_n hG dX6_isOnAll_10 2 rfl ?_
    obtain ⟨v15, hv, hres⟩ := z_bind hres
    refine z_callV (As := [.int p1]) (rest := [.ref aM]) (wr := ([] : va_W)) (ws' := (fun _ : Unit => ([(aM, .inr (6, [.ref aMk, .ref aMj, .int mN, .int mS, .ref aMc, .ref aMw, .int mX, .int mT])), (aMk, .inl (K.2 0, 12, .inl mK)), (aMj, .inl (K.2 3, 12, .inr (.inr (.inr (.inr (zo aMr 12)))))), (aMc, .inl (K.2 0, 12, .inl mC)), (aMw, .inl (K.2 0, 12, .inl mW))] ++ zR12Z K aMr mJ))) (stk := (fun _ : Unit => [.int v15, .ref aM])) (kc' := 0) (ks' := 0) (n := 1) (C := RX6) (ci := 6) hG dX6_isOnAll_11 (kX6_is _ K aM aMk aMj aMc aMw aMr mN mS mX mT mK mC mW mJ p1 v15 hv) gX6_isOnAll_X6_is rfl rfl rfl ⟨rfl, by decide, by decide, rfl⟩ ⟨by decide, by decide⟩ (Nat.le_of_ble_eq_true rfl) ⟨(Nat.le_of_ble_eq_true rfl), (Nat.le_of_ble_eq_true rfl)⟩ [0, 1, 2, 3, 4, 5, 6, 7, 8, 9, 10, 11, 12, 13, 14, 15, 16] [] [0, 1, 2, 3, 4, 5, 6, 7, 8, 9, 10, 11, 12, 13, 14, 15, 16] rfl rfl rfl rfl (by decide) rfl (fun _ => rfl) (fun _ => rfl) rfl rfl rfl 0 rfl rfl rfl rfl (fun _ => ?_)
    refine z_if_eq 21 hG dX6_isOnAll_14 (by decide) (fun c => ?_) (fun c => ?_)
    · replace hres := z_ifp c hres
      refine z_iconst 0 hG dX6_isOnAll_21 (by decide) ?_
      obtain rfl := Option.some.inj hres
      exact J
    · replace hres := z_ifn c hres
      refine z_iconst 1 hG dX6_isOnAll_17 (by decide) ?_
      refine z_goto 22 hG dX6_isOnAll_18 (by decide) ?_
      obtain rfl := Option.some.inj hres
      exact J

theorem dX6_onAll_0 : decode cX6_onAll 0 = .ok (.aload_n 0, 1) := by decide +kernel
theorem dX6_onAll_1 : decode cX6_onAll 1 = .ok (.aload_n 0, 1) := by decide +kernel
theorem dX6_onAll_2 : decode cX6_onAll 2 = .ok (.iload_n 1, 1) := by decide +kernel
theorem dX6_onAll_3 : decode cX6_onAll 3 = .ok (.invokevirtual 38, 3) := by decide +kernel
theorem dX6_onAll_6 : decode cX6_onAll 6 = .ok (.aload_n 0, 1) := by decide +kernel
theorem dX6_onAll_7 : decode cX6_onAll 7 = .ok (.getfield 18, 3) := by decide +kernel
theorem dX6_onAll_10 : decode cX6_onAll 10 = .ok (.ifCond .lt 7, 3) := by decide +kernel
theorem dX6_onAll_13 : decode cX6_onAll 13 = .ok (.iconst 1, 1) := by decide +kernel
theorem dX6_onAll_14 : decode cX6_onAll 14 = .ok (.goto 4, 3) := by decide +kernel
theorem dX6_onAll_17 : decode cX6_onAll 17 = .ok (.iconst 0, 1) := by decide +kernel
theorem dX6_onAll_18 : decode cX6_onAll 18 = .ok (.iconst 1, 1) := by decide +kernel
theorem dX6_onAll_19 : decode cX6_onAll 19 = .ok (.invokevirtual 42, 3) := by decide +kernel
theorem dX6_onAll_22 : decode cX6_onAll 22 = .ok (.ifCond .eq 29, 3) := by decide +kernel
theorem dX6_onAll_25 : decode cX6_onAll 25 = .ok (.aload_n 0, 1) := by decide +kernel
theorem dX6_onAll_26 : decode cX6_onAll 26 = .ok (.iconst 1, 1) := by decide +kernel
theorem dX6_onAll_27 : decode cX6_onAll 27 = .ok (.iconst 1, 1) := by decide +kernel
theorem dX6_onAll_28 : decode cX6_onAll 28 = .ok (.aload_n 0, 1) := by decide +kernel
theorem dX6_onAll_29 : decode cX6_onAll 29 = .ok (.aload_n 0, 1) := by decide +kernel
theorem dX6_onAll_30 : decode cX6_onAll 30 = .ok (.iload_n 1, 1) := by decide +kernel
theorem dX6_onAll_31 : decode cX6_onAll 31 = .ok (.invokevirtual 34, 3) := by decide +kernel
theorem dX6_onAll_34 : decode cX6_onAll 34 = .ok (.invokevirtual 72, 3) := by decide +kernel
theorem dX6_onAll_37 : decode cX6_onAll 37 = .ok (.ifCond .le 7, 3) := by decide +kernel
theorem dX6_onAll_40 : decode cX6_onAll 40 = .ok (.iconst 1, 1) := by decide +kernel
theorem dX6_onAll_41 : decode cX6_onAll 41 = .ok (.goto 4, 3) := by decide +kernel
theorem dX6_onAll_44 : decode cX6_onAll 44 = .ok (.iconst 0, 1) := by decide +kernel
theorem dX6_onAll_45 : decode cX6_onAll 45 = .ok (.invokevirtual 42, 3) := by decide +kernel
theorem dX6_onAll_48 : decode cX6_onAll 48 = .ok (.ifCond .ne 5, 3) := by decide +kernel
theorem dX6_onAll_51 : decode cX6_onAll 51 = .ok (.iconst 0, 1) := by decide +kernel
theorem dX6_onAll_52 : decode cX6_onAll 52 = .ok (.ireturn, 1) := by decide +kernel
theorem dX6_onAll_53 : decode cX6_onAll 53 = .ok (.iconst 0, 1) := by decide +kernel
theorem dX6_onAll_54 : decode cX6_onAll 54 = .ok (.istore_n 2, 1) := by decide +kernel
theorem dX6_onAll_55 : decode cX6_onAll 55 = .ok (.iconst 0, 1) := by decide +kernel
theorem dX6_onAll_56 : decode cX6_onAll 56 = .ok (.istore_n 3, 1) := by decide +kernel
theorem dX6_onAll_57 : decode cX6_onAll 57 = .ok (.iload_n 3, 1) := by decide +kernel
theorem dX6_onAll_58 : decode cX6_onAll 58 = .ok (.aload_n 0, 1) := by decide +kernel
theorem dX6_onAll_59 : decode cX6_onAll 59 = .ok (.getfield 31, 3) := by decide +kernel
theorem dX6_onAll_62 : decode cX6_onAll 62 = .ok (.if_icmp .ge 39, 3) := by decide +kernel
theorem dX6_onAll_65 : decode cX6_onAll 65 = .ok (.iload_n 2, 1) := by decide +kernel
theorem dX6_onAll_66 : decode cX6_onAll 66 = .ok (.aload_n 0, 1) := by decide +kernel
theorem dX6_onAll_67 : decode cX6_onAll 67 = .ok (.aload_n 0, 1) := by decide +kernel
theorem dX6_onAll_68 : decode cX6_onAll 68 = .ok (.iload_n 1, 1) := by decide +kernel
theorem dX6_onAll_69 : decode cX6_onAll 69 = .ok (.invokevirtual 34, 3) := by decide +kernel
theorem dX6_onAll_72 : decode cX6_onAll 72 = .ok (.iload_n 3, 1) := by decide +kernel
theorem dX6_onAll_73 : decode cX6_onAll 73 = .ok (.invokevirtual 75, 3) := by decide +kernel
theorem dX6_onAll_76 : decode cX6_onAll 76 = .ok (.aload_n 0, 1) := by decide +kernel
theorem dX6_onAll_77 : decode cX6_onAll 77 = .ok (.aload_n 0, 1) := by decide +kernel
theorem dX6_onAll_78 : decode cX6_onAll 78 = .ok (.iload_n 1, 1) := by decide +kernel
theorem dX6_onAll_79 : decode cX6_onAll 79 = .ok (.invokevirtual 34, 3) := by decide +kernel
theorem dX6_onAll_82 : decode cX6_onAll 82 = .ok (.invokevirtual 72, 3) := by decide +kernel
theorem dX6_onAll_85 : decode cX6_onAll 85 = .ok (.if_icmp .ne 7, 3) := by decide +kernel
theorem dX6_onAll_88 : decode cX6_onAll 88 = .ok (.iconst 1, 1) := by decide +kernel
theorem dX6_onAll_89 : decode cX6_onAll 89 = .ok (.goto 4, 3) := by decide +kernel
theorem dX6_onAll_92 : decode cX6_onAll 92 = .ok (.iconst 0, 1) := by decide +kernel
theorem dX6_onAll_93 : decode cX6_onAll 93 = .ok (.iadd, 1) := by decide +kernel
theorem dX6_onAll_94 : decode cX6_onAll 94 = .ok (.istore_n 2, 1) := by decide +kernel
theorem dX6_onAll_95 : decode cX6_onAll 95 = .ok (.iinc 3 1, 3) := by decide +kernel
theorem dX6_onAll_98 : decode cX6_onAll 98 = .ok (.goto (-41), 3) := by decide +kernel
theorem dX6_onAll_101 : decode cX6_onAll 101 = .ok (.iload_n 2, 1) := by decide +kernel
theorem dX6_onAll_102 : decode cX6_onAll 102 = .ok (.ireturn, 1) := by decide +kernel
set_option maxRecDepth 20000 in
theorem ggX6_onAll_X6_is : GoodIn wsX6_onAll wsX6_is := goodIn_r _ [7, 8, 9, 10, 6, 11, 2, 12, 36, 37, 38, 39, 40, 41, 42, 43] (by decide +kernel) (by decide +kernel)
set_option maxRecDepth 20000 in
theorem gX6_onAll_X6_is : GoodIn wsX6_onAll (wsV RX6 38 RX6 yX6_is wsX6_is) := goodIn_app (goodIn_of _ (by decide +kernel)) ggX6_onAll_X6_is
set_option maxRecDepth 20000 in
theorem ggX6_onAll_X6_can : GoodIn wsX6_onAll wsX6_can := goodIn_r _ [16, 17, 36, 37, 38, 39, 40, 41, 42, 43] (by decide +kernel) (by decide +kernel)
set_option maxRecDepth 20000 in
theorem gX6_onAll_X6_can : GoodIn wsX6_onAll (wsV RX6 42 RX6 yX6_can wsX6_can) := goodIn_app (goodIn_of _ (by decide +kernel)) ggX6_onAll_X6_can
set_option maxRecDepth 20000 in
theorem ggX6_onAll_X6_at : GoodIn wsX6_onAll wsX6_at := goodIn_r _ [11, 2, 12, 36, 37, 38, 39, 40, 41, 42, 43] (by decide +kernel) (by decide +kernel)
set_option maxRecDepth 20000 in
theorem gX6_onAll_X6_at : GoodIn wsX6_onAll (wsV RX6 34 RX6 yX6_at wsX6_at) := goodIn_app (goodIn_of _ (by decide +kernel)) ggX6_onAll_X6_at
set_option maxRecDepth 20000 in
theorem ggX6_onAll_X6_allWays : GoodIn wsX6_onAll wsX6_allWays := goodIn_r _ [21, 1, 22, 23, 24, 6, 25, 26, 2, 27, 28, 29, 30, 31, 36, 37, 38, 39, 40, 41, 42, 43] (by decide +kernel) (by decide +kernel)
set_option maxRecDepth 20000 in
theorem gX6_onAll_X6_allWays : GoodIn wsX6_onAll (wsV RX6 72 RX6 yX6_allWays wsX6_allWays) := goodIn_app (goodIn_of _ (by decide +kernel)) ggX6_onAll_X6_allWays
set_option maxRecDepth 20000 in
theorem ggX6_onAll_X6_throughs : GoodIn wsX6_onAll wsX6_throughs := goodIn_r _ [35, 1, 22, 23, 24, 6, 25, 26, 2, 27, 18, 19, 20, 21, 28, 29, 30, 31, 36, 37, 38, 39, 40, 41, 42, 43] (by decide +kernel) (by decide +kernel)
set_option maxRecDepth 20000 in
theorem gX6_onAll_X6_throughs : GoodIn wsX6_onAll (wsV RX6 75 RX6 yX6_throughs wsX6_throughs) := goodIn_app (goodIn_of _ (by decide +kernel)) ggX6_onAll_X6_throughs
theorem mX6_onAll_0 : Cond.fieldLink RX6 18 "LayerwaysModel" "start" "I" ∈ wsX6_onAll := by decide +kernel
theorem iX6_onAll_X6 : ∀ w ∈ u_ws RX6 TX6 8, w ∈ wsX6_onAll := by decide +kernel
theorem mX6_onAll_2 : Cond.fieldLink RX6 31 "LayerwaysModel" "many" "I" ∈ wsX6_onAll := by decide +kernel
def sX6_onAll_57 (mN : Int32) (mS : Int32) (mK : (Nat → Int32)) (mJ : (Nat → Nat → Int32)) (p0 : Int32) (s16 : Int32 × Int32) : Option ((Int32 × Int32) ⊕ (Int32 × Int32)) := if mN ≤ s16.2 then some (.inl (s16.1, s16.2)) else (fX6_at mN mK p0).bind fun v20 => (fX6_throughs mN mS mJ v20 s16.2).bind fun v21 => (fX6_at mN mK p0).bind fun v22 => (fX6_allWays mN mS mJ v22).bind fun v23 => if v21 = v23 then some (.inr ((s16.1 + 1), (s16.2 + 1))) else some (.inr ((s16.1 + 0), (s16.2 + 1)))
def fX6_onAll (mN : Int32) (mS : Int32) (mK : (Nat → Int32)) (mJ : (Nat → Nat → Int32)) (p0 : Int32) : Option (Int32 × Int32) := (fX6_is mN mK p0).bind fun v1 => ((if mS < 0 then some 0 else some 1) : Option Int32).bind fun v2 => (fX6_can v1 v2 1).bind fun v3 => if v3.1 = 0 then some (0, v3.2) else (fX6_at mN mK p0).bind fun v4 => (fX6_allWays mN mS mJ v4).bind fun v5 => ((if v5 ≤ 0 then some 0 else some 1) : Option Int32).bind fun v6 => (fX6_can 1 1 v6).bind fun v7 => if v7.1 = 0 then some (0, v7.2) else (zloop (sX6_onAll_57 mN mS mK mJ p0) 32 (0, 0)).bind fun e18 => some (e18.1, v7.2)
set_option maxRecDepth 100000 in
set_option maxHeartbeats 4000000 in
theorem kX6_onAll (l : Launch) (K : zK) (aM : Nat) (aMk : Nat) (aMj : Nat) (aMc : Nat) (aMw : Nat) (aMr : (Nat → Nat))  (mN : Int32) (mS : Int32) (mX : Int32) (mT : Int32) (mK : (Nat → Int32)) (mC : (Nat → Int32)) (mW : (Nat → Int32)) (mJ : (Nat → Nat → Int32)) (p0 : Int32) (r : Int32 × Int32) (hres : fX6_onAll mN mS mK mJ p0 = some r) : zM l K yX6_onAll wsX6_onAll ({ frames := 3, cells := 196, slots := 2352, locals := 70 }) [.ref aM, .int p0] ([(aM, .inr (6, [.ref aMk, .ref aMj, .int mN, .int mS, .ref aMc, .ref aMw, .int mX, .int mT])), (aMk, .inl (K.2 0, 12, .inl mK)), (aMj, .inl (K.2 3, 12, .inr (.inr (.inr (.inr (zo aMr 12)))))), (aMc, .inl (K.2 0, 12, .inl mC)), (aMw, .inl (K.2 0, 12, .inl mW))] ++ zR12Z K aMr mJ) (fun _ : Unit => some (.int r.1)) (fun _ : Unit => ([(aM, .inr (6, [.ref aMk, .ref aMj, .int mN, .int mS, .ref aMc, .ref aMw, .int mX, .int r.2])), (aMk, .inl (K.2 0, 12, .inl mK)), (aMj, .inl (K.2 3, 12, .inr (.inr (.inr (.inr (zo aMr 12)))))), (aMc, .inl (K.2 0, 12, .inl mC)), (aMw, .inl (K.2 0, 12, .inl mW))] ++ zR12Z K aMr mJ)) 196 2352 := by
  refine zM.intI (cc := cX6_onAll) (maxL := 4) (ret := (some .int)) rfl (by decide) (Nat.le_of_ble_eq_true rfl) rfl ?_
  intro G hGl hG hN hE
  have hR : ∀ (pc : Nat) (lv : zL), decode cX6_onAll pc = .ok (.ireturn, 1) → zj G pc lv [.int r.1] ([(aM, .inr (6, [.ref aMk, .ref aMj, .int mN, .int mS, .ref aMc, .ref aMw, .int mX, .int r.2])), (aMk, .inl (K.2 0, 12, .inl mK)), (aMj, .inl (K.2 3, 12, .inr (.inr (.inr (.inr (zo aMr 12)))))), (aMc, .inl (K.2 0, 12, .inl mC)), (aMw, .inl (K.2 0, 12, .inl mW))] ++ zR12Z K aMr mJ) 196 2352 := fun pc lv d => hE () _ rfl pc lv d
  clear hE
  unfold fX6_onAll at hres
  show zj G 0 [(0, .ref aM), (1, .int p0)] [] ([(aM, .inr (6, [.ref aMk, .ref aMj, .int mN, .int mS, .ref aMc, .ref aMw, .int mX, .int mT])), (aMk, .inl (K.2 0, 12, .inl mK)), (aMj, .inl (K.2 3, 12, .inr (.inr (.inr (.inr (zo aMr 12)))))), (aMc, .inl (K.2 0, 12, .inl mC)), (aMw, .inl (K.2 0, 12, .inl mW))] ++ zR12Z K aMr mJ) 0 0
  refine z_aload_n hG dX6_onAll_0 0 rfl ?_
  refine z_aload_n hG dX6_onAll_1 0 rfl ?_
  refine z_iload_n hG dX6_onAll_2 1 rfl ?_
  obtain ⟨v1, hv, hres⟩ := z_bind hres
  refine z_callV (As := [.int p0]) (rest := [.ref aM]) (wr := ([] : va_W)) (ws' := (fun _ : Unit => ([(aM, .inr (6, [.ref aMk, .ref aMj, .int mN, .int mS, .ref aMc, .ref aMw, .int mX, .int mT])), (aMk, .inl (K.2 0, 12, .inl mK)), (aMj, .inl (K.2 3, 12, .inr (.inr (.inr (.inr (zo aMr 12)))))), (aMc, .inl (K.2 0, 12, .inl mC)), (aMw, .inl (K.2 0, 12, .inl mW))] ++ zR12Z K aMr mJ))) (stk := (fun _ : Unit => [.int v1, .ref aM])) (kc' := 0) (ks' := 0) (n := 1) (C := RX6) (ci := 6) hG dX6_onAll_3 (kX6_is _ K aM aMk aMj aMc aMw aMr mN mS mX mT mK mC mW mJ p0 v1 hv) gX6_onAll_X6_is rfl rfl rfl ⟨rfl, by decide, by decide, rfl⟩ ⟨by decide, by decide⟩ (Nat.le_of_ble_eq_true rfl) ⟨(Nat.le_of_ble_eq_true rfl), (Nat.le_of_ble_eq_true rfl)⟩ [0, 1, 2, 3, 4, 5, 6, 7, 8, 9, 10, 11, 12, 13, 14, 15, 16] [] [0, 1, 2, 3, 4, 5, 6, 7, 8, 9, 10, 11, 12, 13, 14, 15, 16] rfl rfl rfl rfl (by decide) rfl (fun _ => rfl) (fun _ => rfl) rfl rfl rfl 0 rfl rfl rfl rfl (fun _ => ?_)
  refine z_aload_n hG dX6_onAll_6 0 rfl ?_
  refine z_get (ci := 6) (C := RX6) (T := TX6) (N := 8) hG dX6_onAll_7 iX6_onAll_X6 3 (by decide) mX6_onAll_0 rfl rfl 0 rfl rfl ?_
  obtain ⟨v2, hv, hres⟩ := z_bind hres
  have J : zj G 18 [(0, .ref aM), (1, .int p0)] [.int v2, .int v1, .ref aM] ([(aM, .inr (6, [.ref aMk, .ref aMj, .int mN, .int mS, .ref aMc, .ref aMw, .int mX, .int mT])), (aMk, .inl (K.2 0, 12, .inl mK)), (aMj, .inl (K.2 3, 12, .inr (.inr (.inr (.inr (zo aMr 12)))))), (aMc, .inl (K.2 0, 12, .inl mC)), (aMw, .inl (K.2 0, 12, .inl mW))] ++ zR12Z K aMr mJ) 0 0 := by
    refine z_iconst 1 hG dX6_onAll_18 (by decide) ?_
    obtain ⟨v3, hv, hres⟩ := z_bind hres
    refine z_callV (As := [.int v1, .int v2, .int 1]) (rest := []) (wr := ([(aMk, .inl (K.2 0, 12, .inl mK)), (aMj, .inl (K.2 3, 12, .inr (.inr (.inr (.inr (zo aMr 12)))))), (aMc, .inl (K.2 0, 12, .inl mC)), (aMw, .inl (K.2 0, 12, .inl mW))] ++ zR12Z K aMr mJ)) (ws' := (fun _ : Unit => ([(aM, .inr (6, [.ref aMk, .ref aMj, .int mN, .int mS, .ref aMc, .ref aMw, .int mX, .int v3.2])), (aMk, .inl (K.2 0, 12, .inl mK)), (aMj, .inl (K.2 3, 12, .inr (.inr (.inr (.inr (zo aMr 12)))))), (aMc, .inl (K.2 0, 12, .inl mC)), (aMw, .inl (K.2 0, 12, .inl mW))] ++ zR12Z K aMr mJ))) (stk := (fun _ : Unit => [.int v3.1])) (kc' := 0) (ks' := 0) (n := 3) (C := RX6) (ci := 6) hG dX6_onAll_19 (kX6_can _ K aM aMk aMj aMc aMw mN mS mX mT v1 v2 1 v3 hv) gX6_onAll_X6_can rfl rfl rfl ⟨rfl, by decide, by decide, rfl⟩ ⟨by decide, by decide⟩ (Nat.le_of_ble_eq_true rfl) ⟨(Nat.le_of_ble_eq_true rfl), (Nat.le_of_ble_eq_true rfl)⟩ [0] [1, 2, 3, 4, 5, 6, 7, 8, 9, 10, 11, 12, 13, 14, 15, 16] [16, 0, 1, 2, 3, 4, 5, 6, 7, 8, 9, 10, 11, 12, 13, 14, 15] rfl rfl rfl rfl (by decide) rfl (fun _ => rfl) (fun _ => rfl) rfl rfl rfl 0 rfl rfl rfl rfl (fun _ => ?_)
    refine z_if_eq 51 hG dX6_onAll_22 (by decide) (fun c => ?_) (fun c => ?_)
    · replace hres := z_ifp c hres
      refine z_iconst 0 hG dX6_onAll_51 (by decide) ?_
      obtain rfl := Option.some.inj hres
      exact (z_wid (Nat.le_of_ble_eq_true rfl) (Nat.le_of_ble_eq_true rfl) (hR _ _ dX6_onAll_52))
    · replace hres := z_ifn c hres
      refine z_aload_n hG dX6_onAll_25 0 rfl ?_
      refine z_iconst 1 hG dX6_onAll_26 (by decide) ?_
      refine z_iconst 1 hG dX6_onAll_27 (by decide) ?_
      refine z_aload_n hG dX6_onAll_28 0 rfl ?_
      refine z_aload_n hG dX6_onAll_29 0 rfl ?_
      refine z_iload_n hG dX6_onAll_30 1 rfl ?_
      obtain ⟨v4, hv, hres⟩ := z_bind hres
      refine z_callV (As := [.int p0]) (rest := [.ref aM, .int 1, .int 1, .ref aM]) (wr := ([] : va_W)) (ws' := (fun _ : Unit => ([(aM, .inr (6, [.ref aMk, .ref aMj, .int mN, .int mS, .ref aMc, .ref aMw, .int mX, .int v3.2])), (aMk, .inl (K.2 0, 12, .inl mK)), (aMj, .inl (K.2 3, 12, .inr (.inr (.inr (.inr (zo aMr 12)))))), (aMc, .inl (K.2 0, 12, .inl mC)), (aMw, .inl (K.2 0, 12, .inl mW))] ++ zR12Z K aMr mJ))) (stk := (fun _ : Unit => [.int v4, .ref aM, .int 1, .int 1, .ref aM])) (kc' := 0) (ks' := 0) (n := 1) (C := RX6) (ci := 6) hG dX6_onAll_31 (kX6_at _ K aM aMk aMj aMc aMw aMr mN mS mX v3.2 mK mC mW mJ p0 v4 hv) gX6_onAll_X6_at rfl rfl rfl ⟨rfl, by decide, by decide, rfl⟩ ⟨by decide, by decide⟩ (Nat.le_of_ble_eq_true rfl) ⟨(Nat.le_of_ble_eq_true rfl), (Nat.le_of_ble_eq_true rfl)⟩ [0, 1, 2, 3, 4, 5, 6, 7, 8, 9, 10, 11, 12, 13, 14, 15, 16] [] [0, 1, 2, 3, 4, 5, 6, 7, 8, 9, 10, 11, 12, 13, 14, 15, 16] rfl rfl rfl rfl (by decide) rfl (fun _ => rfl) (fun _ => rfl) rfl rfl rfl 0 rfl rfl rfl rfl (fun _ => ?_)
      obtain ⟨v5, hv, hres⟩ := z_bind hres
      refine z_callV (As := [.int v4]) (rest := [.int 1, .int 1, .ref aM]) (wr := ([] : va_W)) (ws' := (fun _ : Unit => ([(aM, .inr (6, [.ref aMk, .ref aMj, .int mN, .int mS, .ref aMc, .ref aMw, .int mX, .int v3.2])), (aMk, .inl (K.2 0, 12, .inl mK)), (aMj, .inl (K.2 3, 12, .inr (.inr (.inr (.inr (zo aMr 12)))))), (aMc, .inl (K.2 0, 12, .inl mC)), (aMw, .inl (K.2 0, 12, .inl mW))] ++ zR12Z K aMr mJ))) (stk := (fun _ : Unit => [.int v5, .int 1, .int 1, .ref aM])) (kc' := 2) (ks' := 24) (n := 1) (C := RX6) (ci := 6) hG dX6_onAll_34 (kX6_allWays _ K aM aMk aMj aMc aMw aMr mN mS mX v3.2 mK mC mW mJ v4 v5 hv) gX6_onAll_X6_allWays rfl rfl rfl ⟨rfl, by decide, by decide, rfl⟩ ⟨by decide, by decide⟩ (Nat.le_of_ble_eq_true rfl) ⟨(Nat.le_of_ble_eq_true rfl), (Nat.le_of_ble_eq_true rfl)⟩ [0, 1, 2, 3, 4, 5, 6, 7, 8, 9, 10, 11, 12, 13, 14, 15, 16] [] [0, 1, 2, 3, 4, 5, 6, 7, 8, 9, 10, 11, 12, 13, 14, 15, 16] rfl rfl rfl rfl (by decide) rfl (fun _ => rfl) (fun _ => rfl) rfl rfl rfl 0 rfl rfl rfl rfl (fun _ => ?_)
      obtain ⟨v6, hv, hres⟩ := z_bind hres
      have J : zj G 45 [(0, .ref aM), (1, .int p0)] [.int v6, .int 1, .int 1, .ref aM] ([(aM, .inr (6, [.ref aMk, .ref aMj, .int mN, .int mS, .ref aMc, .ref aMw, .int mX, .int v3.2])), (aMk, .inl (K.2 0, 12, .inl mK)), (aMj, .inl (K.2 3, 12, .inr (.inr (.inr (.inr (zo aMr 12)))))), (aMc, .inl (K.2 0, 12, .inl mC)), (aMw, .inl (K.2 0, 12, .inl mW))] ++ zR12Z K aMr mJ) 2 24 := by
        obtain ⟨v7, hv, hres⟩ := z_bind hres
        refine z_callV (As := [.int 1, .int 1, .int v6]) (rest := []) (wr := ([(aMk, .inl (K.2 0, 12, .inl mK)), (aMj, .inl (K.2 3, 12, .inr (.inr (.inr (.inr (zo aMr 12)))))), (aMc, .inl (K.2 0, 12, .inl mC)), (aMw, .inl (K.2 0, 12, .inl mW))] ++ zR12Z K aMr mJ)) (ws' := (fun _ : Unit => ([(aM, .inr (6, [.ref aMk, .ref aMj, .int mN, .int mS, .ref aMc, .ref aMw, .int mX, .int v7.2])), (aMk, .inl (K.2 0, 12, .inl mK)), (aMj, .inl (K.2 3, 12, .inr (.inr (.inr (.inr (zo aMr 12)))))), (aMc, .inl (K.2 0, 12, .inl mC)), (aMw, .inl (K.2 0, 12, .inl mW))] ++ zR12Z K aMr mJ))) (stk := (fun _ : Unit => [.int v7.1])) (kc' := 2) (ks' := 24) (n := 3) (C := RX6) (ci := 6) hG dX6_onAll_45 (kX6_can _ K aM aMk aMj aMc aMw mN mS mX v3.2 1 1 v6 v7 hv) gX6_onAll_X6_can rfl rfl rfl ⟨rfl, by decide, by decide, rfl⟩ ⟨by decide, by decide⟩ (Nat.le_of_ble_eq_true rfl) ⟨(Nat.le_of_ble_eq_true rfl), (Nat.le_of_ble_eq_true rfl)⟩ [0] [1, 2, 3, 4, 5, 6, 7, 8, 9, 10, 11, 12, 13, 14, 15, 16] [16, 0, 1, 2, 3, 4, 5, 6, 7, 8, 9, 10, 11, 12, 13, 14, 15] rfl rfl rfl rfl (by decide) rfl (fun _ => rfl) (fun _ => rfl) rfl rfl rfl 0 rfl rfl rfl rfl (fun _ => ?_)
        refine z_if_ne 53 hG dX6_onAll_48 (by decide) (fun c => ?_) (fun c => ?_)
        · replace hres := z_ifn c hres
          refine z_iconst 0 hG dX6_onAll_53 (by decide) ?_
          refine z_istore_n (lv' := [(2, .int 0), (0, .ref aM), (1, .int p0)]) hG dX6_onAll_54 (by decide) rfl ?_
          refine z_iconst 0 hG dX6_onAll_55 (by decide) ?_
          refine z_istore_n (lv' := [(3, .int 0), (2, .int 0), (0, .ref aM), (1, .int p0)]) hG dX6_onAll_56 (by decide) rfl ?_
          obtain ⟨e18, hx, hres⟩ := z_bind hres
          refine z_lv [2, 3, 1, 0] (lv' := [(0, .ref aM), (1, .int p0), (2, .int 0), (3, .int 0)]) rfl ?_
          refine z_loopA hx (fun s16 : Int32 × Int32 => [(0, .ref aM), (1, .int p0), (2, .int s16.1), (3, .int s16.2)]) (fun s16 : Int32 × Int32 => ([(aM, .inr (6, [.ref aMk, .ref aMj, .int mN, .int mS, .ref aMc, .ref aMw, .int mX, .int v7.2])), (aMk, .inl (K.2 0, 12, .inl mK)), (aMj, .inl (K.2 3, 12, .inr (.inr (.inr (.inr (zo aMr 12)))))), (aMc, .inl (K.2 0, 12, .inl mC)), (aMw, .inl (K.2 0, 12, .inl mW))] ++ zR12Z K aMr mJ)) 6 72 (fun e18 : Int32 × Int32 => zj G 101 [(0, .ref aM), (1, .int p0), (2, .int e18.1), (3, .int e18.2)] [] ([(aM, .inr (6, [.ref aMk, .ref aMj, .int mN, .int mS, .ref aMc, .ref aMw, .int mX, .int v7.2])), (aMk, .inl (K.2 0, 12, .inl mK)), (aMj, .inl (K.2 3, 12, .inr (.inr (.inr (.inr (zo aMr 12)))))), (aMc, .inl (K.2 0, 12, .inl mC)), (aMw, .inl (K.2 0, 12, .inl mW))] ++ zR12Z K aMr mJ) 194 2328) ?_ ?_
          · refine z_iload_n hG dX6_onAll_101 2 rfl ?_
            obtain rfl := Option.some.inj hres
            exact (z_wid (Nat.le_of_ble_eq_true rfl) (Nat.le_of_ble_eq_true rfl) (hR _ _ dX6_onAll_102))
          · intro i19 s16 w17 hi hres hX hB
            unfold sX6_onAll_57 at hres
            refine z_iload_n hG dX6_onAll_57 3 rfl ?_
            refine z_aload_n hG dX6_onAll_58 0 rfl ?_
            refine z_get (ci := 6) (C := RX6) (T := TX6) (N := 8) hG dX6_onAll_59 iX6_onAll_X6 2 (by decide) mX6_onAll_2 rfl rfl 0 rfl rfl ?_
            refine z_icmp_ge 101 hG dX6_onAll_62 (by decide) (fun c => ?_) (fun c => ?_)
            · replace hres := z_ifp c hres
              exact (z_wid (by omega) (by omega) (hX (s16.1, s16.2) (Option.some.inj hres).symm))
            · replace hres := z_ifn c hres
              refine z_iload_n hG dX6_onAll_65 2 rfl ?_
              refine z_aload_n hG dX6_onAll_66 0 rfl ?_
              refine z_aload_n hG dX6_onAll_67 0 rfl ?_
              refine z_iload_n hG dX6_onAll_68 1 rfl ?_
              obtain ⟨v20, hv, hres⟩ := z_bind hres
              refine z_callV (As := [.int p0]) (rest := [.ref aM, .int s16.1]) (wr := ([] : va_W)) (ws' := (fun _ : Unit => ([(aM, .inr (6, [.ref aMk, .ref aMj, .int mN, .int mS, .ref aMc, .ref aMw, .int mX, .int v7.2])), (aMk, .inl (K.2 0, 12, .inl mK)), (aMj, .inl (K.2 3, 12, .inr (.inr (.inr (.inr (zo aMr 12)))))), (aMc, .inl (K.2 0, 12, .inl mC)), (aMw, .inl (K.2 0, 12, .inl mW))] ++ zR12Z K aMr mJ))) (stk := (fun _ : Unit => [.int v20, .ref aM, .int s16.1])) (kc' := (2 + 6 * i19)) (ks' := (24 + 72 * i19)) (n := 1) (C := RX6) (ci := 6) hG dX6_onAll_69 (kX6_at _ K aM aMk aMj aMc aMw aMr mN mS mX v7.2 mK mC mW mJ p0 v20 hv) gX6_onAll_X6_at rfl rfl rfl ⟨rfl, by decide, by decide, rfl⟩ ⟨by decide, by decide⟩ (Nat.le_of_ble_eq_true rfl) ⟨(by show _ ≤ 196; omega), (by show _ ≤ 2352; omega)⟩ [0, 1, 2, 3, 4, 5, 6, 7, 8, 9, 10, 11, 12, 13, 14, 15, 16] [] [0, 1, 2, 3, 4, 5, 6, 7, 8, 9, 10, 11, 12, 13, 14, 15, 16] rfl rfl rfl rfl (by decide) rfl (fun _ => rfl) (fun _ => rfl) rfl rfl rfl 0 rfl rfl rfl rfl (fun _ => ?_)
              refine z_iload_n hG dX6_onAll_72 3 rfl ?_
              obtain ⟨v21, hv, hres⟩ := z_bind hres
              refine z_callV (As := [.int v20, .int s16.2]) (rest := [.int s16.1]) (wr := ([] : va_W)) (ws' := (fun _ : Unit => ([(aM, .inr (6, [.ref aMk, .ref aMj, .int mN, .int mS, .ref aMc, .ref aMw, .int mX, .int v7.2])), (aMk, .inl (K.2 0, 12, .inl mK)), (aMj, .inl (K.2 3, 12, .inr (.inr (.inr (.inr (zo aMr 12)))))), (aMc, .inl (K.2 0, 12, .inl mC)), (aMw, .inl (K.2 0, 12, .inl mW))] ++ zR12Z K aMr mJ))) (stk := (fun _ : Unit => [.int v21, .int s16.1])) (kc' := ((2 + 6 * i19) + 4)) (ks' := ((24 + 72 * i19) + 48)) (n := 2) (C := RX6) (ci := 6) hG dX6_onAll_73 (kX6_throughs _ K aM aMk aMj aMc aMw aMr mN mS mX v7.2 mK mC mW mJ v20 s16.2 v21 hv) gX6_onAll_X6_throughs rfl rfl rfl ⟨rfl, by decide, by decide, rfl⟩ ⟨by decide, by decide⟩ (Nat.le_of_ble_eq_true rfl) ⟨(by show _ ≤ 196; omega), (by show _ ≤ 2352; omega)⟩ [0, 1, 2, 3, 4, 5, 6, 7, 8, 9, 10, 11, 12, 13, 14, 15, 16] [] [0, 1, 2, 3, 4, 5, 6, 7, 8, 9, 10, 11, 12, 13, 14, 15, 16] rfl rfl rfl rfl (by decide) rfl (fun _ => rfl) (fun _ => rfl) rfl rfl rfl 0 rfl rfl rfl rfl (fun _ => ?_)
              refine z_aload_n hG dX6_onAll_76 0 rfl ?_
              refine z_aload_n hG dX6_onAll_77 0 rfl ?_
              refine z_iload_n hG dX6_onAll_78 1 rfl ?_
              obtain ⟨v22, hv, hres⟩ := z_bind hres
              refine z_callV (As := [.int p0]) (rest := [.ref aM, .int v21, .int s16.1]) (wr := ([] : va_W)) (ws' := (fun _ : Unit => ([(aM, .inr (6, [.ref aMk, .ref aMj, .int mN, .int mS, .ref aMc, .ref aMw, .int mX, .int v7.2])), (aMk, .inl (K.2 0, 12, .inl mK)), (aMj, .inl (K.2 3, 12, .inr (.inr (.inr (.inr (zo aMr 12)))))), (aMc, .inl (K.2 0, 12, .inl mC)), (aMw, .inl (K.2 0, 12, .inl mW))] ++ zR12Z K aMr mJ))) (stk := (fun _ : Unit => [.int v22, .ref aM, .int v21, .int s16.1])) (kc' := ((2 + 6 * i19) + 4)) (ks' := ((24 + 72 * i19) + 48)) (n := 1) (C := RX6) (ci := 6) hG dX6_onAll_79 (kX6_at _ K aM aMk aMj aMc aMw aMr mN mS mX v7.2 mK mC mW mJ p0 v22 hv) gX6_onAll_X6_at rfl rfl rfl ⟨rfl, by decide, by decide, rfl⟩ ⟨by decide, by decide⟩ (Nat.le_of_ble_eq_true rfl) ⟨(by show _ ≤ 196; omega), (by show _ ≤ 2352; omega)⟩ [0, 1, 2, 3, 4, 5, 6, 7, 8, 9, 10, 11, 12, 13, 14, 15, 16] [] [0, 1, 2, 3, 4, 5, 6, 7, 8, 9, 10, 11, 12, 13, 14, 15, 16] rfl rfl rfl rfl (by decide) rfl (fun _ => rfl) (fun _ => rfl) rfl rfl rfl 0 rfl rfl rfl rfl (fun _ => ?_)
              obtain ⟨v23, hv, hres⟩ := z_bind hres
              refine z_callV (As := [.int v22]) (rest := [.int v21, .int s16.1]) (wr := ([] : va_W)) (ws' := (fun _ : Unit => ([(aM, .inr (6, [.ref aMk, .ref aMj, .int mN, .int mS, .ref aMc, .ref aMw, .int mX, .int v7.2])), (aMk, .inl (K.2 0, 12, .inl mK)), (aMj, .inl (K.2 3, 12, .inr (.inr (.inr (.inr (zo aMr 12)))))), (aMc, .inl (K.2 0, 12, .inl mC)), (aMw, .inl (K.2 0, 12, .inl mW))] ++ zR12Z K aMr mJ))) (stk := (fun _ : Unit => [.int v23, .int v21, .int s16.1])) (kc' := (((2 + 6 * i19) + 4) + 2)) (ks' := (((24 + 72 * i19) + 48) + 24)) (n := 1) (C := RX6) (ci := 6) hG dX6_onAll_82 (kX6_allWays _ K aM aMk aMj aMc aMw aMr mN mS mX v7.2 mK mC mW mJ v22 v23 hv) gX6_onAll_X6_allWays rfl rfl rfl ⟨rfl, by decide, by decide, rfl⟩ ⟨by decide, by decide⟩ (Nat.le_of_ble_eq_true rfl) ⟨(by show _ ≤ 196; omega), (by show _ ≤ 2352; omega)⟩ [0, 1, 2, 3, 4, 5, 6, 7, 8, 9, 10, 11, 12, 13, 14, 15, 16] [] [0, 1, 2, 3, 4, 5, 6, 7, 8, 9, 10, 11, 12, 13, 14, 15, 16] rfl rfl rfl rfl (by decide) rfl (fun _ => rfl) (fun _ => rfl) rfl rfl rfl 0 rfl rfl rfl rfl (fun _ => ?_)
              refine z_icmp_ne 92 hG dX6_onAll_85 (by decide) (fun c => ?_) (fun c => ?_)
              · replace hres := z_ifn c hres
                refine z_iconst 0 hG dX6_onAll_92 (by decide) ?_
                refine z_iadd hG dX6_onAll_93 ?_
                refine z_istore_n (lv' := [(2, .int (s16.1 + 0)), (0, .ref aM), (1, .int p0), (3, .int s16.2)]) hG dX6_onAll_94 (by decide) rfl ?_
                refine z_iinc (s16.2 + 1) (lv' := [(3, .int (s16.2 + 1)), (2, .int (s16.1 + 0)), (0, .ref aM), (1, .int p0)]) hG dX6_onAll_95 3 rfl rfl (by decide) rfl ?_
                refine z_goto 57 hG dX6_onAll_98 (by decide) ?_
                exact (z_lv [2, 3, 1, 0] rfl (z_wid (by omega) (by omega) (hB ((s16.1 + 0), (s16.2 + 1)) (Option.some.inj hres).symm)))
              · replace hres := z_ifp c hres
                refine z_iconst 1 hG dX6_onAll_88 (by decide) ?_
                refine z_goto 93 hG dX6_onAll_89 (by decide) ?_
                refine z_iadd hG dX6_onAll_93 ?_
                refine z_istore_n (lv' := [(2, .int (s16.1 + 1)), (0, .ref aM), (1, .int p0), (3, .int s16.2)]) hG dX6_onAll_94 (by decide) rfl ?_
                refine z_iinc (s16.2 + 1) (lv' := [(3, .int (s16.2 + 1)), (2, .int (s16.1 + 1)), (0, .ref aM), (1, .int p0)]) hG dX6_onAll_95 3 rfl rfl (by decide) rfl ?_
                refine z_goto 57 hG dX6_onAll_98 (by decide) ?_
                exact (z_lv [2, 3, 1, 0] rfl (z_wid (by omega) (by omega) (hB ((s16.1 + 1), (s16.2 + 1)) (Option.some.inj hres).symm)))
        · replace hres := z_ifp c hres
          refine z_iconst 0 hG dX6_onAll_51 (by decide) ?_
          obtain rfl := Option.some.inj hres
          exact (z_wid (Nat.le_of_ble_eq_true rfl) (Nat.le_of_ble_eq_true rfl) (hR _ _ dX6_onAll_52))
      replace hres := hv
      clear hv
      refine z_if_le 44 hG dX6_onAll_37 (by decide) (fun c => ?_) (fun c => ?_)
      · replace hres := z_ifp c hres
        refine z_iconst 0 hG dX6_onAll_44 (by decide) ?_
        obtain rfl := Option.some.inj hres
        exact J
      · replace hres := z_ifn c hres
        refine z_iconst 1 hG dX6_onAll_40 (by decide) ?_
        refine z_goto 45 hG dX6_onAll_41 (by decide) ?_
        obtain rfl := Option.some.inj hres
        exact J
  replace hres := hv
  clear hv
  refine z_if_lt 17 hG dX6_onAll_10 (by decide) (fun c => ?_) (fun c => ?_)
  · replace hres := z_ifp c hres
    refine z_iconst 0 hG dX6_onAll_17 (by decide) ?_
    obtain rfl := Option.some.inj hres
    exact J
  · replace hres := z_ifn c hres
    refine z_iconst 1 hG dX6_onAll_13 (by decide) ?_
    refine z_goto 18 hG dX6_onAll_14 (by decide) ?_
    obtain rfl := Option.some.inj hres
    exact J
