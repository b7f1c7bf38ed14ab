theorem dX6_begin_0 : decode cX6_begin 0 = .ok (.aload_n 0, 1) := by decide +kernel
theorem dX6_begin_1 : decode cX6_begin 1 = .ok (.aload_n 0, 1) := by decide +kernel
theorem dX6_begin_2 : decode cX6_begin 2 = .ok (.iload_n 1, 1) := by decide +kernel
theorem dX6_begin_3 : decode cX6_begin 3 = .ok (.invokevirtual 38, 3) := by decide +kernel
theorem dX6_begin_6 : decode cX6_begin 6 = .ok (.iconst 1, 1) := by decide +kernel
theorem dX6_begin_7 : decode cX6_begin 7 = .ok (.iconst 1, 1) := by decide +kernel
theorem dX6_begin_8 : decode cX6_begin 8 = .ok (.invokevirtual 42, 3) := by decide +kernel
theorem dX6_begin_11 : decode cX6_begin 11 = .ok (.ifCond .ne 5, 3) := by decide +kernel
theorem dX6_begin_14 : decode cX6_begin 14 = .ok (.iconst 0, 1) := by decide +kernel
theorem dX6_begin_15 : decode cX6_begin 15 = .ok (.ireturn, 1) := by decide +kernel
theorem dX6_begin_16 : decode cX6_begin 16 = .ok (.aload_n 0, 1) := by decide +kernel
theorem dX6_begin_17 : decode cX6_begin 17 = .ok (.aload_n 0, 1) := by decide +kernel
theorem dX6_begin_18 : decode cX6_begin 18 = .ok (.iload_n 1, 1) := by decide +kernel
theorem dX6_begin_19 : decode cX6_begin 19 = .ok (.invokevirtual 34, 3) := by decide +kernel
theorem dX6_begin_22 : decode cX6_begin 22 = .ok (.putfield 18, 3) := by decide +kernel
theorem dX6_begin_25 : decode cX6_begin 25 = .ok (.aload_n 0, 1) := by decide +kernel
theorem dX6_begin_26 : decode cX6_begin 26 = .ok (.iconst 0, 1) := by decide +kernel
theorem dX6_begin_27 : decode cX6_begin 27 = .ok (.putfield 46, 3) := by decide +kernel
theorem dX6_begin_30 : decode cX6_begin 30 = .ok (.aload_n 0, 1) := by decide +kernel
theorem dX6_begin_31 : decode cX6_begin 31 = .ok (.getfield 31, 3) := by decide +kernel
theorem dX6_begin_34 : decode cX6_begin 34 = .ok (.aload_n 0, 1) := by decide +kernel
theorem dX6_begin_35 : decode cX6_begin 35 = .ok (.aload_n 0, 1) := by decide +kernel
theorem dX6_begin_36 : decode cX6_begin 36 = .ok (.aload_n 0, 1) := by decide +kernel
theorem dX6_begin_37 : decode cX6_begin 37 = .ok (.getfield 18, 3) := by decide +kernel
theorem dX6_begin_40 : decode cX6_begin 40 = .ok (.invokevirtual 52, 3) := by decide +kernel
theorem dX6_begin_43 : decode cX6_begin 43 = .ok (.iconst (-1), 1) := by decide +kernel
theorem dX6_begin_44 : decode cX6_begin 44 = .ok (.invokevirtual 60, 3) := by decide +kernel
theorem dX6_begin_47 : decode cX6_begin 47 = .ok (.isub, 1) := by decide +kernel
theorem dX6_begin_48 : decode cX6_begin 48 = .ok (.ireturn, 1) := by decide +kernel
set_option maxRecDepth 20000 in
theorem ggX6_begin_X6_is : GoodIn wsX6_begin wsX6_is := goodIn_r _ [8, 9, 10, 11, 7, 12, 3, 13, 29, 30, 31, 32, 33, 34, 35, 36] (by decide +kernel) (by decide +kernel)
set_option maxRecDepth 20000 in
theorem gX6_begin_X6_is : GoodIn wsX6_begin (wsV RX6 38 RX6 yX6_is wsX6_is) := goodIn_app (goodIn_of _ (by decide +kernel)) ggX6_begin_X6_is
set_option maxRecDepth 20000 in
theorem ggX6_begin_X6_can : GoodIn wsX6_begin wsX6_can := goodIn_r _ [17, 18, 29, 30, 31, 32, 33, 34, 35, 36] (by decide +kernel) (by decide +kernel)
set_option maxRecDepth 20000 in
theorem gX6_begin_X6_can : GoodIn wsX6_begin (wsV RX6 42 RX6 yX6_can wsX6_can) := goodIn_app (goodIn_of _ (by decide +kernel)) ggX6_begin_X6_can
set_option maxRecDepth 20000 in
theorem ggX6_begin_X6_at : GoodIn wsX6_begin wsX6_at := goodIn_r _ [12, 3, 13, 29, 30, 31, 32, 33, 34, 35, 36] (by decide +kernel) (by decide +kernel)
set_option maxRecDepth 20000 in
theorem gX6_begin_X6_at : GoodIn wsX6_begin (wsV RX6 34 RX6 yX6_at wsX6_at) := goodIn_app (goodIn_of _ (by decide +kernel)) ggX6_begin_X6_at
set_option maxRecDepth 20000 in
theorem ggX6_begin_X6_lengths : GoodIn wsX6_begin wsX6_lengths := goodIn_r _ [22, 23, 3, 24, 29, 30, 31, 32, 33, 34, 35, 36] (by decide +kernel) (by decide +kernel)
set_option maxRecDepth 20000 in
theorem gX6_begin_X6_lengths : GoodIn wsX6_begin (wsV RX6 52 RX6 yX6_lengths wsX6_lengths) := goodIn_app (goodIn_of _ (by decide +kernel)) ggX6_begin_X6_lengths
set_option maxRecDepth 20000 in
theorem ggX6_begin_X6_having : GoodIn wsX6_begin wsX6_having := goodIn_r _ [28, 3, 29, 30, 31, 32, 33, 34, 35, 36] (by decide +kernel) (by decide +kernel)
set_option maxRecDepth 20000 in
theorem gX6_begin_X6_having : GoodIn wsX6_begin (wsV RX6 60 RX6 yX6_having wsX6_having) := goodIn_app (goodIn_of _ (by decide +kernel)) ggX6_begin_X6_having
theorem mX6_begin_0 : Cond.fieldLink RX6 18 "LayerwaysModel" "start" "I" ∈ wsX6_begin := by decide +kernel
theorem iX6_begin_X6 : ∀ w ∈ u_ws RX6 TX6 8, w ∈ wsX6_begin := by decide +kernel
theorem mX6_begin_2 : Cond.fieldLink RX6 46 "LayerwaysModel" "changes" "I" ∈ wsX6_begin := by decide +kernel
theorem mX6_begin_3 : Cond.fieldLink RX6 31 "LayerwaysModel" "many" "I" ∈ wsX6_begin := by decide +kernel
def fX6_begin (mN : Int32) (mS : Int32) (mX : Int32) (mK : (Nat → Int32)) (mJ : (Nat → Nat → Int32)) (p0 : Int32) : Option (Int32 × Int32 × Int32 × Int32) := (fX6_is mN mK p0).bind fun v1 => (fX6_can v1 1 1).bind fun v2 => if v2.1 = 0 then some (0, mS, mX, v2.2) else (fX6_at mN mK p0).bind fun v3 => (fX6_lengths mN mJ v3).bind fun v4 => (fX6_having mN v4 (-1)).bind fun v6 => some ((mN - v6), v3, 0, v2.2)
set_option maxRecDepth 100000 in
set_option maxHeartbeats 4000000 in
theorem kX6_begin (l : Launch) (K : zK) (aM : Nat) (aMk : Nat) (aMj : Nat) (aMc : Nat) (aMw : Nat) (aMr : (Nat → Nat))  (mN : Int32) (mS : Int32) (mX : Int32) (mT : Int32) (mK : (Nat → Int32)) (mC : (Nat → Int32)) (mW : (Nat → Int32)) (mJ : (Nat → Nat → Int32)) (p0 : Int32) (r : Int32 × Int32 × Int32 × Int32) (hres : fX6_begin mN mS mX mK mJ p0 = some r) : zM l K yX6_begin wsX6_begin ({ frames := 2, cells := 1, slots := 12, locals := 43 }) [.ref aM, .int p0] ([(aM, .inr (6, [.ref aMk, .ref aMj, .int mN, .int mS, .ref aMc, .ref aMw, .int mX, .int mT])), (aMk, .inl (K.2 0, 12, .inl mK)), (aMj, .inl (K.2 3, 12, .inr (.inr (.inr (.inr (zo aMr 12)))))), (aMc, .inl (K.2 0, 12, .inl mC)), (aMw, .inl (K.2 0, 12, .inl mW))] ++ zR12Z K aMr mJ) (fun _ : Unit => some (.int r.1)) (fun _ : Unit => ([(aM, .inr (6, [.ref aMk, .ref aMj, .int mN, .int r.2.1, .ref aMc, .ref aMw, .int r.2.2.1, .int r.2.2.2])), (aMk, .inl (K.2 0, 12, .inl mK)), (aMj, .inl (K.2 3, 12, .inr (.inr (.inr (.inr (zo aMr 12)))))), (aMc, .inl (K.2 0, 12, .inl mC)), (aMw, .inl (K.2 0, 12, .inl mW))] ++ zR12Z K aMr mJ)) 1 12 := by
  refine zM.intI (cc := cX6_begin) (maxL := 2) (ret := (some .int)) rfl (by decide) (Nat.le_of_ble_eq_true rfl) rfl ?_
  intro G hGl hG hN hE
  have hR : ∀ (pc : Nat) (lv : zL), decode cX6_begin pc = .ok (.ireturn, 1) → zj G pc lv [.int r.1] ([(aM, .inr (6, [.ref aMk, .ref aMj, .int mN, .int r.2.1, .ref aMc, .ref aMw, .int r.2.2.1, .int r.2.2.2])), (aMk, .inl (K.2 0, 12, .inl mK)), (aMj, .inl (K.2 3, 12, .inr (.inr (.inr (.inr (zo aMr 12)))))), (aMc, .inl (K.2 0, 12, .inl mC)), (aMw, .inl (K.2 0, 12, .inl mW))] ++ zR12Z K aMr mJ) 1 12 := fun pc lv d => hE () _ rfl pc lv d
  clear hE
  unfold fX6_begin at hres
  show zj G 0 [(0, .ref aM), (1, .int p0)] [] ([(aM, .inr (6, [.ref aMk, .ref aMj, .int mN, .int mS, .ref aMc, .ref aMw, .int mX, .int mT])), (aMk, .inl (K.2 0, 12, .inl mK)), (aMj, .inl (K.2 3, 12, .inr (.inr (.inr (.inr (zo aMr 12)))))), (aMc, .inl (K.2 0, 12, .inl mC)), (aMw, .inl (K.2 0, 12, .inl mW))] ++ zR12Z K aMr mJ) 0 0
  refine z_aload_n hG dX6_begin_0 0 rfl ?_
  refine z_aload_n hG dX6_begin_1 0 rfl ?_
  refine z_iload_n hG dX6_begin_2 1 rfl ?_
  obtain ⟨v1, hv, hres⟩ := z_bind hres
  refine z_callV (As := [.int p0]) (rest := [.ref aM]) (wr := ([] : va_W)) (ws' := (fun _ : Unit => ([(aM, .inr (6, [.ref aMk, .ref aMj, .int mN, .int mS, .ref aMc, .ref aMw, .int mX, .int mT])), (aMk, .inl (K.2 0, 12, .inl mK)), (aMj, .inl (K.2 3, 12, .inr (.inr (.inr (.inr (zo aMr 12)))))), (aMc, .inl (K.2 0, 12, .inl mC)), (aMw, .inl (K.2 0, 12, .inl mW))] ++ zR12Z K aMr mJ))) (stk := (fun _ : Unit => [.int v1, .ref aM])) (kc' := 0) (ks' := 0) (n := 1) (C := RX6) (ci := 6) hG dX6_begin_3 (kX6_is _ K aM aMk aMj aMc aMw aMr mN mS mX mT mK mC mW mJ p0 v1 hv) gX6_begin_X6_is rfl rfl rfl ⟨rfl, by decide, by decide, rfl⟩ ⟨by decide, by decide⟩ (Nat.le_of_ble_eq_true rfl) ⟨(Nat.le_of_ble_eq_true rfl), (Nat.le_of_ble_eq_true rfl)⟩ [0, 1, 2, 3, 4, 5, 6, 7, 8, 9, 10, 11, 12, 13, 14, 15, 16] [] [0, 1, 2, 3, 4, 5, 6, 7, 8, 9, 10, 11, 12, 13, 14, 15, 16] rfl rfl rfl rfl (by decide) rfl (fun _ => rfl) (fun _ => rfl) rfl rfl rfl 0 rfl rfl rfl rfl (fun _ => ?_)
  refine z_iconst 1 hG dX6_begin_6 (by decide) ?_
  refine z_iconst 1 hG dX6_begin_7 (by decide) ?_
  obtain ⟨v2, hv, hres⟩ := z_bind hres
  refine z_callV (As := [.int v1, .int 1, .int 1]) (rest := []) (wr := ([(aMk, .inl (K.2 0, 12, .inl mK)), (aMj, .inl (K.2 3, 12, .inr (.inr (.inr (.inr (zo aMr 12)))))), (aMc, .inl (K.2 0, 12, .inl mC)), (aMw, .inl (K.2 0, 12, .inl mW))] ++ zR12Z K aMr mJ)) (ws' := (fun _ : Unit => ([(aM, .inr (6, [.ref aMk, .ref aMj, .int mN, .int mS, .ref aMc, .ref aMw, .int mX, .int v2.2])), (aMk, .inl (K.2 0, 12, .inl mK)), (aMj, .inl (K.2 3, 12, .inr (.inr (.inr (.inr (zo aMr 12)))))), (aMc, .inl (K.2 0, 12, .inl mC)), (aMw, .inl (K.2 0, 12, .inl mW))] ++ zR12Z K aMr mJ))) (stk := (fun _ : Unit => [.int v2.1])) (kc' := 0) (ks' := 0) (n := 3) (C := RX6) (ci := 6) hG dX6_begin_8 (kX6_can _ K aM aMk aMj aMc aMw mN mS mX mT v1 1 1 v2 hv) gX6_begin_X6_can rfl rfl rfl ⟨rfl, by decide, by decide, rfl⟩ ⟨by decide, by decide⟩ (Nat.le_of_ble_eq_true rfl) ⟨(Nat.le_of_ble_eq_true rfl), (Nat.le_of_ble_eq_true rfl)⟩ [0] [1, 2, 3, 4, 5, 6, 7, 8, 9, 10, 11, 12, 13, 14, 15, 16] [16, 0, 1, 2, 3, 4, 5, 6, 7, 8, 9, 10, 11, 12, 13, 14, 15] rfl rfl rfl rfl (by decide) rfl (fun _ => rfl) (fun _ => rfl) rfl rfl rfl 0 rfl rfl rfl rfl (fun _ => ?_)
  refine z_if_ne 16 hG dX6_begin_11 (by decide) (fun c => ?_) (fun c => ?_)
  · replace hres := z_ifn c hres
    refine z_aload_n hG dX6_begin_16 0 rfl ?_
    refine z_aload_n hG dX6_begin_17 0 rfl ?_
    refine z_iload_n hG dX6_begin_18 1 rfl ?_
    obtain ⟨v3, hv, hres⟩ := z_bind hres
    refine z_callV (As := [.int p0]) (rest := [.ref aM]) (wr := ([] : va_W)) (ws' := (fun _ : Unit => ([(aM, .inr (6, [.ref aMk, .ref aMj, .int mN, .int mS, .ref aMc, .ref aMw, .int mX, .int v2.2])), (aMk, .inl (K.2 0, 12, .inl mK)), (aMj, .inl (K.2 3, 12, .inr (.inr (.inr (.inr (zo aMr 12)))))), (aMc, .inl (K.2 0, 12, .inl mC)), (aMw, .inl (K.2 0, 12, .inl mW))] ++ zR12Z K aMr mJ))) (stk := (fun _ : Unit => [.int v3, .ref aM])) (kc' := 0) (ks' := 0) (n := 1) (C := RX6) (ci := 6) hG dX6_begin_19 (kX6_at _ K aM aMk aMj aMc aMw aMr mN mS mX v2.2 mK mC mW mJ p0 v3 hv) gX6_begin_X6_at rfl rfl rfl ⟨rfl, by decide, by decide, rfl⟩ ⟨by decide, by decide⟩ (Nat.le_of_ble_eq_true rfl) ⟨(Nat.le_of_ble_eq_true rfl), (Nat.le_of_ble_eq_true rfl)⟩ [0, 1, 2, 3, 4, 5, 6, 7, 8, 9, 10, 11, 12, 13, 14, 15, 16] [] [0, 1, 2, 3, 4, 5, 6, 7, 8, 9, 10, 11, 12, 13, 14, 15, 16] rfl rfl rfl rfl (by decide) rfl (fun _ => rfl) (fun _ => rfl) rfl rfl rfl 0 rfl rfl rfl rfl (fun _ => ?_)
    refine z_put (ci := 6) (C := RX6) (T := TX6) (N := 8) (ws' := ([(aM, .inr (6, [.ref aMk, .ref aMj, .int mN, .int v3, .ref aMc, .ref aMw, .int mX, .int v2.2])), (aMk, .inl (K.2 0, 12, .inl mK)), (aMj, .inl (K.2 3, 12, .inr (.inr (.inr (.inr (zo aMr 12)))))), (aMc, .inl (K.2 0, 12, .inl mC)), (aMw, .inl (K.2 0, 12, .inl mW))] ++ zR12Z K aMr mJ)) hG dX6_begin_22 iX6_begin_X6 tyX6_ok nmX6 3 (by decide) mX6_begin_0 rfl rfl rfl rfl rfl rfl 0 rfl (Nat.le_of_ble_eq_true rfl) rfl ?_
    refine z_aload_n hG dX6_begin_25 0 rfl ?_
    refine z_iconst 0 hG dX6_begin_26 (by decide) ?_
    refine z_put (ci := 6) (C := RX6) (T := TX6) (N := 8) (ws' := ([(aM, .inr (6, [.ref aMk, .ref aMj, .int mN, .int v3, .ref aMc, .ref aMw, .int 0, .int v2.2])), (aMk, .inl (K.2 0, 12, .inl mK)), (aMj, .inl (K.2 3, 12, .inr (.inr (.inr (.inr (zo aMr 12)))))), (aMc, .inl (K.2 0, 12, .inl mC)), (aMw, .inl (K.2 0, 12, .inl mW))] ++ zR12Z K aMr mJ)) hG dX6_begin_27 iX6_begin_X6 tyX6_ok nmX6 6 (by decide) mX6_begin_2 rfl rfl rfl rfl rfl rfl 0 rfl (Nat.le_of_ble_eq_true rfl) rfl ?_
    refine z_aload_n hG dX6_begin_30 0 rfl ?_
    refine z_get (ci := 6) (C := RX6) (T := TX6) (N := 8) hG dX6_begin_31 iX6_begin_X6 2 (by decide) mX6_begin_3 rfl rfl 0 rfl rfl ?_
    refine z_aload_n hG dX6_begin_34 0 rfl ?_
    refine z_aload_n hG dX6_begin_35 0 rfl ?_
    refine z_aload_n hG dX6_begin_36 0 rfl ?_
    refine z_get (ci := 6) (C := RX6) (T := TX6) (N := 8) hG dX6_begin_37 iX6_begin_X6 3 (by decide) mX6_begin_0 rfl rfl 0 rfl rfl ?_
    obtain ⟨v4, hv, hres⟩ := z_bind hres
    refine z_callV (As := [.int v3]) (rest := [.ref aM, .int mN]) (wr := ([] : va_W)) (ws' := (fun q5 : Nat => ([(aM, .inr (6, [.ref aMk, .ref aMj, .int mN, .int v3, .ref aMc, .ref aMw, .int 0, .int v2.2])), (aMk, .inl (K.2 0, 12, .inl mK)), (aMj, .inl (K.2 3, 12, .inr (.inr (.inr (.inr (zo aMr 12)))))), (aMc, .inl (K.2 0, 12, .inl mC)), (aMw, .inl (K.2 0, 12, .inl mW))] ++ zR12Z K aMr mJ ++ [(q5, .inl (K.2 0, 12, .inl v4))]))) (stk := (fun q5 : Nat => [.ref q5, .ref aM, .int mN])) (kc' := 1) (ks' := 12) (n := 1) (C := RX6) (ci := 6) hG dX6_begin_40 (kX6_lengths _ K aM aMk aMj aMc aMw aMr mN v3 0 v2.2 mK mC mW mJ v3 v4 hv) gX6_begin_X6_lengths rfl rfl rfl ⟨rfl, by decide, by decide, rfl⟩ ⟨by decide, by decide⟩ (Nat.le_of_ble_eq_true rfl) ⟨(Nat.le_of_ble_eq_true rfl), (Nat.le_of_ble_eq_true rfl)⟩ [0, 1, 2, 3, 4, 5, 6, 7, 8, 9, 10, 11, 12, 13, 14, 15, 16] [] [0, 1, 2, 3, 4, 5, 6, 7, 8, 9, 10, 11, 12, 13, 14, 15, 16, 17] rfl rfl rfl rfl (by decide) rfl (fun _ => rfl) (fun _ => rfl) rfl rfl rfl 0 rfl rfl rfl rfl (fun q5 => ?_)
    refine z_iconst (-1) hG dX6_begin_43 (by decide) ?_
    obtain ⟨v6, hv, hres⟩ := z_bind hres
    refine z_callV (As := [.ref q5, .int (-1)]) (rest := [.int mN]) (wr := ([(aMk, .inl (K.2 0, 12, .inl mK)), (aMj, .inl (K.2 3, 12, .inr (.inr (.inr (.inr (zo aMr 12)))))), (aMc, .inl (K.2 0, 12, .inl mC)), (aMw, .inl (K.2 0, 12, .inl mW))] ++ zR12Z K aMr mJ)) (ws' := (fun _ : Unit => ([(aM, .inr (6, [.ref aMk, .ref aMj, .int mN, .int v3, .ref aMc, .ref aMw, .int 0, .int v2.2])), (aMk, .inl (K.2 0, 12, .inl mK)), (aMj, .inl (K.2 3, 12, .inr (.inr (.inr (.inr (zo aMr 12)))))), (aMc, .inl (K.2 0, 12, .inl mC)), (aMw, .inl (K.2 0, 12, .inl mW))] ++ zR12Z K aMr mJ ++ [(q5, .inl (K.2 0, 12, .inl v4))]))) (stk := (fun _ : Unit => [.int v6, .int mN])) (kc' := 1) (ks' := 12) (n := 2) (C := RX6) (ci := 6) hG dX6_begin_44 (kX6_having _ K aM q5 aMk aMj aMc aMw mN v3 0 v2.2 v4 (-1) v6 hv) gX6_begin_X6_having rfl rfl rfl ⟨rfl, by decide, by decide, rfl⟩ ⟨by decide, by decide⟩ (Nat.le_of_ble_eq_true rfl) ⟨(Nat.le_of_ble_eq_true rfl), (Nat.le_of_ble_eq_true rfl)⟩ [0, 17] [1, 2, 3, 4, 5, 6, 7, 8, 9, 10, 11, 12, 13, 14, 15, 16] [16, 0, 1, 2, 3, 4, 5, 6, 7, 8, 9, 10, 11, 12, 13, 14, 15, 17] rfl rfl rfl rfl (by decide) rfl (fun _ => rfl) (fun _ => rfl) rfl rfl rfl 0 rfl rfl rfl rfl (fun _ => ?_)
    refine z_isub hG dX6_begin_47 ?_
    obtain rfl := Option.some.inj hres
    exact (z_ws [0, 1, 2, 3, 4, 5, 6, 7, 8, 9, 10, 11, 12, 13, 14, 15, 16] rfl rfl (hR _ _ dX6_begin_48))
  · replace hres := z_ifp c hres
    refine z_iconst 0 hG dX6_begin_14 (by decide) ?_
    obtain rfl := Option.some.inj hres
    exact (z_wid (Nat.le_of_ble_eq_true rfl) (Nat.le_of_ble_eq_true rfl) (hR _ _ dX6_begin_15))

theorem dX6_length_0 : decode cX6_length 0 = .ok (.aload_n 0, 1) := by decide +kernel
theorem dX6_length_1 : decode cX6_length 1 = .ok (.aload_n 0, 1) := by decide +kernel
theorem dX6_length_2 : decode cX6_length 2 = .ok (.iload_n 1, 1) := by decide +kernel
theorem dX6_length_3 : decode cX6_length 3 = .ok (.invokevirtual 38, 3) := by decide +kernel
theorem dX6_length_6 : decode cX6_length 6 = .ok (.aload_n 0, 1) := by decide +kernel
theorem dX6_length_7 : decode cX6_length 7 = .ok (.getfield 18, 3) := by decide +kernel
theorem dX6_length_10 : decode cX6_length 10 = .ok (.ifCond .lt 7, 3) := by decide +kernel
theorem dX6_length_13 : decode cX6_length 13 = .ok (.iconst 1, 1) := by decide +kernel
theorem dX6_length_14 : decode cX6_length 14 = .ok (.goto 4, 3) := by decide +kernel
theorem dX6_length_17 : decode cX6_length 17 = .ok (.iconst 0, 1) := by decide +kernel
theorem dX6_length_18 : decode cX6_length 18 = .ok (.iconst 1, 1) := by decide +kernel
theorem dX6_length_19 : decode cX6_length 19 = .ok (.invokevirtual 42, 3) := by decide +kernel
theorem dX6_length_22 : decode cX6_length 22 = .ok (.ifCond .eq 20, 3) := by decide +kernel
theorem dX6_length_25 : decode cX6_length 25 = .ok (.aload_n 0, 1) := by decide +kernel
theorem dX6_length_26 : decode cX6_length 26 = .ok (.aload_n 0, 1) := by decide +kernel
theorem dX6_length_27 : decode cX6_length 27 = .ok (.getfield 18, 3) := by decide +kernel
theorem dX6_length_30 : decode cX6_length 30 = .ok (.invokevirtual 52, 3) := by decide +kernel
theorem dX6_length_33 : decode cX6_length 33 = .ok (.aload_n 0, 1) := by decide +kernel
theorem dX6_length_34 : decode cX6_length 34 = .ok (.iload_n 1, 1) := by decide +kernel
theorem dX6_length_35 : decode cX6_length 35 = .ok (.invokevirtual 34, 3) := by decide +kernel
theorem dX6_length_38 : decode cX6_length 38 = .ok (.iaload, 1) := by decide +kernel
theorem dX6_length_39 : decode cX6_length 39 = .ok (.goto 4, 3) := by decide +kernel
theorem dX6_length_42 : decode cX6_length 42 = .ok (.iconst 0, 1) := by decide +kernel
theorem dX6_length_43 : decode cX6_length 43 = .ok (.ireturn, 1) := by decide +kernel
set_option maxRecDepth 20000 in
theorem ggX6_length_X6_is : GoodIn wsX6_length wsX6_is := goodIn_r _ [6, 7, 8, 9, 5, 10, 11, 12, 24, 25, 26, 27, 28, 29, 30, 31] (by decide +kernel) (by decide +kernel)
set_option maxRecDepth 20000 in
theorem gX6_length_X6_is : GoodIn wsX6_length (wsV RX6 38 RX6 yX6_is wsX6_is) := goodIn_app (goodIn_of _ (by decide +kernel)) ggX6_length_X6_is
set_option maxRecDepth 20000 in
theorem ggX6_length_X6_can : GoodIn wsX6_length wsX6_can := goodIn_r _ [16, 17, 24, 25, 26, 27, 28, 29, 30, 31] (by decide +kernel) (by decide +kernel)
set_option maxRecDepth 20000 in
theorem gX6_length_X6_can : GoodIn wsX6_length (wsV RX6 42 RX6 yX6_can wsX6_can) := goodIn_app (goodIn_of _ (by decide +kernel)) ggX6_length_X6_can
set_option maxRecDepth 20000 in
theorem ggX6_length_X6_lengths : GoodIn wsX6_length wsX6_lengths := goodIn_r _ [21, 22, 11, 23, 24, 25, 26, 27, 28, 29, 30, 31] (by decide +kernel) (by decide +kernel)
set_option maxRecDepth 20000 in
theorem gX6_length_X6_lengths : GoodIn wsX6_length (wsV RX6 52 RX6 yX6_lengths wsX6_lengths) := goodIn_app (goodIn_of _ (by decide +kernel)) ggX6_length_X6_lengths
set_option maxRecDepth 20000 in
theorem ggX6_length_X6_at : GoodIn wsX6_length wsX6_at := goodIn_r _ [10, 11, 12, 24, 25, 26, 27, 28, 29, 30, 31] (by decide +kernel) (by decide +kernel)
set_option maxRecDepth 20000 in
theorem gX6_length_X6_at : GoodIn wsX6_length (wsV RX6 34 RX6 yX6_at wsX6_at) := goodIn_app (goodIn_of _ (by decide +kernel)) ggX6_length_X6_at
theorem mX6_length_0 : Cond.fieldLink RX6 18 "LayerwaysModel" "start" "I" ∈ wsX6_length := by decide +kernel
theorem iX6_length_X6 : ∀ w ∈ u_ws RX6 TX6 8, w ∈ wsX6_length := by decide +kernel
def fX6_length (mN : Int32) (mS : Int32) (mK : (Nat → Int32)) (mJ : (Nat → Nat → Int32)) (p0 : Int32) : Option (Int32 × Int32) := (fX6_is mN mK p0).bind fun v1 => ((if mS < 0 then some 0 else some 1) : Option Int32).bind fun v2 => (fX6_can v1 v2 1).bind fun v3 => if v3.1 = 0 then some (0, v3.2) else (fX6_lengths mN mJ mS).bind fun v4 => (fX6_at mN mK p0).bind fun v6 => if zin v6 12 then some ((v4 v6.toNatClampNeg), v3.2) else none
set_option maxRecDepth 100000 in
set_option maxHeartbeats 4000000 in
theorem kX6_length (l : Launch) (K : zK) (aM : Nat) (aMk : Nat) (aMj : Nat) (aMc : Nat) (aMw : Nat) (aMr : (Nat → Nat))  (mN : Int32) (mS : Int32) (mX : Int32) (mT : Int32) (mK : (Nat → Int32)) (mC : (Nat → Int32)) (mW : (Nat → Int32)) (mJ : (Nat → Nat → Int32)) (p0 : Int32) (r : Int32 × Int32) (hres : fX6_length mN mS mK mJ p0 = some r) : zM l K yX6_length wsX6_length ({ frames := 2, cells := 1, slots := 12, locals := 43 }) [.ref aM, .int p0] ([(aM, .inr (6, [.ref aMk, .ref aMj, .int mN, .int mS, .ref aMc, .ref aMw, .int mX, .int mT])), (aMk, .inl (K.2 0, 12, .inl mK)), (aMj, .inl (K.2 3, 12, .inr (.inr (.inr (.inr (zo aMr 12)))))), (aMc, .inl (K.2 0, 12, .inl mC)), (aMw, .inl (K.2 0, 12, .inl mW))] ++ zR12Z K aMr mJ) (fun _ : Unit => some (.int r.1)) (fun _ : Unit => ([(aM, .inr (6, [.ref aMk, .ref aMj, .int mN, .int mS, .ref aMc, .ref aMw, .int mX, .int r.2])), (aMk, .inl (K.2 0, 12, .inl mK)), (aMj, .inl (K.2 3, 12, .inr (.inr (.inr (.inr (zo aMr 12)))))), (aMc, .inl (K.2 0, 12, .inl mC)), (aMw, .inl (K.2 0, 12, .inl mW))] ++ zR12Z K aMr mJ)) 1 12 := by
  refine zM.intI (cc := cX6_length) (maxL := 2) (ret := (some .int)) rfl (by decide) (Nat.le_of_ble_eq_true rfl) rfl ?_
  intro G hGl hG hN hE
  have hR : ∀ (pc : Nat) (lv : zL), decode cX6_length pc = .ok (.ireturn, 1) → zj G pc lv [.int r.1] ([(aM, .inr (6, [.ref aMk, .ref aMj, .int mN, .int mS, .ref aMc, .ref aMw, .int mX, .int r.2])), (aMk, .inl (K.2 0, 12, .inl mK)), (aMj, .inl (K.2 3, 12, .inr (.inr (.inr (.inr (zo aMr 12)))))), (aMc, .inl (K.2 0, 12, .inl mC)), (aMw, .inl (K.2 0, 12, .inl mW))] ++ zR12Z K aMr mJ) 1 12 := fun pc lv d => hE () _ rfl pc lv d
  clear hE
  unfold fX6_length at hres
  show zj G 0 [(0, .ref aM), (1, .int p0)] [] ([(aM, .inr (6, [.ref aMk, .ref aMj, .int mN, .int mS, .ref aMc, .ref aMw, .int mX, .int mT])), (aMk, .inl (K.2 0, 12, .inl mK)), (aMj, .inl (K.2 3, 12, .inr (.inr (.inr (.inr (zo aMr 12)))))), (aMc, .inl (K.2 0, 12, .inl mC)), (aMw, .inl (K.2 0, 12, .inl mW))] ++ zR12Z K aMr mJ) 0 0
  refine z_aload_n hG dX6_length_0 0 rfl ?_
  refine z_aload_n hG dX6_length_1 0 rfl ?_
  refine z_iload_n hG dX6_length_2 1 rfl ?_
  obtain ⟨v1, hv, hres⟩ := z_bind hres
  refine z_callV (As := [.int p0]) (rest := [.ref aM]) (wr := ([] : va_W)) (ws' := (fun _ : Unit => ([(aM, .inr (6, [.ref aMk, .ref aMj, .int mN, .int mS, .ref aMc, .ref aMw, .int mX, .int mT])), (aMk, .inl (K.2 0, 12, .inl mK)), (aMj, .inl (K.2 3, 12, .inr (.inr (.inr (.inr (zo aMr 12)))))), (aMc, .inl (K.2 0, 12, .inl mC)), (aMw, .inl (K.2 0, 12, .inl mW))] ++ zR12Z K aMr mJ))) (stk := (fun _ : Unit => [.int v1, .ref aM])) (kc' := 0) (ks' := 0) (n := 1) (C := RX6) (ci := 6) hG dX6_length_3 (kX6_is _ K aM aMk aMj aMc aMw aMr mN mS mX mT mK mC mW mJ p0 v1 hv) gX6_length_X6_is rfl rfl rfl ⟨rfl, by decide, by decide, rfl⟩ ⟨by decide, by decide⟩ (Nat.le_of_ble_eq_true rfl) ⟨(Nat.le_of_ble_eq_true rfl), (Nat.le_of_ble_eq_true rfl)⟩ [0, 1, 2, 3, 4, 5, 6, 7, 8, 9, 10, 11, 12, 13, 14, 15, 16] [] [0, 1, 2, 3, 4, 5, 6, 7, 8, 9, 10, 11, 12, 13, 14, 15, 16] rfl rfl rfl rfl (by decide) rfl (fun _ => rfl) (fun _ => rfl) rfl rfl rfl 0 rfl rfl rfl rfl (fun _ => ?_)
  refine z_aload_n hG dX6_length_6 0 rfl ?_
  refine z_get (ci := 6) (C := RX6) (T := TX6) (N := 8) hG dX6_length_7 iX6_length_X6 3 (by decide) mX6_length_0 rfl rfl 0 rfl rfl ?_
  obtain ⟨v2, hv, hres⟩ := z_bind hres
  have J : zj G 18 [(0, .ref aM), (1, .int p0)] [.int v2, .int v1, .ref aM] ([(aM, .inr (6, [.ref aMk, .ref aMj, .int mN, .int mS, .ref aMc, .ref aMw, .int mX, .int mT])), (aMk, .inl (K.2 0, 12, .inl mK)), (aMj, .inl (K.2 3, 12, .inr (.inr (.inr (.inr (zo aMr 12)))))), (aMc, .inl (K.2 0, 12, .inl mC)), (aMw, .inl (K.2 0, 12, .inl mW))] ++ zR12Z K aMr mJ) 0 0 := by
    refine z_iconst 1 hG dX6_length_18 (by decide) ?_
    obtain ⟨v3, hv, hres⟩ := z_bind hres
    refine z_callV (As := [.int v1, .int v2, .int 1]) (rest := []) (wr := ([(aMk, .inl (K.2 0, 12, .inl mK)), (aMj, .inl (K.2 3, 12, .inr (.inr (.inr (.inr (zo aMr 12)))))), (aMc, .inl (K.2 0, 12, .inl mC)), (aMw, .inl (K.2 0, 12, .inl mW))] ++ zR12Z K aMr mJ)) (ws' := (fun _ : Unit => ([(aM, .inr (6, [.ref aMk, .ref aMj, .int mN, .int mS, .ref aMc, .ref aMw, .int mX, .int v3.2])), (aMk, .inl (K.2 0, 12, .inl mK)), (aMj, .inl (K.2 3, 12, .inr (.inr (.inr (.inr (zo aMr 12)))))), (aMc, .inl (K.2 0, 12, .inl mC)), (aMw, .inl (K.2 0, 12, .inl mW))] ++ zR12Z K aMr mJ))) (stk := (fun _ : Unit => [.int v3.1])) (kc' := 0) (ks' := 0) (n := 3) (C := RX6) (ci := 6) hG dX6_length_19 (kX6_can _ K aM aMk aMj aMc aMw mN mS mX mT v1 v2 1 v3 hv) gX6_length_X6_can rfl rfl rfl ⟨rfl, by decide, by decide, rfl⟩ ⟨by decide, by decide⟩ (Nat.le_of_ble_eq_true rfl) ⟨(Nat.le_of_ble_eq_true rfl), (Nat.le_of_ble_eq_true rfl)⟩ [0] [1, 2, 3, 4, 5, 6, 7, 8, 9, 10, 11, 12, 13, 14, 15, 16] [16, 0, 1, 2, 3, 4, 5, 6, 7, 8, 9, 10, 11, 12, 13, 14, 15] rfl rfl rfl rfl (by decide) rfl (fun _ => rfl) (fun _ => rfl) rfl rfl rfl 0 rfl rfl rfl rfl (fun _ => ?_)
    refine z_if_eq 42 hG dX6_length_22 (by decide) (fun c => ?_) (fun c => ?_)
    · replace hres := z_ifp c hres
      refine z_iconst 0 hG dX6_length_42 (by decide) ?_
      obtain rfl := Option.some.inj hres
      exact (z_wid (Nat.le_of_ble_eq_true rfl) (Nat.le_of_ble_eq_true rfl) (hR _ _ dX6_length_43))
    · replace hres := z_ifn c hres
      refine z_aload_n hG dX6_length_25 0 rfl ?_
      refine z_aload_n hG dX6_length_26 0 rfl ?_
      refine z_get (ci := 6) (C := RX6) (T := TX6) (N := 8) hG dX6_length_27 iX6_length_X6 3 (by decide) mX6_length_0 rfl rfl 0 rfl rfl ?_
      obtain ⟨v4, hv, hres⟩ := z_bind hres
      refine z_callV (As := [.int mS]) (rest := []) (wr := ([] : va_W)) (ws' := (fun q5 : Nat => ([(aM, .inr (6, [.ref aMk, .ref aMj, .int mN, .int mS, .ref aMc, .ref aMw, .int mX, .int v3.2])), (aMk, .inl (K.2 0, 12, .inl mK)), (aMj, .inl (K.2 3, 12, .inr (.inr (.inr (.inr (zo aMr 12)))))), (aMc, .inl (K.2 0, 12, .inl mC)), (aMw, .inl (K.2 0, 12, .inl mW))] ++ zR12Z K aMr mJ ++ [(q5, .inl (K.2 0, 12, .inl v4))]))) (stk := (fun q5 : Nat => [.ref q5])) (kc' := 1) (ks' := 12) (n := 1) (C := RX6) (ci := 6) hG dX6_length_30 (kX6_lengths _ K aM aMk aMj aMc aMw aMr mN mS mX v3.2 mK mC mW mJ mS v4 hv) gX6_length_X6_lengths rfl rfl rfl ⟨rfl, by decide, by decide, rfl⟩ ⟨by decide, by decide⟩ (Nat.le_of_ble_eq_true rfl) ⟨(Nat.le_of_ble_eq_true rfl), (Nat.le_of_ble_eq_true rfl)⟩ [0, 1, 2, 3, 4, 5, 6, 7, 8, 9, 10, 11, 12, 13, 14, 15, 16] [] [0, 1, 2, 3, 4, 5, 6, 7, 8, 9, 10, 11, 12, 13, 14, 15, 16, 17] rfl rfl rfl rfl (by decide) rfl (fun _ => rfl) (fun _ => rfl) rfl rfl rfl 0 rfl rfl rfl rfl (fun q5 => ?_)
      refine z_aload_n hG dX6_length_33 0 rfl ?_
      refine z_iload_n hG dX6_length_34 1 rfl ?_
      obtain ⟨v6, hv, hres⟩ := z_bind hres
      refine z_callV (As := [.int p0]) (rest := [.ref q5]) (wr := [(q5, .inl (K.2 0, 12, .inl v4))]) (ws' := (fun _ : Unit => ([(aM, .inr (6, [.ref aMk, .ref aMj, .int mN, .int mS, .ref aMc, .ref aMw, .int mX, .int v3.2])), (aMk, .inl (K.2 0, 12, .inl mK)), (aMj, .inl (K.2 3, 12, .inr (.inr (.inr (.inr (zo aMr 12)))))), (aMc, .inl (K.2 0, 12, .inl mC)), (aMw, .inl (K.2 0, 12, .inl mW))] ++ zR12Z K aMr mJ ++ [(q5, .inl (K.2 0, 12, .inl v4))]))) (stk := (fun _ : Unit => [.int v6, .ref q5])) (kc' := 1) (ks' := 12) (n := 1) (C := RX6) (ci := 6) hG dX6_length_35 (kX6_at _ K aM aMk aMj aMc aMw aMr mN mS mX v3.2 mK mC mW mJ p0 v6 hv) gX6_length_X6_at rfl rfl rfl ⟨rfl, by decide, by decide, rfl⟩ ⟨by decide, by decide⟩ (Nat.le_of_ble_eq_true rfl) ⟨(Nat.le_of_ble_eq_true rfl), (Nat.le_of_ble_eq_true rfl)⟩ [0, 1, 2, 3, 4, 5, 6, 7, 8, 9, 10, 11, 12, 13, 14, 15, 16] [17] [1, 2, 3, 4, 5, 6, 7, 8, 9, 10, 11, 12, 13, 14, 15, 16, 17, 0] rfl rfl rfl rfl (by decide) rfl (fun _ => rfl) (fun _ => rfl) rfl rfl rfl 0 rfl rfl rfl rfl (fun _ => ?_)
      obtain ⟨hg, hres⟩ := z_guard hres
      refine z_iald hG dX6_length_38 17 rfl hg ?_
      refine z_goto 43 hG dX6_length_39 (by decide) ?_
      obtain rfl := Option.some.inj hres
      exact (z_ws [0, 1, 2, 3, 4, 5, 6, 7, 8, 9, 10, 11, 12, 13, 14, 15, 16] rfl rfl (hR _ _ dX6_length_43))
  replace hres := hv
  clear hv
  refine z_if_lt 17 hG dX6_length_10 (by decide) (fun c => ?_) (fun c => ?_)
  · replace hres := z_ifp c hres
    refine z_iconst 0 hG dX6_length_17 (by decide) ?_
    obtain rfl := Option.some.inj hres
    exact J
  · replace hres := z_ifn c hres
    refine z_iconst 1 hG dX6_length_13 (by decide) ?_
    refine z_goto 18 hG dX6_length_14 (by decide) ?_
    obtain rfl := Option.some.inj hres
    exact J

theorem dX6_farthest_0 : decode cX6_farthest 0 = .ok (.aload_n 0, 1) := by decide +kernel
theorem dX6_farthest_1 : decode cX6_farthest 1 = .ok (.aload_n 0, 1) := by decide +kernel
theorem dX6_farthest_2 : decode cX6_farthest 2 = .ok (.getfield 18, 3) := by decide +kernel
theorem dX6_farthest_5 : decode cX6_farthest 5 = .ok (.ifCond .lt 7, 3) := by decide +kernel
theorem dX6_farthest_8 : decode cX6_farthest 8 = .ok (.iconst 1, 1) := by decide +kernel
theorem dX6_farthest_9 : decode cX6_farthest 9 = .ok (.goto 4, 3) := by decide +kernel
theorem dX6_farthest_12 : decode cX6_farthest 12 = .ok (.iconst 0, 1) := by decide +kernel
theorem dX6_farthest_13 : decode cX6_farthest 13 = .ok (.iconst 1, 1) := by decide +kernel
theorem dX6_farthest_14 : decode cX6_farthest 14 = .ok (.iconst 1, 1) := by decide +kernel
theorem dX6_farthest_15 : decode cX6_farthest 15 = .ok (.invokevirtual 42, 3) := by decide +kernel
theorem dX6_farthest_18 : decode cX6_farthest 18 = .ok (.ifCond .eq 18, 3) := by decide +kernel
theorem dX6_farthest_21 : decode cX6_farthest 21 = .ok (.aload_n 0, 1) := by decide +kernel
theorem dX6_farthest_22 : decode cX6_farthest 22 = .ok (.aload_n 0, 1) := by decide +kernel
theorem dX6_farthest_23 : decode cX6_farthest 23 = .ok (.aload_n 0, 1) := by decide +kernel
theorem dX6_farthest_24 : decode cX6_farthest 24 = .ok (.getfield 18, 3) := by decide +kernel
theorem dX6_farthest_27 : decode cX6_farthest 27 = .ok (.invokevirtual 52, 3) := by decide +kernel
theorem dX6_farthest_30 : decode cX6_farthest 30 = .ok (.invokevirtual 64, 3) := by decide +kernel
theorem dX6_farthest_33 : decode cX6_farthest 33 = .ok (.goto 4, 3) := by decide +kernel
theorem dX6_farthest_36 : decode cX6_farthest 36 = .ok (.iconst 0, 1) := by decide +kernel
theorem dX6_farthest_37 : decode cX6_farthest 37 = .ok (.ireturn, 1) := by decide +kernel
set_option maxRecDepth 20000 in
theorem ggX6_farthest_X6_can : GoodIn wsX6_farthest wsX6_can := goodIn_r _ [6, 7, 19, 20, 21, 22, 23, 24, 25, 26] (by decide +kernel) (by decide +kernel)
set_option maxRecDepth 20000 in
theorem gX6_farthest_X6_can : GoodIn wsX6_farthest (wsV RX6 42 RX6 yX6_can wsX6_can) := goodIn_app (goodIn_of _ (by decide +kernel)) ggX6_farthest_X6_can
set_option maxRecDepth 20000 in
theorem ggX6_farthest_X6_lengths : GoodIn wsX6_farthest wsX6_lengths := goodIn_r _ [11, 12, 13, 14, 19, 20, 21, 22, 23, 24, 25, 26] (by decide +kernel) (by decide +kernel)
set_option maxRecDepth 20000 in
theorem gX6_farthest_X6_lengths : GoodIn wsX6_farthest (wsV RX6 52 RX6 yX6_lengths wsX6_lengths) := goodIn_app (goodIn_of _ (by decide +kernel)) ggX6_farthest_X6_lengths
set_option maxRecDepth 20000 in
theorem ggX6_farthest_X6_greatest : GoodIn wsX6_farthest wsX6_greatest := goodIn_r _ [18, 13, 19, 20, 21, 22, 23, 24, 25, 26] (by decide +kernel) (by decide +kernel)
set_option maxRecDepth 20000 in
theorem gX6_farthest_X6_greatest : GoodIn wsX6_farthest (wsV RX6 64 RX6 yX6_greatest wsX6_greatest) := goodIn_app (goodIn_of _ (by decide +kernel)) ggX6_farthest_X6_greatest
theorem mX6_farthest_0 : Cond.fieldLink RX6 18 "LayerwaysModel" "start" "I" ∈ wsX6_farthest := by decide +kernel
theorem iX6_farthest_X6 : ∀ w ∈ u_ws RX6 TX6 8, w ∈ wsX6_farthest := by decide +kernel
def fX6_farthest (mN : Int32) (mS : Int32) (mJ : (Nat → Nat → Int32)) : Option (Int32 × Int32) := ((if mS < 0 then some 0 else some 1) : Option Int32).bind fun v1 => (fX6_can v1 1 1).bind fun v2 => if v2.1 = 0 then some (0, v2.2) else (fX6_lengths mN mJ mS).bind fun v3 => (fX6_greatest mN v3).bind fun v5 => some (v5, v2.2)
set_option maxRecDepth 100000 in
set_option maxHeartbeats 4000000 in
theorem kX6_farthest (l : Launch) (K : zK) (aM : Nat) (aMk : Nat) (aMj : Nat) (aMc : Nat) (aMw : Nat) (aMr : (Nat → Nat))  (mN : Int32) (mS : Int32) (mX : Int32) (mT : Int32) (mK : (Nat → Int32)) (mC : (Nat → Int32)) (mW : (Nat → Int32)) (mJ : (Nat → Nat → Int32)) (r : Int32 × Int32) (hres : fX6_farthest mN mS mJ = some r) : zM l K yX6_farthest wsX6_farthest ({ frames := 1, cells := 1, slots := 12, locals := 25 }) [.ref aM] ([(aM, .inr (6, [.ref aMk, .ref aMj, .int mN, .int mS, .ref aMc, .ref aMw, .int mX, .int mT])), (aMk, .inl (K.2 0, 12, .inl mK)), (aMj, .inl (K.2 3, 12, .inr (.inr (.inr (.inr (zo aMr 12)))))), (aMc, .inl (K.2 0, 12, .inl mC)), (aMw, .inl (K.2 0, 12, .inl mW))] ++ zR12Z K aMr mJ) (fun _ : Unit => some (.int r.1)) (fun _ : Unit => ([(aM, .inr (6, [.ref aMk, .ref aMj, .int mN, .int mS, .ref aMc, .ref aMw, .int mX, .int r.2])), (aMk, .inl (K.2 0, 12, .inl mK)), (aMj, .inl (K.2 3, 12, .inr (.inr (.inr (.inr (zo aMr 12)))))), (aMc, .inl (K.2 0, 12, .inl mC)), (aMw, .inl (K.2 0, 12, .inl mW))] ++ zR12Z K aMr mJ)) 1 12 := by
  refine zM.intI (cc := cX6_farthest) (maxL := 1) (ret := (some .int)) rfl (by decide) (Nat.le_of_ble_eq_true rfl) rfl ?_
  intro G hGl hG hN hE
  have hR : ∀ (pc : Nat) (lv : zL), decode cX6_farthest pc = .ok (.ireturn, 1) → zj G pc lv [.int r.1] ([(aM, .inr (6, [.ref aMk, .ref aMj, .int mN, .int mS, .ref aMc, .ref aMw, .int mX, .int r.2])), (aMk, .inl (K.2 0, 12, .inl mK)), (aMj, .inl (K.2 3, 12, .inr (.inr (.inr (.inr (zo aMr 12)))))), (aMc, .inl (K.2 0, 12, .inl mC)), (aMw, .inl (K.2 0, 12, .inl mW))] ++ zR12Z K aMr mJ) 1 12 := fun pc lv d => hE () _ rfl pc lv d
  clear hE
  unfold fX6_farthest at hres
  show zj G 0 [(0, .ref aM)] [] ([(aM, .inr (6, [.ref aMk, .ref aMj, .int mN, .int mS, .ref aMc, .ref aMw, .int mX, .int mT])), (aMk, .inl (K.2 0, 12, .inl mK)), (aMj, .inl (K.2 3, 12, .inr (.inr (.inr (.inr (zo aMr 12)))))), (aMc, .inl (K.2 0, 12, .inl mC)), (aMw, .inl (K.2 0, 12, .inl mW))] ++ zR12Z K aMr mJ) 0 0
  refine z_aload_n hG dX6_farthest_0 0 rfl ?_
  refine z_aload_n hG dX6_farthest_1 0 rfl ?_
  refine z_get (ci := 6) (C := RX6) (T := TX6) (N := 8) hG dX6_farthest_2 iX6_farthest_X6 3 (by decide) mX6_farthest_0 rfl rfl 0 rfl rfl ?_
  obtain ⟨v1, hv, hres⟩ := z_bind hres
  have J : zj G 13 [(0, .ref aM)] [.int v1, .ref aM] ([(aM, .inr (6, [.ref aMk, .ref aMj, .int mN, .int mS, .ref aMc, .ref aMw, .int mX, .int mT])), (aMk, .inl (K.2 0, 12, .inl mK)), (aMj, .inl (K.2 3, 12, .inr (.inr (.inr (.inr (zo aMr 12)))))), (aMc, .inl (K.2 0, 12, .inl mC)), (aMw, .inl (K.2 0, 12, .inl mW))] ++ zR12Z K aMr mJ) 0 0 := by
    refine z_iconst 1 hG dX6_farthest_13 (by decide) ?_
    refine z_iconst 1 hG dX6_farthest_14 (by decide) ?_
    obtain ⟨v2, hv, hres⟩ := z_bind hres
    refine z_callV (As := [.int v1, .int 1, .int 1]) (rest := []) (wr := ([(aMk, .inl (K.2 0, 12, .inl mK)), (aMj, .inl (K.2 3, 12, .inr (.inr (.inr (.inr (zo aMr 12)))))), (aMc, .inl (K.2 0, 12, .inl mC)), (aMw, .inl (K.2 0, 12, .inl mW))] ++ zR12Z K aMr mJ)) (ws' := (fun _ : Unit => ([(aM, .inr (6, [.ref aMk, .ref aMj, .int mN, .int mS, .ref aMc, .ref aMw, .int mX, .int v2.2])), (aMk, .inl (K.2 0, 12, .inl mK)), (aMj, .inl (K.2 3, 12, .inr (.inr (.inr (.inr (zo aMr 12)))))), (aMc, .inl (K.2 0, 12, .inl mC)), (aMw, .inl (K.2 0, 12, .inl mW))] ++ zR12Z K aMr mJ))) (stk := (fun _ : Unit => [.int v2.1])) (kc' := 0) (ks' := 0) (n := 3) (C := RX6) (ci := 6) hG dX6_farthest_15 (kX6_can _ K aM aMk aMj aMc aMw mN mS mX mT v1 1 1 v2 hv) gX6_farthest_X6_can rfl rfl rfl ⟨rfl, by decide, by decide, rfl⟩ ⟨by decide, by decide⟩ (Nat.le_of_ble_eq_true rfl) ⟨(Nat.le_of_ble_eq_true rfl), (Nat.le_of_ble_eq_true rfl)⟩ [0] [1, 2, 3, 4, 5, 6, 7, 8, 9, 10, 11, 12, 13, 14, 15, 16] [16, 0, 1, 2, 3, 4, 5, 6, 7, 8, 9, 10, 11, 12, 13, 14, 15] rfl rfl rfl rfl (by decide) rfl (fun _ => rfl) (fun _ => rfl) rfl rfl rfl 0 rfl rfl rfl rfl (fun _ => ?_)
    refine z_if_eq 36 hG dX6_farthest_18 (by decide) (fun c => ?_) (fun c => ?_)
    · replace hres := z_ifp c hres
      refine z_iconst 0 hG dX6_farthest_36 (by decide) ?_
      obtain rfl := Option.some.inj hres
      exact (z_wid (Nat.le_of_ble_eq_true rfl) (Nat.le_of_ble_eq_true rfl) (hR _ _ dX6_farthest_37))
    · replace hres := z_ifn c hres
      refine z_aload_n hG dX6_farthest_21 0 rfl ?_
      refine z_aload_n hG dX6_farthest_22 0 rfl ?_
      refine z_aload_n hG dX6_farthest_23 0 rfl ?_
      refine z_get (ci := 6) (C := RX6) (T := TX6) (N := 8) hG dX6_farthest_24 iX6_farthest_X6 3 (by decide) mX6_farthest_0 rfl rfl 0 rfl rfl ?_
      obtain ⟨v3, hv, hres⟩ := z_bind hres
      refine z_callV (As := [.int mS]) (rest := [.ref aM]) (wr := ([] : va_W)) (ws' := (fun q4 : Nat => ([(aM, .inr (6, [.ref aMk, .ref aMj, .int mN, .int mS, .ref aMc, .ref aMw, .int mX, .int v2.2])), (aMk, .inl (K.2 0, 12, .inl mK)), (aMj, .inl (K.2 3, 12, .inr (.inr (.inr (.inr (zo aMr 12)))))), (aMc, .inl (K.2 0, 12, .inl mC)), (aMw, .inl (K.2 0, 12, .inl mW))] ++ zR12Z K aMr mJ ++ [(q4, .inl (K.2 0, 12, .inl v3))]))) (stk := (fun q4 : Nat => [.ref q4, .ref aM])) (kc' := 1) (ks' := 12) (n := 1) (C := RX6) (ci := 6) hG dX6_farthest_27 (kX6_lengths _ K aM aMk aMj aMc aMw aMr mN mS mX v2.2 mK mC mW mJ mS v3 hv) gX6_farthest_X6_lengths rfl rfl rfl ⟨rfl, by decide, by decide, rfl⟩ ⟨by decide, by decide⟩ (Nat.le_of_ble_eq_true rfl) ⟨(Nat.le_of_ble_eq_true rfl), (Nat.le_of_ble_eq_true rfl)⟩ [0, 1, 2, 3, 4, 5, 6, 7, 8, 9, 10, 11, 12, 13, 14, 15, 16] [] [0, 1, 2, 3, 4, 5, 6, 7, 8, 9, 10, 11, 12, 13, 14, 15, 16, 17] rfl rfl rfl rfl (by decide) rfl (fun _ => rfl) (fun _ => rfl) rfl rfl rfl 0 rfl rfl rfl rfl (fun q4 => ?_)
      obtain ⟨v5, hv, hres⟩ := z_bind hres
      refine z_callV (As := [.ref q4]) (rest := []) (wr := ([(aMk, .inl (K.2 0, 12, .inl mK)), (aMj, .inl (K.2 3, 12, .inr (.inr (.inr (.inr (zo aMr 12)))))), (aMc, .inl (K.2 0, 12, .inl mC)), (aMw, .inl (K.2 0, 12, .inl mW))] ++ zR12Z K aMr mJ)) (ws' := (fun _ : Unit => ([(aM, .inr (6, [.ref aMk, .ref aMj, .int mN, .int mS, .ref aMc, .ref aMw, .int mX, .int v2.2])), (aMk, .inl (K.2 0, 12, .inl mK)), (aMj, .inl (K.2 3, 12, .inr (.inr (.inr (.inr (zo aMr 12)))))), (aMc, .inl (K.2 0, 12, .inl mC)), (aMw, .inl (K.2 0, 12, .inl mW))] ++ zR12Z K aMr mJ ++ [(q4, .inl (K.2 0, 12, .inl v3))]))) (stk := (fun _ : Unit => [.int v5])) (kc' := 1) (ks' := 12) (n := 1) (C := RX6) (ci := 6) hG dX6_farthest_30 (kX6_greatest _ K aM q4 aMk aMj aMc aMw mN mS mX v2.2 v3 v5 hv) gX6_farthest_X6_greatest rfl rfl rfl ⟨rfl, by decide, by decide, rfl⟩ ⟨by decide, by decide⟩ (Nat.le_of_ble_eq_true rfl) ⟨(Nat.le_of_ble_eq_true rfl), (Nat.le_of_ble_eq_true rfl)⟩ [0, 17] [1, 2, 3, 4, 5, 6, 7, 8, 9, 10, 11, 12, 13, 14, 15, 16] [16, 0, 1, 2, 3, 4, 5, 6, 7, 8, 9, 10, 11, 12, 13, 14, 15, 17] rfl rfl rfl rfl (by decide) rfl (fun _ => rfl) (fun _ => rfl) rfl rfl rfl 0 rfl rfl rfl rfl (fun _ => ?_)
      refine z_goto 37 hG dX6_farthest_33 (by decide) ?_
      obtain rfl := Option.some.inj hres
      exact (z_ws [0, 1, 2, 3, 4, 5, 6, 7, 8, 9, 10, 11, 12, 13, 14, 15, 16] rfl rfl (hR _ _ dX6_farthest_37))
  replace hres := hv
  clear hv
  refine z_if_lt 12 hG dX6_farthest_5 (by decide) (fun c => ?_) (fun c => ?_)
  · replace hres := z_ifp c hres
    refine z_iconst 0 hG dX6_farthest_12 (by decide) ?_
    obtain rfl := Option.some.inj hres
    exact J
  · replace hres := z_ifn c hres
    refine z_iconst 1 hG dX6_farthest_8 (by decide) ?_
    refine z_goto 13 hG dX6_farthest_9 (by decide) ?_
    obtain rfl := Option.some.inj hres
    exact J

theorem dX6_layer_0 : decode cX6_layer 0 = .ok (.aload_n 0, 1) := by decide +kernel
theorem dX6_layer_1 : decode cX6_layer 1 = .ok (.aload_n 0, 1) := by decide +kernel
theorem dX6_layer_2 : decode cX6_layer 2 = .ok (.getfield 18, 3) := by decide +kernel
theorem dX6_layer_5 : decode cX6_layer 5 = .ok (.ifCond .lt 7, 3) := by decide +kernel
theorem dX6_layer_8 : decode cX6_layer 8 = .ok (.iconst 1, 1) := by decide +kernel
theorem dX6_layer_9 : decode cX6_layer 9 = .ok (.goto 4, 3) := by decide +kernel
theorem dX6_layer_12 : decode cX6_layer 12 = .ok (.iconst 0, 1) := by decide +kernel
theorem dX6_layer_13 : decode cX6_layer 13 = .ok (.iconst 1, 1) := by decide +kernel
theorem dX6_layer_14 : decode cX6_layer 14 = .ok (.iconst 1, 1) := by decide +kernel
theorem dX6_layer_15 : decode cX6_layer 15 = .ok (.invokevirtual 42, 3) := by decide +kernel
theorem dX6_layer_18 : decode cX6_layer 18 = .ok (.ifCond .eq 7, 3) := by decide +kernel
theorem dX6_layer_21 : decode cX6_layer 21 = .ok (.iload_n 1, 1) := by decide +kernel
theorem dX6_layer_22 : decode cX6_layer 22 = .ok (.ifCond .ge 7, 3) := by decide +kernel
theorem dX6_layer_25 : decode cX6_layer 25 = .ok (.iconst 0, 1) := by decide +kernel
theorem dX6_layer_26 : decode cX6_layer 26 = .ok (.goto 16, 3) := by decide +kernel
theorem dX6_layer_29 : decode cX6_layer 29 = .ok (.aload_n 0, 1) := by decide +kernel
theorem dX6_layer_30 : decode cX6_layer 30 = .ok (.aload_n 0, 1) := by decide +kernel
theorem dX6_layer_31 : decode cX6_layer 31 = .ok (.aload_n 0, 1) := by decide +kernel
theorem dX6_layer_32 : decode cX6_layer 32 = .ok (.getfield 18, 3) := by decide +kernel
theorem dX6_layer_35 : decode cX6_layer 35 = .ok (.invokevirtual 52, 3) := by decide +kernel
theorem dX6_layer_38 : decode cX6_layer 38 = .ok (.iload_n 1, 1) := by decide +kernel
theorem dX6_layer_39 : decode cX6_layer 39 = .ok (.invokevirtual 60, 3) := by decide +kernel
theorem dX6_layer_42 : decode cX6_layer 42 = .ok (.ireturn, 1) := by decide +kernel
set_option maxRecDepth 20000 in
theorem ggX6_layer_X6_can : GoodIn wsX6_layer wsX6_can := goodIn_r _ [6, 7, 19, 20, 21, 22, 23, 24, 25, 26] (by decide +kernel) (by decide +kernel)
set_option maxRecDepth 20000 in
theorem gX6_layer_X6_can : GoodIn wsX6_layer (wsV RX6 42 RX6 yX6_can wsX6_can) := goodIn_app (goodIn_of _ (by decide +kernel)) ggX6_layer_X6_can
set_option maxRecDepth 20000 in
theorem ggX6_layer_X6_lengths : GoodIn wsX6_layer wsX6_lengths := goodIn_r _ [11, 12, 13, 14, 19, 20, 21, 22, 23, 24, 25, 26] (by decide +kernel) (by decide +kernel)
set_option maxRecDepth 20000 in
theorem gX6_layer_X6_lengths : GoodIn wsX6_layer (wsV RX6 52 RX6 yX6_lengths wsX6_lengths) := goodIn_app (goodIn_of _ (by decide +kernel)) ggX6_layer_X6_lengths
set_option maxRecDepth 20000 in
theorem ggX6_layer_X6_having : GoodIn wsX6_layer wsX6_having := goodIn_r _ [18, 13, 19, 20, 21, 22, 23, 24, 25, 26] (by decide +kernel) (by decide +kernel)
set_option maxRecDepth 20000 in
theorem gX6_layer_X6_having : GoodIn wsX6_layer (wsV RX6 60 RX6 yX6_having wsX6_having) := goodIn_app (goodIn_of _ (by decide +kernel)) ggX6_layer_X6_having
theorem mX6_layer_0 : Cond.fieldLink RX6 18 "LayerwaysModel" "start" "I" ∈ wsX6_layer := by decide +kernel
theorem iX6_layer_X6 : ∀ w ∈ u_ws RX6 TX6 8, w ∈ wsX6_layer := by decide +kernel
def fX6_layer (mN : Int32) (mS : Int32) (mJ : (Nat → Nat → Int32)) (p0 : Int32) : Option (Int32 × Int32) := ((if mS < 0 then some 0 else some 1) : Option Int32).bind fun v1 => (fX6_can v1 1 1).bind fun v2 => if v2.1 = 0 then some (0, v2.2) else if 0 ≤ p0 then (fX6_lengths mN mJ mS).bind fun v3 => (fX6_having mN v3 p0).bind fun v5 => some (v5, v2.2) else some (0, v2.2)
set_option maxRecDepth 100000 in
set_option maxHeartbeats 4000000 in
theorem kX6_layer (l : Launch) (K : zK) (aM : Nat) (aMk : Nat) (aMj : Nat) (aMc : Nat) (aMw : Nat) (aMr : (Nat → Nat))  (mN : Int32) (mS : Int32) (mX : Int32) (mT : Int32) (mK : (Nat → Int32)) (mC : (Nat → Int32)) (mW : (Nat → Int32)) (mJ : (Nat → Nat → Int32)) (p0 : Int32) (r : Int32 × Int32) (hres : fX6_layer mN mS mJ p0 = some r) : zM l K yX6_layer wsX6_layer ({ frames := 1, cells := 1, slots := 12, locals := 25 }) [.ref aM, .int p0] ([(aM, .inr (6, [.ref aMk, .ref aMj, .int mN, .int mS, .ref aMc, .ref aMw, .int mX, .int mT])), (aMk, .inl (K.2 0, 12, .inl mK)), (aMj, .inl (K.2 3, 12, .inr (.inr (.inr (.inr (zo aMr 12)))))), (aMc, .inl (K.2 0, 12, .inl mC)), (aMw, .inl (K.2 0, 12, .inl mW))] ++ zR12Z K aMr mJ) (fun _ : Unit => some (.int r.1)) (fun _ : Unit => ([(aM, .inr (6, [.ref aMk, .ref aMj, .int mN, .int mS, .ref aMc, .ref aMw, .int mX, .int r.2])), (aMk, .inl (K.2 0, 12, .inl mK)), (aMj, .inl (K.2 3, 12, .inr (.inr (.inr (.inr (zo aMr 12)))))), (aMc, .inl (K.2 0, 12, .inl mC)), (aMw, .inl (K.2 0, 12, .inl mW))] ++ zR12Z K aMr mJ)) 1 12 := by
  refine zM.intI (cc := cX6_layer) (maxL := 2) (ret := (some .int)) rfl (by decide) (Nat.le_of_ble_eq_true rfl) rfl ?_
  intro G hGl hG hN hE
  have hR : ∀ (pc : Nat) (lv : zL), decode cX6_layer pc = .ok (.ireturn, 1) → zj G pc lv [.int r.1] ([(aM, .inr (6, [.ref aMk, .ref aMj, .int mN, .int mS, .ref aMc, .ref aMw, .int mX, .int r.2])), (aMk, .inl (K.2 0, 12, .inl mK)), (aMj, .inl (K.2 3, 12, .inr (.inr (.inr (.inr (zo aMr 12)))))), (aMc, .inl (K.2 0, 12, .inl mC)), (aMw, .inl (K.2 0, 12, .inl mW))] ++ zR12Z K aMr mJ) 1 12 := fun pc lv d => hE () _ rfl pc lv d
  clear hE
  unfold fX6_layer at hres
  show zj G 0 [(0, .ref aM), (1, .int p0)] [] ([(aM, .inr (6, [.ref aMk, .ref aMj, .int mN, .int mS, .ref aMc, .ref aMw, .int mX, .int mT])), (aMk, .inl (K.2 0, 12, .inl mK)), (aMj, .inl (K.2 3, 12, .inr (.inr (.inr (.inr (zo aMr 12)))))), (aMc, .inl (K.2 0, 12, .inl mC)), (aMw, .inl (K.2 0, 12, .inl mW))] ++ zR12Z K aMr mJ) 0 0
  refine z_aload_n hG dX6_layer_0 0 rfl ?_
  refine z_aload_n hG dX6_layer_1 0 rfl ?_
  refine z_get (ci := 6) (C := RX6) (T := TX6) (N := 8) hG dX6_layer_2 iX6_layer_X6 3 (by decide) mX6_layer_0 rfl rfl 0 rfl rfl ?_
  obtain ⟨v1, hv, hres⟩ := z_bind hres
  have J : zj G 13 [(0, .ref aM), (1, .int p0)] [.int v1, .ref aM] ([(aM, .inr (6, [.ref aMk, .ref aMj, .int mN, .int mS, .ref aMc, .ref aMw, .int mX, .int mT])), (aMk, .inl (K.2 0, 12, .inl mK)), (aMj, .inl (K.2 3, 12, .inr (.inr (.inr (.inr (zo aMr 12)))))), (aMc, .inl (K.2 0, 12, .inl mC)), (aMw, .inl (K.2 0, 12, .inl mW))] ++ zR12Z K aMr mJ) 0 0 := by
    refine z_iconst 1 hG dX6_layer_13 (by decide) ?_
    refine z_iconst 1 hG dX6_layer_14 (by decide) ?_
    obtain ⟨v2, hv, hres⟩ := z_bind hres
    refine z_callV (As := [.int v1, .int 1, .int 1]) (rest := []) (wr := ([(aMk, .inl (K.2 0, 12, .inl mK)), (aMj, .inl (K.2 3, 12, .inr (.inr (.inr (.inr (zo aMr 12)))))), (aMc, .inl (K.2 0, 12, .inl mC)), (aMw, .inl (K.2 0, 12, .inl mW))] ++ zR12Z K aMr mJ)) (ws' := (fun _ : Unit => ([(aM, .inr (6, [.ref aMk, .ref aMj, .int mN, .int mS, .ref aMc, .ref aMw, .int mX, .int v2.2])), (aMk, .inl (K.2 0, 12, .inl mK)), (aMj, .inl (K.2 3, 12, .inr (.inr (.inr (.inr (zo aMr 12)))))), (aMc, .inl (K.2 0, 12, .inl mC)), (aMw, .inl (K.2 0, 12, .inl mW))] ++ zR12Z K aMr mJ))) (stk := (fun _ : Unit => [.int v2.1])) (kc' := 0) (ks' := 0) (n := 3) (C := RX6) (ci := 6) hG dX6_layer_15 (kX6_can _ K aM aMk aMj aMc aMw mN mS mX mT v1 1 1 v2 hv) gX6_layer_X6_can rfl rfl rfl ⟨rfl, by decide, by decide, rfl⟩ ⟨by decide, by decide⟩ (Nat.le_of_ble_eq_true rfl) ⟨(Nat.le_of_ble_eq_true rfl), (Nat.le_of_ble_eq_true rfl)⟩ [0] [1, 2, 3, 4, 5, 6, 7, 8, 9, 10, 11, 12, 13, 14, 15, 16] [16, 0, 1, 2, 3, 4, 5, 6, 7, 8, 9, 10, 11, 12, 13, 14, 15] rfl rfl rfl rfl (by decide) rfl (fun _ => rfl) (fun _ => rfl) rfl rfl rfl 0 rfl rfl rfl rfl (fun _ => ?_)
    refine z_if_eq 25 hG dX6_layer_18 (by decide) (fun c => ?_) (fun c => ?_)
    · replace hres := z_ifp c hres
      refine z_iconst 0 hG dX6_layer_25 (by decide) ?_
      refine z_goto 42 hG dX6_layer_26 (by decide) ?_
      obtain rfl := Option.some.inj hres
      exact (z_wid (Nat.le_of_ble_eq_true rfl) (Nat.le_of_ble_eq_true rfl) (hR _ _ dX6_layer_42))
    · replace hres := z_ifn c hres
      refine z_iload_n hG dX6_layer_21 1 rfl ?_
      refine z_if_ge 29 hG dX6_layer_22 (by decide) (fun c => ?_) (fun c => ?_)
      · replace hres := z_ifp c hres
        refine z_aload_n hG dX6_layer_29 0 rfl ?_
        refine z_aload_n hG dX6_layer_30 0 rfl ?_
        refine z_aload_n hG dX6_layer_31 0 rfl ?_
        refine z_get (ci := 6) (C := RX6) (T := TX6) (N := 8) hG dX6_layer_32 iX6_layer_X6 3 (by decide) mX6_layer_0 rfl rfl 0 rfl rfl ?_
        obtain ⟨v3, hv, hres⟩ := z_bind hres
        refine z_callV (As := [.int mS]) (rest := [.ref aM]) (wr := ([] : va_W)) (ws' := (fun q4 : Nat => ([(aM, .inr (6, [.ref aMk, .ref aMj, .int mN, .int mS, .ref aMc, .ref aMw, .int mX, .int v2.2])), (aMk, .inl (K.2 0, 12, .inl mK)), (aMj, .inl (K.2 3, 12, .inr (.inr (.inr (.inr (zo aMr 12)))))), (aMc, .inl (K.2 0, 12, .inl mC)), (aMw, .inl (K.2 0, 12, .inl mW))] ++ zR12Z K aMr mJ ++ [(q4, .inl (K.2 0, 12, .inl v3))]))) (stk := (fun q4 : Nat => [.ref q4, .ref aM])) (kc' := 1) (ks' := 12) (n := 1) (C := RX6) (ci := 6) hG dX6_layer_35 (kX6_lengths _ K aM aMk aMj aMc aMw aMr mN mS mX v2.2 mK mC mW mJ mS v3 hv) gX6_layer_X6_lengths rfl rfl rfl ⟨rfl, by decide, by decide, rfl⟩ ⟨by decide, by decide⟩ (Nat.le_of_ble_eq_true rfl) ⟨(Nat.le_of_ble_eq_true rfl), (Nat.le_of_ble_eq_true rfl)⟩ [0, 1, 2, 3, 4, 5, 6, 7, 8, 9, 10, 11, 12, 13, 14, 15, 16] [] [0, 1, 2, 3, 4, 5, 6, 7, 8, 9, 10, 11, 12, 13, 14, 15, 16, 17] rfl rfl rfl rfl (by decide) rfl (fun _ => rfl) (fun _ => rfl) rfl rfl rfl 0 rfl rfl rfl rfl (fun q4 => ?_)
        refine z_iload_n hG dX6_layer_38 1 rfl ?_
        obtain ⟨v5, hv, hres⟩ := z_bind hres
        refine z_callV (As := [.ref q4, .int p0]) (rest := []) (wr := ([(aMk, .inl (K.2 0, 12, .inl mK)), (aMj, .inl (K.2 3, 12, .inr (.inr (.inr (.inr (zo aMr 12)))))), (aMc, .inl (K.2 0, 12, .inl mC)), (aMw, .inl (K.2 0, 12, .inl mW))] ++ zR12Z K aMr mJ)) (ws' := (fun _ : Unit => ([(aM, .inr (6, [.ref aMk, .ref aMj, .int mN, .int mS, .ref aMc, .ref aMw, .int mX, .int v2.2])), (aMk, .inl (K.2 0, 12, .inl mK)), (aMj, .inl (K.2 3, 12, .inr (.inr (.inr (.inr (zo aMr 12)))))), (aMc, .inl (K.2 0, 12, .inl mC)), (aMw, .inl (K.2 0, 12, .inl mW))] ++ zR12Z K aMr mJ ++ [(q4, .inl (K.2 0, 12, .inl v3))]))) (stk := (fun _ : Unit => [.int v5])) (kc' := 1) (ks' := 12) (n := 2) (C := RX6) (ci := 6) hG dX6_layer_39 (kX6_having _ K aM q4 aMk aMj aMc aMw mN mS mX v2.2 v3 p0 v5 hv) gX6_layer_X6_having rfl rfl rfl ⟨rfl, by decide, by decide, rfl⟩ ⟨by decide, by decide⟩ (Nat.le_of_ble_eq_true rfl) ⟨(Nat.le_of_ble_eq_true rfl), (Nat.le_of_ble_eq_true rfl)⟩ [0, 17] [1, 2, 3, 4, 5, 6, 7, 8, 9, 10, 11, 12, 13, 14, 15, 16] [16, 0, 1, 2, 3, 4, 5, 6, 7, 8, 9, 10, 11, 12, 13, 14, 15, 17] rfl rfl rfl rfl (by decide) rfl (fun _ => rfl) (fun _ => rfl) rfl rfl rfl 0 rfl rfl rfl rfl (fun _ => ?_)
        obtain rfl := Option.some.inj hres
        exact (z_ws [0, 1, 2, 3, 4, 5, 6, 7, 8, 9, 10, 11, 12, 13, 14, 15, 16] rfl rfl (hR _ _ dX6_layer_42))
      · replace hres := z_ifn c hres
        refine z_iconst 0 hG dX6_layer_25 (by decide) ?_
        refine z_goto 42 hG dX6_layer_26 (by decide) ?_
        obtain rfl := Option.some.inj hres
        exact (z_wid (Nat.le_of_ble_eq_true rfl) (Nat.le_of_ble_eq_true rfl) (hR _ _ dX6_layer_42))
  replace hres := hv
  clear hv
  refine z_if_lt 12 hG dX6_layer_5 (by decide) (fun c => ?_) (fun c => ?_)
  · replace hres := z_ifp c hres
    refine z_iconst 0 hG dX6_layer_12 (by decide) ?_
    obtain rfl := Option.some.inj hres
    exact J
  · replace hres := z_ifn c hres
    refine z_iconst 1 hG dX6_layer_8 (by decide) ?_
    refine z_goto 13 hG dX6_layer_9 (by decide) ?_
    obtain rfl := Option.some.inj hres
    exact J

theorem dX6_between_0 : decode cX6_between 0 = .ok (.aload_n 0, 1) := by decide +kernel
theorem dX6_between_1 : decode cX6_between 1 = .ok (.aload_n 0, 1) := by decide +kernel
theorem dX6_between_2 : decode cX6_between 2 = .ok (.iload_n 1, 1) := by decide +kernel
theorem dX6_between_3 : decode cX6_between 3 = .ok (.invokevirtual 38, 3) := by decide +kernel
theorem dX6_between_6 : decode cX6_between 6 = .ok (.ifCond .eq 15, 3) := by decide +kernel
theorem dX6_between_9 : decode cX6_between 9 = .ok (.aload_n 0, 1) := by decide +kernel
theorem dX6_between_10 : decode cX6_between 10 = .ok (.iload_n 2, 1) := by decide +kernel
theorem dX6_between_11 : decode cX6_between 11 = .ok (.invokevirtual 38, 3) := by decide +kernel
theorem dX6_between_14 : decode cX6_between 14 = .ok (.ifCond .eq 7, 3) := by decide +kernel
theorem dX6_between_17 : decode cX6_between 17 = .ok (.iconst 1, 1) := by decide +kernel
theorem dX6_between_18 : decode cX6_between 18 = .ok (.goto 4, 3) := by decide +kernel
theorem dX6_between_21 : decode cX6_between 21 = .ok (.iconst 0, 1) := by decide +kernel
theorem dX6_between_22 : decode cX6_between 22 = .ok (.iconst 1, 1) := by decide +kernel
theorem dX6_between_23 : decode cX6_between 23 = .ok (.iconst 1, 1) := by decide +kernel
theorem dX6_between_24 : decode cX6_between 24 = .ok (.invokevirtual 42, 3) := by decide +kernel
theorem dX6_between_27 : decode cX6_between 27 = .ok (.ifCond .eq 21, 3) := by decide +kernel
theorem dX6_between_30 : decode cX6_between 30 = .ok (.aload_n 0, 1) := by decide +kernel
theorem dX6_between_31 : decode cX6_between 31 = .ok (.aload_n 0, 1) := by decide +kernel
theorem dX6_between_32 : decode cX6_between 32 = .ok (.iload_n 1, 1) := by decide +kernel
theorem dX6_between_33 : decode cX6_between 33 = .ok (.invokevirtual 34, 3) := by decide +kernel
theorem dX6_between_36 : decode cX6_between 36 = .ok (.invokevirtual 52, 3) := by decide +kernel
theorem dX6_between_39 : decode cX6_between 39 = .ok (.aload_n 0, 1) := by decide +kernel
theorem dX6_between_40 : decode cX6_between 40 = .ok (.iload_n 2, 1) := by decide +kernel
theorem dX6_between_41 : decode cX6_between 41 = .ok (.invokevirtual 34, 3) := by decide +kernel
theorem dX6_between_44 : decode cX6_between 44 = .ok (.iaload, 1) := by decide +kernel
theorem dX6_between_45 : decode cX6_between 45 = .ok (.goto 4, 3) := by decide +kernel
theorem dX6_between_48 : decode cX6_between 48 = .ok (.iconst 0, 1) := by decide +kernel
theorem dX6_between_49 : decode cX6_between 49 = .ok (.ireturn, 1) := by decide +kernel
set_option maxRecDepth 20000 in
theorem ggX6_between_X6_is : GoodIn wsX6_between wsX6_is := goodIn_r _ [5, 6, 7, 8, 4, 9, 10, 11, 23, 24, 25, 26, 27, 28, 29, 30] (by decide +kernel) (by decide +kernel)
set_option maxRecDepth 20000 in
theorem gX6_between_X6_is : GoodIn wsX6_between (wsV RX6 38 RX6 yX6_is wsX6_is) := goodIn_app (goodIn_of _ (by decide +kernel)) ggX6_between_X6_is
set_option maxRecDepth 20000 in
theorem ggX6_between_X6_can : GoodIn wsX6_between wsX6_can := goodIn_r _ [15, 16, 23, 24, 25, 26, 27, 28, 29, 30] (by decide +kernel) (by decide +kernel)
set_option maxRecDepth 20000 in
theorem gX6_between_X6_can : GoodIn wsX6_between (wsV RX6 42 RX6 yX6_can wsX6_can) := goodIn_app (goodIn_of _ (by decide +kernel)) ggX6_between_X6_can
set_option maxRecDepth 20000 in
theorem ggX6_between_X6_at : GoodIn wsX6_between wsX6_at := goodIn_r _ [9, 10, 11, 23, 24, 25, 26, 27, 28, 29, 30] (by decide +kernel) (by decide +kernel)
set_option maxRecDepth 20000 in
theorem gX6_between_X6_at : GoodIn wsX6_between (wsV RX6 34 RX6 yX6_at wsX6_at) := goodIn_app (goodIn_of _ (by decide +kernel)) ggX6_between_X6_at
set_option maxRecDepth 20000 in
theorem ggX6_between_X6_lengths : GoodIn wsX6_between wsX6_lengths := goodIn_r _ [20, 21, 10, 22, 23, 24, 25, 26, 27, 28, 29, 30] (by decide +kernel) (by decide +kernel)
set_option maxRecDepth 20000 in
theorem gX6_between_X6_lengths : GoodIn wsX6_between (wsV RX6 52 RX6 yX6_lengths wsX6_lengths) := goodIn_app (goodIn_of _ (by decide +kernel)) ggX6_between_X6_lengths
def fX6_between (mN : Int32) (mK : (Nat → Int32)) (mJ : (Nat → Nat → Int32)) (p0 : Int32) (p1 : Int32) : Option (Int32 × Int32) := (fX6_is mN mK p0).bind fun v1 => ((if v1 = 0 then some 0 else (fX6_is mN mK p1).bind fun v9 => if v9 = 0 then some 0 else some 1) : Option Int32).bind fun v3 => (fX6_can v3 1 1).bind fun v4 => if v4.1 = 0 then some (0, v4.2) else (fX6_at mN mK p0).bind fun v5 => (fX6_lengths mN mJ v5).bind fun v6 => (fX6_at mN mK p1).bind fun v8 => if zin v8 12 then some ((v6 v8.toNatClampNeg), v4.2) else none
set_option maxRecDepth 100000 in
set_option maxHeartbeats 4000000 in
theorem kX6_between (l : Launch) (K : zK) (aM : Nat) (aMk : Nat) (aMj : Nat) (aMc : Nat) (aMw : Nat) (aMr : (Nat → Nat))  (mN : Int32) (mS : Int32) (mX : Int32) (mT : Int32) (mK : (Nat → Int32)) (mC : (Nat → Int32)) (mW : (Nat → Int32)) (mJ : (Nat → Nat → Int32)) (p0 : Int32) (p1 : Int32) (r : Int32 × Int32) (hres : fX6_between mN mK mJ p0 p1 = some r) : zM l K yX6_between wsX6_between ({ frames := 2, cells := 1, slots := 12, locals := 43 }) [.ref aM, .int p0, .int p1] ([(aM, .inr (6, [.ref aMk, .ref aMj, .int mN, .int mS, .ref aMc, .ref aMw, .int mX, .int mT])), (aMk, .inl (K.2 0, 12, .inl mK)), (aMj, .inl (K.2 3, 12, .inr (.inr (.inr (.inr (zo aMr 12)))))), (aMc, .inl (K.2 0, 12, .inl mC)), (aMw, .inl (K.2 0, 12, .inl mW))] ++ zR12Z K aMr mJ) (fun _ : Unit => some (.int r.1)) (fun _ : Unit => ([(aM, .inr (6, [.ref aMk, .ref aMj, .int mN, .int mS, .ref aMc, .ref aMw, .int mX, .int r.2])), (aMk, .inl (K.2 0, 12, .inl mK)), (aMj, .inl (K.2 3, 12, .inr (.inr (.inr (.inr (zo aMr 12)))))), (aMc, .inl (K.2 0, 12, .inl mC)), (aMw, .inl (K.2 0, 12, .inl mW))] ++ zR12Z K aMr mJ)) 1 12 := by
  refine zM.intI (cc := cX6_between) (maxL := 3) (ret := (some .int)) rfl (by decide) (Nat.le_of_ble_eq_true rfl) rfl ?_
  intro G hGl hG hN hE
  have hR : ∀ (pc : Nat) (lv : zL), decode cX6_between pc = .ok (.ireturn, 1) → zj G pc lv [.int r.1] ([(aM, .inr (6, [.ref aMk, .ref aMj, .int mN, .int mS, .ref aMc, .ref aMw, .int mX, .int r.2])), (aMk, .inl (K.2 0, 12, .inl mK)), (aMj, .inl (K.2 3, 12, .inr (.inr (.inr (.inr (zo aMr 12)))))), (aMc, .inl (K.2 0, 12, .inl mC)), (aMw, .inl (K.2 0, 12, .inl mW))] ++ zR12Z K aMr mJ) 1 12 := fun pc lv d => hE () _ rfl pc lv d
  clear hE
  unfold fX6_between at hres
  show zj G 0 [(0, .ref aM), (1, .int p0), (2, .int p1)] [] ([(aM, .inr (6, [.ref aMk, .ref aMj, .int mN, .int mS, .ref aMc, .ref aMw, .int mX, .int mT])), (aMk, .inl (K.2 0, 12, .inl mK)), (aMj, .inl (K.2 3, 12, .inr (.inr (.inr (.inr (zo aMr 12)))))), (aMc, .inl (K.2 0, 12, .inl mC)), (aMw, .inl (K.2 0, 12, .inl mW))] ++ zR12Z K aMr mJ) 0 0
  refine z_aload_n hG dX6_between_0 0 rfl ?_
  refine z_aload_n hG dX6_between_1 0 rfl ?_
  refine z_iload_n hG dX6_between_2 1 rfl ?_
  obtain ⟨v1, hv, hres⟩ := z_bind hres
  refine z_callV (As := [.int p0]) (rest := [.ref aM]) (wr := ([] : va_W)) (ws' := (fun _ : Unit => ([(aM, .inr (6, [.ref aMk, .ref aMj, .int mN, .int mS, .ref aMc, .ref aMw, .int mX, .int mT])), (aMk, .inl (K.2 0, 12, .inl mK)), (aMj, .inl (K.2 3, 12, .inr (.inr (.inr (.inr (zo aMr 12)))))), (aMc, .inl (K.2 0, 12, .inl mC)), (aMw, .inl (K.2 0, 12, .inl mW))] ++ zR12Z K aMr mJ))) (stk := (fun _ : Unit => [.int v1, .ref aM])) (kc' := 0) (ks' := 0) (n := 1) (C := RX6) (ci := 6) hG dX6_between_3 (kX6_is _ K aM aMk aMj aMc aMw aMr mN mS mX mT mK mC mW mJ p0 v1 hv) gX6_between_X6_is rfl rfl rfl ⟨rfl, by decide, by decide, rfl⟩ ⟨by decide, by decide⟩ (Nat.le_of_ble_eq_true rfl) ⟨(Nat.le_of_ble_eq_true rfl), (Nat.le_of_ble_eq_true rfl)⟩ [0, 1, 2, 3, 4, 5, 6, 7, 8, 9, 10, 11, 12, 13, 14, 15, 16] [] [0, 1, 2, 3, 4, 5, 6, 7, 8, 9, 10, 11, 12, 13, 14, 15, 16] rfl rfl rfl rfl (by decide) rfl (fun _ => rfl) (fun _ => rfl) rfl rfl rfl 0 rfl rfl rfl rfl (fun _ => ?_)
  obtain ⟨v3, hv, hres⟩ := z_bind hres
  have J : zj G 22 [(0, .ref aM), (1, .int p0), (2, .int p1)] [.int v3, .ref aM] ([(aM, .inr (6, [.ref aMk, .ref aMj, .int mN, .int mS, .ref aMc, .ref aMw, .int mX, .int mT])), (aMk, .inl (K.2 0, 12, .inl mK)), (aMj, .inl (K.2 3, 12, .inr (.inr (.inr (.inr (zo aMr 12)))))), (aMc, .inl (K.2 0, 12, .inl mC)), (aMw, .inl (K.2 0, 12, .inl mW))] ++ zR12Z K aMr mJ) 0 0 := by
    refine z_iconst 1 hG dX6_between_22 (by decide) ?_
    refine z_iconst 1 hG dX6_between_23 (by decide) ?_
    obtain ⟨v4, hv, hres⟩ := z_bind hres
    refine z_callV (As := [.int v3, .int 1, .int 1]) (rest := []) (wr := ([(aMk, .inl (K.2 0, 12, .inl mK)), (aMj, .inl (K.2 3, 12, .inr (.inr (.inr (.inr (zo aMr 12)))))), (aMc, .inl (K.2 0, 12, .inl mC)), (aMw, .inl (K.2 0, 12, .inl mW))] ++ zR12Z K aMr mJ)) (ws' := (fun _ : Unit => ([(aM, .inr (6, [.ref aMk, .ref aMj, .int mN, .int mS, .ref aMc, .ref aMw, .int mX, .int v4.2])), (aMk, .inl (K.2 0, 12, .inl mK)), (aMj, .inl (K.2 3, 12, .inr (.inr (.inr (.inr (zo aMr 12)))))), (aMc, .inl (K.2 0, 12, .inl mC)), (aMw, .inl (K.2 0, 12, .inl mW))] ++ zR12Z K aMr mJ))) (stk := (fun _ : Unit => [.int v4.1])) (kc' := 0) (ks' := 0) (n := 3) (C := RX6) (ci := 6) hG dX6_between_24 (kX6_can _ K aM aMk aMj aMc aMw mN mS mX mT v3 1 1 v4 hv) gX6_between_X6_can rfl rfl rfl ⟨rfl, by decide, by decide, rfl⟩ ⟨by decide, by decide⟩ (Nat.le_of_ble_eq_true rfl) ⟨(Nat.le_of_ble_eq_true rfl), (Nat.le_of_ble_eq_true rfl)⟩ [0] [1, 2, 3, 4, 5, 6, 7, 8, 9, 10, 11, 12, 13, 14, 15, 16] [16, 0, 1, 2, 3, 4, 5, 6, 7, 8, 9, 10, 11, 12, 13, 14, 15] rfl rfl rfl rfl (by decide) rfl (fun _ => rfl) (fun _ => rfl) rfl rfl rfl 0 rfl rfl rfl rfl (fun _ => ?_)
    refine z_if_eq 48 hG dX6_between_27 (by decide) (fun c => ?_) (fun c => ?_)
    · replace hres := z_ifp c hres
      refine z_iconst 0 hG dX6_between_48 (by decide) ?_
      obtain rfl := Option.some.inj hres
      exact (z_wid (Nat.le_of_ble_eq_true rfl) (Nat.le_of_ble_eq_true rfl) (hR _ _ dX6_between_49))
    · replace hres := z_ifn c hres
      refine z_aload_n hG dX6_between_30 0 rfl ?_
      refine z_aload_n hG dX6_between_31 0 rfl ?_
      refine z_iload_n hG dX6_between_32 1 rfl ?_
      obtain ⟨v5, hv, hres⟩ := z_bind hres
      refine z_callV (As := [.int p0]) (rest := [.ref aM]) (wr := ([] : va_W)) (ws' := (fun _ : Unit => ([(aM, .inr (6, [.ref aMk, .ref aMj, .int mN, .int mS, .ref aMc, .ref aMw, .int mX, .int v4.2])), (aMk, .inl (K.2 0, 12, .inl mK)), (aMj, .inl (K.2 3, 12, .inr (.inr (.inr (.inr (zo aMr 12)))))), (aMc, .inl (K.2 0, 12, .inl mC)), (aMw, .inl (K.2 0, 12, .inl mW))] ++ zR12Z K aMr mJ))) (stk := (fun _ : Unit => [.int v5, .ref aM])) (kc' := 0) (ks' := 0) (n := 1) (C := RX6) (ci := 6) hG dX6_between_33 (kX6_at _ K aM aMk aMj aMc aMw aMr mN mS mX v4.2 mK mC mW mJ p0 v5 hv) gX6_between_X6_at rfl rfl rfl ⟨rfl, by decide, by decide, rfl⟩ ⟨by decide, by decide⟩ (Nat.le_of_ble_eq_true rfl) ⟨(Nat.le_of_ble_eq_true rfl), (Nat.le_of_ble_eq_true rfl)⟩ [0, 1, 2, 3, 4, 5, 6, 7, 8, 9, 10, 11, 12, 13, 14, 15, 16] [] [0, 1, 2, 3, 4, 5, 6, 7, 8, 9, 10, 11, 12, 13, 14, 15, 16] rfl rfl rfl rfl (by decide) rfl (fun _ => rfl) (fun _ => rfl) rfl rfl rfl 0 rfl rfl rfl rfl (fun _ => ?_)
      obtain ⟨v6, hv, hres⟩ := z_bind hres
      refine z_callV (As := [.int v5]) (rest := []) (wr := ([] : va_W)) (ws' := (fun q7 : Nat => ([(aM, .inr (6, [.ref aMk, .ref aMj, .int mN, .int mS, .ref aMc, .ref aMw, .int mX, .int v4.2])), (aMk, .inl (K.2 0, 12, .inl mK)), (aMj, .inl (K.2 3, 12, .inr (.inr (.inr (.inr (zo aMr 12)))))), (aMc, .inl (K.2 0, 12, .inl mC)), (aMw, .inl (K.2 0, 12, .inl mW))] ++ zR12Z K aMr mJ ++ [(q7, .inl (K.2 0, 12, .inl v6))]))) (stk := (fun q7 : Nat => [.ref q7])) (kc' := 1) (ks' := 12) (n := 1) (C := RX6) (ci := 6) hG dX6_between_36 (kX6_lengths _ K aM aMk aMj aMc aMw aMr mN mS mX v4.2 mK mC mW mJ v5 v6 hv) gX6_between_X6_lengths rfl rfl rfl ⟨rfl, by decide, by decide, rfl⟩ ⟨by decide, by decide⟩ (Nat.le_of_ble_eq_true rfl) ⟨(Nat.le_of_ble_eq_true rfl), (Nat.le_of_ble_eq_true rfl)⟩ [0, 1, 2, 3, 4, 5, 6, 7, 8, 9, 10, 11, 12, 13, 14, 15, 16] [] [0, 1, 2, 3, 4, 5, 6, 7, 8, 9, 10, 11, 12, 13, 14, 15, 16, 17] rfl rfl rfl rfl (by decide) rfl (fun _ => rfl) (fun _ => rfl) rfl rfl rfl 0 rfl rfl rfl rfl (fun q7 => ?_)
      refine z_aload_n hG dX6_between_39 0 rfl ?_
      refine z_iload_n hG dX6_between_40 2 rfl ?_
      obtain ⟨v8, hv, hres⟩ := z_bind hres
      refine z_callV (As := [.int p1]) (rest := [.ref q7]) (wr := [(q7, .inl (K.2 0, 12, .inl v6))]) (ws' := (fun _ : Unit => ([(aM, .inr (6, [.ref aMk, .ref aMj, .int mN, .int mS, .ref aMc, .ref aMw, .int mX, .int v4.2])), (aMk, .inl (K.2 0, 12, .inl mK)), (aMj, .inl (K.2 3, 12, .inr (.inr (.inr (.inr (zo aMr 12)))))), (aMc, .inl (K.2 0, 12, .inl mC)), (aMw, .inl (K.2 0, 12, .inl mW))] ++ zR12Z K aMr mJ ++ [(q7, .inl (K.2 0, 12, .inl v6))]))) (stk := (fun _ : Unit => [.int v8, .ref q7])) (kc' := 1) (ks' := 12) (n := 1) (C := RX6) (ci := 6) hG dX6_between_41 (kX6_at _ K aM aMk aMj aMc aMw aMr mN mS mX v4.2 mK mC mW mJ p1 v8 hv) gX6_between_X6_at rfl rfl rfl ⟨rfl, by decide, by decide, rfl⟩ ⟨by decide, by decide⟩ (Nat.le_of_ble_eq_true rfl) ⟨(Nat.le_of_ble_eq_true rfl), (Nat.le_of_ble_eq_true rfl)⟩ [0, 1, 2, 3, 4, 5, 6, 7, 8, 9, 10, 11, 12, 13, 14, 15, 16] [17] [1, 2, 3, 4, 5, 6, 7, 8, 9, 10, 11, 12, 13, 14, 15, 16, 17, 0] rfl rfl rfl rfl (by decide) rfl (fun _ => rfl) (fun _ => rfl) rfl rfl rfl 0 rfl rfl rfl rfl (fun _ => ?_)
      obtain ⟨hg, hres⟩ := z_guard hres
      refine z_iald hG dX6_between_44 17 rfl hg ?_
      refine z_goto 49 hG dX6_between_45 (by decide) ?_
      obtain rfl := Option.some.inj hres
      exact (z_ws [0, 1, 2, 3, 4, 5, 6, 7, 8, 9, 10, 11, 12, 13, 14, 15, 16] rfl rfl (hR _ _ dX6_between_49))
  replace hres := hv
  clear hv
  refine z_if_eq 21 hG dX6_between_6 (by decide) (fun c => ?_) (fun c => ?_)
  · replace hres := z_ifp c hres
    refine z_iconst 0 hG dX6_between_21 (by decide) ?_
    obtain rfl := Option.some.inj hres
    exact J
  · replace hres := z_ifn c hres
    refine z_aload_n hG dX6_between_9 0 rfl ?_
    refine z_iload_n hG dX6_between_10 2 rfl ?_
    obtain ⟨v9, hv, hres⟩ := z_bind hres
    refine z_callV (As := [.int p1]) (rest := [.ref aM]) (wr := ([] : va_W)) (ws' := (fun _ : Unit => ([(aM, .inr (6, [.ref aMk, .ref aMj, .int mN, .int mS, .ref aMc, .ref aMw, .int mX, .int mT])), (aMk, .inl (K.2 0, 12, .inl mK)), (aMj, .inl (K.2 3, 12, .inr (.inr (.inr (.inr (zo aMr 12)))))), (aMc, .inl (K.2 0, 12, .inl mC)), (aMw, .inl (K.2 0, 12, .inl mW))] ++ zR12Z K aMr mJ))) (stk := (fun _ : Unit => [.int v9, .ref aM])) (kc' := 0) (ks' := 0) (n := 1) (C := RX6) (ci := 6) hG dX6_between_11 (kX6_is _ K aM aMk aMj aMc aMw aMr mN mS mX mT mK mC mW mJ p1 v9 hv) gX6_between_X6_is rfl rfl rfl ⟨rfl, by decide, by decide, rfl⟩ ⟨by decide, by decide⟩ (Nat.le_of_ble_eq_true rfl) ⟨(Nat.le_of_ble_eq_true rfl), (Nat.le_of_ble_eq_true rfl)⟩ [0, 1, 2, 3, 4, 5, 6, 7, 8, 9, 10, 11, 12, 13, 14, 15, 16] [] [0, 1, 2, 3, 4, 5, 6, 7, 8, 9, 10, 11, 12, 13, 14, 15, 16] rfl rfl rfl rfl (by decide) rfl (fun _ => rfl) (fun _ => rfl) rfl rfl rfl 0 rfl rfl rfl rfl (fun _ => ?_)
    refine z_if_eq 21 hG dX6_between_14 (by decide) (fun c => ?_) (fun c => ?_)
    · replace hres := z_ifp c hres
      refine z_iconst 0 hG dX6_between_21 (by decide) ?_
      obtain rfl := Option.some.inj hres
      exact J
    · replace hres := z_ifn c hres
      refine z_iconst 1 hG dX6_between_17 (by decide) ?_
      refine z_goto 22 hG dX6_between_18 (by decide) ?_
      obtain rfl := Option.some.inj hres
      exact J

theorem dX6_mean_0 : decode cX6_mean 0 = .ok (.aload_n 0, 1) := by decide +kernel
theorem dX6_mean_1 : decode cX6_mean 1 = .ok (.aload_n 0, 1) := by decide +kernel
theorem dX6_mean_2 : decode cX6_mean 2 = .ok (.getfield 18, 3) := by decide +kernel
theorem dX6_mean_5 : decode cX6_mean 5 = .ok (.ifCond .lt 7, 3) := by decide +kernel
theorem dX6_mean_8 : decode cX6_mean 8 = .ok (.iconst 1, 1) := by decide +kernel
theorem dX6_mean_9 : decode cX6_mean 9 = .ok (.goto 4, 3) := by decide +kernel
theorem dX6_mean_12 : decode cX6_mean 12 = .ok (.iconst 0, 1) := by decide +kernel
theorem dX6_mean_13 : decode cX6_mean 13 = .ok (.iconst 1, 1) := by decide +kernel
theorem dX6_mean_14 : decode cX6_mean 14 = .ok (.iconst 1, 1) := by decide +kernel
theorem dX6_mean_15 : decode cX6_mean 15 = .ok (.invokevirtual 42, 3) := by decide +kernel
theorem dX6_mean_18 : decode cX6_mean 18 = .ok (.ifCond .ne 5, 3) := by decide +kernel
theorem dX6_mean_21 : decode cX6_mean 21 = .ok (.dconst 0, 1) := by decide +kernel
theorem dX6_mean_22 : decode cX6_mean 22 = .ok (.dreturn, 1) := by decide +kernel
theorem dX6_mean_23 : decode cX6_mean 23 = .ok (.aload_n 0, 1) := by decide +kernel
theorem dX6_mean_24 : decode cX6_mean 24 = .ok (.aload_n 0, 1) := by decide +kernel
theorem dX6_mean_25 : decode cX6_mean 25 = .ok (.getfield 18, 3) := by decide +kernel
theorem dX6_mean_28 : decode cX6_mean 28 = .ok (.invokevirtual 52, 3) := by decide +kernel
theorem dX6_mean_31 : decode cX6_mean 31 = .ok (.astore_n 1, 1) := by decide +kernel
theorem dX6_mean_32 : decode cX6_mean 32 = .ok (.iconst 0, 1) := by decide +kernel
theorem dX6_mean_33 : decode cX6_mean 33 = .ok (.istore_n 2, 1) := by decide +kernel
theorem dX6_mean_34 : decode cX6_mean 34 = .ok (.iconst 0, 1) := by decide +kernel
theorem dX6_mean_35 : decode cX6_mean 35 = .ok (.istore_n 3, 1) := by decide +kernel
theorem dX6_mean_36 : decode cX6_mean 36 = .ok (.iconst 0, 1) := by decide +kernel
theorem dX6_mean_37 : decode cX6_mean 37 = .ok (.istore 4, 2) := by decide +kernel
theorem dX6_mean_39 : decode cX6_mean 39 = .ok (.iload 4, 2) := by decide +kernel
theorem dX6_mean_41 : decode cX6_mean 41 = .ok (.aload_n 0, 1) := by decide +kernel
theorem dX6_mean_42 : decode cX6_mean 42 = .ok (.getfield 31, 3) := by decide +kernel
theorem dX6_mean_45 : decode cX6_mean 45 = .ok (.if_icmp .ge 44, 3) := by decide +kernel
theorem dX6_mean_48 : decode cX6_mean 48 = .ok (.iload_n 2, 1) := by decide +kernel
theorem dX6_mean_49 : decode cX6_mean 49 = .ok (.aload_n 1, 1) := by decide +kernel
theorem dX6_mean_50 : decode cX6_mean 50 = .ok (.iload 4, 2) := by decide +kernel
theorem dX6_mean_52 : decode cX6_mean 52 = .ok (.iaload, 1) := by decide +kernel
theorem dX6_mean_53 : decode cX6_mean 53 = .ok (.iconst (-1), 1) := by decide +kernel
theorem dX6_mean_54 : decode cX6_mean 54 = .ok (.if_icmp .ne 7, 3) := by decide +kernel
theorem dX6_mean_57 : decode cX6_mean 57 = .ok (.iconst 0, 1) := by decide +kernel
theorem dX6_mean_58 : decode cX6_mean 58 = .ok (.goto 7, 3) := by decide +kernel
theorem dX6_mean_61 : decode cX6_mean 61 = .ok (.aload_n 1, 1) := by decide +kernel
theorem dX6_mean_62 : decode cX6_mean 62 = .ok (.iload 4, 2) := by decide +kernel
theorem dX6_mean_64 : decode cX6_mean 64 = .ok (.iaload, 1) := by decide +kernel
theorem dX6_mean_65 : decode cX6_mean 65 = .ok (.iadd, 1) := by decide +kernel
theorem dX6_mean_66 : decode cX6_mean 66 = .ok (.istore_n 2, 1) := by decide +kernel
theorem dX6_mean_67 : decode cX6_mean 67 = .ok (.iload_n 3, 1) := by decide +kernel
theorem dX6_mean_68 : decode cX6_mean 68 = .ok (.aload_n 1, 1) := by decide +kernel
theorem dX6_mean_69 : decode cX6_mean 69 = .ok (.iload 4, 2) := by decide +kernel
theorem dX6_mean_71 : decode cX6_mean 71 = .ok (.iaload, 1) := by decide +kernel
theorem dX6_mean_72 : decode cX6_mean 72 = .ok (.iconst (-1), 1) := by decide +kernel
theorem dX6_mean_73 : decode cX6_mean 73 = .ok (.if_icmp .ne 7, 3) := by decide +kernel
theorem dX6_mean_76 : decode cX6_mean 76 = .ok (.iconst 0, 1) := by decide +kernel
theorem dX6_mean_77 : decode cX6_mean 77 = .ok (.goto 4, 3) := by decide +kernel
theorem dX6_mean_80 : decode cX6_mean 80 = .ok (.iconst 1, 1) := by decide +kernel
theorem dX6_mean_81 : decode cX6_mean 81 = .ok (.iadd, 1) := by decide +kernel
theorem dX6_mean_82 : decode cX6_mean 82 = .ok (.istore_n 3, 1) := by decide +kernel
theorem dX6_mean_83 : decode cX6_mean 83 = .ok (.iinc 4 1, 3) := by decide +kernel
theorem dX6_mean_86 : decode cX6_mean 86 = .ok (.goto (-47), 3) := by decide +kernel
theorem dX6_mean_89 : decode cX6_mean 89 = .ok (.iload_n 2, 1) := by decide +kernel
theorem dX6_mean_90 : decode cX6_mean 90 = .ok (.i2d, 1) := by decide +kernel
theorem dX6_mean_91 : decode cX6_mean 91 = .ok (.iload_n 3, 1) := by decide +kernel
theorem dX6_mean_92 : decode cX6_mean 92 = .ok (.i2d, 1) := by decide +kernel
theorem dX6_mean_93 : decode cX6_mean 93 = .ok (.ddiv, 1) := by decide +kernel
theorem dX6_mean_94 : decode cX6_mean 94 = .ok (.dreturn, 1) := by decide +kernel
set_option maxRecDepth 20000 in
theorem ggX6_mean_X6_can : GoodIn wsX6_mean wsX6_can := goodIn_r _ [7, 8, 15, 16, 17, 18, 19, 20, 21, 22] (by decide +kernel) (by decide +kernel)
set_option maxRecDepth 20000 in
theorem gX6_mean_X6_can : GoodIn wsX6_mean (wsV RX6 42 RX6 yX6_can wsX6_can) := goodIn_app (goodIn_of _ (by decide +kernel)) ggX6_mean_X6_can
set_option maxRecDepth 20000 in
theorem ggX6_mean_X6_lengths : GoodIn wsX6_mean wsX6_lengths := goodIn_r _ [12, 13, 2, 14, 15, 16, 17, 18, 19, 20, 21, 22] (by decide +kernel) (by decide +kernel)
set_option maxRecDepth 20000 in
theorem gX6_mean_X6_lengths : GoodIn wsX6_mean (wsV RX6 52 RX6 yX6_lengths wsX6_lengths) := goodIn_app (goodIn_of _ (by decide +kernel)) ggX6_mean_X6_lengths
theorem mX6_mean_0 : Cond.fieldLink RX6 18 "LayerwaysModel" "start" "I" ∈ wsX6_mean := by decide +kernel
theorem iX6_mean_X6 : ∀ w ∈ u_ws RX6 TX6 8, w ∈ wsX6_mean := by decide +kernel
theorem mX6_mean_2 : Cond.fieldLink RX6 31 "LayerwaysModel" "many" "I" ∈ wsX6_mean := by decide +kernel
def sX6_mean_39 (mN : Int32) (v3 : (Nat → Int32)) (s7 : Int32 × Int32 × Int32) : Option ((Int32 × Int32 × Int32) ⊕ (Int32 × Int32 × Int32)) := if mN ≤ s7.2.2 then some (.inl (s7.1, s7.2.1, s7.2.2)) else if zin s7.2.2 12 then ((if (v3 s7.2.2.toNatClampNeg) = (-1) then some 0 else if zin s7.2.2 12 then some (v3 s7.2.2.toNatClampNeg) else none) : Option Int32).bind fun v11 => if zin s7.2.2 12 then if (v3 s7.2.2.toNatClampNeg) = (-1) then some (.inr ((s7.1 + v11), (s7.2.1 + 0), (s7.2.2 + 1))) else some (.inr ((s7.1 + v11), (s7.2.1 + 1), (s7.2.2 + 1))) else none else none
def fX6_mean (mN : Int32) (mS : Int32) (mJ : (Nat → Nat → Int32)) : Option (UInt64 × Int32) := ((if mS < 0 then some 0 else some 1) : Option Int32).bind fun v1 => (fX6_can v1 1 1).bind fun v2 => if v2.1 = 0 then some (FP.dconst0, v2.2) else (fX6_lengths mN mJ mS).bind fun v3 => (zloop (sX6_mean_39 mN v3) 32 (0, 0, 0)).bind fun e9 => if ((FP.ddiv (FP.i2d e9.1) (FP.i2d e9.2.1)) &&& 0x7fffffffffffffff ≤ (0x7ff0000000000000 : UInt64)) then some ((FP.ddiv (FP.i2d e9.1) (FP.i2d e9.2.1)), v2.2) else none
set_option maxRecDepth 100000 in
set_option maxHeartbeats 4000000 in
theorem kX6_mean (l : Launch) (K : zK) (aM : Nat) (aMk : Nat) (aMj : Nat) (aMc : Nat) (aMw : Nat) (aMr : (Nat → Nat))  (mN : Int32) (mS : Int32) (mX : Int32) (mT : Int32) (mK : (Nat → Int32)) (mC : (Nat → Int32)) (mW : (Nat → Int32)) (mJ : (Nat → Nat → Int32)) (r : UInt64 × Int32) (hres : fX6_mean mN mS mJ = some r) : zM l K yX6_mean wsX6_mean ({ frames := 1, cells := 1, slots := 12, locals := 25 }) [.ref aM] ([(aM, .inr (6, [.ref aMk, .ref aMj, .int mN, .int mS, .ref aMc, .ref aMw, .int mX, .int mT])), (aMk, .inl (K.2 0, 12, .inl mK)), (aMj, .inl (K.2 3, 12, .inr (.inr (.inr (.inr (zo aMr 12)))))), (aMc, .inl (K.2 0, 12, .inl mC)), (aMw, .inl (K.2 0, 12, .inl mW))] ++ zR12Z K aMr mJ) (fun _ : Unit => some (.double r.1)) (fun _ : Unit => ([(aM, .inr (6, [.ref aMk, .ref aMj, .int mN, .int mS, .ref aMc, .ref aMw, .int mX, .int r.2])), (aMk, .inl (K.2 0, 12, .inl mK)), (aMj, .inl (K.2 3, 12, .inr (.inr (.inr (.inr (zo aMr 12)))))), (aMc, .inl (K.2 0, 12, .inl mC)), (aMw, .inl (K.2 0, 12, .inl mW))] ++ zR12Z K aMr mJ)) 1 12 := by
  refine zM.intD (cc := cX6_mean) (maxL := 5) (ret := (some .double)) rfl (by decide) (Nat.le_of_ble_eq_true rfl) rfl ?_
  intro G hGl hG hN hE
  have hR : ∀ (pc : Nat) (lv : zL), decode cX6_mean pc = .ok (.dreturn, 1) → zj G pc lv [.double r.1] ([(aM, .inr (6, [.ref aMk, .ref aMj, .int mN, .int mS, .ref aMc, .ref aMw, .int mX, .int r.2])), (aMk, .inl (K.2 0, 12, .inl mK)), (aMj, .inl (K.2 3, 12, .inr (.inr (.inr (.inr (zo aMr 12)))))), (aMc, .inl (K.2 0, 12, .inl mC)), (aMw, .inl (K.2 0, 12, .inl mW))] ++ zR12Z K aMr mJ) 1 12 := fun pc lv d => hE () _ rfl pc lv d
  clear hE
  unfold fX6_mean at hres
  show zj G 0 [(0, .ref aM)] [] ([(aM, .inr (6, [.ref aMk, .ref aMj, .int mN, .int mS, .ref aMc, .ref aMw, .int mX, .int mT])), (aMk, .inl (K.2 0, 12, .inl mK)), (aMj, .inl (K.2 3, 12, .inr (.inr (.inr (.inr (zo aMr 12)))))), (aMc, .inl (K.2 0, 12, .inl mC)), (aMw, .inl (K.2 0, 12, .inl mW))] ++ zR12Z K aMr mJ) 0 0
  refine z_aload_n hG dX6_mean_0 0 rfl ?_
  refine z_aload_n hG dX6_mean_1 0 rfl ?_
  refine z_get (ci := 6) (C := RX6) (T := TX6) (N := 8) hG dX6_mean_2 iX6_mean_X6 3 (by decide) mX6_mean_0 rfl rfl 0 rfl rfl ?_
  obtain ⟨v1, hv, hres⟩ := z_bind hres
  have J : zj G 13 [(0, .ref aM)] [.int v1, .ref aM] ([(aM, .inr (6, [.ref aMk, .ref aMj, .int mN, .int mS, .ref aMc, .ref aMw, .int mX, .int mT])), (aMk, .inl (K.2 0, 12, .inl mK)), (aMj, .inl (K.2 3, 12, .inr (.inr (.inr (.inr (zo aMr 12)))))), (aMc, .inl (K.2 0, 12, .inl mC)), (aMw, .inl (K.2 0, 12, .inl mW))] ++ zR12Z K aMr mJ) 0 0 := by
    refine z_iconst 1 hG dX6_mean_13 (by decide) ?_
    refine z_iconst 1 hG dX6_mean_14 (by decide) ?_
    obtain ⟨v2, hv, hres⟩ := z_bind hres
    refine z_callV (As := [.int v1, .int 1, .int 1]) (rest := []) (wr := ([(aMk, .inl (K.2 0, 12, .inl mK)), (aMj, .inl (K.2 3, 12, .inr (.inr (.inr (.inr (zo aMr 12)))))), (aMc, .inl (K.2 0, 12, .inl mC)), (aMw, .inl (K.2 0, 12, .inl mW))] ++ zR12Z K aMr mJ)) (ws' := (fun _ : Unit => ([(aM, .inr (6, [.ref aMk, .ref aMj, .int mN, .int mS, .ref aMc, .ref aMw, .int mX, .int v2.2])), (aMk, .inl (K.2 0, 12, .inl mK)), (aMj, .inl (K.2 3, 12, .inr (.inr (.inr (.inr (zo aMr 12)))))), (aMc, .inl (K.2 0, 12, .inl mC)), (aMw, .inl (K.2 0, 12, .inl mW))] ++ zR12Z K aMr mJ))) (stk := (fun _ : Unit => [.int v2.1])) (kc' := 0) (ks' := 0) (n := 3) (C := RX6) (ci := 6) hG dX6_mean_15 (kX6_can _ K aM aMk aMj aMc aMw mN mS mX mT v1 1 1 v2 hv) gX6_mean_X6_can rfl rfl rfl ⟨rfl, by decide, by decide, rfl⟩ ⟨by decide, by decide⟩ (Nat.le_of_ble_eq_true rfl) ⟨(Nat.le_of_ble_eq_true rfl), (Nat.le_of_ble_eq_true rfl)⟩ [0] [1, 2, 3, 4, 5, 6, 7, 8, 9, 10, 11, 12, 13, 14, 15, 16] [16, 0, 1, 2, 3, 4, 5, 6, 7, 8, 9, 10, 11, 12, 13, 14, 15] rfl rfl rfl rfl (by decide) rfl (fun _ => rfl) (fun _ => rfl) rfl rfl rfl 0 rfl rfl rfl rfl (fun _ => ?_)
    refine z_if_ne 23 hG dX6_mean_18 (by decide) (fun c => ?_) (fun c => ?_)
    · replace hres := z_ifn c hres
      refine z_aload_n hG dX6_mean_23 0 rfl ?_
      refine z_aload_n hG dX6_mean_24 0 rfl ?_
      refine z_get (ci := 6) (C := RX6) (T := TX6) (N := 8) hG dX6_mean_25 iX6_mean_X6 3 (by decide) mX6_mean_0 rfl rfl 0 rfl rfl ?_
      obtain ⟨v3, hv, hres⟩ := z_bind hres
      refine z_callV (As := [.int mS]) (rest := []) (wr := ([] : va_W)) (ws' := (fun q4 : Nat => ([(aM, .inr (6, [.ref aMk, .ref aMj, .int mN, .int mS, .ref aMc, .ref aMw, .int mX, .int v2.2])), (aMk, .inl (K.2 0, 12, .inl mK)), (aMj, .inl (K.2 3, 12, .inr (.inr (.inr (.inr (zo aMr 12)))))), (aMc, .inl (K.2 0, 12, .inl mC)), (aMw, .inl (K.2 0, 12, .inl mW))] ++ zR12Z K aMr mJ ++ [(q4, .inl (K.2 0, 12, .inl v3))]))) (stk := (fun q4 : Nat => [.ref q4])) (kc' := 1) (ks' := 12) (n := 1) (C := RX6) (ci := 6) hG dX6_mean_28 (kX6_lengths _ K aM aMk aMj aMc aMw aMr mN mS mX v2.2 mK mC mW mJ mS v3 hv) gX6_mean_X6_lengths rfl rfl rfl ⟨rfl, by decide, by decide, rfl⟩ ⟨by decide, by decide⟩ (Nat.le_of_ble_eq_true rfl) ⟨(Nat.le_of_ble_eq_true rfl), (Nat.le_of_ble_eq_true rfl)⟩ [0, 1, 2, 3, 4, 5, 6, 7, 8, 9, 10, 11, 12, 13, 14, 15, 16] [] [0, 1, 2, 3, 4, 5, 6, 7, 8, 9, 10, 11, 12, 13, 14, 15, 16, 17] rfl rfl rfl rfl (by decide) rfl (fun _ => rfl) (fun _ => rfl) rfl rfl rfl 0 rfl rfl rfl rfl (fun q4 => ?_)
      refine z_astore_n (lv' := [(1, .ref q4), (0, .ref aM)]) hG dX6_mean_31 (by decide) rfl ?_
      refine z_iconst 0 hG dX6_mean_32 (by decide) ?_
      refine z_istore_n (lv' := [(2, .int 0), (1, .ref q4), (0, .ref aM)]) hG dX6_mean_33 (by decide) rfl ?_
      refine z_iconst 0 hG dX6_mean_34 (by decide) ?_
      refine z_istore_n (lv' := [(3, .int 0), (2, .int 0), (1, .ref q4), (0, .ref aM)]) hG dX6_mean_35 (by decide) rfl ?_
      refine z_iconst 0 hG dX6_mean_36 (by decide) ?_
      refine z_istore (lv' := [(4, .int 0), (3, .int 0), (2, .int 0), (1, .ref q4), (0, .ref aM)]) hG dX6_mean_37 (by decide) rfl ?_
      obtain ⟨e9, hx, hres⟩ := z_bind hres
      refine z_lv [4, 3, 2, 1, 0] (lv' := [(0, .ref aM), (1, .ref q4), (2, .int 0), (3, .int 0), (4, .int 0)]) rfl ?_
      refine z_loop hx (fun s7 : Int32 × Int32 × Int32 => [(0, .ref aM), (1, .ref q4), (2, .int s7.1), (3, .int s7.2.1), (4, .int s7.2.2)]) (fun s7 : Int32 × Int32 × Int32 => ([(aM, .inr (6, [.ref aMk, .ref aMj, .int mN, .int mS, .ref aMc, .ref aMw, .int mX, .int v2.2])), (aMk, .inl (K.2 0, 12, .inl mK)), (aMj, .inl (K.2 3, 12, .inr (.inr (.inr (.inr (zo aMr 12)))))), (aMc, .inl (K.2 0, 12, .inl mC)), (aMw, .inl (K.2 0, 12, .inl mW))] ++ zR12Z K aMr mJ ++ [(q4, .inl (K.2 0, 12, .inl v3))])) (fun e9 : Int32 × Int32 × Int32 => zj G 89 [(0, .ref aM), (1, .ref q4), (2, .int e9.1), (3, .int e9.2.1), (4, .int e9.2.2)] [] ([(aM, .inr (6, [.ref aMk, .ref aMj, .int mN, .int mS, .ref aMc, .ref aMw, .int mX, .int v2.2])), (aMk, .inl (K.2 0, 12, .inl mK)), (aMj, .inl (K.2 3, 12, .inr (.inr (.inr (.inr (zo aMr 12)))))), (aMc, .inl (K.2 0, 12, .inl mC)), (aMw, .inl (K.2 0, 12, .inl mW))] ++ zR12Z K aMr mJ ++ [(q4, .inl (K.2 0, 12, .inl v3))]) 1 12) ?_ ?_
      · refine z_iload_n hG dX6_mean_89 2 rfl ?_
        refine z_i2d hG dX6_mean_90 ?_
        refine z_iload_n hG dX6_mean_91 3 rfl ?_
        refine z_i2d hG dX6_mean_92 ?_
        obtain ⟨hg, hres⟩ := z_guard hres
        refine z_ddiv hG dX6_mean_93 hg ?_
        obtain rfl := Option.some.inj hres
        exact (z_ws [0, 1, 2, 3, 4, 5, 6, 7, 8, 9, 10, 11, 12, 13, 14, 15, 16] rfl rfl (hR _ _ dX6_mean_94))
      · intro s7 w8 hres hX hB
        unfold sX6_mean_39 at hres
        refine z_iload hG dX6_mean_39 4 rfl ?_
        refine z_aload_n hG dX6_mean_41 0 rfl ?_
        refine z_get (ci := 6) (C := RX6) (T := TX6) (N := 8) hG dX6_mean_42 iX6_mean_X6 2 (by decide) mX6_mean_2 rfl rfl 0 rfl rfl ?_
        refine z_icmp_ge 89 hG dX6_mean_45 (by decide) (fun c => ?_) (fun c => ?_)
        · replace hres := z_ifp c hres
          exact (hX (s7.1, s7.2.1, s7.2.2) (Option.some.inj hres).symm)
        · replace hres := z_ifn c hres
          refine z_iload_n hG dX6_mean_48 2 rfl ?_
          refine z_aload_n hG dX6_mean_49 1 rfl ?_
          refine z_iload hG dX6_mean_50 4 rfl ?_
          obtain ⟨hg, hres⟩ := z_guard hres
          refine z_iald hG dX6_mean_52 17 rfl hg ?_
          refine z_iconst (-1) hG dX6_mean_53 (by decide) ?_
          obtain ⟨v11, hv, hres⟩ := z_bind hres
          have J : zj G 65 [(0, .ref aM), (1, .ref q4), (2, .int s7.1), (3, .int s7.2.1), (4, .int s7.2.2)] [.int v11, .int s7.1] ([(aM, .inr (6, [.ref aMk, .ref aMj, .int mN, .int mS, .ref aMc, .ref aMw, .int mX, .int v2.2])), (aMk, .inl (K.2 0, 12, .inl mK)), (aMj, .inl (K.2 3, 12, .inr (.inr (.inr (.inr (zo aMr 12)))))), (aMc, .inl (K.2 0, 12, .inl mC)), (aMw, .inl (K.2 0, 12, .inl mW))] ++ zR12Z K aMr mJ ++ [(q4, .inl (K.2 0, 12, .inl v3))]) 1 12 := by
            refine z_iadd hG dX6_mean_65 ?_
            refine z_istore_n (lv' := [(2, .int (s7.1 + v11)), (0, .ref aM), (1, .ref q4), (3, .int s7.2.1), (4, .int s7.2.2)]) hG dX6_mean_66 (by decide) rfl ?_
            refine z_iload_n hG dX6_mean_67 3 rfl ?_
            refine z_aload_n hG dX6_mean_68 2 rfl ?_
            refine z_iload hG dX6_mean_69 4 rfl ?_
            obtain ⟨hg, hres⟩ := z_guard hres
            refine z_iald hG dX6_mean_71 17 rfl hg ?_
            refine z_iconst (-1) hG dX6_mean_72 (by decide) ?_
            refine z_icmp_ne 80 hG dX6_mean_73 (by decide) (fun c => ?_) (fun c => ?_)
            · replace hres := z_ifn c hres
              refine z_iconst 1 hG dX6_mean_80 (by decide) ?_
              refine z_iadd hG dX6_mean_81 ?_
              refine z_istore_n (lv' := [(3, .int (s7.2.1 + 1)), (2, .int (s7.1 + v11)), (0, .ref aM), (1, .ref q4), (4, .int s7.2.2)]) hG dX6_mean_82 (by decide) rfl ?_
              refine z_iinc (s7.2.2 + 1) (lv' := [(4, .int (s7.2.2 + 1)), (3, .int (s7.2.1 + 1)), (2, .int (s7.1 + v11)), (0, .ref aM), (1, .ref q4)]) hG dX6_mean_83 4 rfl rfl (by decide) rfl ?_
              refine z_goto 39 hG dX6_mean_86 (by decide) ?_
              exact (z_lv [3, 4, 2, 1, 0] rfl (hB ((s7.1 + v11), (s7.2.1 + 1), (s7.2.2 + 1)) (Option.some.inj hres).symm))
            · replace hres := z_ifp c hres
              refine z_iconst 0 hG dX6_mean_76 (by decide) ?_
              refine z_goto 81 hG dX6_mean_77 (by decide) ?_
              refine z_iadd hG dX6_mean_81 ?_
              refine z_istore_n (lv' := [(3, .int (s7.2.1 + 0)), (2, .int (s7.1 + v11)), (0, .ref aM), (1, .ref q4), (4, .int s7.2.2)]) hG dX6_mean_82 (by decide) rfl ?_
              refine z_iinc (s7.2.2 + 1) (lv' := [(4, .int (s7.2.2 + 1)), (3, .int (s7.2.1 + 0)), (2, .int (s7.1 + v11)), (0, .ref aM), (1, .ref q4)]) hG dX6_mean_83 4 rfl rfl (by decide) rfl ?_
              refine z_goto 39 hG dX6_mean_86 (by decide) ?_
              exact (z_lv [3, 4, 2, 1, 0] rfl (hB ((s7.1 + v11), (s7.2.1 + 0), (s7.2.2 + 1)) (Option.some.inj hres).symm))
          replace hres := hv
          clear hv
          refine z_icmp_ne 61 hG dX6_mean_54 (by decide) (fun c => ?_) (fun c => ?_)
          · replace hres := z_ifn c hres
            refine z_aload_n hG dX6_mean_61 1 rfl ?_
            refine z_iload hG dX6_mean_62 4 rfl ?_
            obtain ⟨hg, hres⟩ := z_guard hres
            refine z_iald hG dX6_mean_64 17 rfl hg ?_
            obtain rfl := Option.some.inj hres
            exact J
          · replace hres := z_ifp c hres
            refine z_iconst 0 hG dX6_mean_57 (by decide) ?_
            refine z_goto 65 hG dX6_mean_58 (by decide) ?_
            obtain rfl := Option.some.inj hres
            exact J
    · replace hres := z_ifp c hres
      refine z_dconst0 hG dX6_mean_21 ?_
      obtain rfl := Option.some.inj hres
      exact (z_wid (Nat.le_of_ble_eq_true rfl) (Nat.le_of_ble_eq_true rfl) (hR _ _ dX6_mean_22))
  replace hres := hv
  clear hv
  refine z_if_lt 12 hG dX6_mean_5 (by decide) (fun c => ?_) (fun c => ?_)
  · replace hres := z_ifp c hres
    refine z_iconst 0 hG dX6_mean_12 (by decide) ?_
    obtain rfl := Option.some.inj hres
    exact J
  · replace hres := z_ifn c hres
    refine z_iconst 1 hG dX6_mean_8 (by decide) ?_
    refine z_goto 13 hG dX6_mean_9 (by decide) ?_
    obtain rfl := Option.some.inj hres
    exact J
