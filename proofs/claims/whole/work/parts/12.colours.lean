theorem dX1_areUnlike_0 : decode cX1_areUnlike 0 = .ok (.iconst 0, 1) := by decide +kernel
theorem dX1_areUnlike_1 : decode cX1_areUnlike 1 = .ok (.istore_n 2, 1) := by decide +kernel
theorem dX1_areUnlike_2 : decode cX1_areUnlike 2 = .ok (.iload_n 2, 1) := by decide +kernel
theorem dX1_areUnlike_3 : decode cX1_areUnlike 3 = .ok (.aload_n 1, 1) := by decide +kernel
theorem dX1_areUnlike_4 : decode cX1_areUnlike 4 = .ok (.getfield 23, 3) := by decide +kernel
theorem dX1_areUnlike_7 : decode cX1_areUnlike 7 = .ok (.if_icmp .ge 48, 3) := by decide +kernel
theorem dX1_areUnlike_10 : decode cX1_areUnlike 10 = .ok (.iconst 0, 1) := by decide +kernel
theorem dX1_areUnlike_11 : decode cX1_areUnlike 11 = .ok (.istore_n 3, 1) := by decide +kernel
theorem dX1_areUnlike_12 : decode cX1_areUnlike 12 = .ok (.iload_n 3, 1) := by decide +kernel
theorem dX1_areUnlike_13 : decode cX1_areUnlike 13 = .ok (.iload_n 2, 1) := by decide +kernel
theorem dX1_areUnlike_14 : decode cX1_areUnlike 14 = .ok (.if_icmp .ge 35, 3) := by decide +kernel
theorem dX1_areUnlike_17 : decode cX1_areUnlike 17 = .ok (.aload_n 1, 1) := by decide +kernel
theorem dX1_areUnlike_18 : decode cX1_areUnlike 18 = .ok (.iload_n 2, 1) := by decide +kernel
theorem dX1_areUnlike_19 : decode cX1_areUnlike 19 = .ok (.iload_n 3, 1) := by decide +kernel
theorem dX1_areUnlike_20 : decode cX1_areUnlike 20 = .ok (.invokevirtual 45, 3) := by decide +kernel
theorem dX1_areUnlike_23 : decode cX1_areUnlike 23 = .ok (.ifCond .eq 20, 3) := by decide +kernel
theorem dX1_areUnlike_26 : decode cX1_areUnlike 26 = .ok (.aload_n 0, 1) := by decide +kernel
theorem dX1_areUnlike_27 : decode cX1_areUnlike 27 = .ok (.getfield 9, 3) := by decide +kernel
theorem dX1_areUnlike_30 : decode cX1_areUnlike 30 = .ok (.iload_n 2, 1) := by decide +kernel
theorem dX1_areUnlike_31 : decode cX1_areUnlike 31 = .ok (.iaload, 1) := by decide +kernel
theorem dX1_areUnlike_32 : decode cX1_areUnlike 32 = .ok (.aload_n 0, 1) := by decide +kernel
theorem dX1_areUnlike_33 : decode cX1_areUnlike 33 = .ok (.getfield 9, 3) := by decide +kernel
theorem dX1_areUnlike_36 : decode cX1_areUnlike 36 = .ok (.iload_n 3, 1) := by decide +kernel
theorem dX1_areUnlike_37 : decode cX1_areUnlike 37 = .ok (.iaload, 1) := by decide +kernel
theorem dX1_areUnlike_38 : decode cX1_areUnlike 38 = .ok (.if_icmp .ne 5, 3) := by decide +kernel
theorem dX1_areUnlike_41 : decode cX1_areUnlike 41 = .ok (.iconst 0, 1) := by decide +kernel
theorem dX1_areUnlike_42 : decode cX1_areUnlike 42 = .ok (.ireturn, 1) := by decide +kernel
theorem dX1_areUnlike_43 : decode cX1_areUnlike 43 = .ok (.iinc 3 1, 3) := by decide +kernel
theorem dX1_areUnlike_46 : decode cX1_areUnlike 46 = .ok (.goto (-34), 3) := by decide +kernel
theorem dX1_areUnlike_49 : decode cX1_areUnlike 49 = .ok (.iinc 2 1, 3) := by decide +kernel
theorem dX1_areUnlike_52 : decode cX1_areUnlike 52 = .ok (.goto (-50), 3) := by decide +kernel
theorem dX1_areUnlike_55 : decode cX1_areUnlike 55 = .ok (.iconst 1, 1) := by decide +kernel
theorem dX1_areUnlike_56 : decode cX1_areUnlike 56 = .ok (.ireturn, 1) := by decide +kernel
set_option maxRecDepth 20000 in
theorem ggX1_areUnlike_X3_joins : GoodIn wsX1_areUnlike wsX3_joins := goodIn_r _ [7, 8, 9, 10, 11, 12, 13, 14] (by decide +kernel) (by decide +kernel)
set_option maxRecDepth 20000 in
theorem gX1_areUnlike_X3_joins : GoodIn wsX1_areUnlike (wsV RX1 45 RX3 yX3_joins wsX3_joins) := goodIn_app (goodIn_of _ (by decide +kernel)) ggX1_areUnlike_X3_joins
theorem mX1_areUnlike_0 : Cond.fieldLink RX1 23 "Layerways$Net" "size" "I" ∈ wsX1_areUnlike := by decide +kernel
theorem iX1_areUnlike_X3 : ∀ w ∈ u_ws RX3 TX3 3, w ∈ wsX1_areUnlike := by decide +kernel
theorem mX1_areUnlike_2 : Cond.fieldLink RX1 9 "Layerways$Colours" "tints" "[I" ∈ wsX1_areUnlike := by decide +kernel
theorem iX1_areUnlike_X1 : ∀ w ∈ u_ws RX1 TX1 3, w ∈ wsX1_areUnlike := by decide +kernel
def sX1_areUnlike_12 (cT : (Nat → Int32)) (nN : (Nat → Int32)) (s13 : Int32) (s19 : Int32) : Option ((Int32 ⊕ Int32) ⊕ Int32) := if s13 ≤ s19 then some (.inl (.inr s19)) else (fX3_joins nN s13 s19).bind fun v23 => if v23 = 0 then some (.inr (s19 + 1)) else if zin s13 12 then if zin s19 12 then if (cT s13.toNatClampNeg) = (cT s19.toNatClampNeg) then some (.inl (.inl 0)) else some (.inr (s19 + 1)) else none else none
def sX1_areUnlike_2 (cT : (Nat → Int32)) (nS : Int32) (nN : (Nat → Int32)) (s13 : Int32) : Option ((Int32 ⊕ Int32) ⊕ Int32) := if nS ≤ s13 then some (.inl (.inr s13)) else (zloop (sX1_areUnlike_12 cT nN s13) 32 0).bind fun e21 => Sum.elim (fun p24 : Int32 => some (.inl (.inl p24))) (fun e21 : Int32 => some (.inr (s13 + 1))) e21
def fX1_areUnlike (cT : (Nat → Int32)) (nS : Int32) (nN : (Nat → Int32)) : Option (Int32) := (zloop (sX1_areUnlike_2 cT nS nN) 32 0).bind fun e15 => Sum.elim (fun p25 : Int32 => some p25) (fun e15 : Int32 => some 1) e15
set_option maxRecDepth 100000 in
set_option maxHeartbeats 4000000 in
theorem kX1_areUnlike (l : Launch) (K : zK) (aC : Nat) (aCt : Nat) (aN : Nat) (aNk : Nat) (aNn : Nat)  (cP : Int32) (cW : Int32) (cT : (Nat → Int32)) (nS : Int32) (nK : (Nat → Int32)) (nN : (Nat → Int32)) (r : Int32) (hres : fX1_areUnlike cT nS nN = some r) : zM l K yX1_areUnlike wsX1_areUnlike ({ frames := 2, cells := 0, slots := 0, locals := 43 }) [.ref aC, .ref aN] [(aC, .inr (1, [.ref aCt, .int cP, .int cW])), (aCt, .inl (K.2 0, 12, .inl cT)), (aN, .inr (3, [.ref aNk, .ref aNn, .int nS])), (aNk, .inl (K.2 0, 12, .inl nK)), (aNn, .inl (K.2 0, 12, .inl nN))] (fun _ : Unit => some (.int r)) (fun _ : Unit => [(aC, .inr (1, [.ref aCt, .int cP, .int cW])), (aCt, .inl (K.2 0, 12, .inl cT)), (aN, .inr (3, [.ref aNk, .ref aNn, .int nS])), (aNk, .inl (K.2 0, 12, .inl nK)), (aNn, .inl (K.2 0, 12, .inl nN))]) 0 0 := by
  refine zM.intZ (cc := cX1_areUnlike) (maxL := 4) (ret := (some .boolean)) rfl (by decide) (Nat.le_of_ble_eq_true rfl) rfl ?_
  intro G hGl hG hN hE
  have hR : ∀ (pc : Nat) (lv : zL), narrow .boolean (.int r) = .int r → decode cX1_areUnlike pc = .ok (.ireturn, 1) → zj G pc lv [.int r] [(aC, .inr (1, [.ref aCt, .int cP, .int cW])), (aCt, .inl (K.2 0, 12, .inl cT)), (aN, .inr (3, [.ref aNk, .ref aNn, .int nS])), (aNk, .inl (K.2 0, 12, .inl nK)), (aNn, .inl (K.2 0, 12, .inl nN))] 0 0 := fun pc lv n d => hE () _ rfl n pc lv d
  clear hE
  unfold fX1_areUnlike at hres
  show zj G 0 [(0, .ref aC), (1, .ref aN)] [] [(aC, .inr (1, [.ref aCt, .int cP, .int cW])), (aCt, .inl (K.2 0, 12, .inl cT)), (aN, .inr (3, [.ref aNk, .ref aNn, .int nS])), (aNk, .inl (K.2 0, 12, .inl nK)), (aNn, .inl (K.2 0, 12, .inl nN))] 0 0
  refine z_iconst 0 hG dX1_areUnlike_0 (by decide) ?_
  refine z_istore_n (lv' := [(2, .int 0), (0, .ref aC), (1, .ref aN)]) hG dX1_areUnlike_1 (by decide) rfl ?_
  obtain ⟨e15, hx, hres⟩ := z_bind hres
  refine z_lv [1, 2, 0] (lv' := [(0, .ref aC), (1, .ref aN), (2, .int 0)]) rfl ?_
  refine z_loopE hx (fun s13 : Int32 => [(0, .ref aC), (1, .ref aN), (2, .int s13)]) (fun s13 : Int32 => [(aC, .inr (1, [.ref aCt, .int cP, .int cW])), (aCt, .inl (K.2 0, 12, .inl cT)), (aN, .inr (3, [.ref aNk, .ref aNn, .int nS])), (aNk, .inl (K.2 0, 12, .inl nK)), (aNn, .inl (K.2 0, 12, .inl nN))]) (fun p25 : Int32 => ∀ (pc : Nat) (lv : zL), narrow .boolean (.int p25) = .int p25 → decode cX1_areUnlike pc = .ok (.ireturn, 1) → zj G pc lv [.int p25] [(aC, .inr (1, [.ref aCt, .int cP, .int cW])), (aCt, .inl (K.2 0, 12, .inl cT)), (aN, .inr (3, [.ref aNk, .ref aNn, .int nS])), (aNk, .inl (K.2 0, 12, .inl nK)), (aNn, .inl (K.2 0, 12, .inl nN))] 0 0) (fun e15 : Int32 => zj G 55 [(0, .ref aC), (1, .ref aN), (2, .int e15)] [] [(aC, .inr (1, [.ref aCt, .int cP, .int cW])), (aCt, .inl (K.2 0, 12, .inl cT)), (aN, .inr (3, [.ref aNk, .ref aNn, .int nS])), (aNk, .inl (K.2 0, 12, .inl nK)), (aNn, .inl (K.2 0, 12, .inl nN))] 0 0) (fun p25 hp => ?_) (fun e15 hp => ?_) ?_
  · subst hp
    replace hres := z_eliml hres
    obtain rfl := Option.some.inj hres
    exact hR
  · subst hp
    replace hres := z_elimr hres
    refine z_iconst 1 hG dX1_areUnlike_55 (by decide) ?_
    obtain rfl := Option.some.inj hres
    exact (hR _ _ (z_nar01 (Or.inr rfl)) dX1_areUnlike_56)
  · intro s13 w14 hres hX1 hX2 hB
    unfold sX1_areUnlike_2 at hres
    refine z_iload_n hG dX1_areUnlike_2 2 rfl ?_
    refine z_aload_n hG dX1_areUnlike_3 1 rfl ?_
    refine z_get (ci := 3) (C := RX3) (T := TX3) (N := 3) hG dX1_areUnlike_4 iX1_areUnlike_X3 2 (by decide) mX1_areUnlike_0 rfl rfl 2 rfl rfl ?_
    refine z_icmp_ge 55 hG dX1_areUnlike_7 (by decide) (fun c => ?_) (fun c => ?_)
    · replace hres := z_ifp c hres
      exact (hX2 s13 (Option.some.inj hres).symm)
    · replace hres := z_ifn c hres
      refine z_iconst 0 hG dX1_areUnlike_10 (by decide) ?_
      refine z_istore_n (lv' := [(3, .int 0), (0, .ref aC), (1, .ref aN), (2, .int s13)]) hG dX1_areUnlike_11 (by decide) rfl ?_
      obtain ⟨e21, hx, hres⟩ := z_bind hres
      refine z_lv [1, 2, 3, 0] (lv' := [(0, .ref aC), (1, .ref aN), (2, .int s13), (3, .int 0)]) rfl ?_
      refine z_loopE hx (fun s19 : Int32 => [(0, .ref aC), (1, .ref aN), (2, .int s13), (3, .int s19)]) (fun s19 : Int32 => [(aC, .inr (1, [.ref aCt, .int cP, .int cW])), (aCt, .inl (K.2 0, 12, .inl cT)), (aN, .inr (3, [.ref aNk, .ref aNn, .int nS])), (aNk, .inl (K.2 0, 12, .inl nK)), (aNn, .inl (K.2 0, 12, .inl nN))]) (fun p24 : Int32 => ∀ (pc : Nat) (lv : zL), narrow .boolean (.int p24) = .int p24 → decode cX1_areUnlike pc = .ok (.ireturn, 1) → zj G pc lv [.int p24] [(aC, .inr (1, [.ref aCt, .int cP, .int cW])), (aCt, .inl (K.2 0, 12, .inl cT)), (aN, .inr (3, [.ref aNk, .ref aNn, .int nS])), (aNk, .inl (K.2 0, 12, .inl nK)), (aNn, .inl (K.2 0, 12, .inl nN))] 0 0) (fun e21 : Int32 => zj G 49 [(0, .ref aC), (1, .ref aN), (2, .int s13), (3, .int e21)] [] [(aC, .inr (1, [.ref aCt, .int cP, .int cW])), (aCt, .inl (K.2 0, 12, .inl cT)), (aN, .inr (3, [.ref aNk, .ref aNn, .int nS])), (aNk, .inl (K.2 0, 12, .inl nK)), (aNn, .inl (K.2 0, 12, .inl nN))] 0 0) (fun p24 hp => ?_) (fun e21 hp => ?_) ?_
      · subst hp
        replace hres := z_eliml hres
        exact hX1 _ (Option.some.inj hres).symm
      · subst hp
        replace hres := z_elimr hres
        refine z_iinc (s13 + 1) (lv' := [(2, .int (s13 + 1)), (0, .ref aC), (1, .ref aN), (3, .int e21)]) hG dX1_areUnlike_49 2 rfl rfl (by decide) rfl ?_
        refine z_goto 2 hG dX1_areUnlike_52 (by decide) ?_
        exact (z_lv [1, 2, 0] rfl (hB (s13 + 1) (Option.some.inj hres).symm))
      · intro s19 w20 hres hX1 hX2 hB
        unfold sX1_areUnlike_12 at hres
        refine z_iload_n hG dX1_areUnlike_12 3 rfl ?_
        refine z_iload_n hG dX1_areUnlike_13 2 rfl ?_
        refine z_icmp_ge 49 hG dX1_areUnlike_14 (by decide) (fun c => ?_) (fun c => ?_)
        · replace hres := z_ifp c hres
          exact (hX2 s19 (Option.some.inj hres).symm)
        · replace hres := z_ifn c hres
          refine z_aload_n hG dX1_areUnlike_17 1 rfl ?_
          refine z_iload_n hG dX1_areUnlike_18 2 rfl ?_
          refine z_iload_n hG dX1_areUnlike_19 3 rfl ?_
          obtain ⟨v23, hv, hres⟩ := z_bind hres
          refine z_callV (As := [.int s13, .int s19]) (rest := []) (wr := [(aC, .inr (1, [.ref aCt, .int cP, .int cW])), (aCt, .inl (K.2 0, 12, .inl cT))]) (ws' := (fun _ : Unit => [(aC, .inr (1, [.ref aCt, .int cP, .int cW])), (aCt, .inl (K.2 0, 12, .inl cT)), (aN, .inr (3, [.ref aNk, .ref aNn, .int nS])), (aNk, .inl (K.2 0, 12, .inl nK)), (aNn, .inl (K.2 0, 12, .inl nN))])) (stk := (fun _ : Unit => [.int v23])) (kc' := 0) (ks' := 0) (n := 2) (C := RX3) (ci := 3) hG dX1_areUnlike_20 (kX3_joins _ K aN aNk aNn nS nK nN s13 s19 v23 hv) gX1_areUnlike_X3_joins rfl rfl rfl ⟨rfl, by decide, by decide, rfl⟩ ⟨by decide, by decide⟩ (Nat.le_of_ble_eq_true rfl) ⟨(Nat.le_of_ble_eq_true rfl), (Nat.le_of_ble_eq_true rfl)⟩ [2, 3, 4] [0, 1] [0, 1, 2, 3, 4] rfl rfl rfl rfl (by decide) rfl (fun _ => rfl) (fun _ => rfl) rfl rfl rfl 0 rfl rfl rfl rfl (fun _ => ?_)
          refine z_if_eq 43 hG dX1_areUnlike_23 (by decide) (fun c => ?_) (fun c => ?_)
          · replace hres := z_ifp c hres
            refine z_iinc (s19 + 1) (lv' := [(3, .int (s19 + 1)), (0, .ref aC), (1, .ref aN), (2, .int s13)]) hG dX1_areUnlike_43 3 rfl rfl (by decide) rfl ?_
            refine z_goto 12 hG dX1_areUnlike_46 (by decide) ?_
            exact (z_lv [1, 2, 3, 0] rfl (hB (s19 + 1) (Option.some.inj hres).symm))
          · replace hres := z_ifn c hres
            refine z_aload_n hG dX1_areUnlike_26 0 rfl ?_
            refine z_get (ci := 1) (C := RX1) (T := TX1) (N := 3) hG dX1_areUnlike_27 iX1_areUnlike_X1 0 (by decide) mX1_areUnlike_2 rfl rfl 0 rfl rfl ?_
            refine z_iload_n hG dX1_areUnlike_30 2 rfl ?_
            obtain ⟨hg, hres⟩ := z_guard hres
            refine z_iald hG dX1_areUnlike_31 1 rfl hg ?_
            refine z_aload_n hG dX1_areUnlike_32 0 rfl ?_
            refine z_get (ci := 1) (C := RX1) (T := TX1) (N := 3) hG dX1_areUnlike_33 iX1_areUnlike_X1 0 (by decide) mX1_areUnlike_2 rfl rfl 0 rfl rfl ?_
            refine z_iload_n hG dX1_areUnlike_36 3 rfl ?_
            obtain ⟨hg, hres⟩ := z_guard hres
            refine z_iald hG dX1_areUnlike_37 1 rfl hg ?_
            refine z_icmp_ne 43 hG dX1_areUnlike_38 (by decide) (fun c => ?_) (fun c => ?_)
            · replace hres := z_ifn c hres
              refine z_iinc (s19 + 1) (lv' := [(3, .int (s19 + 1)), (0, .ref aC), (1, .ref aN), (2, .int s13)]) hG dX1_areUnlike_43 3 rfl rfl (by decide) rfl ?_
              refine z_goto 12 hG dX1_areUnlike_46 (by decide) ?_
              exact (z_lv [1, 2, 3, 0] rfl (hB (s19 + 1) (Option.some.inj hres).symm))
            · replace hres := z_ifp c hres
              refine z_iconst 0 hG dX1_areUnlike_41 (by decide) ?_
              exact (hX1 0 (Option.some.inj hres).symm _ _ (z_nar01 (Or.inl rfl)) dX1_areUnlike_42)

theorem dX1_paintPart_0 : decode cX1_paintPart 0 = .ok (.iconst 0, 1) := by decide +kernel
theorem dX1_paintPart_1 : decode cX1_paintPart 1 = .ok (.istore_n 3, 1) := by decide +kernel
theorem dX1_paintPart_2 : decode cX1_paintPart 2 = .ok (.iload_n 3, 1) := by decide +kernel
theorem dX1_paintPart_3 : decode cX1_paintPart 3 = .ok (.aload_n 1, 1) := by decide +kernel
theorem dX1_paintPart_4 : decode cX1_paintPart 4 = .ok (.getfield 23, 3) := by decide +kernel
theorem dX1_paintPart_7 : decode cX1_paintPart 7 = .ok (.if_icmp .ge 33, 3) := by decide +kernel
theorem dX1_paintPart_10 : decode cX1_paintPart 10 = .ok (.aload_n 2, 1) := by decide +kernel
theorem dX1_paintPart_11 : decode cX1_paintPart 11 = .ok (.getfield 42, 3) := by decide +kernel
theorem dX1_paintPart_14 : decode cX1_paintPart 14 = .ok (.iload_n 3, 1) := by decide +kernel
theorem dX1_paintPart_15 : decode cX1_paintPart 15 = .ok (.iaload, 1) := by decide +kernel
theorem dX1_paintPart_16 : decode cX1_paintPart 16 = .ok (.iconst (-1), 1) := by decide +kernel
theorem dX1_paintPart_17 : decode cX1_paintPart 17 = .ok (.if_icmp .eq 17, 3) := by decide +kernel
theorem dX1_paintPart_20 : decode cX1_paintPart 20 = .ok (.aload_n 0, 1) := by decide +kernel
theorem dX1_paintPart_21 : decode cX1_paintPart 21 = .ok (.getfield 9, 3) := by decide +kernel
theorem dX1_paintPart_24 : decode cX1_paintPart 24 = .ok (.iload_n 3, 1) := by decide +kernel
theorem dX1_paintPart_25 : decode cX1_paintPart 25 = .ok (.aload_n 2, 1) := by decide +kernel
theorem dX1_paintPart_26 : decode cX1_paintPart 26 = .ok (.getfield 42, 3) := by decide +kernel
theorem dX1_paintPart_29 : decode cX1_paintPart 29 = .ok (.iload_n 3, 1) := by decide +kernel
theorem dX1_paintPart_30 : decode cX1_paintPart 30 = .ok (.iaload, 1) := by decide +kernel
theorem dX1_paintPart_31 : decode cX1_paintPart 31 = .ok (.iconst 1, 1) := by decide +kernel
theorem dX1_paintPart_32 : decode cX1_paintPart 32 = .ok (.iand, 1) := by decide +kernel
theorem dX1_paintPart_33 : decode cX1_paintPart 33 = .ok (.iastore, 1) := by decide +kernel
theorem dX1_paintPart_34 : decode cX1_paintPart 34 = .ok (.iinc 3 1, 3) := by decide +kernel
theorem dX1_paintPart_37 : decode cX1_paintPart 37 = .ok (.goto (-35), 3) := by decide +kernel
theorem dX1_paintPart_40 : decode cX1_paintPart 40 = .ok (.return_, 1) := by decide +kernel
theorem mX1_paintPart_0 : Cond.fieldLink RX1 23 "Layerways$Net" "size" "I" ∈ wsX1_paintPart := by decide +kernel
theorem iX1_paintPart_X3 : ∀ w ∈ u_ws RX3 TX3 3, w ∈ wsX1_paintPart := by decide +kernel
theorem mX1_paintPart_2 : Cond.fieldLink RX1 42 "Layerways$Layers" "lengths" "[I" ∈ wsX1_paintPart := by decide +kernel
theorem iX1_paintPart_X2 : ∀ w ∈ u_ws RX2 TX2 4, w ∈ wsX1_paintPart := by decide +kernel
theorem mX1_paintPart_4 : Cond.fieldLink RX1 9 "Layerways$Colours" "tints" "[I" ∈ wsX1_paintPart := by decide +kernel
theorem iX1_paintPart_X1 : ∀ w ∈ u_ws RX1 TX1 3, w ∈ wsX1_paintPart := by decide +kernel
def sX1_paintPart_2 (nS : Int32) (yL : (Nat → Int32)) (s1 : Int32 × (Nat → Int32)) : Option ((Int32 × (Nat → Int32)) ⊕ (Int32 × (Nat → Int32))) := if nS ≤ s1.1 then some (.inl (s1.1, s1.2)) else if zin s1.1 12 then if (yL s1.1.toNatClampNeg) = (-1) then some (.inr ((s1.1 + 1), s1.2)) else if zin s1.1 12 then if zin s1.1 12 then some (.inr ((s1.1 + 1), (upd s1.2 s1.1.toNatClampNeg ((yL s1.1.toNatClampNeg) &&& 1)))) else none else none else none
def fX1_paintPart (cT : (Nat → Int32)) (nS : Int32) (yL : (Nat → Int32)) : Option ((Nat → Int32)) := (zloop (sX1_paintPart_2 nS yL) 32 (0, cT)).bind fun e3 => some e3.2
set_option maxRecDepth 100000 in
set_option maxHeartbeats 4000000 in
theorem kX1_paintPart (l : Launch) (K : zK) (aC : Nat) (aCt : Nat) (aN : Nat) (aNk : Nat) (aNn : Nat) (aY : Nat) (aYl : Nat) (aYc : Nat) (aYq : Nat)  (cP : Int32) (cW : Int32) (cT : (Nat → Int32)) (nS : Int32) (nK : (Nat → Int32)) (nN : (Nat → Int32)) (yM : Int32) (yL : (Nat → Int32)) (yC : (Nat → Int32)) (yQ : (Nat → Int32)) (r : (Nat → Int32)) (hres : fX1_paintPart cT nS yL = some r) : zM l K yX1_paintPart wsX1_paintPart ({ frames := 0, cells := 0, slots := 0, locals := 0 }) [.ref aC, .ref aN, .ref aY] [(aC, .inr (1, [.ref aCt, .int cP, .int cW])), (aCt, .inl (K.2 0, 12, .inl cT)), (aN, .inr (3, [.ref aNk, .ref aNn, .int nS])), (aNk, .inl (K.2 0, 12, .inl nK)), (aNn, .inl (K.2 0, 12, .inl nN)), (aY, .inr (2, [.ref aYl, .ref aYc, .ref aYq, .int yM])), (aYl, .inl (K.2 0, 12, .inl yL)), (aYc, .inl (K.2 0, 12, .inl yC)), (aYq, .inl (K.2 0, 12, .inl yQ))] (fun _ : Unit => none) (fun _ : Unit => [(aC, .inr (1, [.ref aCt, .int cP, .int cW])), (aCt, .inl (K.2 0, 12, .inl r)), (aN, .inr (3, [.ref aNk, .ref aNn, .int nS])), (aNk, .inl (K.2 0, 12, .inl nK)), (aNn, .inl (K.2 0, 12, .inl nN)), (aY, .inr (2, [.ref aYl, .ref aYc, .ref aYq, .int yM])), (aYl, .inl (K.2 0, 12, .inl yL)), (aYc, .inl (K.2 0, 12, .inl yC)), (aYq, .inl (K.2 0, 12, .inl yQ))]) 0 0 := by
  refine zM.intV (cc := cX1_paintPart) (maxL := 4) (ret := none) rfl (by decide) (Nat.le_of_ble_eq_true rfl) rfl (fun _ => rfl) ?_
  intro G hGl hG hN hE
  have hR : ∀ (pc : Nat) (lv : zL), decode cX1_paintPart pc = .ok (.return_, 1) → zj G pc lv [] [(aC, .inr (1, [.ref aCt, .int cP, .int cW])), (aCt, .inl (K.2 0, 12, .inl r)), (aN, .inr (3, [.ref aNk, .ref aNn, .int nS])), (aNk, .inl (K.2 0, 12, .inl nK)), (aNn, .inl (K.2 0, 12, .inl nN)), (aY, .inr (2, [.ref aYl, .ref aYc, .ref aYq, .int yM])), (aYl, .inl (K.2 0, 12, .inl yL)), (aYc, .inl (K.2 0, 12, .inl yC)), (aYq, .inl (K.2 0, 12, .inl yQ))] 0 0 := fun pc lv d => hE () pc lv d
  clear hE
  unfold fX1_paintPart at hres
  show zj G 0 [(0, .ref aC), (1, .ref aN), (2, .ref aY)] [] [(aC, .inr (1, [.ref aCt, .int cP, .int cW])), (aCt, .inl (K.2 0, 12, .inl cT)), (aN, .inr (3, [.ref aNk, .ref aNn, .int nS])), (aNk, .inl (K.2 0, 12, .inl nK)), (aNn, .inl (K.2 0, 12, .inl nN)), (aY, .inr (2, [.ref aYl, .ref aYc, .ref aYq, .int yM])), (aYl, .inl (K.2 0, 12, .inl yL)), (aYc, .inl (K.2 0, 12, .inl yC)), (aYq, .inl (K.2 0, 12, .inl yQ))] 0 0
  refine z_iconst 0 hG dX1_paintPart_0 (by decide) ?_
  refine z_istore_n (lv' := [(3, .int 0), (0, .ref aC), (1, .ref aN), (2, .ref aY)]) hG dX1_paintPart_1 (by decide) rfl ?_
  obtain ⟨e3, hx, hres⟩ := z_bind hres
  refine z_lv [1, 2, 3, 0] (lv' := [(0, .ref aC), (1, .ref aN), (2, .ref aY), (3, .int 0)]) rfl ?_
  refine z_loop hx (fun s1 : Int32 × (Nat → Int32) => [(0, .ref aC), (1, .ref aN), (2, .ref aY), (3, .int s1.1)]) (fun s1 : Int32 × (Nat → Int32) => [(aC, .inr (1, [.ref aCt, .int cP, .int cW])), (aCt, .inl (K.2 0, 12, .inl s1.2)), (aN, .inr (3, [.ref aNk, .ref aNn, .int nS])), (aNk, .inl (K.2 0, 12, .inl nK)), (aNn, .inl (K.2 0, 12, .inl nN)), (aY, .inr (2, [.ref aYl, .ref aYc, .ref aYq, .int yM])), (aYl, .inl (K.2 0, 12, .inl yL)), (aYc, .inl (K.2 0, 12, .inl yC)), (aYq, .inl (K.2 0, 12, .inl yQ))]) (fun e3 : Int32 × (Nat → Int32) => zj G 40 [(0, .ref aC), (1, .ref aN), (2, .ref aY), (3, .int e3.1)] [] [(aC, .inr (1, [.ref aCt, .int cP, .int cW])), (aCt, .inl (K.2 0, 12, .inl e3.2)), (aN, .inr (3, [.ref aNk, .ref aNn, .int nS])), (aNk, .inl (K.2 0, 12, .inl nK)), (aNn, .inl (K.2 0, 12, .inl nN)), (aY, .inr (2, [.ref aYl, .ref aYc, .ref aYq, .int yM])), (aYl, .inl (K.2 0, 12, .inl yL)), (aYc, .inl (K.2 0, 12, .inl yC)), (aYq, .inl (K.2 0, 12, .inl yQ))] 0 0) ?_ ?_
  · obtain rfl := Option.some.inj hres
    exact (hR _ _ dX1_paintPart_40)
  · intro s1 w2 hres hX hB
    unfold sX1_paintPart_2 at hres
    refine z_iload_n hG dX1_paintPart_2 3 rfl ?_
    refine z_aload_n hG dX1_paintPart_3 1 rfl ?_
    refine z_get (ci := 3) (C := RX3) (T := TX3) (N := 3) hG dX1_paintPart_4 iX1_paintPart_X3 2 (by decide) mX1_paintPart_0 rfl rfl 2 rfl rfl ?_
    refine z_icmp_ge 40 hG dX1_paintPart_7 (by decide) (fun c => ?_) (fun c => ?_)
    · replace hres := z_ifp c hres
      exact (hX (s1.1, s1.2) (Option.some.inj hres).symm)
    · replace hres := z_ifn c hres
      refine z_aload_n hG dX1_paintPart_10 2 rfl ?_
      refine z_get (ci := 2) (C := RX2) (T := TX2) (N := 4) hG dX1_paintPart_11 iX1_paintPart_X2 0 (by decide) mX1_paintPart_2 rfl rfl 5 rfl rfl ?_
      refine z_iload_n hG dX1_paintPart_14 3 rfl ?_
      obtain ⟨hg, hres⟩ := z_guard hres
      refine z_iald hG dX1_paintPart_15 6 rfl hg ?_
      refine z_iconst (-1) hG dX1_paintPart_16 (by decide) ?_
      refine z_icmp_eq 34 hG dX1_paintPart_17 (by decide) (fun c => ?_) (fun c => ?_)
      · replace hres := z_ifp c hres
        refine z_iinc (s1.1 + 1) (lv' := [(3, .int (s1.1 + 1)), (0, .ref aC), (1, .ref aN), (2, .ref aY)]) hG dX1_paintPart_34 3 rfl rfl (by decide) rfl ?_
        refine z_goto 2 hG dX1_paintPart_37 (by decide) ?_
        exact (z_lv [1, 2, 3, 0] rfl (hB ((s1.1 + 1), s1.2) (Option.some.inj hres).symm))
      · replace hres := z_ifn c hres
        refine z_aload_n hG dX1_paintPart_20 0 rfl ?_
        refine z_get (ci := 1) (C := RX1) (T := TX1) (N := 3) hG dX1_paintPart_21 iX1_paintPart_X1 0 (by decide) mX1_paintPart_4 rfl rfl 0 rfl rfl ?_
        refine z_iload_n hG dX1_paintPart_24 3 rfl ?_
        refine z_aload_n hG dX1_paintPart_25 2 rfl ?_
        refine z_get (ci := 2) (C := RX2) (T := TX2) (N := 4) hG dX1_paintPart_26 iX1_paintPart_X2 0 (by decide) mX1_paintPart_2 rfl rfl 5 rfl rfl ?_
        refine z_iload_n hG dX1_paintPart_29 3 rfl ?_
        obtain ⟨hg, hres⟩ := z_guard hres
        refine z_iald hG dX1_paintPart_30 6 rfl hg ?_
        refine z_iconst 1 hG dX1_paintPart_31 (by decide) ?_
        refine z_iand hG dX1_paintPart_32 ?_
        obtain ⟨hg, hres⟩ := z_guard hres
        refine z_iast (ws' := [(aC, .inr (1, [.ref aCt, .int cP, .int cW])), (aCt, .inl (K.2 0, 12, .inl (upd s1.2 s1.1.toNatClampNeg ((yL s1.1.toNatClampNeg) &&& 1)))), (aN, .inr (3, [.ref aNk, .ref aNn, .int nS])), (aNk, .inl (K.2 0, 12, .inl nK)), (aNn, .inl (K.2 0, 12, .inl nN)), (aY, .inr (2, [.ref aYl, .ref aYc, .ref aYq, .int yM])), (aYl, .inl (K.2 0, 12, .inl yL)), (aYc, .inl (K.2 0, 12, .inl yC)), (aYq, .inl (K.2 0, 12, .inl yQ))]) hG dX1_paintPart_33 1 rfl hg rfl ?_
        refine z_iinc (s1.1 + 1) (lv' := [(3, .int (s1.1 + 1)), (0, .ref aC), (1, .ref aN), (2, .ref aY)]) hG dX1_paintPart_34 3 rfl rfl (by decide) rfl ?_
        refine z_goto 2 hG dX1_paintPart_37 (by decide) ?_
        exact (z_lv [1, 2, 3, 0] rfl (hB ((s1.1 + 1), (upd s1.2 s1.1.toNatClampNeg ((yL s1.1.toNatClampNeg) &&& 1))) (Option.some.inj hres).symm))

theorem dX1_paint_0 : decode cX1_paint 0 = .ok (.aload_n 0, 1) := by decide +kernel
theorem dX1_paint_1 : decode cX1_paint 1 = .ok (.iconst 0, 1) := by decide +kernel
theorem dX1_paint_2 : decode cX1_paint 2 = .ok (.putfield 15, 3) := by decide +kernel
theorem dX1_paint_5 : decode cX1_paint 5 = .ok (.iconst 0, 1) := by decide +kernel
theorem dX1_paint_6 : decode cX1_paint 6 = .ok (.istore_n 3, 1) := by decide +kernel
theorem dX1_paint_7 : decode cX1_paint 7 = .ok (.iload_n 3, 1) := by decide +kernel
theorem dX1_paint_8 : decode cX1_paint 8 = .ok (.bipush 12, 2) := by decide +kernel
theorem dX1_paint_10 : decode cX1_paint 10 = .ok (.if_icmp .ge 16, 3) := by decide +kernel
theorem dX1_paint_13 : decode cX1_paint 13 = .ok (.aload_n 0, 1) := by decide +kernel
theorem dX1_paint_14 : decode cX1_paint 14 = .ok (.getfield 9, 3) := by decide +kernel
theorem dX1_paint_17 : decode cX1_paint 17 = .ok (.iload_n 3, 1) := by decide +kernel
theorem dX1_paint_18 : decode cX1_paint 18 = .ok (.iconst (-1), 1) := by decide +kernel
theorem dX1_paint_19 : decode cX1_paint 19 = .ok (.iastore, 1) := by decide +kernel
theorem dX1_paint_20 : decode cX1_paint 20 = .ok (.iinc 3 1, 3) := by decide +kernel
theorem dX1_paint_23 : decode cX1_paint 23 = .ok (.goto (-16), 3) := by decide +kernel
theorem dX1_paint_26 : decode cX1_paint 26 = .ok (.iconst 0, 1) := by decide +kernel
theorem dX1_paint_27 : decode cX1_paint 27 = .ok (.istore_n 3, 1) := by decide +kernel
theorem dX1_paint_28 : decode cX1_paint 28 = .ok (.iload_n 3, 1) := by decide +kernel
theorem dX1_paint_29 : decode cX1_paint 29 = .ok (.aload_n 1, 1) := by decide +kernel
theorem dX1_paint_30 : decode cX1_paint 30 = .ok (.getfield 23, 3) := by decide +kernel
theorem dX1_paint_33 : decode cX1_paint 33 = .ok (.if_icmp .ge 41, 3) := by decide +kernel
theorem dX1_paint_36 : decode cX1_paint 36 = .ok (.aload_n 0, 1) := by decide +kernel
theorem dX1_paint_37 : decode cX1_paint 37 = .ok (.getfield 9, 3) := by decide +kernel
theorem dX1_paint_40 : decode cX1_paint 40 = .ok (.iload_n 3, 1) := by decide +kernel
theorem dX1_paint_41 : decode cX1_paint 41 = .ok (.iaload, 1) := by decide +kernel
theorem dX1_paint_42 : decode cX1_paint 42 = .ok (.iconst (-1), 1) := by decide +kernel
theorem dX1_paint_43 : decode cX1_paint 43 = .ok (.if_icmp .ne 25, 3) := by decide +kernel
theorem dX1_paint_46 : decode cX1_paint 46 = .ok (.aload_n 0, 1) := by decide +kernel
theorem dX1_paint_47 : decode cX1_paint 47 = .ok (.dup, 1) := by decide +kernel
theorem dX1_paint_48 : decode cX1_paint 48 = .ok (.getfield 15, 3) := by decide +kernel
theorem dX1_paint_51 : decode cX1_paint 51 = .ok (.iconst 1, 1) := by decide +kernel
theorem dX1_paint_52 : decode cX1_paint 52 = .ok (.iadd, 1) := by decide +kernel
theorem dX1_paint_53 : decode cX1_paint 53 = .ok (.putfield 15, 3) := by decide +kernel
theorem dX1_paint_56 : decode cX1_paint 56 = .ok (.aload_n 2, 1) := by decide +kernel
theorem dX1_paint_57 : decode cX1_paint 57 = .ok (.aload_n 1, 1) := by decide +kernel
theorem dX1_paint_58 : decode cX1_paint 58 = .ok (.iload_n 3, 1) := by decide +kernel
theorem dX1_paint_59 : decode cX1_paint 59 = .ok (.invokevirtual 28, 3) := by decide +kernel
theorem dX1_paint_62 : decode cX1_paint 62 = .ok (.aload_n 0, 1) := by decide +kernel
theorem dX1_paint_63 : decode cX1_paint 63 = .ok (.aload_n 1, 1) := by decide +kernel
theorem dX1_paint_64 : decode cX1_paint 64 = .ok (.aload_n 2, 1) := by decide +kernel
theorem dX1_paint_65 : decode cX1_paint 65 = .ok (.invokevirtual 34, 3) := by decide +kernel
theorem dX1_paint_68 : decode cX1_paint 68 = .ok (.iinc 3 1, 3) := by decide +kernel
theorem dX1_paint_71 : decode cX1_paint 71 = .ok (.goto (-43), 3) := by decide +kernel
theorem dX1_paint_74 : decode cX1_paint 74 = .ok (.aload_n 0, 1) := by decide +kernel
theorem dX1_paint_75 : decode cX1_paint 75 = .ok (.aload_n 0, 1) := by decide +kernel
theorem dX1_paint_76 : decode cX1_paint 76 = .ok (.aload_n 1, 1) := by decide +kernel
theorem dX1_paint_77 : decode cX1_paint 77 = .ok (.invokevirtual 38, 3) := by decide +kernel
theorem dX1_paint_80 : decode cX1_paint 80 = .ok (.putfield 19, 3) := by decide +kernel
theorem dX1_paint_83 : decode cX1_paint 83 = .ok (.return_, 1) := by decide +kernel
set_option maxRecDepth 20000 in
theorem ggX1_paint_X2_spread : GoodIn wsX1_paint wsX2_spread := goodIn_r _ [9, 10, 11, 12, 13, 14, 15, 16, 17, 8, 18, 19, 20, 21, 22, 23, 24, 25, 26, 27, 45, 46, 47, 48, 42, 43, 44] (by decide +kernel) (by decide +kernel)
set_option maxRecDepth 20000 in
theorem gX1_paint_X2_spread : GoodIn wsX1_paint (wsV RX1 28 RX2 yX2_spread wsX2_spread) := goodIn_app (goodIn_of _ (by decide +kernel)) ggX1_paint_X2_spread
set_option maxRecDepth 20000 in
theorem ggX1_paint_X1_paintPart : GoodIn wsX1_paint wsX1_paintPart := goodIn_r _ [32, 3, 33, 2, 42, 43, 44, 45, 46, 47, 48, 39, 40, 41] (by decide +kernel) (by decide +kernel)
set_option maxRecDepth 20000 in
theorem gX1_paint_X1_paintPart : GoodIn wsX1_paint (wsV RX1 34 RX1 yX1_paintPart wsX1_paintPart) := goodIn_app (goodIn_of _ (by decide +kernel)) ggX1_paint_X1_paintPart
set_option maxRecDepth 20000 in
theorem ggX1_paint_X1_areUnlike : GoodIn wsX1_paint wsX1_areUnlike := goodIn_r _ [37, 3, 2, 38, 20, 21, 22, 23, 24, 25, 26, 27, 42, 43, 44, 39, 40, 41] (by decide +kernel) (by decide +kernel)
set_option maxRecDepth 20000 in
theorem gX1_paint_X1_areUnlike : GoodIn wsX1_paint (wsV RX1 38 RX1 yX1_areUnlike wsX1_areUnlike) := goodIn_app (goodIn_of _ (by decide +kernel)) ggX1_paint_X1_areUnlike
theorem mX1_paint_0 : Cond.fieldLink RX1 15 "Layerways$Colours" "parts" "I" ∈ wsX1_paint := by decide +kernel
theorem iX1_paint_X1 : ∀ w ∈ u_ws RX1 TX1 3, w ∈ wsX1_paint := by decide +kernel
theorem mX1_paint_2 : Cond.fieldLink RX1 9 "Layerways$Colours" "tints" "[I" ∈ wsX1_paint := by decide +kernel
theorem mX1_paint_3 : Cond.fieldLink RX1 23 "Layerways$Net" "size" "I" ∈ wsX1_paint := by decide +kernel
theorem iX1_paint_X3 : ∀ w ∈ u_ws RX3 TX3 3, w ∈ wsX1_paint := by decide +kernel
theorem mX1_paint_5 : Cond.fieldLink RX1 19 "Layerways$Colours" "two" "Z" ∈ wsX1_paint := by decide +kernel
def sX1_paint_7  (s1 : Int32 × (Nat → Int32)) : Option ((Int32 × (Nat → Int32)) ⊕ (Int32 × (Nat → Int32))) := if 12 ≤ s1.1 then some (.inl (s1.1, s1.2)) else if zin s1.1 12 then some (.inr ((s1.1 + 1), (upd s1.2 s1.1.toNatClampNeg (-1)))) else none
def sX1_paint_28 (nS : Int32) (nN : (Nat → Int32)) (s9 : Int32 × Int32 × (Nat → Int32) × Int32 × (Nat → Int32) × (Nat → Int32) × (Nat → Int32)) : Option ((Int32 × Int32 × (Nat → Int32) × Int32 × (Nat → Int32) × (Nat → Int32) × (Nat → Int32)) ⊕ (Int32 × Int32 × (Nat → Int32) × Int32 × (Nat → Int32) × (Nat → Int32) × (Nat → Int32))) := if nS ≤ s9.1 then some (.inl (s9.1, s9.2.1, s9.2.2.1, s9.2.2.2.1, s9.2.2.2.2.1, s9.2.2.2.2.2.1, s9.2.2.2.2.2.2)) else if zin s9.1 12 then if (s9.2.2.1 s9.1.toNatClampNeg) = (-1) then (fX2_spread s9.2.2.2.2.1 s9.2.2.2.2.2.1 s9.2.2.2.2.2.2 nS nN s9.1).bind fun v13 => (fX1_paintPart s9.2.2.1 nS v13.2.1).bind fun v14 => some (.inr ((s9.1 + 1), (s9.2.1 + 1), v14, v13.1, v13.2.1, v13.2.2.1, v13.2.2.2)) else some (.inr ((s9.1 + 1), s9.2.1, s9.2.2.1, s9.2.2.2.1, s9.2.2.2.2.1, s9.2.2.2.2.2.1, s9.2.2.2.2.2.2)) else none
def fX1_paint (cT : (Nat → Int32)) (nS : Int32) (nN : (Nat → Int32)) (yM : Int32) (yL : (Nat → Int32)) (yC : (Nat → Int32)) (yQ : (Nat → Int32)) : Option (Int32 × Int32 × (Nat → Int32) × Int32 × (Nat → Int32) × (Nat → Int32) × (Nat → Int32)) := (zloop sX1_paint_7 32 (0, cT)).bind fun e3 => (zloop (sX1_paint_28 nS nN) 32 (0, 0, e3.2, yM, yL, yC, yQ)).bind fun e11 => (fX1_areUnlike e11.2.2.1 nS nN).bind fun v15 => if (v15 = 0 ∨ v15 = 1) then some (e11.2.1, v15, e11.2.2.1, e11.2.2.2.1, e11.2.2.2.2.1, e11.2.2.2.2.2.1, e11.2.2.2.2.2.2) else none
set_option maxRecDepth 100000 in
set_option maxHeartbeats 4000000 in
theorem kX1_paint (l : Launch) (K : zK) (aC : Nat) (aCt : Nat) (aN : Nat) (aNk : Nat) (aNn : Nat) (aY : Nat) (aYl : Nat) (aYc : Nat) (aYq : Nat)  (cP : Int32) (cW : Int32) (cT : (Nat → Int32)) (nS : Int32) (nK : (Nat → Int32)) (nN : (Nat → Int32)) (yM : Int32) (yL : (Nat → Int32)) (yC : (Nat → Int32)) (yQ : (Nat → Int32)) (r : Int32 × Int32 × (Nat → Int32) × Int32 × (Nat → Int32) × (Nat → Int32) × (Nat → Int32)) (hres : fX1_paint cT nS nN yM yL yC yQ = some r) : zM l K yX1_paint wsX1_paint ({ frames := 4, cells := 0, slots := 0, locals := 89 }) [.ref aC, .ref aN, .ref aY] [(aC, .inr (1, [.ref aCt, .int cP, .int cW])), (aCt, .inl (K.2 0, 12, .inl cT)), (aN, .inr (3, [.ref aNk, .ref aNn, .int nS])), (aNk, .inl (K.2 0, 12, .inl nK)), (aNn, .inl (K.2 0, 12, .inl nN)), (aY, .inr (2, [.ref aYl, .ref aYc, .ref aYq, .int yM])), (aYl, .inl (K.2 0, 12, .inl yL)), (aYc, .inl (K.2 0, 12, .inl yC)), (aYq, .inl (K.2 0, 12, .inl yQ))] (fun _ : Unit => none) (fun _ : Unit => [(aC, .inr (1, [.ref aCt, .int r.1, .int r.2.1])), (aCt, .inl (K.2 0, 12, .inl r.2.2.1)), (aN, .inr (3, [.ref aNk, .ref aNn, .int nS])), (aNk, .inl (K.2 0, 12, .inl nK)), (aNn, .inl (K.2 0, 12, .inl nN)), (aY, .inr (2, [.ref aYl, .ref aYc, .ref aYq, .int r.2.2.2.1])), (aYl, .inl (K.2 0, 12, .inl r.2.2.2.2.1)), (aYc, .inl (K.2 0, 12, .inl r.2.2.2.2.2.1)), (aYq, .inl (K.2 0, 12, .inl r.2.2.2.2.2.2))]) 0 0 := by
  refine zM.intV (cc := cX1_paint) (maxL := 4) (ret := none) rfl (by decide) (Nat.le_of_ble_eq_true rfl) rfl (fun _ => rfl) ?_
  intro G hGl hG hN hE
  have hR : ∀ (pc : Nat) (lv : zL), decode cX1_paint pc = .ok (.return_, 1) → zj G pc lv [] [(aC, .inr (1, [.ref aCt, .int r.1, .int r.2.1])), (aCt, .inl (K.2 0, 12, .inl r.2.2.1)), (aN, .inr (3, [.ref aNk, .ref aNn, .int nS])), (aNk, .inl (K.2 0, 12, .inl nK)), (aNn, .inl (K.2 0, 12, .inl nN)), (aY, .inr (2, [.ref aYl, .ref aYc, .ref aYq, .int r.2.2.2.1])), (aYl, .inl (K.2 0, 12, .inl r.2.2.2.2.1)), (aYc, .inl (K.2 0, 12, .inl r.2.2.2.2.2.1)), (aYq, .inl (K.2 0, 12, .inl r.2.2.2.2.2.2))] 0 0 := fun pc lv d => hE () pc lv d
  clear hE
  unfold fX1_paint at hres
  show zj G 0 [(0, .ref aC), (1, .ref aN), (2, .ref aY)] [] [(aC, .inr (1, [.ref aCt, .int cP, .int cW])), (aCt, .inl (K.2 0, 12, .inl cT)), (aN, .inr (3, [.ref aNk, .ref aNn, .int nS])), (aNk, .inl (K.2 0, 12, .inl nK)), (aNn, .inl (K.2 0, 12, .inl nN)), (aY, .inr (2, [.ref aYl, .ref aYc, .ref aYq, .int yM])), (aYl, .inl (K.2 0, 12, .inl yL)), (aYc, .inl (K.2 0, 12, .inl yC)), (aYq, .inl (K.2 0, 12, .inl yQ))] 0 0
  refine z_aload_n hG dX1_paint_0 0 rfl ?_
  refine z_iconst 0 hG dX1_paint_1 (by decide) ?_
  refine z_put (ci := 1) (C := RX1) (T := TX1) (N := 3) (ws' := [(aC, .inr (1, [.ref aCt, .int 0, .int cW])), (aCt, .inl (K.2 0, 12, .inl cT)), (aN, .inr (3, [.ref aNk, .ref aNn, .int nS])), (aNk, .inl (K.2 0, 12, .inl nK)), (aNn, .inl (K.2 0, 12, .inl nN)), (aY, .inr (2, [.ref aYl, .ref aYc, .ref aYq, .int yM])), (aYl, .inl (K.2 0, 12, .inl yL)), (aYc, .inl (K.2 0, 12, .inl yC)), (aYq, .inl (K.2 0, 12, .inl yQ))]) hG dX1_paint_2 iX1_paint_X1 tyX1_ok nmX1 1 (by decide) mX1_paint_0 rfl rfl rfl rfl rfl rfl 0 rfl (Nat.le_of_ble_eq_true rfl) rfl ?_
  refine z_iconst 0 hG dX1_paint_5 (by decide) ?_
  refine z_istore_n (lv' := [(3, .int 0), (0, .ref aC), (1, .ref aN), (2, .ref aY)]) hG dX1_paint_6 (by decide) rfl ?_
  obtain ⟨e3, hx, hres⟩ := z_bind hres
  refine z_lv [1, 2, 3, 0] (lv' := [(0, .ref aC), (1, .ref aN), (2, .ref aY), (3, .int 0)]) rfl ?_
  refine z_loop hx (fun s1 : Int32 × (Nat → Int32) => [(0, .ref aC), (1, .ref aN), (2, .ref aY), (3, .int s1.1)]) (fun s1 : Int32 × (Nat → Int32) => [(aC, .inr (1, [.ref aCt, .int 0, .int cW])), (aCt, .inl (K.2 0, 12, .inl s1.2)), (aN, .inr (3, [.ref aNk, .ref aNn, .int nS])), (aNk, .inl (K.2 0, 12, .inl nK)), (aNn, .inl (K.2 0, 12, .inl nN)), (aY, .inr (2, [.ref aYl, .ref aYc, .ref aYq, .int yM])), (aYl, .inl (K.2 0, 12, .inl yL)), (aYc, .inl (K.2 0, 12, .inl yC)), (aYq, .inl (K.2 0, 12, .inl yQ))]) (fun e3 : Int32 × (Nat → Int32) => zj G 26 [(0, .ref aC), (1, .ref aN), (2, .ref aY), (3, .int e3.1)] [] [(aC, .inr (1, [.ref aCt, .int 0, .int cW])), (aCt, .inl (K.2 0, 12, .inl e3.2)), (aN, .inr (3, [.ref aNk, .ref aNn, .int nS])), (aNk, .inl (K.2 0, 12, .inl nK)), (aNn, .inl (K.2 0, 12, .inl nN)), (aY, .inr (2, [.ref aYl, .ref aYc, .ref aYq, .int yM])), (aYl, .inl (K.2 0, 12, .inl yL)), (aYc, .inl (K.2 0, 12, .inl yC)), (aYq, .inl (K.2 0, 12, .inl yQ))] 0 0) ?_ ?_
  · refine z_iconst 0 hG dX1_paint_26 (by decide) ?_
    refine z_istore_n (lv' := [(3, .int 0), (0, .ref aC), (1, .ref aN), (2, .ref aY)]) hG dX1_paint_27 (by decide) rfl ?_
    obtain ⟨e11, hx, hres⟩ := z_bind hres
    refine z_lv [1, 2, 3, 0] (lv' := [(0, .ref aC), (1, .ref aN), (2, .ref aY), (3, .int 0)]) rfl ?_
    refine z_loop hx (fun s9 : Int32 × Int32 × (Nat → Int32) × Int32 × (Nat → Int32) × (Nat → Int32) × (Nat → Int32) => [(0, .ref aC), (1, .ref aN), (2, .ref aY), (3, .int s9.1)]) (fun s9 : Int32 × Int32 × (Nat → Int32) × Int32 × (Nat → Int32) × (Nat → Int32) × (Nat → Int32) => [(aC, .inr (1, [.ref aCt, .int s9.2.1, .int cW])), (aCt, .inl (K.2 0, 12, .inl s9.2.2.1)), (aN, .inr (3, [.ref aNk, .ref aNn, .int nS])), (aNk, .inl (K.2 0, 12, .inl nK)), (aNn, .inl (K.2 0, 12, .inl nN)), (aY, .inr (2, [.ref aYl, .ref aYc, .ref aYq, .int s9.2.2.2.1])), (aYl, .inl (K.2 0, 12, .inl s9.2.2.2.2.1)), (aYc, .inl (K.2 0, 12, .inl s9.2.2.2.2.2.1)), (aYq, .inl (K.2 0, 12, .inl s9.2.2.2.2.2.2))]) (fun e11 : Int32 × Int32 × (Nat → Int32) × Int32 × (Nat → Int32) × (Nat → Int32) × (Nat → Int32) => zj G 74 [(0, .ref aC), (1, .ref aN), (2, .ref aY), (3, .int e11.1)] [] [(aC, .inr (1, [.ref aCt, .int e11.2.1, .int cW])), (aCt, .inl (K.2 0, 12, .inl e11.2.2.1)), (aN, .inr (3, [.ref aNk, .ref aNn, .int nS])), (aNk, .inl (K.2 0, 12, .inl nK)), (aNn, .inl (K.2 0, 12, .inl nN)), (aY, .inr (2, [.ref aYl, .ref aYc, .ref aYq, .int e11.2.2.2.1])), (aYl, .inl (K.2 0, 12, .inl e11.2.2.2.2.1)), (aYc, .inl (K.2 0, 12, .inl e11.2.2.2.2.2.1)), (aYq, .inl (K.2 0, 12, .inl e11.2.2.2.2.2.2))] 0 0) ?_ ?_
    · refine z_aload_n hG dX1_paint_74 0 rfl ?_
      refine z_aload_n hG dX1_paint_75 0 rfl ?_
      refine z_aload_n hG dX1_paint_76 1 rfl ?_
      obtain ⟨v15, hv, hres⟩ := z_bind hres
      refine z_callV (As := [.ref aN]) (rest := [.ref aC]) (wr := [(aY, .inr (2, [.ref aYl, .ref aYc, .ref aYq, .int e11.2.2.2.1])), (aYl, .inl (K.2 0, 12, .inl e11.2.2.2.2.1)), (aYc, .inl (K.2 0, 12, .inl e11.2.2.2.2.2.1)), (aYq, .inl (K.2 0, 12, .inl e11.2.2.2.2.2.2))]) (ws' := (fun _ : Unit => [(aC, .inr (1, [.ref aCt, .int e11.2.1, .int cW])), (aCt, .inl (K.2 0, 12, .inl e11.2.2.1)), (aN, .inr (3, [.ref aNk, .ref aNn, .int nS])), (aNk, .inl (K.2 0, 12, .inl nK)), (aNn, .inl (K.2 0, 12, .inl nN)), (aY, .inr (2, [.ref aYl, .ref aYc, .ref aYq, .int e11.2.2.2.1])), (aYl, .inl (K.2 0, 12, .inl e11.2.2.2.2.1)), (aYc, .inl (K.2 0, 12, .inl e11.2.2.2.2.2.1)), (aYq, .inl (K.2 0, 12, .inl e11.2.2.2.2.2.2))])) (stk := (fun _ : Unit => [.int v15, .ref aC])) (kc' := 0) (ks' := 0) (n := 1) (C := RX1) (ci := 1) hG dX1_paint_77 (kX1_areUnlike _ K aC aCt aN aNk aNn e11.2.1 cW e11.2.2.1 nS nK nN v15 hv) gX1_paint_X1_areUnlike rfl rfl rfl ⟨rfl, by decide, by decide, rfl⟩ ⟨by decide, by decide⟩ (Nat.le_of_ble_eq_true rfl) ⟨(Nat.le_of_ble_eq_true rfl), (Nat.le_of_ble_eq_true rfl)⟩ [0, 1, 2, 3, 4] [5, 6, 7, 8] [4, 5, 6, 7, 8, 0, 1, 2, 3] rfl rfl rfl rfl (by decide) rfl (fun _ => rfl) (fun _ => rfl) rfl rfl rfl 0 rfl rfl rfl rfl (fun _ => ?_)
      obtain ⟨hg, hres⟩ := z_guard hres
      refine z_put (ci := 1) (C := RX1) (T := TX1) (N := 3) (ws' := [(aC, .inr (1, [.ref aCt, .int e11.2.1, .int v15])), (aCt, .inl (K.2 0, 12, .inl e11.2.2.1)), (aN, .inr (3, [.ref aNk, .ref aNn, .int nS])), (aNk, .inl (K.2 0, 12, .inl nK)), (aNn, .inl (K.2 0, 12, .inl nN)), (aY, .inr (2, [.ref aYl, .ref aYc, .ref aYq, .int e11.2.2.2.1])), (aYl, .inl (K.2 0, 12, .inl e11.2.2.2.2.1)), (aYc, .inl (K.2 0, 12, .inl e11.2.2.2.2.2.1)), (aYq, .inl (K.2 0, 12, .inl e11.2.2.2.2.2.2))]) hG dX1_paint_80 iX1_paint_X1 tyX1_ok nmX1 2 (by decide) mX1_paint_5 rfl rfl rfl (z_nar01 hg) (z_fit01 hg) rfl 0 rfl (Nat.le_of_ble_eq_true rfl) rfl ?_
      obtain rfl := Option.some.inj hres
      exact (hR _ _ dX1_paint_83)
    · intro s9 w10 hres hX hB
      unfold sX1_paint_28 at hres
      refine z_iload_n hG dX1_paint_28 3 rfl ?_
      refine z_aload_n hG dX1_paint_29 1 rfl ?_
      refine z_get (ci := 3) (C := RX3) (T := TX3) (N := 3) hG dX1_paint_30 iX1_paint_X3 2 (by decide) mX1_paint_3 rfl rfl 2 rfl rfl ?_
      refine z_icmp_ge 74 hG dX1_paint_33 (by decide) (fun c => ?_) (fun c => ?_)
      · replace hres := z_ifp c hres
        exact (hX (s9.1, s9.2.1, s9.2.2.1, s9.2.2.2.1, s9.2.2.2.2.1, s9.2.2.2.2.2.1, s9.2.2.2.2.2.2) (Option.some.inj hres).symm)
      · replace hres := z_ifn c hres
        refine z_aload_n hG dX1_paint_36 0 rfl ?_
        refine z_get (ci := 1) (C := RX1) (T := TX1) (N := 3) hG dX1_paint_37 iX1_paint_X1 0 (by decide) mX1_paint_2 rfl rfl 0 rfl rfl ?_
        refine z_iload_n hG dX1_paint_40 3 rfl ?_
        obtain ⟨hg, hres⟩ := z_guard hres
        refine z_iald hG dX1_paint_41 1 rfl hg ?_
        refine z_iconst (-1) hG dX1_paint_42 (by decide) ?_
        refine z_icmp_ne 68 hG dX1_paint_43 (by decide) (fun c => ?_) (fun c => ?_)
        · replace hres := z_ifn c hres
          refine z_iinc (s9.1 + 1) (lv' := [(3, .int (s9.1 + 1)), (0, .ref aC), (1, .ref aN), (2, .ref aY)]) hG dX1_paint_68 3 rfl rfl (by decide) rfl ?_
          refine z_goto 28 hG dX1_paint_71 (by decide) ?_
          exact (z_lv [1, 2, 3, 0] rfl (hB ((s9.1 + 1), s9.2.1, s9.2.2.1, s9.2.2.2.1, s9.2.2.2.2.1, s9.2.2.2.2.2.1, s9.2.2.2.2.2.2) (Option.some.inj hres).symm))
        · replace hres := z_ifp c hres
          refine z_aload_n hG dX1_paint_46 0 rfl ?_
          refine z_dup hG dX1_paint_47 rfl ?_
          refine z_get (ci := 1) (C := RX1) (T := TX1) (N := 3) hG dX1_paint_48 iX1_paint_X1 1 (by decide) mX1_paint_0 rfl rfl 0 rfl rfl ?_
          refine z_iconst 1 hG dX1_paint_51 (by decide) ?_
          refine z_iadd hG dX1_paint_52 ?_
          refine z_put (ci := 1) (C := RX1) (T := TX1) (N := 3) (ws' := [(aC, .inr (1, [.ref aCt, .int (s9.2.1 + 1), .int cW])), (aCt, .inl (K.2 0, 12, .inl s9.2.2.1)), (aN, .inr (3, [.ref aNk, .ref aNn, .int nS])), (aNk, .inl (K.2 0, 12, .inl nK)), (aNn, .inl (K.2 0, 12, .inl nN)), (aY, .inr (2, [.ref aYl, .ref aYc, .ref aYq, .int s9.2.2.2.1])), (aYl, .inl (K.2 0, 12, .inl s9.2.2.2.2.1)), (aYc, .inl (K.2 0, 12, .inl s9.2.2.2.2.2.1)), (aYq, .inl (K.2 0, 12, .inl s9.2.2.2.2.2.2))]) hG dX1_paint_53 iX1_paint_X1 tyX1_ok nmX1 1 (by decide) mX1_paint_0 rfl rfl rfl rfl rfl rfl 0 rfl (Nat.le_of_ble_eq_true rfl) rfl ?_
          refine z_aload_n hG dX1_paint_56 2 rfl ?_
          refine z_aload_n hG dX1_paint_57 1 rfl ?_
          refine z_iload_n hG dX1_paint_58 3 rfl ?_
          obtain ⟨v13, hv, hres⟩ := z_bind hres
          refine z_callV (As := [.ref aN, .int s9.1]) (rest := []) (wr := [(aC, .inr (1, [.ref aCt, .int (s9.2.1 + 1), .int cW])), (aCt, .inl (K.2 0, 12, .inl s9.2.2.1))]) (ws' := (fun _ : Unit => [(aC, .inr (1, [.ref aCt, .int (s9.2.1 + 1), .int cW])), (aCt, .inl (K.2 0, 12, .inl s9.2.2.1)), (aN, .inr (3, [.ref aNk, .ref aNn, .int nS])), (aNk, .inl (K.2 0, 12, .inl nK)), (aNn, .inl (K.2 0, 12, .inl nN)), (aY, .inr (2, [.ref aYl, .ref aYc, .ref aYq, .int v13.1])), (aYl, .inl (K.2 0, 12, .inl v13.2.1)), (aYc, .inl (K.2 0, 12, .inl v13.2.2.1)), (aYq, .inl (K.2 0, 12, .inl v13.2.2.2))])) (stk := (fun _ : Unit => [])) (kc' := 0) (ks' := 0) (n := 2) (C := RX2) (ci := 2) hG dX1_paint_59 (kX2_spread _ K aY aYl aYc aYq aN aNk aNn s9.2.2.2.1 s9.2.2.2.2.1 s9.2.2.2.2.2.1 s9.2.2.2.2.2.2 nS nK nN s9.1 v13 hv) gX1_paint_X2_spread rfl rfl rfl ⟨rfl, by decide, by decide, rfl⟩ ⟨by decide, by decide⟩ (Nat.le_of_ble_eq_true rfl) ⟨(Nat.le_of_ble_eq_true rfl), (Nat.le_of_ble_eq_true rfl)⟩ [5, 6, 7, 8, 2, 3, 4] [0, 1] [0, 1, 6, 7, 8, 2, 3, 4, 5] rfl rfl rfl rfl (by decide) rfl (fun _ => rfl) (fun _ => rfl) rfl rfl rfl 0 rfl rfl rfl rfl (fun _ => ?_)
          refine z_aload_n hG dX1_paint_62 0 rfl ?_
          refine z_aload_n hG dX1_paint_63 1 rfl ?_
          refine z_aload_n hG dX1_paint_64 2 rfl ?_
          obtain ⟨v14, hv, hres⟩ := z_bind hres
          refine z_callV (As := [.ref aN, .ref aY]) (rest := []) (wr := ([] : va_W)) (ws' := (fun _ : Unit => [(aC, .inr (1, [.ref aCt, .int (s9.2.1 + 1), .int cW])), (aCt, .inl (K.2 0, 12, .inl v14)), (aN, .inr (3, [.ref aNk, .ref aNn, .int nS])), (aNk, .inl (K.2 0, 12, .inl nK)), (aNn, .inl (K.2 0, 12, .inl nN)), (aY, .inr (2, [.ref aYl, .ref aYc, .ref aYq, .int v13.1])), (aYl, .inl (K.2 0, 12, .inl v13.2.1)), (aYc, .inl (K.2 0, 12, .inl v13.2.2.1)), (aYq, .inl (K.2 0, 12, .inl v13.2.2.2))])) (stk := (fun _ : Unit => [])) (kc' := 0) (ks' := 0) (n := 2) (C := RX1) (ci := 1) hG dX1_paint_65 (kX1_paintPart _ K aC aCt aN aNk aNn aY aYl aYc aYq (s9.2.1 + 1) cW s9.2.2.1 nS nK nN v13.1 v13.2.1 v13.2.2.1 v13.2.2.2 v14 hv) gX1_paint_X1_paintPart rfl rfl rfl ⟨rfl, by decide, by decide, rfl⟩ ⟨by decide, by decide⟩ (Nat.le_of_ble_eq_true rfl) ⟨(Nat.le_of_ble_eq_true rfl), (Nat.le_of_ble_eq_true rfl)⟩ [0, 1, 2, 3, 4, 5, 6, 7, 8] [] [0, 1, 2, 3, 4, 5, 6, 7, 8] rfl rfl rfl rfl (by decide) rfl (fun _ => rfl) (fun _ => rfl) rfl rfl rfl 0 rfl rfl rfl rfl (fun _ => ?_)
          refine z_iinc (s9.1 + 1) (lv' := [(3, .int (s9.1 + 1)), (0, .ref aC), (1, .ref aN), (2, .ref aY)]) hG dX1_paint_68 3 rfl rfl (by decide) rfl ?_
          refine z_goto 28 hG dX1_paint_71 (by decide) ?_
          exact (z_lv [1, 2, 3, 0] rfl (hB ((s9.1 + 1), (s9.2.1 + 1), v14, v13.1, v13.2.1, v13.2.2.1, v13.2.2.2) (Option.some.inj hres).symm))
  · intro s1 w2 hres hX hB
    unfold sX1_paint_7 at hres
    refine z_iload_n hG dX1_paint_7 3 rfl ?_
    refine z_bipush 12 hG dX1_paint_8 (by decide) ?_
    refine z_icmp_ge 26 hG dX1_paint_10 (by decide) (fun c => ?_) (fun c => ?_)
    · replace hres := z_ifp c hres
      exact (hX (s1.1, s1.2) (Option.some.inj hres).symm)
    · replace hres := z_ifn c hres
      refine z_aload_n hG dX1_paint_13 0 rfl ?_
      refine z_get (ci := 1) (C := RX1) (T := TX1) (N := 3) hG dX1_paint_14 iX1_paint_X1 0 (by decide) mX1_paint_2 rfl rfl 0 rfl rfl ?_
      refine z_iload_n hG dX1_paint_17 3 rfl ?_
      refine z_iconst (-1) hG dX1_paint_18 (by decide) ?_
      obtain ⟨hg, hres⟩ := z_guard hres
      refine z_iast (ws' := [(aC, .inr (1, [.ref aCt, .int 0, .int cW])), (aCt, .inl (K.2 0, 12, .inl (upd s1.2 s1.1.toNatClampNeg (-1)))), (aN, .inr (3, [.ref aNk, .ref aNn, .int nS])), (aNk, .inl (K.2 0, 12, .inl nK)), (aNn, .inl (K.2 0, 12, .inl nN)), (aY, .inr (2, [.ref aYl, .ref aYc, .ref aYq, .int yM])), (aYl, .inl (K.2 0, 12, .inl yL)), (aYc, .inl (K.2 0, 12, .inl yC)), (aYq, .inl (K.2 0, 12, .inl yQ))]) hG dX1_paint_19 1 rfl hg rfl ?_
      refine z_iinc (s1.1 + 1) (lv' := [(3, .int (s1.1 + 1)), (0, .ref aC), (1, .ref aN), (2, .ref aY)]) hG dX1_paint_20 3 rfl rfl (by decide) rfl ?_
      refine z_goto 7 hG dX1_paint_23 (by decide) ?_
      exact (z_lv [1, 2, 3, 0] rfl (hB ((s1.1 + 1), (upd s1.2 s1.1.toNatClampNeg (-1))) (Option.some.inj hres).symm))
