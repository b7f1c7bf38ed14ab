theorem dX6_comes_0 : decode cX6_comes 0 = .ok (.aload_n 0, 1) := by decide +kernel
theorem dX6_comes_1 : decode cX6_comes 1 = .ok (.aload_n 0, 1) := by decide +kernel
theorem dX6_comes_2 : decode cX6_comes 2 = .ok (.getfield 18, 3) := by decide +kernel
theorem dX6_comes_5 : decode cX6_comes 5 = .ok (.ifCond .lt 7, 3) := by decide +kernel
theorem dX6_comes_8 : decode cX6_comes 8 = .ok (.iconst 1, 1) := by decide +kernel
theorem dX6_comes_9 : decode cX6_comes 9 = .ok (.goto 4, 3) := by decide +kernel
theorem dX6_comes_12 : decode cX6_comes 12 = .ok (.iconst 0, 1) := by decide +kernel
theorem dX6_comes_13 : decode cX6_comes 13 = .ok (.iconst 1, 1) := by decide +kernel
theorem dX6_comes_14 : decode cX6_comes 14 = .ok (.iconst 1, 1) := by decide +kernel
theorem dX6_comes_15 : decode cX6_comes 15 = .ok (.invokevirtual 42, 3) := by decide +kernel
theorem dX6_comes_18 : decode cX6_comes 18 = .ok (.ifCond .eq 43, 3) := by decide +kernel
theorem dX6_comes_21 : decode cX6_comes 21 = .ok (.aload_n 0, 1) := by decide +kernel
theorem dX6_comes_22 : decode cX6_comes 22 = .ok (.iconst 1, 1) := by decide +kernel
theorem dX6_comes_23 : decode cX6_comes 23 = .ok (.iload_n 1, 1) := by decide +kernel
theorem dX6_comes_24 : decode cX6_comes 24 = .ok (.ifCond .lt 29, 3) := by decide +kernel
theorem dX6_comes_27 : decode cX6_comes 27 = .ok (.iload_n 1, 1) := by decide +kernel
theorem dX6_comes_28 : decode cX6_comes 28 = .ok (.aload_n 0, 1) := by decide +kernel
theorem dX6_comes_29 : decode cX6_comes 29 = .ok (.getfield 31, 3) := by decide +kernel
theorem dX6_comes_32 : decode cX6_comes 32 = .ok (.aload_n 0, 1) := by decide +kernel
theorem dX6_comes_33 : decode cX6_comes 33 = .ok (.aload_n 0, 1) := by decide +kernel
theorem dX6_comes_34 : decode cX6_comes 34 = .ok (.aload_n 0, 1) := by decide +kernel
theorem dX6_comes_35 : decode cX6_comes 35 = .ok (.getfield 18, 3) := by decide +kernel
theorem dX6_comes_38 : decode cX6_comes 38 = .ok (.invokevirtual 52, 3) := by decide +kernel
theorem dX6_comes_41 : decode cX6_comes 41 = .ok (.iconst (-1), 1) := by decide +kernel
theorem dX6_comes_42 : decode cX6_comes 42 = .ok (.invokevirtual 60, 3) := by decide +kernel
theorem dX6_comes_45 : decode cX6_comes 45 = .ok (.isub, 1) := by decide +kernel
theorem dX6_comes_46 : decode cX6_comes 46 = .ok (.if_icmp .ge 7, 3) := by decide +kernel
theorem dX6_comes_49 : decode cX6_comes 49 = .ok (.iconst 1, 1) := by decide +kernel
theorem dX6_comes_50 : decode cX6_comes 50 = .ok (.goto 4, 3) := by decide +kernel
theorem dX6_comes_53 : decode cX6_comes 53 = .ok (.iconst 0, 1) := by decide +kernel
theorem dX6_comes_54 : decode cX6_comes 54 = .ok (.iconst 1, 1) := by decide +kernel
theorem dX6_comes_55 : decode cX6_comes 55 = .ok (.invokevirtual 42, 3) := by decide +kernel
theorem dX6_comes_58 : decode cX6_comes 58 = .ok (.ifCond .ne 5, 3) := by decide +kernel
theorem dX6_comes_61 : decode cX6_comes 61 = .ok (.iconst 0, 1) := by decide +kernel
theorem dX6_comes_62 : decode cX6_comes 62 = .ok (.ireturn, 1) := by decide +kernel
theorem dX6_comes_63 : decode cX6_comes 63 = .ok (.bipush 12, 2) := by decide +kernel
theorem dX6_comes_65 : decode cX6_comes 65 = .ok (.newarray .int, 2) := by decide +kernel
theorem dX6_comes_67 : decode cX6_comes 67 = .ok (.astore_n 2, 1) := by decide +kernel
theorem dX6_comes_68 : decode cX6_comes 68 = .ok (.bipush 12, 2) := by decide +kernel
theorem dX6_comes_70 : decode cX6_comes 70 = .ok (.newarray .boolean, 2) := by decide +kernel
theorem dX6_comes_72 : decode cX6_comes 72 = .ok (.astore_n 3, 1) := by decide +kernel
theorem dX6_comes_73 : decode cX6_comes 73 = .ok (.aload_n 2, 1) := by decide +kernel
theorem dX6_comes_74 : decode cX6_comes 74 = .ok (.iconst 0, 1) := by decide +kernel
theorem dX6_comes_75 : decode cX6_comes 75 = .ok (.aload_n 0, 1) := by decide +kernel
theorem dX6_comes_76 : decode cX6_comes 76 = .ok (.getfield 18, 3) := by decide +kernel
theorem dX6_comes_79 : decode cX6_comes 79 = .ok (.iastore, 1) := by decide +kernel
theorem dX6_comes_80 : decode cX6_comes 80 = .ok (.aload_n 3, 1) := by decide +kernel
theorem dX6_comes_81 : decode cX6_comes 81 = .ok (.aload_n 0, 1) := by decide +kernel
theorem dX6_comes_82 : decode cX6_comes 82 = .ok (.getfield 18, 3) := by decide +kernel
theorem dX6_comes_85 : decode cX6_comes 85 = .ok (.iconst 1, 1) := by decide +kernel
theorem dX6_comes_86 : decode cX6_comes 86 = .ok (.bastore, 1) := by decide +kernel
theorem dX6_comes_87 : decode cX6_comes 87 = .ok (.iconst 1, 1) := by decide +kernel
theorem dX6_comes_88 : decode cX6_comes 88 = .ok (.istore 4, 2) := by decide +kernel
theorem dX6_comes_90 : decode cX6_comes 90 = .ok (.iconst 0, 1) := by decide +kernel
theorem dX6_comes_91 : decode cX6_comes 91 = .ok (.istore 5, 2) := by decide +kernel
theorem dX6_comes_93 : decode cX6_comes 93 = .ok (.iload 5, 2) := by decide +kernel
theorem dX6_comes_95 : decode cX6_comes 95 = .ok (.iload 4, 2) := by decide +kernel
theorem dX6_comes_97 : decode cX6_comes 97 = .ok (.if_icmp .ge 63, 3) := by decide +kernel
theorem dX6_comes_100 : decode cX6_comes 100 = .ok (.iconst 0, 1) := by decide +kernel
theorem dX6_comes_101 : decode cX6_comes 101 = .ok (.istore 6, 2) := by decide +kernel
theorem dX6_comes_103 : decode cX6_comes 103 = .ok (.iload 6, 2) := by decide +kernel
theorem dX6_comes_105 : decode cX6_comes 105 = .ok (.aload_n 0, 1) := by decide +kernel
theorem dX6_comes_106 : decode cX6_comes 106 = .ok (.getfield 31, 3) := by decide +kernel
theorem dX6_comes_109 : decode cX6_comes 109 = .ok (.if_icmp .ge 45, 3) := by decide +kernel
theorem dX6_comes_112 : decode cX6_comes 112 = .ok (.aload_n 0, 1) := by decide +kernel
theorem dX6_comes_113 : decode cX6_comes 113 = .ok (.getfield 15, 3) := by decide +kernel
theorem dX6_comes_116 : decode cX6_comes 116 = .ok (.aload_n 2, 1) := by decide +kernel
theorem dX6_comes_117 : decode cX6_comes 117 = .ok (.iload 5, 2) := by decide +kernel
theorem dX6_comes_119 : decode cX6_comes 119 = .ok (.iaload, 1) := by decide +kernel
theorem dX6_comes_120 : decode cX6_comes 120 = .ok (.aaload, 1) := by decide +kernel
theorem dX6_comes_121 : decode cX6_comes 121 = .ok (.iload 6, 2) := by decide +kernel
theorem dX6_comes_123 : decode cX6_comes 123 = .ok (.baload, 1) := by decide +kernel
theorem dX6_comes_124 : decode cX6_comes 124 = .ok (.ifCond .eq 24, 3) := by decide +kernel
theorem dX6_comes_127 : decode cX6_comes 127 = .ok (.aload_n 3, 1) := by decide +kernel
theorem dX6_comes_128 : decode cX6_comes 128 = .ok (.iload 6, 2) := by decide +kernel
theorem dX6_comes_130 : decode cX6_comes 130 = .ok (.baload, 1) := by decide +kernel
theorem dX6_comes_131 : decode cX6_comes 131 = .ok (.ifCond .ne 17, 3) := by decide +kernel
theorem dX6_comes_134 : decode cX6_comes 134 = .ok (.aload_n 3, 1) := by decide +kernel
theorem dX6_comes_135 : decode cX6_comes 135 = .ok (.iload 6, 2) := by decide +kernel
theorem dX6_comes_137 : decode cX6_comes 137 = .ok (.iconst 1, 1) := by decide +kernel
theorem dX6_comes_138 : decode cX6_comes 138 = .ok (.bastore, 1) := by decide +kernel
theorem dX6_comes_139 : decode cX6_comes 139 = .ok (.aload_n 2, 1) := by decide +kernel
theorem dX6_comes_140 : decode cX6_comes 140 = .ok (.iload 4, 2) := by decide +kernel
theorem dX6_comes_142 : decode cX6_comes 142 = .ok (.iload 6, 2) := by decide +kernel
theorem dX6_comes_144 : decode cX6_comes 144 = .ok (.iastore, 1) := by decide +kernel
theorem dX6_comes_145 : decode cX6_comes 145 = .ok (.iinc 4 1, 3) := by decide +kernel
theorem dX6_comes_148 : decode cX6_comes 148 = .ok (.iinc 6 1, 3) := by decide +kernel
theorem dX6_comes_151 : decode cX6_comes 151 = .ok (.goto (-48), 3) := by decide +kernel
theorem dX6_comes_154 : decode cX6_comes 154 = .ok (.iinc 5 1, 3) := by decide +kernel
theorem dX6_comes_157 : decode cX6_comes 157 = .ok (.goto (-64), 3) := by decide +kernel
theorem dX6_comes_160 : decode cX6_comes 160 = .ok (.aload_n 0, 1) := by decide +kernel
theorem dX6_comes_161 : decode cX6_comes 161 = .ok (.getfield 9, 3) := by decide +kernel
theorem dX6_comes_164 : decode cX6_comes 164 = .ok (.aload_n 2, 1) := by decide +kernel
theorem dX6_comes_165 : decode cX6_comes 165 = .ok (.iload_n 1, 1) := by decide +kernel
theorem dX6_comes_166 : decode cX6_comes 166 = .ok (.iaload, 1) := by decide +kernel
theorem dX6_comes_167 : decode cX6_comes 167 = .ok (.iaload, 1) := by decide +kernel
theorem dX6_comes_168 : decode cX6_comes 168 = .ok (.ireturn, 1) := by decide +kernel
set_option maxRecDepth 20000 in
theorem ggX6_comes_X6_can : GoodIn wsX6_comes wsX6_can := goodIn_r _ [11, 12, 21, 22, 23, 24, 25, 26, 27, 28] (by decide +kernel) (by decide +kernel)
set_option maxRecDepth 20000 in
theorem gX6_comes_X6_can : GoodIn wsX6_comes (wsV RX6 42 RX6 yX6_can wsX6_can) := goodIn_app (goodIn_of _ (by decide +kernel)) ggX6_comes_X6_can
set_option maxRecDepth 20000 in
theorem ggX6_comes_X6_lengths : GoodIn wsX6_comes wsX6_lengths := goodIn_r _ [16, 3, 2, 5, 21, 22, 23, 24, 25, 26, 27, 28] (by decide +kernel) (by decide +kernel)
set_option maxRecDepth 20000 in
theorem gX6_comes_X6_lengths : GoodIn wsX6_comes (wsV RX6 52 RX6 yX6_lengths wsX6_lengths) := goodIn_app (goodIn_of _ (by decide +kernel)) ggX6_comes_X6_lengths
set_option maxRecDepth 20000 in
theorem ggX6_comes_X6_having : GoodIn wsX6_comes wsX6_having := goodIn_r _ [20, 2, 21, 22, 23, 24, 25, 26, 27, 28] (by decide +kernel) (by decide +kernel)
set_option maxRecDepth 20000 in
theorem gX6_comes_X6_having : GoodIn wsX6_comes (wsV RX6 60 RX6 yX6_having wsX6_having) := goodIn_app (goodIn_of _ (by decide +kernel)) ggX6_comes_X6_having
theorem mX6_comes_0 : Cond.fieldLink RX6 18 "LayerwaysModel" "start" "I" ∈ wsX6_comes := by decide +kernel
theorem iX6_comes_X6 : ∀ w ∈ u_ws RX6 TX6 8, w ∈ wsX6_comes := by decide +kernel
theorem mX6_comes_2 : Cond.fieldLink RX6 31 "LayerwaysModel" "many" "I" ∈ wsX6_comes := by decide +kernel
theorem mX6_comes_3 : Cond.arrayClass .int ∈ wsX6_comes := by decide +kernel
theorem mX6_comes_4 : Cond.arrayClass .boolean ∈ wsX6_comes := by decide +kernel
theorem mX6_comes_5 : Cond.fieldLink RX6 15 "LayerwaysModel" "joined" "[[Z" ∈ wsX6_comes := by decide +kernel
theorem mX6_comes_6 : Cond.fieldLink RX6 9 "LayerwaysModel" "keys" "[I" ∈ wsX6_comes := by decide +kernel
def sX6_comes_103 (mN : Int32) (mJ : (Nat → Nat → Int32)) (s24 : Int32 × Int32 × (Nat → Int32) × (Nat → Int32)) (s30 : Int32 × Int32 × (Nat → Int32) × (Nat → Int32)) : Option ((Int32 × Int32 × (Nat → Int32) × (Nat → Int32)) ⊕ (Int32 × Int32 × (Nat → Int32) × (Nat → Int32))) := if mN ≤ s30.2.1 then some (.inl (s30.1, s30.2.1, s30.2.2.1, s30.2.2.2)) else if zin s24.2.1 12 then if zin (s30.2.2.1 s24.2.1.toNatClampNeg) 12 then if zin s30.2.1 12 then if (mJ (s30.2.2.1 s24.2.1.toNatClampNeg).toNatClampNeg s30.2.1.toNatClampNeg) = 0 then some (.inr (s30.1, (s30.2.1 + 1), s30.2.2.1, s30.2.2.2)) else if zin s30.2.1 12 then if (s30.2.2.2 s30.2.1.toNatClampNeg) = 0 then if zin s30.2.1 12 then if zin s30.1 12 then some (.inr ((s30.1 + 1), (s30.2.1 + 1), (upd s30.2.2.1 s30.1.toNatClampNeg s30.2.1), (upd s30.2.2.2 s30.2.1.toNatClampNeg 1))) else none else none else some (.inr (s30.1, (s30.2.1 + 1), s30.2.2.1, s30.2.2.2)) else none else none else none else none
def sX6_comes_93 (mN : Int32) (mJ : (Nat → Nat → Int32)) (s24 : Int32 × Int32 × (Nat → Int32) × (Nat → Int32)) : Option ((Int32 × Int32 × (Nat → Int32) × (Nat → Int32)) ⊕ (Int32 × Int32 × (Nat → Int32) × (Nat → Int32))) := if s24.1 ≤ s24.2.1 then some (.inl (s24.1, s24.2.1, s24.2.2.1, s24.2.2.2)) else (zloop (sX6_comes_103 mN mJ s24) 32 (s24.1, 0, s24.2.2.1, s24.2.2.2)).bind fun e32 => some (.inr (e32.1, (s24.2.1 + 1), e32.2.2.1, e32.2.2.2))
def fX6_comes (mN : Int32) (mS : Int32) (mK : (Nat → Int32)) (mJ : (Nat → Nat → Int32)) (p0 : Int32) : Option (Int32 × Int32) := ((if mS < 0 then some 0 else some 1) : Option Int32).bind fun v1 => (fX6_can v1 1 1).bind fun v2 => if v2.1 = 0 then some (0, v2.2) else ((if p0 < 0 then some 0 else (fX6_lengths mN mJ mS).bind fun v35 => (fX6_having mN v35 (-1)).bind fun v37 => if (mN - v37) ≤ p0 then some 0 else some 1) : Option Int32).bind fun v6 => (fX6_can 1 v6 1).bind fun v7 => if v7.1 = 0 then some (0, v7.2) else if zin 0 12 then if zin mS 12 then (zloop (sX6_comes_93 mN mJ) 32 (1, 0, (upd (fun _ => 0) (0 : Int32).toNatClampNeg mS), (upd (fun _ => 0) mS.toNatClampNeg 1))).bind fun e26 => if zin p0 12 then if zin (e26.2.2.1 p0.toNatClampNeg) 12 then some ((mK (e26.2.2.1 p0.toNatClampNeg).toNatClampNeg), v7.2) else none else none else none else none
set_option maxRecDepth 100000 in
set_option maxHeartbeats 4000000 in
theorem kX6_comes (l : Launch) (K : zK) (aM : Nat) (aMk : Nat) (aMj : Nat) (aMc : Nat) (aMw : Nat) (aMr : (Nat → Nat))  (mN : Int32) (mS : Int32) (mX : Int32) (mT : Int32) (mK : (Nat → Int32)) (mC : (Nat → Int32)) (mW : (Nat → Int32)) (mJ : (Nat → Nat → Int32)) (p0 : Int32) (r : Int32 × Int32) (hres : fX6_comes mN mS mK mJ p0 = some r) : zM l K yX6_comes wsX6_comes ({ frames := 1, cells := 3, slots := 36, locals := 25 }) [.ref aM, .int p0] ([(aM, .inr (6, [.ref aMk, .ref aMj, .int mN, .int mS, .ref aMc, .ref aMw, .int mX, .int mT])), (aMk, .inl (K.2 0, 12, .inl mK)), (aMj, .inl (K.2 3, 12, .inr (.inr (.inr (.inr (zo aMr 12)))))), (aMc, .inl (K.2 0, 12, .inl mC)), (aMw, .inl (K.2 0, 12, .inl mW))] ++ zR12Z K aMr mJ) (fun _ : Unit => some (.int r.1)) (fun _ : Unit => ([(aM, .inr (6, [.ref aMk, .ref aMj, .int mN, .int mS, .ref aMc, .ref aMw, .int mX, .int r.2])), (aMk, .inl (K.2 0, 12, .inl mK)), (aMj, .inl (K.2 3, 12, .inr (.inr (.inr (.inr (zo aMr 12)))))), (aMc, .inl (K.2 0, 12, .inl mC)), (aMw, .inl (K.2 0, 12, .inl mW))] ++ zR12Z K aMr mJ)) 3 36 := by
  refine zM.intI (cc := cX6_comes) (maxL := 7) (ret := (some .int)) rfl (by decide) (Nat.le_of_ble_eq_true rfl) rfl ?_
  intro G hGl hG hN hE
  have hR : ∀ (pc : Nat) (lv : zL), decode cX6_comes pc = .ok (.ireturn, 1) → zj G pc lv [.int r.1] ([(aM, .inr (6, [.ref aMk, .ref aMj, .int mN, .int mS, .ref aMc, .ref aMw, .int mX, .int r.2])), (aMk, .inl (K.2 0, 12, .inl mK)), (aMj, .inl (K.2 3, 12, .inr (.inr (.inr (.inr (zo aMr 12)))))), (aMc, .inl (K.2 0, 12, .inl mC)), (aMw, .inl (K.2 0, 12, .inl mW))] ++ zR12Z K aMr mJ) 3 36 := fun pc lv d => hE () _ rfl pc lv d
  clear hE
  unfold fX6_comes at hres
  show zj G 0 [(0, .ref aM), (1, .int p0)] [] ([(aM, .inr (6, [.ref aMk, .ref aMj, .int mN, .int mS, .ref aMc, .ref aMw, .int mX, .int mT])), (aMk, .inl (K.2 0, 12, .inl mK)), (aMj, .inl (K.2 3, 12, .inr (.inr (.inr (.inr (zo aMr 12)))))), (aMc, .inl (K.2 0, 12, .inl mC)), (aMw, .inl (K.2 0, 12, .inl mW))] ++ zR12Z K aMr mJ) 0 0
  refine z_aload_n hG dX6_comes_0 0 rfl ?_
  refine z_aload_n hG dX6_comes_1 0 rfl ?_
  refine z_get (ci := 6) (C := RX6) (T := TX6) (N := 8) hG dX6_comes_2 iX6_comes_X6 3 (by decide) mX6_comes_0 rfl rfl 0 rfl rfl ?_
  obtain ⟨v1, hv, hres⟩ := z_bind hres
  have J : zj G 13 [(0, .ref aM), (1, .int p0)] [.int v1, .ref aM] ([(aM, .inr (6, [.ref aMk, .ref aMj, .int mN, .int mS, .ref aMc, .ref aMw, .int mX, .int mT])), (aMk, .inl (K.2 0, 12, .inl mK)), (aMj, .inl (K.2 3, 12, .inr (.inr (.inr (.inr (zo aMr 12)))))), (aMc, .inl (K.2 0, 12, .inl mC)), (aMw, .inl (K.2 0, 12, .inl mW))] ++ zR12Z K aMr mJ) 0 0 := by
    refine z_iconst 1 hG dX6_comes_13 (by decide) ?_
    refine z_iconst 1 hG dX6_comes_14 (by decide) ?_
    obtain ⟨v2, hv, hres⟩ := z_bind hres
    refine z_callV (As := [.int v1, .int 1, .int 1]) (rest := []) (wr := ([(aMk, .inl (K.2 0, 12, .inl mK)), (aMj, .inl (K.2 3, 12, .inr (.inr (.inr (.inr (zo aMr 12)))))), (aMc, .inl (K.2 0, 12, .inl mC)), (aMw, .inl (K.2 0, 12, .inl mW))] ++ zR12Z K aMr mJ)) (ws' := (fun _ : Unit => ([(aM, .inr (6, [.ref aMk, .ref aMj, .int mN, .int mS, .ref aMc, .ref aMw, .int mX, .int v2.2])), (aMk, .inl (K.2 0, 12, .inl mK)), (aMj, .inl (K.2 3, 12, .inr (.inr (.inr (.inr (zo aMr 12)))))), (aMc, .inl (K.2 0, 12, .inl mC)), (aMw, .inl (K.2 0, 12, .inl mW))] ++ zR12Z K aMr mJ))) (stk := (fun _ : Unit => [.int v2.1])) (kc' := 0) (ks' := 0) (n := 3) (C := RX6) (ci := 6) hG dX6_comes_15 (kX6_can _ K aM aMk aMj aMc aMw mN mS mX mT v1 1 1 v2 hv) gX6_comes_X6_can rfl rfl rfl ⟨rfl, by decide, by decide, rfl⟩ ⟨by decide, by decide⟩ (Nat.le_of_ble_eq_true rfl) ⟨(Nat.le_of_ble_eq_true rfl), (Nat.le_of_ble_eq_true rfl)⟩ [0] [1, 2, 3, 4, 5, 6, 7, 8, 9, 10, 11, 12, 13, 14, 15, 16] [16, 0, 1, 2, 3, 4, 5, 6, 7, 8, 9, 10, 11, 12, 13, 14, 15] rfl rfl rfl rfl (by decide) rfl (fun _ => rfl) (fun _ => rfl) rfl rfl rfl 0 rfl rfl rfl rfl (fun _ => ?_)
    refine z_if_eq 61 hG dX6_comes_18 (by decide) (fun c => ?_) (fun c => ?_)
    · replace hres := z_ifp c hres
      refine z_iconst 0 hG dX6_comes_61 (by decide) ?_
      obtain rfl := Option.some.inj hres
      exact (z_wid (Nat.le_of_ble_eq_true rfl) (Nat.le_of_ble_eq_true rfl) (hR _ _ dX6_comes_62))
    · replace hres := z_ifn c hres
      refine z_aload_n hG dX6_comes_21 0 rfl ?_
      refine z_iconst 1 hG dX6_comes_22 (by decide) ?_
      refine z_iload_n hG dX6_comes_23 1 rfl ?_
      obtain ⟨v6, hv, hres⟩ := z_bind hres
      have J : zj G 54 [(0, .ref aM), (1, .int p0)] [.int v6, .int 1, .ref aM] ([(aM, .inr (6, [.ref aMk, .ref aMj, .int mN, .int mS, .ref aMc, .ref aMw, .int mX, .int v2.2])), (aMk, .inl (K.2 0, 12, .inl mK)), (aMj, .inl (K.2 3, 12, .inr (.inr (.inr (.inr (zo aMr 12)))))), (aMc, .inl (K.2 0, 12, .inl mC)), (aMw, .inl (K.2 0, 12, .inl mW))] ++ zR12Z K aMr mJ) 1 12 := by
        refine z_iconst 1 hG dX6_comes_54 (by decide) ?_
        obtain ⟨v7, hv, hres⟩ := z_bind hres
        refine z_callV (As := [.int 1, .int v6, .int 1]) (rest := []) (wr := ([(aMk, .inl (K.2 0, 12, .inl mK)), (aMj, .inl (K.2 3, 12, .inr (.inr (.inr (.inr (zo aMr 12)))))), (aMc, .inl (K.2 0, 12, .inl mC)), (aMw, .inl (K.2 0, 12, .inl mW))] ++ zR12Z K aMr mJ)) (ws' := (fun _ : Unit => ([(aM, .inr (6, [.ref aMk, .ref aMj, .int mN, .int mS, .ref aMc, .ref aMw, .int mX, .int v7.2])), (aMk, .inl (K.2 0, 12, .inl mK)), (aMj, .inl (K.2 3, 12, .inr (.inr (.inr (.inr (zo aMr 12)))))), (aMc, .inl (K.2 0, 12, .inl mC)), (aMw, .inl (K.2 0, 12, .inl mW))] ++ zR12Z K aMr mJ))) (stk := (fun _ : Unit => [.int v7.1])) (kc' := 1) (ks' := 12) (n := 3) (C := RX6) (ci := 6) hG dX6_comes_55 (kX6_can _ K aM aMk aMj aMc aMw mN mS mX v2.2 1 v6 1 v7 hv) gX6_comes_X6_can rfl rfl rfl ⟨rfl, by decide, by decide, rfl⟩ ⟨by decide, by decide⟩ (Nat.le_of_ble_eq_true rfl) ⟨(Nat.le_of_ble_eq_true rfl), (Nat.le_of_ble_eq_true rfl)⟩ [0] [1, 2, 3, 4, 5, 6, 7, 8, 9, 10, 11, 12, 13, 14, 15, 16] [16, 0, 1, 2, 3, 4, 5, 6, 7, 8, 9, 10, 11, 12, 13, 14, 15] rfl rfl rfl rfl (by decide) rfl (fun _ => rfl) (fun _ => rfl) rfl rfl rfl 0 rfl rfl rfl rfl (fun _ => ?_)
        refine z_if_ne 63 hG dX6_comes_58 (by decide) (fun c => ?_) (fun c => ?_)
        · replace hres := z_ifn c hres
          refine z_bipush 12 hG dX6_comes_63 (by decide) ?_
          refine z_newI (ws0 := []) (N' := 12) hG dX6_comes_65 mX6_comes_3 (by decide) (by decide) (by decide) (Nat.le_of_ble_eq_true rfl) (Nat.le_of_ble_eq_true rfl) (fun q8 => ?_)
          show zj G 67 [(0, .ref aM), (1, .int p0)] [.ref q8] ([(aM, .inr (6, [.ref aMk, .ref aMj, .int mN, .int mS, .ref aMc, .ref aMw, .int mX, .int v7.2])), (aMk, .inl (K.2 0, 12, .inl mK)), (aMj, .inl (K.2 3, 12, .inr (.inr (.inr (.inr (zo aMr 12)))))), (aMc, .inl (K.2 0, 12, .inl mC)), (aMw, .inl (K.2 0, 12, .inl mW))] ++ zR12Z K aMr mJ ++ [(q8, .inl (K.2 0, 12, .inl (fun _ => 0)))]) 2 24
          refine z_astore_n (lv' := [(2, .ref q8), (0, .ref aM), (1, .int p0)]) hG dX6_comes_67 (by decide) rfl ?_
          refine z_bipush 12 hG dX6_comes_68 (by decide) ?_
          refine z_newZ (N' := 12) hG dX6_comes_70 mX6_comes_4 (by decide) (by decide) (by decide) (Nat.le_of_ble_eq_true rfl) (Nat.le_of_ble_eq_true rfl) (fun q9 => ?_)
          show zj G 72 [(2, .ref q8), (0, .ref aM), (1, .int p0)] [.ref q9] ([(aM, .inr (6, [.ref aMk, .ref aMj, .int mN, .int mS, .ref aMc, .ref aMw, .int mX, .int v7.2])), (aMk, .inl (K.2 0, 12, .inl mK)), (aMj, .inl (K.2 3, 12, .inr (.inr (.inr (.inr (zo aMr 12)))))), (aMc, .inl (K.2 0, 12, .inl mC)), (aMw, .inl (K.2 0, 12, .inl mW))] ++ zR12Z K aMr mJ ++ [(q8, .inl (K.2 0, 12, .inl (fun _ => 0))), (q9, .inl (K.2 1, 12, .inl (fun _ => 0)))]) 3 36
          refine z_astore_n (lv' := [(3, .ref q9), (2, .ref q8), (0, .ref aM), (1, .int p0)]) hG dX6_comes_72 (by decide) rfl ?_
          refine z_aload_n hG dX6_comes_73 1 rfl ?_
          refine z_iconst 0 hG dX6_comes_74 (by decide) ?_
          refine z_aload_n hG dX6_comes_75 2 rfl ?_
          refine z_get (ci := 6) (C := RX6) (T := TX6) (N := 8) hG dX6_comes_76 iX6_comes_X6 3 (by decide) mX6_comes_0 rfl rfl 0 rfl rfl ?_
          obtain ⟨hg, hres⟩ := z_guard hres
          refine z_iast (ws' := ([(aM, .inr (6, [.ref aMk, .ref aMj, .int mN, .int mS, .ref aMc, .ref aMw, .int mX, .int v7.2])), (aMk, .inl (K.2 0, 12, .inl mK)), (aMj, .inl (K.2 3, 12, .inr (.inr (.inr (.inr (zo aMr 12)))))), (aMc, .inl (K.2 0, 12, .inl mC)), (aMw, .inl (K.2 0, 12, .inl mW))] ++ zR12Z K aMr mJ ++ [(q8, .inl (K.2 0, 12, .inl (upd (fun _ => 0) (0 : Int32).toNatClampNeg mS))), (q9, .inl (K.2 1, 12, .inl (fun _ => 0)))])) hG dX6_comes_79 17 rfl hg rfl ?_
          refine z_aload_n hG dX6_comes_80 0 rfl ?_
          refine z_aload_n hG dX6_comes_81 2 rfl ?_
          refine z_get (ci := 6) (C := RX6) (T := TX6) (N := 8) hG dX6_comes_82 iX6_comes_X6 3 (by decide) mX6_comes_0 rfl rfl 0 rfl rfl ?_
          refine z_iconst 1 hG dX6_comes_85 (by decide) ?_
          obtain ⟨hg, hres⟩ := z_guard hres
          refine z_zast01 (ws' := ([(aM, .inr (6, [.ref aMk, .ref aMj, .int mN, .int mS, .ref aMc, .ref aMw, .int mX, .int v7.2])), (aMk, .inl (K.2 0, 12, .inl mK)), (aMj, .inl (K.2 3, 12, .inr (.inr (.inr (.inr (zo aMr 12)))))), (aMc, .inl (K.2 0, 12, .inl mC)), (aMw, .inl (K.2 0, 12, .inl mW))] ++ zR12Z K aMr mJ ++ [(q8, .inl (K.2 0, 12, .inl (upd (fun _ => 0) (0 : Int32).toNatClampNeg mS))), (q9, .inl (K.2 1, 12, .inl (upd (fun _ => 0) mS.toNatClampNeg 1)))])) hG dX6_comes_86 18 rfl hg (by decide) rfl ?_
          refine z_iconst 1 hG dX6_comes_87 (by decide) ?_
          refine z_istore (lv' := [(4, .int 1), (3, .ref q9), (2, .ref q8), (0, .ref aM), (1, .int p0)]) hG dX6_comes_88 (by decide) rfl ?_
          refine z_iconst 0 hG dX6_comes_90 (by decide) ?_
          refine z_istore (lv' := [(5, .int 0), (4, .int 1), (3, .ref q9), (2, .ref q8), (0, .ref aM), (1, .int p0)]) hG dX6_comes_91 (by decide) rfl ?_
          obtain ⟨e26, hx, hres⟩ := z_bind hres
          refine z_lv [4, 5, 3, 2, 1, 0] (lv' := [(0, .ref aM), (1, .int p0), (2, .ref q8), (3, .ref q9), (4, .int 1), (5, .int 0)]) rfl ?_
          refine z_loop hx (fun s24 : Int32 × Int32 × (Nat → Int32) × (Nat → Int32) => [(0, .ref aM), (1, .int p0), (2, .ref q8), (3, .ref q9), (4, .int s24.1), (5, .int s24.2.1)]) (fun s24 : Int32 × Int32 × (Nat → Int32) × (Nat → Int32) => ([(aM, .inr (6, [.ref aMk, .ref aMj, .int mN, .int mS, .ref aMc, .ref aMw, .int mX, .int v7.2])), (aMk, .inl (K.2 0, 12, .inl mK)), (aMj, .inl (K.2 3, 12, .inr (.inr (.inr (.inr (zo aMr 12)))))), (aMc, .inl (K.2 0, 12, .inl mC)), (aMw, .inl (K.2 0, 12, .inl mW))] ++ zR12Z K aMr mJ ++ [(q8, .inl (K.2 0, 12, .inl s24.2.2.1)), (q9, .inl (K.2 1, 12, .inl s24.2.2.2))])) (fun e26 : Int32 × Int32 × (Nat → Int32) × (Nat → Int32) => zj G 160 [(0, .ref aM), (1, .int p0), (2, .ref q8), (3, .ref q9), (4, .int e26.1), (5, .int e26.2.1)] [] ([(aM, .inr (6, [.ref aMk, .ref aMj, .int mN, .int mS, .ref aMc, .ref aMw, .int mX, .int v7.2])), (aMk, .inl (K.2 0, 12, .inl mK)), (aMj, .inl (K.2 3, 12, .inr (.inr (.inr (.inr (zo aMr 12)))))), (aMc, .inl (K.2 0, 12, .inl mC)), (aMw, .inl (K.2 0, 12, .inl mW))] ++ zR12Z K aMr mJ ++ [(q8, .inl (K.2 0, 12, .inl e26.2.2.1)), (q9, .inl (K.2 1, 12, .inl e26.2.2.2))]) 3 36) ?_ ?_
          · refine z_aload_n hG dX6_comes_160 0 rfl ?_
            refine z_get (ci := 6) (C := RX6) (T := TX6) (N := 8) hG dX6_comes_161 iX6_comes_X6 0 (by decide) mX6_comes_6 rfl rfl 0 rfl rfl ?_
            refine z_aload_n hG dX6_comes_164 2 rfl ?_
            refine z_iload_n hG dX6_comes_165 1 rfl ?_
            obtain ⟨hg, hres⟩ := z_guard hres
            refine z_iald hG dX6_comes_166 17 rfl hg ?_
            obtain ⟨hg, hres⟩ := z_guard hres
            refine z_iald hG dX6_comes_167 1 rfl hg ?_
            obtain rfl := Option.some.inj hres
            exact (z_ws [0, 1, 2, 3, 4, 5, 6, 7, 8, 9, 10, 11, 12, 13, 14, 15, 16] rfl rfl (hR _ _ dX6_comes_168))
          · intro s24 w25 hres hX hB
            unfold sX6_comes_93 at hres
            refine z_iload hG dX6_comes_93 5 rfl ?_
            refine z_iload hG dX6_comes_95 4 rfl ?_
            refine z_icmp_ge 160 hG dX6_comes_97 (by decide) (fun c => ?_) (fun c => ?_)
            · replace hres := z_ifp c hres
              exact (hX (s24.1, s24.2.1, s24.2.2.1, s24.2.2.2) (Option.some.inj hres).symm)
            · replace hres := z_ifn c hres
              refine z_iconst 0 hG dX6_comes_100 (by decide) ?_
              refine z_istore (lv' := [(6, .int 0), (0, .ref aM), (1, .int p0), (2, .ref q8), (3, .ref q9), (4, .int s24.1), (5, .int s24.2.1)]) hG dX6_comes_101 (by decide) rfl ?_
              obtain ⟨e32, hx, hres⟩ := z_bind hres
              refine z_lv [1, 2, 3, 4, 5, 6, 0] (lv' := [(0, .ref aM), (1, .int p0), (2, .ref q8), (3, .ref q9), (4, .int s24.1), (5, .int s24.2.1), (6, .int 0)]) rfl ?_
              refine z_loop hx (fun s30 : Int32 × Int32 × (Nat → Int32) × (Nat → Int32) => [(0, .ref aM), (1, .int p0), (2, .ref q8), (3, .ref q9), (4, .int s30.1), (5, .int s24.2.1), (6, .int s30.2.1)]) (fun s30 : Int32 × Int32 × (Nat → Int32) × (Nat → Int32) => ([(aM, .inr (6, [.ref aMk, .ref aMj, .int mN, .int mS, .ref aMc, .ref aMw, .int mX, .int v7.2])), (aMk, .inl (K.2 0, 12, .inl mK)), (aMj, .inl (K.2 3, 12, .inr (.inr (.inr (.inr (zo aMr 12)))))), (aMc, .inl (K.2 0, 12, .inl mC)), (aMw, .inl (K.2 0, 12, .inl mW))] ++ zR12Z K aMr mJ ++ [(q8, .inl (K.2 0, 12, .inl s30.2.2.1)), (q9, .inl (K.2 1, 12, .inl s30.2.2.2))])) (fun e32 : Int32 × Int32 × (Nat → Int32) × (Nat → Int32) => zj G 154 [(0, .ref aM), (1, .int p0), (2, .ref q8), (3, .ref q9), (4, .int e32.1), (5, .int s24.2.1), (6, .int e32.2.1)] [] ([(aM, .inr (6, [.ref aMk, .ref aMj, .int mN, .int mS, .ref aMc, .ref aMw, .int mX, .int v7.2])), (aMk, .inl (K.2 0, 12, .inl mK)), (aMj, .inl (K.2 3, 12, .inr (.inr (.inr (.inr (zo aMr 12)))))), (aMc, .inl (K.2 0, 12, .inl mC)), (aMw, .inl (K.2 0, 12, .inl mW))] ++ zR12Z K aMr mJ ++ [(q8, .inl (K.2 0, 12, .inl e32.2.2.1)), (q9, .inl (K.2 1, 12, .inl e32.2.2.2))]) 3 36) ?_ ?_
              · refine z_iinc (s24.2.1 + 1) (lv' := [(5, .int (s24.2.1 + 1)), (0, .ref aM), (1, .int p0), (2, .ref q8), (3, .ref q9), (4, .int e32.1), (6, .int e32.2.1)]) hG dX6_comes_154 5 rfl rfl (by decide) rfl ?_
                refine z_goto 93 hG dX6_comes_157 (by decide) ?_
                exact (z_lv [1, 2, 3, 4, 5, 0] rfl (hB (e32.1, (s24.2.1 + 1), e32.2.2.1, e32.2.2.2) (Option.some.inj hres).symm))
              · intro s30 w31 hres hX hB
                unfold sX6_comes_103 at hres
                refine z_iload hG dX6_comes_103 6 rfl ?_
                refine z_aload_n hG dX6_comes_105 0 rfl ?_
                refine z_get (ci := 6) (C := RX6) (T := TX6) (N := 8) hG dX6_comes_106 iX6_comes_X6 2 (by decide) mX6_comes_2 rfl rfl 0 rfl rfl ?_
                refine z_icmp_ge 154 hG dX6_comes_109 (by decide) (fun c => ?_) (fun c => ?_)
                · replace hres := z_ifp c hres
                  exact (hX (s30.1, s30.2.1, s30.2.2.1, s30.2.2.2) (Option.some.inj hres).symm)
                · replace hres := z_ifn c hres
                  refine z_aload_n hG dX6_comes_112 0 rfl ?_
                  refine z_get (ci := 6) (C := RX6) (T := TX6) (N := 8) hG dX6_comes_113 iX6_comes_X6 1 (by decide) mX6_comes_5 rfl rfl 0 rfl rfl ?_
                  refine z_aload_n hG dX6_comes_116 2 rfl ?_
                  refine z_iload hG dX6_comes_117 5 rfl ?_
                  obtain ⟨hg, hres⟩ := z_guard hres
                  refine z_iald hG dX6_comes_119 17 rfl hg ?_
                  obtain ⟨hr34, hres⟩ := z_guard hres
                  refine z_aaldZ hG dX6_comes_120 2 rfl hr34 ?_
                  refine z_iload hG dX6_comes_121 6 rfl ?_
                  obtain ⟨hg, hres⟩ := z_guard hres
                  refine z_zaldG (M := mJ) hG dX6_comes_123 5 (z_12 rfl rfl rfl rfl rfl rfl rfl rfl rfl rfl rfl rfl) hr34 hg ?_
                  refine z_if_eq 148 hG dX6_comes_124 (by decide) (fun c => ?_) (fun c => ?_)
                  · replace hres := z_ifp c hres
                    refine z_iinc (s30.2.1 + 1) (lv' := [(6, .int (s30.2.1 + 1)), (0, .ref aM), (1, .int p0), (2, .ref q8), (3, .ref q9), (4, .int s30.1), (5, .int s24.2.1)]) hG dX6_comes_148 6 rfl rfl (by decide) rfl ?_
                    refine z_goto 103 hG dX6_comes_151 (by decide) ?_
                    exact (z_lv [1, 2, 3, 4, 5, 6, 0] rfl (hB (s30.1, (s30.2.1 + 1), s30.2.2.1, s30.2.2.2) (Option.some.inj hres).symm))
                  · replace hres := z_ifn c hres
                    refine z_aload_n hG dX6_comes_127 3 rfl ?_
                    refine z_iload hG dX6_comes_128 6 rfl ?_
                    obtain ⟨hg, hres⟩ := z_guard hres
                    refine z_zald hG dX6_comes_130 18 rfl hg ?_
                    refine z_if_ne 148 hG dX6_comes_131 (by decide) (fun c => ?_) (fun c => ?_)
                    · replace hres := z_ifn c hres
                      refine z_iinc (s30.2.1 + 1) (lv' := [(6, .int (s30.2.1 + 1)), (0, .ref aM), (1, .int p0), (2, .ref q8), (3, .ref q9), (4, .int s30.1), (5, .int s24.2.1)]) hG dX6_comes_148 6 rfl rfl (by decide) rfl ?_
                      refine z_goto 103 hG dX6_comes_151 (by decide) ?_
                      exact (z_lv [1, 2, 3, 4, 5, 6, 0] rfl (hB (s30.1, (s30.2.1 + 1), s30.2.2.1, s30.2.2.2) (Option.some.inj hres).symm))
                    · replace hres := z_ifp c hres
                      refine z_aload_n hG dX6_comes_134 3 rfl ?_
                      refine z_iload hG dX6_comes_135 6 rfl ?_
                      refine z_iconst 1 hG dX6_comes_137 (by decide) ?_
                      obtain ⟨hg, hres⟩ := z_guard hres
                      refine z_zast01 (ws' := ([(aM, .inr (6, [.ref aMk, .ref aMj, .int mN, .int mS, .ref aMc, .ref aMw, .int mX, .int v7.2])), (aMk, .inl (K.2 0, 12, .inl mK)), (aMj, .inl (K.2 3, 12, .inr (.inr (.inr (.inr (zo aMr 12)))))), (aMc, .inl (K.2 0, 12, .inl mC)), (aMw, .inl (K.2 0, 12, .inl mW))] ++ zR12Z K aMr mJ ++ [(q8, .inl (K.2 0, 12, .inl s30.2.2.1)), (q9, .inl (K.2 1, 12, .inl (upd s30.2.2.2 s30.2.1.toNatClampNeg 1)))])) hG dX6_comes_138 18 rfl hg (by decide) rfl ?_
                      refine z_aload_n hG dX6_comes_139 2 rfl ?_
                      refine z_iload hG dX6_comes_140 4 rfl ?_
                      refine z_iload hG dX6_comes_142 6 rfl ?_
                      obtain ⟨hg, hres⟩ := z_guard hres
                      refine z_iast (ws' := ([(aM, .inr (6, [.ref aMk, .ref aMj, .int mN, .int mS, .ref aMc, .ref aMw, .int mX, .int v7.2])), (aMk, .inl (K.2 0, 12, .inl mK)), (aMj, .inl (K.2 3, 12, .inr (.inr (.inr (.inr (zo aMr 12)))))), (aMc, .inl (K.2 0, 12, .inl mC)), (aMw, .inl (K.2 0, 12, .inl mW))] ++ zR12Z K aMr mJ ++ [(q8, .inl (K.2 0, 12, .inl (upd s30.2.2.1 s30.1.toNatClampNeg s30.2.1))), (q9, .inl (K.2 1, 12, .inl (upd s30.2.2.2 s30.2.1.toNatClampNeg 1)))])) hG dX6_comes_144 17 rfl hg rfl ?_
                      refine z_iinc (s30.1 + 1) (lv' := [(4, .int (s30.1 + 1)), (0, .ref aM), (1, .int p0), (2, .ref q8), (3, .ref q9), (5, .int s24.2.1), (6, .int s30.2.1)]) hG dX6_comes_145 4 rfl rfl (by decide) rfl ?_
                      refine z_iinc (s30.2.1 + 1) (lv' := [(6, .int (s30.2.1 + 1)), (4, .int (s30.1 + 1)), (0, .ref aM), (1, .int p0), (2, .ref q8), (3, .ref q9), (5, .int s24.2.1)]) hG dX6_comes_148 6 rfl rfl (by decide) rfl ?_
                      refine z_goto 103 hG dX6_comes_151 (by decide) ?_
                      exact (z_lv [2, 3, 4, 5, 1, 6, 0] rfl (hB ((s30.1 + 1), (s30.2.1 + 1), (upd s30.2.2.1 s30.1.toNatClampNeg s30.2.1), (upd s30.2.2.2 s30.2.1.toNatClampNeg 1)) (Option.some.inj hres).symm))
        · replace hres := z_ifp c hres
          refine z_iconst 0 hG dX6_comes_61 (by decide) ?_
          obtain rfl := Option.some.inj hres
          exact (z_wid (Nat.le_of_ble_eq_true rfl) (Nat.le_of_ble_eq_true rfl) (hR _ _ dX6_comes_62))
      replace hres := hv
      clear hv
      refine z_if_lt 53 hG dX6_comes_24 (by decide) (fun c => ?_) (fun c => ?_)
      · replace hres := z_ifp c hres
        refine z_iconst 0 hG dX6_comes_53 (by decide) ?_
        obtain rfl := Option.some.inj hres
        exact (z_wid (Nat.le_of_ble_eq_true rfl) (Nat.le_of_ble_eq_true rfl) J)
      · replace hres := z_ifn c hres
        refine z_iload_n hG dX6_comes_27 1 rfl ?_
        refine z_aload_n hG dX6_comes_28 0 rfl ?_
        refine z_get (ci := 6) (C := RX6) (T := TX6) (N := 8) hG dX6_comes_29 iX6_comes_X6 2 (by decide) mX6_comes_2 rfl rfl 0 rfl rfl ?_
        refine z_aload_n hG dX6_comes_32 0 rfl ?_
        refine z_aload_n hG dX6_comes_33 0 rfl ?_
        refine z_aload_n hG dX6_comes_34 0 rfl ?_
        refine z_get (ci := 6) (C := RX6) (T := TX6) (N := 8) hG dX6_comes_35 iX6_comes_X6 3 (by decide) mX6_comes_0 rfl rfl 0 rfl rfl ?_
        obtain ⟨v35, hv, hres⟩ := z_bind hres
        refine z_callV (As := [.int mS]) (rest := [.ref aM, .int mN, .int p0, .int 1, .ref aM]) (wr := ([] : va_W)) (ws' := (fun q36 : Nat => ([(aM, .inr (6, [.ref aMk, .ref aMj, .int mN, .int mS, .ref aMc, .ref aMw, .int mX, .int v2.2])), (aMk, .inl (K.2 0, 12, .inl mK)), (aMj, .inl (K.2 3, 12, .inr (.inr (.inr (.inr (zo aMr 12)))))), (aMc, .inl (K.2 0, 12, .inl mC)), (aMw, .inl (K.2 0, 12, .inl mW))] ++ zR12Z K aMr mJ ++ [(q36, .inl (K.2 0, 12, .inl v35))]))) (stk := (fun q36 : Nat => [.ref q36, .ref aM, .int mN, .int p0, .int 1, .ref aM])) (kc' := 1) (ks' := 12) (n := 1) (C := RX6) (ci := 6) hG dX6_comes_38 (kX6_lengths _ K aM aMk aMj aMc aMw aMr mN mS mX v2.2 mK mC mW mJ mS v35 hv) gX6_comes_X6_lengths rfl rfl rfl ⟨rfl, by decide, by decide, rfl⟩ ⟨by decide, by decide⟩ (Nat.le_of_ble_eq_true rfl) ⟨(Nat.le_of_ble_eq_true rfl), (Nat.le_of_ble_eq_true rfl)⟩ [0, 1, 2, 3, 4, 5, 6, 7, 8, 9, 10, 11, 12, 13, 14, 15, 16] [] [0, 1, 2, 3, 4, 5, 6, 7, 8, 9, 10, 11, 12, 13, 14, 15, 16, 17] rfl rfl rfl rfl (by decide) rfl (fun _ => rfl) (fun _ => rfl) rfl rfl rfl 0 rfl rfl rfl rfl (fun q36 => ?_)
        refine z_iconst (-1) hG dX6_comes_41 (by decide) ?_
        obtain ⟨v37, hv, hres⟩ := z_bind hres
        refine z_callV (As := [.ref q36, .int (-1)]) (rest := [.int mN, .int p0, .int 1, .ref aM]) (wr := ([(aMk, .inl (K.2 0, 12, .inl mK)), (aMj, .inl (K.2 3, 12, .inr (.inr (.inr (.inr (zo aMr 12)))))), (aMc, .inl (K.2 0, 12, .inl mC)), (aMw, .inl (K.2 0, 12, .inl mW))] ++ zR12Z K aMr mJ)) (ws' := (fun _ : Unit => ([(aM, .inr (6, [.ref aMk, .ref aMj, .int mN, .int mS, .ref aMc, .ref aMw, .int mX, .int v2.2])), (aMk, .inl (K.2 0, 12, .inl mK)), (aMj, .inl (K.2 3, 12, .inr (.inr (.inr (.inr (zo aMr 12)))))), (aMc, .inl (K.2 0, 12, .inl mC)), (aMw, .inl (K.2 0, 12, .inl mW))] ++ zR12Z K aMr mJ ++ [(q36, .inl (K.2 0, 12, .inl v35))]))) (stk := (fun _ : Unit => [.int v37, .int mN, .int p0, .int 1, .ref aM])) (kc' := 1) (ks' := 12) (n := 2) (C := RX6) (ci := 6) hG dX6_comes_42 (kX6_having _ K aM q36 aMk aMj aMc aMw mN mS mX v2.2 v35 (-1) v37 hv) gX6_comes_X6_having rfl rfl rfl ⟨rfl, by decide, by decide, rfl⟩ ⟨by decide, by decide⟩ (Nat.le_of_ble_eq_true rfl) ⟨(Nat.le_of_ble_eq_true rfl), (Nat.le_of_ble_eq_true rfl)⟩ [0, 17] [1, 2, 3, 4, 5, 6, 7, 8, 9, 10, 11, 12, 13, 14, 15, 16] [16, 0, 1, 2, 3, 4, 5, 6, 7, 8, 9, 10, 11, 12, 13, 14, 15, 17] rfl rfl rfl rfl (by decide) rfl (fun _ => rfl) (fun _ => rfl) rfl rfl rfl 0 rfl rfl rfl rfl (fun _ => ?_)
        refine z_isub hG dX6_comes_45 ?_
        refine z_icmp_ge 53 hG dX6_comes_46 (by decide) (fun c => ?_) (fun c => ?_)
        · replace hres := z_ifp c hres
          refine z_iconst 0 hG dX6_comes_53 (by decide) ?_
          obtain rfl := Option.some.inj hres
          exact (z_ws [0, 1, 2, 3, 4, 5, 6, 7, 8, 9, 10, 11, 12, 13, 14, 15, 16] rfl rfl J)
        · replace hres := z_ifn c hres
          refine z_iconst 1 hG dX6_comes_49 (by decide) ?_
          refine z_goto 54 hG dX6_comes_50 (by decide) ?_
          obtain rfl := Option.some.inj hres
          exact (z_ws [0, 1, 2, 3, 4, 5, 6, 7, 8, 9, 10, 11, 12, 13, 14, 15, 16] rfl rfl J)
  replace hres := hv
  clear hv
  refine z_if_lt 12 hG dX6_comes_5 (by decide) (fun c => ?_) (fun c => ?_)
  · replace hres := z_ifp c hres
    refine z_iconst 0 hG dX6_comes_12 (by decide) ?_
    obtain rfl := Option.some.inj hres
    exact J
  · replace hres := z_ifn c hres
    refine z_iconst 1 hG dX6_comes_8 (by decide) ?_
    refine z_goto 13 hG dX6_comes_9 (by decide) ?_
    obtain rfl := Option.some.inj hres
    exact J
