theorem dX6_turn_0 : decode cX6_turn 0 = .ok (.aload_n 0, 1) := by decide +kernel
theorem dX6_turn_1 : decode cX6_turn 1 = .ok (.aload_n 0, 1) := by decide +kernel
theorem dX6_turn_2 : decode cX6_turn 2 = .ok (.getfield 18, 3) := by decide +kernel
theorem dX6_turn_5 : decode cX6_turn 5 = .ok (.invokevirtual 52, 3) := by decide +kernel
theorem dX6_turn_8 : decode cX6_turn 8 = .ok (.astore 4, 2) := by decide +kernel
theorem dX6_turn_10 : decode cX6_turn 10 = .ok (.aload_n 0, 1) := by decide +kernel
theorem dX6_turn_11 : decode cX6_turn 11 = .ok (.getfield 15, 3) := by decide +kernel
theorem dX6_turn_14 : decode cX6_turn 14 = .ok (.iload_n 1, 1) := by decide +kernel
theorem dX6_turn_15 : decode cX6_turn 15 = .ok (.aaload, 1) := by decide +kernel
theorem dX6_turn_16 : decode cX6_turn 16 = .ok (.iload_n 2, 1) := by decide +kernel
theorem dX6_turn_17 : decode cX6_turn 17 = .ok (.iload_n 3, 1) := by decide +kernel
theorem dX6_turn_18 : decode cX6_turn 18 = .ok (.bastore, 1) := by decide +kernel
theorem dX6_turn_19 : decode cX6_turn 19 = .ok (.aload_n 0, 1) := by decide +kernel
theorem dX6_turn_20 : decode cX6_turn 20 = .ok (.getfield 15, 3) := by decide +kernel
theorem dX6_turn_23 : decode cX6_turn 23 = .ok (.iload_n 2, 1) := by decide +kernel
theorem dX6_turn_24 : decode cX6_turn 24 = .ok (.aaload, 1) := by decide +kernel
theorem dX6_turn_25 : decode cX6_turn 25 = .ok (.iload_n 1, 1) := by decide +kernel
theorem dX6_turn_26 : decode cX6_turn 26 = .ok (.iload_n 3, 1) := by decide +kernel
theorem dX6_turn_27 : decode cX6_turn 27 = .ok (.bastore, 1) := by decide +kernel
theorem dX6_turn_28 : decode cX6_turn 28 = .ok (.aload_n 0, 1) := by decide +kernel
theorem dX6_turn_29 : decode cX6_turn 29 = .ok (.aload_n 0, 1) := by decide +kernel
theorem dX6_turn_30 : decode cX6_turn 30 = .ok (.getfield 18, 3) := by decide +kernel
theorem dX6_turn_33 : decode cX6_turn 33 = .ok (.invokevirtual 52, 3) := by decide +kernel
theorem dX6_turn_36 : decode cX6_turn 36 = .ok (.astore 5, 2) := by decide +kernel
theorem dX6_turn_38 : decode cX6_turn 38 = .ok (.aload_n 0, 1) := by decide +kernel
theorem dX6_turn_39 : decode cX6_turn 39 = .ok (.iconst 0, 1) := by decide +kernel
theorem dX6_turn_40 : decode cX6_turn 40 = .ok (.putfield 46, 3) := by decide +kernel
theorem dX6_turn_43 : decode cX6_turn 43 = .ok (.iconst 0, 1) := by decide +kernel
theorem dX6_turn_44 : decode cX6_turn 44 = .ok (.istore 6, 2) := by decide +kernel
theorem dX6_turn_46 : decode cX6_turn 46 = .ok (.iload 6, 2) := by decide +kernel
theorem dX6_turn_48 : decode cX6_turn 48 = .ok (.aload_n 0, 1) := by decide +kernel
theorem dX6_turn_49 : decode cX6_turn 49 = .ok (.getfield 31, 3) := by decide +kernel
theorem dX6_turn_52 : decode cX6_turn 52 = .ok (.if_icmp .ge 62, 3) := by decide +kernel
theorem dX6_turn_55 : decode cX6_turn 55 = .ok (.aload 4, 2) := by decide +kernel
theorem dX6_turn_57 : decode cX6_turn 57 = .ok (.iload 6, 2) := by decide +kernel
theorem dX6_turn_59 : decode cX6_turn 59 = .ok (.iaload, 1) := by decide +kernel
theorem dX6_turn_60 : decode cX6_turn 60 = .ok (.aload 5, 2) := by decide +kernel
theorem dX6_turn_62 : decode cX6_turn 62 = .ok (.iload 6, 2) := by decide +kernel
theorem dX6_turn_64 : decode cX6_turn 64 = .ok (.iaload, 1) := by decide +kernel
theorem dX6_turn_65 : decode cX6_turn 65 = .ok (.if_icmp .eq 43, 3) := by decide +kernel
theorem dX6_turn_68 : decode cX6_turn 68 = .ok (.aload_n 0, 1) := by decide +kernel
theorem dX6_turn_69 : decode cX6_turn 69 = .ok (.getfield 22, 3) := by decide +kernel
theorem dX6_turn_72 : decode cX6_turn 72 = .ok (.aload_n 0, 1) := by decide +kernel
theorem dX6_turn_73 : decode cX6_turn 73 = .ok (.getfield 46, 3) := by decide +kernel
theorem dX6_turn_76 : decode cX6_turn 76 = .ok (.aload_n 0, 1) := by decide +kernel
theorem dX6_turn_77 : decode cX6_turn 77 = .ok (.getfield 9, 3) := by decide +kernel
theorem dX6_turn_80 : decode cX6_turn 80 = .ok (.iload 6, 2) := by decide +kernel
theorem dX6_turn_82 : decode cX6_turn 82 = .ok (.iaload, 1) := by decide +kernel
theorem dX6_turn_83 : decode cX6_turn 83 = .ok (.iastore, 1) := by decide +kernel
theorem dX6_turn_84 : decode cX6_turn 84 = .ok (.aload_n 0, 1) := by decide +kernel
theorem dX6_turn_85 : decode cX6_turn 85 = .ok (.getfield 25, 3) := by decide +kernel
theorem dX6_turn_88 : decode cX6_turn 88 = .ok (.aload_n 0, 1) := by decide +kernel
theorem dX6_turn_89 : decode cX6_turn 89 = .ok (.getfield 46, 3) := by decide +kernel
theorem dX6_turn_92 : decode cX6_turn 92 = .ok (.aload 4, 2) := by decide +kernel
theorem dX6_turn_94 : decode cX6_turn 94 = .ok (.iload 6, 2) := by decide +kernel
theorem dX6_turn_96 : decode cX6_turn 96 = .ok (.iaload, 1) := by decide +kernel
theorem dX6_turn_97 : decode cX6_turn 97 = .ok (.iastore, 1) := by decide +kernel
theorem dX6_turn_98 : decode cX6_turn 98 = .ok (.aload_n 0, 1) := by decide +kernel
theorem dX6_turn_99 : decode cX6_turn 99 = .ok (.dup, 1) := by decide +kernel
theorem dX6_turn_100 : decode cX6_turn 100 = .ok (.getfield 46, 3) := by decide +kernel
theorem dX6_turn_103 : decode cX6_turn 103 = .ok (.iconst 1, 1) := by decide +kernel
theorem dX6_turn_104 : decode cX6_turn 104 = .ok (.iadd, 1) := by decide +kernel
theorem dX6_turn_105 : decode cX6_turn 105 = .ok (.putfield 46, 3) := by decide +kernel
theorem dX6_turn_108 : decode cX6_turn 108 = .ok (.iinc 6 1, 3) := by decide +kernel
theorem dX6_turn_111 : decode cX6_turn 111 = .ok (.goto (-65), 3) := by decide +kernel
theorem dX6_turn_114 : decode cX6_turn 114 = .ok (.aload_n 0, 1) := by decide +kernel
theorem dX6_turn_115 : decode cX6_turn 115 = .ok (.getfield 46, 3) := by decide +kernel
theorem dX6_turn_118 : decode cX6_turn 118 = .ok (.ireturn, 1) := by decide +kernel
set_option maxRecDepth 20000 in
theorem ggX6_turn_X6_lengths : GoodIn wsX6_turn wsX6_lengths := goodIn_r _ [12, 13, 4, 2, 14, 15, 16, 17, 18, 19, 20, 21] (by decide +kernel) (by decide +kernel)
set_option maxRecDepth 20000 in
theorem gX6_turn_X6_lengths : GoodIn wsX6_turn (wsV RX6 52 RX6 yX6_lengths wsX6_lengths) := goodIn_app (goodIn_of _ (by decide +kernel)) ggX6_turn_X6_lengths
theorem mX6_turn_0 : Cond.fieldLink RX6 18 "LayerwaysModel" "start" "I" ∈ wsX6_turn := by decide +kernel
theorem iX6_turn_X6 : ∀ w ∈ u_ws RX6 TX6 8, w ∈ wsX6_turn := by decide +kernel
theorem mX6_turn_2 : Cond.fieldLink RX6 15 "LayerwaysModel" "joined" "[[Z" ∈ wsX6_turn := by decide +kernel
theorem mX6_turn_3 : Cond.fieldLink RX6 46 "LayerwaysModel" "changes" "I" ∈ wsX6_turn := by decide +kernel
theorem mX6_turn_4 : Cond.fieldLink RX6 31 "LayerwaysModel" "many" "I" ∈ wsX6_turn := by decide +kernel
theorem mX6_turn_5 : Cond.fieldLink RX6 22 "LayerwaysModel" "changed" "[I" ∈ wsX6_turn := by decide +kernel
theorem mX6_turn_6 : Cond.fieldLink RX6 9 "LayerwaysModel" "keys" "[I" ∈ wsX6_turn := by decide +kernel
theorem mX6_turn_7 : Cond.fieldLink RX6 25 "LayerwaysModel" "was" "[I" ∈ wsX6_turn := by decide +kernel
def sX6_turn_46 (mN : Int32) (mK : (Nat → Int32)) (v1 : (Nat → Int32)) (v7 : (Nat → Int32)) (s9 : Int32 × Int32 × (Nat → Int32) × (Nat → Int32)) : Option ((Int32 × Int32 × (Nat → Int32) × (Nat → Int32)) ⊕ (Int32 × Int32 × (Nat → Int32) × (Nat → Int32))) := if mN ≤ s9.1 then some (.inl (s9.1, s9.2.1, s9.2.2.1, s9.2.2.2)) else if zin s9.1 12 then if zin s9.1 12 then if (v1 s9.1.toNatClampNeg) = (v7 s9.1.toNatClampNeg) then some (.inr ((s9.1 + 1), s9.2.1, s9.2.2.1, s9.2.2.2)) else if zin s9.1 12 then if zin s9.2.1 12 then if zin s9.1 12 then if zin s9.2.1 12 then some (.inr ((s9.1 + 1), (s9.2.1 + 1), (upd s9.2.2.1 s9.2.1.toNatClampNeg (mK s9.1.toNatClampNeg)), (upd s9.2.2.2 s9.2.1.toNatClampNeg (v1 s9.1.toNatClampNeg)))) else none else none else none else none else none else none
def fX6_turn (mN : Int32) (mS : Int32) (mK : (Nat → Int32)) (mC : (Nat → Int32)) (mW : (Nat → Int32)) (mJ : (Nat → Nat → Int32)) (p0 : Int32) (p1 : Int32) (p2 : Int32) : Option (Int32 × Int32 × (Nat → Int32) × (Nat → Int32) × (Nat → Nat → Int32)) := (fX6_lengths mN mJ mS).bind fun v1 => if zin p0 12 then if zin p1 12 then if (p2 = 0 ∨ p2 = 1) then (some (zup2 mJ p0.toNatClampNeg p1.toNatClampNeg p2) : Option (Nat → Nat → Int32)).bind fun M4 => if zin p1 12 then if zin p0 12 then if (p2 = 0 ∨ p2 = 1) then (some (zup2 M4 p1.toNatClampNeg p0.toNatClampNeg p2) : Option (Nat → Nat → Int32)).bind fun M6 => (fX6_lengths mN M6 mS).bind fun v7 => (zloop (sX6_turn_46 mN mK v1 v7) 32 (0, 0, mC, mW)).bind fun e11 => some (e11.2.1, e11.2.1, e11.2.2.1, e11.2.2.2, M6) else none else none else none else none else none else none
set_option maxRecDepth 1000000 in
set_option maxHeartbeats 4000000 in
theorem kX6_turn (l : Launch) (K : zK) (aM : Nat) (aMk : Nat) (aMj : Nat) (aMc : Nat) (aMw : Nat) (aMr : (Nat → Nat))  (mN : Int32) (mS : Int32) (mX : Int32) (mT : Int32) (mK : (Nat → Int32)) (mC : (Nat → Int32)) (mW : (Nat → Int32)) (mJ : (Nat → Nat → Int32)) (p0 : Int32) (p1 : Int32) (p2 : Int32) (r : Int32 × Int32 × (Nat → Int32) × (Nat → Int32) × (Nat → Nat → Int32)) (hres : fX6_turn mN mS mK mC mW mJ p0 p1 p2 = some r) : zM l K yX6_turn wsX6_turn ({ frames := 1, cells := 2, slots := 24, locals := 25 }) [.ref aM, .int p0, .int p1, .int p2] ([(aM, .inr (6, [.ref aMk, .ref aMj, .int mN, .int mS, .ref aMc, .ref aMw, .int mX, .int mT])), (aMk, .inl (K.2 0, 12, .inl mK)), (aMj, .inl (K.2 3, 12, .inr (.inr (.inr (.inr (zo aMr 12)))))), (aMc, .inl (K.2 0, 12, .inl mC)), (aMw, .inl (K.2 0, 12, .inl mW))] ++ zR12Z K aMr mJ) (fun _ : Unit => some (.int r.1)) (fun _ : Unit => ([(aM, .inr (6, [.ref aMk, .ref aMj, .int mN, .int mS, .ref aMc, .ref aMw, .int r.2.1, .int mT])), (aMk, .inl (K.2 0, 12, .inl mK)), (aMj, .inl (K.2 3, 12, .inr (.inr (.inr (.inr (zo aMr 12)))))), (aMc, .inl (K.2 0, 12, .inl r.2.2.1)), (aMw, .inl (K.2 0, 12, .inl r.2.2.2.1))] ++ zR12Z K aMr r.2.2.2.2)) 2 24 := by
  refine zM.intI (cc := cX6_turn) (maxL := 7) (ret := (some .int)) rfl (by decide) (Nat.le_of_ble_eq_true rfl) rfl ?_
  intro G hGl hG hN hE
  have hR : ∀ (pc : Nat) (lv : zL), decode cX6_turn pc = .ok (.ireturn, 1) → zj G pc lv [.int r.1] ([(aM, .inr (6, [.ref aMk, .ref aMj, .int mN, .int mS, .ref aMc, .ref aMw, .int r.2.1, .int mT])), (aMk, .inl (K.2 0, 12, .inl mK)), (aMj, .inl (K.2 3, 12, .inr (.inr (.inr (.inr (zo aMr 12)))))), (aMc, .inl (K.2 0, 12, .inl r.2.2.1)), (aMw, .inl (K.2 0, 12, .inl r.2.2.2.1))] ++ zR12Z K aMr r.2.2.2.2) 2 24 := fun pc lv d => hE () _ rfl pc lv d
  clear hE
  unfold fX6_turn at hres
  show zj G 0 [(0, .ref aM), (1, .int p0), (2, .int p1), (3, .int p2)] [] ([(aM, .inr (6, [.ref aMk, .ref aMj, .int mN, .int mS, .ref aMc, .ref aMw, .int mX, .int mT])), (aMk, .inl (K.2 0, 12, .inl mK)), (aMj, .inl (K.2 3, 12, .inr (.inr (.inr (.inr (zo aMr 12)))))), (aMc, .inl (K.2 0, 12, .inl mC)), (aMw, .inl (K.2 0, 12, .inl mW))] ++ zR12Z K aMr mJ) 0 0
  refine z_aload_n hG dX6_turn_0 0 rfl ?_
  refine z_aload_n hG dX6_turn_1 0 rfl ?_
  refine z_get (ci := 6) (C := RX6) (T := TX6) (N := 8) hG dX6_turn_2 iX6_turn_X6 3 (by decide) mX6_turn_0 rfl rfl 0 rfl rfl ?_
  obtain ⟨v1, hv, hres⟩ := z_bind hres
  refine z_callV (As := [.int mS]) (rest := []) (wr := ([] : va_W)) (ws' := (fun q2 : Nat => ([(aM, .inr (6, [.ref aMk, .ref aMj, .int mN, .int mS, .ref aMc, .ref aMw, .int mX, .int mT])), (aMk, .inl (K.2 0, 12, .inl mK)), (aMj, .inl (K.2 3, 12, .inr (.inr (.inr (.inr (zo aMr 12)))))), (aMc, .inl (K.2 0, 12, .inl mC)), (aMw, .inl (K.2 0, 12, .inl mW))] ++ zR12Z K aMr mJ ++ [(q2, .inl (K.2 0, 12, .inl v1))]))) (stk := (fun q2 : Nat => [.ref q2])) (kc' := 1) (ks' := 12) (n := 1) (C := RX6) (ci := 6) hG dX6_turn_5 (kX6_lengths _ K aM aMk aMj aMc aMw aMr mN mS mX mT mK mC mW mJ mS v1 hv) gX6_turn_X6_lengths rfl rfl rfl ⟨rfl, by decide, by decide, rfl⟩ ⟨by decide, by decide⟩ (Nat.le_of_ble_eq_true rfl) ⟨(Nat.le_of_ble_eq_true rfl), (Nat.le_of_ble_eq_true rfl)⟩ [0, 1, 2, 3, 4, 5, 6, 7, 8, 9, 10, 11, 12, 13, 14, 15, 16] [] [0, 1, 2, 3, 4, 5, 6, 7, 8, 9, 10, 11, 12, 13, 14, 15, 16, 17] rfl rfl rfl rfl (by decide) rfl (fun _ => rfl) (fun _ => rfl) rfl rfl rfl 0 rfl rfl rfl rfl (fun q2 => ?_)
  refine z_astore (lv' := [(4, .ref q2), (0, .ref aM), (1, .int p0), (2, .int p1), (3, .int p2)]) hG dX6_turn_8 (by decide) rfl ?_
  refine z_aload_n hG dX6_turn_10 1 rfl ?_
  refine z_get (ci := 6) (C := RX6) (T := TX6) (N := 8) hG dX6_turn_11 iX6_turn_X6 1 (by decide) mX6_turn_2 rfl rfl 0 rfl rfl ?_
  refine z_iload_n hG dX6_turn_14 2 rfl ?_
  obtain ⟨hr3, hres⟩ := z_guard hres
  refine z_aaldZ hG dX6_turn_15 2 rfl hr3 ?_
  refine z_iload_n hG dX6_turn_16 3 rfl ?_
  refine z_iload_n hG dX6_turn_17 4 rfl ?_
  obtain ⟨hg, hres⟩ := z_guard hres
  obtain ⟨hg2, hres⟩ := z_guard hres
  refine z_zastG (M := mJ) (ws' := fun k => ([(aM, .inr (6, [.ref aMk, .ref aMj, .int mN, .int mS, .ref aMc, .ref aMw, .int mX, .int mT])), (aMk, .inl (K.2 0, 12, .inl mK)), (aMj, .inl (K.2 3, 12, .inr (.inr (.inr (.inr (zo aMr 12)))))), (aMc, .inl (K.2 0, 12, .inl mC)), (aMw, .inl (K.2 0, 12, .inl mW))] ++ zR12Z K aMr (zup2 mJ k p1.toNatClampNeg p2) ++ [(q2, .inl (K.2 0, 12, .inl v1))])) hG dX6_turn_18 5 (z_12 rfl rfl rfl rfl rfl rfl rfl rfl rfl rfl rfl rfl) hr3 hg hg2 (z_12 rfl rfl rfl rfl rfl rfl rfl rfl rfl rfl rfl rfl) ?_
  obtain ⟨M4, hM, hres⟩ := z_bind hres
  replace hM := Option.some.inj hM
  show zj G 19 [(4, .ref q2), (0, .ref aM), (1, .int p0), (2, .int p1), (3, .int p2)] [] ([(aM, .inr (6, [.ref aMk, .ref aMj, .int mN, .int mS, .ref aMc, .ref aMw, .int mX, .int mT])), (aMk, .inl (K.2 0, 12, .inl mK)), (aMj, .inl (K.2 3, 12, .inr (.inr (.inr (.inr (zo aMr 12)))))), (aMc, .inl (K.2 0, 12, .inl mC)), (aMw, .inl (K.2 0, 12, .inl mW))] ++ zR12Z K aMr (zup2 mJ p0.toNatClampNeg p1.toNatClampNeg p2) ++ [(q2, .inl (K.2 0, 12, .inl v1))]) 1 12
  rw [hM]
  clear hM
  refine z_aload_n hG dX6_turn_19 1 rfl ?_
  refine z_get (ci := 6) (C := RX6) (T := TX6) (N := 8) hG dX6_turn_20 iX6_turn_X6 1 (by decide) mX6_turn_2 rfl rfl 0 rfl rfl ?_
  refine z_iload_n hG dX6_turn_23 3 rfl ?_
  obtain ⟨hr5, hres⟩ := z_guard hres
  refine z_aaldZ hG dX6_turn_24 2 rfl hr5 ?_
  refine z_iload_n hG dX6_turn_25 2 rfl ?_
  refine z_iload_n hG dX6_turn_26 4 rfl ?_
  obtain ⟨hg, hres⟩ := z_guard hres
  obtain ⟨hg2, hres⟩ := z_guard hres
  refine z_zastG (M := M4) (ws' := fun k => ([(aM, .inr (6, [.ref aMk, .ref aMj, .int mN, .int mS, .ref aMc, .ref aMw, .int mX, .int mT])), (aMk, .inl (K.2 0, 12, .inl mK)), (aMj, .inl (K.2 3, 12, .inr (.inr (.inr (.inr (zo aMr 12)))))), (aMc, .inl (K.2 0, 12, .inl mC)), (aMw, .inl (K.2 0, 12, .inl mW))] ++ zR12Z K aMr (zup2 M4 k p0.toNatClampNeg p2) ++ [(q2, .inl (K.2 0, 12, .inl v1))])) hG dX6_turn_27 5 (z_12 rfl rfl rfl rfl rfl rfl rfl rfl rfl rfl rfl rfl) hr5 hg hg2 (z_12 rfl rfl rfl rfl rfl rfl rfl rfl rfl rfl rfl rfl) ?_
  obtain ⟨M6, hM, hres⟩ := z_bind hres
  replace hM := Option.some.inj hM
  show zj G 28 [(4, .ref q2), (0, .ref aM), (1, .int p0), (2, .int p1), (3, .int p2)] [] ([(aM, .inr (6, [.ref aMk, .ref aMj, .int mN, .int mS, .ref aMc, .ref aMw, .int mX, .int mT])), (aMk, .inl (K.2 0, 12, .inl mK)), (aMj, .inl (K.2 3, 12, .inr (.inr (.inr (.inr (zo aMr 12)))))), (aMc, .inl (K.2 0, 12, .inl mC)), (aMw, .inl (K.2 0, 12, .inl mW))] ++ zR12Z K aMr (zup2 M4 p1.toNatClampNeg p0.toNatClampNeg p2) ++ [(q2, .inl (K.2 0, 12, .inl v1))]) 1 12
  rw [hM]
  clear hM
  refine z_aload_n hG dX6_turn_28 1 rfl ?_
  refine z_aload_n hG dX6_turn_29 1 rfl ?_
  refine z_get (ci := 6) (C := RX6) (T := TX6) (N := 8) hG dX6_turn_30 iX6_turn_X6 3 (by decide) mX6_turn_0 rfl rfl 0 rfl rfl ?_
  obtain ⟨v7, hv, hres⟩ := z_bind hres
  refine z_callV (As := [.int mS]) (rest := []) (wr := [(q2, .inl (K.2 0, 12, .inl v1))]) (ws' := (fun q8 : Nat => ([(aM, .inr (6, [.ref aMk, .ref aMj, .int mN, .int mS, .ref aMc, .ref aMw, .int mX, .int mT])), (aMk, .inl (K.2 0, 12, .inl mK)), (aMj, .inl (K.2 3, 12, .inr (.inr (.inr (.inr (zo aMr 12)))))), (aMc, .inl (K.2 0, 12, .inl mC)), (aMw, .inl (K.2 0, 12, .inl mW))] ++ zR12Z K aMr M6 ++ [(q2, .inl (K.2 0, 12, .inl v1)), (q8, .inl (K.2 0, 12, .inl v7))]))) (stk := (fun q8 : Nat => [.ref q8])) (kc' := 2) (ks' := 24) (n := 1) (C := RX6) (ci := 6) hG dX6_turn_33 (kX6_lengths _ K aM aMk aMj aMc aMw aMr mN mS mX mT mK mC mW M6 mS v7 hv) gX6_turn_X6_lengths rfl rfl rfl ⟨rfl, by decide, by decide, rfl⟩ ⟨by decide, by decide⟩ (Nat.le_of_ble_eq_true rfl) ⟨(Nat.le_of_ble_eq_true rfl), (Nat.le_of_ble_eq_true rfl)⟩ [0, 1, 2, 3, 4, 5, 6, 7, 8, 9, 10, 11, 12, 13, 14, 15, 16] [17] [1, 2, 3, 4, 5, 6, 7, 8, 9, 10, 11, 12, 13, 14, 15, 16, 17, 0, 18] rfl rfl rfl rfl (by decide) rfl (fun _ => rfl) (fun _ => rfl) rfl rfl rfl 0 rfl rfl rfl rfl (fun q8 => ?_)
  refine z_astore (lv' := [(5, .ref q8), (4, .ref q2), (0, .ref aM), (1, .int p0), (2, .int p1), (3, .int p2)]) hG dX6_turn_36 (by decide) rfl ?_
  refine z_aload_n hG dX6_turn_38 2 rfl ?_
  refine z_iconst 0 hG dX6_turn_39 (by decide) ?_
  refine z_put (ci := 6) (C := RX6) (T := TX6) (N := 8) (ws' := ([(aM, .inr (6, [.ref aMk, .ref aMj, .int mN, .int mS, .ref aMc, .ref aMw, .int 0, .int mT])), (aMk, .inl (K.2 0, 12, .inl mK)), (aMj, .inl (K.2 3, 12, .inr (.inr (.inr (.inr (zo aMr 12)))))), (aMc, .inl (K.2 0, 12, .inl mC)), (aMw, .inl (K.2 0, 12, .inl mW))] ++ zR12Z K aMr M6 ++ [(q2, .inl (K.2 0, 12, .inl v1)), (q8, .inl (K.2 0, 12, .inl v7))])) hG dX6_turn_40 iX6_turn_X6 tyX6_ok nmX6 6 (by decide) mX6_turn_3 rfl rfl rfl rfl rfl rfl 0 rfl (Nat.le_of_ble_eq_true rfl) rfl ?_
  refine z_iconst 0 hG dX6_turn_43 (by decide) ?_
  refine z_istore (lv' := [(6, .int 0), (5, .ref q8), (4, .ref q2), (0, .ref aM), (1, .int p0), (2, .int p1), (3, .int p2)]) hG dX6_turn_44 (by decide) rfl ?_
  obtain ⟨e11, hx, hres⟩ := z_bind hres
  refine z_lv [3, 4, 5, 6, 2, 1, 0] (lv' := [(0, .ref aM), (1, .int p0), (2, .int p1), (3, .int p2), (4, .ref q2), (5, .ref q8), (6, .int 0)]) rfl ?_
  refine z_loop hx (fun s9 : Int32 × Int32 × (Nat → Int32) × (Nat → Int32) => [(0, .ref aM), (1, .int p0), (2, .int p1), (3, .int p2), (4, .ref q2), (5, .ref q8), (6, .int s9.1)]) (fun s9 : Int32 × Int32 × (Nat → Int32) × (Nat → Int32) => ([(aM, .inr (6, [.ref aMk, .ref aMj, .int mN, .int mS, .ref aMc, .ref aMw, .int s9.2.1, .int mT])), (aMk, .inl (K.2 0, 12, .inl mK)), (aMj, .inl (K.2 3, 12, .inr (.inr (.inr (.inr (zo aMr 12)))))), (aMc, .inl (K.2 0, 12, .inl s9.2.2.1)), (aMw, .inl (K.2 0, 12, .inl s9.2.2.2))] ++ zR12Z K aMr M6 ++ [(q2, .inl (K.2 0, 12, .inl v1)), (q8, .inl (K.2 0, 12, .inl v7))])) (fun e11 : Int32 × Int32 × (Nat → Int32) × (Nat → Int32) => zj G 114 [(0, .ref aM), (1, .int p0), (2, .int p1), (3, .int p2), (4, .ref q2), (5, .ref q8), (6, .int e11.1)] [] ([(aM, .inr (6, [.ref aMk, .ref aMj, .int mN, .int mS, .ref aMc, .ref aMw, .int e11.2.1, .int mT])), (aMk, .inl (K.2 0, 12, .inl mK)), (aMj, .inl (K.2 3, 12, .inr (.inr (.inr (.inr (zo aMr 12)))))), (aMc, .inl (K.2 0, 12, .inl e11.2.2.1)), (aMw, .inl (K.2 0, 12, .inl e11.2.2.2))] ++ zR12Z K aMr M6 ++ [(q2, .inl (K.2 0, 12, .inl v1)), (q8, .inl (K.2 0, 12, .inl v7))]) 2 24) ?_ ?_
  · refine z_aload_n hG dX6_turn_114 0 rfl ?_
    refine z_get (ci := 6) (C := RX6) (T := TX6) (N := 8) hG dX6_turn_115 iX6_turn_X6 6 (by decide) mX6_turn_3 rfl rfl 0 rfl rfl ?_
    obtain rfl := Option.some.inj hres
    exact (z_ws [0, 1, 2, 3, 4, 5, 6, 7, 8, 9, 10, 11, 12, 13, 14, 15, 16] rfl rfl (hR _ _ dX6_turn_118))
  · intro s9 w10 hres hX hB
    unfold sX6_turn_46 at hres
    refine z_iload hG dX6_turn_46 6 rfl ?_
    refine z_aload_n hG dX6_turn_48 0 rfl ?_
    refine z_get (ci := 6) (C := RX6) (T := TX6) (N := 8) hG dX6_turn_49 iX6_turn_X6 2 (by decide) mX6_turn_4 rfl rfl 0 rfl rfl ?_
    refine z_icmp_ge 114 hG dX6_turn_52 (by decide) (fun c => ?_) (fun c => ?_)
    · replace hres := z_ifp c hres
      exact (hX (s9.1, s9.2.1, s9.2.2.1, s9.2.2.2) (Option.some.inj hres).symm)
    · replace hres := z_ifn c hres
      refine z_aload hG dX6_turn_55 4 rfl ?_
      refine z_iload hG dX6_turn_57 6 rfl ?_
      obtain ⟨hg, hres⟩ := z_guard hres
      refine z_iald hG dX6_turn_59 17 rfl hg ?_
      refine z_aload hG dX6_turn_60 5 rfl ?_
      refine z_iload hG dX6_turn_62 6 rfl ?_
      obtain ⟨hg, hres⟩ := z_guard hres
      refine z_iald hG dX6_turn_64 18 rfl hg ?_
      refine z_icmp_eq 108 hG dX6_turn_65 (by decide) (fun c => ?_) (fun c => ?_)
      · replace hres := z_ifp c hres
        refine z_iinc (s9.1 + 1) (lv' := [(6, .int (s9.1 + 1)), (0, .ref aM), (1, .int p0), (2, .int p1), (3, .int p2), (4, .ref q2), (5, .ref q8)]) hG dX6_turn_108 6 rfl rfl (by decide) rfl ?_
        refine z_goto 46 hG dX6_turn_111 (by decide) ?_
        exact (z_lv [1, 2, 3, 4, 5, 6, 0] rfl (hB ((s9.1 + 1), s9.2.1, s9.2.2.1, s9.2.2.2) (Option.some.inj hres).symm))
      · replace hres := z_ifn c hres
        refine z_aload_n hG dX6_turn_68 0 rfl ?_
        refine z_get (ci := 6) (C := RX6) (T := TX6) (N := 8) hG dX6_turn_69 iX6_turn_X6 4 (by decide) mX6_turn_5 rfl rfl 0 rfl rfl ?_
        refine z_aload_n hG dX6_turn_72 0 rfl ?_
        refine z_get (ci := 6) (C := RX6) (T := TX6) (N := 8) hG dX6_turn_73 iX6_turn_X6 6 (by decide) mX6_turn_3 rfl rfl 0 rfl rfl ?_
        refine z_aload_n hG dX6_turn_76 0 rfl ?_
        refine z_get (ci := 6) (C := RX6) (T := TX6) (N := 8) hG dX6_turn_77 iX6_turn_X6 0 (by decide) mX6_turn_6 rfl rfl 0 rfl rfl ?_
        refine z_iload hG dX6_turn_80 6 rfl ?_
        obtain ⟨hg, hres⟩ := z_guard hres
        refine z_iald hG dX6_turn_82 1 rfl hg ?_
        obtain ⟨hg, hres⟩ := z_guard hres
        refine z_iast (ws' := ([(aM, .inr (6, [.ref aMk, .ref aMj, .int mN, .int mS, .ref aMc, .ref aMw, .int s9.2.1, .int mT])), (aMk, .inl (K.2 0, 12, .inl mK)), (aMj, .inl (K.2 3, 12, .inr (.inr (.inr (.inr (zo aMr 12)))))), (aMc, .inl (K.2 0, 12, .inl (upd s9.2.2.1 s9.2.1.toNatClampNeg (mK s9.1.toNatClampNeg)))), (aMw, .inl (K.2 0, 12, .inl s9.2.2.2))] ++ zR12Z K aMr M6 ++ [(q2, .inl (K.2 0, 12, .inl v1)), (q8, .inl (K.2 0, 12, .inl v7))])) hG dX6_turn_83 3 rfl hg rfl ?_
        refine z_aload_n hG dX6_turn_84 0 rfl ?_
        refine z_get (ci := 6) (C := RX6) (T := TX6) (N := 8) hG dX6_turn_85 iX6_turn_X6 5 (by decide) mX6_turn_7 rfl rfl 0 rfl rfl ?_
        refine z_aload_n hG dX6_turn_88 0 rfl ?_
        refine z_get (ci := 6) (C := RX6) (T := TX6) (N := 8) hG dX6_turn_89 iX6_turn_X6 6 (by decide) mX6_turn_3 rfl rfl 0 rfl rfl ?_
        refine z_aload hG dX6_turn_92 4 rfl ?_
        refine z_iload hG dX6_turn_94 6 rfl ?_
        obtain ⟨hg, hres⟩ := z_guard hres
        refine z_iald hG dX6_turn_96 17 rfl hg ?_
        obtain ⟨hg, hres⟩ := z_guard hres
        refine z_iast (ws' := ([(aM, .inr (6, [.ref aMk, .ref aMj, .int mN, .int mS, .ref aMc, .ref aMw, .int s9.2.1, .int mT])), (aMk, .inl (K.2 0, 12, .inl mK)), (aMj, .inl (K.2 3, 12, .inr (.inr (.inr (.inr (zo aMr 12)))))), (aMc, .inl (K.2 0, 12, .inl (upd s9.2.2.1 s9.2.1.toNatClampNeg (mK s9.1.toNatClampNeg)))), (aMw, .inl (K.2 0, 12, .inl (upd s9.2.2.2 s9.2.1.toNatClampNeg (v1 s9.1.toNatClampNeg))))] ++ zR12Z K aMr M6 ++ [(q2, .inl (K.2 0, 12, .inl v1)), (q8, .inl (K.2 0, 12, .inl v7))])) hG dX6_turn_97 4 rfl hg rfl ?_
        refine z_aload_n hG dX6_turn_98 0 rfl ?_
        refine z_dup hG dX6_turn_99 rfl ?_
        refine z_get (ci := 6) (C := RX6) (T := TX6) (N := 8) hG dX6_turn_100 iX6_turn_X6 6 (by decide) mX6_turn_3 rfl rfl 0 rfl rfl ?_
        refine z_iconst 1 hG dX6_turn_103 (by decide) ?_
        refine z_iadd hG dX6_turn_104 ?_
        refine z_put (ci := 6) (C := RX6) (T := TX6) (N := 8) (ws' := ([(aM, .inr (6, [.ref aMk, .ref aMj, .int mN, .int mS, .ref aMc, .ref aMw, .int (s9.2.1 + 1), .int mT])), (aMk, .inl (K.2 0, 12, .inl mK)), (aMj, .inl (K.2 3, 12, .inr (.inr (.inr (.inr (zo aMr 12)))))), (aMc, .inl (K.2 0, 12, .inl (upd s9.2.2.1 s9.2.1.toNatClampNeg (mK s9.1.toNatClampNeg)))), (aMw, .inl (K.2 0, 12, .inl (upd s9.2.2.2 s9.2.1.toNatClampNeg (v1 s9.1.toNatClampNeg))))] ++ zR12Z K aMr M6 ++ [(q2, .inl (K.2 0, 12, .inl v1)), (q8, .inl (K.2 0, 12, .inl v7))])) hG dX6_turn_105 iX6_turn_X6 tyX6_ok nmX6 6 (by decide) mX6_turn_3 rfl rfl rfl rfl rfl rfl 0 rfl (Nat.le_of_ble_eq_true rfl) rfl ?_
        refine z_iinc (s9.1 + 1) (lv' := [(6, .int (s9.1 + 1)), (0, .ref aM), (1, .int p0), (2, .int p1), (3, .int p2), (4, .ref q2), (5, .ref q8)]) hG dX6_turn_108 6 rfl rfl (by decide) rfl ?_
        refine z_goto 46 hG dX6_turn_111 (by decide) ?_
        exact (z_lv [1, 2, 3, 4, 5, 6, 0] rfl (hB ((s9.1 + 1), (s9.2.1 + 1), (upd s9.2.2.1 s9.2.1.toNatClampNeg (mK s9.1.toNatClampNeg)), (upd s9.2.2.2 s9.2.1.toNatClampNeg (v1 s9.1.toNatClampNeg))) (Option.some.inj hres).symm))

theorem dX6_street_0 : decode cX6_street 0 = .ok (.aload_n 0, 1) := by decide +kernel
theorem dX6_street_1 : decode cX6_street 1 = .ok (.aload_n 0, 1) := by decide +kernel
theorem dX6_street_2 : decode cX6_street 2 = .ok (.iload_n 1, 1) := by decide +kernel
theorem dX6_street_3 : decode cX6_street 3 = .ok (.invokevirtual 38, 3) := by decide +kernel
theorem dX6_street_6 : decode cX6_street 6 = .ok (.ifCond .eq 15, 3) := by decide +kernel
theorem dX6_street_9 : decode cX6_street 9 = .ok (.aload_n 0, 1) := by decide +kernel
theorem dX6_street_10 : decode cX6_street 10 = .ok (.iload_n 2, 1) := by decide +kernel
theorem dX6_street_11 : decode cX6_street 11 = .ok (.invokevirtual 38, 3) := by decide +kernel
theorem dX6_street_14 : decode cX6_street 14 = .ok (.ifCond .eq 7, 3) := by decide +kernel
theorem dX6_street_17 : decode cX6_street 17 = .ok (.iconst 1, 1) := by decide +kernel
theorem dX6_street_18 : decode cX6_street 18 = .ok (.goto 4, 3) := by decide +kernel
theorem dX6_street_21 : decode cX6_street 21 = .ok (.iconst 0, 1) := by decide +kernel
theorem dX6_street_22 : decode cX6_street 22 = .ok (.iload_n 1, 1) := by decide +kernel
theorem dX6_street_23 : decode cX6_street 23 = .ok (.iload_n 2, 1) := by decide +kernel
theorem dX6_street_24 : decode cX6_street 24 = .ok (.if_icmp .eq 7, 3) := by decide +kernel
theorem dX6_street_27 : decode cX6_street 27 = .ok (.iconst 1, 1) := by decide +kernel
theorem dX6_street_28 : decode cX6_street 28 = .ok (.goto 4, 3) := by decide +kernel
theorem dX6_street_31 : decode cX6_street 31 = .ok (.iconst 0, 1) := by decide +kernel
theorem dX6_street_32 : decode cX6_street 32 = .ok (.iconst 1, 1) := by decide +kernel
theorem dX6_street_33 : decode cX6_street 33 = .ok (.invokevirtual 42, 3) := by decide +kernel
theorem dX6_street_36 : decode cX6_street 36 = .ok (.ifCond .eq 36, 3) := by decide +kernel
theorem dX6_street_39 : decode cX6_street 39 = .ok (.aload_n 0, 1) := by decide +kernel
theorem dX6_street_40 : decode cX6_street 40 = .ok (.iconst 1, 1) := by decide +kernel
theorem dX6_street_41 : decode cX6_street 41 = .ok (.iconst 1, 1) := by decide +kernel
theorem dX6_street_42 : decode cX6_street 42 = .ok (.aload_n 0, 1) := by decide +kernel
theorem dX6_street_43 : decode cX6_street 43 = .ok (.getfield 15, 3) := by decide +kernel
theorem dX6_street_46 : decode cX6_street 46 = .ok (.aload_n 0, 1) := by decide +kernel
theorem dX6_street_47 : decode cX6_street 47 = .ok (.iload_n 1, 1) := by decide +kernel
theorem dX6_street_48 : decode cX6_street 48 = .ok (.invokevirtual 34, 3) := by decide +kernel
theorem dX6_street_51 : decode cX6_street 51 = .ok (.aaload, 1) := by decide +kernel
theorem dX6_street_52 : decode cX6_street 52 = .ok (.aload_n 0, 1) := by decide +kernel
theorem dX6_street_53 : decode cX6_street 53 = .ok (.iload_n 2, 1) := by decide +kernel
theorem dX6_street_54 : decode cX6_street 54 = .ok (.invokevirtual 34, 3) := by decide +kernel
theorem dX6_street_57 : decode cX6_street 57 = .ok (.baload, 1) := by decide +kernel
theorem dX6_street_58 : decode cX6_street 58 = .ok (.ifCond .ne 7, 3) := by decide +kernel
theorem dX6_street_61 : decode cX6_street 61 = .ok (.iconst 1, 1) := by decide +kernel
theorem dX6_street_62 : decode cX6_street 62 = .ok (.goto 4, 3) := by decide +kernel
theorem dX6_street_65 : decode cX6_street 65 = .ok (.iconst 0, 1) := by decide +kernel
theorem dX6_street_66 : decode cX6_street 66 = .ok (.invokevirtual 42, 3) := by decide +kernel
theorem dX6_street_69 : decode cX6_street 69 = .ok (.ifCond .ne 5, 3) := by decide +kernel
theorem dX6_street_72 : decode cX6_street 72 = .ok (.iconst 0, 1) := by decide +kernel
theorem dX6_street_73 : decode cX6_street 73 = .ok (.ireturn, 1) := by decide +kernel
theorem dX6_street_74 : decode cX6_street 74 = .ok (.aload_n 0, 1) := by decide +kernel
theorem dX6_street_75 : decode cX6_street 75 = .ok (.aload_n 0, 1) := by decide +kernel
theorem dX6_street_76 : decode cX6_street 76 = .ok (.iload_n 1, 1) := by decide +kernel
theorem dX6_street_77 : decode cX6_street 77 = .ok (.invokevirtual 34, 3) := by decide +kernel
theorem dX6_street_80 : decode cX6_street 80 = .ok (.aload_n 0, 1) := by decide +kernel
theorem dX6_street_81 : decode cX6_street 81 = .ok (.iload_n 2, 1) := by decide +kernel
theorem dX6_street_82 : decode cX6_street 82 = .ok (.invokevirtual 34, 3) := by decide +kernel
theorem dX6_street_85 : decode cX6_street 85 = .ok (.iconst 1, 1) := by decide +kernel
theorem dX6_street_86 : decode cX6_street 86 = .ok (.invokevirtual 56, 3) := by decide +kernel
theorem dX6_street_89 : decode cX6_street 89 = .ok (.ireturn, 1) := by decide +kernel
set_option maxRecDepth 20000 in
theorem ggX6_street_X6_is : GoodIn wsX6_street wsX6_is := goodIn_r _ [6, 7, 8, 9, 5, 10, 11, 12, 31, 32, 33, 34, 35, 36, 37, 38] (by decide +kernel) (by decide +kernel)
set_option maxRecDepth 20000 in
theorem gX6_street_X6_is : GoodIn wsX6_street (wsV RX6 38 RX6 yX6_is wsX6_is) := goodIn_app (goodIn_of _ (by decide +kernel)) ggX6_street_X6_is
set_option maxRecDepth 20000 in
theorem ggX6_street_X6_can : GoodIn wsX6_street wsX6_can := goodIn_r _ [16, 17, 31, 32, 33, 34, 35, 36, 37, 38] (by decide +kernel) (by decide +kernel)
set_option maxRecDepth 20000 in
theorem gX6_street_X6_can : GoodIn wsX6_street (wsV RX6 42 RX6 yX6_can wsX6_can) := goodIn_app (goodIn_of _ (by decide +kernel)) ggX6_street_X6_can
set_option maxRecDepth 20000 in
theorem ggX6_street_X6_at : GoodIn wsX6_street wsX6_at := goodIn_r _ [10, 11, 12, 31, 32, 33, 34, 35, 36, 37, 38] (by decide +kernel) (by decide +kernel)
set_option maxRecDepth 20000 in
theorem gX6_street_X6_at : GoodIn wsX6_street (wsV RX6 34 RX6 yX6_at wsX6_at) := goodIn_app (goodIn_of _ (by decide +kernel)) ggX6_street_X6_at
set_option maxRecDepth 20000 in
theorem ggX6_street_X6_turn : GoodIn wsX6_street wsX6_turn := goodIn_r _ [21, 22, 1, 23, 11, 24, 12, 25, 26, 27, 28, 5, 29, 30, 31, 32, 33, 34, 35, 36, 37, 38] (by decide +kernel) (by decide +kernel)
set_option maxRecDepth 20000 in
theorem gX6_street_X6_turn : GoodIn wsX6_street (wsV RX6 56 RX6 yX6_turn wsX6_turn) := goodIn_app (goodIn_of _ (by decide +kernel)) ggX6_street_X6_turn
theorem mX6_street_0 : Cond.fieldLink RX6 15 "LayerwaysModel" "joined" "[[Z" ∈ wsX6_street := by decide +kernel
theorem iX6_street_X6 : ∀ w ∈ u_ws RX6 TX6 8, w ∈ wsX6_street := by decide +kernel
def fX6_street (mN : Int32) (mS : Int32) (mX : Int32) (mK : (Nat → Int32)) (mC : (Nat → Int32)) (mW : (Nat → Int32)) (mJ : (Nat → Nat → Int32)) (p0 : Int32) (p1 : Int32) : Option (Int32 × Int32 × Int32 × (Nat → Int32) × (Nat → Int32) × (Nat → Nat → Int32)) := (fX6_is mN mK p0).bind fun v1 => ((if v1 = 0 then some 0 else (fX6_is mN mK p1).bind fun v14 => if v14 = 0 then some 0 else some 1) : Option Int32).bind fun v3 => ((if p0 = p1 then some 0 else some 1) : Option Int32).bind fun v4 => (fX6_can v3 v4 1).bind fun v5 => if v5.1 = 0 then some (0, mX, v5.2, mC, mW, mJ) else (fX6_at mN mK p0).bind fun v6 => if zin v6 12 then (fX6_at mN mK p1).bind fun v8 => if zin v8 12 then ((if (mJ v6.toNatClampNeg v8.toNatClampNeg) = 0 then some 1 else some 0) : Option Int32).bind fun v9 => (fX6_can 1 1 v9).bind fun v10 => if v10.1 = 0 then some (0, mX, v10.2, mC, mW, mJ) else (fX6_at mN mK p0).bind fun v11 => (fX6_at mN mK p1).bind fun v12 => (fX6_turn mN mS mK mC mW mJ v11 v12 1).bind fun v13 => some (v13.1, v13.2.1, v10.2, v13.2.2.1, v13.2.2.2.1, v13.2.2.2.2) else none else none
set_option maxRecDepth 100000 in
set_option maxHeartbeats 4000000 in
theorem kX6_street (l : Launch) (K : zK) (aM : Nat) (aMk : Nat) (aMj : Nat) (aMc : Nat) (aMw : Nat) (aMr : (Nat → Nat))  (mN : Int32) (mS : Int32) (mX : Int32) (mT : Int32) (mK : (Nat → Int32)) (mC : (Nat → Int32)) (mW : (Nat → Int32)) (mJ : (Nat → Nat → Int32)) (p0 : Int32) (p1 : Int32) (r : Int32 × Int32 × Int32 × (Nat → Int32) × (Nat → Int32) × (Nat → Nat → Int32)) (hres : fX6_street mN mS mX mK mC mW mJ p0 p1 = some r) : zM l K yX6_street wsX6_street ({ frames := 2, cells := 2, slots := 24, locals := 51 }) [.ref aM, .int p0, .int p1] ([(aM, .inr (6, [.ref aMk, .ref aMj, .int mN, .int mS, .ref aMc, .ref aMw, .int mX, .int mT])), (aMk, .inl (K.2 0, 12, .inl mK)), (aMj, .inl (K.2 3, 12, .inr (.inr (.inr (.inr (zo aMr 12)))))), (aMc, .inl (K.2 0, 12, .inl mC)), (aMw, .inl (K.2 0, 12, .inl mW))] ++ zR12Z K aMr mJ) (fun _ : Unit => some (.int r.1)) (fun _ : Unit => ([(aM, .inr (6, [.ref aMk, .ref aMj, .int mN, .int mS, .ref aMc, .ref aMw, .int r.2.1, .int r.2.2.1])), (aMk, .inl (K.2 0, 12, .inl mK)), (aMj, .inl (K.2 3, 12, .inr (.inr (.inr (.inr (zo aMr 12)))))), (aMc, .inl (K.2 0, 12, .inl r.2.2.2.1)), (aMw, .inl (K.2 0, 12, .inl r.2.2.2.2.1))] ++ zR12Z K aMr r.2.2.2.2.2)) 2 24 := by
  refine zM.intI (cc := cX6_street) (maxL := 3) (ret := (some .int)) rfl (by decide) (Nat.le_of_ble_eq_true rfl) rfl ?_
  intro G hGl hG hN hE
  have hR : ∀ (pc : Nat) (lv : zL), decode cX6_street pc = .ok (.ireturn, 1) → zj G pc lv [.int r.1] ([(aM, .inr (6, [.ref aMk, .ref aMj, .int mN, .int mS, .ref aMc, .ref aMw, .int r.2.1, .int r.2.2.1])), (aMk, .inl (K.2 0, 12, .inl mK)), (aMj, .inl (K.2 3, 12, .inr (.inr (.inr (.inr (zo aMr 12)))))), (aMc, .inl (K.2 0, 12, .inl r.2.2.2.1)), (aMw, .inl (K.2 0, 12, .inl r.2.2.2.2.1))] ++ zR12Z K aMr r.2.2.2.2.2) 2 24 := fun pc lv d => hE () _ rfl pc lv d
  clear hE
  unfold fX6_street at hres
  show zj G 0 [(0, .ref aM), (1, .int p0), (2, .int p1)] [] ([(aM, .inr (6, [.ref aMk, .ref aMj, .int mN, .int mS, .ref aMc, .ref aMw, .int mX, .int mT])), (aMk, .inl (K.2 0, 12, .inl mK)), (aMj, .inl (K.2 3, 12, .inr (.inr (.inr (.inr (zo aMr 12)))))), (aMc, .inl (K.2 0, 12, .inl mC)), (aMw, .inl (K.2 0, 12, .inl mW))] ++ zR12Z K aMr mJ) 0 0
  refine z_aload_n hG dX6_street_0 0 rfl ?_
  refine z_aload_n hG dX6_street_1 0 rfl ?_
  refine z_iload_n hG dX6_street_2 1 rfl ?_
  obtain ⟨v1, hv, hres⟩ := z_bind hres
  refine z_callV (As := [.int p0]) (rest := [.ref aM]) (wr := ([] : va_W)) (ws' := (fun _ : Unit => ([(aM, .inr (6, [.ref aMk, .ref aMj, .int mN, .int mS, .ref aMc, .ref aMw, .int mX, .int mT])), (aMk, .inl (K.2 0, 12, .inl mK)), (aMj, .inl (K.2 3, 12, .inr (.inr (.inr (.inr (zo aMr 12)))))), (aMc, .inl (K.2 0, 12, .inl mC)), (aMw, .inl (K.2 0, 12, .inl mW))] ++ zR12Z K aMr mJ))) (stk := (fun _ : Unit => [.int v1, .ref aM])) (kc' := 0) (ks' := 0) (n := 1) (C := RX6) (ci := 6) hG dX6_street_3 (kX6_is _ K aM aMk aMj aMc aMw aMr mN mS mX mT mK mC mW mJ p0 v1 hv) gX6_street_X6_is rfl rfl rfl ⟨rfl, by decide, by decide, rfl⟩ ⟨by decide, by decide⟩ (Nat.le_of_ble_eq_true rfl) ⟨(Nat.le_of_ble_eq_true rfl), (Nat.le_of_ble_eq_true rfl)⟩ [0, 1, 2, 3, 4, 5, 6, 7, 8, 9, 10, 11, 12, 13, 14, 15, 16] [] [0, 1, 2, 3, 4, 5, 6, 7, 8, 9, 10, 11, 12, 13, 14, 15, 16] rfl rfl rfl rfl (by decide) rfl (fun _ => rfl) (fun _ => rfl) rfl rfl rfl 0 rfl rfl rfl rfl (fun _ => ?_)
  obtain ⟨v3, hv, hres⟩ := z_bind hres
  have J : zj G 22 [(0, .ref aM), (1, .int p0), (2, .int p1)] [.int v3, .ref aM] ([(aM, .inr (6, [.ref aMk, .ref aMj, .int mN, .int mS, .ref aMc, .ref aMw, .int mX, .int mT])), (aMk, .inl (K.2 0, 12, .inl mK)), (aMj, .inl (K.2 3, 12, .inr (.inr (.inr (.inr (zo aMr 12)))))), (aMc, .inl (K.2 0, 12, .inl mC)), (aMw, .inl (K.2 0, 12, .inl mW))] ++ zR12Z K aMr mJ) 0 0 := by
    refine z_iload_n hG dX6_street_22 1 rfl ?_
    refine z_iload_n hG dX6_street_23 2 rfl ?_
    obtain ⟨v4, hv, hres⟩ := z_bind hres
    have J : zj G 32 [(0, .ref aM), (1, .int p0), (2, .int p1)] [.int v4, .int v3, .ref aM] ([(aM, .inr (6, [.ref aMk, .ref aMj, .int mN, .int mS, .ref aMc, .ref aMw, .int mX, .int mT])), (aMk, .inl (K.2 0, 12, .inl mK)), (aMj, .inl (K.2 3, 12, .inr (.inr (.inr (.inr (zo aMr 12)))))), (aMc, .inl (K.2 0, 12, .inl mC)), (aMw, .inl (K.2 0, 12, .inl mW))] ++ zR12Z K aMr mJ) 0 0 := by
      refine z_iconst 1 hG dX6_street_32 (by decide) ?_
      obtain ⟨v5, hv, hres⟩ := z_bind hres
      refine z_callV (As := [.int v3, .int v4, .int 1]) (rest := []) (wr := ([(aMk, .inl (K.2 0, 12, .inl mK)), (aMj, .inl (K.2 3, 12, .inr (.inr (.inr (.inr (zo aMr 12)))))), (aMc, .inl (K.2 0, 12, .inl mC)), (aMw, .inl (K.2 0, 12, .inl mW))] ++ zR12Z K aMr mJ)) (ws' := (fun _ : Unit => ([(aM, .inr (6, [.ref aMk, .ref aMj, .int mN, .int mS, .ref aMc, .ref aMw, .int mX, .int v5.2])), (aMk, .inl (K.2 0, 12, .inl mK)), (aMj, .inl (K.2 3, 12, .inr (.inr (.inr (.inr (zo aMr 12)))))), (aMc, .inl (K.2 0, 12, .inl mC)), (aMw, .inl (K.2 0, 12, .inl mW))] ++ zR12Z K aMr mJ))) (stk := (fun _ : Unit => [.int v5.1])) (kc' := 0) (ks' := 0) (n := 3) (C := RX6) (ci := 6) hG dX6_street_33 (kX6_can _ K aM aMk aMj aMc aMw mN mS mX mT v3 v4 1 v5 hv) gX6_street_X6_can rfl rfl rfl ⟨rfl, by decide, by decide, rfl⟩ ⟨by decide, by decide⟩ (Nat.le_of_ble_eq_true rfl) ⟨(Nat.le_of_ble_eq_true rfl), (Nat.le_of_ble_eq_true rfl)⟩ [0] [1, 2, 3, 4, 5, 6, 7, 8, 9, 10, 11, 12, 13, 14, 15, 16] [16, 0, 1, 2, 3, 4, 5, 6, 7, 8, 9, 10, 11, 12, 13, 14, 15] rfl rfl rfl rfl (by decide) rfl (fun _ => rfl) (fun _ => rfl) rfl rfl rfl 0 rfl rfl rfl rfl (fun _ => ?_)
      refine z_if_eq 72 hG dX6_street_36 (by decide) (fun c => ?_) (fun c => ?_)
      · replace hres := z_ifp c hres
        refine z_iconst 0 hG dX6_street_72 (by decide) ?_
        obtain rfl := Option.some.inj hres
        exact (z_wid (Nat.le_of_ble_eq_true rfl) (Nat.le_of_ble_eq_true rfl) (hR _ _ dX6_street_73))
      · replace hres := z_ifn c hres
        refine z_aload_n hG dX6_street_39 0 rfl ?_
        refine z_iconst 1 hG dX6_street_40 (by decide) ?_
        refine z_iconst 1 hG dX6_street_41 (by decide) ?_
        refine z_aload_n hG dX6_street_42 0 rfl ?_
        refine z_get (ci := 6) (C := RX6) (T := TX6) (N := 8) hG dX6_street_43 iX6_street_X6 1 (by decide) mX6_street_0 rfl rfl 0 rfl rfl ?_
        refine z_aload_n hG dX6_street_46 0 rfl ?_
        refine z_iload_n hG dX6_street_47 1 rfl ?_
        obtain ⟨v6, hv, hres⟩ := z_bind hres
        refine z_callV (As := [.int p0]) (rest := [.ref aMj, .int 1, .int 1, .ref aM]) (wr := ([] : va_W)) (ws' := (fun _ : Unit => ([(aM, .inr (6, [.ref aMk, .ref aMj, .int mN, .int mS, .ref aMc, .ref aMw, .int mX, .int v5.2])), (aMk, .inl (K.2 0, 12, .inl mK)), (aMj, .inl (K.2 3, 12, .inr (.inr (.inr (.inr (zo aMr 12)))))), (aMc, .inl (K.2 0, 12, .inl mC)), (aMw, .inl (K.2 0, 12, .inl mW))] ++ zR12Z K aMr mJ))) (stk := (fun _ : Unit => [.int v6, .ref aMj, .int 1, .int 1, .ref aM])) (kc' := 0) (ks' := 0) (n := 1) (C := RX6) (ci := 6) hG dX6_street_48 (kX6_at _ K aM aMk aMj aMc aMw aMr mN mS mX v5.2 mK mC mW mJ p0 v6 hv) gX6_street_X6_at rfl rfl rfl ⟨rfl, by decide, by decide, rfl⟩ ⟨by decide, by decide⟩ (Nat.le_of_ble_eq_true rfl) ⟨(Nat.le_of_ble_eq_true rfl), (Nat.le_of_ble_eq_true rfl)⟩ [0, 1, 2, 3, 4, 5, 6, 7, 8, 9, 10, 11, 12, 13, 14, 15, 16] [] [0, 1, 2, 3, 4, 5, 6, 7, 8, 9, 10, 11, 12, 13, 14, 15, 16] rfl rfl rfl rfl (by decide) rfl (fun _ => rfl) (fun _ => rfl) rfl rfl rfl 0 rfl rfl rfl rfl (fun _ => ?_)
        obtain ⟨hr7, hres⟩ := z_guard hres
        refine z_aaldZ hG dX6_street_51 2 rfl hr7 ?_
        refine z_aload_n hG dX6_street_52 0 rfl ?_
        refine z_iload_n hG dX6_street_53 2 rfl ?_
        obtain ⟨v8, hv, hres⟩ := z_bind hres
        refine z_callV (As := [.int p1]) (rest := [.ref (aMr v6.toNatClampNeg), .int 1, .int 1, .ref aM]) (wr := ([] : va_W)) (ws' := (fun _ : Unit => ([(aM, .inr (6, [.ref aMk, .ref aMj, .int mN, .int mS, .ref aMc, .ref aMw, .int mX, .int v5.2])), (aMk, .inl (K.2 0, 12, .inl mK)), (aMj, .inl (K.2 3, 12, .inr (.inr (.inr (.inr (zo aMr 12)))))), (aMc, .inl (K.2 0, 12, .inl mC)), (aMw, .inl (K.2 0, 12, .inl mW))] ++ zR12Z K aMr mJ))) (stk := (fun _ : Unit => [.int v8, .ref (aMr v6.toNatClampNeg), .int 1, .int 1, .ref aM])) (kc' := 0) (ks' := 0) (n := 1) (C := RX6) (ci := 6) hG dX6_street_54 (kX6_at _ K aM aMk aMj aMc aMw aMr mN mS mX v5.2 mK mC mW mJ p1 v8 hv) gX6_street_X6_at rfl rfl rfl ⟨rfl, by decide, by decide, rfl⟩ ⟨by decide, by decide⟩ (Nat.le_of_ble_eq_true rfl) ⟨(Nat.le_of_ble_eq_true rfl), (Nat.le_of_ble_eq_true rfl)⟩ [0, 1, 2, 3, 4, 5, 6, 7, 8, 9, 10, 11, 12, 13, 14, 15, 16] [] [0, 1, 2, 3, 4, 5, 6, 7, 8, 9, 10, 11, 12, 13, 14, 15, 16] rfl rfl rfl rfl (by decide) rfl (fun _ => rfl) (fun _ => rfl) rfl rfl rfl 0 rfl rfl rfl rfl (fun _ => ?_)
        obtain ⟨hg, hres⟩ := z_guard hres
        refine z_zaldG (M := mJ) hG dX6_street_57 5 (z_12 rfl rfl rfl rfl rfl rfl rfl rfl rfl rfl rfl rfl) hr7 hg ?_
        obtain ⟨v9, hv, hres⟩ := z_bind hres
        have J : zj G 66 [(0, .ref aM), (1, .int p0), (2, .int p1)] [.int v9, .int 1, .int 1, .ref aM] ([(aM, .inr (6, [.ref aMk, .ref aMj, .int mN, .int mS, .ref aMc, .ref aMw, .int mX, .int v5.2])), (aMk, .inl (K.2 0, 12, .inl mK)), (aMj, .inl (K.2 3, 12, .inr (.inr (.inr (.inr (zo aMr 12)))))), (aMc, .inl (K.2 0, 12, .inl mC)), (aMw, .inl (K.2 0, 12, .inl mW))] ++ zR12Z K aMr mJ) 0 0 := by
          obtain ⟨v10, hv, hres⟩ := z_bind hres
          refine z_callV (As := [.int 1, .int 1, .int v9]) (rest := []) (wr := ([(aMk, .inl (K.2 0, 12, .inl mK)), (aMj, .inl (K.2 3, 12, .inr (.inr (.inr (.inr (zo aMr 12)))))), (aMc, .inl (K.2 0, 12, .inl mC)), (aMw, .inl (K.2 0, 12, .inl mW))] ++ zR12Z K aMr mJ)) (ws' := (fun _ : Unit => ([(aM, .inr (6, [.ref aMk, .ref aMj, .int mN, .int mS, .ref aMc, .ref aMw, .int mX, .int v10.2])), (aMk, .inl (K.2 0, 12, .inl mK)), (aMj, .inl (K.2 3, 12, .inr (.inr (.inr (.inr (zo aMr 12)))))), (aMc, .inl (K.2 0, 12, .inl mC)), (aMw, .inl (K.2 0, 12, .inl mW))] ++ zR12Z K aMr mJ))) (stk := (fun _ : Unit => [.int v10.1])) (kc' := 0) (ks' := 0) (n := 3) (C := RX6) (ci := 6) hG dX6_street_66 (kX6_can _ K aM aMk aMj aMc aMw mN mS mX v5.2 1 1 v9 v10 hv) gX6_street_X6_can rfl rfl rfl ⟨rfl, by decide, by decide, rfl⟩ ⟨by decide, by decide⟩ (Nat.le_of_ble_eq_true rfl) ⟨(Nat.le_of_ble_eq_true rfl), (Nat.le_of_ble_eq_true rfl)⟩ [0] [1, 2, 3, 4, 5, 6, 7, 8, 9, 10, 11, 12, 13, 14, 15, 16] [16, 0, 1, 2, 3, 4, 5, 6, 7, 8, 9, 10, 11, 12, 13, 14, 15] rfl rfl rfl rfl (by decide) rfl (fun _ => rfl) (fun _ => rfl) rfl rfl rfl 0 rfl rfl rfl rfl (fun _ => ?_)
          refine z_if_ne 74 hG dX6_street_69 (by decide) (fun c => ?_) (fun c => ?_)
          · replace hres := z_ifn c hres
            refine z_aload_n hG dX6_street_74 0 rfl ?_
            refine z_aload_n hG dX6_street_75 0 rfl ?_
            refine z_iload_n hG dX6_street_76 1 rfl ?_
            obtain ⟨v11, hv, hres⟩ := z_bind hres
            refine z_callV (As := [.int p0]) (rest := [.ref aM]) (wr := ([] : va_W)) (ws' := (fun _ : Unit => ([(aM, .inr (6, [.ref aMk, .ref aMj, .int mN, .int mS, .ref aMc, .ref aMw, .int mX, .int v10.2])), (aMk, .inl (K.2 0, 12, .inl mK)), (aMj, .inl (K.2 3, 12, .inr (.inr (.inr (.inr (zo aMr 12)))))), (aMc, .inl (K.2 0, 12, .inl mC)), (aMw, .inl (K.2 0, 12, .inl mW))] ++ zR12Z K aMr mJ))) (stk := (fun _ : Unit => [.int v11, .ref aM])) (kc' := 0) (ks' := 0) (n := 1) (C := RX6) (ci := 6) hG dX6_street_77 (kX6_at _ K aM aMk aMj aMc aMw aMr mN mS mX v10.2 mK mC mW mJ p0 v11 hv) gX6_street_X6_at rfl rfl rfl ⟨rfl, by decide, by decide, rfl⟩ ⟨by decide, by decide⟩ (Nat.le_of_ble_eq_true rfl) ⟨(Nat.le_of_ble_eq_true rfl), (Nat.le_of_ble_eq_true rfl)⟩ [0, 1, 2, 3, 4, 5, 6, 7, 8, 9, 10, 11, 12, 13, 14, 15, 16] [] [0, 1, 2, 3, 4, 5, 6, 7, 8, 9, 10, 11, 12, 13, 14, 15, 16] rfl rfl rfl rfl (by decide) rfl (fun _ => rfl) (fun _ => rfl) rfl rfl rfl 0 rfl rfl rfl rfl (fun _ => ?_)
            refine z_aload_n hG dX6_street_80 0 rfl ?_
            refine z_iload_n hG dX6_street_81 2 rfl ?_
            obtain ⟨v12, hv, hres⟩ := z_bind hres
            refine z_callV (As := [.int p1]) (rest := [.int v11, .ref aM]) (wr := ([] : va_W)) (ws' := (fun _ : Unit => ([(aM, .inr (6, [.ref aMk, .ref aMj, .int mN, .int mS, .ref aMc, .ref aMw, .int mX, .int v10.2])), (aMk, .inl (K.2 0, 12, .inl mK)), (aMj, .inl (K.2 3, 12, .inr (.inr (.inr (.inr (zo aMr 12)))))), (aMc, .inl (K.2 0, 12, .inl mC)), (aMw, .inl (K.2 0, 12, .inl mW))] ++ zR12Z K aMr mJ))) (stk := (fun _ : Unit => [.int v12, .int v11, .ref aM])) (kc' := 0) (ks' := 0) (n := 1) (C := RX6) (ci := 6) hG dX6_street_82 (kX6_at _ K aM aMk aMj aMc aMw aMr mN mS mX v10.2 mK mC mW mJ p1 v12 hv) gX6_street_X6_at rfl rfl rfl ⟨rfl, by decide, by decide, rfl⟩ ⟨by decide, by decide⟩ (Nat.le_of_ble_eq_true rfl) ⟨(Nat.le_of_ble_eq_true rfl), (Nat.le_of_ble_eq_true rfl)⟩ [0, 1, 2, 3, 4, 5, 6, 7, 8, 9, 10, 11, 12, 13, 14, 15, 16] [] [0, 1, 2, 3, 4, 5, 6, 7, 8, 9, 10, 11, 12, 13, 14, 15, 16] rfl rfl rfl rfl (by decide) rfl (fun _ => rfl) (fun _ => rfl) rfl rfl rfl 0 rfl rfl rfl rfl (fun _ => ?_)
            refine z_iconst 1 hG dX6_street_85 (by decide) ?_
            obtain ⟨v13, hv, hres⟩ := z_bind hres
            refine z_callV (As := [.int v11, .int v12, .int 1]) (rest := []) (wr := ([] : va_W)) (ws' := (fun _ : Unit => ([(aM, .inr (6, [.ref aMk, .ref aMj, .int mN, .int mS, .ref aMc, .ref aMw, .int v13.2.1, .int v10.2])), (aMk, .inl (K.2 0, 12, .inl mK)), (aMj, .inl (K.2 3, 12, .inr (.inr (.inr (.inr (zo aMr 12)))))), (aMc, .inl (K.2 0, 12, .inl v13.2.2.1)), (aMw, .inl (K.2 0, 12, .inl v13.2.2.2.1))] ++ zR12Z K aMr v13.2.2.2.2))) (stk := (fun _ : Unit => [.int v13.1])) (kc' := 2) (ks' := 24) (n := 3) (C := RX6) (ci := 6) hG dX6_street_86 (kX6_turn _ K aM aMk aMj aMc aMw aMr mN mS mX v10.2 mK mC mW mJ v11 v12 1 v13 hv) gX6_street_X6_turn rfl rfl rfl ⟨rfl, by decide, by decide, rfl⟩ ⟨by decide, by decide⟩ (Nat.le_of_ble_eq_true rfl) ⟨(Nat.le_of_ble_eq_true rfl), (Nat.le_of_ble_eq_true rfl)⟩ [0, 1, 2, 3, 4, 5, 6, 7, 8, 9, 10, 11, 12, 13, 14, 15, 16] [] [0, 1, 2, 3, 4, 5, 6, 7, 8, 9, 10, 11, 12, 13, 14, 15, 16] rfl rfl rfl rfl (by decide) rfl (fun _ => rfl) (fun _ => rfl) rfl rfl rfl 0 rfl rfl rfl rfl (fun _ => ?_)
            obtain rfl := Option.some.inj hres
            exact (hR _ _ dX6_street_89)
          · replace hres := z_ifp c hres
            refine z_iconst 0 hG dX6_street_72 (by decide) ?_
            obtain rfl := Option.some.inj hres
            exact (z_wid (Nat.le_of_ble_eq_true rfl) (Nat.le_of_ble_eq_true rfl) (hR _ _ dX6_street_73))
        replace hres := hv
        clear hv
        refine z_if_ne 65 hG dX6_street_58 (by decide) (fun c => ?_) (fun c => ?_)
        · replace hres := z_ifn c hres
          refine z_iconst 0 hG dX6_street_65 (by decide) ?_
          obtain rfl := Option.some.inj hres
          exact J
        · replace hres := z_ifp c hres
          refine z_iconst 1 hG dX6_street_61 (by decide) ?_
          refine z_goto 66 hG dX6_street_62 (by decide) ?_
          obtain rfl := Option.some.inj hres
          exact J
    replace hres := hv
    clear hv
    refine z_icmp_eq 31 hG dX6_street_24 (by decide) (fun c => ?_) (fun c => ?_)
    · replace hres := z_ifp c hres
      refine z_iconst 0 hG dX6_street_31 (by decide) ?_
      obtain rfl := Option.some.inj hres
      exact J
    · replace hres := z_ifn c hres
      refine z_iconst 1 hG dX6_street_27 (by decide) ?_
      refine z_goto 32 hG dX6_street_28 (by decide) ?_
      obtain rfl := Option.some.inj hres
      exact J
  replace hres := hv
  clear hv
  refine z_if_eq 21 hG dX6_street_6 (by decide) (fun c => ?_) (fun c => ?_)
  · replace hres := z_ifp c hres
    refine z_iconst 0 hG dX6_street_21 (by decide) ?_
    obtain rfl := Option.some.inj hres
    exact J
  · replace hres := z_ifn c hres
    refine z_aload_n hG dX6_street_9 0 rfl ?_
    refine z_iload_n hG dX6_street_10 2 rfl ?_
    obtain ⟨v14, hv, hres⟩ := z_bind hres
    refine z_callV (As := [.int p1]) (rest := [.ref aM]) (wr := ([] : va_W)) (ws' := (fun _ : Unit => ([(aM, .inr (6, [.ref aMk, .ref aMj, .int mN, .int mS, .ref aMc, .ref aMw, .int mX, .int mT])), (aMk, .inl (K.2 0, 12, .inl mK)), (aMj, .inl (K.2 3, 12, .inr (.inr (.inr (.inr (zo aMr 12)))))), (aMc, .inl (K.2 0, 12, .inl mC)), (aMw, .inl (K.2 0, 12, .inl mW))] ++ zR12Z K aMr mJ))) (stk := (fun _ : Unit => [.int v14, .ref aM])) (kc' := 0) (ks' := 0) (n := 1) (C := RX6) (ci := 6) hG dX6_street_11 (kX6_is _ K aM aMk aMj aMc aMw aMr mN mS mX mT mK mC mW mJ p1 v14 hv) gX6_street_X6_is rfl rfl rfl ⟨rfl, by decide, by decide, rfl⟩ ⟨by decide, by decide⟩ (Nat.le_of_ble_eq_true rfl) ⟨(Nat.le_of_ble_eq_true rfl), (Nat.le_of_ble_eq_true rfl)⟩ [0, 1, 2, 3, 4, 5, 6, 7, 8, 9, 10, 11, 12, 13, 14, 15, 16] [] [0, 1, 2, 3, 4, 5, 6, 7, 8, 9, 10, 11, 12, 13, 14, 15, 16] rfl rfl rfl rfl (by decide) rfl (fun _ => rfl) (fun _ => rfl) rfl rfl rfl 0 rfl rfl rfl rfl (fun _ => ?_)
    refine z_if_eq 21 hG dX6_street_14 (by decide) (fun c => ?_) (fun c => ?_)
    · replace hres := z_ifp c hres
      refine z_iconst 0 hG dX6_street_21 (by decide) ?_
      obtain rfl := Option.some.inj hres
      exact J
    · replace hres := z_ifn c hres
      refine z_iconst 1 hG dX6_street_17 (by decide) ?_
      refine z_goto 22 hG dX6_street_18 (by decide) ?_
      obtain rfl := Option.some.inj hres
      exact J

theorem dX6_tear_0 : decode cX6_tear 0 = .ok (.aload_n 0, 1) := by decide +kernel
theorem dX6_tear_1 : decode cX6_tear 1 = .ok (.aload_n 0, 1) := by decide +kernel
theorem dX6_tear_2 : decode cX6_tear 2 = .ok (.iload_n 1, 1) := by decide +kernel
theorem dX6_tear_3 : decode cX6_tear 3 = .ok (.invokevirtual 38, 3) := by decide +kernel
theorem dX6_tear_6 : decode cX6_tear 6 = .ok (.ifCond .eq 15, 3) := by decide +kernel
theorem dX6_tear_9 : decode cX6_tear 9 = .ok (.aload_n 0, 1) := by decide +kernel
theorem dX6_tear_10 : decode cX6_tear 10 = .ok (.iload_n 2, 1) := by decide +kernel
theorem dX6_tear_11 : decode cX6_tear 11 = .ok (.invokevirtual 38, 3) := by decide +kernel
theorem dX6_tear_14 : decode cX6_tear 14 = .ok (.ifCond .eq 7, 3) := by decide +kernel
theorem dX6_tear_17 : decode cX6_tear 17 = .ok (.iconst 1, 1) := by decide +kernel
theorem dX6_tear_18 : decode cX6_tear 18 = .ok (.goto 4, 3) := by decide +kernel
theorem dX6_tear_21 : decode cX6_tear 21 = .ok (.iconst 0, 1) := by decide +kernel
theorem dX6_tear_22 : decode cX6_tear 22 = .ok (.iconst 1, 1) := by decide +kernel
theorem dX6_tear_23 : decode cX6_tear 23 = .ok (.iconst 1, 1) := by decide +kernel
theorem dX6_tear_24 : decode cX6_tear 24 = .ok (.invokevirtual 42, 3) := by decide +kernel
theorem dX6_tear_27 : decode cX6_tear 27 = .ok (.ifCond .eq 28, 3) := by decide +kernel
theorem dX6_tear_30 : decode cX6_tear 30 = .ok (.aload_n 0, 1) := by decide +kernel
theorem dX6_tear_31 : decode cX6_tear 31 = .ok (.aload_n 0, 1) := by decide +kernel
theorem dX6_tear_32 : decode cX6_tear 32 = .ok (.getfield 15, 3) := by decide +kernel
theorem dX6_tear_35 : decode cX6_tear 35 = .ok (.aload_n 0, 1) := by decide +kernel
theorem dX6_tear_36 : decode cX6_tear 36 = .ok (.iload_n 1, 1) := by decide +kernel
theorem dX6_tear_37 : decode cX6_tear 37 = .ok (.invokevirtual 34, 3) := by decide +kernel
theorem dX6_tear_40 : decode cX6_tear 40 = .ok (.aaload, 1) := by decide +kernel
theorem dX6_tear_41 : decode cX6_tear 41 = .ok (.aload_n 0, 1) := by decide +kernel
theorem dX6_tear_42 : decode cX6_tear 42 = .ok (.iload_n 2, 1) := by decide +kernel
theorem dX6_tear_43 : decode cX6_tear 43 = .ok (.invokevirtual 34, 3) := by decide +kernel
theorem dX6_tear_46 : decode cX6_tear 46 = .ok (.baload, 1) := by decide +kernel
theorem dX6_tear_47 : decode cX6_tear 47 = .ok (.iconst 1, 1) := by decide +kernel
theorem dX6_tear_48 : decode cX6_tear 48 = .ok (.iconst 1, 1) := by decide +kernel
theorem dX6_tear_49 : decode cX6_tear 49 = .ok (.invokevirtual 42, 3) := by decide +kernel
theorem dX6_tear_52 : decode cX6_tear 52 = .ok (.ifCond .ne 5, 3) := by decide +kernel
theorem dX6_tear_55 : decode cX6_tear 55 = .ok (.iconst 0, 1) := by decide +kernel
theorem dX6_tear_56 : decode cX6_tear 56 = .ok (.ireturn, 1) := by decide +kernel
theorem dX6_tear_57 : decode cX6_tear 57 = .ok (.aload_n 0, 1) := by decide +kernel
theorem dX6_tear_58 : decode cX6_tear 58 = .ok (.aload_n 0, 1) := by decide +kernel
theorem dX6_tear_59 : decode cX6_tear 59 = .ok (.iload_n 1, 1) := by decide +kernel
theorem dX6_tear_60 : decode cX6_tear 60 = .ok (.invokevirtual 34, 3) := by decide +kernel
theorem dX6_tear_63 : decode cX6_tear 63 = .ok (.aload_n 0, 1) := by decide +kernel
theorem dX6_tear_64 : decode cX6_tear 64 = .ok (.iload_n 2, 1) := by decide +kernel
theorem dX6_tear_65 : decode cX6_tear 65 = .ok (.invokevirtual 34, 3) := by decide +kernel
theorem dX6_tear_68 : decode cX6_tear 68 = .ok (.iconst 0, 1) := by decide +kernel
theorem dX6_tear_69 : decode cX6_tear 69 = .ok (.invokevirtual 56, 3) := by decide +kernel
theorem dX6_tear_72 : decode cX6_tear 72 = .ok (.ireturn, 1) := by decide +kernel
set_option maxRecDepth 20000 in
theorem ggX6_tear_X6_is : GoodIn wsX6_tear wsX6_is := goodIn_r _ [6, 7, 8, 9, 5, 10, 11, 12, 31, 32, 33, 34, 35, 36, 37, 38] (by decide +kernel) (by decide +kernel)
set_option maxRecDepth 20000 in
theorem gX6_tear_X6_is : GoodIn wsX6_tear (wsV RX6 38 RX6 yX6_is wsX6_is) := goodIn_app (goodIn_of _ (by decide +kernel)) ggX6_tear_X6_is
set_option maxRecDepth 20000 in
theorem ggX6_tear_X6_can : GoodIn wsX6_tear wsX6_can := goodIn_r _ [16, 17, 31, 32, 33, 34, 35, 36, 37, 38] (by decide +kernel) (by decide +kernel)
set_option maxRecDepth 20000 in
theorem gX6_tear_X6_can : GoodIn wsX6_tear (wsV RX6 42 RX6 yX6_can wsX6_can) := goodIn_app (goodIn_of _ (by decide +kernel)) ggX6_tear_X6_can
set_option maxRecDepth 20000 in
theorem ggX6_tear_X6_at : GoodIn wsX6_tear wsX6_at := goodIn_r _ [10, 11, 12, 31, 32, 33, 34, 35, 36, 37, 38] (by decide +kernel) (by decide +kernel)
set_option maxRecDepth 20000 in
theorem gX6_tear_X6_at : GoodIn wsX6_tear (wsV RX6 34 RX6 yX6_at wsX6_at) := goodIn_app (goodIn_of _ (by decide +kernel)) ggX6_tear_X6_at
set_option maxRecDepth 20000 in
theorem ggX6_tear_X6_turn : GoodIn wsX6_tear wsX6_turn := goodIn_r _ [21, 22, 1, 23, 11, 24, 12, 25, 26, 27, 28, 5, 29, 30, 31, 32, 33, 34, 35, 36, 37, 38] (by decide +kernel) (by decide +kernel)
set_option maxRecDepth 20000 in
theorem gX6_tear_X6_turn : GoodIn wsX6_tear (wsV RX6 56 RX6 yX6_turn wsX6_turn) := goodIn_app (goodIn_of _ (by decide +kernel)) ggX6_tear_X6_turn
theorem mX6_tear_0 : Cond.fieldLink RX6 15 "LayerwaysModel" "joined" "[[Z" ∈ wsX6_tear := by decide +kernel
theorem iX6_tear_X6 : ∀ w ∈ u_ws RX6 TX6 8, w ∈ wsX6_tear := by decide +kernel
def fX6_tear (mN : Int32) (mS : Int32) (mX : Int32) (mK : (Nat → Int32)) (mC : (Nat → Int32)) (mW : (Nat → Int32)) (mJ : (Nat → Nat → Int32)) (p0 : Int32) (p1 : Int32) : Option (Int32 × Int32 × Int32 × (Nat → Int32) × (Nat → Int32) × (Nat → Nat → Int32)) := (fX6_is mN mK p0).bind fun v1 => ((if v1 = 0 then some 0 else (fX6_is mN mK p1).bind fun v12 => if v12 = 0 then some 0 else some 1) : Option Int32).bind fun v3 => (fX6_can v3 1 1).bind fun v4 => if v4.1 = 0 then some (0, mX, v4.2, mC, mW, mJ) else (fX6_at mN mK p0).bind fun v5 => if zin v5 12 then (fX6_at mN mK p1).bind fun v7 => if zin v7 12 then (fX6_can (mJ v5.toNatClampNeg v7.toNatClampNeg) 1 1).bind fun v8 => if v8.1 = 0 then some (0, mX, v8.2, mC, mW, mJ) else (fX6_at mN mK p0).bind fun v9 => (fX6_at mN mK p1).bind fun v10 => (fX6_turn mN mS mK mC mW mJ v9 v10 0).bind fun v11 => some (v11.1, v11.2.1, v8.2, v11.2.2.1, v11.2.2.2.1, v11.2.2.2.2) else none else none
set_option maxRecDepth 100000 in
set_option maxHeartbeats 4000000 in
theorem kX6_tear (l : Launch) (K : zK) (aM : Nat) (aMk : Nat) (aMj : Nat) (aMc : Nat) (aMw : Nat) (aMr : (Nat → Nat))  (mN : Int32) (mS : Int32) (mX : Int32) (mT : Int32) (mK : (Nat → Int32)) (mC : (Nat → Int32)) (mW : (Nat → Int32)) (mJ : (Nat → Nat → Int32)) (p0 : Int32) (p1 : Int32) (r : Int32 × Int32 × Int32 × (Nat → Int32) × (Nat → Int32) × (Nat → Nat → Int32)) (hres : fX6_tear mN mS mX mK mC mW mJ p0 p1 = some r) : zM l K yX6_tear wsX6_tear ({ frames := 2, cells := 2, slots := 24, locals := 51 }) [.ref aM, .int p0, .int p1] ([(aM, .inr (6, [.ref aMk, .ref aMj, .int mN, .int mS, .ref aMc, .ref aMw, .int mX, .int mT])), (aMk, .inl (K.2 0, 12, .inl mK)), (aMj, .inl (K.2 3, 12, .inr (.inr (.inr (.inr (zo aMr 12)))))), (aMc, .inl (K.2 0, 12, .inl mC)), (aMw, .inl (K.2 0, 12, .inl mW))] ++ zR12Z K aMr mJ) (fun _ : Unit => some (.int r.1)) (fun _ : Unit => ([(aM, .inr (6, [.ref aMk, .ref aMj, .int mN, .int mS, .ref aMc, .ref aMw, .int r.2.1, .int r.2.2.1])), (aMk, .inl (K.2 0, 12, .inl mK)), (aMj, .inl (K.2 3, 12, .inr (.inr (.inr (.inr (zo aMr 12)))))), (aMc, .inl (K.2 0, 12, .inl r.2.2.2.1)), (aMw, .inl (K.2 0, 12, .inl r.2.2.2.2.1))] ++ zR12Z K aMr r.2.2.2.2.2)) 2 24 := by
  refine zM.intI (cc := cX6_tear) (maxL := 3) (ret := (some .int)) rfl (by decide) (Nat.le_of_ble_eq_true rfl) rfl ?_
  intro G hGl hG hN hE
  have hR : ∀ (pc : Nat) (lv : zL), decode cX6_tear pc = .ok (.ireturn, 1) → zj G pc lv [.int r.1] ([(aM, .inr (6, [.ref aMk, .ref aMj, .int mN, .int mS, .ref aMc, .ref aMw, .int r.2.1, .int r.2.2.1])), (aMk, .inl (K.2 0, 12, .inl mK)), (aMj, .inl (K.2 3, 12, .inr (.inr (.inr (.inr (zo aMr 12)))))), (aMc, .inl (K.2 0, 12, .inl r.2.2.2.1)), (aMw, .inl (K.2 0, 12, .inl r.2.2.2.2.1))] ++ zR12Z K aMr r.2.2.2.2.2) 2 24 := fun pc lv d => hE () _ rfl pc lv d
  clear hE
  unfold fX6_tear at hres
  show zj G 0 [(0, .ref aM), (1, .int p0), (2, .int p1)] [] ([(aM, .inr (6, [.ref aMk, .ref aMj, .int mN, .int mS, .ref aMc, .ref aMw, .int mX, .int mT])), (aMk, .inl (K.2 0, 12, .inl mK)), (aMj, .inl (K.2 3, 12, .inr (.inr (.inr (.inr (zo aMr 12)))))), (aMc, .inl (K.2 0, 12, .inl mC)), (aMw, .inl (K.2 0, 12, .inl mW))] ++ zR12Z K aMr mJ) 0 0
  refine z_aload_n hG dX6_tear_0 0 rfl ?_
  refine z_aload_n hG dX6_tear_1 0 rfl ?_
  refine z_iload_n hG dX6_tear_2 1 rfl ?_
  obtain ⟨v1, hv, hres⟩ := z_bind hres
  refine z_callV (As := [.int p0]) (rest := [.ref aM]) (wr := ([] : va_W)) (ws' := (fun _ : Unit => ([(aM, .inr (6, [.ref aMk, .ref aMj, .int mN, .int mS, .ref aMc, .ref aMw, .int mX, .int mT])), (aMk, .inl (K.2 0, 12, .inl mK)), (aMj, .inl (K.2 3, 12, .inr (.inr (.inr (.inr (zo aMr 12)))))), (aMc, .inl (K.2 0, 12, .inl mC)), (aMw, .inl (K.2 0, 12, .inl mW))] ++ zR12Z K aMr mJ))) (stk := (fun _ : Unit => [.int v1, .ref aM])) (kc' := 0) (ks' := 0) (n := 1) (C := RX6) (ci := 6) hG dX6_tear_3 (kX6_is _ K aM aMk aMj aMc aMw aMr mN mS mX mT mK mC mW mJ p0 v1 hv) gX6_tear_X6_is rfl rfl rfl ⟨rfl, by decide, by decide, rfl⟩ ⟨by decide, by decide⟩ (Nat.le_of_ble_eq_true rfl) ⟨(Nat.le_of_ble_eq_true rfl), (Nat.le_of_ble_eq_true rfl)⟩ [0, 1, 2, 3, 4, 5, 6, 7, 8, 9, 10, 11, 12, 13, 14, 15, 16] [] [0, 1, 2, 3, 4, 5, 6, 7, 8, 9, 10, 11, 12, 13, 14, 15, 16] rfl rfl rfl rfl (by decide) rfl (fun _ => rfl) (fun _ => rfl) rfl rfl rfl 0 rfl rfl rfl rfl (fun _ => ?_)
  obtain ⟨v3, hv, hres⟩ := z_bind hres
  have J : zj G 22 [(0, .ref aM), (1, .int p0), (2, .int p1)] [.int v3, .ref aM] ([(aM, .inr (6, [.ref aMk, .ref aMj, .int mN, .int mS, .ref aMc, .ref aMw, .int mX, .int mT])), (aMk, .inl (K.2 0, 12, .inl mK)), (aMj, .inl (K.2 3, 12, .inr (.inr (.inr (.inr (zo aMr 12)))))), (aMc, .inl (K.2 0, 12, .inl mC)), (aMw, .inl (K.2 0, 12, .inl mW))] ++ zR12Z K aMr mJ) 0 0 := by
    refine z_iconst 1 hG dX6_tear_22 (by decide) ?_
    refine z_iconst 1 hG dX6_tear_23 (by decide) ?_
    obtain ⟨v4, hv, hres⟩ := z_bind hres
    refine z_callV (As := [.int v3, .int 1, .int 1]) (rest := []) (wr := ([(aMk, .inl (K.2 0, 12, .inl mK)), (aMj, .inl (K.2 3, 12, .inr (.inr (.inr (.inr (zo aMr 12)))))), (aMc, .inl (K.2 0, 12, .inl mC)), (aMw, .inl (K.2 0, 12, .inl mW))] ++ zR12Z K aMr mJ)) (ws' := (fun _ : Unit => ([(aM, .inr (6, [.ref aMk, .ref aMj, .int mN, .int mS, .ref aMc, .ref aMw, .int mX, .int v4.2])), (aMk, .inl (K.2 0, 12, .inl mK)), (aMj, .inl (K.2 3, 12, .inr (.inr (.inr (.inr (zo aMr 12)))))), (aMc, .inl (K.2 0, 12, .inl mC)), (aMw, .inl (K.2 0, 12, .inl mW))] ++ zR12Z K aMr mJ))) (stk := (fun _ : Unit => [.int v4.1])) (kc' := 0) (ks' := 0) (n := 3) (C := RX6) (ci := 6) hG dX6_tear_24 (kX6_can _ K aM aMk aMj aMc aMw mN mS mX mT v3 1 1 v4 hv) gX6_tear_X6_can rfl rfl rfl ⟨rfl, by decide, by decide, rfl⟩ ⟨by decide, by decide⟩ (Nat.le_of_ble_eq_true rfl) ⟨(Nat.le_of_ble_eq_true rfl), (Nat.le_of_ble_eq_true rfl)⟩ [0] [1, 2, 3, 4, 5, 6, 7, 8, 9, 10, 11, 12, 13, 14, 15, 16] [16, 0, 1, 2, 3, 4, 5, 6, 7, 8, 9, 10, 11, 12, 13, 14, 15] rfl rfl rfl rfl (by decide) rfl (fun _ => rfl) (fun _ => rfl) rfl rfl rfl 0 rfl rfl rfl rfl (fun _ => ?_)
    refine z_if_eq 55 hG dX6_tear_27 (by decide) (fun c => ?_) (fun c => ?_)
    · replace hres := z_ifp c hres
      refine z_iconst 0 hG dX6_tear_55 (by decide) ?_
      obtain rfl := Option.some.inj hres
      exact (z_wid (Nat.le_of_ble_eq_true rfl) (Nat.le_of_ble_eq_true rfl) (hR _ _ dX6_tear_56))
    · replace hres := z_ifn c hres
      refine z_aload_n hG dX6_tear_30 0 rfl ?_
      refine z_aload_n hG dX6_tear_31 0 rfl ?_
      refine z_get (ci := 6) (C := RX6) (T := TX6) (N := 8) hG dX6_tear_32 iX6_tear_X6 1 (by decide) mX6_tear_0 rfl rfl 0 rfl rfl ?_
      refine z_aload_n hG dX6_tear_35 0 rfl ?_
      refine z_iload_n hG dX6_tear_36 1 rfl ?_
      obtain ⟨v5, hv, hres⟩ := z_bind hres
      refine z_callV (As := [.int p0]) (rest := [.ref aMj, .ref aM]) (wr := ([] : va_W)) (ws' := (fun _ : Unit => ([(aM, .inr (6, [.ref aMk, .ref aMj, .int mN, .int mS, .ref aMc, .ref aMw, .int mX, .int v4.2])), (aMk, .inl (K.2 0, 12, .inl mK)), (aMj, .inl (K.2 3, 12, .inr (.inr (.inr (.inr (zo aMr 12)))))), (aMc, .inl (K.2 0, 12, .inl mC)), (aMw, .inl (K.2 0, 12, .inl mW))] ++ zR12Z K aMr mJ))) (stk := (fun _ : Unit => [.int v5, .ref aMj, .ref aM])) (kc' := 0) (ks' := 0) (n := 1) (C := RX6) (ci := 6) hG dX6_tear_37 (kX6_at _ K aM aMk aMj aMc aMw aMr mN mS mX v4.2 mK mC mW mJ p0 v5 hv) gX6_tear_X6_at rfl rfl rfl ⟨rfl, by decide, by decide, rfl⟩ ⟨by decide, by decide⟩ (Nat.le_of_ble_eq_true rfl) ⟨(Nat.le_of_ble_eq_true rfl), (Nat.le_of_ble_eq_true rfl)⟩ [0, 1, 2, 3, 4, 5, 6, 7, 8, 9, 10, 11, 12, 13, 14, 15, 16] [] [0, 1, 2, 3, 4, 5, 6, 7, 8, 9, 10, 11, 12, 13, 14, 15, 16] rfl rfl rfl rfl (by decide) rfl (fun _ => rfl) (fun _ => rfl) rfl rfl rfl 0 rfl rfl rfl rfl (fun _ => ?_)
      obtain ⟨hr6, hres⟩ := z_guard hres
      refine z_aaldZ hG dX6_tear_40 2 rfl hr6 ?_
      refine z_aload_n hG dX6_tear_41 0 rfl ?_
      refine z_iload_n hG dX6_tear_42 2 rfl ?_
      obtain ⟨v7, hv, hres⟩ := z_bind hres
      refine z_callV (As := [.int p1]) (rest := [.ref (aMr v5.toNatClampNeg), .ref aM]) (wr := ([] : va_W)) (ws' := (fun _ : Unit => ([(aM, .inr (6, [.ref aMk, .ref aMj, .int mN, .int mS, .ref aMc, .ref aMw, .int mX, .int v4.2])), (aMk, .inl (K.2 0, 12, .inl mK)), (aMj, .inl (K.2 3, 12, .inr (.inr (.inr (.inr (zo aMr 12)))))), (aMc, .inl (K.2 0, 12, .inl mC)), (aMw, .inl (K.2 0, 12, .inl mW))] ++ zR12Z K aMr mJ))) (stk := (fun _ : Unit => [.int v7, .ref (aMr v5.toNatClampNeg), .ref aM])) (kc' := 0) (ks' := 0) (n := 1) (C := RX6) (ci := 6) hG dX6_tear_43 (kX6_at _ K aM aMk aMj aMc aMw aMr mN mS mX v4.2 mK mC mW mJ p1 v7 hv) gX6_tear_X6_at rfl rfl rfl ⟨rfl, by decide, by decide, rfl⟩ ⟨by decide, by decide⟩ (Nat.le_of_ble_eq_true rfl) ⟨(Nat.le_of_ble_eq_true rfl), (Nat.le_of_ble_eq_true rfl)⟩ [0, 1, 2, 3, 4, 5, 6, 7, 8, 9, 10, 11, 12, 13, 14, 15, 16] [] [0, 1, 2, 3, 4, 5, 6, 7, 8, 9, 10, 11, 12, 13, 14, 15, 16] rfl rfl rfl rfl (by decide) rfl (fun _ => rfl) (fun _ => rfl) rfl rfl rfl 0 rfl rfl rfl rfl (fun _ => ?_)
      obtain ⟨hg, hres⟩ := z_guard hres
      refine z_zaldG (M := mJ) hG dX6_tear_46 5 (z_12 rfl rfl rfl rfl rfl rfl rfl rfl rfl rfl rfl rfl) hr6 hg ?_
      refine z_iconst 1 hG dX6_tear_47 (by decide) ?_
      refine z_iconst 1 hG dX6_tear_48 (by decide) ?_
      obtain ⟨v8, hv, hres⟩ := z_bind hres
      refine z_callV (As := [.int (mJ v5.toNatClampNeg v7.toNatClampNeg), .int 1, .int 1]) (rest := []) (wr := ([(aMk, .inl (K.2 0, 12, .inl mK)), (aMj, .inl (K.2 3, 12, .inr (.inr (.inr (.inr (zo aMr 12)))))), (aMc, .inl (K.2 0, 12, .inl mC)), (aMw, .inl (K.2 0, 12, .inl mW))] ++ zR12Z K aMr mJ)) (ws' := (fun _ : Unit => ([(aM, .inr (6, [.ref aMk, .ref aMj, .int mN, .int mS, .ref aMc, .ref aMw, .int mX, .int v8.2])), (aMk, .inl (K.2 0, 12, .inl mK)), (aMj, .inl (K.2 3, 12, .inr (.inr (.inr (.inr (zo aMr 12)))))), (aMc, .inl (K.2 0, 12, .inl mC)), (aMw, .inl (K.2 0, 12, .inl mW))] ++ zR12Z K aMr mJ))) (stk := (fun _ : Unit => [.int v8.1])) (kc' := 0) (ks' := 0) (n := 3) (C := RX6) (ci := 6) hG dX6_tear_49 (kX6_can _ K aM aMk aMj aMc aMw mN mS mX v4.2 (mJ v5.toNatClampNeg v7.toNatClampNeg) 1 1 v8 hv) gX6_tear_X6_can rfl rfl rfl ⟨rfl, by decide, by decide, rfl⟩ ⟨by decide, by decide⟩ (Nat.le_of_ble_eq_true rfl) ⟨(Nat.le_of_ble_eq_true rfl), (Nat.le_of_ble_eq_true rfl)⟩ [0] [1, 2, 3, 4, 5, 6, 7, 8, 9, 10, 11, 12, 13, 14, 15, 16] [16, 0, 1, 2, 3, 4, 5, 6, 7, 8, 9, 10, 11, 12, 13, 14, 15] rfl rfl rfl rfl (by decide) rfl (fun _ => rfl) (fun _ => rfl) rfl rfl rfl 0 rfl rfl rfl rfl (fun _ => ?_)
      refine z_if_ne 57 hG dX6_tear_52 (by decide) (fun c => ?_) (fun c => ?_)
      · replace hres := z_ifn c hres
        refine z_aload_n hG dX6_tear_57 0 rfl ?_
        refine z_aload_n hG dX6_tear_58 0 rfl ?_
        refine z_iload_n hG dX6_tear_59 1 rfl ?_
        obtain ⟨v9, hv, hres⟩ := z_bind hres
        refine z_callV (As := [.int p0]) (rest := [.ref aM]) (wr := ([] : va_W)) (ws' := (fun _ : Unit => ([(aM, .inr (6, [.ref aMk, .ref aMj, .int mN, .int mS, .ref aMc, .ref aMw, .int mX, .int v8.2])), (aMk, .inl (K.2 0, 12, .inl mK)), (aMj, .inl (K.2 3, 12, .inr (.inr (.inr (.inr (zo aMr 12)))))), (aMc, .inl (K.2 0, 12, .inl mC)), (aMw, .inl (K.2 0, 12, .inl mW))] ++ zR12Z K aMr mJ))) (stk := (fun _ : Unit => [.int v9, .ref aM])) (kc' := 0) (ks' := 0) (n := 1) (C := RX6) (ci := 6) hG dX6_tear_60 (kX6_at _ K aM aMk aMj aMc aMw aMr mN mS mX v8.2 mK mC mW mJ p0 v9 hv) gX6_tear_X6_at rfl rfl rfl ⟨rfl, by decide, by decide, rfl⟩ ⟨by decide, by decide⟩ (Nat.le_of_ble_eq_true rfl) ⟨(Nat.le_of_ble_eq_true rfl), (Nat.le_of_ble_eq_true rfl)⟩ [0, 1, 2, 3, 4, 5, 6, 7, 8, 9, 10, 11, 12, 13, 14, 15, 16] [] [0, 1, 2, 3, 4, 5, 6, 7, 8, 9, 10, 11, 12, 13, 14, 15, 16] rfl rfl rfl rfl (by decide) rfl (fun _ => rfl) (fun _ => rfl) rfl rfl rfl 0 rfl rfl rfl rfl (fun _ => ?_)
        refine z_aload_n hG dX6_tear_63 0 rfl ?_
        refine z_iload_n hG dX6_tear_64 2 rfl ?_
        obtain ⟨v10, hv, hres⟩ := z_bind hres
        refine z_callV (As := [.int p1]) (rest := [.int v9, .ref aM]) (wr := ([] : va_W)) (ws' := (fun _ : Unit => ([(aM, .inr (6, [.ref aMk, .ref aMj, .int mN, .int mS, .ref aMc, .ref aMw, .int mX, .int v8.2])), (aMk, .inl (K.2 0, 12, .inl mK)), (aMj, .inl (K.2 3, 12, .inr (.inr (.inr (.inr (zo aMr 12)))))), (aMc, .inl (K.2 0, 12, .inl mC)), (aMw, .inl (K.2 0, 12, .inl mW))] ++ zR12Z K aMr mJ))) (stk := (fun _ : Unit => [.int v10, .int v9, .ref aM])) (kc' := 0) (ks' := 0) (n := 1) (C := RX6) (ci := 6) hG dX6_tear_65 (kX6_at _ K aM aMk aMj aMc aMw aMr mN mS mX v8.2 mK mC mW mJ p1 v10 hv) gX6_tear_X6_at rfl rfl rfl ⟨rfl, by decide, by decide, rfl⟩ ⟨by decide, by decide⟩ (Nat.le_of_ble_eq_true rfl) ⟨(Nat.le_of_ble_eq_true rfl), (Nat.le_of_ble_eq_true rfl)⟩ [0, 1, 2, 3, 4, 5, 6, 7, 8, 9, 10, 11, 12, 13, 14, 15, 16] [] [0, 1, 2, 3, 4, 5, 6, 7, 8, 9, 10, 11, 12, 13, 14, 15, 16] rfl rfl rfl rfl (by decide) rfl (fun _ => rfl) (fun _ => rfl) rfl rfl rfl 0 rfl rfl rfl rfl (fun _ => ?_)
        refine z_iconst 0 hG dX6_tear_68 (by decide) ?_
        obtain ⟨v11, hv, hres⟩ := z_bind hres
        refine z_callV (As := [.int v9, .int v10, .int 0]) (rest := []) (wr := ([] : va_W)) (ws' := (fun _ : Unit => ([(aM, .inr (6, [.ref aMk, .ref aMj, .int mN, .int mS, .ref aMc, .ref aMw, .int v11.2.1, .int v8.2])), (aMk, .inl (K.2 0, 12, .inl mK)), (aMj, .inl (K.2 3, 12, .inr (.inr (.inr (.inr (zo aMr 12)))))), (aMc, .inl (K.2 0, 12, .inl v11.2.2.1)), (aMw, .inl (K.2 0, 12, .inl v11.2.2.2.1))] ++ zR12Z K aMr v11.2.2.2.2))) (stk := (fun _ : Unit => [.int v11.1])) (kc' := 2) (ks' := 24) (n := 3) (C := RX6) (ci := 6) hG dX6_tear_69 (kX6_turn _ K aM aMk aMj aMc aMw aMr mN mS mX v8.2 mK mC mW mJ v9 v10 0 v11 hv) gX6_tear_X6_turn rfl rfl rfl ⟨rfl, by decide, by decide, rfl⟩ ⟨by decide, by decide⟩ (Nat.le_of_ble_eq_true rfl) ⟨(Nat.le_of_ble_eq_true rfl), (Nat.le_of_ble_eq_true rfl)⟩ [0, 1, 2, 3, 4, 5, 6, 7, 8, 9, 10, 11, 12, 13, 14, 15, 16] [] [0, 1, 2, 3, 4, 5, 6, 7, 8, 9, 10, 11, 12, 13, 14, 15, 16] rfl rfl rfl rfl (by decide) rfl (fun _ => rfl) (fun _ => rfl) rfl rfl rfl 0 rfl rfl rfl rfl (fun _ => ?_)
        obtain rfl := Option.some.inj hres
        exact (hR _ _ dX6_tear_72)
      · replace hres := z_ifp c hres
        refine z_iconst 0 hG dX6_tear_55 (by decide) ?_
        obtain rfl := Option.some.inj hres
        exact (z_wid (Nat.le_of_ble_eq_true rfl) (Nat.le_of_ble_eq_true rfl) (hR _ _ dX6_tear_56))
  replace hres := hv
  clear hv
  refine z_if_eq 21 hG dX6_tear_6 (by decide) (fun c => ?_) (fun c => ?_)
  · replace hres := z_ifp c hres
    refine z_iconst 0 hG dX6_tear_21 (by decide) ?_
    obtain rfl := Option.some.inj hres
    exact J
  · replace hres := z_ifn c hres
    refine z_aload_n hG dX6_tear_9 0 rfl ?_
    refine z_iload_n hG dX6_tear_10 2 rfl ?_
    obtain ⟨v12, hv, hres⟩ := z_bind hres
    refine z_callV (As := [.int p1]) (rest := [.ref aM]) (wr := ([] : va_W)) (ws' := (fun _ : Unit => ([(aM, .inr (6, [.ref aMk, .ref aMj, .int mN, .int mS, .ref aMc, .ref aMw, .int mX, .int mT])), (aMk, .inl (K.2 0, 12, .inl mK)), (aMj, .inl (K.2 3, 12, .inr (.inr (.inr (.inr (zo aMr 12)))))), (aMc, .inl (K.2 0, 12, .inl mC)), (aMw, .inl (K.2 0, 12, .inl mW))] ++ zR12Z K aMr mJ))) (stk := (fun _ : Unit => [.int v12, .ref aM])) (kc' := 0) (ks' := 0) (n := 1) (C := RX6) (ci := 6) hG dX6_tear_11 (kX6_is _ K aM aMk aMj aMc aMw aMr mN mS mX mT mK mC mW mJ p1 v12 hv) gX6_tear_X6_is rfl rfl rfl ⟨rfl, by decide, by decide, rfl⟩ ⟨by decide, by decide⟩ (Nat.le_of_ble_eq_true rfl) ⟨(Nat.le_of_ble_eq_true rfl), (Nat.le_of_ble_eq_true rfl)⟩ [0, 1, 2, 3, 4, 5, 6, 7, 8, 9, 10, 11, 12, 13, 14, 15, 16] [] [0, 1, 2, 3, 4, 5, 6, 7, 8, 9, 10, 11, 12, 13, 14, 15, 16] rfl rfl rfl rfl (by decide) rfl (fun _ => rfl) (fun _ => rfl) rfl rfl rfl 0 rfl rfl rfl rfl (fun _ => ?_)
    refine z_if_eq 21 hG dX6_tear_14 (by decide) (fun c => ?_) (fun c => ?_)
    · replace hres := z_ifp c hres
      refine z_iconst 0 hG dX6_tear_21 (by decide) ?_
      obtain rfl := Option.some.inj hres
      exact J
    · replace hres := z_ifn c hres
      refine z_iconst 1 hG dX6_tear_17 (by decide) ?_
      refine z_goto 22 hG dX6_tear_18 (by decide) ?_
      obtain rfl := Option.some.inj hres
      exact J
