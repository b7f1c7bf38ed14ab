theorem dX6_lengths_0 : decode cX6_lengths 0 = .ok (.bipush 12, 2) := by decide +kernel
theorem dX6_lengths_2 : decode cX6_lengths 2 = .ok (.newarray .int, 2) := by decide +kernel
theorem dX6_lengths_4 : decode cX6_lengths 4 = .ok (.astore_n 2, 1) := by decide +kernel
theorem dX6_lengths_5 : decode cX6_lengths 5 = .ok (.iconst 0, 1) := by decide +kernel
theorem dX6_lengths_6 : decode cX6_lengths 6 = .ok (.istore_n 3, 1) := by decide +kernel
theorem dX6_lengths_7 : decode cX6_lengths 7 = .ok (.iload_n 3, 1) := by decide +kernel
theorem dX6_lengths_8 : decode cX6_lengths 8 = .ok (.bipush 12, 2) := by decide +kernel
theorem dX6_lengths_10 : decode cX6_lengths 10 = .ok (.if_icmp .ge 22, 3) := by decide +kernel
theorem dX6_lengths_13 : decode cX6_lengths 13 = .ok (.aload_n 2, 1) := by decide +kernel
theorem dX6_lengths_14 : decode cX6_lengths 14 = .ok (.iload_n 3, 1) := by decide +kernel
theorem dX6_lengths_15 : decode cX6_lengths 15 = .ok (.iload_n 3, 1) := by decide +kernel
theorem dX6_lengths_16 : decode cX6_lengths 16 = .ok (.iload_n 1, 1) := by decide +kernel
theorem dX6_lengths_17 : decode cX6_lengths 17 = .ok (.if_icmp .ne 7, 3) := by decide +kernel
theorem dX6_lengths_20 : decode cX6_lengths 20 = .ok (.iconst 0, 1) := by decide +kernel
theorem dX6_lengths_21 : decode cX6_lengths 21 = .ok (.goto 4, 3) := by decide +kernel
theorem dX6_lengths_24 : decode cX6_lengths 24 = .ok (.iconst (-1), 1) := by decide +kernel
theorem dX6_lengths_25 : decode cX6_lengths 25 = .ok (.iastore, 1) := by decide +kernel
theorem dX6_lengths_26 : decode cX6_lengths 26 = .ok (.iinc 3 1, 3) := by decide +kernel
theorem dX6_lengths_29 : decode cX6_lengths 29 = .ok (.goto (-22), 3) := by decide +kernel
theorem dX6_lengths_32 : decode cX6_lengths 32 = .ok (.iconst 1, 1) := by decide +kernel
theorem dX6_lengths_33 : decode cX6_lengths 33 = .ok (.istore_n 3, 1) := by decide +kernel
theorem dX6_lengths_34 : decode cX6_lengths 34 = .ok (.iload_n 3, 1) := by decide +kernel
theorem dX6_lengths_35 : decode cX6_lengths 35 = .ok (.aload_n 0, 1) := by decide +kernel
theorem dX6_lengths_36 : decode cX6_lengths 36 = .ok (.getfield 31, 3) := by decide +kernel
theorem dX6_lengths_39 : decode cX6_lengths 39 = .ok (.if_icmp .ge 88, 3) := by decide +kernel
theorem dX6_lengths_42 : decode cX6_lengths 42 = .ok (.iconst 0, 1) := by decide +kernel
theorem dX6_lengths_43 : decode cX6_lengths 43 = .ok (.istore 4, 2) := by decide +kernel
theorem dX6_lengths_45 : decode cX6_lengths 45 = .ok (.iload 4, 2) := by decide +kernel
theorem dX6_lengths_47 : decode cX6_lengths 47 = .ok (.aload_n 0, 1) := by decide +kernel
theorem dX6_lengths_48 : decode cX6_lengths 48 = .ok (.getfield 31, 3) := by decide +kernel
theorem dX6_lengths_51 : decode cX6_lengths 51 = .ok (.if_icmp .ge 70, 3) := by decide +kernel
theorem dX6_lengths_54 : decode cX6_lengths 54 = .ok (.iconst 0, 1) := by decide +kernel
theorem dX6_lengths_55 : decode cX6_lengths 55 = .ok (.istore 5, 2) := by decide +kernel
theorem dX6_lengths_57 : decode cX6_lengths 57 = .ok (.iload 5, 2) := by decide +kernel
theorem dX6_lengths_59 : decode cX6_lengths 59 = .ok (.aload_n 0, 1) := by decide +kernel
theorem dX6_lengths_60 : decode cX6_lengths 60 = .ok (.getfield 31, 3) := by decide +kernel
theorem dX6_lengths_63 : decode cX6_lengths 63 = .ok (.if_icmp .ge 52, 3) := by decide +kernel
theorem dX6_lengths_66 : decode cX6_lengths 66 = .ok (.aload_n 2, 1) := by decide +kernel
theorem dX6_lengths_67 : decode cX6_lengths 67 = .ok (.iload 5, 2) := by decide +kernel
theorem dX6_lengths_69 : decode cX6_lengths 69 = .ok (.aload_n 0, 1) := by decide +kernel
theorem dX6_lengths_70 : decode cX6_lengths 70 = .ok (.getfield 15, 3) := by decide +kernel
theorem dX6_lengths_73 : decode cX6_lengths 73 = .ok (.iload 4, 2) := by decide +kernel
theorem dX6_lengths_75 : decode cX6_lengths 75 = .ok (.aaload, 1) := by decide +kernel
theorem dX6_lengths_76 : decode cX6_lengths 76 = .ok (.iload 5, 2) := by decide +kernel
theorem dX6_lengths_78 : decode cX6_lengths 78 = .ok (.baload, 1) := by decide +kernel
theorem dX6_lengths_79 : decode cX6_lengths 79 = .ok (.ifCond .eq 25, 3) := by decide +kernel
theorem dX6_lengths_82 : decode cX6_lengths 82 = .ok (.aload_n 2, 1) := by decide +kernel
theorem dX6_lengths_83 : decode cX6_lengths 83 = .ok (.iload 4, 2) := by decide +kernel
theorem dX6_lengths_85 : decode cX6_lengths 85 = .ok (.iaload, 1) := by decide +kernel
theorem dX6_lengths_86 : decode cX6_lengths 86 = .ok (.iload_n 3, 1) := by decide +kernel
theorem dX6_lengths_87 : decode cX6_lengths 87 = .ok (.iconst 1, 1) := by decide +kernel
theorem dX6_lengths_88 : decode cX6_lengths 88 = .ok (.isub, 1) := by decide +kernel
theorem dX6_lengths_89 : decode cX6_lengths 89 = .ok (.if_icmp .ne 15, 3) := by decide +kernel
theorem dX6_lengths_92 : decode cX6_lengths 92 = .ok (.aload_n 2, 1) := by decide +kernel
theorem dX6_lengths_93 : decode cX6_lengths 93 = .ok (.iload 5, 2) := by decide +kernel
theorem dX6_lengths_95 : decode cX6_lengths 95 = .ok (.iaload, 1) := by decide +kernel
theorem dX6_lengths_96 : decode cX6_lengths 96 = .ok (.iconst (-1), 1) := by decide +kernel
theorem dX6_lengths_97 : decode cX6_lengths 97 = .ok (.if_icmp .ne 7, 3) := by decide +kernel
theorem dX6_lengths_100 : decode cX6_lengths 100 = .ok (.iload_n 3, 1) := by decide +kernel
theorem dX6_lengths_101 : decode cX6_lengths 101 = .ok (.goto 7, 3) := by decide +kernel
theorem dX6_lengths_104 : decode cX6_lengths 104 = .ok (.aload_n 2, 1) := by decide +kernel
theorem dX6_lengths_105 : decode cX6_lengths 105 = .ok (.iload 5, 2) := by decide +kernel
theorem dX6_lengths_107 : decode cX6_lengths 107 = .ok (.iaload, 1) := by decide +kernel
theorem dX6_lengths_108 : decode cX6_lengths 108 = .ok (.iastore, 1) := by decide +kernel
theorem dX6_lengths_109 : decode cX6_lengths 109 = .ok (.iinc 5 1, 3) := by decide +kernel
theorem dX6_lengths_112 : decode cX6_lengths 112 = .ok (.goto (-55), 3) := by decide +kernel
theorem dX6_lengths_115 : decode cX6_lengths 115 = .ok (.iinc 4 1, 3) := by decide +kernel
theorem dX6_lengths_118 : decode cX6_lengths 118 = .ok (.goto (-73), 3) := by decide +kernel
theorem dX6_lengths_121 : decode cX6_lengths 121 = .ok (.iinc 3 1, 3) := by decide +kernel
theorem dX6_lengths_124 : decode cX6_lengths 124 = .ok (.goto (-90), 3) := by decide +kernel
theorem dX6_lengths_127 : decode cX6_lengths 127 = .ok (.aload_n 2, 1) := by decide +kernel
theorem dX6_lengths_128 : decode cX6_lengths 128 = .ok (.areturn, 1) := by decide +kernel
theorem mX6_lengths_0 : Cond.arrayClass .int ∈ wsX6_lengths := by decide +kernel
theorem mX6_lengths_1 : Cond.fieldLink RX6 31 "LayerwaysModel" "many" "I" ∈ wsX6_lengths := by decide +kernel
theorem iX6_lengths_X6 : ∀ w ∈ u_ws RX6 TX6 8, w ∈ wsX6_lengths := by decide +kernel
theorem mX6_lengths_3 : Cond.fieldLink RX6 15 "LayerwaysModel" "joined" "[[Z" ∈ wsX6_lengths := by decide +kernel
def sX6_lengths_7 (p0 : Int32) (s2 : Int32 × (Nat → Int32)) : Option ((Int32 × (Nat → Int32)) ⊕ (Int32 × (Nat → Int32))) := if 12 ≤ s2.1 then some (.inl (s2.1, s2.2)) else if s2.1 = p0 then if zin s2.1 12 then some (.inr ((s2.1 + 1), (upd s2.2 s2.1.toNatClampNeg 0))) else none else if zin s2.1 12 then some (.inr ((s2.1 + 1), (upd s2.2 s2.1.toNatClampNeg (-1)))) else none
def sX6_lengths_57 (mN : Int32) (mJ : (Nat → Nat → Int32)) (s56 : Int32 × (Nat → Int32)) (s74 : Int32 × (Nat → Int32)) (s80 : Int32 × (Nat → Int32)) : Option ((Int32 × (Nat → Int32)) ⊕ (Int32 × (Nat → Int32))) := if mN ≤ s80.1 then some (.inl (s80.1, s80.2)) else if zin s74.1 12 then if zin s80.1 12 then if (mJ s74.1.toNatClampNeg s80.1.toNatClampNeg) = 0 then if zin s80.1 12 then if zin s80.1 12 then some (.inr ((s80.1 + 1), (upd s80.2 s80.1.toNatClampNeg (s80.2 s80.1.toNatClampNeg)))) else none else none else if zin s74.1 12 then if (s80.2 s74.1.toNatClampNeg) = (s56.1 - 1) then if zin s80.1 12 then if (s80.2 s80.1.toNatClampNeg) = (-1) then if zin s80.1 12 then some (.inr ((s80.1 + 1), (upd s80.2 s80.1.toNatClampNeg s56.1))) else none else if zin s80.1 12 then if zin s80.1 12 then some (.inr ((s80.1 + 1), (upd s80.2 s80.1.toNatClampNeg (s80.2 s80.1.toNatClampNeg)))) else none else none else none else if zin s80.1 12 then if zin s80.1 12 then some (.inr ((s80.1 + 1), (upd s80.2 s80.1.toNatClampNeg (s80.2 s80.1.toNatClampNeg)))) else none else none else none else none else none
def sX6_lengths_45 (mN : Int32) (mJ : (Nat → Nat → Int32)) (s56 : Int32 × (Nat → Int32)) (s74 : Int32 × (Nat → Int32)) : Option ((Int32 × (Nat → Int32)) ⊕ (Int32 × (Nat → Int32))) := if mN ≤ s74.1 then some (.inl (s74.1, s74.2)) else (zloop (sX6_lengths_57 mN mJ s56 s74) 32 (0, s74.2)).bind fun e82 => some (.inr ((s74.1 + 1), e82.2))
def sX6_lengths_34 (mN : Int32) (mJ : (Nat → Nat → Int32)) (s56 : Int32 × (Nat → Int32)) : Option ((Int32 × (Nat → Int32)) ⊕ (Int32 × (Nat → Int32))) := if mN ≤ s56.1 then some (.inl (s56.1, s56.2)) else (zloop (sX6_lengths_45 mN mJ s56) 32 (0, s56.2)).bind fun e76 => some (.inr ((s56.1 + 1), e76.2))
def fX6_lengths (mN : Int32) (mJ : (Nat → Nat → Int32)) (p0 : Int32) : Option ((Nat → Int32)) := (zloop (sX6_lengths_7 p0) 32 (0, (fun _ => 0))).bind fun e4 => (zloop (sX6_lengths_34 mN mJ) 32 (1, e4.2)).bind fun e58 => some e58.2
set_option maxRecDepth 100000 in
set_option maxHeartbeats 4000000 in
theorem kX6_lengths (l : Launch) (K : zK) (aM : Nat) (aMk : Nat) (aMj : Nat) (aMc : Nat) (aMw : Nat) (aMr : (Nat → Nat))  (mN : Int32) (mS : Int32) (mX : Int32) (mT : Int32) (mK : (Nat → Int32)) (mC : (Nat → Int32)) (mW : (Nat → Int32)) (mJ : (Nat → Nat → Int32)) (p0 : Int32) (r : (Nat → Int32)) (hres : fX6_lengths mN mJ p0 = some r) : zM l K yX6_lengths wsX6_lengths ({ frames := 0, cells := 1, slots := 12, locals := 0 }) [.ref aM, .int p0] ([(aM, .inr (6, [.ref aMk, .ref aMj, .int mN, .int mS, .ref aMc, .ref aMw, .int mX, .int mT])), (aMk, .inl (K.2 0, 12, .inl mK)), (aMj, .inl (K.2 3, 12, .inr (.inr (.inr (.inr (zo aMr 12)))))), (aMc, .inl (K.2 0, 12, .inl mC)), (aMw, .inl (K.2 0, 12, .inl mW))] ++ zR12Z K aMr mJ) (fun u : Nat => some (.ref u)) (fun u : Nat => ([(aM, .inr (6, [.ref aMk, .ref aMj, .int mN, .int mS, .ref aMc, .ref aMw, .int mX, .int mT])), (aMk, .inl (K.2 0, 12, .inl mK)), (aMj, .inl (K.2 3, 12, .inr (.inr (.inr (.inr (zo aMr 12)))))), (aMc, .inl (K.2 0, 12, .inl mC)), (aMw, .inl (K.2 0, 12, .inl mW))] ++ zR12Z K aMr mJ ++ [(u, .inl (K.2 0, 12, .inl r))])) 1 12 := by
  refine zM.intA (cc := cX6_lengths) (maxL := 6) (ret := (some (.array .int))) rfl (by decide) (Nat.le_of_ble_eq_true rfl) rfl ?_
  intro G hGl hG hN hE
  have hR : ∀ (q0 : Nat) (pc : Nat) (lv : zL), decode cX6_lengths pc = .ok (.areturn, 1) → zj G pc lv [.ref q0] ([(aM, .inr (6, [.ref aMk, .ref aMj, .int mN, .int mS, .ref aMc, .ref aMw, .int mX, .int mT])), (aMk, .inl (K.2 0, 12, .inl mK)), (aMj, .inl (K.2 3, 12, .inr (.inr (.inr (.inr (zo aMr 12)))))), (aMc, .inl (K.2 0, 12, .inl mC)), (aMw, .inl (K.2 0, 12, .inl mW))] ++ zR12Z K aMr mJ ++ [(q0, .inl (K.2 0, 12, .inl r))]) 1 12 := fun q0 pc lv d => hE q0 _ rfl pc lv d
  clear hE
  unfold fX6_lengths at hres
  show zj G 0 [(0, .ref aM), (1, .int p0)] [] ([(aM, .inr (6, [.ref aMk, .ref aMj, .int mN, .int mS, .ref aMc, .ref aMw, .int mX, .int mT])), (aMk, .inl (K.2 0, 12, .inl mK)), (aMj, .inl (K.2 3, 12, .inr (.inr (.inr (.inr (zo aMr 12)))))), (aMc, .inl (K.2 0, 12, .inl mC)), (aMw, .inl (K.2 0, 12, .inl mW))] ++ zR12Z K aMr mJ) 0 0
  refine z_bipush 12 hG dX6_lengths_0 (by decide) ?_
  refine z_newI (ws0 := []) (N' := 12) hG dX6_lengths_2 mX6_lengths_0 (by decide) (by decide) (by decide) (Nat.le_of_ble_eq_true rfl) (Nat.le_of_ble_eq_true rfl) (fun q1 => ?_)
  show zj G 4 [(0, .ref aM), (1, .int p0)] [.ref q1] ([(aM, .inr (6, [.ref aMk, .ref aMj, .int mN, .int mS, .ref aMc, .ref aMw, .int mX, .int mT])), (aMk, .inl (K.2 0, 12, .inl mK)), (aMj, .inl (K.2 3, 12, .inr (.inr (.inr (.inr (zo aMr 12)))))), (aMc, .inl (K.2 0, 12, .inl mC)), (aMw, .inl (K.2 0, 12, .inl mW))] ++ zR12Z K aMr mJ ++ [(q1, .inl (K.2 0, 12, .inl (fun _ => 0)))]) 1 12
  refine z_astore_n (lv' := [(2, .ref q1), (0, .ref aM), (1, .int p0)]) hG dX6_lengths_4 (by decide) rfl ?_
  refine z_iconst 0 hG dX6_lengths_5 (by decide) ?_
  refine z_istore_n (lv' := [(3, .int 0), (2, .ref q1), (0, .ref aM), (1, .int p0)]) hG dX6_lengths_6 (by decide) rfl ?_
  obtain ⟨e4, hx, hres⟩ := z_bind hres
  refine z_lv [2, 3, 1, 0] (lv' := [(0, .ref aM), (1, .int p0), (2, .ref q1), (3, .int 0)]) rfl ?_
  refine z_loop hx (fun s2 : Int32 × (Nat → Int32) => [(0, .ref aM), (1, .int p0), (2, .ref q1), (3, .int s2.1)]) (fun s2 : Int32 × (Nat → Int32) => ([(aM, .inr (6, [.ref aMk, .ref aMj, .int mN, .int mS, .ref aMc, .ref aMw, .int mX, .int mT])), (aMk, .inl (K.2 0, 12, .inl mK)), (aMj, .inl (K.2 3, 12, .inr (.inr (.inr (.inr (zo aMr 12)))))), (aMc, .inl (K.2 0, 12, .inl mC)), (aMw, .inl (K.2 0, 12, .inl mW))] ++ zR12Z K aMr mJ ++ [(q1, .inl (K.2 0, 12, .inl s2.2))])) (fun e4 : Int32 × (Nat → Int32) => zj G 32 [(0, .ref aM), (1, .int p0), (2, .ref q1), (3, .int e4.1)] [] ([(aM, .inr (6, [.ref aMk, .ref aMj, .int mN, .int mS, .ref aMc, .ref aMw, .int mX, .int mT])), (aMk, .inl (K.2 0, 12, .inl mK)), (aMj, .inl (K.2 3, 12, .inr (.inr (.inr (.inr (zo aMr 12)))))), (aMc, .inl (K.2 0, 12, .inl mC)), (aMw, .inl (K.2 0, 12, .inl mW))] ++ zR12Z K aMr mJ ++ [(q1, .inl (K.2 0, 12, .inl e4.2))]) 1 12) ?_ ?_
  · refine z_iconst 1 hG dX6_lengths_32 (by decide) ?_
    refine z_istore_n (lv' := [(3, .int 1), (0, .ref aM), (1, .int p0), (2, .ref q1)]) hG dX6_lengths_33 (by decide) rfl ?_
    obtain ⟨e58, hx, hres⟩ := z_bind hres
    refine z_lv [1, 2, 3, 0] (lv' := [(0, .ref aM), (1, .int p0), (2, .ref q1), (3, .int 1)]) rfl ?_
    refine z_loop hx (fun s56 : Int32 × (Nat → Int32) => [(0, .ref aM), (1, .int p0), (2, .ref q1), (3, .int s56.1)]) (fun s56 : Int32 × (Nat → Int32) => ([(aM, .inr (6, [.ref aMk, .ref aMj, .int mN, .int mS, .ref aMc, .ref aMw, .int mX, .int mT])), (aMk, .inl (K.2 0, 12, .inl mK)), (aMj, .inl (K.2 3, 12, .inr (.inr (.inr (.inr (zo aMr 12)))))), (aMc, .inl (K.2 0, 12, .inl mC)), (aMw, .inl (K.2 0, 12, .inl mW))] ++ zR12Z K aMr mJ ++ [(q1, .inl (K.2 0, 12, .inl s56.2))])) (fun e58 : Int32 × (Nat → Int32) => zj G 127 [(0, .ref aM), (1, .int p0), (2, .ref q1), (3, .int e58.1)] [] ([(aM, .inr (6, [.ref aMk, .ref aMj, .int mN, .int mS, .ref aMc, .ref aMw, .int mX, .int mT])), (aMk, .inl (K.2 0, 12, .inl mK)), (aMj, .inl (K.2 3, 12, .inr (.inr (.inr (.inr (zo aMr 12)))))), (aMc, .inl (K.2 0, 12, .inl mC)), (aMw, .inl (K.2 0, 12, .inl mW))] ++ zR12Z K aMr mJ ++ [(q1, .inl (K.2 0, 12, .inl e58.2))]) 1 12) ?_ ?_
    · refine z_aload_n hG dX6_lengths_127 2 rfl ?_
      obtain rfl := Option.some.inj hres
      exact (hR q1 _ _ dX6_lengths_128)
    · intro s56 w57 hres hX hB
      unfold sX6_lengths_34 at hres
      refine z_iload_n hG dX6_lengths_34 3 rfl ?_
      refine z_aload_n hG dX6_lengths_35 0 rfl ?_
      refine z_get (ci := 6) (C := RX6) (T := TX6) (N := 8) hG dX6_lengths_36 iX6_lengths_X6 2 (by decide) mX6_lengths_1 rfl rfl 0 rfl rfl ?_
      refine z_icmp_ge 127 hG dX6_lengths_39 (by decide) (fun c => ?_) (fun c => ?_)
      · replace hres := z_ifp c hres
        exact (hX (s56.1, s56.2) (Option.some.inj hres).symm)
      · replace hres := z_ifn c hres
        refine z_iconst 0 hG dX6_lengths_42 (by decide) ?_
        refine z_istore (lv' := [(4, .int 0), (0, .ref aM), (1, .int p0), (2, .ref q1), (3, .int s56.1)]) hG dX6_lengths_43 (by decide) rfl ?_
        obtain ⟨e76, hx, hres⟩ := z_bind hres
        refine z_lv [1, 2, 3, 4, 0] (lv' := [(0, .ref aM), (1, .int p0), (2, .ref q1), (3, .int s56.1), (4, .int 0)]) rfl ?_
        refine z_loop hx (fun s74 : Int32 × (Nat → Int32) => [(0, .ref aM), (1, .int p0), (2, .ref q1), (3, .int s56.1), (4, .int s74.1)]) (fun s74 : Int32 × (Nat → Int32) => ([(aM, .inr (6, [.ref aMk, .ref aMj, .int mN, .int mS, .ref aMc, .ref aMw, .int mX, .int mT])), (aMk, .inl (K.2 0, 12, .inl mK)), (aMj, .inl (K.2 3, 12, .inr (.inr (.inr (.inr (zo aMr 12)))))), (aMc, .inl (K.2 0, 12, .inl mC)), (aMw, .inl (K.2 0, 12, .inl mW))] ++ zR12Z K aMr mJ ++ [(q1, .inl (K.2 0, 12, .inl s74.2))])) (fun e76 : Int32 × (Nat → Int32) => zj G 121 [(0, .ref aM), (1, .int p0), (2, .ref q1), (3, .int s56.1), (4, .int e76.1)] [] ([(aM, .inr (6, [.ref aMk, .ref aMj, .int mN, .int mS, .ref aMc, .ref aMw, .int mX, .int mT])), (aMk, .inl (K.2 0, 12, .inl mK)), (aMj, .inl (K.2 3, 12, .inr (.inr (.inr (.inr (zo aMr 12)))))), (aMc, .inl (K.2 0, 12, .inl mC)), (aMw, .inl (K.2 0, 12, .inl mW))] ++ zR12Z K aMr mJ ++ [(q1, .inl (K.2 0, 12, .inl e76.2))]) 1 12) ?_ ?_
        · refine z_iinc (s56.1 + 1) (lv' := [(3, .int (s56.1 + 1)), (0, .ref aM), (1, .int p0), (2, .ref q1), (4, .int e76.1)]) hG dX6_lengths_121 3 rfl rfl (by decide) rfl ?_
          refine z_goto 34 hG dX6_lengths_124 (by decide) ?_
          exact (z_lv [1, 2, 3, 0] rfl (hB ((s56.1 + 1), e76.2) (Option.some.inj hres).symm))
        · intro s74 w75 hres hX hB
          unfold sX6_lengths_45 at hres
          refine z_iload hG dX6_lengths_45 4 rfl ?_
          refine z_aload_n hG dX6_lengths_47 0 rfl ?_
          refine z_get (ci := 6) (C := RX6) (T := TX6) (N := 8) hG dX6_lengths_48 iX6_lengths_X6 2 (by decide) mX6_lengths_1 rfl rfl 0 rfl rfl ?_
          refine z_icmp_ge 121 hG dX6_lengths_51 (by decide) (fun c => ?_) (fun c => ?_)
          · replace hres := z_ifp c hres
            exact (hX (s74.1, s74.2) (Option.some.inj hres).symm)
          · replace hres := z_ifn c hres
            refine z_iconst 0 hG dX6_lengths_54 (by decide) ?_
            refine z_istore (lv' := [(5, .int 0), (0, .ref aM), (1, .int p0), (2, .ref q1), (3, .int s56.1), (4, .int s74.1)]) hG dX6_lengths_55 (by decide) rfl ?_
            obtain ⟨e82, hx, hres⟩ := z_bind hres
            refine z_lv [1, 2, 3, 4, 5, 0] (lv' := [(0, .ref aM), (1, .int p0), (2, .ref q1), (3, .int s56.1), (4, .int s74.1), (5, .int 0)]) rfl ?_
            refine z_loop hx (fun s80 : Int32 × (Nat → Int32) => [(0, .ref aM), (1, .int p0), (2, .ref q1), (3, .int s56.1), (4, .int s74.1), (5, .int s80.1)]) (fun s80 : Int32 × (Nat → Int32) => ([(aM, .inr (6, [.ref aMk, .ref aMj, .int mN, .int mS, .ref aMc, .ref aMw, .int mX, .int mT])), (aMk, .inl (K.2 0, 12, .inl mK)), (aMj, .inl (K.2 3, 12, .inr (.inr (.inr (.inr (zo aMr 12)))))), (aMc, .inl (K.2 0, 12, .inl mC)), (aMw, .inl (K.2 0, 12, .inl mW))] ++ zR12Z K aMr mJ ++ [(q1, .inl (K.2 0, 12, .inl s80.2))])) (fun e82 : Int32 × (Nat → Int32) => zj G 115 [(0, .ref aM), (1, .int p0), (2, .ref q1), (3, .int s56.1), (4, .int s74.1), (5, .int e82.1)] [] ([(aM, .inr (6, [.ref aMk, .ref aMj, .int mN, .int mS, .ref aMc, .ref aMw, .int mX, .int mT])), (aMk, .inl (K.2 0, 12, .inl mK)), (aMj, .inl (K.2 3, 12, .inr (.inr (.inr (.inr (zo aMr 12)))))), (aMc, .inl (K.2 0, 12, .inl mC)), (aMw, .inl (K.2 0, 12, .inl mW))] ++ zR12Z K aMr mJ ++ [(q1, .inl (K.2 0, 12, .inl e82.2))]) 1 12) ?_ ?_
            · refine z_iinc (s74.1 + 1) (lv' := [(4, .int (s74.1 + 1)), (0, .ref aM), (1, .int p0), (2, .ref q1), (3, .int s56.1), (5, .int e82.1)]) hG dX6_lengths_115 4 rfl rfl (by decide) rfl ?_
              refine z_goto 45 hG dX6_lengths_118 (by decide) ?_
              exact (z_lv [1, 2, 3, 4, 0] rfl (hB ((s74.1 + 1), e82.2) (Option.some.inj hres).symm))
            · intro s80 w81 hres hX hB
              unfold sX6_lengths_57 at hres
              refine z_iload hG dX6_lengths_57 5 rfl ?_
              refine z_aload_n hG dX6_lengths_59 0 rfl ?_
              refine z_get (ci := 6) (C := RX6) (T := TX6) (N := 8) hG dX6_lengths_60 iX6_lengths_X6 2 (by decide) mX6_lengths_1 rfl rfl 0 rfl rfl ?_
              refine z_icmp_ge 115 hG dX6_lengths_63 (by decide) (fun c => ?_) (fun c => ?_)
              · replace hres := z_ifp c hres
                exact (hX (s80.1, s80.2) (Option.some.inj hres).symm)
              · replace hres := z_ifn c hres
                refine z_aload_n hG dX6_lengths_66 2 rfl ?_
                refine z_iload hG dX6_lengths_67 5 rfl ?_
                refine z_aload_n hG dX6_lengths_69 0 rfl ?_
                refine z_get (ci := 6) (C := RX6) (T := TX6) (N := 8) hG dX6_lengths_70 iX6_lengths_X6 1 (by decide) mX6_lengths_3 rfl rfl 0 rfl rfl ?_
                refine z_iload hG dX6_lengths_73 4 rfl ?_
                obtain ⟨hr84, hres⟩ := z_guard hres
                refine z_aaldZ hG dX6_lengths_75 2 rfl hr84 ?_
                refine z_iload hG dX6_lengths_76 5 rfl ?_
                obtain ⟨hg, hres⟩ := z_guard hres
                refine z_zaldG (M := mJ) hG dX6_lengths_78 5 (z_12 rfl rfl rfl rfl rfl rfl rfl rfl rfl rfl rfl rfl) hr84 hg ?_
                refine z_if_eq 104 hG dX6_lengths_79 (by decide) (fun c => ?_) (fun c => ?_)
                · replace hres := z_ifp c hres
                  refine z_aload_n hG dX6_lengths_104 2 rfl ?_
                  refine z_iload hG dX6_lengths_105 5 rfl ?_
                  obtain ⟨hg, hres⟩ := z_guard hres
                  refine z_iald hG dX6_lengths_107 17 rfl hg ?_
                  obtain ⟨hg, hres⟩ := z_guard hres
                  refine z_iast (ws' := ([(aM, .inr (6, [.ref aMk, .ref aMj, .int mN, .int mS, .ref aMc, .ref aMw, .int mX, .int mT])), (aMk, .inl (K.2 0, 12, .inl mK)), (aMj, .inl (K.2 3, 12, .inr (.inr (.inr (.inr (zo aMr 12)))))), (aMc, .inl (K.2 0, 12, .inl mC)), (aMw, .inl (K.2 0, 12, .inl mW))] ++ zR12Z K aMr mJ ++ [(q1, .inl (K.2 0, 12, .inl (upd s80.2 s80.1.toNatClampNeg (s80.2 s80.1.toNatClampNeg))))])) hG dX6_lengths_108 17 rfl hg rfl ?_
                  refine z_iinc (s80.1 + 1) (lv' := [(5, .int (s80.1 + 1)), (0, .ref aM), (1, .int p0), (2, .ref q1), (3, .int s56.1), (4, .int s74.1)]) hG dX6_lengths_109 5 rfl rfl (by decide) rfl ?_
                  refine z_goto 57 hG dX6_lengths_112 (by decide) ?_
                  exact (z_lv [1, 2, 3, 4, 5, 0] rfl (hB ((s80.1 + 1), (upd s80.2 s80.1.toNatClampNeg (s80.2 s80.1.toNatClampNeg))) (Option.some.inj hres).symm))
                · replace hres := z_ifn c hres
                  refine z_aload_n hG dX6_lengths_82 2 rfl ?_
                  refine z_iload hG dX6_lengths_83 4 rfl ?_
                  obtain ⟨hg, hres⟩ := z_guard hres
                  refine z_iald hG dX6_lengths_85 17 rfl hg ?_
                  refine z_iload_n hG dX6_lengths_86 3 rfl ?_
                  refine z_iconst 1 hG dX6_lengths_87 (by decide) ?_
                  refine z_isub hG dX6_lengths_88 ?_
                  refine z_icmp_ne 104 hG dX6_lengths_89 (by decide) (fun c => ?_) (fun c => ?_)
                  · replace hres := z_ifn c hres
                    refine z_aload_n hG dX6_lengths_104 2 rfl ?_
                    refine z_iload hG dX6_lengths_105 5 rfl ?_
                    obtain ⟨hg, hres⟩ := z_guard hres
                    refine z_iald hG dX6_lengths_107 17 rfl hg ?_
                    obtain ⟨hg, hres⟩ := z_guard hres
                    refine z_iast (ws' := ([(aM, .inr (6, [.ref aMk, .ref aMj, .int mN, .int mS, .ref aMc, .ref aMw, .int mX, .int mT])), (aMk, .inl (K.2 0, 12, .inl mK)), (aMj, .inl (K.2 3, 12, .inr (.inr (.inr (.inr (zo aMr 12)))))), (aMc, .inl (K.2 0, 12, .inl mC)), (aMw, .inl (K.2 0, 12, .inl mW))] ++ zR12Z K aMr mJ ++ [(q1, .inl (K.2 0, 12, .inl (upd s80.2 s80.1.toNatClampNeg (s80.2 s80.1.toNatClampNeg))))])) hG dX6_lengths_108 17 rfl hg rfl ?_
                    refine z_iinc (s80.1 + 1) (lv' := [(5, .int (s80.1 + 1)), (0, .ref aM), (1, .int p0), (2, .ref q1), (3, .int s56.1), (4, .int s74.1)]) hG dX6_lengths_109 5 rfl rfl (by decide) rfl ?_
                    refine z_goto 57 hG dX6_lengths_112 (by decide) ?_
                    exact (z_lv [1, 2, 3, 4, 5, 0] rfl (hB ((s80.1 + 1), (upd s80.2 s80.1.toNatClampNeg (s80.2 s80.1.toNatClampNeg))) (Option.some.inj hres).symm))
                  · replace hres := z_ifp c hres
                    refine z_aload_n hG dX6_lengths_92 2 rfl ?_
                    refine z_iload hG dX6_lengths_93 5 rfl ?_
                    obtain ⟨hg, hres⟩ := z_guard hres
                    refine z_iald hG dX6_lengths_95 17 rfl hg ?_
                    refine z_iconst (-1) hG dX6_lengths_96 (by decide) ?_
                    refine z_icmp_ne 104 hG dX6_lengths_97 (by decide) (fun c => ?_) (fun c => ?_)
                    · replace hres := z_ifn c hres
                      refine z_aload_n hG dX6_lengths_104 2 rfl ?_
                      refine z_iload hG dX6_lengths_105 5 rfl ?_
                      obtain ⟨hg, hres⟩ := z_guard hres
                      refine z_iald hG dX6_lengths_107 17 rfl hg ?_
                      obtain ⟨hg, hres⟩ := z_guard hres
                      refine z_iast (ws' := ([(aM, .inr (6, [.ref aMk, .ref aMj, .int mN, .int mS, .ref aMc, .ref aMw, .int mX, .int mT])), (aMk, .inl (K.2 0, 12, .inl mK)), (aMj, .inl (K.2 3, 12, .inr (.inr (.inr (.inr (zo aMr 12)))))), (aMc, .inl (K.2 0, 12, .inl mC)), (aMw, .inl (K.2 0, 12, .inl mW))] ++ zR12Z K aMr mJ ++ [(q1, .inl (K.2 0, 12, .inl (upd s80.2 s80.1.toNatClampNeg (s80.2 s80.1.toNatClampNeg))))])) hG dX6_lengths_108 17 rfl hg rfl ?_
                      refine z_iinc (s80.1 + 1) (lv' := [(5, .int (s80.1 + 1)), (0, .ref aM), (1, .int p0), (2, .ref q1), (3, .int s56.1), (4, .int s74.1)]) hG dX6_lengths_109 5 rfl rfl (by decide) rfl ?_
                      refine z_goto 57 hG dX6_lengths_112 (by decide) ?_
                      exact (z_lv [1, 2, 3, 4, 5, 0] rfl (hB ((s80.1 + 1), (upd s80.2 s80.1.toNatClampNeg (s80.2 s80.1.toNatClampNeg))) (Option.some.inj hres).symm))
                    · replace hres := z_ifp c hres
                      refine z_iload_n hG dX6_lengths_100 3 rfl ?_
                      refine z_goto 108 hG dX6_lengths_101 (by decide) ?_
                      obtain ⟨hg, hres⟩ := z_guard hres
                      refine z_iast (ws' := ([(aM, .inr (6, [.ref aMk, .ref aMj, .int mN, .int mS, .ref aMc, .ref aMw, .int mX, .int mT])), (aMk, .inl (K.2 0, 12, .inl mK)), (aMj, .inl (K.2 3, 12, .inr (.inr (.inr (.inr (zo aMr 12)))))), (aMc, .inl (K.2 0, 12, .inl mC)), (aMw, .inl (K.2 0, 12, .inl mW))] ++ zR12Z K aMr mJ ++ [(q1, .inl (K.2 0, 12, .inl (upd s80.2 s80.1.toNatClampNeg s56.1)))])) hG dX6_lengths_108 17 rfl hg rfl ?_
                      refine z_iinc (s80.1 + 1) (lv' := [(5, .int (s80.1 + 1)), (0, .ref aM), (1, .int p0), (2, .ref q1), (3, .int s56.1), (4, .int s74.1)]) hG dX6_lengths_109 5 rfl rfl (by decide) rfl ?_
                      refine z_goto 57 hG dX6_lengths_112 (by decide) ?_
                      exact (z_lv [1, 2, 3, 4, 5, 0] rfl (hB ((s80.1 + 1), (upd s80.2 s80.1.toNatClampNeg s56.1)) (Option.some.inj hres).symm))
  · intro s2 w3 hres hX hB
    unfold sX6_lengths_7 at hres
    refine z_iload_n hG dX6_lengths_7 3 rfl ?_
    refine z_bipush 12 hG dX6_lengths_8 (by decide) ?_
    refine z_icmp_ge 32 hG dX6_lengths_10 (by decide) (fun c => ?_) (fun c => ?_)
    · replace hres := z_ifp c hres
      exact (hX (s2.1, s2.2) (Option.some.inj hres).symm)
    · replace hres := z_ifn c hres
      refine z_aload_n hG dX6_lengths_13 2 rfl ?_
      refine z_iload_n hG dX6_lengths_14 3 rfl ?_
      refine z_iload_n hG dX6_lengths_15 3 rfl ?_
      refine z_iload_n hG dX6_lengths_16 1 rfl ?_
      refine z_icmp_ne 24 hG dX6_lengths_17 (by decide) (fun c => ?_) (fun c => ?_)
      · replace hres := z_ifn c hres
        refine z_iconst (-1) hG dX6_lengths_24 (by decide) ?_
        obtain ⟨hg, hres⟩ := z_guard hres
        refine z_iast (ws' := ([(aM, .inr (6, [.ref aMk, .ref aMj, .int mN, .int mS, .ref aMc, .ref aMw, .int mX, .int mT])), (aMk, .inl (K.2 0, 12, .inl mK)), (aMj, .inl (K.2 3, 12, .inr (.inr (.inr (.inr (zo aMr 12)))))), (aMc, .inl (K.2 0, 12, .inl mC)), (aMw, .inl (K.2 0, 12, .inl mW))] ++ zR12Z K aMr mJ ++ [(q1, .inl (K.2 0, 12, .inl (upd s2.2 s2.1.toNatClampNeg (-1))))])) hG dX6_lengths_25 17 rfl hg rfl ?_
        refine z_iinc (s2.1 + 1) (lv' := [(3, .int (s2.1 + 1)), (0, .ref aM), (1, .int p0), (2, .ref q1)]) hG dX6_lengths_26 3 rfl rfl (by decide) rfl ?_
        refine z_goto 7 hG dX6_lengths_29 (by decide) ?_
        exact (z_lv [1, 2, 3, 0] rfl (hB ((s2.1 + 1), (upd s2.2 s2.1.toNatClampNeg (-1))) (Option.some.inj hres).symm))
      · replace hres := z_ifp c hres
        refine z_iconst 0 hG dX6_lengths_20 (by decide) ?_
        refine z_goto 25 hG dX6_lengths_21 (by decide) ?_
        obtain ⟨hg, hres⟩ := z_guard hres
        refine z_iast (ws' := ([(aM, .inr (6, [.ref aMk, .ref aMj, .int mN, .int mS, .ref aMc, .ref aMw, .int mX, .int mT])), (aMk, .inl (K.2 0, 12, .inl mK)), (aMj, .inl (K.2 3, 12, .inr (.inr (.inr (.inr (zo aMr 12)))))), (aMc, .inl (K.2 0, 12, .inl mC)), (aMw, .inl (K.2 0, 12, .inl mW))] ++ zR12Z K aMr mJ ++ [(q1, .inl (K.2 0, 12, .inl (upd s2.2 s2.1.toNatClampNeg 0)))])) hG dX6_lengths_25 17 rfl hg rfl ?_
        refine z_iinc (s2.1 + 1) (lv' := [(3, .int (s2.1 + 1)), (0, .ref aM), (1, .int p0), (2, .ref q1)]) hG dX6_lengths_26 3 rfl rfl (by decide) rfl ?_
        refine z_goto 7 hG dX6_lengths_29 (by decide) ?_
        exact (z_lv [1, 2, 3, 0] rfl (hB ((s2.1 + 1), (upd s2.2 s2.1.toNatClampNeg 0)) (Option.some.inj hres).symm))

theorem dX6_greatest_0 : decode cX6_greatest 0 = .ok (.iconst 0, 1) := by decide +kernel
theorem dX6_greatest_1 : decode cX6_greatest 1 = .ok (.istore_n 2, 1) := by decide +kernel
theorem dX6_greatest_2 : decode cX6_greatest 2 = .ok (.iconst 0, 1) := by decide +kernel
theorem dX6_greatest_3 : decode cX6_greatest 3 = .ok (.istore_n 3, 1) := by decide +kernel
theorem dX6_greatest_4 : decode cX6_greatest 4 = .ok (.iload_n 3, 1) := by decide +kernel
theorem dX6_greatest_5 : decode cX6_greatest 5 = .ok (.aload_n 0, 1) := by decide +kernel
theorem dX6_greatest_6 : decode cX6_greatest 6 = .ok (.getfield 31, 3) := by decide +kernel
theorem dX6_greatest_9 : decode cX6_greatest 9 = .ok (.if_icmp .ge 24, 3) := by decide +kernel
theorem dX6_greatest_12 : decode cX6_greatest 12 = .ok (.aload_n 1, 1) := by decide +kernel
theorem dX6_greatest_13 : decode cX6_greatest 13 = .ok (.iload_n 3, 1) := by decide +kernel
theorem dX6_greatest_14 : decode cX6_greatest 14 = .ok (.iaload, 1) := by decide +kernel
theorem dX6_greatest_15 : decode cX6_greatest 15 = .ok (.iload_n 2, 1) := by decide +kernel
theorem dX6_greatest_16 : decode cX6_greatest 16 = .ok (.if_icmp .le 9, 3) := by decide +kernel
theorem dX6_greatest_19 : decode cX6_greatest 19 = .ok (.aload_n 1, 1) := by decide +kernel
theorem dX6_greatest_20 : decode cX6_greatest 20 = .ok (.iload_n 3, 1) := by decide +kernel
theorem dX6_greatest_21 : decode cX6_greatest 21 = .ok (.iaload, 1) := by decide +kernel
theorem dX6_greatest_22 : decode cX6_greatest 22 = .ok (.goto 4, 3) := by decide +kernel
theorem dX6_greatest_25 : decode cX6_greatest 25 = .ok (.iload_n 2, 1) := by decide +kernel
theorem dX6_greatest_26 : decode cX6_greatest 26 = .ok (.istore_n 2, 1) := by decide +kernel
theorem dX6_greatest_27 : decode cX6_greatest 27 = .ok (.iinc 3 1, 3) := by decide +kernel
theorem dX6_greatest_30 : decode cX6_greatest 30 = .ok (.goto (-26), 3) := by decide +kernel
theorem dX6_greatest_33 : decode cX6_greatest 33 = .ok (.iload_n 2, 1) := by decide +kernel
theorem dX6_greatest_34 : decode cX6_greatest 34 = .ok (.ireturn, 1) := by decide +kernel
theorem mX6_greatest_0 : Cond.fieldLink RX6 31 "LayerwaysModel" "many" "I" ∈ wsX6_greatest := by decide +kernel
theorem iX6_greatest_X6 : ∀ w ∈ u_ws RX6 TX6 8, w ∈ wsX6_greatest := by decide +kernel
def sX6_greatest_4 (mN : Int32) (pL : (Nat → Int32)) (s1 : Int32 × Int32) : Option ((Int32 × Int32) ⊕ (Int32 × Int32)) := if mN ≤ s1.2 then some (.inl (s1.1, s1.2)) else if zin s1.2 12 then if (pL s1.2.toNatClampNeg) ≤ s1.1 then some (.inr (s1.1, (s1.2 + 1))) else if zin s1.2 12 then some (.inr ((pL s1.2.toNatClampNeg), (s1.2 + 1))) else none else none
def fX6_greatest (mN : Int32) (pL : (Nat → Int32)) : Option (Int32) := (zloop (sX6_greatest_4 mN pL) 32 (0, 0)).bind fun e3 => some e3.1
set_option maxRecDepth 100000 in
set_option maxHeartbeats 4000000 in
theorem kX6_greatest (l : Launch) (K : zK) (aM : Nat) (aP : Nat) (aMk : Nat) (aMj : Nat) (aMc : Nat) (aMw : Nat)  (mN : Int32) (mS : Int32) (mX : Int32) (mT : Int32) (pL : (Nat → Int32)) (r : Int32) (hres : fX6_greatest mN pL = some r) : zM l K yX6_greatest wsX6_greatest ({ frames := 0, cells := 0, slots := 0, locals := 0 }) [.ref aM, .ref aP] [(aM, .inr (6, [.ref aMk, .ref aMj, .int mN, .int mS, .ref aMc, .ref aMw, .int mX, .int mT])), (aP, .inl (K.2 0, 12, .inl pL))] (fun _ : Unit => some (.int r)) (fun _ : Unit => [(aM, .inr (6, [.ref aMk, .ref aMj, .int mN, .int mS, .ref aMc, .ref aMw, .int mX, .int mT])), (aP, .inl (K.2 0, 12, .inl pL))]) 0 0 := by
  refine zM.intI (cc := cX6_greatest) (maxL := 4) (ret := (some .int)) rfl (by decide) (Nat.le_of_ble_eq_true rfl) rfl ?_
  intro G hGl hG hN hE
  have hR : ∀ (pc : Nat) (lv : zL), decode cX6_greatest pc = .ok (.ireturn, 1) → zj G pc lv [.int r] [(aM, .inr (6, [.ref aMk, .ref aMj, .int mN, .int mS, .ref aMc, .ref aMw, .int mX, .int mT])), (aP, .inl (K.2 0, 12, .inl pL))] 0 0 := fun pc lv d => hE () _ rfl pc lv d
  clear hE
  unfold fX6_greatest at hres
  show zj G 0 [(0, .ref aM), (1, .ref aP)] [] [(aM, .inr (6, [.ref aMk, .ref aMj, .int mN, .int mS, .ref aMc, .ref aMw, .int mX, .int mT])), (aP, .inl (K.2 0, 12, .inl pL))] 0 0
  refine z_iconst 0 hG dX6_greatest_0 (by decide) ?_
  refine z_istore_n (lv' := [(2, .int 0), (0, .ref aM), (1, .ref aP)]) hG dX6_greatest_1 (by decide) rfl ?_
  refine z_iconst 0 hG dX6_greatest_2 (by decide) ?_
  refine z_istore_n (lv' := [(3, .int 0), (2, .int 0), (0, .ref aM), (1, .ref aP)]) hG dX6_greatest_3 (by decide) rfl ?_
  obtain ⟨e3, hx, hres⟩ := z_bind hres
  refine z_lv [2, 3, 1, 0] (lv' := [(0, .ref aM), (1, .ref aP), (2, .int 0), (3, .int 0)]) rfl ?_
  refine z_loop hx (fun s1 : Int32 × Int32 => [(0, .ref aM), (1, .ref aP), (2, .int s1.1), (3, .int s1.2)]) (fun s1 : Int32 × Int32 => [(aM, .inr (6, [.ref aMk, .ref aMj, .int mN, .int mS, .ref aMc, .ref aMw, .int mX, .int mT])), (aP, .inl (K.2 0, 12, .inl pL))]) (fun e3 : Int32 × Int32 => zj G 33 [(0, .ref aM), (1, .ref aP), (2, .int e3.1), (3, .int e3.2)] [] [(aM, .inr (6, [.ref aMk, .ref aMj, .int mN, .int mS, .ref aMc, .ref aMw, .int mX, .int mT])), (aP, .inl (K.2 0, 12, .inl pL))] 0 0) ?_ ?_
  · refine z_iload_n hG dX6_greatest_33 2 rfl ?_
    obtain rfl := Option.some.inj hres
    exact (hR _ _ dX6_greatest_34)
  · intro s1 w2 hres hX hB
    unfold sX6_greatest_4 at hres
    refine z_iload_n hG dX6_greatest_4 3 rfl ?_
    refine z_aload_n hG dX6_greatest_5 0 rfl ?_
    refine z_get (ci := 6) (C := RX6) (T := TX6) (N := 8) hG dX6_greatest_6 iX6_greatest_X6 2 (by decide) mX6_greatest_0 rfl rfl 0 rfl rfl ?_
    refine z_icmp_ge 33 hG dX6_greatest_9 (by decide) (fun c => ?_) (fun c => ?_)
    · replace hres := z_ifp c hres
      exact (hX (s1.1, s1.2) (Option.some.inj hres).symm)
    · replace hres := z_ifn c hres
      refine z_aload_n hG dX6_greatest_12 1 rfl ?_
      refine z_iload_n hG dX6_greatest_13 3 rfl ?_
      obtain ⟨hg, hres⟩ := z_guard hres
      refine z_iald hG dX6_greatest_14 1 rfl hg ?_
      refine z_iload_n hG dX6_greatest_15 2 rfl ?_
      refine z_icmp_le 25 hG dX6_greatest_16 (by decide) (fun c => ?_) (fun c => ?_)
      · replace hres := z_ifp c hres
        refine z_iload_n hG dX6_greatest_25 2 rfl ?_
        refine z_istore_n (lv' := [(2, .int s1.1), (0, .ref aM), (1, .ref aP), (3, .int s1.2)]) hG dX6_greatest_26 (by decide) rfl ?_
        refine z_iinc (s1.2 + 1) (lv' := [(3, .int (s1.2 + 1)), (2, .int s1.1), (0, .ref aM), (1, .ref aP)]) hG dX6_greatest_27 3 rfl rfl (by decide) rfl ?_
        refine z_goto 4 hG dX6_greatest_30 (by decide) ?_
        exact (z_lv [2, 3, 1, 0] rfl (hB (s1.1, (s1.2 + 1)) (Option.some.inj hres).symm))
      · replace hres := z_ifn c hres
        refine z_aload_n hG dX6_greatest_19 1 rfl ?_
        refine z_iload_n hG dX6_greatest_20 3 rfl ?_
        obtain ⟨hg, hres⟩ := z_guard hres
        refine z_iald hG dX6_greatest_21 1 rfl hg ?_
        refine z_goto 26 hG dX6_greatest_22 (by decide) ?_
        refine z_istore_n (lv' := [(2, .int (pL s1.2.toNatClampNeg)), (0, .ref aM), (1, .ref aP), (3, .int s1.2)]) hG dX6_greatest_26 (by decide) rfl ?_
        refine z_iinc (s1.2 + 1) (lv' := [(3, .int (s1.2 + 1)), (2, .int (pL s1.2.toNatClampNeg)), (0, .ref aM), (1, .ref aP)]) hG dX6_greatest_27 3 rfl rfl (by decide) rfl ?_
        refine z_goto 4 hG dX6_greatest_30 (by decide) ?_
        exact (z_lv [2, 3, 1, 0] rfl (hB ((pL s1.2.toNatClampNeg), (s1.2 + 1)) (Option.some.inj hres).symm))

theorem dX6_having_0 : decode cX6_having 0 = .ok (.iconst 0, 1) := by decide +kernel
theorem dX6_having_1 : decode cX6_having 1 = .ok (.istore_n 3, 1) := by decide +kernel
theorem dX6_having_2 : decode cX6_having 2 = .ok (.iconst 0, 1) := by decide +kernel
theorem dX6_having_3 : decode cX6_having 3 = .ok (.istore 4, 2) := by decide +kernel
theorem dX6_having_5 : decode cX6_having 5 = .ok (.iload 4, 2) := by decide +kernel
theorem dX6_having_7 : decode cX6_having 7 = .ok (.aload_n 0, 1) := by decide +kernel
theorem dX6_having_8 : decode cX6_having 8 = .ok (.getfield 31, 3) := by decide +kernel
theorem dX6_having_11 : decode cX6_having 11 = .ok (.if_icmp .ge 25, 3) := by decide +kernel
theorem dX6_having_14 : decode cX6_having 14 = .ok (.iload_n 3, 1) := by decide +kernel
theorem dX6_having_15 : decode cX6_having 15 = .ok (.aload_n 1, 1) := by decide +kernel
theorem dX6_having_16 : decode cX6_having 16 = .ok (.iload 4, 2) := by decide +kernel
theorem dX6_having_18 : decode cX6_having 18 = .ok (.iaload, 1) := by decide +kernel
theorem dX6_having_19 : decode cX6_having 19 = .ok (.iload_n 2, 1) := by decide +kernel
theorem dX6_having_20 : decode cX6_having 20 = .ok (.if_icmp .ne 7, 3) := by decide +kernel
theorem dX6_having_23 : decode cX6_having 23 = .ok (.iconst 1, 1) := by decide +kernel
theorem dX6_having_24 : decode cX6_having 24 = .ok (.goto 4, 3) := by decide +kernel
theorem dX6_having_27 : decode cX6_having 27 = .ok (.iconst 0, 1) := by decide +kernel
theorem dX6_having_28 : decode cX6_having 28 = .ok (.iadd, 1) := by decide +kernel
theorem dX6_having_29 : decode cX6_having 29 = .ok (.istore_n 3, 1) := by decide +kernel
theorem dX6_having_30 : decode cX6_having 30 = .ok (.iinc 4 1, 3) := by decide +kernel
theorem dX6_having_33 : decode cX6_having 33 = .ok (.goto (-28), 3) := by decide +kernel
theorem dX6_having_36 : decode cX6_having 36 = .ok (.iload_n 3, 1) := by decide +kernel
theorem dX6_having_37 : decode cX6_having 37 = .ok (.ireturn, 1) := by decide +kernel
theorem mX6_having_0 : Cond.fieldLink RX6 31 "LayerwaysModel" "many" "I" ∈ wsX6_having := by decide +kernel
theorem iX6_having_X6 : ∀ w ∈ u_ws RX6 TX6 8, w ∈ wsX6_having := by decide +kernel
def sX6_having_5 (mN : Int32) (pL : (Nat → Int32)) (p1 : Int32) (s1 : Int32 × Int32) : Option ((Int32 × Int32) ⊕ (Int32 × Int32)) := if mN ≤ s1.2 then some (.inl (s1.1, s1.2)) else if zin s1.2 12 then if (pL s1.2.toNatClampNeg) = p1 then some (.inr ((s1.1 + 1), (s1.2 + 1))) else some (.inr ((s1.1 + 0), (s1.2 + 1))) else none
def fX6_having (mN : Int32) (pL : (Nat → Int32)) (p1 : Int32) : Option (Int32) := (zloop (sX6_having_5 mN pL p1) 32 (0, 0)).bind fun e3 => some e3.1
set_option maxRecDepth 100000 in
set_option maxHeartbeats 4000000 in
theorem kX6_having (l : Launch) (K : zK) (aM : Nat) (aP : Nat) (aMk : Nat) (aMj : Nat) (aMc : Nat) (aMw : Nat)  (mN : Int32) (mS : Int32) (mX : Int32) (mT : Int32) (pL : (Nat → Int32)) (p1 : Int32) (r : Int32) (hres : fX6_having mN pL p1 = some r) : zM l K yX6_having wsX6_having ({ frames := 0, cells := 0, slots := 0, locals := 0 }) [.ref aM, .ref aP, .int p1] [(aM, .inr (6, [.ref aMk, .ref aMj, .int mN, .int mS, .ref aMc, .ref aMw, .int mX, .int mT])), (aP, .inl (K.2 0, 12, .inl pL))] (fun _ : Unit => some (.int r)) (fun _ : Unit => [(aM, .inr (6, [.ref aMk, .ref aMj, .int mN, .int mS, .ref aMc, .ref aMw, .int mX, .int mT])), (aP, .inl (K.2 0, 12, .inl pL))]) 0 0 := by
  refine zM.intI (cc := cX6_having) (maxL := 5) (ret := (some .int)) rfl (by decide) (Nat.le_of_ble_eq_true rfl) rfl ?_
  intro G hGl hG hN hE
  have hR : ∀ (pc : Nat) (lv : zL), decode cX6_having pc = .ok (.ireturn, 1) → zj G pc lv [.int r] [(aM, .inr (6, [.ref aMk, .ref aMj, .int mN, .int mS, .ref aMc, .ref aMw, .int mX, .int mT])), (aP, .inl (K.2 0, 12, .inl pL))] 0 0 := fun pc lv d => hE () _ rfl pc lv d
  clear hE
  unfold fX6_having at hres
  show zj G 0 [(0, .ref aM), (1, .ref aP), (2, .int p1)] [] [(aM, .inr (6, [.ref aMk, .ref aMj, .int mN, .int mS, .ref aMc, .ref aMw, .int mX, .int mT])), (aP, .inl (K.2 0, 12, .inl pL))] 0 0
  refine z_iconst 0 hG dX6_having_0 (by decide) ?_
  refine z_istore_n (lv' := [(3, .int 0), (0, .ref aM), (1, .ref aP), (2, .int p1)]) hG dX6_having_1 (by decide) rfl ?_
  refine z_iconst 0 hG dX6_having_2 (by decide) ?_
  refine z_istore (lv' := [(4, .int 0), (3, .int 0), (0, .ref aM), (1, .ref aP), (2, .int p1)]) hG dX6_having_3 (by decide) rfl ?_
  obtain ⟨e3, hx, hres⟩ := z_bind hres
  refine z_lv [2, 3, 4, 1, 0] (lv' := [(0, .ref aM), (1, .ref aP), (2, .int p1), (3, .int 0), (4, .int 0)]) rfl ?_
  refine z_loop hx (fun s1 : Int32 × Int32 => [(0, .ref aM), (1, .ref aP), (2, .int p1), (3, .int s1.1), (4, .int s1.2)]) (fun s1 : Int32 × Int32 => [(aM, .inr (6, [.ref aMk, .ref aMj, .int mN, .int mS, .ref aMc, .ref aMw, .int mX, .int mT])), (aP, .inl (K.2 0, 12, .inl pL))]) (fun e3 : Int32 × Int32 => zj G 36 [(0, .ref aM), (1, .ref aP), (2, .int p1), (3, .int e3.1), (4, .int e3.2)] [] [(aM, .inr (6, [.ref aMk, .ref aMj, .int mN, .int mS, .ref aMc, .ref aMw, .int mX, .int mT])), (aP, .inl (K.2 0, 12, .inl pL))] 0 0) ?_ ?_
  · refine z_iload_n hG dX6_having_36 3 rfl ?_
    obtain rfl := Option.some.inj hres
    exact (hR _ _ dX6_having_37)
  · intro s1 w2 hres hX hB
    unfold sX6_having_5 at hres
    refine z_iload hG dX6_having_5 4 rfl ?_
    refine z_aload_n hG dX6_having_7 0 rfl ?_
    refine z_get (ci := 6) (C := RX6) (T := TX6) (N := 8) hG dX6_having_8 iX6_having_X6 2 (by decide) mX6_having_0 rfl rfl 0 rfl rfl ?_
    refine z_icmp_ge 36 hG dX6_having_11 (by decide) (fun c => ?_) (fun c => ?_)
    · replace hres := z_ifp c hres
      exact (hX (s1.1, s1.2) (Option.some.inj hres).symm)
    · replace hres := z_ifn c hres
      refine z_iload_n hG dX6_having_14 3 rfl ?_
      refine z_aload_n hG dX6_having_15 1 rfl ?_
      refine z_iload hG dX6_having_16 4 rfl ?_
      obtain ⟨hg, hres⟩ := z_guard hres
      refine z_iald hG dX6_having_18 1 rfl hg ?_
      refine z_iload_n hG dX6_having_19 2 rfl ?_
      refine z_icmp_ne 27 hG dX6_having_20 (by decide) (fun c => ?_) (fun c => ?_)
      · replace hres := z_ifn c hres
        refine z_iconst 0 hG dX6_having_27 (by decide) ?_
        refine z_iadd hG dX6_having_28 ?_
        refine z_istore_n (lv' := [(3, .int (s1.1 + 0)), (0, .ref aM), (1, .ref aP), (2, .int p1), (4, .int s1.2)]) hG dX6_having_29 (by decide) rfl ?_
        refine z_iinc (s1.2 + 1) (lv' := [(4, .int (s1.2 + 1)), (3, .int (s1.1 + 0)), (0, .ref aM), (1, .ref aP), (2, .int p1)]) hG dX6_having_30 4 rfl rfl (by decide) rfl ?_
        refine z_goto 5 hG dX6_having_33 (by decide) ?_
        exact (z_lv [2, 3, 4, 1, 0] rfl (hB ((s1.1 + 0), (s1.2 + 1)) (Option.some.inj hres).symm))
      · replace hres := z_ifp c hres
        refine z_iconst 1 hG dX6_having_23 (by decide) ?_
        refine z_goto 28 hG dX6_having_24 (by decide) ?_
        refine z_iadd hG dX6_having_28 ?_
        refine z_istore_n (lv' := [(3, .int (s1.1 + 1)), (0, .ref aM), (1, .ref aP), (2, .int p1), (4, .int s1.2)]) hG dX6_having_29 (by decide) rfl ?_
        refine z_iinc (s1.2 + 1) (lv' := [(4, .int (s1.2 + 1)), (3, .int (s1.1 + 1)), (0, .ref aM), (1, .ref aP), (2, .int p1)]) hG dX6_having_30 4 rfl rfl (by decide) rfl ?_
        refine z_goto 5 hG dX6_having_33 (by decide) ?_
        exact (z_lv [2, 3, 4, 1, 0] rfl (hB ((s1.1 + 1), (s1.2 + 1)) (Option.some.inj hres).symm))
