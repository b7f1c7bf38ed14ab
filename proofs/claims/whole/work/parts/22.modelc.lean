theorem dX6_lengths_0 : decode cX6_lengths 0 = .ok (.bipush 12, 2) := by decide +kernel
theorem dX6_lengths_2 : decode cX6_lengths 2 = .ok (.newarray .int, 2) := by decide +kernel
theorem dX6_lengths_4 : decode cX6_lengths 4 = .ok (.astore_n 2, 1) := by decide +kernel
theorem dX6_lengths_5 : decode cX6_lengths 5 = .ok (.iconst 0, 1) := by decide +kernel
theorem dX6_lengths_6 : decode cX6_lengths 6 = .ok (.istore_n 3, 1) := by decide +kernel
theorem dX6_lengths_7 : decode cX6_lengths 7 = .ok (.iload_n 3, 1) := by decide +kernel
theorem dX6_lengths_8 : decode cX6_lengths 8 = .ok (.bipush 12, 2) := by decide +kernel
theorem dX6_lengths_10 : decode cX6_lengths 10 = .ok (.if_icmp .ge 22, 3) := by decide +kernel
theorem dX6_lengths_13 : decode cX6_lengths 13 = .ok (.aload_n 2, 1) := by decide +kernel
theorem dX6_lengths_14 : decode cX6_lengths 14 = .ok (.iload_n 3, 1) := by decide +kernel
theorem dX6_lengths_15 : decode cX6_lengths 15 = .ok (.iload_n 3, 1) := by decide +kernel
theorem dX6_lengths_16 : decode cX6_lengths 16 = .ok (.iload_n 1, 1) := by decide +kernel
theorem dX6_lengths_17 : decode cX6_lengths 17 = .ok (.if_icmp .ne 7, 3) := by decide +kernel
theorem dX6_lengths_20 : decode cX6_lengths 20 = .ok (.iconst 0, 1) := by decide +kernel
theorem dX6_lengths_21 : decode cX6_lengths 21 = .ok (.goto 4, 3) := by decide +kernel
theorem dX6_lengths_24 : decode cX6_lengths 24 = .ok (.iconst (-1), 1) := by decide +kernel
theorem dX6_lengths_25 : decode cX6_lengths 25 = .ok (.iastore, 1) := by decide +kernel
theorem dX6_lengths_26 : decode cX6_lengths 26 = .ok (.iinc 3 1, 3) := by decide +kernel
theorem dX6_lengths_29 : decode cX6_lengths 29 = .ok (.goto (-22), 3) := by decide +kernel
theorem dX6_lengths_32 : decode cX6_lengths 32 = .ok (.iconst 1, 1) := by decide +kernel
theorem dX6_lengths_33 : decode cX6_lengths 33 = .ok (.istore_n 3, 1) := by decide +kernel
theorem dX6_lengths_34 : decode cX6_lengths 34 = .ok (.iload_n 3, 1) := by decide +kernel
theorem dX6_lengths_35 : decode cX6_lengths 35 = .ok (.aload_n 0, 1) := by decide +kernel
theorem dX6_lengths_36 : decode cX6_lengths 36 = .ok (.getfield 31, 3) := by decide +kernel
theorem dX6_lengths_39 : decode cX6_lengths 39 = .ok (.if_icmp .ge 88, 3) := by decide +kernel
theorem dX6_lengths_42 : decode cX6_lengths 42 = .ok (.iconst 0, 1) := by decide +kernel
theorem dX6_lengths_43 : decode cX6_lengths 43 = .ok (.istore 4, 2) := by decide +kernel
theorem dX6_lengths_45 : decode cX6_lengths 45 = .ok (.iload 4, 2) := by decide +kernel
theorem dX6_lengths_47 : decode cX6_lengths 47 = .ok (.aload_n 0, 1) := by decide +kernel
theorem dX6_lengths_48 : decode cX6_lengths 48 = .ok (.getfield 31, 3) := by decide +kernel
theorem dX6_lengths_51 : decode cX6_lengths 51 = .ok (.if_icmp .ge 70, 3) := by decide +kernel
theorem dX6_lengths_54 : decode cX6_lengths 54 = .ok (.iconst 0, 1) := by decide +kernel
theorem dX6_lengths_55 : decode cX6_lengths 55 = .ok (.istore 5, 2) := by decide +kernel
theorem dX6_lengths_57 : decode cX6_lengths 57 = .ok (.iload 5, 2) := by decide +kernel
theorem dX6_lengths_59 : decode cX6_lengths 59 = .ok (.aload_n 0, 1) := by decide +kernel
theorem dX6_lengths_60 : decode cX6_lengths 60 = .ok (.getfield 31, 3) := by decide +kernel
theorem dX6_lengths_63 : decode cX6_lengths 63 = .ok (.if_icmp .ge 52, 3) := by decide +kernel
theorem dX6_lengths_66 : decode cX6_lengths 66 = .ok (.aload_n 2, 1) := by decide +kernel
theorem dX6_lengths_67 : decode cX6_lengths 67 = .ok (.iload 5, 2) := by decide +kernel
theorem dX6_lengths_69 : decode cX6_lengths 69 = .ok (.aload_n 0, 1) := by decide +kernel
theorem dX6_lengths_70 : decode cX6_lengths 70 = .ok (.getfield 15, 3) := by decide +kernel
theorem dX6_lengths_73 : decode cX6_lengths 73 = .ok (.iload 4, 2) := by decide +kernel
theorem dX6_lengths_75 : decode cX6_lengths 75 = .ok (.aaload, 1) := by decide +kernel
theorem dX6_lengths_76 : decode cX6_lengths 76 = .ok (.iload 5, 2) := by decide +kernel
theorem dX6_lengths_78 : decode cX6_lengths 78 = .ok (.baload, 1) := by decide +kernel
theorem dX6_lengths_79 : decode cX6_lengths 79 = .ok (.ifCond .eq 25, 3) := by decide +kernel
theorem dX6_lengths_82 : decode cX6_lengths 82 = .ok (.aload_n 2, 1) := by decide +kernel
theorem dX6_lengths_83 : decode cX6_lengths 83 = .ok (.iload 4, 2) := by decide +kernel
theorem dX6_lengths_85 : decode cX6_lengths 85 = .ok (.iaload, 1) := by decide +kernel
theorem dX6_lengths_86 : decode cX6_lengths 86 = .ok (.iload_n 3, 1) := by decide +kernel
theorem dX6_lengths_87 : decode cX6_lengths 87 = .ok (.iconst 1, 1) := by decide +kernel
theorem dX6_lengths_88 : decode cX6_lengths 88 = .ok (.isub, 1) := by decide +kernel
theorem dX6_lengths_89 : decode cX6_lengths 89 = .ok (.if_icmp .ne 15, 3) := by decide +kernel
theorem dX6_lengths_92 : decode cX6_lengths 92 = .ok (.aload_n 2, 1) := by decide +kernel
theorem dX6_lengths_93 : decode cX6_lengths 93 = .ok (.iload 5, 2) := by decide +kernel
theorem dX6_lengths_95 : decode cX6_lengths 95 = .ok (.iaload, 1) := by decide +kernel
theorem dX6_lengths_96 : decode cX6_lengths 96 = .ok (.iconst (-1), 1) := by decide +kernel
theorem dX6_lengths_97 : decode cX6_lengths 97 = .ok (.if_icmp .ne 7, 3) := by decide +kernel
theorem dX6_lengths_100 : decode cX6_lengths 100 = .ok (.iload_n 3, 1) := by decide +kernel
theorem dX6_lengths_101 : decode cX6_lengths 101 = .ok (.goto 7, 3) := by decide +kernel
theorem dX6_lengths_104 : decode cX6_lengths 104 = .ok (.aload_n 2, 1) := by decide +kernel
theorem dX6_lengths_105 : decode cX6_lengths 105 = .ok (.iload 5, 2) := by decide +kernel
theorem dX6_lengths_107 : decode cX6_lengths 107 = .ok (.iaload, 1) := by decide +kernel
theorem dX6_lengths_108 : decode cX6_lengths 108 = .ok (.iastore, 1) := by decide +kernel
theorem dX6_lengths_109 : decode cX6_lengths 109 = .ok (.iinc 5 1, 3) := by decide +kernel
theorem dX6_lengths_112 : decode cX6_lengths 112 = .ok (.goto (-55), 3) := by decide +kernel
theorem dX6_lengths_115 : decode cX6_lengths 115 = .ok (.iinc 4 1, 3) := by decide +kernel
theorem dX6_lengths_118 : decode cX6_lengths 118 = .ok (.goto (-73), 3) := by decide +kernel
theorem dX6_lengths_121 : decode cX6_lengths 121 = .ok (.iinc 3 1, 3) := by decide +kernel
theorem dX6_lengths_124 : decode cX6_lengths 124 = .ok (.goto (-90), 3) := by decide +kernel
theorem dX6_lengths_127 : decode cX6_lengths 127 = .ok (.aload_n 2, 1) := by decide +kernel
theorem dX6_lengths_128 : decode cX6_lengths 128 = .ok (.areturn, 1) := by decide +kernel
theorem mX6_lengths_0 : Cond.arrayClass .int ∈ wsX6_lengths := by decide +kernel
theorem mX6_lengths_1 : Cond.fieldLink RX6 31 "LayerwaysModel" "many" "I" ∈ wsX6_lengths := by decide +kernel
theorem iX6_lengths_X6 : ∀ w ∈ u_ws RX6 TX6 8, w ∈ wsX6_lengths := by decide +kernel
theorem mX6_lengths_3 : Cond.fieldLink RX6 15 "LayerwaysModel" "joined" "[[Z" ∈ wsX6_lengths := by decide +kernel
def sX6_lengths_7 (p0 : Int32) (s2 : Int32 × (Nat → Int32)) : Option ((Int32 × (Nat → Int32)) ⊕ (Int32 × (Nat → Int32))) := if 12 ≤ s2.1 then some (.inl (s2.1, s2.2)) else if s2.1 = p0 then if zin s2.1 12 then some (.inr ((s2.1 + 1), (upd s2.2 s2.1.toNatClampNeg 0))) else none else if zin s2.1 12 then some (.inr ((s2.1 + 1), (upd s2.2 s2.1.toNatClampNeg (-1)))) else none
def sX6_lengths_57 (mN : Int32) (mJ : (Nat → Nat → Int32)) (s56 : Int32 × (Nat → Int32)) (s74 : Int32 × (Nat → Int32)) (s80 : Int32 × (Nat → Int32)) : Option ((Int32 × (Nat → Int32)) ⊕ (Int32 × (Nat → Int32))) := if mN ≤ s80.1 then some (.inl (s80.1, s80.2)) else if zin s74.1 12 then if zin s80.1 12 then if (mJ s74.1.toNatClampNeg s80.1.toNatClampNeg) = 0 then if zin s80.1 12 then if zin s80.1 12 then some (.inr ((s80.1 + 1), (upd s80.2 s80.1.toNatClampNeg (s80.2 s80.1.toNatClampNeg)))) else none else none else if zin s74.1 12 then if (s80.2 s74.1.toNatClampNeg) = (s56.1 - 1) then if zin s80.1 12 then if (s80.2 s80.1.toNatClampNeg) = (-1) then if zin s80.1 12 then some (.inr ((s80.1 + 1), (upd s80.2 s80.1.toNatClampNeg s56.1))) else none else if zin s80.1 12 then if zin s80.1 12 then some (.inr ((s80.1 + 1), (upd s80.2 s80.1.toNatClampNeg (s80.2 s80.1.toNatClampNeg)))) else none else none else none else if zin s80.1 12 then if zin s80.1 12 then some (.inr ((s80.1 + 1), (upd s80.2 s80.1.toNatClampNeg (s80.2 s80.1.toNatClampNeg)))) else none else none else none else none else none
def sX6_lengths_45 (mN : Int32) (mJ : (Nat → Nat → Int32)) (s56 : Int32 × (Nat → Int32)) (s74 : Int32 × (Nat → Int32)) : Option ((Int32 × (Nat → Int32)) ⊕ (Int32 × (Nat → Int32))) := if mN ≤ s74.1 then some (.inl (s74.1, s74.2)) else (zloop (sX6_lengths_57 mN mJ s56 s74) 32 (0, s74.2)).bind fun e82 => some (.inr ((s74.1 + 1), e82.2))
def sX6_lengths_34 (mN : Int32) (mJ : (Nat → Nat → Int32)) (s56 : Int32 × (Nat → Int32)) : Option ((Int32 × (Nat → Int32)) ⊕ (Int32 × (Nat → Int32))) := if mN ≤ s56.1 then some (.inl (s56.1, s56.2)) else (zloop (sX6_lengths_45 mN mJ s56) 32 (0, s56.2)).bind fun e76 => some (.inr ((s56.1 + 1), e76.2))
def fX6_lengths (mN : Int32) (mJ : (Nat → Nat → Int32)) (p0 : Int32) : Option ((Nat → Int32)) := (zloop (sX6_lengths_7 p0) 32 (0, (fun _ => 0))).bind fun e4 => (zloop (sX6_lengths_34 mN mJ) 32 (1, e4.2)).bind fun e58 => some e58.2
set_option maxRecDepth 100000 in
set_option maxHeartbeats 4000000 in
theorem kX6_lengths (l : Launch) (K : zK) (aM : Nat) (aMk : Nat) (aMj : Nat) (aMc : Nat) (aMw : Nat) (aMr : (Nat → Nat))  (mN : Int32) (mS : Int32) (mX : Int32) (mT : Int32) (mK : (Nat → Int32)) (mC : (Nat → Int32)) (mW : (Nat → Int32)) (mJ : (Nat → Nat → Int32)) (p0 : Int32) (r : (Nat → Int32)) (hres : fX6_lengths mN mJ p0 = some r) : zM l K yX6_lengths wsX6_lengths ({ frames := 0, cells := 1, slots := 12, locals := 0 }) [.ref aM, .int p0] ([(aM, .inr (6, [.ref aMk, .ref aMj, .int mN, .int mS, .ref aMc, .ref aMw, .int mX, .int mT])), (aMk, .inl (K.2 0, 12, .inl mK)), (aMj, .inl (K.2 3, 12, .inr (.inr (.inr (.inr (zo aMr 12)))))), (aMc, .inl (K.2 0, 12, .inl mC)), (aMw, .inl (K.2 0, 12, .inl mW))] ++ zR12Z K aMr mJ) (fun u : Nat => some (.ref u)) (fun u : Nat => ([(aM, .inr (6, [.ref aMk, .ref aMj, .int mN, .int mS, .ref aMc, .ref aMw, .int mX, .int mT])), (aMk, .inl (K.2 0, 12, .inl mK)), (aMj, .inl (K.2 3, 12, .inr (.inr (.inr (.inr (zo aMr 12)))))), (aMc, .inl (K.2 0, 12, .inl mC)), (aMw, .inl (K.2 0, 12, .inl mW))] ++ zR12Z K aMr mJ ++ [(u, .inl (K.2 0, 12, .inl r))])) 1 12 := by
  refine zM.intA (cc := cX6_lengths) (maxL := 6) (ret := (some (.array .int))) rfl (by decide) (Nat.le_of_ble_eq_true rfl) rfl ?_
  intro G hGl hG hN hE
  have hR : ∀ (q0 : Nat) (pc : Nat) (lv : zL), decode cX6_lengths pc = .ok (.areturn, 1) → zj G pc lv [.ref q0] ([(aM, .inr (6, [.ref aMk, .ref aMj, .int mN, .int mS, .ref aMc, .ref aMw, .int mX, .int mT])), (aMk, .inl (K.2 0, 12, .inl mK)), (aMj, .inl (K.2 3, 12, .inr (.inr (.inr (.inr (zo aMr 12)))))), (aMc, .inl (K.2 0, 12, .inl mC)), (aMw, .inl (K.2 0, 12, .inl mW))] ++ zR12Z K aMr mJ ++ [(q0, .inl (K.2 0, 12, .inl r))]) 1 12 := fun q0 pc lv d => hE q0 _ rfl pc lv d
  clear hE
  unfold fX6_lengths at hres
  show zj G 0 [(0, .ref aM), (1, .int p0)] [] ([(aM, .inr (6, [.ref aMk, .ref aMj, .int mN, .int mS, .ref aMc, .ref aMw, .int mX, .int mT])), (aMk, .inl (K.2 0, 12, .inl mK)), (aMj, .inl (K.2 3, 12, .inr (.inr (.inr (.inr (zo aMr 12)))))), (aMc, .inl (K.2 0, 12, .inl mC)), (aMw, .inl (K.2 0, 12, .inl mW))] ++ zR12Z K aMr mJ) 0 0
  refine z_bipush 12 hG dX6_lengths_0 (by decide) ?_
  refine z_newI (N' := 12) hG dX6_lengths_2 mX6_lengths_0 (by decide) (by decide) (by decide) (Nat.le_of_ble_eq_true rfl) (Nat.le_of_ble_eq_true rfl) (fun q1 => ?_)
  show zj G 4 [(0, .ref aM), (1, .int p0)] [.ref q1] ([(aM, .inr (6, [.ref aMk, .ref aMj, .int mN, .int mS, .ref aMc, .ref aMw, .int mX, .int mT])), (aMk, .inl (K.2 0, 12, .inl mK)), (aMj, .inl (K.2 3, 12, .inr (.inr (.inr (.inr (zo aMr 12)))))), (aMc, .inl (K.2 0, 12, .inl mC)), (aMw, .inl (K.2 0, 12, .inl mW))] ++ zR12Z K aMr mJ ++ [(q1, .inl (K.2 0, 12, .inl (fun _ => 0)))]) 1 12
  refine z_astore_n (lv' := [(2, .ref q1), (0, .ref aM), (1, .int p0)]) hG dX6_lengths_4 (by decide) rfl ?_
  refine z_iconst 0 hG dX6_lengths_5 (by decide) ?_
  refine z_istore_n (lv' := [(3, .int 0), (2, .ref q1), (0, .ref aM), (1, .int p0)]) hG dX6_lengths_6 (by decide) rfl ?_
  obtain ⟨e4, hx, hres⟩ := z_bind hres
  refine z_lv [2, 3, 1, 0] (lv' := [(0, .ref aM), (1, .int p0), (2, .ref q1), (3, .int 0)]) rfl ?_
  refine z_loop hx (fun s2 : Int32 × (Nat → Int32) => [(0, .ref aM), (1, .int p0), (2, .ref q1), (3, .int s2.1)]) (fun s2 : Int32 × (Nat → Int32) => ([(aM, .inr (6, [.ref aMk, .ref aMj, .int mN, .int mS, .ref aMc, .ref aMw, .int mX, .int mT])), (aMk, .inl (K.2 0, 12, .inl mK)), (aMj, .inl (K.2 3, 12, .inr (.inr (.inr (.inr (zo aMr 12)))))), (aMc, .inl (K.2 0, 12, .inl mC)), (aMw, .inl (K.2 0, 12, .inl mW))] ++ zR12Z K aMr mJ ++ [(q1, .inl (K.2 0, 12, .inl s2.2))])) (fun e4 : Int32 × (Nat → Int32) => zj G 32 [(0, .ref aM), (1, .int p0), (2, .ref q1), (3, .int e4.1)] [] ([(aM, .inr (6, [.ref aMk, .ref aMj, .int mN, .int mS, .ref aMc, .ref aMw, .int mX, .int mT])), (aMk, .inl (K.2 0, 12, .inl mK)), (aMj, .inl (K.2 3, 12, .inr (.inr (.inr (.inr (zo aMr 12)))))), (aMc, .inl (K.2 0, 12, .inl mC)), (aMw, .inl (K.2 0, 12, .inl mW))] ++ zR12Z K aMr mJ ++ [(q1, .inl (K.2 0, 12, .inl e4.2))]) 1 12) ?_ ?_
  · refine z_iconst 1 hG dX6_lengths_32 (by decide) ?_
    refine z_istore_n (lv' := [(3, .int 1), (0, .ref aM), (1, .int p0), (2, .ref q1)]) hG dX6_lengths_33 (by decide) rfl ?_
    obtain ⟨e58, hx, hres⟩ := z_bind hres
    refine z_lv [1, 2, 3, 0] (lv' := [(0, .ref aM), (1, .int p0), (2, .ref q1), (3, .int 1)]) rfl ?_
    refine z_loop hx (fun s56 : Int32 × (Nat → Int32) => [(0, .ref aM), (1, .int p0), (2, .ref q1), (3, .int s56.1)]) (fun s56 : Int32 × (Nat → Int32) => ([(aM, .inr (6, [.ref aMk, .ref aMj, .int mN, .int mS, .ref aMc, .ref aMw, .int mX, .int mT])), (aMk, .inl (K.2 0, 12, .inl mK)), (aMj, .inl (K.2 3, 12, .inr (.inr (.inr (.inr (zo aMr 12)))))), (aMc, .inl (K.2 0, 12, .inl mC)), (aMw, .inl (K.2 0, 12, .inl mW))] ++ zR12Z K aMr mJ ++ [(q1, .inl (K.2 0, 12, .inl s56.2))])) (fun e58 : Int32 × (Nat → Int32) => zj G 127 [(0, .ref aM), (1, .int p0), (2, .ref q1), (3, .int e58.1)] [] ([(aM, .inr (6, [.ref aMk, .ref aMj, .int mN, .int mS, .ref aMc, .ref aMw, .int mX, .int mT])), (aMk, .inl (K.2 0, 12, .inl mK)), (aMj, .inl (K.2 3, 12, .inr (.inr (.inr (.inr (zo aMr 12)))))), (aMc, .inl (K.2 0, 12, .inl mC)), (aMw, .inl (K.2 0, 12, .inl mW))] ++ zR12Z K aMr mJ ++ [(q1, .inl (K.2 0, 12, .inl e58.2))]) 1 12) ?_ ?_
    · refine z_aload_n hG dX6_lengths_127 2 rfl ?_
      obtain rfl := Option.some.inj hres
      exact (hR q1 _ _ dX6_lengths_128)
    · intro s56 w57 hres hX hB
      unfold sX6_lengths_34 at hres
      refine z_iload_n hG dX6_lengths_34 3 rfl ?_
      refine z_aload_n hG dX6_lengths_35 0 rfl ?_
      refine z_get (ci := 6) (C := RX6) (T := TX6) (N := 8) hG dX6_lengths_36 iX6_lengths_X6 2 (by decide) mX6_lengths_1 rfl rfl 0 rfl rfl ?_
      refine z_icmp_ge 127 hG dX6_lengths_39 (by decide) (fun c => ?_) (fun c => ?_)
      · replace hres := z_ifp c hres
        exact (hX (s56.1, s56.2) (Option.some.inj hres).symm)
      · replace hres := z_ifn c hres
        refine z_iconst 0 hG dX6_lengths_42 (by decide) ?_
        refine z_istore (lv' := [(4, .int 0), (0, .ref aM), (1, .int p0), (2, .ref q1), (3, .int s56.1)]) hG dX6_lengths_43 (by decide) rfl ?_
        obtain ⟨e76, hx, hres⟩ := z_bind hres
        refine z_lv [1, 2, 3, 4, 0] (lv' := [(0, .ref aM), (1, .int p0), (2, .ref q1), (3, .int s56.1), (4, .int 0)]) rfl ?_
        refine z_loop hx (fun s74 : Int32 × (Nat → Int32) => [(0, .ref aM), (1, .int p0), (2, .ref q1), (3, .int s56.1), (4, .int s74.1)]) (fun s74 : Int32 × (Nat → Int32) => ([(aM, .inr (6, [.ref aMk, .ref aMj, .int mN, .int mS, .ref aMc, .ref aMw, .int mX, .int mT])), (aMk, .inl (K.2 0, 12, .inl mK)), (aMj, .inl (K.2 3, 12, .inr (.inr (.inr (.inr (zo aMr 12)))))), (aMc, .inl (K.2 0, 12, .inl mC)), (aMw, .inl (K.2 0, 12, .inl mW))] ++ zR12Z K aMr mJ ++ [(q1, .inl (K.2 0, 12, .inl s74.2))])) (fun e76 : Int32 × (Nat → Int32) => zj G 121 [(0, .ref aM), (1, .int p0), (2, .ref q1), (3, .int s56.1), (4, .int e76.1)] [] ([(aM, .inr (6, [.ref aMk, .ref aMj, .int mN, .int mS, .ref aMc, .ref aMw, .int mX, .int mT])), (aMk, .inl (K.2 0, 12, .inl mK)), (aMj, .inl (K.2 3, 12, .inr (.inr (.inr (.inr (zo aMr 12)))))), (aMc, .inl (K.2 0, 12, .inl mC)), (aMw, .inl (K.2 0, 12, .inl mW))] ++ zR12Z K aMr mJ ++ [(q1, .inl (K.2 0, 12, .inl e76.2))]) 1 12) ?_ ?_
        · refine z_iinc (s56.1 + 1) (lv' := [(3, .int (s56.1 + 1)), (0, .ref aM), (1, .int p0), (2, .ref q1), (4, .int e76.1)]) hG dX6_lengths_121 3 rfl rfl (by decide) rfl ?_
          refine z_goto 34 hG dX6_lengths_124 (by decide) ?_
          exact (z_lv [1, 2, 3, 0] rfl (hB ((s56.1 + 1), e76.2) (Option.some.inj hres).symm))
        · intro s74 w75 hres hX hB
          unfold sX6_lengths_45 at hres
          refine z_iload hG dX6_lengths_45 4 rfl ?_
          refine z_aload_n hG dX6_lengths_47 0 rfl ?_
          refine z_get (ci := 6) (C := RX6) (T := TX6) (N := 8) hG dX6_lengths_48 iX6_lengths_X6 2 (by decide) mX6_lengths_1 rfl rfl 0 rfl rfl ?_
          refine z_icmp_ge 121 hG dX6_lengths_51 (by decide) (fun c => ?_) (fun c => ?_)
          · replace hres := z_ifp c hres
            exact (hX (s74.1, s74.2) (Option.some.inj hres).symm)
          · replace hres := z_ifn c hres
            refine z_iconst 0 hG dX6_lengths_54 (by decide) ?_
            refine z_istore (lv' := [(5, .int 0), (0, .ref aM), (1, .int p0), (2, .ref q1), (3, .int s56.1), (4, .int s74.1)]) hG dX6_lengths_55 (by decide) rfl ?_
            obtain ⟨e82, hx, hres⟩ := z_bind hres
            refine z_lv [1, 2, 3, 4, 5, 0] (lv' := [(0, .ref aM), (1, .int p0), (2, .ref q1), (3, .int s56.1), (4, .int s74.1), (5, .int 0)]) rfl ?_
            refine z_loop hx (fun s80 : Int32 × (Nat → Int32) => [(0, .ref aM), (1, .int p0), (2, .ref q1), (3, .int s56.1), (4, .int s74.1), (5, .int s80.1)]) (fun s80 : Int32 × (Nat → Int32) => ([(aM, .inr (6, [.ref aMk, .ref aMj, .int mN, .int mS, .ref aMc, .ref aMw, .int mX, .int mT])), (aMk, .inl (K.2 0, 12, .inl mK)), (aMj, .inl (K.2 3, 12, .inr (.inr (.inr (.inr (zo aMr 12)))))), (aMc, .inl (K.2 0, 12, .inl mC)), (aMw, .inl (K.2 0, 12, .inl mW))] ++ zR12Z K aMr mJ ++ [(q1, .inl (K.2 0, 12, .inl s80.2))])) (fun e82 : Int32 × (Nat → Int32) => zj G 115 [(0, .ref aM), (1, .int p0), (2, .ref q1), (3, .int s56.1), (4, .int s74.1), (5, .int e82.1)] [] ([(aM, .inr (6, [.ref aMk, .ref aMj, .int mN, .int mS, .ref aMc, .ref aMw, .int mX, .int mT])), (aMk, .inl (K.2 0, 12, .inl mK)), (aMj, .inl (K.2 3, 12, .inr (.inr (.inr (.inr (zo aMr 12)))))), (aMc, .inl (K.2 0, 12, .inl mC)), (aMw, .inl (K.2 0, 12, .inl mW))] ++ zR12Z K aMr mJ ++ [(q1, .inl (K.2 0, 12, .inl e82.2))]) 1 12) ?_ ?_
            · refine z_iinc (s74.1 + 1) (lv' := [(4, .int (s74.1 + 1)), (0, .ref aM), (1, .int p0), (2, .ref q1), (3, .int s56.1), (5, .int e82.1)]) hG dX6_lengths_115 4 rfl rfl (by decide) rfl ?_
              refine z_goto 45 hG dX6_lengths_118 (by decide) ?_
              exact (z_lv [1, 2, 3, 4, 0] rfl (hB ((s74.1 + 1), e82.2) (Option.some.inj hres).symm))
            · intro s80 w81 hres hX hB
              unfold sX6_lengths_57 at hres
              refine z_iload hG dX6_lengths_57 5 rfl ?_
              refine z_aload_n hG dX6_lengths_59 0 rfl ?_
              refine z_get (ci := 6) (C := RX6) (T := TX6) (N := 8) hG dX6_lengths_60 iX6_lengths_X6 2 (by decide) mX6_lengths_1 rfl rfl 0 rfl rfl ?_
              refine z_icmp_ge 115 hG dX6_lengths_63 (by decide) (fun c => ?_) (fun c => ?_)
              · replace hres := z_ifp c hres
                exact (hX (s80.1, s80.2) (Option.some.inj hres).symm)
              · replace hres := z_ifn c hres
                refine z_aload_n hG dX6_lengths_66 2 rfl ?_
                refine z_iload hG dX6_lengths_67 5 rfl ?_
                refine z_aload_n hG dX6_lengths_69 0 rfl ?_
                refine z_get (ci := 6) (C := RX6) (T := TX6) (N := 8) hG dX6_lengths_70 iX6_lengths_X6 1 (by decide) mX6_lengths_3 rfl rfl 0 rfl rfl ?_
                refine z_iload hG dX6_lengths_73 4 rfl ?_
                obtain ⟨hr84, hres⟩ := z_guard hres
                refine z_aaldZ hG dX6_lengths_75 2 rfl hr84 ?_
                refine z_iload hG dX6_lengths_76 5 rfl ?_
                obtain ⟨hg, hres⟩ := z_guard hres
                refine z_zaldG (M := mJ) hG dX6_lengths_78 5 (z_12 rfl rfl rfl rfl rfl rfl rfl rfl rfl rfl rfl rfl) hr84 hg ?_
                refine z_if_eq 104 hG dX6_lengths_79 (by decide) (fun c => ?_) (fun c => ?_)
                · replace hres := z_ifp c hres
                  refine z_aload_n hG dX6_lengths_104 2 rfl ?_
                  refine z_iload hG dX6_lengths_105 5 rfl ?_
                  obtain ⟨hg, hres⟩ := z_guard hres
                  refine z_iald hG dX6_lengths_107 17 rfl hg ?_
                  obtain ⟨hg, hres⟩ := z_guard hres
                  refine z_iast (ws' := ([(aM, .inr (6, [.ref aMk, .ref aMj, .int mN, .int mS, .ref aMc, .ref aMw, .int mX, .int mT])), (aMk, .inl (K.2 0, 12, .inl mK)), (aMj, .inl (K.2 3, 12, .inr (.inr (.inr (.inr (zo aMr 12)))))), (aMc, .inl (K.2 0, 12, .inl mC)), (aMw, .inl (K.2 0, 12, .inl mW))] ++ zR12Z K aMr mJ ++ [(q1, .inl (K.2 0, 12, .inl (upd s80.2 s80.1.toNatClampNeg (s80.2 s80.1.toNatClampNeg))))])) hG dX6_lengths_108 17 rfl hg rfl ?_
                  refine z_iinc (s80.1 + 1) (lv' := [(5, .int (s80.1 + 1)), (0, .ref aM), (1, .int p0), (2, .ref q1), (3, .int s56.1), (4, .int s74.1)]) hG dX6_lengths_109 5 rfl rfl (by decide) rfl ?_
                  refine z_goto 57 hG dX6_lengths_112 (by decide) ?_
                  exact (z_lv [1, 2, 3, 4, 5, 0] rfl (hB ((s80.1 + 1), (upd s80.2 s80.1.toNatClampNeg (s80.2 s80.1.toNatClampNeg))) (Option.some.inj hres).symm))
                · replace hres := z_ifn c hres
                  refine z_aload_n hG dX6_lengths_82 2 rfl ?_
                  refine z_iload hG dX6_lengths_83 4 rfl ?_
                  obtain ⟨hg, hres⟩ := z_guard hres
                  refine z_iald hG dX6_lengths_85 17 rfl hg ?_
                  refine z_iload_n hG dX6_lengths_86 3 rfl ?_
                  refine z_iconst 1 hG dX6_lengths_87 (by decide) ?_
                  refine z_isub hG dX6_lengths_88 ?_
                  refine z_icmp_ne 104 hG dX6_lengths_89 (by decide) (fun c => ?_) (fun c => ?_)
                  · replace hres := z_ifn c hres
                    refine z_aload_n hG dX6_lengths_104 2 rfl ?_
                    refine z_iload hG dX6_lengths_105 5 rfl ?_
                    obtain ⟨hg, hres⟩ := z_guard hres
                    refine z_iald hG dX6_lengths_107 17 rfl hg ?_
                    obtain ⟨hg, hres⟩ := z_guard hres
                    refine z_iast (ws' := ([(aM, .inr (6, [.ref aMk, .ref aMj, .int mN, .int mS, .ref aMc, .ref aMw, .int mX, .int mT])), (aMk, .inl (K.2 0, 12, .inl mK)), (aMj, .inl (K.2 3, 12, .inr (.inr (.inr (.inr (zo aMr 12)))))), (aMc, .inl (K.2 0, 12, .inl mC)), (aMw, .inl (K.2 0, 12, .inl mW))] ++ zR12Z K aMr mJ ++ [(q1, .inl (K.2 0, 12, .inl (upd s80.2 s80.1.toNatClampNeg (s80.2 s80.1.toNatClampNeg))))])) hG dX6_lengths_108 17 rfl hg rfl ?_
                    refine z_iinc (s80.1 + 1) (lv' := [(5, .int (s80.1 + 1)), (0, .ref aM), (1, .int p0), (2, .ref q1), (3, .int s56.1), (4, .int s74.1)]) hG dX6_lengths_109 5 rfl rfl (by decide) rfl ?_
                    refine z_goto 57 hG dX6_lengths_112 (by decide) ?_
                    exact (z_lv [1, 2, 3, 4, 5, 0] rfl (hB ((s80.1 + 1), (upd s80.2 s80.1.toNatClampNeg (s80.2 s80.1.toNatClampNeg))) (Option.some.inj hres).symm))
                  · replace hres := z_ifp c hres
                    refine z_aload_n hG dX6_lengths_92 2 rfl ?_
                    refine z_iload hG dX6_lengths_93 5 rfl ?_
                    obtain ⟨hg, hres⟩ := z_guard hres
                    refine z_iald hG dX6_lengths_95 17 rfl hg ?_
                    refine z_iconst (-1) hG dX6_lengths_96 (by decide) ?_
                    refine z_icmp_ne 104 hG dX6_lengths_97 (by decide) (fun c => ?_) (fun c => ?_)
                    · replace hres := z_ifn c hres
                      refine z_aload_n hG dX6_lengths_104 2 rfl ?_
                      refine z_iload hG dX6_lengths_105 5 rfl ?_
                      obtain ⟨hg, hres⟩ := z_guard hres
                      refine z_iald hG dX6_lengths_107 17 rfl hg ?_
                      obtain ⟨hg, hres⟩ := z_guard hres
                      refine z_iast (ws' := ([(aM, .inr (6, [.ref aMk, .ref aMj, .int mN, .int mS, .ref aMc, .ref aMw, .int mX, .int mT])), (aMk, .inl (K.2 0, 12, .inl mK)), (aMj, .inl (K.2 3, 12, .inr (.inr (.inr (.inr (zo aMr 12)))))), (aMc, .inl (K.2 0, 12, .inl mC)), (aMw, .inl (K.2 0, 12, .inl mW))] ++ zR12Z K aMr mJ ++ [(q1, .inl (K.2 0, 12, .inl (upd s80.2 s80.1.toNatClampNeg (s80.2 s80.1.toNatClampNeg))))])) hG dX6_lengths_108 17 rfl hg rfl ?_
                      refine z_iinc (s80.1 + 1) (lv' := [(5, .int (s80.1 + 1)), (0, .ref aM), (1, .int p0), (2, .ref q1), (3, .int s56.1), (4, .int s74.1)]) hG dX6_lengths_109 5 rfl rfl (by decide) rfl ?_
                      refine z_goto 57 hG dX6_lengths_112 (by decide) ?_
                      exact (z_lv [1, 2, 3, 4, 5, 0] rfl (hB ((s80.1 + 1), (upd s80.2 s80.1.toNatClampNeg (s80.2 s80.1.toNatClampNeg))) (Option.some.inj hres).symm))
                    · replace hres := z_ifp c hres
                      refine z_iload_n hG dX6_lengths_100 3 rfl ?_
                      refine z_goto 108 hG dX6_lengths_101 (by decide) ?_
                      obtain ⟨hg, hres⟩ := z_guard hres
                      refine z_iast (ws' := ([(aM, .inr (6, [.ref aMk, .ref aMj, .int mN, .int mS, .ref aMc, .ref aMw, .int mX, .int mT])), (aMk, .inl (K.2 0, 12, .inl mK)), (aMj, .inl (K.2 3, 12, .inr (.inr (.inr (.inr (zo aMr 12)))))), (aMc, .inl (K.2 0, 12, .inl mC)), (aMw, .inl (K.2 0, 12, .inl mW))] ++ zR12Z K aMr mJ ++ [(q1, .inl (K.2 0, 12, .inl (upd s80.2 s80.1.toNatClampNeg s56.1)))])) hG dX6_lengths_108 17 rfl hg rfl ?_
                      refine z_iinc (s80.1 + 1) (lv' := [(5, .int (s80.1 + 1)), (0, .ref aM), (1, .int p0), (2, .ref q1), (3, .int s56.1), (4, .int s74.1)]) hG dX6_lengths_109 5 rfl rfl (by decide) rfl ?_
                      refine z_goto 57 hG dX6_lengths_112 (by decide) ?_
                      exact (z_lv [1, 2, 3, 4, 5, 0] rfl (hB ((s80.1 + 1), (upd s80.2 s80.1.toNatClampNeg s56.1)) (Option.some.inj hres).symm))
  · intro s2 w3 hres hX hB
    unfold sX6_lengths_7 at hres
    refine z_iload_n hG dX6_lengths_7 3 rfl ?_
    refine z_bipush 12 hG dX6_lengths_8 (by decide) ?_
    refine z_icmp_ge 32 hG dX6_lengths_10 (by decide) (fun c => ?_) (fun c => ?_)
    · replace hres := z_ifp c hres
      exact (hX (s2.1, s2.2) (Option.some.inj hres).symm)
    · replace hres := z_ifn c hres
      refine z_aload_n hG dX6_lengths_13 2 rfl ?_
      refine z_iload_n hG dX6_lengths_14 3 rfl ?_
      refine z_iload_n hG dX6_lengths_15 3 rfl ?_
      refine z_iload_n hG dX6_lengths_16 1 rfl ?_
      refine z_icmp_ne 24 hG dX6_lengths_17 (by decide) (fun c => ?_) (fun c => ?_)
      · replace hres := z_ifn c hres
        refine z_iconst (-1) hG dX6_lengths_24 (by decide) ?_
        obtain ⟨hg, hres⟩ := z_guard hres
        refine z_iast (ws' := ([(aM, .inr (6, [.ref aMk, .ref aMj, .int mN, .int mS, .ref aMc, .ref aMw, .int mX, .int mT])), (aMk, .inl (K.2 0, 12, .inl mK)), (aMj, .inl (K.2 3, 12, .inr (.inr (.inr (.inr (zo aMr 12)))))), (aMc, .inl (K.2 0, 12, .inl mC)), (aMw, .inl (K.2 0, 12, .inl mW))] ++ zR12Z K aMr mJ ++ [(q1, .inl (K.2 0, 12, .inl (upd s2.2 s2.1.toNatClampNeg (-1))))])) hG dX6_lengths_25 17 rfl hg rfl ?_
        refine z_iinc (s2.1 + 1) (lv' := [(3, .int (s2.1 + 1)), (0, .ref aM), (1, .int p0), (2, .ref q1)]) hG dX6_lengths_26 3 rfl rfl (by decide) rfl ?_
        refine z_goto 7 hG dX6_lengths_29 (by decide) ?_
        exact (z_lv [1, 2, 3, 0] rfl (hB ((s2.1 + 1), (upd s2.2 s2.1.toNatClampNeg (-1))) (Option.some.inj hres).symm))
      · replace hres := z_ifp c hres
        refine z_iconst 0 hG dX6_lengths_20 (by decide) ?_
        refine z_goto 25 hG dX6_lengths_21 (by decide) ?_
        obtain ⟨hg, hres⟩ := z_guard hres
        refine z_iast (ws' := ([(aM, .inr (6, [.ref aMk, .ref aMj, .int mN, .int mS, .ref aMc, .ref aMw, .int mX, .int mT])), (aMk, .inl (K.2 0, 12, .inl mK)), (aMj, .inl (K.2 3, 12, .inr (.inr (.inr (.inr (zo aMr 12)))))), (aMc, .inl (K.2 0, 12, .inl mC)), (aMw, .inl (K.2 0, 12, .inl mW))] ++ zR12Z K aMr mJ ++ [(q1, .inl (K.2 0, 12, .inl (upd s2.2 s2.1.toNatClampNeg 0)))])) hG dX6_lengths_25 17 rfl hg rfl ?_
        refine z_iinc (s2.1 + 1) (lv' := [(3, .int (s2.1 + 1)), (0, .ref aM), (1, .int p0), (2, .ref q1)]) hG dX6_lengths_26 3 rfl rfl (by decide) rfl ?_
        refine z_goto 7 hG dX6_lengths_29 (by decide) ?_
        exact (z_lv [1, 2, 3, 0] rfl (hB ((s2.1 + 1), (upd s2.2 s2.1.toNatClampNeg 0)) (Option.some.inj hres).symm))

theorem dX6_turn_0 : decode cX6_turn 0 = .ok (.aload_n 0, 1) := by decide +kernel
theorem dX6_turn_1 : decode cX6_turn 1 = .ok (.aload_n 0, 1) := by decide +kernel
theorem dX6_turn_2 : decode cX6_turn 2 = .ok (.getfield 18, 3) := by decide +kernel
theorem dX6_turn_5 : decode cX6_turn 5 = .ok (.invokevirtual 52, 3) := by decide +kernel
theorem dX6_turn_8 : decode cX6_turn 8 = .ok (.astore 4, 2) := by decide +kernel
theorem dX6_turn_10 : decode cX6_turn 10 = .ok (.aload_n 0, 1) := by decide +kernel
theorem dX6_turn_11 : decode cX6_turn 11 = .ok (.getfield 15, 3) := by decide +kernel
theorem dX6_turn_14 : decode cX6_turn 14 = .ok (.iload_n 1, 1) := by decide +kernel
theorem dX6_turn_15 : decode cX6_turn 15 = .ok (.aaload, 1) := by decide +kernel
theorem dX6_turn_16 : decode cX6_turn 16 = .ok (.iload_n 2, 1) := by decide +kernel
theorem dX6_turn_17 : decode cX6_turn 17 = .ok (.iload_n 3, 1) := by decide +kernel
theorem dX6_turn_18 : decode cX6_turn 18 = .ok (.bastore, 1) := by decide +kernel
theorem dX6_turn_19 : decode cX6_turn 19 = .ok (.aload_n 0, 1) := by decide +kernel
theorem dX6_turn_20 : decode cX6_turn 20 = .ok (.getfield 15, 3) := by decide +kernel
theorem dX6_turn_23 : decode cX6_turn 23 = .ok (.iload_n 2, 1) := by decide +kernel
theorem dX6_turn_24 : decode cX6_turn 24 = .ok (.aaload, 1) := by decide +kernel
theorem dX6_turn_25 : decode cX6_turn 25 = .ok (.iload_n 1, 1) := by decide +kernel
theorem dX6_turn_26 : decode cX6_turn 26 = .ok (.iload_n 3, 1) := by decide +kernel
theorem dX6_turn_27 : decode cX6_turn 27 = .ok (.bastore, 1) := by decide +kernel
theorem dX6_turn_28 : decode cX6_turn 28 = .ok (.aload_n 0, 1) := by decide +kernel
theorem dX6_turn_29 : decode cX6_turn 29 = .ok (.aload_n 0, 1) := by decide +kernel
theorem dX6_turn_30 : decode cX6_turn 30 = .ok (.getfield 18, 3) := by decide +kernel
theorem dX6_turn_33 : decode cX6_turn 33 = .ok (.invokevirtual 52, 3) := by decide +kernel
theorem dX6_turn_36 : decode cX6_turn 36 = .ok (.astore 5, 2) := by decide +kernel
theorem dX6_turn_38 : decode cX6_turn 38 = .ok (.aload_n 0, 1) := by decide +kernel
theorem dX6_turn_39 : decode cX6_turn 39 = .ok (.iconst 0, 1) := by decide +kernel
theorem dX6_turn_40 : decode cX6_turn 40 = .ok (.putfield 46, 3) := by decide +kernel
theorem dX6_turn_43 : decode cX6_turn 43 = .ok (.iconst 0, 1) := by decide +kernel
theorem dX6_turn_44 : decode cX6_turn 44 = .ok (.istore 6, 2) := by decide +kernel
theorem dX6_turn_46 : decode cX6_turn 46 = .ok (.iload 6, 2) := by decide +kernel
theorem dX6_turn_48 : decode cX6_turn 48 = .ok (.aload_n 0, 1) := by decide +kernel
theorem dX6_turn_49 : decode cX6_turn 49 = .ok (.getfield 31, 3) := by decide +kernel
theorem dX6_turn_52 : decode cX6_turn 52 = .ok (.if_icmp .ge 62, 3) := by decide +kernel
theorem dX6_turn_55 : decode cX6_turn 55 = .ok (.aload 4, 2) := by decide +kernel
theorem dX6_turn_57 : decode cX6_turn 57 = .ok (.iload 6, 2) := by decide +kernel
theorem dX6_turn_59 : decode cX6_turn 59 = .ok (.iaload, 1) := by decide +kernel
theorem dX6_turn_60 : decode cX6_turn 60 = .ok (.aload 5, 2) := by decide +kernel
theorem dX6_turn_62 : decode cX6_turn 62 = .ok (.iload 6, 2) := by decide +kernel
theorem dX6_turn_64 : decode cX6_turn 64 = .ok (.iaload, 1) := by decide +kernel
theorem dX6_turn_65 : decode cX6_turn 65 = .ok (.if_icmp .eq 43, 3) := by decide +kernel
theorem dX6_turn_68 : decode cX6_turn 68 = .ok (.aload_n 0, 1) := by decide +kernel
theorem dX6_turn_69 : decode cX6_turn 69 = .ok (.getfield 22, 3) := by decide +kernel
theorem dX6_turn_72 : decode cX6_turn 72 = .ok (.aload_n 0, 1) := by decide +kernel
theorem dX6_turn_73 : decode cX6_turn 73 = .ok (.getfield 46, 3) := by decide +kernel
theorem dX6_turn_76 : decode cX6_turn 76 = .ok (.aload_n 0, 1) := by decide +kernel
theorem dX6_turn_77 : decode cX6_turn 77 = .ok (.getfield 9, 3) := by decide +kernel
theorem dX6_turn_80 : decode cX6_turn 80 = .ok (.iload 6, 2) := by decide +kernel
theorem dX6_turn_82 : decode cX6_turn 82 = .ok (.iaload, 1) := by decide +kernel
theorem dX6_turn_83 : decode cX6_turn 83 = .ok (.iastore, 1) := by decide +kernel
theorem dX6_turn_84 : decode cX6_turn 84 = .ok (.aload_n 0, 1) := by decide +kernel
theorem dX6_turn_85 : decode cX6_turn 85 = .ok (.getfield 25, 3) := by decide +kernel
theorem dX6_turn_88 : decode cX6_turn 88 = .ok (.aload_n 0, 1) := by decide +kernel
theorem dX6_turn_89 : decode cX6_turn 89 = .ok (.getfield 46, 3) := by decide +kernel
theorem dX6_turn_92 : decode cX6_turn 92 = .ok (.aload 4, 2) := by decide +kernel
theorem dX6_turn_94 : decode cX6_turn 94 = .ok (.iload 6, 2) := by decide +kernel
theorem dX6_turn_96 : decode cX6_turn 96 = .ok (.iaload, 1) := by decide +kernel
theorem dX6_turn_97 : decode cX6_turn 97 = .ok (.iastore, 1) := by decide +kernel
theorem dX6_turn_98 : decode cX6_turn 98 = .ok (.aload_n 0, 1) := by decide +kernel
theorem dX6_turn_99 : decode cX6_turn 99 = .ok (.dup, 1) := by decide +kernel
theorem dX6_turn_100 : decode cX6_turn 100 = .ok (.getfield 46, 3) := by decide +kernel
theorem dX6_turn_103 : decode cX6_turn 103 = .ok (.iconst 1, 1) := by decide +kernel
theorem dX6_turn_104 : decode cX6_turn 104 = .ok (.iadd, 1) := by decide +kernel
theorem dX6_turn_105 : decode cX6_turn 105 = .ok (.putfield 46, 3) := by decide +kernel
theorem dX6_turn_108 : decode cX6_turn 108 = .ok (.iinc 6 1, 3) := by decide +kernel
theorem dX6_turn_111 : decode cX6_turn 111 = .ok (.goto (-65), 3) := by decide +kernel
theorem dX6_turn_114 : decode cX6_turn 114 = .ok (.aload_n 0, 1) := by decide +kernel
theorem dX6_turn_115 : decode cX6_turn 115 = .ok (.getfield 46, 3) := by decide +kernel
theorem dX6_turn_118 : decode cX6_turn 118 = .ok (.ireturn, 1) := by decide +kernel
set_option maxRecDepth 20000 in
theorem ggX6_turn_X6_lengths : GoodIn wsX6_turn wsX6_lengths := goodIn_r _ [12, 13, 4, 2, 14, 15, 16, 17, 18, 19, 20, 21] (by decide +kernel) (by decide +kernel)
set_option maxRecDepth 20000 in
theorem gX6_turn_X6_lengths : GoodIn wsX6_turn (wsV RX6 52 RX6 yX6_lengths wsX6_lengths) := goodIn_app (goodIn_of _ (by decide +kernel)) ggX6_turn_X6_lengths
theorem mX6_turn_0 : Cond.fieldLink RX6 18 "LayerwaysModel" "start" "I" ∈ wsX6_turn := by decide +kernel
theorem iX6_turn_X6 : ∀ w ∈ u_ws RX6 TX6 8, w ∈ wsX6_turn := by decide +kernel
theorem mX6_turn_2 : Cond.fieldLink RX6 15 "LayerwaysModel" "joined" "[[Z" ∈ wsX6_turn := by decide +kernel
theorem mX6_turn_3 : Cond.fieldLink RX6 46 "LayerwaysModel" "changes" "I" ∈ wsX6_turn := by decide +kernel
theorem mX6_turn_4 : Cond.fieldLink RX6 31 "LayerwaysModel" "many" "I" ∈ wsX6_turn := by decide +kernel
theorem mX6_turn_5 : Cond.fieldLink RX6 22 "LayerwaysModel" "changed" "[I" ∈ wsX6_turn := by decide +kernel
theorem mX6_turn_6 : Cond.fieldLink RX6 9 "LayerwaysModel" "keys" "[I" ∈ wsX6_turn := by decide +kernel
theorem mX6_turn_7 : Cond.fieldLink RX6 25 "LayerwaysModel" "was" "[I" ∈ wsX6_turn := by decide +kernel
def sX6_turn_46 (mN : Int32) (mK : (Nat → Int32)) (v1 : (Nat → Int32)) (v5 : (Nat → Int32)) (s7 : Int32 × Int32 × (Nat → Int32) × (Nat → Int32)) : Option ((Int32 × Int32 × (Nat → Int32) × (Nat → Int32)) ⊕ (Int32 × Int32 × (Nat → Int32) × (Nat → Int32))) := if mN ≤ s7.1 then some (.inl (s7.1, s7.2.1, s7.2.2.1, s7.2.2.2)) else if zin s7.1 12 then if zin s7.1 12 then if (v1 s7.1.toNatClampNeg) = (v5 s7.1.toNatClampNeg) then some (.inr ((s7.1 + 1), s7.2.1, s7.2.2.1, s7.2.2.2)) else if zin s7.1 12 then if zin s7.2.1 12 then if zin s7.1 12 then if zin s7.2.1 12 then some (.inr ((s7.1 + 1), (s7.2.1 + 1), (upd s7.2.2.1 s7.2.1.toNatClampNeg (mK s7.1.toNatClampNeg)), (upd s7.2.2.2 s7.2.1.toNatClampNeg (v1 s7.1.toNatClampNeg)))) else none else none else none else none else none else none
def fX6_turn (mN : Int32) (mS : Int32) (mK : (Nat → Int32)) (mC : (Nat → Int32)) (mW : (Nat → Int32)) (mJ : (Nat → Nat → Int32)) (p0 : Int32) (p1 : Int32) (p2 : Int32) : Option (Int32 × Int32 × (Nat → Int32) × (Nat → Int32) × (Nat → Nat → Int32)) := (fX6_lengths mN mJ mS).bind fun v1 => if zin p0 12 then if zin p1 12 then if (p2 = 0 ∨ p2 = 1) then if zin p1 12 then if zin p0 12 then if (p2 = 0 ∨ p2 = 1) then (fX6_lengths mN (zup2 (zup2 mJ p0.toNatClampNeg p1.toNatClampNeg p2) p1.toNatClampNeg p0.toNatClampNeg p2) mS).bind fun v5 => (zloop (sX6_turn_46 mN mK v1 v5) 32 (0, 0, mC, mW)).bind fun e9 => some (e9.2.1, e9.2.1, e9.2.2.1, e9.2.2.2, (zup2 (zup2 mJ p0.toNatClampNeg p1.toNatClampNeg p2) p1.toNatClampNeg p0.toNatClampNeg p2)) else none else none else none else none else none else none
set_option maxRecDepth 100000 in
set_option maxHeartbeats 4000000 in
theorem kX6_turn (l : Launch) (K : zK) (aM : Nat) (aMk : Nat) (aMj : Nat) (aMc : Nat) (aMw : Nat) (aMr : (Nat → Nat))  (mN : Int32) (mS : Int32) (mX : Int32) (mT : Int32) (mK : (Nat → Int32)) (mC : (Nat → Int32)) (mW : (Nat → Int32)) (mJ : (Nat → Nat → Int32)) (p0 : Int32) (p1 : Int32) (p2 : Int32) (r : Int32 × Int32 × (Nat → Int32) × (Nat → Int32) × (Nat → Nat → Int32)) (hres : fX6_turn mN mS mK mC mW mJ p0 p1 p2 = some r) : zM l K yX6_turn wsX6_turn ({ frames := 1, cells := 2, slots := 24, locals := 25 }) [.ref aM, .int p0, .int p1, .int p2] ([(aM, .inr (6, [.ref aMk, .ref aMj, .int mN, .int mS, .ref aMc, .ref aMw, .int mX, .int mT])), (aMk, .inl (K.2 0, 12, .inl mK)), (aMj, .inl (K.2 3, 12, .inr (.inr (.inr (.inr (zo aMr 12)))))), (aMc, .inl (K.2 0, 12, .inl mC)), (aMw, .inl (K.2 0, 12, .inl mW))] ++ zR12Z K aMr mJ) (fun _ : Unit => some (.int r.1)) (fun _ : Unit => ([(aM, .inr (6, [.ref aMk, .ref aMj, .int mN, .int mS, .ref aMc, .ref aMw, .int r.2.1, .int mT])), (aMk, .inl (K.2 0, 12, .inl mK)), (aMj, .inl (K.2 3, 12, .inr (.inr (.inr (.inr (zo aMr 12)))))), (aMc, .inl (K.2 0, 12, .inl r.2.2.1)), (aMw, .inl (K.2 0, 12, .inl r.2.2.2.1))] ++ zR12Z K aMr r.2.2.2.2)) 2 24 := by
  refine zM.intI (cc := cX6_turn) (maxL := 7) (ret := (some .int)) rfl (by decide) (Nat.le_of_ble_eq_true rfl) rfl ?_
  intro G hGl hG hN hE
  have hR : ∀ (pc : Nat) (lv : zL), decode cX6_turn pc = .ok (.ireturn, 1) → zj G pc lv [.int r.1] ([(aM, .inr (6, [.ref aMk, .ref aMj, .int mN, .int mS, .ref aMc, .ref aMw, .int r.2.1, .int mT])), (aMk, .inl (K.2 0, 12, .inl mK)), (aMj, .inl (K.2 3, 12, .inr (.inr (.inr (.inr (zo aMr 12)))))), (aMc, .inl (K.2 0, 12, .inl r.2.2.1)), (aMw, .inl (K.2 0, 12, .inl r.2.2.2.1))] ++ zR12Z K aMr r.2.2.2.2) 2 24 := fun pc lv d => hE () _ rfl pc lv d
  clear hE
  unfold fX6_turn at hres
  show zj G 0 [(0, .ref aM), (1, .int p0), (2, .int p1), (3, .int p2)] [] ([(aM, .inr (6, [.ref aMk, .ref aMj, .int mN, .int mS, .ref aMc, .ref aMw, .int mX, .int mT])), (aMk, .inl (K.2 0, 12, .inl mK)), (aMj, .inl (K.2 3, 12, .inr (.inr (.inr (.inr (zo aMr 12)))))), (aMc, .inl (K.2 0, 12, .inl mC)), (aMw, .inl (K.2 0, 12, .inl mW))] ++ zR12Z K aMr mJ) 0 0
  refine z_aload_n hG dX6_turn_0 0 rfl ?_
  refine z_aload_n hG dX6_turn_1 0 rfl ?_
  refine z_get (ci := 6) (C := RX6) (T := TX6) (N := 8) hG dX6_turn_2 iX6_turn_X6 3 (by decide) mX6_turn_0 rfl rfl 0 rfl rfl ?_
  obtain ⟨v1, hv, hres⟩ := z_bind hres
  refine z_callV (As := [.int mS]) (rest := []) (wr := ([] : va_W)) (ws' := (fun q2 : Nat => ([(aM, .inr (6, [.ref aMk, .ref aMj, .int mN, .int mS, .ref aMc, .ref aMw, .int mX, .int mT])), (aMk, .inl (K.2 0, 12, .inl mK)), (aMj, .inl (K.2 3, 12, .inr (.inr (.inr (.inr (zo aMr 12)))))), (aMc, .inl (K.2 0, 12, .inl mC)), (aMw, .inl (K.2 0, 12, .inl mW))] ++ zR12Z K aMr mJ ++ [(q2, .inl (K.2 0, 12, .inl v1))]))) (stk := (fun q2 : Nat => [.ref q2])) (kc' := 1) (ks' := 12) (n := 1) (C := RX6) (ci := 6) hG dX6_turn_5 (kX6_lengths _ K aM aMk aMj aMc aMw aMr mN mS mX mT mK mC mW mJ mS v1 hv) gX6_turn_X6_lengths rfl rfl rfl ⟨rfl, by decide, by decide, rfl⟩ ⟨by decide, by decide⟩ (Nat.le_of_ble_eq_true rfl) ⟨(Nat.le_of_ble_eq_true rfl), (Nat.le_of_ble_eq_true rfl)⟩ [0, 1, 2, 3, 4, 5, 6, 7, 8, 9, 10, 11, 12, 13, 14, 15, 16] [] [0, 1, 2, 3, 4, 5, 6, 7, 8, 9, 10, 11, 12, 13, 14, 15, 16, 17] rfl rfl rfl rfl (by decide) rfl (fun _ => rfl) (fun _ => rfl) rfl rfl rfl 0 rfl rfl rfl rfl (fun q2 => ?_)
  refine z_astore (lv' := [(4, .ref q2), (0, .ref aM), (1, .int p0), (2, .int p1), (3, .int p2)]) hG dX6_turn_8 (by decide) rfl ?_
  refine z_aload_n hG dX6_turn_10 1 rfl ?_
  refine z_get (ci := 6) (C := RX6) (T := TX6) (N := 8) hG dX6_turn_11 iX6_turn_X6 1 (by decide) mX6_turn_2 rfl rfl 0 rfl rfl ?_
  refine z_iload_n hG dX6_turn_14 2 rfl ?_
  obtain ⟨hr3, hres⟩ := z_guard hres
  refine z_aaldZ hG dX6_turn_15 2 rfl hr3 ?_
  refine z_iload_n hG dX6_turn_16 3 rfl ?_
  refine z_iload_n hG dX6_turn_17 4 rfl ?_
  obtain ⟨hg, hres⟩ := z_guard hres
  obtain ⟨hg2, hres⟩ := z_guard hres
  refine z_zastG (M := mJ) (ws' := fun k => ([(aM, .inr (6, [.ref aMk, .ref aMj, .int mN, .int mS, .ref aMc, .ref aMw, .int mX, .int mT])), (aMk, .inl (K.2 0, 12, .inl mK)), (aMj, .inl (K.2 3, 12, .inr (.inr (.inr (.inr (zo aMr 12)))))), (aMc, .inl (K.2 0, 12, .inl mC)), (aMw, .inl (K.2 0, 12, .inl mW))] ++ zR12Z K aMr (zup2 mJ k p1.toNatClampNeg p2) ++ [(q2, .inl (K.2 0, 12, .inl v1))])) hG dX6_turn_18 5 (z_12 rfl rfl rfl rfl rfl rfl rfl rfl rfl rfl rfl rfl) hr3 hg hg2 (z_12 rfl rfl rfl rfl rfl rfl rfl rfl rfl rfl rfl rfl) ?_
  refine z_aload_n hG dX6_turn_19 1 rfl ?_
  refine z_get (ci := 6) (C := RX6) (T := TX6) (N := 8) hG dX6_turn_20 iX6_turn_X6 1 (by decide) mX6_turn_2 rfl rfl 0 rfl rfl ?_
  refine z_iload_n hG dX6_turn_23 3 rfl ?_
  obtain ⟨hr4, hres⟩ := z_guard hres
  refine z_aaldZ hG dX6_turn_24 2 rfl hr4 ?_
  refine z_iload_n hG dX6_turn_25 2 rfl ?_
  refine z_iload_n hG dX6_turn_26 4 rfl ?_
  obtain ⟨hg, hres⟩ := z_guard hres
  obtain ⟨hg2, hres⟩ := z_guard hres
  refine z_zastG (M := (zup2 mJ p0.toNatClampNeg p1.toNatClampNeg p2)) (ws' := fun k => ([(aM, .inr (6, [.ref aMk, .ref aMj, .int mN, .int mS, .ref aMc, .ref aMw, .int mX, .int mT])), (aMk, .inl (K.2 0, 12, .inl mK)), (aMj, .inl (K.2 3, 12, .inr (.inr (.inr (.inr (zo aMr 12)))))), (aMc, .inl (K.2 0, 12, .inl mC)), (aMw, .inl (K.2 0, 12, .inl mW))] ++ zR12Z K aMr (zup2 (zup2 mJ p0.toNatClampNeg p1.toNatClampNeg p2) k p0.toNatClampNeg p2) ++ [(q2, .inl (K.2 0, 12, .inl v1))])) hG dX6_turn_27 5 (z_12 rfl rfl rfl rfl rfl rfl rfl rfl rfl rfl rfl rfl) hr4 hg hg2 (z_12 rfl rfl rfl rfl rfl rfl rfl rfl rfl rfl rfl rfl) ?_
  refine z_aload_n hG dX6_turn_28 1 rfl ?_
  refine z_aload_n hG dX6_turn_29 1 rfl ?_
  refine z_get (ci := 6) (C := RX6) (T := TX6) (N := 8) hG dX6_turn_30 iX6_turn_X6 3 (by decide) mX6_turn_0 rfl rfl 0 rfl rfl ?_
  obtain ⟨v5, hv, hres⟩ := z_bind hres
  refine z_callV (As := [.int mS]) (rest := []) (wr := [(q2, .inl (K.2 0, 12, .inl v1))]) (ws' := (fun q6 : Nat => ([(aM, .inr (6, [.ref aMk, .ref aMj, .int mN, .int mS, .ref aMc, .ref aMw, .int mX, .int mT])), (aMk, .inl (K.2 0, 12, .inl mK)), (aMj, .inl (K.2 3, 12, .inr (.inr (.inr (.inr (zo aMr 12)))))), (aMc, .inl (K.2 0, 12, .inl mC)), (aMw, .inl (K.2 0, 12, .inl mW))] ++ zR12Z K aMr (zup2 (zup2 mJ p0.toNatClampNeg p1.toNatClampNeg p2) p1.toNatClampNeg p0.toNatClampNeg p2) ++ [(q2, .inl (K.2 0, 12, .inl v1)), (q6, .inl (K.2 0, 12, .inl v5))]))) (stk := (fun q6 : Nat => [.ref q6])) (kc' := 2) (ks' := 24) (n := 1) (C := RX6) (ci := 6) hG dX6_turn_33 (kX6_lengths _ K aM aMk aMj aMc aMw aMr mN mS mX mT mK mC mW (zup2 (zup2 mJ p0.toNatClampNeg p1.toNatClampNeg p2) p1.toNatClampNeg p0.toNatClampNeg p2) mS v5 hv) gX6_turn_X6_lengths rfl rfl rfl ⟨rfl, by decide, by decide, rfl⟩ ⟨by decide, by decide⟩ (Nat.le_of_ble_eq_true rfl) ⟨(Nat.le_of_ble_eq_true rfl), (Nat.le_of_ble_eq_true rfl)⟩ [0, 1, 2, 3, 4, 5, 6, 7, 8, 9, 10, 11, 12, 13, 14, 15, 16] [17] [1, 2, 3, 4, 5, 6, 7, 8, 9, 10, 11, 12, 13, 14, 15, 16, 17, 0, 18] rfl rfl rfl rfl (by decide) rfl (fun _ => rfl) (fun _ => rfl) rfl rfl rfl 0 rfl rfl rfl rfl (fun q6 => ?_)
  refine z_astore (lv' := [(5, .ref q6), (4, .ref q2), (0, .ref aM), (1, .int p0), (2, .int p1), (3, .int p2)]) hG dX6_turn_36 (by decide) rfl ?_
  refine z_aload_n hG dX6_turn_38 2 rfl ?_
  refine z_iconst 0 hG dX6_turn_39 (by decide) ?_
  refine z_put (ci := 6) (C := RX6) (T := TX6) (N := 8) (ws' := ([(aM, .inr (6, [.ref aMk, .ref aMj, .int mN, .int mS, .ref aMc, .ref aMw, .int 0, .int mT])), (aMk, .inl (K.2 0, 12, .inl mK)), (aMj, .inl (K.2 3, 12, .inr (.inr (.inr (.inr (zo aMr 12)))))), (aMc, .inl (K.2 0, 12, .inl mC)), (aMw, .inl (K.2 0, 12, .inl mW))] ++ zR12Z K aMr (zup2 (zup2 mJ p0.toNatClampNeg p1.toNatClampNeg p2) p1.toNatClampNeg p0.toNatClampNeg p2) ++ [(q2, .inl (K.2 0, 12, .inl v1)), (q6, .inl (K.2 0, 12, .inl v5))])) hG dX6_turn_40 iX6_turn_X6 tyX6_ok nmX6 6 (by decide) mX6_turn_3 rfl rfl rfl rfl rfl rfl 0 rfl (Nat.le_of_ble_eq_true rfl) rfl ?_
  refine z_iconst 0 hG dX6_turn_43 (by decide) ?_
  refine z_istore (lv' := [(6, .int 0), (5, .ref q6), (4, .ref q2), (0, .ref aM), (1, .int p0), (2, .int p1), (3, .int p2)]) hG dX6_turn_44 (by decide) rfl ?_
  obtain ⟨e9, hx, hres⟩ := z_bind hres
  refine z_lv [3, 4, 5, 6, 2, 1, 0] (lv' := [(0, .ref aM), (1, .int p0), (2, .int p1), (3, .int p2), (4, .ref q2), (5, .ref q6), (6, .int 0)]) rfl ?_
  refine z_loop hx (fun s7 : Int32 × Int32 × (Nat → Int32) × (Nat → Int32) => [(0, .ref aM), (1, .int p0), (2, .int p1), (3, .int p2), (4, .ref q2), (5, .ref q6), (6, .int s7.1)]) (fun s7 : Int32 × Int32 × (Nat → Int32) × (Nat → Int32) => ([(aM, .inr (6, [.ref aMk, .ref aMj, .int mN, .int mS, .ref aMc, .ref aMw, .int s7.2.1, .int mT])), (aMk, .inl (K.2 0, 12, .inl mK)), (aMj, .inl (K.2 3, 12, .inr (.inr (.inr (.inr (zo aMr 12)))))), (aMc, .inl (K.2 0, 12, .inl s7.2.2.1)), (aMw, .inl (K.2 0, 12, .inl s7.2.2.2))] ++ zR12Z K aMr (zup2 (zup2 mJ p0.toNatClampNeg p1.toNatClampNeg p2) p1.toNatClampNeg p0.toNatClampNeg p2) ++ [(q2, .inl (K.2 0, 12, .inl v1)), (q6, .inl (K.2 0, 12, .inl v5))])) (fun e9 : Int32 × Int32 × (Nat → Int32) × (Nat → Int32) => zj G 114 [(0, .ref aM), (1, .int p0), (2, .int p1), (3, .int p2), (4, .ref q2), (5, .ref q6), (6, .int e9.1)] [] ([(aM, .inr (6, [.ref aMk, .ref aMj, .int mN, .int mS, .ref aMc, .ref aMw, .int e9.2.1, .int mT])), (aMk, .inl (K.2 0, 12, .inl mK)), (aMj, .inl (K.2 3, 12, .inr (.inr (.inr (.inr (zo aMr 12)))))), (aMc, .inl (K.2 0, 12, .inl e9.2.2.1)), (aMw, .inl (K.2 0, 12, .inl e9.2.2.2))] ++ zR12Z K aMr (zup2 (zup2 mJ p0.toNatClampNeg p1.toNatClampNeg p2) p1.toNatClampNeg p0.toNatClampNeg p2) ++ [(q2, .inl (K.2 0, 12, .inl v1)), (q6, .inl (K.2 0, 12, .inl v5))]) 2 24) ?_ ?_
  · refine z_aload_n hG dX6_turn_114 0 rfl ?_
    refine z_get (ci := 6) (C := RX6) (T := TX6) (N := 8) hG dX6_turn_115 iX6_turn_X6 6 (by decide) mX6_turn_3 rfl rfl 0 rfl rfl ?_
    obtain rfl := Option.some.inj hres
    exact (z_ws [0, 1, 2, 3, 4, 5, 6, 7, 8, 9, 10, 11, 12, 13, 14, 15, 16] rfl rfl (hR _ _ dX6_turn_118))
  · intro s7 w8 hres hX hB
    unfold sX6_turn_46 at hres
    refine z_iload hG dX6_turn_46 6 rfl ?_
    refine z_aload_n hG dX6_turn_48 0 rfl ?_
    refine z_get (ci := 6) (C := RX6) (T := TX6) (N := 8) hG dX6_turn_49 iX6_turn_X6 2 (by decide) mX6_turn_4 rfl rfl 0 rfl rfl ?_
    refine z_icmp_ge 114 hG dX6_turn_52 (by decide) (fun c => ?_) (fun c => ?_)
    · replace hres := z_ifp c hres
      exact (hX (s7.1, s7.2.1, s7.2.2.1, s7.2.2.2) (Option.some.inj hres).symm)
    · replace hres := z_ifn c hres
      refine z_aload hG dX6_turn_55 4 rfl ?_
      refine z_iload hG dX6_turn_57 6 rfl ?_
      obtain ⟨hg, hres⟩ := z_guard hres
      refine z_iald hG dX6_turn_59 17 rfl hg ?_
      refine z_aload hG dX6_turn_60 5 rfl ?_
      refine z_iload hG dX6_turn_62 6 rfl ?_
      obtain ⟨hg, hres⟩ := z_guard hres
      refine z_iald hG dX6_turn_64 18 rfl hg ?_
      refine z_icmp_eq 108 hG dX6_turn_65 (by decide) (fun c => ?_) (fun c => ?_)
      · replace hres := z_ifp c hres
        refine z_iinc (s7.1 + 1) (lv' := [(6, .int (s7.1 + 1)), (0, .ref aM), (1, .int p0), (2, .int p1), (3, .int p2), (4, .ref q2), (5, .ref q6)]) hG dX6_turn_108 6 rfl rfl (by decide) rfl ?_
        refine z_goto 46 hG dX6_turn_111 (by decide) ?_
        exact (z_lv [1, 2, 3, 4, 5, 6, 0] rfl (hB ((s7.1 + 1), s7.2.1, s7.2.2.1, s7.2.2.2) (Option.some.inj hres).symm))
      · replace hres := z_ifn c hres
        refine z_aload_n hG dX6_turn_68 0 rfl ?_
        refine z_get (ci := 6) (C := RX6) (T := TX6) (N := 8) hG dX6_turn_69 iX6_turn_X6 4 (by decide) mX6_turn_5 rfl rfl 0 rfl rfl ?_
        refine z_aload_n hG dX6_turn_72 0 rfl ?_
        refine z_get (ci := 6) (C := RX6) (T := TX6) (N := 8) hG dX6_turn_73 iX6_turn_X6 6 (by decide) mX6_turn_3 rfl rfl 0 rfl rfl ?_
        refine z_aload_n hG dX6_turn_76 0 rfl ?_
        refine z_get (ci := 6) (C := RX6) (T := TX6) (N := 8) hG dX6_turn_77 iX6_turn_X6 0 (by decide) mX6_turn_6 rfl rfl 0 rfl rfl ?_
        refine z_iload hG dX6_turn_80 6 rfl ?_
        obtain ⟨hg, hres⟩ := z_guard hres
        refine z_iald hG dX6_turn_82 1 rfl hg ?_
        obtain ⟨hg, hres⟩ := z_guard hres
        refine z_iast (ws' := ([(aM, .inr (6, [.ref aMk, .ref aMj, .int mN, .int mS, .ref aMc, .ref aMw, .int s7.2.1, .int mT])), (aMk, .inl (K.2 0, 12, .inl mK)), (aMj, .inl (K.2 3, 12, .inr (.inr (.inr (.inr (zo aMr 12)))))), (aMc, .inl (K.2 0, 12, .inl (upd s7.2.2.1 s7.2.1.toNatClampNeg (mK s7.1.toNatClampNeg)))), (aMw, .inl (K.2 0, 12, .inl s7.2.2.2))] ++ zR12Z K aMr (zup2 (zup2 mJ p0.toNatClampNeg p1.toNatClampNeg p2) p1.toNatClampNeg p0.toNatClampNeg p2) ++ [(q2, .inl (K.2 0, 12, .inl v1)), (q6, .inl (K.2 0, 12, .inl v5))])) hG dX6_turn_83 3 rfl hg rfl ?_
        refine z_aload_n hG dX6_turn_84 0 rfl ?_
        refine z_get (ci := 6) (C := RX6) (T := TX6) (N := 8) hG dX6_turn_85 iX6_turn_X6 5 (by decide) mX6_turn_7 rfl rfl 0 rfl rfl ?_
        refine z_aload_n hG dX6_turn_88 0 rfl ?_
        refine z_get (ci := 6) (C := RX6) (T := TX6) (N := 8) hG dX6_turn_89 iX6_turn_X6 6 (by decide) mX6_turn_3 rfl rfl 0 rfl rfl ?_
        refine z_aload hG dX6_turn_92 4 rfl ?_
        refine z_iload hG dX6_turn_94 6 rfl ?_
        obtain ⟨hg, hres⟩ := z_guard hres
        refine z_iald hG dX6_turn_96 17 rfl hg ?_
        obtain ⟨hg, hres⟩ := z_guard hres
        refine z_iast (ws' := ([(aM, .inr (6, [.ref aMk, .ref aMj, .int mN, .int mS, .ref aMc, .ref aMw, .int s7.2.1, .int mT])), (aMk, .inl (K.2 0, 12, .inl mK)), (aMj, .inl (K.2 3, 12, .inr (.inr (.inr (.inr (zo aMr 12)))))), (aMc, .inl (K.2 0, 12, .inl (upd s7.2.2.1 s7.2.1.toNatClampNeg (mK s7.1.toNatClampNeg)))), (aMw, .inl (K.2 0, 12, .inl (upd s7.2.2.2 s7.2.1.toNatClampNeg (v1 s7.1.toNatClampNeg))))] ++ zR12Z K aMr (zup2 (zup2 mJ p0.toNatClampNeg p1.toNatClampNeg p2) p1.toNatClampNeg p0.toNatClampNeg p2) ++ [(q2, .inl (K.2 0, 12, .inl v1)), (q6, .inl (K.2 0, 12, .inl v5))])) hG dX6_turn_97 4 rfl hg rfl ?_
        refine z_aload_n hG dX6_turn_98 0 rfl ?_
        refine z_dup hG dX6_turn_99 rfl ?_
        refine z_get (ci := 6) (C := RX6) (T := TX6) (N := 8) hG dX6_turn_100 iX6_turn_X6 6 (by decide) mX6_turn_3 rfl rfl 0 rfl rfl ?_
        refine z_iconst 1 hG dX6_turn_103 (by decide) ?_
        refine z_iadd hG dX6_turn_104 ?_
        refine z_put (ci := 6) (C := RX6) (T := TX6) (N := 8) (ws' := ([(aM, .inr (6, [.ref aMk, .ref aMj, .int mN, .int mS, .ref aMc, .ref aMw, .int (s7.2.1 + 1), .int mT])), (aMk, .inl (K.2 0, 12, .inl mK)), (aMj, .inl (K.2 3, 12, .inr (.inr (.inr (.inr (zo aMr 12)))))), (aMc, .inl (K.2 0, 12, .inl (upd s7.2.2.1 s7.2.1.toNatClampNeg (mK s7.1.toNatClampNeg)))), (aMw, .inl (K.2 0, 12, .inl (upd s7.2.2.2 s7.2.1.toNatClampNeg (v1 s7.1.toNatClampNeg))))] ++ zR12Z K aMr (zup2 (zup2 mJ p0.toNatClampNeg p1.toNatClampNeg p2) p1.toNatClampNeg p0.toNatClampNeg p2) ++ [(q2, .inl (K.2 0, 12, .inl v1)), (q6, .inl (K.2 0, 12, .inl v5))])) hG dX6_turn_105 iX6_turn_X6 tyX6_ok nmX6 6 (by decide) mX6_turn_3 rfl rfl rfl rfl rfl rfl 0 rfl (Nat.le_of_ble_eq_true rfl) rfl ?_
        refine z_iinc (s7.1 + 1) (lv' := [(6, .int (s7.1 + 1)), (0, .ref aM), (1, .int p0), (2, .int p1), (3, .int p2), (4, .ref q2), (5, .ref q6)]) hG dX6_turn_108 6 rfl rfl (by decide) rfl ?_
        refine z_goto 46 hG dX6_turn_111 (by decide) ?_
        exact (z_lv [1, 2, 3, 4, 5, 6, 0] rfl (hB ((s7.1 + 1), (s7.2.1 + 1), (upd s7.2.2.1 s7.2.1.toNatClampNeg (mK s7.1.toNatClampNeg)), (upd s7.2.2.2 s7.2.1.toNatClampNeg (v1 s7.1.toNatClampNeg))) (Option.some.inj hres).symm))

theorem dX6_street_0 : decode cX6_street 0 = .ok (.aload_n 0, 1) := by decide +kernel
theorem dX6_street_1 : decode cX6_street 1 = .ok (.aload_n 0, 1) := by decide +kernel
theorem dX6_street_2 : decode cX6_street 2 = .ok (.iload_n 1, 1) := by decide +kernel
theorem dX6_street_3 : decode cX6_street 3 = .ok (.invokevirtual 38, 3) := by decide +kernel
theorem dX6_street_6 : decode cX6_street 6 = .ok (.ifCond .eq 15, 3) := by decide +kernel
theorem dX6_street_9 : decode cX6_street 9 = .ok (.aload_n 0, 1) := by decide +kernel
theorem dX6_street_10 : decode cX6_street 10 = .ok (.iload_n 2, 1) := by decide +kernel
theorem dX6_street_11 : decode cX6_street 11 = .ok (.invokevirtual 38, 3) := by decide +kernel
theorem dX6_street_14 : decode cX6_street 14 = .ok (.ifCond .eq 7, 3) := by decide +kernel
theorem dX6_street_17 : decode cX6_street 17 = .ok (.iconst 1, 1) := by decide +kernel
theorem dX6_street_18 : decode cX6_street 18 = .ok (.goto 4, 3) := by decide +kernel
theorem dX6_street_21 : decode cX6_street 21 = .ok (.iconst 0, 1) := by decide +kernel
theorem dX6_street_22 : decode cX6_street 22 = .ok (.iload_n 1, 1) := by decide +kernel
theorem dX6_street_23 : decode cX6_street 23 = .ok (.iload_n 2, 1) := by decide +kernel
theorem dX6_street_24 : decode cX6_street 24 = .ok (.if_icmp .eq 7, 3) := by decide +kernel
theorem dX6_street_27 : decode cX6_street 27 = .ok (.iconst 1, 1) := by decide +kernel
theorem dX6_street_28 : decode cX6_street 28 = .ok (.goto 4, 3) := by decide +kernel
theorem dX6_street_31 : decode cX6_street 31 = .ok (.iconst 0, 1) := by decide +kernel
theorem dX6_street_32 : decode cX6_street 32 = .ok (.iconst 1, 1) := by decide +kernel
theorem dX6_street_33 : decode cX6_street 33 = .ok (.invokevirtual 42, 3) := by decide +kernel
theorem dX6_street_36 : decode cX6_street 36 = .ok (.ifCond .eq 36, 3) := by decide +kernel
theorem dX6_street_39 : decode cX6_street 39 = .ok (.aload_n 0, 1) := by decide +kernel
theorem dX6_street_40 : decode cX6_street 40 = .ok (.iconst 1, 1) := by decide +kernel
theorem dX6_street_41 : decode cX6_street 41 = .ok (.iconst 1, 1) := by decide +kernel
theorem dX6_street_42 : decode cX6_street 42 = .ok (.aload_n 0, 1) := by decide +kernel
theorem dX6_street_43 : decode cX6_street 43 = .ok (.getfield 15, 3) := by decide +kernel
theorem dX6_street_46 : decode cX6_street 46 = .ok (.aload_n 0, 1) := by decide +kernel
theorem dX6_street_47 : decode cX6_street 47 = .ok (.iload_n 1, 1) := by decide +kernel
theorem dX6_street_48 : decode cX6_street 48 = .ok (.invokevirtual 34, 3) := by decide +kernel
theorem dX6_street_51 : decode cX6_street 51 = .ok (.aaload, 1) := by decide +kernel
theorem dX6_street_52 : decode cX6_street 52 = .ok (.aload_n 0, 1) := by decide +kernel
theorem dX6_street_53 : decode cX6_street 53 = .ok (.iload_n 2, 1) := by decide +kernel
theorem dX6_street_54 : decode cX6_street 54 = .ok (.invokevirtual 34, 3) := by decide +kernel
theorem dX6_street_57 : decode cX6_street 57 = .ok (.baload, 1) := by decide +kernel
theorem dX6_street_58 : decode cX6_street 58 = .ok (.ifCond .ne 7, 3) := by decide +kernel
theorem dX6_street_61 : decode cX6_street 61 = .ok (.iconst 1, 1) := by decide +kernel
theorem dX6_street_62 : decode cX6_street 62 = .ok (.goto 4, 3) := by decide +kernel
theorem dX6_street_65 : decode cX6_street 65 = .ok (.iconst 0, 1) := by decide +kernel
theorem dX6_street_66 : decode cX6_street 66 = .ok (.invokevirtual 42, 3) := by decide +kernel
theorem dX6_street_69 : decode cX6_street 69 = .ok (.ifCond .ne 5, 3) := by decide +kernel
theorem dX6_street_72 : decode cX6_street 72 = .ok (.iconst 0, 1) := by decide +kernel
theorem dX6_street_73 : decode cX6_street 73 = .ok (.ireturn, 1) := by decide +kernel
theorem dX6_street_74 : decode cX6_street 74 = .ok (.aload_n 0, 1) := by decide +kernel
theorem dX6_street_75 : decode cX6_street 75 = .ok (.aload_n 0, 1) := by decide +kernel
theorem dX6_street_76 : decode cX6_street 76 = .ok (.iload_n 1, 1) := by decide +kernel
theorem dX6_street_77 : decode cX6_street 77 = .ok (.invokevirtual 34, 3) := by decide +kernel
theorem dX6_street_80 : decode cX6_street 80 = .ok (.aload_n 0, 1) := by decide +kernel
theorem dX6_street_81 : decode cX6_street 81 = .ok (.iload_n 2, 1) := by decide +kernel
theorem dX6_street_82 : decode cX6_street 82 = .ok (.invokevirtual 34, 3) := by decide +kernel
theorem dX6_street_85 : decode cX6_street 85 = .ok (.iconst 1, 1) := by decide +kernel
theorem dX6_street_86 : decode cX6_street 86 = .ok (.invokevirtual 56, 3) := by decide +kernel
theorem dX6_street_89 : decode cX6_street 89 = .ok (.ireturn, 1) := by decide +kernel
set_option maxRecDepth 20000 in
theorem ggX6_street_X6_is : GoodIn wsX6_street wsX6_is := goodIn_r _ [6, 7, 8, 9, 5, 10, 11, 12, 31, 32, 33, 34, 35, 36, 37, 38] (by decide +kernel) (by decide +kernel)
set_option maxRecDepth 20000 in
theorem gX6_street_X6_is : GoodIn wsX6_street (wsV RX6 38 RX6 yX6_is wsX6_is) := goodIn_app (goodIn_of _ (by decide +kernel)) ggX6_street_X6_is
set_option maxRecDepth 20000 in
theorem ggX6_street_X6_can : GoodIn wsX6_street wsX6_can := goodIn_r _ [16, 17, 31, 32, 33, 34, 35, 36, 37, 38] (by decide +kernel) (by decide +kernel)
set_option maxRecDepth 20000 in
theorem gX6_street_X6_can : GoodIn wsX6_street (wsV RX6 42 RX6 yX6_can wsX6_can) := goodIn_app (goodIn_of _ (by decide +kernel)) ggX6_street_X6_can
set_option maxRecDepth 20000 in
theorem ggX6_street_X6_at : GoodIn wsX6_street wsX6_at := goodIn_r _ [10, 11, 12, 31, 32, 33, 34, 35, 36, 37, 38] (by decide +kernel) (by decide +kernel)
set_option maxRecDepth 20000 in
theorem gX6_street_X6_at : GoodIn wsX6_street (wsV RX6 34 RX6 yX6_at wsX6_at) := goodIn_app (goodIn_of _ (by decide +kernel)) ggX6_street_X6_at
set_option maxRecDepth 20000 in
theorem ggX6_street_X6_turn : GoodIn wsX6_street wsX6_turn := goodIn_r _ [21, 22, 1, 23, 11, 24, 12, 25, 26, 27, 28, 5, 29, 30, 31, 32, 33, 34, 35, 36, 37, 38] (by decide +kernel) (by decide +kernel)
set_option maxRecDepth 20000 in
theorem gX6_street_X6_turn : GoodIn wsX6_street (wsV RX6 56 RX6 yX6_turn wsX6_turn) := goodIn_app (goodIn_of _ (by decide +kernel)) ggX6_street_X6_turn
theorem mX6_street_0 : Cond.fieldLink RX6 15 "LayerwaysModel" "joined" "[[Z" ∈ wsX6_street := by decide +kernel
theorem iX6_street_X6 : ∀ w ∈ u_ws RX6 TX6 8, w ∈ wsX6_street := by decide +kernel
def fX6_street (mN : Int32) (mS : Int32) (mX : Int32) (mK : (Nat → Int32)) (mC : (Nat → Int32)) (mW : (Nat → Int32)) (mJ : (Nat → Nat → Int32)) (p0 : Int32) (p1 : Int32) : Option (Int32 × Int32 × Int32 × (Nat → Int32) × (Nat → Int32) × (Nat → Nat → Int32)) := (fX6_is mN mK p0).bind fun v1 => ((if v1 = 0 then some 0 else (fX6_is mN mK p1).bind fun v14 => if v14 = 0 then some 0 else some 1) : Option Int32).bind fun v3 => ((if p0 = p1 then some 0 else some 1) : Option Int32).bind fun v4 => (fX6_can v3 v4 1).bind fun v5 => if v5.1 = 0 then some (0, mX, v5.2, mC, mW, mJ) else (fX6_at mN mK p0).bind fun v6 => if zin v6 12 then (fX6_at mN mK p1).bind fun v8 => if zin v8 12 then ((if (mJ v6.toNatClampNeg v8.toNatClampNeg) = 0 then some 1 else some 0) : Option Int32).bind fun v9 => (fX6_can 1 1 v9).bind fun v10 => if v10.1 = 0 then some (0, mX, v10.2, mC, mW, mJ) else (fX6_at mN mK p0).bind fun v11 => (fX6_at mN mK p1).bind fun v12 => (fX6_turn mN mS mK mC mW mJ v11 v12 1).bind fun v13 => some (v13.1, v13.2.1, v10.2, v13.2.2.1, v13.2.2.2.1, v13.2.2.2.2) else none else none
set_option maxRecDepth 100000 in
set_option maxHeartbeats 4000000 in
theorem kX6_street (l : Launch) (K : zK) (aM : Nat) (aMk : Nat) (aMj : Nat) (aMc : Nat) (aMw : Nat) (aMr : (Nat → Nat))  (mN : Int32) (mS : Int32) (mX : Int32) (mT : Int32) (mK : (Nat → Int32)) (mC : (Nat → Int32)) (mW : (Nat → Int32)) (mJ : (Nat → Nat → Int32)) (p0 : Int32) (p1 : Int32) (r : Int32 × Int32 × Int32 × (Nat → Int32) × (Nat → Int32) × (Nat → Nat → Int32)) (hres : fX6_street mN mS mX mK mC mW mJ p0 p1 = some r) : zM l K yX6_street wsX6_street ({ frames := 2, cells := 2, slots := 24, locals := 51 }) [.ref aM, .int p0, .int p1] ([(aM, .inr (6, [.ref aMk, .ref aMj, .int mN, .int mS, .ref aMc, .ref aMw, .int mX, .int mT])), (aMk, .inl (K.2 0, 12, .inl mK)), (aMj, .inl (K.2 3, 12, .inr (.inr (.inr (.inr (zo aMr 12)))))), (aMc, .inl (K.2 0, 12, .inl mC)), (aMw, .inl (K.2 0, 12, .inl mW))] ++ zR12Z K aMr mJ) (fun _ : Unit => some (.int r.1)) (fun _ : Unit => ([(aM, .inr (6, [.ref aMk, .ref aMj, .int mN, .int mS, .ref aMc, .ref aMw, .int r.2.1, .int r.2.2.1])), (aMk, .inl (K.2 0, 12, .inl mK)), (aMj, .inl (K.2 3, 12, .inr (.inr (.inr (.inr (zo aMr 12)))))), (aMc, .inl (K.2 0, 12, .inl r.2.2.2.1)), (aMw, .inl (K.2 0, 12, .inl r.2.2.2.2.1))] ++ zR12Z K aMr r.2.2.2.2.2)) 2 24 := by
  refine zM.intI (cc := cX6_street) (maxL := 3) (ret := (some .int)) rfl (by decide) (Nat.le_of_ble_eq_true rfl) rfl ?_
  intro G hGl hG hN hE
  have hR : ∀ (pc : Nat) (lv : zL), decode cX6_street pc = .ok (.ireturn, 1) → zj G pc lv [.int r.1] ([(aM, .inr (6, [.ref aMk, .ref aMj, .int mN, .int mS, .ref aMc, .ref aMw, .int r.2.1, .int r.2.2.1])), (aMk, .inl (K.2 0, 12, .inl mK)), (aMj, .inl (K.2 3, 12, .inr (.inr (.inr (.inr (zo aMr 12)))))), (aMc, .inl (K.2 0, 12, .inl r.2.2.2.1)), (aMw, .inl (K.2 0, 12, .inl r.2.2.2.2.1))] ++ zR12Z K aMr r.2.2.2.2.2) 2 24 := fun pc lv d => hE () _ rfl pc lv d
  clear hE
  unfold fX6_street at hres
  show zj G 0 [(0, .ref aM), (1, .int p0), (2, .int p1)] [] ([(aM, .inr (6, [.ref aMk, .ref aMj, .int mN, .int mS, .ref aMc, .ref aMw, .int mX, .int mT])), (aMk, .inl (K.2 0, 12, .inl mK)), (aMj, .inl (K.2 3, 12, .inr (.inr (.inr (.inr (zo aMr 12)))))), (aMc, .inl (K.2 0, 12, .inl mC)), (aMw, .inl (K.2 0, 12, .inl mW))] ++ zR12Z K aMr mJ) 0 0
  refine z_aload_n hG dX6_street_0 0 rfl ?_
  refine z_aload_n hG dX6_street_1 0 rfl ?_
  refine z_iload_n hG dX6_street_2 1 rfl ?_
  obtain ⟨v1, hv, hres⟩ := z_bind hres
  refine z_callV (As := [.int p0]) (rest := [.ref aM]) (wr := ([] : va_W)) (ws' := (fun _ : Unit => ([(aM, .inr (6, [.ref aMk, .ref aMj, .int mN, .int mS, .ref aMc, .ref aMw, .int mX, .int mT])), (aMk, .inl (K.2 0, 12, .inl mK)), (aMj, .inl (K.2 3, 12, .inr (.inr (.inr (.inr (zo aMr 12)))))), (aMc, .inl (K.2 0, 12, .inl mC)), (aMw, .inl (K.2 0, 12, .inl mW))] ++ zR12Z K aMr mJ))) (stk := (fun _ : Unit => [.int v1, .ref aM])) (kc' := 0) (ks' := 0) (n := 1) (C := RX6) (ci := 6) hG dX6_street_3 (kX6_is _ K aM aMk aMj aMc aMw aMr mN mS mX mT mK mC mW mJ p0 v1 hv) gX6_street_X6_is rfl rfl rfl ⟨rfl, by decide, by decide, rfl⟩ ⟨by decide, by decide⟩ (Nat.le_of_ble_eq_true rfl) ⟨(Nat.le_of_ble_eq_true rfl), (Nat.le_of_ble_eq_true rfl)⟩ [0, 1, 2, 3, 4, 5, 6, 7, 8, 9, 10, 11, 12, 13, 14, 15, 16] [] [0, 1, 2, 3, 4, 5, 6, 7, 8, 9, 10, 11, 12, 13, 14, 15, 16] rfl rfl rfl rfl (by decide) rfl (fun _ => rfl) (fun _ => rfl) rfl rfl rfl 0 rfl rfl rfl rfl (fun _ => ?_)
  obtain ⟨v3, hv, hres⟩ := z_bind hres
  have J : zj G 22 [(0, .ref aM), (1, .int p0), (2, .int p1)] [.int v3, .ref aM] ([(aM, .inr (6, [.ref aMk, .ref aMj, .int mN, .int mS, .ref aMc, .ref aMw, .int mX, .int mT])), (aMk, .inl (K.2 0, 12, .inl mK)), (aMj, .inl (K.2 3, 12, .inr (.inr (.inr (.inr (zo aMr 12)))))), (aMc, .inl (K.2 0, 12, .inl mC)), (aMw, .inl (K.2 0, 12, .inl mW))] ++ zR12Z K aMr mJ) 0 0 := by
    refine z_iload_n hG dX6_street_22 1 rfl ?_
    refine z_iload_n hG dX6_street_23 2 rfl ?_
    obtain ⟨v4, hv, hres⟩ := z_bind hres
    have J : zj G 32 [(0, .ref aM), (1, .int p0), (2, .int p1)] [.int v4, .int v3, .ref aM] ([(aM, .inr (6, [.ref aMk, .ref aMj, .int mN, .int mS, .ref aMc, .ref aMw, .int mX, .int mT])), (aMk, .inl (K.2 0, 12, .inl mK)), (aMj, .inl (K.2 3, 12, .inr (.inr (.inr (.inr (zo aMr 12)))))), (aMc, .inl (K.2 0, 12, .inl mC)), (aMw, .inl (K.2 0, 12, .inl mW))] ++ zR12Z K aMr mJ) 0 0 := by
      refine z_iconst 1 hG dX6_street_32 (by decide) ?_
      obtain ⟨v5, hv, hres⟩ := z_bind hres
      refine z_callV (As := [.int v3, .int v4, .int 1]) (rest := []) (wr := ([(aMk, .inl (K.2 0, 12, .inl mK)), (aMj, .inl (K.2 3, 12, .inr (.inr (.inr (.inr (zo aMr 12)))))), (aMc, .inl (K.2 0, 12, .inl mC)), (aMw, .inl (K.2 0, 12, .inl mW))] ++ zR12Z K aMr mJ)) (ws' := (fun _ : Unit => ([(aM, .inr (6, [.ref aMk, .ref aMj, .int mN, .int mS, .ref aMc, .ref aMw, .int mX, .int v5.2])), (aMk, .inl (K.2 0, 12, .inl mK)), (aMj, .inl (K.2 3, 12, .inr (.inr (.inr (.inr (zo aMr 12)))))), (aMc, .inl (K.2 0, 12, .inl mC)), (aMw, .inl (K.2 0, 12, .inl mW))] ++ zR12Z K aMr mJ))) (stk := (fun _ : Unit => [.int v5.1])) (kc' := 0) (ks' := 0) (n := 3) (C := RX6) (ci := 6) hG dX6_street_33 (kX6_can _ K aM aMk aMj aMc aMw mN mS mX mT v3 v4 1 v5 hv) gX6_street_X6_can rfl rfl rfl ⟨rfl, by decide, by decide, rfl⟩ ⟨by decide, by decide⟩ (Nat.le_of_ble_eq_true rfl) ⟨(Nat.le_of_ble_eq_true rfl), (Nat.le_of_ble_eq_true rfl)⟩ [0] [1, 2, 3, 4, 5, 6, 7, 8, 9, 10, 11, 12, 13, 14, 15, 16] [16, 0, 1, 2, 3, 4, 5, 6, 7, 8, 9, 10, 11, 12, 13, 14, 15] rfl rfl rfl rfl (by decide) rfl (fun _ => rfl) (fun _ => rfl) rfl rfl rfl 0 rfl rfl rfl rfl (fun _ => ?_)
      refine z_if_eq 72 hG dX6_street_36 (by decide) (fun c => ?_) (fun c => ?_)
      · replace hres := z_ifp c hres
        refine z_iconst 0 hG dX6_street_72 (by decide) ?_
        obtain rfl := Option.some.inj hres
        exact (z_wid (Nat.le_of_ble_eq_true rfl) (Nat.le_of_ble_eq_true rfl) (hR _ _ dX6_street_73))
      · replace hres := z_ifn c hres
        refine z_aload_n hG dX6_street_39 0 rfl ?_
        refine z_iconst 1 hG dX6_street_40 (by decide) ?_
        refine z_iconst 1 hG dX6_street_41 (by decide) ?_
        refine z_aload_n hG dX6_street_42 0 rfl ?_
        refine z_get (ci := 6) (C := RX6) (T := TX6) (N := 8) hG dX6_street_43 iX6_street_X6 1 (by decide) mX6_street_0 rfl rfl 0 rfl rfl ?_
        refine z_aload_n hG dX6_street_46 0 rfl ?_
        refine z_iload_n hG dX6_street_47 1 rfl ?_
        obtain ⟨v6, hv, hres⟩ := z_bind hres
        refine z_callV (As := [.int p0]) (rest := [.ref aMj, .int 1, .int 1, .ref aM]) (wr := ([] : va_W)) (ws' := (fun _ : Unit => ([(aM, .inr (6, [.ref aMk, .ref aMj, .int mN, .int mS, .ref aMc, .ref aMw, .int mX, .int v5.2])), (aMk, .inl (K.2 0, 12, .inl mK)), (aMj, .inl (K.2 3, 12, .inr (.inr (.inr (.inr (zo aMr 12)))))), (aMc, .inl (K.2 0, 12, .inl mC)), (aMw, .inl (K.2 0, 12, .inl mW))] ++ zR12Z K aMr mJ))) (stk := (fun _ : Unit => [.int v6, .ref aMj, .int 1, .int 1, .ref aM])) (kc' := 0) (ks' := 0) (n := 1) (C := RX6) (ci := 6) hG dX6_street_48 (kX6_at _ K aM aMk aMj aMc aMw aMr mN mS mX v5.2 mK mC mW mJ p0 v6 hv) gX6_street_X6_at rfl rfl rfl ⟨rfl, by decide, by decide, rfl⟩ ⟨by decide, by decide⟩ (Nat.le_of_ble_eq_true rfl) ⟨(Nat.le_of_ble_eq_true rfl), (Nat.le_of_ble_eq_true rfl)⟩ [0, 1, 2, 3, 4, 5, 6, 7, 8, 9, 10, 11, 12, 13, 14, 15, 16] [] [0, 1, 2, 3, 4, 5, 6, 7, 8, 9, 10, 11, 12, 13, 14, 15, 16] rfl rfl rfl rfl (by decide) rfl (fun _ => rfl) (fun _ => rfl) rfl rfl rfl 0 rfl rfl rfl rfl (fun _ => ?_)
        obtain ⟨hr7, hres⟩ := z_guard hres
        refine z_aaldZ hG dX6_street_51 2 rfl hr7 ?_
        refine z_aload_n hG dX6_street_52 0 rfl ?_
        refine z_iload_n hG dX6_street_53 2 rfl ?_
        obtain ⟨v8, hv, hres⟩ := z_bind hres
        refine z_callV (As := [.int p1]) (rest := [.ref (aMr v6.toNatClampNeg), .int 1, .int 1, .ref aM]) (wr := ([] : va_W)) (ws' := (fun _ : Unit => ([(aM, .inr (6, [.ref aMk, .ref aMj, .int mN, .int mS, .ref aMc, .ref aMw, .int mX, .int v5.2])), (aMk, .inl (K.2 0, 12, .inl mK)), (aMj, .inl (K.2 3, 12, .inr (.inr (.inr (.inr (zo aMr 12)))))), (aMc, .inl (K.2 0, 12, .inl mC)), (aMw, .inl (K.2 0, 12, .inl mW))] ++ zR12Z K aMr mJ))) (stk := (fun _ : Unit => [.int v8, .ref (aMr v6.toNatClampNeg), .int 1, .int 1, .ref aM])) (kc' := 0) (ks' := 0) (n := 1) (C := RX6) (ci := 6) hG dX6_street_54 (kX6_at _ K aM aMk aMj aMc aMw aMr mN mS mX v5.2 mK mC mW mJ p1 v8 hv) gX6_street_X6_at rfl rfl rfl ⟨rfl, by decide, by decide, rfl⟩ ⟨by decide, by decide⟩ (Nat.le_of_ble_eq_true rfl) ⟨(Nat.le_of_ble_eq_true rfl), (Nat.le_of_ble_eq_true rfl)⟩ [0, 1, 2, 3, 4, 5, 6, 7, 8, 9, 10, 11, 12, 13, 14, 15, 16] [] [0, 1, 2, 3, 4, 5, 6, 7, 8, 9, 10, 11, 12, 13, 14, 15, 16] rfl rfl rfl rfl (by decide) rfl (fun _ => rfl) (fun _ => rfl) rfl rfl rfl 0 rfl rfl rfl rfl (fun _ => ?_)
        obtain ⟨hg, hres⟩ := z_guard hres
        refine z_zaldG (M := mJ) hG dX6_street_57 5 (z_12 rfl rfl rfl rfl rfl rfl rfl rfl rfl rfl rfl rfl) hr7 hg ?_
        obtain ⟨v9, hv, hres⟩ := z_bind hres
        have J : zj G 66 [(0, .ref aM), (1, .int p0), (2, .int p1)] [.int v9, .int 1, .int 1, .ref aM] ([(aM, .inr (6, [.ref aMk, .ref aMj, .int mN, .int mS, .ref aMc, .ref aMw, .int mX, .int v5.2])), (aMk, .inl (K.2 0, 12, .inl mK)), (aMj, .inl (K.2 3, 12, .inr (.inr (.inr (.inr (zo aMr 12)))))), (aMc, .inl (K.2 0, 12, .inl mC)), (aMw, .inl (K.2 0, 12, .inl mW))] ++ zR12Z K aMr mJ) 0 0 := by
          obtain ⟨v10, hv, hres⟩ := z_bind hres
          refine z_callV (As := [.int 1, .int 1, .int v9]) (rest := []) (wr := ([(aMk, .inl (K.2 0, 12, .inl mK)), (aMj, .inl (K.2 3, 12, .inr (.inr (.inr (.inr (zo aMr 12)))))), (aMc, .inl (K.2 0, 12, .inl mC)), (aMw, .inl (K.2 0, 12, .inl mW))] ++ zR12Z K aMr mJ)) (ws' := (fun _ : Unit => ([(aM, .inr (6, [.ref aMk, .ref aMj, .int mN, .int mS, .ref aMc, .ref aMw, .int mX, .int v10.2])), (aMk, .inl (K.2 0, 12, .inl mK)), (aMj, .inl (K.2 3, 12, .inr (.inr (.inr (.inr (zo aMr 12)))))), (aMc, .inl (K.2 0, 12, .inl mC)), (aMw, .inl (K.2 0, 12, .inl mW))] ++ zR12Z K aMr mJ))) (stk := (fun _ : Unit => [.int v10.1])) (kc' := 0) (ks' := 0) (n := 3) (C := RX6) (ci := 6) hG dX6_street_66 (kX6_can _ K aM aMk aMj aMc aMw mN mS mX v5.2 1 1 v9 v10 hv) gX6_street_X6_can rfl rfl rfl ⟨rfl, by decide, by decide, rfl⟩ ⟨by decide, by decide⟩ (Nat.le_of_ble_eq_true rfl) ⟨(Nat.le_of_ble_eq_true rfl), (Nat.le_of_ble_eq_true rfl)⟩ [0] [1, 2, 3, 4, 5, 6, 7, 8, 9, 10, 11, 12, 13, 14, 15, 16] [16, 0, 1, 2, 3, 4, 5, 6, 7, 8, 9, 10, 11, 12, 13, 14, 15] rfl rfl rfl rfl (by decide) rfl (fun _ => rfl) (fun _ => rfl) rfl rfl rfl 0 rfl rfl rfl rfl (fun _ => ?_)
          refine z_if_ne 74 hG dX6_street_69 (by decide) (fun c => ?_) (fun c => ?_)
          · replace hres := z_ifn c hres
            refine z_aload_n hG dX6_street_74 0 rfl ?_
            refine z_aload_n hG dX6_street_75 0 rfl ?_
            refine z_iload_n hG dX6_street_76 1 rfl ?_
            obtain ⟨v11, hv, hres⟩ := z_bind hres
            refine z_callV (As := [.int p0]) (rest := [.ref aM]) (wr := ([] : va_W)) (ws' := (fun _ : Unit => ([(aM, .inr (6, [.ref aMk, .ref aMj, .int mN, .int mS, .ref aMc, .ref aMw, .int mX, .int v10.2])), (aMk, .inl (K.2 0, 12, .inl mK)), (aMj, .inl (K.2 3, 12, .inr (.inr (.inr (.inr (zo aMr 12)))))), (aMc, .inl (K.2 0, 12, .inl mC)), (aMw, .inl (K.2 0, 12, .inl mW))] ++ zR12Z K aMr mJ))) (stk := (fun _ : Unit => [.int v11, .ref aM])) (kc' := 0) (ks' := 0) (n := 1) (C := RX6) (ci := 6) hG dX6_street_77 (kX6_at _ K aM aMk aMj aMc aMw aMr mN mS mX v10.2 mK mC mW mJ p0 v11 hv) gX6_street_X6_at rfl rfl rfl ⟨rfl, by decide, by decide, rfl⟩ ⟨by decide, by decide⟩ (Nat.le_of_ble_eq_true rfl) ⟨(Nat.le_of_ble_eq_true rfl), (Nat.le_of_ble_eq_true rfl)⟩ [0, 1, 2, 3, 4, 5, 6, 7, 8, 9, 10, 11, 12, 13, 14, 15, 16] [] [0, 1, 2, 3, 4, 5, 6, 7, 8, 9, 10, 11, 12, 13, 14, 15, 16] rfl rfl rfl rfl (by decide) rfl (fun _ => rfl) (fun _ => rfl) rfl rfl rfl 0 rfl rfl rfl rfl (fun _ => ?_)
            refine z_aload_n hG dX6_street_80 0 rfl ?_
            refine z_iload_n hG dX6_street_81 2 rfl ?_
            obtain ⟨v12, hv, hres⟩ := z_bind hres
            refine z_callV (As := [.int p1]) (rest := [.int v11, .ref aM]) (wr := ([] : va_W)) (ws' := (fun _ : Unit => ([(aM, .inr (6, [.ref aMk, .ref aMj, .int mN, .int mS, .ref aMc, .ref aMw, .int mX, .int v10.2])), (aMk, .inl (K.2 0, 12, .inl mK)), (aMj, .inl (K.2 3, 12, .inr (.inr (.inr (.inr (zo aMr 12)))))), (aMc, .inl (K.2 0, 12, .inl mC)), (aMw, .inl (K.2 0, 12, .inl mW))] ++ zR12Z K aMr mJ))) (stk := (fun _ : Unit => [.int v12, .int v11, .ref aM])) (kc' := 0) (ks' := 0) (n := 1) (C := RX6) (ci := 6) hG dX6_street_82 (kX6_at _ K aM aMk aMj aMc aMw aMr mN mS mX v10.2 mK mC mW mJ p1 v12 hv) gX6_street_X6_at rfl rfl rfl ⟨rfl, by decide, by decide, rfl⟩ ⟨by decide, by decide⟩ (Nat.le_of_ble_eq_true rfl) ⟨(Nat.le_of_ble_eq_true rfl), (Nat.le_of_ble_eq_true rfl)⟩ [0, 1, 2, 3, 4, 5, 6, 7, 8, 9, 10, 11, 12, 13, 14, 15, 16] [] [0, 1, 2, 3, 4, 5, 6, 7, 8, 9, 10, 11, 12, 13, 14, 15, 16] rfl rfl rfl rfl (by decide) rfl (fun _ => rfl) (fun _ => rfl) rfl rfl rfl 0 rfl rfl rfl rfl (fun _ => ?_)
            refine z_iconst 1 hG dX6_street_85 (by decide) ?_
            obtain ⟨v13, hv, hres⟩ := z_bind hres
            refine z_callV (As := [.int v11, .int v12, .int 1]) (rest := []) (wr := ([] : va_W)) (ws' := (fun _ : Unit => ([(aM, .inr (6, [.ref aMk, .ref aMj, .int mN, .int mS, .ref aMc, .ref aMw, .int v13.2.1, .int v10.2])), (aMk, .inl (K.2 0, 12, .inl mK)), (aMj, .inl (K.2 3, 12, .inr (.inr (.inr (.inr (zo aMr 12)))))), (aMc, .inl (K.2 0, 12, .inl v13.2.2.1)), (aMw, .inl (K.2 0, 12, .inl v13.2.2.2.1))] ++ zR12Z K aMr v13.2.2.2.2))) (stk := (fun _ : Unit => [.int v13.1])) (kc' := 2) (ks' := 24) (n := 3) (C := RX6) (ci := 6) hG dX6_street_86 (kX6_turn _ K aM aMk aMj aMc aMw aMr mN mS mX v10.2 mK mC mW mJ v11 v12 1 v13 hv) gX6_street_X6_turn rfl rfl rfl ⟨rfl, by decide, by decide, rfl⟩ ⟨by decide, by decide⟩ (Nat.le_of_ble_eq_true rfl) ⟨(Nat.le_of_ble_eq_true rfl), (Nat.le_of_ble_eq_true rfl)⟩ [0, 1, 2, 3, 4, 5, 6, 7, 8, 9, 10, 11, 12, 13, 14, 15, 16] [] [0, 1, 2, 3, 4, 5, 6, 7, 8, 9, 10, 11, 12, 13, 14, 15, 16] rfl rfl rfl rfl (by decide) rfl (fun _ => rfl) (fun _ => rfl) rfl rfl rfl 0 rfl rfl rfl rfl (fun _ => ?_)
            obtain rfl := Option.some.inj hres
            exact (hR _ _ dX6_street_89)
          · replace hres := z_ifp c hres
            refine z_iconst 0 hG dX6_street_72 (by decide) ?_
            obtain rfl := Option.some.inj hres
            exact (z_wid (Nat.le_of_ble_eq_true rfl) (Nat.le_of_ble_eq_true rfl) (hR _ _ dX6_street_73))
        replace hres := hv
        clear hv
        refine z_if_ne 65 hG dX6_street_58 (by decide) (fun c => ?_) (fun c => ?_)
        · replace hres := z_ifn c hres
          refine z_iconst 0 hG dX6_street_65 (by decide) ?_
          obtain rfl := Option.some.inj hres
          exact J
        · replace hres := z_ifp c hres
          refine z_iconst 1 hG dX6_street_61 (by decide) ?_
          refine z_goto 66 hG dX6_street_62 (by decide) ?_
          obtain rfl := Option.some.inj hres
          exact J
    replace hres := hv
    clear hv
    refine z_icmp_eq 31 hG dX6_street_24 (by decide) (fun c => ?_) (fun c => ?_)
    · replace hres := z_ifp c hres
      refine z_iconst 0 hG dX6_street_31 (by decide) ?_
      obtain rfl := Option.some.inj hres
      exact J
    · replace hres := z_ifn c hres
      refine z_iconst 1 hG dX6_street_27 (by decide) ?_
      refine z_goto 32 hG dX6_street_28 (by decide) ?_
      obtain rfl := Option.some.inj hres
      exact J
  replace hres := hv
  clear hv
  refine z_if_eq 21 hG dX6_street_6 (by decide) (fun c => ?_) (fun c => ?_)
  · replace hres := z_ifp c hres
    refine z_iconst 0 hG dX6_street_21 (by decide) ?_
    obtain rfl := Option.some.inj hres
    exact J
  · replace hres := z_ifn c hres
    refine z_aload_n hG dX6_street_9 0 rfl ?_
    refine z_iload_n hG dX6_street_10 2 rfl ?_
    obtain ⟨v14, hv, hres⟩ := z_bind hres
    refine z_callV (As := [.int p1]) (rest := [.ref aM]) (wr := ([] : va_W)) (ws' := (fun _ : Unit => ([(aM, .inr (6, [.ref aMk, .ref aMj, .int mN, .int mS, .ref aMc, .ref aMw, .int mX, .int mT])), (aMk, .inl (K.2 0, 12, .inl mK)), (aMj, .inl (K.2 3, 12, .inr (.inr (.inr (.inr (zo aMr 12)))))), (aMc, .inl (K.2 0, 12, .inl mC)), (aMw, .inl (K.2 0, 12, .inl mW))] ++ zR12Z K aMr mJ))) (stk := (fun _ : Unit => [.int v14, .ref aM])) (kc' := 0) (ks' := 0) (n := 1) (C := RX6) (ci := 6) hG dX6_street_11 (kX6_is _ K aM aMk aMj aMc aMw aMr mN mS mX mT mK mC mW mJ p1 v14 hv) gX6_street_X6_is rfl rfl rfl ⟨rfl, by decide, by decide, rfl⟩ ⟨by decide, by decide⟩ (Nat.le_of_ble_eq_true rfl) ⟨(Nat.le_of_ble_eq_true rfl), (Nat.le_of_ble_eq_true rfl)⟩ [0, 1, 2, 3, 4, 5, 6, 7, 8, 9, 10, 11, 12, 13, 14, 15, 16] [] [0, 1, 2, 3, 4, 5, 6, 7, 8, 9, 10, 11, 12, 13, 14, 15, 16] rfl rfl rfl rfl (by decide) rfl (fun _ => rfl) (fun _ => rfl) rfl rfl rfl 0 rfl rfl rfl rfl (fun _ => ?_)
    refine z_if_eq 21 hG dX6_street_14 (by decide) (fun c => ?_) (fun c => ?_)
    · replace hres := z_ifp c hres
      refine z_iconst 0 hG dX6_street_21 (by decide) ?_
      obtain rfl := Option.some.inj hres
      exact J
    · replace hres := z_ifn c hres
      refine z_iconst 1 hG dX6_street_17 (by decide) ?_
      refine z_goto 22 hG dX6_street_18 (by decide) ?_
      obtain rfl := Option.some.inj hres
      exact J

theorem dX6_tear_0 : decode cX6_tear 0 = .ok (.aload_n 0, 1) := by decide +kernel
theorem dX6_tear_1 : decode cX6_tear 1 = .ok (.aload_n 0, 1) := by decide +kernel
theorem dX6_tear_2 : decode cX6_tear 2 = .ok (.iload_n 1, 1) := by decide +kernel
theorem dX6_tear_3 : decode cX6_tear 3 = .ok (.invokevirtual 38, 3) := by decide +kernel
theorem dX6_tear_6 : decode cX6_tear 6 = .ok (.ifCond .eq 15, 3) := by decide +kernel
theorem dX6_tear_9 : decode cX6_tear 9 = .ok (.aload_n 0, 1) := by decide +kernel
theorem dX6_tear_10 : decode cX6_tear 10 = .ok (.iload_n 2, 1) := by decide +kernel
theorem dX6_tear_11 : decode cX6_tear 11 = .ok (.invokevirtual 38, 3) := by decide +kernel
theorem dX6_tear_14 : decode cX6_tear 14 = .ok (.ifCond .eq 7, 3) := by decide +kernel
theorem dX6_tear_17 : decode cX6_tear 17 = .ok (.iconst 1, 1) := by decide +kernel
theorem dX6_tear_18 : decode cX6_tear 18 = .ok (.goto 4, 3) := by decide +kernel
theorem dX6_tear_21 : decode cX6_tear 21 = .ok (.iconst 0, 1) := by decide +kernel
theorem dX6_tear_22 : decode cX6_tear 22 = .ok (.iconst 1, 1) := by decide +kernel
theorem dX6_tear_23 : decode cX6_tear 23 = .ok (.iconst 1, 1) := by decide +kernel
theorem dX6_tear_24 : decode cX6_tear 24 = .ok (.invokevirtual 42, 3) := by decide +kernel
theorem dX6_tear_27 : decode cX6_tear 27 = .ok (.ifCond .eq 28, 3) := by decide +kernel
theorem dX6_tear_30 : decode cX6_tear 30 = .ok (.aload_n 0, 1) := by decide +kernel
theorem dX6_tear_31 : decode cX6_tear 31 = .ok (.aload_n 0, 1) := by decide +kernel
theorem dX6_tear_32 : decode cX6_tear 32 = .ok (.getfield 15, 3) := by decide +kernel
theorem dX6_tear_35 : decode cX6_tear 35 = .ok (.aload_n 0, 1) := by decide +kernel
theorem dX6_tear_36 : decode cX6_tear 36 = .ok (.iload_n 1, 1) := by decide +kernel
theorem dX6_tear_37 : decode cX6_tear 37 = .ok (.invokevirtual 34, 3) := by decide +kernel
theorem dX6_tear_40 : decode cX6_tear 40 = .ok (.aaload, 1) := by decide +kernel
theorem dX6_tear_41 : decode cX6_tear 41 = .ok (.aload_n 0, 1) := by decide +kernel
theorem dX6_tear_42 : decode cX6_tear 42 = .ok (.iload_n 2, 1) := by decide +kernel
theorem dX6_tear_43 : decode cX6_tear 43 = .ok (.invokevirtual 34, 3) := by decide +kernel
theorem dX6_tear_46 : decode cX6_tear 46 = .ok (.baload, 1) := by decide +kernel
theorem dX6_tear_47 : decode cX6_tear 47 = .ok (.iconst 1, 1) := by decide +kernel
theorem dX6_tear_48 : decode cX6_tear 48 = .ok (.iconst 1, 1) := by decide +kernel
theorem dX6_tear_49 : decode cX6_tear 49 = .ok (.invokevirtual 42, 3) := by decide +kernel
theorem dX6_tear_52 : decode cX6_tear 52 = .ok (.ifCond .ne 5, 3) := by decide +kernel
theorem dX6_tear_55 : decode cX6_tear 55 = .ok (.iconst 0, 1) := by decide +kernel
theorem dX6_tear_56 : decode cX6_tear 56 = .ok (.ireturn, 1) := by decide +kernel
theorem dX6_tear_57 : decode cX6_tear 57 = .ok (.aload_n 0, 1) := by decide +kernel
theorem dX6_tear_58 : decode cX6_tear 58 = .ok (.aload_n 0, 1) := by decide +kernel
theorem dX6_tear_59 : decode cX6_tear 59 = .ok (.iload_n 1, 1) := by decide +kernel
theorem dX6_tear_60 : decode cX6_tear 60 = .ok (.invokevirtual 34, 3) := by decide +kernel
theorem dX6_tear_63 : decode cX6_tear 63 = .ok (.aload_n 0, 1) := by decide +kernel
theorem dX6_tear_64 : decode cX6_tear 64 = .ok (.iload_n 2, 1) := by decide +kernel
theorem dX6_tear_65 : decode cX6_tear 65 = .ok (.invokevirtual 34, 3) := by decide +kernel
theorem dX6_tear_68 : decode cX6_tear 68 = .ok (.iconst 0, 1) := by decide +kernel
theorem dX6_tear_69 : decode cX6_tear 69 = .ok (.invokevirtual 56, 3) := by decide +kernel
theorem dX6_tear_72 : decode cX6_tear 72 = .ok (.ireturn, 1) := by decide +kernel
set_option maxRecDepth 20000 in
theorem ggX6_tear_X6_is : GoodIn wsX6_tear wsX6_is := goodIn_r _ [6, 7, 8, 9, 5, 10, 11, 12, 31, 32, 33, 34, 35, 36, 37, 38] (by decide +kernel) (by decide +kernel)
set_option maxRecDepth 20000 in
theorem gX6_tear_X6_is : GoodIn wsX6_tear (wsV RX6 38 RX6 yX6_is wsX6_is) := goodIn_app (goodIn_of _ (by decide +kernel)) ggX6_tear_X6_is
set_option maxRecDepth 20000 in
theorem ggX6_tear_X6_can : GoodIn wsX6_tear wsX6_can := goodIn_r _ [16, 17, 31, 32, 33, 34, 35, 36, 37, 38] (by decide +kernel) (by decide +kernel)
set_option maxRecDepth 20000 in
theorem gX6_tear_X6_can : GoodIn wsX6_tear (wsV RX6 42 RX6 yX6_can wsX6_can) := goodIn_app (goodIn_of _ (by decide +kernel)) ggX6_tear_X6_can
set_option maxRecDepth 20000 in
theorem ggX6_tear_X6_at : GoodIn wsX6_tear wsX6_at := goodIn_r _ [10, 11, 12, 31, 32, 33, 34, 35, 36, 37, 38] (by decide +kernel) (by decide +kernel)
set_option maxRecDepth 20000 in
theorem gX6_tear_X6_at : GoodIn wsX6_tear (wsV RX6 34 RX6 yX6_at wsX6_at) := goodIn_app (goodIn_of _ (by decide +kernel)) ggX6_tear_X6_at
set_option maxRecDepth 20000 in
theorem ggX6_tear_X6_turn : GoodIn wsX6_tear wsX6_turn := goodIn_r _ [21, 22, 1, 23, 11, 24, 12, 25, 26, 27, 28, 5, 29, 30, 31, 32, 33, 34, 35, 36, 37, 38] (by decide +kernel) (by decide +kernel)
set_option maxRecDepth 20000 in
theorem gX6_tear_X6_turn : GoodIn wsX6_tear (wsV RX6 56 RX6 yX6_turn wsX6_turn) := goodIn_app (goodIn_of _ (by decide +kernel)) ggX6_tear_X6_turn
theorem mX6_tear_0 : Cond.fieldLink RX6 15 "LayerwaysModel" "joined" "[[Z" ∈ wsX6_tear := by decide +kernel
theorem iX6_tear_X6 : ∀ w ∈ u_ws RX6 TX6 8, w ∈ wsX6_tear := by decide +kernel
def fX6_tear (mN : Int32) (mS : Int32) (mX : Int32) (mK : (Nat → Int32)) (mC : (Nat → Int32)) (mW : (Nat → Int32)) (mJ : (Nat → Nat → Int32)) (p0 : Int32) (p1 : Int32) : Option (Int32 × Int32 × Int32 × (Nat → Int32) × (Nat → Int32) × (Nat → Nat → Int32)) := (fX6_is mN mK p0).bind fun v1 => ((if v1 = 0 then some 0 else (fX6_is mN mK p1).bind fun v12 => if v12 = 0 then some 0 else some 1) : Option Int32).bind fun v3 => (fX6_can v3 1 1).bind fun v4 => if v4.1 = 0 then some (0, mX, v4.2, mC, mW, mJ) else (fX6_at mN mK p0).bind fun v5 => if zin v5 12 then (fX6_at mN mK p1).bind fun v7 => if zin v7 12 then (fX6_can (mJ v5.toNatClampNeg v7.toNatClampNeg) 1 1).bind fun v8 => if v8.1 = 0 then some (0, mX, v8.2, mC, mW, mJ) else (fX6_at mN mK p0).bind fun v9 => (fX6_at mN mK p1).bind fun v10 => (fX6_turn mN mS mK mC mW mJ v9 v10 0).bind fun v11 => some (v11.1, v11.2.1, v8.2, v11.2.2.1, v11.2.2.2.1, v11.2.2.2.2) else none else none
set_option maxRecDepth 100000 in
set_option maxHeartbeats 4000000 in
theorem kX6_tear (l : Launch) (K : zK) (aM : Nat) (aMk : Nat) (aMj : Nat) (aMc : Nat) (aMw : Nat) (aMr : (Nat → Nat))  (mN : Int32) (mS : Int32) (mX : Int32) (mT : Int32) (mK : (Nat → Int32)) (mC : (Nat → Int32)) (mW : (Nat → Int32)) (mJ : (Nat → Nat → Int32)) (p0 : Int32) (p1 : Int32) (r : Int32 × Int32 × Int32 × (Nat → Int32) × (Nat → Int32) × (Nat → Nat → Int32)) (hres : fX6_tear mN mS mX mK mC mW mJ p0 p1 = some r) : zM l K yX6_tear wsX6_tear ({ frames := 2, cells := 2, slots := 24, locals := 51 }) [.ref aM, .int p0, .int p1] ([(aM, .inr (6, [.ref aMk, .ref aMj, .int mN, .int mS, .ref aMc, .ref aMw, .int mX, .int mT])), (aMk, .inl (K.2 0, 12, .inl mK)), (aMj, .inl (K.2 3, 12, .inr (.inr (.inr (.inr (zo aMr 12)))))), (aMc, .inl (K.2 0, 12, .inl mC)), (aMw, .inl (K.2 0, 12, .inl mW))] ++ zR12Z K aMr mJ) (fun _ : Unit => some (.int r.1)) (fun _ : Unit => ([(aM, .inr (6, [.ref aMk, .ref aMj, .int mN, .int mS, .ref aMc, .ref aMw, .int r.2.1, .int r.2.2.1])), (aMk, .inl (K.2 0, 12, .inl mK)), (aMj, .inl (K.2 3, 12, .inr (.inr (.inr (.inr (zo aMr 12)))))), (aMc, .inl (K.2 0, 12, .inl r.2.2.2.1)), (aMw, .inl (K.2 0, 12, .inl r.2.2.2.2.1))] ++ zR12Z K aMr r.2.2.2.2.2)) 2 24 := by
  refine zM.intI (cc := cX6_tear) (maxL := 3) (ret := (some .int)) rfl (by decide) (Nat.le_of_ble_eq_true rfl) rfl ?_
  intro G hGl hG hN hE
  have hR : ∀ (pc : Nat) (lv : zL), decode cX6_tear pc = .ok (.ireturn, 1) → zj G pc lv [.int r.1] ([(aM, .inr (6, [.ref aMk, .ref aMj, .int mN, .int mS, .ref aMc, .ref aMw, .int r.2.1, .int r.2.2.1])), (aMk, .inl (K.2 0, 12, .inl mK)), (aMj, .inl (K.2 3, 12, .inr (.inr (.inr (.inr (zo aMr 12)))))), (aMc, .inl (K.2 0, 12, .inl r.2.2.2.1)), (aMw, .inl (K.2 0, 12, .inl r.2.2.2.2.1))] ++ zR12Z K aMr r.2.2.2.2.2) 2 24 := fun pc lv d => hE () _ rfl pc lv d
  clear hE
  unfold fX6_tear at hres
  show zj G 0 [(0, .ref aM), (1, .int p0), (2, .int p1)] [] ([(aM, .inr (6, [.ref aMk, .ref aMj, .int mN, .int mS, .ref aMc, .ref aMw, .int mX, .int mT])), (aMk, .inl (K.2 0, 12, .inl mK)), (aMj, .inl (K.2 3, 12, .inr (.inr (.inr (.inr (zo aMr 12)))))), (aMc, .inl (K.2 0, 12, .inl mC)), (aMw, .inl (K.2 0, 12, .inl mW))] ++ zR12Z K aMr mJ) 0 0
  refine z_aload_n hG dX6_tear_0 0 rfl ?_
  refine z_aload_n hG dX6_tear_1 0 rfl ?_
  refine z_iload_n hG dX6_tear_2 1 rfl ?_
  obtain ⟨v1, hv, hres⟩ := z_bind hres
  refine z_callV (As := [.int p0]) (rest := [.ref aM]) (wr := ([] : va_W)) (ws' := (fun _ : Unit => ([(aM, .inr (6, [.ref aMk, .ref aMj, .int mN, .int mS, .ref aMc, .ref aMw, .int mX, .int mT])), (aMk, .inl (K.2 0, 12, .inl mK)), (aMj, .inl (K.2 3, 12, .inr (.inr (.inr (.inr (zo aMr 12)))))), (aMc, .inl (K.2 0, 12, .inl mC)), (aMw, .inl (K.2 0, 12, .inl mW))] ++ zR12Z K aMr mJ))) (stk := (fun _ : Unit => [.int v1, .ref aM])) (kc' := 0) (ks' := 0) (n := 1) (C := RX6) (ci := 6) hG dX6_tear_3 (kX6_is _ K aM aMk aMj aMc aMw aMr mN mS mX mT mK mC mW mJ p0 v1 hv) gX6_tear_X6_is rfl rfl rfl ⟨rfl, by decide, by decide, rfl⟩ ⟨by decide, by decide⟩ (Nat.le_of_ble_eq_true rfl) ⟨(Nat.le_of_ble_eq_true rfl), (Nat.le_of_ble_eq_true rfl)⟩ [0, 1, 2, 3, 4, 5, 6, 7, 8, 9, 10, 11, 12, 13, 14, 15, 16] [] [0, 1, 2, 3, 4, 5, 6, 7, 8, 9, 10, 11, 12, 13, 14, 15, 16] rfl rfl rfl rfl (by decide) rfl (fun _ => rfl) (fun _ => rfl) rfl rfl rfl 0 rfl rfl rfl rfl (fun _ => ?_)
  obtain ⟨v3, hv, hres⟩ := z_bind hres
  have J : zj G 22 [(0, .ref aM), (1, .int p0), (2, .int p1)] [.int v3, .ref aM] ([(aM, .inr (6, [.ref aMk, .ref aMj, .int mN, .int mS, .ref aMc, .ref aMw, .int mX, .int mT])), (aMk, .inl (K.2 0, 12, .inl mK)), (aMj, .inl (K.2 3, 12, .inr (.inr (.inr (.inr (zo aMr 12)))))), (aMc, .inl (K.2 0, 12, .inl mC)), (aMw, .inl (K.2 0, 12, .inl mW))] ++ zR12Z K aMr mJ) 0 0 := by
    refine z_iconst 1 hG dX6_tear_22 (by decide) ?_
    refine z_iconst 1 hG dX6_tear_23 (by decide) ?_
    obtain ⟨v4, hv, hres⟩ := z_bind hres
    refine z_callV (As := [.int v3, .int 1, .int 1]) (rest := []) (wr := ([(aMk, .inl (K.2 0, 12, .inl mK)), (aMj, .inl (K.2 3, 12, .inr (.inr (.inr (.inr (zo aMr 12)))))), (aMc, .inl (K.2 0, 12, .inl mC)), (aMw, .inl (K.2 0, 12, .inl mW))] ++ zR12Z K aMr mJ)) (ws' := (fun _ : Unit => ([(aM, .inr (6, [.ref aMk, .ref aMj, .int mN, .int mS, .ref aMc, .ref aMw, .int mX, .int v4.2])), (aMk, .inl (K.2 0, 12, .inl mK)), (aMj, .inl (K.2 3, 12, .inr (.inr (.inr (.inr (zo aMr 12)))))), (aMc, .inl (K.2 0, 12, .inl mC)), (aMw, .inl (K.2 0, 12, .inl mW))] ++ zR12Z K aMr mJ))) (stk := (fun _ : Unit => [.int v4.1])) (kc' := 0) (ks' := 0) (n := 3) (C := RX6) (ci := 6) hG dX6_tear_24 (kX6_can _ K aM aMk aMj aMc aMw mN mS mX mT v3 1 1 v4 hv) gX6_tear_X6_can rfl rfl rfl ⟨rfl, by decide, by decide, rfl⟩ ⟨by decide, by decide⟩ (Nat.le_of_ble_eq_true rfl) ⟨(Nat.le_of_ble_eq_true rfl), (Nat.le_of_ble_eq_true rfl)⟩ [0] [1, 2, 3, 4, 5, 6, 7, 8, 9, 10, 11, 12, 13, 14, 15, 16] [16, 0, 1, 2, 3, 4, 5, 6, 7, 8, 9, 10, 11, 12, 13, 14, 15] rfl rfl rfl rfl (by decide) rfl (fun _ => rfl) (fun _ => rfl) rfl rfl rfl 0 rfl rfl rfl rfl (fun _ => ?_)
    refine z_if_eq 55 hG dX6_tear_27 (by decide) (fun c => ?_) (fun c => ?_)
    · replace hres := z_ifp c hres
      refine z_iconst 0 hG dX6_tear_55 (by decide) ?_
      obtain rfl := Option.some.inj hres
      exact (z_wid (Nat.le_of_ble_eq_true rfl) (Nat.le_of_ble_eq_true rfl) (hR _ _ dX6_tear_56))
    · replace hres := z_ifn c hres
      refine z_aload_n hG dX6_tear_30 0 rfl ?_
      refine z_aload_n hG dX6_tear_31 0 rfl ?_
      refine z_get (ci := 6) (C := RX6) (T := TX6) (N := 8) hG dX6_tear_32 iX6_tear_X6 1 (by decide) mX6_tear_0 rfl rfl 0 rfl rfl ?_
      refine z_aload_n hG dX6_tear_35 0 rfl ?_
      refine z_iload_n hG dX6_tear_36 1 rfl ?_
      obtain ⟨v5, hv, hres⟩ := z_bind hres
      refine z_callV (As := [.int p0]) (rest := [.ref aMj, .ref aM]) (wr := ([] : va_W)) (ws' := (fun _ : Unit => ([(aM, .inr (6, [.ref aMk, .ref aMj, .int mN, .int mS, .ref aMc, .ref aMw, .int mX, .int v4.2])), (aMk, .inl (K.2 0, 12, .inl mK)), (aMj, .inl (K.2 3, 12, .inr (.inr (.inr (.inr (zo aMr 12)))))), (aMc, .inl (K.2 0, 12, .inl mC)), (aMw, .inl (K.2 0, 12, .inl mW))] ++ zR12Z K aMr mJ))) (stk := (fun _ : Unit => [.int v5, .ref aMj, .ref aM])) (kc' := 0) (ks' := 0) (n := 1) (C := RX6) (ci := 6) hG dX6_tear_37 (kX6_at _ K aM aMk aMj aMc aMw aMr mN mS mX v4.2 mK mC mW mJ p0 v5 hv) gX6_tear_X6_at rfl rfl rfl ⟨rfl, by decide, by decide, rfl⟩ ⟨by decide, by decide⟩ (Nat.le_of_ble_eq_true rfl) ⟨(Nat.le_of_ble_eq_true rfl), (Nat.le_of_ble_eq_true rfl)⟩ [0, 1, 2, 3, 4, 5, 6, 7, 8, 9, 10, 11, 12, 13, 14, 15, 16] [] [0, 1, 2, 3, 4, 5, 6, 7, 8, 9, 10, 11, 12, 13, 14, 15, 16] rfl rfl rfl rfl (by decide) rfl (fun _ => rfl) (fun _ => rfl) rfl rfl rfl 0 rfl rfl rfl rfl (fun _ => ?_)
      obtain ⟨hr6, hres⟩ := z_guard hres
      refine z_aaldZ hG dX6_tear_40 2 rfl hr6 ?_
      refine z_aload_n hG dX6_tear_41 0 rfl ?_
      refine z_iload_n hG dX6_tear_42 2 rfl ?_
      obtain ⟨v7, hv, hres⟩ := z_bind hres
      refine z_callV (As := [.int p1]) (rest := [.ref (aMr v5.toNatClampNeg), .ref aM]) (wr := ([] : va_W)) (ws' := (fun _ : Unit => ([(aM, .inr (6, [.ref aMk, .ref aMj, .int mN, .int mS, .ref aMc, .ref aMw, .int mX, .int v4.2])), (aMk, .inl (K.2 0, 12, .inl mK)), (aMj, .inl (K.2 3, 12, .inr (.inr (.inr (.inr (zo aMr 12)))))), (aMc, .inl (K.2 0, 12, .inl mC)), (aMw, .inl (K.2 0, 12, .inl mW))] ++ zR12Z K aMr mJ))) (stk := (fun _ : Unit => [.int v7, .ref (aMr v5.toNatClampNeg), .ref aM])) (kc' := 0) (ks' := 0) (n := 1) (C := RX6) (ci := 6) hG dX6_tear_43 (kX6_at _ K aM aMk aMj aMc aMw aMr mN mS mX v4.2 mK mC mW mJ p1 v7 hv) gX6_tear_X6_at rfl rfl rfl ⟨rfl, by decide, by decide, rfl⟩ ⟨by decide, by decide⟩ (Nat.le_of_ble_eq_true rfl) ⟨(Nat.le_of_ble_eq_true rfl), (Nat.le_of_ble_eq_true rfl)⟩ [0, 1, 2, 3, 4, 5, 6, 7, 8, 9, 10, 11, 12, 13, 14, 15, 16] [] [0, 1, 2, 3, 4, 5, 6, 7, 8, 9, 10, 11, 12, 13, 14, 15, 16] rfl rfl rfl rfl (by decide) rfl (fun _ => rfl) (fun _ => rfl) rfl rfl rfl 0 rfl rfl rfl rfl (fun _ => ?_)
      obtain ⟨hg, hres⟩ := z_guard hres
      refine z_zaldG (M := mJ) hG dX6_tear_46 5 (z_12 rfl rfl rfl rfl rfl rfl rfl rfl rfl rfl rfl rfl) hr6 hg ?_
      refine z_iconst 1 hG dX6_tear_47 (by decide) ?_
      refine z_iconst 1 hG dX6_tear_48 (by decide) ?_
      obtain ⟨v8, hv, hres⟩ := z_bind hres
      refine z_callV (As := [.int (mJ v5.toNatClampNeg v7.toNatClampNeg), .int 1, .int 1]) (rest := []) (wr := ([(aMk, .inl (K.2 0, 12, .inl mK)), (aMj, .inl (K.2 3, 12, .inr (.inr (.inr (.inr (zo aMr 12)))))), (aMc, .inl (K.2 0, 12, .inl mC)), (aMw, .inl (K.2 0, 12, .inl mW))] ++ zR12Z K aMr mJ)) (ws' := (fun _ : Unit => ([(aM, .inr (6, [.ref aMk, .ref aMj, .int mN, .int mS, .ref aMc, .ref aMw, .int mX, .int v8.2])), (aMk, .inl (K.2 0, 12, .inl mK)), (aMj, .inl (K.2 3, 12, .inr (.inr (.inr (.inr (zo aMr 12)))))), (aMc, .inl (K.2 0, 12, .inl mC)), (aMw, .inl (K.2 0, 12, .inl mW))] ++ zR12Z K aMr mJ))) (stk := (fun _ : Unit => [.int v8.1])) (kc' := 0) (ks' := 0) (n := 3) (C := RX6) (ci := 6) hG dX6_tear_49 (kX6_can _ K aM aMk aMj aMc aMw mN mS mX v4.2 (mJ v5.toNatClampNeg v7.toNatClampNeg) 1 1 v8 hv) gX6_tear_X6_can rfl rfl rfl ⟨rfl, by decide, by decide, rfl⟩ ⟨by decide, by decide⟩ (Nat.le_of_ble_eq_true rfl) ⟨(Nat.le_of_ble_eq_true rfl), (Nat.le_of_ble_eq_true rfl)⟩ [0] [1, 2, 3, 4, 5, 6, 7, 8, 9, 10, 11, 12, 13, 14, 15, 16] [16, 0, 1, 2, 3, 4, 5, 6, 7, 8, 9, 10, 11, 12, 13, 14, 15] rfl rfl rfl rfl (by decide) rfl (fun _ => rfl) (fun _ => rfl) rfl rfl rfl 0 rfl rfl rfl rfl (fun _ => ?_)
      refine z_if_ne 57 hG dX6_tear_52 (by decide) (fun c => ?_) (fun c => ?_)
      · replace hres := z_ifn c hres
        refine z_aload_n hG dX6_tear_57 0 rfl ?_
        refine z_aload_n hG dX6_tear_58 0 rfl ?_
        refine z_iload_n hG dX6_tear_59 1 rfl ?_
        obtain ⟨v9, hv, hres⟩ := z_bind hres
        refine z_callV (As := [.int p0]) (rest := [.ref aM]) (wr := ([] : va_W)) (ws' := (fun _ : Unit => ([(aM, .inr (6, [.ref aMk, .ref aMj, .int mN, .int mS, .ref aMc, .ref aMw, .int mX, .int v8.2])), (aMk, .inl (K.2 0, 12, .inl mK)), (aMj, .inl (K.2 3, 12, .inr (.inr (.inr (.inr (zo aMr 12)))))), (aMc, .inl (K.2 0, 12, .inl mC)), (aMw, .inl (K.2 0, 12, .inl mW))] ++ zR12Z K aMr mJ))) (stk := (fun _ : Unit => [.int v9, .ref aM])) (kc' := 0) (ks' := 0) (n := 1) (C := RX6) (ci := 6) hG dX6_tear_60 (kX6_at _ K aM aMk aMj aMc aMw aMr mN mS mX v8.2 mK mC mW mJ p0 v9 hv) gX6_tear_X6_at rfl rfl rfl ⟨rfl, by decide, by decide, rfl⟩ ⟨by decide, by decide⟩ (Nat.le_of_ble_eq_true rfl) ⟨(Nat.le_of_ble_eq_true rfl), (Nat.le_of_ble_eq_true rfl)⟩ [0, 1, 2, 3, 4, 5, 6, 7, 8, 9, 10, 11, 12, 13, 14, 15, 16] [] [0, 1, 2, 3, 4, 5, 6, 7, 8, 9, 10, 11, 12, 13, 14, 15, 16] rfl rfl rfl rfl (by decide) rfl (fun _ => rfl) (fun _ => rfl) rfl rfl rfl 0 rfl rfl rfl rfl (fun _ => ?_)
        refine z_aload_n hG dX6_tear_63 0 rfl ?_
        refine z_iload_n hG dX6_tear_64 2 rfl ?_
        obtain ⟨v10, hv, hres⟩ := z_bind hres
        refine z_callV (As := [.int p1]) (rest := [.int v9, .ref aM]) (wr := ([] : va_W)) (ws' := (fun _ : Unit => ([(aM, .inr (6, [.ref aMk, .ref aMj, .int mN, .int mS, .ref aMc, .ref aMw, .int mX, .int v8.2])), (aMk, .inl (K.2 0, 12, .inl mK)), (aMj, .inl (K.2 3, 12, .inr (.inr (.inr (.inr (zo aMr 12)))))), (aMc, .inl (K.2 0, 12, .inl mC)), (aMw, .inl (K.2 0, 12, .inl mW))] ++ zR12Z K aMr mJ))) (stk := (fun _ : Unit => [.int v10, .int v9, .ref aM])) (kc' := 0) (ks' := 0) (n := 1) (C := RX6) (ci := 6) hG dX6_tear_65 (kX6_at _ K aM aMk aMj aMc aMw aMr mN mS mX v8.2 mK mC mW mJ p1 v10 hv) gX6_tear_X6_at rfl rfl rfl ⟨rfl, by decide, by decide, rfl⟩ ⟨by decide, by decide⟩ (Nat.le_of_ble_eq_true rfl) ⟨(Nat.le_of_ble_eq_true rfl), (Nat.le_of_ble_eq_true rfl)⟩ [0, 1, 2, 3, 4, 5, 6, 7, 8, 9, 10, 11, 12, 13, 14, 15, 16] [] [0, 1, 2, 3, 4, 5, 6, 7, 8, 9, 10, 11, 12, 13, 14, 15, 16] rfl rfl rfl rfl (by decide) rfl (fun _ => rfl) (fun _ => rfl) rfl rfl rfl 0 rfl rfl rfl rfl (fun _ => ?_)
        refine z_iconst 0 hG dX6_tear_68 (by decide) ?_
        obtain ⟨v11, hv, hres⟩ := z_bind hres
        refine z_callV (As := [.int v9, .int v10, .int 0]) (rest := []) (wr := ([] : va_W)) (ws' := (fun _ : Unit => ([(aM, .inr (6, [.ref aMk, .ref aMj, .int mN, .int mS, .ref aMc, .ref aMw, .int v11.2.1, .int v8.2])), (aMk, .inl (K.2 0, 12, .inl mK)), (aMj, .inl (K.2 3, 12, .inr (.inr (.inr (.inr (zo aMr 12)))))), (aMc, .inl (K.2 0, 12, .inl v11.2.2.1)), (aMw, .inl (K.2 0, 12, .inl v11.2.2.2.1))] ++ zR12Z K aMr v11.2.2.2.2))) (stk := (fun _ : Unit => [.int v11.1])) (kc' := 2) (ks' := 24) (n := 3) (C := RX6) (ci := 6) hG dX6_tear_69 (kX6_turn _ K aM aMk aMj aMc aMw aMr mN mS mX v8.2 mK mC mW mJ v9 v10 0 v11 hv) gX6_tear_X6_turn rfl rfl rfl ⟨rfl, by decide, by decide, rfl⟩ ⟨by decide, by decide⟩ (Nat.le_of_ble_eq_true rfl) ⟨(Nat.le_of_ble_eq_true rfl), (Nat.le_of_ble_eq_true rfl)⟩ [0, 1, 2, 3, 4, 5, 6, 7, 8, 9, 10, 11, 12, 13, 14, 15, 16] [] [0, 1, 2, 3, 4, 5, 6, 7, 8, 9, 10, 11, 12, 13, 14, 15, 16] rfl rfl rfl rfl (by decide) rfl (fun _ => rfl) (fun _ => rfl) rfl rfl rfl 0 rfl rfl rfl rfl (fun _ => ?_)
        obtain rfl := Option.some.inj hres
        exact (hR _ _ dX6_tear_72)
      · replace hres := z_ifp c hres
        refine z_iconst 0 hG dX6_tear_55 (by decide) ?_
        obtain rfl := Option.some.inj hres
        exact (z_wid (Nat.le_of_ble_eq_true rfl) (Nat.le_of_ble_eq_true rfl) (hR _ _ dX6_tear_56))
  replace hres := hv
  clear hv
  refine z_if_eq 21 hG dX6_tear_6 (by decide) (fun c => ?_) (fun c => ?_)
  · replace hres := z_ifp c hres
    refine z_iconst 0 hG dX6_tear_21 (by decide) ?_
    obtain rfl := Option.some.inj hres
    exact J
  · replace hres := z_ifn c hres
    refine z_aload_n hG dX6_tear_9 0 rfl ?_
    refine z_iload_n hG dX6_tear_10 2 rfl ?_
    obtain ⟨v12, hv, hres⟩ := z_bind hres
    refine z_callV (As := [.int p1]) (rest := [.ref aM]) (wr := ([] : va_W)) (ws' := (fun _ : Unit => ([(aM, .inr (6, [.ref aMk, .ref aMj, .int mN, .int mS, .ref aMc, .ref aMw, .int mX, .int mT])), (aMk, .inl (K.2 0, 12, .inl mK)), (aMj, .inl (K.2 3, 12, .inr (.inr (.inr (.inr (zo aMr 12)))))), (aMc, .inl (K.2 0, 12, .inl mC)), (aMw, .inl (K.2 0, 12, .inl mW))] ++ zR12Z K aMr mJ))) (stk := (fun _ : Unit => [.int v12, .ref aM])) (kc' := 0) (ks' := 0) (n := 1) (C := RX6) (ci := 6) hG dX6_tear_11 (kX6_is _ K aM aMk aMj aMc aMw aMr mN mS mX mT mK mC mW mJ p1 v12 hv) gX6_tear_X6_is rfl rfl rfl ⟨rfl, by decide, by decide, rfl⟩ ⟨by decide, by decide⟩ (Nat.le_of_ble_eq_true rfl) ⟨(Nat.le_of_ble_eq_true rfl), (Nat.le_of_ble_eq_true rfl)⟩ [0, 1, 2, 3, 4, 5, 6, 7, 8, 9, 10, 11, 12, 13, 14, 15, 16] [] [0, 1, 2, 3, 4, 5, 6, 7, 8, 9, 10, 11, 12, 13, 14, 15, 16] rfl rfl rfl rfl (by decide) rfl (fun _ => rfl) (fun _ => rfl) rfl rfl rfl 0 rfl rfl rfl rfl (fun _ => ?_)
    refine z_if_eq 21 hG dX6_tear_14 (by decide) (fun c => ?_) (fun c => ?_)
    · replace hres := z_ifp c hres
      refine z_iconst 0 hG dX6_tear_21 (by decide) ?_
      obtain rfl := Option.some.inj hres
      exact J
    · replace hres := z_ifn c hres
      refine z_iconst 1 hG dX6_tear_17 (by decide) ?_
      refine z_goto 22 hG dX6_tear_18 (by decide) ?_
      obtain rfl := Option.some.inj hres
      exact J

theorem dX6_greatest_0 : decode cX6_greatest 0 = .ok (.iconst 0, 1) := by decide +kernel
theorem dX6_greatest_1 : decode cX6_greatest 1 = .ok (.istore_n 2, 1) := by decide +kernel
theorem dX6_greatest_2 : decode cX6_greatest 2 = .ok (.iconst 0, 1) := by decide +kernel
theorem dX6_greatest_3 : decode cX6_greatest 3 = .ok (.istore_n 3, 1) := by decide +kernel
theorem dX6_greatest_4 : decode cX6_greatest 4 = .ok (.iload_n 3, 1) := by decide +kernel
theorem dX6_greatest_5 : decode cX6_greatest 5 = .ok (.aload_n 0, 1) := by decide +kernel
theorem dX6_greatest_6 : decode cX6_greatest 6 = .ok (.getfield 31, 3) := by decide +kernel
theorem dX6_greatest_9 : decode cX6_greatest 9 = .ok (.if_icmp .ge 24, 3) := by decide +kernel
theorem dX6_greatest_12 : decode cX6_greatest 12 = .ok (.aload_n 1, 1) := by decide +kernel
theorem dX6_greatest_13 : decode cX6_greatest 13 = .ok (.iload_n 3, 1) := by decide +kernel
theorem dX6_greatest_14 : decode cX6_greatest 14 = .ok (.iaload, 1) := by decide +kernel
theorem dX6_greatest_15 : decode cX6_greatest 15 = .ok (.iload_n 2, 1) := by decide +kernel
theorem dX6_greatest_16 : decode cX6_greatest 16 = .ok (.if_icmp .le 9, 3) := by decide +kernel
theorem dX6_greatest_19 : decode cX6_greatest 19 = .ok (.aload_n 1, 1) := by decide +kernel
theorem dX6_greatest_20 : decode cX6_greatest 20 = .ok (.iload_n 3, 1) := by decide +kernel
theorem dX6_greatest_21 : decode cX6_greatest 21 = .ok (.iaload, 1) := by decide +kernel
theorem dX6_greatest_22 : decode cX6_greatest 22 = .ok (.goto 4, 3) := by decide +kernel
theorem dX6_greatest_25 : decode cX6_greatest 25 = .ok (.iload_n 2, 1) := by decide +kernel
theorem dX6_greatest_26 : decode cX6_greatest 26 = .ok (.istore_n 2, 1) := by decide +kernel
theorem dX6_greatest_27 : decode cX6_greatest 27 = .ok (.iinc 3 1, 3) := by decide +kernel
theorem dX6_greatest_30 : decode cX6_greatest 30 = .ok (.goto (-26), 3) := by decide +kernel
theorem dX6_greatest_33 : decode cX6_greatest 33 = .ok (.iload_n 2, 1) := by decide +kernel
theorem dX6_greatest_34 : decode cX6_greatest 34 = .ok (.ireturn, 1) := by decide +kernel
theorem mX6_greatest_0 : Cond.fieldLink RX6 31 "LayerwaysModel" "many" "I" ∈ wsX6_greatest := by decide +kernel
theorem iX6_greatest_X6 : ∀ w ∈ u_ws RX6 TX6 8, w ∈ wsX6_greatest := by decide +kernel
def sX6_greatest_4 (mN : Int32) (pL : (Nat → Int32)) (s1 : Int32 × Int32) : Option ((Int32 × Int32) ⊕ (Int32 × Int32)) := if mN ≤ s1.2 then some (.inl (s1.1, s1.2)) else if zin s1.2 12 then if (pL s1.2.toNatClampNeg) ≤ s1.1 then some (.inr (s1.1, (s1.2 + 1))) else if zin s1.2 12 then some (.inr ((pL s1.2.toNatClampNeg), (s1.2 + 1))) else none else none
def fX6_greatest (mN : Int32) (pL : (Nat → Int32)) : Option (Int32) := (zloop (sX6_greatest_4 mN pL) 32 (0, 0)).bind fun e3 => some e3.1
set_option maxRecDepth 100000 in
set_option maxHeartbeats 4000000 in
theorem kX6_greatest (l : Launch) (K : zK) (aM : Nat) (aP : Nat) (aMk : Nat) (aMj : Nat) (aMc : Nat) (aMw : Nat)  (mN : Int32) (mS : Int32) (mX : Int32) (mT : Int32) (pL : (Nat → Int32)) (r : Int32) (hres : fX6_greatest mN pL = some r) : zM l K yX6_greatest wsX6_greatest ({ frames := 0, cells := 0, slots := 0, locals := 0 }) [.ref aM, .ref aP] [(aM, .inr (6, [.ref aMk, .ref aMj, .int mN, .int mS, .ref aMc, .ref aMw, .int mX, .int mT])), (aP, .inl (K.2 0, 12, .inl pL))] (fun _ : Unit => some (.int r)) (fun _ : Unit => [(aM, .inr (6, [.ref aMk, .ref aMj, .int mN, .int mS, .ref aMc, .ref aMw, .int mX, .int mT])), (aP, .inl (K.2 0, 12, .inl pL))]) 0 0 := by
  refine zM.intI (cc := cX6_greatest) (maxL := 4) (ret := (some .int)) rfl (by decide) (Nat.le_of_ble_eq_true rfl) rfl ?_
  intro G hGl hG hN hE
  have hR : ∀ (pc : Nat) (lv : zL), decode cX6_greatest pc = .ok (.ireturn, 1) → zj G pc lv [.int r] [(aM, .inr (6, [.ref aMk, .ref aMj, .int mN, .int mS, .ref aMc, .ref aMw, .int mX, .int mT])), (aP, .inl (K.2 0, 12, .inl pL))] 0 0 := fun pc lv d => hE () _ rfl pc lv d
  clear hE
  unfold fX6_greatest at hres
  show zj G 0 [(0, .ref aM), (1, .ref aP)] [] [(aM, .inr (6, [.ref aMk, .ref aMj, .int mN, .int mS, .ref aMc, .ref aMw, .int mX, .int mT])), (aP, .inl (K.2 0, 12, .inl pL))] 0 0
  refine z_iconst 0 hG dX6_greatest_0 (by decide) ?_
  refine z_istore_n (lv' := [(2, .int 0), (0, .ref aM), (1, .ref aP)]) hG dX6_greatest_1 (by decide) rfl ?_
  refine z_iconst 0 hG dX6_greatest_2 (by decide) ?_
  refine z_istore_n (lv' := [(3, .int 0), (2, .int 0), (0, .ref aM), (1, .ref aP)]) hG dX6_greatest_3 (by decide) rfl ?_
  obtain ⟨e3, hx, hres⟩ := z_bind hres
  refine z_lv [2, 3, 1, 0] (lv' := [(0, .ref aM), (1, .ref aP), (2, .int 0), (3, .int 0)]) rfl ?_
  refine z_loop hx (fun s1 : Int32 × Int32 => [(0, .ref aM), (1, .ref aP), (2, .int s1.1), (3, .int s1.2)]) (fun s1 : Int32 × Int32 => [(aM, .inr (6, [.ref aMk, .ref aMj, .int mN, .int mS, .ref aMc, .ref aMw, .int mX, .int mT])), (aP, .inl (K.2 0, 12, .inl pL))]) (fun e3 : Int32 × Int32 => zj G 33 [(0, .ref aM), (1, .ref aP), (2, .int e3.1), (3, .int e3.2)] [] [(aM, .inr (6, [.ref aMk, .ref aMj, .int mN, .int mS, .ref aMc, .ref aMw, .int mX, .int mT])), (aP, .inl (K.2 0, 12, .inl pL))] 0 0) ?_ ?_
  · refine z_iload_n hG dX6_greatest_33 2 rfl ?_
    obtain rfl := Option.some.inj hres
    exact (hR _ _ dX6_greatest_34)
  · intro s1 w2 hres hX hB
    unfold sX6_greatest_4 at hres
    refine z_iload_n hG dX6_greatest_4 3 rfl ?_
    refine z_aload_n hG dX6_greatest_5 0 rfl ?_
    refine z_get (ci := 6) (C := RX6) (T := TX6) (N := 8) hG dX6_greatest_6 iX6_greatest_X6 2 (by decide) mX6_greatest_0 rfl rfl 0 rfl rfl ?_
    refine z_icmp_ge 33 hG dX6_greatest_9 (by decide) (fun c => ?_) (fun c => ?_)
    · replace hres := z_ifp c hres
      exact (hX (s1.1, s1.2) (Option.some.inj hres).symm)
    · replace hres := z_ifn c hres
      refine z_aload_n hG dX6_greatest_12 1 rfl ?_
      refine z_iload_n hG dX6_greatest_13 3 rfl ?_
      obtain ⟨hg, hres⟩ := z_guard hres
      refine z_iald hG dX6_greatest_14 1 rfl hg ?_
      refine z_iload_n hG dX6_greatest_15 2 rfl ?_
      refine z_icmp_le 25 hG dX6_greatest_16 (by decide) (fun c => ?_) (fun c => ?_)
      · replace hres := z_ifp c hres
        refine z_iload_n hG dX6_greatest_25 2 rfl ?_
        refine z_istore_n (lv' := [(2, .int s1.1), (0, .ref aM), (1, .ref aP), (3, .int s1.2)]) hG dX6_greatest_26 (by decide) rfl ?_
        refine z_iinc (s1.2 + 1) (lv' := [(3, .int (s1.2 + 1)), (2, .int s1.1), (0, .ref aM), (1, .ref aP)]) hG dX6_greatest_27 3 rfl rfl (by decide) rfl ?_
        refine z_goto 4 hG dX6_greatest_30 (by decide) ?_
        exact (z_lv [2, 3, 1, 0] rfl (hB (s1.1, (s1.2 + 1)) (Option.some.inj hres).symm))
      · replace hres := z_ifn c hres
        refine z_aload_n hG dX6_greatest_19 1 rfl ?_
        refine z_iload_n hG dX6_greatest_20 3 rfl ?_
        obtain ⟨hg, hres⟩ := z_guard hres
        refine z_iald hG dX6_greatest_21 1 rfl hg ?_
        refine z_goto 26 hG dX6_greatest_22 (by decide) ?_
        refine z_istore_n (lv' := [(2, .int (pL s1.2.toNatClampNeg)), (0, .ref aM), (1, .ref aP), (3, .int s1.2)]) hG dX6_greatest_26 (by decide) rfl ?_
        refine z_iinc (s1.2 + 1) (lv' := [(3, .int (s1.2 + 1)), (2, .int (pL s1.2.toNatClampNeg)), (0, .ref aM), (1, .ref aP)]) hG dX6_greatest_27 3 rfl rfl (by decide) rfl ?_
        refine z_goto 4 hG dX6_greatest_30 (by decide) ?_
        exact (z_lv [2, 3, 1, 0] rfl (hB ((pL s1.2.toNatClampNeg), (s1.2 + 1)) (Option.some.inj hres).symm))

theorem dX6_having_0 : decode cX6_having 0 = .ok (.iconst 0, 1) := by decide +kernel
theorem dX6_having_1 : decode cX6_having 1 = .ok (.istore_n 3, 1) := by decide +kernel
theorem dX6_having_2 : decode cX6_having 2 = .ok (.iconst 0, 1) := by decide +kernel
theorem dX6_having_3 : decode cX6_having 3 = .ok (.istore 4, 2) := by decide +kernel
theorem dX6_having_5 : decode cX6_having 5 = .ok (.iload 4, 2) := by decide +kernel
theorem dX6_having_7 : decode cX6_having 7 = .ok (.aload_n 0, 1) := by decide +kernel
theorem dX6_having_8 : decode cX6_having 8 = .ok (.getfield 31, 3) := by decide +kernel
theorem dX6_having_11 : decode cX6_having 11 = .ok (.if_icmp .ge 25, 3) := by decide +kernel
theorem dX6_having_14 : decode cX6_having 14 = .ok (.iload_n 3, 1) := by decide +kernel
theorem dX6_having_15 : decode cX6_having 15 = .ok (.aload_n 1, 1) := by decide +kernel
theorem dX6_having_16 : decode cX6_having 16 = .ok (.iload 4, 2) := by decide +kernel
theorem dX6_having_18 : decode cX6_having 18 = .ok (.iaload, 1) := by decide +kernel
theorem dX6_having_19 : decode cX6_having 19 = .ok (.iload_n 2, 1) := by decide +kernel
theorem dX6_having_20 : decode cX6_having 20 = .ok (.if_icmp .ne 7, 3) := by decide +kernel
theorem dX6_having_23 : decode cX6_having 23 = .ok (.iconst 1, 1) := by decide +kernel
theorem dX6_having_24 : decode cX6_having 24 = .ok (.goto 4, 3) := by decide +kernel
theorem dX6_having_27 : decode cX6_having 27 = .ok (.iconst 0, 1) := by decide +kernel
theorem dX6_having_28 : decode cX6_having 28 = .ok (.iadd, 1) := by decide +kernel
theorem dX6_having_29 : decode cX6_having 29 = .ok (.istore_n 3, 1) := by decide +kernel
theorem dX6_having_30 : decode cX6_having 30 = .ok (.iinc 4 1, 3) := by decide +kernel
theorem dX6_having_33 : decode cX6_having 33 = .ok (.goto (-28), 3) := by decide +kernel
theorem dX6_having_36 : decode cX6_having 36 = .ok (.iload_n 3, 1) := by decide +kernel
theorem dX6_having_37 : decode cX6_having 37 = .ok (.ireturn, 1) := by decide +kernel
theorem mX6_having_0 : Cond.fieldLink RX6 31 "LayerwaysModel" "many" "I" ∈ wsX6_having := by decide +kernel
theorem iX6_having_X6 : ∀ w ∈ u_ws RX6 TX6 8, w ∈ wsX6_having := by decide +kernel
def sX6_having_5 (mN : Int32) (pL : (Nat → Int32)) (p1 : Int32) (s1 : Int32 × Int32) : Option ((Int32 × Int32) ⊕ (Int32 × Int32)) := if mN ≤ s1.2 then some (.inl (s1.1, s1.2)) else if zin s1.2 12 then if (pL s1.2.toNatClampNeg) = p1 then some (.inr ((s1.1 + 1), (s1.2 + 1))) else some (.inr ((s1.1 + 0), (s1.2 + 1))) else none
def fX6_having (mN : Int32) (pL : (Nat → Int32)) (p1 : Int32) : Option (Int32) := (zloop (sX6_having_5 mN pL p1) 32 (0, 0)).bind fun e3 => some e3.1
set_option maxRecDepth 100000 in
set_option maxHeartbeats 4000000 in
theorem kX6_having (l : Launch) (K : zK) (aM : Nat) (aP : Nat) (aMk : Nat) (aMj : Nat) (aMc : Nat) (aMw : Nat)  (mN : Int32) (mS : Int32) (mX : Int32) (mT : Int32) (pL : (Nat → Int32)) (p1 : Int32) (r : Int32) (hres : fX6_having mN pL p1 = some r) : zM l K yX6_having wsX6_having ({ frames := 0, cells := 0, slots := 0, locals := 0 }) [.ref aM, .ref aP, .int p1] [(aM, .inr (6, [.ref aMk, .ref aMj, .int mN, .int mS, .ref aMc, .ref aMw, .int mX, .int mT])), (aP, .inl (K.2 0, 12, .inl pL))] (fun _ : Unit => some (.int r)) (fun _ : Unit => [(aM, .inr (6, [.ref aMk, .ref aMj, .int mN, .int mS, .ref aMc, .ref aMw, .int mX, .int mT])), (aP, .inl (K.2 0, 12, .inl pL))]) 0 0 := by
  refine zM.intI (cc := cX6_having) (maxL := 5) (ret := (some .int)) rfl (by decide) (Nat.le_of_ble_eq_true rfl) rfl ?_
  intro G hGl hG hN hE
  have hR : ∀ (pc : Nat) (lv : zL), decode cX6_having pc = .ok (.ireturn, 1) → zj G pc lv [.int r] [(aM, .inr (6, [.ref aMk, .ref aMj, .int mN, .int mS, .ref aMc, .ref aMw, .int mX, .int mT])), (aP, .inl (K.2 0, 12, .inl pL))] 0 0 := fun pc lv d => hE () _ rfl pc lv d
  clear hE
  unfold fX6_having at hres
  show zj G 0 [(0, .ref aM), (1, .ref aP), (2, .int p1)] [] [(aM, .inr (6, [.ref aMk, .ref aMj, .int mN, .int mS, .ref aMc, .ref aMw, .int mX, .int mT])), (aP, .inl (K.2 0, 12, .inl pL))] 0 0
  refine z_iconst 0 hG dX6_having_0 (by decide) ?_
  refine z_istore_n (lv' := [(3, .int 0), (0, .ref aM), (1, .ref aP), (2, .int p1)]) hG dX6_having_1 (by decide) rfl ?_
  refine z_iconst 0 hG dX6_having_2 (by decide) ?_
  refine z_istore (lv' := [(4, .int 0), (3, .int 0), (0, .ref aM), (1, .ref aP), (2, .int p1)]) hG dX6_having_3 (by decide) rfl ?_
  obtain ⟨e3, hx, hres⟩ := z_bind hres
  refine z_lv [2, 3, 4, 1, 0] (lv' := [(0, .ref aM), (1, .ref aP), (2, .int p1), (3, .int 0), (4, .int 0)]) rfl ?_
  refine z_loop hx (fun s1 : Int32 × Int32 => [(0, .ref aM), (1, .ref aP), (2, .int p1), (3, .int s1.1), (4, .int s1.2)]) (fun s1 : Int32 × Int32 => [(aM, .inr (6, [.ref aMk, .ref aMj, .int mN, .int mS, .ref aMc, .ref aMw, .int mX, .int mT])), (aP, .inl (K.2 0, 12, .inl pL))]) (fun e3 : Int32 × Int32 => zj G 36 [(0, .ref aM), (1, .ref aP), (2, .int p1), (3, .int e3.1), (4, .int e3.2)] [] [(aM, .inr (6, [.ref aMk, .ref aMj, .int mN, .int mS, .ref aMc, .ref aMw, .int mX, .int mT])), (aP, .inl (K.2 0, 12, .inl pL))] 0 0) ?_ ?_
  · refine z_iload_n hG dX6_having_36 3 rfl ?_
    obtain rfl := Option.some.inj hres
    exact (hR _ _ dX6_having_37)
  · intro s1 w2 hres hX hB
    unfold sX6_having_5 at hres
    refine z_iload hG dX6_having_5 4 rfl ?_
    refine z_aload_n hG dX6_having_7 0 rfl ?_
    refine z_get (ci := 6) (C := RX6) (T := TX6) (N := 8) hG dX6_having_8 iX6_having_X6 2 (by decide) mX6_having_0 rfl rfl 0 rfl rfl ?_
    refine z_icmp_ge 36 hG dX6_having_11 (by decide) (fun c => ?_) (fun c => ?_)
    · replace hres := z_ifp c hres
      exact (hX (s1.1, s1.2) (Option.some.inj hres).symm)
    · replace hres := z_ifn c hres
      refine z_iload_n hG dX6_having_14 3 rfl ?_
      refine z_aload_n hG dX6_having_15 1 rfl ?_
      refine z_iload hG dX6_having_16 4 rfl ?_
      obtain ⟨hg, hres⟩ := z_guard hres
      refine z_iald hG dX6_having_18 1 rfl hg ?_
      refine z_iload_n hG dX6_having_19 2 rfl ?_
      refine z_icmp_ne 27 hG dX6_having_20 (by decide) (fun c => ?_) (fun c => ?_)
      · replace hres := z_ifn c hres
        refine z_iconst 0 hG dX6_having_27 (by decide) ?_
        refine z_iadd hG dX6_having_28 ?_
        refine z_istore_n (lv' := [(3, .int (s1.1 + 0)), (0, .ref aM), (1, .ref aP), (2, .int p1), (4, .int s1.2)]) hG dX6_having_29 (by decide) rfl ?_
        refine z_iinc (s1.2 + 1) (lv' := [(4, .int (s1.2 + 1)), (3, .int (s1.1 + 0)), (0, .ref aM), (1, .ref aP), (2, .int p1)]) hG dX6_having_30 4 rfl rfl (by decide) rfl ?_
        refine z_goto 5 hG dX6_having_33 (by decide) ?_
        exact (z_lv [2, 3, 4, 1, 0] rfl (hB ((s1.1 + 0), (s1.2 + 1)) (Option.some.inj hres).symm))
      · replace hres := z_ifp c hres
        refine z_iconst 1 hG dX6_having_23 (by decide) ?_
        refine z_goto 28 hG dX6_having_24 (by decide) ?_
        refine z_iadd hG dX6_having_28 ?_
        refine z_istore_n (lv' := [(3, .int (s1.1 + 1)), (0, .ref aM), (1, .ref aP), (2, .int p1), (4, .int s1.2)]) hG dX6_having_29 (by decide) rfl ?_
        refine z_iinc (s1.2 + 1) (lv' := [(4, .int (s1.2 + 1)), (3, .int (s1.1 + 1)), (0, .ref aM), (1, .ref aP), (2, .int p1)]) hG dX6_having_30 4 rfl rfl (by decide) rfl ?_
        refine z_goto 5 hG dX6_having_33 (by decide) ?_
        exact (z_lv [2, 3, 4, 1, 0] rfl (hB ((s1.1 + 1), (s1.2 + 1)) (Option.some.inj hres).symm))

theorem dX6_begin_0 : decode cX6_begin 0 = .ok (.aload_n 0, 1) := by decide +kernel
theorem dX6_begin_1 : decode cX6_begin 1 = .ok (.aload_n 0, 1) := by decide +kernel
theorem dX6_begin_2 : decode cX6_begin 2 = .ok (.iload_n 1, 1) := by decide +kernel
theorem dX6_begin_3 : decode cX6_begin 3 = .ok (.invokevirtual 38, 3) := by decide +kernel
theorem dX6_begin_6 : decode cX6_begin 6 = .ok (.iconst 1, 1) := by decide +kernel
theorem dX6_begin_7 : decode cX6_begin 7 = .ok (.iconst 1, 1) := by decide +kernel
theorem dX6_begin_8 : decode cX6_begin 8 = .ok (.invokevirtual 42, 3) := by decide +kernel
theorem dX6_begin_11 : decode cX6_begin 11 = .ok (.ifCond .ne 5, 3) := by decide +kernel
theorem dX6_begin_14 : decode cX6_begin 14 = .ok (.iconst 0, 1) := by decide +kernel
theorem dX6_begin_15 : decode cX6_begin 15 = .ok (.ireturn, 1) := by decide +kernel
theorem dX6_begin_16 : decode cX6_begin 16 = .ok (.aload_n 0, 1) := by decide +kernel
theorem dX6_begin_17 : decode cX6_begin 17 = .ok (.aload_n 0, 1) := by decide +kernel
theorem dX6_begin_18 : decode cX6_begin 18 = .ok (.iload_n 1, 1) := by decide +kernel
theorem dX6_begin_19 : decode cX6_begin 19 = .ok (.invokevirtual 34, 3) := by decide +kernel
theorem dX6_begin_22 : decode cX6_begin 22 = .ok (.putfield 18, 3) := by decide +kernel
theorem dX6_begin_25 : decode cX6_begin 25 = .ok (.aload_n 0, 1) := by decide +kernel
theorem dX6_begin_26 : decode cX6_begin 26 = .ok (.iconst 0, 1) := by decide +kernel
theorem dX6_begin_27 : decode cX6_begin 27 = .ok (.putfield 46, 3) := by decide +kernel
theorem dX6_begin_30 : decode cX6_begin 30 = .ok (.aload_n 0, 1) := by decide +kernel
theorem dX6_begin_31 : decode cX6_begin 31 = .ok (.getfield 31, 3) := by decide +kernel
theorem dX6_begin_34 : decode cX6_begin 34 = .ok (.aload_n 0, 1) := by decide +kernel
theorem dX6_begin_35 : decode cX6_begin 35 = .ok (.aload_n 0, 1) := by decide +kernel
theorem dX6_begin_36 : decode cX6_begin 36 = .ok (.aload_n 0, 1) := by decide +kernel
theorem dX6_begin_37 : decode cX6_begin 37 = .ok (.getfield 18, 3) := by decide +kernel
theorem dX6_begin_40 : decode cX6_begin 40 = .ok (.invokevirtual 52, 3) := by decide +kernel
theorem dX6_begin_43 : decode cX6_begin 43 = .ok (.iconst (-1), 1) := by decide +kernel
theorem dX6_begin_44 : decode cX6_begin 44 = .ok (.invokevirtual 60, 3) := by decide +kernel
theorem dX6_begin_47 : decode cX6_begin 47 = .ok (.isub, 1) := by decide +kernel
theorem dX6_begin_48 : decode cX6_begin 48 = .ok (.ireturn, 1) := by decide +kernel
set_option maxRecDepth 20000 in
theorem ggX6_begin_X6_is : GoodIn wsX6_begin wsX6_is := goodIn_r _ [8, 9, 10, 11, 7, 12, 3, 13, 29, 30, 31, 32, 33, 34, 35, 36] (by decide +kernel) (by decide +kernel)
set_option maxRecDepth 20000 in
theorem gX6_begin_X6_is : GoodIn wsX6_begin (wsV RX6 38 RX6 yX6_is wsX6_is) := goodIn_app (goodIn_of _ (by decide +kernel)) ggX6_begin_X6_is
set_option maxRecDepth 20000 in
theorem ggX6_begin_X6_can : GoodIn wsX6_begin wsX6_can := goodIn_r _ [17, 18, 29, 30, 31, 32, 33, 34, 35, 36] (by decide +kernel) (by decide +kernel)
set_option maxRecDepth 20000 in
theorem gX6_begin_X6_can : GoodIn wsX6_begin (wsV RX6 42 RX6 yX6_can wsX6_can) := goodIn_app (goodIn_of _ (by decide +kernel)) ggX6_begin_X6_can
set_option maxRecDepth 20000 in
theorem ggX6_begin_X6_at : GoodIn wsX6_begin wsX6_at := goodIn_r _ [12, 3, 13, 29, 30, 31, 32, 33, 34, 35, 36] (by decide +kernel) (by decide +kernel)
set_option maxRecDepth 20000 in
theorem gX6_begin_X6_at : GoodIn wsX6_begin (wsV RX6 34 RX6 yX6_at wsX6_at) := goodIn_app (goodIn_of _ (by decide +kernel)) ggX6_begin_X6_at
set_option maxRecDepth 20000 in
theorem ggX6_begin_X6_lengths : GoodIn wsX6_begin wsX6_lengths := goodIn_r _ [22, 23, 3, 24, 29, 30, 31, 32, 33, 34, 35, 36] (by decide +kernel) (by decide +kernel)
set_option maxRecDepth 20000 in
theorem gX6_begin_X6_lengths : GoodIn wsX6_begin (wsV RX6 52 RX6 yX6_lengths wsX6_lengths) := goodIn_app (goodIn_of _ (by decide +kernel)) ggX6_begin_X6_lengths
set_option maxRecDepth 20000 in
theorem ggX6_begin_X6_having : GoodIn wsX6_begin wsX6_having := goodIn_r _ [28, 3, 29, 30, 31, 32, 33, 34, 35, 36] (by decide +kernel) (by decide +kernel)
set_option maxRecDepth 20000 in
theorem gX6_begin_X6_having : GoodIn wsX6_begin (wsV RX6 60 RX6 yX6_having wsX6_having) := goodIn_app (goodIn_of _ (by decide +kernel)) ggX6_begin_X6_having
theorem mX6_begin_0 : Cond.fieldLink RX6 18 "LayerwaysModel" "start" "I" ∈ wsX6_begin := by decide +kernel
theorem iX6_begin_X6 : ∀ w ∈ u_ws RX6 TX6 8, w ∈ wsX6_begin := by decide +kernel
theorem mX6_begin_2 : Cond.fieldLink RX6 46 "LayerwaysModel" "changes" "I" ∈ wsX6_begin := by decide +kernel
theorem mX6_begin_3 : Cond.fieldLink RX6 31 "LayerwaysModel" "many" "I" ∈ wsX6_begin := by decide +kernel
def fX6_begin (mN : Int32) (mS : Int32) (mX : Int32) (mK : (Nat → Int32)) (mJ : (Nat → Nat → Int32)) (p0 : Int32) : Option (Int32 × Int32 × Int32 × Int32) := (fX6_is mN mK p0).bind fun v1 => (fX6_can v1 1 1).bind fun v2 => if v2.1 = 0 then some (0, mS, mX, v2.2) else (fX6_at mN mK p0).bind fun v3 => (fX6_lengths mN mJ v3).bind fun v4 => (fX6_having mN v4 (-1)).bind fun v6 => some ((mN - v6), v3, 0, v2.2)
set_option maxRecDepth 100000 in
set_option maxHeartbeats 4000000 in
theorem kX6_begin (l : Launch) (K : zK) (aM : Nat) (aMk : Nat) (aMj : Nat) (aMc : Nat) (aMw : Nat) (aMr : (Nat → Nat))  (mN : Int32) (mS : Int32) (mX : Int32) (mT : Int32) (mK : (Nat → Int32)) (mC : (Nat → Int32)) (mW : (Nat → Int32)) (mJ : (Nat → Nat → Int32)) (p0 : Int32) (r : Int32 × Int32 × Int32 × Int32) (hres : fX6_begin mN mS mX mK mJ p0 = some r) : zM l K yX6_begin wsX6_begin ({ frames := 2, cells := 1, slots := 12, locals := 43 }) [.ref aM, .int p0] ([(aM, .inr (6, [.ref aMk, .ref aMj, .int mN, .int mS, .ref aMc, .ref aMw, .int mX, .int mT])), (aMk, .inl (K.2 0, 12, .inl mK)), (aMj, .inl (K.2 3, 12, .inr (.inr (.inr (.inr (zo aMr 12)))))), (aMc, .inl (K.2 0, 12, .inl mC)), (aMw, .inl (K.2 0, 12, .inl mW))] ++ zR12Z K aMr mJ) (fun _ : Unit => some (.int r.1)) (fun _ : Unit => ([(aM, .inr (6, [.ref aMk, .ref aMj, .int mN, .int r.2.1, .ref aMc, .ref aMw, .int r.2.2.1, .int r.2.2.2])), (aMk, .inl (K.2 0, 12, .inl mK)), (aMj, .inl (K.2 3, 12, .inr (.inr (.inr (.inr (zo aMr 12)))))), (aMc, .inl (K.2 0, 12, .inl mC)), (aMw, .inl (K.2 0, 12, .inl mW))] ++ zR12Z K aMr mJ)) 1 12 := by
  refine zM.intI (cc := cX6_begin) (maxL := 2) (ret := (some .int)) rfl (by decide) (Nat.le_of_ble_eq_true rfl) rfl ?_
  intro G hGl hG hN hE
  have hR : ∀ (pc : Nat) (lv : zL), decode cX6_begin pc = .ok (.ireturn, 1) → zj G pc lv [.int r.1] ([(aM, .inr (6, [.ref aMk, .ref aMj, .int mN, .int r.2.1, .ref aMc, .ref aMw, .int r.2.2.1, .int r.2.2.2])), (aMk, .inl (K.2 0, 12, .inl mK)), (aMj, .inl (K.2 3, 12, .inr (.inr (.inr (.inr (zo aMr 12)))))), (aMc, .inl (K.2 0, 12, .inl mC)), (aMw, .inl (K.2 0, 12, .inl mW))] ++ zR12Z K aMr mJ) 1 12 := fun pc lv d => hE () _ rfl pc lv d
  clear hE
  unfold fX6_begin at hres
  show zj G 0 [(0, .ref aM), (1, .int p0)] [] ([(aM, .inr (6, [.ref aMk, .ref aMj, .int mN, .int mS, .ref aMc, .ref aMw, .int mX, .int mT])), (aMk, .inl (K.2 0, 12, .inl mK)), (aMj, .inl (K.2 3, 12, .inr (.inr (.inr (.inr (zo aMr 12)))))), (aMc, .inl (K.2 0, 12, .inl mC)), (aMw, .inl (K.2 0, 12, .inl mW))] ++ zR12Z K aMr mJ) 0 0
  refine z_aload_n hG dX6_begin_0 0 rfl ?_
  refine z_aload_n hG dX6_begin_1 0 rfl ?_
  refine z_iload_n hG dX6_begin_2 1 rfl ?_
  obtain ⟨v1, hv, hres⟩ := z_bind hres
  refine z_callV (As := [.int p0]) (rest := [.ref aM]) (wr := ([] : va_W)) (ws' := (fun _ : Unit => ([(aM, .inr (6, [.ref aMk, .ref aMj, .int mN, .int mS, .ref aMc, .ref aMw, .int mX, .int mT])), (aMk, .inl (K.2 0, 12, .inl mK)), (aMj, .inl (K.2 3, 12, .inr (.inr (.inr (.inr (zo aMr 12)))))), (aMc, .inl (K.2 0, 12, .inl mC)), (aMw, .inl (K.2 0, 12, .inl mW))] ++ zR12Z K aMr mJ))) (stk := (fun _ : Unit => [.int v1, .ref aM])) (kc' := 0) (ks' := 0) (n := 1) (C := RX6) (ci := 6) hG dX6_begin_3 (kX6_is _ K aM aMk aMj aMc aMw aMr mN mS mX mT mK mC mW mJ p0 v1 hv) gX6_begin_X6_is rfl rfl rfl ⟨rfl, by decide, by decide, rfl⟩ ⟨by decide, by decide⟩ (Nat.le_of_ble_eq_true rfl) ⟨(Nat.le_of_ble_eq_true rfl), (Nat.le_of_ble_eq_true rfl)⟩ [0, 1, 2, 3, 4, 5, 6, 7, 8, 9, 10, 11, 12, 13, 14, 15, 16] [] [0, 1, 2, 3, 4, 5, 6, 7, 8, 9, 10, 11, 12, 13, 14, 15, 16] rfl rfl rfl rfl (by decide) rfl (fun _ => rfl) (fun _ => rfl) rfl rfl rfl 0 rfl rfl rfl rfl (fun _ => ?_)
  refine z_iconst 1 hG dX6_begin_6 (by decide) ?_
  refine z_iconst 1 hG dX6_begin_7 (by decide) ?_
  obtain ⟨v2, hv, hres⟩ := z_bind hres
  refine z_callV (As := [.int v1, .int 1, .int 1]) (rest := []) (wr := ([(aMk, .inl (K.2 0, 12, .inl mK)), (aMj, .inl (K.2 3, 12, .inr (.inr (.inr (.inr (zo aMr 12)))))), (aMc, .inl (K.2 0, 12, .inl mC)), (aMw, .inl (K.2 0, 12, .inl mW))] ++ zR12Z K aMr mJ)) (ws' := (fun _ : Unit => ([(aM, .inr (6, [.ref aMk, .ref aMj, .int mN, .int mS, .ref aMc, .ref aMw, .int mX, .int v2.2])), (aMk, .inl (K.2 0, 12, .inl mK)), (aMj, .inl (K.2 3, 12, .inr (.inr (.inr (.inr (zo aMr 12)))))), (aMc, .inl (K.2 0, 12, .inl mC)), (aMw, .inl (K.2 0, 12, .inl mW))] ++ zR12Z K aMr mJ))) (stk := (fun _ : Unit => [.int v2.1])) (kc' := 0) (ks' := 0) (n := 3) (C := RX6) (ci := 6) hG dX6_begin_8 (kX6_can _ K aM aMk aMj aMc aMw mN mS mX mT v1 1 1 v2 hv) gX6_begin_X6_can rfl rfl rfl ⟨rfl, by decide, by decide, rfl⟩ ⟨by decide, by decide⟩ (Nat.le_of_ble_eq_true rfl) ⟨(Nat.le_of_ble_eq_true rfl), (Nat.le_of_ble_eq_true rfl)⟩ [0] [1, 2, 3, 4, 5, 6, 7, 8, 9, 10, 11, 12, 13, 14, 15, 16] [16, 0, 1, 2, 3, 4, 5, 6, 7, 8, 9, 10, 11, 12, 13, 14, 15] rfl rfl rfl rfl (by decide) rfl (fun _ => rfl) (fun _ => rfl) rfl rfl rfl 0 rfl rfl rfl rfl (fun _ => ?_)
  refine z_if_ne 16 hG dX6_begin_11 (by decide) (fun c => ?_) (fun c => ?_)
  · replace hres := z_ifn c hres
    refine z_aload_n hG dX6_begin_16 0 rfl ?_
    refine z_aload_n hG dX6_begin_17 0 rfl ?_
    refine z_iload_n hG dX6_begin_18 1 rfl ?_
    obtain ⟨v3, hv, hres⟩ := z_bind hres
    refine z_callV (As := [.int p0]) (rest := [.ref aM]) (wr := ([] : va_W)) (ws' := (fun _ : Unit => ([(aM, .inr (6, [.ref aMk, .ref aMj, .int mN, .int mS, .ref aMc, .ref aMw, .int mX, .int v2.2])), (aMk, .inl (K.2 0, 12, .inl mK)), (aMj, .inl (K.2 3, 12, .inr (.inr (.inr (.inr (zo aMr 12)))))), (aMc, .inl (K.2 0, 12, .inl mC)), (aMw, .inl (K.2 0, 12, .inl mW))] ++ zR12Z K aMr mJ))) (stk := (fun _ : Unit => [.int v3, .ref aM])) (kc' := 0) (ks' := 0) (n := 1) (C := RX6) (ci := 6) hG dX6_begin_19 (kX6_at _ K aM aMk aMj aMc aMw aMr mN mS mX v2.2 mK mC mW mJ p0 v3 hv) gX6_begin_X6_at rfl rfl rfl ⟨rfl, by decide, by decide, rfl⟩ ⟨by decide, by decide⟩ (Nat.le_of_ble_eq_true rfl) ⟨(Nat.le_of_ble_eq_true rfl), (Nat.le_of_ble_eq_true rfl)⟩ [0, 1, 2, 3, 4, 5, 6, 7, 8, 9, 10, 11, 12, 13, 14, 15, 16] [] [0, 1, 2, 3, 4, 5, 6, 7, 8, 9, 10, 11, 12, 13, 14, 15, 16] rfl rfl rfl rfl (by decide) rfl (fun _ => rfl) (fun _ => rfl) rfl rfl rfl 0 rfl rfl rfl rfl (fun _ => ?_)
    refine z_put (ci := 6) (C := RX6) (T := TX6) (N := 8) (ws' := ([(aM, .inr (6, [.ref aMk, .ref aMj, .int mN, .int v3, .ref aMc, .ref aMw, .int mX, .int v2.2])), (aMk, .inl (K.2 0, 12, .inl mK)), (aMj, .inl (K.2 3, 12, .inr (.inr (.inr (.inr (zo aMr 12)))))), (aMc, .inl (K.2 0, 12, .inl mC)), (aMw, .inl (K.2 0, 12, .inl mW))] ++ zR12Z K aMr mJ)) hG dX6_begin_22 iX6_begin_X6 tyX6_ok nmX6 3 (by decide) mX6_begin_0 rfl rfl rfl rfl rfl rfl 0 rfl (Nat.le_of_ble_eq_true rfl) rfl ?_
    refine z_aload_n hG dX6_begin_25 0 rfl ?_
    refine z_iconst 0 hG dX6_begin_26 (by decide) ?_
    refine z_put (ci := 6) (C := RX6) (T := TX6) (N := 8) (ws' := ([(aM, .inr (6, [.ref aMk, .ref aMj, .int mN, .int v3, .ref aMc, .ref aMw, .int 0, .int v2.2])), (aMk, .inl (K.2 0, 12, .inl mK)), (aMj, .inl (K.2 3, 12, .inr (.inr (.inr (.inr (zo aMr 12)))))), (aMc, .inl (K.2 0, 12, .inl mC)), (aMw, .inl (K.2 0, 12, .inl mW))] ++ zR12Z K aMr mJ)) hG dX6_begin_27 iX6_begin_X6 tyX6_ok nmX6 6 (by decide) mX6_begin_2 rfl rfl rfl rfl rfl rfl 0 rfl (Nat.le_of_ble_eq_true rfl) rfl ?_
    refine z_aload_n hG dX6_begin_30 0 rfl ?_
    refine z_get (ci := 6) (C := RX6) (T := TX6) (N := 8) hG dX6_begin_31 iX6_begin_X6 2 (by decide) mX6_begin_3 rfl rfl 0 rfl rfl ?_
    refine z_aload_n hG dX6_begin_34 0 rfl ?_
    refine z_aload_n hG dX6_begin_35 0 rfl ?_
    refine z_aload_n hG dX6_begin_36 0 rfl ?_
    refine z_get (ci := 6) (C := RX6) (T := TX6) (N := 8) hG dX6_begin_37 iX6_begin_X6 3 (by decide) mX6_begin_0 rfl rfl 0 rfl rfl ?_
    obtain ⟨v4, hv, hres⟩ := z_bind hres
    refine z_callV (As := [.int v3]) (rest := [.ref aM, .int mN]) (wr := ([] : va_W)) (ws' := (fun q5 : Nat => ([(aM, .inr (6, [.ref aMk, .ref aMj, .int mN, .int v3, .ref aMc, .ref aMw, .int 0, .int v2.2])), (aMk, .inl (K.2 0, 12, .inl mK)), (aMj, .inl (K.2 3, 12, .inr (.inr (.inr (.inr (zo aMr 12)))))), (aMc, .inl (K.2 0, 12, .inl mC)), (aMw, .inl (K.2 0, 12, .inl mW))] ++ zR12Z K aMr mJ ++ [(q5, .inl (K.2 0, 12, .inl v4))]))) (stk := (fun q5 : Nat => [.ref q5, .ref aM, .int mN])) (kc' := 1) (ks' := 12) (n := 1) (C := RX6) (ci := 6) hG dX6_begin_40 (kX6_lengths _ K aM aMk aMj aMc aMw aMr mN v3 0 v2.2 mK mC mW mJ v3 v4 hv) gX6_begin_X6_lengths rfl rfl rfl ⟨rfl, by decide, by decide, rfl⟩ ⟨by decide, by decide⟩ (Nat.le_of_ble_eq_true rfl) ⟨(Nat.le_of_ble_eq_true rfl), (Nat.le_of_ble_eq_true rfl)⟩ [0, 1, 2, 3, 4, 5, 6, 7, 8, 9, 10, 11, 12, 13, 14, 15, 16] [] [0, 1, 2, 3, 4, 5, 6, 7, 8, 9, 10, 11, 12, 13, 14, 15, 16, 17] rfl rfl rfl rfl (by decide) rfl (fun _ => rfl) (fun _ => rfl) rfl rfl rfl 0 rfl rfl rfl rfl (fun q5 => ?_)
    refine z_iconst (-1) hG dX6_begin_43 (by decide) ?_
    obtain ⟨v6, hv, hres⟩ := z_bind hres
    refine z_callV (As := [.ref q5, .int (-1)]) (rest := [.int mN]) (wr := ([(aMk, .inl (K.2 0, 12, .inl mK)), (aMj, .inl (K.2 3, 12, .inr (.inr (.inr (.inr (zo aMr 12)))))), (aMc, .inl (K.2 0, 12, .inl mC)), (aMw, .inl (K.2 0, 12, .inl mW))] ++ zR12Z K aMr mJ)) (ws' := (fun _ : Unit => ([(aM, .inr (6, [.ref aMk, .ref aMj, .int mN, .int v3, .ref aMc, .ref aMw, .int 0, .int v2.2])), (aMk, .inl (K.2 0, 12, .inl mK)), (aMj, .inl (K.2 3, 12, .inr (.inr (.inr (.inr (zo aMr 12)))))), (aMc, .inl (K.2 0, 12, .inl mC)), (aMw, .inl (K.2 0, 12, .inl mW))] ++ zR12Z K aMr mJ ++ [(q5, .inl (K.2 0, 12, .inl v4))]))) (stk := (fun _ : Unit => [.int v6, .int mN])) (kc' := 1) (ks' := 12) (n := 2) (C := RX6) (ci := 6) hG dX6_begin_44 (kX6_having _ K aM q5 aMk aMj aMc aMw mN v3 0 v2.2 v4 (-1) v6 hv) gX6_begin_X6_having rfl rfl rfl ⟨rfl, by decide, by decide, rfl⟩ ⟨by decide, by decide⟩ (Nat.le_of_ble_eq_true rfl) ⟨(Nat.le_of_ble_eq_true rfl), (Nat.le_of_ble_eq_true rfl)⟩ [0, 17] [1, 2, 3, 4, 5, 6, 7, 8, 9, 10, 11, 12, 13, 14, 15, 16] [16, 0, 1, 2, 3, 4, 5, 6, 7, 8, 9, 10, 11, 12, 13, 14, 15, 17] rfl rfl rfl rfl (by decide) rfl (fun _ => rfl) (fun _ => rfl) rfl rfl rfl 0 rfl rfl rfl rfl (fun _ => ?_)
    refine z_isub hG dX6_begin_47 ?_
    obtain rfl := Option.some.inj hres
    exact (z_ws [0, 1, 2, 3, 4, 5, 6, 7, 8, 9, 10, 11, 12, 13, 14, 15, 16] rfl rfl (hR _ _ dX6_begin_48))
  · replace hres := z_ifp c hres
    refine z_iconst 0 hG dX6_begin_14 (by decide) ?_
    obtain rfl := Option.some.inj hres
    exact (z_wid (Nat.le_of_ble_eq_true rfl) (Nat.le_of_ble_eq_true rfl) (hR _ _ dX6_begin_15))

theorem dX6_length_0 : decode cX6_length 0 = .ok (.aload_n 0, 1) := by decide +kernel
theorem dX6_length_1 : decode cX6_length 1 = .ok (.aload_n 0, 1) := by decide +kernel
theorem dX6_length_2 : decode cX6_length 2 = .ok (.iload_n 1, 1) := by decide +kernel
theorem dX6_length_3 : decode cX6_length 3 = .ok (.invokevirtual 38, 3) := by decide +kernel
theorem dX6_length_6 : decode cX6_length 6 = .ok (.aload_n 0, 1) := by decide +kernel
theorem dX6_length_7 : decode cX6_length 7 = .ok (.getfield 18, 3) := by decide +kernel
theorem dX6_length_10 : decode cX6_length 10 = .ok (.ifCond .lt 7, 3) := by decide +kernel
theorem dX6_length_13 : decode cX6_length 13 = .ok (.iconst 1, 1) := by decide +kernel
theorem dX6_length_14 : decode cX6_length 14 = .ok (.goto 4, 3) := by decide +kernel
theorem dX6_length_17 : decode cX6_length 17 = .ok (.iconst 0, 1) := by decide +kernel
theorem dX6_length_18 : decode cX6_length 18 = .ok (.iconst 1, 1) := by decide +kernel
theorem dX6_length_19 : decode cX6_length 19 = .ok (.invokevirtual 42, 3) := by decide +kernel
theorem dX6_length_22 : decode cX6_length 22 = .ok (.ifCond .eq 20, 3) := by decide +kernel
theorem dX6_length_25 : decode cX6_length 25 = .ok (.aload_n 0, 1) := by decide +kernel
theorem dX6_length_26 : decode cX6_length 26 = .ok (.aload_n 0, 1) := by decide +kernel
theorem dX6_length_27 : decode cX6_length 27 = .ok (.getfield 18, 3) := by decide +kernel
theorem dX6_length_30 : decode cX6_length 30 = .ok (.invokevirtual 52, 3) := by decide +kernel
theorem dX6_length_33 : decode cX6_length 33 = .ok (.aload_n 0, 1) := by decide +kernel
theorem dX6_length_34 : decode cX6_length 34 = .ok (.iload_n 1, 1) := by decide +kernel
theorem dX6_length_35 : decode cX6_length 35 = .ok (.invokevirtual 34, 3) := by decide +kernel
theorem dX6_length_38 : decode cX6_length 38 = .ok (.iaload, 1) := by decide +kernel
theorem dX6_length_39 : decode cX6_length 39 = .ok (.goto 4, 3) := by decide +kernel
theorem dX6_length_42 : decode cX6_length 42 = .ok (.iconst 0, 1) := by decide +kernel
theorem dX6_length_43 : decode cX6_length 43 = .ok (.ireturn, 1) := by decide +kernel
set_option maxRecDepth 20000 in
theorem ggX6_length_X6_is : GoodIn wsX6_length wsX6_is := goodIn_r _ [6, 7, 8, 9, 5, 10, 11, 12, 24, 25, 26, 27, 28, 29, 30, 31] (by decide +kernel) (by decide +kernel)
set_option maxRecDepth 20000 in
theorem gX6_length_X6_is : GoodIn wsX6_length (wsV RX6 38 RX6 yX6_is wsX6_is) := goodIn_app (goodIn_of _ (by decide +kernel)) ggX6_length_X6_is
set_option maxRecDepth 20000 in
theorem ggX6_length_X6_can : GoodIn wsX6_length wsX6_can := goodIn_r _ [16, 17, 24, 25, 26, 27, 28, 29, 30, 31] (by decide +kernel) (by decide +kernel)
set_option maxRecDepth 20000 in
theorem gX6_length_X6_can : GoodIn wsX6_length (wsV RX6 42 RX6 yX6_can wsX6_can) := goodIn_app (goodIn_of _ (by decide +kernel)) ggX6_length_X6_can
set_option maxRecDepth 20000 in
theorem ggX6_length_X6_lengths : GoodIn wsX6_length wsX6_lengths := goodIn_r _ [21, 22, 11, 23, 24, 25, 26, 27, 28, 29, 30, 31] (by decide +kernel) (by decide +kernel)
set_option maxRecDepth 20000 in
theorem gX6_length_X6_lengths : GoodIn wsX6_length (wsV RX6 52 RX6 yX6_lengths wsX6_lengths) := goodIn_app (goodIn_of _ (by decide +kernel)) ggX6_length_X6_lengths
set_option maxRecDepth 20000 in
theorem ggX6_length_X6_at : GoodIn wsX6_length wsX6_at := goodIn_r _ [10, 11, 12, 24, 25, 26, 27, 28, 29, 30, 31] (by decide +kernel) (by decide +kernel)
set_option maxRecDepth 20000 in
theorem gX6_length_X6_at : GoodIn wsX6_length (wsV RX6 34 RX6 yX6_at wsX6_at) := goodIn_app (goodIn_of _ (by decide +kernel)) ggX6_length_X6_at
theorem mX6_length_0 : Cond.fieldLink RX6 18 "LayerwaysModel" "start" "I" ∈ wsX6_length := by decide +kernel
theorem iX6_length_X6 : ∀ w ∈ u_ws RX6 TX6 8, w ∈ wsX6_length := by decide +kernel
def fX6_length (mN : Int32) (mS : Int32) (mK : (Nat → Int32)) (mJ : (Nat → Nat → Int32)) (p0 : Int32) : Option (Int32 × Int32) := (fX6_is mN mK p0).bind fun v1 => ((if mS < 0 then some 0 else some 1) : Option Int32).bind fun v2 => (fX6_can v1 v2 1).bind fun v3 => if v3.1 = 0 then some (0, v3.2) else (fX6_lengths mN mJ mS).bind fun v4 => (fX6_at mN mK p0).bind fun v6 => if zin v6 12 then some ((v4 v6.toNatClampNeg), v3.2) else none
set_option maxRecDepth 100000 in
set_option maxHeartbeats 4000000 in
theorem kX6_length (l : Launch) (K : zK) (aM : Nat) (aMk : Nat) (aMj : Nat) (aMc : Nat) (aMw : Nat) (aMr : (Nat → Nat))  (mN : Int32) (mS : Int32) (mX : Int32) (mT : Int32) (mK : (Nat → Int32)) (mC : (Nat → Int32)) (mW : (Nat → Int32)) (mJ : (Nat → Nat → Int32)) (p0 : Int32) (r : Int32 × Int32) (hres : fX6_length mN mS mK mJ p0 = some r) : zM l K yX6_length wsX6_length ({ frames := 2, cells := 1, slots := 12, locals := 43 }) [.ref aM, .int p0] ([(aM, .inr (6, [.ref aMk, .ref aMj, .int mN, .int mS, .ref aMc, .ref aMw, .int mX, .int mT])), (aMk, .inl (K.2 0, 12, .inl mK)), (aMj, .inl (K.2 3, 12, .inr (.inr (.inr (.inr (zo aMr 12)))))), (aMc, .inl (K.2 0, 12, .inl mC)), (aMw, .inl (K.2 0, 12, .inl mW))] ++ zR12Z K aMr mJ) (fun _ : Unit => some (.int r.1)) (fun _ : Unit => ([(aM, .inr (6, [.ref aMk, .ref aMj, .int mN, .int mS, .ref aMc, .ref aMw, .int mX, .int r.2])), (aMk, .inl (K.2 0, 12, .inl mK)), (aMj, .inl (K.2 3, 12, .inr (.inr (.inr (.inr (zo aMr 12)))))), (aMc, .inl (K.2 0, 12, .inl mC)), (aMw, .inl (K.2 0, 12, .inl mW))] ++ zR12Z K aMr mJ)) 1 12 := by
  refine zM.intI (cc := cX6_length) (maxL := 2) (ret := (some .int)) rfl (by decide) (Nat.le_of_ble_eq_true rfl) rfl ?_
  intro G hGl hG hN hE
  have hR : ∀ (pc : Nat) (lv : zL), decode cX6_length pc = .ok (.ireturn, 1) → zj G pc lv [.int r.1] ([(aM, .inr (6, [.ref aMk, .ref aMj, .int mN, .int mS, .ref aMc, .ref aMw, .int mX, .int r.2])), (aMk, .inl (K.2 0, 12, .inl mK)), (aMj, .inl (K.2 3, 12, .inr (.inr (.inr (.inr (zo aMr 12)))))), (aMc, .inl (K.2 0, 12, .inl mC)), (aMw, .inl (K.2 0, 12, .inl mW))] ++ zR12Z K aMr mJ) 1 12 := fun pc lv d => hE () _ rfl pc lv d
  clear hE
  unfold fX6_length at hres
  show zj G 0 [(0, .ref aM), (1, .int p0)] [] ([(aM, .inr (6, [.ref aMk, .ref aMj, .int mN, .int mS, .ref aMc, .ref aMw, .int mX, .int mT])), (aMk, .inl (K.2 0, 12, .inl mK)), (aMj, .inl (K.2 3, 12, .inr (.inr (.inr (.inr (zo aMr 12)))))), (aMc, .inl (K.2 0, 12, .inl mC)), (aMw, .inl (K.2 0, 12, .inl mW))] ++ zR12Z K aMr mJ) 0 0
  refine z_aload_n hG dX6_length_0 0 rfl ?_
  refine z_aload_n hG dX6_length_1 0 rfl ?_
  refine z_iload_n hG dX6_length_2 1 rfl ?_
  obtain ⟨v1, hv, hres⟩ := z_bind hres
  refine z_callV (As := [.int p0]) (rest := [.ref aM]) (wr := ([] : va_W)) (ws' := (fun _ : Unit => ([(aM, .inr (6, [.ref aMk, .ref aMj, .int mN, .int mS, .ref aMc, .ref aMw, .int mX, .int mT])), (aMk, .inl (K.2 0, 12, .inl mK)), (aMj, .inl (K.2 3, 12, .inr (.inr (.inr (.inr (zo aMr 12)))))), (aMc, .inl (K.2 0, 12, .inl mC)), (aMw, .inl (K.2 0, 12, .inl mW))] ++ zR12Z K aMr mJ))) (stk := (fun _ : Unit => [.int v1, .ref aM])) (kc' := 0) (ks' := 0) (n := 1) (C := RX6) (ci := 6) hG dX6_length_3 (kX6_is _ K aM aMk aMj aMc aMw aMr mN mS mX mT mK mC mW mJ p0 v1 hv) gX6_length_X6_is rfl rfl rfl ⟨rfl, by decide, by decide, rfl⟩ ⟨by decide, by decide⟩ (Nat.le_of_ble_eq_true rfl) ⟨(Nat.le_of_ble_eq_true rfl), (Nat.le_of_ble_eq_true rfl)⟩ [0, 1, 2, 3, 4, 5, 6, 7, 8, 9, 10, 11, 12, 13, 14, 15, 16] [] [0, 1, 2, 3, 4, 5, 6, 7, 8, 9, 10, 11, 12, 13, 14, 15, 16] rfl rfl rfl rfl (by decide) rfl (fun _ => rfl) (fun _ => rfl) rfl rfl rfl 0 rfl rfl rfl rfl (fun _ => ?_)
  refine z_aload_n hG dX6_length_6 0 rfl ?_
  refine z_get (ci := 6) (C := RX6) (T := TX6) (N := 8) hG dX6_length_7 iX6_length_X6 3 (by decide) mX6_length_0 rfl rfl 0 rfl rfl ?_
  obtain ⟨v2, hv, hres⟩ := z_bind hres
  have J : zj G 18 [(0, .ref aM), (1, .int p0)] [.int v2, .int v1, .ref aM] ([(aM, .inr (6, [.ref aMk, .ref aMj, .int mN, .int mS, .ref aMc, .ref aMw, .int mX, .int mT])), (aMk, .inl (K.2 0, 12, .inl mK)), (aMj, .inl (K.2 3, 12, .inr (.inr (.inr (.inr (zo aMr 12)))))), (aMc, .inl (K.2 0, 12, .inl mC)), (aMw, .inl (K.2 0, 12, .inl mW))] ++ zR12Z K aMr mJ) 0 0 := by
    refine z_iconst 1 hG dX6_length_18 (by decide) ?_
    obtain ⟨v3, hv, hres⟩ := z_bind hres
    refine z_callV (As := [.int v1, .int v2, .int 1]) (rest := []) (wr := ([(aMk, .inl (K.2 0, 12, .inl mK)), (aMj, .inl (K.2 3, 12, .inr (.inr (.inr (.inr (zo aMr 12)))))), (aMc, .inl (K.2 0, 12, .inl mC)), (aMw, .inl (K.2 0, 12, .inl mW))] ++ zR12Z K aMr mJ)) (ws' := (fun _ : Unit => ([(aM, .inr (6, [.ref aMk, .ref aMj, .int mN, .int mS, .ref aMc, .ref aMw, .int mX, .int v3.2])), (aMk, .inl (K.2 0, 12, .inl mK)), (aMj, .inl (K.2 3, 12, .inr (.inr (.inr (.inr (zo aMr 12)))))), (aMc, .inl (K.2 0, 12, .inl mC)), (aMw, .inl (K.2 0, 12, .inl mW))] ++ zR12Z K aMr mJ))) (stk := (fun _ : Unit => [.int v3.1])) (kc' := 0) (ks' := 0) (n := 3) (C := RX6) (ci := 6) hG dX6_length_19 (kX6_can _ K aM aMk aMj aMc aMw mN mS mX mT v1 v2 1 v3 hv) gX6_length_X6_can rfl rfl rfl ⟨rfl, by decide, by decide, rfl⟩ ⟨by decide, by decide⟩ (Nat.le_of_ble_eq_true rfl) ⟨(Nat.le_of_ble_eq_true rfl), (Nat.le_of_ble_eq_true rfl)⟩ [0] [1, 2, 3, 4, 5, 6, 7, 8, 9, 10, 11, 12, 13, 14, 15, 16] [16, 0, 1, 2, 3, 4, 5, 6, 7, 8, 9, 10, 11, 12, 13, 14, 15] rfl rfl rfl rfl (by decide) rfl (fun _ => rfl) (fun _ => rfl) rfl rfl rfl 0 rfl rfl rfl rfl (fun _ => ?_)
    refine z_if_eq 42 hG dX6_length_22 (by decide) (fun c => ?_) (fun c => ?_)
    · replace hres := z_ifp c hres
      refine z_iconst 0 hG dX6_length_42 (by decide) ?_
      obtain rfl := Option.some.inj hres
      exact (z_wid (Nat.le_of_ble_eq_true rfl) (Nat.le_of_ble_eq_true rfl) (hR _ _ dX6_length_43))
    · replace hres := z_ifn c hres
      refine z_aload_n hG dX6_length_25 0 rfl ?_
      refine z_aload_n hG dX6_length_26 0 rfl ?_
      refine z_get (ci := 6) (C := RX6) (T := TX6) (N := 8) hG dX6_length_27 iX6_length_X6 3 (by decide) mX6_length_0 rfl rfl 0 rfl rfl ?_
      obtain ⟨v4, hv, hres⟩ := z_bind hres
      refine z_callV (As := [.int mS]) (rest := []) (wr := ([] : va_W)) (ws' := (fun q5 : Nat => ([(aM, .inr (6, [.ref aMk, .ref aMj, .int mN, .int mS, .ref aMc, .ref aMw, .int mX, .int v3.2])), (aMk, .inl (K.2 0, 12, .inl mK)), (aMj, .inl (K.2 3, 12, .inr (.inr (.inr (.inr (zo aMr 12)))))), (aMc, .inl (K.2 0, 12, .inl mC)), (aMw, .inl (K.2 0, 12, .inl mW))] ++ zR12Z K aMr mJ ++ [(q5, .inl (K.2 0, 12, .inl v4))]))) (stk := (fun q5 : Nat => [.ref q5])) (kc' := 1) (ks' := 12) (n := 1) (C := RX6) (ci := 6) hG dX6_length_30 (kX6_lengths _ K aM aMk aMj aMc aMw aMr mN mS mX v3.2 mK mC mW mJ mS v4 hv) gX6_length_X6_lengths rfl rfl rfl ⟨rfl, by decide, by decide, rfl⟩ ⟨by decide, by decide⟩ (Nat.le_of_ble_eq_true rfl) ⟨(Nat.le_of_ble_eq_true rfl), (Nat.le_of_ble_eq_true rfl)⟩ [0, 1, 2, 3, 4, 5, 6, 7, 8, 9, 10, 11, 12, 13, 14, 15, 16] [] [0, 1, 2, 3, 4, 5, 6, 7, 8, 9, 10, 11, 12, 13, 14, 15, 16, 17] rfl rfl rfl rfl (by decide) rfl (fun _ => rfl) (fun _ => rfl) rfl rfl rfl 0 rfl rfl rfl rfl (fun q5 => ?_)
      refine z_aload_n hG dX6_length_33 0 rfl ?_
      refine z_iload_n hG dX6_length_34 1 rfl ?_
      obtain ⟨v6, hv, hres⟩ := z_bind hres
      refine z_callV (As := [.int p0]) (rest := [.ref q5]) (wr := [(q5, .inl (K.2 0, 12, .inl v4))]) (ws' := (fun _ : Unit => ([(aM, .inr (6, [.ref aMk, .ref aMj, .int mN, .int mS, .ref aMc, .ref aMw, .int mX, .int v3.2])), (aMk, .inl (K.2 0, 12, .inl mK)), (aMj, .inl (K.2 3, 12, .inr (.inr (.inr (.inr (zo aMr 12)))))), (aMc, .inl (K.2 0, 12, .inl mC)), (aMw, .inl (K.2 0, 12, .inl mW))] ++ zR12Z K aMr mJ ++ [(q5, .inl (K.2 0, 12, .inl v4))]))) (stk := (fun _ : Unit => [.int v6, .ref q5])) (kc' := 1) (ks' := 12) (n := 1) (C := RX6) (ci := 6) hG dX6_length_35 (kX6_at _ K aM aMk aMj aMc aMw aMr mN mS mX v3.2 mK mC mW mJ p0 v6 hv) gX6_length_X6_at rfl rfl rfl ⟨rfl, by decide, by decide, rfl⟩ ⟨by decide, by decide⟩ (Nat.le_of_ble_eq_true rfl) ⟨(Nat.le_of_ble_eq_true rfl), (Nat.le_of_ble_eq_true rfl)⟩ [0, 1, 2, 3, 4, 5, 6, 7, 8, 9, 10, 11, 12, 13, 14, 15, 16] [17] [1, 2, 3, 4, 5, 6, 7, 8, 9, 10, 11, 12, 13, 14, 15, 16, 17, 0] rfl rfl rfl rfl (by decide) rfl (fun _ => rfl) (fun _ => rfl) rfl rfl rfl 0 rfl rfl rfl rfl (fun _ => ?_)
      obtain ⟨hg, hres⟩ := z_guard hres
      refine z_iald hG dX6_length_38 17 rfl hg ?_
      refine z_goto 43 hG dX6_length_39 (by decide) ?_
      obtain rfl := Option.some.inj hres
      exact (z_ws [0, 1, 2, 3, 4, 5, 6, 7, 8, 9, 10, 11, 12, 13, 14, 15, 16] rfl rfl (hR _ _ dX6_length_43))
  replace hres := hv
  clear hv
  refine z_if_lt 17 hG dX6_length_10 (by decide) (fun c => ?_) (fun c => ?_)
  · replace hres := z_ifp c hres
    refine z_iconst 0 hG dX6_length_17 (by decide) ?_
    obtain rfl := Option.some.inj hres
    exact J
  · replace hres := z_ifn c hres
    refine z_iconst 1 hG dX6_length_13 (by decide) ?_
    refine z_goto 18 hG dX6_length_14 (by decide) ?_
    obtain rfl := Option.some.inj hres
    exact J

theorem dX6_farthest_0 : decode cX6_farthest 0 = .ok (.aload_n 0, 1) := by decide +kernel
theorem dX6_farthest_1 : decode cX6_farthest 1 = .ok (.aload_n 0, 1) := by decide +kernel
theorem dX6_farthest_2 : decode cX6_farthest 2 = .ok (.getfield 18, 3) := by decide +kernel
theorem dX6_farthest_5 : decode cX6_farthest 5 = .ok (.ifCond .lt 7, 3) := by decide +kernel
theorem dX6_farthest_8 : decode cX6_farthest 8 = .ok (.iconst 1, 1) := by decide +kernel
theorem dX6_farthest_9 : decode cX6_farthest 9 = .ok (.goto 4, 3) := by decide +kernel
theorem dX6_farthest_12 : decode cX6_farthest 12 = .ok (.iconst 0, 1) := by decide +kernel
theorem dX6_farthest_13 : decode cX6_farthest 13 = .ok (.iconst 1, 1) := by decide +kernel
theorem dX6_farthest_14 : decode cX6_farthest 14 = .ok (.iconst 1, 1) := by decide +kernel
theorem dX6_farthest_15 : decode cX6_farthest 15 = .ok (.invokevirtual 42, 3) := by decide +kernel
theorem dX6_farthest_18 : decode cX6_farthest 18 = .ok (.ifCond .eq 18, 3) := by decide +kernel
theorem dX6_farthest_21 : decode cX6_farthest 21 = .ok (.aload_n 0, 1) := by decide +kernel
theorem dX6_farthest_22 : decode cX6_farthest 22 = .ok (.aload_n 0, 1) := by decide +kernel
theorem dX6_farthest_23 : decode cX6_farthest 23 = .ok (.aload_n 0, 1) := by decide +kernel
theorem dX6_farthest_24 : decode cX6_farthest 24 = .ok (.getfield 18, 3) := by decide +kernel
theorem dX6_farthest_27 : decode cX6_farthest 27 = .ok (.invokevirtual 52, 3) := by decide +kernel
theorem dX6_farthest_30 : decode cX6_farthest 30 = .ok (.invokevirtual 64, 3) := by decide +kernel
theorem dX6_farthest_33 : decode cX6_farthest 33 = .ok (.goto 4, 3) := by decide +kernel
theorem dX6_farthest_36 : decode cX6_farthest 36 = .ok (.iconst 0, 1) := by decide +kernel
theorem dX6_farthest_37 : decode cX6_farthest 37 = .ok (.ireturn, 1) := by decide +kernel
set_option maxRecDepth 20000 in
theorem ggX6_farthest_X6_can : GoodIn wsX6_farthest wsX6_can := goodIn_r _ [6, 7, 19, 20, 21, 22, 23, 24, 25, 26] (by decide +kernel) (by decide +kernel)
set_option maxRecDepth 20000 in
theorem gX6_farthest_X6_can : GoodIn wsX6_farthest (wsV RX6 42 RX6 yX6_can wsX6_can) := goodIn_app (goodIn_of _ (by decide +kernel)) ggX6_farthest_X6_can
set_option maxRecDepth 20000 in
theorem ggX6_farthest_X6_lengths : GoodIn wsX6_farthest wsX6_lengths := goodIn_r _ [11, 12, 13, 14, 19, 20, 21, 22, 23, 24, 25, 26] (by decide +kernel) (by decide +kernel)
set_option maxRecDepth 20000 in
theorem gX6_farthest_X6_lengths : GoodIn wsX6_farthest (wsV RX6 52 RX6 yX6_lengths wsX6_lengths) := goodIn_app (goodIn_of _ (by decide +kernel)) ggX6_farthest_X6_lengths
set_option maxRecDepth 20000 in
theorem ggX6_farthest_X6_greatest : GoodIn wsX6_farthest wsX6_greatest := goodIn_r _ [18, 13, 19, 20, 21, 22, 23, 24, 25, 26] (by decide +kernel) (by decide +kernel)
set_option maxRecDepth 20000 in
theorem gX6_farthest_X6_greatest : GoodIn wsX6_farthest (wsV RX6 64 RX6 yX6_greatest wsX6_greatest) := goodIn_app (goodIn_of _ (by decide +kernel)) ggX6_farthest_X6_greatest
theorem mX6_farthest_0 : Cond.fieldLink RX6 18 "LayerwaysModel" "start" "I" ∈ wsX6_farthest := by decide +kernel
theorem iX6_farthest_X6 : ∀ w ∈ u_ws RX6 TX6 8, w ∈ wsX6_farthest := by decide +kernel
def fX6_farthest (mN : Int32) (mS : Int32) (mJ : (Nat → Nat → Int32)) : Option (Int32 × Int32) := ((if mS < 0 then some 0 else some 1) : Option Int32).bind fun v1 => (fX6_can v1 1 1).bind fun v2 => if v2.1 = 0 then some (0, v2.2) else (fX6_lengths mN mJ mS).bind fun v3 => (fX6_greatest mN v3).bind fun v5 => some (v5, v2.2)
set_option maxRecDepth 100000 in
set_option maxHeartbeats 4000000 in
theorem kX6_farthest (l : Launch) (K : zK) (aM : Nat) (aMk : Nat) (aMj : Nat) (aMc : Nat) (aMw : Nat) (aMr : (Nat → Nat))  (mN : Int32) (mS : Int32) (mX : Int32) (mT : Int32) (mK : (Nat → Int32)) (mC : (Nat → Int32)) (mW : (Nat → Int32)) (mJ : (Nat → Nat → Int32)) (r : Int32 × Int32) (hres : fX6_farthest mN mS mJ = some r) : zM l K yX6_farthest wsX6_farthest ({ frames := 1, cells := 1, slots := 12, locals := 25 }) [.ref aM] ([(aM, .inr (6, [.ref aMk, .ref aMj, .int mN, .int mS, .ref aMc, .ref aMw, .int mX, .int mT])), (aMk, .inl (K.2 0, 12, .inl mK)), (aMj, .inl (K.2 3, 12, .inr (.inr (.inr (.inr (zo aMr 12)))))), (aMc, .inl (K.2 0, 12, .inl mC)), (aMw, .inl (K.2 0, 12, .inl mW))] ++ zR12Z K aMr mJ) (fun _ : Unit => some (.int r.1)) (fun _ : Unit => ([(aM, .inr (6, [.ref aMk, .ref aMj, .int mN, .int mS, .ref aMc, .ref aMw, .int mX, .int r.2])), (aMk, .inl (K.2 0, 12, .inl mK)), (aMj, .inl (K.2 3, 12, .inr (.inr (.inr (.inr (zo aMr 12)))))), (aMc, .inl (K.2 0, 12, .inl mC)), (aMw, .inl (K.2 0, 12, .inl mW))] ++ zR12Z K aMr mJ)) 1 12 := by
  refine zM.intI (cc := cX6_farthest) (maxL := 1) (ret := (some .int)) rfl (by decide) (Nat.le_of_ble_eq_true rfl) rfl ?_
  intro G hGl hG hN hE
  have hR : ∀ (pc : Nat) (lv : zL), decode cX6_farthest pc = .ok (.ireturn, 1) → zj G pc lv [.int r.1] ([(aM, .inr (6, [.ref aMk, .ref aMj, .int mN, .int mS, .ref aMc, .ref aMw, .int mX, .int r.2])), (aMk, .inl (K.2 0, 12, .inl mK)), (aMj, .inl (K.2 3, 12, .inr (.inr (.inr (.inr (zo aMr 12)))))), (aMc, .inl (K.2 0, 12, .inl mC)), (aMw, .inl (K.2 0, 12, .inl mW))] ++ zR12Z K aMr mJ) 1 12 := fun pc lv d => hE () _ rfl pc lv d
  clear hE
  unfold fX6_farthest at hres
  show zj G 0 [(0, .ref aM)] [] ([(aM, .inr (6, [.ref aMk, .ref aMj, .int mN, .int mS, .ref aMc, .ref aMw, .int mX, .int mT])), (aMk, .inl (K.2 0, 12, .inl mK)), (aMj, .inl (K.2 3, 12, .inr (.inr (.inr (.inr (zo aMr 12)))))), (aMc, .inl (K.2 0, 12, .inl mC)), (aMw, .inl (K.2 0, 12, .inl mW))] ++ zR12Z K aMr mJ) 0 0
  refine z_aload_n hG dX6_farthest_0 0 rfl ?_
  refine z_aload_n hG dX6_farthest_1 0 rfl ?_
  refine z_get (ci := 6) (C := RX6) (T := TX6) (N := 8) hG dX6_farthest_2 iX6_farthest_X6 3 (by decide) mX6_farthest_0 rfl rfl 0 rfl rfl ?_
  obtain ⟨v1, hv, hres⟩ := z_bind hres
  have J : zj G 13 [(0, .ref aM)] [.int v1, .ref aM] ([(aM, .inr (6, [.ref aMk, .ref aMj, .int mN, .int mS, .ref aMc, .ref aMw, .int mX, .int mT])), (aMk, .inl (K.2 0, 12, .inl mK)), (aMj, .inl (K.2 3, 12, .inr (.inr (.inr (.inr (zo aMr 12)))))), (aMc, .inl (K.2 0, 12, .inl mC)), (aMw, .inl (K.2 0, 12, .inl mW))] ++ zR12Z K aMr mJ) 0 0 := by
    refine z_iconst 1 hG dX6_farthest_13 (by decide) ?_
    refine z_iconst 1 hG dX6_farthest_14 (by decide) ?_
    obtain ⟨v2, hv, hres⟩ := z_bind hres
    refine z_callV (As := [.int v1, .int 1, .int 1]) (rest := []) (wr := ([(aMk, .inl (K.2 0, 12, .inl mK)), (aMj, .inl (K.2 3, 12, .inr (.inr (.inr (.inr (zo aMr 12)))))), (aMc, .inl (K.2 0, 12, .inl mC)), (aMw, .inl (K.2 0, 12, .inl mW))] ++ zR12Z K aMr mJ)) (ws' := (fun _ : Unit => ([(aM, .inr (6, [.ref aMk, .ref aMj, .int mN, .int mS, .ref aMc, .ref aMw, .int mX, .int v2.2])), (aMk, .inl (K.2 0, 12, .inl mK)), (aMj, .inl (K.2 3, 12, .inr (.inr (.inr (.inr (zo aMr 12)))))), (aMc, .inl (K.2 0, 12, .inl mC)), (aMw, .inl (K.2 0, 12, .inl mW))] ++ zR12Z K aMr mJ))) (stk := (fun _ : Unit => [.int v2.1])) (kc' := 0) (ks' := 0) (n := 3) (C := RX6) (ci := 6) hG dX6_farthest_15 (kX6_can _ K aM aMk aMj aMc aMw mN mS mX mT v1 1 1 v2 hv) gX6_farthest_X6_can rfl rfl rfl ⟨rfl, by decide, by decide, rfl⟩ ⟨by decide, by decide⟩ (Nat.le_of_ble_eq_true rfl) ⟨(Nat.le_of_ble_eq_true rfl), (Nat.le_of_ble_eq_true rfl)⟩ [0] [1, 2, 3, 4, 5, 6, 7, 8, 9, 10, 11, 12, 13, 14, 15, 16] [16, 0, 1, 2, 3, 4, 5, 6, 7, 8, 9, 10, 11, 12, 13, 14, 15] rfl rfl rfl rfl (by decide) rfl (fun _ => rfl) (fun _ => rfl) rfl rfl rfl 0 rfl rfl rfl rfl (fun _ => ?_)
    refine z_if_eq 36 hG dX6_farthest_18 (by decide) (fun c => ?_) (fun c => ?_)
    · replace hres := z_ifp c hres
      refine z_iconst 0 hG dX6_farthest_36 (by decide) ?_
      obtain rfl := Option.some.inj hres
      exact (z_wid (Nat.le_of_ble_eq_true rfl) (Nat.le_of_ble_eq_true rfl) (hR _ _ dX6_farthest_37))
    · replace hres := z_ifn c hres
      refine z_aload_n hG dX6_farthest_21 0 rfl ?_
      refine z_aload_n hG dX6_farthest_22 0 rfl ?_
      refine z_aload_n hG dX6_farthest_23 0 rfl ?_
      refine z_get (ci := 6) (C := RX6) (T := TX6) (N := 8) hG dX6_farthest_24 iX6_farthest_X6 3 (by decide) mX6_farthest_0 rfl rfl 0 rfl rfl ?_
      obtain ⟨v3, hv, hres⟩ := z_bind hres
      refine z_callV (As := [.int mS]) (rest := [.ref aM]) (wr := ([] : va_W)) (ws' := (fun q4 : Nat => ([(aM, .inr (6, [.ref aMk, .ref aMj, .int mN, .int mS, .ref aMc, .ref aMw, .int mX, .int v2.2])), (aMk, .inl (K.2 0, 12, .inl mK)), (aMj, .inl (K.2 3, 12, .inr (.inr (.inr (.inr (zo aMr 12)))))), (aMc, .inl (K.2 0, 12, .inl mC)), (aMw, .inl (K.2 0, 12, .inl mW))] ++ zR12Z K aMr mJ ++ [(q4, .inl (K.2 0, 12, .inl v3))]))) (stk := (fun q4 : Nat => [.ref q4, .ref aM])) (kc' := 1) (ks' := 12) (n := 1) (C := RX6) (ci := 6) hG dX6_farthest_27 (kX6_lengths _ K aM aMk aMj aMc aMw aMr mN mS mX v2.2 mK mC mW mJ mS v3 hv) gX6_farthest_X6_lengths rfl rfl rfl ⟨rfl, by decide, by decide, rfl⟩ ⟨by decide, by decide⟩ (Nat.le_of_ble_eq_true rfl) ⟨(Nat.le_of_ble_eq_true rfl), (Nat.le_of_ble_eq_true rfl)⟩ [0, 1, 2, 3, 4, 5, 6, 7, 8, 9, 10, 11, 12, 13, 14, 15, 16] [] [0, 1, 2, 3, 4, 5, 6, 7, 8, 9, 10, 11, 12, 13, 14, 15, 16, 17] rfl rfl rfl rfl (by decide) rfl (fun _ => rfl) (fun _ => rfl) rfl rfl rfl 0 rfl rfl rfl rfl (fun q4 => ?_)
      obtain ⟨v5, hv, hres⟩ := z_bind hres
      refine z_callV (As := [.ref q4]) (rest := []) (wr := ([(aMk, .inl (K.2 0, 12, .inl mK)), (aMj, .inl (K.2 3, 12, .inr (.inr (.inr (.inr (zo aMr 12)))))), (aMc, .inl (K.2 0, 12, .inl mC)), (aMw, .inl (K.2 0, 12, .inl mW))] ++ zR12Z K aMr mJ)) (ws' := (fun _ : Unit => ([(aM, .inr (6, [.ref aMk, .ref aMj, .int mN, .int mS, .ref aMc, .ref aMw, .int mX, .int v2.2])), (aMk, .inl (K.2 0, 12, .inl mK)), (aMj, .inl (K.2 3, 12, .inr (.inr (.inr (.inr (zo aMr 12)))))), (aMc, .inl (K.2 0, 12, .inl mC)), (aMw, .inl (K.2 0, 12, .inl mW))] ++ zR12Z K aMr mJ ++ [(q4, .inl (K.2 0, 12, .inl v3))]))) (stk := (fun _ : Unit => [.int v5])) (kc' := 1) (ks' := 12) (n := 1) (C := RX6) (ci := 6) hG dX6_farthest_30 (kX6_greatest _ K aM q4 aMk aMj aMc aMw mN mS mX v2.2 v3 v5 hv) gX6_farthest_X6_greatest rfl rfl rfl ⟨rfl, by decide, by decide, rfl⟩ ⟨by decide, by decide⟩ (Nat.le_of_ble_eq_true rfl) ⟨(Nat.le_of_ble_eq_true rfl), (Nat.le_of_ble_eq_true rfl)⟩ [0, 17] [1, 2, 3, 4, 5, 6, 7, 8, 9, 10, 11, 12, 13, 14, 15, 16] [16, 0, 1, 2, 3, 4, 5, 6, 7, 8, 9, 10, 11, 12, 13, 14, 15, 17] rfl rfl rfl rfl (by decide) rfl (fun _ => rfl) (fun _ => rfl) rfl rfl rfl 0 rfl rfl rfl rfl (fun _ => ?_)
      refine z_goto 37 hG dX6_farthest_33 (by decide) ?_
      obtain rfl := Option.some.inj hres
      exact (z_ws [0, 1, 2, 3, 4, 5, 6, 7, 8, 9, 10, 11, 12, 13, 14, 15, 16] rfl rfl (hR _ _ dX6_farthest_37))
  replace hres := hv
  clear hv
  refine z_if_lt 12 hG dX6_farthest_5 (by decide) (fun c => ?_) (fun c => ?_)
  · replace hres := z_ifp c hres
    refine z_iconst 0 hG dX6_farthest_12 (by decide) ?_
    obtain rfl := Option.some.inj hres
    exact J
  · replace hres := z_ifn c hres
    refine z_iconst 1 hG dX6_farthest_8 (by decide) ?_
    refine z_goto 13 hG dX6_farthest_9 (by decide) ?_
    obtain rfl := Option.some.inj hres
    exact J

theorem dX6_layer_0 : decode cX6_layer 0 = .ok (.aload_n 0, 1) := by decide +kernel
theorem dX6_layer_1 : decode cX6_layer 1 = .ok (.aload_n 0, 1) := by decide +kernel
theorem dX6_layer_2 : decode cX6_layer 2 = .ok (.getfield 18, 3) := by decide +kernel
theorem dX6_layer_5 : decode cX6_layer 5 = .ok (.ifCond .lt 7, 3) := by decide +kernel
theorem dX6_layer_8 : decode cX6_layer 8 = .ok (.iconst 1, 1) := by decide +kernel
theorem dX6_layer_9 : decode cX6_layer 9 = .ok (.goto 4, 3) := by decide +kernel
theorem dX6_layer_12 : decode cX6_layer 12 = .ok (.iconst 0, 1) := by decide +kernel
theorem dX6_layer_13 : decode cX6_layer 13 = .ok (.iconst 1, 1) := by decide +kernel
theorem dX6_layer_14 : decode cX6_layer 14 = .ok (.iconst 1, 1) := by decide +kernel
theorem dX6_layer_15 : decode cX6_layer 15 = .ok (.invokevirtual 42, 3) := by decide +kernel
theorem dX6_layer_18 : decode cX6_layer 18 = .ok (.ifCond .eq 7, 3) := by decide +kernel
theorem dX6_layer_21 : decode cX6_layer 21 = .ok (.iload_n 1, 1) := by decide +kernel
theorem dX6_layer_22 : decode cX6_layer 22 = .ok (.ifCond .ge 7, 3) := by decide +kernel
theorem dX6_layer_25 : decode cX6_layer 25 = .ok (.iconst 0, 1) := by decide +kernel
theorem dX6_layer_26 : decode cX6_layer 26 = .ok (.goto 16, 3) := by decide +kernel
theorem dX6_layer_29 : decode cX6_layer 29 = .ok (.aload_n 0, 1) := by decide +kernel
theorem dX6_layer_30 : decode cX6_layer 30 = .ok (.aload_n 0, 1) := by decide +kernel
theorem dX6_layer_31 : decode cX6_layer 31 = .ok (.aload_n 0, 1) := by decide +kernel
theorem dX6_layer_32 : decode cX6_layer 32 = .ok (.getfield 18, 3) := by decide +kernel
theorem dX6_layer_35 : decode cX6_layer 35 = .ok (.invokevirtual 52, 3) := by decide +kernel
theorem dX6_layer_38 : decode cX6_layer 38 = .ok (.iload_n 1, 1) := by decide +kernel
theorem dX6_layer_39 : decode cX6_layer 39 = .ok (.invokevirtual 60, 3) := by decide +kernel
theorem dX6_layer_42 : decode cX6_layer 42 = .ok (.ireturn, 1) := by decide +kernel
set_option maxRecDepth 20000 in
theorem ggX6_layer_X6_can : GoodIn wsX6_layer wsX6_can := goodIn_r _ [6, 7, 19, 20, 21, 22, 23, 24, 25, 26] (by decide +kernel) (by decide +kernel)
set_option maxRecDepth 20000 in
theorem gX6_layer_X6_can : GoodIn wsX6_layer (wsV RX6 42 RX6 yX6_can wsX6_can) := goodIn_app (goodIn_of _ (by decide +kernel)) ggX6_layer_X6_can
set_option maxRecDepth 20000 in
theorem ggX6_layer_X6_lengths : GoodIn wsX6_layer wsX6_lengths := goodIn_r _ [11, 12, 13, 14, 19, 20, 21, 22, 23, 24, 25, 26] (by decide +kernel) (by decide +kernel)
set_option maxRecDepth 20000 in
theorem gX6_layer_X6_lengths : GoodIn wsX6_layer (wsV RX6 52 RX6 yX6_lengths wsX6_lengths) := goodIn_app (goodIn_of _ (by decide +kernel)) ggX6_layer_X6_lengths
set_option maxRecDepth 20000 in
theorem ggX6_layer_X6_having : GoodIn wsX6_layer wsX6_having := goodIn_r _ [18, 13, 19, 20, 21, 22, 23, 24, 25, 26] (by decide +kernel) (by decide +kernel)
set_option maxRecDepth 20000 in
theorem gX6_layer_X6_having : GoodIn wsX6_layer (wsV RX6 60 RX6 yX6_having wsX6_having) := goodIn_app (goodIn_of _ (by decide +kernel)) ggX6_layer_X6_having
theorem mX6_layer_0 : Cond.fieldLink RX6 18 "LayerwaysModel" "start" "I" ∈ wsX6_layer := by decide +kernel
theorem iX6_layer_X6 : ∀ w ∈ u_ws RX6 TX6 8, w ∈ wsX6_layer := by decide +kernel
def fX6_layer (mN : Int32) (mS : Int32) (mJ : (Nat → Nat → Int32)) (p0 : Int32) : Option (Int32 × Int32) := ((if mS < 0 then some 0 else some 1) : Option Int32).bind fun v1 => (fX6_can v1 1 1).bind fun v2 => if v2.1 = 0 then some (0, v2.2) else if 0 ≤ p0 then (fX6_lengths mN mJ mS).bind fun v3 => (fX6_having mN v3 p0).bind fun v5 => some (v5, v2.2) else some (0, v2.2)
set_option maxRecDepth 100000 in
set_option maxHeartbeats 4000000 in
theorem kX6_layer (l : Launch) (K : zK) (aM : Nat) (aMk : Nat) (aMj : Nat) (aMc : Nat) (aMw : Nat) (aMr : (Nat → Nat))  (mN : Int32) (mS : Int32) (mX : Int32) (mT : Int32) (mK : (Nat → Int32)) (mC : (Nat → Int32)) (mW : (Nat → Int32)) (mJ : (Nat → Nat → Int32)) (p0 : Int32) (r : Int32 × Int32) (hres : fX6_layer mN mS mJ p0 = some r) : zM l K yX6_layer wsX6_layer ({ frames := 1, cells := 1, slots := 12, locals := 25 }) [.ref aM, .int p0] ([(aM, .inr (6, [.ref aMk, .ref aMj, .int mN, .int mS, .ref aMc, .ref aMw, .int mX, .int mT])), (aMk, .inl (K.2 0, 12, .inl mK)), (aMj, .inl (K.2 3, 12, .inr (.inr (.inr (.inr (zo aMr 12)))))), (aMc, .inl (K.2 0, 12, .inl mC)), (aMw, .inl (K.2 0, 12, .inl mW))] ++ zR12Z K aMr mJ) (fun _ : Unit => some (.int r.1)) (fun _ : Unit => ([(aM, .inr (6, [.ref aMk, .ref aMj, .int mN, .int mS, .ref aMc, .ref aMw, .int mX, .int r.2])), (aMk, .inl (K.2 0, 12, .inl mK)), (aMj, .inl (K.2 3, 12, .inr (.inr (.inr (.inr (zo aMr 12)))))), (aMc, .inl (K.2 0, 12, .inl mC)), (aMw, .inl (K.2 0, 12, .inl mW))] ++ zR12Z K aMr mJ)) 1 12 := by
  refine zM.intI (cc := cX6_layer) (maxL := 2) (ret := (some .int)) rfl (by decide) (Nat.le_of_ble_eq_true rfl) rfl ?_
  intro G hGl hG hN hE
  have hR : ∀ (pc : Nat) (lv : zL), decode cX6_layer pc = .ok (.ireturn, 1) → zj G pc lv [.int r.1] ([(aM, .inr (6, [.ref aMk, .ref aMj, .int mN, .int mS, .ref aMc, .ref aMw, .int mX, .int r.2])), (aMk, .inl (K.2 0, 12, .inl mK)), (aMj, .inl (K.2 3, 12, .inr (.inr (.inr (.inr (zo aMr 12)))))), (aMc, .inl (K.2 0, 12, .inl mC)), (aMw, .inl (K.2 0, 12, .inl mW))] ++ zR12Z K aMr mJ) 1 12 := fun pc lv d => hE () _ rfl pc lv d
  clear hE
  unfold fX6_layer at hres
  show zj G 0 [(0, .ref aM), (1, .int p0)] [] ([(aM, .inr (6, [.ref aMk, .ref aMj, .int mN, .int mS, .ref aMc, .ref aMw, .int mX, .int mT])), (aMk, .inl (K.2 0, 12, .inl mK)), (aMj, .inl (K.2 3, 12, .inr (.inr (.inr (.inr (zo aMr 12)))))), (aMc, .inl (K.2 0, 12, .inl mC)), (aMw, .inl (K.2 0, 12, .inl mW))] ++ zR12Z K aMr mJ) 0 0
  refine z_aload_n hG dX6_layer_0 0 rfl ?_
  refine z_aload_n hG dX6_layer_1 0 rfl ?_
  refine z_get (ci := 6) (C := RX6) (T := TX6) (N := 8) hG dX6_layer_2 iX6_layer_X6 3 (by decide) mX6_layer_0 rfl rfl 0 rfl rfl ?_
  obtain ⟨v1, hv, hres⟩ := z_bind hres
  have J : zj G 13 [(0, .ref aM), (1, .int p0)] [.int v1, .ref aM] ([(aM, .inr (6, [.ref aMk, .ref aMj, .int mN, .int mS, .ref aMc, .ref aMw, .int mX, .int mT])), (aMk, .inl (K.2 0, 12, .inl mK)), (aMj, .inl (K.2 3, 12, .inr (.inr (.inr (.inr (zo aMr 12)))))), (aMc, .inl (K.2 0, 12, .inl mC)), (aMw, .inl (K.2 0, 12, .inl mW))] ++ zR12Z K aMr mJ) 0 0 := by
    refine z_iconst 1 hG dX6_layer_13 (by decide) ?_
    refine z_iconst 1 hG dX6_layer_14 (by decide) ?_
    obtain ⟨v2, hv, hres⟩ := z_bind hres
    refine z_callV (As := [.int v1, .int 1, .int 1]) (rest := []) (wr := ([(aMk, .inl (K.2 0, 12, .inl mK)), (aMj, .inl (K.2 3, 12, .inr (.inr (.inr (.inr (zo aMr 12)))))), (aMc, .inl (K.2 0, 12, .inl mC)), (aMw, .inl (K.2 0, 12, .inl mW))] ++ zR12Z K aMr mJ)) (ws' := (fun _ : Unit => ([(aM, .inr (6, [.ref aMk, .ref aMj, .int mN, .int mS, .ref aMc, .ref aMw, .int mX, .int v2.2])), (aMk, .inl (K.2 0, 12, .inl mK)), (aMj, .inl (K.2 3, 12, .inr (.inr (.inr (.inr (zo aMr 12)))))), (aMc, .inl (K.2 0, 12, .inl mC)), (aMw, .inl (K.2 0, 12, .inl mW))] ++ zR12Z K aMr mJ))) (stk := (fun _ : Unit => [.int v2.1])) (kc' := 0) (ks' := 0) (n := 3) (C := RX6) (ci := 6) hG dX6_layer_15 (kX6_can _ K aM aMk aMj aMc aMw mN mS mX mT v1 1 1 v2 hv) gX6_layer_X6_can rfl rfl rfl ⟨rfl, by decide, by decide, rfl⟩ ⟨by decide, by decide⟩ (Nat.le_of_ble_eq_true rfl) ⟨(Nat.le_of_ble_eq_true rfl), (Nat.le_of_ble_eq_true rfl)⟩ [0] [1, 2, 3, 4, 5, 6, 7, 8, 9, 10, 11, 12, 13, 14, 15, 16] [16, 0, 1, 2, 3, 4, 5, 6, 7, 8, 9, 10, 11, 12, 13, 14, 15] rfl rfl rfl rfl (by decide) rfl (fun _ => rfl) (fun _ => rfl) rfl rfl rfl 0 rfl rfl rfl rfl (fun _ => ?_)
    refine z_if_eq 25 hG dX6_layer_18 (by decide) (fun c => ?_) (fun c => ?_)
    · replace hres := z_ifp c hres
      refine z_iconst 0 hG dX6_layer_25 (by decide) ?_
      refine z_goto 42 hG dX6_layer_26 (by decide) ?_
      obtain rfl := Option.some.inj hres
      exact (z_wid (Nat.le_of_ble_eq_true rfl) (Nat.le_of_ble_eq_true rfl) (hR _ _ dX6_layer_42))
    · replace hres := z_ifn c hres
      refine z_iload_n hG dX6_layer_21 1 rfl ?_
      refine z_if_ge 29 hG dX6_layer_22 (by decide) (fun c => ?_) (fun c => ?_)
      · replace hres := z_ifp c hres
        refine z_aload_n hG dX6_layer_29 0 rfl ?_
        refine z_aload_n hG dX6_layer_30 0 rfl ?_
        refine z_aload_n hG dX6_layer_31 0 rfl ?_
        refine z_get (ci := 6) (C := RX6) (T := TX6) (N := 8) hG dX6_layer_32 iX6_layer_X6 3 (by decide) mX6_layer_0 rfl rfl 0 rfl rfl ?_
        obtain ⟨v3, hv, hres⟩ := z_bind hres
        refine z_callV (As := [.int mS]) (rest := [.ref aM]) (wr := ([] : va_W)) (ws' := (fun q4 : Nat => ([(aM, .inr (6, [.ref aMk, .ref aMj, .int mN, .int mS, .ref aMc, .ref aMw, .int mX, .int v2.2])), (aMk, .inl (K.2 0, 12, .inl mK)), (aMj, .inl (K.2 3, 12, .inr (.inr (.inr (.inr (zo aMr 12)))))), (aMc, .inl (K.2 0, 12, .inl mC)), (aMw, .inl (K.2 0, 12, .inl mW))] ++ zR12Z K aMr mJ ++ [(q4, .inl (K.2 0, 12, .inl v3))]))) (stk := (fun q4 : Nat => [.ref q4, .ref aM])) (kc' := 1) (ks' := 12) (n := 1) (C := RX6) (ci := 6) hG dX6_layer_35 (kX6_lengths _ K aM aMk aMj aMc aMw aMr mN mS mX v2.2 mK mC mW mJ mS v3 hv) gX6_layer_X6_lengths rfl rfl rfl ⟨rfl, by decide, by decide, rfl⟩ ⟨by decide, by decide⟩ (Nat.le_of_ble_eq_true rfl) ⟨(Nat.le_of_ble_eq_true rfl), (Nat.le_of_ble_eq_true rfl)⟩ [0, 1, 2, 3, 4, 5, 6, 7, 8, 9, 10, 11, 12, 13, 14, 15, 16] [] [0, 1, 2, 3, 4, 5, 6, 7, 8, 9, 10, 11, 12, 13, 14, 15, 16, 17] rfl rfl rfl rfl (by decide) rfl (fun _ => rfl) (fun _ => rfl) rfl rfl rfl 0 rfl rfl rfl rfl (fun q4 => ?_)
        refine z_iload_n hG dX6_layer_38 1 rfl ?_
        obtain ⟨v5, hv, hres⟩ := z_bind hres
        refine z_callV (As := [.ref q4, .int p0]) (rest := []) (wr := ([(aMk, .inl (K.2 0, 12, .inl mK)), (aMj, .inl (K.2 3, 12, .inr (.inr (.inr (.inr (zo aMr 12)))))), (aMc, .inl (K.2 0, 12, .inl mC)), (aMw, .inl (K.2 0, 12, .inl mW))] ++ zR12Z K aMr mJ)) (ws' := (fun _ : Unit => ([(aM, .inr (6, [.ref aMk, .ref aMj, .int mN, .int mS, .ref aMc, .ref aMw, .int mX, .int v2.2])), (aMk, .inl (K.2 0, 12, .inl mK)), (aMj, .inl (K.2 3, 12, .inr (.inr (.inr (.inr (zo aMr 12)))))), (aMc, .inl (K.2 0, 12, .inl mC)), (aMw, .inl (K.2 0, 12, .inl mW))] ++ zR12Z K aMr mJ ++ [(q4, .inl (K.2 0, 12, .inl v3))]))) (stk := (fun _ : Unit => [.int v5])) (kc' := 1) (ks' := 12) (n := 2) (C := RX6) (ci := 6) hG dX6_layer_39 (kX6_having _ K aM q4 aMk aMj aMc aMw mN mS mX v2.2 v3 p0 v5 hv) gX6_layer_X6_having rfl rfl rfl ⟨rfl, by decide, by decide, rfl⟩ ⟨by decide, by decide⟩ (Nat.le_of_ble_eq_true rfl) ⟨(Nat.le_of_ble_eq_true rfl), (Nat.le_of_ble_eq_true rfl)⟩ [0, 17] [1, 2, 3, 4, 5, 6, 7, 8, 9, 10, 11, 12, 13, 14, 15, 16] [16, 0, 1, 2, 3, 4, 5, 6, 7, 8, 9, 10, 11, 12, 13, 14, 15, 17] rfl rfl rfl rfl (by decide) rfl (fun _ => rfl) (fun _ => rfl) rfl rfl rfl 0 rfl rfl rfl rfl (fun _ => ?_)
        obtain rfl := Option.some.inj hres
        exact (z_ws [0, 1, 2, 3, 4, 5, 6, 7, 8, 9, 10, 11, 12, 13, 14, 15, 16] rfl rfl (hR _ _ dX6_layer_42))
      · replace hres := z_ifn c hres
        refine z_iconst 0 hG dX6_layer_25 (by decide) ?_
        refine z_goto 42 hG dX6_layer_26 (by decide) ?_
        obtain rfl := Option.some.inj hres
        exact (z_wid (Nat.le_of_ble_eq_true rfl) (Nat.le_of_ble_eq_true rfl) (hR _ _ dX6_layer_42))
  replace hres := hv
  clear hv
  refine z_if_lt 12 hG dX6_layer_5 (by decide) (fun c => ?_) (fun c => ?_)
  · replace hres := z_ifp c hres
    refine z_iconst 0 hG dX6_layer_12 (by decide) ?_
    obtain rfl := Option.some.inj hres
    exact J
  · replace hres := z_ifn c hres
    refine z_iconst 1 hG dX6_layer_8 (by decide) ?_
    refine z_goto 13 hG dX6_layer_9 (by decide) ?_
    obtain rfl := Option.some.inj hres
    exact J

theorem dX6_comes_0 : decode cX6_comes 0 = .ok (.aload_n 0, 1) := by decide +kernel
theorem dX6_comes_1 : decode cX6_comes 1 = .ok (.aload_n 0, 1) := by decide +kernel
theorem dX6_comes_2 : decode cX6_comes 2 = .ok (.getfield 18, 3) := by decide +kernel
theorem dX6_comes_5 : decode cX6_comes 5 = .ok (.ifCond .lt 7, 3) := by decide +kernel
theorem dX6_comes_8 : decode cX6_comes 8 = .ok (.iconst 1, 1) := by decide +kernel
theorem dX6_comes_9 : decode cX6_comes 9 = .ok (.goto 4, 3) := by decide +kernel
theorem dX6_comes_12 : decode cX6_comes 12 = .ok (.iconst 0, 1) := by decide +kernel
theorem dX6_comes_13 : decode cX6_comes 13 = .ok (.iconst 1, 1) := by decide +kernel
theorem dX6_comes_14 : decode cX6_comes 14 = .ok (.iconst 1, 1) := by decide +kernel
theorem dX6_comes_15 : decode cX6_comes 15 = .ok (.invokevirtual 42, 3) := by decide +kernel
theorem dX6_comes_18 : decode cX6_comes 18 = .ok (.ifCond .eq 43, 3) := by decide +kernel
theorem dX6_comes_21 : decode cX6_comes 21 = .ok (.aload_n 0, 1) := by decide +kernel
theorem dX6_comes_22 : decode cX6_comes 22 = .ok (.iconst 1, 1) := by decide +kernel
theorem dX6_comes_23 : decode cX6_comes 23 = .ok (.iload_n 1, 1) := by decide +kernel
theorem dX6_comes_24 : decode cX6_comes 24 = .ok (.ifCond .lt 29, 3) := by decide +kernel
theorem dX6_comes_27 : decode cX6_comes 27 = .ok (.iload_n 1, 1) := by decide +kernel
theorem dX6_comes_28 : decode cX6_comes 28 = .ok (.aload_n 0, 1) := by decide +kernel
theorem dX6_comes_29 : decode cX6_comes 29 = .ok (.getfield 31, 3) := by decide +kernel
theorem dX6_comes_32 : decode cX6_comes 32 = .ok (.aload_n 0, 1) := by decide +kernel
theorem dX6_comes_33 : decode cX6_comes 33 = .ok (.aload_n 0, 1) := by decide +kernel
theorem dX6_comes_34 : decode cX6_comes 34 = .ok (.aload_n 0, 1) := by decide +kernel
theorem dX6_comes_35 : decode cX6_comes 35 = .ok (.getfield 18, 3) := by decide +kernel
theorem dX6_comes_38 : decode cX6_comes 38 = .ok (.invokevirtual 52, 3) := by decide +kernel
theorem dX6_comes_41 : decode cX6_comes 41 = .ok (.iconst (-1), 1) := by decide +kernel
theorem dX6_comes_42 : decode cX6_comes 42 = .ok (.invokevirtual 60, 3) := by decide +kernel
theorem dX6_comes_45 : decode cX6_comes 45 = .ok (.isub, 1) := by decide +kernel
theorem dX6_comes_46 : decode cX6_comes 46 = .ok (.if_icmp .ge 7, 3) := by decide +kernel
theorem dX6_comes_49 : decode cX6_comes 49 = .ok (.iconst 1, 1) := by decide +kernel
theorem dX6_comes_50 : decode cX6_comes 50 = .ok (.goto 4, 3) := by decide +kernel
theorem dX6_comes_53 : decode cX6_comes 53 = .ok (.iconst 0, 1) := by decide +kernel
theorem dX6_comes_54 : decode cX6_comes 54 = .ok (.iconst 1, 1) := by decide +kernel
theorem dX6_comes_55 : decode cX6_comes 55 = .ok (.invokevirtual 42, 3) := by decide +kernel
theorem dX6_comes_58 : decode cX6_comes 58 = .ok (.ifCond .ne 5, 3) := by decide +kernel
theorem dX6_comes_61 : decode cX6_comes 61 = .ok (.iconst 0, 1) := by decide +kernel
theorem dX6_comes_62 : decode cX6_comes 62 = .ok (.ireturn, 1) := by decide +kernel
theorem dX6_comes_63 : decode cX6_comes 63 = .ok (.bipush 12, 2) := by decide +kernel
theorem dX6_comes_65 : decode cX6_comes 65 = .ok (.newarray .int, 2) := by decide +kernel
theorem dX6_comes_67 : decode cX6_comes 67 = .ok (.astore_n 2, 1) := by decide +kernel
theorem dX6_comes_68 : decode cX6_comes 68 = .ok (.bipush 12, 2) := by decide +kernel
theorem dX6_comes_70 : decode cX6_comes 70 = .ok (.newarray .boolean, 2) := by decide +kernel
theorem dX6_comes_72 : decode cX6_comes 72 = .ok (.astore_n 3, 1) := by decide +kernel
theorem dX6_comes_73 : decode cX6_comes 73 = .ok (.aload_n 2, 1) := by decide +kernel
theorem dX6_comes_74 : decode cX6_comes 74 = .ok (.iconst 0, 1) := by decide +kernel
theorem dX6_comes_75 : decode cX6_comes 75 = .ok (.aload_n 0, 1) := by decide +kernel
theorem dX6_comes_76 : decode cX6_comes 76 = .ok (.getfield 18, 3) := by decide +kernel
theorem dX6_comes_79 : decode cX6_comes 79 = .ok (.iastore, 1) := by decide +kernel
theorem dX6_comes_80 : decode cX6_comes 80 = .ok (.aload_n 3, 1) := by decide +kernel
theorem dX6_comes_81 : decode cX6_comes 81 = .ok (.aload_n 0, 1) := by decide +kernel
theorem dX6_comes_82 : decode cX6_comes 82 = .ok (.getfield 18, 3) := by decide +kernel
theorem dX6_comes_85 : decode cX6_comes 85 = .ok (.iconst 1, 1) := by decide +kernel
theorem dX6_comes_86 : decode cX6_comes 86 = .ok (.bastore, 1) := by decide +kernel
theorem dX6_comes_87 : decode cX6_comes 87 = .ok (.iconst 1, 1) := by decide +kernel
theorem dX6_comes_88 : decode cX6_comes 88 = .ok (.istore 4, 2) := by decide +kernel
theorem dX6_comes_90 : decode cX6_comes 90 = .ok (.iconst 0, 1) := by decide +kernel
theorem dX6_comes_91 : decode cX6_comes 91 = .ok (.istore 5, 2) := by decide +kernel
theorem dX6_comes_93 : decode cX6_comes 93 = .ok (.iload 5, 2) := by decide +kernel
theorem dX6_comes_95 : decode cX6_comes 95 = .ok (.iload 4, 2) := by decide +kernel
theorem dX6_comes_97 : decode cX6_comes 97 = .ok (.if_icmp .ge 63, 3) := by decide +kernel
theorem dX6_comes_100 : decode cX6_comes 100 = .ok (.iconst 0, 1) := by decide +kernel
theorem dX6_comes_101 : decode cX6_comes 101 = .ok (.istore 6, 2) := by decide +kernel
theorem dX6_comes_103 : decode cX6_comes 103 = .ok (.iload 6, 2) := by decide +kernel
theorem dX6_comes_105 : decode cX6_comes 105 = .ok (.aload_n 0, 1) := by decide +kernel
theorem dX6_comes_106 : decode cX6_comes 106 = .ok (.getfield 31, 3) := by decide +kernel
theorem dX6_comes_109 : decode cX6_comes 109 = .ok (.if_icmp .ge 45, 3) := by decide +kernel
theorem dX6_comes_112 : decode cX6_comes 112 = .ok (.aload_n 0, 1) := by decide +kernel
theorem dX6_comes_113 : decode cX6_comes 113 = .ok (.getfield 15, 3) := by decide +kernel
theorem dX6_comes_116 : decode cX6_comes 116 = .ok (.aload_n 2, 1) := by decide +kernel
theorem dX6_comes_117 : decode cX6_comes 117 = .ok (.iload 5, 2) := by decide +kernel
theorem dX6_comes_119 : decode cX6_comes 119 = .ok (.iaload, 1) := by decide +kernel
theorem dX6_comes_120 : decode cX6_comes 120 = .ok (.aaload, 1) := by decide +kernel
theorem dX6_comes_121 : decode cX6_comes 121 = .ok (.iload 6, 2) := by decide +kernel
theorem dX6_comes_123 : decode cX6_comes 123 = .ok (.baload, 1) := by decide +kernel
theorem dX6_comes_124 : decode cX6_comes 124 = .ok (.ifCond .eq 24, 3) := by decide +kernel
theorem dX6_comes_127 : decode cX6_comes 127 = .ok (.aload_n 3, 1) := by decide +kernel
theorem dX6_comes_128 : decode cX6_comes 128 = .ok (.iload 6, 2) := by decide +kernel
theorem dX6_comes_130 : decode cX6_comes 130 = .ok (.baload, 1) := by decide +kernel
theorem dX6_comes_131 : decode cX6_comes 131 = .ok (.ifCond .ne 17, 3) := by decide +kernel
theorem dX6_comes_134 : decode cX6_comes 134 = .ok (.aload_n 3, 1) := by decide +kernel
theorem dX6_comes_135 : decode cX6_comes 135 = .ok (.iload 6, 2) := by decide +kernel
theorem dX6_comes_137 : decode cX6_comes 137 = .ok (.iconst 1, 1) := by decide +kernel
theorem dX6_comes_138 : decode cX6_comes 138 = .ok (.bastore, 1) := by decide +kernel
theorem dX6_comes_139 : decode cX6_comes 139 = .ok (.aload_n 2, 1) := by decide +kernel
theorem dX6_comes_140 : decode cX6_comes 140 = .ok (.iload 4, 2) := by decide +kernel
theorem dX6_comes_142 : decode cX6_comes 142 = .ok (.iload 6, 2) := by decide +kernel
theorem dX6_comes_144 : decode cX6_comes 144 = .ok (.iastore, 1) := by decide +kernel
theorem dX6_comes_145 : decode cX6_comes 145 = .ok (.iinc 4 1, 3) := by decide +kernel
theorem dX6_comes_148 : decode cX6_comes 148 = .ok (.iinc 6 1, 3) := by decide +kernel
theorem dX6_comes_151 : decode cX6_comes 151 = .ok (.goto (-48), 3) := by decide +kernel
theorem dX6_comes_154 : decode cX6_comes 154 = .ok (.iinc 5 1, 3) := by decide +kernel
theorem dX6_comes_157 : decode cX6_comes 157 = .ok (.goto (-64), 3) := by decide +kernel
theorem dX6_comes_160 : decode cX6_comes 160 = .ok (.aload_n 0, 1) := by decide +kernel
theorem dX6_comes_161 : decode cX6_comes 161 = .ok (.getfield 9, 3) := by decide +kernel
theorem dX6_comes_164 : decode cX6_comes 164 = .ok (.aload_n 2, 1) := by decide +kernel
theorem dX6_comes_165 : decode cX6_comes 165 = .ok (.iload_n 1, 1) := by decide +kernel
theorem dX6_comes_166 : decode cX6_comes 166 = .ok (.iaload, 1) := by decide +kernel
theorem dX6_comes_167 : decode cX6_comes 167 = .ok (.iaload, 1) := by decide +kernel
theorem dX6_comes_168 : decode cX6_comes 168 = .ok (.ireturn, 1) := by decide +kernel
set_option maxRecDepth 20000 in
theorem ggX6_comes_X6_can : GoodIn wsX6_comes wsX6_can := goodIn_r _ [11, 12, 21, 22, 23, 24, 25, 26, 27, 28] (by decide +kernel) (by decide +kernel)
set_option maxRecDepth 20000 in
theorem gX6_comes_X6_can : GoodIn wsX6_comes (wsV RX6 42 RX6 yX6_can wsX6_can) := goodIn_app (goodIn_of _ (by decide +kernel)) ggX6_comes_X6_can
set_option maxRecDepth 20000 in
theorem ggX6_comes_X6_lengths : GoodIn wsX6_comes wsX6_lengths := goodIn_r _ [16, 3, 2, 5, 21, 22, 23, 24, 25, 26, 27, 28] (by decide +kernel) (by decide +kernel)
set_option maxRecDepth 20000 in
theorem gX6_comes_X6_lengths : GoodIn wsX6_comes (wsV RX6 52 RX6 yX6_lengths wsX6_lengths) := goodIn_app (goodIn_of _ (by decide +kernel)) ggX6_comes_X6_lengths
set_option maxRecDepth 20000 in
theorem ggX6_comes_X6_having : GoodIn wsX6_comes wsX6_having := goodIn_r _ [20, 2, 21, 22, 23, 24, 25, 26, 27, 28] (by decide +kernel) (by decide +kernel)
set_option maxRecDepth 20000 in
theorem gX6_comes_X6_having : GoodIn wsX6_comes (wsV RX6 60 RX6 yX6_having wsX6_having) := goodIn_app (goodIn_of _ (by decide +kernel)) ggX6_comes_X6_having
theorem mX6_comes_0 : Cond.fieldLink RX6 18 "LayerwaysModel" "start" "I" ∈ wsX6_comes := by decide +kernel
theorem iX6_comes_X6 : ∀ w ∈ u_ws RX6 TX6 8, w ∈ wsX6_comes := by decide +kernel
theorem mX6_comes_2 : Cond.fieldLink RX6 31 "LayerwaysModel" "many" "I" ∈ wsX6_comes := by decide +kernel
theorem mX6_comes_3 : Cond.arrayClass .int ∈ wsX6_comes := by decide +kernel
theorem mX6_comes_4 : Cond.arrayClass .boolean ∈ wsX6_comes := by decide +kernel
theorem mX6_comes_5 : Cond.fieldLink RX6 15 "LayerwaysModel" "joined" "[[Z" ∈ wsX6_comes := by decide +kernel
theorem mX6_comes_6 : Cond.fieldLink RX6 9 "LayerwaysModel" "keys" "[I" ∈ wsX6_comes := by decide +kernel
def sX6_comes_103 (mN : Int32) (mJ : (Nat → Nat → Int32)) (s24 : Int32 × Int32 × (Nat → Int32) × (Nat → Int32)) (s30 : Int32 × Int32 × (Nat → Int32) × (Nat → Int32)) : Option ((Int32 × Int32 × (Nat → Int32) × (Nat → Int32)) ⊕ (Int32 × Int32 × (Nat → Int32) × (Nat → Int32))) := if mN ≤ s30.2.1 then some (.inl (s30.1, s30.2.1, s30.2.2.1, s30.2.2.2)) else if zin s24.2.1 12 then if zin (s30.2.2.1 s24.2.1.toNatClampNeg) 12 then if zin s30.2.1 12 then if (mJ (s30.2.2.1 s24.2.1.toNatClampNeg).toNatClampNeg s30.2.1.toNatClampNeg) = 0 then some (.inr (s30.1, (s30.2.1 + 1), s30.2.2.1, s30.2.2.2)) else if zin s30.2.1 12 then if (s30.2.2.2 s30.2.1.toNatClampNeg) = 0 then if zin s30.2.1 12 then if zin s30.1 12 then some (.inr ((s30.1 + 1), (s30.2.1 + 1), (upd s30.2.2.1 s30.1.toNatClampNeg s30.2.1), (upd s30.2.2.2 s30.2.1.toNatClampNeg 1))) else none else none else some (.inr (s30.1, (s30.2.1 + 1), s30.2.2.1, s30.2.2.2)) else none else none else none else none
def sX6_comes_93 (mN : Int32) (mJ : (Nat → Nat → Int32)) (s24 : Int32 × Int32 × (Nat → Int32) × (Nat → Int32)) : Option ((Int32 × Int32 × (Nat → Int32) × (Nat → Int32)) ⊕ (Int32 × Int32 × (Nat → Int32) × (Nat → Int32))) := if s24.1 ≤ s24.2.1 then some (.inl (s24.1, s24.2.1, s24.2.2.1, s24.2.2.2)) else (zloop (sX6_comes_103 mN mJ s24) 32 (s24.1, 0, s24.2.2.1, s24.2.2.2)).bind fun e32 => some (.inr (e32.1, (s24.2.1 + 1), e32.2.2.1, e32.2.2.2))
def fX6_comes (mN : Int32) (mS : Int32) (mK : (Nat → Int32)) (mJ : (Nat → Nat → Int32)) (p0 : Int32) : Option (Int32 × Int32) := ((if mS < 0 then some 0 else some 1) : Option Int32).bind fun v1 => (fX6_can v1 1 1).bind fun v2 => if v2.1 = 0 then some (0, v2.2) else ((if p0 < 0 then some 0 else (fX6_lengths mN mJ mS).bind fun v35 => (fX6_having mN v35 (-1)).bind fun v37 => if (mN - v37) ≤ p0 then some 0 else some 1) : Option Int32).bind fun v6 => (fX6_can 1 v6 1).bind fun v7 => if v7.1 = 0 then some (0, v7.2) else if zin 0 12 then if zin mS 12 then (zloop (sX6_comes_93 mN mJ) 32 (1, 0, (upd (fun _ => 0) (0 : Int32).toNatClampNeg mS), (upd (fun _ => 0) mS.toNatClampNeg 1))).bind fun e26 => if zin p0 12 then if zin (e26.2.2.1 p0.toNatClampNeg) 12 then some ((mK (e26.2.2.1 p0.toNatClampNeg).toNatClampNeg), v7.2) else none else none else none else none
set_option maxRecDepth 100000 in
set_option maxHeartbeats 4000000 in
theorem kX6_comes (l : Launch) (K : zK) (aM : Nat) (aMk : Nat) (aMj : Nat) (aMc : Nat) (aMw : Nat) (aMr : (Nat → Nat))  (mN : Int32) (mS : Int32) (mX : Int32) (mT : Int32) (mK : (Nat → Int32)) (mC : (Nat → Int32)) (mW : (Nat → Int32)) (mJ : (Nat → Nat → Int32)) (p0 : Int32) (r : Int32 × Int32) (hres : fX6_comes mN mS mK mJ p0 = some r) : zM l K yX6_comes wsX6_comes ({ frames := 1, cells := 3, slots := 36, locals := 25 }) [.ref aM, .int p0] ([(aM, .inr (6, [.ref aMk, .ref aMj, .int mN, .int mS, .ref aMc, .ref aMw, .int mX, .int mT])), (aMk, .inl (K.2 0, 12, .inl mK)), (aMj, .inl (K.2 3, 12, .inr (.inr (.inr (.inr (zo aMr 12)))))), (aMc, .inl (K.2 0, 12, .inl mC)), (aMw, .inl (K.2 0, 12, .inl mW))] ++ zR12Z K aMr mJ) (fun _ : Unit => some (.int r.1)) (fun _ : Unit => ([(aM, .inr (6, [.ref aMk, .ref aMj, .int mN, .int mS, .ref aMc, .ref aMw, .int mX, .int r.2])), (aMk, .inl (K.2 0, 12, .inl mK)), (aMj, .inl (K.2 3, 12, .inr (.inr (.inr (.inr (zo aMr 12)))))), (aMc, .inl (K.2 0, 12, .inl mC)), (aMw, .inl (K.2 0, 12, .inl mW))] ++ zR12Z K aMr mJ)) 3 36 := by
  refine zM.intI (cc := cX6_comes) (maxL := 7) (ret := (some .int)) rfl (by decide) (Nat.le_of_ble_eq_true rfl) rfl ?_
  intro G hGl hG hN hE
  have hR : ∀ (pc : Nat) (lv : zL), decode cX6_comes pc = .ok (.ireturn, 1) → zj G pc lv [.int r.1] ([(aM, .inr (6, [.ref aMk, .ref aMj, .int mN, .int mS, .ref aMc, .ref aMw, .int mX, .int r.2])), (aMk, .inl (K.2 0, 12, .inl mK)), (aMj, .inl (K.2 3, 12, .inr (.inr (.inr (.inr (zo aMr 12)))))), (aMc, .inl (K.2 0, 12, .inl mC)), (aMw, .inl (K.2 0, 12, .inl mW))] ++ zR12Z K aMr mJ) 3 36 := fun pc lv d => hE () _ rfl pc lv d
  clear hE
  unfold fX6_comes at hres
  show zj G 0 [(0, .ref aM), (1, .int p0)] [] ([(aM, .inr (6, [.ref aMk, .ref aMj, .int mN, .int mS, .ref aMc, .ref aMw, .int mX, .int mT])), (aMk, .inl (K.2 0, 12, .inl mK)), (aMj, .inl (K.2 3, 12, .inr (.inr (.inr (.inr (zo aMr 12)))))), (aMc, .inl (K.2 0, 12, .inl mC)), (aMw, .inl (K.2 0, 12, .inl mW))] ++ zR12Z K aMr mJ) 0 0
  refine z_aload_n hG dX6_comes_0 0 rfl ?_
  refine z_aload_n hG dX6_comes_1 0 rfl ?_
  refine z_get (ci := 6) (C := RX6) (T := TX6) (N := 8) hG dX6_comes_2 iX6_comes_X6 3 (by decide) mX6_comes_0 rfl rfl 0 rfl rfl ?_
  obtain ⟨v1, hv, hres⟩ := z_bind hres
  have J : zj G 13 [(0, .ref aM), (1, .int p0)] [.int v1, .ref aM] ([(aM, .inr (6, [.ref aMk, .ref aMj, .int mN, .int mS, .ref aMc, .ref aMw, .int mX, .int mT])), (aMk, .inl (K.2 0, 12, .inl mK)), (aMj, .inl (K.2 3, 12, .inr (.inr (.inr (.inr (zo aMr 12)))))), (aMc, .inl (K.2 0, 12, .inl mC)), (aMw, .inl (K.2 0, 12, .inl mW))] ++ zR12Z K aMr mJ) 0 0 := by
    refine z_iconst 1 hG dX6_comes_13 (by decide) ?_
    refine z_iconst 1 hG dX6_comes_14 (by decide) ?_
    obtain ⟨v2, hv, hres⟩ := z_bind hres
    refine z_callV (As := [.int v1, .int 1, .int 1]) (rest := []) (wr := ([(aMk, .inl (K.2 0, 12, .inl mK)), (aMj, .inl (K.2 3, 12, .inr (.inr (.inr (.inr (zo aMr 12)))))), (aMc, .inl (K.2 0, 12, .inl mC)), (aMw, .inl (K.2 0, 12, .inl mW))] ++ zR12Z K aMr mJ)) (ws' := (fun _ : Unit => ([(aM, .inr (6, [.ref aMk, .ref aMj, .int mN, .int mS, .ref aMc, .ref aMw, .int mX, .int v2.2])), (aMk, .inl (K.2 0, 12, .inl mK)), (aMj, .inl (K.2 3, 12, .inr (.inr (.inr (.inr (zo aMr 12)))))), (aMc, .inl (K.2 0, 12, .inl mC)), (aMw, .inl (K.2 0, 12, .inl mW))] ++ zR12Z K aMr mJ))) (stk := (fun _ : Unit => [.int v2.1])) (kc' := 0) (ks' := 0) (n := 3) (C := RX6) (ci := 6) hG dX6_comes_15 (kX6_can _ K aM aMk aMj aMc aMw mN mS mX mT v1 1 1 v2 hv) gX6_comes_X6_can rfl rfl rfl ⟨rfl, by decide, by decide, rfl⟩ ⟨by decide, by decide⟩ (Nat.le_of_ble_eq_true rfl) ⟨(Nat.le_of_ble_eq_true rfl), (Nat.le_of_ble_eq_true rfl)⟩ [0] [1, 2, 3, 4, 5, 6, 7, 8, 9, 10, 11, 12, 13, 14, 15, 16] [16, 0, 1, 2, 3, 4, 5, 6, 7, 8, 9, 10, 11, 12, 13, 14, 15] rfl rfl rfl rfl (by decide) rfl (fun _ => rfl) (fun _ => rfl) rfl rfl rfl 0 rfl rfl rfl rfl (fun _ => ?_)
    refine z_if_eq 61 hG dX6_comes_18 (by decide) (fun c => ?_) (fun c => ?_)
    · replace hres := z_ifp c hres
      refine z_iconst 0 hG dX6_comes_61 (by decide) ?_
      obtain rfl := Option.some.inj hres
      exact (z_wid (Nat.le_of_ble_eq_true rfl) (Nat.le_of_ble_eq_true rfl) (hR _ _ dX6_comes_62))
    · replace hres := z_ifn c hres
      refine z_aload_n hG dX6_comes_21 0 rfl ?_
      refine z_iconst 1 hG dX6_comes_22 (by decide) ?_
      refine z_iload_n hG dX6_comes_23 1 rfl ?_
      obtain ⟨v6, hv, hres⟩ := z_bind hres
      have J : zj G 54 [(0, .ref aM), (1, .int p0)] [.int v6, .int 1, .ref aM] ([(aM, .inr (6, [.ref aMk, .ref aMj, .int mN, .int mS, .ref aMc, .ref aMw, .int mX, .int v2.2])), (aMk, .inl (K.2 0, 12, .inl mK)), (aMj, .inl (K.2 3, 12, .inr (.inr (.inr (.inr (zo aMr 12)))))), (aMc, .inl (K.2 0, 12, .inl mC)), (aMw, .inl (K.2 0, 12, .inl mW))] ++ zR12Z K aMr mJ) 1 12 := by
        refine z_iconst 1 hG dX6_comes_54 (by decide) ?_
        obtain ⟨v7, hv, hres⟩ := z_bind hres
        refine z_callV (As := [.int 1, .int v6, .int 1]) (rest := []) (wr := ([(aMk, .inl (K.2 0, 12, .inl mK)), (aMj, .inl (K.2 3, 12, .inr (.inr (.inr (.inr (zo aMr 12)))))), (aMc, .inl (K.2 0, 12, .inl mC)), (aMw, .inl (K.2 0, 12, .inl mW))] ++ zR12Z K aMr mJ)) (ws' := (fun _ : Unit => ([(aM, .inr (6, [.ref aMk, .ref aMj, .int mN, .int mS, .ref aMc, .ref aMw, .int mX, .int v7.2])), (aMk, .inl (K.2 0, 12, .inl mK)), (aMj, .inl (K.2 3, 12, .inr (.inr (.inr (.inr (zo aMr 12)))))), (aMc, .inl (K.2 0, 12, .inl mC)), (aMw, .inl (K.2 0, 12, .inl mW))] ++ zR12Z K aMr mJ))) (stk := (fun _ : Unit => [.int v7.1])) (kc' := 1) (ks' := 12) (n := 3) (C := RX6) (ci := 6) hG dX6_comes_55 (kX6_can _ K aM aMk aMj aMc aMw mN mS mX v2.2 1 v6 1 v7 hv) gX6_comes_X6_can rfl rfl rfl ⟨rfl, by decide, by decide, rfl⟩ ⟨by decide, by decide⟩ (Nat.le_of_ble_eq_true rfl) ⟨(Nat.le_of_ble_eq_true rfl), (Nat.le_of_ble_eq_true rfl)⟩ [0] [1, 2, 3, 4, 5, 6, 7, 8, 9, 10, 11, 12, 13, 14, 15, 16] [16, 0, 1, 2, 3, 4, 5, 6, 7, 8, 9, 10, 11, 12, 13, 14, 15] rfl rfl rfl rfl (by decide) rfl (fun _ => rfl) (fun _ => rfl) rfl rfl rfl 0 rfl rfl rfl rfl (fun _ => ?_)
        refine z_if_ne 63 hG dX6_comes_58 (by decide) (fun c => ?_) (fun c => ?_)
        · replace hres := z_ifn c hres
          refine z_bipush 12 hG dX6_comes_63 (by decide) ?_
          refine z_newI (N' := 12) hG dX6_comes_65 mX6_comes_3 (by decide) (by decide) (by decide) (Nat.le_of_ble_eq_true rfl) (Nat.le_of_ble_eq_true rfl) (fun q8 => ?_)
          show zj G 67 [(0, .ref aM), (1, .int p0)] [.ref q8] ([(aM, .inr (6, [.ref aMk, .ref aMj, .int mN, .int mS, .ref aMc, .ref aMw, .int mX, .int v7.2])), (aMk, .inl (K.2 0, 12, .inl mK)), (aMj, .inl (K.2 3, 12, .inr (.inr (.inr (.inr (zo aMr 12)))))), (aMc, .inl (K.2 0, 12, .inl mC)), (aMw, .inl (K.2 0, 12, .inl mW))] ++ zR12Z K aMr mJ ++ [(q8, .inl (K.2 0, 12, .inl (fun _ => 0)))]) 2 24
          refine z_astore_n (lv' := [(2, .ref q8), (0, .ref aM), (1, .int p0)]) hG dX6_comes_67 (by decide) rfl ?_
          refine z_bipush 12 hG dX6_comes_68 (by decide) ?_
          refine z_newZ (N' := 12) hG dX6_comes_70 mX6_comes_4 (by decide) (by decide) (by decide) (Nat.le_of_ble_eq_true rfl) (Nat.le_of_ble_eq_true rfl) (fun q9 => ?_)
          show zj G 72 [(2, .ref q8), (0, .ref aM), (1, .int p0)] [.ref q9] ([(aM, .inr (6, [.ref aMk, .ref aMj, .int mN, .int mS, .ref aMc, .ref aMw, .int mX, .int v7.2])), (aMk, .inl (K.2 0, 12, .inl mK)), (aMj, .inl (K.2 3, 12, .inr (.inr (.inr (.inr (zo aMr 12)))))), (aMc, .inl (K.2 0, 12, .inl mC)), (aMw, .inl (K.2 0, 12, .inl mW))] ++ zR12Z K aMr mJ ++ [(q8, .inl (K.2 0, 12, .inl (fun _ => 0))), (q9, .inl (K.2 1, 12, .inl (fun _ => 0)))]) 3 36
          refine z_astore_n (lv' := [(3, .ref q9), (2, .ref q8), (0, .ref aM), (1, .int p0)]) hG dX6_comes_72 (by decide) rfl ?_
          refine z_aload_n hG dX6_comes_73 1 rfl ?_
          refine z_iconst 0 hG dX6_comes_74 (by decide) ?_
          refine z_aload_n hG dX6_comes_75 2 rfl ?_
          refine z_get (ci := 6) (C := RX6) (T := TX6) (N := 8) hG dX6_comes_76 iX6_comes_X6 3 (by decide) mX6_comes_0 rfl rfl 0 rfl rfl ?_
          obtain ⟨hg, hres⟩ := z_guard hres
          refine z_iast (ws' := ([(aM, .inr (6, [.ref aMk, .ref aMj, .int mN, .int mS, .ref aMc, .ref aMw, .int mX, .int v7.2])), (aMk, .inl (K.2 0, 12, .inl mK)), (aMj, .inl (K.2 3, 12, .inr (.inr (.inr (.inr (zo aMr 12)))))), (aMc, .inl (K.2 0, 12, .inl mC)), (aMw, .inl (K.2 0, 12, .inl mW))] ++ zR12Z K aMr mJ ++ [(q8, .inl (K.2 0, 12, .inl (upd (fun _ => 0) (0 : Int32).toNatClampNeg mS))), (q9, .inl (K.2 1, 12, .inl (fun _ => 0)))])) hG dX6_comes_79 17 rfl hg rfl ?_
          refine z_aload_n hG dX6_comes_80 0 rfl ?_
          refine z_aload_n hG dX6_comes_81 2 rfl ?_
          refine z_get (ci := 6) (C := RX6) (T := TX6) (N := 8) hG dX6_comes_82 iX6_comes_X6 3 (by decide) mX6_comes_0 rfl rfl 0 rfl rfl ?_
          refine z_iconst 1 hG dX6_comes_85 (by decide) ?_
          obtain ⟨hg, hres⟩ := z_guard hres
          refine z_zast01 (ws' := ([(aM, .inr (6, [.ref aMk, .ref aMj, .int mN, .int mS, .ref aMc, .ref aMw, .int mX, .int v7.2])), (aMk, .inl (K.2 0, 12, .inl mK)), (aMj, .inl (K.2 3, 12, .inr (.inr (.inr (.inr (zo aMr 12)))))), (aMc, .inl (K.2 0, 12, .inl mC)), (aMw, .inl (K.2 0, 12, .inl mW))] ++ zR12Z K aMr mJ ++ [(q8, .inl (K.2 0, 12, .inl (upd (fun _ => 0) (0 : Int32).toNatClampNeg mS))), (q9, .inl (K.2 1, 12, .inl (upd (fun _ => 0) mS.toNatClampNeg 1)))])) hG dX6_comes_86 18 rfl hg (by decide) rfl ?_
          refine z_iconst 1 hG dX6_comes_87 (by decide) ?_
          refine z_istore (lv' := [(4, .int 1), (3, .ref q9), (2, .ref q8), (0, .ref aM), (1, .int p0)]) hG dX6_comes_88 (by decide) rfl ?_
          refine z_iconst 0 hG dX6_comes_90 (by decide) ?_
          refine z_istore (lv' := [(5, .int 0), (4, .int 1), (3, .ref q9), (2, .ref q8), (0, .ref aM), (1, .int p0)]) hG dX6_comes_91 (by decide) rfl ?_
          obtain ⟨e26, hx, hres⟩ := z_bind hres
          refine z_lv [4, 5, 3, 2, 1, 0] (lv' := [(0, .ref aM), (1, .int p0), (2, .ref q8), (3, .ref q9), (4, .int 1), (5, .int 0)]) rfl ?_
          refine z_loop hx (fun s24 : Int32 × Int32 × (Nat → Int32) × (Nat → Int32) => [(0, .ref aM), (1, .int p0), (2, .ref q8), (3, .ref q9), (4, .int s24.1), (5, .int s24.2.1)]) (fun s24 : Int32 × Int32 × (Nat → Int32) × (Nat → Int32) => ([(aM, .inr (6, [.ref aMk, .ref aMj, .int mN, .int mS, .ref aMc, .ref aMw, .int mX, .int v7.2])), (aMk, .inl (K.2 0, 12, .inl mK)), (aMj, .inl (K.2 3, 12, .inr (.inr (.inr (.inr (zo aMr 12)))))), (aMc, .inl (K.2 0, 12, .inl mC)), (aMw, .inl (K.2 0, 12, .inl mW))] ++ zR12Z K aMr mJ ++ [(q8, .inl (K.2 0, 12, .inl s24.2.2.1)), (q9, .inl (K.2 1, 12, .inl s24.2.2.2))])) (fun e26 : Int32 × Int32 × (Nat → Int32) × (Nat → Int32) => zj G 160 [(0, .ref aM), (1, .int p0), (2, .ref q8), (3, .ref q9), (4, .int e26.1), (5, .int e26.2.1)] [] ([(aM, .inr (6, [.ref aMk, .ref aMj, .int mN, .int mS, .ref aMc, .ref aMw, .int mX, .int v7.2])), (aMk, .inl (K.2 0, 12, .inl mK)), (aMj, .inl (K.2 3, 12, .inr (.inr (.inr (.inr (zo aMr 12)))))), (aMc, .inl (K.2 0, 12, .inl mC)), (aMw, .inl (K.2 0, 12, .inl mW))] ++ zR12Z K aMr mJ ++ [(q8, .inl (K.2 0, 12, .inl e26.2.2.1)), (q9, .inl (K.2 1, 12, .inl e26.2.2.2))]) 3 36) ?_ ?_
          · refine z_aload_n hG dX6_comes_160 0 rfl ?_
            refine z_get (ci := 6) (C := RX6) (T := TX6) (N := 8) hG dX6_comes_161 iX6_comes_X6 0 (by decide) mX6_comes_6 rfl rfl 0 rfl rfl ?_
            refine z_aload_n hG dX6_comes_164 2 rfl ?_
            refine z_iload_n hG dX6_comes_165 1 rfl ?_
            obtain ⟨hg, hres⟩ := z_guard hres
            refine z_iald hG dX6_comes_166 17 rfl hg ?_
            obtain ⟨hg, hres⟩ := z_guard hres
            refine z_iald hG dX6_comes_167 1 rfl hg ?_
            obtain rfl := Option.some.inj hres
            exact (z_ws [0, 1, 2, 3, 4, 5, 6, 7, 8, 9, 10, 11, 12, 13, 14, 15, 16] rfl rfl (hR _ _ dX6_comes_168))
          · intro s24 w25 hres hX hB
            unfold sX6_comes_93 at hres
            refine z_iload hG dX6_comes_93 5 rfl ?_
            refine z_iload hG dX6_comes_95 4 rfl ?_
            refine z_icmp_ge 160 hG dX6_comes_97 (by decide) (fun c => ?_) (fun c => ?_)
            · replace hres := z_ifp c hres
              exact (hX (s24.1, s24.2.1, s24.2.2.1, s24.2.2.2) (Option.some.inj hres).symm)
            · replace hres := z_ifn c hres
              refine z_iconst 0 hG dX6_comes_100 (by decide) ?_
              refine z_istore (lv' := [(6, .int 0), (0, .ref aM), (1, .int p0), (2, .ref q8), (3, .ref q9), (4, .int s24.1), (5, .int s24.2.1)]) hG dX6_comes_101 (by decide) rfl ?_
              obtain ⟨e32, hx, hres⟩ := z_bind hres
              refine z_lv [1, 2, 3, 4, 5, 6, 0] (lv' := [(0, .ref aM), (1, .int p0), (2, .ref q8), (3, .ref q9), (4, .int s24.1), (5, .int s24.2.1), (6, .int 0)]) rfl ?_
              refine z_loop hx (fun s30 : Int32 × Int32 × (Nat → Int32) × (Nat → Int32) => [(0, .ref aM), (1, .int p0), (2, .ref q8), (3, .ref q9), (4, .int s30.1), (5, .int s24.2.1), (6, .int s30.2.1)]) (fun s30 : Int32 × Int32 × (Nat → Int32) × (Nat → Int32) => ([(aM, .inr (6, [.ref aMk, .ref aMj, .int mN, .int mS, .ref aMc, .ref aMw, .int mX, .int v7.2])), (aMk, .inl (K.2 0, 12, .inl mK)), (aMj, .inl (K.2 3, 12, .inr (.inr (.inr (.inr (zo aMr 12)))))), (aMc, .inl (K.2 0, 12, .inl mC)), (aMw, .inl (K.2 0, 12, .inl mW))] ++ zR12Z K aMr mJ ++ [(q8, .inl (K.2 0, 12, .inl s30.2.2.1)), (q9, .inl (K.2 1, 12, .inl s30.2.2.2))])) (fun e32 : Int32 × Int32 × (Nat → Int32) × (Nat → Int32) => zj G 154 [(0, .ref aM), (1, .int p0), (2, .ref q8), (3, .ref q9), (4, .int e32.1), (5, .int s24.2.1), (6, .int e32.2.1)] [] ([(aM, .inr (6, [.ref aMk, .ref aMj, .int mN, .int mS, .ref aMc, .ref aMw, .int mX, .int v7.2])), (aMk, .inl (K.2 0, 12, .inl mK)), (aMj, .inl (K.2 3, 12, .inr (.inr (.inr (.inr (zo aMr 12)))))), (aMc, .inl (K.2 0, 12, .inl mC)), (aMw, .inl (K.2 0, 12, .inl mW))] ++ zR12Z K aMr mJ ++ [(q8, .inl (K.2 0, 12, .inl e32.2.2.1)), (q9, .inl (K.2 1, 12, .inl e32.2.2.2))]) 3 36) ?_ ?_
              · refine z_iinc (s24.2.1 + 1) (lv' := [(5, .int (s24.2.1 + 1)), (0, .ref aM), (1, .int p0), (2, .ref q8), (3, .ref q9), (4, .int e32.1), (6, .int e32.2.1)]) hG dX6_comes_154 5 rfl rfl (by decide) rfl ?_
                refine z_goto 93 hG dX6_comes_157 (by decide) ?_
                exact (z_lv [1, 2, 3, 4, 5, 0] rfl (hB (e32.1, (s24.2.1 + 1), e32.2.2.1, e32.2.2.2) (Option.some.inj hres).symm))
              · intro s30 w31 hres hX hB
                unfold sX6_comes_103 at hres
                refine z_iload hG dX6_comes_103 6 rfl ?_
                refine z_aload_n hG dX6_comes_105 0 rfl ?_
                refine z_get (ci := 6) (C := RX6) (T := TX6) (N := 8) hG dX6_comes_106 iX6_comes_X6 2 (by decide) mX6_comes_2 rfl rfl 0 rfl rfl ?_
                refine z_icmp_ge 154 hG dX6_comes_109 (by decide) (fun c => ?_) (fun c => ?_)
                · replace hres := z_ifp c hres
                  exact (hX (s30.1, s30.2.1, s30.2.2.1, s30.2.2.2) (Option.some.inj hres).symm)
                · replace hres := z_ifn c hres
                  refine z_aload_n hG dX6_comes_112 0 rfl ?_
                  refine z_get (ci := 6) (C := RX6) (T := TX6) (N := 8) hG dX6_comes_113 iX6_comes_X6 1 (by decide) mX6_comes_5 rfl rfl 0 rfl rfl ?_
                  refine z_aload_n hG dX6_comes_116 2 rfl ?_
                  refine z_iload hG dX6_comes_117 5 rfl ?_
                  obtain ⟨hg, hres⟩ := z_guard hres
                  refine z_iald hG dX6_comes_119 17 rfl hg ?_
                  obtain ⟨hr34, hres⟩ := z_guard hres
                  refine z_aaldZ hG dX6_comes_120 2 rfl hr34 ?_
                  refine z_iload hG dX6_comes_121 6 rfl ?_
                  obtain ⟨hg, hres⟩ := z_guard hres
                  refine z_zaldG (M := mJ) hG dX6_comes_123 5 (z_12 rfl rfl rfl rfl rfl rfl rfl rfl rfl rfl rfl rfl) hr34 hg ?_
                  refine z_if_eq 148 hG dX6_comes_124 (by decide) (fun c => ?_) (fun c => ?_)
                  · replace hres := z_ifp c hres
                    refine z_iinc (s30.2.1 + 1) (lv' := [(6, .int (s30.2.1 + 1)), (0, .ref aM), (1, .int p0), (2, .ref q8), (3, .ref q9), (4, .int s30.1), (5, .int s24.2.1)]) hG dX6_comes_148 6 rfl rfl (by decide) rfl ?_
                    refine z_goto 103 hG dX6_comes_151 (by decide) ?_
                    exact (z_lv [1, 2, 3, 4, 5, 6, 0] rfl (hB (s30.1, (s30.2.1 + 1), s30.2.2.1, s30.2.2.2) (Option.some.inj hres).symm))
                  · replace hres := z_ifn c hres
                    refine z_aload_n hG dX6_comes_127 3 rfl ?_
                    refine z_iload hG dX6_comes_128 6 rfl ?_
                    obtain ⟨hg, hres⟩ := z_guard hres
                    refine z_zald hG dX6_comes_130 18 rfl hg ?_
                    refine z_if_ne 148 hG dX6_comes_131 (by decide) (fun c => ?_) (fun c => ?_)
                    · replace hres := z_ifn c hres
                      refine z_iinc (s30.2.1 + 1) (lv' := [(6, .int (s30.2.1 + 1)), (0, .ref aM), (1, .int p0), (2, .ref q8), (3, .ref q9), (4, .int s30.1), (5, .int s24.2.1)]) hG dX6_comes_148 6 rfl rfl (by decide) rfl ?_
                      refine z_goto 103 hG dX6_comes_151 (by decide) ?_
                      exact (z_lv [1, 2, 3, 4, 5, 6, 0] rfl (hB (s30.1, (s30.2.1 + 1), s30.2.2.1, s30.2.2.2) (Option.some.inj hres).symm))
                    · replace hres := z_ifp c hres
                      refine z_aload_n hG dX6_comes_134 3 rfl ?_
                      refine z_iload hG dX6_comes_135 6 rfl ?_
                      refine z_iconst 1 hG dX6_comes_137 (by decide) ?_
                      obtain ⟨hg, hres⟩ := z_guard hres
                      refine z_zast01 (ws' := ([(aM, .inr (6, [.ref aMk, .ref aMj, .int mN, .int mS, .ref aMc, .ref aMw, .int mX, .int v7.2])), (aMk, .inl (K.2 0, 12, .inl mK)), (aMj, .inl (K.2 3, 12, .inr (.inr (.inr (.inr (zo aMr 12)))))), (aMc, .inl (K.2 0, 12, .inl mC)), (aMw, .inl (K.2 0, 12, .inl mW))] ++ zR12Z K aMr mJ ++ [(q8, .inl (K.2 0, 12, .inl s30.2.2.1)), (q9, .inl (K.2 1, 12, .inl (upd s30.2.2.2 s30.2.1.toNatClampNeg 1)))])) hG dX6_comes_138 18 rfl hg (by decide) rfl ?_
                      refine z_aload_n hG dX6_comes_139 2 rfl ?_
                      refine z_iload hG dX6_comes_140 4 rfl ?_
                      refine z_iload hG dX6_comes_142 6 rfl ?_
                      obtain ⟨hg, hres⟩ := z_guard hres
                      refine z_iast (ws' := ([(aM, .inr (6, [.ref aMk, .ref aMj, .int mN, .int mS, .ref aMc, .ref aMw, .int mX, .int v7.2])), (aMk, .inl (K.2 0, 12, .inl mK)), (aMj, .inl (K.2 3, 12, .inr (.inr (.inr (.inr (zo aMr 12)))))), (aMc, .inl (K.2 0, 12, .inl mC)), (aMw, .inl (K.2 0, 12, .inl mW))] ++ zR12Z K aMr mJ ++ [(q8, .inl (K.2 0, 12, .inl (upd s30.2.2.1 s30.1.toNatClampNeg s30.2.1))), (q9, .inl (K.2 1, 12, .inl (upd s30.2.2.2 s30.2.1.toNatClampNeg 1)))])) hG dX6_comes_144 17 rfl hg rfl ?_
                      refine z_iinc (s30.1 + 1) (lv' := [(4, .int (s30.1 + 1)), (0, .ref aM), (1, .int p0), (2, .ref q8), (3, .ref q9), (5, .int s24.2.1), (6, .int s30.2.1)]) hG dX6_comes_145 4 rfl rfl (by decide) rfl ?_
                      refine z_iinc (s30.2.1 + 1) (lv' := [(6, .int (s30.2.1 + 1)), (4, .int (s30.1 + 1)), (0, .ref aM), (1, .int p0), (2, .ref q8), (3, .ref q9), (5, .int s24.2.1)]) hG dX6_comes_148 6 rfl rfl (by decide) rfl ?_
                      refine z_goto 103 hG dX6_comes_151 (by decide) ?_
                      exact (z_lv [2, 3, 4, 5, 1, 6, 0] rfl (hB ((s30.1 + 1), (s30.2.1 + 1), (upd s30.2.2.1 s30.1.toNatClampNeg s30.2.1), (upd s30.2.2.2 s30.2.1.toNatClampNeg 1)) (Option.some.inj hres).symm))
        · replace hres := z_ifp c hres
          refine z_iconst 0 hG dX6_comes_61 (by decide) ?_
          obtain rfl := Option.some.inj hres
          exact (z_wid (Nat.le_of_ble_eq_true rfl) (Nat.le_of_ble_eq_true rfl) (hR _ _ dX6_comes_62))
      replace hres := hv
      clear hv
      refine z_if_lt 53 hG dX6_comes_24 (by decide) (fun c => ?_) (fun c => ?_)
      · replace hres := z_ifp c hres
        refine z_iconst 0 hG dX6_comes_53 (by decide) ?_
        obtain rfl := Option.some.inj hres
        exact (z_wid (Nat.le_of_ble_eq_true rfl) (Nat.le_of_ble_eq_true rfl) J)
      · replace hres := z_ifn c hres
        refine z_iload_n hG dX6_comes_27 1 rfl ?_
        refine z_aload_n hG dX6_comes_28 0 rfl ?_
        refine z_get (ci := 6) (C := RX6) (T := TX6) (N := 8) hG dX6_comes_29 iX6_comes_X6 2 (by decide) mX6_comes_2 rfl rfl 0 rfl rfl ?_
        refine z_aload_n hG dX6_comes_32 0 rfl ?_
        refine z_aload_n hG dX6_comes_33 0 rfl ?_
        refine z_aload_n hG dX6_comes_34 0 rfl ?_
        refine z_get (ci := 6) (C := RX6) (T := TX6) (N := 8) hG dX6_comes_35 iX6_comes_X6 3 (by decide) mX6_comes_0 rfl rfl 0 rfl rfl ?_
        obtain ⟨v35, hv, hres⟩ := z_bind hres
        refine z_callV (As := [.int mS]) (rest := [.ref aM, .int mN, .int p0, .int 1, .ref aM]) (wr := ([] : va_W)) (ws' := (fun q36 : Nat => ([(aM, .inr (6, [.ref aMk, .ref aMj, .int mN, .int mS, .ref aMc, .ref aMw, .int mX, .int v2.2])), (aMk, .inl (K.2 0, 12, .inl mK)), (aMj, .inl (K.2 3, 12, .inr (.inr (.inr (.inr (zo aMr 12)))))), (aMc, .inl (K.2 0, 12, .inl mC)), (aMw, .inl (K.2 0, 12, .inl mW))] ++ zR12Z K aMr mJ ++ [(q36, .inl (K.2 0, 12, .inl v35))]))) (stk := (fun q36 : Nat => [.ref q36, .ref aM, .int mN, .int p0, .int 1, .ref aM])) (kc' := 1) (ks' := 12) (n := 1) (C := RX6) (ci := 6) hG dX6_comes_38 (kX6_lengths _ K aM aMk aMj aMc aMw aMr mN mS mX v2.2 mK mC mW mJ mS v35 hv) gX6_comes_X6_lengths rfl rfl rfl ⟨rfl, by decide, by decide, rfl⟩ ⟨by decide, by decide⟩ (Nat.le_of_ble_eq_true rfl) ⟨(Nat.le_of_ble_eq_true rfl), (Nat.le_of_ble_eq_true rfl)⟩ [0, 1, 2, 3, 4, 5, 6, 7, 8, 9, 10, 11, 12, 13, 14, 15, 16] [] [0, 1, 2, 3, 4, 5, 6, 7, 8, 9, 10, 11, 12, 13, 14, 15, 16, 17] rfl rfl rfl rfl (by decide) rfl (fun _ => rfl) (fun _ => rfl) rfl rfl rfl 0 rfl rfl rfl rfl (fun q36 => ?_)
        refine z_iconst (-1) hG dX6_comes_41 (by decide) ?_
        obtain ⟨v37, hv, hres⟩ := z_bind hres
        refine z_callV (As := [.ref q36, .int (-1)]) (rest := [.int mN, .int p0, .int 1, .ref aM]) (wr := ([(aMk, .inl (K.2 0, 12, .inl mK)), (aMj, .inl (K.2 3, 12, .inr (.inr (.inr (.inr (zo aMr 12)))))), (aMc, .inl (K.2 0, 12, .inl mC)), (aMw, .inl (K.2 0, 12, .inl mW))] ++ zR12Z K aMr mJ)) (ws' := (fun _ : Unit => ([(aM, .inr (6, [.ref aMk, .ref aMj, .int mN, .int mS, .ref aMc, .ref aMw, .int mX, .int v2.2])), (aMk, .inl (K.2 0, 12, .inl mK)), (aMj, .inl (K.2 3, 12, .inr (.inr (.inr (.inr (zo aMr 12)))))), (aMc, .inl (K.2 0, 12, .inl mC)), (aMw, .inl (K.2 0, 12, .inl mW))] ++ zR12Z K aMr mJ ++ [(q36, .inl (K.2 0, 12, .inl v35))]))) (stk := (fun _ : Unit => [.int v37, .int mN, .int p0, .int 1, .ref aM])) (kc' := 1) (ks' := 12) (n := 2) (C := RX6) (ci := 6) hG dX6_comes_42 (kX6_having _ K aM q36 aMk aMj aMc aMw mN mS mX v2.2 v35 (-1) v37 hv) gX6_comes_X6_having rfl rfl rfl ⟨rfl, by decide, by decide, rfl⟩ ⟨by decide, by decide⟩ (Nat.le_of_ble_eq_true rfl) ⟨(Nat.le_of_ble_eq_true rfl), (Nat.le_of_ble_eq_true rfl)⟩ [0, 17] [1, 2, 3, 4, 5, 6, 7, 8, 9, 10, 11, 12, 13, 14, 15, 16] [16, 0, 1, 2, 3, 4, 5, 6, 7, 8, 9, 10, 11, 12, 13, 14, 15, 17] rfl rfl rfl rfl (by decide) rfl (fun _ => rfl) (fun _ => rfl) rfl rfl rfl 0 rfl rfl rfl rfl (fun _ => ?_)
        refine z_isub hG dX6_comes_45 ?_
        refine z_icmp_ge 53 hG dX6_comes_46 (by decide) (fun c => ?_) (fun c => ?_)
        · replace hres := z_ifp c hres
          refine z_iconst 0 hG dX6_comes_53 (by decide) ?_
          obtain rfl := Option.some.inj hres
          exact (z_ws [0, 1, 2, 3, 4, 5, 6, 7, 8, 9, 10, 11, 12, 13, 14, 15, 16] rfl rfl J)
        · replace hres := z_ifn c hres
          refine z_iconst 1 hG dX6_comes_49 (by decide) ?_
          refine z_goto 54 hG dX6_comes_50 (by decide) ?_
          obtain rfl := Option.some.inj hres
          exact (z_ws [0, 1, 2, 3, 4, 5, 6, 7, 8, 9, 10, 11, 12, 13, 14, 15, 16] rfl rfl J)
  replace hres := hv
  clear hv
  refine z_if_lt 12 hG dX6_comes_5 (by decide) (fun c => ?_) (fun c => ?_)
  · replace hres := z_ifp c hres
    refine z_iconst 0 hG dX6_comes_12 (by decide) ?_
    obtain rfl := Option.some.inj hres
    exact J
  · replace hres := z_ifn c hres
    refine z_iconst 1 hG dX6_comes_8 (by decide) ?_
    refine z_goto 13 hG dX6_comes_9 (by decide) ?_
    obtain rfl := Option.some.inj hres
    exact J

theorem dX6_between_0 : decode cX6_between 0 = .ok (.aload_n 0, 1) := by decide +kernel
theorem dX6_between_1 : decode cX6_between 1 = .ok (.aload_n 0, 1) := by decide +kernel
theorem dX6_between_2 : decode cX6_between 2 = .ok (.iload_n 1, 1) := by decide +kernel
theorem dX6_between_3 : decode cX6_between 3 = .ok (.invokevirtual 38, 3) := by decide +kernel
theorem dX6_between_6 : decode cX6_between 6 = .ok (.ifCond .eq 15, 3) := by decide +kernel
theorem dX6_between_9 : decode cX6_between 9 = .ok (.aload_n 0, 1) := by decide +kernel
theorem dX6_between_10 : decode cX6_between 10 = .ok (.iload_n 2, 1) := by decide +kernel
theorem dX6_between_11 : decode cX6_between 11 = .ok (.invokevirtual 38, 3) := by decide +kernel
theorem dX6_between_14 : decode cX6_between 14 = .ok (.ifCond .eq 7, 3) := by decide +kernel
theorem dX6_between_17 : decode cX6_between 17 = .ok (.iconst 1, 1) := by decide +kernel
theorem dX6_between_18 : decode cX6_between 18 = .ok (.goto 4, 3) := by decide +kernel
theorem dX6_between_21 : decode cX6_between 21 = .ok (.iconst 0, 1) := by decide +kernel
theorem dX6_between_22 : decode cX6_between 22 = .ok (.iconst 1, 1) := by decide +kernel
theorem dX6_between_23 : decode cX6_between 23 = .ok (.iconst 1, 1) := by decide +kernel
theorem dX6_between_24 : decode cX6_between 24 = .ok (.invokevirtual 42, 3) := by decide +kernel
theorem dX6_between_27 : decode cX6_between 27 = .ok (.ifCond .eq 21, 3) := by decide +kernel
theorem dX6_between_30 : decode cX6_between 30 = .ok (.aload_n 0, 1) := by decide +kernel
theorem dX6_between_31 : decode cX6_between 31 = .ok (.aload_n 0, 1) := by decide +kernel
theorem dX6_between_32 : decode cX6_between 32 = .ok (.iload_n 1, 1) := by decide +kernel
theorem dX6_between_33 : decode cX6_between 33 = .ok (.invokevirtual 34, 3) := by decide +kernel
theorem dX6_between_36 : decode cX6_between 36 = .ok (.invokevirtual 52, 3) := by decide +kernel
theorem dX6_between_39 : decode cX6_between 39 = .ok (.aload_n 0, 1) := by decide +kernel
theorem dX6_between_40 : decode cX6_between 40 = .ok (.iload_n 2, 1) := by decide +kernel
theorem dX6_between_41 : decode cX6_between 41 = .ok (.invokevirtual 34, 3) := by decide +kernel
theorem dX6_between_44 : decode cX6_between 44 = .ok (.iaload, 1) := by decide +kernel
theorem dX6_between_45 : decode cX6_between 45 = .ok (.goto 4, 3) := by decide +kernel
theorem dX6_between_48 : decode cX6_between 48 = .ok (.iconst 0, 1) := by decide +kernel
theorem dX6_between_49 : decode cX6_between 49 = .ok (.ireturn, 1) := by decide +kernel
set_option maxRecDepth 20000 in
theorem ggX6_between_X6_is : GoodIn wsX6_between wsX6_is := goodIn_r _ [5, 6, 7, 8, 4, 9, 10, 11, 23, 24, 25, 26, 27, 28, 29, 30] (by decide +kernel) (by decide +kernel)
set_option maxRecDepth 20000 in
theorem gX6_between_X6_is : GoodIn wsX6_between (wsV RX6 38 RX6 yX6_is wsX6_is) := goodIn_app (goodIn_of _ (by decide +kernel)) ggX6_between_X6_is
set_option maxRecDepth 20000 in
theorem ggX6_between_X6_can : GoodIn wsX6_between wsX6_can := goodIn_r _ [15, 16, 23, 24, 25, 26, 27, 28, 29, 30] (by decide +kernel) (by decide +kernel)
set_option maxRecDepth 20000 in
theorem gX6_between_X6_can : GoodIn wsX6_between (wsV RX6 42 RX6 yX6_can wsX6_can) := goodIn_app (goodIn_of _ (by decide +kernel)) ggX6_between_X6_can
set_option maxRecDepth 20000 in
theorem ggX6_between_X6_at : GoodIn wsX6_between wsX6_at := goodIn_r _ [9, 10, 11, 23, 24, 25, 26, 27, 28, 29, 30] (by decide +kernel) (by decide +kernel)
set_option maxRecDepth 20000 in
theorem gX6_between_X6_at : GoodIn wsX6_between (wsV RX6 34 RX6 yX6_at wsX6_at) := goodIn_app (goodIn_of _ (by decide +kernel)) ggX6_between_X6_at
set_option maxRecDepth 20000 in
theorem ggX6_between_X6_lengths : GoodIn wsX6_between wsX6_lengths := goodIn_r _ [20, 21, 10, 22, 23, 24, 25, 26, 27, 28, 29, 30] (by decide +kernel) (by decide +kernel)
set_option maxRecDepth 20000 in
theorem gX6_between_X6_lengths : GoodIn wsX6_between (wsV RX6 52 RX6 yX6_lengths wsX6_lengths) := goodIn_app (goodIn_of _ (by decide +kernel)) ggX6_between_X6_lengths
def fX6_between (mN : Int32) (mK : (Nat → Int32)) (mJ : (Nat → Nat → Int32)) (p0 : Int32) (p1 : Int32) : Option (Int32 × Int32) := (fX6_is mN mK p0).bind fun v1 => ((if v1 = 0 then some 0 else (fX6_is mN mK p1).bind fun v9 => if v9 = 0 then some 0 else some 1) : Option Int32).bind fun v3 => (fX6_can v3 1 1).bind fun v4 => if v4.1 = 0 then some (0, v4.2) else (fX6_at mN mK p0).bind fun v5 => (fX6_lengths mN mJ v5).bind fun v6 => (fX6_at mN mK p1).bind fun v8 => if zin v8 12 then some ((v6 v8.toNatClampNeg), v4.2) else none
set_option maxRecDepth 100000 in
set_option maxHeartbeats 4000000 in
theorem kX6_between (l : Launch) (K : zK) (aM : Nat) (aMk : Nat) (aMj : Nat) (aMc : Nat) (aMw : Nat) (aMr : (Nat → Nat))  (mN : Int32) (mS : Int32) (mX : Int32) (mT : Int32) (mK : (Nat → Int32)) (mC : (Nat → Int32)) (mW : (Nat → Int32)) (mJ : (Nat → Nat → Int32)) (p0 : Int32) (p1 : Int32) (r : Int32 × Int32) (hres : fX6_between mN mK mJ p0 p1 = some r) : zM l K yX6_between wsX6_between ({ frames := 2, cells := 1, slots := 12, locals := 43 }) [.ref aM, .int p0, .int p1] ([(aM, .inr (6, [.ref aMk, .ref aMj, .int mN, .int mS, .ref aMc, .ref aMw, .int mX, .int mT])), (aMk, .inl (K.2 0, 12, .inl mK)), (aMj, .inl (K.2 3, 12, .inr (.inr (.inr (.inr (zo aMr 12)))))), (aMc, .inl (K.2 0, 12, .inl mC)), (aMw, .inl (K.2 0, 12, .inl mW))] ++ zR12Z K aMr mJ) (fun _ : Unit => some (.int r.1)) (fun _ : Unit => ([(aM, .inr (6, [.ref aMk, .ref aMj, .int mN, .int mS, .ref aMc, .ref aMw, .int mX, .int r.2])), (aMk, .inl (K.2 0, 12, .inl mK)), (aMj, .inl (K.2 3, 12, .inr (.inr (.inr (.inr (zo aMr 12)))))), (aMc, .inl (K.2 0, 12, .inl mC)), (aMw, .inl (K.2 0, 12, .inl mW))] ++ zR12Z K aMr mJ)) 1 12 := by
  refine zM.intI (cc := cX6_between) (maxL := 3) (ret := (some .int)) rfl (by decide) (Nat.le_of_ble_eq_true rfl) rfl ?_
  intro G hGl hG hN hE
  have hR : ∀ (pc : Nat) (lv : zL), decode cX6_between pc = .ok (.ireturn, 1) → zj G pc lv [.int r.1] ([(aM, .inr (6, [.ref aMk, .ref aMj, .int mN, .int mS, .ref aMc, .ref aMw, .int mX, .int r.2])), (aMk, .inl (K.2 0, 12, .inl mK)), (aMj, .inl (K.2 3, 12, .inr (.inr (.inr (.inr (zo aMr 12)))))), (aMc, .inl (K.2 0, 12, .inl mC)), (aMw, .inl (K.2 0, 12, .inl mW))] ++ zR12Z K aMr mJ) 1 12 := fun pc lv d => hE () _ rfl pc lv d
  clear hE
  unfold fX6_between at hres
  show zj G 0 [(0, .ref aM), (1, .int p0), (2, .int p1)] [] ([(aM, .inr (6, [.ref aMk, .ref aMj, .int mN, .int mS, .ref aMc, .ref aMw, .int mX, .int mT])), (aMk, .inl (K.2 0, 12, .inl mK)), (aMj, .inl (K.2 3, 12, .inr (.inr (.inr (.inr (zo aMr 12)))))), (aMc, .inl (K.2 0, 12, .inl mC)), (aMw, .inl (K.2 0, 12, .inl mW))] ++ zR12Z K aMr mJ) 0 0
  refine z_aload_n hG dX6_between_0 0 rfl ?_
  refine z_aload_n hG dX6_between_1 0 rfl ?_
  refine z_iload_n hG dX6_between_2 1 rfl ?_
  obtain ⟨v1, hv, hres⟩ := z_bind hres
  refine z_callV (As := [.int p0]) (rest := [.ref aM]) (wr := ([] : va_W)) (ws' := (fun _ : Unit => ([(aM, .inr (6, [.ref aMk, .ref aMj, .int mN, .int mS, .ref aMc, .ref aMw, .int mX, .int mT])), (aMk, .inl (K.2 0, 12, .inl mK)), (aMj, .inl (K.2 3, 12, .inr (.inr (.inr (.inr (zo aMr 12)))))), (aMc, .inl (K.2 0, 12, .inl mC)), (aMw, .inl (K.2 0, 12, .inl mW))] ++ zR12Z K aMr mJ))) (stk := (fun _ : Unit => [.int v1, .ref aM])) (kc' := 0) (ks' := 0) (n := 1) (C := RX6) (ci := 6) hG dX6_between_3 (kX6_is _ K aM aMk aMj aMc aMw aMr mN mS mX mT mK mC mW mJ p0 v1 hv) gX6_between_X6_is rfl rfl rfl ⟨rfl, by decide, by decide, rfl⟩ ⟨by decide, by decide⟩ (Nat.le_of_ble_eq_true rfl) ⟨(Nat.le_of_ble_eq_true rfl), (Nat.le_of_ble_eq_true rfl)⟩ [0, 1, 2, 3, 4, 5, 6, 7, 8, 9, 10, 11, 12, 13, 14, 15, 16] [] [0, 1, 2, 3, 4, 5, 6, 7, 8, 9, 10, 11, 12, 13, 14, 15, 16] rfl rfl rfl rfl (by decide) rfl (fun _ => rfl) (fun _ => rfl) rfl rfl rfl 0 rfl rfl rfl rfl (fun _ => ?_)
  obtain ⟨v3, hv, hres⟩ := z_bind hres
  have J : zj G 22 [(0, .ref aM), (1, .int p0), (2, .int p1)] [.int v3, .ref aM] ([(aM, .inr (6, [.ref aMk, .ref aMj, .int mN, .int mS, .ref aMc, .ref aMw, .int mX, .int mT])), (aMk, .inl (K.2 0, 12, .inl mK)), (aMj, .inl (K.2 3, 12, .inr (.inr (.inr (.inr (zo aMr 12)))))), (aMc, .inl (K.2 0, 12, .inl mC)), (aMw, .inl (K.2 0, 12, .inl mW))] ++ zR12Z K aMr mJ) 0 0 := by
    refine z_iconst 1 hG dX6_between_22 (by decide) ?_
    refine z_iconst 1 hG dX6_between_23 (by decide) ?_
    obtain ⟨v4, hv, hres⟩ := z_bind hres
    refine z_callV (As := [.int v3, .int 1, .int 1]) (rest := []) (wr := ([(aMk, .inl (K.2 0, 12, .inl mK)), (aMj, .inl (K.2 3, 12, .inr (.inr (.inr (.inr (zo aMr 12)))))), (aMc, .inl (K.2 0, 12, .inl mC)), (aMw, .inl (K.2 0, 12, .inl mW))] ++ zR12Z K aMr mJ)) (ws' := (fun _ : Unit => ([(aM, .inr (6, [.ref aMk, .ref aMj, .int mN, .int mS, .ref aMc, .ref aMw, .int mX, .int v4.2])), (aMk, .inl (K.2 0, 12, .inl mK)), (aMj, .inl (K.2 3, 12, .inr (.inr (.inr (.inr (zo aMr 12)))))), (aMc, .inl (K.2 0, 12, .inl mC)), (aMw, .inl (K.2 0, 12, .inl mW))] ++ zR12Z K aMr mJ))) (stk := (fun _ : Unit => [.int v4.1])) (kc' := 0) (ks' := 0) (n := 3) (C := RX6) (ci := 6) hG dX6_between_24 (kX6_can _ K aM aMk aMj aMc aMw mN mS mX mT v3 1 1 v4 hv) gX6_between_X6_can rfl rfl rfl ⟨rfl, by decide, by decide, rfl⟩ ⟨by decide, by decide⟩ (Nat.le_of_ble_eq_true rfl) ⟨(Nat.le_of_ble_eq_true rfl), (Nat.le_of_ble_eq_true rfl)⟩ [0] [1, 2, 3, 4, 5, 6, 7, 8, 9, 10, 11, 12, 13, 14, 15, 16] [16, 0, 1, 2, 3, 4, 5, 6, 7, 8, 9, 10, 11, 12, 13, 14, 15] rfl rfl rfl rfl (by decide) rfl (fun _ => rfl) (fun _ => rfl) rfl rfl rfl 0 rfl rfl rfl rfl (fun _ => ?_)
    refine z_if_eq 48 hG dX6_between_27 (by decide) (fun c => ?_) (fun c => ?_)
    · replace hres := z_ifp c hres
      refine z_iconst 0 hG dX6_between_48 (by decide) ?_
      obtain rfl := Option.some.inj hres
      exact (z_wid (Nat.le_of_ble_eq_true rfl) (Nat.le_of_ble_eq_true rfl) (hR _ _ dX6_between_49))
    · replace hres := z_ifn c hres
      refine z_aload_n hG dX6_between_30 0 rfl ?_
      refine z_aload_n hG dX6_between_31 0 rfl ?_
      refine z_iload_n hG dX6_between_32 1 rfl ?_
      obtain ⟨v5, hv, hres⟩ := z_bind hres
      refine z_callV (As := [.int p0]) (rest := [.ref aM]) (wr := ([] : va_W)) (ws' := (fun _ : Unit => ([(aM, .inr (6, [.ref aMk, .ref aMj, .int mN, .int mS, .ref aMc, .ref aMw, .int mX, .int v4.2])), (aMk, .inl (K.2 0, 12, .inl mK)), (aMj, .inl (K.2 3, 12, .inr (.inr (.inr (.inr (zo aMr 12)))))), (aMc, .inl (K.2 0, 12, .inl mC)), (aMw, .inl (K.2 0, 12, .inl mW))] ++ zR12Z K aMr mJ))) (stk := (fun _ : Unit => [.int v5, .ref aM])) (kc' := 0) (ks' := 0) (n := 1) (C := RX6) (ci := 6) hG dX6_between_33 (kX6_at _ K aM aMk aMj aMc aMw aMr mN mS mX v4.2 mK mC mW mJ p0 v5 hv) gX6_between_X6_at rfl rfl rfl ⟨rfl, by decide, by decide, rfl⟩ ⟨by decide, by decide⟩ (Nat.le_of_ble_eq_true rfl) ⟨(Nat.le_of_ble_eq_true rfl), (Nat.le_of_ble_eq_true rfl)⟩ [0, 1, 2, 3, 4, 5, 6, 7, 8, 9, 10, 11, 12, 13, 14, 15, 16] [] [0, 1, 2, 3, 4, 5, 6, 7, 8, 9, 10, 11, 12, 13, 14, 15, 16] rfl rfl rfl rfl (by decide) rfl (fun _ => rfl) (fun _ => rfl) rfl rfl rfl 0 rfl rfl rfl rfl (fun _ => ?_)
      obtain ⟨v6, hv, hres⟩ := z_bind hres
      refine z_callV (As := [.int v5]) (rest := []) (wr := ([] : va_W)) (ws' := (fun q7 : Nat => ([(aM, .inr (6, [.ref aMk, .ref aMj, .int mN, .int mS, .ref aMc, .ref aMw, .int mX, .int v4.2])), (aMk, .inl (K.2 0, 12, .inl mK)), (aMj, .inl (K.2 3, 12, .inr (.inr (.inr (.inr (zo aMr 12)))))), (aMc, .inl (K.2 0, 12, .inl mC)), (aMw, .inl (K.2 0, 12, .inl mW))] ++ zR12Z K aMr mJ ++ [(q7, .inl (K.2 0, 12, .inl v6))]))) (stk := (fun q7 : Nat => [.ref q7])) (kc' := 1) (ks' := 12) (n := 1) (C := RX6) (ci := 6) hG dX6_between_36 (kX6_lengths _ K aM aMk aMj aMc aMw aMr mN mS mX v4.2 mK mC mW mJ v5 v6 hv) gX6_between_X6_lengths rfl rfl rfl ⟨rfl, by decide, by decide, rfl⟩ ⟨by decide, by decide⟩ (Nat.le_of_ble_eq_true rfl) ⟨(Nat.le_of_ble_eq_true rfl), (Nat.le_of_ble_eq_true rfl)⟩ [0, 1, 2, 3, 4, 5, 6, 7, 8, 9, 10, 11, 12, 13, 14, 15, 16] [] [0, 1, 2, 3, 4, 5, 6, 7, 8, 9, 10, 11, 12, 13, 14, 15, 16, 17] rfl rfl rfl rfl (by decide) rfl (fun _ => rfl) (fun _ => rfl) rfl rfl rfl 0 rfl rfl rfl rfl (fun q7 => ?_)
      refine z_aload_n hG dX6_between_39 0 rfl ?_
      refine z_iload_n hG dX6_between_40 2 rfl ?_
      obtain ⟨v8, hv, hres⟩ := z_bind hres
      refine z_callV (As := [.int p1]) (rest := [.ref q7]) (wr := [(q7, .inl (K.2 0, 12, .inl v6))]) (ws' := (fun _ : Unit => ([(aM, .inr (6, [.ref aMk, .ref aMj, .int mN, .int mS, .ref aMc, .ref aMw, .int mX, .int v4.2])), (aMk, .inl (K.2 0, 12, .inl mK)), (aMj, .inl (K.2 3, 12, .inr (.inr (.inr (.inr (zo aMr 12)))))), (aMc, .inl (K.2 0, 12, .inl mC)), (aMw, .inl (K.2 0, 12, .inl mW))] ++ zR12Z K aMr mJ ++ [(q7, .inl (K.2 0, 12, .inl v6))]))) (stk := (fun _ : Unit => [.int v8, .ref q7])) (kc' := 1) (ks' := 12) (n := 1) (C := RX6) (ci := 6) hG dX6_between_41 (kX6_at _ K aM aMk aMj aMc aMw aMr mN mS mX v4.2 mK mC mW mJ p1 v8 hv) gX6_between_X6_at rfl rfl rfl ⟨rfl, by decide, by decide, rfl⟩ ⟨by decide, by decide⟩ (Nat.le_of_ble_eq_true rfl) ⟨(Nat.le_of_ble_eq_true rfl), (Nat.le_of_ble_eq_true rfl)⟩ [0, 1, 2, 3, 4, 5, 6, 7, 8, 9, 10, 11, 12, 13, 14, 15, 16] [17] [1, 2, 3, 4, 5, 6, 7, 8, 9, 10, 11, 12, 13, 14, 15, 16, 17, 0] rfl rfl rfl rfl (by decide) rfl (fun _ => rfl) (fun _ => rfl) rfl rfl rfl 0 rfl rfl rfl rfl (fun _ => ?_)
      obtain ⟨hg, hres⟩ := z_guard hres
      refine z_iald hG dX6_between_44 17 rfl hg ?_
      refine z_goto 49 hG dX6_between_45 (by decide) ?_
      obtain rfl := Option.some.inj hres
      exact (z_ws [0, 1, 2, 3, 4, 5, 6, 7, 8, 9, 10, 11, 12, 13, 14, 15, 16] rfl rfl (hR _ _ dX6_between_49))
  replace hres := hv
  clear hv
  refine z_if_eq 21 hG dX6_between_6 (by decide) (fun c => ?_) (fun c => ?_)
  · replace hres := z_ifp c hres
    refine z_iconst 0 hG dX6_between_21 (by decide) ?_
    obtain rfl := Option.some.inj hres
    exact J
  · replace hres := z_ifn c hres
    refine z_aload_n hG dX6_between_9 0 rfl ?_
    refine z_iload_n hG dX6_between_10 2 rfl ?_
    obtain ⟨v9, hv, hres⟩ := z_bind hres
    refine z_callV (As := [.int p1]) (rest := [.ref aM]) (wr := ([] : va_W)) (ws' := (fun _ : Unit => ([(aM, .inr (6, [.ref aMk, .ref aMj, .int mN, .int mS, .ref aMc, .ref aMw, .int mX, .int mT])), (aMk, .inl (K.2 0, 12, .inl mK)), (aMj, .inl (K.2 3, 12, .inr (.inr (.inr (.inr (zo aMr 12)))))), (aMc, .inl (K.2 0, 12, .inl mC)), (aMw, .inl (K.2 0, 12, .inl mW))] ++ zR12Z K aMr mJ))) (stk := (fun _ : Unit => [.int v9, .ref aM])) (kc' := 0) (ks' := 0) (n := 1) (C := RX6) (ci := 6) hG dX6_between_11 (kX6_is _ K aM aMk aMj aMc aMw aMr mN mS mX mT mK mC mW mJ p1 v9 hv) gX6_between_X6_is rfl rfl rfl ⟨rfl, by decide, by decide, rfl⟩ ⟨by decide, by decide⟩ (Nat.le_of_ble_eq_true rfl) ⟨(Nat.le_of_ble_eq_true rfl), (Nat.le_of_ble_eq_true rfl)⟩ [0, 1, 2, 3, 4, 5, 6, 7, 8, 9, 10, 11, 12, 13, 14, 15, 16] [] [0, 1, 2, 3, 4, 5, 6, 7, 8, 9, 10, 11, 12, 13, 14, 15, 16] rfl rfl rfl rfl (by decide) rfl (fun _ => rfl) (fun _ => rfl) rfl rfl rfl 0 rfl rfl rfl rfl (fun _ => ?_)
    refine z_if_eq 21 hG dX6_between_14 (by decide) (fun c => ?_) (fun c => ?_)
    · replace hres := z_ifp c hres
      refine z_iconst 0 hG dX6_between_21 (by decide) ?_
      obtain rfl := Option.some.inj hres
      exact J
    · replace hres := z_ifn c hres
      refine z_iconst 1 hG dX6_between_17 (by decide) ?_
      refine z_goto 22 hG dX6_between_18 (by decide) ?_
      obtain rfl := Option.some.inj hres
      exact J

theorem dX6_mean_0 : decode cX6_mean 0 = .ok (.aload_n 0, 1) := by decide +kernel
theorem dX6_mean_1 : decode cX6_mean 1 = .ok (.aload_n 0, 1) := by decide +kernel
theorem dX6_mean_2 : decode cX6_mean 2 = .ok (.getfield 18, 3) := by decide +kernel
theorem dX6_mean_5 : decode cX6_mean 5 = .ok (.ifCond .lt 7, 3) := by decide +kernel
theorem dX6_mean_8 : decode cX6_mean 8 = .ok (.iconst 1, 1) := by decide +kernel
theorem dX6_mean_9 : decode cX6_mean 9 = .ok (.goto 4, 3) := by decide +kernel
theorem dX6_mean_12 : decode cX6_mean 12 = .ok (.iconst 0, 1) := by decide +kernel
theorem dX6_mean_13 : decode cX6_mean 13 = .ok (.iconst 1, 1) := by decide +kernel
theorem dX6_mean_14 : decode cX6_mean 14 = .ok (.iconst 1, 1) := by decide +kernel
theorem dX6_mean_15 : decode cX6_mean 15 = .ok (.invokevirtual 42, 3) := by decide +kernel
theorem dX6_mean_18 : decode cX6_mean 18 = .ok (.ifCond .ne 5, 3) := by decide +kernel
theorem dX6_mean_21 : decode cX6_mean 21 = .ok (.dconst 0, 1) := by decide +kernel
theorem dX6_mean_22 : decode cX6_mean 22 = .ok (.dreturn, 1) := by decide +kernel
theorem dX6_mean_23 : decode cX6_mean 23 = .ok (.aload_n 0, 1) := by decide +kernel
theorem dX6_mean_24 : decode cX6_mean 24 = .ok (.aload_n 0, 1) := by decide +kernel
theorem dX6_mean_25 : decode cX6_mean 25 = .ok (.getfield 18, 3) := by decide +kernel
theorem dX6_mean_28 : decode cX6_mean 28 = .ok (.invokevirtual 52, 3) := by decide +kernel
theorem dX6_mean_31 : decode cX6_mean 31 = .ok (.astore_n 1, 1) := by decide +kernel
theorem dX6_mean_32 : decode cX6_mean 32 = .ok (.iconst 0, 1) := by decide +kernel
theorem dX6_mean_33 : decode cX6_mean 33 = .ok (.istore_n 2, 1) := by decide +kernel
theorem dX6_mean_34 : decode cX6_mean 34 = .ok (.iconst 0, 1) := by decide +kernel
theorem dX6_mean_35 : decode cX6_mean 35 = .ok (.istore_n 3, 1) := by decide +kernel
theorem dX6_mean_36 : decode cX6_mean 36 = .ok (.iconst 0, 1) := by decide +kernel
theorem dX6_mean_37 : decode cX6_mean 37 = .ok (.istore 4, 2) := by decide +kernel
theorem dX6_mean_39 : decode cX6_mean 39 = .ok (.iload 4, 2) := by decide +kernel
theorem dX6_mean_41 : decode cX6_mean 41 = .ok (.aload_n 0, 1) := by decide +kernel
theorem dX6_mean_42 : decode cX6_mean 42 = .ok (.getfield 31, 3) := by decide +kernel
theorem dX6_mean_45 : decode cX6_mean 45 = .ok (.if_icmp .ge 44, 3) := by decide +kernel
theorem dX6_mean_48 : decode cX6_mean 48 = .ok (.iload_n 2, 1) := by decide +kernel
theorem dX6_mean_49 : decode cX6_mean 49 = .ok (.aload_n 1, 1) := by decide +kernel
theorem dX6_mean_50 : decode cX6_mean 50 = .ok (.iload 4, 2) := by decide +kernel
theorem dX6_mean_52 : decode cX6_mean 52 = .ok (.iaload, 1) := by decide +kernel
theorem dX6_mean_53 : decode cX6_mean 53 = .ok (.iconst (-1), 1) := by decide +kernel
theorem dX6_mean_54 : decode cX6_mean 54 = .ok (.if_icmp .ne 7, 3) := by decide +kernel
theorem dX6_mean_57 : decode cX6_mean 57 = .ok (.iconst 0, 1) := by decide +kernel
theorem dX6_mean_58 : decode cX6_mean 58 = .ok (.goto 7, 3) := by decide +kernel
theorem dX6_mean_61 : decode cX6_mean 61 = .ok (.aload_n 1, 1) := by decide +kernel
theorem dX6_mean_62 : decode cX6_mean 62 = .ok (.iload 4, 2) := by decide +kernel
theorem dX6_mean_64 : decode cX6_mean 64 = .ok (.iaload, 1) := by decide +kernel
theorem dX6_mean_65 : decode cX6_mean 65 = .ok (.iadd, 1) := by decide +kernel
theorem dX6_mean_66 : decode cX6_mean 66 = .ok (.istore_n 2, 1) := by decide +kernel
theorem dX6_mean_67 : decode cX6_mean 67 = .ok (.iload_n 3, 1) := by decide +kernel
theorem dX6_mean_68 : decode cX6_mean 68 = .ok (.aload_n 1, 1) := by decide +kernel
theorem dX6_mean_69 : decode cX6_mean 69 = .ok (.iload 4, 2) := by decide +kernel
theorem dX6_mean_71 : decode cX6_mean 71 = .ok (.iaload, 1) := by decide +kernel
theorem dX6_mean_72 : decode cX6_mean 72 = .ok (.iconst (-1), 1) := by decide +kernel
theorem dX6_mean_73 : decode cX6_mean 73 = .ok (.if_icmp .ne 7, 3) := by decide +kernel
theorem dX6_mean_76 : decode cX6_mean 76 = .ok (.iconst 0, 1) := by decide +kernel
theorem dX6_mean_77 : decode cX6_mean 77 = .ok (.goto 4, 3) := by decide +kernel
theorem dX6_mean_80 : decode cX6_mean 80 = .ok (.iconst 1, 1) := by decide +kernel
theorem dX6_mean_81 : decode cX6_mean 81 = .ok (.iadd, 1) := by decide +kernel
theorem dX6_mean_82 : decode cX6_mean 82 = .ok (.istore_n 3, 1) := by decide +kernel
theorem dX6_mean_83 : decode cX6_mean 83 = .ok (.iinc 4 1, 3) := by decide +kernel
theorem dX6_mean_86 : decode cX6_mean 86 = .ok (.goto (-47), 3) := by decide +kernel
theorem dX6_mean_89 : decode cX6_mean 89 = .ok (.iload_n 2, 1) := by decide +kernel
theorem dX6_mean_90 : decode cX6_mean 90 = .ok (.i2d, 1) := by decide +kernel
theorem dX6_mean_91 : decode cX6_mean 91 = .ok (.iload_n 3, 1) := by decide +kernel
theorem dX6_mean_92 : decode cX6_mean 92 = .ok (.i2d, 1) := by decide +kernel
theorem dX6_mean_93 : decode cX6_mean 93 = .ok (.ddiv, 1) := by decide +kernel
theorem dX6_mean_94 : decode cX6_mean 94 = .ok (.dreturn, 1) := by decide +kernel
set_option maxRecDepth 20000 in
theorem ggX6_mean_X6_can : GoodIn wsX6_mean wsX6_can := goodIn_r _ [7, 8, 15, 16, 17, 18, 19, 20, 21, 22] (by decide +kernel) (by decide +kernel)
set_option maxRecDepth 20000 in
theorem gX6_mean_X6_can : GoodIn wsX6_mean (wsV RX6 42 RX6 yX6_can wsX6_can) := goodIn_app (goodIn_of _ (by decide +kernel)) ggX6_mean_X6_can
set_option maxRecDepth 20000 in
theorem ggX6_mean_X6_lengths : GoodIn wsX6_mean wsX6_lengths := goodIn_r _ [12, 13, 2, 14, 15, 16, 17, 18, 19, 20, 21, 22] (by decide +kernel) (by decide +kernel)
set_option maxRecDepth 20000 in
theorem gX6_mean_X6_lengths : GoodIn wsX6_mean (wsV RX6 52 RX6 yX6_lengths wsX6_lengths) := goodIn_app (goodIn_of _ (by decide +kernel)) ggX6_mean_X6_lengths
theorem mX6_mean_0 : Cond.fieldLink RX6 18 "LayerwaysModel" "start" "I" ∈ wsX6_mean := by decide +kernel
theorem iX6_mean_X6 : ∀ w ∈ u_ws RX6 TX6 8, w ∈ wsX6_mean := by decide +kernel
theorem mX6_mean_2 : Cond.fieldLink RX6 31 "LayerwaysModel" "many" "I" ∈ wsX6_mean := by decide +kernel
def sX6_mean_39 (mN : Int32) (v3 : (Nat → Int32)) (s7 : Int32 × Int32 × Int32) : Option ((Int32 × Int32 × Int32) ⊕ (Int32 × Int32 × Int32)) := if mN ≤ s7.2.2 then some (.inl (s7.1, s7.2.1, s7.2.2)) else if zin s7.2.2 12 then ((if (v3 s7.2.2.toNatClampNeg) = (-1) then some 0 else if zin s7.2.2 12 then some (v3 s7.2.2.toNatClampNeg) else none) : Option Int32).bind fun v11 => if zin s7.2.2 12 then if (v3 s7.2.2.toNatClampNeg) = (-1) then some (.inr ((s7.1 + v11), (s7.2.1 + 0), (s7.2.2 + 1))) else some (.inr ((s7.1 + v11), (s7.2.1 + 1), (s7.2.2 + 1))) else none else none
def fX6_mean (mN : Int32) (mS : Int32) (mJ : (Nat → Nat → Int32)) : Option (UInt64 × Int32) := ((if mS < 0 then some 0 else some 1) : Option Int32).bind fun v1 => (fX6_can v1 1 1).bind fun v2 => if v2.1 = 0 then some (FP.dconst0, v2.2) else (fX6_lengths mN mJ mS).bind fun v3 => (zloop (sX6_mean_39 mN v3) 32 (0, 0, 0)).bind fun e9 => if ((FP.ddiv (FP.i2d e9.1) (FP.i2d e9.2.1)) &&& 0x7fffffffffffffff ≤ (0x7ff0000000000000 : UInt64)) then some ((FP.ddiv (FP.i2d e9.1) (FP.i2d e9.2.1)), v2.2) else none
set_option maxRecDepth 100000 in
set_option maxHeartbeats 4000000 in
theorem kX6_mean (l : Launch) (K : zK) (aM : Nat) (aMk : Nat) (aMj : Nat) (aMc : Nat) (aMw : Nat) (aMr : (Nat → Nat))  (mN : Int32) (mS : Int32) (mX : Int32) (mT : Int32) (mK : (Nat → Int32)) (mC : (Nat → Int32)) (mW : (Nat → Int32)) (mJ : (Nat → Nat → Int32)) (r : UInt64 × Int32) (hres : fX6_mean mN mS mJ = some r) : zM l K yX6_mean wsX6_mean ({ frames := 1, cells := 1, slots := 12, locals := 25 }) [.ref aM] ([(aM, .inr (6, [.ref aMk, .ref aMj, .int mN, .int mS, .ref aMc, .ref aMw, .int mX, .int mT])), (aMk, .inl (K.2 0, 12, .inl mK)), (aMj, .inl (K.2 3, 12, .inr (.inr (.inr (.inr (zo aMr 12)))))), (aMc, .inl (K.2 0, 12, .inl mC)), (aMw, .inl (K.2 0, 12, .inl mW))] ++ zR12Z K aMr mJ) (fun _ : Unit => some (.double r.1)) (fun _ : Unit => ([(aM, .inr (6, [.ref aMk, .ref aMj, .int mN, .int mS, .ref aMc, .ref aMw, .int mX, .int r.2])), (aMk, .inl (K.2 0, 12, .inl mK)), (aMj, .inl (K.2 3, 12, .inr (.inr (.inr (.inr (zo aMr 12)))))), (aMc, .inl (K.2 0, 12, .inl mC)), (aMw, .inl (K.2 0, 12, .inl mW))] ++ zR12Z K aMr mJ)) 1 12 := by
  refine zM.intD (cc := cX6_mean) (maxL := 5) (ret := (some .double)) rfl (by decide) (Nat.le_of_ble_eq_true rfl) rfl ?_
  intro G hGl hG hN hE
  have hR : ∀ (pc : Nat) (lv : zL), decode cX6_mean pc = .ok (.dreturn, 1) → zj G pc lv [.double r.1] ([(aM, .inr (6, [.ref aMk, .ref aMj, .int mN, .int mS, .ref aMc, .ref aMw, .int mX, .int r.2])), (aMk, .inl (K.2 0, 12, .inl mK)), (aMj, .inl (K.2 3, 12, .inr (.inr (.inr (.inr (zo aMr 12)))))), (aMc, .inl (K.2 0, 12, .inl mC)), (aMw, .inl (K.2 0, 12, .inl mW))] ++ zR12Z K aMr mJ) 1 12 := fun pc lv d => hE () _ rfl pc lv d
  clear hE
  unfold fX6_mean at hres
  show zj G 0 [(0, .ref aM)] [] ([(aM, .inr (6, [.ref aMk, .ref aMj, .int mN, .int mS, .ref aMc, .ref aMw, .int mX, .int mT])), (aMk, .inl (K.2 0, 12, .inl mK)), (aMj, .inl (K.2 3, 12, .inr (.inr (.inr (.inr (zo aMr 12)))))), (aMc, .inl (K.2 0, 12, .inl mC)), (aMw, .inl (K.2 0, 12, .inl mW))] ++ zR12Z K aMr mJ) 0 0
  refine z_aload_n hG dX6_mean_0 0 rfl ?_
  refine z_aload_n hG dX6_mean_1 0 rfl ?_
  refine z_get (ci := 6) (C := RX6) (T := TX6) (N := 8) hG dX6_mean_2 iX6_mean_X6 3 (by decide) mX6_mean_0 rfl rfl 0 rfl rfl ?_
  obtain ⟨v1, hv, hres⟩ := z_bind hres
  have J : zj G 13 [(0, .ref aM)] [.int v1, .ref aM] ([(aM, .inr (6, [.ref aMk, .ref aMj, .int mN, .int mS, .ref aMc, .ref aMw, .int mX, .int mT])), (aMk, .inl (K.2 0, 12, .inl mK)), (aMj, .inl (K.2 3, 12, .inr (.inr (.inr (.inr (zo aMr 12)))))), (aMc, .inl (K.2 0, 12, .inl mC)), (aMw, .inl (K.2 0, 12, .inl mW))] ++ zR12Z K aMr mJ) 0 0 := by
    refine z_iconst 1 hG dX6_mean_13 (by decide) ?_
    refine z_iconst 1 hG dX6_mean_14 (by decide) ?_
    obtain ⟨v2, hv, hres⟩ := z_bind hres
    refine z_callV (As := [.int v1, .int 1, .int 1]) (rest := []) (wr := ([(aMk, .inl (K.2 0, 12, .inl mK)), (aMj, .inl (K.2 3, 12, .inr (.inr (.inr (.inr (zo aMr 12)))))), (aMc, .inl (K.2 0, 12, .inl mC)), (aMw, .inl (K.2 0, 12, .inl mW))] ++ zR12Z K aMr mJ)) (ws' := (fun _ : Unit => ([(aM, .inr (6, [.ref aMk, .ref aMj, .int mN, .int mS, .ref aMc, .ref aMw, .int mX, .int v2.2])), (aMk, .inl (K.2 0, 12, .inl mK)), (aMj, .inl (K.2 3, 12, .inr (.inr (.inr (.inr (zo aMr 12)))))), (aMc, .inl (K.2 0, 12, .inl mC)), (aMw, .inl (K.2 0, 12, .inl mW))] ++ zR12Z K aMr mJ))) (stk := (fun _ : Unit => [.int v2.1])) (kc' := 0) (ks' := 0) (n := 3) (C := RX6) (ci := 6) hG dX6_mean_15 (kX6_can _ K aM aMk aMj aMc aMw mN mS mX mT v1 1 1 v2 hv) gX6_mean_X6_can rfl rfl rfl ⟨rfl, by decide, by decide, rfl⟩ ⟨by decide, by decide⟩ (Nat.le_of_ble_eq_true rfl) ⟨(Nat.le_of_ble_eq_true rfl), (Nat.le_of_ble_eq_true rfl)⟩ [0] [1, 2, 3, 4, 5, 6, 7, 8, 9, 10, 11, 12, 13, 14, 15, 16] [16, 0, 1, 2, 3, 4, 5, 6, 7, 8, 9, 10, 11, 12, 13, 14, 15] rfl rfl rfl rfl (by decide) rfl (fun _ => rfl) (fun _ => rfl) rfl rfl rfl 0 rfl rfl rfl rfl (fun _ => ?_)
    refine z_if_ne 23 hG dX6_mean_18 (by decide) (fun c => ?_) (fun c => ?_)
    · replace hres := z_ifn c hres
      refine z_aload_n hG dX6_mean_23 0 rfl ?_
      refine z_aload_n hG dX6_mean_24 0 rfl ?_
      refine z_get (ci := 6) (C := RX6) (T := TX6) (N := 8) hG dX6_mean_25 iX6_mean_X6 3 (by decide) mX6_mean_0 rfl rfl 0 rfl rfl ?_
      obtain ⟨v3, hv, hres⟩ := z_bind hres
      refine z_callV (As := [.int mS]) (rest := []) (wr := ([] : va_W)) (ws' := (fun q4 : Nat => ([(aM, .inr (6, [.ref aMk, .ref aMj, .int mN, .int mS, .ref aMc, .ref aMw, .int mX, .int v2.2])), (aMk, .inl (K.2 0, 12, .inl mK)), (aMj, .inl (K.2 3, 12, .inr (.inr (.inr (.inr (zo aMr 12)))))), (aMc, .inl (K.2 0, 12, .inl mC)), (aMw, .inl (K.2 0, 12, .inl mW))] ++ zR12Z K aMr mJ ++ [(q4, .inl (K.2 0, 12, .inl v3))]))) (stk := (fun q4 : Nat => [.ref q4])) (kc' := 1) (ks' := 12) (n := 1) (C := RX6) (ci := 6) hG dX6_mean_28 (kX6_lengths _ K aM aMk aMj aMc aMw aMr mN mS mX v2.2 mK mC mW mJ mS v3 hv) gX6_mean_X6_lengths rfl rfl rfl ⟨rfl, by decide, by decide, rfl⟩ ⟨by decide, by decide⟩ (Nat.le_of_ble_eq_true rfl) ⟨(Nat.le_of_ble_eq_true rfl), (Nat.le_of_ble_eq_true rfl)⟩ [0, 1, 2, 3, 4, 5, 6, 7, 8, 9, 10, 11, 12, 13, 14, 15, 16] [] [0, 1, 2, 3, 4, 5, 6, 7, 8, 9, 10, 11, 12, 13, 14, 15, 16, 17] rfl rfl rfl rfl (by decide) rfl (fun _ => rfl) (fun _ => rfl) rfl rfl rfl 0 rfl rfl rfl rfl (fun q4 => ?_)
      refine z_astore_n (lv' := [(1, .ref q4), (0, .ref aM)]) hG dX6_mean_31 (by decide) rfl ?_
      refine z_iconst 0 hG dX6_mean_32 (by decide) ?_
      refine z_istore_n (lv' := [(2, .int 0), (1, .ref q4), (0, .ref aM)]) hG dX6_mean_33 (by decide) rfl ?_
      refine z_iconst 0 hG dX6_mean_34 (by decide) ?_
      refine z_istore_n (lv' := [(3, .int 0), (2, .int 0), (1, .ref q4), (0, .ref aM)]) hG dX6_mean_35 (by decide) rfl ?_
      refine z_iconst 0 hG dX6_mean_36 (by decide) ?_
      refine z_istore (lv' := [(4, .int 0), (3, .int 0), (2, .int 0), (1, .ref q4), (0, .ref aM)]) hG dX6_mean_37 (by decide) rfl ?_
      obtain ⟨e9, hx, hres⟩ := z_bind hres
      refine z_lv [4, 3, 2, 1, 0] (lv' := [(0, .ref aM), (1, .ref q4), (2, .int 0), (3, .int 0), (4, .int 0)]) rfl ?_
      refine z_loop hx (fun s7 : Int32 × Int32 × Int32 => [(0, .ref aM), (1, .ref q4), (2, .int s7.1), (3, .int s7.2.1), (4, .int s7.2.2)]) (fun s7 : Int32 × Int32 × Int32 => ([(aM, .inr (6, [.ref aMk, .ref aMj, .int mN, .int mS, .ref aMc, .ref aMw, .int mX, .int v2.2])), (aMk, .inl (K.2 0, 12, .inl mK)), (aMj, .inl (K.2 3, 12, .inr (.inr (.inr (.inr (zo aMr 12)))))), (aMc, .inl (K.2 0, 12, .inl mC)), (aMw, .inl (K.2 0, 12, .inl mW))] ++ zR12Z K aMr mJ ++ [(q4, .inl (K.2 0, 12, .inl v3))])) (fun e9 : Int32 × Int32 × Int32 => zj G 89 [(0, .ref aM), (1, .ref q4), (2, .int e9.1), (3, .int e9.2.1), (4, .int e9.2.2)] [] ([(aM, .inr (6, [.ref aMk, .ref aMj, .int mN, .int mS, .ref aMc, .ref aMw, .int mX, .int v2.2])), (aMk, .inl (K.2 0, 12, .inl mK)), (aMj, .inl (K.2 3, 12, .inr (.inr (.inr (.inr (zo aMr 12)))))), (aMc, .inl (K.2 0, 12, .inl mC)), (aMw, .inl (K.2 0, 12, .inl mW))] ++ zR12Z K aMr mJ ++ [(q4, .inl (K.2 0, 12, .inl v3))]) 1 12) ?_ ?_
      · refine z_iload_n hG dX6_mean_89 2 rfl ?_
        refine z_i2d hG dX6_mean_90 ?_
        refine z_iload_n hG dX6_mean_91 3 rfl ?_
        refine z_i2d hG dX6_mean_92 ?_
        obtain ⟨hg, hres⟩ := z_guard hres
        refine z_ddiv hG dX6_mean_93 hg ?_
        obtain rfl := Option.some.inj hres
        exact (z_ws [0, 1, 2, 3, 4, 5, 6, 7, 8, 9, 10, 11, 12, 13, 14, 15, 16] rfl rfl (hR _ _ dX6_mean_94))
      · intro s7 w8 hres hX hB
        unfold sX6_mean_39 at hres
        refine z_iload hG dX6_mean_39 4 rfl ?_
        refine z_aload_n hG dX6_mean_41 0 rfl ?_
        refine z_get (ci := 6) (C := RX6) (T := TX6) (N := 8) hG dX6_mean_42 iX6_mean_X6 2 (by decide) mX6_mean_2 rfl rfl 0 rfl rfl ?_
        refine z_icmp_ge 89 hG dX6_mean_45 (by decide) (fun c => ?_) (fun c => ?_)
        · replace hres := z_ifp c hres
          exact (hX (s7.1, s7.2.1, s7.2.2) (Option.some.inj hres).symm)
        · replace hres := z_ifn c hres
          refine z_iload_n hG dX6_mean_48 2 rfl ?_
          refine z_aload_n hG dX6_mean_49 1 rfl ?_
          refine z_iload hG dX6_mean_50 4 rfl ?_
          obtain ⟨hg, hres⟩ := z_guard hres
          refine z_iald hG dX6_mean_52 17 rfl hg ?_
          refine z_iconst (-1) hG dX6_mean_53 (by decide) ?_
          obtain ⟨v11, hv, hres⟩ := z_bind hres
          have J : zj G 65 [(0, .ref aM), (1, .ref q4), (2, .int s7.1), (3, .int s7.2.1), (4, .int s7.2.2)] [.int v11, .int s7.1] ([(aM, .inr (6, [.ref aMk, .ref aMj, .int mN, .int mS, .ref aMc, .ref aMw, .int mX, .int v2.2])), (aMk, .inl (K.2 0, 12, .inl mK)), (aMj, .inl (K.2 3, 12, .inr (.inr (.inr (.inr (zo aMr 12)))))), (aMc, .inl (K.2 0, 12, .inl mC)), (aMw, .inl (K.2 0, 12, .inl mW))] ++ zR12Z K aMr mJ ++ [(q4, .inl (K.2 0, 12, .inl v3))]) 1 12 := by
            refine z_iadd hG dX6_mean_65 ?_
            refine z_istore_n (lv' := [(2, .int (s7.1 + v11)), (0, .ref aM), (1, .ref q4), (3, .int s7.2.1), (4, .int s7.2.2)]) hG dX6_mean_66 (by decide) rfl ?_
            refine z_iload_n hG dX6_mean_67 3 rfl ?_
            refine z_aload_n hG dX6_mean_68 2 rfl ?_
            refine z_iload hG dX6_mean_69 4 rfl ?_
            obtain ⟨hg, hres⟩ := z_guard hres
            refine z_iald hG dX6_mean_71 17 rfl hg ?_
            refine z_iconst (-1) hG dX6_mean_72 (by decide) ?_
            refine z_icmp_ne 80 hG dX6_mean_73 (by decide) (fun c => ?_) (fun c => ?_)
            · replace hres := z_ifn c hres
              refine z_iconst 1 hG dX6_mean_80 (by decide) ?_
              refine z_iadd hG dX6_mean_81 ?_
              refine z_istore_n (lv' := [(3, .int (s7.2.1 + 1)), (2, .int (s7.1 + v11)), (0, .ref aM), (1, .ref q4), (4, .int s7.2.2)]) hG dX6_mean_82 (by decide) rfl ?_
              refine z_iinc (s7.2.2 + 1) (lv' := [(4, .int (s7.2.2 + 1)), (3, .int (s7.2.1 + 1)), (2, .int (s7.1 + v11)), (0, .ref aM), (1, .ref q4)]) hG dX6_mean_83 4 rfl rfl (by decide) rfl ?_
              refine z_goto 39 hG dX6_mean_86 (by decide) ?_
              exact (z_lv [3, 4, 2, 1, 0] rfl (hB ((s7.1 + v11), (s7.2.1 + 1), (s7.2.2 + 1)) (Option.some.inj hres).symm))
            · replace hres := z_ifp c hres
              refine z_iconst 0 hG dX6_mean_76 (by decide) ?_
              refine z_goto 81 hG dX6_mean_77 (by decide) ?_
              refine z_iadd hG dX6_mean_81 ?_
              refine z_istore_n (lv' := [(3, .int (s7.2.1 + 0)), (2, .int (s7.1 + v11)), (0, .ref aM), (1, .ref q4), (4, .int s7.2.2)]) hG dX6_mean_82 (by decide) rfl ?_
              refine z_iinc (s7.2.2 + 1) (lv' := [(4, .int (s7.2.2 + 1)), (3, .int (s7.2.1 + 0)), (2, .int (s7.1 + v11)), (0, .ref aM), (1, .ref q4)]) hG dX6_mean_83 4 rfl rfl (by decide) rfl ?_
              refine z_goto 39 hG dX6_mean_86 (by decide) ?_
              exact (z_lv [3, 4, 2, 1, 0] rfl (hB ((s7.1 + v11), (s7.2.1 + 0), (s7.2.2 + 1)) (Option.some.inj hres).symm))
          replace hres := hv
          clear hv
          refine z_icmp_ne 61 hG dX6_mean_54 (by decide) (fun c => ?_) (fun c => ?_)
          · replace hres := z_ifn c hres
            refine z_aload_n hG dX6_mean_61 1 rfl ?_
            refine z_iload hG dX6_mean_62 4 rfl ?_
            obtain ⟨hg, hres⟩ := z_guard hres
            refine z_iald hG dX6_mean_64 17 rfl hg ?_
            obtain rfl := Option.some.inj hres
            exact J
          · replace hres := z_ifp c hres
            refine z_iconst 0 hG dX6_mean_57 (by decide) ?_
            refine z_goto 65 hG dX6_mean_58 (by decide) ?_
            obtain rfl := Option.some.inj hres
            exact J
    · replace hres := z_ifp c hres
      refine z_dconst0 hG dX6_mean_21 ?_
      obtain rfl := Option.some.inj hres
      exact (z_wid (Nat.le_of_ble_eq_true rfl) (Nat.le_of_ble_eq_true rfl) (hR _ _ dX6_mean_22))
  replace hres := hv
  clear hv
  refine z_if_lt 12 hG dX6_mean_5 (by decide) (fun c => ?_) (fun c => ?_)
  · replace hres := z_ifp c hres
    refine z_iconst 0 hG dX6_mean_12 (by decide) ?_
    obtain rfl := Option.some.inj hres
    exact J
  · replace hres := z_ifn c hres
    refine z_iconst 1 hG dX6_mean_8 (by decide) ?_
    refine z_goto 13 hG dX6_mean_9 (by decide) ?_
    obtain rfl := Option.some.inj hres
    exact J
