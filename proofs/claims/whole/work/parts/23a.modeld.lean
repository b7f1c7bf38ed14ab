theorem dX6_onward_0 : decode cX6_onward 0 = .ok (.bipush 12, 2) := by decide +kernel
theorem dX6_onward_2 : decode cX6_onward 2 = .ok (.newarray .int, 2) := by decide +kernel
theorem dX6_onward_4 : decode cX6_onward 4 = .ok (.astore_n 3, 1) := by decide +kernel
theorem dX6_onward_5 : decode cX6_onward 5 = .ok (.aload_n 3, 1) := by decide +kernel
theorem dX6_onward_6 : decode cX6_onward 6 = .ok (.iload_n 2, 1) := by decide +kernel
theorem dX6_onward_7 : decode cX6_onward 7 = .ok (.aload_n 1, 1) := by decide +kernel
theorem dX6_onward_8 : decode cX6_onward 8 = .ok (.iload_n 2, 1) := by decide +kernel
theorem dX6_onward_9 : decode cX6_onward 9 = .ok (.iaload, 1) := by decide +kernel
theorem dX6_onward_10 : decode cX6_onward 10 = .ok (.iconst (-1), 1) := by decide +kernel
theorem dX6_onward_11 : decode cX6_onward 11 = .ok (.if_icmp .ne 7, 3) := by decide +kernel
theorem dX6_onward_14 : decode cX6_onward 14 = .ok (.iconst 0, 1) := by decide +kernel
theorem dX6_onward_15 : decode cX6_onward 15 = .ok (.goto 4, 3) := by decide +kernel
theorem dX6_onward_18 : decode cX6_onward 18 = .ok (.iconst 1, 1) := by decide +kernel
theorem dX6_onward_19 : decode cX6_onward 19 = .ok (.iastore, 1) := by decide +kernel
theorem dX6_onward_20 : decode cX6_onward 20 = .ok (.aload_n 1, 1) := by decide +kernel
theorem dX6_onward_21 : decode cX6_onward 21 = .ok (.iload_n 2, 1) := by decide +kernel
theorem dX6_onward_22 : decode cX6_onward 22 = .ok (.iaload, 1) := by decide +kernel
theorem dX6_onward_23 : decode cX6_onward 23 = .ok (.iconst 1, 1) := by decide +kernel
theorem dX6_onward_24 : decode cX6_onward 24 = .ok (.isub, 1) := by decide +kernel
theorem dX6_onward_25 : decode cX6_onward 25 = .ok (.istore 4, 2) := by decide +kernel
theorem dX6_onward_27 : decode cX6_onward 27 = .ok (.iload 4, 2) := by decide +kernel
theorem dX6_onward_29 : decode cX6_onward 29 = .ok (.ifCond .lt 93, 3) := by decide +kernel
theorem dX6_onward_32 : decode cX6_onward 32 = .ok (.iconst 0, 1) := by decide +kernel
theorem dX6_onward_33 : decode cX6_onward 33 = .ok (.istore 5, 2) := by decide +kernel
theorem dX6_onward_35 : decode cX6_onward 35 = .ok (.iload 5, 2) := by decide +kernel
theorem dX6_onward_37 : decode cX6_onward 37 = .ok (.aload_n 0, 1) := by decide +kernel
theorem dX6_onward_38 : decode cX6_onward 38 = .ok (.getfield 31, 3) := by decide +kernel
theorem dX6_onward_41 : decode cX6_onward 41 = .ok (.if_icmp .ge 75, 3) := by decide +kernel
theorem dX6_onward_44 : decode cX6_onward 44 = .ok (.iconst 0, 1) := by decide +kernel
theorem dX6_onward_45 : decode cX6_onward 45 = .ok (.istore 6, 2) := by decide +kernel
theorem dX6_onward_47 : decode cX6_onward 47 = .ok (.iload 6, 2) := by decide +kernel
theorem dX6_onward_49 : decode cX6_onward 49 = .ok (.aload_n 0, 1) := by decide +kernel
theorem dX6_onward_50 : decode cX6_onward 50 = .ok (.getfield 31, 3) := by decide +kernel
theorem dX6_onward_53 : decode cX6_onward 53 = .ok (.if_icmp .ge 57, 3) := by decide +kernel
theorem dX6_onward_56 : decode cX6_onward 56 = .ok (.aload_n 3, 1) := by decide +kernel
theorem dX6_onward_57 : decode cX6_onward 57 = .ok (.iload 5, 2) := by decide +kernel
theorem dX6_onward_59 : decode cX6_onward 59 = .ok (.dup2, 1) := by decide +kernel
theorem dX6_onward_60 : decode cX6_onward 60 = .ok (.iaload, 1) := by decide +kernel
theorem dX6_onward_61 : decode cX6_onward 61 = .ok (.aload_n 1, 1) := by decide +kernel
theorem dX6_onward_62 : decode cX6_onward 62 = .ok (.iload 5, 2) := by decide +kernel
theorem dX6_onward_64 : decode cX6_onward 64 = .ok (.iaload, 1) := by decide +kernel
theorem dX6_onward_65 : decode cX6_onward 65 = .ok (.iload 4, 2) := by decide +kernel
theorem dX6_onward_67 : decode cX6_onward 67 = .ok (.if_icmp .ne 34, 3) := by decide +kernel
theorem dX6_onward_70 : decode cX6_onward 70 = .ok (.aload_n 1, 1) := by decide +kernel
theorem dX6_onward_71 : decode cX6_onward 71 = .ok (.iload 6, 2) := by decide +kernel
theorem dX6_onward_73 : decode cX6_onward 73 = .ok (.iaload, 1) := by decide +kernel
theorem dX6_onward_74 : decode cX6_onward 74 = .ok (.iload 4, 2) := by decide +kernel
theorem dX6_onward_76 : decode cX6_onward 76 = .ok (.iconst 1, 1) := by decide +kernel
theorem dX6_onward_77 : decode cX6_onward 77 = .ok (.iadd, 1) := by decide +kernel
theorem dX6_onward_78 : decode cX6_onward 78 = .ok (.if_icmp .ne 23, 3) := by decide +kernel
theorem dX6_onward_81 : decode cX6_onward 81 = .ok (.aload_n 0, 1) := by decide +kernel
theorem dX6_onward_82 : decode cX6_onward 82 = .ok (.getfield 15, 3) := by decide +kernel
theorem dX6_onward_85 : decode cX6_onward 85 = .ok (.iload 5, 2) := by decide +kernel
theorem dX6_onward_87 : decode cX6_onward 87 = .ok (.aaload, 1) := by decide +kernel
theorem dX6_onward_88 : decode cX6_onward 88 = .ok (.iload 6, 2) := by decide +kernel
theorem dX6_onward_90 : decode cX6_onward 90 = .ok (.baload, 1) := by decide +kernel
theorem dX6_onward_91 : decode cX6_onward 91 = .ok (.ifCond .eq 10, 3) := by decide +kernel
theorem dX6_onward_94 : decode cX6_onward 94 = .ok (.aload_n 3, 1) := by decide +kernel
theorem dX6_onward_95 : decode cX6_onward 95 = .ok (.iload 6, 2) := by decide +kernel
theorem dX6_onward_97 : decode cX6_onward 97 = .ok (.iaload, 1) := by decide +kernel
theorem dX6_onward_98 : decode cX6_onward 98 = .ok (.goto 4, 3) := by decide +kernel
theorem dX6_onward_101 : decode cX6_onward 101 = .ok (.iconst 0, 1) := by decide +kernel
theorem dX6_onward_102 : decode cX6_onward 102 = .ok (.iadd, 1) := by decide +kernel
theorem dX6_onward_103 : decode cX6_onward 103 = .ok (.iastore, 1) := by decide +kernel
theorem dX6_onward_104 : decode cX6_onward 104 = .ok (.iinc 6 1, 3) := by decide +kernel
theorem dX6_onward_107 : decode cX6_onward 107 = .ok (.goto (-60), 3) := by decide +kernel
theorem dX6_onward_110 : decode cX6_onward 110 = .ok (.iinc 5 1, 3) := by decide +kernel
theorem dX6_onward_113 : decode cX6_onward 113 = .ok (.goto (-78), 3) := by decide +kernel
theorem dX6_onward_116 : decode cX6_onward 116 = .ok (.iinc 4 (-1), 3) := by decide +kernel
theorem dX6_onward_119 : decode cX6_onward 119 = .ok (.goto (-92), 3) := by decide +kernel
theorem dX6_onward_122 : decode cX6_onward 122 = .ok (.aload_n 3, 1) := by decide +kernel
theorem dX6_onward_123 : decode cX6_onward 123 = .ok (.areturn, 1) := by decide +kernel
theorem mX6_onward_0 : Cond.arrayClass .int ∈ wsX6_onward := by decide +kernel
theorem mX6_onward_1 : Cond.fieldLink RX6 31 "LayerwaysModel" "many" "I" ∈ wsX6_onward := by decide +kernel
theorem iX6_onward_X6 : ∀ w ∈ u_ws RX6 TX6 8, w ∈ wsX6_onward := by decide +kernel
theorem mX6_onward_3 : Cond.fieldLink RX6 15 "LayerwaysModel" "joined" "[[Z" ∈ wsX6_onward := by decide +kernel
def sX6_onward_47 (mN : Int32) (mJ : (Nat → Nat → Int32)) (pL : (Nat → Int32)) (s53 : Int32 × (Nat → Int32)) (s71 : Int32 × (Nat → Int32)) (s77 : Int32 × (Nat → Int32)) : Option ((Int32 × (Nat → Int32)) ⊕ (Int32 × (Nat → Int32))) := if mN ≤ s77.1 then some (.inl (s77.1, s77.2)) else if zin s71.1 12 then if zin s71.1 12 then if (pL s71.1.toNatClampNeg) = s53.1 then if zin s77.1 12 then if (pL s77.1.toNatClampNeg) = (s53.1 + 1) then if zin s71.1 12 then if zin s77.1 12 then if (mJ s71.1.toNatClampNeg s77.1.toNatClampNeg) = 0 then if zin s71.1 12 then some (.inr ((s77.1 + 1), (upd s77.2 s71.1.toNatClampNeg ((s77.2 s71.1.toNatClampNeg) + 0)))) else none else if zin s77.1 12 then if zin s71.1 12 then some (.inr ((s77.1 + 1), (upd s77.2 s71.1.toNatClampNeg ((s77.2 s71.1.toNatClampNeg) + (s77.2 s77.1.toNatClampNeg))))) else none else none else none else none else if zin s71.1 12 then some (.inr ((s77.1 + 1), (upd s77.2 s71.1.toNatClampNeg ((s77.2 s71.1.toNatClampNeg) + 0)))) else none else none else if zin s71.1 12 then some (.inr ((s77.1 + 1), (upd s77.2 s71.1.toNatClampNeg ((s77.2 s71.1.toNatClampNeg) + 0)))) else none else none else none
def sX6_onward_35 (mN : Int32) (mJ : (Nat → Nat → Int32)) (pL : (Nat → Int32)) (s53 : Int32 × (Nat → Int32)) (s71 : Int32 × (Nat → Int32)) : Option ((Int32 × (Nat → Int32)) ⊕ (Int32 × (Nat → Int32))) := if mN ≤ s71.1 then some (.inl (s71.1, s71.2)) else (zloop (sX6_onward_47 mN mJ pL s53 s71) 32 (0, s71.2)).bind fun e79 => some (.inr ((s71.1 + 1), e79.2))
def sX6_onward_27 (mN : Int32) (mJ : (Nat → Nat → Int32)) (pL : (Nat → Int32)) (s53 : Int32 × (Nat → Int32)) : Option ((Int32 × (Nat → Int32)) ⊕ (Int32 × (Nat → Int32))) := if s53.1 < 0 then some (.inl (s53.1, s53.2)) else (zloop (sX6_onward_35 mN mJ pL s53) 32 (0, s53.2)).bind fun e73 => some (.inr ((s53.1 + (-1)), e73.2))
def fX6_onward (mN : Int32) (mJ : (Nat → Nat → Int32)) (pL : (Nat → Int32)) (p1 : Int32) : Option ((Nat → Int32)) := if zin p1 12 then ((if (pL p1.toNatClampNeg) = (-1) then some 0 else some 1) : Option Int32).bind fun v2 => if zin p1 12 then if zin p1 12 then (zloop (sX6_onward_27 mN mJ pL) 32 (((pL p1.toNatClampNeg) - 1), (upd (fun _ => 0) p1.toNatClampNeg v2))).bind fun e55 => some e55.2 else none else none else none
set_option maxRecDepth 100000 in
set_option maxHeartbeats 4000000 in
theorem kX6_onward (l : Launch) (K : zK) (aM : Nat) (aMk : Nat) (aMj : Nat) (aMc : Nat) (aMw : Nat) (aMr : (Nat → Nat)) (aP : Nat)  (mN : Int32) (mS : Int32) (mX : Int32) (mT : Int32) (mK : (Nat → Int32)) (mC : (Nat → Int32)) (mW : (Nat → Int32)) (mJ : (Nat → Nat → Int32)) (pL : (Nat → Int32)) (p1 : Int32) (r : (Nat → Int32)) (hres : fX6_onward mN mJ pL p1 = some r) : zM l K yX6_onward wsX6_onward ({ frames := 0, cells := 1, slots := 12, locals := 0 }) [.ref aM, .ref aP, .int p1] ([(aM, .inr (6, [.ref aMk, .ref aMj, .int mN, .int mS, .ref aMc, .ref aMw, .int mX, .int mT])), (aMk, .inl (K.2 0, 12, .inl mK)), (aMj, .inl (K.2 3, 12, .inr (.inr (.inr (.inr (zo aMr 12)))))), (aMc, .inl (K.2 0, 12, .inl mC)), (aMw, .inl (K.2 0, 12, .inl mW))] ++ zR12Z K aMr mJ ++ [(aP, .inl (K.2 0, 12, .inl pL))]) (fun u : Nat => some (.ref u)) (fun u : Nat => ([(aM, .inr (6, [.ref aMk, .ref aMj, .int mN, .int mS, .ref aMc, .ref aMw, .int mX, .int mT])), (aMk, .inl (K.2 0, 12, .inl mK)), (aMj, .inl (K.2 3, 12, .inr (.inr (.inr (.inr (zo aMr 12)))))), (aMc, .inl (K.2 0, 12, .inl mC)), (aMw, .inl (K.2 0, 12, .inl mW))] ++ zR12Z K aMr mJ ++ [(aP, .inl (K.2 0, 12, .inl pL)), (u, .inl (K.2 0, 12, .inl r))])) 1 12 := by
  refine zM.intA (cc := cX6_onward) (maxL := 7) (ret := (some (.array .int))) rfl (by decide) (Nat.le_of_ble_eq_true rfl) rfl ?_
  intro G hGl hG hN hE
  have hR : ∀ (q0 : Nat) (pc : Nat) (lv : zL), decode cX6_onward pc = .ok (.areturn, 1) → zj G pc lv [.ref q0] ([(aM, .inr (6, [.ref aMk, .ref aMj, .int mN, .int mS, .ref aMc, .ref aMw, .int mX, .int mT])), (aMk, .inl (K.2 0, 12, .inl mK)), (aMj, .inl (K.2 3, 12, .inr (.inr (.inr (.inr (zo aMr 12)))))), (aMc, .inl (K.2 0, 12, .inl mC)), (aMw, .inl (K.2 0, 12, .inl mW))] ++ zR12Z K aMr mJ ++ [(aP, .inl (K.2 0, 12, .inl pL)), (q0, .inl (K.2 0, 12, .inl r))]) 1 12 := fun q0 pc lv d => hE q0 _ rfl pc lv d
  clear hE
  unfold fX6_onward at hres
  show zj G 0 [(0, .ref aM), (1, .ref aP), (2, .int p1)] [] ([(aM, .inr (6, [.ref aMk, .ref aMj, .int mN, .int mS, .ref aMc, .ref aMw, .int mX, .int mT])), (aMk, .inl (K.2 0, 12, .inl mK)), (aMj, .inl (K.2 3, 12, .inr (.inr (.inr (.inr (zo aMr 12)))))), (aMc, .inl (K.2 0, 12, .inl mC)), (aMw, .inl (K.2 0, 12, .inl mW))] ++ zR12Z K aMr mJ ++ [(aP, .inl (K.2 0, 12, .inl pL))]) 0 0
  refine z_bipush 12 hG dX6_onward_0 (by decide) ?_
  refine z_newI (ws0 := []) (N' := 12) hG dX6_onward_2 mX6_onward_0 (by decide) (by decide) (by decide) (Nat.le_of_ble_eq_true rfl) (Nat.le_of_ble_eq_true rfl) (fun q1 => ?_)
  show zj G 4 [(0, .ref aM), (1, .ref aP), (2, .int p1)] [.ref q1] ([(aM, .inr (6, [.ref aMk, .ref aMj, .int mN, .int mS, .ref aMc, .ref aMw, .int mX, .int mT])), (aMk, .inl (K.2 0, 12, .inl mK)), (aMj, .inl (K.2 3, 12, .inr (.inr (.inr (.inr (zo aMr 12)))))), (aMc, .inl (K.2 0, 12, .inl mC)), (aMw, .inl (K.2 0, 12, .inl mW))] ++ zR12Z K aMr mJ ++ [(aP, .inl (K.2 0, 12, .inl pL)), (q1, .inl (K.2 0, 12, .inl (fun _ => 0)))]) 1 12
  refine z_astore_n (lv' := [(3, .ref q1), (0, .ref aM), (1, .ref aP), (2, .int p1)]) hG dX6_onward_4 (by decide) rfl ?_
  refine z_aload_n hG dX6_onward_5 0 rfl ?_
  refine z_iload_n hG dX6_onward_6 3 rfl ?_
  refine z_aload_n hG dX6_onward_7 2 rfl ?_
  refine z_iload_n hG dX6_onward_8 3 rfl ?_
  obtain ⟨hg, hres⟩ := z_guard hres
  refine z_iald hG dX6_onward_9 17 rfl hg ?_
  refine z_iconst (-1) hG dX6_onward_10 (by decide) ?_
  obtain ⟨v2, hv, hres⟩ := z_bind hres
  have J : zj G 19 [(3, .ref q1), (0, .ref aM), (1, .ref aP), (2, .int p1)] [.int v2, .int p1, .ref q1] ([(aM, .inr (6, [.ref aMk, .ref aMj, .int mN, .int mS, .ref aMc, .ref aMw, .int mX, .int mT])), (aMk, .inl (K.2 0, 12, .inl mK)), (aMj, .inl (K.2 3, 12, .inr (.inr (.inr (.inr (zo aMr 12)))))), (aMc, .inl (K.2 0, 12, .inl mC)), (aMw, .inl (K.2 0, 12, .inl mW))] ++ zR12Z K aMr mJ ++ [(aP, .inl (K.2 0, 12, .inl pL)), (q1, .inl (K.2 0, 12, .inl (fun _ => 0)))]) 1 12 := by
    obtain ⟨hg, hres⟩ := z_guard hres
    refine z_iast (ws' := ([(aM, .inr (6, [.ref aMk, .ref aMj, .int mN, .int mS, .ref aMc, .ref aMw, .int mX, .int mT])), (aMk, .inl (K.2 0, 12, .inl mK)), (aMj, .inl (K.2 3, 12, .inr (.inr (.inr (.inr (zo aMr 12)))))), (aMc, .inl (K.2 0, 12, .inl mC)), (aMw, .inl (K.2 0, 12, .inl mW))] ++ zR12Z K aMr mJ ++ [(aP, .inl (K.2 0, 12, .inl pL)), (q1, .inl (K.2 0, 12, .inl (upd (fun _ => 0) p1.toNatClampNeg v2)))])) hG dX6_onward_19 18 rfl hg rfl ?_
    refine z_aload_n hG dX6_onward_20 2 rfl ?_
    refine z_iload_n hG dX6_onward_21 3 rfl ?_
    obtain ⟨hg, hres⟩ := z_guard hres
    refine z_iald hG dX6_onward_22 17 rfl hg ?_
    refine z_iconst 1 hG dX6_onward_23 (by decide) ?_
    refine z_isub hG dX6_onward_24 ?_
    refine z_istore (lv' := [(4, .int ((pL p1.toNatClampNeg) - 1)), (3, .ref q1), (0, .ref aM), (1, .ref aP), (2, .int p1)]) hG dX6_onward_25 (by decide) rfl ?_
    obtain ⟨e55, hx, hres⟩ := z_bind hres
    refine z_lv [2, 3, 4, 1, 0] (lv' := [(0, .ref aM), (1, .ref aP), (2, .int p1), (3, .ref q1), (4, .int ((pL p1.toNatClampNeg) - 1))]) rfl ?_
    refine z_loop hx (fun s53 : Int32 × (Nat → Int32) => [(0, .ref aM), (1, .ref aP), (2, .int p1), (3, .ref q1), (4, .int s53.1)]) (fun s53 : Int32 × (Nat → Int32) => ([(aM, .inr (6, [.ref aMk, .ref aMj, .int mN, .int mS, .ref aMc, .ref aMw, .int mX, .int mT])), (aMk, .inl (K.2 0, 12, .inl mK)), (aMj, .inl (K.2 3, 12, .inr (.inr (.inr (.inr (zo aMr 12)))))), (aMc, .inl (K.2 0, 12, .inl mC)), (aMw, .inl (K.2 0, 12, .inl mW))] ++ zR12Z K aMr mJ ++ [(aP, .inl (K.2 0, 12, .inl pL)), (q1, .inl (K.2 0, 12, .inl s53.2))])) (fun e55 : Int32 × (Nat → Int32) => zj G 122 [(0, .ref aM), (1, .ref aP), (2, .int p1), (3, .ref q1), (4, .int e55.1)] [] ([(aM, .inr (6, [.ref aMk, .ref aMj, .int mN, .int mS, .ref aMc, .ref aMw, .int mX, .int mT])), (aMk, .inl (K.2 0, 12, .inl mK)), (aMj, .inl (K.2 3, 12, .inr (.inr (.inr (.inr (zo aMr 12)))))), (aMc, .inl (K.2 0, 12, .inl mC)), (aMw, .inl (K.2 0, 12, .inl mW))] ++ zR12Z K aMr mJ ++ [(aP, .inl (K.2 0, 12, .inl pL)), (q1, .inl (K.2 0, 12, .inl e55.2))]) 1 12) ?_ ?_
    · refine z_aload_n hG dX6_onward_122 3 rfl ?_
      obtain rfl := Option.some.inj hres
      exact (hR q1 _ _ dX6_onward_123)
    · intro s53 w54 hres hX hB
      unfold sX6_onward_27 at hres
      refine z_iload hG dX6_onward_27 4 rfl ?_
      refine z_if_lt 122 hG dX6_onward_29 (by decide) (fun c => ?_) (fun c => ?_)
      · replace hres := z_ifp c hres
        exact (hX (s53.1, s53.2) (Option.some.inj hres).symm)
      · replace hres := z_ifn c hres
        refine z_iconst 0 hG dX6_onward_32 (by decide) ?_
        refine z_istore (lv' := [(5, .int 0), (0, .ref aM), (1, .ref aP), (2, .int p1), (3, .ref q1), (4, .int s53.1)]) hG dX6_onward_33 (by decide) rfl ?_
        obtain ⟨e73, hx, hres⟩ := z_bind hres
        refine z_lv [1, 2, 3, 4, 5, 0] (lv' := [(0, .ref aM), (1, .ref aP), (2, .int p1), (3, .ref q1), (4, .int s53.1), (5, .int 0)]) rfl ?_
        refine z_loop hx (fun s71 : Int32 × (Nat → Int32) => [(0, .ref aM), (1, .ref aP), (2, .int p1), (3, .ref q1), (4, .int s53.1), (5, .int s71.1)]) (fun s71 : Int32 × (Nat → Int32) => ([(aM, .inr (6, [.ref aMk, .ref aMj, .int mN, .int mS, .ref aMc, .ref aMw, .int mX, .int mT])), (aMk, .inl (K.2 0, 12, .inl mK)), (aMj, .inl (K.2 3, 12, .inr (.inr (.inr (.inr (zo aMr 12)))))), (aMc, .inl (K.2 0, 12, .inl mC)), (aMw, .inl (K.2 0, 12, .inl mW))] ++ zR12Z K aMr mJ ++ [(aP, .inl (K.2 0, 12, .inl pL)), (q1, .inl (K.2 0, 12, .inl s71.2))])) (fun e73 : Int32 × (Nat → Int32) => zj G 116 [(0, .ref aM), (1, .ref aP), (2, .int p1), (3, .ref q1), (4, .int s53.1), (5, .int e73.1)] [] ([(aM, .inr (6, [.ref aMk, .ref aMj, .int mN, .int mS, .ref aMc, .ref aMw, .int mX, .int mT])), (aMk, .inl (K.2 0, 12, .inl mK)), (aMj, .inl (K.2 3, 12, .inr (.inr (.inr (.inr (zo aMr 12)))))), (aMc, .inl (K.2 0, 12, .inl mC)), (aMw, .inl (K.2 0, 12, .inl mW))] ++ zR12Z K aMr mJ ++ [(aP, .inl (K.2 0, 12, .inl pL)), (q1, .inl (K.2 0, 12, .inl e73.2))]) 1 12) ?_ ?_
        · refine z_iinc (s53.1 + (-1)) (lv' := [(4, .int (s53.1 + (-1))), (0, .ref aM), (1, .ref aP), (2, .int p1), (3, .ref q1), (5, .int e73.1)]) hG dX6_onward_116 4 rfl rfl (by decide) rfl ?_
          refine z_goto 27 hG dX6_onward_119 (by decide) ?_
          exact (z_lv [1, 2, 3, 4, 0] rfl (hB ((s53.1 + (-1)), e73.2) (Option.some.inj hres).symm))
        · intro s71 w72 hres hX hB
          unfold sX6_onward_35 at hres
          refine z_iload hG dX6_onward_35 5 rfl ?_
          refine z_aload_n hG dX6_onward_37 0 rfl ?_
          refine z_get (ci := 6) (C := RX6) (T := TX6) (N := 8) hG dX6_onward_38 iX6_onward_X6 2 (by decide) mX6_onward_1 rfl rfl 0 rfl rfl ?_
          refine z_icmp_ge 116 hG dX6_onward_41 (by decide) (fun c => ?_) (fun c => ?_)
          · replace hres := z_ifp c hres
            exact (hX (s71.1, s71.2) (Option.some.inj hres).symm)
          · replace hres := z_ifn c hres
            refine z_iconst 0 hG dX6_onward_44 (by decide) ?_
            refine z_istore (lv' := [(6, .int 0), (0, .ref aM), (1, .ref aP), (2, .int p1), (3, .ref q1), (4, .int s53.1), (5, .int s71.1)]) hG dX6_onward_45 (by decide) rfl ?_
            obtain ⟨e79, hx, hres⟩ := z_bind hres
            refine z_lv [1, 2, 3, 4, 5, 6, 0] (lv' := [(0, .ref aM), (1, .ref aP), (2, .int p1), (3, .ref q1), (4, .int s53.1), (5, .int s71.1), (6, .int 0)]) rfl ?_
            refine z_loop hx (fun s77 : Int32 × (Nat → Int32) => [(0, .ref aM), (1, .ref aP), (2, .int p1), (3, .ref q1), (4, .int s53.1), (5, .int s71.1), (6, .int s77.1)]) (fun s77 : Int32 × (Nat → Int32) => ([(aM, .inr (6, [.ref aMk, .ref aMj, .int mN, .int mS, .ref aMc, .ref aMw, .int mX, .int mT])), (aMk, .inl (K.2 0, 12, .inl mK)), (aMj, .inl (K.2 3, 12, .inr (.inr (.inr (.inr (zo aMr 12)))))), (aMc, .inl (K.2 0, 12, .inl mC)), (aMw, .inl (K.2 0, 12, .inl mW))] ++ zR12Z K aMr mJ ++ [(aP, .inl (K.2 0, 12, .inl pL)), (q1, .inl (K.2 0, 12, .inl s77.2))])) (fun e79 : Int32 × (Nat → Int32) => zj G 110 [(0, .ref aM), (1, .ref aP), (2, .int p1), (3, .ref q1), (4, .int s53.1), (5, .int s71.1), (6, .int e79.1)] [] ([(aM, .inr (6, [.ref aMk, .ref aMj, .int mN, .int mS, .ref aMc, .ref aMw, .int mX, .int mT])), (aMk, .inl (K.2 0, 12, .inl mK)), (aMj, .inl (K.2 3, 12, .inr (.inr (.inr (.inr (zo aMr 12)))))), (aMc, .inl (K.2 0, 12, .inl mC)), (aMw, .inl (K.2 0, 12, .inl mW))] ++ zR12Z K aMr mJ ++ [(aP, .inl (K.2 0, 12, .inl pL)), (q1, .inl (K.2 0, 12, .inl e79.2))]) 1 12) ?_ ?_
            · refine z_iinc (s71.1 + 1) (lv' := [(5, .int (s71.1 + 1)), (0, .ref aM), (1, .ref aP), (2, .int p1), (3, .ref q1), (4, .int s53.1), (6, .int e79.1)]) hG dX6_onward_110 5 rfl rfl (by decide) rfl ?_
              refine z_goto 35 hG dX6_onward_113 (by decide) ?_
              exact (z_lv [1, 2, 3, 4, 5, 0] rfl (hB ((s71.1 + 1), e79.2) (Option.some.inj hres).symm))
            · intro s77 w78 hres hX hB
              unfold sX6_onward_47 at hres
              refine z_iload hG dX6_onward_47 6 rfl ?_
              refine z_aload_n hG dX6_onward_49 0 rfl ?_
              refine z_get (ci := 6) (C := RX6) (T := TX6) (N := 8) hG dX6_onward_50 iX6_onward_X6 2 (by decide) mX6_onward_1 rfl rfl 0 rfl rfl ?_
              refine z_icmp_ge 110 hG dX6_onward_53 (by decide) (fun c => ?_) (fun c => ?_)
              · replace hres := z_ifp c hres
                exact (hX (s77.1, s77.2) (Option.some.inj hres).symm)
              · replace hres := z_ifn c hres
                refine z_aload_n hG dX6_onward_56 3 rfl ?_
                refine z_iload hG dX6_onward_57 5 rfl ?_
                refine z_dup2 hG dX6_onward_59 rfl rfl ?_
                obtain ⟨hg, hres⟩ := z_guard hres
                refine z_iald hG dX6_onward_60 18 rfl hg ?_
                refine z_aload_n hG dX6_onward_61 1 rfl ?_
                refine z_iload hG dX6_onward_62 5 rfl ?_
                obtain ⟨hg, hres⟩ := z_guard hres
                refine z_iald hG dX6_onward_64 17 rfl hg ?_
                refine z_iload hG dX6_onward_65 4 rfl ?_
                refine z_icmp_ne 101 hG dX6_onward_67 (by decide) (fun c => ?_) (fun c => ?_)
                · replace hres := z_ifn c hres
                  refine z_iconst 0 hG dX6_onward_101 (by decide) ?_
                  refine z_iadd hG dX6_onward_102 ?_
                  obtain ⟨hg, hres⟩ := z_guard hres
                  refine z_iast (ws' := ([(aM, .inr (6, [.ref aMk, .ref aMj, .int mN, .int mS, .ref aMc, .ref aMw, .int mX, .int mT])), (aMk, .inl (K.2 0, 12, .inl mK)), (aMj, .inl (K.2 3, 12, .inr (.inr (.inr (.inr (zo aMr 12)))))), (aMc, .inl (K.2 0, 12, .inl mC)), (aMw, .inl (K.2 0, 12, .inl mW))] ++ zR12Z K aMr mJ ++ [(aP, .inl (K.2 0, 12, .inl pL)), (q1, .inl (K.2 0, 12, .inl (upd s77.2 s71.1.toNatClampNeg ((s77.2 s71.1.toNatClampNeg) + 0))))])) hG dX6_onward_103 18 rfl hg rfl ?_
                  refine z_iinc (s77.1 + 1) (lv' := [(6, .int (s77.1 + 1)), (0, .ref aM), (1, .ref aP), (2, .int p1), (3, .ref q1), (4, .int s53.1), (5, .int s71.1)]) hG dX6_onward_104 6 rfl rfl (by decide) rfl ?_
                  refine z_goto 47 hG dX6_onward_107 (by decide) ?_
                  exact (z_lv [1, 2, 3, 4, 5, 6, 0] rfl (hB ((s77.1 + 1), (upd s77.2 s71.1.toNatClampNeg ((s77.2 s71.1.toNatClampNeg) + 0))) (Option.some.inj hres).symm))
                · replace hres := z_ifp c hres
                  refine z_aload_n hG dX6_onward_70 1 rfl ?_
                  refine z_iload hG dX6_onward_71 6 rfl ?_
                  obtain ⟨hg, hres⟩ := z_guard hres
                  refine z_iald hG dX6_onward_73 17 rfl hg ?_
                  refine z_iload hG dX6_onward_74 4 rfl ?_
                  refine z_iconst 1 hG dX6_onward_76 (by decide) ?_
                  refine z_iadd hG dX6_onward_77 ?_
                  refine z_icmp_ne 101 hG dX6_onward_78 (by decide) (fun c => ?_) (fun c => ?_)
                  · replace hres := z_ifn c hres
                    refine z_iconst 0 hG dX6_onward_101 (by decide) ?_
                    refine z_iadd hG dX6_onward_102 ?_
                    obtain ⟨hg, hres⟩ := z_guard hres
                    refine z_iast (ws' := ([(aM, .inr (6, [.ref aMk, .ref aMj, .int mN, .int mS, .ref aMc, .ref aMw, .int mX, .int mT])), (aMk, .inl (K.2 0, 12, .inl mK)), (aMj, .inl (K.2 3, 12, .inr (.inr (.inr (.inr (zo aMr 12)))))), (aMc, .inl (K.2 0, 12, .inl mC)), (aMw, .inl (K.2 0, 12, .inl mW))] ++ zR12Z K aMr mJ ++ [(aP, .inl (K.2 0, 12, .inl pL)), (q1, .inl (K.2 0, 12, .inl (upd s77.2 s71.1.toNatClampNeg ((s77.2 s71.1.toNatClampNeg) + 0))))])) hG dX6_onward_103 18 rfl hg rfl ?_
                    refine z_iinc (s77.1 + 1) (lv' := [(6, .int (s77.1 + 1)), (0, .ref aM), (1, .ref aP), (2, .int p1), (3, .ref q1), (4, .int s53.1), (5, .int s71.1)]) hG dX6_onward_104 6 rfl rfl (by decide) rfl ?_
                    refine z_goto 47 hG dX6_onward_107 (by decide) ?_
                    exact (z_lv [1, 2, 3, 4, 5, 6, 0] rfl (hB ((s77.1 + 1), (upd s77.2 s71.1.toNatClampNeg ((s77.2 s71.1.toNatClampNeg) + 0))) (Option.some.inj hres).symm))
                  · replace hres := z_ifp c hres
                    refine z_aload_n hG dX6_onward_81 0 rfl ?_
                    refine z_get (ci := 6) (C := RX6) (T := TX6) (N := 8) hG dX6_onward_82 iX6_onward_X6 1 (by decide) mX6_onward_3 rfl rfl 0 rfl rfl ?_
                    refine z_iload hG dX6_onward_85 5 rfl ?_
                    obtain ⟨hr81, hres⟩ := z_guard hres
                    refine z_aaldZ hG dX6_onward_87 2 rfl hr81 ?_
                    refine z_iload hG dX6_onward_88 6 rfl ?_
                    obtain ⟨hg, hres⟩ := z_guard hres
                    refine z_zaldG (M := mJ) hG dX6_onward_90 5 (z_12 rfl rfl rfl rfl rfl rfl rfl rfl rfl rfl rfl rfl) hr81 hg ?_
                    refine z_if_eq 101 hG dX6_onward_91 (by decide) (fun c => ?_) (fun c => ?_)
                    · replace hres := z_ifp c hres
                      refine z_iconst 0 hG dX6_onward_101 (by decide) ?_
                      refine z_iadd hG dX6_onward_102 ?_
                      obtain ⟨hg, hres⟩ := z_guard hres
                      refine z_iast (ws' := ([(aM, .inr (6, [.ref aMk, .ref aMj, .int mN, .int mS, .ref aMc, .ref aMw, .int mX, .int mT])), (aMk, .inl (K.2 0, 12, .inl mK)), (aMj, .inl (K.2 3, 12, .inr (.inr (.inr (.inr (zo aMr 12)))))), (aMc, .inl (K.2 0, 12, .inl mC)), (aMw, .inl (K.2 0, 12, .inl mW))] ++ zR12Z K aMr mJ ++ [(aP, .inl (K.2 0, 12, .inl pL)), (q1, .inl (K.2 0, 12, .inl (upd s77.2 s71.1.toNatClampNeg ((s77.2 s71.1.toNatClampNeg) + 0))))])) hG dX6_onward_103 18 rfl hg rfl ?_
                      refine z_iinc (s77.1 + 1) (lv' := [(6, .int (s77.1 + 1)), (0, .ref aM), (1, .ref aP), (2, .int p1), (3, .ref q1), (4, .int s53.1), (5, .int s71.1)]) hG dX6_onward_104 6 rfl rfl (by decide) rfl ?_
                      refine z_goto 47 hG dX6_onward_107 (by decide) ?_
                      exact (z_lv [1, 2, 3, 4, 5, 6, 0] rfl (hB ((s77.1 + 1), (upd s77.2 s71.1.toNatClampNeg ((s77.2 s71.1.toNatClampNeg) + 0))) (Option.some.inj hres).symm))
                    · replace hres := z_ifn c hres
                      refine z_aload_n hG dX6_onward_94 3 rfl ?_
                      refine z_iload hG dX6_onward_95 6 rfl ?_
                      obtain ⟨hg, hres⟩ := z_guard hres
                      refine z_iald hG dX6_onward_97 18 rfl hg ?_
                      refine z_goto 102 hG dX6_onward_98 (by decide) ?_
                      refine z_iadd hG dX6_onward_102 ?_
                      obtain ⟨hg, hres⟩ := z_guard hres
                      refine z_iast (ws' := ([(aM, .inr (6, [.ref aMk, .ref aMj, .int mN, .int mS, .ref aMc, .ref aMw, .int mX, .int mT])), (aMk, .inl (K.2 0, 12, .inl mK)), (aMj, .inl (K.2 3, 12, .inr (.inr (.inr (.inr (zo aMr 12)))))), (aMc, .inl (K.2 0, 12, .inl mC)), (aMw, .inl (K.2 0, 12, .inl mW))] ++ zR12Z K aMr mJ ++ [(aP, .inl (K.2 0, 12, .inl pL)), (q1, .inl (K.2 0, 12, .inl (upd s77.2 s71.1.toNatClampNeg ((s77.2 s71.1.toNatClampNeg) + (s77.2 s77.1.toNatClampNeg)))))])) hG dX6_onward_103 18 rfl hg rfl ?_
                      refine z_iinc (s77.1 + 1) (lv' := [(6, .int (s77.1 + 1)), (0, .ref aM), (1, .ref aP), (2, .int p1), (3, .ref q1), (4, .int s53.1), (5, .int s71.1)]) hG dX6_onward_104 6 rfl rfl (by decide) rfl ?_
                      refine z_goto 47 hG dX6_onward_107 (by decide) ?_
                      exact (z_lv [1, 2, 3, 4, 5, 6, 0] rfl (hB ((s77.1 + 1), (upd s77.2 s71.1.toNatClampNeg ((s77.2 s71.1.toNatClampNeg) + (s77.2 s77.1.toNatClampNeg)))) (Option.some.inj hres).symm))
  replace hres := hv
  clear hv
  refine z_icmp_ne 18 hG dX6_onward_11 (by decide) (fun c => ?_) (fun c => ?_)
  · replace hres := z_ifn c hres
    refine z_iconst 1 hG dX6_onward_18 (by decide) ?_
    obtain rfl := Option.some.inj hres
    exact J
  · replace hres := z_ifp c hres
    refine z_iconst 0 hG dX6_onward_14 (by decide) ?_
    refine z_goto 19 hG dX6_onward_15 (by decide) ?_
    obtain rfl := Option.some.inj hres
    exact J

theorem dX6_allWays_0 : decode cX6_allWays 0 = .ok (.aload_n 0, 1) := by decide +kernel
theorem dX6_allWays_1 : decode cX6_allWays 1 = .ok (.aload_n 0, 1) := by decide +kernel
theorem dX6_allWays_2 : decode cX6_allWays 2 = .ok (.aload_n 0, 1) := by decide +kernel
theorem dX6_allWays_3 : decode cX6_allWays 3 = .ok (.getfield 18, 3) := by decide +kernel
theorem dX6_allWays_6 : decode cX6_allWays 6 = .ok (.invokevirtual 52, 3) := by decide +kernel
theorem dX6_allWays_9 : decode cX6_allWays 9 = .ok (.iload_n 1, 1) := by decide +kernel
theorem dX6_allWays_10 : decode cX6_allWays 10 = .ok (.invokevirtual 68, 3) := by decide +kernel
theorem dX6_allWays_13 : decode cX6_allWays 13 = .ok (.aload_n 0, 1) := by decide +kernel
theorem dX6_allWays_14 : decode cX6_allWays 14 = .ok (.getfield 18, 3) := by decide +kernel
theorem dX6_allWays_17 : decode cX6_allWays 17 = .ok (.iaload, 1) := by decide +kernel
theorem dX6_allWays_18 : decode cX6_allWays 18 = .ok (.ireturn, 1) := by decide +kernel
set_option maxRecDepth 20000 in
theorem ggX6_allWays_X6_lengths : GoodIn wsX6_allWays wsX6_lengths := goodIn_r _ [6, 7, 8, 9, 14, 15, 16, 17, 18, 19, 20, 21] (by decide +kernel) (by decide +kernel)
set_option maxRecDepth 20000 in
theorem gX6_allWays_X6_lengths : GoodIn wsX6_allWays (wsV RX6 52 RX6 yX6_lengths wsX6_lengths) := goodIn_app (goodIn_of _ (by decide +kernel)) ggX6_allWays_X6_lengths
set_option maxRecDepth 20000 in
theorem ggX6_allWays_X6_onward : GoodIn wsX6_allWays wsX6_onward := goodIn_r _ [13, 7, 8, 9, 14, 15, 16, 17, 18, 19, 20, 21] (by decide +kernel) (by decide +kernel)
set_option maxRecDepth 20000 in
theorem gX6_allWays_X6_onward : GoodIn wsX6_allWays (wsV RX6 68 RX6 yX6_onward wsX6_onward) := goodIn_app (goodIn_of _ (by decide +kernel)) ggX6_allWays_X6_onward
theorem mX6_allWays_0 : Cond.fieldLink RX6 18 "LayerwaysModel" "start" "I" ∈ wsX6_allWays := by decide +kernel
theorem iX6_allWays_X6 : ∀ w ∈ u_ws RX6 TX6 8, w ∈ wsX6_allWays := by decide +kernel
def fX6_allWays (mN : Int32) (mS : Int32) (mJ : (Nat → Nat → Int32)) (p0 : Int32) : Option (Int32) := (fX6_lengths mN mJ mS).bind fun v1 => (fX6_onward mN mJ v1 p0).bind fun v3 => if zin mS 12 then some (v3 mS.toNatClampNeg) else none
set_option maxRecDepth 100000 in
set_option maxHeartbeats 4000000 in
theorem kX6_allWays (l : Launch) (K : zK) (aM : Nat) (aMk : Nat) (aMj : Nat) (aMc : Nat) (aMw : Nat) (aMr : (Nat → Nat))  (mN : Int32) (mS : Int32) (mX : Int32) (mT : Int32) (mK : (Nat → Int32)) (mC : (Nat → Int32)) (mW : (Nat → Int32)) (mJ : (Nat → Nat → Int32)) (p0 : Int32) (r : Int32) (hres : fX6_allWays mN mS mJ p0 = some r) : zM l K yX6_allWays wsX6_allWays ({ frames := 1, cells := 2, slots := 24, locals := 26 }) [.ref aM, .int p0] ([(aM, .inr (6, [.ref aMk, .ref aMj, .int mN, .int mS, .ref aMc, .ref aMw, .int mX, .int mT])), (aMk, .inl (K.2 0, 12, .inl mK)), (aMj, .inl (K.2 3, 12, .inr (.inr (.inr (.inr (zo aMr 12)))))), (aMc, .inl (K.2 0, 12, .inl mC)), (aMw, .inl (K.2 0, 12, .inl mW))] ++ zR12Z K aMr mJ) (fun _ : Unit => some (.int r)) (fun _ : Unit => ([(aM, .inr (6, [.ref aMk, .ref aMj, .int mN, .int mS, .ref aMc, .ref aMw, .int mX, .int mT])), (aMk, .inl (K.2 0, 12, .inl mK)), (aMj, .inl (K.2 3, 12, .inr (.inr (.inr (.inr (zo aMr 12)))))), (aMc, .inl (K.2 0, 12, .inl mC)), (aMw, .inl (K.2 0, 12, .inl mW))] ++ zR12Z K aMr mJ)) 2 24 := by
  refine zM.intI (cc := cX6_allWays) (maxL := 2) (ret := (some .int)) rfl (by decide) (Nat.le_of_ble_eq_true rfl) rfl ?_
  intro G hGl hG hN hE
  have hR : ∀ (pc : Nat) (lv : zL), decode cX6_allWays pc = .ok (.ireturn, 1) → zj G pc lv [.int r] ([(aM, .inr (6, [.ref aMk, .ref aMj, .int mN, .int mS, .ref aMc, .ref aMw, .int mX, .int mT])), (aMk, .inl (K.2 0, 12, .inl mK)), (aMj, .inl (K.2 3, 12, .inr (.inr (.inr (.inr (zo aMr 12)))))), (aMc, .inl (K.2 0, 12, .inl mC)), (aMw, .inl (K.2 0, 12, .inl mW))] ++ zR12Z K aMr mJ) 2 24 := fun pc lv d => hE () _ rfl pc lv d
  clear hE
  unfold fX6_allWays at hres
  show zj G 0 [(0, .ref aM), (1, .int p0)] [] ([(aM, .inr (6, [.ref aMk, .ref aMj, .int mN, .int mS, .ref aMc, .ref aMw, .int mX, .int mT])), (aMk, .inl (K.2 0, 12, .inl mK)), (aMj, .inl (K.2 3, 12, .inr (.inr (.inr (.inr (zo aMr 12)))))), (aMc, .inl (K.2 0, 12, .inl mC)), (aMw, .inl (K.2 0, 12, .inl mW))] ++ zR12Z K aMr mJ) 0 0
  refine z_aload_n hG dX6_allWays_0 0 rfl ?_
  refine z_aload_n hG dX6_allWays_1 0 rfl ?_
  refine z_aload_n hG dX6_allWays_2 0 rfl ?_
  refine z_get (ci := 6) (C := RX6) (T := TX6) (N := 8) hG dX6_allWays_3 iX6_allWays_X6 3 (by decide) mX6_allWays_0 rfl rfl 0 rfl rfl ?_
  obtain ⟨v1, hv, hres⟩ := z_bind hres
  refine z_callV (As := [.int mS]) (rest := [.ref aM]) (wr := ([] : va_W)) (ws' := (fun q2 : Nat => ([(aM, .inr (6, [.ref aMk, .ref aMj, .int mN, .int mS, .ref aMc, .ref aMw, .int mX, .int mT])), (aMk, .inl (K.2 0, 12, .inl mK)), (aMj, .inl (K.2 3, 12, .inr (.inr (.inr (.inr (zo aMr 12)))))), (aMc, .inl (K.2 0, 12, .inl mC)), (aMw, .inl (K.2 0, 12, .inl mW))] ++ zR12Z K aMr mJ ++ [(q2, .inl (K.2 0, 12, .inl v1))]))) (stk := (fun q2 : Nat => [.ref q2, .ref aM])) (kc' := 1) (ks' := 12) (n := 1) (C := RX6) (ci := 6) hG dX6_allWays_6 (kX6_lengths _ K aM aMk aMj aMc aMw aMr mN mS mX mT mK mC mW mJ mS v1 hv) gX6_allWays_X6_lengths rfl rfl rfl ⟨rfl, by decide, by decide, rfl⟩ ⟨by decide, by decide⟩ (Nat.le_of_ble_eq_true rfl) ⟨(Nat.le_of_ble_eq_true rfl), (Nat.le_of_ble_eq_true rfl)⟩ [0, 1, 2, 3, 4, 5, 6, 7, 8, 9, 10, 11, 12, 13, 14, 15, 16] [] [0, 1, 2, 3, 4, 5, 6, 7, 8, 9, 10, 11, 12, 13, 14, 15, 16, 17] rfl rfl rfl rfl (by decide) rfl (fun _ => rfl) (fun _ => rfl) rfl rfl rfl 0 rfl rfl rfl rfl (fun q2 => ?_)
  refine z_iload_n hG dX6_allWays_9 1 rfl ?_
  obtain ⟨v3, hv, hres⟩ := z_bind hres
  refine z_callV (As := [.ref q2, .int p0]) (rest := []) (wr := ([] : va_W)) (ws' := (fun q4 : Nat => ([(aM, .inr (6, [.ref aMk, .ref aMj, .int mN, .int mS, .ref aMc, .ref aMw, .int mX, .int mT])), (aMk, .inl (K.2 0, 12, .inl mK)), (aMj, .inl (K.2 3, 12, .inr (.inr (.inr (.inr (zo aMr 12)))))), (aMc, .inl (K.2 0, 12, .inl mC)), (aMw, .inl (K.2 0, 12, .inl mW))] ++ zR12Z K aMr mJ ++ [(q2, .inl (K.2 0, 12, .inl v1)), (q4, .inl (K.2 0, 12, .inl v3))]))) (stk := (fun q4 : Nat => [.ref q4])) (kc' := 2) (ks' := 24) (n := 2) (C := RX6) (ci := 6) hG dX6_allWays_10 (kX6_onward _ K aM aMk aMj aMc aMw aMr q2 mN mS mX mT mK mC mW mJ v1 p0 v3 hv) gX6_allWays_X6_onward rfl rfl rfl ⟨rfl, by decide, by decide, rfl⟩ ⟨by decide, by decide⟩ (Nat.le_of_ble_eq_true rfl) ⟨(Nat.le_of_ble_eq_true rfl), (Nat.le_of_ble_eq_true rfl)⟩ [0, 1, 2, 3, 4, 5, 6, 7, 8, 9, 10, 11, 12, 13, 14, 15, 16, 17] [] [0, 1, 2, 3, 4, 5, 6, 7, 8, 9, 10, 11, 12, 13, 14, 15, 16, 17, 18] rfl rfl rfl rfl (by decide) rfl (fun _ => rfl) (fun _ => rfl) rfl rfl rfl 0 rfl rfl rfl rfl (fun q4 => ?_)
  refine z_aload_n hG dX6_allWays_13 0 rfl ?_
  refine z_get (ci := 6) (C := RX6) (T := TX6) (N := 8) hG dX6_allWays_14 iX6_allWays_X6 3 (by decide) mX6_allWays_0 rfl rfl 0 rfl rfl ?_
  obtain ⟨hg, hres⟩ := z_guard hres
  refine z_iald hG dX6_allWays_17 18 rfl hg ?_
  obtain rfl := Option.some.inj hres
  exact (z_ws [0, 1, 2, 3, 4, 5, 6, 7, 8, 9, 10, 11, 12, 13, 14, 15, 16] rfl rfl (hR _ _ dX6_allWays_18))

theorem dX6_ways_0 : decode cX6_ways 0 = .ok (.aload_n 0, 1) := by decide +kernel
theorem dX6_ways_1 : decode cX6_ways 1 = .ok (.aload_n 0, 1) := by decide +kernel
theorem dX6_ways_2 : decode cX6_ways 2 = .ok (.iload_n 1, 1) := by decide +kernel
theorem dX6_ways_3 : decode cX6_ways 3 = .ok (.invokevirtual 38, 3) := by decide +kernel
theorem dX6_ways_6 : decode cX6_ways 6 = .ok (.aload_n 0, 1) := by decide +kernel
theorem dX6_ways_7 : decode cX6_ways 7 = .ok (.getfield 18, 3) := by decide +kernel
theorem dX6_ways_10 : decode cX6_ways 10 = .ok (.ifCond .lt 7, 3) := by decide +kernel
theorem dX6_ways_13 : decode cX6_ways 13 = .ok (.iconst 1, 1) := by decide +kernel
theorem dX6_ways_14 : decode cX6_ways 14 = .ok (.goto 4, 3) := by decide +kernel
theorem dX6_ways_17 : decode cX6_ways 17 = .ok (.iconst 0, 1) := by decide +kernel
theorem dX6_ways_18 : decode cX6_ways 18 = .ok (.iconst 1, 1) := by decide +kernel
theorem dX6_ways_19 : decode cX6_ways 19 = .ok (.invokevirtual 42, 3) := by decide +kernel
theorem dX6_ways_22 : decode cX6_ways 22 = .ok (.ifCond .eq 15, 3) := by decide +kernel
theorem dX6_ways_25 : decode cX6_ways 25 = .ok (.aload_n 0, 1) := by decide +kernel
theorem dX6_ways_26 : decode cX6_ways 26 = .ok (.aload_n 0, 1) := by decide +kernel
theorem dX6_ways_27 : decode cX6_ways 27 = .ok (.iload_n 1, 1) := by decide +kernel
theorem dX6_ways_28 : decode cX6_ways 28 = .ok (.invokevirtual 34, 3) := by decide +kernel
theorem dX6_ways_31 : decode cX6_ways 31 = .ok (.invokevirtual 72, 3) := by decide +kernel
theorem dX6_ways_34 : decode cX6_ways 34 = .ok (.goto 4, 3) := by decide +kernel
theorem dX6_ways_37 : decode cX6_ways 37 = .ok (.iconst 0, 1) := by decide +kernel
theorem dX6_ways_38 : decode cX6_ways 38 = .ok (.ireturn, 1) := by decide +kernel
set_option maxRecDepth 20000 in
theorem ggX6_ways_X6_is : GoodIn wsX6_ways wsX6_is := goodIn_r _ [6, 7, 8, 9, 5, 10, 11, 12, 32, 33, 34, 35, 36, 37, 38, 39] (by decide +kernel) (by decide +kernel)
set_option maxRecDepth 20000 in
theorem gX6_ways_X6_is : GoodIn wsX6_ways (wsV RX6 38 RX6 yX6_is wsX6_is) := goodIn_app (goodIn_of _ (by decide +kernel)) ggX6_ways_X6_is
set_option maxRecDepth 20000 in
theorem ggX6_ways_X6_can : GoodIn wsX6_ways wsX6_can := goodIn_r _ [16, 17, 32, 33, 34, 35, 36, 37, 38, 39] (by decide +kernel) (by decide +kernel)
set_option maxRecDepth 20000 in
theorem gX6_ways_X6_can : GoodIn wsX6_ways (wsV RX6 42 RX6 yX6_can wsX6_can) := goodIn_app (goodIn_of _ (by decide +kernel)) ggX6_ways_X6_can
set_option maxRecDepth 20000 in
theorem ggX6_ways_X6_at : GoodIn wsX6_ways wsX6_at := goodIn_r _ [10, 11, 12, 32, 33, 34, 35, 36, 37, 38, 39] (by decide +kernel) (by decide +kernel)
set_option maxRecDepth 20000 in
theorem gX6_ways_X6_at : GoodIn wsX6_ways (wsV RX6 34 RX6 yX6_at wsX6_at) := goodIn_app (goodIn_of _ (by decide +kernel)) ggX6_ways_X6_at
set_option maxRecDepth 20000 in
theorem ggX6_ways_X6_allWays : GoodIn wsX6_ways wsX6_allWays := goodIn_r _ [21, 1, 22, 23, 24, 5, 25, 26, 11, 27, 28, 29, 30, 31, 32, 33, 34, 35, 36, 37, 38, 39] (by decide +kernel) (by decide +kernel)
set_option maxRecDepth 20000 in
theorem gX6_ways_X6_allWays : GoodIn wsX6_ways (wsV RX6 72 RX6 yX6_allWays wsX6_allWays) := goodIn_app (goodIn_of _ (by decide +kernel)) ggX6_ways_X6_allWays
theorem mX6_ways_0 : Cond.fieldLink RX6 18 "LayerwaysModel" "start" "I" ∈ wsX6_ways := by decide +kernel
theorem iX6_ways_X6 : ∀ w ∈ u_ws RX6 TX6 8, w ∈ wsX6_ways := by decide +kernel
def fX6_ways (mN : Int32) (mS : Int32) (mK : (Nat → Int32)) (mJ : (Nat → Nat → Int32)) (p0 : Int32) : Option (Int32 × Int32) := (fX6_is mN mK p0).bind fun v1 => ((if mS < 0 then some 0 else some 1) : Option Int32).bind fun v2 => (fX6_can v1 v2 1).bind fun v3 => if v3.1 = 0 then some (0, v3.2) else (fX6_at mN mK p0).bind fun v4 => (fX6_allWays mN mS mJ v4).bind fun v5 => some (v5, v3.2)
set_option maxRecDepth 100000 in
set_option maxHeartbeats 4000000 in
theorem kX6_ways (l : Launch) (K : zK) (aM : Nat) (aMk : Nat) (aMj : Nat) (aMc : Nat) (aMw : Nat) (aMr : (Nat → Nat))  (mN : Int32) (mS : Int32) (mX : Int32) (mT : Int32) (mK : (Nat → Int32)) (mC : (Nat → Int32)) (mW : (Nat → Int32)) (mJ : (Nat → Nat → Int32)) (p0 : Int32) (r : Int32 × Int32) (hres : fX6_ways mN mS mK mJ p0 = some r) : zM l K yX6_ways wsX6_ways ({ frames := 2, cells := 2, slots := 24, locals := 47 }) [.ref aM, .int p0] ([(aM, .inr (6, [.ref aMk, .ref aMj, .int mN, .int mS, .ref aMc, .ref aMw, .int mX, .int mT])), (aMk, .inl (K.2 0, 12, .inl mK)), (aMj, .inl (K.2 3, 12, .inr (.inr (.inr (.inr (zo aMr 12)))))), (aMc, .inl (K.2 0, 12, .inl mC)), (aMw, .inl (K.2 0, 12, .inl mW))] ++ zR12Z K aMr mJ) (fun _ : Unit => some (.int r.1)) (fun _ : Unit => ([(aM, .inr (6, [.ref aMk, .ref aMj, .int mN, .int mS, .ref aMc, .ref aMw, .int mX, .int r.2])), (aMk, .inl (K.2 0, 12, .inl mK)), (aMj, .inl (K.2 3, 12, .inr (.inr (.inr (.inr (zo aMr 12)))))), (aMc, .inl (K.2 0, 12, .inl mC)), (aMw, .inl (K.2 0, 12, .inl mW))] ++ zR12Z K aMr mJ)) 2 24 := by
  refine zM.intI (cc := cX6_ways) (maxL := 2) (ret := (some .int)) rfl (by decide) (Nat.le_of_ble_eq_true rfl) rfl ?_
  intro G hGl hG hN hE
  have hR : ∀ (pc : Nat) (lv : zL), decode cX6_ways pc = .ok (.ireturn, 1) → zj G pc lv [.int r.1] ([(aM, .inr (6, [.ref aMk, .ref aMj, .int mN, .int mS, .ref aMc, .ref aMw, .int mX, .int r.2])), (aMk, .inl (K.2 0, 12, .inl mK)), (aMj, .inl (K.2 3, 12, .inr (.inr (.inr (.inr (zo aMr 12)))))), (aMc, .inl (K.2 0, 12, .inl mC)), (aMw, .inl (K.2 0, 12, .inl mW))] ++ zR12Z K aMr mJ) 2 24 := fun pc lv d => hE () _ rfl pc lv d
  clear hE
  unfold fX6_ways at hres
  show zj G 0 [(0, .ref aM), (1, .int p0)] [] ([(aM, .inr (6, [.ref aMk, .ref aMj, .int mN, .int mS, .ref aMc, .ref aMw, .int mX, .int mT])), (aMk, .inl (K.2 0, 12, .inl mK)), (aMj, .inl (K.2 3, 12, .inr (.inr (.inr (.inr (zo aMr 12)))))), (aMc, .inl (K.2 0, 12, .inl mC)), (aMw, .inl (K.2 0, 12, .inl mW))] ++ zR12Z K aMr mJ) 0 0
  refine z_aload_n hG dX6_ways_0 0 rfl ?_
  refine z_aload_n hG dX6_ways_1 0 rfl ?_
  refine z_iload_n hG dX6_ways_2 1 rfl ?_
  obtain ⟨v1, hv, hres⟩ := z_bind hres
  refine z_callV (As := [.int p0]) (rest := [.ref aM]) (wr := ([] : va_W)) (ws' := (fun _ : Unit => ([(aM, .inr (6, [.ref aMk, .ref aMj, .int mN, .int mS, .ref aMc, .ref aMw, .int mX, .int mT])), (aMk, .inl (K.2 0, 12, .inl mK)), (aMj, .inl (K.2 3, 12, .inr (.inr (.inr (.inr (zo aMr 12)))))), (aMc, .inl (K.2 0, 12, .inl mC)), (aMw, .inl (K.2 0, 12, .inl mW))] ++ zR12Z K aMr mJ))) (stk := (fun _ : Unit => [.int v1, .ref aM])) (kc' := 0) (ks' := 0) (n := 1) (C := RX6) (ci := 6) hG dX6_ways_3 (kX6_is _ K aM aMk aMj aMc aMw aMr mN mS mX mT mK mC mW mJ p0 v1 hv) gX6_ways_X6_is rfl rfl rfl ⟨rfl, by decide, by decide, rfl⟩ ⟨by decide, by decide⟩ (Nat.le_of_ble_eq_true rfl) ⟨(Nat.le_of_ble_eq_true rfl), (Nat.le_of_ble_eq_true rfl)⟩ [0, 1, 2, 3, 4, 5, 6, 7, 8, 9, 10, 11, 12, 13, 14, 15, 16] [] [0, 1, 2, 3, 4, 5, 6, 7, 8, 9, 10, 11, 12, 13, 14, 15, 16] rfl rfl rfl rfl (by decide) rfl (fun _ => rfl) (fun _ => rfl) rfl rfl rfl 0 rfl rfl rfl rfl (fun _ => ?_)
  refine z_aload_n hG dX6_ways_6 0 rfl ?_
  refine z_get (ci := 6) (C := RX6) (T := TX6) (N := 8) hG dX6_ways_7 iX6_ways_X6 3 (by decide) mX6_ways_0 rfl rfl 0 rfl rfl ?_
  obtain ⟨v2, hv, hres⟩ := z_bind hres
  have J : zj G 18 [(0, .ref aM), (1, .int p0)] [.int v2, .int v1, .ref aM] ([(aM, .inr (6, [.ref aMk, .ref aMj, .int mN, .int mS, .ref aMc, .ref aMw, .int mX, .int mT])), (aMk, .inl (K.2 0, 12, .inl mK)), (aMj, .inl (K.2 3, 12, .inr (.inr (.inr (.inr (zo aMr 12)))))), (aMc, .inl (K.2 0, 12, .inl mC)), (aMw, .inl (K.2 0, 12, .inl mW))] ++ zR12Z K aMr mJ) 0 0 := by
    refine z_iconst 1 hG dX6_ways_18 (by decide) ?_
    obtain ⟨v3, hv, hres⟩ := z_bind hres
    refine z_callV (As := [.int v1, .int v2, .int 1]) (rest := []) (wr := ([(aMk, .inl (K.2 0, 12, .inl mK)), (aMj, .inl (K.2 3, 12, .inr (.inr (.inr (.inr (zo aMr 12)))))), (aMc, .inl (K.2 0, 12, .inl mC)), (aMw, .inl (K.2 0, 12, .inl mW))] ++ zR12Z K aMr mJ)) (ws' := (fun _ : Unit => ([(aM, .inr (6, [.ref aMk, .ref aMj, .int mN, .int mS, .ref aMc, .ref aMw, .int mX, .int v3.2])), (aMk, .inl (K.2 0, 12, .inl mK)), (aMj, .inl (K.2 3, 12, .inr (.inr (.inr (.inr (zo aMr 12)))))), (aMc, .inl (K.2 0, 12, .inl mC)), (aMw, .inl (K.2 0, 12, .inl mW))] ++ zR12Z K aMr mJ))) (stk := (fun _ : Unit => [.int v3.1])) (kc' := 0) (ks' := 0) (n := 3) (C := RX6) (ci := 6) hG dX6_ways_19 (kX6_can _ K aM aMk aMj aMc aMw mN mS mX mT v1 v2 1 v3 hv) gX6_ways_X6_can rfl rfl rfl ⟨rfl, by decide, by decide, rfl⟩ ⟨by decide, by decide⟩ (Nat.le_of_ble_eq_true rfl) ⟨(Nat.le_of_ble_eq_true rfl), (Nat.le_of_ble_eq_true rfl)⟩ [0] [1, 2, 3, 4, 5, 6, 7, 8, 9, 10, 11, 12, 13, 14, 15, 16] [16, 0, 1, 2, 3, 4, 5, 6, 7, 8, 9, 10, 11, 12, 13, 14, 15] rfl rfl rfl rfl (by decide) rfl (fun _ => rfl) (fun _ => rfl) rfl rfl rfl 0 rfl rfl rfl rfl (fun _ => ?_)
    refine z_if_eq 37 hG dX6_ways_22 (by decide) (fun c => ?_) (fun c => ?_)
    · replace hres := z_ifp c hres
      refine z_iconst 0 hG dX6_ways_37 (by decide) ?_
      obtain rfl := Option.some.inj hres
      exact (z_wid (Nat.le_of_ble_eq_true rfl) (Nat.le_of_ble_eq_true rfl) (hR _ _ dX6_ways_38))
    · replace hres := z_ifn c hres
      refine z_aload_n hG dX6_ways_25 0 rfl ?_
      refine z_aload_n hG dX6_ways_26 0 rfl ?_
      refine z_iload_n hG dX6_ways_27 1 rfl ?_
      obtain ⟨v4, hv, hres⟩ := z_bind hres
      refine z_callV (As := [.int p0]) (rest := [.ref aM]) (wr := ([] : va_W)) (ws' := (fun _ : Unit => ([(aM, .inr (6, [.ref aMk, .ref aMj, .int mN, .int mS, .ref aMc, .ref aMw, .int mX, .int v3.2])), (aMk, .inl (K.2 0, 12, .inl mK)), (aMj, .inl (K.2 3, 12, .inr (.inr (.inr (.inr (zo aMr 12)))))), (aMc, .inl (K.2 0, 12, .inl mC)), (aMw, .inl (K.2 0, 12, .inl mW))] ++ zR12Z K aMr mJ))) (stk := (fun _ : Unit => [.int v4, .ref aM])) (kc' := 0) (ks' := 0) (n := 1) (C := RX6) (ci := 6) hG dX6_ways_28 (kX6_at _ K aM aMk aMj aMc aMw aMr mN mS mX v3.2 mK mC mW mJ p0 v4 hv) gX6_ways_X6_at rfl rfl rfl ⟨rfl, by decide, by decide, rfl⟩ ⟨by decide, by decide⟩ (Nat.le_of_ble_eq_true rfl) ⟨(Nat.le_of_ble_eq_true rfl), (Nat.le_of_ble_eq_true rfl)⟩ [0, 1, 2, 3, 4, 5, 6, 7, 8, 9, 10, 11, 12, 13, 14, 15, 16] [] [0, 1, 2, 3, 4, 5, 6, 7, 8, 9, 10, 11, 12, 13, 14, 15, 16] rfl rfl rfl rfl (by decide) rfl (fun _ => rfl) (fun _ => rfl) rfl rfl rfl 0 rfl rfl rfl rfl (fun _ => ?_)
      obtain ⟨v5, hv, hres⟩ := z_bind hres
      refine z_callV (As := [.int v4]) (rest := []) (wr := ([] : va_W)) (ws' := (fun _ : Unit => ([(aM, .inr (6, [.ref aMk, .ref aMj, .int mN, .int mS, .ref aMc, .ref aMw, .int mX, .int v3.2])), (aMk, .inl (K.2 0, 12, .inl mK)), (aMj, .inl (K.2 3, 12, .inr (.inr (.inr (.inr (zo aMr 12)))))), (aMc, .inl (K.2 0, 12, .inl mC)), (aMw, .inl (K.2 0, 12, .inl mW))] ++ zR12Z K aMr mJ))) (stk := (fun _ : Unit => [.int v5])) (kc' := 2) (ks' := 24) (n := 1) (C := RX6) (ci := 6) hG dX6_ways_31 (kX6_allWays _ K aM aMk aMj aMc aMw aMr mN mS mX v3.2 mK mC mW mJ v4 v5 hv) gX6_ways_X6_allWays rfl rfl rfl ⟨rfl, by decide, by decide, rfl⟩ ⟨by decide, by decide⟩ (Nat.le_of_ble_eq_true rfl) ⟨(Nat.le_of_ble_eq_true rfl), (Nat.le_of_ble_eq_true rfl)⟩ [0, 1, 2, 3, 4, 5, 6, 7, 8, 9, 10, 11, 12, 13, 14, 15, 16] [] [0, 1, 2, 3, 4, 5, 6, 7, 8, 9, 10, 11, 12, 13, 14, 15, 16] rfl rfl rfl rfl (by decide) rfl (fun _ => rfl) (fun _ => rfl) rfl rfl rfl 0 rfl rfl rfl rfl (fun _ => ?_)
      refine z_goto 38 hG dX6_ways_34 (by decide) ?_
      obtain rfl := Option.some.inj hres
      exact (hR _ _ dX6_ways_38)
  replace hres := hv
  clear hv
  refine z_if_lt 17 hG dX6_ways_10 (by decide) (fun c => ?_) (fun c => ?_)
  · replace hres := z_ifp c hres
    refine z_iconst 0 hG dX6_ways_17 (by decide) ?_
    obtain rfl := Option.some.inj hres
    exact J
  · replace hres := z_ifn c hres
    refine z_iconst 1 hG dX6_ways_13 (by decide) ?_
    refine z_goto 18 hG dX6_ways_14 (by decide) ?_
    obtain rfl := Option.some.inj hres
    exact J
