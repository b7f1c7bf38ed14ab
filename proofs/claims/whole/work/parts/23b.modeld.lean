theorem dX6_wayAt_0 : decode cX6_wayAt 0 = .ok (.aload_n 0, 1) := by decide +kernel
theorem dX6_wayAt_1 : decode cX6_wayAt 1 = .ok (.aload_n 0, 1) := by decide +kernel
theorem dX6_wayAt_2 : decode cX6_wayAt 2 = .ok (.iload_n 1, 1) := by decide +kernel
theorem dX6_wayAt_3 : decode cX6_wayAt 3 = .ok (.invokevirtual 38, 3) := by decide +kernel
theorem dX6_wayAt_6 : decode cX6_wayAt 6 = .ok (.aload_n 0, 1) := by decide +kernel
theorem dX6_wayAt_7 : decode cX6_wayAt 7 = .ok (.getfield 18, 3) := by decide +kernel
theorem dX6_wayAt_10 : decode cX6_wayAt 10 = .ok (.ifCond .lt 7, 3) := by decide +kernel
theorem dX6_wayAt_13 : decode cX6_wayAt 13 = .ok (.iconst 1, 1) := by decide +kernel
theorem dX6_wayAt_14 : decode cX6_wayAt 14 = .ok (.goto 4, 3) := by decide +kernel
theorem dX6_wayAt_17 : decode cX6_wayAt 17 = .ok (.iconst 0, 1) := by decide +kernel
theorem dX6_wayAt_18 : decode cX6_wayAt 18 = .ok (.iconst 1, 1) := by decide +kernel
theorem dX6_wayAt_19 : decode cX6_wayAt 19 = .ok (.invokevirtual 42, 3) := by decide +kernel
theorem dX6_wayAt_22 : decode cX6_wayAt 22 = .ok (.ifCond .ne 5, 3) := by decide +kernel
theorem dX6_wayAt_25 : decode cX6_wayAt 25 = .ok (.iconst 0, 1) := by decide +kernel
theorem dX6_wayAt_26 : decode cX6_wayAt 26 = .ok (.ireturn, 1) := by decide +kernel
theorem dX6_wayAt_27 : decode cX6_wayAt 27 = .ok (.aload_n 0, 1) := by decide +kernel
theorem dX6_wayAt_28 : decode cX6_wayAt 28 = .ok (.aload_n 0, 1) := by decide +kernel
theorem dX6_wayAt_29 : decode cX6_wayAt 29 = .ok (.getfield 18, 3) := by decide +kernel
theorem dX6_wayAt_32 : decode cX6_wayAt 32 = .ok (.invokevirtual 52, 3) := by decide +kernel
theorem dX6_wayAt_35 : decode cX6_wayAt 35 = .ok (.astore 4, 2) := by decide +kernel
theorem dX6_wayAt_37 : decode cX6_wayAt 37 = .ok (.aload_n 0, 1) := by decide +kernel
theorem dX6_wayAt_38 : decode cX6_wayAt 38 = .ok (.aload 4, 2) := by decide +kernel
theorem dX6_wayAt_40 : decode cX6_wayAt 40 = .ok (.aload_n 0, 1) := by decide +kernel
theorem dX6_wayAt_41 : decode cX6_wayAt 41 = .ok (.iload_n 1, 1) := by decide +kernel
theorem dX6_wayAt_42 : decode cX6_wayAt 42 = .ok (.invokevirtual 34, 3) := by decide +kernel
theorem dX6_wayAt_45 : decode cX6_wayAt 45 = .ok (.invokevirtual 68, 3) := by decide +kernel
theorem dX6_wayAt_48 : decode cX6_wayAt 48 = .ok (.astore 5, 2) := by decide +kernel
theorem dX6_wayAt_50 : decode cX6_wayAt 50 = .ok (.aload_n 0, 1) := by decide +kernel
theorem dX6_wayAt_51 : decode cX6_wayAt 51 = .ok (.iconst 1, 1) := by decide +kernel
theorem dX6_wayAt_52 : decode cX6_wayAt 52 = .ok (.iconst 1, 1) := by decide +kernel
theorem dX6_wayAt_53 : decode cX6_wayAt 53 = .ok (.iload_n 2, 1) := by decide +kernel
theorem dX6_wayAt_54 : decode cX6_wayAt 54 = .ok (.ifCond .lt 34, 3) := by decide +kernel
theorem dX6_wayAt_57 : decode cX6_wayAt 57 = .ok (.iload_n 2, 1) := by decide +kernel
theorem dX6_wayAt_58 : decode cX6_wayAt 58 = .ok (.aload 5, 2) := by decide +kernel
theorem dX6_wayAt_60 : decode cX6_wayAt 60 = .ok (.aload_n 0, 1) := by decide +kernel
theorem dX6_wayAt_61 : decode cX6_wayAt 61 = .ok (.getfield 18, 3) := by decide +kernel
theorem dX6_wayAt_64 : decode cX6_wayAt 64 = .ok (.iaload, 1) := by decide +kernel
theorem dX6_wayAt_65 : decode cX6_wayAt 65 = .ok (.if_icmp .ge 23, 3) := by decide +kernel
theorem dX6_wayAt_68 : decode cX6_wayAt 68 = .ok (.iload_n 3, 1) := by decide +kernel
theorem dX6_wayAt_69 : decode cX6_wayAt 69 = .ok (.ifCond .lt 19, 3) := by decide +kernel
theorem dX6_wayAt_72 : decode cX6_wayAt 72 = .ok (.iload_n 3, 1) := by decide +kernel
theorem dX6_wayAt_73 : decode cX6_wayAt 73 = .ok (.aload 4, 2) := by decide +kernel
theorem dX6_wayAt_75 : decode cX6_wayAt 75 = .ok (.aload_n 0, 1) := by decide +kernel
theorem dX6_wayAt_76 : decode cX6_wayAt 76 = .ok (.iload_n 1, 1) := by decide +kernel
theorem dX6_wayAt_77 : decode cX6_wayAt 77 = .ok (.invokevirtual 34, 3) := by decide +kernel
theorem dX6_wayAt_80 : decode cX6_wayAt 80 = .ok (.iaload, 1) := by decide +kernel
theorem dX6_wayAt_81 : decode cX6_wayAt 81 = .ok (.if_icmp .gt 7, 3) := by decide +kernel
theorem dX6_wayAt_84 : decode cX6_wayAt 84 = .ok (.iconst 1, 1) := by decide +kernel
theorem dX6_wayAt_85 : decode cX6_wayAt 85 = .ok (.goto 4, 3) := by decide +kernel
theorem dX6_wayAt_88 : decode cX6_wayAt 88 = .ok (.iconst 0, 1) := by decide +kernel
theorem dX6_wayAt_89 : decode cX6_wayAt 89 = .ok (.invokevirtual 42, 3) := by decide +kernel
theorem dX6_wayAt_92 : decode cX6_wayAt 92 = .ok (.ifCond .ne 5, 3) := by decide +kernel
theorem dX6_wayAt_95 : decode cX6_wayAt 95 = .ok (.iconst 0, 1) := by decide +kernel
theorem dX6_wayAt_96 : decode cX6_wayAt 96 = .ok (.ireturn, 1) := by decide +kernel
theorem dX6_wayAt_97 : decode cX6_wayAt 97 = .ok (.aload_n 0, 1) := by decide +kernel
theorem dX6_wayAt_98 : decode cX6_wayAt 98 = .ok (.getfield 18, 3) := by decide +kernel
theorem dX6_wayAt_101 : decode cX6_wayAt 101 = .ok (.istore 6, 2) := by decide +kernel
theorem dX6_wayAt_103 : decode cX6_wayAt 103 = .ok (.iload_n 2, 1) := by decide +kernel
theorem dX6_wayAt_104 : decode cX6_wayAt 104 = .ok (.istore 7, 2) := by decide +kernel
theorem dX6_wayAt_106 : decode cX6_wayAt 106 = .ok (.iconst 1, 1) := by decide +kernel
theorem dX6_wayAt_107 : decode cX6_wayAt 107 = .ok (.istore 8, 2) := by decide +kernel
theorem dX6_wayAt_109 : decode cX6_wayAt 109 = .ok (.iload 8, 2) := by decide +kernel
theorem dX6_wayAt_111 : decode cX6_wayAt 111 = .ok (.iload_n 3, 1) := by decide +kernel
theorem dX6_wayAt_112 : decode cX6_wayAt 112 = .ok (.if_icmp .gt 101, 3) := by decide +kernel
theorem dX6_wayAt_115 : decode cX6_wayAt 115 = .ok (.iconst (-1), 1) := by decide +kernel
theorem dX6_wayAt_116 : decode cX6_wayAt 116 = .ok (.istore 9, 2) := by decide +kernel
theorem dX6_wayAt_118 : decode cX6_wayAt 118 = .ok (.iconst 0, 1) := by decide +kernel
theorem dX6_wayAt_119 : decode cX6_wayAt 119 = .ok (.istore 10, 2) := by decide +kernel
theorem dX6_wayAt_121 : decode cX6_wayAt 121 = .ok (.iload 10, 2) := by decide +kernel
theorem dX6_wayAt_123 : decode cX6_wayAt 123 = .ok (.aload_n 0, 1) := by decide +kernel
theorem dX6_wayAt_124 : decode cX6_wayAt 124 = .ok (.getfield 31, 3) := by decide +kernel
theorem dX6_wayAt_127 : decode cX6_wayAt 127 = .ok (.if_icmp .ge 76, 3) := by decide +kernel
theorem dX6_wayAt_130 : decode cX6_wayAt 130 = .ok (.iload 9, 2) := by decide +kernel
theorem dX6_wayAt_132 : decode cX6_wayAt 132 = .ok (.iconst (-1), 1) := by decide +kernel
theorem dX6_wayAt_133 : decode cX6_wayAt 133 = .ok (.if_icmp .ne 70, 3) := by decide +kernel
theorem dX6_wayAt_136 : decode cX6_wayAt 136 = .ok (.aload_n 0, 1) := by decide +kernel
theorem dX6_wayAt_137 : decode cX6_wayAt 137 = .ok (.getfield 15, 3) := by decide +kernel
theorem dX6_wayAt_140 : decode cX6_wayAt 140 = .ok (.iload 6, 2) := by decide +kernel
theorem dX6_wayAt_142 : decode cX6_wayAt 142 = .ok (.aaload, 1) := by decide +kernel
theorem dX6_wayAt_143 : decode cX6_wayAt 143 = .ok (.iload 10, 2) := by decide +kernel
theorem dX6_wayAt_145 : decode cX6_wayAt 145 = .ok (.baload, 1) := by decide +kernel
theorem dX6_wayAt_146 : decode cX6_wayAt 146 = .ok (.ifCond .eq 51, 3) := by decide +kernel
theorem dX6_wayAt_149 : decode cX6_wayAt 149 = .ok (.aload 4, 2) := by decide +kernel
theorem dX6_wayAt_151 : decode cX6_wayAt 151 = .ok (.iload 10, 2) := by decide +kernel
theorem dX6_wayAt_153 : decode cX6_wayAt 153 = .ok (.iaload, 1) := by decide +kernel
theorem dX6_wayAt_154 : decode cX6_wayAt 154 = .ok (.iload 8, 2) := by decide +kernel
theorem dX6_wayAt_156 : decode cX6_wayAt 156 = .ok (.if_icmp .ne 41, 3) := by decide +kernel
theorem dX6_wayAt_159 : decode cX6_wayAt 159 = .ok (.iload 7, 2) := by decide +kernel
theorem dX6_wayAt_161 : decode cX6_wayAt 161 = .ok (.aload 5, 2) := by decide +kernel
theorem dX6_wayAt_163 : decode cX6_wayAt 163 = .ok (.iload 10, 2) := by decide +kernel
theorem dX6_wayAt_165 : decode cX6_wayAt 165 = .ok (.iaload, 1) := by decide +kernel
theorem dX6_wayAt_166 : decode cX6_wayAt 166 = .ok (.if_icmp .ge 8, 3) := by decide +kernel
theorem dX6_wayAt_169 : decode cX6_wayAt 169 = .ok (.iload 10, 2) := by decide +kernel
theorem dX6_wayAt_171 : decode cX6_wayAt 171 = .ok (.goto 4, 3) := by decide +kernel
theorem dX6_wayAt_174 : decode cX6_wayAt 174 = .ok (.iconst (-1), 1) := by decide +kernel
theorem dX6_wayAt_175 : decode cX6_wayAt 175 = .ok (.istore 9, 2) := by decide +kernel
theorem dX6_wayAt_177 : decode cX6_wayAt 177 = .ok (.iload 7, 2) := by decide +kernel
theorem dX6_wayAt_179 : decode cX6_wayAt 179 = .ok (.iload 9, 2) := by decide +kernel
theorem dX6_wayAt_181 : decode cX6_wayAt 181 = .ok (.iconst (-1), 1) := by decide +kernel
theorem dX6_wayAt_182 : decode cX6_wayAt 182 = .ok (.if_icmp .ne 11, 3) := by decide +kernel
theorem dX6_wayAt_185 : decode cX6_wayAt 185 = .ok (.aload 5, 2) := by decide +kernel
theorem dX6_wayAt_187 : decode cX6_wayAt 187 = .ok (.iload 10, 2) := by decide +kernel
theorem dX6_wayAt_189 : decode cX6_wayAt 189 = .ok (.iaload, 1) := by decide +kernel
theorem dX6_wayAt_190 : decode cX6_wayAt 190 = .ok (.goto 4, 3) := by decide +kernel
theorem dX6_wayAt_193 : decode cX6_wayAt 193 = .ok (.iconst 0, 1) := by decide +kernel
theorem dX6_wayAt_194 : decode cX6_wayAt 194 = .ok (.isub, 1) := by decide +kernel
theorem dX6_wayAt_195 : decode cX6_wayAt 195 = .ok (.istore 7, 2) := by decide +kernel
theorem dX6_wayAt_197 : decode cX6_wayAt 197 = .ok (.iinc 10 1, 3) := by decide +kernel
theorem dX6_wayAt_200 : decode cX6_wayAt 200 = .ok (.goto (-79), 3) := by decide +kernel
theorem dX6_wayAt_203 : decode cX6_wayAt 203 = .ok (.iload 9, 2) := by decide +kernel
theorem dX6_wayAt_205 : decode cX6_wayAt 205 = .ok (.istore 6, 2) := by decide +kernel
theorem dX6_wayAt_207 : decode cX6_wayAt 207 = .ok (.iinc 8 1, 3) := by decide +kernel
theorem dX6_wayAt_210 : decode cX6_wayAt 210 = .ok (.goto (-101), 3) := by decide +kernel
theorem dX6_wayAt_213 : decode cX6_wayAt 213 = .ok (.aload_n 0, 1) := by decide +kernel
theorem dX6_wayAt_214 : decode cX6_wayAt 214 = .ok (.getfield 9, 3) := by decide +kernel
theorem dX6_wayAt_217 : decode cX6_wayAt 217 = .ok (.iload 6, 2) := by decide +kernel
theorem dX6_wayAt_219 : decode cX6_wayAt 219 = .ok (.iaload, 1) := by decide +kernel
theorem dX6_wayAt_220 : decode cX6_wayAt 220 = .ok (.ireturn, 1) := by decide +kernel
set_option maxRecDepth 20000 in
theorem ggX6_wayAt_X6_is : GoodIn wsX6_wayAt wsX6_is := goodIn_r _ [9, 10, 11, 12, 8, 13, 2, 4, 28, 29, 30, 31, 32, 33, 34, 35] (by decide +kernel) (by decide +kernel)
set_option maxRecDepth 20000 in
theorem gX6_wayAt_X6_is : GoodIn wsX6_wayAt (wsV RX6 38 RX6 yX6_is wsX6_is) := goodIn_app (goodIn_of _ (by decide +kernel)) ggX6_wayAt_X6_is
set_option maxRecDepth 20000 in
theorem ggX6_wayAt_X6_can : GoodIn wsX6_wayAt wsX6_can := goodIn_r _ [17, 18, 28, 29, 30, 31, 32, 33, 34, 35] (by decide +kernel) (by decide +kernel)
set_option maxRecDepth 20000 in
theorem gX6_wayAt_X6_can : GoodIn wsX6_wayAt (wsV RX6 42 RX6 yX6_can wsX6_can) := goodIn_app (goodIn_of _ (by decide +kernel)) ggX6_wayAt_X6_can
set_option maxRecDepth 20000 in
theorem ggX6_wayAt_X6_lengths : GoodIn wsX6_wayAt wsX6_lengths := goodIn_r _ [22, 23, 2, 3, 28, 29, 30, 31, 32, 33, 34, 35] (by decide +kernel) (by decide +kernel)
set_option maxRecDepth 20000 in
theorem gX6_wayAt_X6_lengths : GoodIn wsX6_wayAt (wsV RX6 52 RX6 yX6_lengths wsX6_lengths) := goodIn_app (goodIn_of _ (by decide +kernel)) ggX6_wayAt_X6_lengths
set_option maxRecDepth 20000 in
theorem ggX6_wayAt_X6_at : GoodIn wsX6_wayAt wsX6_at := goodIn_r _ [13, 2, 4, 28, 29, 30, 31, 32, 33, 34, 35] (by decide +kernel) (by decide +kernel)
set_option maxRecDepth 20000 in
theorem gX6_wayAt_X6_at : GoodIn wsX6_wayAt (wsV RX6 34 RX6 yX6_at wsX6_at) := goodIn_app (goodIn_of _ (by decide +kernel)) ggX6_wayAt_X6_at
set_option maxRecDepth 20000 in
theorem ggX6_wayAt_X6_onward : GoodIn wsX6_wayAt wsX6_onward := goodIn_r _ [27, 23, 2, 3, 28, 29, 30, 31, 32, 33, 34, 35] (by decide +kernel) (by decide +kernel)
set_option maxRecDepth 20000 in
theorem gX6_wayAt_X6_onward : GoodIn wsX6_wayAt (wsV RX6 68 RX6 yX6_onward wsX6_onward) := goodIn_app (goodIn_of _ (by decide +kernel)) ggX6_wayAt_X6_onward
theorem mX6_wayAt_0 : Cond.fieldLink RX6 18 "LayerwaysModel" "start" "I" ∈ wsX6_wayAt := by decide +kernel
theorem iX6_wayAt_X6 : ∀ w ∈ u_ws RX6 TX6 8, w ∈ wsX6_wayAt := by decide +kernel
theorem mX6_wayAt_2 : Cond.fieldLink RX6 31 "LayerwaysModel" "many" "I" ∈ wsX6_wayAt := by decide +kernel
theorem mX6_wayAt_3 : Cond.fieldLink RX6 15 "LayerwaysModel" "joined" "[[Z" ∈ wsX6_wayAt := by decide +kernel
theorem mX6_wayAt_4 : Cond.fieldLink RX6 9 "LayerwaysModel" "keys" "[I" ∈ wsX6_wayAt := by decide +kernel
def sX6_wayAt_121 (mN : Int32) (mJ : (Nat → Nat → Int32)) (v4 : (Nat → Int32)) (v7 : (Nat → Int32)) (s32 : Int32 × Int32 × Int32) (s40 : Int32 × Int32 × Int32) : Option ((Int32 × Int32 × Int32) ⊕ (Int32 × Int32 × Int32)) := if mN ≤ s40.2.2 then some (.inl (s40.1, s40.2.1, s40.2.2)) else if s40.2.1 = (-1) then if zin s32.1 12 then if zin s40.2.2 12 then if (mJ s32.1.toNatClampNeg s40.2.2.toNatClampNeg) = 0 then some (.inr (s40.1, s40.2.1, (s40.2.2 + 1))) else if zin s40.2.2 12 then if (v4 s40.2.2.toNatClampNeg) = s32.2.2 then if zin s40.2.2 12 then ((if (v7 s40.2.2.toNatClampNeg) ≤ s40.1 then some (-1) else some s40.2.2) : Option Int32).bind fun v45 => if v45 = (-1) then if zin s40.2.2 12 then some (.inr ((s40.1 - (v7 s40.2.2.toNatClampNeg)), v45, (s40.2.2 + 1))) else none else some (.inr ((s40.1 - 0), v45, (s40.2.2 + 1))) else none else some (.inr (s40.1, s40.2.1, (s40.2.2 + 1))) else none else none else none else some (.inl (s40.1, s40.2.1, s40.2.2))
def sX6_wayAt_109 (mN : Int32) (mJ : (Nat → Nat → Int32)) (p2 : Int32) (v4 : (Nat → Int32)) (v7 : (Nat → Int32)) (s32 : Int32 × Int32 × Int32) : Option ((Int32 × Int32 × Int32) ⊕ (Int32 × Int32 × Int32)) := if p2 < s32.2.2 then some (.inl (s32.1, s32.2.1, s32.2.2)) else (zloop (sX6_wayAt_121 mN mJ v4 v7 s32) 32 (s32.2.1, (-1), 0)).bind fun e42 => some (.inr (e42.2.1, e42.1, (s32.2.2 + 1)))
def fX6_wayAt (mN : Int32) (mS : Int32) (mK : (Nat → Int32)) (mJ : (Nat → Nat → Int32)) (p0 : Int32) (p1 : Int32) (p2 : Int32) : Option (Int32 × Int32) := (fX6_is mN mK p0).bind fun v1 => ((if mS < 0 then some 0 else some 1) : Option Int32).bind fun v2 => (fX6_can v1 v2 1).bind fun v3 => if v3.1 = 0 then some (0, v3.2) else (fX6_lengths mN mJ mS).bind fun v4 => (fX6_at mN mK p0).bind fun v6 => (fX6_onward mN mJ v4 v6).bind fun v7 => ((if p1 < 0 then some 0 else if zin mS 12 then if (v7 mS.toNatClampNeg) ≤ p1 then some 0 else if p2 < 0 then some 0 else (fX6_at mN mK p0).bind fun v46 => if zin v46 12 then if (v4 v46.toNatClampNeg) < p2 then some 0 else some 1 else none else none) : Option Int32).bind fun v10 => (fX6_can 1 1 v10).bind fun v11 => if v11.1 = 0 then some (0, v11.2) else (zloop (sX6_wayAt_109 mN mJ p2 v4 v7) 32 (mS, p1, 1)).bind fun e34 => if zin e34.1 12 then some ((mK e34.1.toNatClampNeg), v11.2) else none
set_option maxRecDepth 100000 in
set_option maxHeartbeats 4000000 in
theorem kX6_wayAt (l : Launch) (K : zK) (aM : Nat) (aMk : Nat) (aMj : Nat) (aMc : Nat) (aMw : Nat) (aMr : (Nat → Nat))  (mN : Int32) (mS : Int32) (mX : Int32) (mT : Int32) (mK : (Nat → Int32)) (mC : (Nat → Int32)) (mW : (Nat → Int32)) (mJ : (Nat → Nat → Int32)) (p0 : Int32) (p1 : Int32) (p2 : Int32) (r : Int32 × Int32) (hres : fX6_wayAt mN mS mK mJ p0 p1 p2 = some r) : zM l K yX6_wayAt wsX6_wayAt ({ frames := 2, cells := 2, slots := 24, locals := 43 }) [.ref aM, .int p0, .int p1, .int p2] ([(aM, .inr (6, [.ref aMk, .ref aMj, .int mN, .int mS, .ref aMc, .ref aMw, .int mX, .int mT])), (aMk, .inl (K.2 0, 12, .inl mK)), (aMj, .inl (K.2 3, 12, .inr (.inr (.inr (.inr (zo aMr 12)))))), (aMc, .inl (K.2 0, 12, .inl mC)), (aMw, .inl (K.2 0, 12, .inl mW))] ++ zR12Z K aMr mJ) (fun _ : Unit => some (.int r.1)) (fun _ : Unit => ([(aM, .inr (6, [.ref aMk, .ref aMj, .int mN, .int mS, .ref aMc, .ref aMw, .int mX, .int r.2])), (aMk, .inl (K.2 0, 12, .inl mK)), (aMj, .inl (K.2 3, 12, .inr (.inr (.inr (.inr (zo aMr 12)))))), (aMc, .inl (K.2 0, 12, .inl mC)), (aMw, .inl (K.2 0, 12, .inl mW))] ++ zR12Z K aMr mJ)) 2 24 := by
  refine zM.intI (cc := cX6_wayAt) (maxL := 11) (ret := (some .int)) rfl (by decide) (Nat.le_of_ble_eq_true rfl) rfl ?_
  intro G hGl hG hN hE
  have hR : ∀ (pc : Nat) (lv : zL), decode cX6_wayAt pc = .ok (.ireturn, 1) → zj G pc lv [.int r.1] ([(aM, .inr (6, [.ref aMk, .ref aMj, .int mN, .int mS, .ref aMc, .ref aMw, .int mX, .int r.2])), (aMk, .inl (K.2 0, 12, .inl mK)), (aMj, .inl (K.2 3, 12, .inr (.inr (.inr (.inr (zo aMr 12)))))), (aMc, .inl (K.2 0, 12, .inl mC)), (aMw, .inl (K.2 0, 12, .inl mW))] ++ zR12Z K aMr mJ) 2 24 := fun pc lv d => hE () _ rfl pc lv d
  clear hE
  unfold fX6_wayAt at hres
  show zj G 0 [(0, .ref aM), (1, .int p0), (2, .int p1), (3, .int p2)] [] ([(aM, .inr (6, [.ref aMk, .ref aMj, .int mN, .int mS, .ref aMc, .ref aMw, .int mX, .int mT])), (aMk, .inl (K.2 0, 12, .inl mK)), (aMj, .inl (K.2 3, 12, .inr (.inr (.inr (.inr (zo aMr 12)))))), (aMc, .inl (K.2 0, 12, .inl mC)), (aMw, .inl (K.2 0, 12, .inl mW))] ++ zR12Z K aMr mJ) 0 0
  refine z_aload_n hG dX6_wayAt_0 0 rfl ?_
  refine z_aload_n hG dX6_wayAt_1 0 rfl ?_
  refine z_iload_n hG dX6_wayAt_2 1 rfl ?_
  obtain ⟨v1, hv, hres⟩ := z_bind hres
  refine z_callV (As := [.int p0]) (rest := [.ref aM]) (wr := ([] : va_W)) (ws' := (fun _ : Unit => ([(aM, .inr (6, [.ref aMk, .ref aMj, .int mN, .int mS, .ref aMc, .ref aMw, .int mX, .int mT])), (aMk, .inl (K.2 0, 12, .inl mK)), (aMj, .inl (K.2 3, 12, .inr (.inr (.inr (.inr (zo aMr 12)))))), (aMc, .inl (K.2 0, 12, .inl mC)), (aMw, .inl (K.2 0, 12, .inl mW))] ++ zR12Z K aMr mJ))) (stk := (fun _ : Unit => [.int v1, .ref aM])) (kc' := 0) (ks' := 0) (n := 1) (C := RX6) (ci := 6) hG dX6_wayAt_3 (kX6_is _ K aM aMk aMj aMc aMw aMr mN mS mX mT mK mC mW mJ p0 v1 hv) gX6_wayAt_X6_is rfl rfl rfl ⟨rfl, by decide, by decide, rfl⟩ ⟨by decide, by decide⟩ (Nat.le_of_ble_eq_true rfl) ⟨(Nat.le_of_ble_eq_true rfl), (Nat.le_of_ble_eq_true rfl)⟩ [0, 1, 2, 3, 4, 5, 6, 7, 8, 9, 10, 11, 12, 13, 14, 15, 16] [] [0, 1, 2, 3, 4, 5, 6, 7, 8, 9, 10, 11, 12, 13, 14, 15, 16] rfl rfl rfl rfl (by decide) rfl (fun _ => rfl) (fun _ => rfl) rfl rfl rfl 0 rfl rfl rfl rfl (fun _ => ?_)
  refine z_aload_n hG dX6_wayAt_6 0 rfl ?_
  refine z_get (ci := 6) (C := RX6) (T := TX6) (N := 8) hG dX6_wayAt_7 iX6_wayAt_X6 3 (by decide) mX6_wayAt_0 rfl rfl 0 rfl rfl ?_
  obtain ⟨v2, hv, hres⟩ := z_bind hres
  have J : zj G 18 [(0, .ref aM), (1, .int p0), (2, .int p1), (3, .int p2)] [.int v2, .int v1, .ref aM] ([(aM, .inr (6, [.ref aMk, .ref aMj, .int mN, .int mS, .ref aMc, .ref aMw, .int mX, .int mT])), (aMk, .inl (K.2 0, 12, .inl mK)), (aMj, .inl (K.2 3, 12, .inr (.inr (.inr (.inr (zo aMr 12)))))), (aMc, .inl (K.2 0, 12, .inl mC)), (aMw, .inl (K.2 0, 12, .inl mW))] ++ zR12Z K aMr mJ) 0 0 := by
    refine z_iconst 1 hG dX6_wayAt_18 (by decide) ?_
    obtain ⟨v3, hv, hres⟩ := z_bind hres
    refine z_callV (As := [.int v1, .int v2, .int 1]) (rest := []) (wr := ([(aMk, .inl (K.2 0, 12, .inl mK)), (aMj, .inl (K.2 3, 12, .inr (.inr (.inr (.inr (zo aMr 12)))))), (aMc, .inl (K.2 0, 12, .inl mC)), (aMw, .inl (K.2 0, 12, .inl mW))] ++ zR12Z K aMr mJ)) (ws' := (fun _ : Unit => ([(aM, .inr (6, [.ref aMk, .ref aMj, .int mN, .int mS, .ref aMc, .ref aMw, .int mX, .int v3.2])), (aMk, .inl (K.2 0, 12, .inl mK)), (aMj, .inl (K.2 3, 12, .inr (.inr (.inr (.inr (zo aMr 12)))))), (aMc, .inl (K.2 0, 12, .inl mC)), (aMw, .inl (K.2 0, 12, .inl mW))] ++ zR12Z K aMr mJ))) (stk := (fun _ : Unit => [.int v3.1])) (kc' := 0) (ks' := 0) (n := 3) (C := RX6) (ci := 6) hG dX6_wayAt_19 (kX6_can _ K aM aMk aMj aMc aMw mN mS mX mT v1 v2 1 v3 hv) gX6_wayAt_X6_can rfl rfl rfl ⟨rfl, by decide, by decide, rfl⟩ ⟨by decide, by decide⟩ (Nat.le_of_ble_eq_true rfl) ⟨(Nat.le_of_ble_eq_true rfl), (Nat.le_of_ble_eq_true rfl)⟩ [0] [1, 2, 3, 4, 5, 6, 7, 8, 9, 10, 11, 12, 13, 14, 15, 16] [16, 0, 1, 2, 3, 4, 5, 6, 7, 8, 9, 10, 11, 12, 13, 14, 15] rfl rfl rfl rfl (by decide) rfl (fun _ => rfl) (fun _ => rfl) rfl rfl rfl 0 rfl rfl rfl rfl (fun _ => ?_)
    refine z_if_ne 27 hG dX6_wayAt_22 (by decide) (fun c => ?_) (fun c => ?_)
    · replace hres := z_ifn c hres
      refine z_aload_n hG dX6_wayAt_27 0 rfl ?_
      refine z_aload_n hG dX6_wayAt_28 0 rfl ?_
      refine z_get (ci := 6) (C := RX6) (T := TX6) (N := 8) hG dX6_wayAt_29 iX6_wayAt_X6 3 (by decide) mX6_wayAt_0 rfl rfl 0 rfl rfl ?_
      obtain ⟨v4, hv, hres⟩ := z_bind hres
      refine z_callV (As := [.int mS]) (rest := []) (wr := ([] : va_W)) (ws' := (fun q5 : Nat => ([(aM, .inr (6, [.ref aMk, .ref aMj, .int mN, .int mS, .ref aMc, .ref aMw, .int mX, .int v3.2])), (aMk, .inl (K.2 0, 12, .inl mK)), (aMj, .inl (K.2 3, 12, .inr (.inr (.inr (.inr (zo aMr 12)))))), (aMc, .inl (K.2 0, 12, .inl mC)), (aMw, .inl (K.2 0, 12, .inl mW))] ++ zR12Z K aMr mJ ++ [(q5, .inl (K.2 0, 12, .inl v4))]))) (stk := (fun q5 : Nat => [.ref q5])) (kc' := 1) (ks' := 12) (n := 1) (C := RX6) (ci := 6) hG dX6_wayAt_32 (kX6_lengths _ K aM aMk aMj aMc aMw aMr mN mS mX v3.2 mK mC mW mJ mS v4 hv) gX6_wayAt_X6_lengths rfl rfl rfl ⟨rfl, by decide, by decide, rfl⟩ ⟨by decide, by decide⟩ (Nat.le_of_ble_eq_true rfl) ⟨(Nat.le_of_ble_eq_true rfl), (Nat.le_of_ble_eq_true rfl)⟩ [0, 1, 2, 3, 4, 5, 6, 7, 8, 9, 10, 11, 12, 13, 14, 15, 16] [] [0, 1, 2, 3, 4, 5, 6, 7, 8, 9, 10, 11, 12, 13, 14, 15, 16, 17] rfl rfl rfl rfl (by decide) rfl (fun _ => rfl) (fun _ => rfl) rfl rfl rfl 0 rfl rfl rfl rfl (fun q5 => ?_)
      refine z_astore (lv' := [(4, .ref q5), (0, .ref aM), (1, .int p0), (2, .int p1), (3, .int p2)]) hG dX6_wayAt_35 (by decide) rfl ?_
      refine z_aload_n hG dX6_wayAt_37 1 rfl ?_
      refine z_aload hG dX6_wayAt_38 0 rfl ?_
      refine z_aload_n hG dX6_wayAt_40 1 rfl ?_
      refine z_iload_n hG dX6_wayAt_41 2 rfl ?_
      obtain ⟨v6, hv, hres⟩ := z_bind hres
      refine z_callV (As := [.int p0]) (rest := [.ref q5, .ref aM]) (wr := [(q5, .inl (K.2 0, 12, .inl v4))]) (ws' := (fun _ : Unit => ([(aM, .inr (6, [.ref aMk, .ref aMj, .int mN, .int mS, .ref aMc, .ref aMw, .int mX, .int v3.2])), (aMk, .inl (K.2 0, 12, .inl mK)), (aMj, .inl (K.2 3, 12, .inr (.inr (.inr (.inr (zo aMr 12)))))), (aMc, .inl (K.2 0, 12, .inl mC)), (aMw, .inl (K.2 0, 12, .inl mW))] ++ zR12Z K aMr mJ ++ [(q5, .inl (K.2 0, 12, .inl v4))]))) (stk := (fun _ : Unit => [.int v6, .ref q5, .ref aM])) (kc' := 1) (ks' := 12) (n := 1) (C := RX6) (ci := 6) hG dX6_wayAt_42 (kX6_at _ K aM aMk aMj aMc aMw aMr mN mS mX v3.2 mK mC mW mJ p0 v6 hv) gX6_wayAt_X6_at rfl rfl rfl ⟨rfl, by decide, by decide, rfl⟩ ⟨by decide, by decide⟩ (Nat.le_of_ble_eq_true rfl) ⟨(Nat.le_of_ble_eq_true rfl), (Nat.le_of_ble_eq_true rfl)⟩ [0, 1, 2, 3, 4, 5, 6, 7, 8, 9, 10, 11, 12, 13, 14, 15, 16] [17] [1, 2, 3, 4, 5, 6, 7, 8, 9, 10, 11, 12, 13, 14, 15, 16, 17, 0] rfl rfl rfl rfl (by decide) rfl (fun _ => rfl) (fun _ => rfl) rfl rfl rfl 0 rfl rfl rfl rfl (fun _ => ?_)
      obtain ⟨v7, hv, hres⟩ := z_bind hres
      refine z_callV (As := [.ref q5, .int v6]) (rest := []) (wr := ([] : va_W)) (ws' := (fun q8 : Nat => ([(aM, .inr (6, [.ref aMk, .ref aMj, .int mN, .int mS, .ref aMc, .ref aMw, .int mX, .int v3.2])), (aMk, .inl (K.2 0, 12, .inl mK)), (aMj, .inl (K.2 3, 12, .inr (.inr (.inr (.inr (zo aMr 12)))))), (aMc, .inl (K.2 0, 12, .inl mC)), (aMw, .inl (K.2 0, 12, .inl mW))] ++ zR12Z K aMr mJ ++ [(q5, .inl (K.2 0, 12, .inl v4)), (q8, .inl (K.2 0, 12, .inl v7))]))) (stk := (fun q8 : Nat => [.ref q8])) (kc' := 2) (ks' := 24) (n := 2) (C := RX6) (ci := 6) hG dX6_wayAt_45 (kX6_onward _ K aM aMk aMj aMc aMw aMr q5 mN mS mX v3.2 mK mC mW mJ v4 v6 v7 hv) gX6_wayAt_X6_onward rfl rfl rfl ⟨rfl, by decide, by decide, rfl⟩ ⟨by decide, by decide⟩ (Nat.le_of_ble_eq_true rfl) ⟨(Nat.le_of_ble_eq_true rfl), (Nat.le_of_ble_eq_true rfl)⟩ [0, 1, 2, 3, 4, 5, 6, 7, 8, 9, 10, 11, 12, 13, 14, 15, 16, 17] [] [0, 1, 2, 3, 4, 5, 6, 7, 8, 9, 10, 11, 12, 13, 14, 15, 16, 17, 18] rfl rfl rfl rfl (by decide) rfl (fun _ => rfl) (fun _ => rfl) rfl rfl rfl 0 rfl rfl rfl rfl (fun q8 => ?_)
      refine z_astore (lv' := [(5, .ref q8), (4, .ref q5), (0, .ref aM), (1, .int p0), (2, .int p1), (3, .int p2)]) hG dX6_wayAt_48 (by decide) rfl ?_
      refine z_aload_n hG dX6_wayAt_50 2 rfl ?_
      refine z_iconst 1 hG dX6_wayAt_51 (by decide) ?_
      refine z_iconst 1 hG dX6_wayAt_52 (by decide) ?_
      refine z_iload_n hG dX6_wayAt_53 4 rfl ?_
      obtain ⟨v10, hv, hres⟩ := z_bind hres
      have J : zj G 89 [(5, .ref q8), (4, .ref q5), (0, .ref aM), (1, .int p0), (2, .int p1), (3, .int p2)] [.int v10, .int 1, .int 1, .ref aM] ([(aM, .inr (6, [.ref aMk, .ref aMj, .int mN, .int mS, .ref aMc, .ref aMw, .int mX, .int v3.2])), (aMk, .inl (K.2 0, 12, .inl mK)), (aMj, .inl (K.2 3, 12, .inr (.inr (.inr (.inr (zo aMr 12)))))), (aMc, .inl (K.2 0, 12, .inl mC)), (aMw, .inl (K.2 0, 12, .inl mW))] ++ zR12Z K aMr mJ ++ [(q5, .inl (K.2 0, 12, .inl v4)), (q8, .inl (K.2 0, 12, .inl v7))]) 2 24 := by
        obtain ⟨v11, hv, hres⟩ := z_bind hres
        refine z_callV (As := [.int 1, .int 1, .int v10]) (rest := []) (wr := ([(aMk, .inl (K.2 0, 12, .inl mK)), (aMj, .inl (K.2 3, 12, .inr (.inr (.inr (.inr (zo aMr 12)))))), (aMc, .inl (K.2 0, 12, .inl mC)), (aMw, .inl (K.2 0, 12, .inl mW))] ++ zR12Z K aMr mJ ++ [(q5, .inl (K.2 0, 12, .inl v4)), (q8, .inl (K.2 0, 12, .inl v7))])) (ws' := (fun _ : Unit => ([(aM, .inr (6, [.ref aMk, .ref aMj, .int mN, .int mS, .ref aMc, .ref aMw, .int mX, .int v11.2])), (aMk, .inl (K.2 0, 12, .inl mK)), (aMj, .inl (K.2 3, 12, .inr (.inr (.inr (.inr (zo aMr 12)))))), (aMc, .inl (K.2 0, 12, .inl mC)), (aMw, .inl (K.2 0, 12, .inl mW))] ++ zR12Z K aMr mJ ++ [(q5, .inl (K.2 0, 12, .inl v4)), (q8, .inl (K.2 0, 12, .inl v7))]))) (stk := (fun _ : Unit => [.int v11.1])) (kc' := 2) (ks' := 24) (n := 3) (C := RX6) (ci := 6) hG dX6_wayAt_89 (kX6_can _ K aM aMk aMj aMc aMw mN mS mX v3.2 1 1 v10 v11 hv) gX6_wayAt_X6_can rfl rfl rfl ⟨rfl, by decide, by decide, rfl⟩ ⟨by decide, by decide⟩ (Nat.le_of_ble_eq_true rfl) ⟨(Nat.le_of_ble_eq_true rfl), (Nat.le_of_ble_eq_true rfl)⟩ [0] [1, 2, 3, 4, 5, 6, 7, 8, 9, 10, 11, 12, 13, 14, 15, 16, 17, 18] [18, 0, 1, 2, 3, 4, 5, 6, 7, 8, 9, 10, 11, 12, 13, 14, 15, 16, 17] rfl rfl rfl rfl (by decide) rfl (fun _ => rfl) (fun _ => rfl) rfl rfl rfl 0 rfl rfl rfl rfl (fun _ => ?_)
        refine z_if_ne 97 hG dX6_wayAt_92 (by decide) (fun c => ?_) (fun c => ?_)
        · replace hres := z_ifn c hres
          refine z_aload_n hG dX6_wayAt_97 2 rfl ?_
          refine z_get (ci := 6) (C := RX6) (T := TX6) (N := 8) hG dX6_wayAt_98 iX6_wayAt_X6 3 (by decide) mX6_wayAt_0 rfl rfl 0 rfl rfl ?_
          refine z_istore (lv' := [(6, .int mS), (5, .ref q8), (4, .ref q5), (0, .ref aM), (1, .int p0), (2, .int p1), (3, .int p2)]) hG dX6_wayAt_101 (by decide) rfl ?_
          refine z_iload_n hG dX6_wayAt_103 5 rfl ?_
          refine z_istore (lv' := [(7, .int p1), (6, .int mS), (5, .ref q8), (4, .ref q5), (0, .ref aM), (1, .int p0), (2, .int p1), (3, .int p2)]) hG dX6_wayAt_104 (by decide) rfl ?_
          refine z_iconst 1 hG dX6_wayAt_106 (by decide) ?_
          refine z_istore (lv' := [(8, .int 1), (7, .int p1), (6, .int mS), (5, .ref q8), (4, .ref q5), (0, .ref aM), (1, .int p0), (2, .int p1), (3, .int p2)]) hG dX6_wayAt_107 (by decide) rfl ?_
          obtain ⟨e34, hx, hres⟩ := z_bind hres
          refine z_lv [5, 6, 7, 8, 4, 3, 2, 1, 0] (lv' := [(0, .ref aM), (1, .int p0), (2, .int p1), (3, .int p2), (4, .ref q5), (5, .ref q8), (6, .int mS), (7, .int p1), (8, .int 1)]) rfl ?_
          refine z_loop hx (fun s32 : Int32 × Int32 × Int32 => [(0, .ref aM), (1, .int p0), (2, .int p1), (3, .int p2), (4, .ref q5), (5, .ref q8), (6, .int s32.1), (7, .int s32.2.1), (8, .int s32.2.2)]) (fun s32 : Int32 × Int32 × Int32 => ([(aM, .inr (6, [.ref aMk, .ref aMj, .int mN, .int mS, .ref aMc, .ref aMw, .int mX, .int v11.2])), (aMk, .inl (K.2 0, 12, .inl mK)), (aMj, .inl (K.2 3, 12, .inr (.inr (.inr (.inr (zo aMr 12)))))), (aMc, .inl (K.2 0, 12, .inl mC)), (aMw, .inl (K.2 0, 12, .inl mW))] ++ zR12Z K aMr mJ ++ [(q5, .inl (K.2 0, 12, .inl v4)), (q8, .inl (K.2 0, 12, .inl v7))])) (fun e34 : Int32 × Int32 × Int32 => zj G 213 [(0, .ref aM), (1, .int p0), (2, .int p1), (3, .int p2), (4, .ref q5), (5, .ref q8), (6, .int e34.1), (7, .int e34.2.1), (8, .int e34.2.2)] [] ([(aM, .inr (6, [.ref aMk, .ref aMj, .int mN, .int mS, .ref aMc, .ref aMw, .int mX, .int v11.2])), (aMk, .inl (K.2 0, 12, .inl mK)), (aMj, .inl (K.2 3, 12, .inr (.inr (.inr (.inr (zo aMr 12)))))), (aMc, .inl (K.2 0, 12, .inl mC)), (aMw, .inl (K.2 0, 12, .inl mW))] ++ zR12Z K aMr mJ ++ [(q5, .inl (K.2 0, 12, .inl v4)), (q8, .inl (K.2 0, 12, .inl v7))]) 2 24) ?_ ?_
          · refine z_aload_n hG dX6_wayAt_213 0 rfl ?_
            refine z_get (ci := 6) (C := RX6) (T := TX6) (N := 8) hG dX6_wayAt_214 iX6_wayAt_X6 0 (by decide) mX6_wayAt_4 rfl rfl 0 rfl rfl ?_
            refine z_iload hG dX6_wayAt_217 6 rfl ?_
            obtain ⟨hg, hres⟩ := z_guard hres
            refine z_iald hG dX6_wayAt_219 1 rfl hg ?_
            obtain rfl := Option.some.inj hres
            exact (z_ws [0, 1, 2, 3, 4, 5, 6, 7, 8, 9, 10, 11, 12, 13, 14, 15, 16] rfl rfl (hR _ _ dX6_wayAt_220))
          · intro s32 w33 hres hX hB
            unfold sX6_wayAt_109 at hres
            refine z_iload hG dX6_wayAt_109 8 rfl ?_
            refine z_iload_n hG dX6_wayAt_111 3 rfl ?_
            refine z_icmp_gt 213 hG dX6_wayAt_112 (by decide) (fun c => ?_) (fun c => ?_)
            · replace hres := z_ifp c hres
              exact (hX (s32.1, s32.2.1, s32.2.2) (Option.some.inj hres).symm)
            · replace hres := z_ifn c hres
              refine z_iconst (-1) hG dX6_wayAt_115 (by decide) ?_
              refine z_istore (lv' := [(9, .int (-1)), (0, .ref aM), (1, .int p0), (2, .int p1), (3, .int p2), (4, .ref q5), (5, .ref q8), (6, .int s32.1), (7, .int s32.2.1), (8, .int s32.2.2)]) hG dX6_wayAt_116 (by decide) rfl ?_
              refine z_iconst 0 hG dX6_wayAt_118 (by decide) ?_
              refine z_istore (lv' := [(10, .int 0), (9, .int (-1)), (0, .ref aM), (1, .int p0), (2, .int p1), (3, .int p2), (4, .ref q5), (5, .ref q8), (6, .int s32.1), (7, .int s32.2.1), (8, .int s32.2.2)]) hG dX6_wayAt_119 (by decide) rfl ?_
              obtain ⟨e42, hx, hres⟩ := z_bind hres
              refine z_lv [2, 3, 4, 5, 6, 7, 8, 9, 10, 1, 0] (lv' := [(0, .ref aM), (1, .int p0), (2, .int p1), (3, .int p2), (4, .ref q5), (5, .ref q8), (6, .int s32.1), (7, .int s32.2.1), (8, .int s32.2.2), (9, .int (-1)), (10, .int 0)]) rfl ?_
              refine z_loop hx (fun s40 : Int32 × Int32 × Int32 => [(0, .ref aM), (1, .int p0), (2, .int p1), (3, .int p2), (4, .ref q5), (5, .ref q8), (6, .int s32.1), (7, .int s40.1), (8, .int s32.2.2), (9, .int s40.2.1), (10, .int s40.2.2)]) (fun s40 : Int32 × Int32 × Int32 => ([(aM, .inr (6, [.ref aMk, .ref aMj, .int mN, .int mS, .ref aMc, .ref aMw, .int mX, .int v11.2])), (aMk, .inl (K.2 0, 12, .inl mK)), (aMj, .inl (K.2 3, 12, .inr (.inr (.inr (.inr (zo aMr 12)))))), (aMc, .inl (K.2 0, 12, .inl mC)), (aMw, .inl (K.2 0, 12, .inl mW))] ++ zR12Z K aMr mJ ++ [(q5, .inl (K.2 0, 12, .inl v4)), (q8, .inl (K.2 0, 12, .inl v7))])) (fun e42 : Int32 × Int32 × Int32 => zj G 203 [(0, .ref aM), (1, .int p0), (2, .int p1), (3, .int p2), (4, .ref q5), (5, .ref q8), (6, .int s32.1), (7, .int e42.1), (8, .int s32.2.2), (9, .int e42.2.1), (10, .int e42.2.2)] [] ([(aM, .inr (6, [.ref aMk, .ref aMj, .int mN, .int mS, .ref aMc, .ref aMw, .int mX, .int v11.2])), (aMk, .inl (K.2 0, 12, .inl mK)), (aMj, .inl (K.2 3, 12, .inr (.inr (.inr (.inr (zo aMr 12)))))), (aMc, .inl (K.2 0, 12, .inl mC)), (aMw, .inl (K.2 0, 12, .inl mW))] ++ zR12Z K aMr mJ ++ [(q5, .inl (K.2 0, 12, .inl v4)), (q8, .inl (K.2 0, 12, .inl v7))]) 2 24) ?_ ?_
              · refine z_iload hG dX6_wayAt_203 9 rfl ?_
                refine z_istore (lv' := [(6, .int e42.2.1), (0, .ref aM), (1, .int p0), (2, .int p1), (3, .int p2), (4, .ref q5), (5, .ref q8), (7, .int e42.1), (8, .int s32.2.2), (9, .int e42.2.1), (10, .int e42.2.2)]) hG dX6_wayAt_205 (by decide) rfl ?_
                refine z_iinc (s32.2.2 + 1) (lv' := [(8, .int (s32.2.2 + 1)), (6, .int e42.2.1), (0, .ref aM), (1, .int p0), (2, .int p1), (3, .int p2), (4, .ref q5), (5, .ref q8), (7, .int e42.1), (9, .int e42.2.1), (10, .int e42.2.2)]) hG dX6_wayAt_207 8 rfl rfl (by decide) rfl ?_
                refine z_goto 109 hG dX6_wayAt_210 (by decide) ?_
                exact (z_lv [2, 3, 4, 5, 6, 7, 1, 8, 0] rfl (hB (e42.2.1, e42.1, (s32.2.2 + 1)) (Option.some.inj hres).symm))
              · intro s40 w41 hres hX hB
                unfold sX6_wayAt_121 at hres
                refine z_iload hG dX6_wayAt_121 10 rfl ?_
                refine z_aload_n hG dX6_wayAt_123 0 rfl ?_
                refine z_get (ci := 6) (C := RX6) (T := TX6) (N := 8) hG dX6_wayAt_124 iX6_wayAt_X6 2 (by decide) mX6_wayAt_2 rfl rfl 0 rfl rfl ?_
                refine z_icmp_ge 203 hG dX6_wayAt_127 (by decide) (fun c => ?_) (fun c => ?_)
                · replace hres := z_ifp c hres
                  exact (hX (s40.1, s40.2.1, s40.2.2) (Option.some.inj hres).symm)
                · replace hres := z_ifn c hres
                  refine z_iload hG dX6_wayAt_130 9 rfl ?_
                  refine z_iconst (-1) hG dX6_wayAt_132 (by decide) ?_
                  refine z_icmp_ne 203 hG dX6_wayAt_133 (by decide) (fun c => ?_) (fun c => ?_)
                  · replace hres := z_ifn c hres
                    exact (hX (s40.1, s40.2.1, s40.2.2) (Option.some.inj hres).symm)
                  · replace hres := z_ifp c hres
                    refine z_aload_n hG dX6_wayAt_136 0 rfl ?_
                    refine z_get (ci := 6) (C := RX6) (T := TX6) (N := 8) hG dX6_wayAt_137 iX6_wayAt_X6 1 (by decide) mX6_wayAt_3 rfl rfl 0 rfl rfl ?_
                    refine z_iload hG dX6_wayAt_140 6 rfl ?_
                    obtain ⟨hr44, hres⟩ := z_guard hres
                    refine z_aaldZ hG dX6_wayAt_142 2 rfl hr44 ?_
                    refine z_iload hG dX6_wayAt_143 10 rfl ?_
                    obtain ⟨hg, hres⟩ := z_guard hres
                    refine z_zaldG (M := mJ) hG dX6_wayAt_145 5 (z_12 rfl rfl rfl rfl rfl rfl rfl rfl rfl rfl rfl rfl) hr44 hg ?_
                    refine z_if_eq 197 hG dX6_wayAt_146 (by decide) (fun c => ?_) (fun c => ?_)
                    · replace hres := z_ifp c hres
                      refine z_iinc (s40.2.2 + 1) (lv' := [(10, .int (s40.2.2 + 1)), (0, .ref aM), (1, .int p0), (2, .int p1), (3, .int p2), (4, .ref q5), (5, .ref q8), (6, .int s32.1), (7, .int s40.1), (8, .int s32.2.2), (9, .int s40.2.1)]) hG dX6_wayAt_197 10 rfl rfl (by decide) rfl ?_
                      refine z_goto 121 hG dX6_wayAt_200 (by decide) ?_
                      exact (z_lv [1, 2, 3, 4, 5, 6, 7, 8, 9, 10, 0] rfl (hB (s40.1, s40.2.1, (s40.2.2 + 1)) (Option.some.inj hres).symm))
                    · replace hres := z_ifn c hres
                      refine z_aload hG dX6_wayAt_149 4 rfl ?_
                      refine z_iload hG dX6_wayAt_151 10 rfl ?_
                      obtain ⟨hg, hres⟩ := z_guard hres
                      refine z_iald hG dX6_wayAt_153 17 rfl hg ?_
                      refine z_iload hG dX6_wayAt_154 8 rfl ?_
                      refine z_icmp_ne 197 hG dX6_wayAt_156 (by decide) (fun c => ?_) (fun c => ?_)
                      · replace hres := z_ifn c hres
                        refine z_iinc (s40.2.2 + 1) (lv' := [(10, .int (s40.2.2 + 1)), (0, .ref aM), (1, .int p0), (2, .int p1), (3, .int p2), (4, .ref q5), (5, .ref q8), (6, .int s32.1), (7, .int s40.1), (8, .int s32.2.2), (9, .int s40.2.1)]) hG dX6_wayAt_197 10 rfl rfl (by decide) rfl ?_
                        refine z_goto 121 hG dX6_wayAt_200 (by decide) ?_
                        exact (z_lv [1, 2, 3, 4, 5, 6, 7, 8, 9, 10, 0] rfl (hB (s40.1, s40.2.1, (s40.2.2 + 1)) (Option.some.inj hres).symm))
                      · replace hres := z_ifp c hres
                        refine z_iload hG dX6_wayAt_159 7 rfl ?_
                        refine z_aload hG dX6_wayAt_161 5 rfl ?_
                        refine z_iload hG dX6_wayAt_163 10 rfl ?_
                        obtain ⟨hg, hres⟩ := z_guard hres
                        refine z_iald hG dX6_wayAt_165 18 rfl hg ?_
                        obtain ⟨v45, hv, hres⟩ := z_bind hres
                        have J : zj G 175 [(0, .ref aM), (1, .int p0), (2, .int p1), (3, .int p2), (4, .ref q5), (5, .ref q8), (6, .int s32.1), (7, .int s40.1), (8, .int s32.2.2), (9, .int s40.2.1), (10, .int s40.2.2)] [.int v45] ([(aM, .inr (6, [.ref aMk, .ref aMj, .int mN, .int mS, .ref aMc, .ref aMw, .int mX, .int v11.2])), (aMk, .inl (K.2 0, 12, .inl mK)), (aMj, .inl (K.2 3, 12, .inr (.inr (.inr (.inr (zo aMr 12)))))), (aMc, .inl (K.2 0, 12, .inl mC)), (aMw, .inl (K.2 0, 12, .inl mW))] ++ zR12Z K aMr mJ ++ [(q5, .inl (K.2 0, 12, .inl v4)), (q8, .inl (K.2 0, 12, .inl v7))]) 2 24 := by
                          refine z_istore (lv' := [(9, .int v45), (0, .ref aM), (1, .int p0), (2, .int p1), (3, .int p2), (4, .ref q5), (5, .ref q8), (6, .int s32.1), (7, .int s40.1), (8, .int s32.2.2), (10, .int s40.2.2)]) hG dX6_wayAt_175 (by decide) rfl ?_
                          refine z_iload hG dX6_wayAt_177 8 rfl ?_
                          refine z_iload hG dX6_wayAt_179 0 rfl ?_
                          refine z_iconst (-1) hG dX6_wayAt_181 (by decide) ?_
                          refine z_icmp_ne 193 hG dX6_wayAt_182 (by decide) (fun c => ?_) (fun c => ?_)
                          · replace hres := z_ifn c hres
                            refine z_iconst 0 hG dX6_wayAt_193 (by decide) ?_
                            refine z_isub hG dX6_wayAt_194 ?_
                            refine z_istore (lv' := [(7, .int (s40.1 - 0)), (9, .int v45), (0, .ref aM), (1, .int p0), (2, .int p1), (3, .int p2), (4, .ref q5), (5, .ref q8), (6, .int s32.1), (8, .int s32.2.2), (10, .int s40.2.2)]) hG dX6_wayAt_195 (by decide) rfl ?_
                            refine z_iinc (s40.2.2 + 1) (lv' := [(10, .int (s40.2.2 + 1)), (7, .int (s40.1 - 0)), (9, .int v45), (0, .ref aM), (1, .int p0), (2, .int p1), (3, .int p2), (4, .ref q5), (5, .ref q8), (6, .int s32.1), (8, .int s32.2.2)]) hG dX6_wayAt_197 10 rfl rfl (by decide) rfl ?_
                            refine z_goto 121 hG dX6_wayAt_200 (by decide) ?_
                            exact (z_lv [3, 4, 5, 6, 7, 8, 9, 1, 10, 2, 0] rfl (hB ((s40.1 - 0), v45, (s40.2.2 + 1)) (Option.some.inj hres).symm))
                          · replace hres := z_ifp c hres
                            refine z_aload hG dX6_wayAt_185 6 rfl ?_
                            refine z_iload hG dX6_wayAt_187 10 rfl ?_
                            obtain ⟨hg, hres⟩ := z_guard hres
                            refine z_iald hG dX6_wayAt_189 18 rfl hg ?_
                            refine z_goto 194 hG dX6_wayAt_190 (by decide) ?_
                            refine z_isub hG dX6_wayAt_194 ?_
                            refine z_istore (lv' := [(7, .int (s40.1 - (v7 s40.2.2.toNatClampNeg))), (9, .int v45), (0, .ref aM), (1, .int p0), (2, .int p1), (3, .int p2), (4, .ref q5), (5, .ref q8), (6, .int s32.1), (8, .int s32.2.2), (10, .int s40.2.2)]) hG dX6_wayAt_195 (by decide) rfl ?_
                            refine z_iinc (s40.2.2 + 1) (lv' := [(10, .int (s40.2.2 + 1)), (7, .int (s40.1 - (v7 s40.2.2.toNatClampNeg))), (9, .int v45), (0, .ref aM), (1, .int p0), (2, .int p1), (3, .int p2), (4, .ref q5), (5, .ref q8), (6, .int s32.1), (8, .int s32.2.2)]) hG dX6_wayAt_197 10 rfl rfl (by decide) rfl ?_
                            refine z_goto 121 hG dX6_wayAt_200 (by decide) ?_
                            exact (z_lv [3, 4, 5, 6, 7, 8, 9, 1, 10, 2, 0] rfl (hB ((s40.1 - (v7 s40.2.2.toNatClampNeg)), v45, (s40.2.2 + 1)) (Option.some.inj hres).symm))
                        replace hres := hv
                        clear hv
                        refine z_icmp_ge 174 hG dX6_wayAt_166 (by decide) (fun c => ?_) (fun c => ?_)
                        · replace hres := z_ifp c hres
                          refine z_iconst (-1) hG dX6_wayAt_174 (by decide) ?_
                          obtain rfl := Option.some.inj hres
                          exact J
                        · replace hres := z_ifn c hres
                          refine z_iload hG dX6_wayAt_169 10 rfl ?_
                          refine z_goto 175 hG dX6_wayAt_171 (by decide) ?_
                          obtain rfl := Option.some.inj hres
                          exact J
        · replace hres := z_ifp c hres
          refine z_iconst 0 hG dX6_wayAt_95 (by decide) ?_
          obtain rfl := Option.some.inj hres
          exact (z_ws [0, 1, 2, 3, 4, 5, 6, 7, 8, 9, 10, 11, 12, 13, 14, 15, 16] rfl rfl (hR _ _ dX6_wayAt_96))
      replace hres := hv
      clear hv
      refine z_if_lt 88 hG dX6_wayAt_54 (by decide) (fun c => ?_) (fun c => ?_)
      · replace hres := z_ifp c hres
        refine z_iconst 0 hG dX6_wayAt_88 (by decide) ?_
        obtain rfl := Option.some.inj hres
        exact J
      · replace hres := z_ifn c hres
        refine z_iload_n hG dX6_wayAt_57 4 rfl ?_
        refine z_aload hG dX6_wayAt_58 0 rfl ?_
        refine z_aload_n hG dX6_wayAt_60 2 rfl ?_
        refine z_get (ci := 6) (C := RX6) (T := TX6) (N := 8) hG dX6_wayAt_61 iX6_wayAt_X6 3 (by decide) mX6_wayAt_0 rfl rfl 0 rfl rfl ?_
        obtain ⟨hg, hres⟩ := z_guard hres
        refine z_iald hG dX6_wayAt_64 18 rfl hg ?_
        refine z_icmp_ge 88 hG dX6_wayAt_65 (by decide) (fun c => ?_) (fun c => ?_)
        · replace hres := z_ifp c hres
          refine z_iconst 0 hG dX6_wayAt_88 (by decide) ?_
          obtain rfl := Option.some.inj hres
          exact J
        · replace hres := z_ifn c hres
          refine z_iload_n hG dX6_wayAt_68 5 rfl ?_
          refine z_if_lt 88 hG dX6_wayAt_69 (by decide) (fun c => ?_) (fun c => ?_)
          · replace hres := z_ifp c hres
            refine z_iconst 0 hG dX6_wayAt_88 (by decide) ?_
            obtain rfl := Option.some.inj hres
            exact J
          · replace hres := z_ifn c hres
            refine z_iload_n hG dX6_wayAt_72 5 rfl ?_
            refine z_aload hG dX6_wayAt_73 1 rfl ?_
            refine z_aload_n hG dX6_wayAt_75 2 rfl ?_
            refine z_iload_n hG dX6_wayAt_76 3 rfl ?_
            obtain ⟨v46, hv, hres⟩ := z_bind hres
            refine z_callV (As := [.int p0]) (rest := [.ref q5, .int p2, .int 1, .int 1, .ref aM]) (wr := [(q5, .inl (K.2 0, 12, .inl v4)), (q8, .inl (K.2 0, 12, .inl v7))]) (ws' := (fun _ : Unit => ([(aM, .inr (6, [.ref aMk, .ref aMj, .int mN, .int mS, .ref aMc, .ref aMw, .int mX, .int v3.2])), (aMk, .inl (K.2 0, 12, .inl mK)), (aMj, .inl (K.2 3, 12, .inr (.inr (.inr (.inr (zo aMr 12)))))), (aMc, .inl (K.2 0, 12, .inl mC)), (aMw, .inl (K.2 0, 12, .inl mW))] ++ zR12Z K aMr mJ ++ [(q5, .inl (K.2 0, 12, .inl v4)), (q8, .inl (K.2 0, 12, .inl v7))]))) (stk := (fun _ : Unit => [.int v46, .ref q5, .int p2, .int 1, .int 1, .ref aM])) (kc' := 2) (ks' := 24) (n := 1) (C := RX6) (ci := 6) hG dX6_wayAt_77 (kX6_at _ K aM aMk aMj aMc aMw aMr mN mS mX v3.2 mK mC mW mJ p0 v46 hv) gX6_wayAt_X6_at rfl rfl rfl ⟨rfl, by decide, by decide, rfl⟩ ⟨by decide, by decide⟩ (Nat.le_of_ble_eq_true rfl) ⟨(Nat.le_of_ble_eq_true rfl), (Nat.le_of_ble_eq_true rfl)⟩ [0, 1, 2, 3, 4, 5, 6, 7, 8, 9, 10, 11, 12, 13, 14, 15, 16] [17, 18] [2, 3, 4, 5, 6, 7, 8, 9, 10, 11, 12, 13, 14, 15, 16, 17, 18, 0, 1] rfl rfl rfl rfl (by decide) rfl (fun _ => rfl) (fun _ => rfl) rfl rfl rfl 0 rfl rfl rfl rfl (fun _ => ?_)
            obtain ⟨hg, hres⟩ := z_guard hres
            refine z_iald hG dX6_wayAt_80 17 rfl hg ?_
            refine z_icmp_gt 88 hG dX6_wayAt_81 (by decide) (fun c => ?_) (fun c => ?_)
            · replace hres := z_ifp c hres
              refine z_iconst 0 hG dX6_wayAt_88 (by decide) ?_
              obtain rfl := Option.some.inj hres
              exact J
            · replace hres := z_ifn c hres
              refine z_iconst 1 hG dX6_wayAt_84 (by decide) ?_
              refine z_goto 89 hG dX6_wayAt_85 (by decide) ?_
              obtain rfl := Option.some.inj hres
              exact J
    · replace hres := z_ifp c hres
      refine z_iconst 0 hG dX6_wayAt_25 (by decide) ?_
      obtain rfl := Option.some.inj hres
      exact (z_wid (Nat.le_of_ble_eq_true rfl) (Nat.le_of_ble_eq_true rfl) (hR _ _ dX6_wayAt_26))
  replace hres := hv
  clear hv
  refine z_if_lt 17 hG dX6_wayAt_10 (by decide) (fun c => ?_) (fun c => ?_)
  · replace hres := z_ifp c hres
    refine z_iconst 0 hG dX6_wayAt_17 (by decide) ?_
    obtain rfl := Option.some.inj hres
    exact J
  · replace hres := z_ifn c hres
    refine z_iconst 1 hG dX6_wayAt_13 (by decide) ?_
    refine z_goto 18 hG dX6_wayAt_14 (by decide) ?_
    obtain rfl := Option.some.inj hres
    exact J

theorem dX6_throughs_0 : decode cX6_throughs 0 = .ok (.aload_n 0, 1) := by decide +kernel
theorem dX6_throughs_1 : decode cX6_throughs 1 = .ok (.aload_n 0, 1) := by decide +kernel
theorem dX6_throughs_2 : decode cX6_throughs 2 = .ok (.getfield 18, 3) := by decide +kernel
theorem dX6_throughs_5 : decode cX6_throughs 5 = .ok (.invokevirtual 52, 3) := by decide +kernel
theorem dX6_throughs_8 : decode cX6_throughs 8 = .ok (.astore_n 3, 1) := by decide +kernel
theorem dX6_throughs_9 : decode cX6_throughs 9 = .ok (.aload_n 3, 1) := by decide +kernel
theorem dX6_throughs_10 : decode cX6_throughs 10 = .ok (.iload_n 2, 1) := by decide +kernel
theorem dX6_throughs_11 : decode cX6_throughs 11 = .ok (.iaload, 1) := by decide +kernel
theorem dX6_throughs_12 : decode cX6_throughs 12 = .ok (.iconst (-1), 1) := by decide +kernel
theorem dX6_throughs_13 : decode cX6_throughs 13 = .ok (.if_icmp .ne 7, 3) := by decide +kernel
theorem dX6_throughs_16 : decode cX6_throughs 16 = .ok (.iconst 0, 1) := by decide +kernel
theorem dX6_throughs_17 : decode cX6_throughs 17 = .ok (.goto 17, 3) := by decide +kernel
theorem dX6_throughs_20 : decode cX6_throughs 20 = .ok (.aload_n 0, 1) := by decide +kernel
theorem dX6_throughs_21 : decode cX6_throughs 21 = .ok (.iload_n 2, 1) := by decide +kernel
theorem dX6_throughs_22 : decode cX6_throughs 22 = .ok (.invokevirtual 72, 3) := by decide +kernel
theorem dX6_throughs_25 : decode cX6_throughs 25 = .ok (.aload_n 0, 1) := by decide +kernel
theorem dX6_throughs_26 : decode cX6_throughs 26 = .ok (.aload_n 3, 1) := by decide +kernel
theorem dX6_throughs_27 : decode cX6_throughs 27 = .ok (.iload_n 1, 1) := by decide +kernel
theorem dX6_throughs_28 : decode cX6_throughs 28 = .ok (.invokevirtual 68, 3) := by decide +kernel
theorem dX6_throughs_31 : decode cX6_throughs 31 = .ok (.iload_n 2, 1) := by decide +kernel
theorem dX6_throughs_32 : decode cX6_throughs 32 = .ok (.iaload, 1) := by decide +kernel
theorem dX6_throughs_33 : decode cX6_throughs 33 = .ok (.imul, 1) := by decide +kernel
theorem dX6_throughs_34 : decode cX6_throughs 34 = .ok (.ireturn, 1) := by decide +kernel
set_option maxRecDepth 20000 in
theorem ggX6_throughs_X6_lengths : GoodIn wsX6_throughs wsX6_lengths := goodIn_r _ [6, 7, 8, 9, 18, 19, 20, 21, 22, 23, 24, 25] (by decide +kernel) (by decide +kernel)
set_option maxRecDepth 20000 in
theorem gX6_throughs_X6_lengths : GoodIn wsX6_throughs (wsV RX6 52 RX6 yX6_lengths wsX6_lengths) := goodIn_app (goodIn_of _ (by decide +kernel)) ggX6_throughs_X6_lengths
set_option maxRecDepth 20000 in
theorem ggX6_throughs_X6_allWays : GoodIn wsX6_throughs wsX6_allWays := goodIn_r _ [13, 1, 2, 3, 4, 5, 6, 7, 8, 9, 14, 15, 16, 17, 18, 19, 20, 21, 22, 23, 24, 25] (by decide +kernel) (by decide +kernel)
set_option maxRecDepth 20000 in
theorem gX6_throughs_X6_allWays : GoodIn wsX6_throughs (wsV RX6 72 RX6 yX6_allWays wsX6_allWays) := goodIn_app (goodIn_of _ (by decide +kernel)) ggX6_throughs_X6_allWays
set_option maxRecDepth 20000 in
theorem ggX6_throughs_X6_onward : GoodIn wsX6_throughs wsX6_onward := goodIn_r _ [17, 7, 8, 9, 18, 19, 20, 21, 22, 23, 24, 25] (by decide +kernel) (by decide +kernel)
set_option maxRecDepth 20000 in
theorem gX6_throughs_X6_onward : GoodIn wsX6_throughs (wsV RX6 68 RX6 yX6_onward wsX6_onward) := goodIn_app (goodIn_of _ (by decide +kernel)) ggX6_throughs_X6_onward
theorem mX6_throughs_0 : Cond.fieldLink RX6 18 "LayerwaysModel" "start" "I" ∈ wsX6_throughs := by decide +kernel
theorem iX6_throughs_X6 : ∀ w ∈ u_ws RX6 TX6 8, w ∈ wsX6_throughs := by decide +kernel
def fX6_throughs (mN : Int32) (mS : Int32) (mJ : (Nat → Nat → Int32)) (p0 : Int32) (p1 : Int32) : Option (Int32) := (fX6_lengths mN mJ mS).bind fun v1 => if zin p1 12 then if (v1 p1.toNatClampNeg) = (-1) then some 0 else (fX6_allWays mN mS mJ p1).bind fun v3 => (fX6_onward mN mJ v1 p0).bind fun v4 => if zin p1 12 then some (v3 * (v4 p1.toNatClampNeg)) else none else none
set_option maxRecDepth 100000 in
set_option maxHeartbeats 4000000 in
theorem kX6_throughs (l : Launch) (K : zK) (aM : Nat) (aMk : Nat) (aMj : Nat) (aMc : Nat) (aMw : Nat) (aMr : (Nat → Nat))  (mN : Int32) (mS : Int32) (mX : Int32) (mT : Int32) (mK : (Nat → Int32)) (mC : (Nat → Int32)) (mW : (Nat → Int32)) (mJ : (Nat → Nat → Int32)) (p0 : Int32) (p1 : Int32) (r : Int32) (hres : fX6_throughs mN mS mJ p0 p1 = some r) : zM l K yX6_throughs wsX6_throughs ({ frames := 2, cells := 4, slots := 48, locals := 47 }) [.ref aM, .int p0, .int p1] ([(aM, .inr (6, [.ref aMk, .ref aMj, .int mN, .int mS, .ref aMc, .ref aMw, .int mX, .int mT])), (aMk, .inl (K.2 0, 12, .inl mK)), (aMj, .inl (K.2 3, 12, .inr (.inr (.inr (.inr (zo aMr 12)))))), (aMc, .inl (K.2 0, 12, .inl mC)), (aMw, .inl (K.2 0, 12, .inl mW))] ++ zR12Z K aMr mJ) (fun _ : Unit => some (.int r)) (fun _ : Unit => ([(aM, .inr (6, [.ref aMk, .ref aMj, .int mN, .int mS, .ref aMc, .ref aMw, .int mX, .int mT])), (aMk, .inl (K.2 0, 12, .inl mK)), (aMj, .inl (K.2 3, 12, .inr (.inr (.inr (.inr (zo aMr 12)))))), (aMc, .inl (K.2 0, 12, .inl mC)), (aMw, .inl (K.2 0, 12, .inl mW))] ++ zR12Z K aMr mJ)) 4 48 := by
  refine zM.intI (cc := cX6_throughs) (maxL := 4) (ret := (some .int)) rfl (by decide) (Nat.le_of_ble_eq_true rfl) rfl ?_
  intro G hGl hG hN hE
  have hR : ∀ (pc : Nat) (lv : zL), decode cX6_throughs pc = .ok (.ireturn, 1) → zj G pc lv [.int r] ([(aM, .inr (6, [.ref aMk, .ref aMj, .int mN, .int mS, .ref aMc, .ref aMw, .int mX, .int mT])), (aMk, .inl (K.2 0, 12, .inl mK)), (aMj, .inl (K.2 3, 12, .inr (.inr (.inr (.inr (zo aMr 12)))))), (aMc, .inl (K.2 0, 12, .inl mC)), (aMw, .inl (K.2 0, 12, .inl mW))] ++ zR12Z K aMr mJ) 4 48 := fun pc lv d => hE () _ rfl pc lv d
  clear hE
  unfold fX6_throughs at hres
  show zj G 0 [(0, .ref aM), (1, .int p0), (2, .int p1)] [] ([(aM, .inr (6, [.ref aMk, .ref aMj, .int mN, .int mS, .ref aMc, .ref aMw, .int mX, .int mT])), (aMk, .inl (K.2 0, 12, .inl mK)), (aMj, .inl (K.2 3, 12, .inr (.inr (.inr (.inr (zo aMr 12)))))), (aMc, .inl (K.2 0, 12, .inl mC)), (aMw, .inl (K.2 0, 12, .inl mW))] ++ zR12Z K aMr mJ) 0 0
  refine z_aload_n hG dX6_throughs_0 0 rfl ?_
  refine z_aload_n hG dX6_throughs_1 0 rfl ?_
  refine z_get (ci := 6) (C := RX6) (T := TX6) (N := 8) hG dX6_throughs_2 iX6_throughs_X6 3 (by decide) mX6_throughs_0 rfl rfl 0 rfl rfl ?_
  obtain ⟨v1, hv, hres⟩ := z_bind hres
  refine z_callV (As := [.int mS]) (rest := []) (wr := ([] : va_W)) (ws' := (fun q2 : Nat => ([(aM, .inr (6, [.ref aMk, .ref aMj, .int mN, .int mS, .ref aMc, .ref aMw, .int mX, .int mT])), (aMk, .inl (K.2 0, 12, .inl mK)), (aMj, .inl (K.2 3, 12, .inr (.inr (.inr (.inr (zo aMr 12)))))), (aMc, .inl (K.2 0, 12, .inl mC)), (aMw, .inl (K.2 0, 12, .inl mW))] ++ zR12Z K aMr mJ ++ [(q2, .inl (K.2 0, 12, .inl v1))]))) (stk := (fun q2 : Nat => [.ref q2])) (kc' := 1) (ks' := 12) (n := 1) (C := RX6) (ci := 6) hG dX6_throughs_5 (kX6_lengths _ K aM aMk aMj aMc aMw aMr mN mS mX mT mK mC mW mJ mS v1 hv) gX6_throughs_X6_lengths rfl rfl rfl ⟨rfl, by decide, by decide, rfl⟩ ⟨by decide, by decide⟩ (Nat.le_of_ble_eq_true rfl) ⟨(Nat.le_of_ble_eq_true rfl), (Nat.le_of_ble_eq_true rfl)⟩ [0, 1, 2, 3, 4, 5, 6, 7, 8, 9, 10, 11, 12, 13, 14, 15, 16] [] [0, 1, 2, 3, 4, 5, 6, 7, 8, 9, 10, 11, 12, 13, 14, 15, 16, 17] rfl rfl rfl rfl (by decide) rfl (fun _ => rfl) (fun _ => rfl) rfl rfl rfl 0 rfl rfl rfl rfl (fun q2 => ?_)
  refine z_astore_n (lv' := [(3, .ref q2), (0, .ref aM), (1, .int p0), (2, .int p1)]) hG dX6_throughs_8 (by decide) rfl ?_
  refine z_aload_n hG dX6_throughs_9 0 rfl ?_
  refine z_iload_n hG dX6_throughs_10 3 rfl ?_
  obtain ⟨hg, hres⟩ := z_guard hres
  refine z_iald hG dX6_throughs_11 17 rfl hg ?_
  refine z_iconst (-1) hG dX6_throughs_12 (by decide) ?_
  refine z_icmp_ne 20 hG dX6_throughs_13 (by decide) (fun c => ?_) (fun c => ?_)
  · replace hres := z_ifn c hres
    refine z_aload_n hG dX6_throughs_20 1 rfl ?_
    refine z_iload_n hG dX6_throughs_21 3 rfl ?_
    obtain ⟨v3, hv, hres⟩ := z_bind hres
    refine z_callV (As := [.int p1]) (rest := []) (wr := [(q2, .inl (K.2 0, 12, .inl v1))]) (ws' := (fun _ : Unit => ([(aM, .inr (6, [.ref aMk, .ref aMj, .int mN, .int mS, .ref aMc, .ref aMw, .int mX, .int mT])), (aMk, .inl (K.2 0, 12, .inl mK)), (aMj, .inl (K.2 3, 12, .inr (.inr (.inr (.inr (zo aMr 12)))))), (aMc, .inl (K.2 0, 12, .inl mC)), (aMw, .inl (K.2 0, 12, .inl mW))] ++ zR12Z K aMr mJ ++ [(q2, .inl (K.2 0, 12, .inl v1))]))) (stk := (fun _ : Unit => [.int v3])) (kc' := 3) (ks' := 36) (n := 1) (C := RX6) (ci := 6) hG dX6_throughs_22 (kX6_allWays _ K aM aMk aMj aMc aMw aMr mN mS mX mT mK mC mW mJ p1 v3 hv) gX6_throughs_X6_allWays rfl rfl rfl ⟨rfl, by decide, by decide, rfl⟩ ⟨by decide, by decide⟩ (Nat.le_of_ble_eq_true rfl) ⟨(Nat.le_of_ble_eq_true rfl), (Nat.le_of_ble_eq_true rfl)⟩ [0, 1, 2, 3, 4, 5, 6, 7, 8, 9, 10, 11, 12, 13, 14, 15, 16] [17] [1, 2, 3, 4, 5, 6, 7, 8, 9, 10, 11, 12, 13, 14, 15, 16, 17, 0] rfl rfl rfl rfl (by decide) rfl (fun _ => rfl) (fun _ => rfl) rfl rfl rfl 0 rfl rfl rfl rfl (fun _ => ?_)
    refine z_aload_n hG dX6_throughs_25 1 rfl ?_
    refine z_aload_n hG dX6_throughs_26 0 rfl ?_
    refine z_iload_n hG dX6_throughs_27 2 rfl ?_
    obtain ⟨v4, hv, hres⟩ := z_bind hres
    refine z_callV (As := [.ref q2, .int p0]) (rest := [.int v3]) (wr := ([] : va_W)) (ws' := (fun q5 : Nat => ([(aM, .inr (6, [.ref aMk, .ref aMj, .int mN, .int mS, .ref aMc, .ref aMw, .int mX, .int mT])), (aMk, .inl (K.2 0, 12, .inl mK)), (aMj, .inl (K.2 3, 12, .inr (.inr (.inr (.inr (zo aMr 12)))))), (aMc, .inl (K.2 0, 12, .inl mC)), (aMw, .inl (K.2 0, 12, .inl mW))] ++ zR12Z K aMr mJ ++ [(q2, .inl (K.2 0, 12, .inl v1)), (q5, .inl (K.2 0, 12, .inl v4))]))) (stk := (fun q5 : Nat => [.ref q5, .int v3])) (kc' := 4) (ks' := 48) (n := 2) (C := RX6) (ci := 6) hG dX6_throughs_28 (kX6_onward _ K aM aMk aMj aMc aMw aMr q2 mN mS mX mT mK mC mW mJ v1 p0 v4 hv) gX6_throughs_X6_onward rfl rfl rfl ⟨rfl, by decide, by decide, rfl⟩ ⟨by decide, by decide⟩ (Nat.le_of_ble_eq_true rfl) ⟨(Nat.le_of_ble_eq_true rfl), (Nat.le_of_ble_eq_true rfl)⟩ [0, 1, 2, 3, 4, 5, 6, 7, 8, 9, 10, 11, 12, 13, 14, 15, 16, 17] [] [0, 1, 2, 3, 4, 5, 6, 7, 8, 9, 10, 11, 12, 13, 14, 15, 16, 17, 18] rfl rfl rfl rfl (by decide) rfl (fun _ => rfl) (fun _ => rfl) rfl rfl rfl 0 rfl rfl rfl rfl (fun q5 => ?_)
    refine z_iload_n hG dX6_throughs_31 3 rfl ?_
    obtain ⟨hg, hres⟩ := z_guard hres
    refine z_iald hG dX6_throughs_32 18 rfl hg ?_
    refine z_imul hG dX6_throughs_33 ?_
    obtain rfl := Option.some.inj hres
    exact (z_ws [0, 1, 2, 3, 4, 5, 6, 7, 8, 9, 10, 11, 12, 13, 14, 15, 16] rfl rfl (hR _ _ dX6_throughs_34))
  · replace hres := z_ifp c hres
    refine z_iconst 0 hG dX6_throughs_16 (by decide) ?_
    refine z_goto 34 hG dX6_throughs_17 (by decide) ?_
    obtain rfl := Option.some.inj hres
    exact (z_ws [0, 1, 2, 3, 4, 5, 6, 7, 8, 9, 10, 11, 12, 13, 14, 15, 16] rfl rfl (z_wid (Nat.le_of_ble_eq_true rfl) (Nat.le_of_ble_eq_true rfl) (hR _ _ dX6_throughs_34)))

theorem dX6_through_0 : decode cX6_through 0 = .ok (.aload_n 0, 1) := by decide +kernel
theorem dX6_through_1 : decode cX6_through 1 = .ok (.aload_n 0, 1) := by decide +kernel
theorem dX6_through_2 : decode cX6_through 2 = .ok (.iload_n 1, 1) := by decide +kernel
theorem dX6_through_3 : decode cX6_through 3 = .ok (.invokevirtual 38, 3) := by decide +kernel
theorem dX6_through_6 : decode cX6_through 6 = .ok (.ifCond .eq 15, 3) := by decide +kernel
theorem dX6_through_9 : decode cX6_through 9 = .ok (.aload_n 0, 1) := by decide +kernel
theorem dX6_through_10 : decode cX6_through 10 = .ok (.iload_n 2, 1) := by decide +kernel
theorem dX6_through_11 : decode cX6_through 11 = .ok (.invokevirtual 38, 3) := by decide +kernel
theorem dX6_through_14 : decode cX6_through 14 = .ok (.ifCond .eq 7, 3) := by decide +kernel
theorem dX6_through_17 : decode cX6_through 17 = .ok (.iconst 1, 1) := by decide +kernel
theorem dX6_through_18 : decode cX6_through 18 = .ok (.goto 4, 3) := by decide +kernel
theorem dX6_through_21 : decode cX6_through 21 = .ok (.iconst 0, 1) := by decide +kernel
theorem dX6_through_22 : decode cX6_through 22 = .ok (.aload_n 0, 1) := by decide +kernel
theorem dX6_through_23 : decode cX6_through 23 = .ok (.getfield 18, 3) := by decide +kernel
theorem dX6_through_26 : decode cX6_through 26 = .ok (.ifCond .lt 7, 3) := by decide +kernel
theorem dX6_through_29 : decode cX6_through 29 = .ok (.iconst 1, 1) := by decide +kernel
theorem dX6_through_30 : decode cX6_through 30 = .ok (.goto 4, 3) := by decide +kernel
theorem dX6_through_33 : decode cX6_through 33 = .ok (.iconst 0, 1) := by decide +kernel
theorem dX6_through_34 : decode cX6_through 34 = .ok (.iconst 1, 1) := by decide +kernel
theorem dX6_through_35 : decode cX6_through 35 = .ok (.invokevirtual 42, 3) := by decide +kernel
theorem dX6_through_38 : decode cX6_through 38 = .ok (.ifCond .eq 20, 3) := by decide +kernel
theorem dX6_through_41 : decode cX6_through 41 = .ok (.aload_n 0, 1) := by decide +kernel
theorem dX6_through_42 : decode cX6_through 42 = .ok (.aload_n 0, 1) := by decide +kernel
theorem dX6_through_43 : decode cX6_through 43 = .ok (.iload_n 1, 1) := by decide +kernel
theorem dX6_through_44 : decode cX6_through 44 = .ok (.invokevirtual 34, 3) := by decide +kernel
theorem dX6_through_47 : decode cX6_through 47 = .ok (.aload_n 0, 1) := by decide +kernel
theorem dX6_through_48 : decode cX6_through 48 = .ok (.iload_n 2, 1) := by decide +kernel
theorem dX6_through_49 : decode cX6_through 49 = .ok (.invokevirtual 34, 3) := by decide +kernel
theorem dX6_through_52 : decode cX6_through 52 = .ok (.invokevirtual 75, 3) := by decide +kernel
theorem dX6_through_55 : decode cX6_through 55 = .ok (.goto 4, 3) := by decide +kernel
theorem dX6_through_58 : decode cX6_through 58 = .ok (.iconst 0, 1) := by decide +kernel
theorem dX6_through_59 : decode cX6_through 59 = .ok (.ireturn, 1) := by decide +kernel
set_option maxRecDepth 20000 in
theorem ggX6_through_X6_is : GoodIn wsX6_through wsX6_is := goodIn_r _ [6, 7, 8, 9, 5, 10, 11, 12, 36, 37, 38, 39, 40, 41, 42, 43] (by decide +kernel) (by decide +kernel)
set_option maxRecDepth 20000 in
theorem gX6_through_X6_is : GoodIn wsX6_through (wsV RX6 38 RX6 yX6_is wsX6_is) := goodIn_app (goodIn_of _ (by decide +kernel)) ggX6_through_X6_is
set_option maxRecDepth 20000 in
theorem ggX6_through_X6_can : GoodIn wsX6_through wsX6_can := goodIn_r _ [16, 17, 36, 37, 38, 39, 40, 41, 42, 43] (by decide +kernel) (by decide +kernel)
set_option maxRecDepth 20000 in
theorem gX6_through_X6_can : GoodIn wsX6_through (wsV RX6 42 RX6 yX6_can wsX6_can) := goodIn_app (goodIn_of _ (by decide +kernel)) ggX6_through_X6_can
set_option maxRecDepth 20000 in
theorem ggX6_through_X6_at : GoodIn wsX6_through wsX6_at := goodIn_r _ [10, 11, 12, 36, 37, 38, 39, 40, 41, 42, 43] (by decide +kernel) (by decide +kernel)
set_option maxRecDepth 20000 in
theorem gX6_through_X6_at : GoodIn wsX6_through (wsV RX6 34 RX6 yX6_at wsX6_at) := goodIn_app (goodIn_of _ (by decide +kernel)) ggX6_through_X6_at
set_option maxRecDepth 20000 in
theorem ggX6_through_X6_throughs : GoodIn wsX6_through wsX6_throughs := goodIn_r _ [21, 1, 22, 23, 24, 5, 25, 26, 11, 27, 28, 29, 30, 31, 32, 33, 34, 35, 36, 37, 38, 39, 40, 41, 42, 43] (by decide +kernel) (by decide +kernel)
set_option maxRecDepth 20000 in
theorem gX6_through_X6_throughs : GoodIn wsX6_through (wsV RX6 75 RX6 yX6_throughs wsX6_throughs) := goodIn_app (goodIn_of _ (by decide +kernel)) ggX6_through_X6_throughs
theorem mX6_through_0 : Cond.fieldLink RX6 18 "LayerwaysModel" "start" "I" ∈ wsX6_through := by decide +kernel
theorem iX6_through_X6 : ∀ w ∈ u_ws RX6 TX6 8, w ∈ wsX6_through := by decide +kernel
def fX6_through (mN : Int32) (mS : Int32) (mK : (Nat → Int32)) (mJ : (Nat → Nat → Int32)) (p0 : Int32) (p1 : Int32) : Option (Int32 × Int32) := (fX6_is mN mK p0).bind fun v1 => ((if v1 = 0 then some 0 else (fX6_is mN mK p1).bind fun v9 => if v9 = 0 then some 0 else some 1) : Option Int32).bind fun v3 => ((if mS < 0 then some 0 else some 1) : Option Int32).bind fun v4 => (fX6_can v3 v4 1).bind fun v5 => if v5.1 = 0 then some (0, v5.2) else (fX6_at mN mK p0).bind fun v6 => (fX6_at mN mK p1).bind fun v7 => (fX6_throughs mN mS mJ v6 v7).bind fun v8 => some (v8, v5.2)
set_option maxRecDepth 100000 in
set_option maxHeartbeats 4000000 in
theorem kX6_through (l : Launch) (K : zK) (aM : Nat) (aMk : Nat) (aMj : Nat) (aMc : Nat) (aMw : Nat) (aMr : (Nat → Nat))  (mN : Int32) (mS : Int32) (mX : Int32) (mT : Int32) (mK : (Nat → Int32)) (mC : (Nat → Int32)) (mW : (Nat → Int32)) (mJ : (Nat → Nat → Int32)) (p0 : Int32) (p1 : Int32) (r : Int32 × Int32) (hres : fX6_through mN mS mK mJ p0 p1 = some r) : zM l K yX6_through wsX6_through ({ frames := 3, cells := 4, slots := 48, locals := 70 }) [.ref aM, .int p0, .int p1] ([(aM, .inr (6, [.ref aMk, .ref aMj, .int mN, .int mS, .ref aMc, .ref aMw, .int mX, .int mT])), (aMk, .inl (K.2 0, 12, .inl mK)), (aMj, .inl (K.2 3, 12, .inr (.inr (.inr (.inr (zo aMr 12)))))), (aMc, .inl (K.2 0, 12, .inl mC)), (aMw, .inl (K.2 0, 12, .inl mW))] ++ zR12Z K aMr mJ) (fun _ : Unit => some (.int r.1)) (fun _ : Unit => ([(aM, .inr (6, [.ref aMk, .ref aMj, .int mN, .int mS, .ref aMc, .ref aMw, .int mX, .int r.2])), (aMk, .inl (K.2 0, 12, .inl mK)), (aMj, .inl (K.2 3, 12, .inr (.inr (.inr (.inr (zo aMr 12)))))), (aMc, .inl (K.2 0, 12, .inl mC)), (aMw, .inl (K.2 0, 12, .inl mW))] ++ zR12Z K aMr mJ)) 4 48 := by
  refine zM.intI (cc := cX6_through) (maxL := 3) (ret := (some .int)) rfl (by decide) (Nat.le_of_ble_eq_true rfl) rfl ?_
  intro G hGl hG hN hE
  have hR : ∀ (pc : Nat) (lv : zL), decode cX6_through pc = .ok (.ireturn, 1) → zj G pc lv [.int r.1] ([(aM, .inr (6, [.ref aMk, .ref aMj, .int mN, .int mS, .ref aMc, .ref aMw, .int mX, .int r.2])), (aMk, .inl (K.2 0, 12, .inl mK)), (aMj, .inl (K.2 3, 12, .inr (.inr (.inr (.inr (zo aMr 12)))))), (aMc, .inl (K.2 0, 12, .inl mC)), (aMw, .inl (K.2 0, 12, .inl mW))] ++ zR12Z K aMr mJ) 4 48 := fun pc lv d => hE () _ rfl pc lv d
  clear hE
  unfold fX6_through at hres
  show zj G 0 [(0, .ref aM), (1, .int p0), (2, .int p1)] [] ([(aM, .inr (6, [.ref aMk, .ref aMj, .int mN, .int mS, .ref aMc, .ref aMw, .int mX, .int mT])), (aMk, .inl (K.2 0, 12, .inl mK)), (aMj, .inl (K.2 3, 12, .inr (.inr (.inr (.inr (zo aMr 12)))))), (aMc, .inl (K.2 0, 12, .inl mC)), (aMw, .inl (K.2 0, 12, .inl mW))] ++ zR12Z K aMr mJ) 0 0
  refine z_aload_n hG dX6_through_0 0 rfl ?_
  refine z_aload_n hG dX6_through_1 0 rfl ?_
  refine z_iload_n hG dX6_through_2 1 rfl ?_
  obtain ⟨v1, hv, hres⟩ := z_bind hres
  refine z_callV (As := [.int p0]) (rest := [.ref aM]) (wr := ([] : va_W)) (ws' := (fun _ : Unit => ([(aM, .inr (6, [.ref aMk, .ref aMj, .int mN, .int mS, .ref aMc, .ref aMw, .int mX, .int mT])), (aMk, .inl (K.2 0, 12, .inl mK)), (aMj, .inl (K.2 3, 12, .inr (.inr (.inr (.inr (zo aMr 12)))))), (aMc, .inl (K.2 0, 12, .inl mC)), (aMw, .inl (K.2 0, 12, .inl mW))] ++ zR12Z K aMr mJ))) (stk := (fun _ : Unit => [.int v1, .ref aM])) (kc' := 0) (ks' := 0) (n := 1) (C := RX6) (ci := 6) hG dX6_through_3 (kX6_is _ K aM aMk aMj aMc aMw aMr mN mS mX mT mK mC mW mJ p0 v1 hv) gX6_through_X6_is rfl rfl rfl ⟨rfl, by decide, by decide, rfl⟩ ⟨by decide, by decide⟩ (Nat.le_of_ble_eq_true rfl) ⟨(Nat.le_of_ble_eq_true rfl), (Nat.le_of_ble_eq_true rfl)⟩ [0, 1, 2, 3, 4, 5, 6, 7, 8, 9, 10, 11, 12, 13, 14, 15, 16] [] [0, 1, 2, 3, 4, 5, 6, 7, 8, 9, 10, 11, 12, 13, 14, 15, 16] rfl rfl rfl rfl (by decide) rfl (fun _ => rfl) (fun _ => rfl) rfl rfl rfl 0 rfl rfl rfl rfl (fun _ => ?_)
  obtain ⟨v3, hv, hres⟩ := z_bind hres
  have J : zj G 22 [(0, .ref aM), (1, .int p0), (2, .int p1)] [.int v3, .ref aM] ([(aM, .inr (6, [.ref aMk, .ref aMj, .int mN, .int mS, .ref aMc, .ref aMw, .int mX, .int mT])), (aMk, .inl (K.2 0, 12, .inl mK)), (aMj, .inl (K.2 3, 12, .inr (.inr (.inr (.inr (zo aMr 12)))))), (aMc, .inl (K.2 0, 12, .inl mC)), (aMw, .inl (K.2 0, 12, .inl mW))] ++ zR12Z K aMr mJ) 0 0 := by
    refine z_aload_n hG dX6_through_22 0 rfl ?_
    refine z_get (ci := 6) (C := RX6) (T := TX6) (N := 8) hG dX6_through_23 iX6_through_X6 3 (by decide) mX6_through_0 rfl rfl 0 rfl rfl ?_
    obtain ⟨v4, hv, hres⟩ := z_bind hres
    have J : zj G 34 [(0, .ref aM), (1, .int p0), (2, .int p1)] [.int v4, .int v3, .ref aM] ([(aM, .inr (6, [.ref aMk, .ref aMj, .int mN, .int mS, .ref aMc, .ref aMw, .int mX, .int mT])), (aMk, .inl (K.2 0, 12, .inl mK)), (aMj, .inl (K.2 3, 12, .inr (.inr (.inr (.inr (zo aMr 12)))))), (aMc, .inl (K.2 0, 12, .inl mC)), (aMw, .inl (K.2 0, 12, .inl mW))] ++ zR12Z K aMr mJ) 0 0 := by
      refine z_iconst 1 hG dX6_through_34 (by decide) ?_
      obtain ⟨v5, hv, hres⟩ := z_bind hres
      refine z_callV (As := [.int v3, .int v4, .int 1]) (rest := []) (wr := ([(aMk, .inl (K.2 0, 12, .inl mK)), (aMj, .inl (K.2 3, 12, .inr (.inr (.inr (.inr (zo aMr 12)))))), (aMc, .inl (K.2 0, 12, .inl mC)), (aMw, .inl (K.2 0, 12, .inl mW))] ++ zR12Z K aMr mJ)) (ws' := (fun _ : Unit => ([(aM, .inr (6, [.ref aMk, .ref aMj, .int mN, .int mS, .ref aMc, .ref aMw, .int mX, .int v5.2])), (aMk, .inl (K.2 0, 12, .inl mK)), (aMj, .inl (K.2 3, 12, .inr (.inr (.inr (.inr (zo aMr 12)))))), (aMc, .inl (K.2 0, 12, .inl mC)), (aMw, .inl (K.2 0, 12, .inl mW))] ++ zR12Z K aMr mJ))) (stk := (fun _ : Unit => [.int v5.1])) (kc' := 0) (ks' := 0) (n := 3) (C := RX6) (ci := 6) hG dX6_through_35 (kX6_can _ K aM aMk aMj aMc aMw mN mS mX mT v3 v4 1 v5 hv) gX6_through_X6_can rfl rfl rfl ⟨rfl, by decide, by decide, rfl⟩ ⟨by decide, by decide⟩ (Nat.le_of_ble_eq_true rfl) ⟨(Nat.le_of_ble_eq_true rfl), (Nat.le_of_ble_eq_true rfl)⟩ [0] [1, 2, 3, 4, 5, 6, 7, 8, 9, 10, 11, 12, 13, 14, 15, 16] [16, 0, 1, 2, 3, 4, 5, 6, 7, 8, 9, 10, 11, 12, 13, 14, 15] rfl rfl rfl rfl (by decide) rfl (fun _ => rfl) (fun _ => rfl) rfl rfl rfl 0 rfl rfl rfl rfl (fun _ => ?_)
      refine z_if_eq 58 hG dX6_through_38 (by decide) (fun c => ?_) (fun c => ?_)
      · replace hres := z_ifp c hres
        refine z_iconst 0 hG dX6_through_58 (by decide) ?_
        obtain rfl := Option.some.inj hres
        exact (z_wid (Nat.le_of_ble_eq_true rfl) (Nat.le_of_ble_eq_true rfl) (hR _ _ dX6_through_59))
      · replace hres := z_ifn c hres
        refine z_aload_n hG dX6_through_41 0 rfl ?_
        refine z_aload_n hG dX6_through_42 0 rfl ?_
        refine z_iload_n hG dX6_through_43 1 rfl ?_
        obtain ⟨v6, hv, hres⟩ := z_bind hres
        refine z_callV (As := [.int p0]) (rest := [.ref aM]) (wr := ([] : va_W)) (ws' := (fun _ : Unit => ([(aM, .inr (6, [.ref aMk, .ref aMj, .int mN, .int mS, .ref aMc, .ref aMw, .int mX, .int v5.2])), (aMk, .inl (K.2 0, 12, .inl mK)), (aMj, .inl (K.2 3, 12, .inr (.inr (.inr (.inr (zo aMr 12)))))), (aMc, .inl (K.2 0, 12, .inl mC)), (aMw, .inl (K.2 0, 12, .inl mW))] ++ zR12Z K aMr mJ))) (stk := (fun _ : Unit => [.int v6, .ref aM])) (kc' := 0) (ks' := 0) (n := 1) (C := RX6) (ci := 6) hG dX6_through_44 (kX6_at _ K aM aMk aMj aMc aMw aMr mN mS mX v5.2 mK mC mW mJ p0 v6 hv) gX6_through_X6_at rfl rfl rfl ⟨rfl, by decide, by decide, rfl⟩ ⟨by decide, by decide⟩ (Nat.le_of_ble_eq_true rfl) ⟨(Nat.le_of_ble_eq_true rfl), (Nat.le_of_ble_eq_true rfl)⟩ [0, 1, 2, 3, 4, 5, 6, 7, 8, 9, 10, 11, 12, 13, 14, 15, 16] [] [0, 1, 2, 3, 4, 5, 6, 7, 8, 9, 10, 11, 12, 13, 14, 15, 16] rfl rfl rfl rfl (by decide) rfl (fun _ => rfl) (fun _ => rfl) rfl rfl rfl 0 rfl rfl rfl rfl (fun _ => ?_)
        refine z_aload_n hG dX6_through_47 0 rfl ?_
        refine z_iload_n hG dX6_through_48 2 rfl ?_
        obtain ⟨v7, hv, hres⟩ := z_bind hres
        refine z_callV (As := [.int p1]) (rest := [.int v6, .ref aM]) (wr := ([] : va_W)) (ws' := (fun _ : Unit => ([(aM, .inr (6, [.ref aMk, .ref aMj, .int mN, .int mS, .ref aMc, .ref aMw, .int mX, .int v5.2])), (aMk, .inl (K.2 0, 12, .inl mK)), (aMj, .inl (K.2 3, 12, .inr (.inr (.inr (.inr (zo aMr 12)))))), (aMc, .inl (K.2 0, 12, .inl mC)), (aMw, .inl (K.2 0, 12, .inl mW))] ++ zR12Z K aMr mJ))) (stk := (fun _ : Unit => [.int v7, .int v6, .ref aM])) (kc' := 0) (ks' := 0) (n := 1) (C := RX6) (ci := 6) hG dX6_through_49 (kX6_at _ K aM aMk aMj aMc aMw aMr mN mS mX v5.2 mK mC mW mJ p1 v7 hv) gX6_through_X6_at rfl rfl rfl ⟨rfl, by decide, by decide, rfl⟩ ⟨by decide, by decide⟩ (Nat.le_of_ble_eq_true rfl) ⟨(Nat.le_of_ble_eq_true rfl), (Nat.le_of_ble_eq_true rfl)⟩ [0, 1, 2, 3, 4, 5, 6, 7, 8, 9, 10, 11, 12, 13, 14, 15, 16] [] [0, 1, 2, 3, 4, 5, 6, 7, 8, 9, 10, 11, 12, 13, 14, 15, 16] rfl rfl rfl rfl (by decide) rfl (fun _ => rfl) (fun _ => rfl) rfl rfl rfl 0 rfl rfl rfl rfl (fun _ => ?_)
        obtain ⟨v8, hv, hres⟩ := z_bind hres
        refine z_callV (As := [.int v6, .int v7]) (rest := []) (wr := ([] : va_W)) (ws' := (fun _ : Unit => ([(aM, .inr (6, [.ref aMk, .ref aMj, .int mN, .int mS, .ref aMc, .ref aMw, .int mX, .int v5.2])), (aMk, .inl (K.2 0, 12, .inl mK)), (aMj, .inl (K.2 3, 12, .inr (.inr (.inr (.inr (zo aMr 12)))))), (aMc, .inl (K.2 0, 12, .inl mC)), (aMw, .inl (K.2 0, 12, .inl mW))] ++ zR12Z K aMr mJ))) (stk := (fun _ : Unit => [.int v8])) (kc' := 4) (ks' := 48) (n := 2) (C := RX6) (ci := 6) hG dX6_through_52 (kX6_throughs _ K aM aMk aMj aMc aMw aMr mN mS mX v5.2 mK mC mW mJ v6 v7 v8 hv) gX6_through_X6_throughs rfl rfl rfl ⟨rfl, by decide, by decide, rfl⟩ ⟨by decide, by decide⟩ (Nat.le_of_ble_eq_true rfl) ⟨(Nat.le_of_ble_eq_true rfl), (Nat.le_of_ble_eq_true rfl)⟩ [0, 1, 2, 3, 4, 5, 6, 7, 8, 9, 10, 11, 12, 13, 14, 15, 16] [] [0, 1, 2, 3, 4, 5, 6, 7, 8, 9, 10, 11, 12, 13, 14, 15, 16] rfl rfl rfl rfl (by decide) rfl (fun _ => rfl) (fun _ => rfl) rfl rfl rfl 0 rfl rfl rfl rfl (fun _ => ?_)
        refine z_goto 59 hG dX6_through_55 (by decide) ?_
        obtain rfl := Option.some.inj hres
        exact (hR _ _ dX6_through_59)
    replace hres := hv
    clear hv
    refine z_if_lt 33 hG dX6_through_26 (by decide) (fun c => ?_) (fun c => ?_)
    · replace hres := z_ifp c hres
      refine z_iconst 0 hG dX6_through_33 (by decide) ?_
      obtain rfl := Option.some.inj hres
      exact J
    · replace hres := z_ifn c hres
      refine z_iconst 1 hG dX6_through_29 (by decide) ?_
      refine z_goto 34 hG dX6_through_30 (by decide) ?_
      obtain rfl := Option.some.inj hres
      exact J
  replace hres := hv
  clear hv
  refine z_if_eq 21 hG dX6_through_6 (by decide) (fun c => ?_) (fun c => ?_)
  · replace hres := z_ifp c hres
    refine z_iconst 0 hG dX6_through_21 (by decide) ?_
    obtain rfl := Option.some.inj hres
    exact J
  · replace hres := z_ifn c hres
    refine z_aload_n hG dX6_through_9 0 rfl ?_
    refine z_iload_n hG dX6_through_10 2 rfl ?_
    obtain ⟨v9, hv, hres⟩ := z_bind hres
    refine z_callV (As := [.int p1]) (rest := [.ref aM]) (wr := ([] : va_W)) (ws' := (fun _ : Unit => ([(aM, .inr (6, [.ref aMk, .ref aMj, .int mN, .int mS, .ref aMc, .ref aMw, .int mX, .int mT])), (aMk, .inl (K.2 0, 12, .inl mK)), (aMj, .inl (K.2 3, 12, .inr (.inr (.inr (.inr (zo aMr 12)))))), (aMc, .inl (K.2 0, 12, .inl mC)), (aMw, .inl (K.2 0, 12, .inl mW))] ++ zR12Z K aMr mJ))) (stk := (fun _ : Unit => [.int v9, .ref aM])) (kc' := 0) (ks' := 0) (n := 1) (C := RX6) (ci := 6) hG dX6_through_11 (kX6_is _ K aM aMk aMj aMc aMw aMr mN mS mX mT mK mC mW mJ p1 v9 hv) gX6_through_X6_is rfl rfl rfl ⟨rfl, by decide, by decide, rfl⟩ ⟨by decide, by decide⟩ (Nat.le_of_ble_eq_true rfl) ⟨(Nat.le_of_ble_eq_true rfl), (Nat.le_of_ble_eq_true rfl)⟩ [0, 1, 2, 3, 4, 5, 6, 7, 8, 9, 10, 11, 12, 13, 14, 15, 16] [] [0, 1, 2, 3, 4, 5, 6, 7, 8, 9, 10, 11, 12, 13, 14, 15, 16] rfl rfl rfl rfl (by decide) rfl (fun _ => rfl) (fun _ => rfl) rfl rfl rfl 0 rfl rfl rfl rfl (fun _ => ?_)
    refine z_if_eq 21 hG dX6_through_14 (by decide) (fun c => ?_) (fun c => ?_)
    · replace hres := z_ifp c hres
      refine z_iconst 0 hG dX6_through_21 (by decide) ?_
      obtain rfl := Option.some.inj hres
      exact J
    · replace hres := z_ifn c hres
      refine z_iconst 1 hG dX6_through_17 (by decide) ?_
      refine z_goto 22 hG dX6_through_18 (by decide) ?_
      obtain rfl := Option.some.inj hres
      exact J
