theorem dX6_place_0 : decode cX6_place 0 = .ok (.aload_n 0, 1) := by decide +kernel
theorem dX6_place_1 : decode cX6_place 1 = .ok (.aload_n 0, 1) := by decide +kernel
theorem dX6_place_2 : decode cX6_place 2 = .ok (.iload_n 1, 1) := by decide +kernel
theorem dX6_place_3 : decode cX6_place 3 = .ok (.invokevirtual 38, 3) := by decide +kernel
theorem dX6_place_6 : decode cX6_place 6 = .ok (.ifCond .ne 7, 3) := by decide +kernel
theorem dX6_place_9 : decode cX6_place 9 = .ok (.iconst 1, 1) := by decide +kernel
theorem dX6_place_10 : decode cX6_place 10 = .ok (.goto 4, 3) := by decide +kernel
theorem dX6_place_13 : decode cX6_place 13 = .ok (.iconst 0, 1) := by decide +kernel
theorem dX6_place_14 : decode cX6_place 14 = .ok (.aload_n 0, 1) := by decide +kernel
theorem dX6_place_15 : decode cX6_place 15 = .ok (.getfield 31, 3) := by decide +kernel
theorem dX6_place_18 : decode cX6_place 18 = .ok (.bipush 12, 2) := by decide +kernel
theorem dX6_place_20 : decode cX6_place 20 = .ok (.if_icmp .ge 7, 3) := by decide +kernel
theorem dX6_place_23 : decode cX6_place 23 = .ok (.iconst 1, 1) := by decide +kernel
theorem dX6_place_24 : decode cX6_place 24 = .ok (.goto 4, 3) := by decide +kernel
theorem dX6_place_27 : decode cX6_place 27 = .ok (.iconst 0, 1) := by decide +kernel
theorem dX6_place_28 : decode cX6_place 28 = .ok (.iconst 1, 1) := by decide +kernel
theorem dX6_place_29 : decode cX6_place 29 = .ok (.invokevirtual 42, 3) := by decide +kernel
theorem dX6_place_32 : decode cX6_place 32 = .ok (.ifCond .ne 5, 3) := by decide +kernel
theorem dX6_place_35 : decode cX6_place 35 = .ok (.iconst 0, 1) := by decide +kernel
theorem dX6_place_36 : decode cX6_place 36 = .ok (.ireturn, 1) := by decide +kernel
theorem dX6_place_37 : decode cX6_place 37 = .ok (.aload_n 0, 1) := by decide +kernel
theorem dX6_place_38 : decode cX6_place 38 = .ok (.getfield 31, 3) := by decide +kernel
theorem dX6_place_41 : decode cX6_place 41 = .ok (.istore_n 2, 1) := by decide +kernel
theorem dX6_place_42 : decode cX6_place 42 = .ok (.iload_n 2, 1) := by decide +kernel
theorem dX6_place_43 : decode cX6_place 43 = .ok (.ifCond .le 21, 3) := by decide +kernel
theorem dX6_place_46 : decode cX6_place 46 = .ok (.aload_n 0, 1) := by decide +kernel
theorem dX6_place_47 : decode cX6_place 47 = .ok (.getfield 9, 3) := by decide +kernel
theorem dX6_place_50 : decode cX6_place 50 = .ok (.iload_n 2, 1) := by decide +kernel
theorem dX6_place_51 : decode cX6_place 51 = .ok (.iconst 1, 1) := by decide +kernel
theorem dX6_place_52 : decode cX6_place 52 = .ok (.isub, 1) := by decide +kernel
theorem dX6_place_53 : decode cX6_place 53 = .ok (.iaload, 1) := by decide +kernel
theorem dX6_place_54 : decode cX6_place 54 = .ok (.iload_n 1, 1) := by decide +kernel
theorem dX6_place_55 : decode cX6_place 55 = .ok (.if_icmp .le 9, 3) := by decide +kernel
theorem dX6_place_58 : decode cX6_place 58 = .ok (.iinc 2 (-1), 3) := by decide +kernel
theorem dX6_place_61 : decode cX6_place 61 = .ok (.goto (-19), 3) := by decide +kernel
theorem dX6_place_64 : decode cX6_place 64 = .ok (.aload_n 0, 1) := by decide +kernel
theorem dX6_place_65 : decode cX6_place 65 = .ok (.getfield 31, 3) := by decide +kernel
theorem dX6_place_68 : decode cX6_place 68 = .ok (.istore_n 3, 1) := by decide +kernel
theorem dX6_place_69 : decode cX6_place 69 = .ok (.iload_n 3, 1) := by decide +kernel
theorem dX6_place_70 : decode cX6_place 70 = .ok (.iload_n 2, 1) := by decide +kernel
theorem dX6_place_71 : decode cX6_place 71 = .ok (.if_icmp .le 23, 3) := by decide +kernel
theorem dX6_place_74 : decode cX6_place 74 = .ok (.aload_n 0, 1) := by decide +kernel
theorem dX6_place_75 : decode cX6_place 75 = .ok (.getfield 9, 3) := by decide +kernel
theorem dX6_place_78 : decode cX6_place 78 = .ok (.iload_n 3, 1) := by decide +kernel
theorem dX6_place_79 : decode cX6_place 79 = .ok (.aload_n 0, 1) := by decide +kernel
theorem dX6_place_80 : decode cX6_place 80 = .ok (.getfield 9, 3) := by decide +kernel
theorem dX6_place_83 : decode cX6_place 83 = .ok (.iload_n 3, 1) := by decide +kernel
theorem dX6_place_84 : decode cX6_place 84 = .ok (.iconst 1, 1) := by decide +kernel
theorem dX6_place_85 : decode cX6_place 85 = .ok (.isub, 1) := by decide +kernel
theorem dX6_place_86 : decode cX6_place 86 = .ok (.iaload, 1) := by decide +kernel
theorem dX6_place_87 : decode cX6_place 87 = .ok (.iastore, 1) := by decide +kernel
theorem dX6_place_88 : decode cX6_place 88 = .ok (.iinc 3 (-1), 3) := by decide +kernel
theorem dX6_place_91 : decode cX6_place 91 = .ok (.goto (-22), 3) := by decide +kernel
theorem dX6_place_94 : decode cX6_place 94 = .ok (.aload_n 0, 1) := by decide +kernel
theorem dX6_place_95 : decode cX6_place 95 = .ok (.getfield 9, 3) := by decide +kernel
theorem dX6_place_98 : decode cX6_place 98 = .ok (.iload_n 2, 1) := by decide +kernel
theorem dX6_place_99 : decode cX6_place 99 = .ok (.iload_n 1, 1) := by decide +kernel
theorem dX6_place_100 : decode cX6_place 100 = .ok (.iastore, 1) := by decide +kernel
theorem dX6_place_101 : decode cX6_place 101 = .ok (.aload_n 0, 1) := by decide +kernel
theorem dX6_place_102 : decode cX6_place 102 = .ok (.dup, 1) := by decide +kernel
theorem dX6_place_103 : decode cX6_place 103 = .ok (.getfield 31, 3) := by decide +kernel
theorem dX6_place_106 : decode cX6_place 106 = .ok (.iconst 1, 1) := by decide +kernel
theorem dX6_place_107 : decode cX6_place 107 = .ok (.iadd, 1) := by decide +kernel
theorem dX6_place_108 : decode cX6_place 108 = .ok (.putfield 31, 3) := by decide +kernel
theorem dX6_place_111 : decode cX6_place 111 = .ok (.aload_n 0, 1) := by decide +kernel
theorem dX6_place_112 : decode cX6_place 112 = .ok (.getfield 31, 3) := by decide +kernel
theorem dX6_place_115 : decode cX6_place 115 = .ok (.iconst 1, 1) := by decide +kernel
theorem dX6_place_116 : decode cX6_place 116 = .ok (.isub, 1) := by decide +kernel
theorem dX6_place_117 : decode cX6_place 117 = .ok (.istore_n 3, 1) := by decide +kernel
theorem dX6_place_118 : decode cX6_place 118 = .ok (.iload_n 3, 1) := by decide +kernel
theorem dX6_place_119 : decode cX6_place 119 = .ok (.ifCond .lt 89, 3) := by decide +kernel
theorem dX6_place_122 : decode cX6_place 122 = .ok (.aload_n 0, 1) := by decide +kernel
theorem dX6_place_123 : decode cX6_place 123 = .ok (.getfield 31, 3) := by decide +kernel
theorem dX6_place_126 : decode cX6_place 126 = .ok (.iconst 1, 1) := by decide +kernel
theorem dX6_place_127 : decode cX6_place 127 = .ok (.isub, 1) := by decide +kernel
theorem dX6_place_128 : decode cX6_place 128 = .ok (.istore 4, 2) := by decide +kernel
theorem dX6_place_130 : decode cX6_place 130 = .ok (.iload 4, 2) := by decide +kernel
theorem dX6_place_132 : decode cX6_place 132 = .ok (.ifCond .lt 70, 3) := by decide +kernel
theorem dX6_place_135 : decode cX6_place 135 = .ok (.aload_n 0, 1) := by decide +kernel
theorem dX6_place_136 : decode cX6_place 136 = .ok (.getfield 15, 3) := by decide +kernel
theorem dX6_place_139 : decode cX6_place 139 = .ok (.iload_n 3, 1) := by decide +kernel
theorem dX6_place_140 : decode cX6_place 140 = .ok (.aaload, 1) := by decide +kernel
theorem dX6_place_141 : decode cX6_place 141 = .ok (.iload 4, 2) := by decide +kernel
theorem dX6_place_143 : decode cX6_place 143 = .ok (.iload_n 3, 1) := by decide +kernel
theorem dX6_place_144 : decode cX6_place 144 = .ok (.iload_n 2, 1) := by decide +kernel
theorem dX6_place_145 : decode cX6_place 145 = .ok (.if_icmp .eq 49, 3) := by decide +kernel
theorem dX6_place_148 : decode cX6_place 148 = .ok (.iload 4, 2) := by decide +kernel
theorem dX6_place_150 : decode cX6_place 150 = .ok (.iload_n 2, 1) := by decide +kernel
theorem dX6_place_151 : decode cX6_place 151 = .ok (.if_icmp .eq 43, 3) := by decide +kernel
theorem dX6_place_154 : decode cX6_place 154 = .ok (.aload_n 0, 1) := by decide +kernel
theorem dX6_place_155 : decode cX6_place 155 = .ok (.getfield 15, 3) := by decide +kernel
theorem dX6_place_158 : decode cX6_place 158 = .ok (.iload_n 3, 1) := by decide +kernel
theorem dX6_place_159 : decode cX6_place 159 = .ok (.iload_n 2, 1) := by decide +kernel
theorem dX6_place_160 : decode cX6_place 160 = .ok (.if_icmp .le 9, 3) := by decide +kernel
theorem dX6_place_163 : decode cX6_place 163 = .ok (.iload_n 3, 1) := by decide +kernel
theorem dX6_place_164 : decode cX6_place 164 = .ok (.iconst 1, 1) := by decide +kernel
theorem dX6_place_165 : decode cX6_place 165 = .ok (.isub, 1) := by decide +kernel
theorem dX6_place_166 : decode cX6_place 166 = .ok (.goto 4, 3) := by decide +kernel
theorem dX6_place_169 : decode cX6_place 169 = .ok (.iload_n 3, 1) := by decide +kernel
theorem dX6_place_170 : decode cX6_place 170 = .ok (.aaload, 1) := by decide +kernel
theorem dX6_place_171 : decode cX6_place 171 = .ok (.iload 4, 2) := by decide +kernel
theorem dX6_place_173 : decode cX6_place 173 = .ok (.iload_n 2, 1) := by decide +kernel
theorem dX6_place_174 : decode cX6_place 174 = .ok (.if_icmp .le 10, 3) := by decide +kernel
theorem dX6_place_177 : decode cX6_place 177 = .ok (.iload 4, 2) := by decide +kernel
theorem dX6_place_179 : decode cX6_place 179 = .ok (.iconst 1, 1) := by decide +kernel
theorem dX6_place_180 : decode cX6_place 180 = .ok (.isub, 1) := by decide +kernel
theorem dX6_place_181 : decode cX6_place 181 = .ok (.goto 5, 3) := by decide +kernel
theorem dX6_place_184 : decode cX6_place 184 = .ok (.iload 4, 2) := by decide +kernel
theorem dX6_place_186 : decode cX6_place 186 = .ok (.baload, 1) := by decide +kernel
theorem dX6_place_187 : decode cX6_place 187 = .ok (.ifCond .eq 7, 3) := by decide +kernel
theorem dX6_place_190 : decode cX6_place 190 = .ok (.iconst 1, 1) := by decide +kernel
theorem dX6_place_191 : decode cX6_place 191 = .ok (.goto 4, 3) := by decide +kernel
theorem dX6_place_194 : decode cX6_place 194 = .ok (.iconst 0, 1) := by decide +kernel
theorem dX6_place_195 : decode cX6_place 195 = .ok (.bastore, 1) := by decide +kernel
theorem dX6_place_196 : decode cX6_place 196 = .ok (.iinc 4 (-1), 3) := by decide +kernel
theorem dX6_place_199 : decode cX6_place 199 = .ok (.goto (-69), 3) := by decide +kernel
theorem dX6_place_202 : decode cX6_place 202 = .ok (.iinc 3 (-1), 3) := by decide +kernel
theorem dX6_place_205 : decode cX6_place 205 = .ok (.goto (-87), 3) := by decide +kernel
theorem dX6_place_208 : decode cX6_place 208 = .ok (.aload_n 0, 1) := by decide +kernel
theorem dX6_place_209 : decode cX6_place 209 = .ok (.aload_n 0, 1) := by decide +kernel
theorem dX6_place_210 : decode cX6_place 210 = .ok (.getfield 18, 3) := by decide +kernel
theorem dX6_place_213 : decode cX6_place 213 = .ok (.iload_n 2, 1) := by decide +kernel
theorem dX6_place_214 : decode cX6_place 214 = .ok (.if_icmp .lt 12, 3) := by decide +kernel
theorem dX6_place_217 : decode cX6_place 217 = .ok (.aload_n 0, 1) := by decide +kernel
theorem dX6_place_218 : decode cX6_place 218 = .ok (.getfield 18, 3) := by decide +kernel
theorem dX6_place_221 : decode cX6_place 221 = .ok (.iconst 1, 1) := by decide +kernel
theorem dX6_place_222 : decode cX6_place 222 = .ok (.iadd, 1) := by decide +kernel
theorem dX6_place_223 : decode cX6_place 223 = .ok (.goto 7, 3) := by decide +kernel
theorem dX6_place_226 : decode cX6_place 226 = .ok (.aload_n 0, 1) := by decide +kernel
theorem dX6_place_227 : decode cX6_place 227 = .ok (.getfield 18, 3) := by decide +kernel
theorem dX6_place_230 : decode cX6_place 230 = .ok (.putfield 18, 3) := by decide +kernel
theorem dX6_place_233 : decode cX6_place 233 = .ok (.aload_n 0, 1) := by decide +kernel
theorem dX6_place_234 : decode cX6_place 234 = .ok (.iconst 0, 1) := by decide +kernel
theorem dX6_place_235 : decode cX6_place 235 = .ok (.putfield 46, 3) := by decide +kernel
theorem dX6_place_238 : decode cX6_place 238 = .ok (.aload_n 0, 1) := by decide +kernel
theorem dX6_place_239 : decode cX6_place 239 = .ok (.getfield 31, 3) := by decide +kernel
theorem dX6_place_242 : decode cX6_place 242 = .ok (.ireturn, 1) := by decide +kernel
set_option maxRecDepth 20000 in
theorem ggX6_place_X6_is : GoodIn wsX6_place wsX6_is := goodIn_r _ [10, 11, 12, 13, 9, 14, 1, 2, 20, 21, 22, 23, 24, 25, 26, 27] (by decide +kernel) (by decide +kernel)
set_option maxRecDepth 20000 in
theorem gX6_place_X6_is : GoodIn wsX6_place (wsV RX6 38 RX6 yX6_is wsX6_is) := goodIn_app (goodIn_of _ (by decide +kernel)) ggX6_place_X6_is
set_option maxRecDepth 20000 in
theorem ggX6_place_X6_can : GoodIn wsX6_place wsX6_can := goodIn_r _ [18, 19, 20, 21, 22, 23, 24, 25, 26, 27] (by decide +kernel) (by decide +kernel)
set_option maxRecDepth 20000 in
theorem gX6_place_X6_can : GoodIn wsX6_place (wsV RX6 42 RX6 yX6_can wsX6_can) := goodIn_app (goodIn_of _ (by decide +kernel)) ggX6_place_X6_can
theorem mX6_place_0 : Cond.fieldLink RX6 31 "LayerwaysModel" "many" "I" ∈ wsX6_place := by decide +kernel
theorem iX6_place_X6 : ∀ w ∈ u_ws RX6 TX6 8, w ∈ wsX6_place := by decide +kernel
theorem mX6_place_2 : Cond.fieldLink RX6 9 "LayerwaysModel" "keys" "[I" ∈ wsX6_place := by decide +kernel
theorem mX6_place_3 : Cond.fieldLink RX6 15 "LayerwaysModel" "joined" "[[Z" ∈ wsX6_place := by decide +kernel
theorem mX6_place_4 : Cond.fieldLink RX6 18 "LayerwaysModel" "start" "I" ∈ wsX6_place := by decide +kernel
theorem mX6_place_5 : Cond.fieldLink RX6 46 "LayerwaysModel" "changes" "I" ∈ wsX6_place := by decide +kernel
def sX6_place_42 (mK : (Nat → Int32)) (p0 : Int32) (s5 : Int32) : Option (Int32 ⊕ Int32) := if s5 ≤ 0 then some (.inl s5) else if zin (s5 - 1) 12 then if (mK (s5 - 1).toNatClampNeg) ≤ p0 then some (.inl s5) else some (.inr (s5 + (-1))) else none
def sX6_place_69 (e7 : Int32) (s9 : Int32 × (Nat → Int32)) : Option ((Int32 × (Nat → Int32)) ⊕ (Int32 × (Nat → Int32))) := if s9.1 ≤ e7 then some (.inl (s9.1, s9.2)) else if zin (s9.1 - 1) 12 then if zin s9.1 12 then some (.inr ((s9.1 + (-1)), (upd s9.2 s9.1.toNatClampNeg (s9.2 (s9.1 - 1).toNatClampNeg)))) else none else none
def sX6_place_130 (e7 : Int32) (s69 : Int32 × (Nat → Nat → Int32)) (s89 : Int32 × (Nat → Nat → Int32)) : Option ((Int32 × (Nat → Nat → Int32)) ⊕ (Int32 × (Nat → Nat → Int32))) := if s89.1 < 0 then some (.inl (s89.1, s89.2)) else if zin s69.1 12 then if s69.1 = e7 then if zin s89.1 12 then (some (zup2 s89.2 s69.1.toNatClampNeg s89.1.toNatClampNeg 0) : Option (Nat → Nat → Int32)).bind fun M94 => some (.inr ((s89.1 + (-1)), M94)) else none else if s89.1 = e7 then if zin s89.1 12 then (some (zup2 s89.2 s69.1.toNatClampNeg s89.1.toNatClampNeg 0) : Option (Nat → Nat → Int32)).bind fun M95 => some (.inr ((s89.1 + (-1)), M95)) else none else ((if s69.1 ≤ e7 then some s69.1 else some (s69.1 - 1)) : Option Int32).bind fun v96 => if zin v96 12 then ((if s89.1 ≤ e7 then some s89.1 else some (s89.1 - 1)) : Option Int32).bind fun v98 => if zin v98 12 then if (s89.2 v96.toNatClampNeg v98.toNatClampNeg) = 0 then if zin s89.1 12 then (some (zup2 s89.2 s69.1.toNatClampNeg s89.1.toNatClampNeg 0) : Option (Nat → Nat → Int32)).bind fun M99 => some (.inr ((s89.1 + (-1)), M99)) else none else if zin s89.1 12 then (some (zup2 s89.2 s69.1.toNatClampNeg s89.1.toNatClampNeg 1) : Option (Nat → Nat → Int32)).bind fun M100 => some (.inr ((s89.1 + (-1)), M100)) else none else none else none else none
def sX6_place_118 (mN : Int32) (e7 : Int32) (s69 : Int32 × (Nat → Nat → Int32)) : Option ((Int32 × (Nat → Nat → Int32)) ⊕ (Int32 × (Nat → Nat → Int32))) := if s69.1 < 0 then some (.inl (s69.1, s69.2)) else (zloop (sX6_place_130 e7 s69) 32 (((mN + 1) - 1), s69.2)).bind fun e91 => some (.inr ((s69.1 + (-1)), e91.2))
def fX6_place (mN : Int32) (mS : Int32) (mX : Int32) (mK : (Nat → Int32)) (mJ : (Nat → Nat → Int32)) (p0 : Int32) : Option (Int32 × Int32 × Int32 × Int32 × Int32 × (Nat → Int32) × (Nat → Nat → Int32)) := (fX6_is mN mK p0).bind fun v1 => ((if v1 = 0 then some 1 else some 0) : Option Int32).bind fun v2 => ((if 12 ≤ mN then some 0 else some 1) : Option Int32).bind fun v3 => (fX6_can v2 v3 1).bind fun v4 => if v4.1 = 0 then some (0, mN, mS, mX, v4.2, mK, mJ) else (zloop (sX6_place_42 mK p0) 32 mN).bind fun e7 => (zloop (sX6_place_69 e7) 32 (mN, mK)).bind fun e11 => if zin e7 12 then (zloop (sX6_place_118 mN e7) 32 (((mN + 1) - 1), mJ)).bind fun e71 => if mS < e7 then some ((mN + 1), (mN + 1), mS, 0, v4.2, (upd e11.2 e7.toNatClampNeg p0), e71.2) else some ((mN + 1), (mN + 1), (mS + 1), 0, v4.2, (upd e11.2 e7.toNatClampNeg p0), e71.2) else none
set_option maxRecDepth 100000 in
set_option maxHeartbeats 4000000 in
theorem kX6_place (l : Launch) (K : zK) (aM : Nat) (aMk : Nat) (aMj : Nat) (aMc : Nat) (aMw : Nat) (aMr : (Nat → Nat))  (mN : Int32) (mS : Int32) (mX : Int32) (mT : Int32) (mK : (Nat → Int32)) (mC : (Nat → Int32)) (mW : (Nat → Int32)) (mJ : (Nat → Nat → Int32)) (p0 : Int32) (r : Int32 × Int32 × Int32 × Int32 × Int32 × (Nat → Int32) × (Nat → Nat → Int32)) (hres : fX6_place mN mS mX mK mJ p0 = some r) : zM l K yX6_place wsX6_place ({ frames := 2, cells := 0, slots := 0, locals := 43 }) [.ref aM, .int p0] ([(aM, .inr (6, [.ref aMk, .ref aMj, .int mN, .int mS, .ref aMc, .ref aMw, .int mX, .int mT])), (aMk, .inl (K.2 0, 12, .inl mK)), (aMj, .inl (K.2 3, 12, .inr (.inr (.inr (.inr (zo aMr 12)))))), (aMc, .inl (K.2 0, 12, .inl mC)), (aMw, .inl (K.2 0, 12, .inl mW))] ++ zR12Z K aMr mJ) (fun _ : Unit => some (.int r.1)) (fun _ : Unit => ([(aM, .inr (6, [.ref aMk, .ref aMj, .int r.2.1, .int r.2.2.1, .ref aMc, .ref aMw, .int r.2.2.2.1, .int r.2.2.2.2.1])), (aMk, .inl (K.2 0, 12, .inl r.2.2.2.2.2.1)), (aMj, .inl (K.2 3, 12, .inr (.inr (.inr (.inr (zo aMr 12)))))), (aMc, .inl (K.2 0, 12, .inl mC)), (aMw, .inl (K.2 0, 12, .inl mW))] ++ zR12Z K aMr r.2.2.2.2.2.2)) 0 0 := by
  refine zM.intI (cc := cX6_place) (maxL := 5) (ret := (some .int)) rfl (by decide) (Nat.le_of_ble_eq_true rfl) rfl ?_
  intro G hGl hG hN hE
  have hR : ∀ (pc : Nat) (lv : zL), decode cX6_place pc = .ok (.ireturn, 1) → zj G pc lv [.int r.1] ([(aM, .inr (6, [.ref aMk, .ref aMj, .int r.2.1, .int r.2.2.1, .ref aMc, .ref aMw, .int r.2.2.2.1, .int r.2.2.2.2.1])), (aMk, .inl (K.2 0, 12, .inl r.2.2.2.2.2.1)), (aMj, .inl (K.2 3, 12, .inr (.inr (.inr (.inr (zo aMr 12)))))), (aMc, .inl (K.2 0, 12, .inl mC)), (aMw, .inl (K.2 0, 12, .inl mW))] ++ zR12Z K aMr r.2.2.2.2.2.2) 0 0 := fun pc lv d => hE () _ rfl pc lv d
  clear hE
  unfold fX6_place at hres
  show zj G 0 [(0, .ref aM), (1, .int p0)] [] ([(aM, .inr (6, [.ref aMk, .ref aMj, .int mN, .int mS, .ref aMc, .ref aMw, .int mX, .int mT])), (aMk, .inl (K.2 0, 12, .inl mK)), (aMj, .inl (K.2 3, 12, .inr (.inr (.inr (.inr (zo aMr 12)))))), (aMc, .inl (K.2 0, 12, .inl mC)), (aMw, .inl (K.2 0, 12, .inl mW))] ++ zR12Z K aMr mJ) 0 0
  refine z_aload_n hG dX6_place_0 0 rfl ?_
  refine z_aload_n hG dX6_place_1 0 rfl ?_
  refine z_iload_n hG dX6_place_2 1 rfl ?_
  obtain ⟨v1, hv, hres⟩ := z_bind hres
  refine z_callV (As := [.int p0]) (rest := [.ref aM]) (wr := ([] : va_W)) (ws' := (fun _ : Unit => ([(aM, .inr (6, [.ref aMk, .ref aMj, .int mN, .int mS, .ref aMc, .ref aMw, .int mX, .int mT])), (aMk, .inl (K.2 0, 12, .inl mK)), (aMj, .inl (K.2 3, 12, .inr (.inr (.inr (.inr (zo aMr 12)))))), (aMc, .inl (K.2 0, 12, .inl mC)), (aMw, .inl (K.2 0, 12, .inl mW))] ++ zR12Z K aMr mJ))) (stk := (fun _ : Unit => [.int v1, .ref aM])) (kc' := 0) (ks' := 0) (n := 1) (C := RX6) (ci := 6) hG dX6_place_3 (kX6_is _ K aM aMk aMj aMc aMw aMr mN mS mX mT mK mC mW mJ p0 v1 hv) gX6_place_X6_is rfl rfl rfl ⟨rfl, by decide, by decide, rfl⟩ ⟨by decide, by decide⟩ (Nat.le_of_ble_eq_true rfl) ⟨(Nat.le_of_ble_eq_true rfl), (Nat.le_of_ble_eq_true rfl)⟩ [0, 1, 2, 3, 4, 5, 6, 7, 8, 9, 10, 11, 12, 13, 14, 15, 16] [] [0, 1, 2, 3, 4, 5, 6, 7, 8, 9, 10, 11, 12, 13, 14, 15, 16] rfl rfl rfl rfl (by decide) rfl (fun _ => rfl) (fun _ => rfl) rfl rfl rfl 0 rfl rfl rfl rfl (fun _ => ?_)
  obtain ⟨v2, hv, hres⟩ := z_bind hres
  have J : zj G 14 [(0, .ref aM), (1, .int p0)] [.int v2, .ref aM] ([(aM, .inr (6, [.ref aMk, .ref aMj, .int mN, .int mS, .ref aMc, .ref aMw, .int mX, .int mT])), (aMk, .inl (K.2 0, 12, .inl mK)), (aMj, .inl (K.2 3, 12, .inr (.inr (.inr (.inr (zo aMr 12)))))), (aMc, .inl (K.2 0, 12, .inl mC)), (aMw, .inl (K.2 0, 12, .inl mW))] ++ zR12Z K aMr mJ) 0 0 := by
    refine z_aload_n hG dX6_place_14 0 rfl ?_
    refine z_get (ci := 6) (C := RX6) (T := TX6) (N := 8) hG dX6_place_15 iX6_place_X6 2 (by decide) mX6_place_0 rfl rfl 0 rfl rfl ?_
    refine z_bipush 12 hG dX6_place_18 (by decide) ?_
    obtain ⟨v3, hv, hres⟩ := z_bind hres
    have J : zj G 28 [(0, .ref aM), (1, .int p0)] [.int v3, .int v2, .ref aM] ([(aM, .inr (6, [.ref aMk, .ref aMj, .int mN, .int mS, .ref aMc, .ref aMw, .int mX, .int mT])), (aMk, .inl (K.2 0, 12, .inl mK)), (aMj, .inl (K.2 3, 12, .inr (.inr (.inr (.inr (zo aMr 12)))))), (aMc, .inl (K.2 0, 12, .inl mC)), (aMw, .inl (K.2 0, 12, .inl mW))] ++ zR12Z K aMr mJ) 0 0 := by
      refine z_iconst 1 hG dX6_place_28 (by decide) ?_
      obtain ⟨v4, hv, hres⟩ := z_bind hres
      refine z_callV (As := [.int v2, .int v3, .int 1]) (rest := []) (wr := ([(aMk, .inl (K.2 0, 12, .inl mK)), (aMj, .inl (K.2 3, 12, .inr (.inr (.inr (.inr (zo aMr 12)))))), (aMc, .inl (K.2 0, 12, .inl mC)), (aMw, .inl (K.2 0, 12, .inl mW))] ++ zR12Z K aMr mJ)) (ws' := (fun _ : Unit => ([(aM, .inr (6, [.ref aMk, .ref aMj, .int mN, .int mS, .ref aMc, .ref aMw, .int mX, .int v4.2])), (aMk, .inl (K.2 0, 12, .inl mK)), (aMj, .inl (K.2 3, 12, .inr (.inr (.inr (.inr (zo aMr 12)))))), (aMc, .inl (K.2 0, 12, .inl mC)), (aMw, .inl (K.2 0, 12, .inl mW))] ++ zR12Z K aMr mJ))) (stk := (fun _ : Unit => [.int v4.1])) (kc' := 0) (ks' := 0) (n := 3) (C := RX6) (ci := 6) hG dX6_place_29 (kX6_can _ K aM aMk aMj aMc aMw mN mS mX mT v2 v3 1 v4 hv) gX6_place_X6_can rfl rfl rfl ⟨rfl, by decide, by decide, rfl⟩ ⟨by decide, by decide⟩ (Nat.le_of_ble_eq_true rfl) ⟨(Nat.le_of_ble_eq_true rfl), (Nat.le_of_ble_eq_true rfl)⟩ [0] [1, 2, 3, 4, 5, 6, 7, 8, 9, 10, 11, 12, 13, 14, 15, 16] [16, 0, 1, 2, 3, 4, 5, 6, 7, 8, 9, 10, 11, 12, 13, 14, 15] rfl rfl rfl rfl (by decide) rfl (fun _ => rfl) (fun _ => rfl) rfl rfl rfl 0 rfl rfl rfl rfl (fun _ => ?_)
      refine z_if_ne 37 hG dX6_place_32 (by decide) (fun c => ?_) (fun c => ?_)
      · replace hres := z_ifn c hres
        refine z_aload_n hG dX6_place_37 0 rfl ?_
        refine z_get (ci := 6) (C := RX6) (T := TX6) (N := 8) hG dX6_place_38 iX6_place_X6 2 (by decide) mX6_place_0 rfl rfl 0 rfl rfl ?_
        refine z_istore_n (lv' := [(2, .int mN), (0, .ref aM), (1, .int p0)]) hG dX6_place_41 (by decide) rfl ?_
        obtain ⟨e7, hx, hres⟩ := z_bind hres
        refine z_lv [1, 2, 0] (lv' := [(0, .ref aM), (1, .int p0), (2, .int mN)]) rfl ?_
        refine z_loop hx (fun s5 : Int32 => [(0, .ref aM), (1, .int p0), (2, .int s5)]) (fun s5 : Int32 => ([(aM, .inr (6, [.ref aMk, .ref aMj, .int mN, .int mS, .ref aMc, .ref aMw, .int mX, .int v4.2])), (aMk, .inl (K.2 0, 12, .inl mK)), (aMj, .inl (K.2 3, 12, .inr (.inr (.inr (.inr (zo aMr 12)))))), (aMc, .inl (K.2 0, 12, .inl mC)), (aMw, .inl (K.2 0, 12, .inl mW))] ++ zR12Z K aMr mJ)) (fun e7 : Int32 => zj G 64 [(0, .ref aM), (1, .int p0), (2, .int e7)] [] ([(aM, .inr (6, [.ref aMk, .ref aMj, .int mN, .int mS, .ref aMc, .ref aMw, .int mX, .int v4.2])), (aMk, .inl (K.2 0, 12, .inl mK)), (aMj, .inl (K.2 3, 12, .inr (.inr (.inr (.inr (zo aMr 12)))))), (aMc, .inl (K.2 0, 12, .inl mC)), (aMw, .inl (K.2 0, 12, .inl mW))] ++ zR12Z K aMr mJ) 0 0) ?_ ?_
        · refine z_aload_n hG dX6_place_64 0 rfl ?_
          refine z_get (ci := 6) (C := RX6) (T := TX6) (N := 8) hG dX6_place_65 iX6_place_X6 2 (by decide) mX6_place_0 rfl rfl 0 rfl rfl ?_
          refine z_istore_n (lv' := [(3, .int mN), (0, .ref aM), (1, .int p0), (2, .int e7)]) hG dX6_place_68 (by decide) rfl ?_
          obtain ⟨e11, hx, hres⟩ := z_bind hres
          refine z_lv [1, 2, 3, 0] (lv' := [(0, .ref aM), (1, .int p0), (2, .int e7), (3, .int mN)]) rfl ?_
          refine z_loop hx (fun s9 : Int32 × (Nat → Int32) => [(0, .ref aM), (1, .int p0), (2, .int e7), (3, .int s9.1)]) (fun s9 : Int32 × (Nat → Int32) => ([(aM, .inr (6, [.ref aMk, .ref aMj, .int mN, .int mS, .ref aMc, .ref aMw, .int mX, .int v4.2])), (aMk, .inl (K.2 0, 12, .inl s9.2)), (aMj, .inl (K.2 3, 12, .inr (.inr (.inr (.inr (zo aMr 12)))))), (aMc, .inl (K.2 0, 12, .inl mC)), (aMw, .inl (K.2 0, 12, .inl mW))] ++ zR12Z K aMr mJ)) (fun e11 : Int32 × (Nat → Int32) => zj G 94 [(0, .ref aM), (1, .int p0), (2, .int e7), (3, .int e11.1)] [] ([(aM, .inr (6, [.ref aMk, .ref aMj, .int mN, .int mS, .ref aMc, .ref aMw, .int mX, .int v4.2])), (aMk, .inl (K.2 0, 12, .inl e11.2)), (aMj, .inl (K.2 3, 12, .inr (.inr (.inr (.inr (zo aMr 12)))))), (aMc, .inl (K.2 0, 12, .inl mC)), (aMw, .inl (K.2 0, 12, .inl mW))] ++ zR12Z K aMr mJ) 0 0) ?_ ?_
          · refine z_aload_n hG dX6_place_94 0 rfl ?_
            refine z_get (ci := 6) (C := RX6) (T := TX6) (N := 8) hG dX6_place_95 iX6_place_X6 0 (by decide) mX6_place_2 rfl rfl 0 rfl rfl ?_
            refine z_iload_n hG dX6_place_98 2 rfl ?_
            refine z_iload_n hG dX6_place_99 1 rfl ?_
            obtain ⟨hg, hres⟩ := z_guard hres
            refine z_iast (ws' := ([(aM, .inr (6, [.ref aMk, .ref aMj, .int mN, .int mS, .ref aMc, .ref aMw, .int mX, .int v4.2])), (aMk, .inl (K.2 0, 12, .inl (upd e11.2 e7.toNatClampNeg p0))), (aMj, .inl (K.2 3, 12, .inr (.inr (.inr (.inr (zo aMr 12)))))), (aMc, .inl (K.2 0, 12, .inl mC)), (aMw, .inl (K.2 0, 12, .inl mW))] ++ zR12Z K aMr mJ)) hG dX6_place_100 1 rfl hg rfl ?_
            refine z_aload_n hG dX6_place_101 0 rfl ?_
            refine z_dup hG dX6_place_102 rfl ?_
            refine z_get (ci := 6) (C := RX6) (T := TX6) (N := 8) hG dX6_place_103 iX6_place_X6 2 (by decide) mX6_place_0 rfl rfl 0 rfl rfl ?_
            refine z_iconst 1 hG dX6_place_106 (by decide) ?_
            refine z_iadd hG dX6_place_107 ?_
            refine z_put (ci := 6) (C := RX6) (T := TX6) (N := 8) (ws' := ([(aM, .inr (6, [.ref aMk, .ref aMj, .int (mN + 1), .int mS, .ref aMc, .ref aMw, .int mX, .int v4.2])), (aMk, .inl (K.2 0, 12, .inl (upd e11.2 e7.toNatClampNeg p0))), (aMj, .inl (K.2 3, 12, .inr (.inr (.inr (.inr (zo aMr 12)))))), (aMc, .inl (K.2 0, 12, .inl mC)), (aMw, .inl (K.2 0, 12, .inl mW))] ++ zR12Z K aMr mJ)) hG dX6_place_108 iX6_place_X6 tyX6_ok nmX6 2 (by decide) mX6_place_0 rfl rfl rfl rfl rfl rfl 0 rfl (Nat.le_of_ble_eq_true rfl) rfl ?_
            refine z_aload_n hG dX6_place_111 0 rfl ?_
            refine z_get (ci := 6) (C := RX6) (T := TX6) (N := 8) hG dX6_place_112 iX6_place_X6 2 (by decide) mX6_place_0 rfl rfl 0 rfl rfl ?_
            refine z_iconst 1 hG dX6_place_115 (by decide) ?_
            refine z_isub hG dX6_place_116 ?_
            refine z_istore_n (lv' := [(3, .int ((mN + 1) - 1)), (0, .ref aM), (1, .int p0), (2, .int e7)]) hG dX6_place_117 (by decide) rfl ?_
            obtain ⟨e71, hx, hres⟩ := z_bind hres
            refine z_lv [1, 2, 3, 0] (lv' := [(0, .ref aM), (1, .int p0), (2, .int e7), (3, .int ((mN + 1) - 1))]) rfl ?_
            refine z_loop hx (fun s69 : Int32 × (Nat → Nat → Int32) => [(0, .ref aM), (1, .int p0), (2, .int e7), (3, .int s69.1)]) (fun s69 : Int32 × (Nat → Nat → Int32) => ([(aM, .inr (6, [.ref aMk, .ref aMj, .int (mN + 1), .int mS, .ref aMc, .ref aMw, .int mX, .int v4.2])), (aMk, .inl (K.2 0, 12, .inl (upd e11.2 e7.toNatClampNeg p0))), (aMj, .inl (K.2 3, 12, .inr (.inr (.inr (.inr (zo aMr 12)))))), (aMc, .inl (K.2 0, 12, .inl mC)), (aMw, .inl (K.2 0, 12, .inl mW))] ++ zR12Z K aMr s69.2)) (fun e71 : Int32 × (Nat → Nat → Int32) => zj G 208 [(0, .ref aM), (1, .int p0), (2, .int e7), (3, .int e71.1)] [] ([(aM, .inr (6, [.ref aMk, .ref aMj, .int (mN + 1), .int mS, .ref aMc, .ref aMw, .int mX, .int v4.2])), (aMk, .inl (K.2 0, 12, .inl (upd e11.2 e7.toNatClampNeg p0))), (aMj, .inl (K.2 3, 12, .inr (.inr (.inr (.inr (zo aMr 12)))))), (aMc, .inl (K.2 0, 12, .inl mC)), (aMw, .inl (K.2 0, 12, .inl mW))] ++ zR12Z K aMr e71.2) 0 0) ?_ ?_
            · refine z_aload_n hG dX6_place_208 0 rfl ?_
              refine z_aload_n hG dX6_place_209 0 rfl ?_
              refine z_get (ci := 6) (C := RX6) (T := TX6) (N := 8) hG dX6_place_210 iX6_place_X6 3 (by decide) mX6_place_4 rfl rfl 0 rfl rfl ?_
              refine z_iload_n hG dX6_place_213 2 rfl ?_
              refine z_icmp_lt 226 hG dX6_place_214 (by decide) (fun c => ?_) (fun c => ?_)
              · replace hres := z_ifp c hres
                refine z_aload_n hG dX6_place_226 0 rfl ?_
                refine z_get (ci := 6) (C := RX6) (T := TX6) (N := 8) hG dX6_place_227 iX6_place_X6 3 (by decide) mX6_place_4 rfl rfl 0 rfl rfl ?_
                refine z_put (ci := 6) (C := RX6) (T := TX6) (N := 8) (ws' := ([(aM, .inr (6, [.ref aMk, .ref aMj, .int (mN + 1), .int mS, .ref aMc, .ref aMw, .int mX, .int v4.2])), (aMk, .inl (K.2 0, 12, .inl (upd e11.2 e7.toNatClampNeg p0))), (aMj, .inl (K.2 3, 12, .inr (.inr (.inr (.inr (zo aMr 12)))))), (aMc, .inl (K.2 0, 12, .inl mC)), (aMw, .inl (K.2 0, 12, .inl mW))] ++ zR12Z K aMr e71.2)) hG dX6_place_230 iX6_place_X6 tyX6_ok nmX6 3 (by decide) mX6_place_4 rfl rfl rfl rfl rfl rfl 0 rfl (Nat.le_of_ble_eq_true rfl) rfl ?_
                refine z_aload_n hG dX6_place_233 0 rfl ?_
                refine z_iconst 0 hG dX6_place_234 (by decide) ?_
                refine z_put (ci := 6) (C := RX6) (T := TX6) (N := 8) (ws' := ([(aM, .inr (6, [.ref aMk, .ref aMj, .int (mN + 1), .int mS, .ref aMc, .ref aMw, .int 0, .int v4.2])), (aMk, .inl (K.2 0, 12, .inl (upd e11.2 e7.toNatClampNeg p0))), (aMj, .inl (K.2 3, 12, .inr (.inr (.inr (.inr (zo aMr 12)))))), (aMc, .inl (K.2 0, 12, .inl mC)), (aMw, .inl (K.2 0, 12, .inl mW))] ++ zR12Z K aMr e71.2)) hG dX6_place_235 iX6_place_X6 tyX6_ok nmX6 6 (by decide) mX6_place_5 rfl rfl rfl rfl rfl rfl 0 rfl (Nat.le_of_ble_eq_true rfl) rfl ?_
                refine z_aload_n hG dX6_place_238 0 rfl ?_
                refine z_get (ci := 6) (C := RX6) (T := TX6) (N := 8) hG dX6_place_239 iX6_place_X6 2 (by decide) mX6_place_0 rfl rfl 0 rfl rfl ?_
                obtain rfl := Option.some.inj hres
                exact (hR _ _ dX6_place_242)
              · replace hres := z_ifn c hres
                refine z_aload_n hG dX6_place_217 0 rfl ?_
                refine z_get (ci := 6) (C := RX6) (T := TX6) (N := 8) hG dX6_place_218 iX6_place_X6 3 (by decide) mX6_place_4 rfl rfl 0 rfl rfl ?_
                refine z_iconst 1 hG dX6_place_221 (by decide) ?_
                refine z_iadd hG dX6_place_222 ?_
                refine z_goto 230 hG dX6_place_223 (by decide) ?_
                refine z_put (ci := 6) (C := RX6) (T := TX6) (N := 8) (ws' := ([(aM, .inr (6, [.ref aMk, .ref aMj, .int (mN + 1), .int (mS + 1), .ref aMc, .ref aMw, .int mX, .int v4.2])), (aMk, .inl (K.2 0, 12, .inl (upd e11.2 e7.toNatClampNeg p0))), (aMj, .inl (K.2 3, 12, .inr (.inr (.inr (.inr (zo aMr 12)))))), (aMc, .inl (K.2 0, 12, .inl mC)), (aMw, .inl (K.2 0, 12, .inl mW))] ++ zR12Z K aMr e71.2)) hG dX6_place_230 iX6_place_X6 tyX6_ok nmX6 3 (by decide) mX6_place_4 rfl rfl rfl rfl rfl rfl 0 rfl (Nat.le_of_ble_eq_true rfl) rfl ?_
                refine z_aload_n hG dX6_place_233 0 rfl ?_
                refine z_iconst 0 hG dX6_place_234 (by decide) ?_
                refine z_put (ci := 6) (C := RX6) (T := TX6) (N := 8) (ws' := ([(aM, .inr (6, [.ref aMk, .ref aMj, .int (mN + 1), .int (mS + 1), .ref aMc, .ref aMw, .int 0, .int v4.2])), (aMk, .inl (K.2 0, 12, .inl (upd e11.2 e7.toNatClampNeg p0))), (aMj, .inl (K.2 3, 12, .inr (.inr (.inr (.inr (zo aMr 12)))))), (aMc, .inl (K.2 0, 12, .inl mC)), (aMw, .inl (K.2 0, 12, .inl mW))] ++ zR12Z K aMr e71.2)) hG dX6_place_235 iX6_place_X6 tyX6_ok nmX6 6 (by decide) mX6_place_5 rfl rfl rfl rfl rfl rfl 0 rfl (Nat.le_of_ble_eq_true rfl) rfl ?_
                refine z_aload_n hG dX6_place_238 0 rfl ?_
                refine z_get (ci := 6) (C := RX6) (T := TX6) (N := 8) hG dX6_place_239 iX6_place_X6 2 (by decide) mX6_place_0 rfl rfl 0 rfl rfl ?_
                obtain rfl := Option.some.inj hres
                exact (hR _ _ dX6_place_242)
            · intro s69 w70 hres hX hB
              unfold sX6_place_118 at hres
              refine z_iload_n hG dX6_place_118 3 rfl ?_
              refine z_if_lt 208 hG dX6_place_119 (by decide) (fun c => ?_) (fun c => ?_)
              · replace hres := z_ifp c hres
                exact (hX (s69.1, s69.2) (Option.some.inj hres).symm)
              · replace hres := z_ifn c hres
                refine z_aload_n hG dX6_place_122 0 rfl ?_
                refine z_get (ci := 6) (C := RX6) (T := TX6) (N := 8) hG dX6_place_123 iX6_place_X6 2 (by decide) mX6_place_0 rfl rfl 0 rfl rfl ?_
                refine z_iconst 1 hG dX6_place_126 (by decide) ?_
                refine z_isub hG dX6_place_127 ?_
                refine z_istore (lv' := [(4, .int ((mN + 1) - 1)), (0, .ref aM), (1, .int p0), (2, .int e7), (3, .int s69.1)]) hG dX6_place_128 (by decide) rfl ?_
                obtain ⟨e91, hx, hres⟩ := z_bind hres
                refine z_lv [1, 2, 3, 4, 0] (lv' := [(0, .ref aM), (1, .int p0), (2, .int e7), (3, .int s69.1), (4, .int ((mN + 1) - 1))]) rfl ?_
                refine z_loop hx (fun s89 : Int32 × (Nat → Nat → Int32) => [(0, .ref aM), (1, .int p0), (2, .int e7), (3, .int s69.1), (4, .int s89.1)]) (fun s89 : Int32 × (Nat → Nat → Int32) => ([(aM, .inr (6, [.ref aMk, .ref aMj, .int (mN + 1), .int mS, .ref aMc, .ref aMw, .int mX, .int v4.2])), (aMk, .inl (K.2 0, 12, .inl (upd e11.2 e7.toNatClampNeg p0))), (aMj, .inl (K.2 3, 12, .inr (.inr (.inr (.inr (zo aMr 12)))))), (aMc, .inl (K.2 0, 12, .inl mC)), (aMw, .inl (K.2 0, 12, .inl mW))] ++ zR12Z K aMr s89.2)) (fun e91 : Int32 × (Nat → Nat → Int32) => zj G 202 [(0, .ref aM), (1, .int p0), (2, .int e7), (3, .int s69.1), (4, .int e91.1)] [] ([(aM, .inr (6, [.ref aMk, .ref aMj, .int (mN + 1), .int mS, .ref aMc, .ref aMw, .int mX, .int v4.2])), (aMk, .inl (K.2 0, 12, .inl (upd e11.2 e7.toNatClampNeg p0))), (aMj, .inl (K.2 3, 12, .inr (.inr (.inr (.inr (zo aMr 12)))))), (aMc, .inl (K.2 0, 12, .inl mC)), (aMw, .inl (K.2 0, 12, .inl mW))] ++ zR12Z K aMr e91.2) 0 0) ?_ ?_
                · refine z_iinc (s69.1 + (-1)) (lv' := [(3, .int (s69.1 + (-1))), (0, .ref aM), (1, .int p0), (2, .int e7), (4, .int e91.1)]) hG dX6_place_202 3 rfl rfl (by decide) rfl ?_
                  refine z_goto 118 hG dX6_place_205 (by decide) ?_
                  exact (z_lv [1, 2, 3, 0] rfl (hB ((s69.1 + (-1)), e91.2) (Option.some.inj hres).symm))
                · intro s89 w90 hres hX hB
                  unfold sX6_place_130 at hres
                  refine z_iload hG dX6_place_130 4 rfl ?_
                  refine z_if_lt 202 hG dX6_place_132 (by decide) (fun c => ?_) (fun c => ?_)
                  · replace hres := z_ifp c hres
                    exact (hX (s89.1, s89.2) (Option.some.inj hres).symm)
                  · replace hres := z_ifn c hres
                    refine z_aload_n hG dX6_place_135 0 rfl ?_
                    refine z_get (ci := 6) (C := RX6) (T := TX6) (N := 8) hG dX6_place_136 iX6_place_X6 1 (by decide) mX6_place_3 rfl rfl 0 rfl rfl ?_
                    refine z_iload_n hG dX6_place_139 3 rfl ?_
                    obtain ⟨hr93, hres⟩ := z_guard hres
                    refine z_aaldZ hG dX6_place_140 2 rfl hr93 ?_
                    refine z_iload hG dX6_place_141 4 rfl ?_
                    refine z_iload_n hG dX6_place_143 3 rfl ?_
                    refine z_iload_n hG dX6_place_144 2 rfl ?_
                    refine z_icmp_eq 194 hG dX6_place_145 (by decide) (fun c => ?_) (fun c => ?_)
                    · replace hres := z_ifp c hres
                      refine z_iconst 0 hG dX6_place_194 (by decide) ?_
                      obtain ⟨hg, hres⟩ := z_guard hres
                      refine z_zastG (M := s89.2) (ws' := fun k => ([(aM, .inr (6, [.ref aMk, .ref aMj, .int (mN + 1), .int mS, .ref aMc, .ref aMw, .int mX, .int v4.2])), (aMk, .inl (K.2 0, 12, .inl (upd e11.2 e7.toNatClampNeg p0))), (aMj, .inl (K.2 3, 12, .inr (.inr (.inr (.inr (zo aMr 12)))))), (aMc, .inl (K.2 0, 12, .inl mC)), (aMw, .inl (K.2 0, 12, .inl mW))] ++ zR12Z K aMr (zup2 s89.2 k s89.1.toNatClampNeg 0))) hG dX6_place_195 5 (z_12 rfl rfl rfl rfl rfl rfl rfl rfl rfl rfl rfl rfl) hr93 hg (by decide) (z_12 rfl rfl rfl rfl rfl rfl rfl rfl rfl rfl rfl rfl) ?_
                      obtain ⟨M94, hM, hres⟩ := z_bind hres
                      replace hM := Option.some.inj hM
                      show zj G 196 [(0, .ref aM), (1, .int p0), (2, .int e7), (3, .int s69.1), (4, .int s89.1)] [] ([(aM, .inr (6, [.ref aMk, .ref aMj, .int (mN + 1), .int mS, .ref aMc, .ref aMw, .int mX, .int v4.2])), (aMk, .inl (K.2 0, 12, .inl (upd e11.2 e7.toNatClampNeg p0))), (aMj, .inl (K.2 3, 12, .inr (.inr (.inr (.inr (zo aMr 12)))))), (aMc, .inl (K.2 0, 12, .inl mC)), (aMw, .inl (K.2 0, 12, .inl mW))] ++ zR12Z K aMr (zup2 s89.2 s69.1.toNatClampNeg s89.1.toNatClampNeg 0)) 0 0
                      rw [hM]
                      clear hM
                      refine z_iinc (s89.1 + (-1)) (lv' := [(4, .int (s89.1 + (-1))), (0, .ref aM), (1, .int p0), (2, .int e7), (3, .int s69.1)]) hG dX6_place_196 4 rfl rfl (by decide) rfl ?_
                      refine z_goto 130 hG dX6_place_199 (by decide) ?_
                      exact (z_lv [1, 2, 3, 4, 0] rfl (hB ((s89.1 + (-1)), M94) (Option.some.inj hres).symm))
                    · replace hres := z_ifn c hres
                      refine z_iload hG dX6_place_148 4 rfl ?_
                      refine z_iload_n hG dX6_place_150 2 rfl ?_
                      refine z_icmp_eq 194 hG dX6_place_151 (by decide) (fun c => ?_) (fun c => ?_)
                      · replace hres := z_ifp c hres
                        refine z_iconst 0 hG dX6_place_194 (by decide) ?_
                        obtain ⟨hg, hres⟩ := z_guard hres
                        refine z_zastG (M := s89.2) (ws' := fun k => ([(aM, .inr (6, [.ref aMk, .ref aMj, .int (mN + 1), .int mS, .ref aMc, .ref aMw, .int mX, .int v4.2])), (aMk, .inl (K.2 0, 12, .inl (upd e11.2 e7.toNatClampNeg p0))), (aMj, .inl (K.2 3, 12, .inr (.inr (.inr (.inr (zo aMr 12)))))), (aMc, .inl (K.2 0, 12, .inl mC)), (aMw, .inl (K.2 0, 12, .inl mW))] ++ zR12Z K aMr (zup2 s89.2 k s89.1.toNatClampNeg 0))) hG dX6_place_195 5 (z_12 rfl rfl rfl rfl rfl rfl rfl rfl rfl rfl rfl rfl) hr93 hg (by decide) (z_12 rfl rfl rfl rfl rfl rfl rfl rfl rfl rfl rfl rfl) ?_
                        obtain ⟨M95, hM, hres⟩ := z_bind hres
                        replace hM := Option.some.inj hM
                        show zj G 196 [(0, .ref aM), (1, .int p0), (2, .int e7), (3, .int s69.1), (4, .int s89.1)] [] ([(aM, .inr (6, [.ref aMk, .ref aMj, .int (mN + 1), .int mS, .ref aMc, .ref aMw, .int mX, .int v4.2])), (aMk, .inl (K.2 0, 12, .inl (upd e11.2 e7.toNatClampNeg p0))), (aMj, .inl (K.2 3, 12, .inr (.inr (.inr (.inr (zo aMr 12)))))), (aMc, .inl (K.2 0, 12, .inl mC)), (aMw, .inl (K.2 0, 12, .inl mW))] ++ zR12Z K aMr (zup2 s89.2 s69.1.toNatClampNeg s89.1.toNatClampNeg 0)) 0 0
                        rw [hM]
                        clear hM
                        refine z_iinc (s89.1 + (-1)) (lv' := [(4, .int (s89.1 + (-1))), (0, .ref aM), (1, .int p0), (2, .int e7), (3, .int s69.1)]) hG dX6_place_196 4 rfl rfl (by decide) rfl ?_
                        refine z_goto 130 hG dX6_place_199 (by decide) ?_
                        exact (z_lv [1, 2, 3, 4, 0] rfl (hB ((s89.1 + (-1)), M95) (Option.some.inj hres).symm))
                      · replace hres := z_ifn c hres
                        refine z_aload_n hG dX6_place_154 0 rfl ?_
                        refine z_get (ci := 6) (C := RX6) (T := TX6) (N := 8) hG dX6_place_155 iX6_place_X6 1 (by decide) mX6_place_3 rfl rfl 0 rfl rfl ?_
                        refine z_iload_n hG dX6_place_158 3 rfl ?_
                        refine z_iload_n hG dX6_place_159 2 rfl ?_
                        obtain ⟨v96, hv, hres⟩ := z_bind hres
                        have J : zj G 170 [(0, .ref aM), (1, .int p0), (2, .int e7), (3, .int s69.1), (4, .int s89.1)] [.int v96, .ref aMj, .int s89.1, .ref (aMr s69.1.toNatClampNeg)] ([(aM, .inr (6, [.ref aMk, .ref aMj, .int (mN + 1), .int mS, .ref aMc, .ref aMw, .int mX, .int v4.2])), (aMk, .inl (K.2 0, 12, .inl (upd e11.2 e7.toNatClampNeg p0))), (aMj, .inl (K.2 3, 12, .inr (.inr (.inr (.inr (zo aMr 12)))))), (aMc, .inl (K.2 0, 12, .inl mC)), (aMw, .inl (K.2 0, 12, .inl mW))] ++ zR12Z K aMr s89.2) 0 0 := by
                          obtain ⟨hr97, hres⟩ := z_guard hres
                          refine z_aaldZ hG dX6_place_170 2 rfl hr97 ?_
                          refine z_iload hG dX6_place_171 4 rfl ?_
                          refine z_iload_n hG dX6_place_173 2 rfl ?_
                          obtain ⟨v98, hv, hres⟩ := z_bind hres
                          have J : zj G 186 [(0, .ref aM), (1, .int p0), (2, .int e7), (3, .int s69.1), (4, .int s89.1)] [.int v98, .ref (aMr v96.toNatClampNeg), .int s89.1, .ref (aMr s69.1.toNatClampNeg)] ([(aM, .inr (6, [.ref aMk, .ref aMj, .int (mN + 1), .int mS, .ref aMc, .ref aMw, .int mX, .int v4.2])), (aMk, .inl (K.2 0, 12, .inl (upd e11.2 e7.toNatClampNeg p0))), (aMj, .inl (K.2 3, 12, .inr (.inr (.inr (.inr (zo aMr 12)))))), (aMc, .inl (K.2 0, 12, .inl mC)), (aMw, .inl (K.2 0, 12, .inl mW))] ++ zR12Z K aMr s89.2) 0 0 := by
                            obtain ⟨hg, hres⟩ := z_guard hres
                            refine z_zaldG (M := s89.2) hG dX6_place_186 5 (z_12 rfl rfl rfl rfl rfl rfl rfl rfl rfl rfl rfl rfl) hr97 hg ?_
                            refine z_if_eq 194 hG dX6_place_187 (by decide) (fun c => ?_) (fun c => ?_)
                            · replace hres := z_ifp c hres
                              refine z_iconst 0 hG dX6_place_194 (by decide) ?_
                              obtain ⟨hg, hres⟩ := z_guard hres
                              refine z_zastG (M := s89.2) (ws' := fun k => ([(aM, .inr (6, [.ref aMk, .ref aMj, .int (mN + 1), .int mS, .ref aMc, .ref aMw, .int mX, .int v4.2])), (aMk, .inl (K.2 0, 12, .inl (upd e11.2 e7.toNatClampNeg p0))), (aMj, .inl (K.2 3, 12, .inr (.inr (.inr (.inr (zo aMr 12)))))), (aMc, .inl (K.2 0, 12, .inl mC)), (aMw, .inl (K.2 0, 12, .inl mW))] ++ zR12Z K aMr (zup2 s89.2 k s89.1.toNatClampNeg 0))) hG dX6_place_195 5 (z_12 rfl rfl rfl rfl rfl rfl rfl rfl rfl rfl rfl rfl) hr93 hg (by decide) (z_12 rfl rfl rfl rfl rfl rfl rfl rfl rfl rfl rfl rfl) ?_
                              obtain ⟨M99, hM, hres⟩ := z_bind hres
                              replace hM := Option.some.inj hM
                              show zj G 196 [(0, .ref aM), (1, .int p0), (2, .int e7), (3, .int s69.1), (4, .int s89.1)] [] ([(aM, .inr (6, [.ref aMk, .ref aMj, .int (mN + 1), .int mS, .ref aMc, .ref aMw, .int mX, .int v4.2])), (aMk, .inl (K.2 0, 12, .inl (upd e11.2 e7.toNatClampNeg p0))), (aMj, .inl (K.2 3, 12, .inr (.inr (.inr (.inr (zo aMr 12)))))), (aMc, .inl (K.2 0, 12, .inl mC)), (aMw, .inl (K.2 0, 12, .inl mW))] ++ zR12Z K aMr (zup2 s89.2 s69.1.toNatClampNeg s89.1.toNatClampNeg 0)) 0 0
                              rw [hM]
                              clear hM
                              refine z_iinc (s89.1 + (-1)) (lv' := [(4, .int (s89.1 + (-1))), (0, .ref aM), (1, .int p0), (2, .int e7), (3, .int s69.1)]) hG dX6_place_196 4 rfl rfl (by decide) rfl ?_
                              refine z_goto 130 hG dX6_place_199 (by decide) ?_
                              exact (z_lv [1, 2, 3, 4, 0] rfl (hB ((s89.1 + (-1)), M99) (Option.some.inj hres).symm))
                            · replace hres := z_ifn c hres
                              refine z_iconst 1 hG dX6_place_190 (by decide) ?_
                              refine z_goto 195 hG dX6_place_191 (by decide) ?_
                              obtain ⟨hg, hres⟩ := z_guard hres
                              refine z_zastG (M := s89.2) (ws' := fun k => ([(aM, .inr (6, [.ref aMk, .ref aMj, .int (mN + 1), .int mS, .ref aMc, .ref aMw, .int mX, .int v4.2])), (aMk, .inl (K.2 0, 12, .inl (upd e11.2 e7.toNatClampNeg p0))), (aMj, .inl (K.2 3, 12, .inr (.inr (.inr (.inr (zo aMr 12)))))), (aMc, .inl (K.2 0, 12, .inl mC)), (aMw, .inl (K.2 0, 12, .inl mW))] ++ zR12Z K aMr (zup2 s89.2 k s89.1.toNatClampNeg 1))) hG dX6_place_195 5 (z_12 rfl rfl rfl rfl rfl rfl rfl rfl rfl rfl rfl rfl) hr93 hg (by decide) (z_12 rfl rfl rfl rfl rfl rfl rfl rfl rfl rfl rfl rfl) ?_
                              obtain ⟨M100, hM, hres⟩ := z_bind hres
                              replace hM := Option.some.inj hM
                              show zj G 196 [(0, .ref aM), (1, .int p0), (2, .int e7), (3, .int s69.1), (4, .int s89.1)] [] ([(aM, .inr (6, [.ref aMk, .ref aMj, .int (mN + 1), .int mS, .ref aMc, .ref aMw, .int mX, .int v4.2])), (aMk, .inl (K.2 0, 12, .inl (upd e11.2 e7.toNatClampNeg p0))), (aMj, .inl (K.2 3, 12, .inr (.inr (.inr (.inr (zo aMr 12)))))), (aMc, .inl (K.2 0, 12, .inl mC)), (aMw, .inl (K.2 0, 12, .inl mW))] ++ zR12Z K aMr (zup2 s89.2 s69.1.toNatClampNeg s89.1.toNatClampNeg 1)) 0 0
                              rw [hM]
                              clear hM
                              refine z_iinc (s89.1 + (-1)) (lv' := [(4, .int (s89.1 + (-1))), (0, .ref aM), (1, .int p0), (2, .int e7), (3, .int s69.1)]) hG dX6_place_196 4 rfl rfl (by decide) rfl ?_
                              refine z_goto 130 hG dX6_place_199 (by decide) ?_
                              exact (z_lv [1, 2, 3, 4, 0] rfl (hB ((s89.1 + (-1)), M100) (Option.some.inj hres).symm))
                          replace hres := hv
                          clear hv
                          refine z_icmp_le 184 hG dX6_place_174 (by decide) (fun c => ?_) (fun c => ?_)
                          · replace hres := z_ifp c hres
                            refine z_iload hG dX6_place_184 4 rfl ?_
                            obtain rfl := Option.some.inj hres
                            exact J
                          · replace hres := z_ifn c hres
                            refine z_iload hG dX6_place_177 4 rfl ?_
                            refine z_iconst 1 hG dX6_place_179 (by decide) ?_
                            refine z_isub hG dX6_place_180 ?_
                            refine z_goto 186 hG dX6_place_181 (by decide) ?_
                            obtain rfl := Option.some.inj hres
                            exact J
                        replace hres := hv
                        clear hv
                        refine z_icmp_le 169 hG dX6_place_160 (by decide) (fun c => ?_) (fun c => ?_)
                        · replace hres := z_ifp c hres
                          refine z_iload_n hG dX6_place_169 3 rfl ?_
                          obtain rfl := Option.some.inj hres
                          exact J
                        · replace hres := z_ifn c hres
                          refine z_iload_n hG dX6_place_163 3 rfl ?_
                          refine z_iconst 1 hG dX6_place_164 (by decide) ?_
                          refine z_isub hG dX6_place_165 ?_
                          refine z_goto 170 hG dX6_place_166 (by decide) ?_
                          obtain rfl := Option.some.inj hres
                          exact J
          · intro s9 w10 hres hX hB
            unfold sX6_place_69 at hres
            refine z_iload_n hG dX6_place_69 3 rfl ?_
            refine z_iload_n hG dX6_place_70 2 rfl ?_
            refine z_icmp_le 94 hG dX6_place_71 (by decide) (fun c => ?_) (fun c => ?_)
            · replace hres := z_ifp c hres
              exact (hX (s9.1, s9.2) (Option.some.inj hres).symm)
            · replace hres := z_ifn c hres
              refine z_aload_n hG dX6_place_74 0 rfl ?_
              refine z_get (ci := 6) (C := RX6) (T := TX6) (N := 8) hG dX6_place_75 iX6_place_X6 0 (by decide) mX6_place_2 rfl rfl 0 rfl rfl ?_
              refine z_iload_n hG dX6_place_78 3 rfl ?_
              refine z_aload_n hG dX6_place_79 0 rfl ?_
              refine z_get (ci := 6) (C := RX6) (T := TX6) (N := 8) hG dX6_place_80 iX6_place_X6 0 (by decide) mX6_place_2 rfl rfl 0 rfl rfl ?_
              refine z_iload_n hG dX6_place_83 3 rfl ?_
              refine z_iconst 1 hG dX6_place_84 (by decide) ?_
              refine z_isub hG dX6_place_85 ?_
              obtain ⟨hg, hres⟩ := z_guard hres
              refine z_iald hG dX6_place_86 1 rfl hg ?_
              obtain ⟨hg, hres⟩ := z_guard hres
              refine z_iast (ws' := ([(aM, .inr (6, [.ref aMk, .ref aMj, .int mN, .int mS, .ref aMc, .ref aMw, .int mX, .int v4.2])), (aMk, .inl (K.2 0, 12, .inl (upd s9.2 s9.1.toNatClampNeg (s9.2 (s9.1 - 1).toNatClampNeg)))), (aMj, .inl (K.2 3, 12, .inr (.inr (.inr (.inr (zo aMr 12)))))), (aMc, .inl (K.2 0, 12, .inl mC)), (aMw, .inl (K.2 0, 12, .inl mW))] ++ zR12Z K aMr mJ)) hG dX6_place_87 1 rfl hg rfl ?_
              refine z_iinc (s9.1 + (-1)) (lv' := [(3, .int (s9.1 + (-1))), (0, .ref aM), (1, .int p0), (2, .int e7)]) hG dX6_place_88 3 rfl rfl (by decide) rfl ?_
              refine z_goto 69 hG dX6_place_91 (by decide) ?_
              exact (z_lv [1, 2, 3, 0] rfl (hB ((s9.1 + (-1)), (upd s9.2 s9.1.toNatClampNeg (s9.2 (s9.1 - 1).toNatClampNeg))) (Option.some.inj hres).symm))
        · intro s5 w6 hres hX hB
          unfold sX6_place_42 at hres
          refine z_iload_n hG dX6_place_42 2 rfl ?_
          refine z_if_le 64 hG dX6_place_43 (by decide) (fun c => ?_) (fun c => ?_)
          · replace hres := z_ifp c hres
            exact (hX s5 (Option.some.inj hres).symm)
          · replace hres := z_ifn c hres
            refine z_aload_n hG dX6_place_46 0 rfl ?_
            refine z_get (ci := 6) (C := RX6) (T := TX6) (N := 8) hG dX6_place_47 iX6_place_X6 0 (by decide) mX6_place_2 rfl rfl 0 rfl rfl ?_
            refine z_iload_n hG dX6_place_50 2 rfl ?_
            refine z_iconst 1 hG dX6_place_51 (by decide) ?_
            refine z_isub hG dX6_place_52 ?_
            obtain ⟨hg, hres⟩ := z_guard hres
            refine z_iald hG dX6_place_53 1 rfl hg ?_
            refine z_iload_n hG dX6_place_54 1 rfl ?_
            refine z_icmp_le 64 hG dX6_place_55 (by decide) (fun c => ?_) (fun c => ?_)
            · replace hres := z_ifp c hres
              exact (hX s5 (Option.some.inj hres).symm)
            · replace hres := z_ifn c hres
              refine z_iinc (s5 + (-1)) (lv' := [(2, .int (s5 + (-1))), (0, .ref aM), (1, .int p0)]) hG dX6_place_58 2 rfl rfl (by decide) rfl ?_
              refine z_goto 42 hG dX6_place_61 (by decide) ?_
              exact (z_lv [1, 2, 0] rfl (hB (s5 + (-1)) (Option.some.inj hres).symm))
      · replace hres := z_ifp c hres
        refine z_iconst 0 hG dX6_place_35 (by decide) ?_
        obtain rfl := Option.some.inj hres
        exact (hR _ _ dX6_place_36)
    replace hres := hv
    clear hv
    refine z_icmp_ge 27 hG dX6_place_20 (by decide) (fun c => ?_) (fun c => ?_)
    · replace hres := z_ifp c hres
      refine z_iconst 0 hG dX6_place_27 (by decide) ?_
      obtain rfl := Option.some.inj hres
      exact J
    · replace hres := z_ifn c hres
      refine z_iconst 1 hG dX6_place_23 (by decide) ?_
      refine z_goto 28 hG dX6_place_24 (by decide) ?_
      obtain rfl := Option.some.inj hres
      exact J
  replace hres := hv
  clear hv
  refine z_if_ne 13 hG dX6_place_6 (by decide) (fun c => ?_) (fun c => ?_)
  · replace hres := z_ifn c hres
    refine z_iconst 0 hG dX6_place_13 (by decide) ?_
    obtain rfl := Option.some.inj hres
    exact J
  · replace hres := z_ifp c hres
    refine z_iconst 1 hG dX6_place_9 (by decide) ?_
    refine z_goto 14 hG dX6_place_10 (by decide) ?_
    obtain rfl := Option.some.inj hres
    exact J

theorem dX6_leave_0 : decode cX6_leave 0 = .ok (.aload_n 0, 1) := by decide +kernel
theorem dX6_leave_1 : decode cX6_leave 1 = .ok (.aload_n 0, 1) := by decide +kernel
theorem dX6_leave_2 : decode cX6_leave 2 = .ok (.iload_n 1, 1) := by decide +kernel
theorem dX6_leave_3 : decode cX6_leave 3 = .ok (.invokevirtual 38, 3) := by decide +kernel
theorem dX6_leave_6 : decode cX6_leave 6 = .ok (.iconst 1, 1) := by decide +kernel
theorem dX6_leave_7 : decode cX6_leave 7 = .ok (.iconst 1, 1) := by decide +kernel
theorem dX6_leave_8 : decode cX6_leave 8 = .ok (.invokevirtual 42, 3) := by decide +kernel
theorem dX6_leave_11 : decode cX6_leave 11 = .ok (.ifCond .ne 5, 3) := by decide +kernel
theorem dX6_leave_14 : decode cX6_leave 14 = .ok (.iconst 0, 1) := by decide +kernel
theorem dX6_leave_15 : decode cX6_leave 15 = .ok (.ireturn, 1) := by decide +kernel
theorem dX6_leave_16 : decode cX6_leave 16 = .ok (.aload_n 0, 1) := by decide +kernel
theorem dX6_leave_17 : decode cX6_leave 17 = .ok (.iload_n 1, 1) := by decide +kernel
theorem dX6_leave_18 : decode cX6_leave 18 = .ok (.invokevirtual 34, 3) := by decide +kernel
theorem dX6_leave_21 : decode cX6_leave 21 = .ok (.istore_n 2, 1) := by decide +kernel
theorem dX6_leave_22 : decode cX6_leave 22 = .ok (.aload_n 0, 1) := by decide +kernel
theorem dX6_leave_23 : decode cX6_leave 23 = .ok (.iload_n 2, 1) := by decide +kernel
theorem dX6_leave_24 : decode cX6_leave 24 = .ok (.invokevirtual 49, 3) := by decide +kernel
theorem dX6_leave_27 : decode cX6_leave 27 = .ok (.istore_n 3, 1) := by decide +kernel
theorem dX6_leave_28 : decode cX6_leave 28 = .ok (.aload_n 0, 1) := by decide +kernel
theorem dX6_leave_29 : decode cX6_leave 29 = .ok (.dup, 1) := by decide +kernel
theorem dX6_leave_30 : decode cX6_leave 30 = .ok (.getfield 31, 3) := by decide +kernel
theorem dX6_leave_33 : decode cX6_leave 33 = .ok (.iconst 1, 1) := by decide +kernel
theorem dX6_leave_34 : decode cX6_leave 34 = .ok (.isub, 1) := by decide +kernel
theorem dX6_leave_35 : decode cX6_leave 35 = .ok (.putfield 31, 3) := by decide +kernel
theorem dX6_leave_38 : decode cX6_leave 38 = .ok (.iload_n 2, 1) := by decide +kernel
theorem dX6_leave_39 : decode cX6_leave 39 = .ok (.istore 4, 2) := by decide +kernel
theorem dX6_leave_41 : decode cX6_leave 41 = .ok (.iload 4, 2) := by decide +kernel
theorem dX6_leave_43 : decode cX6_leave 43 = .ok (.aload_n 0, 1) := by decide +kernel
theorem dX6_leave_44 : decode cX6_leave 44 = .ok (.getfield 31, 3) := by decide +kernel
theorem dX6_leave_47 : decode cX6_leave 47 = .ok (.if_icmp .ge 25, 3) := by decide +kernel
theorem dX6_leave_50 : decode cX6_leave 50 = .ok (.aload_n 0, 1) := by decide +kernel
theorem dX6_leave_51 : decode cX6_leave 51 = .ok (.getfield 9, 3) := by decide +kernel
theorem dX6_leave_54 : decode cX6_leave 54 = .ok (.iload 4, 2) := by decide +kernel
theorem dX6_leave_56 : decode cX6_leave 56 = .ok (.aload_n 0, 1) := by decide +kernel
theorem dX6_leave_57 : decode cX6_leave 57 = .ok (.getfield 9, 3) := by decide +kernel
theorem dX6_leave_60 : decode cX6_leave 60 = .ok (.iload 4, 2) := by decide +kernel
theorem dX6_leave_62 : decode cX6_leave 62 = .ok (.iconst 1, 1) := by decide +kernel
theorem dX6_leave_63 : decode cX6_leave 63 = .ok (.iadd, 1) := by decide +kernel
theorem dX6_leave_64 : decode cX6_leave 64 = .ok (.iaload, 1) := by decide +kernel
theorem dX6_leave_65 : decode cX6_leave 65 = .ok (.iastore, 1) := by decide +kernel
theorem dX6_leave_66 : decode cX6_leave 66 = .ok (.iinc 4 1, 3) := by decide +kernel
theorem dX6_leave_69 : decode cX6_leave 69 = .ok (.goto (-28), 3) := by decide +kernel
theorem dX6_leave_72 : decode cX6_leave 72 = .ok (.iconst 0, 1) := by decide +kernel
theorem dX6_leave_73 : decode cX6_leave 73 = .ok (.istore 4, 2) := by decide +kernel
theorem dX6_leave_75 : decode cX6_leave 75 = .ok (.iload 4, 2) := by decide +kernel
theorem dX6_leave_77 : decode cX6_leave 77 = .ok (.aload_n 0, 1) := by decide +kernel
theorem dX6_leave_78 : decode cX6_leave 78 = .ok (.getfield 31, 3) := by decide +kernel
theorem dX6_leave_81 : decode cX6_leave 81 = .ok (.if_icmp .ge 73, 3) := by decide +kernel
theorem dX6_leave_84 : decode cX6_leave 84 = .ok (.iconst 0, 1) := by decide +kernel
theorem dX6_leave_85 : decode cX6_leave 85 = .ok (.istore 5, 2) := by decide +kernel
theorem dX6_leave_87 : decode cX6_leave 87 = .ok (.iload 5, 2) := by decide +kernel
theorem dX6_leave_89 : decode cX6_leave 89 = .ok (.aload_n 0, 1) := by decide +kernel
theorem dX6_leave_90 : decode cX6_leave 90 = .ok (.getfield 31, 3) := by decide +kernel
theorem dX6_leave_93 : decode cX6_leave 93 = .ok (.if_icmp .ge 55, 3) := by decide +kernel
theorem dX6_leave_96 : decode cX6_leave 96 = .ok (.aload_n 0, 1) := by decide +kernel
theorem dX6_leave_97 : decode cX6_leave 97 = .ok (.getfield 15, 3) := by decide +kernel
theorem dX6_leave_100 : decode cX6_leave 100 = .ok (.iload 4, 2) := by decide +kernel
theorem dX6_leave_102 : decode cX6_leave 102 = .ok (.aaload, 1) := by decide +kernel
theorem dX6_leave_103 : decode cX6_leave 103 = .ok (.iload 5, 2) := by decide +kernel
theorem dX6_leave_105 : decode cX6_leave 105 = .ok (.aload_n 0, 1) := by decide +kernel
theorem dX6_leave_106 : decode cX6_leave 106 = .ok (.getfield 15, 3) := by decide +kernel
theorem dX6_leave_109 : decode cX6_leave 109 = .ok (.iload 4, 2) := by decide +kernel
theorem dX6_leave_111 : decode cX6_leave 111 = .ok (.iload_n 2, 1) := by decide +kernel
theorem dX6_leave_112 : decode cX6_leave 112 = .ok (.if_icmp .ge 8, 3) := by decide +kernel
theorem dX6_leave_115 : decode cX6_leave 115 = .ok (.iload 4, 2) := by decide +kernel
theorem dX6_leave_117 : decode cX6_leave 117 = .ok (.goto 7, 3) := by decide +kernel
theorem dX6_leave_120 : decode cX6_leave 120 = .ok (.iload 4, 2) := by decide +kernel
theorem dX6_leave_122 : decode cX6_leave 122 = .ok (.iconst 1, 1) := by decide +kernel
theorem dX6_leave_123 : decode cX6_leave 123 = .ok (.iadd, 1) := by decide +kernel
theorem dX6_leave_124 : decode cX6_leave 124 = .ok (.aaload, 1) := by decide +kernel
theorem dX6_leave_125 : decode cX6_leave 125 = .ok (.iload 5, 2) := by decide +kernel
theorem dX6_leave_127 : decode cX6_leave 127 = .ok (.iload_n 2, 1) := by decide +kernel
theorem dX6_leave_128 : decode cX6_leave 128 = .ok (.if_icmp .ge 8, 3) := by decide +kernel
theorem dX6_leave_131 : decode cX6_leave 131 = .ok (.iload 5, 2) := by decide +kernel
theorem dX6_leave_133 : decode cX6_leave 133 = .ok (.goto 7, 3) := by decide +kernel
theorem dX6_leave_136 : decode cX6_leave 136 = .ok (.iload 5, 2) := by decide +kernel
theorem dX6_leave_138 : decode cX6_leave 138 = .ok (.iconst 1, 1) := by decide +kernel
theorem dX6_leave_139 : decode cX6_leave 139 = .ok (.iadd, 1) := by decide +kernel
theorem dX6_leave_140 : decode cX6_leave 140 = .ok (.baload, 1) := by decide +kernel
theorem dX6_leave_141 : decode cX6_leave 141 = .ok (.bastore, 1) := by decide +kernel
theorem dX6_leave_142 : decode cX6_leave 142 = .ok (.iinc 5 1, 3) := by decide +kernel
theorem dX6_leave_145 : decode cX6_leave 145 = .ok (.goto (-58), 3) := by decide +kernel
theorem dX6_leave_148 : decode cX6_leave 148 = .ok (.iinc 4 1, 3) := by decide +kernel
theorem dX6_leave_151 : decode cX6_leave 151 = .ok (.goto (-76), 3) := by decide +kernel
theorem dX6_leave_154 : decode cX6_leave 154 = .ok (.aload_n 0, 1) := by decide +kernel
theorem dX6_leave_155 : decode cX6_leave 155 = .ok (.aload_n 0, 1) := by decide +kernel
theorem dX6_leave_156 : decode cX6_leave 156 = .ok (.getfield 18, 3) := by decide +kernel
theorem dX6_leave_159 : decode cX6_leave 159 = .ok (.iload_n 2, 1) := by decide +kernel
theorem dX6_leave_160 : decode cX6_leave 160 = .ok (.if_icmp .ne 7, 3) := by decide +kernel
theorem dX6_leave_163 : decode cX6_leave 163 = .ok (.iconst (-1), 1) := by decide +kernel
theorem dX6_leave_164 : decode cX6_leave 164 = .ok (.goto 24, 3) := by decide +kernel
theorem dX6_leave_167 : decode cX6_leave 167 = .ok (.aload_n 0, 1) := by decide +kernel
theorem dX6_leave_168 : decode cX6_leave 168 = .ok (.getfield 18, 3) := by decide +kernel
theorem dX6_leave_171 : decode cX6_leave 171 = .ok (.iload_n 2, 1) := by decide +kernel
theorem dX6_leave_172 : decode cX6_leave 172 = .ok (.if_icmp .le 12, 3) := by decide +kernel
theorem dX6_leave_175 : decode cX6_leave 175 = .ok (.aload_n 0, 1) := by decide +kernel
theorem dX6_leave_176 : decode cX6_leave 176 = .ok (.getfield 18, 3) := by decide +kernel
theorem dX6_leave_179 : decode cX6_leave 179 = .ok (.iconst 1, 1) := by decide +kernel
theorem dX6_leave_180 : decode cX6_leave 180 = .ok (.isub, 1) := by decide +kernel
theorem dX6_leave_181 : decode cX6_leave 181 = .ok (.goto 7, 3) := by decide +kernel
theorem dX6_leave_184 : decode cX6_leave 184 = .ok (.aload_n 0, 1) := by decide +kernel
theorem dX6_leave_185 : decode cX6_leave 185 = .ok (.getfield 18, 3) := by decide +kernel
theorem dX6_leave_188 : decode cX6_leave 188 = .ok (.putfield 18, 3) := by decide +kernel
theorem dX6_leave_191 : decode cX6_leave 191 = .ok (.aload_n 0, 1) := by decide +kernel
theorem dX6_leave_192 : decode cX6_leave 192 = .ok (.iconst 0, 1) := by decide +kernel
theorem dX6_leave_193 : decode cX6_leave 193 = .ok (.putfield 46, 3) := by decide +kernel
theorem dX6_leave_196 : decode cX6_leave 196 = .ok (.iload_n 3, 1) := by decide +kernel
theorem dX6_leave_197 : decode cX6_leave 197 = .ok (.ireturn, 1) := by decide +kernel
set_option maxRecDepth 20000 in
theorem ggX6_leave_X6_is : GoodIn wsX6_leave wsX6_is := goodIn_r _ [10, 11, 12, 13, 9, 14, 1, 2, 24, 25, 26, 27, 28, 29, 30, 31] (by decide +kernel) (by decide +kernel)
set_option maxRecDepth 20000 in
theorem gX6_leave_X6_is : GoodIn wsX6_leave (wsV RX6 38 RX6 yX6_is wsX6_is) := goodIn_app (goodIn_of _ (by decide +kernel)) ggX6_leave_X6_is
set_option maxRecDepth 20000 in
theorem ggX6_leave_X6_can : GoodIn wsX6_leave wsX6_can := goodIn_r _ [18, 19, 24, 25, 26, 27, 28, 29, 30, 31] (by decide +kernel) (by decide +kernel)
set_option maxRecDepth 20000 in
theorem gX6_leave_X6_can : GoodIn wsX6_leave (wsV RX6 42 RX6 yX6_can wsX6_can) := goodIn_app (goodIn_of _ (by decide +kernel)) ggX6_leave_X6_can
set_option maxRecDepth 20000 in
theorem ggX6_leave_X6_at : GoodIn wsX6_leave wsX6_at := goodIn_r _ [14, 1, 2, 24, 25, 26, 27, 28, 29, 30, 31] (by decide +kernel) (by decide +kernel)
set_option maxRecDepth 20000 in
theorem gX6_leave_X6_at : GoodIn wsX6_leave (wsV RX6 34 RX6 yX6_at wsX6_at) := goodIn_app (goodIn_of _ (by decide +kernel)) ggX6_leave_X6_at
set_option maxRecDepth 20000 in
theorem ggX6_leave_X6_degree : GoodIn wsX6_leave wsX6_degree := goodIn_r _ [23, 1, 3, 24, 25, 26, 27, 28, 29, 30, 31] (by decide +kernel) (by decide +kernel)
set_option maxRecDepth 20000 in
theorem gX6_leave_X6_degree : GoodIn wsX6_leave (wsV RX6 49 RX6 yX6_degree wsX6_degree) := goodIn_app (goodIn_of _ (by decide +kernel)) ggX6_leave_X6_degree
theorem mX6_leave_0 : Cond.fieldLink RX6 31 "LayerwaysModel" "many" "I" ∈ wsX6_leave := by decide +kernel
theorem iX6_leave_X6 : ∀ w ∈ u_ws RX6 TX6 8, w ∈ wsX6_leave := by decide +kernel
theorem mX6_leave_2 : Cond.fieldLink RX6 9 "LayerwaysModel" "keys" "[I" ∈ wsX6_leave := by decide +kernel
theorem mX6_leave_3 : Cond.fieldLink RX6 15 "LayerwaysModel" "joined" "[[Z" ∈ wsX6_leave := by decide +kernel
theorem mX6_leave_4 : Cond.fieldLink RX6 18 "LayerwaysModel" "start" "I" ∈ wsX6_leave := by decide +kernel
theorem mX6_leave_5 : Cond.fieldLink RX6 46 "LayerwaysModel" "changes" "I" ∈ wsX6_leave := by decide +kernel
def sX6_leave_41 (mN : Int32) (s5 : Int32 × (Nat → Int32)) : Option ((Int32 × (Nat → Int32)) ⊕ (Int32 × (Nat → Int32))) := if (mN - 1) ≤ s5.1 then some (.inl (s5.1, s5.2)) else if zin (s5.1 + 1) 12 then if zin s5.1 12 then some (.inr ((s5.1 + 1), (upd s5.2 s5.1.toNatClampNeg (s5.2 (s5.1 + 1).toNatClampNeg)))) else none else none
def sX6_leave_87 (mN : Int32) (v3 : Int32) (s47 : Int32 × (Nat → Nat → Int32)) (s61 : Int32 × (Nat → Nat → Int32)) : Option ((Int32 × (Nat → Nat → Int32)) ⊕ (Int32 × (Nat → Nat → Int32))) := if (mN - 1) ≤ s61.1 then some (.inl (s61.1, s61.2)) else if zin s47.1 12 then ((if v3 ≤ s47.1 then some (s47.1 + 1) else some s47.1) : Option Int32).bind fun v66 => if zin v66 12 then if v3 ≤ s61.1 then if zin (s61.1 + 1) 12 then if zin s61.1 12 then if ((s61.2 v66.toNatClampNeg (s61.1 + 1).toNatClampNeg) = 0 ∨ (s61.2 v66.toNatClampNeg (s61.1 + 1).toNatClampNeg) = 1) then (some (zup2 s61.2 s47.1.toNatClampNeg s61.1.toNatClampNeg (s61.2 v66.toNatClampNeg (s61.1 + 1).toNatClampNeg)) : Option (Nat → Nat → Int32)).bind fun M68 => some (.inr ((s61.1 + 1), M68)) else none else none else none else if zin s61.1 12 then if zin s61.1 12 then if ((s61.2 v66.toNatClampNeg s61.1.toNatClampNeg) = 0 ∨ (s61.2 v66.toNatClampNeg s61.1.toNatClampNeg) = 1) then (some (zup2 s61.2 s47.1.toNatClampNeg s61.1.toNatClampNeg (s61.2 v66.toNatClampNeg s61.1.toNatClampNeg)) : Option (Nat → Nat → Int32)).bind fun M69 => some (.inr ((s61.1 + 1), M69)) else none else none else none else none else none
def sX6_leave_75 (mN : Int32) (v3 : Int32) (s47 : Int32 × (Nat → Nat → Int32)) : Option ((Int32 × (Nat → Nat → Int32)) ⊕ (Int32 × (Nat → Nat → Int32))) := if (mN - 1) ≤ s47.1 then some (.inl (s47.1, s47.2)) else (zloop (sX6_leave_87 mN v3 s47) 32 (0, s47.2)).bind fun e63 => some (.inr ((s47.1 + 1), e63.2))
def fX6_leave (mN : Int32) (mS : Int32) (mX : Int32) (mK : (Nat → Int32)) (mJ : (Nat → Nat → Int32)) (p0 : Int32) : Option (Int32 × Int32 × Int32 × Int32 × Int32 × (Nat → Int32) × (Nat → Nat → Int32)) := (fX6_is mN mK p0).bind fun v1 => (fX6_can v1 1 1).bind fun v2 => if v2.1 = 0 then some (0, mN, mS, mX, v2.2, mK, mJ) else (fX6_at mN mK p0).bind fun v3 => (fX6_degree mN mJ v3).bind fun v4 => (zloop (sX6_leave_41 mN) 32 (v3, mK)).bind fun e7 => (zloop (sX6_leave_75 mN v3) 32 (0, mJ)).bind fun e49 => if mS = v3 then some (v4, (mN - 1), (-1), 0, v2.2, e7.2, e49.2) else if mS ≤ v3 then some (v4, (mN - 1), mS, 0, v2.2, e7.2, e49.2) else some (v4, (mN - 1), (mS - 1), 0, v2.2, e7.2, e49.2)
set_option maxRecDepth 100000 in
set_option maxHeartbeats 4000000 in
theorem kX6_leave (l : Launch) (K : zK) (aM : Nat) (aMk : Nat) (aMj : Nat) (aMc : Nat) (aMw : Nat) (aMr : (Nat → Nat))  (mN : Int32) (mS : Int32) (mX : Int32) (mT : Int32) (mK : (Nat → Int32)) (mC : (Nat → Int32)) (mW : (Nat → Int32)) (mJ : (Nat → Nat → Int32)) (p0 : Int32) (r : Int32 × Int32 × Int32 × Int32 × Int32 × (Nat → Int32) × (Nat → Nat → Int32)) (hres : fX6_leave mN mS mX mK mJ p0 = some r) : zM l K yX6_leave wsX6_leave ({ frames := 2, cells := 0, slots := 0, locals := 43 }) [.ref aM, .int p0] ([(aM, .inr (6, [.ref aMk, .ref aMj, .int mN, .int mS, .ref aMc, .ref aMw, .int mX, .int mT])), (aMk, .inl (K.2 0, 12, .inl mK)), (aMj, .inl (K.2 3, 12, .inr (.inr (.inr (.inr (zo aMr 12)))))), (aMc, .inl (K.2 0, 12, .inl mC)), (aMw, .inl (K.2 0, 12, .inl mW))] ++ zR12Z K aMr mJ) (fun _ : Unit => some (.int r.1)) (fun _ : Unit => ([(aM, .inr (6, [.ref aMk, .ref aMj, .int r.2.1, .int r.2.2.1, .ref aMc, .ref aMw, .int r.2.2.2.1, .int r.2.2.2.2.1])), (aMk, .inl (K.2 0, 12, .inl r.2.2.2.2.2.1)), (aMj, .inl (K.2 3, 12, .inr (.inr (.inr (.inr (zo aMr 12)))))), (aMc, .inl (K.2 0, 12, .inl mC)), (aMw, .inl (K.2 0, 12, .inl mW))] ++ zR12Z K aMr r.2.2.2.2.2.2)) 0 0 := by
  refine zM.intI (cc := cX6_leave) (maxL := 6) (ret := (some .int)) rfl (by decide) (Nat.le_of_ble_eq_true rfl) rfl ?_
  intro G hGl hG hN hE
  have hR : ∀ (pc : Nat) (lv : zL), decode cX6_leave pc = .ok (.ireturn, 1) → zj G pc lv [.int r.1] ([(aM, .inr (6, [.ref aMk, .ref aMj, .int r.2.1, .int r.2.2.1, .ref aMc, .ref aMw, .int r.2.2.2.1, .int r.2.2.2.2.1])), (aMk, .inl (K.2 0, 12, .inl r.2.2.2.2.2.1)), (aMj, .inl (K.2 3, 12, .inr (.inr (.inr (.inr (zo aMr 12)))))), (aMc, .inl (K.2 0, 12, .inl mC)), (aMw, .inl (K.2 0, 12, .inl mW))] ++ zR12Z K aMr r.2.2.2.2.2.2) 0 0 := fun pc lv d => hE () _ rfl pc lv d
  clear hE
  unfold fX6_leave at hres
  show zj G 0 [(0, .ref aM), (1, .int p0)] [] ([(aM, .inr (6, [.ref aMk, .ref aMj, .int mN, .int mS, .ref aMc, .ref aMw, .int mX, .int mT])), (aMk, .inl (K.2 0, 12, .inl mK)), (aMj, .inl (K.2 3, 12, .inr (.inr (.inr (.inr (zo aMr 12)))))), (aMc, .inl (K.2 0, 12, .inl mC)), (aMw, .inl (K.2 0, 12, .inl mW))] ++ zR12Z K aMr mJ) 0 0
  refine z_aload_n hG dX6_leave_0 0 rfl ?_
  refine z_aload_n hG dX6_leave_1 0 rfl ?_
  refine z_iload_n hG dX6_leave_2 1 rfl ?_
  obtain ⟨v1, hv, hres⟩ := z_bind hres
  refine z_callV (As := [.int p0]) (rest := [.ref aM]) (wr := ([] : va_W)) (ws' := (fun _ : Unit => ([(aM, .inr (6, [.ref aMk, .ref aMj, .int mN, .int mS, .ref aMc, .ref aMw, .int mX, .int mT])), (aMk, .inl (K.2 0, 12, .inl mK)), (aMj, .inl (K.2 3, 12, .inr (.inr (.inr (.inr (zo aMr 12)))))), (aMc, .inl (K.2 0, 12, .inl mC)), (aMw, .inl (K.2 0, 12, .inl mW))] ++ zR12Z K aMr mJ))) (stk := (fun _ : Unit => [.int v1, .ref aM])) (kc' := 0) (ks' := 0) (n := 1) (C := RX6) (ci := 6) hG dX6_leave_3 (kX6_is _ K aM aMk aMj aMc aMw aMr mN mS mX mT mK mC mW mJ p0 v1 hv) gX6_leave_X6_is rfl rfl rfl ⟨rfl, by decide, by decide, rfl⟩ ⟨by decide, by decide⟩ (Nat.le_of_ble_eq_true rfl) ⟨(Nat.le_of_ble_eq_true rfl), (Nat.le_of_ble_eq_true rfl)⟩ [0, 1, 2, 3, 4, 5, 6, 7, 8, 9, 10, 11, 12, 13, 14, 15, 16] [] [0, 1, 2, 3, 4, 5, 6, 7, 8, 9, 10, 11, 12, 13, 14, 15, 16] rfl rfl rfl rfl (by decide) rfl (fun _ => rfl) (fun _ => rfl) rfl rfl rfl 0 rfl rfl rfl rfl (fun _ => ?_)
  refine z_iconst 1 hG dX6_leave_6 (by decide) ?_
  refine z_iconst 1 hG dX6_leave_7 (by decide) ?_
  obtain ⟨v2, hv, hres⟩ := z_bind hres
  refine z_callV (As := [.int v1, .int 1, .int 1]) (rest := []) (wr := ([(aMk, .inl (K.2 0, 12, .inl mK)), (aMj, .inl (K.2 3, 12, .inr (.inr (.inr (.inr (zo aMr 12)))))), (aMc, .inl (K.2 0, 12, .inl mC)), (aMw, .inl (K.2 0, 12, .inl mW))] ++ zR12Z K aMr mJ)) (ws' := (fun _ : Unit => ([(aM, .inr (6, [.ref aMk, .ref aMj, .int mN, .int mS, .ref aMc, .ref aMw, .int mX, .int v2.2])), (aMk, .inl (K.2 0, 12, .inl mK)), (aMj, .inl (K.2 3, 12, .inr (.inr (.inr (.inr (zo aMr 12)))))), (aMc, .inl (K.2 0, 12, .inl mC)), (aMw, .inl (K.2 0, 12, .inl mW))] ++ zR12Z K aMr mJ))) (stk := (fun _ : Unit => [.int v2.1])) (kc' := 0) (ks' := 0) (n := 3) (C := RX6) (ci := 6) hG dX6_leave_8 (kX6_can _ K aM aMk aMj aMc aMw mN mS mX mT v1 1 1 v2 hv) gX6_leave_X6_can rfl rfl rfl ⟨rfl, by decide, by decide, rfl⟩ ⟨by decide, by decide⟩ (Nat.le_of_ble_eq_true rfl) ⟨(Nat.le_of_ble_eq_true rfl), (Nat.le_of_ble_eq_true rfl)⟩ [0] [1, 2, 3, 4, 5, 6, 7, 8, 9, 10, 11, 12, 13, 14, 15, 16] [16, 0, 1, 2, 3, 4, 5, 6, 7, 8, 9, 10, 11, 12, 13, 14, 15] rfl rfl rfl rfl (by decide) rfl (fun _ => rfl) (fun _ => rfl) rfl rfl rfl 0 rfl rfl rfl rfl (fun _ => ?_)
  refine z_if_ne 16 hG dX6_leave_11 (by decide) (fun c => ?_) (fun c => ?_)
  · replace hres := z_ifn c hres
    refine z_aload_n hG dX6_leave_16 0 rfl ?_
    refine z_iload_n hG dX6_leave_17 1 rfl ?_
    obtain ⟨v3, hv, hres⟩ := z_bind hres
    refine z_callV (As := [.int p0]) (rest := []) (wr := ([] : va_W)) (ws' := (fun _ : Unit => ([(aM, .inr (6, [.ref aMk, .ref aMj, .int mN, .int mS, .ref aMc, .ref aMw, .int mX, .int v2.2])), (aMk, .inl (K.2 0, 12, .inl mK)), (aMj, .inl (K.2 3, 12, .inr (.inr (.inr (.inr (zo aMr 12)))))), (aMc, .inl (K.2 0, 12, .inl mC)), (aMw, .inl (K.2 0, 12, .inl mW))] ++ zR12Z K aMr mJ))) (stk := (fun _ : Unit => [.int v3])) (kc' := 0) (ks' := 0) (n := 1) (C := RX6) (ci := 6) hG dX6_leave_18 (kX6_at _ K aM aMk aMj aMc aMw aMr mN mS mX v2.2 mK mC mW mJ p0 v3 hv) gX6_leave_X6_at rfl rfl rfl ⟨rfl, by decide, by decide, rfl⟩ ⟨by decide, by decide⟩ (Nat.le_of_ble_eq_true rfl) ⟨(Nat.le_of_ble_eq_true rfl), (Nat.le_of_ble_eq_true rfl)⟩ [0, 1, 2, 3, 4, 5, 6, 7, 8, 9, 10, 11, 12, 13, 14, 15, 16] [] [0, 1, 2, 3, 4, 5, 6, 7, 8, 9, 10, 11, 12, 13, 14, 15, 16] rfl rfl rfl rfl (by decide) rfl (fun _ => rfl) (fun _ => rfl) rfl rfl rfl 0 rfl rfl rfl rfl (fun _ => ?_)
    refine z_istore_n (lv' := [(2, .int v3), (0, .ref aM), (1, .int p0)]) hG dX6_leave_21 (by decide) rfl ?_
    refine z_aload_n hG dX6_leave_22 1 rfl ?_
    refine z_iload_n hG dX6_leave_23 0 rfl ?_
    obtain ⟨v4, hv, hres⟩ := z_bind hres
    refine z_callV (As := [.int v3]) (rest := []) (wr := ([] : va_W)) (ws' := (fun _ : Unit => ([(aM, .inr (6, [.ref aMk, .ref aMj, .int mN, .int mS, .ref aMc, .ref aMw, .int mX, .int v2.2])), (aMk, .inl (K.2 0, 12, .inl mK)), (aMj, .inl (K.2 3, 12, .inr (.inr (.inr (.inr (zo aMr 12)))))), (aMc, .inl (K.2 0, 12, .inl mC)), (aMw, .inl (K.2 0, 12, .inl mW))] ++ zR12Z K aMr mJ))) (stk := (fun _ : Unit => [.int v4])) (kc' := 0) (ks' := 0) (n := 1) (C := RX6) (ci := 6) hG dX6_leave_24 (kX6_degree _ K aM aMk aMj aMc aMw aMr mN mS mX v2.2 mK mC mW mJ v3 v4 hv) gX6_leave_X6_degree rfl rfl rfl ⟨rfl, by decide, by decide, rfl⟩ ⟨by decide, by decide⟩ (Nat.le_of_ble_eq_true rfl) ⟨(Nat.le_of_ble_eq_true rfl), (Nat.le_of_ble_eq_true rfl)⟩ [0, 1, 2, 3, 4, 5, 6, 7, 8, 9, 10, 11, 12, 13, 14, 15, 16] [] [0, 1, 2, 3, 4, 5, 6, 7, 8, 9, 10, 11, 12, 13, 14, 15, 16] rfl rfl rfl rfl (by decide) rfl (fun _ => rfl) (fun _ => rfl) rfl rfl rfl 0 rfl rfl rfl rfl (fun _ => ?_)
    refine z_istore_n (lv' := [(3, .int v4), (2, .int v3), (0, .ref aM), (1, .int p0)]) hG dX6_leave_27 (by decide) rfl ?_
    refine z_aload_n hG dX6_leave_28 2 rfl ?_
    refine z_dup hG dX6_leave_29 rfl ?_
    refine z_get (ci := 6) (C := RX6) (T := TX6) (N := 8) hG dX6_leave_30 iX6_leave_X6 2 (by decide) mX6_leave_0 rfl rfl 0 rfl rfl ?_
    refine z_iconst 1 hG dX6_leave_33 (by decide) ?_
    refine z_isub hG dX6_leave_34 ?_
    refine z_put (ci := 6) (C := RX6) (T := TX6) (N := 8) (ws' := ([(aM, .inr (6, [.ref aMk, .ref aMj, .int (mN - 1), .int mS, .ref aMc, .ref aMw, .int mX, .int v2.2])), (aMk, .inl (K.2 0, 12, .inl mK)), (aMj, .inl (K.2 3, 12, .inr (.inr (.inr (.inr (zo aMr 12)))))), (aMc, .inl (K.2 0, 12, .inl mC)), (aMw, .inl (K.2 0, 12, .inl mW))] ++ zR12Z K aMr mJ)) hG dX6_leave_35 iX6_leave_X6 tyX6_ok nmX6 2 (by decide) mX6_leave_0 rfl rfl rfl rfl rfl rfl 0 rfl (Nat.le_of_ble_eq_true rfl) rfl ?_
    refine z_iload_n hG dX6_leave_38 1 rfl ?_
    refine z_istore (lv' := [(4, .int v3), (3, .int v4), (2, .int v3), (0, .ref aM), (1, .int p0)]) hG dX6_leave_39 (by decide) rfl ?_
    obtain ⟨e7, hx, hres⟩ := z_bind hres
    refine z_lv [3, 4, 2, 1, 0] (lv' := [(0, .ref aM), (1, .int p0), (2, .int v3), (3, .int v4), (4, .int v3)]) rfl ?_
    refine z_loop hx (fun s5 : Int32 × (Nat → Int32) => [(0, .ref aM), (1, .int p0), (2, .int v3), (3, .int v4), (4, .int s5.1)]) (fun s5 : Int32 × (Nat → Int32) => ([(aM, .inr (6, [.ref aMk, .ref aMj, .int (mN - 1), .int mS, .ref aMc, .ref aMw, .int mX, .int v2.2])), (aMk, .inl (K.2 0, 12, .inl s5.2)), (aMj, .inl (K.2 3, 12, .inr (.inr (.inr (.inr (zo aMr 12)))))), (aMc, .inl (K.2 0, 12, .inl mC)), (aMw, .inl (K.2 0, 12, .inl mW))] ++ zR12Z K aMr mJ)) (fun e7 : Int32 × (Nat → Int32) => zj G 72 [(0, .ref aM), (1, .int p0), (2, .int v3), (3, .int v4), (4, .int e7.1)] [] ([(aM, .inr (6, [.ref aMk, .ref aMj, .int (mN - 1), .int mS, .ref aMc, .ref aMw, .int mX, .int v2.2])), (aMk, .inl (K.2 0, 12, .inl e7.2)), (aMj, .inl (K.2 3, 12, .inr (.inr (.inr (.inr (zo aMr 12)))))), (aMc, .inl (K.2 0, 12, .inl mC)), (aMw, .inl (K.2 0, 12, .inl mW))] ++ zR12Z K aMr mJ) 0 0) ?_ ?_
    · refine z_iconst 0 hG dX6_leave_72 (by decide) ?_
      refine z_istore (lv' := [(4, .int 0), (0, .ref aM), (1, .int p0), (2, .int v3), (3, .int v4)]) hG dX6_leave_73 (by decide) rfl ?_
      obtain ⟨e49, hx, hres⟩ := z_bind hres
      refine z_lv [1, 2, 3, 4, 0] (lv' := [(0, .ref aM), (1, .int p0), (2, .int v3), (3, .int v4), (4, .int 0)]) rfl ?_
      refine z_loop hx (fun s47 : Int32 × (Nat → Nat → Int32) => [(0, .ref aM), (1, .int p0), (2, .int v3), (3, .int v4), (4, .int s47.1)]) (fun s47 : Int32 × (Nat → Nat → Int32) => ([(aM, .inr (6, [.ref aMk, .ref aMj, .int (mN - 1), .int mS, .ref aMc, .ref aMw, .int mX, .int v2.2])), (aMk, .inl (K.2 0, 12, .inl e7.2)), (aMj, .inl (K.2 3, 12, .inr (.inr (.inr (.inr (zo aMr 12)))))), (aMc, .inl (K.2 0, 12, .inl mC)), (aMw, .inl (K.2 0, 12, .inl mW))] ++ zR12Z K aMr s47.2)) (fun e49 : Int32 × (Nat → Nat → Int32) => zj G 154 [(0, .ref aM), (1, .int p0), (2, .int v3), (3, .int v4), (4, .int e49.1)] [] ([(aM, .inr (6, [.ref aMk, .ref aMj, .int (mN - 1), .int mS, .ref aMc, .ref aMw, .int mX, .int v2.2])), (aMk, .inl (K.2 0, 12, .inl e7.2)), (aMj, .inl (K.2 3, 12, .inr (.inr (.inr (.inr (zo aMr 12)))))), (aMc, .inl (K.2 0, 12, .inl mC)), (aMw, .inl (K.2 0, 12, .inl mW))] ++ zR12Z K aMr e49.2) 0 0) ?_ ?_
      · refine z_aload_n hG dX6_leave_154 0 rfl ?_
        refine z_aload_n hG dX6_leave_155 0 rfl ?_
        refine z_get (ci := 6) (C := RX6) (T := TX6) (N := 8) hG dX6_leave_156 iX6_leave_X6 3 (by decide) mX6_leave_4 rfl rfl 0 rfl rfl ?_
        refine z_iload_n hG dX6_leave_159 2 rfl ?_
        refine z_icmp_ne 167 hG dX6_leave_160 (by decide) (fun c => ?_) (fun c => ?_)
        · replace hres := z_ifn c hres
          refine z_aload_n hG dX6_leave_167 0 rfl ?_
          refine z_get (ci := 6) (C := RX6) (T := TX6) (N := 8) hG dX6_leave_168 iX6_leave_X6 3 (by decide) mX6_leave_4 rfl rfl 0 rfl rfl ?_
          refine z_iload_n hG dX6_leave_171 2 rfl ?_
          refine z_icmp_le 184 hG dX6_leave_172 (by decide) (fun c => ?_) (fun c => ?_)
          · replace hres := z_ifp c hres
            refine z_aload_n hG dX6_leave_184 0 rfl ?_
            refine z_get (ci := 6) (C := RX6) (T := TX6) (N := 8) hG dX6_leave_185 iX6_leave_X6 3 (by decide) mX6_leave_4 rfl rfl 0 rfl rfl ?_
            refine z_put (ci := 6) (C := RX6) (T := TX6) (N := 8) (ws' := ([(aM, .inr (6, [.ref aMk, .ref aMj, .int (mN - 1), .int mS, .ref aMc, .ref aMw, .int mX, .int v2.2])), (aMk, .inl (K.2 0, 12, .inl e7.2)), (aMj, .inl (K.2 3, 12, .inr (.inr (.inr (.inr (zo aMr 12)))))), (aMc, .inl (K.2 0, 12, .inl mC)), (aMw, .inl (K.2 0, 12, .inl mW))] ++ zR12Z K aMr e49.2)) hG dX6_leave_188 iX6_leave_X6 tyX6_ok nmX6 3 (by decide) mX6_leave_4 rfl rfl rfl rfl rfl rfl 0 rfl (Nat.le_of_ble_eq_true rfl) rfl ?_
            refine z_aload_n hG dX6_leave_191 0 rfl ?_
            refine z_iconst 0 hG dX6_leave_192 (by decide) ?_
            refine z_put (ci := 6) (C := RX6) (T := TX6) (N := 8) (ws' := ([(aM, .inr (6, [.ref aMk, .ref aMj, .int (mN - 1), .int mS, .ref aMc, .ref aMw, .int 0, .int v2.2])), (aMk, .inl (K.2 0, 12, .inl e7.2)), (aMj, .inl (K.2 3, 12, .inr (.inr (.inr (.inr (zo aMr 12)))))), (aMc, .inl (K.2 0, 12, .inl mC)), (aMw, .inl (K.2 0, 12, .inl mW))] ++ zR12Z K aMr e49.2)) hG dX6_leave_193 iX6_leave_X6 tyX6_ok nmX6 6 (by decide) mX6_leave_5 rfl rfl rfl rfl rfl rfl 0 rfl (Nat.le_of_ble_eq_true rfl) rfl ?_
            refine z_iload_n hG dX6_leave_196 3 rfl ?_
            obtain rfl := Option.some.inj hres
            exact (hR _ _ dX6_leave_197)
          · replace hres := z_ifn c hres
            refine z_aload_n hG dX6_leave_175 0 rfl ?_
            refine z_get (ci := 6) (C := RX6) (T := TX6) (N := 8) hG dX6_leave_176 iX6_leave_X6 3 (by decide) mX6_leave_4 rfl rfl 0 rfl rfl ?_
            refine z_iconst 1 hG dX6_leave_179 (by decide) ?_
            refine z_isub hG dX6_leave_180 ?_
            refine z_goto 188 hG dX6_leave_181 (by decide) ?_
            refine z_put (ci := 6) (C := RX6) (T := TX6) (N := 8) (ws' := ([(aM, .inr (6, [.ref aMk, .ref aMj, .int (mN - 1), .int (mS - 1), .ref aMc, .ref aMw, .int mX, .int v2.2])), (aMk, .inl (K.2 0, 12, .inl e7.2)), (aMj, .inl (K.2 3, 12, .inr (.inr (.inr (.inr (zo aMr 12)))))), (aMc, .inl (K.2 0, 12, .inl mC)), (aMw, .inl (K.2 0, 12, .inl mW))] ++ zR12Z K aMr e49.2)) hG dX6_leave_188 iX6_leave_X6 tyX6_ok nmX6 3 (by decide) mX6_leave_4 rfl rfl rfl rfl rfl rfl 0 rfl (Nat.le_of_ble_eq_true rfl) rfl ?_
            refine z_aload_n hG dX6_leave_191 0 rfl ?_
            refine z_iconst 0 hG dX6_leave_192 (by decide) ?_
            refine z_put (ci := 6) (C := RX6) (T := TX6) (N := 8) (ws' := ([(aM, .inr (6, [.ref aMk, .ref aMj, .int (mN - 1), .int (mS - 1), .ref aMc, .ref aMw, .int 0, .int v2.2])), (aMk, .inl (K.2 0, 12, .inl e7.2)), (aMj, .inl (K.2 3, 12, .inr (.inr (.inr (.inr (zo aMr 12)))))), (aMc, .inl (K.2 0, 12, .inl mC)), (aMw, .inl (K.2 0, 12, .inl mW))] ++ zR12Z K aMr e49.2)) hG dX6_leave_193 iX6_leave_X6 tyX6_ok nmX6 6 (by decide) mX6_leave_5 rfl rfl rfl rfl rfl rfl 0 rfl (Nat.le_of_ble_eq_true rfl) rfl ?_
            refine z_iload_n hG dX6_leave_196 3 rfl ?_
            obtain rfl := Option.some.inj hres
            exact (hR _ _ dX6_leave_197)
        · replace hres := z_ifp c hres
          refine z_iconst (-1) hG dX6_leave_163 (by decide) ?_
          refine z_goto 188 hG dX6_leave_164 (by decide) ?_
          refine z_put (ci := 6) (C := RX6) (T := TX6) (N := 8) (ws' := ([(aM, .inr (6, [.ref aMk, .ref aMj, .int (mN - 1), .int (-1), .ref aMc, .ref aMw, .int mX, .int v2.2])), (aMk, .inl (K.2 0, 12, .inl e7.2)), (aMj, .inl (K.2 3, 12, .inr (.inr (.inr (.inr (zo aMr 12)))))), (aMc, .inl (K.2 0, 12, .inl mC)), (aMw, .inl (K.2 0, 12, .inl mW))] ++ zR12Z K aMr e49.2)) hG dX6_leave_188 iX6_leave_X6 tyX6_ok nmX6 3 (by decide) mX6_leave_4 rfl rfl rfl rfl rfl rfl 0 rfl (Nat.le_of_ble_eq_true rfl) rfl ?_
          refine z_aload_n hG dX6_leave_191 0 rfl ?_
          refine z_iconst 0 hG dX6_leave_192 (by decide) ?_
          refine z_put (ci := 6) (C := RX6) (T := TX6) (N := 8) (ws' := ([(aM, .inr (6, [.ref aMk, .ref aMj, .int (mN - 1), .int (-1), .ref aMc, .ref aMw, .int 0, .int v2.2])), (aMk, .inl (K.2 0, 12, .inl e7.2)), (aMj, .inl (K.2 3, 12, .inr (.inr (.inr (.inr (zo aMr 12)))))), (aMc, .inl (K.2 0, 12, .inl mC)), (aMw, .inl (K.2 0, 12, .inl mW))] ++ zR12Z K aMr e49.2)) hG dX6_leave_193 iX6_leave_X6 tyX6_ok nmX6 6 (by decide) mX6_leave_5 rfl rfl rfl rfl rfl rfl 0 rfl (Nat.le_of_ble_eq_true rfl) rfl ?_
          refine z_iload_n hG dX6_leave_196 3 rfl ?_
          obtain rfl := Option.some.inj hres
          exact (hR _ _ dX6_leave_197)
      · intro s47 w48 hres hX hB
        unfold sX6_leave_75 at hres
        refine z_iload hG dX6_leave_75 4 rfl ?_
        refine z_aload_n hG dX6_leave_77 0 rfl ?_
        refine z_get (ci := 6) (C := RX6) (T := TX6) (N := 8) hG dX6_leave_78 iX6_leave_X6 2 (by decide) mX6_leave_0 rfl rfl 0 rfl rfl ?_
        refine z_icmp_ge 154 hG dX6_leave_81 (by decide) (fun c => ?_) (fun c => ?_)
        · replace hres := z_ifp c hres
          exact (hX (s47.1, s47.2) (Option.some.inj hres).symm)
        · replace hres := z_ifn c hres
          refine z_iconst 0 hG dX6_leave_84 (by decide) ?_
          refine z_istore (lv' := [(5, .int 0), (0, .ref aM), (1, .int p0), (2, .int v3), (3, .int v4), (4, .int s47.1)]) hG dX6_leave_85 (by decide) rfl ?_
          obtain ⟨e63, hx, hres⟩ := z_bind hres
          refine z_lv [1, 2, 3, 4, 5, 0] (lv' := [(0, .ref aM), (1, .int p0), (2, .int v3), (3, .int v4), (4, .int s47.1), (5, .int 0)]) rfl ?_
          refine z_loop hx (fun s61 : Int32 × (Nat → Nat → Int32) => [(0, .ref aM), (1, .int p0), (2, .int v3), (3, .int v4), (4, .int s47.1), (5, .int s61.1)]) (fun s61 : Int32 × (Nat → Nat → Int32) => ([(aM, .inr (6, [.ref aMk, .ref aMj, .int (mN - 1), .int mS, .ref aMc, .ref aMw, .int mX, .int v2.2])), (aMk, .inl (K.2 0, 12, .inl e7.2)), (aMj, .inl (K.2 3, 12, .inr (.inr (.inr (.inr (zo aMr 12)))))), (aMc, .inl (K.2 0, 12, .inl mC)), (aMw, .inl (K.2 0, 12, .inl mW))] ++ zR12Z K aMr s61.2)) (fun e63 : Int32 × (Nat → Nat → Int32) => zj G 148 [(0, .ref aM), (1, .int p0), (2, .int v3), (3, .int v4), (4, .int s47.1), (5, .int e63.1)] [] ([(aM, .inr (6, [.ref aMk, .ref aMj, .int (mN - 1), .int mS, .ref aMc, .ref aMw, .int mX, .int v2.2])), (aMk, .inl (K.2 0, 12, .inl e7.2)), (aMj, .inl (K.2 3, 12, .inr (.inr (.inr (.inr (zo aMr 12)))))), (aMc, .inl (K.2 0, 12, .inl mC)), (aMw, .inl (K.2 0, 12, .inl mW))] ++ zR12Z K aMr e63.2) 0 0) ?_ ?_
          · refine z_iinc (s47.1 + 1) (lv' := [(4, .int (s47.1 + 1)), (0, .ref aM), (1, .int p0), (2, .int v3), (3, .int v4), (5, .int e63.1)]) hG dX6_leave_148 4 rfl rfl (by decide) rfl ?_
            refine z_goto 75 hG dX6_leave_151 (by decide) ?_
            exact (z_lv [1, 2, 3, 4, 0] rfl (hB ((s47.1 + 1), e63.2) (Option.some.inj hres).symm))
          · intro s61 w62 hres hX hB
            unfold sX6_leave_87 at hres
            refine z_iload hG dX6_leave_87 5 rfl ?_
            refine z_aload_n hG dX6_leave_89 0 rfl ?_
            refine z_get (ci := 6) (C := RX6) (T := TX6) (N := 8) hG dX6_leave_90 iX6_leave_X6 2 (by decide) mX6_leave_0 rfl rfl 0 rfl rfl ?_
            refine z_icmp_ge 148 hG dX6_leave_93 (by decide) (fun c => ?_) (fun c => ?_)
            · replace hres := z_ifp c hres
              exact (hX (s61.1, s61.2) (Option.some.inj hres).symm)
            · replace hres := z_ifn c hres
              refine z_aload_n hG dX6_leave_96 0 rfl ?_
              refine z_get (ci := 6) (C := RX6) (T := TX6) (N := 8) hG dX6_leave_97 iX6_leave_X6 1 (by decide) mX6_leave_3 rfl rfl 0 rfl rfl ?_
              refine z_iload hG dX6_leave_100 4 rfl ?_
              obtain ⟨hr65, hres⟩ := z_guard hres
              refine z_aaldZ hG dX6_leave_102 2 rfl hr65 ?_
              refine z_iload hG dX6_leave_103 5 rfl ?_
              refine z_aload_n hG dX6_leave_105 0 rfl ?_
              refine z_get (ci := 6) (C := RX6) (T := TX6) (N := 8) hG dX6_leave_106 iX6_leave_X6 1 (by decide) mX6_leave_3 rfl rfl 0 rfl rfl ?_
              refine z_iload hG dX6_leave_109 4 rfl ?_
              refine z_iload_n hG dX6_leave_111 2 rfl ?_
              obtain ⟨v66, hv, hres⟩ := z_bind hres
              have J : zj G 124 [(0, .ref aM), (1, .int p0), (2, .int v3), (3, .int v4), (4, .int s47.1), (5, .int s61.1)] [.int v66, .ref aMj, .int s61.1, .ref (aMr s47.1.toNatClampNeg)] ([(aM, .inr (6, [.ref aMk, .ref aMj, .int (mN - 1), .int mS, .ref aMc, .ref aMw, .int mX, .int v2.2])), (aMk, .inl (K.2 0, 12, .inl e7.2)), (aMj, .inl (K.2 3, 12, .inr (.inr (.inr (.inr (zo aMr 12)))))), (aMc, .inl (K.2 0, 12, .inl mC)), (aMw, .inl (K.2 0, 12, .inl mW))] ++ zR12Z K aMr s61.2) 0 0 := by
                obtain ⟨hr67, hres⟩ := z_guard hres
                refine z_aaldZ hG dX6_leave_124 2 rfl hr67 ?_
                refine z_iload hG dX6_leave_125 5 rfl ?_
                refine z_iload_n hG dX6_leave_127 2 rfl ?_
                refine z_icmp_ge 136 hG dX6_leave_128 (by decide) (fun c => ?_) (fun c => ?_)
                · replace hres := z_ifp c hres
                  refine z_iload hG dX6_leave_136 5 rfl ?_
                  refine z_iconst 1 hG dX6_leave_138 (by decide) ?_
                  refine z_iadd hG dX6_leave_139 ?_
                  obtain ⟨hg, hres⟩ := z_guard hres
                  refine z_zaldG (M := s61.2) hG dX6_leave_140 5 (z_12 rfl rfl rfl rfl rfl rfl rfl rfl rfl rfl rfl rfl) hr67 hg ?_
                  obtain ⟨hg, hres⟩ := z_guard hres
                  obtain ⟨hg2, hres⟩ := z_guard hres
                  refine z_zastG (M := s61.2) (ws' := fun k => ([(aM, .inr (6, [.ref aMk, .ref aMj, .int (mN - 1), .int mS, .ref aMc, .ref aMw, .int mX, .int v2.2])), (aMk, .inl (K.2 0, 12, .inl e7.2)), (aMj, .inl (K.2 3, 12, .inr (.inr (.inr (.inr (zo aMr 12)))))), (aMc, .inl (K.2 0, 12, .inl mC)), (aMw, .inl (K.2 0, 12, .inl mW))] ++ zR12Z K aMr (zup2 s61.2 k s61.1.toNatClampNeg (s61.2 v66.toNatClampNeg (s61.1 + 1).toNatClampNeg)))) hG dX6_leave_141 5 (z_12 rfl rfl rfl rfl rfl rfl rfl rfl rfl rfl rfl rfl) hr65 hg hg2 (z_12 rfl rfl rfl rfl rfl rfl rfl rfl rfl rfl rfl rfl) ?_
                  obtain ⟨M68, hM, hres⟩ := z_bind hres
                  replace hM := Option.some.inj hM
                  show zj G 142 [(0, .ref aM), (1, .int p0), (2, .int v3), (3, .int v4), (4, .int s47.1), (5, .int s61.1)] [] ([(aM, .inr (6, [.ref aMk, .ref aMj, .int (mN - 1), .int mS, .ref aMc, .ref aMw, .int mX, .int v2.2])), (aMk, .inl (K.2 0, 12, .inl e7.2)), (aMj, .inl (K.2 3, 12, .inr (.inr (.inr (.inr (zo aMr 12)))))), (aMc, .inl (K.2 0, 12, .inl mC)), (aMw, .inl (K.2 0, 12, .inl mW))] ++ zR12Z K aMr (zup2 s61.2 s47.1.toNatClampNeg s61.1.toNatClampNeg (s61.2 v66.toNatClampNeg (s61.1 + 1).toNatClampNeg))) 0 0
                  rw [hM]
                  clear hM
                  refine z_iinc (s61.1 + 1) (lv' := [(5, .int (s61.1 + 1)), (0, .ref aM), (1, .int p0), (2, .int v3), (3, .int v4), (4, .int s47.1)]) hG dX6_leave_142 5 rfl rfl (by decide) rfl ?_
                  refine z_goto 87 hG dX6_leave_145 (by decide) ?_
                  exact (z_lv [1, 2, 3, 4, 5, 0] rfl (hB ((s61.1 + 1), M68) (Option.some.inj hres).symm))
                · replace hres := z_ifn c hres
                  refine z_iload hG dX6_leave_131 5 rfl ?_
                  refine z_goto 140 hG dX6_leave_133 (by decide) ?_
                  obtain ⟨hg, hres⟩ := z_guard hres
                  refine z_zaldG (M := s61.2) hG dX6_leave_140 5 (z_12 rfl rfl rfl rfl rfl rfl rfl rfl rfl rfl rfl rfl) hr67 hg ?_
                  obtain ⟨hg, hres⟩ := z_guard hres
                  obtain ⟨hg2, hres⟩ := z_guard hres
                  refine z_zastG (M := s61.2) (ws' := fun k => ([(aM, .inr (6, [.ref aMk, .ref aMj, .int (mN - 1), .int mS, .ref aMc, .ref aMw, .int mX, .int v2.2])), (aMk, .inl (K.2 0, 12, .inl e7.2)), (aMj, .inl (K.2 3, 12, .inr (.inr (.inr (.inr (zo aMr 12)))))), (aMc, .inl (K.2 0, 12, .inl mC)), (aMw, .inl (K.2 0, 12, .inl mW))] ++ zR12Z K aMr (zup2 s61.2 k s61.1.toNatClampNeg (s61.2 v66.toNatClampNeg s61.1.toNatClampNeg)))) hG dX6_leave_141 5 (z_12 rfl rfl rfl rfl rfl rfl rfl rfl rfl rfl rfl rfl) hr65 hg hg2 (z_12 rfl rfl rfl rfl rfl rfl rfl rfl rfl rfl rfl rfl) ?_
                  obtain ⟨M69, hM, hres⟩ := z_bind hres
                  replace hM := Option.some.inj hM
                  show zj G 142 [(0, .ref aM), (1, .int p0), (2, .int v3), (3, .int v4), (4, .int s47.1), (5, .int s61.1)] [] ([(aM, .inr (6, [.ref aMk, .ref aMj, .int (mN - 1), .int mS, .ref aMc, .ref aMw, .int mX, .int v2.2])), (aMk, .inl (K.2 0, 12, .inl e7.2)), (aMj, .inl (K.2 3, 12, .inr (.inr (.inr (.inr (zo aMr 12)))))), (aMc, .inl (K.2 0, 12, .inl mC)), (aMw, .inl (K.2 0, 12, .inl mW))] ++ zR12Z K aMr (zup2 s61.2 s47.1.toNatClampNeg s61.1.toNatClampNeg (s61.2 v66.toNatClampNeg s61.1.toNatClampNeg))) 0 0
                  rw [hM]
                  clear hM
                  refine z_iinc (s61.1 + 1) (lv' := [(5, .int (s61.1 + 1)), (0, .ref aM), (1, .int p0), (2, .int v3), (3, .int v4), (4, .int s47.1)]) hG dX6_leave_142 5 rfl rfl (by decide) rfl ?_
                  refine z_goto 87 hG dX6_leave_145 (by decide) ?_
                  exact (z_lv [1, 2, 3, 4, 5, 0] rfl (hB ((s61.1 + 1), M69) (Option.some.inj hres).symm))
              replace hres := hv
              clear hv
              refine z_icmp_ge 120 hG dX6_leave_112 (by decide) (fun c => ?_) (fun c => ?_)
              · replace hres := z_ifp c hres
                refine z_iload hG dX6_leave_120 4 rfl ?_
                refine z_iconst 1 hG dX6_leave_122 (by decide) ?_
                refine z_iadd hG dX6_leave_123 ?_
                obtain rfl := Option.some.inj hres
                exact J
              · replace hres := z_ifn c hres
                refine z_iload hG dX6_leave_115 4 rfl ?_
                refine z_goto 124 hG dX6_leave_117 (by decide) ?_
                obtain rfl := Option.some.inj hres
                exact J
    · intro s5 w6 hres hX hB
      unfold sX6_leave_41 at hres
      refine z_iload hG dX6_leave_41 4 rfl ?_
      refine z_aload_n hG dX6_leave_43 0 rfl ?_
      refine z_get (ci := 6) (C := RX6) (T := TX6) (N := 8) hG dX6_leave_44 iX6_leave_X6 2 (by decide) mX6_leave_0 rfl rfl 0 rfl rfl ?_
      refine z_icmp_ge 72 hG dX6_leave_47 (by decide) (fun c => ?_) (fun c => ?_)
      · replace hres := z_ifp c hres
        exact (hX (s5.1, s5.2) (Option.some.inj hres).symm)
      · replace hres := z_ifn c hres
        refine z_aload_n hG dX6_leave_50 0 rfl ?_
        refine z_get (ci := 6) (C := RX6) (T := TX6) (N := 8) hG dX6_leave_51 iX6_leave_X6 0 (by decide) mX6_leave_2 rfl rfl 0 rfl rfl ?_
        refine z_iload hG dX6_leave_54 4 rfl ?_
        refine z_aload_n hG dX6_leave_56 0 rfl ?_
        refine z_get (ci := 6) (C := RX6) (T := TX6) (N := 8) hG dX6_leave_57 iX6_leave_X6 0 (by decide) mX6_leave_2 rfl rfl 0 rfl rfl ?_
        refine z_iload hG dX6_leave_60 4 rfl ?_
        refine z_iconst 1 hG dX6_leave_62 (by decide) ?_
        refine z_iadd hG dX6_leave_63 ?_
        obtain ⟨hg, hres⟩ := z_guard hres
        refine z_iald hG dX6_leave_64 1 rfl hg ?_
        obtain ⟨hg, hres⟩ := z_guard hres
        refine z_iast (ws' := ([(aM, .inr (6, [.ref aMk, .ref aMj, .int (mN - 1), .int mS, .ref aMc, .ref aMw, .int mX, .int v2.2])), (aMk, .inl (K.2 0, 12, .inl (upd s5.2 s5.1.toNatClampNeg (s5.2 (s5.1 + 1).toNatClampNeg)))), (aMj, .inl (K.2 3, 12, .inr (.inr (.inr (.inr (zo aMr 12)))))), (aMc, .inl (K.2 0, 12, .inl mC)), (aMw, .inl (K.2 0, 12, .inl mW))] ++ zR12Z K aMr mJ)) hG dX6_leave_65 1 rfl hg rfl ?_
        refine z_iinc (s5.1 + 1) (lv' := [(4, .int (s5.1 + 1)), (0, .ref aM), (1, .int p0), (2, .int v3), (3, .int v4)]) hG dX6_leave_66 4 rfl rfl (by decide) rfl ?_
        refine z_goto 41 hG dX6_leave_69 (by decide) ?_
        exact (z_lv [1, 2, 3, 4, 0] rfl (hB ((s5.1 + 1), (upd s5.2 s5.1.toNatClampNeg (s5.2 (s5.1 + 1).toNatClampNeg))) (Option.some.inj hres).symm))
  · replace hres := z_ifp c hres
    refine z_iconst 0 hG dX6_leave_14 (by decide) ?_
    obtain rfl := Option.some.inj hres
    exact (hR _ _ dX6_leave_15)
