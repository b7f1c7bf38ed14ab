/-! PURE: the law's cases, and the law -/
theorem law_ok {α : Type} {t u : Int32} {x y : Int64} {Z F : α} (h : u = t) (hc : t = 0 → lg_cmp x y = 0) : (if u = t then if t = 0 then if lg_cmp x y = 0 then Z else F else Z else F) = Z := by
  rw [if_pos h]
  by_cases e : t = 0
  · rw [if_pos e, if_pos (hc e)]
  · rw [if_neg e]
theorem law_okB {α : Type} {t u v : Int32} {x : Int64} {Z F : α} (h : u = t) (h0 : t = 0 → v = 0 → lg_cmp x 0 = 0) (h1 : t = 0 → v ≠ 0 → lg_cmp x 1 = 0) : (if u = t then if t = 0 then if v = 0 then if lg_cmp x (0 : Int64) = 0 then Z else F else if lg_cmp x (1 : Int64) = 0 then Z else F else Z else F) = Z := by
  rw [if_pos h]
  by_cases e : t = 0
  · rw [if_pos e]
    by_cases d : v = 0
    · rw [if_pos d, if_pos (h0 e d)]
    · rw [if_neg d, if_pos (h1 e d)]
  · rw [if_neg e]
theorem law_okD {α : Type} {t u : Int32} {x : Int32} {c1 c2 : Prop} [Decidable c1] [Decidable c2] {Z F : α} (h : u = t) (hc : t = 0 → x = 0) : (if u = t then if t = 0 then if x = 0 then Z else if c1 then F else if c2 then F else Z else Z else F) = Z := by
  rw [if_pos h]
  by_cases e : t = 0
  · rw [if_pos e, if_pos (hc e)]
  · rw [if_neg e]
def lP (Z : (Nat → Int64) × (Nat → UInt64) × Int32 × Int32 × Int32 × (Nat → Int32) × (Nat → Int32) × Int32 × (Nat → Int32) × (Nat → Int32) × (Nat → Int32) × Int32 × (Nat → Int32) × (Nat → Int32) × (Nat → Int32) × Int32 × Int32 × (Nat → Int32) × Int32 × (Nat → Int32) × (Nat → Int32) × Int32 × (Nat → Int32) × (Nat → Int32) × (Nat → Int32) × Int32 × Int32 × Int32 × Int32 × (Nat → Int32) × (Nat → Int32) × (Nat → Int32) × (Nat → Nat → Int32) × Int32) (q : Int32) : Prop := lS Z.2.2.1 Z.2.2.2.1 Z.2.2.2.2.1 Z.2.2.2.2.2.1 Z.2.2.2.2.2.2.1 Z.2.2.2.2.2.2.2.1 Z.2.2.2.2.2.2.2.2.1 Z.2.2.2.2.2.2.2.2.2.1 Z.2.2.2.2.2.2.2.2.2.2.1 Z.2.2.2.2.2.2.2.2.2.2.2.2.2.2.2.2.2.2.2.2.2.1 Z.2.2.2.2.2.2.2.2.2.2.2.2.2.2.2.2.2.2.2.2.2.2.2.1 Z.2.2.2.2.2.2.2.2.2.2.2.2.2.2.2.2.2.2.2.2.2.2.2.2.1 Z.2.2.2.2.2.2.2.2.2.2.2.2.2.2.2.2.2.2.2.2.2.2.2.2.2.1 Z.2.2.2.2.2.2.2.2.2.2.2.2.2.2.2.2.2.2.2.2.2.2.2.2.2.2.1 Z.2.2.2.2.2.2.2.2.2.2.2.2.2.2.2.2.2.2.2.2.2.2.2.2.2.2.2.1 Z.2.2.2.2.2.2.2.2.2.2.2.2.2.2.2.2.2.2.2.2.2.2.2.2.2.2.2.2.2.1 Z.2.2.2.2.2.2.2.2.2.2.2.2.2.2.2.2.2.2.2.2.2.2.2.2.2.2.2.2.2.2.1 Z.2.2.2.2.2.2.2.2.2.2.2.2.2.2.2.2.2.2.2.2.2.2.2.2.2.2.2.2.2.2.2.1 Z.2.2.2.2.2.2.2.2.2.2.2.2.2.2.2.2.2.2.2.2.2.2.2.2.2.2.2.2.2.2.2.2.1 ∧ Z.2.2.2.2.2.2.2.2.2.2.2.2.2.2.2.2.2.2.2.2.2.2.2.2.2.2.2.2.2.2.2.2.2 = q
section LC
variable {L : Nat} {xs : Nat → Int32} {uU : (Nat → Int64)} {uD : (Nat → UInt64)} {gB : Int32} {gK : Int32} {nS : Int32} {nK : (Nat → Int32)} {nN : (Nat → Int32)} {fM : Int32} {fL : (Nat → Int32)} {fC : (Nat → Int32)} {fQ : (Nat → Int32)} {wM : Int32} {wL : (Nat → Int32)} {wC : (Nat → Int32)} {wQ : (Nat → Int32)} {cP : Int32} {cW : Int32} {cT : (Nat → Int32)} {oS : Int32} {oR : (Nat → Int32)} {oX : (Nat → Int32)} {xS : Int32} {xB : (Nat → Int32)} {xK : (Nat → Int32)} {xW : (Nat → Int32)} {mN : Int32} {mS : Int32} {mX : Int32} {mT : Int32} {mK : (Nat → Int32)} {mC : (Nat → Int32)} {mW : (Nat → Int32)} {mJ : (Nat → Nat → Int32)} {i : Int32}
theorem lw_0 (z1 : zin (i + 1) L) (z2 : zin (i + 2) L) (z3 : zin (i + 3) L) (S : lS gB gK nS nK nN fM fL fC fQ xS xK xW mN mS mX mK mC mW mJ) : ∃ Z, cL_law_0 L xs uU uD gB gK nS nK nN fM fL fC fQ wM wL wC wQ cP cW cT oS oR oX xS xB xK xW mN mS mX mT mK mC mW mJ i = some (.inr Z) ∧ lP Z (i + 4) := by
  have S' := S
  obtain ⟨n, so, rfl, rfl, rfl, R, X⟩ := S'
  obtain ⟨r, s, h1, h2, h3, h4, hS⟩ := q_place S uU (xs (i + 1).toNatClampNeg)
  refine ⟨(r.2.1, uD, gB, gK, r.2.2.1, r.2.2.2.1, r.2.2.2.2.1, r.2.2.2.2.2.1, r.2.2.2.2.2.2.1, r.2.2.2.2.2.2.2.1, r.2.2.2.2.2.2.2.2.1, wM, wL, wC, wQ, cP, cW, cT, oS, oR, oX, r.2.2.2.2.2.2.2.2.2, xB, xK, xW, s.2.1, s.2.2.1, s.2.2.2.1, s.2.2.2.2.1, s.2.2.2.2.2.1, mC, mW, s.2.2.2.2.2.2, (i + 4)), ?_, hS, rfl⟩
  unfold cL_law_0
  rw [if_pos z1, h1, ob, if_pos z1, h2, ob, fX6_thrown, ob]
  exact law_ok h3 h4
theorem lw_1 (z1 : zin (i + 1) L) (z2 : zin (i + 2) L) (z3 : zin (i + 3) L) (S : lS gB gK nS nK nN fM fL fC fQ xS xK xW mN mS mX mK mC mW mJ) : ∃ Z, cL_law_1 L xs uU uD gB gK nS nK nN fM fL fC fQ wM wL wC wQ cP cW cT oS oR oX xS xB xK xW mN mS mX mT mK mC mW mJ i = some (.inr Z) ∧ lP Z (i + 4) := by
  have S' := S
  obtain ⟨n, so, rfl, rfl, rfl, R, X⟩ := S'
  obtain ⟨r, s, h1, h2, h3, h4, hS⟩ := q_leave S uU (xs (i + 1).toNatClampNeg)
  refine ⟨(r.2.1, uD, r.2.2.1, gK, r.2.2.2.1, r.2.2.2.2.1, r.2.2.2.2.2.1, r.2.2.2.2.2.2.1, r.2.2.2.2.2.2.2.1, r.2.2.2.2.2.2.2.2.1, r.2.2.2.2.2.2.2.2.2.1, wM, wL, wC, wQ, cP, cW, cT, oS, oR, oX, r.2.2.2.2.2.2.2.2.2.2, xB, xK, xW, s.2.1, s.2.2.1, s.2.2.2.1, s.2.2.2.2.1, s.2.2.2.2.2.1, mC, mW, s.2.2.2.2.2.2, (i + 4)), ?_, hS, rfl⟩
  unfold cL_law_1
  rw [if_pos z1, h1, ob, if_pos z1, h2, ob, fX6_thrown, ob]
  exact law_ok h3 h4
theorem lw_2 (z1 : zin (i + 1) L) (z2 : zin (i + 2) L) (z3 : zin (i + 3) L) (S : lS gB gK nS nK nN fM fL fC fQ xS xK xW mN mS mX mK mC mW mJ) : ∃ Z, cL_law_2 L xs uU uD gB gK nS nK nN fM fL fC fQ wM wL wC wQ cP cW cT oS oR oX xS xB xK xW mN mS mX mT mK mC mW mJ i = some (.inr Z) ∧ lP Z (i + 4) := by
  have S' := S
  obtain ⟨n, so, rfl, rfl, rfl, R, X⟩ := S'
  obtain ⟨r, s, h1, h2, h3, h4, hS⟩ := q_street S uU xB (xs (i + 1).toNatClampNeg) (xs (i + 2).toNatClampNeg)
  refine ⟨(r.2.1, uD, gB, gK, nI n, nK, r.2.2.1, r.2.2.2.1, r.2.2.2.2.1, r.2.2.2.2.2.1, r.2.2.2.2.2.2.1, wM, wL, wC, wQ, cP, cW, cT, oS, oR, oX, r.2.2.2.2.2.2.2.1, r.2.2.2.2.2.2.2.2.1, r.2.2.2.2.2.2.2.2.2.1, r.2.2.2.2.2.2.2.2.2.2, nI n, enc so, s.2.1, s.2.2.1, mK, s.2.2.2.1, s.2.2.2.2.1, s.2.2.2.2.2, (i + 4)), ?_, hS, rfl⟩
  unfold cL_law_2
  rw [if_pos z1, if_pos z2, h1, ob, if_pos z1, if_pos z2, h2, ob, fX6_thrown, ob]
  exact law_ok h3 h4
theorem lw_3 (z1 : zin (i + 1) L) (z2 : zin (i + 2) L) (z3 : zin (i + 3) L) (S : lS gB gK nS nK nN fM fL fC fQ xS xK xW mN mS mX mK mC mW mJ) : ∃ Z, cL_law_3 L xs uU uD gB gK nS nK nN fM fL fC fQ wM wL wC wQ cP cW cT oS oR oX xS xB xK xW mN mS mX mT mK mC mW mJ i = some (.inr Z) ∧ lP Z (i + 4) := by
  have S' := S
  obtain ⟨n, so, rfl, rfl, rfl, R, X⟩ := S'
  obtain ⟨r, s, h1, h2, h3, h4, hS⟩ := q_tear S uU xB (xs (i + 1).toNatClampNeg) (xs (i + 2).toNatClampNeg)
  refine ⟨(r.2.1, uD, gB, gK, nI n, nK, r.2.2.1, r.2.2.2.1, r.2.2.2.2.1, r.2.2.2.2.2.1, r.2.2.2.2.2.2.1, wM, wL, wC, wQ, cP, cW, cT, oS, oR, oX, r.2.2.2.2.2.2.2.1, r.2.2.2.2.2.2.2.2.1, r.2.2.2.2.2.2.2.2.2.1, r.2.2.2.2.2.2.2.2.2.2, nI n, enc so, s.2.1, s.2.2.1, mK, s.2.2.2.1, s.2.2.2.2.1, s.2.2.2.2.2, (i + 4)), ?_, hS, rfl⟩
  unfold cL_law_3
  rw [if_pos z1, if_pos z2, h1, ob, if_pos z1, if_pos z2, h2, ob, fX6_thrown, ob]
  exact law_ok h3 h4
theorem lw_4 (z1 : zin (i + 1) L) (z2 : zin (i + 2) L) (z3 : zin (i + 3) L) (S : lS gB gK nS nK nN fM fL fC fQ xS xK xW mN mS mX mK mC mW mJ) : ∃ Z, cL_law_4 L xs uU uD gB gK nS nK nN fM fL fC fQ wM wL wC wQ cP cW cT oS oR oX xS xB xK xW mN mS mX mT mK mC mW mJ i = some (.inr Z) ∧ lP Z (i + 4) := by
  have S' := S
  obtain ⟨n, so, rfl, rfl, rfl, R, X⟩ := S'
  refine ⟨(uU, uD, gB, gK, nI n, nK, nN, fM, fL, fC, fQ, wM, wL, wC, wQ, cP, cW, cT, oS, oR, oX, xS, xB, xK, xW, nI n, enc so, mX, 0, mK, mC, mW, mJ, (i + 4)), ?_, S, rfl⟩
  unfold cL_law_4 fX5_places fX6_places
  rw [ob, ob, if_pos rfl]
theorem lw_5 (z1 : zin (i + 1) L) (z2 : zin (i + 2) L) (z3 : zin (i + 3) L) (S : lS gB gK nS nK nN fM fL fC fQ xS xK xW mN mS mX mK mC mW mJ) : ∃ Z, cL_law_5 L xs uU uD gB gK nS nK nN fM fL fC fQ wM wL wC wQ cP cW cT oS oR oX xS xB xK xW mN mS mX mT mK mC mW mJ i = some (.inr Z) ∧ lP Z (i + 4) := by
  have S' := S
  obtain ⟨n, so, rfl, rfl, rfl, R, X⟩ := S'
  refine ⟨(uU, uD, gB, gK, nI n, nK, nN, fM, fL, fC, fQ, wM, wL, wC, wQ, cP, cW, cT, oS, oR, oX, xS, xB, xK, xW, nI n, enc so, mX, 0, mK, mC, mW, mJ, (i + 4)), ?_, S, rfl⟩
  unfold cL_law_5
  rw [c_streets R.1, ob, r_streets R.1.1 R.2.1, ob, if_pos rfl]
theorem lw_6 (z1 : zin (i + 1) L) (z2 : zin (i + 2) L) (z3 : zin (i + 3) L) (S : lS gB gK nS nK nN fM fL fC fQ xS xK xW mN mS mX mK mC mW mJ) : ∃ Z, cL_law_6 L xs uU uD gB gK nS nK nN fM fL fC fQ wM wL wC wQ cP cW cT oS oR oX xS xB xK xW mN mS mX mT mK mC mW mJ i = some (.inr Z) ∧ lP Z (i + 4) := by
  have S' := S
  obtain ⟨n, so, rfl, rfl, rfl, R, X⟩ := S'
  obtain ⟨r, s, h1, h2, h3, h4, h5⟩ := q_isStreet R uU (xs (i + 1).toNatClampNeg) (xs (i + 2).toNatClampNeg)
  refine ⟨(r.2, uD, gB, gK, nI n, nK, nN, fM, fL, fC, fQ, wM, wL, wC, wQ, cP, cW, cT, oS, oR, oX, xS, xB, xK, xW, nI n, enc so, mX, s.2, mK, mC, mW, mJ, (i + 4)), ?_, S, rfl⟩
  unfold cL_law_6
  rw [if_pos z1, if_pos z2, h1, ob, if_pos z1, if_pos z2, h2, ob, fX6_thrown, ob]
  exact law_okB h3 h4 h5
theorem lw_7 (z1 : zin (i + 1) L) (z2 : zin (i + 2) L) (z3 : zin (i + 3) L) (S : lS gB gK nS nK nN fM fL fC fQ xS xK xW mN mS mX mK mC mW mJ) : ∃ Z, cL_law_7 L xs uU uD gB gK nS nK nN fM fL fC fQ wM wL wC wQ cP cW cT oS oR oX xS xB xK xW mN mS mX mT mK mC mW mJ i = some (.inr Z) ∧ lP Z (i + 4) := by
  have S' := S
  obtain ⟨n, so, rfl, rfl, rfl, R, X⟩ := S'
  obtain ⟨r, s, h1, h2, h3, h4⟩ := q_at R.1.1 (fun v hv => (R.2.2.1 v hv).symm) uU (xs (i + 1).toNatClampNeg)
  refine ⟨(r.2, uD, gB, gK, nI n, nK, nN, fM, fL, fC, fQ, wM, wL, wC, wQ, cP, cW, cT, oS, oR, oX, xS, xB, xK, xW, nI n, enc so, mX, s.2, mK, mC, mW, mJ, (i + 4)), ?_, S, rfl⟩
  unfold cL_law_7
  rw [if_pos z1, h1, ob, if_pos z1, h2, ob, fX6_thrown, ob]
  exact law_ok h3 h4
theorem lw_8 (z1 : zin (i + 1) L) (z2 : zin (i + 2) L) (z3 : zin (i + 3) L) (S : lS gB gK nS nK nN fM fL fC fQ xS xK xW mN mS mX mK mC mW mJ) : ∃ Z, cL_law_8 L xs uU uD gB gK nS nK nN fM fL fC fQ wM wL wC wQ cP cW cT oS oR oX xS xB xK xW mN mS mX mT mK mC mW mJ i = some (.inr Z) ∧ lP Z (i + 4) := by
  have S' := S
  obtain ⟨n, so, rfl, rfl, rfl, R, X⟩ := S'
  obtain ⟨r, s, h1, h2, h3, h4, hS⟩ := q_begin S uU (xs (i + 1).toNatClampNeg)
  refine ⟨(r.2.1, uD, r.2.2.1, r.2.2.2.1, nI n, nK, nN, r.2.2.2.2.1, r.2.2.2.2.2.1, r.2.2.2.2.2.2.1, r.2.2.2.2.2.2.2.1, wM, wL, wC, wQ, cP, cW, cT, oS, oR, oX, r.2.2.2.2.2.2.2.2, xB, xK, xW, nI n, s.2.1, s.2.2.1, s.2.2.2, mK, mC, mW, mJ, (i + 4)), ?_, hS, rfl⟩
  unfold cL_law_8
  rw [if_pos z1, h1, ob, if_pos z1, h2, ob, fX6_thrown, ob]
  exact law_ok h3 h4
theorem lw_9 (z1 : zin (i + 1) L) (z2 : zin (i + 2) L) (z3 : zin (i + 3) L) (S : lS gB gK nS nK nN fM fL fC fQ xS xK xW mN mS mX mK mC mW mJ) : ∃ Z, cL_law_9 L xs uU uD gB gK nS nK nN fM fL fC fQ wM wL wC wQ cP cW cT oS oR oX xS xB xK xW mN mS mX mT mK mC mW mJ i = some (.inr Z) ∧ lP Z (i + 4) := by
  have S' := S
  obtain ⟨n, so, rfl, rfl, rfl, R, X⟩ := S'
  obtain ⟨r, s, h1, h2, h3, h4⟩ := q_length R uU (xs (i + 1).toNatClampNeg)
  refine ⟨(r.2, uD, gB, gK, nI n, nK, nN, fM, fL, fC, fQ, wM, wL, wC, wQ, cP, cW, cT, oS, oR, oX, xS, xB, xK, xW, nI n, enc so, mX, s.2, mK, mC, mW, mJ, (i + 4)), ?_, S, rfl⟩
  unfold cL_law_9
  rw [if_pos z1, h1, ob, if_pos z1, h2, ob, fX6_thrown, ob]
  exact law_ok h3 h4
theorem lw_10 (z1 : zin (i + 1) L) (z2 : zin (i + 2) L) (z3 : zin (i + 3) L) (S : lS gB gK nS nK nN fM fL fC fQ xS xK xW mN mS mX mK mC mW mJ) : ∃ Z, cL_law_10 L xs uU uD gB gK nS nK nN fM fL fC fQ wM wL wC wQ cP cW cT oS oR oX xS xB xK xW mN mS mX mT mK mC mW mJ i = some (.inr Z) ∧ lP Z (i + 4) := by
  have S' := S
  obtain ⟨n, so, rfl, rfl, rfl, R, X⟩ := S'
  obtain ⟨r, s, h1, h2, h3, h4⟩ := q_farthest R uU 
  refine ⟨(r.2, uD, gB, gK, nI n, nK, nN, fM, fL, fC, fQ, wM, wL, wC, wQ, cP, cW, cT, oS, oR, oX, xS, xB, xK, xW, nI n, enc so, mX, s.2, mK, mC, mW, mJ, (i + 4)), ?_, S, rfl⟩
  unfold cL_law_10
  rw [h1, ob, h2, ob, fX6_thrown, ob]
  exact law_ok h3 h4
theorem lw_11 (z1 : zin (i + 1) L) (z2 : zin (i + 2) L) (z3 : zin (i + 3) L) (S : lS gB gK nS nK nN fM fL fC fQ xS xK xW mN mS mX mK mC mW mJ) : ∃ Z, cL_law_11 L xs uU uD gB gK nS nK nN fM fL fC fQ wM wL wC wQ cP cW cT oS oR oX xS xB xK xW mN mS mX mT mK mC mW mJ i = some (.inr Z) ∧ lP Z (i + 4) := by
  have S' := S
  obtain ⟨n, so, rfl, rfl, rfl, R, X⟩ := S'
  obtain ⟨r, s, h1, h2, h3, h4⟩ := q_layer R uU (xs (i + 1).toNatClampNeg)
  refine ⟨(r.2, uD, gB, gK, nI n, nK, nN, fM, fL, fC, fQ, wM, wL, wC, wQ, cP, cW, cT, oS, oR, oX, xS, xB, xK, xW, nI n, enc so, mX, s.2, mK, mC, mW, mJ, (i + 4)), ?_, S, rfl⟩
  unfold cL_law_11
  rw [if_pos z1, h1, ob, if_pos z1, h2, ob, fX6_thrown, ob]
  exact law_ok h3 h4
theorem lw_12 (z1 : zin (i + 1) L) (z2 : zin (i + 2) L) (z3 : zin (i + 3) L) (S : lS gB gK nS nK nN fM fL fC fQ xS xK xW mN mS mX mK mC mW mJ) : ∃ Z, cL_law_12 L xs uU uD gB gK nS nK nN fM fL fC fQ wM wL wC wQ cP cW cT oS oR oX xS xB xK xW mN mS mX mT mK mC mW mJ i = some (.inr Z) ∧ lP Z (i + 4) := by
  have S' := S
  obtain ⟨n, so, rfl, rfl, rfl, R, X⟩ := S'
  obtain ⟨r, s, h1, h2, h3, h4⟩ := q_comes R uU (xs (i + 1).toNatClampNeg)
  refine ⟨(r.2, uD, gB, gK, nI n, nK, nN, fM, fL, fC, fQ, wM, wL, wC, wQ, cP, cW, cT, oS, oR, oX, xS, xB, xK, xW, nI n, enc so, mX, s.2, mK, mC, mW, mJ, (i + 4)), ?_, S, rfl⟩
  unfold cL_law_12
  rw [if_pos z1, h1, ob, if_pos z1, h2, ob, fX6_thrown, ob]
  exact law_ok h3 h4
theorem lw_13 (z1 : zin (i + 1) L) (z2 : zin (i + 2) L) (z3 : zin (i + 3) L) (S : lS gB gK nS nK nN fM fL fC fQ xS xK xW mN mS mX mK mC mW mJ) : ∃ Z, cL_law_13 L xs uU uD gB gK nS nK nN fM fL fC fQ wM wL wC wQ cP cW cT oS oR oX xS xB xK xW mN mS mX mT mK mC mW mJ i = some (.inr Z) ∧ lP Z (i + 4) := by
  have S' := S
  obtain ⟨n, so, rfl, rfl, rfl, R, X⟩ := S'
  obtain ⟨r, s, h1, h2, h3, h4⟩ := q_ways R uU (xs (i + 1).toNatClampNeg)
  refine ⟨(r.2, uD, gB, gK, nI n, nK, nN, fM, fL, fC, fQ, wM, wL, wC, wQ, cP, cW, cT, oS, oR, oX, xS, xB, xK, xW, nI n, enc so, mX, s.2, mK, mC, mW, mJ, (i + 4)), ?_, S, rfl⟩
  unfold cL_law_13
  rw [if_pos z1, h1, ob, if_pos z1, h2, ob, fX6_thrown, ob]
  exact law_ok h3 h4
theorem lw_14 (z1 : zin (i + 1) L) (z2 : zin (i + 2) L) (z3 : zin (i + 3) L) (S : lS gB gK nS nK nN fM fL fC fQ xS xK xW mN mS mX mK mC mW mJ) : ∃ Z, cL_law_14 L xs uU uD gB gK nS nK nN fM fL fC fQ wM wL wC wQ cP cW cT oS oR oX xS xB xK xW mN mS mX mT mK mC mW mJ i = some (.inr Z) ∧ lP Z (i + 4) := by
  have S' := S
  obtain ⟨n, so, rfl, rfl, rfl, R, X⟩ := S'
  obtain ⟨r, s, h1, h2, h3, h4⟩ := q_wayAt R uU wM wL wC wQ (xs (i + 1).toNatClampNeg) (xs (i + 2).toNatClampNeg) (xs (i + 3).toNatClampNeg)
  refine ⟨(r.2.1, uD, gB, gK, nI n, nK, nN, fM, fL, fC, fQ, r.2.2.1, r.2.2.2.1, r.2.2.2.2.1, r.2.2.2.2.2, cP, cW, cT, oS, oR, oX, xS, xB, xK, xW, nI n, enc so, mX, s.2, mK, mC, mW, mJ, (i + 4)), ?_, S, rfl⟩
  unfold cL_law_14
  rw [if_pos z1, if_pos z2, if_pos z3, h1, ob, if_pos z1, if_pos z2, if_pos z3, h2, ob, fX6_thrown, ob]
  exact law_ok h3 h4
theorem lw_15 (z1 : zin (i + 1) L) (z2 : zin (i + 2) L) (z3 : zin (i + 3) L) (S : lS gB gK nS nK nN fM fL fC fQ xS xK xW mN mS mX mK mC mW mJ) : ∃ Z, cL_law_15 L xs uU uD gB gK nS nK nN fM fL fC fQ wM wL wC wQ cP cW cT oS oR oX xS xB xK xW mN mS mX mT mK mC mW mJ i = some (.inr Z) ∧ lP Z (i + 4) := by
  have S' := S
  obtain ⟨n, so, rfl, rfl, rfl, R, X⟩ := S'
  obtain ⟨r, s, h1, h2, h3, h4⟩ := q_through R uU wM wL wC wQ (xs (i + 1).toNatClampNeg) (xs (i + 2).toNatClampNeg)
  refine ⟨(r.2.1, uD, gB, gK, nI n, nK, nN, fM, fL, fC, fQ, r.2.2.1, r.2.2.2.1, r.2.2.2.2.1, r.2.2.2.2.2, cP, cW, cT, oS, oR, oX, xS, xB, xK, xW, nI n, enc so, mX, s.2, mK, mC, mW, mJ, (i + 4)), ?_, S, rfl⟩
  unfold cL_law_15
  rw [if_pos z1, if_pos z2, h1, ob, if_pos z1, if_pos z2, h2, ob, fX6_thrown, ob]
  exact law_ok h3 h4
theorem lw_16 (z1 : zin (i + 1) L) (z2 : zin (i + 2) L) (z3 : zin (i + 3) L) (S : lS gB gK nS nK nN fM fL fC fQ xS xK xW mN mS mX mK mC mW mJ) : ∃ Z, cL_law_16 L xs uU uD gB gK nS nK nN fM fL fC fQ wM wL wC wQ cP cW cT oS oR oX xS xB xK xW mN mS mX mT mK mC mW mJ i = some (.inr Z) ∧ lP Z (i + 4) := by
  have S' := S
  obtain ⟨n, so, rfl, rfl, rfl, R, X⟩ := S'
  obtain ⟨r, s, h1, h2, h3, h4, h5⟩ := q_isOnAll R uU wM wL wC wQ (xs (i + 1).toNatClampNeg) (xs (i + 2).toNatClampNeg)
  refine ⟨(r.2.1, uD, gB, gK, nI n, nK, nN, fM, fL, fC, fQ, r.2.2.1, r.2.2.2.1, r.2.2.2.2.1, r.2.2.2.2.2, cP, cW, cT, oS, oR, oX, xS, xB, xK, xW, nI n, enc so, mX, s.2, mK, mC, mW, mJ, (i + 4)), ?_, S, rfl⟩
  unfold cL_law_16
  rw [if_pos z1, if_pos z2, h1, ob, if_pos z1, if_pos z2, h2, ob, fX6_thrown, ob]
  exact law_okB h3 h4 h5
theorem lw_17 (z1 : zin (i + 1) L) (z2 : zin (i + 2) L) (z3 : zin (i + 3) L) (S : lS gB gK nS nK nN fM fL fC fQ xS xK xW mN mS mX mK mC mW mJ) : ∃ Z, cL_law_17 L xs uU uD gB gK nS nK nN fM fL fC fQ wM wL wC wQ cP cW cT oS oR oX xS xB xK xW mN mS mX mT mK mC mW mJ i = some (.inr Z) ∧ lP Z (i + 4) := by
  have S' := S
  obtain ⟨n, so, rfl, rfl, rfl, R, X⟩ := S'
  obtain ⟨r, s, h1, h2, h3, h4⟩ := q_onAll R uU wM wL wC wQ (xs (i + 1).toNatClampNeg)
  refine ⟨(r.2.1, uD, gB, gK, nI n, nK, nN, fM, fL, fC, fQ, r.2.2.1, r.2.2.2.1, r.2.2.2.2.1, r.2.2.2.2.2, cP, cW, cT, oS, oR, oX, xS, xB, xK, xW, nI n, enc so, mX, s.2, mK, mC, mW, mJ, (i + 4)), ?_, S, rfl⟩
  unfold cL_law_17
  rw [if_pos z1, h1, ob, if_pos z1, h2, ob, fX6_thrown, ob]
  exact law_ok h3 h4
theorem lw_18 (z1 : zin (i + 1) L) (z2 : zin (i + 2) L) (z3 : zin (i + 3) L) (S : lS gB gK nS nK nN fM fL fC fQ xS xK xW mN mS mX mK mC mW mJ) : ∃ Z, cL_law_18 L xs uU uD gB gK nS nK nN fM fL fC fQ wM wL wC wQ cP cW cT oS oR oX xS xB xK xW mN mS mX mT mK mC mW mJ i = some (.inr Z) ∧ lP Z (i + 4) := by
  have S' := S
  obtain ⟨n, so, rfl, rfl, rfl, R, X⟩ := S'
  obtain ⟨r, s, h1, h2, h3, h4⟩ := q_mean R uD 
  refine ⟨(uU, r.2, gB, gK, nI n, nK, nN, fM, fL, fC, fQ, wM, wL, wC, wQ, cP, cW, cT, oS, oR, oX, xS, xB, xK, xW, nI n, enc so, mX, s.2, mK, mC, mW, mJ, (i + 4)), ?_, S, rfl⟩
  unfold cL_law_18
  rw [h1, ob, h2, ob, fX6_thrown, ob]
  exact law_okD h3 h4
theorem lw_19 (z1 : zin (i + 1) L) (z2 : zin (i + 2) L) (z3 : zin (i + 3) L) (S : lS gB gK nS nK nN fM fL fC fQ xS xK xW mN mS mX mK mC mW mJ) : ∃ Z, cL_law_19 L xs uU uD gB gK nS nK nN fM fL fC fQ wM wL wC wQ cP cW cT oS oR oX xS xB xK xW mN mS mX mT mK mC mW mJ i = some (.inr Z) ∧ lP Z (i + 4) := by
  have S' := S
  obtain ⟨n, so, rfl, rfl, rfl, R, X⟩ := S'
  obtain ⟨r, s, h1, h2, h3, h4⟩ := q_between R uU wM wL wC wQ (xs (i + 1).toNatClampNeg) (xs (i + 2).toNatClampNeg)
  refine ⟨(r.2.1, uD, gB, gK, nI n, nK, nN, fM, fL, fC, fQ, r.2.2.1, r.2.2.2.1, r.2.2.2.2.1, r.2.2.2.2.2, cP, cW, cT, oS, oR, oX, xS, xB, xK, xW, nI n, enc so, mX, s.2, mK, mC, mW, mJ, (i + 4)), ?_, S, rfl⟩
  unfold cL_law_19
  rw [if_pos z1, if_pos z2, h1, ob, if_pos z1, if_pos z2, h2, ob, fX6_thrown, ob]
  exact law_ok h3 h4
theorem lw_20 (z1 : zin (i + 1) L) (z2 : zin (i + 2) L) (z3 : zin (i + 3) L) (S : lS gB gK nS nK nN fM fL fC fQ xS xK xW mN mS mX mK mC mW mJ) : ∃ Z, cL_law_20 L xs uU uD gB gK nS nK nN fM fL fC fQ wM wL wC wQ cP cW cT oS oR oX xS xB xK xW mN mS mX mT mK mC mW mJ i = some (.inr Z) ∧ lP Z (i + 4) := by
  have S' := S
  obtain ⟨n, so, rfl, rfl, rfl, R, X⟩ := S'
  obtain ⟨r, s, h1, h2, h3⟩ := q_parts R cT wM wL wC wQ
  refine ⟨(uU, uD, gB, gK, nI n, nK, nN, fM, fL, fC, fQ, r.2.1, r.2.2.1, r.2.2.2.1, r.2.2.2.2.1, r.2.2.2.2.2.1, r.2.2.2.2.2.2.1, r.2.2.2.2.2.2.2, oS, oR, oX, xS, xB, xK, xW, nI n, enc so, mX, s.2, mK, mC, mW, mJ, (i + 4)), ?_, S, rfl⟩
  unfold cL_law_20
  rw [h1, ob, h2, ob, if_pos h3]
theorem lw_21 (z1 : zin (i + 1) L) (z2 : zin (i + 2) L) (z3 : zin (i + 3) L) (S : lS gB gK nS nK nN fM fL fC fQ xS xK xW mN mS mX mK mC mW mJ) : ∃ Z, cL_law_21 L xs uU uD gB gK nS nK nN fM fL fC fQ wM wL wC wQ cP cW cT oS oR oX xS xB xK xW mN mS mX mT mK mC mW mJ i = some (.inr Z) ∧ lP Z (i + 4) := by
  have S' := S
  obtain ⟨n, so, rfl, rfl, rfl, R, X⟩ := S'
  obtain ⟨r, s, h1, h2, h3⟩ := q_isTwo R cT wM wL wC wQ
  refine ⟨(uU, uD, gB, gK, nI n, nK, nN, fM, fL, fC, fQ, r.2.1, r.2.2.1, r.2.2.2.1, r.2.2.2.2.1, r.2.2.2.2.2.1, r.2.2.2.2.2.2.1, r.2.2.2.2.2.2.2, oS, oR, oX, xS, xB, xK, xW, nI n, enc so, mX, s.2, mK, mC, mW, mJ, (i + 4)), ?_, S, rfl⟩
  unfold cL_law_21
  rw [h1, ob, h2, ob, if_pos h3]
theorem lw_22 (z1 : zin (i + 1) L) (z2 : zin (i + 2) L) (z3 : zin (i + 3) L) (S : lS gB gK nS nK nN fM fL fC fQ xS xK xW mN mS mX mK mC mW mJ) : ∃ Z, cL_law_22 L xs uU uD gB gK nS nK nN fM fL fC fQ wM wL wC wQ cP cW cT oS oR oX xS xB xK xW mN mS mX mT mK mC mW mJ i = some (.inr Z) ∧ lP Z (i + 4) := by
  have S' := S
  obtain ⟨n, so, rfl, rfl, rfl, R, X⟩ := S'
  obtain ⟨r, s, h1, h2, h3, h4⟩ := q_colour R uU wM wL wC wQ cP cW cT (xs (i + 1).toNatClampNeg)
  refine ⟨(r.2.1, uD, gB, gK, nI n, nK, nN, fM, fL, fC, fQ, r.2.2.1, r.2.2.2.1, r.2.2.2.2.1, r.2.2.2.2.2.1, r.2.2.2.2.2.2.1, r.2.2.2.2.2.2.2.1, r.2.2.2.2.2.2.2.2, oS, oR, oX, xS, xB, xK, xW, nI n, enc so, mX, s.2, mK, mC, mW, mJ, (i + 4)), ?_, S, rfl⟩
  unfold cL_law_22
  rw [if_pos z1, h1, ob, if_pos z1, h2, ob, fX6_thrown, ob]
  exact law_ok h3 h4
theorem lw_23 (z1 : zin (i + 1) L) (z2 : zin (i + 2) L) (z3 : zin (i + 3) L) (S : lS gB gK nS nK nN fM fL fC fQ xS xK xW mN mS mX mK mC mW mJ) : ∃ Z, cL_law_23 L xs uU uD gB gK nS nK nN fM fL fC fQ wM wL wC wQ cP cW cT oS oR oX xS xB xK xW mN mS mX mT mK mC mW mJ i = some (.inr Z) ∧ lP Z (i + 4) := by
  have S' := S
  obtain ⟨n, so, rfl, rfl, rfl, R, X⟩ := S'
  obtain ⟨r, s, h1, h2, h3, h4⟩ := q_ring R uU wM wL wC wQ cT oS oR oX 
  refine ⟨(r.2.1, uD, gB, gK, nI n, nK, nN, fM, fL, fC, fQ, r.2.2.1, r.2.2.2.1, r.2.2.2.2.1, r.2.2.2.2.2.1, r.2.2.2.2.2.2.1, r.2.2.2.2.2.2.2.1, r.2.2.2.2.2.2.2.2.1, r.2.2.2.2.2.2.2.2.2.1, r.2.2.2.2.2.2.2.2.2.2.1, r.2.2.2.2.2.2.2.2.2.2.2, xS, xB, xK, xW, nI n, enc so, mX, s.2, mK, mC, mW, mJ, (i + 4)), ?_, S, rfl⟩
  unfold cL_law_23
  rw [h1, ob, h2, ob, fX6_thrown, ob]
  exact law_ok h3 h4
theorem lw_24 (z1 : zin (i + 1) L) (z2 : zin (i + 2) L) (z3 : zin (i + 3) L) (S : lS gB gK nS nK nN fM fL fC fQ xS xK xW mN mS mX mK mC mW mJ) : ∃ Z, cL_law_24 L xs uU uD gB gK nS nK nN fM fL fC fQ wM wL wC wQ cP cW cT oS oR oX xS xB xK xW mN mS mX mT mK mC mW mJ i = some (.inr Z) ∧ lP Z (i + 4) := by
  have S' := S
  obtain ⟨n, so, rfl, rfl, rfl, R, X⟩ := S'
  obtain ⟨r, s, h1, h2, h3, h4⟩ := q_ringAt R uU wM wL wC wQ cT oS oR oX (xs (i + 1).toNatClampNeg)
  refine ⟨(r.2.1, uD, gB, gK, nI n, nK, nN, fM, fL, fC, fQ, r.2.2.1, r.2.2.2.1, r.2.2.2.2.1, r.2.2.2.2.2.1, r.2.2.2.2.2.2.1, r.2.2.2.2.2.2.2.1, r.2.2.2.2.2.2.2.2.1, r.2.2.2.2.2.2.2.2.2.1, r.2.2.2.2.2.2.2.2.2.2.1, r.2.2.2.2.2.2.2.2.2.2.2, xS, xB, xK, xW, nI n, enc so, mX, s.2, mK, mC, mW, mJ, (i + 4)), ?_, S, rfl⟩
  unfold cL_law_24
  rw [if_pos z1, h1, ob, if_pos z1, h2, ob, fX6_thrown, ob]
  exact law_ok h3 h4
theorem lw_25 (z1 : zin (i + 1) L) (z2 : zin (i + 2) L) (z3 : zin (i + 3) L) (S : lS gB gK nS nK nN fM fL fC fQ xS xK xW mN mS mX mK mC mW mJ) : ∃ Z, cL_law_25 L xs uU uD gB gK nS nK nN fM fL fC fQ wM wL wC wQ cP cW cT oS oR oX xS xB xK xW mN mS mX mT mK mC mW mJ i = some (.inr Z) ∧ lP Z (i + 4) := by
  have S' := S
  obtain ⟨n, so, rfl, rfl, rfl, R, X⟩ := S'
  obtain ⟨c, hc, rfl, rfl, hX⟩ := X
  obtain ⟨r, s, h1, h2, h3, h4⟩ := q_at hc (fun v hv => (hX v hv).1) uU (xs (i + 1).toNatClampNeg)
  have h1 : fL_changedAt uU (nI c) xK (xs (i + 1).toNatClampNeg) = some r := h1
  have h2 : fX6_changedAt (nI c) mC (xs (i + 1).toNatClampNeg) = some s := h2
  refine ⟨(r.2, uD, gB, gK, nI n, nK, nN, fM, fL, fC, fQ, wM, wL, wC, wQ, cP, cW, cT, oS, oR, oX, nI c, xB, xK, xW, nI n, enc so, nI c, s.2, mK, mC, mW, mJ, (i + 4)), ?_, S, rfl⟩
  unfold cL_law_25
  rw [if_pos z1, h1, ob, if_pos z1, h2, ob, fX6_thrown, ob]
  exact law_ok h3 h4
theorem lw_26 (z1 : zin (i + 1) L) (z2 : zin (i + 2) L) (z3 : zin (i + 3) L) (S : lS gB gK nS nK nN fM fL fC fQ xS xK xW mN mS mX mK mC mW mJ) : ∃ Z, cL_law_26 L xs uU uD gB gK nS nK nN fM fL fC fQ wM wL wC wQ cP cW cT oS oR oX xS xB xK xW mN mS mX mT mK mC mW mJ i = some (.inr Z) ∧ lP Z (i + 4) := by
  have S' := S
  obtain ⟨n, so, rfl, rfl, rfl, R, X⟩ := S'
  obtain ⟨c, hc, rfl, rfl, hX⟩ := X
  obtain ⟨r, s, h1, h2, h3, h4⟩ := q_at hc (fun v hv => (hX v hv).2) uU (xs (i + 1).toNatClampNeg)
  have h1 : fL_wasAt uU (nI c) xW (xs (i + 1).toNatClampNeg) = some r := h1
  have h2 : fX6_wasAt (nI c) mW (xs (i + 1).toNatClampNeg) = some s := h2
  refine ⟨(r.2, uD, gB, gK, nI n, nK, nN, fM, fL, fC, fQ, wM, wL, wC, wQ, cP, cW, cT, oS, oR, oX, nI c, xB, xK, xW, nI n, enc so, nI c, s.2, mK, mC, mW, mJ, (i + 4)), ?_, S, rfl⟩
  unfold cL_law_26
  rw [if_pos z1, h1, ob, if_pos z1, h2, ob, fX6_thrown, ob]
  exact law_ok h3 h4
theorem lw_27 (z1 : zin (i + 1) L) (z2 : zin (i + 2) L) (z3 : zin (i + 3) L) (S : lS gB gK nS nK nN fM fL fC fQ xS xK xW mN mS mX mK mC mW mJ) : ∃ Z, cL_law_27 L xs uU uD gB gK nS nK nN fM fL fC fQ wM wL wC wQ cP cW cT oS oR oX xS xB xK xW mN mS mX mT mK mC mW mJ i = some (.inr Z) ∧ lP Z (i + 4) := by
  have S' := S
  obtain ⟨n, so, rfl, rfl, rfl, R, X⟩ := S'
  obtain ⟨r, h1, h3⟩ := q_isTrue R wM wL wC wQ cP cW cT oS oR oX
  refine ⟨(uU, uD, gB, gK, nI n, nK, nN, fM, fL, fC, fQ, r.2.1, r.2.2.1, r.2.2.2.1, r.2.2.2.2.1, r.2.2.2.2.2.1, r.2.2.2.2.2.2.1, r.2.2.2.2.2.2.2.1, r.2.2.2.2.2.2.2.2.1, r.2.2.2.2.2.2.2.2.2.1, r.2.2.2.2.2.2.2.2.2.2, xS, xB, xK, xW, nI n, enc so, mX, 0, mK, mC, mW, mJ, (i + 4)), ?_, S, rfl⟩
  unfold cL_law_27 fX6_isTrue
  rw [h1, ob, ob, if_pos h3]
theorem lw_28 (z1 : zin (i + 1) L) (z2 : zin (i + 2) L) (z3 : zin (i + 3) L) (S : lS gB gK nS nK nN fM fL fC fQ xS xK xW mN mS mX mK mC mW mJ) : ∃ Z, cL_law_28 L xs uU uD gB gK nS nK nN fM fL fC fQ wM wL wC wQ cP cW cT oS oR oX xS xB xK xW mN mS mX mT mK mC mW mJ i = some (.inr Z) ∧ lP Z (i + 4) := by
  have S' := S
  obtain ⟨n, so, rfl, rfl, rfl, R, X⟩ := S'
  obtain ⟨c, hc, rfl, rfl, hX⟩ := X
  obtain ⟨r, s, h1, h2, h3⟩ := q_sum R hc hX wM wL wC wQ cT
  refine ⟨(uU, uD, gB, gK, nI n, nK, nN, fM, fL, fC, fQ, r.2.1, r.2.2.1, r.2.2.2.1, r.2.2.2.2.1, r.2.2.2.2.2.1, r.2.2.2.2.2.2.1, r.2.2.2.2.2.2.2, oS, oR, oX, nI c, xB, xK, xW, nI n, enc so, nI c, s.2, mK, mC, mW, mJ, (i + 4)), ?_, S, rfl⟩
  unfold cL_law_28
  rw [h1, ob, h2, ob, if_pos ((lg_cmp_eq _ _).mpr h3)]
/-- a turn of the law -/
theorem lw_turn (hi : ¬ (Int32.ofNat L - 4) < i) (z0 : zin i L) (z1 : zin (i + 1) L) (z2 : zin (i + 2) L) (z3 : zin (i + 3) L) (S : lS gB gK nS nK nN fM fL fC fQ xS xK xW mN mS mX mK mC mW mJ) : ∃ Z, sL_law_28 L xs uU uD gB gK nS nK nN fM fL fC fQ wM wL wC wQ cP cW cT oS oR oX xS xB xK xW mN mS mX mT mK mC mW mJ i = some (.inr Z) ∧ lP Z (i + 4) := by
  unfold sL_law_28
  rw [if_neg hi, if_pos z0]
  by_cases e0 : (xs i.toNatClampNeg &&& 31) = 0
  · rw [if_pos e0]
    exact lw_0 z1 z2 z3 S
  rw [if_neg e0]
  by_cases e1 : (xs i.toNatClampNeg &&& 31) = 1
  · rw [if_pos e1]
    exact lw_1 z1 z2 z3 S
  rw [if_neg e1]
  by_cases e2 : (xs i.toNatClampNeg &&& 31) = 2
  · rw [if_pos e2]
    exact lw_2 z1 z2 z3 S
  rw [if_neg e2]
  by_cases e3 : (xs i.toNatClampNeg &&& 31) = 3
  · rw [if_pos e3]
    exact lw_3 z1 z2 z3 S
  rw [if_neg e3]
  by_cases e4 : (xs i.toNatClampNeg &&& 31) = 4
  · rw [if_pos e4]
    exact lw_4 z1 z2 z3 S
  rw [if_neg e4]
  by_cases e5 : (xs i.toNatClampNeg &&& 31) = 5
  · rw [if_pos e5]
    exact lw_5 z1 z2 z3 S
  rw [if_neg e5]
  by_cases e6 : (xs i.toNatClampNeg &&& 31) = 6
  · rw [if_pos e6]
    exact lw_6 z1 z2 z3 S
  rw [if_neg e6]
  by_cases e7 : (xs i.toNatClampNeg &&& 31) = 7
  · rw [if_pos e7]
    exact lw_7 z1 z2 z3 S
  rw [if_neg e7]
  by_cases e8 : (xs i.toNatClampNeg &&& 31) = 8
  · rw [if_pos e8]
    exact lw_8 z1 z2 z3 S
  rw [if_neg e8]
  by_cases e9 : (xs i.toNatClampNeg &&& 31) = 9
  · rw [if_pos e9]
    exact lw_9 z1 z2 z3 S
  rw [if_neg e9]
  by_cases e10 : (xs i.toNatClampNeg &&& 31) = 10
  · rw [if_pos e10]
    exact lw_10 z1 z2 z3 S
  rw [if_neg e10]
  by_cases e11 : (xs i.toNatClampNeg &&& 31) = 11
  · rw [if_pos e11]
    exact lw_11 z1 z2 z3 S
  rw [if_neg e11]
  by_cases e12 : (xs i.toNatClampNeg &&& 31) = 12
  · rw [if_pos e12]
    exact lw_12 z1 z2 z3 S
  rw [if_neg e12]
  by_cases e13 : (xs i.toNatClampNeg &&& 31) = 13
  · rw [if_pos e13]
    exact lw_13 z1 z2 z3 S
  rw [if_neg e13]
  by_cases e14 : (xs i.toNatClampNeg &&& 31) = 14
  · rw [if_pos e14]
    exact lw_14 z1 z2 z3 S
  rw [if_neg e14]
  by_cases e15 : (xs i.toNatClampNeg &&& 31) = 15
  · rw [if_pos e15]
    exact lw_15 z1 z2 z3 S
  rw [if_neg e15]
  by_cases e16 : (xs i.toNatClampNeg &&& 31) = 16
  · rw [if_pos e16]
    exact lw_16 z1 z2 z3 S
  rw [if_neg e16]
  by_cases e17 : (xs i.toNatClampNeg &&& 31) = 17
  · rw [if_pos e17]
    exact lw_17 z1 z2 z3 S
  rw [if_neg e17]
  by_cases e18 : (xs i.toNatClampNeg &&& 31) = 18
  · rw [if_pos e18]
    exact lw_18 z1 z2 z3 S
  rw [if_neg e18]
  by_cases e19 : (xs i.toNatClampNeg &&& 31) = 19
  · rw [if_pos e19]
    exact lw_19 z1 z2 z3 S
  rw [if_neg e19]
  by_cases e20 : (xs i.toNatClampNeg &&& 31) = 20
  · rw [if_pos e20]
    exact lw_20 z1 z2 z3 S
  rw [if_neg e20]
  by_cases e21 : (xs i.toNatClampNeg &&& 31) = 21
  · rw [if_pos e21]
    exact lw_21 z1 z2 z3 S
  rw [if_neg e21]
  by_cases e22 : (xs i.toNatClampNeg &&& 31) = 22
  · rw [if_pos e22]
    exact lw_22 z1 z2 z3 S
  rw [if_neg e22]
  by_cases e23 : (xs i.toNatClampNeg &&& 31) = 23
  · rw [if_pos e23]
    exact lw_23 z1 z2 z3 S
  rw [if_neg e23]
  by_cases e24 : (xs i.toNatClampNeg &&& 31) = 24
  · rw [if_pos e24]
    exact lw_24 z1 z2 z3 S
  rw [if_neg e24]
  by_cases e25 : (xs i.toNatClampNeg &&& 31) = 25
  · rw [if_pos e25]
    exact lw_25 z1 z2 z3 S
  rw [if_neg e25]
  by_cases e26 : (xs i.toNatClampNeg &&& 31) = 26
  · rw [if_pos e26]
    exact lw_26 z1 z2 z3 S
  rw [if_neg e26]
  by_cases e27 : (xs i.toNatClampNeg &&& 31) = 27
  · rw [if_pos e27]
    exact lw_27 z1 z2 z3 S
  rw [if_neg e27]
  by_cases e28 : (xs i.toNatClampNeg &&& 31) = 28
  · rw [if_pos e28]
    exact lw_28 z1 z2 z3 S
  rw [if_neg e28]
  exact ⟨(uU, uD, gB, gK, nS, nK, nN, fM, fL, fC, fQ, wM, wL, wC, wQ, cP, cW, cT, oS, oR, oX, xS, xB, xK, xW, mN, mS, mX, mT, mK, mC, mW, mJ, i + 4), rfl, S, rfl⟩
theorem lw_stop {L q : Nat} (hL : L ≤ 2048) (hq : q ≤ 2048) (h : ¬ (Int32.ofNat L - 4) < nI q) : q + 4 ≤ L := by
  by_cases g : 4 ≤ L
  · have e : Int32.ofNat L - 4 = nI (L - 4) := nI_sub (n := L) (m := 4) g
    rw [e] at h
    by_cases r : L - 4 < q
    · exact absurd (nI_lt r (by omega)) h
    · omega
  · have hl : ∀ l, l < 4 → Int32.ofNat l - 4 < 0 := by decide
    exact absurd (Int32.lt_of_lt_of_le (hl L (by omega)) (nI_pos' (n := q) (by omega))) h
theorem lw_step (hL : L ≤ 2048) (q : Nat) (hq : q ≤ 512) (S : lS gB gK nS nK nN fM fL fC fQ xS xK xW mN mS mX mK mC mW mJ) : sL_law_28 L xs uU uD gB gK nS nK nN fM fL fC fQ wM wL wC wQ cP cW cT oS oR oX xS xB xK xW mN mS mX mT mK mC mW mJ (nI (4 * q)) = some (.inl (.inr ())) ∨ (q < 512 ∧ ∃ Z, sL_law_28 L xs uU uD gB gK nS nK nN fM fL fC fQ wM wL wC wQ cP cW cT oS oR oX xS xB xK xW mN mS mX mT mK mC mW mJ (nI (4 * q)) = some (.inr Z) ∧ lP Z (nI (4 * (q + 1)))) := by
  by_cases hs : (Int32.ofNat L - 4) < nI (4 * q)
  · refine Or.inl ?_
    unfold sL_law_28
    rw [if_pos hs]
  · have hq4 := lw_stop hL (by omega) hs
    have e1 : nI (4 * q) + 1 = nI (4 * q + 1) := nI_add _ 1
    have e2 : nI (4 * q) + 2 = nI (4 * q + 2) := nI_add _ 2
    have e3 : nI (4 * q) + 3 = nI (4 * q + 3) := nI_add _ 3
    have e4 : nI (4 * q) + 4 = nI (4 * (q + 1)) := nI_add _ 4
    have zz : ∀ d, d < 4 → zin (nI (4 * q + d)) L := fun d hd => vp_in_nI (by omega) (by omega)
    have ht := lw_turn (L := L) (xs := xs) (uU := uU) (uD := uD) (xB := xB) (wM := wM) (wL := wL) (wC := wC) (wQ := wQ) (cP := cP) (cW := cW) (cT := cT) (oS := oS) (oR := oR) (oX := oX) (mT := mT) hs (zz 0 (by omega)) (e1 ▸ zz 1 (by omega)) (e2 ▸ zz 2 (by omega)) (e3 ▸ zz 3 (by omega)) S
    rw [e4] at ht
    exact Or.inr ⟨by omega, ht⟩
end LC
theorem lS_0 : lS 0 0 0 (fun _ => 0) (fun _ => 0) 0 (fun _ => 0) (fun _ => 0) (fun _ => 0) 0 (fun _ => 0) (fun _ => 0) 0 (-1) 0 (fun _ => 0) (fun _ => 0) (fun _ => 0) (fun _ _ => 0) :=
  ⟨0, none, rfl, rfl, rfl, ⟨⟨by omega, fun i hi => absurd hi (Nat.not_lt_zero i), fun i j hi => absurd hi (Nat.not_lt_zero i), fun i hi => absurd hi (Nat.not_lt_zero i)⟩, fun i j hi => absurd hi (Nat.not_lt_zero i), fun v hv => absurd hv (Nat.not_lt_zero v), fun i j _ hj => absurd hj (Nat.not_lt_zero j), fun s hs => (by cases hs), rfl, Or.inl ⟨rfl, rfl⟩⟩, lX0⟩
theorem law_true {L : Nat} {xs : Nat → Int32} (hL : L ≤ 2048) : fL_law L xs = some 1 := by
  unfold fL_law
  have hst : ∀ (q : Nat) (s : (Nat → Int64) × (Nat → UInt64) × Int32 × Int32 × Int32 × (Nat → Int32) × (Nat → Int32) × Int32 × (Nat → Int32) × (Nat → Int32) × (Nat → Int32) × Int32 × (Nat → Int32) × (Nat → Int32) × (Nat → Int32) × Int32 × Int32 × (Nat → Int32) × Int32 × (Nat → Int32) × (Nat → Int32) × Int32 × (Nat → Int32) × (Nat → Int32) × (Nat → Int32) × Int32 × Int32 × Int32 × Int32 × (Nat → Int32) × (Nat → Int32) × (Nat → Int32) × (Nat → Nat → Int32) × Int32), q ≤ 512 → lP s (nI (4 * q)) → (∃ e, (fun s : (Nat → Int64) × (Nat → UInt64) × Int32 × Int32 × Int32 × (Nat → Int32) × (Nat → Int32) × Int32 × (Nat → Int32) × (Nat → Int32) × (Nat → Int32) × Int32 × (Nat → Int32) × (Nat → Int32) × (Nat → Int32) × Int32 × Int32 × (Nat → Int32) × Int32 × (Nat → Int32) × (Nat → Int32) × Int32 × (Nat → Int32) × (Nat → Int32) × (Nat → Int32) × Int32 × Int32 × Int32 × Int32 × (Nat → Int32) × (Nat → Int32) × (Nat → Int32) × (Nat → Nat → Int32) × Int32 => sL_law_28 L xs s.1 s.2.1 s.2.2.1 s.2.2.2.1 s.2.2.2.2.1 s.2.2.2.2.2.1 s.2.2.2.2.2.2.1 s.2.2.2.2.2.2.2.1 s.2.2.2.2.2.2.2.2.1 s.2.2.2.2.2.2.2.2.2.1 s.2.2.2.2.2.2.2.2.2.2.1 s.2.2.2.2.2.2.2.2.2.2.2.1 s.2.2.2.2.2.2.2.2.2.2.2.2.1 s.2.2.2.2.2.2.2.2.2.2.2.2.2.1 s.2.2.2.2.2.2.2.2.2.2.2.2.2.2.1 s.2.2.2.2.2.2.2.2.2.2.2.2.2.2.2.1 s.2.2.2.2.2.2.2.2.2.2.2.2.2.2.2.2.1 s.2.2.2.2.2.2.2.2.2.2.2.2.2.2.2.2.2.1 s.2.2.2.2.2.2.2.2.2.2.2.2.2.2.2.2.2.2.1 s.2.2.2.2.2.2.2.2.2.2.2.2.2.2.2.2.2.2.2.1 s.2.2.2.2.2.2.2.2.2.2.2.2.2.2.2.2.2.2.2.2.1 s.2.2.2.2.2.2.2.2.2.2.2.2.2.2.2.2.2.2.2.2.2.1 s.2.2.2.2.2.2.2.2.2.2.2.2.2.2.2.2.2.2.2.2.2.2.1 s.2.2.2.2.2.2.2.2.2.2.2.2.2.2.2.2.2.2.2.2.2.2.2.1 s.2.2.2.2.2.2.2.2.2.2.2.2.2.2.2.2.2.2.2.2.2.2.2.2.1 s.2.2.2.2.2.2.2.2.2.2.2.2.2.2.2.2.2.2.2.2.2.2.2.2.2.1 s.2.2.2.2.2.2.2.2.2.2.2.2.2.2.2.2.2.2.2.2.2.2.2.2.2.2.1 s.2.2.2.2.2.2.2.2.2.2.2.2.2.2.2.2.2.2.2.2.2.2.2.2.2.2.2.1 s.2.2.2.2.2.2.2.2.2.2.2.2.2.2.2.2.2.2.2.2.2.2.2.2.2.2.2.2.1 s.2.2.2.2.2.2.2.2.2.2.2.2.2.2.2.2.2.2.2.2.2.2.2.2.2.2.2.2.2.1 s.2.2.2.2.2.2.2.2.2.2.2.2.2.2.2.2.2.2.2.2.2.2.2.2.2.2.2.2.2.2.1 s.2.2.2.2.2.2.2.2.2.2.2.2.2.2.2.2.2.2.2.2.2.2.2.2.2.2.2.2.2.2.2.1 s.2.2.2.2.2.2.2.2.2.2.2.2.2.2.2.2.2.2.2.2.2.2.2.2.2.2.2.2.2.2.2.2.1 s.2.2.2.2.2.2.2.2.2.2.2.2.2.2.2.2.2.2.2.2.2.2.2.2.2.2.2.2.2.2.2.2.2) s = some (.inl e) ∧ e = .inr ()) ∨ (q < 512 ∧ ∃ s2, (fun s : (Nat → Int64) × (Nat → UInt64) × Int32 × Int32 × Int32 × (Nat → Int32) × (Nat → Int32) × Int32 × (Nat → Int32) × (Nat → Int32) × (Nat → Int32) × Int32 × (Nat → Int32) × (Nat → Int32) × (Nat → Int32) × Int32 × Int32 × (Nat → Int32) × Int32 × (Nat → Int32) × (Nat → Int32) × Int32 × (Nat → Int32) × (Nat → Int32) × (Nat → Int32) × Int32 × Int32 × Int32 × Int32 × (Nat → Int32) × (Nat → Int32) × (Nat → Int32) × (Nat → Nat → Int32) × Int32 => sL_law_28 L xs s.1 s.2.1 s.2.2.1 s.2.2.2.1 s.2.2.2.2.1 s.2.2.2.2.2.1 s.2.2.2.2.2.2.1 s.2.2.2.2.2.2.2.1 s.2.2.2.2.2.2.2.2.1 s.2.2.2.2.2.2.2.2.2.1 s.2.2.2.2.2.2.2.2.2.2.1 s.2.2.2.2.2.2.2.2.2.2.2.1 s.2.2.2.2.2.2.2.2.2.2.2.2.1 s.2.2.2.2.2.2.2.2.2.2.2.2.2.1 s.2.2.2.2.2.2.2.2.2.2.2.2.2.2.1 s.2.2.2.2.2.2.2.2.2.2.2.2.2.2.2.1 s.2.2.2.2.2.2.2.2.2.2.2.2.2.2.2.2.1 s.2.2.2.2.2.2.2.2.2.2.2.2.2.2.2.2.2.1 s.2.2.2.2.2.2.2.2.2.2.2.2.2.2.2.2.2.2.1 s.2.2.2.2.2.2.2.2.2.2.2.2.2.2.2.2.2.2.2.1 s.2.2.2.2.2.2.2.2.2.2.2.2.2.2.2.2.2.2.2.2.1 s.2.2.2.2.2.2.2.2.2.2.2.2.2.2.2.2.2.2.2.2.2.1 s.2.2.2.2.2.2.2.2.2.2.2.2.2.2.2.2.2.2.2.2.2.2.1 s.2.2.2.2.2.2.2.2.2.2.2.2.2.2.2.2.2.2.2.2.2.2.2.1 s.2.2.2.2.2.2.2.2.2.2.2.2.2.2.2.2.2.2.2.2.2.2.2.2.1 s.2.2.2.2.2.2.2.2.2.2.2.2.2.2.2.2.2.2.2.2.2.2.2.2.2.1 s.2.2.2.2.2.2.2.2.2.2.2.2.2.2.2.2.2.2.2.2.2.2.2.2.2.2.1 s.2.2.2.2.2.2.2.2.2.2.2.2.2.2.2.2.2.2.2.2.2.2.2.2.2.2.2.1 s.2.2.2.2.2.2.2.2.2.2.2.2.2.2.2.2.2.2.2.2.2.2.2.2.2.2.2.2.1 s.2.2.2.2.2.2.2.2.2.2.2.2.2.2.2.2.2.2.2.2.2.2.2.2.2.2.2.2.2.1 s.2.2.2.2.2.2.2.2.2.2.2.2.2.2.2.2.2.2.2.2.2.2.2.2.2.2.2.2.2.2.1 s.2.2.2.2.2.2.2.2.2.2.2.2.2.2.2.2.2.2.2.2.2.2.2.2.2.2.2.2.2.2.2.1 s.2.2.2.2.2.2.2.2.2.2.2.2.2.2.2.2.2.2.2.2.2.2.2.2.2.2.2.2.2.2.2.2.1 s.2.2.2.2.2.2.2.2.2.2.2.2.2.2.2.2.2.2.2.2.2.2.2.2.2.2.2.2.2.2.2.2.2) s = some (.inr s2) ∧ lP s2 (nI (4 * (q + 1)))) := by
    intro q s hq hI
    obtain ⟨uU, uD, gB, gK, nS, nK, nN, fM, fL, fC, fQ, wM, wL, wC, wQ, cP, cW, cT, oS, oR, oX, xS, xB, xK, xW, mN, mS, mX, mT, mK, mC, mW, mJ, i⟩ := s
    have hi : i = nI (4 * q) := hI.2
    have hS : lS gB gK nS nK nN fM fL fC fQ xS xK xW mN mS mX mK mC mW mJ := hI.1
    subst hi
    rcases lw_step (xs := xs) hL q hq hS with h | ⟨h1, Z, h2, h3⟩
    · exact Or.inl ⟨_, h, rfl⟩
    · exact Or.inr ⟨h1, Z, h2, h3⟩
  obtain ⟨e, h1, h2⟩ := p_inv (step := (fun s : (Nat → Int64) × (Nat → UInt64) × Int32 × Int32 × Int32 × (Nat → Int32) × (Nat → Int32) × Int32 × (Nat → Int32) × (Nat → Int32) × (Nat → Int32) × Int32 × (Nat → Int32) × (Nat → Int32) × (Nat → Int32) × Int32 × Int32 × (Nat → Int32) × Int32 × (Nat → Int32) × (Nat → Int32) × Int32 × (Nat → Int32) × (Nat → Int32) × (Nat → Int32) × Int32 × Int32 × Int32 × Int32 × (Nat → Int32) × (Nat → Int32) × (Nat → Int32) × (Nat → Nat → Int32) × Int32 => sL_law_28 L xs s.1 s.2.1 s.2.2.1 s.2.2.2.1 s.2.2.2.2.1 s.2.2.2.2.2.1 s.2.2.2.2.2.2.1 s.2.2.2.2.2.2.2.1 s.2.2.2.2.2.2.2.2.1 s.2.2.2.2.2.2.2.2.2.1 s.2.2.2.2.2.2.2.2.2.2.1 s.2.2.2.2.2.2.2.2.2.2.2.1 s.2.2.2.2.2.2.2.2.2.2.2.2.1 s.2.2.2.2.2.2.2.2.2.2.2.2.2.1 s.2.2.2.2.2.2.2.2.2.2.2.2.2.2.1 s.2.2.2.2.2.2.2.2.2.2.2.2.2.2.2.1 s.2.2.2.2.2.2.2.2.2.2.2.2.2.2.2.2.1 s.2.2.2.2.2.2.2.2.2.2.2.2.2.2.2.2.2.1 s.2.2.2.2.2.2.2.2.2.2.2.2.2.2.2.2.2.2.1 s.2.2.2.2.2.2.2.2.2.2.2.2.2.2.2.2.2.2.2.1 s.2.2.2.2.2.2.2.2.2.2.2.2.2.2.2.2.2.2.2.2.1 s.2.2.2.2.2.2.2.2.2.2.2.2.2.2.2.2.2.2.2.2.2.1 s.2.2.2.2.2.2.2.2.2.2.2.2.2.2.2.2.2.2.2.2.2.2.1 s.2.2.2.2.2.2.2.2.2.2.2.2.2.2.2.2.2.2.2.2.2.2.2.1 s.2.2.2.2.2.2.2.2.2.2.2.2.2.2.2.2.2.2.2.2.2.2.2.2.1 s.2.2.2.2.2.2.2.2.2.2.2.2.2.2.2.2.2.2.2.2.2.2.2.2.2.1 s.2.2.2.2.2.2.2.2.2.2.2.2.2.2.2.2.2.2.2.2.2.2.2.2.2.2.1 s.2.2.2.2.2.2.2.2.2.2.2.2.2.2.2.2.2.2.2.2.2.2.2.2.2.2.2.1 s.2.2.2.2.2.2.2.2.2.2.2.2.2.2.2.2.2.2.2.2.2.2.2.2.2.2.2.2.1 s.2.2.2.2.2.2.2.2.2.2.2.2.2.2.2.2.2.2.2.2.2.2.2.2.2.2.2.2.2.1 s.2.2.2.2.2.2.2.2.2.2.2.2.2.2.2.2.2.2.2.2.2.2.2.2.2.2.2.2.2.2.1 s.2.2.2.2.2.2.2.2.2.2.2.2.2.2.2.2.2.2.2.2.2.2.2.2.2.2.2.2.2.2.2.1 s.2.2.2.2.2.2.2.2.2.2.2.2.2.2.2.2.2.2.2.2.2.2.2.2.2.2.2.2.2.2.2.2.1 s.2.2.2.2.2.2.2.2.2.2.2.2.2.2.2.2.2.2.2.2.2.2.2.2.2.2.2.2.2.2.2.2.2)) (fun q s => lP s (nI (4 * q))) (fun e => e = .inr ()) 512 hst (by omega : 512 < 514) (s := ((fun _ => 0), (fun _ => 0), 0, 0, 0, (fun _ => 0), (fun _ => 0), 0, (fun _ => 0), (fun _ => 0), (fun _ => 0), 0, (fun _ => 0), (fun _ => 0), (fun _ => 0), 0, 1, (fun _ => 0), 0, (fun _ => 0), (fun _ => 0), 0, (fun _ => 0), (fun _ => 0), (fun _ => 0), 0, (-1), 0, 0, (fun _ => 0), (fun _ => 0), (fun _ => 0), (fun _ _ => 0), 0)) ⟨lS_0, rfl⟩
  have h2 : e = .inr () := h2
  subst h2
  rw [h1, ob]
  rfl
