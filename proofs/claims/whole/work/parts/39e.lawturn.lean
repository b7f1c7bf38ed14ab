theorem z_sw31 {x y : Int32} (hx : x = y &&& 31) (h0 : ¬ x = 0) (h1 : ¬ x = 1) (h2 : ¬ x = 2) (h3 : ¬ x = 3) (h4 : ¬ x = 4) (h5 : ¬ x = 5) (h6 : ¬ x = 6) (h7 : ¬ x = 7) (h8 : ¬ x = 8) (h9 : ¬ x = 9) (h10 : ¬ x = 10) (h11 : ¬ x = 11) (h12 : ¬ x = 12) (h13 : ¬ x = 13) (h14 : ¬ x = 14) (h15 : ¬ x = 15) (h16 : ¬ x = 16) (h17 : ¬ x = 17) (h18 : ¬ x = 18) (h19 : ¬ x = 19) (h20 : ¬ x = 20) (h21 : ¬ x = 21) (h22 : ¬ x = 22) (h23 : ¬ x = 23) (h24 : ¬ x = 24) (h25 : ¬ x = 25) (h26 : ¬ x = 26) (h27 : ¬ x = 27) (h28 : ¬ x = 28) : x.toInt < 0 ∨ 28 < x.toInt := by
  obtain ⟨j, hj, hz⟩ := pk_andE y (m := 31) 5 (by decide)
  rw [hz] at hx
  subst hx
  rw [nI_toInt (by omega)]
  have h29 : ∀ k, k < 29 → j ≠ k := by
    intro k hk he
    subst he
    match j, hk with
    | 0, _ => exact h0 rfl
    | 1, _ => exact h1 rfl
    | 2, _ => exact h2 rfl
    | 3, _ => exact h3 rfl
    | 4, _ => exact h4 rfl
    | 5, _ => exact h5 rfl
    | 6, _ => exact h6 rfl
    | 7, _ => exact h7 rfl
    | 8, _ => exact h8 rfl
    | 9, _ => exact h9 rfl
    | 10, _ => exact h10 rfl
    | 11, _ => exact h11 rfl
    | 12, _ => exact h12 rfl
    | 13, _ => exact h13 rfl
    | 14, _ => exact h14 rfl
    | 15, _ => exact h15 rfl
    | 16, _ => exact h16 rfl
    | 17, _ => exact h17 rfl
    | 18, _ => exact h18 rfl
    | 19, _ => exact h19 rfl
    | 20, _ => exact h20 rfl
    | 21, _ => exact h21 rfl
    | 22, _ => exact h22 rfl
    | 23, _ => exact h23 rfl
    | 24, _ => exact h24 rfl
    | 25, _ => exact h25 rfl
    | 26, _ => exact h26 rfl
    | 27, _ => exact h27 rfl
    | 28, _ => exact h28 rfl
    | k + 29, h => omega
  right
  rcases Nat.lt_or_ge j 29 with h | h
  · exact absurd rfl (h29 j h)
  · omega
def sL_law_28 (L : Nat) (xs : Nat → Int32) (uU : (Nat → Int64)) (uD : (Nat → UInt64)) (gB : Int32) (gK : Int32) (nS : Int32) (nK : (Nat → Int32)) (nN : (Nat → Int32)) (fM : Int32) (fL : (Nat → Int32)) (fC : (Nat → Int32)) (fQ : (Nat → Int32)) (wM : Int32) (wL : (Nat → Int32)) (wC : (Nat → Int32)) (wQ : (Nat → Int32)) (cP : Int32) (cW : Int32) (cT : (Nat → Int32)) (oS : Int32) (oR : (Nat → Int32)) (oX : (Nat → Int32)) (xS : Int32) (xB : (Nat → Int32)) (xK : (Nat → Int32)) (xW : (Nat → Int32)) (mN : Int32) (mS : Int32) (mX : Int32) (mT : Int32) (mK : (Nat → Int32)) (mC : (Nat → Int32)) (mW : (Nat → Int32)) (mJ : (Nat → Nat → Int32)) (i : Int32) : Option ((Int32 ⊕ Unit) ⊕ ((Nat → Int64) × (Nat → UInt64) × Int32 × Int32 × Int32 × (Nat → Int32) × (Nat → Int32) × Int32 × (Nat → Int32) × (Nat → Int32) × (Nat → Int32) × Int32 × (Nat → Int32) × (Nat → Int32) × (Nat → Int32) × Int32 × Int32 × (Nat → Int32) × Int32 × (Nat → Int32) × (Nat → Int32) × Int32 × (Nat → Int32) × (Nat → Int32) × (Nat → Int32) × Int32 × Int32 × Int32 × Int32 × (Nat → Int32) × (Nat → Int32) × (Nat → Int32) × (Nat → Nat → Int32) × Int32)) := if ((Int32.ofNat L) - 4) < i then some (.inl (.inr ())) else if zin i L then if (xs i.toNatClampNeg &&& 31) = 0 then cL_law_0 L xs uU uD gB gK nS nK nN fM fL fC fQ wM wL wC wQ cP cW cT oS oR oX xS xB xK xW mN mS mX mT mK mC mW mJ i else if (xs i.toNatClampNeg &&& 31) = 1 then cL_law_1 L xs uU uD gB gK nS nK nN fM fL fC fQ wM wL wC wQ cP cW cT oS oR oX xS xB xK xW mN mS mX mT mK mC mW mJ i else if (xs i.toNatClampNeg &&& 31) = 2 then cL_law_2 L xs uU uD gB gK nS nK nN fM fL fC fQ wM wL wC wQ cP cW cT oS oR oX xS xB xK xW mN mS mX mT mK mC mW mJ i else if (xs i.toNatClampNeg &&& 31) = 3 then cL_law_3 L xs uU uD gB gK nS nK nN fM fL fC fQ wM wL wC wQ cP cW cT oS oR oX xS xB xK xW mN mS mX mT mK mC mW mJ i else if (xs i.toNatClampNeg &&& 31) = 4 then cL_law_4 L xs uU uD gB gK nS nK nN fM fL fC fQ wM wL wC wQ cP cW cT oS oR oX xS xB xK xW mN mS mX mT mK mC mW mJ i else if (xs i.toNatClampNeg &&& 31) = 5 then cL_law_5 L xs uU uD gB gK nS nK nN fM fL fC fQ wM wL wC wQ cP cW cT oS oR oX xS xB xK xW mN mS mX mT mK mC mW mJ i else if (xs i.toNatClampNeg &&& 31) = 6 then cL_law_6 L xs uU uD gB gK nS nK nN fM fL fC fQ wM wL wC wQ cP cW cT oS oR oX xS xB xK xW mN mS mX mT mK mC mW mJ i else if (xs i.toNatClampNeg &&& 31) = 7 then cL_law_7 L xs uU uD gB gK nS nK nN fM fL fC fQ wM wL wC wQ cP cW cT oS oR oX xS xB xK xW mN mS mX mT mK mC mW mJ i else if (xs i.toNatClampNeg &&& 31) = 8 then cL_law_8 L xs uU uD gB gK nS nK nN fM fL fC fQ wM wL wC wQ cP cW cT oS oR oX xS xB xK xW mN mS mX mT mK mC mW mJ i else if (xs i.toNatClampNeg &&& 31) = 9 then cL_law_9 L xs uU uD gB gK nS nK nN fM fL fC fQ wM wL wC wQ cP cW cT oS oR oX xS xB xK xW mN mS mX mT mK mC mW mJ i else if (xs i.toNatClampNeg &&& 31) = 10 then cL_law_10 L xs uU uD gB gK nS nK nN fM fL fC fQ wM wL wC wQ cP cW cT oS oR oX xS xB xK xW mN mS mX mT mK mC mW mJ i else if (xs i.toNatClampNeg &&& 31) = 11 then cL_law_11 L xs uU uD gB gK nS nK nN fM fL fC fQ wM wL wC wQ cP cW cT oS oR oX xS xB xK xW mN mS mX mT mK mC mW mJ i else if (xs i.toNatClampNeg &&& 31) = 12 then cL_law_12 L xs uU uD gB gK nS nK nN fM fL fC fQ wM wL wC wQ cP cW cT oS oR oX xS xB xK xW mN mS mX mT mK mC mW mJ i else if (xs i.toNatClampNeg &&& 31) = 13 then cL_law_13 L xs uU uD gB gK nS nK nN fM fL fC fQ wM wL wC wQ cP cW cT oS oR oX xS xB xK xW mN mS mX mT mK mC mW mJ i else if (xs i.toNatClampNeg &&& 31) = 14 then cL_law_14 L xs uU uD gB gK nS nK nN fM fL fC fQ wM wL wC wQ cP cW cT oS oR oX xS xB xK xW mN mS mX mT mK mC mW mJ i else if (xs i.toNatClampNeg &&& 31) = 15 then cL_law_15 L xs uU uD gB gK nS nK nN fM fL fC fQ wM wL wC wQ cP cW cT oS oR oX xS xB xK xW mN mS mX mT mK mC mW mJ i else if (xs i.toNatClampNeg &&& 31) = 16 then cL_law_16 L xs uU uD gB gK nS nK nN fM fL fC fQ wM wL wC wQ cP cW cT oS oR oX xS xB xK xW mN mS mX mT mK mC mW mJ i else if (xs i.toNatClampNeg &&& 31) = 17 then cL_law_17 L xs uU uD gB gK nS nK nN fM fL fC fQ wM wL wC wQ cP cW cT oS oR oX xS xB xK xW mN mS mX mT mK mC mW mJ i else if (xs i.toNatClampNeg &&& 31) = 18 then cL_law_18 L xs uU uD gB gK nS nK nN fM fL fC fQ wM wL wC wQ cP cW cT oS oR oX xS xB xK xW mN mS mX mT mK mC mW mJ i else if (xs i.toNatClampNeg &&& 31) = 19 then cL_law_19 L xs uU uD gB gK nS nK nN fM fL fC fQ wM wL wC wQ cP cW cT oS oR oX xS xB xK xW mN mS mX mT mK mC mW mJ i else if (xs i.toNatClampNeg &&& 31) = 20 then cL_law_20 L xs uU uD gB gK nS nK nN fM fL fC fQ wM wL wC wQ cP cW cT oS oR oX xS xB xK xW mN mS mX mT mK mC mW mJ i else if (xs i.toNatClampNeg &&& 31) = 21 then cL_law_21 L xs uU uD gB gK nS nK nN fM fL fC fQ wM wL wC wQ cP cW cT oS oR oX xS xB xK xW mN mS mX mT mK mC mW mJ i else if (xs i.toNatClampNeg &&& 31) = 22 then cL_law_22 L xs uU uD gB gK nS nK nN fM fL fC fQ wM wL wC wQ cP cW cT oS oR oX xS xB xK xW mN mS mX mT mK mC mW mJ i else if (xs i.toNatClampNeg &&& 31) = 23 then cL_law_23 L xs uU uD gB gK nS nK nN fM fL fC fQ wM wL wC wQ cP cW cT oS oR oX xS xB xK xW mN mS mX mT mK mC mW mJ i else if (xs i.toNatClampNeg &&& 31) = 24 then cL_law_24 L xs uU uD gB gK nS nK nN fM fL fC fQ wM wL wC wQ cP cW cT oS oR oX xS xB xK xW mN mS mX mT mK mC mW mJ i else if (xs i.toNatClampNeg &&& 31) = 25 then cL_law_25 L xs uU uD gB gK nS nK nN fM fL fC fQ wM wL wC wQ cP cW cT oS oR oX xS xB xK xW mN mS mX mT mK mC mW mJ i else if (xs i.toNatClampNeg &&& 31) = 26 then cL_law_26 L xs uU uD gB gK nS nK nN fM fL fC fQ wM wL wC wQ cP cW cT oS oR oX xS xB xK xW mN mS mX mT mK mC mW mJ i else if (xs i.toNatClampNeg &&& 31) = 27 then cL_law_27 L xs uU uD gB gK nS nK nN fM fL fC fQ wM wL wC wQ cP cW cT oS oR oX xS xB xK xW mN mS mX mT mK mC mW mJ i else if (xs i.toNatClampNeg &&& 31) = 28 then cL_law_28 L xs uU uD gB gK nS nK nN fM fL fC fQ wM wL wC wQ cP cW cT oS oR oX xS xB xK xW mN mS mX mT mK mC mW mJ i else some (.inr (uU, uD, gB, gK, nS, nK, nN, fM, fL, fC, fQ, wM, wL, wC, wQ, cP, cW, cT, oS, oR, oX, xS, xB, xK, xW, mN, mS, mX, mT, mK, mC, mW, mJ, (i + 4))) else none
def fL_law (L : Nat) (xs : Nat → Int32) : Option Int32 := (zloop (fun s : (Nat → Int64) × (Nat → UInt64) × Int32 × Int32 × Int32 × (Nat → Int32) × (Nat → Int32) × Int32 × (Nat → Int32) × (Nat → Int32) × (Nat → Int32) × Int32 × (Nat → Int32) × (Nat → Int32) × (Nat → Int32) × Int32 × Int32 × (Nat → Int32) × Int32 × (Nat → Int32) × (Nat → Int32) × Int32 × (Nat → Int32) × (Nat → Int32) × (Nat → Int32) × Int32 × Int32 × Int32 × Int32 × (Nat → Int32) × (Nat → Int32) × (Nat → Int32) × (Nat → Nat → Int32) × Int32 => sL_law_28 L xs s.1 s.2.1 s.2.2.1 s.2.2.2.1 s.2.2.2.2.1 s.2.2.2.2.2.1 s.2.2.2.2.2.2.1 s.2.2.2.2.2.2.2.1 s.2.2.2.2.2.2.2.2.1 s.2.2.2.2.2.2.2.2.2.1 s.2.2.2.2.2.2.2.2.2.2.1 s.2.2.2.2.2.2.2.2.2.2.2.1 s.2.2.2.2.2.2.2.2.2.2.2.2.1 s.2.2.2.2.2.2.2.2.2.2.2.2.2.1 s.2.2.2.2.2.2.2.2.2.2.2.2.2.2.1 s.2.2.2.2.2.2.2.2.2.2.2.2.2.2.2.1 s.2.2.2.2.2.2.2.2.2.2.2.2.2.2.2.2.1 s.2.2.2.2.2.2.2.2.2.2.2.2.2.2.2.2.2.1 s.2.2.2.2.2.2.2.2.2.2.2.2.2.2.2.2.2.2.1 s.2.2.2.2.2.2.2.2.2.2.2.2.2.2.2.2.2.2.2.1 s.2.2.2.2.2.2.2.2.2.2.2.2.2.2.2.2.2.2.2.2.1 s.2.2.2.2.2.2.2.2.2.2.2.2.2.2.2.2.2.2.2.2.2.1 s.2.2.2.2.2.2.2.2.2.2.2.2.2.2.2.2.2.2.2.2.2.2.1 s.2.2.2.2.2.2.2.2.2.2.2.2.2.2.2.2.2.2.2.2.2.2.2.1 s.2.2.2.2.2.2.2.2.2.2.2.2.2.2.2.2.2.2.2.2.2.2.2.2.1 s.2.2.2.2.2.2.2.2.2.2.2.2.2.2.2.2.2.2.2.2.2.2.2.2.2.1 s.2.2.2.2.2.2.2.2.2.2.2.2.2.2.2.2.2.2.2.2.2.2.2.2.2.2.1 s.2.2.2.2.2.2.2.2.2.2.2.2.2.2.2.2.2.2.2.2.2.2.2.2.2.2.2.1 s.2.2.2.2.2.2.2.2.2.2.2.2.2.2.2.2.2.2.2.2.2.2.2.2.2.2.2.2.1 s.2.2.2.2.2.2.2.2.2.2.2.2.2.2.2.2.2.2.2.2.2.2.2.2.2.2.2.2.2.1 s.2.2.2.2.2.2.2.2.2.2.2.2.2.2.2.2.2.2.2.2.2.2.2.2.2.2.2.2.2.2.1 s.2.2.2.2.2.2.2.2.2.2.2.2.2.2.2.2.2.2.2.2.2.2.2.2.2.2.2.2.2.2.2.1 s.2.2.2.2.2.2.2.2.2.2.2.2.2.2.2.2.2.2.2.2.2.2.2.2.2.2.2.2.2.2.2.2.1 s.2.2.2.2.2.2.2.2.2.2.2.2.2.2.2.2.2.2.2.2.2.2.2.2.2.2.2.2.2.2.2.2.2) 514 ((fun _ => 0), (fun _ => 0), 0, 0, 0, (fun _ => 0), (fun _ => 0), 0, (fun _ => 0), (fun _ => 0), (fun _ => 0), 0, (fun _ => 0), (fun _ => 0), (fun _ => 0), 0, 1, (fun _ => 0), 0, (fun _ => 0), (fun _ => 0), 0, (fun _ => 0), (fun _ => 0), (fun _ => 0), 0, (-1), 0, 0, (fun _ => 0), (fun _ => 0), (fun _ => 0), (fun _ _ => 0), 0)).bind fun e => Sum.elim (fun p : Int32 => some p) (fun _ : Unit => some 1) e
set_option maxRecDepth 100000 in
set_option maxHeartbeats 4000000 in
theorem tL_law_turn {G : zG} {K : zK} {b : Nat} (L : Nat) (xs : Nat → Int32) (aU : Nat) (aD : Nat) (aH : Nat) (aN : Nat) (aNk : Nat) (aNn : Nat) (aF : Nat) (aFl : Nat) (aFc : Nat) (aFq : Nat) (aA : Nat) (aAl : Nat) (aAc : Nat) (aAq : Nat) (aC : Nat) (aCt : Nat) (aO : Nat) (aOr : Nat) (aOx : Nat) (aX : Nat) (aXb : Nat) (aXk : Nat) (aXw : Nat) (aM : Nat) (aMk : Nat) (aMj : Nat) (aMc : Nat) (aMw : Nat) (aMr : (Nat → Nat)) (uU : (Nat → Int64)) (uD : (Nat → UInt64)) (gB : Int32) (gK : Int32) (nS : Int32) (nK : (Nat → Int32)) (nN : (Nat → Int32)) (fM : Int32) (fL : (Nat → Int32)) (fC : (Nat → Int32)) (fQ : (Nat → Int32)) (wM : Int32) (wL : (Nat → Int32)) (wC : (Nat → Int32)) (wQ : (Nat → Int32)) (cP : Int32) (cW : Int32) (cT : (Nat → Int32)) (oS : Int32) (oR : (Nat → Int32)) (oX : (Nat → Int32)) (xS : Int32) (xB : (Nat → Int32)) (xK : (Nat → Int32)) (xW : (Nat → Int32)) (mN : Int32) (mS : Int32) (mX : Int32) (mT : Int32) (mK : (Nat → Int32)) (mC : (Nat → Int32)) (mW : (Nat → Int32)) (mJ : (Nat → Nat → Int32)) (i : Int32) (kc ks : Nat) (hkc : kc + 1000 ≤ 601024) (hks : ks + 14000 ≤ 7293034) (hG : zC G RL cL_law 9 wsL_law room_1 K) (hV : zV G) (hXs : zXs G b L xs) {v : (Int32 ⊕ Unit) ⊕ ((Nat → Int64) × (Nat → UInt64) × Int32 × Int32 × Int32 × (Nat → Int32) × (Nat → Int32) × Int32 × (Nat → Int32) × (Nat → Int32) × (Nat → Int32) × Int32 × (Nat → Int32) × (Nat → Int32) × (Nat → Int32) × Int32 × Int32 × (Nat → Int32) × Int32 × (Nat → Int32) × (Nat → Int32) × Int32 × (Nat → Int32) × (Nat → Int32) × (Nat → Int32) × Int32 × Int32 × Int32 × Int32 × (Nat → Int32) × (Nat → Int32) × (Nat → Int32) × (Nat → Nat → Int32) × Int32)} (hres : sL_law_28 L xs uU uD gB gK nS nK nN fM fL fC fQ wM wL wC wQ cP cW cT oS oR oX xS xB xK xW mN mS mX mT mK mC mW mJ i = some v) (hX1 : ∀ p : Int32, v = .inl (.inl p) → ∀ (pc : Nat) (lv : zL) (ws : va_W), decode cL_law pc = .ok (.ireturn, 1) → zj G pc lv [.int p] ws 601024 7293034) (hX2 : v = .inl (.inr ()) → zj G 1644 [(0, .ref b), (1, .ref aH), (2, .ref aM), (3, .ref aU), (4, .ref aD), (5, .int i)] [] ([(aU, .inl (K.2 4, 1, .inr (.inl uU))), (aD, .inl (K.2 5, 1, .inr (.inr (.inr (.inl uD))))), (aH, .inr (5, [.ref aN, .ref aF, .ref aA, .ref aC, .ref aO, .ref aX, .int gB, .int gK])), (aN, .inr (3, [.ref aNk, .ref aNn, .int nS])), (aNk, .inl (K.2 0, 12, .inl nK)), (aNn, .inl (K.2 0, 12, .inl nN)), (aF, .inr (2, [.ref aFl, .ref aFc, .ref aFq, .int fM])), (aFl, .inl (K.2 0, 12, .inl fL)), (aFc, .inl (K.2 0, 12, .inl fC)), (aFq, .inl (K.2 0, 12, .inl fQ)), (aA, .inr (2, [.ref aAl, .ref aAc, .ref aAq, .int wM])), (aAl, .inl (K.2 0, 12, .inl wL)), (aAc, .inl (K.2 0, 12, .inl wC)), (aAq, .inl (K.2 0, 12, .inl wQ)), (aC, .inr (1, [.ref aCt, .int cP, .int cW])), (aCt, .inl (K.2 0, 12, .inl cT)), (aO, .inr (4, [.ref aOr, .ref aOx, .int oS])), (aOr, .inl (K.2 0, 12, .inl oR)), (aOx, .inl (K.2 0, 13, .inl oX)), (aX, .inr (0, [.ref aXb, .ref aXk, .ref aXw, .int xS])), (aXb, .inl (K.2 0, 12, .inl xB)), (aXk, .inl (K.2 0, 12, .inl xK)), (aXw, .inl (K.2 0, 12, .inl xW)), (aM, .inr (6, [.ref aMk, .ref aMj, .int mN, .int mS, .ref aMc, .ref aMw, .int mX, .int mT])), (aMk, .inl (K.2 0, 12, .inl mK)), (aMj, .inl (K.2 3, 12, .inr (.inr (.inr (.inr (zo aMr 12)))))), (aMc, .inl (K.2 0, 12, .inl mC)), (aMw, .inl (K.2 0, 12, .inl mW))] ++ zR12Z K aMr mJ) (kc + 1000) (ks + 14000)) (hB : ∀ (uU' : (Nat → Int64)) (uD' : (Nat → UInt64)) (gB' : Int32) (gK' : Int32) (nS' : Int32) (nK' : (Nat → Int32)) (nN' : (Nat → Int32)) (fM' : Int32) (fL' : (Nat → Int32)) (fC' : (Nat → Int32)) (fQ' : (Nat → Int32)) (wM' : Int32) (wL' : (Nat → Int32)) (wC' : (Nat → Int32)) (wQ' : (Nat → Int32)) (cP' : Int32) (cW' : Int32) (cT' : (Nat → Int32)) (oS' : Int32) (oR' : (Nat → Int32)) (oX' : (Nat → Int32)) (xS' : Int32) (xB' : (Nat → Int32)) (xK' : (Nat → Int32)) (xW' : (Nat → Int32)) (mN' : Int32) (mS' : Int32) (mX' : Int32) (mT' : Int32) (mK' : (Nat → Int32)) (mC' : (Nat → Int32)) (mW' : (Nat → Int32)) (mJ' : (Nat → Nat → Int32)) (i' : Int32), v = .inr (uU', uD', gB', gK', nS', nK', nN', fM', fL', fC', fQ', wM', wL', wC', wQ', cP', cW', cT', oS', oR', oX', xS', xB', xK', xW', mN', mS', mX', mT', mK', mC', mW', mJ', i') → zj G 28 [(0, .ref b), (1, .ref aH), (2, .ref aM), (3, .ref aU), (4, .ref aD), (5, .int i')] [] ([(aU, .inl (K.2 4, 1, .inr (.inl uU'))), (aD, .inl (K.2 5, 1, .inr (.inr (.inr (.inl uD'))))), (aH, .inr (5, [.ref aN, .ref aF, .ref aA, .ref aC, .ref aO, .ref aX, .int gB', .int gK'])), (aN, .inr (3, [.ref aNk, .ref aNn, .int nS'])), (aNk, .inl (K.2 0, 12, .inl nK')), (aNn, .inl (K.2 0, 12, .inl nN')), (aF, .inr (2, [.ref aFl, .ref aFc, .ref aFq, .int fM'])), (aFl, .inl (K.2 0, 12, .inl fL')), (aFc, .inl (K.2 0, 12, .inl fC')), (aFq, .inl (K.2 0, 12, .inl fQ')), (aA, .inr (2, [.ref aAl, .ref aAc, .ref aAq, .int wM'])), (aAl, .inl (K.2 0, 12, .inl wL')), (aAc, .inl (K.2 0, 12, .inl wC')), (aAq, .inl (K.2 0, 12, .inl wQ')), (aC, .inr (1, [.ref aCt, .int cP', .int cW'])), (aCt, .inl (K.2 0, 12, .inl cT')), (aO, .inr (4, [.ref aOr, .ref aOx, .int oS'])), (aOr, .inl (K.2 0, 12, .inl oR')), (aOx, .inl (K.2 0, 13, .inl oX')), (aX, .inr (0, [.ref aXb, .ref aXk, .ref aXw, .int xS'])), (aXb, .inl (K.2 0, 12, .inl xB')), (aXk, .inl (K.2 0, 12, .inl xK')), (aXw, .inl (K.2 0, 12, .inl xW')), (aM, .inr (6, [.ref aMk, .ref aMj, .int mN', .int mS', .ref aMc, .ref aMw, .int mX', .int mT'])), (aMk, .inl (K.2 0, 12, .inl mK')), (aMj, .inl (K.2 3, 12, .inr (.inr (.inr (.inr (zo aMr 12)))))), (aMc, .inl (K.2 0, 12, .inl mC')), (aMw, .inl (K.2 0, 12, .inl mW'))] ++ zR12Z K aMr mJ') (kc + 1000) (ks + 14000)) : zj G 28 [(0, .ref b), (1, .ref aH), (2, .ref aM), (3, .ref aU), (4, .ref aD), (5, .int i)] [] ([(aU, .inl (K.2 4, 1, .inr (.inl uU))), (aD, .inl (K.2 5, 1, .inr (.inr (.inr (.inl uD))))), (aH, .inr (5, [.ref aN, .ref aF, .ref aA, .ref aC, .ref aO, .ref aX, .int gB, .int gK])), (aN, .inr (3, [.ref aNk, .ref aNn, .int nS])), (aNk, .inl (K.2 0, 12, .inl nK)), (aNn, .inl (K.2 0, 12, .inl nN)), (aF, .inr (2, [.ref aFl, .ref aFc, .ref aFq, .int fM])), (aFl, .inl (K.2 0, 12, .inl fL)), (aFc, .inl (K.2 0, 12, .inl fC)), (aFq, .inl (K.2 0, 12, .inl fQ)), (aA, .inr (2, [.ref aAl, .ref aAc, .ref aAq, .int wM])), (aAl, .inl (K.2 0, 12, .inl wL)), (aAc, .inl (K.2 0, 12, .inl wC)), (aAq, .inl (K.2 0, 12, .inl wQ)), (aC, .inr (1, [.ref aCt, .int cP, .int cW])), (aCt, .inl (K.2 0, 12, .inl cT)), (aO, .inr (4, [.ref aOr, .ref aOx, .int oS])), (aOr, .inl (K.2 0, 12, .inl oR)), (aOx, .inl (K.2 0, 13, .inl oX)), (aX, .inr (0, [.ref aXb, .ref aXk, .ref aXw, .int xS])), (aXb, .inl (K.2 0, 12, .inl xB)), (aXk, .inl (K.2 0, 12, .inl xK)), (aXw, .inl (K.2 0, 12, .inl xW)), (aM, .inr (6, [.ref aMk, .ref aMj, .int mN, .int mS, .ref aMc, .ref aMw, .int mX, .int mT])), (aMk, .inl (K.2 0, 12, .inl mK)), (aMj, .inl (K.2 3, 12, .inr (.inr (.inr (.inr (zo aMr 12)))))), (aMc, .inl (K.2 0, 12, .inl mC)), (aMw, .inl (K.2 0, 12, .inl mW))] ++ zR12Z K aMr mJ) kc ks := by
  unfold sL_law_28 at hres
  refine z_iload hG dL_law_28 5 rfl ?_
  refine z_aload_n hG dL_law_30 0 rfl ?_
  refine z_slen hG hXs dL_law_31 ?_
  refine z_iconst 4 hG dL_law_32 (by decide) ?_
  refine z_isub hG dL_law_33 ?_
  refine z_icmp_gt 1644 hG dL_law_34 (by decide) (fun c => ?_) (fun c => ?_)
  · replace hres := z_ifp c hres
    exact z_wid (by omega) (by omega) (hX2 (Option.some.inj hres).symm)
  replace hres := z_ifn c hres
  obtain ⟨hg, hres⟩ := z_guard hres
  refine z_aload_n hG dL_law_37 0 rfl ?_
  refine z_iload hG dL_law_38 5 rfl ?_
  refine z_sld hG hXs dL_law_40 hg ?_
  refine z_bipush 31 hG dL_law_41 (by decide) ?_
  refine z_iand hG dL_law_43 ?_
  obtain ⟨x9, hx9⟩ : ∃ z, z = (xs i.toNatClampNeg &&& 31) := ⟨_, rfl⟩
  rw [← hx9] at hres ⊢
  by_cases c0 : x9 = 0
  · replace hres := z_ifp c0 hres
    clear hx9
    subst c0
    refine z_tableIn 176 hG dL_law_44 (by decide) (by decide) rfl (by decide) ?_
    exact tL_law_0 L xs aU aD aH aN aNk aNn aF aFl aFc aFq aA aAl aAc aAq aC aCt aO aOr aOx aX aXb aXk aXw aM aMk aMj aMc aMw aMr uU uD gB gK nS nK nN fM fL fC fQ wM wL wC wQ cP cW cT oS oR oX xS xB xK xW mN mS mX mT mK mC mW mJ i kc ks hkc hks hG hV hXs hres hX1 hB
  replace hres := z_ifn c0 hres
  by_cases c1 : x9 = 1
  · replace hres := z_ifp c1 hres
    clear hx9
    subst c1
    refine z_tableIn 232 hG dL_law_44 (by decide) (by decide) rfl (by decide) ?_
    exact tL_law_1 L xs aU aD aH aN aNk aNn aF aFl aFc aFq aA aAl aAc aAq aC aCt aO aOr aOx aX aXb aXk aXw aM aMk aMj aMc aMw aMr uU uD gB gK nS nK nN fM fL fC fQ wM wL wC wQ cP cW cT oS oR oX xS xB xK xW mN mS mX mT mK mC mW mJ i kc ks hkc hks hG hV hXs hres hX1 hB
  replace hres := z_ifn c1 hres
  by_cases c2 : x9 = 2
  · replace hres := z_ifp c2 hres
    clear hx9
    subst c2
    refine z_tableIn 288 hG dL_law_44 (by decide) (by decide) rfl (by decide) ?_
    exact tL_law_2 L xs aU aD aH aN aNk aNn aF aFl aFc aFq aA aAl aAc aAq aC aCt aO aOr aOx aX aXb aXk aXw aM aMk aMj aMc aMw aMr uU uD gB gK nS nK nN fM fL fC fQ wM wL wC wQ cP cW cT oS oR oX xS xB xK xW mN mS mX mT mK mC mW mJ i kc ks hkc hks hG hV hXs hres hX1 hB
  replace hres := z_ifn c2 hres
  by_cases c3 : x9 = 3
  · replace hres := z_ifp c3 hres
    clear hx9
    subst c3
    refine z_tableIn 356 hG dL_law_44 (by decide) (by decide) rfl (by decide) ?_
    exact tL_law_3 L xs aU aD aH aN aNk aNn aF aFl aFc aFq aA aAl aAc aAq aC aCt aO aOr aOx aX aXb aXk aXw aM aMk aMj aMc aMw aMr uU uD gB gK nS nK nN fM fL fC fQ wM wL wC wQ cP cW cT oS oR oX xS xB xK xW mN mS mX mT mK mC mW mJ i kc ks hkc hks hG hV hXs hres hX1 hB
  replace hres := z_ifn c3 hres
  by_cases c4 : x9 = 4
  · replace hres := z_ifp c4 hres
    clear hx9
    subst c4
    refine z_tableIn 424 hG dL_law_44 (by decide) (by decide) rfl (by decide) ?_
    exact tL_law_4 L xs aU aD aH aN aNk aNn aF aFl aFc aFq aA aAl aAc aAq aC aCt aO aOr aOx aX aXb aXk aXw aM aMk aMj aMc aMw aMr uU uD gB gK nS nK nN fM fL fC fQ wM wL wC wQ cP cW cT oS oR oX xS xB xK xW mN mS mX mT mK mC mW mJ i kc ks hkc hks hG hV hXs hres hX1 hB
  replace hres := z_ifn c4 hres
  by_cases c5 : x9 = 5
  · replace hres := z_ifp c5 hres
    clear hx9
    subst c5
    refine z_tableIn 437 hG dL_law_44 (by decide) (by decide) rfl (by decide) ?_
    exact tL_law_5 L xs aU aD aH aN aNk aNn aF aFl aFc aFq aA aAl aAc aAq aC aCt aO aOr aOx aX aXb aXk aXw aM aMk aMj aMc aMw aMr uU uD gB gK nS nK nN fM fL fC fQ wM wL wC wQ cP cW cT oS oR oX xS xB xK xW mN mS mX mT mK mC mW mJ i kc ks hkc hks hG hV hXs hres hX1 hB
  replace hres := z_ifn c5 hres
  by_cases c6 : x9 = 6
  · replace hres := z_ifp c6 hres
    clear hx9
    subst c6
    refine z_tableIn 450 hG dL_law_44 (by decide) (by decide) rfl (by decide) ?_
    exact tL_law_6 L xs aU aD aH aN aNk aNn aF aFl aFc aFq aA aAl aAc aAq aC aCt aO aOr aOx aX aXb aXk aXw aM aMk aMj aMc aMw aMr uU uD gB gK nS nK nN fM fL fC fQ wM wL wC wQ cP cW cT oS oR oX xS xB xK xW mN mS mX mT mK mC mW mJ i kc ks hkc hks hG hV hXs hres hX1 hB
  replace hres := z_ifn c6 hres
  by_cases c7 : x9 = 7
  · replace hres := z_ifp c7 hres
    clear hx9
    subst c7
    refine z_tableIn 525 hG dL_law_44 (by decide) (by decide) rfl (by decide) ?_
    exact tL_law_7 L xs aU aD aH aN aNk aNn aF aFl aFc aFq aA aAl aAc aAq aC aCt aO aOr aOx aX aXb aXk aXw aM aMk aMj aMc aMw aMr uU uD gB gK nS nK nN fM fL fC fQ wM wL wC wQ cP cW cT oS oR oX xS xB xK xW mN mS mX mT mK mC mW mJ i kc ks hkc hks hG hV hXs hres hX1 hB
  replace hres := z_ifn c7 hres
  by_cases c8 : x9 = 8
  · replace hres := z_ifp c8 hres
    clear hx9
    subst c8
    refine z_tableIn 581 hG dL_law_44 (by decide) (by decide) rfl (by decide) ?_
    exact tL_law_8 L xs aU aD aH aN aNk aNn aF aFl aFc aFq aA aAl aAc aAq aC aCt aO aOr aOx aX aXb aXk aXw aM aMk aMj aMc aMw aMr uU uD gB gK nS nK nN fM fL fC fQ wM wL wC wQ cP cW cT oS oR oX xS xB xK xW mN mS mX mT mK mC mW mJ i kc ks hkc hks hG hV hXs hres hX1 hB
  replace hres := z_ifn c8 hres
  by_cases c9 : x9 = 9
  · replace hres := z_ifp c9 hres
    clear hx9
    subst c9
    refine z_tableIn 637 hG dL_law_44 (by decide) (by decide) rfl (by decide) ?_
    exact tL_law_9 L xs aU aD aH aN aNk aNn aF aFl aFc aFq aA aAl aAc aAq aC aCt aO aOr aOx aX aXb aXk aXw aM aMk aMj aMc aMw aMr uU uD gB gK nS nK nN fM fL fC fQ wM wL wC wQ cP cW cT oS oR oX xS xB xK xW mN mS mX mT mK mC mW mJ i kc ks hkc hks hG hV hXs hres hX1 hB
  replace hres := z_ifn c9 hres
  by_cases c10 : x9 = 10
  · replace hres := z_ifp c10 hres
    clear hx9
    subst c10
    refine z_tableIn 693 hG dL_law_44 (by decide) (by decide) rfl (by decide) ?_
    exact tL_law_10 L xs aU aD aH aN aNk aNn aF aFl aFc aFq aA aAl aAc aAq aC aCt aO aOr aOx aX aXb aXk aXw aM aMk aMj aMc aMw aMr uU uD gB gK nS nK nN fM fL fC fQ wM wL wC wQ cP cW cT oS oR oX xS xB xK xW mN mS mX mT mK mC mW mJ i kc ks hkc hks hG hV hXs hres hX1 hB
  replace hres := z_ifn c10 hres
  by_cases c11 : x9 = 11
  · replace hres := z_ifp c11 hres
    clear hx9
    subst c11
    refine z_tableIn 737 hG dL_law_44 (by decide) (by decide) rfl (by decide) ?_
    exact tL_law_11 L xs aU aD aH aN aNk aNn aF aFl aFc aFq aA aAl aAc aAq aC aCt aO aOr aOx aX aXb aXk aXw aM aMk aMj aMc aMw aMr uU uD gB gK nS nK nN fM fL fC fQ wM wL wC wQ cP cW cT oS oR oX xS xB xK xW mN mS mX mT mK mC mW mJ i kc ks hkc hks hG hV hXs hres hX1 hB
  replace hres := z_ifn c11 hres
  by_cases c12 : x9 = 12
  · replace hres := z_ifp c12 hres
    clear hx9
    subst c12
    refine z_tableIn 793 hG dL_law_44 (by decide) (by decide) rfl (by decide) ?_
    exact tL_law_12 L xs aU aD aH aN aNk aNn aF aFl aFc aFq aA aAl aAc aAq aC aCt aO aOr aOx aX aXb aXk aXw aM aMk aMj aMc aMw aMr uU uD gB gK nS nK nN fM fL fC fQ wM wL wC wQ cP cW cT oS oR oX xS xB xK xW mN mS mX mT mK mC mW mJ i kc ks hkc hks hG hV hXs hres hX1 hB
  replace hres := z_ifn c12 hres
  by_cases c13 : x9 = 13
  · replace hres := z_ifp c13 hres
    clear hx9
    subst c13
    refine z_tableIn 849 hG dL_law_44 (by decide) (by decide) rfl (by decide) ?_
    exact tL_law_13 L xs aU aD aH aN aNk aNn aF aFl aFc aFq aA aAl aAc aAq aC aCt aO aOr aOx aX aXb aXk aXw aM aMk aMj aMc aMw aMr uU uD gB gK nS nK nN fM fL fC fQ wM wL wC wQ cP cW cT oS oR oX xS xB xK xW mN mS mX mT mK mC mW mJ i kc ks hkc hks hG hV hXs hres hX1 hB
  replace hres := z_ifn c13 hres
  by_cases c14 : x9 = 14
  · replace hres := z_ifp c14 hres
    clear hx9
    subst c14
    refine z_tableIn 905 hG dL_law_44 (by decide) (by decide) rfl (by decide) ?_
    exact tL_law_14 L xs aU aD aH aN aNk aNn aF aFl aFc aFq aA aAl aAc aAq aC aCt aO aOr aOx aX aXb aXk aXw aM aMk aMj aMc aMw aMr uU uD gB gK nS nK nN fM fL fC fQ wM wL wC wQ cP cW cT oS oR oX xS xB xK xW mN mS mX mT mK mC mW mJ i kc ks hkc hks hG hV hXs hres hX1 hB
  replace hres := z_ifn c14 hres
  by_cases c15 : x9 = 15
  · replace hres := z_ifp c15 hres
    clear hx9
    subst c15
    refine z_tableIn 985 hG dL_law_44 (by decide) (by decide) rfl (by decide) ?_
    exact tL_law_15 L xs aU aD aH aN aNk aNn aF aFl aFc aFq aA aAl aAc aAq aC aCt aO aOr aOx aX aXb aXk aXw aM aMk aMj aMc aMw aMr uU uD gB gK nS nK nN fM fL fC fQ wM wL wC wQ cP cW cT oS oR oX xS xB xK xW mN mS mX mT mK mC mW mJ i kc ks hkc hks hG hV hXs hres hX1 hB
  replace hres := z_ifn c15 hres
  by_cases c16 : x9 = 16
  · replace hres := z_ifp c16 hres
    clear hx9
    subst c16
    refine z_tableIn 1053 hG dL_law_44 (by decide) (by decide) rfl (by decide) ?_
    exact tL_law_16 L xs aU aD aH aN aNk aNn aF aFl aFc aFq aA aAl aAc aAq aC aCt aO aOr aOx aX aXb aXk aXw aM aMk aMj aMc aMw aMr uU uD gB gK nS nK nN fM fL fC fQ wM wL wC wQ cP cW cT oS oR oX xS xB xK xW mN mS mX mT mK mC mW mJ i kc ks hkc hks hG hV hXs hres hX1 hB
  replace hres := z_ifn c16 hres
  by_cases c17 : x9 = 17
  · replace hres := z_ifp c17 hres
    clear hx9
    subst c17
    refine z_tableIn 1128 hG dL_law_44 (by decide) (by decide) rfl (by decide) ?_
    exact tL_law_17 L xs aU aD aH aN aNk aNn aF aFl aFc aFq aA aAl aAc aAq aC aCt aO aOr aOx aX aXb aXk aXw aM aMk aMj aMc aMw aMr uU uD gB gK nS nK nN fM fL fC fQ wM wL wC wQ cP cW cT oS oR oX xS xB xK xW mN mS mX mT mK mC mW mJ i kc ks hkc hks hG hV hXs hres hX1 hB
  replace hres := z_ifn c17 hres
  by_cases c18 : x9 = 18
  · replace hres := z_ifp c18 hres
    clear hx9
    subst c18
    refine z_tableIn 1184 hG dL_law_44 (by decide) (by decide) rfl (by decide) ?_
    exact tL_law_18 L xs aU aD aH aN aNk aNn aF aFl aFc aFq aA aAl aAc aAq aC aCt aO aOr aOx aX aXb aXk aXw aM aMk aMj aMc aMw aMr uU uD gB gK nS nK nN fM fL fC fQ wM wL wC wQ cP cW cT oS oR oX xS xB xK xW mN mS mX mT mK mC mW mJ i kc ks hkc hks hG hV hXs hres hX1 hB
  replace hres := z_ifn c18 hres
  by_cases c19 : x9 = 19
  · replace hres := z_ifp c19 hres
    clear hx9
    subst c19
    refine z_tableIn 1249 hG dL_law_44 (by decide) (by decide) rfl (by decide) ?_
    exact tL_law_19 L xs aU aD aH aN aNk aNn aF aFl aFc aFq aA aAl aAc aAq aC aCt aO aOr aOx aX aXb aXk aXw aM aMk aMj aMc aMw aMr uU uD gB gK nS nK nN fM fL fC fQ wM wL wC wQ cP cW cT oS oR oX xS xB xK xW mN mS mX mT mK mC mW mJ i kc ks hkc hks hG hV hXs hres hX1 hB
  replace hres := z_ifn c19 hres
  by_cases c20 : x9 = 20
  · replace hres := z_ifp c20 hres
    clear hx9
    subst c20
    refine z_tableIn 1317 hG dL_law_44 (by decide) (by decide) rfl (by decide) ?_
    exact tL_law_20 L xs aU aD aH aN aNk aNn aF aFl aFc aFq aA aAl aAc aAq aC aCt aO aOr aOx aX aXb aXk aXw aM aMk aMj aMc aMw aMr uU uD gB gK nS nK nN fM fL fC fQ wM wL wC wQ cP cW cT oS oR oX xS xB xK xW mN mS mX mT mK mC mW mJ i kc ks hkc hks hG hV hXs hres hX1 hB
  replace hres := z_ifn c20 hres
  by_cases c21 : x9 = 21
  · replace hres := z_ifp c21 hres
    clear hx9
    subst c21
    refine z_tableIn 1330 hG dL_law_44 (by decide) (by decide) rfl (by decide) ?_
    exact tL_law_21 L xs aU aD aH aN aNk aNn aF aFl aFc aFq aA aAl aAc aAq aC aCt aO aOr aOx aX aXb aXk aXw aM aMk aMj aMc aMw aMr uU uD gB gK nS nK nN fM fL fC fQ wM wL wC wQ cP cW cT oS oR oX xS xB xK xW mN mS mX mT mK mC mW mJ i kc ks hkc hks hG hV hXs hres hX1 hB
  replace hres := z_ifn c21 hres
  by_cases c22 : x9 = 22
  · replace hres := z_ifp c22 hres
    clear hx9
    subst c22
    refine z_tableIn 1343 hG dL_law_44 (by decide) (by decide) rfl (by decide) ?_
    exact tL_law_22 L xs aU aD aH aN aNk aNn aF aFl aFc aFq aA aAl aAc aAq aC aCt aO aOr aOx aX aXb aXk aXw aM aMk aMj aMc aMw aMr uU uD gB gK nS nK nN fM fL fC fQ wM wL wC wQ cP cW cT oS oR oX xS xB xK xW mN mS mX mT mK mC mW mJ i kc ks hkc hks hG hV hXs hres hX1 hB
  replace hres := z_ifn c22 hres
  by_cases c23 : x9 = 23
  · replace hres := z_ifp c23 hres
    clear hx9
    subst c23
    refine z_tableIn 1399 hG dL_law_44 (by decide) (by decide) rfl (by decide) ?_
    exact tL_law_23 L xs aU aD aH aN aNk aNn aF aFl aFc aFq aA aAl aAc aAq aC aCt aO aOr aOx aX aXb aXk aXw aM aMk aMj aMc aMw aMr uU uD gB gK nS nK nN fM fL fC fQ wM wL wC wQ cP cW cT oS oR oX xS xB xK xW mN mS mX mT mK mC mW mJ i kc ks hkc hks hG hV hXs hres hX1 hB
  replace hres := z_ifn c23 hres
  by_cases c24 : x9 = 24
  · replace hres := z_ifp c24 hres
    clear hx9
    subst c24
    refine z_tableIn 1443 hG dL_law_44 (by decide) (by decide) rfl (by decide) ?_
    exact tL_law_24 L xs aU aD aH aN aNk aNn aF aFl aFc aFq aA aAl aAc aAq aC aCt aO aOr aOx aX aXb aXk aXw aM aMk aMj aMc aMw aMr uU uD gB gK nS nK nN fM fL fC fQ wM wL wC wQ cP cW cT oS oR oX xS xB xK xW mN mS mX mT mK mC mW mJ i kc ks hkc hks hG hV hXs hres hX1 hB
  replace hres := z_ifn c24 hres
  by_cases c25 : x9 = 25
  · replace hres := z_ifp c25 hres
    clear hx9
    subst c25
    refine z_tableIn 1499 hG dL_law_44 (by decide) (by decide) rfl (by decide) ?_
    exact tL_law_25 L xs aU aD aH aN aNk aNn aF aFl aFc aFq aA aAl aAc aAq aC aCt aO aOr aOx aX aXb aXk aXw aM aMk aMj aMc aMw aMr uU uD gB gK nS nK nN fM fL fC fQ wM wL wC wQ cP cW cT oS oR oX xS xB xK xW mN mS mX mT mK mC mW mJ i kc ks hkc hks hG hV hXs hres hX1 hB
  replace hres := z_ifn c25 hres
  by_cases c26 : x9 = 26
  · replace hres := z_ifp c26 hres
    clear hx9
    subst c26
    refine z_tableIn 1555 hG dL_law_44 (by decide) (by decide) rfl (by decide) ?_
    exact tL_law_26 L xs aU aD aH aN aNk aNn aF aFl aFc aFq aA aAl aAc aAq aC aCt aO aOr aOx aX aXb aXk aXw aM aMk aMj aMc aMw aMr uU uD gB gK nS nK nN fM fL fC fQ wM wL wC wQ cP cW cT oS oR oX xS xB xK xW mN mS mX mT mK mC mW mJ i kc ks hkc hks hG hV hXs hres hX1 hB
  replace hres := z_ifn c26 hres
  by_cases c27 : x9 = 27
  · replace hres := z_ifp c27 hres
    clear hx9
    subst c27
    refine z_tableIn 1611 hG dL_law_44 (by decide) (by decide) rfl (by decide) ?_
    exact tL_law_27 L xs aU aD aH aN aNk aNn aF aFl aFc aFq aA aAl aAc aAq aC aCt aO aOr aOx aX aXb aXk aXw aM aMk aMj aMc aMw aMr uU uD gB gK nS nK nN fM fL fC fQ wM wL wC wQ cP cW cT oS oR oX xS xB xK xW mN mS mX mT mK mC mW mJ i kc ks hkc hks hG hV hXs hres hX1 hB
  replace hres := z_ifn c27 hres
  by_cases c28 : x9 = 28
  · replace hres := z_ifp c28 hres
    clear hx9
    subst c28
    refine z_tableIn 1624 hG dL_law_44 (by decide) (by decide) rfl (by decide) ?_
    exact tL_law_28 L xs aU aD aH aN aNk aNn aF aFl aFc aFq aA aAl aAc aAq aC aCt aO aOr aOx aX aXb aXk aXw aM aMk aMj aMc aMw aMr uU uD gB gK nS nK nN fM fL fC fQ wM wL wC wQ cP cW cT oS oR oX xS xB xK xW mN mS mX mT mK mC mW mJ i kc ks hkc hks hG hV hXs hres hX1 hB
  replace hres := z_ifn c28 hres
  refine z_tableOut 1638 hG dL_law_44 (z_sw31 hx9 c0 c1 c2 c3 c4 c5 c6 c7 c8 c9 c10 c11 c12 c13 c14 c15 c16 c17 c18 c19 c20 c21 c22 c23 c24 c25 c26 c27 c28) (by decide) ?_
  refine z_iinc (i + 4) (lv' := [(5, .int (i + 4)), (0, .ref b), (1, .ref aH), (2, .ref aM), (3, .ref aU), (4, .ref aD)]) hG dL_law_1638 5 rfl rfl (by decide) rfl ?_
  refine z_goto 28 hG dL_law_1641 (by decide) ?_
  exact z_lv [1, 2, 3, 4, 5, 0] rfl (z_wid (by omega) (by omega) (hB uU uD gB gK nS nK nN fM fL fC fQ wM wL wC wQ cP cW cT oS oR oX xS xB xK xW mN mS mX mT mK mC mW mJ (i + 4) (Option.some.inj hres).symm))
