/-! PURE: what isTrue checks of the layers holds -/
theorem pct_pos {p : Nat → Bool} {i n : Nat} (h : i < n) (h1 : p i = true) : 0 < pct p n := by
  have h2 := pct_one (p := fun j => if j = i then false else p j) (q := p) h (by simp) h1 (fun j _ hj => by simp [hj])
  omega
theorem near1 : ∀ k, k < 12 → ∀ j, j < 12 → k ≤ j + 1 → j ≤ k + 1 → ¬ (1 : Int32) < (if 0 ≤ (nI k - nI j) then (nI k - nI j) else 0 - (nI k - nI j)) := by decide
theorem c_near {n s i j : Nat} {nN fL : Nat → Int32} (hN : nOK n nN) (hs : s < n) (hi : i < n) (hj : j < n) (ha : bt (nN i) j = true) (hF : ∀ v, v < 12 → fL v = enc (bD n (zA nN) s v)) : fX5_isSameOrNextLayer fL (nI i) (nI j) = some 1 := by
  have hn := hN.1
  have hL := (bF_lay (a := zA nN) hs).2.2.2
  have ha2 : zA nN j i = true := by rw [hN.2.2.1 j i hj hi]; exact ha
  have zi : zin (nI i) 12 := p_in (by omega) (by omega)
  have zj : zin (nI j) 12 := p_in (by omega) (by omega)
  unfold fX5_isSameOrNextLayer
  simp only [p_cl (i := i) (by omega), p_cl (i := j) (by omega)]
  rw [if_pos zi, if_pos zj, hF i (by omega), hF j (by omega)]
  cases h1 : bD n (zA nN) s i with
  | none =>
    cases h2 : bD n (zA nN) s j with
    | none => rw [if_pos enc_n, if_pos rfl]
    | some k =>
      obtain ⟨k', -, g⟩ := hL j i k hj hi ha2 h2
      have g : bD n (zA nN) s i = some k' := g
      rw [h1] at g
      cases g
  | some k =>
    obtain ⟨k', g1, g2⟩ := hL i j k hi hj ha h1
    have g2 : bD n (zA nN) s j = some k' := g2
    obtain ⟨k'', g3, g4⟩ := hL j i k' hj hi ha2 g2
    have g4 : bD n (zA nN) s i = some k'' := g4
    rw [h1] at g4
    cases g4
    have b1 := bD_le hs hi h1
    have b2 := bD_le hs hj g2
    rw [g2, if_neg (enc_m1 (k := k) (by omega)), if_neg (enc_m1 (k := k') (by omega))]
    exact if_neg (near1 k (by omega) k' (by omega) (by omega) (by omega))
theorem c_keep {n s : Nat} {nN fL : Nat → Int32} (hN : nOK n nN) (hs : s < n) (hF : ∀ v, v < 12 → fL v = enc (bD n (zA nN) s v)) : fX5_streetsKeepLayers (nI n) nN fL = some 1 := by
  have hn := hN.1
  have hin : ∀ i, i < n → zloop (sX5_streetsKeepLayers_15 nN fL (nI i)) 32 0 = some (.inr (nI i)) := by
    intro i hi
    refine p_for (fun j => nI j) i (fun j hj => ?_) ?_ (by omega) rfl
    · dsimp only [sX5_streetsKeepLayers_15]
      rw [if_neg (nI_ge hj (by omega))]
      cases ha : bt (nN i) j with
      | false => rw [p_joins0 (by omega) (by omega) ha, ob, if_pos rfl, nI_1]
      | true => rw [p_joins1 (by omega) (by omega) ha, ob, if_neg (by decide), c_near hN hs hi (by omega) ha hF, ob, if_neg (by decide), nI_1]
    · dsimp only [sX5_streetsKeepLayers_15]
      rw [if_pos (nI_le (Nat.le_refl i) (by omega))]
  have hout : zloop (sX5_streetsKeepLayers_2 (nI n) nN fL) 32 0 = some (.inr (nI n)) := by
    refine p_for (fun i => nI i) n (fun i hi => ?_) ?_ (by omega) rfl
    · dsimp only [sX5_streetsKeepLayers_2]
      rw [if_neg (nI_ge hi (by omega)), hin i hi, ob]
      show some (Sum.inr (nI i + 1)) = _
      rw [nI_1]
    · dsimp only [sX5_streetsKeepLayers_2]
      rw [if_pos (nI_le (Nat.le_refl n) (by omega))]
  unfold fX5_streetsKeepLayers
  rw [hout, ob]
  rfl
theorem c_fed {n s v k : Nat} {nN fL fC : Nat → Int32} (hN : nOK n nN) (hs : s < n) (hv : v < n) (hF : ∀ v, v < 12 → fL v = enc (bD n (zA nN) s v)) (hC : ∀ v, v < 12 → fC v = nI (bW n (zA nN) s v)) (hk : bD n (zA nN) s v = some (k + 1)) : fX5_isFedByLayerBefore (nI n) nN fL fC (nI v) = some 1 := by
  have hn := hN.1
  have hkn := bD_le hs hv hk
  have zv : zin (nI v) 12 := p_in (by omega) (by omega)
  have h : zloop (sX5_isFedByLayerBefore_7 (nI n) nN fL fC (nI v)) 32 (0, 0, 0) = some (nI (pct (fun u => zA nN v u && decide (bD n (zA nN) s u = some k)) n), nI (psum (fun u => if zA nN v u = true ∧ bD n (zA nN) s u = some k then bW n (zA nN) s u else 0) n), nI n) := by
    refine p_for (fun i => (nI (pct (fun u => zA nN v u && decide (bD n (zA nN) s u = some k)) i), nI (psum (fun u => if zA nN v u = true ∧ bD n (zA nN) s u = some k then bW n (zA nN) s u else 0) i), nI i)) n (fun i hi => ?_) ?_ (by omega) rfl
    · have zi : zin (nI i) 12 := p_in (by omega) (by omega)
      have e1 : fL v - 1 = nI k := by
        rw [hF v (by omega), hk]
        exact nI_pred k
      have e2 : fL i = nI k ↔ bD n (zA nN) s i = some k := by
        rw [hF i (by omega)]
        exact enc_inj (y := some k) (fun r e => by have := bD_le hs hi e; omega) (fun r e => by cases e; omega)
      dsimp only [sX5_isFedByLayerBefore_7]
      simp only [p_cl (i := i) (by omega), p_cl (i := v) (by omega)]
      rw [if_neg (nI_ge hi (by omega)), pct, psum]
      cases ha : bt (nN v) i with
      | false =>
        have ha' : zA nN v i = false := ha
        rw [p_joins0 (by omega) (by omega) ha, ob, if_pos rfl, nI_1, ha', if_neg (show ¬ (false = true ∧ bD n (zA nN) s i = some k) from fun g => by cases g.1)]
        rfl
      | true =>
        have ha' : zA nN v i = true := ha
        rw [p_joins1 (by omega) (by omega) ha, ob, if_neg (by decide), if_pos zi, if_pos zv, e1]
        by_cases hb : bD n (zA nN) s i = some k
        · rw [if_pos (e2.mpr hb), if_pos zi, hC i (by omega), nI_1, nI_1, nI_add, ha', decide_eq_true hb, if_pos (show true = true ∧ bD n (zA nN) s i = some k from ⟨rfl, hb⟩)]
          rfl
        · rw [if_neg (fun g => hb (e2.mp g)), nI_1, ha', decide_eq_false hb, if_neg (show ¬ (true = true ∧ bD n (zA nN) s i = some k) from fun g => hb g.2)]
          rfl
    · dsimp only [sX5_isFedByLayerBefore_7]
      rw [if_pos (nI_le (Nat.le_refl n) (by omega))]
  unfold fX5_isFedByLayerBefore
  rw [h, ob]
  dsimp only
  obtain ⟨u, hu, ha, hb⟩ := (bF_lay (a := zA nN) hs).2.2.1 v k hv hk
  have hb : bD n (zA nN) s u = some k := hb
  have hp := pct_pos (p := fun u => zA nN v u && decide (bD n (zA nN) s u = some k)) hu (by rw [hN.2.2.1 v u hv hu, ha, decide_eq_true hb]; rfl)
  have hle := pct_le (fun u => zA nN v u && decide (bD n (zA nN) s u = some k)) n
  rw [if_neg (nI_nle hp (by omega)), if_pos zv]
  simp only [p_cl (i := v) (by omega)]
  rw [hC v (by omega)]
  have hsum : psum (fun u => if zA nN v u = true ∧ bD n (zA nN) s u = some k then bW n (zA nN) s u else 0) n = bW n (zA nN) s v := by
    have := (bF_cnt (a := zA nN) hs).2.1 v k hv hk
    show _ = (bF n (zA nN) s).2.2.1 v
    rw [this]
    refine psum_cong (fun w hw => ?_)
    rw [hN.2.2.1 v w hv hw]
    rfl
  rw [hsum, if_pos rfl]
theorem c_add {n s : Nat} {nN fL fC : Nat → Int32} (hN : nOK n nN) (hs : s < n) (hF : ∀ v, v < 12 → fL v = enc (bD n (zA nN) s v)) (hC : ∀ v, v < 12 → fC v = nI (bW n (zA nN) s v)) : fX5_waysAddUp (nI n) nN fL fC = some 1 := by
  have hn := hN.1
  have hout : zloop (sX5_waysAddUp_2 (nI n) nN fL fC) 32 0 = some (.inr (nI n)) := by
    refine p_for (fun i => nI i) n (fun i hi => ?_) ?_ (by omega) rfl
    · have zi : zin (nI i) 12 := p_in (by omega) (by omega)
      dsimp only [sX5_waysAddUp_2]
      simp only [p_cl (i := i) (by omega)]
      rw [if_neg (nI_ge hi (by omega)), if_pos zi, hF i (by omega)]
      cases hb : bD n (zA nN) s i with
      | none => rw [if_pos (show enc none ≤ 0 by decide), nI_1]
      | some k =>
        have hkn := bD_le hs hi hb
        cases k with
        | zero => rw [if_pos (show enc (some 0) ≤ 0 by decide), nI_1]
        | succ k => rw [if_neg (show ¬ enc (some (k + 1)) ≤ 0 from nI_nle (by omega) (by omega)), c_fed hN hs hi hF hC hb, ob, if_neg (by decide), nI_1]
    · dsimp only [sX5_waysAddUp_2]
      rw [if_pos (nI_le (Nat.le_refl n) (by omega))]
  unfold fX5_waysAddUp
  rw [hout, ob]
  rfl
theorem c_rise {n s : Nat} {nN : Nat → Int32} {fM : Int32} {fL fC fQ : Nat → Int32} (hN : nOK n nN) (hs : s < n) (hF : cR (bF n (zA nN) s) fM fL fC fQ) : fX5_lengthsRise fM fL fQ = some 1 := by
  have hn := hN.1
  have I := bF_inv (a := zA nN) hs
  have hc := bI_le I
  obtain ⟨rfl, r2, r3, r4⟩ := hF
  have hc1 : 0 < (bF n (zA nN) s).1 := I.2.2.2.2.2.2.2.2.2.1.2.2.2.1
  have hout : zloop (sX5_lengthsRise_2 (nI (bF n (zA nN) s).1) fL fQ) 32 1 = some (.inr (nI (bF n (zA nN) s).1)) := by
    refine p_for (fun i => nI (i + 1)) ((bF n (zA nN) s).1 - 1) (fun i hi => ?_) ?_ (by omega) rfl
    · obtain ⟨a1, k1, b1⟩ := I.2.2.1 i (by omega)
      obtain ⟨a2, k2, b2⟩ := I.2.2.1 (i + 1) (by omega)
      have hk := I.2.2.2.2.1 i (i + 1) k1 k2 (by omega) (by omega) b1 b2
      have l1 := bI_lt I a1 b1
      have l2 := bI_lt I a2 b2
      dsimp only [sX5_lengthsRise_2]
      rw [if_neg (nI_ge (a := i + 1) (by omega) (by omega)), nI_pred, if_pos (p_in (by omega) (by omega)), if_pos (p_in (by omega) (by omega))]
      simp only [p_cl (i := i) (by omega), p_cl (i := i + 1) (by omega)]
      rw [r4 i (by omega), r4 (i + 1) (by omega), if_pos (p_in (by omega) (by omega)), if_pos (p_in (by omega) (by omega))]
      simp only [p_cl (i := (bF n (zA nN) s).2.2.2 i) (by omega), p_cl (i := (bF n (zA nN) s).2.2.2 (i + 1)) (by omega)]
      rw [r2 _ (by omega), r2 _ (by omega), b1, b2, if_pos (show enc (some k1) ≤ enc (some k2) from nI_le hk (by omega)), nI_1]
    · dsimp only [sX5_lengthsRise_2]
      rw [if_pos (nI_le (by omega) (by omega)), show (bF n (zA nN) s).1 - 1 + 1 = (bF n (zA nN) s).1 by omega]
  unfold fX5_lengthsRise
  rw [hout, ob]
  rfl
