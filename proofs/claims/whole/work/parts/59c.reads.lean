/-! PURE: the calls that only read, both sides: on all ways, the numbered way, the mean -/
section LQ2
variable {n : Nat} {so : Option Nat} {gB gK : Int32} {nK nN : Nat → Int32} {fM : Int32} {fL fC fQ : Nat → Int32} {mK : Nat → Int32} {mJ : Nat → Nat → Int32}
theorem nw0 {i : Nat} (hi : i < 12) (h : fL i = -1) : fX5_needWay fL (nI i) = some (.inl "java/lang/UnsupportedOperationException") := by
  unfold fX5_needWay
  rw [if_pos (p_in (by omega) (by omega)), p_cl (i := i) (by omega), if_pos h]
theorem nw1 {i : Nat} (hi : i < 12) (h : fL i ≠ -1) : fX5_needWay fL (nI i) = some (.inr ()) := by
  unfold fX5_needWay
  rw [if_pos (p_in (by omega) (by omega)), p_cl (i := i) (by omega), if_neg h]
theorem q_isOnAll (R : lR n so gB gK nK nN fM fL fC fQ mK mJ) (uU : Nat → Int64) (wM : Int32) (wL wC wQ : Nat → Int32) (p0 p1 : Int32) : ∃ r s, fL_isOnAll uU gB (nI n) nK nN fL fC wM wL wC wQ p0 p1 = some r ∧ fX6_isOnAll (nI n) (enc so) mK mJ p0 p1 = some s ∧ s.2 = r.1 ∧ (r.1 = 0 → s.1 = 0 → lg_cmp (r.2.1 (0 : Int32).toNatClampNeg) 0 = 0) ∧ (r.1 = 0 → s.1 ≠ 0 → lg_cmp (r.2.1 (0 : Int32).toNatClampNeg) 1 = 0) := by
  have hn := R.1.1
  have hst := R.st
  rcases q_key (key := p0) hn R.2.2.1 with ⟨i, hi, hk, k1, k2, k3, k4⟩ | ⟨h, k1, k2, k3, k4⟩
  · rcases q_key (key := p1) hn R.2.2.1 with ⟨j, hj, hk', l1, l2, l3, l4⟩ | ⟨h, l1, l2, l3, l4⟩
    · cases so with
      | none =>
        refine ⟨(2, uU, wM, wL, wC, wQ), (0, 2), ?_, ?_, rfl, fun e => absurd e n2, fun e => absurd e n2⟩
        · simp only [fL_isOnAll, fX5_isOnAll, k1, l1, ob, Sum.elim_inr, Sum.elim_inl, R.B0, ns0, s_sn, eq_self, if_false, if_true]
        · simp only [fX6_isOnAll, k3, l3, hst, ob, i10, if_false, stI_n, p_can02, eq_self, if_true]
      | some s =>
        have hs := R.s s rfl
        have zi : zin (nI i) 12 := p_in (by omega) (by omega)
        have hL := (R.L i hi).1
        have hC : fC i = nI (bW n (zA nN) s i) := (R.L i hi).2
        have hL : fL i = enc (bD n (zA nN) s i) := hL
        have w2 : fX6_allWays (nI n) (enc (some s)) mJ (nI i) = _ := r_allWays hn R.2.1 hs hi
        cases hd : bD n (zA nN) s i with
        | none =>
          rw [hd] at hL
          have hz := bW_0 hs hi hd
          refine ⟨(3, uU, wM, wL, wC, wQ), (0, 3), ?_, ?_, rfl, fun e => absurd e n3, fun e => absurd e n3⟩
          · simp only [fL_isOnAll, fX5_isOnAll, k1, l1, ob, Sum.elim_inr, Sum.elim_inl, R.B1, ns1, nw0 (fL := fL) (i := i) (by omega) hL, s_un, s_us, eq_self, if_false, if_true]
          · simp only [fX6_isOnAll, k3, k4, l3, hst, ob, i10, if_false, stI_s, p_can1, w2]
            rw [hz, if_pos (show nI 0 ≤ 0 by decide), ob, p_can03, ob]
            simp only [eq_self, if_true]
        | some t =>
          rw [hd] at hL
          have hdn := bD_le hs hi hd
          have hp := Cnt.pos hs hi hd
          have hle := bW_le (a := zA nN) hn hs hi
          have hL : fL i ≠ -1 := by
            rw [hL]
            exact enc_m1 (by omega)
          obtain ⟨v, v1, v2⟩ := c_spread (nN := nN) hn hi wL wC wQ
          have t1 := c_through (via := j) hn R.1.2.2.1 hs hi hj R.F v2
          have t2 : fX6_throughs (nI n) (enc (some s)) mJ (nI i) (nI j) = _ := r_throughs hn R.2.1 hs hi hj
          by_cases e : nI (thr n (zA nN) s i j) = nI (bW n (zA nN) s i)
          · refine ⟨(0, vp_updL uU (0 : Int32).toNatClampNeg 1, v.1, v.2.1, v.2.2.1, v.2.2.2), (1, 0), ?_, ?_, rfl, fun _ e => absurd e n1, fun _ _ => lA_okL (uU := uU)⟩
            · simp only [fL_isOnAll, fX5_isOnAll, k1, l1, ob, Sum.elim_inr, R.B1, ns1, nw1 (fL := fL) (i := i) (by omega) hL, v1, t1]
              rw [if_pos zi, p_cl (i := i) (by omega), hC, if_pos e, ob]
              simp only [Sum.elim_inr, i10, if_false]
            · simp only [fX6_isOnAll, k3, k4, l3, l4, hst, ob, i10, if_false, stI_s, p_can1, w2]
              rw [if_neg (nI_nle hp (by omega)), ob, p_can1, ob]
              simp only [i10, if_false, t2, ob]
              rw [if_pos e]
          · refine ⟨(0, vp_updL uU (0 : Int32).toNatClampNeg 0, v.1, v.2.1, v.2.2.1, v.2.2.2), (0, 0), ?_, ?_, rfl, fun _ _ => lA_okL (uU := uU), fun _ e => absurd rfl e⟩
            · simp only [fL_isOnAll, fX5_isOnAll, k1, l1, ob, Sum.elim_inr, R.B1, ns1, nw1 (fL := fL) (i := i) (by omega) hL, v1, t1]
              rw [if_pos zi, p_cl (i := i) (by omega), hC, if_neg e, ob]
              simp only [Sum.elim_inr, eq_self, if_true]
            · simp only [fX6_isOnAll, k3, k4, l3, l4, hst, ob, i10, if_false, stI_s, p_can1, w2]
              rw [if_neg (nI_nle hp (by omega)), ob, p_can1, ob]
              simp only [i10, if_false, t2, ob]
              rw [if_neg e]
    · refine ⟨(1, uU, wM, wL, wC, wQ), (0, 1), ?_, ?_, rfl, fun e => absurd e n1, fun e => absurd e n1⟩
      · simp only [fL_isOnAll, fX5_isOnAll, k1, l1, ob, Sum.elim_inr, Sum.elim_inl, eq_self, if_true]
      · simp only [fX6_isOnAll, k3, l3, hst, ob, i10, if_false, eq_self, if_true, p_can01]
  · refine ⟨(1, uU, wM, wL, wC, wQ), (0, 1), ?_, ?_, rfl, fun e => absurd e n1, fun e => absurd e n1⟩
    · simp only [fL_isOnAll, fX5_isOnAll, k1, ob, Sum.elim_inl, eq_self, if_true]
    · simp only [fX6_isOnAll, k3, hst, ob, eq_self, if_true, p_can01]
def thP (n : Nat) (a : Nat → Nat → Bool) (s i v : Nat) : Bool := decide (nI (thr n a s i v) = nI (bW n a s i))
theorem thP_1 {a : Nat → Nat → Bool} {s i k : Nat} (e : nI (thr n a s i k) = nI (bW n a s i)) : pct (thP n a s i) (k + 1) = pct (thP n a s i) k + 1 := by
  rw [pct, if_pos (show thP n a s i k = true from decide_eq_true e)]
theorem thP_0 {a : Nat → Nat → Bool} {s i k : Nat} (e : ¬ nI (thr n a s i k) = nI (bW n a s i)) : pct (thP n a s i) (k + 1) = pct (thP n a s i) k := by
  rw [pct, if_neg (by rw [show thP n a s i k = false from decide_eq_false e]; exact p_ff), Nat.add_zero]
theorem c_onAll {s i : Nat} (hn : n ≤ 12) (hsym : Gsym n (zA nN)) (hs : s < n) (hi : i < n) {v : Int32 × (Nat → Int32) × (Nat → Int32) × (Nat → Int32)} (hF : cR (bF n (zA nN) s) fM fL fC fQ) (hW : cR (bF n (zA nN) i) v.1 v.2.1 v.2.2.1 v.2.2.2) : zloop (sX5_onAll_32 (nI n) fL fC (nI i) v) 32 (0, 0) = some (nI (pct (thP n (zA nN) s i) n), nI n) := by
  have zi : zin (nI i) 12 := p_in (by omega) (by omega)
  have hC : fC i = nI (bW n (zA nN) s i) := hF.2.2.1 i (by omega)
  refine p_for (fun k => (nI (pct (thP n (zA nN) s i) k), nI k)) n (fun k hk => ?_) ?_ (by omega) rfl
  · dsimp only [sX5_onAll_32]
    rw [if_neg (nI_ge hk (by omega)), c_through (via := k) hn hsym hs hi hk hF hW, ob, if_pos zi, p_cl (i := i) (by omega), hC]
    by_cases e : nI (thr n (zA nN) s i k) = nI (bW n (zA nN) s i)
    · rw [if_pos e, nI_1, nI_1, thP_1 e]
    · rw [if_neg e, nI_1, thP_0 e]
  · dsimp only [sX5_onAll_32]
    rw [if_pos (nI_le (Nat.le_refl n) (by omega))]
theorem r_onAll {s i : Nat} {p : Int32} (hn : n ≤ 12) (hJ : mJR n (zA nN) mJ) (hs : s < n) (hi : i < n) (hat : fX6_at (nI n) mK p = some (nI i)) : zloop (sX6_onAll_57 (nI n) (nI s) mK mJ p) 32 (0, 0) = some (nI (pct (thP n (zA nN) s i) n), nI n) := by
  refine p_for (fun k => (nI (pct (thP n (zA nN) s i) k), nI k)) n (fun k hk => ?_) ?_ (by omega) rfl
  · dsimp only [sX6_onAll_57]
    rw [if_neg (nI_ge hk (by omega)), hat, ob, r_throughs hn hJ hs hi hk, ob, ob, r_allWays hn hJ hs hi, ob]
    by_cases e : nI (thr n (zA nN) s i k) = nI (bW n (zA nN) s i)
    · rw [if_pos e, nI_1, nI_1, thP_1 e]
    · rw [if_neg e, nI_1, nI_z, thP_0 e]
  · dsimp only [sX6_onAll_57]
    rw [if_pos (nI_le (Nat.le_refl n) (by omega))]
theorem q_onAll (R : lR n so gB gK nK nN fM fL fC fQ mK mJ) (uU : Nat → Int64) (wM : Int32) (wL wC wQ : Nat → Int32) (p0 : Int32) : ∃ r s, fL_onAll uU gB (nI n) nK nN fL fC wM wL wC wQ p0 = some r ∧ fX6_onAll (nI n) (enc so) mK mJ p0 = some s ∧ s.2 = r.1 ∧ (r.1 = 0 → lg_cmp (r.2.1 (0 : Int32).toNatClampNeg) s.1.toInt64 = 0) := by
  have hn := R.1.1
  have hst := R.st
  rcases q_key (key := p0) hn R.2.2.1 with ⟨i, hi, hk, k1, k2, k3, k4⟩ | ⟨h, k1, k2, k3, k4⟩
  · cases so with
    | none =>
      refine ⟨(2, uU, wM, wL, wC, wQ), (0, 2), ?_, ?_, rfl, fun e => absurd e n2⟩
      · simp only [fL_onAll, fX5_onAll, k1, ob, Sum.elim_inr, Sum.elim_inl, R.B0, ns0, s_sn, eq_self, if_false, if_true]
      · simp only [fX6_onAll, k3, hst, ob, i10, if_false, stI_n, p_can02, eq_self, if_true]
    | some s =>
      have hs := R.s s rfl
      have hL : fL i = enc (bD n (zA nN) s i) := (R.L i hi).1
      have w2 : fX6_allWays (nI n) (enc (some s)) mJ (nI i) = _ := r_allWays hn R.2.1 hs hi
      cases hd : bD n (zA nN) s i with
      | none =>
        rw [hd] at hL
        have hz := bW_0 hs hi hd
        refine ⟨(3, uU, wM, wL, wC, wQ), (0, 3), ?_, ?_, rfl, fun e => absurd e n3⟩
        · simp only [fL_onAll, fX5_onAll, k1, ob, Sum.elim_inr, Sum.elim_inl, R.B1, ns1, nw0 (fL := fL) (i := i) (by omega) hL, s_un, s_us, eq_self, if_false, if_true]
        · simp only [fX6_onAll, k3, k4, hst, ob, i10, if_false, stI_s, p_can1, w2]
          rw [hz, if_pos (show nI 0 ≤ 0 by decide), ob, p_can03, ob]
          simp only [eq_self, if_true]
      | some t =>
        rw [hd] at hL
        have hdn := bD_le hs hi hd
        have hp := Cnt.pos hs hi hd
        have hle := bW_le (a := zA nN) hn hs hi
        have hL : fL i ≠ -1 := by
          rw [hL]
          exact enc_m1 (by omega)
        obtain ⟨v, v1, v2⟩ := c_spread (nN := nN) hn hi wL wC wQ
        have t1 := c_onAll hn R.1.2.2.1 hs hi R.F v2
        have t2 : zloop (sX6_onAll_57 (nI n) (enc (some s)) mK mJ p0) 32 (0, 0) = _ := r_onAll hn R.2.1 hs hi k4
        refine ⟨(0, vp_updL uU (0 : Int32).toNatClampNeg (nI (pct (thP n (zA nN) s i) n)).toInt64, v.1, v.2.1, v.2.2.1, v.2.2.2), (nI (pct (thP n (zA nN) s i) n), 0), ?_, ?_, rfl, fun _ => lA_ok (uU := uU) rfl⟩
        · simp only [fL_onAll, fX5_onAll, k1, ob, Sum.elim_inr, R.B1, ns1, nw1 (fL := fL) (i := i) (by omega) hL, v1, t1]
        · simp only [fX6_onAll, k3, k4, hst, ob, i10, if_false, stI_s, p_can1, w2]
          rw [if_neg (nI_nle hp (by omega)), ob, p_can1, ob]
          simp only [i10, if_false, t2, ob]
  · refine ⟨(1, uU, wM, wL, wC, wQ), (0, 1), ?_, ?_, rfl, fun e => absurd e n1⟩
    · simp only [fL_onAll, fX5_onAll, k1, ob, Sum.elim_inl, eq_self, if_true]
    · simp only [fX6_onAll, k3, hst, ob, eq_self, if_true, p_can01]
theorem q_wayAt (R : lR n so gB gK nK nN fM fL fC fQ mK mJ) (uU : Nat → Int64) (wM : Int32) (wL wC wQ : Nat → Int32) (p0 p1 p2 : Int32) : ∃ r s, fL_wayAt uU gB (nI n) nK nN fL fC fQ wM wL wC wQ p0 p1 p2 = some r ∧ fX6_wayAt (nI n) (enc so) mK mJ p0 p1 p2 = some s ∧ s.2 = r.1 ∧ (r.1 = 0 → lg_cmp (r.2.1 (0 : Int32).toNatClampNeg) s.1.toInt64 = 0) := by
  have hn := R.1.1
  have hst := R.st
  rcases q_key (key := p0) hn R.2.2.1 with ⟨i, hi, hk, k1, k2, k3, k4⟩ | ⟨h, k1, k2, k3, k4⟩
  · cases so with
    | none =>
      refine ⟨(2, uU, wM, wL, wC, wQ), (0, 2), ?_, ?_, rfl, fun e => absurd e n2⟩
      · simp only [fL_wayAt, fX5_wayAt, k1, ob, Sum.elim_inr, Sum.elim_inl, R.B0, ns0, s_sn, eq_self, if_false, if_true]
      · simp only [fX6_wayAt, k3, hst, ob, i10, if_false, stI_n, p_can02, eq_self, if_true]
    | some s =>
      have hs := R.s s rfl
      have hB := R.B1
      have hF := R.F
      have zi : zin (nI i) 12 := p_in (by omega) (by omega)
      have zs : zin (enc (some s)) 12 := p_in (i := s) (by omega) (by omega)
      have es : (enc (some s)).toNatClampNeg = s := p_cl (i := s) (by omega)
      have hL : fL i = enc (bD n (zA nN) s i) := (R.L i hi).1
      have hC : fC i = nI (bW n (zA nN) s i) := (R.L i hi).2
      have hle := bW_le (a := zA nN) hn hs hi
      obtain ⟨len, l1, l2⟩ := r_lengths hn R.2.1 R.s
      obtain ⟨w, w1, w2⟩ := r_onward (to := i) hn R.2.1 (bFO_LP R.s) l2 hi
      have hw : w s = nI (bW n (zA nN) s i) := (w2 s hs).trans (congrArg nI (onw_start hs hi))
      have l2i : len i = enc (bD n (zA nN) s i) := l2 i hi
      by_cases h0 : p1 < 0
      · refine ⟨(3, uU, wM, wL, wC, wQ), (0, 3), ?_, ?_, rfl, fun e => absurd e n3⟩
        · simp only [fL_wayAt, fX5_wayAt, k1, ob, Sum.elim_inr, hB, ns1]
          rw [if_pos h0, ob]
          simp only [Sum.elim_inl, s_on, s_os, eq_self, if_false, if_true]
        · simp only [fX6_wayAt, k3, k4, hst, ob, i10, if_false, stI_s, p_can1, l1, w1]
          rw [if_pos h0, ob, p_can03, ob]
          simp only [eq_self, if_true]
      · obtain ⟨x, hx, rfl⟩ := nI_of h0
        by_cases h1 : x < bW n (zA nN) s i
        · by_cases h2 : p2 < 0
          · refine ⟨(3, uU, wM, wL, wC, wQ), (0, 3), ?_, ?_, rfl, fun e => absurd e n3⟩
            · simp only [fL_wayAt, fX5_wayAt, k1, ob, Sum.elim_inr, hB, ns1]
              rw [if_neg h0, if_pos zi]
              simp only [p_cl (i := i) (by omega)]
              rw [hC, if_pos (nI_lt h1 (by omega)), if_pos h2, ob]
              simp only [Sum.elim_inl, s_on, s_os, eq_self, if_false, if_true]
            · simp only [fX6_wayAt, k3, k4, hst, ob, i10, if_false, stI_s, p_can1, l1, w1]
              rw [if_neg h0, if_pos zs, es, hw, if_neg (nI_ge h1 (by omega)), if_pos h2, ob, p_can03, ob]
              simp only [eq_self, if_true]
          · obtain ⟨y, hy, rfl⟩ := nI_of h2
            cases hd : bD n (zA nN) s i with
            | none =>
              have hz := bW_0 hs hi hd
              omega
            | some t =>
              rw [hd] at hL l2i
              have hdn := bD_le hs hi hd
              by_cases h3 : y ≤ t
              · obtain ⟨v, v1, v2⟩ := c_spread (nN := nN) hn hi wL wC wQ
                have hI := (bF_inv (n := n) (a := zA nN) hs).2.2.2.2.2.2.2.2.2.1
                have hq0 : fQ 0 = nI s := (hF.2.2.2 0 hI.2.2.2.1).trans (congrArg nI hI.2.2.1)
                have g1 := c_goAlong hn R.1.2.2.1 hs hi hd h1 h3 hq0 v2
                obtain ⟨y1, z1, g2⟩ := r_way hn R.2.1 R.1.2.2.1 hs hi hd h1 h3 l2 w2
                have hwy := (wy_inv (num := x) R.1.2.2.1 hs hi hd h1 y h3).1
                have zw : zin (nI (wy n (zA nN) s i x y).1) 12 := p_in (by omega) (by omega)
                refine ⟨(0, vp_updL uU (0 : Int32).toNatClampNeg (nK (wy n (zA nN) s i x y).1).toInt64, v.1, v.2.1, v.2.2.1, v.2.2.2), (mK (wy n (zA nN) s i x y).1, 0), ?_, ?_, rfl, fun _ => lA_ok (uU := uU) (R.2.2.1 _ hwy).symm⟩
                · simp only [fL_wayAt, fX5_wayAt, k1, ob, Sum.elim_inr, hB, ns1, v1, g1]
                  rw [if_neg h0, if_pos zi]
                  simp only [p_cl (i := i) (by omega)]
                  rw [hC, if_pos (nI_lt h1 (by omega)), if_neg h2, if_pos zi, hL, if_pos (show nI y ≤ enc (some t) from nI_le h3 (by omega)), if_pos zw, p_cl (i := (wy n (zA nN) s i x y).1) (by omega), ob]
                  rfl
                · simp only [fX6_wayAt, k3, k4, hst, ob, i10, if_false, stI_s, p_can1, l1, w1]
                  rw [if_neg h0, if_pos zs, es, hw, if_neg (nI_ge h1 (by omega)), if_neg h2, if_pos zi, p_cl (i := i) (by omega), l2i, if_neg (show ¬ enc (some t) < nI y from nI_nlt h3 (by omega)), ob, p_can1, ob]
                  simp only [i10, if_false]
                  rw [show enc (some s) = nI s from rfl, g2, ob, if_pos zw, p_cl (i := (wy n (zA nN) s i x y).1) (by omega)]
              · refine ⟨(3, uU, wM, wL, wC, wQ), (0, 3), ?_, ?_, rfl, fun e => absurd e n3⟩
                · simp only [fL_wayAt, fX5_wayAt, k1, ob, Sum.elim_inr, hB, ns1]
                  rw [if_neg h0, if_pos zi]
                  simp only [p_cl (i := i) (by omega)]
                  rw [hC, if_pos (nI_lt h1 (by omega)), if_neg h2, if_pos zi, hL, if_neg (show ¬ nI y ≤ enc (some t) from nI_ge (by omega) (by omega)), ob]
                  simp only [Sum.elim_inl, s_on, s_os, eq_self, if_false, if_true]
                · simp only [fX6_wayAt, k3, k4, hst, ob, i10, if_false, stI_s, p_can1, l1, w1]
                  rw [if_neg h0, if_pos zs, es, hw, if_neg (nI_ge h1 (by omega)), if_neg h2, if_pos zi, p_cl (i := i) (by omega), l2i, if_pos (show enc (some t) < nI y from nI_lt (by omega) (by omega)), ob, p_can03, ob]
                  simp only [eq_self, if_true]
        · refine ⟨(3, uU, wM, wL, wC, wQ), (0, 3), ?_, ?_, rfl, fun e => absurd e n3⟩
          · simp only [fL_wayAt, fX5_wayAt, k1, ob, Sum.elim_inr, hB, ns1]
            rw [if_neg h0, if_pos zi]
            simp only [p_cl (i := i) (by omega)]
            rw [hC, if_neg (nI_nlt (by omega) (by omega)), ob]
            simp only [Sum.elim_inl, s_on, s_os, eq_self, if_false, if_true]
          · simp only [fX6_wayAt, k3, k4, hst, ob, i10, if_false, stI_s, p_can1, l1, w1]
            rw [if_neg h0, if_pos zs, es, hw, if_pos (nI_le (by omega) (by omega)), ob, p_can03, ob]
            simp only [eq_self, if_true]
  · refine ⟨(1, uU, wM, wL, wC, wQ), (0, 1), ?_, ?_, rfl, fun e => absurd e n1⟩
    · simp only [fL_wayAt, fX5_wayAt, k1, ob, Sum.elim_inl, eq_self, if_true]
    · simp only [fX6_wayAt, k3, hst, ob, eq_self, if_true, p_can01]
theorem fp_ok : ∀ a, a < 133 → ∀ c, c < 12 → ((FP.ddiv (FP.i2d (nI a)) (FP.i2d (nI (c + 1)))) &&& 0x7fffffffffffffff ≤ (0x7ff0000000000000 : UInt64)) ∧ Op.cmpValue (FP.dcmp (FP.ddiv (FP.i2d (nI a)) (FP.i2d (nI (c + 1)))) (FP.ddiv (FP.i2d (nI a)) (FP.i2d (nI (c + 1))))) CmpOp.l = 0 := by decide +kernel
theorem vf_us {uU : Nat → UInt64} {k : Nat} {x : UInt64} : vf_upd uU k x k = x := if_pos rfl
theorem dsum_le {L : Nat → Option Nat} {b : Nat} : ∀ m, (∀ v k, v < m → L v = some k → k ≤ b) → dsum L m ≤ m * b
  | 0, _ => by
    unfold dsum psum
    omega
  | m + 1, h => by
    have ih := dsum_le (L := L) m (fun v k hv => h v k (by omega))
    have e : dsum L (m + 1) = dsum L m + (L m).getD 0 := rfl
    rw [e, Nat.succ_mul]
    cases hL : L m with
    | none => 
      have : (none : Option Nat).getD 0 = 0 := rfl
      omega
    | some k =>
      have := h m k (by omega) hL
      have e2 : (some k).getD 0 = k := rfl
      omega
theorem q_mean (R : lR n so gB gK nK nN fM fL fC fQ mK mJ) (uD : Nat → UInt64) : ∃ r s, fL_mean uD gB (nI n) fL = some r ∧ fX6_mean (nI n) (enc so) mJ = some s ∧ s.2 = r.1 ∧ (r.1 = 0 → Op.cmpValue (FP.dcmp (r.2 (0 : Int32).toNatClampNeg) s.1) CmpOp.l = 0) := by
  have hn := R.1.1
  have hst := R.st
  cases so with
  | none =>
    refine ⟨(1, uD), (FP.dconst0, 1), ?_, ?_, rfl, fun e => absurd e n1⟩
    · simp only [fL_mean, fX5_mean, ob, Sum.elim_inl, R.B0, ns0, eq_self, if_true]
    · simp only [fX6_mean, hst, ob, stI_n, p_can01, eq_self, if_true]
  | some s =>
    have hs := R.s s rfl
    obtain ⟨len, l1, l2⟩ := r_lengths hn R.2.1 R.s
    have hlt : ∀ v k, v < n → (bF n (zA nN) s).2.1 v = some k → k < 100 := fun v k hv h => by
      have h1 : k + 1 ≤ n := bD_le hs hv h
      omega
    obtain ⟨z, g1⟩ := c_mean (pL := fL) (L := (bF n (zA nN) s).2.1) hn (fun v hv => (R.L v hv).1) hlt
    obtain ⟨z', g2⟩ := r_mean (pL := len) (L := (bF n (zA nN) s).2.1) hn l2 hlt
    have hpos : 0 < dcnt (bF n (zA nN) s).2.1 n := pct_pos hs (show ((bF n (zA nN) s).2.1 s).isSome = true by rw [(bF_lay (a := zA nN) hs).1]; rfl)
    have hcl : dcnt (bF n (zA nN) s).2.1 n ≤ n := pct_le _ n
    have hsl := dsum_le (L := (bF n (zA nN) s).2.1) (b := 11) n (fun v k hv h => by
      have h1 : k + 1 ≤ n := bD_le hs hv h
      omega)
    generalize dsum (bF n (zA nN) s).2.1 n = a at g1 g2 hsl
    generalize dcnt (bF n (zA nN) s).2.1 n = c at g1 g2 hpos hcl
    obtain ⟨c, rfl⟩ : ∃ c', c = c' + 1 := ⟨c - 1, by omega⟩
    obtain ⟨f1, f2⟩ := fp_ok a (by omega) c (by omega)
    refine ⟨(0, vf_upd uD (0 : Int32).toNatClampNeg (FP.ddiv (FP.i2d (nI a)) (FP.i2d (nI (c + 1))))), (FP.ddiv (FP.i2d (nI a)) (FP.i2d (nI (c + 1))), 0), ?_, ?_, rfl, fun _ => ?_⟩
    · simp only [fL_mean, fX5_mean, ob, Sum.elim_inr, R.B1, ns1, g1]
      rw [if_neg (nI_ne0 (by omega) (by omega)), if_pos f1, ob]
      rfl
    · simp only [fX6_mean, hst, ob, stI_s, p_can1, i10, if_false, l1, g2]
      rw [if_pos f1]
    · show Op.cmpValue (FP.dcmp (vf_upd uD (0 : Int32).toNatClampNeg _ (0 : Int32).toNatClampNeg) _) CmpOp.l = 0
      rw [vf_us]
      exact f2
end LQ2
