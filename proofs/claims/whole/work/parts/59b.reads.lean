/-! PURE: the calls that only read, both sides -/
theorem q_at {c : Nat} {nK mK : Nat → Int32} (hc : c ≤ 12) (hK : ∀ v, v < c → nK v = mK v) (uU : Nat → Int64) (p : Int32) : ∃ r s, fL_keyAt uU (nI c) nK p = some r ∧ fX6_keyAt (nI c) mK p = some s ∧ s.2 = r.1 ∧ (r.1 = 0 → lg_cmp (r.2 (0 : Int32).toNatClampNeg) s.1.toInt64 = 0) := by
  by_cases h0 : p < 0
  · refine ⟨(1, uU), (0, 1), ?_, ?_, rfl, fun e => absurd e n1⟩
    · unfold fL_keyAt fX5_keyAt
      rw [if_pos h0, ob]
      simp only [Sum.elim_inl, eq_self, if_true]
    · unfold fX6_keyAt
      rw [if_pos h0, ob, p_can01, ob]
      simp only [eq_self, if_true]
  · obtain ⟨k, hk, rfl⟩ := nI_of h0
    by_cases h1 : k < c
    · have zk : zin (nI k) 12 := p_in (by omega) (by omega)
      refine ⟨(0, vp_updL uU (0 : Int32).toNatClampNeg (nK k).toInt64), (mK k, 0), ?_, ?_, rfl, fun _ => lA_ok (uU := uU) (hK k h1)⟩
      · unfold fL_keyAt fX5_keyAt
        rw [if_neg h0, if_pos (nI_lt h1 (by omega)), if_pos zk, p_cl (i := k) (by omega), ob]
        rfl
      · unfold fX6_keyAt
        rw [if_neg h0, if_neg (nI_ge h1 (by omega)), ob, p_can1, ob]
        simp only [i10, if_false]
        rw [if_pos zk, p_cl (i := k) (by omega)]
    · refine ⟨(1, uU), (0, 1), ?_, ?_, rfl, fun e => absurd e n1⟩
      · unfold fL_keyAt fX5_keyAt
        rw [if_neg h0, if_neg (nI_nlt (by omega) (by omega)), ob]
        simp only [Sum.elim_inl, eq_self, if_true]
      · unfold fX6_keyAt
        rw [if_neg h0, if_pos (nI_le (by omega) (by omega)), ob, p_can01, ob]
        simp only [eq_self, if_true]
section LQ
variable {n : Nat} {so : Option Nat} {gB gK : Int32} {nK nN : Nat → Int32} {fM : Int32} {fL fC fQ : Nat → Int32} {mK : Nat → Int32} {mJ : Nat → Nat → Int32}
theorem lR.B0 (R : lR n none gB gK nK nN fM fL fC fQ mK mJ) : gB = 0 := R.2.2.2.2.2.1
theorem lR.B1 {s : Nat} (R : lR n (some s) gB gK nK nN fM fL fC fQ mK mJ) : gB = 1 := R.2.2.2.2.2.1
theorem lR.st (R : lR n so gB gK nK nN fM fL fC fQ mK mJ) : ((if enc so < 0 then some 0 else some 1) : Option Int32) = some (stI so) := st_x (fun s h => by
  have := R.s s h
  have := R.1.1
  omega)
theorem q_isStreet (R : lR n so gB gK nK nN fM fL fC fQ mK mJ) (uU : Nat → Int64) (p0 p1 : Int32) : ∃ r s, fL_isStreet uU (nI n) nK nN p0 p1 = some r ∧ fX6_isStreet (nI n) mK mJ p0 p1 = some s ∧ s.2 = r.1 ∧ (r.1 = 0 → s.1 = 0 → lg_cmp (r.2 (0 : Int32).toNatClampNeg) 0 = 0) ∧ (r.1 = 0 → s.1 ≠ 0 → lg_cmp (r.2 (0 : Int32).toNatClampNeg) 1 = 0) := by
  have hn := R.1.1
  rcases q_key (key := p0) hn R.2.2.1 with ⟨i, hi, hk, k1, k2, k3, k4⟩ | ⟨h, k1, k2, k3, k4⟩
  · rcases q_key (key := p1) hn R.2.2.1 with ⟨j, hj, hk', l1, l2, l3, l4⟩ | ⟨h, l1, l2, l3, l4⟩
    · have zi : zin (nI i) 12 := p_in (by omega) (by omega)
      have zj : zin (nI j) 12 := p_in (by omega) (by omega)
      have hm := R.2.1 i j hi hj
      cases hb : bt (nN i) j with
      | true =>
        have hm : mJ i j = 1 := by rw [hm, if_pos hb]
        have hj1 := p_joins1 (nN := nN) (i := i) (j := j) (by omega) (by omega) hb
        refine ⟨(0, vp_updL uU (0 : Int32).toNatClampNeg 1), (1, 0), ?_, ?_, rfl, fun _ e => absurd e n1, fun _ _ => lA_okL (uU := uU)⟩
        · simp only [fL_isStreet, fX5_isStreet, k1, l1, ob, Sum.elim_inr, hj1]
          rw [if_pos (Or.inr trivial), ob]
          simp only [Sum.elim_inr, i10, if_false]
        · simp only [fX6_isStreet, k3, k4, l3, l4, ob, i10, if_false, p_can1]
          rw [if_pos zi, if_pos zj, p_cl (i := i) (by omega), p_cl (i := j) (by omega), hm, if_neg (by decide)]
      | false =>
        have hm : mJ i j = 0 := by rw [hm, show zA nN i j = false from hb, if_neg p_ff]
        have hj1 := p_joins0 (nN := nN) (i := i) (j := j) (by omega) (by omega) hb
        refine ⟨(0, vp_updL uU (0 : Int32).toNatClampNeg 0), (0, 0), ?_, ?_, rfl, fun _ _ => lA_okL (uU := uU), fun _ e => absurd rfl e⟩
        · simp only [fL_isStreet, fX5_isStreet, k1, l1, ob, Sum.elim_inr, hj1]
          rw [if_pos (Or.inl trivial), ob]
          simp only [Sum.elim_inr, eq_self, if_true]
        · simp only [fX6_isStreet, k3, k4, l3, l4, ob, i10, if_false, p_can1]
          rw [if_pos zi, if_pos zj, p_cl (i := i) (by omega), p_cl (i := j) (by omega), hm, if_pos rfl]
    · refine ⟨(1, uU), (0, 1), ?_, ?_, rfl, fun e => absurd e n1, fun e => absurd e n1⟩
      · simp only [fL_isStreet, fX5_isStreet, k1, l1, ob, Sum.elim_inr, Sum.elim_inl, eq_self, if_true]
      · simp only [fX6_isStreet, k3, l3, ob, i10, if_false, eq_self, if_true, p_can01]
  · refine ⟨(1, uU), (0, 1), ?_, ?_, rfl, fun e => absurd e n1, fun e => absurd e n1⟩
    · simp only [fL_isStreet, fX5_isStreet, k1, ob, Sum.elim_inl, eq_self, if_true]
    · simp only [fX6_isStreet, k3, ob, eq_self, if_true, p_can01]
theorem q_length (R : lR n so gB gK nK nN fM fL fC fQ mK mJ) (uU : Nat → Int64) (p : Int32) : ∃ r s, fL_length uU gB (nI n) nK fL p = some r ∧ fX6_length (nI n) (enc so) mK mJ p = some s ∧ s.2 = r.1 ∧ (r.1 = 0 → lg_cmp (r.2 (0 : Int32).toNatClampNeg) s.1.toInt64 = 0) := by
  have hn := R.1.1
  have hst := R.st
  rcases q_key (key := p) hn R.2.2.1 with ⟨i, hi, hk, k1, k2, k3, k4⟩ | ⟨h, k1, k2, k3, k4⟩
  · have zi : zin (nI i) 12 := p_in (by omega) (by omega)
    cases so with
    | none =>
      refine ⟨(2, uU), (0, 2), ?_, ?_, rfl, fun e => absurd e n2⟩
      · simp only [fL_length, fX5_length, k1, ob, Sum.elim_inr, Sum.elim_inl, R.B0, ns0, s_sn, eq_self, if_false, if_true]
      · simp only [fX6_length, k3, hst, ob, stI_n, p_can02, eq_self, if_true]
    | some s =>
      obtain ⟨len, l1, l2⟩ := r_lengths hn R.2.1 R.s
      refine ⟨(0, vp_updL uU (0 : Int32).toNatClampNeg (fL i).toInt64), (len i, 0), ?_, ?_, rfl, fun _ => lA_ok (uU := uU) ((R.L i hi).1.trans (l2 i hi).symm)⟩
      · simp only [fL_length, fX5_length, k1, ob, Sum.elim_inr, R.B1, ns1]
        rw [if_pos zi, p_cl (i := i) (by omega), ob]
        rfl
      · simp only [fX6_length, k3, k4, hst, ob, stI_s, p_can1, i10, if_false, l1]
        rw [if_pos zi, p_cl (i := i) (by omega)]
  · refine ⟨(1, uU), (0, 1), ?_, ?_, rfl, fun e => absurd e n1⟩
    · simp only [fL_length, fX5_length, k1, ob, Sum.elim_inl, eq_self, if_true]
    · simp only [fX6_length, k3, hst, ob, p_can01, eq_self, if_true]
theorem q_ways (R : lR n so gB gK nK nN fM fL fC fQ mK mJ) (uU : Nat → Int64) (p : Int32) : ∃ r s, fL_ways uU gB (nI n) nK fC p = some r ∧ fX6_ways (nI n) (enc so) mK mJ p = some s ∧ s.2 = r.1 ∧ (r.1 = 0 → lg_cmp (r.2 (0 : Int32).toNatClampNeg) s.1.toInt64 = 0) := by
  have hn := R.1.1
  have hst := R.st
  rcases q_key (key := p) hn R.2.2.1 with ⟨i, hi, hk, k1, k2, k3, k4⟩ | ⟨h, k1, k2, k3, k4⟩
  · have zi : zin (nI i) 12 := p_in (by omega) (by omega)
    cases so with
    | none =>
      refine ⟨(2, uU), (0, 2), ?_, ?_, rfl, fun e => absurd e n2⟩
      · simp only [fL_ways, fX5_ways, k1, ob, Sum.elim_inr, Sum.elim_inl, R.B0, ns0, s_sn, eq_self, if_false, if_true]
      · simp only [fX6_ways, k3, hst, ob, stI_n, p_can02, eq_self, if_true]
    | some s =>
      have l1 : fX6_allWays (nI n) (enc (some s)) mJ (nI i) = some (nI (bW n (zA nN) s i)) := r_allWays hn R.2.1 (R.s s rfl) hi
      refine ⟨(0, vp_updL uU (0 : Int32).toNatClampNeg (fC i).toInt64), (nI (bW n (zA nN) s i), 0), ?_, ?_, rfl, fun _ => lA_ok (uU := uU) (R.L i hi).2⟩
      · simp only [fL_ways, fX5_ways, k1, ob, Sum.elim_inr, R.B1, ns1]
        rw [if_pos zi, p_cl (i := i) (by omega), ob]
        rfl
      · simp only [fX6_ways, k3, k4, hst, ob, stI_s, p_can1, i10, if_false, l1]
  · refine ⟨(1, uU), (0, 1), ?_, ?_, rfl, fun e => absurd e n1⟩
    · simp only [fL_ways, fX5_ways, k1, ob, Sum.elim_inl, eq_self, if_true]
    · simp only [fX6_ways, k3, hst, ob, p_can01, eq_self, if_true]
theorem q_farthest (R : lR n so gB gK nK nN fM fL fC fQ mK mJ) (uU : Nat → Int64) : ∃ r s, fL_farthest uU gB (nI n) fL = some r ∧ fX6_farthest (nI n) (enc so) mJ = some s ∧ s.2 = r.1 ∧ (r.1 = 0 → lg_cmp (r.2 (0 : Int32).toNatClampNeg) s.1.toInt64 = 0) := by
  have hn := R.1.1
  have hst := R.st
  cases so with
  | none =>
    refine ⟨(1, uU), (0, 1), ?_, ?_, rfl, fun e => absurd e n1⟩
    · simp only [fL_farthest, fX5_farthest, ob, Sum.elim_inl, R.B0, ns0, eq_self, if_true]
    · simp only [fX6_farthest, hst, ob, stI_n, p_can01, eq_self, if_true]
  | some s =>
    obtain ⟨len, l1, l2⟩ := r_lengths hn R.2.1 R.s
    obtain ⟨z, g1⟩ := c_greatest (pL := fL) hn
    refine ⟨(0, vp_updL uU (0 : Int32).toNatClampNeg (gmx fL n).toInt64), (gmx len n, 0), ?_, ?_, rfl, fun _ => lA_ok (uU := uU) (gmx_cong (fun v hv => (R.L v hv).1.trans (l2 v hv).symm))⟩
    · simp only [fL_farthest, fX5_farthest, ob, Sum.elim_inr, R.B1, ns1, g1]
    · simp only [fX6_farthest, hst, ob, stI_s, p_can1, i10, if_false, l1, r_greatest hn]
theorem q_layer (R : lR n so gB gK nK nN fM fL fC fQ mK mJ) (uU : Nat → Int64) (p : Int32) : ∃ r s, fL_layer uU gB (nI n) fL p = some r ∧ fX6_layer (nI n) (enc so) mJ p = some s ∧ s.2 = r.1 ∧ (r.1 = 0 → lg_cmp (r.2 (0 : Int32).toNatClampNeg) s.1.toInt64 = 0) := by
  have hn := R.1.1
  have hst := R.st
  cases so with
  | none =>
    refine ⟨(1, uU), (0, 1), ?_, ?_, rfl, fun e => absurd e n1⟩
    · simp only [fL_layer, fX5_layer, ob, Sum.elim_inl, R.B0, ns0, eq_self, if_true]
    · simp only [fX6_layer, hst, ob, stI_n, p_can01, eq_self, if_true]
  | some s =>
    obtain ⟨len, l1, l2⟩ := r_lengths hn R.2.1 R.s
    obtain ⟨z, g1⟩ := c_layer (pL := fL) (x := p) hn
    by_cases h0 : 0 ≤ p
    · refine ⟨(0, vp_updL uU (0 : Int32).toNatClampNeg (nI (pct (fun v => decide (fL v = p)) n)).toInt64), (nI (pct (fun v => decide (len v = p)) n), 0), ?_, ?_, rfl, fun _ => lA_ok (uU := uU) (congrArg nI (pct_cong (fun v hv => by rw [(R.L v hv).1.trans (l2 v hv).symm])))⟩
      · simp only [fL_layer, fX5_layer, ob, Sum.elim_inr, R.B1, ns1]
        rw [if_pos h0, g1]
        rfl
      · simp only [fX6_layer, hst, ob, stI_s, p_can1, i10, if_false]
        rw [if_pos h0, l1, ob, r_having hn, ob]
    · refine ⟨(0, vp_updL uU (0 : Int32).toNatClampNeg (0 : Int32).toInt64), (0, 0), ?_, ?_, rfl, fun _ => lA_ok (uU := uU) rfl⟩
      · simp only [fL_layer, fX5_layer, ob, Sum.elim_inr, R.B1, ns1]
        rw [if_neg h0]
        rfl
      · simp only [fX6_layer, hst, ob, stI_s, p_can1, i10, if_false]
        rw [if_neg h0]
/-- how many come, as the reference counts them -/
theorem r_come {s : Nat} {len : Nat → Int32} (hn : n ≤ 12) (hs : s < n) (h : ∀ v, v < n → len v = enc ((bF n (zA nN) s).2.1 v)) : nI n - nI (pct (fun v => decide (len v = -1)) n) = nI (bF n (zA nN) s).1 := by
  have hc : (bF n (zA nN) s).1 = pct (fun v => ((bF n (zA nN) s).2.1 v).isSome) n := (bF_inv hs).2.1
  have hq : pct (fun v => decide (len v = -1)) n = pct (fun v => !((bF n (zA nN) s).2.1 v).isSome) n := pct_cong (fun v hv => by
    rw [h v hv]
    cases hL : (bF n (zA nN) s).2.1 v with
    | none => rfl
    | some k =>
      have hk : k + 1 ≤ n := bD_le hs hv hL
      rw [decide_eq_false (enc_m1 (k := k) (by omega))]
      rfl)
  have hp : pct (fun v => ((bF n (zA nN) s).2.1 v).isSome) n + pct (fun v => !((bF n (zA nN) s).2.1 v).isSome) n = n := pct_not _ n
  have hl := pct_le (fun v => decide (len v = -1)) n
  rw [nI_sub hl, hc]
  congr 1
  omega
theorem q_comes (R : lR n so gB gK nK nN fM fL fC fQ mK mJ) (uU : Nat → Int64) (p : Int32) : ∃ r s, fL_comes uU gB nK fM fQ p = some r ∧ fX6_comes (nI n) (enc so) mK mJ p = some s ∧ s.2 = r.1 ∧ (r.1 = 0 → lg_cmp (r.2 (0 : Int32).toNatClampNeg) s.1.toInt64 = 0) := by
  have hn := R.1.1
  have hst := R.st
  cases so with
  | none =>
    refine ⟨(1, uU), (0, 1), ?_, ?_, rfl, fun e => absurd e n1⟩
    · simp only [fL_comes, fX5_comes, ob, Sum.elim_inl, R.B0, ns0, eq_self, if_true]
    · simp only [fX6_comes, hst, ob, stI_n, p_can01, eq_self, if_true]
  | some s =>
    have hs := R.s s rfl
    have hF := R.F
    obtain ⟨len, l1, l2⟩ := r_lengths hn R.2.1 R.s
    have hcm := r_come hn hs l2
    have hle := bI_le (bF_inv (n := n) (a := zA nN) hs)
    by_cases h0 : p < 0
    · refine ⟨(2, uU), (0, 2), ?_, ?_, rfl, fun e => absurd e n2⟩
      · simp only [fL_comes, fX5_comes, ob, Sum.elim_inr, R.B1, ns1]
        rw [if_pos h0, ob]
        simp only [Sum.elim_inl, s_os, eq_self, if_true, if_false]
      · simp only [fX6_comes, hst, ob, stI_s, p_can1, i10, if_false]
        rw [if_pos h0, ob, p_can02, ob]
        simp only [eq_self, if_true]
    · obtain ⟨k, hk, rfl⟩ := nI_of h0
      by_cases h1 : k < (bF n (zA nN) s).1
      · have zk : zin (nI k) 12 := p_in (by omega) (by omega)
        obtain ⟨hq1, -⟩ := (bF_inv (n := n) (a := zA nN) hs).2.2.1 k h1
        have hq : fQ k = nI ((bF n (zA nN) s).2.2.2 k) := hF.2.2.2 k h1
        have zq : zin (nI ((bF n (zA nN) s).2.2.2 k)) 12 := p_in (by omega) (by omega)
        obtain ⟨e, e1, e2⟩ := r_comes hn R.2.1 hs
        refine ⟨(0, vp_updL uU (0 : Int32).toNatClampNeg (nK ((bF n (zA nN) s).2.2.2 k)).toInt64), (mK ((bF n (zA nN) s).2.2.2 k), 0), ?_, ?_, rfl, fun _ => lA_ok (uU := uU) (R.2.2.1 _ hq1).symm⟩
        · simp only [fL_comes, fX5_comes, ob, Sum.elim_inr, R.B1, ns1]
          rw [if_neg h0, hF.1, if_pos (nI_lt h1 (by omega)), if_pos zk, p_cl (i := k) (by omega), hq, if_pos zq, p_cl (i := (bF n (zA nN) s).2.2.2 k) (by omega), ob]
          rfl
        · simp only [fX6_comes, hst, ob, stI_s, p_can1, i10, if_false]
          rw [if_neg h0, l1, ob, r_having hn, ob, hcm, if_neg (nI_ge h1 (by omega)), ob, p_can1, ob]
          simp only [i10, if_false]
          rw [if_pos (show zin 0 12 from p_in (i := 0) (by omega) (by omega)), if_pos (show zin (enc (some s)) 12 from p_in (i := s) (by omega) (by omega)), show (enc (some s)).toNatClampNeg = s from p_cl (by omega), z0c, show enc (some s) = nI s from rfl, e1, ob, if_pos zk, p_cl (i := k) (by omega), e2 k h1, if_pos zq, p_cl (i := (bF n (zA nN) s).2.2.2 k) (by omega)]
      · refine ⟨(2, uU), (0, 2), ?_, ?_, rfl, fun e => absurd e n2⟩
        · simp only [fL_comes, fX5_comes, ob, Sum.elim_inr, R.B1, ns1]
          rw [if_neg h0, hF.1, if_neg (nI_nlt (by omega) (by omega)), ob]
          simp only [Sum.elim_inl, s_os, eq_self, if_true, if_false]
        · simp only [fX6_comes, hst, ob, stI_s, p_can1, i10, if_false]
          rw [if_neg h0, l1, ob, r_having hn, ob, hcm, if_pos (nI_le (by omega) (by omega)), ob, p_can02, ob]
          simp only [eq_self, if_true]
theorem q_through (R : lR n so gB gK nK nN fM fL fC fQ mK mJ) (uU : Nat → Int64) (wM : Int32) (wL wC wQ : Nat → Int32) (p0 p1 : Int32) : ∃ r s, fL_through uU gB (nI n) nK nN fL fC wM wL wC wQ p0 p1 = some r ∧ fX6_through (nI n) (enc so) mK mJ p0 p1 = some s ∧ s.2 = r.1 ∧ (r.1 = 0 → lg_cmp (r.2.1 (0 : Int32).toNatClampNeg) s.1.toInt64 = 0) := by
  have hn := R.1.1
  have hst := R.st
  rcases q_key (key := p0) hn R.2.2.1 with ⟨i, hi, hk, k1, k2, k3, k4⟩ | ⟨h, k1, k2, k3, k4⟩
  · rcases q_key (key := p1) hn R.2.2.1 with ⟨j, hj, hk', l1, l2, l3, l4⟩ | ⟨h, l1, l2, l3, l4⟩
    · cases so with
      | none =>
        refine ⟨(2, uU, wM, wL, wC, wQ), (0, 2), ?_, ?_, rfl, fun e => absurd e n2⟩
        · simp only [fL_through, fX5_through, k1, l1, ob, Sum.elim_inr, Sum.elim_inl, R.B0, ns0, s_sn, eq_self, if_false, if_true]
        · simp only [fX6_through, k3, l3, hst, ob, i10, if_false, stI_n, p_can02, eq_self, if_true]
      | some s =>
        have hs := R.s s rfl
        obtain ⟨v, v1, v2⟩ := c_spread (nN := nN) hn hi wL wC wQ
        have t1 := c_through (via := j) hn R.1.2.2.1 hs hi hj R.F v2
        have t2 : fX6_throughs (nI n) (enc (some s)) mJ (nI i) (nI j) = _ := r_throughs hn R.2.1 hs hi hj
        refine ⟨(0, vp_updL uU (0 : Int32).toNatClampNeg (nI (thr n (zA nN) s i j)).toInt64, v.1, v.2.1, v.2.2.1, v.2.2.2), (nI (thr n (zA nN) s i j), 0), ?_, ?_, rfl, fun _ => lA_ok (uU := uU) rfl⟩
        · simp only [fL_through, fX5_through, k1, l1, ob, Sum.elim_inr, R.B1, ns1, v1, t1]
        · simp only [fX6_through, k3, l3, k4, l4, hst, ob, i10, if_false, stI_s, p_can1, t2]
    · refine ⟨(1, uU, wM, wL, wC, wQ), (0, 1), ?_, ?_, rfl, fun e => absurd e n1⟩
      · simp only [fL_through, fX5_through, k1, l1, ob, Sum.elim_inr, Sum.elim_inl, eq_self, if_true]
      · simp only [fX6_through, k3, l3, hst, ob, i10, if_false, eq_self, if_true, p_can01]
  · refine ⟨(1, uU, wM, wL, wC, wQ), (0, 1), ?_, ?_, rfl, fun e => absurd e n1⟩
    · simp only [fL_through, fX5_through, k1, ob, Sum.elim_inl, eq_self, if_true]
    · simp only [fX6_through, k3, hst, ob, eq_self, if_true, p_can01]
theorem q_between (R : lR n so gB gK nK nN fM fL fC fQ mK mJ) (uU : Nat → Int64) (wM : Int32) (wL wC wQ : Nat → Int32) (p0 p1 : Int32) : ∃ r s, fL_between uU (nI n) nK nN wM wL wC wQ p0 p1 = some r ∧ fX6_between (nI n) mK mJ p0 p1 = some s ∧ s.2 = r.1 ∧ (r.1 = 0 → lg_cmp (r.2.1 (0 : Int32).toNatClampNeg) s.1.toInt64 = 0) := by
  have hn := R.1.1
  rcases q_key (key := p0) hn R.2.2.1 with ⟨i, hi, hk, k1, k2, k3, k4⟩ | ⟨h, k1, k2, k3, k4⟩
  · rcases q_key (key := p1) hn R.2.2.1 with ⟨j, hj, hk', l1, l2, l3, l4⟩ | ⟨h, l1, l2, l3, l4⟩
    · have zj : zin (nI j) 12 := p_in (by omega) (by omega)
      obtain ⟨v, v1, v2⟩ := c_spread (nN := nN) hn hi wL wC wQ
      obtain ⟨len, e1, e2⟩ := r_lengths (so := some i) hn R.2.1 (fun s h => by
        cases h
        exact hi)
      have e1 : fX6_lengths (nI n) mJ (nI i) = some len := e1
      refine ⟨(0, vp_updL uU (0 : Int32).toNatClampNeg (v.2.1 j).toInt64, v.1, v.2.1, v.2.2.1, v.2.2.2), (len j, 0), ?_, ?_, rfl, fun _ => lA_ok (uU := uU) ((v2.2.1 j (by omega)).trans (e2 j hj).symm)⟩
      · simp only [fL_between, fX5_between, k1, l1, ob, Sum.elim_inr, v1]
        rw [if_pos zj, p_cl (i := j) (by omega), ob]
        rfl
      · simp only [fX6_between, k3, l3, k4, l4, ob, i10, if_false, p_can1, e1]
        rw [if_pos zj, p_cl (i := j) (by omega)]
    · refine ⟨(1, uU, wM, wL, wC, wQ), (0, 1), ?_, ?_, rfl, fun e => absurd e n1⟩
      · simp only [fL_between, fX5_between, k1, l1, ob, Sum.elim_inr, Sum.elim_inl, eq_self, if_true]
      · simp only [fX6_between, k3, l3, ob, i10, if_false, eq_self, if_true, p_can01]
  · refine ⟨(1, uU, wM, wL, wC, wQ), (0, 1), ?_, ?_, rfl, fun e => absurd e n1⟩
    · simp only [fL_between, fX5_between, k1, ob, Sum.elim_inl, eq_self, if_true]
    · simp only [fX6_between, k3, ob, eq_self, if_true, p_can01]
end LQ
