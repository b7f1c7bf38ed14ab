/-! PURE: parts, colours, rings, the check, the sum, both sides -/
section LQ3
variable {n : Nat} {so : Option Nat} {gB gK : Int32} {nK nN : Nat → Int32} {fM : Int32} {fL fC fQ : Nat → Int32} {mK : Nat → Int32} {mJ : Nat → Nat → Int32}
theorem q_pt (R : lR n so gB gK nK nN fM fL fC fQ mK mJ) (cT : Nat → Int32) (wM : Int32) (wL wC wQ : Nat → Int32) : ∃ v, fX1_paint cT (nI n) nN wM wL wC wQ = some v ∧ v.1 = nI (prt n (zA nN) n) ∧ (∀ u, u < n → v.2.2.1 u = nI (tin n (zA nN) u)) ∧ ((v.2.1 = 1 ∧ fX6_odd (nI n) mJ = some 0 ∧ ∀ i j, unl n (zA nN) v.2.2.1 i j) ∨ (v.2.1 = 0 ∧ ∃ o, oddL n (zA nN) o ∧ 3 ≤ o ∧ o ≤ n ∧ fX6_odd (nI n) mJ = some (nI o))) := by
  obtain ⟨v, v1, v2, v3, v4⟩ := c_paint R.1.1 R.1.2.2.1 cT wM wL wC wQ
  refine ⟨v, v1, v2, v3, ?_⟩
  have ho := r_odd R.1.1 R.2.1
  rcases v4 with ⟨a1, a2⟩ | ⟨a1, a2⟩
  · refine Or.inl ⟨a1, ?_, a2⟩
    rw [ho, mo_none (two_none R.1 v3 a2)]
    rfl
  · obtain ⟨o, g⟩ := two_odd R.1 v3 a2
    refine Or.inr ⟨a1, o, g, odd_3 R.1.2.2.2 g, odd_le g, ?_⟩
    rw [ho, mo_odd g]
theorem q_parts (R : lR n so gB gK nK nN fM fL fC fQ mK mJ) (cT : Nat → Int32) (wM : Int32) (wL wC wQ : Nat → Int32) : ∃ r s, fX5_parts (nI n) nN wM wL wC wQ cT = some r ∧ fX6_parts (nI n) mJ = some s ∧ r.1 = s.1 := by
  obtain ⟨v, v1, v2, v3, v4⟩ := q_pt R cT wM wL wC wQ
  refine ⟨(v.1, v.2.2.2.1, v.2.2.2.2.1, v.2.2.2.2.2.1, v.2.2.2.2.2.2, v.1, v.2.1, v.2.2.1), (nI (prt n (zA nN) n), 0), ?_, r_parts R.1.1 R.2.1, v2⟩
  unfold fX5_parts
  rw [v1, ob]
theorem q_isTwo (R : lR n so gB gK nK nN fM fL fC fQ mK mJ) (cT : Nat → Int32) (wM : Int32) (wL wC wQ : Nat → Int32) : ∃ r s, fX5_isTwoColours (nI n) nN wM wL wC wQ cT = some r ∧ fX6_isTwoColours (nI n) mJ = some s ∧ r.1 = s.1 := by
  obtain ⟨v, v1, v2, v3, v4⟩ := q_pt R cT wM wL wC wQ
  rcases v4 with ⟨a1, a2, a3⟩ | ⟨a1, o, g, g3, gn, a2⟩
  · refine ⟨(v.2.1, v.2.2.2.1, v.2.2.2.2.1, v.2.2.2.2.2.1, v.2.2.2.2.2.2, v.1, v.2.1, v.2.2.1), (1, 0), ?_, ?_, a1⟩
    · unfold fX5_isTwoColours
      rw [v1, ob, if_pos (Or.inr a1)]
    · unfold fX6_isTwoColours
      rw [a2, ob, if_pos rfl]
  · have hn := R.1.1
    refine ⟨(v.2.1, v.2.2.2.1, v.2.2.2.2.1, v.2.2.2.2.2.1, v.2.2.2.2.2.2, v.1, v.2.1, v.2.2.1), (0, 0), ?_, ?_, a1⟩
    · unfold fX5_isTwoColours
      rw [v1, ob, if_pos (Or.inl a1)]
    · unfold fX6_isTwoColours
      rw [a2, ob, if_neg (nI_ne0 (by omega) (by omega))]
theorem par2 : ∀ k, k < 12 → nI k - nI k / 2 * 2 = nI (k % 2) := by decide +kernel
theorem q_colour (R : lR n so gB gK nK nN fM fL fC fQ mK mJ) (uU : Nat → Int64) (wM : Int32) (wL wC wQ : Nat → Int32) (cP cW : Int32) (cT : Nat → Int32) (p : Int32) : ∃ r s, fL_colour uU (nI n) nK nN wM wL wC wQ cP cW cT p = some r ∧ fX6_colour (nI n) mK mJ p = some s ∧ s.2 = r.1 ∧ (r.1 = 0 → lg_cmp (r.2.1 (0 : Int32).toNatClampNeg) s.1.toInt64 = 0) := by
  have hn := R.1.1
  obtain ⟨v, v1, v2, v3, v4⟩ := q_pt R cT wM wL wC wQ
  rcases q_key (key := p) hn R.2.2.1 with ⟨i, hi, hk, k1, k2, k3, k4⟩ | ⟨h, k1, k2, k3, k4⟩
  · have zi : zin (nI i) 12 := p_in (by omega) (by omega)
    rcases v4 with ⟨a1, a2, a3⟩ | ⟨a1, o, g, g3, gn, a2⟩
    · obtain ⟨d1, d2, -, -⟩ := hd_spec (a := zA nN) hi
      have d3 := reach_sym R.1.2.2.1 hi d2 d1
      obtain ⟨len, e1, e2⟩ := r_lengths (so := some (hd n (zA nN) i)) hn R.2.1 (fun s h => by
        cases h
        exact d2)
      have e1 : fX6_lengths (nI n) mJ (nI (hd n (zA nN) i)) = some len := e1
      have e2 : len i = enc (bD n (zA nN) (hd n (zA nN) i) i) := e2 i hi
      obtain ⟨k, hk2⟩ := Option.isSome_iff_exists.mp d3
      have hkn := bD_le d2 hi hk2
      have hv : v.2.2.1 i = nI (k % 2) := by
        rw [v3 i hi]
        unfold tin
        rw [hk2]
        rfl
      rw [hk2] at e2
      have e2 : len i = nI k := e2
      refine ⟨(0, vp_updL uU (0 : Int32).toNatClampNeg (v.2.2.1 i).toInt64, v.2.2.2.1, v.2.2.2.2.1, v.2.2.2.2.2.1, v.2.2.2.2.2.2, v.1, v.2.1, v.2.2.1), (len i - len i / 2 * 2, 0), ?_, ?_, rfl, fun _ => lA_ok (uU := uU) ?_⟩
      · simp only [fL_colour, fX5_colour, k1, ob, Sum.elim_inr, v1, a1, i10, if_false]
        rw [if_pos zi, p_cl (i := i) (by omega), ob]
        rfl
      · simp only [fX6_colour, k3, k4, a2, ob, eq_self, if_true, i10, if_false, p_can1, r_head hn R.2.1 hi, e1]
        rw [if_pos zi, p_cl (i := i) (by omega)]
      · rw [hv, e2, par2 k (by omega)]
    · have a3 : (nI o = 0) = False := eq_false (nI_ne0 (by omega) (by omega))
      refine ⟨(2, uU, v.2.2.2.1, v.2.2.2.2.1, v.2.2.2.2.2.1, v.2.2.2.2.2.2, v.1, v.2.1, v.2.2.1), (0, 2), ?_, ?_, rfl, fun e => absurd e n2⟩
      · simp only [fL_colour, fX5_colour, k1, ob, Sum.elim_inr, Sum.elim_inl, v1, a1, s_un, eq_self, if_true, if_false]
      · simp only [fX6_colour, k3, a2, ob, a3, if_false, p_can02, eq_self, if_true]
  · refine ⟨(1, uU, wM, wL, wC, wQ, cP, cW, cT), (0, 1), ?_, ?_, rfl, fun e => absurd e n1⟩
    · simp only [fL_colour, fX5_colour, k1, ob, Sum.elim_inl, eq_self, if_true]
    · rcases v4 with ⟨a1, a2, a3⟩ | ⟨a1, o, g, g3, gn, a2⟩
      · simp only [fX6_colour, k3, a2, ob, eq_self, if_true, p_can01]
      · have a3 : (nI o = 0) = False := eq_false (nI_ne0 (by omega) (by omega))
        simp only [fX6_colour, k3, a2, ob, a3, if_false, eq_self, if_true, p_can01]
theorem q_ring (R : lR n so gB gK nK nN fM fL fC fQ mK mJ) (uU : Nat → Int64) (wM : Int32) (wL wC wQ : Nat → Int32) (cT : Nat → Int32) (oS : Int32) (oR oX : Nat → Int32) : ∃ r s, fL_ring uU (nI n) nN wM wL wC wQ cT oS oR oX = some r ∧ fX6_ring (nI n) mJ = some s ∧ s.2 = r.1 ∧ (r.1 = 0 → lg_cmp (r.2.1 (0 : Int32).toNatClampNeg) s.1.toInt64 = 0) := by
  have hn := R.1.1
  obtain ⟨v, v1, v2, v3, v4⟩ := q_pt R cT wM wL wC wQ
  rcases v4 with ⟨a1, a2, a3⟩ | ⟨a1, o, g, g3, gn, a2⟩
  · have a4 : ((0 : Int32) ≤ 0) = True := eq_true (by decide)
    refine ⟨(1, uU, v.2.2.2.1, v.2.2.2.2.1, v.2.2.2.2.2.1, v.2.2.2.2.2.2, v.1, v.2.1, v.2.2.1, oS, oR, oX), (0, 1), ?_, ?_, rfl, fun e => absurd e n1⟩
    · simp only [fL_ring, fX5_ring, fX5_findOddRing, ob, Sum.elim_inl, v1, a1, i10, if_false, eq_self, if_true]
    · simp only [fX6_ring, a2, ob, a4, if_true, p_can01, eq_self]
  · have a4 : (nI o ≤ 0) = False := eq_false (nI_nle (by omega) (by omega))
    obtain ⟨T, X, t1, t2⟩ := c_find R.1 g oR oX
    refine ⟨(0, vp_updL uU (0 : Int32).toNatClampNeg (nI o).toInt64, v.2.2.2.1, v.2.2.2.2.1, v.2.2.2.2.2.1, v.2.2.2.2.2.2, v.1, v.2.1, v.2.2.1, nI o, T, X), (nI o, 0), ?_, ?_, rfl, fun _ => lA_ok (uU := uU) rfl⟩
    · simp only [fL_ring, fX5_ring, fX5_findOddRing, ob, Sum.elim_inr, v1, a1, eq_self, if_true, t1]
    · simp only [fX6_ring, a2, ob, a4, if_false, p_can1, i10]
theorem q_ringAt (R : lR n so gB gK nK nN fM fL fC fQ mK mJ) (uU : Nat → Int64) (wM : Int32) (wL wC wQ : Nat → Int32) (cT : Nat → Int32) (oS : Int32) (oR oX : Nat → Int32) (p : Int32) : ∃ r s, fL_ringAt uU (nI n) nK nN wM wL wC wQ cT oS oR oX p = some r ∧ fX6_ringAt (nI n) mK mJ p = some s ∧ s.2 = r.1 ∧ (r.1 = 0 → lg_cmp (r.2.1 (0 : Int32).toNatClampNeg) s.1.toInt64 = 0) := by
  have hn := R.1.1
  obtain ⟨v, v1, v2, v3, v4⟩ := q_pt R cT wM wL wC wQ
  rcases v4 with ⟨a1, a2, a3⟩ | ⟨a1, o, g, g3, gn, a2⟩
  · have a4 : ((0 : Int32) ≤ 0) = True := eq_true (by decide)
    refine ⟨(1, uU, v.2.2.2.1, v.2.2.2.2.1, v.2.2.2.2.2.1, v.2.2.2.2.2.2, v.1, v.2.1, v.2.2.1, oS, oR, oX), (0, 1), ?_, ?_, rfl, fun e => absurd e n1⟩
    · simp only [fL_ringAt, fX5_ringAt, fX5_findOddRing, ob, Sum.elim_inl, v1, a1, i10, if_false, eq_self, if_true]
    · simp only [fX6_ringAt, a2, ob, a4, if_true]
      by_cases h0 : p < 0
      · rw [if_pos h0, ob, p_can01, ob]
        simp only [eq_self, if_true]
      · rw [if_neg h0]
        by_cases h1 : 0 ≤ p
        · rw [if_pos h1, ob, p_can01, ob]
          simp only [eq_self, if_true]
        · rw [if_neg h1, ob, p_can01, ob]
          simp only [eq_self, if_true]
  · have a4 : (nI o ≤ 0) = False := eq_false (nI_nle (by omega) (by omega))
    obtain ⟨T, X, t1, t2⟩ := c_find R.1 g oR oX
    obtain ⟨f1, f2, f3⟩ := fsp_spec g
    by_cases h0 : p < 0
    · refine ⟨(2, uU, v.2.2.2.1, v.2.2.2.2.1, v.2.2.2.2.2.1, v.2.2.2.2.2.2, v.1, v.2.1, v.2.2.1, nI o, T, X), (0, 2), ?_, ?_, rfl, fun e => absurd e n2⟩
      · simp only [fL_ringAt, fX5_ringAt, fX5_findOddRing, ob, Sum.elim_inr, v1, a1, eq_self, if_true, t1]
        rw [if_pos h0, ob]
        simp only [Sum.elim_inl, s_ou, eq_self, if_true, if_false]
      · simp only [fX6_ringAt, a2, ob, a4, if_false]
        rw [if_pos h0, ob, p_can02, ob]
        simp only [eq_self, if_true]
    · obtain ⟨k, hk, rfl⟩ := nI_of h0
      by_cases h1 : k < o
      · have zk : zin (nI k) 12 := p_in (by omega) (by omega)
        have hr := (rf_inv f1 f2 k (by omega)).1
        have zr : zin (nI (rf n (zA nN) o (fsp n (zA nN) o) k)) 12 := p_in (by omega) (by omega)
        obtain ⟨M, m1, m2⟩ := r_walks hn R.2.1 f1
        obtain ⟨y, z, y1⟩ := r_row hn R.2.1 R.1.2.2.1 g f1 f2 m2 h1
        refine ⟨(0, vp_updL uU (0 : Int32).toNatClampNeg (nK (rf n (zA nN) o (fsp n (zA nN) o) k)).toInt64, v.2.2.2.1, v.2.2.2.2.1, v.2.2.2.2.2.1, v.2.2.2.2.2.2, v.1, v.2.1, v.2.2.1, nI o, T, X), (mK (rf n (zA nN) o (fsp n (zA nN) o) k), 0), ?_, ?_, rfl, fun _ => lA_ok (uU := uU) (R.2.2.1 _ hr).symm⟩
        · simp only [fL_ringAt, fX5_ringAt, fX5_findOddRing, ob, Sum.elim_inr, v1, a1, eq_self, if_true, t1]
          rw [if_neg h0, if_pos (nI_lt h1 (by omega)), if_pos zk, p_cl (i := k) (by omega), t2 k h1, if_pos zr, p_cl (i := rf n (zA nN) o (fsp n (zA nN) o) k) (by omega), ob]
          rfl
        · simp only [fX6_ringAt, a2, ob, a4, if_false]
          rw [if_neg h0, if_neg (nI_ge h1 (by omega)), ob, p_can1, ob]
          simp only [i10, if_false]
          rw [r_first hn R.2.1 g, ob, m1, ob, y1, ob, if_pos zr, p_cl (i := rf n (zA nN) o (fsp n (zA nN) o) k) (by omega)]
      · refine ⟨(2, uU, v.2.2.2.1, v.2.2.2.2.1, v.2.2.2.2.2.1, v.2.2.2.2.2.2, v.1, v.2.1, v.2.2.1, nI o, T, X), (0, 2), ?_, ?_, rfl, fun e => absurd e n2⟩
        · simp only [fL_ringAt, fX5_ringAt, fX5_findOddRing, ob, Sum.elim_inr, v1, a1, eq_self, if_true, t1]
          rw [if_neg h0, if_neg (nI_nlt (by omega) (by omega)), ob]
          simp only [Sum.elim_inl, s_ou, eq_self, if_true, if_false]
        · simp only [fX6_ringAt, a2, ob, a4, if_false]
          rw [if_neg h0, if_pos (nI_le (by omega) (by omega)), ob, p_can02, ob]
          simp only [eq_self, if_true]
theorem q_isTrue (R : lR n so gB gK nK nN fM fL fC fQ mK mJ) (wM : Int32) (wL wC wQ : Nat → Int32) (cP cW : Int32) (cT : Nat → Int32) (oS : Int32) (oR oX : Nat → Int32) : ∃ r, fX5_isTrue gB (nI n) nN fM fL fC fQ wM wL wC wQ cP cW cT oS oR oX = some r ∧ r.1 = 1 := by
  have hn := R.1.1
  obtain ⟨v, v1, v2, v3, v4⟩ := q_pt R cT wM wL wC wQ
  have hk : gB = 0 ∨ (gB = 1 ∧ fX5_streetsKeepLayers (nI n) nN fL = some 1 ∧ fX5_waysAddUp (nI n) nN fL fC = some 1 ∧ fX5_lengthsRise fM fL fQ = some 1) := by
    cases so with
    | none => exact Or.inl R.B0
    | some s =>
      have hF := R.F
      have hs := R.s s rfl
      exact Or.inr ⟨R.B1, c_keep R.1 hs hF.2.1, c_add R.1 hs hF.2.1 hF.2.2.1, c_rise R.1 hs hF⟩
  rcases v4 with ⟨a1, a2, a3⟩ | ⟨a1, o, g, g3, gn, a2⟩
  · have hu : fX1_areUnlike v.2.2.1 (nI n) nN = some 1 := by
      rcases c_unl (T := v.2.2.1) (nN := nN) hn with h | ⟨-, i, j, h⟩
      · exact h.1
      · exact absurd (a3 i j) h
    refine ⟨(1, v.2.2.2.1, v.2.2.2.2.1, v.2.2.2.2.2.1, v.2.2.2.2.2.2, v.1, v.2.1, v.2.2.1, oS, oR, oX), ?_, rfl⟩
    rcases hk with rfl | ⟨rfl, b1, b2, b3⟩
    · simp only [fX5_isTrue, eq_self, if_true, v1, ob, a1, i10, if_false, hu]
      rw [if_pos (Or.inr trivial)]
    · simp only [fX5_isTrue, b1, b2, b3, eq_self, v1, ob, a1, i10, if_false, hu]
      rw [if_pos (Or.inr trivial)]
  · obtain ⟨T, X, t1, t2⟩ := c_find R.1 g oR oX
    obtain ⟨f1, f2, f3⟩ := fsp_spec g
    have hi := c_isOdd (o := o) g3 (by omega) g.1
    have hu := c_isUnlike (o := o) (R := T) (by omega) (fun i j hij hj => by
      have r1 := (rf_inv f1 f2 i (by omega)).1
      have r2 := (rf_inv f1 f2 j (by omega)).1
      rw [t2 i hj, t2 j (by omega)]
      exact fun e => rf_inj g f1 f2 hij hj ((p_eq (by omega) (by omega)).mp e).symm)
    refine ⟨(1, v.2.2.2.1, v.2.2.2.2.1, v.2.2.2.2.2.1, v.2.2.2.2.2.2, v.1, v.2.1, v.2.2.1, nI o, T, X), ?_, rfl⟩
    rcases hk with rfl | ⟨rfl, b1, b2, b3⟩
    · simp only [fX5_isTrue, eq_self, if_true, v1, ob, a1, i10, if_false, t1, hi, hu]
    · simp only [fX5_isTrue, b1, b2, b3, eq_self, if_true, v1, ob, a1, i10, if_false, t1, hi, hu]
def ckA (K D L C : Nat → Int32) : Nat → Int64
  | 0 => 7
  | k + 1 => ((31 : Int64) * (((31 : Int64) * (((31 : Int64) * (((31 : Int64) * ckA K D L C k) + (K k).toInt64)) + (D k).toInt64)) + (L k).toInt64)) + (C k).toInt64
theorem ckA_cong {K D L C K' D' L' C' : Nat → Int32} : ∀ m, (∀ v, v < m → K v = K' v ∧ D v = D' v ∧ L v = L' v ∧ C v = C' v) → ckA K D L C m = ckA K' D' L' C' m
  | 0, _ => rfl
  | m + 1, h => by
    obtain ⟨h1, h2, h3, h4⟩ := h m (Nat.lt_succ_self m)
    rw [ckA, ckA, ckA_cong m (fun v hv => h v (by omega)), h1, h2, h3, h4]
def ckB (K W : Nat → Int32) (x : Int64) : Nat → Int64
  | 0 => x
  | k + 1 => ((31 : Int64) * (((31 : Int64) * ckB K W x k) + (K k).toInt64)) + (W k).toInt64
theorem ckB_cong {K W K' W' : Nat → Int32} {x : Int64} : ∀ m, (∀ v, v < m → K v = K' v ∧ W v = W' v) → ckB K W x m = ckB K' W' x m
  | 0, _ => rfl
  | m + 1, h => by
    obtain ⟨h1, h2⟩ := h m (Nat.lt_succ_self m)
    rw [ckB, ckB, ckB_cong m (fun v hv => h v (by omega)), h1, h2]
theorem c_ckA (R : lR n so gB gK nK nN fM fL fC fQ mK mJ) : zloop (sX5_checksum_6 (nI n) nK nN fL fC) 32 (7, 0) = some (ckA nK (fun v => nI (deg n (zA nN) v)) fL fC n, nI n) := by
  have hn := R.1.1
  refine p_for (fun k => (ckA nK (fun v => nI (deg n (zA nN) v)) fL fC k, nI k)) n (fun k hk => ?_) ?_ (by omega) rfl
  · have zk : zin (nI k) 12 := p_in (by omega) (by omega)
    dsimp only [sX5_checksum_6]
    rw [if_neg (nI_ge hk (by omega)), if_pos zk, c_degree R.1 hk, ob, if_pos zk, if_pos zk, p_cl (i := k) (by omega), nI_1]
    rfl
  · dsimp only [sX5_checksum_6]
    rw [if_pos (nI_le (Nat.le_refl n) (by omega))]
theorem r_ckA (R : lR n so gB gK nK nN fM fL fC fQ mK mJ) (len : Nat → Int32) : zloop (sX6_checksum_16 (nI n) (enc so) mK mJ len) 32 (7, 0) = some (ckA mK (fun v => nI (deg n (zA nN) v)) len (fun v => nI ((bFO n (zA nN) so).2.2.1 v)) n, nI n) := by
  have hn := R.1.1
  refine p_for (fun k => (ckA mK (fun v => nI (deg n (zA nN) v)) len (fun v => nI ((bFO n (zA nN) so).2.2.1 v)) k, nI k)) n (fun k hk => ?_) ?_ (by omega) rfl
  · have zk : zin (nI k) 12 := p_in (by omega) (by omega)
    dsimp only [sX6_checksum_16]
    rw [if_neg (nI_ge hk (by omega)), if_pos zk, r_degree hn R.2.1 hk, ob, if_pos zk, p_cl (i := k) (by omega), nI_1]
    cases so with
    | none =>
      rw [if_neg (show ¬ (0 : Int32) ≤ enc none by decide)]
      rfl
    | some s =>
      have hs := R.s s rfl
      have w2 : fX6_allWays (nI n) (enc (some s)) mJ (nI k) = some (nI (bW n (zA nN) s k)) := r_allWays hn R.2.1 hs hk
      rw [if_pos (show (0 : Int32) ≤ enc (some s) from nI_pos' (by omega)), w2, ob]
      rfl
  · dsimp only [sX6_checksum_16]
    rw [if_pos (nI_le (Nat.le_refl n) (by omega))]
theorem c_ckB {c : Nat} {K W : Nat → Int32} {x : Int64} (hc : c ≤ 12) : zloop (sX5_checksum_160 (nI c) K W) 32 (x, 0) = some (ckB K W x c, nI c) := by
  refine p_for (fun k => (ckB K W x k, nI k)) c (fun k hk => ?_) ?_ (by omega) rfl
  · have zk : zin (nI k) 12 := p_in (by omega) (by omega)
    dsimp only [sX5_checksum_160]
    rw [if_neg (nI_ge hk (by omega)), if_pos zk, if_pos zk, p_cl (i := k) (by omega), nI_1]
    rfl
  · dsimp only [sX5_checksum_160]
    rw [if_pos (nI_le (Nat.le_refl c) (by omega))]
theorem r_ckB {c : Nat} {K W : Nat → Int32} {x : Int64} (hc : c ≤ 12) : zloop (sX6_checksum_144 (nI c) K W) 32 (x, 0) = some (ckB K W x c, nI c) := by
  refine p_for (fun k => (ckB K W x k, nI k)) c (fun k hk => ?_) ?_ (by omega) rfl
  · have zk : zin (nI k) 12 := p_in (by omega) (by omega)
    dsimp only [sX6_checksum_144]
    rw [if_neg (nI_ge hk (by omega)), if_pos zk, if_pos zk, p_cl (i := k) (by omega), nI_1]
    rfl
  · dsimp only [sX6_checksum_144]
    rw [if_pos (nI_le (Nat.le_refl c) (by omega))]
theorem q_sum (R : lR n so gB gK nK nN fM fL fC fQ mK mJ) {c : Nat} {xK xW mC mW : Nat → Int32} (hc : c ≤ 12) (hX : ∀ v, v < c → xK v = mC v ∧ xW v = mW v) (wM : Int32) (wL wC wQ cT : Nat → Int32) : ∃ r s, fX5_checksum (nI n) nK nN fL fC wM wL wC wQ cT (nI c) xK xW = some r ∧ fX6_checksum (nI n) (enc so) (nI c) mK mC mW mJ = some s ∧ r.1 = s.1 := by
  have hn := R.1.1
  obtain ⟨len, l1, l2⟩ := r_lengths hn R.2.1 R.s
  obtain ⟨v, v1, v2, v3, v4⟩ := q_pt R cT wM wL wC wQ
  have hA := ckA_cong (K := nK) (D := fun v => nI (deg n (zA nN) v)) (L := fL) (C := fC) (K' := mK) (D' := fun v => nI (deg n (zA nN) v)) (L' := len) (C' := fun v => nI ((bFO n (zA nN) so).2.2.1 v)) n (fun v hv => ⟨(R.2.2.1 v hv).symm, rfl, (R.L v hv).1.trans (l2 v hv).symm, (R.L v hv).2⟩)
  have hF : ∀ w9 : Int32, ((if v.2.1 = 0 then some 0 else some 1) : Option Int32) = some w9 → ∃ r, fX5_checksum (nI n) nK nN fL fC wM wL wC wQ cT (nI c) xK xW = some r ∧ r.1 = ckB xK xW (((31 : Int64) * (((31 : Int64) * (((31 : Int64) * ckA nK (fun v => nI (deg n (zA nN) v)) fL fC n) + v.1.toInt64)) + w9.toInt64)) + (nI c).toInt64) c := fun w9 h => by
    unfold fX5_checksum
    rw [c_ckA R, ob, v1, ob, h, ob, c_ckB hc, ob]
    exact ⟨_, rfl, rfl⟩
  have hG : ∀ od w : Int32, fX6_odd (nI n) mJ = some od → ((if od = 0 then some 1 else some 0) : Option Int32) = some w → ∃ s, fX6_checksum (nI n) (enc so) (nI c) mK mC mW mJ = some s ∧ s.1 = ckB mC mW (((31 : Int64) * (((31 : Int64) * (((31 : Int64) * ckA mK (fun v => nI (deg n (zA nN) v)) len (fun v => nI ((bFO n (zA nN) so).2.2.1 v)) n) + (nI (prt n (zA nN) n)).toInt64)) + w.toInt64)) + (nI c).toInt64) c := fun od w h1 h2 => by
    unfold fX6_checksum
    rw [l1, ob, r_ckA R, ob, r_parts hn R.2.1, ob, h1, ob, h2, ob, r_ckB hc, ob]
    exact ⟨_, rfl, rfl⟩
  rcases v4 with ⟨a1, a2, a3⟩ | ⟨a1, o, g, g3, gn, a2⟩
  · obtain ⟨r, r1, r2⟩ := hF 1 (by rw [a1, if_neg (by decide)])
    obtain ⟨s, s1, s2⟩ := hG 0 1 a2 (if_pos rfl)
    refine ⟨r, s, r1, s1, ?_⟩
    rw [r2, s2, hA, v2]
    exact ckB_cong c hX
  · obtain ⟨r, r1, r2⟩ := hF 0 (if_pos a1)
    obtain ⟨s, s1, s2⟩ := hG _ 0 a2 (if_neg (nI_ne0 (by omega) (by omega)))
    refine ⟨r, s, r1, s1, ?_⟩
    rw [r2, s2, hA, v2]
    exact ckB_cong c hX
end LQ3
