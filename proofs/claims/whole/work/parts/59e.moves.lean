/-! PURE: the calls that change the net, both sides -/
def lS (gB gK nS : Int32) (nK nN : Nat → Int32) (fM : Int32) (fL fC fQ : Nat → Int32) (xS : Int32) (xK xW : Nat → Int32) (mN mS mX : Int32) (mK mC mW : Nat → Int32) (mJ : Nat → Nat → Int32) : Prop :=
  ∃ n so, nS = nI n ∧ mN = nI n ∧ mS = enc so ∧ lR n so gB gK nK nN fM fL fC fQ mK mJ ∧ lX xS xK xW mX mC mW
theorem lX0 {xK xW mC mW : Nat → Int32} : lX 0 xK xW 0 mC mW := ⟨0, by omega, rfl, rfl, fun v hv => absurd hv (Nat.not_lt_zero v)⟩
theorem kIns_up1 {K : Nat → Int32} {p s : Nat} {key : Int32} : kIns K p key (up1 p s) = K s := by
  unfold kIns up1
  by_cases h : s < p
  · rw [if_pos h, if_pos h]
  · rw [if_neg h, if_neg (by omega), if_neg (by omega), Nat.add_sub_cancel]
theorem up1_dn {g s : Nat} (h : s ≠ g) : up1 g (dn g s) = s := by
  unfold dn
  by_cases a : s < g
  · rw [if_pos a]
    exact if_pos a
  · rw [if_neg a]
    unfold up1
    rw [if_neg (by omega)]
    omega
theorem enc_lt {p : Nat} (hp : p < 1000) : enc none < nI p := Int32.lt_of_lt_of_le (show enc none < 0 by decide) (nI_pos' (by omega))
section LM
variable {gB gK nS : Int32} {nK nN : Nat → Int32} {fM : Int32} {fL fC fQ : Nat → Int32} {xS : Int32} {xB xK xW : Nat → Int32} {mN mS mX : Int32} {mK mC mW : Nat → Int32} {mJ : Nat → Nat → Int32}
theorem q_place (S : lS gB gK nS nK nN fM fL fC fQ xS xK xW mN mS mX mK mC mW mJ) (uU : Nat → Int64) (p0 : Int32) : ∃ r s, fL_place uU gB gK nS nK nN fM fL fC fQ xS p0 = some r ∧ fX6_place mN mS mX mK mJ p0 = some s ∧ s.2.2.2.2.1 = r.1 ∧ (r.1 = 0 → lg_cmp (r.2.1 (0 : Int32).toNatClampNeg) s.1.toInt64 = 0) ∧ lS gB gK r.2.2.1 r.2.2.2.1 r.2.2.2.2.1 r.2.2.2.2.2.1 r.2.2.2.2.2.2.1 r.2.2.2.2.2.2.2.1 r.2.2.2.2.2.2.2.2.1 r.2.2.2.2.2.2.2.2.2 xK xW s.2.1 s.2.2.1 s.2.2.2.1 s.2.2.2.2.2.1 mC mW s.2.2.2.2.2.2 := by
  obtain ⟨n, so, rfl, rfl, rfl, R, X⟩ := S
  have hn := R.1.1
  have hK := R.2.2.1
  rcases q_key (key := p0) hn hK with ⟨i, hi, hk, k1, k2, k3, k4⟩ | ⟨h, k1, k2, k3, k4⟩
  · have e1 : (nI i = -1) = False := eq_false (p_m1 (by omega))
    refine ⟨(1, uU, nI n, nK, nN, fM, fL, fC, fQ, xS), (0, nI n, enc so, mX, 1, mK, mJ), ?_, ?_, rfl, fun e => absurd e n1, n, so, rfl, rfl, rfl, R, X⟩
    · simp only [fL_place, fX5_place, k2, ob, e1, if_false, Sum.elim_inl, eq_self, if_true]
    · simp only [fX6_place, k3, ob, i10, if_false]
      by_cases hq : (12 : Int32) ≤ nI n
      · rw [if_pos hq, ob, p_can01, ob]
        simp only [eq_self, if_true]
      · rw [if_neg hq, ob, p_can01, ob]
        simp only [eq_self, if_true]
  · by_cases hlt : n < 12
    · have e2 : (nI n < 12) = True := eq_true (nI_lt (b := 12) hlt (by omega))
      obtain ⟨p, hp, h1, h2⟩ := rise_pos (key := p0) n R.2.2.2.1
      have h1' : ∀ v, v < p → mK v ≤ p0 := fun v hv => by
        rw [hK v (by omega)]
        exact h1 v hv
      have h2' : ∀ v, p ≤ v → v < n → ¬ mK v ≤ p0 := fun v hv1 hv2 => by
        rw [hK v hv2]
        exact h2 v hv1 hv2
      obtain ⟨K', N', c1, c2, c3⟩ := c_insert R.1 hlt hp h1 h2
      obtain ⟨o1, o2⟩ := ok_ins R.1 hlt hp c3
      obtain ⟨e, r1, r2⟩ := r_keys (K := mK) (key := p0) hlt hp
      obtain ⟨f, g1, g2⟩ := r_pl3 hlt hp R.2.1
      have zp : zin (nI p) 12 := p_in (by omega) (by omega)
      have hr' := rise_ins R.2.2.2.1 hp h1 h2 h c2
      have hso' : ∀ s, so.map (up1 p) = some s → s < n + 1 ∧ gK = K' s := fun s hs => by
        cases so with
        | none => cases hs
        | some s0 =>
          obtain ⟨a1, a2⟩ := R.2.2.2.2.1 s0 rfl
          have hs : up1 p s0 = s := Option.some.inj hs
          have hlt1 : up1 p s0 < n + 1 := up1_lt (n := n + 1) (by omega)
          rw [← hs, c2 _ hlt1, kIns_up1]
          exact ⟨hlt1, a2⟩
      have hB' : gB = (if (so.map (up1 p)).isSome = true then 1 else 0) := by
        cases so with
        | none => exact R.2.2.2.2.2.1
        | some s0 => exact R.2.2.2.2.2.1
      obtain ⟨v, d1, d2⟩ := c_sfs (nN := N') o1.1 hr' hso' hB' fL fC fQ
      have hkk : ∀ u, u < n + 1 → upd e.2 p p0 u = K' u := fun u hu => by
        rw [r2 u hu, c2 u hu]
        unfold kIns
        by_cases a1 : u < p
        · rw [if_pos a1, if_pos a1, hK u (by omega)]
        · by_cases a2 : u = p
          · rw [if_neg a1, if_neg a1, if_pos a2, if_pos a2]
          · rw [if_neg a1, if_neg a1, if_neg a2, if_neg a2, hK (u - 1) (by omega)]
      have hS : (if enc so < nI p then enc so else enc so + 1) = enc (so.map (up1 p)) := by
        cases so with
        | none => exact if_pos (enc_lt (by omega))
        | some s0 =>
          have hs0 := R.s s0 rfl
          show (if nI s0 < nI p then nI s0 else nI s0 + 1) = nI (up1 p s0)
          unfold up1
          by_cases a : s0 < p
          · rw [if_pos a, if_pos (nI_lt a (by omega))]
          · rw [if_neg a, if_neg (nI_nlt (by omega) (by omega)), nI_1]
      refine ⟨(0, vp_updL uU (0 : Int32).toNatClampNeg (nI (n + 1)).toInt64, nI (n + 1), K', N', v.1, v.2.1, v.2.2.1, v.2.2.2, 0), (nI n + 1, nI n + 1, enc (so.map (up1 p)), 0, 0, upd e.2 p p0, f.2), ?_, ?_, rfl, fun _ => lA_ok (uU := uU) (nI_1 n).symm, n + 1, so.map (up1 p), rfl, nI_1 n, rfl, ⟨o1, mJR_eq o2 g2, hkk, hr', hso', hB', Or.inr d2⟩, lX0⟩
      · simp only [fL_place, fX5_place, k2, ob, eq_self, if_true, e2, c1, fX0_clear, d1, Sum.elim_inr]
      · have e3 : ((12 : Int32) ≤ nI n) = False := eq_false (q12n hlt)
        simp only [fX6_place, k3, ob, eq_self, if_true, e3, if_false, p_can1, i10, r_pos hlt hp h1' h2', r1, g1]
        rw [if_pos zp, p_cl (i := p) (by omega), ← hS]
        by_cases a : enc so < nI p
        · rw [if_pos a, if_pos a]
        · rw [if_neg a, if_neg a]
    · have e2 : (nI n < 12) = False := eq_false (nI_nlt (a := n) (b := 12) (by omega) (by omega))
      have e3 : ((12 : Int32) ≤ nI n) = True := eq_true (q12 (by omega) (by omega))
      refine ⟨(2, uU, nI n, nK, nN, fM, fL, fC, fQ, xS), (0, nI n, enc so, mX, 2, mK, mJ), ?_, ?_, rfl, fun e => absurd e n2, n, so, rfl, rfl, rfl, R, X⟩
      · simp only [fL_place, fX5_place, k2, ob, e2, if_false, Sum.elim_inl, eq_self, if_true, s_ai]
      · simp only [fX6_place, k3, ob, eq_self, if_true, e3, p_can02]
theorem q_leave (S : lS gB gK nS nK nN fM fL fC fQ xS xK xW mN mS mX mK mC mW mJ) (uU : Nat → Int64) (p0 : Int32) : ∃ r s, fL_leave uU gB gK nS nK nN fM fL fC fQ xS p0 = some r ∧ fX6_leave mN mS mX mK mJ p0 = some s ∧ s.2.2.2.2.1 = r.1 ∧ (r.1 = 0 → lg_cmp (r.2.1 (0 : Int32).toNatClampNeg) s.1.toInt64 = 0) ∧ lS r.2.2.1 gK r.2.2.2.1 r.2.2.2.2.1 r.2.2.2.2.2.1 r.2.2.2.2.2.2.1 r.2.2.2.2.2.2.2.1 r.2.2.2.2.2.2.2.2.1 r.2.2.2.2.2.2.2.2.2.1 r.2.2.2.2.2.2.2.2.2.2 xK xW s.2.1 s.2.2.1 s.2.2.2.1 s.2.2.2.2.2.1 mC mW s.2.2.2.2.2.2 := by
  obtain ⟨n, so, rfl, rfl, rfl, R, X⟩ := S
  have hn := R.1.1
  have hK := R.2.2.1
  rcases q_key (key := p0) hn hK with ⟨g, hg, hk, k1, k2, k3, k4⟩ | ⟨h, k1, k2, k3, k4⟩
  · obtain ⟨K', N', c1, c2, c3⟩ := c_remove (nK := nK) R.1 hg
    obtain ⟨o1, o2⟩ := ok_rem R.1 hg c3
    obtain ⟨e, r1, r2⟩ := r_lkeys (K := mK) hn hg
    obtain ⟨f, g1, g2⟩ := r_lv3 hn hg R.2.1
    have hr' := rise_rem R.2.2.2.1 c2
    have hnp : nI n - 1 = nI (n - 1) := by
      obtain ⟨n', rfl⟩ : ∃ n', n = n' + 1 := ⟨n - 1, by omega⟩
      exact nI_pred n'
    have hkk : ∀ u, u < n - 1 → e.2 u = K' u := fun u hu => by
      rw [r2 u hu, c2 u hu]
      exact hK _ (up1_lt hu)
    obtain ⟨so', gB', hb, hS, hso', hB'⟩ : ∃ so' gB', ((if gB = 0 then some gB else if gK = p0 then some 0 else some gB) : Option Int32) = some gB' ∧ (∀ A B C E F G : Int32, ∀ M : Nat → Int32, ∀ N : Nat → Nat → Int32, ((if enc so = nI g then some (A, B, (-1), C, E, M, N) else if enc so ≤ nI g then some (A, B, enc so, C, E, M, N) else some (A, B, (enc so - 1), C, E, M, N)) : Option (Int32 × Int32 × Int32 × Int32 × Int32 × (Nat → Int32) × (Nat → Nat → Int32))) = some (A, B, enc so', C, E, M, N)) ∧ (∀ s, so' = some s → s < n - 1 ∧ gK = K' s) ∧ gB' = (if so'.isSome = true then 1 else 0) := by
      cases so with
      | none =>
        have hB := R.B0
        refine ⟨none, 0, if_pos hB |>.trans (congrArg some hB), fun A B C E F G M N => ?_, fun s hs => (by cases hs), rfl⟩
        have hl := enc_lt (p := g) (by omega)
        have hne : ¬ enc none = nI g := fun q => by
          rw [q] at hl
          exact Int32.lt_irrefl hl
        rw [if_neg hne, if_pos (Int32.le_of_lt hl)]
      | some s =>
        obtain ⟨a1, a2⟩ := R.2.2.2.2.1 s rfl
        have hB := R.B1
        by_cases a : s = g
        · subst a
          refine ⟨none, 0, ?_, fun A B C E F G M N => if_pos rfl, fun s hs => (by cases hs), rfl⟩
          rw [hB, if_neg (by decide), if_pos (a2.trans hk)]
        · refine ⟨some (dn g s), 1, ?_, fun A B C E F G M N => ?_, fun s' hs => ?_, rfl⟩
          · rw [hB, if_neg (by decide), if_neg (fun q => rise_ne R.2.2.2.1 a1 hg a (a2.symm.trans (q.trans hk.symm)))]
          · show ((if nI s = nI g then some (A, B, (-1), C, E, M, N) else if nI s ≤ nI g then some (A, B, nI s, C, E, M, N) else some (A, B, (nI s - 1), C, E, M, N)) : Option (Int32 × Int32 × Int32 × Int32 × Int32 × (Nat → Int32) × (Nat → Nat → Int32))) = some (A, B, nI (dn g s), C, E, M, N)
            rw [if_neg (fun q => a ((p_eq (by omega) (by omega)).mp q))]
            unfold dn
            by_cases b : s < g
            · rw [if_pos b, if_pos (nI_le (by omega) (by omega))]
            · obtain ⟨t, rfl⟩ : ∃ t, s = t + 1 := ⟨s - 1, by omega⟩
              rw [if_neg b, if_neg (nI_ge (by omega) (by omega)), nI_pred, Nat.add_sub_cancel]
          · have hs : dn g s = s' := Option.some.inj hs
            have hlt : dn g s < n - 1 := by
              unfold dn
              by_cases b : s < g
              · rw [if_pos b]
                omega
              · rw [if_neg b]
                omega
            rw [← hs, c2 _ hlt]
            unfold kRem
            rw [up1_dn a]
            exact ⟨hlt, a2⟩
    obtain ⟨v, d1, d2⟩ := c_sfs (nN := N') o1.1 hr' hso' hB' fL fC fQ
    refine ⟨(0, vp_updL uU (0 : Int32).toNatClampNeg (nI (deg n (zA nN) g)).toInt64, gB', nI (n - 1), K', N', v.1, v.2.1, v.2.2.1, v.2.2.2, 0), (nI (deg n (zA nN) g), nI n - 1, enc so', 0, 0, e.2, f.2), ?_, ?_, rfl, fun _ => lA_ok (uU := uU) rfl, n - 1, so', rfl, hnp, rfl, ⟨o1, mJR_eq o2 g2, hkk, hr', hso', hB', Or.inr d2⟩, lX0⟩
    · simp only [fL_leave, fX5_leave, k1, ob, Sum.elim_inr, c_degree R.1 hg, c1, hb, fX0_clear, d1]
    · simp only [fX6_leave, k3, k4, ob, p_can1, i10, if_false, r_degree hn R.2.1 hg, r1, g1]
      exact hS _ _ _ _ 0 0 _ _
  · refine ⟨(1, uU, gB, nI n, nK, nN, fM, fL, fC, fQ, xS), (0, nI n, enc so, mX, 1, mK, mJ), ?_, ?_, rfl, fun e => absurd e n1, n, so, rfl, rfl, rfl, R, X⟩
    · simp only [fL_leave, fX5_leave, k1, ob, Sum.elim_inl, eq_self, if_true]
    · simp only [fX6_leave, k3, ob, p_can01, eq_self, if_true]
theorem q_begin (S : lS gB gK nS nK nN fM fL fC fQ xS xK xW mN mS mX mK mC mW mJ) (uU : Nat → Int64) (p0 : Int32) : ∃ r s, fL_begin uU gB gK nS nK nN fM fL fC fQ xS p0 = some r ∧ fX6_begin mN mS mX mK mJ p0 = some s ∧ s.2.2.2 = r.1 ∧ (r.1 = 0 → lg_cmp (r.2.1 (0 : Int32).toNatClampNeg) s.1.toInt64 = 0) ∧ lS r.2.2.1 r.2.2.2.1 nS nK nN r.2.2.2.2.1 r.2.2.2.2.2.1 r.2.2.2.2.2.2.1 r.2.2.2.2.2.2.2.1 r.2.2.2.2.2.2.2.2 xK xW mN s.2.1 s.2.2.1 mK mC mW mJ := by
  obtain ⟨n, so, rfl, rfl, rfl, R, X⟩ := S
  have hn := R.1.1
  have hK := R.2.2.1
  rcases q_key (key := p0) hn hK with ⟨i, hi, hk, k1, k2, k3, k4⟩ | ⟨h, k1, k2, k3, k4⟩
  · have hso' : ∀ s, some i = some s → s < n ∧ p0 = nK s := fun s hs => by
      cases hs
      exact ⟨hi, hk.symm⟩
    obtain ⟨v, d1, d2⟩ := c_sfs (nN := nN) (gB := 1) (so := some i) hn R.2.2.2.1 hso' rfl fL fC fQ
    obtain ⟨len, l1, l2⟩ := r_lengths (so := some i) hn R.2.1 (fun s hs => (hso' s hs).1)
    have l1 : fX6_lengths (nI n) mJ (nI i) = some len := l1
    have hcm := r_come hn hi l2
    have hv : v.1 = nI (bF n (zA nN) i).1 := d2.1
    refine ⟨(0, vp_updL uU (0 : Int32).toNatClampNeg v.1.toInt64, 1, p0, v.1, v.2.1, v.2.2.1, v.2.2.2, 0), (nI n - nI (pct (fun v => decide (len v = -1)) n), nI i, 0, 0), ?_, ?_, rfl, fun _ => lA_ok (uU := uU) (hv.trans hcm.symm), n, some i, rfl, rfl, rfl, ⟨R.1, R.2.1, hK, R.2.2.2.1, hso', rfl, Or.inr d2⟩, lX0⟩
    · simp only [fL_begin, fX5_begin, k1, ob, Sum.elim_inr, fX0_clear, d1]
    · simp only [fX6_begin, k3, k4, ob, p_can1, i10, if_false, l1, r_having hn]
  · refine ⟨(1, uU, gB, gK, fM, fL, fC, fQ, xS), (0, enc so, mX, 1), ?_, ?_, rfl, fun e => absurd e n1, n, so, rfl, rfl, rfl, R, X⟩
    · simp only [fL_begin, fX5_begin, k1, ob, Sum.elim_inl, eq_self, if_true]
    · simp only [fX6_begin, k3, ob, p_can01, eq_self, if_true]
theorem zJ_set {n i j : Nat} {a : Nat → Nat → Bool} {M : Nat → Nat → Int32} {on : Bool} (hM : mJR n a M) : mJR n (aJ a i j on) (zup2 (zup2 M i j (bI01 on)) j i (bI01 on)) := by
  intro u v hu hv
  unfold aJ
  by_cases e1 : u = j ∧ v = i
  · obtain ⟨rfl, rfl⟩ := e1
    rw [zup2_s, if_pos (Or.inr ⟨rfl, rfl⟩)]
    rfl
  · rw [zup2_n e1]
    by_cases e2 : u = i ∧ v = j
    · obtain ⟨rfl, rfl⟩ := e2
      rw [zup2_s, if_pos (Or.inl ⟨rfl, rfl⟩)]
      rfl
    · rw [zup2_n e2, if_neg (show ¬ ((u = i ∧ v = j) ∨ (u = j ∧ v = i)) from fun q => q.elim e2 e1)]
      exact hM u v hu hv
theorem q_turn {n : Nat} {so : Option Nat} {on : Bool} {i j : Nat} {N' : Nat → Int32} (R : lR n so gB gK nK nN fM fL fC fQ mK mJ) (hi : i < n) (hj : j < n) (hne : i ≠ j) (hb : ∀ u, u < n → ∀ k, k < 32 → bt (N' u) k = aJ (zA nN) i j on u k) (xB xK xW mC mW : Nat → Int32) : ∃ v8 v10 v11 v13, fX0_remember xB fL = some v8 ∧ fX5_spreadFromStart gB gK (nI n) nK N' fL fC fQ = some v10 ∧ fX0_compare v8 xK xW (nI n) nK v10.2.1 = some v11 ∧ fX6_turn (nI n) (enc so) mK mC mW mJ (nI i) (nI j) (bI01 on) = some v13 ∧ v11.1 = v13.1 ∧ lR n so gB gK nK N' v10.1 v10.2.1 v10.2.2.1 v10.2.2.2 mK v13.2.2.2.2 ∧ lX v11.1 v11.2.1 v11.2.2 v13.2.1 v13.2.2.1 v13.2.2.2.1 := by
  have hn := R.1.1
  obtain ⟨o1, o2⟩ := ok_J R.1 hi hj hne hb
  obtain ⟨v8, b1, b2⟩ := c_remember xB fL
  obtain ⟨v10, d1, d2⟩ := c_sfs (nN := N') hn R.2.2.2.1 R.2.2.2.2.1 R.2.2.2.2.2.1 fL fC fQ
  obtain ⟨A, B, e1, e2⟩ := c_compare (n := n) (xB := v8) (xK := xK) (xW := xW) (nK := nK) (yL := v10.2.1) hn
  obtain ⟨len, l1, l2⟩ := r_lengths hn R.2.1 R.s
  have hM : mJR n (zA N') (zup2 (zup2 mJ i j (bI01 on)) j i (bI01 on)) := mJR_eq o2 (zJ_set R.2.1)
  obtain ⟨len2, l3, l4⟩ := r_lengths hn hM R.s
  obtain ⟨z, z1, z2, z3⟩ := r_compare (n := n) (f := len) (g := len2) (mK := mK) (mC := mC) (mW := mW) hn
  have zi : zin (nI i) 12 := p_in (by omega) (by omega)
  have zj : zin (nI j) 12 := p_in (by omega) (by omega)
  have hf : ∀ v, v < n → v8 v = len v := fun v hv => by
    rw [b2 v (by omega), (R.L v hv).1, l2 v hv]
  have hg : ∀ v, v < n → v10.2.1 v = len2 v := fun v hv => by
    rw [d2.2.1 v (by omega), l4 v hv]
  have hc : chN v8 v10.2.1 n = chN len len2 n := pct_cong2 hf hg (Nat.le_refl n)
  have hcl := chN_le (f := v8) (g := v10.2.1) n
  refine ⟨v8, v10, (nI (chN v8 v10.2.1 n), A, B), (z.2.1, z.2.1, z.2.2.1, z.2.2.2, zup2 (zup2 mJ i j (bI01 on)) j i (bI01 on)), b1, d1, e1, ?_, ?_, ⟨o1, hM, R.2.2.1, R.2.2.2.1, R.2.2.2.2.1, R.2.2.2.2.2.1, Or.inr d2⟩, chN v8 v10.2.1 n, by omega, rfl, ?_, ch_same hf hg (fun v hv => (R.2.2.1 v hv).symm) e2 z3⟩
  · unfold fX6_turn
    rw [l1, ob, if_pos zi, if_pos zj, if_pos (bI01_01 on), ob, if_pos zj, if_pos zi, if_pos (bI01_01 on), ob]
    simp only [p_cl (i := i) (by omega), p_cl (i := j) (by omega)]
    rw [l3, ob, z1, ob]
  · show nI (chN v8 v10.2.1 n) = z.2.1
    rw [z2, hc]
  · show z.2.1 = nI (chN v8 v10.2.1 n)
    rw [z2, hc]
theorem q_street (S : lS gB gK nS nK nN fM fL fC fQ xS xK xW mN mS mX mK mC mW mJ) (uU : Nat → Int64) (xB : Nat → Int32) (p0 p1 : Int32) : ∃ r s, fL_street uU gB gK nS nK nN fM fL fC fQ xS xB xK xW p0 p1 = some r ∧ fX6_street mN mS mX mK mC mW mJ p0 p1 = some s ∧ s.2.2.1 = r.1 ∧ (r.1 = 0 → lg_cmp (r.2.1 (0 : Int32).toNatClampNeg) s.1.toInt64 = 0) ∧ lS gB gK nS nK r.2.2.1 r.2.2.2.1 r.2.2.2.2.1 r.2.2.2.2.2.1 r.2.2.2.2.2.2.1 r.2.2.2.2.2.2.2.1 r.2.2.2.2.2.2.2.2.2.1 r.2.2.2.2.2.2.2.2.2.2 mN mS s.2.1 mK s.2.2.2.1 s.2.2.2.2.1 s.2.2.2.2.2 := by
  obtain ⟨n, so, rfl, rfl, rfl, R, X⟩ := S
  have hn := R.1.1
  have hK := R.2.2.1
  rcases q_key (key := p0) hn hK with ⟨i, hi, hk, k1, k2, k3, k4⟩ | ⟨h, k1, k2, k3, k4⟩
  · rcases q_key (key := p1) hn hK with ⟨j, hj, hk', l1, l2, l3, l4⟩ | ⟨h, l1, l2, l3, l4⟩
    · have zi : zin (nI i) 12 := p_in (by omega) (by omega)
      have zj : zin (nI j) 12 := p_in (by omega) (by omega)
      by_cases hij : i = j
      · subst hij
        have hpp : p0 = p1 := hk.symm.trans hk'
        subst hpp
        refine ⟨(2, uU, nN, fM, fL, fC, fQ, xS, xB, xK, xW), (0, mX, 2, mC, mW, mJ), ?_, ?_, rfl, fun e => absurd e n2, n, so, rfl, rfl, rfl, R, X⟩
        · simp only [fL_street, fX5_street, k1, ob, Sum.elim_inr, Sum.elim_inl, eq_self, if_true, s_an, if_false]
        · simp only [fX6_street, k3, ob, i10, if_false, eq_self, if_true, p_can02]
      · have hpp : (p0 = p1) = False := eq_false (fun q => rise_ne R.2.2.2.1 hi hj hij (hk.trans (q.trans hk'.symm)))
        have hii : (nI i = nI j) = False := eq_false (fun q => hij ((p_eq (by omega) (by omega)).mp q))
        have hm := R.2.1 i j hi hj
        cases hb : bt (nN i) j with
        | true =>
          have hm : mJ i j = 1 := by rw [hm, if_pos hb]
          have hj1 := p_joins1 (nN := nN) (i := i) (j := j) (by omega) (by omega) hb
          refine ⟨(3, uU, nN, fM, fL, fC, fQ, xS, xB, xK, xW), (0, mX, 3, mC, mW, mJ), ?_, ?_, rfl, fun e => absurd e n3, n, so, rfl, rfl, rfl, R, X⟩
          · simp only [fL_street, fX5_street, k1, l1, ob, Sum.elim_inr, Sum.elim_inl, hii, hj1, i10, s_sn, s_ai, if_false, eq_self, if_true]
          · simp only [fX6_street, k3, k4, l3, l4, ob, i10, if_false, hpp, p_can1]
            rw [if_pos zi, if_pos zj, p_cl (i := i) (by omega), p_cl (i := j) (by omega), hm, if_neg (by decide), ob, p_can03, ob]
            simp only [eq_self, if_true]
        | false =>
          have hm : mJ i j = 0 := by rw [hm, show zA nN i j = false from hb, if_neg p_ff]
          have hj1 := p_joins0 (nN := nN) (i := i) (j := j) (by omega) (by omega) hb
          obtain ⟨N', y1, y2⟩ := c_join (nN := nN) hn hi hj hij
          obtain ⟨v8, v10, v11, v13, b1, d1, e1, t1, q1, q2, q3⟩ := q_turn R hi hj hij y2 xB xK xW mC mW
          have t1 : fX6_turn (nI n) (enc so) mK mC mW mJ (nI i) (nI j) 1 = some v13 := t1
          refine ⟨(0, vp_updL uU (0 : Int32).toNatClampNeg v11.1.toInt64, N', v10.1, v10.2.1, v10.2.2.1, v10.2.2.2, v11.1, v8, v11.2.1, v11.2.2), (v13.1, v13.2.1, 0, v13.2.2.1, v13.2.2.2.1, v13.2.2.2.2), ?_, ?_, rfl, fun _ => lA_ok (uU := uU) q1, n, so, rfl, rfl, rfl, q2, q3⟩
          · simp only [fL_street, fX5_street, k1, l1, ob, Sum.elim_inr, hii, hj1, if_false, eq_self, if_true, b1, y1, d1, e1]
          · simp only [fX6_street, k3, k4, l3, l4, ob, i10, if_false, hpp, p_can1]
            rw [if_pos zi, if_pos zj, p_cl (i := i) (by omega), p_cl (i := j) (by omega), hm, if_pos rfl, ob, p_can1, ob]
            simp only [i10, if_false, t1, ob]
    · refine ⟨(1, uU, nN, fM, fL, fC, fQ, xS, xB, xK, xW), (0, mX, 1, mC, mW, mJ), ?_, ?_, rfl, fun e => absurd e n1, n, so, rfl, rfl, rfl, R, X⟩
      · simp only [fL_street, fX5_street, k1, l1, ob, Sum.elim_inr, Sum.elim_inl, eq_self, if_true]
      · simp only [fX6_street, k3, l3, ob, i10, if_false, eq_self, if_true]
        by_cases hq : p0 = p1
        · rw [if_pos hq, ob, p_can01, ob]
          simp only [eq_self, if_true]
        · rw [if_neg hq, ob, p_can01, ob]
          simp only [eq_self, if_true]
  · refine ⟨(1, uU, nN, fM, fL, fC, fQ, xS, xB, xK, xW), (0, mX, 1, mC, mW, mJ), ?_, ?_, rfl, fun e => absurd e n1, n, so, rfl, rfl, rfl, R, X⟩
    · simp only [fL_street, fX5_street, k1, ob, Sum.elim_inl, eq_self, if_true]
    · simp only [fX6_street, k3, ob, eq_self, if_true]
      by_cases hq : p0 = p1
      · rw [if_pos hq, ob, p_can01, ob]
        simp only [eq_self, if_true]
      · rw [if_neg hq, ob, p_can01, ob]
        simp only [eq_self, if_true]
theorem q_tear (S : lS gB gK nS nK nN fM fL fC fQ xS xK xW mN mS mX mK mC mW mJ) (uU : Nat → Int64) (xB : Nat → Int32) (p0 p1 : Int32) : ∃ r s, fL_tear uU gB gK nS nK nN fM fL fC fQ xS xB xK xW p0 p1 = some r ∧ fX6_tear mN mS mX mK mC mW mJ p0 p1 = some s ∧ s.2.2.1 = r.1 ∧ (r.1 = 0 → lg_cmp (r.2.1 (0 : Int32).toNatClampNeg) s.1.toInt64 = 0) ∧ lS gB gK nS nK r.2.2.1 r.2.2.2.1 r.2.2.2.2.1 r.2.2.2.2.2.1 r.2.2.2.2.2.2.1 r.2.2.2.2.2.2.2.1 r.2.2.2.2.2.2.2.2.2.1 r.2.2.2.2.2.2.2.2.2.2 mN mS s.2.1 mK s.2.2.2.1 s.2.2.2.2.1 s.2.2.2.2.2 := by
  obtain ⟨n, so, rfl, rfl, rfl, R, X⟩ := S
  have hn := R.1.1
  have hK := R.2.2.1
  rcases q_key (key := p0) hn hK with ⟨i, hi, hk, k1, k2, k3, k4⟩ | ⟨h, k1, k2, k3, k4⟩
  · rcases q_key (key := p1) hn hK with ⟨j, hj, hk', l1, l2, l3, l4⟩ | ⟨h, l1, l2, l3, l4⟩
    · have zi : zin (nI i) 12 := p_in (by omega) (by omega)
      have zj : zin (nI j) 12 := p_in (by omega) (by omega)
      have hm := R.2.1 i j hi hj
      cases hb : bt (nN i) j with
      | false =>
        have hm : mJ i j = 0 := by rw [hm, show zA nN i j = false from hb, if_neg p_ff]
        have hj1 := p_joins0 (nN := nN) (i := i) (j := j) (by omega) (by omega) hb
        refine ⟨(1, uU, nN, fM, fL, fC, fQ, xS, xB, xK, xW), (0, mX, 1, mC, mW, mJ), ?_, ?_, rfl, fun e => absurd e n1, n, so, rfl, rfl, rfl, R, X⟩
        · simp only [fL_tear, fX5_tear, k1, l1, ob, Sum.elim_inr, Sum.elim_inl, hj1, eq_self, if_true]
        · simp only [fX6_tear, k3, k4, l3, l4, ob, i10, if_false, p_can1]
          rw [if_pos zi, if_pos zj, p_cl (i := i) (by omega), p_cl (i := j) (by omega), hm, p_can01, ob]
          simp only [eq_self, if_true]
      | true =>
        have hm : mJ i j = 1 := by rw [hm, if_pos hb]
        have hj1 := p_joins1 (nN := nN) (i := i) (j := j) (by omega) (by omega) hb
        have hij : i ≠ j := fun e => by
          subst e
          rw [R.1.2.2.2 i hi] at hb
          cases hb
        obtain ⟨N', y1, y2⟩ := c_part (nN := nN) hn hi hj hij
        obtain ⟨v8, v10, v11, v13, b1, d1, e1, t1, q1, q2, q3⟩ := q_turn R hi hj hij y2 xB xK xW mC mW
        have t1 : fX6_turn (nI n) (enc so) mK mC mW mJ (nI i) (nI j) 0 = some v13 := t1
        refine ⟨(0, vp_updL uU (0 : Int32).toNatClampNeg v11.1.toInt64, N', v10.1, v10.2.1, v10.2.2.1, v10.2.2.2, v11.1, v8, v11.2.1, v11.2.2), (v13.1, v13.2.1, 0, v13.2.2.1, v13.2.2.2.1, v13.2.2.2.2), ?_, ?_, rfl, fun _ => lA_ok (uU := uU) q1, n, so, rfl, rfl, rfl, q2, q3⟩
        · simp only [fL_tear, fX5_tear, k1, l1, ob, Sum.elim_inr, hj1, i10, if_false, b1, y1, d1, e1]
        · simp only [fX6_tear, k3, k4, l3, l4, ob, i10, if_false, p_can1]
          rw [if_pos zi, if_pos zj, p_cl (i := i) (by omega), p_cl (i := j) (by omega), hm, p_can1, ob]
          simp only [i10, if_false, t1, ob]
    · refine ⟨(1, uU, nN, fM, fL, fC, fQ, xS, xB, xK, xW), (0, mX, 1, mC, mW, mJ), ?_, ?_, rfl, fun e => absurd e n1, n, so, rfl, rfl, rfl, R, X⟩
      · simp only [fL_tear, fX5_tear, k1, l1, ob, Sum.elim_inr, Sum.elim_inl, eq_self, if_true]
      · simp only [fX6_tear, k3, l3, ob, i10, if_false, eq_self, if_true, p_can01]
  · refine ⟨(1, uU, nN, fM, fL, fC, fQ, xS, xB, xK, xW), (0, mX, 1, mC, mW, mJ), ?_, ?_, rfl, fun e => absurd e n1, n, so, rfl, rfl, rfl, R, X⟩
    · simp only [fL_tear, fX5_tear, k1, ob, Sum.elim_inl, eq_self, if_true]
    · simp only [fX6_tear, k3, ob, eq_self, if_true, p_can01]
end LM
