/-! PURE: the class's queue tells the same -/
theorem q12n {i : Nat} (h : i < 12) : ¬ (12 : Int32) ≤ nI i := nI_ge (b := 12) h (by omega)
theorem q12 {i : Nat} (h : 12 ≤ i) (h2 : i < 1000) : (12 : Int32) ≤ nI i := nI_le (a := 12) h (by omega)
theorem q12l {i : Nat} (h : i ≤ 12) : ¬ (12 : Int32) < nI i := nI_nlt (a := 12) h (by omega)
theorem ob {α β : Type} {x : α} {f : α → Option β} : (some x).bind f = f x := rfl
def enc : Option Nat → Int32
  | none => -1
  | some k => nI k
theorem p_m1 {k : Nat} (h : k < 1000) : nI k ≠ -1 := fun e => nI_pos (n := k) (by omega) (by rw [e]; decide)
theorem enc_inj {x y : Option Nat} (hx : ∀ k, x = some k → k < 1000) (hy : ∀ k, y = some k → k < 1000) : enc x = enc y ↔ x = y := by
  cases x with
  | none =>
    cases y with
    | none => exact ⟨fun _ => rfl, fun _ => rfl⟩
    | some k => exact ⟨fun e => absurd e.symm (p_m1 (hy k rfl)), fun e => by cases e⟩
  | some j =>
    cases y with
    | none => exact ⟨fun e => absurd e (p_m1 (hx j rfl)), fun e => by cases e⟩
    | some k =>
      refine ⟨fun e => ?_, fun e => by rw [e]⟩
      rw [(p_eq (hx j rfl) (hy k rfl)).mp e]
/-- a loop counted through, by an invariant -/
theorem p_cnt {σ ε : Type} {step : σ → Option (ε ⊕ σ)} (I : Nat → σ → Prop) (post : ε → Prop) (N : Nat) (h : ∀ i s, i < N → I i s → ∃ s', step s = some (.inr s') ∧ I (i + 1) s') (hx : ∀ s, I N s → ∃ e, step s = some (.inl e) ∧ post e) {F : Nat} (hF : N < F) {s : σ} (hs : I 0 s) : ∃ e, zloop step F s = some e ∧ post e := by
  refine p_inv I post N (fun i s hi hI => ?_) hF hs
  by_cases e : i = N
  · subst e
    exact Or.inl (hx s hI)
  · exact Or.inr ⟨by omega, h i s (by omega) hI⟩
theorem p_joins1 {nN : Nat → Int32} {i j : Nat} (hi : i < 12) (hj : j < 32) (h : bt (nN i) j = true) : fX3_joins nN (nI i) (nI j) = some 1 := by
  rw [p_joins nN hi hj, h]
  rfl
theorem p_joins0 {nN : Nat → Int32} {i j : Nat} (hi : i < 12) (hj : j < 32) (h : bt (nN i) j = false) : fX3_joins nN (nI i) (nI j) = some 0 := by
  rw [p_joins nN hi hj, h]
  rfl
abbrev zA (nN : Nat → Int32) : Nat → Nat → Bool := fun i j => bt (nN i) j
/-- the class's arrays hold z -/
def cR (z : bSt) (yM : Int32) (yL yC yQ : Nat → Int32) : Prop := yM = nI z.1 ∧ (∀ v, v < 12 → yL v = enc (z.2.1 v)) ∧ (∀ v, v < 12 → yC v = nI (z.2.2.1 v)) ∧ ∀ i, i < z.1 → yQ i = nI (z.2.2.2 i)
theorem v_no {n h m : Nat} {nN : Nat → Int32} {yM : Int32} {yL yC yQ : Nat → Int32} (hn : n ≤ 12) (hm : m < n) (hh : h < 12) (ha : bt (nN h) m = false) : sX2_visitNeighbours_2 (nI n) nN (nI h) (nI m, yM, yL, yC, yQ) = some (.inr (nI (m + 1), yM, yL, yC, yQ)) := by
  dsimp only [sX2_visitNeighbours_2]
  rw [if_neg (nI_ge hm (by omega)), p_joins0 hh (by omega) ha, ob, if_pos rfl, nI_1]
theorem v_new {n h m c : Nat} {nN : Nat → Int32} {yL yC yQ : Nat → Int32} (hn : n ≤ 12) (hm : m < n) (hh : h < 12) (hc : c < 12) (hne : h ≠ m) (ha : bt (nN h) m = true) (hL : yL m = -1) : sX2_visitNeighbours_2 (nI n) nN (nI h) (nI m, nI c, yL, yC, yQ) = some (.inr (nI (m + 1), nI (c + 1), upd yL m (yL h + 1), upd yC m (yC m + yC h), upd yQ c (nI m))) := by
  have zm : zin (nI m) 12 := p_in (by omega) (by omega)
  have zh : zin (nI h) 12 := p_in hh (by omega)
  have zc : zin (nI c) 12 := p_in hc (by omega)
  have h12 : ¬ (12 : Int32) ≤ nI c := nI_ge (b := 12) hc (by omega)
  have he : upd yL m (yL h + 1) m = upd yL m (yL h + 1) h + 1 := by rw [pk_us, pk_un hne]
  dsimp only [sX2_visitNeighbours_2]
  simp only [p_cl (i := m) (by omega), p_cl (i := h) (by omega), p_cl (i := c) (by omega)]
  rw [if_neg (nI_ge hm (by omega)), p_joins1 hh (by omega) ha, ob, if_neg (by decide), if_pos zm, if_pos hL, if_neg h12, if_pos zh, if_pos zm, if_pos zc, ob]
  dsimp only
  rw [if_pos zm, if_pos zh, if_pos he, if_pos zm, if_pos zh, if_pos zm, nI_1, nI_1]
theorem v_add {n h m : Nat} {nN : Nat → Int32} {yM : Int32} {yL yC yQ : Nat → Int32} (hn : n ≤ 12) (hm : m < n) (hh : h < 12) (ha : bt (nN h) m = true) (hL : yL m ≠ -1) (he : yL m = yL h + 1) : sX2_visitNeighbours_2 (nI n) nN (nI h) (nI m, yM, yL, yC, yQ) = some (.inr (nI (m + 1), yM, yL, upd yC m (yC m + yC h), yQ)) := by
  have zm : zin (nI m) 12 := p_in (by omega) (by omega)
  have zh : zin (nI h) 12 := p_in hh (by omega)
  dsimp only [sX2_visitNeighbours_2]
  simp only [p_cl (i := m) (by omega), p_cl (i := h) (by omega)]
  rw [if_neg (nI_ge hm (by omega)), p_joins1 hh (by omega) ha, ob, if_neg (by decide), if_pos zm, if_neg hL, ob]
  dsimp only
  rw [if_pos zm, if_pos zh, if_pos he, if_pos zm, if_pos zh, if_pos zm, nI_1]
theorem v_old {n h m : Nat} {nN : Nat → Int32} {yM : Int32} {yL yC yQ : Nat → Int32} (hn : n ≤ 12) (hm : m < n) (hh : h < 12) (ha : bt (nN h) m = true) (hL : yL m ≠ -1) (he : yL m ≠ yL h + 1) : sX2_visitNeighbours_2 (nI n) nN (nI h) (nI m, yM, yL, yC, yQ) = some (.inr (nI (m + 1), yM, yL, yC, yQ)) := by
  have zm : zin (nI m) 12 := p_in (by omega) (by omega)
  have zh : zin (nI h) 12 := p_in hh (by omega)
  dsimp only [sX2_visitNeighbours_2]
  simp only [p_cl (i := m) (by omega), p_cl (i := h) (by omega)]
  rw [if_neg (nI_ge hm (by omega)), p_joins1 hh (by omega) ha, ob, if_neg (by decide), if_pos zm, if_neg hL, ob]
  dsimp only
  rw [if_pos zm, if_pos zh, if_neg he, nI_1]
theorem c_one {n s t m : Nat} {nN : Nat → Int32} {z : bSt} (hn : n ≤ 12) (I : bI n (zA nN) s t m z) (ht : t < z.1) (hm : m < n) {yM : Int32} {yL yC yQ : Nat → Int32} (hR : cR z yM yL yC yQ) : ∃ yM' yL' yC' yQ', sX2_visitNeighbours_2 (nI n) nN (nI (z.2.2.2 t)) (nI m, yM, yL, yC, yQ) = some (.inr (nI (m + 1), yM', yL', yC', yQ')) ∧ cR (bOne (zA nN) (z.2.2.2 t) m z) yM' yL' yC' yQ' := by
  have hle := bI_le I
  have hlt := fun v k hv h => bI_lt I (v := v) (k := k) hv h
  obtain ⟨c, L, C, q⟩ := z
  have ht : t < c := ht
  have hle : c ≤ n := hle
  have hlt : ∀ v k, v < n → L v = some k → k + 1 ≤ n := hlt
  obtain ⟨hqt, l, hl⟩ := (show q t < n ∧ ∃ k, L (q t) = some k from I.2.2.1 t ht)
  obtain ⟨rfl, r2, r3, r4⟩ := (show yM = nI c ∧ (∀ v, v < 12 → yL v = enc (L v)) ∧ (∀ v, v < 12 → yC v = nI (C v)) ∧ ∀ i, i < c → yQ i = nI (q i) from hR)
  have hb : bL (c, L, C, q) (q t) = l := by
    show (L (q t)).getD 0 = l
    rw [hl]
    rfl
  have hll := hlt _ _ hqt hl
  have hyh : yL (q t) = nI l := by rw [r2 _ (by omega), hl]; rfl
  show ∃ yM' yL' yC' yQ', sX2_visitNeighbours_2 (nI n) nN (nI (q t)) (nI m, nI c, yL, yC, yQ) = _ ∧ cR (if bt (nN (q t)) m = true then (if L m = none then _ else if L m = some (bL (c, L, C, q) (q t) + 1) then _ else _) else _) yM' yL' yC' yQ'
  rw [hb]
  cases ha : bt (nN (q t)) m with
  | false =>
    rw [if_neg (by decide)]
    exact ⟨_, _, _, _, v_no hn hm (by omega) ha, rfl, r2, r3, r4⟩
  | true =>
    rw [if_pos rfl]
    cases hL : L m with
    | none =>
      rw [if_pos rfl]
      have hc : c < n := by
        have h1 : c = pct (fun v => (L v).isSome) n := I.2.1
        rw [h1]
        exact pct_lt hm (by rw [hL]; rfl)
      refine ⟨_, _, _, _, v_new hn hm (by omega) (by omega) (fun e => by rw [e, hL] at hl; cases hl) ha (by rw [r2 m (by omega), hL]; rfl), rfl, fun v hv => ?_, fun v hv => ?_, fun i hi => ?_⟩
      · show upd yL m (yL (q t) + 1) v = enc (bU L m (some (l + 1)) v)
        by_cases hvm : v = m
        · subst hvm
          rw [pk_us, bU_s, hyh, nI_1]
          rfl
        · rw [pk_un hvm, bU_n hvm, r2 v hv]
      · show upd yC m (yC m + yC (q t)) v = nI (bU C m (C m + C (q t)) v)
        by_cases hvm : v = m
        · subst hvm
          rw [pk_us, bU_s, r3 v hv, r3 _ (by omega), nI_add]
        · rw [pk_un hvm, bU_n hvm, r3 v hv]
      · have hi : i < c + 1 := hi
        show upd yQ c (nI m) i = nI (bU q c m i)
        by_cases hvm : i = c
        · subst hvm
          rw [pk_us, bU_s]
        · rw [pk_un hvm, bU_n hvm, r4 i (by omega)]
    | some k =>
      rw [if_neg (by simp)]
      have hkk := hlt _ _ hm hL
      have hym : yL m = nI k := by rw [r2 _ (by omega), hL]; rfl
      by_cases hk : k = l + 1
      · subst hk
        rw [if_pos rfl]
        refine ⟨_, _, _, _, v_add hn hm (by omega) ha (by rw [hym]; exact p_m1 (by omega)) (by rw [hym, hyh, nI_1]), rfl, r2, fun v hv => ?_, r4⟩
        show upd yC m (yC m + yC (q t)) v = nI (bU C m (C m + C (q t)) v)
        by_cases hvm : v = m
        · subst hvm
          rw [pk_us, bU_s, r3 v hv, r3 _ (by omega), nI_add]
        · rw [pk_un hvm, bU_n hvm, r3 v hv]
      · rw [if_neg (fun e => by cases e; exact hk rfl)]
        exact ⟨_, _, _, _, v_old hn hm (by omega) ha (by rw [hym]; exact p_m1 (by omega)) (by rw [hym, hyh, nI_1]; exact fun e => hk ((p_eq (by omega) (by omega)).mp e)), rfl, r2, r3, r4⟩
theorem c_vis {n s t : Nat} {nN : Nat → Int32} {z : bSt} (hn : n ≤ 12) (I : bI n (zA nN) s t 0 z) (ht : t < z.1) {yM : Int32} {yL yC yQ : Nat → Int32} (hR : cR z yM yL yC yQ) : ∃ r, fX2_visitNeighbours yM yL yC yQ (nI n) nN (nI (z.2.2.2 t)) = some r ∧ cR (bVis (zA nN) (z.2.2.2 t) n z) r.1 r.2.1 r.2.2.1 r.2.2.2 := by
  obtain ⟨e, h1, h2⟩ := p_cnt (step := sX2_visitNeighbours_2 (nI n) nN (nI (z.2.2.2 t))) (fun m s => ∃ yM yL yC yQ, s = (nI m, yM, yL, yC, yQ) ∧ cR (bVis (zA nN) (z.2.2.2 t) m z) yM yL yC yQ) (fun e => cR (bVis (zA nN) (z.2.2.2 t) n z) e.2.1 e.2.2.1 e.2.2.2.1 e.2.2.2.2) n (fun m st hm hI => by
    obtain ⟨yM, yL, yC, yQ, rfl, hR⟩ := hI
    obtain ⟨g1, g2, g3⟩ := bI_vis I ht m (by omega)
    obtain ⟨yM', yL', yC', yQ', h3, h4⟩ := c_one hn g1 (by omega) hm hR
    rw [g2] at h3 h4
    exact ⟨_, h3, yM', yL', yC', yQ', rfl, h4⟩) (fun st hI => by
    obtain ⟨yM, yL, yC, yQ, rfl, hR⟩ := hI
    refine ⟨(nI n, yM, yL, yC, yQ), ?_, hR⟩
    dsimp only [sX2_visitNeighbours_2]
    rw [if_pos (nI_le (Nat.le_refl n) (by omega))]) (by omega : n < 32) (s := (0, yM, yL, yC, yQ)) ⟨yM, yL, yC, yQ, rfl, hR⟩
  unfold fX2_visitNeighbours
  rw [h1, ob]
  exact ⟨_, rfl, h2⟩
theorem c_wipe (yL yC : Nat → Int32) : ∃ r : Int32 × (Nat → Int32) × (Nat → Int32), zloop sX2_spread_7 32 (0, yL, yC) = some r ∧ ∀ v, v < 12 → r.2.1 v = -1 ∧ r.2.2 v = 0 := by
  refine p_cnt (step := sX2_spread_7) (fun i s => ∃ L C : Nat → Int32, s = (nI i, L, C) ∧ ∀ v, v < i → L v = -1 ∧ C v = 0) (fun r => ∀ v, v < 12 → r.2.1 v = -1 ∧ r.2.2 v = 0) 12 (fun i s hi hI => ?_) (fun s hI => ?_) (by omega) ⟨yL, yC, rfl, fun v hv => absurd hv (Nat.not_lt_zero v)⟩
  · obtain ⟨L, C, rfl, hI⟩ := hI
    have zi : zin (nI i) 12 := p_in hi (by omega)
    refine ⟨(nI (i + 1), upd L i (-1), upd C i 0), ?_, _, _, rfl, fun v hv => ?_⟩
    · dsimp only [sX2_spread_7]
      simp only [p_cl (i := i) (by omega)]
      rw [if_neg (q12n hi), if_pos zi, if_pos zi, nI_1]
    · by_cases hvi : v = i
      · subst hvi
        exact ⟨pk_us, pk_us⟩
      · rw [pk_un hvi, pk_un hvi]
        exact hI v (by omega)
  · obtain ⟨L, C, rfl, hI⟩ := hI
    refine ⟨(nI 12, L, C), ?_, hI⟩
    dsimp only [sX2_spread_7]
    rw [if_pos (q12 (i := 12) (by omega) (by omega))]
theorem c_spread {n s : Nat} {nN : Nat → Int32} (hn : n ≤ 12) (hs : s < n) (yL yC yQ : Nat → Int32) : ∃ r, fX2_spread yL yC yQ (nI n) nN (nI s) = some r ∧ cR (bF n (zA nN) s) r.1 r.2.1 r.2.2.1 r.2.2.2 := by
  obtain ⟨w, hw, hw2⟩ := c_wipe yL yC
  have z0 : zin 0 12 := p_in (i := 0) (by omega) (by omega)
  have zs : zin (nI s) 12 := p_in (by omega) (by omega)
  have h0 : (0 : Int32).toNatClampNeg = 0 := rfl
  obtain ⟨e, h1, h2⟩ := p_inv (step := sX2_spread_74 (nI n) nN) (fun t s' => ∃ yM yL yC yQ, s' = (nI t, yM, yL, yC, yQ) ∧ t ≤ (bRun n (zA nN) (bIni s) t).1 ∧ bI n (zA nN) s t 0 (bRun n (zA nN) (bIni s) t) ∧ cR (bRun n (zA nN) (bIni s) t) yM yL yC yQ) (fun e => cR (bF n (zA nN) s) e.2.1 e.2.2.1 e.2.2.2.1 e.2.2.2.2) 12 (fun t st ht hI => by
    obtain ⟨yM, yL, yC, yQ, rfl, g1, g2, g3⟩ := hI
    have hle := bI_le g2
    by_cases hc : t < (bRun n (zA nN) (bIni s) t).1
    · refine Or.inr ⟨by omega, ?_⟩
      obtain ⟨r, k1, k2⟩ := c_vis hn g2 hc g3
      obtain ⟨k3, k4, k5⟩ := bI_vis g2 hc n (Nat.le_refl n)
      have hrun : bRun n (zA nN) (bIni s) (t + 1) = bVis (zA nN) ((bRun n (zA nN) (bIni s) t).2.2.2 t) n (bRun n (zA nN) (bIni s) t) := by rw [bRun, if_pos hc]
      refine ⟨(nI (t + 1), r.1, r.2.1, r.2.2.1, r.2.2.2), ?_, r.1, r.2.1, r.2.2.1, r.2.2.2, rfl, ?_, ?_, ?_⟩
      · dsimp only [sX2_spread_74]
        simp only [p_cl (i := t) (by omega)]
        rw [if_neg (by rw [g3.1]; exact nI_ge hc (by omega)), if_neg (q12n (i := t) (by omega)), if_pos (p_in (by omega) (by omega)), g3.2.2.2 t hc, k1, ob, nI_1]
      · rw [hrun]
        omega
      · rw [hrun]
        exact bI_turn k3 (by omega)
      · rw [hrun]
        exact k2
    · refine Or.inl ⟨(nI t, yM, yL, yC, yQ), ?_, ?_⟩
      · dsimp only [sX2_spread_74]
        rw [if_pos (by rw [g3.1]; exact nI_le (by omega) (by omega))]
      · show cR (bF n (zA nN) s) yM yL yC yQ
        rw [← bF_stop (t := t) hs (by omega)]
        exact g3) (by omega : 12 < 32) (s := (0, 1, upd w.2.1 s 0, upd w.2.2 s 1, upd yQ 0 (nI s))) ⟨1, _, _, _, rfl, Nat.zero_le _, bI_ini hs, rfl, fun v hv => by
      show upd w.2.1 s 0 v = enc (if v = s then some 0 else none)
      by_cases hvs : v = s
      · subst hvs
        rw [pk_us, if_pos rfl]
        rfl
      · rw [pk_un hvs, if_neg hvs, (hw2 v hv).1]
        rfl, fun v hv => by
      show upd w.2.2 s 1 v = nI (if v = s then 1 else 0)
      by_cases hvs : v = s
      · subst hvs
        rw [pk_us, if_pos rfl]
        rfl
      · rw [pk_un hvs, if_neg hvs, (hw2 v hv).2]
        rfl, fun i hi => by
      have hi : i < 1 := hi
      have : i = 0 := by omega
      subst this
      exact pk_us⟩
  unfold fX2_spread
  rw [hw, ob, if_neg (nI_pos (by omega)), if_pos (nI_lt hs (by omega)), if_pos zs, if_pos zs, if_pos z0]
  simp only [p_cl (i := s) (by omega)]
  rw [h0, h1, ob]
  exact ⟨_, rfl, h2⟩
/-- the state from a start, or from none -/
def bFO (n : Nat) (a : Nat → Nat → Bool) : Option Nat → bSt
  | none => (0, fun _ => none, fun _ => 0, fun _ => 0)
  | some s => bF n a s
theorem c_spreadO {n : Nat} {so : Option Nat} {nN : Nat → Int32} (hn : n ≤ 12) (hs : ∀ s, so = some s → s < n) (yL yC yQ : Nat → Int32) : ∃ r, fX2_spread yL yC yQ (nI n) nN (enc so) = some r ∧ cR (bFO n (zA nN) so) r.1 r.2.1 r.2.2.1 r.2.2.2 := by
  cases so with
  | some s => exact c_spread hn (hs s rfl) yL yC yQ
  | none =>
    obtain ⟨w, hw, hw2⟩ := c_wipe yL yC
    unfold fX2_spread
    rw [hw, ob, if_pos (show enc none < 0 by decide)]
    exact ⟨_, rfl, rfl, fun v hv => (hw2 v hv).1, fun v hv => (hw2 v hv).2, fun i hi => absurd hi (Nat.not_lt_zero i)⟩
