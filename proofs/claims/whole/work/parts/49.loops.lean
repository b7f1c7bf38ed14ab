/-! PURE: degrees, streets, layers, means, the order of coming -/
theorem pct_ext {p : Nat → Bool} {n : Nat} (h : ∀ j, n ≤ j → p j = false) : ∀ d, pct p (n + d) = pct p n
  | 0 => rfl
  | d + 1 => by
    show pct p (n + d) + (if p (n + d) then 1 else 0) = _
    rw [pct_ext h d, h (n + d) (by omega)]
    simp
theorem pct_not (p : Nat → Bool) : ∀ n, pct p n + pct (fun v => !p v) n = n
  | 0 => rfl
  | n + 1 => by
    have := pct_not p n
    rw [pct, pct]
    cases p n <;> simp <;> omega
def nOK (n : Nat) (nN : Nat → Int32) : Prop := n ≤ 12 ∧ (∀ i, i < n → ∀ j, n ≤ j → bt (nN i) j = false) ∧ Gsym n (zA nN) ∧ ∀ i, i < n → bt (nN i) i = false
def deg (n : Nat) (a : Nat → Nat → Bool) (i : Nat) : Nat := pct (fun k => a i k) n
theorem c_degree {n i : Nat} {nN : Nat → Int32} (h : nOK n nN) (hi : i < n) : fX3_degree nN (nI i) = some (nI (deg n (zA nN) i)) := by
  have h1 := h.1
  rw [p_degree (by omega) (fun j hj => h.2.1 i hi j (by omega))]
  have h2 := pct_ext (p := fun k => bt (nN i) k) (n := n) (fun j hj => h.2.1 i hi j hj) (12 - n)
  rw [show n + (12 - n) = 12 by omega] at h2
  rw [h2]
  rfl
theorem nI_z (a : Nat) : nI a + 0 = nI a := by
  show nI a + nI 0 = _
  rw [nI_add]
  try rfl
theorem r_degree {n i : Nat} {a : Nat → Nat → Bool} {mJ : Nat → Nat → Int32} (hn : n ≤ 12) (hJ : mJR n a mJ) (hi : i < n) : fX6_degree (nI n) mJ (nI i) = some (nI (deg n a i)) := by
  have zi : zin (nI i) 12 := p_in (by omega) (by omega)
  have h : zloop (sX6_degree_4 (nI n) mJ (nI i)) 32 (0, 0) = some (nI (pct (fun k => a i k) n), nI n) := by
    refine p_for (fun k => (nI (pct (fun k => a i k) k), nI k)) n (fun k hk => ?_) ?_ (by omega) rfl
    · dsimp only [sX6_degree_4]
      simp only [p_cl (i := i) (by omega), p_cl (i := k) (by omega)]
      rw [if_neg (nI_ge hk (by omega)), if_pos zi, if_pos (p_in (by omega) (by omega)), hJ i k hi hk, pct]
      cases a i k with
      | false =>
        rw [if_neg p_ff, if_pos rfl, nI_z, nI_1]
        rfl
      | true =>
        rw [if_pos p_tt, if_neg (by decide), nI_1, nI_1]
        rfl
    · dsimp only [sX6_degree_4]
      rw [if_pos (nI_le (Nat.le_refl n) (by omega))]
  unfold fX6_degree
  rw [h, ob]
  rfl
theorem c_streets {n : Nat} {nN : Nat → Int32} (h : nOK n nN) : fX5_streets (nI n) nN = some (nI (psum (deg n (zA nN)) n) / 2) := by
  have hn := h.1
  have h : zloop (sX5_streets_4 (nI n) nN) 32 (0, 0) = some (nI (psum (deg n (zA nN)) n), nI n) := by
    refine p_for (fun k => (nI (psum (deg n (zA nN)) k), nI k)) n (fun k hk => ?_) ?_ (by omega) rfl
    · dsimp only [sX5_streets_4]
      rw [if_neg (nI_ge hk (by omega)), c_degree h hk, ob, psum, nI_add, nI_1]
    · dsimp only [sX5_streets_4]
      rw [if_pos (nI_le (Nat.le_refl n) (by omega))]
  unfold fX5_streets
  rw [h, ob]
theorem r_streets {n : Nat} {a : Nat → Nat → Bool} {mJ : Nat → Nat → Int32} (hn : n ≤ 12) (hJ : mJR n a mJ) : fX6_streets (nI n) mJ = some (nI (psum (deg n a) n) / 2, 0) := by
  have h : zloop (sX6_streets_9 (nI n) mJ) 32 (0, 0) = some (nI (psum (deg n a) n), nI n) := by
    refine p_for (fun k => (nI (psum (deg n a) k), nI k)) n (fun k hk => ?_) ?_ (by omega) rfl
    · dsimp only [sX6_streets_9]
      rw [if_neg (nI_ge hk (by omega)), r_degree hn hJ hk, ob, psum, nI_add, nI_1]
    · dsimp only [sX6_streets_9]
      rw [if_pos (nI_le (Nat.le_refl n) (by omega))]
  unfold fX6_streets
  rw [h, ob]
theorem r_having {n : Nat} {pL : Nat → Int32} {x : Int32} (hn : n ≤ 12) : fX6_having (nI n) pL x = some (nI (pct (fun v => decide (pL v = x)) n)) := by
  have h : zloop (sX6_having_5 (nI n) pL x) 32 (0, 0) = some (nI (pct (fun v => decide (pL v = x)) n), nI n) := by
    refine p_for (fun k => (nI (pct (fun v => decide (pL v = x)) k), nI k)) n (fun k hk => ?_) ?_ (by omega) rfl
    · dsimp only [sX6_having_5]
      simp only [p_cl (i := k) (by omega)]
      rw [if_neg (nI_ge hk (by omega)), if_pos (p_in (by omega) (by omega)), pct]
      by_cases e : pL k = x
      · rw [if_pos e, nI_1, nI_1, if_pos (decide_eq_true e)]
      · rw [if_neg e, nI_z, nI_1, if_neg (by rw [decide_eq_false e]; decide)]
        try rfl
    · dsimp only [sX6_having_5]
      rw [if_pos (nI_le (Nat.le_refl n) (by omega))]
  unfold fX6_having
  rw [h, ob]
theorem c_layer {n : Nat} {pL : Nat → Int32} {x : Int32} (hn : n ≤ 12) : ∃ z, zloop (sX5_layer_14 (nI n) pL x) 32 (0, 0) = some (nI (pct (fun v => decide (pL v = x)) n), z) := by
  refine ⟨nI n, p_for (fun k => (nI (pct (fun v => decide (pL v = x)) k), nI k)) n (fun k hk => ?_) ?_ (by omega) rfl⟩
  · dsimp only [sX5_layer_14]
    simp only [p_cl (i := k) (by omega)]
    rw [if_neg (nI_ge hk (by omega)), if_pos (p_in (by omega) (by omega)), pct]
    by_cases e : pL k = x
    · rw [if_pos e, nI_1, nI_1, if_pos (decide_eq_true e)]
    · rw [if_neg e, nI_1, if_neg (by rw [decide_eq_false e]; decide)]
      try rfl
  · dsimp only [sX5_layer_14]
    rw [if_pos (nI_le (Nat.le_refl n) (by omega))]
def gmx (pL : Nat → Int32) : Nat → Int32
  | 0 => 0
  | k + 1 => if pL k ≤ gmx pL k then gmx pL k else pL k
theorem gmx_cong {f g : Nat → Int32} : ∀ {n : Nat}, (∀ v, v < n → f v = g v) → gmx f n = gmx g n
  | 0, _ => rfl
  | n + 1, h => by rw [gmx, gmx, gmx_cong (fun v hv => h v (by omega)), h n (by omega)]
theorem r_greatest {n : Nat} {pL : Nat → Int32} (hn : n ≤ 12) : fX6_greatest (nI n) pL = some (gmx pL n) := by
  have h : zloop (sX6_greatest_4 (nI n) pL) 32 (0, 0) = some (gmx pL n, nI n) := by
    refine p_for (fun k => (gmx pL k, nI k)) n (fun k hk => ?_) ?_ (by omega) rfl
    · have zk : zin (nI k) 12 := p_in (by omega) (by omega)
      dsimp only [sX6_greatest_4]
      simp only [p_cl (i := k) (by omega)]
      rw [if_neg (nI_ge hk (by omega)), if_pos zk, gmx]
      by_cases e : pL k ≤ gmx pL k
      · rw [if_pos e, if_pos e, nI_1]
      · rw [if_neg e, if_neg e, if_pos zk, nI_1]
    · dsimp only [sX6_greatest_4]
      rw [if_pos (nI_le (Nat.le_refl n) (by omega))]
  unfold fX6_greatest
  rw [h, ob]
theorem c_greatest {n : Nat} {pL : Nat → Int32} (hn : n ≤ 12) : ∃ z, zloop (sX5_farthest_8 (nI n) pL) 32 (0, 0) = some (gmx pL n, z) := by
  refine ⟨nI n, p_for (fun k => (gmx pL k, nI k)) n (fun k hk => ?_) ?_ (by omega) rfl⟩
  · have zk : zin (nI k) 12 := p_in (by omega) (by omega)
    dsimp only [sX5_farthest_8]
    simp only [p_cl (i := k) (by omega)]
    rw [if_neg (nI_ge hk (by omega)), if_pos zk, gmx, nI_1]
    by_cases e : pL k ≤ gmx pL k
    · rw [if_pos e, if_neg (Int32.not_lt.mpr e)]
    · rw [if_neg e, if_pos (Int32.not_le.mp e)]
  · dsimp only [sX5_farthest_8]
    rw [if_pos (nI_le (Nat.le_refl n) (by omega))]
def dsum (L : Nat → Option Nat) : Nat → Nat := psum (fun v => (L v).getD 0)
def dcnt (L : Nat → Option Nat) : Nat → Nat := pct (fun v => (L v).isSome)
theorem r_mean {n : Nat} {pL : Nat → Int32} {L : Nat → Option Nat} (hn : n ≤ 12) (h : ∀ v, v < n → pL v = enc (L v)) (hlt : ∀ v k, v < n → L v = some k → k < 100) : ∃ z, zloop (sX6_mean_39 (nI n) pL) 32 (0, 0, 0) = some (nI (dsum L n), nI (dcnt L n), z) := by
  refine ⟨nI n, p_for (fun k => (nI (dsum L k), nI (dcnt L k), nI k)) n (fun k hk => ?_) ?_ (by omega) rfl⟩
  · have zk : zin (nI k) 12 := p_in (by omega) (by omega)
    dsimp only [sX6_mean_39]
    simp only [p_cl (i := k) (by omega)]
    rw [if_neg (nI_ge hk (by omega)), if_pos zk, h k hk]
    show _ = some (Sum.inr (nI (dsum L k + (L k).getD 0), nI (dcnt L k + (if (L k).isSome = true then 1 else 0)), nI (k + 1)))
    cases hL : L k with
    | none =>
      rw [if_pos enc_n, ob, if_pos zk, if_pos enc_n, nI_z, nI_z, nI_1]
      rfl
    | some j =>
      have := hlt k j hk hL
      rw [if_neg (enc_m1 (k := j) (by omega)), if_pos zk, ob, if_pos zk, if_neg (enc_m1 (k := j) (by omega)), nI_1, nI_1, show enc (some j) = nI j from rfl, nI_add]
      rfl
  · dsimp only [sX6_mean_39]
    rw [if_pos (nI_le (Nat.le_refl n) (by omega))]
theorem c_mean {n : Nat} {pL : Nat → Int32} {L : Nat → Option Nat} (hn : n ≤ 12) (h : ∀ v, v < n → pL v = enc (L v)) (hlt : ∀ v k, v < n → L v = some k → k < 100) : ∃ z, zloop (sX5_mean_10 (nI n) pL) 32 (0, 0, 0) = some (nI (dsum L n), nI (dcnt L n), z) := by
  refine ⟨nI n, p_for (fun k => (nI (dsum L k), nI (dcnt L k), nI k)) n (fun k hk => ?_) ?_ (by omega) rfl⟩
  · have zk : zin (nI k) 12 := p_in (by omega) (by omega)
    dsimp only [sX5_mean_10]
    simp only [p_cl (i := k) (by omega)]
    rw [if_neg (nI_ge hk (by omega)), if_pos zk, h k hk]
    show _ = some (Sum.inr (nI (dsum L k + (L k).getD 0), nI (dcnt L k + (if (L k).isSome = true then 1 else 0)), nI (k + 1)))
    cases hL : L k with
    | none =>
      rw [if_pos enc_n, nI_1]
      rfl
    | some j =>
      have := hlt k j hk hL
      rw [if_neg (enc_m1 (k := j) (by omega)), if_pos zk, nI_1, nI_1, show enc (some j) = nI j from rfl, nI_add]
      rfl
  · dsimp only [sX5_mean_10]
    rw [if_pos (nI_le (Nat.le_refl n) (by omega))]
/-- the reference's row holds the queue -/
def rR (n : Nat) (z : bSt) (sz : Int32) (row st : Nat → Int32) : Prop := sz = nI z.1 ∧ (∀ i, i < z.1 → row i = nI (z.2.2.2 i)) ∧ ∀ v, v < n → st v = if (z.2.1 v).isSome = true then 1 else 0
theorem r_com1 {n s t m : Nat} {a : Nat → Nat → Bool} {mJ : Nat → Nat → Int32} {z : bSt} (hn : n ≤ 12) (hJ : mJR n a mJ) (I : bI n a s t m z) (ht : t < z.1) (hm : m < n) {sz s0 : Int32} {row st row0 st0 : Nat → Int32} (hR : rR n z sz row st) : ∃ sz' row' st', sX6_comes_103 (nI n) mJ (s0, nI t, row0, st0) (sz, nI m, row, st) = some (.inr (sz', nI (m + 1), row', st')) ∧ rR n (bOne a (z.2.2.2 t) m z) sz' row' st' := by
  have hle := bI_le I
  obtain ⟨c, L, C, q⟩ := z
  have ht : t < c := ht
  have hle : c ≤ n := hle
  obtain ⟨hqt, l, hl⟩ := (show q t < n ∧ ∃ k, L (q t) = some k from I.2.2.1 t ht)
  obtain ⟨rfl, r2, r3⟩ := (show sz = nI c ∧ (∀ i, i < c → row i = nI (q i)) ∧ ∀ v, v < n → st v = if (L v).isSome = true then 1 else 0 from hR)
  have zt : zin (nI t) 12 := p_in (by omega) (by omega)
  have zm : zin (nI m) 12 := p_in (by omega) (by omega)
  have zq : zin (nI (q t)) 12 := p_in (by omega) (by omega)
  show ∃ sz' row' st', sX6_comes_103 (nI n) mJ (s0, nI t, row0, st0) (nI c, nI m, row, st) = _ ∧ rR n (if a (q t) m = true then (if L m = none then _ else if L m = some _ then _ else _) else _) sz' row' st'
  dsimp only [sX6_comes_103]
  simp only [p_cl (i := t) (by omega), p_cl (i := m) (by omega)]
  rw [r2 t ht]
  simp only [p_cl (i := q t) (by omega)]
  rw [if_neg (nI_ge hm (by omega)), if_pos zt, if_pos zq, if_pos zm, hJ (q t) m hqt hm]
  by_cases ha : a (q t) m = true
  · rw [if_pos ha, if_pos ha, if_neg (by decide), if_pos zm, r3 m hm]
    by_cases hn2 : L m = none
    · have hc : c < n := by
        have h1 : c = pct (fun v => (L v).isSome) n := I.2.1
        rw [h1]
        exact pct_lt hm (by rw [hn2]; rfl)
      have hns : ¬ (L m).isSome = true := by rw [hn2]; decide
      rw [if_pos hn2, if_neg hns, if_pos rfl, if_pos zm, if_pos (p_in (by omega) (by omega) : zin (nI c) 12)]
      simp only [p_cl (i := c) (by omega)]
      rw [nI_1, nI_1]
      refine ⟨_, _, _, rfl, rfl, fun i hi => ?_, fun v hv => ?_⟩
      · have hi : i < c + 1 := hi
        show upd row c (nI m) i = nI (bU q c m i)
        by_cases hvm : i = c
        · subst hvm
          rw [pk_us, bU_s]
        · rw [pk_un hvm, bU_n hvm, r2 i (by omega)]
      · show upd st m 1 v = if (bU L m (some (bL (c, L, C, q) (q t) + 1)) v).isSome = true then 1 else 0
        by_cases hvm : v = m
        · subst hvm
          rw [pk_us, bU_s]
          rfl
        · rw [pk_un hvm, bU_n hvm, r3 v hv]
    · have hs : (L m).isSome = true := by
        cases hL : L m with
        | none => exact absurd hL hn2
        | some k => rfl
      rw [if_neg hn2, if_pos hs, if_neg (by decide), nI_1]
      refine ⟨_, _, _, rfl, ?_⟩
      by_cases hk : L m = some (bL (c, L, C, q) (q t) + 1)
      · rw [if_pos hk]
        exact ⟨rfl, r2, r3⟩
      · rw [if_neg hk]
        exact ⟨rfl, r2, r3⟩
  · rw [if_neg ha, if_neg ha, if_pos rfl, nI_1]
    exact ⟨_, _, _, rfl, rfl, r2, r3⟩
theorem r_com2 {n s t : Nat} {a : Nat → Nat → Bool} {mJ : Nat → Nat → Int32} {z : bSt} (hn : n ≤ 12) (hJ : mJR n a mJ) (I : bI n a s t 0 z) (ht : t < z.1) {sz s0 : Int32} {row st row0 st0 : Nat → Int32} (hR : rR n z sz row st) : ∃ e, zloop (sX6_comes_103 (nI n) mJ (s0, nI t, row0, st0)) 32 (sz, 0, row, st) = some e ∧ rR n (bVis a (z.2.2.2 t) n z) e.1 e.2.2.1 e.2.2.2 := by
  refine p_cnt (step := sX6_comes_103 (nI n) mJ (s0, nI t, row0, st0)) (fun m s => ∃ sz row st, s = (sz, nI m, row, st) ∧ rR n (bVis a (z.2.2.2 t) m z) sz row st) (fun e => rR n (bVis a (z.2.2.2 t) n z) e.1 e.2.2.1 e.2.2.2) n (fun m s' hm hI => ?_) (fun s' hI => ?_) (by omega) ⟨sz, row, st, rfl, hR⟩
  · obtain ⟨sz, row, st, rfl, hR⟩ := hI
    obtain ⟨g1, g2, g3⟩ := bI_vis I ht m (by omega)
    obtain ⟨sz', row', st', h3, h4⟩ := r_com1 (s0 := s0) (row0 := row0) (st0 := st0) hn hJ g1 (by omega) hm hR
    rw [g2] at h4
    exact ⟨_, h3, sz', row', st', rfl, h4⟩
  · obtain ⟨sz, row, st, rfl, hR⟩ := hI
    refine ⟨(sz, nI n, row, st), ?_, hR⟩
    dsimp only [sX6_comes_103]
    rw [if_pos (nI_le (Nat.le_refl n) (by omega))]
theorem r_comes {n s : Nat} {a : Nat → Nat → Bool} {mJ : Nat → Nat → Int32} (hn : n ≤ 12) (hJ : mJR n a mJ) (hs : s < n) : ∃ e, zloop (sX6_comes_93 (nI n) mJ) 32 (1, 0, (upd (fun _ => 0) 0 (nI s)), (upd (fun _ => 0) s 1)) = some e ∧ ∀ i, i < (bF n a s).1 → e.2.2.1 i = nI ((bF n a s).2.2.2 i) := by
  refine p_inv (step := sX6_comes_93 (nI n) mJ) (fun t s' => ∃ sz row st, s' = (sz, nI t, row, st) ∧ t ≤ (bRun n a (bIni s) t).1 ∧ bI n a s t 0 (bRun n a (bIni s) t) ∧ rR n (bRun n a (bIni s) t) sz row st) (fun e => ∀ i, i < (bF n a s).1 → e.2.2.1 i = nI ((bF n a s).2.2.2 i)) 12 (fun t s' ht hI => ?_) (by omega) ⟨1, _, _, rfl, Nat.zero_le _, bI_ini hs, rfl, fun i hi => ?_, fun v hv => ?_⟩
  · obtain ⟨sz, row, st, rfl, g1, g2, g3⟩ := hI
    have hle := bI_le g2
    by_cases hc : t < (bRun n a (bIni s) t).1
    · refine Or.inr ⟨by omega, ?_⟩
      obtain ⟨r, k1, k2⟩ := r_com2 (s0 := sz) (row0 := row) (st0 := st) hn hJ g2 hc g3
      obtain ⟨k3, k4, k5⟩ := bI_vis g2 hc n (Nat.le_refl n)
      have hrun : bRun n a (bIni s) (t + 1) = bVis a ((bRun n a (bIni s) t).2.2.2 t) n (bRun n a (bIni s) t) := by rw [bRun, if_pos hc]
      refine ⟨(r.1, nI (t + 1), r.2.2.1, r.2.2.2), ?_, r.1, r.2.2.1, r.2.2.2, rfl, ?_, ?_, ?_⟩
      · dsimp only [sX6_comes_93]
        rw [if_neg (by rw [g3.1]; exact nI_ge hc (by omega)), k1, ob, nI_1]
      · rw [hrun]
        omega
      · rw [hrun]
        exact bI_turn k3 (by omega)
      · rw [hrun]
        exact k2
    · refine Or.inl ⟨(sz, nI t, row, st), ?_, ?_⟩
      · dsimp only [sX6_comes_93]
        rw [if_pos (by rw [g3.1]; exact nI_le (by omega) (by omega))]
      · show ∀ i, i < (bF n a s).1 → row i = nI ((bF n a s).2.2.2 i)
        rw [← bF_stop (t := t) hs (by omega)]
        exact g3.2.1
  · have hi : i < 1 := hi
    have : i = 0 := by omega
    subst this
    exact pk_us
  · show upd (fun _ => 0) s 1 v = if (if v = s then some 0 else none : Option Nat).isSome = true then 1 else 0
    by_cases hvs : v = s
    · subst hvs
      rw [pk_us, if_pos rfl]
      rfl
    · rw [pk_un hvs, if_neg hvs]
      rfl
