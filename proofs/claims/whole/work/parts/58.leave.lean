/-! PURE: a place goes, both sides -/
/-- the shift down from g, i steps done -/
def shD (n g i : Nat) (K k : Nat → Int32) : Prop := (∀ v, v < g + i → k v = K (up1 g v)) ∧ ∀ v, g + i ≤ v → v < n → k v = K v
theorem shD_step {n g i : Nat} {K k : Nat → Int32} (hi : g + i + 1 < n) (I : shD n g i K k) : shD n g (i + 1) K (upd k (g + i) (k (g + i + 1))) := by
  refine ⟨fun v hv => ?_, fun v h1 h2 => ?_⟩
  · by_cases e : v = g + i
    · subst e
      rw [pk_us, I.2 _ (by omega) (by omega)]
      unfold up1
      rw [if_neg (by omega)]
    · rw [pk_un e]
      exact I.1 v (by omega)
  · rw [pk_un (by omega)]
    exact I.2 v (by omega) h2
theorem shD_0 {n g : Nat} {K : Nat → Int32} : shD n g 0 K K := by
  refine ⟨fun v hv => ?_, fun v _ _ => rfl⟩
  unfold up1
  rw [if_pos (by omega)]
theorem up1_lt {n g u : Nat} (hu : u < n - 1) : up1 g u < n := by
  unfold up1
  by_cases h : u < g
  · rw [if_pos h]
    omega
  · rw [if_neg h]
    omega
theorem c_remove {n g : Nat} {nK nN : Nat → Int32} (hN : nOK n nN) (hg : g < n) : ∃ K' N', fX3_remove (nI n) nK nN (nI g) = some (nI (n - 1), K', N') ∧ (∀ v, v < n - 1 → K' v = kRem nK g v) ∧ ∀ u, u < n - 1 → ∀ k, k < 32 → bt (N' u) k = aRem (zA nN) g u k := by
  have hn := hN.1
  have hnp : nI n - 1 = nI (n - 1) := by
    obtain ⟨n', rfl⟩ : ∃ n', n = n' + 1 := ⟨n - 1, by omega⟩
    exact nI_pred n'
  obtain ⟨e, k1, K1, N1, rfl, k2, k3⟩ := p_cnt (step := sX3_remove_2 (nI n)) (fun i s => ∃ k w, s = (nI (g + i), k, w) ∧ shD n g i nK k ∧ shD n g i nN w) (fun e => ∃ k w, e = (nI (n - 1), k, w) ∧ shD n g (n - 1 - g) nK k ∧ shD n g (n - 1 - g) nN w) (n - 1 - g) (fun i s hi hI => by
    obtain ⟨k, w, rfl, i1, i2⟩ := hI
    have z1 : zin (nI (g + i)) 12 := p_in (by omega) (by omega)
    have z2 : zin (nI (g + i + 1)) 12 := p_in (by omega) (by omega)
    dsimp only [sX3_remove_2]
    rw [hnp, nI_1]
    simp only [p_cl (i := g + i) (by omega), p_cl (i := g + i + 1) (by omega)]
    rw [if_neg (nI_ge (a := g + i) (b := n - 1) (by omega) (by omega)), if_pos z2, if_pos z1, if_pos z2, if_pos z1]
    exact ⟨_, rfl, _, _, rfl, shD_step (by omega) i1, shD_step (by omega) i2⟩) (fun s hI => by
    obtain ⟨k, w, rfl, i1, i2⟩ := hI
    refine ⟨(nI (n - 1), k, w), ?_, k, w, rfl, i1, i2⟩
    rw [show g + (n - 1 - g) = n - 1 by omega]
    dsimp only [sX3_remove_2]
    rw [hnp, if_pos (nI_le (Nat.le_refl (n - 1)) (by omega))]) (by omega : n - 1 - g < 32) (s := (nI g, nK, nN)) ⟨nK, nN, rfl, shD_0, shD_0⟩
  unfold shD at k2 k3
  rw [show g + (n - 1 - g) = n - 1 by omega] at k2 k3
  obtain ⟨e, g1, g2⟩ := p_cnt (step := sX3_remove_58 (nI n) (nI g)) (fun i s => ∃ w, s = (nI i, w) ∧ (∀ u, i ≤ u → u < n - 1 → w u = nN (up1 g u)) ∧ ∀ u, u < i → ∀ k, k < 32 → bt (w u) k = aRem (zA nN) g u k) (fun e => ∀ u, u < n - 1 → ∀ k, k < 32 → bt (e.2 u) k = aRem (zA nN) g u k) (n - 1) (fun i s hi hI => by
    obtain ⟨w, rfl, i1, i2⟩ := hI
    have zi : zin (nI i) 12 := p_in (by omega) (by omega)
    obtain ⟨r, r1, r2⟩ := b_without (p := g) (by omega) (w i)
    dsimp only [sX3_remove_58]
    simp only [p_cl (i := i) (by omega)]
    rw [hnp, if_neg (nI_ge (a := i) (b := n - 1) hi (by omega)), if_pos zi, r1, ob, if_pos zi, nI_1]
    refine ⟨_, rfl, _, rfl, fun u hu1 hu2 => ?_, fun u hu k hk => ?_⟩
    · rw [pk_un (by omega)]
      exact i1 u (by omega) hu2
    · by_cases e : u = i
      · subst e
        rw [pk_us, r2 k hk, i1 u (Nat.le_refl u) hi]
        unfold aRem
        by_cases h1 : k < g
        · rw [if_pos h1, show up1 g k = k from if_pos h1]
        · rw [if_neg h1, show up1 g k = k + 1 from if_neg h1]
      · rw [pk_un e]
        exact i2 u (by omega) k hk) (fun s hI => by
    obtain ⟨w, rfl, i1, i2⟩ := hI
    refine ⟨(nI (n - 1), w), ?_, i2⟩
    dsimp only [sX3_remove_58]
    rw [hnp, if_pos (nI_le (Nat.le_refl (n - 1)) (by omega))]) (by omega : n - 1 < 32) (s := (0, N1)) ⟨N1, rfl, fun u _ hu => k3.1 u hu, fun u hu => absurd hu (Nat.not_lt_zero u)⟩
  unfold fX3_remove
  rw [k1, ob]
  dsimp only
  rw [g1, ob, hnp]
  exact ⟨_, _, rfl, fun v hv => k2.1 v hv, g2⟩
/-! the reference's leave -/
def lvI (n : Nat) (a : Nat → Nat → Bool) (g r c : Nat) (M : Nat → Nat → Int32) : Prop := ∀ u v, u < n → v < n → ((u < r ∨ (u = r ∧ v < c)) → u < n - 1 → v < n - 1 → M u v = bI01 (aRem a g u v)) ∧ (¬ (u < r ∨ (u = r ∧ v < c)) → M u v = bI01 (a u v))
theorem r_lkeys {n g : Nat} {K : Nat → Int32} (hn : n ≤ 12) (hg : g < n) : ∃ e, zloop (sX6_leave_41 (nI n)) 32 (nI g, K) = some e ∧ ∀ v, v < n - 1 → e.2 v = kRem K g v := by
  have hnp : nI n - 1 = nI (n - 1) := by
    obtain ⟨n', rfl⟩ : ∃ n', n = n' + 1 := ⟨n - 1, by omega⟩
    exact nI_pred n'
  refine p_cnt (step := sX6_leave_41 (nI n)) (fun i s => ∃ k, s = (nI (g + i), k) ∧ shD n g i K k) (fun e => ∀ v, v < n - 1 → e.2 v = kRem K g v) (n - 1 - g) (fun i s hi hI => ?_) (fun s hI => ?_) (by omega) ⟨K, rfl, shD_0⟩
  · obtain ⟨k, rfl, i1⟩ := hI
    dsimp only [sX6_leave_41]
    rw [hnp, nI_1]
    simp only [p_cl (i := g + i) (by omega), p_cl (i := g + i + 1) (by omega)]
    rw [if_neg (nI_ge (a := g + i) (b := n - 1) (by omega) (by omega)), if_pos (p_in (by omega) (by omega)), if_pos (p_in (by omega) (by omega))]
    exact ⟨_, rfl, _, rfl, shD_step (by omega) i1⟩
  · obtain ⟨k, rfl, i1⟩ := hI
    rw [show g + (n - 1 - g) = n - 1 by omega]
    unfold shD at i1
    rw [show g + (n - 1 - g) = n - 1 by omega] at i1
    refine ⟨(nI (n - 1), k), ?_, fun v hv => i1.1 v hv⟩
    dsimp only [sX6_leave_41]
    rw [hnp, if_pos (nI_le (Nat.le_refl (n - 1)) (by omega))]
theorem up1_le {g u : Nat} : u ≤ up1 g u := by
  unfold up1
  by_cases h : u < g
  · rw [if_pos h]
    exact Nat.le_refl u
  · rw [if_neg h]
    omega
theorem up1_I {g u : Nat} (hg : g < 100) (hu : u < 100) : ((if nI g ≤ nI u then some (nI u + 1) else some (nI u)) : Option Int32) = some (nI (up1 g u)) := by
  unfold up1
  by_cases h : u < g
  · rw [if_neg (nI_ge h (by omega)), if_pos h]
  · rw [if_pos (nI_le (by omega) (by omega)), if_neg h, nI_1]
theorem bI01_01 (b : Bool) : bI01 b = 0 ∨ bI01 b = 1 := by
  cases b
  · exact Or.inl rfl
  · exact Or.inr rfl
theorem lvI_step {n g r c : Nat} {a : Nat → Nat → Bool} {M : Nat → Nat → Int32} (I : lvI n a g r c M) : lvI n a g r (c + 1) (zup2 M r c (bI01 (aRem a g r c))) := by
  intro u v hu hv
  by_cases e : u = r ∧ v = c
  · obtain ⟨rfl, rfl⟩ := e
    refine ⟨fun _ _ _ => zup2_s, fun h => absurd (Or.inr ⟨rfl, Nat.lt_succ_self v⟩) h⟩
  · rw [zup2_n e]
    obtain ⟨i1, i2⟩ := I u v hu hv
    exact ⟨fun h => i1 (by omega), fun h => i2 (by omega)⟩
theorem r_lv1 {n g r c : Nat} {a : Nat → Nat → Bool} {M0 M : Nat → Nat → Int32} (hn : n ≤ 12) (hg : g < n) (hr : r < n - 1) (hc : c < n - 1) (I : lvI n a g r c M) : ∃ M', sX6_leave_87 (nI n) (nI g) (nI r, M0) (nI c, M) = some (.inr (nI (c + 1), M')) ∧ lvI n a g r (c + 1) M' := by
  have hnp : nI n - 1 = nI (n - 1) := by
    obtain ⟨n', rfl⟩ : ∃ n', n = n' + 1 := ⟨n - 1, by omega⟩
    exact nI_pred n'
  have zr : zin (nI r) 12 := p_in (by omega) (by omega)
  have zc : zin (nI c) 12 := p_in (by omega) (by omega)
  have zc1 : zin (nI (c + 1)) 12 := p_in (by omega) (by omega)
  have hur : up1 g r < n := up1_lt hr
  have huc : up1 g c < n := up1_lt hc
  have lr : r ≤ up1 g r := up1_le
  have lc : c ≤ up1 g c := up1_le
  have zur : zin (nI (up1 g r)) 12 := p_in (by omega) (by omega)
  have hsrc : M (up1 g r) (up1 g c) = bI01 (aRem a g r c) := (I _ _ hur huc).2 (by omega)
  have hst := lvI_step I
  have q1 : nI c + 1 = nI (c + 1) := nI_1 _
  dsimp only [sX6_leave_87]
  rw [hnp, if_neg (nI_ge hc (by omega)), if_pos zr, up1_I (by omega) (by omega), ob, if_pos zur, q1]
  simp only [p_cl (i := r) (by omega), p_cl (i := c) (by omega), p_cl (i := c + 1) (by omega), p_cl (i := up1 g r) (by omega)]
  by_cases h : g ≤ c
  · have e : up1 g c = c + 1 := if_neg (by omega)
    rw [e] at hsrc
    rw [if_pos (nI_le h (by omega)), if_pos zc1, if_pos zc, hsrc, if_pos (bI01_01 _), ob]
    exact ⟨_, rfl, hst⟩
  · have e : up1 g c = c := if_pos (by omega)
    rw [e] at hsrc
    rw [if_neg (nI_ge (by omega) (by omega)), if_pos zc, if_pos zc, hsrc, if_pos (bI01_01 _), ob]
    exact ⟨_, rfl, hst⟩
theorem r_lv2 {n g r : Nat} {a : Nat → Nat → Bool} {M : Nat → Nat → Int32} (hn : n ≤ 12) (hg : g < n) (hr : r < n - 1) (I : lvI n a g r 0 M) : ∃ e, zloop (sX6_leave_87 (nI n) (nI g) (nI r, M)) 32 (0, M) = some e ∧ lvI n a g (r + 1) 0 e.2 := by
  have hnp : nI n - 1 = nI (n - 1) := by
    obtain ⟨n', rfl⟩ : ∃ n', n = n' + 1 := ⟨n - 1, by omega⟩
    exact nI_pred n'
  refine p_cnt (step := sX6_leave_87 (nI n) (nI g) (nI r, M)) (fun i s => ∃ l, s = (nI i, l) ∧ lvI n a g r i l) (fun e => lvI n a g (r + 1) 0 e.2) (n - 1) (fun i s hi hI => ?_) (fun s hI => ?_) (by omega) ⟨M, rfl, I⟩
  · obtain ⟨l, rfl, hI⟩ := hI
    obtain ⟨M', h1, h2⟩ := r_lv1 (M0 := M) hn hg hr hi hI
    exact ⟨_, h1, M', rfl, h2⟩
  · obtain ⟨l, rfl, hI⟩ := hI
    refine ⟨(nI (n - 1), l), ?_, fun u v hu hv => ?_⟩
    · dsimp only [sX6_leave_87]
      rw [hnp, if_pos (nI_le (Nat.le_refl (n - 1)) (by omega))]
    · obtain ⟨i1, i2⟩ := hI u v hu hv
      exact ⟨fun h h1 h2 => i1 (by omega) h1 h2, fun h => i2 (by omega)⟩
theorem r_lv3 {n g : Nat} {a : Nat → Nat → Bool} {M : Nat → Nat → Int32} (hn : n ≤ 12) (hg : g < n) (hJ : mJR n a M) : ∃ e, zloop (sX6_leave_75 (nI n) (nI g)) 32 (0, M) = some e ∧ mJR (n - 1) (aRem a g) e.2 := by
  have hnp : nI n - 1 = nI (n - 1) := by
    obtain ⟨n', rfl⟩ : ∃ n', n = n' + 1 := ⟨n - 1, by omega⟩
    exact nI_pred n'
  refine p_cnt (step := sX6_leave_75 (nI n) (nI g)) (fun i s => ∃ l, s = (nI i, l) ∧ lvI n a g i 0 l) (fun e => mJR (n - 1) (aRem a g) e.2) (n - 1) (fun i s hi hI => ?_) (fun s hI => ?_) (by omega) ⟨M, rfl, fun u v hu hv => ⟨fun h => absurd h (by omega), fun _ => hJ u v hu hv⟩⟩
  · obtain ⟨l, rfl, hI⟩ := hI
    obtain ⟨e, h1, h2⟩ := r_lv2 hn hg hi hI
    dsimp only [sX6_leave_75]
    rw [hnp, if_neg (nI_ge hi (by omega)), h1, ob, nI_1]
    exact ⟨_, rfl, _, rfl, h2⟩
  · obtain ⟨l, rfl, hI⟩ := hI
    refine ⟨(nI (n - 1), l), ?_, fun u v hu hv => (hI u v (by omega) (by omega)).1 (by omega) hu hv⟩
    dsimp only [sX6_leave_75]
    rw [hnp, if_pos (nI_le (Nat.le_refl (n - 1)) (by omega))]
