/-! PURE: a place comes, a place goes -/
def dn (p u : Nat) : Nat := if u < p then u else u - 1
def up1 (p u : Nat) : Nat := if u < p then u else u + 1
def aIns (a : Nat → Nat → Bool) (p u v : Nat) : Bool := if u = p ∨ v = p then false else a (dn p u) (dn p v)
def aRem (a : Nat → Nat → Bool) (p u v : Nat) : Bool := a (up1 p u) (up1 p v)
def kIns (K : Nat → Int32) (p : Nat) (key : Int32) (u : Nat) : Int32 := if u < p then K u else if u = p then key else K (u - 1)
def kRem (K : Nat → Int32) (p u : Nat) : Int32 := K (up1 p u)
theorem b_below : ∀ p, p < 12 → ∀ k, k < 32 → bt (((1 : Int32) <<< (nI p &&& 31)) - 1) k = decide (k < p) := by decide +kernel
theorem b_room {p k : Nat} (hp : p < 12) (hk : k < 32) (x : Int32) : ∃ r, fX3_withRoomAt x (nI p) = some r ∧ ∀ k, k < 32 → bt r k = if k < p then bt x k else if k = p then false else bt x (k - 1) := by
  refine ⟨_, rfl, fun k hk => ?_⟩
  rw [b_or, b_and, b_below p hp k hk, show ((1 : Int32) &&& 31) = (nI 1 &&& 31) from rfl, b_shl 1 (by omega) _ hk, b_and, b_xor]
  by_cases h0 : 1 ≤ k
  · rw [b_below p hp (k - 1) (by omega), b_m1 (k - 1) (by omega), decide_eq_true h0]
    by_cases h1 : k < p
    · rw [if_pos h1, decide_eq_true h1, decide_eq_true (by omega : k - 1 < p)]
      simp
    · rw [if_neg h1, decide_eq_false h1]
      by_cases h2 : k = p
      · rw [if_pos h2, decide_eq_true (by omega : k - 1 < p)]
        simp
      · rw [if_neg h2, decide_eq_false (by omega : ¬ k - 1 < p)]
        simp
  · rw [decide_eq_false h0]
    by_cases h1 : k < p
    · rw [if_pos h1, decide_eq_true h1]
      simp
    · rw [if_neg h1, decide_eq_false h1, if_pos (by omega)]
      simp
theorem b_without {p : Nat} (hp : p < 12) (x : Int32) : ∃ r, fX3_without x (nI p) = some r ∧ ∀ k, k < 32 → bt r k = if k < p then bt x k else bt x (k + 1) := by
  refine ⟨_, rfl, fun k hk => ?_⟩
  rw [b_or, b_and, b_below p hp k (by omega), b_and, show ((1 : Int32).toUInt32) = (nI 1).toUInt32 from rfl, b_ushr 1 (by omega), b_xor, b_below p hp k (by omega), b_m1 k (by omega)]
  by_cases h1 : k < p
  · rw [if_pos h1, decide_eq_true h1]
    simp
  · rw [if_neg h1, decide_eq_false h1, Nat.add_comm 1 k]
    simp
/-- strictly rising -/
def rise (n : Nat) (K : Nat → Int32) : Prop := ∀ i j, i < j → j < n → K i < K j
theorem rise_pos {K : Nat → Int32} {key : Int32} : ∀ n, rise n K → ∃ p, p ≤ n ∧ (∀ v, v < p → K v ≤ key) ∧ ∀ v, p ≤ v → v < n → ¬ K v ≤ key
  | 0, _ => ⟨0, Nat.le_refl 0, fun v hv => absurd hv (Nat.not_lt_zero v), fun v _ hv => absurd hv (Nat.not_lt_zero v)⟩
  | n + 1, h => by
    by_cases e : K n ≤ key
    · refine ⟨n + 1, Nat.le_refl _, fun v hv => ?_, fun v h1 h2 => by omega⟩
      by_cases g : v = n
      · subst g
        exact e
      · exact Int32.le_trans (Int32.le_of_lt (h v n (by omega) (by omega))) e
    · obtain ⟨p, h1, h2, h3⟩ := rise_pos n (fun i j hij hj => h i j hij (by omega))
      refine ⟨p, by omega, h2, fun v h4 h5 => ?_⟩
      by_cases g : v = n
      · subst g
        exact e
      · exact h3 v h4 (by omega)
/-- the shift up to p, i steps done -/
def shU (n i : Nat) (K k : Nat → Int32) : Prop := (∀ v, v < n - i → k v = K v) ∧ ∀ v, n - i < v → v ≤ n → k v = K (v - 1)
theorem shU_step {n i : Nat} {K k : Nat → Int32} (hi : i < n) (I : shU n i K k) : shU n (i + 1) K (upd k (n - i) (k (n - i - 1))) := by
  refine ⟨fun v hv => ?_, fun v h1 h2 => ?_⟩
  · rw [pk_un (by omega)]
    exact I.1 v (by omega)
  · by_cases e : v = n - i
    · subst e
      rw [pk_us, I.1 _ (by omega)]
    · rw [pk_un e]
      exact I.2 v (by omega) h2
theorem c_insert {n p : Nat} {nK nN : Nat → Int32} {key : Int32} (hN : nOK n nN) (hn : n < 12) (hp : p ≤ n) (h1 : ∀ v, v < p → nK v ≤ key) (h2 : ∀ v, p ≤ v → v < n → ¬ nK v ≤ key) : ∃ K' N', fX3_insert (nI n) nK nN key = some (nI (n + 1), K', N') ∧ (∀ v, v < n + 1 → K' v = kIns nK p key v) ∧ ∀ u, u < n + 1 → ∀ k, k < 32 → bt (N' u) k = (decide (k < n + 1) && aIns (zA nN) p u k) := by
  have zp : zin (nI p) 12 := p_in (by omega) (by omega)
  obtain ⟨e, k1, K1, N1, rfl, k2, k3⟩ := p_cnt (step := sX3_insert_15 key) (fun i s => ∃ k w, s = (nI (n - i), k, w) ∧ shU n i nK k ∧ shU n i nN w) (fun e => ∃ k w, e = (nI p, k, w) ∧ shU n (n - p) nK k ∧ shU n (n - p) nN w) (n - p) (fun i s hi hI => by
    obtain ⟨k, w, rfl, i1, i2⟩ := hI
    obtain ⟨q, hq⟩ : ∃ q, n - i = q + 1 := ⟨n - i - 1, by omega⟩
    have z1 : zin (nI q) 12 := p_in (by omega) (by omega)
    have z2 : zin (nI (q + 1)) 12 := p_in (by omega) (by omega)
    have s1 := shU_step (by omega) i1
    have s2 := shU_step (by omega) i2
    rw [hq, Nat.add_sub_cancel] at s1 s2
    dsimp only [sX3_insert_15]
    rw [hq, nI_pred]
    simp only [p_cl (i := q) (by omega), p_cl (i := q + 1) (by omega)]
    rw [if_neg (nI_nle (n := q + 1) (by omega) (by omega)), if_pos z1, if_neg (by rw [i1.1 q (by omega)]; exact h2 q (by omega) (by omega)), if_pos z1, if_pos z2, if_pos z1, if_pos z2, pk_m1]
    exact ⟨_, rfl, _, _, by rw [show n - (i + 1) = q by omega], s1, s2⟩) (fun s hI => by
    obtain ⟨k, w, rfl, i1, i2⟩ := hI
    rw [show n - (n - p) = p by omega]
    refine ⟨(nI p, k, w), ?_, k, w, rfl, i1, i2⟩
    dsimp only [sX3_insert_15]
    by_cases h0 : p = 0
    · subst h0
      rw [if_pos (show nI 0 ≤ 0 by decide)]
    · obtain ⟨q, rfl⟩ : ∃ q, p = q + 1 := ⟨p - 1, by omega⟩
      rw [if_neg (nI_nle (n := q + 1) (by omega) (by omega)), nI_pred, if_pos (p_in (by omega) (by omega))]
      simp only [p_cl (i := q) (by omega)]
      rw [if_pos (by rw [i1.1 q (by omega)]; exact h1 q (by omega))]) (by omega : n - p < 32) (s := (nI n, nK, nN)) ⟨nK, nN, by rw [Nat.sub_zero], ⟨fun v _ => rfl, fun v g1 g2 => by omega⟩, ⟨fun v _ => rfl, fun v g1 g2 => by omega⟩⟩
  unfold shU at k2 k3
  rw [show n - (n - p) = p by omega] at k2 k3
  have hrow : ∀ u, u < n + 1 → upd N1 p 0 u = if u = p then 0 else nN (dn p u) := by
    intro u hu
    unfold dn
    by_cases e : u = p
    · subst e
      rw [pk_us, if_pos rfl]
    · rw [pk_un e, if_neg e]
      by_cases g : u < p
      · rw [if_pos g]
        exact k3.1 u (by omega)
      · rw [if_neg g]
        exact k3.2 u (by omega) (by omega)
  obtain ⟨e, g1, g2⟩ := p_cnt (step := sX3_insert_91 (nI n) (nI p, K1, N1)) (fun i s => ∃ w, s = (nI i, w) ∧ (∀ u, i ≤ u → u < n + 1 → w u = upd N1 p 0 u) ∧ ∀ u, u < i → ∀ k, k < 32 → bt (w u) k = (decide (k < n + 1) && aIns (zA nN) p u k)) (fun e => ∀ u, u < n + 1 → ∀ k, k < 32 → bt (e.2 u) k = (decide (k < n + 1) && aIns (zA nN) p u k)) (n + 1) (fun i s hi hI => by
    obtain ⟨w, rfl, i1, i2⟩ := hI
    have zi : zin (nI i) 12 := p_in (by omega) (by omega)
    obtain ⟨r, r1, r2⟩ := b_room (k := 0) (p := p) (by omega) (by omega) (w i)
    dsimp only [sX3_insert_91]
    simp only [p_cl (i := i) (by omega)]
    rw [nI_1, if_neg (nI_ge hi (by omega)), if_pos zi, r1, ob, if_pos zi, nI_1]
    refine ⟨_, rfl, _, rfl, fun u hu1 hu2 => ?_, fun u hu k hk => ?_⟩
    · rw [pk_un (by omega)]
      exact i1 u (by omega) hu2
    · by_cases e : u = i
      · subst e
        rw [pk_us, r2 k hk, i1 u (Nat.le_refl u) hi, hrow u hi]
        unfold aIns
        by_cases e1 : u = p
        · rw [if_pos e1, if_pos (Or.inl e1)]
          rw [b_0, b_0]
          by_cases g1 : k < p
          · rw [if_pos g1, Bool.and_false]
          · rw [if_neg g1, Bool.and_false]
            by_cases g2 : k = p
            · rw [if_pos g2]
            · rw [if_neg g2]
        · rw [if_neg e1]
          have hdu : dn p u < n := by
            unfold dn
            by_cases g : u < p
            · rw [if_pos g]; omega
            · rw [if_neg g]; omega
          by_cases g2 : k = p
          · rw [if_neg (by omega : ¬ k < p), if_pos g2, if_pos (Or.inr g2), Bool.and_false]
          · rw [if_neg (by omega : ¬ (u = p ∨ k = p))]
            by_cases g1 : k < p
            · rw [if_pos g1, decide_eq_true (by omega : k < n + 1), show dn p k = k from if_pos g1]
              rfl
            · rw [if_neg g1, if_neg g2, show dn p k = k - 1 from if_neg g1]
              by_cases g3 : k < n + 1
              · rw [decide_eq_true g3]
                rfl
              · rw [decide_eq_false g3, hN.2.1 _ hdu (k - 1) (by omega)]
                rfl
      · rw [pk_un e]
        exact i2 u (by omega) k hk) (fun s hI => by
    obtain ⟨w, rfl, i1, i2⟩ := hI
    refine ⟨(nI (n + 1), w), ?_, i2⟩
    dsimp only [sX3_insert_91]
    rw [nI_1, if_pos (nI_le (Nat.le_refl (n + 1)) (by omega))]) (by omega : n + 1 < 32) (s := (0, upd N1 p 0)) ⟨_, rfl, fun u _ _ => rfl, fun u hu => absurd hu (Nat.not_lt_zero u)⟩
  unfold fX3_insert
  rw [if_pos (show nI n < 12 from nI_lt (b := 12) hn (by omega)), k1, ob]
  dsimp only
  simp only [p_cl (i := p) (by omega)]
  rw [if_pos zp, if_pos zp, g1, ob, nI_1]
  refine ⟨_, _, rfl, fun v hv => ?_, g2⟩
  unfold kIns
  by_cases e : v = p
  · subst e
    rw [pk_us, if_neg (Nat.lt_irrefl v), if_pos rfl]
  · rw [pk_un e]
    by_cases g : v < p
    · rw [if_pos g]
      exact k2.1 v (by omega)
    · rw [if_neg g, if_neg e]
      exact k2.2 v (by omega) (by omega)
