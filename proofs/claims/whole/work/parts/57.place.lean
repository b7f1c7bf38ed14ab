/-! PURE: the reference's place -/
def bI01 (b : Bool) : Int32 := if b = true then 1 else 0
def pInv (n : Nat) (a : Nat → Nat → Bool) (p r c : Nat) (M : Nat → Nat → Int32) : Prop := ∀ u v, u ≤ n → v ≤ n → ((r ≤ u ∨ (u + 1 = r ∧ c ≤ v)) → M u v = bI01 (aIns a p u v)) ∧ (¬ (r ≤ u ∨ (u + 1 = r ∧ c ≤ v)) → u < n → v < n → M u v = bI01 (a u v))
theorem dn_le {p u : Nat} : dn p u ≤ u := by
  unfold dn
  by_cases h : u < p
  · rw [if_pos h]
    exact Nat.le_refl u
  · rw [if_neg h]
    omega
theorem dn_lt {n p u : Nat} (hp : p ≤ n) (hu : u ≤ n) (hne : u ≠ p) : dn p u < n := by
  unfold dn
  by_cases h : u < p
  · rw [if_pos h]
    omega
  · rw [if_neg h]
    omega
theorem dn_I {p u : Nat} (hp : p < 100) (hu : u < 100) (hne : u ≠ p) : ((if nI u ≤ nI p then some (nI u) else some (nI u - 1)) : Option Int32) = some (nI (dn p u)) := by
  unfold dn
  by_cases h : u < p
  · rw [if_pos (nI_le (by omega) (by omega)), if_pos h]
  · obtain ⟨q, rfl⟩ : ∃ q, u = q + 1 := ⟨u - 1, by omega⟩
    rw [if_neg (nI_ge (by omega) (by omega)), if_neg h, nI_pred, Nat.add_sub_cancel]
theorem pInv_step {n p u0 v0 : Nat} {a : Nat → Nat → Bool} {M : Nat → Nat → Int32} (I : pInv n a p (u0 + 1) (v0 + 1) M) : pInv n a p (u0 + 1) v0 (zup2 M u0 v0 (bI01 (aIns a p u0 v0))) := by
  intro u v hu hv
  by_cases e : u = u0 ∧ v = v0
  · obtain ⟨rfl, rfl⟩ := e
    refine ⟨fun _ => zup2_s, fun h => absurd (Or.inr ⟨rfl, Nat.le_refl v⟩) h⟩
  · rw [zup2_n e]
    obtain ⟨i1, i2⟩ := I u v hu hv
    exact ⟨fun h => i1 (by omega), fun h => i2 (by omega)⟩
theorem r_pl1 {n p u0 v0 : Nat} {a : Nat → Nat → Bool} {M0 M : Nat → Nat → Int32} (hn : n < 12) (hp : p ≤ n) (hu : u0 ≤ n) (hv : v0 ≤ n) (I : pInv n a p (u0 + 1) (v0 + 1) M) : ∃ M', sX6_place_130 (nI p) (nI u0, M0) (nI v0, M) = some (.inr (dI v0, M')) ∧ pInv n a p (u0 + 1) v0 M' := by
  have zu : zin (nI u0) 12 := p_in (by omega) (by omega)
  have zv : zin (nI v0) 12 := p_in (by omega) (by omega)
  have hpre : nI v0 + (-1) = dI v0 := dI_pred v0
  have hst := pInv_step I
  dsimp only [sX6_place_130]
  simp only [p_cl (i := u0) (by omega), p_cl (i := v0) (by omega)]
  rw [if_neg (nI_pos (n := v0) (by omega)), if_pos zu, hpre]
  by_cases e1 : u0 = p
  · have hz : bI01 (aIns a p u0 v0) = 0 := by
      unfold aIns bI01
      rw [if_pos (Or.inl e1)]
      rfl
    rw [hz] at hst
    rw [if_pos (by rw [e1]), if_pos zv, ob]
    exact ⟨_, rfl, hst⟩
  · rw [if_neg (fun g => e1 ((p_eq (by omega) (by omega)).mp g))]
    by_cases e2 : v0 = p
    · have hz : bI01 (aIns a p u0 v0) = 0 := by
        unfold aIns bI01
        rw [if_pos (Or.inr e2)]
        rfl
      rw [hz] at hst
      rw [if_pos (by rw [e2]), if_pos zv, ob]
      exact ⟨_, rfl, hst⟩
    · have hdu := dn_lt hp hu e1
      have hdv := dn_lt hp hv e2
      have lu := dn_le (p := p) (u := u0)
      have lv := dn_le (p := p) (u := v0)
      have hsrc : M (dn p u0) (dn p v0) = bI01 (a (dn p u0) (dn p v0)) := (I (dn p u0) (dn p v0) (by omega) (by omega)).2 (by omega) hdu hdv
      have hval : aIns a p u0 v0 = a (dn p u0) (dn p v0) := by
        unfold aIns
        rw [if_neg (by omega)]
      rw [hval] at hst
      rw [if_neg (fun g => e2 ((p_eq (by omega) (by omega)).mp g)), dn_I (by omega) (by omega) e1, ob, if_pos (p_in (by omega) (by omega)), dn_I (by omega) (by omega) e2, ob, if_pos (p_in (by omega) (by omega))]
      simp only [p_cl (i := dn p u0) (by omega), p_cl (i := dn p v0) (by omega)]
      rw [hsrc]
      cases hb : a (dn p u0) (dn p v0) with
      | false =>
        rw [hb] at hst
        rw [if_pos (show bI01 false = 0 from rfl), if_pos zv, ob]
        exact ⟨_, rfl, hst⟩
      | true =>
        rw [hb] at hst
        rw [if_neg (show ¬ bI01 true = 0 by decide), if_pos zv, ob]
        exact ⟨_, rfl, hst⟩
theorem r_pl2 {n p u0 : Nat} {a : Nat → Nat → Bool} {M : Nat → Nat → Int32} (hn : n < 12) (hp : p ≤ n) (hu : u0 ≤ n) (I : pInv n a p (u0 + 1) (n + 1) M) : ∃ e, zloop (sX6_place_130 (nI p) (nI u0, M)) 32 (nI n, M) = some e ∧ pInv n a p u0 (n + 1) e.2 := by
  refine p_cnt (step := sX6_place_130 (nI p) (nI u0, M)) (fun i s => ∃ l, s = (dI (n + 1 - i), l) ∧ pInv n a p (u0 + 1) (n + 1 - i) l) (fun e => pInv n a p u0 (n + 1) e.2) (n + 1) (fun i s hi hI => ?_) (fun s hI => ?_) (by omega) ⟨M, rfl, I⟩
  · obtain ⟨l, rfl, hI⟩ := hI
    obtain ⟨q, hq⟩ : ∃ q, n + 1 - i = q + 1 := ⟨n - i, by omega⟩
    rw [hq] at hI ⊢
    obtain ⟨M', h1, h2⟩ := r_pl1 (M0 := M) hn hp hu (by omega) hI
    exact ⟨_, h1, M', by rw [show n + 1 - (i + 1) = q by omega], by rw [show n + 1 - (i + 1) = q by omega]; exact h2⟩
  · obtain ⟨l, rfl, hI⟩ := hI
    rw [Nat.sub_self] at hI ⊢
    refine ⟨(dI 0, l), ?_, fun u v hu2 hv2 => ?_⟩
    · dsimp only [sX6_place_130]
      rw [if_pos (by decide)]
    · obtain ⟨i1, i2⟩ := hI u v hu2 hv2
      exact ⟨fun h => i1 (by omega), fun h => i2 (by omega)⟩
theorem r_pl3 {n p : Nat} {a : Nat → Nat → Bool} {M : Nat → Nat → Int32} (hn : n < 12) (hp : p ≤ n) (hJ : mJR n a M) : ∃ e, zloop (sX6_place_118 (nI n) (nI p)) 32 ((nI n + 1) - 1, M) = some e ∧ mJR (n + 1) (aIns a p) e.2 := by
  have e0 : nI n + 1 - 1 = nI n := by rw [nI_1, nI_pred]
  rw [e0]
  refine p_cnt (step := sX6_place_118 (nI n) (nI p)) (fun i s => ∃ l, s = (dI (n + 1 - i), l) ∧ pInv n a p (n + 1 - i) (n + 1) l) (fun e => mJR (n + 1) (aIns a p) e.2) (n + 1) (fun i s hi hI => ?_) (fun s hI => ?_) (by omega) ⟨M, rfl, fun u v hu hv => ⟨fun h => by omega, fun _ h1 h2 => hJ u v h1 h2⟩⟩
  · obtain ⟨l, rfl, hI⟩ := hI
    obtain ⟨q, hq⟩ : ∃ q, n + 1 - i = q + 1 := ⟨n - i, by omega⟩
    rw [hq] at hI ⊢
    obtain ⟨e, h1, h2⟩ := r_pl2 hn hp (by omega) hI
    refine ⟨(dI q, e.2), ?_, e.2, by rw [show n + 1 - (i + 1) = q by omega], by rw [show n + 1 - (i + 1) = q by omega]; exact h2⟩
    dsimp only [sX6_place_118]
    rw [if_neg (show ¬ dI (q + 1) < 0 from nI_pos (n := q) (by omega)), e0, show dI (q + 1) = nI q from rfl, h1, ob, show nI q = dI (q + 1) from rfl, dI_pred]
  · obtain ⟨l, rfl, hI⟩ := hI
    rw [Nat.sub_self] at hI ⊢
    refine ⟨(dI 0, l), ?_, fun u v hu hv => ?_⟩
    · dsimp only [sX6_place_118]
      rw [if_pos (by decide)]
    · exact (hI u v (by omega) (by omega)).1 (Or.inl (Nat.zero_le u))
theorem r_pos {n p : Nat} {K : Nat → Int32} {key : Int32} (hn : n < 12) (hp : p ≤ n) (h1 : ∀ v, v < p → K v ≤ key) (h2 : ∀ v, p ≤ v → v < n → ¬ K v ≤ key) : zloop (sX6_place_42 K key) 32 (nI n) = some (nI p) := by
  refine p_for (fun i => nI (n - i)) (n - p) (fun i hi => ?_) ?_ (by omega) (by rw [Nat.sub_zero])
  · obtain ⟨q, hq⟩ : ∃ q, n - i = q + 1 := ⟨n - i - 1, by omega⟩
    dsimp only [sX6_place_42]
    rw [hq, nI_pred, if_neg (nI_nle (n := q + 1) (by omega) (by omega)), if_pos (p_in (by omega) (by omega))]
    simp only [p_cl (i := q) (by omega)]
    rw [if_neg (h2 q (by omega) (by omega)), pk_m1, show n - (i + 1) = q by omega]
  · rw [show n - (n - p) = p by omega]
    dsimp only [sX6_place_42]
    by_cases h0 : p = 0
    · subst h0
      rw [if_pos (show nI 0 ≤ 0 by decide)]
    · obtain ⟨q, rfl⟩ : ∃ q, p = q + 1 := ⟨p - 1, by omega⟩
      rw [if_neg (nI_nle (n := q + 1) (by omega) (by omega)), nI_pred, if_pos (p_in (by omega) (by omega))]
      simp only [p_cl (i := q) (by omega)]
      rw [if_pos (h1 q (by omega))]
theorem r_keys {n p : Nat} {K : Nat → Int32} {key : Int32} (hn : n < 12) (hp : p ≤ n) : ∃ e, zloop (sX6_place_69 (nI p)) 32 (nI n, K) = some e ∧ ∀ v, v < n + 1 → upd e.2 p key v = kIns K p key v := by
  refine p_cnt (step := sX6_place_69 (nI p)) (fun i s => ∃ k, s = (nI (n - i), k) ∧ shU n i K k) (fun e => ∀ v, v < n + 1 → upd e.2 p key v = kIns K p key v) (n - p) (fun i s hi hI => ?_) (fun s hI => ?_) (by omega) ⟨K, by rw [Nat.sub_zero], fun v _ => rfl, fun v g1 g2 => by omega⟩
  · obtain ⟨k, rfl, i1⟩ := hI
    obtain ⟨q, hq⟩ : ∃ q, n - i = q + 1 := ⟨n - i - 1, by omega⟩
    have s1 := shU_step (by omega) i1
    rw [hq, Nat.add_sub_cancel] at s1
    dsimp only [sX6_place_69]
    rw [hq, nI_pred]
    simp only [p_cl (i := q) (by omega), p_cl (i := q + 1) (by omega)]
    rw [if_neg (nI_ge (by omega) (by omega)), if_pos (p_in (by omega) (by omega)), if_pos (p_in (by omega) (by omega)), pk_m1]
    exact ⟨_, rfl, _, by rw [show n - (i + 1) = q by omega], s1⟩
  · obtain ⟨k, rfl, i1⟩ := hI
    rw [show n - (n - p) = p by omega]
    refine ⟨(nI p, k), ?_, fun v hv => ?_⟩
    · dsimp only [sX6_place_69]
      rw [if_pos (nI_le (Nat.le_refl p) (by omega))]
    · unfold shU at i1
      rw [show n - (n - p) = p by omega] at i1
      show upd k p key v = _
      unfold kIns
      by_cases e : v = p
      · subst e
        rw [pk_us, if_neg (Nat.lt_irrefl v), if_pos rfl]
      · rw [pk_un e]
        by_cases g : v < p
        · rw [if_pos g]
          exact i1.1 v g
        · rw [if_neg g, if_neg e]
          exact i1.2 v (by omega) (by omega)
