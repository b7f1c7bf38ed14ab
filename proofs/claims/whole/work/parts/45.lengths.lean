/-! PURE: the reference's lengths tell the same -/
theorem p_ff : ¬ (false = true) := by decide
theorem p_tt : true = true := rfl
def mJR (n : Nat) (a : Nat → Nat → Bool) (mJ : Nat → Nat → Int32) : Prop := ∀ i j, i < n → j < n → mJ i j = if a i j = true then 1 else 0
def bLP (n : Nat) (a : Nat → Nat → Bool) (so : Option Nat) (L : Nat → Option Nat) : Prop := (∀ v, v < n → (L v = some 0 ↔ so = some v)) ∧ (∀ v k, v < n → L v = some (k + 1) → ∃ u, u < n ∧ a u v = true ∧ L u = some k) ∧ (∀ u v k, u < n → v < n → a u v = true → L u = some k → ∃ k', k' ≤ k + 1 ∧ L v = some k') ∧ ∀ v k, v < n → L v = some k → k + 1 ≤ n
theorem bFO_LP {n : Nat} {a : Nat → Nat → Bool} {so : Option Nat} (hs : ∀ s, so = some s → s < n) : bLP n a so (bFO n a so).2.1 := by
  cases so with
  | none => exact ⟨fun v _ => ⟨fun e => (by cases e), fun e => (by cases e)⟩, fun v k _ e => (by cases e), fun u v k _ _ _ e => (by cases e), fun v k _ e => (by cases e)⟩
  | some s =>
    have hs := hs s rfl
    have h := bF_lay (a := a) hs
    exact ⟨fun v hv => ⟨fun e => by rw [h.2.1 v hv e], fun e => by cases e; exact h.1⟩, h.2.2.1, h.2.2.2, fun v k hv e => bD_le hs hv e⟩
theorem r_len1 {n r K J : Nat} {a : Nat → Nat → Bool} {mJ : Nat → Nat → Int32} {len0 lenK len : Nat → Int32} (hn : n ≤ 12) (hJ : mJR n a mJ) (hk : K < n) (hj : J < n) : ∃ len', sX6_lengths_57 (nI n) mJ (nI r, len0) (nI K, lenK) (nI J, len) = some (.inr (nI (J + 1), len')) ∧ len' J = (if a K J = true ∧ len K = nI r - 1 ∧ len J = -1 then nI r else len J) ∧ ∀ v, v ≠ J → len' v = len v := by
  have zK : zin (nI K) 12 := p_in (by omega) (by omega)
  have zJ : zin (nI J) 12 := p_in (by omega) (by omega)
  have hm := hJ K J hk hj
  dsimp only [sX6_lengths_57]
  simp only [p_cl (i := K) (by omega), p_cl (i := J) (by omega)]
  rw [if_neg (nI_ge hj (by omega)), if_pos zK, if_pos zJ, hm]
  cases ha : a K J with
  | false =>
    rw [if_neg p_ff, if_pos rfl, if_pos zJ, if_pos zJ, nI_1]
    exact ⟨_, rfl, by rw [pk_us, if_neg (fun h => by cases h.1)], fun v hv => pk_un hv⟩
  | true =>
    rw [if_pos p_tt, if_neg (by decide), if_pos zK]
    by_cases h1 : len K = nI r - 1
    · rw [if_pos h1, if_pos zJ]
      by_cases h2 : len J = -1
      · rw [if_pos h2, if_pos zJ, nI_1]
        exact ⟨_, rfl, by rw [pk_us, if_pos ⟨rfl, h1, h2⟩], fun v hv => pk_un hv⟩
      · rw [if_neg h2, if_pos zJ, if_pos zJ, nI_1]
        exact ⟨_, rfl, by rw [pk_us, if_neg (fun h => h2 h.2.2)], fun v hv => pk_un hv⟩
    · rw [if_neg h1, if_pos zJ, if_pos zJ, nI_1]
      exact ⟨_, rfl, by rw [pk_us, if_neg (fun h => h1 h.2.1)], fun v hv => pk_un hv⟩
/-- round r, rows below K and in row K the places below J looked at -/
def lI (n : Nat) (a : Nat → Nat → Bool) (L : Nat → Option Nat) (r K J : Nat) (len : Nat → Int32) : Prop := ∀ v, v < n →
  (∀ k, L v = some k → k < r → len v = nI k) ∧
  (L v = some r → (len v = nI r ∨ len v = -1) ∧ ((∃ u, u < n ∧ (u < K ∨ (u = K ∧ v < J)) ∧ a u v = true ∧ L u = some (r - 1)) → len v = nI r)) ∧
  ((∀ k, L v = some k → r < k) → len v = -1)
theorem lI_step {n r K J : Nat} {a : Nat → Nat → Bool} {so : Option Nat} {L : Nat → Option Nat} {len len' : Nat → Int32} (hn : n ≤ 12) (hL : bLP n a so L) (hr : 0 < r) (hr2 : r < 100) (hk : K < n) (hj : J < n) (I : lI n a L r K J len) (h1 : len' J = (if a K J = true ∧ len K = nI r - 1 ∧ len J = -1 then nI r else len J)) (h2 : ∀ v, v ≠ J → len' v = len v) : lI n a L r K (J + 1) len' := by
  have hrr : nI r - 1 = nI (r - 1) := by
    obtain ⟨r, rfl⟩ : ∃ q, r = q + 1 := ⟨r - 1, by omega⟩
    exact nI_pred r
  rw [hrr] at h1
  intro v hv
  by_cases hvj : v = J
  · subst hvj
    obtain ⟨i1, i2, i3⟩ := I v hv
    refine ⟨fun k e hkr => ?_, fun e => ?_, fun e => ?_⟩
    · have g := i1 k e hkr
      rw [h1, if_neg (fun h => absurd (g.symm.trans h.2.2) (p_m1 (by omega)))]
      exact g
    · rcases (i2 e).1 with g | g
      · have : len' v = nI r := by
          rw [h1, g]
          by_cases hc : a K v = true ∧ len K = nI (r - 1) ∧ nI r = -1
          · rw [if_pos hc]
          · rw [if_neg hc]
        exact ⟨Or.inl this, fun _ => this⟩
      · by_cases hc : a K v = true ∧ len K = nI (r - 1) ∧ len v = -1
        · rw [if_pos hc] at h1
          exact ⟨Or.inl h1, fun _ => h1⟩
        · rw [if_neg hc] at h1
          refine ⟨Or.inr (h1.trans g), ?_⟩
          rintro ⟨u, hu, hd, ha, eu⟩
          by_cases hu2 : u = K
          · subst hu2
            exact absurd ⟨ha, (I u hu).1 (r - 1) eu (by omega), g⟩ hc
          · have := (i2 e).2 ⟨u, hu, Or.inl (by omega), ha, eu⟩
            rw [g] at this
            exact absurd this.symm (p_m1 (by omega))
    · have g := i3 e
      rw [h1, if_neg ?_]
      · exact g
      · rintro ⟨ha, hlen, -⟩
        obtain ⟨j1, j2, j3⟩ := I K hk
        have hLK : L K = some (r - 1) := by
          cases hLK : L K with
          | none =>
            rw [j3 (fun k e => by rw [hLK] at e; cases e)] at hlen
            exact absurd hlen.symm (p_m1 (by omega))
          | some k =>
            have hkn := hL.2.2.2 K k hk hLK
            rcases Nat.lt_trichotomy k r with g1 | g1 | g1
            · rw [j1 k hLK g1] at hlen
              rw [(p_eq (by omega) (by omega)).mp hlen]
            · subst g1
              rcases (j2 hLK).1 with g2 | g2
              · rw [g2] at hlen
                have := (p_eq (by omega) (by omega)).mp hlen
                omega
              · rw [g2] at hlen
                exact absurd hlen.symm (p_m1 (by omega))
            · rw [j3 (fun k' e => by rw [hLK] at e; cases e; exact g1)] at hlen
              exact absurd hlen.symm (p_m1 (by omega))
        obtain ⟨k', g1, g2⟩ := hL.2.2.1 K v (r - 1) hk hv ha hLK
        have := e k' g2
        omega
  · obtain ⟨i1, i2, i3⟩ := I v hv
    rw [h2 v hvj]
    refine ⟨i1, fun e => ⟨(i2 e).1, ?_⟩, i3⟩
    rintro ⟨u, hu, hd, ha, eu⟩
    exact (i2 e).2 ⟨u, hu, by omega, ha, eu⟩
theorem r_len2 {n r K : Nat} {a : Nat → Nat → Bool} {so : Option Nat} {L : Nat → Option Nat} {mJ : Nat → Nat → Int32} {len0 len : Nat → Int32} (hn : n ≤ 12) (hJ : mJR n a mJ) (hL : bLP n a so L) (hr : 0 < r) (hr2 : r < 100) (hk : K < n) (I : lI n a L r K 0 len) : ∃ e, zloop (sX6_lengths_57 (nI n) mJ (nI r, len0) (nI K, len)) 32 (0, len) = some e ∧ lI n a L r (K + 1) 0 e.2 := by
  refine p_cnt (step := sX6_lengths_57 (nI n) mJ (nI r, len0) (nI K, len)) (fun J s => ∃ l, s = (nI J, l) ∧ lI n a L r K J l) (fun e => lI n a L r (K + 1) 0 e.2) n (fun J s hj hI => ?_) (fun s hI => ?_) (by omega) ⟨len, rfl, I⟩
  · obtain ⟨l, rfl, hI⟩ := hI
    obtain ⟨l', h1, h2, h3⟩ := r_len1 (r := r) (len0 := len0) (lenK := len) (len := l) hn hJ hk hj
    exact ⟨_, h1, l', rfl, lI_step hn hL hr hr2 hk hj hI h2 h3⟩
  · obtain ⟨l, rfl, hI⟩ := hI
    refine ⟨(nI n, l), ?_, fun v hv => ?_⟩
    · dsimp only [sX6_lengths_57]
      rw [if_pos (nI_le (Nat.le_refl n) (by omega))]
    · obtain ⟨i1, i2, i3⟩ := hI v hv
      refine ⟨i1, fun e => ⟨(i2 e).1, ?_⟩, i3⟩
      rintro ⟨u, hu, hd, ha, eu⟩
      exact (i2 e).2 ⟨u, hu, by omega, ha, eu⟩
theorem r_len3 {n r : Nat} {a : Nat → Nat → Bool} {so : Option Nat} {L : Nat → Option Nat} {mJ : Nat → Nat → Int32} {len : Nat → Int32} (hn : n ≤ 12) (hJ : mJR n a mJ) (hL : bLP n a so L) (hr : 0 < r) (hr2 : r < 100) (I : lI n a L r 0 0 len) : ∃ e, zloop (sX6_lengths_45 (nI n) mJ (nI r, len)) 32 (0, len) = some e ∧ lI n a L (r + 1) 0 0 e.2 := by
  refine p_cnt (step := sX6_lengths_45 (nI n) mJ (nI r, len)) (fun K s => ∃ l, s = (nI K, l) ∧ lI n a L r K 0 l) (fun e => lI n a L (r + 1) 0 0 e.2) n (fun K s hk hI => ?_) (fun s hI => ?_) (by omega) ⟨len, rfl, I⟩
  · obtain ⟨l, rfl, hI⟩ := hI
    obtain ⟨e, h1, h2⟩ := r_len2 (len0 := len) hn hJ hL hr hr2 hk hI
    refine ⟨(nI (K + 1), e.2), ?_, e.2, rfl, h2⟩
    dsimp only [sX6_lengths_45]
    rw [if_neg (nI_ge hk (by omega)), h1, ob, nI_1]
  · obtain ⟨l, rfl, hI⟩ := hI
    refine ⟨(nI n, l), ?_, fun v hv => ?_⟩
    · dsimp only [sX6_lengths_45]
      rw [if_pos (nI_le (Nat.le_refl n) (by omega))]
    · obtain ⟨i1, i2, i3⟩ := hI v hv
      refine ⟨fun k e hkr => ?_, fun e => ?_, fun e => i3 (fun k ek => by have := e k ek; omega)⟩
      · rcases Nat.lt_or_ge k r with g | g
        · exact i1 k e g
        · have hkk : k = r := by omega
          subst hkk
          obtain ⟨k, rfl⟩ : ∃ q, k = q + 1 := ⟨k - 1, by omega⟩
          obtain ⟨u, hu, ha, eu⟩ := hL.2.1 v k hv e
          exact (i2 e).2 ⟨u, hu, Or.inl hu, ha, eu⟩
      · have g := i3 (fun k ek => by rw [e] at ek; cases ek; omega)
        refine ⟨Or.inr g, ?_⟩
        rintro ⟨u, hu, hd, -, -⟩
        omega
theorem r_len0 (so : Option Nat) (hs : ∀ s, so = some s → s < 12) : ∃ e, zloop (sX6_lengths_7 (enc so)) 32 (0, (fun _ => 0)) = some e ∧ ∀ v, v < 12 → e.2 v = if so = some v then 0 else -1 := by
  refine p_cnt (step := sX6_lengths_7 (enc so)) (fun i s => ∃ l, s = (nI i, l) ∧ ∀ v, v < i → l v = if so = some v then 0 else -1) (fun e => ∀ v, v < 12 → e.2 v = if so = some v then 0 else -1) 12 (fun i s hi hI => ?_) (fun s hI => ?_) (by omega) ⟨_, rfl, fun v hv => absurd hv (Nat.not_lt_zero v)⟩
  · obtain ⟨l, rfl, hI⟩ := hI
    have zi : zin (nI i) 12 := p_in hi (by omega)
    have he : nI i = enc so ↔ so = some i := by
      have := enc_inj (x := some i) (y := so) (fun k e => by cases e; omega) (fun k e => by have := hs k e; omega)
      exact ⟨fun h => (this.mp h).symm, fun h => this.mpr h.symm⟩
    dsimp only [sX6_lengths_7]
    simp only [p_cl (i := i) (by omega)]
    rw [if_neg (q12n hi)]
    by_cases h : so = some i
    · rw [if_pos (he.mpr h), if_pos zi, nI_1]
      refine ⟨_, rfl, _, rfl, fun v hv => ?_⟩
      by_cases hvi : v = i
      · subst hvi
        rw [pk_us, if_pos h]
      · rw [pk_un hvi]
        exact hI v (by omega)
    · rw [if_neg (fun e => h (he.mp e)), if_pos zi, nI_1]
      refine ⟨_, rfl, _, rfl, fun v hv => ?_⟩
      by_cases hvi : v = i
      · subst hvi
        rw [pk_us, if_neg h]
      · rw [pk_un hvi]
        exact hI v (by omega)
  · obtain ⟨l, rfl, hI⟩ := hI
    refine ⟨(nI 12, l), ?_, hI⟩
    dsimp only [sX6_lengths_7]
    rw [if_pos (q12 (i := 12) (by omega) (by omega))]
theorem r_lengths {n : Nat} {a : Nat → Nat → Bool} {so : Option Nat} {mJ : Nat → Nat → Int32} (hn : n ≤ 12) (hJ : mJR n a mJ) (hs : ∀ s, so = some s → s < n) : ∃ len, fX6_lengths (nI n) mJ (enc so) = some len ∧ ∀ v, v < n → len v = enc ((bFO n a so).2.1 v) := by
  have hL := bFO_LP (a := a) hs
  obtain ⟨e0, h0, g0⟩ := r_len0 so (fun s e => by have := hs s e; omega)
  obtain ⟨e, h1, h2⟩ := p_cnt (step := sX6_lengths_34 (nI n) mJ) (fun i s => ∃ l, s = (nI (i + 1), l) ∧ lI n a (bFO n a so).2.1 (i + 1) 0 0 l) (fun e => ∀ v, v < n → e.2 v = enc ((bFO n a so).2.1 v)) (n - 1) (fun i s hi hI => by
    obtain ⟨l, rfl, hI⟩ := hI
    obtain ⟨e, h1, h2⟩ := r_len3 hn hJ hL (by omega) (by omega) hI
    refine ⟨(nI (i + 1 + 1), e.2), ?_, e.2, rfl, h2⟩
    dsimp only [sX6_lengths_34]
    rw [if_neg (nI_ge (a := i + 1) (b := n) (by omega) (by omega)), h1, ob, nI_1]) (fun s hI => by
    obtain ⟨l, rfl, hI⟩ := hI
    refine ⟨(nI (n - 1 + 1), l), ?_, fun v hv => ?_⟩
    · dsimp only [sX6_lengths_34]
      rw [if_pos (nI_le (a := n) (by omega) (by omega))]
    · obtain ⟨i1, i2, i3⟩ := hI v hv
      cases hLv : (bFO n a so).2.1 v with
      | none => exact i3 (fun k e => by rw [hLv] at e; cases e)
      | some k =>
        have := hL.2.2.2 v k hv hLv
        exact i1 k hLv (by omega)) (by omega : n - 1 < 32) (s := (1, e0.2)) ⟨e0.2, rfl, fun v hv => by
      have hv0 := g0 v (by omega)
      have h3 := hL.1 v hv
      refine ⟨fun k e hk => ?_, fun e => ?_, fun e => ?_⟩
      · have : k = 0 := by omega
        subst this
        rw [hv0, if_pos (h3.mp e)]
        rfl
      · have g : e0.2 v = -1 := by
          rw [hv0, if_neg (fun h => by
            have := h3.mpr h
            rw [e] at this
            cases this)]
        refine ⟨Or.inr g, ?_⟩
        rintro ⟨u, hu, hd, -, -⟩
        omega
      · rw [hv0, if_neg (fun h => by
          have := e 0 (h3.mpr h)
          omega)]⟩
  unfold fX6_lengths
  rw [h0, ob, h1, ob]
  exact ⟨_, rfl, h2⟩
