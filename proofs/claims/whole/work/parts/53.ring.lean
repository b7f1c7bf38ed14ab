/-! PURE: two colours, the reference's ring, the ring's checks -/
theorem tin_lt {n v : Nat} {a : Nat → Nat → Bool} : tin n a v < 2 := Nat.mod_lt _ (by omega)
theorem two_none {n : Nat} {nN T : Nat → Int32} (hN : nOK n nN) (hT : ∀ v, v < n → T v = nI (tin n (zA nN) v)) (h : ∀ i j, unl n (zA nN) T i j) : ∀ v k, v < n → k % 2 = 1 → wk n (zA nN) k v v = 0 := by
  have edge : ∀ u v, u < n → v < n → zA nN u v = true → tin n (zA nN) u ≠ tin n (zA nN) v := by
    intro u v hu hv ha e
    have hTT : T u = T v := by rw [hT u hu, hT v hv, e]
    rcases Nat.lt_trichotomy u v with g | g | g
    · refine h v u hv g ?_ hTT.symm
      rw [hN.2.2.1 v u hv hu]
      exact ha
    · subst g
      have := hN.2.2.2 u hu
      have ha : bt (nN u) u = true := ha
      rw [this] at ha
      cases ha
    · exact h u v hu g ha hTT
  have par : ∀ k u v, u < n → v < n → 0 < wk n (zA nN) k u v → (tin n (zA nN) u + k + tin n (zA nN) v) % 2 = 0 := by
    intro k
    induction k with
    | zero =>
      intro u v hu hv h0
      have := wk_pos0 h0
      subst this
      omega
    | succ k ih =>
      intro u v hu hv h0
      obtain ⟨w, hw, h1, h2⟩ := wk_step_inv h0
      have g1 := ih w v hw hv h2
      have g2 := edge u w hu hw h1
      have g3 := tin_lt (n := n) (v := u) (a := zA nN)
      have g4 := tin_lt (n := n) (v := w) (a := zA nN)
      omega
  intro v k hv hk
  rcases Nat.eq_zero_or_pos (wk n (zA nN) k v v) with e | e
  · exact e
  · have := par k v v hv hv e
    omega
theorem two_odd {n : Nat} {nN T : Nat → Int32} (hN : nOK n nN) (hT : ∀ v, v < n → T v = nI (tin n (zA nN) v)) (h : ∃ i j, ¬ unl n (zA nN) T i j) : ∃ o, oddL n (zA nN) o := by
  obtain ⟨i, j, h⟩ := h
  have hi : i < n := Classical.byContradiction fun g => h (fun g1 _ _ => absurd g1 g)
  have hj : j < i := Classical.byContradiction fun g => h (fun _ g1 _ => absurd g1 g)
  have ha : zA nN i j = true := Classical.byContradiction fun g => h (fun _ _ g1 => absurd g1 g)
  have hTT : T i = T j := Classical.byContradiction fun g => h (fun _ _ _ => g)
  have hs := hN.2.2.1
  have hjn : j < n := by omega
  have e : tin n (zA nN) i = tin n (zA nN) j := by
    rw [hT i hi, hT j hjn] at hTT
    have g3 := tin_lt (n := n) (v := i) (a := zA nN)
    have g4 := tin_lt (n := n) (v := j) (a := zA nN)
    exact (p_eq (by omega) (by omega)).mp hTT
  have w1 : 0 < wk n (zA nN) 1 i j := wk_step hjn ha (by rw [wk_zero, if_pos rfl]; omega)
  have hh := hd_eq hs hi hjn (reach_of_wk hi hjn w1)
  obtain ⟨r1, r2, -, -⟩ := hd_spec (a := zA nN) hi
  obtain ⟨q1, q2, -, -⟩ := hd_spec (a := zA nN) hjn
  have r3 := reach_sym hs hi r2 r1
  have q3 := reach_sym hs hjn q2 q1
  unfold tin at e
  rw [← hh] at e q3 q2
  cases h1 : bD n (zA nN) (hd n (zA nN) i) i with
  | none =>
    rw [h1] at r3
    cases r3
  | some d1 =>
    cases h2 : bD n (zA nN) (hd n (zA nN) i) j with
    | none =>
      rw [h2] at q3
      cases q3
    | some d2 =>
      rw [h1, h2] at e
      have e : d1 % 2 = d2 % 2 := e
      have k1 := (bF_lay (a := zA nN) r2).walk r2 d1 hi h1
      have k2 := (bF_lay (a := zA nN) r2).walk r2 d2 hjn h2
      rw [wk_sym hs d2 r2 hjn] at k2
      have k3 := wk_join d1 k1 (wk_join 1 w1 k2)
      exact oddL_ex r2 (by omega) k3
theorem c_isOdd {o : Nat} (h3 : 3 ≤ o) (h12 : o ≤ 12) (hp : o % 2 = 1) : fX4_isOdd (nI o) = some 1 := by
  have h : ∀ o, o < 13 → 3 ≤ o → o % 2 = 1 → fX4_isOdd (nI o) = some 1 := by decide
  exact h o (by omega) h3 hp
theorem c_isUnlike {o : Nat} {R : Nat → Int32} (h12 : o ≤ 12) (h : ∀ i j, j < i → i < o → R i ≠ R j) : fX4_isUnlike (nI o) R = some 1 := by
  have hin : ∀ i, i < o → zloop (sX4_isUnlike_12 R (nI i)) 32 0 = some (.inr (nI i)) := by
    intro i hi
    refine p_for (fun j => nI j) i (fun j hj => ?_) ?_ (by omega) rfl
    · have zi : zin (nI i) 12 := p_in (by omega) (by omega)
      have zj : zin (nI j) 12 := p_in (by omega) (by omega)
      dsimp only [sX4_isUnlike_12]
      simp only [p_cl (i := i) (by omega), p_cl (i := j) (by omega)]
      rw [if_neg (nI_ge hj (by omega)), if_pos zi, if_pos zj, if_neg (h i j hj hi), nI_1]
    · dsimp only [sX4_isUnlike_12]
      rw [if_pos (nI_le (Nat.le_refl i) (by omega))]
  have hout : zloop (sX4_isUnlike_2 (nI o) R) 32 0 = some (.inr (nI o)) := by
    refine p_for (fun i => nI i) o (fun i hi => ?_) ?_ (by omega) rfl
    · dsimp only [sX4_isUnlike_2]
      rw [if_neg (nI_ge hi (by omega)), hin i hi, ob]
      show some (Sum.inr (nI i + 1)) = _
      rw [nI_1]
    · dsimp only [sX4_isUnlike_2]
      rw [if_pos (nI_le (Nat.le_refl o) (by omega))]
  unfold fX4_isUnlike
  rw [hout, ob]
  rfl
theorem wl_closed {n o v : Nat} {a : Nat → Nat → Bool} (ho : oddL n a o) (hv : v < n) : wl n a v 1 v (2 * n) = some o ↔ 0 < wk n a o v v := by
  have hle := odd_le ho
  have hp := ho.1
  constructor
  · intro h
    exact (wl_some h).2.2
  · intro h
    obtain ⟨r, r1, r2⟩ := wl_mono (n := n) (a := a) (f := v) (p := 1) (v := v) (R := 2 * n) (by omega) ho.1 h
    obtain ⟨-, g1, g2⟩ := wl_some r1
    by_cases g : r = o
    · rw [← g]
      exact r1
    · have := ho.2.2 v r hv (by omega) g1
      omega
theorem r_first {n o : Nat} {a : Nat → Nat → Bool} {mJ : Nat → Nat → Int32} (hn : n ≤ 12) (hJ : mJR n a mJ) (ho : oddL n a o) : zloop (sX6_ringAt_46 (nI n) mJ (nI o)) 32 0 = some (nI (fsp n a o)) := by
  obtain ⟨f1, f2, f3⟩ := fsp_spec ho
  have hle := odd_le ho
  have heq : ∀ v, v < n → (enc (wl n a v 1 v (2 * n)) = nI o ↔ 0 < wk n a o v v) := by
    intro v hv
    rw [← wl_closed ho hv]
    exact enc_inj (y := some o) (fun r e => by have := wl_bound e; omega) (fun r e => by cases e; omega)
  refine p_for (fun i => nI i) (fsp n a o) (fun i hi => ?_) ?_ (by omega) rfl
  · dsimp only [sX6_ringAt_46]
    rw [r_oddWalk hn hJ (by omega), ob, if_neg (fun g => by have := (heq i (by omega)).mp g; have := f3 i hi; omega), nI_1]
  · dsimp only [sX6_ringAt_46]
    rw [r_oddWalk hn hJ f1, ob, if_pos ((heq _ f1).mpr f2)]
theorem r_next {n o f i : Nat} {a : Nat → Nat → Bool} {mJ M : Nat → Nat → Int32} (hn : n ≤ 12) (hJ : mJR n a mJ) (hs : Gsym n a) (ho : oddL n a o) (hf : f < n) (hw : 0 < wk n a o f f) (hM : wM n a f (2 * n) M) (hi : i < o) (y : Int32) : zloop (sX6_ringAt_86 mJ M (nI (o - i), nI (rf n a o f i), y)) 32 0 = some (nI (rf n a o f (i + 1))) := by
  have hle := odd_le ho
  have hop := ho.1
  obtain ⟨h1, h2⟩ := rf_inv hf hw i (by omega)
  obtain ⟨g1, g2, g3, g4⟩ := rf_step h1 h2 hi
  obtain ⟨q, hq⟩ : ∃ q, o - i = q + 1 := ⟨o - i - 1, by omega⟩
  have hback : 0 < wk n a i f (rf n a o f i) := by
    have := path_wk (n := n) (m := o) (a := a) (f := rf n a o f) (fun k hk => (rf_inv hf hw k hk).1) (fun k hk => rf_a hf hw hk) i 0 (by omega)
    rw [Nat.zero_add] at this
    exact this
  have hval : ∀ v, v < n → a (rf n a o f i) v = true → (M (q % 2) v = nI q ↔ 0 < wk n a q v f) := by
    intro v hv ha
    rw [hM v hv (q % 2) (Nat.mod_lt q (by omega)), wk_sym hs q hv hf]
    have heq := enc_inj (x := wl n a f (q % 2) v (2 * n)) (y := some q) (fun r e => by have := wl_bound e; omega) (fun r e => by cases e; omega)
    refine Iff.trans heq ⟨fun h => (wl_some h).2.2, fun h => ?_⟩
    obtain ⟨r, r1, r2⟩ := wl_mono (n := n) (a := a) (f := f) (p := q % 2) (v := v) (R := 2 * n) (by omega) rfl h
    obtain ⟨-, k1, k2⟩ := wl_some r1
    by_cases g : r = q
    · rw [← g]
      have : r % 2 = q % 2 := k1
      rw [← g] at r1
      exact r1
    · rw [wk_sym hs r hf hv] at k2
      have k3 := wk_join i hback (wk_step hv ha k2)
      have := ho.2.2 f (i + (r + 1)) hf (by omega) (by omega)
      omega
  rw [hq]
  have hmod : (nI (q + 1) + (-1)) - (nI (q + 1) + (-1)) / 2 * 2 = nI (q % 2) := by
    rw [pk_m1]
    exact pk_rem (a := q) (d := 2) (by omega) (by omega) (by omega)
  have zx : zin (nI (rf n a o f i)) 12 := p_in (by omega) (by omega)
  have hq2 : q % 2 < 2 := Nat.mod_lt q (by omega)
  refine p_for (fun v => nI v) (rf n a o f (i + 1)) (fun v hv => ?_) ?_ (by omega) rfl
  · have zv : zin (nI v) 12 := p_in (by omega) (by omega)
    have hfalse := g4 v hv
    unfold rfn at hfalse
    rw [show o - i - 1 = q by omega] at hfalse
    dsimp only [sX6_ringAt_86]
    simp only [p_cl (i := v) (by omega), p_cl (i := rf n a o f i) (by omega)]
    rw [if_pos zx, if_pos zv, hJ _ v h1 (by omega), hmod]
    by_cases ha : a (rf n a o f i) v = true
    · rw [if_pos ha, if_neg (by decide), if_pos (p_in (n := 2) (by omega) (by omega)), if_pos zv]
      simp only [p_cl (i := q % 2) (by omega)]
      rw [pk_m1, if_neg (fun g => by
        have := (hval v (by omega) ha).mp g
        rw [ha, decide_eq_true this] at hfalse
        cases hfalse), nI_1]
    · rw [if_neg ha, if_pos rfl, nI_1]
  · have zv : zin (nI (rf n a o f (i + 1))) 12 := p_in (by omega) (by omega)
    dsimp only [sX6_ringAt_86]
    simp only [p_cl (i := rf n a o f (i + 1)) (by omega), p_cl (i := rf n a o f i) (by omega)]
    rw [if_pos zx, if_pos zv, hJ _ _ h1 g1, hmod, if_pos g2, if_neg (by decide), if_pos (p_in (n := 2) (by omega) (by omega)), if_pos zv]
    simp only [p_cl (i := q % 2) (by omega)]
    rw [pk_m1, if_pos ((hval _ g1 g2).mpr (by rw [show q = o - i - 1 by omega]; exact g3))]
theorem r_row {n o f ix : Nat} {a : Nat → Nat → Bool} {mJ M : Nat → Nat → Int32} (hn : n ≤ 12) (hJ : mJR n a mJ) (hs : Gsym n a) (ho : oddL n a o) (hf : f < n) (hw : 0 < wk n a o f f) (hM : wM n a f (2 * n) M) (hix : ix < o) : ∃ y z, zloop (sX6_ringAt_74 mJ (nI ix) M) 32 (nI o, nI f, 0) = some (y, nI (rf n a o f ix), z) := by
  have hle := odd_le ho
  refine ⟨nI (o - ix), nI ix, p_for (fun i => (nI (o - i), nI (rf n a o f i), nI i)) ix (fun i hi => ?_) ?_ (by omega) rfl⟩
  · obtain ⟨q, hq⟩ : ∃ q, o - i = q + 1 := ⟨o - i - 1, by omega⟩
    dsimp only [sX6_ringAt_74]
    rw [if_neg (nI_ge hi (by omega)), r_next hn hJ hs ho hf hw hM (by omega) _, ob, nI_1, hq, pk_m1, show o - (i + 1) = q by omega]
  · dsimp only [sX6_ringAt_74]
    rw [if_pos (nI_le (Nat.le_refl ix) (by omega))]
