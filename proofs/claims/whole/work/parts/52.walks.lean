/-! PURE: the reference's odd walks and ring -/
/-- the least number below R of the parity p of a walk from f to v -/
def wl (n : Nat) (a : Nat → Nat → Bool) (f p v : Nat) : Nat → Option Nat
  | 0 => none
  | R + 1 => match wl n a f p v R with
    | some r => some r
    | none => if R % 2 = p ∧ 0 < wk n a R f v then some R else none
theorem wl_some {n f p v : Nat} {a : Nat → Nat → Bool} : ∀ {R r : Nat}, wl n a f p v R = some r → r < R ∧ r % 2 = p ∧ 0 < wk n a r f v
  | 0, r, h => by cases h
  | R + 1, r, h => by
    rw [wl] at h
    cases hb : wl n a f p v R with
    | some q =>
      rw [hb] at h
      have h : some q = some r := h
      cases h
      have := wl_some hb
      exact ⟨by omega, this.2⟩
    | none =>
      rw [hb] at h
      have h : (if R % 2 = p ∧ 0 < wk n a R f v then some R else none) = some r := h
      by_cases g : R % 2 = p ∧ 0 < wk n a R f v
      · rw [if_pos g] at h
        cases h
        exact ⟨by omega, g⟩
      · rw [if_neg g] at h
        cases h
theorem wl_none {n f p v : Nat} {a : Nat → Nat → Bool} : ∀ {R : Nat}, wl n a f p v R = none → ∀ j, j < R → j % 2 = p → wk n a j f v = 0
  | 0, _, j, hj, _ => absurd hj (Nat.not_lt_zero j)
  | R + 1, h, j, hj, hp => by
    rw [wl] at h
    cases hb : wl n a f p v R with
    | some q =>
      rw [hb] at h
      cases h
    | none =>
      rw [hb] at h
      have h : (if R % 2 = p ∧ 0 < wk n a R f v then some R else none) = none := h
      by_cases e : j = R
      · subst e
        rcases Nat.eq_zero_or_pos (wk n a j f v) with g | g
        · exact g
        · rw [if_pos ⟨hp, g⟩] at h
          cases h
      · exact wl_none hb j (by omega) hp
theorem wl_mono {n f p v : Nat} {a : Nat → Nat → Bool} {R j : Nat} (hj : j < R) (hp : j % 2 = p) (h : 0 < wk n a j f v) : ∃ r, wl n a f p v R = some r ∧ r ≤ j := by
  have key : ∀ d, ∃ r, wl n a f p v (j + 1 + d) = some r ∧ r ≤ j := by
    intro d
    induction d with
    | zero =>
      rw [Nat.add_zero, wl]
      cases hb : wl n a f p v j with
      | some q =>
        have := (wl_some hb).1
        exact ⟨q, rfl, by omega⟩
      | none => exact ⟨j, if_pos ⟨hp, h⟩, Nat.le_refl j⟩
    | succ d ih =>
      obtain ⟨r, h1, h2⟩ := ih
      refine ⟨r, ?_, h2⟩
      rw [show j + 1 + (d + 1) = (j + 1 + d) + 1 by omega, wl, h1]
  have := key (R - (j + 1))
  rw [show j + 1 + (R - (j + 1)) = R by omega] at this
  exact this
theorem wl_bound {n f p v : Nat} {a : Nat → Nat → Bool} {R r : Nat} (h : wl n a f p v R = some r) : r < R := (wl_some h).1
/-- round R, rows below K and in row K the places below J looked at -/
def wI (n : Nat) (a : Nat → Nat → Bool) (f R K J : Nat) (M : Nat → Nat → Int32) : Prop := ∀ v, v < n →
  M (1 - R % 2) v = enc (wl n a f (1 - R % 2) v R) ∧
  (∀ r, wl n a f (R % 2) v R = some r → M (R % 2) v = nI r) ∧
  (wl n a f (R % 2) v R = none → (M (R % 2) v = nI R ∨ M (R % 2) v = -1) ∧ (M (R % 2) v = nI R → 0 < wk n a R f v) ∧ ((∃ u, u < n ∧ (u < K ∨ (u = K ∧ v < J)) ∧ a u v = true ∧ wl n a f (1 - R % 2) u R = some (R - 1)) → M (R % 2) v = nI R))
theorem zup2_s {M : Nat → Nat → Int32} {i j : Nat} {x : Int32} : zup2 M i j x i j = x := by
  unfold zup2
  rw [show Nat.beq i i = true from Nat.beq_refl i]
  exact pk_us
theorem zup2_n {M : Nat → Nat → Int32} {i j k l : Nat} {x : Int32} (h : ¬ (k = i ∧ l = j)) : zup2 M i j x k l = M k l := by
  unfold zup2
  cases hb : Nat.beq k i with
  | false => rfl
  | true =>
    have hki : k = i := Nat.eq_of_beq_eq_true hb
    show upd (M k) j x l = M k l
    exact pk_un (fun e => h ⟨hki, e⟩)
theorem r_wk1 {n f R K J : Nat} {a : Nat → Nat → Bool} {mJ : Nat → Nat → Int32} {M0 MK M : Nat → Nat → Int32} (hn : n ≤ 12) (hJ : mJR n a mJ) (hf : f < n) (hR : 0 < R) (hR2 : R < 100) (hk : K < n) (hj : J < n) (I : wI n a f R K J M) : ∃ M', sX6_walks_70 (nI n) mJ (nI R, M0) (nI K, MK) (nI J, M) = some (.inr (nI (J + 1), M')) ∧ wI n a f R K (J + 1) M' := by
  have zK : zin (nI K) 12 := p_in (by omega) (by omega)
  have zJ : zin (nI J) 12 := p_in (by omega) (by omega)
  have hm := hJ K J hk hj
  have hmod : R % 2 < 2 := Nat.mod_lt R (by omega)
  have e1 : (nI R + 1) - (nI R + 1) / 2 * 2 = nI (1 - R % 2) := by
    rw [nI_1]
    have := pk_rem (a := R + 1) (d := 2) (by omega) (by omega) (by omega)
    rw [show 1 - R % 2 = (R + 1) % 2 by omega]
    exact this
  have e2 : nI R - nI R / 2 * 2 = nI (R % 2) := pk_rem (a := R) (d := 2) (by omega) (by omega) (by omega)
  have e3 : nI R - 1 = nI (R - 1) := by
    obtain ⟨q, rfl⟩ : ∃ q, R = q + 1 := ⟨R - 1, by omega⟩
    exact nI_pred q
  have z1 : zin (nI (1 - R % 2)) 2 := p_in (by omega) (by omega)
  have z2 : zin (nI (R % 2)) 2 := p_in (by omega) (by omega)
  -- nothing changes
  have keep : (a K J = true → wl n a f (1 - R % 2) K R = some (R - 1) → wl n a f (R % 2) J R = none → M (R % 2) J = nI R) → wI n a f R K (J + 1) M := by
    intro h v hv
    obtain ⟨i1, i2, i3⟩ := I v hv
    refine ⟨i1, i2, fun e => ⟨(i3 e).1, (i3 e).2.1, ?_⟩⟩
    rintro ⟨u, hu, hd, ha, eu⟩
    by_cases g : u < K ∨ (u = K ∧ v < J)
    · exact (i3 e).2.2 ⟨u, hu, g, ha, eu⟩
    · have huK : u = K := by omega
      have hvJ : v = J := by omega
      subst huK
      subst hvJ
      exact h ha eu e
  dsimp only [sX6_walks_70]
  simp only [p_cl (i := K) (by omega), p_cl (i := J) (by omega)]
  rw [if_neg (nI_ge hj (by omega)), if_pos zK, if_pos zJ, hm]
  by_cases ha : a K J = true
  · rw [if_pos ha, if_neg (by decide), e1, if_pos z1, if_pos zK]
    simp only [p_cl (i := 1 - R % 2) (by omega)]
    rw [(I K hk).1, e3]
    have hKb := fun r h => wl_bound (n := n) (a := a) (f := f) (p := 1 - R % 2) (v := K) (R := R) (r := r) h
    have heq : enc (wl n a f (1 - R % 2) K R) = nI (R - 1) ↔ wl n a f (1 - R % 2) K R = some (R - 1) := enc_inj (x := wl n a f (1 - R % 2) K R) (y := some (R - 1)) (fun r h => by have := hKb r h; omega) (fun r h => by cases h; omega)
    by_cases hK : wl n a f (1 - R % 2) K R = some (R - 1)
    · rw [if_pos (heq.mpr hK), e2, if_pos z2, if_pos zJ]
      simp only [p_cl (i := R % 2) (by omega)]
      by_cases h1 : M (R % 2) J = -1
      · rw [if_pos h1, if_pos z2, if_pos zJ, ob, nI_1]
        refine ⟨_, rfl, fun v hv => ?_⟩
        obtain ⟨i1, i2, i3⟩ := I v hv
        rw [zup2_n (by omega)]
        by_cases hvJ : v = J
        · subst hvJ
          rw [zup2_s]
          refine ⟨i1, fun r e => ?_, fun e => ⟨Or.inl rfl, fun _ => ?_, fun _ => rfl⟩⟩
          · rw [i2 r e] at h1
            have := wl_bound e
            exact absurd h1 (p_m1 (by omega))
          · have hw := (wl_some hK).2.2
            have := wk_lastp hf hk hj hw ha
            rw [show R - 1 + 1 = R by omega] at this
            exact this
        · rw [zup2_n (fun g => hvJ g.2)]
          refine ⟨i1, i2, fun e => ⟨(i3 e).1, (i3 e).2.1, ?_⟩⟩
          rintro ⟨u, hu, hd, hau, eu⟩
          exact (i3 e).2.2 ⟨u, hu, by omega, hau, eu⟩
      · rw [if_neg h1, nI_1]
        refine ⟨_, rfl, keep (fun _ _ e => ?_)⟩
        rcases ((I J hj).2.2 e).1 with g | g
        · exact g
        · exact absurd g h1
    · rw [if_neg (fun g => hK (heq.mp g)), nI_1]
      exact ⟨_, rfl, keep (fun _ g _ => absurd g hK)⟩
  · rw [if_neg ha, if_pos rfl, nI_1]
    exact ⟨_, rfl, keep (fun g _ _ => absurd g ha)⟩
theorem r_wk2 {n f R K : Nat} {a : Nat → Nat → Bool} {mJ : Nat → Nat → Int32} {M0 M : Nat → Nat → Int32} (hn : n ≤ 12) (hJ : mJR n a mJ) (hf : f < n) (hR : 0 < R) (hR2 : R < 100) (hk : K < n) (I : wI n a f R K 0 M) : ∃ e, zloop (sX6_walks_70 (nI n) mJ (nI R, M0) (nI K, M)) 32 (0, M) = some e ∧ wI n a f R (K + 1) 0 e.2 := by
  refine p_cnt (step := sX6_walks_70 (nI n) mJ (nI R, M0) (nI K, M)) (fun J s => ∃ l, s = (nI J, l) ∧ wI n a f R K J l) (fun e => wI n a f R (K + 1) 0 e.2) n (fun J s hj hI => ?_) (fun s hI => ?_) (by omega) ⟨M, rfl, I⟩
  · obtain ⟨l, rfl, hI⟩ := hI
    obtain ⟨l', h1, h2⟩ := r_wk1 (M0 := M0) (MK := M) hn hJ hf hR hR2 hk hj hI
    exact ⟨_, h1, l', rfl, h2⟩
  · obtain ⟨l, rfl, hI⟩ := hI
    refine ⟨(nI n, l), ?_, fun v hv => ?_⟩
    · dsimp only [sX6_walks_70]
      rw [if_pos (nI_le (Nat.le_refl n) (by omega))]
    · obtain ⟨i1, i2, i3⟩ := hI v hv
      refine ⟨i1, i2, fun e => ⟨(i3 e).1, (i3 e).2.1, ?_⟩⟩
      rintro ⟨u, hu, hd, ha, eu⟩
      exact (i3 e).2.2 ⟨u, hu, by omega, ha, eu⟩
def wM (n : Nat) (a : Nat → Nat → Bool) (f R : Nat) (M : Nat → Nat → Int32) : Prop := ∀ v, v < n → ∀ p, p < 2 → M p v = enc (wl n a f p v R)
theorem r_wk3 {n f R : Nat} {a : Nat → Nat → Bool} {mJ : Nat → Nat → Int32} {M : Nat → Nat → Int32} (hn : n ≤ 12) (hJ : mJR n a mJ) (hf : f < n) (hR : 0 < R) (hR2 : R < 100) (I : wM n a f R M) : ∃ e, zloop (sX6_walks_58 (nI n) mJ (nI R, M)) 32 (0, M) = some e ∧ wM n a f (R + 1) e.2 := by
  have hmod : R % 2 < 2 := Nat.mod_lt R (by omega)
  refine p_cnt (step := sX6_walks_58 (nI n) mJ (nI R, M)) (fun K s => ∃ l, s = (nI K, l) ∧ wI n a f R K 0 l) (fun e => wM n a f (R + 1) e.2) n (fun K s hk hI => ?_) (fun s hI => ?_) (by omega) ⟨M, rfl, fun v hv => ⟨I v hv _ (by omega), fun r e => by rw [I v hv _ hmod, e]; rfl, fun e => ⟨Or.inr (by rw [I v hv _ hmod, e]; rfl), fun g => ?_, ?_⟩⟩⟩
  · obtain ⟨l, rfl, hI⟩ := hI
    obtain ⟨e, h1, h2⟩ := r_wk2 (M0 := M) hn hJ hf hR hR2 hk hI
    refine ⟨(nI (K + 1), e.2), ?_, e.2, rfl, h2⟩
    dsimp only [sX6_walks_58]
    rw [if_neg (nI_ge hk (by omega)), h1, ob, nI_1]
  · obtain ⟨l, rfl, hI⟩ := hI
    refine ⟨(nI n, l), ?_, fun v hv p hp => ?_⟩
    · dsimp only [sX6_walks_58]
      rw [if_pos (nI_le (Nat.le_refl n) (by omega))]
    · obtain ⟨i1, i2, i3⟩ := hI v hv
      show l p v = _
      rw [wl]
      by_cases hpR : R % 2 = p
      · subst hpR
        cases hb : wl n a f (R % 2) v R with
        | some r => exact i2 r hb
        | none =>
          obtain ⟨j1, j2, j3⟩ := i3 hb
          show l (R % 2) v = enc (if R % 2 = R % 2 ∧ 0 < wk n a R f v then some R else none)
          by_cases hw : 0 < wk n a R f v
          · rw [if_pos ⟨rfl, hw⟩]
            refine j3 ?_
            obtain ⟨q, rfl⟩ : ∃ q, R = q + 1 := ⟨R - 1, by omega⟩
            obtain ⟨u, hu, w1, w2⟩ := wk_last_inv hf hv hw
            refine ⟨u, hu, Or.inl hu, w2, ?_⟩
            obtain ⟨r, r1, r2⟩ := wl_mono (n := n) (a := a) (f := f) (p := 1 - (q + 1) % 2) (v := u) (R := q + 1) (j := q) (by omega) (by omega) w1
            obtain ⟨-, r3, r4⟩ := wl_some r1
            by_cases g : r = q
            · subst g
              exact r1
            · have := wk_lastp hf hu hv r4 w2
              rw [wl_none hb (r + 1) (by omega) (by omega)] at this
              omega
          · rw [if_neg (fun g => hw g.2)]
            rcases j1 with g | g
            · exact absurd (j2 g) hw
            · exact g
      · have hpp : p = 1 - R % 2 := by omega
        rw [hpp] at hpR ⊢
        rw [i1]
        cases hb : wl n a f (1 - R % 2) v R with
        | some r => rfl
        | none =>
          show enc none = enc (if R % 2 = 1 - R % 2 ∧ _ then some R else none)
          rw [if_neg (fun g => hpR g.1)]
  · rw [I v hv _ hmod, e] at g
    exact absurd g.symm (p_m1 (by omega))
  · rintro ⟨u, hu, hd, -, -⟩
    omega
theorem r_wk0 {f : Nat} (hf : f < 12) : ∃ e, zloop (sX6_walks_10 (nI f)) 32 (0, (fun _ _ => 0)) = some e ∧ ∀ v, v < 12 → e.2 0 v = (if v = f then 0 else -1) ∧ e.2 1 v = -1 := by
  have z0 : zin 0 2 := p_in (i := 0) (by omega) (by omega)
  have z1 : zin 1 2 := p_in (i := 1) (by omega) (by omega)
  have c0 : (0 : Int32).toNatClampNeg = 0 := rfl
  have c1 : (1 : Int32).toNatClampNeg = 1 := rfl
  refine p_cnt (step := sX6_walks_10 (nI f)) (fun i s => ∃ M, s = (nI i, M) ∧ ∀ v, v < i → M 0 v = (if v = f then 0 else -1) ∧ M 1 v = -1) (fun e => ∀ v, v < 12 → e.2 0 v = (if v = f then 0 else -1) ∧ e.2 1 v = -1) 12 (fun i s hi hI => ?_) (fun s hI => ?_) (by omega) ⟨_, rfl, fun v hv => absurd hv (Nat.not_lt_zero v)⟩
  · obtain ⟨M, rfl, hI⟩ := hI
    have zi : zin (nI i) 12 := p_in hi (by omega)
    have fin : ∀ x : Int32, x = (if i = f then 0 else -1) → ∀ v, v < i + 1 → zup2 (zup2 M 0 i x) 1 i (-1) 0 v = (if v = f then 0 else -1) ∧ zup2 (zup2 M 0 i x) 1 i (-1) 1 v = -1 := by
      intro x hx v hv
      rw [zup2_n (fun g => by omega)]
      by_cases hvi : v = i
      · subst hvi
        rw [zup2_s, zup2_s]
        exact ⟨hx, rfl⟩
      · rw [zup2_n (fun g => hvi g.2), zup2_n (fun g => hvi g.2), zup2_n (fun g => hvi g.2)]
        exact hI v (by omega)
    dsimp only [sX6_walks_10]
    simp only [p_cl (i := i) (by omega), c0, c1]
    rw [if_neg (q12n hi), if_pos z0]
    by_cases h : i = f
    · rw [if_pos (by rw [h]), if_pos zi, ob, if_pos z1, if_pos zi, ob, nI_1]
      exact ⟨_, rfl, _, rfl, fin 0 (by rw [if_pos h])⟩
    · rw [if_neg (fun g => h ((p_eq (by omega) (by omega)).mp g)), if_pos zi, ob, if_pos z1, if_pos zi, ob, nI_1]
      exact ⟨_, rfl, _, rfl, fin (-1) (by rw [if_neg h])⟩
  · obtain ⟨M, rfl, hI⟩ := hI
    refine ⟨(nI 12, M), ?_, hI⟩
    dsimp only [sX6_walks_10]
    rw [if_pos (q12 (i := 12) (by omega) (by omega))]
theorem r_walks {n f : Nat} {a : Nat → Nat → Bool} {mJ : Nat → Nat → Int32} (hn : n ≤ 12) (hJ : mJR n a mJ) (hf : f < n) : ∃ M, fX6_walks (nI n) mJ (nI f) = some M ∧ wM n a f (2 * n) M := by
  obtain ⟨e0, h0, g0⟩ := r_wk0 (f := f) (by omega)
  have h2n : (2 : Int32) * nI n = nI (2 * n) := pk_mul 2 n
  obtain ⟨e, h1, h2⟩ := p_cnt (step := sX6_walks_45 (nI n) mJ) (fun i s => ∃ M, s = (nI (i + 1), M) ∧ wM n a f (i + 1) M) (fun e => wM n a f (2 * n) e.2) (2 * n - 1) (fun i s hi hI => by
    obtain ⟨M, rfl, hI⟩ := hI
    obtain ⟨e, k1, k2⟩ := r_wk3 hn hJ hf (by omega) (by omega) hI
    refine ⟨(nI (i + 1 + 1), e.2), ?_, e.2, rfl, k2⟩
    dsimp only [sX6_walks_45]
    rw [h2n, if_neg (nI_ge (a := i + 1) (b := 2 * n) (by omega) (by omega)), k1, ob, nI_1]) (fun s hI => by
    obtain ⟨M, rfl, hI⟩ := hI
    rw [show 2 * n - 1 + 1 = 2 * n by omega] at hI ⊢
    refine ⟨(nI (2 * n), M), ?_, hI⟩
    dsimp only [sX6_walks_45]
    rw [h2n, if_pos (nI_le (Nat.le_refl _) (by omega))]) (by omega : 2 * n - 1 < 32) (s := (1, e0.2)) ⟨e0.2, rfl, fun v hv p hp => by
      obtain ⟨k1, k2⟩ := g0 v (by omega)
      rw [wl, wl]
      show e0.2 p v = enc (if 0 % 2 = p ∧ 0 < wk n a 0 f v then some 0 else none)
      rw [wk_zero]
      by_cases hp0 : p = 0
      · subst hp0
        rw [k1]
        by_cases hvf : v = f
        · subst hvf
          rw [if_pos rfl, if_pos ⟨rfl, by rw [if_pos rfl]; omega⟩]
          rfl
        · rw [if_neg hvf, if_neg (fun g => by have := g.2; rw [if_neg (fun q => hvf q.symm)] at this; omega)]
          rfl
      · have : p = 1 := by omega
        subst this
        rw [k2, if_neg (fun g => by have := g.1; omega)]
        rfl⟩
  unfold fX6_walks
  rw [h0, ob, h1, ob]
  exact ⟨_, rfl, h2⟩
theorem r_oddWalk {n f : Nat} {a : Nat → Nat → Bool} {mJ : Nat → Nat → Int32} (hn : n ≤ 12) (hJ : mJR n a mJ) (hf : f < n) : fX6_oddWalk (nI n) mJ (nI f) = some (enc (wl n a f 1 f (2 * n))) := by
  obtain ⟨M, h1, h2⟩ := r_walks hn hJ hf
  unfold fX6_oddWalk
  rw [h1, ob, if_pos (show zin 1 2 from p_in (i := 1) (by omega) (by omega)), if_pos (p_in (by omega) (by omega))]
  simp only [p_cl (i := f) (by omega)]
  exact congrArg some (h2 f hf 1 (by omega))
/-- the least over all places, 0 without one -/
def mo (n : Nat) (a : Nat → Nat → Bool) : Nat → Nat
  | 0 => 0
  | k + 1 => match wl n a k 1 k (2 * n) with
    | none => mo n a k
    | some r => if mo n a k = 0 ∨ r < mo n a k then r else mo n a k
theorem mo_inv {n : Nat} {a : Nat → Nat → Bool} : ∀ k, (mo n a k = 0 ∨ ∃ v, v < k ∧ wl n a v 1 v (2 * n) = some (mo n a k)) ∧ ∀ v r, v < k → wl n a v 1 v (2 * n) = some r → mo n a k ≠ 0 ∧ mo n a k ≤ r
  | 0 => ⟨Or.inl rfl, fun v r hv => absurd hv (Nat.not_lt_zero v)⟩
  | k + 1 => by
    obtain ⟨h1, h2⟩ := mo_inv (n := n) (a := a) k
    rw [mo]
    cases hb : wl n a k 1 k (2 * n) with
    | none =>
      show (mo n a k = 0 ∨ _) ∧ _
      refine ⟨?_, fun v r hv e => ?_⟩
      · rcases h1 with g | ⟨v, g1, g2⟩
        · exact Or.inl g
        · exact Or.inr ⟨v, by omega, g2⟩
      · by_cases hvk : v = k
        · subst hvk
          rw [hb] at e
          cases e
        · exact h2 v r (by omega) e
    | some r0 =>
      have hr0 : r0 % 2 = 1 := (wl_some hb).2.1
      show ((if mo n a k = 0 ∨ r0 < mo n a k then r0 else mo n a k) = 0 ∨ ∃ v, v < k + 1 ∧ wl n a v 1 v (2 * n) = some (if mo n a k = 0 ∨ r0 < mo n a k then r0 else mo n a k)) ∧ ∀ v r, v < k + 1 → wl n a v 1 v (2 * n) = some r → (if mo n a k = 0 ∨ r0 < mo n a k then r0 else mo n a k) ≠ 0 ∧ (if mo n a k = 0 ∨ r0 < mo n a k then r0 else mo n a k) ≤ r
      by_cases g : mo n a k = 0 ∨ r0 < mo n a k
      · rw [if_pos g]
        refine ⟨Or.inr ⟨k, by omega, hb⟩, fun v r hv e => ⟨by omega, ?_⟩⟩
        by_cases hvk : v = k
        · subst hvk
          rw [hb] at e
          cases e
          exact Nat.le_refl _
        · have := h2 v r (by omega) e
          omega
      · rw [if_neg g]
        refine ⟨?_, fun v r hv e => ?_⟩
        · rcases h1 with g1 | ⟨v, g1, g2⟩
          · exact Or.inl g1
          · exact Or.inr ⟨v, by omega, g2⟩
        · by_cases hvk : v = k
          · subst hvk
            rw [hb] at e
            cases e
            omega
          · exact h2 v r (by omega) e
theorem mo_lt {n : Nat} {a : Nat → Nat → Bool} (k : Nat) : mo n a k ≤ 2 * n := by
  rcases (mo_inv (n := n) (a := a) k).1 with h | ⟨v, -, h⟩
  · omega
  · have := wl_bound h
    omega
theorem mo_odd {n o : Nat} {a : Nat → Nat → Bool} (ho : oddL n a o) : mo n a n = o := by
  obtain ⟨h1, h2⟩ := mo_inv (n := n) (a := a) n
  obtain ⟨v, hv, hw⟩ := ho.2.1
  have hle := odd_le ho
  have hop := ho.1
  obtain ⟨r, r1, r2⟩ := wl_mono (n := n) (a := a) (f := v) (p := 1) (v := v) (R := 2 * n) (by omega) ho.1 hw
  obtain ⟨k1, k2⟩ := h2 v r hv r1
  rcases h1 with h1 | ⟨u, hu, h1⟩
  · omega
  · obtain ⟨-, g1, g2⟩ := wl_some h1
    rcases Nat.lt_or_ge (mo n a n) o with g | g
    · have := ho.2.2 u _ hu g g1
      omega
    · omega
theorem mo_none {n : Nat} {a : Nat → Nat → Bool} (h : ∀ v k, v < n → k % 2 = 1 → wk n a k v v = 0) : mo n a n = 0 := by
  rcases (mo_inv (n := n) (a := a) n).1 with h1 | ⟨v, hv, h1⟩
  · exact h1
  · obtain ⟨-, g1, g2⟩ := wl_some h1
    have := h v _ hv g1
    omega
theorem r_odd {n : Nat} {a : Nat → Nat → Bool} {mJ : Nat → Nat → Int32} (hn : n ≤ 12) (hJ : mJR n a mJ) : fX6_odd (nI n) mJ = some (nI (mo n a n)) := by
  have h : zloop (sX6_odd_4 (nI n) mJ) 32 (0, 0) = some (nI (mo n a n), nI n) := by
    refine p_for (fun k => (nI (mo n a k), nI k)) n (fun k hk => ?_) ?_ (by omega) rfl
    · have hb := mo_lt (n := n) (a := a) k
      dsimp only [sX6_odd_4]
      rw [if_neg (nI_ge hk (by omega)), r_oddWalk hn hJ hk, ob, mo]
      cases hw : wl n a k 1 k (2 * n) with
      | none => rw [if_pos enc_n, nI_1]
      | some r =>
        have hr := wl_bound hw
        rw [if_neg (enc_m1 (k := r) (by omega)), nI_1]
        show _ = some (Sum.inr (nI (if mo n a k = 0 ∨ r < mo n a k then r else mo n a k), nI (k + 1)))
        by_cases h0 : mo n a k = 0
        · rw [if_pos (by rw [h0]; rfl), if_pos (Or.inl h0)]
          rfl
        · rw [if_neg (show ¬ nI (mo n a k) = 0 from fun g => h0 ((p_eq (b := 0) (by omega) (by omega)).mp g))]
          by_cases hlt : r < mo n a k
          · rw [if_neg (show ¬ nI (mo n a k) ≤ enc (some r) from nI_ge hlt (by omega)), if_pos (Or.inr hlt)]
            rfl
          · rw [if_pos (show nI (mo n a k) ≤ enc (some r) from nI_le (by omega) (by omega)), if_neg (by omega)]
    · dsimp only [sX6_odd_4]
      rw [if_pos (nI_le (Nat.le_refl n) (by omega))]
  unfold fX6_odd
  rw [h, ob]
