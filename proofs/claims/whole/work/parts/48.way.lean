/-! PURE: the numbered way -/
theorem psum_mono {g : Nat → Nat} {i : Nat} : ∀ {j : Nat}, i ≤ j → psum g i ≤ psum g j
  | 0, h => by
    have : i = 0 := by omega
    subst this
    exact Nat.le_refl _
  | j + 1, h => by
    rcases Nat.lt_or_ge j i with g1 | g1
    · have : i = j + 1 := by omega
      subst this
      exact Nat.le_refl _
    · have := psum_mono (g := g) g1
      rw [psum]
      omega
theorem psum_find {g : Nat → Nat} {left : Nat} : ∀ n, left < psum g n → ∃ k, psum g k ≤ left ∧ left < psum g (k + 1)
  | 0, h => absurd h (Nat.not_lt_zero left)
  | n + 1, h => by
    rcases Nat.lt_or_ge left (psum g n) with h1 | h1
    · exact psum_find n h1
    · exact ⟨n, h1, h⟩
noncomputable def wyK (g : Nat → Nat) (left : Nat) : Nat := Classical.epsilon (fun k => psum g k ≤ left ∧ left < psum g (k + 1))
theorem wyK_spec {g : Nat → Nat} {left n : Nat} (h : left < psum g n) : psum g (wyK g left) ≤ left ∧ left < psum g (wyK g left + 1) ∧ wyK g left < n := by
  have h1 := Classical.epsilon_spec (p := fun k => psum g k ≤ left ∧ left < psum g (k + 1)) (psum_find n h)
  refine ⟨h1.1, h1.2, ?_⟩
  rcases Nat.lt_or_ge (wyK g left) n with g1 | g1
  · exact g1
  · have := psum_mono (g := g) g1
    have h2 : psum g (wyK g left) ≤ left := h1.1
    omega
def wyG (n : Nat) (a : Nat → Nat → Bool) (to x v : Nat) : Nat := if a x v = true ∧ (bD n a to v).map (fun k => k + 1) = bD n a to x then bW n a to v else 0
noncomputable def wy (n : Nat) (a : Nat → Nat → Bool) (s to num : Nat) : Nat → Nat × Nat
  | 0 => (s, num)
  | i + 1 => (wyK (wyG n a to (wy n a s to num i).1) (wy n a s to num i).2, (wy n a s to num i).2 - psum (wyG n a to (wy n a s to num i).1) (wyK (wyG n a to (wy n a s to num i).1) (wy n a s to num i).2))
theorem bD_sym {n s to t : Nat} {a : Nat → Nat → Bool} (hsym : Gsym n a) (hs : s < n) (hto : to < n) (h : bD n a s to = some t) : bD n a to s = some t := by
  have hL := bF_lay (a := a) hs
  have hL' := bF_lay (a := a) hto
  have h1 := hL.walk hs t hto h
  rw [wk_sym hsym t hs hto] at h1
  obtain ⟨d, h2, h3⟩ := hL'.least hto t hs h1
  have h4 := hL'.walk hto d hs h3
  rw [wk_sym hsym d hto hs] at h4
  obtain ⟨d', h5, h6⟩ := hL.least hs d hto h4
  have : some d' = some t := h6.symm.trans h
  cases this
  have : d = t := by omega
  subst this
  exact h3
theorem bW_sym {n s to t : Nat} {a : Nat → Nat → Bool} (hsym : Gsym n a) (hs : s < n) (hto : to < n) (h : bD n a s to = some t) : bW n a to s = bW n a s to := by
  rw [bW_wk hs hto h, bW_wk hto hs (bD_sym hsym hs hto h), wk_sym hsym t hto hs]
/-- where a way stands -/
def wyI (n : Nat) (a : Nat → Nat → Bool) (s to t i : Nat) (p : Nat × Nat) : Prop := p.1 < n ∧ bD n a s p.1 = some i ∧ bD n a to p.1 = some (t - i) ∧ p.2 < bW n a to p.1
theorem wyG_if {n to x d : Nat} {a : Nat → Nat → Bool} (hx : bD n a to x = some (d + 1)) (v : Nat) : wyG n a to x v = if a x v = true ∧ bD n a to v = some d then bW n a to v else 0 := by
  have h : (bD n a to v).map (fun k => k + 1) = bD n a to x ↔ bD n a to v = some d := by
    rw [hx]
    cases bD n a to v with
    | none => simp
    | some k => simp
  unfold wyG
  by_cases h1 : bD n a to v = some d
  · by_cases h2 : a x v = true
    · rw [if_pos ⟨h2, h.mpr h1⟩, if_pos ⟨h2, h1⟩]
    · rw [if_neg (fun g => h2 g.1), if_neg (fun g => h2 g.1)]
  · rw [if_neg (fun g => h1 (h.mp g.2)), if_neg (fun g => h1 g.2)]
theorem wyG_sum {n to x d : Nat} {a : Nat → Nat → Bool} (hsym : Gsym n a) (hto : to < n) (hxn : x < n) (hx : bD n a to x = some (d + 1)) : psum (wyG n a to x) n = bW n a to x := by
  have h := (bF_cnt (a := a) hto).2.1 x d hxn hx
  show _ = (bF n a to).2.2.1 x
  rw [h]
  refine psum_cong (fun v hv => ?_)
  rw [wyG_if hx, hsym x v hxn hv]
  rfl
/-- the next place up -/
theorem wy_up {n s to t i x k : Nat} {a : Nat → Nat → Bool} (hsym : Gsym n a) (hs : s < n) (hto : to < n) (ht : bD n a s to = some t) (hi : i < t) (hx : x < n) (hxi : bD n a s x = some i) (hk : k < n) (ha : a x k = true) (hkd : bD n a to k = some (t - i - 1)) : bD n a s k = some (i + 1) := by
  have hL := bFO_LP (n := n) (a := a) (so := some s) (fun s' e => by cases e; exact hs)
  obtain ⟨j, h1, h2⟩ := hL.2.2.1 x k i hx hk ha hxi
  have h3 := (bF_lay (a := a) hto).walk hto _ hk hkd
  rw [wk_sym hsym _ hto hk] at h3
  obtain ⟨j', h4, h5⟩ := bLP_walk hL _ hk h2 h3
  have : some j' = some t := h5.symm.trans ht
  cases this
  have : j = i + 1 := by omega
  subst this
  exact h2
theorem wy_step {n s to t i : Nat} {a : Nat → Nat → Bool} {p : Nat × Nat} (hsym : Gsym n a) (hs : s < n) (hto : to < n) (ht : bD n a s to = some t) (hi : i < t) (I : wyI n a s to t i p) :
    psum (wyG n a to p.1) (wyK (wyG n a to p.1) p.2) ≤ p.2 ∧ p.2 < psum (wyG n a to p.1) (wyK (wyG n a to p.1) p.2 + 1) ∧ wyK (wyG n a to p.1) p.2 < n ∧ a p.1 (wyK (wyG n a to p.1) p.2) = true ∧ bD n a to (wyK (wyG n a to p.1) p.2) = some (t - i - 1) ∧ bD n a s (wyK (wyG n a to p.1) p.2) = some (i + 1) := by
  obtain ⟨h1, h2, h3, h4⟩ := I
  obtain ⟨d, hd⟩ : ∃ d, t - i = d + 1 := ⟨t - i - 1, by omega⟩
  rw [hd] at h3
  obtain ⟨g1, g2, g3⟩ := wyK_spec (n := n) (by rw [wyG_sum hsym hto h1 h3]; exact h4)
  have g4 : 0 < wyG n a to p.1 (wyK (wyG n a to p.1) p.2) := by
    rw [psum] at g2
    omega
  rw [wyG_if h3] at g4
  have g5 : a p.1 (wyK (wyG n a to p.1) p.2) = true ∧ bD n a to (wyK (wyG n a to p.1) p.2) = some d := by
    by_cases g : a p.1 (wyK (wyG n a to p.1) p.2) = true ∧ bD n a to (wyK (wyG n a to p.1) p.2) = some d
    · exact g
    · rw [if_neg g] at g4
      omega
  have g6 : bD n a to (wyK (wyG n a to p.1) p.2) = some (t - i - 1) := by rw [show t - i - 1 = d by omega]; exact g5.2
  exact ⟨g1, g2, g3, g5.1, g6, wy_up hsym hs hto ht hi h1 h2 g3 g5.1 g6⟩
theorem wy_inv {n s to t num : Nat} {a : Nat → Nat → Bool} (hsym : Gsym n a) (hs : s < n) (hto : to < n) (ht : bD n a s to = some t) (hnum : num < bW n a s to) : ∀ i, i ≤ t → wyI n a s to t i (wy n a s to num i)
  | 0, _ => ⟨hs, (bF_lay hs).1, bD_sym hsym hs hto ht, by show num < bW n a to s; rw [bW_sym hsym hs hto ht]; exact hnum⟩
  | i + 1, hi => by
    have I := wy_inv hsym hs hto ht hnum i (by omega)
    obtain ⟨g1, g2, g3, g4, g5, g6⟩ := wy_step hsym hs hto ht (by omega) I
    have h3 := I.2.2.1
    obtain ⟨d, hd⟩ : ∃ d, t - i = d + 1 := ⟨t - i - 1, by omega⟩
    rw [hd] at h3
    rw [wy]
    refine ⟨g3, g6, by rw [show t - (i + 1) = t - i - 1 by omega]; exact g5, ?_⟩
    show (wy n a s to num i).2 - psum (wyG n a to (wy n a s to num i).1) (wyK (wyG n a to (wy n a s to num i).1) (wy n a s to num i).2) < bW n a to (wyK (wyG n a to (wy n a s to num i).1) (wy n a s to num i).2)
    rw [psum, wyG_if h3, if_pos ⟨g4, by rw [g5]; congr 1; omega⟩] at g2
    omega
theorem c_leads {n to x k d : Nat} {nN wL : Nat → Int32} (hn : n ≤ 12) (hto : to < n) (hx : x < n) (hk : k < n) (hxd : bD n (zA nN) to x = some (d + 1)) (hw : ∀ v, v < 12 → wL v = enc (bD n (zA nN) to v)) : fX5_leadsOn nN wL (nI x) (nI k) = some (if bt (nN x) k = true ∧ bD n (zA nN) to k = some d then 1 else 0) := by
  have zx : zin (nI x) 12 := p_in (by omega) (by omega)
  have zk : zin (nI k) 12 := p_in (by omega) (by omega)
  have hdn := bD_le hto hx hxd
  unfold fX5_leadsOn
  cases ha : bt (nN x) k with
  | false =>
    rw [p_joins0 (by omega) (by omega) ha, ob, if_pos rfl, if_neg (fun g => by cases g.1)]
  | true =>
    rw [p_joins1 (by omega) (by omega) ha, ob, if_neg (by decide), if_pos zk, if_pos zx]
    simp only [p_cl (i := x) (by omega), p_cl (i := k) (by omega)]
    rw [hw k (by omega), hw x (by omega), hxd, show enc (some (d + 1)) - 1 = enc (some d) from nI_pred d]
    have he := enc_inj (x := bD n (zA nN) to k) (y := some d) (fun j e => by have := bD_le hto hk e; omega) (fun j e => by cases e; omega)
    by_cases h : bD n (zA nN) to k = some d
    · rw [if_pos (he.mpr h), if_pos ⟨trivial, h⟩]
    · rw [if_neg (fun g => h (he.mp g)), if_neg (fun g => h g.2)]
theorem c_along {n s to t i : Nat} {nN : Nat → Int32} {p : Nat × Nat} (hn : n ≤ 12) (hsym : Gsym n (zA nN)) (hs : s < n) (hto : to < n) (ht : bD n (zA nN) s to = some t) (hi : i < t) (I : wyI n (zA nN) s to t i p) {wM : Int32} {wL wC wQ : Nat → Int32} (hW : cR (bF n (zA nN) to) wM wL wC wQ) (y z : Int32) : zloop (sX5_goAlong_25 (nI n) nN wL wC (nI p.1, y, z)) 32 (nI p.2, 0) = some (nI (p.2 - psum (wyG n (zA nN) to p.1) (wyK (wyG n (zA nN) to p.1) p.2)), nI (wyK (wyG n (zA nN) to p.1) p.2)) := by
  obtain ⟨g1, g2, g3, g4, g5, g6⟩ := wy_step hsym hs hto ht hi I
  obtain ⟨h1, h2, h3, h4⟩ := I
  obtain ⟨d, hd⟩ : ∃ d, t - i = d + 1 := ⟨t - i - 1, by omega⟩
  rw [hd] at h3
  have hg := fun v => wyG_if (n := n) (to := to) (x := p.1) (a := zA nN) h3 v
  have hlead := fun k (hk : k < n) => c_leads (k := k) hn hto h1 hk h3 hW.2.1
  have hwC : ∀ v, v < n → wC v = nI (bW n (zA nN) to v) := fun v hv => hW.2.2.1 v (by omega)
  have hb := fun v (hv : v < n) => bW_le (a := zA nN) hn hto hv
  have hb1 := hb p.1 h1
  revert g1 g2 g3 g4 g5 g6
  generalize wyK (wyG n (zA nN) to p.1) p.2 = K
  generalize hgg : wyG n (zA nN) to p.1 = g
  rw [hgg] at hg
  intro g1 g2 g3 g4 g5 g6
  have hnp : nI n - 1 = nI (n - 1) := by
    obtain ⟨n', rfl⟩ : ∃ n', n = n' + 1 := ⟨n - 1, by omega⟩
    exact nI_pred n'
  refine p_for (fun k => (nI (p.2 - psum g k), nI k)) K (fun k hk => ?_) ?_ (by omega) (by rw [psum]; rfl)
  · have zk : zin (nI k) 12 := p_in (by omega) (by omega)
    have hm := psum_mono (g := g) (show k + 1 ≤ K by omega)
    rw [psum] at hm
    dsimp only [sX5_goAlong_25]
    rw [hnp, if_neg (nI_ge (a := k) (b := n - 1) (by omega) (by omega)), hlead k (by omega)]
    simp only [p_cl (i := k) (by omega)]
    rw [psum]
    by_cases hc : bt (nN p.1) k = true ∧ bD n (zA nN) to k = some d
    · have hgk : g k = bW n (zA nN) to k := by rw [hg k, if_pos hc]
      rw [if_pos hc, ob, if_neg (by decide), if_pos zk, hwC k (by omega), ← hgk, if_neg (nI_nlt (by omega) (by omega)), ob, if_neg (by decide), if_pos zk, pk_sub (by omega), nI_1, show p.2 - psum g k - g k = p.2 - (psum g k + g k) by omega]
    · have hgk : g k = 0 := by rw [hg k, if_neg hc]
      rw [if_neg hc, ob, if_pos rfl, ob, if_pos rfl, nI_1, hgk, Nat.add_zero (psum g k)]
  · have zk : zin (nI K) 12 := p_in (by omega) (by omega)
    have hc : bt (nN p.1) K = true ∧ bD n (zA nN) to K = some d := ⟨g4, by rw [g5]; congr 1; omega⟩
    have hgk : g K = bW n (zA nN) to K := by rw [hg K, if_pos hc]
    have hbK := hb K g3
    rw [psum] at g2
    dsimp only [sX5_goAlong_25]
    by_cases hl : n - 1 ≤ K
    · rw [hnp, if_pos (nI_le hl (by omega))]
    · rw [hnp, if_neg (nI_ge (a := K) (b := n - 1) (by omega) (by omega)), hlead K g3]
      simp only [p_cl (i := K) (by omega)]
      rw [if_pos hc, ob, if_neg (by decide), if_pos zk, hwC K g3, ← hgk, if_pos (nI_lt (by omega) (by omega))]
theorem c_goAlong {n s to t num ix : Nat} {nN : Nat → Int32} (hn : n ≤ 12) (hsym : Gsym n (zA nN)) (hs : s < n) (hto : to < n) (ht : bD n (zA nN) s to = some t) (hnum : num < bW n (zA nN) s to) (hix : ix ≤ t) {fQ : Nat → Int32} (hQ : fQ 0 = nI s) {wM : Int32} {wL wC wQ : Nat → Int32} (hW : cR (bF n (zA nN) to) wM wL wC wQ) : fX5_goAlong (nI n) nN fQ wL wC (nI num) (nI ix) = some (nI (wy n (zA nN) s to num ix).1) := by
  have htn := bD_le hs hto ht
  have h : zloop (sX5_goAlong_16 (nI n) nN wL wC (nI ix)) 32 (nI s, nI num, 0) = some (nI (wy n (zA nN) s to num ix).1, nI (wy n (zA nN) s to num ix).2, nI ix) := by
    refine p_for (fun i => (nI (wy n (zA nN) s to num i).1, nI (wy n (zA nN) s to num i).2, nI i)) ix (fun i hi => ?_) ?_ (by omega) rfl
    · have I := wy_inv hsym hs hto ht hnum i (by omega)
      dsimp only [sX5_goAlong_16]
      rw [if_neg (nI_ge hi (by omega)), c_along hn hsym hs hto ht (by omega) I hW _ _, ob, nI_1]
      rfl
    · dsimp only [sX5_goAlong_16]
      rw [if_pos (nI_le (Nat.le_refl ix) (by omega))]
  unfold fX5_goAlong
  rw [if_pos (show zin 0 12 from p_in (i := 0) (by omega) (by omega)), show (0 : Int32).toNatClampNeg = 0 from rfl, hQ, h, ob]
theorem r_along {n s to t i : Nat} {a : Nat → Nat → Bool} {mJ : Nat → Nat → Int32} {p : Nat × Nat} {v4 v7 : Nat → Int32} (hn : n ≤ 12) (hJ : mJR n a mJ) (hsym : Gsym n a) (hs : s < n) (hto : to < n) (ht : bD n a s to = some t) (hi : i < t) (I : wyI n a s to t i p) (h4v : ∀ v, v < n → v4 v = enc (bD n a s v)) (h7v : ∀ v, v < n → v7 v = nI (onw n a (bF n a s).2.1 to v)) (y : Int32) : ∃ z, zloop (sX6_wayAt_121 (nI n) mJ v4 v7 (nI p.1, y, nI (i + 1))) 32 (nI p.2, (-1), 0) = some (nI (p.2 - psum (wyG n a to p.1) (wyK (wyG n a to p.1) p.2)), nI (wyK (wyG n a to p.1) p.2), z) := by
  have htn := bD_le hs hto ht
  obtain ⟨g1, g2, g3, g4, g5, g6⟩ := wy_step hsym hs hto ht hi I
  obtain ⟨h1, h2, h3, h4⟩ := I
  obtain ⟨d, hd⟩ : ∃ d, t - i = d + 1 := ⟨t - i - 1, by omega⟩
  rw [hd] at h3
  have hg := fun v => wyG_if (n := n) (to := to) (x := p.1) (a := a) h3 v
  have hb := fun v (hv : v < n) => bW_le (a := a) hn hto hv
  have hb1 := hb p.1 h1
  have hup : ∀ k, k < n → a p.1 k = true → bD n a to k = some d → bD n a s k = some (i + 1) := fun k hk ha hkd => wy_up hsym hs hto ht hi h1 h2 hk ha (by rw [hkd]; congr 1; omega)
  have hval : ∀ k, k < n → a p.1 k = true → bD n a s k = some (i + 1) → v7 k = nI (wyG n a to p.1 k) := fun k hk ha hki => by
    rw [h7v k hk, onw_val ht hki, if_pos (by omega), onw_aside hsym hs hto hk ht hki (by omega), hg k, show t - (i + 1) = d by omega]
    congr 1
    by_cases e : bD n a to k = some d
    · rw [if_pos e, if_pos ⟨ha, e⟩]
    · rw [if_neg e, if_neg (fun g => e g.2)]
  revert g1 g2 g3 g4 g5 g6
  generalize wyK (wyG n a to p.1) p.2 = K
  revert hg hval
  generalize wyG n a to p.1 = g
  intro hg hval g1 g2 g3 g4 g5 g6
  have zx : zin (nI p.1) 12 := p_in (by omega) (by omega)
  have key := p_for (step := sX6_wayAt_121 (nI n) mJ v4 v7 (nI p.1, y, nI (i + 1))) (fun k => if k ≤ K then (nI (p.2 - psum g k), (-1), nI k) else (nI (p.2 - psum g K), nI K, nI (K + 1))) (K + 1) (e := (nI (p.2 - psum g K), nI K, nI (K + 1))) (fun k hk => ?_) ?_ (by omega : K + 1 < 32) (s := (nI p.2, (-1), 0)) (by rw [if_pos (Nat.zero_le K), psum]; rfl)
  · exact ⟨_, key⟩
  · have zk : zin (nI k) 12 := p_in (by omega) (by omega)
    have hm := hJ p.1 k h1 (by omega)
    have e4 : v4 k = nI (i + 1) ↔ bD n a s k = some (i + 1) := by
      rw [h4v k (by omega)]
      exact enc_inj (y := some (i + 1)) (fun j e => by have := bD_le hs (by omega) e; omega) (fun j e => by cases e; omega)
    rw [if_pos (by omega : k ≤ K)]
    dsimp only [sX6_wayAt_121]
    simp only [p_cl (i := p.1) (by omega), p_cl (i := k) (by omega)]
    rw [if_neg (nI_ge (a := k) (b := n) (by omega) (by omega)), if_pos trivial, if_pos zx, if_pos zk, hm]
    by_cases hkK : k = K
    · subst hkK
      have hc : a p.1 k = true ∧ bD n a to k = some d := ⟨g4, by rw [g5]; congr 1; omega⟩
      have hgk : g k = bW n a to k := by rw [hg k, if_pos hc]
      have hbK := hb k g3
      rw [psum] at g2
      rw [if_pos g4, if_neg (by decide), if_pos zk, if_pos (e4.mpr g6), if_pos zk, hval k g3 g4 g6, if_neg (nI_ge (by omega) (by omega)), ob, if_neg (p_m1 (k := k) (by omega)), if_neg (by omega : ¬ k + 1 ≤ k), nI_1, show (0 : Int32) = nI 0 from rfl, pk_sub (Nat.zero_le _), Nat.sub_zero]
    · have hm2 := psum_mono (g := g) (show k + 1 ≤ K by omega)
      rw [psum] at hm2
      rw [if_pos (by omega : k + 1 ≤ K), psum]
      by_cases ha : a p.1 k = true
      · rw [if_pos ha, if_neg (by decide), if_pos zk]
        by_cases hki : bD n a s k = some (i + 1)
        · rw [if_pos (e4.mpr hki), if_pos zk, hval k (by omega) ha hki, if_pos (nI_le (by omega) (by omega)), ob, if_pos rfl, if_pos zk, pk_sub (by omega), nI_1, show p.2 - psum g k - g k = p.2 - (psum g k + g k) by omega]
        · have hgk : g k = 0 := by rw [hg k, if_neg (fun e => hki (hup k (by omega) e.1 e.2))]
          rw [if_neg (fun e => hki (e4.mp e)), nI_1, hgk, Nat.add_zero (psum g k)]
      · have hgk : g k = 0 := by rw [hg k, if_neg (fun e => ha e.1)]
        rw [if_neg ha, if_pos rfl, nI_1, hgk, Nat.add_zero (psum g k)]
  · rw [if_neg (by omega : ¬ K + 1 ≤ K)]
    dsimp only [sX6_wayAt_121]
    by_cases hl : n ≤ K + 1
    · rw [if_pos (nI_le hl (by omega))]
    · rw [if_neg (nI_ge (a := K + 1) (b := n) (by omega) (by omega)), if_neg (p_m1 (k := K) (by omega))]
theorem r_way {n s to t num ix : Nat} {a : Nat → Nat → Bool} {mJ : Nat → Nat → Int32} {v4 v7 : Nat → Int32} (hn : n ≤ 12) (hJ : mJR n a mJ) (hsym : Gsym n a) (hs : s < n) (hto : to < n) (ht : bD n a s to = some t) (hnum : num < bW n a s to) (hix : ix ≤ t) (h4v : ∀ v, v < n → v4 v = enc (bD n a s v)) (h7v : ∀ v, v < n → v7 v = nI (onw n a (bF n a s).2.1 to v)) : ∃ y z, zloop (sX6_wayAt_109 (nI n) mJ (nI ix) v4 v7) 32 (nI s, nI num, 1) = some (nI (wy n a s to num ix).1, y, z) := by
  have htn := bD_le hs hto ht
  refine ⟨nI (wy n a s to num ix).2, nI (ix + 1), p_for (fun i => (nI (wy n a s to num i).1, nI (wy n a s to num i).2, nI (i + 1))) ix (fun i hi => ?_) ?_ (by omega) rfl⟩
  · have I := wy_inv hsym hs hto ht hnum i (by omega)
    obtain ⟨z, hz⟩ := r_along hn hJ hsym hs hto ht (by omega) I h4v h7v (nI (wy n a s to num i).2)
    dsimp only [sX6_wayAt_109]
    rw [if_neg (nI_nlt (by omega) (by omega)), hz, ob, nI_1]
    rfl
  · dsimp only [sX6_wayAt_109]
    rw [if_pos (nI_lt (by omega) (by omega))]
