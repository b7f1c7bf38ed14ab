/-! PURE: the change -/
/-- what a list of the changed places holds: keys K, lengths before f -/
def chR (n : Nat) (f g K : Nat → Int32) (m : Nat) (A B : Nat → Int32) : Prop := ∀ v, v < m → f v ≠ g v → A (pct (fun u => !decide (f u = g u)) v) = K v ∧ B (pct (fun u => !decide (f u = g u)) v) = f v
def chN (f g : Nat → Int32) (m : Nat) : Nat := pct (fun u => !decide (f u = g u)) m
theorem chN_eq {f g : Nat → Int32} {m : Nat} (h : f m = g m) : chN f g (m + 1) = chN f g m := by
  show pct _ m + (if (!decide (f m = g m)) = true then 1 else 0) = _
  rw [decide_eq_true h]
  rfl
theorem chN_ne {f g : Nat → Int32} {m : Nat} (h : f m ≠ g m) : chN f g (m + 1) = chN f g m + 1 := by
  show pct _ m + (if (!decide (f m = g m)) = true then 1 else 0) = _
  rw [decide_eq_false h]
  rfl
theorem chN_le {f g : Nat → Int32} (m : Nat) : chN f g m ≤ m := pct_le _ m
theorem pct_mono {p : Nat → Bool} {i : Nat} : ∀ {j : Nat}, i ≤ j → pct p i ≤ pct p j
  | 0, h => by
    have : i = 0 := by omega
    subst this
    exact Nat.le_refl _
  | j + 1, h => by
    rcases Nat.lt_or_ge j i with g | g
    · have : i = j + 1 := by omega
      subst this
      exact Nat.le_refl _
    · have := pct_mono (p := p) g
      rw [pct]
      omega
theorem chR_eq {n m : Nat} {f g K A B : Nat → Int32} (I : chR n f g K m A B) (h : f m = g m) : chR n f g K (m + 1) A B := by
  intro v hv hne
  by_cases e : v = m
  · subst e
    exact absurd h hne
  · exact I v (by omega) hne
theorem chR_ne {n m : Nat} {f g K A B : Nat → Int32} (I : chR n f g K m A B) (h : f m ≠ g m) : chR n f g K (m + 1) (upd A (chN f g m) (K m)) (upd B (chN f g m) (f m)) := by
  intro v hv hne
  by_cases e : v = m
  · subst e
    exact ⟨pk_us, pk_us⟩
  · have h1 : chN f g (v + 1) ≤ chN f g m := pct_mono (by omega)
    rw [chN_ne hne] at h1
    have h2 : chN f g v ≠ chN f g m := by omega
    have h3 := I v (by omega) hne
    exact ⟨(pk_un h2).trans h3.1, (pk_un h2).trans h3.2⟩
theorem c_remember (xB yL : Nat → Int32) : ∃ r, fX0_remember xB yL = some r ∧ ∀ v, v < 12 → r v = yL v := by
  obtain ⟨e, h1, h2⟩ := p_cnt (step := sX0_remember_2 yL) (fun i s => ∃ T : Nat → Int32, s = (nI i, T) ∧ ∀ v, v < i → T v = yL v) (fun e => ∀ v, v < 12 → e.2 v = yL v) 12 (fun i s hi hI => by
    obtain ⟨T, rfl, hI⟩ := hI
    have zi : zin (nI i) 12 := p_in hi (by omega)
    refine ⟨(nI (i + 1), upd T i (yL i)), ?_, _, rfl, fun v hv => ?_⟩
    · dsimp only [sX0_remember_2]
      simp only [p_cl (i := i) (by omega)]
      rw [if_neg (q12n hi), if_pos zi, if_pos zi, nI_1]
    · by_cases hvi : v = i
      · subst hvi
        exact pk_us
      · rw [pk_un hvi]
        exact hI v (by omega)) (fun s hI => by
    obtain ⟨T, rfl, hI⟩ := hI
    refine ⟨(nI 12, T), ?_, hI⟩
    dsimp only [sX0_remember_2]
    rw [if_pos (q12 (i := 12) (by omega) (by omega))]) (by omega : 12 < 32) (s := (0, xB)) ⟨xB, rfl, fun v hv => absurd hv (Nat.not_lt_zero v)⟩
  unfold fX0_remember
  rw [h1, ob]
  exact ⟨_, rfl, h2⟩
theorem c_compare {n : Nat} {xB xK xW nK yL : Nat → Int32} (hn : n ≤ 12) : ∃ A B, fX0_compare xB xK xW (nI n) nK yL = some (nI (chN xB yL n), A, B) ∧ chR n xB yL nK n A B := by
  obtain ⟨e, h1, h2, h3⟩ := p_cnt (step := sX0_compare_7 xB (nI n) nK yL) (fun i s => ∃ A B, s = (nI i, nI (chN xB yL i), A, B) ∧ chR n xB yL nK i A B) (fun e => e.2.1 = nI (chN xB yL n) ∧ chR n xB yL nK n e.2.2.1 e.2.2.2) n (fun i s hi hI => by
    obtain ⟨A, B, rfl, hI⟩ := hI
    have zi : zin (nI i) 12 := p_in (by omega) (by omega)
    have hc := chN_le (f := xB) (g := yL) i
    have zc : zin (nI (chN xB yL i)) 12 := p_in (by omega) (by omega)
    dsimp only [sX0_compare_7]
    simp only [p_cl (i := i) (by omega), p_cl (i := chN xB yL i) (by omega)]
    rw [if_neg (nI_ge hi (by omega)), if_pos zi, if_pos zi]
    by_cases h : xB i = yL i
    · rw [if_pos h, nI_1]
      exact ⟨_, rfl, A, B, by rw [chN_eq h], chR_eq hI h⟩
    · rw [if_neg h, if_pos zi, if_pos zc, if_pos zi, if_pos zc, nI_1, nI_1]
      exact ⟨_, rfl, _, _, by rw [chN_ne h], chR_ne hI h⟩) (fun s hI => by
    obtain ⟨A, B, rfl, hI⟩ := hI
    refine ⟨(nI n, nI (chN xB yL n), A, B), ?_, rfl, hI⟩
    dsimp only [sX0_compare_7]
    rw [if_pos (nI_le (Nat.le_refl n) (by omega))]) (by omega : n < 32) (s := (0, 0, xK, xW)) ⟨xK, xW, rfl, fun v hv => absurd hv (Nat.not_lt_zero v)⟩
  unfold fX0_compare
  rw [h1, ob, h2]
  exact ⟨_, _, rfl, h3⟩
theorem r_compare {n : Nat} {f g mK mC mW : Nat → Int32} (hn : n ≤ 12) : ∃ e, zloop (sX6_turn_46 (nI n) mK f g) 32 (0, 0, mC, mW) = some e ∧ e.2.1 = nI (chN f g n) ∧ chR n f g mK n e.2.2.1 e.2.2.2 := by
  refine p_cnt (step := sX6_turn_46 (nI n) mK f g) (fun i s => ∃ A B, s = (nI i, nI (chN f g i), A, B) ∧ chR n f g mK i A B) (fun e => e.2.1 = nI (chN f g n) ∧ chR n f g mK n e.2.2.1 e.2.2.2) n (fun i s hi hI => ?_) (fun s hI => ?_) (by omega) ⟨mC, mW, rfl, fun v hv => absurd hv (Nat.not_lt_zero v)⟩
  · obtain ⟨A, B, rfl, hI⟩ := hI
    have zi : zin (nI i) 12 := p_in (by omega) (by omega)
    have hc := chN_le (f := f) (g := g) i
    have zc : zin (nI (chN f g i)) 12 := p_in (by omega) (by omega)
    dsimp only [sX6_turn_46]
    simp only [p_cl (i := i) (by omega), p_cl (i := chN f g i) (by omega)]
    rw [if_neg (nI_ge hi (by omega)), if_pos zi, if_pos zi]
    by_cases h : f i = g i
    · rw [if_pos h, nI_1]
      exact ⟨_, rfl, A, B, by rw [chN_eq h], chR_eq hI h⟩
    · rw [if_neg h, if_pos zi, if_pos zc, if_pos zi, if_pos zc, nI_1, nI_1]
      exact ⟨_, rfl, _, _, by rw [chN_ne h], chR_ne hI h⟩
  · obtain ⟨A, B, rfl, hI⟩ := hI
    refine ⟨(nI n, nI (chN f g n), A, B), ?_, rfl, hI⟩
    dsimp only [sX6_turn_46]
    rw [if_pos (nI_le (Nat.le_refl n) (by omega))]
theorem pct_find {p : Nat → Bool} {i : Nat} : ∀ {n : Nat}, i < pct p n → ∃ v, v < n ∧ p v = true ∧ pct p v = i
  | 0, h => absurd h (Nat.not_lt_zero i)
  | n + 1, h => by
    rw [pct] at h
    rcases Nat.lt_or_ge i (pct p n) with g | g
    · obtain ⟨v, h1, h2, h3⟩ := pct_find g
      exact ⟨v, by omega, h2, h3⟩
    · cases hb : p n with
      | false =>
        rw [hb] at h
        have h : i < pct p n + 0 := h
        omega
      | true =>
        rw [hb] at h
        have h : i < pct p n + 1 := h
        exact ⟨n, by omega, hb, by omega⟩
theorem pct_cong2 {f g f' g' : Nat → Int32} {n : Nat} (hf : ∀ v, v < n → f v = f' v) (hg : ∀ v, v < n → g v = g' v) {m : Nat} (hm : m ≤ n) : chN f g m = chN f' g' m := pct_cong (fun k hk => by rw [hf k (by omega), hg k (by omega)])
/-- two lists of the same change are the same -/
theorem ch_same {n : Nat} {f g K f' g' K' A B A' B' : Nat → Int32} (hf : ∀ v, v < n → f v = f' v) (hg : ∀ v, v < n → g v = g' v) (hK : ∀ v, v < n → K v = K' v) (h1 : chR n f g K n A B) (h2 : chR n f' g' K' n A' B') : ∀ i, i < chN f g n → A i = A' i ∧ B i = B' i := by
  intro i hi
  obtain ⟨v, hv, hp, hpi⟩ := pct_find hi
  have hne : f v ≠ g v := fun e => by
    rw [decide_eq_true e] at hp
    cases hp
  have hne' : f' v ≠ g' v := by
    rw [← hf v hv, ← hg v hv]
    exact hne
  have e1 := h1 v hv hne
  have e2 := h2 v hv hne'
  have hc : chN f g v = chN f' g' v := pct_cong2 hf hg (by omega)
  have e1 : A (chN f g v) = K v ∧ B (chN f g v) = f v := e1
  have e2 : A' (chN f' g' v) = K' v ∧ B' (chN f' g' v) = f' v := e2
  have hpi : chN f g v = i := hpi
  rw [hpi] at e1 hc
  rw [← hc] at e2
  exact ⟨by rw [e1.1, e2.1, hK v hv], by rw [e1.2, e2.2, hf v hv]⟩
/-! joining and parting -/
def aJ (a : Nat → Nat → Bool) (i j : Nat) (on : Bool) : Nat → Nat → Bool := fun u v => if (u = i ∧ v = j) ∨ (u = j ∧ v = i) then on else a u v
theorem b_set (j : Nat) (hj : j < 32) (x : Int32) {k : Nat} (hk : k < 32) : bt (x ||| ((1 : Int32) <<< (nI j &&& 31))) k = (decide (k = j) || bt x k) := by
  rw [b_or, b_shl j hj 1 hk]
  by_cases e : k = j
  · subst e
    rw [Nat.sub_self, b_1 0 (by omega)]
    simp
  · by_cases g : j ≤ k
    · rw [b_1 (k - j) (by omega), decide_eq_false (by omega : ¬ k - j = 0), decide_eq_false e]
      simp
    · rw [decide_eq_false g, decide_eq_false e]
      simp
theorem b_clr (j : Nat) (hj : j < 32) (x : Int32) {k : Nat} (hk : k < 32) : bt (x &&& (((1 : Int32) <<< (nI j &&& 31)) ^^^ (-1))) k = (bt x k && !decide (k = j)) := by
  rw [b_and, b_xor, b_shl j hj 1 hk, b_m1 k hk]
  by_cases e : k = j
  · subst e
    rw [Nat.sub_self, b_1 0 (by omega)]
    simp
  · by_cases g : j ≤ k
    · rw [b_1 (k - j) (by omega), decide_eq_false (by omega : ¬ k - j = 0), decide_eq_false e]
      simp
    · rw [decide_eq_false g, decide_eq_false e]
      simp
theorem c_join {n i j : Nat} {nN : Nat → Int32} (hn : n ≤ 12) (hi : i < n) (hj : j < n) (hne : i ≠ j) : ∃ r, fX3_join nN (nI i) (nI j) = some r ∧ ∀ u, u < n → ∀ k, k < 32 → bt (r u) k = aJ (zA nN) i j true u k := by
  have zi : zin (nI i) 12 := p_in (by omega) (by omega)
  have zj : zin (nI j) 12 := p_in (by omega) (by omega)
  unfold fX3_join
  rw [if_pos zi, if_pos zi, if_pos zj, if_pos zj]
  simp only [p_cl (i := i) (by omega), p_cl (i := j) (by omega)]
  refine ⟨_, rfl, fun u hu k hk => ?_⟩
  unfold aJ
  by_cases e1 : u = j
  · subst e1
    rw [pk_us, pk_un hne.symm, b_set i (by omega) _ hk]
    by_cases e2 : k = i
    · rw [if_pos (Or.inr ⟨rfl, e2⟩), decide_eq_true e2]
      rfl
    · rw [if_neg (by omega), decide_eq_false e2]
      rfl
  · rw [pk_un e1]
    by_cases e2 : u = i
    · subst e2
      rw [pk_us, b_set j (by omega) _ hk]
      by_cases e3 : k = j
      · rw [if_pos (Or.inl ⟨rfl, e3⟩), decide_eq_true e3]
        rfl
      · rw [if_neg (by omega), decide_eq_false e3]
        rfl
    · rw [pk_un e2, if_neg (by omega)]
theorem c_part {n i j : Nat} {nN : Nat → Int32} (hn : n ≤ 12) (hi : i < n) (hj : j < n) (hne : i ≠ j) : ∃ r, fX3_part nN (nI i) (nI j) = some r ∧ ∀ u, u < n → ∀ k, k < 32 → bt (r u) k = aJ (zA nN) i j false u k := by
  have zi : zin (nI i) 12 := p_in (by omega) (by omega)
  have zj : zin (nI j) 12 := p_in (by omega) (by omega)
  unfold fX3_part
  rw [if_pos zi, if_pos zi, if_pos zj, if_pos zj]
  simp only [p_cl (i := i) (by omega), p_cl (i := j) (by omega)]
  refine ⟨_, rfl, fun u hu k hk => ?_⟩
  unfold aJ
  by_cases e1 : u = j
  · subst e1
    rw [pk_us, pk_un hne.symm, b_clr i (by omega) _ hk]
    by_cases e2 : k = i
    · rw [if_pos (Or.inr ⟨rfl, e2⟩), decide_eq_true e2]
      cases bt (nN u) k <;> rfl
    · rw [if_neg (by omega), decide_eq_false e2]
      cases hb : bt (nN u) k <;> exact hb.symm
  · rw [pk_un e1]
    by_cases e2 : u = i
    · subst e2
      rw [pk_us, b_clr j (by omega) _ hk]
      by_cases e3 : k = j
      · rw [if_pos (Or.inl ⟨rfl, e3⟩), decide_eq_true e3]
        cases bt (nN u) k <;> rfl
      · rw [if_neg (by omega), decide_eq_false e3]
        cases hb : bt (nN u) k <;> exact hb.symm
    · rw [pk_un e2, if_neg (by omega)]
