/-! PURE: the queue, told of natural numbers -/
abbrev bSt : Type := Nat × (Nat → Option Nat) × (Nat → Nat) × (Nat → Nat)
def bU {α : Type} (f : Nat → α) (i : Nat) (x : α) : Nat → α := fun j => if j = i then x else f j
theorem bU_s {α : Type} {f : Nat → α} {i : Nat} {x : α} : bU f i x i = x := if_pos rfl
theorem bU_n {α : Type} {f : Nat → α} {i j : Nat} {x : α} (h : j ≠ i) : bU f i x j = f j := if_neg h
theorem pct_one {p q : Nat → Bool} {i : Nat} : ∀ {n : Nat}, i < n → p i = false → q i = true → (∀ j, j < n → j ≠ i → q j = p j) → pct q n = pct p n + 1
  | 0, h, _, _, _ => absurd h (Nat.not_lt_zero i)
  | n + 1, h, h1, h2, h3 => by
    rw [pct, pct]
    rcases Nat.lt_or_ge i n with h4 | h4
    · rw [pct_one h4 h1 h2 (fun j hj hji => h3 j (by omega) hji), h3 n (by omega) (by omega)]
      omega
    · have : i = n := by omega
      subst this
      rw [pct_cong (fun k hk => h3 k (by omega) (by omega)), h1, h2]
      simp
theorem pct_lt {p : Nat → Bool} {i n : Nat} (h : i < n) (h1 : p i = false) : pct p n < n := by
  have h2 := pct_one (q := fun j => if j = i then true else p j) h h1 (by simp) (fun j _ hj => by simp [hj])
  have h3 := pct_le (fun j => if j = i then true else p j) n
  omega
theorem psum_upd {f g : Nat → Nat} {h x : Nat} : ∀ {n : Nat}, h < n → g h = f h + x → (∀ j, j < n → j ≠ h → g j = f j) → psum g n = psum f n + x
  | 0, hh, _, _ => absurd hh (Nat.not_lt_zero h)
  | n + 1, hh, h1, h2 => by
    rw [psum, psum]
    rcases Nat.lt_or_ge h n with h4 | h4
    · rw [psum_upd h4 h1 (fun j hj hji => h2 j (by omega) hji), h2 n (by omega) (by omega)]
      omega
    · have : h = n := by omega
      subst this
      rw [psum_cong (fun k hk => h2 k (by omega) (by omega)), h1]
      omega
/-- the pair (u, v) has been looked at -/
def dnb (t m : Nat) (q : Nat → Nat) (u v : Nat) : Bool := (List.range t).any (fun i => decide (q i = u)) || (decide (q t = u) && decide (v < m))
theorem dnb_iff {t m : Nat} {q : Nat → Nat} {u v : Nat} : dnb t m q u v = true ↔ (∃ i, i < t ∧ q i = u) ∨ (q t = u ∧ v < m) := by
  unfold dnb
  rw [Bool.or_eq_true, List.any_eq_true, Bool.and_eq_true]
  constructor
  · rintro (⟨i, h1, h2⟩ | ⟨h1, h2⟩)
    · exact Or.inl ⟨i, List.mem_range.mp h1, of_decide_eq_true h2⟩
    · exact Or.inr ⟨of_decide_eq_true h1, of_decide_eq_true h2⟩
  · rintro (⟨i, h1, h2⟩ | ⟨h1, h2⟩)
    · exact Or.inl ⟨i, List.mem_range.mpr h1, decide_eq_true h2⟩
    · exact Or.inr ⟨decide_eq_true h1, decide_eq_true h2⟩
theorem b_ext2 {x y : Bool} (h : x = true ↔ y = true) : x = y := by
  cases x <;> cases y <;> simp_all
theorem dnb_q {t m : Nat} {q q' : Nat → Nat} {u v : Nat} (h : ∀ i, i ≤ t → q' i = q i) : dnb t m q' u v = dnb t m q u v := by
  apply b_ext2
  rw [dnb_iff, dnb_iff]
  constructor
  · rintro (⟨i, h1, h2⟩ | ⟨h1, h2⟩)
    · exact Or.inl ⟨i, h1, by rw [← h i (by omega)]; exact h2⟩
    · exact Or.inr ⟨by rw [← h t (by omega)]; exact h1, h2⟩
  · rintro (⟨i, h1, h2⟩ | ⟨h1, h2⟩)
    · exact Or.inl ⟨i, h1, by rw [h i (by omega)]; exact h2⟩
    · exact Or.inr ⟨by rw [h t (by omega)]; exact h1, h2⟩
theorem dnb_mono {t m : Nat} {q : Nat → Nat} {u v : Nat} (h : dnb t m q u v = true) : dnb t (m + 1) q u v = true := by
  rw [dnb_iff] at h ⊢
  rcases h with h | ⟨h1, h2⟩
  · exact Or.inl h
  · exact Or.inr ⟨h1, by omega⟩
theorem dnb_ne {t m : Nat} {q : Nat → Nat} {u v : Nat} (hv : v ≠ m) : dnb t (m + 1) q u v = dnb t m q u v := by
  apply b_ext2
  rw [dnb_iff, dnb_iff]
  constructor
  · rintro (h | ⟨h1, h2⟩)
    · exact Or.inl h
    · exact Or.inr ⟨h1, by omega⟩
  · rintro (h | ⟨h1, h2⟩)
    · exact Or.inl h
    · exact Or.inr ⟨h1, by omega⟩
theorem dnb_nu {t m : Nat} {q : Nat → Nat} {u v : Nat} (hu : u ≠ q t) : dnb t (m + 1) q u v = dnb t m q u v := by
  apply b_ext2
  rw [dnb_iff, dnb_iff]
  constructor
  · rintro (h | ⟨h1, h2⟩)
    · exact Or.inl h
    · exact absurd h1.symm hu
  · rintro (h | ⟨h1, h2⟩)
    · exact Or.inl h
    · exact absurd h1.symm hu
/-- what holds of the queue in turn t, the first m places looked at -/
def bInv (n : Nat) (a : Nat → Nat → Bool) (s t m c : Nat) (L : Nat → Option Nat) (C q : Nat → Nat) : Prop :=
  t ≤ c ∧ c = pct (fun v => (L v).isSome) n ∧
  (∀ i, i < c → q i < n ∧ ∃ k, L (q i) = some k) ∧
  (∀ v k, v < n → L v = some k → ∃ i, i < c ∧ q i = v) ∧
  (∀ i j k k', i ≤ j → j < c → L (q i) = some k → L (q j) = some k' → k ≤ k') ∧
  (∀ j k k', t < c → j < c → L (q t) = some k → L (q j) = some k' → k' ≤ k + 1) ∧
  (∀ i j, i < c → j < c → q i = q j → i = j) ∧
  (∀ u v k, u < n → v < n → dnb t m q u v = true → a u v = true → L u = some k → ∃ k', k' ≤ k + 1 ∧ L v = some k') ∧
  (∀ v k, v < n → L v = some (k + 1) → ∃ u, u < n ∧ dnb t m q u v = true ∧ a u v = true ∧ L u = some k) ∧
  (L s = some 0 ∧ (∀ v, v < n → L v = some 0 → v = s) ∧ q 0 = s ∧ 0 < c ∧ C s = 1) ∧
  (∀ v k, v < n → L v = some (k + 1) → C v = psum (fun u => if a u v = true ∧ dnb t m q u v = true ∧ L u = some k then C u else 0) n) ∧
  (∀ v, v < n → L v = none → C v = 0)
theorem bI_skip {n : Nat} {a : Nat → Nat → Bool} {s t m c : Nat} {L : Nat → Option Nat} {C q : Nat → Nat} (I : bInv n a s t m c L C q) (h : a (q t) m = false ∨ ∃ k l, L m = some k ∧ L (q t) = some l ∧ k ≤ l) : bInv n a s t (m + 1) c L C q := by
  obtain ⟨h0, h1, h2, h3, h4, h5, h6, h7, h8, h9, h14, h15⟩ := I
  refine ⟨h0, h1, h2, h3, h4, h5, h6, fun u v k hu hv hd ha e => ?_, fun v k hv e => ?_, h9, fun v k hv e => ?_, h15⟩
  · by_cases hu2 : u = q t
    · by_cases hv2 : v = m
      · subst hu2
        subst hv2
        rcases h with h | ⟨k1, l, e1, e2, h⟩
        · rw [h] at ha
          cases ha
        · rw [e2] at e
          cases e
          exact ⟨k1, by omega, e1⟩
      · rw [dnb_ne hv2] at hd
        exact h7 u v k hu hv hd ha e
    · rw [dnb_nu hu2] at hd
      exact h7 u v k hu hv hd ha e
  · obtain ⟨u, g1, g2, g3, g4⟩ := h8 v k hv e
    exact ⟨u, g1, dnb_mono g2, g3, g4⟩
  · rw [h14 v k hv e]
    refine psum_cong (fun u hu => ?_)
    by_cases hu2 : u = q t
    · by_cases hv2 : v = m
      · subst hu2
        subst hv2
        have key : ∀ X : Prop, ¬ (a (q t) v = true ∧ X ∧ L (q t) = some k) := by
          rintro X ⟨g1, -, g3⟩
          rcases h with h | ⟨k1, l, e1, e2, h⟩
          · rw [h] at g1
            cases g1
          · rw [e2] at g3
            cases g3
            rw [e1] at e
            cases e
            omega
        rw [if_neg (key _), if_neg (key _)]
      · rw [dnb_ne hv2]
    · rw [dnb_nu hu2]
theorem bI_add {n : Nat} {a : Nat → Nat → Bool} {s t m c l : Nat} {L : Nat → Option Nat} {C q : Nat → Nat} (I : bInv n a s t m c L C q) (ht : t < c) (hm : m < n) (ha : a (q t) m = true) (hl : L (q t) = some l) (hk : L m = some (l + 1)) : bInv n a s t (m + 1) c L (bU C m (C m + C (q t))) q := by
  obtain ⟨h0, h1, h2, h3, h4, h5, h6, h7, h8, ⟨h9, h10, h11, h12, h13⟩, h14, h15⟩ := I
  have hne : q t ≠ m := fun e => by
    rw [e, hk] at hl
    cases hl
  have hnm : ∀ m' v, dnb t m' q m v = false := by
    intro m' v
    cases hb : dnb t m' q m v with
    | false => rfl
    | true =>
      rcases dnb_iff.mp hb with ⟨i, g1, g2⟩ | ⟨g1, -⟩
      · have := h4 i t (l + 1) l (by omega) ht (by rw [g2]; exact hk) hl
        omega
      · exact absurd g1 hne
  refine ⟨h0, h1, h2, h3, h4, h5, h6, fun u v k hu hv hd hau e => ?_, fun v k hv e => ?_, ⟨h9, h10, h11, h12, ?_⟩, fun v k hv e => ?_, fun v hv e => ?_⟩
  · by_cases hu2 : u = q t
    · by_cases hv2 : v = m
      · subst hu2
        subst hv2
        rw [hl] at e
        cases e
        exact ⟨_, Nat.le_refl _, hk⟩
      · rw [dnb_ne hv2] at hd
        exact h7 u v k hu hv hd hau e
    · rw [dnb_nu hu2] at hd
      exact h7 u v k hu hv hd hau e
  · obtain ⟨u, g1, g2, g3, g4⟩ := h8 v k hv e
    exact ⟨u, g1, dnb_mono g2, g3, g4⟩
  · rw [bU_n (fun e => by rw [← e, h9] at hk; cases hk)]
    exact h13
  · by_cases hv2 : v = m
    · subst hv2
      rw [hk] at e
      cases e
      rw [bU_s, h14 v l hv hk]
      refine (psum_upd (h := q t) (h2 t ht).1 ?_ (fun u hu hut => ?_)).symm
      · have hf : dnb t v q (q t) v = false := by
          cases hb : dnb t v q (q t) v with
          | false => rfl
          | true =>
            rcases dnb_iff.mp hb with ⟨i, g1, g2⟩ | ⟨-, g2⟩
            · have := h6 i t (by omega) ht g2
              omega
            · omega
        rw [if_pos ⟨ha, dnb_iff.mpr (Or.inr ⟨rfl, by omega⟩), hl⟩, if_neg (fun g => by rw [hf] at g; cases g.2.1), bU_n hne]
        omega
      · rw [dnb_nu hut]
        by_cases hu2 : u = v
        · subst hu2
          rw [hnm]
          simp
        · rw [bU_n hu2]
    · rw [bU_n hv2, h14 v k hv e]
      refine psum_cong (fun u hu => ?_)
      rw [dnb_ne hv2]
      by_cases hu2 : u = m
      · subst hu2
        rw [hnm]
        simp
      · rw [bU_n hu2]
  · rw [bU_n (fun e2 => by rw [e2, hk] at e; cases e)]
    exact h15 v hv e
theorem bI_new {n : Nat} {a : Nat → Nat → Bool} {s t m c l : Nat} {L : Nat → Option Nat} {C q : Nat → Nat} (I : bInv n a s t m c L C q) (ht : t < c) (hm : m < n) (ha : a (q t) m = true) (hl : L (q t) = some l) (hn : L m = none) : bInv n a s t (m + 1) (c + 1) (bU L m (some (l + 1))) (bU C m (C m + C (q t))) (bU q c m) := by
  obtain ⟨h0, h1, h2, h3, h4, h5, h6, h7, h8, ⟨h9, h10, h11, h12, h13⟩, h14, h15⟩ := I
  have hq : ∀ i, i < c → bU q c m i = q i := fun i hi => bU_n (by omega)
  have hLm : ∀ v, v ≠ m → bU L m (some (l + 1)) v = L v := fun v hv => bU_n hv
  have hne : ∀ v k, L v = some k → v ≠ m := fun v k e h => by
    rw [h, hn] at e
    cases e
  have hdq : ∀ m' u v, dnb t m' (bU q c m) u v = dnb t m' q u v := fun m' u v => dnb_q (fun i hi => hq i (by omega))
  have hpos : ∀ i, i < c → ∀ k, bU L m (some (l + 1)) (bU q c m i) = some k → L (q i) = some k := fun i hi k e => by
    obtain ⟨-, k1, e1⟩ := h2 i hi
    rw [hq i hi, hLm _ (hne _ _ e1)] at e
    exact e
  have hpc : ∀ k, bU L m (some (l + 1)) (bU q c m c) = some k → k = l + 1 := fun k e => by
    rw [bU_s, bU_s] at e
    cases e
    rfl
  have hnm : ∀ m' v, dnb t m' q m v = false := by
    intro m' v
    cases hb : dnb t m' q m v with
    | false => rfl
    | true =>
      rcases dnb_iff.mp hb with ⟨i, g1, g2⟩ | ⟨g1, -⟩
      · obtain ⟨-, k, e⟩ := h2 i (by omega)
        exact absurd g2 (hne _ _ e)
      · exact absurd g1 (hne _ _ hl)
  have hold : ∀ u, u < n → ∀ k, L u = some k → a u m = true → dnb t m q u m = false := by
    intro u hu k e hau
    cases hb : dnb t m q u m with
    | false => rfl
    | true =>
      obtain ⟨k', -, e'⟩ := h7 u m k hu hm hb hau e
      rw [hn] at e'
      cases e'
  refine ⟨by omega, ?_, fun i hi => ?_, fun v k hv e => ?_, fun i j k k' hij hj e1 e2 => ?_, fun j k k' _ hj e1 e2 => ?_, fun i j hi hj e => ?_, fun u v k hu hv hd hau e => ?_, fun v k hv e => ?_, ⟨?_, fun v hv e => ?_, ?_, by omega, ?_⟩, fun v k hv e => ?_, fun v hv e => ?_⟩
  · rw [pct_one (p := fun v => (L v).isSome) hm (by rw [hn]; rfl) (by rw [bU_s]; rfl) (fun j _ hj => by rw [hLm j hj]), ← h1]
  · by_cases hc : i = c
    · subst hc
      rw [bU_s]
      exact ⟨hm, l + 1, bU_s⟩
    · rw [hq i (by omega)]
      obtain ⟨g1, k, g2⟩ := h2 i (by omega)
      exact ⟨g1, k, by rw [hLm _ (hne _ _ g2)]; exact g2⟩
  · by_cases hv2 : v = m
    · exact ⟨c, by omega, by rw [bU_s, hv2]⟩
    · rw [hLm v hv2] at e
      obtain ⟨i, g1, g2⟩ := h3 v k hv e
      exact ⟨i, by omega, by rw [hq i g1]; exact g2⟩
  · by_cases hjc : j = c
    · subst hjc
      have := hpc k' e2
      by_cases hic : i = j
      · subst hic
        have := hpc k e1
        omega
      · have := h5 i l k ht (by omega) hl (hpos i (by omega) k e1)
        omega
    · exact h4 i j k k' hij (by omega) (hpos i (by omega) k e1) (hpos j (by omega) k' e2)
  · have g1 := hpos t ht k e1
    rw [hl] at g1
    cases g1
    by_cases hjc : j = c
    · subst hjc
      have := hpc k' e2
      omega
    · exact h5 j l k' ht (by omega) hl (hpos j (by omega) k' e2)
  · by_cases hic : i = c
    · by_cases hjc : j = c
      · omega
      · subst hic
        rw [bU_s, hq j (by omega)] at e
        obtain ⟨-, k, g⟩ := h2 j (by omega)
        exact absurd e.symm (hne _ _ g)
    · by_cases hjc : j = c
      · subst hjc
        rw [bU_s, hq i (by omega)] at e
        obtain ⟨-, k, g⟩ := h2 i (by omega)
        exact absurd e (hne _ _ g)
      · rw [hq i (by omega), hq j (by omega)] at e
        exact h6 i j (by omega) (by omega) e
  · rw [hdq] at hd
    by_cases hum : u = m
    · subst hum
      rw [hnm] at hd
      cases hd
    · rw [hLm u hum] at e
      by_cases hv2 : v = m
      · subst hv2
        refine ⟨l + 1, ?_, bU_s⟩
        by_cases hu2 : u = q t
        · subst hu2
          rw [hl] at e
          cases e
          exact Nat.le_refl _
        · rw [dnb_nu hu2, hold u hu k e hau] at hd
          cases hd
      · rw [dnb_ne hv2] at hd
        obtain ⟨k', g1, g2⟩ := h7 u v k hu hv hd hau e
        exact ⟨k', g1, by rw [hLm v hv2]; exact g2⟩
  · by_cases hv2 : v = m
    · subst hv2
      rw [bU_s] at e
      cases e
      exact ⟨q t, (h2 t ht).1, by rw [hdq, dnb_iff]; exact Or.inr ⟨rfl, by omega⟩, ha, by rw [hLm _ (hne _ _ hl)]; exact hl⟩
    · rw [hLm v hv2] at e
      obtain ⟨u, g1, g2, g3, g4⟩ := h8 v k hv e
      exact ⟨u, g1, by rw [hdq]; exact dnb_mono g2, g3, by rw [hLm _ (hne _ _ g4)]; exact g4⟩
  · rw [hLm _ (hne _ _ h9)]
    exact h9
  · by_cases hv2 : v = m
    · subst hv2
      rw [bU_s] at e
      cases e
    · rw [hLm v hv2] at e
      exact h10 v hv e
  · rw [hq 0 h12]
    exact h11
  · rw [bU_n (hne _ _ h9)]
    exact h13
  · by_cases hv2 : v = m
    · subst hv2
      rw [bU_s] at e
      cases e
      rw [bU_s, h15 v hv hn, psum_one (h2 t ht).1 (fun u hu hut => ?_), if_pos ⟨ha, by rw [hdq, dnb_iff]; exact Or.inr ⟨rfl, by omega⟩, by rw [hLm _ (hne _ _ hl)]; exact hl⟩, bU_n (hne _ _ hl)]
      · omega
      · refine if_neg ?_
        rintro ⟨g1, g2, g3⟩
        by_cases hum : u = v
        · subst hum
          rw [bU_s] at g3
          cases g3
        · rw [hLm u hum] at g3
          rw [hdq, dnb_nu hut, hold u hu l g3 g1] at g2
          cases g2
    · rw [hLm v hv2] at e
      rw [bU_n hv2, h14 v k hv e]
      refine psum_cong (fun u hu => ?_)
      rw [hdq, dnb_ne hv2]
      by_cases hu2 : u = m
      · subst hu2
        rw [hnm]
        simp
      · rw [bU_n hu2, bU_n hu2]
  · by_cases hv2 : v = m
    · subst hv2
      rw [bU_s] at e
      cases e
    · rw [hLm v hv2] at e
      rw [bU_n hv2]
      exact h15 v hv e
/-- the invariant, of a state -/
def bI (n : Nat) (a : Nat → Nat → Bool) (s t m : Nat) (z : bSt) : Prop := bInv n a s t m z.1 z.2.1 z.2.2.1 z.2.2.2
def bL (z : bSt) (h : Nat) : Nat := (z.2.1 h).getD 0
/-- neighbour v of h is looked at -/
def bOne (a : Nat → Nat → Bool) (h v : Nat) (z : bSt) : bSt :=
  if a h v = true then
    if z.2.1 v = none then (z.1 + 1, bU z.2.1 v (some (bL z h + 1)), bU z.2.2.1 v (z.2.2.1 v + z.2.2.1 h), bU z.2.2.2 z.1 v)
    else if z.2.1 v = some (bL z h + 1) then (z.1, z.2.1, bU z.2.2.1 v (z.2.2.1 v + z.2.2.1 h), z.2.2.2)
    else z
  else z
def bVis (a : Nat → Nat → Bool) (h : Nat) : Nat → bSt → bSt
  | 0, z => z
  | m + 1, z => bOne a h m (bVis a h m z)
def bRun (n : Nat) (a : Nat → Nat → Bool) (z : bSt) : Nat → bSt
  | 0 => z
  | t + 1 => if t < (bRun n a z t).1 then bVis a ((bRun n a z t).2.2.2 t) n (bRun n a z t) else bRun n a z t
def bIni (s : Nat) : bSt := (1, fun v => if v = s then some 0 else none, fun v => if v = s then 1 else 0, fun _ => s)
/-- what the queue tells from s -/
def bF (n : Nat) (a : Nat → Nat → Bool) (s : Nat) : bSt := bRun n a (bIni s) n
theorem bI_one {n : Nat} {a : Nat → Nat → Bool} {s t m : Nat} {z : bSt} (I : bI n a s t m z) (ht : t < z.1) (hm : m < n) : bI n a s t (m + 1) (bOne a (z.2.2.2 t) m z) ∧ (bOne a (z.2.2.2 t) m z).2.2.2 t = z.2.2.2 t ∧ z.1 ≤ (bOne a (z.2.2.2 t) m z).1 := by
  obtain ⟨c, L, C, q⟩ := z
  have ht : t < c := ht
  have I : bInv n a s t m c L C q := I
  obtain ⟨-, l, hl⟩ := I.2.2.1 t ht
  have hb : bL (c, L, C, q) (q t) = l := by
    show (L (q t)).getD 0 = l
    rw [hl]
    rfl
  unfold bOne
  show bI n a s t (m + 1) (if a (q t) m = true then _ else _) ∧ _
  by_cases ha : a (q t) m = true
  · rw [if_pos ha]
    show bI n a s t (m + 1) (if L m = none then _ else _) ∧ (if L m = none then _ else _ : bSt).2.2.2 t = q t ∧ c ≤ (if L m = none then _ else _ : bSt).1
    rw [hb]
    by_cases hn : L m = none
    · rw [if_pos hn]
      refine ⟨bI_new I ht hm ha hl hn, ?_, Nat.le_succ c⟩
      exact bU_n (by omega)
    · rw [if_neg hn]
      by_cases hk : L m = some (l + 1)
      · rw [if_pos hk]
        exact ⟨bI_add I ht hm ha hl hk, rfl, Nat.le_refl c⟩
      · rw [if_neg hk]
        refine ⟨bI_skip I (Or.inr ?_), rfl, Nat.le_refl c⟩
        cases hL : L m with
        | none => exact absurd hL hn
        | some k =>
          refine ⟨k, l, hL, hl, ?_⟩
          obtain ⟨j, g1, g2⟩ := I.2.2.2.1 m k hm hL
          have := I.2.2.2.2.2.1 j l k ht g1 hl (by rw [g2]; exact hL)
          rcases Nat.lt_or_ge l k with g | g
          · exact absurd (hL.trans (by rw [show k = l + 1 by omega])) hk
          · exact g
  · rw [if_neg ha]
    refine ⟨bI_skip I (Or.inl ?_), rfl, Nat.le_refl c⟩
    cases hb : a (q t) m
    · rfl
    · exact absurd hb ha
theorem bI_vis {n : Nat} {a : Nat → Nat → Bool} {s t : Nat} {z : bSt} (I : bI n a s t 0 z) (ht : t < z.1) : ∀ m, m ≤ n → bI n a s t m (bVis a (z.2.2.2 t) m z) ∧ (bVis a (z.2.2.2 t) m z).2.2.2 t = z.2.2.2 t ∧ z.1 ≤ (bVis a (z.2.2.2 t) m z).1
  | 0, _ => ⟨I, rfl, Nat.le_refl _⟩
  | m + 1, hm => by
    obtain ⟨h1, h2, h3⟩ := bI_vis I ht m (by omega)
    have h4 := bI_one h1 (by omega) (by omega : m < n)
    rw [h2] at h4
    exact ⟨h4.1, h4.2.1, Nat.le_trans h3 h4.2.2⟩
theorem bI_turn {n : Nat} {a : Nat → Nat → Bool} {s t : Nat} {z : bSt} (I : bI n a s t n z) (ht : t < z.1) : bI n a s (t + 1) 0 z := by
  obtain ⟨c, L, C, q⟩ := z
  have ht : t < c := ht
  have I : bInv n a s t n c L C q := I
  obtain ⟨h0, h1, h2, h3, h4, h5, h6, h7, h8, h9, h14, h15⟩ := I
  have hd : ∀ u v, v < n → dnb (t + 1) 0 q u v = dnb t n q u v := by
    intro u v hv
    apply b_ext2
    rw [dnb_iff, dnb_iff]
    constructor
    · rintro (⟨i, g1, g2⟩ | ⟨-, g⟩)
      · by_cases hi : i = t
        · subst hi
          exact Or.inr ⟨g2, hv⟩
        · exact Or.inl ⟨i, by omega, g2⟩
      · omega
    · rintro (⟨i, g1, g2⟩ | ⟨g, -⟩)
      · exact Or.inl ⟨i, by omega, g2⟩
      · exact Or.inl ⟨t, by omega, g⟩
  refine (show bInv n a s (t + 1) 0 c L C q from ⟨by omega, h1, h2, h3, h4, fun j k k' ht1 hj e1 e2 => ?_, h6, fun u v k hu hv hd1 ha e => ?_, fun v k hv e => ?_, h9, fun v k hv e => ?_, h15⟩)
  · obtain ⟨-, l, hl⟩ := h2 t ht
    have g1 := h5 j l k' ht hj hl e2
    have g2 := h4 t (t + 1) l k (by omega) ht1 hl e1
    omega
  · rw [hd u v hv] at hd1
    exact h7 u v k hu hv hd1 ha e
  · obtain ⟨u, g1, g2, g3, g4⟩ := h8 v k hv e
    exact ⟨u, g1, by rw [hd u v hv]; exact g2, g3, g4⟩
  · rw [h14 v k hv e]
    exact psum_cong (fun u _ => by rw [hd u v hv])
theorem bI_ini {n : Nat} {a : Nat → Nat → Bool} {s : Nat} (hs : s < n) : bI n a s 0 0 (bIni s) := by
  have h0 : ∀ v k, (if v = s then some 0 else none : Option Nat) = some k → v = s ∧ k = 0 := by
    intro v k e
    by_cases h : v = s
    · rw [if_pos h] at e
      cases e
      exact ⟨h, rfl⟩
    · rw [if_neg h] at e
      cases e
  refine (show bInv n a s 0 0 1 (fun v => if v = s then some 0 else none) (fun v => if v = s then 1 else 0) (fun _ => s) from ⟨by omega, ?_, fun i _ => ⟨hs, 0, if_pos rfl⟩, fun v k _ e => ⟨0, by omega, (h0 v k e).1.symm⟩, fun i j k k' _ _ e1 e2 => ?_, fun j k k' _ _ e1 e2 => ?_, fun i j hi hj _ => by omega, fun u v k _ _ hd _ _ => ?_, fun v k _ e => ?_, ⟨if_pos rfl, fun v _ e => (h0 v 0 e).1, rfl, by omega, if_pos rfl⟩, fun v k _ e => ?_, fun v _ e => ?_⟩)
  · have h1 := pct_one (p := fun _ => false) (q := fun v => ((if v = s then some 0 else none : Option Nat)).isSome) (n := n) hs rfl (by simp) (fun j _ hj => by simp [hj])
    rw [h1]
    have h2 : ∀ n, pct (fun _ => false) n = 0 := by
      intro n
      induction n with
      | zero => rfl
      | succ n ih => rw [pct, ih]; rfl
    rw [h2]
  · have := (h0 _ _ e1).2
    omega
  · have := (h0 _ _ e2).2
    omega
  · rcases dnb_iff.mp hd with ⟨i, g, -⟩ | ⟨-, g⟩ <;> omega
  · have := (h0 _ _ e).2
    omega
  · have := (h0 _ _ e).2
    omega
  · by_cases h : v = s
    · have e : (if v = s then some 0 else none : Option Nat) = none := e
      rw [if_pos h] at e
      cases e
    · exact if_neg h
theorem bI_run {n : Nat} {a : Nat → Nat → Bool} {s : Nat} (hs : s < n) : ∀ t, (t ≤ (bRun n a (bIni s) t).1 ∧ bI n a s t 0 (bRun n a (bIni s) t)) ∨ ∃ t', t' ≤ t ∧ t' = (bRun n a (bIni s) t).1 ∧ bI n a s t' 0 (bRun n a (bIni s) t)
  | 0 => Or.inl ⟨Nat.zero_le _, bI_ini hs⟩
  | t + 1 => by
    rw [bRun]
    rcases bI_run hs t with ⟨h1, h2⟩ | ⟨t', h1, h2, h3⟩
    · by_cases h : t < (bRun n a (bIni s) t).1
      · rw [if_pos h]
        obtain ⟨g1, g2, g3⟩ := bI_vis h2 h n (Nat.le_refl n)
        have g4 := bI_turn g1 (by omega)
        exact Or.inl ⟨by omega, g4⟩
      · rw [if_neg h]
        exact Or.inr ⟨t, by omega, by omega, h2⟩
    · rw [if_neg (by omega)]
      exact Or.inr ⟨t', by omega, h2, h3⟩
theorem bRun_stop {n : Nat} {a : Nat → Nat → Bool} {z : bSt} {t : Nat} (h : (bRun n a z t).1 ≤ t) : ∀ d, bRun n a z (t + d) = bRun n a z t
  | 0 => rfl
  | d + 1 => by
    have ih := bRun_stop h d
    show bRun n a z (t + d + 1) = _
    rw [bRun, ih, if_neg (by omega)]
theorem bI_le {n : Nat} {a : Nat → Nat → Bool} {s t m : Nat} {z : bSt} (I : bI n a s t m z) : z.1 ≤ n := by
  have h : z.1 = pct (fun v => (z.2.1 v).isSome) n := I.2.1
  rw [h]
  exact pct_le _ n
/-- the end of the queue -/
theorem bF_inv {n : Nat} {a : Nat → Nat → Bool} {s : Nat} (hs : s < n) : bI n a s (bF n a s).1 0 (bF n a s) := by
  rcases bI_run (a := a) hs n with ⟨h1, h2⟩ | ⟨t', h1, h2, h3⟩
  · have := bI_le h2
    have e : n = (bF n a s).1 := Nat.le_antisymm h1 this
    rw [← e]
    exact h2
  · have e : t' = (bF n a s).1 := h2
    rw [← e]
    exact h3
theorem bF_stop {n : Nat} {a : Nat → Nat → Bool} {s t : Nat} (hs : s < n) (h : (bRun n a (bIni s) t).1 ≤ t) : bRun n a (bIni s) t = bF n a s := by
  rcases Nat.le_total t n with g | g
  · have := bRun_stop h (n - t)
    rw [show t + (n - t) = n by omega] at this
    exact this.symm
  · have h2 : (bRun n a (bIni s) n).1 ≤ n := by
      rcases bI_run (a := a) hs n with ⟨_, h2⟩ | ⟨_, _, _, h2⟩ <;> exact bI_le h2
    have := bRun_stop h2 (t - n)
    rw [show n + (t - n) = t by omega] at this
    exact this
theorem bF_lay {n : Nat} {a : Nat → Nat → Bool} {s : Nat} (hs : s < n) : Lay n a s (bF n a s).2.1 := by
  have I := bF_inv (a := a) hs
  revert I
  generalize bF n a s = z
  obtain ⟨c, L, C, q⟩ := z
  intro I
  have I : bInv n a s c 0 c L C q := I
  obtain ⟨h0, h1, h2, h3, h4, h5, h6, h7, h8, ⟨h9, h10, h11, h12, h13⟩, h14, h15⟩ := I
  refine ⟨h9, h10, fun v k hv e => ?_, fun u v k hu hv ha e => ?_⟩
  · obtain ⟨u, g1, -, g3, g4⟩ := h8 v k hv e
    exact ⟨u, g1, g3, g4⟩
  · obtain ⟨i, g1, g2⟩ := h3 u k hu e
    exact h7 u v k hu hv (dnb_iff.mpr (Or.inl ⟨i, g1, g2⟩)) ha e
theorem bF_cnt {n : Nat} {a : Nat → Nat → Bool} {s : Nat} (hs : s < n) : Cnt n a s (bF n a s).2.1 (bF n a s).2.2.1 := by
  have I := bF_inv (a := a) hs
  revert I
  generalize bF n a s = z
  obtain ⟨c, L, C, q⟩ := z
  intro I
  have I : bInv n a s c 0 c L C q := I
  obtain ⟨h0, h1, h2, h3, h4, h5, h6, h7, h8, ⟨h9, h10, h11, h12, h13⟩, h14, h15⟩ := I
  refine ⟨h13, fun v k hv e => ?_, h15⟩
  show C v = _
  rw [h14 v k hv e]
  refine psum_cong (fun u hu => ?_)
  by_cases hL : L u = some k
  · obtain ⟨i, g1, g2⟩ := h3 u k hu hL
    have hd : dnb c 0 q u v = true := dnb_iff.mpr (Or.inl ⟨i, g1, g2⟩)
    show (if a u v = true ∧ dnb c 0 q u v = true ∧ L u = some k then C u else 0) = if a u v = true ∧ L u = some k then C u else 0
    rw [hd]
    simp
  · show (if a u v = true ∧ dnb c 0 q u v = true ∧ L u = some k then C u else 0) = if a u v = true ∧ L u = some k then C u else 0
    rw [if_neg (fun g => hL g.2.2), if_neg (fun g => hL g.2)]
/-- the layer of v from s -/
def bD (n : Nat) (a : Nat → Nat → Bool) (s v : Nat) : Option Nat := (bF n a s).2.1 v
/-- how many shortest ways -/
def bW (n : Nat) (a : Nat → Nat → Bool) (s v : Nat) : Nat := (bF n a s).2.2.1 v
theorem bW_wk {n : Nat} {a : Nat → Nat → Bool} {s v k : Nat} (hs : s < n) (hv : v < n) (h : bD n a s v = some k) : bW n a s v = wk n a k s v := (bF_cnt hs).walks hs (bF_lay hs) k hv h
theorem bW_0 {n : Nat} {a : Nat → Nat → Bool} {s v : Nat} (hs : s < n) (hv : v < n) (h : bD n a s v = none) : bW n a s v = 0 := (bF_cnt hs).2.2 v hv h
theorem bD_le {n : Nat} {a : Nat → Nat → Bool} {s v k : Nat} (hs : s < n) (hv : v < n) (h : bD n a s v = some k) : k + 1 ≤ n :=
  layers_le (fun v k hv e => by obtain ⟨u, h1, -, h2⟩ := (bF_lay hs).2.2.1 v k hv e; exact ⟨u, h1, h2⟩) hv h
theorem bI_lt {n : Nat} {a : Nat → Nat → Bool} {s t m : Nat} {z : bSt} (I : bI n a s t m z) {v k : Nat} (hv : v < n) (h : z.2.1 v = some k) : k + 1 ≤ n := by
  obtain ⟨-, -, -, -, -, -, -, -, h8, -⟩ := I
  exact layers_le (fun v k hv e => by obtain ⟨u, g1, -, -, g2⟩ := h8 v k hv e; exact ⟨u, g1, g2⟩) hv h
