/-! PURE: walks in a small net, layers -/
def psum (f : Nat → Nat) : Nat → Nat
  | 0 => 0
  | n + 1 => psum f n + f n
theorem psum_cong {f g : Nat → Nat} : ∀ {n : Nat}, (∀ k, k < n → f k = g k) → psum f n = psum g n
  | 0, _ => rfl
  | n + 1, h => by rw [psum, psum, psum_cong (fun k hk => h k (by omega)), h n (by omega)]
theorem psum_zero {f : Nat → Nat} : ∀ {n : Nat}, (∀ k, k < n → f k = 0) → psum f n = 0
  | 0, _ => rfl
  | n + 1, h => by rw [psum, psum_zero (fun k hk => h k (by omega)), h n (by omega)]
theorem psum_pos {f : Nat → Nat} : ∀ {n : Nat}, 0 < psum f n → ∃ k, k < n ∧ 0 < f k
  | 0, h => absurd h (Nat.lt_irrefl 0)
  | n + 1, h => by
    rw [psum] at h
    rcases Nat.eq_zero_or_pos (f n) with h1 | h1
    · obtain ⟨k, h2, h3⟩ := psum_pos (f := f) (n := n) (by omega)
      exact ⟨k, by omega, h3⟩
    · exact ⟨n, by omega, h1⟩
theorem psum_ge {f : Nat → Nat} : ∀ {n k : Nat}, k < n → f k ≤ psum f n
  | 0, k, h => absurd h (Nat.not_lt_zero k)
  | n + 1, k, h => by
    rw [psum]
    rcases Nat.lt_or_ge k n with h1 | h1
    · have := psum_ge (f := f) h1
      omega
    · have : k = n := by omega
      subst this
      omega
theorem psum_add (f g : Nat → Nat) : ∀ n, psum (fun k => f k + g k) n = psum f n + psum g n
  | 0 => rfl
  | n + 1 => by rw [psum, psum, psum, psum_add f g n]; omega
theorem psum_mul (c : Nat) (f : Nat → Nat) : ∀ n, psum (fun k => c * f k) n = c * psum f n
  | 0 => rfl
  | n + 1 => by rw [psum, psum, psum_mul c f n, Nat.mul_add]
theorem psum_swap (f : Nat → Nat → Nat) (m : Nat) : ∀ n, psum (fun i => psum (fun j => f i j) m) n = psum (fun j => psum (fun i => f i j) n) m
  | 0 => by
    rw [psum]
    exact (psum_zero (fun k _ => rfl)).symm
  | n + 1 => by
    rw [psum, psum_swap f m n, ← psum_add]
    exact psum_cong (fun k _ => rfl)
theorem psum_le {f g : Nat → Nat} : ∀ {n : Nat}, (∀ k, k < n → f k ≤ g k) → psum f n ≤ psum g n
  | 0, _ => Nat.le_refl 0
  | n + 1, h => by
    rw [psum, psum]
    have h1 := psum_le (f := f) (g := g) (n := n) (fun k hk => h k (by omega))
    have h2 := h n (by omega)
    omega
/-- one place alone counts -/
theorem psum_one {f : Nat → Nat} : ∀ {n k : Nat}, k < n → (∀ j, j < n → j ≠ k → f j = 0) → psum f n = f k
  | 0, k, h, _ => absurd h (Nat.not_lt_zero k)
  | n + 1, k, h, h0 => by
    rw [psum]
    rcases Nat.lt_or_ge k n with h1 | h1
    · rw [psum_one h1 (fun j hj hjk => h0 j (by omega) hjk), h0 n (by omega) (by omega)]
      omega
    · have : k = n := by omega
      subst this
      rw [psum_zero (fun j hj => h0 j (by omega) (by omega))]
      omega
def b2n (b : Bool) : Nat := if b then 1 else 0
/-- how many walks of k streets lead from u to v -/
def wk (n : Nat) (a : Nat → Nat → Bool) : Nat → Nat → Nat → Nat
  | 0, u, v => if u = v then 1 else 0
  | k + 1, u, v => psum (fun w => b2n (a u w) * wk n a k w v) n
theorem wk_zero (n : Nat) (a : Nat → Nat → Bool) (u v : Nat) : wk n a 0 u v = if u = v then 1 else 0 := rfl
theorem wk_succ (n : Nat) (a : Nat → Nat → Bool) (k u v : Nat) : wk n a (k + 1) u v = psum (fun w => b2n (a u w) * wk n a k w v) n := rfl
/-- the last street first -/
theorem wk_last {n : Nat} {a : Nat → Nat → Bool} : ∀ (k : Nat) {u v : Nat}, u < n → v < n → wk n a (k + 1) u v = psum (fun w => wk n a k u w * b2n (a w v)) n
  | 0, u, v, hu, hv => by
    rw [wk_succ, psum_one hv (fun j _ hj => by rw [wk_zero, if_neg hj]; omega), psum_one hu (fun j _ hj => by rw [wk_zero, if_neg (fun h => hj h.symm)]; omega), wk_zero, if_pos rfl, wk_zero, if_pos rfl]
    omega
  | k + 1, u, v, hu, hv => by
    rw [wk_succ, psum_cong (g := fun w => psum (fun x => b2n (a u w) * (wk n a k w x * b2n (a x v))) n) (fun w hw => by rw [wk_last k hw hv, psum_mul]), psum_swap]
    refine psum_cong (fun x hx => ?_)
    rw [wk_succ, Nat.mul_comm, ← psum_mul]
    exact psum_cong (fun w _ => by rw [Nat.mul_comm (b2n (a x v)), Nat.mul_assoc])
def Gsym (n : Nat) (a : Nat → Nat → Bool) : Prop := ∀ i j, i < n → j < n → a i j = a j i
theorem wk_sym {n : Nat} {a : Nat → Nat → Bool} (hs : Gsym n a) : ∀ (k : Nat) {u v : Nat}, u < n → v < n → wk n a k u v = wk n a k v u
  | 0, u, v, _, _ => by
    rw [wk_zero, wk_zero]
    by_cases h : u = v
    · rw [if_pos h, if_pos h.symm]
    · rw [if_neg h, if_neg (fun e => h e.symm)]
  | k + 1, u, v, hu, hv => by
    rw [wk_succ, wk_last k hv hu]
    exact psum_cong (fun w hw => by rw [hs u w hu hw, wk_sym hs k hw hv, Nat.mul_comm])
theorem wk_step {n : Nat} {a : Nat → Nat → Bool} {k u w v : Nat} (hw : w < n) (h1 : a u w = true) (h2 : 0 < wk n a k w v) : 0 < wk n a (k + 1) u v := by
  rw [wk_succ]
  have h3 : b2n (a u w) * wk n a k w v ≤ psum (fun w => b2n (a u w) * wk n a k w v) n := psum_ge (f := fun w => b2n (a u w) * wk n a k w v) hw
  rw [h1, show b2n true * wk n a k w v = wk n a k w v from Nat.one_mul _] at h3
  omega
theorem wk_step_inv {n : Nat} {a : Nat → Nat → Bool} {k u v : Nat} (h : 0 < wk n a (k + 1) u v) : ∃ w, w < n ∧ a u w = true ∧ 0 < wk n a k w v := by
  rw [wk_succ] at h
  obtain ⟨w, h1, h2⟩ := psum_pos h
  refine ⟨w, h1, ?_⟩
  cases hb : a u w with
  | false => rw [hb] at h2; simp [b2n] at h2
  | true => rw [hb] at h2; simp [b2n] at h2; exact ⟨rfl, h2⟩
theorem wk_pos0 {n : Nat} {a : Nat → Nat → Bool} {u v : Nat} (h : 0 < wk n a 0 u v) : u = v := by
  rw [wk_zero] at h
  by_cases e : u = v
  · exact e
  · rw [if_neg e] at h
    omega
theorem wk_lastp {n : Nat} {a : Nat → Nat → Bool} {k u w v : Nat} (hu : u < n) (hw : w < n) (hv : v < n) (h1 : 0 < wk n a k u w) (h2 : a w v = true) : 0 < wk n a (k + 1) u v := by
  rw [wk_last k hu hv]
  have h3 : wk n a k u w * b2n (a w v) ≤ psum (fun w => wk n a k u w * b2n (a w v)) n := psum_ge (f := fun w => wk n a k u w * b2n (a w v)) hw
  rw [h2, show wk n a k u w * b2n true = wk n a k u w from Nat.mul_one _] at h3
  omega
theorem wk_last_inv {n : Nat} {a : Nat → Nat → Bool} {k u v : Nat} (hu : u < n) (hv : v < n) (h : 0 < wk n a (k + 1) u v) : ∃ w, w < n ∧ 0 < wk n a k u w ∧ a w v = true := by
  rw [wk_last k hu hv] at h
  obtain ⟨w, h1, h2⟩ := psum_pos h
  refine ⟨w, h1, ?_⟩
  cases hb : a w v with
  | false => rw [hb] at h2; simp [b2n] at h2
  | true => rw [hb] at h2; simp [b2n] at h2; exact ⟨h2, rfl⟩
theorem wk_join {n : Nat} {a : Nat → Nat → Bool} : ∀ (i : Nat) {j u w v : Nat}, 0 < wk n a i u w → 0 < wk n a j w v → 0 < wk n a (i + j) u v
  | 0, j, u, w, v, h1, h2 => by
    have := wk_pos0 h1
    subst this
    rw [Nat.zero_add]
    exact h2
  | i + 1, j, u, w, v, h1, h2 => by
    obtain ⟨x, hx, h3, h4⟩ := wk_step_inv h1
    rw [show i + 1 + j = (i + j) + 1 by omega]
    exact wk_step hx h3 (wk_join i h4 h2)
theorem wk_split {n : Nat} {a : Nat → Nat → Bool} : ∀ (i : Nat) {j u v : Nat}, u < n → 0 < wk n a (i + j) u v → ∃ w, w < n ∧ 0 < wk n a i u w ∧ 0 < wk n a j w v
  | 0, j, u, v, hu, h => ⟨u, hu, by rw [wk_zero, if_pos rfl]; omega, by rw [Nat.zero_add] at h; exact h⟩
  | i + 1, j, u, v, hu, h => by
    rw [show i + 1 + j = (i + j) + 1 by omega] at h
    obtain ⟨x, hx, h3, h4⟩ := wk_step_inv h
    obtain ⟨w, hw, h5, h6⟩ := wk_split i hx h4
    exact ⟨w, hw, wk_step hx h3 h5, h6⟩
/-- L tells layers from s -/
def Lay (n : Nat) (a : Nat → Nat → Bool) (s : Nat) (L : Nat → Option Nat) : Prop :=
  L s = some 0 ∧ (∀ v, v < n → L v = some 0 → v = s) ∧ (∀ v k, v < n → L v = some (k + 1) → ∃ u, u < n ∧ a u v = true ∧ L u = some k) ∧ (∀ u v k, u < n → v < n → a u v = true → L u = some k → ∃ k', k' ≤ k + 1 ∧ L v = some k')
theorem Lay.walk {n : Nat} {a : Nat → Nat → Bool} {s : Nat} {L : Nat → Option Nat} (hs : s < n) (h : Lay n a s L) : ∀ (k : Nat) {v : Nat}, v < n → L v = some k → 0 < wk n a k s v
  | 0, v, hv, h0 => by
    have := h.2.1 v hv h0
    subst this
    rw [wk_zero, if_pos rfl]
    omega
  | k + 1, v, hv, hk => by
    obtain ⟨u, hu, h1, h2⟩ := h.2.2.1 v k hv hk
    exact wk_lastp hs hu hv (Lay.walk hs h k hu h2) h1
theorem Lay.least {n : Nat} {a : Nat → Nat → Bool} {s : Nat} {L : Nat → Option Nat} (hs : s < n) (h : Lay n a s L) : ∀ (j : Nat) {v : Nat}, v < n → 0 < wk n a j s v → ∃ k, k ≤ j ∧ L v = some k
  | 0, v, _, h0 => by
    have := wk_pos0 h0
    subst this
    exact ⟨0, Nat.le_refl 0, h.1⟩
  | j + 1, v, hv, hj => by
    obtain ⟨u, hu, h1, h2⟩ := wk_last_inv hs hv hj
    obtain ⟨k, h3, h4⟩ := Lay.least hs h j hu h1
    obtain ⟨k', h5, h6⟩ := h.2.2.2 u v k hu hv h2 h4
    exact ⟨k', by omega, h6⟩
theorem Lay.unique {n : Nat} {a : Nat → Nat → Bool} {s : Nat} {L M : Nat → Option Nat} (hs : s < n) (h1 : Lay n a s L) (h2 : Lay n a s M) {v : Nat} (hv : v < n) : L v = M v := by
  cases hL : L v with
  | none =>
    cases hM : M v with
    | none => rfl
    | some k =>
      obtain ⟨j, -, h3⟩ := h1.least hs k hv (h2.walk hs k hv hM)
      rw [hL] at h3
      cases h3
  | some k =>
    obtain ⟨j, h3, h4⟩ := h2.least hs k hv (h1.walk hs k hv hL)
    obtain ⟨i, h5, h6⟩ := h1.least hs j hv (h2.walk hs j hv h4)
    rw [hL] at h6
    cases h6
    rw [h4]
    congr 1
    omega
/-- no walk is shorter than the layer; none at all without one -/
theorem Lay.short {n : Nat} {a : Nat → Nat → Bool} {s : Nat} {L : Nat → Option Nat} (hs : s < n) (h : Lay n a s L) {j k v : Nat} (hv : v < n) (hk : L v = some k) (hj : j < k) : wk n a j s v = 0 := by
  rcases Nat.eq_zero_or_pos (wk n a j s v) with e | e
  · exact e
  · obtain ⟨i, h1, h2⟩ := h.least hs j hv e
    rw [hk] at h2
    cases h2
    omega
theorem Lay.none {n : Nat} {a : Nat → Nat → Bool} {s : Nat} {L : Nat → Option Nat} (hs : s < n) (h : Lay n a s L) {j v : Nat} (hv : v < n) (hk : L v = none) : wk n a j s v = 0 := by
  rcases Nat.eq_zero_or_pos (wk n a j s v) with e | e
  · exact e
  · obtain ⟨i, h1, h2⟩ := h.least hs j hv e
    rw [hk] at h2
    cases h2
/-- the counts that layers bear are those of the shortest walks -/
def Cnt (n : Nat) (a : Nat → Nat → Bool) (s : Nat) (L : Nat → Option Nat) (c : Nat → Nat) : Prop :=
  c s = 1 ∧ (∀ v k, v < n → L v = some (k + 1) → c v = psum (fun u => if a u v = true ∧ L u = some k then c u else 0) n) ∧ ∀ v, v < n → L v = none → c v = 0
theorem Cnt.walks {n : Nat} {a : Nat → Nat → Bool} {s : Nat} {L : Nat → Option Nat} {c : Nat → Nat} (hs : s < n) (hL : Lay n a s L) (h : Cnt n a s L c) : ∀ (k : Nat) {v : Nat}, v < n → L v = some k → c v = wk n a k s v
  | 0, v, hv, h0 => by
    have := hL.2.1 v hv h0
    subst this
    rw [h.1, wk_zero, if_pos rfl]
  | k + 1, v, hv, hk => by
    rw [h.2.1 v k hv hk, wk_last k hs hv]
    refine psum_cong (fun u hu => ?_)
    by_cases e : a u v = true
    · rw [e]
      by_cases e2 : L u = some k
      · rw [if_pos ⟨rfl, e2⟩, Cnt.walks hs hL h k hu e2]
        simp [b2n]
      · rw [if_neg (fun q => e2 q.2)]
        rcases Nat.eq_zero_or_pos (wk n a k s u) with e3 | e3
        · rw [e3]
          simp
        · obtain ⟨i, h1, h2⟩ := hL.least hs k hu e3
          obtain ⟨k', h3, h4⟩ := hL.2.2.2 u v i hu hv e h2
          rw [hk] at h4
          cases h4
          have : i = k := by omega
          subst this
          exact absurd h2 e2
    · rw [if_neg (fun q => e q.1)]
      have : a u v = false := by cases hb : a u v <;> simp_all
      rw [this]
      simp [b2n]
/-- how many have a layer up to k: at least k + 1, if k itself is a layer -/
theorem Lay.full {n : Nat} {L : Nat → Option Nat} (h3 : ∀ v k, v < n → L v = some (k + 1) → ∃ u, u < n ∧ L u = some k) : ∀ (k : Nat) {v : Nat}, v < n → L v = some k → ∀ j, j ≤ k → ∃ u, u < n ∧ L u = some j
  | 0, v, hv, h0, j, hj => ⟨v, hv, by rw [h0, show j = 0 by omega]⟩
  | k + 1, v, hv, hk, j, hj => by
    rcases Nat.lt_or_ge j (k + 1) with h | h
    · obtain ⟨u, hu, h4⟩ := h3 v k hv hk
      exact Lay.full h3 k hu h4 j (by omega)
    · exact ⟨v, hv, by rw [hk, show j = k + 1 by omega]⟩
/-- k different layers and one place without: k < n -/
theorem pigeon : ∀ (n k : Nat) (f : Nat → Nat), (∀ i, i < k → f i < n) → (∀ i j, i < k → j < k → f i = f j → i = j) → k ≤ n
  | 0, k, f, h1, _ => by
    rcases Nat.eq_zero_or_pos k with e | e
    · omega
    · have := h1 0 e
      omega
  | n + 1, k, f, h1, h2 => by
    rcases Nat.eq_zero_or_pos k with e | e
    · omega
    · obtain ⟨k, rfl⟩ : ∃ m, k = m + 1 := ⟨k - 1, by omega⟩
      have key := pigeon n k (fun i => if f i = n then f k else f i) (fun i hi => ?_) (fun i j hi hj he => ?_)
      · omega
      · have a1 := h1 i (by omega)
        have a2 := h1 k (by omega)
        by_cases e1 : f i = n
        · simp only [e1, if_true]
          by_cases e2 : f k = n
          · have := h2 i k (by omega) (by omega) (e1.trans e2.symm)
            omega
          · omega
        · simp only [e1, if_false]
          omega
      · have he : (if f i = n then f k else f i) = (if f j = n then f k else f j) := he
        by_cases e1 : f i = n
        · by_cases e2 : f j = n
          · exact h2 i j (by omega) (by omega) (e1.trans e2.symm)
          · rw [if_pos e1, if_neg e2] at he
            have := h2 k j (by omega) (by omega) he
            omega
        · by_cases e2 : f j = n
          · rw [if_neg e1, if_pos e2] at he
            have := h2 i k (by omega) (by omega) he
            omega
          · rw [if_neg e1, if_neg e2] at he
            exact h2 i j (by omega) (by omega) he
theorem layers_lt {n : Nat} {L : Nat → Option Nat} (h3 : ∀ v k, v < n → L v = some (k + 1) → ∃ u, u < n ∧ L u = some k) {k v w : Nat} (hv : v < n) (hk : L v = some k) (hw : w < n) (hn : L w = none) : k + 2 ≤ n := by
  have hex : ∀ j, ∃ u, j ≤ k → u < n ∧ L u = some j := by
    intro j
    by_cases hj : j ≤ k
    · obtain ⟨u, h1, h2⟩ := Lay.full h3 k hv hk j hj
      exact ⟨u, fun _ => ⟨h1, h2⟩⟩
    · exact ⟨0, fun h => absurd h hj⟩
  obtain ⟨f, hf⟩ := Classical.axiomOfChoice hex
  refine pigeon n (k + 2) (fun i => if i ≤ k then f i else w) (fun i hi => ?_) (fun i j hi hj he => ?_)
  · by_cases e : i ≤ k
    · simp only [e, if_true]
      exact (hf i e).1
    · simp only [e, if_false]
      exact hw
  · have he : (if i ≤ k then f i else w) = (if j ≤ k then f j else w) := he
    by_cases e1 : i ≤ k
    · by_cases e2 : j ≤ k
      · rw [if_pos e1, if_pos e2] at he
        have q1 := (hf i e1).2
        have q2 := (hf j e2).2
        rw [he, q2] at q1
        cases q1
        rfl
      · rw [if_pos e1, if_neg e2] at he
        have q1 := (hf i e1).2
        rw [he, hn] at q1
        cases q1
    · by_cases e2 : j ≤ k
      · rw [if_neg e1, if_pos e2] at he
        have q1 := (hf j e2).2
        rw [← he, hn] at q1
        cases q1
      · omega
theorem layers_le {n : Nat} {L : Nat → Option Nat} (h3 : ∀ v k, v < n → L v = some (k + 1) → ∃ u, u < n ∧ L u = some k) {k v : Nat} (hv : v < n) (hk : L v = some k) : k + 1 ≤ n := by
  have hex : ∀ j, ∃ u, j ≤ k → u < n ∧ L u = some j := by
    intro j
    by_cases hj : j ≤ k
    · obtain ⟨u, h1, h2⟩ := Lay.full h3 k hv hk j hj
      exact ⟨u, fun _ => ⟨h1, h2⟩⟩
    · exact ⟨0, fun h => absurd h hj⟩
  obtain ⟨f, hf⟩ := Classical.axiomOfChoice hex
  refine pigeon n (k + 1) f (fun i hi => (hf i (by omega)).1) (fun i j hi hj he => ?_)
  have q1 := (hf i (by omega)).2
  have q2 := (hf j (by omega)).2
  rw [he, q2] at q1
  cases q1
  rfl
