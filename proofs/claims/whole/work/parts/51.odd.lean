/-! PURE: walks of an odd number -/
theorem least_ex {p : Nat → Prop} (h : ∃ k, p k) : ∃ k, p k ∧ ∀ j, j < k → ¬ p j := by
  have key : ∀ m, (∃ k, k ≤ m ∧ p k) → ∃ k, p k ∧ ∀ j, j < k → ¬ p j := by
    intro m
    induction m with
    | zero =>
      rintro ⟨k, h1, h2⟩
      have : k = 0 := by omega
      subst this
      exact ⟨0, h2, fun j hj => absurd hj (Nat.not_lt_zero j)⟩
    | succ m ih =>
      rintro ⟨k, h1, h2⟩
      by_cases g : ∃ k, k ≤ m ∧ p k
      · exact ih g
      · exact ⟨k, h2, fun j hj hp => g ⟨j, by omega, hp⟩⟩
  obtain ⟨k, hk⟩ := h
  exact key k ⟨k, Nat.le_refl k, hk⟩
/-- the least odd number of a walk that comes back -/
def oddL (n : Nat) (a : Nat → Nat → Bool) (o : Nat) : Prop := o % 2 = 1 ∧ (∃ v, v < n ∧ 0 < wk n a o v v) ∧ ∀ v j, v < n → j < o → j % 2 = 1 → wk n a j v v = 0
theorem oddL_ex {n : Nat} {a : Nat → Nat → Bool} {v k : Nat} (hv : v < n) (hk : k % 2 = 1) (h : 0 < wk n a k v v) : ∃ o, oddL n a o := by
  obtain ⟨o, ⟨h1, h2⟩, h3⟩ := least_ex (p := fun o => o % 2 = 1 ∧ ∃ v, v < n ∧ 0 < wk n a o v v) ⟨k, hk, v, hv, h⟩
  refine ⟨o, h1, h2, fun w j hw hj hj2 => ?_⟩
  rcases Nat.eq_zero_or_pos (wk n a j w w) with e | e
  · exact e
  · exact absurd ⟨hj2, w, hw, e⟩ (h3 j hj)
theorem wk_path {n : Nat} {a : Nat → Nat → Bool} : ∀ (m : Nat) {u v : Nat}, u < n → 0 < wk n a m u v → ∃ f : Nat → Nat, f 0 = u ∧ f m = v ∧ (∀ i, i ≤ m → f i < n) ∧ ∀ i, i < m → a (f i) (f (i + 1)) = true
  | 0, u, v, hu, h => ⟨fun _ => u, rfl, wk_pos0 h, fun _ _ => hu, fun i hi => absurd hi (Nat.not_lt_zero i)⟩
  | m + 1, u, v, hu, h => by
    obtain ⟨w, hw, h1, h2⟩ := wk_step_inv h
    obtain ⟨f, f0, f1, f2, f3⟩ := wk_path m hw h2
    refine ⟨fun i => if i = 0 then u else f (i - 1), if_pos rfl, ?_, fun i hi => ?_, fun i hi => ?_⟩
    · show (if m + 1 = 0 then u else f (m + 1 - 1)) = v
      rw [if_neg (by omega)]
      exact f1
    · show (if i = 0 then u else f (i - 1)) < n
      by_cases e : i = 0
      · rw [if_pos e]
        exact hu
      · rw [if_neg e]
        exact f2 _ (by omega)
    · show a (if i = 0 then u else f (i - 1)) (if i + 1 = 0 then u else f (i + 1 - 1)) = true
      rw [if_neg (by omega : ¬ i + 1 = 0), show i + 1 - 1 = i by omega]
      by_cases e : i = 0
      · subst e
        rw [if_pos rfl, f0]
        exact h1
      · rw [if_neg e]
        have := f3 (i - 1) (by omega)
        rw [show i - 1 + 1 = i by omega] at this
        exact this
theorem path_wk {n m : Nat} {a : Nat → Nat → Bool} {f : Nat → Nat} (h2 : ∀ i, i ≤ m → f i < n) (h3 : ∀ i, i < m → a (f i) (f (i + 1)) = true) : ∀ d i, i + d ≤ m → 0 < wk n a d (f i) (f (i + d))
  | 0, i, _ => by
    rw [wk_zero, Nat.add_zero, if_pos rfl]
    omega
  | d + 1, i, h => by
    have := path_wk h2 h3 d (i + 1) (by omega)
    rw [show i + 1 + d = i + (d + 1) by omega] at this
    exact wk_step (h2 (i + 1) (by omega)) (h3 i (by omega)) this
theorem odd_inj {n o : Nat} {a : Nat → Nat → Bool} {f : Nat → Nat} (ho : oddL n a o) (h1 : f o = f 0) (h2 : ∀ i, i ≤ o → f i < n) (h3 : ∀ i, i < o → a (f i) (f (i + 1)) = true) {i j : Nat} (hij : i < j) (hj : j < o) : f i ≠ f j := by
  intro e
  have c1 := path_wk h2 h3 (j - i) i (by omega)
  rw [show i + (j - i) = j by omega, ← e] at c1
  have c2 := path_wk h2 h3 (o - j) j (by omega)
  rw [show j + (o - j) = o by omega, h1] at c2
  have c3 := path_wk h2 h3 i 0 (by omega)
  rw [Nat.zero_add] at c3
  have c4 := wk_join (o - j) c2 c3
  rw [← e] at c4
  have p1 := ho.1
  rcases Nat.mod_two_eq_zero_or_one (j - i) with g | g
  · have := ho.2.2 (f i) (o - j + i) (h2 i (by omega)) (by omega) (by omega)
    omega
  · have := ho.2.2 (f i) (j - i) (h2 i (by omega)) (by omega) g
    omega
theorem odd_le {n o : Nat} {a : Nat → Nat → Bool} (ho : oddL n a o) : o ≤ n := by
  obtain ⟨v, hv, h⟩ := ho.2.1
  obtain ⟨f, f0, f1, f2, f3⟩ := wk_path o hv h
  refine pigeon n o f (fun i hi => f2 i (by omega)) (fun i j hi hj e => ?_)
  rcases Nat.lt_trichotomy i j with g | g | g
  · exact absurd e (odd_inj ho (f1.trans f0.symm) f2 f3 g hj)
  · exact g
  · exact absurd e.symm (odd_inj ho (f1.trans f0.symm) f2 f3 g hi)
theorem odd_3 {n o : Nat} {a : Nat → Nat → Bool} (hir : ∀ v, v < n → a v v = false) (ho : oddL n a o) : 3 ≤ o := by
  have h1 := ho.1
  rcases Nat.lt_or_ge o 3 with g | g
  · have : o = 1 := by omega
    subst this
    obtain ⟨v, hv, h⟩ := ho.2.1
    obtain ⟨w, hw, h2, h3⟩ := wk_step_inv h
    have := wk_pos0 h3
    subst this
    rw [hir w hw] at h2
    cases h2
  · exact g
theorem sc_cong {p q : Nat → Bool} {n d : Nat} (h : ∀ v, v < n → p v = q v) : ∀ i, i ≤ n → sc p n d i = sc q n d i
  | 0, _ => rfl
  | i + 1, hi => by rw [sc, sc, sc_cong h i (by omega), h (n - 1 - i) (by omega)]
/-- where the odd ring begins, and how it goes on -/
def fsp (n : Nat) (a : Nat → Nat → Bool) (o : Nat) : Nat := sc (fun v => decide (0 < wk n a o v v)) n 0 n
def rfn (n : Nat) (a : Nat → Nat → Bool) (o first k x : Nat) (v : Nat) : Bool := a x v && decide (0 < wk n a (o - k - 1) v first)
def rf (n : Nat) (a : Nat → Nat → Bool) (o first : Nat) : Nat → Nat
  | 0 => first
  | k + 1 => sc (rfn n a o first k (rf n a o first k)) n 0 n
theorem fsp_spec {n o : Nat} {a : Nat → Nat → Bool} (ho : oddL n a o) : fsp n a o < n ∧ 0 < wk n a o (fsp n a o) (fsp n a o) ∧ ∀ v, v < fsp n a o → wk n a o v v = 0 := by
  obtain ⟨v, hv, h⟩ := ho.2.1
  obtain ⟨g1, g2, g3, -⟩ := sc_spec (p := fun v => decide (0 < wk n a o v v)) (d := 0) hv (decide_eq_true h)
  refine ⟨g2, of_decide_eq_true g1, fun v hv => ?_⟩
  have := of_decide_eq_false (g3 v hv)
  omega
theorem rf_step {n o first k : Nat} {a : Nat → Nat → Bool} (h1 : rf n a o first k < n) (h2 : 0 < wk n a (o - k) (rf n a o first k) first) (hk : k < o) : rf n a o first (k + 1) < n ∧ a (rf n a o first k) (rf n a o first (k + 1)) = true ∧ 0 < wk n a (o - k - 1) (rf n a o first (k + 1)) first ∧ ∀ v, v < rf n a o first (k + 1) → rfn n a o first k (rf n a o first k) v = false := by
  obtain ⟨d, hd⟩ : ∃ d, o - k = d + 1 := ⟨o - k - 1, by omega⟩
  rw [hd] at h2
  obtain ⟨w, hw, h3, h4⟩ := wk_step_inv h2
  have hp : rfn n a o first k (rf n a o first k) w = true := by
    unfold rfn
    rw [h3, show o - k - 1 = d by omega, decide_eq_true h4]
    rfl
  obtain ⟨g1, g2, g3, -⟩ := sc_spec (p := rfn n a o first k (rf n a o first k)) (d := 0) hw hp
  have g1' : rfn n a o first k (rf n a o first k) (rf n a o first (k + 1)) = true := g1
  unfold rfn at g1'
  rw [Bool.and_eq_true] at g1'
  exact ⟨g2, g1'.1, of_decide_eq_true g1'.2, g3⟩
theorem rf_inv {n o first : Nat} {a : Nat → Nat → Bool} (hf : first < n) (h : 0 < wk n a o first first) : ∀ k, k ≤ o → rf n a o first k < n ∧ 0 < wk n a (o - k) (rf n a o first k) first
  | 0, _ => ⟨hf, h⟩
  | k + 1, hk => by
    obtain ⟨h1, h2⟩ := rf_inv hf h k (by omega)
    obtain ⟨g1, -, g3, -⟩ := rf_step h1 h2 (by omega)
    exact ⟨g1, by rw [show o - (k + 1) = o - k - 1 by omega]; exact g3⟩
theorem rf_a {n o first : Nat} {a : Nat → Nat → Bool} (hf : first < n) (h : 0 < wk n a o first first) {k : Nat} (hk : k < o) : a (rf n a o first k) (rf n a o first (k + 1)) = true := by
  obtain ⟨h1, h2⟩ := rf_inv hf h k (by omega)
  exact (rf_step h1 h2 hk).2.1
theorem rf_end {n o first : Nat} {a : Nat → Nat → Bool} (hf : first < n) (h : 0 < wk n a o first first) : rf n a o first o = first := by
  obtain ⟨-, h2⟩ := rf_inv hf h o (Nat.le_refl o)
  rw [Nat.sub_self] at h2
  exact wk_pos0 h2
theorem rf_inj {n o first : Nat} {a : Nat → Nat → Bool} (ho : oddL n a o) (hf : first < n) (h : 0 < wk n a o first first) {i j : Nat} (hij : i < j) (hj : j < o) : rf n a o first i ≠ rf n a o first j :=
  odd_inj ho (rf_end hf h) (fun i hi => (rf_inv hf h i hi).1) (fun i hi => rf_a hf h hi) hij hj
/-! the class's ring -/
theorem c_nb {n : Nat} {nN : Nat → Int32} (hn : n ≤ 12) (bits : Int32) : ∃ r, fX4_neighbours (nI n) nN bits = some r ∧ ∀ j, j < 32 → (bt r j = true ↔ ∃ u, u < n ∧ bt bits u = true ∧ bt (nN u) j = true) := by
  obtain ⟨e, h1, h2⟩ := p_cnt (step := sX4_neighbours_4 (nI n) nN bits) (fun i s => ∃ r, s = (r, nI i) ∧ ∀ j, j < 32 → (bt r j = true ↔ ∃ u, u < i ∧ bt bits u = true ∧ bt (nN u) j = true)) (fun e => ∀ j, j < 32 → (bt e.1 j = true ↔ ∃ u, u < n ∧ bt bits u = true ∧ bt (nN u) j = true)) n (fun i s hi hI => by
    obtain ⟨r, rfl, hI⟩ := hI
    have zi : zin (nI i) 12 := p_in (by omega) (by omega)
    dsimp only [sX4_neighbours_4]
    rw [if_neg (nI_ge hi (by omega)), p_hasBit bits (i := i) (by omega), ob]
    simp only [p_cl (i := i) (by omega)]
    cases hb : bt bits i with
    | false =>
      rw [if_neg p_ff, if_pos rfl, nI_1]
      refine ⟨_, rfl, r, rfl, fun j hj => ?_⟩
      rw [hI j hj]
      constructor
      · rintro ⟨u, g1, g2⟩
        exact ⟨u, by omega, g2⟩
      · rintro ⟨u, g1, g2, g3⟩
        refine ⟨u, ?_, g2, g3⟩
        by_cases e : u = i
        · subst e
          rw [hb] at g2
          cases g2
        · omega
    | true =>
      rw [if_pos p_tt, if_neg (by decide), if_pos zi, nI_1]
      refine ⟨_, rfl, _, rfl, fun j hj => ?_⟩
      rw [b_or, Bool.or_eq_true, hI j hj]
      constructor
      · rintro (⟨u, g1, g2⟩ | g)
        · exact ⟨u, by omega, g2⟩
        · exact ⟨i, by omega, hb, g⟩
      · rintro ⟨u, g1, g2, g3⟩
        by_cases e : u = i
        · subst e
          exact Or.inr g3
        · exact Or.inl ⟨u, by omega, g2, g3⟩) (fun s hI => by
    obtain ⟨r, rfl, hI⟩ := hI
    refine ⟨(r, nI n), ?_, hI⟩
    dsimp only [sX4_neighbours_4]
    rw [if_pos (nI_le (Nat.le_refl n) (by omega))]) (by omega : n < 32) (s := (0, 0)) ⟨0, rfl, fun j hj => by
      rw [b_0]
      constructor
      · intro g
        cases g
      · rintro ⟨u, g, -⟩
        omega⟩
  unfold fX4_neighbours
  rw [h1, ob]
  exact ⟨_, rfl, h2⟩
theorem c_reach {n first steps : Nat} {nN : Nat → Int32} (hN : nOK n nN) (hf : first < n) (hst : steps ≤ 12) (oX : Nat → Int32) : ∃ X, fX4_reachBack oX (nI n) nN (nI first) (nI steps) = some X ∧ ∀ k, k ≤ steps → ∀ j, j < 32 → (bt (X k) j = true ↔ j < n ∧ 0 < wk n (zA nN) k j first) := by
  have hn := hN.1
  have h0 : (0 : Int32).toNatClampNeg = 0 := rfl
  obtain ⟨e, h1, h2⟩ := p_cnt (step := sX4_reachBack_12 (nI n) nN (nI steps)) (fun i s => ∃ X, s = (nI (i + 1), X) ∧ ∀ k, k ≤ i → ∀ j, j < 32 → (bt (X k) j = true ↔ j < n ∧ 0 < wk n (zA nN) k j first)) (fun e => ∀ k, k ≤ steps → ∀ j, j < 32 → (bt (e.2 k) j = true ↔ j < n ∧ 0 < wk n (zA nN) k j first)) steps (fun i s hi hI => by
    obtain ⟨X, rfl, hI⟩ := hI
    dsimp only [sX4_reachBack_12]
    rw [if_neg (nI_nlt (a := steps) (b := i + 1) (by omega) (by omega)), if_neg (q12l (i := i + 1) (by omega)), nI_pred, if_pos (p_in (n := 13) (by omega) (by omega))]
    simp only [p_cl (i := i) (by omega), p_cl (i := i + 1) (by omega)]
    obtain ⟨r, g1, g2⟩ := c_nb (nN := nN) hn (X i)
    rw [g1, ob, if_pos (p_in (n := 13) (by omega) (by omega)), nI_1]
    refine ⟨_, rfl, _, rfl, fun k hk j hj => ?_⟩
    by_cases e : k = i + 1
    · subst e
      rw [pk_us, g2 j hj]
      constructor
      · rintro ⟨u, u1, u2, u3⟩
        have u4 := (hI i (Nat.le_refl i) u (by omega)).mp u2
        have hjn : j < n := by
          rcases Nat.lt_or_ge j n with g | g
          · exact g
          · rw [hN.2.1 u u1 j g] at u3
            cases u3
        refine ⟨hjn, wk_step u1 ?_ u4.2⟩
        rw [hN.2.2.1 j u hjn u1]
        exact u3
      · rintro ⟨hjn, g⟩
        obtain ⟨w, w1, w2, w3⟩ := wk_step_inv g
        refine ⟨w, w1, (hI i (Nat.le_refl i) w (by omega)).mpr ⟨w1, w3⟩, ?_⟩
        rw [hN.2.2.1 j w hjn w1] at w2
        exact w2
    · rw [pk_un e]
      exact hI k (by omega) j hj) (fun s hI => by
    obtain ⟨X, rfl, hI⟩ := hI
    refine ⟨(nI (steps + 1), X), ?_, hI⟩
    dsimp only [sX4_reachBack_12]
    rw [if_pos (nI_lt (by omega) (by omega))]) (by omega : steps < 32) (s := (1, upd oX 0 ((1 : Int32) <<< (nI first &&& 31)))) ⟨_, rfl, fun k hk j hj => by
      have : k = 0 := by omega
      subst this
      rw [pk_us, b_shl first (by omega) 1 hj, wk_zero, Bool.and_eq_true, decide_eq_true_eq]
      constructor
      · rintro ⟨g1, g2⟩
        rw [b_1 _ (by omega), decide_eq_true_eq] at g2
        have : j = first := by omega
        subst this
        exact ⟨hf, by rw [if_pos rfl]; omega⟩
      · rintro ⟨g1, g2⟩
        by_cases e : j = first
        · subst e
          refine ⟨Nat.le_refl j, ?_⟩
          rw [Nat.sub_self, b_1 0 (by omega)]
          rfl
        · rw [if_neg e] at g2
          omega⟩
  unfold fX4_reachBack
  rw [if_pos (show zin 0 13 from p_in (i := 0) (n := 13) (by omega) (by omega)), h0, h1, ob]
  exact ⟨_, rfl, h2⟩
theorem c_least {n : Nat} {bits : Int32} {p : Nat → Bool} (hn : n ≤ 12) (hp : ∀ v, v < n → bt bits v = p v) (h1 : p (sc p n 0 n) = true) (h2 : sc p n 0 n < n) (h3 : ∀ v, v < sc p n 0 n → p v = false) : fX4_least (nI n) bits = some (nI (sc p n 0 n)) := by
  have hnp : nI n - 1 = nI (n - 1) := by
    obtain ⟨n', rfl⟩ : ∃ n', n = n' + 1 := ⟨n - 1, by omega⟩
    exact nI_pred n'
  have h : zloop (sX4_least_2 (nI n) bits) 32 0 = some (nI (sc p n 0 n)) := by
    refine p_for (fun i => nI i) (sc p n 0 n) (fun i hi => ?_) ?_ (by omega) rfl
    · dsimp only [sX4_least_2]
      rw [hnp, if_neg (nI_ge (a := i) (b := n - 1) (by omega) (by omega)), p_hasBit bits (i := i) (by omega), ob, hp i (by omega), h3 i hi, if_neg p_ff, if_pos rfl, nI_1]
    · dsimp only [sX4_least_2]
      by_cases hl : n - 1 ≤ sc p n 0 n
      · rw [hnp, if_pos (nI_le hl (by omega))]
      · rw [hnp, if_neg (nI_ge (a := sc p n 0 n) (b := n - 1) (by omega) (by omega)), p_hasBit bits (i := sc p n 0 n) (by omega), ob, hp _ h2, h1, if_pos p_tt, if_neg (by decide)]
  unfold fX4_least
  rw [h, ob]
theorem c_follow {n first o : Nat} {nN X : Nat → Int32} (hN : nOK n nN) (hf : first < n) (ho : o ≤ 12) (hw : 0 < wk n (zA nN) o first first) (hX : ∀ k, k ≤ o → ∀ j, j < 32 → (bt (X k) j = true ↔ j < n ∧ 0 < wk n (zA nN) k j first)) (oR : Nat → Int32) : ∃ R, fX4_follow oR X (nI n) nN (nI first) (nI o) = some (nI o, R) ∧ ∀ i, i < o → R i = nI (rf n (zA nN) o first i) := by
  have hn := hN.1
  obtain ⟨e, h1, h2⟩ := p_cnt (step := sX4_follow_6 X (nI n) nN (nI o)) (fun k s => ∃ R, s = (nI (rf n (zA nN) o first k), nI k, R) ∧ ∀ i, i < k → R i = nI (rf n (zA nN) o first i)) (fun e => ∀ i, i < o → e.2.2 i = nI (rf n (zA nN) o first i)) o (fun k s hk hI => by
    obtain ⟨R, rfl, hI⟩ := hI
    obtain ⟨g1, g2⟩ := rf_inv hf hw k (by omega)
    obtain ⟨g3, g4, g5, g6⟩ := rf_step g1 g2 hk
    have zh : zin (nI (rf n (zA nN) o first k)) 12 := p_in (by omega) (by omega)
    have zk : zin (nI k) 12 := p_in (by omega) (by omega)
    have hs : nI o - nI k - 1 = nI (o - k - 1) := by
      rw [pk_sub (by omega)]
      obtain ⟨d, hd⟩ : ∃ d, o - k = d + 1 := ⟨o - k - 1, by omega⟩
      rw [hd, nI_pred, Nat.add_sub_cancel]
    dsimp only [sX4_follow_6]
    rw [if_neg (nI_ge hk (by omega)), if_neg (q12n (i := k) (by omega)), if_pos zk, if_pos zh, hs, if_pos (p_in (n := 13) (by omega) (by omega))]
    simp only [p_cl (i := k) (by omega), p_cl (i := rf n (zA nN) o first k) (by omega), p_cl (i := o - k - 1) (by omega)]
    have hl := c_least (bits := nN (rf n (zA nN) o first k) &&& X (o - k - 1)) (p := rfn n (zA nN) o first k (rf n (zA nN) o first k)) hn (fun v hv => by
      rw [b_and]
      unfold rfn
      congr 1
      apply b_ext2
      rw [hX (o - k - 1) (by omega) v (by omega), decide_eq_true_eq]
      exact ⟨fun g => g.2, fun g => ⟨hv, g⟩⟩) (by
        show rfn n (zA nN) o first k (rf n (zA nN) o first k) (rf n (zA nN) o first (k + 1)) = true
        unfold rfn
        rw [g4, decide_eq_true g5]
        rfl) g3 g6
    rw [hl, ob, nI_1]
    refine ⟨_, rfl, _, rfl, fun i hi => ?_⟩
    by_cases e : i = k
    · subst e
      exact pk_us
    · rw [pk_un e]
      exact hI i (by omega)) (fun s hI => by
    obtain ⟨R, rfl, hI⟩ := hI
    refine ⟨(nI (rf n (zA nN) o first o), nI o, R), ?_, hI⟩
    dsimp only [sX4_follow_6]
    rw [if_pos (nI_le (Nat.le_refl o) (by omega))]) (by omega : o < 32) (s := (nI first, 0, oR)) ⟨oR, rfl, fun i hi => absurd hi (Nat.not_lt_zero i)⟩
  unfold fX4_follow
  rw [h1, ob]
  exact ⟨_, rfl, h2⟩
theorem c_find1 {n steps first : Nat} {nN X : Nat → Int32} (hN : nOK n nN) (hf : first < n) (hst : steps ≤ 12) (oR X0 : Nat → Int32) : ∃ Y, (∀ k, k ≤ steps → ∀ j, j < 32 → (bt (Y k) j = true ↔ j < n ∧ 0 < wk n (zA nN) k j first)) ∧ ((wk n (zA nN) steps first first = 0 ∧ sX4_find_17 oR (nI n) nN (nI steps, X0) (nI first, X) = some (.inr (nI (first + 1), Y))) ∨ (0 < wk n (zA nN) steps first first ∧ sX4_find_17 oR (nI n) nN (nI steps, X0) (nI first, X) = (fX4_follow oR Y (nI n) nN (nI first) (nI steps)).bind fun v45 => some (.inl (.inl (v45.1, v45.2, Y))))) := by
  have hn := hN.1
  obtain ⟨Y, g1, g2⟩ := c_reach hN hf hst X
  refine ⟨Y, g2, ?_⟩
  have hb := g2 steps (Nat.le_refl _) first (by omega)
  dsimp only [sX4_find_17]
  rw [if_neg (nI_ge hf (by omega)), g1, ob, if_pos (p_in (n := 13) (by omega) (by omega))]
  simp only [p_cl (i := steps) (by omega)]
  rw [p_hasBit (Y steps) (i := first) (by omega), ob]
  rcases Nat.eq_zero_or_pos (wk n (zA nN) steps first first) with e | e
  · refine Or.inl ⟨e, ?_⟩
    rw [if_neg (show ¬ (bt (Y steps) first = true) from fun g => by have := (hb.mp g).2; omega), if_pos rfl, nI_1]
  · refine Or.inr ⟨e, ?_⟩
    rw [if_pos (show bt (Y steps) first = true from hb.mpr ⟨hf, e⟩), if_neg (by decide)]
theorem c_find {n o : Nat} {nN : Nat → Int32} (hN : nOK n nN) (ho : oddL n (zA nN) o) (oR oX : Nat → Int32) : ∃ R X, fX4_find oR oX (nI n) nN = some (nI o, R, X) ∧ ∀ i, i < o → R i = nI (rf n (zA nN) o (fsp n (zA nN) o) i) := by
  have hn := hN.1
  have hon := odd_le ho
  have ho3 := odd_3 hN.2.2.2 ho
  have hop := ho.1
  obtain ⟨f1, f2, f3⟩ := fsp_spec ho
  obtain ⟨e, h1, h2⟩ := p_inv (step := sX4_find_7 oR (nI n) nN) (fun i s => i ≤ (o - 3) / 2 ∧ ∃ X, s = (nI (3 + 2 * i), X)) (fun e => ∃ R X, e = .inl (nI o, R, X) ∧ ∀ i, i < o → R i = nI (rf n (zA nN) o (fsp n (zA nN) o) i)) 6 (fun i s hi hI => by
    obtain ⟨hi2, X, rfl⟩ := hI
    have hle : 3 + 2 * i ≤ o := by omega
    dsimp only [sX4_find_7]
    rw [if_neg (nI_nlt (a := n) (b := 3 + 2 * i) (by omega) (by omega))]
    by_cases hio : 3 + 2 * i = o
    · refine Or.inl ?_
      rw [hio]
      obtain ⟨e, k1, k2⟩ := p_inv (step := sX4_find_17 oR (nI n) nN (nI o, X)) (fun v s => v ≤ fsp n (zA nN) o ∧ ∃ X, s = (nI v, X)) (fun e => ∃ R X, e = .inl (nI o, R, X) ∧ ∀ i, i < o → R i = nI (rf n (zA nN) o (fsp n (zA nN) o) i)) 12 (fun v s hv hI => by
        obtain ⟨hv2, X1, rfl⟩ := hI
        obtain ⟨Y, y1, y2⟩ := c_find1 (steps := o) (first := v) (X := X1) hN (by omega) (by omega) oR X
        by_cases e : v = fsp n (zA nN) o
        · subst e
          rcases y2 with ⟨y2, -⟩ | ⟨-, y3⟩
          · omega
          · obtain ⟨R, r1, r2⟩ := c_follow hN f1 (by omega) f2 y1 oR
            refine Or.inl ⟨.inl (nI o, R, Y), ?_, R, Y, rfl, r2⟩
            rw [y3, r1, ob]
        · have hz := f3 v (by omega)
          rcases y2 with ⟨-, y3⟩ | ⟨y3, -⟩
          · exact Or.inr ⟨by omega, _, y3, by omega, Y, rfl⟩
          · omega) (by omega : 12 < 32) (s := (0, X)) ⟨Nat.zero_le _, X, rfl⟩
      obtain ⟨R, Y, rfl, k3⟩ := k2
      rw [k1, ob]
      exact ⟨.inl (nI o, R, Y), rfl, R, Y, rfl, k3⟩
    · refine Or.inr ⟨by omega, ?_⟩
      obtain ⟨e, k1, k2⟩ := p_cnt (step := sX4_find_17 oR (nI n) nN (nI (3 + 2 * i), X)) (fun v s => ∃ X, s = (nI v, X)) (fun e => ∃ z, e = .inr z) n (fun v s hv hI => by
        obtain ⟨X1, rfl⟩ := hI
        obtain ⟨Y, y1, y2⟩ := c_find1 (steps := 3 + 2 * i) (first := v) (X := X1) hN hv (by omega) oR X
        have hz := ho.2.2 v (3 + 2 * i) hv (by omega) (by omega)
        rcases y2 with ⟨-, y3⟩ | ⟨y3, -⟩
        · exact ⟨_, y3, Y, rfl⟩
        · omega) (fun s hI => by
        obtain ⟨X1, rfl⟩ := hI
        refine ⟨.inr (nI n, X1), ?_, _, rfl⟩
        dsimp only [sX4_find_17]
        rw [if_pos (nI_le (Nat.le_refl n) (by omega))]) (by omega : n < 32) (s := (0, X)) ⟨X, rfl⟩
      obtain ⟨z, rfl⟩ := k2
      rw [k1, ob]
      refine ⟨(nI (3 + 2 * (i + 1)), z.2), ?_, by omega, z.2, rfl⟩
      show some (Sum.inr (nI (3 + 2 * i) + 2, z.2)) = _
      rw [show nI (3 + 2 * i) + 2 = nI (3 + 2 * i) + nI 2 from rfl, nI_add, show 3 + 2 * i + 2 = 3 + 2 * (i + 1) by omega]) (by omega : 6 < 32) (s := (3, oX)) ⟨by omega, oX, rfl⟩
  obtain ⟨R, X, rfl, h3⟩ := h2
  unfold fX4_find
  rw [h1, ob]
  exact ⟨R, X, rfl, h3⟩
