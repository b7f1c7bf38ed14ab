/-! PURE: parts and colours -/
theorem reach_refl {n u : Nat} {a : Nat → Nat → Bool} (hu : u < n) : bD n a u u = some 0 := (bF_lay hu).1
theorem reach_of_wk {n u v k : Nat} {a : Nat → Nat → Bool} (hu : u < n) (hv : v < n) (h : 0 < wk n a k u v) : (bD n a u v).isSome = true := by
  obtain ⟨j, -, h2⟩ := (bF_lay hu).least hu k hv h
  show ((bF n a u).2.1 v).isSome = true
  rw [h2]
  rfl
theorem reach_wk {n u v : Nat} {a : Nat → Nat → Bool} (hu : u < n) (hv : v < n) (h : (bD n a u v).isSome = true) : ∃ k, 0 < wk n a k u v := by
  cases e : bD n a u v with
  | none =>
    rw [e] at h
    cases h
  | some k => exact ⟨k, (bF_lay hu).walk hu k hv e⟩
theorem reach_sym {n u v : Nat} {a : Nat → Nat → Bool} (hs : Gsym n a) (hu : u < n) (hv : v < n) (h : (bD n a u v).isSome = true) : (bD n a v u).isSome = true := by
  obtain ⟨k, h1⟩ := reach_wk hu hv h
  rw [wk_sym hs k hu hv] at h1
  exact reach_of_wk hv hu h1
theorem reach_trans {n u v w : Nat} {a : Nat → Nat → Bool} (hu : u < n) (hv : v < n) (hw : w < n) (h1 : (bD n a u v).isSome = true) (h2 : (bD n a v w).isSome = true) : (bD n a u w).isSome = true := by
  obtain ⟨i, h3⟩ := reach_wk hu hv h1
  obtain ⟨j, h4⟩ := reach_wk hv hw h2
  exact reach_of_wk hu hw (wk_join i h3 h4)
/-- the least below n that has p, by going down; d if none has -/
def sc (p : Nat → Bool) (n d : Nat) : Nat → Nat
  | 0 => d
  | i + 1 => if p (n - 1 - i) = true then n - 1 - i else sc p n d i
theorem sc_inv {p : Nat → Bool} {n d : Nat} : ∀ i, i ≤ n → (∃ v, n - i ≤ v ∧ v < n ∧ p v = true) → p (sc p n d i) = true ∧ n - i ≤ sc p n d i ∧ sc p n d i < n ∧ ∀ v, n - i ≤ v → v < sc p n d i → p v = false
  | 0, _, ⟨v, h1, h2, _⟩ => by omega
  | i + 1, hi, ⟨v, h1, h2, h3⟩ => by
    rw [sc]
    by_cases h : p (n - 1 - i) = true
    · rw [if_pos h]
      exact ⟨h, by omega, by omega, fun v h4 h5 => by omega⟩
    · rw [if_neg h]
      have hv : v ≠ n - 1 - i := fun e => by
        subst e
        exact h h3
      obtain ⟨g1, g2, g3, g4⟩ := sc_inv (d := d) i (by omega) ⟨v, by omega, h2, h3⟩
      refine ⟨g1, by omega, g3, fun w h4 h5 => ?_⟩
      by_cases hw : w = n - 1 - i
      · subst hw
        cases hb : p (n - 1 - i)
        · rfl
        · exact absurd hb h
      · exact g4 w (by omega) h5
theorem sc_spec {p : Nat → Bool} {n d v : Nat} (hv : v < n) (h : p v = true) : p (sc p n d n) = true ∧ sc p n d n < n ∧ (∀ v, v < sc p n d n → p v = false) ∧ sc p n d n ≤ v := by
  obtain ⟨g1, g2, g3, g4⟩ := sc_inv (p := p) (d := d) n (Nat.le_refl n) ⟨v, by omega, hv, h⟩
  refine ⟨g1, g3, fun w hw => g4 w (by omega) hw, ?_⟩
  rcases Nat.lt_or_ge v (sc p n d n) with g | g
  · have := g4 v (by omega) g
    rw [h] at this
    cases this
  · exact g
/-- the least place of a part -/
def hd (n : Nat) (a : Nat → Nat → Bool) (u : Nat) : Nat := sc (fun v => (bD n a u v).isSome) n u n
theorem hd_spec {n u : Nat} {a : Nat → Nat → Bool} (hu : u < n) : (bD n a u (hd n a u)).isSome = true ∧ hd n a u < n ∧ hd n a u ≤ u ∧ ∀ v, v < n → (bD n a u v).isSome = true → hd n a u ≤ v := by
  have h := sc_spec (p := fun v => (bD n a u v).isSome) (d := u) hu (by show (bD n a u u).isSome = true; rw [reach_refl hu]; rfl)
  refine ⟨h.1, h.2.1, h.2.2.2, fun v hv hr => ?_⟩
  exact (sc_spec (p := fun v => (bD n a u v).isSome) (d := u) hv hr).2.2.2
theorem hd_eq {n u v : Nat} {a : Nat → Nat → Bool} (hs : Gsym n a) (hu : u < n) (hv : v < n) (h : (bD n a u v).isSome = true) : hd n a u = hd n a v := by
  obtain ⟨a1, a2, a3, a4⟩ := hd_spec (a := a) hu
  obtain ⟨b1, b2, b3, b4⟩ := hd_spec (a := a) hv
  have h1 := a4 _ b2 (reach_trans hu hv b2 h b1)
  have h2 := b4 _ a2 (reach_trans hv hu a2 (reach_sym hs hu hv h) a1)
  omega
theorem hd_iff {n u m : Nat} {a : Nat → Nat → Bool} (hs : Gsym n a) (hm : m < n) (hmm : hd n a m = m) (hu : u < n) : hd n a u = m ↔ (bD n a m u).isSome = true := by
  constructor
  · intro e
    have h := (hd_spec (a := a) hu).1
    rw [e] at h
    exact reach_sym hs hu hm h
  · intro h
    rw [← hd_eq hs hm hu h, hmm]
theorem hd_hd {n u m : Nat} {a : Nat → Nat → Bool} (hs : Gsym n a) (hu : u < n) (h : hd n a u = m) : hd n a m = m := by
  have h1 := hd_spec (a := a) hu
  rw [h] at h1
  rw [← hd_eq hs hu h1.2.1 h1.1, h]
theorem r_head {n u : Nat} {a : Nat → Nat → Bool} {mJ : Nat → Nat → Int32} (hn : n ≤ 12) (hJ : mJR n a mJ) (hu : u < n) : fX6_head (nI n) mJ (nI u) = some (nI (hd n a u)) := by
  obtain ⟨len, h1, h2⟩ := r_lengths (so := some u) hn hJ (fun s' e => by cases e; exact hu)
  have h3 : zloop (sX6_head_16 len) 32 (nI u, dI n) = some (nI (hd n a u), dI 0) := by
    refine p_for (fun i => (nI (sc (fun v => (bD n a u v).isSome) n u i), dI (n - i))) n (fun i hi => ?_) ?_ (by omega) rfl
    · obtain ⟨q, hq⟩ : ∃ q, n - i = q + 1 := ⟨n - i - 1, by omega⟩
      have e : len q = enc (bD n a u q) := h2 q (by omega)
      dsimp only [sX6_head_16]
      rw [hq, show n - (i + 1) = q by omega, if_neg (show ¬ dI (q + 1) < 0 from nI_pos (n := q) (by omega)), dI_pred, show dI (q + 1) = nI q from rfl, if_pos (p_in (by omega) (by omega))]
      simp only [p_cl (i := q) (by omega)]
      rw [e, sc, show n - 1 - i = q by omega]
      cases hb : bD n a u q with
      | none =>
        rw [if_pos enc_n, if_neg (by decide)]
      | some k =>
        have := bD_le hu (by omega) hb
        rw [if_neg (enc_m1 (k := k) (by omega)), if_pos (show (some k).isSome = true from rfl)]
    · rw [Nat.sub_self]
      dsimp only [sX6_head_16]
      rw [if_pos (by decide)]
      rfl
  unfold fX6_head
  rw [show fX6_lengths (nI n) mJ (nI u) = some len from h1, ob, dI_sub, h3, ob]
def prt (n : Nat) (a : Nat → Nat → Bool) (m : Nat) : Nat := pct (fun k => decide (hd n a k = k)) m
theorem r_parts {n : Nat} {a : Nat → Nat → Bool} {mJ : Nat → Nat → Int32} (hn : n ≤ 12) (hJ : mJR n a mJ) : fX6_parts (nI n) mJ = some (nI (prt n a n), 0) := by
  have h : zloop (sX6_parts_9 (nI n) mJ) 32 (0, 0) = some (nI (prt n a n), nI n) := by
    refine p_for (fun k => (nI (prt n a k), nI k)) n (fun k hk => ?_) ?_ (by omega) rfl
    · have hh := (hd_spec (a := a) hk).2.1
      dsimp only [sX6_parts_9]
      rw [if_neg (nI_ge hk (by omega)), r_head hn hJ hk, ob]
      show _ = some (Sum.inr (nI (prt n a k + (if decide (hd n a k = k) = true then 1 else 0)), nI (k + 1)))
      by_cases e : hd n a k = k
      · rw [if_pos (by rw [e]), nI_1, nI_1, if_pos (decide_eq_true e)]
      · rw [if_neg (fun g => e ((p_eq (by omega) (by omega)).mp g)), nI_z, nI_1, if_neg (by rw [decide_eq_false e]; decide)]
        try rfl
    · dsimp only [sX6_parts_9]
      rw [if_pos (nI_le (Nat.le_refl n) (by omega))]
  unfold fX6_parts
  rw [h, ob]
/-- the only colour that a place can have -/
def tin (n : Nat) (a : Nat → Nat → Bool) (v : Nat) : Nat := (bD n a (hd n a v) v).getD 0 % 2
theorem and1 : ∀ k, k < 12 → (nI k &&& 1) = nI (k % 2) := by decide
theorem c_paintPart {n : Nat} {L : Nat → Option Nat} {cT yL : Nat → Int32} (hn : n ≤ 12) (hL : ∀ v, v < n → yL v = enc (L v)) (hlt : ∀ v k, v < n → L v = some k → k < 12) : ∃ T, fX1_paintPart cT (nI n) yL = some T ∧ ∀ v, v < n → T v = match L v with | none => cT v | some k => nI (k % 2) := by
  obtain ⟨e, h1, h2⟩ := p_cnt (step := sX1_paintPart_2 (nI n) yL) (fun i s => ∃ T, s = (nI i, T) ∧ ∀ v, v < n → T v = if v < i then (match L v with | none => cT v | some k => nI (k % 2)) else cT v) (fun e => ∀ v, v < n → e.2 v = match L v with | none => cT v | some k => nI (k % 2)) n (fun i s hi hI => by
    obtain ⟨T, rfl, hI⟩ := hI
    have zi : zin (nI i) 12 := p_in (by omega) (by omega)
    dsimp only [sX1_paintPart_2]
    simp only [p_cl (i := i) (by omega)]
    rw [if_neg (nI_ge hi (by omega)), if_pos zi, hL i hi]
    cases hb : L i with
    | none =>
      rw [if_pos enc_n, nI_1]
      refine ⟨_, rfl, _, rfl, fun v hv => ?_⟩
      rw [hI v hv]
      by_cases hvi : v = i
      · subst hvi
        rw [if_neg (Nat.lt_irrefl v), if_pos (Nat.lt_succ_self v), hb]
      · by_cases g : v < i
        · rw [if_pos g, if_pos (by omega)]
        · rw [if_neg g, if_neg (by omega)]
    | some k =>
      have := hlt i k hi hb
      rw [if_neg (enc_m1 (k := k) (by omega)), if_pos zi, if_pos zi, nI_1, show enc (some k) = nI k from rfl, and1 k this]
      refine ⟨_, rfl, _, rfl, fun v hv => ?_⟩
      by_cases hvi : v = i
      · subst hvi
        rw [pk_us, if_pos (Nat.lt_succ_self v), hb]
      · rw [pk_un hvi, hI v hv]
        by_cases g : v < i
        · rw [if_pos g, if_pos (by omega)]
        · rw [if_neg g, if_neg (by omega)]) (fun s hI => by
    obtain ⟨T, rfl, hI⟩ := hI
    refine ⟨(nI n, T), ?_, fun v hv => ?_⟩
    · dsimp only [sX1_paintPart_2]
      rw [if_pos (nI_le (Nat.le_refl n) (by omega))]
    · show T v = _
      rw [hI v hv, if_pos hv]) (by omega : n < 32) (s := (0, cT)) ⟨cT, rfl, fun v hv => by rw [if_neg (Nat.not_lt_zero v)]⟩
  unfold fX1_paintPart
  rw [h1, ob]
  exact ⟨_, rfl, h2⟩
/-- unlike colours at each street -/
def unl (n : Nat) (a : Nat → Nat → Bool) (T : Nat → Int32) (i j : Nat) : Prop := i < n → j < i → a i j = true → T i ≠ T j
theorem c_unl1 {n i : Nat} {nN T : Nat → Int32} (hn : n ≤ 12) (hi : i < n) : ∃ e, zloop (sX1_areUnlike_12 T nN (nI i)) 32 0 = some e ∧ ((∃ x, e = .inr x ∧ ∀ j, unl n (zA nN) T i j) ∨ (e = .inl 0 ∧ ∃ j, ¬ unl n (zA nN) T i j)) := by
  refine p_inv (step := sX1_areUnlike_12 T nN (nI i)) (fun m s => s = nI m ∧ ∀ j, j < m → unl n (zA nN) T i j) (fun e => (∃ x, e = .inr x ∧ ∀ j, unl n (zA nN) T i j) ∨ (e = .inl 0 ∧ ∃ j, ¬ unl n (zA nN) T i j)) i (fun m s hm hI => ?_) (by omega) ⟨rfl, fun j hj => absurd hj (Nat.not_lt_zero j)⟩
  obtain ⟨rfl, hI⟩ := hI
  by_cases h : m = i
  · subst h
    refine Or.inl ⟨.inr (nI m), ?_, Or.inl ⟨_, rfl, fun j => ?_⟩⟩
    · dsimp only [sX1_areUnlike_12]
      rw [if_pos (nI_le (Nat.le_refl m) (by omega))]
    · intro g1 g2 g3
      exact hI j g2 g1 g2 g3
  · have hmi : m < i := by omega
    have zi : zin (nI i) 12 := p_in (by omega) (by omega)
    have zm : zin (nI m) 12 := p_in (by omega) (by omega)
    dsimp only [sX1_areUnlike_12]
    rw [if_neg (nI_ge hmi (by omega))]
    cases ha : bt (nN i) m with
    | false =>
      rw [p_joins0 (by omega) (by omega) ha, ob, if_pos rfl, nI_1]
      refine Or.inr ⟨hmi, _, rfl, rfl, fun j hj => ?_⟩
      by_cases hjm : j = m
      · subst hjm
        intro _ _ g3
        have g3 : bt (nN i) j = true := g3
        rw [ha] at g3
        cases g3
      · exact hI j (by omega)
    | true =>
      rw [p_joins1 (by omega) (by omega) ha, ob, if_neg (by decide), if_pos zi, if_pos zm]
      simp only [p_cl (i := i) (by omega), p_cl (i := m) (by omega)]
      by_cases hT : T i = T m
      · rw [if_pos hT]
        exact Or.inl ⟨_, rfl, Or.inr ⟨rfl, m, fun g => g hi hmi ha hT⟩⟩
      · rw [if_neg hT, nI_1]
        refine Or.inr ⟨hmi, _, rfl, rfl, fun j hj => ?_⟩
        by_cases hjm : j = m
        · subst hjm
          exact fun _ _ _ => hT
        · exact hI j (by omega)
theorem c_unl {n : Nat} {nN T : Nat → Int32} (hn : n ≤ 12) : (fX1_areUnlike T (nI n) nN = some 1 ∧ ∀ i j, unl n (zA nN) T i j) ∨ (fX1_areUnlike T (nI n) nN = some 0 ∧ ∃ i j, ¬ unl n (zA nN) T i j) := by
  obtain ⟨e, h1, h2⟩ := p_inv (step := sX1_areUnlike_2 T (nI n) nN) (fun m s => s = nI m ∧ ∀ i j, i < m → unl n (zA nN) T i j) (fun e => (∃ x, e = .inr x ∧ ∀ i j, unl n (zA nN) T i j) ∨ (e = .inl 0 ∧ ∃ i j, ¬ unl n (zA nN) T i j)) n (fun m s hm hI => by
    obtain ⟨rfl, hI⟩ := hI
    by_cases h : m = n
    · subst h
      refine Or.inl ⟨.inr (nI m), ?_, Or.inl ⟨_, rfl, fun i j => ?_⟩⟩
      · dsimp only [sX1_areUnlike_2]
        rw [if_pos (nI_le (Nat.le_refl m) (by omega))]
      · intro g1 g2 g3
        exact hI i j g1 g1 g2 g3
    · have hmn : m < n := by omega
      dsimp only [sX1_areUnlike_2]
      rw [if_neg (nI_ge hmn (by omega))]
      obtain ⟨e, h1, h2⟩ := c_unl1 (T := T) (nN := nN) hn hmn
      rw [h1, ob]
      rcases h2 with ⟨x, rfl, h2⟩ | ⟨rfl, j, h2⟩
      · refine Or.inr ⟨hmn, nI (m + 1), ?_, rfl, fun i j hi => ?_⟩
        · rw [← nI_1]
          rfl
        · by_cases him : i = m
          · subst him
            exact h2 j
          · exact hI i j (by omega)
      · exact Or.inl ⟨.inl 0, rfl, Or.inr ⟨rfl, m, j, h2⟩⟩) (by omega : n < 32) (s := 0) ⟨rfl, fun i j hi => absurd hi (Nat.not_lt_zero i)⟩
  unfold fX1_areUnlike
  rw [h1, ob]
  rcases h2 with ⟨x, rfl, h2⟩ | ⟨rfl, h2⟩
  · exact Or.inl ⟨rfl, h2⟩
  · exact Or.inr ⟨rfl, h2⟩
/-- what painting leaves -/
def pR (n : Nat) (nN : Nat → Int32) (r : Int32 × Int32 × (Nat → Int32) × Int32 × (Nat → Int32) × (Nat → Int32) × (Nat → Int32)) : Prop := r.1 = nI (prt n (zA nN) n) ∧ (∀ v, v < n → r.2.2.1 v = nI (tin n (zA nN) v)) ∧ ((r.2.1 = 1 ∧ ∀ i j, unl n (zA nN) r.2.2.1 i j) ∨ (r.2.1 = 0 ∧ ∃ i j, ¬ unl n (zA nN) r.2.2.1 i j))
theorem c_paint {n : Nat} {nN : Nat → Int32} (hn : n ≤ 12) (hs : Gsym n (zA nN)) (cT : Nat → Int32) (yM : Int32) (yL yC yQ : Nat → Int32) : ∃ r, fX1_paint cT (nI n) nN yM yL yC yQ = some r ∧ pR n nN r := by
  obtain ⟨w, hw, hw2⟩ := p_cnt (step := sX1_paint_7) (fun i s => ∃ T : Nat → Int32, s = (nI i, T) ∧ ∀ v, v < i → T v = -1) (fun e => ∀ v, v < 12 → e.2 v = -1) 12 (fun i s hi hI => by
    obtain ⟨T, rfl, hI⟩ := hI
    have zi : zin (nI i) 12 := p_in hi (by omega)
    refine ⟨(nI (i + 1), upd T i (-1)), ?_, _, rfl, fun v hv => ?_⟩
    · dsimp only [sX1_paint_7]
      simp only [p_cl (i := i) (by omega)]
      rw [if_neg (q12n hi), if_pos zi, nI_1]
    · by_cases hvi : v = i
      · subst hvi
        exact pk_us
      · rw [pk_un hvi]
        exact hI v (by omega)) (fun s hI => by
    obtain ⟨T, rfl, hI⟩ := hI
    refine ⟨(nI 12, T), ?_, hI⟩
    dsimp only [sX1_paint_7]
    rw [if_pos (q12 (i := 12) (by omega) (by omega))]) (by omega : 12 < 32) (s := (0, cT)) ⟨cT, rfl, fun v hv => absurd hv (Nat.not_lt_zero v)⟩
  obtain ⟨e, h1, h2, h3⟩ := p_cnt (step := sX1_paint_28 (nI n) nN) (fun m s => ∃ T M L C Q, s = (nI m, nI (prt n (zA nN) m), T, M, L, C, Q) ∧ ∀ v, v < n → T v = if hd n (zA nN) v < m then nI (tin n (zA nN) v) else -1) (fun e => e.2.1 = nI (prt n (zA nN) n) ∧ ∀ v, v < n → e.2.2.1 v = nI (tin n (zA nN) v)) n (fun m s hm hI => by
    obtain ⟨T, M, L, C, Q, rfl, hI⟩ := hI
    have zm : zin (nI m) 12 := p_in (by omega) (by omega)
    have hh := hd_spec (a := zA nN) hm
    have htin : ∀ v, nI (tin n (zA nN) v) ≠ -1 := fun v => p_m1 (by have := Nat.mod_lt ((bD n (zA nN) (hd n (zA nN) v) v).getD 0) (show 2 > 0 by omega); unfold tin; omega)
    have hprt : prt n (zA nN) (m + 1) = prt n (zA nN) m + (if decide (hd n (zA nN) m = m) = true then 1 else 0) := rfl
    dsimp only [sX1_paint_28]
    simp only [p_cl (i := m) (by omega)]
    rw [if_neg (nI_ge hm (by omega)), if_pos zm, hI m hm]
    by_cases hmm : hd n (zA nN) m = m
    · rw [if_neg (by omega : ¬ hd n (zA nN) m < m), if_pos rfl]
      obtain ⟨r, g1, g2⟩ := c_spread (s := m) hn hm L C Q
      obtain ⟨T', g3, g4⟩ := c_paintPart (cT := T) (L := (bF n (zA nN) m).2.1) (yL := r.2.1) hn (fun v hv => g2.2.1 v (by omega)) (fun v k hv e => by have := bD_le hm hv e; omega)
      rw [g1, ob, g3, ob, nI_1, nI_1]
      refine ⟨_, rfl, T', r.1, r.2.1, r.2.2.1, r.2.2.2, ?_, fun v hv => ?_⟩
      · rw [hprt, if_pos (decide_eq_true hmm)]
      · rw [g4 v hv, hI v hv]
        have hiff := hd_iff hs hm hmm hv
        show (match bD n (zA nN) m v with | none => _ | some k => nI (k % 2)) = _
        cases hb : bD n (zA nN) m v with
        | none =>
          have : hd n (zA nN) v ≠ m := fun e => by
            have := hiff.mp e
            rw [hb] at this
            cases this
          show (if hd n (zA nN) v < m then nI (tin n (zA nN) v) else -1) = _
          by_cases g : hd n (zA nN) v < m
          · rw [if_pos g, if_pos (by omega)]
          · rw [if_neg g, if_neg (by omega)]
        | some k =>
          have e := hiff.mpr (by rw [hb]; rfl)
          show nI (k % 2) = if hd n (zA nN) v < m + 1 then nI (tin n (zA nN) v) else -1
          rw [if_pos (by omega : hd n (zA nN) v < m + 1)]
          unfold tin
          rw [e, hb]
          rfl
    · rw [if_pos (by omega : hd n (zA nN) m < m), if_neg (htin m), nI_1]
      refine ⟨_, rfl, T, M, L, C, Q, ?_, fun v hv => ?_⟩
      · rw [hprt, if_neg (by rw [decide_eq_false hmm]; decide)]
        try rfl
      · rw [hI v hv]
        have : hd n (zA nN) v ≠ m := fun e => hmm (hd_hd hs hv e)
        by_cases g : hd n (zA nN) v < m
        · rw [if_pos g, if_pos (by omega)]
        · rw [if_neg g, if_neg (by omega)]) (fun s hI => by
    obtain ⟨T, M, L, C, Q, rfl, hI⟩ := hI
    refine ⟨(nI n, nI (prt n (zA nN) n), T, M, L, C, Q), ?_, rfl, fun v hv => ?_⟩
    · dsimp only [sX1_paint_28]
      rw [if_pos (nI_le (Nat.le_refl n) (by omega))]
    · show T v = _
      rw [hI v hv, if_pos (hd_spec hv).2.1]) (by omega : n < 32) (s := (0, 0, w.2, yM, yL, yC, yQ)) ⟨w.2, yM, yL, yC, yQ, rfl, fun v hv => by rw [if_neg (Nat.not_lt_zero _)]; exact hw2 v (by omega)⟩
  unfold fX1_paint
  rw [hw, ob, h1, ob]
  rcases c_unl (T := e.2.2.1) (nN := nN) hn with ⟨g1, g2⟩ | ⟨g1, g2⟩
  · rw [g1, ob, if_pos (Or.inr rfl)]
    exact ⟨_, rfl, h2, h3, Or.inl ⟨rfl, g2⟩⟩
  · rw [g1, ob, if_pos (Or.inl rfl)]
    exact ⟨_, rfl, h2, h3, Or.inr ⟨rfl, g2⟩⟩
