/-! PURE: the reference's counts tell the same -/
theorem bLP_walk {n : Nat} {a : Nat → Nat → Bool} {so : Option Nat} {L : Nat → Option Nat} (hL : bLP n a so L) : ∀ (m : Nat) {u w j : Nat}, u < n → L u = some j → 0 < wk n a m u w → ∃ j', j' ≤ j + m ∧ L w = some j'
  | 0, u, w, j, _, e, h => by
    have := wk_pos0 h
    subst this
    exact ⟨j, Nat.le_refl _, e⟩
  | m + 1, u, w, j, hu, e, h => by
    obtain ⟨x, hx, h1, h2⟩ := wk_step_inv h
    obtain ⟨k, h3, h4⟩ := hL.2.2.1 u x j hu hx h1 e
    obtain ⟨j', h5, h6⟩ := bLP_walk hL m hx h4 h2
    exact ⟨j', by omega, h6⟩
/-- how many walks lead on from k to the place to, of layer t, each step a layer up; the layers from q on are told -/
def ow (n : Nat) (a : Nat → Nat → Bool) (L : Nat → Option Nat) (to t q k : Nat) : Nat := match L k with
  | none => 0
  | some j => if t < j then 0 else if q ≤ j then wk n a (t - j) k to else 0
def owf (n : Nat) (a : Nat → Nat → Bool) (L : Nat → Option Nat) (to t h k v : Nat) : Nat := if a k v = true ∧ L v = some (h + 1) then wk n a (t - h - 1) v to else 0
def ow1 (n : Nat) (a : Nat → Nat → Bool) (L : Nat → Option Nat) (to t h K J k : Nat) : Nat := if L k = some h then psum (owf n a L to t h k) (if k < K then n else if k = K then J else 0) else ow n a L to t (h + 1) k
theorem owf_sum {n : Nat} {a : Nat → Nat → Bool} {so : Option Nat} {L : Nat → Option Nat} {to t h k : Nat} (hL : bLP n a so L) (hto : L to = some t) (hk : k < n) (hkh : L k = some h) (hh : h < t) : psum (owf n a L to t h k) n = wk n a (t - h) k to := by
  obtain ⟨d, hd⟩ : ∃ d, t - h = d + 1 := ⟨t - h - 1, by omega⟩
  rw [hd, wk_succ]
  refine psum_cong (fun v hv => ?_)
  unfold owf
  rw [show t - h - 1 = d by omega]
  by_cases ha : a k v = true
  · by_cases hv2 : L v = some (h + 1)
    · rw [if_pos ⟨ha, hv2⟩, ha]
      simp [b2n]
    · rw [if_neg (fun g => hv2 g.2)]
      rcases Nat.eq_zero_or_pos (wk n a d v to) with g | g
      · rw [g]
        simp
      · obtain ⟨k', g1, g2⟩ := hL.2.2.1 k v h hk hv ha hkh
        obtain ⟨j', g3, g4⟩ := bLP_walk hL d hv g2 g
        rw [hto] at g4
        cases g4
        have : k' = h + 1 := by omega
        subst this
        exact absurd g2 hv2
  · rw [if_neg (fun g => ha g.1)]
    have : a k v = false := by cases hb : a k v <;> simp_all
    rw [this]
    simp [b2n]
theorem r_on1 {n h K J t to : Nat} {a : Nat → Nat → Bool} {L : Nat → Option Nat} {mJ : Nat → Nat → Int32} {pL w0 wK w : Nat → Int32} (hn : n ≤ 12) (hJ : mJR n a mJ) (hlen : ∀ v, v < n → pL v = enc (L v)) (hlt : ∀ v k, v < n → L v = some k → k < 100) (hh : h < t) (ht : t < 100) (hk : K < n) (hj : J < n) (I : ∀ k, k < n → w k = nI (ow1 n a L to t h K J k)) : ∃ w', sX6_onward_47 (nI n) mJ pL (nI h, w0) (nI K, wK) (nI J, w) = some (.inr (nI (J + 1), w')) ∧ ∀ k, k < n → w' k = nI (ow1 n a L to t h K (J + 1) k) := by
  have zK : zin (nI K) 12 := p_in (by omega) (by omega)
  have zJ : zin (nI J) 12 := p_in (by omega) (by omega)
  have hm := hJ K J hk hj
  have eK : pL K = nI h ↔ L K = some h := by
    rw [hlen K hk]
    exact enc_inj (y := some h) (fun k e => by have := hlt K k hk e; omega) (fun k e => by cases e; omega)
  have eJ : pL J = nI h + 1 ↔ L J = some (h + 1) := by
    rw [hlen J hj, nI_1]
    exact enc_inj (y := some (h + 1)) (fun k e => by have := hlt J k hj e; omega) (fun k e => by cases e; omega)
  -- what is added
  have key : ∀ x : Nat, (∀ hx : L K = some h, x = owf n a L to t h K J) → (L K ≠ some h → x = 0) → ∀ w' : Nat → Int32, w' = upd w K (w K + nI x) → ∀ k, k < n → w' k = nI (ow1 n a L to t h K (J + 1) k) := by
    intro x h1 h2 w' hw k hkn
    subst hw
    by_cases e : k = K
    · subst e
      rw [pk_us, I k hkn, nI_add]
      congr 1
      unfold ow1
      by_cases hx : L k = some h
      · rw [if_pos hx, if_pos hx, if_neg (Nat.lt_irrefl k), if_neg (Nat.lt_irrefl k), if_pos rfl, if_pos rfl, psum, h1 hx]
      · rw [if_neg hx, if_neg hx, h2 hx]
        rfl
    · rw [pk_un e, I k hkn]
      congr 1
      unfold ow1
      by_cases hx : k < K
      · rw [if_pos hx, if_pos hx]
      · rw [if_neg hx, if_neg hx, if_neg e, if_neg e]
  dsimp only [sX6_onward_47]
  simp only [p_cl (i := K) (by omega), p_cl (i := J) (by omega)]
  rw [if_neg (nI_ge hj (by omega)), if_pos zK, if_pos zK]
  by_cases h1 : L K = some h
  · rw [if_pos (eK.mpr h1), if_pos zJ]
    by_cases h2 : L J = some (h + 1)
    · rw [if_pos (eJ.mpr h2), if_pos zK, if_pos zJ, hm]
      by_cases ha : a K J = true
      · rw [if_pos ha, if_neg (by decide), if_pos zJ, if_pos zK, nI_1]
        refine ⟨_, rfl, key (wk n a (t - h - 1) J to) (fun _ => by unfold owf; rw [if_pos ⟨ha, h2⟩]) (fun g => absurd h1 g) _ ?_⟩
        rw [I J hj]
        congr 3
        unfold ow1 ow
        rw [if_neg (fun g => by rw [h2] at g; cases g), h2]
        show (if t < h + 1 then 0 else if h + 1 ≤ h + 1 then wk n a (t - (h + 1)) J to else 0) = _
        rw [if_neg (by omega), if_pos (Nat.le_refl _), show t - (h + 1) = t - h - 1 by omega]
      · rw [if_neg ha, if_pos rfl, if_pos zK, nI_1]
        exact ⟨_, rfl, key 0 (fun _ => by unfold owf; rw [if_neg (fun g => ha g.1)]) (fun _ => rfl) _ rfl⟩
    · rw [if_neg (fun g => h2 (eJ.mp g)), if_pos zK, nI_1]
      exact ⟨_, rfl, key 0 (fun _ => by unfold owf; rw [if_neg (fun g => h2 g.2)]) (fun _ => rfl) _ rfl⟩
  · rw [if_neg (fun g => h1 (eK.mp g)), if_pos zK, nI_1]
    exact ⟨_, rfl, key 0 (fun g => absurd g h1) (fun _ => rfl) _ rfl⟩
theorem r_on2 {n h K t to : Nat} {a : Nat → Nat → Bool} {L : Nat → Option Nat} {mJ : Nat → Nat → Int32} {pL w0 w : Nat → Int32} (hn : n ≤ 12) (hJ : mJR n a mJ) (hlen : ∀ v, v < n → pL v = enc (L v)) (hlt : ∀ v k, v < n → L v = some k → k < 100) (hh : h < t) (ht : t < 100) (hk : K < n) (I : ∀ k, k < n → w k = nI (ow1 n a L to t h K 0 k)) : ∃ e, zloop (sX6_onward_47 (nI n) mJ pL (nI h, w0) (nI K, w)) 32 (0, w) = some e ∧ ∀ k, k < n → e.2 k = nI (ow1 n a L to t h (K + 1) 0 k) := by
  refine p_cnt (step := sX6_onward_47 (nI n) mJ pL (nI h, w0) (nI K, w)) (fun J s => ∃ l, s = (nI J, l) ∧ ∀ k, k < n → l k = nI (ow1 n a L to t h K J k)) (fun e => ∀ k, k < n → e.2 k = nI (ow1 n a L to t h (K + 1) 0 k)) n (fun J s hj hI => ?_) (fun s hI => ?_) (by omega) ⟨w, rfl, I⟩
  · obtain ⟨l, rfl, hI⟩ := hI
    obtain ⟨l', h1, h2⟩ := r_on1 (w0 := w0) (wK := w) hn hJ hlen hlt hh ht hk hj hI
    exact ⟨_, h1, l', rfl, h2⟩
  · obtain ⟨l, rfl, hI⟩ := hI
    refine ⟨(nI n, l), ?_, fun k hkn => ?_⟩
    · dsimp only [sX6_onward_47]
      rw [if_pos (nI_le (Nat.le_refl n) (by omega))]
    · show l k = _
      rw [hI k hkn]
      congr 1
      unfold ow1
      by_cases hx : k < K
      · rw [if_pos hx, if_pos (by omega : k < K + 1)]
      · rw [if_neg hx]
        by_cases e : k = K
        · rw [if_pos e, if_pos (by omega : k < K + 1)]
        · rw [if_neg e, if_neg (by omega : ¬ k < K + 1)]
          by_cases e2 : k = K + 1
          · rw [if_pos e2]
          · rw [if_neg e2]
theorem r_on3 {n h t to : Nat} {a : Nat → Nat → Bool} {so : Option Nat} {L : Nat → Option Nat} {mJ : Nat → Nat → Int32} {pL w : Nat → Int32} (hn : n ≤ 12) (hJ : mJR n a mJ) (hL : bLP n a so L) (hlen : ∀ v, v < n → pL v = enc (L v)) (hto : L to = some t) (hh : h < t) (ht : t < 100) (I : ∀ k, k < n → w k = nI (ow n a L to t (h + 1) k)) : ∃ e, zloop (sX6_onward_35 (nI n) mJ pL (nI h, w)) 32 (0, w) = some e ∧ ∀ k, k < n → e.2 k = nI (ow n a L to t h k) := by
  have hlt : ∀ v k, v < n → L v = some k → k < 100 := fun v k hv e => by
    have := hL.2.2.2 v k hv e
    omega
  refine p_cnt (step := sX6_onward_35 (nI n) mJ pL (nI h, w)) (fun K s => ∃ l, s = (nI K, l) ∧ ∀ k, k < n → l k = nI (ow1 n a L to t h K 0 k)) (fun e => ∀ k, k < n → e.2 k = nI (ow n a L to t h k)) n (fun K s hk hI => ?_) (fun s hI => ?_) (by omega) ⟨w, rfl, fun k hk => ?_⟩
  · obtain ⟨l, rfl, hI⟩ := hI
    obtain ⟨e, h1, h2⟩ := r_on2 (w0 := w) hn hJ hlen hlt hh ht hk hI
    refine ⟨(nI (K + 1), e.2), ?_, e.2, rfl, h2⟩
    dsimp only [sX6_onward_35]
    rw [if_neg (nI_ge hk (by omega)), h1, ob, nI_1]
  · obtain ⟨l, rfl, hI⟩ := hI
    refine ⟨(nI n, l), ?_, fun k hkn => ?_⟩
    · dsimp only [sX6_onward_35]
      rw [if_pos (nI_le (Nat.le_refl n) (by omega))]
    · show l k = _
      rw [hI k hkn]
      congr 1
      unfold ow1
      by_cases hx : L k = some h
      · rw [if_pos hx, if_pos hkn, owf_sum hL hto hkn hx hh]
        unfold ow
        rw [hx]
        show _ = if t < h then 0 else if h ≤ h then wk n a (t - h) k to else 0
        rw [if_neg (by omega), if_pos (Nat.le_refl h)]
      · rw [if_neg hx]
        unfold ow
        cases hj : L k with
        | none => rfl
        | some j =>
          show (if t < j then 0 else if h + 1 ≤ j then wk n a (t - j) k to else 0) = if t < j then 0 else if h ≤ j then wk n a (t - j) k to else 0
          have hjh : j ≠ h := fun e => hx (by rw [hj, e])
          by_cases g : h + 1 ≤ j
          · rw [if_pos g, if_pos (by omega : h ≤ j)]
          · rw [if_neg g, if_neg (by omega : ¬ h ≤ j)]
  · rw [I k hk]
    congr 1
    unfold ow1
    by_cases hx : L k = some h
    · rw [if_pos hx, if_neg (Nat.not_lt_zero k)]
      have : psum (owf n a L to t h k) (if k = 0 then 0 else 0) = 0 := by
        by_cases g : k = 0
        · rw [if_pos g]; rfl
        · rw [if_neg g]; rfl
      rw [this]
      unfold ow
      rw [hx]
      show (if t < h then 0 else if h + 1 ≤ h then _ else 0) = 0
      rw [if_neg (by omega), if_neg (by omega)]
    · rw [if_neg hx]
theorem enc_n : enc none = -1 := rfl
theorem enc_m1 {k : Nat} (h : k < 1000) : enc (some k) ≠ -1 := p_m1 h
def dI : Nat → Int32
  | 0 => -1
  | q + 1 => nI q
theorem dI_pred : ∀ q, dI (q + 1) + (-1) = dI q
  | 0 => by decide
  | q + 1 => pk_m1 q
theorem dI_sub : ∀ t, nI t - 1 = dI t
  | 0 => by decide
  | t + 1 => nI_pred t
/-- walks on to a place, by layers -/
def onw (n : Nat) (a : Nat → Nat → Bool) (L : Nat → Option Nat) (to k : Nat) : Nat := match L to with
  | none => 0
  | some t => ow n a L to t 0 k
theorem r_onward {n to : Nat} {a : Nat → Nat → Bool} {so : Option Nat} {L : Nat → Option Nat} {mJ : Nat → Nat → Int32} {pL : Nat → Int32} (hn : n ≤ 12) (hJ : mJR n a mJ) (hL : bLP n a so L) (hlen : ∀ v, v < n → pL v = enc (L v)) (hto : to < n) : ∃ w, fX6_onward (nI n) mJ pL (nI to) = some w ∧ ∀ k, k < n → w k = nI (onw n a L to k) := by
  have zt : zin (nI to) 12 := p_in (by omega) (by omega)
  unfold fX6_onward
  simp only [p_cl (i := to) (by omega)]
  rw [if_pos zt, hlen to hto]
  cases hLt : L to with
  | none =>
    rw [if_pos enc_n, ob, if_pos zt, if_pos zt]
    have hz : zloop (sX6_onward_27 (nI n) mJ pL) 32 (enc none - 1, upd (fun _ => 0) to 0) = some (enc none - 1, upd (fun _ => 0) to 0) := by
      show (sX6_onward_27 (nI n) mJ pL (enc none - 1, upd (fun _ => 0) to 0)).bind _ = _
      dsimp only [sX6_onward_27]
      rw [if_pos (by decide)]
      rfl
    rw [hz, ob]
    refine ⟨_, rfl, fun k hk => ?_⟩
    unfold onw
    rw [hLt]
    show upd (fun _ => 0) to 0 k = 0
    by_cases e : k = to
    · subst e
      exact pk_us
    · rw [pk_un e]
  | some t =>
    have ht := hL.2.2.2 to t hto hLt
    rw [if_neg (enc_m1 (k := t) (by omega)), ob, if_pos zt, if_pos zt]
    show ∃ w, (zloop (sX6_onward_27 (nI n) mJ pL) 32 (nI t - 1, _)).bind _ = some w ∧ _
    obtain ⟨e, h1, h2⟩ := p_cnt (step := sX6_onward_27 (nI n) mJ pL) (fun i s => ∃ l, s = (dI (t - i), l) ∧ ∀ k, k < n → l k = nI (ow n a L to t (t - i) k)) (fun e => ∀ k, k < n → e.2 k = nI (onw n a L to k)) t (fun i s hi hI => by
      obtain ⟨l, rfl, hI⟩ := hI
      obtain ⟨h, hh⟩ : ∃ h, t - i = h + 1 := ⟨t - i - 1, by omega⟩
      rw [hh] at hI
      obtain ⟨e, h1, h2⟩ := r_on3 hn hJ hL hlen hLt (by omega : h < t) (by omega) hI
      refine ⟨(dI h, e.2), ?_, e.2, by rw [show t - (i + 1) = h by omega], by rw [show t - (i + 1) = h by omega]; exact h2⟩
      rw [hh]
      dsimp only [sX6_onward_27]
      rw [if_neg (show ¬ dI (h + 1) < 0 from nI_pos (n := h) (by omega)), show dI (h + 1) = nI h from rfl, h1, ob, show nI h = dI (h + 1) from rfl, dI_pred]) (fun s hI => by
      obtain ⟨l, rfl, hI⟩ := hI
      rw [Nat.sub_self] at hI ⊢
      refine ⟨(dI 0, l), ?_, fun k hk => ?_⟩
      · dsimp only [sX6_onward_27]
        rw [if_pos (by decide)]
      · show l k = _
        rw [hI k hk]
        unfold onw
        rw [hLt]) (by omega : t < 32) (s := (nI t - 1, upd (fun _ => 0) to 1)) ⟨_, by rw [dI_sub, Nat.sub_zero], fun k hk => by
        rw [Nat.sub_zero]
        unfold ow
        by_cases e : k = to
        · subst e
          rw [pk_us, hLt]
          show (1 : Int32) = nI (if t < t then 0 else if t ≤ t then wk n a (t - t) k k else 0)
          rw [if_neg (Nat.lt_irrefl t), if_pos (Nat.le_refl t), Nat.sub_self, wk_zero, if_pos rfl]
          rfl
        · rw [pk_un e]
          cases hj : L k with
          | none => rfl
          | some j =>
            show (0 : Int32) = nI (if t < j then 0 else if t ≤ j then wk n a (t - j) k to else 0)
            by_cases g1 : t < j
            · rw [if_pos g1]; rfl
            · rw [if_neg g1]
              by_cases g2 : t ≤ j
              · rw [if_pos g2, show t - j = 0 by omega, wk_zero, if_neg e]; rfl
              · rw [if_neg g2]; rfl⟩
    rw [h1, ob]
    exact ⟨_, rfl, h2⟩
/-- from the start on: the counts of the queue -/
theorem onw_start {n s to : Nat} {a : Nat → Nat → Bool} (hs : s < n) (hto : to < n) : onw n a (bF n a s).2.1 to s = bW n a s to := by
  have hL := bF_lay (a := a) hs
  unfold onw
  cases hLt : (bF n a s).2.1 to with
  | none => exact (bW_0 hs hto hLt).symm
  | some t =>
    show ow n a (bF n a s).2.1 to t 0 s = _
    unfold ow
    rw [hL.1]
    show (if t < 0 then 0 else if 0 ≤ 0 then wk n a (t - 0) s to else 0) = _
    rw [if_neg (by omega), if_pos (Nat.le_refl 0), Nat.sub_zero, bW_wk hs hto hLt]
theorem r_allWays {n s to : Nat} {a : Nat → Nat → Bool} {mJ : Nat → Nat → Int32} (hn : n ≤ 12) (hJ : mJR n a mJ) (hs : s < n) (hto : to < n) : fX6_allWays (nI n) (nI s) mJ (nI to) = some (nI (bW n a s to)) := by
  obtain ⟨len, h1, h2⟩ := r_lengths (so := some s) hn hJ (fun s' e => by cases e; exact hs)
  obtain ⟨w, h3, h4⟩ := r_onward hn hJ (bFO_LP (a := a) (so := some s) (fun s' e => by cases e; exact hs)) h2 hto
  unfold fX6_allWays
  rw [show fX6_lengths (nI n) mJ (nI s) = some len from h1, ob, h3, ob, if_pos (p_in (by omega) (by omega))]
  simp only [p_cl (i := s) (by omega)]
  rw [h4 s hs]
  exact congrArg (fun x => some (nI x)) (onw_start hs hto)
