/-! PURE: the counts are small; ways through a place; the numbered way -/
theorem pct_add {p q r : Nat → Bool} : ∀ {n : Nat}, (∀ v, v < n → r v = (p v || q v)) → (∀ v, v < n → p v = true → q v = true → False) → pct r n = pct p n + pct q n
  | 0, _, _ => rfl
  | n + 1, h1, h2 => by
    rw [pct, pct, pct, pct_add (fun v hv => h1 v (by omega)) (fun v hv => h2 v (by omega)), h1 n (by omega)]
    have := h2 n (by omega)
    cases hp : p n <;> cases hq : q n <;> simp_all <;> omega
theorem psum_const {p : Nat → Bool} {x : Nat} : ∀ n, psum (fun v => if p v = true then x else 0) n = pct p n * x
  | 0 => (Nat.zero_mul x).symm
  | n + 1 => by
    rw [psum, pct, psum_const n, Nat.add_mul]
    cases p n <;> simp
theorem two_le (m : Nat) : m ≤ 2 ^ m := Nat.le_of_lt Nat.lt_two_pow_self
def lek (L : Nat → Option Nat) (k v : Nat) : Bool := match L v with
  | none => false
  | some j => decide (j ≤ k)
theorem cnt_layer {n s : Nat} {a : Nat → Nat → Bool} {L : Nat → Option Nat} {C : Nat → Nat} (hL : Lay n a s L) (hC : Cnt n a s L C) : ∀ k, psum (fun v => if L v = some k then C v else 0) n ≤ 2 ^ pct (lek L k) n
  | 0 => by
    refine Nat.le_trans (psum_le (g := fun v => if lek L 0 v = true then 1 else 0) (fun v hv => ?_)) (by rw [psum_const, Nat.mul_one]; exact two_le _)
    by_cases h : L v = some 0
    · rw [if_pos h, hL.2.1 v hv h, hC.1, if_pos ?_]
      · exact Nat.le_refl 1
      · unfold lek
        rw [hL.1]
        rfl
    · rw [if_neg h]
      exact Nat.zero_le _
  | k + 1 => by
    have ih := cnt_layer hL hC k
    refine Nat.le_trans (psum_le (g := fun v => if decide (L v = some (k + 1)) = true then 2 ^ pct (lek L k) n else 0) (fun v hv => ?_)) ?_
    · by_cases h : L v = some (k + 1)
      · rw [if_pos h, if_pos (decide_eq_true h), hC.2.1 v k hv h]
        refine Nat.le_trans (psum_le (fun u hu => ?_)) ih
        by_cases h2 : L u = some k
        · rw [if_pos h2]
          by_cases h3 : a u v = true
          · rw [if_pos ⟨h3, h2⟩]
            exact Nat.le_refl _
          · rw [if_neg (fun g => h3 g.1)]
            exact Nat.zero_le _
        · rw [if_neg (fun g => h2 g.2), if_neg h2]
          exact Nat.le_refl _
      · rw [if_neg h]
        exact Nat.zero_le _
    · rw [psum_const (p := fun v => decide (L v = some (k + 1)))]
      have h2 : pct (lek L (k + 1)) n = pct (lek L k) n + pct (fun v => decide (L v = some (k + 1))) n := by
        refine pct_add (fun v _ => ?_) (fun v _ e1 e2 => ?_)
        · unfold lek
          cases L v with
          | none => rfl
          | some j =>
            apply b_ext2
            simp only [decide_eq_true_eq, Bool.or_eq_true, Option.some.injEq]
            omega
        · have e2 := of_decide_eq_true e2
          unfold lek at e1
          rw [e2] at e1
          have := of_decide_eq_true e1
          omega
      rw [h2, Nat.pow_add, Nat.mul_comm]
      exact Nat.mul_le_mul_left _ (two_le _)
theorem bW_le {n s v : Nat} {a : Nat → Nat → Bool} (hn : n ≤ 12) (hs : s < n) (hv : v < n) : bW n a s v ≤ 4096 := by
  have hL := bF_lay (a := a) hs
  have hC := bF_cnt (a := a) hs
  cases h : bD n a s v with
  | none =>
    rw [bW_0 hs hv h]
    omega
  | some k =>
    have h1 := psum_ge (f := fun v => if (bF n a s).2.1 v = some k then (bF n a s).2.2.1 v else 0) hv
    have h2 := cnt_layer hL hC k
    have h3 : 2 ^ pct (lek (bF n a s).2.1 k) n ≤ 2 ^ 12 := Nat.pow_le_pow_right (by omega) (Nat.le_trans (pct_le _ n) hn)
    have h4 : (if (bF n a s).2.1 v = some k then (bF n a s).2.2.1 v else 0) = bW n a s v := if_pos h
    have h1 : (if (bF n a s).2.1 v = some k then (bF n a s).2.2.1 v else 0) ≤ _ := h1
    rw [h4] at h1
    omega
theorem Cnt.pos {n s : Nat} {a : Nat → Nat → Bool} {v k : Nat} (hs : s < n) (hv : v < n) (h : bD n a s v = some k) : 0 < bW n a s v := by
  rw [bW_wk hs hv h]
  exact (bF_lay hs).walk hs k hv h
/-- walks on, told from their end -/
theorem onw_aside {n s to t k j : Nat} {a : Nat → Nat → Bool} (hsym : Gsym n a) (hs : s < n) (hto : to < n) (hk : k < n) (ht : bD n a s to = some t) (hj : bD n a s k = some j) (hjt : j ≤ t) : wk n a (t - j) k to = if bD n a to k = some (t - j) then bW n a to k else 0 := by
  rw [wk_sym hsym (t - j) hk hto]
  have hL := bF_lay (a := a) hto
  cases h : bD n a to k with
  | none =>
    rw [if_neg (by simp)]
    exact hL.none hto hk h
  | some d =>
    by_cases e : d = t - j
    · subst e
      rw [if_pos rfl, bW_wk hto hk h]
    · rw [if_neg (fun g => e (Option.some.inj g))]
      rcases Nat.lt_or_ge (t - j) d with g | g
      · exact hL.short hto hk h g
      · have h1 := hL.walk hto d hk h
        rw [wk_sym hsym d hto hk] at h1
        obtain ⟨j', g1, g2⟩ := bLP_walk (bFO_LP (a := a) (so := some s) (fun s' e => by cases e; exact hs)) d hk hj h1
        have : some j' = some t := g2.symm.trans ht
        cases this
        omega
theorem onw_val {n s to t k j : Nat} {a : Nat → Nat → Bool} (ht : bD n a s to = some t) (hj : bD n a s k = some j) : onw n a (bF n a s).2.1 to k = if j ≤ t then wk n a (t - j) k to else 0 := by
  have ht : (bF n a s).2.1 to = some t := ht
  have hj : (bF n a s).2.1 k = some j := hj
  unfold onw
  rw [ht]
  show ow n a _ to t 0 k = _
  unfold ow
  rw [hj]
  show (if t < j then 0 else if 0 ≤ j then wk n a (t - j) k to else 0) = _
  by_cases h : j ≤ t
  · rw [if_neg (by omega), if_pos (Nat.zero_le j), if_pos h]
  · rw [if_pos (by omega), if_neg h]
/-- how many shortest ways to a place have another -/
def thr (n : Nat) (a : Nat → Nat → Bool) (s to via : Nat) : Nat := bW n a s via * onw n a (bF n a s).2.1 to via
theorem c_through {n s to via : Nat} {nN : Nat → Int32} (hn : n ≤ 12) (hsym : Gsym n (zA nN)) (hs : s < n) (hto : to < n) (hvia : via < n) {fM wM : Int32} {fL fC fQ wL wC wQ : Nat → Int32} (hF : cR (bF n (zA nN) s) fM fL fC fQ) (hW : cR (bF n (zA nN) to) wM wL wC wQ) : fX5_countThrough fL fC wL wC (nI to) (nI via) = some (nI (thr n (zA nN) s to via)) := by
  have zv : zin (nI via) 12 := p_in (by omega) (by omega)
  have zt : zin (nI to) 12 := p_in (by omega) (by omega)
  have e1 : fL via = enc (bD n (zA nN) s via) := hF.2.1 via (by omega)
  have e2 : fL to = enc (bD n (zA nN) s to) := hF.2.1 to (by omega)
  have e3 : wL via = enc (bD n (zA nN) to via) := hW.2.1 via (by omega)
  have e4 : fC via = nI (bW n (zA nN) s via) := hF.2.2.1 via (by omega)
  have e5 : wC via = nI (bW n (zA nN) to via) := hW.2.2.1 via (by omega)
  unfold fX5_countThrough
  simp only [p_cl (i := via) (by omega), p_cl (i := to) (by omega)]
  rw [if_pos zv, if_pos zv, e1, e2, e3, e4, e5]
  unfold thr
  cases hj : bD n (zA nN) s via with
  | none =>
    rw [if_pos enc_n, bW_0 hs hvia hj, Nat.zero_mul]
    rfl
  | some j =>
    have hjn := bD_le hs hvia hj
    rw [if_neg (enc_m1 (k := j) (by omega))]
    cases hd : bD n (zA nN) to via with
    | none =>
      rw [if_pos enc_n]
      cases ht : bD n (zA nN) s to with
      | none =>
        have : onw n (zA nN) (bF n (zA nN) s).2.1 to via = 0 := by
          unfold onw
          rw [show (bF n (zA nN) s).2.1 to = none from ht]
        rw [this]
        rfl
      | some t =>
        rw [onw_val ht hj]
        by_cases hjt : j ≤ t
        · rw [if_pos hjt, onw_aside hsym hs hto hvia ht hj hjt, hd, if_neg (by simp)]
          rfl
        · rw [if_neg hjt]
          rfl
    | some d =>
      have hdn := bD_le hto hvia hd
      rw [if_neg (enc_m1 (k := d) (by omega)), if_pos zt]
      cases ht : bD n (zA nN) s to with
      | none =>
        have h0 : onw n (zA nN) (bF n (zA nN) s).2.1 to via = 0 := by
          unfold onw
          rw [show (bF n (zA nN) s).2.1 to = none from ht]
        rw [h0, if_neg (show ¬ enc (some j) + enc (some d) = enc none from fun e => by have e : nI j + nI d = -1 := e; rw [nI_add] at e; exact p_m1 (by omega) e)]
        rfl
      | some t =>
        have htn := bD_le hs hto ht
        rw [onw_val ht hj]
        by_cases hjd : j + d = t
        · rw [if_pos (show enc (some j) + enc (some d) = enc (some t) by show nI j + nI d = nI t; rw [nI_add, hjd]), if_pos zv, if_pos zv, pk_mul, if_pos (by omega), onw_aside hsym hs hto hvia ht hj (by omega), hd, if_pos (by rw [show t - j = d by omega])]
        · rw [if_neg (show ¬ enc (some j) + enc (some d) = enc (some t) from fun e => by have e : nI j + nI d = nI t := e; rw [nI_add] at e; exact hjd ((p_eq (by omega) (by omega)).mp e))]
          by_cases hjt : j ≤ t
          · rw [if_pos hjt, onw_aside hsym hs hto hvia ht hj hjt, hd, if_neg (fun e => by have := Option.some.inj e; omega)]
            rfl
          · rw [if_neg hjt]
            rfl
theorem r_throughs {n s to via : Nat} {a : Nat → Nat → Bool} {mJ : Nat → Nat → Int32} (hn : n ≤ 12) (hJ : mJR n a mJ) (hs : s < n) (hto : to < n) (hvia : via < n) : fX6_throughs (nI n) (nI s) mJ (nI to) (nI via) = some (nI (thr n a s to via)) := by
  obtain ⟨len, h1, h2⟩ := r_lengths (so := some s) hn hJ (fun s' e => by cases e; exact hs)
  obtain ⟨w, h3, h4⟩ := r_onward hn hJ (bFO_LP (a := a) (so := some s) (fun s' e => by cases e; exact hs)) h2 hto
  have zv : zin (nI via) 12 := p_in (by omega) (by omega)
  have e1 : len via = enc (bD n a s via) := h2 via hvia
  have e2 : w via = nI (onw n a (bF n a s).2.1 to via) := h4 via hvia
  unfold fX6_throughs
  rw [show fX6_lengths (nI n) mJ (nI s) = some len from h1, ob, if_pos zv]
  simp only [p_cl (i := via) (by omega)]
  rw [e1]
  unfold thr
  cases hj : bD n a s via with
  | none =>
    rw [if_pos enc_n, bW_0 hs hvia hj, Nat.zero_mul]
    rfl
  | some j =>
    have hjn := bD_le hs hvia hj
    rw [if_neg (enc_m1 (k := j) (by omega)), r_allWays hn hJ hs hvia, ob, h3, ob, if_pos zv, e2, pk_mul]
