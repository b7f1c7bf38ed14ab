/-! PURE: class and reference side by side -/
theorem ok_ins {n p : Nat} {nN N' : Nat → Int32} (hN : nOK n nN) (hn : n < 12) (hp : p ≤ n) (h : ∀ u, u < n + 1 → ∀ k, k < 32 → bt (N' u) k = (decide (k < n + 1) && aIns (zA nN) p u k)) : nOK (n + 1) N' ∧ ∀ u v, u < n + 1 → v < n + 1 → zA N' u v = aIns (zA nN) p u v := by
  refine ⟨⟨by omega, fun i hi j hj => ?_, fun i j hi hj => ?_, fun i hi => ?_⟩, fun u v hu hv => ?_⟩
  · by_cases g : j < 32
    · rw [h i hi j g, decide_eq_false (by omega)]
      rfl
    · exact b_big (by omega)
  · show bt (N' i) j = bt (N' j) i
    rw [h i hi j (by omega), h j hj i (by omega), decide_eq_true hj, decide_eq_true hi, Bool.true_and, Bool.true_and]
    unfold aIns
    by_cases e : i = p ∨ j = p
    · rw [if_pos e, if_pos e.symm]
    · rw [if_neg e, if_neg (fun g => e g.symm)]
      exact hN.2.2.1 _ _ (dn_lt hp (by omega) (fun q => e (Or.inl q))) (dn_lt hp (by omega) (fun q => e (Or.inr q)))
  · rw [h i hi i (by omega), decide_eq_true hi, Bool.true_and]
    unfold aIns
    by_cases e : i = p
    · rw [if_pos (Or.inl e)]
    · rw [if_neg (fun g => e (g.elim id id))]
      exact hN.2.2.2 _ (dn_lt hp (by omega) e)
  · show bt (N' u) v = _
    rw [h u hu v (by omega), decide_eq_true hv, Bool.true_and]
theorem ok_rem {n g : Nat} {nN N' : Nat → Int32} (hN : nOK n nN) (hg : g < n) (h : ∀ u, u < n - 1 → ∀ k, k < 32 → bt (N' u) k = aRem (zA nN) g u k) : nOK (n - 1) N' ∧ ∀ u v, u < n - 1 → v < n - 1 → zA N' u v = aRem (zA nN) g u v := by
  have hn := hN.1
  refine ⟨⟨by omega, fun i hi j hj => ?_, fun i j hi hj => ?_, fun i hi => ?_⟩, fun u v hu hv => ?_⟩
  · by_cases q : j < 32
    · rw [h i hi j q]
      refine hN.2.1 _ (up1_lt hi) _ ?_
      unfold up1
      rw [if_neg (by omega)]
      omega
    · exact b_big (by omega)
  · show bt (N' i) j = bt (N' j) i
    rw [h i hi j (by omega), h j hj i (by omega)]
    exact hN.2.2.1 _ _ (up1_lt hi) (up1_lt hj)
  · rw [h i hi i (by omega)]
    exact hN.2.2.2 _ (up1_lt hi)
  · exact h u hu v (by omega)
theorem ok_J {n i j : Nat} {on : Bool} {nN r : Nat → Int32} (hN : nOK n nN) (hi : i < n) (hj : j < n) (hne : i ≠ j) (h : ∀ u, u < n → ∀ k, k < 32 → bt (r u) k = aJ (zA nN) i j on u k) : nOK n r ∧ ∀ u v, u < n → v < n → zA r u v = aJ (zA nN) i j on u v := by
  have hn := hN.1
  refine ⟨⟨hn, fun u hu k hk => ?_, fun u v hu hv => ?_, fun u hu => ?_⟩, fun u v hu hv => h u hu v (by omega)⟩
  · by_cases q : k < 32
    · rw [h u hu k q]
      unfold aJ
      rw [if_neg (by omega)]
      exact hN.2.1 u hu k hk
    · exact b_big (by omega)
  · show bt (r u) v = bt (r v) u
    rw [h u hu v (by omega), h v hv u (by omega)]
    unfold aJ
    by_cases e : (u = i ∧ v = j) ∨ (u = j ∧ v = i)
    · rw [if_pos e, if_pos (by omega)]
    · rw [if_neg e, if_neg (by omega)]
      exact hN.2.2.1 u v hu hv
  · rw [h u hu u (by omega)]
    unfold aJ
    rw [if_neg (by omega)]
    exact hN.2.2.2 u hu
theorem mJR_eq {n : Nat} {a b : Nat → Nat → Bool} {M : Nat → Nat → Int32} (h : ∀ u v, u < n → v < n → b u v = a u v) (hM : mJR n a M) : mJR n b M := by
  intro i j hi hj
  rw [h i j hi hj]
  exact hM i j hi hj
theorem rise_ne {n i j : Nat} {K : Nat → Int32} (hr : rise n K) (hi : i < n) (hj : j < n) (hne : i ≠ j) : K i ≠ K j := by
  intro e
  rcases Nat.lt_or_ge i j with g | g
  · have h := hr i j g hj
    rw [e] at h
    exact Int32.lt_irrefl h
  · have h := hr j i (by omega) hi
    rw [e] at h
    exact Int32.lt_irrefl h
theorem rise_ins {n p : Nat} {K K' : Nat → Int32} {key : Int32} (hr : rise n K) (hp : p ≤ n) (h1 : ∀ v, v < p → K v ≤ key) (h2 : ∀ v, p ≤ v → v < n → ¬ K v ≤ key) (h3 : ∀ v, v < n → K v ≠ key) (h : ∀ v, v < n + 1 → K' v = kIns K p key v) : rise (n + 1) K' := by
  intro i j hij hj
  rw [h i (by omega), h j hj]
  unfold kIns
  by_cases a1 : j < p
  · rw [if_pos a1, if_pos (by omega)]
    exact hr i j hij (by omega)
  · by_cases a2 : j = p
    · rw [if_neg a1, if_pos a2, if_pos (by omega)]
      exact Int32.lt_of_le_of_ne (h1 i (by omega)) (h3 i (by omega))
    · rw [if_neg a1, if_neg a2]
      by_cases b1 : i < p
      · rw [if_pos b1]
        exact hr i (j - 1) (by omega) (by omega)
      · by_cases b2 : i = p
        · rw [if_neg b1, if_pos b2]
          exact Int32.not_le.mp (h2 (j - 1) (by omega) (by omega))
        · rw [if_neg b1, if_neg b2]
          exact hr (i - 1) (j - 1) (by omega) (by omega)
theorem up1_mono {g i j : Nat} (h : i < j) : up1 g i < up1 g j := by
  unfold up1
  by_cases a : i < g
  · by_cases b : j < g
    · rw [if_pos a, if_pos b]
      exact h
    · rw [if_pos a, if_neg b]
      omega
  · rw [if_neg a, if_neg (by omega)]
    omega
theorem rise_rem {n g : Nat} {K K' : Nat → Int32} (hr : rise n K) (h : ∀ v, v < n - 1 → K' v = kRem K g v) : rise (n - 1) K' := by
  intro i j hij hj
  rw [h i (by omega), h j hj]
  exact hr _ _ (up1_mono hij) (up1_lt hj)
/-- what holds of the class's net, start and layers, and of the reference's -/
def lR (n : Nat) (so : Option Nat) (gB gK : Int32) (nK nN : Nat → Int32) (fM : Int32) (fL fC fQ : Nat → Int32) (mK : Nat → Int32) (mJ : Nat → Nat → Int32) : Prop :=
  nOK n nN ∧ mJR n (zA nN) mJ ∧ (∀ v, v < n → mK v = nK v) ∧ rise n nK ∧ (∀ s, so = some s → s < n ∧ gK = nK s) ∧ gB = (if so.isSome = true then 1 else 0) ∧ ((n = 0 ∧ so = none) ∨ cR (bFO n (zA nN) so) fM fL fC fQ)
/-- and of the change -/
def lX (xS : Int32) (xK xW : Nat → Int32) (mX : Int32) (mC mW : Nat → Int32) : Prop := ∃ c, c ≤ 12 ∧ xS = nI c ∧ mX = nI c ∧ ∀ v, v < c → xK v = mC v ∧ xW v = mW v
section LR
variable {n : Nat} {so : Option Nat} {gB gK : Int32} {nK nN : Nat → Int32} {fM : Int32} {fL fC fQ : Nat → Int32} {mK : Nat → Int32} {mJ : Nat → Nat → Int32}
theorem lR.s (R : lR n so gB gK nK nN fM fL fC fQ mK mJ) : ∀ s, so = some s → s < n := fun s h => (R.2.2.2.2.1 s h).1
theorem lR.L (R : lR n so gB gK nK nN fM fL fC fQ mK mJ) : ∀ v, v < n → fL v = enc ((bFO n (zA nN) so).2.1 v) ∧ fC v = nI ((bFO n (zA nN) so).2.2.1 v) := by
  intro v hv
  have hn := R.1.1
  rcases R.2.2.2.2.2.2 with g | g
  · omega
  · exact ⟨g.2.1 v (by omega), g.2.2.1 v (by omega)⟩
theorem lR.F {s : Nat} (R : lR n (some s) gB gK nK nN fM fL fC fQ mK mJ) : cR (bF n (zA nN) s) fM fL fC fQ := by
  rcases R.2.2.2.2.2.2 with g | g
  · cases g.2
  · exact g
theorem q_key {key : Int32} (hn : n ≤ 12) (hK : ∀ v, v < n → mK v = nK v) : (∃ i, i < n ∧ nK i = key ∧ fX5_placeOf (nI n) nK key = some (.inr (nI i)) ∧ fX3_find (nI n) nK key = some (nI i) ∧ fX6_is (nI n) mK key = some 1 ∧ fX6_at (nI n) mK key = some (nI i)) ∨ ((∀ j, j < n → nK j ≠ key) ∧ fX5_placeOf (nI n) nK key = some (.inl "java/util/NoSuchElementException") ∧ fX3_find (nI n) nK key = some (-1) ∧ fX6_is (nI n) mK key = some 0 ∧ fX6_at (nI n) mK key = some (-1)) := by
  rcases p_key n nK key with ⟨i, hi, hk, hlt⟩ | h
  · have hk' : mK i = key := (hK i hi).trans hk
    have hlt' : ∀ j, j < i → mK j ≠ key := fun j hj => by
      rw [hK j (by omega)]
      exact hlt j hj
    exact Or.inl ⟨i, hi, hk, p_placeOf_yes hn hi hk hlt, p_find_yes hn hi hk hlt, p_is_yes hn hi hk' hlt', p_at_yes hn hi hk' hlt'⟩
  · have h' : ∀ j, j < n → mK j ≠ key := fun j hj => by
      rw [hK j hj]
      exact h j hj
    exact Or.inr ⟨h, p_placeOf_no hn h, p_find_no hn h, p_is_no hn h', p_at_no hn h'⟩
theorem c_sfs (hn : n ≤ 12) (hr : rise n nK) (hso : ∀ s, so = some s → s < n ∧ gK = nK s) (hgB : gB = (if so.isSome = true then 1 else 0)) (yL yC yQ : Nat → Int32) : ∃ r, fX5_spreadFromStart gB gK (nI n) nK nN yL yC yQ = some r ∧ cR (bFO n (zA nN) so) r.1 r.2.1 r.2.2.1 r.2.2.2 := by
  obtain ⟨r, h1, h2⟩ := c_spreadO (nN := nN) hn (fun s h => (hso s h).1) yL yC yQ
  refine ⟨r, ?_, h2⟩
  unfold fX5_spreadFromStart
  cases so with
  | none =>
    have hgB : gB = 0 := hgB
    have h1 : fX2_spread yL yC yQ (nI n) nN (-1) = some r := h1
    rw [if_pos hgB, ob, h1, ob]
  | some s =>
    have hgB : gB = 1 := hgB
    obtain ⟨hs, hk⟩ := hso s rfl
    have h1 : fX2_spread yL yC yQ (nI n) nN (nI s) = some r := h1
    rw [hgB, if_neg (by decide), p_find_yes hn hs hk.symm (fun j hj => by rw [hk]; exact rise_ne hr (by omega) hs (by omega)), ob, ob, h1, ob]
end LR
theorem i10 : ((1 : Int32) = 0) = False := eq_false (by decide)
theorem i20 : ((2 : Int32) = 0) = False := eq_false (by decide)
theorem i30 : ((3 : Int32) = 0) = False := eq_false (by decide)
theorem s_ai : ("java/lang/IllegalStateException" = "java/lang/IllegalArgumentException") = False := eq_false (by decide +kernel)
theorem s_sn : ("java/lang/IllegalStateException" = "java/util/NoSuchElementException") = False := eq_false (by decide +kernel)
theorem s_an : ("java/lang/IllegalArgumentException" = "java/util/NoSuchElementException") = False := eq_false (by decide +kernel)
theorem s_on : ("java/lang/IndexOutOfBoundsException" = "java/util/NoSuchElementException") = False := eq_false (by decide +kernel)
theorem s_os : ("java/lang/IndexOutOfBoundsException" = "java/lang/IllegalStateException") = False := eq_false (by decide +kernel)
theorem s_un : ("java/lang/UnsupportedOperationException" = "java/util/NoSuchElementException") = False := eq_false (by decide +kernel)
theorem s_us : ("java/lang/UnsupportedOperationException" = "java/lang/IllegalStateException") = False := eq_false (by decide +kernel)
theorem s_ou : ("java/lang/IndexOutOfBoundsException" = "java/lang/UnsupportedOperationException") = False := eq_false (by decide +kernel)
theorem lg_self (x : Int64) : lg_cmp x x = 0 := (lg_cmp_eq x x).mpr rfl
theorem lA_ok {uU : Nat → Int64} {x y : Int32} (h : x = y) : lg_cmp (vp_updL uU (0 : Int32).toNatClampNeg x.toInt64 (0 : Int32).toNatClampNeg) y.toInt64 = 0 := by
  rw [h, pk_uLs]
  exact lg_self _
theorem lA_okL {uU : Nat → Int64} {x : Int64} : lg_cmp (vp_updL uU (0 : Int32).toNatClampNeg x (0 : Int32).toNatClampNeg) x = 0 := by
  rw [pk_uLs]
  exact lg_self _
theorem ns0 : fX5_needStart 0 = some (.inl "java/lang/IllegalStateException") := rfl
theorem ns1 : fX5_needStart 1 = some (.inr ()) := by
  unfold fX5_needStart
  rw [if_neg (by decide)]
def stI : Option Nat → Int32
  | none => 0
  | some _ => 1
theorem stI_n : stI none = 0 := rfl
theorem stI_s {s : Nat} : stI (some s) = 1 := rfl
theorem st_x {so : Option Nat} (h : ∀ s, so = some s → s < 1000) : ((if enc so < 0 then some 0 else some 1) : Option Int32) = some (stI so) := by
  cases so with
  | none => rfl
  | some s =>
    have := h s rfl
    rw [show enc (some s) = nI s from rfl, if_neg (nI_pos (by omega))]
    rfl
theorem nI_sub {n m : Nat} (h : m ≤ n) : nI n - nI m = nI (n - m) := by
  have e : nI n = nI (n - m) + nI m := by
    rw [nI_add, Nat.sub_add_cancel h]
  rw [e, Int32.add_sub_cancel]
theorem z0c : (0 : Int32).toNatClampNeg = 0 := by decide
theorem n1 : ¬ (1 : Int32) = 0 := by decide
theorem n2 : ¬ (2 : Int32) = 0 := by decide
theorem n3 : ¬ (3 : Int32) = 0 := by decide
