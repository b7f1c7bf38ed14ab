/-! PURE: finding a key, the reference's refusals -/
theorem p_le {a b : Nat} (ha : a < 1000) (hb : b < 1000) : nI a ≤ nI b ↔ a ≤ b := nI_leI (by omega) (by omega)
theorem p_lt {a b : Nat} (ha : a < 1000) (hb : b < 1000) : nI a < nI b ↔ a < b := nI_ltI (by omega) (by omega)
theorem p_eq {a b : Nat} (ha : a < 1000) (hb : b < 1000) : nI a = nI b ↔ a = b := nI_eq (by omega) (by omega)
theorem p_find_yes {n i : Nat} {nK : Nat → Int32} {key : Int32} (hn : n ≤ 12) (hi : i < n) (hk : nK i = key) (hlt : ∀ j, j < i → nK j ≠ key) : fX3_find (nI n) nK key = some (nI i) := by
  have h : zloop (sX3_find_2 (nI n) nK key) 32 0 = some (.inl (nI i)) := by
    refine p_for (fun j => nI j) i (fun j hj => ?_) ?_ (by omega) rfl
    · show sX3_find_2 _ _ _ (nI j) = some (.inr (nI (j + 1)))
      unfold sX3_find_2
      rw [if_neg (fun h => absurd ((p_le (by omega) (by omega)).mp h) (by omega)), if_pos (p_in (by omega) (by omega)), p_cl (by omega), if_neg (hlt j hj), nI_1]
    · show sX3_find_2 _ _ _ (nI i) = _
      unfold sX3_find_2
      rw [if_neg (fun h => absurd ((p_le (by omega) (by omega)).mp h) (by omega)), if_pos (p_in (by omega) (by omega)), p_cl (by omega), if_pos hk]
  unfold fX3_find
  rw [h]
  rfl
theorem p_find_no {n : Nat} {nK : Nat → Int32} {key : Int32} (hn : n ≤ 12) (hk : ∀ j, j < n → nK j ≠ key) : fX3_find (nI n) nK key = some (-1) := by
  have h : zloop (sX3_find_2 (nI n) nK key) 32 0 = some (.inr (nI n)) := by
    refine p_for (fun j => nI j) n (fun j hj => ?_) ?_ (by omega) rfl
    · show sX3_find_2 _ _ _ (nI j) = some (.inr (nI (j + 1)))
      unfold sX3_find_2
      rw [if_neg (fun h => absurd ((p_le (by omega) (by omega)).mp h) (by omega)), if_pos (p_in (by omega) (by omega)), p_cl (by omega), if_neg (hk j hj), nI_1]
    · show sX3_find_2 _ _ _ (nI n) = _
      unfold sX3_find_2
      rw [if_pos ((p_le (by omega) (by omega)).mpr (Nat.le_refl n))]
  unfold fX3_find
  rw [h]
  rfl
theorem p_at_yes {n i : Nat} {nK : Nat → Int32} {key : Int32} (hn : n ≤ 12) (hi : i < n) (hk : nK i = key) (hlt : ∀ j, j < i → nK j ≠ key) : fX6_at (nI n) nK key = some (nI i) := by
  have h : zloop (sX6_at_2 (nI n) nK key) 32 0 = some (.inl (nI i)) := by
    refine p_for (fun j => nI j) i (fun j hj => ?_) ?_ (by omega) rfl
    · show sX6_at_2 _ _ _ (nI j) = some (.inr (nI (j + 1)))
      unfold sX6_at_2
      rw [if_neg (fun h => absurd ((p_le (by omega) (by omega)).mp h) (by omega)), if_pos (p_in (by omega) (by omega)), p_cl (by omega), if_neg (hlt j hj), nI_1]
    · show sX6_at_2 _ _ _ (nI i) = _
      unfold sX6_at_2
      rw [if_neg (fun h => absurd ((p_le (by omega) (by omega)).mp h) (by omega)), if_pos (p_in (by omega) (by omega)), p_cl (by omega), if_pos hk]
  unfold fX6_at
  rw [h]
  rfl
theorem p_at_no {n : Nat} {nK : Nat → Int32} {key : Int32} (hn : n ≤ 12) (hk : ∀ j, j < n → nK j ≠ key) : fX6_at (nI n) nK key = some (-1) := by
  have h : zloop (sX6_at_2 (nI n) nK key) 32 0 = some (.inr (nI n)) := by
    refine p_for (fun j => nI j) n (fun j hj => ?_) ?_ (by omega) rfl
    · show sX6_at_2 _ _ _ (nI j) = some (.inr (nI (j + 1)))
      unfold sX6_at_2
      rw [if_neg (fun h => absurd ((p_le (by omega) (by omega)).mp h) (by omega)), if_pos (p_in (by omega) (by omega)), p_cl (by omega), if_neg (hk j hj), nI_1]
    · show sX6_at_2 _ _ _ (nI n) = _
      unfold sX6_at_2
      rw [if_pos ((p_le (by omega) (by omega)).mpr (Nat.le_refl n))]
  unfold fX6_at
  rw [h]
  rfl
theorem p_is_yes {n i : Nat} {nK : Nat → Int32} {key : Int32} (hn : n ≤ 12) (hi : i < n) (hk : nK i = key) (hlt : ∀ j, j < i → nK j ≠ key) : fX6_is (nI n) nK key = some 1 := by
  unfold fX6_is
  rw [p_at_yes hn hi hk hlt]
  show (if nI i < 0 then some 0 else some 1) = some 1
  rw [if_neg (nI_pos (by omega))]
theorem p_is_no {n : Nat} {nK : Nat → Int32} {key : Int32} (hn : n ≤ 12) (hk : ∀ j, j < n → nK j ≠ key) : fX6_is (nI n) nK key = some 0 := by
  unfold fX6_is
  rw [p_at_no hn hk]
  rfl
/-- a key is there at a place, or nowhere -/
theorem p_key (n : Nat) (nK : Nat → Int32) (key : Int32) : (∃ i, i < n ∧ nK i = key ∧ ∀ j, j < i → nK j ≠ key) ∨ ∀ j, j < n → nK j ≠ key := by
  induction n with
  | zero => exact Or.inr (fun j h => absurd h (Nat.not_lt_zero j))
  | succ n ih =>
    rcases ih with ⟨i, h1, h2, h3⟩ | h
    · exact Or.inl ⟨i, by omega, h2, h3⟩
    · by_cases e : nK n = key
      · exact Or.inl ⟨n, by omega, e, h⟩
      · refine Or.inr (fun j hj => ?_)
        rcases Nat.lt_or_ge j n with q | q
        · exact h j q
        · rw [show j = n by omega]
          exact e
theorem p_can1 : fX6_can 1 1 1 = some (1, 0) := rfl
theorem p_can01 (q r : Int32) : fX6_can 0 q r = some (0, 1) := rfl
theorem p_can02 (r : Int32) : fX6_can 1 0 r = some (0, 2) := rfl
theorem p_can03 : fX6_can 1 1 0 = some (0, 3) := rfl
theorem p_placeOf_yes {n i : Nat} {nK : Nat → Int32} {key : Int32} (hn : n ≤ 12) (hi : i < n) (hk : nK i = key) (hlt : ∀ j, j < i → nK j ≠ key) : fX5_placeOf (nI n) nK key = some (.inr (nI i)) := by
  unfold fX5_placeOf
  rw [p_find_yes hn hi hk hlt]
  show (if nI i = -1 then _ else _) = _
  rw [if_neg (fun h => by
    have h1 := nI_pos (n := i) (by omega)
    rw [h] at h1
    exact h1 (by decide))]
theorem p_placeOf_no {n : Nat} {nK : Nat → Int32} {key : Int32} (hn : n ≤ 12) (hk : ∀ j, j < n → nK j ≠ key) : fX5_placeOf (nI n) nK key = some (.inl "java/util/NoSuchElementException") := by
  unfold fX5_placeOf
  rw [p_find_no hn hk]
  rfl
