/-! ===== Int32 by its bits: bt x i ===== -/
def bt (x : Int32) (i : Nat) : Bool := x.toBitVec.getLsbD i
theorem b_ext {x y : Int32} (h : ∀ i, i < 32 → bt x i = bt y i) : x = y := Int32.toBitVec_inj.mp (BitVec.eq_of_getLsbD_eq (fun i hi => h i hi))
theorem b_or (x y : Int32) (i : Nat) : bt (x ||| y) i = (bt x i || bt y i) := by unfold bt; rw [Int32.toBitVec_or, BitVec.getLsbD_or]
theorem b_and (x y : Int32) (i : Nat) : bt (x &&& y) i = (bt x i && bt y i) := by unfold bt; rw [Int32.toBitVec_and, BitVec.getLsbD_and]
theorem b_xor (x y : Int32) (i : Nat) : bt (x ^^^ y) i = (bt x i ^^ bt y i) := by unfold bt; rw [Int32.toBitVec_xor, BitVec.getLsbD_xor]
theorem b_big {x : Int32} {i : Nat} (h : 32 ≤ i) : bt x i = false := BitVec.getLsbD_of_ge _ _ h
theorem b_255 (i : Nat) : bt 255 i = decide (i < 8) := by
  rcases Nat.lt_or_ge i 32 with h | h
  · exact (by decide +kernel : ∀ i, i < 32 → bt 255 i = decide (i < 8)) i h
  · rw [b_big h, decide_eq_false (by omega)]
theorem b_65535 (i : Nat) : bt 65535 i = decide (i < 16) := by
  rcases Nat.lt_or_ge i 32 with h | h
  · exact (by decide +kernel : ∀ i, i < 32 → bt 65535 i = decide (i < 16)) i h
  · rw [b_big h, decide_eq_false (by omega)]
theorem b_m1 : ∀ i, i < 32 → bt (-1) i = true := by decide +kernel
theorem b_0 (i : Nat) : bt 0 i = false := BitVec.getLsbD_zero
theorem s_l : ∀ n, n < 32 → ((nI n &&& 31).toBitVec.smod 32).toNat = n := by decide +kernel
theorem s_u : ∀ n, n < 32 → (((nI n).toUInt32 &&& Int32.toUInt32 31).toBitVec % 32).toNat = n := by decide +kernel
theorem b_shl (n : Nat) (hn : n < 32) (x : Int32) {i : Nat} (hi : i < 32) : bt (x <<< (nI n &&& 31)) i = (decide (n ≤ i) && bt x (i - n)) := by
  unfold bt
  rw [Int32.toBitVec_shiftLeft]
  show (x.toBitVec <<< ((nI n &&& 31).toBitVec.smod 32).toNat).getLsbD i = _
  rw [s_l n hn, BitVec.getLsbD_shiftLeft]
  rcases Nat.lt_or_ge i n with h | h
  · simp [h, Nat.not_le.mpr h]
  · simp [hi, h, Nat.not_lt.mpr h]
theorem b_ushr (n : Nat) (hn : n < 32) (x : Int32) (i : Nat) : bt ((x.toUInt32 >>> ((nI n).toUInt32 &&& Int32.toUInt32 31)).toInt32) i = bt x (n + i) := by
  show (x.toUInt32 >>> ((nI n).toUInt32 &&& Int32.toUInt32 31)).toBitVec.getLsbD i = x.toUInt32.toBitVec.getLsbD (n + i)
  rw [UInt32.toBitVec_shiftRight]
  show (x.toUInt32.toBitVec >>> (((nI n).toUInt32 &&& Int32.toUInt32 31).toBitVec % 32).toNat).getLsbD i = _
  rw [s_u n hn, BitVec.getLsbD_ushiftRight]
theorem b_sshr (n : Nat) (hn : n < 32) (x : Int32) {i : Nat} (hi : i < 32) : bt (x >>> (nI n &&& 31)) i = if n + i < 32 then bt x (n + i) else bt x 31 := by
  unfold bt
  rw [Int32.toBitVec_shiftRight]
  show (x.toBitVec.sshiftRight ((nI n &&& 31).toBitVec.smod 32).toNat).getLsbD i = _
  rw [s_l n hn, BitVec.getLsbD_sshiftRight, BitVec.msb_eq_getLsbD_last]
  simp [hi]
theorem b_shl8 (x : Int32) {i : Nat} (hi : i < 32) : bt (x <<< ((8 : Int32) &&& 31)) i = (decide (8 ≤ i) && bt x (i - 8)) := b_shl 8 (by omega) x hi
theorem b_shl16 (x : Int32) {i : Nat} (hi : i < 32) : bt (x <<< ((16 : Int32) &&& 31)) i = (decide (16 ≤ i) && bt x (i - 16)) := b_shl 16 (by omega) x hi
theorem b_shl24 (x : Int32) {i : Nat} (hi : i < 32) : bt (x <<< ((24 : Int32) &&& 31)) i = (decide (24 ≤ i) && bt x (i - 24)) := b_shl 24 (by omega) x hi
theorem b_sshr8 (x : Int32) {i : Nat} (hi : i < 32) : bt (x >>> ((8 : Int32) &&& 31)) i = if 8 + i < 32 then bt x (8 + i) else bt x 31 := b_sshr 8 (by omega) x hi
/-! PURE: loops, small ints, bits -/
theorem p_in {i n : Nat} (h : i < n) (hn : n ≤ 1000) : zin (nI i) n := vp_in_nI h (by omega)
theorem p_cl {i : Nat} (h : i < 1000) : (nI i).toNatClampNeg = i := nI_clamp (by omega)
/-- a loop by its states -/
theorem p_for {σ ε : Type} {step : σ → Option (ε ⊕ σ)} (st : Nat → σ) (N : Nat) {e : ε} (h : ∀ i, i < N → step (st i) = some (.inr (st (i + 1)))) (hx : step (st N) = some (.inl e)) {F : Nat} (hF : N < F) {s : σ} (hs : s = st 0) : zloop step F s = some e := by
  have key : ∀ d k F, k + d = N → d < F → zloop step F (st k) = some e := by
    intro d
    induction d with
    | zero =>
      intro k F hk hF
      obtain ⟨F, rfl⟩ : ∃ G, F = G + 1 := ⟨F - 1, by omega⟩
      have hkN : k = N := by omega
      subst hkN
      show (step (st k)).bind _ = _
      rw [hx]
      rfl
    | succ d ih =>
      intro k F hk hF
      obtain ⟨F, rfl⟩ : ∃ G, F = G + 1 := ⟨F - 1, by omega⟩
      show (step (st k)).bind _ = _
      rw [h k (by omega)]
      exact ih (k + 1) F (by omega) (by omega)
  rw [hs]
  exact key N 0 F (by omega) hF
/-- a loop by an invariant: N turns at the most, an early end allowed -/
theorem p_inv {σ ε : Type} {step : σ → Option (ε ⊕ σ)} (I : Nat → σ → Prop) (post : ε → Prop) (N : Nat) (h : ∀ i s, i ≤ N → I i s → (∃ e, step s = some (.inl e) ∧ post e) ∨ (i < N ∧ ∃ s', step s = some (.inr s') ∧ I (i + 1) s')) {F : Nat} (hF : N < F) {s : σ} (hs : I 0 s) : ∃ e, zloop step F s = some e ∧ post e := by
  have key : ∀ d k F s, k + d = N → d < F → I k s → ∃ e, zloop step F s = some e ∧ post e := by
    intro d
    induction d with
    | zero =>
      intro k F s hk hF hI
      obtain ⟨F, rfl⟩ : ∃ G, F = G + 1 := ⟨F - 1, by omega⟩
      rcases h k s (by omega) hI with ⟨e, h1, h2⟩ | ⟨h1, -⟩
      · refine ⟨e, ?_, h2⟩
        show (step s).bind _ = _
        rw [h1]
        rfl
      · omega
    | succ d ih =>
      intro k F s hk hF hI
      obtain ⟨F, rfl⟩ : ∃ G, F = G + 1 := ⟨F - 1, by omega⟩
      rcases h k s (by omega) hI with ⟨e, h1, h2⟩ | ⟨-, s', h1, h2⟩
      · refine ⟨e, ?_, h2⟩
        show (step s).bind _ = _
        rw [h1]
        rfl
      · obtain ⟨e, h3, h4⟩ := ih (k + 1) F s' (by omega) (by omega) h2
        refine ⟨e, ?_, h4⟩
        show (step s).bind _ = _
        rw [h1]
        exact h3
  exact key N 0 F s (by omega) hF hs
theorem b_1 : ∀ j, j < 32 → bt 1 j = decide (j = 0) := by decide +kernel
theorem b_4095 : ∀ j, j < 32 → bt 4095 j = decide (j < 12) := by decide +kernel
theorem p_hasBit (x : Int32) {i : Nat} (hi : i < 32) : fX5_hasBit x (nI i) = some (if bt x i then 1 else 0) := by
  have h : ((x.toUInt32 >>> ((nI i).toUInt32 &&& Int32.toUInt32 31)).toInt32 &&& 1) = if bt x i then 1 else 0 := by
    apply b_ext
    intro j hj
    rw [b_and, b_ushr i hi, b_1 j hj]
    by_cases h0 : j = 0
    · subst h0
      cases hb : bt x i
      · simp [hb, b_0]
      · simp [hb, b_1]
    · cases hb : bt x i
      · simp [h0, b_0]
      · simp [h0, b_1 j hj]
  unfold fX5_hasBit
  rw [h]
  cases bt x i <;> rfl
theorem p_joins (nN : Nat → Int32) {i j : Nat} (hi : i < 12) (hj : j < 32) : fX3_joins nN (nI i) (nI j) = some (if bt (nN i) j then 1 else 0) := by
  unfold fX3_joins
  rw [if_pos (p_in hi (by omega)), p_cl (by omega), p_hasBit _ hj]
  cases bt (nN i) j <;> rfl
/-- how many k below n have p -/
def pct (p : Nat → Bool) : Nat → Nat
  | 0 => 0
  | n + 1 => pct p n + (if p n then 1 else 0)
theorem pct_cong {p q : Nat → Bool} : ∀ {n : Nat}, (∀ k, k < n → p k = q k) → pct p n = pct q n
  | 0, _ => rfl
  | n + 1, h => by rw [pct, pct, pct_cong (fun k hk => h k (by omega)), h n (by omega)]
theorem pct_le (p : Nat → Bool) : ∀ n, pct p n ≤ n
  | 0 => Nat.le_refl 0
  | n + 1 => by
    have := pct_le p n
    rw [pct]
    split <;> omega
set_option maxRecDepth 100000 in
theorem p_bitCountN : ∀ m, m < 4096 → fJ6_bitCount_0f7a4 (nI m) = some (nI (pct (fun k => m.testBit k) 12)) := by decide +kernel
theorem p_bits {x : Int32} (h : ∀ j, 12 ≤ j → bt x j = false) : ∃ m, m < 4096 ∧ x = nI m := by
  obtain ⟨m, h1, h2⟩ := pk_andE x (m := 4095) 12 (by decide)
  refine ⟨m, h1, ?_⟩
  rw [← h2]
  apply b_ext
  intro i hi
  rw [b_and, b_4095 i hi]
  by_cases h3 : i < 12
  · simp [h3]
  · simp [h3, h i (by omega)]
theorem bt_nI {m i : Nat} (hi : i < 32) : bt (nI m) i = m.testBit i := by
  show (BitVec.ofNat 32 m).getLsbD i = _
  rw [BitVec.getLsbD_ofNat, decide_eq_true hi, Bool.true_and]
theorem p_degree {nN : Nat → Int32} {i : Nat} (hi : i < 12) (h : ∀ j, 12 ≤ j → bt (nN i) j = false) : fX3_degree nN (nI i) = some (nI (pct (fun k => bt (nN i) k) 12)) := by
  unfold fX3_degree
  rw [if_pos (p_in hi (by omega)), p_cl (by omega)]
  obtain ⟨m, h1, h2⟩ := p_bits h
  rw [h2, p_bitCountN m h1]
  show some _ = some _
  congr 2
  exact pct_cong (fun k hk => (bt_nI (by omega)).symm)
