theorem dJ6_bitCount_0f7a4_0 : decode cJ6_bitCount_0f7a4 0 = .ok (.iload_n 0, 1) := by decide +kernel
theorem dJ6_bitCount_0f7a4_1 : decode cJ6_bitCount_0f7a4 1 = .ok (.iload_n 0, 1) := by decide +kernel
theorem dJ6_bitCount_0f7a4_2 : decode cJ6_bitCount_0f7a4 2 = .ok (.iconst 1, 1) := by decide +kernel
theorem dJ6_bitCount_0f7a4_3 : decode cJ6_bitCount_0f7a4 3 = .ok (.iushr, 1) := by decide +kernel
theorem dJ6_bitCount_0f7a4_4 : decode cJ6_bitCount_0f7a4 4 = .ok (.ldc_w 265, 3) := by decide +kernel
theorem dJ6_bitCount_0f7a4_7 : decode cJ6_bitCount_0f7a4 7 = .ok (.iand, 1) := by decide +kernel
theorem dJ6_bitCount_0f7a4_8 : decode cJ6_bitCount_0f7a4 8 = .ok (.isub, 1) := by decide +kernel
theorem dJ6_bitCount_0f7a4_9 : decode cJ6_bitCount_0f7a4 9 = .ok (.istore_n 0, 1) := by decide +kernel
theorem dJ6_bitCount_0f7a4_10 : decode cJ6_bitCount_0f7a4 10 = .ok (.iload_n 0, 1) := by decide +kernel
theorem dJ6_bitCount_0f7a4_11 : decode cJ6_bitCount_0f7a4 11 = .ok (.ldc_w 266, 3) := by decide +kernel
theorem dJ6_bitCount_0f7a4_14 : decode cJ6_bitCount_0f7a4 14 = .ok (.iand, 1) := by decide +kernel
theorem dJ6_bitCount_0f7a4_15 : decode cJ6_bitCount_0f7a4 15 = .ok (.iload_n 0, 1) := by decide +kernel
theorem dJ6_bitCount_0f7a4_16 : decode cJ6_bitCount_0f7a4 16 = .ok (.iconst 2, 1) := by decide +kernel
theorem dJ6_bitCount_0f7a4_17 : decode cJ6_bitCount_0f7a4 17 = .ok (.iushr, 1) := by decide +kernel
theorem dJ6_bitCount_0f7a4_18 : decode cJ6_bitCount_0f7a4 18 = .ok (.ldc_w 266, 3) := by decide +kernel
theorem dJ6_bitCount_0f7a4_21 : decode cJ6_bitCount_0f7a4 21 = .ok (.iand, 1) := by decide +kernel
theorem dJ6_bitCount_0f7a4_22 : decode cJ6_bitCount_0f7a4 22 = .ok (.iadd, 1) := by decide +kernel
theorem dJ6_bitCount_0f7a4_23 : decode cJ6_bitCount_0f7a4 23 = .ok (.istore_n 0, 1) := by decide +kernel
theorem dJ6_bitCount_0f7a4_24 : decode cJ6_bitCount_0f7a4 24 = .ok (.iload_n 0, 1) := by decide +kernel
theorem dJ6_bitCount_0f7a4_25 : decode cJ6_bitCount_0f7a4 25 = .ok (.iload_n 0, 1) := by decide +kernel
theorem dJ6_bitCount_0f7a4_26 : decode cJ6_bitCount_0f7a4 26 = .ok (.iconst 4, 1) := by decide +kernel
theorem dJ6_bitCount_0f7a4_27 : decode cJ6_bitCount_0f7a4 27 = .ok (.iushr, 1) := by decide +kernel
theorem dJ6_bitCount_0f7a4_28 : decode cJ6_bitCount_0f7a4 28 = .ok (.iadd, 1) := by decide +kernel
theorem dJ6_bitCount_0f7a4_29 : decode cJ6_bitCount_0f7a4 29 = .ok (.ldc_w 267, 3) := by decide +kernel
theorem dJ6_bitCount_0f7a4_32 : decode cJ6_bitCount_0f7a4 32 = .ok (.iand, 1) := by decide +kernel
theorem dJ6_bitCount_0f7a4_33 : decode cJ6_bitCount_0f7a4 33 = .ok (.istore_n 0, 1) := by decide +kernel
theorem dJ6_bitCount_0f7a4_34 : decode cJ6_bitCount_0f7a4 34 = .ok (.iload_n 0, 1) := by decide +kernel
theorem dJ6_bitCount_0f7a4_35 : decode cJ6_bitCount_0f7a4 35 = .ok (.iload_n 0, 1) := by decide +kernel
theorem dJ6_bitCount_0f7a4_36 : decode cJ6_bitCount_0f7a4 36 = .ok (.bipush 8, 2) := by decide +kernel
theorem dJ6_bitCount_0f7a4_38 : decode cJ6_bitCount_0f7a4 38 = .ok (.iushr, 1) := by decide +kernel
theorem dJ6_bitCount_0f7a4_39 : decode cJ6_bitCount_0f7a4 39 = .ok (.iadd, 1) := by decide +kernel
theorem dJ6_bitCount_0f7a4_40 : decode cJ6_bitCount_0f7a4 40 = .ok (.istore_n 0, 1) := by decide +kernel
theorem dJ6_bitCount_0f7a4_41 : decode cJ6_bitCount_0f7a4 41 = .ok (.iload_n 0, 1) := by decide +kernel
theorem dJ6_bitCount_0f7a4_42 : decode cJ6_bitCount_0f7a4 42 = .ok (.iload_n 0, 1) := by decide +kernel
theorem dJ6_bitCount_0f7a4_43 : decode cJ6_bitCount_0f7a4 43 = .ok (.bipush 16, 2) := by decide +kernel
theorem dJ6_bitCount_0f7a4_45 : decode cJ6_bitCount_0f7a4 45 = .ok (.iushr, 1) := by decide +kernel
theorem dJ6_bitCount_0f7a4_46 : decode cJ6_bitCount_0f7a4 46 = .ok (.iadd, 1) := by decide +kernel
theorem dJ6_bitCount_0f7a4_47 : decode cJ6_bitCount_0f7a4 47 = .ok (.istore_n 0, 1) := by decide +kernel
theorem dJ6_bitCount_0f7a4_48 : decode cJ6_bitCount_0f7a4 48 = .ok (.iload_n 0, 1) := by decide +kernel
theorem dJ6_bitCount_0f7a4_49 : decode cJ6_bitCount_0f7a4 49 = .ok (.bipush 63, 2) := by decide +kernel
theorem dJ6_bitCount_0f7a4_51 : decode cJ6_bitCount_0f7a4 51 = .ok (.iand, 1) := by decide +kernel
theorem dJ6_bitCount_0f7a4_52 : decode cJ6_bitCount_0f7a4 52 = .ok (.ireturn, 1) := by decide +kernel
theorem mJ6_bitCount_0f7a4_0 : Cond.constant RJ6 265 (1431655765) ∈ wsJ6_bitCount_0f7a4 := by decide +kernel
theorem mJ6_bitCount_0f7a4_1 : Cond.constant RJ6 266 (858993459) ∈ wsJ6_bitCount_0f7a4 := by decide +kernel
theorem mJ6_bitCount_0f7a4_2 : Cond.constant RJ6 267 (252645135) ∈ wsJ6_bitCount_0f7a4 := by decide +kernel
def fJ6_bitCount_0f7a4 (i0 : Int32) : Option (Int32) := some ((((((((i0 - ((i0.toUInt32 >>> ((1 : Int32).toUInt32 &&& Int32.toUInt32 31)).toInt32 &&& 1431655765)) &&& 858993459) + (((i0 - ((i0.toUInt32 >>> ((1 : Int32).toUInt32 &&& Int32.toUInt32 31)).toInt32 &&& 1431655765)).toUInt32 >>> ((2 : Int32).toUInt32 &&& Int32.toUInt32 31)).toInt32 &&& 858993459)) + ((((i0 - ((i0.toUInt32 >>> ((1 : Int32).toUInt32 &&& Int32.toUInt32 31)).toInt32 &&& 1431655765)) &&& 858993459) + (((i0 - ((i0.toUInt32 >>> ((1 : Int32).toUInt32 &&& Int32.toUInt32 31)).toInt32 &&& 1431655765)).toUInt32 >>> ((2 : Int32).toUInt32 &&& Int32.toUInt32 31)).toInt32 &&& 858993459)).toUInt32 >>> ((4 : Int32).toUInt32 &&& Int32.toUInt32 31)).toInt32) &&& 252645135) + ((((((i0 - ((i0.toUInt32 >>> ((1 : Int32).toUInt32 &&& Int32.toUInt32 31)).toInt32 &&& 1431655765)) &&& 858993459) + (((i0 - ((i0.toUInt32 >>> ((1 : Int32).toUInt32 &&& Int32.toUInt32 31)).toInt32 &&& 1431655765)).toUInt32 >>> ((2 : Int32).toUInt32 &&& Int32.toUInt32 31)).toInt32 &&& 858993459)) + ((((i0 - ((i0.toUInt32 >>> ((1 : Int32).toUInt32 &&& Int32.toUInt32 31)).toInt32 &&& 1431655765)) &&& 858993459) + (((i0 - ((i0.toUInt32 >>> ((1 : Int32).toUInt32 &&& Int32.toUInt32 31)).toInt32 &&& 1431655765)).toUInt32 >>> ((2 : Int32).toUInt32 &&& Int32.toUInt32 31)).toInt32 &&& 858993459)).toUInt32 >>> ((4 : Int32).toUInt32 &&& Int32.toUInt32 31)).toInt32) &&& 252645135).toUInt32 >>> ((8 : Int32).toUInt32 &&& Int32.toUInt32 31)).toInt32) + (((((((i0 - ((i0.toUInt32 >>> ((1 : Int32).toUInt32 &&& Int32.toUInt32 31)).toInt32 &&& 1431655765)) &&& 858993459) + (((i0 - ((i0.toUInt32 >>> ((1 : Int32).toUInt32 &&& Int32.toUInt32 31)).toInt32 &&& 1431655765)).toUInt32 >>> ((2 : Int32).toUInt32 &&& Int32.toUInt32 31)).toInt32 &&& 858993459)) + ((((i0 - ((i0.toUInt32 >>> ((1 : Int32).toUInt32 &&& Int32.toUInt32 31)).toInt32 &&& 1431655765)) &&& 858993459) + (((i0 - ((i0.toUInt32 >>> ((1 : Int32).toUInt32 &&& Int32.toUInt32 31)).toInt32 &&& 1431655765)).toUInt32 >>> ((2 : Int32).toUInt32 &&& Int32.toUInt32 31)).toInt32 &&& 858993459)).toUInt32 >>> ((4 : Int32).toUInt32 &&& Int32.toUInt32 31)).toInt32) &&& 252645135) + ((((((i0 - ((i0.toUInt32 >>> ((1 : Int32).toUInt32 &&& Int32.toUInt32 31)).toInt32 &&& 1431655765)) &&& 858993459) + (((i0 - ((i0.toUInt32 >>> ((1 : Int32).toUInt32 &&& Int32.toUInt32 31)).toInt32 &&& 1431655765)).toUInt32 >>> ((2 : Int32).toUInt32 &&& Int32.toUInt32 31)).toInt32 &&& 858993459)) + ((((i0 - ((i0.toUInt32 >>> ((1 : Int32).toUInt32 &&& Int32.toUInt32 31)).toInt32 &&& 1431655765)) &&& 858993459) + (((i0 - ((i0.toUInt32 >>> ((1 : Int32).toUInt32 &&& Int32.toUInt32 31)).toInt32 &&& 1431655765)).toUInt32 >>> ((2 : Int32).toUInt32 &&& Int32.toUInt32 31)).toInt32 &&& 858993459)).toUInt32 >>> ((4 : Int32).toUInt32 &&& Int32.toUInt32 31)).toInt32) &&& 252645135).toUInt32 >>> ((8 : Int32).toUInt32 &&& Int32.toUInt32 31)).toInt32).toUInt32 >>> ((16 : Int32).toUInt32 &&& Int32.toUInt32 31)).toInt32) &&& 63)
set_option maxRecDepth 100000 in
set_option maxHeartbeats 4000000 in
theorem kJ6_bitCount_0f7a4 (l : Launch) (K : zK)   (i0 : Int32) (r : Int32) (hres : fJ6_bitCount_0f7a4 i0 = some r) : zM l K yJ6_bitCount_0f7a4 wsJ6_bitCount_0f7a4 ({ frames := 0, cells := 0, slots := 0, locals := 0 }) [.int i0] ([] : va_W) (fun _ : Unit => some (.int r)) (fun _ : Unit => ([] : va_W)) 0 0 := by
  refine zM.intI (cc := cJ6_bitCount_0f7a4) (maxL := 1) (ret := (some .int)) rfl (by decide) (Nat.le_of_ble_eq_true rfl) rfl ?_
  intro G hGl hG hN hE
  have hR : ∀ (pc : Nat) (lv : zL), decode cJ6_bitCount_0f7a4 pc = .ok (.ireturn, 1) → zj G pc lv [.int r] ([] : va_W) 0 0 := fun pc lv d => hE () _ rfl pc lv d
  clear hE
  unfold fJ6_bitCount_0f7a4 at hres
  show zj G 0 [(0, .int i0)] [] ([] : va_W) 0 0
  refine z_iload_n hG dJ6_bitCount_0f7a4_0 0 rfl ?_
  refine z_iload_n hG dJ6_bitCount_0f7a4_1 0 rfl ?_
  refine z_iconst 1 hG dJ6_bitCount_0f7a4_2 (by decide) ?_
  refine z_iushr hG dJ6_bitCount_0f7a4_3 ?_
  refine z_ldc_w hG dJ6_bitCount_0f7a4_4 mJ6_bitCount_0f7a4_0 ?_
  refine z_iand hG dJ6_bitCount_0f7a4_7 ?_
  refine z_isub hG dJ6_bitCount_0f7a4_8 ?_
  refine z_istore_n (lv' := [(0, .int (i0 - ((i0.toUInt32 >>> ((1 : Int32).toUInt32 &&& Int32.toUInt32 31)).toInt32 &&& 1431655765)))]) hG dJ6_bitCount_0f7a4_9 (by decide) rfl ?_
  refine z_iload_n hG dJ6_bitCount_0f7a4_10 0 rfl ?_
  refine z_ldc_w hG dJ6_bitCount_0f7a4_11 mJ6_bitCount_0f7a4_1 ?_
  refine z_iand hG dJ6_bitCount_0f7a4_14 ?_
  refine z_iload_n hG dJ6_bitCount_0f7a4_15 0 rfl ?_
  refine z_iconst 2 hG dJ6_bitCount_0f7a4_16 (by decide) ?_
  refine z_iushr hG dJ6_bitCount_0f7a4_17 ?_
  refine z_ldc_w hG dJ6_bitCount_0f7a4_18 mJ6_bitCount_0f7a4_1 ?_
  refine z_iand hG dJ6_bitCount_0f7a4_21 ?_
  refine z_iadd hG dJ6_bitCount_0f7a4_22 ?_
  refine z_istore_n (lv' := [(0, .int (((i0 - ((i0.toUInt32 >>> ((1 : Int32).toUInt32 &&& Int32.toUInt32 31)).toInt32 &&& 1431655765)) &&& 858993459) + (((i0 - ((i0.toUInt32 >>> ((1 : Int32).toUInt32 &&& Int32.toUInt32 31)).toInt32 &&& 1431655765)).toUInt32 >>> ((2 : Int32).toUInt32 &&& Int32.toUInt32 31)).toInt32 &&& 858993459)))]) hG dJ6_bitCount_0f7a4_23 (by decide) rfl ?_
  refine z_iload_n hG dJ6_bitCount_0f7a4_24 0 rfl ?_
  refine z_iload_n hG dJ6_bitCount_0f7a4_25 0 rfl ?_
  refine z_iconst 4 hG dJ6_bitCount_0f7a4_26 (by decide) ?_
  refine z_iushr hG dJ6_bitCount_0f7a4_27 ?_
  refine z_iadd hG dJ6_bitCount_0f7a4_28 ?_
  refine z_ldc_w hG dJ6_bitCount_0f7a4_29 mJ6_bitCount_0f7a4_2 ?_
  refine z_iand hG dJ6_bitCount_0f7a4_32 ?_
  refine z_istore_n (lv' := [(0, .int (((((i0 - ((i0.toUInt32 >>> ((1 : Int32).toUInt32 &&& Int32.toUInt32 31)).toInt32 &&& 1431655765)) &&& 858993459) + (((i0 - ((i0.toUInt32 >>> ((1 : Int32).toUInt32 &&& Int32.toUInt32 31)).toInt32 &&& 1431655765)).toUInt32 >>> ((2 : Int32).toUInt32 &&& Int32.toUInt32 31)).toInt32 &&& 858993459)) + ((((i0 - ((i0.toUInt32 >>> ((1 : Int32).toUInt32 &&& Int32.toUInt32 31)).toInt32 &&& 1431655765)) &&& 858993459) + (((i0 - ((i0.toUInt32 >>> ((1 : Int32).toUInt32 &&& Int32.toUInt32 31)).toInt32 &&& 1431655765)).toUInt32 >>> ((2 : Int32).toUInt32 &&& Int32.toUInt32 31)).toInt32 &&& 858993459)).toUInt32 >>> ((4 : Int32).toUInt32 &&& Int32.toUInt32 31)).toInt32) &&& 252645135))]) hG dJ6_bitCount_0f7a4_33 (by decide) rfl ?_
  refine z_iload_n hG dJ6_bitCount_0f7a4_34 0 rfl ?_
  refine z_iload_n hG dJ6_bitCount_0f7a4_35 0 rfl ?_
  refine z_bipush 8 hG dJ6_bitCount_0f7a4_36 (by decide) ?_
  refine z_iushr hG dJ6_bitCount_0f7a4_38 ?_
  refine z_iadd hG dJ6_bitCount_0f7a4_39 ?_
  refine z_istore_n (lv' := [(0, .int ((((((i0 - ((i0.toUInt32 >>> ((1 : Int32).toUInt32 &&& Int32.toUInt32 31)).toInt32 &&& 1431655765)) &&& 858993459) + (((i0 - ((i0.toUInt32 >>> ((1 : Int32).toUInt32 &&& Int32.toUInt32 31)).toInt32 &&& 1431655765)).toUInt32 >>> ((2 : Int32).toUInt32 &&& Int32.toUInt32 31)).toInt32 &&& 858993459)) + ((((i0 - ((i0.toUInt32 >>> ((1 : Int32).toUInt32 &&& Int32.toUInt32 31)).toInt32 &&& 1431655765)) &&& 858993459) + (((i0 - ((i0.toUInt32 >>> ((1 : Int32).toUInt32 &&& Int32.toUInt32 31)).toInt32 &&& 1431655765)).toUInt32 >>> ((2 : Int32).toUInt32 &&& Int32.toUInt32 31)).toInt32 &&& 858993459)).toUInt32 >>> ((4 : Int32).toUInt32 &&& Int32.toUInt32 31)).toInt32) &&& 252645135) + ((((((i0 - ((i0.toUInt32 >>> ((1 : Int32).toUInt32 &&& Int32.toUInt32 31)).toInt32 &&& 1431655765)) &&& 858993459) + (((i0 - ((i0.toUInt32 >>> ((1 : Int32).toUInt32 &&& Int32.toUInt32 31)).toInt32 &&& 1431655765)).toUInt32 >>> ((2 : Int32).toUInt32 &&& Int32.toUInt32 31)).toInt32 &&& 858993459)) + ((((i0 - ((i0.toUInt32 >>> ((1 : Int32).toUInt32 &&& Int32.toUInt32 31)).toInt32 &&& 1431655765)) &&& 858993459) + (((i0 - ((i0.toUInt32 >>> ((1 : Int32).toUInt32 &&& Int32.toUInt32 31)).toInt32 &&& 1431655765)).toUInt32 >>> ((2 : Int32).toUInt32 &&& Int32.toUInt32 31)).toInt32 &&& 858993459)).toUInt32 >>> ((4 : Int32).toUInt32 &&& Int32.toUInt32 31)).toInt32) &&& 252645135).toUInt32 >>> ((8 : Int32).toUInt32 &&& Int32.toUInt32 31)).toInt32))]) hG dJ6_bitCount_0f7a4_40 (by decide) rfl ?_
  refine z_iload_n hG dJ6_bitCount_0f7a4_41 0 rfl ?_
  refine z_iload_n hG dJ6_bitCount_0f7a4_42 0 rfl ?_
  refine z_bipush 16 hG dJ6_bitCount_0f7a4_43 (by decide) ?_
  refine z_iushr hG dJ6_bitCount_0f7a4_45 ?_
  refine z_iadd hG dJ6_bitCount_0f7a4_46 ?_
  refine z_istore_n (lv' := [(0, .int (((((((i0 - ((i0.toUInt32 >>> ((1 : Int32).toUInt32 &&& Int32.toUInt32 31)).toInt32 &&& 1431655765)) &&& 858993459) + (((i0 - ((i0.toUInt32 >>> ((1 : Int32).toUInt32 &&& Int32.toUInt32 31)).toInt32 &&& 1431655765)).toUInt32 >>> ((2 : Int32).toUInt32 &&& Int32.toUInt32 31)).toInt32 &&& 858993459)) + ((((i0 - ((i0.toUInt32 >>> ((1 : Int32).toUInt32 &&& Int32.toUInt32 31)).toInt32 &&& 1431655765)) &&& 858993459) + (((i0 - ((i0.toUInt32 >>> ((1 : Int32).toUInt32 &&& Int32.toUInt32 31)).toInt32 &&& 1431655765)).toUInt32 >>> ((2 : Int32).toUInt32 &&& Int32.toUInt32 31)).toInt32 &&& 858993459)).toUInt32 >>> ((4 : Int32).toUInt32 &&& Int32.toUInt32 31)).toInt32) &&& 252645135) + ((((((i0 - ((i0.toUInt32 >>> ((1 : Int32).toUInt32 &&& Int32.toUInt32 31)).toInt32 &&& 1431655765)) &&& 858993459) + (((i0 - ((i0.toUInt32 >>> ((1 : Int32).toUInt32 &&& Int32.toUInt32 31)).toInt32 &&& 1431655765)).toUInt32 >>> ((2 : Int32).toUInt32 &&& Int32.toUInt32 31)).toInt32 &&& 858993459)) + ((((i0 - ((i0.toUInt32 >>> ((1 : Int32).toUInt32 &&& Int32.toUInt32 31)).toInt32 &&& 1431655765)) &&& 858993459) + (((i0 - ((i0.toUInt32 >>> ((1 : Int32).toUInt32 &&& Int32.toUInt32 31)).toInt32 &&& 1431655765)).toUInt32 >>> ((2 : Int32).toUInt32 &&& Int32.toUInt32 31)).toInt32 &&& 858993459)).toUInt32 >>> ((4 : Int32).toUInt32 &&& Int32.toUInt32 31)).toInt32) &&& 252645135).toUInt32 >>> ((8 : Int32).toUInt32 &&& Int32.toUInt32 31)).toInt32) + (((((((i0 - ((i0.toUInt32 >>> ((1 : Int32).toUInt32 &&& Int32.toUInt32 31)).toInt32 &&& 1431655765)) &&& 858993459) + (((i0 - ((i0.toUInt32 >>> ((1 : Int32).toUInt32 &&& Int32.toUInt32 31)).toInt32 &&& 1431655765)).toUInt32 >>> ((2 : Int32).toUInt32 &&& Int32.toUInt32 31)).toInt32 &&& 858993459)) + ((((i0 - ((i0.toUInt32 >>> ((1 : Int32).toUInt32 &&& Int32.toUInt32 31)).toInt32 &&& 1431655765)) &&& 858993459) + (((i0 - ((i0.toUInt32 >>> ((1 : Int32).toUInt32 &&& Int32.toUInt32 31)).toInt32 &&& 1431655765)).toUInt32 >>> ((2 : Int32).toUInt32 &&& Int32.toUInt32 31)).toInt32 &&& 858993459)).toUInt32 >>> ((4 : Int32).toUInt32 &&& Int32.toUInt32 31)).toInt32) &&& 252645135) + ((((((i0 - ((i0.toUInt32 >>> ((1 : Int32).toUInt32 &&& Int32.toUInt32 31)).toInt32 &&& 1431655765)) &&& 858993459) + (((i0 - ((i0.toUInt32 >>> ((1 : Int32).toUInt32 &&& Int32.toUInt32 31)).toInt32 &&& 1431655765)).toUInt32 >>> ((2 : Int32).toUInt32 &&& Int32.toUInt32 31)).toInt32 &&& 858993459)) + ((((i0 - ((i0.toUInt32 >>> ((1 : Int32).toUInt32 &&& Int32.toUInt32 31)).toInt32 &&& 1431655765)) &&& 858993459) + (((i0 - ((i0.toUInt32 >>> ((1 : Int32).toUInt32 &&& Int32.toUInt32 31)).toInt32 &&& 1431655765)).toUInt32 >>> ((2 : Int32).toUInt32 &&& Int32.toUInt32 31)).toInt32 &&& 858993459)).toUInt32 >>> ((4 : Int32).toUInt32 &&& Int32.toUInt32 31)).toInt32) &&& 252645135).toUInt32 >>> ((8 : Int32).toUInt32 &&& Int32.toUInt32 31)).toInt32).toUInt32 >>> ((16 : Int32).toUInt32 &&& Int32.toUInt32 31)).toInt32))]) hG dJ6_bitCount_0f7a4_47 (by decide) rfl ?_
  refine z_iload_n hG dJ6_bitCount_0f7a4_48 0 rfl ?_
  refine z_bipush 63 hG dJ6_bitCount_0f7a4_49 (by decide) ?_
  refine z_iand hG dJ6_bitCount_0f7a4_51 ?_
  obtain rfl := Option.some.inj hres
  exact (hR _ _ dJ6_bitCount_0f7a4_52)

theorem dX5_hasBit_0 : decode cX5_hasBit 0 = .ok (.iload_n 0, 1) := by decide +kernel
theorem dX5_hasBit_1 : decode cX5_hasBit 1 = .ok (.iload_n 1, 1) := by decide +kernel
theorem dX5_hasBit_2 : decode cX5_hasBit 2 = .ok (.iushr, 1) := by decide +kernel
theorem dX5_hasBit_3 : decode cX5_hasBit 3 = .ok (.iconst 1, 1) := by decide +kernel
theorem dX5_hasBit_4 : decode cX5_hasBit 4 = .ok (.iand, 1) := by decide +kernel
theorem dX5_hasBit_5 : decode cX5_hasBit 5 = .ok (.ifCond .eq 7, 3) := by decide +kernel
theorem dX5_hasBit_8 : decode cX5_hasBit 8 = .ok (.iconst 1, 1) := by decide +kernel
theorem dX5_hasBit_9 : decode cX5_hasBit 9 = .ok (.goto 4, 3) := by decide +kernel
theorem dX5_hasBit_12 : decode cX5_hasBit 12 = .ok (.iconst 0, 1) := by decide +kernel
theorem dX5_hasBit_13 : decode cX5_hasBit 13 = .ok (.ireturn, 1) := by decide +kernel
def fX5_hasBit (b0 : Int32) (b1 : Int32) : Option (Int32) := if ((b0.toUInt32 >>> (b1.toUInt32 &&& Int32.toUInt32 31)).toInt32 &&& 1) = 0 then some 0 else some 1
set_option maxRecDepth 100000 in
set_option maxHeartbeats 4000000 in
theorem kX5_hasBit (l : Launch) (K : zK)   (b0 : Int32) (b1 : Int32) (r : Int32) (hres : fX5_hasBit b0 b1 = some r) : zM l K yX5_hasBit wsX5_hasBit ({ frames := 0, cells := 0, slots := 0, locals := 0 }) [.int b0, .int b1] ([] : va_W) (fun _ : Unit => some (.int r)) (fun _ : Unit => ([] : va_W)) 0 0 := by
  refine zM.intZ (cc := cX5_hasBit) (maxL := 2) (ret := (some .boolean)) rfl (by decide) (Nat.le_of_ble_eq_true rfl) rfl ?_
  intro G hGl hG hN hE
  have hR : ∀ (pc : Nat) (lv : zL), narrow .boolean (.int r) = .int r → decode cX5_hasBit pc = .ok (.ireturn, 1) → zj G pc lv [.int r] ([] : va_W) 0 0 := fun pc lv n d => hE () _ rfl n pc lv d
  clear hE
  unfold fX5_hasBit at hres
  show zj G 0 [(0, .int b0), (1, .int b1)] [] ([] : va_W) 0 0
  refine z_iload_n hG dX5_hasBit_0 0 rfl ?_
  refine z_iload_n hG dX5_hasBit_1 1 rfl ?_
  refine z_iushr hG dX5_hasBit_2 ?_
  refine z_iconst 1 hG dX5_hasBit_3 (by decide) ?_
  refine z_iand hG dX5_hasBit_4 ?_
  refine z_if_eq 12 hG dX5_hasBit_5 (by decide) (fun c => ?_) (fun c => ?_)
  · replace hres := z_ifp c hres
    refine z_iconst 0 hG dX5_hasBit_12 (by decide) ?_
    obtain rfl := Option.some.inj hres
    exact (hR _ _ (z_nar01 (Or.inl rfl)) dX5_hasBit_13)
  · replace hres := z_ifn c hres
    refine z_iconst 1 hG dX5_hasBit_8 (by decide) ?_
    refine z_goto 13 hG dX5_hasBit_9 (by decide) ?_
    obtain rfl := Option.some.inj hres
    exact (hR _ _ (z_nar01 (Or.inr rfl)) dX5_hasBit_13)

theorem dX3_withRoomAt_0 : decode cX3_withRoomAt 0 = .ok (.iconst 1, 1) := by decide +kernel
theorem dX3_withRoomAt_1 : decode cX3_withRoomAt 1 = .ok (.iload_n 1, 1) := by decide +kernel
theorem dX3_withRoomAt_2 : decode cX3_withRoomAt 2 = .ok (.ishl, 1) := by decide +kernel
theorem dX3_withRoomAt_3 : decode cX3_withRoomAt 3 = .ok (.iconst 1, 1) := by decide +kernel
theorem dX3_withRoomAt_4 : decode cX3_withRoomAt 4 = .ok (.isub, 1) := by decide +kernel
theorem dX3_withRoomAt_5 : decode cX3_withRoomAt 5 = .ok (.istore_n 2, 1) := by decide +kernel
theorem dX3_withRoomAt_6 : decode cX3_withRoomAt 6 = .ok (.iload_n 0, 1) := by decide +kernel
theorem dX3_withRoomAt_7 : decode cX3_withRoomAt 7 = .ok (.iload_n 2, 1) := by decide +kernel
theorem dX3_withRoomAt_8 : decode cX3_withRoomAt 8 = .ok (.iand, 1) := by decide +kernel
theorem dX3_withRoomAt_9 : decode cX3_withRoomAt 9 = .ok (.iload_n 0, 1) := by decide +kernel
theorem dX3_withRoomAt_10 : decode cX3_withRoomAt 10 = .ok (.iload_n 2, 1) := by decide +kernel
theorem dX3_withRoomAt_11 : decode cX3_withRoomAt 11 = .ok (.iconst (-1), 1) := by decide +kernel
theorem dX3_withRoomAt_12 : decode cX3_withRoomAt 12 = .ok (.ixor, 1) := by decide +kernel
theorem dX3_withRoomAt_13 : decode cX3_withRoomAt 13 = .ok (.iand, 1) := by decide +kernel
theorem dX3_withRoomAt_14 : decode cX3_withRoomAt 14 = .ok (.iconst 1, 1) := by decide +kernel
theorem dX3_withRoomAt_15 : decode cX3_withRoomAt 15 = .ok (.ishl, 1) := by decide +kernel
theorem dX3_withRoomAt_16 : decode cX3_withRoomAt 16 = .ok (.ior, 1) := by decide +kernel
theorem dX3_withRoomAt_17 : decode cX3_withRoomAt 17 = .ok (.ireturn, 1) := by decide +kernel
def fX3_withRoomAt (b0 : Int32) (b1 : Int32) : Option (Int32) := some ((b0 &&& (((1 : Int32) <<< (b1 &&& 31)) - 1)) ||| ((b0 &&& ((((1 : Int32) <<< (b1 &&& 31)) - 1) ^^^ (-1))) <<< ((1 : Int32) &&& 31)))
set_option maxRecDepth 100000 in
set_option maxHeartbeats 4000000 in
theorem kX3_withRoomAt (l : Launch) (K : zK)   (b0 : Int32) (b1 : Int32) (r : Int32) (hres : fX3_withRoomAt b0 b1 = some r) : zM l K yX3_withRoomAt wsX3_withRoomAt ({ frames := 0, cells := 0, slots := 0, locals := 0 }) [.int b0, .int b1] ([] : va_W) (fun _ : Unit => some (.int r)) (fun _ : Unit => ([] : va_W)) 0 0 := by
  refine zM.intI (cc := cX3_withRoomAt) (maxL := 3) (ret := (some .int)) rfl (by decide) (Nat.le_of_ble_eq_true rfl) rfl ?_
  intro G hGl hG hN hE
  have hR : ∀ (pc : Nat) (lv : zL), decode cX3_withRoomAt pc = .ok (.ireturn, 1) → zj G pc lv [.int r] ([] : va_W) 0 0 := fun pc lv d => hE () _ rfl pc lv d
  clear hE
  unfold fX3_withRoomAt at hres
  show zj G 0 [(0, .int b0), (1, .int b1)] [] ([] : va_W) 0 0
  refine z_iconst 1 hG dX3_withRoomAt_0 (by decide) ?_
  refine z_iload_n hG dX3_withRoomAt_1 1 rfl ?_
  refine z_ishl hG dX3_withRoomAt_2 ?_
  refine z_iconst 1 hG dX3_withRoomAt_3 (by decide) ?_
  refine z_isub hG dX3_withRoomAt_4 ?_
  refine z_istore_n (lv' := [(2, .int (((1 : Int32) <<< (b1 &&& 31)) - 1)), (0, .int b0), (1, .int b1)]) hG dX3_withRoomAt_5 (by decide) rfl ?_
  refine z_iload_n hG dX3_withRoomAt_6 1 rfl ?_
  refine z_iload_n hG dX3_withRoomAt_7 0 rfl ?_
  refine z_iand hG dX3_withRoomAt_8 ?_
  refine z_iload_n hG dX3_withRoomAt_9 1 rfl ?_
  refine z_iload_n hG dX3_withRoomAt_10 0 rfl ?_
  refine z_iconst (-1) hG dX3_withRoomAt_11 (by decide) ?_
  refine z_ixor hG dX3_withRoomAt_12 ?_
  refine z_iand hG dX3_withRoomAt_13 ?_
  refine z_iconst 1 hG dX3_withRoomAt_14 (by decide) ?_
  refine z_ishl hG dX3_withRoomAt_15 ?_
  refine z_ior hG dX3_withRoomAt_16 ?_
  obtain rfl := Option.some.inj hres
  exact (hR _ _ dX3_withRoomAt_17)

theorem dX3_without_0 : decode cX3_without 0 = .ok (.iconst 1, 1) := by decide +kernel
theorem dX3_without_1 : decode cX3_without 1 = .ok (.iload_n 1, 1) := by decide +kernel
theorem dX3_without_2 : decode cX3_without 2 = .ok (.ishl, 1) := by decide +kernel
theorem dX3_without_3 : decode cX3_without 3 = .ok (.iconst 1, 1) := by decide +kernel
theorem dX3_without_4 : decode cX3_without 4 = .ok (.isub, 1) := by decide +kernel
theorem dX3_without_5 : decode cX3_without 5 = .ok (.istore_n 2, 1) := by decide +kernel
theorem dX3_without_6 : decode cX3_without 6 = .ok (.iload_n 0, 1) := by decide +kernel
theorem dX3_without_7 : decode cX3_without 7 = .ok (.iload_n 2, 1) := by decide +kernel
theorem dX3_without_8 : decode cX3_without 8 = .ok (.iand, 1) := by decide +kernel
theorem dX3_without_9 : decode cX3_without 9 = .ok (.iload_n 0, 1) := by decide +kernel
theorem dX3_without_10 : decode cX3_without 10 = .ok (.iconst 1, 1) := by decide +kernel
theorem dX3_without_11 : decode cX3_without 11 = .ok (.iushr, 1) := by decide +kernel
theorem dX3_without_12 : decode cX3_without 12 = .ok (.iload_n 2, 1) := by decide +kernel
theorem dX3_without_13 : decode cX3_without 13 = .ok (.iconst (-1), 1) := by decide +kernel
theorem dX3_without_14 : decode cX3_without 14 = .ok (.ixor, 1) := by decide +kernel
theorem dX3_without_15 : decode cX3_without 15 = .ok (.iand, 1) := by decide +kernel
theorem dX3_without_16 : decode cX3_without 16 = .ok (.ior, 1) := by decide +kernel
theorem dX3_without_17 : decode cX3_without 17 = .ok (.ireturn, 1) := by decide +kernel
def fX3_without (b0 : Int32) (b1 : Int32) : Option (Int32) := some ((b0 &&& (((1 : Int32) <<< (b1 &&& 31)) - 1)) ||| ((b0.toUInt32 >>> ((1 : Int32).toUInt32 &&& Int32.toUInt32 31)).toInt32 &&& ((((1 : Int32) <<< (b1 &&& 31)) - 1) ^^^ (-1))))
set_option maxRecDepth 100000 in
set_option maxHeartbeats 4000000 in
theorem kX3_without (l : Launch) (K : zK)   (b0 : Int32) (b1 : Int32) (r : Int32) (hres : fX3_without b0 b1 = some r) : zM l K yX3_without wsX3_without ({ frames := 0, cells := 0, slots := 0, locals := 0 }) [.int b0, .int b1] ([] : va_W) (fun _ : Unit => some (.int r)) (fun _ : Unit => ([] : va_W)) 0 0 := by
  refine zM.intI (cc := cX3_without) (maxL := 3) (ret := (some .int)) rfl (by decide) (Nat.le_of_ble_eq_true rfl) rfl ?_
  intro G hGl hG hN hE
  have hR : ∀ (pc : Nat) (lv : zL), decode cX3_without pc = .ok (.ireturn, 1) → zj G pc lv [.int r] ([] : va_W) 0 0 := fun pc lv d => hE () _ rfl pc lv d
  clear hE
  unfold fX3_without at hres
  show zj G 0 [(0, .int b0), (1, .int b1)] [] ([] : va_W) 0 0
  refine z_iconst 1 hG dX3_without_0 (by decide) ?_
  refine z_iload_n hG dX3_without_1 1 rfl ?_
  refine z_ishl hG dX3_without_2 ?_
  refine z_iconst 1 hG dX3_without_3 (by decide) ?_
  refine z_isub hG dX3_without_4 ?_
  refine z_istore_n (lv' := [(2, .int (((1 : Int32) <<< (b1 &&& 31)) - 1)), (0, .int b0), (1, .int b1)]) hG dX3_without_5 (by decide) rfl ?_
  refine z_iload_n hG dX3_without_6 1 rfl ?_
  refine z_iload_n hG dX3_without_7 0 rfl ?_
  refine z_iand hG dX3_without_8 ?_
  refine z_iload_n hG dX3_without_9 1 rfl ?_
  refine z_iconst 1 hG dX3_without_10 (by decide) ?_
  refine z_iushr hG dX3_without_11 ?_
  refine z_iload_n hG dX3_without_12 0 rfl ?_
  refine z_iconst (-1) hG dX3_without_13 (by decide) ?_
  refine z_ixor hG dX3_without_14 ?_
  refine z_iand hG dX3_without_15 ?_
  refine z_ior hG dX3_without_16 ?_
  obtain rfl := Option.some.inj hres
  exact (hR _ _ dX3_without_17)

theorem dX3_joins_0 : decode cX3_joins 0 = .ok (.aload_n 0, 1) := by decide +kernel
theorem dX3_joins_1 : decode cX3_joins 1 = .ok (.getfield 15, 3) := by decide +kernel
theorem dX3_joins_4 : decode cX3_joins 4 = .ok (.iload_n 1, 1) := by decide +kernel
theorem dX3_joins_5 : decode cX3_joins 5 = .ok (.iaload, 1) := by decide +kernel
theorem dX3_joins_6 : decode cX3_joins 6 = .ok (.iload_n 2, 1) := by decide +kernel
theorem dX3_joins_7 : decode cX3_joins 7 = .ok (.invokestatic 29, 3) := by decide +kernel
theorem dX3_joins_10 : decode cX3_joins 10 = .ok (.ireturn, 1) := by decide +kernel
set_option maxRecDepth 20000 in
theorem ggX3_joins_X5_hasBit : GoodIn wsX3_joins wsX5_hasBit := goodIn_r _ [4] (by decide +kernel) (by decide +kernel)
set_option maxRecDepth 20000 in
theorem gX3_joins_X5_hasBit_n29 : GoodIn wsX3_joins (wsX5_hasBit) := ggX3_joins_X5_hasBit
theorem mX3_joins_0 : Cond.fieldLink RX3 15 "Layerways$Net" "near" "[I" ∈ wsX3_joins := by decide +kernel
theorem iX3_joins_X3 : ∀ w ∈ u_ws RX3 TX3 3, w ∈ wsX3_joins := by decide +kernel
theorem mX3_joins_2 : Cond.initialized RX5 ∈ wsX3_joins := by decide +kernel
theorem mX3_joins_3 : Cond.static yX5_hasBit ∈ wsX3_joins := by decide +kernel
def fX3_joins (nN : (Nat → Int32)) (p0 : Int32) (p1 : Int32) : Option (Int32) := if zin p0 12 then (fX5_hasBit (nN p0.toNatClampNeg) p1).bind fun v1 => if (v1 = 0 ∨ v1 = 1) then some v1 else none else none
set_option maxRecDepth 100000 in
set_option maxHeartbeats 4000000 in
theorem kX3_joins (l : Launch) (K : zK) (aN : Nat) (aNk : Nat) (aNn : Nat)  (nS : Int32) (nK : (Nat → Int32)) (nN : (Nat → Int32)) (p0 : Int32) (p1 : Int32) (r : Int32) (hres : fX3_joins nN p0 p1 = some r) : zM l K yX3_joins wsX3_joins ({ frames := 1, cells := 0, slots := 0, locals := 21 }) [.ref aN, .int p0, .int p1] [(aN, .inr (3, [.ref aNk, .ref aNn, .int nS])), (aNk, .inl (K.2 0, 12, .inl nK)), (aNn, .inl (K.2 0, 12, .inl nN))] (fun _ : Unit => some (.int r)) (fun _ : Unit => [(aN, .inr (3, [.ref aNk, .ref aNn, .int nS])), (aNk, .inl (K.2 0, 12, .inl nK)), (aNn, .inl (K.2 0, 12, .inl nN))]) 0 0 := by
  refine zM.intZ (cc := cX3_joins) (maxL := 3) (ret := (some .boolean)) rfl (by decide) (Nat.le_of_ble_eq_true rfl) rfl ?_
  intro G hGl hG hN hE
  have hR : ∀ (pc : Nat) (lv : zL), narrow .boolean (.int r) = .int r → decode cX3_joins pc = .ok (.ireturn, 1) → zj G pc lv [.int r] [(aN, .inr (3, [.ref aNk, .ref aNn, .int nS])), (aNk, .inl (K.2 0, 12, .inl nK)), (aNn, .inl (K.2 0, 12, .inl nN))] 0 0 := fun pc lv n d => hE () _ rfl n pc lv d
  clear hE
  unfold fX3_joins at hres
  show zj G 0 [(0, .ref aN), (1, .int p0), (2, .int p1)] [] [(aN, .inr (3, [.ref aNk, .ref aNn, .int nS])), (aNk, .inl (K.2 0, 12, .inl nK)), (aNn, .inl (K.2 0, 12, .inl nN))] 0 0
  refine z_aload_n hG dX3_joins_0 0 rfl ?_
  refine z_get (ci := 3) (C := RX3) (T := TX3) (N := 3) hG dX3_joins_1 iX3_joins_X3 1 (by decide) mX3_joins_0 rfl rfl 0 rfl rfl ?_
  refine z_iload_n hG dX3_joins_4 1 rfl ?_
  obtain ⟨hg, hres⟩ := z_guard hres
  refine z_iald hG dX3_joins_5 2 rfl hg ?_
  refine z_iload_n hG dX3_joins_6 2 rfl ?_
  obtain ⟨v1, hv, hres⟩ := z_bind hres
  refine z_callSN (As := [.int (nN p0.toNatClampNeg), .int p1]) (rest := []) (wr := [(aN, .inr (3, [.ref aNk, .ref aNn, .int nS])), (aNk, .inl (K.2 0, 12, .inl nK)), (aNn, .inl (K.2 0, 12, .inl nN))]) (ws' := (fun _ : Unit => [(aN, .inr (3, [.ref aNk, .ref aNn, .int nS])), (aNk, .inl (K.2 0, 12, .inl nK)), (aNn, .inl (K.2 0, 12, .inl nN))])) (stk := (fun _ : Unit => [.int v1])) (kc' := 0) (ks' := 0) (n := 2) (host := RX5) hG dX3_joins_7 (kX5_hasBit _ K (nN p0.toNatClampNeg) p1 v1 hv) gX3_joins_X5_hasBit_n29 rfl rfl rfl ⟨by decide, by decide, rfl⟩ ⟨by decide, by decide⟩ (Nat.le_of_ble_eq_true rfl) ⟨(Nat.le_of_ble_eq_true rfl), (Nat.le_of_ble_eq_true rfl)⟩ [] [0, 1, 2] [0, 1, 2] rfl rfl rfl rfl (by decide) rfl (fun _ => rfl) (fun _ => rfl) rfl (fun h => h.1) mX3_joins_2 mX3_joins_3 rfl rfl rfl (fun _ => ?_)
  obtain ⟨hg, hres⟩ := z_guard hres
  obtain rfl := Option.some.inj hres
  exact (hR _ _ (z_nar01 hg) dX3_joins_10)

theorem dX3_degree_0 : decode cX3_degree 0 = .ok (.aload_n 0, 1) := by decide +kernel
theorem dX3_degree_1 : decode cX3_degree 1 = .ok (.getfield 15, 3) := by decide +kernel
theorem dX3_degree_4 : decode cX3_degree 4 = .ok (.iload_n 1, 1) := by decide +kernel
theorem dX3_degree_5 : decode cX3_degree 5 = .ok (.iaload, 1) := by decide +kernel
theorem dX3_degree_6 : decode cX3_degree 6 = .ok (.invokestatic 33, 3) := by decide +kernel
theorem dX3_degree_9 : decode cX3_degree 9 = .ok (.ireturn, 1) := by decide +kernel
set_option maxRecDepth 20000 in
theorem ggX3_degree_J6_bitCount_0f7a4 : GoodIn wsX3_degree wsJ6_bitCount_0f7a4 := goodIn_r _ [5, 6, 7, 8] (by decide +kernel) (by decide +kernel)
set_option maxRecDepth 20000 in
theorem gX3_degree_J6_bitCount_0f7a4 : GoodIn wsX3_degree (va_wsS RX3 33 yJ6_bitCount_0f7a4 wsJ6_bitCount_0f7a4) := goodIn_app (goodIn_of _ (by decide +kernel)) ggX3_degree_J6_bitCount_0f7a4
theorem mX3_degree_0 : Cond.fieldLink RX3 15 "Layerways$Net" "near" "[I" ∈ wsX3_degree := by decide +kernel
theorem iX3_degree_X3 : ∀ w ∈ u_ws RX3 TX3 3, w ∈ wsX3_degree := by decide +kernel
def fX3_degree (nN : (Nat → Int32)) (p0 : Int32) : Option (Int32) := if zin p0 12 then (fJ6_bitCount_0f7a4 (nN p0.toNatClampNeg)).bind fun v1 => some v1 else none
set_option maxRecDepth 100000 in
set_option maxHeartbeats 4000000 in
theorem kX3_degree (l : Launch) (K : zK) (aN : Nat) (aNk : Nat) (aNn : Nat)  (nS : Int32) (nK : (Nat → Int32)) (nN : (Nat → Int32)) (p0 : Int32) (r : Int32) (hres : fX3_degree nN p0 = some r) : zM l K yX3_degree wsX3_degree ({ frames := 1, cells := 0, slots := 0, locals := 20 }) [.ref aN, .int p0] [(aN, .inr (3, [.ref aNk, .ref aNn, .int nS])), (aNk, .inl (K.2 0, 12, .inl nK)), (aNn, .inl (K.2 0, 12, .inl nN))] (fun _ : Unit => some (.int r)) (fun _ : Unit => [(aN, .inr (3, [.ref aNk, .ref aNn, .int nS])), (aNk, .inl (K.2 0, 12, .inl nK)), (aNn, .inl (K.2 0, 12, .inl nN))]) 0 0 := by
  refine zM.intI (cc := cX3_degree) (maxL := 2) (ret := (some .int)) rfl (by decide) (Nat.le_of_ble_eq_true rfl) rfl ?_
  intro G hGl hG hN hE
  have hR : ∀ (pc : Nat) (lv : zL), decode cX3_degree pc = .ok (.ireturn, 1) → zj G pc lv [.int r] [(aN, .inr (3, [.ref aNk, .ref aNn, .int nS])), (aNk, .inl (K.2 0, 12, .inl nK)), (aNn, .inl (K.2 0, 12, .inl nN))] 0 0 := fun pc lv d => hE () _ rfl pc lv d
  clear hE
  unfold fX3_degree at hres
  show zj G 0 [(0, .ref aN), (1, .int p0)] [] [(aN, .inr (3, [.ref aNk, .ref aNn, .int nS])), (aNk, .inl (K.2 0, 12, .inl nK)), (aNn, .inl (K.2 0, 12, .inl nN))] 0 0
  refine z_aload_n hG dX3_degree_0 0 rfl ?_
  refine z_get (ci := 3) (C := RX3) (T := TX3) (N := 3) hG dX3_degree_1 iX3_degree_X3 1 (by decide) mX3_degree_0 rfl rfl 0 rfl rfl ?_
  refine z_iload_n hG dX3_degree_4 1 rfl ?_
  obtain ⟨hg, hres⟩ := z_guard hres
  refine z_iald hG dX3_degree_5 2 rfl hg ?_
  obtain ⟨v1, hv, hres⟩ := z_bind hres
  refine z_callS (As := [.int (nN p0.toNatClampNeg)]) (rest := []) (wr := [(aN, .inr (3, [.ref aNk, .ref aNn, .int nS])), (aNk, .inl (K.2 0, 12, .inl nK)), (aNn, .inl (K.2 0, 12, .inl nN))]) (ws' := (fun _ : Unit => [(aN, .inr (3, [.ref aNk, .ref aNn, .int nS])), (aNk, .inl (K.2 0, 12, .inl nK)), (aNn, .inl (K.2 0, 12, .inl nN))])) (stk := (fun _ : Unit => [.int v1])) (kc' := 0) (ks' := 0) (n := 1) hG dX3_degree_6 (kJ6_bitCount_0f7a4 _ K (nN p0.toNatClampNeg) v1 hv) gX3_degree_J6_bitCount_0f7a4 rfl rfl rfl ⟨by decide, by decide, rfl⟩ ⟨by decide, by decide⟩ (Nat.le_of_ble_eq_true rfl) ⟨(Nat.le_of_ble_eq_true rfl), (Nat.le_of_ble_eq_true rfl)⟩ [] [0, 1, 2] [0, 1, 2] rfl rfl rfl rfl (by decide) rfl (fun _ => rfl) (fun _ => rfl) rfl rfl rfl rfl (fun _ => ?_)
  obtain rfl := Option.some.inj hres
  exact (hR _ _ dX3_degree_9)

theorem dX3_find_0 : decode cX3_find 0 = .ok (.iconst 0, 1) := by decide +kernel
theorem dX3_find_1 : decode cX3_find 1 = .ok (.istore_n 2, 1) := by decide +kernel
theorem dX3_find_2 : decode cX3_find 2 = .ok (.iload_n 2, 1) := by decide +kernel
theorem dX3_find_3 : decode cX3_find 3 = .ok (.aload_n 0, 1) := by decide +kernel
theorem dX3_find_4 : decode cX3_find 4 = .ok (.getfield 18, 3) := by decide +kernel
theorem dX3_find_7 : decode cX3_find 7 = .ok (.if_icmp .ge 21, 3) := by decide +kernel
theorem dX3_find_10 : decode cX3_find 10 = .ok (.aload_n 0, 1) := by decide +kernel
theorem dX3_find_11 : decode cX3_find 11 = .ok (.getfield 9, 3) := by decide +kernel
theorem dX3_find_14 : decode cX3_find 14 = .ok (.iload_n 2, 1) := by decide +kernel
theorem dX3_find_15 : decode cX3_find 15 = .ok (.iaload, 1) := by decide +kernel
theorem dX3_find_16 : decode cX3_find 16 = .ok (.iload_n 1, 1) := by decide +kernel
theorem dX3_find_17 : decode cX3_find 17 = .ok (.if_icmp .ne 5, 3) := by decide +kernel
theorem dX3_find_20 : decode cX3_find 20 = .ok (.iload_n 2, 1) := by decide +kernel
theorem dX3_find_21 : decode cX3_find 21 = .ok (.ireturn, 1) := by decide +kernel
theorem dX3_find_22 : decode cX3_find 22 = .ok (.iinc 2 1, 3) := by decide +kernel
theorem dX3_find_25 : decode cX3_find 25 = .ok (.goto (-23), 3) := by decide +kernel
theorem dX3_find_28 : decode cX3_find 28 = .ok (.iconst (-1), 1) := by decide +kernel
theorem dX3_find_29 : decode cX3_find 29 = .ok (.ireturn, 1) := by decide +kernel
theorem mX3_find_0 : Cond.fieldLink RX3 18 "Layerways$Net" "size" "I" ∈ wsX3_find := by decide +kernel
theorem iX3_find_X3 : ∀ w ∈ u_ws RX3 TX3 3, w ∈ wsX3_find := by decide +kernel
theorem mX3_find_2 : Cond.fieldLink RX3 9 "Layerways$Net" "keys" "[I" ∈ wsX3_find := by decide +kernel
def sX3_find_2 (nS : Int32) (nK : (Nat → Int32)) (p0 : Int32) (s1 : Int32) : Option ((Int32 ⊕ Int32) ⊕ Int32) := if nS ≤ s1 then some (.inl (.inr s1)) else if zin s1 12 then if (nK s1.toNatClampNeg) = p0 then some (.inl (.inl s1)) else some (.inr (s1 + 1)) else none
def fX3_find (nS : Int32) (nK : (Nat → Int32)) (p0 : Int32) : Option (Int32) := (zloop (sX3_find_2 nS nK p0) 32 0).bind fun e3 => Sum.elim (fun p5 : Int32 => some p5) (fun e3 : Int32 => some (-1)) e3
set_option maxRecDepth 100000 in
set_option maxHeartbeats 4000000 in
theorem kX3_find (l : Launch) (K : zK) (aN : Nat) (aNk : Nat) (aNn : Nat)  (nS : Int32) (nK : (Nat → Int32)) (nN : (Nat → Int32)) (p0 : Int32) (r : Int32) (hres : fX3_find nS nK p0 = some r) : zM l K yX3_find wsX3_find ({ frames := 0, cells := 0, slots := 0, locals := 0 }) [.ref aN, .int p0] [(aN, .inr (3, [.ref aNk, .ref aNn, .int nS])), (aNk, .inl (K.2 0, 12, .inl nK)), (aNn, .inl (K.2 0, 12, .inl nN))] (fun _ : Unit => some (.int r)) (fun _ : Unit => [(aN, .inr (3, [.ref aNk, .ref aNn, .int nS])), (aNk, .inl (K.2 0, 12, .inl nK)), (aNn, .inl (K.2 0, 12, .inl nN))]) 0 0 := by
  refine zM.intI (cc := cX3_find) (maxL := 3) (ret := (some .int)) rfl (by decide) (Nat.le_of_ble_eq_true rfl) rfl ?_
  intro G hGl hG hN hE
  have hR : ∀ (pc : Nat) (lv : zL), decode cX3_find pc = .ok (.ireturn, 1) → zj G pc lv [.int r] [(aN, .inr (3, [.ref aNk, .ref aNn, .int nS])), (aNk, .inl (K.2 0, 12, .inl nK)), (aNn, .inl (K.2 0, 12, .inl nN))] 0 0 := fun pc lv d => hE () _ rfl pc lv d
  clear hE
  unfold fX3_find at hres
  show zj G 0 [(0, .ref aN), (1, .int p0)] [] [(aN, .inr (3, [.ref aNk, .ref aNn, .int nS])), (aNk, .inl (K.2 0, 12, .inl nK)), (aNn, .inl (K.2 0, 12, .inl nN))] 0 0
  refine z_iconst 0 hG dX3_find_0 (by decide) ?_
  refine z_istore_n (lv' := [(2, .int 0), (0, .ref aN), (1, .int p0)]) hG dX3_find_1 (by decide) rfl ?_
  obtain ⟨e3, hx, hres⟩ := z_bind hres
  refine z_lv [1, 2, 0] (lv' := [(0, .ref aN), (1, .int p0), (2, .int 0)]) rfl ?_
  refine z_loopE hx (fun s1 : Int32 => [(0, .ref aN), (1, .int p0), (2, .int s1)]) (fun s1 : Int32 => [(aN, .inr (3, [.ref aNk, .ref aNn, .int nS])), (aNk, .inl (K.2 0, 12, .inl nK)), (aNn, .inl (K.2 0, 12, .inl nN))]) (fun p5 : Int32 => ∀ (pc : Nat) (lv : zL), decode cX3_find pc = .ok (.ireturn, 1) → zj G pc lv [.int p5] [(aN, .inr (3, [.ref aNk, .ref aNn, .int nS])), (aNk, .inl (K.2 0, 12, .inl nK)), (aNn, .inl (K.2 0, 12, .inl nN))] 0 0) (fun e3 : Int32 => zj G 28 [(0, .ref aN), (1, .int p0), (2, .int e3)] [] [(aN, .inr (3, [.ref aNk, .ref aNn, .int nS])), (aNk, .inl (K.2 0, 12, .inl nK)), (aNn, .inl (K.2 0, 12, .inl nN))] 0 0) (fun p5 hp => ?_) (fun e3 hp => ?_) ?_
  · subst hp
    replace hres := z_eliml hres
    obtain rfl := Option.some.inj hres
    exact hR
  · subst hp
    replace hres := z_elimr hres
    refine z_iconst (-1) hG dX3_find_28 (by decide) ?_
    obtain rfl := Option.some.inj hres
    exact (hR _ _ dX3_find_29)
  · intro s1 w2 hres hX1 hX2 hB
    unfold sX3_find_2 at hres
    refine z_iload_n hG dX3_find_2 2 rfl ?_
    refine z_aload_n hG dX3_find_3 0 rfl ?_
    refine z_get (ci := 3) (C := RX3) (T := TX3) (N := 3) hG dX3_find_4 iX3_find_X3 2 (by decide) mX3_find_0 rfl rfl 0 rfl rfl ?_
    refine z_icmp_ge 28 hG dX3_find_7 (by decide) (fun c => ?_) (fun c => ?_)
    · replace hres := z_ifp c hres
      exact (hX2 s1 (Option.some.inj hres).symm)
    · replace hres := z_ifn c hres
      refine z_aload_n hG dX3_find_10 0 rfl ?_
      refine z_get (ci := 3) (C := RX3) (T := TX3) (N := 3) hG dX3_find_11 iX3_find_X3 0 (by decide) mX3_find_2 rfl rfl 0 rfl rfl ?_
      refine z_iload_n hG dX3_find_14 2 rfl ?_
      obtain ⟨hg, hres⟩ := z_guard hres
      refine z_iald hG dX3_find_15 1 rfl hg ?_
      refine z_iload_n hG dX3_find_16 1 rfl ?_
      refine z_icmp_ne 22 hG dX3_find_17 (by decide) (fun c => ?_) (fun c => ?_)
      · replace hres := z_ifn c hres
        refine z_iinc (s1 + 1) (lv' := [(2, .int (s1 + 1)), (0, .ref aN), (1, .int p0)]) hG dX3_find_22 2 rfl rfl (by decide) rfl ?_
        refine z_goto 2 hG dX3_find_25 (by decide) ?_
        exact (z_lv [1, 2, 0] rfl (hB (s1 + 1) (Option.some.inj hres).symm))
      · replace hres := z_ifp c hres
        refine z_iload_n hG dX3_find_20 2 rfl ?_
        exact (hX1 s1 (Option.some.inj hres).symm _ _ dX3_find_21)

theorem dX3_insert_0 : decode cX3_insert 0 = .ok (.aload_n 0, 1) := by decide +kernel
theorem dX3_insert_1 : decode cX3_insert 1 = .ok (.getfield 18, 3) := by decide +kernel
theorem dX3_insert_4 : decode cX3_insert 4 = .ok (.bipush 12, 2) := by decide +kernel
theorem dX3_insert_6 : decode cX3_insert 6 = .ok (.if_icmp .lt 4, 3) := by decide +kernel
theorem dX3_insert_9 : decode cX3_insert 9 = .ok (.return_, 1) := by decide +kernel
theorem dX3_insert_10 : decode cX3_insert 10 = .ok (.aload_n 0, 1) := by decide +kernel
theorem dX3_insert_11 : decode cX3_insert 11 = .ok (.getfield 18, 3) := by decide +kernel
theorem dX3_insert_14 : decode cX3_insert 14 = .ok (.istore_n 2, 1) := by decide +kernel
theorem dX3_insert_15 : decode cX3_insert 15 = .ok (.iload_n 2, 1) := by decide +kernel
theorem dX3_insert_16 : decode cX3_insert 16 = .ok (.ifCond .le 49, 3) := by decide +kernel
theorem dX3_insert_19 : decode cX3_insert 19 = .ok (.aload_n 0, 1) := by decide +kernel
theorem dX3_insert_20 : decode cX3_insert 20 = .ok (.getfield 9, 3) := by decide +kernel
theorem dX3_insert_23 : decode cX3_insert 23 = .ok (.iload_n 2, 1) := by decide +kernel
theorem dX3_insert_24 : decode cX3_insert 24 = .ok (.iconst 1, 1) := by decide +kernel
theorem dX3_insert_25 : decode cX3_insert 25 = .ok (.isub, 1) := by decide +kernel
theorem dX3_insert_26 : decode cX3_insert 26 = .ok (.iaload, 1) := by decide +kernel
theorem dX3_insert_27 : decode cX3_insert 27 = .ok (.iload_n 1, 1) := by decide +kernel
theorem dX3_insert_28 : decode cX3_insert 28 = .ok (.if_icmp .le 37, 3) := by decide +kernel
theorem dX3_insert_31 : decode cX3_insert 31 = .ok (.aload_n 0, 1) := by decide +kernel
theorem dX3_insert_32 : decode cX3_insert 32 = .ok (.getfield 9, 3) := by decide +kernel
theorem dX3_insert_35 : decode cX3_insert 35 = .ok (.iload_n 2, 1) := by decide +kernel
theorem dX3_insert_36 : decode cX3_insert 36 = .ok (.aload_n 0, 1) := by decide +kernel
theorem dX3_insert_37 : decode cX3_insert 37 = .ok (.getfield 9, 3) := by decide +kernel
theorem dX3_insert_40 : decode cX3_insert 40 = .ok (.iload_n 2, 1) := by decide +kernel
theorem dX3_insert_41 : decode cX3_insert 41 = .ok (.iconst 1, 1) := by decide +kernel
theorem dX3_insert_42 : decode cX3_insert 42 = .ok (.isub, 1) := by decide +kernel
theorem dX3_insert_43 : decode cX3_insert 43 = .ok (.iaload, 1) := by decide +kernel
theorem dX3_insert_44 : decode cX3_insert 44 = .ok (.iastore, 1) := by decide +kernel
theorem dX3_insert_45 : decode cX3_insert 45 = .ok (.aload_n 0, 1) := by decide +kernel
theorem dX3_insert_46 : decode cX3_insert 46 = .ok (.getfield 15, 3) := by decide +kernel
theorem dX3_insert_49 : decode cX3_insert 49 = .ok (.iload_n 2, 1) := by decide +kernel
theorem dX3_insert_50 : decode cX3_insert 50 = .ok (.aload_n 0, 1) := by decide +kernel
theorem dX3_insert_51 : decode cX3_insert 51 = .ok (.getfield 15, 3) := by decide +kernel
theorem dX3_insert_54 : decode cX3_insert 54 = .ok (.iload_n 2, 1) := by decide +kernel
theorem dX3_insert_55 : decode cX3_insert 55 = .ok (.iconst 1, 1) := by decide +kernel
theorem dX3_insert_56 : decode cX3_insert 56 = .ok (.isub, 1) := by decide +kernel
theorem dX3_insert_57 : decode cX3_insert 57 = .ok (.iaload, 1) := by decide +kernel
theorem dX3_insert_58 : decode cX3_insert 58 = .ok (.iastore, 1) := by decide +kernel
theorem dX3_insert_59 : decode cX3_insert 59 = .ok (.iinc 2 (-1), 3) := by decide +kernel
theorem dX3_insert_62 : decode cX3_insert 62 = .ok (.goto (-47), 3) := by decide +kernel
theorem dX3_insert_65 : decode cX3_insert 65 = .ok (.aload_n 0, 1) := by decide +kernel
theorem dX3_insert_66 : decode cX3_insert 66 = .ok (.getfield 9, 3) := by decide +kernel
theorem dX3_insert_69 : decode cX3_insert 69 = .ok (.iload_n 2, 1) := by decide +kernel
theorem dX3_insert_70 : decode cX3_insert 70 = .ok (.iload_n 1, 1) := by decide +kernel
theorem dX3_insert_71 : decode cX3_insert 71 = .ok (.iastore, 1) := by decide +kernel
theorem dX3_insert_72 : decode cX3_insert 72 = .ok (.aload_n 0, 1) := by decide +kernel
theorem dX3_insert_73 : decode cX3_insert 73 = .ok (.getfield 15, 3) := by decide +kernel
theorem dX3_insert_76 : decode cX3_insert 76 = .ok (.iload_n 2, 1) := by decide +kernel
theorem dX3_insert_77 : decode cX3_insert 77 = .ok (.iconst 0, 1) := by decide +kernel
theorem dX3_insert_78 : decode cX3_insert 78 = .ok (.iastore, 1) := by decide +kernel
theorem dX3_insert_79 : decode cX3_insert 79 = .ok (.aload_n 0, 1) := by decide +kernel
theorem dX3_insert_80 : decode cX3_insert 80 = .ok (.dup, 1) := by decide +kernel
theorem dX3_insert_81 : decode cX3_insert 81 = .ok (.getfield 18, 3) := by decide +kernel
theorem dX3_insert_84 : decode cX3_insert 84 = .ok (.iconst 1, 1) := by decide +kernel
theorem dX3_insert_85 : decode cX3_insert 85 = .ok (.iadd, 1) := by decide +kernel
theorem dX3_insert_86 : decode cX3_insert 86 = .ok (.putfield 18, 3) := by decide +kernel
theorem dX3_insert_89 : decode cX3_insert 89 = .ok (.iconst 0, 1) := by decide +kernel
theorem dX3_insert_90 : decode cX3_insert 90 = .ok (.istore_n 3, 1) := by decide +kernel
theorem dX3_insert_91 : decode cX3_insert 91 = .ok (.iload_n 3, 1) := by decide +kernel
theorem dX3_insert_92 : decode cX3_insert 92 = .ok (.aload_n 0, 1) := by decide +kernel
theorem dX3_insert_93 : decode cX3_insert 93 = .ok (.getfield 18, 3) := by decide +kernel
theorem dX3_insert_96 : decode cX3_insert 96 = .ok (.if_icmp .ge 25, 3) := by decide +kernel
theorem dX3_insert_99 : decode cX3_insert 99 = .ok (.aload_n 0, 1) := by decide +kernel
theorem dX3_insert_100 : decode cX3_insert 100 = .ok (.getfield 15, 3) := by decide +kernel
theorem dX3_insert_103 : decode cX3_insert 103 = .ok (.iload_n 3, 1) := by decide +kernel
theorem dX3_insert_104 : decode cX3_insert 104 = .ok (.aload_n 0, 1) := by decide +kernel
theorem dX3_insert_105 : decode cX3_insert 105 = .ok (.getfield 15, 3) := by decide +kernel
theorem dX3_insert_108 : decode cX3_insert 108 = .ok (.iload_n 3, 1) := by decide +kernel
theorem dX3_insert_109 : decode cX3_insert 109 = .ok (.iaload, 1) := by decide +kernel
theorem dX3_insert_110 : decode cX3_insert 110 = .ok (.iload_n 2, 1) := by decide +kernel
theorem dX3_insert_111 : decode cX3_insert 111 = .ok (.invokestatic 22, 3) := by decide +kernel
theorem dX3_insert_114 : decode cX3_insert 114 = .ok (.iastore, 1) := by decide +kernel
theorem dX3_insert_115 : decode cX3_insert 115 = .ok (.iinc 3 1, 3) := by decide +kernel
theorem dX3_insert_118 : decode cX3_insert 118 = .ok (.goto (-27), 3) := by decide +kernel
theorem dX3_insert_121 : decode cX3_insert 121 = .ok (.return_, 1) := by decide +kernel
set_option maxRecDepth 20000 in
theorem ggX3_insert_X3_withRoomAt : GoodIn wsX3_insert wsX3_withRoomAt := goodIn_r _ [7] (by decide +kernel) (by decide +kernel)
set_option maxRecDepth 20000 in
theorem gX3_insert_X3_withRoomAt : GoodIn wsX3_insert (va_wsS RX3 22 yX3_withRoomAt wsX3_withRoomAt) := goodIn_app (goodIn_of _ (by decide +kernel)) ggX3_insert_X3_withRoomAt
theorem mX3_insert_0 : Cond.fieldLink RX3 18 "Layerways$Net" "size" "I" ∈ wsX3_insert := by decide +kernel
theorem iX3_insert_X3 : ∀ w ∈ u_ws RX3 TX3 3, w ∈ wsX3_insert := by decide +kernel
theorem mX3_insert_2 : Cond.fieldLink RX3 9 "Layerways$Net" "keys" "[I" ∈ wsX3_insert := by decide +kernel
theorem mX3_insert_3 : Cond.fieldLink RX3 15 "Layerways$Net" "near" "[I" ∈ wsX3_insert := by decide +kernel
def sX3_insert_15 (p0 : Int32) (s1 : Int32 × (Nat → Int32) × (Nat → Int32)) : Option ((Int32 × (Nat → Int32) × (Nat → Int32)) ⊕ (Int32 × (Nat → Int32) × (Nat → Int32))) := if s1.1 ≤ 0 then some (.inl (s1.1, s1.2.1, s1.2.2)) else if zin (s1.1 - 1) 12 then if (s1.2.1 (s1.1 - 1).toNatClampNeg) ≤ p0 then some (.inl (s1.1, s1.2.1, s1.2.2)) else if zin (s1.1 - 1) 12 then if zin s1.1 12 then if zin (s1.1 - 1) 12 then if zin s1.1 12 then some (.inr ((s1.1 + (-1)), (upd s1.2.1 s1.1.toNatClampNeg (s1.2.1 (s1.1 - 1).toNatClampNeg)), (upd s1.2.2 s1.1.toNatClampNeg (s1.2.2 (s1.1 - 1).toNatClampNeg)))) else none else none else none else none else none
def sX3_insert_91 (nS : Int32) (e3 : Int32 × (Nat → Int32) × (Nat → Int32)) (s7 : Int32 × (Nat → Int32)) : Option ((Int32 × (Nat → Int32)) ⊕ (Int32 × (Nat → Int32))) := if (nS + 1) ≤ s7.1 then some (.inl (s7.1, s7.2)) else if zin s7.1 12 then (fX3_withRoomAt (s7.2 s7.1.toNatClampNeg) e3.1).bind fun v11 => if zin s7.1 12 then some (.inr ((s7.1 + 1), (upd s7.2 s7.1.toNatClampNeg v11))) else none else none
def fX3_insert (nS : Int32) (nK : (Nat → Int32)) (nN : (Nat → Int32)) (p0 : Int32) : Option (Int32 × (Nat → Int32) × (Nat → Int32)) := if nS < 12 then (zloop (sX3_insert_15 p0) 32 (nS, nK, nN)).bind fun e3 => if zin e3.1 12 then if zin e3.1 12 then (zloop (sX3_insert_91 nS e3) 32 (0, (upd e3.2.2 e3.1.toNatClampNeg 0))).bind fun e9 => some ((nS + 1), (upd e3.2.1 e3.1.toNatClampNeg p0), e9.2) else none else none else some (nS, nK, nN)
set_option maxRecDepth 100000 in
set_option maxHeartbeats 4000000 in
theorem kX3_insert (l : Launch) (K : zK) (aN : Nat) (aNk : Nat) (aNn : Nat)  (nS : Int32) (nK : (Nat → Int32)) (nN : (Nat → Int32)) (p0 : Int32) (r : Int32 × (Nat → Int32) × (Nat → Int32)) (hres : fX3_insert nS nK nN p0 = some r) : zM l K yX3_insert wsX3_insert ({ frames := 1, cells := 0, slots := 0, locals := 22 }) [.ref aN, .int p0] [(aN, .inr (3, [.ref aNk, .ref aNn, .int nS])), (aNk, .inl (K.2 0, 12, .inl nK)), (aNn, .inl (K.2 0, 12, .inl nN))] (fun _ : Unit => none) (fun _ : Unit => [(aN, .inr (3, [.ref aNk, .ref aNn, .int r.1])), (aNk, .inl (K.2 0, 12, .inl r.2.1)), (aNn, .inl (K.2 0, 12, .inl r.2.2))]) 0 0 := by
  refine zM.intV (cc := cX3_insert) (maxL := 4) (ret := none) rfl (by decide) (Nat.le_of_ble_eq_true rfl) rfl (fun _ => rfl) ?_
  intro G hGl hG hN hE
  have hR : ∀ (pc : Nat) (lv : zL), decode cX3_insert pc = .ok (.return_, 1) → zj G pc lv [] [(aN, .inr (3, [.ref aNk, .ref aNn, .int r.1])), (aNk, .inl (K.2 0, 12, .inl r.2.1)), (aNn, .inl (K.2 0, 12, .inl r.2.2))] 0 0 := fun pc lv d => hE () pc lv d
  clear hE
  unfold fX3_insert at hres
  show zj G 0 [(0, .ref aN), (1, .int p0)] [] [(aN, .inr (3, [.ref aNk, .ref aNn, .int nS])), (aNk, .inl (K.2 0, 12, .inl nK)), (aNn, .inl (K.2 0, 12, .inl nN))] 0 0
  refine z_aload_n hG dX3_insert_0 0 rfl ?_
  refine z_get (ci := 3) (C := RX3) (T := TX3) (N := 3) hG dX3_insert_1 iX3_insert_X3 2 (by decide) mX3_insert_0 rfl rfl 0 rfl rfl ?_
  refine z_bipush 12 hG dX3_insert_4 (by decide) ?_
  refine z_icmp_lt 10 hG dX3_insert_6 (by decide) (fun c => ?_) (fun c => ?_)
  · replace hres := z_ifp c hres
    refine z_aload_n hG dX3_insert_10 0 rfl ?_
    refine z_get (ci := 3) (C := RX3) (T := TX3) (N := 3) hG dX3_insert_11 iX3_insert_X3 2 (by decide) mX3_insert_0 rfl rfl 0 rfl rfl ?_
    refine z_istore_n (lv' := [(2, .int nS), (0, .ref aN), (1, .int p0)]) hG dX3_insert_14 (by decide) rfl ?_
    obtain ⟨e3, hx, hres⟩ := z_bind hres
    refine z_lv [1, 2, 0] (lv' := [(0, .ref aN), (1, .int p0), (2, .int nS)]) rfl ?_
    refine z_loop hx (fun s1 : Int32 × (Nat → Int32) × (Nat → Int32) => [(0, .ref aN), (1, .int p0), (2, .int s1.1)]) (fun s1 : Int32 × (Nat → Int32) × (Nat → Int32) => [(aN, .inr (3, [.ref aNk, .ref aNn, .int nS])), (aNk, .inl (K.2 0, 12, .inl s1.2.1)), (aNn, .inl (K.2 0, 12, .inl s1.2.2))]) (fun e3 : Int32 × (Nat → Int32) × (Nat → Int32) => zj G 65 [(0, .ref aN), (1, .int p0), (2, .int e3.1)] [] [(aN, .inr (3, [.ref aNk, .ref aNn, .int nS])), (aNk, .inl (K.2 0, 12, .inl e3.2.1)), (aNn, .inl (K.2 0, 12, .inl e3.2.2))] 0 0) ?_ ?_
    · refine z_aload_n hG dX3_insert_65 0 rfl ?_
      refine z_get (ci := 3) (C := RX3) (T := TX3) (N := 3) hG dX3_insert_66 iX3_insert_X3 0 (by decide) mX3_insert_2 rfl rfl 0 rfl rfl ?_
      refine z_iload_n hG dX3_insert_69 2 rfl ?_
      refine z_iload_n hG dX3_insert_70 1 rfl ?_
      obtain ⟨hg, hres⟩ := z_guard hres
      refine z_iast (ws' := [(aN, .inr (3, [.ref aNk, .ref aNn, .int nS])), (aNk, .inl (K.2 0, 12, .inl (upd e3.2.1 e3.1.toNatClampNeg p0))), (aNn, .inl (K.2 0, 12, .inl e3.2.2))]) hG dX3_insert_71 1 rfl hg rfl ?_
      refine z_aload_n hG dX3_insert_72 0 rfl ?_
      refine z_get (ci := 3) (C := RX3) (T := TX3) (N := 3) hG dX3_insert_73 iX3_insert_X3 1 (by decide) mX3_insert_3 rfl rfl 0 rfl rfl ?_
      refine z_iload_n hG dX3_insert_76 2 rfl ?_
      refine z_iconst 0 hG dX3_insert_77 (by decide) ?_
      obtain ⟨hg, hres⟩ := z_guard hres
      refine z_iast (ws' := [(aN, .inr (3, [.ref aNk, .ref aNn, .int nS])), (aNk, .inl (K.2 0, 12, .inl (upd e3.2.1 e3.1.toNatClampNeg p0))), (aNn, .inl (K.2 0, 12, .inl (upd e3.2.2 e3.1.toNatClampNeg 0)))]) hG dX3_insert_78 2 rfl hg rfl ?_
      refine z_aload_n hG dX3_insert_79 0 rfl ?_
      refine z_dup hG dX3_insert_80 rfl ?_
      refine z_get (ci := 3) (C := RX3) (T := TX3) (N := 3) hG dX3_insert_81 iX3_insert_X3 2 (by decide) mX3_insert_0 rfl rfl 0 rfl rfl ?_
      refine z_iconst 1 hG dX3_insert_84 (by decide) ?_
      refine z_iadd hG dX3_insert_85 ?_
      refine z_put (ci := 3) (C := RX3) (T := TX3) (N := 3) (ws' := [(aN, .inr (3, [.ref aNk, .ref aNn, .int (nS + 1)])), (aNk, .inl (K.2 0, 12, .inl (upd e3.2.1 e3.1.toNatClampNeg p0))), (aNn, .inl (K.2 0, 12, .inl (upd e3.2.2 e3.1.toNatClampNeg 0)))]) hG dX3_insert_86 iX3_insert_X3 tyX3_ok nmX3 2 (by decide) mX3_insert_0 rfl rfl rfl rfl rfl rfl 0 rfl (Nat.le_of_ble_eq_true rfl) rfl ?_
      refine z_iconst 0 hG dX3_insert_89 (by decide) ?_
      refine z_istore_n (lv' := [(3, .int 0), (0, .ref aN), (1, .int p0), (2, .int e3.1)]) hG dX3_insert_90 (by decide) rfl ?_
      obtain ⟨e9, hx, hres⟩ := z_bind hres
      refine z_lv [1, 2, 3, 0] (lv' := [(0, .ref aN), (1, .int p0), (2, .int e3.1), (3, .int 0)]) rfl ?_
      refine z_loop hx (fun s7 : Int32 × (Nat → Int32) => [(0, .ref aN), (1, .int p0), (2, .int e3.1), (3, .int s7.1)]) (fun s7 : Int32 × (Nat → Int32) => [(aN, .inr (3, [.ref aNk, .ref aNn, .int (nS + 1)])), (aNk, .inl (K.2 0, 12, .inl (upd e3.2.1 e3.1.toNatClampNeg p0))), (aNn, .inl (K.2 0, 12, .inl s7.2))]) (fun e9 : Int32 × (Nat → Int32) => zj G 121 [(0, .ref aN), (1, .int p0), (2, .int e3.1), (3, .int e9.1)] [] [(aN, .inr (3, [.ref aNk, .ref aNn, .int (nS + 1)])), (aNk, .inl (K.2 0, 12, .inl (upd e3.2.1 e3.1.toNatClampNeg p0))), (aNn, .inl (K.2 0, 12, .inl e9.2))] 0 0) ?_ ?_
      · obtain rfl := Option.some.inj hres
        exact (hR _ _ dX3_insert_121)
      · intro s7 w8 hres hX hB
        unfold sX3_insert_91 at hres
        refine z_iload_n hG dX3_insert_91 3 rfl ?_
        refine z_aload_n hG dX3_insert_92 0 rfl ?_
        refine z_get (ci := 3) (C := RX3) (T := TX3) (N := 3) hG dX3_insert_93 iX3_insert_X3 2 (by decide) mX3_insert_0 rfl rfl 0 rfl rfl ?_
        refine z_icmp_ge 121 hG dX3_insert_96 (by decide) (fun c => ?_) (fun c => ?_)
        · replace hres := z_ifp c hres
          exact (hX (s7.1, s7.2) (Option.some.inj hres).symm)
        · replace hres := z_ifn c hres
          refine z_aload_n hG dX3_insert_99 0 rfl ?_
          refine z_get (ci := 3) (C := RX3) (T := TX3) (N := 3) hG dX3_insert_100 iX3_insert_X3 1 (by decide) mX3_insert_3 rfl rfl 0 rfl rfl ?_
          refine z_iload_n hG dX3_insert_103 3 rfl ?_
          refine z_aload_n hG dX3_insert_104 0 rfl ?_
          refine z_get (ci := 3) (C := RX3) (T := TX3) (N := 3) hG dX3_insert_105 iX3_insert_X3 1 (by decide) mX3_insert_3 rfl rfl 0 rfl rfl ?_
          refine z_iload_n hG dX3_insert_108 3 rfl ?_
          obtain ⟨hg, hres⟩ := z_guard hres
          refine z_iald hG dX3_insert_109 2 rfl hg ?_
          refine z_iload_n hG dX3_insert_110 2 rfl ?_
          obtain ⟨v11, hv, hres⟩ := z_bind hres
          refine z_callS (As := [.int (s7.2 s7.1.toNatClampNeg), .int e3.1]) (rest := [.int s7.1, .ref aNn]) (wr := [(aN, .inr (3, [.ref aNk, .ref aNn, .int (nS + 1)])), (aNk, .inl (K.2 0, 12, .inl (upd e3.2.1 e3.1.toNatClampNeg p0))), (aNn, .inl (K.2 0, 12, .inl s7.2))]) (ws' := (fun _ : Unit => [(aN, .inr (3, [.ref aNk, .ref aNn, .int (nS + 1)])), (aNk, .inl (K.2 0, 12, .inl (upd e3.2.1 e3.1.toNatClampNeg p0))), (aNn, .inl (K.2 0, 12, .inl s7.2))])) (stk := (fun _ : Unit => [.int v11, .int s7.1, .ref aNn])) (kc' := 0) (ks' := 0) (n := 2) hG dX3_insert_111 (kX3_withRoomAt _ K (s7.2 s7.1.toNatClampNeg) e3.1 v11 hv) gX3_insert_X3_withRoomAt rfl rfl rfl ⟨by decide, by decide, rfl⟩ ⟨by decide, by decide⟩ (Nat.le_of_ble_eq_true rfl) ⟨(Nat.le_of_ble_eq_true rfl), (Nat.le_of_ble_eq_true rfl)⟩ [] [0, 1, 2] [0, 1, 2] rfl rfl rfl rfl (by decide) rfl (fun _ => rfl) (fun _ => rfl) rfl rfl rfl rfl (fun _ => ?_)
          obtain ⟨hg, hres⟩ := z_guard hres
          refine z_iast (ws' := [(aN, .inr (3, [.ref aNk, .ref aNn, .int (nS + 1)])), (aNk, .inl (K.2 0, 12, .inl (upd e3.2.1 e3.1.toNatClampNeg p0))), (aNn, .inl (K.2 0, 12, .inl (upd s7.2 s7.1.toNatClampNeg v11)))]) hG dX3_insert_114 2 rfl hg rfl ?_
          refine z_iinc (s7.1 + 1) (lv' := [(3, .int (s7.1 + 1)), (0, .ref aN), (1, .int p0), (2, .int e3.1)]) hG dX3_insert_115 3 rfl rfl (by decide) rfl ?_
          refine z_goto 91 hG dX3_insert_118 (by decide) ?_
          exact (z_lv [1, 2, 3, 0] rfl (hB ((s7.1 + 1), (upd s7.2 s7.1.toNatClampNeg v11)) (Option.some.inj hres).symm))
    · intro s1 w2 hres hX hB
      unfold sX3_insert_15 at hres
      refine z_iload_n hG dX3_insert_15 2 rfl ?_
      refine z_if_le 65 hG dX3_insert_16 (by decide) (fun c => ?_) (fun c => ?_)
      · replace hres := z_ifp c hres
        exact (hX (s1.1, s1.2.1, s1.2.2) (Option.some.inj hres).symm)
      · replace hres := z_ifn c hres
        refine z_aload_n hG dX3_insert_19 0 rfl ?_
        refine z_get (ci := 3) (C := RX3) (T := TX3) (N := 3) hG dX3_insert_20 iX3_insert_X3 0 (by decide) mX3_insert_2 rfl rfl 0 rfl rfl ?_
        refine z_iload_n hG dX3_insert_23 2 rfl ?_
        refine z_iconst 1 hG dX3_insert_24 (by decide) ?_
        refine z_isub hG dX3_insert_25 ?_
        obtain ⟨hg, hres⟩ := z_guard hres
        refine z_iald hG dX3_insert_26 1 rfl hg ?_
        refine z_iload_n hG dX3_insert_27 1 rfl ?_
        refine z_icmp_le 65 hG dX3_insert_28 (by decide) (fun c => ?_) (fun c => ?_)
        · replace hres := z_ifp c hres
          exact (hX (s1.1, s1.2.1, s1.2.2) (Option.some.inj hres).symm)
        · replace hres := z_ifn c hres
          refine z_aload_n hG dX3_insert_31 0 rfl ?_
          refine z_get (ci := 3) (C := RX3) (T := TX3) (N := 3) hG dX3_insert_32 iX3_insert_X3 0 (by decide) mX3_insert_2 rfl rfl 0 rfl rfl ?_
          refine z_iload_n hG dX3_insert_35 2 rfl ?_
          refine z_aload_n hG dX3_insert_36 0 rfl ?_
          refine z_get (ci := 3) (C := RX3) (T := TX3) (N := 3) hG dX3_insert_37 iX3_insert_X3 0 (by decide) mX3_insert_2 rfl rfl 0 rfl rfl ?_
          refine z_iload_n hG dX3_insert_40 2 rfl ?_
          refine z_iconst 1 hG dX3_insert_41 (by decide) ?_
          refine z_isub hG dX3_insert_42 ?_
          obtain ⟨hg, hres⟩ := z_guard hres
          refine z_iald hG dX3_insert_43 1 rfl hg ?_
          obtain ⟨hg, hres⟩ := z_guard hres
          refine z_iast (ws' := [(aN, .inr (3, [.ref aNk, .ref aNn, .int nS])), (aNk, .inl (K.2 0, 12, .inl (upd s1.2.1 s1.1.toNatClampNeg (s1.2.1 (s1.1 - 1).toNatClampNeg)))), (aNn, .inl (K.2 0, 12, .inl s1.2.2))]) hG dX3_insert_44 1 rfl hg rfl ?_
          refine z_aload_n hG dX3_insert_45 0 rfl ?_
          refine z_get (ci := 3) (C := RX3) (T := TX3) (N := 3) hG dX3_insert_46 iX3_insert_X3 1 (by decide) mX3_insert_3 rfl rfl 0 rfl rfl ?_
          refine z_iload_n hG dX3_insert_49 2 rfl ?_
          refine z_aload_n hG dX3_insert_50 0 rfl ?_
          refine z_get (ci := 3) (C := RX3) (T := TX3) (N := 3) hG dX3_insert_51 iX3_insert_X3 1 (by decide) mX3_insert_3 rfl rfl 0 rfl rfl ?_
          refine z_iload_n hG dX3_insert_54 2 rfl ?_
          refine z_iconst 1 hG dX3_insert_55 (by decide) ?_
          refine z_isub hG dX3_insert_56 ?_
          obtain ⟨hg, hres⟩ := z_guard hres
          refine z_iald hG dX3_insert_57 2 rfl hg ?_
          obtain ⟨hg, hres⟩ := z_guard hres
          refine z_iast (ws' := [(aN, .inr (3, [.ref aNk, .ref aNn, .int nS])), (aNk, .inl (K.2 0, 12, .inl (upd s1.2.1 s1.1.toNatClampNeg (s1.2.1 (s1.1 - 1).toNatClampNeg)))), (aNn, .inl (K.2 0, 12, .inl (upd s1.2.2 s1.1.toNatClampNeg (s1.2.2 (s1.1 - 1).toNatClampNeg))))]) hG dX3_insert_58 2 rfl hg rfl ?_
          refine z_iinc (s1.1 + (-1)) (lv' := [(2, .int (s1.1 + (-1))), (0, .ref aN), (1, .int p0)]) hG dX3_insert_59 2 rfl rfl (by decide) rfl ?_
          refine z_goto 15 hG dX3_insert_62 (by decide) ?_
          exact (z_lv [1, 2, 0] rfl (hB ((s1.1 + (-1)), (upd s1.2.1 s1.1.toNatClampNeg (s1.2.1 (s1.1 - 1).toNatClampNeg)), (upd s1.2.2 s1.1.toNatClampNeg (s1.2.2 (s1.1 - 1).toNatClampNeg))) (Option.some.inj hres).symm))
  · replace hres := z_ifn c hres
    obtain rfl := Option.some.inj hres
    exact (hR _ _ dX3_insert_9)

theorem dX3_remove_0 : decode cX3_remove 0 = .ok (.iload_n 1, 1) := by decide +kernel
theorem dX3_remove_1 : decode cX3_remove 1 = .ok (.istore_n 2, 1) := by decide +kernel
theorem dX3_remove_2 : decode cX3_remove 2 = .ok (.iload_n 2, 1) := by decide +kernel
theorem dX3_remove_3 : decode cX3_remove 3 = .ok (.aload_n 0, 1) := by decide +kernel
theorem dX3_remove_4 : decode cX3_remove 4 = .ok (.getfield 18, 3) := by decide +kernel
theorem dX3_remove_7 : decode cX3_remove 7 = .ok (.iconst 1, 1) := by decide +kernel
theorem dX3_remove_8 : decode cX3_remove 8 = .ok (.isub, 1) := by decide +kernel
theorem dX3_remove_9 : decode cX3_remove 9 = .ok (.if_icmp .ge 37, 3) := by decide +kernel
theorem dX3_remove_12 : decode cX3_remove 12 = .ok (.aload_n 0, 1) := by decide +kernel
theorem dX3_remove_13 : decode cX3_remove 13 = .ok (.getfield 9, 3) := by decide +kernel
theorem dX3_remove_16 : decode cX3_remove 16 = .ok (.iload_n 2, 1) := by decide +kernel
theorem dX3_remove_17 : decode cX3_remove 17 = .ok (.aload_n 0, 1) := by decide +kernel
theorem dX3_remove_18 : decode cX3_remove 18 = .ok (.getfield 9, 3) := by decide +kernel
theorem dX3_remove_21 : decode cX3_remove 21 = .ok (.iload_n 2, 1) := by decide +kernel
theorem dX3_remove_22 : decode cX3_remove 22 = .ok (.iconst 1, 1) := by decide +kernel
theorem dX3_remove_23 : decode cX3_remove 23 = .ok (.iadd, 1) := by decide +kernel
theorem dX3_remove_24 : decode cX3_remove 24 = .ok (.iaload, 1) := by decide +kernel
theorem dX3_remove_25 : decode cX3_remove 25 = .ok (.iastore, 1) := by decide +kernel
theorem dX3_remove_26 : decode cX3_remove 26 = .ok (.aload_n 0, 1) := by decide +kernel
theorem dX3_remove_27 : decode cX3_remove 27 = .ok (.getfield 15, 3) := by decide +kernel
theorem dX3_remove_30 : decode cX3_remove 30 = .ok (.iload_n 2, 1) := by decide +kernel
theorem dX3_remove_31 : decode cX3_remove 31 = .ok (.aload_n 0, 1) := by decide +kernel
theorem dX3_remove_32 : decode cX3_remove 32 = .ok (.getfield 15, 3) := by decide +kernel
theorem dX3_remove_35 : decode cX3_remove 35 = .ok (.iload_n 2, 1) := by decide +kernel
theorem dX3_remove_36 : decode cX3_remove 36 = .ok (.iconst 1, 1) := by decide +kernel
theorem dX3_remove_37 : decode cX3_remove 37 = .ok (.iadd, 1) := by decide +kernel
theorem dX3_remove_38 : decode cX3_remove 38 = .ok (.iaload, 1) := by decide +kernel
theorem dX3_remove_39 : decode cX3_remove 39 = .ok (.iastore, 1) := by decide +kernel
theorem dX3_remove_40 : decode cX3_remove 40 = .ok (.iinc 2 1, 3) := by decide +kernel
theorem dX3_remove_43 : decode cX3_remove 43 = .ok (.goto (-41), 3) := by decide +kernel
theorem dX3_remove_46 : decode cX3_remove 46 = .ok (.aload_n 0, 1) := by decide +kernel
theorem dX3_remove_47 : decode cX3_remove 47 = .ok (.dup, 1) := by decide +kernel
theorem dX3_remove_48 : decode cX3_remove 48 = .ok (.getfield 18, 3) := by decide +kernel
theorem dX3_remove_51 : decode cX3_remove 51 = .ok (.iconst 1, 1) := by decide +kernel
theorem dX3_remove_52 : decode cX3_remove 52 = .ok (.isub, 1) := by decide +kernel
theorem dX3_remove_53 : decode cX3_remove 53 = .ok (.putfield 18, 3) := by decide +kernel
theorem dX3_remove_56 : decode cX3_remove 56 = .ok (.iconst 0, 1) := by decide +kernel
theorem dX3_remove_57 : decode cX3_remove 57 = .ok (.istore_n 2, 1) := by decide +kernel
theorem dX3_remove_58 : decode cX3_remove 58 = .ok (.iload_n 2, 1) := by decide +kernel
theorem dX3_remove_59 : decode cX3_remove 59 = .ok (.aload_n 0, 1) := by decide +kernel
theorem dX3_remove_60 : decode cX3_remove 60 = .ok (.getfield 18, 3) := by decide +kernel
theorem dX3_remove_63 : decode cX3_remove 63 = .ok (.if_icmp .ge 25, 3) := by decide +kernel
theorem dX3_remove_66 : decode cX3_remove 66 = .ok (.aload_n 0, 1) := by decide +kernel
theorem dX3_remove_67 : decode cX3_remove 67 = .ok (.getfield 15, 3) := by decide +kernel
theorem dX3_remove_70 : decode cX3_remove 70 = .ok (.iload_n 2, 1) := by decide +kernel
theorem dX3_remove_71 : decode cX3_remove 71 = .ok (.aload_n 0, 1) := by decide +kernel
theorem dX3_remove_72 : decode cX3_remove 72 = .ok (.getfield 15, 3) := by decide +kernel
theorem dX3_remove_75 : decode cX3_remove 75 = .ok (.iload_n 2, 1) := by decide +kernel
theorem dX3_remove_76 : decode cX3_remove 76 = .ok (.iaload, 1) := by decide +kernel
theorem dX3_remove_77 : decode cX3_remove 77 = .ok (.iload_n 1, 1) := by decide +kernel
theorem dX3_remove_78 : decode cX3_remove 78 = .ok (.invokestatic 26, 3) := by decide +kernel
theorem dX3_remove_81 : decode cX3_remove 81 = .ok (.iastore, 1) := by decide +kernel
theorem dX3_remove_82 : decode cX3_remove 82 = .ok (.iinc 2 1, 3) := by decide +kernel
theorem dX3_remove_85 : decode cX3_remove 85 = .ok (.goto (-27), 3) := by decide +kernel
theorem dX3_remove_88 : decode cX3_remove 88 = .ok (.return_, 1) := by decide +kernel
set_option maxRecDepth 20000 in
theorem ggX3_remove_X3_without : GoodIn wsX3_remove wsX3_without := goodIn_r _ [7] (by decide +kernel) (by decide +kernel)
set_option maxRecDepth 20000 in
theorem gX3_remove_X3_without : GoodIn wsX3_remove (va_wsS RX3 26 yX3_without wsX3_without) := goodIn_app (goodIn_of _ (by decide +kernel)) ggX3_remove_X3_without
theorem mX3_remove_0 : Cond.fieldLink RX3 18 "Layerways$Net" "size" "I" ∈ wsX3_remove := by decide +kernel
theorem iX3_remove_X3 : ∀ w ∈ u_ws RX3 TX3 3, w ∈ wsX3_remove := by decide +kernel
theorem mX3_remove_2 : Cond.fieldLink RX3 9 "Layerways$Net" "keys" "[I" ∈ wsX3_remove := by decide +kernel
theorem mX3_remove_3 : Cond.fieldLink RX3 15 "Layerways$Net" "near" "[I" ∈ wsX3_remove := by decide +kernel
def sX3_remove_2 (nS : Int32) (s1 : Int32 × (Nat → Int32) × (Nat → Int32)) : Option ((Int32 × (Nat → Int32) × (Nat → Int32)) ⊕ (Int32 × (Nat → Int32) × (Nat → Int32))) := if (nS - 1) ≤ s1.1 then some (.inl (s1.1, s1.2.1, s1.2.2)) else if zin (s1.1 + 1) 12 then if zin s1.1 12 then if zin (s1.1 + 1) 12 then if zin s1.1 12 then some (.inr ((s1.1 + 1), (upd s1.2.1 s1.1.toNatClampNeg (s1.2.1 (s1.1 + 1).toNatClampNeg)), (upd s1.2.2 s1.1.toNatClampNeg (s1.2.2 (s1.1 + 1).toNatClampNeg)))) else none else none else none else none
def sX3_remove_58 (nS : Int32) (p0 : Int32) (s7 : Int32 × (Nat → Int32)) : Option ((Int32 × (Nat → Int32)) ⊕ (Int32 × (Nat → Int32))) := if (nS - 1) ≤ s7.1 then some (.inl (s7.1, s7.2)) else if zin s7.1 12 then (fX3_without (s7.2 s7.1.toNatClampNeg) p0).bind fun v11 => if zin s7.1 12 then some (.inr ((s7.1 + 1), (upd s7.2 s7.1.toNatClampNeg v11))) else none else none
def fX3_remove (nS : Int32) (nK : (Nat → Int32)) (nN : (Nat → Int32)) (p0 : Int32) : Option (Int32 × (Nat → Int32) × (Nat → Int32)) := (zloop (sX3_remove_2 nS) 32 (p0, nK, nN)).bind fun e3 => (zloop (sX3_remove_58 nS p0) 32 (0, e3.2.2)).bind fun e9 => some ((nS - 1), e3.2.1, e9.2)
set_option maxRecDepth 100000 in
set_option maxHeartbeats 4000000 in
theorem kX3_remove (l : Launch) (K : zK) (aN : Nat) (aNk : Nat) (aNn : Nat)  (nS : Int32) (nK : (Nat → Int32)) (nN : (Nat → Int32)) (p0 : Int32) (r : Int32 × (Nat → Int32) × (Nat → Int32)) (hres : fX3_remove nS nK nN p0 = some r) : zM l K yX3_remove wsX3_remove ({ frames := 1, cells := 0, slots := 0, locals := 22 }) [.ref aN, .int p0] [(aN, .inr (3, [.ref aNk, .ref aNn, .int nS])), (aNk, .inl (K.2 0, 12, .inl nK)), (aNn, .inl (K.2 0, 12, .inl nN))] (fun _ : Unit => none) (fun _ : Unit => [(aN, .inr (3, [.ref aNk, .ref aNn, .int r.1])), (aNk, .inl (K.2 0, 12, .inl r.2.1)), (aNn, .inl (K.2 0, 12, .inl r.2.2))]) 0 0 := by
  refine zM.intV (cc := cX3_remove) (maxL := 3) (ret := none) rfl (by decide) (Nat.le_of_ble_eq_true rfl) rfl (fun _ => rfl) ?_
  intro G hGl hG hN hE
  have hR : ∀ (pc : Nat) (lv : zL), decode cX3_remove pc = .ok (.return_, 1) → zj G pc lv [] [(aN, .inr (3, [.ref aNk, .ref aNn, .int r.1])), (aNk, .inl (K.2 0, 12, .inl r.2.1)), (aNn, .inl (K.2 0, 12, .inl r.2.2))] 0 0 := fun pc lv d => hE () pc lv d
  clear hE
  unfold fX3_remove at hres
  show zj G 0 [(0, .ref aN), (1, .int p0)] [] [(aN, .inr (3, [.ref aNk, .ref aNn, .int nS])), (aNk, .inl (K.2 0, 12, .inl nK)), (aNn, .inl (K.2 0, 12, .inl nN))] 0 0
  refine z_iload_n hG dX3_remove_0 1 rfl ?_
  refine z_istore_n (lv' := [(2, .int p0), (0, .ref aN), (1, .int p0)]) hG dX3_remove_1 (by decide) rfl ?_
  obtain ⟨e3, hx, hres⟩ := z_bind hres
  refine z_lv [1, 2, 0] (lv' := [(0, .ref aN), (1, .int p0), (2, .int p0)]) rfl ?_
  refine z_loop hx (fun s1 : Int32 × (Nat → Int32) × (Nat → Int32) => [(0, .ref aN), (1, .int p0), (2, .int s1.1)]) (fun s1 : Int32 × (Nat → Int32) × (Nat → Int32) => [(aN, .inr (3, [.ref aNk, .ref aNn, .int nS])), (aNk, .inl (K.2 0, 12, .inl s1.2.1)), (aNn, .inl (K.2 0, 12, .inl s1.2.2))]) (fun e3 : Int32 × (Nat → Int32) × (Nat → Int32) => zj G 46 [(0, .ref aN), (1, .int p0), (2, .int e3.1)] [] [(aN, .inr (3, [.ref aNk, .ref aNn, .int nS])), (aNk, .inl (K.2 0, 12, .inl e3.2.1)), (aNn, .inl (K.2 0, 12, .inl e3.2.2))] 0 0) ?_ ?_
  · refine z_aload_n hG dX3_remove_46 0 rfl ?_
    refine z_dup hG dX3_remove_47 rfl ?_
    refine z_get (ci := 3) (C := RX3) (T := TX3) (N := 3) hG dX3_remove_48 iX3_remove_X3 2 (by decide) mX3_remove_0 rfl rfl 0 rfl rfl ?_
    refine z_iconst 1 hG dX3_remove_51 (by decide) ?_
    refine z_isub hG dX3_remove_52 ?_
    refine z_put (ci := 3) (C := RX3) (T := TX3) (N := 3) (ws' := [(aN, .inr (3, [.ref aNk, .ref aNn, .int (nS - 1)])), (aNk, .inl (K.2 0, 12, .inl e3.2.1)), (aNn, .inl (K.2 0, 12, .inl e3.2.2))]) hG dX3_remove_53 iX3_remove_X3 tyX3_ok nmX3 2 (by decide) mX3_remove_0 rfl rfl rfl rfl rfl rfl 0 rfl (Nat.le_of_ble_eq_true rfl) rfl ?_
    refine z_iconst 0 hG dX3_remove_56 (by decide) ?_
    refine z_istore_n (lv' := [(2, .int 0), (0, .ref aN), (1, .int p0)]) hG dX3_remove_57 (by decide) rfl ?_
    obtain ⟨e9, hx, hres⟩ := z_bind hres
    refine z_lv [1, 2, 0] (lv' := [(0, .ref aN), (1, .int p0), (2, .int 0)]) rfl ?_
    refine z_loop hx (fun s7 : Int32 × (Nat → Int32) => [(0, .ref aN), (1, .int p0), (2, .int s7.1)]) (fun s7 : Int32 × (Nat → Int32) => [(aN, .inr (3, [.ref aNk, .ref aNn, .int (nS - 1)])), (aNk, .inl (K.2 0, 12, .inl e3.2.1)), (aNn, .inl (K.2 0, 12, .inl s7.2))]) (fun e9 : Int32 × (Nat → Int32) => zj G 88 [(0, .ref aN), (1, .int p0), (2, .int e9.1)] [] [(aN, .inr (3, [.ref aNk, .ref aNn, .int (nS - 1)])), (aNk, .inl (K.2 0, 12, .inl e3.2.1)), (aNn, .inl (K.2 0, 12, .inl e9.2))] 0 0) ?_ ?_
    · obtain rfl := Option.some.inj hres
      exact (hR _ _ dX3_remove_88)
    · intro s7 w8 hres hX hB
      unfold sX3_remove_58 at hres
      refine z_iload_n hG dX3_remove_58 2 rfl ?_
      refine z_aload_n hG dX3_remove_59 0 rfl ?_
      refine z_get (ci := 3) (C := RX3) (T := TX3) (N := 3) hG dX3_remove_60 iX3_remove_X3 2 (by decide) mX3_remove_0 rfl rfl 0 rfl rfl ?_
      refine z_icmp_ge 88 hG dX3_remove_63 (by decide) (fun c => ?_) (fun c => ?_)
      · replace hres := z_ifp c hres
        exact (hX (s7.1, s7.2) (Option.some.inj hres).symm)
      · replace hres := z_ifn c hres
        refine z_aload_n hG dX3_remove_66 0 rfl ?_
        refine z_get (ci := 3) (C := RX3) (T := TX3) (N := 3) hG dX3_remove_67 iX3_remove_X3 1 (by decide) mX3_remove_3 rfl rfl 0 rfl rfl ?_
        refine z_iload_n hG dX3_remove_70 2 rfl ?_
        refine z_aload_n hG dX3_remove_71 0 rfl ?_
        refine z_get (ci := 3) (C := RX3) (T := TX3) (N := 3) hG dX3_remove_72 iX3_remove_X3 1 (by decide) mX3_remove_3 rfl rfl 0 rfl rfl ?_
        refine z_iload_n hG dX3_remove_75 2 rfl ?_
        obtain ⟨hg, hres⟩ := z_guard hres
        refine z_iald hG dX3_remove_76 2 rfl hg ?_
        refine z_iload_n hG dX3_remove_77 1 rfl ?_
        obtain ⟨v11, hv, hres⟩ := z_bind hres
        refine z_callS (As := [.int (s7.2 s7.1.toNatClampNeg), .int p0]) (rest := [.int s7.1, .ref aNn]) (wr := [(aN, .inr (3, [.ref aNk, .ref aNn, .int (nS - 1)])), (aNk, .inl (K.2 0, 12, .inl e3.2.1)), (aNn, .inl (K.2 0, 12, .inl s7.2))]) (ws' := (fun _ : Unit => [(aN, .inr (3, [.ref aNk, .ref aNn, .int (nS - 1)])), (aNk, .inl (K.2 0, 12, .inl e3.2.1)), (aNn, .inl (K.2 0, 12, .inl s7.2))])) (stk := (fun _ : Unit => [.int v11, .int s7.1, .ref aNn])) (kc' := 0) (ks' := 0) (n := 2) hG dX3_remove_78 (kX3_without _ K (s7.2 s7.1.toNatClampNeg) p0 v11 hv) gX3_remove_X3_without rfl rfl rfl ⟨by decide, by decide, rfl⟩ ⟨by decide, by decide⟩ (Nat.le_of_ble_eq_true rfl) ⟨(Nat.le_of_ble_eq_true rfl), (Nat.le_of_ble_eq_true rfl)⟩ [] [0, 1, 2] [0, 1, 2] rfl rfl rfl rfl (by decide) rfl (fun _ => rfl) (fun _ => rfl) rfl rfl rfl rfl (fun _ => ?_)
        obtain ⟨hg, hres⟩ := z_guard hres
        refine z_iast (ws' := [(aN, .inr (3, [.ref aNk, .ref aNn, .int (nS - 1)])), (aNk, .inl (K.2 0, 12, .inl e3.2.1)), (aNn, .inl (K.2 0, 12, .inl (upd s7.2 s7.1.toNatClampNeg v11)))]) hG dX3_remove_81 2 rfl hg rfl ?_
        refine z_iinc (s7.1 + 1) (lv' := [(2, .int (s7.1 + 1)), (0, .ref aN), (1, .int p0)]) hG dX3_remove_82 2 rfl rfl (by decide) rfl ?_
        refine z_goto 58 hG dX3_remove_85 (by decide) ?_
        exact (z_lv [1, 2, 0] rfl (hB ((s7.1 + 1), (upd s7.2 s7.1.toNatClampNeg v11)) (Option.some.inj hres).symm))
  · intro s1 w2 hres hX hB
    unfold sX3_remove_2 at hres
    refine z_iload_n hG dX3_remove_2 2 rfl ?_
    refine z_aload_n hG dX3_remove_3 0 rfl ?_
    refine z_get (ci := 3) (C := RX3) (T := TX3) (N := 3) hG dX3_remove_4 iX3_remove_X3 2 (by decide) mX3_remove_0 rfl rfl 0 rfl rfl ?_
    refine z_iconst 1 hG dX3_remove_7 (by decide) ?_
    refine z_isub hG dX3_remove_8 ?_
    refine z_icmp_ge 46 hG dX3_remove_9 (by decide) (fun c => ?_) (fun c => ?_)
    · replace hres := z_ifp c hres
      exact (hX (s1.1, s1.2.1, s1.2.2) (Option.some.inj hres).symm)
    · replace hres := z_ifn c hres
      refine z_aload_n hG dX3_remove_12 0 rfl ?_
      refine z_get (ci := 3) (C := RX3) (T := TX3) (N := 3) hG dX3_remove_13 iX3_remove_X3 0 (by decide) mX3_remove_2 rfl rfl 0 rfl rfl ?_
      refine z_iload_n hG dX3_remove_16 2 rfl ?_
      refine z_aload_n hG dX3_remove_17 0 rfl ?_
      refine z_get (ci := 3) (C := RX3) (T := TX3) (N := 3) hG dX3_remove_18 iX3_remove_X3 0 (by decide) mX3_remove_2 rfl rfl 0 rfl rfl ?_
      refine z_iload_n hG dX3_remove_21 2 rfl ?_
      refine z_iconst 1 hG dX3_remove_22 (by decide) ?_
      refine z_iadd hG dX3_remove_23 ?_
      obtain ⟨hg, hres⟩ := z_guard hres
      refine z_iald hG dX3_remove_24 1 rfl hg ?_
      obtain ⟨hg, hres⟩ := z_guard hres
      refine z_iast (ws' := [(aN, .inr (3, [.ref aNk, .ref aNn, .int nS])), (aNk, .inl (K.2 0, 12, .inl (upd s1.2.1 s1.1.toNatClampNeg (s1.2.1 (s1.1 + 1).toNatClampNeg)))), (aNn, .inl (K.2 0, 12, .inl s1.2.2))]) hG dX3_remove_25 1 rfl hg rfl ?_
      refine z_aload_n hG dX3_remove_26 0 rfl ?_
      refine z_get (ci := 3) (C := RX3) (T := TX3) (N := 3) hG dX3_remove_27 iX3_remove_X3 1 (by decide) mX3_remove_3 rfl rfl 0 rfl rfl ?_
      refine z_iload_n hG dX3_remove_30 2 rfl ?_
      refine z_aload_n hG dX3_remove_31 0 rfl ?_
      refine z_get (ci := 3) (C := RX3) (T := TX3) (N := 3) hG dX3_remove_32 iX3_remove_X3 1 (by decide) mX3_remove_3 rfl rfl 0 rfl rfl ?_
      refine z_iload_n hG dX3_remove_35 2 rfl ?_
      refine z_iconst 1 hG dX3_remove_36 (by decide) ?_
      refine z_iadd hG dX3_remove_37 ?_
      obtain ⟨hg, hres⟩ := z_guard hres
      refine z_iald hG dX3_remove_38 2 rfl hg ?_
      obtain ⟨hg, hres⟩ := z_guard hres
      refine z_iast (ws' := [(aN, .inr (3, [.ref aNk, .ref aNn, .int nS])), (aNk, .inl (K.2 0, 12, .inl (upd s1.2.1 s1.1.toNatClampNeg (s1.2.1 (s1.1 + 1).toNatClampNeg)))), (aNn, .inl (K.2 0, 12, .inl (upd s1.2.2 s1.1.toNatClampNeg (s1.2.2 (s1.1 + 1).toNatClampNeg))))]) hG dX3_remove_39 2 rfl hg rfl ?_
      refine z_iinc (s1.1 + 1) (lv' := [(2, .int (s1.1 + 1)), (0, .ref aN), (1, .int p0)]) hG dX3_remove_40 2 rfl rfl (by decide) rfl ?_
      refine z_goto 2 hG dX3_remove_43 (by decide) ?_
      exact (z_lv [1, 2, 0] rfl (hB ((s1.1 + 1), (upd s1.2.1 s1.1.toNatClampNeg (s1.2.1 (s1.1 + 1).toNatClampNeg)), (upd s1.2.2 s1.1.toNatClampNeg (s1.2.2 (s1.1 + 1).toNatClampNeg))) (Option.some.inj hres).symm))

theorem dX3_join_0 : decode cX3_join 0 = .ok (.aload_n 0, 1) := by decide +kernel
theorem dX3_join_1 : decode cX3_join 1 = .ok (.getfield 15, 3) := by decide +kernel
theorem dX3_join_4 : decode cX3_join 4 = .ok (.iload_n 1, 1) := by decide +kernel
theorem dX3_join_5 : decode cX3_join 5 = .ok (.dup2, 1) := by decide +kernel
theorem dX3_join_6 : decode cX3_join 6 = .ok (.iaload, 1) := by decide +kernel
theorem dX3_join_7 : decode cX3_join 7 = .ok (.iconst 1, 1) := by decide +kernel
theorem dX3_join_8 : decode cX3_join 8 = .ok (.iload_n 2, 1) := by decide +kernel
theorem dX3_join_9 : decode cX3_join 9 = .ok (.ishl, 1) := by decide +kernel
theorem dX3_join_10 : decode cX3_join 10 = .ok (.ior, 1) := by decide +kernel
theorem dX3_join_11 : decode cX3_join 11 = .ok (.iastore, 1) := by decide +kernel
theorem dX3_join_12 : decode cX3_join 12 = .ok (.aload_n 0, 1) := by decide +kernel
theorem dX3_join_13 : decode cX3_join 13 = .ok (.getfield 15, 3) := by decide +kernel
theorem dX3_join_16 : decode cX3_join 16 = .ok (.iload_n 2, 1) := by decide +kernel
theorem dX3_join_17 : decode cX3_join 17 = .ok (.dup2, 1) := by decide +kernel
theorem dX3_join_18 : decode cX3_join 18 = .ok (.iaload, 1) := by decide +kernel
theorem dX3_join_19 : decode cX3_join 19 = .ok (.iconst 1, 1) := by decide +kernel
theorem dX3_join_20 : decode cX3_join 20 = .ok (.iload_n 1, 1) := by decide +kernel
theorem dX3_join_21 : decode cX3_join 21 = .ok (.ishl, 1) := by decide +kernel
theorem dX3_join_22 : decode cX3_join 22 = .ok (.ior, 1) := by decide +kernel
theorem dX3_join_23 : decode cX3_join 23 = .ok (.iastore, 1) := by decide +kernel
theorem dX3_join_24 : decode cX3_join 24 = .ok (.return_, 1) := by decide +kernel
theorem mX3_join_0 : Cond.fieldLink RX3 15 "Layerways$Net" "near" "[I" ∈ wsX3_join := by decide +kernel
theorem iX3_join_X3 : ∀ w ∈ u_ws RX3 TX3 3, w ∈ wsX3_join := by decide +kernel
def fX3_join (nN : (Nat → Int32)) (p0 : Int32) (p1 : Int32) : Option ((Nat → Int32)) := if zin p0 12 then if zin p0 12 then if zin p1 12 then if zin p1 12 then some (upd (upd nN p0.toNatClampNeg ((nN p0.toNatClampNeg) ||| ((1 : Int32) <<< (p1 &&& 31)))) p1.toNatClampNeg (((upd nN p0.toNatClampNeg ((nN p0.toNatClampNeg) ||| ((1 : Int32) <<< (p1 &&& 31)))) p1.toNatClampNeg) ||| ((1 : Int32) <<< (p0 &&& 31)))) else none else none else none else none
set_option maxRecDepth 100000 in
set_option maxHeartbeats 4000000 in
theorem kX3_join (l : Launch) (K : zK) (aN : Nat) (aNk : Nat) (aNn : Nat)  (nS : Int32) (nK : (Nat → Int32)) (nN : (Nat → Int32)) (p0 : Int32) (p1 : Int32) (r : (Nat → Int32)) (hres : fX3_join nN p0 p1 = some r) : zM l K yX3_join wsX3_join ({ frames := 0, cells := 0, slots := 0, locals := 0 }) [.ref aN, .int p0, .int p1] [(aN, .inr (3, [.ref aNk, .ref aNn, .int nS])), (aNk, .inl (K.2 0, 12, .inl nK)), (aNn, .inl (K.2 0, 12, .inl nN))] (fun _ : Unit => none) (fun _ : Unit => [(aN, .inr (3, [.ref aNk, .ref aNn, .int nS])), (aNk, .inl (K.2 0, 12, .inl nK)), (aNn, .inl (K.2 0, 12, .inl r))]) 0 0 := by
  refine zM.intV (cc := cX3_join) (maxL := 3) (ret := none) rfl (by decide) (Nat.le_of_ble_eq_true rfl) rfl (fun _ => rfl) ?_
  intro G hGl hG hN hE
  have hR : ∀ (pc : Nat) (lv : zL), decode cX3_join pc = .ok (.return_, 1) → zj G pc lv [] [(aN, .inr (3, [.ref aNk, .ref aNn, .int nS])), (aNk, .inl (K.2 0, 12, .inl nK)), (aNn, .inl (K.2 0, 12, .inl r))] 0 0 := fun pc lv d => hE () pc lv d
  clear hE
  unfold fX3_join at hres
  show zj G 0 [(0, .ref aN), (1, .int p0), (2, .int p1)] [] [(aN, .inr (3, [.ref aNk, .ref aNn, .int nS])), (aNk, .inl (K.2 0, 12, .inl nK)), (aNn, .inl (K.2 0, 12, .inl nN))] 0 0
  refine z_aload_n hG dX3_join_0 0 rfl ?_
  refine z_get (ci := 3) (C := RX3) (T := TX3) (N := 3) hG dX3_join_1 iX3_join_X3 1 (by decide) mX3_join_0 rfl rfl 0 rfl rfl ?_
  refine z_iload_n hG dX3_join_4 1 rfl ?_
  refine z_dup2 hG dX3_join_5 rfl rfl ?_
  obtain ⟨hg, hres⟩ := z_guard hres
  refine z_iald hG dX3_join_6 2 rfl hg ?_
  refine z_iconst 1 hG dX3_join_7 (by decide) ?_
  refine z_iload_n hG dX3_join_8 2 rfl ?_
  refine z_ishl hG dX3_join_9 ?_
  refine z_ior hG dX3_join_10 ?_
  obtain ⟨hg, hres⟩ := z_guard hres
  refine z_iast (ws' := [(aN, .inr (3, [.ref aNk, .ref aNn, .int nS])), (aNk, .inl (K.2 0, 12, .inl nK)), (aNn, .inl (K.2 0, 12, .inl (upd nN p0.toNatClampNeg ((nN p0.toNatClampNeg) ||| ((1 : Int32) <<< (p1 &&& 31))))))]) hG dX3_join_11 2 rfl hg rfl ?_
  refine z_aload_n hG dX3_join_12 0 rfl ?_
  refine z_get (ci := 3) (C := RX3) (T := TX3) (N := 3) hG dX3_join_13 iX3_join_X3 1 (by decide) mX3_join_0 rfl rfl 0 rfl rfl ?_
  refine z_iload_n hG dX3_join_16 2 rfl ?_
  refine z_dup2 hG dX3_join_17 rfl rfl ?_
  obtain ⟨hg, hres⟩ := z_guard hres
  refine z_iald hG dX3_join_18 2 rfl hg ?_
  refine z_iconst 1 hG dX3_join_19 (by decide) ?_
  refine z_iload_n hG dX3_join_20 1 rfl ?_
  refine z_ishl hG dX3_join_21 ?_
  refine z_ior hG dX3_join_22 ?_
  obtain ⟨hg, hres⟩ := z_guard hres
  refine z_iast (ws' := [(aN, .inr (3, [.ref aNk, .ref aNn, .int nS])), (aNk, .inl (K.2 0, 12, .inl nK)), (aNn, .inl (K.2 0, 12, .inl (upd (upd nN p0.toNatClampNeg ((nN p0.toNatClampNeg) ||| ((1 : Int32) <<< (p1 &&& 31)))) p1.toNatClampNeg (((upd nN p0.toNatClampNeg ((nN p0.toNatClampNeg) ||| ((1 : Int32) <<< (p1 &&& 31)))) p1.toNatClampNeg) ||| ((1 : Int32) <<< (p0 &&& 31))))))]) hG dX3_join_23 2 rfl hg rfl ?_
  obtain rfl := Option.some.inj hres
  exact (hR _ _ dX3_join_24)

theorem dX3_part_0 : decode cX3_part 0 = .ok (.aload_n 0, 1) := by decide +kernel
theorem dX3_part_1 : decode cX3_part 1 = .ok (.getfield 15, 3) := by decide +kernel
theorem dX3_part_4 : decode cX3_part 4 = .ok (.iload_n 1, 1) := by decide +kernel
theorem dX3_part_5 : decode cX3_part 5 = .ok (.dup2, 1) := by decide +kernel
theorem dX3_part_6 : decode cX3_part 6 = .ok (.iaload, 1) := by decide +kernel
theorem dX3_part_7 : decode cX3_part 7 = .ok (.iconst 1, 1) := by decide +kernel
theorem dX3_part_8 : decode cX3_part 8 = .ok (.iload_n 2, 1) := by decide +kernel
theorem dX3_part_9 : decode cX3_part 9 = .ok (.ishl, 1) := by decide +kernel
theorem dX3_part_10 : decode cX3_part 10 = .ok (.iconst (-1), 1) := by decide +kernel
theorem dX3_part_11 : decode cX3_part 11 = .ok (.ixor, 1) := by decide +kernel
theorem dX3_part_12 : decode cX3_part 12 = .ok (.iand, 1) := by decide +kernel
theorem dX3_part_13 : decode cX3_part 13 = .ok (.iastore, 1) := by decide +kernel
theorem dX3_part_14 : decode cX3_part 14 = .ok (.aload_n 0, 1) := by decide +kernel
theorem dX3_part_15 : decode cX3_part 15 = .ok (.getfield 15, 3) := by decide +kernel
theorem dX3_part_18 : decode cX3_part 18 = .ok (.iload_n 2, 1) := by decide +kernel
theorem dX3_part_19 : decode cX3_part 19 = .ok (.dup2, 1) := by decide +kernel
theorem dX3_part_20 : decode cX3_part 20 = .ok (.iaload, 1) := by decide +kernel
theorem dX3_part_21 : decode cX3_part 21 = .ok (.iconst 1, 1) := by decide +kernel
theorem dX3_part_22 : decode cX3_part 22 = .ok (.iload_n 1, 1) := by decide +kernel
theorem dX3_part_23 : decode cX3_part 23 = .ok (.ishl, 1) := by decide +kernel
theorem dX3_part_24 : decode cX3_part 24 = .ok (.iconst (-1), 1) := by decide +kernel
theorem dX3_part_25 : decode cX3_part 25 = .ok (.ixor, 1) := by decide +kernel
theorem dX3_part_26 : decode cX3_part 26 = .ok (.iand, 1) := by decide +kernel
theorem dX3_part_27 : decode cX3_part 27 = .ok (.iastore, 1) := by decide +kernel
theorem dX3_part_28 : decode cX3_part 28 = .ok (.return_, 1) := by decide +kernel
theorem mX3_part_0 : Cond.fieldLink RX3 15 "Layerways$Net" "near" "[I" ∈ wsX3_part := by decide +kernel
theorem iX3_part_X3 : ∀ w ∈ u_ws RX3 TX3 3, w ∈ wsX3_part := by decide +kernel
def fX3_part (nN : (Nat → Int32)) (p0 : Int32) (p1 : Int32) : Option ((Nat → Int32)) := if zin p0 12 then if zin p0 12 then if zin p1 12 then if zin p1 12 then some (upd (upd nN p0.toNatClampNeg ((nN p0.toNatClampNeg) &&& (((1 : Int32) <<< (p1 &&& 31)) ^^^ (-1)))) p1.toNatClampNeg (((upd nN p0.toNatClampNeg ((nN p0.toNatClampNeg) &&& (((1 : Int32) <<< (p1 &&& 31)) ^^^ (-1)))) p1.toNatClampNeg) &&& (((1 : Int32) <<< (p0 &&& 31)) ^^^ (-1)))) else none else none else none else none
set_option maxRecDepth 100000 in
set_option maxHeartbeats 4000000 in
theorem kX3_part (l : Launch) (K : zK) (aN : Nat) (aNk : Nat) (aNn : Nat)  (nS : Int32) (nK : (Nat → Int32)) (nN : (Nat → Int32)) (p0 : Int32) (p1 : Int32) (r : (Nat → Int32)) (hres : fX3_part nN p0 p1 = some r) : zM l K yX3_part wsX3_part ({ frames := 0, cells := 0, slots := 0, locals := 0 }) [.ref aN, .int p0, .int p1] [(aN, .inr (3, [.ref aNk, .ref aNn, .int nS])), (aNk, .inl (K.2 0, 12, .inl nK)), (aNn, .inl (K.2 0, 12, .inl nN))] (fun _ : Unit => none) (fun _ : Unit => [(aN, .inr (3, [.ref aNk, .ref aNn, .int nS])), (aNk, .inl (K.2 0, 12, .inl nK)), (aNn, .inl (K.2 0, 12, .inl r))]) 0 0 := by
  refine zM.intV (cc := cX3_part) (maxL := 3) (ret := none) rfl (by decide) (Nat.le_of_ble_eq_true rfl) rfl (fun _ => rfl) ?_
  intro G hGl hG hN hE
  have hR : ∀ (pc : Nat) (lv : zL), decode cX3_part pc = .ok (.return_, 1) → zj G pc lv [] [(aN, .inr (3, [.ref aNk, .ref aNn, .int nS])), (aNk, .inl (K.2 0, 12, .inl nK)), (aNn, .inl (K.2 0, 12, .inl r))] 0 0 := fun pc lv d => hE () pc lv d
  clear hE
  unfold fX3_part at hres
  show zj G 0 [(0, .ref aN), (1, .int p0), (2, .int p1)] [] [(aN, .inr (3, [.ref aNk, .ref aNn, .int nS])), (aNk, .inl (K.2 0, 12, .inl nK)), (aNn, .inl (K.2 0, 12, .inl nN))] 0 0
  refine z_aload_n hG dX3_part_0 0 rfl ?_
  refine z_get (ci := 3) (C := RX3) (T := TX3) (N := 3) hG dX3_part_1 iX3_part_X3 1 (by decide) mX3_part_0 rfl rfl 0 rfl rfl ?_
  refine z_iload_n hG dX3_part_4 1 rfl ?_
  refine z_dup2 hG dX3_part_5 rfl rfl ?_
  obtain ⟨hg, hres⟩ := z_guard hres
  refine z_iald hG dX3_part_6 2 rfl hg ?_
  refine z_iconst 1 hG dX3_part_7 (by decide) ?_
  refine z_iload_n hG dX3_part_8 2 rfl ?_
  refine z_ishl hG dX3_part_9 ?_
  refine z_iconst (-1) hG dX3_part_10 (by decide) ?_
  refine z_ixor hG dX3_part_11 ?_
  refine z_iand hG dX3_part_12 ?_
  obtain ⟨hg, hres⟩ := z_guard hres
  refine z_iast (ws' := [(aN, .inr (3, [.ref aNk, .ref aNn, .int nS])), (aNk, .inl (K.2 0, 12, .inl nK)), (aNn, .inl (K.2 0, 12, .inl (upd nN p0.toNatClampNeg ((nN p0.toNatClampNeg) &&& (((1 : Int32) <<< (p1 &&& 31)) ^^^ (-1))))))]) hG dX3_part_13 2 rfl hg rfl ?_
  refine z_aload_n hG dX3_part_14 0 rfl ?_
  refine z_get (ci := 3) (C := RX3) (T := TX3) (N := 3) hG dX3_part_15 iX3_part_X3 1 (by decide) mX3_part_0 rfl rfl 0 rfl rfl ?_
  refine z_iload_n hG dX3_part_18 2 rfl ?_
  refine z_dup2 hG dX3_part_19 rfl rfl ?_
  obtain ⟨hg, hres⟩ := z_guard hres
  refine z_iald hG dX3_part_20 2 rfl hg ?_
  refine z_iconst 1 hG dX3_part_21 (by decide) ?_
  refine z_iload_n hG dX3_part_22 1 rfl ?_
  refine z_ishl hG dX3_part_23 ?_
  refine z_iconst (-1) hG dX3_part_24 (by decide) ?_
  refine z_ixor hG dX3_part_25 ?_
  refine z_iand hG dX3_part_26 ?_
  obtain ⟨hg, hres⟩ := z_guard hres
  refine z_iast (ws' := [(aN, .inr (3, [.ref aNk, .ref aNn, .int nS])), (aNk, .inl (K.2 0, 12, .inl nK)), (aNn, .inl (K.2 0, 12, .inl (upd (upd nN p0.toNatClampNeg ((nN p0.toNatClampNeg) &&& (((1 : Int32) <<< (p1 &&& 31)) ^^^ (-1)))) p1.toNatClampNeg (((upd nN p0.toNatClampNeg ((nN p0.toNatClampNeg) &&& (((1 : Int32) <<< (p1 &&& 31)) ^^^ (-1)))) p1.toNatClampNeg) &&& (((1 : Int32) <<< (p0 &&& 31)) ^^^ (-1))))))]) hG dX3_part_27 2 rfl hg rfl ?_
  obtain rfl := Option.some.inj hres
  exact (hR _ _ dX3_part_28)
