theorem dL_wayAt_0 : decode cL_wayAt 0 = .ok (.aload 4, 2) := by decide +kernel
theorem dL_wayAt_2 : decode cL_wayAt 2 = .ok (.iconst 0, 1) := by decide +kernel
theorem dL_wayAt_3 : decode cL_wayAt 3 = .ok (.aload_n 0, 1) := by decide +kernel
theorem dL_wayAt_4 : decode cL_wayAt 4 = .ok (.iload_n 1, 1) := by decide +kernel
theorem dL_wayAt_5 : decode cL_wayAt 5 = .ok (.iload_n 2, 1) := by decide +kernel
theorem dL_wayAt_6 : decode cL_wayAt 6 = .ok (.iload_n 3, 1) := by decide +kernel
theorem dL_wayAt_7 : decode cL_wayAt 7 = .ok (.invokevirtual 57, 3) := by decide +kernel
theorem dL_wayAt_10 : decode cL_wayAt 10 = .ok (.i2l, 1) := by decide +kernel
theorem dL_wayAt_11 : decode cL_wayAt 11 = .ok (.lastore, 1) := by decide +kernel
theorem dL_wayAt_12 : decode cL_wayAt 12 = .ok (.goto 15, 3) := by decide +kernel
theorem dL_wayAt_15 : decode cL_wayAt 15 = .ok (.astore 5, 2) := by decide +kernel
theorem dL_wayAt_17 : decode cL_wayAt 17 = .ok (.iconst 1, 1) := by decide +kernel
theorem dL_wayAt_18 : decode cL_wayAt 18 = .ok (.ireturn, 1) := by decide +kernel
theorem dL_wayAt_19 : decode cL_wayAt 19 = .ok (.astore 5, 2) := by decide +kernel
theorem dL_wayAt_21 : decode cL_wayAt 21 = .ok (.iconst 2, 1) := by decide +kernel
theorem dL_wayAt_22 : decode cL_wayAt 22 = .ok (.ireturn, 1) := by decide +kernel
theorem dL_wayAt_23 : decode cL_wayAt 23 = .ok (.astore 5, 2) := by decide +kernel
theorem dL_wayAt_25 : decode cL_wayAt 25 = .ok (.iconst 3, 1) := by decide +kernel
theorem dL_wayAt_26 : decode cL_wayAt 26 = .ok (.ireturn, 1) := by decide +kernel
theorem dL_wayAt_27 : decode cL_wayAt 27 = .ok (.iconst 0, 1) := by decide +kernel
theorem dL_wayAt_28 : decode cL_wayAt 28 = .ok (.ireturn, 1) := by decide +kernel
set_option maxRecDepth 20000 in
theorem ggL_wayAt_X5_wayAt : GoodIn wsL_wayAt wsX5_wayAt := goodIn_ca (goodIn_ca (goodIn_ca (goodIn_r _ [8, 9, 10, 11, 12, 13, 14, 15, 16, 17, 18, 19, 7, 20, 21, 22, 23, 24, 25, 26, 27, 28, 29, 30, 31, 32, 33, 34, 35, 36, 37, 38, 39, 40, 41, 42, 43, 44, 45, 46, 47, 48, 49, 50, 51, 52, 53, 54, 55, 56, 57, 58, 59, 60, 61, 62, 63, 64, 65, 66, 67, 68, 69, 70, 71, 72, 73, 74, 75, 76, 77, 78, 79, 80, 81, 82, 83] (by decide +kernel) (by decide +kernel)) (goodIn_sub (fun _ h => List.mem_cons_of_mem _ (List.mem_append_left _ (List.mem_append_left _ (List.mem_append_right _ h)))) (by decide +kernel))) (goodIn_sub (fun _ h => List.mem_cons_of_mem _ (List.mem_append_left _ (List.mem_append_right _ h))) (by decide +kernel))) (goodIn_sub (fun _ h => List.mem_cons_of_mem _ (List.mem_append_right _ h)) (by decide +kernel))
set_option maxRecDepth 20000 in
theorem gL_wayAt_X5_wayAt : GoodIn wsL_wayAt (wsV RL 57 RX5 yX5_wayAt wsX5_wayAt) := goodIn_app (goodIn_of _ (by decide +kernel)) ggL_wayAt_X5_wayAt
theorem mL_wayAt_0 : Cond.classLink RL 20 "java/util/NoSuchElementException" ∈ wsL_wayAt := by decide +kernel
theorem mL_wayAt_1 : Cond.classLink RL 15 "java/lang/IllegalStateException" ∈ wsL_wayAt := by decide +kernel
theorem mL_wayAt_2 : Cond.classLink RL 36 "java/lang/IndexOutOfBoundsException" ∈ wsL_wayAt := by decide +kernel
def fL_wayAt (uU : (Nat → Int64)) (gB : Int32) (nS : Int32) (nK : (Nat → Int32)) (nN : (Nat → Int32)) (fL : (Nat → Int32)) (fC : (Nat → Int32)) (fQ : (Nat → Int32)) (wM : Int32) (wL : (Nat → Int32)) (wC : (Nat → Int32)) (wQ : (Nat → Int32)) (p0 : Int32) (p1 : Int32) (p2 : Int32) : Option (Int32 × (Nat → Int64) × Int32 × (Nat → Int32) × (Nat → Int32) × (Nat → Int32)) := (fX5_wayAt gB nS nK nN fL fC fQ wM wL wC wQ p0 p1 p2).bind fun v1 => Sum.elim (fun x2 : String => if x2 = "java/util/NoSuchElementException" then some (1, uU, v1.2.1, v1.2.2.1, v1.2.2.2.1, v1.2.2.2.2) else if x2 = "java/lang/IllegalStateException" then some (2, uU, v1.2.1, v1.2.2.1, v1.2.2.2.1, v1.2.2.2.2) else if x2 = "java/lang/IndexOutOfBoundsException" then some (3, uU, v1.2.1, v1.2.2.1, v1.2.2.2.1, v1.2.2.2.2) else none) (fun r3 : Int32 => some (0, (vp_updL uU (0 : Int32).toNatClampNeg r3.toInt64), v1.2.1, v1.2.2.1, v1.2.2.2.1, v1.2.2.2.2)) v1.1
set_option maxRecDepth 100000 in
set_option maxHeartbeats 4000000 in
theorem kL_wayAt (l : Launch) (K : zK) (aU : Nat) (aH : Nat) (aN : Nat) (aNk : Nat) (aNn : Nat) (aF : Nat) (aFl : Nat) (aFc : Nat) (aFq : Nat) (aA : Nat) (aAl : Nat) (aAc : Nat) (aAq : Nat) (aC : Nat) (aO : Nat) (aX : Nat)  (uU : (Nat → Int64)) (gB : Int32) (gK : Int32) (nS : Int32) (nK : (Nat → Int32)) (nN : (Nat → Int32)) (fM : Int32) (fL : (Nat → Int32)) (fC : (Nat → Int32)) (fQ : (Nat → Int32)) (wM : Int32) (wL : (Nat → Int32)) (wC : (Nat → Int32)) (wQ : (Nat → Int32)) (p0 : Int32) (p1 : Int32) (p2 : Int32) (r : Int32 × (Nat → Int64) × Int32 × (Nat → Int32) × (Nat → Int32) × (Nat → Int32)) (hres : fL_wayAt uU gB nS nK nN fL fC fQ wM wL wC wQ p0 p1 p2 = some r) : zX l K yL_wayAt wsL_wayAt ({ frames := 8, cells := 8, slots := 48, locals := 128 }) [.ref aH, .int p0, .int p1, .int p2, .ref aU] [(aU, .inl (K.2 4, 1, .inr (.inl uU))), (aH, .inr (5, [.ref aN, .ref aF, .ref aA, .ref aC, .ref aO, .ref aX, .int gB, .int gK])), (aN, .inr (3, [.ref aNk, .ref aNn, .int nS])), (aNk, .inl (K.2 0, 12, .inl nK)), (aNn, .inl (K.2 0, 12, .inl nN)), (aF, .inr (2, [.ref aFl, .ref aFc, .ref aFq, .int fM])), (aFl, .inl (K.2 0, 12, .inl fL)), (aFc, .inl (K.2 0, 12, .inl fC)), (aFq, .inl (K.2 0, 12, .inl fQ)), (aA, .inr (2, [.ref aAl, .ref aAc, .ref aAq, .int wM])), (aAl, .inl (K.2 0, 12, .inl wL)), (aAc, .inl (K.2 0, 12, .inl wC)), (aAq, .inl (K.2 0, 12, .inl wQ))] (.inr (some (.int r.1))) [(aU, .inl (K.2 4, 1, .inr (.inl r.2.1))), (aH, .inr (5, [.ref aN, .ref aF, .ref aA, .ref aC, .ref aO, .ref aX, .int gB, .int gK])), (aN, .inr (3, [.ref aNk, .ref aNn, .int nS])), (aNk, .inl (K.2 0, 12, .inl nK)), (aNn, .inl (K.2 0, 12, .inl nN)), (aF, .inr (2, [.ref aFl, .ref aFc, .ref aFq, .int fM])), (aFl, .inl (K.2 0, 12, .inl fL)), (aFc, .inl (K.2 0, 12, .inl fC)), (aFq, .inl (K.2 0, 12, .inl fQ)), (aA, .inr (2, [.ref aAl, .ref aAc, .ref aAq, .int r.2.2.1])), (aAl, .inl (K.2 0, 12, .inl r.2.2.2.1)), (aAc, .inl (K.2 0, 12, .inl r.2.2.2.2.1)), (aAq, .inl (K.2 0, 12, .inl r.2.2.2.2.2))] 8 48 := by
  refine zX.intH (cc := cL_wayAt) (maxL := 6) (ret := (some .int)) (hh := [(0, 12, 15, 20), (0, 12, 19, 15), (0, 12, 23, 36)]) rfl (by decide) (Nat.le_of_ble_eq_true rfl) rfl ?_
  intro G hGl hG hV hT hR
  unfold fL_wayAt at hres
  show zj G 0 [(0, .ref aH), (1, .int p0), (2, .int p1), (3, .int p2), (4, .ref aU)] [] [(aU, .inl (K.2 4, 1, .inr (.inl uU))), (aH, .inr (5, [.ref aN, .ref aF, .ref aA, .ref aC, .ref aO, .ref aX, .int gB, .int gK])), (aN, .inr (3, [.ref aNk, .ref aNn, .int nS])), (aNk, .inl (K.2 0, 12, .inl nK)), (aNn, .inl (K.2 0, 12, .inl nN)), (aF, .inr (2, [.ref aFl, .ref aFc, .ref aFq, .int fM])), (aFl, .inl (K.2 0, 12, .inl fL)), (aFc, .inl (K.2 0, 12, .inl fC)), (aFq, .inl (K.2 0, 12, .inl fQ)), (aA, .inr (2, [.ref aAl, .ref aAc, .ref aAq, .int wM])), (aAl, .inl (K.2 0, 12, .inl wL)), (aAc, .inl (K.2 0, 12, .inl wC)), (aAq, .inl (K.2 0, 12, .inl wQ))] 0 0
  refine z_aload hG dL_wayAt_0 4 rfl ?_
  refine z_iconst 0 hG dL_wayAt_2 (by decide) ?_
  refine z_aload_n hG dL_wayAt_3 0 rfl ?_
  refine z_iload_n hG dL_wayAt_4 1 rfl ?_
  refine z_iload_n hG dL_wayAt_5 2 rfl ?_
  refine z_iload_n hG dL_wayAt_6 3 rfl ?_
  obtain ⟨v1, hv, hres⟩ := z_bind hres
  refine z_callX (As := [.int p0, .int p1, .int p2]) (rest := [.int 0, .ref aU]) (wr := [(aU, .inl (K.2 4, 1, .inr (.inl uU)))]) (ws' := [(aU, .inl (K.2 4, 1, .inr (.inl uU))), (aH, .inr (5, [.ref aN, .ref aF, .ref aA, .ref aC, .ref aO, .ref aX, .int gB, .int gK])), (aN, .inr (3, [.ref aNk, .ref aNn, .int nS])), (aNk, .inl (K.2 0, 12, .inl nK)), (aNn, .inl (K.2 0, 12, .inl nN)), (aF, .inr (2, [.ref aFl, .ref aFc, .ref aFq, .int fM])), (aFl, .inl (K.2 0, 12, .inl fL)), (aFc, .inl (K.2 0, 12, .inl fC)), (aFq, .inl (K.2 0, 12, .inl fQ)), (aA, .inr (2, [.ref aAl, .ref aAc, .ref aAq, .int v1.2.1])), (aAl, .inl (K.2 0, 12, .inl v1.2.2.1)), (aAc, .inl (K.2 0, 12, .inl v1.2.2.2.1)), (aAq, .inl (K.2 0, 12, .inl v1.2.2.2.2))]) (kc' := 8) (ks' := 48) (n := 3) (C := RX5) (ci := 5) hG hV dL_wayAt_7 (kX5_wayAt _ K aH aN aNk aNn aF aFl aFc aFq aA aAl aAc aAq aC aO aX gB gK nS nK nN fM fL fC fQ wM wL wC wQ p0 p1 p2 v1 hv) gL_wayAt_X5_wayAt rfl rfl rfl ⟨rfl, by decide, by decide, rfl⟩ ⟨by decide, by decide⟩ (Nat.le_of_ble_eq_true rfl) ⟨(Nat.le_of_ble_eq_true rfl), (Nat.le_of_ble_eq_true rfl)⟩ [1, 2, 3, 4, 5, 6, 7, 8, 9, 10, 11, 12] [0] [0, 1, 2, 3, 4, 5, 6, 7, 8, 9, 10, 11, 12] rfl rfl rfl rfl (by decide) rfl rfl rfl rfl rfl 0 rfl rfl rfl rfl (fun o9 ho => ?_) (fun E9 ho => ?_)
  · rcases hv1 : v1.1 with x2 | r3
    · rw [hv1] at ho
      cases ho
    rw [hv1] at ho
    obtain rfl := Sum.inr.inj ho
    replace hres := z_elimR hv1 hres
    show zj G 10 [(0, .ref aH), (1, .int p0), (2, .int p1), (3, .int p2), (4, .ref aU)] [.int r3, .int 0, .ref aU] [(aU, .inl (K.2 4, 1, .inr (.inl uU))), (aH, .inr (5, [.ref aN, .ref aF, .ref aA, .ref aC, .ref aO, .ref aX, .int gB, .int gK])), (aN, .inr (3, [.ref aNk, .ref aNn, .int nS])), (aNk, .inl (K.2 0, 12, .inl nK)), (aNn, .inl (K.2 0, 12, .inl nN)), (aF, .inr (2, [.ref aFl, .ref aFc, .ref aFq, .int fM])), (aFl, .inl (K.2 0, 12, .inl fL)), (aFc, .inl (K.2 0, 12, .inl fC)), (aFq, .inl (K.2 0, 12, .inl fQ)), (aA, .inr (2, [.ref aAl, .ref aAc, .ref aAq, .int v1.2.1])), (aAl, .inl (K.2 0, 12, .inl v1.2.2.1)), (aAc, .inl (K.2 0, 12, .inl v1.2.2.2.1)), (aAq, .inl (K.2 0, 12, .inl v1.2.2.2.2))] 8 48
    refine z_i2l hG dL_wayAt_10 ?_
    refine z_last (ws' := [(aU, .inl (K.2 4, 1, .inr (.inl (vp_updL uU (0 : Int32).toNatClampNeg r3.toInt64)))), (aH, .inr (5, [.ref aN, .ref aF, .ref aA, .ref aC, .ref aO, .ref aX, .int gB, .int gK])), (aN, .inr (3, [.ref aNk, .ref aNn, .int nS])), (aNk, .inl (K.2 0, 12, .inl nK)), (aNn, .inl (K.2 0, 12, .inl nN)), (aF, .inr (2, [.ref aFl, .ref aFc, .ref aFq, .int fM])), (aFl, .inl (K.2 0, 12, .inl fL)), (aFc, .inl (K.2 0, 12, .inl fC)), (aFq, .inl (K.2 0, 12, .inl fQ)), (aA, .inr (2, [.ref aAl, .ref aAc, .ref aAq, .int v1.2.1])), (aAl, .inl (K.2 0, 12, .inl v1.2.2.1)), (aAc, .inl (K.2 0, 12, .inl v1.2.2.2.1)), (aAq, .inl (K.2 0, 12, .inl v1.2.2.2.2))]) hG dL_wayAt_11 0 rfl (by decide) rfl ?_
    refine z_goto 27 hG dL_wayAt_12 (by decide) ?_
    refine z_iconst 0 hG dL_wayAt_27 (by decide) ?_
    obtain rfl := Option.some.inj hres
    exact (hR _ rfl _ _ dL_wayAt_28)
  · rcases hv1 : v1.1 with x2 | r3
    rotate_left
    · rw [hv1] at ho
      cases ho
    rw [hv1] at ho
    obtain rfl := Sum.inl.inj ho
    replace hres := z_elimL hv1 hres
    by_cases c : x2 = "java/util/NoSuchElementException"
    · replace hres := z_ifp c hres
      subst c
      refine z_catch (h1 := []) (a := 0) (b := 12) (hd := 15) (ct := 20) (h2 := [(0, 12, 19, 15), (0, 12, 23, 36)]) hG hV hT (fun _ h => absurd h List.not_mem_nil) (by decide) (by decide) (by decide) mL_wayAt_0 (by decide) (fun q4 => ?_)
      show zj G 15 [(0, .ref aH), (1, .int p0), (2, .int p1), (3, .int p2), (4, .ref aU)] [.ref q4] [(aU, .inl (K.2 4, 1, .inr (.inl uU))), (aH, .inr (5, [.ref aN, .ref aF, .ref aA, .ref aC, .ref aO, .ref aX, .int gB, .int gK])), (aN, .inr (3, [.ref aNk, .ref aNn, .int nS])), (aNk, .inl (K.2 0, 12, .inl nK)), (aNn, .inl (K.2 0, 12, .inl nN)), (aF, .inr (2, [.ref aFl, .ref aFc, .ref aFq, .int fM])), (aFl, .inl (K.2 0, 12, .inl fL)), (aFc, .inl (K.2 0, 12, .inl fC)), (aFq, .inl (K.2 0, 12, .inl fQ)), (aA, .inr (2, [.ref aAl, .ref aAc, .ref aAq, .int v1.2.1])), (aAl, .inl (K.2 0, 12, .inl v1.2.2.1)), (aAc, .inl (K.2 0, 12, .inl v1.2.2.2.1)), (aAq, .inl (K.2 0, 12, .inl v1.2.2.2.2))] 8 48
      refine z_astore (lv' := [(5, .ref q4), (0, .ref aH), (1, .int p0), (2, .int p1), (3, .int p2), (4, .ref aU)]) hG dL_wayAt_15 (by decide) rfl ?_
      refine z_iconst 1 hG dL_wayAt_17 (by decide) ?_
      obtain rfl := Option.some.inj hres
      exact (hR _ rfl _ _ dL_wayAt_18)
    replace hres := z_ifn c hres
    by_cases c : x2 = "java/lang/IllegalStateException"
    · replace hres := z_ifp c hres
      subst c
      refine z_catch (h1 := [(0, 12, 15, 20)]) (a := 0) (b := 12) (hd := 19) (ct := 15) (h2 := [(0, 12, 23, 36)]) hG hV hT (List.forall_mem_cons.mpr ⟨⟨by decide, _, mL_wayAt_0, by decide, by decide⟩, (fun _ h => absurd h List.not_mem_nil)⟩) (by decide) (by decide) (by decide) mL_wayAt_1 (by decide) (fun q5 => ?_)
      show zj G 19 [(0, .ref aH), (1, .int p0), (2, .int p1), (3, .int p2), (4, .ref aU)] [.ref q5] [(aU, .inl (K.2 4, 1, .inr (.inl uU))), (aH, .inr (5, [.ref aN, .ref aF, .ref aA, .ref aC, .ref aO, .ref aX, .int gB, .int gK])), (aN, .inr (3, [.ref aNk, .ref aNn, .int nS])), (aNk, .inl (K.2 0, 12, .inl nK)), (aNn, .inl (K.2 0, 12, .inl nN)), (aF, .inr (2, [.ref aFl, .ref aFc, .ref aFq, .int fM])), (aFl, .inl (K.2 0, 12, .inl fL)), (aFc, .inl (K.2 0, 12, .inl fC)), (aFq, .inl (K.2 0, 12, .inl fQ)), (aA, .inr (2, [.ref aAl, .ref aAc, .ref aAq, .int v1.2.1])), (aAl, .inl (K.2 0, 12, .inl v1.2.2.1)), (aAc, .inl (K.2 0, 12, .inl v1.2.2.2.1)), (aAq, .inl (K.2 0, 12, .inl v1.2.2.2.2))] 8 48
      refine z_astore (lv' := [(5, .ref q5), (0, .ref aH), (1, .int p0), (2, .int p1), (3, .int p2), (4, .ref aU)]) hG dL_wayAt_19 (by decide) rfl ?_
      refine z_iconst 2 hG dL_wayAt_21 (by decide) ?_
      obtain rfl := Option.some.inj hres
      exact (hR _ rfl _ _ dL_wayAt_22)
    replace hres := z_ifn c hres
    by_cases c : x2 = "java/lang/IndexOutOfBoundsException"
    · replace hres := z_ifp c hres
      subst c
      refine z_catch (h1 := [(0, 12, 15, 20), (0, 12, 19, 15)]) (a := 0) (b := 12) (hd := 23) (ct := 36) (h2 := []) hG hV hT (List.forall_mem_cons.mpr ⟨⟨by decide, _, mL_wayAt_0, by decide, by decide⟩, (List.forall_mem_cons.mpr ⟨⟨by decide, _, mL_wayAt_1, by decide, by decide⟩, (fun _ h => absurd h List.not_mem_nil)⟩)⟩) (by decide) (by decide) (by decide) mL_wayAt_2 (by decide) (fun q6 => ?_)
      show zj G 23 [(0, .ref aH), (1, .int p0), (2, .int p1), (3, .int p2), (4, .ref aU)] [.ref q6] [(aU, .inl (K.2 4, 1, .inr (.inl uU))), (aH, .inr (5, [.ref aN, .ref aF, .ref aA, .ref aC, .ref aO, .ref aX, .int gB, .int gK])), (aN, .inr (3, [.ref aNk, .ref aNn, .int nS])), (aNk, .inl (K.2 0, 12, .inl nK)), (aNn, .inl (K.2 0, 12, .inl nN)), (aF, .inr (2, [.ref aFl, .ref aFc, .ref aFq, .int fM])), (aFl, .inl (K.2 0, 12, .inl fL)), (aFc, .inl (K.2 0, 12, .inl fC)), (aFq, .inl (K.2 0, 12, .inl fQ)), (aA, .inr (2, [.ref aAl, .ref aAc, .ref aAq, .int v1.2.1])), (aAl, .inl (K.2 0, 12, .inl v1.2.2.1)), (aAc, .inl (K.2 0, 12, .inl v1.2.2.2.1)), (aAq, .inl (K.2 0, 12, .inl v1.2.2.2.2))] 8 48
      refine z_astore (lv' := [(5, .ref q6), (0, .ref aH), (1, .int p0), (2, .int p1), (3, .int p2), (4, .ref aU)]) hG dL_wayAt_23 (by decide) rfl ?_
      refine z_iconst 3 hG dL_wayAt_25 (by decide) ?_
      obtain rfl := Option.some.inj hres
      exact (hR _ rfl _ _ dL_wayAt_26)
    replace hres := z_ifn c hres
    cases hres

theorem dL_through_0 : decode cL_through 0 = .ok (.aload_n 3, 1) := by decide +kernel
theorem dL_through_1 : decode cL_through 1 = .ok (.iconst 0, 1) := by decide +kernel
theorem dL_through_2 : decode cL_through 2 = .ok (.aload_n 0, 1) := by decide +kernel
theorem dL_through_3 : decode cL_through 3 = .ok (.iload_n 1, 1) := by decide +kernel
theorem dL_through_4 : decode cL_through 4 = .ok (.iload_n 2, 1) := by decide +kernel
theorem dL_through_5 : decode cL_through 5 = .ok (.invokevirtual 61, 3) := by decide +kernel
theorem dL_through_8 : decode cL_through 8 = .ok (.i2l, 1) := by decide +kernel
theorem dL_through_9 : decode cL_through 9 = .ok (.lastore, 1) := by decide +kernel
theorem dL_through_10 : decode cL_through 10 = .ok (.goto 11, 3) := by decide +kernel
theorem dL_through_13 : decode cL_through 13 = .ok (.astore 4, 2) := by decide +kernel
theorem dL_through_15 : decode cL_through 15 = .ok (.iconst 1, 1) := by decide +kernel
theorem dL_through_16 : decode cL_through 16 = .ok (.ireturn, 1) := by decide +kernel
theorem dL_through_17 : decode cL_through 17 = .ok (.astore 4, 2) := by decide +kernel
theorem dL_through_19 : decode cL_through 19 = .ok (.iconst 2, 1) := by decide +kernel
theorem dL_through_20 : decode cL_through 20 = .ok (.ireturn, 1) := by decide +kernel
theorem dL_through_21 : decode cL_through 21 = .ok (.iconst 0, 1) := by decide +kernel
theorem dL_through_22 : decode cL_through 22 = .ok (.ireturn, 1) := by decide +kernel
set_option maxRecDepth 20000 in
theorem ggL_through_X5_through : GoodIn wsL_through wsX5_through := goodIn_ca (goodIn_ca (goodIn_r _ [7, 8, 9, 10, 11, 12, 6, 13, 14, 15, 16, 17, 18, 19, 20, 21, 22, 23, 24, 25, 26, 27, 28, 29, 30, 31, 32, 33, 34, 35, 36, 37, 38, 39, 40, 41, 42, 43, 44, 45, 46, 47, 48, 49, 50, 51, 52, 53, 54, 55, 56, 57, 58, 59, 60, 61, 62, 63, 64, 65, 66, 67, 68, 69, 70, 71, 72] (by decide +kernel) (by decide +kernel)) (goodIn_sub (fun _ h => List.mem_cons_of_mem _ (List.mem_append_left _ (List.mem_append_right _ h))) (by decide +kernel))) (goodIn_sub (fun _ h => List.mem_cons_of_mem _ (List.mem_append_right _ h)) (by decide +kernel))
set_option maxRecDepth 20000 in
theorem gL_through_X5_through : GoodIn wsL_through (wsV RL 61 RX5 yX5_through wsX5_through) := goodIn_app (goodIn_of _ (by decide +kernel)) ggL_through_X5_through
theorem mL_through_0 : Cond.classLink RL 20 "java/util/NoSuchElementException" ∈ wsL_through := by decide +kernel
theorem mL_through_1 : Cond.classLink RL 15 "java/lang/IllegalStateException" ∈ wsL_through := by decide +kernel
def fL_through (uU : (Nat → Int64)) (gB : Int32) (nS : Int32) (nK : (Nat → Int32)) (nN : (Nat → Int32)) (fL : (Nat → Int32)) (fC : (Nat → Int32)) (wM : Int32) (wL : (Nat → Int32)) (wC : (Nat → Int32)) (wQ : (Nat → Int32)) (p0 : Int32) (p1 : Int32) : Option (Int32 × (Nat → Int64) × Int32 × (Nat → Int32) × (Nat → Int32) × (Nat → Int32)) := (fX5_through gB nS nK nN fL fC wM wL wC wQ p0 p1).bind fun v1 => Sum.elim (fun x2 : String => if x2 = "java/util/NoSuchElementException" then some (1, uU, v1.2.1, v1.2.2.1, v1.2.2.2.1, v1.2.2.2.2) else if x2 = "java/lang/IllegalStateException" then some (2, uU, v1.2.1, v1.2.2.1, v1.2.2.2.1, v1.2.2.2.2) else none) (fun r3 : Int32 => some (0, (vp_updL uU (0 : Int32).toNatClampNeg r3.toInt64), v1.2.1, v1.2.2.1, v1.2.2.2.1, v1.2.2.2.2)) v1.1
set_option maxRecDepth 100000 in
set_option maxHeartbeats 4000000 in
theorem kL_through (l : Launch) (K : zK) (aU : Nat) (aH : Nat) (aN : Nat) (aNk : Nat) (aNn : Nat) (aF : Nat) (aFl : Nat) (aFc : Nat) (aFq : Nat) (aA : Nat) (aAl : Nat) (aAc : Nat) (aAq : Nat) (aC : Nat) (aO : Nat) (aX : Nat)  (uU : (Nat → Int64)) (gB : Int32) (gK : Int32) (nS : Int32) (nK : (Nat → Int32)) (nN : (Nat → Int32)) (fM : Int32) (fL : (Nat → Int32)) (fC : (Nat → Int32)) (fQ : (Nat → Int32)) (wM : Int32) (wL : (Nat → Int32)) (wC : (Nat → Int32)) (wQ : (Nat → Int32)) (p0 : Int32) (p1 : Int32) (r : Int32 × (Nat → Int64) × Int32 × (Nat → Int32) × (Nat → Int32) × (Nat → Int32)) (hres : fL_through uU gB nS nK nN fL fC wM wL wC wQ p0 p1 = some r) : zX l K yL_through wsL_through ({ frames := 8, cells := 8, slots := 48, locals := 128 }) [.ref aH, .int p0, .int p1, .ref aU] [(aU, .inl (K.2 4, 1, .inr (.inl uU))), (aH, .inr (5, [.ref aN, .ref aF, .ref aA, .ref aC, .ref aO, .ref aX, .int gB, .int gK])), (aN, .inr (3, [.ref aNk, .ref aNn, .int nS])), (aNk, .inl (K.2 0, 12, .inl nK)), (aNn, .inl (K.2 0, 12, .inl nN)), (aF, .inr (2, [.ref aFl, .ref aFc, .ref aFq, .int fM])), (aFl, .inl (K.2 0, 12, .inl fL)), (aFc, .inl (K.2 0, 12, .inl fC)), (aFq, .inl (K.2 0, 12, .inl fQ)), (aA, .inr (2, [.ref aAl, .ref aAc, .ref aAq, .int wM])), (aAl, .inl (K.2 0, 12, .inl wL)), (aAc, .inl (K.2 0, 12, .inl wC)), (aAq, .inl (K.2 0, 12, .inl wQ))] (.inr (some (.int r.1))) [(aU, .inl (K.2 4, 1, .inr (.inl r.2.1))), (aH, .inr (5, [.ref aN, .ref aF, .ref aA, .ref aC, .ref aO, .ref aX, .int gB, .int gK])), (aN, .inr (3, [.ref aNk, .ref aNn, .int nS])), (aNk, .inl (K.2 0, 12, .inl nK)), (aNn, .inl (K.2 0, 12, .inl nN)), (aF, .inr (2, [.ref aFl, .ref aFc, .ref aFq, .int fM])), (aFl, .inl (K.2 0, 12, .inl fL)), (aFc, .inl (K.2 0, 12, .inl fC)), (aFq, .inl (K.2 0, 12, .inl fQ)), (aA, .inr (2, [.ref aAl, .ref aAc, .ref aAq, .int r.2.2.1])), (aAl, .inl (K.2 0, 12, .inl r.2.2.2.1)), (aAc, .inl (K.2 0, 12, .inl r.2.2.2.2.1)), (aAq, .inl (K.2 0, 12, .inl r.2.2.2.2.2))] 8 48 := by
  refine zX.intH (cc := cL_through) (maxL := 5) (ret := (some .int)) (hh := [(0, 10, 13, 20), (0, 10, 17, 15)]) rfl (by decide) (Nat.le_of_ble_eq_true rfl) rfl ?_
  intro G hGl hG hV hT hR
  unfold fL_through at hres
  show zj G 0 [(0, .ref aH), (1, .int p0), (2, .int p1), (3, .ref aU)] [] [(aU, .inl (K.2 4, 1, .inr (.inl uU))), (aH, .inr (5, [.ref aN, .ref aF, .ref aA, .ref aC, .ref aO, .ref aX, .int gB, .int gK])), (aN, .inr (3, [.ref aNk, .ref aNn, .int nS])), (aNk, .inl (K.2 0, 12, .inl nK)), (aNn, .inl (K.2 0, 12, .inl nN)), (aF, .inr (2, [.ref aFl, .ref aFc, .ref aFq, .int fM])), (aFl, .inl (K.2 0, 12, .inl fL)), (aFc, .inl (K.2 0, 12, .inl fC)), (aFq, .inl (K.2 0, 12, .inl fQ)), (aA, .inr (2, [.ref aAl, .ref aAc, .ref aAq, .int wM])), (aAl, .inl (K.2 0, 12, .inl wL)), (aAc, .inl (K.2 0, 12, .inl wC)), (aAq, .inl (K.2 0, 12, .inl wQ))] 0 0
  refine z_aload_n hG dL_through_0 3 rfl ?_
  refine z_iconst 0 hG dL_through_1 (by decide) ?_
  refine z_aload_n hG dL_through_2 0 rfl ?_
  refine z_iload_n hG dL_through_3 1 rfl ?_
  refine z_iload_n hG dL_through_4 2 rfl ?_
  obtain ⟨v1, hv, hres⟩ := z_bind hres
  refine z_callX (As := [.int p0, .int p1]) (rest := [.int 0, .ref aU]) (wr := [(aU, .inl (K.2 4, 1, .inr (.inl uU)))]) (ws' := [(aU, .inl (K.2 4, 1, .inr (.inl uU))), (aH, .inr (5, [.ref aN, .ref aF, .ref aA, .ref aC, .ref aO, .ref aX, .int gB, .int gK])), (aN, .inr (3, [.ref aNk, .ref aNn, .int nS])), (aNk, .inl (K.2 0, 12, .inl nK)), (aNn, .inl (K.2 0, 12, .inl nN)), (aF, .inr (2, [.ref aFl, .ref aFc, .ref aFq, .int fM])), (aFl, .inl (K.2 0, 12, .inl fL)), (aFc, .inl (K.2 0, 12, .inl fC)), (aFq, .inl (K.2 0, 12, .inl fQ)), (aA, .inr (2, [.ref aAl, .ref aAc, .ref aAq, .int v1.2.1])), (aAl, .inl (K.2 0, 12, .inl v1.2.2.1)), (aAc, .inl (K.2 0, 12, .inl v1.2.2.2.1)), (aAq, .inl (K.2 0, 12, .inl v1.2.2.2.2))]) (kc' := 8) (ks' := 48) (n := 2) (C := RX5) (ci := 5) hG hV dL_through_5 (kX5_through _ K aH aN aNk aNn aF aFl aFc aFq aA aAl aAc aAq aC aO aX gB gK nS nK nN fM fL fC fQ wM wL wC wQ p0 p1 v1 hv) gL_through_X5_through rfl rfl rfl ⟨rfl, by decide, by decide, rfl⟩ ⟨by decide, by decide⟩ (Nat.le_of_ble_eq_true rfl) ⟨(Nat.le_of_ble_eq_true rfl), (Nat.le_of_ble_eq_true rfl)⟩ [1, 2, 3, 4, 5, 6, 7, 8, 9, 10, 11, 12] [0] [0, 1, 2, 3, 4, 5, 6, 7, 8, 9, 10, 11, 12] rfl rfl rfl rfl (by decide) rfl rfl rfl rfl rfl 0 rfl rfl rfl rfl (fun o9 ho => ?_) (fun E9 ho => ?_)
  · rcases hv1 : v1.1 with x2 | r3
    · rw [hv1] at ho
      cases ho
    rw [hv1] at ho
    obtain rfl := Sum.inr.inj ho
    replace hres := z_elimR hv1 hres
    show zj G 8 [(0, .ref aH), (1, .int p0), (2, .int p1), (3, .ref aU)] [.int r3, .int 0, .ref aU] [(aU, .inl (K.2 4, 1, .inr (.inl uU))), (aH, .inr (5, [.ref aN, .ref aF, .ref aA, .ref aC, .ref aO, .ref aX, .int gB, .int gK])), (aN, .inr (3, [.ref aNk, .ref aNn, .int nS])), (aNk, .inl (K.2 0, 12, .inl nK)), (aNn, .inl (K.2 0, 12, .inl nN)), (aF, .inr (2, [.ref aFl, .ref aFc, .ref aFq, .int fM])), (aFl, .inl (K.2 0, 12, .inl fL)), (aFc, .inl (K.2 0, 12, .inl fC)), (aFq, .inl (K.2 0, 12, .inl fQ)), (aA, .inr (2, [.ref aAl, .ref aAc, .ref aAq, .int v1.2.1])), (aAl, .inl (K.2 0, 12, .inl v1.2.2.1)), (aAc, .inl (K.2 0, 12, .inl v1.2.2.2.1)), (aAq, .inl (K.2 0, 12, .inl v1.2.2.2.2))] 8 48
    refine z_i2l hG dL_through_8 ?_
    refine z_last (ws' := [(aU, .inl (K.2 4, 1, .inr (.inl (vp_updL uU (0 : Int32).toNatClampNeg r3.toInt64)))), (aH, .inr (5, [.ref aN, .ref aF, .ref aA, .ref aC, .ref aO, .ref aX, .int gB, .int gK])), (aN, .inr (3, [.ref aNk, .ref aNn, .int nS])), (aNk, .inl (K.2 0, 12, .inl nK)), (aNn, .inl (K.2 0, 12, .inl nN)), (aF, .inr (2, [.ref aFl, .ref aFc, .ref aFq, .int fM])), (aFl, .inl (K.2 0, 12, .inl fL)), (aFc, .inl (K.2 0, 12, .inl fC)), (aFq, .inl (K.2 0, 12, .inl fQ)), (aA, .inr (2, [.ref aAl, .ref aAc, .ref aAq, .int v1.2.1])), (aAl, .inl (K.2 0, 12, .inl v1.2.2.1)), (aAc, .inl (K.2 0, 12, .inl v1.2.2.2.1)), (aAq, .inl (K.2 0, 12, .inl v1.2.2.2.2))]) hG dL_through_9 0 rfl (by decide) rfl ?_
    refine z_goto 21 hG dL_through_10 (by decide) ?_
    refine z_iconst 0 hG dL_through_21 (by decide) ?_
    obtain rfl := Option.some.inj hres
    exact (hR _ rfl _ _ dL_through_22)
  · rcases hv1 : v1.1 with x2 | r3
    rotate_left
    · rw [hv1] at ho
      cases ho
    rw [hv1] at ho
    obtain rfl := Sum.inl.inj ho
    replace hres := z_elimL hv1 hres
    by_cases c : x2 = "java/util/NoSuchElementException"
    · replace hres := z_ifp c hres
      subst c
      refine z_catch (h1 := []) (a := 0) (b := 10) (hd := 13) (ct := 20) (h2 := [(0, 10, 17, 15)]) hG hV hT (fun _ h => absurd h List.not_mem_nil) (by decide) (by decide) (by decide) mL_through_0 (by decide) (fun q4 => ?_)
      show zj G 13 [(0, .ref aH), (1, .int p0), (2, .int p1), (3, .ref aU)] [.ref q4] [(aU, .inl (K.2 4, 1, .inr (.inl uU))), (aH, .inr (5, [.ref aN, .ref aF, .ref aA, .ref aC, .ref aO, .ref aX, .int gB, .int gK])), (aN, .inr (3, [.ref aNk, .ref aNn, .int nS])), (aNk, .inl (K.2 0, 12, .inl nK)), (aNn, .inl (K.2 0, 12, .inl nN)), (aF, .inr (2, [.ref aFl, .ref aFc, .ref aFq, .int fM])), (aFl, .inl (K.2 0, 12, .inl fL)), (aFc, .inl (K.2 0, 12, .inl fC)), (aFq, .inl (K.2 0, 12, .inl fQ)), (aA, .inr (2, [.ref aAl, .ref aAc, .ref aAq, .int v1.2.1])), (aAl, .inl (K.2 0, 12, .inl v1.2.2.1)), (aAc, .inl (K.2 0, 12, .inl v1.2.2.2.1)), (aAq, .inl (K.2 0, 12, .inl v1.2.2.2.2))] 8 48
      refine z_astore (lv' := [(4, .ref q4), (0, .ref aH), (1, .int p0), (2, .int p1), (3, .ref aU)]) hG dL_through_13 (by decide) rfl ?_
      refine z_iconst 1 hG dL_through_15 (by decide) ?_
      obtain rfl := Option.some.inj hres
      exact (hR _ rfl _ _ dL_through_16)
    replace hres := z_ifn c hres
    by_cases c : x2 = "java/lang/IllegalStateException"
    · replace hres := z_ifp c hres
      subst c
      refine z_catch (h1 := [(0, 10, 13, 20)]) (a := 0) (b := 10) (hd := 17) (ct := 15) (h2 := []) hG hV hT (List.forall_mem_cons.mpr ⟨⟨by decide, _, mL_through_0, by decide, by decide⟩, (fun _ h => absurd h List.not_mem_nil)⟩) (by decide) (by decide) (by decide) mL_through_1 (by decide) (fun q5 => ?_)
      show zj G 17 [(0, .ref aH), (1, .int p0), (2, .int p1), (3, .ref aU)] [.ref q5] [(aU, .inl (K.2 4, 1, .inr (.inl uU))), (aH, .inr (5, [.ref aN, .ref aF, .ref aA, .ref aC, .ref aO, .ref aX, .int gB, .int gK])), (aN, .inr (3, [.ref aNk, .ref aNn, .int nS])), (aNk, .inl (K.2 0, 12, .inl nK)), (aNn, .inl (K.2 0, 12, .inl nN)), (aF, .inr (2, [.ref aFl, .ref aFc, .ref aFq, .int fM])), (aFl, .inl (K.2 0, 12, .inl fL)), (aFc, .inl (K.2 0, 12, .inl fC)), (aFq, .inl (K.2 0, 12, .inl fQ)), (aA, .inr (2, [.ref aAl, .ref aAc, .ref aAq, .int v1.2.1])), (aAl, .inl (K.2 0, 12, .inl v1.2.2.1)), (aAc, .inl (K.2 0, 12, .inl v1.2.2.2.1)), (aAq, .inl (K.2 0, 12, .inl v1.2.2.2.2))] 8 48
      refine z_astore (lv' := [(4, .ref q5), (0, .ref aH), (1, .int p0), (2, .int p1), (3, .ref aU)]) hG dL_through_17 (by decide) rfl ?_
      refine z_iconst 2 hG dL_through_19 (by decide) ?_
      obtain rfl := Option.some.inj hres
      exact (hR _ rfl _ _ dL_through_20)
    replace hres := z_ifn c hres
    cases hres

theorem dL_isOnAll_0 : decode cL_isOnAll 0 = .ok (.aload_n 3, 1) := by decide +kernel
theorem dL_isOnAll_1 : decode cL_isOnAll 1 = .ok (.iconst 0, 1) := by decide +kernel
theorem dL_isOnAll_2 : decode cL_isOnAll 2 = .ok (.aload_n 0, 1) := by decide +kernel
theorem dL_isOnAll_3 : decode cL_isOnAll 3 = .ok (.iload_n 1, 1) := by decide +kernel
theorem dL_isOnAll_4 : decode cL_isOnAll 4 = .ok (.iload_n 2, 1) := by decide +kernel
theorem dL_isOnAll_5 : decode cL_isOnAll 5 = .ok (.invokevirtual 64, 3) := by decide +kernel
theorem dL_isOnAll_8 : decode cL_isOnAll 8 = .ok (.ifCond .eq 7, 3) := by decide +kernel
theorem dL_isOnAll_11 : decode cL_isOnAll 11 = .ok (.lconst 1, 1) := by decide +kernel
theorem dL_isOnAll_12 : decode cL_isOnAll 12 = .ok (.goto 4, 3) := by decide +kernel
theorem dL_isOnAll_15 : decode cL_isOnAll 15 = .ok (.lconst 0, 1) := by decide +kernel
theorem dL_isOnAll_16 : decode cL_isOnAll 16 = .ok (.lastore, 1) := by decide +kernel
theorem dL_isOnAll_17 : decode cL_isOnAll 17 = .ok (.goto 15, 3) := by decide +kernel
theorem dL_isOnAll_20 : decode cL_isOnAll 20 = .ok (.astore 4, 2) := by decide +kernel
theorem dL_isOnAll_22 : decode cL_isOnAll 22 = .ok (.iconst 1, 1) := by decide +kernel
theorem dL_isOnAll_23 : decode cL_isOnAll 23 = .ok (.ireturn, 1) := by decide +kernel
theorem dL_isOnAll_24 : decode cL_isOnAll 24 = .ok (.astore 4, 2) := by decide +kernel
theorem dL_isOnAll_26 : decode cL_isOnAll 26 = .ok (.iconst 2, 1) := by decide +kernel
theorem dL_isOnAll_27 : decode cL_isOnAll 27 = .ok (.ireturn, 1) := by decide +kernel
theorem dL_isOnAll_28 : decode cL_isOnAll 28 = .ok (.astore 4, 2) := by decide +kernel
theorem dL_isOnAll_30 : decode cL_isOnAll 30 = .ok (.iconst 3, 1) := by decide +kernel
theorem dL_isOnAll_31 : decode cL_isOnAll 31 = .ok (.ireturn, 1) := by decide +kernel
theorem dL_isOnAll_32 : decode cL_isOnAll 32 = .ok (.iconst 0, 1) := by decide +kernel
theorem dL_isOnAll_33 : decode cL_isOnAll 33 = .ok (.ireturn, 1) := by decide +kernel
set_option maxRecDepth 20000 in
theorem ggL_isOnAll_X5_isOnAll : GoodIn wsL_isOnAll wsX5_isOnAll := goodIn_ca (goodIn_ca (goodIn_ca (goodIn_r _ [8, 9, 10, 11, 12, 13, 14, 15, 7, 16, 17, 18, 19, 20, 21, 22, 23, 24, 25, 26, 27, 28, 29, 30, 31, 32, 33, 34, 35, 36, 37, 38, 39, 40, 41, 42, 43, 44, 45, 46, 47, 48, 49, 50, 51, 52, 53, 54, 55, 56, 57, 58, 59, 60, 61, 62, 63, 64, 65, 66, 67, 68, 69, 70, 71, 72, 73, 74, 75, 76, 77, 78, 79] (by decide +kernel) (by decide +kernel)) (goodIn_sub (fun _ h => List.mem_cons_of_mem _ (List.mem_append_left _ (List.mem_append_left _ (List.mem_append_right _ h)))) (by decide +kernel))) (goodIn_sub (fun _ h => List.mem_cons_of_mem _ (List.mem_append_left _ (List.mem_append_right _ h))) (by decide +kernel))) (goodIn_sub (fun _ h => List.mem_cons_of_mem _ (List.mem_append_right _ h)) (by decide +kernel))
set_option maxRecDepth 20000 in
theorem gL_isOnAll_X5_isOnAll : GoodIn wsL_isOnAll (wsV RL 64 RX5 yX5_isOnAll wsX5_isOnAll) := goodIn_app (goodIn_of _ (by decide +kernel)) ggL_isOnAll_X5_isOnAll
theorem mL_isOnAll_0 : Cond.classLink RL 20 "java/util/NoSuchElementException" ∈ wsL_isOnAll := by decide +kernel
theorem mL_isOnAll_1 : Cond.classLink RL 15 "java/lang/IllegalStateException" ∈ wsL_isOnAll := by decide +kernel
theorem mL_isOnAll_2 : Cond.classLink RL 67 "java/lang/UnsupportedOperationException" ∈ wsL_isOnAll := by decide +kernel
def fL_isOnAll (uU : (Nat → Int64)) (gB : Int32) (nS : Int32) (nK : (Nat → Int32)) (nN : (Nat → Int32)) (fL : (Nat → Int32)) (fC : (Nat → Int32)) (wM : Int32) (wL : (Nat → Int32)) (wC : (Nat → Int32)) (wQ : (Nat → Int32)) (p0 : Int32) (p1 : Int32) : Option (Int32 × (Nat → Int64) × Int32 × (Nat → Int32) × (Nat → Int32) × (Nat → Int32)) := (fX5_isOnAll gB nS nK nN fL fC wM wL wC wQ p0 p1).bind fun v1 => Sum.elim (fun x2 : String => if x2 = "java/util/NoSuchElementException" then some (1, uU, v1.2.1, v1.2.2.1, v1.2.2.2.1, v1.2.2.2.2) else if x2 = "java/lang/IllegalStateException" then some (2, uU, v1.2.1, v1.2.2.1, v1.2.2.2.1, v1.2.2.2.2) else if x2 = "java/lang/UnsupportedOperationException" then some (3, uU, v1.2.1, v1.2.2.1, v1.2.2.2.1, v1.2.2.2.2) else none) (fun r3 : Int32 => if r3 = 0 then some (0, (vp_updL uU (0 : Int32).toNatClampNeg (0 : Int64)), v1.2.1, v1.2.2.1, v1.2.2.2.1, v1.2.2.2.2) else some (0, (vp_updL uU (0 : Int32).toNatClampNeg (1 : Int64)), v1.2.1, v1.2.2.1, v1.2.2.2.1, v1.2.2.2.2)) v1.1
set_option maxRecDepth 100000 in
set_option maxHeartbeats 4000000 in
theorem kL_isOnAll (l : Launch) (K : zK) (aU : Nat) (aH : Nat) (aN : Nat) (aNk : Nat) (aNn : Nat) (aF : Nat) (aFl : Nat) (aFc : Nat) (aFq : Nat) (aA : Nat) (aAl : Nat) (aAc : Nat) (aAq : Nat) (aC : Nat) (aO : Nat) (aX : Nat)  (uU : (Nat → Int64)) (gB : Int32) (gK : Int32) (nS : Int32) (nK : (Nat → Int32)) (nN : (Nat → Int32)) (fM : Int32) (fL : (Nat → Int32)) (fC : (Nat → Int32)) (fQ : (Nat → Int32)) (wM : Int32) (wL : (Nat → Int32)) (wC : (Nat → Int32)) (wQ : (Nat → Int32)) (p0 : Int32) (p1 : Int32) (r : Int32 × (Nat → Int64) × Int32 × (Nat → Int32) × (Nat → Int32) × (Nat → Int32)) (hres : fL_isOnAll uU gB nS nK nN fL fC wM wL wC wQ p0 p1 = some r) : zX l K yL_isOnAll wsL_isOnAll ({ frames := 8, cells := 8, slots := 48, locals := 128 }) [.ref aH, .int p0, .int p1, .ref aU] [(aU, .inl (K.2 4, 1, .inr (.inl uU))), (aH, .inr (5, [.ref aN, .ref aF, .ref aA, .ref aC, .ref aO, .ref aX, .int gB, .int gK])), (aN, .inr (3, [.ref aNk, .ref aNn, .int nS])), (aNk, .inl (K.2 0, 12, .inl nK)), (aNn, .inl (K.2 0, 12, .inl nN)), (aF, .inr (2, [.ref aFl, .ref aFc, .ref aFq, .int fM])), (aFl, .inl (K.2 0, 12, .inl fL)), (aFc, .inl (K.2 0, 12, .inl fC)), (aFq, .inl (K.2 0, 12, .inl fQ)), (aA, .inr (2, [.ref aAl, .ref aAc, .ref aAq, .int wM])), (aAl, .inl (K.2 0, 12, .inl wL)), (aAc, .inl (K.2 0, 12, .inl wC)), (aAq, .inl (K.2 0, 12, .inl wQ))] (.inr (some (.int r.1))) [(aU, .inl (K.2 4, 1, .inr (.inl r.2.1))), (aH, .inr (5, [.ref aN, .ref aF, .ref aA, .ref aC, .ref aO, .ref aX, .int gB, .int gK])), (aN, .inr (3, [.ref aNk, .ref aNn, .int nS])), (aNk, .inl (K.2 0, 12, .inl nK)), (aNn, .inl (K.2 0, 12, .inl nN)), (aF, .inr (2, [.ref aFl, .ref aFc, .ref aFq, .int fM])), (aFl, .inl (K.2 0, 12, .inl fL)), (aFc, .inl (K.2 0, 12, .inl fC)), (aFq, .inl (K.2 0, 12, .inl fQ)), (aA, .inr (2, [.ref aAl, .ref aAc, .ref aAq, .int r.2.2.1])), (aAl, .inl (K.2 0, 12, .inl r.2.2.2.1)), (aAc, .inl (K.2 0, 12, .inl r.2.2.2.2.1)), (aAq, .inl (K.2 0, 12, .inl r.2.2.2.2.2))] 8 48 := by
  refine zX.intH (cc := cL_isOnAll) (maxL := 5) (ret := (some .int)) (hh := [(0, 17, 20, 20), (0, 17, 24, 15), (0, 17, 28, 67)]) rfl (by decide) (Nat.le_of_ble_eq_true rfl) rfl ?_
  intro G hGl hG hV hT hR
  unfold fL_isOnAll at hres
  show zj G 0 [(0, .ref aH), (1, .int p0), (2, .int p1), (3, .ref aU)] [] [(aU, .inl (K.2 4, 1, .inr (.inl uU))), (aH, .inr (5, [.ref aN, .ref aF, .ref aA, .ref aC, .ref aO, .ref aX, .int gB, .int gK])), (aN, .inr (3, [.ref aNk, .ref aNn, .int nS])), (aNk, .inl (K.2 0, 12, .inl nK)), (aNn, .inl (K.2 0, 12, .inl nN)), (aF, .inr (2, [.ref aFl, .ref aFc, .ref aFq, .int fM])), (aFl, .inl (K.2 0, 12, .inl fL)), (aFc, .inl (K.2 0, 12, .inl fC)), (aFq, .inl (K.2 0, 12, .inl fQ)), (aA, .inr (2, [.ref aAl, .ref aAc, .ref aAq, .int wM])), (aAl, .inl (K.2 0, 12, .inl wL)), (aAc, .inl (K.2 0, 12, .inl wC)), (aAq, .inl (K.2 0, 12, .inl wQ))] 0 0
  refine z_aload_n hG dL_isOnAll_0 3 rfl ?_
  refine z_iconst 0 hG dL_isOnAll_1 (by decide) ?_
  refine z_aload_n hG dL_isOnAll_2 0 rfl ?_
  refine z_iload_n hG dL_isOnAll_3 1 rfl ?_
  refine z_iload_n hG dL_isOnAll_4 2 rfl ?_
  obtain ⟨v1, hv, hres⟩ := z_bind hres
  refine z_callX (As := [.int p0, .int p1]) (rest := [.int 0, .ref aU]) (wr := [(aU, .inl (K.2 4, 1, .inr (.inl uU)))]) (ws' := [(aU, .inl (K.2 4, 1, .inr (.inl uU))), (aH, .inr (5, [.ref aN, .ref aF, .ref aA, .ref aC, .ref aO, .ref aX, .int gB, .int gK])), (aN, .inr (3, [.ref aNk, .ref aNn, .int nS])), (aNk, .inl (K.2 0, 12, .inl nK)), (aNn, .inl (K.2 0, 12, .inl nN)), (aF, .inr (2, [.ref aFl, .ref aFc, .ref aFq, .int fM])), (aFl, .inl (K.2 0, 12, .inl fL)), (aFc, .inl (K.2 0, 12, .inl fC)), (aFq, .inl (K.2 0, 12, .inl fQ)), (aA, .inr (2, [.ref aAl, .ref aAc, .ref aAq, .int v1.2.1])), (aAl, .inl (K.2 0, 12, .inl v1.2.2.1)), (aAc, .inl (K.2 0, 12, .inl v1.2.2.2.1)), (aAq, .inl (K.2 0, 12, .inl v1.2.2.2.2))]) (kc' := 8) (ks' := 48) (n := 2) (C := RX5) (ci := 5) hG hV dL_isOnAll_5 (kX5_isOnAll _ K aH aN aNk aNn aF aFl aFc aFq aA aAl aAc aAq aC aO aX gB gK nS nK nN fM fL fC fQ wM wL wC wQ p0 p1 v1 hv) gL_isOnAll_X5_isOnAll rfl rfl rfl ⟨rfl, by decide, by decide, rfl⟩ ⟨by decide, by decide⟩ (Nat.le_of_ble_eq_true rfl) ⟨(Nat.le_of_ble_eq_true rfl), (Nat.le_of_ble_eq_true rfl)⟩ [1, 2, 3, 4, 5, 6, 7, 8, 9, 10, 11, 12] [0] [0, 1, 2, 3, 4, 5, 6, 7, 8, 9, 10, 11, 12] rfl rfl rfl rfl (by decide) rfl rfl rfl rfl rfl 0 rfl rfl rfl rfl (fun o9 ho => ?_) (fun E9 ho => ?_)
  · rcases hv1 : v1.1 with x2 | r3
    · rw [hv1] at ho
      cases ho
    rw [hv1] at ho
    obtain rfl := Sum.inr.inj ho
    replace hres := z_elimR hv1 hres
    show zj G 8 [(0, .ref aH), (1, .int p0), (2, .int p1), (3, .ref aU)] [.int r3, .int 0, .ref aU] [(aU, .inl (K.2 4, 1, .inr (.inl uU))), (aH, .inr (5, [.ref aN, .ref aF, .ref aA, .ref aC, .ref aO, .ref aX, .int gB, .int gK])), (aN, .inr (3, [.ref aNk, .ref aNn, .int nS])), (aNk, .inl (K.2 0, 12, .inl nK)), (aNn, .inl (K.2 0, 12, .inl nN)), (aF, .inr (2, [.ref aFl, .ref aFc, .ref aFq, .int fM])), (aFl, .inl (K.2 0, 12, .inl fL)), (aFc, .inl (K.2 0, 12, .inl fC)), (aFq, .inl (K.2 0, 12, .inl fQ)), (aA, .inr (2, [.ref aAl, .ref aAc, .ref aAq, .int v1.2.1])), (aAl, .inl (K.2 0, 12, .inl v1.2.2.1)), (aAc, .inl (K.2 0, 12, .inl v1.2.2.2.1)), (aAq, .inl (K.2 0, 12, .inl v1.2.2.2.2))] 8 48
    refine z_if_eq 15 hG dL_isOnAll_8 (by decide) (fun c => ?_) (fun c => ?_)
    · replace hres := z_ifp c hres
      refine z_lconst 0 hG dL_isOnAll_15 (by decide) ?_
      refine z_last (ws' := [(aU, .inl (K.2 4, 1, .inr (.inl (vp_updL uU (0 : Int32).toNatClampNeg (0 : Int64))))), (aH, .inr (5, [.ref aN, .ref aF, .ref aA, .ref aC, .ref aO, .ref aX, .int gB, .int gK])), (aN, .inr (3, [.ref aNk, .ref aNn, .int nS])), (aNk, .inl (K.2 0, 12, .inl nK)), (aNn, .inl (K.2 0, 12, .inl nN)), (aF, .inr (2, [.ref aFl, .ref aFc, .ref aFq, .int fM])), (aFl, .inl (K.2 0, 12, .inl fL)), (aFc, .inl (K.2 0, 12, .inl fC)), (aFq, .inl (K.2 0, 12, .inl fQ)), (aA, .inr (2, [.ref aAl, .ref aAc, .ref aAq, .int v1.2.1])), (aAl, .inl (K.2 0, 12, .inl v1.2.2.1)), (aAc, .inl (K.2 0, 12, .inl v1.2.2.2.1)), (aAq, .inl (K.2 0, 12, .inl v1.2.2.2.2))]) hG dL_isOnAll_16 0 rfl (by decide) rfl ?_
      refine z_goto 32 hG dL_isOnAll_17 (by decide) ?_
      refine z_iconst 0 hG dL_isOnAll_32 (by decide) ?_
      obtain rfl := Option.some.inj hres
      exact (hR _ rfl _ _ dL_isOnAll_33)
    · replace hres := z_ifn c hres
      refine z_lconst 1 hG dL_isOnAll_11 (by decide) ?_
      refine z_goto 16 hG dL_isOnAll_12 (by decide) ?_
      refine z_last (ws' := [(aU, .inl (K.2 4, 1, .inr (.inl (vp_updL uU (0 : Int32).toNatClampNeg (1 : Int64))))), (aH, .inr (5, [.ref aN, .ref aF, .ref aA, .ref aC, .ref aO, .ref aX, .int gB, .int gK])), (aN, .inr (3, [.ref aNk, .ref aNn, .int nS])), (aNk, .inl (K.2 0, 12, .inl nK)), (aNn, .inl (K.2 0, 12, .inl nN)), (aF, .inr (2, [.ref aFl, .ref aFc, .ref aFq, .int fM])), (aFl, .inl (K.2 0, 12, .inl fL)), (aFc, .inl (K.2 0, 12, .inl fC)), (aFq, .inl (K.2 0, 12, .inl fQ)), (aA, .inr (2, [.ref aAl, .ref aAc, .ref aAq, .int v1.2.1])), (aAl, .inl (K.2 0, 12, .inl v1.2.2.1)), (aAc, .inl (K.2 0, 12, .inl v1.2.2.2.1)), (aAq, .inl (K.2 0, 12, .inl v1.2.2.2.2))]) hG dL_isOnAll_16 0 rfl (by decide) rfl ?_
      refine z_goto 32 hG dL_isOnAll_17 (by decide) ?_
      refine z_iconst 0 hG dL_isOnAll_32 (by decide) ?_
      obtain rfl := Option.some.inj hres
      exact (hR _ rfl _ _ dL_isOnAll_33)
  · rcases hv1 : v1.1 with x2 | r3
    rotate_left
    · rw [hv1] at ho
      cases ho
    rw [hv1] at ho
    obtain rfl := Sum.inl.inj ho
    replace hres := z_elimL hv1 hres
    by_cases c : x2 = "java/util/NoSuchElementException"
    · replace hres := z_ifp c hres
      subst c
      refine z_catch (h1 := []) (a := 0) (b := 17) (hd := 20) (ct := 20) (h2 := [(0, 17, 24, 15), (0, 17, 28, 67)]) hG hV hT (fun _ h => absurd h List.not_mem_nil) (by decide) (by decide) (by decide) mL_isOnAll_0 (by decide) (fun q4 => ?_)
      show zj G 20 [(0, .ref aH), (1, .int p0), (2, .int p1), (3, .ref aU)] [.ref q4] [(aU, .inl (K.2 4, 1, .inr (.inl uU))), (aH, .inr (5, [.ref aN, .ref aF, .ref aA, .ref aC, .ref aO, .ref aX, .int gB, .int gK])), (aN, .inr (3, [.ref aNk, .ref aNn, .int nS])), (aNk, .inl (K.2 0, 12, .inl nK)), (aNn, .inl (K.2 0, 12, .inl nN)), (aF, .inr (2, [.ref aFl, .ref aFc, .ref aFq, .int fM])), (aFl, .inl (K.2 0, 12, .inl fL)), (aFc, .inl (K.2 0, 12, .inl fC)), (aFq, .inl (K.2 0, 12, .inl fQ)), (aA, .inr (2, [.ref aAl, .ref aAc, .ref aAq, .int v1.2.1])), (aAl, .inl (K.2 0, 12, .inl v1.2.2.1)), (aAc, .inl (K.2 0, 12, .inl v1.2.2.2.1)), (aAq, .inl (K.2 0, 12, .inl v1.2.2.2.2))] 8 48
      refine z_astore (lv' := [(4, .ref q4), (0, .ref aH), (1, .int p0), (2, .int p1), (3, .ref aU)]) hG dL_isOnAll_20 (by decide) rfl ?_
      refine z_iconst 1 hG dL_isOnAll_22 (by decide) ?_
      obtain rfl := Option.some.inj hres
      exact (hR _ rfl _ _ dL_isOnAll_23)
    replace hres := z_ifn c hres
    by_cases c : x2 = "java/lang/IllegalStateException"
    · replace hres := z_ifp c hres
      subst c
      refine z_catch (h1 := [(0, 17, 20, 20)]) (a := 0) (b := 17) (hd := 24) (ct := 15) (h2 := [(0, 17, 28, 67)]) hG hV hT (List.forall_mem_cons.mpr ⟨⟨by decide, _, mL_isOnAll_0, by decide, by decide⟩, (fun _ h => absurd h List.not_mem_nil)⟩) (by decide) (by decide) (by decide) mL_isOnAll_1 (by decide) (fun q5 => ?_)
      show zj G 24 [(0, .ref aH), (1, .int p0), (2, .int p1), (3, .ref aU)] [.ref q5] [(aU, .inl (K.2 4, 1, .inr (.inl uU))), (aH, .inr (5, [.ref aN, .ref aF, .ref aA, .ref aC, .ref aO, .ref aX, .int gB, .int gK])), (aN, .inr (3, [.ref aNk, .ref aNn, .int nS])), (aNk, .inl (K.2 0, 12, .inl nK)), (aNn, .inl (K.2 0, 12, .inl nN)), (aF, .inr (2, [.ref aFl, .ref aFc, .ref aFq, .int fM])), (aFl, .inl (K.2 0, 12, .inl fL)), (aFc, .inl (K.2 0, 12, .inl fC)), (aFq, .inl (K.2 0, 12, .inl fQ)), (aA, .inr (2, [.ref aAl, .ref aAc, .ref aAq, .int v1.2.1])), (aAl, .inl (K.2 0, 12, .inl v1.2.2.1)), (aAc, .inl (K.2 0, 12, .inl v1.2.2.2.1)), (aAq, .inl (K.2 0, 12, .inl v1.2.2.2.2))] 8 48
      refine z_astore (lv' := [(4, .ref q5), (0, .ref aH), (1, .int p0), (2, .int p1), (3, .ref aU)]) hG dL_isOnAll_24 (by decide) rfl ?_
      refine z_iconst 2 hG dL_isOnAll_26 (by decide) ?_
      obtain rfl := Option.some.inj hres
      exact (hR _ rfl _ _ dL_isOnAll_27)
    replace hres := z_ifn c hres
    by_cases c : x2 = "java/lang/UnsupportedOperationException"
    · replace hres := z_ifp c hres
      subst c
      refine z_catch (h1 := [(0, 17, 20, 20), (0, 17, 24, 15)]) (a := 0) (b := 17) (hd := 28) (ct := 67) (h2 := []) hG hV hT (List.forall_mem_cons.mpr ⟨⟨by decide, _, mL_isOnAll_0, by decide, by decide⟩, (List.forall_mem_cons.mpr ⟨⟨by decide, _, mL_isOnAll_1, by decide, by decide⟩, (fun _ h => absurd h List.not_mem_nil)⟩)⟩) (by decide) (by decide) (by decide) mL_isOnAll_2 (by decide) (fun q6 => ?_)
      show zj G 28 [(0, .ref aH), (1, .int p0), (2, .int p1), (3, .ref aU)] [.ref q6] [(aU, .inl (K.2 4, 1, .inr (.inl uU))), (aH, .inr (5, [.ref aN, .ref aF, .ref aA, .ref aC, .ref aO, .ref aX, .int gB, .int gK])), (aN, .inr (3, [.ref aNk, .ref aNn, .int nS])), (aNk, .inl (K.2 0, 12, .inl nK)), (aNn, .inl (K.2 0, 12, .inl nN)), (aF, .inr (2, [.ref aFl, .ref aFc, .ref aFq, .int fM])), (aFl, .inl (K.2 0, 12, .inl fL)), (aFc, .inl (K.2 0, 12, .inl fC)), (aFq, .inl (K.2 0, 12, .inl fQ)), (aA, .inr (2, [.ref aAl, .ref aAc, .ref aAq, .int v1.2.1])), (aAl, .inl (K.2 0, 12, .inl v1.2.2.1)), (aAc, .inl (K.2 0, 12, .inl v1.2.2.2.1)), (aAq, .inl (K.2 0, 12, .inl v1.2.2.2.2))] 8 48
      refine z_astore (lv' := [(4, .ref q6), (0, .ref aH), (1, .int p0), (2, .int p1), (3, .ref aU)]) hG dL_isOnAll_28 (by decide) rfl ?_
      refine z_iconst 3 hG dL_isOnAll_30 (by decide) ?_
      obtain rfl := Option.some.inj hres
      exact (hR _ rfl _ _ dL_isOnAll_31)
    replace hres := z_ifn c hres
    cases hres

theorem dL_onAll_0 : decode cL_onAll 0 = .ok (.aload_n 2, 1) := by decide +kernel
theorem dL_onAll_1 : decode cL_onAll 1 = .ok (.iconst 0, 1) := by decide +kernel
theorem dL_onAll_2 : decode cL_onAll 2 = .ok (.aload_n 0, 1) := by decide +kernel
theorem dL_onAll_3 : decode cL_onAll 3 = .ok (.iload_n 1, 1) := by decide +kernel
theorem dL_onAll_4 : decode cL_onAll 4 = .ok (.invokevirtual 69, 3) := by decide +kernel
theorem dL_onAll_7 : decode cL_onAll 7 = .ok (.i2l, 1) := by decide +kernel
theorem dL_onAll_8 : decode cL_onAll 8 = .ok (.lastore, 1) := by decide +kernel
theorem dL_onAll_9 : decode cL_onAll 9 = .ok (.goto 12, 3) := by decide +kernel
theorem dL_onAll_12 : decode cL_onAll 12 = .ok (.astore_n 3, 1) := by decide +kernel
theorem dL_onAll_13 : decode cL_onAll 13 = .ok (.iconst 1, 1) := by decide +kernel
theorem dL_onAll_14 : decode cL_onAll 14 = .ok (.ireturn, 1) := by decide +kernel
theorem dL_onAll_15 : decode cL_onAll 15 = .ok (.astore_n 3, 1) := by decide +kernel
theorem dL_onAll_16 : decode cL_onAll 16 = .ok (.iconst 2, 1) := by decide +kernel
theorem dL_onAll_17 : decode cL_onAll 17 = .ok (.ireturn, 1) := by decide +kernel
theorem dL_onAll_18 : decode cL_onAll 18 = .ok (.astore_n 3, 1) := by decide +kernel
theorem dL_onAll_19 : decode cL_onAll 19 = .ok (.iconst 3, 1) := by decide +kernel
theorem dL_onAll_20 : decode cL_onAll 20 = .ok (.ireturn, 1) := by decide +kernel
theorem dL_onAll_21 : decode cL_onAll 21 = .ok (.iconst 0, 1) := by decide +kernel
theorem dL_onAll_22 : decode cL_onAll 22 = .ok (.ireturn, 1) := by decide +kernel
set_option maxRecDepth 20000 in
theorem ggL_onAll_X5_onAll : GoodIn wsL_onAll wsX5_onAll := goodIn_ca (goodIn_ca (goodIn_ca (goodIn_r _ [8, 9, 10, 11, 12, 13, 14, 15, 16, 7, 17, 18, 19, 20, 21, 22, 23, 24, 25, 26, 27, 28, 29, 30, 31, 32, 33, 34, 35, 36, 37, 38, 39, 40, 41, 42, 43, 44, 45, 46, 47, 48, 49, 50, 51, 52, 53, 54, 55, 56, 57, 58, 59, 60, 61, 62, 63, 64, 65, 66, 67, 68, 69, 70, 71, 72, 73, 74, 75, 76, 77, 78, 79, 80] (by decide +kernel) (by decide +kernel)) (goodIn_sub (fun _ h => List.mem_cons_of_mem _ (List.mem_append_left _ (List.mem_append_left _ (List.mem_append_right _ h)))) (by decide +kernel))) (goodIn_sub (fun _ h => List.mem_cons_of_mem _ (List.mem_append_left _ (List.mem_append_right _ h))) (by decide +kernel))) (goodIn_sub (fun _ h => List.mem_cons_of_mem _ (List.mem_append_right _ h)) (by decide +kernel))
set_option maxRecDepth 20000 in
theorem gL_onAll_X5_onAll : GoodIn wsL_onAll (wsV RL 69 RX5 yX5_onAll wsX5_onAll) := goodIn_app (goodIn_of _ (by decide +kernel)) ggL_onAll_X5_onAll
theorem mL_onAll_0 : Cond.classLink RL 20 "java/util/NoSuchElementException" ∈ wsL_onAll := by decide +kernel
theorem mL_onAll_1 : Cond.classLink RL 15 "java/lang/IllegalStateException" ∈ wsL_onAll := by decide +kernel
theorem mL_onAll_2 : Cond.classLink RL 67 "java/lang/UnsupportedOperationException" ∈ wsL_onAll := by decide +kernel
def fL_onAll (uU : (Nat → Int64)) (gB : Int32) (nS : Int32) (nK : (Nat → Int32)) (nN : (Nat → Int32)) (fL : (Nat → Int32)) (fC : (Nat → Int32)) (wM : Int32) (wL : (Nat → Int32)) (wC : (Nat → Int32)) (wQ : (Nat → Int32)) (p0 : Int32) : Option (Int32 × (Nat → Int64) × Int32 × (Nat → Int32) × (Nat → Int32) × (Nat → Int32)) := (fX5_onAll gB nS nK nN fL fC wM wL wC wQ p0).bind fun v1 => Sum.elim (fun x2 : String => if x2 = "java/util/NoSuchElementException" then some (1, uU, v1.2.1, v1.2.2.1, v1.2.2.2.1, v1.2.2.2.2) else if x2 = "java/lang/IllegalStateException" then some (2, uU, v1.2.1, v1.2.2.1, v1.2.2.2.1, v1.2.2.2.2) else if x2 = "java/lang/UnsupportedOperationException" then some (3, uU, v1.2.1, v1.2.2.1, v1.2.2.2.1, v1.2.2.2.2) else none) (fun r3 : Int32 => some (0, (vp_updL uU (0 : Int32).toNatClampNeg r3.toInt64), v1.2.1, v1.2.2.1, v1.2.2.2.1, v1.2.2.2.2)) v1.1
set_option maxRecDepth 100000 in
set_option maxHeartbeats 4000000 in
theorem kL_onAll (l : Launch) (K : zK) (aU : Nat) (aH : Nat) (aN : Nat) (aNk : Nat) (aNn : Nat) (aF : Nat) (aFl : Nat) (aFc : Nat) (aFq : Nat) (aA : Nat) (aAl : Nat) (aAc : Nat) (aAq : Nat) (aC : Nat) (aO : Nat) (aX : Nat)  (uU : (Nat → Int64)) (gB : Int32) (gK : Int32) (nS : Int32) (nK : (Nat → Int32)) (nN : (Nat → Int32)) (fM : Int32) (fL : (Nat → Int32)) (fC : (Nat → Int32)) (fQ : (Nat → Int32)) (wM : Int32) (wL : (Nat → Int32)) (wC : (Nat → Int32)) (wQ : (Nat → Int32)) (p0 : Int32) (r : Int32 × (Nat → Int64) × Int32 × (Nat → Int32) × (Nat → Int32) × (Nat → Int32)) (hres : fL_onAll uU gB nS nK nN fL fC wM wL wC wQ p0 = some r) : zX l K yL_onAll wsL_onAll ({ frames := 8, cells := 8, slots := 48, locals := 128 }) [.ref aH, .int p0, .ref aU] [(aU, .inl (K.2 4, 1, .inr (.inl uU))), (aH, .inr (5, [.ref aN, .ref aF, .ref aA, .ref aC, .ref aO, .ref aX, .int gB, .int gK])), (aN, .inr (3, [.ref aNk, .ref aNn, .int nS])), (aNk, .inl (K.2 0, 12, .inl nK)), (aNn, .inl (K.2 0, 12, .inl nN)), (aF, .inr (2, [.ref aFl, .ref aFc, .ref aFq, .int fM])), (aFl, .inl (K.2 0, 12, .inl fL)), (aFc, .inl (K.2 0, 12, .inl fC)), (aFq, .inl (K.2 0, 12, .inl fQ)), (aA, .inr (2, [.ref aAl, .ref aAc, .ref aAq, .int wM])), (aAl, .inl (K.2 0, 12, .inl wL)), (aAc, .inl (K.2 0, 12, .inl wC)), (aAq, .inl (K.2 0, 12, .inl wQ))] (.inr (some (.int r.1))) [(aU, .inl (K.2 4, 1, .inr (.inl r.2.1))), (aH, .inr (5, [.ref aN, .ref aF, .ref aA, .ref aC, .ref aO, .ref aX, .int gB, .int gK])), (aN, .inr (3, [.ref aNk, .ref aNn, .int nS])), (aNk, .inl (K.2 0, 12, .inl nK)), (aNn, .inl (K.2 0, 12, .inl nN)), (aF, .inr (2, [.ref aFl, .ref aFc, .ref aFq, .int fM])), (aFl, .inl (K.2 0, 12, .inl fL)), (aFc, .inl (K.2 0, 12, .inl fC)), (aFq, .inl (K.2 0, 12, .inl fQ)), (aA, .inr (2, [.ref aAl, .ref aAc, .ref aAq, .int r.2.2.1])), (aAl, .inl (K.2 0, 12, .inl r.2.2.2.1)), (aAc, .inl (K.2 0, 12, .inl r.2.2.2.2.1)), (aAq, .inl (K.2 0, 12, .inl r.2.2.2.2.2))] 8 48 := by
  refine zX.intH (cc := cL_onAll) (maxL := 4) (ret := (some .int)) (hh := [(0, 9, 12, 20), (0, 9, 15, 15), (0, 9, 18, 67)]) rfl (by decide) (Nat.le_of_ble_eq_true rfl) rfl ?_
  intro G hGl hG hV hT hR
  unfold fL_onAll at hres
  show zj G 0 [(0, .ref aH), (1, .int p0), (2, .ref aU)] [] [(aU, .inl (K.2 4, 1, .inr (.inl uU))), (aH, .inr (5, [.ref aN, .ref aF, .ref aA, .ref aC, .ref aO, .ref aX, .int gB, .int gK])), (aN, .inr (3, [.ref aNk, .ref aNn, .int nS])), (aNk, .inl (K.2 0, 12, .inl nK)), (aNn, .inl (K.2 0, 12, .inl nN)), (aF, .inr (2, [.ref aFl, .ref aFc, .ref aFq, .int fM])), (aFl, .inl (K.2 0, 12, .inl fL)), (aFc, .inl (K.2 0, 12, .inl fC)), (aFq, .inl (K.2 0, 12, .inl fQ)), (aA, .inr (2, [.ref aAl, .ref aAc, .ref aAq, .int wM])), (aAl, .inl (K.2 0, 12, .inl wL)), (aAc, .inl (K.2 0, 12, .inl wC)), (aAq, .inl (K.2 0, 12, .inl wQ))] 0 0
  refine z_aload_n hG dL_onAll_0 2 rfl ?_
  refine z_iconst 0 hG dL_onAll_1 (by decide) ?_
  refine z_aload_n hG dL_onAll_2 0 rfl ?_
  refine z_iload_n hG dL_onAll_3 1 rfl ?_
  obtain ⟨v1, hv, hres⟩ := z_bind hres
  refine z_callX (As := [.int p0]) (rest := [.int 0, .ref aU]) (wr := [(aU, .inl (K.2 4, 1, .inr (.inl uU)))]) (ws' := [(aU, .inl (K.2 4, 1, .inr (.inl uU))), (aH, .inr (5, [.ref aN, .ref aF, .ref aA, .ref aC, .ref aO, .ref aX, .int gB, .int gK])), (aN, .inr (3, [.ref aNk, .ref aNn, .int nS])), (aNk, .inl (K.2 0, 12, .inl nK)), (aNn, .inl (K.2 0, 12, .inl nN)), (aF, .inr (2, [.ref aFl, .ref aFc, .ref aFq, .int fM])), (aFl, .inl (K.2 0, 12, .inl fL)), (aFc, .inl (K.2 0, 12, .inl fC)), (aFq, .inl (K.2 0, 12, .inl fQ)), (aA, .inr (2, [.ref aAl, .ref aAc, .ref aAq, .int v1.2.1])), (aAl, .inl (K.2 0, 12, .inl v1.2.2.1)), (aAc, .inl (K.2 0, 12, .inl v1.2.2.2.1)), (aAq, .inl (K.2 0, 12, .inl v1.2.2.2.2))]) (kc' := 8) (ks' := 48) (n := 1) (C := RX5) (ci := 5) hG hV dL_onAll_4 (kX5_onAll _ K aH aN aNk aNn aF aFl aFc aFq aA aAl aAc aAq aC aO aX gB gK nS nK nN fM fL fC fQ wM wL wC wQ p0 v1 hv) gL_onAll_X5_onAll rfl rfl rfl ⟨rfl, by decide, by decide, rfl⟩ ⟨by decide, by decide⟩ (Nat.le_of_ble_eq_true rfl) ⟨(Nat.le_of_ble_eq_true rfl), (Nat.le_of_ble_eq_true rfl)⟩ [1, 2, 3, 4, 5, 6, 7, 8, 9, 10, 11, 12] [0] [0, 1, 2, 3, 4, 5, 6, 7, 8, 9, 10, 11, 12] rfl rfl rfl rfl (by decide) rfl rfl rfl rfl rfl 0 rfl rfl rfl rfl (fun o9 ho => ?_) (fun E9 ho => ?_)
  · rcases hv1 : v1.1 with x2 | r3
    · rw [hv1] at ho
      cases ho
    rw [hv1] at ho
    obtain rfl := Sum.inr.inj ho
    replace hres := z_elimR hv1 hres
    show zj G 7 [(0, .ref aH), (1, .int p0), (2, .ref aU)] [.int r3, .int 0, .ref aU] [(aU, .inl (K.2 4, 1, .inr (.inl uU))), (aH, .inr (5, [.ref aN, .ref aF, .ref aA, .ref aC, .ref aO, .ref aX, .int gB, .int gK])), (aN, .inr (3, [.ref aNk, .ref aNn, .int nS])), (aNk, .inl (K.2 0, 12, .inl nK)), (aNn, .inl (K.2 0, 12, .inl nN)), (aF, .inr (2, [.ref aFl, .ref aFc, .ref aFq, .int fM])), (aFl, .inl (K.2 0, 12, .inl fL)), (aFc, .inl (K.2 0, 12, .inl fC)), (aFq, .inl (K.2 0, 12, .inl fQ)), (aA, .inr (2, [.ref aAl, .ref aAc, .ref aAq, .int v1.2.1])), (aAl, .inl (K.2 0, 12, .inl v1.2.2.1)), (aAc, .inl (K.2 0, 12, .inl v1.2.2.2.1)), (aAq, .inl (K.2 0, 12, .inl v1.2.2.2.2))] 8 48
    refine z_i2l hG dL_onAll_7 ?_
    refine z_last (ws' := [(aU, .inl (K.2 4, 1, .inr (.inl (vp_updL uU (0 : Int32).toNatClampNeg r3.toInt64)))), (aH, .inr (5, [.ref aN, .ref aF, .ref aA, .ref aC, .ref aO, .ref aX, .int gB, .int gK])), (aN, .inr (3, [.ref aNk, .ref aNn, .int nS])), (aNk, .inl (K.2 0, 12, .inl nK)), (aNn, .inl (K.2 0, 12, .inl nN)), (aF, .inr (2, [.ref aFl, .ref aFc, .ref aFq, .int fM])), (aFl, .inl (K.2 0, 12, .inl fL)), (aFc, .inl (K.2 0, 12, .inl fC)), (aFq, .inl (K.2 0, 12, .inl fQ)), (aA, .inr (2, [.ref aAl, .ref aAc, .ref aAq, .int v1.2.1])), (aAl, .inl (K.2 0, 12, .inl v1.2.2.1)), (aAc, .inl (K.2 0, 12, .inl v1.2.2.2.1)), (aAq, .inl (K.2 0, 12, .inl v1.2.2.2.2))]) hG dL_onAll_8 0 rfl (by decide) rfl ?_
    refine z_goto 21 hG dL_onAll_9 (by decide) ?_
    refine z_iconst 0 hG dL_onAll_21 (by decide) ?_
    obtain rfl := Option.some.inj hres
    exact (hR _ rfl _ _ dL_onAll_22)
  · rcases hv1 : v1.1 with x2 | r3
    rotate_left
    · rw [hv1] at ho
      cases ho
    rw [hv1] at ho
    obtain rfl := Sum.inl.inj ho
    replace hres := z_elimL hv1 hres
    by_cases c : x2 = "java/util/NoSuchElementException"
    · replace hres := z_ifp c hres
      subst c
      refine z_catch (h1 := []) (a := 0) (b := 9) (hd := 12) (ct := 20) (h2 := [(0, 9, 15, 15), (0, 9, 18, 67)]) hG hV hT (fun _ h => absurd h List.not_mem_nil) (by decide) (by decide) (by decide) mL_onAll_0 (by decide) (fun q4 => ?_)
      show zj G 12 [(0, .ref aH), (1, .int p0), (2, .ref aU)] [.ref q4] [(aU, .inl (K.2 4, 1, .inr (.inl uU))), (aH, .inr (5, [.ref aN, .ref aF, .ref aA, .ref aC, .ref aO, .ref aX, .int gB, .int gK])), (aN, .inr (3, [.ref aNk, .ref aNn, .int nS])), (aNk, .inl (K.2 0, 12, .inl nK)), (aNn, .inl (K.2 0, 12, .inl nN)), (aF, .inr (2, [.ref aFl, .ref aFc, .ref aFq, .int fM])), (aFl, .inl (K.2 0, 12, .inl fL)), (aFc, .inl (K.2 0, 12, .inl fC)), (aFq, .inl (K.2 0, 12, .inl fQ)), (aA, .inr (2, [.ref aAl, .ref aAc, .ref aAq, .int v1.2.1])), (aAl, .inl (K.2 0, 12, .inl v1.2.2.1)), (aAc, .inl (K.2 0, 12, .inl v1.2.2.2.1)), (aAq, .inl (K.2 0, 12, .inl v1.2.2.2.2))] 8 48
      refine z_astore_n (lv' := [(3, .ref q4), (0, .ref aH), (1, .int p0), (2, .ref aU)]) hG dL_onAll_12 (by decide) rfl ?_
      refine z_iconst 1 hG dL_onAll_13 (by decide) ?_
      obtain rfl := Option.some.inj hres
      exact (hR _ rfl _ _ dL_onAll_14)
    replace hres := z_ifn c hres
    by_cases c : x2 = "java/lang/IllegalStateException"
    · replace hres := z_ifp c hres
      subst c
      refine z_catch (h1 := [(0, 9, 12, 20)]) (a := 0) (b := 9) (hd := 15) (ct := 15) (h2 := [(0, 9, 18, 67)]) hG hV hT (List.forall_mem_cons.mpr ⟨⟨by decide, _, mL_onAll_0, by decide, by decide⟩, (fun _ h => absurd h List.not_mem_nil)⟩) (by decide) (by decide) (by decide) mL_onAll_1 (by decide) (fun q5 => ?_)
      show zj G 15 [(0, .ref aH), (1, .int p0), (2, .ref aU)] [.ref q5] [(aU, .inl (K.2 4, 1, .inr (.inl uU))), (aH, .inr (5, [.ref aN, .ref aF, .ref aA, .ref aC, .ref aO, .ref aX, .int gB, .int gK])), (aN, .inr (3, [.ref aNk, .ref aNn, .int nS])), (aNk, .inl (K.2 0, 12, .inl nK)), (aNn, .inl (K.2 0, 12, .inl nN)), (aF, .inr (2, [.ref aFl, .ref aFc, .ref aFq, .int fM])), (aFl, .inl (K.2 0, 12, .inl fL)), (aFc, .inl (K.2 0, 12, .inl fC)), (aFq, .inl (K.2 0, 12, .inl fQ)), (aA, .inr (2, [.ref aAl, .ref aAc, .ref aAq, .int v1.2.1])), (aAl, .inl (K.2 0, 12, .inl v1.2.2.1)), (aAc, .inl (K.2 0, 12, .inl v1.2.2.2.1)), (aAq, .inl (K.2 0, 12, .inl v1.2.2.2.2))] 8 48
      refine z_astore_n (lv' := [(3, .ref q5), (0, .ref aH), (1, .int p0), (2, .ref aU)]) hG dL_onAll_15 (by decide) rfl ?_
      refine z_iconst 2 hG dL_onAll_16 (by decide) ?_
      obtain rfl := Option.some.inj hres
      exact (hR _ rfl _ _ dL_onAll_17)
    replace hres := z_ifn c hres
    by_cases c : x2 = "java/lang/UnsupportedOperationException"
    · replace hres := z_ifp c hres
      subst c
      refine z_catch (h1 := [(0, 9, 12, 20), (0, 9, 15, 15)]) (a := 0) (b := 9) (hd := 18) (ct := 67) (h2 := []) hG hV hT (List.forall_mem_cons.mpr ⟨⟨by decide, _, mL_onAll_0, by decide, by decide⟩, (List.forall_mem_cons.mpr ⟨⟨by decide, _, mL_onAll_1, by decide, by decide⟩, (fun _ h => absurd h List.not_mem_nil)⟩)⟩) (by decide) (by decide) (by decide) mL_onAll_2 (by decide) (fun q6 => ?_)
      show zj G 18 [(0, .ref aH), (1, .int p0), (2, .ref aU)] [.ref q6] [(aU, .inl (K.2 4, 1, .inr (.inl uU))), (aH, .inr (5, [.ref aN, .ref aF, .ref aA, .ref aC, .ref aO, .ref aX, .int gB, .int gK])), (aN, .inr (3, [.ref aNk, .ref aNn, .int nS])), (aNk, .inl (K.2 0, 12, .inl nK)), (aNn, .inl (K.2 0, 12, .inl nN)), (aF, .inr (2, [.ref aFl, .ref aFc, .ref aFq, .int fM])), (aFl, .inl (K.2 0, 12, .inl fL)), (aFc, .inl (K.2 0, 12, .inl fC)), (aFq, .inl (K.2 0, 12, .inl fQ)), (aA, .inr (2, [.ref aAl, .ref aAc, .ref aAq, .int v1.2.1])), (aAl, .inl (K.2 0, 12, .inl v1.2.2.1)), (aAc, .inl (K.2 0, 12, .inl v1.2.2.2.1)), (aAq, .inl (K.2 0, 12, .inl v1.2.2.2.2))] 8 48
      refine z_astore_n (lv' := [(3, .ref q6), (0, .ref aH), (1, .int p0), (2, .ref aU)]) hG dL_onAll_18 (by decide) rfl ?_
      refine z_iconst 3 hG dL_onAll_19 (by decide) ?_
      obtain rfl := Option.some.inj hres
      exact (hR _ rfl _ _ dL_onAll_20)
    replace hres := z_ifn c hres
    cases hres

theorem dL_mean_0 : decode cL_mean 0 = .ok (.aload_n 1, 1) := by decide +kernel
theorem dL_mean_1 : decode cL_mean 1 = .ok (.iconst 0, 1) := by decide +kernel
theorem dL_mean_2 : decode cL_mean 2 = .ok (.aload_n 0, 1) := by decide +kernel
theorem dL_mean_3 : decode cL_mean 3 = .ok (.invokevirtual 72, 3) := by decide +kernel
theorem dL_mean_6 : decode cL_mean 6 = .ok (.dastore, 1) := by decide +kernel
theorem dL_mean_7 : decode cL_mean 7 = .ok (.goto 6, 3) := by decide +kernel
theorem dL_mean_10 : decode cL_mean 10 = .ok (.astore_n 2, 1) := by decide +kernel
theorem dL_mean_11 : decode cL_mean 11 = .ok (.iconst 1, 1) := by decide +kernel
theorem dL_mean_12 : decode cL_mean 12 = .ok (.ireturn, 1) := by decide +kernel
theorem dL_mean_13 : decode cL_mean 13 = .ok (.iconst 0, 1) := by decide +kernel
theorem dL_mean_14 : decode cL_mean 14 = .ok (.ireturn, 1) := by decide +kernel
set_option maxRecDepth 20000 in
theorem ggL_mean_X5_mean : GoodIn wsL_mean wsX5_mean := goodIn_ca (goodIn_r _ [6, 7, 8, 9, 10, 11, 12, 13, 5, 14, 15, 16, 17, 18, 19, 20, 21, 22, 23, 24, 25, 26, 27, 28, 29, 30, 31, 32] (by decide +kernel) (by decide +kernel)) (goodIn_sub (fun _ h => List.mem_cons_of_mem _ (List.mem_append_right _ h)) (by decide +kernel))
set_option maxRecDepth 20000 in
theorem gL_mean_X5_mean : GoodIn wsL_mean (wsV RL 72 RX5 yX5_mean wsX5_mean) := goodIn_app (goodIn_of _ (by decide +kernel)) ggL_mean_X5_mean
theorem mL_mean_0 : Cond.classLink RL 15 "java/lang/IllegalStateException" ∈ wsL_mean := by decide +kernel
def fL_mean (uU : (Nat → UInt64)) (gB : Int32) (nS : Int32) (fL : (Nat → Int32)) : Option (Int32 × (Nat → UInt64)) := (fX5_mean gB nS fL).bind fun v1 => Sum.elim (fun x2 : String => if x2 = "java/lang/IllegalStateException" then some (1, uU) else none) (fun r3 : UInt64 => some (0, (vf_upd uU (0 : Int32).toNatClampNeg r3))) v1
set_option maxRecDepth 100000 in
set_option maxHeartbeats 4000000 in
theorem kL_mean (l : Launch) (K : zK) (aU : Nat) (aH : Nat) (aN : Nat) (aNk : Nat) (aNn : Nat) (aF : Nat) (aFl : Nat) (aFc : Nat) (aFq : Nat) (aA : Nat) (aC : Nat) (aO : Nat) (aX : Nat)  (uU : (Nat → UInt64)) (gB : Int32) (gK : Int32) (nS : Int32) (nK : (Nat → Int32)) (nN : (Nat → Int32)) (fM : Int32) (fL : (Nat → Int32)) (fC : (Nat → Int32)) (fQ : (Nat → Int32)) (r : Int32 × (Nat → UInt64)) (hres : fL_mean uU gB nS fL = some r) : zX l K yL_mean wsL_mean ({ frames := 8, cells := 8, slots := 48, locals := 125 }) [.ref aH, .ref aU] [(aU, .inl (K.2 5, 1, .inr (.inr (.inr (.inl uU))))), (aH, .inr (5, [.ref aN, .ref aF, .ref aA, .ref aC, .ref aO, .ref aX, .int gB, .int gK])), (aN, .inr (3, [.ref aNk, .ref aNn, .int nS])), (aNk, .inl (K.2 0, 12, .inl nK)), (aNn, .inl (K.2 0, 12, .inl nN)), (aF, .inr (2, [.ref aFl, .ref aFc, .ref aFq, .int fM])), (aFl, .inl (K.2 0, 12, .inl fL)), (aFc, .inl (K.2 0, 12, .inl fC)), (aFq, .inl (K.2 0, 12, .inl fQ))] (.inr (some (.int r.1))) [(aU, .inl (K.2 5, 1, .inr (.inr (.inr (.inl r.2))))), (aH, .inr (5, [.ref aN, .ref aF, .ref aA, .ref aC, .ref aO, .ref aX, .int gB, .int gK])), (aN, .inr (3, [.ref aNk, .ref aNn, .int nS])), (aNk, .inl (K.2 0, 12, .inl nK)), (aNn, .inl (K.2 0, 12, .inl nN)), (aF, .inr (2, [.ref aFl, .ref aFc, .ref aFq, .int fM])), (aFl, .inl (K.2 0, 12, .inl fL)), (aFc, .inl (K.2 0, 12, .inl fC)), (aFq, .inl (K.2 0, 12, .inl fQ))] 8 48 := by
  refine zX.intH (cc := cL_mean) (maxL := 3) (ret := (some .int)) (hh := [(0, 7, 10, 15)]) rfl (by decide) (Nat.le_of_ble_eq_true rfl) rfl ?_
  intro G hGl hG hV hT hR
  unfold fL_mean at hres
  show zj G 0 [(0, .ref aH), (1, .ref aU)] [] [(aU, .inl (K.2 5, 1, .inr (.inr (.inr (.inl uU))))), (aH, .inr (5, [.ref aN, .ref aF, .ref aA, .ref aC, .ref aO, .ref aX, .int gB, .int gK])), (aN, .inr (3, [.ref aNk, .ref aNn, .int nS])), (aNk, .inl (K.2 0, 12, .inl nK)), (aNn, .inl (K.2 0, 12, .inl nN)), (aF, .inr (2, [.ref aFl, .ref aFc, .ref aFq, .int fM])), (aFl, .inl (K.2 0, 12, .inl fL)), (aFc, .inl (K.2 0, 12, .inl fC)), (aFq, .inl (K.2 0, 12, .inl fQ))] 0 0
  refine z_aload_n hG dL_mean_0 1 rfl ?_
  refine z_iconst 0 hG dL_mean_1 (by decide) ?_
  refine z_aload_n hG dL_mean_2 0 rfl ?_
  obtain ⟨v1, hv, hres⟩ := z_bind hres
  refine z_callX (As := []) (rest := [.int 0, .ref aU]) (wr := [(aU, .inl (K.2 5, 1, .inr (.inr (.inr (.inl uU)))))]) (ws' := [(aU, .inl (K.2 5, 1, .inr (.inr (.inr (.inl uU))))), (aH, .inr (5, [.ref aN, .ref aF, .ref aA, .ref aC, .ref aO, .ref aX, .int gB, .int gK])), (aN, .inr (3, [.ref aNk, .ref aNn, .int nS])), (aNk, .inl (K.2 0, 12, .inl nK)), (aNn, .inl (K.2 0, 12, .inl nN)), (aF, .inr (2, [.ref aFl, .ref aFc, .ref aFq, .int fM])), (aFl, .inl (K.2 0, 12, .inl fL)), (aFc, .inl (K.2 0, 12, .inl fC)), (aFq, .inl (K.2 0, 12, .inl fQ))]) (kc' := 8) (ks' := 48) (n := 0) (C := RX5) (ci := 5) hG hV dL_mean_3 (kX5_mean _ K aH aN aNk aNn aF aFl aFc aFq aA aC aO aX gB gK nS nK nN fM fL fC fQ v1 hv) gL_mean_X5_mean rfl rfl rfl ⟨rfl, by decide, by decide, rfl⟩ ⟨by decide, by decide⟩ (Nat.le_of_ble_eq_true rfl) ⟨(Nat.le_of_ble_eq_true rfl), (Nat.le_of_ble_eq_true rfl)⟩ [1, 2, 3, 4, 5, 6, 7, 8] [0] [0, 1, 2, 3, 4, 5, 6, 7, 8] rfl rfl rfl rfl (by decide) rfl rfl rfl rfl rfl 0 rfl rfl rfl rfl (fun o9 ho => ?_) (fun E9 ho => ?_)
  · rcases hv1 : v1 with x2 | r3
    · rw [hv1] at ho
      cases ho
    rw [hv1] at ho
    obtain rfl := Sum.inr.inj ho
    replace hres := z_elimR hv1 hres
    show zj G 6 [(0, .ref aH), (1, .ref aU)] [.double r3, .int 0, .ref aU] [(aU, .inl (K.2 5, 1, .inr (.inr (.inr (.inl uU))))), (aH, .inr (5, [.ref aN, .ref aF, .ref aA, .ref aC, .ref aO, .ref aX, .int gB, .int gK])), (aN, .inr (3, [.ref aNk, .ref aNn, .int nS])), (aNk, .inl (K.2 0, 12, .inl nK)), (aNn, .inl (K.2 0, 12, .inl nN)), (aF, .inr (2, [.ref aFl, .ref aFc, .ref aFq, .int fM])), (aFl, .inl (K.2 0, 12, .inl fL)), (aFc, .inl (K.2 0, 12, .inl fC)), (aFq, .inl (K.2 0, 12, .inl fQ))] 8 48
    refine z_dast (ws' := [(aU, .inl (K.2 5, 1, .inr (.inr (.inr (.inl (vf_upd uU (0 : Int32).toNatClampNeg r3)))))), (aH, .inr (5, [.ref aN, .ref aF, .ref aA, .ref aC, .ref aO, .ref aX, .int gB, .int gK])), (aN, .inr (3, [.ref aNk, .ref aNn, .int nS])), (aNk, .inl (K.2 0, 12, .inl nK)), (aNn, .inl (K.2 0, 12, .inl nN)), (aF, .inr (2, [.ref aFl, .ref aFc, .ref aFq, .int fM])), (aFl, .inl (K.2 0, 12, .inl fL)), (aFc, .inl (K.2 0, 12, .inl fC)), (aFq, .inl (K.2 0, 12, .inl fQ))]) hG dL_mean_6 0 rfl (by decide) rfl ?_
    refine z_goto 13 hG dL_mean_7 (by decide) ?_
    refine z_iconst 0 hG dL_mean_13 (by decide) ?_
    obtain rfl := Option.some.inj hres
    exact (hR _ rfl _ _ dL_mean_14)
  · rcases hv1 : v1 with x2 | r3
    rotate_left
    · rw [hv1] at ho
      cases ho
    rw [hv1] at ho
    obtain rfl := Sum.inl.inj ho
    replace hres := z_elimL hv1 hres
    by_cases c : x2 = "java/lang/IllegalStateException"
    · replace hres := z_ifp c hres
      subst c
      refine z_catch (h1 := []) (a := 0) (b := 7) (hd := 10) (ct := 15) (h2 := []) hG hV hT (fun _ h => absurd h List.not_mem_nil) (by decide) (by decide) (by decide) mL_mean_0 (by decide) (fun q4 => ?_)
      show zj G 10 [(0, .ref aH), (1, .ref aU)] [.ref q4] [(aU, .inl (K.2 5, 1, .inr (.inr (.inr (.inl uU))))), (aH, .inr (5, [.ref aN, .ref aF, .ref aA, .ref aC, .ref aO, .ref aX, .int gB, .int gK])), (aN, .inr (3, [.ref aNk, .ref aNn, .int nS])), (aNk, .inl (K.2 0, 12, .inl nK)), (aNn, .inl (K.2 0, 12, .inl nN)), (aF, .inr (2, [.ref aFl, .ref aFc, .ref aFq, .int fM])), (aFl, .inl (K.2 0, 12, .inl fL)), (aFc, .inl (K.2 0, 12, .inl fC)), (aFq, .inl (K.2 0, 12, .inl fQ))] 8 48
      refine z_astore_n (lv' := [(2, .ref q4), (0, .ref aH), (1, .ref aU)]) hG dL_mean_10 (by decide) rfl ?_
      refine z_iconst 1 hG dL_mean_11 (by decide) ?_
      obtain rfl := Option.some.inj hres
      exact (hR _ rfl _ _ dL_mean_12)
    replace hres := z_ifn c hres
    cases hres

theorem dL_between_0 : decode cL_between 0 = .ok (.aload_n 3, 1) := by decide +kernel
theorem dL_between_1 : decode cL_between 1 = .ok (.iconst 0, 1) := by decide +kernel
theorem dL_between_2 : decode cL_between 2 = .ok (.aload_n 0, 1) := by decide +kernel
theorem dL_between_3 : decode cL_between 3 = .ok (.iload_n 1, 1) := by decide +kernel
theorem dL_between_4 : decode cL_between 4 = .ok (.iload_n 2, 1) := by decide +kernel
theorem dL_between_5 : decode cL_between 5 = .ok (.invokevirtual 76, 3) := by decide +kernel
theorem dL_between_8 : decode cL_between 8 = .ok (.i2l, 1) := by decide +kernel
theorem dL_between_9 : decode cL_between 9 = .ok (.lastore, 1) := by decide +kernel
theorem dL_between_10 : decode cL_between 10 = .ok (.goto 7, 3) := by decide +kernel
theorem dL_between_13 : decode cL_between 13 = .ok (.astore 4, 2) := by decide +kernel
theorem dL_between_15 : decode cL_between 15 = .ok (.iconst 1, 1) := by decide +kernel
theorem dL_between_16 : decode cL_between 16 = .ok (.ireturn, 1) := by decide +kernel
theorem dL_between_17 : decode cL_between 17 = .ok (.iconst 0, 1) := by decide +kernel
theorem dL_between_18 : decode cL_between 18 = .ok (.ireturn, 1) := by decide +kernel
set_option maxRecDepth 20000 in
theorem ggL_between_X5_between : GoodIn wsL_between wsX5_between := goodIn_ca (goodIn_r _ [6, 7, 8, 9, 10, 11, 12, 5, 13, 14, 15, 16, 17, 18, 19, 20, 21, 22, 23, 24, 25, 26, 27, 28, 29, 30, 31, 32, 33, 34, 35, 36, 37, 38, 39, 40, 41, 42, 43, 44, 45, 46, 47, 48, 49, 50, 51, 52, 53, 54, 55, 56, 57, 58] (by decide +kernel) (by decide +kernel)) (goodIn_sub (fun _ h => List.mem_cons_of_mem _ (List.mem_append_right _ h)) (by decide +kernel))
set_option maxRecDepth 20000 in
theorem gL_between_X5_between : GoodIn wsL_between (wsV RL 76 RX5 yX5_between wsX5_between) := goodIn_app (goodIn_of _ (by decide +kernel)) ggL_between_X5_between
theorem mL_between_0 : Cond.classLink RL 20 "java/util/NoSuchElementException" ∈ wsL_between := by decide +kernel
def fL_between (uU : (Nat → Int64)) (nS : Int32) (nK : (Nat → Int32)) (nN : (Nat → Int32)) (wM : Int32) (wL : (Nat → Int32)) (wC : (Nat → Int32)) (wQ : (Nat → Int32)) (p0 : Int32) (p1 : Int32) : Option (Int32 × (Nat → Int64) × Int32 × (Nat → Int32) × (Nat → Int32) × (Nat → Int32)) := (fX5_between nS nK nN wM wL wC wQ p0 p1).bind fun v1 => Sum.elim (fun x2 : String => if x2 = "java/util/NoSuchElementException" then some (1, uU, v1.2.1, v1.2.2.1, v1.2.2.2.1, v1.2.2.2.2) else none) (fun r3 : Int32 => some (0, (vp_updL uU (0 : Int32).toNatClampNeg r3.toInt64), v1.2.1, v1.2.2.1, v1.2.2.2.1, v1.2.2.2.2)) v1.1
set_option maxRecDepth 100000 in
set_option maxHeartbeats 4000000 in
theorem kL_between (l : Launch) (K : zK) (aU : Nat) (aH : Nat) (aN : Nat) (aNk : Nat) (aNn : Nat) (aA : Nat) (aAl : Nat) (aAc : Nat) (aAq : Nat) (aF : Nat) (aC : Nat) (aO : Nat) (aX : Nat)  (uU : (Nat → Int64)) (gB : Int32) (gK : Int32) (nS : Int32) (nK : (Nat → Int32)) (nN : (Nat → Int32)) (wM : Int32) (wL : (Nat → Int32)) (wC : (Nat → Int32)) (wQ : (Nat → Int32)) (p0 : Int32) (p1 : Int32) (r : Int32 × (Nat → Int64) × Int32 × (Nat → Int32) × (Nat → Int32) × (Nat → Int32)) (hres : fL_between uU nS nK nN wM wL wC wQ p0 p1 = some r) : zX l K yL_between wsL_between ({ frames := 8, cells := 8, slots := 48, locals := 128 }) [.ref aH, .int p0, .int p1, .ref aU] [(aU, .inl (K.2 4, 1, .inr (.inl uU))), (aH, .inr (5, [.ref aN, .ref aF, .ref aA, .ref aC, .ref aO, .ref aX, .int gB, .int gK])), (aN, .inr (3, [.ref aNk, .ref aNn, .int nS])), (aNk, .inl (K.2 0, 12, .inl nK)), (aNn, .inl (K.2 0, 12, .inl nN)), (aA, .inr (2, [.ref aAl, .ref aAc, .ref aAq, .int wM])), (aAl, .inl (K.2 0, 12, .inl wL)), (aAc, .inl (K.2 0, 12, .inl wC)), (aAq, .inl (K.2 0, 12, .inl wQ))] (.inr (some (.int r.1))) [(aU, .inl (K.2 4, 1, .inr (.inl r.2.1))), (aH, .inr (5, [.ref aN, .ref aF, .ref aA, .ref aC, .ref aO, .ref aX, .int gB, .int gK])), (aN, .inr (3, [.ref aNk, .ref aNn, .int nS])), (aNk, .inl (K.2 0, 12, .inl nK)), (aNn, .inl (K.2 0, 12, .inl nN)), (aA, .inr (2, [.ref aAl, .ref aAc, .ref aAq, .int r.2.2.1])), (aAl, .inl (K.2 0, 12, .inl r.2.2.2.1)), (aAc, .inl (K.2 0, 12, .inl r.2.2.2.2.1)), (aAq, .inl (K.2 0, 12, .inl r.2.2.2.2.2))] 8 48 := by
  refine zX.intH (cc := cL_between) (maxL := 5) (ret := (some .int)) (hh := [(0, 10, 13, 20)]) rfl (by decide) (Nat.le_of_ble_eq_true rfl) rfl ?_
  intro G hGl hG hV hT hR
  unfold fL_between at hres
  show zj G 0 [(0, .ref aH), (1, .int p0), (2, .int p1), (3, .ref aU)] [] [(aU, .inl (K.2 4, 1, .inr (.inl uU))), (aH, .inr (5, [.ref aN, .ref aF, .ref aA, .ref aC, .ref aO, .ref aX, .int gB, .int gK])), (aN, .inr (3, [.ref aNk, .ref aNn, .int nS])), (aNk, .inl (K.2 0, 12, .inl nK)), (aNn, .inl (K.2 0, 12, .inl nN)), (aA, .inr (2, [.ref aAl, .ref aAc, .ref aAq, .int wM])), (aAl, .inl (K.2 0, 12, .inl wL)), (aAc, .inl (K.2 0, 12, .inl wC)), (aAq, .inl (K.2 0, 12, .inl wQ))] 0 0
  refine z_aload_n hG dL_between_0 3 rfl ?_
  refine z_iconst 0 hG dL_between_1 (by decide) ?_
  refine z_aload_n hG dL_between_2 0 rfl ?_
  refine z_iload_n hG dL_between_3 1 rfl ?_
  refine z_iload_n hG dL_between_4 2 rfl ?_
  obtain ⟨v1, hv, hres⟩ := z_bind hres
  refine z_callX (As := [.int p0, .int p1]) (rest := [.int 0, .ref aU]) (wr := [(aU, .inl (K.2 4, 1, .inr (.inl uU)))]) (ws' := [(aU, .inl (K.2 4, 1, .inr (.inl uU))), (aH, .inr (5, [.ref aN, .ref aF, .ref aA, .ref aC, .ref aO, .ref aX, .int gB, .int gK])), (aN, .inr (3, [.ref aNk, .ref aNn, .int nS])), (aNk, .inl (K.2 0, 12, .inl nK)), (aNn, .inl (K.2 0, 12, .inl nN)), (aA, .inr (2, [.ref aAl, .ref aAc, .ref aAq, .int v1.2.1])), (aAl, .inl (K.2 0, 12, .inl v1.2.2.1)), (aAc, .inl (K.2 0, 12, .inl v1.2.2.2.1)), (aAq, .inl (K.2 0, 12, .inl v1.2.2.2.2))]) (kc' := 8) (ks' := 48) (n := 2) (C := RX5) (ci := 5) hG hV dL_between_5 (kX5_between _ K aH aN aNk aNn aA aAl aAc aAq aF aC aO aX gB gK nS nK nN wM wL wC wQ p0 p1 v1 hv) gL_between_X5_between rfl rfl rfl ⟨rfl, by decide, by decide, rfl⟩ ⟨by decide, by decide⟩ (Nat.le_of_ble_eq_true rfl) ⟨(Nat.le_of_ble_eq_true rfl), (Nat.le_of_ble_eq_true rfl)⟩ [1, 2, 3, 4, 5, 6, 7, 8] [0] [0, 1, 2, 3, 4, 5, 6, 7, 8] rfl rfl rfl rfl (by decide) rfl rfl rfl rfl rfl 0 rfl rfl rfl rfl (fun o9 ho => ?_) (fun E9 ho => ?_)
  · rcases hv1 : v1.1 with x2 | r3
    · rw [hv1] at ho
      cases ho
    rw [hv1] at ho
    obtain rfl := Sum.inr.inj ho
    replace hres := z_elimR hv1 hres
    show zj G 8 [(0, .ref aH), (1, .int p0), (2, .int p1), (3, .ref aU)] [.int r3, .int 0, .ref aU] [(aU, .inl (K.2 4, 1, .inr (.inl uU))), (aH, .inr (5, [.ref aN, .ref aF, .ref aA, .ref aC, .ref aO, .ref aX, .int gB, .int gK])), (aN, .inr (3, [.ref aNk, .ref aNn, .int nS])), (aNk, .inl (K.2 0, 12, .inl nK)), (aNn, .inl (K.2 0, 12, .inl nN)), (aA, .inr (2, [.ref aAl, .ref aAc, .ref aAq, .int v1.2.1])), (aAl, .inl (K.2 0, 12, .inl v1.2.2.1)), (aAc, .inl (K.2 0, 12, .inl v1.2.2.2.1)), (aAq, .inl (K.2 0, 12, .inl v1.2.2.2.2))] 8 48
    refine z_i2l hG dL_between_8 ?_
    refine z_last (ws' := [(aU, .inl (K.2 4, 1, .inr (.inl (vp_updL uU (0 : Int32).toNatClampNeg r3.toInt64)))), (aH, .inr (5, [.ref aN, .ref aF, .ref aA, .ref aC, .ref aO, .ref aX, .int gB, .int gK])), (aN, .inr (3, [.ref aNk, .ref aNn, .int nS])), (aNk, .inl (K.2 0, 12, .inl nK)), (aNn, .inl (K.2 0, 12, .inl nN)), (aA, .inr (2, [.ref aAl, .ref aAc, .ref aAq, .int v1.2.1])), (aAl, .inl (K.2 0, 12, .inl v1.2.2.1)), (aAc, .inl (K.2 0, 12, .inl v1.2.2.2.1)), (aAq, .inl (K.2 0, 12, .inl v1.2.2.2.2))]) hG dL_between_9 0 rfl (by decide) rfl ?_
    refine z_goto 17 hG dL_between_10 (by decide) ?_
    refine z_iconst 0 hG dL_between_17 (by decide) ?_
    obtain rfl := Option.some.inj hres
    exact (hR _ rfl _ _ dL_between_18)
  · rcases hv1 : v1.1 with x2 | r3
    rotate_left
    · rw [hv1] at ho
      cases ho
    rw [hv1] at ho
    obtain rfl := Sum.inl.inj ho
    replace hres := z_elimL hv1 hres
    by_cases c : x2 = "java/util/NoSuchElementException"
    · replace hres := z_ifp c hres
      subst c
      refine z_catch (h1 := []) (a := 0) (b := 10) (hd := 13) (ct := 20) (h2 := []) hG hV hT (fun _ h => absurd h List.not_mem_nil) (by decide) (by decide) (by decide) mL_between_0 (by decide) (fun q4 => ?_)
      show zj G 13 [(0, .ref aH), (1, .int p0), (2, .int p1), (3, .ref aU)] [.ref q4] [(aU, .inl (K.2 4, 1, .inr (.inl uU))), (aH, .inr (5, [.ref aN, .ref aF, .ref aA, .ref aC, .ref aO, .ref aX, .int gB, .int gK])), (aN, .inr (3, [.ref aNk, .ref aNn, .int nS])), (aNk, .inl (K.2 0, 12, .inl nK)), (aNn, .inl (K.2 0, 12, .inl nN)), (aA, .inr (2, [.ref aAl, .ref aAc, .ref aAq, .int v1.2.1])), (aAl, .inl (K.2 0, 12, .inl v1.2.2.1)), (aAc, .inl (K.2 0, 12, .inl v1.2.2.2.1)), (aAq, .inl (K.2 0, 12, .inl v1.2.2.2.2))] 8 48
      refine z_astore (lv' := [(4, .ref q4), (0, .ref aH), (1, .int p0), (2, .int p1), (3, .ref aU)]) hG dL_between_13 (by decide) rfl ?_
      refine z_iconst 1 hG dL_between_15 (by decide) ?_
      obtain rfl := Option.some.inj hres
      exact (hR _ rfl _ _ dL_between_16)
    replace hres := z_ifn c hres
    cases hres

theorem dL_colour_0 : decode cL_colour 0 = .ok (.aload_n 2, 1) := by decide +kernel
theorem dL_colour_1 : decode cL_colour 1 = .ok (.iconst 0, 1) := by decide +kernel
theorem dL_colour_2 : decode cL_colour 2 = .ok (.aload_n 0, 1) := by decide +kernel
theorem dL_colour_3 : decode cL_colour 3 = .ok (.iload_n 1, 1) := by decide +kernel
theorem dL_colour_4 : decode cL_colour 4 = .ok (.invokevirtual 79, 3) := by decide +kernel
theorem dL_colour_7 : decode cL_colour 7 = .ok (.i2l, 1) := by decide +kernel
theorem dL_colour_8 : decode cL_colour 8 = .ok (.lastore, 1) := by decide +kernel
theorem dL_colour_9 : decode cL_colour 9 = .ok (.goto 9, 3) := by decide +kernel
theorem dL_colour_12 : decode cL_colour 12 = .ok (.astore_n 3, 1) := by decide +kernel
theorem dL_colour_13 : decode cL_colour 13 = .ok (.iconst 1, 1) := by decide +kernel
theorem dL_colour_14 : decode cL_colour 14 = .ok (.ireturn, 1) := by decide +kernel
theorem dL_colour_15 : decode cL_colour 15 = .ok (.astore_n 3, 1) := by decide +kernel
theorem dL_colour_16 : decode cL_colour 16 = .ok (.iconst 2, 1) := by decide +kernel
theorem dL_colour_17 : decode cL_colour 17 = .ok (.ireturn, 1) := by decide +kernel
theorem dL_colour_18 : decode cL_colour 18 = .ok (.iconst 0, 1) := by decide +kernel
theorem dL_colour_19 : decode cL_colour 19 = .ok (.ireturn, 1) := by decide +kernel
set_option maxRecDepth 20000 in
theorem ggL_colour_X5_colour : GoodIn wsL_colour wsX5_colour := goodIn_ca (goodIn_ca (goodIn_r _ [7, 8, 9, 10, 11, 12, 13, 14, 15, 16, 17, 6, 18, 19, 20, 21, 22, 23, 24, 25, 26, 27, 28, 29, 30, 31, 32, 33, 34, 35, 36, 37, 38, 39, 40, 41, 42, 43, 44, 45, 46, 47, 48, 49, 50, 51, 52, 53, 54, 55, 56, 57, 58, 59, 60, 61, 62, 63, 64, 65, 66, 67, 68, 69, 70, 71, 72, 73, 74, 75, 76, 77, 78, 79, 80, 81, 82, 83, 84, 85] (by decide +kernel) (by decide +kernel)) (goodIn_sub (fun _ h => List.mem_cons_of_mem _ (List.mem_append_left _ (List.mem_append_right _ h))) (by decide +kernel))) (goodIn_sub (fun _ h => List.mem_cons_of_mem _ (List.mem_append_right _ h)) (by decide +kernel))
set_option maxRecDepth 20000 in
theorem gL_colour_X5_colour : GoodIn wsL_colour (wsV RL 79 RX5 yX5_colour wsX5_colour) := goodIn_app (goodIn_of _ (by decide +kernel)) ggL_colour_X5_colour
theorem mL_colour_0 : Cond.classLink RL 20 "java/util/NoSuchElementException" ∈ wsL_colour := by decide +kernel
theorem mL_colour_1 : Cond.classLink RL 67 "java/lang/UnsupportedOperationException" ∈ wsL_colour := by decide +kernel
def fL_colour (uU : (Nat → Int64)) (nS : Int32) (nK : (Nat → Int32)) (nN : (Nat → Int32)) (wM : Int32) (wL : (Nat → Int32)) (wC : (Nat → Int32)) (wQ : (Nat → Int32)) (cP : Int32) (cW : Int32) (cT : (Nat → Int32)) (p0 : Int32) : Option (Int32 × (Nat → Int64) × Int32 × (Nat → Int32) × (Nat → Int32) × (Nat → Int32) × Int32 × Int32 × (Nat → Int32)) := (fX5_colour nS nK nN wM wL wC wQ cP cW cT p0).bind fun v1 => Sum.elim (fun x2 : String => if x2 = "java/util/NoSuchElementException" then some (1, uU, v1.2.1, v1.2.2.1, v1.2.2.2.1, v1.2.2.2.2.1, v1.2.2.2.2.2.1, v1.2.2.2.2.2.2.1, v1.2.2.2.2.2.2.2) else if x2 = "java/lang/UnsupportedOperationException" then some (2, uU, v1.2.1, v1.2.2.1, v1.2.2.2.1, v1.2.2.2.2.1, v1.2.2.2.2.2.1, v1.2.2.2.2.2.2.1, v1.2.2.2.2.2.2.2) else none) (fun r3 : Int32 => some (0, (vp_updL uU (0 : Int32).toNatClampNeg r3.toInt64), v1.2.1, v1.2.2.1, v1.2.2.2.1, v1.2.2.2.2.1, v1.2.2.2.2.2.1, v1.2.2.2.2.2.2.1, v1.2.2.2.2.2.2.2)) v1.1
set_option maxRecDepth 100000 in
set_option maxHeartbeats 4000000 in
theorem kL_colour (l : Launch) (K : zK) (aU : Nat) (aH : Nat) (aN : Nat) (aNk : Nat) (aNn : Nat) (aA : Nat) (aAl : Nat) (aAc : Nat) (aAq : Nat) (aC : Nat) (aCt : Nat) (aF : Nat) (aO : Nat) (aX : Nat)  (uU : (Nat → Int64)) (gB : Int32) (gK : Int32) (nS : Int32) (nK : (Nat → Int32)) (nN : (Nat → Int32)) (wM : Int32) (wL : (Nat → Int32)) (wC : (Nat → Int32)) (wQ : (Nat → Int32)) (cP : Int32) (cW : Int32) (cT : (Nat → Int32)) (p0 : Int32) (r : Int32 × (Nat → Int64) × Int32 × (Nat → Int32) × (Nat → Int32) × (Nat → Int32) × Int32 × Int32 × (Nat → Int32)) (hres : fL_colour uU nS nK nN wM wL wC wQ cP cW cT p0 = some r) : zX l K yL_colour wsL_colour ({ frames := 8, cells := 8, slots := 48, locals := 134 }) [.ref aH, .int p0, .ref aU] [(aU, .inl (K.2 4, 1, .inr (.inl uU))), (aH, .inr (5, [.ref aN, .ref aF, .ref aA, .ref aC, .ref aO, .ref aX, .int gB, .int gK])), (aN, .inr (3, [.ref aNk, .ref aNn, .int nS])), (aNk, .inl (K.2 0, 12, .inl nK)), (aNn, .inl (K.2 0, 12, .inl nN)), (aA, .inr (2, [.ref aAl, .ref aAc, .ref aAq, .int wM])), (aAl, .inl (K.2 0, 12, .inl wL)), (aAc, .inl (K.2 0, 12, .inl wC)), (aAq, .inl (K.2 0, 12, .inl wQ)), (aC, .inr (1, [.ref aCt, .int cP, .int cW])), (aCt, .inl (K.2 0, 12, .inl cT))] (.inr (some (.int r.1))) [(aU, .inl (K.2 4, 1, .inr (.inl r.2.1))), (aH, .inr (5, [.ref aN, .ref aF, .ref aA, .ref aC, .ref aO, .ref aX, .int gB, .int gK])), (aN, .inr (3, [.ref aNk, .ref aNn, .int nS])), (aNk, .inl (K.2 0, 12, .inl nK)), (aNn, .inl (K.2 0, 12, .inl nN)), (aA, .inr (2, [.ref aAl, .ref aAc, .ref aAq, .int r.2.2.1])), (aAl, .inl (K.2 0, 12, .inl r.2.2.2.1)), (aAc, .inl (K.2 0, 12, .inl r.2.2.2.2.1)), (aAq, .inl (K.2 0, 12, .inl r.2.2.2.2.2.1)), (aC, .inr (1, [.ref aCt, .int r.2.2.2.2.2.2.1, .int r.2.2.2.2.2.2.2.1])), (aCt, .inl (K.2 0, 12, .inl r.2.2.2.2.2.2.2.2))] 8 48 := by
  refine zX.intH (cc := cL_colour) (maxL := 4) (ret := (some .int)) (hh := [(0, 9, 12, 20), (0, 9, 15, 67)]) rfl (by decide) (Nat.le_of_ble_eq_true rfl) rfl ?_
  intro G hGl hG hV hT hR
  unfold fL_colour at hres
  show zj G 0 [(0, .ref aH), (1, .int p0), (2, .ref aU)] [] [(aU, .inl (K.2 4, 1, .inr (.inl uU))), (aH, .inr (5, [.ref aN, .ref aF, .ref aA, .ref aC, .ref aO, .ref aX, .int gB, .int gK])), (aN, .inr (3, [.ref aNk, .ref aNn, .int nS])), (aNk, .inl (K.2 0, 12, .inl nK)), (aNn, .inl (K.2 0, 12, .inl nN)), (aA, .inr (2, [.ref aAl, .ref aAc, .ref aAq, .int wM])), (aAl, .inl (K.2 0, 12, .inl wL)), (aAc, .inl (K.2 0, 12, .inl wC)), (aAq, .inl (K.2 0, 12, .inl wQ)), (aC, .inr (1, [.ref aCt, .int cP, .int cW])), (aCt, .inl (K.2 0, 12, .inl cT))] 0 0
  refine z_aload_n hG dL_colour_0 2 rfl ?_
  refine z_iconst 0 hG dL_colour_1 (by decide) ?_
  refine z_aload_n hG dL_colour_2 0 rfl ?_
  refine z_iload_n hG dL_colour_3 1 rfl ?_
  obtain ⟨v1, hv, hres⟩ := z_bind hres
  refine z_callX (As := [.int p0]) (rest := [.int 0, .ref aU]) (wr := [(aU, .inl (K.2 4, 1, .inr (.inl uU)))]) (ws' := [(aU, .inl (K.2 4, 1, .inr (.inl uU))), (aH, .inr (5, [.ref aN, .ref aF, .ref aA, .ref aC, .ref aO, .ref aX, .int gB, .int gK])), (aN, .inr (3, [.ref aNk, .ref aNn, .int nS])), (aNk, .inl (K.2 0, 12, .inl nK)), (aNn, .inl (K.2 0, 12, .inl nN)), (aA, .inr (2, [.ref aAl, .ref aAc, .ref aAq, .int v1.2.1])), (aAl, .inl (K.2 0, 12, .inl v1.2.2.1)), (aAc, .inl (K.2 0, 12, .inl v1.2.2.2.1)), (aAq, .inl (K.2 0, 12, .inl v1.2.2.2.2.1)), (aC, .inr (1, [.ref aCt, .int v1.2.2.2.2.2.1, .int v1.2.2.2.2.2.2.1])), (aCt, .inl (K.2 0, 12, .inl v1.2.2.2.2.2.2.2))]) (kc' := 8) (ks' := 48) (n := 1) (C := RX5) (ci := 5) hG hV dL_colour_4 (kX5_colour _ K aH aN aNk aNn aA aAl aAc aAq aC aCt aF aO aX gB gK nS nK nN wM wL wC wQ cP cW cT p0 v1 hv) gL_colour_X5_colour rfl rfl rfl ⟨rfl, by decide, by decide, rfl⟩ ⟨by decide, by decide⟩ (Nat.le_of_ble_eq_true rfl) ⟨(Nat.le_of_ble_eq_true rfl), (Nat.le_of_ble_eq_true rfl)⟩ [1, 2, 3, 4, 5, 6, 7, 8, 9, 10] [0] [0, 1, 2, 3, 4, 5, 6, 7, 8, 9, 10] rfl rfl rfl rfl (by decide) rfl rfl rfl rfl rfl 0 rfl rfl rfl rfl (fun o9 ho => ?_) (fun E9 ho => ?_)
  · rcases hv1 : v1.1 with x2 | r3
    · rw [hv1] at ho
      cases ho
    rw [hv1] at ho
    obtain rfl := Sum.inr.inj ho
    replace hres := z_elimR hv1 hres
    show zj G 7 [(0, .ref aH), (1, .int p0), (2, .ref aU)] [.int r3, .int 0, .ref aU] [(aU, .inl (K.2 4, 1, .inr (.inl uU))), (aH, .inr (5, [.ref aN, .ref aF, .ref aA, .ref aC, .ref aO, .ref aX, .int gB, .int gK])), (aN, .inr (3, [.ref aNk, .ref aNn, .int nS])), (aNk, .inl (K.2 0, 12, .inl nK)), (aNn, .inl (K.2 0, 12, .inl nN)), (aA, .inr (2, [.ref aAl, .ref aAc, .ref aAq, .int v1.2.1])), (aAl, .inl (K.2 0, 12, .inl v1.2.2.1)), (aAc, .inl (K.2 0, 12, .inl v1.2.2.2.1)), (aAq, .inl (K.2 0, 12, .inl v1.2.2.2.2.1)), (aC, .inr (1, [.ref aCt, .int v1.2.2.2.2.2.1, .int v1.2.2.2.2.2.2.1])), (aCt, .inl (K.2 0, 12, .inl v1.2.2.2.2.2.2.2))] 8 48
    refine z_i2l hG dL_colour_7 ?_
    refine z_last (ws' := [(aU, .inl (K.2 4, 1, .inr (.inl (vp_updL uU (0 : Int32).toNatClampNeg r3.toInt64)))), (aH, .inr (5, [.ref aN, .ref aF, .ref aA, .ref aC, .ref aO, .ref aX, .int gB, .int gK])), (aN, .inr (3, [.ref aNk, .ref aNn, .int nS])), (aNk, .inl (K.2 0, 12, .inl nK)), (aNn, .inl (K.2 0, 12, .inl nN)), (aA, .inr (2, [.ref aAl, .ref aAc, .ref aAq, .int v1.2.1])), (aAl, .inl (K.2 0, 12, .inl v1.2.2.1)), (aAc, .inl (K.2 0, 12, .inl v1.2.2.2.1)), (aAq, .inl (K.2 0, 12, .inl v1.2.2.2.2.1)), (aC, .inr (1, [.ref aCt, .int v1.2.2.2.2.2.1, .int v1.2.2.2.2.2.2.1])), (aCt, .inl (K.2 0, 12, .inl v1.2.2.2.2.2.2.2))]) hG dL_colour_8 0 rfl (by decide) rfl ?_
    refine z_goto 18 hG dL_colour_9 (by decide) ?_
    refine z_iconst 0 hG dL_colour_18 (by decide) ?_
    obtain rfl := Option.some.inj hres
    exact (hR _ rfl _ _ dL_colour_19)
  · rcases hv1 : v1.1 with x2 | r3
    rotate_left
    · rw [hv1] at ho
      cases ho
    rw [hv1] at ho
    obtain rfl := Sum.inl.inj ho
    replace hres := z_elimL hv1 hres
    by_cases c : x2 = "java/util/NoSuchElementException"
    · replace hres := z_ifp c hres
      subst c
      refine z_catch (h1 := []) (a := 0) (b := 9) (hd := 12) (ct := 20) (h2 := [(0, 9, 15, 67)]) hG hV hT (fun _ h => absurd h List.not_mem_nil) (by decide) (by decide) (by decide) mL_colour_0 (by decide) (fun q4 => ?_)
      show zj G 12 [(0, .ref aH), (1, .int p0), (2, .ref aU)] [.ref q4] [(aU, .inl (K.2 4, 1, .inr (.inl uU))), (aH, .inr (5, [.ref aN, .ref aF, .ref aA, .ref aC, .ref aO, .ref aX, .int gB, .int gK])), (aN, .inr (3, [.ref aNk, .ref aNn, .int nS])), (aNk, .inl (K.2 0, 12, .inl nK)), (aNn, .inl (K.2 0, 12, .inl nN)), (aA, .inr (2, [.ref aAl, .ref aAc, .ref aAq, .int v1.2.1])), (aAl, .inl (K.2 0, 12, .inl v1.2.2.1)), (aAc, .inl (K.2 0, 12, .inl v1.2.2.2.1)), (aAq, .inl (K.2 0, 12, .inl v1.2.2.2.2.1)), (aC, .inr (1, [.ref aCt, .int v1.2.2.2.2.2.1, .int v1.2.2.2.2.2.2.1])), (aCt, .inl (K.2 0, 12, .inl v1.2.2.2.2.2.2.2))] 8 48
      refine z_astore_n (lv' := [(3, .ref q4), (0, .ref aH), (1, .int p0), (2, .ref aU)]) hG dL_colour_12 (by decide) rfl ?_
      refine z_iconst 1 hG dL_colour_13 (by decide) ?_
      obtain rfl := Option.some.inj hres
      exact (hR _ rfl _ _ dL_colour_14)
    replace hres := z_ifn c hres
    by_cases c : x2 = "java/lang/UnsupportedOperationException"
    · replace hres := z_ifp c hres
      subst c
      refine z_catch (h1 := [(0, 9, 12, 20)]) (a := 0) (b := 9) (hd := 15) (ct := 67) (h2 := []) hG hV hT (List.forall_mem_cons.mpr ⟨⟨by decide, _, mL_colour_0, by decide, by decide⟩, (fun _ h => absurd h List.not_mem_nil)⟩) (by decide) (by decide) (by decide) mL_colour_1 (by decide) (fun q5 => ?_)
      show zj G 15 [(0, .ref aH), (1, .int p0), (2, .ref aU)] [.ref q5] [(aU, .inl (K.2 4, 1, .inr (.inl uU))), (aH, .inr (5, [.ref aN, .ref aF, .ref aA, .ref aC, .ref aO, .ref aX, .int gB, .int gK])), (aN, .inr (3, [.ref aNk, .ref aNn, .int nS])), (aNk, .inl (K.2 0, 12, .inl nK)), (aNn, .inl (K.2 0, 12, .inl nN)), (aA, .inr (2, [.ref aAl, .ref aAc, .ref aAq, .int v1.2.1])), (aAl, .inl (K.2 0, 12, .inl v1.2.2.1)), (aAc, .inl (K.2 0, 12, .inl v1.2.2.2.1)), (aAq, .inl (K.2 0, 12, .inl v1.2.2.2.2.1)), (aC, .inr (1, [.ref aCt, .int v1.2.2.2.2.2.1, .int v1.2.2.2.2.2.2.1])), (aCt, .inl (K.2 0, 12, .inl v1.2.2.2.2.2.2.2))] 8 48
      refine z_astore_n (lv' := [(3, .ref q5), (0, .ref aH), (1, .int p0), (2, .ref aU)]) hG dL_colour_15 (by decide) rfl ?_
      refine z_iconst 2 hG dL_colour_16 (by decide) ?_
      obtain rfl := Option.some.inj hres
      exact (hR _ rfl _ _ dL_colour_17)
    replace hres := z_ifn c hres
    cases hres

theorem dL_ring_0 : decode cL_ring 0 = .ok (.aload_n 1, 1) := by decide +kernel
theorem dL_ring_1 : decode cL_ring 1 = .ok (.iconst 0, 1) := by decide +kernel
theorem dL_ring_2 : decode cL_ring 2 = .ok (.aload_n 0, 1) := by decide +kernel
theorem dL_ring_3 : decode cL_ring 3 = .ok (.invokevirtual 82, 3) := by decide +kernel
theorem dL_ring_6 : decode cL_ring 6 = .ok (.i2l, 1) := by decide +kernel
theorem dL_ring_7 : decode cL_ring 7 = .ok (.lastore, 1) := by decide +kernel
theorem dL_ring_8 : decode cL_ring 8 = .ok (.goto 6, 3) := by decide +kernel
theorem dL_ring_11 : decode cL_ring 11 = .ok (.astore_n 2, 1) := by decide +kernel
theorem dL_ring_12 : decode cL_ring 12 = .ok (.iconst 1, 1) := by decide +kernel
theorem dL_ring_13 : decode cL_ring 13 = .ok (.ireturn, 1) := by decide +kernel
theorem dL_ring_14 : decode cL_ring 14 = .ok (.iconst 0, 1) := by decide +kernel
theorem dL_ring_15 : decode cL_ring 15 = .ok (.ireturn, 1) := by decide +kernel
set_option maxRecDepth 20000 in
theorem ggL_ring_X5_ring : GoodIn wsL_ring wsX5_ring := goodIn_ca (goodIn_r _ [6, 7, 8, 9, 10, 11, 5, 12, 13, 14, 15, 16, 17, 18, 19, 20, 21, 22, 23, 24, 25, 26, 27, 28, 29, 30, 31, 32, 33, 34, 35, 36, 37, 38, 39, 40, 41, 42, 43, 44, 45, 46, 47, 48, 49, 50, 51, 52, 53, 54, 55, 56, 57, 58, 59, 60, 61, 62, 63, 64, 65, 66, 67, 68, 69, 70, 71, 72, 73, 74, 75, 76, 77, 78, 79, 80, 81, 82, 83, 84, 85, 86, 87, 88, 89, 90, 91, 92, 93, 94, 95, 96, 97, 98, 99, 100, 101, 102, 103, 104] (by decide +kernel) (by decide +kernel)) (goodIn_sub (fun _ h => List.mem_cons_of_mem _ (List.mem_append_right _ h)) (by decide +kernel))
set_option maxRecDepth 20000 in
theorem gL_ring_X5_ring : GoodIn wsL_ring (wsV RL 82 RX5 yX5_ring wsX5_ring) := goodIn_app (goodIn_of _ (by decide +kernel)) ggL_ring_X5_ring
theorem mL_ring_0 : Cond.classLink RL 67 "java/lang/UnsupportedOperationException" ∈ wsL_ring := by decide +kernel
def fL_ring (uU : (Nat → Int64)) (nS : Int32) (nN : (Nat → Int32)) (wM : Int32) (wL : (Nat → Int32)) (wC : (Nat → Int32)) (wQ : (Nat → Int32)) (cT : (Nat → Int32)) (oS : Int32) (oR : (Nat → Int32)) (oX : (Nat → Int32)) : Option (Int32 × (Nat → Int64) × Int32 × (Nat → Int32) × (Nat → Int32) × (Nat → Int32) × Int32 × Int32 × (Nat → Int32) × Int32 × (Nat → Int32) × (Nat → Int32)) := (fX5_ring nS nN wM wL wC wQ cT oS oR oX).bind fun v1 => Sum.elim (fun x2 : String => if x2 = "java/lang/UnsupportedOperationException" then some (1, uU, v1.2.1, v1.2.2.1, v1.2.2.2.1, v1.2.2.2.2.1, v1.2.2.2.2.2.1, v1.2.2.2.2.2.2.1, v1.2.2.2.2.2.2.2.1, v1.2.2.2.2.2.2.2.2.1, v1.2.2.2.2.2.2.2.2.2.1, v1.2.2.2.2.2.2.2.2.2.2) else none) (fun r3 : Int32 => some (0, (vp_updL uU (0 : Int32).toNatClampNeg r3.toInt64), v1.2.1, v1.2.2.1, v1.2.2.2.1, v1.2.2.2.2.1, v1.2.2.2.2.2.1, v1.2.2.2.2.2.2.1, v1.2.2.2.2.2.2.2.1, v1.2.2.2.2.2.2.2.2.1, v1.2.2.2.2.2.2.2.2.2.1, v1.2.2.2.2.2.2.2.2.2.2)) v1.1
set_option maxRecDepth 100000 in
set_option maxHeartbeats 4000000 in
theorem kL_ring (l : Launch) (K : zK) (aU : Nat) (aH : Nat) (aN : Nat) (aNk : Nat) (aNn : Nat) (aA : Nat) (aAl : Nat) (aAc : Nat) (aAq : Nat) (aC : Nat) (aCt : Nat) (aO : Nat) (aOr : Nat) (aOx : Nat) (aF : Nat) (aX : Nat)  (uU : (Nat → Int64)) (gB : Int32) (gK : Int32) (nS : Int32) (nK : (Nat → Int32)) (nN : (Nat → Int32)) (wM : Int32) (wL : (Nat → Int32)) (wC : (Nat → Int32)) (wQ : (Nat → Int32)) (cP : Int32) (cW : Int32) (cT : (Nat → Int32)) (oS : Int32) (oR : (Nat → Int32)) (oX : (Nat → Int32)) (r : Int32 × (Nat → Int64) × Int32 × (Nat → Int32) × (Nat → Int32) × (Nat → Int32) × Int32 × Int32 × (Nat → Int32) × Int32 × (Nat → Int32) × (Nat → Int32)) (hres : fL_ring uU nS nN wM wL wC wQ cT oS oR oX = some r) : zX l K yL_ring wsL_ring ({ frames := 8, cells := 8, slots := 48, locals := 152 }) [.ref aH, .ref aU] [(aU, .inl (K.2 4, 1, .inr (.inl uU))), (aH, .inr (5, [.ref aN, .ref aF, .ref aA, .ref aC, .ref aO, .ref aX, .int gB, .int gK])), (aN, .inr (3, [.ref aNk, .ref aNn, .int nS])), (aNk, .inl (K.2 0, 12, .inl nK)), (aNn, .inl (K.2 0, 12, .inl nN)), (aA, .inr (2, [.ref aAl, .ref aAc, .ref aAq, .int wM])), (aAl, .inl (K.2 0, 12, .inl wL)), (aAc, .inl (K.2 0, 12, .inl wC)), (aAq, .inl (K.2 0, 12, .inl wQ)), (aC, .inr (1, [.ref aCt, .int cP, .int cW])), (aCt, .inl (K.2 0, 12, .inl cT)), (aO, .inr (4, [.ref aOr, .ref aOx, .int oS])), (aOr, .inl (K.2 0, 12, .inl oR)), (aOx, .inl (K.2 0, 13, .inl oX))] (.inr (some (.int r.1))) [(aU, .inl (K.2 4, 1, .inr (.inl r.2.1))), (aH, .inr (5, [.ref aN, .ref aF, .ref aA, .ref aC, .ref aO, .ref aX, .int gB, .int gK])), (aN, .inr (3, [.ref aNk, .ref aNn, .int nS])), (aNk, .inl (K.2 0, 12, .inl nK)), (aNn, .inl (K.2 0, 12, .inl nN)), (aA, .inr (2, [.ref aAl, .ref aAc, .ref aAq, .int r.2.2.1])), (aAl, .inl (K.2 0, 12, .inl r.2.2.2.1)), (aAc, .inl (K.2 0, 12, .inl r.2.2.2.2.1)), (aAq, .inl (K.2 0, 12, .inl r.2.2.2.2.2.1)), (aC, .inr (1, [.ref aCt, .int r.2.2.2.2.2.2.1, .int r.2.2.2.2.2.2.2.1])), (aCt, .inl (K.2 0, 12, .inl r.2.2.2.2.2.2.2.2.1)), (aO, .inr (4, [.ref aOr, .ref aOx, .int r.2.2.2.2.2.2.2.2.2.1])), (aOr, .inl (K.2 0, 12, .inl r.2.2.2.2.2.2.2.2.2.2.1)), (aOx, .inl (K.2 0, 13, .inl r.2.2.2.2.2.2.2.2.2.2.2))] 8 48 := by
  refine zX.intH (cc := cL_ring) (maxL := 3) (ret := (some .int)) (hh := [(0, 8, 11, 67)]) rfl (by decide) (Nat.le_of_ble_eq_true rfl) rfl ?_
  intro G hGl hG hV hT hR
  unfold fL_ring at hres
  show zj G 0 [(0, .ref aH), (1, .ref aU)] [] [(aU, .inl (K.2 4, 1, .inr (.inl uU))), (aH, .inr (5, [.ref aN, .ref aF, .ref aA, .ref aC, .ref aO, .ref aX, .int gB, .int gK])), (aN, .inr (3, [.ref aNk, .ref aNn, .int nS])), (aNk, .inl (K.2 0, 12, .inl nK)), (aNn, .inl (K.2 0, 12, .inl nN)), (aA, .inr (2, [.ref aAl, .ref aAc, .ref aAq, .int wM])), (aAl, .inl (K.2 0, 12, .inl wL)), (aAc, .inl (K.2 0, 12, .inl wC)), (aAq, .inl (K.2 0, 12, .inl wQ)), (aC, .inr (1, [.ref aCt, .int cP, .int cW])), (aCt, .inl (K.2 0, 12, .inl cT)), (aO, .inr (4, [.ref aOr, .ref aOx, .int oS])), (aOr, .inl (K.2 0, 12, .inl oR)), (aOx, .inl (K.2 0, 13, .inl oX))] 0 0
  refine z_aload_n hG dL_ring_0 1 rfl ?_
  refine z_iconst 0 hG dL_ring_1 (by decide) ?_
  refine z_aload_n hG dL_ring_2 0 rfl ?_
  obtain ⟨v1, hv, hres⟩ := z_bind hres
  refine z_callX (As := []) (rest := [.int 0, .ref aU]) (wr := [(aU, .inl (K.2 4, 1, .inr (.inl uU)))]) (ws' := [(aU, .inl (K.2 4, 1, .inr (.inl uU))), (aH, .inr (5, [.ref aN, .ref aF, .ref aA, .ref aC, .ref aO, .ref aX, .int gB, .int gK])), (aN, .inr (3, [.ref aNk, .ref aNn, .int nS])), (aNk, .inl (K.2 0, 12, .inl nK)), (aNn, .inl (K.2 0, 12, .inl nN)), (aA, .inr (2, [.ref aAl, .ref aAc, .ref aAq, .int v1.2.1])), (aAl, .inl (K.2 0, 12, .inl v1.2.2.1)), (aAc, .inl (K.2 0, 12, .inl v1.2.2.2.1)), (aAq, .inl (K.2 0, 12, .inl v1.2.2.2.2.1)), (aC, .inr (1, [.ref aCt, .int v1.2.2.2.2.2.1, .int v1.2.2.2.2.2.2.1])), (aCt, .inl (K.2 0, 12, .inl v1.2.2.2.2.2.2.2.1)), (aO, .inr (4, [.ref aOr, .ref aOx, .int v1.2.2.2.2.2.2.2.2.1])), (aOr, .inl (K.2 0, 12, .inl v1.2.2.2.2.2.2.2.2.2.1)), (aOx, .inl (K.2 0, 13, .inl v1.2.2.2.2.2.2.2.2.2.2))]) (kc' := 8) (ks' := 48) (n := 0) (C := RX5) (ci := 5) hG hV dL_ring_3 (kX5_ring _ K aH aN aNk aNn aA aAl aAc aAq aC aCt aO aOr aOx aF aX gB gK nS nK nN wM wL wC wQ cP cW cT oS oR oX v1 hv) gL_ring_X5_ring rfl rfl rfl ⟨rfl, by decide, by decide, rfl⟩ ⟨by decide, by decide⟩ (Nat.le_of_ble_eq_true rfl) ⟨(Nat.le_of_ble_eq_true rfl), (Nat.le_of_ble_eq_true rfl)⟩ [1, 2, 3, 4, 5, 6, 7, 8, 9, 10, 11, 12, 13] [0] [0, 1, 2, 3, 4, 5, 6, 7, 8, 9, 10, 11, 12, 13] rfl rfl rfl rfl (by decide) rfl rfl rfl rfl rfl 0 rfl rfl rfl rfl (fun o9 ho => ?_) (fun E9 ho => ?_)
  · rcases hv1 : v1.1 with x2 | r3
    · rw [hv1] at ho
      cases ho
    rw [hv1] at ho
    obtain rfl := Sum.inr.inj ho
    replace hres := z_elimR hv1 hres
    show zj G 6 [(0, .ref aH), (1, .ref aU)] [.int r3, .int 0, .ref aU] [(aU, .inl (K.2 4, 1, .inr (.inl uU))), (aH, .inr (5, [.ref aN, .ref aF, .ref aA, .ref aC, .ref aO, .ref aX, .int gB, .int gK])), (aN, .inr (3, [.ref aNk, .ref aNn, .int nS])), (aNk, .inl (K.2 0, 12, .inl nK)), (aNn, .inl (K.2 0, 12, .inl nN)), (aA, .inr (2, [.ref aAl, .ref aAc, .ref aAq, .int v1.2.1])), (aAl, .inl (K.2 0, 12, .inl v1.2.2.1)), (aAc, .inl (K.2 0, 12, .inl v1.2.2.2.1)), (aAq, .inl (K.2 0, 12, .inl v1.2.2.2.2.1)), (aC, .inr (1, [.ref aCt, .int v1.2.2.2.2.2.1, .int v1.2.2.2.2.2.2.1])), (aCt, .inl (K.2 0, 12, .inl v1.2.2.2.2.2.2.2.1)), (aO, .inr (4, [.ref aOr, .ref aOx, .int v1.2.2.2.2.2.2.2.2.1])), (aOr, .inl (K.2 0, 12, .inl v1.2.2.2.2.2.2.2.2.2.1)), (aOx, .inl (K.2 0, 13, .inl v1.2.2.2.2.2.2.2.2.2.2))] 8 48
    refine z_i2l hG dL_ring_6 ?_
    refine z_last (ws' := [(aU, .inl (K.2 4, 1, .inr (.inl (vp_updL uU (0 : Int32).toNatClampNeg r3.toInt64)))), (aH, .inr (5, [.ref aN, .ref aF, .ref aA, .ref aC, .ref aO, .ref aX, .int gB, .int gK])), (aN, .inr (3, [.ref aNk, .ref aNn, .int nS])), (aNk, .inl (K.2 0, 12, .inl nK)), (aNn, .inl (K.2 0, 12, .inl nN)), (aA, .inr (2, [.ref aAl, .ref aAc, .ref aAq, .int v1.2.1])), (aAl, .inl (K.2 0, 12, .inl v1.2.2.1)), (aAc, .inl (K.2 0, 12, .inl v1.2.2.2.1)), (aAq, .inl (K.2 0, 12, .inl v1.2.2.2.2.1)), (aC, .inr (1, [.ref aCt, .int v1.2.2.2.2.2.1, .int v1.2.2.2.2.2.2.1])), (aCt, .inl (K.2 0, 12, .inl v1.2.2.2.2.2.2.2.1)), (aO, .inr (4, [.ref aOr, .ref aOx, .int v1.2.2.2.2.2.2.2.2.1])), (aOr, .inl (K.2 0, 12, .inl v1.2.2.2.2.2.2.2.2.2.1)), (aOx, .inl (K.2 0, 13, .inl v1.2.2.2.2.2.2.2.2.2.2))]) hG dL_ring_7 0 rfl (by decide) rfl ?_
    refine z_goto 14 hG dL_ring_8 (by decide) ?_
    refine z_iconst 0 hG dL_ring_14 (by decide) ?_
    obtain rfl := Option.some.inj hres
    exact (hR _ rfl _ _ dL_ring_15)
  · rcases hv1 : v1.1 with x2 | r3
    rotate_left
    · rw [hv1] at ho
      cases ho
    rw [hv1] at ho
    obtain rfl := Sum.inl.inj ho
    replace hres := z_elimL hv1 hres
    by_cases c : x2 = "java/lang/UnsupportedOperationException"
    · replace hres := z_ifp c hres
      subst c
      refine z_catch (h1 := []) (a := 0) (b := 8) (hd := 11) (ct := 67) (h2 := []) hG hV hT (fun _ h => absurd h List.not_mem_nil) (by decide) (by decide) (by decide) mL_ring_0 (by decide) (fun q4 => ?_)
      show zj G 11 [(0, .ref aH), (1, .ref aU)] [.ref q4] [(aU, .inl (K.2 4, 1, .inr (.inl uU))), (aH, .inr (5, [.ref aN, .ref aF, .ref aA, .ref aC, .ref aO, .ref aX, .int gB, .int gK])), (aN, .inr (3, [.ref aNk, .ref aNn, .int nS])), (aNk, .inl (K.2 0, 12, .inl nK)), (aNn, .inl (K.2 0, 12, .inl nN)), (aA, .inr (2, [.ref aAl, .ref aAc, .ref aAq, .int v1.2.1])), (aAl, .inl (K.2 0, 12, .inl v1.2.2.1)), (aAc, .inl (K.2 0, 12, .inl v1.2.2.2.1)), (aAq, .inl (K.2 0, 12, .inl v1.2.2.2.2.1)), (aC, .inr (1, [.ref aCt, .int v1.2.2.2.2.2.1, .int v1.2.2.2.2.2.2.1])), (aCt, .inl (K.2 0, 12, .inl v1.2.2.2.2.2.2.2.1)), (aO, .inr (4, [.ref aOr, .ref aOx, .int v1.2.2.2.2.2.2.2.2.1])), (aOr, .inl (K.2 0, 12, .inl v1.2.2.2.2.2.2.2.2.2.1)), (aOx, .inl (K.2 0, 13, .inl v1.2.2.2.2.2.2.2.2.2.2))] 8 48
      refine z_astore_n (lv' := [(2, .ref q4), (0, .ref aH), (1, .ref aU)]) hG dL_ring_11 (by decide) rfl ?_
      refine z_iconst 1 hG dL_ring_12 (by decide) ?_
      obtain rfl := Option.some.inj hres
      exact (hR _ rfl _ _ dL_ring_13)
    replace hres := z_ifn c hres
    cases hres

theorem dL_ringAt_0 : decode cL_ringAt 0 = .ok (.aload_n 2, 1) := by decide +kernel
theorem dL_ringAt_1 : decode cL_ringAt 1 = .ok (.iconst 0, 1) := by decide +kernel
theorem dL_ringAt_2 : decode cL_ringAt 2 = .ok (.aload_n 0, 1) := by decide +kernel
theorem dL_ringAt_3 : decode cL_ringAt 3 = .ok (.iload_n 1, 1) := by decide +kernel
theorem dL_ringAt_4 : decode cL_ringAt 4 = .ok (.invokevirtual 85, 3) := by decide +kernel
theorem dL_ringAt_7 : decode cL_ringAt 7 = .ok (.i2l, 1) := by decide +kernel
theorem dL_ringAt_8 : decode cL_ringAt 8 = .ok (.lastore, 1) := by decide +kernel
theorem dL_ringAt_9 : decode cL_ringAt 9 = .ok (.goto 9, 3) := by decide +kernel
theorem dL_ringAt_12 : decode cL_ringAt 12 = .ok (.astore_n 3, 1) := by decide +kernel
theorem dL_ringAt_13 : decode cL_ringAt 13 = .ok (.iconst 1, 1) := by decide +kernel
theorem dL_ringAt_14 : decode cL_ringAt 14 = .ok (.ireturn, 1) := by decide +kernel
theorem dL_ringAt_15 : decode cL_ringAt 15 = .ok (.astore_n 3, 1) := by decide +kernel
theorem dL_ringAt_16 : decode cL_ringAt 16 = .ok (.iconst 2, 1) := by decide +kernel
theorem dL_ringAt_17 : decode cL_ringAt 17 = .ok (.ireturn, 1) := by decide +kernel
theorem dL_ringAt_18 : decode cL_ringAt 18 = .ok (.iconst 0, 1) := by decide +kernel
theorem dL_ringAt_19 : decode cL_ringAt 19 = .ok (.ireturn, 1) := by decide +kernel
set_option maxRecDepth 20000 in
theorem ggL_ringAt_X5_ringAt : GoodIn wsL_ringAt wsX5_ringAt := goodIn_ca (goodIn_ca (goodIn_r _ [7, 8, 9, 10, 11, 12, 13, 14, 15, 16, 17, 6, 18, 19, 20, 21, 22, 23, 24, 25, 26, 27, 28, 29, 30, 31, 32, 33, 34, 35, 36, 37, 38, 39, 40, 41, 42, 43, 44, 45, 46, 47, 48, 49, 50, 51, 52, 53, 54, 55, 56, 57, 58, 59, 60, 61, 62, 63, 64, 65, 66, 67, 68, 69, 70, 71, 72, 73, 74, 75, 76, 77, 78, 79, 80, 81, 82, 83, 84, 85, 86, 87, 88, 89, 90, 91, 92, 93, 94, 95, 96, 97, 98, 99, 100, 101, 102, 103, 104, 105, 106, 107, 108, 109] (by decide +kernel) (by decide +kernel)) (goodIn_sub (fun _ h => List.mem_cons_of_mem _ (List.mem_append_left _ (List.mem_append_right _ h))) (by decide +kernel))) (goodIn_sub (fun _ h => List.mem_cons_of_mem _ (List.mem_append_right _ h)) (by decide +kernel))
set_option maxRecDepth 20000 in
theorem gL_ringAt_X5_ringAt : GoodIn wsL_ringAt (wsV RL 85 RX5 yX5_ringAt wsX5_ringAt) := goodIn_app (goodIn_of _ (by decide +kernel)) ggL_ringAt_X5_ringAt
theorem mL_ringAt_0 : Cond.classLink RL 67 "java/lang/UnsupportedOperationException" ∈ wsL_ringAt := by decide +kernel
theorem mL_ringAt_1 : Cond.classLink RL 36 "java/lang/IndexOutOfBoundsException" ∈ wsL_ringAt := by decide +kernel
def fL_ringAt (uU : (Nat → Int64)) (nS : Int32) (nK : (Nat → Int32)) (nN : (Nat → Int32)) (wM : Int32) (wL : (Nat → Int32)) (wC : (Nat → Int32)) (wQ : (Nat → Int32)) (cT : (Nat → Int32)) (oS : Int32) (oR : (Nat → Int32)) (oX : (Nat → Int32)) (p0 : Int32) : Option (Int32 × (Nat → Int64) × Int32 × (Nat → Int32) × (Nat → Int32) × (Nat → Int32) × Int32 × Int32 × (Nat → Int32) × Int32 × (Nat → Int32) × (Nat → Int32)) := (fX5_ringAt nS nK nN wM wL wC wQ cT oS oR oX p0).bind fun v1 => Sum.elim (fun x2 : String => if x2 = "java/lang/UnsupportedOperationException" then some (1, uU, v1.2.1, v1.2.2.1, v1.2.2.2.1, v1.2.2.2.2.1, v1.2.2.2.2.2.1, v1.2.2.2.2.2.2.1, v1.2.2.2.2.2.2.2.1, v1.2.2.2.2.2.2.2.2.1, v1.2.2.2.2.2.2.2.2.2.1, v1.2.2.2.2.2.2.2.2.2.2) else if x2 = "java/lang/IndexOutOfBoundsException" then some (2, uU, v1.2.1, v1.2.2.1, v1.2.2.2.1, v1.2.2.2.2.1, v1.2.2.2.2.2.1, v1.2.2.2.2.2.2.1, v1.2.2.2.2.2.2.2.1, v1.2.2.2.2.2.2.2.2.1, v1.2.2.2.2.2.2.2.2.2.1, v1.2.2.2.2.2.2.2.2.2.2) else none) (fun r3 : Int32 => some (0, (vp_updL uU (0 : Int32).toNatClampNeg r3.toInt64), v1.2.1, v1.2.2.1, v1.2.2.2.1, v1.2.2.2.2.1, v1.2.2.2.2.2.1, v1.2.2.2.2.2.2.1, v1.2.2.2.2.2.2.2.1, v1.2.2.2.2.2.2.2.2.1, v1.2.2.2.2.2.2.2.2.2.1, v1.2.2.2.2.2.2.2.2.2.2)) v1.1
set_option maxRecDepth 100000 in
set_option maxHeartbeats 4000000 in
theorem kL_ringAt (l : Launch) (K : zK) (aU : Nat) (aH : Nat) (aN : Nat) (aNk : Nat) (aNn : Nat) (aA : Nat) (aAl : Nat) (aAc : Nat) (aAq : Nat) (aC : Nat) (aCt : Nat) (aO : Nat) (aOr : Nat) (aOx : Nat) (aF : Nat) (aX : Nat)  (uU : (Nat → Int64)) (gB : Int32) (gK : Int32) (nS : Int32) (nK : (Nat → Int32)) (nN : (Nat → Int32)) (wM : Int32) (wL : (Nat → Int32)) (wC : (Nat → Int32)) (wQ : (Nat → Int32)) (cP : Int32) (cW : Int32) (cT : (Nat → Int32)) (oS : Int32) (oR : (Nat → Int32)) (oX : (Nat → Int32)) (p0 : Int32) (r : Int32 × (Nat → Int64) × Int32 × (Nat → Int32) × (Nat → Int32) × (Nat → Int32) × Int32 × Int32 × (Nat → Int32) × Int32 × (Nat → Int32) × (Nat → Int32)) (hres : fL_ringAt uU nS nK nN wM wL wC wQ cT oS oR oX p0 = some r) : zX l K yL_ringAt wsL_ringAt ({ frames := 8, cells := 8, slots := 48, locals := 153 }) [.ref aH, .int p0, .ref aU] [(aU, .inl (K.2 4, 1, .inr (.inl uU))), (aH, .inr (5, [.ref aN, .ref aF, .ref aA, .ref aC, .ref aO, .ref aX, .int gB, .int gK])), (aN, .inr (3, [.ref aNk, .ref aNn, .int nS])), (aNk, .inl (K.2 0, 12, .inl nK)), (aNn, .inl (K.2 0, 12, .inl nN)), (aA, .inr (2, [.ref aAl, .ref aAc, .ref aAq, .int wM])), (aAl, .inl (K.2 0, 12, .inl wL)), (aAc, .inl (K.2 0, 12, .inl wC)), (aAq, .inl (K.2 0, 12, .inl wQ)), (aC, .inr (1, [.ref aCt, .int cP, .int cW])), (aCt, .inl (K.2 0, 12, .inl cT)), (aO, .inr (4, [.ref aOr, .ref aOx, .int oS])), (aOr, .inl (K.2 0, 12, .inl oR)), (aOx, .inl (K.2 0, 13, .inl oX))] (.inr (some (.int r.1))) [(aU, .inl (K.2 4, 1, .inr (.inl r.2.1))), (aH, .inr (5, [.ref aN, .ref aF, .ref aA, .ref aC, .ref aO, .ref aX, .int gB, .int gK])), (aN, .inr (3, [.ref aNk, .ref aNn, .int nS])), (aNk, .inl (K.2 0, 12, .inl nK)), (aNn, .inl (K.2 0, 12, .inl nN)), (aA, .inr (2, [.ref aAl, .ref aAc, .ref aAq, .int r.2.2.1])), (aAl, .inl (K.2 0, 12, .inl r.2.2.2.1)), (aAc, .inl (K.2 0, 12, .inl r.2.2.2.2.1)), (aAq, .inl (K.2 0, 12, .inl r.2.2.2.2.2.1)), (aC, .inr (1, [.ref aCt, .int r.2.2.2.2.2.2.1, .int r.2.2.2.2.2.2.2.1])), (aCt, .inl (K.2 0, 12, .inl r.2.2.2.2.2.2.2.2.1)), (aO, .inr (4, [.ref aOr, .ref aOx, .int r.2.2.2.2.2.2.2.2.2.1])), (aOr, .inl (K.2 0, 12, .inl r.2.2.2.2.2.2.2.2.2.2.1)), (aOx, .inl (K.2 0, 13, .inl r.2.2.2.2.2.2.2.2.2.2.2))] 8 48 := by
  refine zX.intH (cc := cL_ringAt) (maxL := 4) (ret := (some .int)) (hh := [(0, 9, 12, 67), (0, 9, 15, 36)]) rfl (by decide) (Nat.le_of_ble_eq_true rfl) rfl ?_
  intro G hGl hG hV hT hR
  unfold fL_ringAt at hres
  show zj G 0 [(0, .ref aH), (1, .int p0), (2, .ref aU)] [] [(aU, .inl (K.2 4, 1, .inr (.inl uU))), (aH, .inr (5, [.ref aN, .ref aF, .ref aA, .ref aC, .ref aO, .ref aX, .int gB, .int gK])), (aN, .inr (3, [.ref aNk, .ref aNn, .int nS])), (aNk, .inl (K.2 0, 12, .inl nK)), (aNn, .inl (K.2 0, 12, .inl nN)), (aA, .inr (2, [.ref aAl, .ref aAc, .ref aAq, .int wM])), (aAl, .inl (K.2 0, 12, .inl wL)), (aAc, .inl (K.2 0, 12, .inl wC)), (aAq, .inl (K.2 0, 12, .inl wQ)), (aC, .inr (1, [.ref aCt, .int cP, .int cW])), (aCt, .inl (K.2 0, 12, .inl cT)), (aO, .inr (4, [.ref aOr, .ref aOx, .int oS])), (aOr, .inl (K.2 0, 12, .inl oR)), (aOx, .inl (K.2 0, 13, .inl oX))] 0 0
  refine z_aload_n hG dL_ringAt_0 2 rfl ?_
  refine z_iconst 0 hG dL_ringAt_1 (by decide) ?_
  refine z_aload_n hG dL_ringAt_2 0 rfl ?_
  refine z_iload_n hG dL_ringAt_3 1 rfl ?_
  obtain ⟨v1, hv, hres⟩ := z_bind hres
  refine z_callX (As := [.int p0]) (rest := [.int 0, .ref aU]) (wr := [(aU, .inl (K.2 4, 1, .inr (.inl uU)))]) (ws' := [(aU, .inl (K.2 4, 1, .inr (.inl uU))), (aH, .inr (5, [.ref aN, .ref aF, .ref aA, .ref aC, .ref aO, .ref aX, .int gB, .int gK])), (aN, .inr (3, [.ref aNk, .ref aNn, .int nS])), (aNk, .inl (K.2 0, 12, .inl nK)), (aNn, .inl (K.2 0, 12, .inl nN)), (aA, .inr (2, [.ref aAl, .ref aAc, .ref aAq, .int v1.2.1])), (aAl, .inl (K.2 0, 12, .inl v1.2.2.1)), (aAc, .inl (K.2 0, 12, .inl v1.2.2.2.1)), (aAq, .inl (K.2 0, 12, .inl v1.2.2.2.2.1)), (aC, .inr (1, [.ref aCt, .int v1.2.2.2.2.2.1, .int v1.2.2.2.2.2.2.1])), (aCt, .inl (K.2 0, 12, .inl v1.2.2.2.2.2.2.2.1)), (aO, .inr (4, [.ref aOr, .ref aOx, .int v1.2.2.2.2.2.2.2.2.1])), (aOr, .inl (K.2 0, 12, .inl v1.2.2.2.2.2.2.2.2.2.1)), (aOx, .inl (K.2 0, 13, .inl v1.2.2.2.2.2.2.2.2.2.2))]) (kc' := 8) (ks' := 48) (n := 1) (C := RX5) (ci := 5) hG hV dL_ringAt_4 (kX5_ringAt _ K aH aN aNk aNn aA aAl aAc aAq aC aCt aO aOr aOx aF aX gB gK nS nK nN wM wL wC wQ cP cW cT oS oR oX p0 v1 hv) gL_ringAt_X5_ringAt rfl rfl rfl ⟨rfl, by decide, by decide, rfl⟩ ⟨by decide, by decide⟩ (Nat.le_of_ble_eq_true rfl) ⟨(Nat.le_of_ble_eq_true rfl), (Nat.le_of_ble_eq_true rfl)⟩ [1, 2, 3, 4, 5, 6, 7, 8, 9, 10, 11, 12, 13] [0] [0, 1, 2, 3, 4, 5, 6, 7, 8, 9, 10, 11, 12, 13] rfl rfl rfl rfl (by decide) rfl rfl rfl rfl rfl 0 rfl rfl rfl rfl (fun o9 ho => ?_) (fun E9 ho => ?_)
  · rcases hv1 : v1.1 with x2 | r3
    · rw [hv1] at ho
      cases ho
    rw [hv1] at ho
    obtain rfl := Sum.inr.inj ho
    replace hres := z_elimR hv1 hres
    show zj G 7 [(0, .ref aH), (1, .int p0), (2, .ref aU)] [.int r3, .int 0, .ref aU] [(aU, .inl (K.2 4, 1, .inr (.inl uU))), (aH, .inr (5, [.ref aN, .ref aF, .ref aA, .ref aC, .ref aO, .ref aX, .int gB, .int gK])), (aN, .inr (3, [.ref aNk, .ref aNn, .int nS])), (aNk, .inl (K.2 0, 12, .inl nK)), (aNn, .inl (K.2 0, 12, .inl nN)), (aA, .inr (2, [.ref aAl, .ref aAc, .ref aAq, .int v1.2.1])), (aAl, .inl (K.2 0, 12, .inl v1.2.2.1)), (aAc, .inl (K.2 0, 12, .inl v1.2.2.2.1)), (aAq, .inl (K.2 0, 12, .inl v1.2.2.2.2.1)), (aC, .inr (1, [.ref aCt, .int v1.2.2.2.2.2.1, .int v1.2.2.2.2.2.2.1])), (aCt, .inl (K.2 0, 12, .inl v1.2.2.2.2.2.2.2.1)), (aO, .inr (4, [.ref aOr, .ref aOx, .int v1.2.2.2.2.2.2.2.2.1])), (aOr, .inl (K.2 0, 12, .inl v1.2.2.2.2.2.2.2.2.2.1)), (aOx, .inl (K.2 0, 13, .inl v1.2.2.2.2.2.2.2.2.2.2))] 8 48
    refine z_i2l hG dL_ringAt_7 ?_
    refine z_last (ws' := [(aU, .inl (K.2 4, 1, .inr (.inl (vp_updL uU (0 : Int32).toNatClampNeg r3.toInt64)))), (aH, .inr (5, [.ref aN, .ref aF, .ref aA, .ref aC, .ref aO, .ref aX, .int gB, .int gK])), (aN, .inr (3, [.ref aNk, .ref aNn, .int nS])), (aNk, .inl (K.2 0, 12, .inl nK)), (aNn, .inl (K.2 0, 12, .inl nN)), (aA, .inr (2, [.ref aAl, .ref aAc, .ref aAq, .int v1.2.1])), (aAl, .inl (K.2 0, 12, .inl v1.2.2.1)), (aAc, .inl (K.2 0, 12, .inl v1.2.2.2.1)), (aAq, .inl (K.2 0, 12, .inl v1.2.2.2.2.1)), (aC, .inr (1, [.ref aCt, .int v1.2.2.2.2.2.1, .int v1.2.2.2.2.2.2.1])), (aCt, .inl (K.2 0, 12, .inl v1.2.2.2.2.2.2.2.1)), (aO, .inr (4, [.ref aOr, .ref aOx, .int v1.2.2.2.2.2.2.2.2.1])), (aOr, .inl (K.2 0, 12, .inl v1.2.2.2.2.2.2.2.2.2.1)), (aOx, .inl (K.2 0, 13, .inl v1.2.2.2.2.2.2.2.2.2.2))]) hG dL_ringAt_8 0 rfl (by decide) rfl ?_
    refine z_goto 18 hG dL_ringAt_9 (by decide) ?_
    refine z_iconst 0 hG dL_ringAt_18 (by decide) ?_
    obtain rfl := Option.some.inj hres
    exact (hR _ rfl _ _ dL_ringAt_19)
  · rcases hv1 : v1.1 with x2 | r3
    rotate_left
    · rw [hv1] at ho
      cases ho
    rw [hv1] at ho
    obtain rfl := Sum.inl.inj ho
    replace hres := z_elimL hv1 hres
    by_cases c : x2 = "java/lang/UnsupportedOperationException"
    · replace hres := z_ifp c hres
      subst c
      refine z_catch (h1 := []) (a := 0) (b := 9) (hd := 12) (ct := 67) (h2 := [(0, 9, 15, 36)]) hG hV hT (fun _ h => absurd h List.not_mem_nil) (by decide) (by decide) (by decide) mL_ringAt_0 (by decide) (fun q4 => ?_)
      show zj G 12 [(0, .ref aH), (1, .int p0), (2, .ref aU)] [.ref q4] [(aU, .inl (K.2 4, 1, .inr (.inl uU))), (aH, .inr (5, [.ref aN, .ref aF, .ref aA, .ref aC, .ref aO, .ref aX, .int gB, .int gK])), (aN, .inr (3, [.ref aNk, .ref aNn, .int nS])), (aNk, .inl (K.2 0, 12, .inl nK)), (aNn, .inl (K.2 0, 12, .inl nN)), (aA, .inr (2, [.ref aAl, .ref aAc, .ref aAq, .int v1.2.1])), (aAl, .inl (K.2 0, 12, .inl v1.2.2.1)), (aAc, .inl (K.2 0, 12, .inl v1.2.2.2.1)), (aAq, .inl (K.2 0, 12, .inl v1.2.2.2.2.1)), (aC, .inr (1, [.ref aCt, .int v1.2.2.2.2.2.1, .int v1.2.2.2.2.2.2.1])), (aCt, .inl (K.2 0, 12, .inl v1.2.2.2.2.2.2.2.1)), (aO, .inr (4, [.ref aOr, .ref aOx, .int v1.2.2.2.2.2.2.2.2.1])), (aOr, .inl (K.2 0, 12, .inl v1.2.2.2.2.2.2.2.2.2.1)), (aOx, .inl (K.2 0, 13, .inl v1.2.2.2.2.2.2.2.2.2.2))] 8 48
      refine z_astore_n (lv' := [(3, .ref q4), (0, .ref aH), (1, .int p0), (2, .ref aU)]) hG dL_ringAt_12 (by decide) rfl ?_
      refine z_iconst 1 hG dL_ringAt_13 (by decide) ?_
      obtain rfl := Option.some.inj hres
      exact (hR _ rfl _ _ dL_ringAt_14)
    replace hres := z_ifn c hres
    by_cases c : x2 = "java/lang/IndexOutOfBoundsException"
    · replace hres := z_ifp c hres
      subst c
      refine z_catch (h1 := [(0, 9, 12, 67)]) (a := 0) (b := 9) (hd := 15) (ct := 36) (h2 := []) hG hV hT (List.forall_mem_cons.mpr ⟨⟨by decide, _, mL_ringAt_0, by decide, by decide⟩, (fun _ h => absurd h List.not_mem_nil)⟩) (by decide) (by decide) (by decide) mL_ringAt_1 (by decide) (fun q5 => ?_)
      show zj G 15 [(0, .ref aH), (1, .int p0), (2, .ref aU)] [.ref q5] [(aU, .inl (K.2 4, 1, .inr (.inl uU))), (aH, .inr (5, [.ref aN, .ref aF, .ref aA, .ref aC, .ref aO, .ref aX, .int gB, .int gK])), (aN, .inr (3, [.ref aNk, .ref aNn, .int nS])), (aNk, .inl (K.2 0, 12, .inl nK)), (aNn, .inl (K.2 0, 12, .inl nN)), (aA, .inr (2, [.ref aAl, .ref aAc, .ref aAq, .int v1.2.1])), (aAl, .inl (K.2 0, 12, .inl v1.2.2.1)), (aAc, .inl (K.2 0, 12, .inl v1.2.2.2.1)), (aAq, .inl (K.2 0, 12, .inl v1.2.2.2.2.1)), (aC, .inr (1, [.ref aCt, .int v1.2.2.2.2.2.1, .int v1.2.2.2.2.2.2.1])), (aCt, .inl (K.2 0, 12, .inl v1.2.2.2.2.2.2.2.1)), (aO, .inr (4, [.ref aOr, .ref aOx, .int v1.2.2.2.2.2.2.2.2.1])), (aOr, .inl (K.2 0, 12, .inl v1.2.2.2.2.2.2.2.2.2.1)), (aOx, .inl (K.2 0, 13, .inl v1.2.2.2.2.2.2.2.2.2.2))] 8 48
      refine z_astore_n (lv' := [(3, .ref q5), (0, .ref aH), (1, .int p0), (2, .ref aU)]) hG dL_ringAt_15 (by decide) rfl ?_
      refine z_iconst 2 hG dL_ringAt_16 (by decide) ?_
      obtain rfl := Option.some.inj hres
      exact (hR _ rfl _ _ dL_ringAt_17)
    replace hres := z_ifn c hres
    cases hres

theorem dL_changedAt_0 : decode cL_changedAt 0 = .ok (.aload_n 2, 1) := by decide +kernel
theorem dL_changedAt_1 : decode cL_changedAt 1 = .ok (.iconst 0, 1) := by decide +kernel
theorem dL_changedAt_2 : decode cL_changedAt 2 = .ok (.aload_n 0, 1) := by decide +kernel
theorem dL_changedAt_3 : decode cL_changedAt 3 = .ok (.iload_n 1, 1) := by decide +kernel
theorem dL_changedAt_4 : decode cL_changedAt 4 = .ok (.invokevirtual 88, 3) := by decide +kernel
theorem dL_changedAt_7 : decode cL_changedAt 7 = .ok (.i2l, 1) := by decide +kernel
theorem dL_changedAt_8 : decode cL_changedAt 8 = .ok (.lastore, 1) := by decide +kernel
theorem dL_changedAt_9 : decode cL_changedAt 9 = .ok (.goto 6, 3) := by decide +kernel
theorem dL_changedAt_12 : decode cL_changedAt 12 = .ok (.astore_n 3, 1) := by decide +kernel
theorem dL_changedAt_13 : decode cL_changedAt 13 = .ok (.iconst 1, 1) := by decide +kernel
theorem dL_changedAt_14 : decode cL_changedAt 14 = .ok (.ireturn, 1) := by decide +kernel
theorem dL_changedAt_15 : decode cL_changedAt 15 = .ok (.iconst 0, 1) := by decide +kernel
theorem dL_changedAt_16 : decode cL_changedAt 16 = .ok (.ireturn, 1) := by decide +kernel
set_option maxRecDepth 20000 in
theorem ggL_changedAt_X5_changedAt : GoodIn wsL_changedAt wsX5_changedAt := goodIn_ca (goodIn_r _ [6, 7, 8, 9, 10, 11, 12, 13, 14, 15, 16, 17, 18, 19, 20, 21, 22, 23] (by decide +kernel) (by decide +kernel)) (goodIn_sub (fun _ h => List.mem_cons_of_mem _ (List.mem_append_right _ h)) (by decide +kernel))
set_option maxRecDepth 20000 in
theorem gL_changedAt_X5_changedAt : GoodIn wsL_changedAt (wsV RL 88 RX5 yX5_changedAt wsX5_changedAt) := goodIn_app (goodIn_of _ (by decide +kernel)) ggL_changedAt_X5_changedAt
theorem mL_changedAt_0 : Cond.classLink RL 36 "java/lang/IndexOutOfBoundsException" ∈ wsL_changedAt := by decide +kernel
def fL_changedAt (uU : (Nat → Int64)) (xS : Int32) (xK : (Nat → Int32)) (p0 : Int32) : Option (Int32 × (Nat → Int64)) := (fX5_changedAt xS xK p0).bind fun v1 => Sum.elim (fun x2 : String => if x2 = "java/lang/IndexOutOfBoundsException" then some (1, uU) else none) (fun r3 : Int32 => some (0, (vp_updL uU (0 : Int32).toNatClampNeg r3.toInt64))) v1
set_option maxRecDepth 100000 in
set_option maxHeartbeats 4000000 in
theorem kL_changedAt (l : Launch) (K : zK) (aU : Nat) (aH : Nat) (aX : Nat) (aXb : Nat) (aXk : Nat) (aXw : Nat) (aN : Nat) (aF : Nat) (aA : Nat) (aC : Nat) (aO : Nat)  (uU : (Nat → Int64)) (gB : Int32) (gK : Int32) (xS : Int32) (xB : (Nat → Int32)) (xK : (Nat → Int32)) (xW : (Nat → Int32)) (p0 : Int32) (r : Int32 × (Nat → Int64)) (hres : fL_changedAt uU xS xK p0 = some r) : zX l K yL_changedAt wsL_changedAt ({ frames := 7, cells := 8, slots := 48, locals := 103 }) [.ref aH, .int p0, .ref aU] [(aU, .inl (K.2 4, 1, .inr (.inl uU))), (aH, .inr (5, [.ref aN, .ref aF, .ref aA, .ref aC, .ref aO, .ref aX, .int gB, .int gK])), (aX, .inr (0, [.ref aXb, .ref aXk, .ref aXw, .int xS])), (aXb, .inl (K.2 0, 12, .inl xB)), (aXk, .inl (K.2 0, 12, .inl xK)), (aXw, .inl (K.2 0, 12, .inl xW))] (.inr (some (.int r.1))) [(aU, .inl (K.2 4, 1, .inr (.inl r.2))), (aH, .inr (5, [.ref aN, .ref aF, .ref aA, .ref aC, .ref aO, .ref aX, .int gB, .int gK])), (aX, .inr (0, [.ref aXb, .ref aXk, .ref aXw, .int xS])), (aXb, .inl (K.2 0, 12, .inl xB)), (aXk, .inl (K.2 0, 12, .inl xK)), (aXw, .inl (K.2 0, 12, .inl xW))] 8 48 := by
  refine zX.intH (cc := cL_changedAt) (maxL := 4) (ret := (some .int)) (hh := [(0, 9, 12, 36)]) rfl (by decide) (Nat.le_of_ble_eq_true rfl) rfl ?_
  intro G hGl hG hV hT hR
  unfold fL_changedAt at hres
  show zj G 0 [(0, .ref aH), (1, .int p0), (2, .ref aU)] [] [(aU, .inl (K.2 4, 1, .inr (.inl uU))), (aH, .inr (5, [.ref aN, .ref aF, .ref aA, .ref aC, .ref aO, .ref aX, .int gB, .int gK])), (aX, .inr (0, [.ref aXb, .ref aXk, .ref aXw, .int xS])), (aXb, .inl (K.2 0, 12, .inl xB)), (aXk, .inl (K.2 0, 12, .inl xK)), (aXw, .inl (K.2 0, 12, .inl xW))] 0 0
  refine z_aload_n hG dL_changedAt_0 2 rfl ?_
  refine z_iconst 0 hG dL_changedAt_1 (by decide) ?_
  refine z_aload_n hG dL_changedAt_2 0 rfl ?_
  refine z_iload_n hG dL_changedAt_3 1 rfl ?_
  obtain ⟨v1, hv, hres⟩ := z_bind hres
  refine z_callX (As := [.int p0]) (rest := [.int 0, .ref aU]) (wr := [(aU, .inl (K.2 4, 1, .inr (.inl uU)))]) (ws' := [(aU, .inl (K.2 4, 1, .inr (.inl uU))), (aH, .inr (5, [.ref aN, .ref aF, .ref aA, .ref aC, .ref aO, .ref aX, .int gB, .int gK])), (aX, .inr (0, [.ref aXb, .ref aXk, .ref aXw, .int xS])), (aXb, .inl (K.2 0, 12, .inl xB)), (aXk, .inl (K.2 0, 12, .inl xK)), (aXw, .inl (K.2 0, 12, .inl xW))]) (kc' := 8) (ks' := 48) (n := 1) (C := RX5) (ci := 5) hG hV dL_changedAt_4 (kX5_changedAt _ K aH aX aXb aXk aXw aN aF aA aC aO gB gK xS xB xK xW p0 v1 hv) gL_changedAt_X5_changedAt rfl rfl rfl ⟨rfl, by decide, by decide, rfl⟩ ⟨by decide, by decide⟩ (Nat.le_of_ble_eq_true rfl) ⟨(Nat.le_of_ble_eq_true rfl), (Nat.le_of_ble_eq_true rfl)⟩ [1, 2, 3, 4, 5] [0] [0, 1, 2, 3, 4, 5] rfl rfl rfl rfl (by decide) rfl rfl rfl rfl rfl 0 rfl rfl rfl rfl (fun o9 ho => ?_) (fun E9 ho => ?_)
  · rcases hv1 : v1 with x2 | r3
    · rw [hv1] at ho
      cases ho
    rw [hv1] at ho
    obtain rfl := Sum.inr.inj ho
    replace hres := z_elimR hv1 hres
    show zj G 7 [(0, .ref aH), (1, .int p0), (2, .ref aU)] [.int r3, .int 0, .ref aU] [(aU, .inl (K.2 4, 1, .inr (.inl uU))), (aH, .inr (5, [.ref aN, .ref aF, .ref aA, .ref aC, .ref aO, .ref aX, .int gB, .int gK])), (aX, .inr (0, [.ref aXb, .ref aXk, .ref aXw, .int xS])), (aXb, .inl (K.2 0, 12, .inl xB)), (aXk, .inl (K.2 0, 12, .inl xK)), (aXw, .inl (K.2 0, 12, .inl xW))] 8 48
    refine z_i2l hG dL_changedAt_7 ?_
    refine z_last (ws' := [(aU, .inl (K.2 4, 1, .inr (.inl (vp_updL uU (0 : Int32).toNatClampNeg r3.toInt64)))), (aH, .inr (5, [.ref aN, .ref aF, .ref aA, .ref aC, .ref aO, .ref aX, .int gB, .int gK])), (aX, .inr (0, [.ref aXb, .ref aXk, .ref aXw, .int xS])), (aXb, .inl (K.2 0, 12, .inl xB)), (aXk, .inl (K.2 0, 12, .inl xK)), (aXw, .inl (K.2 0, 12, .inl xW))]) hG dL_changedAt_8 0 rfl (by decide) rfl ?_
    refine z_goto 15 hG dL_changedAt_9 (by decide) ?_
    refine z_iconst 0 hG dL_changedAt_15 (by decide) ?_
    obtain rfl := Option.some.inj hres
    exact (hR _ rfl _ _ dL_changedAt_16)
  · rcases hv1 : v1 with x2 | r3
    rotate_left
    · rw [hv1] at ho
      cases ho
    rw [hv1] at ho
    obtain rfl := Sum.inl.inj ho
    replace hres := z_elimL hv1 hres
    by_cases c : x2 = "java/lang/IndexOutOfBoundsException"
    · replace hres := z_ifp c hres
      subst c
      refine z_catch (h1 := []) (a := 0) (b := 9) (hd := 12) (ct := 36) (h2 := []) hG hV hT (fun _ h => absurd h List.not_mem_nil) (by decide) (by decide) (by decide) mL_changedAt_0 (by decide) (fun q4 => ?_)
      show zj G 12 [(0, .ref aH), (1, .int p0), (2, .ref aU)] [.ref q4] [(aU, .inl (K.2 4, 1, .inr (.inl uU))), (aH, .inr (5, [.ref aN, .ref aF, .ref aA, .ref aC, .ref aO, .ref aX, .int gB, .int gK])), (aX, .inr (0, [.ref aXb, .ref aXk, .ref aXw, .int xS])), (aXb, .inl (K.2 0, 12, .inl xB)), (aXk, .inl (K.2 0, 12, .inl xK)), (aXw, .inl (K.2 0, 12, .inl xW))] 8 48
      refine z_astore_n (lv' := [(3, .ref q4), (0, .ref aH), (1, .int p0), (2, .ref aU)]) hG dL_changedAt_12 (by decide) rfl ?_
      refine z_iconst 1 hG dL_changedAt_13 (by decide) ?_
      obtain rfl := Option.some.inj hres
      exact (hR _ rfl _ _ dL_changedAt_14)
    replace hres := z_ifn c hres
    cases hres

theorem dL_wasAt_0 : decode cL_wasAt 0 = .ok (.aload_n 2, 1) := by decide +kernel
theorem dL_wasAt_1 : decode cL_wasAt 1 = .ok (.iconst 0, 1) := by decide +kernel
theorem dL_wasAt_2 : decode cL_wasAt 2 = .ok (.aload_n 0, 1) := by decide +kernel
theorem dL_wasAt_3 : decode cL_wasAt 3 = .ok (.iload_n 1, 1) := by decide +kernel
theorem dL_wasAt_4 : decode cL_wasAt 4 = .ok (.invokevirtual 91, 3) := by decide +kernel
theorem dL_wasAt_7 : decode cL_wasAt 7 = .ok (.i2l, 1) := by decide +kernel
theorem dL_wasAt_8 : decode cL_wasAt 8 = .ok (.lastore, 1) := by decide +kernel
theorem dL_wasAt_9 : decode cL_wasAt 9 = .ok (.goto 6, 3) := by decide +kernel
theorem dL_wasAt_12 : decode cL_wasAt 12 = .ok (.astore_n 3, 1) := by decide +kernel
theorem dL_wasAt_13 : decode cL_wasAt 13 = .ok (.iconst 1, 1) := by decide +kernel
theorem dL_wasAt_14 : decode cL_wasAt 14 = .ok (.ireturn, 1) := by decide +kernel
theorem dL_wasAt_15 : decode cL_wasAt 15 = .ok (.iconst 0, 1) := by decide +kernel
theorem dL_wasAt_16 : decode cL_wasAt 16 = .ok (.ireturn, 1) := by decide +kernel
set_option maxRecDepth 20000 in
theorem ggL_wasAt_X5_wasAt : GoodIn wsL_wasAt wsX5_wasAt := goodIn_ca (goodIn_r _ [6, 7, 8, 9, 10, 11, 12, 13, 14, 15, 16, 17, 18, 19, 20, 21, 22, 23] (by decide +kernel) (by decide +kernel)) (goodIn_sub (fun _ h => List.mem_cons_of_mem _ (List.mem_append_right _ h)) (by decide +kernel))
set_option maxRecDepth 20000 in
theorem gL_wasAt_X5_wasAt : GoodIn wsL_wasAt (wsV RL 91 RX5 yX5_wasAt wsX5_wasAt) := goodIn_app (goodIn_of _ (by decide +kernel)) ggL_wasAt_X5_wasAt
theorem mL_wasAt_0 : Cond.classLink RL 36 "java/lang/IndexOutOfBoundsException" ∈ wsL_wasAt := by decide +kernel
def fL_wasAt (uU : (Nat → Int64)) (xS : Int32) (xW : (Nat → Int32)) (p0 : Int32) : Option (Int32 × (Nat → Int64)) := (fX5_wasAt xS xW p0).bind fun v1 => Sum.elim (fun x2 : String => if x2 = "java/lang/IndexOutOfBoundsException" then some (1, uU) else none) (fun r3 : Int32 => some (0, (vp_updL uU (0 : Int32).toNatClampNeg r3.toInt64))) v1
set_option maxRecDepth 100000 in
set_option maxHeartbeats 4000000 in
theorem kL_wasAt (l : Launch) (K : zK) (aU : Nat) (aH : Nat) (aX : Nat) (aXb : Nat) (aXk : Nat) (aXw : Nat) (aN : Nat) (aF : Nat) (aA : Nat) (aC : Nat) (aO : Nat)  (uU : (Nat → Int64)) (gB : Int32) (gK : Int32) (xS : Int32) (xB : (Nat → Int32)) (xK : (Nat → Int32)) (xW : (Nat → Int32)) (p0 : Int32) (r : Int32 × (Nat → Int64)) (hres : fL_wasAt uU xS xW p0 = some r) : zX l K yL_wasAt wsL_wasAt ({ frames := 7, cells := 8, slots := 48, locals := 103 }) [.ref aH, .int p0, .ref aU] [(aU, .inl (K.2 4, 1, .inr (.inl uU))), (aH, .inr (5, [.ref aN, .ref aF, .ref aA, .ref aC, .ref aO, .ref aX, .int gB, .int gK])), (aX, .inr (0, [.ref aXb, .ref aXk, .ref aXw, .int xS])), (aXb, .inl (K.2 0, 12, .inl xB)), (aXk, .inl (K.2 0, 12, .inl xK)), (aXw, .inl (K.2 0, 12, .inl xW))] (.inr (some (.int r.1))) [(aU, .inl (K.2 4, 1, .inr (.inl r.2))), (aH, .inr (5, [.ref aN, .ref aF, .ref aA, .ref aC, .ref aO, .ref aX, .int gB, .int gK])), (aX, .inr (0, [.ref aXb, .ref aXk, .ref aXw, .int xS])), (aXb, .inl (K.2 0, 12, .inl xB)), (aXk, .inl (K.2 0, 12, .inl xK)), (aXw, .inl (K.2 0, 12, .inl xW))] 8 48 := by
  refine zX.intH (cc := cL_wasAt) (maxL := 4) (ret := (some .int)) (hh := [(0, 9, 12, 36)]) rfl (by decide) (Nat.le_of_ble_eq_true rfl) rfl ?_
  intro G hGl hG hV hT hR
  unfold fL_wasAt at hres
  show zj G 0 [(0, .ref aH), (1, .int p0), (2, .ref aU)] [] [(aU, .inl (K.2 4, 1, .inr (.inl uU))), (aH, .inr (5, [.ref aN, .ref aF, .ref aA, .ref aC, .ref aO, .ref aX, .int gB, .int gK])), (aX, .inr (0, [.ref aXb, .ref aXk, .ref aXw, .int xS])), (aXb, .inl (K.2 0, 12, .inl xB)), (aXk, .inl (K.2 0, 12, .inl xK)), (aXw, .inl (K.2 0, 12, .inl xW))] 0 0
  refine z_aload_n hG dL_wasAt_0 2 rfl ?_
  refine z_iconst 0 hG dL_wasAt_1 (by decide) ?_
  refine z_aload_n hG dL_wasAt_2 0 rfl ?_
  refine z_iload_n hG dL_wasAt_3 1 rfl ?_
  obtain ⟨v1, hv, hres⟩ := z_bind hres
  refine z_callX (As := [.int p0]) (rest := [.int 0, .ref aU]) (wr := [(aU, .inl (K.2 4, 1, .inr (.inl uU)))]) (ws' := [(aU, .inl (K.2 4, 1, .inr (.inl uU))), (aH, .inr (5, [.ref aN, .ref aF, .ref aA, .ref aC, .ref aO, .ref aX, .int gB, .int gK])), (aX, .inr (0, [.ref aXb, .ref aXk, .ref aXw, .int xS])), (aXb, .inl (K.2 0, 12, .inl xB)), (aXk, .inl (K.2 0, 12, .inl xK)), (aXw, .inl (K.2 0, 12, .inl xW))]) (kc' := 8) (ks' := 48) (n := 1) (C := RX5) (ci := 5) hG hV dL_wasAt_4 (kX5_wasAt _ K aH aX aXb aXk aXw aN aF aA aC aO gB gK xS xB xK xW p0 v1 hv) gL_wasAt_X5_wasAt rfl rfl rfl ⟨rfl, by decide, by decide, rfl⟩ ⟨by decide, by decide⟩ (Nat.le_of_ble_eq_true rfl) ⟨(Nat.le_of_ble_eq_true rfl), (Nat.le_of_ble_eq_true rfl)⟩ [1, 2, 3, 4, 5] [0] [0, 1, 2, 3, 4, 5] rfl rfl rfl rfl (by decide) rfl rfl rfl rfl rfl 0 rfl rfl rfl rfl (fun o9 ho => ?_) (fun E9 ho => ?_)
  · rcases hv1 : v1 with x2 | r3
    · rw [hv1] at ho
      cases ho
    rw [hv1] at ho
    obtain rfl := Sum.inr.inj ho
    replace hres := z_elimR hv1 hres
    show zj G 7 [(0, .ref aH), (1, .int p0), (2, .ref aU)] [.int r3, .int 0, .ref aU] [(aU, .inl (K.2 4, 1, .inr (.inl uU))), (aH, .inr (5, [.ref aN, .ref aF, .ref aA, .ref aC, .ref aO, .ref aX, .int gB, .int gK])), (aX, .inr (0, [.ref aXb, .ref aXk, .ref aXw, .int xS])), (aXb, .inl (K.2 0, 12, .inl xB)), (aXk, .inl (K.2 0, 12, .inl xK)), (aXw, .inl (K.2 0, 12, .inl xW))] 8 48
    refine z_i2l hG dL_wasAt_7 ?_
    refine z_last (ws' := [(aU, .inl (K.2 4, 1, .inr (.inl (vp_updL uU (0 : Int32).toNatClampNeg r3.toInt64)))), (aH, .inr (5, [.ref aN, .ref aF, .ref aA, .ref aC, .ref aO, .ref aX, .int gB, .int gK])), (aX, .inr (0, [.ref aXb, .ref aXk, .ref aXw, .int xS])), (aXb, .inl (K.2 0, 12, .inl xB)), (aXk, .inl (K.2 0, 12, .inl xK)), (aXw, .inl (K.2 0, 12, .inl xW))]) hG dL_wasAt_8 0 rfl (by decide) rfl ?_
    refine z_goto 15 hG dL_wasAt_9 (by decide) ?_
    refine z_iconst 0 hG dL_wasAt_15 (by decide) ?_
    obtain rfl := Option.some.inj hres
    exact (hR _ rfl _ _ dL_wasAt_16)
  · rcases hv1 : v1 with x2 | r3
    rotate_left
    · rw [hv1] at ho
      cases ho
    rw [hv1] at ho
    obtain rfl := Sum.inl.inj ho
    replace hres := z_elimL hv1 hres
    by_cases c : x2 = "java/lang/IndexOutOfBoundsException"
    · replace hres := z_ifp c hres
      subst c
      refine z_catch (h1 := []) (a := 0) (b := 9) (hd := 12) (ct := 36) (h2 := []) hG hV hT (fun _ h => absurd h List.not_mem_nil) (by decide) (by decide) (by decide) mL_wasAt_0 (by decide) (fun q4 => ?_)
      show zj G 12 [(0, .ref aH), (1, .int p0), (2, .ref aU)] [.ref q4] [(aU, .inl (K.2 4, 1, .inr (.inl uU))), (aH, .inr (5, [.ref aN, .ref aF, .ref aA, .ref aC, .ref aO, .ref aX, .int gB, .int gK])), (aX, .inr (0, [.ref aXb, .ref aXk, .ref aXw, .int xS])), (aXb, .inl (K.2 0, 12, .inl xB)), (aXk, .inl (K.2 0, 12, .inl xK)), (aXw, .inl (K.2 0, 12, .inl xW))] 8 48
      refine z_astore_n (lv' := [(3, .ref q4), (0, .ref aH), (1, .int p0), (2, .ref aU)]) hG dL_wasAt_12 (by decide) rfl ?_
      refine z_iconst 1 hG dL_wasAt_13 (by decide) ?_
      obtain rfl := Option.some.inj hres
      exact (hR _ rfl _ _ dL_wasAt_14)
    replace hres := z_ifn c hres
    cases hres
