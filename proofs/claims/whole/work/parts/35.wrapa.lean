theorem dL_place_0 : decode cL_place 0 = .ok (.aload_n 2, 1) := by decide +kernel
theorem dL_place_1 : decode cL_place 1 = .ok (.iconst 0, 1) := by decide +kernel
theorem dL_place_2 : decode cL_place 2 = .ok (.aload_n 0, 1) := by decide +kernel
theorem dL_place_3 : decode cL_place 3 = .ok (.iload_n 1, 1) := by decide +kernel
theorem dL_place_4 : decode cL_place 4 = .ok (.invokevirtual 7, 3) := by decide +kernel
theorem dL_place_7 : decode cL_place 7 = .ok (.i2l, 1) := by decide +kernel
theorem dL_place_8 : decode cL_place 8 = .ok (.lastore, 1) := by decide +kernel
theorem dL_place_9 : decode cL_place 9 = .ok (.goto 9, 3) := by decide +kernel
theorem dL_place_12 : decode cL_place 12 = .ok (.astore_n 3, 1) := by decide +kernel
theorem dL_place_13 : decode cL_place 13 = .ok (.iconst 1, 1) := by decide +kernel
theorem dL_place_14 : decode cL_place 14 = .ok (.ireturn, 1) := by decide +kernel
theorem dL_place_15 : decode cL_place 15 = .ok (.astore_n 3, 1) := by decide +kernel
theorem dL_place_16 : decode cL_place 16 = .ok (.iconst 2, 1) := by decide +kernel
theorem dL_place_17 : decode cL_place 17 = .ok (.ireturn, 1) := by decide +kernel
theorem dL_place_18 : decode cL_place 18 = .ok (.iconst 0, 1) := by decide +kernel
theorem dL_place_19 : decode cL_place 19 = .ok (.ireturn, 1) := by decide +kernel
set_option maxRecDepth 20000 in
theorem ggL_place_X5_place : GoodIn wsL_place wsX5_place := goodIn_ca (goodIn_ca (goodIn_r _ [7, 8, 9, 10, 11, 12, 13, 14, 15, 16, 17, 18, 19, 20, 21, 22, 23, 24, 25, 26, 27, 28, 29, 30, 31, 32, 33, 34, 35, 36, 37, 38, 6, 39, 40, 41, 42, 43, 44, 45, 46, 47, 48, 49, 50, 51, 52, 53, 54, 55, 56, 57, 58, 59, 60, 61, 62, 63, 64, 65, 66, 67, 68, 69, 70, 71, 72, 73, 74, 75, 76, 77, 78, 79, 80, 81] (by decide +kernel) (by decide +kernel)) (goodIn_sub (fun _ h => List.mem_cons_of_mem _ (List.mem_append_left _ (List.mem_append_right _ h))) (by decide +kernel))) (goodIn_sub (fun _ h => List.mem_cons_of_mem _ (List.mem_append_right _ h)) (by decide +kernel))
set_option maxRecDepth 20000 in
theorem gL_place_X5_place : GoodIn wsL_place (wsV RL 7 RX5 yX5_place wsX5_place) := goodIn_app (goodIn_of _ (by decide +kernel)) ggL_place_X5_place
theorem mL_place_0 : Cond.classLink RL 13 "java/lang/IllegalArgumentException" ∈ wsL_place := by decide +kernel
theorem mL_place_1 : Cond.classLink RL 15 "java/lang/IllegalStateException" ∈ wsL_place := by decide +kernel
def fL_place (uU : (Nat → Int64)) (gB : Int32) (gK : Int32) (nS : Int32) (nK : (Nat → Int32)) (nN : (Nat → Int32)) (fM : Int32) (fL : (Nat → Int32)) (fC : (Nat → Int32)) (fQ : (Nat → Int32)) (xS : Int32) (p0 : Int32) : Option (Int32 × (Nat → Int64) × Int32 × (Nat → Int32) × (Nat → Int32) × Int32 × (Nat → Int32) × (Nat → Int32) × (Nat → Int32) × Int32) := (fX5_place gB gK nS nK nN fM fL fC fQ xS p0).bind fun v1 => Sum.elim (fun x2 : String => if x2 = "java/lang/IllegalArgumentException" then some (1, uU, v1.2.1, v1.2.2.1, v1.2.2.2.1, v1.2.2.2.2.1, v1.2.2.2.2.2.1, v1.2.2.2.2.2.2.1, v1.2.2.2.2.2.2.2.1, v1.2.2.2.2.2.2.2.2) else if x2 = "java/lang/IllegalStateException" then some (2, uU, v1.2.1, v1.2.2.1, v1.2.2.2.1, v1.2.2.2.2.1, v1.2.2.2.2.2.1, v1.2.2.2.2.2.2.1, v1.2.2.2.2.2.2.2.1, v1.2.2.2.2.2.2.2.2) else none) (fun r3 : Int32 => some (0, (vp_updL uU (0 : Int32).toNatClampNeg r3.toInt64), v1.2.1, v1.2.2.1, v1.2.2.2.1, v1.2.2.2.2.1, v1.2.2.2.2.2.1, v1.2.2.2.2.2.2.1, v1.2.2.2.2.2.2.2.1, v1.2.2.2.2.2.2.2.2)) v1.1
set_option maxRecDepth 100000 in
set_option maxHeartbeats 4000000 in
theorem kL_place (l : Launch) (K : zK) (aU : Nat) (aH : Nat) (aN : Nat) (aNk : Nat) (aNn : Nat) (aF : Nat) (aFl : Nat) (aFc : Nat) (aFq : Nat) (aX : Nat) (aXb : Nat) (aXk : Nat) (aXw : Nat) (aA : Nat) (aC : Nat) (aO : Nat)  (uU : (Nat → Int64)) (gB : Int32) (gK : Int32) (nS : Int32) (nK : (Nat → Int32)) (nN : (Nat → Int32)) (fM : Int32) (fL : (Nat → Int32)) (fC : (Nat → Int32)) (fQ : (Nat → Int32)) (xS : Int32) (xB : (Nat → Int32)) (xK : (Nat → Int32)) (xW : (Nat → Int32)) (p0 : Int32) (r : Int32 × (Nat → Int64) × Int32 × (Nat → Int32) × (Nat → Int32) × Int32 × (Nat → Int32) × (Nat → Int32) × (Nat → Int32) × Int32) (hres : fL_place uU gB gK nS nK nN fM fL fC fQ xS p0 = some r) : zX l K yL_place wsL_place ({ frames := 7, cells := 8, slots := 48, locals := 130 }) [.ref aH, .int p0, .ref aU] [(aU, .inl (K.2 4, 1, .inr (.inl uU))), (aH, .inr (5, [.ref aN, .ref aF, .ref aA, .ref aC, .ref aO, .ref aX, .int gB, .int gK])), (aN, .inr (3, [.ref aNk, .ref aNn, .int nS])), (aNk, .inl (K.2 0, 12, .inl nK)), (aNn, .inl (K.2 0, 12, .inl nN)), (aF, .inr (2, [.ref aFl, .ref aFc, .ref aFq, .int fM])), (aFl, .inl (K.2 0, 12, .inl fL)), (aFc, .inl (K.2 0, 12, .inl fC)), (aFq, .inl (K.2 0, 12, .inl fQ)), (aX, .inr (0, [.ref aXb, .ref aXk, .ref aXw, .int xS])), (aXb, .inl (K.2 0, 12, .inl xB)), (aXk, .inl (K.2 0, 12, .inl xK)), (aXw, .inl (K.2 0, 12, .inl xW))] (.inr (some (.int r.1))) [(aU, .inl (K.2 4, 1, .inr (.inl r.2.1))), (aH, .inr (5, [.ref aN, .ref aF, .ref aA, .ref aC, .ref aO, .ref aX, .int gB, .int gK])), (aN, .inr (3, [.ref aNk, .ref aNn, .int r.2.2.1])), (aNk, .inl (K.2 0, 12, .inl r.2.2.2.1)), (aNn, .inl (K.2 0, 12, .inl r.2.2.2.2.1)), (aF, .inr (2, [.ref aFl, .ref aFc, .ref aFq, .int r.2.2.2.2.2.1])), (aFl, .inl (K.2 0, 12, .inl r.2.2.2.2.2.2.1)), (aFc, .inl (K.2 0, 12, .inl r.2.2.2.2.2.2.2.1)), (aFq, .inl (K.2 0, 12, .inl r.2.2.2.2.2.2.2.2.1)), (aX, .inr (0, [.ref aXb, .ref aXk, .ref aXw, .int r.2.2.2.2.2.2.2.2.2])), (aXb, .inl (K.2 0, 12, .inl xB)), (aXk, .inl (K.2 0, 12, .inl xK)), (aXw, .inl (K.2 0, 12, .inl xW))] 8 48 := by
  refine zX.intH (cc := cL_place) (maxL := 4) (ret := (some .int)) (hh := [(0, 9, 12, 13), (0, 9, 15, 15)]) rfl (by decide) (Nat.le_of_ble_eq_true rfl) rfl ?_
  intro G hGl hG hV hT hR
  unfold fL_place at hres
  show zj G 0 [(0, .ref aH), (1, .int p0), (2, .ref aU)] [] [(aU, .inl (K.2 4, 1, .inr (.inl uU))), (aH, .inr (5, [.ref aN, .ref aF, .ref aA, .ref aC, .ref aO, .ref aX, .int gB, .int gK])), (aN, .inr (3, [.ref aNk, .ref aNn, .int nS])), (aNk, .inl (K.2 0, 12, .inl nK)), (aNn, .inl (K.2 0, 12, .inl nN)), (aF, .inr (2, [.ref aFl, .ref aFc, .ref aFq, .int fM])), (aFl, .inl (K.2 0, 12, .inl fL)), (aFc, .inl (K.2 0, 12, .inl fC)), (aFq, .inl (K.2 0, 12, .inl fQ)), (aX, .inr (0, [.ref aXb, .ref aXk, .ref aXw, .int xS])), (aXb, .inl (K.2 0, 12, .inl xB)), (aXk, .inl (K.2 0, 12, .inl xK)), (aXw, .inl (K.2 0, 12, .inl xW))] 0 0
  refine z_aload_n hG dL_place_0 2 rfl ?_
  refine z_iconst 0 hG dL_place_1 (by decide) ?_
  refine z_aload_n hG dL_place_2 0 rfl ?_
  refine z_iload_n hG dL_place_3 1 rfl ?_
  obtain ⟨v1, hv, hres⟩ := z_bind hres
  refine z_callX (As := [.int p0]) (rest := [.int 0, .ref aU]) (wr := [(aU, .inl (K.2 4, 1, .inr (.inl uU)))]) (ws' := [(aU, .inl (K.2 4, 1, .inr (.inl uU))), (aH, .inr (5, [.ref aN, .ref aF, .ref aA, .ref aC, .ref aO, .ref aX, .int gB, .int gK])), (aN, .inr (3, [.ref aNk, .ref aNn, .int v1.2.1])), (aNk, .inl (K.2 0, 12, .inl v1.2.2.1)), (aNn, .inl (K.2 0, 12, .inl v1.2.2.2.1)), (aF, .inr (2, [.ref aFl, .ref aFc, .ref aFq, .int v1.2.2.2.2.1])), (aFl, .inl (K.2 0, 12, .inl v1.2.2.2.2.2.1)), (aFc, .inl (K.2 0, 12, .inl v1.2.2.2.2.2.2.1)), (aFq, .inl (K.2 0, 12, .inl v1.2.2.2.2.2.2.2.1)), (aX, .inr (0, [.ref aXb, .ref aXk, .ref aXw, .int v1.2.2.2.2.2.2.2.2])), (aXb, .inl (K.2 0, 12, .inl xB)), (aXk, .inl (K.2 0, 12, .inl xK)), (aXw, .inl (K.2 0, 12, .inl xW))]) (kc' := 8) (ks' := 48) (n := 1) (C := RX5) (ci := 5) hG hV dL_place_4 (kX5_place _ K aH aN aNk aNn aF aFl aFc aFq aX aXb aXk aXw aA aC aO gB gK nS nK nN fM fL fC fQ xS xB xK xW p0 v1 hv) gL_place_X5_place rfl rfl rfl ⟨rfl, by decide, by decide, rfl⟩ ⟨by decide, by decide⟩ (Nat.le_of_ble_eq_true rfl) ⟨(Nat.le_of_ble_eq_true rfl), (Nat.le_of_ble_eq_true rfl)⟩ [1, 2, 3, 4, 5, 6, 7, 8, 9, 10, 11, 12] [0] [0, 1, 2, 3, 4, 5, 6, 7, 8, 9, 10, 11, 12] rfl rfl rfl rfl (by decide) rfl rfl rfl rfl rfl 0 rfl rfl rfl rfl (fun o9 ho => ?_) (fun E9 ho => ?_)
  · rcases hv1 : v1.1 with x2 | r3
    · rw [hv1] at ho
      cases ho
    rw [hv1] at ho
    obtain rfl := Sum.inr.inj ho
    replace hres := z_elimR hv1 hres
    show zj G 7 [(0, .ref aH), (1, .int p0), (2, .ref aU)] [.int r3, .int 0, .ref aU] [(aU, .inl (K.2 4, 1, .inr (.inl uU))), (aH, .inr (5, [.ref aN, .ref aF, .ref aA, .ref aC, .ref aO, .ref aX, .int gB, .int gK])), (aN, .inr (3, [.ref aNk, .ref aNn, .int v1.2.1])), (aNk, .inl (K.2 0, 12, .inl v1.2.2.1)), (aNn, .inl (K.2 0, 12, .inl v1.2.2.2.1)), (aF, .inr (2, [.ref aFl, .ref aFc, .ref aFq, .int v1.2.2.2.2.1])), (aFl, .inl (K.2 0, 12, .inl v1.2.2.2.2.2.1)), (aFc, .inl (K.2 0, 12, .inl v1.2.2.2.2.2.2.1)), (aFq, .inl (K.2 0, 12, .inl v1.2.2.2.2.2.2.2.1)), (aX, .inr (0, [.ref aXb, .ref aXk, .ref aXw, .int v1.2.2.2.2.2.2.2.2])), (aXb, .inl (K.2 0, 12, .inl xB)), (aXk, .inl (K.2 0, 12, .inl xK)), (aXw, .inl (K.2 0, 12, .inl xW))] 8 48
    refine z_i2l hG dL_place_7 ?_
    refine z_last (ws' := [(aU, .inl (K.2 4, 1, .inr (.inl (vp_updL uU (0 : Int32).toNatClampNeg r3.toInt64)))), (aH, .inr (5, [.ref aN, .ref aF, .ref aA, .ref aC, .ref aO, .ref aX, .int gB, .int gK])), (aN, .inr (3, [.ref aNk, .ref aNn, .int v1.2.1])), (aNk, .inl (K.2 0, 12, .inl v1.2.2.1)), (aNn, .inl (K.2 0, 12, .inl v1.2.2.2.1)), (aF, .inr (2, [.ref aFl, .ref aFc, .ref aFq, .int v1.2.2.2.2.1])), (aFl, .inl (K.2 0, 12, .inl v1.2.2.2.2.2.1)), (aFc, .inl (K.2 0, 12, .inl v1.2.2.2.2.2.2.1)), (aFq, .inl (K.2 0, 12, .inl v1.2.2.2.2.2.2.2.1)), (aX, .inr (0, [.ref aXb, .ref aXk, .ref aXw, .int v1.2.2.2.2.2.2.2.2])), (aXb, .inl (K.2 0, 12, .inl xB)), (aXk, .inl (K.2 0, 12, .inl xK)), (aXw, .inl (K.2 0, 12, .inl xW))]) hG dL_place_8 0 rfl (by decide) rfl ?_
    refine z_goto 18 hG dL_place_9 (by decide) ?_
    refine z_iconst 0 hG dL_place_18 (by decide) ?_
    obtain rfl := Option.some.inj hres
    exact (hR _ rfl _ _ dL_place_19)
  · rcases hv1 : v1.1 with x2 | r3
    rotate_left
    · rw [hv1] at ho
      cases ho
    rw [hv1] at ho
    obtain rfl := Sum.inl.inj ho
    replace hres := z_elimL hv1 hres
    by_cases c : x2 = "java/lang/IllegalArgumentException"
    · replace hres := z_ifp c hres
      subst c
      refine z_catch (h1 := []) (a := 0) (b := 9) (hd := 12) (ct := 13) (h2 := [(0, 9, 15, 15)]) hG hV hT (fun _ h => absurd h List.not_mem_nil) (by decide) (by decide) (by decide) mL_place_0 (by decide) (fun q4 => ?_)
      show zj G 12 [(0, .ref aH), (1, .int p0), (2, .ref aU)] [.ref q4] [(aU, .inl (K.2 4, 1, .inr (.inl uU))), (aH, .inr (5, [.ref aN, .ref aF, .ref aA, .ref aC, .ref aO, .ref aX, .int gB, .int gK])), (aN, .inr (3, [.ref aNk, .ref aNn, .int v1.2.1])), (aNk, .inl (K.2 0, 12, .inl v1.2.2.1)), (aNn, .inl (K.2 0, 12, .inl v1.2.2.2.1)), (aF, .inr (2, [.ref aFl, .ref aFc, .ref aFq, .int v1.2.2.2.2.1])), (aFl, .inl (K.2 0, 12, .inl v1.2.2.2.2.2.1)), (aFc, .inl (K.2 0, 12, .inl v1.2.2.2.2.2.2.1)), (aFq, .inl (K.2 0, 12, .inl v1.2.2.2.2.2.2.2.1)), (aX, .inr (0, [.ref aXb, .ref aXk, .ref aXw, .int v1.2.2.2.2.2.2.2.2])), (aXb, .inl (K.2 0, 12, .inl xB)), (aXk, .inl (K.2 0, 12, .inl xK)), (aXw, .inl (K.2 0, 12, .inl xW))] 8 48
      refine z_astore_n (lv' := [(3, .ref q4), (0, .ref aH), (1, .int p0), (2, .ref aU)]) hG dL_place_12 (by decide) rfl ?_
      refine z_iconst 1 hG dL_place_13 (by decide) ?_
      obtain rfl := Option.some.inj hres
      exact (hR _ rfl _ _ dL_place_14)
    replace hres := z_ifn c hres
    by_cases c : x2 = "java/lang/IllegalStateException"
    · replace hres := z_ifp c hres
      subst c
      refine z_catch (h1 := [(0, 9, 12, 13)]) (a := 0) (b := 9) (hd := 15) (ct := 15) (h2 := []) hG hV hT (List.forall_mem_cons.mpr ⟨⟨by decide, _, mL_place_0, by decide, by decide⟩, (fun _ h => absurd h List.not_mem_nil)⟩) (by decide) (by decide) (by decide) mL_place_1 (by decide) (fun q5 => ?_)
      show zj G 15 [(0, .ref aH), (1, .int p0), (2, .ref aU)] [.ref q5] [(aU, .inl (K.2 4, 1, .inr (.inl uU))), (aH, .inr (5, [.ref aN, .ref aF, .ref aA, .ref aC, .ref aO, .ref aX, .int gB, .int gK])), (aN, .inr (3, [.ref aNk, .ref aNn, .int v1.2.1])), (aNk, .inl (K.2 0, 12, .inl v1.2.2.1)), (aNn, .inl (K.2 0, 12, .inl v1.2.2.2.1)), (aF, .inr (2, [.ref aFl, .ref aFc, .ref aFq, .int v1.2.2.2.2.1])), (aFl, .inl (K.2 0, 12, .inl v1.2.2.2.2.2.1)), (aFc, .inl (K.2 0, 12, .inl v1.2.2.2.2.2.2.1)), (aFq, .inl (K.2 0, 12, .inl v1.2.2.2.2.2.2.2.1)), (aX, .inr (0, [.ref aXb, .ref aXk, .ref aXw, .int v1.2.2.2.2.2.2.2.2])), (aXb, .inl (K.2 0, 12, .inl xB)), (aXk, .inl (K.2 0, 12, .inl xK)), (aXw, .inl (K.2 0, 12, .inl xW))] 8 48
      refine z_astore_n (lv' := [(3, .ref q5), (0, .ref aH), (1, .int p0), (2, .ref aU)]) hG dL_place_15 (by decide) rfl ?_
      refine z_iconst 2 hG dL_place_16 (by decide) ?_
      obtain rfl := Option.some.inj hres
      exact (hR _ rfl _ _ dL_place_17)
    replace hres := z_ifn c hres
    cases hres

theorem dL_leave_0 : decode cL_leave 0 = .ok (.aload_n 2, 1) := by decide +kernel
theorem dL_leave_1 : decode cL_leave 1 = .ok (.iconst 0, 1) := by decide +kernel
theorem dL_leave_2 : decode cL_leave 2 = .ok (.aload_n 0, 1) := by decide +kernel
theorem dL_leave_3 : decode cL_leave 3 = .ok (.iload_n 1, 1) := by decide +kernel
theorem dL_leave_4 : decode cL_leave 4 = .ok (.invokevirtual 17, 3) := by decide +kernel
theorem dL_leave_7 : decode cL_leave 7 = .ok (.i2l, 1) := by decide +kernel
theorem dL_leave_8 : decode cL_leave 8 = .ok (.lastore, 1) := by decide +kernel
theorem dL_leave_9 : decode cL_leave 9 = .ok (.goto 6, 3) := by decide +kernel
theorem dL_leave_12 : decode cL_leave 12 = .ok (.astore_n 3, 1) := by decide +kernel
theorem dL_leave_13 : decode cL_leave 13 = .ok (.iconst 1, 1) := by decide +kernel
theorem dL_leave_14 : decode cL_leave 14 = .ok (.ireturn, 1) := by decide +kernel
theorem dL_leave_15 : decode cL_leave 15 = .ok (.iconst 0, 1) := by decide +kernel
theorem dL_leave_16 : decode cL_leave 16 = .ok (.ireturn, 1) := by decide +kernel
set_option maxRecDepth 20000 in
theorem ggL_leave_X5_leave : GoodIn wsL_leave wsX5_leave := goodIn_ca (goodIn_r _ [6, 7, 8, 9, 10, 11, 12, 13, 5, 14, 15, 16, 17, 18, 19, 20, 21, 22, 23, 24, 25, 26, 27, 28, 29, 30, 31, 32, 33, 34, 35, 36, 37, 38, 39, 40, 41, 42, 43, 44, 45, 46, 47, 48, 49, 50, 51, 52, 53, 54, 55, 56, 57, 58, 59, 60, 61, 62, 63, 64, 65, 66, 67, 68, 69, 70, 71, 72, 73, 74, 75, 76, 77, 78, 79, 80, 81, 82, 83, 84, 85, 86, 87, 88, 89, 90, 91, 92] (by decide +kernel) (by decide +kernel)) (goodIn_sub (fun _ h => List.mem_cons_of_mem _ (List.mem_append_right _ h)) (by decide +kernel))
set_option maxRecDepth 20000 in
theorem gL_leave_X5_leave : GoodIn wsL_leave (wsV RL 17 RX5 yX5_leave wsX5_leave) := goodIn_app (goodIn_of _ (by decide +kernel)) ggL_leave_X5_leave
theorem mL_leave_0 : Cond.classLink RL 20 "java/util/NoSuchElementException" ∈ wsL_leave := by decide +kernel
def fL_leave (uU : (Nat → Int64)) (gB : Int32) (gK : Int32) (nS : Int32) (nK : (Nat → Int32)) (nN : (Nat → Int32)) (fM : Int32) (fL : (Nat → Int32)) (fC : (Nat → Int32)) (fQ : (Nat → Int32)) (xS : Int32) (p0 : Int32) : Option (Int32 × (Nat → Int64) × Int32 × Int32 × (Nat → Int32) × (Nat → Int32) × Int32 × (Nat → Int32) × (Nat → Int32) × (Nat → Int32) × Int32) := (fX5_leave gB gK nS nK nN fM fL fC fQ xS p0).bind fun v1 => Sum.elim (fun x2 : String => if x2 = "java/util/NoSuchElementException" then some (1, uU, v1.2.1, v1.2.2.1, v1.2.2.2.1, v1.2.2.2.2.1, v1.2.2.2.2.2.1, v1.2.2.2.2.2.2.1, v1.2.2.2.2.2.2.2.1, v1.2.2.2.2.2.2.2.2.1, v1.2.2.2.2.2.2.2.2.2) else none) (fun r3 : Int32 => some (0, (vp_updL uU (0 : Int32).toNatClampNeg r3.toInt64), v1.2.1, v1.2.2.1, v1.2.2.2.1, v1.2.2.2.2.1, v1.2.2.2.2.2.1, v1.2.2.2.2.2.2.1, v1.2.2.2.2.2.2.2.1, v1.2.2.2.2.2.2.2.2.1, v1.2.2.2.2.2.2.2.2.2)) v1.1
set_option maxRecDepth 100000 in
set_option maxHeartbeats 4000000 in
theorem kL_leave (l : Launch) (K : zK) (aU : Nat) (aH : Nat) (aN : Nat) (aNk : Nat) (aNn : Nat) (aF : Nat) (aFl : Nat) (aFc : Nat) (aFq : Nat) (aX : Nat) (aXb : Nat) (aXk : Nat) (aXw : Nat) (aA : Nat) (aC : Nat) (aO : Nat)  (uU : (Nat → Int64)) (gB : Int32) (gK : Int32) (nS : Int32) (nK : (Nat → Int32)) (nN : (Nat → Int32)) (fM : Int32) (fL : (Nat → Int32)) (fC : (Nat → Int32)) (fQ : (Nat → Int32)) (xS : Int32) (xB : (Nat → Int32)) (xK : (Nat → Int32)) (xW : (Nat → Int32)) (p0 : Int32) (r : Int32 × (Nat → Int64) × Int32 × Int32 × (Nat → Int32) × (Nat → Int32) × Int32 × (Nat → Int32) × (Nat → Int32) × (Nat → Int32) × Int32) (hres : fL_leave uU gB gK nS nK nN fM fL fC fQ xS p0 = some r) : zX l K yL_leave wsL_leave ({ frames := 8, cells := 8, slots := 48, locals := 132 }) [.ref aH, .int p0, .ref aU] [(aU, .inl (K.2 4, 1, .inr (.inl uU))), (aH, .inr (5, [.ref aN, .ref aF, .ref aA, .ref aC, .ref aO, .ref aX, .int gB, .int gK])), (aN, .inr (3, [.ref aNk, .ref aNn, .int nS])), (aNk, .inl (K.2 0, 12, .inl nK)), (aNn, .inl (K.2 0, 12, .inl nN)), (aF, .inr (2, [.ref aFl, .ref aFc, .ref aFq, .int fM])), (aFl, .inl (K.2 0, 12, .inl fL)), (aFc, .inl (K.2 0, 12, .inl fC)), (aFq, .inl (K.2 0, 12, .inl fQ)), (aX, .inr (0, [.ref aXb, .ref aXk, .ref aXw, .int xS])), (aXb, .inl (K.2 0, 12, .inl xB)), (aXk, .inl (K.2 0, 12, .inl xK)), (aXw, .inl (K.2 0, 12, .inl xW))] (.inr (some (.int r.1))) [(aU, .inl (K.2 4, 1, .inr (.inl r.2.1))), (aH, .inr (5, [.ref aN, .ref aF, .ref aA, .ref aC, .ref aO, .ref aX, .int r.2.2.1, .int gK])), (aN, .inr (3, [.ref aNk, .ref aNn, .int r.2.2.2.1])), (aNk, .inl (K.2 0, 12, .inl r.2.2.2.2.1)), (aNn, .inl (K.2 0, 12, .inl r.2.2.2.2.2.1)), (aF, .inr (2, [.ref aFl, .ref aFc, .ref aFq, .int r.2.2.2.2.2.2.1])), (aFl, .inl (K.2 0, 12, .inl r.2.2.2.2.2.2.2.1)), (aFc, .inl (K.2 0, 12, .inl r.2.2.2.2.2.2.2.2.1)), (aFq, .inl (K.2 0, 12, .inl r.2.2.2.2.2.2.2.2.2.1)), (aX, .inr (0, [.ref aXb, .ref aXk, .ref aXw, .int r.2.2.2.2.2.2.2.2.2.2])), (aXb, .inl (K.2 0, 12, .inl xB)), (aXk, .inl (K.2 0, 12, .inl xK)), (aXw, .inl (K.2 0, 12, .inl xW))] 8 48 := by
  refine zX.intH (cc := cL_leave) (maxL := 4) (ret := (some .int)) (hh := [(0, 9, 12, 20)]) rfl (by decide) (Nat.le_of_ble_eq_true rfl) rfl ?_
  intro G hGl hG hV hT hR
  unfold fL_leave at hres
  show zj G 0 [(0, .ref aH), (1, .int p0), (2, .ref aU)] [] [(aU, .inl (K.2 4, 1, .inr (.inl uU))), (aH, .inr (5, [.ref aN, .ref aF, .ref aA, .ref aC, .ref aO, .ref aX, .int gB, .int gK])), (aN, .inr (3, [.ref aNk, .ref aNn, .int nS])), (aNk, .inl (K.2 0, 12, .inl nK)), (aNn, .inl (K.2 0, 12, .inl nN)), (aF, .inr (2, [.ref aFl, .ref aFc, .ref aFq, .int fM])), (aFl, .inl (K.2 0, 12, .inl fL)), (aFc, .inl (K.2 0, 12, .inl fC)), (aFq, .inl (K.2 0, 12, .inl fQ)), (aX, .inr (0, [.ref aXb, .ref aXk, .ref aXw, .int xS])), (aXb, .inl (K.2 0, 12, .inl xB)), (aXk, .inl (K.2 0, 12, .inl xK)), (aXw, .inl (K.2 0, 12, .inl xW))] 0 0
  refine z_aload_n hG dL_leave_0 2 rfl ?_
  refine z_iconst 0 hG dL_leave_1 (by decide) ?_
  refine z_aload_n hG dL_leave_2 0 rfl ?_
  refine z_iload_n hG dL_leave_3 1 rfl ?_
  obtain ⟨v1, hv, hres⟩ := z_bind hres
  refine z_callX (As := [.int p0]) (rest := [.int 0, .ref aU]) (wr := [(aU, .inl (K.2 4, 1, .inr (.inl uU)))]) (ws' := [(aU, .inl (K.2 4, 1, .inr (.inl uU))), (aH, .inr (5, [.ref aN, .ref aF, .ref aA, .ref aC, .ref aO, .ref aX, .int v1.2.1, .int gK])), (aN, .inr (3, [.ref aNk, .ref aNn, .int v1.2.2.1])), (aNk, .inl (K.2 0, 12, .inl v1.2.2.2.1)), (aNn, .inl (K.2 0, 12, .inl v1.2.2.2.2.1)), (aF, .inr (2, [.ref aFl, .ref aFc, .ref aFq, .int v1.2.2.2.2.2.1])), (aFl, .inl (K.2 0, 12, .inl v1.2.2.2.2.2.2.1)), (aFc, .inl (K.2 0, 12, .inl v1.2.2.2.2.2.2.2.1)), (aFq, .inl (K.2 0, 12, .inl v1.2.2.2.2.2.2.2.2.1)), (aX, .inr (0, [.ref aXb, .ref aXk, .ref aXw, .int v1.2.2.2.2.2.2.2.2.2])), (aXb, .inl (K.2 0, 12, .inl xB)), (aXk, .inl (K.2 0, 12, .inl xK)), (aXw, .inl (K.2 0, 12, .inl xW))]) (kc' := 8) (ks' := 48) (n := 1) (C := RX5) (ci := 5) hG hV dL_leave_4 (kX5_leave _ K aH aN aNk aNn aF aFl aFc aFq aX aXb aXk aXw aA aC aO gB gK nS nK nN fM fL fC fQ xS xB xK xW p0 v1 hv) gL_leave_X5_leave rfl rfl rfl ⟨rfl, by decide, by decide, rfl⟩ ⟨by decide, by decide⟩ (Nat.le_of_ble_eq_true rfl) ⟨(Nat.le_of_ble_eq_true rfl), (Nat.le_of_ble_eq_true rfl)⟩ [1, 2, 3, 4, 5, 6, 7, 8, 9, 10, 11, 12] [0] [0, 1, 2, 3, 4, 5, 6, 7, 8, 9, 10, 11, 12] rfl rfl rfl rfl (by decide) rfl rfl rfl rfl rfl 0 rfl rfl rfl rfl (fun o9 ho => ?_) (fun E9 ho => ?_)
  · rcases hv1 : v1.1 with x2 | r3
    · rw [hv1] at ho
      cases ho
    rw [hv1] at ho
    obtain rfl := Sum.inr.inj ho
    replace hres := z_elimR hv1 hres
    show zj G 7 [(0, .ref aH), (1, .int p0), (2, .ref aU)] [.int r3, .int 0, .ref aU] [(aU, .inl (K.2 4, 1, .inr (.inl uU))), (aH, .inr (5, [.ref aN, .ref aF, .ref aA, .ref aC, .ref aO, .ref aX, .int v1.2.1, .int gK])), (aN, .inr (3, [.ref aNk, .ref aNn, .int v1.2.2.1])), (aNk, .inl (K.2 0, 12, .inl v1.2.2.2.1)), (aNn, .inl (K.2 0, 12, .inl v1.2.2.2.2.1)), (aF, .inr (2, [.ref aFl, .ref aFc, .ref aFq, .int v1.2.2.2.2.2.1])), (aFl, .inl (K.2 0, 12, .inl v1.2.2.2.2.2.2.1)), (aFc, .inl (K.2 0, 12, .inl v1.2.2.2.2.2.2.2.1)), (aFq, .inl (K.2 0, 12, .inl v1.2.2.2.2.2.2.2.2.1)), (aX, .inr (0, [.ref aXb, .ref aXk, .ref aXw, .int v1.2.2.2.2.2.2.2.2.2])), (aXb, .inl (K.2 0, 12, .inl xB)), (aXk, .inl (K.2 0, 12, .inl xK)), (aXw, .inl (K.2 0, 12, .inl xW))] 8 48
    refine z_i2l hG dL_leave_7 ?_
    refine z_last (ws' := [(aU, .inl (K.2 4, 1, .inr (.inl (vp_updL uU (0 : Int32).toNatClampNeg r3.toInt64)))), (aH, .inr (5, [.ref aN, .ref aF, .ref aA, .ref aC, .ref aO, .ref aX, .int v1.2.1, .int gK])), (aN, .inr (3, [.ref aNk, .ref aNn, .int v1.2.2.1])), (aNk, .inl (K.2 0, 12, .inl v1.2.2.2.1)), (aNn, .inl (K.2 0, 12, .inl v1.2.2.2.2.1)), (aF, .inr (2, [.ref aFl, .ref aFc, .ref aFq, .int v1.2.2.2.2.2.1])), (aFl, .inl (K.2 0, 12, .inl v1.2.2.2.2.2.2.1)), (aFc, .inl (K.2 0, 12, .inl v1.2.2.2.2.2.2.2.1)), (aFq, .inl (K.2 0, 12, .inl v1.2.2.2.2.2.2.2.2.1)), (aX, .inr (0, [.ref aXb, .ref aXk, .ref aXw, .int v1.2.2.2.2.2.2.2.2.2])), (aXb, .inl (K.2 0, 12, .inl xB)), (aXk, .inl (K.2 0, 12, .inl xK)), (aXw, .inl (K.2 0, 12, .inl xW))]) hG dL_leave_8 0 rfl (by decide) rfl ?_
    refine z_goto 15 hG dL_leave_9 (by decide) ?_
    refine z_iconst 0 hG dL_leave_15 (by decide) ?_
    obtain rfl := Option.some.inj hres
    exact (hR _ rfl _ _ dL_leave_16)
  · rcases hv1 : v1.1 with x2 | r3
    rotate_left
    · rw [hv1] at ho
      cases ho
    rw [hv1] at ho
    obtain rfl := Sum.inl.inj ho
    replace hres := z_elimL hv1 hres
    by_cases c : x2 = "java/util/NoSuchElementException"
    · replace hres := z_ifp c hres
      subst c
      refine z_catch (h1 := []) (a := 0) (b := 9) (hd := 12) (ct := 20) (h2 := []) hG hV hT (fun _ h => absurd h List.not_mem_nil) (by decide) (by decide) (by decide) mL_leave_0 (by decide) (fun q4 => ?_)
      show zj G 12 [(0, .ref aH), (1, .int p0), (2, .ref aU)] [.ref q4] [(aU, .inl (K.2 4, 1, .inr (.inl uU))), (aH, .inr (5, [.ref aN, .ref aF, .ref aA, .ref aC, .ref aO, .ref aX, .int v1.2.1, .int gK])), (aN, .inr (3, [.ref aNk, .ref aNn, .int v1.2.2.1])), (aNk, .inl (K.2 0, 12, .inl v1.2.2.2.1)), (aNn, .inl (K.2 0, 12, .inl v1.2.2.2.2.1)), (aF, .inr (2, [.ref aFl, .ref aFc, .ref aFq, .int v1.2.2.2.2.2.1])), (aFl, .inl (K.2 0, 12, .inl v1.2.2.2.2.2.2.1)), (aFc, .inl (K.2 0, 12, .inl v1.2.2.2.2.2.2.2.1)), (aFq, .inl (K.2 0, 12, .inl v1.2.2.2.2.2.2.2.2.1)), (aX, .inr (0, [.ref aXb, .ref aXk, .ref aXw, .int v1.2.2.2.2.2.2.2.2.2])), (aXb, .inl (K.2 0, 12, .inl xB)), (aXk, .inl (K.2 0, 12, .inl xK)), (aXw, .inl (K.2 0, 12, .inl xW))] 8 48
      refine z_astore_n (lv' := [(3, .ref q4), (0, .ref aH), (1, .int p0), (2, .ref aU)]) hG dL_leave_12 (by decide) rfl ?_
      refine z_iconst 1 hG dL_leave_13 (by decide) ?_
      obtain rfl := Option.some.inj hres
      exact (hR _ rfl _ _ dL_leave_14)
    replace hres := z_ifn c hres
    cases hres

theorem dL_street_0 : decode cL_street 0 = .ok (.aload_n 3, 1) := by decide +kernel
theorem dL_street_1 : decode cL_street 1 = .ok (.iconst 0, 1) := by decide +kernel
theorem dL_street_2 : decode cL_street 2 = .ok (.aload_n 0, 1) := by decide +kernel
theorem dL_street_3 : decode cL_street 3 = .ok (.iload_n 1, 1) := by decide +kernel
theorem dL_street_4 : decode cL_street 4 = .ok (.iload_n 2, 1) := by decide +kernel
theorem dL_street_5 : decode cL_street 5 = .ok (.invokevirtual 22, 3) := by decide +kernel
theorem dL_street_8 : decode cL_street 8 = .ok (.i2l, 1) := by decide +kernel
theorem dL_street_9 : decode cL_street 9 = .ok (.lastore, 1) := by decide +kernel
theorem dL_street_10 : decode cL_street 10 = .ok (.goto 15, 3) := by decide +kernel
theorem dL_street_13 : decode cL_street 13 = .ok (.astore 4, 2) := by decide +kernel
theorem dL_street_15 : decode cL_street 15 = .ok (.iconst 1, 1) := by decide +kernel
theorem dL_street_16 : decode cL_street 16 = .ok (.ireturn, 1) := by decide +kernel
theorem dL_street_17 : decode cL_street 17 = .ok (.astore 4, 2) := by decide +kernel
theorem dL_street_19 : decode cL_street 19 = .ok (.iconst 2, 1) := by decide +kernel
theorem dL_street_20 : decode cL_street 20 = .ok (.ireturn, 1) := by decide +kernel
theorem dL_street_21 : decode cL_street 21 = .ok (.astore 4, 2) := by decide +kernel
theorem dL_street_23 : decode cL_street 23 = .ok (.iconst 3, 1) := by decide +kernel
theorem dL_street_24 : decode cL_street 24 = .ok (.ireturn, 1) := by decide +kernel
theorem dL_street_25 : decode cL_street 25 = .ok (.iconst 0, 1) := by decide +kernel
theorem dL_street_26 : decode cL_street 26 = .ok (.ireturn, 1) := by decide +kernel
set_option maxRecDepth 20000 in
theorem ggL_street_X5_street : GoodIn wsL_street wsX5_street := goodIn_ca (goodIn_ca (goodIn_ca (goodIn_r _ [8, 9, 10, 11, 12, 13, 14, 15, 16, 17, 18, 19, 7, 20, 21, 22, 23, 24, 25, 26, 27, 28, 29, 30, 31, 32, 33, 34, 35, 36, 37, 38, 39, 40, 41, 42, 43, 44, 45, 46, 47, 48, 49, 50, 51, 52, 53, 54, 55, 56, 57, 58, 59, 60, 61, 62, 63, 64, 65, 66, 67, 68, 69, 70, 71, 72, 73, 74, 75, 76, 77, 78, 79, 80, 81, 82, 83, 84, 85, 86, 87, 88, 89, 90, 91, 92, 93, 94, 95, 96] (by decide +kernel) (by decide +kernel)) (goodIn_sub (fun _ h => List.mem_cons_of_mem _ (List.mem_append_left _ (List.mem_append_left _ (List.mem_append_right _ h)))) (by decide +kernel))) (goodIn_sub (fun _ h => List.mem_cons_of_mem _ (List.mem_append_left _ (List.mem_append_right _ h))) (by decide +kernel))) (goodIn_sub (fun _ h => List.mem_cons_of_mem _ (List.mem_append_right _ h)) (by decide +kernel))
set_option maxRecDepth 20000 in
theorem gL_street_X5_street : GoodIn wsL_street (wsV RL 22 RX5 yX5_street wsX5_street) := goodIn_app (goodIn_of _ (by decide +kernel)) ggL_street_X5_street
theorem mL_street_0 : Cond.classLink RL 20 "java/util/NoSuchElementException" ∈ wsL_street := by decide +kernel
theorem mL_street_1 : Cond.classLink RL 13 "java/lang/IllegalArgumentException" ∈ wsL_street := by decide +kernel
theorem mL_street_2 : Cond.classLink RL 15 "java/lang/IllegalStateException" ∈ wsL_street := by decide +kernel
def fL_street (uU : (Nat → Int64)) (gB : Int32) (gK : Int32) (nS : Int32) (nK : (Nat → Int32)) (nN : (Nat → Int32)) (fM : Int32) (fL : (Nat → Int32)) (fC : (Nat → Int32)) (fQ : (Nat → Int32)) (xS : Int32) (xB : (Nat → Int32)) (xK : (Nat → Int32)) (xW : (Nat → Int32)) (p0 : Int32) (p1 : Int32) : Option (Int32 × (Nat → Int64) × (Nat → Int32) × Int32 × (Nat → Int32) × (Nat → Int32) × (Nat → Int32) × Int32 × (Nat → Int32) × (Nat → Int32) × (Nat → Int32)) := (fX5_street gB gK nS nK nN fM fL fC fQ xS xB xK xW p0 p1).bind fun v1 => Sum.elim (fun x2 : String => if x2 = "java/util/NoSuchElementException" then some (1, uU, v1.2.1, v1.2.2.1, v1.2.2.2.1, v1.2.2.2.2.1, v1.2.2.2.2.2.1, v1.2.2.2.2.2.2.1, v1.2.2.2.2.2.2.2.1, v1.2.2.2.2.2.2.2.2.1, v1.2.2.2.2.2.2.2.2.2) else if x2 = "java/lang/IllegalArgumentException" then some (2, uU, v1.2.1, v1.2.2.1, v1.2.2.2.1, v1.2.2.2.2.1, v1.2.2.2.2.2.1, v1.2.2.2.2.2.2.1, v1.2.2.2.2.2.2.2.1, v1.2.2.2.2.2.2.2.2.1, v1.2.2.2.2.2.2.2.2.2) else if x2 = "java/lang/IllegalStateException" then some (3, uU, v1.2.1, v1.2.2.1, v1.2.2.2.1, v1.2.2.2.2.1, v1.2.2.2.2.2.1, v1.2.2.2.2.2.2.1, v1.2.2.2.2.2.2.2.1, v1.2.2.2.2.2.2.2.2.1, v1.2.2.2.2.2.2.2.2.2) else none) (fun r3 : Int32 => some (0, (vp_updL uU (0 : Int32).toNatClampNeg r3.toInt64), v1.2.1, v1.2.2.1, v1.2.2.2.1, v1.2.2.2.2.1, v1.2.2.2.2.2.1, v1.2.2.2.2.2.2.1, v1.2.2.2.2.2.2.2.1, v1.2.2.2.2.2.2.2.2.1, v1.2.2.2.2.2.2.2.2.2)) v1.1
set_option maxRecDepth 100000 in
set_option maxHeartbeats 4000000 in
theorem kL_street (l : Launch) (K : zK) (aU : Nat) (aH : Nat) (aN : Nat) (aNk : Nat) (aNn : Nat) (aF : Nat) (aFl : Nat) (aFc : Nat) (aFq : Nat) (aX : Nat) (aXb : Nat) (aXk : Nat) (aXw : Nat) (aA : Nat) (aC : Nat) (aO : Nat)  (uU : (Nat → Int64)) (gB : Int32) (gK : Int32) (nS : Int32) (nK : (Nat → Int32)) (nN : (Nat → Int32)) (fM : Int32) (fL : (Nat → Int32)) (fC : (Nat → Int32)) (fQ : (Nat → Int32)) (xS : Int32) (xB : (Nat → Int32)) (xK : (Nat → Int32)) (xW : (Nat → Int32)) (p0 : Int32) (p1 : Int32) (r : Int32 × (Nat → Int64) × (Nat → Int32) × Int32 × (Nat → Int32) × (Nat → Int32) × (Nat → Int32) × Int32 × (Nat → Int32) × (Nat → Int32) × (Nat → Int32)) (hres : fL_street uU gB gK nS nK nN fM fL fC fQ xS xB xK xW p0 p1 = some r) : zX l K yL_street wsL_street ({ frames := 8, cells := 8, slots := 48, locals := 133 }) [.ref aH, .int p0, .int p1, .ref aU] [(aU, .inl (K.2 4, 1, .inr (.inl uU))), (aH, .inr (5, [.ref aN, .ref aF, .ref aA, .ref aC, .ref aO, .ref aX, .int gB, .int gK])), (aN, .inr (3, [.ref aNk, .ref aNn, .int nS])), (aNk, .inl (K.2 0, 12, .inl nK)), (aNn, .inl (K.2 0, 12, .inl nN)), (aF, .inr (2, [.ref aFl, .ref aFc, .ref aFq, .int fM])), (aFl, .inl (K.2 0, 12, .inl fL)), (aFc, .inl (K.2 0, 12, .inl fC)), (aFq, .inl (K.2 0, 12, .inl fQ)), (aX, .inr (0, [.ref aXb, .ref aXk, .ref aXw, .int xS])), (aXb, .inl (K.2 0, 12, .inl xB)), (aXk, .inl (K.2 0, 12, .inl xK)), (aXw, .inl (K.2 0, 12, .inl xW))] (.inr (some (.int r.1))) [(aU, .inl (K.2 4, 1, .inr (.inl r.2.1))), (aH, .inr (5, [.ref aN, .ref aF, .ref aA, .ref aC, .ref aO, .ref aX, .int gB, .int gK])), (aN, .inr (3, [.ref aNk, .ref aNn, .int nS])), (aNk, .inl (K.2 0, 12, .inl nK)), (aNn, .inl (K.2 0, 12, .inl r.2.2.1)), (aF, .inr (2, [.ref aFl, .ref aFc, .ref aFq, .int r.2.2.2.1])), (aFl, .inl (K.2 0, 12, .inl r.2.2.2.2.1)), (aFc, .inl (K.2 0, 12, .inl r.2.2.2.2.2.1)), (aFq, .inl (K.2 0, 12, .inl r.2.2.2.2.2.2.1)), (aX, .inr (0, [.ref aXb, .ref aXk, .ref aXw, .int r.2.2.2.2.2.2.2.1])), (aXb, .inl (K.2 0, 12, .inl r.2.2.2.2.2.2.2.2.1)), (aXk, .inl (K.2 0, 12, .inl r.2.2.2.2.2.2.2.2.2.1)), (aXw, .inl (K.2 0, 12, .inl r.2.2.2.2.2.2.2.2.2.2))] 8 48 := by
  refine zX.intH (cc := cL_street) (maxL := 5) (ret := (some .int)) (hh := [(0, 10, 13, 20), (0, 10, 17, 13), (0, 10, 21, 15)]) rfl (by decide) (Nat.le_of_ble_eq_true rfl) rfl ?_
  intro G hGl hG hV hT hR
  unfold fL_street at hres
  show zj G 0 [(0, .ref aH), (1, .int p0), (2, .int p1), (3, .ref aU)] [] [(aU, .inl (K.2 4, 1, .inr (.inl uU))), (aH, .inr (5, [.ref aN, .ref aF, .ref aA, .ref aC, .ref aO, .ref aX, .int gB, .int gK])), (aN, .inr (3, [.ref aNk, .ref aNn, .int nS])), (aNk, .inl (K.2 0, 12, .inl nK)), (aNn, .inl (K.2 0, 12, .inl nN)), (aF, .inr (2, [.ref aFl, .ref aFc, .ref aFq, .int fM])), (aFl, .inl (K.2 0, 12, .inl fL)), (aFc, .inl (K.2 0, 12, .inl fC)), (aFq, .inl (K.2 0, 12, .inl fQ)), (aX, .inr (0, [.ref aXb, .ref aXk, .ref aXw, .int xS])), (aXb, .inl (K.2 0, 12, .inl xB)), (aXk, .inl (K.2 0, 12, .inl xK)), (aXw, .inl (K.2 0, 12, .inl xW))] 0 0
  refine z_aload_n hG dL_street_0 3 rfl ?_
  refine z_iconst 0 hG dL_street_1 (by decide) ?_
  refine z_aload_n hG dL_street_2 0 rfl ?_
  refine z_iload_n hG dL_street_3 1 rfl ?_
  refine z_iload_n hG dL_street_4 2 rfl ?_
  obtain ⟨v1, hv, hres⟩ := z_bind hres
  refine z_callX (As := [.int p0, .int p1]) (rest := [.int 0, .ref aU]) (wr := [(aU, .inl (K.2 4, 1, .inr (.inl uU)))]) (ws' := [(aU, .inl (K.2 4, 1, .inr (.inl uU))), (aH, .inr (5, [.ref aN, .ref aF, .ref aA, .ref aC, .ref aO, .ref aX, .int gB, .int gK])), (aN, .inr (3, [.ref aNk, .ref aNn, .int nS])), (aNk, .inl (K.2 0, 12, .inl nK)), (aNn, .inl (K.2 0, 12, .inl v1.2.1)), (aF, .inr (2, [.ref aFl, .ref aFc, .ref aFq, .int v1.2.2.1])), (aFl, .inl (K.2 0, 12, .inl v1.2.2.2.1)), (aFc, .inl (K.2 0, 12, .inl v1.2.2.2.2.1)), (aFq, .inl (K.2 0, 12, .inl v1.2.2.2.2.2.1)), (aX, .inr (0, [.ref aXb, .ref aXk, .ref aXw, .int v1.2.2.2.2.2.2.1])), (aXb, .inl (K.2 0, 12, .inl v1.2.2.2.2.2.2.2.1)), (aXk, .inl (K.2 0, 12, .inl v1.2.2.2.2.2.2.2.2.1)), (aXw, .inl (K.2 0, 12, .inl v1.2.2.2.2.2.2.2.2.2))]) (kc' := 8) (ks' := 48) (n := 2) (C := RX5) (ci := 5) hG hV dL_street_5 (kX5_street _ K aH aN aNk aNn aF aFl aFc aFq aX aXb aXk aXw aA aC aO gB gK nS nK nN fM fL fC fQ xS xB xK xW p0 p1 v1 hv) gL_street_X5_street rfl rfl rfl ⟨rfl, by decide, by decide, rfl⟩ ⟨by decide, by decide⟩ (Nat.le_of_ble_eq_true rfl) ⟨(Nat.le_of_ble_eq_true rfl), (Nat.le_of_ble_eq_true rfl)⟩ [1, 2, 3, 4, 5, 6, 7, 8, 9, 10, 11, 12] [0] [0, 1, 2, 3, 4, 5, 6, 7, 8, 9, 10, 11, 12] rfl rfl rfl rfl (by decide) rfl rfl rfl rfl rfl 0 rfl rfl rfl rfl (fun o9 ho => ?_) (fun E9 ho => ?_)
  · rcases hv1 : v1.1 with x2 | r3
    · rw [hv1] at ho
      cases ho
    rw [hv1] at ho
    obtain rfl := Sum.inr.inj ho
    replace hres := z_elimR hv1 hres
    show zj G 8 [(0, .ref aH), (1, .int p0), (2, .int p1), (3, .ref aU)] [.int r3, .int 0, .ref aU] [(aU, .inl (K.2 4, 1, .inr (.inl uU))), (aH, .inr (5, [.ref aN, .ref aF, .ref aA, .ref aC, .ref aO, .ref aX, .int gB, .int gK])), (aN, .inr (3, [.ref aNk, .ref aNn, .int nS])), (aNk, .inl (K.2 0, 12, .inl nK)), (aNn, .inl (K.2 0, 12, .inl v1.2.1)), (aF, .inr (2, [.ref aFl, .ref aFc, .ref aFq, .int v1.2.2.1])), (aFl, .inl (K.2 0, 12, .inl v1.2.2.2.1)), (aFc, .inl (K.2 0, 12, .inl v1.2.2.2.2.1)), (aFq, .inl (K.2 0, 12, .inl v1.2.2.2.2.2.1)), (aX, .inr (0, [.ref aXb, .ref aXk, .ref aXw, .int v1.2.2.2.2.2.2.1])), (aXb, .inl (K.2 0, 12, .inl v1.2.2.2.2.2.2.2.1)), (aXk, .inl (K.2 0, 12, .inl v1.2.2.2.2.2.2.2.2.1)), (aXw, .inl (K.2 0, 12, .inl v1.2.2.2.2.2.2.2.2.2))] 8 48
    refine z_i2l hG dL_street_8 ?_
    refine z_last (ws' := [(aU, .inl (K.2 4, 1, .inr (.inl (vp_updL uU (0 : Int32).toNatClampNeg r3.toInt64)))), (aH, .inr (5, [.ref aN, .ref aF, .ref aA, .ref aC, .ref aO, .ref aX, .int gB, .int gK])), (aN, .inr (3, [.ref aNk, .ref aNn, .int nS])), (aNk, .inl (K.2 0, 12, .inl nK)), (aNn, .inl (K.2 0, 12, .inl v1.2.1)), (aF, .inr (2, [.ref aFl, .ref aFc, .ref aFq, .int v1.2.2.1])), (aFl, .inl (K.2 0, 12, .inl v1.2.2.2.1)), (aFc, .inl (K.2 0, 12, .inl v1.2.2.2.2.1)), (aFq, .inl (K.2 0, 12, .inl v1.2.2.2.2.2.1)), (aX, .inr (0, [.ref aXb, .ref aXk, .ref aXw, .int v1.2.2.2.2.2.2.1])), (aXb, .inl (K.2 0, 12, .inl v1.2.2.2.2.2.2.2.1)), (aXk, .inl (K.2 0, 12, .inl v1.2.2.2.2.2.2.2.2.1)), (aXw, .inl (K.2 0, 12, .inl v1.2.2.2.2.2.2.2.2.2))]) hG dL_street_9 0 rfl (by decide) rfl ?_
    refine z_goto 25 hG dL_street_10 (by decide) ?_
    refine z_iconst 0 hG dL_street_25 (by decide) ?_
    obtain rfl := Option.some.inj hres
    exact (hR _ rfl _ _ dL_street_26)
  · rcases hv1 : v1.1 with x2 | r3
    rotate_left
    · rw [hv1] at ho
      cases ho
    rw [hv1] at ho
    obtain rfl := Sum.inl.inj ho
    replace hres := z_elimL hv1 hres
    by_cases c : x2 = "java/util/NoSuchElementException"
    · replace hres := z_ifp c hres
      subst c
      refine z_catch (h1 := []) (a := 0) (b := 10) (hd := 13) (ct := 20) (h2 := [(0, 10, 17, 13), (0, 10, 21, 15)]) hG hV hT (fun _ h => absurd h List.not_mem_nil) (by decide) (by decide) (by decide) mL_street_0 (by decide) (fun q4 => ?_)
      show zj G 13 [(0, .ref aH), (1, .int p0), (2, .int p1), (3, .ref aU)] [.ref q4] [(aU, .inl (K.2 4, 1, .inr (.inl uU))), (aH, .inr (5, [.ref aN, .ref aF, .ref aA, .ref aC, .ref aO, .ref aX, .int gB, .int gK])), (aN, .inr (3, [.ref aNk, .ref aNn, .int nS])), (aNk, .inl (K.2 0, 12, .inl nK)), (aNn, .inl (K.2 0, 12, .inl v1.2.1)), (aF, .inr (2, [.ref aFl, .ref aFc, .ref aFq, .int v1.2.2.1])), (aFl, .inl (K.2 0, 12, .inl v1.2.2.2.1)), (aFc, .inl (K.2 0, 12, .inl v1.2.2.2.2.1)), (aFq, .inl (K.2 0, 12, .inl v1.2.2.2.2.2.1)), (aX, .inr (0, [.ref aXb, .ref aXk, .ref aXw, .int v1.2.2.2.2.2.2.1])), (aXb, .inl (K.2 0, 12, .inl v1.2.2.2.2.2.2.2.1)), (aXk, .inl (K.2 0, 12, .inl v1.2.2.2.2.2.2.2.2.1)), (aXw, .inl (K.2 0, 12, .inl v1.2.2.2.2.2.2.2.2.2))] 8 48
      refine z_astore (lv' := [(4, .ref q4), (0, .ref aH), (1, .int p0), (2, .int p1), (3, .ref aU)]) hG dL_street_13 (by decide) rfl ?_
      refine z_iconst 1 hG dL_street_15 (by decide) ?_
      obtain rfl := Option.some.inj hres
      exact (hR _ rfl _ _ dL_street_16)
    replace hres := z_ifn c hres
    by_cases c : x2 = "java/lang/IllegalArgumentException"
    · replace hres := z_ifp c hres
      subst c
      refine z_catch (h1 := [(0, 10, 13, 20)]) (a := 0) (b := 10) (hd := 17) (ct := 13) (h2 := [(0, 10, 21, 15)]) hG hV hT (List.forall_mem_cons.mpr ⟨⟨by decide, _, mL_street_0, by decide, by decide⟩, (fun _ h => absurd h List.not_mem_nil)⟩) (by decide) (by decide) (by decide) mL_street_1 (by decide) (fun q5 => ?_)
      show zj G 17 [(0, .ref aH), (1, .int p0), (2, .int p1), (3, .ref aU)] [.ref q5] [(aU, .inl (K.2 4, 1, .inr (.inl uU))), (aH, .inr (5, [.ref aN, .ref aF, .ref aA, .ref aC, .ref aO, .ref aX, .int gB, .int gK])), (aN, .inr (3, [.ref aNk, .ref aNn, .int nS])), (aNk, .inl (K.2 0, 12, .inl nK)), (aNn, .inl (K.2 0, 12, .inl v1.2.1)), (aF, .inr (2, [.ref aFl, .ref aFc, .ref aFq, .int v1.2.2.1])), (aFl, .inl (K.2 0, 12, .inl v1.2.2.2.1)), (aFc, .inl (K.2 0, 12, .inl v1.2.2.2.2.1)), (aFq, .inl (K.2 0, 12, .inl v1.2.2.2.2.2.1)), (aX, .inr (0, [.ref aXb, .ref aXk, .ref aXw, .int v1.2.2.2.2.2.2.1])), (aXb, .inl (K.2 0, 12, .inl v1.2.2.2.2.2.2.2.1)), (aXk, .inl (K.2 0, 12, .inl v1.2.2.2.2.2.2.2.2.1)), (aXw, .inl (K.2 0, 12, .inl v1.2.2.2.2.2.2.2.2.2))] 8 48
      refine z_astore (lv' := [(4, .ref q5), (0, .ref aH), (1, .int p0), (2, .int p1), (3, .ref aU)]) hG dL_street_17 (by decide) rfl ?_
      refine z_iconst 2 hG dL_street_19 (by decide) ?_
      obtain rfl := Option.some.inj hres
      exact (hR _ rfl _ _ dL_street_20)
    replace hres := z_ifn c hres
    by_cases c : x2 = "java/lang/IllegalStateException"
    · replace hres := z_ifp c hres
      subst c
      refine z_catch (h1 := [(0, 10, 13, 20), (0, 10, 17, 13)]) (a := 0) (b := 10) (hd := 21) (ct := 15) (h2 := []) hG hV hT (List.forall_mem_cons.mpr ⟨⟨by decide, _, mL_street_0, by decide, by decide⟩, (List.forall_mem_cons.mpr ⟨⟨by decide, _, mL_street_1, by decide, by decide⟩, (fun _ h => absurd h List.not_mem_nil)⟩)⟩) (by decide) (by decide) (by decide) mL_street_2 (by decide) (fun q6 => ?_)
      show zj G 21 [(0, .ref aH), (1, .int p0), (2, .int p1), (3, .ref aU)] [.ref q6] [(aU, .inl (K.2 4, 1, .inr (.inl uU))), (aH, .inr (5, [.ref aN, .ref aF, .ref aA, .ref aC, .ref aO, .ref aX, .int gB, .int gK])), (aN, .inr (3, [.ref aNk, .ref aNn, .int nS])), (aNk, .inl (K.2 0, 12, .inl nK)), (aNn, .inl (K.2 0, 12, .inl v1.2.1)), (aF, .inr (2, [.ref aFl, .ref aFc, .ref aFq, .int v1.2.2.1])), (aFl, .inl (K.2 0, 12, .inl v1.2.2.2.1)), (aFc, .inl (K.2 0, 12, .inl v1.2.2.2.2.1)), (aFq, .inl (K.2 0, 12, .inl v1.2.2.2.2.2.1)), (aX, .inr (0, [.ref aXb, .ref aXk, .ref aXw, .int v1.2.2.2.2.2.2.1])), (aXb, .inl (K.2 0, 12, .inl v1.2.2.2.2.2.2.2.1)), (aXk, .inl (K.2 0, 12, .inl v1.2.2.2.2.2.2.2.2.1)), (aXw, .inl (K.2 0, 12, .inl v1.2.2.2.2.2.2.2.2.2))] 8 48
      refine z_astore (lv' := [(4, .ref q6), (0, .ref aH), (1, .int p0), (2, .int p1), (3, .ref aU)]) hG dL_street_21 (by decide) rfl ?_
      refine z_iconst 3 hG dL_street_23 (by decide) ?_
      obtain rfl := Option.some.inj hres
      exact (hR _ rfl _ _ dL_street_24)
    replace hres := z_ifn c hres
    cases hres

theorem dL_tear_0 : decode cL_tear 0 = .ok (.aload_n 3, 1) := by decide +kernel
theorem dL_tear_1 : decode cL_tear 1 = .ok (.iconst 0, 1) := by decide +kernel
theorem dL_tear_2 : decode cL_tear 2 = .ok (.aload_n 0, 1) := by decide +kernel
theorem dL_tear_3 : decode cL_tear 3 = .ok (.iload_n 1, 1) := by decide +kernel
theorem dL_tear_4 : decode cL_tear 4 = .ok (.iload_n 2, 1) := by decide +kernel
theorem dL_tear_5 : decode cL_tear 5 = .ok (.invokevirtual 26, 3) := by decide +kernel
theorem dL_tear_8 : decode cL_tear 8 = .ok (.i2l, 1) := by decide +kernel
theorem dL_tear_9 : decode cL_tear 9 = .ok (.lastore, 1) := by decide +kernel
theorem dL_tear_10 : decode cL_tear 10 = .ok (.goto 7, 3) := by decide +kernel
theorem dL_tear_13 : decode cL_tear 13 = .ok (.astore 4, 2) := by decide +kernel
theorem dL_tear_15 : decode cL_tear 15 = .ok (.iconst 1, 1) := by decide +kernel
theorem dL_tear_16 : decode cL_tear 16 = .ok (.ireturn, 1) := by decide +kernel
theorem dL_tear_17 : decode cL_tear 17 = .ok (.iconst 0, 1) := by decide +kernel
theorem dL_tear_18 : decode cL_tear 18 = .ok (.ireturn, 1) := by decide +kernel
set_option maxRecDepth 20000 in
theorem ggL_tear_X5_tear : GoodIn wsL_tear wsX5_tear := goodIn_ca (goodIn_r _ [6, 7, 8, 9, 10, 11, 12, 13, 14, 15, 5, 16, 17, 18, 19, 20, 21, 22, 23, 24, 25, 26, 27, 28, 29, 30, 31, 32, 33, 34, 35, 36, 37, 38, 39, 40, 41, 42, 43, 44, 45, 46, 47, 48, 49, 50, 51, 52, 53, 54, 55, 56, 57, 58, 59, 60, 61, 62, 63, 64, 65, 66, 67, 68, 69, 70, 71, 72, 73, 74, 75, 76, 77, 78, 79, 80, 81, 82, 83, 84, 85, 86, 87, 88, 89, 90] (by decide +kernel) (by decide +kernel)) (goodIn_sub (fun _ h => List.mem_cons_of_mem _ (List.mem_append_right _ h)) (by decide +kernel))
set_option maxRecDepth 20000 in
theorem gL_tear_X5_tear : GoodIn wsL_tear (wsV RL 26 RX5 yX5_tear wsX5_tear) := goodIn_app (goodIn_of _ (by decide +kernel)) ggL_tear_X5_tear
theorem mL_tear_0 : Cond.classLink RL 20 "java/util/NoSuchElementException" ∈ wsL_tear := by decide +kernel
def fL_tear (uU : (Nat → Int64)) (gB : Int32) (gK : Int32) (nS : Int32) (nK : (Nat → Int32)) (nN : (Nat → Int32)) (fM : Int32) (fL : (Nat → Int32)) (fC : (Nat → Int32)) (fQ : (Nat → Int32)) (xS : Int32) (xB : (Nat → Int32)) (xK : (Nat → Int32)) (xW : (Nat → Int32)) (p0 : Int32) (p1 : Int32) : Option (Int32 × (Nat → Int64) × (Nat → Int32) × Int32 × (Nat → Int32) × (Nat → Int32) × (Nat → Int32) × Int32 × (Nat → Int32) × (Nat → Int32) × (Nat → Int32)) := (fX5_tear gB gK nS nK nN fM fL fC fQ xS xB xK xW p0 p1).bind fun v1 => Sum.elim (fun x2 : String => if x2 = "java/util/NoSuchElementException" then some (1, uU, v1.2.1, v1.2.2.1, v1.2.2.2.1, v1.2.2.2.2.1, v1.2.2.2.2.2.1, v1.2.2.2.2.2.2.1, v1.2.2.2.2.2.2.2.1, v1.2.2.2.2.2.2.2.2.1, v1.2.2.2.2.2.2.2.2.2) else none) (fun r3 : Int32 => some (0, (vp_updL uU (0 : Int32).toNatClampNeg r3.toInt64), v1.2.1, v1.2.2.1, v1.2.2.2.1, v1.2.2.2.2.1, v1.2.2.2.2.2.1, v1.2.2.2.2.2.2.1, v1.2.2.2.2.2.2.2.1, v1.2.2.2.2.2.2.2.2.1, v1.2.2.2.2.2.2.2.2.2)) v1.1
set_option maxRecDepth 100000 in
set_option maxHeartbeats 4000000 in
theorem kL_tear (l : Launch) (K : zK) (aU : Nat) (aH : Nat) (aN : Nat) (aNk : Nat) (aNn : Nat) (aF : Nat) (aFl : Nat) (aFc : Nat) (aFq : Nat) (aX : Nat) (aXb : Nat) (aXk : Nat) (aXw : Nat) (aA : Nat) (aC : Nat) (aO : Nat)  (uU : (Nat → Int64)) (gB : Int32) (gK : Int32) (nS : Int32) (nK : (Nat → Int32)) (nN : (Nat → Int32)) (fM : Int32) (fL : (Nat → Int32)) (fC : (Nat → Int32)) (fQ : (Nat → Int32)) (xS : Int32) (xB : (Nat → Int32)) (xK : (Nat → Int32)) (xW : (Nat → Int32)) (p0 : Int32) (p1 : Int32) (r : Int32 × (Nat → Int64) × (Nat → Int32) × Int32 × (Nat → Int32) × (Nat → Int32) × (Nat → Int32) × Int32 × (Nat → Int32) × (Nat → Int32) × (Nat → Int32)) (hres : fL_tear uU gB gK nS nK nN fM fL fC fQ xS xB xK xW p0 p1 = some r) : zX l K yL_tear wsL_tear ({ frames := 8, cells := 8, slots := 48, locals := 133 }) [.ref aH, .int p0, .int p1, .ref aU] [(aU, .inl (K.2 4, 1, .inr (.inl uU))), (aH, .inr (5, [.ref aN, .ref aF, .ref aA, .ref aC, .ref aO, .ref aX, .int gB, .int gK])), (aN, .inr (3, [.ref aNk, .ref aNn, .int nS])), (aNk, .inl (K.2 0, 12, .inl nK)), (aNn, .inl (K.2 0, 12, .inl nN)), (aF, .inr (2, [.ref aFl, .ref aFc, .ref aFq, .int fM])), (aFl, .inl (K.2 0, 12, .inl fL)), (aFc, .inl (K.2 0, 12, .inl fC)), (aFq, .inl (K.2 0, 12, .inl fQ)), (aX, .inr (0, [.ref aXb, .ref aXk, .ref aXw, .int xS])), (aXb, .inl (K.2 0, 12, .inl xB)), (aXk, .inl (K.2 0, 12, .inl xK)), (aXw, .inl (K.2 0, 12, .inl xW))] (.inr (some (.int r.1))) [(aU, .inl (K.2 4, 1, .inr (.inl r.2.1))), (aH, .inr (5, [.ref aN, .ref aF, .ref aA, .ref aC, .ref aO, .ref aX, .int gB, .int gK])), (aN, .inr (3, [.ref aNk, .ref aNn, .int nS])), (aNk, .inl (K.2 0, 12, .inl nK)), (aNn, .inl (K.2 0, 12, .inl r.2.2.1)), (aF, .inr (2, [.ref aFl, .ref aFc, .ref aFq, .int r.2.2.2.1])), (aFl, .inl (K.2 0, 12, .inl r.2.2.2.2.1)), (aFc, .inl (K.2 0, 12, .inl r.2.2.2.2.2.1)), (aFq, .inl (K.2 0, 12, .inl r.2.2.2.2.2.2.1)), (aX, .inr (0, [.ref aXb, .ref aXk, .ref aXw, .int r.2.2.2.2.2.2.2.1])), (aXb, .inl (K.2 0, 12, .inl r.2.2.2.2.2.2.2.2.1)), (aXk, .inl (K.2 0, 12, .inl r.2.2.2.2.2.2.2.2.2.1)), (aXw, .inl (K.2 0, 12, .inl r.2.2.2.2.2.2.2.2.2.2))] 8 48 := by
  refine zX.intH (cc := cL_tear) (maxL := 5) (ret := (some .int)) (hh := [(0, 10, 13, 20)]) rfl (by decide) (Nat.le_of_ble_eq_true rfl) rfl ?_
  intro G hGl hG hV hT hR
  unfold fL_tear at hres
  show zj G 0 [(0, .ref aH), (1, .int p0), (2, .int p1), (3, .ref aU)] [] [(aU, .inl (K.2 4, 1, .inr (.inl uU))), (aH, .inr (5, [.ref aN, .ref aF, .ref aA, .ref aC, .ref aO, .ref aX, .int gB, .int gK])), (aN, .inr (3, [.ref aNk, .ref aNn, .int nS])), (aNk, .inl (K.2 0, 12, .inl nK)), (aNn, .inl (K.2 0, 12, .inl nN)), (aF, .inr (2, [.ref aFl, .ref aFc, .ref aFq, .int fM])), (aFl, .inl (K.2 0, 12, .inl fL)), (aFc, .inl (K.2 0, 12, .inl fC)), (aFq, .inl (K.2 0, 12, .inl fQ)), (aX, .inr (0, [.ref aXb, .ref aXk, .ref aXw, .int xS])), (aXb, .inl (K.2 0, 12, .inl xB)), (aXk, .inl (K.2 0, 12, .inl xK)), (aXw, .inl (K.2 0, 12, .inl xW))] 0 0
  refine z_aload_n hG dL_tear_0 3 rfl ?_
  refine z_iconst 0 hG dL_tear_1 (by decide) ?_
  refine z_aload_n hG dL_tear_2 0 rfl ?_
  refine z_iload_n hG dL_tear_3 1 rfl ?_
  refine z_iload_n hG dL_tear_4 2 rfl ?_
  obtain ⟨v1, hv, hres⟩ := z_bind hres
  refine z_callX (As := [.int p0, .int p1]) (rest := [.int 0, .ref aU]) (wr := [(aU, .inl (K.2 4, 1, .inr (.inl uU)))]) (ws' := [(aU, .inl (K.2 4, 1, .inr (.inl uU))), (aH, .inr (5, [.ref aN, .ref aF, .ref aA, .ref aC, .ref aO, .ref aX, .int gB, .int gK])), (aN, .inr (3, [.ref aNk, .ref aNn, .int nS])), (aNk, .inl (K.2 0, 12, .inl nK)), (aNn, .inl (K.2 0, 12, .inl v1.2.1)), (aF, .inr (2, [.ref aFl, .ref aFc, .ref aFq, .int v1.2.2.1])), (aFl, .inl (K.2 0, 12, .inl v1.2.2.2.1)), (aFc, .inl (K.2 0, 12, .inl v1.2.2.2.2.1)), (aFq, .inl (K.2 0, 12, .inl v1.2.2.2.2.2.1)), (aX, .inr (0, [.ref aXb, .ref aXk, .ref aXw, .int v1.2.2.2.2.2.2.1])), (aXb, .inl (K.2 0, 12, .inl v1.2.2.2.2.2.2.2.1)), (aXk, .inl (K.2 0, 12, .inl v1.2.2.2.2.2.2.2.2.1)), (aXw, .inl (K.2 0, 12, .inl v1.2.2.2.2.2.2.2.2.2))]) (kc' := 8) (ks' := 48) (n := 2) (C := RX5) (ci := 5) hG hV dL_tear_5 (kX5_tear _ K aH aN aNk aNn aF aFl aFc aFq aX aXb aXk aXw aA aC aO gB gK nS nK nN fM fL fC fQ xS xB xK xW p0 p1 v1 hv) gL_tear_X5_tear rfl rfl rfl ⟨rfl, by decide, by decide, rfl⟩ ⟨by decide, by decide⟩ (Nat.le_of_ble_eq_true rfl) ⟨(Nat.le_of_ble_eq_true rfl), (Nat.le_of_ble_eq_true rfl)⟩ [1, 2, 3, 4, 5, 6, 7, 8, 9, 10, 11, 12] [0] [0, 1, 2, 3, 4, 5, 6, 7, 8, 9, 10, 11, 12] rfl rfl rfl rfl (by decide) rfl rfl rfl rfl rfl 0 rfl rfl rfl rfl (fun o9 ho => ?_) (fun E9 ho => ?_)
  · rcases hv1 : v1.1 with x2 | r3
    · rw [hv1] at ho
      cases ho
    rw [hv1] at ho
    obtain rfl := Sum.inr.inj ho
    replace hres := z_elimR hv1 hres
    show zj G 8 [(0, .ref aH), (1, .int p0), (2, .int p1), (3, .ref aU)] [.int r3, .int 0, .ref aU] [(aU, .inl (K.2 4, 1, .inr (.inl uU))), (aH, .inr (5, [.ref aN, .ref aF, .ref aA, .ref aC, .ref aO, .ref aX, .int gB, .int gK])), (aN, .inr (3, [.ref aNk, .ref aNn, .int nS])), (aNk, .inl (K.2 0, 12, .inl nK)), (aNn, .inl (K.2 0, 12, .inl v1.2.1)), (aF, .inr (2, [.ref aFl, .ref aFc, .ref aFq, .int v1.2.2.1])), (aFl, .inl (K.2 0, 12, .inl v1.2.2.2.1)), (aFc, .inl (K.2 0, 12, .inl v1.2.2.2.2.1)), (aFq, .inl (K.2 0, 12, .inl v1.2.2.2.2.2.1)), (aX, .inr (0, [.ref aXb, .ref aXk, .ref aXw, .int v1.2.2.2.2.2.2.1])), (aXb, .inl (K.2 0, 12, .inl v1.2.2.2.2.2.2.2.1)), (aXk, .inl (K.2 0, 12, .inl v1.2.2.2.2.2.2.2.2.1)), (aXw, .inl (K.2 0, 12, .inl v1.2.2.2.2.2.2.2.2.2))] 8 48
    refine z_i2l hG dL_tear_8 ?_
    refine z_last (ws' := [(aU, .inl (K.2 4, 1, .inr (.inl (vp_updL uU (0 : Int32).toNatClampNeg r3.toInt64)))), (aH, .inr (5, [.ref aN, .ref aF, .ref aA, .ref aC, .ref aO, .ref aX, .int gB, .int gK])), (aN, .inr (3, [.ref aNk, .ref aNn, .int nS])), (aNk, .inl (K.2 0, 12, .inl nK)), (aNn, .inl (K.2 0, 12, .inl v1.2.1)), (aF, .inr (2, [.ref aFl, .ref aFc, .ref aFq, .int v1.2.2.1])), (aFl, .inl (K.2 0, 12, .inl v1.2.2.2.1)), (aFc, .inl (K.2 0, 12, .inl v1.2.2.2.2.1)), (aFq, .inl (K.2 0, 12, .inl v1.2.2.2.2.2.1)), (aX, .inr (0, [.ref aXb, .ref aXk, .ref aXw, .int v1.2.2.2.2.2.2.1])), (aXb, .inl (K.2 0, 12, .inl v1.2.2.2.2.2.2.2.1)), (aXk, .inl (K.2 0, 12, .inl v1.2.2.2.2.2.2.2.2.1)), (aXw, .inl (K.2 0, 12, .inl v1.2.2.2.2.2.2.2.2.2))]) hG dL_tear_9 0 rfl (by decide) rfl ?_
    refine z_goto 17 hG dL_tear_10 (by decide) ?_
    refine z_iconst 0 hG dL_tear_17 (by decide) ?_
    obtain rfl := Option.some.inj hres
    exact (hR _ rfl _ _ dL_tear_18)
  · rcases hv1 : v1.1 with x2 | r3
    rotate_left
    · rw [hv1] at ho
      cases ho
    rw [hv1] at ho
    obtain rfl := Sum.inl.inj ho
    replace hres := z_elimL hv1 hres
    by_cases c : x2 = "java/util/NoSuchElementException"
    · replace hres := z_ifp c hres
      subst c
      refine z_catch (h1 := []) (a := 0) (b := 10) (hd := 13) (ct := 20) (h2 := []) hG hV hT (fun _ h => absurd h List.not_mem_nil) (by decide) (by decide) (by decide) mL_tear_0 (by decide) (fun q4 => ?_)
      show zj G 13 [(0, .ref aH), (1, .int p0), (2, .int p1), (3, .ref aU)] [.ref q4] [(aU, .inl (K.2 4, 1, .inr (.inl uU))), (aH, .inr (5, [.ref aN, .ref aF, .ref aA, .ref aC, .ref aO, .ref aX, .int gB, .int gK])), (aN, .inr (3, [.ref aNk, .ref aNn, .int nS])), (aNk, .inl (K.2 0, 12, .inl nK)), (aNn, .inl (K.2 0, 12, .inl v1.2.1)), (aF, .inr (2, [.ref aFl, .ref aFc, .ref aFq, .int v1.2.2.1])), (aFl, .inl (K.2 0, 12, .inl v1.2.2.2.1)), (aFc, .inl (K.2 0, 12, .inl v1.2.2.2.2.1)), (aFq, .inl (K.2 0, 12, .inl v1.2.2.2.2.2.1)), (aX, .inr (0, [.ref aXb, .ref aXk, .ref aXw, .int v1.2.2.2.2.2.2.1])), (aXb, .inl (K.2 0, 12, .inl v1.2.2.2.2.2.2.2.1)), (aXk, .inl (K.2 0, 12, .inl v1.2.2.2.2.2.2.2.2.1)), (aXw, .inl (K.2 0, 12, .inl v1.2.2.2.2.2.2.2.2.2))] 8 48
      refine z_astore (lv' := [(4, .ref q4), (0, .ref aH), (1, .int p0), (2, .int p1), (3, .ref aU)]) hG dL_tear_13 (by decide) rfl ?_
      refine z_iconst 1 hG dL_tear_15 (by decide) ?_
      obtain rfl := Option.some.inj hres
      exact (hR _ rfl _ _ dL_tear_16)
    replace hres := z_ifn c hres
    cases hres

theorem dL_isStreet_0 : decode cL_isStreet 0 = .ok (.aload_n 3, 1) := by decide +kernel
theorem dL_isStreet_1 : decode cL_isStreet 1 = .ok (.iconst 0, 1) := by decide +kernel
theorem dL_isStreet_2 : decode cL_isStreet 2 = .ok (.aload_n 0, 1) := by decide +kernel
theorem dL_isStreet_3 : decode cL_isStreet 3 = .ok (.iload_n 1, 1) := by decide +kernel
theorem dL_isStreet_4 : decode cL_isStreet 4 = .ok (.iload_n 2, 1) := by decide +kernel
theorem dL_isStreet_5 : decode cL_isStreet 5 = .ok (.invokevirtual 29, 3) := by decide +kernel
theorem dL_isStreet_8 : decode cL_isStreet 8 = .ok (.ifCond .eq 7, 3) := by decide +kernel
theorem dL_isStreet_11 : decode cL_isStreet 11 = .ok (.lconst 1, 1) := by decide +kernel
theorem dL_isStreet_12 : decode cL_isStreet 12 = .ok (.goto 4, 3) := by decide +kernel
theorem dL_isStreet_15 : decode cL_isStreet 15 = .ok (.lconst 0, 1) := by decide +kernel
theorem dL_isStreet_16 : decode cL_isStreet 16 = .ok (.lastore, 1) := by decide +kernel
theorem dL_isStreet_17 : decode cL_isStreet 17 = .ok (.goto 7, 3) := by decide +kernel
theorem dL_isStreet_20 : decode cL_isStreet 20 = .ok (.astore 4, 2) := by decide +kernel
theorem dL_isStreet_22 : decode cL_isStreet 22 = .ok (.iconst 1, 1) := by decide +kernel
theorem dL_isStreet_23 : decode cL_isStreet 23 = .ok (.ireturn, 1) := by decide +kernel
theorem dL_isStreet_24 : decode cL_isStreet 24 = .ok (.iconst 0, 1) := by decide +kernel
theorem dL_isStreet_25 : decode cL_isStreet 25 = .ok (.ireturn, 1) := by decide +kernel
set_option maxRecDepth 20000 in
theorem ggL_isStreet_X5_isStreet : GoodIn wsL_isStreet wsX5_isStreet := goodIn_ca (goodIn_r _ [6, 7, 8, 9, 10, 5, 11, 12, 13, 14, 15, 16, 17, 18, 19, 20, 21, 22, 23, 24, 25, 26, 27, 28, 29, 30, 31, 32, 33, 34, 35, 36, 37, 38] (by decide +kernel) (by decide +kernel)) (goodIn_sub (fun _ h => List.mem_cons_of_mem _ (List.mem_append_right _ h)) (by decide +kernel))
set_option maxRecDepth 20000 in
theorem gL_isStreet_X5_isStreet : GoodIn wsL_isStreet (wsV RL 29 RX5 yX5_isStreet wsX5_isStreet) := goodIn_app (goodIn_of _ (by decide +kernel)) ggL_isStreet_X5_isStreet
theorem mL_isStreet_0 : Cond.classLink RL 20 "java/util/NoSuchElementException" ∈ wsL_isStreet := by decide +kernel
def fL_isStreet (uU : (Nat → Int64)) (nS : Int32) (nK : (Nat → Int32)) (nN : (Nat → Int32)) (p0 : Int32) (p1 : Int32) : Option (Int32 × (Nat → Int64)) := (fX5_isStreet nS nK nN p0 p1).bind fun v1 => Sum.elim (fun x2 : String => if x2 = "java/util/NoSuchElementException" then some (1, uU) else none) (fun r3 : Int32 => if r3 = 0 then some (0, (vp_updL uU (0 : Int32).toNatClampNeg (0 : Int64))) else some (0, (vp_updL uU (0 : Int32).toNatClampNeg (1 : Int64)))) v1
set_option maxRecDepth 100000 in
set_option maxHeartbeats 4000000 in
theorem kL_isStreet (l : Launch) (K : zK) (aU : Nat) (aH : Nat) (aN : Nat) (aNk : Nat) (aNn : Nat) (aF : Nat) (aA : Nat) (aC : Nat) (aO : Nat) (aX : Nat)  (uU : (Nat → Int64)) (gB : Int32) (gK : Int32) (nS : Int32) (nK : (Nat → Int32)) (nN : (Nat → Int32)) (p0 : Int32) (p1 : Int32) (r : Int32 × (Nat → Int64)) (hres : fL_isStreet uU nS nK nN p0 p1 = some r) : zX l K yL_isStreet wsL_isStreet ({ frames := 8, cells := 8, slots := 48, locals := 128 }) [.ref aH, .int p0, .int p1, .ref aU] [(aU, .inl (K.2 4, 1, .inr (.inl uU))), (aH, .inr (5, [.ref aN, .ref aF, .ref aA, .ref aC, .ref aO, .ref aX, .int gB, .int gK])), (aN, .inr (3, [.ref aNk, .ref aNn, .int nS])), (aNk, .inl (K.2 0, 12, .inl nK)), (aNn, .inl (K.2 0, 12, .inl nN))] (.inr (some (.int r.1))) [(aU, .inl (K.2 4, 1, .inr (.inl r.2))), (aH, .inr (5, [.ref aN, .ref aF, .ref aA, .ref aC, .ref aO, .ref aX, .int gB, .int gK])), (aN, .inr (3, [.ref aNk, .ref aNn, .int nS])), (aNk, .inl (K.2 0, 12, .inl nK)), (aNn, .inl (K.2 0, 12, .inl nN))] 8 48 := by
  refine zX.intH (cc := cL_isStreet) (maxL := 5) (ret := (some .int)) (hh := [(0, 17, 20, 20)]) rfl (by decide) (Nat.le_of_ble_eq_true rfl) rfl ?_
  intro G hGl hG hV hT hR
  unfold fL_isStreet at hres
  show zj G 0 [(0, .ref aH), (1, .int p0), (2, .int p1), (3, .ref aU)] [] [(aU, .inl (K.2 4, 1, .inr (.inl uU))), (aH, .inr (5, [.ref aN, .ref aF, .ref aA, .ref aC, .ref aO, .ref aX, .int gB, .int gK])), (aN, .inr (3, [.ref aNk, .ref aNn, .int nS])), (aNk, .inl (K.2 0, 12, .inl nK)), (aNn, .inl (K.2 0, 12, .inl nN))] 0 0
  refine z_aload_n hG dL_isStreet_0 3 rfl ?_
  refine z_iconst 0 hG dL_isStreet_1 (by decide) ?_
  refine z_aload_n hG dL_isStreet_2 0 rfl ?_
  refine z_iload_n hG dL_isStreet_3 1 rfl ?_
  refine z_iload_n hG dL_isStreet_4 2 rfl ?_
  obtain ⟨v1, hv, hres⟩ := z_bind hres
  refine z_callX (As := [.int p0, .int p1]) (rest := [.int 0, .ref aU]) (wr := [(aU, .inl (K.2 4, 1, .inr (.inl uU)))]) (ws' := [(aU, .inl (K.2 4, 1, .inr (.inl uU))), (aH, .inr (5, [.ref aN, .ref aF, .ref aA, .ref aC, .ref aO, .ref aX, .int gB, .int gK])), (aN, .inr (3, [.ref aNk, .ref aNn, .int nS])), (aNk, .inl (K.2 0, 12, .inl nK)), (aNn, .inl (K.2 0, 12, .inl nN))]) (kc' := 8) (ks' := 48) (n := 2) (C := RX5) (ci := 5) hG hV dL_isStreet_5 (kX5_isStreet _ K aH aN aNk aNn aF aA aC aO aX gB gK nS nK nN p0 p1 v1 hv) gL_isStreet_X5_isStreet rfl rfl rfl ⟨rfl, by decide, by decide, rfl⟩ ⟨by decide, by decide⟩ (Nat.le_of_ble_eq_true rfl) ⟨(Nat.le_of_ble_eq_true rfl), (Nat.le_of_ble_eq_true rfl)⟩ [1, 2, 3, 4] [0] [0, 1, 2, 3, 4] rfl rfl rfl rfl (by decide) rfl rfl rfl rfl rfl 0 rfl rfl rfl rfl (fun o9 ho => ?_) (fun E9 ho => ?_)
  · rcases hv1 : v1 with x2 | r3
    · rw [hv1] at ho
      cases ho
    rw [hv1] at ho
    obtain rfl := Sum.inr.inj ho
    replace hres := z_elimR hv1 hres
    show zj G 8 [(0, .ref aH), (1, .int p0), (2, .int p1), (3, .ref aU)] [.int r3, .int 0, .ref aU] [(aU, .inl (K.2 4, 1, .inr (.inl uU))), (aH, .inr (5, [.ref aN, .ref aF, .ref aA, .ref aC, .ref aO, .ref aX, .int gB, .int gK])), (aN, .inr (3, [.ref aNk, .ref aNn, .int nS])), (aNk, .inl (K.2 0, 12, .inl nK)), (aNn, .inl (K.2 0, 12, .inl nN))] 8 48
    refine z_if_eq 15 hG dL_isStreet_8 (by decide) (fun c => ?_) (fun c => ?_)
    · replace hres := z_ifp c hres
      refine z_lconst 0 hG dL_isStreet_15 (by decide) ?_
      refine z_last (ws' := [(aU, .inl (K.2 4, 1, .inr (.inl (vp_updL uU (0 : Int32).toNatClampNeg (0 : Int64))))), (aH, .inr (5, [.ref aN, .ref aF, .ref aA, .ref aC, .ref aO, .ref aX, .int gB, .int gK])), (aN, .inr (3, [.ref aNk, .ref aNn, .int nS])), (aNk, .inl (K.2 0, 12, .inl nK)), (aNn, .inl (K.2 0, 12, .inl nN))]) hG dL_isStreet_16 0 rfl (by decide) rfl ?_
      refine z_goto 24 hG dL_isStreet_17 (by decide) ?_
      refine z_iconst 0 hG dL_isStreet_24 (by decide) ?_
      obtain rfl := Option.some.inj hres
      exact (hR _ rfl _ _ dL_isStreet_25)
    · replace hres := z_ifn c hres
      refine z_lconst 1 hG dL_isStreet_11 (by decide) ?_
      refine z_goto 16 hG dL_isStreet_12 (by decide) ?_
      refine z_last (ws' := [(aU, .inl (K.2 4, 1, .inr (.inl (vp_updL uU (0 : Int32).toNatClampNeg (1 : Int64))))), (aH, .inr (5, [.ref aN, .ref aF, .ref aA, .ref aC, .ref aO, .ref aX, .int gB, .int gK])), (aN, .inr (3, [.ref aNk, .ref aNn, .int nS])), (aNk, .inl (K.2 0, 12, .inl nK)), (aNn, .inl (K.2 0, 12, .inl nN))]) hG dL_isStreet_16 0 rfl (by decide) rfl ?_
      refine z_goto 24 hG dL_isStreet_17 (by decide) ?_
      refine z_iconst 0 hG dL_isStreet_24 (by decide) ?_
      obtain rfl := Option.some.inj hres
      exact (hR _ rfl _ _ dL_isStreet_25)
  · rcases hv1 : v1 with x2 | r3
    rotate_left
    · rw [hv1] at ho
      cases ho
    rw [hv1] at ho
    obtain rfl := Sum.inl.inj ho
    replace hres := z_elimL hv1 hres
    by_cases c : x2 = "java/util/NoSuchElementException"
    · replace hres := z_ifp c hres
      subst c
      refine z_catch (h1 := []) (a := 0) (b := 17) (hd := 20) (ct := 20) (h2 := []) hG hV hT (fun _ h => absurd h List.not_mem_nil) (by decide) (by decide) (by decide) mL_isStreet_0 (by decide) (fun q4 => ?_)
      show zj G 20 [(0, .ref aH), (1, .int p0), (2, .int p1), (3, .ref aU)] [.ref q4] [(aU, .inl (K.2 4, 1, .inr (.inl uU))), (aH, .inr (5, [.ref aN, .ref aF, .ref aA, .ref aC, .ref aO, .ref aX, .int gB, .int gK])), (aN, .inr (3, [.ref aNk, .ref aNn, .int nS])), (aNk, .inl (K.2 0, 12, .inl nK)), (aNn, .inl (K.2 0, 12, .inl nN))] 8 48
      refine z_astore (lv' := [(4, .ref q4), (0, .ref aH), (1, .int p0), (2, .int p1), (3, .ref aU)]) hG dL_isStreet_20 (by decide) rfl ?_
      refine z_iconst 1 hG dL_isStreet_22 (by decide) ?_
      obtain rfl := Option.some.inj hres
      exact (hR _ rfl _ _ dL_isStreet_23)
    replace hres := z_ifn c hres
    cases hres

theorem dL_keyAt_0 : decode cL_keyAt 0 = .ok (.aload_n 2, 1) := by decide +kernel
theorem dL_keyAt_1 : decode cL_keyAt 1 = .ok (.iconst 0, 1) := by decide +kernel
theorem dL_keyAt_2 : decode cL_keyAt 2 = .ok (.aload_n 0, 1) := by decide +kernel
theorem dL_keyAt_3 : decode cL_keyAt 3 = .ok (.iload_n 1, 1) := by decide +kernel
theorem dL_keyAt_4 : decode cL_keyAt 4 = .ok (.invokevirtual 33, 3) := by decide +kernel
theorem dL_keyAt_7 : decode cL_keyAt 7 = .ok (.i2l, 1) := by decide +kernel
theorem dL_keyAt_8 : decode cL_keyAt 8 = .ok (.lastore, 1) := by decide +kernel
theorem dL_keyAt_9 : decode cL_keyAt 9 = .ok (.goto 6, 3) := by decide +kernel
theorem dL_keyAt_12 : decode cL_keyAt 12 = .ok (.astore_n 3, 1) := by decide +kernel
theorem dL_keyAt_13 : decode cL_keyAt 13 = .ok (.iconst 1, 1) := by decide +kernel
theorem dL_keyAt_14 : decode cL_keyAt 14 = .ok (.ireturn, 1) := by decide +kernel
theorem dL_keyAt_15 : decode cL_keyAt 15 = .ok (.iconst 0, 1) := by decide +kernel
theorem dL_keyAt_16 : decode cL_keyAt 16 = .ok (.ireturn, 1) := by decide +kernel
set_option maxRecDepth 20000 in
theorem ggL_keyAt_X5_keyAt : GoodIn wsL_keyAt wsX5_keyAt := goodIn_ca (goodIn_r _ [6, 7, 8, 9, 10, 11, 12, 13, 14, 15, 16, 17, 18, 19, 20, 21, 22] (by decide +kernel) (by decide +kernel)) (goodIn_sub (fun _ h => List.mem_cons_of_mem _ (List.mem_append_right _ h)) (by decide +kernel))
set_option maxRecDepth 20000 in
theorem gL_keyAt_X5_keyAt : GoodIn wsL_keyAt (wsV RL 33 RX5 yX5_keyAt wsX5_keyAt) := goodIn_app (goodIn_of _ (by decide +kernel)) ggL_keyAt_X5_keyAt
theorem mL_keyAt_0 : Cond.classLink RL 36 "java/lang/IndexOutOfBoundsException" ∈ wsL_keyAt := by decide +kernel
def fL_keyAt (uU : (Nat → Int64)) (nS : Int32) (nK : (Nat → Int32)) (p0 : Int32) : Option (Int32 × (Nat → Int64)) := (fX5_keyAt nS nK p0).bind fun v1 => Sum.elim (fun x2 : String => if x2 = "java/lang/IndexOutOfBoundsException" then some (1, uU) else none) (fun r3 : Int32 => some (0, (vp_updL uU (0 : Int32).toNatClampNeg r3.toInt64))) v1
set_option maxRecDepth 100000 in
set_option maxHeartbeats 4000000 in
theorem kL_keyAt (l : Launch) (K : zK) (aU : Nat) (aH : Nat) (aN : Nat) (aNk : Nat) (aNn : Nat) (aF : Nat) (aA : Nat) (aC : Nat) (aO : Nat) (aX : Nat)  (uU : (Nat → Int64)) (gB : Int32) (gK : Int32) (nS : Int32) (nK : (Nat → Int32)) (nN : (Nat → Int32)) (p0 : Int32) (r : Int32 × (Nat → Int64)) (hres : fL_keyAt uU nS nK p0 = some r) : zX l K yL_keyAt wsL_keyAt ({ frames := 7, cells := 8, slots := 48, locals := 103 }) [.ref aH, .int p0, .ref aU] [(aU, .inl (K.2 4, 1, .inr (.inl uU))), (aH, .inr (5, [.ref aN, .ref aF, .ref aA, .ref aC, .ref aO, .ref aX, .int gB, .int gK])), (aN, .inr (3, [.ref aNk, .ref aNn, .int nS])), (aNk, .inl (K.2 0, 12, .inl nK)), (aNn, .inl (K.2 0, 12, .inl nN))] (.inr (some (.int r.1))) [(aU, .inl (K.2 4, 1, .inr (.inl r.2))), (aH, .inr (5, [.ref aN, .ref aF, .ref aA, .ref aC, .ref aO, .ref aX, .int gB, .int gK])), (aN, .inr (3, [.ref aNk, .ref aNn, .int nS])), (aNk, .inl (K.2 0, 12, .inl nK)), (aNn, .inl (K.2 0, 12, .inl nN))] 8 48 := by
  refine zX.intH (cc := cL_keyAt) (maxL := 4) (ret := (some .int)) (hh := [(0, 9, 12, 36)]) rfl (by decide) (Nat.le_of_ble_eq_true rfl) rfl ?_
  intro G hGl hG hV hT hR
  unfold fL_keyAt at hres
  show zj G 0 [(0, .ref aH), (1, .int p0), (2, .ref aU)] [] [(aU, .inl (K.2 4, 1, .inr (.inl uU))), (aH, .inr (5, [.ref aN, .ref aF, .ref aA, .ref aC, .ref aO, .ref aX, .int gB, .int gK])), (aN, .inr (3, [.ref aNk, .ref aNn, .int nS])), (aNk, .inl (K.2 0, 12, .inl nK)), (aNn, .inl (K.2 0, 12, .inl nN))] 0 0
  refine z_aload_n hG dL_keyAt_0 2 rfl ?_
  refine z_iconst 0 hG dL_keyAt_1 (by decide) ?_
  refine z_aload_n hG dL_keyAt_2 0 rfl ?_
  refine z_iload_n hG dL_keyAt_3 1 rfl ?_
  obtain ⟨v1, hv, hres⟩ := z_bind hres
  refine z_callX (As := [.int p0]) (rest := [.int 0, .ref aU]) (wr := [(aU, .inl (K.2 4, 1, .inr (.inl uU)))]) (ws' := [(aU, .inl (K.2 4, 1, .inr (.inl uU))), (aH, .inr (5, [.ref aN, .ref aF, .ref aA, .ref aC, .ref aO, .ref aX, .int gB, .int gK])), (aN, .inr (3, [.ref aNk, .ref aNn, .int nS])), (aNk, .inl (K.2 0, 12, .inl nK)), (aNn, .inl (K.2 0, 12, .inl nN))]) (kc' := 8) (ks' := 48) (n := 1) (C := RX5) (ci := 5) hG hV dL_keyAt_4 (kX5_keyAt _ K aH aN aNk aNn aF aA aC aO aX gB gK nS nK nN p0 v1 hv) gL_keyAt_X5_keyAt rfl rfl rfl ⟨rfl, by decide, by decide, rfl⟩ ⟨by decide, by decide⟩ (Nat.le_of_ble_eq_true rfl) ⟨(Nat.le_of_ble_eq_true rfl), (Nat.le_of_ble_eq_true rfl)⟩ [1, 2, 3, 4] [0] [0, 1, 2, 3, 4] rfl rfl rfl rfl (by decide) rfl rfl rfl rfl rfl 0 rfl rfl rfl rfl (fun o9 ho => ?_) (fun E9 ho => ?_)
  · rcases hv1 : v1 with x2 | r3
    · rw [hv1] at ho
      cases ho
    rw [hv1] at ho
    obtain rfl := Sum.inr.inj ho
    replace hres := z_elimR hv1 hres
    show zj G 7 [(0, .ref aH), (1, .int p0), (2, .ref aU)] [.int r3, .int 0, .ref aU] [(aU, .inl (K.2 4, 1, .inr (.inl uU))), (aH, .inr (5, [.ref aN, .ref aF, .ref aA, .ref aC, .ref aO, .ref aX, .int gB, .int gK])), (aN, .inr (3, [.ref aNk, .ref aNn, .int nS])), (aNk, .inl (K.2 0, 12, .inl nK)), (aNn, .inl (K.2 0, 12, .inl nN))] 8 48
    refine z_i2l hG dL_keyAt_7 ?_
    refine z_last (ws' := [(aU, .inl (K.2 4, 1, .inr (.inl (vp_updL uU (0 : Int32).toNatClampNeg r3.toInt64)))), (aH, .inr (5, [.ref aN, .ref aF, .ref aA, .ref aC, .ref aO, .ref aX, .int gB, .int gK])), (aN, .inr (3, [.ref aNk, .ref aNn, .int nS])), (aNk, .inl (K.2 0, 12, .inl nK)), (aNn, .inl (K.2 0, 12, .inl nN))]) hG dL_keyAt_8 0 rfl (by decide) rfl ?_
    refine z_goto 15 hG dL_keyAt_9 (by decide) ?_
    refine z_iconst 0 hG dL_keyAt_15 (by decide) ?_
    obtain rfl := Option.some.inj hres
    exact (hR _ rfl _ _ dL_keyAt_16)
  · rcases hv1 : v1 with x2 | r3
    rotate_left
    · rw [hv1] at ho
      cases ho
    rw [hv1] at ho
    obtain rfl := Sum.inl.inj ho
    replace hres := z_elimL hv1 hres
    by_cases c : x2 = "java/lang/IndexOutOfBoundsException"
    · replace hres := z_ifp c hres
      subst c
      refine z_catch (h1 := []) (a := 0) (b := 9) (hd := 12) (ct := 36) (h2 := []) hG hV hT (fun _ h => absurd h List.not_mem_nil) (by decide) (by decide) (by decide) mL_keyAt_0 (by decide) (fun q4 => ?_)
      show zj G 12 [(0, .ref aH), (1, .int p0), (2, .ref aU)] [.ref q4] [(aU, .inl (K.2 4, 1, .inr (.inl uU))), (aH, .inr (5, [.ref aN, .ref aF, .ref aA, .ref aC, .ref aO, .ref aX, .int gB, .int gK])), (aN, .inr (3, [.ref aNk, .ref aNn, .int nS])), (aNk, .inl (K.2 0, 12, .inl nK)), (aNn, .inl (K.2 0, 12, .inl nN))] 8 48
      refine z_astore_n (lv' := [(3, .ref q4), (0, .ref aH), (1, .int p0), (2, .ref aU)]) hG dL_keyAt_12 (by decide) rfl ?_
      refine z_iconst 1 hG dL_keyAt_13 (by decide) ?_
      obtain rfl := Option.some.inj hres
      exact (hR _ rfl _ _ dL_keyAt_14)
    replace hres := z_ifn c hres
    cases hres

theorem dL_begin_0 : decode cL_begin 0 = .ok (.aload_n 2, 1) := by decide +kernel
theorem dL_begin_1 : decode cL_begin 1 = .ok (.iconst 0, 1) := by decide +kernel
theorem dL_begin_2 : decode cL_begin 2 = .ok (.aload_n 0, 1) := by decide +kernel
theorem dL_begin_3 : decode cL_begin 3 = .ok (.iload_n 1, 1) := by decide +kernel
theorem dL_begin_4 : decode cL_begin 4 = .ok (.invokevirtual 38, 3) := by decide +kernel
theorem dL_begin_7 : decode cL_begin 7 = .ok (.i2l, 1) := by decide +kernel
theorem dL_begin_8 : decode cL_begin 8 = .ok (.lastore, 1) := by decide +kernel
theorem dL_begin_9 : decode cL_begin 9 = .ok (.goto 6, 3) := by decide +kernel
theorem dL_begin_12 : decode cL_begin 12 = .ok (.astore_n 3, 1) := by decide +kernel
theorem dL_begin_13 : decode cL_begin 13 = .ok (.iconst 1, 1) := by decide +kernel
theorem dL_begin_14 : decode cL_begin 14 = .ok (.ireturn, 1) := by decide +kernel
theorem dL_begin_15 : decode cL_begin 15 = .ok (.iconst 0, 1) := by decide +kernel
theorem dL_begin_16 : decode cL_begin 16 = .ok (.ireturn, 1) := by decide +kernel
set_option maxRecDepth 20000 in
theorem ggL_begin_X5_begin : GoodIn wsL_begin wsX5_begin := goodIn_ca (goodIn_r _ [6, 7, 8, 9, 10, 11, 12, 13, 14, 5, 15, 16, 17, 18, 19, 20, 21, 22, 23, 24, 25, 26, 27, 28, 29, 30, 31, 32, 33, 34, 35, 36, 37, 38, 39, 40, 41, 42, 43, 44, 45, 46, 47, 48, 49, 50, 51, 52, 53, 54, 55, 56, 57, 58, 59, 60, 61, 62, 63, 64, 65, 66, 67, 68, 69, 70, 71, 72, 73, 74, 75] (by decide +kernel) (by decide +kernel)) (goodIn_sub (fun _ h => List.mem_cons_of_mem _ (List.mem_append_right _ h)) (by decide +kernel))
set_option maxRecDepth 20000 in
theorem gL_begin_X5_begin : GoodIn wsL_begin (wsV RL 38 RX5 yX5_begin wsX5_begin) := goodIn_app (goodIn_of _ (by decide +kernel)) ggL_begin_X5_begin
theorem mL_begin_0 : Cond.classLink RL 20 "java/util/NoSuchElementException" ∈ wsL_begin := by decide +kernel
def fL_begin (uU : (Nat → Int64)) (gB : Int32) (gK : Int32) (nS : Int32) (nK : (Nat → Int32)) (nN : (Nat → Int32)) (fM : Int32) (fL : (Nat → Int32)) (fC : (Nat → Int32)) (fQ : (Nat → Int32)) (xS : Int32) (p0 : Int32) : Option (Int32 × (Nat → Int64) × Int32 × Int32 × Int32 × (Nat → Int32) × (Nat → Int32) × (Nat → Int32) × Int32) := (fX5_begin gB gK nS nK nN fM fL fC fQ xS p0).bind fun v1 => Sum.elim (fun x2 : String => if x2 = "java/util/NoSuchElementException" then some (1, uU, v1.2.1, v1.2.2.1, v1.2.2.2.1, v1.2.2.2.2.1, v1.2.2.2.2.2.1, v1.2.2.2.2.2.2.1, v1.2.2.2.2.2.2.2) else none) (fun r3 : Int32 => some (0, (vp_updL uU (0 : Int32).toNatClampNeg r3.toInt64), v1.2.1, v1.2.2.1, v1.2.2.2.1, v1.2.2.2.2.1, v1.2.2.2.2.2.1, v1.2.2.2.2.2.2.1, v1.2.2.2.2.2.2.2)) v1.1
set_option maxRecDepth 100000 in
set_option maxHeartbeats 4000000 in
theorem kL_begin (l : Launch) (K : zK) (aU : Nat) (aH : Nat) (aN : Nat) (aNk : Nat) (aNn : Nat) (aF : Nat) (aFl : Nat) (aFc : Nat) (aFq : Nat) (aX : Nat) (aXb : Nat) (aXk : Nat) (aXw : Nat) (aA : Nat) (aC : Nat) (aO : Nat)  (uU : (Nat → Int64)) (gB : Int32) (gK : Int32) (nS : Int32) (nK : (Nat → Int32)) (nN : (Nat → Int32)) (fM : Int32) (fL : (Nat → Int32)) (fC : (Nat → Int32)) (fQ : (Nat → Int32)) (xS : Int32) (xB : (Nat → Int32)) (xK : (Nat → Int32)) (xW : (Nat → Int32)) (p0 : Int32) (r : Int32 × (Nat → Int64) × Int32 × Int32 × Int32 × (Nat → Int32) × (Nat → Int32) × (Nat → Int32) × Int32) (hres : fL_begin uU gB gK nS nK nN fM fL fC fQ xS p0 = some r) : zX l K yL_begin wsL_begin ({ frames := 8, cells := 8, slots := 48, locals := 130 }) [.ref aH, .int p0, .ref aU] [(aU, .inl (K.2 4, 1, .inr (.inl uU))), (aH, .inr (5, [.ref aN, .ref aF, .ref aA, .ref aC, .ref aO, .ref aX, .int gB, .int gK])), (aN, .inr (3, [.ref aNk, .ref aNn, .int nS])), (aNk, .inl (K.2 0, 12, .inl nK)), (aNn, .inl (K.2 0, 12, .inl nN)), (aF, .inr (2, [.ref aFl, .ref aFc, .ref aFq, .int fM])), (aFl, .inl (K.2 0, 12, .inl fL)), (aFc, .inl (K.2 0, 12, .inl fC)), (aFq, .inl (K.2 0, 12, .inl fQ)), (aX, .inr (0, [.ref aXb, .ref aXk, .ref aXw, .int xS])), (aXb, .inl (K.2 0, 12, .inl xB)), (aXk, .inl (K.2 0, 12, .inl xK)), (aXw, .inl (K.2 0, 12, .inl xW))] (.inr (some (.int r.1))) [(aU, .inl (K.2 4, 1, .inr (.inl r.2.1))), (aH, .inr (5, [.ref aN, .ref aF, .ref aA, .ref aC, .ref aO, .ref aX, .int r.2.2.1, .int r.2.2.2.1])), (aN, .inr (3, [.ref aNk, .ref aNn, .int nS])), (aNk, .inl (K.2 0, 12, .inl nK)), (aNn, .inl (K.2 0, 12, .inl nN)), (aF, .inr (2, [.ref aFl, .ref aFc, .ref aFq, .int r.2.2.2.2.1])), (aFl, .inl (K.2 0, 12, .inl r.2.2.2.2.2.1)), (aFc, .inl (K.2 0, 12, .inl r.2.2.2.2.2.2.1)), (aFq, .inl (K.2 0, 12, .inl r.2.2.2.2.2.2.2.1)), (aX, .inr (0, [.ref aXb, .ref aXk, .ref aXw, .int r.2.2.2.2.2.2.2.2])), (aXb, .inl (K.2 0, 12, .inl xB)), (aXk, .inl (K.2 0, 12, .inl xK)), (aXw, .inl (K.2 0, 12, .inl xW))] 8 48 := by
  refine zX.intH (cc := cL_begin) (maxL := 4) (ret := (some .int)) (hh := [(0, 9, 12, 20)]) rfl (by decide) (Nat.le_of_ble_eq_true rfl) rfl ?_
  intro G hGl hG hV hT hR
  unfold fL_begin at hres
  show zj G 0 [(0, .ref aH), (1, .int p0), (2, .ref aU)] [] [(aU, .inl (K.2 4, 1, .inr (.inl uU))), (aH, .inr (5, [.ref aN, .ref aF, .ref aA, .ref aC, .ref aO, .ref aX, .int gB, .int gK])), (aN, .inr (3, [.ref aNk, .ref aNn, .int nS])), (aNk, .inl (K.2 0, 12, .inl nK)), (aNn, .inl (K.2 0, 12, .inl nN)), (aF, .inr (2, [.ref aFl, .ref aFc, .ref aFq, .int fM])), (aFl, .inl (K.2 0, 12, .inl fL)), (aFc, .inl (K.2 0, 12, .inl fC)), (aFq, .inl (K.2 0, 12, .inl fQ)), (aX, .inr (0, [.ref aXb, .ref aXk, .ref aXw, .int xS])), (aXb, .inl (K.2 0, 12, .inl xB)), (aXk, .inl (K.2 0, 12, .inl xK)), (aXw, .inl (K.2 0, 12, .inl xW))] 0 0
  refine z_aload_n hG dL_begin_0 2 rfl ?_
  refine z_iconst 0 hG dL_begin_1 (by decide) ?_
  refine z_aload_n hG dL_begin_2 0 rfl ?_
  refine z_iload_n hG dL_begin_3 1 rfl ?_
  obtain ⟨v1, hv, hres⟩ := z_bind hres
  refine z_callX (As := [.int p0]) (rest := [.int 0, .ref aU]) (wr := [(aU, .inl (K.2 4, 1, .inr (.inl uU)))]) (ws' := [(aU, .inl (K.2 4, 1, .inr (.inl uU))), (aH, .inr (5, [.ref aN, .ref aF, .ref aA, .ref aC, .ref aO, .ref aX, .int v1.2.1, .int v1.2.2.1])), (aN, .inr (3, [.ref aNk, .ref aNn, .int nS])), (aNk, .inl (K.2 0, 12, .inl nK)), (aNn, .inl (K.2 0, 12, .inl nN)), (aF, .inr (2, [.ref aFl, .ref aFc, .ref aFq, .int v1.2.2.2.1])), (aFl, .inl (K.2 0, 12, .inl v1.2.2.2.2.1)), (aFc, .inl (K.2 0, 12, .inl v1.2.2.2.2.2.1)), (aFq, .inl (K.2 0, 12, .inl v1.2.2.2.2.2.2.1)), (aX, .inr (0, [.ref aXb, .ref aXk, .ref aXw, .int v1.2.2.2.2.2.2.2])), (aXb, .inl (K.2 0, 12, .inl xB)), (aXk, .inl (K.2 0, 12, .inl xK)), (aXw, .inl (K.2 0, 12, .inl xW))]) (kc' := 8) (ks' := 48) (n := 1) (C := RX5) (ci := 5) hG hV dL_begin_4 (kX5_begin _ K aH aN aNk aNn aF aFl aFc aFq aX aXb aXk aXw aA aC aO gB gK nS nK nN fM fL fC fQ xS xB xK xW p0 v1 hv) gL_begin_X5_begin rfl rfl rfl ⟨rfl, by decide, by decide, rfl⟩ ⟨by decide, by decide⟩ (Nat.le_of_ble_eq_true rfl) ⟨(Nat.le_of_ble_eq_true rfl), (Nat.le_of_ble_eq_true rfl)⟩ [1, 2, 3, 4, 5, 6, 7, 8, 9, 10, 11, 12] [0] [0, 1, 2, 3, 4, 5, 6, 7, 8, 9, 10, 11, 12] rfl rfl rfl rfl (by decide) rfl rfl rfl rfl rfl 0 rfl rfl rfl rfl (fun o9 ho => ?_) (fun E9 ho => ?_)
  · rcases hv1 : v1.1 with x2 | r3
    · rw [hv1] at ho
      cases ho
    rw [hv1] at ho
    obtain rfl := Sum.inr.inj ho
    replace hres := z_elimR hv1 hres
    show zj G 7 [(0, .ref aH), (1, .int p0), (2, .ref aU)] [.int r3, .int 0, .ref aU] [(aU, .inl (K.2 4, 1, .inr (.inl uU))), (aH, .inr (5, [.ref aN, .ref aF, .ref aA, .ref aC, .ref aO, .ref aX, .int v1.2.1, .int v1.2.2.1])), (aN, .inr (3, [.ref aNk, .ref aNn, .int nS])), (aNk, .inl (K.2 0, 12, .inl nK)), (aNn, .inl (K.2 0, 12, .inl nN)), (aF, .inr (2, [.ref aFl, .ref aFc, .ref aFq, .int v1.2.2.2.1])), (aFl, .inl (K.2 0, 12, .inl v1.2.2.2.2.1)), (aFc, .inl (K.2 0, 12, .inl v1.2.2.2.2.2.1)), (aFq, .inl (K.2 0, 12, .inl v1.2.2.2.2.2.2.1)), (aX, .inr (0, [.ref aXb, .ref aXk, .ref aXw, .int v1.2.2.2.2.2.2.2])), (aXb, .inl (K.2 0, 12, .inl xB)), (aXk, .inl (K.2 0, 12, .inl xK)), (aXw, .inl (K.2 0, 12, .inl xW))] 8 48
    refine z_i2l hG dL_begin_7 ?_
    refine z_last (ws' := [(aU, .inl (K.2 4, 1, .inr (.inl (vp_updL uU (0 : Int32).toNatClampNeg r3.toInt64)))), (aH, .inr (5, [.ref aN, .ref aF, .ref aA, .ref aC, .ref aO, .ref aX, .int v1.2.1, .int v1.2.2.1])), (aN, .inr (3, [.ref aNk, .ref aNn, .int nS])), (aNk, .inl (K.2 0, 12, .inl nK)), (aNn, .inl (K.2 0, 12, .inl nN)), (aF, .inr (2, [.ref aFl, .ref aFc, .ref aFq, .int v1.2.2.2.1])), (aFl, .inl (K.2 0, 12, .inl v1.2.2.2.2.1)), (aFc, .inl (K.2 0, 12, .inl v1.2.2.2.2.2.1)), (aFq, .inl (K.2 0, 12, .inl v1.2.2.2.2.2.2.1)), (aX, .inr (0, [.ref aXb, .ref aXk, .ref aXw, .int v1.2.2.2.2.2.2.2])), (aXb, .inl (K.2 0, 12, .inl xB)), (aXk, .inl (K.2 0, 12, .inl xK)), (aXw, .inl (K.2 0, 12, .inl xW))]) hG dL_begin_8 0 rfl (by decide) rfl ?_
    refine z_goto 15 hG dL_begin_9 (by decide) ?_
    refine z_iconst 0 hG dL_begin_15 (by decide) ?_
    obtain rfl := Option.some.inj hres
    exact (hR _ rfl _ _ dL_begin_16)
  · rcases hv1 : v1.1 with x2 | r3
    rotate_left
    · rw [hv1] at ho
      cases ho
    rw [hv1] at ho
    obtain rfl := Sum.inl.inj ho
    replace hres := z_elimL hv1 hres
    by_cases c : x2 = "java/util/NoSuchElementException"
    · replace hres := z_ifp c hres
      subst c
      refine z_catch (h1 := []) (a := 0) (b := 9) (hd := 12) (ct := 20) (h2 := []) hG hV hT (fun _ h => absurd h List.not_mem_nil) (by decide) (by decide) (by decide) mL_begin_0 (by decide) (fun q4 => ?_)
      show zj G 12 [(0, .ref aH), (1, .int p0), (2, .ref aU)] [.ref q4] [(aU, .inl (K.2 4, 1, .inr (.inl uU))), (aH, .inr (5, [.ref aN, .ref aF, .ref aA, .ref aC, .ref aO, .ref aX, .int v1.2.1, .int v1.2.2.1])), (aN, .inr (3, [.ref aNk, .ref aNn, .int nS])), (aNk, .inl (K.2 0, 12, .inl nK)), (aNn, .inl (K.2 0, 12, .inl nN)), (aF, .inr (2, [.ref aFl, .ref aFc, .ref aFq, .int v1.2.2.2.1])), (aFl, .inl (K.2 0, 12, .inl v1.2.2.2.2.1)), (aFc, .inl (K.2 0, 12, .inl v1.2.2.2.2.2.1)), (aFq, .inl (K.2 0, 12, .inl v1.2.2.2.2.2.2.1)), (aX, .inr (0, [.ref aXb, .ref aXk, .ref aXw, .int v1.2.2.2.2.2.2.2])), (aXb, .inl (K.2 0, 12, .inl xB)), (aXk, .inl (K.2 0, 12, .inl xK)), (aXw, .inl (K.2 0, 12, .inl xW))] 8 48
      refine z_astore_n (lv' := [(3, .ref q4), (0, .ref aH), (1, .int p0), (2, .ref aU)]) hG dL_begin_12 (by decide) rfl ?_
      refine z_iconst 1 hG dL_begin_13 (by decide) ?_
      obtain rfl := Option.some.inj hres
      exact (hR _ rfl _ _ dL_begin_14)
    replace hres := z_ifn c hres
    cases hres

theorem dL_length_0 : decode cL_length 0 = .ok (.aload_n 2, 1) := by decide +kernel
theorem dL_length_1 : decode cL_length 1 = .ok (.iconst 0, 1) := by decide +kernel
theorem dL_length_2 : decode cL_length 2 = .ok (.aload_n 0, 1) := by decide +kernel
theorem dL_length_3 : decode cL_length 3 = .ok (.iload_n 1, 1) := by decide +kernel
theorem dL_length_4 : decode cL_length 4 = .ok (.invokevirtual 41, 3) := by decide +kernel
theorem dL_length_7 : decode cL_length 7 = .ok (.i2l, 1) := by decide +kernel
theorem dL_length_8 : decode cL_length 8 = .ok (.lastore, 1) := by decide +kernel
theorem dL_length_9 : decode cL_length 9 = .ok (.goto 9, 3) := by decide +kernel
theorem dL_length_12 : decode cL_length 12 = .ok (.astore_n 3, 1) := by decide +kernel
theorem dL_length_13 : decode cL_length 13 = .ok (.iconst 1, 1) := by decide +kernel
theorem dL_length_14 : decode cL_length 14 = .ok (.ireturn, 1) := by decide +kernel
theorem dL_length_15 : decode cL_length 15 = .ok (.astore_n 3, 1) := by decide +kernel
theorem dL_length_16 : decode cL_length 16 = .ok (.iconst 2, 1) := by decide +kernel
theorem dL_length_17 : decode cL_length 17 = .ok (.ireturn, 1) := by decide +kernel
theorem dL_length_18 : decode cL_length 18 = .ok (.iconst 0, 1) := by decide +kernel
theorem dL_length_19 : decode cL_length 19 = .ok (.ireturn, 1) := by decide +kernel
set_option maxRecDepth 20000 in
theorem ggL_length_X5_length : GoodIn wsL_length wsX5_length := goodIn_ca (goodIn_ca (goodIn_r _ [7, 8, 9, 10, 11, 12, 6, 13, 14, 15, 16, 17, 18, 19, 20, 21, 22, 23, 24, 25, 26, 27, 28, 29, 30, 31, 32, 33, 34, 35, 36, 37, 38, 39, 40, 41, 42, 43, 44, 45] (by decide +kernel) (by decide +kernel)) (goodIn_sub (fun _ h => List.mem_cons_of_mem _ (List.mem_append_left _ (List.mem_append_right _ h))) (by decide +kernel))) (goodIn_sub (fun _ h => List.mem_cons_of_mem _ (List.mem_append_right _ h)) (by decide +kernel))
set_option maxRecDepth 20000 in
theorem gL_length_X5_length : GoodIn wsL_length (wsV RL 41 RX5 yX5_length wsX5_length) := goodIn_app (goodIn_of _ (by decide +kernel)) ggL_length_X5_length
theorem mL_length_0 : Cond.classLink RL 20 "java/util/NoSuchElementException" ∈ wsL_length := by decide +kernel
theorem mL_length_1 : Cond.classLink RL 15 "java/lang/IllegalStateException" ∈ wsL_length := by decide +kernel
def fL_length (uU : (Nat → Int64)) (gB : Int32) (nS : Int32) (nK : (Nat → Int32)) (fL : (Nat → Int32)) (p0 : Int32) : Option (Int32 × (Nat → Int64)) := (fX5_length gB nS nK fL p0).bind fun v1 => Sum.elim (fun x2 : String => if x2 = "java/util/NoSuchElementException" then some (1, uU) else if x2 = "java/lang/IllegalStateException" then some (2, uU) else none) (fun r3 : Int32 => some (0, (vp_updL uU (0 : Int32).toNatClampNeg r3.toInt64))) v1
set_option maxRecDepth 100000 in
set_option maxHeartbeats 4000000 in
theorem kL_length (l : Launch) (K : zK) (aU : Nat) (aH : Nat) (aN : Nat) (aNk : Nat) (aNn : Nat) (aF : Nat) (aFl : Nat) (aFc : Nat) (aFq : Nat) (aA : Nat) (aC : Nat) (aO : Nat) (aX : Nat)  (uU : (Nat → Int64)) (gB : Int32) (gK : Int32) (nS : Int32) (nK : (Nat → Int32)) (nN : (Nat → Int32)) (fM : Int32) (fL : (Nat → Int32)) (fC : (Nat → Int32)) (fQ : (Nat → Int32)) (p0 : Int32) (r : Int32 × (Nat → Int64)) (hres : fL_length uU gB nS nK fL p0 = some r) : zX l K yL_length wsL_length ({ frames := 8, cells := 8, slots := 48, locals := 126 }) [.ref aH, .int p0, .ref aU] [(aU, .inl (K.2 4, 1, .inr (.inl uU))), (aH, .inr (5, [.ref aN, .ref aF, .ref aA, .ref aC, .ref aO, .ref aX, .int gB, .int gK])), (aN, .inr (3, [.ref aNk, .ref aNn, .int nS])), (aNk, .inl (K.2 0, 12, .inl nK)), (aNn, .inl (K.2 0, 12, .inl nN)), (aF, .inr (2, [.ref aFl, .ref aFc, .ref aFq, .int fM])), (aFl, .inl (K.2 0, 12, .inl fL)), (aFc, .inl (K.2 0, 12, .inl fC)), (aFq, .inl (K.2 0, 12, .inl fQ))] (.inr (some (.int r.1))) [(aU, .inl (K.2 4, 1, .inr (.inl r.2))), (aH, .inr (5, [.ref aN, .ref aF, .ref aA, .ref aC, .ref aO, .ref aX, .int gB, .int gK])), (aN, .inr (3, [.ref aNk, .ref aNn, .int nS])), (aNk, .inl (K.2 0, 12, .inl nK)), (aNn, .inl (K.2 0, 12, .inl nN)), (aF, .inr (2, [.ref aFl, .ref aFc, .ref aFq, .int fM])), (aFl, .inl (K.2 0, 12, .inl fL)), (aFc, .inl (K.2 0, 12, .inl fC)), (aFq, .inl (K.2 0, 12, .inl fQ))] 8 48 := by
  refine zX.intH (cc := cL_length) (maxL := 4) (ret := (some .int)) (hh := [(0, 9, 12, 20), (0, 9, 15, 15)]) rfl (by decide) (Nat.le_of_ble_eq_true rfl) rfl ?_
  intro G hGl hG hV hT hR
  unfold fL_length at hres
  show zj G 0 [(0, .ref aH), (1, .int p0), (2, .ref aU)] [] [(aU, .inl (K.2 4, 1, .inr (.inl uU))), (aH, .inr (5, [.ref aN, .ref aF, .ref aA, .ref aC, .ref aO, .ref aX, .int gB, .int gK])), (aN, .inr (3, [.ref aNk, .ref aNn, .int nS])), (aNk, .inl (K.2 0, 12, .inl nK)), (aNn, .inl (K.2 0, 12, .inl nN)), (aF, .inr (2, [.ref aFl, .ref aFc, .ref aFq, .int fM])), (aFl, .inl (K.2 0, 12, .inl fL)), (aFc, .inl (K.2 0, 12, .inl fC)), (aFq, .inl (K.2 0, 12, .inl fQ))] 0 0
  refine z_aload_n hG dL_length_0 2 rfl ?_
  refine z_iconst 0 hG dL_length_1 (by decide) ?_
  refine z_aload_n hG dL_length_2 0 rfl ?_
  refine z_iload_n hG dL_length_3 1 rfl ?_
  obtain ⟨v1, hv, hres⟩ := z_bind hres
  refine z_callX (As := [.int p0]) (rest := [.int 0, .ref aU]) (wr := [(aU, .inl (K.2 4, 1, .inr (.inl uU)))]) (ws' := [(aU, .inl (K.2 4, 1, .inr (.inl uU))), (aH, .inr (5, [.ref aN, .ref aF, .ref aA, .ref aC, .ref aO, .ref aX, .int gB, .int gK])), (aN, .inr (3, [.ref aNk, .ref aNn, .int nS])), (aNk, .inl (K.2 0, 12, .inl nK)), (aNn, .inl (K.2 0, 12, .inl nN)), (aF, .inr (2, [.ref aFl, .ref aFc, .ref aFq, .int fM])), (aFl, .inl (K.2 0, 12, .inl fL)), (aFc, .inl (K.2 0, 12, .inl fC)), (aFq, .inl (K.2 0, 12, .inl fQ))]) (kc' := 8) (ks' := 48) (n := 1) (C := RX5) (ci := 5) hG hV dL_length_4 (kX5_length _ K aH aN aNk aNn aF aFl aFc aFq aA aC aO aX gB gK nS nK nN fM fL fC fQ p0 v1 hv) gL_length_X5_length rfl rfl rfl ⟨rfl, by decide, by decide, rfl⟩ ⟨by decide, by decide⟩ (Nat.le_of_ble_eq_true rfl) ⟨(Nat.le_of_ble_eq_true rfl), (Nat.le_of_ble_eq_true rfl)⟩ [1, 2, 3, 4, 5, 6, 7, 8] [0] [0, 1, 2, 3, 4, 5, 6, 7, 8] rfl rfl rfl rfl (by decide) rfl rfl rfl rfl rfl 0 rfl rfl rfl rfl (fun o9 ho => ?_) (fun E9 ho => ?_)
  · rcases hv1 : v1 with x2 | r3
    · rw [hv1] at ho
      cases ho
    rw [hv1] at ho
    obtain rfl := Sum.inr.inj ho
    replace hres := z_elimR hv1 hres
    show zj G 7 [(0, .ref aH), (1, .int p0), (2, .ref aU)] [.int r3, .int 0, .ref aU] [(aU, .inl (K.2 4, 1, .inr (.inl uU))), (aH, .inr (5, [.ref aN, .ref aF, .ref aA, .ref aC, .ref aO, .ref aX, .int gB, .int gK])), (aN, .inr (3, [.ref aNk, .ref aNn, .int nS])), (aNk, .inl (K.2 0, 12, .inl nK)), (aNn, .inl (K.2 0, 12, .inl nN)), (aF, .inr (2, [.ref aFl, .ref aFc, .ref aFq, .int fM])), (aFl, .inl (K.2 0, 12, .inl fL)), (aFc, .inl (K.2 0, 12, .inl fC)), (aFq, .inl (K.2 0, 12, .inl fQ))] 8 48
    refine z_i2l hG dL_length_7 ?_
    refine z_last (ws' := [(aU, .inl (K.2 4, 1, .inr (.inl (vp_updL uU (0 : Int32).toNatClampNeg r3.toInt64)))), (aH, .inr (5, [.ref aN, .ref aF, .ref aA, .ref aC, .ref aO, .ref aX, .int gB, .int gK])), (aN, .inr (3, [.ref aNk, .ref aNn, .int nS])), (aNk, .inl (K.2 0, 12, .inl nK)), (aNn, .inl (K.2 0, 12, .inl nN)), (aF, .inr (2, [.ref aFl, .ref aFc, .ref aFq, .int fM])), (aFl, .inl (K.2 0, 12, .inl fL)), (aFc, .inl (K.2 0, 12, .inl fC)), (aFq, .inl (K.2 0, 12, .inl fQ))]) hG dL_length_8 0 rfl (by decide) rfl ?_
    refine z_goto 18 hG dL_length_9 (by decide) ?_
    refine z_iconst 0 hG dL_length_18 (by decide) ?_
    obtain rfl := Option.some.inj hres
    exact (hR _ rfl _ _ dL_length_19)
  · rcases hv1 : v1 with x2 | r3
    rotate_left
    · rw [hv1] at ho
      cases ho
    rw [hv1] at ho
    obtain rfl := Sum.inl.inj ho
    replace hres := z_elimL hv1 hres
    by_cases c : x2 = "java/util/NoSuchElementException"
    · replace hres := z_ifp c hres
      subst c
      refine z_catch (h1 := []) (a := 0) (b := 9) (hd := 12) (ct := 20) (h2 := [(0, 9, 15, 15)]) hG hV hT (fun _ h => absurd h List.not_mem_nil) (by decide) (by decide) (by decide) mL_length_0 (by decide) (fun q4 => ?_)
      show zj G 12 [(0, .ref aH), (1, .int p0), (2, .ref aU)] [.ref q4] [(aU, .inl (K.2 4, 1, .inr (.inl uU))), (aH, .inr (5, [.ref aN, .ref aF, .ref aA, .ref aC, .ref aO, .ref aX, .int gB, .int gK])), (aN, .inr (3, [.ref aNk, .ref aNn, .int nS])), (aNk, .inl (K.2 0, 12, .inl nK)), (aNn, .inl (K.2 0, 12, .inl nN)), (aF, .inr (2, [.ref aFl, .ref aFc, .ref aFq, .int fM])), (aFl, .inl (K.2 0, 12, .inl fL)), (aFc, .inl (K.2 0, 12, .inl fC)), (aFq, .inl (K.2 0, 12, .inl fQ))] 8 48
      refine z_astore_n (lv' := [(3, .ref q4), (0, .ref aH), (1, .int p0), (2, .ref aU)]) hG dL_length_12 (by decide) rfl ?_
      refine z_iconst 1 hG dL_length_13 (by decide) ?_
      obtain rfl := Option.some.inj hres
      exact (hR _ rfl _ _ dL_length_14)
    replace hres := z_ifn c hres
    by_cases c : x2 = "java/lang/IllegalStateException"
    · replace hres := z_ifp c hres
      subst c
      refine z_catch (h1 := [(0, 9, 12, 20)]) (a := 0) (b := 9) (hd := 15) (ct := 15) (h2 := []) hG hV hT (List.forall_mem_cons.mpr ⟨⟨by decide, _, mL_length_0, by decide, by decide⟩, (fun _ h => absurd h List.not_mem_nil)⟩) (by decide) (by decide) (by decide) mL_length_1 (by decide) (fun q5 => ?_)
      show zj G 15 [(0, .ref aH), (1, .int p0), (2, .ref aU)] [.ref q5] [(aU, .inl (K.2 4, 1, .inr (.inl uU))), (aH, .inr (5, [.ref aN, .ref aF, .ref aA, .ref aC, .ref aO, .ref aX, .int gB, .int gK])), (aN, .inr (3, [.ref aNk, .ref aNn, .int nS])), (aNk, .inl (K.2 0, 12, .inl nK)), (aNn, .inl (K.2 0, 12, .inl nN)), (aF, .inr (2, [.ref aFl, .ref aFc, .ref aFq, .int fM])), (aFl, .inl (K.2 0, 12, .inl fL)), (aFc, .inl (K.2 0, 12, .inl fC)), (aFq, .inl (K.2 0, 12, .inl fQ))] 8 48
      refine z_astore_n (lv' := [(3, .ref q5), (0, .ref aH), (1, .int p0), (2, .ref aU)]) hG dL_length_15 (by decide) rfl ?_
      refine z_iconst 2 hG dL_length_16 (by decide) ?_
      obtain rfl := Option.some.inj hres
      exact (hR _ rfl _ _ dL_length_17)
    replace hres := z_ifn c hres
    cases hres

theorem dL_farthest_0 : decode cL_farthest 0 = .ok (.aload_n 1, 1) := by decide +kernel
theorem dL_farthest_1 : decode cL_farthest 1 = .ok (.iconst 0, 1) := by decide +kernel
theorem dL_farthest_2 : decode cL_farthest 2 = .ok (.aload_n 0, 1) := by decide +kernel
theorem dL_farthest_3 : decode cL_farthest 3 = .ok (.invokevirtual 44, 3) := by decide +kernel
theorem dL_farthest_6 : decode cL_farthest 6 = .ok (.i2l, 1) := by decide +kernel
theorem dL_farthest_7 : decode cL_farthest 7 = .ok (.lastore, 1) := by decide +kernel
theorem dL_farthest_8 : decode cL_farthest 8 = .ok (.goto 6, 3) := by decide +kernel
theorem dL_farthest_11 : decode cL_farthest 11 = .ok (.astore_n 2, 1) := by decide +kernel
theorem dL_farthest_12 : decode cL_farthest 12 = .ok (.iconst 1, 1) := by decide +kernel
theorem dL_farthest_13 : decode cL_farthest 13 = .ok (.ireturn, 1) := by decide +kernel
theorem dL_farthest_14 : decode cL_farthest 14 = .ok (.iconst 0, 1) := by decide +kernel
theorem dL_farthest_15 : decode cL_farthest 15 = .ok (.ireturn, 1) := by decide +kernel
set_option maxRecDepth 20000 in
theorem ggL_farthest_X5_farthest : GoodIn wsL_farthest wsX5_farthest := goodIn_ca (goodIn_r _ [6, 7, 8, 9, 10, 11, 12, 13, 14, 15, 16, 17, 5, 18, 19, 20, 21, 22, 23, 24, 25, 26, 27, 28, 29, 30, 31, 32, 33, 34, 35, 36] (by decide +kernel) (by decide +kernel)) (goodIn_sub (fun _ h => List.mem_cons_of_mem _ (List.mem_append_right _ h)) (by decide +kernel))
set_option maxRecDepth 20000 in
theorem gL_farthest_X5_farthest : GoodIn wsL_farthest (wsV RL 44 RX5 yX5_farthest wsX5_farthest) := goodIn_app (goodIn_of _ (by decide +kernel)) ggL_farthest_X5_farthest
theorem mL_farthest_0 : Cond.classLink RL 15 "java/lang/IllegalStateException" ∈ wsL_farthest := by decide +kernel
def fL_farthest (uU : (Nat → Int64)) (gB : Int32) (nS : Int32) (fL : (Nat → Int32)) : Option (Int32 × (Nat → Int64)) := (fX5_farthest gB nS fL).bind fun v1 => Sum.elim (fun x2 : String => if x2 = "java/lang/IllegalStateException" then some (1, uU) else none) (fun r3 : Int32 => some (0, (vp_updL uU (0 : Int32).toNatClampNeg r3.toInt64))) v1
set_option maxRecDepth 100000 in
set_option maxHeartbeats 4000000 in
theorem kL_farthest (l : Launch) (K : zK) (aU : Nat) (aH : Nat) (aN : Nat) (aNk : Nat) (aNn : Nat) (aF : Nat) (aFl : Nat) (aFc : Nat) (aFq : Nat) (aA : Nat) (aC : Nat) (aO : Nat) (aX : Nat)  (uU : (Nat → Int64)) (gB : Int32) (gK : Int32) (nS : Int32) (nK : (Nat → Int32)) (nN : (Nat → Int32)) (fM : Int32) (fL : (Nat → Int32)) (fC : (Nat → Int32)) (fQ : (Nat → Int32)) (r : Int32 × (Nat → Int64)) (hres : fL_farthest uU gB nS fL = some r) : zX l K yL_farthest wsL_farthest ({ frames := 8, cells := 8, slots := 48, locals := 124 }) [.ref aH, .ref aU] [(aU, .inl (K.2 4, 1, .inr (.inl uU))), (aH, .inr (5, [.ref aN, .ref aF, .ref aA, .ref aC, .ref aO, .ref aX, .int gB, .int gK])), (aN, .inr (3, [.ref aNk, .ref aNn, .int nS])), (aNk, .inl (K.2 0, 12, .inl nK)), (aNn, .inl (K.2 0, 12, .inl nN)), (aF, .inr (2, [.ref aFl, .ref aFc, .ref aFq, .int fM])), (aFl, .inl (K.2 0, 12, .inl fL)), (aFc, .inl (K.2 0, 12, .inl fC)), (aFq, .inl (K.2 0, 12, .inl fQ))] (.inr (some (.int r.1))) [(aU, .inl (K.2 4, 1, .inr (.inl r.2))), (aH, .inr (5, [.ref aN, .ref aF, .ref aA, .ref aC, .ref aO, .ref aX, .int gB, .int gK])), (aN, .inr (3, [.ref aNk, .ref aNn, .int nS])), (aNk, .inl (K.2 0, 12, .inl nK)), (aNn, .inl (K.2 0, 12, .inl nN)), (aF, .inr (2, [.ref aFl, .ref aFc, .ref aFq, .int fM])), (aFl, .inl (K.2 0, 12, .inl fL)), (aFc, .inl (K.2 0, 12, .inl fC)), (aFq, .inl (K.2 0, 12, .inl fQ))] 8 48 := by
  refine zX.intH (cc := cL_farthest) (maxL := 3) (ret := (some .int)) (hh := [(0, 8, 11, 15)]) rfl (by decide) (Nat.le_of_ble_eq_true rfl) rfl ?_
  intro G hGl hG hV hT hR
  unfold fL_farthest at hres
  show zj G 0 [(0, .ref aH), (1, .ref aU)] [] [(aU, .inl (K.2 4, 1, .inr (.inl uU))), (aH, .inr (5, [.ref aN, .ref aF, .ref aA, .ref aC, .ref aO, .ref aX, .int gB, .int gK])), (aN, .inr (3, [.ref aNk, .ref aNn, .int nS])), (aNk, .inl (K.2 0, 12, .inl nK)), (aNn, .inl (K.2 0, 12, .inl nN)), (aF, .inr (2, [.ref aFl, .ref aFc, .ref aFq, .int fM])), (aFl, .inl (K.2 0, 12, .inl fL)), (aFc, .inl (K.2 0, 12, .inl fC)), (aFq, .inl (K.2 0, 12, .inl fQ))] 0 0
  refine z_aload_n hG dL_farthest_0 1 rfl ?_
  refine z_iconst 0 hG dL_farthest_1 (by decide) ?_
  refine z_aload_n hG dL_farthest_2 0 rfl ?_
  obtain ⟨v1, hv, hres⟩ := z_bind hres
  refine z_callX (As := []) (rest := [.int 0, .ref aU]) (wr := [(aU, .inl (K.2 4, 1, .inr (.inl uU)))]) (ws' := [(aU, .inl (K.2 4, 1, .inr (.inl uU))), (aH, .inr (5, [.ref aN, .ref aF, .ref aA, .ref aC, .ref aO, .ref aX, .int gB, .int gK])), (aN, .inr (3, [.ref aNk, .ref aNn, .int nS])), (aNk, .inl (K.2 0, 12, .inl nK)), (aNn, .inl (K.2 0, 12, .inl nN)), (aF, .inr (2, [.ref aFl, .ref aFc, .ref aFq, .int fM])), (aFl, .inl (K.2 0, 12, .inl fL)), (aFc, .inl (K.2 0, 12, .inl fC)), (aFq, .inl (K.2 0, 12, .inl fQ))]) (kc' := 8) (ks' := 48) (n := 0) (C := RX5) (ci := 5) hG hV dL_farthest_3 (kX5_farthest _ K aH aN aNk aNn aF aFl aFc aFq aA aC aO aX gB gK nS nK nN fM fL fC fQ v1 hv) gL_farthest_X5_farthest rfl rfl rfl ⟨rfl, by decide, by decide, rfl⟩ ⟨by decide, by decide⟩ (Nat.le_of_ble_eq_true rfl) ⟨(Nat.le_of_ble_eq_true rfl), (Nat.le_of_ble_eq_true rfl)⟩ [1, 2, 3, 4, 5, 6, 7, 8] [0] [0, 1, 2, 3, 4, 5, 6, 7, 8] rfl rfl rfl rfl (by decide) rfl rfl rfl rfl rfl 0 rfl rfl rfl rfl (fun o9 ho => ?_) (fun E9 ho => ?_)
  · rcases hv1 : v1 with x2 | r3
    · rw [hv1] at ho
      cases ho
    rw [hv1] at ho
    obtain rfl := Sum.inr.inj ho
    replace hres := z_elimR hv1 hres
    show zj G 6 [(0, .ref aH), (1, .ref aU)] [.int r3, .int 0, .ref aU] [(aU, .inl (K.2 4, 1, .inr (.inl uU))), (aH, .inr (5, [.ref aN, .ref aF, .ref aA, .ref aC, .ref aO, .ref aX, .int gB, .int gK])), (aN, .inr (3, [.ref aNk, .ref aNn, .int nS])), (aNk, .inl (K.2 0, 12, .inl nK)), (aNn, .inl (K.2 0, 12, .inl nN)), (aF, .inr (2, [.ref aFl, .ref aFc, .ref aFq, .int fM])), (aFl, .inl (K.2 0, 12, .inl fL)), (aFc, .inl (K.2 0, 12, .inl fC)), (aFq, .inl (K.2 0, 12, .inl fQ))] 8 48
    refine z_i2l hG dL_farthest_6 ?_
    refine z_last (ws' := [(aU, .inl (K.2 4, 1, .inr (.inl (vp_updL uU (0 : Int32).toNatClampNeg r3.toInt64)))), (aH, .inr (5, [.ref aN, .ref aF, .ref aA, .ref aC, .ref aO, .ref aX, .int gB, .int gK])), (aN, .inr (3, [.ref aNk, .ref aNn, .int nS])), (aNk, .inl (K.2 0, 12, .inl nK)), (aNn, .inl (K.2 0, 12, .inl nN)), (aF, .inr (2, [.ref aFl, .ref aFc, .ref aFq, .int fM])), (aFl, .inl (K.2 0, 12, .inl fL)), (aFc, .inl (K.2 0, 12, .inl fC)), (aFq, .inl (K.2 0, 12, .inl fQ))]) hG dL_farthest_7 0 rfl (by decide) rfl ?_
    refine z_goto 14 hG dL_farthest_8 (by decide) ?_
    refine z_iconst 0 hG dL_farthest_14 (by decide) ?_
    obtain rfl := Option.some.inj hres
    exact (hR _ rfl _ _ dL_farthest_15)
  · rcases hv1 : v1 with x2 | r3
    rotate_left
    · rw [hv1] at ho
      cases ho
    rw [hv1] at ho
    obtain rfl := Sum.inl.inj ho
    replace hres := z_elimL hv1 hres
    by_cases c : x2 = "java/lang/IllegalStateException"
    · replace hres := z_ifp c hres
      subst c
      refine z_catch (h1 := []) (a := 0) (b := 8) (hd := 11) (ct := 15) (h2 := []) hG hV hT (fun _ h => absurd h List.not_mem_nil) (by decide) (by decide) (by decide) mL_farthest_0 (by decide) (fun q4 => ?_)
      show zj G 11 [(0, .ref aH), (1, .ref aU)] [.ref q4] [(aU, .inl (K.2 4, 1, .inr (.inl uU))), (aH, .inr (5, [.ref aN, .ref aF, .ref aA, .ref aC, .ref aO, .ref aX, .int gB, .int gK])), (aN, .inr (3, [.ref aNk, .ref aNn, .int nS])), (aNk, .inl (K.2 0, 12, .inl nK)), (aNn, .inl (K.2 0, 12, .inl nN)), (aF, .inr (2, [.ref aFl, .ref aFc, .ref aFq, .int fM])), (aFl, .inl (K.2 0, 12, .inl fL)), (aFc, .inl (K.2 0, 12, .inl fC)), (aFq, .inl (K.2 0, 12, .inl fQ))] 8 48
      refine z_astore_n (lv' := [(2, .ref q4), (0, .ref aH), (1, .ref aU)]) hG dL_farthest_11 (by decide) rfl ?_
      refine z_iconst 1 hG dL_farthest_12 (by decide) ?_
      obtain rfl := Option.some.inj hres
      exact (hR _ rfl _ _ dL_farthest_13)
    replace hres := z_ifn c hres
    cases hres

theorem dL_layer_0 : decode cL_layer 0 = .ok (.aload_n 2, 1) := by decide +kernel
theorem dL_layer_1 : decode cL_layer 1 = .ok (.iconst 0, 1) := by decide +kernel
theorem dL_layer_2 : decode cL_layer 2 = .ok (.aload_n 0, 1) := by decide +kernel
theorem dL_layer_3 : decode cL_layer 3 = .ok (.iload_n 1, 1) := by decide +kernel
theorem dL_layer_4 : decode cL_layer 4 = .ok (.invokevirtual 48, 3) := by decide +kernel
theorem dL_layer_7 : decode cL_layer 7 = .ok (.i2l, 1) := by decide +kernel
theorem dL_layer_8 : decode cL_layer 8 = .ok (.lastore, 1) := by decide +kernel
theorem dL_layer_9 : decode cL_layer 9 = .ok (.goto 6, 3) := by decide +kernel
theorem dL_layer_12 : decode cL_layer 12 = .ok (.astore_n 3, 1) := by decide +kernel
theorem dL_layer_13 : decode cL_layer 13 = .ok (.iconst 1, 1) := by decide +kernel
theorem dL_layer_14 : decode cL_layer 14 = .ok (.ireturn, 1) := by decide +kernel
theorem dL_layer_15 : decode cL_layer 15 = .ok (.iconst 0, 1) := by decide +kernel
theorem dL_layer_16 : decode cL_layer 16 = .ok (.ireturn, 1) := by decide +kernel
set_option maxRecDepth 20000 in
theorem ggL_layer_X5_layer : GoodIn wsL_layer wsX5_layer := goodIn_ca (goodIn_r _ [6, 7, 8, 9, 10, 11, 12, 13, 5, 14, 15, 16, 17, 18, 19, 20, 21, 22, 23, 24, 25, 26, 27, 28, 29, 30, 31, 32] (by decide +kernel) (by decide +kernel)) (goodIn_sub (fun _ h => List.mem_cons_of_mem _ (List.mem_append_right _ h)) (by decide +kernel))
set_option maxRecDepth 20000 in
theorem gL_layer_X5_layer : GoodIn wsL_layer (wsV RL 48 RX5 yX5_layer wsX5_layer) := goodIn_app (goodIn_of _ (by decide +kernel)) ggL_layer_X5_layer
theorem mL_layer_0 : Cond.classLink RL 15 "java/lang/IllegalStateException" ∈ wsL_layer := by decide +kernel
def fL_layer (uU : (Nat → Int64)) (gB : Int32) (nS : Int32) (fL : (Nat → Int32)) (p0 : Int32) : Option (Int32 × (Nat → Int64)) := (fX5_layer gB nS fL p0).bind fun v1 => Sum.elim (fun x2 : String => if x2 = "java/lang/IllegalStateException" then some (1, uU) else none) (fun r3 : Int32 => some (0, (vp_updL uU (0 : Int32).toNatClampNeg r3.toInt64))) v1
set_option maxRecDepth 100000 in
set_option maxHeartbeats 4000000 in
theorem kL_layer (l : Launch) (K : zK) (aU : Nat) (aH : Nat) (aN : Nat) (aNk : Nat) (aNn : Nat) (aF : Nat) (aFl : Nat) (aFc : Nat) (aFq : Nat) (aA : Nat) (aC : Nat) (aO : Nat) (aX : Nat)  (uU : (Nat → Int64)) (gB : Int32) (gK : Int32) (nS : Int32) (nK : (Nat → Int32)) (nN : (Nat → Int32)) (fM : Int32) (fL : (Nat → Int32)) (fC : (Nat → Int32)) (fQ : (Nat → Int32)) (p0 : Int32) (r : Int32 × (Nat → Int64)) (hres : fL_layer uU gB nS fL p0 = some r) : zX l K yL_layer wsL_layer ({ frames := 8, cells := 8, slots := 48, locals := 125 }) [.ref aH, .int p0, .ref aU] [(aU, .inl (K.2 4, 1, .inr (.inl uU))), (aH, .inr (5, [.ref aN, .ref aF, .ref aA, .ref aC, .ref aO, .ref aX, .int gB, .int gK])), (aN, .inr (3, [.ref aNk, .ref aNn, .int nS])), (aNk, .inl (K.2 0, 12, .inl nK)), (aNn, .inl (K.2 0, 12, .inl nN)), (aF, .inr (2, [.ref aFl, .ref aFc, .ref aFq, .int fM])), (aFl, .inl (K.2 0, 12, .inl fL)), (aFc, .inl (K.2 0, 12, .inl fC)), (aFq, .inl (K.2 0, 12, .inl fQ))] (.inr (some (.int r.1))) [(aU, .inl (K.2 4, 1, .inr (.inl r.2))), (aH, .inr (5, [.ref aN, .ref aF, .ref aA, .ref aC, .ref aO, .ref aX, .int gB, .int gK])), (aN, .inr (3, [.ref aNk, .ref aNn, .int nS])), (aNk, .inl (K.2 0, 12, .inl nK)), (aNn, .inl (K.2 0, 12, .inl nN)), (aF, .inr (2, [.ref aFl, .ref aFc, .ref aFq, .int fM])), (aFl, .inl (K.2 0, 12, .inl fL)), (aFc, .inl (K.2 0, 12, .inl fC)), (aFq, .inl (K.2 0, 12, .inl fQ))] 8 48 := by
  refine zX.intH (cc := cL_layer) (maxL := 4) (ret := (some .int)) (hh := [(0, 9, 12, 15)]) rfl (by decide) (Nat.le_of_ble_eq_true rfl) rfl ?_
  intro G hGl hG hV hT hR
  unfold fL_layer at hres
  show zj G 0 [(0, .ref aH), (1, .int p0), (2, .ref aU)] [] [(aU, .inl (K.2 4, 1, .inr (.inl uU))), (aH, .inr (5, [.ref aN, .ref aF, .ref aA, .ref aC, .ref aO, .ref aX, .int gB, .int gK])), (aN, .inr (3, [.ref aNk, .ref aNn, .int nS])), (aNk, .inl (K.2 0, 12, .inl nK)), (aNn, .inl (K.2 0, 12, .inl nN)), (aF, .inr (2, [.ref aFl, .ref aFc, .ref aFq, .int fM])), (aFl, .inl (K.2 0, 12, .inl fL)), (aFc, .inl (K.2 0, 12, .inl fC)), (aFq, .inl (K.2 0, 12, .inl fQ))] 0 0
  refine z_aload_n hG dL_layer_0 2 rfl ?_
  refine z_iconst 0 hG dL_layer_1 (by decide) ?_
  refine z_aload_n hG dL_layer_2 0 rfl ?_
  refine z_iload_n hG dL_layer_3 1 rfl ?_
  obtain ⟨v1, hv, hres⟩ := z_bind hres
  refine z_callX (As := [.int p0]) (rest := [.int 0, .ref aU]) (wr := [(aU, .inl (K.2 4, 1, .inr (.inl uU)))]) (ws' := [(aU, .inl (K.2 4, 1, .inr (.inl uU))), (aH, .inr (5, [.ref aN, .ref aF, .ref aA, .ref aC, .ref aO, .ref aX, .int gB, .int gK])), (aN, .inr (3, [.ref aNk, .ref aNn, .int nS])), (aNk, .inl (K.2 0, 12, .inl nK)), (aNn, .inl (K.2 0, 12, .inl nN)), (aF, .inr (2, [.ref aFl, .ref aFc, .ref aFq, .int fM])), (aFl, .inl (K.2 0, 12, .inl fL)), (aFc, .inl (K.2 0, 12, .inl fC)), (aFq, .inl (K.2 0, 12, .inl fQ))]) (kc' := 8) (ks' := 48) (n := 1) (C := RX5) (ci := 5) hG hV dL_layer_4 (kX5_layer _ K aH aN aNk aNn aF aFl aFc aFq aA aC aO aX gB gK nS nK nN fM fL fC fQ p0 v1 hv) gL_layer_X5_layer rfl rfl rfl ⟨rfl, by decide, by decide, rfl⟩ ⟨by decide, by decide⟩ (Nat.le_of_ble_eq_true rfl) ⟨(Nat.le_of_ble_eq_true rfl), (Nat.le_of_ble_eq_true rfl)⟩ [1, 2, 3, 4, 5, 6, 7, 8] [0] [0, 1, 2, 3, 4, 5, 6, 7, 8] rfl rfl rfl rfl (by decide) rfl rfl rfl rfl rfl 0 rfl rfl rfl rfl (fun o9 ho => ?_) (fun E9 ho => ?_)
  · rcases hv1 : v1 with x2 | r3
    · rw [hv1] at ho
      cases ho
    rw [hv1] at ho
    obtain rfl := Sum.inr.inj ho
    replace hres := z_elimR hv1 hres
    show zj G 7 [(0, .ref aH), (1, .int p0), (2, .ref aU)] [.int r3, .int 0, .ref aU] [(aU, .inl (K.2 4, 1, .inr (.inl uU))), (aH, .inr (5, [.ref aN, .ref aF, .ref aA, .ref aC, .ref aO, .ref aX, .int gB, .int gK])), (aN, .inr (3, [.ref aNk, .ref aNn, .int nS])), (aNk, .inl (K.2 0, 12, .inl nK)), (aNn, .inl (K.2 0, 12, .inl nN)), (aF, .inr (2, [.ref aFl, .ref aFc, .ref aFq, .int fM])), (aFl, .inl (K.2 0, 12, .inl fL)), (aFc, .inl (K.2 0, 12, .inl fC)), (aFq, .inl (K.2 0, 12, .inl fQ))] 8 48
    refine z_i2l hG dL_layer_7 ?_
    refine z_last (ws' := [(aU, .inl (K.2 4, 1, .inr (.inl (vp_updL uU (0 : Int32).toNatClampNeg r3.toInt64)))), (aH, .inr (5, [.ref aN, .ref aF, .ref aA, .ref aC, .ref aO, .ref aX, .int gB, .int gK])), (aN, .inr (3, [.ref aNk, .ref aNn, .int nS])), (aNk, .inl (K.2 0, 12, .inl nK)), (aNn, .inl (K.2 0, 12, .inl nN)), (aF, .inr (2, [.ref aFl, .ref aFc, .ref aFq, .int fM])), (aFl, .inl (K.2 0, 12, .inl fL)), (aFc, .inl (K.2 0, 12, .inl fC)), (aFq, .inl (K.2 0, 12, .inl fQ))]) hG dL_layer_8 0 rfl (by decide) rfl ?_
    refine z_goto 15 hG dL_layer_9 (by decide) ?_
    refine z_iconst 0 hG dL_layer_15 (by decide) ?_
    obtain rfl := Option.some.inj hres
    exact (hR _ rfl _ _ dL_layer_16)
  · rcases hv1 : v1 with x2 | r3
    rotate_left
    · rw [hv1] at ho
      cases ho
    rw [hv1] at ho
    obtain rfl := Sum.inl.inj ho
    replace hres := z_elimL hv1 hres
    by_cases c : x2 = "java/lang/IllegalStateException"
    · replace hres := z_ifp c hres
      subst c
      refine z_catch (h1 := []) (a := 0) (b := 9) (hd := 12) (ct := 15) (h2 := []) hG hV hT (fun _ h => absurd h List.not_mem_nil) (by decide) (by decide) (by decide) mL_layer_0 (by decide) (fun q4 => ?_)
      show zj G 12 [(0, .ref aH), (1, .int p0), (2, .ref aU)] [.ref q4] [(aU, .inl (K.2 4, 1, .inr (.inl uU))), (aH, .inr (5, [.ref aN, .ref aF, .ref aA, .ref aC, .ref aO, .ref aX, .int gB, .int gK])), (aN, .inr (3, [.ref aNk, .ref aNn, .int nS])), (aNk, .inl (K.2 0, 12, .inl nK)), (aNn, .inl (K.2 0, 12, .inl nN)), (aF, .inr (2, [.ref aFl, .ref aFc, .ref aFq, .int fM])), (aFl, .inl (K.2 0, 12, .inl fL)), (aFc, .inl (K.2 0, 12, .inl fC)), (aFq, .inl (K.2 0, 12, .inl fQ))] 8 48
      refine z_astore_n (lv' := [(3, .ref q4), (0, .ref aH), (1, .int p0), (2, .ref aU)]) hG dL_layer_12 (by decide) rfl ?_
      refine z_iconst 1 hG dL_layer_13 (by decide) ?_
      obtain rfl := Option.some.inj hres
      exact (hR _ rfl _ _ dL_layer_14)
    replace hres := z_ifn c hres
    cases hres

theorem dL_comes_0 : decode cL_comes 0 = .ok (.aload_n 2, 1) := by decide +kernel
theorem dL_comes_1 : decode cL_comes 1 = .ok (.iconst 0, 1) := by decide +kernel
theorem dL_comes_2 : decode cL_comes 2 = .ok (.aload_n 0, 1) := by decide +kernel
theorem dL_comes_3 : decode cL_comes 3 = .ok (.iload_n 1, 1) := by decide +kernel
theorem dL_comes_4 : decode cL_comes 4 = .ok (.invokevirtual 51, 3) := by decide +kernel
theorem dL_comes_7 : decode cL_comes 7 = .ok (.i2l, 1) := by decide +kernel
theorem dL_comes_8 : decode cL_comes 8 = .ok (.lastore, 1) := by decide +kernel
theorem dL_comes_9 : decode cL_comes 9 = .ok (.goto 9, 3) := by decide +kernel
theorem dL_comes_12 : decode cL_comes 12 = .ok (.astore_n 3, 1) := by decide +kernel
theorem dL_comes_13 : decode cL_comes 13 = .ok (.iconst 1, 1) := by decide +kernel
theorem dL_comes_14 : decode cL_comes 14 = .ok (.ireturn, 1) := by decide +kernel
theorem dL_comes_15 : decode cL_comes 15 = .ok (.astore_n 3, 1) := by decide +kernel
theorem dL_comes_16 : decode cL_comes 16 = .ok (.iconst 2, 1) := by decide +kernel
theorem dL_comes_17 : decode cL_comes 17 = .ok (.ireturn, 1) := by decide +kernel
theorem dL_comes_18 : decode cL_comes 18 = .ok (.iconst 0, 1) := by decide +kernel
theorem dL_comes_19 : decode cL_comes 19 = .ok (.ireturn, 1) := by decide +kernel
set_option maxRecDepth 20000 in
theorem ggL_comes_X5_comes : GoodIn wsL_comes wsX5_comes := goodIn_ca (goodIn_ca (goodIn_r _ [7, 8, 9, 10, 11, 12, 13, 14, 15, 16, 17, 6, 18, 19, 20, 21, 22, 23, 24, 25, 26, 27, 28, 29, 30, 31, 32, 33, 34, 35, 36] (by decide +kernel) (by decide +kernel)) (goodIn_sub (fun _ h => List.mem_cons_of_mem _ (List.mem_append_left _ (List.mem_append_right _ h))) (by decide +kernel))) (goodIn_sub (fun _ h => List.mem_cons_of_mem _ (List.mem_append_right _ h)) (by decide +kernel))
set_option maxRecDepth 20000 in
theorem gL_comes_X5_comes : GoodIn wsL_comes (wsV RL 51 RX5 yX5_comes wsX5_comes) := goodIn_app (goodIn_of _ (by decide +kernel)) ggL_comes_X5_comes
theorem mL_comes_0 : Cond.classLink RL 15 "java/lang/IllegalStateException" ∈ wsL_comes := by decide +kernel
theorem mL_comes_1 : Cond.classLink RL 36 "java/lang/IndexOutOfBoundsException" ∈ wsL_comes := by decide +kernel
def fL_comes (uU : (Nat → Int64)) (gB : Int32) (nK : (Nat → Int32)) (fM : Int32) (fQ : (Nat → Int32)) (p0 : Int32) : Option (Int32 × (Nat → Int64)) := (fX5_comes gB nK fM fQ p0).bind fun v1 => Sum.elim (fun x2 : String => if x2 = "java/lang/IllegalStateException" then some (1, uU) else if x2 = "java/lang/IndexOutOfBoundsException" then some (2, uU) else none) (fun r3 : Int32 => some (0, (vp_updL uU (0 : Int32).toNatClampNeg r3.toInt64))) v1
set_option maxRecDepth 100000 in
set_option maxHeartbeats 4000000 in
theorem kL_comes (l : Launch) (K : zK) (aU : Nat) (aH : Nat) (aN : Nat) (aNk : Nat) (aNn : Nat) (aF : Nat) (aFl : Nat) (aFc : Nat) (aFq : Nat) (aA : Nat) (aC : Nat) (aO : Nat) (aX : Nat)  (uU : (Nat → Int64)) (gB : Int32) (gK : Int32) (nS : Int32) (nK : (Nat → Int32)) (nN : (Nat → Int32)) (fM : Int32) (fL : (Nat → Int32)) (fC : (Nat → Int32)) (fQ : (Nat → Int32)) (p0 : Int32) (r : Int32 × (Nat → Int64)) (hres : fL_comes uU gB nK fM fQ p0 = some r) : zX l K yL_comes wsL_comes ({ frames := 8, cells := 8, slots := 48, locals := 123 }) [.ref aH, .int p0, .ref aU] [(aU, .inl (K.2 4, 1, .inr (.inl uU))), (aH, .inr (5, [.ref aN, .ref aF, .ref aA, .ref aC, .ref aO, .ref aX, .int gB, .int gK])), (aN, .inr (3, [.ref aNk, .ref aNn, .int nS])), (aNk, .inl (K.2 0, 12, .inl nK)), (aNn, .inl (K.2 0, 12, .inl nN)), (aF, .inr (2, [.ref aFl, .ref aFc, .ref aFq, .int fM])), (aFl, .inl (K.2 0, 12, .inl fL)), (aFc, .inl (K.2 0, 12, .inl fC)), (aFq, .inl (K.2 0, 12, .inl fQ))] (.inr (some (.int r.1))) [(aU, .inl (K.2 4, 1, .inr (.inl r.2))), (aH, .inr (5, [.ref aN, .ref aF, .ref aA, .ref aC, .ref aO, .ref aX, .int gB, .int gK])), (aN, .inr (3, [.ref aNk, .ref aNn, .int nS])), (aNk, .inl (K.2 0, 12, .inl nK)), (aNn, .inl (K.2 0, 12, .inl nN)), (aF, .inr (2, [.ref aFl, .ref aFc, .ref aFq, .int fM])), (aFl, .inl (K.2 0, 12, .inl fL)), (aFc, .inl (K.2 0, 12, .inl fC)), (aFq, .inl (K.2 0, 12, .inl fQ))] 8 48 := by
  refine zX.intH (cc := cL_comes) (maxL := 4) (ret := (some .int)) (hh := [(0, 9, 12, 15), (0, 9, 15, 36)]) rfl (by decide) (Nat.le_of_ble_eq_true rfl) rfl ?_
  intro G hGl hG hV hT hR
  unfold fL_comes at hres
  show zj G 0 [(0, .ref aH), (1, .int p0), (2, .ref aU)] [] [(aU, .inl (K.2 4, 1, .inr (.inl uU))), (aH, .inr (5, [.ref aN, .ref aF, .ref aA, .ref aC, .ref aO, .ref aX, .int gB, .int gK])), (aN, .inr (3, [.ref aNk, .ref aNn, .int nS])), (aNk, .inl (K.2 0, 12, .inl nK)), (aNn, .inl (K.2 0, 12, .inl nN)), (aF, .inr (2, [.ref aFl, .ref aFc, .ref aFq, .int fM])), (aFl, .inl (K.2 0, 12, .inl fL)), (aFc, .inl (K.2 0, 12, .inl fC)), (aFq, .inl (K.2 0, 12, .inl fQ))] 0 0
  refine z_aload_n hG dL_comes_0 2 rfl ?_
  refine z_iconst 0 hG dL_comes_1 (by decide) ?_
  refine z_aload_n hG dL_comes_2 0 rfl ?_
  refine z_iload_n hG dL_comes_3 1 rfl ?_
  obtain ⟨v1, hv, hres⟩ := z_bind hres
  refine z_callX (As := [.int p0]) (rest := [.int 0, .ref aU]) (wr := [(aU, .inl (K.2 4, 1, .inr (.inl uU)))]) (ws' := [(aU, .inl (K.2 4, 1, .inr (.inl uU))), (aH, .inr (5, [.ref aN, .ref aF, .ref aA, .ref aC, .ref aO, .ref aX, .int gB, .int gK])), (aN, .inr (3, [.ref aNk, .ref aNn, .int nS])), (aNk, .inl (K.2 0, 12, .inl nK)), (aNn, .inl (K.2 0, 12, .inl nN)), (aF, .inr (2, [.ref aFl, .ref aFc, .ref aFq, .int fM])), (aFl, .inl (K.2 0, 12, .inl fL)), (aFc, .inl (K.2 0, 12, .inl fC)), (aFq, .inl (K.2 0, 12, .inl fQ))]) (kc' := 8) (ks' := 48) (n := 1) (C := RX5) (ci := 5) hG hV dL_comes_4 (kX5_comes _ K aH aN aNk aNn aF aFl aFc aFq aA aC aO aX gB gK nS nK nN fM fL fC fQ p0 v1 hv) gL_comes_X5_comes rfl rfl rfl ⟨rfl, by decide, by decide, rfl⟩ ⟨by decide, by decide⟩ (Nat.le_of_ble_eq_true rfl) ⟨(Nat.le_of_ble_eq_true rfl), (Nat.le_of_ble_eq_true rfl)⟩ [1, 2, 3, 4, 5, 6, 7, 8] [0] [0, 1, 2, 3, 4, 5, 6, 7, 8] rfl rfl rfl rfl (by decide) rfl rfl rfl rfl rfl 0 rfl rfl rfl rfl (fun o9 ho => ?_) (fun E9 ho => ?_)
  · rcases hv1 : v1 with x2 | r3
    · rw [hv1] at ho
      cases ho
    rw [hv1] at ho
    obtain rfl := Sum.inr.inj ho
    replace hres := z_elimR hv1 hres
    show zj G 7 [(0, .ref aH), (1, .int p0), (2, .ref aU)] [.int r3, .int 0, .ref aU] [(aU, .inl (K.2 4, 1, .inr (.inl uU))), (aH, .inr (5, [.ref aN, .ref aF, .ref aA, .ref aC, .ref aO, .ref aX, .int gB, .int gK])), (aN, .inr (3, [.ref aNk, .ref aNn, .int nS])), (aNk, .inl (K.2 0, 12, .inl nK)), (aNn, .inl (K.2 0, 12, .inl nN)), (aF, .inr (2, [.ref aFl, .ref aFc, .ref aFq, .int fM])), (aFl, .inl (K.2 0, 12, .inl fL)), (aFc, .inl (K.2 0, 12, .inl fC)), (aFq, .inl (K.2 0, 12, .inl fQ))] 8 48
    refine z_i2l hG dL_comes_7 ?_
    refine z_last (ws' := [(aU, .inl (K.2 4, 1, .inr (.inl (vp_updL uU (0 : Int32).toNatClampNeg r3.toInt64)))), (aH, .inr (5, [.ref aN, .ref aF, .ref aA, .ref aC, .ref aO, .ref aX, .int gB, .int gK])), (aN, .inr (3, [.ref aNk, .ref aNn, .int nS])), (aNk, .inl (K.2 0, 12, .inl nK)), (aNn, .inl (K.2 0, 12, .inl nN)), (aF, .inr (2, [.ref aFl, .ref aFc, .ref aFq, .int fM])), (aFl, .inl (K.2 0, 12, .inl fL)), (aFc, .inl (K.2 0, 12, .inl fC)), (aFq, .inl (K.2 0, 12, .inl fQ))]) hG dL_comes_8 0 rfl (by decide) rfl ?_
    refine z_goto 18 hG dL_comes_9 (by decide) ?_
    refine z_iconst 0 hG dL_comes_18 (by decide) ?_
    obtain rfl := Option.some.inj hres
    exact (hR _ rfl _ _ dL_comes_19)
  · rcases hv1 : v1 with x2 | r3
    rotate_left
    · rw [hv1] at ho
      cases ho
    rw [hv1] at ho
    obtain rfl := Sum.inl.inj ho
    replace hres := z_elimL hv1 hres
    by_cases c : x2 = "java/lang/IllegalStateException"
    · replace hres := z_ifp c hres
      subst c
      refine z_catch (h1 := []) (a := 0) (b := 9) (hd := 12) (ct := 15) (h2 := [(0, 9, 15, 36)]) hG hV hT (fun _ h => absurd h List.not_mem_nil) (by decide) (by decide) (by decide) mL_comes_0 (by decide) (fun q4 => ?_)
      show zj G 12 [(0, .ref aH), (1, .int p0), (2, .ref aU)] [.ref q4] [(aU, .inl (K.2 4, 1, .inr (.inl uU))), (aH, .inr (5, [.ref aN, .ref aF, .ref aA, .ref aC, .ref aO, .ref aX, .int gB, .int gK])), (aN, .inr (3, [.ref aNk, .ref aNn, .int nS])), (aNk, .inl (K.2 0, 12, .inl nK)), (aNn, .inl (K.2 0, 12, .inl nN)), (aF, .inr (2, [.ref aFl, .ref aFc, .ref aFq, .int fM])), (aFl, .inl (K.2 0, 12, .inl fL)), (aFc, .inl (K.2 0, 12, .inl fC)), (aFq, .inl (K.2 0, 12, .inl fQ))] 8 48
      refine z_astore_n (lv' := [(3, .ref q4), (0, .ref aH), (1, .int p0), (2, .ref aU)]) hG dL_comes_12 (by decide) rfl ?_
      refine z_iconst 1 hG dL_comes_13 (by decide) ?_
      obtain rfl := Option.some.inj hres
      exact (hR _ rfl _ _ dL_comes_14)
    replace hres := z_ifn c hres
    by_cases c : x2 = "java/lang/IndexOutOfBoundsException"
    · replace hres := z_ifp c hres
      subst c
      refine z_catch (h1 := [(0, 9, 12, 15)]) (a := 0) (b := 9) (hd := 15) (ct := 36) (h2 := []) hG hV hT (List.forall_mem_cons.mpr ⟨⟨by decide, _, mL_comes_0, by decide, by decide⟩, (fun _ h => absurd h List.not_mem_nil)⟩) (by decide) (by decide) (by decide) mL_comes_1 (by decide) (fun q5 => ?_)
      show zj G 15 [(0, .ref aH), (1, .int p0), (2, .ref aU)] [.ref q5] [(aU, .inl (K.2 4, 1, .inr (.inl uU))), (aH, .inr (5, [.ref aN, .ref aF, .ref aA, .ref aC, .ref aO, .ref aX, .int gB, .int gK])), (aN, .inr (3, [.ref aNk, .ref aNn, .int nS])), (aNk, .inl (K.2 0, 12, .inl nK)), (aNn, .inl (K.2 0, 12, .inl nN)), (aF, .inr (2, [.ref aFl, .ref aFc, .ref aFq, .int fM])), (aFl, .inl (K.2 0, 12, .inl fL)), (aFc, .inl (K.2 0, 12, .inl fC)), (aFq, .inl (K.2 0, 12, .inl fQ))] 8 48
      refine z_astore_n (lv' := [(3, .ref q5), (0, .ref aH), (1, .int p0), (2, .ref aU)]) hG dL_comes_15 (by decide) rfl ?_
      refine z_iconst 2 hG dL_comes_16 (by decide) ?_
      obtain rfl := Option.some.inj hres
      exact (hR _ rfl _ _ dL_comes_17)
    replace hres := z_ifn c hres
    cases hres

theorem dL_ways_0 : decode cL_ways 0 = .ok (.aload_n 2, 1) := by decide +kernel
theorem dL_ways_1 : decode cL_ways 1 = .ok (.iconst 0, 1) := by decide +kernel
theorem dL_ways_2 : decode cL_ways 2 = .ok (.aload_n 0, 1) := by decide +kernel
theorem dL_ways_3 : decode cL_ways 3 = .ok (.iload_n 1, 1) := by decide +kernel
theorem dL_ways_4 : decode cL_ways 4 = .ok (.invokevirtual 54, 3) := by decide +kernel
theorem dL_ways_7 : decode cL_ways 7 = .ok (.i2l, 1) := by decide +kernel
theorem dL_ways_8 : decode cL_ways 8 = .ok (.lastore, 1) := by decide +kernel
theorem dL_ways_9 : decode cL_ways 9 = .ok (.goto 9, 3) := by decide +kernel
theorem dL_ways_12 : decode cL_ways 12 = .ok (.astore_n 3, 1) := by decide +kernel
theorem dL_ways_13 : decode cL_ways 13 = .ok (.iconst 1, 1) := by decide +kernel
theorem dL_ways_14 : decode cL_ways 14 = .ok (.ireturn, 1) := by decide +kernel
theorem dL_ways_15 : decode cL_ways 15 = .ok (.astore_n 3, 1) := by decide +kernel
theorem dL_ways_16 : decode cL_ways 16 = .ok (.iconst 2, 1) := by decide +kernel
theorem dL_ways_17 : decode cL_ways 17 = .ok (.ireturn, 1) := by decide +kernel
theorem dL_ways_18 : decode cL_ways 18 = .ok (.iconst 0, 1) := by decide +kernel
theorem dL_ways_19 : decode cL_ways 19 = .ok (.ireturn, 1) := by decide +kernel
set_option maxRecDepth 20000 in
theorem ggL_ways_X5_ways : GoodIn wsL_ways wsX5_ways := goodIn_ca (goodIn_ca (goodIn_r _ [7, 8, 9, 10, 11, 12, 6, 13, 14, 15, 16, 17, 18, 19, 20, 21, 22, 23, 24, 25, 26, 27, 28, 29, 30, 31, 32, 33, 34, 35, 36, 37, 38, 39, 40, 41, 42, 43, 44, 45] (by decide +kernel) (by decide +kernel)) (goodIn_sub (fun _ h => List.mem_cons_of_mem _ (List.mem_append_left _ (List.mem_append_right _ h))) (by decide +kernel))) (goodIn_sub (fun _ h => List.mem_cons_of_mem _ (List.mem_append_right _ h)) (by decide +kernel))
set_option maxRecDepth 20000 in
theorem gL_ways_X5_ways : GoodIn wsL_ways (wsV RL 54 RX5 yX5_ways wsX5_ways) := goodIn_app (goodIn_of _ (by decide +kernel)) ggL_ways_X5_ways
theorem mL_ways_0 : Cond.classLink RL 20 "java/util/NoSuchElementException" ∈ wsL_ways := by decide +kernel
theorem mL_ways_1 : Cond.classLink RL 15 "java/lang/IllegalStateException" ∈ wsL_ways := by decide +kernel
def fL_ways (uU : (Nat → Int64)) (gB : Int32) (nS : Int32) (nK : (Nat → Int32)) (fC : (Nat → Int32)) (p0 : Int32) : Option (Int32 × (Nat → Int64)) := (fX5_ways gB nS nK fC p0).bind fun v1 => Sum.elim (fun x2 : String => if x2 = "java/util/NoSuchElementException" then some (1, uU) else if x2 = "java/lang/IllegalStateException" then some (2, uU) else none) (fun r3 : Int32 => some (0, (vp_updL uU (0 : Int32).toNatClampNeg r3.toInt64))) v1
set_option maxRecDepth 100000 in
set_option maxHeartbeats 4000000 in
theorem kL_ways (l : Launch) (K : zK) (aU : Nat) (aH : Nat) (aN : Nat) (aNk : Nat) (aNn : Nat) (aF : Nat) (aFl : Nat) (aFc : Nat) (aFq : Nat) (aA : Nat) (aC : Nat) (aO : Nat) (aX : Nat)  (uU : (Nat → Int64)) (gB : Int32) (gK : Int32) (nS : Int32) (nK : (Nat → Int32)) (nN : (Nat → Int32)) (fM : Int32) (fL : (Nat → Int32)) (fC : (Nat → Int32)) (fQ : (Nat → Int32)) (p0 : Int32) (r : Int32 × (Nat → Int64)) (hres : fL_ways uU gB nS nK fC p0 = some r) : zX l K yL_ways wsL_ways ({ frames := 8, cells := 8, slots := 48, locals := 126 }) [.ref aH, .int p0, .ref aU] [(aU, .inl (K.2 4, 1, .inr (.inl uU))), (aH, .inr (5, [.ref aN, .ref aF, .ref aA, .ref aC, .ref aO, .ref aX, .int gB, .int gK])), (aN, .inr (3, [.ref aNk, .ref aNn, .int nS])), (aNk, .inl (K.2 0, 12, .inl nK)), (aNn, .inl (K.2 0, 12, .inl nN)), (aF, .inr (2, [.ref aFl, .ref aFc, .ref aFq, .int fM])), (aFl, .inl (K.2 0, 12, .inl fL)), (aFc, .inl (K.2 0, 12, .inl fC)), (aFq, .inl (K.2 0, 12, .inl fQ))] (.inr (some (.int r.1))) [(aU, .inl (K.2 4, 1, .inr (.inl r.2))), (aH, .inr (5, [.ref aN, .ref aF, .ref aA, .ref aC, .ref aO, .ref aX, .int gB, .int gK])), (aN, .inr (3, [.ref aNk, .ref aNn, .int nS])), (aNk, .inl (K.2 0, 12, .inl nK)), (aNn, .inl (K.2 0, 12, .inl nN)), (aF, .inr (2, [.ref aFl, .ref aFc, .ref aFq, .int fM])), (aFl, .inl (K.2 0, 12, .inl fL)), (aFc, .inl (K.2 0, 12, .inl fC)), (aFq, .inl (K.2 0, 12, .inl fQ))] 8 48 := by
  refine zX.intH (cc := cL_ways) (maxL := 4) (ret := (some .int)) (hh := [(0, 9, 12, 20), (0, 9, 15, 15)]) rfl (by decide) (Nat.le_of_ble_eq_true rfl) rfl ?_
  intro G hGl hG hV hT hR
  unfold fL_ways at hres
  show zj G 0 [(0, .ref aH), (1, .int p0), (2, .ref aU)] [] [(aU, .inl (K.2 4, 1, .inr (.inl uU))), (aH, .inr (5, [.ref aN, .ref aF, .ref aA, .ref aC, .ref aO, .ref aX, .int gB, .int gK])), (aN, .inr (3, [.ref aNk, .ref aNn, .int nS])), (aNk, .inl (K.2 0, 12, .inl nK)), (aNn, .inl (K.2 0, 12, .inl nN)), (aF, .inr (2, [.ref aFl, .ref aFc, .ref aFq, .int fM])), (aFl, .inl (K.2 0, 12, .inl fL)), (aFc, .inl (K.2 0, 12, .inl fC)), (aFq, .inl (K.2 0, 12, .inl fQ))] 0 0
  refine z_aload_n hG dL_ways_0 2 rfl ?_
  refine z_iconst 0 hG dL_ways_1 (by decide) ?_
  refine z_aload_n hG dL_ways_2 0 rfl ?_
  refine z_iload_n hG dL_ways_3 1 rfl ?_
  obtain ⟨v1, hv, hres⟩ := z_bind hres
  refine z_callX (As := [.int p0]) (rest := [.int 0, .ref aU]) (wr := [(aU, .inl (K.2 4, 1, .inr (.inl uU)))]) (ws' := [(aU, .inl (K.2 4, 1, .inr (.inl uU))), (aH, .inr (5, [.ref aN, .ref aF, .ref aA, .ref aC, .ref aO, .ref aX, .int gB, .int gK])), (aN, .inr (3, [.ref aNk, .ref aNn, .int nS])), (aNk, .inl (K.2 0, 12, .inl nK)), (aNn, .inl (K.2 0, 12, .inl nN)), (aF, .inr (2, [.ref aFl, .ref aFc, .ref aFq, .int fM])), (aFl, .inl (K.2 0, 12, .inl fL)), (aFc, .inl (K.2 0, 12, .inl fC)), (aFq, .inl (K.2 0, 12, .inl fQ))]) (kc' := 8) (ks' := 48) (n := 1) (C := RX5) (ci := 5) hG hV dL_ways_4 (kX5_ways _ K aH aN aNk aNn aF aFl aFc aFq aA aC aO aX gB gK nS nK nN fM fL fC fQ p0 v1 hv) gL_ways_X5_ways rfl rfl rfl ⟨rfl, by decide, by decide, rfl⟩ ⟨by decide, by decide⟩ (Nat.le_of_ble_eq_true rfl) ⟨(Nat.le_of_ble_eq_true rfl), (Nat.le_of_ble_eq_true rfl)⟩ [1, 2, 3, 4, 5, 6, 7, 8] [0] [0, 1, 2, 3, 4, 5, 6, 7, 8] rfl rfl rfl rfl (by decide) rfl rfl rfl rfl rfl 0 rfl rfl rfl rfl (fun o9 ho => ?_) (fun E9 ho => ?_)
  · rcases hv1 : v1 with x2 | r3
    · rw [hv1] at ho
      cases ho
    rw [hv1] at ho
    obtain rfl := Sum.inr.inj ho
    replace hres := z_elimR hv1 hres
    show zj G 7 [(0, .ref aH), (1, .int p0), (2, .ref aU)] [.int r3, .int 0, .ref aU] [(aU, .inl (K.2 4, 1, .inr (.inl uU))), (aH, .inr (5, [.ref aN, .ref aF, .ref aA, .ref aC, .ref aO, .ref aX, .int gB, .int gK])), (aN, .inr (3, [.ref aNk, .ref aNn, .int nS])), (aNk, .inl (K.2 0, 12, .inl nK)), (aNn, .inl (K.2 0, 12, .inl nN)), (aF, .inr (2, [.ref aFl, .ref aFc, .ref aFq, .int fM])), (aFl, .inl (K.2 0, 12, .inl fL)), (aFc, .inl (K.2 0, 12, .inl fC)), (aFq, .inl (K.2 0, 12, .inl fQ))] 8 48
    refine z_i2l hG dL_ways_7 ?_
    refine z_last (ws' := [(aU, .inl (K.2 4, 1, .inr (.inl (vp_updL uU (0 : Int32).toNatClampNeg r3.toInt64)))), (aH, .inr (5, [.ref aN, .ref aF, .ref aA, .ref aC, .ref aO, .ref aX, .int gB, .int gK])), (aN, .inr (3, [.ref aNk, .ref aNn, .int nS])), (aNk, .inl (K.2 0, 12, .inl nK)), (aNn, .inl (K.2 0, 12, .inl nN)), (aF, .inr (2, [.ref aFl, .ref aFc, .ref aFq, .int fM])), (aFl, .inl (K.2 0, 12, .inl fL)), (aFc, .inl (K.2 0, 12, .inl fC)), (aFq, .inl (K.2 0, 12, .inl fQ))]) hG dL_ways_8 0 rfl (by decide) rfl ?_
    refine z_goto 18 hG dL_ways_9 (by decide) ?_
    refine z_iconst 0 hG dL_ways_18 (by decide) ?_
    obtain rfl := Option.some.inj hres
    exact (hR _ rfl _ _ dL_ways_19)
  · rcases hv1 : v1 with x2 | r3
    rotate_left
    · rw [hv1] at ho
      cases ho
    rw [hv1] at ho
    obtain rfl := Sum.inl.inj ho
    replace hres := z_elimL hv1 hres
    by_cases c : x2 = "java/util/NoSuchElementException"
    · replace hres := z_ifp c hres
      subst c
      refine z_catch (h1 := []) (a := 0) (b := 9) (hd := 12) (ct := 20) (h2 := [(0, 9, 15, 15)]) hG hV hT (fun _ h => absurd h List.not_mem_nil) (by decide) (by decide) (by decide) mL_ways_0 (by decide) (fun q4 => ?_)
      show zj G 12 [(0, .ref aH), (1, .int p0), (2, .ref aU)] [.ref q4] [(aU, .inl (K.2 4, 1, .inr (.inl uU))), (aH, .inr (5, [.ref aN, .ref aF, .ref aA, .ref aC, .ref aO, .ref aX, .int gB, .int gK])), (aN, .inr (3, [.ref aNk, .ref aNn, .int nS])), (aNk, .inl (K.2 0, 12, .inl nK)), (aNn, .inl (K.2 0, 12, .inl nN)), (aF, .inr (2, [.ref aFl, .ref aFc, .ref aFq, .int fM])), (aFl, .inl (K.2 0, 12, .inl fL)), (aFc, .inl (K.2 0, 12, .inl fC)), (aFq, .inl (K.2 0, 12, .inl fQ))] 8 48
      refine z_astore_n (lv' := [(3, .ref q4), (0, .ref aH), (1, .int p0), (2, .ref aU)]) hG dL_ways_12 (by decide) rfl ?_
      refine z_iconst 1 hG dL_ways_13 (by decide) ?_
      obtain rfl := Option.some.inj hres
      exact (hR _ rfl _ _ dL_ways_14)
    replace hres := z_ifn c hres
    by_cases c : x2 = "java/lang/IllegalStateException"
    · replace hres := z_ifp c hres
      subst c
      refine z_catch (h1 := [(0, 9, 12, 20)]) (a := 0) (b := 9) (hd := 15) (ct := 15) (h2 := []) hG hV hT (List.forall_mem_cons.mpr ⟨⟨by decide, _, mL_ways_0, by decide, by decide⟩, (fun _ h => absurd h List.not_mem_nil)⟩) (by decide) (by decide) (by decide) mL_ways_1 (by decide) (fun q5 => ?_)
      show zj G 15 [(0, .ref aH), (1, .int p0), (2, .ref aU)] [.ref q5] [(aU, .inl (K.2 4, 1, .inr (.inl uU))), (aH, .inr (5, [.ref aN, .ref aF, .ref aA, .ref aC, .ref aO, .ref aX, .int gB, .int gK])), (aN, .inr (3, [.ref aNk, .ref aNn, .int nS])), (aNk, .inl (K.2 0, 12, .inl nK)), (aNn, .inl (K.2 0, 12, .inl nN)), (aF, .inr (2, [.ref aFl, .ref aFc, .ref aFq, .int fM])), (aFl, .inl (K.2 0, 12, .inl fL)), (aFc, .inl (K.2 0, 12, .inl fC)), (aFq, .inl (K.2 0, 12, .inl fQ))] 8 48
      refine z_astore_n (lv' := [(3, .ref q5), (0, .ref aH), (1, .int p0), (2, .ref aU)]) hG dL_ways_15 (by decide) rfl ?_
      refine z_iconst 2 hG dL_ways_16 (by decide) ?_
      obtain rfl := Option.some.inj hres
      exact (hR _ rfl _ _ dL_ways_17)
    replace hres := z_ifn c hres
    cases hres
