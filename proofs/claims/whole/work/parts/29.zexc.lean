/-! METHODS THAT THROW -/
def zStr : List (Nat × String) := [(116, "no street between them"), (124, "no such key"), (146, "not so many come"), (154, "no such shortest way"), (156, "the way has no such place"), (182, "the net does not have two colours"), (192, "the ring has no such place"), (197, "the change has no such place"), (230, "no such place"), (232, "there is no start"), (234, "no way leads there"), (236, "the net has two colours"), (61, "a place has that key"), (71, "the net is full"), (93, "a street joins two different places"), (99, "there is a street between them")]
def zEx : List String := ["java/lang/IllegalArgumentException", "java/lang/IllegalStateException", "java/util/NoSuchElementException", "java/lang/IndexOutOfBoundsException", "java/lang/UnsupportedOperationException"]
def zDc : List String := ["java/lang/RuntimeException", "java/lang/Exception", "java/lang/Throwable"]
def zB (E : String) : List Cond := [Cond.castable E E, .declares (Bundle.initS "java/lang/RuntimeException"), .declares (Bundle.initS "java/lang/Exception"), .declares (Bundle.initS "java/lang/Throwable")]
def zE (l : Launch) (A : Nat → Prop) (U : State) (H : Heap) : Prop := l.stackTraces = false ∧ vx_Zq Bundle.tN "UNASSIGNED_STACK" Bundle.steD A U H ∧ vx_Zq Bundle.tN "SUPPRESSED_SENTINEL" Bundle.listD A U H ∧ (∀ q ∈ zStr, ∃ sa, vk_R RX5 q.1 q.2 sa U) ∧ (∀ q ∈ zEx, va_Nw (.castable q q) U) ∧ (∀ q ∈ zEx, ∀ r ∈ zEx, q ≠ r → va_Nc q r U) ∧ ∀ q ∈ zDc, va_Nw (.declares (Bundle.initS q)) U
theorem zE.go {l : Launch} {A B : Nat → Prop} {s U : State} {H H1 : Heap} (h : zE l A s H) (hq : ∀ a : Nat, a < H.size → ¬ A a → H1[a]? = H[a]?) (hAB : ∀ q, B q → A q) (hW : s.WarmedH U.vm) : zE l B U H1 :=
  ⟨h.1, vx_Zq.moved hW.alike ((h.2.1.kept hq).narrow hAB), vx_Zq.moved hW.alike ((h.2.2.1.kept hq).narrow hAB), fun q m => (h.2.2.2.1 q m).imp fun _ z => vk_R.warm hW z, fun q m => va_Nw.warmC hW (h.2.2.2.2.1 q m), fun q m r m2 n => va_Nc.moved hW.alike (h.2.2.2.2.2.1 q m r m2 n), fun q m => va_Nw.warmD hW (h.2.2.2.2.2.2 q m)⟩
/-- an exception of the class E is under way at pc -/
def zx (G : zG) (pc : Nat) (E : String) (lv : zL) (ws : va_W) (kc ks : Nat) : Prop :=
  match G with
  | (p, l, e, R, s, m, args, below, meth, c, Q, A, K) => ∀ (H : Heap) (locs : List Loc) (ls : Array Slot) (rest : List Value) (q : Addr) (ce : Cell), lv_has ls c.maxLocals lv → va_P K.1 vwCl ws H → va_D A ws → va_S A s.heap H locs → H[q]? = some ce → ce.vm = .none → s.vm.findClass E = some ce.cls → vx_W p l e R s m args below meth c H locs kc ks Q (F0 m pc ls rest) q
theorem z_xwid {G : zG} {pc : Nat} {E : String} {lv : zL} {ws : va_W} {kc ks k n : Nat} (h1 : kc ≤ k) (h2 : ks ≤ n) (z : zx G pc E lv ws k n) : zx G pc E lv ws kc ks := by
  obtain ⟨p, l, e, R, s, m, args, below, meth, c, Q, A, K⟩ := G
  intro H locs ls rest q ce hl hP hD hS h3 h4 h5
  exact vx_widen h1 h2 (z H locs ls rest q ce hl hP hD hS h3 h4 h5)
def zoI (x : String ⊕ Int32) : String ⊕ Option Value := Sum.elim .inl (fun v => .inr (some (.int v))) x
def zoD (x : String ⊕ UInt64) : String ⊕ Option Value := Sum.elim .inl (fun v => .inr (some (.double v))) x
def zoV (x : String ⊕ Unit) : String ⊕ Option Value := Sum.elim .inl (fun _ => .inr none) x
theorem z_elimL {α β γ : Type} {f : α → γ} {g : β → γ} {a : α} {r : γ} {x : α ⊕ β} (h : x = .inl a) (e : Sum.elim f g x = r) : f a = r := by subst h; exact e
theorem z_elimR {α β γ : Type} {f : α → γ} {g : β → γ} {a : β} {r : γ} {x : α ⊕ β} (h : x = .inr a) (e : Sum.elim f g x = r) : g a = r := by subst h; exact e
def zXP (l : Launch) (K : zK) (wc : va_W) (sz : Nat) (U : State) : Prop := U.heap.size = sz ∧ va_P K.1 vwCl wc U.heap ∧ zU K U ∧ va_D (fun _ => True) wc ∧ zE l (va_A wc sz) U U.heap
def zXQ (K : zK) (oc : String ⊕ Option Value) (w1 : va_W) (A : Nat → Prop) : Array Value → State → Outcome → State → Prop := fun _ st out t => (∃ v, oc = .inr v ∧ out = .returned v ∧ va_P K.1 vwCl w1 t.heap ∧ va_D A w1) ∧ va_F A st t
def zXX (K : zK) (oc : String ⊕ Option Value) (w1 : va_W) (A : Nat → Prop) : String → State → State → Prop := fun E st t => oc = .inl E ∧ va_P K.1 vwCl w1 t.heap ∧ va_D A w1 ∧ va_F A st t
/-- the contract of a method that returns or throws: oc says which -/
def zX (l : Launch) (K : zK) (y : MethodName) (ws : List Cond) (rm : Room) (av : List Value) (wc : va_W) (oc : String ⊕ Option Value) (w1 : va_W) (mc ms : Nat) : Prop :=
  ∀ sz : Nat, vx_Met l y ws rm (va_Pc av (zXP l K wc sz)) (zXQ K oc w1 (va_A wc sz)) (zXX K oc w1 (va_A wc sz)) mc ms (va_A wc sz)
theorem z_blindX {l : Launch} {K : zK} {av : List Value} {wc : va_W} {sz : Nat} : FrameBlind (va_Pc av (zXP l K wc sz)) := fun a U g mk q => by
  obtain ⟨q0, q1, q2, q3, q4, q5⟩ := q
  exact ⟨q0, q1, q2, zU.warm (s := U) (U := U.calling g mk a) (State.WarmedH.refl U) q3, q4, zE.go (s := U) (U := U.calling g mk a) q5 (fun _ _ _ => rfl) (fun _ h => h) (State.WarmedH.refl U)⟩
section ZXR
variable {G : zG} {own : String} {cc : ByteArray} {nL : Nat} {Ts : List Cond} {rm : Room} {K : zK} {pc : Nat} {lv : zL} {st : List Value} {ws : va_W} {kc ks : Nat}
def zV (G : zG) : Prop := match G with
  | (_, l, _, _, s, _, _, _, _, _, _, A, _) => zE l A s s.heap
theorem z_callX {y : MethodName} {wy wy' : List Cond} {rmy : Room} {by9 : ByteArray} {mLy mc ms : Nat} {rety : Option FieldType} {wc wr : va_W} {oc : String ⊕ Option Value} {w1 : va_W} {ws' : va_W} {rest : List Value} {index ci n b : Nat} {C : String} {As : List Value} {q9 : vw_C} {fs : List Value} (hG : zC G own cc nL Ts rm K) (hV : zV G) (hdg : decode cc pc = .ok (.invokevirtual index, 3)) (hM : zX G.2.1 K y wy rmy (.ref b :: As) wc oc w1 mc ms) (hT : GoodIn Ts (wsV own index C y wy)) (hw : wy = Cond.code y by9 mLy rety :: wy') (hrc : rmy.cells = mc) (hrs : rmy.slots = ms) (hd : y.cls = C ∧ y.cls ≠ "java/lang/invoke/MethodHandle" ∧ y.cls ≠ "java/lang/invoke/VarHandle" ∧ (parseMethodDescriptor y.desc).map (fun d => d.parameters.length) = some n) (hR : rmy.frames + 1 ≤ rm.frames ∧ 8 + (mLy + 11) + rmy.locals ≤ rm.locals) (hcat : (rest.map fun v => v.category).sum ≤ 8) (hf : kc + mc ≤ rm.cells ∧ ks + ms ≤ rm.slots) (isC isR isO : List Nat) (hCm : isC.map (fun i => ws[i]?) = wc.map some) (hRm : isR.map (fun i => ws[i]?) = wr.map some) (hnC : va_nd isC = true) (hn : va_nd isR = true) (hdis : ∀ i ∈ isR, i ∉ isC) (hnO : va_nd isO = true) (hO : isO.map (fun i => (wr ++ w1)[i]?) = ws'.map some) (hlen : As.length = n) (hci : vwCl[ci]? = some q9) (hq9 : q9.1 = C) (qb : Nat) (hbq : wc[qb]? = some (b, .inr (ci, fs))) (hst : st = As.reverse ++ .ref b :: rest) {kc' ks' : Nat} (hk1 : kc + mc = kc') (hk2 : ks + ms = ks')
    (zr : ∀ v : Option Value, oc = .inr v → zj G (pc + 3) lv (v.toList ++ rest) ws' kc' ks') (zt : ∀ E, oc = .inl E → zx G pc E lv ws' kc' ks') : zj G pc lv st ws kc ks := by
  subst hst
  subst hk1
  subst hk2
  obtain ⟨p, l, e, R, s, m, args, below, meth, c, Q, A, K⟩ := G
  obtain ⟨hx, hb, hml, hown, hts, rfl, hU9, hA, rfl⟩ := hG
  intro H locs ls hl hP hD hS
  have hPc := hP.sub (ws' := wc) isC (by
    have h := congrArg (List.filterMap id) hCm
    rw [List.filterMap_map, List.filterMap_map] at h
    refine h.trans ?_
    exact List.filterMap_some)
  have hDc := hD.sub (ws' := wc) isC hnC hCm
  have hFc := va_free (wc := wc) hD hS hA isC hCm
  have hr := vx_runV (p := p) (l := l) (e := e) (R := R) (s := s) (m := m) (args := args) (below := below) (meth := meth) (c := c) (H := H) (locs := locs) (cells := kc) (slots := ks) (g := F0 m pc ls (As.reverse ++ .ref b :: rest)) (As := As) (rest := rest) ⟨hx, hb, rfl, hown, hts⟩ (hM H.size) (cwV n hts hT hw hrc hrs hd hR) ⟨z_blindX, by rw [← hq9]; exact va_recv hU9.1 hPc hci hbq, fun U hU hW => ⟨rfl, by rw [hU], by rw [hU]; exact hPc, hU9.warm hW, hDc.weaken (fun _ _ _ _ => trivial), by rw [hU]; exact zE.go hV hS.2.1 hFc hW⟩⟩ rfl hlen hl.1 rfl (lv_room hcat) hdg hf
  intro T hT X
  rcases hr T hT X with ⟨v, st₀, t, T', L, h0, X', hL, e1, e2, ⟨⟨v2, ho, hv, hp, hd9⟩, hF⟩, stp⟩ | ⟨q, st₀, t, T', L, E, ce, h0, X', hL, e1, e2, ⟨ho, hp, hd9, hF⟩, hce, hcv, hcl, stp⟩
  · cases hv
    obtain ⟨k1, k2, k3⟩ := vx_keep h0 e1 hS (fun q _ h => hFc q h) hFc hL hF
    obtain ⟨hP2, hD2⟩ := va_join (wr := wr) (w1 := w1) hP hD isC isR hCm hRm hn hdis k2 hFc (by rw [e1]; exact hp) hd9
    obtain ⟨hP3, hD3⟩ := z_order (ws' := ws') isO hnO hO hP2 hD2
    obtain ⟨t2, a1, b1⟩ := zr v ho T'.heap (locs ++ L) ls hl hP3 hD3 k3 T' rfl X'
    exact ⟨t2, stp t2 a1, b1⟩
  · obtain ⟨k1, k2, k3⟩ := vx_keep h0 e1 hS (fun q _ h => hFc q h) hFc hL hF
    obtain ⟨hP2, hD2⟩ := va_join (wr := wr) (w1 := w1) hP hD isC isR hCm hRm hn hdis k2 hFc (by rw [e1]; exact hp) hd9
    obtain ⟨hP3, hD3⟩ := z_order (ws' := ws') isO hnO hO hP2 hD2
    obtain ⟨t2, a1, b1⟩ := zt E ho T'.heap (locs ++ L) ls rest q ce hl hP3 hD3 k3 (by rw [e1]; exact hce) hcv hcl T' rfl X'
    exact ⟨t2, stp.trans a1, b1⟩
theorem z_callSX {y : MethodName} {wy wy' : List Cond} {rmy : Room} {by9 : ByteArray} {mLy mc ms : Nat} {rety : Option FieldType} {wc wr : va_W} {oc : String ⊕ Option Value} {w1 : va_W} {ws' : va_W} {rest : List Value} {index n : Nat} {As : List Value} {hh : List (Nat × Nat × Nat × Nat)} (hG : zC G own cc nL Ts rm K) (hV : zV G) (hdg : decode cc pc = .ok (.invokestatic index, 3)) (hM : zX G.2.1 K y wy rmy As wc oc w1 mc ms) (hT : GoodIn Ts (va_wsS own index y wy)) (hw : wy = Cond.codeWith y by9 mLy rety hh :: wy') (hrc : rmy.cells = mc) (hrs : rmy.slots = ms) (hd : y.cls ≠ "java/lang/invoke/MethodHandle" ∧ y.cls ≠ "java/lang/invoke/VarHandle" ∧ (parseMethodDescriptor y.desc).map (fun d => d.parameters.length) = some n) (hR : rmy.frames + 1 ≤ rm.frames ∧ 8 + (mLy + 11) + rmy.locals ≤ rm.locals) (hcat : (rest.map fun v => v.category).sum ≤ 8) (hf : kc + mc ≤ rm.cells ∧ ks + ms ≤ rm.slots) (isC isR isO : List Nat) (hCm : isC.map (fun i => ws[i]?) = wc.map some) (hRm : isR.map (fun i => ws[i]?) = wr.map some) (hnC : va_nd isC = true) (hn : va_nd isR = true) (hdis : ∀ i ∈ isR, i ∉ isC) (hnO : va_nd isO = true) (hO : isO.map (fun i => (wr ++ w1)[i]?) = ws'.map some) (hlen : As.length = n) (hst : st = As.reverse ++ rest) {kc' ks' : Nat} (hk1 : kc + mc = kc') (hk2 : ks + ms = ks')
    (zr : ∀ v : Option Value, oc = .inr v → zj G (pc + 3) lv (v.toList ++ rest) ws' kc' ks') (zt : ∀ E, oc = .inl E → zx G pc E lv ws' kc' ks') : zj G pc lv st ws kc ks := by
  subst hst
  subst hk1
  subst hk2
  obtain ⟨p, l, e, R, s, m, args, below, meth, c, Q, A, K⟩ := G
  obtain ⟨hx, hb, hml, hown, hts, rfl, hU9, hA, rfl⟩ := hG
  intro H locs ls hl hP hD hS
  have hPc := hP.sub (ws' := wc) isC (by
    have h := congrArg (List.filterMap id) hCm
    rw [List.filterMap_map, List.filterMap_map] at h
    refine h.trans ?_
    exact List.filterMap_some)
  have hDc := hD.sub (ws' := wc) isC hnC hCm
  have hFc := va_free (wc := wc) hD hS hA isC hCm
  have hr := vx_runSX (p := p) (l := l) (e := e) (R := R) (s := s) (m := m) (args := args) (below := below) (meth := meth) (c := c) (H := H) (locs := locs) (cells := kc) (slots := ks) (g := F0 m pc ls (As.reverse ++ rest)) (As := As) (rest := rest) ⟨hx, hb, rfl, hown, hts⟩ (hM H.size) (vx_cwSW n hts hT hw hrc hrs hd hR) ⟨z_blindX, fun U hU hW => ⟨rfl, by rw [hU], by rw [hU]; exact hPc, hU9.warm hW, hDc.weaken (fun _ _ _ _ => trivial), by rw [hU]; exact zE.go hV hS.2.1 hFc hW⟩⟩ rfl hlen hl.1 rfl (lv_room hcat) hdg hf
  intro T hT X
  rcases hr T hT X with ⟨v, st₀, t, T', L, h0, X', hL, e1, e2, ⟨⟨v2, ho, hv, hp, hd9⟩, hF⟩, stp⟩ | ⟨q, st₀, t, T', L, E, ce, h0, X', hL, e1, e2, ⟨ho, hp, hd9, hF⟩, hce, hcv, hcl, stp⟩
  · cases hv
    obtain ⟨k1, k2, k3⟩ := vx_keep h0 e1 hS (fun q _ h => hFc q h) hFc hL hF
    obtain ⟨hP2, hD2⟩ := va_join (wr := wr) (w1 := w1) hP hD isC isR hCm hRm hn hdis k2 hFc (by rw [e1]; exact hp) hd9
    obtain ⟨hP3, hD3⟩ := z_order (ws' := ws') isO hnO hO hP2 hD2
    obtain ⟨t2, a1, b1⟩ := zr v ho T'.heap (locs ++ L) ls hl hP3 hD3 k3 T' rfl X'
    exact ⟨t2, stp t2 a1, b1⟩
  · obtain ⟨k1, k2, k3⟩ := vx_keep h0 e1 hS (fun q _ h => hFc q h) hFc hL hF
    obtain ⟨hP2, hD2⟩ := va_join (wr := wr) (w1 := w1) hP hD isC isR hCm hRm hn hdis k2 hFc (by rw [e1]; exact hp) hd9
    obtain ⟨hP3, hD3⟩ := z_order (ws' := ws') isO hnO hO hP2 hD2
    obtain ⟨t2, a1, b1⟩ := zt E ho T'.heap (locs ++ L) ls rest q ce hl hP3 hD3 k3 (by rw [e1]; exact hce) hcv hcl T' rfl X'
    exact ⟨t2, stp.trans a1, b1⟩
end ZXR
/-- the words of a throw, the good ones from the method's own, the others from the environment -/
theorem z_hat {E own : String} {ic : Nat} {args : Array Value} {s : State} {Ts : List Cond} (hts : ∀ w ∈ Ts, w.before args s = true) (h1 : ∀ w ∈ (vx_atS own ic E ["java/lang/RuntimeException", "java/lang/Exception"]).filter goodWord, w ∈ Ts) (h2 : ∀ w ∈ (vx_atS own ic E ["java/lang/RuntimeException", "java/lang/Exception"]).filter (fun w => !goodWord w), w ∈ zB E) (h3 : va_Nw (.castable E E) s) (h4 : ∀ q ∈ zDc, va_Nw (.declares (Bundle.initS q)) s) : ∀ w ∈ vx_atS own ic E ["java/lang/RuntimeException", "java/lang/Exception"], w.before args s = true :=
  vx_hat (B := zB E) (fun w h => hts w (h1 w h)) h2 (vx_c (va_Nw.use rfl h3) (vx_c (va_Nw.use rfl (h4 _ (by decide))) (vx_c (va_Nw.use rfl (h4 _ (by decide))) (vx_c (va_Nw.use rfl (h4 _ (by decide))) vx_n))))
/-- throw new E("text") at pc -/
def zT9 (G : zG) (own : String) (cc : ByteArray) (ws : List Cond) (E : String) (w1 : va_W) (mc ms : Nat) : Prop := ∀ (pc ik is ic : Nat) (text : String) (lv : zL) (st : List Value) (kc ks : Nat), Bundle.fit E = true → Cond.classLink own ik E ∈ ws → Cond.initialized E ∈ ws → (is, text) ∈ zStr → own = RX5 → E ∈ zEx → (∀ w ∈ (vx_atS own ic E ["java/lang/RuntimeException", "java/lang/Exception"]).filter goodWord, w ∈ ws) → (∀ w ∈ (vx_atS own ic E ["java/lang/RuntimeException", "java/lang/Exception"]).filter (fun w => !goodWord w), w ∈ zB E) → (∀ w ∈ Cond.classLink own ik E :: Cond.initialized E :: vx_atS own ic E ["java/lang/RuntimeException", "java/lang/Exception"], vx_ot w = true) →
  decode cc pc = .ok (.new ik, 3) → decode cc (pc + 3) = .ok (.dup, 1) → decode cc (pc + 4) = .ok (.ldc is, 2) → decode cc (pc + 6) = .ok (.invokespecial ic, 3) → decode cc (pc + 9) = .ok (.athrow, 1) → 5 < G.2.2.2.1.frames → (st.map fun v => v.category).sum + 82 ≤ G.2.2.2.1.locals → kc + 1 ≤ G.2.2.2.1.cells → ks + 6 ≤ G.2.2.2.1.slots → kc + 1 ≤ mc → ks + 6 ≤ ms → zj G pc lv st w1 kc ks
theorem zX.intI {l : Launch} {K : zK} {y : MethodName} {ws ws' : List Cond} {rm : Room} {av : List Value} {wc : va_W} {oc : String ⊕ Option Value} {w1 : va_W} {mc ms : Nat} {cc : ByteArray} {maxL : Nat} {ret : Option FieldType} (hw : ws = Cond.code y cc maxL ret :: ws') (hy : plainName y.cls = true) (hav : (lg_sl av).length ≤ maxL) (hr : ret = some .int)
    (body : ∀ G : zG, G.2.1 = l → zC G y.cls cc maxL ws rm K → zV G → (∀ v : Int32, oc = .inr (some (.int v)) → ∀ (pc : Nat) (lv : zL), decode cc pc = .ok (.ireturn, 1) → zj G pc lv [.int v] w1 mc ms) → (∀ E, oc = .inl E → zT9 G y.cls cc ws E w1 mc ms) → (∀ E, oc = .inl E → ∀ (pc : Nat) (lv : zL), zx G pc E lv w1 mc ms) → zj G 0 (lv_args 0 av) [] wc 0 0) : zX l K y ws rm av wc oc w1 mc ms := by
  intro sz
  refine vx_ofW (cc := cc) (maxL := maxL) (ret := ret) hy hw ?_
  intro p e s m args below meth c s₁ B hml hexc hv
  obtain ⟨rfl, hsz, hP, hU, hD0, hE⟩ := hv
  have hts := atoms_spec (ws := ws) B.pre
  have hown : s.vm.findClass y.cls = some m.cls := findClass_of_methodNamed B.named
  have hlocks := B.notSynchronized
  subst hsz
  have hD := hD0.self (sz := s.heap.size)
  have hA : ∀ q : Nat, s.heap.size ≤ q → va_A wc s.heap.size q := fun q h => Or.inr h
  rw [lg_entry_eq]
  obtain ⟨ls, he, hl⟩ := z_entry av maxL hav
  rw [he]
  refine body (p, l, e, _, s, m, av.toArray, below, meth, c, _, va_A wc s.heap.size, K) rfl ⟨B.exec, B.bytes, hml, hown, hts, rfl, hU, hA, rfl⟩ hE ?_ ?_ ?_ s.heap [] ls (by rw [hml]; exact hl) hP hD va_S.rf
  · intro v ho pc lv hdg H locs ls hl hP hD hS
    subst hr
    exact vx_ret (W.iret B.exec B.bytes B.returns (fun t ht hW => ⟨⟨_, ho, rfl, by rw [ht]; exact hP, hD⟩, hS.F ht⟩) hS.2.2 hdg hlocks)
  · intro E ho pc ik is ic text lv st kc ks hfit hk hini hstr hx5 hex hat h2 hgood d0 d3 d4 d6 d9 hf hlo hrc hrs hc hs H locs ls hl hP hD hS
    obtain ⟨sa, hsa⟩ := hE.2.2.2.1 _ hstr
    refine vx_throwS (names := ["java/lang/RuntimeException", "java/lang/Exception"]) B.exec B.bytes hE.1 hown hfit (by decide) (hts _ hk) (hts _ hini) (by rw [hx5]; exact hsa) (z_hat hts hat h2 (hE.2.2.2.2.1 _ hex) hE.2.2.2.2.2.2) hgood hE.2.1 hE.2.2.1 hS hl.1 d0 d3 d4 d6 d9 (fun x hx => (hexc x hx).elim) hf hlo hrc hrs hlocks (fun t hal hz hq => ⟨ho, hP.kept (fun k q hk => hq _ (hP k q hk).lt), hD, Nat.le_trans hS.1 hz, fun q h1 h2 => (hq q (Nat.lt_of_lt_of_le h1 hS.1)).trans (hS.2.1 q h1 h2)⟩) hS.2.2 hc hs
  · intro E ho pc lv H locs ls rest q ce hl hP hD hS h3 h4 h5
    exact vx_out (fun x hx => (hexc x hx).elim) hlocks h3 h4 h5 (fun t ht hal => ⟨ho, by rw [ht]; exact hP, hD, hS.F ht⟩) hS.2.2 (Nat.le_refl _) (Nat.le_refl _)
theorem zX.intZ {l : Launch} {K : zK} {y : MethodName} {ws ws' : List Cond} {rm : Room} {av : List Value} {wc : va_W} {oc : String ⊕ Option Value} {w1 : va_W} {mc ms : Nat} {cc : ByteArray} {maxL : Nat} {ret : Option FieldType} (hw : ws = Cond.code y cc maxL ret :: ws') (hy : plainName y.cls = true) (hav : (lg_sl av).length ≤ maxL) (hr : ret = some .boolean)
    (body : ∀ G : zG, G.2.1 = l → zC G y.cls cc maxL ws rm K → zV G → (∀ v : Int32, oc = .inr (some (.int v)) → ∀ (pc : Nat) (lv : zL), narrow .boolean (.int v) = .int v → decode cc pc = .ok (.ireturn, 1) → zj G pc lv [.int v] w1 mc ms) → (∀ E, oc = .inl E → zT9 G y.cls cc ws E w1 mc ms) → (∀ E, oc = .inl E → ∀ (pc : Nat) (lv : zL), zx G pc E lv w1 mc ms) → zj G 0 (lv_args 0 av) [] wc 0 0) : zX l K y ws rm av wc oc w1 mc ms := by
  intro sz
  refine vx_ofW (cc := cc) (maxL := maxL) (ret := ret) hy hw ?_
  intro p e s m args below meth c s₁ B hml hexc hv
  obtain ⟨rfl, hsz, hP, hU, hD0, hE⟩ := hv
  have hts := atoms_spec (ws := ws) B.pre
  have hown : s.vm.findClass y.cls = some m.cls := findClass_of_methodNamed B.named
  have hlocks := B.notSynchronized
  subst hsz
  have hD := hD0.self (sz := s.heap.size)
  have hA : ∀ q : Nat, s.heap.size ≤ q → va_A wc s.heap.size q := fun q h => Or.inr h
  rw [lg_entry_eq]
  obtain ⟨ls, he, hl⟩ := z_entry av maxL hav
  rw [he]
  refine body (p, l, e, _, s, m, av.toArray, below, meth, c, _, va_A wc s.heap.size, K) rfl ⟨B.exec, B.bytes, hml, hown, hts, rfl, hU, hA, rfl⟩ hE ?_ ?_ ?_ s.heap [] ls (by rw [hml]; exact hl) hP hD va_S.rf
  · intro v ho pc lv hnv hdg H locs ls hl hP hD hS
    subst hr
    exact vx_ret (W.zret B.exec B.bytes B.returns hnv (fun t ht hW => ⟨⟨_, ho, rfl, by rw [ht]; exact hP, hD⟩, hS.F ht⟩) hS.2.2 hdg hlocks)
  · intro E ho pc ik is ic text lv st kc ks hfit hk hini hstr hx5 hex hat h2 hgood d0 d3 d4 d6 d9 hf hlo hrc hrs hc hs H locs ls hl hP hD hS
    obtain ⟨sa, hsa⟩ := hE.2.2.2.1 _ hstr
    refine vx_throwS (names := ["java/lang/RuntimeException", "java/lang/Exception"]) B.exec B.bytes hE.1 hown hfit (by decide) (hts _ hk) (hts _ hini) (by rw [hx5]; exact hsa) (z_hat hts hat h2 (hE.2.2.2.2.1 _ hex) hE.2.2.2.2.2.2) hgood hE.2.1 hE.2.2.1 hS hl.1 d0 d3 d4 d6 d9 (fun x hx => (hexc x hx).elim) hf hlo hrc hrs hlocks (fun t hal hz hq => ⟨ho, hP.kept (fun k q hk => hq _ (hP k q hk).lt), hD, Nat.le_trans hS.1 hz, fun q h1 h2 => (hq q (Nat.lt_of_lt_of_le h1 hS.1)).trans (hS.2.1 q h1 h2)⟩) hS.2.2 hc hs
  · intro E ho pc lv H locs ls rest q ce hl hP hD hS h3 h4 h5
    exact vx_out (fun x hx => (hexc x hx).elim) hlocks h3 h4 h5 (fun t ht hal => ⟨ho, by rw [ht]; exact hP, hD, hS.F ht⟩) hS.2.2 (Nat.le_refl _) (Nat.le_refl _)
theorem zX.intD {l : Launch} {K : zK} {y : MethodName} {ws ws' : List Cond} {rm : Room} {av : List Value} {wc : va_W} {oc : String ⊕ Option Value} {w1 : va_W} {mc ms : Nat} {cc : ByteArray} {maxL : Nat} {ret : Option FieldType} (hw : ws = Cond.code y cc maxL ret :: ws') (hy : plainName y.cls = true) (hav : (lg_sl av).length ≤ maxL) (hr : ret = some .double)
    (body : ∀ G : zG, G.2.1 = l → zC G y.cls cc maxL ws rm K → zV G → (∀ v : UInt64, oc = .inr (some (.double v)) → ∀ (pc : Nat) (lv : zL), decode cc pc = .ok (.dreturn, 1) → zj G pc lv [.double v] w1 mc ms) → (∀ E, oc = .inl E → zT9 G y.cls cc ws E w1 mc ms) → (∀ E, oc = .inl E → ∀ (pc : Nat) (lv : zL), zx G pc E lv w1 mc ms) → zj G 0 (lv_args 0 av) [] wc 0 0) : zX l K y ws rm av wc oc w1 mc ms := by
  intro sz
  refine vx_ofW (cc := cc) (maxL := maxL) (ret := ret) hy hw ?_
  intro p e s m args below meth c s₁ B hml hexc hv
  obtain ⟨rfl, hsz, hP, hU, hD0, hE⟩ := hv
  have hts := atoms_spec (ws := ws) B.pre
  have hown : s.vm.findClass y.cls = some m.cls := findClass_of_methodNamed B.named
  have hlocks := B.notSynchronized
  subst hsz
  have hD := hD0.self (sz := s.heap.size)
  have hA : ∀ q : Nat, s.heap.size ≤ q → va_A wc s.heap.size q := fun q h => Or.inr h
  rw [lg_entry_eq]
  obtain ⟨ls, he, hl⟩ := z_entry av maxL hav
  rw [he]
  refine body (p, l, e, _, s, m, av.toArray, below, meth, c, _, va_A wc s.heap.size, K) rfl ⟨B.exec, B.bytes, hml, hown, hts, rfl, hU, hA, rfl⟩ hE ?_ ?_ ?_ s.heap [] ls (by rw [hml]; exact hl) hP hD va_S.rf
  · intro v ho pc lv hdg H locs ls hl hP hD hS
    subst hr
    exact vx_ret (W.dret B.exec B.bytes B.returns (fun t ht hW => ⟨⟨_, ho, rfl, by rw [ht]; exact hP, hD⟩, hS.F ht⟩) hS.2.2 hdg hlocks)
  · intro E ho pc ik is ic text lv st kc ks hfit hk hini hstr hx5 hex hat h2 hgood d0 d3 d4 d6 d9 hf hlo hrc hrs hc hs H locs ls hl hP hD hS
    obtain ⟨sa, hsa⟩ := hE.2.2.2.1 _ hstr
    refine vx_throwS (names := ["java/lang/RuntimeException", "java/lang/Exception"]) B.exec B.bytes hE.1 hown hfit (by decide) (hts _ hk) (hts _ hini) (by rw [hx5]; exact hsa) (z_hat hts hat h2 (hE.2.2.2.2.1 _ hex) hE.2.2.2.2.2.2) hgood hE.2.1 hE.2.2.1 hS hl.1 d0 d3 d4 d6 d9 (fun x hx => (hexc x hx).elim) hf hlo hrc hrs hlocks (fun t hal hz hq => ⟨ho, hP.kept (fun k q hk => hq _ (hP k q hk).lt), hD, Nat.le_trans hS.1 hz, fun q h1 h2 => (hq q (Nat.lt_of_lt_of_le h1 hS.1)).trans (hS.2.1 q h1 h2)⟩) hS.2.2 hc hs
  · intro E ho pc lv H locs ls rest q ce hl hP hD hS h3 h4 h5
    exact vx_out (fun x hx => (hexc x hx).elim) hlocks h3 h4 h5 (fun t ht hal => ⟨ho, by rw [ht]; exact hP, hD, hS.F ht⟩) hS.2.2 (Nat.le_refl _) (Nat.le_refl _)
theorem zX.intV {l : Launch} {K : zK} {y : MethodName} {ws ws' : List Cond} {rm : Room} {av : List Value} {wc : va_W} {oc : String ⊕ Option Value} {w1 : va_W} {mc ms : Nat} {cc : ByteArray} {maxL : Nat} {ret : Option FieldType} (hw : ws = Cond.code y cc maxL ret :: ws') (hy : plainName y.cls = true) (hav : (lg_sl av).length ≤ maxL) (hr : ret = none)
    (body : ∀ G : zG, G.2.1 = l → zC G y.cls cc maxL ws rm K → zV G → (∀ _u : Unit, oc = .inr none → ∀ (pc : Nat) (lv : zL), decode cc pc = .ok (.return_, 1) → zj G pc lv [] w1 mc ms) → (∀ E, oc = .inl E → zT9 G y.cls cc ws E w1 mc ms) → (∀ E, oc = .inl E → ∀ (pc : Nat) (lv : zL), zx G pc E lv w1 mc ms) → zj G 0 (lv_args 0 av) [] wc 0 0) : zX l K y ws rm av wc oc w1 mc ms := by
  intro sz
  refine vx_ofW (cc := cc) (maxL := maxL) (ret := ret) hy hw ?_
  intro p e s m args below meth c s₁ B hml hexc hv
  obtain ⟨rfl, hsz, hP, hU, hD0, hE⟩ := hv
  have hts := atoms_spec (ws := ws) B.pre
  have hown : s.vm.findClass y.cls = some m.cls := findClass_of_methodNamed B.named
  have hlocks := B.notSynchronized
  subst hsz
  have hD := hD0.self (sz := s.heap.size)
  have hA : ∀ q : Nat, s.heap.size ≤ q → va_A wc s.heap.size q := fun q h => Or.inr h
  rw [lg_entry_eq]
  obtain ⟨ls, he, hl⟩ := z_entry av maxL hav
  rw [he]
  refine body (p, l, e, _, s, m, av.toArray, below, meth, c, _, va_A wc s.heap.size, K) rfl ⟨B.exec, B.bytes, hml, hown, hts, rfl, hU, hA, rfl⟩ hE ?_ ?_ ?_ s.heap [] ls (by rw [hml]; exact hl) hP hD va_S.rf
  · intro _u ho pc lv hdg H locs ls hl hP hD hS
    subst hr
    exact vx_ret (W.vret B.exec B.bytes B.returns (fun t ht hW => ⟨⟨_, ho, rfl, by rw [ht]; exact hP, hD⟩, hS.F ht⟩) hS.2.2 hdg hlocks)
  · intro E ho pc ik is ic text lv st kc ks hfit hk hini hstr hx5 hex hat h2 hgood d0 d3 d4 d6 d9 hf hlo hrc hrs hc hs H locs ls hl hP hD hS
    obtain ⟨sa, hsa⟩ := hE.2.2.2.1 _ hstr
    refine vx_throwS (names := ["java/lang/RuntimeException", "java/lang/Exception"]) B.exec B.bytes hE.1 hown hfit (by decide) (hts _ hk) (hts _ hini) (by rw [hx5]; exact hsa) (z_hat hts hat h2 (hE.2.2.2.2.1 _ hex) hE.2.2.2.2.2.2) hgood hE.2.1 hE.2.2.1 hS hl.1 d0 d3 d4 d6 d9 (fun x hx => (hexc x hx).elim) hf hlo hrc hrs hlocks (fun t hal hz hq => ⟨ho, hP.kept (fun k q hk => hq _ (hP k q hk).lt), hD, Nat.le_trans hS.1 hz, fun q h1 h2 => (hq q (Nat.lt_of_lt_of_le h1 hS.1)).trans (hS.2.1 q h1 h2)⟩) hS.2.2 hc hs
  · intro E ho pc lv H locs ls rest q ce hl hP hD hS h3 h4 h5
    exact vx_out (fun x hx => (hexc x hx).elim) hlocks h3 h4 h5 (fun t ht hal => ⟨ho, by rw [ht]; exact hP, hD, hS.F ht⟩) hS.2.2 (Nat.le_refl _) (Nat.le_refl _)
theorem z_throw {G : zG} {own : String} {cc : ByteArray} {nL : Nat} {ws : List Cond} {rm : Room} {K : zK} {E : String} {w1 : va_W} {mc ms pc ik is ic : Nat} {lv : zL} {st : List Value} {kc ks : Nat} (text : String) (hG : zC G own cc nL ws rm K) (h : zT9 G own cc ws E w1 mc ms) (h1 : Bundle.fit E = true) (h2 : Cond.classLink own ik E ∈ ws) (h3 : Cond.initialized E ∈ ws) (h4 : (is, text) ∈ zStr) (h5 : own = RX5) (h6 : E ∈ zEx) (h7 : ∀ w ∈ (vx_atS own ic E ["java/lang/RuntimeException", "java/lang/Exception"]).filter goodWord, w ∈ ws) (h8 : ∀ w ∈ (vx_atS own ic E ["java/lang/RuntimeException", "java/lang/Exception"]).filter (fun w => !goodWord w), w ∈ zB E) (h9 : ∀ w ∈ Cond.classLink own ik E :: Cond.initialized E :: vx_atS own ic E ["java/lang/RuntimeException", "java/lang/Exception"], vx_ot w = true)
    (d0 : decode cc pc = .ok (.new ik, 3)) (d3 : decode cc (pc + 3) = .ok (.dup, 1)) (d4 : decode cc (pc + 4) = .ok (.ldc is, 2)) (d6 : decode cc (pc + 6) = .ok (.invokespecial ic, 3)) (d9 : decode cc (pc + 9) = .ok (.athrow, 1)) (r1 : 5 < rm.frames) (r2 : (st.map fun v => v.category).sum + 82 ≤ rm.locals) (r3 : kc + 1 ≤ rm.cells) (r4 : ks + 6 ≤ rm.slots) (r5 : kc + 1 ≤ mc) (r6 : ks + 6 ≤ ms) : zj G pc lv st w1 kc ks := by
  obtain ⟨p, l, e, R, s, m, args, below, meth, c, Q, A, K⟩ := G
  obtain ⟨hx, hb, hml, hown, hts, rfl, hU, hA, rfl⟩ := hG
  exact h pc ik is ic text lv st kc ks h1 h2 h3 h4 h5 h6 h7 h8 h9 d0 d3 d4 d6 d9 r1 r2 r3 r4 r5 r6
theorem zng_IllegalArgumentException : ∀ w ∈ (vx_atS RX5 63 "java/lang/IllegalArgumentException" ["java/lang/RuntimeException", "java/lang/Exception"]).filter (fun w => !goodWord w), w ∈ zB "java/lang/IllegalArgumentException" := by decide +kernel
theorem zgd_IllegalArgumentException : ∀ w ∈ Cond.classLink RX5 59 "java/lang/IllegalArgumentException" :: Cond.initialized "java/lang/IllegalArgumentException" :: vx_atS RX5 63 "java/lang/IllegalArgumentException" ["java/lang/RuntimeException", "java/lang/Exception"], vx_ot w = true := by decide +kernel
theorem zng_IllegalStateException : ∀ w ∈ (vx_atS RX5 73 "java/lang/IllegalStateException" ["java/lang/RuntimeException", "java/lang/Exception"]).filter (fun w => !goodWord w), w ∈ zB "java/lang/IllegalStateException" := by decide +kernel
theorem zgd_IllegalStateException : ∀ w ∈ Cond.classLink RX5 69 "java/lang/IllegalStateException" :: Cond.initialized "java/lang/IllegalStateException" :: vx_atS RX5 73 "java/lang/IllegalStateException" ["java/lang/RuntimeException", "java/lang/Exception"], vx_ot w = true := by decide +kernel
theorem zng_NoSuchElementException : ∀ w ∈ (vx_atS RX5 118 "java/util/NoSuchElementException" ["java/lang/RuntimeException", "java/lang/Exception"]).filter (fun w => !goodWord w), w ∈ zB "java/util/NoSuchElementException" := by decide +kernel
theorem zgd_NoSuchElementException : ∀ w ∈ Cond.classLink RX5 114 "java/util/NoSuchElementException" :: Cond.initialized "java/util/NoSuchElementException" :: vx_atS RX5 118 "java/util/NoSuchElementException" ["java/lang/RuntimeException", "java/lang/Exception"], vx_ot w = true := by decide +kernel
theorem zng_IndexOutOfBoundsException : ∀ w ∈ (vx_atS RX5 126 "java/lang/IndexOutOfBoundsException" ["java/lang/RuntimeException", "java/lang/Exception"]).filter (fun w => !goodWord w), w ∈ zB "java/lang/IndexOutOfBoundsException" := by decide +kernel
theorem zgd_IndexOutOfBoundsException : ∀ w ∈ Cond.classLink RX5 122 "java/lang/IndexOutOfBoundsException" :: Cond.initialized "java/lang/IndexOutOfBoundsException" :: vx_atS RX5 126 "java/lang/IndexOutOfBoundsException" ["java/lang/RuntimeException", "java/lang/Exception"], vx_ot w = true := by decide +kernel
theorem zng_UnsupportedOperationException : ∀ w ∈ (vx_atS RX5 184 "java/lang/UnsupportedOperationException" ["java/lang/RuntimeException", "java/lang/Exception"]).filter (fun w => !goodWord w), w ∈ zB "java/lang/UnsupportedOperationException" := by decide +kernel
theorem zgd_UnsupportedOperationException : ∀ w ∈ Cond.classLink RX5 180 "java/lang/UnsupportedOperationException" :: Cond.initialized "java/lang/UnsupportedOperationException" :: vx_atS RX5 184 "java/lang/UnsupportedOperationException" ["java/lang/RuntimeException", "java/lang/Exception"], vx_ot w = true := by decide +kernel
