/-! CALLS THAT CATCH: methods with a table of their own -/
theorem z_catch {G : zG} {own : String} {cc : ByteArray} {nL : Nat} {Ts : List Cond} {rm : Room} {K : zK} {pc : Nat} {lv : zL} {ws : va_W} {kc ks : Nat} {E : String} {h1 h2 : List (Nat × Nat × Nat × Nat)} {a b hd ct : Nat} (hG : zC G own cc nL Ts rm K) (hV : zV G) (hT : G.2.2.2.2.2.2.2.2.2.1.exceptionTable.toList = tableOf (h1 ++ (a, b, hd, ct) :: h2))
    (hpass : ∀ z ∈ h1, z.2.2.2 ≠ 0 ∧ ∃ nm, Cond.classLink own z.2.2.2 nm ∈ Ts ∧ nm ∈ zEx ∧ E ≠ nm) (hx1 : a ≤ pc) (hx2 : pc < b) (h0 : ct ≠ 0) (hlink : Cond.classLink own ct E ∈ Ts) (hex : E ∈ zEx) (z : ∀ q : Nat, zj G hd lv [.ref q] ws kc ks) : zx G pc E lv ws kc ks := by
  obtain ⟨p, l, e, R, s, m, args, below, meth, c, Q, A, K⟩ := G
  obtain ⟨hx, hb, hml, hown, hts, rfl, hU9, hA, rfl⟩ := hG
  intro H locs ls rest q ce hl hP hD hS h3 h4 h5
  refine vx_catch hown (tableOf h1) ⟨a, b, hd, ct⟩ (tableOf h2) (hT.trans (by simp [tableOf])) (fun y hy => ?_) (by simp [covers, hx1, hx2]) h0 (hts _ hlink) (va_Nw.use rfl (hV.2.2.2.2.1 _ hex)) h3 h4 h5 (z q H locs ls hl hP hD hS)
  obtain ⟨t, ht, rfl⟩ := List.mem_map.mp hy
  obtain ⟨g1, nm, g2, g3, g4⟩ := hpass t ht
  exact Or.inr ⟨g1, nm, hts _ g2, hV.2.2.2.2.2.1 E hex nm g3 g4⟩
theorem zX.intH {l : Launch} {K : zK} {y : MethodName} {ws ws' : List Cond} {rm : Room} {av : List Value} {wc : va_W} {oc : String ⊕ Option Value} {w1 : va_W} {mc ms : Nat} {cc : ByteArray} {maxL : Nat} {ret : Option FieldType} {hh : List (Nat × Nat × Nat × Nat)} (hw : ws = Cond.codeWith y cc maxL ret hh :: ws') (hy : plainName y.cls = true) (hav : (lg_sl av).length ≤ maxL) (hr : ret = some .int)
    (body : ∀ G : zG, G.2.1 = l → zC G y.cls cc maxL ws rm K → zV G → G.2.2.2.2.2.2.2.2.2.1.exceptionTable.toList = tableOf hh → (∀ v : Int32, oc = .inr (some (.int v)) → ∀ (pc : Nat) (lv : zL), decode cc pc = .ok (.ireturn, 1) → zj G pc lv [.int v] w1 mc ms) → zj G 0 (lv_args 0 av) [] wc 0 0) : zX l K y ws rm av wc oc w1 mc ms := by
  intro sz
  refine vx_ofWH (cc := cc) (maxL := maxL) (ret := ret) (hh := hh) hy hw ?_
  intro p e s m args below meth c s₁ B hml hv
  obtain ⟨rfl, hsz, hP, hU, hD0, hE⟩ := hv
  have hts := atoms_spec (ws := ws) B.pre
  have hown : s.vm.findClass y.cls = some m.cls := findClass_of_methodNamed B.named
  have hlocks := B.notSynchronized
  have htab : c.exceptionTable.toList = tableOf hh := vx_table (x := y) B (hts _ (by rw [hw]; exact List.mem_cons_self))
  subst hsz
  have hD := hD0.self (sz := s.heap.size)
  have hA : ∀ q : Nat, s.heap.size ≤ q → va_A wc s.heap.size q := fun q h => Or.inr h
  rw [lg_entry_eq]
  obtain ⟨ls, he, hl⟩ := z_entry av maxL hav
  rw [he]
  refine body (p, l, e, _, s, m, av.toArray, below, meth, c, _, va_A wc s.heap.size, K) rfl ⟨B.exec, B.bytes, hml, hown, hts, rfl, hU, hA, rfl⟩ hE htab ?_ s.heap [] ls (by rw [hml]; exact hl) hP hD va_S.rf
  intro v ho pc lv hdg H locs ls hl hP hD hS
  subst hr
  exact vx_ret (W.iret B.exec B.bytes B.returns (fun t ht hW => ⟨⟨_, ho, rfl, by rw [ht]; exact hP, hD⟩, hS.F ht⟩) hS.2.2 hdg hlocks)
section ZLR
variable {G : zG} {own : String} {cc : ByteArray} {nL : Nat} {Ts : List Cond} {rm : Room} {K : zK} {pc : Nat} {lv : zL} {st : List Value} {ws : va_W} {kc ks : Nat}
theorem z_last {a n : Nat} {f : Nat → Int64} {i : Int32} {x : Int64} {ws' : va_W} (hG : zC G own cc nL Ts rm K) (hdg : decode cc pc = .ok (.lastore, 1)) (q0 : Nat) (he : ws[q0]? = some (a, .inl (K.2 4, n, .inr (.inl f)))) (hi : zin i n) (hws : ws.set q0 (a, .inl (K.2 4, n, .inr (.inl (vp_updL f i.toNatClampNeg x)))) = ws') (z : zj G (pc + 1) lv st ws' kc ks) : zj G pc lv (.long x :: .int i :: .ref a :: st) ws kc ks := by
  obtain ⟨p, l, e, R, s, m, args, below, meth, c, Q, A, K⟩ := G
  obtain ⟨hx, hb, hml, hown, hts, rfl, hU, hA, rfl⟩ := hG
  intro H locs ls hl hP hD hS
  subst hws
  exact va_last hx hb hU.1 hP hD hS q0 4 he rfl hi hdg (fun H1 locs1 hP1 hD1 hS1 => z H1 locs1 ls hl hP1 hD1 hS1)
theorem z_lald {a n : Nat} {f : Nat → Int64} {i : Int32} (hG : zC G own cc nL Ts rm K) (hdg : decode cc pc = .ok (.laload, 1)) (q0 : Nat) (he : ws[q0]? = some (a, .inl (K.2 4, n, .inr (.inl f)))) (hi : zin i n) (z : zj G (pc + 1) lv (.long (f i.toNatClampNeg) :: st) ws kc ks) : zj G pc lv (.int i :: .ref a :: st) ws kc ks := by
  obtain ⟨p, l, e, R, s, m, args, below, meth, c, Q, A, K⟩ := G
  obtain ⟨hx, hb, hml, hown, hts, rfl, hU, hA, rfl⟩ := hG
  intro H locs ls hl hP hD hS
  exact va_lald hx hb hU.1 hP q0 4 he rfl hi hdg (z H locs ls hl hP hD hS)
theorem z_dast {a n : Nat} {f : Nat → UInt64} {i : Int32} {x : UInt64} {ws' : va_W} (hG : zC G own cc nL Ts rm K) (hdg : decode cc pc = .ok (.dastore, 1)) (q0 : Nat) (he : ws[q0]? = some (a, .inl (K.2 5, n, .inr (.inr (.inr (.inl f)))))) (hi : zin i n) (hws : ws.set q0 (a, .inl (K.2 5, n, .inr (.inr (.inr (.inl (vf_upd f i.toNatClampNeg x)))))) = ws') (z : zj G (pc + 1) lv st ws' kc ks) : zj G pc lv (.double x :: .int i :: .ref a :: st) ws kc ks := by
  obtain ⟨p, l, e, R, s, m, args, below, meth, c, Q, A, K⟩ := G
  obtain ⟨hx, hb, hml, hown, hts, rfl, hU, hA, rfl⟩ := hG
  intro H locs ls hl hP hD hS
  subst hws
  exact va_dast hx hb hU.1 hP hD hS q0 5 he rfl hi hdg (fun H1 locs1 hP1 hD1 hS1 => z H1 locs1 ls hl hP1 hD1 hS1)
theorem z_dald {a n : Nat} {f : Nat → UInt64} {i : Int32} (hG : zC G own cc nL Ts rm K) (hdg : decode cc pc = .ok (.daload, 1)) (q0 : Nat) (he : ws[q0]? = some (a, .inl (K.2 5, n, .inr (.inr (.inr (.inl f)))))) (hi : zin i n) (z : zj G (pc + 1) lv (.double (f i.toNatClampNeg) :: st) ws kc ks) : zj G pc lv (.int i :: .ref a :: st) ws kc ks := by
  obtain ⟨p, l, e, R, s, m, args, below, meth, c, Q, A, K⟩ := G
  obtain ⟨hx, hb, hml, hown, hts, rfl, hU, hA, rfl⟩ := hG
  intro H locs ls hl hP hD hS
  exact va_dald hx hb hU.1 hP q0 5 he rfl hi hdg (z H locs ls hl hP hD hS)
theorem z_lcmp {x y : Int64} (hG : zC G own cc nL Ts rm K) (hdg : decode cc pc = .ok (.lcmp, 1))  (z : zj G (pc + 1) lv (.int (lg_cmp x y) :: st) ws kc ks) : zj G pc lv (.long y :: .long x :: st) ws kc ks := by
  obtain ⟨p, l, e, R, s, m, args, below, meth, c, Q, A, K⟩ := G
  obtain ⟨hx, hb, hml, hown, hts, rfl, hU, hA, rfl⟩ := hG
  intro H locs ls hl hP hD hS
  exact W.lcmp hx hb hdg (z H locs ls hl hP hD hS)
theorem z_dcmp {x y : UInt64} {op : CmpOp} (hG : zC G own cc nL Ts rm K) (hdg : decode cc pc = .ok (.dcmp op, 1))  (z : zj G (pc + 1) lv (.int (Op.cmpValue (FP.dcmp x y) op) :: st) ws kc ks) : zj G pc lv (.double y :: .double x :: st) ws kc ks := by
  obtain ⟨p, l, e, R, s, m, args, below, meth, c, Q, A, K⟩ := G
  obtain ⟨hx, hb, hml, hown, hts, rfl, hU, hA, rfl⟩ := hG
  intro H locs ls hl hP hD hS
  exact lv_dcmp hx hb hdg (z H locs ls hl hP hD hS)
/-- the law's script: L ints xs at b, which no one writes -/
def zXs (G : zG) (b L : Nat) (xs : Nat → Int32) : Prop := match G with
  | (_, _, _, _, s, _, _, _, _, _, _, A, _) => va_X b L xs s s.heap ∧ b < s.heap.size ∧ ¬ A b
theorem z_sld {b L : Nat} {xs : Nat → Int32} {i : Int32} (hG : zC G own cc nL Ts rm K) (hX : zXs G b L xs) (hdg : decode cc pc = .ok (.iaload, 1)) (hi : zin i L) (z : zj G (pc + 1) lv (.int (xs i.toNatClampNeg) :: st) ws kc ks) : zj G pc lv (.int i :: .ref b :: st) ws kc ks := by
  obtain ⟨p, l, e, R, s, m, args, below, meth, c, Q, A, K⟩ := G
  obtain ⟨hx, hb, hml, hown, hts, rfl, hU, hA, rfl⟩ := hG
  intro H locs ls hl hP hD hS
  exact va_sld hx hb hX.1 hX.2.1 hX.2.2 hS hi hdg (z H locs ls hl hP hD hS)
theorem z_slen {b L : Nat} {xs : Nat → Int32} (hG : zC G own cc nL Ts rm K) (hX : zXs G b L xs) (hdg : decode cc pc = .ok (.arraylength, 1)) (z : zj G (pc + 1) lv (.int (Int32.ofNat L) :: st) ws kc ks) : zj G pc lv (.ref b :: st) ws kc ks := by
  obtain ⟨p, l, e, R, s, m, args, below, meth, c, Q, A, K⟩ := G
  obtain ⟨hx, hb, hml, hown, hts, rfl, hU, hA, rfl⟩ := hG
  intro H locs ls hl hP hD hS
  exact va_slen hx hb hX.1 hX.2.1 hX.2.2 hS hdg (z H locs ls hl hP hD hS)
theorem z_tableIn {x : Int32} {dflt lo hi : Int} {offs : Array Int} {len : Nat} {off : Int} (tgt : Nat) (hG : zC G own cc nL Ts rm K) (hdg : decode cc pc = .ok (.tableswitch dflt lo hi offs, len)) (h1 : ¬ x.toInt < lo) (h2 : ¬ hi < x.toInt) (ho : offs[(x.toInt - lo).toNat]? = some off) (ht : (pc : Int) + off = (tgt : Int)) (z : zj G tgt lv st ws kc ks) : zj G pc lv (.int x :: st) ws kc ks := by
  obtain ⟨p, l, e, R, s, m, args, below, meth, c, Q, A, K⟩ := G
  obtain ⟨hx, hb, hml, hown, hts, rfl, hU, hA, rfl⟩ := hG
  intro H locs ls hl hP hD hS
  exact lv_tableIn hx hb hdg h1 h2 ho ht (z H locs ls hl hP hD hS)
theorem z_tableOut {x : Int32} {dflt lo hi : Int} {offs : Array Int} {len : Nat} (tgt : Nat) (hG : zC G own cc nL Ts rm K) (hdg : decode cc pc = .ok (.tableswitch dflt lo hi offs, len)) (h : x.toInt < lo ∨ hi < x.toInt) (ht : (pc : Int) + dflt = (tgt : Int)) (z : zj G tgt lv st ws kc ks) : zj G pc lv (.int x :: st) ws kc ks := by
  obtain ⟨p, l, e, R, s, m, args, below, meth, c, Q, A, K⟩ := G
  obtain ⟨hx, hb, hml, hown, hts, rfl, hU, hA, rfl⟩ := hG
  intro H locs ls hl hP hD hS
  exact lv_tableOut hx hb hdg h ht (z H locs ls hl hP hD hS)
theorem z_new {ci index N : Nat} {C : String} {T : u_T} {fs : List Value} {ty0 : Nat → FieldType} (hG : zC G own cc nL Ts rm K) (hdg : decode cc pc = .ok (.new index, 3)) (hin : ∀ w ∈ u_ws C T N, w ∈ Ts) (hty : ∀ k, k < N → parseFieldDescriptor (T k).2.2.1 = some (ty0 k)) (hcl : Cond.classLink own index C ∈ Ts) (hinst : Cond.instantiable C N ∈ Ts) (hini : Cond.initialized C ∈ Ts) (hc : vwCl[ci]? = some (C, T, N)) (hfs : ∀ j, j < N → defaultValue (ty0 j) = vp_V fs j) (hcells : kc + 1 ≤ rm.cells) (hslots : ks + N ≤ rm.slots) (z : ∀ q : Nat, zj G (pc + 3) lv (.ref q :: st) (ws ++ [(q, .inr (ci, fs))]) (kc + 1) (ks + N)) : zj G pc lv st ws kc ks := by
  obtain ⟨p, l, e, R, s, m, args, below, meth, c, Q, A, K⟩ := G
  obtain ⟨hx, hb, hml, hown, hts, rfl, hU, hA, rfl⟩ := hG
  intro H locs ls hl hP hD hS
  exact va_new hx hb hts hin ty0 hty hown (hts _ hcl) (hts _ hinst) (hts _ hini) hU.1 hP hD hS hA hc hfs hcells hslots hdg (fun q H1 hP1 hD1 hS1 => z q H1 locs ls hl hP1 hD1 hS1)
theorem z_newJ {n : Int32} {N' : Nat} (hG : zC G own cc nL Ts rm K) (hdg : decode cc pc = .ok (.newarray .long, 2)) (hw : Cond.arrayClass .long ∈ Ts) (hn : ¬ n < 0) (hN : n.toNatClampNeg = N') (hb4 : N' * 8 ≤ 536870912) (hc : kc + 1 ≤ rm.cells) (hs : ks + N' ≤ rm.slots)
    (z : ∀ q : Nat, zj G (pc + 2) lv (.ref q :: st) (ws ++ [(q, .inl (K.2 4, N', .inr (.inl (fun _ => 0))))]) (kc + 1) (ks + N')) : zj G pc lv (.int n :: st) ws kc ks := by
  obtain ⟨p, l, e, R, s, m, args, below, meth, c, Q, A, K⟩ := G
  obtain ⟨hx, hb, hml, hown, hts, rfl, hU, hA, rfl⟩ := hG
  intro H locs ls hl hP hD hS
  refine va_newa (ty := .long) (a0 := (N', .inr (.inl (fun _ => 0)))) hx hb (atype := .long) (hts _ hw) rfl hU.1 hP hD hS hA (fun _ => rfl) hn hN hb4 hc hs hdg (fun q cA H1 hK1 hP1 hD1 hS1 => ?_)
  have e : cA = K.2 4 := z_sameClass hU.1 4 rfl (fun C h => by cases h) (hK1.2 6 (cA, .long) rfl).2
  subst e
  exact z q H1 locs ls hl hP1 hD1 hS1
theorem z_newD {n : Int32} {N' : Nat} (hG : zC G own cc nL Ts rm K) (hdg : decode cc pc = .ok (.newarray .double, 2)) (hw : Cond.arrayClass .double ∈ Ts) (hn : ¬ n < 0) (hN : n.toNatClampNeg = N') (hb4 : N' * 8 ≤ 536870912) (hc : kc + 1 ≤ rm.cells) (hs : ks + N' ≤ rm.slots)
    (z : ∀ q : Nat, zj G (pc + 2) lv (.ref q :: st) (ws ++ [(q, .inl (K.2 5, N', .inr (.inr (.inr (.inl (fun _ => 0))))))]) (kc + 1) (ks + N')) : zj G pc lv (.int n :: st) ws kc ks := by
  obtain ⟨p, l, e, R, s, m, args, below, meth, c, Q, A, K⟩ := G
  obtain ⟨hx, hb, hml, hown, hts, rfl, hU, hA, rfl⟩ := hG
  intro H locs ls hl hP hD hS
  refine va_newa (ty := .double) (a0 := (N', .inr (.inr (.inr (.inl (fun _ => 0)))))) hx hb (atype := .double) (hts _ hw) rfl hU.1 hP hD hS hA (fun _ => rfl) hn hN hb4 hc hs hdg (fun q cA H1 hK1 hP1 hD1 hS1 => ?_)
  have e : cA = K.2 5 := z_sameClass hU.1 5 rfl (fun C h => by cases h) (hK1.2 6 (cA, .double) rfl).2
  subst e
  exact z q H1 locs ls hl hP1 hD1 hS1
end ZLR
/-- a loop whose turns make cells, and that may leave the method -/
theorem z_loopAE {G : zG} {σ ρ ε : Type} {step : σ → Option ((ρ ⊕ ε) ⊕ σ)} {N : Nat} {s : σ} {e : ρ ⊕ ε} (h : zloop step N s = some e) {pc : Nat} (lv : σ → zL) (ws : σ → va_W) {kc ks : Nat} (k1 s1 : Nat) (X1 : ρ → Prop) (X2 : ε → Prop) (hx1 : ∀ p, e = .inl p → X1 p) (hx2 : ∀ x, e = .inr x → X2 x)
    (body : ∀ i s v, i < N → step s = some v → (∀ p, v = .inl (.inl p) → X1 p) → (∀ x, v = .inl (.inr x) → X2 x) → (∀ s', v = .inr s' → zj G pc (lv s') [] (ws s') (kc + k1 * (i + 1)) (ks + s1 * (i + 1))) → zj G pc (lv s) [] (ws s) (kc + k1 * i) (ks + s1 * i)) : zj G pc (lv s) [] (ws s) kc ks := by
  refine z_loopA h lv ws k1 s1 (fun e' => (∀ p, e' = .inl p → X1 p) ∧ (∀ x, e' = .inr x → X2 x)) ⟨hx1, hx2⟩ (fun i s v hi hs hX hB => ?_)
  refine body i s v hi hs (fun p hp => ?_) (fun x hp => ?_) hB
  · exact (hX _ hp).1 p rfl
  · exact (hX _ hp).2 x rfl
