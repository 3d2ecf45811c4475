/-! constructors -/
def z0 : zSt := (fun _ => 0, fun _ => 0, fun _ _ => 0, fun _ _ => 0)
def zPi (G : zG) (h0 : Nat) (en : va_E) (sz : Nat) : Array Value → State → Prop := va_Pc [.ref h0] (fun U => U.heap.size = sz ∧ va_P G.1 vwCl [(h0, en)] U.heap ∧ zK G U ∧ va_D (fun _ => True) [(h0, en)] ∧ zN U)
theorem zPi.blind {G : zG} {h0 : Nat} {en : va_E} {sz : Nat} : FrameBlind (zPi G h0 en sz) := fun a U g mk h => by
  obtain ⟨q0, q1, q2, q3, q4, q5⟩ := h
  exact ⟨q0, q1, q2, zK.moved (u := U) (U := U.calling g mk a) (Vm.Alike.refl U.vm) q3, q4, zN.same (u := U) (U := U.calling g mk a) rfl q5⟩
def zMi (l : Launch) (y : MethodName) (ws : List Cond) (rm : Room) (G : zG) (h0 : Nat) (en : va_E) (cells : (Nat → Nat) → va_W) (mc ms : Nat) : Prop := ∀ sz : Nat, Met l y ws rm (zPi G h0 en sz) (va_Qv (fun x : Nat → Nat => x 0 = h0) (fun x t => va_P G.1 vwCl (cells x) t.heap ∧ va_D (va_A [(h0, en)] sz) (cells x)) (va_A [(h0, en)] sz)) mc ms (va_A [(h0, en)] sz)
section ZIW
variable {p : Program} {l : Launch} {e : Env} {R : Room} {s : State} {m : MethodId} {args : Array Value} {below : List Frame} {meth : Method} {c : Code} {H : Heap} {locs : List Loc} {cells slots : Nat} {Q : State → Prop}
variable {cc : ByteArray} {pc : Nat} {ls : Array Slot} {rest st0 : List Value} {G : zG} {ws : va_W} {A : Nat → Prop} {H0 : Heap}
theorem z_ofWI {y : MethodName} {wd ws' : List Cond} {rm : Room} {h0 : Nat} {en : va_E} {cf : (Nat → Nat) → va_W} {mc ms maxL : Nat}
    (hy : plainName y.cls = true) (hw : wd = Cond.code y cc maxL none :: ws') (hm : 1 ≤ maxL)
    (body : ∀ (p : Program) (e : Env) (s : State) (m : MethodId) (args : Array Value) (below : List Frame) (meth : Method) (c : Code) (A : Nat → Prop), zCtx p s m args meth c cc y.cls wd maxL none → meth.name = y.name → zK G s → zN s → va_P G.1 vwCl [(h0, en)] s.heap → va_D A [(h0, en)] → A = va_A [(h0, en)] s.heap.size → (∀ q : Nat, s.heap.size ≤ q → A q) → ∀ ls : Array Slot, lv_has ls maxL [(0, .ref h0)] →
      W p l e rm s m args below meth c s.heap [] 0 0 (MQ below (va_Qv (fun x : Nat → Nat => x 0 = h0) (fun x t => va_P G.1 vwCl (cf x) t.heap ∧ va_D A (cf x)) A) args s mc ms A) (F0 m 0 ls [])) : zMi l y wd rm G h0 en cf mc ms := by
  intro sz
  refine Met.ofW (cc := cc) (maxL := maxL) (ret := none) hy hw ?_
  intro p e s m args below meth c s₁ B hml hv
  obtain ⟨rfl, hsz, hP, hK, hD0, hN⟩ := hv
  subst hsz
  have hl := lv_entry [.ref h0] (n := maxL) (show (lg_sl [Value.ref h0]).length ≤ maxL from hm)
  rw [lg_entry_eq]
  exact body p e s m _ below meth c _ ⟨B.exec, B.bytes, B.returns, hml, findClass_of_methodNamed B.named, atoms_spec (ws := wd) B.pre, B.notSynchronized⟩ (name_of_methodNamed B.named B.method).1 hK hN hP hD0.self rfl (fun q h => Or.inr h) _ hl
theorem z_cls {cA : ClassId} {ty : FieldType} {t0 : Nat} {cB : ClassId} (hK : zK G s) (ht : (zTy G)[t0]? = some (cB, ty)) (hty : ty = .int ∨ ty = .long ∨ ty = .boolean) (h : va_K G.1 vwCl (zTy G ++ [(cA, ty)]) s) : cA = cB := by
  have h1 := (hK.2 t0 _ ht).2
  have h2 := (h.2 3 (cA, ty) rfl).2
  rcases hty with rfl | rfl | rfl
  · exact Option.some.inj ((show s.vm.findClass _ = some cA from h2).symm.trans (show s.vm.findClass _ = some cB from h1))
  · exact Option.some.inj ((show s.vm.findClass _ = some cA from h2).symm.trans (show s.vm.findClass _ = some cB from h1))
  · exact Option.some.inj ((show s.vm.findClass _ = some cA from h2).symm.trans (show s.vm.findClass _ = some cB from h1))
theorem z_newI (hx : p.tables.exec = Jvm.exec) (hb : c.code = cc) (harr : (Cond.arrayClass .int).before args s = true) (hK : zK G s) (hP : va_P G.1 vwCl ws H) (hD : va_D A ws) (hS : va_S A H0 H locs) (hA : ∀ q, H0.size ≤ q → A q) {n : Int32} {N : Nat} (hn : ¬ n < 0) (hN : n.toNatClampNeg = N) (hby : N ≤ 1000) (hcells : cells + 1 ≤ R.cells) (hslots : slots + N ≤ R.slots) (hdg : decode cc pc = .ok (.newarray .int, 2))
    (kk : ∀ (q : Nat) (H1 : Heap), va_P G.1 vwCl (ws ++ [(q, .inl (G.2.1, N, .inl (fun _ => 0)))]) H1 → va_D A (ws ++ [(q, .inl (G.2.1, N, .inl (fun _ => 0)))]) → va_S A H0 H1 locs → W p l e R s m args below meth c H1 locs (cells + 1) (slots + N) Q (F0 m (pc + 2) ls (.ref q :: rest))) : W p l e R s m args below meth c H locs cells slots Q (F0 m pc ls (.int n :: rest)) := by
  refine va_newa (atype := .int) (ty := .int) (tys := zTy G) (a0 := (N, .inl (fun _ => 0))) hx hb harr rfl hK hP hD hS hA (fun _ => rfl) hn hN (by show N * 4 ≤ 536870912; omega) hcells hslots hdg (fun q cA H1 hK1 hP1 hD1 hS1 => ?_)
  have hc := z_cls hK (t0 := 0) rfl (Or.inl rfl) hK1
  subst hc
  exact kk q H1 hP1 hD1 hS1
theorem z_newJ (hx : p.tables.exec = Jvm.exec) (hb : c.code = cc) (harr : (Cond.arrayClass .long).before args s = true) (hK : zK G s) (hP : va_P G.1 vwCl ws H) (hD : va_D A ws) (hS : va_S A H0 H locs) (hA : ∀ q, H0.size ≤ q → A q) {n : Int32} {N : Nat} (hn : ¬ n < 0) (hN : n.toNatClampNeg = N) (hby : N ≤ 1000) (hcells : cells + 1 ≤ R.cells) (hslots : slots + N ≤ R.slots) (hdg : decode cc pc = .ok (.newarray .long, 2))
    (kk : ∀ (q : Nat) (H1 : Heap), va_P G.1 vwCl (ws ++ [(q, .inl (G.2.2.1, N, .inr (.inl (fun _ => 0))))]) H1 → va_D A (ws ++ [(q, .inl (G.2.2.1, N, .inr (.inl (fun _ => 0))))]) → va_S A H0 H1 locs → W p l e R s m args below meth c H1 locs (cells + 1) (slots + N) Q (F0 m (pc + 2) ls (.ref q :: rest))) : W p l e R s m args below meth c H locs cells slots Q (F0 m pc ls (.int n :: rest)) := by
  refine va_newa (atype := .long) (ty := .long) (tys := zTy G) (a0 := (N, .inr (.inl (fun _ => 0)))) hx hb harr rfl hK hP hD hS hA (fun _ => rfl) hn hN (by show N * 8 ≤ 536870912; omega) hcells hslots hdg (fun q cA H1 hK1 hP1 hD1 hS1 => ?_)
  have hc := z_cls hK (t0 := 1) rfl (Or.inr (Or.inl rfl)) hK1
  subst hc
  exact kk q H1 hP1 hD1 hS1
theorem z_newZ (hx : p.tables.exec = Jvm.exec) (hb : c.code = cc) (harr : (Cond.arrayClass .boolean).before args s = true) (hK : zK G s) (hP : va_P G.1 vwCl ws H) (hD : va_D A ws) (hS : va_S A H0 H locs) (hA : ∀ q, H0.size ≤ q → A q) {n : Int32} {N : Nat} (hn : ¬ n < 0) (hN : n.toNatClampNeg = N) (hby : N ≤ 1000) (hcells : cells + 1 ≤ R.cells) (hslots : slots + N ≤ R.slots) (hdg : decode cc pc = .ok (.newarray .boolean, 2))
    (kk : ∀ (q : Nat) (H1 : Heap), va_P G.1 vwCl (ws ++ [(q, .inl (G.2.2.2, N, .inl (fun _ => 0)))]) H1 → va_D A (ws ++ [(q, .inl (G.2.2.2, N, .inl (fun _ => 0)))]) → va_S A H0 H1 locs → W p l e R s m args below meth c H1 locs (cells + 1) (slots + N) Q (F0 m (pc + 2) ls (.ref q :: rest))) : W p l e R s m args below meth c H locs cells slots Q (F0 m pc ls (.int n :: rest)) := by
  refine va_newa (atype := .boolean) (ty := .boolean) (tys := zTy G) (a0 := (N, .inl (fun _ => 0))) hx hb harr rfl hK hP hD hS hA (fun _ => rfl) hn hN (by show N * 1 ≤ 536870912; omega) hcells hslots hdg (fun q cA H1 hK1 hP1 hD1 hS1 => ?_)
  have hc := z_cls hK (t0 := 2) rfl (Or.inr (Or.inr rfl)) hK1
  subst hc
  exact kk q H1 hP1 hD1 hS1
theorem z_preI {q0 : Nat} {en : va_E} (hP : va_P G.1 vwCl [(q0, en)] H) (hD : va_D A [(q0, en)]) (hK : zK G s) (hN : zN s) : PreS s H (zPi G q0 en H.size) [.ref q0] :=
  ⟨zPi.blind, fun U hU hW => ⟨rfl, by rw [hU], by rw [hU]; exact hP, hK.moved hW.alike, hD.weaken (fun _ _ _ _ => trivial), hN.warm hW⟩⟩
theorem z_vretI {h0 : Nat} {cf : (Nat → Nat) → va_W} {mc ms : Nat} (x : Nat → Nat) (hx : p.tables.exec = Jvm.exec) (hb : c.code = cc) (hr : meth.sig.returnType = none) (hlk : meth.locks = false) (hx0 : x 0 = h0) (hP : va_P G.1 vwCl (cf x) H) (hD : va_D A (cf x)) (hS : va_S A s.heap H locs) (hdg : decode cc pc = .ok (.return_, 1)) : W p l e R s m args below meth c H locs mc ms (MQ below (va_Qv (fun x : Nat → Nat => x 0 = h0) (fun x t => va_P G.1 vwCl (cf x) t.heap ∧ va_D A (cf x)) A) args s mc ms A) (F0 m pc ls []) :=
  W.vret hx hb hr (fun t ht _ => ⟨⟨x, rfl, hx0, by rw [ht]; exact hP, hD⟩, hS.F ht⟩) hS.2.2 hdg hlk
end ZIW
