/-! the law's own helpers: a call that may throw, caught at once -/
def zCL (l : Launch) (y : MethodName) (ws : List Cond) (rm : Room) (av : List Value) (G : zG) (sh : List zSh) (ss ss' : List zSt) (rv : Option Value) : Prop := ∀ sz : Nat, Met l y ws rm (zPcX G sh ss av sz) (zQ G sh ss' (zA sh sz) rv) 1 6 (zA sh sz)
section ZLW
variable {p : Program} {l : Launch} {e : Env} {R : Room} {s : State} {m : MethodId} {args : Array Value} {below : List Frame} {meth : Method} {c : Code} {H : Heap} {locs : List Loc} {cells slots : Nat} {Q : State → Prop}
variable {cc : ByteArray} {pc : Nat} {ls : Array Slot} {rest st0 : List Value} {G : zG} {sh : List zSh} {ss : List zSt} {H0 : Heap} {sz : Nat}
theorem z_ofWL {y : MethodName} {ws ws' : List Cond} {rm : Room} {av : List Value} {ss' : List zSt} {rv : Option Value} {maxL : Nat} {ret : Option FieldType} {hh : List (Nat × Nat × Nat × Nat)}
    (hy : plainName y.cls = true) (hw : ws = Cond.codeWith y cc maxL ret hh :: ws') (hlen : (lg_sl av).length ≤ maxL)
    (body : ∀ (p : Program) (e : Env) (s : State) (m : MethodId) (args : Array Value) (below : List Frame) (meth : Method) (c : Code), zCtx p s m args meth c cc y.cls ws maxL ret → zK G s → zN s → zD sh → zX s → zH (zA sh s.heap.size) s s.heap → c.exceptionTable.toList = tableOf hh → zP G sh ss s.heap → ∀ ls : Array Slot, lv_has ls maxL (lv_args 0 av) →
      W p l e rm s m args below meth c s.heap [] 0 0 (MQ below (zQ G sh ss' (zA sh s.heap.size) rv) args s 1 6 (zA sh s.heap.size)) (F0 m 0 ls [])) : zCL l y ws rm av G sh ss ss' rv := by
  intro sz
  refine va_MetW (cc := cc) (maxL := maxL) (ret := ret) hy hw ?_
  intro p e s m args below meth c s₁ B hml hv
  obtain ⟨rfl, hsz, hP, hK, hD, hN, hX, hH⟩ := hv
  subst hsz
  have hl := lv_entry av (n := maxL) hlen
  have hts := atoms_spec (ws := ws) B.pre
  have hTab : c.exceptionTable.toList = tableOf hh := vx_table (x := y) B (hts _ (by rw [hw]; exact List.mem_cons_self))
  rw [lg_entry_eq]
  exact body p e s m _ below meth c ⟨B.exec, B.bytes, B.returns, hml, findClass_of_methodNamed B.named, hts, B.notSynchronized⟩ hK hN hD hX hH hTab hP _ hl
theorem z_iretL {ss' : List zSt} {v : Int32} (hx : p.tables.exec = Jvm.exec) (hb : c.code = cc) (hr : meth.sig.returnType = some .int) (hlk : meth.locks = false) (hP : zP G sh ss' H) (hS : va_S (zA sh s.heap.size) s.heap H locs) (hdg : decode cc pc = .ok (.ireturn, 1)) : W p l e R s m args below meth c H locs (0 + 1) (0 + 6) (MQ below (zQ G sh ss' (zA sh s.heap.size) (some (.int v))) args s 1 6 (zA sh s.heap.size)) (F0 m pc ls [.int v]) :=
  W.iret hx hb hr (fun t ht _ => ⟨rfl, by rw [ht]; exact hP, hS.F ht⟩) hS.2.2 hdg hlk
end ZLW
def zbx {ρ β : Type} (x : Option (String ⊕ ρ)) (fe : String → Option β) (f : ρ → Option β) : Option β := match x with | none => none | some (.inl E) => fe E | some (.inr a) => f a
theorem zbx_e {ρ β : Type} {x : Option (String ⊕ ρ)} {fe : String → Option β} {f : ρ → Option β} {o : β} (h : zbx x fe f = some o) : ∃ oo, x = some oo ∧ (∀ E, oo = .inl E → fe E = some o) ∧ ∀ a, oo = .inr a → f a = some o := by
  cases x with
  | none => cases h
  | some oo =>
    cases oo with
    | inl E => exact ⟨.inl E, rfl, ⟨fun E' q => by cases q; exact h, fun a q => by cases q⟩⟩
    | inr a => exact ⟨.inr a, rfl, ⟨fun E' q => (by cases q), fun a' q => by cases q; exact h⟩⟩
