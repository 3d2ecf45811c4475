/-! methods that may throw: contracts, the throw, the catch -/
def zIAE : String := "java/lang/IllegalArgumentException"
def zISE : String := "java/lang/IllegalStateException"
def zUOE : String := "java/lang/UnsupportedOperationException"
def zIOO : String := "java/lang/IndexOutOfBoundsException"
def zEx : List String := ["java/lang/IllegalArgumentException", "java/lang/IllegalStateException", "java/lang/UnsupportedOperationException", "java/lang/IndexOutOfBoundsException"]
abbrev zSup : List String := ["java/lang/RuntimeException", "java/lang/Exception"]
def zDe : List MethodName := [⟨"java/lang/RuntimeException", "<init>", "(Ljava/lang/String;)V"⟩, ⟨"java/lang/Exception", "<init>", "(Ljava/lang/String;)V"⟩, ⟨"java/lang/Throwable", "<init>", "(Ljava/lang/String;)V"⟩]
def zStr : List (Nat × String) := [(53, "a secret is no number"), (79, "no such voter"), (87, "not voting, or registered before"), (95, "no room on the board"), (101, "no such voter or choice, or no number"), (103, "not voting, or not registered"), (118, "not voting"), (133, "not mixing"), (138, "no order of the entries"), (147, "no such trustee"), (152, "not mixing or opening, or opened before"), (161, "not all have opened, or done before"), (172, "no such choice"), (182, "no such record or field"), (195, "no such record"), (201, "not so many records"), (207, "no such record, or not so many"), (213, "no such part, or not so many records"), (221, "no such digest")]
/-- what the tables say for throws and catches, beside the good words -/
def zX (U : State) : Prop := (∀ C ∈ zEx, va_Nw (.castable C C) U) ∧ (∀ y ∈ zDe, va_Nw (.declares y) U) ∧ (∀ E ∈ zEx, ∀ T ∈ zEx, E ≠ T → va_Nc E T U) ∧ ∀ q ∈ zStr, ∃ a : Nat, vk_R RX6 q.1 q.2 a U
theorem zX.warm {s U : State} (hW : s.WarmedH U.vm) (h : zX s) : zX U := ⟨fun C hC => va_Nw.warmC hW (h.1 C hC), fun y hy => va_Nw.warmD hW (h.2.1 y hy), fun E hE T hT n => va_Nc.moved hW.alike (h.2.2.1 E hE T hT n), fun q hq => by
  obtain ⟨a, ha⟩ := h.2.2.2 q hq
  exact ⟨a, vk_R.warm hW ha⟩⟩
theorem zX.same {u U : State} (hv : u.vm = U.vm) (h : zX u) : zX U := ⟨fun C hC => va_Nw.same rfl hv (h.1 C hC), fun y hy => va_Nw.same rfl hv (h.2.1 y hy), fun E hE T hT n => va_Nc.moved (by rw [hv]; exact Vm.Alike.refl _) (h.2.2.1 E hE T hT n), fun q hq => by
  obtain ⟨a, ha⟩ := h.2.2.2 q hq
  exact ⟨a, vk_R.same hv.symm ha⟩⟩
def zXw : List Cond := [.castable "java/lang/IllegalArgumentException" "java/lang/IllegalArgumentException", .castable "java/lang/IllegalStateException" "java/lang/IllegalStateException", .castable "java/lang/UnsupportedOperationException" "java/lang/UnsupportedOperationException", .castable "java/lang/IndexOutOfBoundsException" "java/lang/IndexOutOfBoundsException", .declares ⟨"java/lang/RuntimeException", "<init>", "(Ljava/lang/String;)V"⟩, .declares ⟨"java/lang/Exception", "<init>", "(Ljava/lang/String;)V"⟩, .declares ⟨"java/lang/Throwable", "<init>", "(Ljava/lang/String;)V"⟩]
theorem zX.words {s : State} {args : Array Value} (h : zX s) : ∀ w ∈ zXw, w.before args s = true := by
  intro w hw
  simp only [zXw, List.mem_cons, List.not_mem_nil, or_false] at hw
  rcases hw with rfl | rfl | rfl | rfl | rfl | rfl | rfl
  · exact va_Nw.use rfl (h.1 _ (by decide +kernel))
  · exact va_Nw.use rfl (h.1 _ (by decide +kernel))
  · exact va_Nw.use rfl (h.1 _ (by decide +kernel))
  · exact va_Nw.use rfl (h.1 _ (by decide +kernel))
  · exact va_Nw.use rfl (h.2.1 _ (by decide +kernel))
  · exact va_Nw.use rfl (h.2.1 _ (by decide +kernel))
  · exact va_Nw.use rfl (h.2.1 _ (by decide +kernel))
/-- where Throwable's two statics lie: none of the world's cells -/
def zH (A : Nat → Prop) (U : State) (H : Heap) : Prop := vx_Zq Bundle.tN "UNASSIGNED_STACK" Bundle.steD A U H ∧ vx_Zq Bundle.tN "SUPPRESSED_SENTINEL" Bundle.listD A U H
theorem zH.moved {A : Nat → Prop} {u U : State} {H : Heap} (hvm : u.vm.Alike U.vm) (h : zH A u H) : zH A U H := ⟨vx_Zq.moved hvm h.1, vx_Zq.moved hvm h.2⟩
theorem zH.kept {A : Nat → Prop} {U : State} {H H1 : Heap} (h : zH A U H) (hq : ∀ a : Nat, a < H.size → ¬ A a → H1[a]? = H[a]?) : zH A U H1 := ⟨vx_Zq.kept h.1 hq, vx_Zq.kept h.2 hq⟩
theorem zH.narrow {A B : Nat → Prop} {U : State} {H : Heap} (h : zH A U H) (hAB : ∀ q, B q → A q) : zH B U H := ⟨vx_Zq.narrow h.1 hAB, vx_Zq.narrow h.2 hAB⟩
def zPcX (G : zG) (sh : List zSh) (ss : List zSt) (av : List Value) (sz : Nat) : Array Value → State → Prop := va_Pc av (fun U => U.heap.size = sz ∧ zP G sh ss U.heap ∧ zK G U ∧ zD sh ∧ zN U ∧ zX U ∧ zH (zA sh sz) U U.heap)
theorem zPcX.blind {G : zG} {sh : List zSh} {ss : List zSt} {av : List Value} {sz : Nat} : FrameBlind (zPcX G sh ss av sz) := fun a U g mk h => by
  obtain ⟨q0, q1, q2, q3, q4, q5, q6, q7⟩ := h
  exact ⟨q0, q1, q2, zK.moved (u := U) (U := U.calling g mk a) (Vm.Alike.refl U.vm) q3, q4, zN.same (u := U) (U := U.calling g mk a) rfl q5, zX.same (u := U) (U := U.calling g mk a) rfl q6, zH.moved (u := U) (U := U.calling g mk a) (Vm.Alike.refl U.vm) q7⟩
def zQX {ρ : Type} (G : zG) (sh : List zSh) (A : Nat → Prop) (oo : String ⊕ ρ) (fv : ρ → Option Value) (fs : ρ → List zSt) : Array Value → State → Outcome → State → Prop := fun a st o t => ∃ x : ρ, oo = .inr x ∧ zQ G sh (fs x) A (fv x) a st o t
def zXC {ρ : Type} (G : zG) (sh : List zSh) (ss : List zSt) (A : Nat → Prop) (oo : String ⊕ ρ) : String → State → State → Prop := fun E st t => oo = .inl E ∧ zP G sh ss t.heap ∧ va_F A st t
/-- a contract of a method that may throw: oo says which, and what -/
def zCX {ρ : Type} (l : Launch) (y : MethodName) (ws : List Cond) (rm : Room) (av : List Value) (G : zG) (sh : List zSh) (ss : List zSt) (oo : String ⊕ ρ) (fv : ρ → Option Value) (fs : ρ → List zSt) : Prop := ∀ sz : Nat, vx_Met l y ws rm (zPcX G sh ss av sz) (zQX G sh (zA sh sz) oo fv fs) (zXC G sh ss (zA sh sz) oo) 1 6 (zA sh sz)
section ZXW
variable {p : Program} {l : Launch} {e : Env} {R : Room} {s : State} {m : MethodId} {args : Array Value} {below : List Frame} {meth : Method} {c : Code} {H : Heap} {locs : List Loc} {cells slots : Nat} {Q : State → Prop}
variable {cc : ByteArray} {pc : Nat} {ls : Array Slot} {rest st0 : List Value} {G : zG} {sh : List zSh} {ss : List zSt} {H0 : Heap} {sz : Nat} {ρ : Type} {oo : String ⊕ ρ} {fv : ρ → Option Value} {fs : ρ → List zSt}
theorem z_ofWX {y : MethodName} {ws ws' : List Cond} {rm : Room} {av : List Value} {maxL : Nat} {ret : Option FieldType}
    (hy : plainName y.cls = true) (hw : ws = Cond.code y cc maxL ret :: ws') (hlen : (lg_sl av).length ≤ maxL)
    (body : ∀ (p : Program) (e : Env) (s : State) (m : MethodId) (args : Array Value) (below : List Frame) (meth : Method) (c : Code), zCtx p s m args meth c cc y.cls ws maxL ret → zK G s → zN s → zD sh → zX s → zH (zA sh s.heap.size) s s.heap → (∀ x ∈ c.exceptionTable.toList, False) → zP G sh ss s.heap → ∀ ls : Array Slot, lv_has ls maxL (lv_args 0 av) →
      W p l e rm s m args below meth c s.heap [] 0 0 (vx_MQ below (zQX G sh (zA sh s.heap.size) oo fv fs) (zXC G sh ss (zA sh s.heap.size) oo) args s 1 6 (zA sh s.heap.size)) (F0 m 0 ls [])) : zCX l y ws rm av G sh ss oo fv fs := by
  intro sz
  refine vx_ofW (cc := cc) (maxL := maxL) (ret := ret) hy hw ?_
  intro p e s m args below meth c s₁ B hml hT hv
  obtain ⟨rfl, hsz, hP, hK, hD, hN, hX, hH⟩ := hv
  subst hsz
  have hl := lv_entry av (n := maxL) hlen
  rw [lg_entry_eq]
  exact body p e s m _ below meth c ⟨B.exec, B.bytes, B.returns, hml, findClass_of_methodNamed B.named, atoms_spec (ws := ws) B.pre, B.notSynchronized⟩ hK hN hD hX hH hT hP _ hl
theorem z_throw (hx : p.tables.exec = Jvm.exec) (hb : c.code = cc) (hfl : l.stackTraces = false) {own cls text : String} {ik is ic : Nat} (hown : s.vm.findClass own = some m.cls) (hcls : Bundle.fit cls = true) (hsup : ∀ n ∈ zSup, Bundle.fit n = true)
    (hk : (Cond.classLink own ik cls).before args s = true) (hini : (Cond.initialized cls).before args s = true) (hstr : ∃ a : Nat, vk_R own is text a s) (hg1 : ∀ w ∈ (vx_atS own ic cls zSup).filter goodWord, w.before args s = true) (hg2 : ∀ w ∈ (vx_atS own ic cls zSup).filter (fun w => !goodWord w), w ∈ zXw) (hX : zX s)
    (hgood : ∀ w ∈ Cond.classLink own ik cls :: Cond.initialized cls :: vx_atS own ic cls zSup, vx_ot w = true) (hH : zH (zA sh s.heap.size) s s.heap) (hP : zP G sh ss H) (hS : va_S (zA sh s.heap.size) s.heap H locs) (hsize : ls.size = c.maxLocals)
    (d0 : decode cc pc = .ok (.new ik, 3)) (d3 : decode cc (pc + 3) = .ok (.dup, 1)) (d4 : decode cc (pc + 4) = .ok (.ldc is, 2)) (d6 : decode cc (pc + 6) = .ok (.invokespecial ic, 3)) (d9 : decode cc (pc + 9) = .ok (.athrow, 1)) (hT : ∀ x ∈ c.exceptionTable.toList, False)
    (hR : 5 < R.frames ∧ 82 ≤ R.locals ∧ 1 ≤ R.cells ∧ 6 ≤ R.slots) (hlk : meth.locks = false) (hoo : oo = .inl cls) :
    W p l e R s m args below meth c H locs 0 0 (vx_MQ below (zQX G sh (zA sh s.heap.size) oo fv fs) (zXC G sh ss (zA sh s.heap.size) oo) args s 1 6 (zA sh s.heap.size)) (F0 m pc ls []) := by
  obtain ⟨sa, hsa⟩ := hstr
  refine vx_throwS (names := zSup) (A := zA sh s.heap.size) hx hb hfl hown hcls hsup hk hini hsa (vx_hat hg1 hg2 hX.words) hgood hH.1 hH.2 hS hsize d0 d3 d4 d6 d9 (fun x hx => absurd (hT x hx) id) ?_ ?_ ?_ ?_ hlk ?_ hS.2.2 (Nat.le_refl 1) (Nat.le_refl 6)
  · exact hR.1
  · exact hR.2.1
  · exact hR.2.2.1
  · exact hR.2.2.2
  · intro t hvm hz hk9
    exact ⟨hoo, hP.kept hk9, ⟨Nat.le_trans hS.1 hz, fun q h1 h2 => (hk9 q (Nat.lt_of_lt_of_le h1 hS.1)).trans (hS.2.1 q h1 h2)⟩⟩
theorem z_iretX {v : Int32} {x : ρ} (hx : p.tables.exec = Jvm.exec) (hb : c.code = cc) (hr : meth.sig.returnType = some .int) (hlk : meth.locks = false) (hoo : oo = .inr x) (hfv : fv x = some (.int v)) (hP : zP G sh (fs x) H) (hS : va_S (zA sh s.heap.size) s.heap H locs) (hdg : decode cc pc = .ok (.ireturn, 1)) : W p l e R s m args below meth c H locs 0 0 (vx_MQ below (zQX G sh (zA sh s.heap.size) oo fv fs) (zXC G sh ss (zA sh s.heap.size) oo) args s 1 6 (zA sh s.heap.size)) (F0 m pc ls [.int v]) :=
  W.widen (k := 1) (n := 6) (Nat.zero_le _) (Nat.zero_le _) (vx_ret (W.iret hx hb hr (fun t ht _ => ⟨x, hoo, congrArg (fun z => Outcome.returned z) hfv.symm, by rw [ht]; exact hP, hS.F ht⟩) hS.2.2 hdg hlk))
theorem z_zretX {v : Int32} {x : ρ} (hx : p.tables.exec = Jvm.exec) (hb : c.code = cc) (hr : meth.sig.returnType = some .boolean) (hlk : meth.locks = false) (hn : narrow .boolean (.int v) = .int v) (hoo : oo = .inr x) (hfv : fv x = some (.int v)) (hP : zP G sh (fs x) H) (hS : va_S (zA sh s.heap.size) s.heap H locs) (hdg : decode cc pc = .ok (.ireturn, 1)) : W p l e R s m args below meth c H locs 0 0 (vx_MQ below (zQX G sh (zA sh s.heap.size) oo fv fs) (zXC G sh ss (zA sh s.heap.size) oo) args s 1 6 (zA sh s.heap.size)) (F0 m pc ls [.int v]) :=
  W.widen (k := 1) (n := 6) (Nat.zero_le _) (Nat.zero_le _) (vx_ret (W.zret hx hb hr hn (fun t ht _ => ⟨x, hoo, congrArg (fun z => Outcome.returned z) hfv.symm, by rw [ht]; exact hP, hS.F ht⟩) hS.2.2 hdg hlk))
theorem z_lretX {v : Int64} {x : ρ} (hx : p.tables.exec = Jvm.exec) (hb : c.code = cc) (hr : meth.sig.returnType = some .long) (hlk : meth.locks = false) (hoo : oo = .inr x) (hfv : fv x = some (.long v)) (hP : zP G sh (fs x) H) (hS : va_S (zA sh s.heap.size) s.heap H locs) (hdg : decode cc pc = .ok (.lreturn, 1)) : W p l e R s m args below meth c H locs 0 0 (vx_MQ below (zQX G sh (zA sh s.heap.size) oo fv fs) (zXC G sh ss (zA sh s.heap.size) oo) args s 1 6 (zA sh s.heap.size)) (F0 m pc ls [.long v]) :=
  W.widen (k := 1) (n := 6) (Nat.zero_le _) (Nat.zero_le _) (vx_ret (W.lret hx hb hr (fun t ht _ => ⟨x, hoo, congrArg (fun z => Outcome.returned z) hfv.symm, by rw [ht]; exact hP, hS.F ht⟩) hS.2.2 hdg hlk))
theorem z_vretX {x : ρ} (hx : p.tables.exec = Jvm.exec) (hb : c.code = cc) (hr : meth.sig.returnType = none) (hlk : meth.locks = false) (hoo : oo = .inr x) (hfv : fv x = none) (hP : zP G sh (fs x) H) (hS : va_S (zA sh s.heap.size) s.heap H locs) (hdg : decode cc pc = .ok (.return_, 1)) : W p l e R s m args below meth c H locs 0 0 (vx_MQ below (zQX G sh (zA sh s.heap.size) oo fv fs) (zXC G sh ss (zA sh s.heap.size) oo) args s 1 6 (zA sh s.heap.size)) (F0 m pc ls []) :=
  W.widen (k := 1) (n := 6) (Nat.zero_le _) (Nat.zero_le _) (vx_ret (W.vret hx hb hr (fun t ht _ => ⟨x, hoo, congrArg (fun z => Outcome.returned z) hfv.symm, by rw [ht]; exact hP, hS.F ht⟩) hS.2.2 hdg hlk))
theorem z_preVX {C : String} {T : u_T} {N ci b i : Nat} {gs : List Value} {As : List Value} {shc : List zSh} {ssc : List zSt} (hP : zP G sh ss H) (hD : zD sh) (hK : zK G s) (hN : zN s) (hX : zX s) (hH : zH (zA sh sz) s H0) (hS : va_S (zA sh sz) H0 H locs) (hz : sz ≤ H0.size) (js : List Nat) (hn : va_nd js = true) (h1 : js.map (fun j => sh[j]?) = shc.map some) (h2 : js.map (fun j => ss[j]?) = ssc.map some)
    (j : Nat) {x : zSh} {S : zSt} (hj : sh[j]? = some x) (hs : ss[j]? = some S) (he : (x.2 S)[i]? = some (b, .inr (ci, gs))) (hc : vwCl[ci]? = some (C, T, N)) : PreV s H C b (zPcX G shc ssc (.ref b :: As) H.size) As :=
  ⟨zPcX.blind, va_recv (q := (C, T, N)) hK (z_one hP hj hs he) hc (q0 := 0) rfl, fun U hU hW => ⟨rfl, by rw [hU], by rw [hU]; exact hP.sub js h1 h2, hK.moved hW.alike, hD.sub js hn h1, hN.warm hW, hX.warm hW, by rw [hU]; exact ((hH.kept hS.2.1).moved hW.alike).narrow (fun q hq => zA.sub h1 (Nat.le_trans hz hS.1) hq)⟩⟩
theorem z_callVX {C own : String} {T : u_T} {N ci b i n index maxL nL : Nat} {gs : List Value} {As av : List Value} {shc : List zSh} {ssc : List zSt} {y : MethodName} {bytes : ByteArray} {ret : Option FieldType} {ws Ts : List Cond} {rm : Room}
    (hf : CallFix p m c cc nL s args Ts own) (hM : zCX l y ws rm av G shc ssc oo fv fs) (cw : CallW R s args own C index y bytes maxL ret ws rm 1 6 n) (hav : av = .ref b :: As) (hP : zP G sh ss H) (hD : zD sh) (hK : zK G s) (hN : zN s) (hX : zX s) (hH : zH (zA sh sz) s H0) (hS : va_S (zA sh sz) H0 H locs) (hz : sz ≤ H0.size) (js : List Nat) (hn : va_nd js = true) (h1 : js.map (fun j => sh[j]?) = shc.map some) (h2 : js.map (fun j => ss[j]?) = ssc.map some) (hl : ∀ x : ρ, js.length = (fs x).length) (hl0 : js.length = ssc.length)
    (j : Nat) {x : zSh} {S : zSt} (hj : sh[j]? = some x) (hs : ss[j]? = some S) (he : (x.2 S)[i]? = some (b, .inr (ci, gs))) (hc : vwCl[ci]? = some (C, T, N)) (hAs : As.length = n) (hsize : ls.size = nL) (hst : st0 = As.reverse ++ .ref b :: rest) (hW : (rest.map fun v => v.category).sum ≤ 8) (hdg : decode cc pc = .ok (.invokevirtual index, 3)) (hroom : cells + 1 ≤ R.cells ∧ slots + 6 ≤ R.slots)
    (kx : ∀ (E : String) (ce : Cell) (q9 : Addr) (H1 : Heap) (locs1 : List Loc), oo = .inl E → zP G sh (zmg js ss ssc) H1 → va_S (zA sh sz) H0 H1 locs1 → H1[q9]? = some ce → ce.vm = .none → s.vm.findClass E = some ce.cls → vx_W p l e R s m args below meth c H1 locs1 (cells + 1) (slots + 6) Q (F0 m pc ls rest) q9)
    (kk : ∀ (x : ρ) (H1 : Heap) (locs1 : List Loc), oo = .inr x → zP G sh (zmg js ss (fs x)) H1 → va_S (zA sh sz) H0 H1 locs1 → W p l e R s m args below meth c H1 locs1 (cells + 1) (slots + 6) Q (F0 m (pc + 3) ls ((fv x).toList ++ rest))) : W p l e R s m args below meth c H locs cells slots Q (F0 m pc ls st0) := by
  subst hav
  have hr := vx_runV (e := e) (below := below) (meth := meth) (As := As) (rest := rest) (g := F0 m pc ls st0) (locs := locs) (cells := cells) (slots := slots) hf (hM H.size) cw (z_preVX (As := As) hP hD hK hN hX hH hS hz js hn h1 h2 j hj hs he hc) rfl hAs hsize hst (lv_room hW) hdg hroom
  have hzz : sz ≤ H.size := Nat.le_trans hz hS.1
  have hsub : ∀ q, zA shc H.size q → zA sh sz q := fun q h => zA.sub h1 hzz h
  intro T hT X
  rcases hr T hT X with ⟨v, st₀, t, T', L, h0, X', hL, e1, e2, ⟨x9, hoo, hv, hPc, hz9, hk⟩, st⟩ | ⟨q, st₀, t, T', L, E, ce, h0, X', hL, e1, e2, ⟨hoo, hPc, hz9, hk⟩, hce, hcv, hcl, st⟩
  · cases hv
    rw [h0] at hz9 hk
    have hk' : ∀ q : Nat, q < H.size → ¬ zA shc H.size q → T'.heap[q]? = H[q]? := fun q h1 h2 => by rw [e1]; exact hk q h1 h2
    obtain ⟨t2, a1, b1⟩ := kk x9 T'.heap (locs ++ L) hoo (hP.join hD js hn h1 (hl x9) hk' (by rw [e1]; exact hPc))
      ⟨Nat.le_trans hS.1 (by rw [e1]; exact hz9), fun q h3 h4 => (hk' q (Nat.lt_of_lt_of_le h3 hS.1) (fun z => h4 (hsub q z))).trans (hS.2.1 q h3 h4), fun q hq => by
        rcases List.mem_append.mp hq with h | h
        · exact hS.2.2 q h
        · exact hsub _ (hL q h)⟩ T' rfl X'
    exact ⟨t2, st t2 a1, b1⟩
  · rw [h0] at hz9 hk
    have hk' : ∀ q : Nat, q < H.size → ¬ zA shc H.size q → T'.heap[q]? = H[q]? := fun q h1 h2 => by rw [e1]; exact hk q h1 h2
    obtain ⟨t2, a1, b1⟩ := kx E ce q T'.heap (locs ++ L) hoo (hP.join hD js hn h1 hl0 hk' (by rw [e1]; exact hPc))
      ⟨Nat.le_trans hS.1 (by rw [e1]; exact hz9), fun q h3 h4 => (hk' q (Nat.lt_of_lt_of_le h3 hS.1) (fun z => h4 (hsub q z))).trans (hS.2.1 q h3 h4), fun q hq => by
        rcases List.mem_append.mp hq with h | h
        · exact hS.2.2 q h
        · exact hsub _ (hL q h)⟩ (by rw [e1]; exact hce) hcv hcl T' rfl X'
    exact ⟨t2, st.trans a1, b1⟩
end ZXW
theorem z_sup : ∀ n ∈ zSup, Bundle.fit n = true := by decide +kernel
