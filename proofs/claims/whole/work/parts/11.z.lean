section ZR
variable {p : Program} {l : Launch} {e : Env} {R : Room} {s : State} {m : MethodId} {args : Array Value} {below : List Frame} {meth : Method} {c : Code} {H : Heap} {locs : List Loc} {cells slots : Nat} {Q : State → Prop}
variable {cc : ByteArray} {pc : Nat} {ls : Array Slot} {rest st0 : List Value} {G : zG} {sh : List zSh} {ss : List zSt} {H0 : Heap} {sz : Nat}
theorem z_one {j : Nat} {x : zSh} {S : zSt} {i a : Nat} {en : va_E} (hP : zP G sh ss H) (hj : sh[j]? = some x) (hs : ss[j]? = some S) (he : (x.2 S)[i]? = some (a, en)) : va_P G.1 vwCl [(a, en)] H := fun t q hq => by
  cases t with
  | zero => cases hq; exact hP j x S hj hs i _ he
  | succ t => cases hq
theorem z_iald (hx : p.tables.exec = Jvm.exec) (hb : c.code = cc) (hK : zK G s) (hP : zP G sh ss H) (j : Nat) {x : zSh} {S : zSt} (hj : sh[j]? = some x) (hs : ss[j]? = some S) (i : Nat) {a n : Nat} {f : Nat → Int32} (he : (x.2 S)[i]? = some (a, .inl (G.2.1, n, .inl f))) {ix : Int32} {k : Nat} (hin : vp_in ix n) (hk : ix.toNatClampNeg = k) (hdg : decode cc pc = .ok (.iaload, 1))
    (kk : W p l e R s m args below meth c H locs cells slots Q (F0 m (pc + 1) ls (.int (f k) :: rest))) : W p l e R s m args below meth c H locs cells slots Q (F0 m pc ls (.int ix :: .ref a :: rest)) := by
  subst hk
  exact va_iald (D := G.1) (tys := zTy G) hx hb hK (z_one hP hj hs he) 0 0 rfl rfl hin hdg kk
theorem z_zald (hx : p.tables.exec = Jvm.exec) (hb : c.code = cc) (hK : zK G s) (hP : zP G sh ss H) (j : Nat) {x : zSh} {S : zSt} (hj : sh[j]? = some x) (hs : ss[j]? = some S) (i : Nat) {a n : Nat} {f : Nat → Int32} (he : (x.2 S)[i]? = some (a, .inl (G.2.2.2, n, .inl f))) {ix : Int32} {k : Nat} (hin : vp_in ix n) (hk : ix.toNatClampNeg = k) (hdg : decode cc pc = .ok (.baload, 1))
    (kk : W p l e R s m args below meth c H locs cells slots Q (F0 m (pc + 1) ls (.int (f k) :: rest))) : W p l e R s m args below meth c H locs cells slots Q (F0 m pc ls (.int ix :: .ref a :: rest)) := by
  subst hk
  exact va_zald (D := G.1) (tys := zTy G) hx hb hK (z_one hP hj hs he) 0 2 rfl rfl hin hdg kk
theorem z_lald (hx : p.tables.exec = Jvm.exec) (hb : c.code = cc) (hK : zK G s) (hP : zP G sh ss H) (j : Nat) {x : zSh} {S : zSt} (hj : sh[j]? = some x) (hs : ss[j]? = some S) (i : Nat) {a n : Nat} {f : Nat → Int64} (he : (x.2 S)[i]? = some (a, .inl (G.2.2.1, n, .inr (.inl f)))) {ix : Int32} {k : Nat} (hin : vp_in ix n) (hk : ix.toNatClampNeg = k) (hdg : decode cc pc = .ok (.laload, 1))
    (kk : W p l e R s m args below meth c H locs cells slots Q (F0 m (pc + 1) ls (.long (f k) :: rest))) : W p l e R s m args below meth c H locs cells slots Q (F0 m pc ls (.int ix :: .ref a :: rest)) := by
  subst hk
  exact va_lald (D := G.1) (tys := zTy G) hx hb hK (z_one hP hj hs he) 0 1 rfl rfl hin hdg kk
theorem z_iast (hx : p.tables.exec = Jvm.exec) (hb : c.code = cc) (hK : zK G s) (hP : zP G sh ss H) (hD : zD sh) (hS : va_S (zA sh sz) H0 H locs) (j : Nat) {x : zSh} {S S' : zSt} (hj : sh[j]? = some x) (hs : ss[j]? = some S) (i : Nat) {a n : Nat} {f : Nat → Int32} (he : (x.2 S)[i]? = some (a, .inl (G.2.1, n, .inl f))) {ix v : Int32} {k : Nat} (hin : vp_in ix n) (hk : ix.toNatClampNeg = k) (hset : x.2 S' = (x.2 S).set i (a, .inl (G.2.1, n, .inl (upd f k v)))) (hdg : decode cc pc = .ok (.iastore, 1))
    (kk : ∀ (H1 : Heap) (locs1 : List Loc), zP G sh (ss.set j S') H1 → va_S (zA sh sz) H0 H1 locs1 → W p l e R s m args below meth c H1 locs1 cells slots Q (F0 m (pc + 1) ls rest)) : W p l e R s m args below meth c H locs cells slots Q (F0 m pc ls (.int v :: .int ix :: .ref a :: rest)) := by
  subst hk
  refine W.iast hx hb (hP j x S hj hs i _ he) ((hK.2 0 _ rfl).1 n (fun j => .int (f j))) (fun q => by cases q) (by show ¬ (ix < 0 ∨ (arrV _ _ _).slots.size ≤ _); rw [arrV_size]; exact hin) rfl rfl hdg fun H1 e z oq => ?_
  refine kk H1 _ (hP.set hD hj hs he hset ?_ oq) (va_S.put hS z oq (Or.inl ⟨j, x, hj, hD.mem hj he⟩))
  show H1[a]? = some (vp_cell _ _)
  rw [e]
  rw [vp_cell_i, vp_cell_i, arrV_store]
  congr 2
  funext q
  by_cases hq : q = ix.toNatClampNeg
  · subst hq
    simp [updV, upd]
  · simp [updV, upd, hq]
theorem z_zast (hx : p.tables.exec = Jvm.exec) (hb : c.code = cc) (hK : zK G s) (hP : zP G sh ss H) (hD : zD sh) (hS : va_S (zA sh sz) H0 H locs) (j : Nat) {x : zSh} {S S' : zSt} (hj : sh[j]? = some x) (hs : ss[j]? = some S) (i : Nat) {a n : Nat} {f : Nat → Int32} (he : (x.2 S)[i]? = some (a, .inl (G.2.2.2, n, .inl f))) {ix v : Int32} {k : Nat} (hin : vp_in ix n) (hk : ix.toNatClampNeg = k) (hset : x.2 S' = (x.2 S).set i (a, .inl (G.2.2.2, n, .inl (upd f k (vp_nar .boolean v))))) (hdg : decode cc pc = .ok (.bastore, 1))
    (kk : ∀ (H1 : Heap) (locs1 : List Loc), zP G sh (ss.set j S') H1 → va_S (zA sh sz) H0 H1 locs1 → W p l e R s m args below meth c H1 locs1 cells slots Q (F0 m (pc + 1) ls rest)) : W p l e R s m args below meth c H locs cells slots Q (F0 m pc ls (.int v :: .int ix :: .ref a :: rest)) := by
  subst hk
  refine W.zast hx hb (hP j x S hj hs i _ he) ((hK.2 2 _ rfl).1 n (fun j => .int (f j))) (fun q => by cases q) (by show ¬ (ix < 0 ∨ (arrV _ _ _).slots.size ≤ _); rw [arrV_size]; exact hin) rfl rfl hdg fun H1 e z oq => ?_
  refine kk H1 _ (hP.set hD hj hs he hset ?_ oq) (va_S.put hS z oq (Or.inl ⟨j, x, hj, hD.mem hj he⟩))
  show H1[a]? = some (vp_cell _ _)
  rw [e]
  rw [vp_cell_i, vp_cell_i, arrV_store]
  congr 2
  funext q
  by_cases hq : q = ix.toNatClampNeg
  · subst hq
    simp [updV, upd, vp_nar]
    try rfl
  · simp [updV, upd, hq]
theorem z_last (hx : p.tables.exec = Jvm.exec) (hb : c.code = cc) (hK : zK G s) (hP : zP G sh ss H) (hD : zD sh) (hS : va_S (zA sh sz) H0 H locs) (j : Nat) {x : zSh} {S S' : zSt} (hj : sh[j]? = some x) (hs : ss[j]? = some S) (i : Nat) {a n : Nat} {f : Nat → Int64} (he : (x.2 S)[i]? = some (a, .inl (G.2.2.1, n, .inr (.inl f)))) {ix : Int32} {v : Int64} {k : Nat} (hin : vp_in ix n) (hk : ix.toNatClampNeg = k) (hset : x.2 S' = (x.2 S).set i (a, .inl (G.2.2.1, n, .inr (.inl (vp_updL f k v))))) (hdg : decode cc pc = .ok (.lastore, 1))
    (kk : ∀ (H1 : Heap) (locs1 : List Loc), zP G sh (ss.set j S') H1 → va_S (zA sh sz) H0 H1 locs1 → W p l e R s m args below meth c H1 locs1 cells slots Q (F0 m (pc + 1) ls rest)) : W p l e R s m args below meth c H locs cells slots Q (F0 m pc ls (.long v :: .int ix :: .ref a :: rest)) := by
  subst hk
  refine W.last hx hb (hP j x S hj hs i _ he) ((hK.2 1 _ rfl).1 n (fun j => .long (f j))) (fun q => by cases q) (by show ¬ (ix < 0 ∨ (arrV _ _ _).slots.size ≤ _); rw [arrV_size]; exact hin) rfl rfl hdg fun H1 e z oq => ?_
  refine kk H1 _ (hP.set hD hj hs he hset ?_ oq) (va_S.put hS z oq (Or.inl ⟨j, x, hj, hD.mem hj he⟩))
  show H1[a]? = some (vp_cell _ _)
  rw [e]
  rw [vp_cell_l, vp_cell_l, arrV_store]
  congr 2
  funext q
  by_cases hq : q = ix.toNatClampNeg
  · subst hq
    simp [updV, vp_updL]
  · simp [updV, vp_updL, hq]
/-- behind a call by contract -/
theorem z_after {a9 : Array Value} {shc : List zSh} {ssc' : List zSt} {rv : Option Value}
    (hr : va_Run p l e R s m args below meth c H locs cells slots 0 0 (F0 m pc ls st0) rest (zQ G shc ssc' (zA shc H.size) rv a9) (zA shc H.size)) (hP : zP G sh ss H) (hD : zD sh) (hS : va_S (zA sh sz) H0 H locs) (hz : sz ≤ H0.size) (js : List Nat) (hn : va_nd js = true) (h1 : js.map (fun j => sh[j]?) = shc.map some) (hl : js.length = ssc'.length)
    (kk : ∀ (H1 : Heap) (locs1 : List Loc), zP G sh (zmg js ss ssc') H1 → va_S (zA sh sz) H0 H1 locs1 → W p l e R s m args below meth c H1 locs1 cells slots Q (F0 m (pc + 3) ls (rv.toList ++ rest))) : W p l e R s m args below meth c H locs cells slots Q (F0 m pc ls st0) := by
  intro T hT X
  obtain ⟨v, st₀, t, T', L, h0, X', hL, e1, e2, ⟨hv, hPc, hz9, hk⟩, st⟩ := hr T hT X
  cases hv
  rw [h0] at hz9 hk
  have hzz : sz ≤ H.size := Nat.le_trans hz hS.1
  have hk' : ∀ q : Nat, q < H.size → ¬ zA shc H.size q → T'.heap[q]? = H[q]? := fun q h1 h2 => by rw [e1]; exact hk q h1 h2
  have hsub : ∀ q, zA shc H.size q → zA sh sz q := fun q h => zA.sub h1 hzz h
  obtain ⟨t2, a1, b1⟩ := kk T'.heap (locs ++ L) (hP.join hD js hn h1 hl hk' (by rw [e1]; exact hPc))
    ⟨Nat.le_trans hS.1 (by rw [e1]; exact hz9), fun q h3 h4 => (hk' q (Nat.lt_of_lt_of_le h3 hS.1) (fun z => h4 (hsub q z))).trans (hS.2.1 q h3 h4), fun q hq => by
      rcases List.mem_append.mp hq with h | h
      · exact hS.2.2 q h
      · exact hsub _ (hL q h)⟩ T' rfl X'
  exact ⟨t2, st t2 a1, b1⟩
theorem z_preS {av : List Value} {shc : List zSh} {ssc : List zSt} (hP : zP G sh ss H) (hD : zD sh) (hK : zK G s) (hN : zN s) (js : List Nat) (hn : va_nd js = true) (h1 : js.map (fun j => sh[j]?) = shc.map some) (h2 : js.map (fun j => ss[j]?) = ssc.map some) : PreS s H (zPc G shc ssc av H.size) av :=
  ⟨zPc.blind, fun U hU hW => ⟨rfl, by rw [hU], by rw [hU]; exact hP.sub js h1 h2, hK.moved hW.alike, hD.sub js hn h1, hN.warm hW⟩⟩
theorem z_preV {C : String} {T : u_T} {N ci b i : Nat} {fs : List Value} {As : List Value} {shc : List zSh} {ssc : List zSt} (hP : zP G sh ss H) (hD : zD sh) (hK : zK G s) (hN : zN s) (js : List Nat) (hn : va_nd js = true) (h1 : js.map (fun j => sh[j]?) = shc.map some) (h2 : js.map (fun j => ss[j]?) = ssc.map some)
    (j : Nat) {x : zSh} {S : zSt} (hj : sh[j]? = some x) (hs : ss[j]? = some S) (he : (x.2 S)[i]? = some (b, .inr (ci, fs))) (hc : vwCl[ci]? = some (C, T, N)) : PreV s H C b (zPc G shc ssc (.ref b :: As) H.size) As :=
  ⟨zPc.blind, va_recv (q := (C, T, N)) hK (z_one hP hj hs he) hc (q0 := 0) rfl, fun U hU hW => ⟨rfl, by rw [hU], by rw [hU]; exact hP.sub js h1 h2, hK.moved hW.alike, hD.sub js hn h1, hN.warm hW⟩⟩
/-- a call of a method of the receiver's own class -/
theorem z_callV {C own : String} {T : u_T} {N ci b i n index maxL nL : Nat} {fs : List Value} {As av : List Value} {shc : List zSh} {ssc ssc' : List zSt} {rv : Option Value} {y : MethodName} {bytes : ByteArray} {ret : Option FieldType} {ws Ts : List Cond} {rm : Room}
    (hf : CallFix p m c cc nL s args Ts own) (hM : zC l y ws rm av G shc ssc ssc' rv) (cw : CallW R s args own C index y bytes maxL ret ws rm 0 0 n) (hav : av = .ref b :: As) (hP : zP G sh ss H) (hD : zD sh) (hK : zK G s) (hN : zN s) (hS : va_S (zA sh sz) H0 H locs) (hz : sz ≤ H0.size) (js : List Nat) (hn : va_nd js = true) (h1 : js.map (fun j => sh[j]?) = shc.map some) (h2 : js.map (fun j => ss[j]?) = ssc.map some) (hl : js.length = ssc'.length)
    (j : Nat) {x : zSh} {S : zSt} (hj : sh[j]? = some x) (hs : ss[j]? = some S) (he : (x.2 S)[i]? = some (b, .inr (ci, fs))) (hc : vwCl[ci]? = some (C, T, N)) (hAs : As.length = n) (hsize : ls.size = nL) (hst : st0 = As.reverse ++ .ref b :: rest) (hW : (rest.map fun v => v.category).sum ≤ 8) (hdg : decode cc pc = .ok (.invokevirtual index, 3)) (hroom : cells ≤ R.cells ∧ slots ≤ R.slots)
    (kk : ∀ (H1 : Heap) (locs1 : List Loc), zP G sh (zmg js ss ssc') H1 → va_S (zA sh sz) H0 H1 locs1 → W p l e R s m args below meth c H1 locs1 cells slots Q (F0 m (pc + 3) ls (rv.toList ++ rest))) : W p l e R s m args below meth c H locs cells slots Q (F0 m pc ls st0) := by
  subst hav
  exact z_after (va_runV (As := As) (rest := rest) hf (hM H.size) cw (z_preV hP hD hK hN js hn h1 h2 j hj hs he hc) rfl hAs hsize hst (lv_room hW) hdg hroom) hP hD hS hz js hn h1 hl kk
theorem z_callS {own : String} {n index maxL nL : Nat} {As : List Value} {shc : List zSh} {ssc ssc' : List zSt} {rv : Option Value} {y : MethodName} {bytes : ByteArray} {ret : Option FieldType} {ws Ts : List Cond} {rm : Room}
    (hf : CallFix p m c cc nL s args Ts own) (hM : zC l y ws rm As G shc ssc ssc' rv) (cw : CallB R s args own index y bytes maxL ret ws rm 0 0 n ∧ (Cond.static y).before args s = true) (hP : zP G sh ss H) (hD : zD sh) (hK : zK G s) (hN : zN s) (hS : va_S (zA sh sz) H0 H locs) (hz : sz ≤ H0.size) (js : List Nat) (hn : va_nd js = true) (h1 : js.map (fun j => sh[j]?) = shc.map some) (h2 : js.map (fun j => ss[j]?) = ssc.map some) (hl : js.length = ssc'.length)
    (hAs : As.length = n) (hsize : ls.size = nL) (hst : st0 = As.reverse ++ rest) (hW : (rest.map fun v => v.category).sum ≤ 8) (hdg : decode cc pc = .ok (.invokestatic index, 3)) (hroom : cells ≤ R.cells ∧ slots ≤ R.slots)
    (kk : ∀ (H1 : Heap) (locs1 : List Loc), zP G sh (zmg js ss ssc') H1 → va_S (zA sh sz) H0 H1 locs1 → W p l e R s m args below meth c H1 locs1 cells slots Q (F0 m (pc + 3) ls (rv.toList ++ rest))) : W p l e R s m args below meth c H locs cells slots Q (F0 m pc ls st0) :=
  z_after (va_runS (As := As) (rest := rest) hf (hM H.size) cw (z_preS hP hD hK hN js hn h1 h2) rfl hAs hsize hst (lv_room hW) hdg hroom) hP hD hS hz js hn h1 hl kk
theorem z_callSN {own host : String} {n index maxL nL : Nat} {As : List Value} {shc : List zSh} {ssc ssc' : List zSt} {rv : Option Value} {y : MethodName} {bytes : ByteArray} {ret : Option FieldType} {ws Ts : List Cond} {rm : Room}
    (hf : CallFix p m c cc nL s args Ts own) (hM : zC l y ws rm As G shc ssc ssc' rv) (cw : va_CN R s args own index y host bytes maxL ret ws rm 0 0 n ∧ (Cond.static y).before args s = true ∧ True) (hP : zP G sh ss H) (hD : zD sh) (hK : zK G s) (hN : zN s) (hS : va_S (zA sh sz) H0 H locs) (hz : sz ≤ H0.size) (js : List Nat) (hn : va_nd js = true) (h1 : js.map (fun j => sh[j]?) = shc.map some) (h2 : js.map (fun j => ss[j]?) = ssc.map some) (hl : js.length = ssc'.length)
    (hAs : As.length = n) (hsize : ls.size = nL) (hst : st0 = As.reverse ++ rest) (hW : (rest.map fun v => v.category).sum ≤ 8) (hdg : decode cc pc = .ok (.invokestatic index, 3)) (hroom : cells ≤ R.cells ∧ slots ≤ R.slots)
    (kk : ∀ (H1 : Heap) (locs1 : List Loc), zP G sh (zmg js ss ssc') H1 → va_S (zA sh sz) H0 H1 locs1 → W p l e R s m args below meth c H1 locs1 cells slots Q (F0 m (pc + 3) ls (rv.toList ++ rest))) : W p l e R s m args below meth c H locs cells slots Q (F0 m pc ls st0) :=
  z_after (va_runSN (As := As) (rest := rest) hf (hM H.size) cw (z_preS hP hD hK hN js hn h1 h2) rfl hAs hsize hst (lv_room hW) hdg hroom) hP hD hS hz js hn h1 hl kk
theorem z_iret {ss' : List zSt} {v : Int32} (hx : p.tables.exec = Jvm.exec) (hb : c.code = cc) (hr : meth.sig.returnType = some .int) (hlk : meth.locks = false) (hP : zP G sh ss' H) (hS : va_S (zA sh s.heap.size) s.heap H locs) (hdg : decode cc pc = .ok (.ireturn, 1)) : W p l e R s m args below meth c H locs 0 0 (MQ below (zQ G sh ss' (zA sh s.heap.size) (some (.int v))) args s 0 0 (zA sh s.heap.size)) (F0 m pc ls [.int v]) :=
  W.iret hx hb hr (fun t ht _ => ⟨rfl, by rw [ht]; exact hP, hS.F ht⟩) hS.2.2 hdg hlk
theorem z_zret {ss' : List zSt} {v : Int32} (hx : p.tables.exec = Jvm.exec) (hb : c.code = cc) (hr : meth.sig.returnType = some .boolean) (hlk : meth.locks = false) (hv : narrow .boolean (.int v) = .int v) (hP : zP G sh ss' H) (hS : va_S (zA sh s.heap.size) s.heap H locs) (hdg : decode cc pc = .ok (.ireturn, 1)) : W p l e R s m args below meth c H locs 0 0 (MQ below (zQ G sh ss' (zA sh s.heap.size) (some (.int v))) args s 0 0 (zA sh s.heap.size)) (F0 m pc ls [.int v]) :=
  W.zret hx hb hr hv (fun t ht _ => ⟨rfl, by rw [ht]; exact hP, hS.F ht⟩) hS.2.2 hdg hlk
theorem z_lret {ss' : List zSt} {v : Int64} (hx : p.tables.exec = Jvm.exec) (hb : c.code = cc) (hr : meth.sig.returnType = some .long) (hlk : meth.locks = false) (hP : zP G sh ss' H) (hS : va_S (zA sh s.heap.size) s.heap H locs) (hdg : decode cc pc = .ok (.lreturn, 1)) : W p l e R s m args below meth c H locs 0 0 (MQ below (zQ G sh ss' (zA sh s.heap.size) (some (.long v))) args s 0 0 (zA sh s.heap.size)) (F0 m pc ls [.long v]) :=
  W.lret hx hb hr (fun t ht _ => ⟨rfl, by rw [ht]; exact hP, hS.F ht⟩) hS.2.2 hdg hlk
theorem z_vret {ss' : List zSt} (hx : p.tables.exec = Jvm.exec) (hb : c.code = cc) (hr : meth.sig.returnType = none) (hlk : meth.locks = false) (hP : zP G sh ss' H) (hS : va_S (zA sh s.heap.size) s.heap H locs) (hdg : decode cc pc = .ok (.return_, 1)) : W p l e R s m args below meth c H locs 0 0 (MQ below (zQ G sh ss' (zA sh s.heap.size) none) args s 0 0 (zA sh s.heap.size)) (F0 m pc ls []) :=
  W.vret hx hb hr (fun t ht _ => ⟨rfl, by rw [ht]; exact hP, hS.F ht⟩) hS.2.2 hdg hlk
theorem z_S0 {A : Nat → Prop} : va_S A s.heap s.heap [] := va_S.rf
end ZR
/-! pure: what a method does, 'none' where it would leave the rows, divide by 0 or not end -/
def zsr (x : Int64) (y : Int32) : Int64 := (x.toUInt64 >>> (y.toInt64.toUInt64 &&& Int64.toUInt64 63)).toInt64
def zin {α : Type} (i : Int32) (n : Nat) (A : Option α) : Option α := if i < 0 ∨ n ≤ i.toNatClampNeg then none else A
def znz {α : Type} (y : Int32) (A : Option α) : Option α := if y = 0 then none else A
def zbl {α : Type} (y : Int32) (A : Option α) : Option α := if y = 0 ∨ y = 1 then A else none
def zb1 {α ρ : Type} (x : Option α) (f : α → Option ρ) : Option ρ := match x with | none => none | some a => f a
def zb2 {α β ρ : Type} (x : Option (α × β)) (f : α → β → Option ρ) : Option ρ := match x with | none => none | some a => f a.1 a.2
def zb3 {α β γ ρ : Type} (x : Option (α × β × γ)) (f : α → β → γ → Option ρ) : Option ρ := match x with | none => none | some a => f a.1 a.2.1 a.2.2
def zb4 {α β γ δ ρ : Type} (x : Option (α × β × γ × δ)) (f : α → β → γ → δ → Option ρ) : Option ρ := match x with | none => none | some a => f a.1 a.2.1 a.2.2.1 a.2.2.2
theorem zin_e {α : Type} {i : Int32} {n : Nat} {A : Option α} {o : α} (h : zin i n A = some o) : vp_in i n ∧ A = some o := by
  unfold zin at h
  by_cases q : i < 0 ∨ n ≤ i.toNatClampNeg
  · rw [if_pos q] at h; cases h
  · rw [if_neg q] at h; exact ⟨q, h⟩
theorem znz_e {α : Type} {i : Int32} {A : Option α} {o : α} (h : znz i A = some o) : ¬ i = 0 ∧ A = some o := by
  unfold znz at h
  by_cases q : i = 0
  · rw [if_pos q] at h; cases h
  · rw [if_neg q] at h; exact ⟨q, h⟩
theorem zbl_e {α : Type} {i : Int32} {A : Option α} {o : α} (h : zbl i A = some o) : narrow .boolean (.int i) = .int i ∧ A = some o := by
  unfold zbl at h
  by_cases q : i = 0 ∨ i = 1
  · rw [if_pos q] at h
    refine ⟨?_, h⟩
    rcases q with rfl | rfl <;> rfl
  · rw [if_neg q] at h; cases h
theorem zb1_e {α ρ : Type} {x : Option α} {f : α → Option ρ} {o : ρ} (h : zb1 x f = some o) : ∃ a, x = some a ∧ f a = some o := by
  cases x with
  | none => cases h
  | some a => exact ⟨a, rfl, h⟩
theorem zb2_e {α β ρ : Type} {x : Option (α × β)} {f : α → β → Option ρ} {o : ρ} (h : zb2 x f = some o) : ∃ a b, x = some (a, b) ∧ f a b = some o := by
  cases x with
  | none => cases h
  | some a => exact ⟨a.1, a.2, rfl, h⟩
theorem zb3_e {α β γ ρ : Type} {x : Option (α × β × γ)} {f : α → β → γ → Option ρ} {o : ρ} (h : zb3 x f = some o) : ∃ a b c, x = some (a, b, c) ∧ f a b c = some o := by
  cases x with
  | none => cases h
  | some a => exact ⟨a.1, a.2.1, a.2.2, rfl, h⟩
theorem zb4_e {α β γ δ ρ : Type} {x : Option (α × β × γ × δ)} {f : α → β → γ → δ → Option ρ} {o : ρ} (h : zb4 x f = some o) : ∃ a b c d, x = some (a, b, c, d) ∧ f a b c d = some o := by
  cases x with
  | none => cases h
  | some a => exact ⟨a.1, a.2.1, a.2.2.1, a.2.2.2, rfl, h⟩
theorem zt {α : Type} {c : Prop} [Decidable c] {A B : Option α} {o : α} (hc : c) (h : (if c then A else B) = some o) : A = some o := by rw [if_pos hc] at h; exact h
theorem zf {α : Type} {c : Prop} [Decidable c] {A B : Option α} {o : α} (hc : ¬ c) (h : (if c then A else B) = some o) : B = some o := by rw [if_neg hc] at h; exact h
theorem zvi {ix : Int32} {k n : Nat} (h : ix.toNatClampNeg = k) (h0 : ¬ ix < 0) (hk : k < n) : vp_in ix n := fun q => q.elim h0 (fun q => by rw [h] at q; omega)
