/-! The z layer: a method's world as a list of parts (an object with its own arrays), each held as a state of four functions; contracts that name the answer and the new states. -/
abbrev zSt : Type := (Nat → Int32) × (Nat → Int64) × (Nat → Nat → Int32) × (Nat → Nat → Int64)
def gI (S : zSt) (k : Nat) : Int32 := S.1 k
def gJ (S : zSt) (k : Nat) : Int64 := S.2.1 k
def gA (S : zSt) (k : Nat) : Nat → Int32 := S.2.2.1 k
def gL (S : zSt) (k : Nat) : Nat → Int64 := S.2.2.2 k
def sI (S : zSt) (k : Nat) (v : Int32) : zSt := (fun j => if j = k then v else S.1 j, S.2)
def sJ (S : zSt) (k : Nat) (v : Int64) : zSt := (S.1, fun j => if j = k then v else S.2.1 j, S.2.2)
def sA (S : zSt) (k i : Nat) (v : Int32) : zSt := (S.1, S.2.1, fun j => if j = k then upd (S.2.2.1 k) i v else S.2.2.1 j, S.2.2.2)
def sL (S : zSt) (k i : Nat) (v : Int64) : zSt := (S.1, S.2.1, S.2.2.1, fun j => if j = k then vp_updL (S.2.2.2 k) i v else S.2.2.2 j)
def ad (n : Nat) (x : Nat → Nat) : Nat → Nat := fun i => x (n + i)
/-- the tables' numbers; the classes of int[], long[], boolean[] -/
abbrev zG : Type := va_G × ClassId × ClassId × ClassId
/-- a part's addresses, and its cells by its state -/
abbrev zSh : Type := List Nat × (zSt → va_W)
def zTy (G : zG) : List (ClassId × FieldType) := [(G.2.1, .int), (G.2.2.1, .long), (G.2.2.2, .boolean)]
def zK (G : zG) (U : State) : Prop := va_K G.1 vwCl (zTy G) U
theorem zK.moved {G : zG} {u U : State} (hvm : u.vm.Alike U.vm) (h : zK G u) : zK G U := va_K.moved hvm h
def zP (G : zG) (sh : List zSh) (ss : List zSt) (H : Heap) : Prop := ∀ (j : Nat) (x : zSh) (S : zSt), sh[j]? = some x → ss[j]? = some S → ∀ (k : Nat) (q : Nat × va_E), (x.2 S)[k]? = some q → va_at G.1 vwCl q H
/-- the parts are apart -/
def zD (sh : List zSh) : Prop := (∀ (i j : Nat) (x y : zSh) (q : Nat), sh[i]? = some x → sh[j]? = some y → q ∈ x.1 → q ∈ y.1 → i = j) ∧ ∀ (j : Nat) (x : zSh), sh[j]? = some x → (∀ (i k a : Nat), x.1[i]? = some a → x.1[k]? = some a → i = k) ∧ ∀ S : zSt, (x.2 S).map Prod.fst = x.1
def zA (sh : List zSh) (sz : Nat) : Nat → Prop := fun q => (∃ (j : Nat) (x : zSh), sh[j]? = some x ∧ q ∈ x.1) ∨ sz ≤ q
theorem zD.addr {sh : List zSh} (hD : zD sh) {j : Nat} {x : zSh} (hj : sh[j]? = some x) {S : zSt} {k : Nat} {q : Nat × va_E} (hk : (x.2 S)[k]? = some q) : x.1[k]? = some q.1 := by
  rw [← (hD.2 j x hj).2 S, List.getElem?_map, hk]; rfl
theorem zD.mem {sh : List zSh} (hD : zD sh) {j : Nat} {x : zSh} (hj : sh[j]? = some x) {S : zSt} {k : Nat} {q : Nat × va_E} (hk : (x.2 S)[k]? = some q) : q.1 ∈ x.1 := List.mem_of_getElem? (hD.addr hj hk)
theorem zP.set {G : zG} {sh : List zSh} {ss : List zSt} {H H1 : Heap} {j : Nat} {x : zSh} {S S' : zSt} {i a : Nat} {e e' : va_E} (h : zP G sh ss H) (hD : zD sh) (hj : sh[j]? = some x) (hs : ss[j]? = some S) (hi : (x.2 S)[i]? = some (a, e)) (hset : x.2 S' = (x.2 S).set i (a, e')) (he : va_at G.1 vwCl (a, e') H1) (oq : ∀ q : Nat, q ≠ a → H1[q]? = H[q]?) : zP G sh (ss.set j S') H1 := by
  have hjl := (List.getElem?_eq_some_iff.mp hs).1
  have hil := (List.getElem?_eq_some_iff.mp hi).1
  have ha := hD.addr hj hi
  intro j2 x2 S2 hj2 hs2 k q hq
  by_cases hjj : j2 = j
  · subst hjj
    cases hj.symm.trans hj2
    rw [List.getElem?_set_self hjl] at hs2
    cases hs2
    rw [hset] at hq
    by_cases hk : k = i
    · subst hk
      rw [List.getElem?_set_self hil] at hq
      cases hq
      exact he
    · rw [List.getElem?_set_ne (Ne.symm hk)] at hq
      refine (h _ _ _ hj hs k q hq).kept (oq q.1 (fun z => hk ?_))
      have h1 := hD.addr hj hq
      rw [z] at h1
      exact (hD.2 _ _ hj).1 k i a h1 ha
  · rw [List.getElem?_set_ne (Ne.symm hjj)] at hs2
    refine (h _ _ _ hj2 hs2 k q hq).kept (oq q.1 (fun z => hjj ?_))
    have h1 := hD.mem hj2 hq
    rw [z] at h1
    exact hD.1 _ _ _ _ a hj2 hj h1 (List.mem_of_getElem? ha)
theorem zP.kept {G : zG} {sh : List zSh} {ss : List zSt} {H H1 : Heap} (h : zP G sh ss H) (oq : ∀ q : Nat, q < H.size → H1[q]? = H[q]?) : zP G sh ss H1 := fun j x S hj hs k q hq => (h j x S hj hs k q hq).kept (oq q.1 (h j x S hj hs k q hq).lt)
/-- a part of a world -/
theorem zP.sub {G : zG} {sh shc : List zSh} {ss ssc : List zSt} {H : Heap} (h : zP G sh ss H) (js : List Nat) (h1 : js.map (fun j => sh[j]?) = shc.map some) (h2 : js.map (fun j => ss[j]?) = ssc.map some) : zP G shc ssc H := by
  intro t x S hx hS
  have e1 : (js.map (fun j => sh[j]?))[t]? = some (some x) := by rw [h1, List.getElem?_map, hx]; rfl
  have e2 : (js.map (fun j => ss[j]?))[t]? = some (some S) := by rw [h2, List.getElem?_map, hS]; rfl
  rw [List.getElem?_map] at e1 e2
  cases ht : js[t]? with
  | none => rw [ht] at e1; cases e1
  | some j =>
    rw [ht] at e1 e2
    exact h j x S (Option.some.inj e1) (Option.some.inj e2)
theorem z_sh {α : Type} {sh shc : List α} {js : List Nat} (h1 : js.map (fun j => sh[j]?) = shc.map some) {t : Nat} {x : α} (hx : shc[t]? = some x) : ∃ j, js[t]? = some j ∧ sh[j]? = some x := by
  have e1 : (js.map (fun j => sh[j]?))[t]? = some (some x) := by rw [h1, List.getElem?_map, hx]; rfl
  rw [List.getElem?_map] at e1
  cases ht : js[t]? with
  | none => rw [ht] at e1; cases e1
  | some j => rw [ht] at e1; exact ⟨j, rfl, Option.some.inj e1⟩
theorem zD.sub {sh shc : List zSh} (hD : zD sh) (js : List Nat) (hn : va_nd js = true) (h1 : js.map (fun j => sh[j]?) = shc.map some) : zD shc := by
  refine ⟨fun i j x y q hx hy hqx hqy => ?_, fun j x hx => ?_⟩
  · obtain ⟨a, ha, hxa⟩ := z_sh h1 hx
    obtain ⟨b, hb, hyb⟩ := z_sh h1 hy
    have hab := hD.1 a b x y q hxa hyb hqx hqy
    subst hab
    exact va_nd_inj js hn i j a ha hb
  · obtain ⟨a, ha, hxa⟩ := z_sh h1 hx
    exact hD.2 a x hxa
theorem zA.sub {sh shc : List zSh} {js : List Nat} (h1 : js.map (fun j => sh[j]?) = shc.map some) {sz sz' : Nat} (hz : sz ≤ sz') {q : Nat} (h : zA shc sz' q) : zA sh sz q := by
  rcases h with ⟨t, x, hx, hq⟩ | h
  · obtain ⟨a, -, hxa⟩ := z_sh h1 hx
    exact Or.inl ⟨a, x, hxa, hq⟩
  · exact Or.inr (Nat.le_trans hz h)
/-- the states behind a call: the callee's put into their places -/
def zmg : List Nat → List zSt → List zSt → List zSt
  | j :: js, ss, S :: ss' => zmg js (ss.set j S) ss'
  | _, ss, _ => ss
theorem zmg_at : ∀ (js : List Nat), va_nd js = true → ∀ (ss ss' : List zSt), js.length = ss'.length → ∀ (j : Nat) (S : zSt), (zmg js ss ss')[j]? = some S → (∃ t : Nat, js[t]? = some j ∧ ss'[t]? = some S) ∨ (j ∉ js ∧ ss[j]? = some S)
  | [], _, ss, ss', _, j, S, h => Or.inr ⟨List.not_mem_nil, h⟩
  | _ :: _, _, ss, [], hl, j, S, h => by cases hl
  | i :: js, hn, ss, S0 :: ss', hl, j, S, h => by
    have h' : (zmg js (ss.set i S0) ss')[j]? = some S := h
    simp only [va_nd, Bool.and_eq_true, decide_eq_true_eq] at hn
    rcases zmg_at js hn.2 (ss.set i S0) ss' (Nat.succ.inj hl) j S h' with ⟨t, h1, h2⟩ | ⟨h0, h1⟩
    · exact Or.inl ⟨t + 1, h1, h2⟩
    · by_cases hij : j = i
      · subst hij
        have hl9 := (List.getElem?_eq_some_iff.mp h1).1
        rw [List.length_set] at hl9
        rw [List.getElem?_set_self hl9] at h1
        exact Or.inl ⟨0, rfl, h1⟩
      · rw [List.getElem?_set_ne (Ne.symm hij)] at h1
        exact Or.inr ⟨fun hm => (List.mem_cons.mp hm).elim hij h0, h1⟩
theorem zP.join {G : zG} {sh shc : List zSh} {ss ssc' : List zSt} {H H1 : Heap} (h : zP G sh ss H) (hD : zD sh) (js : List Nat) (hn : va_nd js = true) (h1 : js.map (fun j => sh[j]?) = shc.map some) (hl : js.length = ssc'.length) (hk : ∀ q : Nat, q < H.size → ¬ zA shc H.size q → H1[q]? = H[q]?) (hc : zP G shc ssc' H1) : zP G sh (zmg js ss ssc') H1 := by
  intro j x S hj hS k q hq
  rcases zmg_at js hn ss ssc' hl j S hS with ⟨t, ht, hSt⟩ | ⟨hjn, hSj⟩
  · have hxc : shc[t]? = some x := by
      have e1 : (js.map (fun j => sh[j]?))[t]? = some (some x) := by rw [List.getElem?_map, ht]; exact congrArg some hj
      rw [h1, List.getElem?_map] at e1
      cases hz : shc[t]? with
      | none => rw [hz] at e1; cases e1
      | some y => rw [hz] at e1; exact Option.some.inj e1
    exact hc t x S hxc hSt k q hq
  · have hat := h j x S hj hSj k q hq
    refine hat.kept (hk q.1 hat.lt (fun hz => ?_))
    rcases hz with ⟨t, y, hy, hqy⟩ | hz
    · obtain ⟨i, hi, hyi⟩ := z_sh h1 hy
      have hij := hD.1 j i x y q.1 hj hyi (hD.mem hj hq) hqy
      subst hij
      exact hjn (List.mem_of_getElem? hi)
    · exact absurd hat.lt (Nat.not_lt.mpr hz)
/-- the nest's links: the tables say them, no list of words may hold them -/
def znF : List (String × Nat × String × String × String) := [(RX0, 28, "OpenPoll$Board", "size", "I"), (RX6, 174, "OpenPoll$Board", "size", "I"), (RX6, 69, "OpenPoll$Poll", "keys", "[I"), (RX0, 136, "OpenPoll$Poll", "keys", "[I"), (RX6, 105, "OpenPoll$Poll", "jointKey", "I"), (RX6, 81, "OpenPoll$Poll", "registered", "[Z"), (RX0, 86, "OpenPoll$Poll", "registered", "[Z"), (RX6, 130, "OpenPoll$Poll", "entries", "I"), (RX0, 100, "OpenPoll$Poll", "entries", "I"), (RX0, 110, "OpenPoll$Poll", "entryA", "[I"), (RX6, 234, "OpenPoll$Poll", "entryA", "[I"), (RX0, 114, "OpenPoll$Poll", "entryB", "[I"), (RX6, 237, "OpenPoll$Poll", "entryB", "[I"), (RX6, 149, "OpenPoll$Poll", "opened", "[Z"), (RX0, 120, "OpenPoll$Poll", "opened", "[Z"), (RX6, 166, "OpenPoll$Poll", "counts", "[I"), (RX0, 161, "OpenPoll$Poll", "counts", "[I"), (RX6, 223, "OpenPoll$Proof", "digests", "[J"), (RX6, 218, "OpenPoll$Proof", "count", "I")]
def znM : List (String × Nat × MethodName) := [(RX6, 9, yX1_init), (RX6, 18, yX4_init), (RX6, 25, yX0_init), (RX0, 11, yX4_init), (RX6, 32, yX5_init), (RX0, 83, yX6_isVoter), (RX0, 117, yX6_isTrustee)]
def zN (U : State) : Prop := (∀ q ∈ znF, va_Nw (.fieldLinkNest q.1 q.2.1 q.2.2.1 q.2.2.2.1 q.2.2.2.2 "OpenPoll") U) ∧ ∀ q ∈ znM, va_Nw (.methodLinkNest q.1 q.2.1 q.2.2 "OpenPoll") U
theorem zN.warm {s U : State} (hW : s.WarmedH U.vm) (h : zN s) : zN U := ⟨fun q hq => va_Nw.warmF hW (h.1 q hq), fun q hq => va_Nw.warmM hW (h.2 q hq)⟩
theorem zN.same {u U : State} (hv : u.vm = U.vm) (h : zN u) : zN U := ⟨fun q hq => va_Nw.same rfl hv (h.1 q hq), fun q hq => va_Nw.same rfl hv (h.2 q hq)⟩
theorem zN.f {U : State} (h : zN U) {args : Array Value} {a b n d : String} {i : Nat} (hm : (a, i, b, n, d) ∈ znF) : (Cond.fieldLinkNest a i b n d "OpenPoll").before args U = true := va_Nw.use rfl (h.1 (a, i, b, n, d) hm)
def zCtx (p : Program) (s : State) (m : MethodId) (args : Array Value) (meth : Method) (c : Code) (cc : ByteArray) (own : String) (ws : List Cond) (nL : Nat) (ret : Option FieldType) : Prop :=
  p.tables.exec = Jvm.exec ∧ c.code = cc ∧ meth.sig.returnType = ret ∧ c.maxLocals = nL ∧ s.vm.findClass own = some m.cls ∧ (∀ w ∈ ws, w.before args s = true) ∧ meth.locks = false
def zPc (G : zG) (sh : List zSh) (ss : List zSt) (av : List Value) (sz : Nat) : Array Value → State → Prop := va_Pc av (fun U => U.heap.size = sz ∧ zP G sh ss U.heap ∧ zK G U ∧ zD sh ∧ zN U)
theorem zPc.blind {G : zG} {sh : List zSh} {ss : List zSt} {av : List Value} {sz : Nat} : FrameBlind (zPc G sh ss av sz) := fun a U g mk h => by
  obtain ⟨q0, q1, q2, q3, q4, q5⟩ := h
  exact ⟨q0, q1, q2, zK.moved (u := U) (U := U.calling g mk a) (Vm.Alike.refl U.vm) q3, q4, zN.same (u := U) (U := U.calling g mk a) rfl q5⟩
def zQ (G : zG) (sh : List zSh) (ss' : List zSt) (A : Nat → Prop) (rv : Option Value) : Array Value → State → Outcome → State → Prop := fun _ st oc t => oc = .returned rv ∧ zP G sh ss' t.heap ∧ va_F A st t
/-- a contract: on the world ss the method answers rv and leaves ss' -/
def zC (l : Launch) (y : MethodName) (ws : List Cond) (rm : Room) (av : List Value) (G : zG) (sh : List zSh) (ss ss' : List zSt) (rv : Option Value) : Prop := ∀ sz : Nat, Met l y ws rm (zPc G sh ss av sz) (zQ G sh ss' (zA sh sz) rv) 0 0 (zA sh sz)
section ZW
variable {p : Program} {l : Launch} {e : Env} {R : Room} {s : State} {m : MethodId} {args : Array Value} {below : List Frame} {meth : Method} {c : Code} {H : Heap} {locs : List Loc} {cells slots : Nat} {Q : State → Prop}
variable {cc : ByteArray} {pc : Nat} {ls : Array Slot} {rest st0 : List Value} {G : zG} {sh : List zSh} {ss : List zSt} {H0 : Heap} {sz : Nat}
theorem z_ofW {y : MethodName} {ws ws' : List Cond} {rm : Room} {av : List Value} {ss' : List zSt} {rv : Option Value} {maxL : Nat} {ret : Option FieldType}
    (hy : plainName y.cls = true) (hw : ws = Cond.code y cc maxL ret :: ws') (hlen : (lg_sl av).length ≤ maxL)
    (body : ∀ (p : Program) (e : Env) (s : State) (m : MethodId) (args : Array Value) (below : List Frame) (meth : Method) (c : Code), zCtx p s m args meth c cc y.cls ws maxL ret → zK G s → zN s → zD sh → zP G sh ss s.heap → ∀ ls : Array Slot, lv_has ls maxL (lv_args 0 av) →
      W p l e rm s m args below meth c s.heap [] 0 0 (MQ below (zQ G sh ss' (zA sh s.heap.size) rv) args s 0 0 (zA sh s.heap.size)) (F0 m 0 ls [])) : zC l y ws rm av G sh ss ss' rv := by
  intro sz
  refine Met.ofW (cc := cc) (maxL := maxL) (ret := ret) hy hw ?_
  intro p e s m args below meth c s₁ B hml hv
  obtain ⟨rfl, hsz, hP, hK, hD, hN⟩ := hv
  subst hsz
  have hl := lv_entry av (n := maxL) hlen
  rw [lg_entry_eq]
  exact body p e s m _ below meth c ⟨B.exec, B.bytes, B.returns, hml, findClass_of_methodNamed B.named, atoms_spec (ws := ws) B.pre, B.notSynchronized⟩ hK hN hD hP _ hl
theorem z_get (hx : p.tables.exec = Jvm.exec) (hb : c.code = cc) {own ref C : String} {T : u_T} {N ci index : Nat} (hws : ∀ w ∈ u_ws C T N, w.before args s = true) (hown : s.vm.findClass own = some m.cls) (hK : zK G s) (hP : zP G sh ss H) (j : Nat) {x : zSh} {S : zSt} (hj : sh[j]? = some x) (hs : ss[j]? = some S) (i : Nat) {a : Nat} {fs : List Value} (he : (x.2 S)[i]? = some (a, .inr (ci, fs))) (hc : vwCl[ci]? = some (C, T, N)) (k : Nat) (hk : k < N) (hlink : (Cond.fieldLink own index ref (T k).2.1 (T k).2.2.1).before args s = true) (hsame : ∀ z, s.fieldFound? (T k).1 (T k).2.1 (T k).2.2.1 = some z → s.fieldFound? ref (T k).2.1 (T k).2.2.1 = some z) {v : Value} (hv : fs[k]? = some v) (hdg : decode cc pc = .ok (.getfield index, 3))
    (kk : W p l e R s m args below meth c H locs cells slots Q (F0 m (pc + 3) ls (v :: rest))) : W p l e R s m args below meth c H locs cells slots Q (F0 m pc ls (.ref a :: rest)) :=
  va_get (D := G.1) (ws := [(a, .inr (ci, fs))]) hx hb hws (fun _ h => h) hown hK (fun t q hq => by
    cases t with
    | zero => cases hq; exact hP j x S hj hs i _ he
    | succ t => cases hq) 0 rfl hc k hk hlink hsame hv hdg kk
theorem z_getN (hx : p.tables.exec = Jvm.exec) (hb : c.code = cc) {own ref C host : String} {T : u_T} {N ci index : Nat} (hws : ∀ w ∈ u_ws C T N, w.before args s = true) (hown : s.vm.findClass own = some m.cls) (hK : zK G s) (hP : zP G sh ss H) (j : Nat) {x : zSh} {S : zSt} (hj : sh[j]? = some x) (hs : ss[j]? = some S) (i : Nat) {a : Nat} {fs : List Value} (he : (x.2 S)[i]? = some (a, .inr (ci, fs))) (hc : vwCl[ci]? = some (C, T, N)) (k : Nat) (hk : k < N) (hlink : (Cond.fieldLinkNest own index ref (T k).2.1 (T k).2.2.1 host).before args s = true) (hsame : ∀ z, s.fieldFound? (T k).1 (T k).2.1 (T k).2.2.1 = some z → s.fieldFound? ref (T k).2.1 (T k).2.2.1 = some z) {v : Value} (hv : fs[k]? = some v) (hdg : decode cc pc = .ok (.getfield index, 3))
    (kk : W p l e R s m args below meth c H locs cells slots Q (F0 m (pc + 3) ls (v :: rest))) : W p l e R s m args below meth c H locs cells slots Q (F0 m pc ls (.ref a :: rest)) :=
  va_getN (D := G.1) (ws := [(a, .inr (ci, fs))]) hx hb hws (fun _ h => h) hown hK (fun t q hq => by
    cases t with
    | zero => cases hq; exact hP j x S hj hs i _ he
    | succ t => cases hq) 0 rfl hc k hk hlink hsame hv hdg kk
theorem z_sput {A : Nat → Prop} {H1 : Heap} {a k : Nat} (h : va_S A H0 H locs) (z : H1.size = H.size) (oq : ∀ q : Nat, q ≠ a → H1[q]? = H[q]?) (ha : A a) : va_S A H0 H1 (locs ++ [⟨a, k⟩]) := va_S.put h z oq ha
theorem z_put (hx : p.tables.exec = Jvm.exec) (hb : c.code = cc) {own ref C : String} {T : u_T} {N ci index : Nat} (hws : ∀ w ∈ u_ws C T N, w.before args s = true) (ty0 : Nat → FieldType) (hty : ∀ k, k < N → parseFieldDescriptor (T k).2.2.1 = some (ty0 k)) (hnm : ∀ a, a < N → ∀ b, b < N → a ≠ b → (T a).2.1 ≠ (T b).2.1) (hown : s.vm.findClass own = some m.cls) (hK : zK G s) (hP : zP G sh ss H) (hD : zD sh) (hS0 : va_S (zA sh sz) H0 H locs) (j : Nat) {x : zSh} {S S' : zSt} (hj : sh[j]? = some x) (hs : ss[j]? = some S) (i : Nat) {a : Nat} {fs : List Value} (he : (x.2 S)[i]? = some (a, .inr (ci, fs))) (hc : vwCl[ci]? = some (C, T, N)) (k : Nat) (hk : k < N) (hlink : (Cond.fieldLink own index ref (T k).2.1 (T k).2.2.1).before args s = true) (hsame : ∀ z, s.fieldFound? (T k).1 (T k).2.1 (T k).2.2.1 = some z → s.fieldFound? ref (T k).2.1 (T k).2.2.1 = some z) (hfin : (T k).2.2.2 = false) {ty : FieldType} {v : Value} (hd : parseFieldDescriptor (T k).2.2.1 = some ty) (hn : narrow ty v = v) (hfit : fits ty v = true) (hl : k < fs.length) (hset : x.2 S' = (x.2 S).set i (a, .inr (ci, fs.set k v)))
    (hdg : decode cc pc = .ok (.putfield index, 3)) (kk : ∀ (H1 : Heap) (locs1 : List Loc), zP G sh (ss.set j S') H1 → va_S (zA sh sz) H0 H1 locs1 → W p l e R s m args below meth c H1 locs1 cells slots Q (F0 m (pc + 3) ls rest)) : W p l e R s m args below meth c H locs cells slots Q (F0 m pc ls (v :: .ref a :: rest)) := by
  have hap := va_apart (own := own) (args := args) (Ts := u_ws C T N) hws (fun _ h => h) ty0 hty hnm hK hc
  obtain ⟨r, h1, cell, q1, q2, q3, q4⟩ := hP j x S hj hs i _ he
  have hr : r = (C, T, N) := Option.some.inj (h1.symm.trans hc)
  subst hr
  obtain ⟨hS, hfc, kC, hkC, hkind⟩ := hK.1 ci _ hc
  obtain ⟨cf, kf, fi, f, hi, hsl⟩ := hS k hk
  have hlay := hws _ (u_in_lay hk)
  unfold u_lay at hlay
  rw [if_neg (by rw [hfin]; decide)] at hlay
  have hst := (u_facts hfc hkC (u_lays hws (fun _ h => h) hk) hi).1
  have h6 := u_store hfc hkC hkind hlay hi hd hn hfit
  refine W.putK hx hb (f := f) ⟨hown, hlink, ⟨_, _, _, hsame _ hi⟩, hst⟩ (by rw [q2]; exact h6) q1 q3 (by rw [hsl]; exact k2_hasslot (q4 k hk)) rfl rfl hdg fun H' e1 e2 e3 => ?_
  rw [hsl] at e1 ⊢
  refine kk H' _ (hP.set hD hj hs he hset ⟨_, hc, t_OB.to (V := updV (vp_V fs) k v) ⟨_, e1, q2, q3, t_set q4 hap hk v⟩ (fun j _ => vp_updV_set hl v j)⟩ e3) (va_S.put hS0 e2 e3 (Or.inl ⟨j, x, hj, hD.mem hj he⟩))
theorem z_putN (hx : p.tables.exec = Jvm.exec) (hb : c.code = cc) {own ref C host : String} {T : u_T} {N ci index : Nat} (hws : ∀ w ∈ u_ws C T N, w.before args s = true) (ty0 : Nat → FieldType) (hty : ∀ k, k < N → parseFieldDescriptor (T k).2.2.1 = some (ty0 k)) (hnm : ∀ a, a < N → ∀ b, b < N → a ≠ b → (T a).2.1 ≠ (T b).2.1) (hown : s.vm.findClass own = some m.cls) (hK : zK G s) (hP : zP G sh ss H) (hD : zD sh) (hS0 : va_S (zA sh sz) H0 H locs) (j : Nat) {x : zSh} {S S' : zSt} (hj : sh[j]? = some x) (hs : ss[j]? = some S) (i : Nat) {a : Nat} {fs : List Value} (he : (x.2 S)[i]? = some (a, .inr (ci, fs))) (hc : vwCl[ci]? = some (C, T, N)) (k : Nat) (hk : k < N) (hlink : (Cond.fieldLinkNest own index ref (T k).2.1 (T k).2.2.1 host).before args s = true) (hsame : ∀ z, s.fieldFound? (T k).1 (T k).2.1 (T k).2.2.1 = some z → s.fieldFound? ref (T k).2.1 (T k).2.2.1 = some z) (hfin : (T k).2.2.2 = false) {ty : FieldType} {v : Value} (hd : parseFieldDescriptor (T k).2.2.1 = some ty) (hn : narrow ty v = v) (hfit : fits ty v = true) (hl : k < fs.length) (hset : x.2 S' = (x.2 S).set i (a, .inr (ci, fs.set k v)))
    (hdg : decode cc pc = .ok (.putfield index, 3)) (kk : ∀ (H1 : Heap) (locs1 : List Loc), zP G sh (ss.set j S') H1 → va_S (zA sh sz) H0 H1 locs1 → W p l e R s m args below meth c H1 locs1 cells slots Q (F0 m (pc + 3) ls rest)) : W p l e R s m args below meth c H locs cells slots Q (F0 m pc ls (v :: .ref a :: rest)) := by
  have hap := va_apart (own := own) (args := args) (Ts := u_ws C T N) hws (fun _ h => h) ty0 hty hnm hK hc
  obtain ⟨r, h1, cell, q1, q2, q3, q4⟩ := hP j x S hj hs i _ he
  have hr : r = (C, T, N) := Option.some.inj (h1.symm.trans hc)
  subst hr
  obtain ⟨hS, hfc, kC, hkC, hkind⟩ := hK.1 ci _ hc
  obtain ⟨cf, kf, fi, f, hi, hsl⟩ := hS k hk
  have hlay := hws _ (u_in_lay hk)
  unfold u_lay at hlay
  rw [if_neg (by rw [hfin]; decide)] at hlay
  have hst := (u_facts hfc hkC (u_lays hws (fun _ h => h) hk) hi).1
  have h6 := u_store hfc hkC hkind hlay hi hd hn hfit
  refine va_WputK hx hb (f := f) hown hlink (hsame _ hi) hst (by rw [q2]; exact h6) q1 q3 (by rw [hsl]; exact k2_hasslot (q4 k hk)) rfl rfl hdg fun H' e1 e2 e3 => ?_
  rw [hsl] at e1 ⊢
  refine kk H' _ (hP.set hD hj hs he hset ⟨_, hc, t_OB.to (V := updV (vp_V fs) k v) ⟨_, e1, q2, q3, t_set q4 hap hk v⟩ (fun j _ => vp_updV_set hl v j)⟩ e3) (va_S.put hS0 e2 e3 (Or.inl ⟨j, x, hj, hD.mem hj he⟩))
end ZW
