def R_law : String := "OpenPollLaw"
def lw_P (b : Addr) (xs : List Int32) (args : Array Value) (s : State) : Prop := args = #[.ref b] ∧ s.IntsAt b xs ∧ xs.length ≤ 448 ∧ (Jvm.Cond.and given_1 narrow_1).before args s = true
def lw_Q (_ : Array Value) (s : State) (o : Outcome) (t : State) : Prop := o = .returned (some (.int 1)) ∧ Framed s o t [] 221 4387
def lw_Z (below : List Frame) (a : Array Value) (s : State) : State → Prop := fun t => ∃ o, t.status = .running ∧ Ended t below o ∧ lw_Q a s o t
/-- the law's own end, with 1 on the stack, nothing written that was there before, its room as the claim has it -/
theorem lw_ret {p : Program} {l : Launch} {e : Env} {s : State} {m : MethodId} {below : List Frame} {meth : Method} {c : Code} {b : Nat} (hx : p.tables.exec = Jvm.exec) (hb : c.code = code) (hr : meth.sig.returnType = ret) (hlocks : meth.locks = false) {pc : Nat} {H : Heap} {ls : Array Slot} (hdg : decode code pc = .ok (.ireturn, 1)) : W p l e room_1 s m #[Value.ref b] below meth c H [] 221 4387 (lw_Z below #[Value.ref b] s) (F0 m pc ls [.int 1]) := by
  intro T hT X
  obtain ⟨fs, hret, hrun, hended, hW, hframe⟩ := X.leave (v := some (.int 1)) (hlocks := hlocks) (fun h => by rw [hr] at h; cases h)
  have hmeth' : T.vm.method? m = some meth := X.method'
  refine ⟨T.setFrames fs, ?_, .returned (some (.int 1)), hrun, hended, rfl, ⟨_, rfl⟩, hW, hframe⟩
  jvm_step X.here [X.here.top, hx, hb, hdg, hmeth', hr, ret, narrow_b1]
  (try refine ⟨rfl, ?_⟩); (try refine ⟨rfl, ?_⟩)
  first | (intro acts; rw [hret _ acts rfl rfl rfl]) | rw [hret _ _ rfl rfl rfl]
  exact Steps.refl _
/-- what holds at the law's entry: the machine, the code, the tables' words (any of lw_tbl by 'hts w (by decide +kernel)'), the script of L ints xs at the cell b, what the Statement gives of the start (any of its parts by flat_of_before) -/
def lw_At (p : Program) (s : State) (m : MethodId) (meth : Method) (c : Code) (b L : Nat) (xs : Nat → Int32) : Prop :=
  p.tables.exec = Jvm.exec ∧ c.code = code ∧ meth.sig.returnType = ret ∧ c.maxLocals = 8 ∧ s.vm.findClass R_law = some m.cls ∧ (∀ w ∈ lw_tbl, w.before #[Value.ref b] s = true) ∧ va_X b L xs s s.heap ∧ b < s.heap.size ∧ meth.locks = false ∧ (Jvm.Cond.and given_1 narrow_1).before #[Value.ref b] s = true
section ZLL
variable {p : Program} {l : Launch} {e : Env} {R : Room} {s : State} {m : MethodId} {args : Array Value} {below : List Frame} {meth : Method} {c : Code} {H : Heap} {locs : List Loc} {cells slots : Nat} {Q : State → Prop}
variable {cc : ByteArray} {pc : Nat} {ls : Array Slot} {rest st0 : List Value} {G : zG} {sh : List zSh} {ss : List zSt} {H0 : Heap} {sz : Nat}
theorem z_preSX {As : List Value} {shc : List zSh} {ssc : List zSt} (hP : zP G sh ss H) (hD : zD sh) (hK : zK G s) (hN : zN s) (hX : zX s) (hH : zH (zA sh sz) s H0) (hS : va_S (zA sh sz) H0 H locs) (hz : sz ≤ H0.size) (js : List Nat) (hn : va_nd js = true) (h1 : js.map (fun j => sh[j]?) = shc.map some) (h2 : js.map (fun j => ss[j]?) = ssc.map some) : PreS s H (zPcX G shc ssc As H.size) As :=
  ⟨zPcX.blind, fun U hU hW => ⟨rfl, by rw [hU], by rw [hU]; exact hP.sub js h1 h2, hK.moved hW.alike, hD.sub js hn h1, hN.warm hW, hX.warm hW, by rw [hU]; exact ((hH.kept hS.2.1).moved hW.alike).narrow (fun q hq => zA.sub h1 (Nat.le_trans hz hS.1) hq)⟩⟩
theorem z_callL {own : String} {n index maxL nL : Nat} {As : List Value} {shc : List zSh} {ssc ssc' : List zSt} {rv : Option Value} {y : MethodName} {bytes : ByteArray} {ret : Option FieldType} {hh : List (Nat × Nat × Nat × Nat)} {ws Ts : List Cond} {rm : Room}
    (hf : CallFix p m c cc nL s args Ts own) (hM : zCL l y ws rm As G shc ssc ssc' rv) (cw : vx_CSW R s args own index y bytes maxL ret hh ws rm 1 6 n) (hP : zP G sh ss H) (hD : zD sh) (hK : zK G s) (hN : zN s) (hX : zX s) (hH : zH (zA sh sz) s H0) (hS : va_S (zA sh sz) H0 H locs) (hz : sz ≤ H0.size) (js : List Nat) (hn : va_nd js = true) (h1 : js.map (fun j => sh[j]?) = shc.map some) (h2 : js.map (fun j => ss[j]?) = ssc.map some) (hl : js.length = ssc'.length)
    (hAs : As.length = n) (hsize : ls.size = nL) (hst : st0 = As.reverse ++ rest) (hW : (rest.map fun v => v.category).sum ≤ 8) (hdg : decode cc pc = .ok (.invokestatic index, 3)) (hroom : cells + 1 ≤ R.cells ∧ slots + 6 ≤ R.slots)
    (kk : ∀ (H1 : Heap) (locs1 : List Loc), zP G sh (zmg js ss ssc') H1 → va_S (zA sh sz) H0 H1 locs1 → W p l e R s m args below meth c H1 locs1 (cells + 1) (slots + 6) Q (F0 m (pc + 3) ls (rv.toList ++ rest))) : W p l e R s m args below meth c H locs cells slots Q (F0 m pc ls st0) := by
  have hr := vx_runSW (e := e) (below := below) (meth := meth) (As := As) (rest := rest) (g := F0 m pc ls st0) (locs := locs) (cells := cells) (slots := slots) hf (hM H.size) cw (z_preSX (As := As) hP hD hK hN hX hH hS hz js hn h1 h2) rfl hAs hsize hst (lv_room hW) hdg hroom
  intro T hT X
  obtain ⟨v, st₀, t, T', L, h0, X', hL, e1, e2, ⟨hv, hPc, hz9, hk⟩, st⟩ := hr T hT X
  cases hv
  rw [h0] at hz9 hk
  have hzz : sz ≤ H.size := Nat.le_trans hz hS.1
  have hk' : ∀ q : Nat, q < H.size → ¬ zA shc H.size q → T'.heap[q]? = H[q]? := fun q h1 h2 => by rw [e1]; exact hk q h1 h2
  have hsub : ∀ q, zA shc H.size q → zA sh sz q := fun q h => zA.sub h1 hzz h
  obtain ⟨t2, a1, b1⟩ := kk T'.heap (locs ++ L) (hP.join hD js hn h1 hl hk' (by rw [e1]; exact hPc))
    ⟨Nat.le_trans hS.1 (by rw [e1]; exact hz9), fun q h3 h4 => (hk' q (Nat.lt_of_lt_of_le h3 hS.1) (fun z => h4 (hsub q z))).trans (hS.2.1 q h3 h4), fun q hq => by
      rcases List.mem_append.mp hq with h | h
      · exact hS.2.2 q h
      · exact hsub _ (hL q h)⟩ T' rfl X'
  exact ⟨t2, st t2 a1, b1⟩
end ZLL
/-- the law's worlds, of the class and of the model, and its row; the script beside them -/
abbrev zLsh (G : zG) (xO xM xU : Nat → Nat) : List zSh := [shO G xO, shB G (ad 1 xO), shP G (ad 5 xO), shA G (ad 19 xO), shP G (ad 1 (ad 19 xO)), shR G (ad 34 xO), shM G xM, shU G xU]
def zLaw (p : Program) (l : Launch) (s : State) (m : MethodId) (meth : Method) (c : Code) (b L : Nat) (xs : Nat → Int32) (G : zG) (xO xM xU : Nat → Nat) : Prop :=
  p.tables.exec = Jvm.exec ∧ c.code = cL_law ∧ meth.sig.returnType = ret ∧ c.maxLocals = 8 ∧ s.vm.findClass RL = some m.cls ∧ (∀ w ∈ wsL_law, w.before #[Value.ref b] s = true) ∧ meth.locks = false ∧ zK G s ∧ zN s ∧ zD (zLsh G xO xM xU) ∧ zX s ∧ zH (zA (zLsh G xO xM xU) s.heap.size) s s.heap ∧ l.stackTraces = false ∧ va_X b L xs s s.heap ∧ b < s.heap.size ∧ ¬ zA (zLsh G xO xM xU) s.heap.size b ∧ (∀ q, zA (zLsh G xO xM xU) s.heap.size q → s.heap.size ≤ q) ∧ L ≤ 448
theorem z_j {j L : Nat} {x : Int32} (hx : x = nI (7 * j)) (hj : 7 * j ≤ 448) (hL : L ≤ 448) (h : ¬ Int32.ofNat L - 7 < x) : j < 64 ∧ 7 * j + 7 ≤ L := by
  subst hx
  have e1 : (Int32.ofNat L - 7).toInt = (L : Int) - 7 := pk_sub_toInt (a := L) (b := 7) (by omega) (by omega)
  have e2 : (nI (7 * j)).toInt = ((7 * j : Nat) : Int) := nI_toInt (by omega)
  rw [Int32.lt_iff_toInt_lt, e1, e2] at h
  omega
def zb5 {α β γ δ η ρ : Type} (x : Option (α × β × γ × δ × η)) (f : α → β → γ → δ → η → Option ρ) : Option ρ := match x with | none => none | some a => f a.1 a.2.1 a.2.2.1 a.2.2.2.1 a.2.2.2.2
theorem zb5_e {α β γ δ η ρ : Type} {x : Option (α × β × γ × δ × η)} {f : α → β → γ → δ → η → Option ρ} {o : ρ} (h : zb5 x f = some o) : ∃ a b c d e, x = some (a, b, c, d, e) ∧ f a b c d e = some o := by
  cases x with
  | none => cases h
  | some a => exact ⟨a.1, a.2.1, a.2.2.1, a.2.2.2.1, a.2.2.2.2, rfl, h⟩
