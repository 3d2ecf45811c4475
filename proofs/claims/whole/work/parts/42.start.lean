set_option maxRecDepth 20000 in
theorem zs_f : ∀ w ∈ znF.map (fun q => Cond.fieldLinkNest q.1 q.2.1 q.2.2.1 q.2.2.2.1 q.2.2.2.2 "OpenPoll"), w ∈ lw_tbl := lw_at [82, 83, 102, 103, 105, 107, 108, 113, 114, 116, 117, 119, 120, 126, 127, 129, 130, 194, 196] rfl
set_option maxRecDepth 20000 in
theorem zs_m : ∀ w ∈ znM.map (fun q => Cond.methodLinkNest q.1 q.2.1 q.2.2 "OpenPoll"), w ∈ lw_tbl := lw_at [74, 97, 165, 170, 189, 283, 338] rfl
set_option maxRecDepth 20000 in
theorem zs_c : ∀ w ∈ zEx.map (fun C => Cond.castable C C), w ∈ lw_tbl := lw_at [431, 525, 545, 650] rfl
set_option maxRecDepth 20000 in
theorem zs_d : ∀ w ∈ zDe.map (fun y => Cond.declares y), w ∈ lw_tbl := lw_at [433, 435, 437] rfl
set_option maxRecDepth 20000 in
theorem zs_s : ∀ w ∈ zStr.map (fun q => Cond.stringRef RX6 q.1 q.2), w ∈ lw_tbl := lw_at [471, 522, 532, 552, 569, 570, 581, 595, 597, 607, 608, 626, 635, 657, 680, 696, 714, 731, 743] rfl
def zPairs : List (String × String) := [("java/lang/IllegalArgumentException", "java/lang/IllegalStateException"), ("java/lang/IllegalArgumentException", "java/lang/UnsupportedOperationException"), ("java/lang/IllegalArgumentException", "java/lang/IndexOutOfBoundsException"), ("java/lang/IllegalStateException", "java/lang/IllegalArgumentException"), ("java/lang/IllegalStateException", "java/lang/UnsupportedOperationException"), ("java/lang/IllegalStateException", "java/lang/IndexOutOfBoundsException"), ("java/lang/UnsupportedOperationException", "java/lang/IllegalArgumentException"), ("java/lang/UnsupportedOperationException", "java/lang/IllegalStateException"), ("java/lang/UnsupportedOperationException", "java/lang/IndexOutOfBoundsException"), ("java/lang/IndexOutOfBoundsException", "java/lang/IllegalArgumentException"), ("java/lang/IndexOutOfBoundsException", "java/lang/IllegalStateException"), ("java/lang/IndexOutOfBoundsException", "java/lang/UnsupportedOperationException")]
set_option maxRecDepth 20000 in
theorem zs_n : ∀ w ∈ zPairs.map (fun q => Cond.not (Cond.castable q.1 q.2)), w ∈ flatC (Jvm.Cond.and given_1 narrow_1) := lw_at [21, 30, 39, 12, 31, 40, 13, 22, 41, 14, 23, 32] rfl
set_option maxRecDepth 20000 in
theorem zs_e : ∀ w ∈ zStr.map (fun q => Cond.exactly (Term.string RX6 q.1) "java/lang/String"), w ∈ flatC (Jvm.Cond.and given_1 narrow_1) := lw_at [42, 67, 85, 123, 150, 195, 233, 253, 274, 309, 337, 390, 440, 470, 510, 542, 580, 630, 687] rfl
set_option maxRecDepth 20000 in
theorem zs_u : ∀ w ∈ [Cond.isRef (.static Bundle.tN "UNASSIGNED_STACK" Bundle.steD), Cond.isRef (.static Bundle.tN "SUPPRESSED_SENTINEL" Bundle.listD)], w ∈ flatC (Jvm.Cond.and given_1 narrow_1) := lw_at [4, 5] rfl
set_option maxRecDepth 20000 in
theorem zs_l : ∀ w ∈ [Cond.laysStatic Bundle.tN "UNASSIGNED_STACK" Bundle.steD, Cond.laysStatic Bundle.tN "SUPPRESSED_SENTINEL" Bundle.listD, Cond.initialized Bundle.tN, Cond.arrayClass .int, Cond.arrayClass .long, Cond.arrayClass .boolean], w ∈ lw_tbl := lw_at [456, 458, 56, 93, 94, 162] rfl
set_option maxRecDepth 20000 in
theorem zs_i : ∀ w ∈ [Cond.instantiable RX0 5, Cond.instantiable RX1 4, Cond.instantiable RX4 15, Cond.instantiable RX5 4, Cond.instantiable RX6 6, Cond.instantiable RX7 39], w ∈ lw_tbl := lw_at [164, 73, 96, 188, 65, 745] rfl
theorem zs_N {b : Nat} {s : State} (hts : ∀ w ∈ lw_tbl, w.before #[Value.ref b] s = true) : zN s := ⟨fun q hq => va_Nw.of rfl (hts _ (zs_f _ (List.mem_map.mpr ⟨q, hq, rfl⟩))), fun q hq => va_Nw.of rfl (hts _ (zs_m _ (List.mem_map.mpr ⟨q, hq, rfl⟩)))⟩
theorem zs_pairs : ∀ E ∈ zEx, ∀ T ∈ zEx, E ≠ T → (E, T) ∈ zPairs := by decide +kernel
theorem zs_X {b : Nat} {s : State} (hts : ∀ w ∈ lw_tbl, w.before #[Value.ref b] s = true) (hgv : ∀ w ∈ flatC (Jvm.Cond.and given_1 narrow_1), w.before #[Value.ref b] s = true) : zX s := by
  refine ⟨fun C hC => va_Nw.of rfl (hts _ (zs_c _ (List.mem_map.mpr ⟨C, hC, rfl⟩))), fun y hy => va_Nw.of rfl (hts _ (zs_d _ (List.mem_map.mpr ⟨y, hy, rfl⟩))), fun E hE T hT n => va_Nc.of (hgv _ (zs_n _ (List.mem_map.mpr ⟨(E, T), zs_pairs E hE T hT n, rfl⟩))), fun q hq => ?_⟩
  have h1 := hts _ (zs_s _ (List.mem_map.mpr ⟨q, hq, rfl⟩))
  obtain ⟨a, c, cA, kA, q1, -⟩ := Cond.exactly_spec (args := #[Value.ref b]) (first := s) (o := none) (s := s) (idx := []) (t := Term.string RX6 q.1) (cls := "java/lang/String") (hgv _ (zs_e _ (List.mem_map.mpr ⟨q, hq, rfl⟩)))
  exact ⟨a, vk_R.of (A := #[Value.ref b]) h1 q1⟩
theorem zs_H {b : Nat} {s : State} {A : Nat → Prop} (hts : ∀ w ∈ lw_tbl, w.before #[Value.ref b] s = true) (hgv : ∀ w ∈ flatC (Jvm.Cond.and given_1 narrow_1), w.before #[Value.ref b] s = true) (hA : ∀ a : Nat, a < s.heap.size → ¬ A a) : zH A s s.heap :=
  ⟨vx_Zqof (hts _ (zs_l _ (List.mem_of_getElem? (i := 0) rfl))) (hts _ (zs_l _ (List.mem_of_getElem? (i := 2) rfl))) (hgv _ (zs_u _ (List.mem_of_getElem? (i := 0) rfl))) hA,
   vx_Zqof (hts _ (zs_l _ (List.mem_of_getElem? (i := 1) rfl))) (hts _ (zs_l _ (List.mem_of_getElem? (i := 2) rfl))) (hgv _ (zs_u _ (List.mem_of_getElem? (i := 1) rfl))) hA⟩
theorem zs_arr {b : Nat} {s : State} {ty : FieldType} (hty : ty = .int ∨ ty = .long ∨ ty = .boolean) (h : (Cond.arrayClass ty).before #[Value.ref b] s = true) : ∃ cA : ClassId, ArrOfT s cA ty ∧ va_RA s cA ty := by
  obtain ⟨c, k, comp, h1, h2, h3⟩ := Cond.arrayClass_spec (args := #[Value.ref b]) (first := s) (o := none) (s := s) (idx := []) h
  refine ⟨c, fun n z => ⟨fun k h => (by cases h), k, h2, comp, h3⟩, ?_⟩
  rcases hty with rfl | rfl | rfl <;> exact h1
theorem zs_K {b : Nat} {s : State} (hts : ∀ w ∈ lw_tbl, w.before #[Value.ref b] s = true) : ∃ G : zG, zK G s := by
  obtain ⟨c0, i0, k0⟩ := u_known (C := RX0) (T := TX0) (N := 5) (n := 5) hts inX0 (hts _ (zs_i _ (List.mem_of_getElem? (i := 0) rfl)))
  obtain ⟨c1, i1, k1⟩ := u_known (C := RX1) (T := TX1) (N := 4) (n := 4) hts inX1 (hts _ (zs_i _ (List.mem_of_getElem? (i := 1) rfl)))
  obtain ⟨c2, i2, k2⟩ := u_known (C := RX4) (T := TX4) (N := 15) (n := 15) hts inX4 (hts _ (zs_i _ (List.mem_of_getElem? (i := 2) rfl)))
  obtain ⟨c3, i3, k3⟩ := u_known (C := RX5) (T := TX5) (N := 4) (n := 4) hts inX5 (hts _ (zs_i _ (List.mem_of_getElem? (i := 3) rfl)))
  obtain ⟨c4, i4, k4⟩ := u_known (C := RX6) (T := TX6) (N := 6) (n := 6) hts inX6 (hts _ (zs_i _ (List.mem_of_getElem? (i := 4) rfl)))
  obtain ⟨c5, i5, k5⟩ := u_known (C := RX7) (T := TX7) (N := 39) (n := 39) hts inX7 (hts _ (zs_i _ (List.mem_of_getElem? (i := 5) rfl)))
  obtain ⟨cI, hI⟩ := zs_arr (Or.inl rfl) (hts _ (zs_l _ (List.mem_of_getElem? (i := 3) rfl)))
  obtain ⟨cJ, hJ⟩ := zs_arr (Or.inr (Or.inl rfl)) (hts _ (zs_l _ (List.mem_of_getElem? (i := 4) rfl)))
  obtain ⟨cZ, hZ⟩ := zs_arr (Or.inr (Or.inr rfl)) (hts _ (zs_l _ (List.mem_of_getElem? (i := 5) rfl)))
  refine ⟨((fun k => [c0, c1, c2, c3, c4, c5].getD k 0, fun k => [i0, i1, i2, i3, i4, i5].getD k (fun _ => 0)), cI, cJ, cZ), fun c q hq => ?_, fun k q hk => ?_⟩
  · match c, hq with
    | 0, hq => cases hq; exact k0
    | 1, hq => cases hq; exact k1
    | 2, hq => cases hq; exact k2
    | 3, hq => cases hq; exact k3
    | 4, hq => cases hq; exact k4
    | 5, hq => cases hq; exact k5
    | c + 6, hq => simp [vwCl] at hq
  · match k, hk with
    | 0, hk => cases hk; exact hI
    | 1, hk => cases hk; exact hJ
    | 2, hk => cases hk; exact hZ
    | k + 3, hk => simp [zTy] at hk
/-! worlds as lists of cells, and as parts -/
def zfl : List zSh → List zSt → va_W
  | x :: sh, S :: ss => x.2 S ++ zfl sh ss
  | _, _ => []
theorem zP.of {G : zG} {H : Heap} : ∀ (sh : List zSh) (ss : List zSt), va_P G.1 vwCl (zfl sh ss) H → zP G sh ss H
  | [], _, _ => fun j x S hj => by simp at hj
  | _ :: _, [], _ => fun j x S hj hs => by simp at hs
  | y :: sh, T :: ss, h => fun j x S hj hs k q hq => by
    cases j with
    | zero =>
      cases hj; cases hs
      have hl := (List.getElem?_eq_some_iff.mp hq).1
      exact h k q (by show (y.2 T ++ zfl sh ss)[k]? = some q; rw [List.getElem?_append_left hl]; exact hq)
    | succ j =>
      refine zP.of sh ss (fun k q hq => ?_) j x S hj hs k q hq
      exact h ((y.2 T).length + k) q (by show (y.2 T ++ zfl sh ss)[(y.2 T).length + k]? = some q; rw [List.getElem?_append_right (Nat.le_add_right _ _), Nat.add_sub_cancel_left]; exact hq)
def zad : List zSh → List Nat
  | x :: sh => x.1 ++ zad sh
  | [] => []
theorem zad_mem : ∀ (sh : List zSh) (j : Nat) (x : zSh) (q : Nat), sh[j]? = some x → q ∈ x.1 → q ∈ zad sh
  | [], j, x, q, h, _ => by simp at h
  | y :: sh, 0, x, q, h, hq => by cases h; exact List.mem_append_left _ hq
  | y :: sh, j + 1, x, q, h, hq => List.mem_append_right _ (zad_mem sh j x q h hq)
theorem zD.of : ∀ (sh : List zSh), (∀ (j : Nat) (x : zSh), sh[j]? = some x → ∀ S : zSt, (x.2 S).map Prod.fst = x.1) → (∀ i j a : Nat, (zad sh)[i]? = some a → (zad sh)[j]? = some a → i = j) → zD sh
  | [], _, _ => ⟨fun i j x y q h => by simp at h, fun j x h => by simp at h⟩
  | z :: sh, hok, hin => by
    have ih := zD.of sh (fun j x h => hok (j + 1) x h) (fun i j a hi hj => by
      have e : ∀ k : Nat, (zad (z :: sh))[z.1.length + k]? = (zad sh)[k]? := fun k => by show (z.1 ++ zad sh)[z.1.length + k]? = _; rw [List.getElem?_append_right (Nat.le_add_right _ _), Nat.add_sub_cancel_left]
      have := hin (z.1.length + i) (z.1.length + j) a (by rw [e]; exact hi) (by rw [e]; exact hj)
      omega)
    have cross : ∀ q : Nat, q ∈ z.1 → q ∈ zad sh → False := fun q h1 h2 => by
      obtain ⟨i, hi⟩ := List.getElem?_of_mem h1
      obtain ⟨j, hj⟩ := List.getElem?_of_mem h2
      have hl := (List.getElem?_eq_some_iff.mp hi).1
      have := hin i (z.1.length + j) q (by show (z.1 ++ zad sh)[i]? = _; rw [List.getElem?_append_left hl]; exact hi) (by show (z.1 ++ zad sh)[z.1.length + j]? = _; rw [List.getElem?_append_right (Nat.le_add_right _ _), Nat.add_sub_cancel_left]; exact hj)
      omega
    refine ⟨fun i j x y q hx hy hqx hqy => ?_, fun j x hx => ?_⟩
    · cases i with
      | zero =>
        cases j with
        | zero => rfl
        | succ j => cases hx; exact (cross q hqx (zad_mem sh j y q hy hqy)).elim
      | succ i =>
        cases j with
        | zero => cases hy; exact (cross q hqy (zad_mem sh i x q hx hqx)).elim
        | succ j => rw [ih.1 i j x y q hx hy hqx hqy]
    · cases j with
      | zero =>
        cases hx
        refine ⟨fun i k a hi hk => ?_, hok 0 z rfl⟩
        have hl := (List.getElem?_eq_some_iff.mp hi).1
        have hl2 := (List.getElem?_eq_some_iff.mp hk).1
        exact hin i k a (by show (z.1 ++ zad sh)[i]? = _; rw [List.getElem?_append_left hl]; exact hi) (by show (z.1 ++ zad sh)[k]? = _; rw [List.getElem?_append_left hl2]; exact hk)
      | succ j => exact ih.2 j x hx
theorem zad_fl : ∀ (sh : List zSh) (ss : List zSt), sh.length = ss.length → (∀ (j : Nat) (x : zSh), sh[j]? = some x → ∀ S : zSt, (x.2 S).map Prod.fst = x.1) → (zfl sh ss).map Prod.fst = zad sh
  | [], _, _, _ => rfl
  | x :: sh, [], h, _ => by cases h
  | x :: sh, S :: ss, h, hok => by
    show (x.2 S ++ zfl sh ss).map Prod.fst = x.1 ++ zad sh
    rw [List.map_append, hok 0 x rfl S, zad_fl sh ss (Nat.succ.inj h) (fun j y hy => hok (j + 1) y hy)]
theorem zLsh_ok (G : zG) (xO xM xU : Nat → Nat) : ∀ (j : Nat) (x : zSh), (zLsh G xO xM xU)[j]? = some x → ∀ S : zSt, (x.2 S).map Prod.fst = x.1 := by
  intro j x hj S
  match j, hj with
  | 0, hj => cases hj; rfl
  | 1, hj => cases hj; rfl
  | 2, hj => cases hj; rfl
  | 3, hj => cases hj; rfl
  | 4, hj => cases hj; rfl
  | 5, hj => cases hj; rfl
  | 6, hj => cases hj; rfl
  | 7, hj => cases hj; rfl
  | j + 8, hj => simp [zLsh] at hj
theorem zs_D {G : zG} {A : Nat → Prop} {sh : List zSh} {ss : List zSt} (hl : sh.length = ss.length) (hok : ∀ (j : Nat) (x : zSh), sh[j]? = some x → ∀ S : zSt, (x.2 S).map Prod.fst = x.1) (h : va_D A (zfl sh ss)) : zD sh ∧ ∀ q ∈ zad sh, A q := by
  have key : ∀ (i a : Nat), (zad sh)[i]? = some a → ∃ e, (zfl sh ss)[i]? = some (a, e) := fun i a hi => by
    rw [← zad_fl sh ss hl hok, List.getElem?_map] at hi
    cases hz : (zfl sh ss)[i]? with
    | none => rw [hz] at hi; cases hi
    | some q => rw [hz] at hi; exact ⟨q.2, by rw [← Option.some.inj hi]⟩
  refine ⟨zD.of sh hok (fun i j a hi hj => ?_), fun q hq => ?_⟩
  · obtain ⟨e1, h1⟩ := key i a hi
    obtain ⟨e2, h2⟩ := key j a hj
    exact h.1 i j _ _ h1 h2 rfl
  · obtain ⟨i, hi⟩ := List.getElem?_of_mem hq
    obtain ⟨e1, h1⟩ := key i q hi
    exact h.2 i _ h1
set_option maxHeartbeats 8000000 in
set_option maxRecDepth 20000 in
/-- the law from its entry, if the pure law holds -/
theorem zs_start (hpure : ∀ (xs : Nat → Int32) (L : Nat), L ≤ 448 → lL_law_23 xs L 1000 z0 z0 z0 z0 z0 z0 z0 z0 0 = some ()) {p : Program} {e : Env} {s : State} {m : MethodId} {below : List Frame} {meth : Method} {c : Code} (l : Launch) (hflags : l.flags = flags0) {b L : Nat} {xs : Nat → Int32} (hL : L ≤ 448) (C0 : lw_At p s m meth c b L xs) : W p l e room_1 s m #[Value.ref b] below meth c s.heap [] 0 0 (lw_Z below #[Value.ref b] s) (entryFrame m ([Value.ref b] : List Value).toArray 8) := by
  obtain ⟨hx, hb, hr, hml, hown, ht0, hXs, hbl, hlk, hgv⟩ := id C0
  have hfl : l.stackTraces = false := by unfold Launch.stackTraces; rw [hflags]; decide +kernel
  have hgf := flat_of_before _ hgv
  have hts : ∀ w ∈ wsL_law, w.before #[Value.ref b] s = true := fun w hw => ht0 w (wsL_law_in w hw)
  have hN := zs_N ht0
  have hX := zs_X ht0 hgf
  obtain ⟨G, hK⟩ := zs_K ht0
  obtain ⟨A, hAe⟩ : ∃ A : Nat → Prop, A = fun q => s.heap.size ≤ q := ⟨_, rfl⟩
  have hA : ∀ q : Nat, s.heap.size ≤ q → A q := fun q h => by rw [hAe]; exact h
  have hA9 : ∀ q : Nat, A q → s.heap.size ≤ q := fun q h => by rw [hAe] at h; exact h
  have hS : va_S A s.heap s.heap [] := va_S.rf
  have hP : va_P G.1 vwCl [] s.heap := fun k q h => by simp at h
  have hD : va_D A [] := ⟨fun i j p q h => by simp at h, fun k q h => by simp at h⟩
  have hl := lv_entry ([.ref b]) (n := 8) (Nat.le_of_ble_eq_true rfl)
  rw [lg_entry_eq]
  generalize (lg_sl ([.ref b]) ++ List.replicate (8 - (lg_sl ([.ref b])).length) Slot.unset).toArray = ls at hl ⊢
  have hl : lv_has ls 8 [(0, .ref b)] := hl
  replace hb : c.code = cL_law := hb
  refine va_new (ci := 4) (fs := [.null, .null, .null, .null, .null, .int 0]) (tys := zTy G) (C := RX6) (T := TX6) (N := 6) hx hb ht0 inX6 tyX6 tyX6_ok hown (ht0 _ (List.mem_of_getElem? (i := 64) rfl)) (ht0 _ (zs_i _ (List.mem_of_getElem? (i := 4) rfl))) (ht0 _ (List.mem_of_getElem? (i := 49) rfl)) hK hP hD hS hA rfl (fun j hj => by rcases (show j = 0 ∨ j = 1 ∨ j = 2 ∨ j = 3 ∨ j = 4 ∨ j = 5 by omega) with rfl | rfl | rfl | rfl | rfl | rfl <;> rfl) (Nat.le_of_ble_eq_true rfl) (Nat.le_of_ble_eq_true rfl) dL_law_0 (fun q0 H hP hD hS => ?_)
  replace hP : va_P G.1 vwCl [(q0, .inr (4, [.null, .null, .null, .null, .null, .int 0]))] H := hP
  replace hD : va_D A [(q0, .inr (4, [.null, .null, .null, .null, .null, .int 0]))] := hD
  refine W.widen (k := 1) (n := 6) (Nat.le_of_ble_eq_true rfl) (Nat.le_of_ble_eq_true rfl) ?_
  refine lv_dup hx hb dL_law_3 rfl ?_
  have hFc := va_free (wc := [(q0, .inr (4, [.null, .null, .null, .null, .null, .int 0]))]) hD hS hA [0] rfl
  refine va_callv (va_runI (As := []) (rest := [.ref q0]) ⟨hx, hb, hml, hown, hts⟩ (mX6_init l G q0 H.size) (cwI 0 hts gL_law_X6_init rfl rfl rfl (hts _ (List.mem_of_getElem? (i := 2) rfl)) (hts _ (List.mem_of_getElem? (i := 8) rfl)) (hts _ (List.mem_of_getElem? (i := 9) rfl)) rfl ksX6_init ⟨Nat.le_of_ble_eq_true rfl, Nat.le_of_ble_eq_true rfl⟩) (z_preI hP hD hK hN) rfl rfl hl.1 rfl (lv_room (Nat.le_of_ble_eq_true rfl)) dL_law_4 ⟨Nat.le_of_ble_eq_true rfl, Nat.le_of_ble_eq_true rfl⟩) hS (fun q _ h => hFc q h) hFc (fun u t H1 locs ht hvm hw hB hz1 hk1 hS => ?_)
  obtain ⟨xO, rfl⟩ : ∃ z, z = u := ⟨_, rfl⟩
  obtain ⟨hP1, hD1⟩ := hB
  rw [ht] at hP1
  replace hw : xO 0 = q0 := hw
  subst hw
  replace hP : va_P G.1 vwCl ((shO G xO).2 z0 ++ ((shB G (ad 1 xO)).2 z0 ++ ((shP G (ad 5 xO)).2 z0 ++ ((shA G (ad 19 xO)).2 z0 ++ ((shP G (ad 1 (ad 19 xO))).2 z0 ++ (shR G (ad 34 xO)).2 z0))))) H1 := hP1
  replace hD : va_D A ((shO G xO).2 z0 ++ ((shB G (ad 1 xO)).2 z0 ++ ((shP G (ad 5 xO)).2 z0 ++ ((shA G (ad 19 xO)).2 z0 ++ ((shP G (ad 1 (ad 19 xO))).2 z0 ++ (shR G (ad 34 xO)).2 z0))))) := hD1.weaken (fun k q _ h => hFc q.1 h)
  clear hP1 hD1 hFc hk1 hz1
  generalize H1 = H at hP hS ⊢
  refine W.widen (k := 37) (n := 1584) (Nat.le_of_ble_eq_true rfl) (Nat.le_of_ble_eq_true rfl) ?_
  refine lv_astore_n (lv' := [(1, .ref (xO 0)), (0, .ref b)]) hx hb dL_law_7 rfl hl (by decide) rfl (fun ls hl => ?_)
  refine va_new (ci := 5) (fs := [.int 0, .int 0, .null, .null, .int 0, .null, .null, .null, .null, .null, .null, .int 0, .null, .null, .null, .null, .null, .null, .null, .null, .null, .null, .null, .null, .null, .null, .int 0, .int 0, .int 0, .int 0, .null, .null, .null, .long 0, .null, .int 0, .null, .null, .null]) (tys := zTy G) (C := RX7) (T := TX7) (N := 39) hx hb ht0 inX7 tyX7 tyX7_ok hown (ht0 _ (List.mem_of_getElem? (i := 744) rfl)) (ht0 _ (zs_i _ (List.mem_of_getElem? (i := 5) rfl))) (ht0 _ (List.mem_of_getElem? (i := 54) rfl)) hK hP hD hS hA rfl (fun j hj => by rcases (show j = 0 ∨ j = 1 ∨ j = 2 ∨ j = 3 ∨ j = 4 ∨ j = 5 ∨ j = 6 ∨ j = 7 ∨ j = 8 ∨ j = 9 ∨ j = 10 ∨ j = 11 ∨ j = 12 ∨ j = 13 ∨ j = 14 ∨ j = 15 ∨ j = 16 ∨ j = 17 ∨ j = 18 ∨ j = 19 ∨ j = 20 ∨ j = 21 ∨ j = 22 ∨ j = 23 ∨ j = 24 ∨ j = 25 ∨ j = 26 ∨ j = 27 ∨ j = 28 ∨ j = 29 ∨ j = 30 ∨ j = 31 ∨ j = 32 ∨ j = 33 ∨ j = 34 ∨ j = 35 ∨ j = 36 ∨ j = 37 ∨ j = 38 by omega) with rfl | rfl | rfl | rfl | rfl | rfl | rfl | rfl | rfl | rfl | rfl | rfl | rfl | rfl | rfl | rfl | rfl | rfl | rfl | rfl | rfl | rfl | rfl | rfl | rfl | rfl | rfl | rfl | rfl | rfl | rfl | rfl | rfl | rfl | rfl | rfl | rfl | rfl | rfl <;> rfl) (Nat.le_of_ble_eq_true rfl) (Nat.le_of_ble_eq_true rfl) dL_law_8 (fun q1 H hP hD hS => ?_)
  refine W.widen (k := 38) (n := 1623) (Nat.le_of_ble_eq_true rfl) (Nat.le_of_ble_eq_true rfl) ?_
  refine lv_dup hx hb dL_law_11 rfl ?_
  have hPc := hP.sub (ws' := [(q1, .inr (5, [.int 0, .int 0, .null, .null, .int 0, .null, .null, .null, .null, .null, .null, .int 0, .null, .null, .null, .null, .null, .null, .null, .null, .null, .null, .null, .null, .null, .null, .int 0, .int 0, .int 0, .int 0, .null, .null, .null, .long 0, .null, .int 0, .null, .null, .null]))]) [37] rfl
  have hDc := hD.sub (ws' := [(q1, .inr (5, [.int 0, .int 0, .null, .null, .int 0, .null, .null, .null, .null, .null, .null, .int 0, .null, .null, .null, .null, .null, .null, .null, .null, .null, .null, .null, .null, .null, .null, .int 0, .int 0, .int 0, .int 0, .null, .null, .null, .long 0, .null, .int 0, .null, .null, .null]))]) [37] (by decide) rfl
  have hFc := va_free (wc := [(q1, .inr (5, [.int 0, .int 0, .null, .null, .int 0, .null, .null, .null, .null, .null, .null, .int 0, .null, .null, .null, .null, .null, .null, .null, .null, .null, .null, .null, .null, .null, .null, .int 0, .int 0, .int 0, .int 0, .null, .null, .null, .long 0, .null, .int 0, .null, .null, .null]))]) hD hS hA [37] rfl
  refine va_callv (va_runI (As := []) (rest := [.ref q1]) ⟨hx, hb, hml, hown, hts⟩ (mX7_init l G q1 H.size) (cwI 0 hts gL_law_X7_init rfl rfl rfl (hts _ (List.mem_of_getElem? (i := 5) rfl)) (hts _ (List.mem_of_getElem? (i := 65) rfl)) (hts _ (List.mem_of_getElem? (i := 66) rfl)) rfl ksX7_init ⟨Nat.le_of_ble_eq_true rfl, Nat.le_of_ble_eq_true rfl⟩) (z_preI hPc hDc hK hN) rfl rfl hl.1 rfl (lv_room (Nat.le_of_ble_eq_true rfl)) dL_law_12 ⟨Nat.le_of_ble_eq_true rfl, Nat.le_of_ble_eq_true rfl⟩) hS (fun q _ h => hFc q h) hFc (fun u t H1 locs ht hvm hw hB hz1 hk1 hS => ?_)
  obtain ⟨xM, rfl⟩ : ∃ z, z = u := ⟨_, rfl⟩
  obtain ⟨hP1, hD1⟩ := hB
  rw [ht] at hP1
  replace hw : xM 0 = q1 := hw
  subst hw
  obtain ⟨hP, hD⟩ := va_join (wr := ((shO G xO).2 z0 ++ ((shB G (ad 1 xO)).2 z0 ++ ((shP G (ad 5 xO)).2 z0 ++ ((shA G (ad 19 xO)).2 z0 ++ ((shP G (ad 1 (ad 19 xO))).2 z0 ++ (shR G (ad 34 xO)).2 z0)))))) (w1 := ((shM G xM).2 z0)) hP hD [37] [0, 1, 2, 3, 4, 5, 6, 7, 8, 9, 10, 11, 12, 13, 14, 15, 16, 17, 18, 19, 20, 21, 22, 23, 24, 25, 26, 27, 28, 29, 30, 31, 32, 33, 34, 35, 36] rfl rfl (by decide) (by decide) hk1 hFc hP1 hD1
  clear hP1 hD1 hFc hk1 hz1 hPc hDc
  generalize H1 = H at hP hS ⊢
  refine W.widen (k := 67) (n := 3212) (Nat.le_of_ble_eq_true rfl) (Nat.le_of_ble_eq_true rfl) ?_
  refine lv_astore_n (lv' := [(2, .ref (xM 0)), (1, .ref (xO 0)), (0, .ref b)]) hx hb dL_law_15 rfl hl (by decide) rfl (fun ls hl => ?_)
  refine lv_iconst (v := 1) hx hb dL_law_16 (by decide) ?_
  refine z_newJ (N := 1) hx hb (ht0 _ (zs_l _ (List.mem_of_getElem? (i := 4) rfl))) hK hP hD hS hA (by decide) (by decide) (by decide) (Nat.le_of_ble_eq_true rfl) (Nat.le_of_ble_eq_true rfl) dL_law_17 (fun q2 H hP hD hS => ?_)
  refine lv_astore_n (lv' := [(3, .ref q2), (2, .ref (xM 0)), (1, .ref (xO 0)), (0, .ref b)]) hx hb dL_law_19 rfl hl (by decide) rfl (fun ls hl => ?_)
  refine lv_iconst (v := 0) hx hb dL_law_20 (by decide) ?_
  refine lv_istore (lv' := [(4, .int 0), (3, .ref q2), (2, .ref (xM 0)), (1, .ref (xO 0)), (0, .ref b)]) hx hb dL_law_21 hl (by decide) rfl (fun ls hl => ?_)
  have hPz : va_P G.1 vwCl (zfl (zLsh G xO xM (fun _ => q2)) [z0, z0, z0, z0, z0, z0, z0, z0]) H := hP
  have hDz : va_D A (zfl (zLsh G xO xM (fun _ => q2)) [z0, z0, z0, z0, z0, z0, z0, z0]) := hD
  obtain ⟨hDd, hAd⟩ := zs_D (G := G) rfl (zLsh_ok G xO xM (fun _ => q2)) hDz
  have hge : ∀ q, zA (zLsh G xO xM (fun _ => q2)) s.heap.size q → s.heap.size ≤ q := fun q h => by
    rcases h with ⟨j, x, hj, hq⟩ | h
    · exact hA9 q (hAd q (zad_mem _ j x q hj hq))
    · exact h
  have hS9 : va_S (zA (zLsh G xO xM (fun _ => q2)) s.heap.size) s.heap H _ := ⟨hS.1, fun q h1 _ => hS.2.1 q h1 (fun z => absurd (hA9 q z) (Nat.not_le.mpr h1)), fun q hq => Or.inr (hA9 _ (hS.2.2 q hq))⟩
  refine W.widen (k := 157 + 0) (n := 4003 + 6 * 0) (Nat.le_of_ble_eq_true rfl) (Nat.le_of_ble_eq_true rfl) ?_
  exact tlL_law_23 (G := G) (xO := xO) (xM := xM) (xU := fun _ => q2) (L := L) (xs := xs) ⟨hx, hb, hr, hml, hown, hts, hlk, hK, hN, hDd, hX, zs_H ht0 hgf (fun a ha z => absurd (hge a z) (Nat.not_le.mpr ha)), hfl, hXs, hbl, fun z => absurd (hge b z) (Nat.not_le.mpr hbl), hge, hL⟩ 1000 0 (by decide) _ _ _ _ _ _ _ _ 0 rfl (hpure xs L hL) _ _ (zP.of _ _ hPz) hS9 _ (lv_sub hl [4, 3, 2, 1, 0] rfl)
