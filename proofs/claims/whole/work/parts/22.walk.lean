def rmL_begin : Room := { frames := 7, cells := 1, slots := 6, locals := 113 }
theorem ksL_begin : yL_begin.cls ≠ "java/lang/invoke/MethodHandle" ∧ yL_begin.cls ≠ "java/lang/invoke/VarHandle" ∧ (parseMethodDescriptor yL_begin.desc).map (fun d => d.parameters.length) = some 4 := by decide +kernel
set_option maxRecDepth 20000 in
theorem mL_begin (l : Launch) (hfl : l.stackTraces = false) (G : zG) (xO : Nat → Nat) {eO : zSt} {eB : zSt} {eP : zSt} {l1 : Int32} {l2 : Int32} {l3 : Int32} {rr : Int32} {vO : zSt} {vB : zSt} {vP : zSt} (h : fL_begin eO eB eP l1 l2 l3 = some (rr, vO, vB, vP)) : zCL l yL_begin wsL_begin rmL_begin [.ref (xO 0), .int l1, .int l2, .int l3] G [shO G xO, shB G (ad 1 xO), shP G (ad 5 xO)] [eO, eB, eP] [vO, vB, vP] (some (.int rr)) := by
  refine z_ofWL (cc := cL_begin) (maxL := 5) (ret := some .int) (hh := [(0, 7, 10, 13)]) (by decide) rfl (Nat.le_of_ble_eq_true rfl) ?_
  intro p e s m args below meth c C0 hK hN hD hX hH hTab hP ls hl
  obtain ⟨hx, hb, hr, hml, hown, hts, hlk⟩ := id C0
  have hS : va_S (zA [shO G xO, shB G (ad 1 xO), shP G (ad 5 xO)] s.heap.size) s.heap s.heap [] := va_S.rf
  replace hl : lv_has ls 5 [(0, .ref (xO 0)), (1, .int l1), (2, .int l2), (3, .int l3)] := hl
  unfold fL_begin at h
  refine lv_aload_n hx hb dL_begin_0 rfl (lv_at hl 0 rfl) ?_
  refine lv_iload_n hx hb dL_begin_1 rfl (lv_at hl 1 rfl) ?_
  refine lv_iload_n hx hb dL_begin_2 rfl (lv_at hl 2 rfl) ?_
  refine lv_iload_n hx hb dL_begin_3 rfl (lv_at hl 3 rfl) ?_
  obtain ⟨oo, hg, hE, hI⟩ := zbx_e h
  refine z_callVX (As := [.int l1, .int l2, .int l3]) (rest := []) (i := 0) ⟨hx, hb, hml, hown, hts⟩ (mX6_begin l hfl G (xO) hg) (cwV 3 hts gL_begin_X6_begin rfl rfl rfl kvX6_begin ⟨Nat.le_of_ble_eq_true rfl, Nat.le_of_ble_eq_true rfl⟩) rfl hP hD hK hN hX hH hS (Nat.le_refl _) [0, 1, 2] rfl rfl rfl (fun _ => rfl) rfl 0 rfl rfl rfl rfl rfl hl.1 rfl (Nat.le_of_ble_eq_true rfl) dL_begin_4 ⟨Nat.le_of_ble_eq_true rfl, Nat.le_of_ble_eq_true rfl⟩ (fun E ce q9 H locs hoo hP hS hce hcv hcl => ?_) (fun x H locs hoo hP hS => ?_)
  · replace h := hE E hoo
    replace hP : zP G [shO G xO, shB G (ad 1 xO), shP G (ad 5 xO)] [eO, eB, eP] H := hP
    by_cases hc0 : E = "java/lang/IllegalArgumentException"
    · replace h := zt hc0 h
      subst hc0
      refine vx_catch (name := "java/lang/IllegalArgumentException") hown [] ⟨0, 7, 10, 13⟩ [] hTab (fun _ h => absurd h List.not_mem_nil) (by decide) (by decide) (hts _ (List.mem_of_getElem? (i := 1) rfl)) (va_Nw.use rfl (hX.1 _ (by decide +kernel))) hce hcv hcl ?_
      refine lv_astore (lv' := [(4, .ref q9), (0, .ref (xO 0)), (1, .int l1), (2, .int l2), (3, .int l3)]) hx hb dL_begin_10 hl (by decide) rfl (fun ls hl => ?_)
      refine lv_iconst (v := 1) hx hb dL_begin_12 (by decide) ?_
      cases h
      exact z_iretL hx hb hr hlk hP hS dL_begin_13
    · replace h := zf hc0 h
      cases h
  · replace h := hI x hoo
    replace hP : zP G [shO G xO, shB G (ad 1 xO), shP G (ad 5 xO)] [x.1, x.2.1, x.2.2] H := hP
    refine lv_goto (tgt := 14) hx hb dL_begin_7 (by decide) ?_
    refine lv_iconst (v := 0) hx hb dL_begin_14 (by decide) ?_
    cases h
    exact z_iretL hx hb hr hlk hP hS dL_begin_15
def rmL_register : Room := { frames := 7, cells := 1, slots := 6, locals := 111 }
theorem ksL_register : yL_register.cls ≠ "java/lang/invoke/MethodHandle" ∧ yL_register.cls ≠ "java/lang/invoke/VarHandle" ∧ (parseMethodDescriptor yL_register.desc).map (fun d => d.parameters.length) = some 2 := by decide +kernel
set_option maxRecDepth 20000 in
theorem mL_register (l : Launch) (hfl : l.stackTraces = false) (G : zG) (xO : Nat → Nat) {eO : zSt} {eB : zSt} {eP : zSt} {l1 : Int32} {rr : Int32} {vB : zSt} {vP : zSt} (h : fL_register eO eB eP l1 = some (rr, vB, vP)) : zCL l yL_register wsL_register rmL_register [.ref (xO 0), .int l1] G [shO G xO, shB G (ad 1 xO), shP G (ad 5 xO)] [eO, eB, eP] [eO, vB, vP] (some (.int rr)) := by
  refine z_ofWL (cc := cL_register) (maxL := 3) (ret := some .int) (hh := [(0, 5, 8, 13), (0, 5, 11, 19), (0, 5, 14, 21)]) (by decide) rfl (Nat.le_of_ble_eq_true rfl) ?_
  intro p e s m args below meth c C0 hK hN hD hX hH hTab hP ls hl
  obtain ⟨hx, hb, hr, hml, hown, hts, hlk⟩ := id C0
  have hS : va_S (zA [shO G xO, shB G (ad 1 xO), shP G (ad 5 xO)] s.heap.size) s.heap s.heap [] := va_S.rf
  replace hl : lv_has ls 3 [(0, .ref (xO 0)), (1, .int l1)] := hl
  unfold fL_register at h
  refine lv_aload_n hx hb dL_register_0 rfl (lv_at hl 0 rfl) ?_
  refine lv_iload_n hx hb dL_register_1 rfl (lv_at hl 1 rfl) ?_
  obtain ⟨oo, hg, hE, hI⟩ := zbx_e h
  refine z_callVX (As := [.int l1]) (rest := []) (i := 0) ⟨hx, hb, hml, hown, hts⟩ (mX6_register l hfl G (xO) hg) (cwV 1 hts gL_register_X6_register rfl rfl rfl kvX6_register ⟨Nat.le_of_ble_eq_true rfl, Nat.le_of_ble_eq_true rfl⟩) rfl hP hD hK hN hX hH hS (Nat.le_refl _) [0, 1, 2] rfl rfl rfl (fun _ => rfl) rfl 0 rfl rfl rfl rfl rfl hl.1 rfl (Nat.le_of_ble_eq_true rfl) dL_register_2 ⟨Nat.le_of_ble_eq_true rfl, Nat.le_of_ble_eq_true rfl⟩ (fun E ce q9 H locs hoo hP hS hce hcv hcl => ?_) (fun x H locs hoo hP hS => ?_)
  · replace h := hE E hoo
    replace hP : zP G [shO G xO, shB G (ad 1 xO), shP G (ad 5 xO)] [eO, eB, eP] H := hP
    by_cases hc0 : E = "java/lang/IllegalArgumentException"
    · replace h := zt hc0 h
      subst hc0
      refine vx_catch (name := "java/lang/IllegalArgumentException") hown [] ⟨0, 5, 8, 13⟩ [⟨0, 5, 11, 19⟩, ⟨0, 5, 14, 21⟩] hTab (fun _ h => absurd h List.not_mem_nil) (by decide) (by decide) (hts _ (List.mem_of_getElem? (i := 1) rfl)) (va_Nw.use rfl (hX.1 _ (by decide +kernel))) hce hcv hcl ?_
      refine lv_astore_n (lv' := [(2, .ref q9), (0, .ref (xO 0)), (1, .int l1)]) hx hb dL_register_8 rfl hl (by decide) rfl (fun ls hl => ?_)
      refine lv_iconst (v := 1) hx hb dL_register_9 (by decide) ?_
      cases h
      exact z_iretL hx hb hr hlk hP hS dL_register_10
    · replace h := zf hc0 h
      by_cases hc1 : E = "java/lang/IllegalStateException"
      · replace h := zt hc1 h
        subst hc1
        refine vx_catch (name := "java/lang/IllegalStateException") hown [⟨0, 5, 8, 13⟩] ⟨0, 5, 11, 19⟩ [⟨0, 5, 14, 21⟩] hTab (List.forall_mem_cons.mpr ⟨Or.inr ⟨by decide, "java/lang/IllegalArgumentException", hts _ (List.mem_of_getElem? (i := 1) rfl), hX.2.2.1 _ (by decide +kernel) _ (by decide +kernel) (by decide +kernel)⟩, fun _ h => absurd h List.not_mem_nil⟩) (by decide) (by decide) (hts _ (List.mem_of_getElem? (i := 2) rfl)) (va_Nw.use rfl (hX.1 _ (by decide +kernel))) hce hcv hcl ?_
        refine lv_astore_n (lv' := [(2, .ref q9), (0, .ref (xO 0)), (1, .int l1)]) hx hb dL_register_11 rfl hl (by decide) rfl (fun ls hl => ?_)
        refine lv_iconst (v := 2) hx hb dL_register_12 (by decide) ?_
        cases h
        exact z_iretL hx hb hr hlk hP hS dL_register_13
      · replace h := zf hc1 h
        by_cases hc2 : E = "java/lang/UnsupportedOperationException"
        · replace h := zt hc2 h
          subst hc2
          refine vx_catch (name := "java/lang/UnsupportedOperationException") hown [⟨0, 5, 8, 13⟩, ⟨0, 5, 11, 19⟩] ⟨0, 5, 14, 21⟩ [] hTab (List.forall_mem_cons.mpr ⟨Or.inr ⟨by decide, "java/lang/IllegalArgumentException", hts _ (List.mem_of_getElem? (i := 1) rfl), hX.2.2.1 _ (by decide +kernel) _ (by decide +kernel) (by decide +kernel)⟩, List.forall_mem_cons.mpr ⟨Or.inr ⟨by decide, "java/lang/IllegalStateException", hts _ (List.mem_of_getElem? (i := 2) rfl), hX.2.2.1 _ (by decide +kernel) _ (by decide +kernel) (by decide +kernel)⟩, fun _ h => absurd h List.not_mem_nil⟩⟩) (by decide) (by decide) (hts _ (List.mem_of_getElem? (i := 3) rfl)) (va_Nw.use rfl (hX.1 _ (by decide +kernel))) hce hcv hcl ?_
          refine lv_astore_n (lv' := [(2, .ref q9), (0, .ref (xO 0)), (1, .int l1)]) hx hb dL_register_14 rfl hl (by decide) rfl (fun ls hl => ?_)
          refine lv_iconst (v := 3) hx hb dL_register_15 (by decide) ?_
          cases h
          exact z_iretL hx hb hr hlk hP hS dL_register_16
        · replace h := zf hc2 h
          cases h
  · replace h := hI x hoo
    replace hP : zP G [shO G xO, shB G (ad 1 xO), shP G (ad 5 xO)] [eO, x.1, x.2] H := hP
    refine lv_goto (tgt := 17) hx hb dL_register_5 (by decide) ?_
    refine lv_iconst (v := 0) hx hb dL_register_17 (by decide) ?_
    cases h
    exact z_iretL hx hb hr hlk hP hS dL_register_18
def rmL_cast : Room := { frames := 7, cells := 1, slots := 6, locals := 115 }
theorem ksL_cast : yL_cast.cls ≠ "java/lang/invoke/MethodHandle" ∧ yL_cast.cls ≠ "java/lang/invoke/VarHandle" ∧ (parseMethodDescriptor yL_cast.desc).map (fun d => d.parameters.length) = some 5 := by decide +kernel
set_option maxRecDepth 20000 in
theorem mL_cast (l : Launch) (hfl : l.stackTraces = false) (G : zG) (xO : Nat → Nat) (xU : Nat → Nat) {eO : zSt} {eB : zSt} {eP : zSt} {eU : zSt} {l1 : Int32} {l2 : Int32} {l3 : Int32} {rr : Int32} {vB : zSt} {vP : zSt} {vU : zSt} (h : fL_cast eO eB eP eU l1 l2 l3 = some (rr, vB, vP, vU)) : zCL l yL_cast wsL_cast rmL_cast [.ref (xO 0), .int l1, .int l2, .int l3, .ref (xU 0)] G [shO G xO, shB G (ad 1 xO), shP G (ad 5 xO), shU G xU] [eO, eB, eP, eU] [eO, vB, vP, vU] (some (.int rr)) := by
  refine z_ofWL (cc := cL_cast) (maxL := 6) (ret := some .int) (hh := [(0, 12, 15, 13), (0, 12, 19, 19), (0, 12, 23, 21)]) (by decide) rfl (Nat.le_of_ble_eq_true rfl) ?_
  intro p e s m args below meth c C0 hK hN hD hX hH hTab hP ls hl
  obtain ⟨hx, hb, hr, hml, hown, hts, hlk⟩ := id C0
  have hS : va_S (zA [shO G xO, shB G (ad 1 xO), shP G (ad 5 xO), shU G xU] s.heap.size) s.heap s.heap [] := va_S.rf
  replace hl : lv_has ls 6 [(0, .ref (xO 0)), (1, .int l1), (2, .int l2), (3, .int l3), (4, .ref (xU 0))] := hl
  unfold fL_cast at h
  refine lv_aload hx hb dL_cast_0 (lv_at hl 4 rfl) ?_
  refine lv_iconst (v := 0) hx hb dL_cast_2 (by decide) ?_
  refine lv_aload_n hx hb dL_cast_3 rfl (lv_at hl 0 rfl) ?_
  refine lv_iload_n hx hb dL_cast_4 rfl (lv_at hl 1 rfl) ?_
  refine lv_iload_n hx hb dL_cast_5 rfl (lv_at hl 2 rfl) ?_
  refine lv_iload_n hx hb dL_cast_6 rfl (lv_at hl 3 rfl) ?_
  obtain ⟨oo, hg, hE, hI⟩ := zbx_e h
  refine z_callVX (As := [.int l1, .int l2, .int l3]) (rest := [.int ((0 : Int32)), .ref (xU 0)]) (i := 0) ⟨hx, hb, hml, hown, hts⟩ (mX6_cast l hfl G (xO) hg) (cwV 3 hts gL_cast_X6_cast rfl rfl rfl kvX6_cast ⟨Nat.le_of_ble_eq_true rfl, Nat.le_of_ble_eq_true rfl⟩) rfl hP hD hK hN hX hH hS (Nat.le_refl _) [0, 1, 2] rfl rfl rfl (fun _ => rfl) rfl 0 rfl rfl rfl rfl rfl hl.1 rfl (Nat.le_of_ble_eq_true rfl) dL_cast_7 ⟨Nat.le_of_ble_eq_true rfl, Nat.le_of_ble_eq_true rfl⟩ (fun E ce q9 H locs hoo hP hS hce hcv hcl => ?_) (fun x H locs hoo hP hS => ?_)
  · replace h := hE E hoo
    replace hP : zP G [shO G xO, shB G (ad 1 xO), shP G (ad 5 xO), shU G xU] [eO, eB, eP, eU] H := hP
    by_cases hc0 : E = "java/lang/IllegalArgumentException"
    · replace h := zt hc0 h
      subst hc0
      refine vx_catch (name := "java/lang/IllegalArgumentException") hown [] ⟨0, 12, 15, 13⟩ [⟨0, 12, 19, 19⟩, ⟨0, 12, 23, 21⟩] hTab (fun _ h => absurd h List.not_mem_nil) (by decide) (by decide) (hts _ (List.mem_of_getElem? (i := 1) rfl)) (va_Nw.use rfl (hX.1 _ (by decide +kernel))) hce hcv hcl ?_
      refine lv_astore (lv' := [(5, .ref q9), (0, .ref (xO 0)), (1, .int l1), (2, .int l2), (3, .int l3), (4, .ref (xU 0))]) hx hb dL_cast_15 hl (by decide) rfl (fun ls hl => ?_)
      refine lv_iconst (v := 1) hx hb dL_cast_17 (by decide) ?_
      cases h
      exact z_iretL hx hb hr hlk hP hS dL_cast_18
    · replace h := zf hc0 h
      by_cases hc1 : E = "java/lang/IllegalStateException"
      · replace h := zt hc1 h
        subst hc1
        refine vx_catch (name := "java/lang/IllegalStateException") hown [⟨0, 12, 15, 13⟩] ⟨0, 12, 19, 19⟩ [⟨0, 12, 23, 21⟩] hTab (List.forall_mem_cons.mpr ⟨Or.inr ⟨by decide, "java/lang/IllegalArgumentException", hts _ (List.mem_of_getElem? (i := 1) rfl), hX.2.2.1 _ (by decide +kernel) _ (by decide +kernel) (by decide +kernel)⟩, fun _ h => absurd h List.not_mem_nil⟩) (by decide) (by decide) (hts _ (List.mem_of_getElem? (i := 2) rfl)) (va_Nw.use rfl (hX.1 _ (by decide +kernel))) hce hcv hcl ?_
        refine lv_astore (lv' := [(5, .ref q9), (0, .ref (xO 0)), (1, .int l1), (2, .int l2), (3, .int l3), (4, .ref (xU 0))]) hx hb dL_cast_19 hl (by decide) rfl (fun ls hl => ?_)
        refine lv_iconst (v := 2) hx hb dL_cast_21 (by decide) ?_
        cases h
        exact z_iretL hx hb hr hlk hP hS dL_cast_22
      · replace h := zf hc1 h
        by_cases hc2 : E = "java/lang/UnsupportedOperationException"
        · replace h := zt hc2 h
          subst hc2
          refine vx_catch (name := "java/lang/UnsupportedOperationException") hown [⟨0, 12, 15, 13⟩, ⟨0, 12, 19, 19⟩] ⟨0, 12, 23, 21⟩ [] hTab (List.forall_mem_cons.mpr ⟨Or.inr ⟨by decide, "java/lang/IllegalArgumentException", hts _ (List.mem_of_getElem? (i := 1) rfl), hX.2.2.1 _ (by decide +kernel) _ (by decide +kernel) (by decide +kernel)⟩, List.forall_mem_cons.mpr ⟨Or.inr ⟨by decide, "java/lang/IllegalStateException", hts _ (List.mem_of_getElem? (i := 2) rfl), hX.2.2.1 _ (by decide +kernel) _ (by decide +kernel) (by decide +kernel)⟩, fun _ h => absurd h List.not_mem_nil⟩⟩) (by decide) (by decide) (hts _ (List.mem_of_getElem? (i := 3) rfl)) (va_Nw.use rfl (hX.1 _ (by decide +kernel))) hce hcv hcl ?_
          refine lv_astore (lv' := [(5, .ref q9), (0, .ref (xO 0)), (1, .int l1), (2, .int l2), (3, .int l3), (4, .ref (xU 0))]) hx hb dL_cast_23 hl (by decide) rfl (fun ls hl => ?_)
          refine lv_iconst (v := 3) hx hb dL_cast_25 (by decide) ?_
          cases h
          exact z_iretL hx hb hr hlk hP hS dL_cast_26
        · replace h := zf hc2 h
          cases h
  · replace h := hI x hoo
    replace hP : zP G [shO G xO, shB G (ad 1 xO), shP G (ad 5 xO), shU G xU] [eO, x.2.1, x.2.2, eU] H := hP
    refine lv_i2l (v := (x.1).toInt64) hx hb dL_cast_10 rfl ?_
    refine tU_0 hx hb hK hP hD hS 3 (xU) rfl rfl (zvi tn_0 n0_0 (by decide)) tn_0 dL_cast_11 (fun H locs hP hS => ?_)
    replace hP : zP G [shO G xO, shB G (ad 1 xO), shP G (ad 5 xO), shU G xU] [eO, x.2.1, x.2.2, (sL eU 0 0 (((x.1).toInt64)))] H := hP
    refine lv_goto (tgt := 27) hx hb dL_cast_12 (by decide) ?_
    refine lv_iconst (v := 0) hx hb dL_cast_27 (by decide) ?_
    cases h
    exact z_iretL hx hb hr hlk hP hS dL_cast_28
def rmL_close : Room := { frames := 7, cells := 1, slots := 6, locals := 110 }
theorem ksL_close : yL_close.cls ≠ "java/lang/invoke/MethodHandle" ∧ yL_close.cls ≠ "java/lang/invoke/VarHandle" ∧ (parseMethodDescriptor yL_close.desc).map (fun d => d.parameters.length) = some 2 := by decide +kernel
set_option maxRecDepth 20000 in
theorem mL_close (l : Launch) (hfl : l.stackTraces = false) (G : zG) (xO : Nat → Nat) (xU : Nat → Nat) {eO : zSt} {eB : zSt} {eP : zSt} {eU : zSt} {rr : Int32} {vO : zSt} {vB : zSt} {vP : zSt} {vU : zSt} (h : fL_close eO eB eP eU = some (rr, vO, vB, vP, vU)) : zCL l yL_close wsL_close rmL_close [.ref (xO 0), .ref (xU 0)] G [shO G xO, shB G (ad 1 xO), shP G (ad 5 xO), shU G xU] [eO, eB, eP, eU] [vO, vB, vP, vU] (some (.int rr)) := by
  refine z_ofWL (cc := cL_close) (maxL := 3) (ret := some .int) (hh := [(0, 8, 11, 19), (0, 8, 14, 21)]) (by decide) rfl (Nat.le_of_ble_eq_true rfl) ?_
  intro p e s m args below meth c C0 hK hN hD hX hH hTab hP ls hl
  obtain ⟨hx, hb, hr, hml, hown, hts, hlk⟩ := id C0
  have hS : va_S (zA [shO G xO, shB G (ad 1 xO), shP G (ad 5 xO), shU G xU] s.heap.size) s.heap s.heap [] := va_S.rf
  replace hl : lv_has ls 3 [(0, .ref (xO 0)), (1, .ref (xU 0))] := hl
  unfold fL_close at h
  refine lv_aload_n hx hb dL_close_0 rfl (lv_at hl 1 rfl) ?_
  refine lv_iconst (v := 0) hx hb dL_close_1 (by decide) ?_
  refine lv_aload_n hx hb dL_close_2 rfl (lv_at hl 0 rfl) ?_
  obtain ⟨oo, hg, hE, hI⟩ := zbx_e h
  refine z_callVX (As := []) (rest := [.int ((0 : Int32)), .ref (xU 0)]) (i := 0) ⟨hx, hb, hml, hown, hts⟩ (mX6_close l hfl G (xO) hg) (cwV 0 hts gL_close_X6_close rfl rfl rfl kvX6_close ⟨Nat.le_of_ble_eq_true rfl, Nat.le_of_ble_eq_true rfl⟩) rfl hP hD hK hN hX hH hS (Nat.le_refl _) [0, 1, 2] rfl rfl rfl (fun _ => rfl) rfl 0 rfl rfl rfl rfl rfl hl.1 rfl (Nat.le_of_ble_eq_true rfl) dL_close_3 ⟨Nat.le_of_ble_eq_true rfl, Nat.le_of_ble_eq_true rfl⟩ (fun E ce q9 H locs hoo hP hS hce hcv hcl => ?_) (fun x H locs hoo hP hS => ?_)
  · replace h := hE E hoo
    replace hP : zP G [shO G xO, shB G (ad 1 xO), shP G (ad 5 xO), shU G xU] [eO, eB, eP, eU] H := hP
    by_cases hc0 : E = "java/lang/IllegalStateException"
    · replace h := zt hc0 h
      subst hc0
      refine vx_catch (name := "java/lang/IllegalStateException") hown [] ⟨0, 8, 11, 19⟩ [⟨0, 8, 14, 21⟩] hTab (fun _ h => absurd h List.not_mem_nil) (by decide) (by decide) (hts _ (List.mem_of_getElem? (i := 1) rfl)) (va_Nw.use rfl (hX.1 _ (by decide +kernel))) hce hcv hcl ?_
      refine lv_astore_n (lv' := [(2, .ref q9), (0, .ref (xO 0)), (1, .ref (xU 0))]) hx hb dL_close_11 rfl hl (by decide) rfl (fun ls hl => ?_)
      refine lv_iconst (v := 1) hx hb dL_close_12 (by decide) ?_
      cases h
      exact z_iretL hx hb hr hlk hP hS dL_close_13
    · replace h := zf hc0 h
      by_cases hc1 : E = "java/lang/UnsupportedOperationException"
      · replace h := zt hc1 h
        subst hc1
        refine vx_catch (name := "java/lang/UnsupportedOperationException") hown [⟨0, 8, 11, 19⟩] ⟨0, 8, 14, 21⟩ [] hTab (List.forall_mem_cons.mpr ⟨Or.inr ⟨by decide, "java/lang/IllegalStateException", hts _ (List.mem_of_getElem? (i := 1) rfl), hX.2.2.1 _ (by decide +kernel) _ (by decide +kernel) (by decide +kernel)⟩, fun _ h => absurd h List.not_mem_nil⟩) (by decide) (by decide) (hts _ (List.mem_of_getElem? (i := 2) rfl)) (va_Nw.use rfl (hX.1 _ (by decide +kernel))) hce hcv hcl ?_
        refine lv_astore_n (lv' := [(2, .ref q9), (0, .ref (xO 0)), (1, .ref (xU 0))]) hx hb dL_close_14 rfl hl (by decide) rfl (fun ls hl => ?_)
        refine lv_iconst (v := 2) hx hb dL_close_15 (by decide) ?_
        cases h
        exact z_iretL hx hb hr hlk hP hS dL_close_16
      · replace h := zf hc1 h
        cases h
  · replace h := hI x hoo
    replace hP : zP G [shO G xO, shB G (ad 1 xO), shP G (ad 5 xO), shU G xU] [x.2.1, x.2.2.1, x.2.2.2, eU] H := hP
    refine lv_i2l (v := (x.1).toInt64) hx hb dL_close_6 rfl ?_
    refine tU_0 hx hb hK hP hD hS 3 (xU) rfl rfl (zvi tn_0 n0_0 (by decide)) tn_0 dL_close_7 (fun H locs hP hS => ?_)
    replace hP : zP G [shO G xO, shB G (ad 1 xO), shP G (ad 5 xO), shU G xU] [x.2.1, x.2.2.1, x.2.2.2, (sL eU 0 0 (((x.1).toInt64)))] H := hP
    refine lv_goto (tgt := 17) hx hb dL_close_8 (by decide) ?_
    refine lv_iconst (v := 0) hx hb dL_close_17 (by decide) ?_
    cases h
    exact z_iretL hx hb hr hlk hP hS dL_close_18
def rmL_mix : Room := { frames := 7, cells := 1, slots := 6, locals := 112 }
theorem ksL_mix : yL_mix.cls ≠ "java/lang/invoke/MethodHandle" ∧ yL_mix.cls ≠ "java/lang/invoke/VarHandle" ∧ (parseMethodDescriptor yL_mix.desc).map (fun d => d.parameters.length) = some 3 := by decide +kernel
set_option maxRecDepth 20000 in
theorem mL_mix (l : Launch) (hfl : l.stackTraces = false) (G : zG) (xO : Nat → Nat) {eO : zSt} {eB : zSt} {eP : zSt} {l1 : Int32} {l2 : Int32} {rr : Int32} {vB : zSt} {vP : zSt} (h : fL_mix eO eB eP l1 l2 = some (rr, vB, vP)) : zCL l yL_mix wsL_mix rmL_mix [.ref (xO 0), .int l1, .int l2] G [shO G xO, shB G (ad 1 xO), shP G (ad 5 xO)] [eO, eB, eP] [eO, vB, vP] (some (.int rr)) := by
  refine z_ofWL (cc := cL_mix) (maxL := 4) (ret := some .int) (hh := [(0, 6, 9, 19), (0, 6, 12, 13), (0, 6, 15, 21)]) (by decide) rfl (Nat.le_of_ble_eq_true rfl) ?_
  intro p e s m args below meth c C0 hK hN hD hX hH hTab hP ls hl
  obtain ⟨hx, hb, hr, hml, hown, hts, hlk⟩ := id C0
  have hS : va_S (zA [shO G xO, shB G (ad 1 xO), shP G (ad 5 xO)] s.heap.size) s.heap s.heap [] := va_S.rf
  replace hl : lv_has ls 4 [(0, .ref (xO 0)), (1, .int l1), (2, .int l2)] := hl
  unfold fL_mix at h
  refine lv_aload_n hx hb dL_mix_0 rfl (lv_at hl 0 rfl) ?_
  refine lv_iload_n hx hb dL_mix_1 rfl (lv_at hl 1 rfl) ?_
  refine lv_iload_n hx hb dL_mix_2 rfl (lv_at hl 2 rfl) ?_
  obtain ⟨oo, hg, hE, hI⟩ := zbx_e h
  refine z_callVX (As := [.int l1, .int l2]) (rest := []) (i := 0) ⟨hx, hb, hml, hown, hts⟩ (mX6_mix l hfl G (xO) hg) (cwV 2 hts gL_mix_X6_mix rfl rfl rfl kvX6_mix ⟨Nat.le_of_ble_eq_true rfl, Nat.le_of_ble_eq_true rfl⟩) rfl hP hD hK hN hX hH hS (Nat.le_refl _) [0, 1, 2] rfl rfl rfl (fun _ => rfl) rfl 0 rfl rfl rfl rfl rfl hl.1 rfl (Nat.le_of_ble_eq_true rfl) dL_mix_3 ⟨Nat.le_of_ble_eq_true rfl, Nat.le_of_ble_eq_true rfl⟩ (fun E ce q9 H locs hoo hP hS hce hcv hcl => ?_) (fun x H locs hoo hP hS => ?_)
  · replace h := hE E hoo
    replace hP : zP G [shO G xO, shB G (ad 1 xO), shP G (ad 5 xO)] [eO, eB, eP] H := hP
    by_cases hc0 : E = "java/lang/IllegalStateException"
    · replace h := zt hc0 h
      subst hc0
      refine vx_catch (name := "java/lang/IllegalStateException") hown [] ⟨0, 6, 9, 19⟩ [⟨0, 6, 12, 13⟩, ⟨0, 6, 15, 21⟩] hTab (fun _ h => absurd h List.not_mem_nil) (by decide) (by decide) (hts _ (List.mem_of_getElem? (i := 1) rfl)) (va_Nw.use rfl (hX.1 _ (by decide +kernel))) hce hcv hcl ?_
      refine lv_astore_n (lv' := [(3, .ref q9), (0, .ref (xO 0)), (1, .int l1), (2, .int l2)]) hx hb dL_mix_9 rfl hl (by decide) rfl (fun ls hl => ?_)
      refine lv_iconst (v := 1) hx hb dL_mix_10 (by decide) ?_
      cases h
      exact z_iretL hx hb hr hlk hP hS dL_mix_11
    · replace h := zf hc0 h
      by_cases hc1 : E = "java/lang/IllegalArgumentException"
      · replace h := zt hc1 h
        subst hc1
        refine vx_catch (name := "java/lang/IllegalArgumentException") hown [⟨0, 6, 9, 19⟩] ⟨0, 6, 12, 13⟩ [⟨0, 6, 15, 21⟩] hTab (List.forall_mem_cons.mpr ⟨Or.inr ⟨by decide, "java/lang/IllegalStateException", hts _ (List.mem_of_getElem? (i := 1) rfl), hX.2.2.1 _ (by decide +kernel) _ (by decide +kernel) (by decide +kernel)⟩, fun _ h => absurd h List.not_mem_nil⟩) (by decide) (by decide) (hts _ (List.mem_of_getElem? (i := 2) rfl)) (va_Nw.use rfl (hX.1 _ (by decide +kernel))) hce hcv hcl ?_
        refine lv_astore_n (lv' := [(3, .ref q9), (0, .ref (xO 0)), (1, .int l1), (2, .int l2)]) hx hb dL_mix_12 rfl hl (by decide) rfl (fun ls hl => ?_)
        refine lv_iconst (v := 2) hx hb dL_mix_13 (by decide) ?_
        cases h
        exact z_iretL hx hb hr hlk hP hS dL_mix_14
      · replace h := zf hc1 h
        by_cases hc2 : E = "java/lang/UnsupportedOperationException"
        · replace h := zt hc2 h
          subst hc2
          refine vx_catch (name := "java/lang/UnsupportedOperationException") hown [⟨0, 6, 9, 19⟩, ⟨0, 6, 12, 13⟩] ⟨0, 6, 15, 21⟩ [] hTab (List.forall_mem_cons.mpr ⟨Or.inr ⟨by decide, "java/lang/IllegalStateException", hts _ (List.mem_of_getElem? (i := 1) rfl), hX.2.2.1 _ (by decide +kernel) _ (by decide +kernel) (by decide +kernel)⟩, List.forall_mem_cons.mpr ⟨Or.inr ⟨by decide, "java/lang/IllegalArgumentException", hts _ (List.mem_of_getElem? (i := 2) rfl), hX.2.2.1 _ (by decide +kernel) _ (by decide +kernel) (by decide +kernel)⟩, fun _ h => absurd h List.not_mem_nil⟩⟩) (by decide) (by decide) (hts _ (List.mem_of_getElem? (i := 3) rfl)) (va_Nw.use rfl (hX.1 _ (by decide +kernel))) hce hcv hcl ?_
          refine lv_astore_n (lv' := [(3, .ref q9), (0, .ref (xO 0)), (1, .int l1), (2, .int l2)]) hx hb dL_mix_15 rfl hl (by decide) rfl (fun ls hl => ?_)
          refine lv_iconst (v := 3) hx hb dL_mix_16 (by decide) ?_
          cases h
          exact z_iretL hx hb hr hlk hP hS dL_mix_17
        · replace h := zf hc2 h
          cases h
  · replace h := hI x hoo
    replace hP : zP G [shO G xO, shB G (ad 1 xO), shP G (ad 5 xO)] [eO, x.1, x.2] H := hP
    refine lv_goto (tgt := 18) hx hb dL_mix_6 (by decide) ?_
    refine lv_iconst (v := 0) hx hb dL_mix_18 (by decide) ?_
    cases h
    exact z_iretL hx hb hr hlk hP hS dL_mix_19
def rmL_open : Room := { frames := 7, cells := 1, slots := 6, locals := 113 }
theorem ksL_open : yL_open.cls ≠ "java/lang/invoke/MethodHandle" ∧ yL_open.cls ≠ "java/lang/invoke/VarHandle" ∧ (parseMethodDescriptor yL_open.desc).map (fun d => d.parameters.length) = some 3 := by decide +kernel
set_option maxRecDepth 20000 in
theorem mL_open (l : Launch) (hfl : l.stackTraces = false) (G : zG) (xO : Nat → Nat) {eO : zSt} {eB : zSt} {eP : zSt} {l1 : Int32} {l2 : Int32} {rr : Int32} {vO : zSt} {vB : zSt} {vP : zSt} (h : fL_open eO eB eP l1 l2 = some (rr, vO, vB, vP)) : zCL l yL_open wsL_open rmL_open [.ref (xO 0), .int l1, .int l2] G [shO G xO, shB G (ad 1 xO), shP G (ad 5 xO)] [eO, eB, eP] [vO, vB, vP] (some (.int rr)) := by
  refine z_ofWL (cc := cL_open) (maxL := 4) (ret := some .int) (hh := [(0, 6, 9, 13), (0, 6, 12, 19), (0, 6, 15, 21)]) (by decide) rfl (Nat.le_of_ble_eq_true rfl) ?_
  intro p e s m args below meth c C0 hK hN hD hX hH hTab hP ls hl
  obtain ⟨hx, hb, hr, hml, hown, hts, hlk⟩ := id C0
  have hS : va_S (zA [shO G xO, shB G (ad 1 xO), shP G (ad 5 xO)] s.heap.size) s.heap s.heap [] := va_S.rf
  replace hl : lv_has ls 4 [(0, .ref (xO 0)), (1, .int l1), (2, .int l2)] := hl
  unfold fL_open at h
  refine lv_aload_n hx hb dL_open_0 rfl (lv_at hl 0 rfl) ?_
  refine lv_iload_n hx hb dL_open_1 rfl (lv_at hl 1 rfl) ?_
  refine lv_iload_n hx hb dL_open_2 rfl (lv_at hl 2 rfl) ?_
  obtain ⟨oo, hg, hE, hI⟩ := zbx_e h
  refine z_callVX (As := [.int l1, .int l2]) (rest := []) (i := 0) ⟨hx, hb, hml, hown, hts⟩ (mX6_open l hfl G (xO) hg) (cwV 2 hts gL_open_X6_open rfl rfl rfl kvX6_open ⟨Nat.le_of_ble_eq_true rfl, Nat.le_of_ble_eq_true rfl⟩) rfl hP hD hK hN hX hH hS (Nat.le_refl _) [0, 1, 2] rfl rfl rfl (fun _ => rfl) rfl 0 rfl rfl rfl rfl rfl hl.1 rfl (Nat.le_of_ble_eq_true rfl) dL_open_3 ⟨Nat.le_of_ble_eq_true rfl, Nat.le_of_ble_eq_true rfl⟩ (fun E ce q9 H locs hoo hP hS hce hcv hcl => ?_) (fun x H locs hoo hP hS => ?_)
  · replace h := hE E hoo
    replace hP : zP G [shO G xO, shB G (ad 1 xO), shP G (ad 5 xO)] [eO, eB, eP] H := hP
    by_cases hc0 : E = "java/lang/IllegalArgumentException"
    · replace h := zt hc0 h
      subst hc0
      refine vx_catch (name := "java/lang/IllegalArgumentException") hown [] ⟨0, 6, 9, 13⟩ [⟨0, 6, 12, 19⟩, ⟨0, 6, 15, 21⟩] hTab (fun _ h => absurd h List.not_mem_nil) (by decide) (by decide) (hts _ (List.mem_of_getElem? (i := 1) rfl)) (va_Nw.use rfl (hX.1 _ (by decide +kernel))) hce hcv hcl ?_
      refine lv_astore_n (lv' := [(3, .ref q9), (0, .ref (xO 0)), (1, .int l1), (2, .int l2)]) hx hb dL_open_9 rfl hl (by decide) rfl (fun ls hl => ?_)
      refine lv_iconst (v := 1) hx hb dL_open_10 (by decide) ?_
      cases h
      exact z_iretL hx hb hr hlk hP hS dL_open_11
    · replace h := zf hc0 h
      by_cases hc1 : E = "java/lang/IllegalStateException"
      · replace h := zt hc1 h
        subst hc1
        refine vx_catch (name := "java/lang/IllegalStateException") hown [⟨0, 6, 9, 13⟩] ⟨0, 6, 12, 19⟩ [⟨0, 6, 15, 21⟩] hTab (List.forall_mem_cons.mpr ⟨Or.inr ⟨by decide, "java/lang/IllegalArgumentException", hts _ (List.mem_of_getElem? (i := 1) rfl), hX.2.2.1 _ (by decide +kernel) _ (by decide +kernel) (by decide +kernel)⟩, fun _ h => absurd h List.not_mem_nil⟩) (by decide) (by decide) (hts _ (List.mem_of_getElem? (i := 2) rfl)) (va_Nw.use rfl (hX.1 _ (by decide +kernel))) hce hcv hcl ?_
        refine lv_astore_n (lv' := [(3, .ref q9), (0, .ref (xO 0)), (1, .int l1), (2, .int l2)]) hx hb dL_open_12 rfl hl (by decide) rfl (fun ls hl => ?_)
        refine lv_iconst (v := 2) hx hb dL_open_13 (by decide) ?_
        cases h
        exact z_iretL hx hb hr hlk hP hS dL_open_14
      · replace h := zf hc1 h
        by_cases hc2 : E = "java/lang/UnsupportedOperationException"
        · replace h := zt hc2 h
          subst hc2
          refine vx_catch (name := "java/lang/UnsupportedOperationException") hown [⟨0, 6, 9, 13⟩, ⟨0, 6, 12, 19⟩] ⟨0, 6, 15, 21⟩ [] hTab (List.forall_mem_cons.mpr ⟨Or.inr ⟨by decide, "java/lang/IllegalArgumentException", hts _ (List.mem_of_getElem? (i := 1) rfl), hX.2.2.1 _ (by decide +kernel) _ (by decide +kernel) (by decide +kernel)⟩, List.forall_mem_cons.mpr ⟨Or.inr ⟨by decide, "java/lang/IllegalStateException", hts _ (List.mem_of_getElem? (i := 2) rfl), hX.2.2.1 _ (by decide +kernel) _ (by decide +kernel) (by decide +kernel)⟩, fun _ h => absurd h List.not_mem_nil⟩⟩) (by decide) (by decide) (hts _ (List.mem_of_getElem? (i := 3) rfl)) (va_Nw.use rfl (hX.1 _ (by decide +kernel))) hce hcv hcl ?_
          refine lv_astore_n (lv' := [(3, .ref q9), (0, .ref (xO 0)), (1, .int l1), (2, .int l2)]) hx hb dL_open_15 rfl hl (by decide) rfl (fun ls hl => ?_)
          refine lv_iconst (v := 3) hx hb dL_open_16 (by decide) ?_
          cases h
          exact z_iretL hx hb hr hlk hP hS dL_open_17
        · replace h := zf hc2 h
          cases h
  · replace h := hI x hoo
    replace hP : zP G [shO G xO, shB G (ad 1 xO), shP G (ad 5 xO)] [x.1, x.2.1, x.2.2] H := hP
    refine lv_goto (tgt := 18) hx hb dL_open_6 (by decide) ?_
    refine lv_iconst (v := 0) hx hb dL_open_18 (by decide) ?_
    cases h
    exact z_iretL hx hb hr hlk hP hS dL_open_19
def rmL_finish : Room := { frames := 7, cells := 1, slots := 6, locals := 111 }
theorem ksL_finish : yL_finish.cls ≠ "java/lang/invoke/MethodHandle" ∧ yL_finish.cls ≠ "java/lang/invoke/VarHandle" ∧ (parseMethodDescriptor yL_finish.desc).map (fun d => d.parameters.length) = some 2 := by decide +kernel
set_option maxRecDepth 20000 in
theorem mL_finish (l : Launch) (hfl : l.stackTraces = false) (G : zG) (xO : Nat → Nat) (xU : Nat → Nat) {eO : zSt} {eB : zSt} {eP : zSt} {eU : zSt} {rr : Int32} {vO : zSt} {vB : zSt} {vP : zSt} {vU : zSt} (h : fL_finish eO eB eP eU = some (rr, vO, vB, vP, vU)) : zCL l yL_finish wsL_finish rmL_finish [.ref (xO 0), .ref (xU 0)] G [shO G xO, shB G (ad 1 xO), shP G (ad 5 xO), shU G xU] [eO, eB, eP, eU] [vO, vB, vP, vU] (some (.int rr)) := by
  refine z_ofWL (cc := cL_finish) (maxL := 3) (ret := some .int) (hh := [(0, 8, 11, 19), (0, 8, 14, 21)]) (by decide) rfl (Nat.le_of_ble_eq_true rfl) ?_
  intro p e s m args below meth c C0 hK hN hD hX hH hTab hP ls hl
  obtain ⟨hx, hb, hr, hml, hown, hts, hlk⟩ := id C0
  have hS : va_S (zA [shO G xO, shB G (ad 1 xO), shP G (ad 5 xO), shU G xU] s.heap.size) s.heap s.heap [] := va_S.rf
  replace hl : lv_has ls 3 [(0, .ref (xO 0)), (1, .ref (xU 0))] := hl
  unfold fL_finish at h
  refine lv_aload_n hx hb dL_finish_0 rfl (lv_at hl 1 rfl) ?_
  refine lv_iconst (v := 0) hx hb dL_finish_1 (by decide) ?_
  refine lv_aload_n hx hb dL_finish_2 rfl (lv_at hl 0 rfl) ?_
  obtain ⟨oo, hg, hE, hI⟩ := zbx_e h
  refine z_callVX (As := []) (rest := [.int ((0 : Int32)), .ref (xU 0)]) (i := 0) ⟨hx, hb, hml, hown, hts⟩ (mX6_finish l hfl G (xO) hg) (cwV 0 hts gL_finish_X6_finish rfl rfl rfl kvX6_finish ⟨Nat.le_of_ble_eq_true rfl, Nat.le_of_ble_eq_true rfl⟩) rfl hP hD hK hN hX hH hS (Nat.le_refl _) [0, 1, 2] rfl rfl rfl (fun _ => rfl) rfl 0 rfl rfl rfl rfl rfl hl.1 rfl (Nat.le_of_ble_eq_true rfl) dL_finish_3 ⟨Nat.le_of_ble_eq_true rfl, Nat.le_of_ble_eq_true rfl⟩ (fun E ce q9 H locs hoo hP hS hce hcv hcl => ?_) (fun x H locs hoo hP hS => ?_)
  · replace h := hE E hoo
    replace hP : zP G [shO G xO, shB G (ad 1 xO), shP G (ad 5 xO), shU G xU] [eO, eB, eP, eU] H := hP
    by_cases hc0 : E = "java/lang/IllegalStateException"
    · replace h := zt hc0 h
      subst hc0
      refine vx_catch (name := "java/lang/IllegalStateException") hown [] ⟨0, 8, 11, 19⟩ [⟨0, 8, 14, 21⟩] hTab (fun _ h => absurd h List.not_mem_nil) (by decide) (by decide) (hts _ (List.mem_of_getElem? (i := 1) rfl)) (va_Nw.use rfl (hX.1 _ (by decide +kernel))) hce hcv hcl ?_
      refine lv_astore_n (lv' := [(2, .ref q9), (0, .ref (xO 0)), (1, .ref (xU 0))]) hx hb dL_finish_11 rfl hl (by decide) rfl (fun ls hl => ?_)
      refine lv_iconst (v := 1) hx hb dL_finish_12 (by decide) ?_
      cases h
      exact z_iretL hx hb hr hlk hP hS dL_finish_13
    · replace h := zf hc0 h
      by_cases hc1 : E = "java/lang/UnsupportedOperationException"
      · replace h := zt hc1 h
        subst hc1
        refine vx_catch (name := "java/lang/UnsupportedOperationException") hown [⟨0, 8, 11, 19⟩] ⟨0, 8, 14, 21⟩ [] hTab (List.forall_mem_cons.mpr ⟨Or.inr ⟨by decide, "java/lang/IllegalStateException", hts _ (List.mem_of_getElem? (i := 1) rfl), hX.2.2.1 _ (by decide +kernel) _ (by decide +kernel) (by decide +kernel)⟩, fun _ h => absurd h List.not_mem_nil⟩) (by decide) (by decide) (hts _ (List.mem_of_getElem? (i := 2) rfl)) (va_Nw.use rfl (hX.1 _ (by decide +kernel))) hce hcv hcl ?_
        refine lv_astore_n (lv' := [(2, .ref q9), (0, .ref (xO 0)), (1, .ref (xU 0))]) hx hb dL_finish_14 rfl hl (by decide) rfl (fun ls hl => ?_)
        refine lv_iconst (v := 2) hx hb dL_finish_15 (by decide) ?_
        cases h
        exact z_iretL hx hb hr hlk hP hS dL_finish_16
      · replace h := zf hc1 h
        cases h
  · replace h := hI x hoo
    replace hP : zP G [shO G xO, shB G (ad 1 xO), shP G (ad 5 xO), shU G xU] [x.2.1, x.2.2.1, x.2.2.2, eU] H := hP
    refine lv_i2l (v := (x.1).toInt64) hx hb dL_finish_6 rfl ?_
    refine tU_0 hx hb hK hP hD hS 3 (xU) rfl rfl (zvi tn_0 n0_0 (by decide)) tn_0 dL_finish_7 (fun H locs hP hS => ?_)
    replace hP : zP G [shO G xO, shB G (ad 1 xO), shP G (ad 5 xO), shU G xU] [x.2.1, x.2.2.1, x.2.2.2, (sL eU 0 0 (((x.1).toInt64)))] H := hP
    refine lv_goto (tgt := 17) hx hb dL_finish_8 (by decide) ?_
    refine lv_iconst (v := 0) hx hb dL_finish_17 (by decide) ?_
    cases h
    exact z_iretL hx hb hr hlk hP hS dL_finish_18
def rmL_votes : Room := { frames := 7, cells := 1, slots := 6, locals := 111 }
theorem ksL_votes : yL_votes.cls ≠ "java/lang/invoke/MethodHandle" ∧ yL_votes.cls ≠ "java/lang/invoke/VarHandle" ∧ (parseMethodDescriptor yL_votes.desc).map (fun d => d.parameters.length) = some 3 := by decide +kernel
set_option maxRecDepth 20000 in
theorem mL_votes (l : Launch) (hfl : l.stackTraces = false) (G : zG) (xO : Nat → Nat) (xU : Nat → Nat) {eO : zSt} {eP : zSt} {eU : zSt} {l1 : Int32} {rr : Int32} {vU : zSt} (h : fL_votes eO eP eU l1 = some (rr, vU)) : zCL l yL_votes wsL_votes rmL_votes [.ref (xO 0), .int l1, .ref (xU 0)] G [shO G xO, shP G (ad 5 xO), shU G xU] [eO, eP, eU] [eO, eP, vU] (some (.int rr)) := by
  refine z_ofWL (cc := cL_votes) (maxL := 4) (ret := some .int) (hh := [(0, 9, 12, 13)]) (by decide) rfl (Nat.le_of_ble_eq_true rfl) ?_
  intro p e s m args below meth c C0 hK hN hD hX hH hTab hP ls hl
  obtain ⟨hx, hb, hr, hml, hown, hts, hlk⟩ := id C0
  have hS : va_S (zA [shO G xO, shP G (ad 5 xO), shU G xU] s.heap.size) s.heap s.heap [] := va_S.rf
  replace hl : lv_has ls 4 [(0, .ref (xO 0)), (1, .int l1), (2, .ref (xU 0))] := hl
  unfold fL_votes at h
  refine lv_aload_n hx hb dL_votes_0 rfl (lv_at hl 2 rfl) ?_
  refine lv_iconst (v := 0) hx hb dL_votes_1 (by decide) ?_
  refine lv_aload_n hx hb dL_votes_2 rfl (lv_at hl 0 rfl) ?_
  refine lv_iload_n hx hb dL_votes_3 rfl (lv_at hl 1 rfl) ?_
  obtain ⟨oo, hg, hE, hI⟩ := zbx_e h
  refine z_callVX (As := [.int l1]) (rest := [.int ((0 : Int32)), .ref (xU 0)]) (i := 0) ⟨hx, hb, hml, hown, hts⟩ (mX6_votes l hfl G (xO) hg) (cwV 1 hts gL_votes_X6_votes rfl rfl rfl kvX6_votes ⟨Nat.le_of_ble_eq_true rfl, Nat.le_of_ble_eq_true rfl⟩) rfl hP hD hK hN hX hH hS (Nat.le_refl _) [0, 1] rfl rfl rfl (fun _ => rfl) rfl 0 rfl rfl rfl rfl rfl hl.1 rfl (Nat.le_of_ble_eq_true rfl) dL_votes_4 ⟨Nat.le_of_ble_eq_true rfl, Nat.le_of_ble_eq_true rfl⟩ (fun E ce q9 H locs hoo hP hS hce hcv hcl => ?_) (fun x H locs hoo hP hS => ?_)
  · replace h := hE E hoo
    replace hP : zP G [shO G xO, shP G (ad 5 xO), shU G xU] [eO, eP, eU] H := hP
    by_cases hc0 : E = "java/lang/IllegalArgumentException"
    · replace h := zt hc0 h
      subst hc0
      refine vx_catch (name := "java/lang/IllegalArgumentException") hown [] ⟨0, 9, 12, 13⟩ [] hTab (fun _ h => absurd h List.not_mem_nil) (by decide) (by decide) (hts _ (List.mem_of_getElem? (i := 1) rfl)) (va_Nw.use rfl (hX.1 _ (by decide +kernel))) hce hcv hcl ?_
      refine lv_astore_n (lv' := [(3, .ref q9), (0, .ref (xO 0)), (1, .int l1), (2, .ref (xU 0))]) hx hb dL_votes_12 rfl hl (by decide) rfl (fun ls hl => ?_)
      refine lv_iconst (v := 1) hx hb dL_votes_13 (by decide) ?_
      cases h
      exact z_iretL hx hb hr hlk hP hS dL_votes_14
    · replace h := zf hc0 h
      cases h
  · replace h := hI x hoo
    replace hP : zP G [shO G xO, shP G (ad 5 xO), shU G xU] [eO, eP, eU] H := hP
    refine lv_i2l (v := x.toInt64) hx hb dL_votes_7 rfl ?_
    refine tU_0 hx hb hK hP hD hS 2 (xU) rfl rfl (zvi tn_0 n0_0 (by decide)) tn_0 dL_votes_8 (fun H locs hP hS => ?_)
    replace hP : zP G [shO G xO, shP G (ad 5 xO), shU G xU] [eO, eP, (sL eU 0 0 ((x.toInt64)))] H := hP
    refine lv_goto (tgt := 15) hx hb dL_votes_9 (by decide) ?_
    refine lv_iconst (v := 0) hx hb dL_votes_15 (by decide) ?_
    cases h
    exact z_iretL hx hb hr hlk hP hS dL_votes_16
def rmL_field : Room := { frames := 7, cells := 1, slots := 6, locals := 112 }
theorem ksL_field : yL_field.cls ≠ "java/lang/invoke/MethodHandle" ∧ yL_field.cls ≠ "java/lang/invoke/VarHandle" ∧ (parseMethodDescriptor yL_field.desc).map (fun d => d.parameters.length) = some 4 := by decide +kernel
set_option maxRecDepth 20000 in
theorem mL_field (l : Launch) (hfl : l.stackTraces = false) (G : zG) (xO : Nat → Nat) (xU : Nat → Nat) {eO : zSt} {eB : zSt} {eU : zSt} {l1 : Int32} {l2 : Int32} {rr : Int32} {vU : zSt} (h : fL_field eO eB eU l1 l2 = some (rr, vU)) : zCL l yL_field wsL_field rmL_field [.ref (xO 0), .int l1, .int l2, .ref (xU 0)] G [shO G xO, shB G (ad 1 xO), shU G xU] [eO, eB, eU] [eO, eB, vU] (some (.int rr)) := by
  refine z_ofWL (cc := cL_field) (maxL := 5) (ret := some .int) (hh := [(0, 10, 13, 49)]) (by decide) rfl (Nat.le_of_ble_eq_true rfl) ?_
  intro p e s m args below meth c C0 hK hN hD hX hH hTab hP ls hl
  obtain ⟨hx, hb, hr, hml, hown, hts, hlk⟩ := id C0
  have hS : va_S (zA [shO G xO, shB G (ad 1 xO), shU G xU] s.heap.size) s.heap s.heap [] := va_S.rf
  replace hl : lv_has ls 5 [(0, .ref (xO 0)), (1, .int l1), (2, .int l2), (3, .ref (xU 0))] := hl
  unfold fL_field at h
  refine lv_aload_n hx hb dL_field_0 rfl (lv_at hl 3 rfl) ?_
  refine lv_iconst (v := 0) hx hb dL_field_1 (by decide) ?_
  refine lv_aload_n hx hb dL_field_2 rfl (lv_at hl 0 rfl) ?_
  refine lv_iload_n hx hb dL_field_3 rfl (lv_at hl 1 rfl) ?_
  refine lv_iload_n hx hb dL_field_4 rfl (lv_at hl 2 rfl) ?_
  obtain ⟨oo, hg, hE, hI⟩ := zbx_e h
  refine z_callVX (As := [.int l1, .int l2]) (rest := [.int ((0 : Int32)), .ref (xU 0)]) (i := 0) ⟨hx, hb, hml, hown, hts⟩ (mX6_field l hfl G (xO) hg) (cwV 2 hts gL_field_X6_field rfl rfl rfl kvX6_field ⟨Nat.le_of_ble_eq_true rfl, Nat.le_of_ble_eq_true rfl⟩) rfl hP hD hK hN hX hH hS (Nat.le_refl _) [0, 1] rfl rfl rfl (fun _ => rfl) rfl 0 rfl rfl rfl rfl rfl hl.1 rfl (Nat.le_of_ble_eq_true rfl) dL_field_5 ⟨Nat.le_of_ble_eq_true rfl, Nat.le_of_ble_eq_true rfl⟩ (fun E ce q9 H locs hoo hP hS hce hcv hcl => ?_) (fun x H locs hoo hP hS => ?_)
  · replace h := hE E hoo
    replace hP : zP G [shO G xO, shB G (ad 1 xO), shU G xU] [eO, eB, eU] H := hP
    by_cases hc0 : E = "java/lang/IndexOutOfBoundsException"
    · replace h := zt hc0 h
      subst hc0
      refine vx_catch (name := "java/lang/IndexOutOfBoundsException") hown [] ⟨0, 10, 13, 49⟩ [] hTab (fun _ h => absurd h List.not_mem_nil) (by decide) (by decide) (hts _ (List.mem_of_getElem? (i := 1) rfl)) (va_Nw.use rfl (hX.1 _ (by decide +kernel))) hce hcv hcl ?_
      refine lv_astore (lv' := [(4, .ref q9), (0, .ref (xO 0)), (1, .int l1), (2, .int l2), (3, .ref (xU 0))]) hx hb dL_field_13 hl (by decide) rfl (fun ls hl => ?_)
      refine lv_iconst (v := 1) hx hb dL_field_15 (by decide) ?_
      cases h
      exact z_iretL hx hb hr hlk hP hS dL_field_16
    · replace h := zf hc0 h
      cases h
  · replace h := hI x hoo
    replace hP : zP G [shO G xO, shB G (ad 1 xO), shU G xU] [eO, eB, eU] H := hP
    refine lv_i2l (v := x.toInt64) hx hb dL_field_8 rfl ?_
    refine tU_0 hx hb hK hP hD hS 2 (xU) rfl rfl (zvi tn_0 n0_0 (by decide)) tn_0 dL_field_9 (fun H locs hP hS => ?_)
    replace hP : zP G [shO G xO, shB G (ad 1 xO), shU G xU] [eO, eB, (sL eU 0 0 ((x.toInt64)))] H := hP
    refine lv_goto (tgt := 17) hx hb dL_field_10 (by decide) ?_
    refine lv_iconst (v := 0) hx hb dL_field_17 (by decide) ?_
    cases h
    exact z_iretL hx hb hr hlk hP hS dL_field_18
def rmL_forge : Room := { frames := 7, cells := 1, slots := 6, locals := 114 }
theorem ksL_forge : yL_forge.cls ≠ "java/lang/invoke/MethodHandle" ∧ yL_forge.cls ≠ "java/lang/invoke/VarHandle" ∧ (parseMethodDescriptor yL_forge.desc).map (fun d => d.parameters.length) = some 5 := by decide +kernel
set_option maxRecDepth 20000 in
theorem mL_forge (l : Launch) (hfl : l.stackTraces = false) (G : zG) (xO : Nat → Nat) (xU : Nat → Nat) {eO : zSt} {eB : zSt} {eU : zSt} {l1 : Int32} {l2 : Int32} {l3 : Int32} {rr : Int32} {vB : zSt} {vU : zSt} (h : fL_forge eO eB eU l1 l2 l3 = some (rr, vB, vU)) : zCL l yL_forge wsL_forge rmL_forge [.ref (xO 0), .int l1, .int l2, .int l3, .ref (xU 0)] G [shO G xO, shB G (ad 1 xO), shU G xU] [eO, eB, eU] [eO, vB, vU] (some (.int rr)) := by
  refine z_ofWL (cc := cL_forge) (maxL := 6) (ret := some .int) (hh := [(0, 12, 15, 49)]) (by decide) rfl (Nat.le_of_ble_eq_true rfl) ?_
  intro p e s m args below meth c C0 hK hN hD hX hH hTab hP ls hl
  obtain ⟨hx, hb, hr, hml, hown, hts, hlk⟩ := id C0
  have hS : va_S (zA [shO G xO, shB G (ad 1 xO), shU G xU] s.heap.size) s.heap s.heap [] := va_S.rf
  replace hl : lv_has ls 6 [(0, .ref (xO 0)), (1, .int l1), (2, .int l2), (3, .int l3), (4, .ref (xU 0))] := hl
  unfold fL_forge at h
  refine lv_aload hx hb dL_forge_0 (lv_at hl 4 rfl) ?_
  refine lv_iconst (v := 0) hx hb dL_forge_2 (by decide) ?_
  refine lv_aload_n hx hb dL_forge_3 rfl (lv_at hl 0 rfl) ?_
  refine lv_iload_n hx hb dL_forge_4 rfl (lv_at hl 1 rfl) ?_
  refine lv_iload_n hx hb dL_forge_5 rfl (lv_at hl 2 rfl) ?_
  refine lv_iload_n hx hb dL_forge_6 rfl (lv_at hl 3 rfl) ?_
  obtain ⟨oo, hg, hE, hI⟩ := zbx_e h
  refine z_callVX (As := [.int l1, .int l2, .int l3]) (rest := [.int ((0 : Int32)), .ref (xU 0)]) (i := 0) ⟨hx, hb, hml, hown, hts⟩ (mX6_forge l hfl G (xO) hg) (cwV 3 hts gL_forge_X6_forge rfl rfl rfl kvX6_forge ⟨Nat.le_of_ble_eq_true rfl, Nat.le_of_ble_eq_true rfl⟩) rfl hP hD hK hN hX hH hS (Nat.le_refl _) [0, 1] rfl rfl rfl (fun _ => rfl) rfl 0 rfl rfl rfl rfl rfl hl.1 rfl (Nat.le_of_ble_eq_true rfl) dL_forge_7 ⟨Nat.le_of_ble_eq_true rfl, Nat.le_of_ble_eq_true rfl⟩ (fun E ce q9 H locs hoo hP hS hce hcv hcl => ?_) (fun x H locs hoo hP hS => ?_)
  · replace h := hE E hoo
    replace hP : zP G [shO G xO, shB G (ad 1 xO), shU G xU] [eO, eB, eU] H := hP
    by_cases hc0 : E = "java/lang/IndexOutOfBoundsException"
    · replace h := zt hc0 h
      subst hc0
      refine vx_catch (name := "java/lang/IndexOutOfBoundsException") hown [] ⟨0, 12, 15, 49⟩ [] hTab (fun _ h => absurd h List.not_mem_nil) (by decide) (by decide) (hts _ (List.mem_of_getElem? (i := 1) rfl)) (va_Nw.use rfl (hX.1 _ (by decide +kernel))) hce hcv hcl ?_
      refine lv_astore (lv' := [(5, .ref q9), (0, .ref (xO 0)), (1, .int l1), (2, .int l2), (3, .int l3), (4, .ref (xU 0))]) hx hb dL_forge_15 hl (by decide) rfl (fun ls hl => ?_)
      refine lv_iconst (v := 1) hx hb dL_forge_17 (by decide) ?_
      cases h
      exact z_iretL hx hb hr hlk hP hS dL_forge_18
    · replace h := zf hc0 h
      cases h
  · replace h := hI x hoo
    replace hP : zP G [shO G xO, shB G (ad 1 xO), shU G xU] [eO, x.2, eU] H := hP
    refine lv_i2l (v := (x.1).toInt64) hx hb dL_forge_10 rfl ?_
    refine tU_0 hx hb hK hP hD hS 2 (xU) rfl rfl (zvi tn_0 n0_0 (by decide)) tn_0 dL_forge_11 (fun H locs hP hS => ?_)
    replace hP : zP G [shO G xO, shB G (ad 1 xO), shU G xU] [eO, x.2, (sL eU 0 0 (((x.1).toInt64)))] H := hP
    refine lv_goto (tgt := 19) hx hb dL_forge_12 (by decide) ?_
    refine lv_iconst (v := 0) hx hb dL_forge_19 (by decide) ?_
    cases h
    exact z_iretL hx hb hr hlk hP hS dL_forge_20
def rmL_leaf : Room := { frames := 7, cells := 1, slots := 6, locals := 111 }
theorem ksL_leaf : yL_leaf.cls ≠ "java/lang/invoke/MethodHandle" ∧ yL_leaf.cls ≠ "java/lang/invoke/VarHandle" ∧ (parseMethodDescriptor yL_leaf.desc).map (fun d => d.parameters.length) = some 3 := by decide +kernel
set_option maxRecDepth 20000 in
theorem mL_leaf (l : Launch) (hfl : l.stackTraces = false) (G : zG) (xO : Nat → Nat) (xU : Nat → Nat) {eO : zSt} {eB : zSt} {eU : zSt} {l1 : Int32} {rr : Int32} {vU : zSt} (h : fL_leaf eO eB eU l1 = some (rr, vU)) : zCL l yL_leaf wsL_leaf rmL_leaf [.ref (xO 0), .int l1, .ref (xU 0)] G [shO G xO, shB G (ad 1 xO), shU G xU] [eO, eB, eU] [eO, eB, vU] (some (.int rr)) := by
  refine z_ofWL (cc := cL_leaf) (maxL := 4) (ret := some .int) (hh := [(0, 8, 11, 49)]) (by decide) rfl (Nat.le_of_ble_eq_true rfl) ?_
  intro p e s m args below meth c C0 hK hN hD hX hH hTab hP ls hl
  obtain ⟨hx, hb, hr, hml, hown, hts, hlk⟩ := id C0
  have hS : va_S (zA [shO G xO, shB G (ad 1 xO), shU G xU] s.heap.size) s.heap s.heap [] := va_S.rf
  replace hl : lv_has ls 4 [(0, .ref (xO 0)), (1, .int l1), (2, .ref (xU 0))] := hl
  unfold fL_leaf at h
  refine lv_aload_n hx hb dL_leaf_0 rfl (lv_at hl 2 rfl) ?_
  refine lv_iconst (v := 0) hx hb dL_leaf_1 (by decide) ?_
  refine lv_aload_n hx hb dL_leaf_2 rfl (lv_at hl 0 rfl) ?_
  refine lv_iload_n hx hb dL_leaf_3 rfl (lv_at hl 1 rfl) ?_
  obtain ⟨oo, hg, hE, hI⟩ := zbx_e h
  refine z_callVX (As := [.int l1]) (rest := [.int ((0 : Int32)), .ref (xU 0)]) (i := 0) ⟨hx, hb, hml, hown, hts⟩ (mX6_leaf l hfl G (xO) hg) (cwV 1 hts gL_leaf_X6_leaf rfl rfl rfl kvX6_leaf ⟨Nat.le_of_ble_eq_true rfl, Nat.le_of_ble_eq_true rfl⟩) rfl hP hD hK hN hX hH hS (Nat.le_refl _) [0, 1] rfl rfl rfl (fun _ => rfl) rfl 0 rfl rfl rfl rfl rfl hl.1 rfl (Nat.le_of_ble_eq_true rfl) dL_leaf_4 ⟨Nat.le_of_ble_eq_true rfl, Nat.le_of_ble_eq_true rfl⟩ (fun E ce q9 H locs hoo hP hS hce hcv hcl => ?_) (fun x H locs hoo hP hS => ?_)
  · replace h := hE E hoo
    replace hP : zP G [shO G xO, shB G (ad 1 xO), shU G xU] [eO, eB, eU] H := hP
    by_cases hc0 : E = "java/lang/IndexOutOfBoundsException"
    · replace h := zt hc0 h
      subst hc0
      refine vx_catch (name := "java/lang/IndexOutOfBoundsException") hown [] ⟨0, 8, 11, 49⟩ [] hTab (fun _ h => absurd h List.not_mem_nil) (by decide) (by decide) (hts _ (List.mem_of_getElem? (i := 1) rfl)) (va_Nw.use rfl (hX.1 _ (by decide +kernel))) hce hcv hcl ?_
      refine lv_astore_n (lv' := [(3, .ref q9), (0, .ref (xO 0)), (1, .int l1), (2, .ref (xU 0))]) hx hb dL_leaf_11 rfl hl (by decide) rfl (fun ls hl => ?_)
      refine lv_iconst (v := 1) hx hb dL_leaf_12 (by decide) ?_
      cases h
      exact z_iretL hx hb hr hlk hP hS dL_leaf_13
    · replace h := zf hc0 h
      cases h
  · replace h := hI x hoo
    replace hP : zP G [shO G xO, shB G (ad 1 xO), shU G xU] [eO, eB, eU] H := hP
    refine tU_0 hx hb hK hP hD hS 2 (xU) rfl rfl (zvi tn_0 n0_0 (by decide)) tn_0 dL_leaf_7 (fun H locs hP hS => ?_)
    replace hP : zP G [shO G xO, shB G (ad 1 xO), shU G xU] [eO, eB, (sL eU 0 0 x)] H := hP
    refine lv_goto (tgt := 14) hx hb dL_leaf_8 (by decide) ?_
    refine lv_iconst (v := 0) hx hb dL_leaf_14 (by decide) ?_
    cases h
    exact z_iretL hx hb hr hlk hP hS dL_leaf_15
def rmL_head : Room := { frames := 7, cells := 1, slots := 6, locals := 114 }
theorem ksL_head : yL_head.cls ≠ "java/lang/invoke/MethodHandle" ∧ yL_head.cls ≠ "java/lang/invoke/VarHandle" ∧ (parseMethodDescriptor yL_head.desc).map (fun d => d.parameters.length) = some 3 := by decide +kernel
set_option maxRecDepth 20000 in
theorem mL_head (l : Launch) (hfl : l.stackTraces = false) (G : zG) (xO : Nat → Nat) (xU : Nat → Nat) {eO : zSt} {eB : zSt} {eU : zSt} {l1 : Int32} {rr : Int32} {vB : zSt} {vU : zSt} (h : fL_head eO eB eU l1 = some (rr, vB, vU)) : zCL l yL_head wsL_head rmL_head [.ref (xO 0), .int l1, .ref (xU 0)] G [shO G xO, shB G (ad 1 xO), shU G xU] [eO, eB, eU] [eO, vB, vU] (some (.int rr)) := by
  refine z_ofWL (cc := cL_head) (maxL := 4) (ret := some .int) (hh := [(0, 8, 11, 49)]) (by decide) rfl (Nat.le_of_ble_eq_true rfl) ?_
  intro p e s m args below meth c C0 hK hN hD hX hH hTab hP ls hl
  obtain ⟨hx, hb, hr, hml, hown, hts, hlk⟩ := id C0
  have hS : va_S (zA [shO G xO, shB G (ad 1 xO), shU G xU] s.heap.size) s.heap s.heap [] := va_S.rf
  replace hl : lv_has ls 4 [(0, .ref (xO 0)), (1, .int l1), (2, .ref (xU 0))] := hl
  unfold fL_head at h
  refine lv_aload_n hx hb dL_head_0 rfl (lv_at hl 2 rfl) ?_
  refine lv_iconst (v := 0) hx hb dL_head_1 (by decide) ?_
  refine lv_aload_n hx hb dL_head_2 rfl (lv_at hl 0 rfl) ?_
  refine lv_iload_n hx hb dL_head_3 rfl (lv_at hl 1 rfl) ?_
  obtain ⟨oo, hg, hE, hI⟩ := zbx_e h
  refine z_callVX (As := [.int l1]) (rest := [.int ((0 : Int32)), .ref (xU 0)]) (i := 0) ⟨hx, hb, hml, hown, hts⟩ (mX6_head l hfl G (xO) hg) (cwV 1 hts gL_head_X6_head rfl rfl rfl kvX6_head ⟨Nat.le_of_ble_eq_true rfl, Nat.le_of_ble_eq_true rfl⟩) rfl hP hD hK hN hX hH hS (Nat.le_refl _) [0, 1] rfl rfl rfl (fun _ => rfl) rfl 0 rfl rfl rfl rfl rfl hl.1 rfl (Nat.le_of_ble_eq_true rfl) dL_head_4 ⟨Nat.le_of_ble_eq_true rfl, Nat.le_of_ble_eq_true rfl⟩ (fun E ce q9 H locs hoo hP hS hce hcv hcl => ?_) (fun x H locs hoo hP hS => ?_)
  · replace h := hE E hoo
    replace hP : zP G [shO G xO, shB G (ad 1 xO), shU G xU] [eO, eB, eU] H := hP
    by_cases hc0 : E = "java/lang/IndexOutOfBoundsException"
    · replace h := zt hc0 h
      subst hc0
      refine vx_catch (name := "java/lang/IndexOutOfBoundsException") hown [] ⟨0, 8, 11, 49⟩ [] hTab (fun _ h => absurd h List.not_mem_nil) (by decide) (by decide) (hts _ (List.mem_of_getElem? (i := 1) rfl)) (va_Nw.use rfl (hX.1 _ (by decide +kernel))) hce hcv hcl ?_
      refine lv_astore_n (lv' := [(3, .ref q9), (0, .ref (xO 0)), (1, .int l1), (2, .ref (xU 0))]) hx hb dL_head_11 rfl hl (by decide) rfl (fun ls hl => ?_)
      refine lv_iconst (v := 1) hx hb dL_head_12 (by decide) ?_
      cases h
      exact z_iretL hx hb hr hlk hP hS dL_head_13
    · replace h := zf hc0 h
      cases h
  · replace h := hI x hoo
    replace hP : zP G [shO G xO, shB G (ad 1 xO), shU G xU] [eO, x.2, eU] H := hP
    refine tU_0 hx hb hK hP hD hS 2 (xU) rfl rfl (zvi tn_0 n0_0 (by decide)) tn_0 dL_head_7 (fun H locs hP hS => ?_)
    replace hP : zP G [shO G xO, shB G (ad 1 xO), shU G xU] [eO, x.2, (sL eU 0 0 x.1)] H := hP
    refine lv_goto (tgt := 14) hx hb dL_head_8 (by decide) ?_
    refine lv_iconst (v := 0) hx hb dL_head_14 (by decide) ?_
    cases h
    exact z_iretL hx hb hr hlk hP hS dL_head_15
def rmL_prove : Room := { frames := 7, cells := 1, slots := 6, locals := 165 }
theorem ksL_prove : yL_prove.cls ≠ "java/lang/invoke/MethodHandle" ∧ yL_prove.cls ≠ "java/lang/invoke/VarHandle" ∧ (parseMethodDescriptor yL_prove.desc).map (fun d => d.parameters.length) = some 4 := by decide +kernel
set_option maxRecDepth 20000 in
theorem mL_prove (l : Launch) (hfl : l.stackTraces = false) (G : zG) (xO : Nat → Nat) (xU : Nat → Nat) {eO : zSt} {eB : zSt} {eR : zSt} {eU : zSt} {l1 : Int32} {l2 : Int32} {rr : Int32} {vB : zSt} {vR : zSt} {vU : zSt} (h : fL_prove eO eB eR eU l1 l2 = some (rr, vB, vR, vU)) : zCL l yL_prove wsL_prove rmL_prove [.ref (xO 0), .int l1, .int l2, .ref (xU 0)] G [shO G xO, shB G (ad 1 xO), shR G (ad 34 xO), shU G xU] [eO, eB, eR, eU] [eO, vB, vR, vU] (some (.int rr)) := by
  refine z_ofWL (cc := cL_prove) (maxL := 5) (ret := some .int) (hh := [(0, 10, 13, 49)]) (by decide) rfl (Nat.le_of_ble_eq_true rfl) ?_
  intro p e s m args below meth c C0 hK hN hD hX hH hTab hP ls hl
  obtain ⟨hx, hb, hr, hml, hown, hts, hlk⟩ := id C0
  have hS : va_S (zA [shO G xO, shB G (ad 1 xO), shR G (ad 34 xO), shU G xU] s.heap.size) s.heap s.heap [] := va_S.rf
  replace hl : lv_has ls 5 [(0, .ref (xO 0)), (1, .int l1), (2, .int l2), (3, .ref (xU 0))] := hl
  unfold fL_prove at h
  refine lv_aload_n hx hb dL_prove_0 rfl (lv_at hl 3 rfl) ?_
  refine lv_iconst (v := 0) hx hb dL_prove_1 (by decide) ?_
  refine lv_aload_n hx hb dL_prove_2 rfl (lv_at hl 0 rfl) ?_
  refine lv_iload_n hx hb dL_prove_3 rfl (lv_at hl 1 rfl) ?_
  refine lv_iload_n hx hb dL_prove_4 rfl (lv_at hl 2 rfl) ?_
  obtain ⟨oo, hg, hE, hI⟩ := zbx_e h
  refine z_callVX (As := [.int l1, .int l2]) (rest := [.int ((0 : Int32)), .ref (xU 0)]) (i := 0) ⟨hx, hb, hml, hown, hts⟩ (mX6_prove l hfl G (xO) hg) (cwV 2 hts gL_prove_X6_prove rfl rfl rfl kvX6_prove ⟨Nat.le_of_ble_eq_true rfl, Nat.le_of_ble_eq_true rfl⟩) rfl hP hD hK hN hX hH hS (Nat.le_refl _) [0, 1, 2] rfl rfl rfl (fun _ => rfl) rfl 0 rfl rfl rfl rfl rfl hl.1 rfl (Nat.le_of_ble_eq_true rfl) dL_prove_5 ⟨Nat.le_of_ble_eq_true rfl, Nat.le_of_ble_eq_true rfl⟩ (fun E ce q9 H locs hoo hP hS hce hcv hcl => ?_) (fun x H locs hoo hP hS => ?_)
  · replace h := hE E hoo
    replace hP : zP G [shO G xO, shB G (ad 1 xO), shR G (ad 34 xO), shU G xU] [eO, eB, eR, eU] H := hP
    by_cases hc0 : E = "java/lang/IndexOutOfBoundsException"
    · replace h := zt hc0 h
      subst hc0
      refine vx_catch (name := "java/lang/IndexOutOfBoundsException") hown [] ⟨0, 10, 13, 49⟩ [] hTab (fun _ h => absurd h List.not_mem_nil) (by decide) (by decide) (hts _ (List.mem_of_getElem? (i := 1) rfl)) (va_Nw.use rfl (hX.1 _ (by decide +kernel))) hce hcv hcl ?_
      refine lv_astore (lv' := [(4, .ref q9), (0, .ref (xO 0)), (1, .int l1), (2, .int l2), (3, .ref (xU 0))]) hx hb dL_prove_13 hl (by decide) rfl (fun ls hl => ?_)
      refine lv_iconst (v := 1) hx hb dL_prove_15 (by decide) ?_
      cases h
      exact z_iretL hx hb hr hlk hP hS dL_prove_16
    · replace h := zf hc0 h
      cases h
  · replace h := hI x hoo
    replace hP : zP G [shO G xO, shB G (ad 1 xO), shR G (ad 34 xO), shU G xU] [eO, x.2.1, x.2.2, eU] H := hP
    refine lv_i2l (v := (x.1).toInt64) hx hb dL_prove_8 rfl ?_
    refine tU_0 hx hb hK hP hD hS 3 (xU) rfl rfl (zvi tn_0 n0_0 (by decide)) tn_0 dL_prove_9 (fun H locs hP hS => ?_)
    replace hP : zP G [shO G xO, shB G (ad 1 xO), shR G (ad 34 xO), shU G xU] [eO, x.2.1, x.2.2, (sL eU 0 0 (((x.1).toInt64)))] H := hP
    refine lv_goto (tgt := 17) hx hb dL_prove_10 (by decide) ?_
    refine lv_iconst (v := 0) hx hb dL_prove_17 (by decide) ?_
    cases h
    exact z_iretL hx hb hr hlk hP hS dL_prove_18
def rmL_relate : Room := { frames := 7, cells := 1, slots := 6, locals := 165 }
theorem ksL_relate : yL_relate.cls ≠ "java/lang/invoke/MethodHandle" ∧ yL_relate.cls ≠ "java/lang/invoke/VarHandle" ∧ (parseMethodDescriptor yL_relate.desc).map (fun d => d.parameters.length) = some 4 := by decide +kernel
set_option maxRecDepth 20000 in
theorem mL_relate (l : Launch) (hfl : l.stackTraces = false) (G : zG) (xO : Nat → Nat) (xU : Nat → Nat) {eO : zSt} {eB : zSt} {eR : zSt} {eU : zSt} {l1 : Int32} {l2 : Int32} {rr : Int32} {vB : zSt} {vR : zSt} {vU : zSt} (h : fL_relate eO eB eR eU l1 l2 = some (rr, vB, vR, vU)) : zCL l yL_relate wsL_relate rmL_relate [.ref (xO 0), .int l1, .int l2, .ref (xU 0)] G [shO G xO, shB G (ad 1 xO), shR G (ad 34 xO), shU G xU] [eO, eB, eR, eU] [eO, vB, vR, vU] (some (.int rr)) := by
  refine z_ofWL (cc := cL_relate) (maxL := 5) (ret := some .int) (hh := [(0, 10, 13, 49)]) (by decide) rfl (Nat.le_of_ble_eq_true rfl) ?_
  intro p e s m args below meth c C0 hK hN hD hX hH hTab hP ls hl
  obtain ⟨hx, hb, hr, hml, hown, hts, hlk⟩ := id C0
  have hS : va_S (zA [shO G xO, shB G (ad 1 xO), shR G (ad 34 xO), shU G xU] s.heap.size) s.heap s.heap [] := va_S.rf
  replace hl : lv_has ls 5 [(0, .ref (xO 0)), (1, .int l1), (2, .int l2), (3, .ref (xU 0))] := hl
  unfold fL_relate at h
  refine lv_aload_n hx hb dL_relate_0 rfl (lv_at hl 3 rfl) ?_
  refine lv_iconst (v := 0) hx hb dL_relate_1 (by decide) ?_
  refine lv_aload_n hx hb dL_relate_2 rfl (lv_at hl 0 rfl) ?_
  refine lv_iload_n hx hb dL_relate_3 rfl (lv_at hl 1 rfl) ?_
  refine lv_iload_n hx hb dL_relate_4 rfl (lv_at hl 2 rfl) ?_
  obtain ⟨oo, hg, hE, hI⟩ := zbx_e h
  refine z_callVX (As := [.int l1, .int l2]) (rest := [.int ((0 : Int32)), .ref (xU 0)]) (i := 0) ⟨hx, hb, hml, hown, hts⟩ (mX6_relate l hfl G (xO) hg) (cwV 2 hts gL_relate_X6_relate rfl rfl rfl kvX6_relate ⟨Nat.le_of_ble_eq_true rfl, Nat.le_of_ble_eq_true rfl⟩) rfl hP hD hK hN hX hH hS (Nat.le_refl _) [0, 1, 2] rfl rfl rfl (fun _ => rfl) rfl 0 rfl rfl rfl rfl rfl hl.1 rfl (Nat.le_of_ble_eq_true rfl) dL_relate_5 ⟨Nat.le_of_ble_eq_true rfl, Nat.le_of_ble_eq_true rfl⟩ (fun E ce q9 H locs hoo hP hS hce hcv hcl => ?_) (fun x H locs hoo hP hS => ?_)
  · replace h := hE E hoo
    replace hP : zP G [shO G xO, shB G (ad 1 xO), shR G (ad 34 xO), shU G xU] [eO, eB, eR, eU] H := hP
    by_cases hc0 : E = "java/lang/IndexOutOfBoundsException"
    · replace h := zt hc0 h
      subst hc0
      refine vx_catch (name := "java/lang/IndexOutOfBoundsException") hown [] ⟨0, 10, 13, 49⟩ [] hTab (fun _ h => absurd h List.not_mem_nil) (by decide) (by decide) (hts _ (List.mem_of_getElem? (i := 1) rfl)) (va_Nw.use rfl (hX.1 _ (by decide +kernel))) hce hcv hcl ?_
      refine lv_astore (lv' := [(4, .ref q9), (0, .ref (xO 0)), (1, .int l1), (2, .int l2), (3, .ref (xU 0))]) hx hb dL_relate_13 hl (by decide) rfl (fun ls hl => ?_)
      refine lv_iconst (v := 1) hx hb dL_relate_15 (by decide) ?_
      cases h
      exact z_iretL hx hb hr hlk hP hS dL_relate_16
    · replace h := zf hc0 h
      cases h
  · replace h := hI x hoo
    replace hP : zP G [shO G xO, shB G (ad 1 xO), shR G (ad 34 xO), shU G xU] [eO, x.2.1, x.2.2, eU] H := hP
    refine lv_i2l (v := (x.1).toInt64) hx hb dL_relate_8 rfl ?_
    refine tU_0 hx hb hK hP hD hS 3 (xU) rfl rfl (zvi tn_0 n0_0 (by decide)) tn_0 dL_relate_9 (fun H locs hP hS => ?_)
    replace hP : zP G [shO G xO, shB G (ad 1 xO), shR G (ad 34 xO), shU G xU] [eO, x.2.1, x.2.2, (sL eU 0 0 (((x.1).toInt64)))] H := hP
    refine lv_goto (tgt := 17) hx hb dL_relate_10 (by decide) ?_
    refine lv_iconst (v := 0) hx hb dL_relate_17 (by decide) ?_
    cases h
    exact z_iretL hx hb hr hlk hP hS dL_relate_18
def rmL_proof : Room := { frames := 7, cells := 1, slots := 6, locals := 111 }
theorem ksL_proof : yL_proof.cls ≠ "java/lang/invoke/MethodHandle" ∧ yL_proof.cls ≠ "java/lang/invoke/VarHandle" ∧ (parseMethodDescriptor yL_proof.desc).map (fun d => d.parameters.length) = some 3 := by decide +kernel
set_option maxRecDepth 20000 in
theorem mL_proof (l : Launch) (hfl : l.stackTraces = false) (G : zG) (xO : Nat → Nat) (xU : Nat → Nat) {eO : zSt} {eR : zSt} {eU : zSt} {l1 : Int32} {rr : Int32} {vU : zSt} (h : fL_proof eO eR eU l1 = some (rr, vU)) : zCL l yL_proof wsL_proof rmL_proof [.ref (xO 0), .int l1, .ref (xU 0)] G [shO G xO, shR G (ad 34 xO), shU G xU] [eO, eR, eU] [eO, eR, vU] (some (.int rr)) := by
  refine z_ofWL (cc := cL_proof) (maxL := 4) (ret := some .int) (hh := [(0, 8, 11, 49)]) (by decide) rfl (Nat.le_of_ble_eq_true rfl) ?_
  intro p e s m args below meth c C0 hK hN hD hX hH hTab hP ls hl
  obtain ⟨hx, hb, hr, hml, hown, hts, hlk⟩ := id C0
  have hS : va_S (zA [shO G xO, shR G (ad 34 xO), shU G xU] s.heap.size) s.heap s.heap [] := va_S.rf
  replace hl : lv_has ls 4 [(0, .ref (xO 0)), (1, .int l1), (2, .ref (xU 0))] := hl
  unfold fL_proof at h
  refine lv_aload_n hx hb dL_proof_0 rfl (lv_at hl 2 rfl) ?_
  refine lv_iconst (v := 0) hx hb dL_proof_1 (by decide) ?_
  refine lv_aload_n hx hb dL_proof_2 rfl (lv_at hl 0 rfl) ?_
  refine lv_iload_n hx hb dL_proof_3 rfl (lv_at hl 1 rfl) ?_
  obtain ⟨oo, hg, hE, hI⟩ := zbx_e h
  refine z_callVX (As := [.int l1]) (rest := [.int ((0 : Int32)), .ref (xU 0)]) (i := 0) ⟨hx, hb, hml, hown, hts⟩ (mX6_proof l hfl G (xO) hg) (cwV 1 hts gL_proof_X6_proof rfl rfl rfl kvX6_proof ⟨Nat.le_of_ble_eq_true rfl, Nat.le_of_ble_eq_true rfl⟩) rfl hP hD hK hN hX hH hS (Nat.le_refl _) [0, 1] rfl rfl rfl (fun _ => rfl) rfl 0 rfl rfl rfl rfl rfl hl.1 rfl (Nat.le_of_ble_eq_true rfl) dL_proof_4 ⟨Nat.le_of_ble_eq_true rfl, Nat.le_of_ble_eq_true rfl⟩ (fun E ce q9 H locs hoo hP hS hce hcv hcl => ?_) (fun x H locs hoo hP hS => ?_)
  · replace h := hE E hoo
    replace hP : zP G [shO G xO, shR G (ad 34 xO), shU G xU] [eO, eR, eU] H := hP
    by_cases hc0 : E = "java/lang/IndexOutOfBoundsException"
    · replace h := zt hc0 h
      subst hc0
      refine vx_catch (name := "java/lang/IndexOutOfBoundsException") hown [] ⟨0, 8, 11, 49⟩ [] hTab (fun _ h => absurd h List.not_mem_nil) (by decide) (by decide) (hts _ (List.mem_of_getElem? (i := 1) rfl)) (va_Nw.use rfl (hX.1 _ (by decide +kernel))) hce hcv hcl ?_
      refine lv_astore_n (lv' := [(3, .ref q9), (0, .ref (xO 0)), (1, .int l1), (2, .ref (xU 0))]) hx hb dL_proof_11 rfl hl (by decide) rfl (fun ls hl => ?_)
      refine lv_iconst (v := 1) hx hb dL_proof_12 (by decide) ?_
      cases h
      exact z_iretL hx hb hr hlk hP hS dL_proof_13
    · replace h := zf hc0 h
      cases h
  · replace h := hI x hoo
    replace hP : zP G [shO G xO, shR G (ad 34 xO), shU G xU] [eO, eR, eU] H := hP
    refine tU_0 hx hb hK hP hD hS 2 (xU) rfl rfl (zvi tn_0 n0_0 (by decide)) tn_0 dL_proof_7 (fun H locs hP hS => ?_)
    replace hP : zP G [shO G xO, shR G (ad 34 xO), shU G xU] [eO, eR, (sL eU 0 0 x)] H := hP
    refine lv_goto (tgt := 14) hx hb dL_proof_8 (by decide) ?_
    refine lv_iconst (v := 0) hx hb dL_proof_14 (by decide) ?_
    cases h
    exact z_iretL hx hb hr hlk hP hS dL_proof_15
