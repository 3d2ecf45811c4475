theorem zfit_55 : Bundle.fit "java/lang/IllegalArgumentException" = true := by decide +kernel
theorem zg2_55 : ∀ w ∈ (vx_atS RX6 55 "java/lang/IllegalArgumentException" zSup).filter (fun w => !goodWord w), w ∈ zXw := by decide +kernel
theorem zg3_55 : ∀ w ∈ Cond.classLink RX6 51 "java/lang/IllegalArgumentException" :: Cond.initialized "java/lang/IllegalArgumentException" :: vx_atS RX6 55 "java/lang/IllegalArgumentException" zSup, vx_ot w = true := by decide +kernel
theorem zfit_89 : Bundle.fit "java/lang/IllegalStateException" = true := by decide +kernel
theorem zg2_89 : ∀ w ∈ (vx_atS RX6 89 "java/lang/IllegalStateException" zSup).filter (fun w => !goodWord w), w ∈ zXw := by decide +kernel
theorem zg3_89 : ∀ w ∈ Cond.classLink RX6 85 "java/lang/IllegalStateException" :: Cond.initialized "java/lang/IllegalStateException" :: vx_atS RX6 89 "java/lang/IllegalStateException" zSup, vx_ot w = true := by decide +kernel
theorem zfit_97 : Bundle.fit "java/lang/UnsupportedOperationException" = true := by decide +kernel
theorem zg2_97 : ∀ w ∈ (vx_atS RX6 97 "java/lang/UnsupportedOperationException" zSup).filter (fun w => !goodWord w), w ∈ zXw := by decide +kernel
theorem zg3_97 : ∀ w ∈ Cond.classLink RX6 93 "java/lang/UnsupportedOperationException" :: Cond.initialized "java/lang/UnsupportedOperationException" :: vx_atS RX6 97 "java/lang/UnsupportedOperationException" zSup, vx_ot w = true := by decide +kernel
theorem zfit_184 : Bundle.fit "java/lang/IndexOutOfBoundsException" = true := by decide +kernel
theorem zg2_184 : ∀ w ∈ (vx_atS RX6 184 "java/lang/IndexOutOfBoundsException" zSup).filter (fun w => !goodWord w), w ∈ zXw := by decide +kernel
theorem zg3_184 : ∀ w ∈ Cond.classLink RX6 180 "java/lang/IndexOutOfBoundsException" :: Cond.initialized "java/lang/IndexOutOfBoundsException" :: vx_atS RX6 184 "java/lang/IndexOutOfBoundsException" zSup, vx_ot w = true := by decide +kernel
def rmX6_begin : Room := { frames := 6, cells := 1, slots := 6, locals := 90 }
theorem kvX6_begin : yX6_begin.cls = RX6 ∧ yX6_begin.cls ≠ "java/lang/invoke/MethodHandle" ∧ yX6_begin.cls ≠ "java/lang/invoke/VarHandle" ∧ (parseMethodDescriptor yX6_begin.desc).map (fun d => d.parameters.length) = some 3 := by decide +kernel
section
variable {p : Program} {l : Launch} {e : Env} {s : State} {m : MethodId} {args : Array Value} {below : List Frame} {meth : Method} {c : Code} {G : zG} {xO : Nat → Nat} {vO : zSt} {vB : zSt} {vP : zSt} {oo : String ⊕ (zSt × zSt × zSt)} {eO : zSt} {eB : zSt} {eP : zSt}
set_option maxRecDepth 20000 in
theorem mX6_begin (l : Launch) (hfl : l.stackTraces = false) (G : zG) (xO : Nat → Nat) {eO : zSt} {eB : zSt} {eP : zSt} {l1 : Int32} {l2 : Int32} {l3 : Int32} {oo : String ⊕ (zSt × zSt × zSt)} (h : fX6_begin eO eB eP l1 l2 l3 = some oo) : zCX l yX6_begin wsX6_begin rmX6_begin [.ref (xO 0), .int l1, .int l2, .int l3] G [shO G xO, shB G (ad 1 xO), shP G (ad 5 xO)] [eO, eB, eP] oo (fun _ => none) (fun x => [x.1, x.2.1, x.2.2]) := by
  refine z_ofWX (cc := cX6_begin) (maxL := 4) (ret := none) (by decide) rfl (Nat.le_of_ble_eq_true rfl) ?_
  intro p e s m args below meth c C0 hK hN hD hX hH hT hP ls hl
  obtain ⟨hx, hb, hr, hml, hown, hts, hlk⟩ := id C0
  have hS : va_S (zA [shO G xO, shB G (ad 1 xO), shP G (ad 5 xO)] s.heap.size) s.heap s.heap [] := va_S.rf
  replace hl : lv_has ls 4 [(0, .ref (xO 0)), (1, .int l1), (2, .int l2), (3, .int l3)] := hl
  have hwX4 : ∀ w ∈ wsX40, w.before args s = true := fun w h => hts w (List.mem_cons_of_mem _ (List.mem_append_left _ (List.mem_append_left _ (List.mem_append_right _ h))))
  have hwX6 : ∀ w ∈ wsX60, w.before args s = true := fun w h => hts w (List.mem_cons_of_mem _ (List.mem_append_left _ (List.mem_append_left _ (List.mem_append_left _ (List.mem_append_right _ h)))))
  unfold fX6_begin at h
  refine lv_iload_n hx hb dX6_begin_0 rfl (lv_at hl 1 rfl) ?_
  obtain ⟨r_1, hg, h⟩ := zb1_e h
  refine z_callS (As := [.int l1]) (rest := []) ⟨hx, hb, hml, hown, hts⟩ (mX3_isNumber l G  hg) (va_cwS 1 hts gX6_begin_X3_isNumber rfl rfl rfl ksX3_isNumber ⟨Nat.le_of_ble_eq_true rfl, Nat.le_of_ble_eq_true rfl⟩) hP hD hK hN hS (Nat.le_refl _) [] rfl rfl rfl rfl rfl hl.1 rfl (Nat.le_of_ble_eq_true rfl) dX6_begin_1 ⟨Nat.zero_le _, Nat.zero_le _⟩ (fun H locs hP hS => ?_)
  replace hP : zP G [shO G xO, shB G (ad 1 xO), shP G (ad 5 xO)] [eO, eB, eP] H := hP
  refine lv_if_eq (tgt := 21) hx hb dX6_begin_4 (by decide) (fun hc => ?_) (fun hc => ?_)
  · replace h := zt hc h
    cases h
    exact z_throw (own := RX6) (is := 53) hx hb hfl hown zfit_55 z_sup (hts _ (List.mem_of_getElem? (i := 1) rfl)) (hts _ (List.mem_of_getElem? (i := 2) rfl)) (hX.2.2.2 (53, "a secret is no number") (List.mem_of_getElem? (i := 0) rfl)) (fun w h => hts w (List.mem_cons_of_mem _ (List.mem_append_right _ h))) zg2_55 hX zg3_55 hH hP hS (hl.1.trans hml.symm) dX6_begin_21 dX6_begin_24 dX6_begin_25 dX6_begin_27 dX6_begin_30 hT ⟨Nat.le_of_ble_eq_true rfl, Nat.le_of_ble_eq_true rfl, Nat.le_of_ble_eq_true rfl, Nat.le_of_ble_eq_true rfl⟩ hlk rfl
  · replace h := zf hc h
    refine lv_iload_n hx hb dX6_begin_7 rfl (lv_at hl 2 rfl) ?_
    obtain ⟨r_2, hg, h⟩ := zb1_e h
    refine z_callS (As := [.int l2]) (rest := []) ⟨hx, hb, hml, hown, hts⟩ (mX3_isNumber l G  hg) (va_cwS 1 hts gX6_begin_X3_isNumber rfl rfl rfl ksX3_isNumber ⟨Nat.le_of_ble_eq_true rfl, Nat.le_of_ble_eq_true rfl⟩) hP hD hK hN hS (Nat.le_refl _) [] rfl rfl rfl rfl rfl hl.1 rfl (Nat.le_of_ble_eq_true rfl) dX6_begin_8 ⟨Nat.zero_le _, Nat.zero_le _⟩ (fun H locs hP hS => ?_)
    replace hP : zP G [shO G xO, shB G (ad 1 xO), shP G (ad 5 xO)] [eO, eB, eP] H := hP
    refine lv_if_eq (tgt := 21) hx hb dX6_begin_11 (by decide) (fun hc => ?_) (fun hc => ?_)
    · replace h := zt hc h
      cases h
      exact z_throw (own := RX6) (is := 53) hx hb hfl hown zfit_55 z_sup (hts _ (List.mem_of_getElem? (i := 1) rfl)) (hts _ (List.mem_of_getElem? (i := 2) rfl)) (hX.2.2.2 (53, "a secret is no number") (List.mem_of_getElem? (i := 0) rfl)) (fun w h => hts w (List.mem_cons_of_mem _ (List.mem_append_right _ h))) zg2_55 hX zg3_55 hH hP hS (hl.1.trans hml.symm) dX6_begin_21 dX6_begin_24 dX6_begin_25 dX6_begin_27 dX6_begin_30 hT ⟨Nat.le_of_ble_eq_true rfl, Nat.le_of_ble_eq_true rfl, Nat.le_of_ble_eq_true rfl, Nat.le_of_ble_eq_true rfl⟩ hlk rfl
    · replace h := zf hc h
      refine lv_iload_n hx hb dX6_begin_14 rfl (lv_at hl 3 rfl) ?_
      obtain ⟨r_3, hg, h⟩ := zb1_e h
      refine z_callS (As := [.int l3]) (rest := []) ⟨hx, hb, hml, hown, hts⟩ (mX3_isNumber l G  hg) (va_cwS 1 hts gX6_begin_X3_isNumber rfl rfl rfl ksX3_isNumber ⟨Nat.le_of_ble_eq_true rfl, Nat.le_of_ble_eq_true rfl⟩) hP hD hK hN hS (Nat.le_refl _) [] rfl rfl rfl rfl rfl hl.1 rfl (Nat.le_of_ble_eq_true rfl) dX6_begin_15 ⟨Nat.zero_le _, Nat.zero_le _⟩ (fun H locs hP hS => ?_)
      replace hP : zP G [shO G xO, shB G (ad 1 xO), shP G (ad 5 xO)] [eO, eB, eP] H := hP
      refine lv_if_ne (tgt := 31) hx hb dX6_begin_18 (by decide) (fun hc => ?_) (fun hc => ?_)
      · replace h := zf hc h
        refine lv_aload_n hx hb dX6_begin_31 rfl (lv_at hl 0 rfl) ?_
        refine rO_4 hx hb hwX6 hown hK hP 0 (xO) rfl rfl (hts _ (List.mem_of_getElem? (i := 3) rfl)) dX6_begin_32 ?_
        refine lv_iconst (v := 0) hx hb dX6_begin_35 (by decide) ?_
        refine lv_iload_n hx hb dX6_begin_36 rfl (lv_at hl 1 rfl) ?_
        refine tO_4 hx hb hK hP hD hS 0 (xO) rfl rfl (zvi tn_0 n0_0 (by decide)) tn_0 dX6_begin_37 (fun H locs hP hS => ?_)
        replace hP : zP G [shO G xO, shB G (ad 1 xO), shP G (ad 5 xO)] [(sA eO 4 0 l1), eB, eP] H := hP
        refine lv_aload_n hx hb dX6_begin_38 rfl (lv_at hl 0 rfl) ?_
        refine rO_4 hx hb hwX6 hown hK hP 0 (xO) rfl rfl (hts _ (List.mem_of_getElem? (i := 3) rfl)) dX6_begin_39 ?_
        refine lv_iconst (v := 1) hx hb dX6_begin_42 (by decide) ?_
        refine lv_iload_n hx hb dX6_begin_43 rfl (lv_at hl 2 rfl) ?_
        refine tO_4 hx hb hK hP hD hS 0 (xO) rfl rfl (zvi tn_1 n0_1 (by decide)) tn_1 dX6_begin_44 (fun H locs hP hS => ?_)
        replace hP : zP G [shO G xO, shB G (ad 1 xO), shP G (ad 5 xO)] [(sA ((sA eO 4 0 l1)) 4 1 l2), eB, eP] H := hP
        refine lv_aload_n hx hb dX6_begin_45 rfl (lv_at hl 0 rfl) ?_
        refine rO_4 hx hb hwX6 hown hK hP 0 (xO) rfl rfl (hts _ (List.mem_of_getElem? (i := 3) rfl)) dX6_begin_46 ?_
        refine lv_iconst (v := 2) hx hb dX6_begin_49 (by decide) ?_
        refine lv_iload_n hx hb dX6_begin_50 rfl (lv_at hl 3 rfl) ?_
        refine tO_4 hx hb hK hP hD hS 0 (xO) rfl rfl (zvi tn_2 n0_2 (by decide)) tn_2 dX6_begin_51 (fun H locs hP hS => ?_)
        replace hP : zP G [shO G xO, shB G (ad 1 xO), shP G (ad 5 xO)] [(sA ((sA ((sA eO 4 0 l1)) 4 1 l2)) 4 2 l3), eB, eP] H := hP
        refine lv_aload_n hx hb dX6_begin_52 rfl (lv_at hl 0 rfl) ?_
        refine rO_1 hx hb hwX6 hown hK hP 0 (xO) rfl rfl (hts _ (List.mem_of_getElem? (i := 4) rfl)) dX6_begin_53 ?_
        refine lv_iload_n hx hb dX6_begin_56 rfl (lv_at hl 1 rfl) ?_
        obtain ⟨r_4, hg, h⟩ := zb1_e h
        refine z_callS (As := [.int l1]) (rest := [.ref ((ad 5 xO) 0)]) ⟨hx, hb, hml, hown, hts⟩ (mX3_ofBase l G  hg) (va_cwS 1 hts gX6_begin_X3_ofBase rfl rfl rfl ksX3_ofBase ⟨Nat.le_of_ble_eq_true rfl, Nat.le_of_ble_eq_true rfl⟩) hP hD hK hN hS (Nat.le_refl _) [] rfl rfl rfl rfl rfl hl.1 rfl (Nat.le_of_ble_eq_true rfl) dX6_begin_57 ⟨Nat.zero_le _, Nat.zero_le _⟩ (fun H locs hP hS => ?_)
        replace hP : zP G [shO G xO, shB G (ad 1 xO), shP G (ad 5 xO)] [(sA ((sA ((sA eO 4 0 l1)) 4 1 l2)) 4 2 l3), eB, eP] H := hP
        refine lv_iload_n hx hb dX6_begin_60 rfl (lv_at hl 2 rfl) ?_
        obtain ⟨r_5, hg, h⟩ := zb1_e h
        refine z_callS (As := [.int l2]) (rest := [.int r_4, .ref ((ad 5 xO) 0)]) ⟨hx, hb, hml, hown, hts⟩ (mX3_ofBase l G  hg) (va_cwS 1 hts gX6_begin_X3_ofBase rfl rfl rfl ksX3_ofBase ⟨Nat.le_of_ble_eq_true rfl, Nat.le_of_ble_eq_true rfl⟩) hP hD hK hN hS (Nat.le_refl _) [] rfl rfl rfl rfl rfl hl.1 rfl (Nat.le_of_ble_eq_true rfl) dX6_begin_61 ⟨Nat.zero_le _, Nat.zero_le _⟩ (fun H locs hP hS => ?_)
        replace hP : zP G [shO G xO, shB G (ad 1 xO), shP G (ad 5 xO)] [(sA ((sA ((sA eO 4 0 l1)) 4 1 l2)) 4 2 l3), eB, eP] H := hP
        refine lv_iload_n hx hb dX6_begin_64 rfl (lv_at hl 3 rfl) ?_
        obtain ⟨r_6, hg, h⟩ := zb1_e h
        refine z_callS (As := [.int l3]) (rest := [.int r_5, .int r_4, .ref ((ad 5 xO) 0)]) ⟨hx, hb, hml, hown, hts⟩ (mX3_ofBase l G  hg) (va_cwS 1 hts gX6_begin_X3_ofBase rfl rfl rfl ksX3_ofBase ⟨Nat.le_of_ble_eq_true rfl, Nat.le_of_ble_eq_true rfl⟩) hP hD hK hN hS (Nat.le_refl _) [] rfl rfl rfl rfl rfl hl.1 rfl (Nat.le_of_ble_eq_true rfl) dX6_begin_65 ⟨Nat.zero_le _, Nat.zero_le _⟩ (fun H locs hP hS => ?_)
        replace hP : zP G [shO G xO, shB G (ad 1 xO), shP G (ad 5 xO)] [(sA ((sA ((sA eO 4 0 l1)) 4 1 l2)) 4 2 l3), eB, eP] H := hP
        obtain ⟨uP_7, hg, h⟩ := zb1_e h
        refine z_callV (As := [.int r_4, .int r_5, .int r_6]) (rest := []) (i := 0) ⟨hx, hb, hml, hown, hts⟩ (mX4_start l G (ad 5 xO) hg) (cwV 3 hts gX6_begin_X4_start rfl rfl rfl kvX4_start ⟨Nat.le_of_ble_eq_true rfl, Nat.le_of_ble_eq_true rfl⟩) rfl hP hD hK hN hS (Nat.le_refl _) [2] rfl rfl rfl rfl 2 rfl rfl rfl rfl rfl hl.1 rfl (Nat.le_of_ble_eq_true rfl) dX6_begin_68 ⟨Nat.zero_le _, Nat.zero_le _⟩ (fun H locs hP hS => ?_)
        replace hP : zP G [shO G xO, shB G (ad 1 xO), shP G (ad 5 xO)] [(sA ((sA ((sA eO 4 0 l1)) 4 1 l2)) 4 2 l3), eB, uP_7] H := hP
        refine lv_aload_n hx hb dX6_begin_71 rfl (lv_at hl 0 rfl) ?_
        refine rO_0 hx hb hwX6 hown hK hP 0 (xO) rfl rfl (hts _ (List.mem_of_getElem? (i := 5) rfl)) dX6_begin_72 ?_
        obtain ⟨uB_8, hg, h⟩ := zb1_e h
        refine z_callV (As := []) (rest := []) (i := 0) ⟨hx, hb, hml, hown, hts⟩ (mX1_empty l G (ad 1 xO) hg) (cwV 0 hts gX6_begin_X1_empty rfl rfl rfl kvX1_empty ⟨Nat.le_of_ble_eq_true rfl, Nat.le_of_ble_eq_true rfl⟩) rfl hP hD hK hN hS (Nat.le_refl _) [1] rfl rfl rfl rfl 1 rfl rfl rfl rfl rfl hl.1 rfl (Nat.le_of_ble_eq_true rfl) dX6_begin_75 ⟨Nat.zero_le _, Nat.zero_le _⟩ (fun H locs hP hS => ?_)
        replace hP : zP G [shO G xO, shB G (ad 1 xO), shP G (ad 5 xO)] [(sA ((sA ((sA eO 4 0 l1)) 4 1 l2)) 4 2 l3), uB_8, uP_7] H := hP
        refine lv_aload_n hx hb dX6_begin_78 rfl (lv_at hl 0 rfl) ?_
        refine rO_0 hx hb hwX6 hown hK hP 0 (xO) rfl rfl (hts _ (List.mem_of_getElem? (i := 5) rfl)) dX6_begin_79 ?_
        refine lv_iconst (v := 0) hx hb dX6_begin_82 (by decide) ?_
        refine lv_aload_n hx hb dX6_begin_83 rfl (lv_at hl 0 rfl) ?_
        refine rO_1 hx hb hwX6 hown hK hP 0 (xO) rfl rfl (hts _ (List.mem_of_getElem? (i := 4) rfl)) dX6_begin_84 ?_
        refine rNP_0 hx hb hwX4 hown hK hP 2 (ad 5 xO) rfl rfl (hN.f (List.mem_of_getElem? (i := 2) rfl)) dX6_begin_87 ?_
        refine lv_iconst (v := 0) hx hb dX6_begin_90 (by decide) ?_
        refine aP_0 hx hb hK hP 2 (ad 5 xO) rfl rfl (zvi tn_0 n0_0 (by decide)) tn_0 dX6_begin_91 ?_
        refine lv_aload_n hx hb dX6_begin_92 rfl (lv_at hl 0 rfl) ?_
        refine rO_1 hx hb hwX6 hown hK hP 0 (xO) rfl rfl (hts _ (List.mem_of_getElem? (i := 4) rfl)) dX6_begin_93 ?_
        refine rNP_0 hx hb hwX4 hown hK hP 2 (ad 5 xO) rfl rfl (hN.f (List.mem_of_getElem? (i := 2) rfl)) dX6_begin_96 ?_
        refine lv_iconst (v := 1) hx hb dX6_begin_99 (by decide) ?_
        refine aP_0 hx hb hK hP 2 (ad 5 xO) rfl rfl (zvi tn_1 n0_1 (by decide)) tn_1 dX6_begin_100 ?_
        refine lv_aload_n hx hb dX6_begin_101 rfl (lv_at hl 0 rfl) ?_
        refine rO_1 hx hb hwX6 hown hK hP 0 (xO) rfl rfl (hts _ (List.mem_of_getElem? (i := 4) rfl)) dX6_begin_102 ?_
        refine rNP_0 hx hb hwX4 hown hK hP 2 (ad 5 xO) rfl rfl (hN.f (List.mem_of_getElem? (i := 2) rfl)) dX6_begin_105 ?_
        refine lv_iconst (v := 2) hx hb dX6_begin_108 (by decide) ?_
        refine aP_0 hx hb hK hP 2 (ad 5 xO) rfl rfl (zvi tn_2 n0_2 (by decide)) tn_2 dX6_begin_109 ?_
        obtain ⟨r_9, uB_10, hg, h⟩ := zb2_e h
        refine z_callV (As := [.int ((0 : Int32)), .int ((gA uP_7 0 0)), .int ((gA uP_7 0 1)), .int ((gA uP_7 0 2))]) (rest := []) (i := 0) ⟨hx, hb, hml, hown, hts⟩ (mX1_put l G (ad 1 xO) hg) (cwV 4 hts gX6_begin_X1_put rfl rfl rfl kvX1_put ⟨Nat.le_of_ble_eq_true rfl, Nat.le_of_ble_eq_true rfl⟩) rfl hP hD hK hN hS (Nat.le_refl _) [1] rfl rfl rfl rfl 1 rfl rfl rfl rfl rfl hl.1 rfl (Nat.le_of_ble_eq_true rfl) dX6_begin_110 ⟨Nat.zero_le _, Nat.zero_le _⟩ (fun H locs hP hS => ?_)
        replace hP : zP G [shO G xO, shB G (ad 1 xO), shP G (ad 5 xO)] [(sA ((sA ((sA eO 4 0 l1)) 4 1 l2)) 4 2 l3), uB_10, uP_7] H := hP
        refine lv_pop hx hb dX6_begin_113 rfl ?_
        refine lv_aload_n hx hb dX6_begin_114 rfl (lv_at hl 0 rfl) ?_
        refine lv_iconst (v := 1) hx hb dX6_begin_115 (by decide) ?_
        refine pO_5 hx hb hwX6 hown hK hP hD hS 0 (xO) rfl rfl (hts _ (List.mem_of_getElem? (i := 6) rfl)) dX6_begin_116 (fun H locs hP hS => ?_)
        replace hP : zP G [shO G xO, shB G (ad 1 xO), shP G (ad 5 xO)] [(sI ((sA ((sA ((sA eO 4 0 l1)) 4 1 l2)) 4 2 l3)) 5 ((1 : Int32))), uB_10, uP_7] H := hP
        cases h
        exact z_vretX (x := ((sI ((sA ((sA ((sA eO 4 0 l1)) 4 1 l2)) 4 2 l3)) 5 ((1 : Int32))), uB_10, uP_7)) hx hb hr hlk rfl rfl hP hS dX6_begin_119
      · replace h := zt hc h
        cases h
        exact z_throw (own := RX6) (is := 53) hx hb hfl hown zfit_55 z_sup (hts _ (List.mem_of_getElem? (i := 1) rfl)) (hts _ (List.mem_of_getElem? (i := 2) rfl)) (hX.2.2.2 (53, "a secret is no number") (List.mem_of_getElem? (i := 0) rfl)) (fun w h => hts w (List.mem_cons_of_mem _ (List.mem_append_right _ h))) zg2_55 hX zg3_55 hH hP hS (hl.1.trans hml.symm) dX6_begin_21 dX6_begin_24 dX6_begin_25 dX6_begin_27 dX6_begin_30 hT ⟨Nat.le_of_ble_eq_true rfl, Nat.le_of_ble_eq_true rfl, Nat.le_of_ble_eq_true rfl, Nat.le_of_ble_eq_true rfl⟩ hlk rfl
end
def rmX6_register : Room := { frames := 6, cells := 1, slots := 6, locals := 90 }
theorem kvX6_register : yX6_register.cls = RX6 ∧ yX6_register.cls ≠ "java/lang/invoke/MethodHandle" ∧ yX6_register.cls ≠ "java/lang/invoke/VarHandle" ∧ (parseMethodDescriptor yX6_register.desc).map (fun d => d.parameters.length) = some 1 := by decide +kernel
section
variable {p : Program} {l : Launch} {e : Env} {s : State} {m : MethodId} {args : Array Value} {below : List Frame} {meth : Method} {c : Code} {G : zG} {xO : Nat → Nat} {vB : zSt} {vP : zSt} {oo : String ⊕ (zSt × zSt)} {eO : zSt} {eB : zSt} {eP : zSt}
set_option maxRecDepth 20000 in
theorem mX6_register (l : Launch) (hfl : l.stackTraces = false) (G : zG) (xO : Nat → Nat) {eO : zSt} {eB : zSt} {eP : zSt} {l1 : Int32} {oo : String ⊕ (zSt × zSt)} (h : fX6_register eO eB eP l1 = some oo) : zCX l yX6_register wsX6_register rmX6_register [.ref (xO 0), .int l1] G [shO G xO, shB G (ad 1 xO), shP G (ad 5 xO)] [eO, eB, eP] oo (fun _ => none) (fun x => [eO, x.1, x.2]) := by
  refine z_ofWX (cc := cX6_register) (maxL := 2) (ret := none) (by decide) rfl (Nat.le_of_ble_eq_true rfl) ?_
  intro p e s m args below meth c C0 hK hN hD hX hH hT hP ls hl
  obtain ⟨hx, hb, hr, hml, hown, hts, hlk⟩ := id C0
  have hS : va_S (zA [shO G xO, shB G (ad 1 xO), shP G (ad 5 xO)] s.heap.size) s.heap s.heap [] := va_S.rf
  replace hl : lv_has ls 2 [(0, .ref (xO 0)), (1, .int l1)] := hl
  have hwX4 : ∀ w ∈ wsX40, w.before args s = true := fun w h => hts w (List.mem_cons_of_mem _ (List.mem_append_left _ (List.mem_append_left _ (List.mem_append_left _ (List.mem_append_left _ (List.mem_append_right _ h))))))
  have hwX6 : ∀ w ∈ wsX60, w.before args s = true := fun w h => hts w (List.mem_cons_of_mem _ (List.mem_append_left _ (List.mem_append_left _ (List.mem_append_left _ (List.mem_append_left _ (List.mem_append_left _ (List.mem_append_right _ h)))))))
  unfold fX6_register at h
  refine lv_iload_n hx hb dX6_register_0 rfl (lv_at hl 1 rfl) ?_
  obtain ⟨r_1, hg, h⟩ := zb1_e h
  refine z_callS (As := [.int l1]) (rest := []) ⟨hx, hb, hml, hown, hts⟩ (mX6_isVoter l G  hg) (va_cwS 1 hts gX6_register_X6_isVoter rfl rfl rfl ksX6_isVoter ⟨Nat.le_of_ble_eq_true rfl, Nat.le_of_ble_eq_true rfl⟩) hP hD hK hN hS (Nat.le_refl _) [] rfl rfl rfl rfl rfl hl.1 rfl (Nat.le_of_ble_eq_true rfl) dX6_register_1 ⟨Nat.zero_le _, Nat.zero_le _⟩ (fun H locs hP hS => ?_)
  replace hP : zP G [shO G xO, shB G (ad 1 xO), shP G (ad 5 xO)] [eO, eB, eP] H := hP
  refine lv_if_ne (tgt := 17) hx hb dX6_register_4 (by decide) (fun hc => ?_) (fun hc => ?_)
  · replace h := zf hc h
    refine lv_aload_n hx hb dX6_register_17 rfl (lv_at hl 0 rfl) ?_
    refine rO_5 hx hb hwX6 hown hK hP 0 (xO) rfl rfl (hts _ (List.mem_of_getElem? (i := 7) rfl)) dX6_register_18 ?_
    refine lv_iconst (v := 1) hx hb dX6_register_21 (by decide) ?_
    refine lv_icmp_ne (tgt := 37) hx hb dX6_register_22 (by decide) (fun hc => ?_) (fun hc => ?_)
    · replace h := zf hc h
      cases h
      exact z_throw (own := RX6) (is := 87) hx hb hfl hown zfit_89 z_sup (hts _ (List.mem_of_getElem? (i := 3) rfl)) (hts _ (List.mem_of_getElem? (i := 4) rfl)) (hX.2.2.2 (87, "not voting, or registered before") (List.mem_of_getElem? (i := 2) rfl)) (fun w h => hts w (List.mem_cons_of_mem _ (List.mem_append_left _ (List.mem_append_right _ h)))) zg2_89 hX zg3_89 hH hP hS (hl.1.trans hml.symm) dX6_register_37 dX6_register_40 dX6_register_41 dX6_register_43 dX6_register_46 hT ⟨Nat.le_of_ble_eq_true rfl, Nat.le_of_ble_eq_true rfl, Nat.le_of_ble_eq_true rfl, Nat.le_of_ble_eq_true rfl⟩ hlk rfl
    · replace h := zt hc h
      refine lv_aload_n hx hb dX6_register_25 rfl (lv_at hl 0 rfl) ?_
      refine rO_1 hx hb hwX6 hown hK hP 0 (xO) rfl rfl (hts _ (List.mem_of_getElem? (i := 8) rfl)) dX6_register_26 ?_
      refine rNP_2 hx hb hwX4 hown hK hP 2 (ad 5 xO) rfl rfl (hN.f (List.mem_of_getElem? (i := 5) rfl)) dX6_register_29 ?_
      refine lv_iload_n hx hb dX6_register_32 rfl (lv_at hl 1 rfl) ?_
      obtain ⟨hi, h⟩ := zin_e h
      refine aP_2 hx hb hK hP 2 (ad 5 xO) rfl rfl hi rfl dX6_register_33 ?_
      refine lv_if_eq (tgt := 47) hx hb dX6_register_34 (by decide) (fun hc => ?_) (fun hc => ?_)
      · replace h := zt hc h
        refine lv_aload_n hx hb dX6_register_47 rfl (lv_at hl 0 rfl) ?_
        refine rO_0 hx hb hwX6 hown hK hP 0 (xO) rfl rfl (hts _ (List.mem_of_getElem? (i := 9) rfl)) dX6_register_48 ?_
        refine lv_iconst (v := 1) hx hb dX6_register_51 (by decide) ?_
        obtain ⟨r_2, hg, h⟩ := zb1_e h
        refine z_callV (As := [.int ((1 : Int32))]) (rest := []) (i := 0) ⟨hx, hb, hml, hown, hts⟩ (mX1_hasRoom l G (ad 1 xO) hg) (cwV 1 hts gX6_register_X1_hasRoom rfl rfl rfl kvX1_hasRoom ⟨Nat.le_of_ble_eq_true rfl, Nat.le_of_ble_eq_true rfl⟩) rfl hP hD hK hN hS (Nat.le_refl _) [1] rfl rfl rfl rfl 1 rfl rfl rfl rfl rfl hl.1 rfl (Nat.le_of_ble_eq_true rfl) dX6_register_52 ⟨Nat.zero_le _, Nat.zero_le _⟩ (fun H locs hP hS => ?_)
        replace hP : zP G [shO G xO, shB G (ad 1 xO), shP G (ad 5 xO)] [eO, eB, eP] H := hP
        refine lv_if_ne (tgt := 68) hx hb dX6_register_55 (by decide) (fun hc => ?_) (fun hc => ?_)
        · replace h := zf hc h
          refine lv_aload_n hx hb dX6_register_68 rfl (lv_at hl 0 rfl) ?_
          refine rO_1 hx hb hwX6 hown hK hP 0 (xO) rfl rfl (hts _ (List.mem_of_getElem? (i := 8) rfl)) dX6_register_69 ?_
          refine rNP_2 hx hb hwX4 hown hK hP 2 (ad 5 xO) rfl rfl (hN.f (List.mem_of_getElem? (i := 5) rfl)) dX6_register_72 ?_
          refine lv_iload_n hx hb dX6_register_75 rfl (lv_at hl 1 rfl) ?_
          refine lv_iconst (v := 1) hx hb dX6_register_76 (by decide) ?_
          obtain ⟨hi, h⟩ := zin_e h
          refine tP_2 hx hb hK hP hD hS 2 (ad 5 xO) rfl rfl hi rfl vnb_1 dX6_register_77 (fun H locs hP hS => ?_)
          replace hP : zP G [shO G xO, shB G (ad 1 xO), shP G (ad 5 xO)] [eO, eB, (sA eP 2 l1.toNatClampNeg ((1 : Int32)))] H := hP
          refine lv_aload_n hx hb dX6_register_78 rfl (lv_at hl 0 rfl) ?_
          refine rO_0 hx hb hwX6 hown hK hP 0 (xO) rfl rfl (hts _ (List.mem_of_getElem? (i := 9) rfl)) dX6_register_79 ?_
          refine lv_iconst (v := 1) hx hb dX6_register_82 (by decide) ?_
          refine lv_iload_n hx hb dX6_register_83 rfl (lv_at hl 1 rfl) ?_
          refine lv_iconst (v := 0) hx hb dX6_register_84 (by decide) ?_
          refine lv_iconst (v := 0) hx hb dX6_register_85 (by decide) ?_
          obtain ⟨r_3, uB_4, hg, h⟩ := zb2_e h
          refine z_callV (As := [.int ((1 : Int32)), .int l1, .int ((0 : Int32)), .int ((0 : Int32))]) (rest := []) (i := 0) ⟨hx, hb, hml, hown, hts⟩ (mX1_put l G (ad 1 xO) hg) (cwV 4 hts gX6_register_X1_put rfl rfl rfl kvX1_put ⟨Nat.le_of_ble_eq_true rfl, Nat.le_of_ble_eq_true rfl⟩) rfl hP hD hK hN hS (Nat.le_refl _) [1] rfl rfl rfl rfl 1 rfl rfl rfl rfl rfl hl.1 rfl (Nat.le_of_ble_eq_true rfl) dX6_register_86 ⟨Nat.zero_le _, Nat.zero_le _⟩ (fun H locs hP hS => ?_)
          replace hP : zP G [shO G xO, shB G (ad 1 xO), shP G (ad 5 xO)] [eO, uB_4, (sA eP 2 l1.toNatClampNeg ((1 : Int32)))] H := hP
          refine lv_pop hx hb dX6_register_89 rfl ?_
          cases h
          exact z_vretX (x := (uB_4, (sA eP 2 l1.toNatClampNeg ((1 : Int32))))) hx hb hr hlk rfl rfl hP hS dX6_register_90
        · replace h := zt hc h
          cases h
          exact z_throw (own := RX6) (is := 95) hx hb hfl hown zfit_97 z_sup (hts _ (List.mem_of_getElem? (i := 5) rfl)) (hts _ (List.mem_of_getElem? (i := 6) rfl)) (hX.2.2.2 (95, "no room on the board") (List.mem_of_getElem? (i := 3) rfl)) (fun w h => hts w (List.mem_cons_of_mem _ (List.mem_append_right _ h))) zg2_97 hX zg3_97 hH hP hS (hl.1.trans hml.symm) dX6_register_58 dX6_register_61 dX6_register_62 dX6_register_64 dX6_register_67 hT ⟨Nat.le_of_ble_eq_true rfl, Nat.le_of_ble_eq_true rfl, Nat.le_of_ble_eq_true rfl, Nat.le_of_ble_eq_true rfl⟩ hlk rfl
      · replace h := zf hc h
        cases h
        exact z_throw (own := RX6) (is := 87) hx hb hfl hown zfit_89 z_sup (hts _ (List.mem_of_getElem? (i := 3) rfl)) (hts _ (List.mem_of_getElem? (i := 4) rfl)) (hX.2.2.2 (87, "not voting, or registered before") (List.mem_of_getElem? (i := 2) rfl)) (fun w h => hts w (List.mem_cons_of_mem _ (List.mem_append_left _ (List.mem_append_right _ h)))) zg2_89 hX zg3_89 hH hP hS (hl.1.trans hml.symm) dX6_register_37 dX6_register_40 dX6_register_41 dX6_register_43 dX6_register_46 hT ⟨Nat.le_of_ble_eq_true rfl, Nat.le_of_ble_eq_true rfl, Nat.le_of_ble_eq_true rfl, Nat.le_of_ble_eq_true rfl⟩ hlk rfl
  · replace h := zt hc h
    cases h
    exact z_throw (own := RX6) (is := 79) hx hb hfl hown zfit_55 z_sup (hts _ (List.mem_of_getElem? (i := 1) rfl)) (hts _ (List.mem_of_getElem? (i := 2) rfl)) (hX.2.2.2 (79, "no such voter") (List.mem_of_getElem? (i := 1) rfl)) (fun w h => hts w (List.mem_cons_of_mem _ (List.mem_append_left _ (List.mem_append_left _ (List.mem_append_right _ h))))) zg2_55 hX zg3_55 hH hP hS (hl.1.trans hml.symm) dX6_register_7 dX6_register_10 dX6_register_11 dX6_register_13 dX6_register_16 hT ⟨Nat.le_of_ble_eq_true rfl, Nat.le_of_ble_eq_true rfl, Nat.le_of_ble_eq_true rfl, Nat.le_of_ble_eq_true rfl⟩ hlk rfl
end
def rmX6_cast : Room := { frames := 6, cells := 1, slots := 6, locals := 90 }
theorem kvX6_cast : yX6_cast.cls = RX6 ∧ yX6_cast.cls ≠ "java/lang/invoke/MethodHandle" ∧ yX6_cast.cls ≠ "java/lang/invoke/VarHandle" ∧ (parseMethodDescriptor yX6_cast.desc).map (fun d => d.parameters.length) = some 3 := by decide +kernel
section
variable {p : Program} {l : Launch} {e : Env} {s : State} {m : MethodId} {args : Array Value} {below : List Frame} {meth : Method} {c : Code} {G : zG} {xO : Nat → Nat} {rr : Int32} {vB : zSt} {vP : zSt} {oo : String ⊕ (Int32 × zSt × zSt)} {eO : zSt} {eB : zSt} {eP : zSt}
set_option maxRecDepth 20000 in
theorem mX6_cast (l : Launch) (hfl : l.stackTraces = false) (G : zG) (xO : Nat → Nat) {eO : zSt} {eB : zSt} {eP : zSt} {l1 : Int32} {l2 : Int32} {l3 : Int32} {oo : String ⊕ (Int32 × zSt × zSt)} (h : fX6_cast eO eB eP l1 l2 l3 = some oo) : zCX l yX6_cast wsX6_cast rmX6_cast [.ref (xO 0), .int l1, .int l2, .int l3] G [shO G xO, shB G (ad 1 xO), shP G (ad 5 xO)] [eO, eB, eP] oo (fun x => some (.int x.1)) (fun x => [eO, x.2.1, x.2.2]) := by
  refine z_ofWX (cc := cX6_cast) (maxL := 6) (ret := some .int) (by decide) rfl (Nat.le_of_ble_eq_true rfl) ?_
  intro p e s m args below meth c C0 hK hN hD hX hH hT hP ls hl
  obtain ⟨hx, hb, hr, hml, hown, hts, hlk⟩ := id C0
  have hS : va_S (zA [shO G xO, shB G (ad 1 xO), shP G (ad 5 xO)] s.heap.size) s.heap s.heap [] := va_S.rf
  replace hl : lv_has ls 6 [(0, .ref (xO 0)), (1, .int l1), (2, .int l2), (3, .int l3)] := hl
  have hwX4 : ∀ w ∈ wsX40, w.before args s = true := fun w h => hts w (List.mem_cons_of_mem _ (List.mem_append_left _ (List.mem_append_left _ (List.mem_append_left _ (List.mem_append_left _ (List.mem_append_right _ h))))))
  have hwX6 : ∀ w ∈ wsX60, w.before args s = true := fun w h => hts w (List.mem_cons_of_mem _ (List.mem_append_left _ (List.mem_append_left _ (List.mem_append_left _ (List.mem_append_left _ (List.mem_append_left _ (List.mem_append_right _ h)))))))
  unfold fX6_cast at h
  refine lv_iload_n hx hb dX6_cast_0 rfl (lv_at hl 1 rfl) ?_
  obtain ⟨r_1, hg, h⟩ := zb1_e h
  refine z_callS (As := [.int l1]) (rest := []) ⟨hx, hb, hml, hown, hts⟩ (mX6_isVoter l G  hg) (va_cwS 1 hts gX6_cast_X6_isVoter rfl rfl rfl ksX6_isVoter ⟨Nat.le_of_ble_eq_true rfl, Nat.le_of_ble_eq_true rfl⟩) hP hD hK hN hS (Nat.le_refl _) [] rfl rfl rfl rfl rfl hl.1 rfl (Nat.le_of_ble_eq_true rfl) dX6_cast_1 ⟨Nat.zero_le _, Nat.zero_le _⟩ (fun H locs hP hS => ?_)
  replace hP : zP G [shO G xO, shB G (ad 1 xO), shP G (ad 5 xO)] [eO, eB, eP] H := hP
  refine lv_if_eq (tgt := 21) hx hb dX6_cast_4 (by decide) (fun hc => ?_) (fun hc => ?_)
  · replace h := zt hc h
    cases h
    exact z_throw (own := RX6) (is := 101) hx hb hfl hown zfit_55 z_sup (hts _ (List.mem_of_getElem? (i := 1) rfl)) (hts _ (List.mem_of_getElem? (i := 2) rfl)) (hX.2.2.2 (101, "no such voter or choice, or no number") (List.mem_of_getElem? (i := 4) rfl)) (fun w h => hts w (List.mem_cons_of_mem _ (List.mem_append_left _ (List.mem_append_left _ (List.mem_append_right _ h))))) zg2_55 hX zg3_55 hH hP hS (hl.1.trans hml.symm) dX6_cast_21 dX6_cast_24 dX6_cast_25 dX6_cast_27 dX6_cast_30 hT ⟨Nat.le_of_ble_eq_true rfl, Nat.le_of_ble_eq_true rfl, Nat.le_of_ble_eq_true rfl, Nat.le_of_ble_eq_true rfl⟩ hlk rfl
  · replace h := zf hc h
    refine lv_iload_n hx hb dX6_cast_7 rfl (lv_at hl 2 rfl) ?_
    obtain ⟨r_2, hg, h⟩ := zb1_e h
    refine z_callS (As := [.int l2]) (rest := []) ⟨hx, hb, hml, hown, hts⟩ (mX6_isChoice l G  hg) (va_cwS 1 hts gX6_cast_X6_isChoice rfl rfl rfl ksX6_isChoice ⟨Nat.le_of_ble_eq_true rfl, Nat.le_of_ble_eq_true rfl⟩) hP hD hK hN hS (Nat.le_refl _) [] rfl rfl rfl rfl rfl hl.1 rfl (Nat.le_of_ble_eq_true rfl) dX6_cast_8 ⟨Nat.zero_le _, Nat.zero_le _⟩ (fun H locs hP hS => ?_)
    replace hP : zP G [shO G xO, shB G (ad 1 xO), shP G (ad 5 xO)] [eO, eB, eP] H := hP
    refine lv_if_eq (tgt := 21) hx hb dX6_cast_11 (by decide) (fun hc => ?_) (fun hc => ?_)
    · replace h := zt hc h
      cases h
      exact z_throw (own := RX6) (is := 101) hx hb hfl hown zfit_55 z_sup (hts _ (List.mem_of_getElem? (i := 1) rfl)) (hts _ (List.mem_of_getElem? (i := 2) rfl)) (hX.2.2.2 (101, "no such voter or choice, or no number") (List.mem_of_getElem? (i := 4) rfl)) (fun w h => hts w (List.mem_cons_of_mem _ (List.mem_append_left _ (List.mem_append_left _ (List.mem_append_right _ h))))) zg2_55 hX zg3_55 hH hP hS (hl.1.trans hml.symm) dX6_cast_21 dX6_cast_24 dX6_cast_25 dX6_cast_27 dX6_cast_30 hT ⟨Nat.le_of_ble_eq_true rfl, Nat.le_of_ble_eq_true rfl, Nat.le_of_ble_eq_true rfl, Nat.le_of_ble_eq_true rfl⟩ hlk rfl
    · replace h := zf hc h
      refine lv_iload_n hx hb dX6_cast_14 rfl (lv_at hl 3 rfl) ?_
      obtain ⟨r_3, hg, h⟩ := zb1_e h
      refine z_callS (As := [.int l3]) (rest := []) ⟨hx, hb, hml, hown, hts⟩ (mX3_isNumber l G  hg) (va_cwS 1 hts gX6_cast_X3_isNumber rfl rfl rfl ksX3_isNumber ⟨Nat.le_of_ble_eq_true rfl, Nat.le_of_ble_eq_true rfl⟩) hP hD hK hN hS (Nat.le_refl _) [] rfl rfl rfl rfl rfl hl.1 rfl (Nat.le_of_ble_eq_true rfl) dX6_cast_15 ⟨Nat.zero_le _, Nat.zero_le _⟩ (fun H locs hP hS => ?_)
      replace hP : zP G [shO G xO, shB G (ad 1 xO), shP G (ad 5 xO)] [eO, eB, eP] H := hP
      refine lv_if_ne (tgt := 31) hx hb dX6_cast_18 (by decide) (fun hc => ?_) (fun hc => ?_)
      · replace h := zf hc h
        refine lv_aload_n hx hb dX6_cast_31 rfl (lv_at hl 0 rfl) ?_
        refine rO_5 hx hb hwX6 hown hK hP 0 (xO) rfl rfl (hts _ (List.mem_of_getElem? (i := 7) rfl)) dX6_cast_32 ?_
        refine lv_iconst (v := 1) hx hb dX6_cast_35 (by decide) ?_
        refine lv_icmp_ne (tgt := 51) hx hb dX6_cast_36 (by decide) (fun hc => ?_) (fun hc => ?_)
        · replace h := zf hc h
          cases h
          exact z_throw (own := RX6) (is := 103) hx hb hfl hown zfit_89 z_sup (hts _ (List.mem_of_getElem? (i := 3) rfl)) (hts _ (List.mem_of_getElem? (i := 4) rfl)) (hX.2.2.2 (103, "not voting, or not registered") (List.mem_of_getElem? (i := 5) rfl)) (fun w h => hts w (List.mem_cons_of_mem _ (List.mem_append_left _ (List.mem_append_right _ h)))) zg2_89 hX zg3_89 hH hP hS (hl.1.trans hml.symm) dX6_cast_51 dX6_cast_54 dX6_cast_55 dX6_cast_57 dX6_cast_60 hT ⟨Nat.le_of_ble_eq_true rfl, Nat.le_of_ble_eq_true rfl, Nat.le_of_ble_eq_true rfl, Nat.le_of_ble_eq_true rfl⟩ hlk rfl
        · replace h := zt hc h
          refine lv_aload_n hx hb dX6_cast_39 rfl (lv_at hl 0 rfl) ?_
          refine rO_1 hx hb hwX6 hown hK hP 0 (xO) rfl rfl (hts _ (List.mem_of_getElem? (i := 8) rfl)) dX6_cast_40 ?_
          refine rNP_2 hx hb hwX4 hown hK hP 2 (ad 5 xO) rfl rfl (hN.f (List.mem_of_getElem? (i := 5) rfl)) dX6_cast_43 ?_
          refine lv_iload_n hx hb dX6_cast_46 rfl (lv_at hl 1 rfl) ?_
          obtain ⟨hi, h⟩ := zin_e h
          refine aP_2 hx hb hK hP 2 (ad 5 xO) rfl rfl hi rfl dX6_cast_47 ?_
          refine lv_if_ne (tgt := 61) hx hb dX6_cast_48 (by decide) (fun hc => ?_) (fun hc => ?_)
          · replace h := zf hc h
            refine lv_aload_n hx hb dX6_cast_61 rfl (lv_at hl 0 rfl) ?_
            refine rO_0 hx hb hwX6 hown hK hP 0 (xO) rfl rfl (hts _ (List.mem_of_getElem? (i := 9) rfl)) dX6_cast_62 ?_
            refine lv_iconst (v := 1) hx hb dX6_cast_65 (by decide) ?_
            obtain ⟨r_4, hg, h⟩ := zb1_e h
            refine z_callV (As := [.int ((1 : Int32))]) (rest := []) (i := 0) ⟨hx, hb, hml, hown, hts⟩ (mX1_hasRoom l G (ad 1 xO) hg) (cwV 1 hts gX6_cast_X1_hasRoom rfl rfl rfl kvX1_hasRoom ⟨Nat.le_of_ble_eq_true rfl, Nat.le_of_ble_eq_true rfl⟩) rfl hP hD hK hN hS (Nat.le_refl _) [1] rfl rfl rfl rfl 1 rfl rfl rfl rfl rfl hl.1 rfl (Nat.le_of_ble_eq_true rfl) dX6_cast_66 ⟨Nat.zero_le _, Nat.zero_le _⟩ (fun H locs hP hS => ?_)
            replace hP : zP G [shO G xO, shB G (ad 1 xO), shP G (ad 5 xO)] [eO, eB, eP] H := hP
            refine lv_if_ne (tgt := 82) hx hb dX6_cast_69 (by decide) (fun hc => ?_) (fun hc => ?_)
            · replace h := zf hc h
              refine lv_iload_n hx hb dX6_cast_82 rfl (lv_at hl 3 rfl) ?_
              obtain ⟨r_5, hg, h⟩ := zb1_e h
              refine z_callS (As := [.int l3]) (rest := []) ⟨hx, hb, hml, hown, hts⟩ (mX3_ofBase l G  hg) (va_cwS 1 hts gX6_cast_X3_ofBase rfl rfl rfl ksX3_ofBase ⟨Nat.le_of_ble_eq_true rfl, Nat.le_of_ble_eq_true rfl⟩) hP hD hK hN hS (Nat.le_refl _) [] rfl rfl rfl rfl rfl hl.1 rfl (Nat.le_of_ble_eq_true rfl) dX6_cast_83 ⟨Nat.zero_le _, Nat.zero_le _⟩ (fun H locs hP hS => ?_)
              replace hP : zP G [shO G xO, shB G (ad 1 xO), shP G (ad 5 xO)] [eO, eB, eP] H := hP
              refine lv_istore (lv' := [(4, .int r_5), (0, .ref (xO 0)), (1, .int l1), (2, .int l2), (3, .int l3)]) hx hb dX6_cast_86 hl (by decide) rfl (fun ls hl => ?_)
              refine lv_iload_n hx hb dX6_cast_88 rfl (lv_at hl 3 rfl) ?_
              obtain ⟨r_6, hg, h⟩ := zb1_e h
              refine z_callS (As := [.int l2]) (rest := []) ⟨hx, hb, hml, hown, hts⟩ (mX3_ofBase l G  hg) (va_cwS 1 hts gX6_cast_X3_ofBase rfl rfl rfl ksX3_ofBase ⟨Nat.le_of_ble_eq_true rfl, Nat.le_of_ble_eq_true rfl⟩) hP hD hK hN hS (Nat.le_refl _) [] rfl rfl rfl rfl rfl hl.1 rfl (Nat.le_of_ble_eq_true rfl) dX6_cast_89 ⟨Nat.zero_le _, Nat.zero_le _⟩ (fun H locs hP hS => ?_)
              replace hP : zP G [shO G xO, shB G (ad 1 xO), shP G (ad 5 xO)] [eO, eB, eP] H := hP
              refine lv_aload_n hx hb dX6_cast_92 rfl (lv_at hl 1 rfl) ?_
              refine rO_1 hx hb hwX6 hown hK hP 0 (xO) rfl rfl (hts _ (List.mem_of_getElem? (i := 8) rfl)) dX6_cast_93 ?_
              refine rNP_1 hx hb hwX4 hown hK hP 2 (ad 5 xO) rfl rfl (hN.f (List.mem_of_getElem? (i := 4) rfl)) dX6_cast_96 ?_
              refine lv_iload_n hx hb dX6_cast_99 rfl (lv_at hl 4 rfl) ?_
              obtain ⟨r_7, hg, h⟩ := zb1_e h
              refine z_callS (As := [.int ((gI eP 1)), .int l3]) (rest := [.int r_6]) ⟨hx, hb, hml, hown, hts⟩ (mX3_power l G  hg) (va_cwS 2 hts gX6_cast_X3_power rfl rfl rfl ksX3_power ⟨Nat.le_of_ble_eq_true rfl, Nat.le_of_ble_eq_true rfl⟩) hP hD hK hN hS (Nat.le_refl _) [] rfl rfl rfl rfl rfl hl.1 rfl (Nat.le_of_ble_eq_true rfl) dX6_cast_100 ⟨Nat.zero_le _, Nat.zero_le _⟩ (fun H locs hP hS => ?_)
              replace hP : zP G [shO G xO, shB G (ad 1 xO), shP G (ad 5 xO)] [eO, eB, eP] H := hP
              obtain ⟨r_8, hg, h⟩ := zb1_e h
              refine z_callS (As := [.int r_6, .int r_7]) (rest := []) ⟨hx, hb, hml, hown, hts⟩ (mX3_times l G  hg) (va_cwS 2 hts gX6_cast_X3_times rfl rfl rfl ksX3_times ⟨Nat.le_of_ble_eq_true rfl, Nat.le_of_ble_eq_true rfl⟩) hP hD hK hN hS (Nat.le_refl _) [] rfl rfl rfl rfl rfl hl.1 rfl (Nat.le_of_ble_eq_true rfl) dX6_cast_103 ⟨Nat.zero_le _, Nat.zero_le _⟩ (fun H locs hP hS => ?_)
              replace hP : zP G [shO G xO, shB G (ad 1 xO), shP G (ad 5 xO)] [eO, eB, eP] H := hP
              refine lv_istore (lv' := [(5, .int r_8), (4, .int r_5), (0, .ref (xO 0)), (1, .int l1), (2, .int l2), (3, .int l3)]) hx hb dX6_cast_106 hl (by decide) rfl (fun ls hl => ?_)
              refine lv_aload_n hx hb dX6_cast_108 rfl (lv_at hl 2 rfl) ?_
              refine rO_1 hx hb hwX6 hown hK hP 0 (xO) rfl rfl (hts _ (List.mem_of_getElem? (i := 8) rfl)) dX6_cast_109 ?_
              refine lv_iload_n hx hb dX6_cast_112 rfl (lv_at hl 3 rfl) ?_
              refine lv_iload hx hb dX6_cast_113 (lv_at hl 1 rfl) ?_
              refine lv_iload hx hb dX6_cast_115 (lv_at hl 0 rfl) ?_
              obtain ⟨uP_9, hg, h⟩ := zb1_e h
              refine z_callV (As := [.int l1, .int r_5, .int r_8]) (rest := []) (i := 0) ⟨hx, hb, hml, hown, hts⟩ (mX4_keepBallot l G (ad 5 xO) hg) (cwV 3 hts gX6_cast_X4_keepBallot rfl rfl rfl kvX4_keepBallot ⟨Nat.le_of_ble_eq_true rfl, Nat.le_of_ble_eq_true rfl⟩) rfl hP hD hK hN hS (Nat.le_refl _) [2] rfl rfl rfl rfl 2 rfl rfl rfl rfl rfl hl.1 rfl (Nat.le_of_ble_eq_true rfl) dX6_cast_117 ⟨Nat.zero_le _, Nat.zero_le _⟩ (fun H locs hP hS => ?_)
              replace hP : zP G [shO G xO, shB G (ad 1 xO), shP G (ad 5 xO)] [eO, eB, uP_9] H := hP
              refine lv_aload_n hx hb dX6_cast_120 rfl (lv_at hl 2 rfl) ?_
              refine rO_0 hx hb hwX6 hown hK hP 0 (xO) rfl rfl (hts _ (List.mem_of_getElem? (i := 9) rfl)) dX6_cast_121 ?_
              refine lv_iconst (v := 2) hx hb dX6_cast_124 (by decide) ?_
              refine lv_iload_n hx hb dX6_cast_125 rfl (lv_at hl 3 rfl) ?_
              refine lv_iload hx hb dX6_cast_126 (lv_at hl 1 rfl) ?_
              refine lv_iload hx hb dX6_cast_128 (lv_at hl 0 rfl) ?_
              obtain ⟨r_10, uB_11, hg, h⟩ := zb2_e h
              refine z_callV (As := [.int ((2 : Int32)), .int l1, .int r_5, .int r_8]) (rest := []) (i := 0) ⟨hx, hb, hml, hown, hts⟩ (mX1_put l G (ad 1 xO) hg) (cwV 4 hts gX6_cast_X1_put rfl rfl rfl kvX1_put ⟨Nat.le_of_ble_eq_true rfl, Nat.le_of_ble_eq_true rfl⟩) rfl hP hD hK hN hS (Nat.le_refl _) [1] rfl rfl rfl rfl 1 rfl rfl rfl rfl rfl hl.1 rfl (Nat.le_of_ble_eq_true rfl) dX6_cast_130 ⟨Nat.zero_le _, Nat.zero_le _⟩ (fun H locs hP hS => ?_)
              replace hP : zP G [shO G xO, shB G (ad 1 xO), shP G (ad 5 xO)] [eO, uB_11, uP_9] H := hP
              cases h
              exact z_iretX (x := (r_10, uB_11, uP_9)) hx hb hr hlk rfl rfl hP hS dX6_cast_133
            · replace h := zt hc h
              cases h
              exact z_throw (own := RX6) (is := 95) hx hb hfl hown zfit_97 z_sup (hts _ (List.mem_of_getElem? (i := 5) rfl)) (hts _ (List.mem_of_getElem? (i := 6) rfl)) (hX.2.2.2 (95, "no room on the board") (List.mem_of_getElem? (i := 3) rfl)) (fun w h => hts w (List.mem_cons_of_mem _ (List.mem_append_right _ h))) zg2_97 hX zg3_97 hH hP hS (hl.1.trans hml.symm) dX6_cast_72 dX6_cast_75 dX6_cast_76 dX6_cast_78 dX6_cast_81 hT ⟨Nat.le_of_ble_eq_true rfl, Nat.le_of_ble_eq_true rfl, Nat.le_of_ble_eq_true rfl, Nat.le_of_ble_eq_true rfl⟩ hlk rfl
          · replace h := zt hc h
            cases h
            exact z_throw (own := RX6) (is := 103) hx hb hfl hown zfit_89 z_sup (hts _ (List.mem_of_getElem? (i := 3) rfl)) (hts _ (List.mem_of_getElem? (i := 4) rfl)) (hX.2.2.2 (103, "not voting, or not registered") (List.mem_of_getElem? (i := 5) rfl)) (fun w h => hts w (List.mem_cons_of_mem _ (List.mem_append_left _ (List.mem_append_right _ h)))) zg2_89 hX zg3_89 hH hP hS (hl.1.trans hml.symm) dX6_cast_51 dX6_cast_54 dX6_cast_55 dX6_cast_57 dX6_cast_60 hT ⟨Nat.le_of_ble_eq_true rfl, Nat.le_of_ble_eq_true rfl, Nat.le_of_ble_eq_true rfl, Nat.le_of_ble_eq_true rfl⟩ hlk rfl
      · replace h := zt hc h
        cases h
        exact z_throw (own := RX6) (is := 101) hx hb hfl hown zfit_55 z_sup (hts _ (List.mem_of_getElem? (i := 1) rfl)) (hts _ (List.mem_of_getElem? (i := 2) rfl)) (hX.2.2.2 (101, "no such voter or choice, or no number") (List.mem_of_getElem? (i := 4) rfl)) (fun w h => hts w (List.mem_cons_of_mem _ (List.mem_append_left _ (List.mem_append_left _ (List.mem_append_right _ h))))) zg2_55 hX zg3_55 hH hP hS (hl.1.trans hml.symm) dX6_cast_21 dX6_cast_24 dX6_cast_25 dX6_cast_27 dX6_cast_30 hT ⟨Nat.le_of_ble_eq_true rfl, Nat.le_of_ble_eq_true rfl, Nat.le_of_ble_eq_true rfl, Nat.le_of_ble_eq_true rfl⟩ hlk rfl
end
def rmX6_close : Room := { frames := 6, cells := 1, slots := 6, locals := 90 }
theorem kvX6_close : yX6_close.cls = RX6 ∧ yX6_close.cls ≠ "java/lang/invoke/MethodHandle" ∧ yX6_close.cls ≠ "java/lang/invoke/VarHandle" ∧ (parseMethodDescriptor yX6_close.desc).map (fun d => d.parameters.length) = some 0 := by decide +kernel
section
variable {p : Program} {l : Launch} {e : Env} {s : State} {m : MethodId} {args : Array Value} {below : List Frame} {meth : Method} {c : Code} {G : zG} {xO : Nat → Nat} {rr : Int32} {vO : zSt} {vB : zSt} {vP : zSt} {oo : String ⊕ (Int32 × zSt × zSt × zSt)} {eO : zSt} {eB : zSt} {eP : zSt}
set_option maxRecDepth 20000 in
theorem mX6_close (l : Launch) (hfl : l.stackTraces = false) (G : zG) (xO : Nat → Nat) {eO : zSt} {eB : zSt} {eP : zSt} {oo : String ⊕ (Int32 × zSt × zSt × zSt)} (h : fX6_close eO eB eP = some oo) : zCX l yX6_close wsX6_close rmX6_close [.ref (xO 0)] G [shO G xO, shB G (ad 1 xO), shP G (ad 5 xO)] [eO, eB, eP] oo (fun x => some (.int x.1)) (fun x => [x.2.1, x.2.2.1, x.2.2.2]) := by
  refine z_ofWX (cc := cX6_close) (maxL := 1) (ret := some .int) (by decide) rfl (Nat.le_of_ble_eq_true rfl) ?_
  intro p e s m args below meth c C0 hK hN hD hX hH hT hP ls hl
  obtain ⟨hx, hb, hr, hml, hown, hts, hlk⟩ := id C0
  have hS : va_S (zA [shO G xO, shB G (ad 1 xO), shP G (ad 5 xO)] s.heap.size) s.heap s.heap [] := va_S.rf
  replace hl : lv_has ls 1 [(0, .ref (xO 0))] := hl
  have hwX4 : ∀ w ∈ wsX40, w.before args s = true := fun w h => hts w (List.mem_cons_of_mem _ (List.mem_append_left _ (List.mem_append_left _ (List.mem_append_left _ (List.mem_append_right _ h)))))
  have hwX6 : ∀ w ∈ wsX60, w.before args s = true := fun w h => hts w (List.mem_cons_of_mem _ (List.mem_append_left _ (List.mem_append_left _ (List.mem_append_left _ (List.mem_append_left _ (List.mem_append_right _ h))))))
  unfold fX6_close at h
  refine lv_aload_n hx hb dX6_close_0 rfl (lv_at hl 0 rfl) ?_
  refine rO_5 hx hb hwX6 hown hK hP 0 (xO) rfl rfl (hts _ (List.mem_of_getElem? (i := 5) rfl)) dX6_close_1 ?_
  refine lv_iconst (v := 1) hx hb dX6_close_4 (by decide) ?_
  refine lv_icmp_eq (tgt := 18) hx hb dX6_close_5 (by decide) (fun hc => ?_) (fun hc => ?_)
  · replace h := zt hc h
    refine lv_aload_n hx hb dX6_close_18 rfl (lv_at hl 0 rfl) ?_
    refine rO_0 hx hb hwX6 hown hK hP 0 (xO) rfl rfl (hts _ (List.mem_of_getElem? (i := 6) rfl)) dX6_close_19 ?_
    refine lv_iconst (v := 1) hx hb dX6_close_22 (by decide) ?_
    refine lv_aload_n hx hb dX6_close_23 rfl (lv_at hl 0 rfl) ?_
    refine rO_1 hx hb hwX6 hown hK hP 0 (xO) rfl rfl (hts _ (List.mem_of_getElem? (i := 7) rfl)) dX6_close_24 ?_
    obtain ⟨r_1, hg, h⟩ := zb1_e h
    refine z_callV (As := []) (rest := [.int ((1 : Int32)), .ref ((ad 1 xO) 0)]) (i := 0) ⟨hx, hb, hml, hown, hts⟩ (mX4_ballotVoters l G (ad 5 xO) hg) (cwV 0 hts gX6_close_X4_ballotVoters rfl rfl rfl kvX4_ballotVoters ⟨Nat.le_of_ble_eq_true rfl, Nat.le_of_ble_eq_true rfl⟩) rfl hP hD hK hN hS (Nat.le_refl _) [2] rfl rfl rfl rfl 2 rfl rfl rfl rfl rfl hl.1 rfl (Nat.le_of_ble_eq_true rfl) dX6_close_27 ⟨Nat.zero_le _, Nat.zero_le _⟩ (fun H locs hP hS => ?_)
    replace hP : zP G [shO G xO, shB G (ad 1 xO), shP G (ad 5 xO)] [eO, eB, eP] H := hP
    refine lv_iadd hx hb dX6_close_30 ?_
    obtain ⟨r_2, hg, h⟩ := zb1_e h
    refine z_callV (As := [.int (((1 : Int32) + r_1))]) (rest := []) (i := 0) ⟨hx, hb, hml, hown, hts⟩ (mX1_hasRoom l G (ad 1 xO) hg) (cwV 1 hts gX6_close_X1_hasRoom rfl rfl rfl kvX1_hasRoom ⟨Nat.le_of_ble_eq_true rfl, Nat.le_of_ble_eq_true rfl⟩) rfl hP hD hK hN hS (Nat.le_refl _) [1] rfl rfl rfl rfl 1 rfl rfl rfl rfl rfl hl.1 rfl (Nat.le_of_ble_eq_true rfl) dX6_close_31 ⟨Nat.zero_le _, Nat.zero_le _⟩ (fun H locs hP hS => ?_)
    replace hP : zP G [shO G xO, shB G (ad 1 xO), shP G (ad 5 xO)] [eO, eB, eP] H := hP
    refine lv_if_ne (tgt := 47) hx hb dX6_close_34 (by decide) (fun hc => ?_) (fun hc => ?_)
    · replace h := zf hc h
      refine lv_aload_n hx hb dX6_close_47 rfl (lv_at hl 0 rfl) ?_
      refine rO_1 hx hb hwX6 hown hK hP 0 (xO) rfl rfl (hts _ (List.mem_of_getElem? (i := 7) rfl)) dX6_close_48 ?_
      obtain ⟨uP_3, hg, h⟩ := zb1_e h
      refine z_callV (As := []) (rest := []) (i := 0) ⟨hx, hb, hml, hown, hts⟩ (mX4_gatherEntries l G (ad 5 xO) hg) (cwV 0 hts gX6_close_X4_gatherEntries rfl rfl rfl kvX4_gatherEntries ⟨Nat.le_of_ble_eq_true rfl, Nat.le_of_ble_eq_true rfl⟩) rfl hP hD hK hN hS (Nat.le_refl _) [2] rfl rfl rfl rfl 2 rfl rfl rfl rfl rfl hl.1 rfl (Nat.le_of_ble_eq_true rfl) dX6_close_51 ⟨Nat.zero_le _, Nat.zero_le _⟩ (fun H locs hP hS => ?_)
      replace hP : zP G [shO G xO, shB G (ad 1 xO), shP G (ad 5 xO)] [eO, eB, uP_3] H := hP
      refine lv_aload_n hx hb dX6_close_54 rfl (lv_at hl 0 rfl) ?_
      refine rO_0 hx hb hwX6 hown hK hP 0 (xO) rfl rfl (hts _ (List.mem_of_getElem? (i := 6) rfl)) dX6_close_55 ?_
      refine lv_iconst (v := 3) hx hb dX6_close_58 (by decide) ?_
      refine lv_iconst (v := 0) hx hb dX6_close_59 (by decide) ?_
      refine lv_iconst (v := 0) hx hb dX6_close_60 (by decide) ?_
      refine lv_iconst (v := 0) hx hb dX6_close_61 (by decide) ?_
      obtain ⟨r_4, uB_5, hg, h⟩ := zb2_e h
      refine z_callV (As := [.int ((3 : Int32)), .int ((0 : Int32)), .int ((0 : Int32)), .int ((0 : Int32))]) (rest := []) (i := 0) ⟨hx, hb, hml, hown, hts⟩ (mX1_put l G (ad 1 xO) hg) (cwV 4 hts gX6_close_X1_put rfl rfl rfl kvX1_put ⟨Nat.le_of_ble_eq_true rfl, Nat.le_of_ble_eq_true rfl⟩) rfl hP hD hK hN hS (Nat.le_refl _) [1] rfl rfl rfl rfl 1 rfl rfl rfl rfl rfl hl.1 rfl (Nat.le_of_ble_eq_true rfl) dX6_close_62 ⟨Nat.zero_le _, Nat.zero_le _⟩ (fun H locs hP hS => ?_)
      replace hP : zP G [shO G xO, shB G (ad 1 xO), shP G (ad 5 xO)] [eO, uB_5, uP_3] H := hP
      refine lv_pop hx hb dX6_close_65 rfl ?_
      refine lv_aload_n hx hb dX6_close_66 rfl (lv_at hl 0 rfl) ?_
      obtain ⟨uB_6, hg, h⟩ := zb1_e h
      refine z_callV (As := []) (rest := []) (i := 0) ⟨hx, hb, hml, hown, hts⟩ (mX6_putEntries l G (xO) hg) (cwV 0 hts gX6_close_X6_putEntries rfl rfl rfl kvX6_putEntries ⟨Nat.le_of_ble_eq_true rfl, Nat.le_of_ble_eq_true rfl⟩) rfl hP hD hK hN hS (Nat.le_refl _) [0, 1, 2] rfl rfl rfl rfl 0 rfl rfl rfl rfl rfl hl.1 rfl (Nat.le_of_ble_eq_true rfl) dX6_close_67 ⟨Nat.zero_le _, Nat.zero_le _⟩ (fun H locs hP hS => ?_)
      replace hP : zP G [shO G xO, shB G (ad 1 xO), shP G (ad 5 xO)] [eO, uB_6, uP_3] H := hP
      refine lv_aload_n hx hb dX6_close_70 rfl (lv_at hl 0 rfl) ?_
      refine lv_iconst (v := 2) hx hb dX6_close_71 (by decide) ?_
      refine pO_5 hx hb hwX6 hown hK hP hD hS 0 (xO) rfl rfl (hts _ (List.mem_of_getElem? (i := 5) rfl)) dX6_close_72 (fun H locs hP hS => ?_)
      replace hP : zP G [shO G xO, shB G (ad 1 xO), shP G (ad 5 xO)] [(sI eO 5 ((2 : Int32))), uB_6, uP_3] H := hP
      refine lv_aload_n hx hb dX6_close_75 rfl (lv_at hl 0 rfl) ?_
      refine rO_1 hx hb hwX6 hown hK hP 0 (xO) rfl rfl (hts _ (List.mem_of_getElem? (i := 7) rfl)) dX6_close_76 ?_
      refine rNP_6 hx hb hwX4 hown hK hP 2 (ad 5 xO) rfl rfl (hN.f (List.mem_of_getElem? (i := 7) rfl)) dX6_close_79 ?_
      cases h
      exact z_iretX (x := ((gI uP_3 6), (sI eO 5 ((2 : Int32))), uB_6, uP_3)) hx hb hr hlk rfl rfl hP hS dX6_close_82
    · replace h := zt hc h
      cases h
      exact z_throw (own := RX6) (is := 95) hx hb hfl hown zfit_97 z_sup (hts _ (List.mem_of_getElem? (i := 3) rfl)) (hts _ (List.mem_of_getElem? (i := 4) rfl)) (hX.2.2.2 (95, "no room on the board") (List.mem_of_getElem? (i := 3) rfl)) (fun w h => hts w (List.mem_cons_of_mem _ (List.mem_append_right _ h))) zg2_97 hX zg3_97 hH hP hS (hl.1.trans hml.symm) dX6_close_37 dX6_close_40 dX6_close_41 dX6_close_43 dX6_close_46 hT ⟨Nat.le_of_ble_eq_true rfl, Nat.le_of_ble_eq_true rfl, Nat.le_of_ble_eq_true rfl, Nat.le_of_ble_eq_true rfl⟩ hlk rfl
  · replace h := zf hc h
    cases h
    exact z_throw (own := RX6) (is := 118) hx hb hfl hown zfit_89 z_sup (hts _ (List.mem_of_getElem? (i := 1) rfl)) (hts _ (List.mem_of_getElem? (i := 2) rfl)) (hX.2.2.2 (118, "not voting") (List.mem_of_getElem? (i := 6) rfl)) (fun w h => hts w (List.mem_cons_of_mem _ (List.mem_append_left _ (List.mem_append_right _ h)))) zg2_89 hX zg3_89 hH hP hS (hl.1.trans hml.symm) dX6_close_8 dX6_close_11 dX6_close_12 dX6_close_14 dX6_close_17 hT ⟨Nat.le_of_ble_eq_true rfl, Nat.le_of_ble_eq_true rfl, Nat.le_of_ble_eq_true rfl, Nat.le_of_ble_eq_true rfl⟩ hlk rfl
end
def rmX6_mix : Room := { frames := 6, cells := 1, slots := 6, locals := 90 }
theorem kvX6_mix : yX6_mix.cls = RX6 ∧ yX6_mix.cls ≠ "java/lang/invoke/MethodHandle" ∧ yX6_mix.cls ≠ "java/lang/invoke/VarHandle" ∧ (parseMethodDescriptor yX6_mix.desc).map (fun d => d.parameters.length) = some 2 := by decide +kernel
section
variable {p : Program} {l : Launch} {e : Env} {s : State} {m : MethodId} {args : Array Value} {below : List Frame} {meth : Method} {c : Code} {G : zG} {xO : Nat → Nat} {vB : zSt} {vP : zSt} {oo : String ⊕ (zSt × zSt)} {eO : zSt} {eB : zSt} {eP : zSt}
set_option maxRecDepth 20000 in
theorem mX6_mix (l : Launch) (hfl : l.stackTraces = false) (G : zG) (xO : Nat → Nat) {eO : zSt} {eB : zSt} {eP : zSt} {l1 : Int32} {l2 : Int32} {oo : String ⊕ (zSt × zSt)} (h : fX6_mix eO eB eP l1 l2 = some oo) : zCX l yX6_mix wsX6_mix rmX6_mix [.ref (xO 0), .int l1, .int l2] G [shO G xO, shB G (ad 1 xO), shP G (ad 5 xO)] [eO, eB, eP] oo (fun _ => none) (fun x => [eO, x.1, x.2]) := by
  refine z_ofWX (cc := cX6_mix) (maxL := 3) (ret := none) (by decide) rfl (Nat.le_of_ble_eq_true rfl) ?_
  intro p e s m args below meth c C0 hK hN hD hX hH hT hP ls hl
  obtain ⟨hx, hb, hr, hml, hown, hts, hlk⟩ := id C0
  have hS : va_S (zA [shO G xO, shB G (ad 1 xO), shP G (ad 5 xO)] s.heap.size) s.heap s.heap [] := va_S.rf
  replace hl : lv_has ls 3 [(0, .ref (xO 0)), (1, .int l1), (2, .int l2)] := hl
  have hwX4 : ∀ w ∈ wsX40, w.before args s = true := fun w h => hts w (List.mem_cons_of_mem _ (List.mem_append_left _ (List.mem_append_left _ (List.mem_append_left _ (List.mem_append_left _ (List.mem_append_right _ h))))))
  have hwX6 : ∀ w ∈ wsX60, w.before args s = true := fun w h => hts w (List.mem_cons_of_mem _ (List.mem_append_left _ (List.mem_append_left _ (List.mem_append_left _ (List.mem_append_left _ (List.mem_append_left _ (List.mem_append_right _ h)))))))
  unfold fX6_mix at h
  refine lv_aload_n hx hb dX6_mix_0 rfl (lv_at hl 0 rfl) ?_
  refine rO_5 hx hb hwX6 hown hK hP 0 (xO) rfl rfl (hts _ (List.mem_of_getElem? (i := 7) rfl)) dX6_mix_1 ?_
  refine lv_iconst (v := 2) hx hb dX6_mix_4 (by decide) ?_
  refine lv_icmp_eq (tgt := 18) hx hb dX6_mix_5 (by decide) (fun hc => ?_) (fun hc => ?_)
  · replace h := zt hc h
    refine lv_aload_n hx hb dX6_mix_18 rfl (lv_at hl 0 rfl) ?_
    refine rO_1 hx hb hwX6 hown hK hP 0 (xO) rfl rfl (hts _ (List.mem_of_getElem? (i := 8) rfl)) dX6_mix_19 ?_
    refine lv_iload_n hx hb dX6_mix_22 rfl (lv_at hl 2 rfl) ?_
    obtain ⟨r_1, hg, h⟩ := zb1_e h
    refine z_callV (As := [.int l2]) (rest := []) (i := 0) ⟨hx, hb, hml, hown, hts⟩ (mX4_isOrder l G (ad 5 xO) hg) (cwV 1 hts gX6_mix_X4_isOrder rfl rfl rfl kvX4_isOrder ⟨Nat.le_of_ble_eq_true rfl, Nat.le_of_ble_eq_true rfl⟩) rfl hP hD hK hN hS (Nat.le_refl _) [2] rfl rfl rfl rfl 2 rfl rfl rfl rfl rfl hl.1 rfl (Nat.le_of_ble_eq_true rfl) dX6_mix_23 ⟨Nat.zero_le _, Nat.zero_le _⟩ (fun H locs hP hS => ?_)
    replace hP : zP G [shO G xO, shB G (ad 1 xO), shP G (ad 5 xO)] [eO, eB, eP] H := hP
    refine lv_if_ne (tgt := 39) hx hb dX6_mix_26 (by decide) (fun hc => ?_) (fun hc => ?_)
    · replace h := zf hc h
      refine lv_aload_n hx hb dX6_mix_39 rfl (lv_at hl 0 rfl) ?_
      refine rO_0 hx hb hwX6 hown hK hP 0 (xO) rfl rfl (hts _ (List.mem_of_getElem? (i := 9) rfl)) dX6_mix_40 ?_
      refine lv_iconst (v := 1) hx hb dX6_mix_43 (by decide) ?_
      refine lv_aload_n hx hb dX6_mix_44 rfl (lv_at hl 0 rfl) ?_
      refine rO_1 hx hb hwX6 hown hK hP 0 (xO) rfl rfl (hts _ (List.mem_of_getElem? (i := 8) rfl)) dX6_mix_45 ?_
      refine rNP_6 hx hb hwX4 hown hK hP 2 (ad 5 xO) rfl rfl (hN.f (List.mem_of_getElem? (i := 7) rfl)) dX6_mix_48 ?_
      refine lv_iadd hx hb dX6_mix_51 ?_
      obtain ⟨r_2, hg, h⟩ := zb1_e h
      refine z_callV (As := [.int (((1 : Int32) + (gI eP 6)))]) (rest := []) (i := 0) ⟨hx, hb, hml, hown, hts⟩ (mX1_hasRoom l G (ad 1 xO) hg) (cwV 1 hts gX6_mix_X1_hasRoom rfl rfl rfl kvX1_hasRoom ⟨Nat.le_of_ble_eq_true rfl, Nat.le_of_ble_eq_true rfl⟩) rfl hP hD hK hN hS (Nat.le_refl _) [1] rfl rfl rfl rfl 1 rfl rfl rfl rfl rfl hl.1 rfl (Nat.le_of_ble_eq_true rfl) dX6_mix_52 ⟨Nat.zero_le _, Nat.zero_le _⟩ (fun H locs hP hS => ?_)
      replace hP : zP G [shO G xO, shB G (ad 1 xO), shP G (ad 5 xO)] [eO, eB, eP] H := hP
      refine lv_if_ne (tgt := 68) hx hb dX6_mix_55 (by decide) (fun hc => ?_) (fun hc => ?_)
      · replace h := zf hc h
        refine lv_aload_n hx hb dX6_mix_68 rfl (lv_at hl 0 rfl) ?_
        refine rO_1 hx hb hwX6 hown hK hP 0 (xO) rfl rfl (hts _ (List.mem_of_getElem? (i := 8) rfl)) dX6_mix_69 ?_
        refine lv_iload_n hx hb dX6_mix_72 rfl (lv_at hl 1 rfl) ?_
        refine lv_iload_n hx hb dX6_mix_73 rfl (lv_at hl 2 rfl) ?_
        obtain ⟨uP_3, hg, h⟩ := zb1_e h
        refine z_callV (As := [.int l1, .int l2]) (rest := []) (i := 0) ⟨hx, hb, hml, hown, hts⟩ (mX4_mixEntries l G (ad 5 xO) hg) (cwV 2 hts gX6_mix_X4_mixEntries rfl rfl rfl kvX4_mixEntries ⟨Nat.le_of_ble_eq_true rfl, Nat.le_of_ble_eq_true rfl⟩) rfl hP hD hK hN hS (Nat.le_refl _) [2] rfl rfl rfl rfl 2 rfl rfl rfl rfl rfl hl.1 rfl (Nat.le_of_ble_eq_true rfl) dX6_mix_74 ⟨Nat.zero_le _, Nat.zero_le _⟩ (fun H locs hP hS => ?_)
        replace hP : zP G [shO G xO, shB G (ad 1 xO), shP G (ad 5 xO)] [eO, eB, uP_3] H := hP
        refine lv_aload_n hx hb dX6_mix_77 rfl (lv_at hl 0 rfl) ?_
        refine rO_0 hx hb hwX6 hown hK hP 0 (xO) rfl rfl (hts _ (List.mem_of_getElem? (i := 9) rfl)) dX6_mix_78 ?_
        refine lv_iconst (v := 4) hx hb dX6_mix_81 (by decide) ?_
        refine lv_iload_n hx hb dX6_mix_82 rfl (lv_at hl 1 rfl) ?_
        refine lv_iload_n hx hb dX6_mix_83 rfl (lv_at hl 2 rfl) ?_
        refine lv_iconst (v := 0) hx hb dX6_mix_84 (by decide) ?_
        obtain ⟨r_4, uB_5, hg, h⟩ := zb2_e h
        refine z_callV (As := [.int ((4 : Int32)), .int l1, .int l2, .int ((0 : Int32))]) (rest := []) (i := 0) ⟨hx, hb, hml, hown, hts⟩ (mX1_put l G (ad 1 xO) hg) (cwV 4 hts gX6_mix_X1_put rfl rfl rfl kvX1_put ⟨Nat.le_of_ble_eq_true rfl, Nat.le_of_ble_eq_true rfl⟩) rfl hP hD hK hN hS (Nat.le_refl _) [1] rfl rfl rfl rfl 1 rfl rfl rfl rfl rfl hl.1 rfl (Nat.le_of_ble_eq_true rfl) dX6_mix_85 ⟨Nat.zero_le _, Nat.zero_le _⟩ (fun H locs hP hS => ?_)
        replace hP : zP G [shO G xO, shB G (ad 1 xO), shP G (ad 5 xO)] [eO, uB_5, uP_3] H := hP
        refine lv_pop hx hb dX6_mix_88 rfl ?_
        refine lv_aload_n hx hb dX6_mix_89 rfl (lv_at hl 0 rfl) ?_
        obtain ⟨uB_6, hg, h⟩ := zb1_e h
        refine z_callV (As := []) (rest := []) (i := 0) ⟨hx, hb, hml, hown, hts⟩ (mX6_putEntries l G (xO) hg) (cwV 0 hts gX6_mix_X6_putEntries rfl rfl rfl kvX6_putEntries ⟨Nat.le_of_ble_eq_true rfl, Nat.le_of_ble_eq_true rfl⟩) rfl hP hD hK hN hS (Nat.le_refl _) [0, 1, 2] rfl rfl rfl rfl 0 rfl rfl rfl rfl rfl hl.1 rfl (Nat.le_of_ble_eq_true rfl) dX6_mix_90 ⟨Nat.zero_le _, Nat.zero_le _⟩ (fun H locs hP hS => ?_)
        replace hP : zP G [shO G xO, shB G (ad 1 xO), shP G (ad 5 xO)] [eO, uB_6, uP_3] H := hP
        cases h
        exact z_vretX (x := (uB_6, uP_3)) hx hb hr hlk rfl rfl hP hS dX6_mix_93
      · replace h := zt hc h
        cases h
        exact z_throw (own := RX6) (is := 95) hx hb hfl hown zfit_97 z_sup (hts _ (List.mem_of_getElem? (i := 5) rfl)) (hts _ (List.mem_of_getElem? (i := 6) rfl)) (hX.2.2.2 (95, "no room on the board") (List.mem_of_getElem? (i := 3) rfl)) (fun w h => hts w (List.mem_cons_of_mem _ (List.mem_append_right _ h))) zg2_97 hX zg3_97 hH hP hS (hl.1.trans hml.symm) dX6_mix_58 dX6_mix_61 dX6_mix_62 dX6_mix_64 dX6_mix_67 hT ⟨Nat.le_of_ble_eq_true rfl, Nat.le_of_ble_eq_true rfl, Nat.le_of_ble_eq_true rfl, Nat.le_of_ble_eq_true rfl⟩ hlk rfl
    · replace h := zt hc h
      cases h
      exact z_throw (own := RX6) (is := 138) hx hb hfl hown zfit_55 z_sup (hts _ (List.mem_of_getElem? (i := 3) rfl)) (hts _ (List.mem_of_getElem? (i := 4) rfl)) (hX.2.2.2 (138, "no order of the entries") (List.mem_of_getElem? (i := 8) rfl)) (fun w h => hts w (List.mem_cons_of_mem _ (List.mem_append_left _ (List.mem_append_right _ h)))) zg2_55 hX zg3_55 hH hP hS (hl.1.trans hml.symm) dX6_mix_29 dX6_mix_32 dX6_mix_33 dX6_mix_35 dX6_mix_38 hT ⟨Nat.le_of_ble_eq_true rfl, Nat.le_of_ble_eq_true rfl, Nat.le_of_ble_eq_true rfl, Nat.le_of_ble_eq_true rfl⟩ hlk rfl
  · replace h := zf hc h
    cases h
    exact z_throw (own := RX6) (is := 133) hx hb hfl hown zfit_89 z_sup (hts _ (List.mem_of_getElem? (i := 1) rfl)) (hts _ (List.mem_of_getElem? (i := 2) rfl)) (hX.2.2.2 (133, "not mixing") (List.mem_of_getElem? (i := 7) rfl)) (fun w h => hts w (List.mem_cons_of_mem _ (List.mem_append_left _ (List.mem_append_left _ (List.mem_append_right _ h))))) zg2_89 hX zg3_89 hH hP hS (hl.1.trans hml.symm) dX6_mix_8 dX6_mix_11 dX6_mix_12 dX6_mix_14 dX6_mix_17 hT ⟨Nat.le_of_ble_eq_true rfl, Nat.le_of_ble_eq_true rfl, Nat.le_of_ble_eq_true rfl, Nat.le_of_ble_eq_true rfl⟩ hlk rfl
end
def rmX6_open : Room := { frames := 6, cells := 1, slots := 6, locals := 90 }
theorem kvX6_open : yX6_open.cls = RX6 ∧ yX6_open.cls ≠ "java/lang/invoke/MethodHandle" ∧ yX6_open.cls ≠ "java/lang/invoke/VarHandle" ∧ (parseMethodDescriptor yX6_open.desc).map (fun d => d.parameters.length) = some 2 := by decide +kernel
section
variable {p : Program} {l : Launch} {e : Env} {s : State} {m : MethodId} {args : Array Value} {below : List Frame} {meth : Method} {c : Code} {G : zG} {xO : Nat → Nat} {vO : zSt} {vB : zSt} {vP : zSt} {oo : String ⊕ (zSt × zSt × zSt)} {eO : zSt} {eB : zSt} {eP : zSt}
set_option maxRecDepth 20000 in
theorem tlX6_open_84 (C0 : zCtx p s m args meth c cX6_open RX6 wsX6_open 4 none) (hK : zK G s) (hN : zN s) (hD : zD [shO G xO, shB G (ad 1 xO), shP G (ad 5 xO)]) (hX : zX s) (hH : zH (zA [shO G xO, shB G (ad 1 xO), shP G (ad 5 xO)] s.heap.size) s s.heap) (hfl : l.stackTraces = false) (hT : ∀ x ∈ c.exceptionTable.toList, False)  : ∀ (n : Nat), ∀ (uO : zSt) (uB : zSt) (uP : zSt) (l1 : Int32) (l2 : Int32) (l3 : Int32), lX6_open_84  n uO uB uP l1 l2 l3 = some oo → ∀ (H : Heap) (locs : List Loc), zP G [shO G xO, shB G (ad 1 xO), shP G (ad 5 xO)] [uO, uB, uP] H → va_S (zA [shO G xO, shB G (ad 1 xO), shP G (ad 5 xO)] s.heap.size) s.heap H locs → ∀ ls : Array Slot, lv_has ls 4 [(0, .ref (xO 0)), (1, .int l1), (2, .int l2), (3, .int l3)] → W p l e rmX6_open s m args below meth c H locs 0 0 (vx_MQ below (zQX G [shO G xO, shB G (ad 1 xO), shP G (ad 5 xO)] (zA [shO G xO, shB G (ad 1 xO), shP G (ad 5 xO)] s.heap.size) oo (fun _ => none) (fun x => [x.1, x.2.1, x.2.2])) (zXC G [shO G xO, shB G (ad 1 xO), shP G (ad 5 xO)] [eO, eB, eP] (zA [shO G xO, shB G (ad 1 xO), shP G (ad 5 xO)] s.heap.size) oo) args s 1 6 (zA [shO G xO, shB G (ad 1 xO), shP G (ad 5 xO)] s.heap.size)) (F0 m 84 ls []) := by
  obtain ⟨hx, hb, hr, hml, hown, hts, hlk⟩ := id C0
  have hwX4 : ∀ w ∈ wsX40, w.before args s = true := fun w h => hts w (List.mem_cons_of_mem _ (List.mem_append_left _ (List.mem_append_left _ (List.mem_append_left _ (List.mem_append_left _ (List.mem_append_right _ h))))))
  have hwX6 : ∀ w ∈ wsX60, w.before args s = true := fun w h => hts w (List.mem_cons_of_mem _ (List.mem_append_left _ (List.mem_append_left _ (List.mem_append_left _ (List.mem_append_left _ (List.mem_append_left _ (List.mem_append_right _ h)))))))
  intro n
  induction n with
  | zero => intro uO uB uP l1 l2 l3 h; exact absurd h (fun q => nomatch q)
  | succ n K84 =>
    intro uO uB uP l1 l2 l3 h H locs hP hS ls hl
    replace h : bX6_open_84  (lX6_open_84  n) uO uB uP l1 l2 l3 = some oo := h
    unfold bX6_open_84 at h
    refine lv_iload_n hx hb dX6_open_84 rfl (lv_at hl 3 rfl) ?_
    refine lv_aload_n hx hb dX6_open_85 rfl (lv_at hl 0 rfl) ?_
    refine rO_1 hx hb hwX6 hown hK hP 0 (xO) rfl rfl (hts _ (List.mem_of_getElem? (i := 8) rfl)) dX6_open_86 ?_
    refine rNP_6 hx hb hwX4 hown hK hP 2 (ad 5 xO) rfl rfl (hN.f (List.mem_of_getElem? (i := 7) rfl)) dX6_open_89 ?_
    refine lv_icmp_ge (tgt := 108) hx hb dX6_open_92 (by decide) (fun hc => ?_) (fun hc => ?_)
    · replace h := zt hc h
      refine lv_aload_n hx hb dX6_open_108 rfl (lv_at hl 0 rfl) ?_
      refine rO_1 hx hb hwX6 hown hK hP 0 (xO) rfl rfl (hts _ (List.mem_of_getElem? (i := 8) rfl)) dX6_open_109 ?_
      refine rNP_13 hx hb hwX4 hown hK hP 2 (ad 5 xO) rfl rfl (hN.f (List.mem_of_getElem? (i := 13) rfl)) dX6_open_112 ?_
      refine lv_iload_n hx hb dX6_open_115 rfl (lv_at hl 1 rfl) ?_
      refine lv_iconst (v := 1) hx hb dX6_open_116 (by decide) ?_
      obtain ⟨hi, h⟩ := zin_e h
      refine tP_13 hx hb hK hP hD hS 2 (ad 5 xO) rfl rfl hi rfl vnb_1 dX6_open_117 (fun H locs hP hS => ?_)
      replace hP : zP G [shO G xO, shB G (ad 1 xO), shP G (ad 5 xO)] [uO, uB, (sA uP 13 l1.toNatClampNeg ((1 : Int32)))] H := hP
      refine lv_aload_n hx hb dX6_open_118 rfl (lv_at hl 0 rfl) ?_
      refine lv_iconst (v := 3) hx hb dX6_open_119 (by decide) ?_
      refine pO_5 hx hb hwX6 hown hK hP hD hS 0 (xO) rfl rfl (hts _ (List.mem_of_getElem? (i := 7) rfl)) dX6_open_120 (fun H locs hP hS => ?_)
      replace hP : zP G [shO G xO, shB G (ad 1 xO), shP G (ad 5 xO)] [(sI uO 5 ((3 : Int32))), uB, (sA uP 13 l1.toNatClampNeg ((1 : Int32)))] H := hP
      cases h
      exact z_vretX (x := ((sI uO 5 ((3 : Int32))), uB, (sA uP 13 l1.toNatClampNeg ((1 : Int32))))) hx hb hr hlk rfl rfl hP hS dX6_open_123
    · replace h := zf hc h
      refine lv_aload_n hx hb dX6_open_95 rfl (lv_at hl 0 rfl) ?_
      refine lv_iload_n hx hb dX6_open_96 rfl (lv_at hl 1 rfl) ?_
      refine lv_iload_n hx hb dX6_open_97 rfl (lv_at hl 3 rfl) ?_
      refine lv_iload_n hx hb dX6_open_98 rfl (lv_at hl 2 rfl) ?_
      obtain ⟨uB_1, uP_2, hg, h⟩ := zb2_e h
      refine z_callV (As := [.int l1, .int l3, .int l2]) (rest := []) (i := 0) ⟨hx, hb, hml, hown, hts⟩ (mX6_putShare l G (xO) hg) (cwV 3 hts gX6_open_X6_putShare rfl rfl rfl kvX6_putShare ⟨Nat.le_of_ble_eq_true rfl, Nat.le_of_ble_eq_true rfl⟩) rfl hP hD hK hN hS (Nat.le_refl _) [0, 1, 2] rfl rfl rfl rfl 0 rfl rfl rfl rfl rfl hl.1 rfl (Nat.le_of_ble_eq_true rfl) dX6_open_99 ⟨Nat.zero_le _, Nat.zero_le _⟩ (fun H locs hP hS => ?_)
      replace hP : zP G [shO G xO, shB G (ad 1 xO), shP G (ad 5 xO)] [uO, uB_1, uP_2] H := hP
      refine lv_iinc (v := (l3 + (1 : Int32))) (lv' := [(3, .int ((l3 + (1 : Int32)))), (0, .ref (xO 0)), (1, .int l1), (2, .int l2)]) hx hb dX6_open_102 hl (k := 3) rfl rfl (by decide) rfl (fun ls hl => ?_)
      refine lv_goto (tgt := 84) hx hb dX6_open_105 (by decide) ?_
      exact K84 _ _ _ _ _ _ h _ _ hP hS _ (lv_sub hl [1, 2, 3, 0] rfl)
set_option maxRecDepth 20000 in
theorem tX6_open_33 (C0 : zCtx p s m args meth c cX6_open RX6 wsX6_open 4 none) (hK : zK G s) (hN : zN s) (hD : zD [shO G xO, shB G (ad 1 xO), shP G (ad 5 xO)]) (hX : zX s) (hH : zH (zA [shO G xO, shB G (ad 1 xO), shP G (ad 5 xO)] s.heap.size) s s.heap) (hfl : l.stackTraces = false) (hT : ∀ x ∈ c.exceptionTable.toList, False)  : ∀ (l1 : Int32) (l2 : Int32), bX6_open_33  eO eB eP l1 l2 = some oo → ∀ (H : Heap) (locs : List Loc), zP G [shO G xO, shB G (ad 1 xO), shP G (ad 5 xO)] [eO, eB, eP] H → va_S (zA [shO G xO, shB G (ad 1 xO), shP G (ad 5 xO)] s.heap.size) s.heap H locs → ∀ ls : Array Slot, lv_has ls 4 [(0, .ref (xO 0)), (1, .int l1), (2, .int l2)] → W p l e rmX6_open s m args below meth c H locs 0 0 (vx_MQ below (zQX G [shO G xO, shB G (ad 1 xO), shP G (ad 5 xO)] (zA [shO G xO, shB G (ad 1 xO), shP G (ad 5 xO)] s.heap.size) oo (fun _ => none) (fun x => [x.1, x.2.1, x.2.2])) (zXC G [shO G xO, shB G (ad 1 xO), shP G (ad 5 xO)] [eO, eB, eP] (zA [shO G xO, shB G (ad 1 xO), shP G (ad 5 xO)] s.heap.size) oo) args s 1 6 (zA [shO G xO, shB G (ad 1 xO), shP G (ad 5 xO)] s.heap.size)) (F0 m 33 ls []) := by
  obtain ⟨hx, hb, hr, hml, hown, hts, hlk⟩ := id C0
  have hwX4 : ∀ w ∈ wsX40, w.before args s = true := fun w h => hts w (List.mem_cons_of_mem _ (List.mem_append_left _ (List.mem_append_left _ (List.mem_append_left _ (List.mem_append_left _ (List.mem_append_right _ h))))))
  have hwX6 : ∀ w ∈ wsX60, w.before args s = true := fun w h => hts w (List.mem_cons_of_mem _ (List.mem_append_left _ (List.mem_append_left _ (List.mem_append_left _ (List.mem_append_left _ (List.mem_append_left _ (List.mem_append_right _ h)))))))
  intro l1 l2 h H locs hP hS ls hl
  unfold bX6_open_33 at h
  refine lv_aload_n hx hb dX6_open_33 rfl (lv_at hl 0 rfl) ?_
  refine rO_1 hx hb hwX6 hown hK hP 0 (xO) rfl rfl (hts _ (List.mem_of_getElem? (i := 8) rfl)) dX6_open_34 ?_
  refine rNP_13 hx hb hwX4 hown hK hP 2 (ad 5 xO) rfl rfl (hN.f (List.mem_of_getElem? (i := 13) rfl)) dX6_open_37 ?_
  refine lv_iload_n hx hb dX6_open_40 rfl (lv_at hl 1 rfl) ?_
  obtain ⟨hi, h⟩ := zin_e h
  refine aP_13 hx hb hK hP 2 (ad 5 xO) rfl rfl hi rfl dX6_open_41 ?_
  refine lv_if_eq (tgt := 55) hx hb dX6_open_42 (by decide) (fun hc => ?_) (fun hc => ?_)
  · replace h := zt hc h
    refine lv_aload_n hx hb dX6_open_55 rfl (lv_at hl 0 rfl) ?_
    refine rO_0 hx hb hwX6 hown hK hP 0 (xO) rfl rfl (hts _ (List.mem_of_getElem? (i := 9) rfl)) dX6_open_56 ?_
    refine lv_aload_n hx hb dX6_open_59 rfl (lv_at hl 0 rfl) ?_
    refine rO_1 hx hb hwX6 hown hK hP 0 (xO) rfl rfl (hts _ (List.mem_of_getElem? (i := 8) rfl)) dX6_open_60 ?_
    refine rNP_6 hx hb hwX4 hown hK hP 2 (ad 5 xO) rfl rfl (hN.f (List.mem_of_getElem? (i := 7) rfl)) dX6_open_63 ?_
    obtain ⟨r_3, hg, h⟩ := zb1_e h
    refine z_callV (As := [.int ((gI eP 6))]) (rest := []) (i := 0) ⟨hx, hb, hml, hown, hts⟩ (mX1_hasRoom l G (ad 1 xO) hg) (cwV 1 hts gX6_open_X1_hasRoom rfl rfl rfl kvX1_hasRoom ⟨Nat.le_of_ble_eq_true rfl, Nat.le_of_ble_eq_true rfl⟩) rfl hP hD hK hN hS (Nat.le_refl _) [1] rfl rfl rfl rfl 1 rfl rfl rfl rfl rfl hl.1 rfl (Nat.le_of_ble_eq_true rfl) dX6_open_66 ⟨Nat.zero_le _, Nat.zero_le _⟩ (fun H locs hP hS => ?_)
    replace hP : zP G [shO G xO, shB G (ad 1 xO), shP G (ad 5 xO)] [eO, eB, eP] H := hP
    refine lv_if_ne (tgt := 82) hx hb dX6_open_69 (by decide) (fun hc => ?_) (fun hc => ?_)
    · replace h := zf hc h
      refine lv_iconst (v := 0) hx hb dX6_open_82 (by decide) ?_
      refine lv_istore_n (lv' := [(3, .int ((0 : Int32))), (0, .ref (xO 0)), (1, .int l1), (2, .int l2)]) hx hb dX6_open_83 rfl hl (by decide) rfl (fun ls hl => ?_)
      exact tlX6_open_84 C0 hK hN hD hX hH hfl hT  1000 _ _ _ _ _ _ h _ _ hP hS _ (lv_sub hl [1, 2, 3, 0] rfl)
    · replace h := zt hc h
      cases h
      exact z_throw (own := RX6) (is := 95) hx hb hfl hown zfit_97 z_sup (hts _ (List.mem_of_getElem? (i := 5) rfl)) (hts _ (List.mem_of_getElem? (i := 6) rfl)) (hX.2.2.2 (95, "no room on the board") (List.mem_of_getElem? (i := 3) rfl)) (fun w h => hts w (List.mem_cons_of_mem _ (List.mem_append_right _ h))) zg2_97 hX zg3_97 hH hP hS (hl.1.trans hml.symm) dX6_open_72 dX6_open_75 dX6_open_76 dX6_open_78 dX6_open_81 hT ⟨Nat.le_of_ble_eq_true rfl, Nat.le_of_ble_eq_true rfl, Nat.le_of_ble_eq_true rfl, Nat.le_of_ble_eq_true rfl⟩ hlk rfl
  · replace h := zf hc h
    cases h
    exact z_throw (own := RX6) (is := 152) hx hb hfl hown zfit_89 z_sup (hts _ (List.mem_of_getElem? (i := 3) rfl)) (hts _ (List.mem_of_getElem? (i := 4) rfl)) (hX.2.2.2 (152, "not mixing or opening, or opened before") (List.mem_of_getElem? (i := 10) rfl)) (fun w h => hts w (List.mem_cons_of_mem _ (List.mem_append_left _ (List.mem_append_right _ h)))) zg2_89 hX zg3_89 hH hP hS (hl.1.trans hml.symm) dX6_open_45 dX6_open_48 dX6_open_49 dX6_open_51 dX6_open_54 hT ⟨Nat.le_of_ble_eq_true rfl, Nat.le_of_ble_eq_true rfl, Nat.le_of_ble_eq_true rfl, Nat.le_of_ble_eq_true rfl⟩ hlk rfl
set_option maxRecDepth 20000 in
theorem mX6_open (l : Launch) (hfl : l.stackTraces = false) (G : zG) (xO : Nat → Nat) {eO : zSt} {eB : zSt} {eP : zSt} {l1 : Int32} {l2 : Int32} {oo : String ⊕ (zSt × zSt × zSt)} (h : fX6_open eO eB eP l1 l2 = some oo) : zCX l yX6_open wsX6_open rmX6_open [.ref (xO 0), .int l1, .int l2] G [shO G xO, shB G (ad 1 xO), shP G (ad 5 xO)] [eO, eB, eP] oo (fun _ => none) (fun x => [x.1, x.2.1, x.2.2]) := by
  refine z_ofWX (cc := cX6_open) (maxL := 4) (ret := none) (by decide) rfl (Nat.le_of_ble_eq_true rfl) ?_
  intro p e s m args below meth c C0 hK hN hD hX hH hT hP ls hl
  obtain ⟨hx, hb, hr, hml, hown, hts, hlk⟩ := id C0
  have hS : va_S (zA [shO G xO, shB G (ad 1 xO), shP G (ad 5 xO)] s.heap.size) s.heap s.heap [] := va_S.rf
  replace hl : lv_has ls 4 [(0, .ref (xO 0)), (1, .int l1), (2, .int l2)] := hl
  have hwX6 : ∀ w ∈ wsX60, w.before args s = true := fun w h => hts w (List.mem_cons_of_mem _ (List.mem_append_left _ (List.mem_append_left _ (List.mem_append_left _ (List.mem_append_left _ (List.mem_append_left _ (List.mem_append_right _ h)))))))
  unfold fX6_open at h
  refine lv_iload_n hx hb dX6_open_0 rfl (lv_at hl 1 rfl) ?_
  obtain ⟨r_4, hg, h⟩ := zb1_e h
  refine z_callS (As := [.int l1]) (rest := []) ⟨hx, hb, hml, hown, hts⟩ (mX6_isTrustee l G  hg) (va_cwS 1 hts gX6_open_X6_isTrustee rfl rfl rfl ksX6_isTrustee ⟨Nat.le_of_ble_eq_true rfl, Nat.le_of_ble_eq_true rfl⟩) hP hD hK hN hS (Nat.le_refl _) [] rfl rfl rfl rfl rfl hl.1 rfl (Nat.le_of_ble_eq_true rfl) dX6_open_1 ⟨Nat.zero_le _, Nat.zero_le _⟩ (fun H locs hP hS => ?_)
  replace hP : zP G [shO G xO, shB G (ad 1 xO), shP G (ad 5 xO)] [eO, eB, eP] H := hP
  refine lv_if_ne (tgt := 17) hx hb dX6_open_4 (by decide) (fun hc => ?_) (fun hc => ?_)
  · replace h := zf hc h
    refine lv_aload_n hx hb dX6_open_17 rfl (lv_at hl 0 rfl) ?_
    refine rO_5 hx hb hwX6 hown hK hP 0 (xO) rfl rfl (hts _ (List.mem_of_getElem? (i := 7) rfl)) dX6_open_18 ?_
    refine lv_iconst (v := 2) hx hb dX6_open_21 (by decide) ?_
    refine lv_icmp_eq (tgt := 33) hx hb dX6_open_22 (by decide) (fun hc => ?_) (fun hc => ?_)
    · replace h := zt hc h
      exact tX6_open_33 C0 hK hN hD hX hH hfl hT  _ _ h _ _ hP hS _ (lv_sub hl [0, 1, 2] rfl)
    · replace h := zf hc h
      refine lv_aload_n hx hb dX6_open_25 rfl (lv_at hl 0 rfl) ?_
      refine rO_5 hx hb hwX6 hown hK hP 0 (xO) rfl rfl (hts _ (List.mem_of_getElem? (i := 7) rfl)) dX6_open_26 ?_
      refine lv_iconst (v := 3) hx hb dX6_open_29 (by decide) ?_
      refine lv_icmp_ne (tgt := 45) hx hb dX6_open_30 (by decide) (fun hc => ?_) (fun hc => ?_)
      · replace h := zf hc h
        cases h
        exact z_throw (own := RX6) (is := 152) hx hb hfl hown zfit_89 z_sup (hts _ (List.mem_of_getElem? (i := 3) rfl)) (hts _ (List.mem_of_getElem? (i := 4) rfl)) (hX.2.2.2 (152, "not mixing or opening, or opened before") (List.mem_of_getElem? (i := 10) rfl)) (fun w h => hts w (List.mem_cons_of_mem _ (List.mem_append_left _ (List.mem_append_right _ h)))) zg2_89 hX zg3_89 hH hP hS (hl.1.trans hml.symm) dX6_open_45 dX6_open_48 dX6_open_49 dX6_open_51 dX6_open_54 hT ⟨Nat.le_of_ble_eq_true rfl, Nat.le_of_ble_eq_true rfl, Nat.le_of_ble_eq_true rfl, Nat.le_of_ble_eq_true rfl⟩ hlk rfl
      · replace h := zt hc h
        exact tX6_open_33 C0 hK hN hD hX hH hfl hT  _ _ h _ _ hP hS _ (lv_sub hl [0, 1, 2] rfl)
  · replace h := zt hc h
    cases h
    exact z_throw (own := RX6) (is := 147) hx hb hfl hown zfit_55 z_sup (hts _ (List.mem_of_getElem? (i := 1) rfl)) (hts _ (List.mem_of_getElem? (i := 2) rfl)) (hX.2.2.2 (147, "no such trustee") (List.mem_of_getElem? (i := 9) rfl)) (fun w h => hts w (List.mem_cons_of_mem _ (List.mem_append_left _ (List.mem_append_left _ (List.mem_append_right _ h))))) zg2_55 hX zg3_55 hH hP hS (hl.1.trans hml.symm) dX6_open_7 dX6_open_10 dX6_open_11 dX6_open_13 dX6_open_16 hT ⟨Nat.le_of_ble_eq_true rfl, Nat.le_of_ble_eq_true rfl, Nat.le_of_ble_eq_true rfl, Nat.le_of_ble_eq_true rfl⟩ hlk rfl
end
def rmX6_finish : Room := { frames := 6, cells := 1, slots := 6, locals := 90 }
theorem kvX6_finish : yX6_finish.cls = RX6 ∧ yX6_finish.cls ≠ "java/lang/invoke/MethodHandle" ∧ yX6_finish.cls ≠ "java/lang/invoke/VarHandle" ∧ (parseMethodDescriptor yX6_finish.desc).map (fun d => d.parameters.length) = some 0 := by decide +kernel
section
variable {p : Program} {l : Launch} {e : Env} {s : State} {m : MethodId} {args : Array Value} {below : List Frame} {meth : Method} {c : Code} {G : zG} {xO : Nat → Nat} {rr : Int32} {vO : zSt} {vB : zSt} {vP : zSt} {oo : String ⊕ (Int32 × zSt × zSt × zSt)} {eO : zSt} {eB : zSt} {eP : zSt}
set_option maxRecDepth 20000 in
theorem mX6_finish (l : Launch) (hfl : l.stackTraces = false) (G : zG) (xO : Nat → Nat) {eO : zSt} {eB : zSt} {eP : zSt} {oo : String ⊕ (Int32 × zSt × zSt × zSt)} (h : fX6_finish eO eB eP = some oo) : zCX l yX6_finish wsX6_finish rmX6_finish [.ref (xO 0)] G [shO G xO, shB G (ad 1 xO), shP G (ad 5 xO)] [eO, eB, eP] oo (fun x => some (.int x.1)) (fun x => [x.2.1, x.2.2.1, x.2.2.2]) := by
  refine z_ofWX (cc := cX6_finish) (maxL := 2) (ret := some .int) (by decide) rfl (Nat.le_of_ble_eq_true rfl) ?_
  intro p e s m args below meth c C0 hK hN hD hX hH hT hP ls hl
  obtain ⟨hx, hb, hr, hml, hown, hts, hlk⟩ := id C0
  have hS : va_S (zA [shO G xO, shB G (ad 1 xO), shP G (ad 5 xO)] s.heap.size) s.heap s.heap [] := va_S.rf
  replace hl : lv_has ls 2 [(0, .ref (xO 0))] := hl
  have hwX4 : ∀ w ∈ wsX40, w.before args s = true := fun w h => hts w (List.mem_cons_of_mem _ (List.mem_append_left _ (List.mem_append_left _ (List.mem_append_left _ (List.mem_append_right _ h)))))
  have hwX6 : ∀ w ∈ wsX60, w.before args s = true := fun w h => hts w (List.mem_cons_of_mem _ (List.mem_append_left _ (List.mem_append_left _ (List.mem_append_left _ (List.mem_append_left _ (List.mem_append_right _ h))))))
  unfold fX6_finish at h
  refine lv_aload_n hx hb dX6_finish_0 rfl (lv_at hl 0 rfl) ?_
  refine rO_5 hx hb hwX6 hown hK hP 0 (xO) rfl rfl (hts _ (List.mem_of_getElem? (i := 5) rfl)) dX6_finish_1 ?_
  refine lv_iconst (v := 3) hx hb dX6_finish_4 (by decide) ?_
  refine lv_icmp_ne (tgt := 18) hx hb dX6_finish_5 (by decide) (fun hc => ?_) (fun hc => ?_)
  · replace h := zf hc h
    cases h
    exact z_throw (own := RX6) (is := 161) hx hb hfl hown zfit_89 z_sup (hts _ (List.mem_of_getElem? (i := 1) rfl)) (hts _ (List.mem_of_getElem? (i := 2) rfl)) (hX.2.2.2 (161, "not all have opened, or done before") (List.mem_of_getElem? (i := 11) rfl)) (fun w h => hts w (List.mem_cons_of_mem _ (List.mem_append_left _ (List.mem_append_right _ h)))) zg2_89 hX zg3_89 hH hP hS (hl.1.trans hml.symm) dX6_finish_18 dX6_finish_21 dX6_finish_22 dX6_finish_24 dX6_finish_27 hT ⟨Nat.le_of_ble_eq_true rfl, Nat.le_of_ble_eq_true rfl, Nat.le_of_ble_eq_true rfl, Nat.le_of_ble_eq_true rfl⟩ hlk rfl
  · replace h := zt hc h
    refine lv_aload_n hx hb dX6_finish_8 rfl (lv_at hl 0 rfl) ?_
    refine rO_1 hx hb hwX6 hown hK hP 0 (xO) rfl rfl (hts _ (List.mem_of_getElem? (i := 6) rfl)) dX6_finish_9 ?_
    obtain ⟨r_1, hg, h⟩ := zb1_e h
    refine z_callV (As := []) (rest := []) (i := 0) ⟨hx, hb, hml, hown, hts⟩ (mX4_allOpened l G (ad 5 xO) hg) (cwV 0 hts gX6_finish_X4_allOpened rfl rfl rfl kvX4_allOpened ⟨Nat.le_of_ble_eq_true rfl, Nat.le_of_ble_eq_true rfl⟩) rfl hP hD hK hN hS (Nat.le_refl _) [2] rfl rfl rfl rfl 2 rfl rfl rfl rfl rfl hl.1 rfl (Nat.le_of_ble_eq_true rfl) dX6_finish_12 ⟨Nat.zero_le _, Nat.zero_le _⟩ (fun H locs hP hS => ?_)
    replace hP : zP G [shO G xO, shB G (ad 1 xO), shP G (ad 5 xO)] [eO, eB, eP] H := hP
    refine lv_if_ne (tgt := 28) hx hb dX6_finish_15 (by decide) (fun hc => ?_) (fun hc => ?_)
    · replace h := zf hc h
      refine lv_aload_n hx hb dX6_finish_28 rfl (lv_at hl 0 rfl) ?_
      refine rO_0 hx hb hwX6 hown hK hP 0 (xO) rfl rfl (hts _ (List.mem_of_getElem? (i := 7) rfl)) dX6_finish_29 ?_
      refine lv_iconst (v := 1) hx hb dX6_finish_32 (by decide) ?_
      obtain ⟨r_2, hg, h⟩ := zb1_e h
      refine z_callV (As := [.int ((1 : Int32))]) (rest := []) (i := 0) ⟨hx, hb, hml, hown, hts⟩ (mX1_hasRoom l G (ad 1 xO) hg) (cwV 1 hts gX6_finish_X1_hasRoom rfl rfl rfl kvX1_hasRoom ⟨Nat.le_of_ble_eq_true rfl, Nat.le_of_ble_eq_true rfl⟩) rfl hP hD hK hN hS (Nat.le_refl _) [1] rfl rfl rfl rfl 1 rfl rfl rfl rfl rfl hl.1 rfl (Nat.le_of_ble_eq_true rfl) dX6_finish_33 ⟨Nat.zero_le _, Nat.zero_le _⟩ (fun H locs hP hS => ?_)
      replace hP : zP G [shO G xO, shB G (ad 1 xO), shP G (ad 5 xO)] [eO, eB, eP] H := hP
      refine lv_if_ne (tgt := 49) hx hb dX6_finish_36 (by decide) (fun hc => ?_) (fun hc => ?_)
      · replace h := zf hc h
        refine lv_aload_n hx hb dX6_finish_49 rfl (lv_at hl 0 rfl) ?_
        refine rO_1 hx hb hwX6 hown hK hP 0 (xO) rfl rfl (hts _ (List.mem_of_getElem? (i := 6) rfl)) dX6_finish_50 ?_
        obtain ⟨uP_3, hg, h⟩ := zb1_e h
        refine z_callV (As := []) (rest := []) (i := 0) ⟨hx, hb, hml, hown, hts⟩ (mX4_countVotes l G (ad 5 xO) hg) (cwV 0 hts gX6_finish_X4_countVotes rfl rfl rfl kvX4_countVotes ⟨Nat.le_of_ble_eq_true rfl, Nat.le_of_ble_eq_true rfl⟩) rfl hP hD hK hN hS (Nat.le_refl _) [2] rfl rfl rfl rfl 2 rfl rfl rfl rfl rfl hl.1 rfl (Nat.le_of_ble_eq_true rfl) dX6_finish_53 ⟨Nat.zero_le _, Nat.zero_le _⟩ (fun H locs hP hS => ?_)
        replace hP : zP G [shO G xO, shB G (ad 1 xO), shP G (ad 5 xO)] [eO, eB, uP_3] H := hP
        refine lv_aload_n hx hb dX6_finish_56 rfl (lv_at hl 0 rfl) ?_
        refine rO_0 hx hb hwX6 hown hK hP 0 (xO) rfl rfl (hts _ (List.mem_of_getElem? (i := 7) rfl)) dX6_finish_57 ?_
        refine lv_bipush (v := 7) hx hb dX6_finish_60 (by decide) ?_
        refine lv_aload_n hx hb dX6_finish_62 rfl (lv_at hl 0 rfl) ?_
        refine rO_1 hx hb hwX6 hown hK hP 0 (xO) rfl rfl (hts _ (List.mem_of_getElem? (i := 6) rfl)) dX6_finish_63 ?_
        refine rNP_14 hx hb hwX4 hown hK hP 2 (ad 5 xO) rfl rfl (hN.f (List.mem_of_getElem? (i := 15) rfl)) dX6_finish_66 ?_
        refine lv_iconst (v := 0) hx hb dX6_finish_69 (by decide) ?_
        refine aP_14 hx hb hK hP 2 (ad 5 xO) rfl rfl (zvi tn_0 n0_0 (by decide)) tn_0 dX6_finish_70 ?_
        refine lv_aload_n hx hb dX6_finish_71 rfl (lv_at hl 0 rfl) ?_
        refine rO_1 hx hb hwX6 hown hK hP 0 (xO) rfl rfl (hts _ (List.mem_of_getElem? (i := 6) rfl)) dX6_finish_72 ?_
        refine rNP_14 hx hb hwX4 hown hK hP 2 (ad 5 xO) rfl rfl (hN.f (List.mem_of_getElem? (i := 15) rfl)) dX6_finish_75 ?_
        refine lv_iconst (v := 1) hx hb dX6_finish_78 (by decide) ?_
        refine aP_14 hx hb hK hP 2 (ad 5 xO) rfl rfl (zvi tn_1 n0_1 (by decide)) tn_1 dX6_finish_79 ?_
        refine lv_aload_n hx hb dX6_finish_80 rfl (lv_at hl 0 rfl) ?_
        refine rO_1 hx hb hwX6 hown hK hP 0 (xO) rfl rfl (hts _ (List.mem_of_getElem? (i := 6) rfl)) dX6_finish_81 ?_
        refine rNP_14 hx hb hwX4 hown hK hP 2 (ad 5 xO) rfl rfl (hN.f (List.mem_of_getElem? (i := 15) rfl)) dX6_finish_84 ?_
        refine lv_iconst (v := 2) hx hb dX6_finish_87 (by decide) ?_
        refine aP_14 hx hb hK hP 2 (ad 5 xO) rfl rfl (zvi tn_2 n0_2 (by decide)) tn_2 dX6_finish_88 ?_
        obtain ⟨r_4, uB_5, hg, h⟩ := zb2_e h
        refine z_callV (As := [.int ((7 : Int32)), .int ((gA uP_3 14 0)), .int ((gA uP_3 14 1)), .int ((gA uP_3 14 2))]) (rest := []) (i := 0) ⟨hx, hb, hml, hown, hts⟩ (mX1_put l G (ad 1 xO) hg) (cwV 4 hts gX6_finish_X1_put rfl rfl rfl kvX1_put ⟨Nat.le_of_ble_eq_true rfl, Nat.le_of_ble_eq_true rfl⟩) rfl hP hD hK hN hS (Nat.le_refl _) [1] rfl rfl rfl rfl 1 rfl rfl rfl rfl rfl hl.1 rfl (Nat.le_of_ble_eq_true rfl) dX6_finish_89 ⟨Nat.zero_le _, Nat.zero_le _⟩ (fun H locs hP hS => ?_)
        replace hP : zP G [shO G xO, shB G (ad 1 xO), shP G (ad 5 xO)] [eO, uB_5, uP_3] H := hP
        refine lv_istore_n (lv' := [(1, .int r_4), (0, .ref (xO 0))]) hx hb dX6_finish_92 rfl hl (by decide) rfl (fun ls hl => ?_)
        refine lv_aload_n hx hb dX6_finish_93 rfl (lv_at hl 1 rfl) ?_
        refine rO_0 hx hb hwX6 hown hK hP 0 (xO) rfl rfl (hts _ (List.mem_of_getElem? (i := 7) rfl)) dX6_finish_94 ?_
        refine lv_iload_n hx hb dX6_finish_97 rfl (lv_at hl 0 rfl) ?_
        refine lv_iconst (v := 3) hx hb dX6_finish_98 (by decide) ?_
        refine lv_aload_n hx hb dX6_finish_99 rfl (lv_at hl 1 rfl) ?_
        refine rO_1 hx hb hwX6 hown hK hP 0 (xO) rfl rfl (hts _ (List.mem_of_getElem? (i := 6) rfl)) dX6_finish_100 ?_
        refine rNP_14 hx hb hwX4 hown hK hP 2 (ad 5 xO) rfl rfl (hN.f (List.mem_of_getElem? (i := 15) rfl)) dX6_finish_103 ?_
        refine lv_iconst (v := 3) hx hb dX6_finish_106 (by decide) ?_
        refine aP_14 hx hb hK hP 2 (ad 5 xO) rfl rfl (zvi tn_3 n0_3 (by decide)) tn_3 dX6_finish_107 ?_
        obtain ⟨uB_6, hg, h⟩ := zb1_e h
        refine z_callV (As := [.int r_4, .int ((3 : Int32)), .int ((gA uP_3 14 3))]) (rest := []) (i := 0) ⟨hx, hb, hml, hown, hts⟩ (mX1_write l G (ad 1 xO) hg) (cwV 3 hts gX6_finish_X1_write rfl rfl rfl kvX1_write ⟨Nat.le_of_ble_eq_true rfl, Nat.le_of_ble_eq_true rfl⟩) rfl hP hD hK hN hS (Nat.le_refl _) [1] rfl rfl rfl rfl 1 rfl rfl rfl rfl rfl hl.1 rfl (Nat.le_of_ble_eq_true rfl) dX6_finish_108 ⟨Nat.zero_le _, Nat.zero_le _⟩ (fun H locs hP hS => ?_)
        replace hP : zP G [shO G xO, shB G (ad 1 xO), shP G (ad 5 xO)] [eO, uB_6, uP_3] H := hP
        refine lv_aload_n hx hb dX6_finish_111 rfl (lv_at hl 1 rfl) ?_
        refine lv_iconst (v := 4) hx hb dX6_finish_112 (by decide) ?_
        refine pO_5 hx hb hwX6 hown hK hP hD hS 0 (xO) rfl rfl (hts _ (List.mem_of_getElem? (i := 5) rfl)) dX6_finish_113 (fun H locs hP hS => ?_)
        replace hP : zP G [shO G xO, shB G (ad 1 xO), shP G (ad 5 xO)] [(sI eO 5 ((4 : Int32))), uB_6, uP_3] H := hP
        refine lv_aload_n hx hb dX6_finish_116 rfl (lv_at hl 1 rfl) ?_
        refine rO_1 hx hb hwX6 hown hK hP 0 (xO) rfl rfl (hts _ (List.mem_of_getElem? (i := 6) rfl)) dX6_finish_117 ?_
        refine rNP_14 hx hb hwX4 hown hK hP 2 (ad 5 xO) rfl rfl (hN.f (List.mem_of_getElem? (i := 15) rfl)) dX6_finish_120 ?_
        refine lv_iconst (v := 0) hx hb dX6_finish_123 (by decide) ?_
        refine aP_14 hx hb hK hP 2 (ad 5 xO) rfl rfl (zvi tn_0 n0_0 (by decide)) tn_0 dX6_finish_124 ?_
        refine lv_aload_n hx hb dX6_finish_125 rfl (lv_at hl 1 rfl) ?_
        refine rO_1 hx hb hwX6 hown hK hP 0 (xO) rfl rfl (hts _ (List.mem_of_getElem? (i := 6) rfl)) dX6_finish_126 ?_
        refine rNP_14 hx hb hwX4 hown hK hP 2 (ad 5 xO) rfl rfl (hN.f (List.mem_of_getElem? (i := 15) rfl)) dX6_finish_129 ?_
        refine lv_iconst (v := 1) hx hb dX6_finish_132 (by decide) ?_
        refine aP_14 hx hb hK hP 2 (ad 5 xO) rfl rfl (zvi tn_1 n0_1 (by decide)) tn_1 dX6_finish_133 ?_
        refine lv_iadd hx hb dX6_finish_134 ?_
        refine lv_aload_n hx hb dX6_finish_135 rfl (lv_at hl 1 rfl) ?_
        refine rO_1 hx hb hwX6 hown hK hP 0 (xO) rfl rfl (hts _ (List.mem_of_getElem? (i := 6) rfl)) dX6_finish_136 ?_
        refine rNP_14 hx hb hwX4 hown hK hP 2 (ad 5 xO) rfl rfl (hN.f (List.mem_of_getElem? (i := 15) rfl)) dX6_finish_139 ?_
        refine lv_iconst (v := 2) hx hb dX6_finish_142 (by decide) ?_
        refine aP_14 hx hb hK hP 2 (ad 5 xO) rfl rfl (zvi tn_2 n0_2 (by decide)) tn_2 dX6_finish_143 ?_
        refine lv_iadd hx hb dX6_finish_144 ?_
        refine lv_aload_n hx hb dX6_finish_145 rfl (lv_at hl 1 rfl) ?_
        refine rO_1 hx hb hwX6 hown hK hP 0 (xO) rfl rfl (hts _ (List.mem_of_getElem? (i := 6) rfl)) dX6_finish_146 ?_
        refine rNP_14 hx hb hwX4 hown hK hP 2 (ad 5 xO) rfl rfl (hN.f (List.mem_of_getElem? (i := 15) rfl)) dX6_finish_149 ?_
        refine lv_iconst (v := 3) hx hb dX6_finish_152 (by decide) ?_
        refine aP_14 hx hb hK hP 2 (ad 5 xO) rfl rfl (zvi tn_3 n0_3 (by decide)) tn_3 dX6_finish_153 ?_
        refine lv_iadd hx hb dX6_finish_154 ?_
        cases h
        exact z_iretX (x := (((((gA uP_3 14 0) + (gA uP_3 14 1)) + (gA uP_3 14 2)) + (gA uP_3 14 3)), (sI eO 5 ((4 : Int32))), uB_6, uP_3)) hx hb hr hlk rfl rfl hP hS dX6_finish_155
      · replace h := zt hc h
        cases h
        exact z_throw (own := RX6) (is := 95) hx hb hfl hown zfit_97 z_sup (hts _ (List.mem_of_getElem? (i := 3) rfl)) (hts _ (List.mem_of_getElem? (i := 4) rfl)) (hX.2.2.2 (95, "no room on the board") (List.mem_of_getElem? (i := 3) rfl)) (fun w h => hts w (List.mem_cons_of_mem _ (List.mem_append_right _ h))) zg2_97 hX zg3_97 hH hP hS (hl.1.trans hml.symm) dX6_finish_39 dX6_finish_42 dX6_finish_43 dX6_finish_45 dX6_finish_48 hT ⟨Nat.le_of_ble_eq_true rfl, Nat.le_of_ble_eq_true rfl, Nat.le_of_ble_eq_true rfl, Nat.le_of_ble_eq_true rfl⟩ hlk rfl
    · replace h := zt hc h
      cases h
      exact z_throw (own := RX6) (is := 161) hx hb hfl hown zfit_89 z_sup (hts _ (List.mem_of_getElem? (i := 1) rfl)) (hts _ (List.mem_of_getElem? (i := 2) rfl)) (hX.2.2.2 (161, "not all have opened, or done before") (List.mem_of_getElem? (i := 11) rfl)) (fun w h => hts w (List.mem_cons_of_mem _ (List.mem_append_left _ (List.mem_append_right _ h)))) zg2_89 hX zg3_89 hH hP hS (hl.1.trans hml.symm) dX6_finish_18 dX6_finish_21 dX6_finish_22 dX6_finish_24 dX6_finish_27 hT ⟨Nat.le_of_ble_eq_true rfl, Nat.le_of_ble_eq_true rfl, Nat.le_of_ble_eq_true rfl, Nat.le_of_ble_eq_true rfl⟩ hlk rfl
end
def rmX6_votes : Room := { frames := 6, cells := 1, slots := 6, locals := 90 }
theorem kvX6_votes : yX6_votes.cls = RX6 ∧ yX6_votes.cls ≠ "java/lang/invoke/MethodHandle" ∧ yX6_votes.cls ≠ "java/lang/invoke/VarHandle" ∧ (parseMethodDescriptor yX6_votes.desc).map (fun d => d.parameters.length) = some 1 := by decide +kernel
section
variable {p : Program} {l : Launch} {e : Env} {s : State} {m : MethodId} {args : Array Value} {below : List Frame} {meth : Method} {c : Code} {G : zG} {xO : Nat → Nat} {rr : Int32} {oo : String ⊕ (Int32)} {eO : zSt} {eP : zSt}
set_option maxRecDepth 20000 in
theorem mX6_votes (l : Launch) (hfl : l.stackTraces = false) (G : zG) (xO : Nat → Nat) {eO : zSt} {eP : zSt} {l1 : Int32} {oo : String ⊕ (Int32)} (h : fX6_votes eO eP l1 = some oo) : zCX l yX6_votes wsX6_votes rmX6_votes [.ref (xO 0), .int l1] G [shO G xO, shP G (ad 5 xO)] [eO, eP] oo (fun x => some (.int x)) (fun _ => [eO, eP]) := by
  refine z_ofWX (cc := cX6_votes) (maxL := 2) (ret := some .int) (by decide) rfl (Nat.le_of_ble_eq_true rfl) ?_
  intro p e s m args below meth c C0 hK hN hD hX hH hT hP ls hl
  obtain ⟨hx, hb, hr, hml, hown, hts, hlk⟩ := id C0
  have hS : va_S (zA [shO G xO, shP G (ad 5 xO)] s.heap.size) s.heap s.heap [] := va_S.rf
  replace hl : lv_has ls 2 [(0, .ref (xO 0)), (1, .int l1)] := hl
  have hwX4 : ∀ w ∈ wsX40, w.before args s = true := fun w h => hts w (List.mem_cons_of_mem _ (List.mem_append_left _ (List.mem_append_right _ h)))
  have hwX6 : ∀ w ∈ wsX60, w.before args s = true := fun w h => hts w (List.mem_cons_of_mem _ (List.mem_append_left _ (List.mem_append_left _ (List.mem_append_right _ h))))
  unfold fX6_votes at h
  refine lv_iload_n hx hb dX6_votes_0 rfl (lv_at hl 1 rfl) ?_
  obtain ⟨r_1, hg, h⟩ := zb1_e h
  refine z_callS (As := [.int l1]) (rest := []) ⟨hx, hb, hml, hown, hts⟩ (mX6_isChoice l G  hg) (va_cwS 1 hts gX6_votes_X6_isChoice rfl rfl rfl ksX6_isChoice ⟨Nat.le_of_ble_eq_true rfl, Nat.le_of_ble_eq_true rfl⟩) hP hD hK hN hS (Nat.le_refl _) [] rfl rfl rfl rfl rfl hl.1 rfl (Nat.le_of_ble_eq_true rfl) dX6_votes_1 ⟨Nat.zero_le _, Nat.zero_le _⟩ (fun H locs hP hS => ?_)
  replace hP : zP G [shO G xO, shP G (ad 5 xO)] [eO, eP] H := hP
  refine lv_if_ne (tgt := 17) hx hb dX6_votes_4 (by decide) (fun hc => ?_) (fun hc => ?_)
  · replace h := zf hc h
    refine lv_aload_n hx hb dX6_votes_17 rfl (lv_at hl 0 rfl) ?_
    refine rO_5 hx hb hwX6 hown hK hP 0 (xO) rfl rfl (hts _ (List.mem_of_getElem? (i := 3) rfl)) dX6_votes_18 ?_
    refine lv_iconst (v := 4) hx hb dX6_votes_21 (by decide) ?_
    refine lv_icmp_ne (tgt := 37) hx hb dX6_votes_22 (by decide) (fun hc => ?_) (fun hc => ?_)
    · replace h := zf hc h
      refine lv_iconst (v := (-1)) hx hb dX6_votes_37 (by decide) ?_
      cases h
      exact z_iretX (x := ((-1 : Int32))) hx hb hr hlk rfl rfl hP hS dX6_votes_38
    · replace h := zt hc h
      refine lv_aload_n hx hb dX6_votes_25 rfl (lv_at hl 0 rfl) ?_
      refine rO_1 hx hb hwX6 hown hK hP 0 (xO) rfl rfl (hts _ (List.mem_of_getElem? (i := 4) rfl)) dX6_votes_26 ?_
      refine rNP_14 hx hb hwX4 hown hK hP 1 (ad 5 xO) rfl rfl (hN.f (List.mem_of_getElem? (i := 15) rfl)) dX6_votes_29 ?_
      refine lv_iload_n hx hb dX6_votes_32 rfl (lv_at hl 1 rfl) ?_
      obtain ⟨hi, h⟩ := zin_e h
      refine aP_14 hx hb hK hP 1 (ad 5 xO) rfl rfl hi rfl dX6_votes_33 ?_
      refine lv_goto (tgt := 38) hx hb dX6_votes_34 (by decide) ?_
      cases h
      exact z_iretX (x := ((gA eP 14 l1.toNatClampNeg))) hx hb hr hlk rfl rfl hP hS dX6_votes_38
  · replace h := zt hc h
    cases h
    exact z_throw (own := RX6) (is := 172) hx hb hfl hown zfit_55 z_sup (hts _ (List.mem_of_getElem? (i := 1) rfl)) (hts _ (List.mem_of_getElem? (i := 2) rfl)) (hX.2.2.2 (172, "no such choice") (List.mem_of_getElem? (i := 12) rfl)) (fun w h => hts w (List.mem_cons_of_mem _ (List.mem_append_right _ h))) zg2_55 hX zg3_55 hH hP hS (hl.1.trans hml.symm) dX6_votes_7 dX6_votes_10 dX6_votes_11 dX6_votes_13 dX6_votes_16 hT ⟨Nat.le_of_ble_eq_true rfl, Nat.le_of_ble_eq_true rfl, Nat.le_of_ble_eq_true rfl, Nat.le_of_ble_eq_true rfl⟩ hlk rfl
end
def rmX6_field : Room := { frames := 6, cells := 1, slots := 6, locals := 90 }
theorem kvX6_field : yX6_field.cls = RX6 ∧ yX6_field.cls ≠ "java/lang/invoke/MethodHandle" ∧ yX6_field.cls ≠ "java/lang/invoke/VarHandle" ∧ (parseMethodDescriptor yX6_field.desc).map (fun d => d.parameters.length) = some 2 := by decide +kernel
section
variable {p : Program} {l : Launch} {e : Env} {s : State} {m : MethodId} {args : Array Value} {below : List Frame} {meth : Method} {c : Code} {G : zG} {xO : Nat → Nat} {rr : Int32} {oo : String ⊕ (Int32)} {eO : zSt} {eB : zSt}
set_option maxRecDepth 20000 in
theorem mX6_field (l : Launch) (hfl : l.stackTraces = false) (G : zG) (xO : Nat → Nat) {eO : zSt} {eB : zSt} {l1 : Int32} {l2 : Int32} {oo : String ⊕ (Int32)} (h : fX6_field eO eB l1 l2 = some oo) : zCX l yX6_field wsX6_field rmX6_field [.ref (xO 0), .int l1, .int l2] G [shO G xO, shB G (ad 1 xO)] [eO, eB] oo (fun x => some (.int x)) (fun _ => [eO, eB]) := by
  refine z_ofWX (cc := cX6_field) (maxL := 3) (ret := some .int) (by decide) rfl (Nat.le_of_ble_eq_true rfl) ?_
  intro p e s m args below meth c C0 hK hN hD hX hH hT hP ls hl
  obtain ⟨hx, hb, hr, hml, hown, hts, hlk⟩ := id C0
  have hS : va_S (zA [shO G xO, shB G (ad 1 xO)] s.heap.size) s.heap s.heap [] := va_S.rf
  replace hl : lv_has ls 3 [(0, .ref (xO 0)), (1, .int l1), (2, .int l2)] := hl
  have hwX6 : ∀ w ∈ wsX60, w.before args s = true := fun w h => hts w (List.mem_cons_of_mem _ (List.mem_append_left _ (List.mem_append_left _ (List.mem_append_right _ h))))
  unfold fX6_field at h
  refine lv_aload_n hx hb dX6_field_0 rfl (lv_at hl 0 rfl) ?_
  refine rO_0 hx hb hwX6 hown hK hP 0 (xO) rfl rfl (hts _ (List.mem_of_getElem? (i := 3) rfl)) dX6_field_1 ?_
  refine lv_iload_n hx hb dX6_field_4 rfl (lv_at hl 1 rfl) ?_
  obtain ⟨r_1, hg, h⟩ := zb1_e h
  refine z_callV (As := [.int l1]) (rest := []) (i := 0) ⟨hx, hb, hml, hown, hts⟩ (mX1_has l G (ad 1 xO) hg) (cwV 1 hts gX6_field_X1_has rfl rfl rfl kvX1_has ⟨Nat.le_of_ble_eq_true rfl, Nat.le_of_ble_eq_true rfl⟩) rfl hP hD hK hN hS (Nat.le_refl _) [1] rfl rfl rfl rfl 1 rfl rfl rfl rfl rfl hl.1 rfl (Nat.le_of_ble_eq_true rfl) dX6_field_5 ⟨Nat.zero_le _, Nat.zero_le _⟩ (fun H locs hP hS => ?_)
  replace hP : zP G [shO G xO, shB G (ad 1 xO)] [eO, eB] H := hP
  refine lv_if_eq (tgt := 21) hx hb dX6_field_8 (by decide) (fun hc => ?_) (fun hc => ?_)
  · replace h := zt hc h
    cases h
    exact z_throw (own := RX6) (is := 182) hx hb hfl hown zfit_184 z_sup (hts _ (List.mem_of_getElem? (i := 1) rfl)) (hts _ (List.mem_of_getElem? (i := 2) rfl)) (hX.2.2.2 (182, "no such record or field") (List.mem_of_getElem? (i := 13) rfl)) (fun w h => hts w (List.mem_cons_of_mem _ (List.mem_append_right _ h))) zg2_184 hX zg3_184 hH hP hS (hl.1.trans hml.symm) dX6_field_21 dX6_field_24 dX6_field_25 dX6_field_27 dX6_field_30 hT ⟨Nat.le_of_ble_eq_true rfl, Nat.le_of_ble_eq_true rfl, Nat.le_of_ble_eq_true rfl, Nat.le_of_ble_eq_true rfl⟩ hlk rfl
  · replace h := zf hc h
    refine lv_iload_n hx hb dX6_field_11 rfl (lv_at hl 2 rfl) ?_
    refine lv_if_lt (tgt := 21) hx hb dX6_field_12 (by decide) (fun hc => ?_) (fun hc => ?_)
    · replace h := zt hc h
      cases h
      exact z_throw (own := RX6) (is := 182) hx hb hfl hown zfit_184 z_sup (hts _ (List.mem_of_getElem? (i := 1) rfl)) (hts _ (List.mem_of_getElem? (i := 2) rfl)) (hX.2.2.2 (182, "no such record or field") (List.mem_of_getElem? (i := 13) rfl)) (fun w h => hts w (List.mem_cons_of_mem _ (List.mem_append_right _ h))) zg2_184 hX zg3_184 hH hP hS (hl.1.trans hml.symm) dX6_field_21 dX6_field_24 dX6_field_25 dX6_field_27 dX6_field_30 hT ⟨Nat.le_of_ble_eq_true rfl, Nat.le_of_ble_eq_true rfl, Nat.le_of_ble_eq_true rfl, Nat.le_of_ble_eq_true rfl⟩ hlk rfl
    · replace h := zf hc h
      refine lv_iload_n hx hb dX6_field_15 rfl (lv_at hl 2 rfl) ?_
      refine lv_bipush (v := 6) hx hb dX6_field_16 (by decide) ?_
      refine lv_icmp_le (tgt := 31) hx hb dX6_field_18 (by decide) (fun hc => ?_) (fun hc => ?_)
      · replace h := zt hc h
        refine lv_iload_n hx hb dX6_field_31 rfl (lv_at hl 2 rfl) ?_
        refine lv_if_ne (tgt := 46) hx hb dX6_field_32 (by decide) (fun hc => ?_) (fun hc => ?_)
        · replace h := zf hc h
          refine lv_aload_n hx hb dX6_field_46 rfl (lv_at hl 0 rfl) ?_
          refine rO_0 hx hb hwX6 hown hK hP 0 (xO) rfl rfl (hts _ (List.mem_of_getElem? (i := 3) rfl)) dX6_field_47 ?_
          refine lv_iload_n hx hb dX6_field_50 rfl (lv_at hl 1 rfl) ?_
          refine lv_iload_n hx hb dX6_field_51 rfl (lv_at hl 2 rfl) ?_
          refine lv_iconst (v := 1) hx hb dX6_field_52 (by decide) ?_
          refine lv_isub hx hb dX6_field_53 ?_
          obtain ⟨r_2, hg, h⟩ := zb1_e h
          refine z_callV (As := [.int l1, .int ((l2 - (1 : Int32)))]) (rest := []) (i := 0) ⟨hx, hb, hml, hown, hts⟩ (mX1_number l G (ad 1 xO) hg) (cwV 2 hts gX6_field_X1_number rfl rfl rfl kvX1_number ⟨Nat.le_of_ble_eq_true rfl, Nat.le_of_ble_eq_true rfl⟩) rfl hP hD hK hN hS (Nat.le_refl _) [1] rfl rfl rfl rfl 1 rfl rfl rfl rfl rfl hl.1 rfl (Nat.le_of_ble_eq_true rfl) dX6_field_54 ⟨Nat.zero_le _, Nat.zero_le _⟩ (fun H locs hP hS => ?_)
          replace hP : zP G [shO G xO, shB G (ad 1 xO)] [eO, eB] H := hP
          cases h
          exact z_iretX (x := r_2) hx hb hr hlk rfl rfl hP hS dX6_field_57
        · replace h := zt hc h
          refine lv_aload_n hx hb dX6_field_35 rfl (lv_at hl 0 rfl) ?_
          refine rO_0 hx hb hwX6 hown hK hP 0 (xO) rfl rfl (hts _ (List.mem_of_getElem? (i := 3) rfl)) dX6_field_36 ?_
          refine lv_iload_n hx hb dX6_field_39 rfl (lv_at hl 1 rfl) ?_
          obtain ⟨r_3, hg, h⟩ := zb1_e h
          refine z_callV (As := [.int l1]) (rest := []) (i := 0) ⟨hx, hb, hml, hown, hts⟩ (mX1_kind l G (ad 1 xO) hg) (cwV 1 hts gX6_field_X1_kind rfl rfl rfl kvX1_kind ⟨Nat.le_of_ble_eq_true rfl, Nat.le_of_ble_eq_true rfl⟩) rfl hP hD hK hN hS (Nat.le_refl _) [1] rfl rfl rfl rfl 1 rfl rfl rfl rfl rfl hl.1 rfl (Nat.le_of_ble_eq_true rfl) dX6_field_40 ⟨Nat.zero_le _, Nat.zero_le _⟩ (fun H locs hP hS => ?_)
          replace hP : zP G [shO G xO, shB G (ad 1 xO)] [eO, eB] H := hP
          refine lv_goto (tgt := 57) hx hb dX6_field_43 (by decide) ?_
          cases h
          exact z_iretX (x := r_3) hx hb hr hlk rfl rfl hP hS dX6_field_57
      · replace h := zf hc h
        cases h
        exact z_throw (own := RX6) (is := 182) hx hb hfl hown zfit_184 z_sup (hts _ (List.mem_of_getElem? (i := 1) rfl)) (hts _ (List.mem_of_getElem? (i := 2) rfl)) (hX.2.2.2 (182, "no such record or field") (List.mem_of_getElem? (i := 13) rfl)) (fun w h => hts w (List.mem_cons_of_mem _ (List.mem_append_right _ h))) zg2_184 hX zg3_184 hH hP hS (hl.1.trans hml.symm) dX6_field_21 dX6_field_24 dX6_field_25 dX6_field_27 dX6_field_30 hT ⟨Nat.le_of_ble_eq_true rfl, Nat.le_of_ble_eq_true rfl, Nat.le_of_ble_eq_true rfl, Nat.le_of_ble_eq_true rfl⟩ hlk rfl
end
def rmX6_forge : Room := { frames := 6, cells := 1, slots := 6, locals := 90 }
theorem kvX6_forge : yX6_forge.cls = RX6 ∧ yX6_forge.cls ≠ "java/lang/invoke/MethodHandle" ∧ yX6_forge.cls ≠ "java/lang/invoke/VarHandle" ∧ (parseMethodDescriptor yX6_forge.desc).map (fun d => d.parameters.length) = some 3 := by decide +kernel
section
variable {p : Program} {l : Launch} {e : Env} {s : State} {m : MethodId} {args : Array Value} {below : List Frame} {meth : Method} {c : Code} {G : zG} {xO : Nat → Nat} {rr : Int32} {vB : zSt} {oo : String ⊕ (Int32 × zSt)} {eO : zSt} {eB : zSt}
set_option maxRecDepth 20000 in
theorem mX6_forge (l : Launch) (hfl : l.stackTraces = false) (G : zG) (xO : Nat → Nat) {eO : zSt} {eB : zSt} {l1 : Int32} {l2 : Int32} {l3 : Int32} {oo : String ⊕ (Int32 × zSt)} (h : fX6_forge eO eB l1 l2 l3 = some oo) : zCX l yX6_forge wsX6_forge rmX6_forge [.ref (xO 0), .int l1, .int l2, .int l3] G [shO G xO, shB G (ad 1 xO)] [eO, eB] oo (fun x => some (.int x.1)) (fun x => [eO, x.2]) := by
  refine z_ofWX (cc := cX6_forge) (maxL := 5) (ret := some .int) (by decide) rfl (Nat.le_of_ble_eq_true rfl) ?_
  intro p e s m args below meth c C0 hK hN hD hX hH hT hP ls hl
  obtain ⟨hx, hb, hr, hml, hown, hts, hlk⟩ := id C0
  have hS : va_S (zA [shO G xO, shB G (ad 1 xO)] s.heap.size) s.heap s.heap [] := va_S.rf
  replace hl : lv_has ls 5 [(0, .ref (xO 0)), (1, .int l1), (2, .int l2), (3, .int l3)] := hl
  have hwX6 : ∀ w ∈ wsX60, w.before args s = true := fun w h => hts w (List.mem_cons_of_mem _ (List.mem_append_left _ (List.mem_append_left _ (List.mem_append_right _ h))))
  unfold fX6_forge at h
  refine lv_aload_n hx hb dX6_forge_0 rfl (lv_at hl 0 rfl) ?_
  refine rO_0 hx hb hwX6 hown hK hP 0 (xO) rfl rfl (hts _ (List.mem_of_getElem? (i := 3) rfl)) dX6_forge_1 ?_
  refine lv_iload_n hx hb dX6_forge_4 rfl (lv_at hl 1 rfl) ?_
  obtain ⟨r_1, hg, h⟩ := zb1_e h
  refine z_callV (As := [.int l1]) (rest := []) (i := 0) ⟨hx, hb, hml, hown, hts⟩ (mX1_has l G (ad 1 xO) hg) (cwV 1 hts gX6_forge_X1_has rfl rfl rfl kvX1_has ⟨Nat.le_of_ble_eq_true rfl, Nat.le_of_ble_eq_true rfl⟩) rfl hP hD hK hN hS (Nat.le_refl _) [1] rfl rfl rfl rfl 1 rfl rfl rfl rfl rfl hl.1 rfl (Nat.le_of_ble_eq_true rfl) dX6_forge_5 ⟨Nat.zero_le _, Nat.zero_le _⟩ (fun H locs hP hS => ?_)
  replace hP : zP G [shO G xO, shB G (ad 1 xO)] [eO, eB] H := hP
  refine lv_if_eq (tgt := 22) hx hb dX6_forge_8 (by decide) (fun hc => ?_) (fun hc => ?_)
  · replace h := zt hc h
    cases h
    exact z_throw (own := RX6) (is := 182) hx hb hfl hown zfit_184 z_sup (hts _ (List.mem_of_getElem? (i := 1) rfl)) (hts _ (List.mem_of_getElem? (i := 2) rfl)) (hX.2.2.2 (182, "no such record or field") (List.mem_of_getElem? (i := 13) rfl)) (fun w h => hts w (List.mem_cons_of_mem _ (List.mem_append_right _ h))) zg2_184 hX zg3_184 hH hP hS (hl.1.trans hml.symm) dX6_forge_22 dX6_forge_25 dX6_forge_26 dX6_forge_28 dX6_forge_31 hT ⟨Nat.le_of_ble_eq_true rfl, Nat.le_of_ble_eq_true rfl, Nat.le_of_ble_eq_true rfl, Nat.le_of_ble_eq_true rfl⟩ hlk rfl
  · replace h := zf hc h
    refine lv_iload_n hx hb dX6_forge_11 rfl (lv_at hl 2 rfl) ?_
    refine lv_iconst (v := 1) hx hb dX6_forge_12 (by decide) ?_
    refine lv_icmp_lt (tgt := 22) hx hb dX6_forge_13 (by decide) (fun hc => ?_) (fun hc => ?_)
    · replace h := zt hc h
      cases h
      exact z_throw (own := RX6) (is := 182) hx hb hfl hown zfit_184 z_sup (hts _ (List.mem_of_getElem? (i := 1) rfl)) (hts _ (List.mem_of_getElem? (i := 2) rfl)) (hX.2.2.2 (182, "no such record or field") (List.mem_of_getElem? (i := 13) rfl)) (fun w h => hts w (List.mem_cons_of_mem _ (List.mem_append_right _ h))) zg2_184 hX zg3_184 hH hP hS (hl.1.trans hml.symm) dX6_forge_22 dX6_forge_25 dX6_forge_26 dX6_forge_28 dX6_forge_31 hT ⟨Nat.le_of_ble_eq_true rfl, Nat.le_of_ble_eq_true rfl, Nat.le_of_ble_eq_true rfl, Nat.le_of_ble_eq_true rfl⟩ hlk rfl
    · replace h := zf hc h
      refine lv_iload_n hx hb dX6_forge_16 rfl (lv_at hl 2 rfl) ?_
      refine lv_bipush (v := 6) hx hb dX6_forge_17 (by decide) ?_
      refine lv_icmp_le (tgt := 32) hx hb dX6_forge_19 (by decide) (fun hc => ?_) (fun hc => ?_)
      · replace h := zt hc h
        refine lv_aload_n hx hb dX6_forge_32 rfl (lv_at hl 0 rfl) ?_
        refine rO_0 hx hb hwX6 hown hK hP 0 (xO) rfl rfl (hts _ (List.mem_of_getElem? (i := 3) rfl)) dX6_forge_33 ?_
        refine lv_iload_n hx hb dX6_forge_36 rfl (lv_at hl 1 rfl) ?_
        refine lv_iload_n hx hb dX6_forge_37 rfl (lv_at hl 2 rfl) ?_
        refine lv_iconst (v := 1) hx hb dX6_forge_38 (by decide) ?_
        refine lv_isub hx hb dX6_forge_39 ?_
        obtain ⟨r_2, hg, h⟩ := zb1_e h
        refine z_callV (As := [.int l1, .int ((l2 - (1 : Int32)))]) (rest := []) (i := 0) ⟨hx, hb, hml, hown, hts⟩ (mX1_number l G (ad 1 xO) hg) (cwV 2 hts gX6_forge_X1_number rfl rfl rfl kvX1_number ⟨Nat.le_of_ble_eq_true rfl, Nat.le_of_ble_eq_true rfl⟩) rfl hP hD hK hN hS (Nat.le_refl _) [1] rfl rfl rfl rfl 1 rfl rfl rfl rfl rfl hl.1 rfl (Nat.le_of_ble_eq_true rfl) dX6_forge_40 ⟨Nat.zero_le _, Nat.zero_le _⟩ (fun H locs hP hS => ?_)
        replace hP : zP G [shO G xO, shB G (ad 1 xO)] [eO, eB] H := hP
        refine lv_istore (lv' := [(4, .int r_2), (0, .ref (xO 0)), (1, .int l1), (2, .int l2), (3, .int l3)]) hx hb dX6_forge_43 hl (by decide) rfl (fun ls hl => ?_)
        refine lv_aload_n hx hb dX6_forge_45 rfl (lv_at hl 1 rfl) ?_
        refine rO_0 hx hb hwX6 hown hK hP 0 (xO) rfl rfl (hts _ (List.mem_of_getElem? (i := 3) rfl)) dX6_forge_46 ?_
        refine lv_iload_n hx hb dX6_forge_49 rfl (lv_at hl 2 rfl) ?_
        refine lv_iload_n hx hb dX6_forge_50 rfl (lv_at hl 3 rfl) ?_
        refine lv_iconst (v := 1) hx hb dX6_forge_51 (by decide) ?_
        refine lv_isub hx hb dX6_forge_52 ?_
        refine lv_iload_n hx hb dX6_forge_53 rfl (lv_at hl 4 rfl) ?_
        obtain ⟨uB_3, hg, h⟩ := zb1_e h
        refine z_callV (As := [.int l1, .int ((l2 - (1 : Int32))), .int l3]) (rest := []) (i := 0) ⟨hx, hb, hml, hown, hts⟩ (mX1_write l G (ad 1 xO) hg) (cwV 3 hts gX6_forge_X1_write rfl rfl rfl kvX1_write ⟨Nat.le_of_ble_eq_true rfl, Nat.le_of_ble_eq_true rfl⟩) rfl hP hD hK hN hS (Nat.le_refl _) [1] rfl rfl rfl rfl 1 rfl rfl rfl rfl rfl hl.1 rfl (Nat.le_of_ble_eq_true rfl) dX6_forge_54 ⟨Nat.zero_le _, Nat.zero_le _⟩ (fun H locs hP hS => ?_)
        replace hP : zP G [shO G xO, shB G (ad 1 xO)] [eO, uB_3] H := hP
        refine lv_iload hx hb dX6_forge_57 (lv_at hl 0 rfl) ?_
        cases h
        exact z_iretX (x := (r_2, uB_3)) hx hb hr hlk rfl rfl hP hS dX6_forge_59
      · replace h := zf hc h
        cases h
        exact z_throw (own := RX6) (is := 182) hx hb hfl hown zfit_184 z_sup (hts _ (List.mem_of_getElem? (i := 1) rfl)) (hts _ (List.mem_of_getElem? (i := 2) rfl)) (hX.2.2.2 (182, "no such record or field") (List.mem_of_getElem? (i := 13) rfl)) (fun w h => hts w (List.mem_cons_of_mem _ (List.mem_append_right _ h))) zg2_184 hX zg3_184 hH hP hS (hl.1.trans hml.symm) dX6_forge_22 dX6_forge_25 dX6_forge_26 dX6_forge_28 dX6_forge_31 hT ⟨Nat.le_of_ble_eq_true rfl, Nat.le_of_ble_eq_true rfl, Nat.le_of_ble_eq_true rfl, Nat.le_of_ble_eq_true rfl⟩ hlk rfl
end
def rmX6_leaf : Room := { frames := 6, cells := 1, slots := 6, locals := 90 }
theorem kvX6_leaf : yX6_leaf.cls = RX6 ∧ yX6_leaf.cls ≠ "java/lang/invoke/MethodHandle" ∧ yX6_leaf.cls ≠ "java/lang/invoke/VarHandle" ∧ (parseMethodDescriptor yX6_leaf.desc).map (fun d => d.parameters.length) = some 1 := by decide +kernel
section
variable {p : Program} {l : Launch} {e : Env} {s : State} {m : MethodId} {args : Array Value} {below : List Frame} {meth : Method} {c : Code} {G : zG} {xO : Nat → Nat} {rr : Int64} {oo : String ⊕ (Int64)} {eO : zSt} {eB : zSt}
set_option maxRecDepth 20000 in
theorem mX6_leaf (l : Launch) (hfl : l.stackTraces = false) (G : zG) (xO : Nat → Nat) {eO : zSt} {eB : zSt} {l1 : Int32} {oo : String ⊕ (Int64)} (h : fX6_leaf eO eB l1 = some oo) : zCX l yX6_leaf wsX6_leaf rmX6_leaf [.ref (xO 0), .int l1] G [shO G xO, shB G (ad 1 xO)] [eO, eB] oo (fun x => some (.long x)) (fun _ => [eO, eB]) := by
  refine z_ofWX (cc := cX6_leaf) (maxL := 2) (ret := some .long) (by decide) rfl (Nat.le_of_ble_eq_true rfl) ?_
  intro p e s m args below meth c C0 hK hN hD hX hH hT hP ls hl
  obtain ⟨hx, hb, hr, hml, hown, hts, hlk⟩ := id C0
  have hS : va_S (zA [shO G xO, shB G (ad 1 xO)] s.heap.size) s.heap s.heap [] := va_S.rf
  replace hl : lv_has ls 2 [(0, .ref (xO 0)), (1, .int l1)] := hl
  have hwX6 : ∀ w ∈ wsX60, w.before args s = true := fun w h => hts w (List.mem_cons_of_mem _ (List.mem_append_left _ (List.mem_append_left _ (List.mem_append_right _ h))))
  unfold fX6_leaf at h
  refine lv_aload_n hx hb dX6_leaf_0 rfl (lv_at hl 0 rfl) ?_
  refine rO_0 hx hb hwX6 hown hK hP 0 (xO) rfl rfl (hts _ (List.mem_of_getElem? (i := 3) rfl)) dX6_leaf_1 ?_
  refine lv_iload_n hx hb dX6_leaf_4 rfl (lv_at hl 1 rfl) ?_
  obtain ⟨r_1, hg, h⟩ := zb1_e h
  refine z_callV (As := [.int l1]) (rest := []) (i := 0) ⟨hx, hb, hml, hown, hts⟩ (mX1_has l G (ad 1 xO) hg) (cwV 1 hts gX6_leaf_X1_has rfl rfl rfl kvX1_has ⟨Nat.le_of_ble_eq_true rfl, Nat.le_of_ble_eq_true rfl⟩) rfl hP hD hK hN hS (Nat.le_refl _) [1] rfl rfl rfl rfl 1 rfl rfl rfl rfl rfl hl.1 rfl (Nat.le_of_ble_eq_true rfl) dX6_leaf_5 ⟨Nat.zero_le _, Nat.zero_le _⟩ (fun H locs hP hS => ?_)
  replace hP : zP G [shO G xO, shB G (ad 1 xO)] [eO, eB] H := hP
  refine lv_if_ne (tgt := 21) hx hb dX6_leaf_8 (by decide) (fun hc => ?_) (fun hc => ?_)
  · replace h := zf hc h
    refine lv_aload_n hx hb dX6_leaf_21 rfl (lv_at hl 0 rfl) ?_
    refine rO_0 hx hb hwX6 hown hK hP 0 (xO) rfl rfl (hts _ (List.mem_of_getElem? (i := 3) rfl)) dX6_leaf_22 ?_
    refine lv_iload_n hx hb dX6_leaf_25 rfl (lv_at hl 1 rfl) ?_
    obtain ⟨r_2, hg, h⟩ := zb1_e h
    refine z_callV (As := [.int l1]) (rest := []) (i := 0) ⟨hx, hb, hml, hown, hts⟩ (mX1_leafOf l G (ad 1 xO) hg) (cwV 1 hts gX6_leaf_X1_leafOf rfl rfl rfl kvX1_leafOf ⟨Nat.le_of_ble_eq_true rfl, Nat.le_of_ble_eq_true rfl⟩) rfl hP hD hK hN hS (Nat.le_refl _) [1] rfl rfl rfl rfl 1 rfl rfl rfl rfl rfl hl.1 rfl (Nat.le_of_ble_eq_true rfl) dX6_leaf_26 ⟨Nat.zero_le _, Nat.zero_le _⟩ (fun H locs hP hS => ?_)
    replace hP : zP G [shO G xO, shB G (ad 1 xO)] [eO, eB] H := hP
    cases h
    exact z_lretX (x := r_2) hx hb hr hlk rfl rfl hP hS dX6_leaf_29
  · replace h := zt hc h
    cases h
    exact z_throw (own := RX6) (is := 195) hx hb hfl hown zfit_184 z_sup (hts _ (List.mem_of_getElem? (i := 1) rfl)) (hts _ (List.mem_of_getElem? (i := 2) rfl)) (hX.2.2.2 (195, "no such record") (List.mem_of_getElem? (i := 14) rfl)) (fun w h => hts w (List.mem_cons_of_mem _ (List.mem_append_right _ h))) zg2_184 hX zg3_184 hH hP hS (hl.1.trans hml.symm) dX6_leaf_11 dX6_leaf_14 dX6_leaf_15 dX6_leaf_17 dX6_leaf_20 hT ⟨Nat.le_of_ble_eq_true rfl, Nat.le_of_ble_eq_true rfl, Nat.le_of_ble_eq_true rfl, Nat.le_of_ble_eq_true rfl⟩ hlk rfl
end
def rmX6_head : Room := { frames := 6, cells := 1, slots := 6, locals := 93 }
theorem kvX6_head : yX6_head.cls = RX6 ∧ yX6_head.cls ≠ "java/lang/invoke/MethodHandle" ∧ yX6_head.cls ≠ "java/lang/invoke/VarHandle" ∧ (parseMethodDescriptor yX6_head.desc).map (fun d => d.parameters.length) = some 1 := by decide +kernel
section
variable {p : Program} {l : Launch} {e : Env} {s : State} {m : MethodId} {args : Array Value} {below : List Frame} {meth : Method} {c : Code} {G : zG} {xO : Nat → Nat} {rr : Int64} {vB : zSt} {oo : String ⊕ (Int64 × zSt)} {eO : zSt} {eB : zSt}
set_option maxRecDepth 20000 in
theorem mX6_head (l : Launch) (hfl : l.stackTraces = false) (G : zG) (xO : Nat → Nat) {eO : zSt} {eB : zSt} {l1 : Int32} {oo : String ⊕ (Int64 × zSt)} (h : fX6_head eO eB l1 = some oo) : zCX l yX6_head wsX6_head rmX6_head [.ref (xO 0), .int l1] G [shO G xO, shB G (ad 1 xO)] [eO, eB] oo (fun x => some (.long x.1)) (fun x => [eO, x.2]) := by
  refine z_ofWX (cc := cX6_head) (maxL := 2) (ret := some .long) (by decide) rfl (Nat.le_of_ble_eq_true rfl) ?_
  intro p e s m args below meth c C0 hK hN hD hX hH hT hP ls hl
  obtain ⟨hx, hb, hr, hml, hown, hts, hlk⟩ := id C0
  have hS : va_S (zA [shO G xO, shB G (ad 1 xO)] s.heap.size) s.heap s.heap [] := va_S.rf
  replace hl : lv_has ls 2 [(0, .ref (xO 0)), (1, .int l1)] := hl
  have hwX1 : ∀ w ∈ wsX10, w.before args s = true := fun w h => hts w (List.mem_cons_of_mem _ (List.mem_append_left _ (List.mem_append_right _ h)))
  have hwX6 : ∀ w ∈ wsX60, w.before args s = true := fun w h => hts w (List.mem_cons_of_mem _ (List.mem_append_left _ (List.mem_append_left _ (List.mem_append_right _ h))))
  unfold fX6_head at h
  refine lv_iload_n hx hb dX6_head_0 rfl (lv_at hl 1 rfl) ?_
  refine lv_if_lt (tgt := 15) hx hb dX6_head_1 (by decide) (fun hc => ?_) (fun hc => ?_)
  · replace h := zt hc h
    cases h
    exact z_throw (own := RX6) (is := 201) hx hb hfl hown zfit_184 z_sup (hts _ (List.mem_of_getElem? (i := 1) rfl)) (hts _ (List.mem_of_getElem? (i := 2) rfl)) (hX.2.2.2 (201, "not so many records") (List.mem_of_getElem? (i := 15) rfl)) (fun w h => hts w (List.mem_cons_of_mem _ (List.mem_append_right _ h))) zg2_184 hX zg3_184 hH hP hS (hl.1.trans hml.symm) dX6_head_15 dX6_head_18 dX6_head_19 dX6_head_21 dX6_head_24 hT ⟨Nat.le_of_ble_eq_true rfl, Nat.le_of_ble_eq_true rfl, Nat.le_of_ble_eq_true rfl, Nat.le_of_ble_eq_true rfl⟩ hlk rfl
  · replace h := zf hc h
    refine lv_iload_n hx hb dX6_head_4 rfl (lv_at hl 1 rfl) ?_
    refine lv_aload_n hx hb dX6_head_5 rfl (lv_at hl 0 rfl) ?_
    refine rO_0 hx hb hwX6 hown hK hP 0 (xO) rfl rfl (hts _ (List.mem_of_getElem? (i := 3) rfl)) dX6_head_6 ?_
    refine rNB_3 hx hb hwX1 hown hK hP 1 (ad 1 xO) rfl rfl (hN.f (List.mem_of_getElem? (i := 1) rfl)) dX6_head_9 ?_
    refine lv_icmp_le (tgt := 25) hx hb dX6_head_12 (by decide) (fun hc => ?_) (fun hc => ?_)
    · replace h := zt hc h
      refine lv_aload_n hx hb dX6_head_25 rfl (lv_at hl 0 rfl) ?_
      refine rO_0 hx hb hwX6 hown hK hP 0 (xO) rfl rfl (hts _ (List.mem_of_getElem? (i := 3) rfl)) dX6_head_26 ?_
      refine lv_iconst (v := 0) hx hb dX6_head_29 (by decide) ?_
      refine lv_iload_n hx hb dX6_head_30 rfl (lv_at hl 1 rfl) ?_
      obtain ⟨r_1, uB_2, hg, h⟩ := zb2_e h
      refine z_callV (As := [.int ((0 : Int32)), .int l1]) (rest := []) (i := 0) ⟨hx, hb, hml, hown, hts⟩ (mX1_headOf l G (ad 1 xO) hg) (cwV 2 hts gX6_head_X1_headOf rfl rfl rfl kvX1_headOf ⟨Nat.le_of_ble_eq_true rfl, Nat.le_of_ble_eq_true rfl⟩) rfl hP hD hK hN hS (Nat.le_refl _) [1] rfl rfl rfl rfl 1 rfl rfl rfl rfl rfl hl.1 rfl (Nat.le_of_ble_eq_true rfl) dX6_head_31 ⟨Nat.zero_le _, Nat.zero_le _⟩ (fun H locs hP hS => ?_)
      replace hP : zP G [shO G xO, shB G (ad 1 xO)] [eO, uB_2] H := hP
      cases h
      exact z_lretX (x := (r_1, uB_2)) hx hb hr hlk rfl rfl hP hS dX6_head_34
    · replace h := zf hc h
      cases h
      exact z_throw (own := RX6) (is := 201) hx hb hfl hown zfit_184 z_sup (hts _ (List.mem_of_getElem? (i := 1) rfl)) (hts _ (List.mem_of_getElem? (i := 2) rfl)) (hX.2.2.2 (201, "not so many records") (List.mem_of_getElem? (i := 15) rfl)) (fun w h => hts w (List.mem_cons_of_mem _ (List.mem_append_right _ h))) zg2_184 hX zg3_184 hH hP hS (hl.1.trans hml.symm) dX6_head_15 dX6_head_18 dX6_head_19 dX6_head_21 dX6_head_24 hT ⟨Nat.le_of_ble_eq_true rfl, Nat.le_of_ble_eq_true rfl, Nat.le_of_ble_eq_true rfl, Nat.le_of_ble_eq_true rfl⟩ hlk rfl
end
def rmX6_prove : Room := { frames := 6, cells := 1, slots := 6, locals := 143 }
theorem kvX6_prove : yX6_prove.cls = RX6 ∧ yX6_prove.cls ≠ "java/lang/invoke/MethodHandle" ∧ yX6_prove.cls ≠ "java/lang/invoke/VarHandle" ∧ (parseMethodDescriptor yX6_prove.desc).map (fun d => d.parameters.length) = some 2 := by decide +kernel
section
variable {p : Program} {l : Launch} {e : Env} {s : State} {m : MethodId} {args : Array Value} {below : List Frame} {meth : Method} {c : Code} {G : zG} {xO : Nat → Nat} {rr : Int32} {vB : zSt} {vR : zSt} {oo : String ⊕ (Int32 × zSt × zSt)} {eO : zSt} {eB : zSt} {eR : zSt}
set_option maxRecDepth 20000 in
theorem mX6_prove (l : Launch) (hfl : l.stackTraces = false) (G : zG) (xO : Nat → Nat) {eO : zSt} {eB : zSt} {eR : zSt} {l1 : Int32} {l2 : Int32} {oo : String ⊕ (Int32 × zSt × zSt)} (h : fX6_prove eO eB eR l1 l2 = some oo) : zCX l yX6_prove wsX6_prove rmX6_prove [.ref (xO 0), .int l1, .int l2] G [shO G xO, shB G (ad 1 xO), shR G (ad 34 xO)] [eO, eB, eR] oo (fun x => some (.int x.1)) (fun x => [eO, x.2.1, x.2.2]) := by
  refine z_ofWX (cc := cX6_prove) (maxL := 3) (ret := some .int) (by decide) rfl (Nat.le_of_ble_eq_true rfl) ?_
  intro p e s m args below meth c C0 hK hN hD hX hH hT hP ls hl
  obtain ⟨hx, hb, hr, hml, hown, hts, hlk⟩ := id C0
  have hS : va_S (zA [shO G xO, shB G (ad 1 xO), shR G (ad 34 xO)] s.heap.size) s.heap s.heap [] := va_S.rf
  replace hl : lv_has ls 3 [(0, .ref (xO 0)), (1, .int l1), (2, .int l2)] := hl
  have hwX1 : ∀ w ∈ wsX10, w.before args s = true := fun w h => hts w (List.mem_cons_of_mem _ (List.mem_append_left _ (List.mem_append_left _ (List.mem_append_right _ h))))
  have hwX6 : ∀ w ∈ wsX60, w.before args s = true := fun w h => hts w (List.mem_cons_of_mem _ (List.mem_append_left _ (List.mem_append_left _ (List.mem_append_left _ (List.mem_append_right _ h)))))
  unfold fX6_prove at h
  refine lv_iload_n hx hb dX6_prove_0 rfl (lv_at hl 1 rfl) ?_
  refine lv_if_lt (tgt := 20) hx hb dX6_prove_1 (by decide) (fun hc => ?_) (fun hc => ?_)
  · replace h := zt hc h
    cases h
    exact z_throw (own := RX6) (is := 207) hx hb hfl hown zfit_184 z_sup (hts _ (List.mem_of_getElem? (i := 1) rfl)) (hts _ (List.mem_of_getElem? (i := 2) rfl)) (hX.2.2.2 (207, "no such record, or not so many") (List.mem_of_getElem? (i := 16) rfl)) (fun w h => hts w (List.mem_cons_of_mem _ (List.mem_append_right _ h))) zg2_184 hX zg3_184 hH hP hS (hl.1.trans hml.symm) dX6_prove_20 dX6_prove_23 dX6_prove_24 dX6_prove_26 dX6_prove_29 hT ⟨Nat.le_of_ble_eq_true rfl, Nat.le_of_ble_eq_true rfl, Nat.le_of_ble_eq_true rfl, Nat.le_of_ble_eq_true rfl⟩ hlk rfl
  · replace h := zf hc h
    refine lv_iload_n hx hb dX6_prove_4 rfl (lv_at hl 1 rfl) ?_
    refine lv_iload_n hx hb dX6_prove_5 rfl (lv_at hl 2 rfl) ?_
    refine lv_icmp_ge (tgt := 20) hx hb dX6_prove_6 (by decide) (fun hc => ?_) (fun hc => ?_)
    · replace h := zt hc h
      cases h
      exact z_throw (own := RX6) (is := 207) hx hb hfl hown zfit_184 z_sup (hts _ (List.mem_of_getElem? (i := 1) rfl)) (hts _ (List.mem_of_getElem? (i := 2) rfl)) (hX.2.2.2 (207, "no such record, or not so many") (List.mem_of_getElem? (i := 16) rfl)) (fun w h => hts w (List.mem_cons_of_mem _ (List.mem_append_right _ h))) zg2_184 hX zg3_184 hH hP hS (hl.1.trans hml.symm) dX6_prove_20 dX6_prove_23 dX6_prove_24 dX6_prove_26 dX6_prove_29 hT ⟨Nat.le_of_ble_eq_true rfl, Nat.le_of_ble_eq_true rfl, Nat.le_of_ble_eq_true rfl, Nat.le_of_ble_eq_true rfl⟩ hlk rfl
    · replace h := zf hc h
      refine lv_iload_n hx hb dX6_prove_9 rfl (lv_at hl 2 rfl) ?_
      refine lv_aload_n hx hb dX6_prove_10 rfl (lv_at hl 0 rfl) ?_
      refine rO_0 hx hb hwX6 hown hK hP 0 (xO) rfl rfl (hts _ (List.mem_of_getElem? (i := 3) rfl)) dX6_prove_11 ?_
      refine rNB_3 hx hb hwX1 hown hK hP 1 (ad 1 xO) rfl rfl (hN.f (List.mem_of_getElem? (i := 1) rfl)) dX6_prove_14 ?_
      refine lv_icmp_le (tgt := 30) hx hb dX6_prove_17 (by decide) (fun hc => ?_) (fun hc => ?_)
      · replace h := zt hc h
        refine lv_aload_n hx hb dX6_prove_30 rfl (lv_at hl 0 rfl) ?_
        refine rO_3 hx hb hwX6 hown hK hP 0 (xO) rfl rfl (hts _ (List.mem_of_getElem? (i := 4) rfl)) dX6_prove_31 ?_
        refine lv_aload_n hx hb dX6_prove_34 rfl (lv_at hl 0 rfl) ?_
        refine rO_0 hx hb hwX6 hown hK hP 0 (xO) rfl rfl (hts _ (List.mem_of_getElem? (i := 3) rfl)) dX6_prove_35 ?_
        refine lv_iload_n hx hb dX6_prove_38 rfl (lv_at hl 1 rfl) ?_
        refine lv_iload_n hx hb dX6_prove_39 rfl (lv_at hl 2 rfl) ?_
        obtain ⟨r_1, uB_2, uR_3, hg, h⟩ := zb3_e h
        refine z_callV (As := [.ref ((ad 1 xO) 0), .int l1, .int l2]) (rest := []) (i := 0) ⟨hx, hb, hml, hown, hts⟩ (mX5_makeForRecord l G (ad 1 xO) (ad 34 xO) hg) (cwV 3 hts gX6_prove_X5_makeForRecord rfl rfl rfl kvX5_makeForRecord ⟨Nat.le_of_ble_eq_true rfl, Nat.le_of_ble_eq_true rfl⟩) rfl hP hD hK hN hS (Nat.le_refl _) [1, 2] rfl rfl rfl rfl 2 rfl rfl rfl rfl rfl hl.1 rfl (Nat.le_of_ble_eq_true rfl) dX6_prove_40 ⟨Nat.zero_le _, Nat.zero_le _⟩ (fun H locs hP hS => ?_)
        replace hP : zP G [shO G xO, shB G (ad 1 xO), shR G (ad 34 xO)] [eO, uB_2, uR_3] H := hP
        cases h
        exact z_iretX (x := (r_1, uB_2, uR_3)) hx hb hr hlk rfl rfl hP hS dX6_prove_43
      · replace h := zf hc h
        cases h
        exact z_throw (own := RX6) (is := 207) hx hb hfl hown zfit_184 z_sup (hts _ (List.mem_of_getElem? (i := 1) rfl)) (hts _ (List.mem_of_getElem? (i := 2) rfl)) (hX.2.2.2 (207, "no such record, or not so many") (List.mem_of_getElem? (i := 16) rfl)) (fun w h => hts w (List.mem_cons_of_mem _ (List.mem_append_right _ h))) zg2_184 hX zg3_184 hH hP hS (hl.1.trans hml.symm) dX6_prove_20 dX6_prove_23 dX6_prove_24 dX6_prove_26 dX6_prove_29 hT ⟨Nat.le_of_ble_eq_true rfl, Nat.le_of_ble_eq_true rfl, Nat.le_of_ble_eq_true rfl, Nat.le_of_ble_eq_true rfl⟩ hlk rfl
end
def rmX6_relate : Room := { frames := 6, cells := 1, slots := 6, locals := 143 }
theorem kvX6_relate : yX6_relate.cls = RX6 ∧ yX6_relate.cls ≠ "java/lang/invoke/MethodHandle" ∧ yX6_relate.cls ≠ "java/lang/invoke/VarHandle" ∧ (parseMethodDescriptor yX6_relate.desc).map (fun d => d.parameters.length) = some 2 := by decide +kernel
section
variable {p : Program} {l : Launch} {e : Env} {s : State} {m : MethodId} {args : Array Value} {below : List Frame} {meth : Method} {c : Code} {G : zG} {xO : Nat → Nat} {rr : Int32} {vB : zSt} {vR : zSt} {oo : String ⊕ (Int32 × zSt × zSt)} {eO : zSt} {eB : zSt} {eR : zSt}
set_option maxRecDepth 20000 in
theorem mX6_relate (l : Launch) (hfl : l.stackTraces = false) (G : zG) (xO : Nat → Nat) {eO : zSt} {eB : zSt} {eR : zSt} {l1 : Int32} {l2 : Int32} {oo : String ⊕ (Int32 × zSt × zSt)} (h : fX6_relate eO eB eR l1 l2 = some oo) : zCX l yX6_relate wsX6_relate rmX6_relate [.ref (xO 0), .int l1, .int l2] G [shO G xO, shB G (ad 1 xO), shR G (ad 34 xO)] [eO, eB, eR] oo (fun x => some (.int x.1)) (fun x => [eO, x.2.1, x.2.2]) := by
  refine z_ofWX (cc := cX6_relate) (maxL := 3) (ret := some .int) (by decide) rfl (Nat.le_of_ble_eq_true rfl) ?_
  intro p e s m args below meth c C0 hK hN hD hX hH hT hP ls hl
  obtain ⟨hx, hb, hr, hml, hown, hts, hlk⟩ := id C0
  have hS : va_S (zA [shO G xO, shB G (ad 1 xO), shR G (ad 34 xO)] s.heap.size) s.heap s.heap [] := va_S.rf
  replace hl : lv_has ls 3 [(0, .ref (xO 0)), (1, .int l1), (2, .int l2)] := hl
  have hwX1 : ∀ w ∈ wsX10, w.before args s = true := fun w h => hts w (List.mem_cons_of_mem _ (List.mem_append_left _ (List.mem_append_left _ (List.mem_append_right _ h))))
  have hwX6 : ∀ w ∈ wsX60, w.before args s = true := fun w h => hts w (List.mem_cons_of_mem _ (List.mem_append_left _ (List.mem_append_left _ (List.mem_append_left _ (List.mem_append_right _ h)))))
  unfold fX6_relate at h
  refine lv_iload_n hx hb dX6_relate_0 rfl (lv_at hl 1 rfl) ?_
  refine lv_iconst (v := 1) hx hb dX6_relate_1 (by decide) ?_
  refine lv_icmp_lt (tgt := 21) hx hb dX6_relate_2 (by decide) (fun hc => ?_) (fun hc => ?_)
  · replace h := zt hc h
    cases h
    exact z_throw (own := RX6) (is := 213) hx hb hfl hown zfit_184 z_sup (hts _ (List.mem_of_getElem? (i := 1) rfl)) (hts _ (List.mem_of_getElem? (i := 2) rfl)) (hX.2.2.2 (213, "no such part, or not so many records") (List.mem_of_getElem? (i := 17) rfl)) (fun w h => hts w (List.mem_cons_of_mem _ (List.mem_append_right _ h))) zg2_184 hX zg3_184 hH hP hS (hl.1.trans hml.symm) dX6_relate_21 dX6_relate_24 dX6_relate_25 dX6_relate_27 dX6_relate_30 hT ⟨Nat.le_of_ble_eq_true rfl, Nat.le_of_ble_eq_true rfl, Nat.le_of_ble_eq_true rfl, Nat.le_of_ble_eq_true rfl⟩ hlk rfl
  · replace h := zf hc h
    refine lv_iload_n hx hb dX6_relate_5 rfl (lv_at hl 1 rfl) ?_
    refine lv_iload_n hx hb dX6_relate_6 rfl (lv_at hl 2 rfl) ?_
    refine lv_icmp_gt (tgt := 21) hx hb dX6_relate_7 (by decide) (fun hc => ?_) (fun hc => ?_)
    · replace h := zt hc h
      cases h
      exact z_throw (own := RX6) (is := 213) hx hb hfl hown zfit_184 z_sup (hts _ (List.mem_of_getElem? (i := 1) rfl)) (hts _ (List.mem_of_getElem? (i := 2) rfl)) (hX.2.2.2 (213, "no such part, or not so many records") (List.mem_of_getElem? (i := 17) rfl)) (fun w h => hts w (List.mem_cons_of_mem _ (List.mem_append_right _ h))) zg2_184 hX zg3_184 hH hP hS (hl.1.trans hml.symm) dX6_relate_21 dX6_relate_24 dX6_relate_25 dX6_relate_27 dX6_relate_30 hT ⟨Nat.le_of_ble_eq_true rfl, Nat.le_of_ble_eq_true rfl, Nat.le_of_ble_eq_true rfl, Nat.le_of_ble_eq_true rfl⟩ hlk rfl
    · replace h := zf hc h
      refine lv_iload_n hx hb dX6_relate_10 rfl (lv_at hl 2 rfl) ?_
      refine lv_aload_n hx hb dX6_relate_11 rfl (lv_at hl 0 rfl) ?_
      refine rO_0 hx hb hwX6 hown hK hP 0 (xO) rfl rfl (hts _ (List.mem_of_getElem? (i := 3) rfl)) dX6_relate_12 ?_
      refine rNB_3 hx hb hwX1 hown hK hP 1 (ad 1 xO) rfl rfl (hN.f (List.mem_of_getElem? (i := 1) rfl)) dX6_relate_15 ?_
      refine lv_icmp_le (tgt := 31) hx hb dX6_relate_18 (by decide) (fun hc => ?_) (fun hc => ?_)
      · replace h := zt hc h
        refine lv_aload_n hx hb dX6_relate_31 rfl (lv_at hl 0 rfl) ?_
        refine rO_3 hx hb hwX6 hown hK hP 0 (xO) rfl rfl (hts _ (List.mem_of_getElem? (i := 4) rfl)) dX6_relate_32 ?_
        refine lv_aload_n hx hb dX6_relate_35 rfl (lv_at hl 0 rfl) ?_
        refine rO_0 hx hb hwX6 hown hK hP 0 (xO) rfl rfl (hts _ (List.mem_of_getElem? (i := 3) rfl)) dX6_relate_36 ?_
        refine lv_iload_n hx hb dX6_relate_39 rfl (lv_at hl 1 rfl) ?_
        refine lv_iload_n hx hb dX6_relate_40 rfl (lv_at hl 2 rfl) ?_
        obtain ⟨r_1, uB_2, uR_3, hg, h⟩ := zb3_e h
        refine z_callV (As := [.ref ((ad 1 xO) 0), .int l1, .int l2]) (rest := []) (i := 0) ⟨hx, hb, hml, hown, hts⟩ (mX5_makeForFirst l G (ad 1 xO) (ad 34 xO) hg) (cwV 3 hts gX6_relate_X5_makeForFirst rfl rfl rfl kvX5_makeForFirst ⟨Nat.le_of_ble_eq_true rfl, Nat.le_of_ble_eq_true rfl⟩) rfl hP hD hK hN hS (Nat.le_refl _) [1, 2] rfl rfl rfl rfl 2 rfl rfl rfl rfl rfl hl.1 rfl (Nat.le_of_ble_eq_true rfl) dX6_relate_41 ⟨Nat.zero_le _, Nat.zero_le _⟩ (fun H locs hP hS => ?_)
        replace hP : zP G [shO G xO, shB G (ad 1 xO), shR G (ad 34 xO)] [eO, uB_2, uR_3] H := hP
        cases h
        exact z_iretX (x := (r_1, uB_2, uR_3)) hx hb hr hlk rfl rfl hP hS dX6_relate_44
      · replace h := zf hc h
        cases h
        exact z_throw (own := RX6) (is := 213) hx hb hfl hown zfit_184 z_sup (hts _ (List.mem_of_getElem? (i := 1) rfl)) (hts _ (List.mem_of_getElem? (i := 2) rfl)) (hX.2.2.2 (213, "no such part, or not so many records") (List.mem_of_getElem? (i := 17) rfl)) (fun w h => hts w (List.mem_cons_of_mem _ (List.mem_append_right _ h))) zg2_184 hX zg3_184 hH hP hS (hl.1.trans hml.symm) dX6_relate_21 dX6_relate_24 dX6_relate_25 dX6_relate_27 dX6_relate_30 hT ⟨Nat.le_of_ble_eq_true rfl, Nat.le_of_ble_eq_true rfl, Nat.le_of_ble_eq_true rfl, Nat.le_of_ble_eq_true rfl⟩ hlk rfl
end
def rmX6_proof : Room := { frames := 6, cells := 1, slots := 6, locals := 90 }
theorem kvX6_proof : yX6_proof.cls = RX6 ∧ yX6_proof.cls ≠ "java/lang/invoke/MethodHandle" ∧ yX6_proof.cls ≠ "java/lang/invoke/VarHandle" ∧ (parseMethodDescriptor yX6_proof.desc).map (fun d => d.parameters.length) = some 1 := by decide +kernel
section
variable {p : Program} {l : Launch} {e : Env} {s : State} {m : MethodId} {args : Array Value} {below : List Frame} {meth : Method} {c : Code} {G : zG} {xO : Nat → Nat} {rr : Int64} {oo : String ⊕ (Int64)} {eO : zSt} {eR : zSt}
set_option maxRecDepth 20000 in
theorem mX6_proof (l : Launch) (hfl : l.stackTraces = false) (G : zG) (xO : Nat → Nat) {eO : zSt} {eR : zSt} {l1 : Int32} {oo : String ⊕ (Int64)} (h : fX6_proof eO eR l1 = some oo) : zCX l yX6_proof wsX6_proof rmX6_proof [.ref (xO 0), .int l1] G [shO G xO, shR G (ad 34 xO)] [eO, eR] oo (fun x => some (.long x)) (fun _ => [eO, eR]) := by
  refine z_ofWX (cc := cX6_proof) (maxL := 2) (ret := some .long) (by decide) rfl (Nat.le_of_ble_eq_true rfl) ?_
  intro p e s m args below meth c C0 hK hN hD hX hH hT hP ls hl
  obtain ⟨hx, hb, hr, hml, hown, hts, hlk⟩ := id C0
  have hS : va_S (zA [shO G xO, shR G (ad 34 xO)] s.heap.size) s.heap s.heap [] := va_S.rf
  replace hl : lv_has ls 2 [(0, .ref (xO 0)), (1, .int l1)] := hl
  have hwX5 : ∀ w ∈ wsX50, w.before args s = true := fun w h => hts w (List.mem_cons_of_mem _ (List.mem_append_left _ (List.mem_append_right _ h)))
  have hwX6 : ∀ w ∈ wsX60, w.before args s = true := fun w h => hts w (List.mem_cons_of_mem _ (List.mem_append_left _ (List.mem_append_left _ (List.mem_append_right _ h))))
  unfold fX6_proof at h
  refine lv_iload_n hx hb dX6_proof_0 rfl (lv_at hl 1 rfl) ?_
  refine lv_if_lt (tgt := 15) hx hb dX6_proof_1 (by decide) (fun hc => ?_) (fun hc => ?_)
  · replace h := zt hc h
    cases h
    exact z_throw (own := RX6) (is := 221) hx hb hfl hown zfit_184 z_sup (hts _ (List.mem_of_getElem? (i := 1) rfl)) (hts _ (List.mem_of_getElem? (i := 2) rfl)) (hX.2.2.2 (221, "no such digest") (List.mem_of_getElem? (i := 18) rfl)) (fun w h => hts w (List.mem_cons_of_mem _ (List.mem_append_right _ h))) zg2_184 hX zg3_184 hH hP hS (hl.1.trans hml.symm) dX6_proof_15 dX6_proof_18 dX6_proof_19 dX6_proof_21 dX6_proof_24 hT ⟨Nat.le_of_ble_eq_true rfl, Nat.le_of_ble_eq_true rfl, Nat.le_of_ble_eq_true rfl, Nat.le_of_ble_eq_true rfl⟩ hlk rfl
  · replace h := zf hc h
    refine lv_iload_n hx hb dX6_proof_4 rfl (lv_at hl 1 rfl) ?_
    refine lv_aload_n hx hb dX6_proof_5 rfl (lv_at hl 0 rfl) ?_
    refine rO_3 hx hb hwX6 hown hK hP 0 (xO) rfl rfl (hts _ (List.mem_of_getElem? (i := 3) rfl)) dX6_proof_6 ?_
    refine rNR_1 hx hb hwX5 hown hK hP 1 (ad 34 xO) rfl rfl (hN.f (List.mem_of_getElem? (i := 18) rfl)) dX6_proof_9 ?_
    refine lv_icmp_lt (tgt := 25) hx hb dX6_proof_12 (by decide) (fun hc => ?_) (fun hc => ?_)
    · replace h := zt hc h
      refine lv_aload_n hx hb dX6_proof_25 rfl (lv_at hl 0 rfl) ?_
      refine rO_3 hx hb hwX6 hown hK hP 0 (xO) rfl rfl (hts _ (List.mem_of_getElem? (i := 3) rfl)) dX6_proof_26 ?_
      refine rNR_0 hx hb hwX5 hown hK hP 1 (ad 34 xO) rfl rfl (hN.f (List.mem_of_getElem? (i := 17) rfl)) dX6_proof_29 ?_
      refine lv_iload_n hx hb dX6_proof_32 rfl (lv_at hl 1 rfl) ?_
      obtain ⟨hi, h⟩ := zin_e h
      refine aR_0 hx hb hK hP 1 (ad 34 xO) rfl rfl hi rfl dX6_proof_33 ?_
      cases h
      exact z_lretX (x := ((gL eR 0 l1.toNatClampNeg))) hx hb hr hlk rfl rfl hP hS dX6_proof_34
    · replace h := zf hc h
      cases h
      exact z_throw (own := RX6) (is := 221) hx hb hfl hown zfit_184 z_sup (hts _ (List.mem_of_getElem? (i := 1) rfl)) (hts _ (List.mem_of_getElem? (i := 2) rfl)) (hX.2.2.2 (221, "no such digest") (List.mem_of_getElem? (i := 18) rfl)) (fun w h => hts w (List.mem_cons_of_mem _ (List.mem_append_right _ h))) zg2_184 hX zg3_184 hH hP hS (hl.1.trans hml.symm) dX6_proof_15 dX6_proof_18 dX6_proof_19 dX6_proof_21 dX6_proof_24 hT ⟨Nat.le_of_ble_eq_true rfl, Nat.le_of_ble_eq_true rfl, Nat.le_of_ble_eq_true rfl, Nat.le_of_ble_eq_true rfl⟩ hlk rfl
end
