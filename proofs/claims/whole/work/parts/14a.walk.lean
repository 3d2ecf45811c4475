def rmX3_isNumber : Room := { frames := 0, cells := 0, slots := 0, locals := 0 }
theorem ksX3_isNumber : yX3_isNumber.cls ≠ "java/lang/invoke/MethodHandle" ∧ yX3_isNumber.cls ≠ "java/lang/invoke/VarHandle" ∧ (parseMethodDescriptor yX3_isNumber.desc).map (fun d => d.parameters.length) = some 1 := by decide +kernel
section
variable {p : Program} {l : Launch} {e : Env} {s : State} {m : MethodId} {args : Array Value} {below : List Frame} {meth : Method} {c : Code} {G : zG}  {rr : Int32}
set_option maxRecDepth 20000 in
theorem mX3_isNumber (l : Launch) (G : zG)  {l0 : Int32} {rr : Int32} (h : fX3_isNumber l0 = some rr) : zC l yX3_isNumber wsX3_isNumber rmX3_isNumber [.int l0] G [] [] [] (some (.int rr)) := by
  refine z_ofW (cc := cX3_isNumber) (maxL := 1) (ret := some .boolean) (by decide) rfl (Nat.le_of_ble_eq_true rfl) ?_
  intro p e s m args below meth c C0 hK hN hD hP ls hl
  obtain ⟨hx, hb, hr, hml, hown, hts, hlk⟩ := id C0
  have hS : va_S (zA [] s.heap.size) s.heap s.heap [] := va_S.rf
  replace hl : lv_has ls 1 [(0, .int l0)] := hl
  unfold fX3_isNumber at h
  refine lv_iload_n hx hb dX3_isNumber_0 rfl (lv_at hl 0 rfl) ?_
  refine lv_if_lt (tgt := 15) hx hb dX3_isNumber_1 (by decide) (fun hc => ?_) (fun hc => ?_)
  · replace h := zt hc h
    refine lv_iconst (v := 0) hx hb dX3_isNumber_15 (by decide) ?_
    cases h
    exact z_zret hx hb hr hlk rfl hP hS dX3_isNumber_16
  · replace h := zf hc h
    refine lv_iload_n hx hb dX3_isNumber_4 rfl (lv_at hl 0 rfl) ?_
    refine lv_sipush (v := 2039) hx hb dX3_isNumber_5 (by decide) ?_
    refine lv_icmp_ge (tgt := 15) hx hb dX3_isNumber_8 (by decide) (fun hc => ?_) (fun hc => ?_)
    · replace h := zt hc h
      refine lv_iconst (v := 0) hx hb dX3_isNumber_15 (by decide) ?_
      cases h
      exact z_zret hx hb hr hlk rfl hP hS dX3_isNumber_16
    · replace h := zf hc h
      refine lv_iconst (v := 1) hx hb dX3_isNumber_11 (by decide) ?_
      refine lv_goto (tgt := 16) hx hb dX3_isNumber_12 (by decide) ?_
      cases h
      exact z_zret hx hb hr hlk rfl hP hS dX3_isNumber_16
end
def rmX3_power : Room := { frames := 0, cells := 0, slots := 0, locals := 0 }
theorem ksX3_power : yX3_power.cls ≠ "java/lang/invoke/MethodHandle" ∧ yX3_power.cls ≠ "java/lang/invoke/VarHandle" ∧ (parseMethodDescriptor yX3_power.desc).map (fun d => d.parameters.length) = some 2 := by decide +kernel
section
variable {p : Program} {l : Launch} {e : Env} {s : State} {m : MethodId} {args : Array Value} {below : List Frame} {meth : Method} {c : Code} {G : zG}  {rr : Int32}
set_option maxRecDepth 20000 in
theorem tX3_power_28 (C0 : zCtx p s m args meth c cX3_power RX3 wsX3_power 5 (some .int)) (hK : zK G s) (hN : zN s) (hD : zD []) {k7 : Int32 → Int32 → Int32 → Option (Int32)} (K7 : ∀ (l2 : Int32) (l3 : Int32) (l4 : Int32), k7 l2 l3 l4 = some rr → ∀ (H : Heap) (locs : List Loc), zP G [] [] H → va_S (zA [] s.heap.size) s.heap H locs → ∀ ls : Array Slot, lv_has ls 5 [(2, .int l2), (3, .int l3), (4, .int l4)] → W p l e rmX3_power s m args below meth c H locs 0 0 (MQ below (zQ G [] [] (zA [] s.heap.size) (some (.int rr))) args s 0 0 (zA [] s.heap.size)) (F0 m 7 ls [])) : ∀ (l2 : Int32) (l3 : Int32) (l4 : Int32), bX3_power_28 k7 l2 l3 l4 = some rr → ∀ (H : Heap) (locs : List Loc), zP G [] [] H → va_S (zA [] s.heap.size) s.heap H locs → ∀ ls : Array Slot, lv_has ls 5 [(2, .int l2), (3, .int l3), (4, .int l4)] → W p l e rmX3_power s m args below meth c H locs 0 0 (MQ below (zQ G [] [] (zA [] s.heap.size) (some (.int rr))) args s 0 0 (zA [] s.heap.size)) (F0 m 28 ls []) := by
  obtain ⟨hx, hb, hr, hml, hown, hts, hlk⟩ := id C0
  intro l2 l3 l4 h H locs hP hS ls hl
  unfold bX3_power_28 at h
  refine lv_iload_n hx hb dX3_power_28 rfl (lv_at hl 1 rfl) ?_
  refine lv_iload_n hx hb dX3_power_29 rfl (lv_at hl 1 rfl) ?_
  refine lv_imul hx hb dX3_power_30 ?_
  refine lv_sipush (v := 4079) hx hb dX3_power_31 (by decide) ?_
  refine lv_irem hx hb dX3_power_34 (by decide) ?_
  refine lv_istore_n (lv' := [(3, .int (((l3 * l3) - (l3 * l3) / (4079 : Int32) * (4079 : Int32)))), (2, .int l2), (4, .int l4)]) hx hb dX3_power_35 rfl hl (by decide) rfl (fun ls hl => ?_)
  refine lv_iload hx hb dX3_power_36 (lv_at hl 2 rfl) ?_
  refine lv_iconst (v := 1) hx hb dX3_power_38 (by decide) ?_
  refine lv_ishr hx hb dX3_power_39 ?_
  refine lv_istore (lv' := [(4, .int ((l4 >>> ((1 : Int32) &&& 31)))), (3, .int (((l3 * l3) - (l3 * l3) / (4079 : Int32) * (4079 : Int32)))), (2, .int l2)]) hx hb dX3_power_40 hl (by decide) rfl (fun ls hl => ?_)
  refine lv_goto (tgt := 7) hx hb dX3_power_42 (by decide) ?_
  exact K7 _ _ _ h _ _ hP hS _ (lv_sub hl [2, 1, 0] rfl)
set_option maxRecDepth 20000 in
theorem tlX3_power_7 (C0 : zCtx p s m args meth c cX3_power RX3 wsX3_power 5 (some .int)) (hK : zK G s) (hN : zN s) (hD : zD [])  : ∀ (n : Nat), ∀ (l2 : Int32) (l3 : Int32) (l4 : Int32), lX3_power_7  n l2 l3 l4 = some rr → ∀ (H : Heap) (locs : List Loc), zP G [] [] H → va_S (zA [] s.heap.size) s.heap H locs → ∀ ls : Array Slot, lv_has ls 5 [(2, .int l2), (3, .int l3), (4, .int l4)] → W p l e rmX3_power s m args below meth c H locs 0 0 (MQ below (zQ G [] [] (zA [] s.heap.size) (some (.int rr))) args s 0 0 (zA [] s.heap.size)) (F0 m 7 ls []) := by
  obtain ⟨hx, hb, hr, hml, hown, hts, hlk⟩ := id C0
  intro n
  induction n with
  | zero => intro l2 l3 l4 h; exact absurd h (fun q => nomatch q)
  | succ n K7 =>
    intro l2 l3 l4 h H locs hP hS ls hl
    replace h : bX3_power_7  (lX3_power_7  n) l2 l3 l4 = some rr := h
    unfold bX3_power_7 at h
    refine lv_iload hx hb dX3_power_7 (lv_at hl 2 rfl) ?_
    refine lv_if_le (tgt := 45) hx hb dX3_power_9 (by decide) (fun hc => ?_) (fun hc => ?_)
    · replace h := zt hc h
      refine lv_iload_n hx hb dX3_power_45 rfl (lv_at hl 0 rfl) ?_
      cases h
      exact z_iret hx hb hr hlk hP hS dX3_power_46
    · replace h := zf hc h
      refine lv_iload hx hb dX3_power_12 (lv_at hl 2 rfl) ?_
      refine lv_iconst (v := 1) hx hb dX3_power_14 (by decide) ?_
      refine lv_iand hx hb dX3_power_15 ?_
      refine lv_iconst (v := 1) hx hb dX3_power_16 (by decide) ?_
      refine lv_icmp_ne (tgt := 28) hx hb dX3_power_17 (by decide) (fun hc => ?_) (fun hc => ?_)
      · replace h := zf hc h
        exact tX3_power_28 C0 hK hN hD K7 _ _ _ h _ _ hP hS _ (lv_sub hl [0, 1, 2] rfl)
      · replace h := zt hc h
        refine lv_iload_n hx hb dX3_power_20 rfl (lv_at hl 0 rfl) ?_
        refine lv_iload_n hx hb dX3_power_21 rfl (lv_at hl 1 rfl) ?_
        refine lv_imul hx hb dX3_power_22 ?_
        refine lv_sipush (v := 4079) hx hb dX3_power_23 (by decide) ?_
        refine lv_irem hx hb dX3_power_26 (by decide) ?_
        refine lv_istore_n (lv' := [(2, .int (((l2 * l3) - (l2 * l3) / (4079 : Int32) * (4079 : Int32)))), (3, .int l3), (4, .int l4)]) hx hb dX3_power_27 rfl hl (by decide) rfl (fun ls hl => ?_)
        exact tX3_power_28 C0 hK hN hD K7 _ _ _ h _ _ hP hS _ (lv_sub hl [0, 1, 2] rfl)
set_option maxRecDepth 20000 in
theorem mX3_power (l : Launch) (G : zG)  {l0 : Int32} {l1 : Int32} {rr : Int32} (h : fX3_power l0 l1 = some rr) : zC l yX3_power wsX3_power rmX3_power [.int l0, .int l1] G [] [] [] (some (.int rr)) := by
  refine z_ofW (cc := cX3_power) (maxL := 5) (ret := some .int) (by decide) rfl (Nat.le_of_ble_eq_true rfl) ?_
  intro p e s m args below meth c C0 hK hN hD hP ls hl
  obtain ⟨hx, hb, hr, hml, hown, hts, hlk⟩ := id C0
  have hS : va_S (zA [] s.heap.size) s.heap s.heap [] := va_S.rf
  replace hl : lv_has ls 5 [(0, .int l0), (1, .int l1)] := hl
  unfold fX3_power at h
  refine lv_iconst (v := 1) hx hb dX3_power_0 (by decide) ?_
  refine lv_istore_n (lv' := [(2, .int ((1 : Int32))), (0, .int l0), (1, .int l1)]) hx hb dX3_power_1 rfl hl (by decide) rfl (fun ls hl => ?_)
  refine lv_iload_n hx hb dX3_power_2 rfl (lv_at hl 1 rfl) ?_
  refine lv_istore_n (lv' := [(3, .int l0), (2, .int ((1 : Int32))), (0, .int l0), (1, .int l1)]) hx hb dX3_power_3 rfl hl (by decide) rfl (fun ls hl => ?_)
  refine lv_iload_n hx hb dX3_power_4 rfl (lv_at hl 3 rfl) ?_
  refine lv_istore (lv' := [(4, .int l1), (3, .int l0), (2, .int ((1 : Int32))), (0, .int l0), (1, .int l1)]) hx hb dX3_power_5 hl (by decide) rfl (fun ls hl => ?_)
  exact tlX3_power_7 C0 hK hN hD  1000 _ _ _ h _ _ hP hS _ (lv_sub hl [2, 1, 0] rfl)
end
def rmX3_ofBase : Room := { frames := 1, cells := 0, slots := 0, locals := 24 }
theorem ksX3_ofBase : yX3_ofBase.cls ≠ "java/lang/invoke/MethodHandle" ∧ yX3_ofBase.cls ≠ "java/lang/invoke/VarHandle" ∧ (parseMethodDescriptor yX3_ofBase.desc).map (fun d => d.parameters.length) = some 1 := by decide +kernel
section
variable {p : Program} {l : Launch} {e : Env} {s : State} {m : MethodId} {args : Array Value} {below : List Frame} {meth : Method} {c : Code} {G : zG}  {rr : Int32}
set_option maxRecDepth 20000 in
theorem mX3_ofBase (l : Launch) (G : zG)  {l0 : Int32} {rr : Int32} (h : fX3_ofBase l0 = some rr) : zC l yX3_ofBase wsX3_ofBase rmX3_ofBase [.int l0] G [] [] [] (some (.int rr)) := by
  refine z_ofW (cc := cX3_ofBase) (maxL := 1) (ret := some .int) (by decide) rfl (Nat.le_of_ble_eq_true rfl) ?_
  intro p e s m args below meth c C0 hK hN hD hP ls hl
  obtain ⟨hx, hb, hr, hml, hown, hts, hlk⟩ := id C0
  have hS : va_S (zA [] s.heap.size) s.heap s.heap [] := va_S.rf
  replace hl : lv_has ls 1 [(0, .int l0)] := hl
  unfold fX3_ofBase at h
  refine lv_iconst (v := 4) hx hb dX3_ofBase_0 (by decide) ?_
  refine lv_iload_n hx hb dX3_ofBase_1 rfl (lv_at hl 0 rfl) ?_
  obtain ⟨r_1, hg, h⟩ := zb1_e h
  refine z_callS (As := [.int ((4 : Int32)), .int l0]) (rest := []) ⟨hx, hb, hml, hown, hts⟩ (mX3_power l G  hg) (va_cwS 2 hts gX3_ofBase_X3_power rfl rfl rfl ksX3_power ⟨Nat.le_of_ble_eq_true rfl, Nat.le_of_ble_eq_true rfl⟩) hP hD hK hN hS (Nat.le_refl _) [] rfl rfl rfl rfl rfl hl.1 rfl (Nat.le_of_ble_eq_true rfl) dX3_ofBase_2 ⟨Nat.zero_le _, Nat.zero_le _⟩ (fun H locs hP hS => ?_)
  replace hP : zP G [] [] H := hP
  cases h
  exact z_iret hx hb hr hlk hP hS dX3_ofBase_5
end
def rmX3_times : Room := { frames := 0, cells := 0, slots := 0, locals := 0 }
theorem ksX3_times : yX3_times.cls ≠ "java/lang/invoke/MethodHandle" ∧ yX3_times.cls ≠ "java/lang/invoke/VarHandle" ∧ (parseMethodDescriptor yX3_times.desc).map (fun d => d.parameters.length) = some 2 := by decide +kernel
section
variable {p : Program} {l : Launch} {e : Env} {s : State} {m : MethodId} {args : Array Value} {below : List Frame} {meth : Method} {c : Code} {G : zG}  {rr : Int32}
set_option maxRecDepth 20000 in
theorem mX3_times (l : Launch) (G : zG)  {l0 : Int32} {l1 : Int32} {rr : Int32} (h : fX3_times l0 l1 = some rr) : zC l yX3_times wsX3_times rmX3_times [.int l0, .int l1] G [] [] [] (some (.int rr)) := by
  refine z_ofW (cc := cX3_times) (maxL := 2) (ret := some .int) (by decide) rfl (Nat.le_of_ble_eq_true rfl) ?_
  intro p e s m args below meth c C0 hK hN hD hP ls hl
  obtain ⟨hx, hb, hr, hml, hown, hts, hlk⟩ := id C0
  have hS : va_S (zA [] s.heap.size) s.heap s.heap [] := va_S.rf
  replace hl : lv_has ls 2 [(0, .int l0), (1, .int l1)] := hl
  unfold fX3_times at h
  refine lv_iload_n hx hb dX3_times_0 rfl (lv_at hl 0 rfl) ?_
  refine lv_iload_n hx hb dX3_times_1 rfl (lv_at hl 1 rfl) ?_
  refine lv_imul hx hb dX3_times_2 ?_
  refine lv_sipush (v := 4079) hx hb dX3_times_3 (by decide) ?_
  refine lv_irem hx hb dX3_times_6 (by decide) ?_
  cases h
  exact z_iret hx hb hr hlk hP hS dX3_times_7
end
def rmX4_start : Room := { frames := 1, cells := 0, slots := 0, locals := 21 }
theorem kvX4_start : yX4_start.cls = RX4 ∧ yX4_start.cls ≠ "java/lang/invoke/MethodHandle" ∧ yX4_start.cls ≠ "java/lang/invoke/VarHandle" ∧ (parseMethodDescriptor yX4_start.desc).map (fun d => d.parameters.length) = some 3 := by decide +kernel
section
variable {p : Program} {l : Launch} {e : Env} {s : State} {m : MethodId} {args : Array Value} {below : List Frame} {meth : Method} {c : Code} {G : zG} {xP : Nat → Nat} {vP : zSt}
set_option maxRecDepth 20000 in
theorem tlX4_start_69 (C0 : zCtx p s m args meth c cX4_start RX4 wsX4_start 5 none) (hK : zK G s) (hN : zN s) (hD : zD [shP G xP])  : ∀ (n : Nat), ∀ (uP : zSt) (l4 : Int32), lX4_start_69  n uP l4 = some vP → ∀ (H : Heap) (locs : List Loc), zP G [shP G xP] [uP] H → va_S (zA [shP G xP] s.heap.size) s.heap H locs → ∀ ls : Array Slot, lv_has ls 5 [(0, .ref (xP 0)), (4, .int l4)] → W p l e rmX4_start s m args below meth c H locs 0 0 (MQ below (zQ G [shP G xP] [vP] (zA [shP G xP] s.heap.size) none) args s 0 0 (zA [shP G xP] s.heap.size)) (F0 m 69 ls []) := by
  obtain ⟨hx, hb, hr, hml, hown, hts, hlk⟩ := id C0
  have hwX4 : ∀ w ∈ wsX40, w.before args s = true := fun w h => hts w (List.mem_cons_of_mem _ (List.mem_append_right _ h))
  intro n
  induction n with
  | zero => intro uP l4 h; exact absurd h (fun q => nomatch q)
  | succ n K69 =>
    intro uP l4 h H locs hP hS ls hl
    replace h : bX4_start_69  (lX4_start_69  n) uP l4 = some vP := h
    unfold bX4_start_69 at h
    refine lv_iload hx hb dX4_start_69 (lv_at hl 1 rfl) ?_
    refine lv_iconst (v := 3) hx hb dX4_start_71 (by decide) ?_
    refine lv_icmp_ge (tgt := 89) hx hb dX4_start_72 (by decide) (fun hc => ?_) (fun hc => ?_)
    · replace h := zt hc h
      cases h
      exact z_vret hx hb hr hlk hP hS dX4_start_89
    · replace h := zf hc h
      refine lv_aload_n hx hb dX4_start_75 rfl (lv_at hl 0 rfl) ?_
      refine rP_13 hx hb hwX4 hown hK hP 0 (xP) rfl rfl (hts _ (List.mem_of_getElem? (i := 5) rfl)) dX4_start_76 ?_
      refine lv_iload hx hb dX4_start_79 (lv_at hl 1 rfl) ?_
      refine lv_iconst (v := 0) hx hb dX4_start_81 (by decide) ?_
      obtain ⟨hi, h⟩ := zin_e h
      refine tP_13 hx hb hK hP hD hS 0 (xP) rfl rfl hi rfl vnb_0 dX4_start_82 (fun H locs hP hS => ?_)
      replace hP : zP G [shP G xP] [(sA uP 13 l4.toNatClampNeg ((0 : Int32)))] H := hP
      refine lv_iinc (v := (l4 + (1 : Int32))) (lv' := [(4, .int ((l4 + (1 : Int32)))), (0, .ref (xP 0))]) hx hb dX4_start_83 hl (k := 1) rfl rfl (by decide) rfl (fun ls hl => ?_)
      refine lv_goto (tgt := 69) hx hb dX4_start_86 (by decide) ?_
      exact K69 _ _ h _ _ hP hS _ (lv_sub hl [1, 0] rfl)
set_option maxRecDepth 20000 in
theorem tlX4_start_37 (C0 : zCtx p s m args meth c cX4_start RX4 wsX4_start 5 none) (hK : zK G s) (hN : zN s) (hD : zD [shP G xP])  : ∀ (n : Nat), ∀ (uP : zSt) (l4 : Int32), lX4_start_37  n uP l4 = some vP → ∀ (H : Heap) (locs : List Loc), zP G [shP G xP] [uP] H → va_S (zA [shP G xP] s.heap.size) s.heap H locs → ∀ ls : Array Slot, lv_has ls 5 [(0, .ref (xP 0)), (4, .int l4)] → W p l e rmX4_start s m args below meth c H locs 0 0 (MQ below (zQ G [shP G xP] [vP] (zA [shP G xP] s.heap.size) none) args s 0 0 (zA [shP G xP] s.heap.size)) (F0 m 37 ls []) := by
  obtain ⟨hx, hb, hr, hml, hown, hts, hlk⟩ := id C0
  have hwX4 : ∀ w ∈ wsX40, w.before args s = true := fun w h => hts w (List.mem_cons_of_mem _ (List.mem_append_right _ h))
  intro n
  induction n with
  | zero => intro uP l4 h; exact absurd h (fun q => nomatch q)
  | succ n K37 =>
    intro uP l4 h H locs hP hS ls hl
    replace h : bX4_start_37  (lX4_start_37  n) uP l4 = some vP := h
    unfold bX4_start_37 at h
    refine lv_iload hx hb dX4_start_37 (lv_at hl 1 rfl) ?_
    refine lv_bipush (v := 10) hx hb dX4_start_39 (by decide) ?_
    refine lv_icmp_ge (tgt := 66) hx hb dX4_start_41 (by decide) (fun hc => ?_) (fun hc => ?_)
    · replace h := zt hc h
      refine lv_iconst (v := 0) hx hb dX4_start_66 (by decide) ?_
      refine lv_istore (lv' := [(4, .int ((0 : Int32))), (0, .ref (xP 0))]) hx hb dX4_start_67 hl (by decide) rfl (fun ls hl => ?_)
      exact tlX4_start_69 C0 hK hN hD  1000 _ _ h _ _ hP hS _ (lv_sub hl [1, 0] rfl)
    · replace h := zf hc h
      refine lv_aload_n hx hb dX4_start_44 rfl (lv_at hl 0 rfl) ?_
      refine rP_2 hx hb hwX4 hown hK hP 0 (xP) rfl rfl (hts _ (List.mem_of_getElem? (i := 3) rfl)) dX4_start_45 ?_
      refine lv_iload hx hb dX4_start_48 (lv_at hl 1 rfl) ?_
      refine lv_iconst (v := 0) hx hb dX4_start_50 (by decide) ?_
      obtain ⟨hi, h⟩ := zin_e h
      refine tP_2 hx hb hK hP hD hS 0 (xP) rfl rfl hi rfl vnb_0 dX4_start_51 (fun H locs hP hS => ?_)
      replace hP : zP G [shP G xP] [(sA uP 2 l4.toNatClampNeg ((0 : Int32)))] H := hP
      refine lv_aload_n hx hb dX4_start_52 rfl (lv_at hl 0 rfl) ?_
      refine rP_3 hx hb hwX4 hown hK hP 0 (xP) rfl rfl (hts _ (List.mem_of_getElem? (i := 4) rfl)) dX4_start_53 ?_
      refine lv_iload hx hb dX4_start_56 (lv_at hl 1 rfl) ?_
      refine lv_iconst (v := 0) hx hb dX4_start_58 (by decide) ?_
      obtain ⟨hi, h⟩ := zin_e h
      refine tP_3 hx hb hK hP hD hS 0 (xP) rfl rfl hi rfl vnb_0 dX4_start_59 (fun H locs hP hS => ?_)
      replace hP : zP G [shP G xP] [(sA ((sA uP 2 l4.toNatClampNeg ((0 : Int32)))) 3 l4.toNatClampNeg ((0 : Int32)))] H := hP
      refine lv_iinc (v := (l4 + (1 : Int32))) (lv' := [(4, .int ((l4 + (1 : Int32)))), (0, .ref (xP 0))]) hx hb dX4_start_60 hl (k := 1) rfl rfl (by decide) rfl (fun ls hl => ?_)
      refine lv_goto (tgt := 37) hx hb dX4_start_63 (by decide) ?_
      exact K37 _ _ h _ _ hP hS _ (lv_sub hl [1, 0] rfl)
set_option maxRecDepth 20000 in
theorem mX4_start (l : Launch) (G : zG) (xP : Nat → Nat) {uP : zSt} {l1 : Int32} {l2 : Int32} {l3 : Int32} {vP : zSt} (h : fX4_start uP l1 l2 l3 = some vP) : zC l yX4_start wsX4_start rmX4_start [.ref (xP 0), .int l1, .int l2, .int l3] G [shP G xP] [uP] [vP] none := by
  refine z_ofW (cc := cX4_start) (maxL := 5) (ret := none) (by decide) rfl (Nat.le_of_ble_eq_true rfl) ?_
  intro p e s m args below meth c C0 hK hN hD hP ls hl
  obtain ⟨hx, hb, hr, hml, hown, hts, hlk⟩ := id C0
  have hS : va_S (zA [shP G xP] s.heap.size) s.heap s.heap [] := va_S.rf
  replace hl : lv_has ls 5 [(0, .ref (xP 0)), (1, .int l1), (2, .int l2), (3, .int l3)] := hl
  have hwX4 : ∀ w ∈ wsX40, w.before args s = true := fun w h => hts w (List.mem_cons_of_mem _ (List.mem_append_right _ h))
  unfold fX4_start at h
  refine lv_aload_n hx hb dX4_start_0 rfl (lv_at hl 0 rfl) ?_
  refine rP_0 hx hb hwX4 hown hK hP 0 (xP) rfl rfl (hts _ (List.mem_of_getElem? (i := 1) rfl)) dX4_start_1 ?_
  refine lv_iconst (v := 0) hx hb dX4_start_4 (by decide) ?_
  refine lv_iload_n hx hb dX4_start_5 rfl (lv_at hl 1 rfl) ?_
  refine tP_0 hx hb hK hP hD hS 0 (xP) rfl rfl (zvi tn_0 n0_0 (by decide)) tn_0 dX4_start_6 (fun H locs hP hS => ?_)
  replace hP : zP G [shP G xP] [(sA uP 0 0 l1)] H := hP
  refine lv_aload_n hx hb dX4_start_7 rfl (lv_at hl 0 rfl) ?_
  refine rP_0 hx hb hwX4 hown hK hP 0 (xP) rfl rfl (hts _ (List.mem_of_getElem? (i := 1) rfl)) dX4_start_8 ?_
  refine lv_iconst (v := 1) hx hb dX4_start_11 (by decide) ?_
  refine lv_iload_n hx hb dX4_start_12 rfl (lv_at hl 2 rfl) ?_
  refine tP_0 hx hb hK hP hD hS 0 (xP) rfl rfl (zvi tn_1 n0_1 (by decide)) tn_1 dX4_start_13 (fun H locs hP hS => ?_)
  replace hP : zP G [shP G xP] [(sA ((sA uP 0 0 l1)) 0 1 l2)] H := hP
  refine lv_aload_n hx hb dX4_start_14 rfl (lv_at hl 0 rfl) ?_
  refine rP_0 hx hb hwX4 hown hK hP 0 (xP) rfl rfl (hts _ (List.mem_of_getElem? (i := 1) rfl)) dX4_start_15 ?_
  refine lv_iconst (v := 2) hx hb dX4_start_18 (by decide) ?_
  refine lv_iload_n hx hb dX4_start_19 rfl (lv_at hl 3 rfl) ?_
  refine tP_0 hx hb hK hP hD hS 0 (xP) rfl rfl (zvi tn_2 n0_2 (by decide)) tn_2 dX4_start_20 (fun H locs hP hS => ?_)
  replace hP : zP G [shP G xP] [(sA ((sA ((sA uP 0 0 l1)) 0 1 l2)) 0 2 l3)] H := hP
  refine lv_aload_n hx hb dX4_start_21 rfl (lv_at hl 0 rfl) ?_
  refine lv_iload_n hx hb dX4_start_22 rfl (lv_at hl 1 rfl) ?_
  refine lv_iload_n hx hb dX4_start_23 rfl (lv_at hl 2 rfl) ?_
  obtain ⟨r_1, hg, h⟩ := zb1_e h
  refine z_callS (As := [.int l1, .int l2]) (rest := [.ref (xP 0)]) ⟨hx, hb, hml, hown, hts⟩ (mX3_times l G  hg) (va_cwS 2 hts gX4_start_X3_times rfl rfl rfl ksX3_times ⟨Nat.le_of_ble_eq_true rfl, Nat.le_of_ble_eq_true rfl⟩) hP hD hK hN hS (Nat.le_refl _) [] rfl rfl rfl rfl rfl hl.1 rfl (Nat.le_of_ble_eq_true rfl) dX4_start_24 ⟨Nat.zero_le _, Nat.zero_le _⟩ (fun H locs hP hS => ?_)
  replace hP : zP G [shP G xP] [(sA ((sA ((sA uP 0 0 l1)) 0 1 l2)) 0 2 l3)] H := hP
  refine lv_iload_n hx hb dX4_start_27 rfl (lv_at hl 3 rfl) ?_
  obtain ⟨r_2, hg, h⟩ := zb1_e h
  refine z_callS (As := [.int r_1, .int l3]) (rest := [.ref (xP 0)]) ⟨hx, hb, hml, hown, hts⟩ (mX3_times l G  hg) (va_cwS 2 hts gX4_start_X3_times rfl rfl rfl ksX3_times ⟨Nat.le_of_ble_eq_true rfl, Nat.le_of_ble_eq_true rfl⟩) hP hD hK hN hS (Nat.le_refl _) [] rfl rfl rfl rfl rfl hl.1 rfl (Nat.le_of_ble_eq_true rfl) dX4_start_28 ⟨Nat.zero_le _, Nat.zero_le _⟩ (fun H locs hP hS => ?_)
  replace hP : zP G [shP G xP] [(sA ((sA ((sA uP 0 0 l1)) 0 1 l2)) 0 2 l3)] H := hP
  refine pP_1 hx hb hwX4 hown hK hP hD hS 0 (xP) rfl rfl (hts _ (List.mem_of_getElem? (i := 2) rfl)) dX4_start_31 (fun H locs hP hS => ?_)
  replace hP : zP G [shP G xP] [(sI ((sA ((sA ((sA uP 0 0 l1)) 0 1 l2)) 0 2 l3)) 1 r_2)] H := hP
  refine lv_iconst (v := 0) hx hb dX4_start_34 (by decide) ?_
  refine lv_istore (lv' := [(4, .int ((0 : Int32))), (0, .ref (xP 0)), (1, .int l1), (2, .int l2), (3, .int l3)]) hx hb dX4_start_35 hl (by decide) rfl (fun ls hl => ?_)
  exact tlX4_start_37 C0 hK hN hD  1000 _ _ h _ _ hP hS _ (lv_sub hl [1, 0] rfl)
end
def rmX1_empty : Room := { frames := 0, cells := 0, slots := 0, locals := 0 }
theorem kvX1_empty : yX1_empty.cls = RX1 ∧ yX1_empty.cls ≠ "java/lang/invoke/MethodHandle" ∧ yX1_empty.cls ≠ "java/lang/invoke/VarHandle" ∧ (parseMethodDescriptor yX1_empty.desc).map (fun d => d.parameters.length) = some 0 := by decide +kernel
section
variable {p : Program} {l : Launch} {e : Env} {s : State} {m : MethodId} {args : Array Value} {below : List Frame} {meth : Method} {c : Code} {G : zG} {xB : Nat → Nat} {vB : zSt}
set_option maxRecDepth 20000 in
theorem mX1_empty (l : Launch) (G : zG) (xB : Nat → Nat) {uB : zSt} {vB : zSt} (h : fX1_empty uB = some vB) : zC l yX1_empty wsX1_empty rmX1_empty [.ref (xB 0)] G [shB G xB] [uB] [vB] none := by
  refine z_ofW (cc := cX1_empty) (maxL := 1) (ret := none) (by decide) rfl (Nat.le_of_ble_eq_true rfl) ?_
  intro p e s m args below meth c C0 hK hN hD hP ls hl
  obtain ⟨hx, hb, hr, hml, hown, hts, hlk⟩ := id C0
  have hS : va_S (zA [shB G xB] s.heap.size) s.heap s.heap [] := va_S.rf
  replace hl : lv_has ls 1 [(0, .ref (xB 0))] := hl
  have hwX1 : ∀ w ∈ wsX10, w.before args s = true := fun w h => hts w (List.mem_cons_of_mem _ (List.mem_append_right _ h))
  unfold fX1_empty at h
  refine lv_aload_n hx hb dX1_empty_0 rfl (lv_at hl 0 rfl) ?_
  refine lv_iconst (v := 0) hx hb dX1_empty_1 (by decide) ?_
  refine pB_3 hx hb hwX1 hown hK hP hD hS 0 (xB) rfl rfl (hts _ (List.mem_of_getElem? (i := 1) rfl)) dX1_empty_2 (fun H locs hP hS => ?_)
  replace hP : zP G [shB G xB] [(sI uB 3 ((0 : Int32)))] H := hP
  cases h
  exact z_vret hx hb hr hlk hP hS dX1_empty_5
end
def rmX1_write : Room := { frames := 0, cells := 0, slots := 0, locals := 0 }
theorem kvX1_write : yX1_write.cls = RX1 ∧ yX1_write.cls ≠ "java/lang/invoke/MethodHandle" ∧ yX1_write.cls ≠ "java/lang/invoke/VarHandle" ∧ (parseMethodDescriptor yX1_write.desc).map (fun d => d.parameters.length) = some 3 := by decide +kernel
section
variable {p : Program} {l : Launch} {e : Env} {s : State} {m : MethodId} {args : Array Value} {below : List Frame} {meth : Method} {c : Code} {G : zG} {xB : Nat → Nat} {vB : zSt}
set_option maxRecDepth 20000 in
theorem mX1_write (l : Launch) (G : zG) (xB : Nat → Nat) {uB : zSt} {l1 : Int32} {l2 : Int32} {l3 : Int32} {vB : zSt} (h : fX1_write uB l1 l2 l3 = some vB) : zC l yX1_write wsX1_write rmX1_write [.ref (xB 0), .int l1, .int l2, .int l3] G [shB G xB] [uB] [vB] none := by
  refine z_ofW (cc := cX1_write) (maxL := 4) (ret := none) (by decide) rfl (Nat.le_of_ble_eq_true rfl) ?_
  intro p e s m args below meth c C0 hK hN hD hP ls hl
  obtain ⟨hx, hb, hr, hml, hown, hts, hlk⟩ := id C0
  have hS : va_S (zA [shB G xB] s.heap.size) s.heap s.heap [] := va_S.rf
  replace hl : lv_has ls 4 [(0, .ref (xB 0)), (1, .int l1), (2, .int l2), (3, .int l3)] := hl
  have hwX1 : ∀ w ∈ wsX10, w.before args s = true := fun w h => hts w (List.mem_cons_of_mem _ (List.mem_append_right _ h))
  unfold fX1_write at h
  refine lv_aload_n hx hb dX1_write_0 rfl (lv_at hl 0 rfl) ?_
  refine rB_1 hx hb hwX1 hown hK hP 0 (xB) rfl rfl (hts _ (List.mem_of_getElem? (i := 1) rfl)) dX1_write_1 ?_
  refine lv_iload_n hx hb dX1_write_4 rfl (lv_at hl 1 rfl) ?_
  refine lv_bipush (v := 6) hx hb dX1_write_5 (by decide) ?_
  refine lv_imul hx hb dX1_write_7 ?_
  refine lv_iload_n hx hb dX1_write_8 rfl (lv_at hl 2 rfl) ?_
  refine lv_iadd hx hb dX1_write_9 ?_
  refine lv_iload_n hx hb dX1_write_10 rfl (lv_at hl 3 rfl) ?_
  obtain ⟨hi, h⟩ := zin_e h
  refine tB_1 hx hb hK hP hD hS 0 (xB) rfl rfl hi rfl dX1_write_11 (fun H locs hP hS => ?_)
  replace hP : zP G [shB G xB] [(sA uB 1 (((l1 * (6 : Int32)) + l2)).toNatClampNeg l3)] H := hP
  cases h
  exact z_vret hx hb hr hlk hP hS dX1_write_12
end
def rmX1_put : Room := { frames := 1, cells := 0, slots := 0, locals := 23 }
theorem kvX1_put : yX1_put.cls = RX1 ∧ yX1_put.cls ≠ "java/lang/invoke/MethodHandle" ∧ yX1_put.cls ≠ "java/lang/invoke/VarHandle" ∧ (parseMethodDescriptor yX1_put.desc).map (fun d => d.parameters.length) = some 4 := by decide +kernel
section
variable {p : Program} {l : Launch} {e : Env} {s : State} {m : MethodId} {args : Array Value} {below : List Frame} {meth : Method} {c : Code} {G : zG} {xB : Nat → Nat} {rr : Int32} {vB : zSt}
set_option maxRecDepth 20000 in
theorem tlX1_put_42 (C0 : zCtx p s m args meth c cX1_put RX1 wsX1_put 7 (some .int)) (hK : zK G s) (hN : zN s) (hD : zD [shB G xB])  : ∀ (n : Nat), ∀ (uB : zSt) (l5 : Int32) (l6 : Int32), lX1_put_42  n uB l5 l6 = some (rr, vB) → ∀ (H : Heap) (locs : List Loc), zP G [shB G xB] [uB] H → va_S (zA [shB G xB] s.heap.size) s.heap H locs → ∀ ls : Array Slot, lv_has ls 7 [(0, .ref (xB 0)), (5, .int l5), (6, .int l6)] → W p l e rmX1_put s m args below meth c H locs 0 0 (MQ below (zQ G [shB G xB] [vB] (zA [shB G xB] s.heap.size) (some (.int rr))) args s 0 0 (zA [shB G xB] s.heap.size)) (F0 m 42 ls []) := by
  obtain ⟨hx, hb, hr, hml, hown, hts, hlk⟩ := id C0
  have hwX1 : ∀ w ∈ wsX10, w.before args s = true := fun w h => hts w (List.mem_cons_of_mem _ (List.mem_append_right _ h))
  intro n
  induction n with
  | zero => intro uB l5 l6 h; exact absurd h (fun q => nomatch q)
  | succ n K42 =>
    intro uB l5 l6 h H locs hP hS ls hl
    replace h : bX1_put_42  (lX1_put_42  n) uB l5 l6 = some (rr, vB) := h
    unfold bX1_put_42 at h
    refine lv_iload hx hb dX1_put_42 (lv_at hl 2 rfl) ?_
    refine lv_bipush (v := 6) hx hb dX1_put_44 (by decide) ?_
    refine lv_icmp_ge (tgt := 64) hx hb dX1_put_46 (by decide) (fun hc => ?_) (fun hc => ?_)
    · replace h := zt hc h
      refine lv_aload_n hx hb dX1_put_64 rfl (lv_at hl 0 rfl) ?_
      refine lv_dup hx hb dX1_put_65 rfl ?_
      refine rB_3 hx hb hwX1 hown hK hP 0 (xB) rfl rfl (hts _ (List.mem_of_getElem? (i := 1) rfl)) dX1_put_66 ?_
      refine lv_iconst (v := 1) hx hb dX1_put_69 (by decide) ?_
      refine lv_iadd hx hb dX1_put_70 ?_
      refine pB_3 hx hb hwX1 hown hK hP hD hS 0 (xB) rfl rfl (hts _ (List.mem_of_getElem? (i := 1) rfl)) dX1_put_71 (fun H locs hP hS => ?_)
      replace hP : zP G [shB G xB] [(sI uB 3 (((gI uB 3) + (1 : Int32))))] H := hP
      refine lv_iload hx hb dX1_put_74 (lv_at hl 1 rfl) ?_
      cases h
      exact z_iret hx hb hr hlk hP hS dX1_put_76
    · replace h := zf hc h
      refine lv_aload_n hx hb dX1_put_49 rfl (lv_at hl 0 rfl) ?_
      refine lv_iload hx hb dX1_put_50 (lv_at hl 1 rfl) ?_
      refine lv_iload hx hb dX1_put_52 (lv_at hl 2 rfl) ?_
      refine lv_iconst (v := 0) hx hb dX1_put_54 (by decide) ?_
      obtain ⟨uB_1, hg, h⟩ := zb1_e h
      refine z_callV (As := [.int l5, .int l6, .int ((0 : Int32))]) (rest := []) (i := 0) ⟨hx, hb, hml, hown, hts⟩ (mX1_write l G (xB) hg) (cwV 3 hts gX1_put_X1_write rfl rfl rfl kvX1_write ⟨Nat.le_of_ble_eq_true rfl, Nat.le_of_ble_eq_true rfl⟩) rfl hP hD hK hN hS (Nat.le_refl _) [0] rfl rfl rfl rfl 0 rfl rfl rfl rfl rfl hl.1 rfl (Nat.le_of_ble_eq_true rfl) dX1_put_55 ⟨Nat.zero_le _, Nat.zero_le _⟩ (fun H locs hP hS => ?_)
      replace hP : zP G [shB G xB] [uB_1] H := hP
      refine lv_iinc (v := (l6 + (1 : Int32))) (lv' := [(6, .int ((l6 + (1 : Int32)))), (0, .ref (xB 0)), (5, .int l5)]) hx hb dX1_put_58 hl (k := 2) rfl rfl (by decide) rfl (fun ls hl => ?_)
      refine lv_goto (tgt := 42) hx hb dX1_put_61 (by decide) ?_
      exact K42 _ _ _ h _ _ hP hS _ (lv_sub hl [1, 2, 0] rfl)
set_option maxRecDepth 20000 in
theorem mX1_put (l : Launch) (G : zG) (xB : Nat → Nat) {uB : zSt} {l1 : Int32} {l2 : Int32} {l3 : Int32} {l4 : Int32} {rr : Int32} {vB : zSt} (h : fX1_put uB l1 l2 l3 l4 = some (rr, vB)) : zC l yX1_put wsX1_put rmX1_put [.ref (xB 0), .int l1, .int l2, .int l3, .int l4] G [shB G xB] [uB] [vB] (some (.int rr)) := by
  refine z_ofW (cc := cX1_put) (maxL := 7) (ret := some .int) (by decide) rfl (Nat.le_of_ble_eq_true rfl) ?_
  intro p e s m args below meth c C0 hK hN hD hP ls hl
  obtain ⟨hx, hb, hr, hml, hown, hts, hlk⟩ := id C0
  have hS : va_S (zA [shB G xB] s.heap.size) s.heap s.heap [] := va_S.rf
  replace hl : lv_has ls 7 [(0, .ref (xB 0)), (1, .int l1), (2, .int l2), (3, .int l3), (4, .int l4)] := hl
  have hwX1 : ∀ w ∈ wsX10, w.before args s = true := fun w h => hts w (List.mem_cons_of_mem _ (List.mem_append_right _ h))
  unfold fX1_put at h
  refine lv_aload_n hx hb dX1_put_0 rfl (lv_at hl 0 rfl) ?_
  refine rB_3 hx hb hwX1 hown hK hP 0 (xB) rfl rfl (hts _ (List.mem_of_getElem? (i := 1) rfl)) dX1_put_1 ?_
  refine lv_istore (lv' := [(5, .int ((gI uB 3))), (0, .ref (xB 0)), (1, .int l1), (2, .int l2), (3, .int l3), (4, .int l4)]) hx hb dX1_put_4 hl (by decide) rfl (fun ls hl => ?_)
  refine lv_aload_n hx hb dX1_put_6 rfl (lv_at hl 1 rfl) ?_
  refine rB_0 hx hb hwX1 hown hK hP 0 (xB) rfl rfl (hts _ (List.mem_of_getElem? (i := 2) rfl)) dX1_put_7 ?_
  refine lv_iload hx hb dX1_put_10 (lv_at hl 0 rfl) ?_
  refine lv_iload_n hx hb dX1_put_12 rfl (lv_at hl 2 rfl) ?_
  obtain ⟨hi, h⟩ := zin_e h
  refine tB_0 hx hb hK hP hD hS 0 (xB) rfl rfl hi rfl dX1_put_13 (fun H locs hP hS => ?_)
  replace hP : zP G [shB G xB] [(sA uB 0 ((gI uB 3)).toNatClampNeg l1)] H := hP
  refine lv_aload_n hx hb dX1_put_14 rfl (lv_at hl 1 rfl) ?_
  refine lv_iload hx hb dX1_put_15 (lv_at hl 0 rfl) ?_
  refine lv_iconst (v := 0) hx hb dX1_put_17 (by decide) ?_
  refine lv_iload_n hx hb dX1_put_18 rfl (lv_at hl 3 rfl) ?_
  obtain ⟨uB_2, hg, h⟩ := zb1_e h
  refine z_callV (As := [.int ((gI uB 3)), .int ((0 : Int32)), .int l2]) (rest := []) (i := 0) ⟨hx, hb, hml, hown, hts⟩ (mX1_write l G (xB) hg) (cwV 3 hts gX1_put_X1_write rfl rfl rfl kvX1_write ⟨Nat.le_of_ble_eq_true rfl, Nat.le_of_ble_eq_true rfl⟩) rfl hP hD hK hN hS (Nat.le_refl _) [0] rfl rfl rfl rfl 0 rfl rfl rfl rfl rfl hl.1 rfl (Nat.le_of_ble_eq_true rfl) dX1_put_19 ⟨Nat.zero_le _, Nat.zero_le _⟩ (fun H locs hP hS => ?_)
  replace hP : zP G [shB G xB] [uB_2] H := hP
  refine lv_aload_n hx hb dX1_put_22 rfl (lv_at hl 1 rfl) ?_
  refine lv_iload hx hb dX1_put_23 (lv_at hl 0 rfl) ?_
  refine lv_iconst (v := 1) hx hb dX1_put_25 (by decide) ?_
  refine lv_iload_n hx hb dX1_put_26 rfl (lv_at hl 4 rfl) ?_
  obtain ⟨uB_3, hg, h⟩ := zb1_e h
  refine z_callV (As := [.int ((gI uB 3)), .int ((1 : Int32)), .int l3]) (rest := []) (i := 0) ⟨hx, hb, hml, hown, hts⟩ (mX1_write l G (xB) hg) (cwV 3 hts gX1_put_X1_write rfl rfl rfl kvX1_write ⟨Nat.le_of_ble_eq_true rfl, Nat.le_of_ble_eq_true rfl⟩) rfl hP hD hK hN hS (Nat.le_refl _) [0] rfl rfl rfl rfl 0 rfl rfl rfl rfl rfl hl.1 rfl (Nat.le_of_ble_eq_true rfl) dX1_put_27 ⟨Nat.zero_le _, Nat.zero_le _⟩ (fun H locs hP hS => ?_)
  replace hP : zP G [shB G xB] [uB_3] H := hP
  refine lv_aload_n hx hb dX1_put_30 rfl (lv_at hl 1 rfl) ?_
  refine lv_iload hx hb dX1_put_31 (lv_at hl 0 rfl) ?_
  refine lv_iconst (v := 2) hx hb dX1_put_33 (by decide) ?_
  refine lv_iload hx hb dX1_put_34 (lv_at hl 5 rfl) ?_
  obtain ⟨uB_4, hg, h⟩ := zb1_e h
  refine z_callV (As := [.int ((gI uB 3)), .int ((2 : Int32)), .int l4]) (rest := []) (i := 0) ⟨hx, hb, hml, hown, hts⟩ (mX1_write l G (xB) hg) (cwV 3 hts gX1_put_X1_write rfl rfl rfl kvX1_write ⟨Nat.le_of_ble_eq_true rfl, Nat.le_of_ble_eq_true rfl⟩) rfl hP hD hK hN hS (Nat.le_refl _) [0] rfl rfl rfl rfl 0 rfl rfl rfl rfl rfl hl.1 rfl (Nat.le_of_ble_eq_true rfl) dX1_put_36 ⟨Nat.zero_le _, Nat.zero_le _⟩ (fun H locs hP hS => ?_)
  replace hP : zP G [shB G xB] [uB_4] H := hP
  refine lv_iconst (v := 3) hx hb dX1_put_39 (by decide) ?_
  refine lv_istore (lv' := [(6, .int ((3 : Int32))), (5, .int ((gI uB 3))), (0, .ref (xB 0)), (1, .int l1), (2, .int l2), (3, .int l3), (4, .int l4)]) hx hb dX1_put_40 hl (by decide) rfl (fun ls hl => ?_)
  exact tlX1_put_42 C0 hK hN hD  1000 _ _ _ h _ _ hP hS _ (lv_sub hl [2, 1, 0] rfl)
end
def rmX6_isVoter : Room := { frames := 0, cells := 0, slots := 0, locals := 0 }
theorem ksX6_isVoter : yX6_isVoter.cls ≠ "java/lang/invoke/MethodHandle" ∧ yX6_isVoter.cls ≠ "java/lang/invoke/VarHandle" ∧ (parseMethodDescriptor yX6_isVoter.desc).map (fun d => d.parameters.length) = some 1 := by decide +kernel
section
variable {p : Program} {l : Launch} {e : Env} {s : State} {m : MethodId} {args : Array Value} {below : List Frame} {meth : Method} {c : Code} {G : zG}  {rr : Int32}
set_option maxRecDepth 20000 in
theorem mX6_isVoter (l : Launch) (G : zG)  {l0 : Int32} {rr : Int32} (h : fX6_isVoter l0 = some rr) : zC l yX6_isVoter wsX6_isVoter rmX6_isVoter [.int l0] G [] [] [] (some (.int rr)) := by
  refine z_ofW (cc := cX6_isVoter) (maxL := 1) (ret := some .boolean) (by decide) rfl (Nat.le_of_ble_eq_true rfl) ?_
  intro p e s m args below meth c C0 hK hN hD hP ls hl
  obtain ⟨hx, hb, hr, hml, hown, hts, hlk⟩ := id C0
  have hS : va_S (zA [] s.heap.size) s.heap s.heap [] := va_S.rf
  replace hl : lv_has ls 1 [(0, .int l0)] := hl
  unfold fX6_isVoter at h
  refine lv_iload_n hx hb dX6_isVoter_0 rfl (lv_at hl 0 rfl) ?_
  refine lv_if_lt (tgt := 14) hx hb dX6_isVoter_1 (by decide) (fun hc => ?_) (fun hc => ?_)
  · replace h := zt hc h
    refine lv_iconst (v := 0) hx hb dX6_isVoter_14 (by decide) ?_
    cases h
    exact z_zret hx hb hr hlk rfl hP hS dX6_isVoter_15
  · replace h := zf hc h
    refine lv_iload_n hx hb dX6_isVoter_4 rfl (lv_at hl 0 rfl) ?_
    refine lv_bipush (v := 10) hx hb dX6_isVoter_5 (by decide) ?_
    refine lv_icmp_ge (tgt := 14) hx hb dX6_isVoter_7 (by decide) (fun hc => ?_) (fun hc => ?_)
    · replace h := zt hc h
      refine lv_iconst (v := 0) hx hb dX6_isVoter_14 (by decide) ?_
      cases h
      exact z_zret hx hb hr hlk rfl hP hS dX6_isVoter_15
    · replace h := zf hc h
      refine lv_iconst (v := 1) hx hb dX6_isVoter_10 (by decide) ?_
      refine lv_goto (tgt := 15) hx hb dX6_isVoter_11 (by decide) ?_
      cases h
      exact z_zret hx hb hr hlk rfl hP hS dX6_isVoter_15
end
def rmX1_hasRoom : Room := { frames := 0, cells := 0, slots := 0, locals := 0 }
theorem kvX1_hasRoom : yX1_hasRoom.cls = RX1 ∧ yX1_hasRoom.cls ≠ "java/lang/invoke/MethodHandle" ∧ yX1_hasRoom.cls ≠ "java/lang/invoke/VarHandle" ∧ (parseMethodDescriptor yX1_hasRoom.desc).map (fun d => d.parameters.length) = some 1 := by decide +kernel
section
variable {p : Program} {l : Launch} {e : Env} {s : State} {m : MethodId} {args : Array Value} {below : List Frame} {meth : Method} {c : Code} {G : zG} {xB : Nat → Nat} {rr : Int32}
set_option maxRecDepth 20000 in
theorem mX1_hasRoom (l : Launch) (G : zG) (xB : Nat → Nat) {uB : zSt} {l1 : Int32} {rr : Int32} (h : fX1_hasRoom uB l1 = some rr) : zC l yX1_hasRoom wsX1_hasRoom rmX1_hasRoom [.ref (xB 0), .int l1] G [shB G xB] [uB] [uB] (some (.int rr)) := by
  refine z_ofW (cc := cX1_hasRoom) (maxL := 2) (ret := some .boolean) (by decide) rfl (Nat.le_of_ble_eq_true rfl) ?_
  intro p e s m args below meth c C0 hK hN hD hP ls hl
  obtain ⟨hx, hb, hr, hml, hown, hts, hlk⟩ := id C0
  have hS : va_S (zA [shB G xB] s.heap.size) s.heap s.heap [] := va_S.rf
  replace hl : lv_has ls 2 [(0, .ref (xB 0)), (1, .int l1)] := hl
  have hwX1 : ∀ w ∈ wsX10, w.before args s = true := fun w h => hts w (List.mem_cons_of_mem _ (List.mem_append_right _ h))
  unfold fX1_hasRoom at h
  refine lv_iload_n hx hb dX1_hasRoom_0 rfl (lv_at hl 1 rfl) ?_
  refine lv_sipush (v := 160) hx hb dX1_hasRoom_1 (by decide) ?_
  refine lv_aload_n hx hb dX1_hasRoom_4 rfl (lv_at hl 0 rfl) ?_
  refine rB_3 hx hb hwX1 hown hK hP 0 (xB) rfl rfl (hts _ (List.mem_of_getElem? (i := 1) rfl)) dX1_hasRoom_5 ?_
  refine lv_isub hx hb dX1_hasRoom_8 ?_
  refine lv_icmp_gt (tgt := 16) hx hb dX1_hasRoom_9 (by decide) (fun hc => ?_) (fun hc => ?_)
  · replace h := zt hc h
    refine lv_iconst (v := 0) hx hb dX1_hasRoom_16 (by decide) ?_
    cases h
    exact z_zret hx hb hr hlk rfl hP hS dX1_hasRoom_17
  · replace h := zf hc h
    refine lv_iconst (v := 1) hx hb dX1_hasRoom_12 (by decide) ?_
    refine lv_goto (tgt := 17) hx hb dX1_hasRoom_13 (by decide) ?_
    cases h
    exact z_zret hx hb hr hlk rfl hP hS dX1_hasRoom_17
end
def rmX6_isChoice : Room := { frames := 0, cells := 0, slots := 0, locals := 0 }
theorem ksX6_isChoice : yX6_isChoice.cls ≠ "java/lang/invoke/MethodHandle" ∧ yX6_isChoice.cls ≠ "java/lang/invoke/VarHandle" ∧ (parseMethodDescriptor yX6_isChoice.desc).map (fun d => d.parameters.length) = some 1 := by decide +kernel
section
variable {p : Program} {l : Launch} {e : Env} {s : State} {m : MethodId} {args : Array Value} {below : List Frame} {meth : Method} {c : Code} {G : zG}  {rr : Int32}
set_option maxRecDepth 20000 in
theorem mX6_isChoice (l : Launch) (G : zG)  {l0 : Int32} {rr : Int32} (h : fX6_isChoice l0 = some rr) : zC l yX6_isChoice wsX6_isChoice rmX6_isChoice [.int l0] G [] [] [] (some (.int rr)) := by
  refine z_ofW (cc := cX6_isChoice) (maxL := 1) (ret := some .boolean) (by decide) rfl (Nat.le_of_ble_eq_true rfl) ?_
  intro p e s m args below meth c C0 hK hN hD hP ls hl
  obtain ⟨hx, hb, hr, hml, hown, hts, hlk⟩ := id C0
  have hS : va_S (zA [] s.heap.size) s.heap s.heap [] := va_S.rf
  replace hl : lv_has ls 1 [(0, .int l0)] := hl
  unfold fX6_isChoice at h
  refine lv_iload_n hx hb dX6_isChoice_0 rfl (lv_at hl 0 rfl) ?_
  refine lv_if_lt (tgt := 13) hx hb dX6_isChoice_1 (by decide) (fun hc => ?_) (fun hc => ?_)
  · replace h := zt hc h
    refine lv_iconst (v := 0) hx hb dX6_isChoice_13 (by decide) ?_
    cases h
    exact z_zret hx hb hr hlk rfl hP hS dX6_isChoice_14
  · replace h := zf hc h
    refine lv_iload_n hx hb dX6_isChoice_4 rfl (lv_at hl 0 rfl) ?_
    refine lv_iconst (v := 4) hx hb dX6_isChoice_5 (by decide) ?_
    refine lv_icmp_ge (tgt := 13) hx hb dX6_isChoice_6 (by decide) (fun hc => ?_) (fun hc => ?_)
    · replace h := zt hc h
      refine lv_iconst (v := 0) hx hb dX6_isChoice_13 (by decide) ?_
      cases h
      exact z_zret hx hb hr hlk rfl hP hS dX6_isChoice_14
    · replace h := zf hc h
      refine lv_iconst (v := 1) hx hb dX6_isChoice_9 (by decide) ?_
      refine lv_goto (tgt := 14) hx hb dX6_isChoice_10 (by decide) ?_
      cases h
      exact z_zret hx hb hr hlk rfl hP hS dX6_isChoice_14
end
def rmX4_keepBallot : Room := { frames := 0, cells := 0, slots := 0, locals := 0 }
theorem kvX4_keepBallot : yX4_keepBallot.cls = RX4 ∧ yX4_keepBallot.cls ≠ "java/lang/invoke/MethodHandle" ∧ yX4_keepBallot.cls ≠ "java/lang/invoke/VarHandle" ∧ (parseMethodDescriptor yX4_keepBallot.desc).map (fun d => d.parameters.length) = some 3 := by decide +kernel
section
variable {p : Program} {l : Launch} {e : Env} {s : State} {m : MethodId} {args : Array Value} {below : List Frame} {meth : Method} {c : Code} {G : zG} {xP : Nat → Nat} {vP : zSt}
set_option maxRecDepth 20000 in
theorem mX4_keepBallot (l : Launch) (G : zG) (xP : Nat → Nat) {uP : zSt} {l1 : Int32} {l2 : Int32} {l3 : Int32} {vP : zSt} (h : fX4_keepBallot uP l1 l2 l3 = some vP) : zC l yX4_keepBallot wsX4_keepBallot rmX4_keepBallot [.ref (xP 0), .int l1, .int l2, .int l3] G [shP G xP] [uP] [vP] none := by
  refine z_ofW (cc := cX4_keepBallot) (maxL := 4) (ret := none) (by decide) rfl (Nat.le_of_ble_eq_true rfl) ?_
  intro p e s m args below meth c C0 hK hN hD hP ls hl
  obtain ⟨hx, hb, hr, hml, hown, hts, hlk⟩ := id C0
  have hS : va_S (zA [shP G xP] s.heap.size) s.heap s.heap [] := va_S.rf
  replace hl : lv_has ls 4 [(0, .ref (xP 0)), (1, .int l1), (2, .int l2), (3, .int l3)] := hl
  have hwX4 : ∀ w ∈ wsX40, w.before args s = true := fun w h => hts w (List.mem_cons_of_mem _ (List.mem_append_right _ h))
  unfold fX4_keepBallot at h
  refine lv_aload_n hx hb dX4_keepBallot_0 rfl (lv_at hl 0 rfl) ?_
  refine rP_3 hx hb hwX4 hown hK hP 0 (xP) rfl rfl (hts _ (List.mem_of_getElem? (i := 1) rfl)) dX4_keepBallot_1 ?_
  refine lv_iload_n hx hb dX4_keepBallot_4 rfl (lv_at hl 1 rfl) ?_
  refine lv_iconst (v := 1) hx hb dX4_keepBallot_5 (by decide) ?_
  obtain ⟨hi, h⟩ := zin_e h
  refine tP_3 hx hb hK hP hD hS 0 (xP) rfl rfl hi rfl vnb_1 dX4_keepBallot_6 (fun H locs hP hS => ?_)
  replace hP : zP G [shP G xP] [(sA uP 3 l1.toNatClampNeg ((1 : Int32)))] H := hP
  refine lv_aload_n hx hb dX4_keepBallot_7 rfl (lv_at hl 0 rfl) ?_
  refine rP_4 hx hb hwX4 hown hK hP 0 (xP) rfl rfl (hts _ (List.mem_of_getElem? (i := 2) rfl)) dX4_keepBallot_8 ?_
  refine lv_iload_n hx hb dX4_keepBallot_11 rfl (lv_at hl 1 rfl) ?_
  refine lv_iload_n hx hb dX4_keepBallot_12 rfl (lv_at hl 2 rfl) ?_
  obtain ⟨hi, h⟩ := zin_e h
  refine tP_4 hx hb hK hP hD hS 0 (xP) rfl rfl hi rfl dX4_keepBallot_13 (fun H locs hP hS => ?_)
  replace hP : zP G [shP G xP] [(sA ((sA uP 3 l1.toNatClampNeg ((1 : Int32)))) 4 l1.toNatClampNeg l2)] H := hP
  refine lv_aload_n hx hb dX4_keepBallot_14 rfl (lv_at hl 0 rfl) ?_
  refine rP_5 hx hb hwX4 hown hK hP 0 (xP) rfl rfl (hts _ (List.mem_of_getElem? (i := 3) rfl)) dX4_keepBallot_15 ?_
  refine lv_iload_n hx hb dX4_keepBallot_18 rfl (lv_at hl 1 rfl) ?_
  refine lv_iload_n hx hb dX4_keepBallot_19 rfl (lv_at hl 3 rfl) ?_
  obtain ⟨hi, h⟩ := zin_e h
  refine tP_5 hx hb hK hP hD hS 0 (xP) rfl rfl hi rfl dX4_keepBallot_20 (fun H locs hP hS => ?_)
  replace hP : zP G [shP G xP] [(sA ((sA ((sA uP 3 l1.toNatClampNeg ((1 : Int32)))) 4 l1.toNatClampNeg l2)) 5 l1.toNatClampNeg l3)] H := hP
  cases h
  exact z_vret hx hb hr hlk hP hS dX4_keepBallot_21
end
def rmX4_ballotVoters : Room := { frames := 0, cells := 0, slots := 0, locals := 0 }
theorem kvX4_ballotVoters : yX4_ballotVoters.cls = RX4 ∧ yX4_ballotVoters.cls ≠ "java/lang/invoke/MethodHandle" ∧ yX4_ballotVoters.cls ≠ "java/lang/invoke/VarHandle" ∧ (parseMethodDescriptor yX4_ballotVoters.desc).map (fun d => d.parameters.length) = some 0 := by decide +kernel
section
variable {p : Program} {l : Launch} {e : Env} {s : State} {m : MethodId} {args : Array Value} {below : List Frame} {meth : Method} {c : Code} {G : zG} {xP : Nat → Nat} {rr : Int32}
set_option maxRecDepth 20000 in
theorem tX4_ballotVoters_22 (C0 : zCtx p s m args meth c cX4_ballotVoters RX4 wsX4_ballotVoters 3 (some .int)) (hK : zK G s) (hN : zN s) (hD : zD [shP G xP]) {k4 : zSt → Int32 → Int32 → Option (Int32)} (K4 : ∀ (uP : zSt) (l1 : Int32) (l2 : Int32), k4 uP l1 l2 = some rr → ∀ (H : Heap) (locs : List Loc), zP G [shP G xP] [uP] H → va_S (zA [shP G xP] s.heap.size) s.heap H locs → ∀ ls : Array Slot, lv_has ls 3 [(0, .ref (xP 0)), (1, .int l1), (2, .int l2)] → W p l e rmX4_ballotVoters s m args below meth c H locs 0 0 (MQ below (zQ G [shP G xP] [uP] (zA [shP G xP] s.heap.size) (some (.int rr))) args s 0 0 (zA [shP G xP] s.heap.size)) (F0 m 4 ls [])) : ∀ (uP : zSt) (l1 : Int32) (l2 : Int32), bX4_ballotVoters_22 k4 uP l1 l2 = some rr → ∀ (H : Heap) (locs : List Loc), zP G [shP G xP] [uP] H → va_S (zA [shP G xP] s.heap.size) s.heap H locs → ∀ ls : Array Slot, lv_has ls 3 [(0, .ref (xP 0)), (1, .int l1), (2, .int l2)] → W p l e rmX4_ballotVoters s m args below meth c H locs 0 0 (MQ below (zQ G [shP G xP] [uP] (zA [shP G xP] s.heap.size) (some (.int rr))) args s 0 0 (zA [shP G xP] s.heap.size)) (F0 m 22 ls []) := by
  obtain ⟨hx, hb, hr, hml, hown, hts, hlk⟩ := id C0
  intro uP l1 l2 h H locs hP hS ls hl
  unfold bX4_ballotVoters_22 at h
  refine lv_iinc (v := (l2 + (1 : Int32))) (lv' := [(2, .int ((l2 + (1 : Int32)))), (0, .ref (xP 0)), (1, .int l1)]) hx hb dX4_ballotVoters_22 hl (k := 2) rfl rfl (by decide) rfl (fun ls hl => ?_)
  refine lv_goto (tgt := 4) hx hb dX4_ballotVoters_25 (by decide) ?_
  exact K4 _ _ _ h _ _ hP hS _ (lv_sub hl [1, 2, 0] rfl)
set_option maxRecDepth 20000 in
theorem tlX4_ballotVoters_4 (C0 : zCtx p s m args meth c cX4_ballotVoters RX4 wsX4_ballotVoters 3 (some .int)) (hK : zK G s) (hN : zN s) (hD : zD [shP G xP])  : ∀ (n : Nat), ∀ (uP : zSt) (l1 : Int32) (l2 : Int32), lX4_ballotVoters_4  n uP l1 l2 = some rr → ∀ (H : Heap) (locs : List Loc), zP G [shP G xP] [uP] H → va_S (zA [shP G xP] s.heap.size) s.heap H locs → ∀ ls : Array Slot, lv_has ls 3 [(0, .ref (xP 0)), (1, .int l1), (2, .int l2)] → W p l e rmX4_ballotVoters s m args below meth c H locs 0 0 (MQ below (zQ G [shP G xP] [uP] (zA [shP G xP] s.heap.size) (some (.int rr))) args s 0 0 (zA [shP G xP] s.heap.size)) (F0 m 4 ls []) := by
  obtain ⟨hx, hb, hr, hml, hown, hts, hlk⟩ := id C0
  have hwX4 : ∀ w ∈ wsX40, w.before args s = true := fun w h => hts w (List.mem_cons_of_mem _ (List.mem_append_right _ h))
  intro n
  induction n with
  | zero => intro uP l1 l2 h; exact absurd h (fun q => nomatch q)
  | succ n K4 =>
    intro uP l1 l2 h H locs hP hS ls hl
    replace h : bX4_ballotVoters_4  (lX4_ballotVoters_4  n) uP l1 l2 = some rr := h
    unfold bX4_ballotVoters_4 at h
    refine lv_iload_n hx hb dX4_ballotVoters_4 rfl (lv_at hl 2 rfl) ?_
    refine lv_bipush (v := 10) hx hb dX4_ballotVoters_5 (by decide) ?_
    refine lv_icmp_ge (tgt := 28) hx hb dX4_ballotVoters_7 (by decide) (fun hc => ?_) (fun hc => ?_)
    · replace h := zt hc h
      refine lv_iload_n hx hb dX4_ballotVoters_28 rfl (lv_at hl 1 rfl) ?_
      cases h
      exact z_iret hx hb hr hlk hP hS dX4_ballotVoters_29
    · replace h := zf hc h
      refine lv_aload_n hx hb dX4_ballotVoters_10 rfl (lv_at hl 0 rfl) ?_
      refine rP_3 hx hb hwX4 hown hK hP 0 (xP) rfl rfl (hts _ (List.mem_of_getElem? (i := 1) rfl)) dX4_ballotVoters_11 ?_
      refine lv_iload_n hx hb dX4_ballotVoters_14 rfl (lv_at hl 2 rfl) ?_
      obtain ⟨hi, h⟩ := zin_e h
      refine aP_3 hx hb hK hP 0 (xP) rfl rfl hi rfl dX4_ballotVoters_15 ?_
      refine lv_if_eq (tgt := 22) hx hb dX4_ballotVoters_16 (by decide) (fun hc => ?_) (fun hc => ?_)
      · replace h := zt hc h
        exact tX4_ballotVoters_22 C0 hK hN hD K4 _ _ _ h _ _ hP hS _ (lv_sub hl [0, 1, 2] rfl)
      · replace h := zf hc h
        refine lv_iinc (v := (l1 + (1 : Int32))) (lv' := [(1, .int ((l1 + (1 : Int32)))), (0, .ref (xP 0)), (2, .int l2)]) hx hb dX4_ballotVoters_19 hl (k := 1) rfl rfl (by decide) rfl (fun ls hl => ?_)
        exact tX4_ballotVoters_22 C0 hK hN hD K4 _ _ _ h _ _ hP hS _ (lv_sub hl [1, 0, 2] rfl)
set_option maxRecDepth 20000 in
theorem mX4_ballotVoters (l : Launch) (G : zG) (xP : Nat → Nat) {uP : zSt} {rr : Int32} (h : fX4_ballotVoters uP = some rr) : zC l yX4_ballotVoters wsX4_ballotVoters rmX4_ballotVoters [.ref (xP 0)] G [shP G xP] [uP] [uP] (some (.int rr)) := by
  refine z_ofW (cc := cX4_ballotVoters) (maxL := 3) (ret := some .int) (by decide) rfl (Nat.le_of_ble_eq_true rfl) ?_
  intro p e s m args below meth c C0 hK hN hD hP ls hl
  obtain ⟨hx, hb, hr, hml, hown, hts, hlk⟩ := id C0
  have hS : va_S (zA [shP G xP] s.heap.size) s.heap s.heap [] := va_S.rf
  replace hl : lv_has ls 3 [(0, .ref (xP 0))] := hl
  unfold fX4_ballotVoters at h
  refine lv_iconst (v := 0) hx hb dX4_ballotVoters_0 (by decide) ?_
  refine lv_istore_n (lv' := [(1, .int ((0 : Int32))), (0, .ref (xP 0))]) hx hb dX4_ballotVoters_1 rfl hl (by decide) rfl (fun ls hl => ?_)
  refine lv_iconst (v := 0) hx hb dX4_ballotVoters_2 (by decide) ?_
  refine lv_istore_n (lv' := [(2, .int ((0 : Int32))), (1, .int ((0 : Int32))), (0, .ref (xP 0))]) hx hb dX4_ballotVoters_3 rfl hl (by decide) rfl (fun ls hl => ?_)
  exact tlX4_ballotVoters_4 C0 hK hN hD  1000 _ _ _ h _ _ hP hS _ (lv_sub hl [2, 1, 0] rfl)
end
def rmX4_gatherEntries : Room := { frames := 0, cells := 0, slots := 0, locals := 0 }
theorem kvX4_gatherEntries : yX4_gatherEntries.cls = RX4 ∧ yX4_gatherEntries.cls ≠ "java/lang/invoke/MethodHandle" ∧ yX4_gatherEntries.cls ≠ "java/lang/invoke/VarHandle" ∧ (parseMethodDescriptor yX4_gatherEntries.desc).map (fun d => d.parameters.length) = some 0 := by decide +kernel
section
variable {p : Program} {l : Launch} {e : Env} {s : State} {m : MethodId} {args : Array Value} {below : List Frame} {meth : Method} {c : Code} {G : zG} {xP : Nat → Nat} {vP : zSt}
set_option maxRecDepth 20000 in
theorem tX4_gatherEntries_72 (C0 : zCtx p s m args meth c cX4_gatherEntries RX4 wsX4_gatherEntries 2 none) (hK : zK G s) (hN : zN s) (hD : zD [shP G xP]) {k7 : zSt → Int32 → Option (zSt)} (K7 : ∀ (uP : zSt) (l1 : Int32), k7 uP l1 = some vP → ∀ (H : Heap) (locs : List Loc), zP G [shP G xP] [uP] H → va_S (zA [shP G xP] s.heap.size) s.heap H locs → ∀ ls : Array Slot, lv_has ls 2 [(0, .ref (xP 0)), (1, .int l1)] → W p l e rmX4_gatherEntries s m args below meth c H locs 0 0 (MQ below (zQ G [shP G xP] [vP] (zA [shP G xP] s.heap.size) none) args s 0 0 (zA [shP G xP] s.heap.size)) (F0 m 7 ls [])) : ∀ (uP : zSt) (l1 : Int32), bX4_gatherEntries_72 k7 uP l1 = some vP → ∀ (H : Heap) (locs : List Loc), zP G [shP G xP] [uP] H → va_S (zA [shP G xP] s.heap.size) s.heap H locs → ∀ ls : Array Slot, lv_has ls 2 [(0, .ref (xP 0)), (1, .int l1)] → W p l e rmX4_gatherEntries s m args below meth c H locs 0 0 (MQ below (zQ G [shP G xP] [vP] (zA [shP G xP] s.heap.size) none) args s 0 0 (zA [shP G xP] s.heap.size)) (F0 m 72 ls []) := by
  obtain ⟨hx, hb, hr, hml, hown, hts, hlk⟩ := id C0
  intro uP l1 h H locs hP hS ls hl
  unfold bX4_gatherEntries_72 at h
  refine lv_iinc (v := (l1 + (1 : Int32))) (lv' := [(1, .int ((l1 + (1 : Int32)))), (0, .ref (xP 0))]) hx hb dX4_gatherEntries_72 hl (k := 1) rfl rfl (by decide) rfl (fun ls hl => ?_)
  refine lv_goto (tgt := 7) hx hb dX4_gatherEntries_75 (by decide) ?_
  exact K7 _ _ h _ _ hP hS _ (lv_sub hl [1, 0] rfl)
set_option maxRecDepth 20000 in
theorem tlX4_gatherEntries_7 (C0 : zCtx p s m args meth c cX4_gatherEntries RX4 wsX4_gatherEntries 2 none) (hK : zK G s) (hN : zN s) (hD : zD [shP G xP])  : ∀ (n : Nat), ∀ (uP : zSt) (l1 : Int32), lX4_gatherEntries_7  n uP l1 = some vP → ∀ (H : Heap) (locs : List Loc), zP G [shP G xP] [uP] H → va_S (zA [shP G xP] s.heap.size) s.heap H locs → ∀ ls : Array Slot, lv_has ls 2 [(0, .ref (xP 0)), (1, .int l1)] → W p l e rmX4_gatherEntries s m args below meth c H locs 0 0 (MQ below (zQ G [shP G xP] [vP] (zA [shP G xP] s.heap.size) none) args s 0 0 (zA [shP G xP] s.heap.size)) (F0 m 7 ls []) := by
  obtain ⟨hx, hb, hr, hml, hown, hts, hlk⟩ := id C0
  have hwX4 : ∀ w ∈ wsX40, w.before args s = true := fun w h => hts w (List.mem_cons_of_mem _ (List.mem_append_right _ h))
  intro n
  induction n with
  | zero => intro uP l1 h; exact absurd h (fun q => nomatch q)
  | succ n K7 =>
    intro uP l1 h H locs hP hS ls hl
    replace h : bX4_gatherEntries_7  (lX4_gatherEntries_7  n) uP l1 = some vP := h
    unfold bX4_gatherEntries_7 at h
    refine lv_iload_n hx hb dX4_gatherEntries_7 rfl (lv_at hl 1 rfl) ?_
    refine lv_bipush (v := 10) hx hb dX4_gatherEntries_8 (by decide) ?_
    refine lv_icmp_ge (tgt := 78) hx hb dX4_gatherEntries_10 (by decide) (fun hc => ?_) (fun hc => ?_)
    · replace h := zt hc h
      cases h
      exact z_vret hx hb hr hlk hP hS dX4_gatherEntries_78
    · replace h := zf hc h
      refine lv_aload_n hx hb dX4_gatherEntries_13 rfl (lv_at hl 0 rfl) ?_
      refine rP_3 hx hb hwX4 hown hK hP 0 (xP) rfl rfl (hts _ (List.mem_of_getElem? (i := 2) rfl)) dX4_gatherEntries_14 ?_
      refine lv_iload_n hx hb dX4_gatherEntries_17 rfl (lv_at hl 1 rfl) ?_
      obtain ⟨hi, h⟩ := zin_e h
      refine aP_3 hx hb hK hP 0 (xP) rfl rfl hi rfl dX4_gatherEntries_18 ?_
      refine lv_if_eq (tgt := 72) hx hb dX4_gatherEntries_19 (by decide) (fun hc => ?_) (fun hc => ?_)
      · replace h := zt hc h
        exact tX4_gatherEntries_72 C0 hK hN hD K7 _ _ h _ _ hP hS _ (lv_sub hl [0, 1] rfl)
      · replace h := zf hc h
        refine lv_aload_n hx hb dX4_gatherEntries_22 rfl (lv_at hl 0 rfl) ?_
        refine rP_7 hx hb hwX4 hown hK hP 0 (xP) rfl rfl (hts _ (List.mem_of_getElem? (i := 3) rfl)) dX4_gatherEntries_23 ?_
        refine lv_aload_n hx hb dX4_gatherEntries_26 rfl (lv_at hl 0 rfl) ?_
        refine rP_6 hx hb hwX4 hown hK hP 0 (xP) rfl rfl (hts _ (List.mem_of_getElem? (i := 1) rfl)) dX4_gatherEntries_27 ?_
        refine lv_aload_n hx hb dX4_gatherEntries_30 rfl (lv_at hl 0 rfl) ?_
        refine rP_4 hx hb hwX4 hown hK hP 0 (xP) rfl rfl (hts _ (List.mem_of_getElem? (i := 4) rfl)) dX4_gatherEntries_31 ?_
        refine lv_iload_n hx hb dX4_gatherEntries_34 rfl (lv_at hl 1 rfl) ?_
        obtain ⟨hi, h⟩ := zin_e h
        refine aP_4 hx hb hK hP 0 (xP) rfl rfl hi rfl dX4_gatherEntries_35 ?_
        obtain ⟨hi, h⟩ := zin_e h
        refine tP_7 hx hb hK hP hD hS 0 (xP) rfl rfl hi rfl dX4_gatherEntries_36 (fun H locs hP hS => ?_)
        replace hP : zP G [shP G xP] [(sA uP 7 ((gI uP 6)).toNatClampNeg ((gA uP 4 l1.toNatClampNeg)))] H := hP
        refine lv_aload_n hx hb dX4_gatherEntries_37 rfl (lv_at hl 0 rfl) ?_
        refine rP_8 hx hb hwX4 hown hK hP 0 (xP) rfl rfl (hts _ (List.mem_of_getElem? (i := 5) rfl)) dX4_gatherEntries_38 ?_
        refine lv_aload_n hx hb dX4_gatherEntries_41 rfl (lv_at hl 0 rfl) ?_
        refine rP_6 hx hb hwX4 hown hK hP 0 (xP) rfl rfl (hts _ (List.mem_of_getElem? (i := 1) rfl)) dX4_gatherEntries_42 ?_
        refine lv_aload_n hx hb dX4_gatherEntries_45 rfl (lv_at hl 0 rfl) ?_
        refine rP_5 hx hb hwX4 hown hK hP 0 (xP) rfl rfl (hts _ (List.mem_of_getElem? (i := 6) rfl)) dX4_gatherEntries_46 ?_
        refine lv_iload_n hx hb dX4_gatherEntries_49 rfl (lv_at hl 1 rfl) ?_
        obtain ⟨hi, h⟩ := zin_e h
        refine aP_5 hx hb hK hP 0 (xP) rfl rfl hi rfl dX4_gatherEntries_50 ?_
        obtain ⟨hi, h⟩ := zin_e h
        refine tP_8 hx hb hK hP hD hS 0 (xP) rfl rfl hi rfl dX4_gatherEntries_51 (fun H locs hP hS => ?_)
        replace hP : zP G [shP G xP] [(sA ((sA uP 7 ((gI uP 6)).toNatClampNeg ((gA uP 4 l1.toNatClampNeg)))) 8 ((gI ((sA uP 7 ((gI uP 6)).toNatClampNeg ((gA uP 4 l1.toNatClampNeg)))) 6)).toNatClampNeg ((gA ((sA uP 7 ((gI uP 6)).toNatClampNeg ((gA uP 4 l1.toNatClampNeg)))) 5 l1.toNatClampNeg)))] H := hP
        refine lv_aload_n hx hb dX4_gatherEntries_52 rfl (lv_at hl 0 rfl) ?_
        refine rP_12 hx hb hwX4 hown hK hP 0 (xP) rfl rfl (hts _ (List.mem_of_getElem? (i := 7) rfl)) dX4_gatherEntries_53 ?_
        refine lv_aload_n hx hb dX4_gatherEntries_56 rfl (lv_at hl 0 rfl) ?_
        refine rP_6 hx hb hwX4 hown hK hP 0 (xP) rfl rfl (hts _ (List.mem_of_getElem? (i := 1) rfl)) dX4_gatherEntries_57 ?_
        refine lv_iconst (v := 1) hx hb dX4_gatherEntries_60 (by decide) ?_
        obtain ⟨hi, h⟩ := zin_e h
        refine tP_12 hx hb hK hP hD hS 0 (xP) rfl rfl hi rfl dX4_gatherEntries_61 (fun H locs hP hS => ?_)
        replace hP : zP G [shP G xP] [(sA ((sA ((sA uP 7 ((gI uP 6)).toNatClampNeg ((gA uP 4 l1.toNatClampNeg)))) 8 ((gI ((sA uP 7 ((gI uP 6)).toNatClampNeg ((gA uP 4 l1.toNatClampNeg)))) 6)).toNatClampNeg ((gA ((sA uP 7 ((gI uP 6)).toNatClampNeg ((gA uP 4 l1.toNatClampNeg)))) 5 l1.toNatClampNeg)))) 12 ((gI ((sA ((sA uP 7 ((gI uP 6)).toNatClampNeg ((gA uP 4 l1.toNatClampNeg)))) 8 ((gI ((sA uP 7 ((gI uP 6)).toNatClampNeg ((gA uP 4 l1.toNatClampNeg)))) 6)).toNatClampNeg ((gA ((sA uP 7 ((gI uP 6)).toNatClampNeg ((gA uP 4 l1.toNatClampNeg)))) 5 l1.toNatClampNeg)))) 6)).toNatClampNeg ((1 : Int32)))] H := hP
        refine lv_aload_n hx hb dX4_gatherEntries_62 rfl (lv_at hl 0 rfl) ?_
        refine lv_dup hx hb dX4_gatherEntries_63 rfl ?_
        refine rP_6 hx hb hwX4 hown hK hP 0 (xP) rfl rfl (hts _ (List.mem_of_getElem? (i := 1) rfl)) dX4_gatherEntries_64 ?_
        refine lv_iconst (v := 1) hx hb dX4_gatherEntries_67 (by decide) ?_
        refine lv_iadd hx hb dX4_gatherEntries_68 ?_
        refine pP_6 hx hb hwX4 hown hK hP hD hS 0 (xP) rfl rfl (hts _ (List.mem_of_getElem? (i := 1) rfl)) dX4_gatherEntries_69 (fun H locs hP hS => ?_)
        replace hP : zP G [shP G xP] [(sI ((sA ((sA ((sA uP 7 ((gI uP 6)).toNatClampNeg ((gA uP 4 l1.toNatClampNeg)))) 8 ((gI ((sA uP 7 ((gI uP 6)).toNatClampNeg ((gA uP 4 l1.toNatClampNeg)))) 6)).toNatClampNeg ((gA ((sA uP 7 ((gI uP 6)).toNatClampNeg ((gA uP 4 l1.toNatClampNeg)))) 5 l1.toNatClampNeg)))) 12 ((gI ((sA ((sA uP 7 ((gI uP 6)).toNatClampNeg ((gA uP 4 l1.toNatClampNeg)))) 8 ((gI ((sA uP 7 ((gI uP 6)).toNatClampNeg ((gA uP 4 l1.toNatClampNeg)))) 6)).toNatClampNeg ((gA ((sA uP 7 ((gI uP 6)).toNatClampNeg ((gA uP 4 l1.toNatClampNeg)))) 5 l1.toNatClampNeg)))) 6)).toNatClampNeg ((1 : Int32)))) 6 (((gI ((sA ((sA ((sA uP 7 ((gI uP 6)).toNatClampNeg ((gA uP 4 l1.toNatClampNeg)))) 8 ((gI ((sA uP 7 ((gI uP 6)).toNatClampNeg ((gA uP 4 l1.toNatClampNeg)))) 6)).toNatClampNeg ((gA ((sA uP 7 ((gI uP 6)).toNatClampNeg ((gA uP 4 l1.toNatClampNeg)))) 5 l1.toNatClampNeg)))) 12 ((gI ((sA ((sA uP 7 ((gI uP 6)).toNatClampNeg ((gA uP 4 l1.toNatClampNeg)))) 8 ((gI ((sA uP 7 ((gI uP 6)).toNatClampNeg ((gA uP 4 l1.toNatClampNeg)))) 6)).toNatClampNeg ((gA ((sA uP 7 ((gI uP 6)).toNatClampNeg ((gA uP 4 l1.toNatClampNeg)))) 5 l1.toNatClampNeg)))) 6)).toNatClampNeg ((1 : Int32)))) 6) + (1 : Int32))))] H := hP
        exact tX4_gatherEntries_72 C0 hK hN hD K7 _ _ h _ _ hP hS _ (lv_sub hl [0, 1] rfl)
set_option maxRecDepth 20000 in
theorem mX4_gatherEntries (l : Launch) (G : zG) (xP : Nat → Nat) {uP : zSt} {vP : zSt} (h : fX4_gatherEntries uP = some vP) : zC l yX4_gatherEntries wsX4_gatherEntries rmX4_gatherEntries [.ref (xP 0)] G [shP G xP] [uP] [vP] none := by
  refine z_ofW (cc := cX4_gatherEntries) (maxL := 2) (ret := none) (by decide) rfl (Nat.le_of_ble_eq_true rfl) ?_
  intro p e s m args below meth c C0 hK hN hD hP ls hl
  obtain ⟨hx, hb, hr, hml, hown, hts, hlk⟩ := id C0
  have hS : va_S (zA [shP G xP] s.heap.size) s.heap s.heap [] := va_S.rf
  replace hl : lv_has ls 2 [(0, .ref (xP 0))] := hl
  have hwX4 : ∀ w ∈ wsX40, w.before args s = true := fun w h => hts w (List.mem_cons_of_mem _ (List.mem_append_right _ h))
  unfold fX4_gatherEntries at h
  refine lv_aload_n hx hb dX4_gatherEntries_0 rfl (lv_at hl 0 rfl) ?_
  refine lv_iconst (v := 0) hx hb dX4_gatherEntries_1 (by decide) ?_
  refine pP_6 hx hb hwX4 hown hK hP hD hS 0 (xP) rfl rfl (hts _ (List.mem_of_getElem? (i := 1) rfl)) dX4_gatherEntries_2 (fun H locs hP hS => ?_)
  replace hP : zP G [shP G xP] [(sI uP 6 ((0 : Int32)))] H := hP
  refine lv_iconst (v := 0) hx hb dX4_gatherEntries_5 (by decide) ?_
  refine lv_istore_n (lv' := [(1, .int ((0 : Int32))), (0, .ref (xP 0))]) hx hb dX4_gatherEntries_6 rfl hl (by decide) rfl (fun ls hl => ?_)
  exact tlX4_gatherEntries_7 C0 hK hN hD  1000 _ _ h _ _ hP hS _ (lv_sub hl [1, 0] rfl)
end
def rmX6_putEntries : Room := { frames := 2, cells := 0, slots := 0, locals := 49 }
theorem kvX6_putEntries : yX6_putEntries.cls = RX6 ∧ yX6_putEntries.cls ≠ "java/lang/invoke/MethodHandle" ∧ yX6_putEntries.cls ≠ "java/lang/invoke/VarHandle" ∧ (parseMethodDescriptor yX6_putEntries.desc).map (fun d => d.parameters.length) = some 0 := by decide +kernel
section
variable {p : Program} {l : Launch} {e : Env} {s : State} {m : MethodId} {args : Array Value} {below : List Frame} {meth : Method} {c : Code} {G : zG} {xO : Nat → Nat} {vB : zSt}
set_option maxRecDepth 20000 in
theorem tlX6_putEntries_2 (C0 : zCtx p s m args meth c cX6_putEntries RX6 wsX6_putEntries 2 none) (hK : zK G s) (hN : zN s) (hD : zD [shO G xO, shB G (ad 1 xO), shP G (ad 5 xO)])  : ∀ (n : Nat), ∀ (uO : zSt) (uB : zSt) (uP : zSt) (l1 : Int32), lX6_putEntries_2  n uO uB uP l1 = some vB → ∀ (H : Heap) (locs : List Loc), zP G [shO G xO, shB G (ad 1 xO), shP G (ad 5 xO)] [uO, uB, uP] H → va_S (zA [shO G xO, shB G (ad 1 xO), shP G (ad 5 xO)] s.heap.size) s.heap H locs → ∀ ls : Array Slot, lv_has ls 2 [(0, .ref (xO 0)), (1, .int l1)] → W p l e rmX6_putEntries s m args below meth c H locs 0 0 (MQ below (zQ G [shO G xO, shB G (ad 1 xO), shP G (ad 5 xO)] [uO, vB, uP] (zA [shO G xO, shB G (ad 1 xO), shP G (ad 5 xO)] s.heap.size) none) args s 0 0 (zA [shO G xO, shB G (ad 1 xO), shP G (ad 5 xO)] s.heap.size)) (F0 m 2 ls []) := by
  obtain ⟨hx, hb, hr, hml, hown, hts, hlk⟩ := id C0
  have hwX4 : ∀ w ∈ wsX40, w.before args s = true := fun w h => hts w (List.mem_cons_of_mem _ (List.mem_append_left _ (List.mem_append_right _ h)))
  have hwX6 : ∀ w ∈ wsX60, w.before args s = true := fun w h => hts w (List.mem_cons_of_mem _ (List.mem_append_left _ (List.mem_append_left _ (List.mem_append_right _ h))))
  intro n
  induction n with
  | zero => intro uO uB uP l1 h; exact absurd h (fun q => nomatch q)
  | succ n K2 =>
    intro uO uB uP l1 h H locs hP hS ls hl
    replace h : bX6_putEntries_2  (lX6_putEntries_2  n) uO uB uP l1 = some vB := h
    unfold bX6_putEntries_2 at h
    refine lv_iload_n hx hb dX6_putEntries_2 rfl (lv_at hl 1 rfl) ?_
    refine lv_aload_n hx hb dX6_putEntries_3 rfl (lv_at hl 0 rfl) ?_
    refine rO_1 hx hb hwX6 hown hK hP 0 (xO) rfl rfl (hts _ (List.mem_of_getElem? (i := 1) rfl)) dX6_putEntries_4 ?_
    refine rNP_6 hx hb hwX4 hown hK hP 2 (ad 5 xO) rfl rfl (hN.f (List.mem_of_getElem? (i := 7) rfl)) dX6_putEntries_7 ?_
    refine lv_icmp_ge (tgt := 47) hx hb dX6_putEntries_10 (by decide) (fun hc => ?_) (fun hc => ?_)
    · replace h := zt hc h
      cases h
      exact z_vret hx hb hr hlk hP hS dX6_putEntries_47
    · replace h := zf hc h
      refine lv_aload_n hx hb dX6_putEntries_13 rfl (lv_at hl 0 rfl) ?_
      refine rO_0 hx hb hwX6 hown hK hP 0 (xO) rfl rfl (hts _ (List.mem_of_getElem? (i := 2) rfl)) dX6_putEntries_14 ?_
      refine lv_iconst (v := 5) hx hb dX6_putEntries_17 (by decide) ?_
      refine lv_aload_n hx hb dX6_putEntries_18 rfl (lv_at hl 0 rfl) ?_
      refine rO_1 hx hb hwX6 hown hK hP 0 (xO) rfl rfl (hts _ (List.mem_of_getElem? (i := 1) rfl)) dX6_putEntries_19 ?_
      refine rNP_7 hx hb hwX4 hown hK hP 2 (ad 5 xO) rfl rfl (hN.f (List.mem_of_getElem? (i := 10) rfl)) dX6_putEntries_22 ?_
      refine lv_iload_n hx hb dX6_putEntries_25 rfl (lv_at hl 1 rfl) ?_
      obtain ⟨hi, h⟩ := zin_e h
      refine aP_7 hx hb hK hP 2 (ad 5 xO) rfl rfl hi rfl dX6_putEntries_26 ?_
      refine lv_aload_n hx hb dX6_putEntries_27 rfl (lv_at hl 0 rfl) ?_
      refine rO_1 hx hb hwX6 hown hK hP 0 (xO) rfl rfl (hts _ (List.mem_of_getElem? (i := 1) rfl)) dX6_putEntries_28 ?_
      refine rNP_8 hx hb hwX4 hown hK hP 2 (ad 5 xO) rfl rfl (hN.f (List.mem_of_getElem? (i := 12) rfl)) dX6_putEntries_31 ?_
      refine lv_iload_n hx hb dX6_putEntries_34 rfl (lv_at hl 1 rfl) ?_
      obtain ⟨hi, h⟩ := zin_e h
      refine aP_8 hx hb hK hP 2 (ad 5 xO) rfl rfl hi rfl dX6_putEntries_35 ?_
      refine lv_iconst (v := 0) hx hb dX6_putEntries_36 (by decide) ?_
      obtain ⟨r_1, uB_2, hg, h⟩ := zb2_e h
      refine z_callV (As := [.int ((5 : Int32)), .int ((gA uP 7 l1.toNatClampNeg)), .int ((gA uP 8 l1.toNatClampNeg)), .int ((0 : Int32))]) (rest := []) (i := 0) ⟨hx, hb, hml, hown, hts⟩ (mX1_put l G (ad 1 xO) hg) (cwV 4 hts gX6_putEntries_X1_put rfl rfl rfl kvX1_put ⟨Nat.le_of_ble_eq_true rfl, Nat.le_of_ble_eq_true rfl⟩) rfl hP hD hK hN hS (Nat.le_refl _) [1] rfl rfl rfl rfl 1 rfl rfl rfl rfl rfl hl.1 rfl (Nat.le_of_ble_eq_true rfl) dX6_putEntries_37 ⟨Nat.zero_le _, Nat.zero_le _⟩ (fun H locs hP hS => ?_)
      replace hP : zP G [shO G xO, shB G (ad 1 xO), shP G (ad 5 xO)] [uO, uB_2, uP] H := hP
      refine lv_pop hx hb dX6_putEntries_40 rfl ?_
      refine lv_iinc (v := (l1 + (1 : Int32))) (lv' := [(1, .int ((l1 + (1 : Int32)))), (0, .ref (xO 0))]) hx hb dX6_putEntries_41 hl (k := 1) rfl rfl (by decide) rfl (fun ls hl => ?_)
      refine lv_goto (tgt := 2) hx hb dX6_putEntries_44 (by decide) ?_
      exact K2 _ _ _ _ h _ _ hP hS _ (lv_sub hl [1, 0] rfl)
set_option maxRecDepth 20000 in
theorem mX6_putEntries (l : Launch) (G : zG) (xO : Nat → Nat) {uO : zSt} {uB : zSt} {uP : zSt} {vB : zSt} (h : fX6_putEntries uO uB uP = some vB) : zC l yX6_putEntries wsX6_putEntries rmX6_putEntries [.ref (xO 0)] G [shO G xO, shB G (ad 1 xO), shP G (ad 5 xO)] [uO, uB, uP] [uO, vB, uP] none := by
  refine z_ofW (cc := cX6_putEntries) (maxL := 2) (ret := none) (by decide) rfl (Nat.le_of_ble_eq_true rfl) ?_
  intro p e s m args below meth c C0 hK hN hD hP ls hl
  obtain ⟨hx, hb, hr, hml, hown, hts, hlk⟩ := id C0
  have hS : va_S (zA [shO G xO, shB G (ad 1 xO), shP G (ad 5 xO)] s.heap.size) s.heap s.heap [] := va_S.rf
  replace hl : lv_has ls 2 [(0, .ref (xO 0))] := hl
  unfold fX6_putEntries at h
  refine lv_iconst (v := 0) hx hb dX6_putEntries_0 (by decide) ?_
  refine lv_istore_n (lv' := [(1, .int ((0 : Int32))), (0, .ref (xO 0))]) hx hb dX6_putEntries_1 rfl hl (by decide) rfl (fun ls hl => ?_)
  exact tlX6_putEntries_2 C0 hK hN hD  1000 _ _ _ _ h _ _ hP hS _ (lv_sub hl [1, 0] rfl)
end
def rmX4_isOrder : Room := { frames := 0, cells := 0, slots := 0, locals := 0 }
theorem kvX4_isOrder : yX4_isOrder.cls = RX4 ∧ yX4_isOrder.cls ≠ "java/lang/invoke/MethodHandle" ∧ yX4_isOrder.cls ≠ "java/lang/invoke/VarHandle" ∧ (parseMethodDescriptor yX4_isOrder.desc).map (fun d => d.parameters.length) = some 1 := by decide +kernel
section
variable {p : Program} {l : Launch} {e : Env} {s : State} {m : MethodId} {args : Array Value} {below : List Frame} {meth : Method} {c : Code} {G : zG} {xP : Nat → Nat} {rr : Int32}
set_option maxRecDepth 20000 in
theorem tlX4_isOrder_4 (C0 : zCtx p s m args meth c cX4_isOrder RX4 wsX4_isOrder 4 (some .boolean)) (hK : zK G s) (hN : zN s) (hD : zD [shP G xP])  : ∀ (n : Nat), ∀ (uP : zSt) (l1 : Int32) (l2 : Int32) (l3 : Int32), lX4_isOrder_4  n uP l1 l2 l3 = some rr → ∀ (H : Heap) (locs : List Loc), zP G [shP G xP] [uP] H → va_S (zA [shP G xP] s.heap.size) s.heap H locs → ∀ ls : Array Slot, lv_has ls 4 [(0, .ref (xP 0)), (1, .int l1), (2, .int l2), (3, .int l3)] → W p l e rmX4_isOrder s m args below meth c H locs 0 0 (MQ below (zQ G [shP G xP] [uP] (zA [shP G xP] s.heap.size) (some (.int rr))) args s 0 0 (zA [shP G xP] s.heap.size)) (F0 m 4 ls []) := by
  obtain ⟨hx, hb, hr, hml, hown, hts, hlk⟩ := id C0
  have hwX4 : ∀ w ∈ wsX40, w.before args s = true := fun w h => hts w (List.mem_cons_of_mem _ (List.mem_append_right _ h))
  intro n
  induction n with
  | zero => intro uP l1 l2 l3 h; exact absurd h (fun q => nomatch q)
  | succ n K4 =>
    intro uP l1 l2 l3 h H locs hP hS ls hl
    replace h : bX4_isOrder_4  (lX4_isOrder_4  n) uP l1 l2 l3 = some rr := h
    unfold bX4_isOrder_4 at h
    refine lv_iload_n hx hb dX4_isOrder_4 rfl (lv_at hl 3 rfl) ?_
    refine lv_aload_n hx hb dX4_isOrder_5 rfl (lv_at hl 0 rfl) ?_
    refine rP_6 hx hb hwX4 hown hK hP 0 (xP) rfl rfl (hts _ (List.mem_of_getElem? (i := 1) rfl)) dX4_isOrder_6 ?_
    refine lv_icmp_gt (tgt := 22) hx hb dX4_isOrder_9 (by decide) (fun hc => ?_) (fun hc => ?_)
    · replace h := zt hc h
      refine lv_iload_n hx hb dX4_isOrder_22 rfl (lv_at hl 1 rfl) ?_
      refine lv_if_lt (tgt := 35) hx hb dX4_isOrder_23 (by decide) (fun hc => ?_) (fun hc => ?_)
      · replace h := zt hc h
        refine lv_iconst (v := 0) hx hb dX4_isOrder_35 (by decide) ?_
        cases h
        exact z_zret hx hb hr hlk rfl hP hS dX4_isOrder_36
      · replace h := zf hc h
        refine lv_iload_n hx hb dX4_isOrder_26 rfl (lv_at hl 1 rfl) ?_
        refine lv_iload_n hx hb dX4_isOrder_27 rfl (lv_at hl 2 rfl) ?_
        refine lv_icmp_ge (tgt := 35) hx hb dX4_isOrder_28 (by decide) (fun hc => ?_) (fun hc => ?_)
        · replace h := zt hc h
          refine lv_iconst (v := 0) hx hb dX4_isOrder_35 (by decide) ?_
          cases h
          exact z_zret hx hb hr hlk rfl hP hS dX4_isOrder_36
        · replace h := zf hc h
          refine lv_iconst (v := 1) hx hb dX4_isOrder_31 (by decide) ?_
          refine lv_goto (tgt := 36) hx hb dX4_isOrder_32 (by decide) ?_
          cases h
          exact z_zret hx hb hr hlk rfl hP hS dX4_isOrder_36
    · replace h := zf hc h
      refine lv_iload_n hx hb dX4_isOrder_12 rfl (lv_at hl 2 rfl) ?_
      refine lv_iload_n hx hb dX4_isOrder_13 rfl (lv_at hl 3 rfl) ?_
      refine lv_imul hx hb dX4_isOrder_14 ?_
      refine lv_istore_n (lv' := [(2, .int ((l2 * l3))), (0, .ref (xP 0)), (1, .int l1), (3, .int l3)]) hx hb dX4_isOrder_15 rfl hl (by decide) rfl (fun ls hl => ?_)
      refine lv_iinc (v := (l3 + (1 : Int32))) (lv' := [(3, .int ((l3 + (1 : Int32)))), (2, .int ((l2 * l3))), (0, .ref (xP 0)), (1, .int l1)]) hx hb dX4_isOrder_16 hl (k := 3) rfl rfl (by decide) rfl (fun ls hl => ?_)
      refine lv_goto (tgt := 4) hx hb dX4_isOrder_19 (by decide) ?_
      exact K4 _ _ _ _ h _ _ hP hS _ (lv_sub hl [2, 3, 1, 0] rfl)
set_option maxRecDepth 20000 in
theorem mX4_isOrder (l : Launch) (G : zG) (xP : Nat → Nat) {uP : zSt} {l1 : Int32} {rr : Int32} (h : fX4_isOrder uP l1 = some rr) : zC l yX4_isOrder wsX4_isOrder rmX4_isOrder [.ref (xP 0), .int l1] G [shP G xP] [uP] [uP] (some (.int rr)) := by
  refine z_ofW (cc := cX4_isOrder) (maxL := 4) (ret := some .boolean) (by decide) rfl (Nat.le_of_ble_eq_true rfl) ?_
  intro p e s m args below meth c C0 hK hN hD hP ls hl
  obtain ⟨hx, hb, hr, hml, hown, hts, hlk⟩ := id C0
  have hS : va_S (zA [shP G xP] s.heap.size) s.heap s.heap [] := va_S.rf
  replace hl : lv_has ls 4 [(0, .ref (xP 0)), (1, .int l1)] := hl
  unfold fX4_isOrder at h
  refine lv_iconst (v := 1) hx hb dX4_isOrder_0 (by decide) ?_
  refine lv_istore_n (lv' := [(2, .int ((1 : Int32))), (0, .ref (xP 0)), (1, .int l1)]) hx hb dX4_isOrder_1 rfl hl (by decide) rfl (fun ls hl => ?_)
  refine lv_iconst (v := 2) hx hb dX4_isOrder_2 (by decide) ?_
  refine lv_istore_n (lv' := [(3, .int ((2 : Int32))), (2, .int ((1 : Int32))), (0, .ref (xP 0)), (1, .int l1)]) hx hb dX4_isOrder_3 rfl hl (by decide) rfl (fun ls hl => ?_)
  exact tlX4_isOrder_4 C0 hK hN hD  1000 _ _ _ _ h _ _ hP hS _ (lv_sub hl [2, 3, 1, 0] rfl)
end
def rmX4_takeEntry : Room := { frames := 0, cells := 0, slots := 0, locals := 0 }
theorem kvX4_takeEntry : yX4_takeEntry.cls = RX4 ∧ yX4_takeEntry.cls ≠ "java/lang/invoke/MethodHandle" ∧ yX4_takeEntry.cls ≠ "java/lang/invoke/VarHandle" ∧ (parseMethodDescriptor yX4_takeEntry.desc).map (fun d => d.parameters.length) = some 1 := by decide +kernel
section
variable {p : Program} {l : Launch} {e : Env} {s : State} {m : MethodId} {args : Array Value} {below : List Frame} {meth : Method} {c : Code} {G : zG} {xP : Nat → Nat} {rr : Int32} {vP : zSt}
set_option maxRecDepth 20000 in
theorem tX4_takeEntry_37 (C0 : zCtx p s m args meth c cX4_takeEntry RX4 wsX4_takeEntry 4 (some .int)) (hK : zK G s) (hN : zN s) (hD : zD [shP G xP]) {k4 : zSt → Int32 → Int32 → Option (Int32 × zSt)} (K4 : ∀ (uP : zSt) (l2 : Int32) (l3 : Int32), k4 uP l2 l3 = some (rr, vP) → ∀ (H : Heap) (locs : List Loc), zP G [shP G xP] [uP] H → va_S (zA [shP G xP] s.heap.size) s.heap H locs → ∀ ls : Array Slot, lv_has ls 4 [(0, .ref (xP 0)), (2, .int l2), (3, .int l3)] → W p l e rmX4_takeEntry s m args below meth c H locs 0 0 (MQ below (zQ G [shP G xP] [vP] (zA [shP G xP] s.heap.size) (some (.int rr))) args s 0 0 (zA [shP G xP] s.heap.size)) (F0 m 4 ls [])) : ∀ (uP : zSt) (l2 : Int32) (l3 : Int32), bX4_takeEntry_37 k4 uP l2 l3 = some (rr, vP) → ∀ (H : Heap) (locs : List Loc), zP G [shP G xP] [uP] H → va_S (zA [shP G xP] s.heap.size) s.heap H locs → ∀ ls : Array Slot, lv_has ls 4 [(0, .ref (xP 0)), (2, .int l2), (3, .int l3)] → W p l e rmX4_takeEntry s m args below meth c H locs 0 0 (MQ below (zQ G [shP G xP] [vP] (zA [shP G xP] s.heap.size) (some (.int rr))) args s 0 0 (zA [shP G xP] s.heap.size)) (F0 m 37 ls []) := by
  obtain ⟨hx, hb, hr, hml, hown, hts, hlk⟩ := id C0
  intro uP l2 l3 h H locs hP hS ls hl
  unfold bX4_takeEntry_37 at h
  refine lv_iinc (v := (l3 + (1 : Int32))) (lv' := [(3, .int ((l3 + (1 : Int32)))), (0, .ref (xP 0)), (2, .int l2)]) hx hb dX4_takeEntry_37 hl (k := 2) rfl rfl (by decide) rfl (fun ls hl => ?_)
  refine lv_goto (tgt := 4) hx hb dX4_takeEntry_40 (by decide) ?_
  exact K4 _ _ _ h _ _ hP hS _ (lv_sub hl [1, 2, 0] rfl)
set_option maxRecDepth 20000 in
theorem tlX4_takeEntry_4 (C0 : zCtx p s m args meth c cX4_takeEntry RX4 wsX4_takeEntry 4 (some .int)) (hK : zK G s) (hN : zN s) (hD : zD [shP G xP])  : ∀ (n : Nat), ∀ (uP : zSt) (l2 : Int32) (l3 : Int32), lX4_takeEntry_4  n uP l2 l3 = some (rr, vP) → ∀ (H : Heap) (locs : List Loc), zP G [shP G xP] [uP] H → va_S (zA [shP G xP] s.heap.size) s.heap H locs → ∀ ls : Array Slot, lv_has ls 4 [(0, .ref (xP 0)), (2, .int l2), (3, .int l3)] → W p l e rmX4_takeEntry s m args below meth c H locs 0 0 (MQ below (zQ G [shP G xP] [vP] (zA [shP G xP] s.heap.size) (some (.int rr))) args s 0 0 (zA [shP G xP] s.heap.size)) (F0 m 4 ls []) := by
  obtain ⟨hx, hb, hr, hml, hown, hts, hlk⟩ := id C0
  have hwX4 : ∀ w ∈ wsX40, w.before args s = true := fun w h => hts w (List.mem_cons_of_mem _ (List.mem_append_right _ h))
  intro n
  induction n with
  | zero => intro uP l2 l3 h; exact absurd h (fun q => nomatch q)
  | succ n K4 =>
    intro uP l2 l3 h H locs hP hS ls hl
    replace h : bX4_takeEntry_4  (lX4_takeEntry_4  n) uP l2 l3 = some (rr, vP) := h
    unfold bX4_takeEntry_4 at h
    refine lv_iload_n hx hb dX4_takeEntry_4 rfl (lv_at hl 2 rfl) ?_
    refine lv_aload_n hx hb dX4_takeEntry_5 rfl (lv_at hl 0 rfl) ?_
    refine rP_6 hx hb hwX4 hown hK hP 0 (xP) rfl rfl (hts _ (List.mem_of_getElem? (i := 1) rfl)) dX4_takeEntry_6 ?_
    refine lv_icmp_ge (tgt := 43) hx hb dX4_takeEntry_9 (by decide) (fun hc => ?_) (fun hc => ?_)
    · replace h := zt hc h
      refine lv_iconst (v := 0) hx hb dX4_takeEntry_43 (by decide) ?_
      cases h
      exact z_iret hx hb hr hlk hP hS dX4_takeEntry_44
    · replace h := zf hc h
      refine lv_aload_n hx hb dX4_takeEntry_12 rfl (lv_at hl 0 rfl) ?_
      refine rP_11 hx hb hwX4 hown hK hP 0 (xP) rfl rfl (hts _ (List.mem_of_getElem? (i := 2) rfl)) dX4_takeEntry_13 ?_
      refine lv_iload_n hx hb dX4_takeEntry_16 rfl (lv_at hl 2 rfl) ?_
      obtain ⟨hi, h⟩ := zin_e h
      refine aP_11 hx hb hK hP 0 (xP) rfl rfl hi rfl dX4_takeEntry_17 ?_
      refine lv_if_ne (tgt := 37) hx hb dX4_takeEntry_18 (by decide) (fun hc => ?_) (fun hc => ?_)
      · replace h := zf hc h
        exact tX4_takeEntry_37 C0 hK hN hD K4 _ _ _ h _ _ hP hS _ (lv_sub hl [0, 1, 2] rfl)
      · replace h := zt hc h
        refine lv_iload_n hx hb dX4_takeEntry_21 rfl (lv_at hl 1 rfl) ?_
        refine lv_if_ne (tgt := 34) hx hb dX4_takeEntry_22 (by decide) (fun hc => ?_) (fun hc => ?_)
        · replace h := zf hc h
          refine lv_iinc (v := (l2 + (-1 : Int32))) (lv' := [(2, .int ((l2 + (-1 : Int32)))), (0, .ref (xP 0)), (3, .int l3)]) hx hb dX4_takeEntry_34 hl (k := 1) rfl rfl (by decide) rfl (fun ls hl => ?_)
          exact tX4_takeEntry_37 C0 hK hN hD K4 _ _ _ h _ _ hP hS _ (lv_sub hl [1, 0, 2] rfl)
        · replace h := zt hc h
          refine lv_aload_n hx hb dX4_takeEntry_25 rfl (lv_at hl 0 rfl) ?_
          refine rP_11 hx hb hwX4 hown hK hP 0 (xP) rfl rfl (hts _ (List.mem_of_getElem? (i := 2) rfl)) dX4_takeEntry_26 ?_
          refine lv_iload_n hx hb dX4_takeEntry_29 rfl (lv_at hl 2 rfl) ?_
          refine lv_iconst (v := 1) hx hb dX4_takeEntry_30 (by decide) ?_
          obtain ⟨hi, h⟩ := zin_e h
          refine tP_11 hx hb hK hP hD hS 0 (xP) rfl rfl hi rfl vnb_1 dX4_takeEntry_31 (fun H locs hP hS => ?_)
          replace hP : zP G [shP G xP] [(sA uP 11 l3.toNatClampNeg ((1 : Int32)))] H := hP
          refine lv_iload_n hx hb dX4_takeEntry_32 rfl (lv_at hl 2 rfl) ?_
          cases h
          exact z_iret hx hb hr hlk hP hS dX4_takeEntry_33
set_option maxRecDepth 20000 in
theorem mX4_takeEntry (l : Launch) (G : zG) (xP : Nat → Nat) {uP : zSt} {l1 : Int32} {rr : Int32} {vP : zSt} (h : fX4_takeEntry uP l1 = some (rr, vP)) : zC l yX4_takeEntry wsX4_takeEntry rmX4_takeEntry [.ref (xP 0), .int l1] G [shP G xP] [uP] [vP] (some (.int rr)) := by
  refine z_ofW (cc := cX4_takeEntry) (maxL := 4) (ret := some .int) (by decide) rfl (Nat.le_of_ble_eq_true rfl) ?_
  intro p e s m args below meth c C0 hK hN hD hP ls hl
  obtain ⟨hx, hb, hr, hml, hown, hts, hlk⟩ := id C0
  have hS : va_S (zA [shP G xP] s.heap.size) s.heap s.heap [] := va_S.rf
  replace hl : lv_has ls 4 [(0, .ref (xP 0)), (1, .int l1)] := hl
  unfold fX4_takeEntry at h
  refine lv_iload_n hx hb dX4_takeEntry_0 rfl (lv_at hl 1 rfl) ?_
  refine lv_istore_n (lv' := [(2, .int l1), (0, .ref (xP 0)), (1, .int l1)]) hx hb dX4_takeEntry_1 rfl hl (by decide) rfl (fun ls hl => ?_)
  refine lv_iconst (v := 0) hx hb dX4_takeEntry_2 (by decide) ?_
  refine lv_istore_n (lv' := [(3, .int ((0 : Int32))), (2, .int l1), (0, .ref (xP 0)), (1, .int l1)]) hx hb dX4_takeEntry_3 rfl hl (by decide) rfl (fun ls hl => ?_)
  exact tlX4_takeEntry_4 C0 hK hN hD  1000 _ _ _ h _ _ hP hS _ (lv_sub hl [2, 1, 0] rfl)
end
def rmX2_with : Room := { frames := 0, cells := 0, slots := 0, locals := 0 }
theorem ksX2_with : yX2_with.cls ≠ "java/lang/invoke/MethodHandle" ∧ yX2_with.cls ≠ "java/lang/invoke/VarHandle" ∧ (parseMethodDescriptor yX2_with.desc).map (fun d => d.parameters.length) = some 2 := by decide +kernel
section
variable {p : Program} {l : Launch} {e : Env} {s : State} {m : MethodId} {args : Array Value} {below : List Frame} {meth : Method} {c : Code} {G : zG}  {rr : Int64}
set_option maxRecDepth 20000 in
theorem mX2_with (l : Launch) (G : zG)  {l0 : Int64} {l2 : Int64} {rr : Int64} (h : fX2_with l0 l2 = some rr) : zC l yX2_with wsX2_with rmX2_with [.long l0, .long l2] G [] [] [] (some (.long rr)) := by
  refine z_ofW (cc := cX2_with) (maxL := 6) (ret := some .long) (by decide) rfl (Nat.le_of_ble_eq_true rfl) ?_
  intro p e s m args below meth c C0 hK hN hD hP ls hl
  obtain ⟨hx, hb, hr, hml, hown, hts, hlk⟩ := id C0
  have hS : va_S (zA [] s.heap.size) s.heap s.heap [] := va_S.rf
  replace hl : lv_has ls 6 [(0, .long l0), (2, .long l2)] := hl
  unfold fX2_with at h
  refine lv_lload_n hx hb dX2_with_0 rfl (lv_at hl 0 rfl) ?_
  refine lv_lload_n hx hb dX2_with_1 rfl (lv_at hl 1 rfl) ?_
  refine lv_lxor hx hb dX2_with_2 ?_
  refine lv_ldc2 (v := (-7046029254386353131)) hx hb hown (hts _ (List.mem_of_getElem? (i := 1) rfl)) dX2_with_3 ?_
  refine lv_lmul hx hb dX2_with_6 ?_
  refine lv_lstore (lv' := [(4, .long (((l0 ^^^ l2) * (-7046029254386353131 : Int64)))), (0, .long l0), (2, .long l2)]) hx hb dX2_with_7 hl (by decide) rfl (fun ls hl => ?_)
  refine lv_lload hx hb dX2_with_9 (lv_at hl 0 rfl) ?_
  refine lv_lload hx hb dX2_with_11 (lv_at hl 0 rfl) ?_
  refine lv_bipush (v := 29) hx hb dX2_with_13 (by decide) ?_
  refine lv_lushr (v := (zsr ((l0 ^^^ l2) * (-7046029254386353131 : Int64)) (29 : Int32))) hx hb dX2_with_15 rfl ?_
  refine lv_lxor hx hb dX2_with_16 ?_
  cases h
  exact z_lret hx hb hr hlk hP hS dX2_with_17
end
def rmX2_number : Room := { frames := 0, cells := 0, slots := 0, locals := 0 }
theorem ksX2_number : yX2_number.cls ≠ "java/lang/invoke/MethodHandle" ∧ yX2_number.cls ≠ "java/lang/invoke/VarHandle" ∧ (parseMethodDescriptor yX2_number.desc).map (fun d => d.parameters.length) = some 1 := by decide +kernel
section
variable {p : Program} {l : Launch} {e : Env} {s : State} {m : MethodId} {args : Array Value} {below : List Frame} {meth : Method} {c : Code} {G : zG}  {rr : Int32}
set_option maxRecDepth 20000 in
theorem mX2_number (l : Launch) (G : zG)  {l0 : Int64} {rr : Int32} (h : fX2_number l0 = some rr) : zC l yX2_number wsX2_number rmX2_number [.long l0] G [] [] [] (some (.int rr)) := by
  refine z_ofW (cc := cX2_number) (maxL := 2) (ret := some .int) (by decide) rfl (Nat.le_of_ble_eq_true rfl) ?_
  intro p e s m args below meth c C0 hK hN hD hP ls hl
  obtain ⟨hx, hb, hr, hml, hown, hts, hlk⟩ := id C0
  have hS : va_S (zA [] s.heap.size) s.heap s.heap [] := va_S.rf
  replace hl : lv_has ls 2 [(0, .long l0)] := hl
  unfold fX2_number at h
  refine lv_lload_n hx hb dX2_number_0 rfl (lv_at hl 0 rfl) ?_
  refine lv_iconst (v := 1) hx hb dX2_number_1 (by decide) ?_
  refine lv_lushr (v := (zsr l0 (1 : Int32))) hx hb dX2_number_2 rfl ?_
  refine lv_ldc2 (v := (2039)) hx hb hown (hts _ (List.mem_of_getElem? (i := 1) rfl)) dX2_number_3 ?_
  refine lv_lrem hx hb dX2_number_6 (by decide) ?_
  refine lv_l2i (v := ((zsr l0 (1 : Int32)) - (zsr l0 (1 : Int32)) / (2039 : Int64) * (2039 : Int64)).toInt32) hx hb dX2_number_7 rfl ?_
  cases h
  exact z_iret hx hb hr hlk hP hS dX2_number_8
end
def rmX4_mixEntries : Room := { frames := 2, cells := 0, slots := 0, locals := 44 }
theorem kvX4_mixEntries : yX4_mixEntries.cls = RX4 ∧ yX4_mixEntries.cls ≠ "java/lang/invoke/MethodHandle" ∧ yX4_mixEntries.cls ≠ "java/lang/invoke/VarHandle" ∧ (parseMethodDescriptor yX4_mixEntries.desc).map (fun d => d.parameters.length) = some 2 := by decide +kernel
section
variable {p : Program} {l : Launch} {e : Env} {s : State} {m : MethodId} {args : Array Value} {below : List Frame} {meth : Method} {c : Code} {G : zG} {xP : Nat → Nat} {vP : zSt}
set_option maxRecDepth 20000 in
theorem tlX4_mixEntries_52 (C0 : zCtx p s m args meth c cX4_mixEntries RX4 wsX4_mixEntries 7 none) (hK : zK G s) (hN : zN s) (hD : zD [shP G xP])  : ∀ (n : Nat), ∀ (uP : zSt) (l1 : Int32) (l3 : Int32) (l4 : Int32), lX4_mixEntries_52  n uP l1 l3 l4 = some vP → ∀ (H : Heap) (locs : List Loc), zP G [shP G xP] [uP] H → va_S (zA [shP G xP] s.heap.size) s.heap H locs → ∀ ls : Array Slot, lv_has ls 7 [(0, .ref (xP 0)), (1, .int l1), (3, .int l3), (4, .int l4)] → W p l e rmX4_mixEntries s m args below meth c H locs 0 0 (MQ below (zQ G [shP G xP] [vP] (zA [shP G xP] s.heap.size) none) args s 0 0 (zA [shP G xP] s.heap.size)) (F0 m 52 ls []) := by
  obtain ⟨hx, hb, hr, hml, hown, hts, hlk⟩ := id C0
  have hwX4 : ∀ w ∈ wsX40, w.before args s = true := fun w h => hts w (List.mem_cons_of_mem _ (List.mem_append_right _ h))
  intro n
  induction n with
  | zero => intro uP l1 l3 l4 h; exact absurd h (fun q => nomatch q)
  | succ n K52 =>
    intro uP l1 l3 l4 h H locs hP hS ls hl
    replace h : bX4_mixEntries_52  (lX4_mixEntries_52  n) uP l1 l3 l4 = some vP := h
    unfold bX4_mixEntries_52 at h
    refine lv_iload hx hb dX4_mixEntries_52 (lv_at hl 3 rfl) ?_
    refine lv_aload_n hx hb dX4_mixEntries_54 rfl (lv_at hl 0 rfl) ?_
    refine rP_6 hx hb hwX4 hown hK hP 0 (xP) rfl rfl (hts _ (List.mem_of_getElem? (i := 1) rfl)) dX4_mixEntries_55 ?_
    refine lv_icmp_ge (tgt := 157) hx hb dX4_mixEntries_58 (by decide) (fun hc => ?_) (fun hc => ?_)
    · replace h := zt hc h
      cases h
      exact z_vret hx hb hr hlk hP hS dX4_mixEntries_157
    · replace h := zf hc h
      refine lv_aload_n hx hb dX4_mixEntries_61 rfl (lv_at hl 0 rfl) ?_
      refine lv_iload_n hx hb dX4_mixEntries_62 rfl (lv_at hl 2 rfl) ?_
      refine lv_aload_n hx hb dX4_mixEntries_63 rfl (lv_at hl 0 rfl) ?_
      refine rP_6 hx hb hwX4 hown hK hP 0 (xP) rfl rfl (hts _ (List.mem_of_getElem? (i := 1) rfl)) dX4_mixEntries_64 ?_
      refine lv_iload hx hb dX4_mixEntries_67 (lv_at hl 3 rfl) ?_
      refine lv_isub hx hb dX4_mixEntries_69 ?_
      obtain ⟨hz, h⟩ := znz_e h
      refine lv_irem hx hb dX4_mixEntries_70 hz ?_
      obtain ⟨r_1, uP_2, hg, h⟩ := zb2_e h
      refine z_callV (As := [.int ((l3 - l3 / ((gI uP 6) - l4) * ((gI uP 6) - l4)))]) (rest := []) (i := 0) ⟨hx, hb, hml, hown, hts⟩ (mX4_takeEntry l G (xP) hg) (cwV 1 hts gX4_mixEntries_X4_takeEntry rfl rfl rfl kvX4_takeEntry ⟨Nat.le_of_ble_eq_true rfl, Nat.le_of_ble_eq_true rfl⟩) rfl hP hD hK hN hS (Nat.le_refl _) [0] rfl rfl rfl rfl 0 rfl rfl rfl rfl rfl hl.1 rfl (Nat.le_of_ble_eq_true rfl) dX4_mixEntries_71 ⟨Nat.zero_le _, Nat.zero_le _⟩ (fun H locs hP hS => ?_)
      replace hP : zP G [shP G xP] [uP_2] H := hP
      refine lv_istore (lv' := [(5, .int r_1), (0, .ref (xP 0)), (1, .int l1), (3, .int l3), (4, .int l4)]) hx hb dX4_mixEntries_74 hl (by decide) rfl (fun ls hl => ?_)
      refine lv_iload_n hx hb dX4_mixEntries_76 rfl (lv_at hl 3 rfl) ?_
      refine lv_aload_n hx hb dX4_mixEntries_77 rfl (lv_at hl 1 rfl) ?_
      refine rP_6 hx hb hwX4 hown hK hP 0 (xP) rfl rfl (hts _ (List.mem_of_getElem? (i := 1) rfl)) dX4_mixEntries_78 ?_
      refine lv_iload hx hb dX4_mixEntries_81 (lv_at hl 4 rfl) ?_
      refine lv_isub hx hb dX4_mixEntries_83 ?_
      obtain ⟨hz, h⟩ := znz_e h
      refine lv_idiv hx hb dX4_mixEntries_84 hz ?_
      refine lv_istore_n (lv' := [(3, .int ((l3 / ((gI uP_2 6) - l4)))), (5, .int r_1), (0, .ref (xP 0)), (1, .int l1), (4, .int l4)]) hx hb dX4_mixEntries_85 rfl hl (by decide) rfl (fun ls hl => ?_)
      refine lv_lconst (v := 0) hx hb dX4_mixEntries_86 rfl ?_
      refine lv_iload_n hx hb dX4_mixEntries_87 rfl (lv_at hl 3 rfl) ?_
      refine lv_i2l (v := l1.toInt64) hx hb dX4_mixEntries_88 rfl ?_
      obtain ⟨r_3, hg, h⟩ := zb1_e h
      refine z_callS (As := [.long ((0 : Int64)), .long ((l1.toInt64))]) (rest := []) ⟨hx, hb, hml, hown, hts⟩ (mX2_with l G  hg) (va_cwS 2 hts gX4_mixEntries_X2_with rfl rfl rfl ksX2_with ⟨Nat.le_of_ble_eq_true rfl, Nat.le_of_ble_eq_true rfl⟩) hP hD hK hN hS (Nat.le_refl _) [] rfl rfl rfl rfl rfl hl.1 rfl (Nat.le_of_ble_eq_true rfl) dX4_mixEntries_89 ⟨Nat.zero_le _, Nat.zero_le _⟩ (fun H locs hP hS => ?_)
      replace hP : zP G [shP G xP] [uP_2] H := hP
      refine lv_iload hx hb dX4_mixEntries_92 (lv_at hl 4 rfl) ?_
      refine lv_i2l (v := l4.toInt64) hx hb dX4_mixEntries_94 rfl ?_
      obtain ⟨r_4, hg, h⟩ := zb1_e h
      refine z_callS (As := [.long r_3, .long ((l4.toInt64))]) (rest := []) ⟨hx, hb, hml, hown, hts⟩ (mX2_with l G  hg) (va_cwS 2 hts gX4_mixEntries_X2_with rfl rfl rfl ksX2_with ⟨Nat.le_of_ble_eq_true rfl, Nat.le_of_ble_eq_true rfl⟩) hP hD hK hN hS (Nat.le_refl _) [] rfl rfl rfl rfl rfl hl.1 rfl (Nat.le_of_ble_eq_true rfl) dX4_mixEntries_95 ⟨Nat.zero_le _, Nat.zero_le _⟩ (fun H locs hP hS => ?_)
      replace hP : zP G [shP G xP] [uP_2] H := hP
      obtain ⟨r_5, hg, h⟩ := zb1_e h
      refine z_callS (As := [.long r_4]) (rest := []) ⟨hx, hb, hml, hown, hts⟩ (mX2_number l G  hg) (va_cwS 1 hts gX4_mixEntries_X2_number rfl rfl rfl ksX2_number ⟨Nat.le_of_ble_eq_true rfl, Nat.le_of_ble_eq_true rfl⟩) hP hD hK hN hS (Nat.le_refl _) [] rfl rfl rfl rfl rfl hl.1 rfl (Nat.le_of_ble_eq_true rfl) dX4_mixEntries_98 ⟨Nat.zero_le _, Nat.zero_le _⟩ (fun H locs hP hS => ?_)
      replace hP : zP G [shP G xP] [uP_2] H := hP
      refine lv_istore (lv' := [(6, .int r_5), (3, .int ((l3 / ((gI uP_2 6) - l4)))), (5, .int r_1), (0, .ref (xP 0)), (1, .int l1), (4, .int l4)]) hx hb dX4_mixEntries_101 hl (by decide) rfl (fun ls hl => ?_)
      refine lv_aload_n hx hb dX4_mixEntries_103 rfl (lv_at hl 3 rfl) ?_
      refine rP_7 hx hb hwX4 hown hK hP 0 (xP) rfl rfl (hts _ (List.mem_of_getElem? (i := 3) rfl)) dX4_mixEntries_104 ?_
      refine lv_iload hx hb dX4_mixEntries_107 (lv_at hl 5 rfl) ?_
      refine lv_aload_n hx hb dX4_mixEntries_109 rfl (lv_at hl 3 rfl) ?_
      refine rP_9 hx hb hwX4 hown hK hP 0 (xP) rfl rfl (hts _ (List.mem_of_getElem? (i := 2) rfl)) dX4_mixEntries_110 ?_
      refine lv_iload hx hb dX4_mixEntries_113 (lv_at hl 2 rfl) ?_
      obtain ⟨hi, h⟩ := zin_e h
      refine aP_9 hx hb hK hP 0 (xP) rfl rfl hi rfl dX4_mixEntries_115 ?_
      refine lv_iload hx hb dX4_mixEntries_116 (lv_at hl 0 rfl) ?_
      obtain ⟨r_6, hg, h⟩ := zb1_e h
      refine z_callS (As := [.int r_5]) (rest := [.int ((gA uP_2 9 r_1.toNatClampNeg)), .int l4, .ref (xP 6)]) ⟨hx, hb, hml, hown, hts⟩ (mX3_ofBase l G  hg) (va_cwS 1 hts gX4_mixEntries_X3_ofBase rfl rfl rfl ksX3_ofBase ⟨Nat.le_of_ble_eq_true rfl, Nat.le_of_ble_eq_true rfl⟩) hP hD hK hN hS (Nat.le_refl _) [] rfl rfl rfl rfl rfl hl.1 rfl (Nat.le_of_ble_eq_true rfl) dX4_mixEntries_118 ⟨Nat.zero_le _, Nat.zero_le _⟩ (fun H locs hP hS => ?_)
      replace hP : zP G [shP G xP] [uP_2] H := hP
      obtain ⟨r_7, hg, h⟩ := zb1_e h
      refine z_callS (As := [.int ((gA uP_2 9 r_1.toNatClampNeg)), .int r_6]) (rest := [.int l4, .ref (xP 6)]) ⟨hx, hb, hml, hown, hts⟩ (mX3_times l G  hg) (va_cwS 2 hts gX4_mixEntries_X3_times rfl rfl rfl ksX3_times ⟨Nat.le_of_ble_eq_true rfl, Nat.le_of_ble_eq_true rfl⟩) hP hD hK hN hS (Nat.le_refl _) [] rfl rfl rfl rfl rfl hl.1 rfl (Nat.le_of_ble_eq_true rfl) dX4_mixEntries_121 ⟨Nat.zero_le _, Nat.zero_le _⟩ (fun H locs hP hS => ?_)
      replace hP : zP G [shP G xP] [uP_2] H := hP
      obtain ⟨hi, h⟩ := zin_e h
      refine tP_7 hx hb hK hP hD hS 0 (xP) rfl rfl hi rfl dX4_mixEntries_124 (fun H locs hP hS => ?_)
      replace hP : zP G [shP G xP] [(sA uP_2 7 l4.toNatClampNeg r_7)] H := hP
      refine lv_aload_n hx hb dX4_mixEntries_125 rfl (lv_at hl 3 rfl) ?_
      refine rP_8 hx hb hwX4 hown hK hP 0 (xP) rfl rfl (hts _ (List.mem_of_getElem? (i := 5) rfl)) dX4_mixEntries_126 ?_
      refine lv_iload hx hb dX4_mixEntries_129 (lv_at hl 5 rfl) ?_
      refine lv_aload_n hx hb dX4_mixEntries_131 rfl (lv_at hl 3 rfl) ?_
      refine rP_10 hx hb hwX4 hown hK hP 0 (xP) rfl rfl (hts _ (List.mem_of_getElem? (i := 4) rfl)) dX4_mixEntries_132 ?_
      refine lv_iload hx hb dX4_mixEntries_135 (lv_at hl 2 rfl) ?_
      obtain ⟨hi, h⟩ := zin_e h
      refine aP_10 hx hb hK hP 0 (xP) rfl rfl hi rfl dX4_mixEntries_137 ?_
      refine lv_aload_n hx hb dX4_mixEntries_138 rfl (lv_at hl 3 rfl) ?_
      refine rP_1 hx hb hwX4 hown hK hP 0 (xP) rfl rfl (hts _ (List.mem_of_getElem? (i := 7) rfl)) dX4_mixEntries_139 ?_
      refine lv_iload hx hb dX4_mixEntries_142 (lv_at hl 0 rfl) ?_
      obtain ⟨r_8, hg, h⟩ := zb1_e h
      refine z_callS (As := [.int ((gI ((sA uP_2 7 l4.toNatClampNeg r_7)) 1)), .int r_5]) (rest := [.int ((gA ((sA uP_2 7 l4.toNatClampNeg r_7)) 10 r_1.toNatClampNeg)), .int l4, .ref (xP 7)]) ⟨hx, hb, hml, hown, hts⟩ (mX3_power l G  hg) (va_cwS 2 hts gX4_mixEntries_X3_power rfl rfl rfl ksX3_power ⟨Nat.le_of_ble_eq_true rfl, Nat.le_of_ble_eq_true rfl⟩) hP hD hK hN hS (Nat.le_refl _) [] rfl rfl rfl rfl rfl hl.1 rfl (Nat.le_of_ble_eq_true rfl) dX4_mixEntries_144 ⟨Nat.zero_le _, Nat.zero_le _⟩ (fun H locs hP hS => ?_)
      replace hP : zP G [shP G xP] [(sA uP_2 7 l4.toNatClampNeg r_7)] H := hP
      obtain ⟨r_9, hg, h⟩ := zb1_e h
      refine z_callS (As := [.int ((gA ((sA uP_2 7 l4.toNatClampNeg r_7)) 10 r_1.toNatClampNeg)), .int r_8]) (rest := [.int l4, .ref (xP 7)]) ⟨hx, hb, hml, hown, hts⟩ (mX3_times l G  hg) (va_cwS 2 hts gX4_mixEntries_X3_times rfl rfl rfl ksX3_times ⟨Nat.le_of_ble_eq_true rfl, Nat.le_of_ble_eq_true rfl⟩) hP hD hK hN hS (Nat.le_refl _) [] rfl rfl rfl rfl rfl hl.1 rfl (Nat.le_of_ble_eq_true rfl) dX4_mixEntries_147 ⟨Nat.zero_le _, Nat.zero_le _⟩ (fun H locs hP hS => ?_)
      replace hP : zP G [shP G xP] [(sA uP_2 7 l4.toNatClampNeg r_7)] H := hP
      obtain ⟨hi, h⟩ := zin_e h
      refine tP_8 hx hb hK hP hD hS 0 (xP) rfl rfl hi rfl dX4_mixEntries_150 (fun H locs hP hS => ?_)
      replace hP : zP G [shP G xP] [(sA ((sA uP_2 7 l4.toNatClampNeg r_7)) 8 l4.toNatClampNeg r_9)] H := hP
      refine lv_iinc (v := (l4 + (1 : Int32))) (lv' := [(4, .int ((l4 + (1 : Int32)))), (6, .int r_5), (3, .int ((l3 / ((gI uP_2 6) - l4)))), (5, .int r_1), (0, .ref (xP 0)), (1, .int l1)]) hx hb dX4_mixEntries_151 hl (k := 5) rfl rfl (by decide) rfl (fun ls hl => ?_)
      refine lv_goto (tgt := 52) hx hb dX4_mixEntries_154 (by decide) ?_
      exact K52 _ _ _ _ h _ _ hP hS _ (lv_sub hl [4, 5, 2, 0] rfl)
set_option maxRecDepth 20000 in
theorem tlX4_mixEntries_2 (C0 : zCtx p s m args meth c cX4_mixEntries RX4 wsX4_mixEntries 7 none) (hK : zK G s) (hN : zN s) (hD : zD [shP G xP])  : ∀ (n : Nat), ∀ (uP : zSt) (l1 : Int32) (l2 : Int32) (l3 : Int32), lX4_mixEntries_2  n uP l1 l2 l3 = some vP → ∀ (H : Heap) (locs : List Loc), zP G [shP G xP] [uP] H → va_S (zA [shP G xP] s.heap.size) s.heap H locs → ∀ ls : Array Slot, lv_has ls 7 [(0, .ref (xP 0)), (1, .int l1), (2, .int l2), (3, .int l3)] → W p l e rmX4_mixEntries s m args below meth c H locs 0 0 (MQ below (zQ G [shP G xP] [vP] (zA [shP G xP] s.heap.size) none) args s 0 0 (zA [shP G xP] s.heap.size)) (F0 m 2 ls []) := by
  obtain ⟨hx, hb, hr, hml, hown, hts, hlk⟩ := id C0
  have hwX4 : ∀ w ∈ wsX40, w.before args s = true := fun w h => hts w (List.mem_cons_of_mem _ (List.mem_append_right _ h))
  intro n
  induction n with
  | zero => intro uP l1 l2 l3 h; exact absurd h (fun q => nomatch q)
  | succ n K2 =>
    intro uP l1 l2 l3 h H locs hP hS ls hl
    replace h : bX4_mixEntries_2  (lX4_mixEntries_2  n) uP l1 l2 l3 = some vP := h
    unfold bX4_mixEntries_2 at h
    refine lv_iload_n hx hb dX4_mixEntries_2 rfl (lv_at hl 3 rfl) ?_
    refine lv_aload_n hx hb dX4_mixEntries_3 rfl (lv_at hl 0 rfl) ?_
    refine rP_6 hx hb hwX4 hown hK hP 0 (xP) rfl rfl (hts _ (List.mem_of_getElem? (i := 1) rfl)) dX4_mixEntries_4 ?_
    refine lv_icmp_ge (tgt := 47) hx hb dX4_mixEntries_7 (by decide) (fun hc => ?_) (fun hc => ?_)
    · replace h := zt hc h
      refine lv_iload_n hx hb dX4_mixEntries_47 rfl (lv_at hl 2 rfl) ?_
      refine lv_istore_n (lv' := [(3, .int l2), (0, .ref (xP 0)), (1, .int l1), (2, .int l2)]) hx hb dX4_mixEntries_48 rfl hl (by decide) rfl (fun ls hl => ?_)
      refine lv_iconst (v := 0) hx hb dX4_mixEntries_49 (by decide) ?_
      refine lv_istore (lv' := [(4, .int ((0 : Int32))), (3, .int l2), (0, .ref (xP 0)), (1, .int l1), (2, .int l2)]) hx hb dX4_mixEntries_50 hl (by decide) rfl (fun ls hl => ?_)
      exact tlX4_mixEntries_52 C0 hK hN hD  1000 _ _ _ _ h _ _ hP hS _ (lv_sub hl [2, 3, 1, 0] rfl)
    · replace h := zf hc h
      refine lv_aload_n hx hb dX4_mixEntries_10 rfl (lv_at hl 0 rfl) ?_
      refine rP_9 hx hb hwX4 hown hK hP 0 (xP) rfl rfl (hts _ (List.mem_of_getElem? (i := 2) rfl)) dX4_mixEntries_11 ?_
      refine lv_iload_n hx hb dX4_mixEntries_14 rfl (lv_at hl 3 rfl) ?_
      refine lv_aload_n hx hb dX4_mixEntries_15 rfl (lv_at hl 0 rfl) ?_
      refine rP_7 hx hb hwX4 hown hK hP 0 (xP) rfl rfl (hts _ (List.mem_of_getElem? (i := 3) rfl)) dX4_mixEntries_16 ?_
      refine lv_iload_n hx hb dX4_mixEntries_19 rfl (lv_at hl 3 rfl) ?_
      obtain ⟨hi, h⟩ := zin_e h
      refine aP_7 hx hb hK hP 0 (xP) rfl rfl hi rfl dX4_mixEntries_20 ?_
      obtain ⟨hi, h⟩ := zin_e h
      refine tP_9 hx hb hK hP hD hS 0 (xP) rfl rfl hi rfl dX4_mixEntries_21 (fun H locs hP hS => ?_)
      replace hP : zP G [shP G xP] [(sA uP 9 l3.toNatClampNeg ((gA uP 7 l3.toNatClampNeg)))] H := hP
      refine lv_aload_n hx hb dX4_mixEntries_22 rfl (lv_at hl 0 rfl) ?_
      refine rP_10 hx hb hwX4 hown hK hP 0 (xP) rfl rfl (hts _ (List.mem_of_getElem? (i := 4) rfl)) dX4_mixEntries_23 ?_
      refine lv_iload_n hx hb dX4_mixEntries_26 rfl (lv_at hl 3 rfl) ?_
      refine lv_aload_n hx hb dX4_mixEntries_27 rfl (lv_at hl 0 rfl) ?_
      refine rP_8 hx hb hwX4 hown hK hP 0 (xP) rfl rfl (hts _ (List.mem_of_getElem? (i := 5) rfl)) dX4_mixEntries_28 ?_
      refine lv_iload_n hx hb dX4_mixEntries_31 rfl (lv_at hl 3 rfl) ?_
      obtain ⟨hi, h⟩ := zin_e h
      refine aP_8 hx hb hK hP 0 (xP) rfl rfl hi rfl dX4_mixEntries_32 ?_
      obtain ⟨hi, h⟩ := zin_e h
      refine tP_10 hx hb hK hP hD hS 0 (xP) rfl rfl hi rfl dX4_mixEntries_33 (fun H locs hP hS => ?_)
      replace hP : zP G [shP G xP] [(sA ((sA uP 9 l3.toNatClampNeg ((gA uP 7 l3.toNatClampNeg)))) 10 l3.toNatClampNeg ((gA ((sA uP 9 l3.toNatClampNeg ((gA uP 7 l3.toNatClampNeg)))) 8 l3.toNatClampNeg)))] H := hP
      refine lv_aload_n hx hb dX4_mixEntries_34 rfl (lv_at hl 0 rfl) ?_
      refine rP_11 hx hb hwX4 hown hK hP 0 (xP) rfl rfl (hts _ (List.mem_of_getElem? (i := 6) rfl)) dX4_mixEntries_35 ?_
      refine lv_iload_n hx hb dX4_mixEntries_38 rfl (lv_at hl 3 rfl) ?_
      refine lv_iconst (v := 0) hx hb dX4_mixEntries_39 (by decide) ?_
      obtain ⟨hi, h⟩ := zin_e h
      refine tP_11 hx hb hK hP hD hS 0 (xP) rfl rfl hi rfl vnb_0 dX4_mixEntries_40 (fun H locs hP hS => ?_)
      replace hP : zP G [shP G xP] [(sA ((sA ((sA uP 9 l3.toNatClampNeg ((gA uP 7 l3.toNatClampNeg)))) 10 l3.toNatClampNeg ((gA ((sA uP 9 l3.toNatClampNeg ((gA uP 7 l3.toNatClampNeg)))) 8 l3.toNatClampNeg)))) 11 l3.toNatClampNeg ((0 : Int32)))] H := hP
      refine lv_iinc (v := (l3 + (1 : Int32))) (lv' := [(3, .int ((l3 + (1 : Int32)))), (0, .ref (xP 0)), (1, .int l1), (2, .int l2)]) hx hb dX4_mixEntries_41 hl (k := 3) rfl rfl (by decide) rfl (fun ls hl => ?_)
      refine lv_goto (tgt := 2) hx hb dX4_mixEntries_44 (by decide) ?_
      exact K2 _ _ _ _ h _ _ hP hS _ (lv_sub hl [1, 2, 3, 0] rfl)
set_option maxRecDepth 20000 in
theorem mX4_mixEntries (l : Launch) (G : zG) (xP : Nat → Nat) {uP : zSt} {l1 : Int32} {l2 : Int32} {vP : zSt} (h : fX4_mixEntries uP l1 l2 = some vP) : zC l yX4_mixEntries wsX4_mixEntries rmX4_mixEntries [.ref (xP 0), .int l1, .int l2] G [shP G xP] [uP] [vP] none := by
  refine z_ofW (cc := cX4_mixEntries) (maxL := 7) (ret := none) (by decide) rfl (Nat.le_of_ble_eq_true rfl) ?_
  intro p e s m args below meth c C0 hK hN hD hP ls hl
  obtain ⟨hx, hb, hr, hml, hown, hts, hlk⟩ := id C0
  have hS : va_S (zA [shP G xP] s.heap.size) s.heap s.heap [] := va_S.rf
  replace hl : lv_has ls 7 [(0, .ref (xP 0)), (1, .int l1), (2, .int l2)] := hl
  unfold fX4_mixEntries at h
  refine lv_iconst (v := 0) hx hb dX4_mixEntries_0 (by decide) ?_
  refine lv_istore_n (lv' := [(3, .int ((0 : Int32))), (0, .ref (xP 0)), (1, .int l1), (2, .int l2)]) hx hb dX4_mixEntries_1 rfl hl (by decide) rfl (fun ls hl => ?_)
  exact tlX4_mixEntries_2 C0 hK hN hD  1000 _ _ _ _ h _ _ hP hS _ (lv_sub hl [1, 2, 3, 0] rfl)
end
def rmX6_isTrustee : Room := { frames := 0, cells := 0, slots := 0, locals := 0 }
theorem ksX6_isTrustee : yX6_isTrustee.cls ≠ "java/lang/invoke/MethodHandle" ∧ yX6_isTrustee.cls ≠ "java/lang/invoke/VarHandle" ∧ (parseMethodDescriptor yX6_isTrustee.desc).map (fun d => d.parameters.length) = some 1 := by decide +kernel
section
variable {p : Program} {l : Launch} {e : Env} {s : State} {m : MethodId} {args : Array Value} {below : List Frame} {meth : Method} {c : Code} {G : zG}  {rr : Int32}
set_option maxRecDepth 20000 in
theorem mX6_isTrustee (l : Launch) (G : zG)  {l0 : Int32} {rr : Int32} (h : fX6_isTrustee l0 = some rr) : zC l yX6_isTrustee wsX6_isTrustee rmX6_isTrustee [.int l0] G [] [] [] (some (.int rr)) := by
  refine z_ofW (cc := cX6_isTrustee) (maxL := 1) (ret := some .boolean) (by decide) rfl (Nat.le_of_ble_eq_true rfl) ?_
  intro p e s m args below meth c C0 hK hN hD hP ls hl
  obtain ⟨hx, hb, hr, hml, hown, hts, hlk⟩ := id C0
  have hS : va_S (zA [] s.heap.size) s.heap s.heap [] := va_S.rf
  replace hl : lv_has ls 1 [(0, .int l0)] := hl
  unfold fX6_isTrustee at h
  refine lv_iload_n hx hb dX6_isTrustee_0 rfl (lv_at hl 0 rfl) ?_
  refine lv_if_lt (tgt := 13) hx hb dX6_isTrustee_1 (by decide) (fun hc => ?_) (fun hc => ?_)
  · replace h := zt hc h
    refine lv_iconst (v := 0) hx hb dX6_isTrustee_13 (by decide) ?_
    cases h
    exact z_zret hx hb hr hlk rfl hP hS dX6_isTrustee_14
  · replace h := zf hc h
    refine lv_iload_n hx hb dX6_isTrustee_4 rfl (lv_at hl 0 rfl) ?_
    refine lv_iconst (v := 3) hx hb dX6_isTrustee_5 (by decide) ?_
    refine lv_icmp_ge (tgt := 13) hx hb dX6_isTrustee_6 (by decide) (fun hc => ?_) (fun hc => ?_)
    · replace h := zt hc h
      refine lv_iconst (v := 0) hx hb dX6_isTrustee_13 (by decide) ?_
      cases h
      exact z_zret hx hb hr hlk rfl hP hS dX6_isTrustee_14
    · replace h := zf hc h
      refine lv_iconst (v := 1) hx hb dX6_isTrustee_9 (by decide) ?_
      refine lv_goto (tgt := 14) hx hb dX6_isTrustee_10 (by decide) ?_
      cases h
      exact z_zret hx hb hr hlk rfl hP hS dX6_isTrustee_14
end
def rmX2_challenge : Room := { frames := 1, cells := 0, slots := 0, locals := 25 }
theorem ksX2_challenge : yX2_challenge.cls ≠ "java/lang/invoke/MethodHandle" ∧ yX2_challenge.cls ≠ "java/lang/invoke/VarHandle" ∧ (parseMethodDescriptor yX2_challenge.desc).map (fun d => d.parameters.length) = some 5 := by decide +kernel
section
variable {p : Program} {l : Launch} {e : Env} {s : State} {m : MethodId} {args : Array Value} {below : List Frame} {meth : Method} {c : Code} {G : zG}  {rr : Int32}
set_option maxRecDepth 20000 in
theorem mX2_challenge (l : Launch) (G : zG)  {l0 : Int32} {l1 : Int32} {l2 : Int32} {l3 : Int32} {l4 : Int32} {rr : Int32} (h : fX2_challenge l0 l1 l2 l3 l4 = some rr) : zC l yX2_challenge wsX2_challenge rmX2_challenge [.int l0, .int l1, .int l2, .int l3, .int l4] G [] [] [] (some (.int rr)) := by
  refine z_ofW (cc := cX2_challenge) (maxL := 5) (ret := some .int) (by decide) rfl (Nat.le_of_ble_eq_true rfl) ?_
  intro p e s m args below meth c C0 hK hN hD hP ls hl
  obtain ⟨hx, hb, hr, hml, hown, hts, hlk⟩ := id C0
  have hS : va_S (zA [] s.heap.size) s.heap s.heap [] := va_S.rf
  replace hl : lv_has ls 5 [(0, .int l0), (1, .int l1), (2, .int l2), (3, .int l3), (4, .int l4)] := hl
  unfold fX2_challenge at h
  refine lv_lconst (v := 0) hx hb dX2_challenge_0 rfl ?_
  refine lv_iload_n hx hb dX2_challenge_1 rfl (lv_at hl 0 rfl) ?_
  refine lv_i2l (v := l0.toInt64) hx hb dX2_challenge_2 rfl ?_
  obtain ⟨r_1, hg, h⟩ := zb1_e h
  refine z_callS (As := [.long ((0 : Int64)), .long ((l0.toInt64))]) (rest := []) ⟨hx, hb, hml, hown, hts⟩ (mX2_with l G  hg) (va_cwS 2 hts gX2_challenge_X2_with rfl rfl rfl ksX2_with ⟨Nat.le_of_ble_eq_true rfl, Nat.le_of_ble_eq_true rfl⟩) hP hD hK hN hS (Nat.le_refl _) [] rfl rfl rfl rfl rfl hl.1 rfl (Nat.le_of_ble_eq_true rfl) dX2_challenge_3 ⟨Nat.zero_le _, Nat.zero_le _⟩ (fun H locs hP hS => ?_)
  replace hP : zP G [] [] H := hP
  refine lv_iload_n hx hb dX2_challenge_6 rfl (lv_at hl 1 rfl) ?_
  refine lv_i2l (v := l1.toInt64) hx hb dX2_challenge_7 rfl ?_
  obtain ⟨r_2, hg, h⟩ := zb1_e h
  refine z_callS (As := [.long r_1, .long ((l1.toInt64))]) (rest := []) ⟨hx, hb, hml, hown, hts⟩ (mX2_with l G  hg) (va_cwS 2 hts gX2_challenge_X2_with rfl rfl rfl ksX2_with ⟨Nat.le_of_ble_eq_true rfl, Nat.le_of_ble_eq_true rfl⟩) hP hD hK hN hS (Nat.le_refl _) [] rfl rfl rfl rfl rfl hl.1 rfl (Nat.le_of_ble_eq_true rfl) dX2_challenge_8 ⟨Nat.zero_le _, Nat.zero_le _⟩ (fun H locs hP hS => ?_)
  replace hP : zP G [] [] H := hP
  refine lv_iload_n hx hb dX2_challenge_11 rfl (lv_at hl 2 rfl) ?_
  refine lv_i2l (v := l2.toInt64) hx hb dX2_challenge_12 rfl ?_
  obtain ⟨r_3, hg, h⟩ := zb1_e h
  refine z_callS (As := [.long r_2, .long ((l2.toInt64))]) (rest := []) ⟨hx, hb, hml, hown, hts⟩ (mX2_with l G  hg) (va_cwS 2 hts gX2_challenge_X2_with rfl rfl rfl ksX2_with ⟨Nat.le_of_ble_eq_true rfl, Nat.le_of_ble_eq_true rfl⟩) hP hD hK hN hS (Nat.le_refl _) [] rfl rfl rfl rfl rfl hl.1 rfl (Nat.le_of_ble_eq_true rfl) dX2_challenge_13 ⟨Nat.zero_le _, Nat.zero_le _⟩ (fun H locs hP hS => ?_)
  replace hP : zP G [] [] H := hP
  refine lv_iload_n hx hb dX2_challenge_16 rfl (lv_at hl 3 rfl) ?_
  refine lv_i2l (v := l3.toInt64) hx hb dX2_challenge_17 rfl ?_
  obtain ⟨r_4, hg, h⟩ := zb1_e h
  refine z_callS (As := [.long r_3, .long ((l3.toInt64))]) (rest := []) ⟨hx, hb, hml, hown, hts⟩ (mX2_with l G  hg) (va_cwS 2 hts gX2_challenge_X2_with rfl rfl rfl ksX2_with ⟨Nat.le_of_ble_eq_true rfl, Nat.le_of_ble_eq_true rfl⟩) hP hD hK hN hS (Nat.le_refl _) [] rfl rfl rfl rfl rfl hl.1 rfl (Nat.le_of_ble_eq_true rfl) dX2_challenge_18 ⟨Nat.zero_le _, Nat.zero_le _⟩ (fun H locs hP hS => ?_)
  replace hP : zP G [] [] H := hP
  refine lv_iload hx hb dX2_challenge_21 (lv_at hl 4 rfl) ?_
  refine lv_i2l (v := l4.toInt64) hx hb dX2_challenge_23 rfl ?_
  obtain ⟨r_5, hg, h⟩ := zb1_e h
  refine z_callS (As := [.long r_4, .long ((l4.toInt64))]) (rest := []) ⟨hx, hb, hml, hown, hts⟩ (mX2_with l G  hg) (va_cwS 2 hts gX2_challenge_X2_with rfl rfl rfl ksX2_with ⟨Nat.le_of_ble_eq_true rfl, Nat.le_of_ble_eq_true rfl⟩) hP hD hK hN hS (Nat.le_refl _) [] rfl rfl rfl rfl rfl hl.1 rfl (Nat.le_of_ble_eq_true rfl) dX2_challenge_24 ⟨Nat.zero_le _, Nat.zero_le _⟩ (fun H locs hP hS => ?_)
  replace hP : zP G [] [] H := hP
  obtain ⟨r_6, hg, h⟩ := zb1_e h
  refine z_callS (As := [.long r_5]) (rest := []) ⟨hx, hb, hml, hown, hts⟩ (mX2_number l G  hg) (va_cwS 1 hts gX2_challenge_X2_number rfl rfl rfl ksX2_number ⟨Nat.le_of_ble_eq_true rfl, Nat.le_of_ble_eq_true rfl⟩) hP hD hK hN hS (Nat.le_refl _) [] rfl rfl rfl rfl rfl hl.1 rfl (Nat.le_of_ble_eq_true rfl) dX2_challenge_27 ⟨Nat.zero_le _, Nat.zero_le _⟩ (fun H locs hP hS => ?_)
  replace hP : zP G [] [] H := hP
  cases h
  exact z_iret hx hb hr hlk hP hS dX2_challenge_30
end
def rmX4_addShare : Room := { frames := 1, cells := 0, slots := 0, locals := 21 }
theorem kvX4_addShare : yX4_addShare.cls = RX4 ∧ yX4_addShare.cls ≠ "java/lang/invoke/MethodHandle" ∧ yX4_addShare.cls ≠ "java/lang/invoke/VarHandle" ∧ (parseMethodDescriptor yX4_addShare.desc).map (fun d => d.parameters.length) = some 2 := by decide +kernel
section
variable {p : Program} {l : Launch} {e : Env} {s : State} {m : MethodId} {args : Array Value} {below : List Frame} {meth : Method} {c : Code} {G : zG} {xP : Nat → Nat} {vP : zSt}
set_option maxRecDepth 20000 in
theorem mX4_addShare (l : Launch) (G : zG) (xP : Nat → Nat) {uP : zSt} {l1 : Int32} {l2 : Int32} {vP : zSt} (h : fX4_addShare uP l1 l2 = some vP) : zC l yX4_addShare wsX4_addShare rmX4_addShare [.ref (xP 0), .int l1, .int l2] G [shP G xP] [uP] [vP] none := by
  refine z_ofW (cc := cX4_addShare) (maxL := 3) (ret := none) (by decide) rfl (Nat.le_of_ble_eq_true rfl) ?_
  intro p e s m args below meth c C0 hK hN hD hP ls hl
  obtain ⟨hx, hb, hr, hml, hown, hts, hlk⟩ := id C0
  have hS : va_S (zA [shP G xP] s.heap.size) s.heap s.heap [] := va_S.rf
  replace hl : lv_has ls 3 [(0, .ref (xP 0)), (1, .int l1), (2, .int l2)] := hl
  have hwX4 : ∀ w ∈ wsX40, w.before args s = true := fun w h => hts w (List.mem_cons_of_mem _ (List.mem_append_right _ h))
  unfold fX4_addShare at h
  refine lv_aload_n hx hb dX4_addShare_0 rfl (lv_at hl 0 rfl) ?_
  refine rP_12 hx hb hwX4 hown hK hP 0 (xP) rfl rfl (hts _ (List.mem_of_getElem? (i := 1) rfl)) dX4_addShare_1 ?_
  refine lv_iload_n hx hb dX4_addShare_4 rfl (lv_at hl 1 rfl) ?_
  refine lv_aload_n hx hb dX4_addShare_5 rfl (lv_at hl 0 rfl) ?_
  refine rP_12 hx hb hwX4 hown hK hP 0 (xP) rfl rfl (hts _ (List.mem_of_getElem? (i := 1) rfl)) dX4_addShare_6 ?_
  refine lv_iload_n hx hb dX4_addShare_9 rfl (lv_at hl 1 rfl) ?_
  obtain ⟨hi, h⟩ := zin_e h
  refine aP_12 hx hb hK hP 0 (xP) rfl rfl hi rfl dX4_addShare_10 ?_
  refine lv_iload_n hx hb dX4_addShare_11 rfl (lv_at hl 2 rfl) ?_
  obtain ⟨r_1, hg, h⟩ := zb1_e h
  refine z_callS (As := [.int ((gA uP 12 l1.toNatClampNeg)), .int l2]) (rest := [.int l1, .ref (xP 11)]) ⟨hx, hb, hml, hown, hts⟩ (mX3_times l G  hg) (va_cwS 2 hts gX4_addShare_X3_times rfl rfl rfl ksX3_times ⟨Nat.le_of_ble_eq_true rfl, Nat.le_of_ble_eq_true rfl⟩) hP hD hK hN hS (Nat.le_refl _) [] rfl rfl rfl rfl rfl hl.1 rfl (Nat.le_of_ble_eq_true rfl) dX4_addShare_12 ⟨Nat.zero_le _, Nat.zero_le _⟩ (fun H locs hP hS => ?_)
  replace hP : zP G [shP G xP] [uP] H := hP
  obtain ⟨hi, h⟩ := zin_e h
  refine tP_12 hx hb hK hP hD hS 0 (xP) rfl rfl hi rfl dX4_addShare_15 (fun H locs hP hS => ?_)
  replace hP : zP G [shP G xP] [(sA uP 12 l1.toNatClampNeg r_1)] H := hP
  cases h
  exact z_vret hx hb hr hlk hP hS dX4_addShare_16
end
def rmX6_putShare : Room := { frames := 2, cells := 0, slots := 0, locals := 49 }
theorem kvX6_putShare : yX6_putShare.cls = RX6 ∧ yX6_putShare.cls ≠ "java/lang/invoke/MethodHandle" ∧ yX6_putShare.cls ≠ "java/lang/invoke/VarHandle" ∧ (parseMethodDescriptor yX6_putShare.desc).map (fun d => d.parameters.length) = some 3 := by decide +kernel
section
variable {p : Program} {l : Launch} {e : Env} {s : State} {m : MethodId} {args : Array Value} {below : List Frame} {meth : Method} {c : Code} {G : zG} {xO : Nat → Nat} {vB : zSt} {vP : zSt}
set_option maxRecDepth 20000 in
theorem mX6_putShare (l : Launch) (G : zG) (xO : Nat → Nat) {uO : zSt} {uB : zSt} {uP : zSt} {l1 : Int32} {l2 : Int32} {l3 : Int32} {vB : zSt} {vP : zSt} (h : fX6_putShare uO uB uP l1 l2 l3 = some (vB, vP)) : zC l yX6_putShare wsX6_putShare rmX6_putShare [.ref (xO 0), .int l1, .int l2, .int l3] G [shO G xO, shB G (ad 1 xO), shP G (ad 5 xO)] [uO, uB, uP] [uO, vB, vP] none := by
  refine z_ofW (cc := cX6_putShare) (maxL := 11) (ret := none) (by decide) rfl (Nat.le_of_ble_eq_true rfl) ?_
  intro p e s m args below meth c C0 hK hN hD hP ls hl
  obtain ⟨hx, hb, hr, hml, hown, hts, hlk⟩ := id C0
  have hS : va_S (zA [shO G xO, shB G (ad 1 xO), shP G (ad 5 xO)] s.heap.size) s.heap s.heap [] := va_S.rf
  replace hl : lv_has ls 11 [(0, .ref (xO 0)), (1, .int l1), (2, .int l2), (3, .int l3)] := hl
  have hwX4 : ∀ w ∈ wsX40, w.before args s = true := fun w h => hts w (List.mem_cons_of_mem _ (List.mem_append_left _ (List.mem_append_right _ h)))
  have hwX6 : ∀ w ∈ wsX60, w.before args s = true := fun w h => hts w (List.mem_cons_of_mem _ (List.mem_append_left _ (List.mem_append_left _ (List.mem_append_right _ h))))
  unfold fX6_putShare at h
  refine lv_aload_n hx hb dX6_putShare_0 rfl (lv_at hl 0 rfl) ?_
  refine rO_1 hx hb hwX6 hown hK hP 0 (xO) rfl rfl (hts _ (List.mem_of_getElem? (i := 1) rfl)) dX6_putShare_1 ?_
  refine rNP_7 hx hb hwX4 hown hK hP 2 (ad 5 xO) rfl rfl (hN.f (List.mem_of_getElem? (i := 10) rfl)) dX6_putShare_4 ?_
  refine lv_iload_n hx hb dX6_putShare_7 rfl (lv_at hl 2 rfl) ?_
  obtain ⟨hi, h⟩ := zin_e h
  refine aP_7 hx hb hK hP 2 (ad 5 xO) rfl rfl hi rfl dX6_putShare_8 ?_
  refine lv_istore (lv' := [(4, .int ((gA uP 7 l2.toNatClampNeg))), (0, .ref (xO 0)), (1, .int l1), (2, .int l2), (3, .int l3)]) hx hb dX6_putShare_9 hl (by decide) rfl (fun ls hl => ?_)
  refine lv_iload hx hb dX6_putShare_11 (lv_at hl 0 rfl) ?_
  refine lv_aload_n hx hb dX6_putShare_13 rfl (lv_at hl 1 rfl) ?_
  refine rO_4 hx hb hwX6 hown hK hP 0 (xO) rfl rfl (hts _ (List.mem_of_getElem? (i := 2) rfl)) dX6_putShare_14 ?_
  refine lv_iload_n hx hb dX6_putShare_17 rfl (lv_at hl 2 rfl) ?_
  obtain ⟨hi, h⟩ := zin_e h
  refine aO_4 hx hb hK hP 0 (xO) rfl rfl hi rfl dX6_putShare_18 ?_
  obtain ⟨r_1, hg, h⟩ := zb1_e h
  refine z_callS (As := [.int ((gA uP 7 l2.toNatClampNeg)), .int ((gA uO 4 l1.toNatClampNeg))]) (rest := []) ⟨hx, hb, hml, hown, hts⟩ (mX3_power l G  hg) (va_cwS 2 hts gX6_putShare_X3_power rfl rfl rfl ksX3_power ⟨Nat.le_of_ble_eq_true rfl, Nat.le_of_ble_eq_true rfl⟩) hP hD hK hN hS (Nat.le_refl _) [] rfl rfl rfl rfl rfl hl.1 rfl (Nat.le_of_ble_eq_true rfl) dX6_putShare_19 ⟨Nat.zero_le _, Nat.zero_le _⟩ (fun H locs hP hS => ?_)
  replace hP : zP G [shO G xO, shB G (ad 1 xO), shP G (ad 5 xO)] [uO, uB, uP] H := hP
  refine lv_istore (lv' := [(5, .int r_1), (4, .int ((gA uP 7 l2.toNatClampNeg))), (0, .ref (xO 0)), (1, .int l1), (2, .int l2), (3, .int l3)]) hx hb dX6_putShare_22 hl (by decide) rfl (fun ls hl => ?_)
  refine lv_lconst (v := 0) hx hb dX6_putShare_24 rfl ?_
  refine lv_iload_n hx hb dX6_putShare_25 rfl (lv_at hl 5 rfl) ?_
  refine lv_i2l (v := l3.toInt64) hx hb dX6_putShare_26 rfl ?_
  obtain ⟨r_2, hg, h⟩ := zb1_e h
  refine z_callS (As := [.long ((0 : Int64)), .long ((l3.toInt64))]) (rest := []) ⟨hx, hb, hml, hown, hts⟩ (mX2_with l G  hg) (va_cwS 2 hts gX6_putShare_X2_with rfl rfl rfl ksX2_with ⟨Nat.le_of_ble_eq_true rfl, Nat.le_of_ble_eq_true rfl⟩) hP hD hK hN hS (Nat.le_refl _) [] rfl rfl rfl rfl rfl hl.1 rfl (Nat.le_of_ble_eq_true rfl) dX6_putShare_27 ⟨Nat.zero_le _, Nat.zero_le _⟩ (fun H locs hP hS => ?_)
  replace hP : zP G [shO G xO, shB G (ad 1 xO), shP G (ad 5 xO)] [uO, uB, uP] H := hP
  refine lv_iload_n hx hb dX6_putShare_30 rfl (lv_at hl 3 rfl) ?_
  refine lv_i2l (v := l1.toInt64) hx hb dX6_putShare_31 rfl ?_
  obtain ⟨r_3, hg, h⟩ := zb1_e h
  refine z_callS (As := [.long r_2, .long ((l1.toInt64))]) (rest := []) ⟨hx, hb, hml, hown, hts⟩ (mX2_with l G  hg) (va_cwS 2 hts gX6_putShare_X2_with rfl rfl rfl ksX2_with ⟨Nat.le_of_ble_eq_true rfl, Nat.le_of_ble_eq_true rfl⟩) hP hD hK hN hS (Nat.le_refl _) [] rfl rfl rfl rfl rfl hl.1 rfl (Nat.le_of_ble_eq_true rfl) dX6_putShare_32 ⟨Nat.zero_le _, Nat.zero_le _⟩ (fun H locs hP hS => ?_)
  replace hP : zP G [shO G xO, shB G (ad 1 xO), shP G (ad 5 xO)] [uO, uB, uP] H := hP
  refine lv_iload_n hx hb dX6_putShare_35 rfl (lv_at hl 4 rfl) ?_
  refine lv_i2l (v := l2.toInt64) hx hb dX6_putShare_36 rfl ?_
  obtain ⟨r_4, hg, h⟩ := zb1_e h
  refine z_callS (As := [.long r_3, .long ((l2.toInt64))]) (rest := []) ⟨hx, hb, hml, hown, hts⟩ (mX2_with l G  hg) (va_cwS 2 hts gX6_putShare_X2_with rfl rfl rfl ksX2_with ⟨Nat.le_of_ble_eq_true rfl, Nat.le_of_ble_eq_true rfl⟩) hP hD hK hN hS (Nat.le_refl _) [] rfl rfl rfl rfl rfl hl.1 rfl (Nat.le_of_ble_eq_true rfl) dX6_putShare_37 ⟨Nat.zero_le _, Nat.zero_le _⟩ (fun H locs hP hS => ?_)
  replace hP : zP G [shO G xO, shB G (ad 1 xO), shP G (ad 5 xO)] [uO, uB, uP] H := hP
  obtain ⟨r_5, hg, h⟩ := zb1_e h
  refine z_callS (As := [.long r_4]) (rest := []) ⟨hx, hb, hml, hown, hts⟩ (mX2_number l G  hg) (va_cwS 1 hts gX6_putShare_X2_number rfl rfl rfl ksX2_number ⟨Nat.le_of_ble_eq_true rfl, Nat.le_of_ble_eq_true rfl⟩) hP hD hK hN hS (Nat.le_refl _) [] rfl rfl rfl rfl rfl hl.1 rfl (Nat.le_of_ble_eq_true rfl) dX6_putShare_40 ⟨Nat.zero_le _, Nat.zero_le _⟩ (fun H locs hP hS => ?_)
  replace hP : zP G [shO G xO, shB G (ad 1 xO), shP G (ad 5 xO)] [uO, uB, uP] H := hP
  refine lv_istore (lv' := [(6, .int r_5), (5, .int r_1), (4, .int ((gA uP 7 l2.toNatClampNeg))), (0, .ref (xO 0)), (1, .int l1), (2, .int l2), (3, .int l3)]) hx hb dX6_putShare_43 hl (by decide) rfl (fun ls hl => ?_)
  refine lv_iload hx hb dX6_putShare_45 (lv_at hl 0 rfl) ?_
  obtain ⟨r_6, hg, h⟩ := zb1_e h
  refine z_callS (As := [.int r_5]) (rest := []) ⟨hx, hb, hml, hown, hts⟩ (mX3_ofBase l G  hg) (va_cwS 1 hts gX6_putShare_X3_ofBase rfl rfl rfl ksX3_ofBase ⟨Nat.le_of_ble_eq_true rfl, Nat.le_of_ble_eq_true rfl⟩) hP hD hK hN hS (Nat.le_refl _) [] rfl rfl rfl rfl rfl hl.1 rfl (Nat.le_of_ble_eq_true rfl) dX6_putShare_47 ⟨Nat.zero_le _, Nat.zero_le _⟩ (fun H locs hP hS => ?_)
  replace hP : zP G [shO G xO, shB G (ad 1 xO), shP G (ad 5 xO)] [uO, uB, uP] H := hP
  refine lv_istore (lv' := [(7, .int r_6), (6, .int r_5), (5, .int r_1), (4, .int ((gA uP 7 l2.toNatClampNeg))), (0, .ref (xO 0)), (1, .int l1), (2, .int l2), (3, .int l3)]) hx hb dX6_putShare_50 hl (by decide) rfl (fun ls hl => ?_)
  refine lv_iload hx hb dX6_putShare_52 (lv_at hl 3 rfl) ?_
  refine lv_iload hx hb dX6_putShare_54 (lv_at hl 1 rfl) ?_
  obtain ⟨r_7, hg, h⟩ := zb1_e h
  refine z_callS (As := [.int ((gA uP 7 l2.toNatClampNeg)), .int r_5]) (rest := []) ⟨hx, hb, hml, hown, hts⟩ (mX3_power l G  hg) (va_cwS 2 hts gX6_putShare_X3_power rfl rfl rfl ksX3_power ⟨Nat.le_of_ble_eq_true rfl, Nat.le_of_ble_eq_true rfl⟩) hP hD hK hN hS (Nat.le_refl _) [] rfl rfl rfl rfl rfl hl.1 rfl (Nat.le_of_ble_eq_true rfl) dX6_putShare_56 ⟨Nat.zero_le _, Nat.zero_le _⟩ (fun H locs hP hS => ?_)
  replace hP : zP G [shO G xO, shB G (ad 1 xO), shP G (ad 5 xO)] [uO, uB, uP] H := hP
  refine lv_istore (lv' := [(8, .int r_7), (7, .int r_6), (6, .int r_5), (5, .int r_1), (4, .int ((gA uP 7 l2.toNatClampNeg))), (0, .ref (xO 0)), (1, .int l1), (2, .int l2), (3, .int l3)]) hx hb dX6_putShare_59 hl (by decide) rfl (fun ls hl => ?_)
  refine lv_aload_n hx hb dX6_putShare_61 rfl (lv_at hl 5 rfl) ?_
  refine rO_1 hx hb hwX6 hown hK hP 0 (xO) rfl rfl (hts _ (List.mem_of_getElem? (i := 1) rfl)) dX6_putShare_62 ?_
  refine rNP_0 hx hb hwX4 hown hK hP 2 (ad 5 xO) rfl rfl (hN.f (List.mem_of_getElem? (i := 2) rfl)) dX6_putShare_65 ?_
  refine lv_iload_n hx hb dX6_putShare_68 rfl (lv_at hl 6 rfl) ?_
  obtain ⟨hi, h⟩ := zin_e h
  refine aP_0 hx hb hK hP 2 (ad 5 xO) rfl rfl hi rfl dX6_putShare_69 ?_
  refine lv_iload hx hb dX6_putShare_70 (lv_at hl 4 rfl) ?_
  refine lv_iload hx hb dX6_putShare_72 (lv_at hl 3 rfl) ?_
  refine lv_iload hx hb dX6_putShare_74 (lv_at hl 1 rfl) ?_
  refine lv_iload hx hb dX6_putShare_76 (lv_at hl 0 rfl) ?_
  obtain ⟨r_8, hg, h⟩ := zb1_e h
  refine z_callS (As := [.int ((gA uP 0 l1.toNatClampNeg)), .int ((gA uP 7 l2.toNatClampNeg)), .int r_1, .int r_6, .int r_7]) (rest := []) ⟨hx, hb, hml, hown, hts⟩ (mX2_challenge l G  hg) (va_cwS 5 hts gX6_putShare_X2_challenge rfl rfl rfl ksX2_challenge ⟨Nat.le_of_ble_eq_true rfl, Nat.le_of_ble_eq_true rfl⟩) hP hD hK hN hS (Nat.le_refl _) [] rfl rfl rfl rfl rfl hl.1 rfl (Nat.le_of_ble_eq_true rfl) dX6_putShare_78 ⟨Nat.zero_le _, Nat.zero_le _⟩ (fun H locs hP hS => ?_)
  replace hP : zP G [shO G xO, shB G (ad 1 xO), shP G (ad 5 xO)] [uO, uB, uP] H := hP
  refine lv_istore (lv' := [(9, .int r_8), (8, .int r_7), (7, .int r_6), (6, .int r_5), (5, .int r_1), (4, .int ((gA uP 7 l2.toNatClampNeg))), (0, .ref (xO 0)), (1, .int l1), (2, .int l2), (3, .int l3)]) hx hb dX6_putShare_81 hl (by decide) rfl (fun ls hl => ?_)
  refine lv_aload_n hx hb dX6_putShare_83 rfl (lv_at hl 6 rfl) ?_
  refine rO_0 hx hb hwX6 hown hK hP 0 (xO) rfl rfl (hts _ (List.mem_of_getElem? (i := 3) rfl)) dX6_putShare_84 ?_
  refine lv_bipush (v := 6) hx hb dX6_putShare_87 (by decide) ?_
  refine lv_iload_n hx hb dX6_putShare_89 rfl (lv_at hl 7 rfl) ?_
  refine lv_iload_n hx hb dX6_putShare_90 rfl (lv_at hl 8 rfl) ?_
  refine lv_iload hx hb dX6_putShare_91 (lv_at hl 4 rfl) ?_
  obtain ⟨r_9, uB_10, hg, h⟩ := zb2_e h
  refine z_callV (As := [.int ((6 : Int32)), .int l1, .int l2, .int r_1]) (rest := []) (i := 0) ⟨hx, hb, hml, hown, hts⟩ (mX1_put l G (ad 1 xO) hg) (cwV 4 hts gX6_putShare_X1_put rfl rfl rfl kvX1_put ⟨Nat.le_of_ble_eq_true rfl, Nat.le_of_ble_eq_true rfl⟩) rfl hP hD hK hN hS (Nat.le_refl _) [1] rfl rfl rfl rfl 1 rfl rfl rfl rfl rfl hl.1 rfl (Nat.le_of_ble_eq_true rfl) dX6_putShare_93 ⟨Nat.zero_le _, Nat.zero_le _⟩ (fun H locs hP hS => ?_)
  replace hP : zP G [shO G xO, shB G (ad 1 xO), shP G (ad 5 xO)] [uO, uB_10, uP] H := hP
  refine lv_istore (lv' := [(10, .int r_9), (9, .int r_8), (8, .int r_7), (7, .int r_6), (6, .int r_5), (5, .int r_1), (4, .int ((gA uP 7 l2.toNatClampNeg))), (0, .ref (xO 0)), (1, .int l1), (2, .int l2), (3, .int l3)]) hx hb dX6_putShare_96 hl (by decide) rfl (fun ls hl => ?_)
  refine lv_aload_n hx hb dX6_putShare_98 rfl (lv_at hl 7 rfl) ?_
  refine rO_0 hx hb hwX6 hown hK hP 0 (xO) rfl rfl (hts _ (List.mem_of_getElem? (i := 3) rfl)) dX6_putShare_99 ?_
  refine lv_iload hx hb dX6_putShare_102 (lv_at hl 0 rfl) ?_
  refine lv_iconst (v := 3) hx hb dX6_putShare_104 (by decide) ?_
  refine lv_iload hx hb dX6_putShare_105 (lv_at hl 4 rfl) ?_
  refine lv_iload hx hb dX6_putShare_107 (lv_at hl 1 rfl) ?_
  refine lv_aload_n hx hb dX6_putShare_109 rfl (lv_at hl 7 rfl) ?_
  refine rO_4 hx hb hwX6 hown hK hP 0 (xO) rfl rfl (hts _ (List.mem_of_getElem? (i := 2) rfl)) dX6_putShare_110 ?_
  refine lv_iload_n hx hb dX6_putShare_113 rfl (lv_at hl 8 rfl) ?_
  obtain ⟨hi, h⟩ := zin_e h
  refine aO_4 hx hb hK hP 0 (xO) rfl rfl hi rfl dX6_putShare_114 ?_
  refine lv_imul hx hb dX6_putShare_115 ?_
  refine lv_iadd hx hb dX6_putShare_116 ?_
  refine lv_sipush (v := 2039) hx hb dX6_putShare_117 (by decide) ?_
  refine lv_irem hx hb dX6_putShare_120 (by decide) ?_
  obtain ⟨uB_11, hg, h⟩ := zb1_e h
  refine z_callV (As := [.int r_9, .int ((3 : Int32)), .int (((r_5 + (r_8 * (gA uO 4 l1.toNatClampNeg))) - (r_5 + (r_8 * (gA uO 4 l1.toNatClampNeg))) / (2039 : Int32) * (2039 : Int32)))]) (rest := []) (i := 0) ⟨hx, hb, hml, hown, hts⟩ (mX1_write l G (ad 1 xO) hg) (cwV 3 hts gX6_putShare_X1_write rfl rfl rfl kvX1_write ⟨Nat.le_of_ble_eq_true rfl, Nat.le_of_ble_eq_true rfl⟩) rfl hP hD hK hN hS (Nat.le_refl _) [1] rfl rfl rfl rfl 1 rfl rfl rfl rfl rfl hl.1 rfl (Nat.le_of_ble_eq_true rfl) dX6_putShare_121 ⟨Nat.zero_le _, Nat.zero_le _⟩ (fun H locs hP hS => ?_)
  replace hP : zP G [shO G xO, shB G (ad 1 xO), shP G (ad 5 xO)] [uO, uB_11, uP] H := hP
  refine lv_aload_n hx hb dX6_putShare_124 rfl (lv_at hl 7 rfl) ?_
  refine rO_0 hx hb hwX6 hown hK hP 0 (xO) rfl rfl (hts _ (List.mem_of_getElem? (i := 3) rfl)) dX6_putShare_125 ?_
  refine lv_iload hx hb dX6_putShare_128 (lv_at hl 0 rfl) ?_
  refine lv_iconst (v := 4) hx hb dX6_putShare_130 (by decide) ?_
  refine lv_iload hx hb dX6_putShare_131 (lv_at hl 3 rfl) ?_
  obtain ⟨uB_12, hg, h⟩ := zb1_e h
  refine z_callV (As := [.int r_9, .int ((4 : Int32)), .int r_6]) (rest := []) (i := 0) ⟨hx, hb, hml, hown, hts⟩ (mX1_write l G (ad 1 xO) hg) (cwV 3 hts gX6_putShare_X1_write rfl rfl rfl kvX1_write ⟨Nat.le_of_ble_eq_true rfl, Nat.le_of_ble_eq_true rfl⟩) rfl hP hD hK hN hS (Nat.le_refl _) [1] rfl rfl rfl rfl 1 rfl rfl rfl rfl rfl hl.1 rfl (Nat.le_of_ble_eq_true rfl) dX6_putShare_133 ⟨Nat.zero_le _, Nat.zero_le _⟩ (fun H locs hP hS => ?_)
  replace hP : zP G [shO G xO, shB G (ad 1 xO), shP G (ad 5 xO)] [uO, uB_12, uP] H := hP
  refine lv_aload_n hx hb dX6_putShare_136 rfl (lv_at hl 7 rfl) ?_
  refine rO_0 hx hb hwX6 hown hK hP 0 (xO) rfl rfl (hts _ (List.mem_of_getElem? (i := 3) rfl)) dX6_putShare_137 ?_
  refine lv_iload hx hb dX6_putShare_140 (lv_at hl 0 rfl) ?_
  refine lv_iconst (v := 5) hx hb dX6_putShare_142 (by decide) ?_
  refine lv_iload hx hb dX6_putShare_143 (lv_at hl 2 rfl) ?_
  obtain ⟨uB_13, hg, h⟩ := zb1_e h
  refine z_callV (As := [.int r_9, .int ((5 : Int32)), .int r_7]) (rest := []) (i := 0) ⟨hx, hb, hml, hown, hts⟩ (mX1_write l G (ad 1 xO) hg) (cwV 3 hts gX6_putShare_X1_write rfl rfl rfl kvX1_write ⟨Nat.le_of_ble_eq_true rfl, Nat.le_of_ble_eq_true rfl⟩) rfl hP hD hK hN hS (Nat.le_refl _) [1] rfl rfl rfl rfl 1 rfl rfl rfl rfl rfl hl.1 rfl (Nat.le_of_ble_eq_true rfl) dX6_putShare_145 ⟨Nat.zero_le _, Nat.zero_le _⟩ (fun H locs hP hS => ?_)
  replace hP : zP G [shO G xO, shB G (ad 1 xO), shP G (ad 5 xO)] [uO, uB_13, uP] H := hP
  refine lv_aload_n hx hb dX6_putShare_148 rfl (lv_at hl 7 rfl) ?_
  refine rO_1 hx hb hwX6 hown hK hP 0 (xO) rfl rfl (hts _ (List.mem_of_getElem? (i := 1) rfl)) dX6_putShare_149 ?_
  refine lv_iload_n hx hb dX6_putShare_152 rfl (lv_at hl 9 rfl) ?_
  refine lv_iload hx hb dX6_putShare_153 (lv_at hl 5 rfl) ?_
  obtain ⟨uP_14, hg, h⟩ := zb1_e h
  refine z_callV (As := [.int l2, .int r_1]) (rest := []) (i := 0) ⟨hx, hb, hml, hown, hts⟩ (mX4_addShare l G (ad 5 xO) hg) (cwV 2 hts gX6_putShare_X4_addShare rfl rfl rfl kvX4_addShare ⟨Nat.le_of_ble_eq_true rfl, Nat.le_of_ble_eq_true rfl⟩) rfl hP hD hK hN hS (Nat.le_refl _) [2] rfl rfl rfl rfl 2 rfl rfl rfl rfl rfl hl.1 rfl (Nat.le_of_ble_eq_true rfl) dX6_putShare_155 ⟨Nat.zero_le _, Nat.zero_le _⟩ (fun H locs hP hS => ?_)
  replace hP : zP G [shO G xO, shB G (ad 1 xO), shP G (ad 5 xO)] [uO, uB_13, uP_14] H := hP
  cases h
  exact z_vret hx hb hr hlk hP hS dX6_putShare_158
end
def rmX4_allOpened : Room := { frames := 0, cells := 0, slots := 0, locals := 0 }
theorem kvX4_allOpened : yX4_allOpened.cls = RX4 ∧ yX4_allOpened.cls ≠ "java/lang/invoke/MethodHandle" ∧ yX4_allOpened.cls ≠ "java/lang/invoke/VarHandle" ∧ (parseMethodDescriptor yX4_allOpened.desc).map (fun d => d.parameters.length) = some 0 := by decide +kernel
section
variable {p : Program} {l : Launch} {e : Env} {s : State} {m : MethodId} {args : Array Value} {below : List Frame} {meth : Method} {c : Code} {G : zG} {xP : Nat → Nat} {rr : Int32}
set_option maxRecDepth 20000 in
theorem mX4_allOpened (l : Launch) (G : zG) (xP : Nat → Nat) {uP : zSt} {rr : Int32} (h : fX4_allOpened uP = some rr) : zC l yX4_allOpened wsX4_allOpened rmX4_allOpened [.ref (xP 0)] G [shP G xP] [uP] [uP] (some (.int rr)) := by
  refine z_ofW (cc := cX4_allOpened) (maxL := 1) (ret := some .boolean) (by decide) rfl (Nat.le_of_ble_eq_true rfl) ?_
  intro p e s m args below meth c C0 hK hN hD hP ls hl
  obtain ⟨hx, hb, hr, hml, hown, hts, hlk⟩ := id C0
  have hS : va_S (zA [shP G xP] s.heap.size) s.heap s.heap [] := va_S.rf
  replace hl : lv_has ls 1 [(0, .ref (xP 0))] := hl
  have hwX4 : ∀ w ∈ wsX40, w.before args s = true := fun w h => hts w (List.mem_cons_of_mem _ (List.mem_append_right _ h))
  unfold fX4_allOpened at h
  refine lv_aload_n hx hb dX4_allOpened_0 rfl (lv_at hl 0 rfl) ?_
  refine rP_13 hx hb hwX4 hown hK hP 0 (xP) rfl rfl (hts _ (List.mem_of_getElem? (i := 1) rfl)) dX4_allOpened_1 ?_
  refine lv_iconst (v := 0) hx hb dX4_allOpened_4 (by decide) ?_
  refine aP_13 hx hb hK hP 0 (xP) rfl rfl (zvi tn_0 n0_0 (by decide)) tn_0 dX4_allOpened_5 ?_
  refine lv_if_eq (tgt := 31) hx hb dX4_allOpened_6 (by decide) (fun hc => ?_) (fun hc => ?_)
  · replace h := zt hc h
    refine lv_iconst (v := 0) hx hb dX4_allOpened_31 (by decide) ?_
    cases h
    exact z_zret hx hb hr hlk rfl hP hS dX4_allOpened_32
  · replace h := zf hc h
    refine lv_aload_n hx hb dX4_allOpened_9 rfl (lv_at hl 0 rfl) ?_
    refine rP_13 hx hb hwX4 hown hK hP 0 (xP) rfl rfl (hts _ (List.mem_of_getElem? (i := 1) rfl)) dX4_allOpened_10 ?_
    refine lv_iconst (v := 1) hx hb dX4_allOpened_13 (by decide) ?_
    refine aP_13 hx hb hK hP 0 (xP) rfl rfl (zvi tn_1 n0_1 (by decide)) tn_1 dX4_allOpened_14 ?_
    refine lv_if_eq (tgt := 31) hx hb dX4_allOpened_15 (by decide) (fun hc => ?_) (fun hc => ?_)
    · replace h := zt hc h
      refine lv_iconst (v := 0) hx hb dX4_allOpened_31 (by decide) ?_
      cases h
      exact z_zret hx hb hr hlk rfl hP hS dX4_allOpened_32
    · replace h := zf hc h
      refine lv_aload_n hx hb dX4_allOpened_18 rfl (lv_at hl 0 rfl) ?_
      refine rP_13 hx hb hwX4 hown hK hP 0 (xP) rfl rfl (hts _ (List.mem_of_getElem? (i := 1) rfl)) dX4_allOpened_19 ?_
      refine lv_iconst (v := 2) hx hb dX4_allOpened_22 (by decide) ?_
      refine aP_13 hx hb hK hP 0 (xP) rfl rfl (zvi tn_2 n0_2 (by decide)) tn_2 dX4_allOpened_23 ?_
      refine lv_if_eq (tgt := 31) hx hb dX4_allOpened_24 (by decide) (fun hc => ?_) (fun hc => ?_)
      · replace h := zt hc h
        refine lv_iconst (v := 0) hx hb dX4_allOpened_31 (by decide) ?_
        cases h
        exact z_zret hx hb hr hlk rfl hP hS dX4_allOpened_32
      · replace h := zf hc h
        refine lv_iconst (v := 1) hx hb dX4_allOpened_27 (by decide) ?_
        refine lv_goto (tgt := 32) hx hb dX4_allOpened_28 (by decide) ?_
        cases h
        exact z_zret hx hb hr hlk rfl hP hS dX4_allOpened_32
end
def rmX3_inverse : Room := { frames := 1, cells := 0, slots := 0, locals := 24 }
theorem ksX3_inverse : yX3_inverse.cls ≠ "java/lang/invoke/MethodHandle" ∧ yX3_inverse.cls ≠ "java/lang/invoke/VarHandle" ∧ (parseMethodDescriptor yX3_inverse.desc).map (fun d => d.parameters.length) = some 1 := by decide +kernel
section
variable {p : Program} {l : Launch} {e : Env} {s : State} {m : MethodId} {args : Array Value} {below : List Frame} {meth : Method} {c : Code} {G : zG}  {rr : Int32}
set_option maxRecDepth 20000 in
theorem mX3_inverse (l : Launch) (G : zG)  {l0 : Int32} {rr : Int32} (h : fX3_inverse l0 = some rr) : zC l yX3_inverse wsX3_inverse rmX3_inverse [.int l0] G [] [] [] (some (.int rr)) := by
  refine z_ofW (cc := cX3_inverse) (maxL := 1) (ret := some .int) (by decide) rfl (Nat.le_of_ble_eq_true rfl) ?_
  intro p e s m args below meth c C0 hK hN hD hP ls hl
  obtain ⟨hx, hb, hr, hml, hown, hts, hlk⟩ := id C0
  have hS : va_S (zA [] s.heap.size) s.heap s.heap [] := va_S.rf
  replace hl : lv_has ls 1 [(0, .int l0)] := hl
  unfold fX3_inverse at h
  refine lv_iload_n hx hb dX3_inverse_0 rfl (lv_at hl 0 rfl) ?_
  refine lv_sipush (v := 2038) hx hb dX3_inverse_1 (by decide) ?_
  obtain ⟨r_1, hg, h⟩ := zb1_e h
  refine z_callS (As := [.int l0, .int ((2038 : Int32))]) (rest := []) ⟨hx, hb, hml, hown, hts⟩ (mX3_power l G  hg) (va_cwS 2 hts gX3_inverse_X3_power rfl rfl rfl ksX3_power ⟨Nat.le_of_ble_eq_true rfl, Nat.le_of_ble_eq_true rfl⟩) hP hD hK hN hS (Nat.le_refl _) [] rfl rfl rfl rfl rfl hl.1 rfl (Nat.le_of_ble_eq_true rfl) dX3_inverse_4 ⟨Nat.zero_le _, Nat.zero_le _⟩ (fun H locs hP hS => ?_)
  replace hP : zP G [] [] H := hP
  cases h
  exact z_iret hx hb hr hlk hP hS dX3_inverse_7
end
def rmX4_countVotes : Room := { frames := 2, cells := 0, slots := 0, locals := 44 }
theorem kvX4_countVotes : yX4_countVotes.cls = RX4 ∧ yX4_countVotes.cls ≠ "java/lang/invoke/MethodHandle" ∧ yX4_countVotes.cls ≠ "java/lang/invoke/VarHandle" ∧ (parseMethodDescriptor yX4_countVotes.desc).map (fun d => d.parameters.length) = some 0 := by decide +kernel
section
variable {p : Program} {l : Launch} {e : Env} {s : State} {m : MethodId} {args : Array Value} {below : List Frame} {meth : Method} {c : Code} {G : zG} {xP : Nat → Nat} {vP : zSt}
set_option maxRecDepth 20000 in
theorem tX4_countVotes_74 (C0 : zCtx p s m args meth c cX4_countVotes RX4 wsX4_countVotes 4 none) (hK : zK G s) (hN : zN s) (hD : zD [shP G xP]) {k22 : zSt → Int32 → Option (zSt)} (K22 : ∀ (uP : zSt) (l1 : Int32), k22 uP l1 = some vP → ∀ (H : Heap) (locs : List Loc), zP G [shP G xP] [uP] H → va_S (zA [shP G xP] s.heap.size) s.heap H locs → ∀ ls : Array Slot, lv_has ls 4 [(0, .ref (xP 0)), (1, .int l1)] → W p l e rmX4_countVotes s m args below meth c H locs 0 0 (MQ below (zQ G [shP G xP] [vP] (zA [shP G xP] s.heap.size) none) args s 0 0 (zA [shP G xP] s.heap.size)) (F0 m 22 ls [])) {k51 : zSt → Int32 → Int32 → Int32 → Option (zSt)} (K51 : ∀ (uP : zSt) (l1 : Int32) (l2 : Int32) (l3 : Int32), k51 uP l1 l2 l3 = some vP → ∀ (H : Heap) (locs : List Loc), zP G [shP G xP] [uP] H → va_S (zA [shP G xP] s.heap.size) s.heap H locs → ∀ ls : Array Slot, lv_has ls 4 [(0, .ref (xP 0)), (1, .int l1), (2, .int l2), (3, .int l3)] → W p l e rmX4_countVotes s m args below meth c H locs 0 0 (MQ below (zQ G [shP G xP] [vP] (zA [shP G xP] s.heap.size) none) args s 0 0 (zA [shP G xP] s.heap.size)) (F0 m 51 ls [])) : ∀ (uP : zSt) (l1 : Int32) (l2 : Int32) (l3 : Int32), bX4_countVotes_74 k22 k51 uP l1 l2 l3 = some vP → ∀ (H : Heap) (locs : List Loc), zP G [shP G xP] [uP] H → va_S (zA [shP G xP] s.heap.size) s.heap H locs → ∀ ls : Array Slot, lv_has ls 4 [(0, .ref (xP 0)), (1, .int l1), (2, .int l2), (3, .int l3)] → W p l e rmX4_countVotes s m args below meth c H locs 0 0 (MQ below (zQ G [shP G xP] [vP] (zA [shP G xP] s.heap.size) none) args s 0 0 (zA [shP G xP] s.heap.size)) (F0 m 74 ls []) := by
  obtain ⟨hx, hb, hr, hml, hown, hts, hlk⟩ := id C0
  intro uP l1 l2 l3 h H locs hP hS ls hl
  unfold bX4_countVotes_74 at h
  refine lv_iinc (v := (l3 + (1 : Int32))) (lv' := [(3, .int ((l3 + (1 : Int32)))), (0, .ref (xP 0)), (1, .int l1), (2, .int l2)]) hx hb dX4_countVotes_74 hl (k := 3) rfl rfl (by decide) rfl (fun ls hl => ?_)
  refine lv_goto (tgt := 51) hx hb dX4_countVotes_77 (by decide) ?_
  exact K51 _ _ _ _ h _ _ hP hS _ (lv_sub hl [1, 2, 3, 0] rfl)
set_option maxRecDepth 20000 in
theorem tlX4_countVotes_51 (C0 : zCtx p s m args meth c cX4_countVotes RX4 wsX4_countVotes 4 none) (hK : zK G s) (hN : zN s) (hD : zD [shP G xP]) {k22 : zSt → Int32 → Option (zSt)} (K22 : ∀ (uP : zSt) (l1 : Int32), k22 uP l1 = some vP → ∀ (H : Heap) (locs : List Loc), zP G [shP G xP] [uP] H → va_S (zA [shP G xP] s.heap.size) s.heap H locs → ∀ ls : Array Slot, lv_has ls 4 [(0, .ref (xP 0)), (1, .int l1)] → W p l e rmX4_countVotes s m args below meth c H locs 0 0 (MQ below (zQ G [shP G xP] [vP] (zA [shP G xP] s.heap.size) none) args s 0 0 (zA [shP G xP] s.heap.size)) (F0 m 22 ls [])) : ∀ (n : Nat), ∀ (uP : zSt) (l1 : Int32) (l2 : Int32) (l3 : Int32), lX4_countVotes_51 k22 n uP l1 l2 l3 = some vP → ∀ (H : Heap) (locs : List Loc), zP G [shP G xP] [uP] H → va_S (zA [shP G xP] s.heap.size) s.heap H locs → ∀ ls : Array Slot, lv_has ls 4 [(0, .ref (xP 0)), (1, .int l1), (2, .int l2), (3, .int l3)] → W p l e rmX4_countVotes s m args below meth c H locs 0 0 (MQ below (zQ G [shP G xP] [vP] (zA [shP G xP] s.heap.size) none) args s 0 0 (zA [shP G xP] s.heap.size)) (F0 m 51 ls []) := by
  obtain ⟨hx, hb, hr, hml, hown, hts, hlk⟩ := id C0
  have hwX4 : ∀ w ∈ wsX40, w.before args s = true := fun w h => hts w (List.mem_cons_of_mem _ (List.mem_append_right _ h))
  intro n
  induction n with
  | zero => intro uP l1 l2 l3 h; exact absurd h (fun q => nomatch q)
  | succ n K51 =>
    intro uP l1 l2 l3 h H locs hP hS ls hl
    replace h : bX4_countVotes_51 k22 (lX4_countVotes_51 k22 n) uP l1 l2 l3 = some vP := h
    unfold bX4_countVotes_51 at h
    refine lv_iload_n hx hb dX4_countVotes_51 rfl (lv_at hl 3 rfl) ?_
    refine lv_iconst (v := 4) hx hb dX4_countVotes_52 (by decide) ?_
    refine lv_icmp_ge (tgt := 80) hx hb dX4_countVotes_53 (by decide) (fun hc => ?_) (fun hc => ?_)
    · replace h := zt hc h
      refine lv_iinc (v := (l1 + (1 : Int32))) (lv' := [(1, .int ((l1 + (1 : Int32)))), (0, .ref (xP 0)), (2, .int l2), (3, .int l3)]) hx hb dX4_countVotes_80 hl (k := 1) rfl rfl (by decide) rfl (fun ls hl => ?_)
      refine lv_goto (tgt := 22) hx hb dX4_countVotes_83 (by decide) ?_
      exact K22 _ _ h _ _ hP hS _ (lv_sub hl [1, 0] rfl)
    · replace h := zf hc h
      refine lv_iload_n hx hb dX4_countVotes_56 rfl (lv_at hl 2 rfl) ?_
      refine lv_iload_n hx hb dX4_countVotes_57 rfl (lv_at hl 3 rfl) ?_
      obtain ⟨r_1, hg, h⟩ := zb1_e h
      refine z_callS (As := [.int l3]) (rest := [.int l2]) ⟨hx, hb, hml, hown, hts⟩ (mX3_ofBase l G  hg) (va_cwS 1 hts gX4_countVotes_X3_ofBase rfl rfl rfl ksX3_ofBase ⟨Nat.le_of_ble_eq_true rfl, Nat.le_of_ble_eq_true rfl⟩) hP hD hK hN hS (Nat.le_refl _) [] rfl rfl rfl rfl rfl hl.1 rfl (Nat.le_of_ble_eq_true rfl) dX4_countVotes_58 ⟨Nat.zero_le _, Nat.zero_le _⟩ (fun H locs hP hS => ?_)
      replace hP : zP G [shP G xP] [uP] H := hP
      refine lv_icmp_ne (tgt := 74) hx hb dX4_countVotes_61 (by decide) (fun hc => ?_) (fun hc => ?_)
      · replace h := zf hc h
        exact tX4_countVotes_74 C0 hK hN hD K22 K51 _ _ _ _ h _ _ hP hS _ (lv_sub hl [0, 1, 2, 3] rfl)
      · replace h := zt hc h
        refine lv_aload_n hx hb dX4_countVotes_64 rfl (lv_at hl 0 rfl) ?_
        refine rP_14 hx hb hwX4 hown hK hP 0 (xP) rfl rfl (hts _ (List.mem_of_getElem? (i := 1) rfl)) dX4_countVotes_65 ?_
        refine lv_iload_n hx hb dX4_countVotes_68 rfl (lv_at hl 3 rfl) ?_
        refine lv_dup2_11 hx hb dX4_countVotes_69 rfl rfl ?_
        obtain ⟨hi, h⟩ := zin_e h
        refine aP_14 hx hb hK hP 0 (xP) rfl rfl hi rfl dX4_countVotes_70 ?_
        refine lv_iconst (v := 1) hx hb dX4_countVotes_71 (by decide) ?_
        refine lv_iadd hx hb dX4_countVotes_72 ?_
        obtain ⟨hi, h⟩ := zin_e h
        refine tP_14 hx hb hK hP hD hS 0 (xP) rfl rfl hi rfl dX4_countVotes_73 (fun H locs hP hS => ?_)
        replace hP : zP G [shP G xP] [(sA uP 14 l3.toNatClampNeg (((gA uP 14 l3.toNatClampNeg) + (1 : Int32))))] H := hP
        exact tX4_countVotes_74 C0 hK hN hD K22 K51 _ _ _ _ h _ _ hP hS _ (lv_sub hl [0, 1, 2, 3] rfl)
set_option maxRecDepth 20000 in
theorem tlX4_countVotes_22 (C0 : zCtx p s m args meth c cX4_countVotes RX4 wsX4_countVotes 4 none) (hK : zK G s) (hN : zN s) (hD : zD [shP G xP])  : ∀ (n : Nat), ∀ (uP : zSt) (l1 : Int32), lX4_countVotes_22  n uP l1 = some vP → ∀ (H : Heap) (locs : List Loc), zP G [shP G xP] [uP] H → va_S (zA [shP G xP] s.heap.size) s.heap H locs → ∀ ls : Array Slot, lv_has ls 4 [(0, .ref (xP 0)), (1, .int l1)] → W p l e rmX4_countVotes s m args below meth c H locs 0 0 (MQ below (zQ G [shP G xP] [vP] (zA [shP G xP] s.heap.size) none) args s 0 0 (zA [shP G xP] s.heap.size)) (F0 m 22 ls []) := by
  obtain ⟨hx, hb, hr, hml, hown, hts, hlk⟩ := id C0
  have hwX4 : ∀ w ∈ wsX40, w.before args s = true := fun w h => hts w (List.mem_cons_of_mem _ (List.mem_append_right _ h))
  intro n
  induction n with
  | zero => intro uP l1 h; exact absurd h (fun q => nomatch q)
  | succ n K22 =>
    intro uP l1 h H locs hP hS ls hl
    replace h : bX4_countVotes_22  (lX4_countVotes_22  n) uP l1 = some vP := h
    unfold bX4_countVotes_22 at h
    refine lv_iload_n hx hb dX4_countVotes_22 rfl (lv_at hl 1 rfl) ?_
    refine lv_aload_n hx hb dX4_countVotes_23 rfl (lv_at hl 0 rfl) ?_
    refine rP_6 hx hb hwX4 hown hK hP 0 (xP) rfl rfl (hts _ (List.mem_of_getElem? (i := 2) rfl)) dX4_countVotes_24 ?_
    refine lv_icmp_ge (tgt := 86) hx hb dX4_countVotes_27 (by decide) (fun hc => ?_) (fun hc => ?_)
    · replace h := zt hc h
      cases h
      exact z_vret hx hb hr hlk hP hS dX4_countVotes_86
    · replace h := zf hc h
      refine lv_aload_n hx hb dX4_countVotes_30 rfl (lv_at hl 0 rfl) ?_
      refine rP_8 hx hb hwX4 hown hK hP 0 (xP) rfl rfl (hts _ (List.mem_of_getElem? (i := 3) rfl)) dX4_countVotes_31 ?_
      refine lv_iload_n hx hb dX4_countVotes_34 rfl (lv_at hl 1 rfl) ?_
      obtain ⟨hi, h⟩ := zin_e h
      refine aP_8 hx hb hK hP 0 (xP) rfl rfl hi rfl dX4_countVotes_35 ?_
      refine lv_aload_n hx hb dX4_countVotes_36 rfl (lv_at hl 0 rfl) ?_
      refine rP_12 hx hb hwX4 hown hK hP 0 (xP) rfl rfl (hts _ (List.mem_of_getElem? (i := 4) rfl)) dX4_countVotes_37 ?_
      refine lv_iload_n hx hb dX4_countVotes_40 rfl (lv_at hl 1 rfl) ?_
      obtain ⟨hi, h⟩ := zin_e h
      refine aP_12 hx hb hK hP 0 (xP) rfl rfl hi rfl dX4_countVotes_41 ?_
      obtain ⟨r_2, hg, h⟩ := zb1_e h
      refine z_callS (As := [.int ((gA uP 12 l1.toNatClampNeg))]) (rest := [.int ((gA uP 8 l1.toNatClampNeg))]) ⟨hx, hb, hml, hown, hts⟩ (mX3_inverse l G  hg) (va_cwS 1 hts gX4_countVotes_X3_inverse rfl rfl rfl ksX3_inverse ⟨Nat.le_of_ble_eq_true rfl, Nat.le_of_ble_eq_true rfl⟩) hP hD hK hN hS (Nat.le_refl _) [] rfl rfl rfl rfl rfl hl.1 rfl (Nat.le_of_ble_eq_true rfl) dX4_countVotes_42 ⟨Nat.zero_le _, Nat.zero_le _⟩ (fun H locs hP hS => ?_)
      replace hP : zP G [shP G xP] [uP] H := hP
      obtain ⟨r_3, hg, h⟩ := zb1_e h
      refine z_callS (As := [.int ((gA uP 8 l1.toNatClampNeg)), .int r_2]) (rest := []) ⟨hx, hb, hml, hown, hts⟩ (mX3_times l G  hg) (va_cwS 2 hts gX4_countVotes_X3_times rfl rfl rfl ksX3_times ⟨Nat.le_of_ble_eq_true rfl, Nat.le_of_ble_eq_true rfl⟩) hP hD hK hN hS (Nat.le_refl _) [] rfl rfl rfl rfl rfl hl.1 rfl (Nat.le_of_ble_eq_true rfl) dX4_countVotes_45 ⟨Nat.zero_le _, Nat.zero_le _⟩ (fun H locs hP hS => ?_)
      replace hP : zP G [shP G xP] [uP] H := hP
      refine lv_istore_n (lv' := [(2, .int r_3), (0, .ref (xP 0)), (1, .int l1)]) hx hb dX4_countVotes_48 rfl hl (by decide) rfl (fun ls hl => ?_)
      refine lv_iconst (v := 0) hx hb dX4_countVotes_49 (by decide) ?_
      refine lv_istore_n (lv' := [(3, .int ((0 : Int32))), (2, .int r_3), (0, .ref (xP 0)), (1, .int l1)]) hx hb dX4_countVotes_50 rfl hl (by decide) rfl (fun ls hl => ?_)
      exact tlX4_countVotes_51 C0 hK hN hD K22 1000 _ _ _ _ h _ _ hP hS _ (lv_sub hl [2, 3, 1, 0] rfl)
set_option maxRecDepth 20000 in
theorem tlX4_countVotes_2 (C0 : zCtx p s m args meth c cX4_countVotes RX4 wsX4_countVotes 4 none) (hK : zK G s) (hN : zN s) (hD : zD [shP G xP])  : ∀ (n : Nat), ∀ (uP : zSt) (l1 : Int32), lX4_countVotes_2  n uP l1 = some vP → ∀ (H : Heap) (locs : List Loc), zP G [shP G xP] [uP] H → va_S (zA [shP G xP] s.heap.size) s.heap H locs → ∀ ls : Array Slot, lv_has ls 4 [(0, .ref (xP 0)), (1, .int l1)] → W p l e rmX4_countVotes s m args below meth c H locs 0 0 (MQ below (zQ G [shP G xP] [vP] (zA [shP G xP] s.heap.size) none) args s 0 0 (zA [shP G xP] s.heap.size)) (F0 m 2 ls []) := by
  obtain ⟨hx, hb, hr, hml, hown, hts, hlk⟩ := id C0
  have hwX4 : ∀ w ∈ wsX40, w.before args s = true := fun w h => hts w (List.mem_cons_of_mem _ (List.mem_append_right _ h))
  intro n
  induction n with
  | zero => intro uP l1 h; exact absurd h (fun q => nomatch q)
  | succ n K2 =>
    intro uP l1 h H locs hP hS ls hl
    replace h : bX4_countVotes_2  (lX4_countVotes_2  n) uP l1 = some vP := h
    unfold bX4_countVotes_2 at h
    refine lv_iload_n hx hb dX4_countVotes_2 rfl (lv_at hl 1 rfl) ?_
    refine lv_iconst (v := 4) hx hb dX4_countVotes_3 (by decide) ?_
    refine lv_icmp_ge (tgt := 20) hx hb dX4_countVotes_4 (by decide) (fun hc => ?_) (fun hc => ?_)
    · replace h := zt hc h
      refine lv_iconst (v := 0) hx hb dX4_countVotes_20 (by decide) ?_
      refine lv_istore_n (lv' := [(1, .int ((0 : Int32))), (0, .ref (xP 0))]) hx hb dX4_countVotes_21 rfl hl (by decide) rfl (fun ls hl => ?_)
      exact tlX4_countVotes_22 C0 hK hN hD  1000 _ _ h _ _ hP hS _ (lv_sub hl [1, 0] rfl)
    · replace h := zf hc h
      refine lv_aload_n hx hb dX4_countVotes_7 rfl (lv_at hl 0 rfl) ?_
      refine rP_14 hx hb hwX4 hown hK hP 0 (xP) rfl rfl (hts _ (List.mem_of_getElem? (i := 1) rfl)) dX4_countVotes_8 ?_
      refine lv_iload_n hx hb dX4_countVotes_11 rfl (lv_at hl 1 rfl) ?_
      refine lv_iconst (v := 0) hx hb dX4_countVotes_12 (by decide) ?_
      obtain ⟨hi, h⟩ := zin_e h
      refine tP_14 hx hb hK hP hD hS 0 (xP) rfl rfl hi rfl dX4_countVotes_13 (fun H locs hP hS => ?_)
      replace hP : zP G [shP G xP] [(sA uP 14 l1.toNatClampNeg ((0 : Int32)))] H := hP
      refine lv_iinc (v := (l1 + (1 : Int32))) (lv' := [(1, .int ((l1 + (1 : Int32)))), (0, .ref (xP 0))]) hx hb dX4_countVotes_14 hl (k := 1) rfl rfl (by decide) rfl (fun ls hl => ?_)
      refine lv_goto (tgt := 2) hx hb dX4_countVotes_17 (by decide) ?_
      exact K2 _ _ h _ _ hP hS _ (lv_sub hl [1, 0] rfl)
set_option maxRecDepth 20000 in
theorem mX4_countVotes (l : Launch) (G : zG) (xP : Nat → Nat) {uP : zSt} {vP : zSt} (h : fX4_countVotes uP = some vP) : zC l yX4_countVotes wsX4_countVotes rmX4_countVotes [.ref (xP 0)] G [shP G xP] [uP] [vP] none := by
  refine z_ofW (cc := cX4_countVotes) (maxL := 4) (ret := none) (by decide) rfl (Nat.le_of_ble_eq_true rfl) ?_
  intro p e s m args below meth c C0 hK hN hD hP ls hl
  obtain ⟨hx, hb, hr, hml, hown, hts, hlk⟩ := id C0
  have hS : va_S (zA [shP G xP] s.heap.size) s.heap s.heap [] := va_S.rf
  replace hl : lv_has ls 4 [(0, .ref (xP 0))] := hl
  unfold fX4_countVotes at h
  refine lv_iconst (v := 0) hx hb dX4_countVotes_0 (by decide) ?_
  refine lv_istore_n (lv' := [(1, .int ((0 : Int32))), (0, .ref (xP 0))]) hx hb dX4_countVotes_1 rfl hl (by decide) rfl (fun ls hl => ?_)
  exact tlX4_countVotes_2 C0 hK hN hD  1000 _ _ h _ _ hP hS _ (lv_sub hl [1, 0] rfl)
end
def rmX6_phase : Room := { frames := 0, cells := 0, slots := 0, locals := 0 }
theorem kvX6_phase : yX6_phase.cls = RX6 ∧ yX6_phase.cls ≠ "java/lang/invoke/MethodHandle" ∧ yX6_phase.cls ≠ "java/lang/invoke/VarHandle" ∧ (parseMethodDescriptor yX6_phase.desc).map (fun d => d.parameters.length) = some 0 := by decide +kernel
section
variable {p : Program} {l : Launch} {e : Env} {s : State} {m : MethodId} {args : Array Value} {below : List Frame} {meth : Method} {c : Code} {G : zG} {xO : Nat → Nat} {rr : Int32}
set_option maxRecDepth 20000 in
theorem mX6_phase (l : Launch) (G : zG) (xO : Nat → Nat) {uO : zSt} {rr : Int32} (h : fX6_phase uO = some rr) : zC l yX6_phase wsX6_phase rmX6_phase [.ref (xO 0)] G [shO G xO] [uO] [uO] (some (.int rr)) := by
  refine z_ofW (cc := cX6_phase) (maxL := 1) (ret := some .int) (by decide) rfl (Nat.le_of_ble_eq_true rfl) ?_
  intro p e s m args below meth c C0 hK hN hD hP ls hl
  obtain ⟨hx, hb, hr, hml, hown, hts, hlk⟩ := id C0
  have hS : va_S (zA [shO G xO] s.heap.size) s.heap s.heap [] := va_S.rf
  replace hl : lv_has ls 1 [(0, .ref (xO 0))] := hl
  have hwX6 : ∀ w ∈ wsX60, w.before args s = true := fun w h => hts w (List.mem_cons_of_mem _ (List.mem_append_right _ h))
  unfold fX6_phase at h
  refine lv_aload_n hx hb dX6_phase_0 rfl (lv_at hl 0 rfl) ?_
  refine rO_5 hx hb hwX6 hown hK hP 0 (xO) rfl rfl (hts _ (List.mem_of_getElem? (i := 1) rfl)) dX6_phase_1 ?_
  cases h
  exact z_iret hx hb hr hlk hP hS dX6_phase_4
end
def rmX6_records : Room := { frames := 0, cells := 0, slots := 0, locals := 0 }
theorem kvX6_records : yX6_records.cls = RX6 ∧ yX6_records.cls ≠ "java/lang/invoke/MethodHandle" ∧ yX6_records.cls ≠ "java/lang/invoke/VarHandle" ∧ (parseMethodDescriptor yX6_records.desc).map (fun d => d.parameters.length) = some 0 := by decide +kernel
section
variable {p : Program} {l : Launch} {e : Env} {s : State} {m : MethodId} {args : Array Value} {below : List Frame} {meth : Method} {c : Code} {G : zG} {xO : Nat → Nat} {rr : Int32}
set_option maxRecDepth 20000 in
theorem mX6_records (l : Launch) (G : zG) (xO : Nat → Nat) {uO : zSt} {uB : zSt} {rr : Int32} (h : fX6_records uO uB = some rr) : zC l yX6_records wsX6_records rmX6_records [.ref (xO 0)] G [shO G xO, shB G (ad 1 xO)] [uO, uB] [uO, uB] (some (.int rr)) := by
  refine z_ofW (cc := cX6_records) (maxL := 1) (ret := some .int) (by decide) rfl (Nat.le_of_ble_eq_true rfl) ?_
  intro p e s m args below meth c C0 hK hN hD hP ls hl
  obtain ⟨hx, hb, hr, hml, hown, hts, hlk⟩ := id C0
  have hS : va_S (zA [shO G xO, shB G (ad 1 xO)] s.heap.size) s.heap s.heap [] := va_S.rf
  replace hl : lv_has ls 1 [(0, .ref (xO 0))] := hl
  have hwX1 : ∀ w ∈ wsX10, w.before args s = true := fun w h => hts w (List.mem_cons_of_mem _ (List.mem_append_right _ h))
  have hwX6 : ∀ w ∈ wsX60, w.before args s = true := fun w h => hts w (List.mem_cons_of_mem _ (List.mem_append_left _ (List.mem_append_right _ h)))
  unfold fX6_records at h
  refine lv_aload_n hx hb dX6_records_0 rfl (lv_at hl 0 rfl) ?_
  refine rO_0 hx hb hwX6 hown hK hP 0 (xO) rfl rfl (hts _ (List.mem_of_getElem? (i := 1) rfl)) dX6_records_1 ?_
  refine rNB_3 hx hb hwX1 hown hK hP 1 (ad 1 xO) rfl rfl (hN.f (List.mem_of_getElem? (i := 1) rfl)) dX6_records_4 ?_
  cases h
  exact z_iret hx hb hr hlk hP hS dX6_records_7
end
def rmX1_has : Room := { frames := 0, cells := 0, slots := 0, locals := 0 }
theorem kvX1_has : yX1_has.cls = RX1 ∧ yX1_has.cls ≠ "java/lang/invoke/MethodHandle" ∧ yX1_has.cls ≠ "java/lang/invoke/VarHandle" ∧ (parseMethodDescriptor yX1_has.desc).map (fun d => d.parameters.length) = some 1 := by decide +kernel
section
variable {p : Program} {l : Launch} {e : Env} {s : State} {m : MethodId} {args : Array Value} {below : List Frame} {meth : Method} {c : Code} {G : zG} {xB : Nat → Nat} {rr : Int32}
set_option maxRecDepth 20000 in
theorem mX1_has (l : Launch) (G : zG) (xB : Nat → Nat) {uB : zSt} {l1 : Int32} {rr : Int32} (h : fX1_has uB l1 = some rr) : zC l yX1_has wsX1_has rmX1_has [.ref (xB 0), .int l1] G [shB G xB] [uB] [uB] (some (.int rr)) := by
  refine z_ofW (cc := cX1_has) (maxL := 2) (ret := some .boolean) (by decide) rfl (Nat.le_of_ble_eq_true rfl) ?_
  intro p e s m args below meth c C0 hK hN hD hP ls hl
  obtain ⟨hx, hb, hr, hml, hown, hts, hlk⟩ := id C0
  have hS : va_S (zA [shB G xB] s.heap.size) s.heap s.heap [] := va_S.rf
  replace hl : lv_has ls 2 [(0, .ref (xB 0)), (1, .int l1)] := hl
  have hwX1 : ∀ w ∈ wsX10, w.before args s = true := fun w h => hts w (List.mem_cons_of_mem _ (List.mem_append_right _ h))
  unfold fX1_has at h
  refine lv_iload_n hx hb dX1_has_0 rfl (lv_at hl 1 rfl) ?_
  refine lv_if_lt (tgt := 16) hx hb dX1_has_1 (by decide) (fun hc => ?_) (fun hc => ?_)
  · replace h := zt hc h
    refine lv_iconst (v := 0) hx hb dX1_has_16 (by decide) ?_
    cases h
    exact z_zret hx hb hr hlk rfl hP hS dX1_has_17
  · replace h := zf hc h
    refine lv_iload_n hx hb dX1_has_4 rfl (lv_at hl 1 rfl) ?_
    refine lv_aload_n hx hb dX1_has_5 rfl (lv_at hl 0 rfl) ?_
    refine rB_3 hx hb hwX1 hown hK hP 0 (xB) rfl rfl (hts _ (List.mem_of_getElem? (i := 1) rfl)) dX1_has_6 ?_
    refine lv_icmp_ge (tgt := 16) hx hb dX1_has_9 (by decide) (fun hc => ?_) (fun hc => ?_)
    · replace h := zt hc h
      refine lv_iconst (v := 0) hx hb dX1_has_16 (by decide) ?_
      cases h
      exact z_zret hx hb hr hlk rfl hP hS dX1_has_17
    · replace h := zf hc h
      refine lv_iconst (v := 1) hx hb dX1_has_12 (by decide) ?_
      refine lv_goto (tgt := 17) hx hb dX1_has_13 (by decide) ?_
      cases h
      exact z_zret hx hb hr hlk rfl hP hS dX1_has_17
end
def rmX1_number : Room := { frames := 0, cells := 0, slots := 0, locals := 0 }
theorem kvX1_number : yX1_number.cls = RX1 ∧ yX1_number.cls ≠ "java/lang/invoke/MethodHandle" ∧ yX1_number.cls ≠ "java/lang/invoke/VarHandle" ∧ (parseMethodDescriptor yX1_number.desc).map (fun d => d.parameters.length) = some 2 := by decide +kernel
section
variable {p : Program} {l : Launch} {e : Env} {s : State} {m : MethodId} {args : Array Value} {below : List Frame} {meth : Method} {c : Code} {G : zG} {xB : Nat → Nat} {rr : Int32}
set_option maxRecDepth 20000 in
theorem mX1_number (l : Launch) (G : zG) (xB : Nat → Nat) {uB : zSt} {l1 : Int32} {l2 : Int32} {rr : Int32} (h : fX1_number uB l1 l2 = some rr) : zC l yX1_number wsX1_number rmX1_number [.ref (xB 0), .int l1, .int l2] G [shB G xB] [uB] [uB] (some (.int rr)) := by
  refine z_ofW (cc := cX1_number) (maxL := 3) (ret := some .int) (by decide) rfl (Nat.le_of_ble_eq_true rfl) ?_
  intro p e s m args below meth c C0 hK hN hD hP ls hl
  obtain ⟨hx, hb, hr, hml, hown, hts, hlk⟩ := id C0
  have hS : va_S (zA [shB G xB] s.heap.size) s.heap s.heap [] := va_S.rf
  replace hl : lv_has ls 3 [(0, .ref (xB 0)), (1, .int l1), (2, .int l2)] := hl
  have hwX1 : ∀ w ∈ wsX10, w.before args s = true := fun w h => hts w (List.mem_cons_of_mem _ (List.mem_append_right _ h))
  unfold fX1_number at h
  refine lv_aload_n hx hb dX1_number_0 rfl (lv_at hl 0 rfl) ?_
  refine rB_1 hx hb hwX1 hown hK hP 0 (xB) rfl rfl (hts _ (List.mem_of_getElem? (i := 1) rfl)) dX1_number_1 ?_
  refine lv_iload_n hx hb dX1_number_4 rfl (lv_at hl 1 rfl) ?_
  refine lv_bipush (v := 6) hx hb dX1_number_5 (by decide) ?_
  refine lv_imul hx hb dX1_number_7 ?_
  refine lv_iload_n hx hb dX1_number_8 rfl (lv_at hl 2 rfl) ?_
  refine lv_iadd hx hb dX1_number_9 ?_
  obtain ⟨hi, h⟩ := zin_e h
  refine aB_1 hx hb hK hP 0 (xB) rfl rfl hi rfl dX1_number_10 ?_
  cases h
  exact z_iret hx hb hr hlk hP hS dX1_number_11
end
def rmX1_kind : Room := { frames := 0, cells := 0, slots := 0, locals := 0 }
theorem kvX1_kind : yX1_kind.cls = RX1 ∧ yX1_kind.cls ≠ "java/lang/invoke/MethodHandle" ∧ yX1_kind.cls ≠ "java/lang/invoke/VarHandle" ∧ (parseMethodDescriptor yX1_kind.desc).map (fun d => d.parameters.length) = some 1 := by decide +kernel
section
variable {p : Program} {l : Launch} {e : Env} {s : State} {m : MethodId} {args : Array Value} {below : List Frame} {meth : Method} {c : Code} {G : zG} {xB : Nat → Nat} {rr : Int32}
set_option maxRecDepth 20000 in
theorem mX1_kind (l : Launch) (G : zG) (xB : Nat → Nat) {uB : zSt} {l1 : Int32} {rr : Int32} (h : fX1_kind uB l1 = some rr) : zC l yX1_kind wsX1_kind rmX1_kind [.ref (xB 0), .int l1] G [shB G xB] [uB] [uB] (some (.int rr)) := by
  refine z_ofW (cc := cX1_kind) (maxL := 2) (ret := some .int) (by decide) rfl (Nat.le_of_ble_eq_true rfl) ?_
  intro p e s m args below meth c C0 hK hN hD hP ls hl
  obtain ⟨hx, hb, hr, hml, hown, hts, hlk⟩ := id C0
  have hS : va_S (zA [shB G xB] s.heap.size) s.heap s.heap [] := va_S.rf
  replace hl : lv_has ls 2 [(0, .ref (xB 0)), (1, .int l1)] := hl
  have hwX1 : ∀ w ∈ wsX10, w.before args s = true := fun w h => hts w (List.mem_cons_of_mem _ (List.mem_append_right _ h))
  unfold fX1_kind at h
  refine lv_aload_n hx hb dX1_kind_0 rfl (lv_at hl 0 rfl) ?_
  refine rB_0 hx hb hwX1 hown hK hP 0 (xB) rfl rfl (hts _ (List.mem_of_getElem? (i := 1) rfl)) dX1_kind_1 ?_
  refine lv_iload_n hx hb dX1_kind_4 rfl (lv_at hl 1 rfl) ?_
  obtain ⟨hi, h⟩ := zin_e h
  refine aB_0 hx hb hK hP 0 (xB) rfl rfl hi rfl dX1_kind_5 ?_
  cases h
  exact z_iret hx hb hr hlk hP hS dX1_kind_6
end
def rmX0_isZeroFrom : Room := { frames := 1, cells := 0, slots := 0, locals := 22 }
theorem ksX0_isZeroFrom : yX0_isZeroFrom.cls ≠ "java/lang/invoke/MethodHandle" ∧ yX0_isZeroFrom.cls ≠ "java/lang/invoke/VarHandle" ∧ (parseMethodDescriptor yX0_isZeroFrom.desc).map (fun d => d.parameters.length) = some 3 := by decide +kernel
section
variable {p : Program} {l : Launch} {e : Env} {s : State} {m : MethodId} {args : Array Value} {below : List Frame} {meth : Method} {c : Code} {G : zG} {xB : Nat → Nat} {rr : Int32}
set_option maxRecDepth 20000 in
theorem tlX0_isZeroFrom_2 (C0 : zCtx p s m args meth c cX0_isZeroFrom RX0 wsX0_isZeroFrom 4 (some .boolean)) (hK : zK G s) (hN : zN s) (hD : zD [shB G xB])  : ∀ (n : Nat), ∀ (uB : zSt) (l1 : Int32) (l3 : Int32), lX0_isZeroFrom_2  n uB l1 l3 = some rr → ∀ (H : Heap) (locs : List Loc), zP G [shB G xB] [uB] H → va_S (zA [shB G xB] s.heap.size) s.heap H locs → ∀ ls : Array Slot, lv_has ls 4 [(0, .ref (xB 0)), (1, .int l1), (3, .int l3)] → W p l e rmX0_isZeroFrom s m args below meth c H locs 0 0 (MQ below (zQ G [shB G xB] [uB] (zA [shB G xB] s.heap.size) (some (.int rr))) args s 0 0 (zA [shB G xB] s.heap.size)) (F0 m 2 ls []) := by
  obtain ⟨hx, hb, hr, hml, hown, hts, hlk⟩ := id C0
  intro n
  induction n with
  | zero => intro uB l1 l3 h; exact absurd h (fun q => nomatch q)
  | succ n K2 =>
    intro uB l1 l3 h H locs hP hS ls hl
    replace h : bX0_isZeroFrom_2  (lX0_isZeroFrom_2  n) uB l1 l3 = some rr := h
    unfold bX0_isZeroFrom_2 at h
    refine lv_iload_n hx hb dX0_isZeroFrom_2 rfl (lv_at hl 2 rfl) ?_
    refine lv_bipush (v := 6) hx hb dX0_isZeroFrom_3 (by decide) ?_
    refine lv_icmp_ge (tgt := 25) hx hb dX0_isZeroFrom_5 (by decide) (fun hc => ?_) (fun hc => ?_)
    · replace h := zt hc h
      refine lv_iconst (v := 1) hx hb dX0_isZeroFrom_25 (by decide) ?_
      cases h
      exact z_zret hx hb hr hlk rfl hP hS dX0_isZeroFrom_26
    · replace h := zf hc h
      refine lv_aload_n hx hb dX0_isZeroFrom_8 rfl (lv_at hl 0 rfl) ?_
      refine lv_iload_n hx hb dX0_isZeroFrom_9 rfl (lv_at hl 1 rfl) ?_
      refine lv_iload_n hx hb dX0_isZeroFrom_10 rfl (lv_at hl 2 rfl) ?_
      obtain ⟨r_1, hg, h⟩ := zb1_e h
      refine z_callV (As := [.int l1, .int l3]) (rest := []) (i := 0) ⟨hx, hb, hml, hown, hts⟩ (mX1_number l G (xB) hg) (cwV 2 hts gX0_isZeroFrom_X1_number rfl rfl rfl kvX1_number ⟨Nat.le_of_ble_eq_true rfl, Nat.le_of_ble_eq_true rfl⟩) rfl hP hD hK hN hS (Nat.le_refl _) [0] rfl rfl rfl rfl 0 rfl rfl rfl rfl rfl hl.1 rfl (Nat.le_of_ble_eq_true rfl) dX0_isZeroFrom_11 ⟨Nat.zero_le _, Nat.zero_le _⟩ (fun H locs hP hS => ?_)
      replace hP : zP G [shB G xB] [uB] H := hP
      refine lv_if_eq (tgt := 19) hx hb dX0_isZeroFrom_14 (by decide) (fun hc => ?_) (fun hc => ?_)
      · replace h := zt hc h
        refine lv_iinc (v := (l3 + (1 : Int32))) (lv' := [(3, .int ((l3 + (1 : Int32)))), (0, .ref (xB 0)), (1, .int l1)]) hx hb dX0_isZeroFrom_19 hl (k := 2) rfl rfl (by decide) rfl (fun ls hl => ?_)
        refine lv_goto (tgt := 2) hx hb dX0_isZeroFrom_22 (by decide) ?_
        exact K2 _ _ _ h _ _ hP hS _ (lv_sub hl [1, 2, 0] rfl)
      · replace h := zf hc h
        refine lv_iconst (v := 0) hx hb dX0_isZeroFrom_17 (by decide) ?_
        cases h
        exact z_zret hx hb hr hlk rfl hP hS dX0_isZeroFrom_18
set_option maxRecDepth 20000 in
theorem mX0_isZeroFrom (l : Launch) (G : zG) (xB : Nat → Nat) {uB : zSt} {l1 : Int32} {l2 : Int32} {rr : Int32} (h : fX0_isZeroFrom uB l1 l2 = some rr) : zC l yX0_isZeroFrom wsX0_isZeroFrom rmX0_isZeroFrom [.ref (xB 0), .int l1, .int l2] G [shB G xB] [uB] [uB] (some (.int rr)) := by
  refine z_ofW (cc := cX0_isZeroFrom) (maxL := 4) (ret := some .boolean) (by decide) rfl (Nat.le_of_ble_eq_true rfl) ?_
  intro p e s m args below meth c C0 hK hN hD hP ls hl
  obtain ⟨hx, hb, hr, hml, hown, hts, hlk⟩ := id C0
  have hS : va_S (zA [shB G xB] s.heap.size) s.heap s.heap [] := va_S.rf
  replace hl : lv_has ls 4 [(0, .ref (xB 0)), (1, .int l1), (2, .int l2)] := hl
  unfold fX0_isZeroFrom at h
  refine lv_iload_n hx hb dX0_isZeroFrom_0 rfl (lv_at hl 2 rfl) ?_
  refine lv_istore_n (lv' := [(3, .int l2), (0, .ref (xB 0)), (1, .int l1), (2, .int l2)]) hx hb dX0_isZeroFrom_1 rfl hl (by decide) rfl (fun ls hl => ?_)
  exact tlX0_isZeroFrom_2 C0 hK hN hD  1000 _ _ _ h _ _ hP hS _ (lv_sub hl [1, 2, 0] rfl)
end
def rmX0_takesResult : Room := { frames := 3, cells := 0, slots := 0, locals := 67 }
theorem kvX0_takesResult : yX0_takesResult.cls = RX0 ∧ yX0_takesResult.cls ≠ "java/lang/invoke/MethodHandle" ∧ yX0_takesResult.cls ≠ "java/lang/invoke/VarHandle" ∧ (parseMethodDescriptor yX0_takesResult.desc).map (fun d => d.parameters.length) = some 2 := by decide +kernel
section
variable {p : Program} {l : Launch} {e : Env} {s : State} {m : MethodId} {args : Array Value} {below : List Frame} {meth : Method} {c : Code} {G : zG} {xB : Nat → Nat} {xA : Nat → Nat} {rr : Int32} {vA : zSt} {vT : zSt}
set_option maxRecDepth 20000 in
theorem tlX0_takesResult_47 (C0 : zCtx p s m args meth c cX0_takesResult RX0 wsX0_takesResult 4 (some .boolean)) (hK : zK G s) (hN : zN s) (hD : zD [shB G xB, shA G xA, shP G (ad 1 xA)])  : ∀ (n : Nat), ∀ (uB : zSt) (uA : zSt) (uT : zSt) (l2 : Int32) (l3 : Int32), lX0_takesResult_47  n uB uA uT l2 l3 = some (rr, vA, vT) → ∀ (H : Heap) (locs : List Loc), zP G [shB G xB, shA G xA, shP G (ad 1 xA)] [uB, uA, uT] H → va_S (zA [shB G xB, shA G xA, shP G (ad 1 xA)] s.heap.size) s.heap H locs → ∀ ls : Array Slot, lv_has ls 4 [(0, .ref (xA 0)), (1, .ref (xB 0)), (2, .int l2), (3, .int l3)] → W p l e rmX0_takesResult s m args below meth c H locs 0 0 (MQ below (zQ G [shB G xB, shA G xA, shP G (ad 1 xA)] [uB, vA, vT] (zA [shB G xB, shA G xA, shP G (ad 1 xA)] s.heap.size) (some (.int rr))) args s 0 0 (zA [shB G xB, shA G xA, shP G (ad 1 xA)] s.heap.size)) (F0 m 47 ls []) := by
  obtain ⟨hx, hb, hr, hml, hown, hts, hlk⟩ := id C0
  have hwX0 : ∀ w ∈ wsX00, w.before args s = true := fun w h => hts w (List.mem_cons_of_mem _ (List.mem_append_left _ (List.mem_append_left _ (List.mem_append_right _ h))))
  have hwX4 : ∀ w ∈ wsX40, w.before args s = true := fun w h => hts w (List.mem_cons_of_mem _ (List.mem_append_left _ (List.mem_append_right _ h)))
  intro n
  induction n with
  | zero => intro uB uA uT l2 l3 h; exact absurd h (fun q => nomatch q)
  | succ n K47 =>
    intro uB uA uT l2 l3 h H locs hP hS ls hl
    replace h : bX0_takesResult_47  (lX0_takesResult_47  n) uB uA uT l2 l3 = some (rr, vA, vT) := h
    unfold bX0_takesResult_47 at h
    refine lv_iload_n hx hb dX0_takesResult_47 rfl (lv_at hl 3 rfl) ?_
    refine lv_iconst (v := 4) hx hb dX0_takesResult_48 (by decide) ?_
    refine lv_icmp_ge (tgt := 78) hx hb dX0_takesResult_49 (by decide) (fun hc => ?_) (fun hc => ?_)
    · replace h := zt hc h
      refine lv_aload_n hx hb dX0_takesResult_78 rfl (lv_at hl 0 rfl) ?_
      refine lv_iconst (v := 4) hx hb dX0_takesResult_79 (by decide) ?_
      refine pA_1 hx hb hwX0 hown hK hP hD hS 1 (xA) rfl rfl (hts _ (List.mem_of_getElem? (i := 1) rfl)) dX0_takesResult_80 (fun H locs hP hS => ?_)
      replace hP : zP G [shB G xB, shA G xA, shP G (ad 1 xA)] [uB, (sI uA 1 ((4 : Int32))), uT] H := hP
      refine lv_aload_n hx hb dX0_takesResult_83 rfl (lv_at hl 1 rfl) ?_
      refine lv_iload_n hx hb dX0_takesResult_84 rfl (lv_at hl 2 rfl) ?_
      refine lv_iconst (v := 4) hx hb dX0_takesResult_85 (by decide) ?_
      obtain ⟨r_1, hg, h⟩ := zb1_e h
      refine z_callS (As := [.ref (xB 0), .int l2, .int ((4 : Int32))]) (rest := []) ⟨hx, hb, hml, hown, hts⟩ (mX0_isZeroFrom l G (xB) hg) (va_cwS 3 hts gX0_takesResult_X0_isZeroFrom rfl rfl rfl ksX0_isZeroFrom ⟨Nat.le_of_ble_eq_true rfl, Nat.le_of_ble_eq_true rfl⟩) hP hD hK hN hS (Nat.le_refl _) [0] rfl rfl rfl rfl rfl hl.1 rfl (Nat.le_of_ble_eq_true rfl) dX0_takesResult_86 ⟨Nat.zero_le _, Nat.zero_le _⟩ (fun H locs hP hS => ?_)
      replace hP : zP G [shB G xB, shA G xA, shP G (ad 1 xA)] [uB, (sI uA 1 ((4 : Int32))), uT] H := hP
      obtain ⟨hb9, h⟩ := zbl_e h
      cases h
      exact z_zret hx hb hr hlk hb9 hP hS dX0_takesResult_89
    · replace h := zf hc h
      refine lv_aload_n hx hb dX0_takesResult_52 rfl (lv_at hl 1 rfl) ?_
      refine lv_iload_n hx hb dX0_takesResult_53 rfl (lv_at hl 2 rfl) ?_
      refine lv_iload_n hx hb dX0_takesResult_54 rfl (lv_at hl 3 rfl) ?_
      obtain ⟨r_2, hg, h⟩ := zb1_e h
      refine z_callV (As := [.int l2, .int l3]) (rest := []) (i := 0) ⟨hx, hb, hml, hown, hts⟩ (mX1_number l G (xB) hg) (cwV 2 hts gX0_takesResult_X1_number rfl rfl rfl kvX1_number ⟨Nat.le_of_ble_eq_true rfl, Nat.le_of_ble_eq_true rfl⟩) rfl hP hD hK hN hS (Nat.le_refl _) [0] rfl rfl rfl rfl 0 rfl rfl rfl rfl rfl hl.1 rfl (Nat.le_of_ble_eq_true rfl) dX0_takesResult_55 ⟨Nat.zero_le _, Nat.zero_le _⟩ (fun H locs hP hS => ?_)
      replace hP : zP G [shB G xB, shA G xA, shP G (ad 1 xA)] [uB, uA, uT] H := hP
      refine lv_aload_n hx hb dX0_takesResult_58 rfl (lv_at hl 0 rfl) ?_
      refine rA_0 hx hb hwX0 hown hK hP 1 (xA) rfl rfl (hts _ (List.mem_of_getElem? (i := 2) rfl)) dX0_takesResult_59 ?_
      refine rNP_14 hx hb hwX4 hown hK hP 2 (ad 1 xA) rfl rfl (hN.f (List.mem_of_getElem? (i := 16) rfl)) dX0_takesResult_62 ?_
      refine lv_iload_n hx hb dX0_takesResult_65 rfl (lv_at hl 3 rfl) ?_
      obtain ⟨hi, h⟩ := zin_e h
      refine aP_14 hx hb hK hP 2 (ad 1 xA) rfl rfl hi rfl dX0_takesResult_66 ?_
      refine lv_icmp_eq (tgt := 72) hx hb dX0_takesResult_67 (by decide) (fun hc => ?_) (fun hc => ?_)
      · replace h := zt hc h
        refine lv_iinc (v := (l3 + (1 : Int32))) (lv' := [(3, .int ((l3 + (1 : Int32)))), (0, .ref (xA 0)), (1, .ref (xB 0)), (2, .int l2)]) hx hb dX0_takesResult_72 hl (k := 3) rfl rfl (by decide) rfl (fun ls hl => ?_)
        refine lv_goto (tgt := 47) hx hb dX0_takesResult_75 (by decide) ?_
        exact K47 _ _ _ _ _ h _ _ hP hS _ (lv_sub hl [1, 2, 3, 0] rfl)
      · replace h := zf hc h
        refine lv_iconst (v := 0) hx hb dX0_takesResult_70 (by decide) ?_
        cases h
        exact z_zret hx hb hr hlk rfl hP hS dX0_takesResult_71
set_option maxRecDepth 20000 in
theorem tX0_takesResult_38 (C0 : zCtx p s m args meth c cX0_takesResult RX0 wsX0_takesResult 4 (some .boolean)) (hK : zK G s) (hN : zN s) (hD : zD [shB G xB, shA G xA, shP G (ad 1 xA)])  : ∀ (uB : zSt) (uA : zSt) (uT : zSt) (l2 : Int32), bX0_takesResult_38  uB uA uT l2 = some (rr, vA, vT) → ∀ (H : Heap) (locs : List Loc), zP G [shB G xB, shA G xA, shP G (ad 1 xA)] [uB, uA, uT] H → va_S (zA [shB G xB, shA G xA, shP G (ad 1 xA)] s.heap.size) s.heap H locs → ∀ ls : Array Slot, lv_has ls 4 [(0, .ref (xA 0)), (1, .ref (xB 0)), (2, .int l2)] → W p l e rmX0_takesResult s m args below meth c H locs 0 0 (MQ below (zQ G [shB G xB, shA G xA, shP G (ad 1 xA)] [uB, vA, vT] (zA [shB G xB, shA G xA, shP G (ad 1 xA)] s.heap.size) (some (.int rr))) args s 0 0 (zA [shB G xB, shA G xA, shP G (ad 1 xA)] s.heap.size)) (F0 m 38 ls []) := by
  obtain ⟨hx, hb, hr, hml, hown, hts, hlk⟩ := id C0
  have hwX0 : ∀ w ∈ wsX00, w.before args s = true := fun w h => hts w (List.mem_cons_of_mem _ (List.mem_append_left _ (List.mem_append_left _ (List.mem_append_right _ h))))
  intro uB uA uT l2 h H locs hP hS ls hl
  unfold bX0_takesResult_38 at h
  refine lv_aload_n hx hb dX0_takesResult_38 rfl (lv_at hl 0 rfl) ?_
  refine rA_0 hx hb hwX0 hown hK hP 1 (xA) rfl rfl (hts _ (List.mem_of_getElem? (i := 2) rfl)) dX0_takesResult_39 ?_
  obtain ⟨uT_3, hg, h⟩ := zb1_e h
  refine z_callV (As := []) (rest := []) (i := 0) ⟨hx, hb, hml, hown, hts⟩ (mX4_countVotes l G (ad 1 xA) hg) (cwV 0 hts gX0_takesResult_X4_countVotes rfl rfl rfl kvX4_countVotes ⟨Nat.le_of_ble_eq_true rfl, Nat.le_of_ble_eq_true rfl⟩) rfl hP hD hK hN hS (Nat.le_refl _) [2] rfl rfl rfl rfl 2 rfl rfl rfl rfl rfl hl.1 rfl (Nat.le_of_ble_eq_true rfl) dX0_takesResult_42 ⟨Nat.zero_le _, Nat.zero_le _⟩ (fun H locs hP hS => ?_)
  replace hP : zP G [shB G xB, shA G xA, shP G (ad 1 xA)] [uB, uA, uT_3] H := hP
  refine lv_iconst (v := 0) hx hb dX0_takesResult_45 (by decide) ?_
  refine lv_istore_n (lv' := [(3, .int ((0 : Int32))), (0, .ref (xA 0)), (1, .ref (xB 0)), (2, .int l2)]) hx hb dX0_takesResult_46 rfl hl (by decide) rfl (fun ls hl => ?_)
  exact tlX0_takesResult_47 C0 hK hN hD  1000 _ _ _ _ _ h _ _ hP hS _ (lv_sub hl [1, 2, 3, 0] rfl)
set_option maxRecDepth 20000 in
theorem tX0_takesResult_16 (C0 : zCtx p s m args meth c cX0_takesResult RX0 wsX0_takesResult 4 (some .boolean)) (hK : zK G s) (hN : zN s) (hD : zD [shB G xB, shA G xA, shP G (ad 1 xA)])  : ∀ (uB : zSt) (uA : zSt) (uT : zSt) (l2 : Int32), bX0_takesResult_16  uB uA uT l2 = some (rr, vA, vT) → ∀ (H : Heap) (locs : List Loc), zP G [shB G xB, shA G xA, shP G (ad 1 xA)] [uB, uA, uT] H → va_S (zA [shB G xB, shA G xA, shP G (ad 1 xA)] s.heap.size) s.heap H locs → ∀ ls : Array Slot, lv_has ls 4 [(0, .ref (xA 0)), (1, .ref (xB 0)), (2, .int l2)] → W p l e rmX0_takesResult s m args below meth c H locs 0 0 (MQ below (zQ G [shB G xB, shA G xA, shP G (ad 1 xA)] [uB, vA, vT] (zA [shB G xB, shA G xA, shP G (ad 1 xA)] s.heap.size) (some (.int rr))) args s 0 0 (zA [shB G xB, shA G xA, shP G (ad 1 xA)] s.heap.size)) (F0 m 16 ls []) := by
  obtain ⟨hx, hb, hr, hml, hown, hts, hlk⟩ := id C0
  have hwX0 : ∀ w ∈ wsX00, w.before args s = true := fun w h => hts w (List.mem_cons_of_mem _ (List.mem_append_left _ (List.mem_append_left _ (List.mem_append_right _ h))))
  have hwX4 : ∀ w ∈ wsX40, w.before args s = true := fun w h => hts w (List.mem_cons_of_mem _ (List.mem_append_left _ (List.mem_append_right _ h)))
  intro uB uA uT l2 h H locs hP hS ls hl
  unfold bX0_takesResult_16 at h
  refine lv_aload_n hx hb dX0_takesResult_16 rfl (lv_at hl 0 rfl) ?_
  refine rA_0 hx hb hwX0 hown hK hP 1 (xA) rfl rfl (hts _ (List.mem_of_getElem? (i := 2) rfl)) dX0_takesResult_17 ?_
  refine rNP_6 hx hb hwX4 hown hK hP 2 (ad 1 xA) rfl rfl (hN.f (List.mem_of_getElem? (i := 8) rfl)) dX0_takesResult_20 ?_
  refine lv_if_eq (tgt := 38) hx hb dX0_takesResult_23 (by decide) (fun hc => ?_) (fun hc => ?_)
  · replace h := zt hc h
    exact tX0_takesResult_38 C0 hK hN hD  _ _ _ _ h _ _ hP hS _ (lv_sub hl [0, 1, 2] rfl)
  · replace h := zf hc h
    refine lv_aload_n hx hb dX0_takesResult_26 rfl (lv_at hl 0 rfl) ?_
    refine rA_0 hx hb hwX0 hown hK hP 1 (xA) rfl rfl (hts _ (List.mem_of_getElem? (i := 2) rfl)) dX0_takesResult_27 ?_
    obtain ⟨r_4, hg, h⟩ := zb1_e h
    refine z_callV (As := []) (rest := []) (i := 0) ⟨hx, hb, hml, hown, hts⟩ (mX4_allOpened l G (ad 1 xA) hg) (cwV 0 hts gX0_takesResult_X4_allOpened rfl rfl rfl kvX4_allOpened ⟨Nat.le_of_ble_eq_true rfl, Nat.le_of_ble_eq_true rfl⟩) rfl hP hD hK hN hS (Nat.le_refl _) [2] rfl rfl rfl rfl 2 rfl rfl rfl rfl rfl hl.1 rfl (Nat.le_of_ble_eq_true rfl) dX0_takesResult_30 ⟨Nat.zero_le _, Nat.zero_le _⟩ (fun H locs hP hS => ?_)
    replace hP : zP G [shB G xB, shA G xA, shP G (ad 1 xA)] [uB, uA, uT] H := hP
    refine lv_if_ne (tgt := 38) hx hb dX0_takesResult_33 (by decide) (fun hc => ?_) (fun hc => ?_)
    · replace h := zf hc h
      exact tX0_takesResult_38 C0 hK hN hD  _ _ _ _ h _ _ hP hS _ (lv_sub hl [0, 1, 2] rfl)
    · replace h := zt hc h
      refine lv_iconst (v := 0) hx hb dX0_takesResult_36 (by decide) ?_
      cases h
      exact z_zret hx hb hr hlk rfl hP hS dX0_takesResult_37
set_option maxRecDepth 20000 in
theorem mX0_takesResult (l : Launch) (G : zG) (xB : Nat → Nat) (xA : Nat → Nat) {uB : zSt} {uA : zSt} {uT : zSt} {l2 : Int32} {rr : Int32} {vA : zSt} {vT : zSt} (h : fX0_takesResult uB uA uT l2 = some (rr, vA, vT)) : zC l yX0_takesResult wsX0_takesResult rmX0_takesResult [.ref (xA 0), .ref (xB 0), .int l2] G [shB G xB, shA G xA, shP G (ad 1 xA)] [uB, uA, uT] [uB, vA, vT] (some (.int rr)) := by
  refine z_ofW (cc := cX0_takesResult) (maxL := 4) (ret := some .boolean) (by decide) rfl (Nat.le_of_ble_eq_true rfl) ?_
  intro p e s m args below meth c C0 hK hN hD hP ls hl
  obtain ⟨hx, hb, hr, hml, hown, hts, hlk⟩ := id C0
  have hS : va_S (zA [shB G xB, shA G xA, shP G (ad 1 xA)] s.heap.size) s.heap s.heap [] := va_S.rf
  replace hl : lv_has ls 4 [(0, .ref (xA 0)), (1, .ref (xB 0)), (2, .int l2)] := hl
  have hwX0 : ∀ w ∈ wsX00, w.before args s = true := fun w h => hts w (List.mem_cons_of_mem _ (List.mem_append_left _ (List.mem_append_left _ (List.mem_append_right _ h))))
  unfold fX0_takesResult at h
  refine lv_aload_n hx hb dX0_takesResult_0 rfl (lv_at hl 0 rfl) ?_
  refine rA_1 hx hb hwX0 hown hK hP 1 (xA) rfl rfl (hts _ (List.mem_of_getElem? (i := 1) rfl)) dX0_takesResult_1 ?_
  refine lv_iconst (v := 2) hx hb dX0_takesResult_4 (by decide) ?_
  refine lv_icmp_eq (tgt := 16) hx hb dX0_takesResult_5 (by decide) (fun hc => ?_) (fun hc => ?_)
  · replace h := zt hc h
    exact tX0_takesResult_16 C0 hK hN hD  _ _ _ _ h _ _ hP hS _ (lv_sub hl [0, 1, 2] rfl)
  · replace h := zf hc h
    refine lv_aload_n hx hb dX0_takesResult_8 rfl (lv_at hl 0 rfl) ?_
    refine rA_1 hx hb hwX0 hown hK hP 1 (xA) rfl rfl (hts _ (List.mem_of_getElem? (i := 1) rfl)) dX0_takesResult_9 ?_
    refine lv_iconst (v := 3) hx hb dX0_takesResult_12 (by decide) ?_
    refine lv_icmp_ne (tgt := 36) hx hb dX0_takesResult_13 (by decide) (fun hc => ?_) (fun hc => ?_)
    · replace h := zf hc h
      refine lv_iconst (v := 0) hx hb dX0_takesResult_36 (by decide) ?_
      cases h
      exact z_zret hx hb hr hlk rfl hP hS dX0_takesResult_37
    · replace h := zt hc h
      exact tX0_takesResult_16 C0 hK hN hD  _ _ _ _ h _ _ hP hS _ (lv_sub hl [0, 1, 2] rfl)
end
def rmX3_isElement : Room := { frames := 1, cells := 0, slots := 0, locals := 24 }
theorem ksX3_isElement : yX3_isElement.cls ≠ "java/lang/invoke/MethodHandle" ∧ yX3_isElement.cls ≠ "java/lang/invoke/VarHandle" ∧ (parseMethodDescriptor yX3_isElement.desc).map (fun d => d.parameters.length) = some 1 := by decide +kernel
section
variable {p : Program} {l : Launch} {e : Env} {s : State} {m : MethodId} {args : Array Value} {below : List Frame} {meth : Method} {c : Code} {G : zG}  {rr : Int32}
set_option maxRecDepth 20000 in
theorem mX3_isElement (l : Launch) (G : zG)  {l0 : Int32} {rr : Int32} (h : fX3_isElement l0 = some rr) : zC l yX3_isElement wsX3_isElement rmX3_isElement [.int l0] G [] [] [] (some (.int rr)) := by
  refine z_ofW (cc := cX3_isElement) (maxL := 1) (ret := some .boolean) (by decide) rfl (Nat.le_of_ble_eq_true rfl) ?_
  intro p e s m args below meth c C0 hK hN hD hP ls hl
  obtain ⟨hx, hb, hr, hml, hown, hts, hlk⟩ := id C0
  have hS : va_S (zA [] s.heap.size) s.heap s.heap [] := va_S.rf
  replace hl : lv_has ls 1 [(0, .int l0)] := hl
  unfold fX3_isElement at h
  refine lv_iload_n hx hb dX3_isElement_0 rfl (lv_at hl 0 rfl) ?_
  refine lv_iconst (v := 1) hx hb dX3_isElement_1 (by decide) ?_
  refine lv_icmp_lt (tgt := 27) hx hb dX3_isElement_2 (by decide) (fun hc => ?_) (fun hc => ?_)
  · replace h := zt hc h
    refine lv_iconst (v := 0) hx hb dX3_isElement_27 (by decide) ?_
    cases h
    exact z_zret hx hb hr hlk rfl hP hS dX3_isElement_28
  · replace h := zf hc h
    refine lv_iload_n hx hb dX3_isElement_5 rfl (lv_at hl 0 rfl) ?_
    refine lv_sipush (v := 4079) hx hb dX3_isElement_6 (by decide) ?_
    refine lv_icmp_ge (tgt := 27) hx hb dX3_isElement_9 (by decide) (fun hc => ?_) (fun hc => ?_)
    · replace h := zt hc h
      refine lv_iconst (v := 0) hx hb dX3_isElement_27 (by decide) ?_
      cases h
      exact z_zret hx hb hr hlk rfl hP hS dX3_isElement_28
    · replace h := zf hc h
      refine lv_iload_n hx hb dX3_isElement_12 rfl (lv_at hl 0 rfl) ?_
      refine lv_sipush (v := 2039) hx hb dX3_isElement_13 (by decide) ?_
      obtain ⟨r_1, hg, h⟩ := zb1_e h
      refine z_callS (As := [.int l0, .int ((2039 : Int32))]) (rest := []) ⟨hx, hb, hml, hown, hts⟩ (mX3_power l G  hg) (va_cwS 2 hts gX3_isElement_X3_power rfl rfl rfl ksX3_power ⟨Nat.le_of_ble_eq_true rfl, Nat.le_of_ble_eq_true rfl⟩) hP hD hK hN hS (Nat.le_refl _) [] rfl rfl rfl rfl rfl hl.1 rfl (Nat.le_of_ble_eq_true rfl) dX3_isElement_16 ⟨Nat.zero_le _, Nat.zero_le _⟩ (fun H locs hP hS => ?_)
      replace hP : zP G [] [] H := hP
      refine lv_iconst (v := 1) hx hb dX3_isElement_19 (by decide) ?_
      refine lv_icmp_ne (tgt := 27) hx hb dX3_isElement_20 (by decide) (fun hc => ?_) (fun hc => ?_)
      · replace h := zf hc h
        refine lv_iconst (v := 0) hx hb dX3_isElement_27 (by decide) ?_
        cases h
        exact z_zret hx hb hr hlk rfl hP hS dX3_isElement_28
      · replace h := zt hc h
        refine lv_iconst (v := 1) hx hb dX3_isElement_23 (by decide) ?_
        refine lv_goto (tgt := 28) hx hb dX3_isElement_24 (by decide) ?_
        cases h
        exact z_zret hx hb hr hlk rfl hP hS dX3_isElement_28
end
def rmX0_provesShare : Room := { frames := 2, cells := 0, slots := 0, locals := 49 }
theorem kvX0_provesShare : yX0_provesShare.cls = RX0 ∧ yX0_provesShare.cls ≠ "java/lang/invoke/MethodHandle" ∧ yX0_provesShare.cls ≠ "java/lang/invoke/VarHandle" ∧ (parseMethodDescriptor yX0_provesShare.desc).map (fun d => d.parameters.length) = some 4 := by decide +kernel
section
variable {p : Program} {l : Launch} {e : Env} {s : State} {m : MethodId} {args : Array Value} {below : List Frame} {meth : Method} {c : Code} {G : zG} {xB : Nat → Nat} {xA : Nat → Nat} {rr : Int32}
set_option maxRecDepth 20000 in
theorem mX0_provesShare (l : Launch) (G : zG) (xB : Nat → Nat) (xA : Nat → Nat) {uB : zSt} {uA : zSt} {uT : zSt} {l2 : Int32} {l3 : Int32} {l4 : Int32} {rr : Int32} (h : fX0_provesShare uB uA uT l2 l3 l4 = some rr) : zC l yX0_provesShare wsX0_provesShare rmX0_provesShare [.ref (xA 0), .ref (xB 0), .int l2, .int l3, .int l4] G [shB G xB, shA G xA, shP G (ad 1 xA)] [uB, uA, uT] [uB, uA, uT] (some (.int rr)) := by
  refine z_ofW (cc := cX0_provesShare) (maxL := 12) (ret := some .boolean) (by decide) rfl (Nat.le_of_ble_eq_true rfl) ?_
  intro p e s m args below meth c C0 hK hN hD hP ls hl
  obtain ⟨hx, hb, hr, hml, hown, hts, hlk⟩ := id C0
  have hS : va_S (zA [shB G xB, shA G xA, shP G (ad 1 xA)] s.heap.size) s.heap s.heap [] := va_S.rf
  replace hl : lv_has ls 12 [(0, .ref (xA 0)), (1, .ref (xB 0)), (2, .int l2), (3, .int l3), (4, .int l4)] := hl
  have hwX0 : ∀ w ∈ wsX00, w.before args s = true := fun w h => hts w (List.mem_cons_of_mem _ (List.mem_append_left _ (List.mem_append_left _ (List.mem_append_right _ h))))
  have hwX4 : ∀ w ∈ wsX40, w.before args s = true := fun w h => hts w (List.mem_cons_of_mem _ (List.mem_append_left _ (List.mem_append_right _ h)))
  unfold fX0_provesShare at h
  refine lv_aload_n hx hb dX0_provesShare_0 rfl (lv_at hl 1 rfl) ?_
  refine lv_iload_n hx hb dX0_provesShare_1 rfl (lv_at hl 2 rfl) ?_
  refine lv_iconst (v := 2) hx hb dX0_provesShare_2 (by decide) ?_
  obtain ⟨r_1, hg, h⟩ := zb1_e h
  refine z_callV (As := [.int l2, .int ((2 : Int32))]) (rest := []) (i := 0) ⟨hx, hb, hml, hown, hts⟩ (mX1_number l G (xB) hg) (cwV 2 hts gX0_provesShare_X1_number rfl rfl rfl kvX1_number ⟨Nat.le_of_ble_eq_true rfl, Nat.le_of_ble_eq_true rfl⟩) rfl hP hD hK hN hS (Nat.le_refl _) [0] rfl rfl rfl rfl 0 rfl rfl rfl rfl rfl hl.1 rfl (Nat.le_of_ble_eq_true rfl) dX0_provesShare_3 ⟨Nat.zero_le _, Nat.zero_le _⟩ (fun H locs hP hS => ?_)
  replace hP : zP G [shB G xB, shA G xA, shP G (ad 1 xA)] [uB, uA, uT] H := hP
  refine lv_istore (lv' := [(5, .int r_1), (0, .ref (xA 0)), (1, .ref (xB 0)), (2, .int l2), (3, .int l3), (4, .int l4)]) hx hb dX0_provesShare_6 hl (by decide) rfl (fun ls hl => ?_)
  refine lv_aload_n hx hb dX0_provesShare_8 rfl (lv_at hl 2 rfl) ?_
  refine lv_iload_n hx hb dX0_provesShare_9 rfl (lv_at hl 3 rfl) ?_
  refine lv_iconst (v := 3) hx hb dX0_provesShare_10 (by decide) ?_
  obtain ⟨r_2, hg, h⟩ := zb1_e h
  refine z_callV (As := [.int l2, .int ((3 : Int32))]) (rest := []) (i := 0) ⟨hx, hb, hml, hown, hts⟩ (mX1_number l G (xB) hg) (cwV 2 hts gX0_provesShare_X1_number rfl rfl rfl kvX1_number ⟨Nat.le_of_ble_eq_true rfl, Nat.le_of_ble_eq_true rfl⟩) rfl hP hD hK hN hS (Nat.le_refl _) [0] rfl rfl rfl rfl 0 rfl rfl rfl rfl rfl hl.1 rfl (Nat.le_of_ble_eq_true rfl) dX0_provesShare_11 ⟨Nat.zero_le _, Nat.zero_le _⟩ (fun H locs hP hS => ?_)
  replace hP : zP G [shB G xB, shA G xA, shP G (ad 1 xA)] [uB, uA, uT] H := hP
  refine lv_istore (lv' := [(6, .int r_2), (5, .int r_1), (0, .ref (xA 0)), (1, .ref (xB 0)), (2, .int l2), (3, .int l3), (4, .int l4)]) hx hb dX0_provesShare_14 hl (by decide) rfl (fun ls hl => ?_)
  refine lv_aload_n hx hb dX0_provesShare_16 rfl (lv_at hl 3 rfl) ?_
  refine lv_iload_n hx hb dX0_provesShare_17 rfl (lv_at hl 4 rfl) ?_
  refine lv_iconst (v := 4) hx hb dX0_provesShare_18 (by decide) ?_
  obtain ⟨r_3, hg, h⟩ := zb1_e h
  refine z_callV (As := [.int l2, .int ((4 : Int32))]) (rest := []) (i := 0) ⟨hx, hb, hml, hown, hts⟩ (mX1_number l G (xB) hg) (cwV 2 hts gX0_provesShare_X1_number rfl rfl rfl kvX1_number ⟨Nat.le_of_ble_eq_true rfl, Nat.le_of_ble_eq_true rfl⟩) rfl hP hD hK hN hS (Nat.le_refl _) [0] rfl rfl rfl rfl 0 rfl rfl rfl rfl rfl hl.1 rfl (Nat.le_of_ble_eq_true rfl) dX0_provesShare_19 ⟨Nat.zero_le _, Nat.zero_le _⟩ (fun H locs hP hS => ?_)
  replace hP : zP G [shB G xB, shA G xA, shP G (ad 1 xA)] [uB, uA, uT] H := hP
  refine lv_istore (lv' := [(7, .int r_3), (6, .int r_2), (5, .int r_1), (0, .ref (xA 0)), (1, .ref (xB 0)), (2, .int l2), (3, .int l3), (4, .int l4)]) hx hb dX0_provesShare_22 hl (by decide) rfl (fun ls hl => ?_)
  refine lv_aload_n hx hb dX0_provesShare_24 rfl (lv_at hl 4 rfl) ?_
  refine lv_iload_n hx hb dX0_provesShare_25 rfl (lv_at hl 5 rfl) ?_
  refine lv_iconst (v := 5) hx hb dX0_provesShare_26 (by decide) ?_
  obtain ⟨r_4, hg, h⟩ := zb1_e h
  refine z_callV (As := [.int l2, .int ((5 : Int32))]) (rest := []) (i := 0) ⟨hx, hb, hml, hown, hts⟩ (mX1_number l G (xB) hg) (cwV 2 hts gX0_provesShare_X1_number rfl rfl rfl kvX1_number ⟨Nat.le_of_ble_eq_true rfl, Nat.le_of_ble_eq_true rfl⟩) rfl hP hD hK hN hS (Nat.le_refl _) [0] rfl rfl rfl rfl 0 rfl rfl rfl rfl rfl hl.1 rfl (Nat.le_of_ble_eq_true rfl) dX0_provesShare_27 ⟨Nat.zero_le _, Nat.zero_le _⟩ (fun H locs hP hS => ?_)
  replace hP : zP G [shB G xB, shA G xA, shP G (ad 1 xA)] [uB, uA, uT] H := hP
  refine lv_istore (lv' := [(8, .int r_4), (7, .int r_3), (6, .int r_2), (5, .int r_1), (0, .ref (xA 0)), (1, .ref (xB 0)), (2, .int l2), (3, .int l3), (4, .int l4)]) hx hb dX0_provesShare_30 hl (by decide) rfl (fun ls hl => ?_)
  refine lv_iload hx hb dX0_provesShare_32 (lv_at hl 3 rfl) ?_
  obtain ⟨r_5, hg, h⟩ := zb1_e h
  refine z_callS (As := [.int r_1]) (rest := []) ⟨hx, hb, hml, hown, hts⟩ (mX3_isElement l G  hg) (va_cwS 1 hts gX0_provesShare_X3_isElement rfl rfl rfl ksX3_isElement ⟨Nat.le_of_ble_eq_true rfl, Nat.le_of_ble_eq_true rfl⟩) hP hD hK hN hS (Nat.le_refl _) [] rfl rfl rfl rfl rfl hl.1 rfl (Nat.le_of_ble_eq_true rfl) dX0_provesShare_34 ⟨Nat.zero_le _, Nat.zero_le _⟩ (fun H locs hP hS => ?_)
  replace hP : zP G [shB G xB, shA G xA, shP G (ad 1 xA)] [uB, uA, uT] H := hP
  refine lv_if_eq (tgt := 64) hx hb dX0_provesShare_37 (by decide) (fun hc => ?_) (fun hc => ?_)
  · replace h := zt hc h
    refine lv_iconst (v := 0) hx hb dX0_provesShare_64 (by decide) ?_
    cases h
    exact z_zret hx hb hr hlk rfl hP hS dX0_provesShare_65
  · replace h := zf hc h
    refine lv_iload hx hb dX0_provesShare_40 (lv_at hl 2 rfl) ?_
    obtain ⟨r_6, hg, h⟩ := zb1_e h
    refine z_callS (As := [.int r_2]) (rest := []) ⟨hx, hb, hml, hown, hts⟩ (mX3_isNumber l G  hg) (va_cwS 1 hts gX0_provesShare_X3_isNumber rfl rfl rfl ksX3_isNumber ⟨Nat.le_of_ble_eq_true rfl, Nat.le_of_ble_eq_true rfl⟩) hP hD hK hN hS (Nat.le_refl _) [] rfl rfl rfl rfl rfl hl.1 rfl (Nat.le_of_ble_eq_true rfl) dX0_provesShare_42 ⟨Nat.zero_le _, Nat.zero_le _⟩ (fun H locs hP hS => ?_)
    replace hP : zP G [shB G xB, shA G xA, shP G (ad 1 xA)] [uB, uA, uT] H := hP
    refine lv_if_eq (tgt := 64) hx hb dX0_provesShare_45 (by decide) (fun hc => ?_) (fun hc => ?_)
    · replace h := zt hc h
      refine lv_iconst (v := 0) hx hb dX0_provesShare_64 (by decide) ?_
      cases h
      exact z_zret hx hb hr hlk rfl hP hS dX0_provesShare_65
    · replace h := zf hc h
      refine lv_iload hx hb dX0_provesShare_48 (lv_at hl 1 rfl) ?_
      obtain ⟨r_7, hg, h⟩ := zb1_e h
      refine z_callS (As := [.int r_3]) (rest := []) ⟨hx, hb, hml, hown, hts⟩ (mX3_isElement l G  hg) (va_cwS 1 hts gX0_provesShare_X3_isElement rfl rfl rfl ksX3_isElement ⟨Nat.le_of_ble_eq_true rfl, Nat.le_of_ble_eq_true rfl⟩) hP hD hK hN hS (Nat.le_refl _) [] rfl rfl rfl rfl rfl hl.1 rfl (Nat.le_of_ble_eq_true rfl) dX0_provesShare_50 ⟨Nat.zero_le _, Nat.zero_le _⟩ (fun H locs hP hS => ?_)
      replace hP : zP G [shB G xB, shA G xA, shP G (ad 1 xA)] [uB, uA, uT] H := hP
      refine lv_if_eq (tgt := 64) hx hb dX0_provesShare_53 (by decide) (fun hc => ?_) (fun hc => ?_)
      · replace h := zt hc h
        refine lv_iconst (v := 0) hx hb dX0_provesShare_64 (by decide) ?_
        cases h
        exact z_zret hx hb hr hlk rfl hP hS dX0_provesShare_65
      · replace h := zf hc h
        refine lv_iload hx hb dX0_provesShare_56 (lv_at hl 0 rfl) ?_
        obtain ⟨r_8, hg, h⟩ := zb1_e h
        refine z_callS (As := [.int r_4]) (rest := []) ⟨hx, hb, hml, hown, hts⟩ (mX3_isElement l G  hg) (va_cwS 1 hts gX0_provesShare_X3_isElement rfl rfl rfl ksX3_isElement ⟨Nat.le_of_ble_eq_true rfl, Nat.le_of_ble_eq_true rfl⟩) hP hD hK hN hS (Nat.le_refl _) [] rfl rfl rfl rfl rfl hl.1 rfl (Nat.le_of_ble_eq_true rfl) dX0_provesShare_58 ⟨Nat.zero_le _, Nat.zero_le _⟩ (fun H locs hP hS => ?_)
        replace hP : zP G [shB G xB, shA G xA, shP G (ad 1 xA)] [uB, uA, uT] H := hP
        refine lv_if_ne (tgt := 66) hx hb dX0_provesShare_61 (by decide) (fun hc => ?_) (fun hc => ?_)
        · replace h := zf hc h
          refine lv_aload_n hx hb dX0_provesShare_66 rfl (lv_at hl 4 rfl) ?_
          refine rA_0 hx hb hwX0 hown hK hP 1 (xA) rfl rfl (hts _ (List.mem_of_getElem? (i := 1) rfl)) dX0_provesShare_67 ?_
          refine rNP_0 hx hb hwX4 hown hK hP 2 (ad 1 xA) rfl rfl (hN.f (List.mem_of_getElem? (i := 3) rfl)) dX0_provesShare_70 ?_
          refine lv_iload_n hx hb dX0_provesShare_73 rfl (lv_at hl 7 rfl) ?_
          obtain ⟨hi, h⟩ := zin_e h
          refine aP_0 hx hb hK hP 2 (ad 1 xA) rfl rfl hi rfl dX0_provesShare_74 ?_
          refine lv_istore (lv' := [(9, .int ((gA uT 0 l3.toNatClampNeg))), (8, .int r_4), (7, .int r_3), (6, .int r_2), (5, .int r_1), (0, .ref (xA 0)), (1, .ref (xB 0)), (2, .int l2), (3, .int l3), (4, .int l4)]) hx hb dX0_provesShare_75 hl (by decide) rfl (fun ls hl => ?_)
          refine lv_aload_n hx hb dX0_provesShare_77 rfl (lv_at hl 5 rfl) ?_
          refine rA_0 hx hb hwX0 hown hK hP 1 (xA) rfl rfl (hts _ (List.mem_of_getElem? (i := 1) rfl)) dX0_provesShare_78 ?_
          refine rNP_7 hx hb hwX4 hown hK hP 2 (ad 1 xA) rfl rfl (hN.f (List.mem_of_getElem? (i := 9) rfl)) dX0_provesShare_81 ?_
          refine lv_iload hx hb dX0_provesShare_84 (lv_at hl 9 rfl) ?_
          obtain ⟨hi, h⟩ := zin_e h
          refine aP_7 hx hb hK hP 2 (ad 1 xA) rfl rfl hi rfl dX0_provesShare_86 ?_
          refine lv_istore (lv' := [(10, .int ((gA uT 7 l4.toNatClampNeg))), (9, .int ((gA uT 0 l3.toNatClampNeg))), (8, .int r_4), (7, .int r_3), (6, .int r_2), (5, .int r_1), (0, .ref (xA 0)), (1, .ref (xB 0)), (2, .int l2), (3, .int l3), (4, .int l4)]) hx hb dX0_provesShare_87 hl (by decide) rfl (fun ls hl => ?_)
          refine lv_iload hx hb dX0_provesShare_89 (lv_at hl 1 rfl) ?_
          refine lv_iload hx hb dX0_provesShare_91 (lv_at hl 0 rfl) ?_
          refine lv_iload hx hb dX0_provesShare_93 (lv_at hl 5 rfl) ?_
          refine lv_iload hx hb dX0_provesShare_95 (lv_at hl 3 rfl) ?_
          refine lv_iload hx hb dX0_provesShare_97 (lv_at hl 2 rfl) ?_
          obtain ⟨r_9, hg, h⟩ := zb1_e h
          refine z_callS (As := [.int ((gA uT 0 l3.toNatClampNeg)), .int ((gA uT 7 l4.toNatClampNeg)), .int r_1, .int r_3, .int r_4]) (rest := []) ⟨hx, hb, hml, hown, hts⟩ (mX2_challenge l G  hg) (va_cwS 5 hts gX0_provesShare_X2_challenge rfl rfl rfl ksX2_challenge ⟨Nat.le_of_ble_eq_true rfl, Nat.le_of_ble_eq_true rfl⟩) hP hD hK hN hS (Nat.le_refl _) [] rfl rfl rfl rfl rfl hl.1 rfl (Nat.le_of_ble_eq_true rfl) dX0_provesShare_99 ⟨Nat.zero_le _, Nat.zero_le _⟩ (fun H locs hP hS => ?_)
          replace hP : zP G [shB G xB, shA G xA, shP G (ad 1 xA)] [uB, uA, uT] H := hP
          refine lv_istore (lv' := [(11, .int r_9), (10, .int ((gA uT 7 l4.toNatClampNeg))), (9, .int ((gA uT 0 l3.toNatClampNeg))), (8, .int r_4), (7, .int r_3), (6, .int r_2), (5, .int r_1), (0, .ref (xA 0)), (1, .ref (xB 0)), (2, .int l2), (3, .int l3), (4, .int l4)]) hx hb dX0_provesShare_102 hl (by decide) rfl (fun ls hl => ?_)
          refine lv_iload hx hb dX0_provesShare_104 (lv_at hl 5 rfl) ?_
          obtain ⟨r_10, hg, h⟩ := zb1_e h
          refine z_callS (As := [.int r_2]) (rest := []) ⟨hx, hb, hml, hown, hts⟩ (mX3_ofBase l G  hg) (va_cwS 1 hts gX0_provesShare_X3_ofBase rfl rfl rfl ksX3_ofBase ⟨Nat.le_of_ble_eq_true rfl, Nat.le_of_ble_eq_true rfl⟩) hP hD hK hN hS (Nat.le_refl _) [] rfl rfl rfl rfl rfl hl.1 rfl (Nat.le_of_ble_eq_true rfl) dX0_provesShare_106 ⟨Nat.zero_le _, Nat.zero_le _⟩ (fun H locs hP hS => ?_)
          replace hP : zP G [shB G xB, shA G xA, shP G (ad 1 xA)] [uB, uA, uT] H := hP
          refine lv_iload hx hb dX0_provesShare_109 (lv_at hl 4 rfl) ?_
          refine lv_iload hx hb dX0_provesShare_111 (lv_at hl 2 rfl) ?_
          refine lv_iload hx hb dX0_provesShare_113 (lv_at hl 0 rfl) ?_
          obtain ⟨r_11, hg, h⟩ := zb1_e h
          refine z_callS (As := [.int ((gA uT 0 l3.toNatClampNeg)), .int r_9]) (rest := [.int r_3, .int r_10]) ⟨hx, hb, hml, hown, hts⟩ (mX3_power l G  hg) (va_cwS 2 hts gX0_provesShare_X3_power rfl rfl rfl ksX3_power ⟨Nat.le_of_ble_eq_true rfl, Nat.le_of_ble_eq_true rfl⟩) hP hD hK hN hS (Nat.le_refl _) [] rfl rfl rfl rfl rfl hl.1 rfl (Nat.le_of_ble_eq_true rfl) dX0_provesShare_115 ⟨Nat.zero_le _, Nat.zero_le _⟩ (fun H locs hP hS => ?_)
          replace hP : zP G [shB G xB, shA G xA, shP G (ad 1 xA)] [uB, uA, uT] H := hP
          obtain ⟨r_12, hg, h⟩ := zb1_e h
          refine z_callS (As := [.int r_3, .int r_11]) (rest := [.int r_10]) ⟨hx, hb, hml, hown, hts⟩ (mX3_times l G  hg) (va_cwS 2 hts gX0_provesShare_X3_times rfl rfl rfl ksX3_times ⟨Nat.le_of_ble_eq_true rfl, Nat.le_of_ble_eq_true rfl⟩) hP hD hK hN hS (Nat.le_refl _) [] rfl rfl rfl rfl rfl hl.1 rfl (Nat.le_of_ble_eq_true rfl) dX0_provesShare_118 ⟨Nat.zero_le _, Nat.zero_le _⟩ (fun H locs hP hS => ?_)
          replace hP : zP G [shB G xB, shA G xA, shP G (ad 1 xA)] [uB, uA, uT] H := hP
          refine lv_icmp_ne (tgt := 150) hx hb dX0_provesShare_121 (by decide) (fun hc => ?_) (fun hc => ?_)
          · replace h := zf hc h
            refine lv_iconst (v := 0) hx hb dX0_provesShare_150 (by decide) ?_
            cases h
            exact z_zret hx hb hr hlk rfl hP hS dX0_provesShare_151
          · replace h := zt hc h
            refine lv_iload hx hb dX0_provesShare_124 (lv_at hl 1 rfl) ?_
            refine lv_iload hx hb dX0_provesShare_126 (lv_at hl 5 rfl) ?_
            obtain ⟨r_13, hg, h⟩ := zb1_e h
            refine z_callS (As := [.int ((gA uT 7 l4.toNatClampNeg)), .int r_2]) (rest := []) ⟨hx, hb, hml, hown, hts⟩ (mX3_power l G  hg) (va_cwS 2 hts gX0_provesShare_X3_power rfl rfl rfl ksX3_power ⟨Nat.le_of_ble_eq_true rfl, Nat.le_of_ble_eq_true rfl⟩) hP hD hK hN hS (Nat.le_refl _) [] rfl rfl rfl rfl rfl hl.1 rfl (Nat.le_of_ble_eq_true rfl) dX0_provesShare_128 ⟨Nat.zero_le _, Nat.zero_le _⟩ (fun H locs hP hS => ?_)
            replace hP : zP G [shB G xB, shA G xA, shP G (ad 1 xA)] [uB, uA, uT] H := hP
            refine lv_iload hx hb dX0_provesShare_131 (lv_at hl 3 rfl) ?_
            refine lv_iload hx hb dX0_provesShare_133 (lv_at hl 6 rfl) ?_
            refine lv_iload hx hb dX0_provesShare_135 (lv_at hl 0 rfl) ?_
            obtain ⟨r_14, hg, h⟩ := zb1_e h
            refine z_callS (As := [.int r_1, .int r_9]) (rest := [.int r_4, .int r_13]) ⟨hx, hb, hml, hown, hts⟩ (mX3_power l G  hg) (va_cwS 2 hts gX0_provesShare_X3_power rfl rfl rfl ksX3_power ⟨Nat.le_of_ble_eq_true rfl, Nat.le_of_ble_eq_true rfl⟩) hP hD hK hN hS (Nat.le_refl _) [] rfl rfl rfl rfl rfl hl.1 rfl (Nat.le_of_ble_eq_true rfl) dX0_provesShare_137 ⟨Nat.zero_le _, Nat.zero_le _⟩ (fun H locs hP hS => ?_)
            replace hP : zP G [shB G xB, shA G xA, shP G (ad 1 xA)] [uB, uA, uT] H := hP
            obtain ⟨r_15, hg, h⟩ := zb1_e h
            refine z_callS (As := [.int r_4, .int r_14]) (rest := [.int r_13]) ⟨hx, hb, hml, hown, hts⟩ (mX3_times l G  hg) (va_cwS 2 hts gX0_provesShare_X3_times rfl rfl rfl ksX3_times ⟨Nat.le_of_ble_eq_true rfl, Nat.le_of_ble_eq_true rfl⟩) hP hD hK hN hS (Nat.le_refl _) [] rfl rfl rfl rfl rfl hl.1 rfl (Nat.le_of_ble_eq_true rfl) dX0_provesShare_140 ⟨Nat.zero_le _, Nat.zero_le _⟩ (fun H locs hP hS => ?_)
            replace hP : zP G [shB G xB, shA G xA, shP G (ad 1 xA)] [uB, uA, uT] H := hP
            refine lv_icmp_ne (tgt := 150) hx hb dX0_provesShare_143 (by decide) (fun hc => ?_) (fun hc => ?_)
            · replace h := zf hc h
              refine lv_iconst (v := 0) hx hb dX0_provesShare_150 (by decide) ?_
              cases h
              exact z_zret hx hb hr hlk rfl hP hS dX0_provesShare_151
            · replace h := zt hc h
              refine lv_iconst (v := 1) hx hb dX0_provesShare_146 (by decide) ?_
              refine lv_goto (tgt := 151) hx hb dX0_provesShare_147 (by decide) ?_
              cases h
              exact z_zret hx hb hr hlk rfl hP hS dX0_provesShare_151
        · replace h := zt hc h
          refine lv_iconst (v := 0) hx hb dX0_provesShare_64 (by decide) ?_
          cases h
          exact z_zret hx hb hr hlk rfl hP hS dX0_provesShare_65
end
def rmX0_takesShare : Room := { frames := 3, cells := 0, slots := 0, locals := 80 }
theorem kvX0_takesShare : yX0_takesShare.cls = RX0 ∧ yX0_takesShare.cls ≠ "java/lang/invoke/MethodHandle" ∧ yX0_takesShare.cls ≠ "java/lang/invoke/VarHandle" ∧ (parseMethodDescriptor yX0_takesShare.desc).map (fun d => d.parameters.length) = some 2 := by decide +kernel
section
variable {p : Program} {l : Launch} {e : Env} {s : State} {m : MethodId} {args : Array Value} {below : List Frame} {meth : Method} {c : Code} {G : zG} {xB : Nat → Nat} {xA : Nat → Nat} {rr : Int32} {vA : zSt} {vT : zSt}
set_option maxRecDepth 20000 in
theorem tX0_takesShare_90 (C0 : zCtx p s m args meth c cX0_takesShare RX0 wsX0_takesShare 5 (some .boolean)) (hK : zK G s) (hN : zN s) (hD : zD [shB G xB, shA G xA, shP G (ad 1 xA)])  : ∀ (uB : zSt) (uA : zSt) (uT : zSt) (l2 : Int32) (l3 : Int32) (l4 : Int32), bX0_takesShare_90  uB uA uT l2 l3 l4 = some (rr, vA, vT) → ∀ (H : Heap) (locs : List Loc), zP G [shB G xB, shA G xA, shP G (ad 1 xA)] [uB, uA, uT] H → va_S (zA [shB G xB, shA G xA, shP G (ad 1 xA)] s.heap.size) s.heap H locs → ∀ ls : Array Slot, lv_has ls 5 [(0, .ref (xA 0)), (1, .ref (xB 0)), (2, .int l2), (3, .int l3), (4, .int l4)] → W p l e rmX0_takesShare s m args below meth c H locs 0 0 (MQ below (zQ G [shB G xB, shA G xA, shP G (ad 1 xA)] [uB, vA, vT] (zA [shB G xB, shA G xA, shP G (ad 1 xA)] s.heap.size) (some (.int rr))) args s 0 0 (zA [shB G xB, shA G xA, shP G (ad 1 xA)] s.heap.size)) (F0 m 90 ls []) := by
  obtain ⟨hx, hb, hr, hml, hown, hts, hlk⟩ := id C0
  have hwX0 : ∀ w ∈ wsX00, w.before args s = true := fun w h => hts w (List.mem_cons_of_mem _ (List.mem_append_left _ (List.mem_append_left _ (List.mem_append_right _ h))))
  have hwX4 : ∀ w ∈ wsX40, w.before args s = true := fun w h => hts w (List.mem_cons_of_mem _ (List.mem_append_left _ (List.mem_append_right _ h)))
  intro uB uA uT l2 l3 l4 h H locs hP hS ls hl
  unfold bX0_takesShare_90 at h
  refine lv_aload_n hx hb dX0_takesShare_90 rfl (lv_at hl 0 rfl) ?_
  refine lv_aload_n hx hb dX0_takesShare_91 rfl (lv_at hl 1 rfl) ?_
  refine lv_iload_n hx hb dX0_takesShare_92 rfl (lv_at hl 2 rfl) ?_
  refine lv_iload_n hx hb dX0_takesShare_93 rfl (lv_at hl 3 rfl) ?_
  refine lv_iload hx hb dX0_takesShare_94 (lv_at hl 4 rfl) ?_
  obtain ⟨r_1, hg, h⟩ := zb1_e h
  refine z_callV (As := [.ref (xB 0), .int l2, .int l3, .int l4]) (rest := []) (i := 0) ⟨hx, hb, hml, hown, hts⟩ (mX0_provesShare l G (xB) (xA) hg) (cwV 4 hts gX0_takesShare_X0_provesShare rfl rfl rfl kvX0_provesShare ⟨Nat.le_of_ble_eq_true rfl, Nat.le_of_ble_eq_true rfl⟩) rfl hP hD hK hN hS (Nat.le_refl _) [0, 1, 2] rfl rfl rfl rfl 1 rfl rfl rfl rfl rfl hl.1 rfl (Nat.le_of_ble_eq_true rfl) dX0_takesShare_96 ⟨Nat.zero_le _, Nat.zero_le _⟩ (fun H locs hP hS => ?_)
  replace hP : zP G [shB G xB, shA G xA, shP G (ad 1 xA)] [uB, uA, uT] H := hP
  refine lv_if_ne (tgt := 104) hx hb dX0_takesShare_99 (by decide) (fun hc => ?_) (fun hc => ?_)
  · replace h := zf hc h
    refine lv_aload_n hx hb dX0_takesShare_104 rfl (lv_at hl 0 rfl) ?_
    refine rA_0 hx hb hwX0 hown hK hP 1 (xA) rfl rfl (hts _ (List.mem_of_getElem? (i := 2) rfl)) dX0_takesShare_105 ?_
    refine lv_iload hx hb dX0_takesShare_108 (lv_at hl 4 rfl) ?_
    refine lv_aload_n hx hb dX0_takesShare_110 rfl (lv_at hl 1 rfl) ?_
    refine lv_iload_n hx hb dX0_takesShare_111 rfl (lv_at hl 2 rfl) ?_
    refine lv_iconst (v := 2) hx hb dX0_takesShare_112 (by decide) ?_
    obtain ⟨r_2, hg, h⟩ := zb1_e h
    refine z_callV (As := [.int l2, .int ((2 : Int32))]) (rest := [.int l4, .ref ((ad 1 xA) 0)]) (i := 0) ⟨hx, hb, hml, hown, hts⟩ (mX1_number l G (xB) hg) (cwV 2 hts gX0_takesShare_X1_number rfl rfl rfl kvX1_number ⟨Nat.le_of_ble_eq_true rfl, Nat.le_of_ble_eq_true rfl⟩) rfl hP hD hK hN hS (Nat.le_refl _) [0] rfl rfl rfl rfl 0 rfl rfl rfl rfl rfl hl.1 rfl (Nat.le_of_ble_eq_true rfl) dX0_takesShare_113 ⟨Nat.zero_le _, Nat.zero_le _⟩ (fun H locs hP hS => ?_)
    replace hP : zP G [shB G xB, shA G xA, shP G (ad 1 xA)] [uB, uA, uT] H := hP
    obtain ⟨uT_3, hg, h⟩ := zb1_e h
    refine z_callV (As := [.int l4, .int r_2]) (rest := []) (i := 0) ⟨hx, hb, hml, hown, hts⟩ (mX4_addShare l G (ad 1 xA) hg) (cwV 2 hts gX0_takesShare_X4_addShare rfl rfl rfl kvX4_addShare ⟨Nat.le_of_ble_eq_true rfl, Nat.le_of_ble_eq_true rfl⟩) rfl hP hD hK hN hS (Nat.le_refl _) [2] rfl rfl rfl rfl 2 rfl rfl rfl rfl rfl hl.1 rfl (Nat.le_of_ble_eq_true rfl) dX0_takesShare_116 ⟨Nat.zero_le _, Nat.zero_le _⟩ (fun H locs hP hS => ?_)
    replace hP : zP G [shB G xB, shA G xA, shP G (ad 1 xA)] [uB, uA, uT_3] H := hP
    refine lv_aload_n hx hb dX0_takesShare_119 rfl (lv_at hl 0 rfl) ?_
    refine lv_iconst (v := 3) hx hb dX0_takesShare_120 (by decide) ?_
    refine pA_1 hx hb hwX0 hown hK hP hD hS 1 (xA) rfl rfl (hts _ (List.mem_of_getElem? (i := 1) rfl)) dX0_takesShare_121 (fun H locs hP hS => ?_)
    replace hP : zP G [shB G xB, shA G xA, shP G (ad 1 xA)] [uB, (sI uA 1 ((3 : Int32))), uT_3] H := hP
    refine lv_aload_n hx hb dX0_takesShare_124 rfl (lv_at hl 0 rfl) ?_
    refine lv_iload_n hx hb dX0_takesShare_125 rfl (lv_at hl 3 rfl) ?_
    refine pA_4 hx hb hwX0 hown hK hP hD hS 1 (xA) rfl rfl (hts _ (List.mem_of_getElem? (i := 4) rfl)) dX0_takesShare_126 (fun H locs hP hS => ?_)
    replace hP : zP G [shB G xB, shA G xA, shP G (ad 1 xA)] [uB, (sI ((sI uA 1 ((3 : Int32)))) 4 l3), uT_3] H := hP
    refine lv_aload_n hx hb dX0_takesShare_129 rfl (lv_at hl 0 rfl) ?_
    refine lv_dup hx hb dX0_takesShare_130 rfl ?_
    refine rA_3 hx hb hwX0 hown hK hP 1 (xA) rfl rfl (hts _ (List.mem_of_getElem? (i := 3) rfl)) dX0_takesShare_131 ?_
    refine lv_iconst (v := 1) hx hb dX0_takesShare_134 (by decide) ?_
    refine lv_iadd hx hb dX0_takesShare_135 ?_
    refine pA_3 hx hb hwX0 hown hK hP hD hS 1 (xA) rfl rfl (hts _ (List.mem_of_getElem? (i := 3) rfl)) dX0_takesShare_136 (fun H locs hP hS => ?_)
    replace hP : zP G [shB G xB, shA G xA, shP G (ad 1 xA)] [uB, (sI ((sI ((sI uA 1 ((3 : Int32)))) 4 l3)) 3 (((gI ((sI ((sI uA 1 ((3 : Int32)))) 4 l3)) 3) + (1 : Int32)))), uT_3] H := hP
    refine lv_aload_n hx hb dX0_takesShare_139 rfl (lv_at hl 0 rfl) ?_
    refine rA_3 hx hb hwX0 hown hK hP 1 (xA) rfl rfl (hts _ (List.mem_of_getElem? (i := 3) rfl)) dX0_takesShare_140 ?_
    refine lv_aload_n hx hb dX0_takesShare_143 rfl (lv_at hl 0 rfl) ?_
    refine rA_0 hx hb hwX0 hown hK hP 1 (xA) rfl rfl (hts _ (List.mem_of_getElem? (i := 2) rfl)) dX0_takesShare_144 ?_
    refine rNP_6 hx hb hwX4 hown hK hP 2 (ad 1 xA) rfl rfl (hN.f (List.mem_of_getElem? (i := 8) rfl)) dX0_takesShare_147 ?_
    refine lv_icmp_ne (tgt := 168) hx hb dX0_takesShare_150 (by decide) (fun hc => ?_) (fun hc => ?_)
    · replace h := zf hc h
      refine lv_iconst (v := 1) hx hb dX0_takesShare_168 (by decide) ?_
      cases h
      exact z_zret hx hb hr hlk rfl hP hS dX0_takesShare_169
    · replace h := zt hc h
      refine lv_aload_n hx hb dX0_takesShare_153 rfl (lv_at hl 0 rfl) ?_
      refine rA_0 hx hb hwX0 hown hK hP 1 (xA) rfl rfl (hts _ (List.mem_of_getElem? (i := 2) rfl)) dX0_takesShare_154 ?_
      refine rNP_13 hx hb hwX4 hown hK hP 2 (ad 1 xA) rfl rfl (hN.f (List.mem_of_getElem? (i := 14) rfl)) dX0_takesShare_157 ?_
      refine lv_iload_n hx hb dX0_takesShare_160 rfl (lv_at hl 3 rfl) ?_
      refine lv_iconst (v := 1) hx hb dX0_takesShare_161 (by decide) ?_
      obtain ⟨hi, h⟩ := zin_e h
      refine tP_13 hx hb hK hP hD hS 2 (ad 1 xA) rfl rfl hi rfl vnb_1 dX0_takesShare_162 (fun H locs hP hS => ?_)
      replace hP : zP G [shB G xB, shA G xA, shP G (ad 1 xA)] [uB, (sI ((sI ((sI uA 1 ((3 : Int32)))) 4 l3)) 3 (((gI ((sI ((sI uA 1 ((3 : Int32)))) 4 l3)) 3) + (1 : Int32)))), (sA uT_3 13 l3.toNatClampNeg ((1 : Int32)))] H := hP
      refine lv_aload_n hx hb dX0_takesShare_163 rfl (lv_at hl 0 rfl) ?_
      refine lv_iconst (v := 0) hx hb dX0_takesShare_164 (by decide) ?_
      refine pA_3 hx hb hwX0 hown hK hP hD hS 1 (xA) rfl rfl (hts _ (List.mem_of_getElem? (i := 3) rfl)) dX0_takesShare_165 (fun H locs hP hS => ?_)
      replace hP : zP G [shB G xB, shA G xA, shP G (ad 1 xA)] [uB, (sI ((sI ((sI ((sI uA 1 ((3 : Int32)))) 4 l3)) 3 (((gI ((sI ((sI uA 1 ((3 : Int32)))) 4 l3)) 3) + (1 : Int32))))) 3 ((0 : Int32))), (sA uT_3 13 l3.toNatClampNeg ((1 : Int32)))] H := hP
      refine lv_iconst (v := 1) hx hb dX0_takesShare_168 (by decide) ?_
      cases h
      exact z_zret hx hb hr hlk rfl hP hS dX0_takesShare_169
  · replace h := zt hc h
    refine lv_iconst (v := 0) hx hb dX0_takesShare_102 (by decide) ?_
    cases h
    exact z_zret hx hb hr hlk rfl hP hS dX0_takesShare_103
set_option maxRecDepth 20000 in
theorem tX0_takesShare_31 (C0 : zCtx p s m args meth c cX0_takesShare RX0 wsX0_takesShare 5 (some .boolean)) (hK : zK G s) (hN : zN s) (hD : zD [shB G xB, shA G xA, shP G (ad 1 xA)])  : ∀ (uB : zSt) (uA : zSt) (uT : zSt) (l2 : Int32) (l3 : Int32) (l4 : Int32), bX0_takesShare_31  uB uA uT l2 l3 l4 = some (rr, vA, vT) → ∀ (H : Heap) (locs : List Loc), zP G [shB G xB, shA G xA, shP G (ad 1 xA)] [uB, uA, uT] H → va_S (zA [shB G xB, shA G xA, shP G (ad 1 xA)] s.heap.size) s.heap H locs → ∀ ls : Array Slot, lv_has ls 5 [(0, .ref (xA 0)), (1, .ref (xB 0)), (2, .int l2), (3, .int l3), (4, .int l4)] → W p l e rmX0_takesShare s m args below meth c H locs 0 0 (MQ below (zQ G [shB G xB, shA G xA, shP G (ad 1 xA)] [uB, vA, vT] (zA [shB G xB, shA G xA, shP G (ad 1 xA)] s.heap.size) (some (.int rr))) args s 0 0 (zA [shB G xB, shA G xA, shP G (ad 1 xA)] s.heap.size)) (F0 m 31 ls []) := by
  obtain ⟨hx, hb, hr, hml, hown, hts, hlk⟩ := id C0
  have hwX0 : ∀ w ∈ wsX00, w.before args s = true := fun w h => hts w (List.mem_cons_of_mem _ (List.mem_append_left _ (List.mem_append_left _ (List.mem_append_right _ h))))
  have hwX4 : ∀ w ∈ wsX40, w.before args s = true := fun w h => hts w (List.mem_cons_of_mem _ (List.mem_append_left _ (List.mem_append_right _ h)))
  intro uB uA uT l2 l3 l4 h H locs hP hS ls hl
  unfold bX0_takesShare_31 at h
  refine lv_iload_n hx hb dX0_takesShare_31 rfl (lv_at hl 3 rfl) ?_
  obtain ⟨r_4, hg, h⟩ := zb1_e h
  refine z_callSN (As := [.int l3]) (rest := []) ⟨hx, hb, hml, hown, hts⟩ (mX6_isTrustee l G  hg) ⟨va_cnB 1 hts gX0_takesShare_X6_isTrustee_n117 rfl rfl rfl (hN.2 _ (List.mem_of_getElem? (i := 6) rfl)) (hts _ (List.mem_of_getElem? (i := 12) rfl)) ksX6_isTrustee ⟨Nat.le_of_ble_eq_true rfl, Nat.le_of_ble_eq_true rfl⟩, hts _ (List.mem_of_getElem? (i := 11) rfl), trivial⟩ hP hD hK hN hS (Nat.le_refl _) [] rfl rfl rfl rfl rfl hl.1 rfl (Nat.le_of_ble_eq_true rfl) dX0_takesShare_32 ⟨Nat.zero_le _, Nat.zero_le _⟩ (fun H locs hP hS => ?_)
  replace hP : zP G [shB G xB, shA G xA, shP G (ad 1 xA)] [uB, uA, uT] H := hP
  refine lv_if_eq (tgt := 50) hx hb dX0_takesShare_35 (by decide) (fun hc => ?_) (fun hc => ?_)
  · replace h := zt hc h
    refine lv_iconst (v := 0) hx hb dX0_takesShare_50 (by decide) ?_
    cases h
    exact z_zret hx hb hr hlk rfl hP hS dX0_takesShare_51
  · replace h := zf hc h
    refine lv_aload_n hx hb dX0_takesShare_38 rfl (lv_at hl 0 rfl) ?_
    refine rA_0 hx hb hwX0 hown hK hP 1 (xA) rfl rfl (hts _ (List.mem_of_getElem? (i := 2) rfl)) dX0_takesShare_39 ?_
    refine rNP_13 hx hb hwX4 hown hK hP 2 (ad 1 xA) rfl rfl (hN.f (List.mem_of_getElem? (i := 14) rfl)) dX0_takesShare_42 ?_
    refine lv_iload_n hx hb dX0_takesShare_45 rfl (lv_at hl 3 rfl) ?_
    obtain ⟨hi, h⟩ := zin_e h
    refine aP_13 hx hb hK hP 2 (ad 1 xA) rfl rfl hi rfl dX0_takesShare_46 ?_
    refine lv_if_eq (tgt := 52) hx hb dX0_takesShare_47 (by decide) (fun hc => ?_) (fun hc => ?_)
    · replace h := zt hc h
      refine lv_aload_n hx hb dX0_takesShare_52 rfl (lv_at hl 0 rfl) ?_
      refine rA_3 hx hb hwX0 hown hK hP 1 (xA) rfl rfl (hts _ (List.mem_of_getElem? (i := 3) rfl)) dX0_takesShare_53 ?_
      refine lv_aload_n hx hb dX0_takesShare_56 rfl (lv_at hl 0 rfl) ?_
      refine rA_0 hx hb hwX0 hown hK hP 1 (xA) rfl rfl (hts _ (List.mem_of_getElem? (i := 2) rfl)) dX0_takesShare_57 ?_
      refine rNP_6 hx hb hwX4 hown hK hP 2 (ad 1 xA) rfl rfl (hN.f (List.mem_of_getElem? (i := 8) rfl)) dX0_takesShare_60 ?_
      refine lv_icmp_ge (tgt := 88) hx hb dX0_takesShare_63 (by decide) (fun hc => ?_) (fun hc => ?_)
      · replace h := zt hc h
        refine lv_iconst (v := 0) hx hb dX0_takesShare_88 (by decide) ?_
        cases h
        exact z_zret hx hb hr hlk rfl hP hS dX0_takesShare_89
      · replace h := zf hc h
        refine lv_iload hx hb dX0_takesShare_66 (lv_at hl 4 rfl) ?_
        refine lv_aload_n hx hb dX0_takesShare_68 rfl (lv_at hl 0 rfl) ?_
        refine rA_3 hx hb hwX0 hown hK hP 1 (xA) rfl rfl (hts _ (List.mem_of_getElem? (i := 3) rfl)) dX0_takesShare_69 ?_
        refine lv_icmp_ne (tgt := 88) hx hb dX0_takesShare_72 (by decide) (fun hc => ?_) (fun hc => ?_)
        · replace h := zf hc h
          refine lv_iconst (v := 0) hx hb dX0_takesShare_88 (by decide) ?_
          cases h
          exact z_zret hx hb hr hlk rfl hP hS dX0_takesShare_89
        · replace h := zt hc h
          refine lv_iload hx hb dX0_takesShare_75 (lv_at hl 4 rfl) ?_
          refine lv_if_le (tgt := 90) hx hb dX0_takesShare_77 (by decide) (fun hc => ?_) (fun hc => ?_)
          · replace h := zt hc h
            exact tX0_takesShare_90 C0 hK hN hD  _ _ _ _ _ _ h _ _ hP hS _ (lv_sub hl [0, 1, 2, 3, 4] rfl)
          · replace h := zf hc h
            refine lv_iload_n hx hb dX0_takesShare_80 rfl (lv_at hl 3 rfl) ?_
            refine lv_aload_n hx hb dX0_takesShare_81 rfl (lv_at hl 0 rfl) ?_
            refine rA_4 hx hb hwX0 hown hK hP 1 (xA) rfl rfl (hts _ (List.mem_of_getElem? (i := 4) rfl)) dX0_takesShare_82 ?_
            refine lv_icmp_eq (tgt := 90) hx hb dX0_takesShare_85 (by decide) (fun hc => ?_) (fun hc => ?_)
            · replace h := zt hc h
              exact tX0_takesShare_90 C0 hK hN hD  _ _ _ _ _ _ h _ _ hP hS _ (lv_sub hl [0, 1, 2, 3, 4] rfl)
            · replace h := zf hc h
              refine lv_iconst (v := 0) hx hb dX0_takesShare_88 (by decide) ?_
              cases h
              exact z_zret hx hb hr hlk rfl hP hS dX0_takesShare_89
    · replace h := zf hc h
      refine lv_iconst (v := 0) hx hb dX0_takesShare_50 (by decide) ?_
      cases h
      exact z_zret hx hb hr hlk rfl hP hS dX0_takesShare_51
set_option maxRecDepth 20000 in
theorem mX0_takesShare (l : Launch) (G : zG) (xB : Nat → Nat) (xA : Nat → Nat) {uB : zSt} {uA : zSt} {uT : zSt} {l2 : Int32} {rr : Int32} {vA : zSt} {vT : zSt} (h : fX0_takesShare uB uA uT l2 = some (rr, vA, vT)) : zC l yX0_takesShare wsX0_takesShare rmX0_takesShare [.ref (xA 0), .ref (xB 0), .int l2] G [shB G xB, shA G xA, shP G (ad 1 xA)] [uB, uA, uT] [uB, vA, vT] (some (.int rr)) := by
  refine z_ofW (cc := cX0_takesShare) (maxL := 5) (ret := some .boolean) (by decide) rfl (Nat.le_of_ble_eq_true rfl) ?_
  intro p e s m args below meth c C0 hK hN hD hP ls hl
  obtain ⟨hx, hb, hr, hml, hown, hts, hlk⟩ := id C0
  have hS : va_S (zA [shB G xB, shA G xA, shP G (ad 1 xA)] s.heap.size) s.heap s.heap [] := va_S.rf
  replace hl : lv_has ls 5 [(0, .ref (xA 0)), (1, .ref (xB 0)), (2, .int l2)] := hl
  have hwX0 : ∀ w ∈ wsX00, w.before args s = true := fun w h => hts w (List.mem_cons_of_mem _ (List.mem_append_left _ (List.mem_append_left _ (List.mem_append_right _ h))))
  unfold fX0_takesShare at h
  refine lv_aload_n hx hb dX0_takesShare_0 rfl (lv_at hl 1 rfl) ?_
  refine lv_iload_n hx hb dX0_takesShare_1 rfl (lv_at hl 2 rfl) ?_
  refine lv_iconst (v := 0) hx hb dX0_takesShare_2 (by decide) ?_
  obtain ⟨r_5, hg, h⟩ := zb1_e h
  refine z_callV (As := [.int l2, .int ((0 : Int32))]) (rest := []) (i := 0) ⟨hx, hb, hml, hown, hts⟩ (mX1_number l G (xB) hg) (cwV 2 hts gX0_takesShare_X1_number rfl rfl rfl kvX1_number ⟨Nat.le_of_ble_eq_true rfl, Nat.le_of_ble_eq_true rfl⟩) rfl hP hD hK hN hS (Nat.le_refl _) [0] rfl rfl rfl rfl 0 rfl rfl rfl rfl rfl hl.1 rfl (Nat.le_of_ble_eq_true rfl) dX0_takesShare_3 ⟨Nat.zero_le _, Nat.zero_le _⟩ (fun H locs hP hS => ?_)
  replace hP : zP G [shB G xB, shA G xA, shP G (ad 1 xA)] [uB, uA, uT] H := hP
  refine lv_istore_n (lv' := [(3, .int r_5), (0, .ref (xA 0)), (1, .ref (xB 0)), (2, .int l2)]) hx hb dX0_takesShare_6 rfl hl (by decide) rfl (fun ls hl => ?_)
  refine lv_aload_n hx hb dX0_takesShare_7 rfl (lv_at hl 2 rfl) ?_
  refine lv_iload_n hx hb dX0_takesShare_8 rfl (lv_at hl 3 rfl) ?_
  refine lv_iconst (v := 1) hx hb dX0_takesShare_9 (by decide) ?_
  obtain ⟨r_6, hg, h⟩ := zb1_e h
  refine z_callV (As := [.int l2, .int ((1 : Int32))]) (rest := []) (i := 0) ⟨hx, hb, hml, hown, hts⟩ (mX1_number l G (xB) hg) (cwV 2 hts gX0_takesShare_X1_number rfl rfl rfl kvX1_number ⟨Nat.le_of_ble_eq_true rfl, Nat.le_of_ble_eq_true rfl⟩) rfl hP hD hK hN hS (Nat.le_refl _) [0] rfl rfl rfl rfl 0 rfl rfl rfl rfl rfl hl.1 rfl (Nat.le_of_ble_eq_true rfl) dX0_takesShare_10 ⟨Nat.zero_le _, Nat.zero_le _⟩ (fun H locs hP hS => ?_)
  replace hP : zP G [shB G xB, shA G xA, shP G (ad 1 xA)] [uB, uA, uT] H := hP
  refine lv_istore (lv' := [(4, .int r_6), (3, .int r_5), (0, .ref (xA 0)), (1, .ref (xB 0)), (2, .int l2)]) hx hb dX0_takesShare_13 hl (by decide) rfl (fun ls hl => ?_)
  refine lv_aload_n hx hb dX0_takesShare_15 rfl (lv_at hl 2 rfl) ?_
  refine rA_1 hx hb hwX0 hown hK hP 1 (xA) rfl rfl (hts _ (List.mem_of_getElem? (i := 1) rfl)) dX0_takesShare_16 ?_
  refine lv_iconst (v := 2) hx hb dX0_takesShare_19 (by decide) ?_
  refine lv_icmp_eq (tgt := 31) hx hb dX0_takesShare_20 (by decide) (fun hc => ?_) (fun hc => ?_)
  · replace h := zt hc h
    exact tX0_takesShare_31 C0 hK hN hD  _ _ _ _ _ _ h _ _ hP hS _ (lv_sub hl [2, 3, 4, 1, 0] rfl)
  · replace h := zf hc h
    refine lv_aload_n hx hb dX0_takesShare_23 rfl (lv_at hl 2 rfl) ?_
    refine rA_1 hx hb hwX0 hown hK hP 1 (xA) rfl rfl (hts _ (List.mem_of_getElem? (i := 1) rfl)) dX0_takesShare_24 ?_
    refine lv_iconst (v := 3) hx hb dX0_takesShare_27 (by decide) ?_
    refine lv_icmp_ne (tgt := 50) hx hb dX0_takesShare_28 (by decide) (fun hc => ?_) (fun hc => ?_)
    · replace h := zf hc h
      refine lv_iconst (v := 0) hx hb dX0_takesShare_50 (by decide) ?_
      cases h
      exact z_zret hx hb hr hlk rfl hP hS dX0_takesShare_51
    · replace h := zt hc h
      exact tX0_takesShare_31 C0 hK hN hD  _ _ _ _ _ _ h _ _ hP hS _ (lv_sub hl [2, 3, 4, 1, 0] rfl)
end
def rmX0_takesMixed : Room := { frames := 3, cells := 0, slots := 0, locals := 70 }
theorem kvX0_takesMixed : yX0_takesMixed.cls = RX0 ∧ yX0_takesMixed.cls ≠ "java/lang/invoke/MethodHandle" ∧ yX0_takesMixed.cls ≠ "java/lang/invoke/VarHandle" ∧ (parseMethodDescriptor yX0_takesMixed.desc).map (fun d => d.parameters.length) = some 2 := by decide +kernel
section
variable {p : Program} {l : Launch} {e : Env} {s : State} {m : MethodId} {args : Array Value} {below : List Frame} {meth : Method} {c : Code} {G : zG} {xB : Nat → Nat} {xA : Nat → Nat} {rr : Int32} {vA : zSt} {vT : zSt}
set_option maxRecDepth 20000 in
theorem mX0_takesMixed (l : Launch) (G : zG) (xB : Nat → Nat) (xA : Nat → Nat) {uB : zSt} {uA : zSt} {uT : zSt} {l2 : Int32} {rr : Int32} {vA : zSt} {vT : zSt} (h : fX0_takesMixed uB uA uT l2 = some (rr, vA, vT)) : zC l yX0_takesMixed wsX0_takesMixed rmX0_takesMixed [.ref (xA 0), .ref (xB 0), .int l2] G [shB G xB, shA G xA, shP G (ad 1 xA)] [uB, uA, uT] [uB, vA, vT] (some (.int rr)) := by
  refine z_ofW (cc := cX0_takesMixed) (maxL := 5) (ret := some .boolean) (by decide) rfl (Nat.le_of_ble_eq_true rfl) ?_
  intro p e s m args below meth c C0 hK hN hD hP ls hl
  obtain ⟨hx, hb, hr, hml, hown, hts, hlk⟩ := id C0
  have hS : va_S (zA [shB G xB, shA G xA, shP G (ad 1 xA)] s.heap.size) s.heap s.heap [] := va_S.rf
  replace hl : lv_has ls 5 [(0, .ref (xA 0)), (1, .ref (xB 0)), (2, .int l2)] := hl
  have hwX0 : ∀ w ∈ wsX00, w.before args s = true := fun w h => hts w (List.mem_cons_of_mem _ (List.mem_append_left _ (List.mem_append_left _ (List.mem_append_right _ h))))
  have hwX4 : ∀ w ∈ wsX40, w.before args s = true := fun w h => hts w (List.mem_cons_of_mem _ (List.mem_append_left _ (List.mem_append_right _ h)))
  unfold fX0_takesMixed at h
  refine lv_aload_n hx hb dX0_takesMixed_0 rfl (lv_at hl 1 rfl) ?_
  refine lv_iload_n hx hb dX0_takesMixed_1 rfl (lv_at hl 2 rfl) ?_
  refine lv_iconst (v := 0) hx hb dX0_takesMixed_2 (by decide) ?_
  obtain ⟨r_1, hg, h⟩ := zb1_e h
  refine z_callV (As := [.int l2, .int ((0 : Int32))]) (rest := []) (i := 0) ⟨hx, hb, hml, hown, hts⟩ (mX1_number l G (xB) hg) (cwV 2 hts gX0_takesMixed_X1_number rfl rfl rfl kvX1_number ⟨Nat.le_of_ble_eq_true rfl, Nat.le_of_ble_eq_true rfl⟩) rfl hP hD hK hN hS (Nat.le_refl _) [0] rfl rfl rfl rfl 0 rfl rfl rfl rfl rfl hl.1 rfl (Nat.le_of_ble_eq_true rfl) dX0_takesMixed_3 ⟨Nat.zero_le _, Nat.zero_le _⟩ (fun H locs hP hS => ?_)
  replace hP : zP G [shB G xB, shA G xA, shP G (ad 1 xA)] [uB, uA, uT] H := hP
  refine lv_istore_n (lv' := [(3, .int r_1), (0, .ref (xA 0)), (1, .ref (xB 0)), (2, .int l2)]) hx hb dX0_takesMixed_6 rfl hl (by decide) rfl (fun ls hl => ?_)
  refine lv_aload_n hx hb dX0_takesMixed_7 rfl (lv_at hl 2 rfl) ?_
  refine lv_iload_n hx hb dX0_takesMixed_8 rfl (lv_at hl 3 rfl) ?_
  refine lv_iconst (v := 1) hx hb dX0_takesMixed_9 (by decide) ?_
  obtain ⟨r_2, hg, h⟩ := zb1_e h
  refine z_callV (As := [.int l2, .int ((1 : Int32))]) (rest := []) (i := 0) ⟨hx, hb, hml, hown, hts⟩ (mX1_number l G (xB) hg) (cwV 2 hts gX0_takesMixed_X1_number rfl rfl rfl kvX1_number ⟨Nat.le_of_ble_eq_true rfl, Nat.le_of_ble_eq_true rfl⟩) rfl hP hD hK hN hS (Nat.le_refl _) [0] rfl rfl rfl rfl 0 rfl rfl rfl rfl rfl hl.1 rfl (Nat.le_of_ble_eq_true rfl) dX0_takesMixed_10 ⟨Nat.zero_le _, Nat.zero_le _⟩ (fun H locs hP hS => ?_)
  replace hP : zP G [shB G xB, shA G xA, shP G (ad 1 xA)] [uB, uA, uT] H := hP
  refine lv_istore (lv' := [(4, .int r_2), (3, .int r_1), (0, .ref (xA 0)), (1, .ref (xB 0)), (2, .int l2)]) hx hb dX0_takesMixed_13 hl (by decide) rfl (fun ls hl => ?_)
  refine lv_aload_n hx hb dX0_takesMixed_15 rfl (lv_at hl 2 rfl) ?_
  refine rA_1 hx hb hwX0 hown hK hP 1 (xA) rfl rfl (hts _ (List.mem_of_getElem? (i := 1) rfl)) dX0_takesMixed_16 ?_
  refine lv_iconst (v := 2) hx hb dX0_takesMixed_19 (by decide) ?_
  refine lv_icmp_ne (tgt := 44) hx hb dX0_takesMixed_20 (by decide) (fun hc => ?_) (fun hc => ?_)
  · replace h := zf hc h
    refine lv_iconst (v := 0) hx hb dX0_takesMixed_44 (by decide) ?_
    cases h
    exact z_zret hx hb hr hlk rfl hP hS dX0_takesMixed_45
  · replace h := zt hc h
    refine lv_aload_n hx hb dX0_takesMixed_23 rfl (lv_at hl 3 rfl) ?_
    refine lv_iload_n hx hb dX0_takesMixed_24 rfl (lv_at hl 4 rfl) ?_
    refine lv_iconst (v := 2) hx hb dX0_takesMixed_25 (by decide) ?_
    obtain ⟨r_3, hg, h⟩ := zb1_e h
    refine z_callS (As := [.ref (xB 0), .int l2, .int ((2 : Int32))]) (rest := []) ⟨hx, hb, hml, hown, hts⟩ (mX0_isZeroFrom l G (xB) hg) (va_cwS 3 hts gX0_takesMixed_X0_isZeroFrom rfl rfl rfl ksX0_isZeroFrom ⟨Nat.le_of_ble_eq_true rfl, Nat.le_of_ble_eq_true rfl⟩) hP hD hK hN hS (Nat.le_refl _) [0] rfl rfl rfl rfl rfl hl.1 rfl (Nat.le_of_ble_eq_true rfl) dX0_takesMixed_26 ⟨Nat.zero_le _, Nat.zero_le _⟩ (fun H locs hP hS => ?_)
    replace hP : zP G [shB G xB, shA G xA, shP G (ad 1 xA)] [uB, uA, uT] H := hP
    refine lv_if_eq (tgt := 44) hx hb dX0_takesMixed_29 (by decide) (fun hc => ?_) (fun hc => ?_)
    · replace h := zt hc h
      refine lv_iconst (v := 0) hx hb dX0_takesMixed_44 (by decide) ?_
      cases h
      exact z_zret hx hb hr hlk rfl hP hS dX0_takesMixed_45
    · replace h := zf hc h
      refine lv_aload_n hx hb dX0_takesMixed_32 rfl (lv_at hl 2 rfl) ?_
      refine rA_0 hx hb hwX0 hown hK hP 1 (xA) rfl rfl (hts _ (List.mem_of_getElem? (i := 2) rfl)) dX0_takesMixed_33 ?_
      refine lv_iload hx hb dX0_takesMixed_36 (lv_at hl 0 rfl) ?_
      obtain ⟨r_4, hg, h⟩ := zb1_e h
      refine z_callV (As := [.int r_2]) (rest := []) (i := 0) ⟨hx, hb, hml, hown, hts⟩ (mX4_isOrder l G (ad 1 xA) hg) (cwV 1 hts gX0_takesMixed_X4_isOrder rfl rfl rfl kvX4_isOrder ⟨Nat.le_of_ble_eq_true rfl, Nat.le_of_ble_eq_true rfl⟩) rfl hP hD hK hN hS (Nat.le_refl _) [2] rfl rfl rfl rfl 2 rfl rfl rfl rfl rfl hl.1 rfl (Nat.le_of_ble_eq_true rfl) dX0_takesMixed_38 ⟨Nat.zero_le _, Nat.zero_le _⟩ (fun H locs hP hS => ?_)
      replace hP : zP G [shB G xB, shA G xA, shP G (ad 1 xA)] [uB, uA, uT] H := hP
      refine lv_if_ne (tgt := 46) hx hb dX0_takesMixed_41 (by decide) (fun hc => ?_) (fun hc => ?_)
      · replace h := zf hc h
        refine lv_aload_n hx hb dX0_takesMixed_46 rfl (lv_at hl 2 rfl) ?_
        refine rA_0 hx hb hwX0 hown hK hP 1 (xA) rfl rfl (hts _ (List.mem_of_getElem? (i := 2) rfl)) dX0_takesMixed_47 ?_
        refine lv_iload_n hx hb dX0_takesMixed_50 rfl (lv_at hl 1 rfl) ?_
        refine lv_iload hx hb dX0_takesMixed_51 (lv_at hl 0 rfl) ?_
        obtain ⟨uT_5, hg, h⟩ := zb1_e h
        refine z_callV (As := [.int r_1, .int r_2]) (rest := []) (i := 0) ⟨hx, hb, hml, hown, hts⟩ (mX4_mixEntries l G (ad 1 xA) hg) (cwV 2 hts gX0_takesMixed_X4_mixEntries rfl rfl rfl kvX4_mixEntries ⟨Nat.le_of_ble_eq_true rfl, Nat.le_of_ble_eq_true rfl⟩) rfl hP hD hK hN hS (Nat.le_refl _) [2] rfl rfl rfl rfl 2 rfl rfl rfl rfl rfl hl.1 rfl (Nat.le_of_ble_eq_true rfl) dX0_takesMixed_53 ⟨Nat.zero_le _, Nat.zero_le _⟩ (fun H locs hP hS => ?_)
        replace hP : zP G [shB G xB, shA G xA, shP G (ad 1 xA)] [uB, uA, uT_5] H := hP
        refine lv_aload_n hx hb dX0_takesMixed_56 rfl (lv_at hl 2 rfl) ?_
        refine lv_aload_n hx hb dX0_takesMixed_57 rfl (lv_at hl 2 rfl) ?_
        refine rA_0 hx hb hwX0 hown hK hP 1 (xA) rfl rfl (hts _ (List.mem_of_getElem? (i := 2) rfl)) dX0_takesMixed_58 ?_
        refine rNP_6 hx hb hwX4 hown hK hP 2 (ad 1 xA) rfl rfl (hN.f (List.mem_of_getElem? (i := 8) rfl)) dX0_takesMixed_61 ?_
        refine pA_2 hx hb hwX0 hown hK hP hD hS 1 (xA) rfl rfl (hts _ (List.mem_of_getElem? (i := 3) rfl)) dX0_takesMixed_64 (fun H locs hP hS => ?_)
        replace hP : zP G [shB G xB, shA G xA, shP G (ad 1 xA)] [uB, (sI uA 2 ((gI uT_5 6))), uT_5] H := hP
        refine lv_iconst (v := 1) hx hb dX0_takesMixed_67 (by decide) ?_
        cases h
        exact z_zret hx hb hr hlk rfl hP hS dX0_takesMixed_68
      · replace h := zt hc h
        refine lv_iconst (v := 0) hx hb dX0_takesMixed_44 (by decide) ?_
        cases h
        exact z_zret hx hb hr hlk rfl hP hS dX0_takesMixed_45
end
def rmX0_takesClosed : Room := { frames := 2, cells := 0, slots := 0, locals := 45 }
theorem kvX0_takesClosed : yX0_takesClosed.cls = RX0 ∧ yX0_takesClosed.cls ≠ "java/lang/invoke/MethodHandle" ∧ yX0_takesClosed.cls ≠ "java/lang/invoke/VarHandle" ∧ (parseMethodDescriptor yX0_takesClosed.desc).map (fun d => d.parameters.length) = some 2 := by decide +kernel
section
variable {p : Program} {l : Launch} {e : Env} {s : State} {m : MethodId} {args : Array Value} {below : List Frame} {meth : Method} {c : Code} {G : zG} {xB : Nat → Nat} {xA : Nat → Nat} {rr : Int32} {vA : zSt} {vT : zSt}
set_option maxRecDepth 20000 in
theorem mX0_takesClosed (l : Launch) (G : zG) (xB : Nat → Nat) (xA : Nat → Nat) {uB : zSt} {uA : zSt} {uT : zSt} {l2 : Int32} {rr : Int32} {vA : zSt} {vT : zSt} (h : fX0_takesClosed uB uA uT l2 = some (rr, vA, vT)) : zC l yX0_takesClosed wsX0_takesClosed rmX0_takesClosed [.ref (xA 0), .ref (xB 0), .int l2] G [shB G xB, shA G xA, shP G (ad 1 xA)] [uB, uA, uT] [uB, vA, vT] (some (.int rr)) := by
  refine z_ofW (cc := cX0_takesClosed) (maxL := 3) (ret := some .boolean) (by decide) rfl (Nat.le_of_ble_eq_true rfl) ?_
  intro p e s m args below meth c C0 hK hN hD hP ls hl
  obtain ⟨hx, hb, hr, hml, hown, hts, hlk⟩ := id C0
  have hS : va_S (zA [shB G xB, shA G xA, shP G (ad 1 xA)] s.heap.size) s.heap s.heap [] := va_S.rf
  replace hl : lv_has ls 3 [(0, .ref (xA 0)), (1, .ref (xB 0)), (2, .int l2)] := hl
  have hwX0 : ∀ w ∈ wsX00, w.before args s = true := fun w h => hts w (List.mem_cons_of_mem _ (List.mem_append_left _ (List.mem_append_left _ (List.mem_append_right _ h))))
  have hwX4 : ∀ w ∈ wsX40, w.before args s = true := fun w h => hts w (List.mem_cons_of_mem _ (List.mem_append_left _ (List.mem_append_right _ h)))
  unfold fX0_takesClosed at h
  refine lv_aload_n hx hb dX0_takesClosed_0 rfl (lv_at hl 0 rfl) ?_
  refine rA_1 hx hb hwX0 hown hK hP 1 (xA) rfl rfl (hts _ (List.mem_of_getElem? (i := 1) rfl)) dX0_takesClosed_1 ?_
  refine lv_iconst (v := 1) hx hb dX0_takesClosed_4 (by decide) ?_
  refine lv_icmp_ne (tgt := 34) hx hb dX0_takesClosed_5 (by decide) (fun hc => ?_) (fun hc => ?_)
  · replace h := zf hc h
    refine lv_iconst (v := 0) hx hb dX0_takesClosed_34 (by decide) ?_
    cases h
    exact z_zret hx hb hr hlk rfl hP hS dX0_takesClosed_35
  · replace h := zt hc h
    refine lv_aload_n hx hb dX0_takesClosed_8 rfl (lv_at hl 1 rfl) ?_
    refine lv_iload_n hx hb dX0_takesClosed_9 rfl (lv_at hl 2 rfl) ?_
    refine lv_iconst (v := 0) hx hb dX0_takesClosed_10 (by decide) ?_
    obtain ⟨r_1, hg, h⟩ := zb1_e h
    refine z_callS (As := [.ref (xB 0), .int l2, .int ((0 : Int32))]) (rest := []) ⟨hx, hb, hml, hown, hts⟩ (mX0_isZeroFrom l G (xB) hg) (va_cwS 3 hts gX0_takesClosed_X0_isZeroFrom rfl rfl rfl ksX0_isZeroFrom ⟨Nat.le_of_ble_eq_true rfl, Nat.le_of_ble_eq_true rfl⟩) hP hD hK hN hS (Nat.le_refl _) [0] rfl rfl rfl rfl rfl hl.1 rfl (Nat.le_of_ble_eq_true rfl) dX0_takesClosed_11 ⟨Nat.zero_le _, Nat.zero_le _⟩ (fun H locs hP hS => ?_)
    replace hP : zP G [shB G xB, shA G xA, shP G (ad 1 xA)] [uB, uA, uT] H := hP
    refine lv_if_eq (tgt := 34) hx hb dX0_takesClosed_14 (by decide) (fun hc => ?_) (fun hc => ?_)
    · replace h := zt hc h
      refine lv_iconst (v := 0) hx hb dX0_takesClosed_34 (by decide) ?_
      cases h
      exact z_zret hx hb hr hlk rfl hP hS dX0_takesClosed_35
    · replace h := zf hc h
      refine lv_iload_n hx hb dX0_takesClosed_17 rfl (lv_at hl 2 rfl) ?_
      refine lv_iconst (v := 1) hx hb dX0_takesClosed_18 (by decide) ?_
      refine lv_iadd hx hb dX0_takesClosed_19 ?_
      refine lv_aload_n hx hb dX0_takesClosed_20 rfl (lv_at hl 0 rfl) ?_
      refine rA_0 hx hb hwX0 hown hK hP 1 (xA) rfl rfl (hts _ (List.mem_of_getElem? (i := 2) rfl)) dX0_takesClosed_21 ?_
      obtain ⟨r_2, hg, h⟩ := zb1_e h
      refine z_callV (As := []) (rest := [.int ((l2 + (1 : Int32)))]) (i := 0) ⟨hx, hb, hml, hown, hts⟩ (mX4_ballotVoters l G (ad 1 xA) hg) (cwV 0 hts gX0_takesClosed_X4_ballotVoters rfl rfl rfl kvX4_ballotVoters ⟨Nat.le_of_ble_eq_true rfl, Nat.le_of_ble_eq_true rfl⟩) rfl hP hD hK hN hS (Nat.le_refl _) [2] rfl rfl rfl rfl 2 rfl rfl rfl rfl rfl hl.1 rfl (Nat.le_of_ble_eq_true rfl) dX0_takesClosed_24 ⟨Nat.zero_le _, Nat.zero_le _⟩ (fun H locs hP hS => ?_)
      replace hP : zP G [shB G xB, shA G xA, shP G (ad 1 xA)] [uB, uA, uT] H := hP
      refine lv_iadd hx hb dX0_takesClosed_27 ?_
      refine lv_sipush (v := 160) hx hb dX0_takesClosed_28 (by decide) ?_
      refine lv_icmp_le (tgt := 36) hx hb dX0_takesClosed_31 (by decide) (fun hc => ?_) (fun hc => ?_)
      · replace h := zt hc h
        refine lv_aload_n hx hb dX0_takesClosed_36 rfl (lv_at hl 0 rfl) ?_
        refine rA_0 hx hb hwX0 hown hK hP 1 (xA) rfl rfl (hts _ (List.mem_of_getElem? (i := 2) rfl)) dX0_takesClosed_37 ?_
        obtain ⟨uT_3, hg, h⟩ := zb1_e h
        refine z_callV (As := []) (rest := []) (i := 0) ⟨hx, hb, hml, hown, hts⟩ (mX4_gatherEntries l G (ad 1 xA) hg) (cwV 0 hts gX0_takesClosed_X4_gatherEntries rfl rfl rfl kvX4_gatherEntries ⟨Nat.le_of_ble_eq_true rfl, Nat.le_of_ble_eq_true rfl⟩) rfl hP hD hK hN hS (Nat.le_refl _) [2] rfl rfl rfl rfl 2 rfl rfl rfl rfl rfl hl.1 rfl (Nat.le_of_ble_eq_true rfl) dX0_takesClosed_40 ⟨Nat.zero_le _, Nat.zero_le _⟩ (fun H locs hP hS => ?_)
        replace hP : zP G [shB G xB, shA G xA, shP G (ad 1 xA)] [uB, uA, uT_3] H := hP
        refine lv_aload_n hx hb dX0_takesClosed_43 rfl (lv_at hl 0 rfl) ?_
        refine lv_aload_n hx hb dX0_takesClosed_44 rfl (lv_at hl 0 rfl) ?_
        refine rA_0 hx hb hwX0 hown hK hP 1 (xA) rfl rfl (hts _ (List.mem_of_getElem? (i := 2) rfl)) dX0_takesClosed_45 ?_
        refine rNP_6 hx hb hwX4 hown hK hP 2 (ad 1 xA) rfl rfl (hN.f (List.mem_of_getElem? (i := 8) rfl)) dX0_takesClosed_48 ?_
        refine pA_2 hx hb hwX0 hown hK hP hD hS 1 (xA) rfl rfl (hts _ (List.mem_of_getElem? (i := 3) rfl)) dX0_takesClosed_51 (fun H locs hP hS => ?_)
        replace hP : zP G [shB G xB, shA G xA, shP G (ad 1 xA)] [uB, (sI uA 2 ((gI uT_3 6))), uT_3] H := hP
        refine lv_aload_n hx hb dX0_takesClosed_54 rfl (lv_at hl 0 rfl) ?_
        refine lv_iconst (v := 2) hx hb dX0_takesClosed_55 (by decide) ?_
        refine pA_1 hx hb hwX0 hown hK hP hD hS 1 (xA) rfl rfl (hts _ (List.mem_of_getElem? (i := 1) rfl)) dX0_takesClosed_56 (fun H locs hP hS => ?_)
        replace hP : zP G [shB G xB, shA G xA, shP G (ad 1 xA)] [uB, (sI ((sI uA 2 ((gI uT_3 6)))) 1 ((2 : Int32))), uT_3] H := hP
        refine lv_iconst (v := 1) hx hb dX0_takesClosed_59 (by decide) ?_
        cases h
        exact z_zret hx hb hr hlk rfl hP hS dX0_takesClosed_60
      · replace h := zf hc h
        refine lv_iconst (v := 0) hx hb dX0_takesClosed_34 (by decide) ?_
        cases h
        exact z_zret hx hb hr hlk rfl hP hS dX0_takesClosed_35
end
def rmX0_takesBallot : Room := { frames := 2, cells := 0, slots := 0, locals := 45 }
theorem kvX0_takesBallot : yX0_takesBallot.cls = RX0 ∧ yX0_takesBallot.cls ≠ "java/lang/invoke/MethodHandle" ∧ yX0_takesBallot.cls ≠ "java/lang/invoke/VarHandle" ∧ (parseMethodDescriptor yX0_takesBallot.desc).map (fun d => d.parameters.length) = some 2 := by decide +kernel
section
variable {p : Program} {l : Launch} {e : Env} {s : State} {m : MethodId} {args : Array Value} {below : List Frame} {meth : Method} {c : Code} {G : zG} {xB : Nat → Nat} {xA : Nat → Nat} {rr : Int32} {vT : zSt}
set_option maxRecDepth 20000 in
theorem mX0_takesBallot (l : Launch) (G : zG) (xB : Nat → Nat) (xA : Nat → Nat) {uB : zSt} {uA : zSt} {uT : zSt} {l2 : Int32} {rr : Int32} {vT : zSt} (h : fX0_takesBallot uB uA uT l2 = some (rr, vT)) : zC l yX0_takesBallot wsX0_takesBallot rmX0_takesBallot [.ref (xA 0), .ref (xB 0), .int l2] G [shB G xB, shA G xA, shP G (ad 1 xA)] [uB, uA, uT] [uB, uA, vT] (some (.int rr)) := by
  refine z_ofW (cc := cX0_takesBallot) (maxL := 6) (ret := some .boolean) (by decide) rfl (Nat.le_of_ble_eq_true rfl) ?_
  intro p e s m args below meth c C0 hK hN hD hP ls hl
  obtain ⟨hx, hb, hr, hml, hown, hts, hlk⟩ := id C0
  have hS : va_S (zA [shB G xB, shA G xA, shP G (ad 1 xA)] s.heap.size) s.heap s.heap [] := va_S.rf
  replace hl : lv_has ls 6 [(0, .ref (xA 0)), (1, .ref (xB 0)), (2, .int l2)] := hl
  have hwX0 : ∀ w ∈ wsX00, w.before args s = true := fun w h => hts w (List.mem_cons_of_mem _ (List.mem_append_left _ (List.mem_append_left _ (List.mem_append_right _ h))))
  have hwX4 : ∀ w ∈ wsX40, w.before args s = true := fun w h => hts w (List.mem_cons_of_mem _ (List.mem_append_left _ (List.mem_append_right _ h)))
  unfold fX0_takesBallot at h
  refine lv_aload_n hx hb dX0_takesBallot_0 rfl (lv_at hl 1 rfl) ?_
  refine lv_iload_n hx hb dX0_takesBallot_1 rfl (lv_at hl 2 rfl) ?_
  refine lv_iconst (v := 0) hx hb dX0_takesBallot_2 (by decide) ?_
  obtain ⟨r_1, hg, h⟩ := zb1_e h
  refine z_callV (As := [.int l2, .int ((0 : Int32))]) (rest := []) (i := 0) ⟨hx, hb, hml, hown, hts⟩ (mX1_number l G (xB) hg) (cwV 2 hts gX0_takesBallot_X1_number rfl rfl rfl kvX1_number ⟨Nat.le_of_ble_eq_true rfl, Nat.le_of_ble_eq_true rfl⟩) rfl hP hD hK hN hS (Nat.le_refl _) [0] rfl rfl rfl rfl 0 rfl rfl rfl rfl rfl hl.1 rfl (Nat.le_of_ble_eq_true rfl) dX0_takesBallot_3 ⟨Nat.zero_le _, Nat.zero_le _⟩ (fun H locs hP hS => ?_)
  replace hP : zP G [shB G xB, shA G xA, shP G (ad 1 xA)] [uB, uA, uT] H := hP
  refine lv_istore_n (lv' := [(3, .int r_1), (0, .ref (xA 0)), (1, .ref (xB 0)), (2, .int l2)]) hx hb dX0_takesBallot_6 rfl hl (by decide) rfl (fun ls hl => ?_)
  refine lv_aload_n hx hb dX0_takesBallot_7 rfl (lv_at hl 2 rfl) ?_
  refine lv_iload_n hx hb dX0_takesBallot_8 rfl (lv_at hl 3 rfl) ?_
  refine lv_iconst (v := 1) hx hb dX0_takesBallot_9 (by decide) ?_
  obtain ⟨r_2, hg, h⟩ := zb1_e h
  refine z_callV (As := [.int l2, .int ((1 : Int32))]) (rest := []) (i := 0) ⟨hx, hb, hml, hown, hts⟩ (mX1_number l G (xB) hg) (cwV 2 hts gX0_takesBallot_X1_number rfl rfl rfl kvX1_number ⟨Nat.le_of_ble_eq_true rfl, Nat.le_of_ble_eq_true rfl⟩) rfl hP hD hK hN hS (Nat.le_refl _) [0] rfl rfl rfl rfl 0 rfl rfl rfl rfl rfl hl.1 rfl (Nat.le_of_ble_eq_true rfl) dX0_takesBallot_10 ⟨Nat.zero_le _, Nat.zero_le _⟩ (fun H locs hP hS => ?_)
  replace hP : zP G [shB G xB, shA G xA, shP G (ad 1 xA)] [uB, uA, uT] H := hP
  refine lv_istore (lv' := [(4, .int r_2), (3, .int r_1), (0, .ref (xA 0)), (1, .ref (xB 0)), (2, .int l2)]) hx hb dX0_takesBallot_13 hl (by decide) rfl (fun ls hl => ?_)
  refine lv_aload_n hx hb dX0_takesBallot_15 rfl (lv_at hl 3 rfl) ?_
  refine lv_iload_n hx hb dX0_takesBallot_16 rfl (lv_at hl 4 rfl) ?_
  refine lv_iconst (v := 2) hx hb dX0_takesBallot_17 (by decide) ?_
  obtain ⟨r_3, hg, h⟩ := zb1_e h
  refine z_callV (As := [.int l2, .int ((2 : Int32))]) (rest := []) (i := 0) ⟨hx, hb, hml, hown, hts⟩ (mX1_number l G (xB) hg) (cwV 2 hts gX0_takesBallot_X1_number rfl rfl rfl kvX1_number ⟨Nat.le_of_ble_eq_true rfl, Nat.le_of_ble_eq_true rfl⟩) rfl hP hD hK hN hS (Nat.le_refl _) [0] rfl rfl rfl rfl 0 rfl rfl rfl rfl rfl hl.1 rfl (Nat.le_of_ble_eq_true rfl) dX0_takesBallot_18 ⟨Nat.zero_le _, Nat.zero_le _⟩ (fun H locs hP hS => ?_)
  replace hP : zP G [shB G xB, shA G xA, shP G (ad 1 xA)] [uB, uA, uT] H := hP
  refine lv_istore (lv' := [(5, .int r_3), (4, .int r_2), (3, .int r_1), (0, .ref (xA 0)), (1, .ref (xB 0)), (2, .int l2)]) hx hb dX0_takesBallot_21 hl (by decide) rfl (fun ls hl => ?_)
  refine lv_aload_n hx hb dX0_takesBallot_23 rfl (lv_at hl 3 rfl) ?_
  refine rA_1 hx hb hwX0 hown hK hP 1 (xA) rfl rfl (hts _ (List.mem_of_getElem? (i := 1) rfl)) dX0_takesBallot_24 ?_
  refine lv_iconst (v := 1) hx hb dX0_takesBallot_27 (by decide) ?_
  refine lv_icmp_ne (tgt := 59) hx hb dX0_takesBallot_28 (by decide) (fun hc => ?_) (fun hc => ?_)
  · replace h := zf hc h
    refine lv_iconst (v := 0) hx hb dX0_takesBallot_59 (by decide) ?_
    cases h
    exact z_zret hx hb hr hlk rfl hP hS dX0_takesBallot_60
  · replace h := zt hc h
    refine lv_aload_n hx hb dX0_takesBallot_31 rfl (lv_at hl 4 rfl) ?_
    refine lv_iload_n hx hb dX0_takesBallot_32 rfl (lv_at hl 5 rfl) ?_
    refine lv_iconst (v := 3) hx hb dX0_takesBallot_33 (by decide) ?_
    obtain ⟨r_4, hg, h⟩ := zb1_e h
    refine z_callS (As := [.ref (xB 0), .int l2, .int ((3 : Int32))]) (rest := []) ⟨hx, hb, hml, hown, hts⟩ (mX0_isZeroFrom l G (xB) hg) (va_cwS 3 hts gX0_takesBallot_X0_isZeroFrom rfl rfl rfl ksX0_isZeroFrom ⟨Nat.le_of_ble_eq_true rfl, Nat.le_of_ble_eq_true rfl⟩) hP hD hK hN hS (Nat.le_refl _) [0] rfl rfl rfl rfl rfl hl.1 rfl (Nat.le_of_ble_eq_true rfl) dX0_takesBallot_34 ⟨Nat.zero_le _, Nat.zero_le _⟩ (fun H locs hP hS => ?_)
    replace hP : zP G [shB G xB, shA G xA, shP G (ad 1 xA)] [uB, uA, uT] H := hP
    refine lv_if_eq (tgt := 59) hx hb dX0_takesBallot_37 (by decide) (fun hc => ?_) (fun hc => ?_)
    · replace h := zt hc h
      refine lv_iconst (v := 0) hx hb dX0_takesBallot_59 (by decide) ?_
      cases h
      exact z_zret hx hb hr hlk rfl hP hS dX0_takesBallot_60
    · replace h := zf hc h
      refine lv_iload_n hx hb dX0_takesBallot_40 rfl (lv_at hl 2 rfl) ?_
      obtain ⟨r_5, hg, h⟩ := zb1_e h
      refine z_callSN (As := [.int r_1]) (rest := []) ⟨hx, hb, hml, hown, hts⟩ (mX6_isVoter l G  hg) ⟨va_cnB 1 hts gX0_takesBallot_X6_isVoter_n83 rfl rfl rfl (hN.2 _ (List.mem_of_getElem? (i := 5) rfl)) (hts _ (List.mem_of_getElem? (i := 14) rfl)) ksX6_isVoter ⟨Nat.le_of_ble_eq_true rfl, Nat.le_of_ble_eq_true rfl⟩, hts _ (List.mem_of_getElem? (i := 13) rfl), trivial⟩ hP hD hK hN hS (Nat.le_refl _) [] rfl rfl rfl rfl rfl hl.1 rfl (Nat.le_of_ble_eq_true rfl) dX0_takesBallot_41 ⟨Nat.zero_le _, Nat.zero_le _⟩ (fun H locs hP hS => ?_)
      replace hP : zP G [shB G xB, shA G xA, shP G (ad 1 xA)] [uB, uA, uT] H := hP
      refine lv_if_eq (tgt := 59) hx hb dX0_takesBallot_44 (by decide) (fun hc => ?_) (fun hc => ?_)
      · replace h := zt hc h
        refine lv_iconst (v := 0) hx hb dX0_takesBallot_59 (by decide) ?_
        cases h
        exact z_zret hx hb hr hlk rfl hP hS dX0_takesBallot_60
      · replace h := zf hc h
        refine lv_aload_n hx hb dX0_takesBallot_47 rfl (lv_at hl 3 rfl) ?_
        refine rA_0 hx hb hwX0 hown hK hP 1 (xA) rfl rfl (hts _ (List.mem_of_getElem? (i := 2) rfl)) dX0_takesBallot_48 ?_
        refine rNP_2 hx hb hwX4 hown hK hP 2 (ad 1 xA) rfl rfl (hN.f (List.mem_of_getElem? (i := 6) rfl)) dX0_takesBallot_51 ?_
        refine lv_iload_n hx hb dX0_takesBallot_54 rfl (lv_at hl 2 rfl) ?_
        obtain ⟨hi, h⟩ := zin_e h
        refine aP_2 hx hb hK hP 2 (ad 1 xA) rfl rfl hi rfl dX0_takesBallot_55 ?_
        refine lv_if_ne (tgt := 61) hx hb dX0_takesBallot_56 (by decide) (fun hc => ?_) (fun hc => ?_)
        · replace h := zf hc h
          refine lv_iload hx hb dX0_takesBallot_61 (lv_at hl 1 rfl) ?_
          obtain ⟨r_6, hg, h⟩ := zb1_e h
          refine z_callS (As := [.int r_2]) (rest := []) ⟨hx, hb, hml, hown, hts⟩ (mX3_isElement l G  hg) (va_cwS 1 hts gX0_takesBallot_X3_isElement rfl rfl rfl ksX3_isElement ⟨Nat.le_of_ble_eq_true rfl, Nat.le_of_ble_eq_true rfl⟩) hP hD hK hN hS (Nat.le_refl _) [] rfl rfl rfl rfl rfl hl.1 rfl (Nat.le_of_ble_eq_true rfl) dX0_takesBallot_63 ⟨Nat.zero_le _, Nat.zero_le _⟩ (fun H locs hP hS => ?_)
          replace hP : zP G [shB G xB, shA G xA, shP G (ad 1 xA)] [uB, uA, uT] H := hP
          refine lv_if_eq (tgt := 77) hx hb dX0_takesBallot_66 (by decide) (fun hc => ?_) (fun hc => ?_)
          · replace h := zt hc h
            refine lv_iconst (v := 0) hx hb dX0_takesBallot_77 (by decide) ?_
            cases h
            exact z_zret hx hb hr hlk rfl hP hS dX0_takesBallot_78
          · replace h := zf hc h
            refine lv_iload hx hb dX0_takesBallot_69 (lv_at hl 0 rfl) ?_
            obtain ⟨r_7, hg, h⟩ := zb1_e h
            refine z_callS (As := [.int r_3]) (rest := []) ⟨hx, hb, hml, hown, hts⟩ (mX3_isElement l G  hg) (va_cwS 1 hts gX0_takesBallot_X3_isElement rfl rfl rfl ksX3_isElement ⟨Nat.le_of_ble_eq_true rfl, Nat.le_of_ble_eq_true rfl⟩) hP hD hK hN hS (Nat.le_refl _) [] rfl rfl rfl rfl rfl hl.1 rfl (Nat.le_of_ble_eq_true rfl) dX0_takesBallot_71 ⟨Nat.zero_le _, Nat.zero_le _⟩ (fun H locs hP hS => ?_)
            replace hP : zP G [shB G xB, shA G xA, shP G (ad 1 xA)] [uB, uA, uT] H := hP
            refine lv_if_ne (tgt := 79) hx hb dX0_takesBallot_74 (by decide) (fun hc => ?_) (fun hc => ?_)
            · replace h := zf hc h
              refine lv_aload_n hx hb dX0_takesBallot_79 rfl (lv_at hl 3 rfl) ?_
              refine rA_0 hx hb hwX0 hown hK hP 1 (xA) rfl rfl (hts _ (List.mem_of_getElem? (i := 2) rfl)) dX0_takesBallot_80 ?_
              refine lv_iload_n hx hb dX0_takesBallot_83 rfl (lv_at hl 2 rfl) ?_
              refine lv_iload hx hb dX0_takesBallot_84 (lv_at hl 1 rfl) ?_
              refine lv_iload hx hb dX0_takesBallot_86 (lv_at hl 0 rfl) ?_
              obtain ⟨uT_8, hg, h⟩ := zb1_e h
              refine z_callV (As := [.int r_1, .int r_2, .int r_3]) (rest := []) (i := 0) ⟨hx, hb, hml, hown, hts⟩ (mX4_keepBallot l G (ad 1 xA) hg) (cwV 3 hts gX0_takesBallot_X4_keepBallot rfl rfl rfl kvX4_keepBallot ⟨Nat.le_of_ble_eq_true rfl, Nat.le_of_ble_eq_true rfl⟩) rfl hP hD hK hN hS (Nat.le_refl _) [2] rfl rfl rfl rfl 2 rfl rfl rfl rfl rfl hl.1 rfl (Nat.le_of_ble_eq_true rfl) dX0_takesBallot_88 ⟨Nat.zero_le _, Nat.zero_le _⟩ (fun H locs hP hS => ?_)
              replace hP : zP G [shB G xB, shA G xA, shP G (ad 1 xA)] [uB, uA, uT_8] H := hP
              refine lv_iconst (v := 1) hx hb dX0_takesBallot_91 (by decide) ?_
              cases h
              exact z_zret hx hb hr hlk rfl hP hS dX0_takesBallot_92
            · replace h := zt hc h
              refine lv_iconst (v := 0) hx hb dX0_takesBallot_77 (by decide) ?_
              cases h
              exact z_zret hx hb hr hlk rfl hP hS dX0_takesBallot_78
        · replace h := zt hc h
          refine lv_iconst (v := 0) hx hb dX0_takesBallot_59 (by decide) ?_
          cases h
          exact z_zret hx hb hr hlk rfl hP hS dX0_takesBallot_60
end
def rmX0_takesVoter : Room := { frames := 2, cells := 0, slots := 0, locals := 45 }
theorem kvX0_takesVoter : yX0_takesVoter.cls = RX0 ∧ yX0_takesVoter.cls ≠ "java/lang/invoke/MethodHandle" ∧ yX0_takesVoter.cls ≠ "java/lang/invoke/VarHandle" ∧ (parseMethodDescriptor yX0_takesVoter.desc).map (fun d => d.parameters.length) = some 2 := by decide +kernel
section
variable {p : Program} {l : Launch} {e : Env} {s : State} {m : MethodId} {args : Array Value} {below : List Frame} {meth : Method} {c : Code} {G : zG} {xB : Nat → Nat} {xA : Nat → Nat} {rr : Int32} {vT : zSt}
set_option maxRecDepth 20000 in
theorem mX0_takesVoter (l : Launch) (G : zG) (xB : Nat → Nat) (xA : Nat → Nat) {uB : zSt} {uA : zSt} {uT : zSt} {l2 : Int32} {rr : Int32} {vT : zSt} (h : fX0_takesVoter uB uA uT l2 = some (rr, vT)) : zC l yX0_takesVoter wsX0_takesVoter rmX0_takesVoter [.ref (xA 0), .ref (xB 0), .int l2] G [shB G xB, shA G xA, shP G (ad 1 xA)] [uB, uA, uT] [uB, uA, vT] (some (.int rr)) := by
  refine z_ofW (cc := cX0_takesVoter) (maxL := 4) (ret := some .boolean) (by decide) rfl (Nat.le_of_ble_eq_true rfl) ?_
  intro p e s m args below meth c C0 hK hN hD hP ls hl
  obtain ⟨hx, hb, hr, hml, hown, hts, hlk⟩ := id C0
  have hS : va_S (zA [shB G xB, shA G xA, shP G (ad 1 xA)] s.heap.size) s.heap s.heap [] := va_S.rf
  replace hl : lv_has ls 4 [(0, .ref (xA 0)), (1, .ref (xB 0)), (2, .int l2)] := hl
  have hwX0 : ∀ w ∈ wsX00, w.before args s = true := fun w h => hts w (List.mem_cons_of_mem _ (List.mem_append_left _ (List.mem_append_left _ (List.mem_append_right _ h))))
  have hwX4 : ∀ w ∈ wsX40, w.before args s = true := fun w h => hts w (List.mem_cons_of_mem _ (List.mem_append_left _ (List.mem_append_right _ h)))
  unfold fX0_takesVoter at h
  refine lv_aload_n hx hb dX0_takesVoter_0 rfl (lv_at hl 1 rfl) ?_
  refine lv_iload_n hx hb dX0_takesVoter_1 rfl (lv_at hl 2 rfl) ?_
  refine lv_iconst (v := 0) hx hb dX0_takesVoter_2 (by decide) ?_
  obtain ⟨r_1, hg, h⟩ := zb1_e h
  refine z_callV (As := [.int l2, .int ((0 : Int32))]) (rest := []) (i := 0) ⟨hx, hb, hml, hown, hts⟩ (mX1_number l G (xB) hg) (cwV 2 hts gX0_takesVoter_X1_number rfl rfl rfl kvX1_number ⟨Nat.le_of_ble_eq_true rfl, Nat.le_of_ble_eq_true rfl⟩) rfl hP hD hK hN hS (Nat.le_refl _) [0] rfl rfl rfl rfl 0 rfl rfl rfl rfl rfl hl.1 rfl (Nat.le_of_ble_eq_true rfl) dX0_takesVoter_3 ⟨Nat.zero_le _, Nat.zero_le _⟩ (fun H locs hP hS => ?_)
  replace hP : zP G [shB G xB, shA G xA, shP G (ad 1 xA)] [uB, uA, uT] H := hP
  refine lv_istore_n (lv' := [(3, .int r_1), (0, .ref (xA 0)), (1, .ref (xB 0)), (2, .int l2)]) hx hb dX0_takesVoter_6 rfl hl (by decide) rfl (fun ls hl => ?_)
  refine lv_aload_n hx hb dX0_takesVoter_7 rfl (lv_at hl 1 rfl) ?_
  refine rA_1 hx hb hwX0 hown hK hP 1 (xA) rfl rfl (hts _ (List.mem_of_getElem? (i := 1) rfl)) dX0_takesVoter_8 ?_
  refine lv_iconst (v := 1) hx hb dX0_takesVoter_11 (by decide) ?_
  refine lv_icmp_ne (tgt := 43) hx hb dX0_takesVoter_12 (by decide) (fun hc => ?_) (fun hc => ?_)
  · replace h := zf hc h
    refine lv_iconst (v := 0) hx hb dX0_takesVoter_43 (by decide) ?_
    cases h
    exact z_zret hx hb hr hlk rfl hP hS dX0_takesVoter_44
  · replace h := zt hc h
    refine lv_aload_n hx hb dX0_takesVoter_15 rfl (lv_at hl 2 rfl) ?_
    refine lv_iload_n hx hb dX0_takesVoter_16 rfl (lv_at hl 3 rfl) ?_
    refine lv_iconst (v := 1) hx hb dX0_takesVoter_17 (by decide) ?_
    obtain ⟨r_2, hg, h⟩ := zb1_e h
    refine z_callS (As := [.ref (xB 0), .int l2, .int ((1 : Int32))]) (rest := []) ⟨hx, hb, hml, hown, hts⟩ (mX0_isZeroFrom l G (xB) hg) (va_cwS 3 hts gX0_takesVoter_X0_isZeroFrom rfl rfl rfl ksX0_isZeroFrom ⟨Nat.le_of_ble_eq_true rfl, Nat.le_of_ble_eq_true rfl⟩) hP hD hK hN hS (Nat.le_refl _) [0] rfl rfl rfl rfl rfl hl.1 rfl (Nat.le_of_ble_eq_true rfl) dX0_takesVoter_18 ⟨Nat.zero_le _, Nat.zero_le _⟩ (fun H locs hP hS => ?_)
    replace hP : zP G [shB G xB, shA G xA, shP G (ad 1 xA)] [uB, uA, uT] H := hP
    refine lv_if_eq (tgt := 43) hx hb dX0_takesVoter_21 (by decide) (fun hc => ?_) (fun hc => ?_)
    · replace h := zt hc h
      refine lv_iconst (v := 0) hx hb dX0_takesVoter_43 (by decide) ?_
      cases h
      exact z_zret hx hb hr hlk rfl hP hS dX0_takesVoter_44
    · replace h := zf hc h
      refine lv_iload_n hx hb dX0_takesVoter_24 rfl (lv_at hl 0 rfl) ?_
      obtain ⟨r_3, hg, h⟩ := zb1_e h
      refine z_callSN (As := [.int r_1]) (rest := []) ⟨hx, hb, hml, hown, hts⟩ (mX6_isVoter l G  hg) ⟨va_cnB 1 hts gX0_takesVoter_X6_isVoter_n83 rfl rfl rfl (hN.2 _ (List.mem_of_getElem? (i := 5) rfl)) (hts _ (List.mem_of_getElem? (i := 14) rfl)) ksX6_isVoter ⟨Nat.le_of_ble_eq_true rfl, Nat.le_of_ble_eq_true rfl⟩, hts _ (List.mem_of_getElem? (i := 13) rfl), trivial⟩ hP hD hK hN hS (Nat.le_refl _) [] rfl rfl rfl rfl rfl hl.1 rfl (Nat.le_of_ble_eq_true rfl) dX0_takesVoter_25 ⟨Nat.zero_le _, Nat.zero_le _⟩ (fun H locs hP hS => ?_)
      replace hP : zP G [shB G xB, shA G xA, shP G (ad 1 xA)] [uB, uA, uT] H := hP
      refine lv_if_eq (tgt := 43) hx hb dX0_takesVoter_28 (by decide) (fun hc => ?_) (fun hc => ?_)
      · replace h := zt hc h
        refine lv_iconst (v := 0) hx hb dX0_takesVoter_43 (by decide) ?_
        cases h
        exact z_zret hx hb hr hlk rfl hP hS dX0_takesVoter_44
      · replace h := zf hc h
        refine lv_aload_n hx hb dX0_takesVoter_31 rfl (lv_at hl 1 rfl) ?_
        refine rA_0 hx hb hwX0 hown hK hP 1 (xA) rfl rfl (hts _ (List.mem_of_getElem? (i := 2) rfl)) dX0_takesVoter_32 ?_
        refine rNP_2 hx hb hwX4 hown hK hP 2 (ad 1 xA) rfl rfl (hN.f (List.mem_of_getElem? (i := 6) rfl)) dX0_takesVoter_35 ?_
        refine lv_iload_n hx hb dX0_takesVoter_38 rfl (lv_at hl 0 rfl) ?_
        obtain ⟨hi, h⟩ := zin_e h
        refine aP_2 hx hb hK hP 2 (ad 1 xA) rfl rfl hi rfl dX0_takesVoter_39 ?_
        refine lv_if_eq (tgt := 45) hx hb dX0_takesVoter_40 (by decide) (fun hc => ?_) (fun hc => ?_)
        · replace h := zt hc h
          refine lv_aload_n hx hb dX0_takesVoter_45 rfl (lv_at hl 1 rfl) ?_
          refine rA_0 hx hb hwX0 hown hK hP 1 (xA) rfl rfl (hts _ (List.mem_of_getElem? (i := 2) rfl)) dX0_takesVoter_46 ?_
          refine rNP_2 hx hb hwX4 hown hK hP 2 (ad 1 xA) rfl rfl (hN.f (List.mem_of_getElem? (i := 6) rfl)) dX0_takesVoter_49 ?_
          refine lv_iload_n hx hb dX0_takesVoter_52 rfl (lv_at hl 0 rfl) ?_
          refine lv_iconst (v := 1) hx hb dX0_takesVoter_53 (by decide) ?_
          obtain ⟨hi, h⟩ := zin_e h
          refine tP_2 hx hb hK hP hD hS 2 (ad 1 xA) rfl rfl hi rfl vnb_1 dX0_takesVoter_54 (fun H locs hP hS => ?_)
          replace hP : zP G [shB G xB, shA G xA, shP G (ad 1 xA)] [uB, uA, (sA uT 2 r_1.toNatClampNeg ((1 : Int32)))] H := hP
          refine lv_iconst (v := 1) hx hb dX0_takesVoter_55 (by decide) ?_
          cases h
          exact z_zret hx hb hr hlk rfl hP hS dX0_takesVoter_56
        · replace h := zf hc h
          refine lv_iconst (v := 0) hx hb dX0_takesVoter_43 (by decide) ?_
          cases h
          exact z_zret hx hb hr hlk rfl hP hS dX0_takesVoter_44
end
def rmX0_takesBegun : Room := { frames := 2, cells := 0, slots := 0, locals := 45 }
theorem kvX0_takesBegun : yX0_takesBegun.cls = RX0 ∧ yX0_takesBegun.cls ≠ "java/lang/invoke/MethodHandle" ∧ yX0_takesBegun.cls ≠ "java/lang/invoke/VarHandle" ∧ (parseMethodDescriptor yX0_takesBegun.desc).map (fun d => d.parameters.length) = some 2 := by decide +kernel
section
variable {p : Program} {l : Launch} {e : Env} {s : State} {m : MethodId} {args : Array Value} {below : List Frame} {meth : Method} {c : Code} {G : zG} {xB : Nat → Nat} {xA : Nat → Nat} {rr : Int32} {vA : zSt} {vT : zSt}
set_option maxRecDepth 20000 in
theorem mX0_takesBegun (l : Launch) (G : zG) (xB : Nat → Nat) (xA : Nat → Nat) {uB : zSt} {uA : zSt} {uT : zSt} {l2 : Int32} {rr : Int32} {vA : zSt} {vT : zSt} (h : fX0_takesBegun uB uA uT l2 = some (rr, vA, vT)) : zC l yX0_takesBegun wsX0_takesBegun rmX0_takesBegun [.ref (xA 0), .ref (xB 0), .int l2] G [shB G xB, shA G xA, shP G (ad 1 xA)] [uB, uA, uT] [uB, vA, vT] (some (.int rr)) := by
  refine z_ofW (cc := cX0_takesBegun) (maxL := 6) (ret := some .boolean) (by decide) rfl (Nat.le_of_ble_eq_true rfl) ?_
  intro p e s m args below meth c C0 hK hN hD hP ls hl
  obtain ⟨hx, hb, hr, hml, hown, hts, hlk⟩ := id C0
  have hS : va_S (zA [shB G xB, shA G xA, shP G (ad 1 xA)] s.heap.size) s.heap s.heap [] := va_S.rf
  replace hl : lv_has ls 6 [(0, .ref (xA 0)), (1, .ref (xB 0)), (2, .int l2)] := hl
  have hwX0 : ∀ w ∈ wsX00, w.before args s = true := fun w h => hts w (List.mem_cons_of_mem _ (List.mem_append_left _ (List.mem_append_left _ (List.mem_append_right _ h))))
  unfold fX0_takesBegun at h
  refine lv_aload_n hx hb dX0_takesBegun_0 rfl (lv_at hl 1 rfl) ?_
  refine lv_iload_n hx hb dX0_takesBegun_1 rfl (lv_at hl 2 rfl) ?_
  refine lv_iconst (v := 0) hx hb dX0_takesBegun_2 (by decide) ?_
  obtain ⟨r_1, hg, h⟩ := zb1_e h
  refine z_callV (As := [.int l2, .int ((0 : Int32))]) (rest := []) (i := 0) ⟨hx, hb, hml, hown, hts⟩ (mX1_number l G (xB) hg) (cwV 2 hts gX0_takesBegun_X1_number rfl rfl rfl kvX1_number ⟨Nat.le_of_ble_eq_true rfl, Nat.le_of_ble_eq_true rfl⟩) rfl hP hD hK hN hS (Nat.le_refl _) [0] rfl rfl rfl rfl 0 rfl rfl rfl rfl rfl hl.1 rfl (Nat.le_of_ble_eq_true rfl) dX0_takesBegun_3 ⟨Nat.zero_le _, Nat.zero_le _⟩ (fun H locs hP hS => ?_)
  replace hP : zP G [shB G xB, shA G xA, shP G (ad 1 xA)] [uB, uA, uT] H := hP
  refine lv_istore_n (lv' := [(3, .int r_1), (0, .ref (xA 0)), (1, .ref (xB 0)), (2, .int l2)]) hx hb dX0_takesBegun_6 rfl hl (by decide) rfl (fun ls hl => ?_)
  refine lv_aload_n hx hb dX0_takesBegun_7 rfl (lv_at hl 2 rfl) ?_
  refine lv_iload_n hx hb dX0_takesBegun_8 rfl (lv_at hl 3 rfl) ?_
  refine lv_iconst (v := 1) hx hb dX0_takesBegun_9 (by decide) ?_
  obtain ⟨r_2, hg, h⟩ := zb1_e h
  refine z_callV (As := [.int l2, .int ((1 : Int32))]) (rest := []) (i := 0) ⟨hx, hb, hml, hown, hts⟩ (mX1_number l G (xB) hg) (cwV 2 hts gX0_takesBegun_X1_number rfl rfl rfl kvX1_number ⟨Nat.le_of_ble_eq_true rfl, Nat.le_of_ble_eq_true rfl⟩) rfl hP hD hK hN hS (Nat.le_refl _) [0] rfl rfl rfl rfl 0 rfl rfl rfl rfl rfl hl.1 rfl (Nat.le_of_ble_eq_true rfl) dX0_takesBegun_10 ⟨Nat.zero_le _, Nat.zero_le _⟩ (fun H locs hP hS => ?_)
  replace hP : zP G [shB G xB, shA G xA, shP G (ad 1 xA)] [uB, uA, uT] H := hP
  refine lv_istore (lv' := [(4, .int r_2), (3, .int r_1), (0, .ref (xA 0)), (1, .ref (xB 0)), (2, .int l2)]) hx hb dX0_takesBegun_13 hl (by decide) rfl (fun ls hl => ?_)
  refine lv_aload_n hx hb dX0_takesBegun_15 rfl (lv_at hl 3 rfl) ?_
  refine lv_iload_n hx hb dX0_takesBegun_16 rfl (lv_at hl 4 rfl) ?_
  refine lv_iconst (v := 2) hx hb dX0_takesBegun_17 (by decide) ?_
  obtain ⟨r_3, hg, h⟩ := zb1_e h
  refine z_callV (As := [.int l2, .int ((2 : Int32))]) (rest := []) (i := 0) ⟨hx, hb, hml, hown, hts⟩ (mX1_number l G (xB) hg) (cwV 2 hts gX0_takesBegun_X1_number rfl rfl rfl kvX1_number ⟨Nat.le_of_ble_eq_true rfl, Nat.le_of_ble_eq_true rfl⟩) rfl hP hD hK hN hS (Nat.le_refl _) [0] rfl rfl rfl rfl 0 rfl rfl rfl rfl rfl hl.1 rfl (Nat.le_of_ble_eq_true rfl) dX0_takesBegun_18 ⟨Nat.zero_le _, Nat.zero_le _⟩ (fun H locs hP hS => ?_)
  replace hP : zP G [shB G xB, shA G xA, shP G (ad 1 xA)] [uB, uA, uT] H := hP
  refine lv_istore (lv' := [(5, .int r_3), (4, .int r_2), (3, .int r_1), (0, .ref (xA 0)), (1, .ref (xB 0)), (2, .int l2)]) hx hb dX0_takesBegun_21 hl (by decide) rfl (fun ls hl => ?_)
  refine lv_aload_n hx hb dX0_takesBegun_23 rfl (lv_at hl 3 rfl) ?_
  refine rA_1 hx hb hwX0 hown hK hP 1 (xA) rfl rfl (hts _ (List.mem_of_getElem? (i := 1) rfl)) dX0_takesBegun_24 ?_
  refine lv_if_ne (tgt := 39) hx hb dX0_takesBegun_27 (by decide) (fun hc => ?_) (fun hc => ?_)
  · replace h := zf hc h
    refine lv_iconst (v := 0) hx hb dX0_takesBegun_39 (by decide) ?_
    cases h
    exact z_zret hx hb hr hlk rfl hP hS dX0_takesBegun_40
  · replace h := zt hc h
    refine lv_aload_n hx hb dX0_takesBegun_30 rfl (lv_at hl 4 rfl) ?_
    refine lv_iload_n hx hb dX0_takesBegun_31 rfl (lv_at hl 5 rfl) ?_
    refine lv_iconst (v := 3) hx hb dX0_takesBegun_32 (by decide) ?_
    obtain ⟨r_4, hg, h⟩ := zb1_e h
    refine z_callS (As := [.ref (xB 0), .int l2, .int ((3 : Int32))]) (rest := []) ⟨hx, hb, hml, hown, hts⟩ (mX0_isZeroFrom l G (xB) hg) (va_cwS 3 hts gX0_takesBegun_X0_isZeroFrom rfl rfl rfl ksX0_isZeroFrom ⟨Nat.le_of_ble_eq_true rfl, Nat.le_of_ble_eq_true rfl⟩) hP hD hK hN hS (Nat.le_refl _) [0] rfl rfl rfl rfl rfl hl.1 rfl (Nat.le_of_ble_eq_true rfl) dX0_takesBegun_33 ⟨Nat.zero_le _, Nat.zero_le _⟩ (fun H locs hP hS => ?_)
    replace hP : zP G [shB G xB, shA G xA, shP G (ad 1 xA)] [uB, uA, uT] H := hP
    refine lv_if_ne (tgt := 41) hx hb dX0_takesBegun_36 (by decide) (fun hc => ?_) (fun hc => ?_)
    · replace h := zf hc h
      refine lv_iload_n hx hb dX0_takesBegun_41 rfl (lv_at hl 2 rfl) ?_
      obtain ⟨r_5, hg, h⟩ := zb1_e h
      refine z_callS (As := [.int r_1]) (rest := []) ⟨hx, hb, hml, hown, hts⟩ (mX3_isElement l G  hg) (va_cwS 1 hts gX0_takesBegun_X3_isElement rfl rfl rfl ksX3_isElement ⟨Nat.le_of_ble_eq_true rfl, Nat.le_of_ble_eq_true rfl⟩) hP hD hK hN hS (Nat.le_refl _) [] rfl rfl rfl rfl rfl hl.1 rfl (Nat.le_of_ble_eq_true rfl) dX0_takesBegun_42 ⟨Nat.zero_le _, Nat.zero_le _⟩ (fun H locs hP hS => ?_)
      replace hP : zP G [shB G xB, shA G xA, shP G (ad 1 xA)] [uB, uA, uT] H := hP
      refine lv_if_eq (tgt := 64) hx hb dX0_takesBegun_45 (by decide) (fun hc => ?_) (fun hc => ?_)
      · replace h := zt hc h
        refine lv_iconst (v := 0) hx hb dX0_takesBegun_64 (by decide) ?_
        cases h
        exact z_zret hx hb hr hlk rfl hP hS dX0_takesBegun_65
      · replace h := zf hc h
        refine lv_iload hx hb dX0_takesBegun_48 (lv_at hl 1 rfl) ?_
        obtain ⟨r_6, hg, h⟩ := zb1_e h
        refine z_callS (As := [.int r_2]) (rest := []) ⟨hx, hb, hml, hown, hts⟩ (mX3_isElement l G  hg) (va_cwS 1 hts gX0_takesBegun_X3_isElement rfl rfl rfl ksX3_isElement ⟨Nat.le_of_ble_eq_true rfl, Nat.le_of_ble_eq_true rfl⟩) hP hD hK hN hS (Nat.le_refl _) [] rfl rfl rfl rfl rfl hl.1 rfl (Nat.le_of_ble_eq_true rfl) dX0_takesBegun_50 ⟨Nat.zero_le _, Nat.zero_le _⟩ (fun H locs hP hS => ?_)
        replace hP : zP G [shB G xB, shA G xA, shP G (ad 1 xA)] [uB, uA, uT] H := hP
        refine lv_if_eq (tgt := 64) hx hb dX0_takesBegun_53 (by decide) (fun hc => ?_) (fun hc => ?_)
        · replace h := zt hc h
          refine lv_iconst (v := 0) hx hb dX0_takesBegun_64 (by decide) ?_
          cases h
          exact z_zret hx hb hr hlk rfl hP hS dX0_takesBegun_65
        · replace h := zf hc h
          refine lv_iload hx hb dX0_takesBegun_56 (lv_at hl 0 rfl) ?_
          obtain ⟨r_7, hg, h⟩ := zb1_e h
          refine z_callS (As := [.int r_3]) (rest := []) ⟨hx, hb, hml, hown, hts⟩ (mX3_isElement l G  hg) (va_cwS 1 hts gX0_takesBegun_X3_isElement rfl rfl rfl ksX3_isElement ⟨Nat.le_of_ble_eq_true rfl, Nat.le_of_ble_eq_true rfl⟩) hP hD hK hN hS (Nat.le_refl _) [] rfl rfl rfl rfl rfl hl.1 rfl (Nat.le_of_ble_eq_true rfl) dX0_takesBegun_58 ⟨Nat.zero_le _, Nat.zero_le _⟩ (fun H locs hP hS => ?_)
          replace hP : zP G [shB G xB, shA G xA, shP G (ad 1 xA)] [uB, uA, uT] H := hP
          refine lv_if_ne (tgt := 66) hx hb dX0_takesBegun_61 (by decide) (fun hc => ?_) (fun hc => ?_)
          · replace h := zf hc h
            refine lv_aload_n hx hb dX0_takesBegun_66 rfl (lv_at hl 3 rfl) ?_
            refine rA_0 hx hb hwX0 hown hK hP 1 (xA) rfl rfl (hts _ (List.mem_of_getElem? (i := 2) rfl)) dX0_takesBegun_67 ?_
            refine lv_iload_n hx hb dX0_takesBegun_70 rfl (lv_at hl 2 rfl) ?_
            refine lv_iload hx hb dX0_takesBegun_71 (lv_at hl 1 rfl) ?_
            refine lv_iload hx hb dX0_takesBegun_73 (lv_at hl 0 rfl) ?_
            obtain ⟨uT_8, hg, h⟩ := zb1_e h
            refine z_callV (As := [.int r_1, .int r_2, .int r_3]) (rest := []) (i := 0) ⟨hx, hb, hml, hown, hts⟩ (mX4_start l G (ad 1 xA) hg) (cwV 3 hts gX0_takesBegun_X4_start rfl rfl rfl kvX4_start ⟨Nat.le_of_ble_eq_true rfl, Nat.le_of_ble_eq_true rfl⟩) rfl hP hD hK hN hS (Nat.le_refl _) [2] rfl rfl rfl rfl 2 rfl rfl rfl rfl rfl hl.1 rfl (Nat.le_of_ble_eq_true rfl) dX0_takesBegun_75 ⟨Nat.zero_le _, Nat.zero_le _⟩ (fun H locs hP hS => ?_)
            replace hP : zP G [shB G xB, shA G xA, shP G (ad 1 xA)] [uB, uA, uT_8] H := hP
            refine lv_aload_n hx hb dX0_takesBegun_78 rfl (lv_at hl 3 rfl) ?_
            refine lv_iconst (v := 1) hx hb dX0_takesBegun_79 (by decide) ?_
            refine pA_1 hx hb hwX0 hown hK hP hD hS 1 (xA) rfl rfl (hts _ (List.mem_of_getElem? (i := 1) rfl)) dX0_takesBegun_80 (fun H locs hP hS => ?_)
            replace hP : zP G [shB G xB, shA G xA, shP G (ad 1 xA)] [uB, (sI uA 1 ((1 : Int32))), uT_8] H := hP
            refine lv_iconst (v := 1) hx hb dX0_takesBegun_83 (by decide) ?_
            cases h
            exact z_zret hx hb hr hlk rfl hP hS dX0_takesBegun_84
          · replace h := zt hc h
            refine lv_iconst (v := 0) hx hb dX0_takesBegun_64 (by decide) ?_
            cases h
            exact z_zret hx hb hr hlk rfl hP hS dX0_takesBegun_65
    · replace h := zt hc h
      refine lv_iconst (v := 0) hx hb dX0_takesBegun_39 (by decide) ?_
      cases h
      exact z_zret hx hb hr hlk rfl hP hS dX0_takesBegun_40
end
def rmX0_takesEntry : Room := { frames := 2, cells := 0, slots := 0, locals := 45 }
theorem kvX0_takesEntry : yX0_takesEntry.cls = RX0 ∧ yX0_takesEntry.cls ≠ "java/lang/invoke/MethodHandle" ∧ yX0_takesEntry.cls ≠ "java/lang/invoke/VarHandle" ∧ (parseMethodDescriptor yX0_takesEntry.desc).map (fun d => d.parameters.length) = some 2 := by decide +kernel
section
variable {p : Program} {l : Launch} {e : Env} {s : State} {m : MethodId} {args : Array Value} {below : List Frame} {meth : Method} {c : Code} {G : zG} {xB : Nat → Nat} {xA : Nat → Nat} {rr : Int32} {vA : zSt}
set_option maxRecDepth 20000 in
theorem mX0_takesEntry (l : Launch) (G : zG) (xB : Nat → Nat) (xA : Nat → Nat) {uB : zSt} {uA : zSt} {uT : zSt} {l2 : Int32} {rr : Int32} {vA : zSt} (h : fX0_takesEntry uB uA uT l2 = some (rr, vA)) : zC l yX0_takesEntry wsX0_takesEntry rmX0_takesEntry [.ref (xA 0), .ref (xB 0), .int l2] G [shB G xB, shA G xA, shP G (ad 1 xA)] [uB, uA, uT] [uB, vA, uT] (some (.int rr)) := by
  refine z_ofW (cc := cX0_takesEntry) (maxL := 4) (ret := some .boolean) (by decide) rfl (Nat.le_of_ble_eq_true rfl) ?_
  intro p e s m args below meth c C0 hK hN hD hP ls hl
  obtain ⟨hx, hb, hr, hml, hown, hts, hlk⟩ := id C0
  have hS : va_S (zA [shB G xB, shA G xA, shP G (ad 1 xA)] s.heap.size) s.heap s.heap [] := va_S.rf
  replace hl : lv_has ls 4 [(0, .ref (xA 0)), (1, .ref (xB 0)), (2, .int l2)] := hl
  have hwX0 : ∀ w ∈ wsX00, w.before args s = true := fun w h => hts w (List.mem_cons_of_mem _ (List.mem_append_left _ (List.mem_append_left _ (List.mem_append_right _ h))))
  have hwX4 : ∀ w ∈ wsX40, w.before args s = true := fun w h => hts w (List.mem_cons_of_mem _ (List.mem_append_left _ (List.mem_append_right _ h)))
  unfold fX0_takesEntry at h
  refine lv_aload_n hx hb dX0_takesEntry_0 rfl (lv_at hl 0 rfl) ?_
  refine rA_0 hx hb hwX0 hown hK hP 1 (xA) rfl rfl (hts _ (List.mem_of_getElem? (i := 1) rfl)) dX0_takesEntry_1 ?_
  refine rNP_6 hx hb hwX4 hown hK hP 2 (ad 1 xA) rfl rfl (hN.f (List.mem_of_getElem? (i := 8) rfl)) dX0_takesEntry_4 ?_
  refine lv_aload_n hx hb dX0_takesEntry_7 rfl (lv_at hl 0 rfl) ?_
  refine rA_2 hx hb hwX0 hown hK hP 1 (xA) rfl rfl (hts _ (List.mem_of_getElem? (i := 2) rfl)) dX0_takesEntry_8 ?_
  refine lv_isub hx hb dX0_takesEntry_11 ?_
  refine lv_istore_n (lv' := [(3, .int (((gI uT 6) - (gI uA 2)))), (0, .ref (xA 0)), (1, .ref (xB 0)), (2, .int l2)]) hx hb dX0_takesEntry_12 rfl hl (by decide) rfl (fun ls hl => ?_)
  refine lv_aload_n hx hb dX0_takesEntry_13 rfl (lv_at hl 2 rfl) ?_
  refine lv_iload_n hx hb dX0_takesEntry_14 rfl (lv_at hl 3 rfl) ?_
  refine lv_iconst (v := 2) hx hb dX0_takesEntry_15 (by decide) ?_
  obtain ⟨r_1, hg, h⟩ := zb1_e h
  refine z_callS (As := [.ref (xB 0), .int l2, .int ((2 : Int32))]) (rest := []) ⟨hx, hb, hml, hown, hts⟩ (mX0_isZeroFrom l G (xB) hg) (va_cwS 3 hts gX0_takesEntry_X0_isZeroFrom rfl rfl rfl ksX0_isZeroFrom ⟨Nat.le_of_ble_eq_true rfl, Nat.le_of_ble_eq_true rfl⟩) hP hD hK hN hS (Nat.le_refl _) [0] rfl rfl rfl rfl rfl hl.1 rfl (Nat.le_of_ble_eq_true rfl) dX0_takesEntry_16 ⟨Nat.zero_le _, Nat.zero_le _⟩ (fun H locs hP hS => ?_)
  replace hP : zP G [shB G xB, shA G xA, shP G (ad 1 xA)] [uB, uA, uT] H := hP
  refine lv_if_eq (tgt := 58) hx hb dX0_takesEntry_19 (by decide) (fun hc => ?_) (fun hc => ?_)
  · replace h := zt hc h
    refine lv_iconst (v := 0) hx hb dX0_takesEntry_58 (by decide) ?_
    cases h
    exact z_zret hx hb hr hlk rfl hP hS dX0_takesEntry_59
  · replace h := zf hc h
    refine lv_aload_n hx hb dX0_takesEntry_22 rfl (lv_at hl 2 rfl) ?_
    refine lv_iload_n hx hb dX0_takesEntry_23 rfl (lv_at hl 3 rfl) ?_
    refine lv_iconst (v := 0) hx hb dX0_takesEntry_24 (by decide) ?_
    obtain ⟨r_2, hg, h⟩ := zb1_e h
    refine z_callV (As := [.int l2, .int ((0 : Int32))]) (rest := []) (i := 0) ⟨hx, hb, hml, hown, hts⟩ (mX1_number l G (xB) hg) (cwV 2 hts gX0_takesEntry_X1_number rfl rfl rfl kvX1_number ⟨Nat.le_of_ble_eq_true rfl, Nat.le_of_ble_eq_true rfl⟩) rfl hP hD hK hN hS (Nat.le_refl _) [0] rfl rfl rfl rfl 0 rfl rfl rfl rfl rfl hl.1 rfl (Nat.le_of_ble_eq_true rfl) dX0_takesEntry_25 ⟨Nat.zero_le _, Nat.zero_le _⟩ (fun H locs hP hS => ?_)
    replace hP : zP G [shB G xB, shA G xA, shP G (ad 1 xA)] [uB, uA, uT] H := hP
    refine lv_aload_n hx hb dX0_takesEntry_28 rfl (lv_at hl 1 rfl) ?_
    refine rA_0 hx hb hwX0 hown hK hP 1 (xA) rfl rfl (hts _ (List.mem_of_getElem? (i := 1) rfl)) dX0_takesEntry_29 ?_
    refine rNP_7 hx hb hwX4 hown hK hP 2 (ad 1 xA) rfl rfl (hN.f (List.mem_of_getElem? (i := 9) rfl)) dX0_takesEntry_32 ?_
    refine lv_iload_n hx hb dX0_takesEntry_35 rfl (lv_at hl 0 rfl) ?_
    obtain ⟨hi, h⟩ := zin_e h
    refine aP_7 hx hb hK hP 2 (ad 1 xA) rfl rfl hi rfl dX0_takesEntry_36 ?_
    refine lv_icmp_ne (tgt := 58) hx hb dX0_takesEntry_37 (by decide) (fun hc => ?_) (fun hc => ?_)
    · replace h := zf hc h
      refine lv_iconst (v := 0) hx hb dX0_takesEntry_58 (by decide) ?_
      cases h
      exact z_zret hx hb hr hlk rfl hP hS dX0_takesEntry_59
    · replace h := zt hc h
      refine lv_aload_n hx hb dX0_takesEntry_40 rfl (lv_at hl 2 rfl) ?_
      refine lv_iload_n hx hb dX0_takesEntry_41 rfl (lv_at hl 3 rfl) ?_
      refine lv_iconst (v := 1) hx hb dX0_takesEntry_42 (by decide) ?_
      obtain ⟨r_3, hg, h⟩ := zb1_e h
      refine z_callV (As := [.int l2, .int ((1 : Int32))]) (rest := []) (i := 0) ⟨hx, hb, hml, hown, hts⟩ (mX1_number l G (xB) hg) (cwV 2 hts gX0_takesEntry_X1_number rfl rfl rfl kvX1_number ⟨Nat.le_of_ble_eq_true rfl, Nat.le_of_ble_eq_true rfl⟩) rfl hP hD hK hN hS (Nat.le_refl _) [0] rfl rfl rfl rfl 0 rfl rfl rfl rfl rfl hl.1 rfl (Nat.le_of_ble_eq_true rfl) dX0_takesEntry_43 ⟨Nat.zero_le _, Nat.zero_le _⟩ (fun H locs hP hS => ?_)
      replace hP : zP G [shB G xB, shA G xA, shP G (ad 1 xA)] [uB, uA, uT] H := hP
      refine lv_aload_n hx hb dX0_takesEntry_46 rfl (lv_at hl 1 rfl) ?_
      refine rA_0 hx hb hwX0 hown hK hP 1 (xA) rfl rfl (hts _ (List.mem_of_getElem? (i := 1) rfl)) dX0_takesEntry_47 ?_
      refine rNP_8 hx hb hwX4 hown hK hP 2 (ad 1 xA) rfl rfl (hN.f (List.mem_of_getElem? (i := 11) rfl)) dX0_takesEntry_50 ?_
      refine lv_iload_n hx hb dX0_takesEntry_53 rfl (lv_at hl 0 rfl) ?_
      obtain ⟨hi, h⟩ := zin_e h
      refine aP_8 hx hb hK hP 2 (ad 1 xA) rfl rfl hi rfl dX0_takesEntry_54 ?_
      refine lv_icmp_eq (tgt := 60) hx hb dX0_takesEntry_55 (by decide) (fun hc => ?_) (fun hc => ?_)
      · replace h := zt hc h
        refine lv_aload_n hx hb dX0_takesEntry_60 rfl (lv_at hl 1 rfl) ?_
        refine lv_dup hx hb dX0_takesEntry_61 rfl ?_
        refine rA_2 hx hb hwX0 hown hK hP 1 (xA) rfl rfl (hts _ (List.mem_of_getElem? (i := 2) rfl)) dX0_takesEntry_62 ?_
        refine lv_iconst (v := 1) hx hb dX0_takesEntry_65 (by decide) ?_
        refine lv_isub hx hb dX0_takesEntry_66 ?_
        refine pA_2 hx hb hwX0 hown hK hP hD hS 1 (xA) rfl rfl (hts _ (List.mem_of_getElem? (i := 2) rfl)) dX0_takesEntry_67 (fun H locs hP hS => ?_)
        replace hP : zP G [shB G xB, shA G xA, shP G (ad 1 xA)] [uB, (sI uA 2 (((gI uA 2) - (1 : Int32)))), uT] H := hP
        refine lv_iconst (v := 1) hx hb dX0_takesEntry_70 (by decide) ?_
        cases h
        exact z_zret hx hb hr hlk rfl hP hS dX0_takesEntry_71
      · replace h := zf hc h
        refine lv_iconst (v := 0) hx hb dX0_takesEntry_58 (by decide) ?_
        cases h
        exact z_zret hx hb hr hlk rfl hP hS dX0_takesEntry_59
end
def rmX0_takes : Room := { frames := 4, cells := 0, slots := 0, locals := 104 }
theorem kvX0_takes : yX0_takes.cls = RX0 ∧ yX0_takes.cls ≠ "java/lang/invoke/MethodHandle" ∧ yX0_takes.cls ≠ "java/lang/invoke/VarHandle" ∧ (parseMethodDescriptor yX0_takes.desc).map (fun d => d.parameters.length) = some 2 := by decide +kernel
section
variable {p : Program} {l : Launch} {e : Env} {s : State} {m : MethodId} {args : Array Value} {below : List Frame} {meth : Method} {c : Code} {G : zG} {xB : Nat → Nat} {xA : Nat → Nat} {rr : Int32} {vA : zSt} {vT : zSt}
set_option maxRecDepth 20000 in
theorem mX0_takes (l : Launch) (G : zG) (xB : Nat → Nat) (xA : Nat → Nat) {uB : zSt} {uA : zSt} {uT : zSt} {l2 : Int32} {rr : Int32} {vA : zSt} {vT : zSt} (h : fX0_takes uB uA uT l2 = some (rr, vA, vT)) : zC l yX0_takes wsX0_takes rmX0_takes [.ref (xA 0), .ref (xB 0), .int l2] G [shB G xB, shA G xA, shP G (ad 1 xA)] [uB, uA, uT] [uB, vA, vT] (some (.int rr)) := by
  refine z_ofW (cc := cX0_takes) (maxL := 4) (ret := some .boolean) (by decide) rfl (Nat.le_of_ble_eq_true rfl) ?_
  intro p e s m args below meth c C0 hK hN hD hP ls hl
  obtain ⟨hx, hb, hr, hml, hown, hts, hlk⟩ := id C0
  have hS : va_S (zA [shB G xB, shA G xA, shP G (ad 1 xA)] s.heap.size) s.heap s.heap [] := va_S.rf
  replace hl : lv_has ls 4 [(0, .ref (xA 0)), (1, .ref (xB 0)), (2, .int l2)] := hl
  have hwX0 : ∀ w ∈ wsX00, w.before args s = true := fun w h => hts w (List.mem_cons_of_mem _ (List.mem_append_left _ (List.mem_append_left _ (List.mem_append_right _ h))))
  unfold fX0_takes at h
  refine lv_aload_n hx hb dX0_takes_0 rfl (lv_at hl 1 rfl) ?_
  refine lv_iload_n hx hb dX0_takes_1 rfl (lv_at hl 2 rfl) ?_
  obtain ⟨r_1, hg, h⟩ := zb1_e h
  refine z_callV (As := [.int l2]) (rest := []) (i := 0) ⟨hx, hb, hml, hown, hts⟩ (mX1_kind l G (xB) hg) (cwV 1 hts gX0_takes_X1_kind rfl rfl rfl kvX1_kind ⟨Nat.le_of_ble_eq_true rfl, Nat.le_of_ble_eq_true rfl⟩) rfl hP hD hK hN hS (Nat.le_refl _) [0] rfl rfl rfl rfl 0 rfl rfl rfl rfl rfl hl.1 rfl (Nat.le_of_ble_eq_true rfl) dX0_takes_2 ⟨Nat.zero_le _, Nat.zero_le _⟩ (fun H locs hP hS => ?_)
  replace hP : zP G [shB G xB, shA G xA, shP G (ad 1 xA)] [uB, uA, uT] H := hP
  refine lv_istore_n (lv' := [(3, .int r_1), (0, .ref (xA 0)), (1, .ref (xB 0)), (2, .int l2)]) hx hb dX0_takes_5 rfl hl (by decide) rfl (fun ls hl => ?_)
  refine lv_aload_n hx hb dX0_takes_6 rfl (lv_at hl 1 rfl) ?_
  refine rA_2 hx hb hwX0 hown hK hP 1 (xA) rfl rfl (hts _ (List.mem_of_getElem? (i := 1) rfl)) dX0_takes_7 ?_
  refine lv_if_le (tgt := 33) hx hb dX0_takes_10 (by decide) (fun hc => ?_) (fun hc => ?_)
  · replace h := zt hc h
    refine lv_iload_n hx hb dX0_takes_33 rfl (lv_at hl 0 rfl) ?_
    by_cases hc0 : r_1 = (0 : Int32)
    · replace h := zt hc0 h
      refine lv_tableIn (off := 46) (tgt := 80) hx hb dX0_takes_34 (by rw [hc0]; decide) (by rw [hc0]; decide) (by rw [hc0]; rfl) (by decide) ?_
      refine lv_aload_n hx hb dX0_takes_80 rfl (lv_at hl 1 rfl) ?_
      refine lv_aload_n hx hb dX0_takes_81 rfl (lv_at hl 2 rfl) ?_
      refine lv_iload_n hx hb dX0_takes_82 rfl (lv_at hl 3 rfl) ?_
      obtain ⟨r_2, uA_3, uT_4, hg, h⟩ := zb3_e h
      refine z_callV (As := [.ref (xB 0), .int l2]) (rest := []) (i := 0) ⟨hx, hb, hml, hown, hts⟩ (mX0_takesBegun l G (xB) (xA) hg) (cwV 2 hts gX0_takes_X0_takesBegun rfl rfl rfl kvX0_takesBegun ⟨Nat.le_of_ble_eq_true rfl, Nat.le_of_ble_eq_true rfl⟩) rfl hP hD hK hN hS (Nat.le_refl _) [0, 1, 2] rfl rfl rfl rfl 1 rfl rfl rfl rfl rfl hl.1 rfl (Nat.le_of_ble_eq_true rfl) dX0_takes_83 ⟨Nat.zero_le _, Nat.zero_le _⟩ (fun H locs hP hS => ?_)
      replace hP : zP G [shB G xB, shA G xA, shP G (ad 1 xA)] [uB, uA_3, uT_4] H := hP
      obtain ⟨hb9, h⟩ := zbl_e h
      cases h
      exact z_zret hx hb hr hlk hb9 hP hS dX0_takes_86
    · replace h := zf hc0 h
      by_cases hc1 : r_1 = (1 : Int32)
      · replace h := zt hc1 h
        refine lv_tableIn (off := 53) (tgt := 87) hx hb dX0_takes_34 (by rw [hc1]; decide) (by rw [hc1]; decide) (by rw [hc1]; rfl) (by decide) ?_
        refine lv_aload_n hx hb dX0_takes_87 rfl (lv_at hl 1 rfl) ?_
        refine lv_aload_n hx hb dX0_takes_88 rfl (lv_at hl 2 rfl) ?_
        refine lv_iload_n hx hb dX0_takes_89 rfl (lv_at hl 3 rfl) ?_
        obtain ⟨r_5, uT_6, hg, h⟩ := zb2_e h
        refine z_callV (As := [.ref (xB 0), .int l2]) (rest := []) (i := 0) ⟨hx, hb, hml, hown, hts⟩ (mX0_takesVoter l G (xB) (xA) hg) (cwV 2 hts gX0_takes_X0_takesVoter rfl rfl rfl kvX0_takesVoter ⟨Nat.le_of_ble_eq_true rfl, Nat.le_of_ble_eq_true rfl⟩) rfl hP hD hK hN hS (Nat.le_refl _) [0, 1, 2] rfl rfl rfl rfl 1 rfl rfl rfl rfl rfl hl.1 rfl (Nat.le_of_ble_eq_true rfl) dX0_takes_90 ⟨Nat.zero_le _, Nat.zero_le _⟩ (fun H locs hP hS => ?_)
        replace hP : zP G [shB G xB, shA G xA, shP G (ad 1 xA)] [uB, uA, uT_6] H := hP
        obtain ⟨hb9, h⟩ := zbl_e h
        cases h
        exact z_zret hx hb hr hlk hb9 hP hS dX0_takes_93
      · replace h := zf hc1 h
        by_cases hc2 : r_1 = (2 : Int32)
        · replace h := zt hc2 h
          refine lv_tableIn (off := 60) (tgt := 94) hx hb dX0_takes_34 (by rw [hc2]; decide) (by rw [hc2]; decide) (by rw [hc2]; rfl) (by decide) ?_
          refine lv_aload_n hx hb dX0_takes_94 rfl (lv_at hl 1 rfl) ?_
          refine lv_aload_n hx hb dX0_takes_95 rfl (lv_at hl 2 rfl) ?_
          refine lv_iload_n hx hb dX0_takes_96 rfl (lv_at hl 3 rfl) ?_
          obtain ⟨r_7, uT_8, hg, h⟩ := zb2_e h
          refine z_callV (As := [.ref (xB 0), .int l2]) (rest := []) (i := 0) ⟨hx, hb, hml, hown, hts⟩ (mX0_takesBallot l G (xB) (xA) hg) (cwV 2 hts gX0_takes_X0_takesBallot rfl rfl rfl kvX0_takesBallot ⟨Nat.le_of_ble_eq_true rfl, Nat.le_of_ble_eq_true rfl⟩) rfl hP hD hK hN hS (Nat.le_refl _) [0, 1, 2] rfl rfl rfl rfl 1 rfl rfl rfl rfl rfl hl.1 rfl (Nat.le_of_ble_eq_true rfl) dX0_takes_97 ⟨Nat.zero_le _, Nat.zero_le _⟩ (fun H locs hP hS => ?_)
          replace hP : zP G [shB G xB, shA G xA, shP G (ad 1 xA)] [uB, uA, uT_8] H := hP
          obtain ⟨hb9, h⟩ := zbl_e h
          cases h
          exact z_zret hx hb hr hlk hb9 hP hS dX0_takes_100
        · replace h := zf hc2 h
          by_cases hc3 : r_1 = (3 : Int32)
          · replace h := zt hc3 h
            refine lv_tableIn (off := 67) (tgt := 101) hx hb dX0_takes_34 (by rw [hc3]; decide) (by rw [hc3]; decide) (by rw [hc3]; rfl) (by decide) ?_
            refine lv_aload_n hx hb dX0_takes_101 rfl (lv_at hl 1 rfl) ?_
            refine lv_aload_n hx hb dX0_takes_102 rfl (lv_at hl 2 rfl) ?_
            refine lv_iload_n hx hb dX0_takes_103 rfl (lv_at hl 3 rfl) ?_
            obtain ⟨r_9, uA_10, uT_11, hg, h⟩ := zb3_e h
            refine z_callV (As := [.ref (xB 0), .int l2]) (rest := []) (i := 0) ⟨hx, hb, hml, hown, hts⟩ (mX0_takesClosed l G (xB) (xA) hg) (cwV 2 hts gX0_takes_X0_takesClosed rfl rfl rfl kvX0_takesClosed ⟨Nat.le_of_ble_eq_true rfl, Nat.le_of_ble_eq_true rfl⟩) rfl hP hD hK hN hS (Nat.le_refl _) [0, 1, 2] rfl rfl rfl rfl 1 rfl rfl rfl rfl rfl hl.1 rfl (Nat.le_of_ble_eq_true rfl) dX0_takes_104 ⟨Nat.zero_le _, Nat.zero_le _⟩ (fun H locs hP hS => ?_)
            replace hP : zP G [shB G xB, shA G xA, shP G (ad 1 xA)] [uB, uA_10, uT_11] H := hP
            obtain ⟨hb9, h⟩ := zbl_e h
            cases h
            exact z_zret hx hb hr hlk hb9 hP hS dX0_takes_107
          · replace h := zf hc3 h
            by_cases hc4 : r_1 = (4 : Int32)
            · replace h := zt hc4 h
              refine lv_tableIn (off := 74) (tgt := 108) hx hb dX0_takes_34 (by rw [hc4]; decide) (by rw [hc4]; decide) (by rw [hc4]; rfl) (by decide) ?_
              refine lv_aload_n hx hb dX0_takes_108 rfl (lv_at hl 1 rfl) ?_
              refine lv_aload_n hx hb dX0_takes_109 rfl (lv_at hl 2 rfl) ?_
              refine lv_iload_n hx hb dX0_takes_110 rfl (lv_at hl 3 rfl) ?_
              obtain ⟨r_12, uA_13, uT_14, hg, h⟩ := zb3_e h
              refine z_callV (As := [.ref (xB 0), .int l2]) (rest := []) (i := 0) ⟨hx, hb, hml, hown, hts⟩ (mX0_takesMixed l G (xB) (xA) hg) (cwV 2 hts gX0_takes_X0_takesMixed rfl rfl rfl kvX0_takesMixed ⟨Nat.le_of_ble_eq_true rfl, Nat.le_of_ble_eq_true rfl⟩) rfl hP hD hK hN hS (Nat.le_refl _) [0, 1, 2] rfl rfl rfl rfl 1 rfl rfl rfl rfl rfl hl.1 rfl (Nat.le_of_ble_eq_true rfl) dX0_takes_111 ⟨Nat.zero_le _, Nat.zero_le _⟩ (fun H locs hP hS => ?_)
              replace hP : zP G [shB G xB, shA G xA, shP G (ad 1 xA)] [uB, uA_13, uT_14] H := hP
              obtain ⟨hb9, h⟩ := zbl_e h
              cases h
              exact z_zret hx hb hr hlk hb9 hP hS dX0_takes_114
            · replace h := zf hc4 h
              by_cases hc5 : r_1 = (5 : Int32)
              · replace h := zt hc5 h
                refine lv_tableIn (off := 95) (tgt := 129) hx hb dX0_takes_34 (by rw [hc5]; decide) (by rw [hc5]; decide) (by rw [hc5]; rfl) (by decide) ?_
                refine lv_iconst (v := 0) hx hb dX0_takes_129 (by decide) ?_
                cases h
                exact z_zret hx hb hr hlk rfl hP hS dX0_takes_130
              · replace h := zf hc5 h
                by_cases hc6 : r_1 = (6 : Int32)
                · replace h := zt hc6 h
                  refine lv_tableIn (off := 81) (tgt := 115) hx hb dX0_takes_34 (by rw [hc6]; decide) (by rw [hc6]; decide) (by rw [hc6]; rfl) (by decide) ?_
                  refine lv_aload_n hx hb dX0_takes_115 rfl (lv_at hl 1 rfl) ?_
                  refine lv_aload_n hx hb dX0_takes_116 rfl (lv_at hl 2 rfl) ?_
                  refine lv_iload_n hx hb dX0_takes_117 rfl (lv_at hl 3 rfl) ?_
                  obtain ⟨r_15, uA_16, uT_17, hg, h⟩ := zb3_e h
                  refine z_callV (As := [.ref (xB 0), .int l2]) (rest := []) (i := 0) ⟨hx, hb, hml, hown, hts⟩ (mX0_takesShare l G (xB) (xA) hg) (cwV 2 hts gX0_takes_X0_takesShare rfl rfl rfl kvX0_takesShare ⟨Nat.le_of_ble_eq_true rfl, Nat.le_of_ble_eq_true rfl⟩) rfl hP hD hK hN hS (Nat.le_refl _) [0, 1, 2] rfl rfl rfl rfl 1 rfl rfl rfl rfl rfl hl.1 rfl (Nat.le_of_ble_eq_true rfl) dX0_takes_118 ⟨Nat.zero_le _, Nat.zero_le _⟩ (fun H locs hP hS => ?_)
                  replace hP : zP G [shB G xB, shA G xA, shP G (ad 1 xA)] [uB, uA_16, uT_17] H := hP
                  obtain ⟨hb9, h⟩ := zbl_e h
                  cases h
                  exact z_zret hx hb hr hlk hb9 hP hS dX0_takes_121
                · replace h := zf hc6 h
                  by_cases hc7 : r_1 = (7 : Int32)
                  · replace h := zt hc7 h
                    refine lv_tableIn (off := 88) (tgt := 122) hx hb dX0_takes_34 (by rw [hc7]; decide) (by rw [hc7]; decide) (by rw [hc7]; rfl) (by decide) ?_
                    refine lv_aload_n hx hb dX0_takes_122 rfl (lv_at hl 1 rfl) ?_
                    refine lv_aload_n hx hb dX0_takes_123 rfl (lv_at hl 2 rfl) ?_
                    refine lv_iload_n hx hb dX0_takes_124 rfl (lv_at hl 3 rfl) ?_
                    obtain ⟨r_18, uA_19, uT_20, hg, h⟩ := zb3_e h
                    refine z_callV (As := [.ref (xB 0), .int l2]) (rest := []) (i := 0) ⟨hx, hb, hml, hown, hts⟩ (mX0_takesResult l G (xB) (xA) hg) (cwV 2 hts gX0_takes_X0_takesResult rfl rfl rfl kvX0_takesResult ⟨Nat.le_of_ble_eq_true rfl, Nat.le_of_ble_eq_true rfl⟩) rfl hP hD hK hN hS (Nat.le_refl _) [0, 1, 2] rfl rfl rfl rfl 1 rfl rfl rfl rfl rfl hl.1 rfl (Nat.le_of_ble_eq_true rfl) dX0_takes_125 ⟨Nat.zero_le _, Nat.zero_le _⟩ (fun H locs hP hS => ?_)
                    replace hP : zP G [shB G xB, shA G xA, shP G (ad 1 xA)] [uB, uA_19, uT_20] H := hP
                    obtain ⟨hb9, h⟩ := zbl_e h
                    cases h
                    exact z_zret hx hb hr hlk hb9 hP hS dX0_takes_128
                  · replace h := zf hc7 h
                    refine lv_tableOut (tgt := 129) hx hb dX0_takes_34 (by have q0 := lv_neT (k := 0) (a := 0) hc0 (by decide); have q1 := lv_neT (k := 1) (a := 1) hc1 (by decide); have q2 := lv_neT (k := 2) (a := 2) hc2 (by decide); have q3 := lv_neT (k := 3) (a := 3) hc3 (by decide); have q4 := lv_neT (k := 4) (a := 4) hc4 (by decide); have q5 := lv_neT (k := 5) (a := 5) hc5 (by decide); have q6 := lv_neT (k := 6) (a := 6) hc6 (by decide); have q7 := lv_neT (k := 7) (a := 7) hc7 (by decide); omega) (by decide) ?_
                    refine lv_iconst (v := 0) hx hb dX0_takes_129 (by decide) ?_
                    cases h
                    exact z_zret hx hb hr hlk rfl hP hS dX0_takes_130
  · replace h := zf hc h
    refine lv_iload_n hx hb dX0_takes_13 rfl (lv_at hl 0 rfl) ?_
    refine lv_iconst (v := 5) hx hb dX0_takes_14 (by decide) ?_
    refine lv_icmp_ne (tgt := 31) hx hb dX0_takes_15 (by decide) (fun hc => ?_) (fun hc => ?_)
    · replace h := zf hc h
      refine lv_iconst (v := 0) hx hb dX0_takes_31 (by decide) ?_
      cases h
      exact z_zret hx hb hr hlk rfl hP hS dX0_takes_32
    · replace h := zt hc h
      refine lv_aload_n hx hb dX0_takes_18 rfl (lv_at hl 1 rfl) ?_
      refine lv_aload_n hx hb dX0_takes_19 rfl (lv_at hl 2 rfl) ?_
      refine lv_iload_n hx hb dX0_takes_20 rfl (lv_at hl 3 rfl) ?_
      obtain ⟨r_21, uA_22, hg, h⟩ := zb2_e h
      refine z_callV (As := [.ref (xB 0), .int l2]) (rest := []) (i := 0) ⟨hx, hb, hml, hown, hts⟩ (mX0_takesEntry l G (xB) (xA) hg) (cwV 2 hts gX0_takes_X0_takesEntry rfl rfl rfl kvX0_takesEntry ⟨Nat.le_of_ble_eq_true rfl, Nat.le_of_ble_eq_true rfl⟩) rfl hP hD hK hN hS (Nat.le_refl _) [0, 1, 2] rfl rfl rfl rfl 1 rfl rfl rfl rfl rfl hl.1 rfl (Nat.le_of_ble_eq_true rfl) dX0_takes_21 ⟨Nat.zero_le _, Nat.zero_le _⟩ (fun H locs hP hS => ?_)
      replace hP : zP G [shB G xB, shA G xA, shP G (ad 1 xA)] [uB, uA_22, uT] H := hP
      refine lv_if_eq (tgt := 31) hx hb dX0_takes_24 (by decide) (fun hc => ?_) (fun hc => ?_)
      · replace h := zt hc h
        refine lv_iconst (v := 0) hx hb dX0_takes_31 (by decide) ?_
        cases h
        exact z_zret hx hb hr hlk rfl hP hS dX0_takes_32
      · replace h := zf hc h
        refine lv_iconst (v := 1) hx hb dX0_takes_27 (by decide) ?_
        refine lv_goto (tgt := 32) hx hb dX0_takes_28 (by decide) ?_
        cases h
        exact z_zret hx hb hr hlk rfl hP hS dX0_takes_32
end
def rmX0_firstWrong : Room := { frames := 5, cells := 0, slots := 0, locals := 127 }
theorem kvX0_firstWrong : yX0_firstWrong.cls = RX0 ∧ yX0_firstWrong.cls ≠ "java/lang/invoke/MethodHandle" ∧ yX0_firstWrong.cls ≠ "java/lang/invoke/VarHandle" ∧ (parseMethodDescriptor yX0_firstWrong.desc).map (fun d => d.parameters.length) = some 1 := by decide +kernel
section
variable {p : Program} {l : Launch} {e : Env} {s : State} {m : MethodId} {args : Array Value} {below : List Frame} {meth : Method} {c : Code} {G : zG} {xB : Nat → Nat} {xA : Nat → Nat} {rr : Int32} {vA : zSt} {vT : zSt}
set_option maxRecDepth 20000 in
theorem tlX0_firstWrong_17 (C0 : zCtx p s m args meth c cX0_firstWrong RX0 wsX0_firstWrong 3 (some .int)) (hK : zK G s) (hN : zN s) (hD : zD [shB G xB, shA G xA, shP G (ad 1 xA)])  : ∀ (n : Nat), ∀ (uB : zSt) (uA : zSt) (uT : zSt) (l2 : Int32), lX0_firstWrong_17  n uB uA uT l2 = some (rr, vA, vT) → ∀ (H : Heap) (locs : List Loc), zP G [shB G xB, shA G xA, shP G (ad 1 xA)] [uB, uA, uT] H → va_S (zA [shB G xB, shA G xA, shP G (ad 1 xA)] s.heap.size) s.heap H locs → ∀ ls : Array Slot, lv_has ls 3 [(0, .ref (xA 0)), (1, .ref (xB 0)), (2, .int l2)] → W p l e rmX0_firstWrong s m args below meth c H locs 0 0 (MQ below (zQ G [shB G xB, shA G xA, shP G (ad 1 xA)] [uB, vA, vT] (zA [shB G xB, shA G xA, shP G (ad 1 xA)] s.heap.size) (some (.int rr))) args s 0 0 (zA [shB G xB, shA G xA, shP G (ad 1 xA)] s.heap.size)) (F0 m 17 ls []) := by
  obtain ⟨hx, hb, hr, hml, hown, hts, hlk⟩ := id C0
  have hwX1 : ∀ w ∈ wsX10, w.before args s = true := fun w h => hts w (List.mem_cons_of_mem _ (List.mem_append_left _ (List.mem_append_right _ h)))
  intro n
  induction n with
  | zero => intro uB uA uT l2 h; exact absurd h (fun q => nomatch q)
  | succ n K17 =>
    intro uB uA uT l2 h H locs hP hS ls hl
    replace h : bX0_firstWrong_17  (lX0_firstWrong_17  n) uB uA uT l2 = some (rr, vA, vT) := h
    unfold bX0_firstWrong_17 at h
    refine lv_iload_n hx hb dX0_firstWrong_17 rfl (lv_at hl 2 rfl) ?_
    refine lv_aload_n hx hb dX0_firstWrong_18 rfl (lv_at hl 1 rfl) ?_
    refine rNB_3 hx hb hwX1 hown hK hP 0 (xB) rfl rfl (hN.f (List.mem_of_getElem? (i := 0) rfl)) dX0_firstWrong_19 ?_
    refine lv_icmp_ge (tgt := 42) hx hb dX0_firstWrong_22 (by decide) (fun hc => ?_) (fun hc => ?_)
    · replace h := zt hc h
      refine lv_iconst (v := (-1)) hx hb dX0_firstWrong_42 (by decide) ?_
      cases h
      exact z_iret hx hb hr hlk hP hS dX0_firstWrong_43
    · replace h := zf hc h
      refine lv_aload_n hx hb dX0_firstWrong_25 rfl (lv_at hl 0 rfl) ?_
      refine lv_aload_n hx hb dX0_firstWrong_26 rfl (lv_at hl 1 rfl) ?_
      refine lv_iload_n hx hb dX0_firstWrong_27 rfl (lv_at hl 2 rfl) ?_
      obtain ⟨r_1, uA_2, uT_3, hg, h⟩ := zb3_e h
      refine z_callV (As := [.ref (xB 0), .int l2]) (rest := []) (i := 0) ⟨hx, hb, hml, hown, hts⟩ (mX0_takes l G (xB) (xA) hg) (cwV 2 hts gX0_firstWrong_X0_takes rfl rfl rfl kvX0_takes ⟨Nat.le_of_ble_eq_true rfl, Nat.le_of_ble_eq_true rfl⟩) rfl hP hD hK hN hS (Nat.le_refl _) [0, 1, 2] rfl rfl rfl rfl 1 rfl rfl rfl rfl rfl hl.1 rfl (Nat.le_of_ble_eq_true rfl) dX0_firstWrong_28 ⟨Nat.zero_le _, Nat.zero_le _⟩ (fun H locs hP hS => ?_)
      replace hP : zP G [shB G xB, shA G xA, shP G (ad 1 xA)] [uB, uA_2, uT_3] H := hP
      refine lv_if_ne (tgt := 36) hx hb dX0_firstWrong_31 (by decide) (fun hc => ?_) (fun hc => ?_)
      · replace h := zf hc h
        refine lv_iinc (v := (l2 + (1 : Int32))) (lv' := [(2, .int ((l2 + (1 : Int32)))), (0, .ref (xA 0)), (1, .ref (xB 0))]) hx hb dX0_firstWrong_36 hl (k := 2) rfl rfl (by decide) rfl (fun ls hl => ?_)
        refine lv_goto (tgt := 17) hx hb dX0_firstWrong_39 (by decide) ?_
        exact K17 _ _ _ _ h _ _ hP hS _ (lv_sub hl [1, 2, 0] rfl)
      · replace h := zt hc h
        refine lv_iload_n hx hb dX0_firstWrong_34 rfl (lv_at hl 2 rfl) ?_
        cases h
        exact z_iret hx hb hr hlk hP hS dX0_firstWrong_35
set_option maxRecDepth 20000 in
theorem mX0_firstWrong (l : Launch) (G : zG) (xB : Nat → Nat) (xA : Nat → Nat) {uB : zSt} {uA : zSt} {uT : zSt} {rr : Int32} {vA : zSt} {vT : zSt} (h : fX0_firstWrong uB uA uT = some (rr, vA, vT)) : zC l yX0_firstWrong wsX0_firstWrong rmX0_firstWrong [.ref (xA 0), .ref (xB 0)] G [shB G xB, shA G xA, shP G (ad 1 xA)] [uB, uA, uT] [uB, vA, vT] (some (.int rr)) := by
  refine z_ofW (cc := cX0_firstWrong) (maxL := 3) (ret := some .int) (by decide) rfl (Nat.le_of_ble_eq_true rfl) ?_
  intro p e s m args below meth c C0 hK hN hD hP ls hl
  obtain ⟨hx, hb, hr, hml, hown, hts, hlk⟩ := id C0
  have hS : va_S (zA [shB G xB, shA G xA, shP G (ad 1 xA)] s.heap.size) s.heap s.heap [] := va_S.rf
  replace hl : lv_has ls 3 [(0, .ref (xA 0)), (1, .ref (xB 0))] := hl
  have hwX0 : ∀ w ∈ wsX00, w.before args s = true := fun w h => hts w (List.mem_cons_of_mem _ (List.mem_append_left _ (List.mem_append_left _ (List.mem_append_right _ h))))
  unfold fX0_firstWrong at h
  refine lv_aload_n hx hb dX0_firstWrong_0 rfl (lv_at hl 0 rfl) ?_
  refine lv_iconst (v := 0) hx hb dX0_firstWrong_1 (by decide) ?_
  refine pA_1 hx hb hwX0 hown hK hP hD hS 1 (xA) rfl rfl (hts _ (List.mem_of_getElem? (i := 1) rfl)) dX0_firstWrong_2 (fun H locs hP hS => ?_)
  replace hP : zP G [shB G xB, shA G xA, shP G (ad 1 xA)] [uB, (sI uA 1 ((0 : Int32))), uT] H := hP
  refine lv_aload_n hx hb dX0_firstWrong_5 rfl (lv_at hl 0 rfl) ?_
  refine lv_iconst (v := 0) hx hb dX0_firstWrong_6 (by decide) ?_
  refine pA_2 hx hb hwX0 hown hK hP hD hS 1 (xA) rfl rfl (hts _ (List.mem_of_getElem? (i := 2) rfl)) dX0_firstWrong_7 (fun H locs hP hS => ?_)
  replace hP : zP G [shB G xB, shA G xA, shP G (ad 1 xA)] [uB, (sI ((sI uA 1 ((0 : Int32)))) 2 ((0 : Int32))), uT] H := hP
  refine lv_aload_n hx hb dX0_firstWrong_10 rfl (lv_at hl 0 rfl) ?_
  refine lv_iconst (v := 0) hx hb dX0_firstWrong_11 (by decide) ?_
  refine pA_3 hx hb hwX0 hown hK hP hD hS 1 (xA) rfl rfl (hts _ (List.mem_of_getElem? (i := 3) rfl)) dX0_firstWrong_12 (fun H locs hP hS => ?_)
  replace hP : zP G [shB G xB, shA G xA, shP G (ad 1 xA)] [uB, (sI ((sI ((sI uA 1 ((0 : Int32)))) 2 ((0 : Int32)))) 3 ((0 : Int32))), uT] H := hP
  refine lv_iconst (v := 0) hx hb dX0_firstWrong_15 (by decide) ?_
  refine lv_istore_n (lv' := [(2, .int ((0 : Int32))), (0, .ref (xA 0)), (1, .ref (xB 0))]) hx hb dX0_firstWrong_16 rfl hl (by decide) rfl (fun ls hl => ?_)
  exact tlX0_firstWrong_17 C0 hK hN hD  1000 _ _ _ _ h _ _ hP hS _ (lv_sub hl [1, 2, 0] rfl)
end
def rmX6_audit : Room := { frames := 6, cells := 0, slots := 0, locals := 149 }
theorem kvX6_audit : yX6_audit.cls = RX6 ∧ yX6_audit.cls ≠ "java/lang/invoke/MethodHandle" ∧ yX6_audit.cls ≠ "java/lang/invoke/VarHandle" ∧ (parseMethodDescriptor yX6_audit.desc).map (fun d => d.parameters.length) = some 0 := by decide +kernel
section
variable {p : Program} {l : Launch} {e : Env} {s : State} {m : MethodId} {args : Array Value} {below : List Frame} {meth : Method} {c : Code} {G : zG} {xO : Nat → Nat} {rr : Int32} {vA : zSt} {vT : zSt}
set_option maxRecDepth 20000 in
theorem mX6_audit (l : Launch) (G : zG) (xO : Nat → Nat) {uO : zSt} {uB : zSt} {uA : zSt} {uT : zSt} {rr : Int32} {vA : zSt} {vT : zSt} (h : fX6_audit uO uB uA uT = some (rr, vA, vT)) : zC l yX6_audit wsX6_audit rmX6_audit [.ref (xO 0)] G [shO G xO, shB G (ad 1 xO), shA G (ad 19 xO), shP G (ad 1 (ad 19 xO))] [uO, uB, uA, uT] [uO, uB, vA, vT] (some (.int rr)) := by
  refine z_ofW (cc := cX6_audit) (maxL := 1) (ret := some .int) (by decide) rfl (Nat.le_of_ble_eq_true rfl) ?_
  intro p e s m args below meth c C0 hK hN hD hP ls hl
  obtain ⟨hx, hb, hr, hml, hown, hts, hlk⟩ := id C0
  have hS : va_S (zA [shO G xO, shB G (ad 1 xO), shA G (ad 19 xO), shP G (ad 1 (ad 19 xO))] s.heap.size) s.heap s.heap [] := va_S.rf
  replace hl : lv_has ls 1 [(0, .ref (xO 0))] := hl
  have hwX6 : ∀ w ∈ wsX60, w.before args s = true := fun w h => hts w (List.mem_cons_of_mem _ (List.mem_append_left _ (List.mem_append_left _ (List.mem_append_left _ (List.mem_append_right _ h)))))
  unfold fX6_audit at h
  refine lv_aload_n hx hb dX6_audit_0 rfl (lv_at hl 0 rfl) ?_
  refine rO_2 hx hb hwX6 hown hK hP 0 (xO) rfl rfl (hts _ (List.mem_of_getElem? (i := 1) rfl)) dX6_audit_1 ?_
  refine lv_aload_n hx hb dX6_audit_4 rfl (lv_at hl 0 rfl) ?_
  refine rO_0 hx hb hwX6 hown hK hP 0 (xO) rfl rfl (hts _ (List.mem_of_getElem? (i := 2) rfl)) dX6_audit_5 ?_
  obtain ⟨r_1, uA_2, uT_3, hg, h⟩ := zb3_e h
  refine z_callV (As := [.ref ((ad 1 xO) 0)]) (rest := []) (i := 0) ⟨hx, hb, hml, hown, hts⟩ (mX0_firstWrong l G (ad 1 xO) (ad 19 xO) hg) (cwV 1 hts gX6_audit_X0_firstWrong rfl rfl rfl kvX0_firstWrong ⟨Nat.le_of_ble_eq_true rfl, Nat.le_of_ble_eq_true rfl⟩) rfl hP hD hK hN hS (Nat.le_refl _) [1, 2, 3] rfl rfl rfl rfl 2 rfl rfl rfl rfl rfl hl.1 rfl (Nat.le_of_ble_eq_true rfl) dX6_audit_8 ⟨Nat.zero_le _, Nat.zero_le _⟩ (fun H locs hP hS => ?_)
  replace hP : zP G [shO G xO, shB G (ad 1 xO), shA G (ad 19 xO), shP G (ad 1 (ad 19 xO))] [uO, uB, uA_2, uT_3] H := hP
  cases h
  exact z_iret hx hb hr hlk hP hS dX6_audit_11
end
def rmX2_ended : Room := { frames := 0, cells := 0, slots := 0, locals := 0 }
theorem ksX2_ended : yX2_ended.cls ≠ "java/lang/invoke/MethodHandle" ∧ yX2_ended.cls ≠ "java/lang/invoke/VarHandle" ∧ (parseMethodDescriptor yX2_ended.desc).map (fun d => d.parameters.length) = some 1 := by decide +kernel
section
variable {p : Program} {l : Launch} {e : Env} {s : State} {m : MethodId} {args : Array Value} {below : List Frame} {meth : Method} {c : Code} {G : zG}  {rr : Int64}
set_option maxRecDepth 20000 in
theorem mX2_ended (l : Launch) (G : zG)  {l0 : Int64} {rr : Int64} (h : fX2_ended l0 = some rr) : zC l yX2_ended wsX2_ended rmX2_ended [.long l0] G [] [] [] (some (.long rr)) := by
  refine z_ofW (cc := cX2_ended) (maxL := 2) (ret := some .long) (by decide) rfl (Nat.le_of_ble_eq_true rfl) ?_
  intro p e s m args below meth c C0 hK hN hD hP ls hl
  obtain ⟨hx, hb, hr, hml, hown, hts, hlk⟩ := id C0
  have hS : va_S (zA [] s.heap.size) s.heap s.heap [] := va_S.rf
  replace hl : lv_has ls 2 [(0, .long l0)] := hl
  unfold fX2_ended at h
  refine lv_lload_n hx hb dX2_ended_0 rfl (lv_at hl 0 rfl) ?_
  refine lv_iconst (v := 1) hx hb dX2_ended_1 (by decide) ?_
  refine lv_lushr (v := (zsr l0 (1 : Int32))) hx hb dX2_ended_2 rfl ?_
  cases h
  exact z_lret hx hb hr hlk hP hS dX2_ended_3
end
def rmX1_leafOf : Room := { frames := 1, cells := 0, slots := 0, locals := 25 }
theorem kvX1_leafOf : yX1_leafOf.cls = RX1 ∧ yX1_leafOf.cls ≠ "java/lang/invoke/MethodHandle" ∧ yX1_leafOf.cls ≠ "java/lang/invoke/VarHandle" ∧ (parseMethodDescriptor yX1_leafOf.desc).map (fun d => d.parameters.length) = some 1 := by decide +kernel
section
variable {p : Program} {l : Launch} {e : Env} {s : State} {m : MethodId} {args : Array Value} {below : List Frame} {meth : Method} {c : Code} {G : zG} {xB : Nat → Nat} {rr : Int64}
set_option maxRecDepth 20000 in
theorem tlX1_leafOf_18 (C0 : zCtx p s m args meth c cX1_leafOf RX1 wsX1_leafOf 5 (some .long)) (hK : zK G s) (hN : zN s) (hD : zD [shB G xB])  : ∀ (n : Nat), ∀ (uB : zSt) (l1 : Int32) (l2 : Int64) (l4 : Int32), lX1_leafOf_18  n uB l1 l2 l4 = some rr → ∀ (H : Heap) (locs : List Loc), zP G [shB G xB] [uB] H → va_S (zA [shB G xB] s.heap.size) s.heap H locs → ∀ ls : Array Slot, lv_has ls 5 [(0, .ref (xB 0)), (1, .int l1), (2, .long l2), (4, .int l4)] → W p l e rmX1_leafOf s m args below meth c H locs 0 0 (MQ below (zQ G [shB G xB] [uB] (zA [shB G xB] s.heap.size) (some (.long rr))) args s 0 0 (zA [shB G xB] s.heap.size)) (F0 m 18 ls []) := by
  obtain ⟨hx, hb, hr, hml, hown, hts, hlk⟩ := id C0
  intro n
  induction n with
  | zero => intro uB l1 l2 l4 h; exact absurd h (fun q => nomatch q)
  | succ n K18 =>
    intro uB l1 l2 l4 h H locs hP hS ls hl
    replace h : bX1_leafOf_18  (lX1_leafOf_18  n) uB l1 l2 l4 = some rr := h
    unfold bX1_leafOf_18 at h
    refine lv_iload hx hb dX1_leafOf_18 (lv_at hl 3 rfl) ?_
    refine lv_bipush (v := 6) hx hb dX1_leafOf_20 (by decide) ?_
    refine lv_icmp_ge (tgt := 44) hx hb dX1_leafOf_22 (by decide) (fun hc => ?_) (fun hc => ?_)
    · replace h := zt hc h
      refine lv_lload_n hx hb dX1_leafOf_44 rfl (lv_at hl 2 rfl) ?_
      obtain ⟨r_1, hg, h⟩ := zb1_e h
      refine z_callS (As := [.long l2]) (rest := []) ⟨hx, hb, hml, hown, hts⟩ (mX2_ended l G  hg) (va_cwS 1 hts gX1_leafOf_X2_ended rfl rfl rfl ksX2_ended ⟨Nat.le_of_ble_eq_true rfl, Nat.le_of_ble_eq_true rfl⟩) hP hD hK hN hS (Nat.le_refl _) [] rfl rfl rfl rfl rfl hl.1 rfl (Nat.le_of_ble_eq_true rfl) dX1_leafOf_45 ⟨Nat.zero_le _, Nat.zero_le _⟩ (fun H locs hP hS => ?_)
      replace hP : zP G [shB G xB] [uB] H := hP
      cases h
      exact z_lret hx hb hr hlk hP hS dX1_leafOf_48
    · replace h := zf hc h
      refine lv_lload_n hx hb dX1_leafOf_25 rfl (lv_at hl 2 rfl) ?_
      refine lv_aload_n hx hb dX1_leafOf_26 rfl (lv_at hl 0 rfl) ?_
      refine lv_iload_n hx hb dX1_leafOf_27 rfl (lv_at hl 1 rfl) ?_
      refine lv_iload hx hb dX1_leafOf_28 (lv_at hl 3 rfl) ?_
      obtain ⟨r_2, hg, h⟩ := zb1_e h
      refine z_callV (As := [.int l1, .int l4]) (rest := [.long l2]) (i := 0) ⟨hx, hb, hml, hown, hts⟩ (mX1_number l G (xB) hg) (cwV 2 hts gX1_leafOf_X1_number rfl rfl rfl kvX1_number ⟨Nat.le_of_ble_eq_true rfl, Nat.le_of_ble_eq_true rfl⟩) rfl hP hD hK hN hS (Nat.le_refl _) [0] rfl rfl rfl rfl 0 rfl rfl rfl rfl rfl hl.1 rfl (Nat.le_of_ble_eq_true rfl) dX1_leafOf_30 ⟨Nat.zero_le _, Nat.zero_le _⟩ (fun H locs hP hS => ?_)
      replace hP : zP G [shB G xB] [uB] H := hP
      refine lv_i2l (v := r_2.toInt64) hx hb dX1_leafOf_33 rfl ?_
      obtain ⟨r_3, hg, h⟩ := zb1_e h
      refine z_callS (As := [.long l2, .long ((r_2.toInt64))]) (rest := []) ⟨hx, hb, hml, hown, hts⟩ (mX2_with l G  hg) (va_cwS 2 hts gX1_leafOf_X2_with rfl rfl rfl ksX2_with ⟨Nat.le_of_ble_eq_true rfl, Nat.le_of_ble_eq_true rfl⟩) hP hD hK hN hS (Nat.le_refl _) [] rfl rfl rfl rfl rfl hl.1 rfl (Nat.le_of_ble_eq_true rfl) dX1_leafOf_34 ⟨Nat.zero_le _, Nat.zero_le _⟩ (fun H locs hP hS => ?_)
      replace hP : zP G [shB G xB] [uB] H := hP
      refine lv_lstore_n (lv' := [(2, .long r_3), (0, .ref (xB 0)), (1, .int l1), (4, .int l4)]) hx hb dX1_leafOf_37 rfl hl (by decide) rfl (fun ls hl => ?_)
      refine lv_iinc (v := (l4 + (1 : Int32))) (lv' := [(4, .int ((l4 + (1 : Int32)))), (2, .long r_3), (0, .ref (xB 0)), (1, .int l1)]) hx hb dX1_leafOf_38 hl (k := 3) rfl rfl (by decide) rfl (fun ls hl => ?_)
      refine lv_goto (tgt := 18) hx hb dX1_leafOf_41 (by decide) ?_
      exact K18 _ _ _ _ h _ _ hP hS _ (lv_sub hl [2, 3, 1, 0] rfl)
set_option maxRecDepth 20000 in
theorem mX1_leafOf (l : Launch) (G : zG) (xB : Nat → Nat) {uB : zSt} {l1 : Int32} {rr : Int64} (h : fX1_leafOf uB l1 = some rr) : zC l yX1_leafOf wsX1_leafOf rmX1_leafOf [.ref (xB 0), .int l1] G [shB G xB] [uB] [uB] (some (.long rr)) := by
  refine z_ofW (cc := cX1_leafOf) (maxL := 5) (ret := some .long) (by decide) rfl (Nat.le_of_ble_eq_true rfl) ?_
  intro p e s m args below meth c C0 hK hN hD hP ls hl
  obtain ⟨hx, hb, hr, hml, hown, hts, hlk⟩ := id C0
  have hS : va_S (zA [shB G xB] s.heap.size) s.heap s.heap [] := va_S.rf
  replace hl : lv_has ls 5 [(0, .ref (xB 0)), (1, .int l1)] := hl
  unfold fX1_leafOf at h
  refine lv_lconst (v := 0) hx hb dX1_leafOf_0 rfl ?_
  refine lv_lconst (v := 0) hx hb dX1_leafOf_1 rfl ?_
  obtain ⟨r_4, hg, h⟩ := zb1_e h
  refine z_callS (As := [.long ((0 : Int64)), .long ((0 : Int64))]) (rest := []) ⟨hx, hb, hml, hown, hts⟩ (mX2_with l G  hg) (va_cwS 2 hts gX1_leafOf_X2_with rfl rfl rfl ksX2_with ⟨Nat.le_of_ble_eq_true rfl, Nat.le_of_ble_eq_true rfl⟩) hP hD hK hN hS (Nat.le_refl _) [] rfl rfl rfl rfl rfl hl.1 rfl (Nat.le_of_ble_eq_true rfl) dX1_leafOf_2 ⟨Nat.zero_le _, Nat.zero_le _⟩ (fun H locs hP hS => ?_)
  replace hP : zP G [shB G xB] [uB] H := hP
  refine lv_aload_n hx hb dX1_leafOf_5 rfl (lv_at hl 0 rfl) ?_
  refine lv_iload_n hx hb dX1_leafOf_6 rfl (lv_at hl 1 rfl) ?_
  obtain ⟨r_5, hg, h⟩ := zb1_e h
  refine z_callV (As := [.int l1]) (rest := [.long r_4]) (i := 0) ⟨hx, hb, hml, hown, hts⟩ (mX1_kind l G (xB) hg) (cwV 1 hts gX1_leafOf_X1_kind rfl rfl rfl kvX1_kind ⟨Nat.le_of_ble_eq_true rfl, Nat.le_of_ble_eq_true rfl⟩) rfl hP hD hK hN hS (Nat.le_refl _) [0] rfl rfl rfl rfl 0 rfl rfl rfl rfl rfl hl.1 rfl (Nat.le_of_ble_eq_true rfl) dX1_leafOf_7 ⟨Nat.zero_le _, Nat.zero_le _⟩ (fun H locs hP hS => ?_)
  replace hP : zP G [shB G xB] [uB] H := hP
  refine lv_i2l (v := r_5.toInt64) hx hb dX1_leafOf_10 rfl ?_
  obtain ⟨r_6, hg, h⟩ := zb1_e h
  refine z_callS (As := [.long r_4, .long ((r_5.toInt64))]) (rest := []) ⟨hx, hb, hml, hown, hts⟩ (mX2_with l G  hg) (va_cwS 2 hts gX1_leafOf_X2_with rfl rfl rfl ksX2_with ⟨Nat.le_of_ble_eq_true rfl, Nat.le_of_ble_eq_true rfl⟩) hP hD hK hN hS (Nat.le_refl _) [] rfl rfl rfl rfl rfl hl.1 rfl (Nat.le_of_ble_eq_true rfl) dX1_leafOf_11 ⟨Nat.zero_le _, Nat.zero_le _⟩ (fun H locs hP hS => ?_)
  replace hP : zP G [shB G xB] [uB] H := hP
  refine lv_lstore_n (lv' := [(2, .long r_6), (0, .ref (xB 0)), (1, .int l1)]) hx hb dX1_leafOf_14 rfl hl (by decide) rfl (fun ls hl => ?_)
  refine lv_iconst (v := 0) hx hb dX1_leafOf_15 (by decide) ?_
  refine lv_istore (lv' := [(4, .int ((0 : Int32))), (2, .long r_6), (0, .ref (xB 0)), (1, .int l1)]) hx hb dX1_leafOf_16 hl (by decide) rfl (fun ls hl => ?_)
  exact tlX1_leafOf_18 C0 hK hN hD  1000 _ _ _ _ h _ _ hP hS _ (lv_sub hl [2, 3, 1, 0] rfl)
end
def rmX2_ofParts : Room := { frames := 1, cells := 0, slots := 0, locals := 25 }
theorem ksX2_ofParts : yX2_ofParts.cls ≠ "java/lang/invoke/MethodHandle" ∧ yX2_ofParts.cls ≠ "java/lang/invoke/VarHandle" ∧ (parseMethodDescriptor yX2_ofParts.desc).map (fun d => d.parameters.length) = some 2 := by decide +kernel
section
variable {p : Program} {l : Launch} {e : Env} {s : State} {m : MethodId} {args : Array Value} {below : List Frame} {meth : Method} {c : Code} {G : zG}  {rr : Int64}
set_option maxRecDepth 20000 in
theorem mX2_ofParts (l : Launch) (G : zG)  {l0 : Int64} {l2 : Int64} {rr : Int64} (h : fX2_ofParts l0 l2 = some rr) : zC l yX2_ofParts wsX2_ofParts rmX2_ofParts [.long l0, .long l2] G [] [] [] (some (.long rr)) := by
  refine z_ofW (cc := cX2_ofParts) (maxL := 4) (ret := some .long) (by decide) rfl (Nat.le_of_ble_eq_true rfl) ?_
  intro p e s m args below meth c C0 hK hN hD hP ls hl
  obtain ⟨hx, hb, hr, hml, hown, hts, hlk⟩ := id C0
  have hS : va_S (zA [] s.heap.size) s.heap s.heap [] := va_S.rf
  replace hl : lv_has ls 4 [(0, .long l0), (2, .long l2)] := hl
  unfold fX2_ofParts at h
  refine lv_lconst (v := 0) hx hb dX2_ofParts_0 rfl ?_
  refine lv_lconst (v := 1) hx hb dX2_ofParts_1 rfl ?_
  obtain ⟨r_1, hg, h⟩ := zb1_e h
  refine z_callS (As := [.long ((0 : Int64)), .long ((1 : Int64))]) (rest := []) ⟨hx, hb, hml, hown, hts⟩ (mX2_with l G  hg) (va_cwS 2 hts gX2_ofParts_X2_with rfl rfl rfl ksX2_with ⟨Nat.le_of_ble_eq_true rfl, Nat.le_of_ble_eq_true rfl⟩) hP hD hK hN hS (Nat.le_refl _) [] rfl rfl rfl rfl rfl hl.1 rfl (Nat.le_of_ble_eq_true rfl) dX2_ofParts_2 ⟨Nat.zero_le _, Nat.zero_le _⟩ (fun H locs hP hS => ?_)
  replace hP : zP G [] [] H := hP
  refine lv_lload_n hx hb dX2_ofParts_5 rfl (lv_at hl 0 rfl) ?_
  obtain ⟨r_2, hg, h⟩ := zb1_e h
  refine z_callS (As := [.long r_1, .long l0]) (rest := []) ⟨hx, hb, hml, hown, hts⟩ (mX2_with l G  hg) (va_cwS 2 hts gX2_ofParts_X2_with rfl rfl rfl ksX2_with ⟨Nat.le_of_ble_eq_true rfl, Nat.le_of_ble_eq_true rfl⟩) hP hD hK hN hS (Nat.le_refl _) [] rfl rfl rfl rfl rfl hl.1 rfl (Nat.le_of_ble_eq_true rfl) dX2_ofParts_6 ⟨Nat.zero_le _, Nat.zero_le _⟩ (fun H locs hP hS => ?_)
  replace hP : zP G [] [] H := hP
  refine lv_lload_n hx hb dX2_ofParts_9 rfl (lv_at hl 1 rfl) ?_
  obtain ⟨r_3, hg, h⟩ := zb1_e h
  refine z_callS (As := [.long r_2, .long l2]) (rest := []) ⟨hx, hb, hml, hown, hts⟩ (mX2_with l G  hg) (va_cwS 2 hts gX2_ofParts_X2_with rfl rfl rfl ksX2_with ⟨Nat.le_of_ble_eq_true rfl, Nat.le_of_ble_eq_true rfl⟩) hP hD hK hN hS (Nat.le_refl _) [] rfl rfl rfl rfl rfl hl.1 rfl (Nat.le_of_ble_eq_true rfl) dX2_ofParts_10 ⟨Nat.zero_le _, Nat.zero_le _⟩ (fun H locs hP hS => ?_)
  replace hP : zP G [] [] H := hP
  obtain ⟨r_4, hg, h⟩ := zb1_e h
  refine z_callS (As := [.long r_3]) (rest := []) ⟨hx, hb, hml, hown, hts⟩ (mX2_ended l G  hg) (va_cwS 1 hts gX2_ofParts_X2_ended rfl rfl rfl ksX2_ended ⟨Nat.le_of_ble_eq_true rfl, Nat.le_of_ble_eq_true rfl⟩) hP hD hK hN hS (Nat.le_refl _) [] rfl rfl rfl rfl rfl hl.1 rfl (Nat.le_of_ble_eq_true rfl) dX2_ofParts_13 ⟨Nat.zero_le _, Nat.zero_le _⟩ (fun H locs hP hS => ?_)
  replace hP : zP G [] [] H := hP
  cases h
  exact z_lret hx hb hr hlk hP hS dX2_ofParts_16
end
def rmX1_joinNeighbours : Room := { frames := 2, cells := 0, slots := 0, locals := 48 }
theorem kvX1_joinNeighbours : yX1_joinNeighbours.cls = RX1 ∧ yX1_joinNeighbours.cls ≠ "java/lang/invoke/MethodHandle" ∧ yX1_joinNeighbours.cls ≠ "java/lang/invoke/VarHandle" ∧ (parseMethodDescriptor yX1_joinNeighbours.desc).map (fun d => d.parameters.length) = some 1 := by decide +kernel
section
variable {p : Program} {l : Launch} {e : Env} {s : State} {m : MethodId} {args : Array Value} {below : List Frame} {meth : Method} {c : Code} {G : zG} {xB : Nat → Nat} {vB : zSt}
set_option maxRecDepth 20000 in
theorem tlX1_joinNeighbours_2 (C0 : zCtx p s m args meth c cX1_joinNeighbours RX1 wsX1_joinNeighbours 3 none) (hK : zK G s) (hN : zN s) (hD : zD [shB G xB])  : ∀ (n : Nat), ∀ (uB : zSt) (l1 : Int32) (l2 : Int32), lX1_joinNeighbours_2  n uB l1 l2 = some vB → ∀ (H : Heap) (locs : List Loc), zP G [shB G xB] [uB] H → va_S (zA [shB G xB] s.heap.size) s.heap H locs → ∀ ls : Array Slot, lv_has ls 3 [(0, .ref (xB 0)), (1, .int l1), (2, .int l2)] → W p l e rmX1_joinNeighbours s m args below meth c H locs 0 0 (MQ below (zQ G [shB G xB] [vB] (zA [shB G xB] s.heap.size) none) args s 0 0 (zA [shB G xB] s.heap.size)) (F0 m 2 ls []) := by
  obtain ⟨hx, hb, hr, hml, hown, hts, hlk⟩ := id C0
  have hwX1 : ∀ w ∈ wsX10, w.before args s = true := fun w h => hts w (List.mem_cons_of_mem _ (List.mem_append_right _ h))
  intro n
  induction n with
  | zero => intro uB l1 l2 h; exact absurd h (fun q => nomatch q)
  | succ n K2 =>
    intro uB l1 l2 h H locs hP hS ls hl
    replace h : bX1_joinNeighbours_2  (lX1_joinNeighbours_2  n) uB l1 l2 = some vB := h
    unfold bX1_joinNeighbours_2 at h
    refine lv_iload_n hx hb dX1_joinNeighbours_2 rfl (lv_at hl 2 rfl) ?_
    refine lv_iload_n hx hb dX1_joinNeighbours_3 rfl (lv_at hl 1 rfl) ?_
    refine lv_iconst (v := 2) hx hb dX1_joinNeighbours_4 (by decide) ?_
    refine lv_idiv hx hb dX1_joinNeighbours_5 (by decide) ?_
    refine lv_icmp_ge (tgt := 42) hx hb dX1_joinNeighbours_6 (by decide) (fun hc => ?_) (fun hc => ?_)
    · replace h := zt hc h
      refine lv_iload_n hx hb dX1_joinNeighbours_42 rfl (lv_at hl 1 rfl) ?_
      refine lv_iconst (v := 2) hx hb dX1_joinNeighbours_43 (by decide) ?_
      refine lv_irem hx hb dX1_joinNeighbours_44 (by decide) ?_
      refine lv_iconst (v := 1) hx hb dX1_joinNeighbours_45 (by decide) ?_
      refine lv_icmp_ne (tgt := 65) hx hb dX1_joinNeighbours_46 (by decide) (fun hc => ?_) (fun hc => ?_)
      · replace h := zf hc h
        cases h
        exact z_vret hx hb hr hlk hP hS dX1_joinNeighbours_65
      · replace h := zt hc h
        refine lv_aload_n hx hb dX1_joinNeighbours_49 rfl (lv_at hl 0 rfl) ?_
        refine rB_2 hx hb hwX1 hown hK hP 0 (xB) rfl rfl (hts _ (List.mem_of_getElem? (i := 1) rfl)) dX1_joinNeighbours_50 ?_
        refine lv_iload_n hx hb dX1_joinNeighbours_53 rfl (lv_at hl 1 rfl) ?_
        refine lv_iconst (v := 2) hx hb dX1_joinNeighbours_54 (by decide) ?_
        refine lv_idiv hx hb dX1_joinNeighbours_55 (by decide) ?_
        refine lv_aload_n hx hb dX1_joinNeighbours_56 rfl (lv_at hl 0 rfl) ?_
        refine rB_2 hx hb hwX1 hown hK hP 0 (xB) rfl rfl (hts _ (List.mem_of_getElem? (i := 1) rfl)) dX1_joinNeighbours_57 ?_
        refine lv_iload_n hx hb dX1_joinNeighbours_60 rfl (lv_at hl 1 rfl) ?_
        refine lv_iconst (v := 1) hx hb dX1_joinNeighbours_61 (by decide) ?_
        refine lv_isub hx hb dX1_joinNeighbours_62 ?_
        obtain ⟨hi, h⟩ := zin_e h
        refine aB_2 hx hb hK hP 0 (xB) rfl rfl hi rfl dX1_joinNeighbours_63 ?_
        obtain ⟨hi, h⟩ := zin_e h
        refine tB_2 hx hb hK hP hD hS 0 (xB) rfl rfl hi rfl dX1_joinNeighbours_64 (fun H locs hP hS => ?_)
        replace hP : zP G [shB G xB] [(sL uB 2 ((l1 / (2 : Int32))).toNatClampNeg ((gL uB 2 ((l1 - (1 : Int32))).toNatClampNeg)))] H := hP
        cases h
        exact z_vret hx hb hr hlk hP hS dX1_joinNeighbours_65
    · replace h := zf hc h
      refine lv_aload_n hx hb dX1_joinNeighbours_9 rfl (lv_at hl 0 rfl) ?_
      refine rB_2 hx hb hwX1 hown hK hP 0 (xB) rfl rfl (hts _ (List.mem_of_getElem? (i := 1) rfl)) dX1_joinNeighbours_10 ?_
      refine lv_iload_n hx hb dX1_joinNeighbours_13 rfl (lv_at hl 2 rfl) ?_
      refine lv_aload_n hx hb dX1_joinNeighbours_14 rfl (lv_at hl 0 rfl) ?_
      refine rB_2 hx hb hwX1 hown hK hP 0 (xB) rfl rfl (hts _ (List.mem_of_getElem? (i := 1) rfl)) dX1_joinNeighbours_15 ?_
      refine lv_iconst (v := 2) hx hb dX1_joinNeighbours_18 (by decide) ?_
      refine lv_iload_n hx hb dX1_joinNeighbours_19 rfl (lv_at hl 2 rfl) ?_
      refine lv_imul hx hb dX1_joinNeighbours_20 ?_
      obtain ⟨hi, h⟩ := zin_e h
      refine aB_2 hx hb hK hP 0 (xB) rfl rfl hi rfl dX1_joinNeighbours_21 ?_
      refine lv_aload_n hx hb dX1_joinNeighbours_22 rfl (lv_at hl 0 rfl) ?_
      refine rB_2 hx hb hwX1 hown hK hP 0 (xB) rfl rfl (hts _ (List.mem_of_getElem? (i := 1) rfl)) dX1_joinNeighbours_23 ?_
      refine lv_iconst (v := 2) hx hb dX1_joinNeighbours_26 (by decide) ?_
      refine lv_iload_n hx hb dX1_joinNeighbours_27 rfl (lv_at hl 2 rfl) ?_
      refine lv_imul hx hb dX1_joinNeighbours_28 ?_
      refine lv_iconst (v := 1) hx hb dX1_joinNeighbours_29 (by decide) ?_
      refine lv_iadd hx hb dX1_joinNeighbours_30 ?_
      obtain ⟨hi, h⟩ := zin_e h
      refine aB_2 hx hb hK hP 0 (xB) rfl rfl hi rfl dX1_joinNeighbours_31 ?_
      obtain ⟨r_1, hg, h⟩ := zb1_e h
      refine z_callS (As := [.long ((gL uB 2 (((2 : Int32) * l2)).toNatClampNeg)), .long ((gL uB 2 ((((2 : Int32) * l2) + (1 : Int32))).toNatClampNeg))]) (rest := [.int l2, .ref (xB 3)]) ⟨hx, hb, hml, hown, hts⟩ (mX2_ofParts l G  hg) (va_cwS 2 hts gX1_joinNeighbours_X2_ofParts rfl rfl rfl ksX2_ofParts ⟨Nat.le_of_ble_eq_true rfl, Nat.le_of_ble_eq_true rfl⟩) hP hD hK hN hS (Nat.le_refl _) [] rfl rfl rfl rfl rfl hl.1 rfl (Nat.le_of_ble_eq_true rfl) dX1_joinNeighbours_32 ⟨Nat.zero_le _, Nat.zero_le _⟩ (fun H locs hP hS => ?_)
      replace hP : zP G [shB G xB] [uB] H := hP
      obtain ⟨hi, h⟩ := zin_e h
      refine tB_2 hx hb hK hP hD hS 0 (xB) rfl rfl hi rfl dX1_joinNeighbours_35 (fun H locs hP hS => ?_)
      replace hP : zP G [shB G xB] [(sL uB 2 l2.toNatClampNeg r_1)] H := hP
      refine lv_iinc (v := (l2 + (1 : Int32))) (lv' := [(2, .int ((l2 + (1 : Int32)))), (0, .ref (xB 0)), (1, .int l1)]) hx hb dX1_joinNeighbours_36 hl (k := 2) rfl rfl (by decide) rfl (fun ls hl => ?_)
      refine lv_goto (tgt := 2) hx hb dX1_joinNeighbours_39 (by decide) ?_
      exact K2 _ _ _ h _ _ hP hS _ (lv_sub hl [1, 2, 0] rfl)
set_option maxRecDepth 20000 in
theorem mX1_joinNeighbours (l : Launch) (G : zG) (xB : Nat → Nat) {uB : zSt} {l1 : Int32} {vB : zSt} (h : fX1_joinNeighbours uB l1 = some vB) : zC l yX1_joinNeighbours wsX1_joinNeighbours rmX1_joinNeighbours [.ref (xB 0), .int l1] G [shB G xB] [uB] [vB] none := by
  refine z_ofW (cc := cX1_joinNeighbours) (maxL := 3) (ret := none) (by decide) rfl (Nat.le_of_ble_eq_true rfl) ?_
  intro p e s m args below meth c C0 hK hN hD hP ls hl
  obtain ⟨hx, hb, hr, hml, hown, hts, hlk⟩ := id C0
  have hS : va_S (zA [shB G xB] s.heap.size) s.heap s.heap [] := va_S.rf
  replace hl : lv_has ls 3 [(0, .ref (xB 0)), (1, .int l1)] := hl
  unfold fX1_joinNeighbours at h
  refine lv_iconst (v := 0) hx hb dX1_joinNeighbours_0 (by decide) ?_
  refine lv_istore_n (lv' := [(2, .int ((0 : Int32))), (0, .ref (xB 0)), (1, .int l1)]) hx hb dX1_joinNeighbours_1 rfl hl (by decide) rfl (fun ls hl => ?_)
  exact tlX1_joinNeighbours_2 C0 hK hN hD  1000 _ _ _ h _ _ hP hS _ (lv_sub hl [1, 2, 0] rfl)
end
def rmX1_headOf : Room := { frames := 3, cells := 0, slots := 0, locals := 70 }
theorem kvX1_headOf : yX1_headOf.cls = RX1 ∧ yX1_headOf.cls ≠ "java/lang/invoke/MethodHandle" ∧ yX1_headOf.cls ≠ "java/lang/invoke/VarHandle" ∧ (parseMethodDescriptor yX1_headOf.desc).map (fun d => d.parameters.length) = some 2 := by decide +kernel
section
variable {p : Program} {l : Launch} {e : Env} {s : State} {m : MethodId} {args : Array Value} {below : List Frame} {meth : Method} {c : Code} {G : zG} {xB : Nat → Nat} {rr : Int64} {vB : zSt}
set_option maxRecDepth 20000 in
theorem tlX1_headOf_34 (C0 : zCtx p s m args meth c cX1_headOf RX1 wsX1_headOf 4 (some .long)) (hK : zK G s) (hN : zN s) (hD : zD [shB G xB])  : ∀ (n : Nat), ∀ (uB : zSt) (l3 : Int32), lX1_headOf_34  n uB l3 = some (rr, vB) → ∀ (H : Heap) (locs : List Loc), zP G [shB G xB] [uB] H → va_S (zA [shB G xB] s.heap.size) s.heap H locs → ∀ ls : Array Slot, lv_has ls 4 [(0, .ref (xB 0)), (3, .int l3)] → W p l e rmX1_headOf s m args below meth c H locs 0 0 (MQ below (zQ G [shB G xB] [vB] (zA [shB G xB] s.heap.size) (some (.long rr))) args s 0 0 (zA [shB G xB] s.heap.size)) (F0 m 34 ls []) := by
  obtain ⟨hx, hb, hr, hml, hown, hts, hlk⟩ := id C0
  have hwX1 : ∀ w ∈ wsX10, w.before args s = true := fun w h => hts w (List.mem_cons_of_mem _ (List.mem_append_right _ h))
  intro n
  induction n with
  | zero => intro uB l3 h; exact absurd h (fun q => nomatch q)
  | succ n K34 =>
    intro uB l3 h H locs hP hS ls hl
    replace h : bX1_headOf_34  (lX1_headOf_34  n) uB l3 = some (rr, vB) := h
    unfold bX1_headOf_34 at h
    refine lv_iload_n hx hb dX1_headOf_34 rfl (lv_at hl 1 rfl) ?_
    refine lv_iconst (v := 1) hx hb dX1_headOf_35 (by decide) ?_
    refine lv_icmp_le (tgt := 53) hx hb dX1_headOf_36 (by decide) (fun hc => ?_) (fun hc => ?_)
    · replace h := zt hc h
      refine lv_aload_n hx hb dX1_headOf_53 rfl (lv_at hl 0 rfl) ?_
      refine rB_2 hx hb hwX1 hown hK hP 0 (xB) rfl rfl (hts _ (List.mem_of_getElem? (i := 1) rfl)) dX1_headOf_54 ?_
      refine lv_iconst (v := 0) hx hb dX1_headOf_57 (by decide) ?_
      refine aB_2 hx hb hK hP 0 (xB) rfl rfl (zvi tn_0 n0_0 (by decide)) tn_0 dX1_headOf_58 ?_
      cases h
      exact z_lret hx hb hr hlk hP hS dX1_headOf_59
    · replace h := zf hc h
      refine lv_aload_n hx hb dX1_headOf_39 rfl (lv_at hl 0 rfl) ?_
      refine lv_iload_n hx hb dX1_headOf_40 rfl (lv_at hl 1 rfl) ?_
      obtain ⟨uB_1, hg, h⟩ := zb1_e h
      refine z_callV (As := [.int l3]) (rest := []) (i := 0) ⟨hx, hb, hml, hown, hts⟩ (mX1_joinNeighbours l G (xB) hg) (cwV 1 hts gX1_headOf_X1_joinNeighbours rfl rfl rfl kvX1_joinNeighbours ⟨Nat.le_of_ble_eq_true rfl, Nat.le_of_ble_eq_true rfl⟩) rfl hP hD hK hN hS (Nat.le_refl _) [0] rfl rfl rfl rfl 0 rfl rfl rfl rfl rfl hl.1 rfl (Nat.le_of_ble_eq_true rfl) dX1_headOf_41 ⟨Nat.zero_le _, Nat.zero_le _⟩ (fun H locs hP hS => ?_)
      replace hP : zP G [shB G xB] [uB_1] H := hP
      refine lv_iload_n hx hb dX1_headOf_44 rfl (lv_at hl 1 rfl) ?_
      refine lv_iconst (v := 1) hx hb dX1_headOf_45 (by decide) ?_
      refine lv_iadd hx hb dX1_headOf_46 ?_
      refine lv_iconst (v := 2) hx hb dX1_headOf_47 (by decide) ?_
      refine lv_idiv hx hb dX1_headOf_48 (by decide) ?_
      refine lv_istore_n (lv' := [(3, .int (((l3 + (1 : Int32)) / (2 : Int32)))), (0, .ref (xB 0))]) hx hb dX1_headOf_49 rfl hl (by decide) rfl (fun ls hl => ?_)
      refine lv_goto (tgt := 34) hx hb dX1_headOf_50 (by decide) ?_
      exact K34 _ _ h _ _ hP hS _ (lv_sub hl [1, 0] rfl)
set_option maxRecDepth 20000 in
theorem tlX1_headOf_8 (C0 : zCtx p s m args meth c cX1_headOf RX1 wsX1_headOf 4 (some .long)) (hK : zK G s) (hN : zN s) (hD : zD [shB G xB])  : ∀ (n : Nat), ∀ (uB : zSt) (l1 : Int32) (l2 : Int32) (l3 : Int32), lX1_headOf_8  n uB l1 l2 l3 = some (rr, vB) → ∀ (H : Heap) (locs : List Loc), zP G [shB G xB] [uB] H → va_S (zA [shB G xB] s.heap.size) s.heap H locs → ∀ ls : Array Slot, lv_has ls 4 [(0, .ref (xB 0)), (1, .int l1), (2, .int l2), (3, .int l3)] → W p l e rmX1_headOf s m args below meth c H locs 0 0 (MQ below (zQ G [shB G xB] [vB] (zA [shB G xB] s.heap.size) (some (.long rr))) args s 0 0 (zA [shB G xB] s.heap.size)) (F0 m 8 ls []) := by
  obtain ⟨hx, hb, hr, hml, hown, hts, hlk⟩ := id C0
  have hwX1 : ∀ w ∈ wsX10, w.before args s = true := fun w h => hts w (List.mem_cons_of_mem _ (List.mem_append_right _ h))
  intro n
  induction n with
  | zero => intro uB l1 l2 l3 h; exact absurd h (fun q => nomatch q)
  | succ n K8 =>
    intro uB l1 l2 l3 h H locs hP hS ls hl
    replace h : bX1_headOf_8  (lX1_headOf_8  n) uB l1 l2 l3 = some (rr, vB) := h
    unfold bX1_headOf_8 at h
    refine lv_iload_n hx hb dX1_headOf_8 rfl (lv_at hl 3 rfl) ?_
    refine lv_iload_n hx hb dX1_headOf_9 rfl (lv_at hl 2 rfl) ?_
    refine lv_icmp_ge (tgt := 32) hx hb dX1_headOf_10 (by decide) (fun hc => ?_) (fun hc => ?_)
    · replace h := zt hc h
      refine lv_iload_n hx hb dX1_headOf_32 rfl (lv_at hl 2 rfl) ?_
      refine lv_istore_n (lv' := [(3, .int l2), (0, .ref (xB 0)), (1, .int l1), (2, .int l2)]) hx hb dX1_headOf_33 rfl hl (by decide) rfl (fun ls hl => ?_)
      exact tlX1_headOf_34 C0 hK hN hD  1000 _ _ h _ _ hP hS _ (lv_sub hl [1, 0] rfl)
    · replace h := zf hc h
      refine lv_aload_n hx hb dX1_headOf_13 rfl (lv_at hl 0 rfl) ?_
      refine rB_2 hx hb hwX1 hown hK hP 0 (xB) rfl rfl (hts _ (List.mem_of_getElem? (i := 1) rfl)) dX1_headOf_14 ?_
      refine lv_iload_n hx hb dX1_headOf_17 rfl (lv_at hl 3 rfl) ?_
      refine lv_aload_n hx hb dX1_headOf_18 rfl (lv_at hl 0 rfl) ?_
      refine lv_iload_n hx hb dX1_headOf_19 rfl (lv_at hl 1 rfl) ?_
      refine lv_iload_n hx hb dX1_headOf_20 rfl (lv_at hl 3 rfl) ?_
      refine lv_iadd hx hb dX1_headOf_21 ?_
      obtain ⟨r_2, hg, h⟩ := zb1_e h
      refine z_callV (As := [.int ((l1 + l3))]) (rest := [.int l3, .ref (xB 3)]) (i := 0) ⟨hx, hb, hml, hown, hts⟩ (mX1_leafOf l G (xB) hg) (cwV 1 hts gX1_headOf_X1_leafOf rfl rfl rfl kvX1_leafOf ⟨Nat.le_of_ble_eq_true rfl, Nat.le_of_ble_eq_true rfl⟩) rfl hP hD hK hN hS (Nat.le_refl _) [0] rfl rfl rfl rfl 0 rfl rfl rfl rfl rfl hl.1 rfl (Nat.le_of_ble_eq_true rfl) dX1_headOf_22 ⟨Nat.zero_le _, Nat.zero_le _⟩ (fun H locs hP hS => ?_)
      replace hP : zP G [shB G xB] [uB] H := hP
      obtain ⟨hi, h⟩ := zin_e h
      refine tB_2 hx hb hK hP hD hS 0 (xB) rfl rfl hi rfl dX1_headOf_25 (fun H locs hP hS => ?_)
      replace hP : zP G [shB G xB] [(sL uB 2 l3.toNatClampNeg r_2)] H := hP
      refine lv_iinc (v := (l3 + (1 : Int32))) (lv' := [(3, .int ((l3 + (1 : Int32)))), (0, .ref (xB 0)), (1, .int l1), (2, .int l2)]) hx hb dX1_headOf_26 hl (k := 3) rfl rfl (by decide) rfl (fun ls hl => ?_)
      refine lv_goto (tgt := 8) hx hb dX1_headOf_29 (by decide) ?_
      exact K8 _ _ _ _ h _ _ hP hS _ (lv_sub hl [1, 2, 3, 0] rfl)
set_option maxRecDepth 20000 in
theorem mX1_headOf (l : Launch) (G : zG) (xB : Nat → Nat) {uB : zSt} {l1 : Int32} {l2 : Int32} {rr : Int64} {vB : zSt} (h : fX1_headOf uB l1 l2 = some (rr, vB)) : zC l yX1_headOf wsX1_headOf rmX1_headOf [.ref (xB 0), .int l1, .int l2] G [shB G xB] [uB] [vB] (some (.long rr)) := by
  refine z_ofW (cc := cX1_headOf) (maxL := 4) (ret := some .long) (by decide) rfl (Nat.le_of_ble_eq_true rfl) ?_
  intro p e s m args below meth c C0 hK hN hD hP ls hl
  obtain ⟨hx, hb, hr, hml, hown, hts, hlk⟩ := id C0
  have hS : va_S (zA [shB G xB] s.heap.size) s.heap s.heap [] := va_S.rf
  replace hl : lv_has ls 4 [(0, .ref (xB 0)), (1, .int l1), (2, .int l2)] := hl
  unfold fX1_headOf at h
  refine lv_iload_n hx hb dX1_headOf_0 rfl (lv_at hl 2 rfl) ?_
  refine lv_if_ne (tgt := 6) hx hb dX1_headOf_1 (by decide) (fun hc => ?_) (fun hc => ?_)
  · replace h := zf hc h
    refine lv_iconst (v := 0) hx hb dX1_headOf_6 (by decide) ?_
    refine lv_istore_n (lv' := [(3, .int ((0 : Int32))), (0, .ref (xB 0)), (1, .int l1), (2, .int l2)]) hx hb dX1_headOf_7 rfl hl (by decide) rfl (fun ls hl => ?_)
    exact tlX1_headOf_8 C0 hK hN hD  1000 _ _ _ _ h _ _ hP hS _ (lv_sub hl [1, 2, 3, 0] rfl)
  · replace h := zt hc h
    refine lv_lconst (v := 0) hx hb dX1_headOf_4 rfl ?_
    cases h
    exact z_lret hx hb hr hlk hP hS dX1_headOf_5
end
def rmX5_split : Room := { frames := 0, cells := 0, slots := 0, locals := 0 }
theorem ksX5_split : yX5_split.cls ≠ "java/lang/invoke/MethodHandle" ∧ yX5_split.cls ≠ "java/lang/invoke/VarHandle" ∧ (parseMethodDescriptor yX5_split.desc).map (fun d => d.parameters.length) = some 1 := by decide +kernel
section
variable {p : Program} {l : Launch} {e : Env} {s : State} {m : MethodId} {args : Array Value} {below : List Frame} {meth : Method} {c : Code} {G : zG}  {rr : Int32}
set_option maxRecDepth 20000 in
theorem tlX5_split_2 (C0 : zCtx p s m args meth c cX5_split RX5 wsX5_split 2 (some .int)) (hK : zK G s) (hN : zN s) (hD : zD [])  : ∀ (n : Nat), ∀ (l0 : Int32) (l1 : Int32), lX5_split_2  n l0 l1 = some rr → ∀ (H : Heap) (locs : List Loc), zP G [] [] H → va_S (zA [] s.heap.size) s.heap H locs → ∀ ls : Array Slot, lv_has ls 2 [(0, .int l0), (1, .int l1)] → W p l e rmX5_split s m args below meth c H locs 0 0 (MQ below (zQ G [] [] (zA [] s.heap.size) (some (.int rr))) args s 0 0 (zA [] s.heap.size)) (F0 m 2 ls []) := by
  obtain ⟨hx, hb, hr, hml, hown, hts, hlk⟩ := id C0
  intro n
  induction n with
  | zero => intro l0 l1 h; exact absurd h (fun q => nomatch q)
  | succ n K2 =>
    intro l0 l1 h H locs hP hS ls hl
    replace h : bX5_split_2  (lX5_split_2  n) l0 l1 = some rr := h
    unfold bX5_split_2 at h
    refine lv_iload_n hx hb dX5_split_2 rfl (lv_at hl 1 rfl) ?_
    refine lv_iload_n hx hb dX5_split_3 rfl (lv_at hl 0 rfl) ?_
    refine lv_iload_n hx hb dX5_split_4 rfl (lv_at hl 1 rfl) ?_
    refine lv_isub hx hb dX5_split_5 ?_
    refine lv_icmp_ge (tgt := 16) hx hb dX5_split_6 (by decide) (fun hc => ?_) (fun hc => ?_)
    · replace h := zt hc h
      refine lv_iload_n hx hb dX5_split_16 rfl (lv_at hl 1 rfl) ?_
      cases h
      exact z_iret hx hb hr hlk hP hS dX5_split_17
    · replace h := zf hc h
      refine lv_iload_n hx hb dX5_split_9 rfl (lv_at hl 1 rfl) ?_
      refine lv_iconst (v := 2) hx hb dX5_split_10 (by decide) ?_
      refine lv_imul hx hb dX5_split_11 ?_
      refine lv_istore_n (lv' := [(1, .int ((l1 * (2 : Int32)))), (0, .int l0)]) hx hb dX5_split_12 rfl hl (by decide) rfl (fun ls hl => ?_)
      refine lv_goto (tgt := 2) hx hb dX5_split_13 (by decide) ?_
      exact K2 _ _ h _ _ hP hS _ (lv_sub hl [1, 0] rfl)
set_option maxRecDepth 20000 in
theorem mX5_split (l : Launch) (G : zG)  {l0 : Int32} {rr : Int32} (h : fX5_split l0 = some rr) : zC l yX5_split wsX5_split rmX5_split [.int l0] G [] [] [] (some (.int rr)) := by
  refine z_ofW (cc := cX5_split) (maxL := 2) (ret := some .int) (by decide) rfl (Nat.le_of_ble_eq_true rfl) ?_
  intro p e s m args below meth c C0 hK hN hD hP ls hl
  obtain ⟨hx, hb, hr, hml, hown, hts, hlk⟩ := id C0
  have hS : va_S (zA [] s.heap.size) s.heap s.heap [] := va_S.rf
  replace hl : lv_has ls 2 [(0, .int l0)] := hl
  unfold fX5_split at h
  refine lv_iconst (v := 1) hx hb dX5_split_0 (by decide) ?_
  refine lv_istore_n (lv' := [(1, .int ((1 : Int32))), (0, .int l0)]) hx hb dX5_split_1 rfl hl (by decide) rfl (fun ls hl => ?_)
  exact tlX5_split_2 C0 hK hN hD  1000 _ _ h _ _ hP hS _ (lv_sub hl [1, 0] rfl)
end
def rmX5_goDown : Room := { frames := 0, cells := 0, slots := 0, locals := 0 }
theorem kvX5_goDown : yX5_goDown.cls = RX5 ∧ yX5_goDown.cls ≠ "java/lang/invoke/MethodHandle" ∧ yX5_goDown.cls ≠ "java/lang/invoke/VarHandle" ∧ (parseMethodDescriptor yX5_goDown.desc).map (fun d => d.parameters.length) = some 1 := by decide +kernel
section
variable {p : Program} {l : Launch} {e : Env} {s : State} {m : MethodId} {args : Array Value} {below : List Frame} {meth : Method} {c : Code} {G : zG} {xR : Nat → Nat} {vR : zSt}
set_option maxRecDepth 20000 in
theorem tX5_goDown_19 (C0 : zCtx p s m args meth c cX5_goDown RX5 wsX5_goDown 2 none) (hK : zK G s) (hN : zN s) (hD : zD [shR G xR])  : ∀ (uR : zSt), bX5_goDown_19  uR = some vR → ∀ (H : Heap) (locs : List Loc), zP G [shR G xR] [uR] H → va_S (zA [shR G xR] s.heap.size) s.heap H locs → ∀ ls : Array Slot, lv_has ls 2 [(0, .ref (xR 0))] → W p l e rmX5_goDown s m args below meth c H locs 0 0 (MQ below (zQ G [shR G xR] [vR] (zA [shR G xR] s.heap.size) none) args s 0 0 (zA [shR G xR] s.heap.size)) (F0 m 19 ls []) := by
  obtain ⟨hx, hb, hr, hml, hown, hts, hlk⟩ := id C0
  have hwX5 : ∀ w ∈ wsX50, w.before args s = true := fun w h => hts w (List.mem_cons_of_mem _ (List.mem_append_right _ h))
  intro uR h H locs hP hS ls hl
  unfold bX5_goDown_19 at h
  refine lv_aload_n hx hb dX5_goDown_19 rfl (lv_at hl 0 rfl) ?_
  refine lv_dup hx hb dX5_goDown_20 rfl ?_
  refine rR_2 hx hb hwX5 hown hK hP 0 (xR) rfl rfl (hts _ (List.mem_of_getElem? (i := 2) rfl)) dX5_goDown_21 ?_
  refine lv_iconst (v := 1) hx hb dX5_goDown_24 (by decide) ?_
  refine lv_iadd hx hb dX5_goDown_25 ?_
  refine pR_2 hx hb hwX5 hown hK hP hD hS 0 (xR) rfl rfl (hts _ (List.mem_of_getElem? (i := 2) rfl)) dX5_goDown_26 (fun H locs hP hS => ?_)
  replace hP : zP G [shR G xR] [(sI uR 2 (((gI uR 2) + (1 : Int32))))] H := hP
  cases h
  exact z_vret hx hb hr hlk hP hS dX5_goDown_29
set_option maxRecDepth 20000 in
theorem mX5_goDown (l : Launch) (G : zG) (xR : Nat → Nat) {uR : zSt} {l1 : Int32} {vR : zSt} (h : fX5_goDown uR l1 = some vR) : zC l yX5_goDown wsX5_goDown rmX5_goDown [.ref (xR 0), .int l1] G [shR G xR] [uR] [vR] none := by
  refine z_ofW (cc := cX5_goDown) (maxL := 2) (ret := none) (by decide) rfl (Nat.le_of_ble_eq_true rfl) ?_
  intro p e s m args below meth c C0 hK hN hD hP ls hl
  obtain ⟨hx, hb, hr, hml, hown, hts, hlk⟩ := id C0
  have hS : va_S (zA [shR G xR] s.heap.size) s.heap s.heap [] := va_S.rf
  replace hl : lv_has ls 2 [(0, .ref (xR 0)), (1, .int l1)] := hl
  have hwX5 : ∀ w ∈ wsX50, w.before args s = true := fun w h => hts w (List.mem_cons_of_mem _ (List.mem_append_right _ h))
  unfold fX5_goDown at h
  refine lv_iload_n hx hb dX5_goDown_0 rfl (lv_at hl 1 rfl) ?_
  refine lv_if_eq (tgt := 19) hx hb dX5_goDown_1 (by decide) (fun hc => ?_) (fun hc => ?_)
  · replace h := zt hc h
    exact tX5_goDown_19 C0 hK hN hD  _ h _ _ hP hS _ (lv_sub hl [0] rfl)
  · replace h := zf hc h
    refine lv_aload_n hx hb dX5_goDown_4 rfl (lv_at hl 0 rfl) ?_
    refine lv_dup hx hb dX5_goDown_5 rfl ?_
    refine rR_3 hx hb hwX5 hown hK hP 0 (xR) rfl rfl (hts _ (List.mem_of_getElem? (i := 1) rfl)) dX5_goDown_6 ?_
    refine lv_lconst (v := 1) hx hb dX5_goDown_9 rfl ?_
    refine lv_aload_n hx hb dX5_goDown_10 rfl (lv_at hl 0 rfl) ?_
    refine rR_2 hx hb hwX5 hown hK hP 0 (xR) rfl rfl (hts _ (List.mem_of_getElem? (i := 2) rfl)) dX5_goDown_11 ?_
    refine lv_lshl (v := ((1 : Int64) <<< ((gI uR 2).toInt64 &&& 63))) hx hb dX5_goDown_14 rfl ?_
    refine lv_lor hx hb dX5_goDown_15 ?_
    refine pR_3 hx hb hwX5 hown hK hP hD hS 0 (xR) rfl rfl (hts _ (List.mem_of_getElem? (i := 1) rfl)) dX5_goDown_16 (fun H locs hP hS => ?_)
    replace hP : zP G [shR G xR] [(sJ uR 3 (((gJ uR 3) ||| ((1 : Int64) <<< ((gI uR 2).toInt64 &&& 63)))))] H := hP
    exact tX5_goDown_19 C0 hK hN hD  _ h _ _ hP hS _ (lv_sub hl [0] rfl)
end
def rmX5_goToRecord : Room := { frames := 1, cells := 0, slots := 0, locals := 21 }
theorem kvX5_goToRecord : yX5_goToRecord.cls = RX5 ∧ yX5_goToRecord.cls ≠ "java/lang/invoke/MethodHandle" ∧ yX5_goToRecord.cls ≠ "java/lang/invoke/VarHandle" ∧ (parseMethodDescriptor yX5_goToRecord.desc).map (fun d => d.parameters.length) = some 2 := by decide +kernel
section
variable {p : Program} {l : Launch} {e : Env} {s : State} {m : MethodId} {args : Array Value} {below : List Frame} {meth : Method} {c : Code} {G : zG} {xR : Nat → Nat} {vR : zSt}
set_option maxRecDepth 20000 in
theorem tX5_goToRecord_80 (C0 : zCtx p s m args meth c cX5_goToRecord RX5 wsX5_goToRecord 8 none) (hK : zK G s) (hN : zN s) (hD : zD [shR G xR]) {k18 : zSt → Int32 → Int32 → Int32 → Option (zSt)} (K18 : ∀ (uR : zSt) (l3 : Int32) (l4 : Int32) (l5 : Int32), k18 uR l3 l4 l5 = some vR → ∀ (H : Heap) (locs : List Loc), zP G [shR G xR] [uR] H → va_S (zA [shR G xR] s.heap.size) s.heap H locs → ∀ ls : Array Slot, lv_has ls 8 [(0, .ref (xR 0)), (3, .int l3), (4, .int l4), (5, .int l5)] → W p l e rmX5_goToRecord s m args below meth c H locs 0 0 (MQ below (zQ G [shR G xR] [vR] (zA [shR G xR] s.heap.size) none) args s 0 0 (zA [shR G xR] s.heap.size)) (F0 m 18 ls [])) : ∀ (uR : zSt) (l3 : Int32) (l5 : Int32) (l7 : Int32) (s0 : Int32), bX5_goToRecord_80 k18 uR l3 l5 l7 s0 = some vR → ∀ (H : Heap) (locs : List Loc), zP G [shR G xR] [uR] H → va_S (zA [shR G xR] s.heap.size) s.heap H locs → ∀ ls : Array Slot, lv_has ls 8 [(0, .ref (xR 0)), (3, .int l3), (5, .int l5), (7, .int l7)] → W p l e rmX5_goToRecord s m args below meth c H locs 0 0 (MQ below (zQ G [shR G xR] [vR] (zA [shR G xR] s.heap.size) none) args s 0 0 (zA [shR G xR] s.heap.size)) (F0 m 80 ls [.int s0]) := by
  obtain ⟨hx, hb, hr, hml, hown, hts, hlk⟩ := id C0
  intro uR l3 l5 l7 s0 h H locs hP hS ls hl
  unfold bX5_goToRecord_80 at h
  refine lv_istore (lv' := [(4, .int s0), (0, .ref (xR 0)), (3, .int l3), (5, .int l5), (7, .int l7)]) hx hb dX5_goToRecord_80 hl (by decide) rfl (fun ls hl => ?_)
  refine lv_aload_n hx hb dX5_goToRecord_82 rfl (lv_at hl 1 rfl) ?_
  refine lv_iload hx hb dX5_goToRecord_83 (lv_at hl 4 rfl) ?_
  obtain ⟨uR_1, hg, h⟩ := zb1_e h
  refine z_callV (As := [.int l7]) (rest := []) (i := 0) ⟨hx, hb, hml, hown, hts⟩ (mX5_goDown l G (xR) hg) (cwV 1 hts gX5_goToRecord_X5_goDown rfl rfl rfl kvX5_goDown ⟨Nat.le_of_ble_eq_true rfl, Nat.le_of_ble_eq_true rfl⟩) rfl hP hD hK hN hS (Nat.le_refl _) [0] rfl rfl rfl rfl 0 rfl rfl rfl rfl rfl hl.1 rfl (Nat.le_of_ble_eq_true rfl) dX5_goToRecord_85 ⟨Nat.zero_le _, Nat.zero_le _⟩ (fun H locs hP hS => ?_)
  replace hP : zP G [shR G xR] [uR_1] H := hP
  refine lv_iinc (v := (l5 + (1 : Int32))) (lv' := [(5, .int ((l5 + (1 : Int32)))), (4, .int s0), (0, .ref (xR 0)), (3, .int l3), (7, .int l7)]) hx hb dX5_goToRecord_88 hl (k := 3) rfl rfl (by decide) rfl (fun ls hl => ?_)
  refine lv_goto (tgt := 18) hx hb dX5_goToRecord_91 (by decide) ?_
  exact K18 _ _ _ _ h _ _ hP hS _ (lv_sub hl [2, 3, 1, 0] rfl)
set_option maxRecDepth 20000 in
theorem tX5_goToRecord_64 (C0 : zCtx p s m args meth c cX5_goToRecord RX5 wsX5_goToRecord 8 none) (hK : zK G s) (hN : zN s) (hD : zD [shR G xR]) {k18 : zSt → Int32 → Int32 → Int32 → Option (zSt)} (K18 : ∀ (uR : zSt) (l3 : Int32) (l4 : Int32) (l5 : Int32), k18 uR l3 l4 l5 = some vR → ∀ (H : Heap) (locs : List Loc), zP G [shR G xR] [uR] H → va_S (zA [shR G xR] s.heap.size) s.heap H locs → ∀ ls : Array Slot, lv_has ls 8 [(0, .ref (xR 0)), (3, .int l3), (4, .int l4), (5, .int l5)] → W p l e rmX5_goToRecord s m args below meth c H locs 0 0 (MQ below (zQ G [shR G xR] [vR] (zA [shR G xR] s.heap.size) none) args s 0 0 (zA [shR G xR] s.heap.size)) (F0 m 18 ls [])) : ∀ (uR : zSt) (l4 : Int32) (l5 : Int32) (l6 : Int32) (l7 : Int32) (s0 : Int32), bX5_goToRecord_64 k18 uR l4 l5 l6 l7 s0 = some vR → ∀ (H : Heap) (locs : List Loc), zP G [shR G xR] [uR] H → va_S (zA [shR G xR] s.heap.size) s.heap H locs → ∀ ls : Array Slot, lv_has ls 8 [(0, .ref (xR 0)), (4, .int l4), (5, .int l5), (6, .int l6), (7, .int l7)] → W p l e rmX5_goToRecord s m args below meth c H locs 0 0 (MQ below (zQ G [shR G xR] [vR] (zA [shR G xR] s.heap.size) none) args s 0 0 (zA [shR G xR] s.heap.size)) (F0 m 64 ls [.int s0]) := by
  obtain ⟨hx, hb, hr, hml, hown, hts, hlk⟩ := id C0
  intro uR l4 l5 l6 l7 s0 h H locs hP hS ls hl
  unfold bX5_goToRecord_64 at h
  refine lv_istore_n (lv' := [(3, .int s0), (0, .ref (xR 0)), (4, .int l4), (5, .int l5), (6, .int l6), (7, .int l7)]) hx hb dX5_goToRecord_64 rfl hl (by decide) rfl (fun ls hl => ?_)
  refine lv_iload hx hb dX5_goToRecord_65 (lv_at hl 5 rfl) ?_
  refine lv_if_eq (tgt := 78) hx hb dX5_goToRecord_67 (by decide) (fun hc => ?_) (fun hc => ?_)
  · replace h := zt hc h
    refine lv_iload hx hb dX5_goToRecord_78 (lv_at hl 4 rfl) ?_
    exact tX5_goToRecord_80 C0 hK hN hD K18 _ _ _ _ _ h _ _ hP hS _ (lv_sub hl [1, 0, 3, 5] rfl)
  · replace h := zf hc h
    refine lv_iload hx hb dX5_goToRecord_70 (lv_at hl 2 rfl) ?_
    refine lv_iload hx hb dX5_goToRecord_72 (lv_at hl 4 rfl) ?_
    refine lv_isub hx hb dX5_goToRecord_74 ?_
    refine lv_goto (tgt := 80) hx hb dX5_goToRecord_75 (by decide) ?_
    exact tX5_goToRecord_80 C0 hK hN hD K18 _ _ _ _ _ h _ _ hP hS _ (lv_sub hl [1, 0, 3, 5] rfl)
set_option maxRecDepth 20000 in
theorem tX5_goToRecord_49 (C0 : zCtx p s m args meth c cX5_goToRecord RX5 wsX5_goToRecord 8 none) (hK : zK G s) (hN : zN s) (hD : zD [shR G xR]) {k18 : zSt → Int32 → Int32 → Int32 → Option (zSt)} (K18 : ∀ (uR : zSt) (l3 : Int32) (l4 : Int32) (l5 : Int32), k18 uR l3 l4 l5 = some vR → ∀ (H : Heap) (locs : List Loc), zP G [shR G xR] [uR] H → va_S (zA [shR G xR] s.heap.size) s.heap H locs → ∀ ls : Array Slot, lv_has ls 8 [(0, .ref (xR 0)), (3, .int l3), (4, .int l4), (5, .int l5)] → W p l e rmX5_goToRecord s m args below meth c H locs 0 0 (MQ below (zQ G [shR G xR] [vR] (zA [shR G xR] s.heap.size) none) args s 0 0 (zA [shR G xR] s.heap.size)) (F0 m 18 ls [])) : ∀ (uR : zSt) (l3 : Int32) (l4 : Int32) (l5 : Int32) (l6 : Int32) (s0 : Int32), bX5_goToRecord_49 k18 uR l3 l4 l5 l6 s0 = some vR → ∀ (H : Heap) (locs : List Loc), zP G [shR G xR] [uR] H → va_S (zA [shR G xR] s.heap.size) s.heap H locs → ∀ ls : Array Slot, lv_has ls 8 [(0, .ref (xR 0)), (3, .int l3), (4, .int l4), (5, .int l5), (6, .int l6)] → W p l e rmX5_goToRecord s m args below meth c H locs 0 0 (MQ below (zQ G [shR G xR] [vR] (zA [shR G xR] s.heap.size) none) args s 0 0 (zA [shR G xR] s.heap.size)) (F0 m 49 ls [.int s0]) := by
  obtain ⟨hx, hb, hr, hml, hown, hts, hlk⟩ := id C0
  intro uR l3 l4 l5 l6 s0 h H locs hP hS ls hl
  unfold bX5_goToRecord_49 at h
  refine lv_istore (lv' := [(7, .int s0), (0, .ref (xR 0)), (3, .int l3), (4, .int l4), (5, .int l5), (6, .int l6)]) hx hb dX5_goToRecord_49 hl (by decide) rfl (fun ls hl => ?_)
  refine lv_iload hx hb dX5_goToRecord_51 (lv_at hl 0 rfl) ?_
  refine lv_if_eq (tgt := 63) hx hb dX5_goToRecord_53 (by decide) (fun hc => ?_) (fun hc => ?_)
  · replace h := zt hc h
    refine lv_iload_n hx hb dX5_goToRecord_63 rfl (lv_at hl 2 rfl) ?_
    exact tX5_goToRecord_64 C0 hK hN hD K18 _ _ _ _ _ _ h _ _ hP hS _ (lv_sub hl [1, 3, 4, 5, 0] rfl)
  · replace h := zf hc h
    refine lv_iload_n hx hb dX5_goToRecord_56 rfl (lv_at hl 2 rfl) ?_
    refine lv_iload hx hb dX5_goToRecord_57 (lv_at hl 5 rfl) ?_
    refine lv_isub hx hb dX5_goToRecord_59 ?_
    refine lv_goto (tgt := 64) hx hb dX5_goToRecord_60 (by decide) ?_
    exact tX5_goToRecord_64 C0 hK hN hD K18 _ _ _ _ _ _ h _ _ hP hS _ (lv_sub hl [1, 3, 4, 5, 0] rfl)
set_option maxRecDepth 20000 in
theorem tlX5_goToRecord_18 (C0 : zCtx p s m args meth c cX5_goToRecord RX5 wsX5_goToRecord 8 none) (hK : zK G s) (hN : zN s) (hD : zD [shR G xR])  : ∀ (n : Nat), ∀ (uR : zSt) (l3 : Int32) (l4 : Int32) (l5 : Int32), lX5_goToRecord_18  n uR l3 l4 l5 = some vR → ∀ (H : Heap) (locs : List Loc), zP G [shR G xR] [uR] H → va_S (zA [shR G xR] s.heap.size) s.heap H locs → ∀ ls : Array Slot, lv_has ls 8 [(0, .ref (xR 0)), (3, .int l3), (4, .int l4), (5, .int l5)] → W p l e rmX5_goToRecord s m args below meth c H locs 0 0 (MQ below (zQ G [shR G xR] [vR] (zA [shR G xR] s.heap.size) none) args s 0 0 (zA [shR G xR] s.heap.size)) (F0 m 18 ls []) := by
  obtain ⟨hx, hb, hr, hml, hown, hts, hlk⟩ := id C0
  intro n
  induction n with
  | zero => intro uR l3 l4 l5 h; exact absurd h (fun q => nomatch q)
  | succ n K18 =>
    intro uR l3 l4 l5 h H locs hP hS ls hl
    replace h : bX5_goToRecord_18  (lX5_goToRecord_18  n) uR l3 l4 l5 = some vR := h
    unfold bX5_goToRecord_18 at h
    refine lv_iload hx hb dX5_goToRecord_18 (lv_at hl 3 rfl) ?_
    refine lv_bipush (v := 31) hx hb dX5_goToRecord_20 (by decide) ?_
    refine lv_icmp_ge (tgt := 94) hx hb dX5_goToRecord_22 (by decide) (fun hc => ?_) (fun hc => ?_)
    · replace h := zt hc h
      cases h
      exact z_vret hx hb hr hlk hP hS dX5_goToRecord_94
    · replace h := zf hc h
      refine lv_iload hx hb dX5_goToRecord_25 (lv_at hl 2 rfl) ?_
      refine lv_iconst (v := 1) hx hb dX5_goToRecord_27 (by decide) ?_
      refine lv_icmp_le (tgt := 94) hx hb dX5_goToRecord_28 (by decide) (fun hc => ?_) (fun hc => ?_)
      · replace h := zt hc h
        cases h
        exact z_vret hx hb hr hlk hP hS dX5_goToRecord_94
      · replace h := zf hc h
        refine lv_iload hx hb dX5_goToRecord_31 (lv_at hl 2 rfl) ?_
        obtain ⟨r_2, hg, h⟩ := zb1_e h
        refine z_callS (As := [.int l4]) (rest := []) ⟨hx, hb, hml, hown, hts⟩ (mX5_split l G  hg) (va_cwS 1 hts gX5_goToRecord_X5_split rfl rfl rfl ksX5_split ⟨Nat.le_of_ble_eq_true rfl, Nat.le_of_ble_eq_true rfl⟩) hP hD hK hN hS (Nat.le_refl _) [] rfl rfl rfl rfl rfl hl.1 rfl (Nat.le_of_ble_eq_true rfl) dX5_goToRecord_33 ⟨Nat.zero_le _, Nat.zero_le _⟩ (fun H locs hP hS => ?_)
        replace hP : zP G [shR G xR] [uR] H := hP
        refine lv_istore (lv' := [(6, .int r_2), (0, .ref (xR 0)), (3, .int l3), (4, .int l4), (5, .int l5)]) hx hb dX5_goToRecord_36 hl (by decide) rfl (fun ls hl => ?_)
        refine lv_iload_n hx hb dX5_goToRecord_38 rfl (lv_at hl 2 rfl) ?_
        refine lv_iload hx hb dX5_goToRecord_39 (lv_at hl 0 rfl) ?_
        refine lv_icmp_lt (tgt := 48) hx hb dX5_goToRecord_41 (by decide) (fun hc => ?_) (fun hc => ?_)
        · replace h := zt hc h
          refine lv_iconst (v := 0) hx hb dX5_goToRecord_48 (by decide) ?_
          exact tX5_goToRecord_49 C0 hK hN hD K18 _ _ _ _ _ _ h _ _ hP hS _ (lv_sub hl [1, 2, 3, 4, 0] rfl)
        · replace h := zf hc h
          refine lv_iconst (v := 1) hx hb dX5_goToRecord_44 (by decide) ?_
          refine lv_goto (tgt := 49) hx hb dX5_goToRecord_45 (by decide) ?_
          exact tX5_goToRecord_49 C0 hK hN hD K18 _ _ _ _ _ _ h _ _ hP hS _ (lv_sub hl [1, 2, 3, 4, 0] rfl)
set_option maxRecDepth 20000 in
theorem mX5_goToRecord (l : Launch) (G : zG) (xR : Nat → Nat) {uR : zSt} {l1 : Int32} {l2 : Int32} {vR : zSt} (h : fX5_goToRecord uR l1 l2 = some vR) : zC l yX5_goToRecord wsX5_goToRecord rmX5_goToRecord [.ref (xR 0), .int l1, .int l2] G [shR G xR] [uR] [vR] none := by
  refine z_ofW (cc := cX5_goToRecord) (maxL := 8) (ret := none) (by decide) rfl (Nat.le_of_ble_eq_true rfl) ?_
  intro p e s m args below meth c C0 hK hN hD hP ls hl
  obtain ⟨hx, hb, hr, hml, hown, hts, hlk⟩ := id C0
  have hS : va_S (zA [shR G xR] s.heap.size) s.heap s.heap [] := va_S.rf
  replace hl : lv_has ls 8 [(0, .ref (xR 0)), (1, .int l1), (2, .int l2)] := hl
  have hwX5 : ∀ w ∈ wsX50, w.before args s = true := fun w h => hts w (List.mem_cons_of_mem _ (List.mem_append_right _ h))
  unfold fX5_goToRecord at h
  refine lv_aload_n hx hb dX5_goToRecord_0 rfl (lv_at hl 0 rfl) ?_
  refine lv_iconst (v := 0) hx hb dX5_goToRecord_1 (by decide) ?_
  refine pR_2 hx hb hwX5 hown hK hP hD hS 0 (xR) rfl rfl (hts _ (List.mem_of_getElem? (i := 1) rfl)) dX5_goToRecord_2 (fun H locs hP hS => ?_)
  replace hP : zP G [shR G xR] [(sI uR 2 ((0 : Int32)))] H := hP
  refine lv_aload_n hx hb dX5_goToRecord_5 rfl (lv_at hl 0 rfl) ?_
  refine lv_lconst (v := 0) hx hb dX5_goToRecord_6 rfl ?_
  refine pR_3 hx hb hwX5 hown hK hP hD hS 0 (xR) rfl rfl (hts _ (List.mem_of_getElem? (i := 2) rfl)) dX5_goToRecord_7 (fun H locs hP hS => ?_)
  replace hP : zP G [shR G xR] [(sJ ((sI uR 2 ((0 : Int32)))) 3 ((0 : Int64)))] H := hP
  refine lv_iload_n hx hb dX5_goToRecord_10 rfl (lv_at hl 1 rfl) ?_
  refine lv_istore_n (lv' := [(3, .int l1), (0, .ref (xR 0)), (1, .int l1), (2, .int l2)]) hx hb dX5_goToRecord_11 rfl hl (by decide) rfl (fun ls hl => ?_)
  refine lv_iload_n hx hb dX5_goToRecord_12 rfl (lv_at hl 3 rfl) ?_
  refine lv_istore (lv' := [(4, .int l2), (3, .int l1), (0, .ref (xR 0)), (1, .int l1), (2, .int l2)]) hx hb dX5_goToRecord_13 hl (by decide) rfl (fun ls hl => ?_)
  refine lv_iconst (v := 0) hx hb dX5_goToRecord_15 (by decide) ?_
  refine lv_istore (lv' := [(5, .int ((0 : Int32))), (4, .int l2), (3, .int l1), (0, .ref (xR 0)), (1, .int l1), (2, .int l2)]) hx hb dX5_goToRecord_16 hl (by decide) rfl (fun ls hl => ?_)
  exact tlX5_goToRecord_18 C0 hK hN hD  1000 _ _ _ _ h _ _ hP hS _ (lv_sub hl [3, 2, 1, 0] rfl)
end
def rmX5_isSecond : Room := { frames := 0, cells := 0, slots := 0, locals := 0 }
theorem kvX5_isSecond : yX5_isSecond.cls = RX5 ∧ yX5_isSecond.cls ≠ "java/lang/invoke/MethodHandle" ∧ yX5_isSecond.cls ≠ "java/lang/invoke/VarHandle" ∧ (parseMethodDescriptor yX5_isSecond.desc).map (fun d => d.parameters.length) = some 1 := by decide +kernel
section
variable {p : Program} {l : Launch} {e : Env} {s : State} {m : MethodId} {args : Array Value} {below : List Frame} {meth : Method} {c : Code} {G : zG} {xR : Nat → Nat} {rr : Int32}
set_option maxRecDepth 20000 in
theorem mX5_isSecond (l : Launch) (G : zG) (xR : Nat → Nat) {uR : zSt} {l1 : Int32} {rr : Int32} (h : fX5_isSecond uR l1 = some rr) : zC l yX5_isSecond wsX5_isSecond rmX5_isSecond [.ref (xR 0), .int l1] G [shR G xR] [uR] [uR] (some (.int rr)) := by
  refine z_ofW (cc := cX5_isSecond) (maxL := 2) (ret := some .boolean) (by decide) rfl (Nat.le_of_ble_eq_true rfl) ?_
  intro p e s m args below meth c C0 hK hN hD hP ls hl
  obtain ⟨hx, hb, hr, hml, hown, hts, hlk⟩ := id C0
  have hS : va_S (zA [shR G xR] s.heap.size) s.heap s.heap [] := va_S.rf
  replace hl : lv_has ls 2 [(0, .ref (xR 0)), (1, .int l1)] := hl
  have hwX5 : ∀ w ∈ wsX50, w.before args s = true := fun w h => hts w (List.mem_cons_of_mem _ (List.mem_append_right _ h))
  unfold fX5_isSecond at h
  refine lv_aload_n hx hb dX5_isSecond_0 rfl (lv_at hl 0 rfl) ?_
  refine rR_3 hx hb hwX5 hown hK hP 0 (xR) rfl rfl (hts _ (List.mem_of_getElem? (i := 1) rfl)) dX5_isSecond_1 ?_
  refine lv_iload_n hx hb dX5_isSecond_4 rfl (lv_at hl 1 rfl) ?_
  refine lv_lshr (v := ((gJ uR 3) >>> (l1.toInt64 &&& 63))) hx hb dX5_isSecond_5 rfl ?_
  refine lv_lconst (v := 1) hx hb dX5_isSecond_6 rfl ?_
  refine lv_land hx hb dX5_isSecond_7 ?_
  refine lv_lconst (v := 1) hx hb dX5_isSecond_8 rfl ?_
  refine W.lcmp hx hb dX5_isSecond_9 ?_
  refine lv_if_ne (tgt := 17) hx hb dX5_isSecond_10 (by decide) (fun hc => ?_) (fun hc => ?_)
  · replace h := zf hc h
    refine lv_iconst (v := 0) hx hb dX5_isSecond_17 (by decide) ?_
    cases h
    exact z_zret hx hb hr hlk rfl hP hS dX5_isSecond_18
  · replace h := zt hc h
    refine lv_iconst (v := 1) hx hb dX5_isSecond_13 (by decide) ?_
    refine lv_goto (tgt := 18) hx hb dX5_isSecond_14 (by decide) ?_
    cases h
    exact z_zret hx hb hr hlk rfl hP hS dX5_isSecond_18
end
def rmX5_fill : Room := { frames := 4, cells := 0, slots := 0, locals := 93 }
theorem kvX5_fill : yX5_fill.cls = RX5 ∧ yX5_fill.cls ≠ "java/lang/invoke/MethodHandle" ∧ yX5_fill.cls ≠ "java/lang/invoke/VarHandle" ∧ (parseMethodDescriptor yX5_fill.desc).map (fun d => d.parameters.length) = some 3 := by decide +kernel
section
variable {p : Program} {l : Launch} {e : Env} {s : State} {m : MethodId} {args : Array Value} {below : List Frame} {meth : Method} {c : Code} {G : zG} {xB : Nat → Nat} {xR : Nat → Nat} {vB : zSt} {vR : zSt}
set_option maxRecDepth 20000 in
theorem tX5_fill_115 (C0 : zCtx p s m args meth c cX5_fill RX5 wsX5_fill 8 none) (hK : zK G s) (hN : zN s) (hD : zD [shB G xB, shR G xR]) {k19 : zSt → zSt → Int32 → Int32 → Int32 → Int32 → Option (zSt × zSt)} (K19 : ∀ (uB : zSt) (uR : zSt) (l3 : Int32) (l4 : Int32) (l5 : Int32) (l6 : Int32), k19 uB uR l3 l4 l5 l6 = some (vB, vR) → ∀ (H : Heap) (locs : List Loc), zP G [shB G xB, shR G xR] [uB, uR] H → va_S (zA [shB G xB, shR G xR] s.heap.size) s.heap H locs → ∀ ls : Array Slot, lv_has ls 8 [(0, .ref (xR 0)), (1, .ref (xB 0)), (3, .int l3), (4, .int l4), (5, .int l5), (6, .int l6)] → W p l e rmX5_fill s m args below meth c H locs 0 0 (MQ below (zQ G [shB G xB, shR G xR] [vB, vR] (zA [shB G xB, shR G xR] s.heap.size) none) args s 0 0 (zA [shB G xB, shR G xR] s.heap.size)) (F0 m 19 ls [])) : ∀ (uB : zSt) (uR : zSt) (l3 : Int32) (l4 : Int32) (l5 : Int32) (l6 : Int32), bX5_fill_115 k19 uB uR l3 l4 l5 l6 = some (vB, vR) → ∀ (H : Heap) (locs : List Loc), zP G [shB G xB, shR G xR] [uB, uR] H → va_S (zA [shB G xB, shR G xR] s.heap.size) s.heap H locs → ∀ ls : Array Slot, lv_has ls 8 [(0, .ref (xR 0)), (1, .ref (xB 0)), (3, .int l3), (4, .int l4), (5, .int l5), (6, .int l6)] → W p l e rmX5_fill s m args below meth c H locs 0 0 (MQ below (zQ G [shB G xB, shR G xR] [vB, vR] (zA [shB G xB, shR G xR] s.heap.size) none) args s 0 0 (zA [shB G xB, shR G xR] s.heap.size)) (F0 m 115 ls []) := by
  obtain ⟨hx, hb, hr, hml, hown, hts, hlk⟩ := id C0
  intro uB uR l3 l4 l5 l6 h H locs hP hS ls hl
  unfold bX5_fill_115 at h
  refine lv_iinc (v := (l6 + (1 : Int32))) (lv' := [(6, .int ((l6 + (1 : Int32)))), (0, .ref (xR 0)), (1, .ref (xB 0)), (3, .int l3), (4, .int l4), (5, .int l5)]) hx hb dX5_fill_115 hl (k := 5) rfl rfl (by decide) rfl (fun ls hl => ?_)
  refine lv_goto (tgt := 19) hx hb dX5_fill_118 (by decide) ?_
  exact K19 _ _ _ _ _ _ h _ _ hP hS _ (lv_sub hl [1, 2, 3, 4, 5, 0] rfl)
set_option maxRecDepth 20000 in
theorem tlX5_fill_19 (C0 : zCtx p s m args meth c cX5_fill RX5 wsX5_fill 8 none) (hK : zK G s) (hN : zN s) (hD : zD [shB G xB, shR G xR])  : ∀ (n : Nat), ∀ (uB : zSt) (uR : zSt) (l3 : Int32) (l4 : Int32) (l5 : Int32) (l6 : Int32), lX5_fill_19  n uB uR l3 l4 l5 l6 = some (vB, vR) → ∀ (H : Heap) (locs : List Loc), zP G [shB G xB, shR G xR] [uB, uR] H → va_S (zA [shB G xB, shR G xR] s.heap.size) s.heap H locs → ∀ ls : Array Slot, lv_has ls 8 [(0, .ref (xR 0)), (1, .ref (xB 0)), (3, .int l3), (4, .int l4), (5, .int l5), (6, .int l6)] → W p l e rmX5_fill s m args below meth c H locs 0 0 (MQ below (zQ G [shB G xB, shR G xR] [vB, vR] (zA [shB G xB, shR G xR] s.heap.size) none) args s 0 0 (zA [shB G xB, shR G xR] s.heap.size)) (F0 m 19 ls []) := by
  obtain ⟨hx, hb, hr, hml, hown, hts, hlk⟩ := id C0
  have hwX5 : ∀ w ∈ wsX50, w.before args s = true := fun w h => hts w (List.mem_cons_of_mem _ (List.mem_append_left _ (List.mem_append_right _ h)))
  intro n
  induction n with
  | zero => intro uB uR l3 l4 l5 l6 h; exact absurd h (fun q => nomatch q)
  | succ n K19 =>
    intro uB uR l3 l4 l5 l6 h H locs hP hS ls hl
    replace h : bX5_fill_19  (lX5_fill_19  n) uB uR l3 l4 l5 l6 = some (vB, vR) := h
    unfold bX5_fill_19 at h
    refine lv_iload hx hb dX5_fill_19 (lv_at hl 5 rfl) ?_
    refine lv_aload_n hx hb dX5_fill_21 rfl (lv_at hl 0 rfl) ?_
    refine rR_2 hx hb hwX5 hown hK hP 1 (xR) rfl rfl (hts _ (List.mem_of_getElem? (i := 1) rfl)) dX5_fill_22 ?_
    refine lv_icmp_ge (tgt := 121) hx hb dX5_fill_25 (by decide) (fun hc => ?_) (fun hc => ?_)
    · replace h := zt hc h
      refine lv_iload_n hx hb dX5_fill_121 rfl (lv_at hl 2 rfl) ?_
      refine lv_iconst (v := 1) hx hb dX5_fill_122 (by decide) ?_
      refine lv_icmp_ne (tgt := 140) hx hb dX5_fill_123 (by decide) (fun hc => ?_) (fun hc => ?_)
      · replace h := zf hc h
        cases h
        exact z_vret hx hb hr hlk hP hS dX5_fill_140
      · replace h := zt hc h
        refine lv_aload_n hx hb dX5_fill_126 rfl (lv_at hl 0 rfl) ?_
        refine rR_0 hx hb hwX5 hown hK hP 1 (xR) rfl rfl (hts _ (List.mem_of_getElem? (i := 3) rfl)) dX5_fill_127 ?_
        refine lv_iconst (v := 0) hx hb dX5_fill_130 (by decide) ?_
        refine lv_aload_n hx hb dX5_fill_131 rfl (lv_at hl 1 rfl) ?_
        refine lv_iload hx hb dX5_fill_132 (lv_at hl 3 rfl) ?_
        refine lv_iload hx hb dX5_fill_134 (lv_at hl 4 rfl) ?_
        obtain ⟨r_1, uB_2, hg, h⟩ := zb2_e h
        refine z_callV (As := [.int l4, .int l5]) (rest := [.int ((0 : Int32)), .ref (xR 1)]) (i := 0) ⟨hx, hb, hml, hown, hts⟩ (mX1_headOf l G (xB) hg) (cwV 2 hts gX5_fill_X1_headOf rfl rfl rfl kvX1_headOf ⟨Nat.le_of_ble_eq_true rfl, Nat.le_of_ble_eq_true rfl⟩) rfl hP hD hK hN hS (Nat.le_refl _) [0] rfl rfl rfl rfl 0 rfl rfl rfl rfl rfl hl.1 rfl (Nat.le_of_ble_eq_true rfl) dX5_fill_136 ⟨Nat.zero_le _, Nat.zero_le _⟩ (fun H locs hP hS => ?_)
        replace hP : zP G [shB G xB, shR G xR] [uB_2, uR] H := hP
        refine tR_0 hx hb hK hP hD hS 1 (xR) rfl rfl (zvi tn_0 n0_0 (by decide)) tn_0 dX5_fill_139 (fun H locs hP hS => ?_)
        replace hP : zP G [shB G xB, shR G xR] [uB_2, (sL uR 0 0 r_1)] H := hP
        cases h
        exact z_vret hx hb hr hlk hP hS dX5_fill_140
    · replace h := zf hc h
      refine lv_iload hx hb dX5_fill_28 (lv_at hl 4 rfl) ?_
      obtain ⟨r_3, hg, h⟩ := zb1_e h
      refine z_callS (As := [.int l5]) (rest := []) ⟨hx, hb, hml, hown, hts⟩ (mX5_split l G  hg) (va_cwS 1 hts gX5_fill_X5_split rfl rfl rfl ksX5_split ⟨Nat.le_of_ble_eq_true rfl, Nat.le_of_ble_eq_true rfl⟩) hP hD hK hN hS (Nat.le_refl _) [] rfl rfl rfl rfl rfl hl.1 rfl (Nat.le_of_ble_eq_true rfl) dX5_fill_30 ⟨Nat.zero_le _, Nat.zero_le _⟩ (fun H locs hP hS => ?_)
      replace hP : zP G [shB G xB, shR G xR] [uB, uR] H := hP
      refine lv_istore (lv' := [(7, .int r_3), (0, .ref (xR 0)), (1, .ref (xB 0)), (3, .int l3), (4, .int l4), (5, .int l5), (6, .int l6)]) hx hb dX5_fill_33 hl (by decide) rfl (fun ls hl => ?_)
      refine lv_aload_n hx hb dX5_fill_35 rfl (lv_at hl 1 rfl) ?_
      refine lv_iload hx hb dX5_fill_36 (lv_at hl 6 rfl) ?_
      obtain ⟨r_4, hg, h⟩ := zb1_e h
      refine z_callV (As := [.int l6]) (rest := []) (i := 0) ⟨hx, hb, hml, hown, hts⟩ (mX5_isSecond l G (xR) hg) (cwV 1 hts gX5_fill_X5_isSecond rfl rfl rfl kvX5_isSecond ⟨Nat.le_of_ble_eq_true rfl, Nat.le_of_ble_eq_true rfl⟩) rfl hP hD hK hN hS (Nat.le_refl _) [1] rfl rfl rfl rfl 1 rfl rfl rfl rfl rfl hl.1 rfl (Nat.le_of_ble_eq_true rfl) dX5_fill_38 ⟨Nat.zero_le _, Nat.zero_le _⟩ (fun H locs hP hS => ?_)
      replace hP : zP G [shB G xB, shR G xR] [uB, uR] H := hP
      refine lv_if_eq (tgt := 83) hx hb dX5_fill_41 (by decide) (fun hc => ?_) (fun hc => ?_)
      · replace h := zt hc h
        refine lv_aload_n hx hb dX5_fill_83 rfl (lv_at hl 1 rfl) ?_
        refine rR_0 hx hb hwX5 hown hK hP 1 (xR) rfl rfl (hts _ (List.mem_of_getElem? (i := 3) rfl)) dX5_fill_84 ?_
        refine lv_aload_n hx hb dX5_fill_87 rfl (lv_at hl 1 rfl) ?_
        refine rR_1 hx hb hwX5 hown hK hP 1 (xR) rfl rfl (hts _ (List.mem_of_getElem? (i := 2) rfl)) dX5_fill_88 ?_
        refine lv_iconst (v := 1) hx hb dX5_fill_91 (by decide) ?_
        refine lv_isub hx hb dX5_fill_92 ?_
        refine lv_iload hx hb dX5_fill_93 (lv_at hl 6 rfl) ?_
        refine lv_isub hx hb dX5_fill_95 ?_
        refine lv_aload_n hx hb dX5_fill_96 rfl (lv_at hl 2 rfl) ?_
        refine lv_iload hx hb dX5_fill_97 (lv_at hl 4 rfl) ?_
        refine lv_iload hx hb dX5_fill_99 (lv_at hl 0 rfl) ?_
        refine lv_iadd hx hb dX5_fill_101 ?_
        refine lv_iload hx hb dX5_fill_102 (lv_at hl 5 rfl) ?_
        refine lv_iload hx hb dX5_fill_104 (lv_at hl 0 rfl) ?_
        refine lv_isub hx hb dX5_fill_106 ?_
        obtain ⟨r_5, uB_6, hg, h⟩ := zb2_e h
        refine z_callV (As := [.int ((l4 + r_3)), .int ((l5 - r_3))]) (rest := [.int ((((gI uR 1) - (1 : Int32)) - l6)), .ref (xR 1)]) (i := 0) ⟨hx, hb, hml, hown, hts⟩ (mX1_headOf l G (xB) hg) (cwV 2 hts gX5_fill_X1_headOf rfl rfl rfl kvX1_headOf ⟨Nat.le_of_ble_eq_true rfl, Nat.le_of_ble_eq_true rfl⟩) rfl hP hD hK hN hS (Nat.le_refl _) [0] rfl rfl rfl rfl 0 rfl rfl rfl rfl rfl hl.1 rfl (Nat.le_of_ble_eq_true rfl) dX5_fill_107 ⟨Nat.zero_le _, Nat.zero_le _⟩ (fun H locs hP hS => ?_)
        replace hP : zP G [shB G xB, shR G xR] [uB_6, uR] H := hP
        obtain ⟨hi, h⟩ := zin_e h
        refine tR_0 hx hb hK hP hD hS 1 (xR) rfl rfl hi rfl dX5_fill_110 (fun H locs hP hS => ?_)
        replace hP : zP G [shB G xB, shR G xR] [uB_6, (sL uR 0 ((((gI uR 1) - (1 : Int32)) - l6)).toNatClampNeg r_5)] H := hP
        refine lv_iload hx hb dX5_fill_111 (lv_at hl 0 rfl) ?_
        refine lv_istore (lv' := [(5, .int r_3), (7, .int r_3), (0, .ref (xR 0)), (1, .ref (xB 0)), (3, .int l3), (4, .int l4), (6, .int l6)]) hx hb dX5_fill_113 hl (by decide) rfl (fun ls hl => ?_)
        exact tX5_fill_115 C0 hK hN hD K19 _ _ _ _ _ _ h _ _ hP hS _ (lv_sub hl [2, 3, 4, 5, 0, 6] rfl)
      · replace h := zf hc h
        refine lv_aload_n hx hb dX5_fill_44 rfl (lv_at hl 1 rfl) ?_
        refine rR_0 hx hb hwX5 hown hK hP 1 (xR) rfl rfl (hts _ (List.mem_of_getElem? (i := 3) rfl)) dX5_fill_45 ?_
        refine lv_aload_n hx hb dX5_fill_48 rfl (lv_at hl 1 rfl) ?_
        refine rR_1 hx hb hwX5 hown hK hP 1 (xR) rfl rfl (hts _ (List.mem_of_getElem? (i := 2) rfl)) dX5_fill_49 ?_
        refine lv_iconst (v := 1) hx hb dX5_fill_52 (by decide) ?_
        refine lv_isub hx hb dX5_fill_53 ?_
        refine lv_iload hx hb dX5_fill_54 (lv_at hl 6 rfl) ?_
        refine lv_isub hx hb dX5_fill_56 ?_
        refine lv_aload_n hx hb dX5_fill_57 rfl (lv_at hl 2 rfl) ?_
        refine lv_iload hx hb dX5_fill_58 (lv_at hl 4 rfl) ?_
        refine lv_iload hx hb dX5_fill_60 (lv_at hl 0 rfl) ?_
        obtain ⟨r_7, uB_8, hg, h⟩ := zb2_e h
        refine z_callV (As := [.int l4, .int r_3]) (rest := [.int ((((gI uR 1) - (1 : Int32)) - l6)), .ref (xR 1)]) (i := 0) ⟨hx, hb, hml, hown, hts⟩ (mX1_headOf l G (xB) hg) (cwV 2 hts gX5_fill_X1_headOf rfl rfl rfl kvX1_headOf ⟨Nat.le_of_ble_eq_true rfl, Nat.le_of_ble_eq_true rfl⟩) rfl hP hD hK hN hS (Nat.le_refl _) [0] rfl rfl rfl rfl 0 rfl rfl rfl rfl rfl hl.1 rfl (Nat.le_of_ble_eq_true rfl) dX5_fill_62 ⟨Nat.zero_le _, Nat.zero_le _⟩ (fun H locs hP hS => ?_)
        replace hP : zP G [shB G xB, shR G xR] [uB_8, uR] H := hP
        obtain ⟨hi, h⟩ := zin_e h
        refine tR_0 hx hb hK hP hD hS 1 (xR) rfl rfl hi rfl dX5_fill_65 (fun H locs hP hS => ?_)
        replace hP : zP G [shB G xB, shR G xR] [uB_8, (sL uR 0 ((((gI uR 1) - (1 : Int32)) - l6)).toNatClampNeg r_7)] H := hP
        refine lv_iload hx hb dX5_fill_66 (lv_at hl 4 rfl) ?_
        refine lv_iload hx hb dX5_fill_68 (lv_at hl 0 rfl) ?_
        refine lv_iadd hx hb dX5_fill_70 ?_
        refine lv_istore (lv' := [(4, .int ((l4 + r_3))), (7, .int r_3), (0, .ref (xR 0)), (1, .ref (xB 0)), (3, .int l3), (5, .int l5), (6, .int l6)]) hx hb dX5_fill_71 hl (by decide) rfl (fun ls hl => ?_)
        refine lv_iload hx hb dX5_fill_73 (lv_at hl 5 rfl) ?_
        refine lv_iload hx hb dX5_fill_75 (lv_at hl 1 rfl) ?_
        refine lv_isub hx hb dX5_fill_77 ?_
        refine lv_istore (lv' := [(5, .int ((l5 - r_3))), (4, .int ((l4 + r_3))), (7, .int r_3), (0, .ref (xR 0)), (1, .ref (xB 0)), (3, .int l3), (6, .int l6)]) hx hb dX5_fill_78 hl (by decide) rfl (fun ls hl => ?_)
        refine lv_goto (tgt := 115) hx hb dX5_fill_80 (by decide) ?_
        exact tX5_fill_115 C0 hK hN hD K19 _ _ _ _ _ _ h _ _ hP hS _ (lv_sub hl [3, 4, 5, 1, 0, 6] rfl)
set_option maxRecDepth 20000 in
theorem mX5_fill (l : Launch) (G : zG) (xB : Nat → Nat) (xR : Nat → Nat) {uB : zSt} {uR : zSt} {l2 : Int32} {l3 : Int32} {vB : zSt} {vR : zSt} (h : fX5_fill uB uR l2 l3 = some (vB, vR)) : zC l yX5_fill wsX5_fill rmX5_fill [.ref (xR 0), .ref (xB 0), .int l2, .int l3] G [shB G xB, shR G xR] [uB, uR] [vB, vR] none := by
  refine z_ofW (cc := cX5_fill) (maxL := 8) (ret := none) (by decide) rfl (Nat.le_of_ble_eq_true rfl) ?_
  intro p e s m args below meth c C0 hK hN hD hP ls hl
  obtain ⟨hx, hb, hr, hml, hown, hts, hlk⟩ := id C0
  have hS : va_S (zA [shB G xB, shR G xR] s.heap.size) s.heap s.heap [] := va_S.rf
  replace hl : lv_has ls 8 [(0, .ref (xR 0)), (1, .ref (xB 0)), (2, .int l2), (3, .int l3)] := hl
  have hwX5 : ∀ w ∈ wsX50, w.before args s = true := fun w h => hts w (List.mem_cons_of_mem _ (List.mem_append_left _ (List.mem_append_right _ h)))
  unfold fX5_fill at h
  refine lv_aload_n hx hb dX5_fill_0 rfl (lv_at hl 0 rfl) ?_
  refine lv_aload_n hx hb dX5_fill_1 rfl (lv_at hl 0 rfl) ?_
  refine rR_2 hx hb hwX5 hown hK hP 1 (xR) rfl rfl (hts _ (List.mem_of_getElem? (i := 1) rfl)) dX5_fill_2 ?_
  refine lv_iload_n hx hb dX5_fill_5 rfl (lv_at hl 3 rfl) ?_
  refine lv_iadd hx hb dX5_fill_6 ?_
  refine pR_1 hx hb hwX5 hown hK hP hD hS 1 (xR) rfl rfl (hts _ (List.mem_of_getElem? (i := 2) rfl)) dX5_fill_7 (fun H locs hP hS => ?_)
  replace hP : zP G [shB G xB, shR G xR] [uB, (sI uR 1 (((gI uR 2) + l3)))] H := hP
  refine lv_iconst (v := 0) hx hb dX5_fill_10 (by decide) ?_
  refine lv_istore (lv' := [(4, .int ((0 : Int32))), (0, .ref (xR 0)), (1, .ref (xB 0)), (2, .int l2), (3, .int l3)]) hx hb dX5_fill_11 hl (by decide) rfl (fun ls hl => ?_)
  refine lv_iload_n hx hb dX5_fill_13 rfl (lv_at hl 3 rfl) ?_
  refine lv_istore (lv' := [(5, .int l2), (4, .int ((0 : Int32))), (0, .ref (xR 0)), (1, .ref (xB 0)), (2, .int l2), (3, .int l3)]) hx hb dX5_fill_14 hl (by decide) rfl (fun ls hl => ?_)
  refine lv_iconst (v := 0) hx hb dX5_fill_16 (by decide) ?_
  refine lv_istore (lv' := [(6, .int ((0 : Int32))), (5, .int l2), (4, .int ((0 : Int32))), (0, .ref (xR 0)), (1, .ref (xB 0)), (2, .int l2), (3, .int l3)]) hx hb dX5_fill_17 hl (by decide) rfl (fun ls hl => ?_)
  exact tlX5_fill_19 C0 hK hN hD  1000 _ _ _ _ _ _ h _ _ hP hS _ (lv_sub hl [3, 4, 6, 2, 1, 0] rfl)
end
def rmX5_makeForRecord : Room := { frames := 5, cells := 0, slots := 0, locals := 120 }
theorem kvX5_makeForRecord : yX5_makeForRecord.cls = RX5 ∧ yX5_makeForRecord.cls ≠ "java/lang/invoke/MethodHandle" ∧ yX5_makeForRecord.cls ≠ "java/lang/invoke/VarHandle" ∧ (parseMethodDescriptor yX5_makeForRecord.desc).map (fun d => d.parameters.length) = some 3 := by decide +kernel
section
variable {p : Program} {l : Launch} {e : Env} {s : State} {m : MethodId} {args : Array Value} {below : List Frame} {meth : Method} {c : Code} {G : zG} {xB : Nat → Nat} {xR : Nat → Nat} {rr : Int32} {vB : zSt} {vR : zSt}
set_option maxRecDepth 20000 in
theorem mX5_makeForRecord (l : Launch) (G : zG) (xB : Nat → Nat) (xR : Nat → Nat) {uB : zSt} {uR : zSt} {l2 : Int32} {l3 : Int32} {rr : Int32} {vB : zSt} {vR : zSt} (h : fX5_makeForRecord uB uR l2 l3 = some (rr, vB, vR)) : zC l yX5_makeForRecord wsX5_makeForRecord rmX5_makeForRecord [.ref (xR 0), .ref (xB 0), .int l2, .int l3] G [shB G xB, shR G xR] [uB, uR] [vB, vR] (some (.int rr)) := by
  refine z_ofW (cc := cX5_makeForRecord) (maxL := 4) (ret := some .int) (by decide) rfl (Nat.le_of_ble_eq_true rfl) ?_
  intro p e s m args below meth c C0 hK hN hD hP ls hl
  obtain ⟨hx, hb, hr, hml, hown, hts, hlk⟩ := id C0
  have hS : va_S (zA [shB G xB, shR G xR] s.heap.size) s.heap s.heap [] := va_S.rf
  replace hl : lv_has ls 4 [(0, .ref (xR 0)), (1, .ref (xB 0)), (2, .int l2), (3, .int l3)] := hl
  have hwX5 : ∀ w ∈ wsX50, w.before args s = true := fun w h => hts w (List.mem_cons_of_mem _ (List.mem_append_left _ (List.mem_append_right _ h)))
  unfold fX5_makeForRecord at h
  refine lv_aload_n hx hb dX5_makeForRecord_0 rfl (lv_at hl 0 rfl) ?_
  refine lv_iload_n hx hb dX5_makeForRecord_1 rfl (lv_at hl 2 rfl) ?_
  refine lv_iload_n hx hb dX5_makeForRecord_2 rfl (lv_at hl 3 rfl) ?_
  obtain ⟨uR_1, hg, h⟩ := zb1_e h
  refine z_callV (As := [.int l2, .int l3]) (rest := []) (i := 0) ⟨hx, hb, hml, hown, hts⟩ (mX5_goToRecord l G (xR) hg) (cwV 2 hts gX5_makeForRecord_X5_goToRecord rfl rfl rfl kvX5_goToRecord ⟨Nat.le_of_ble_eq_true rfl, Nat.le_of_ble_eq_true rfl⟩) rfl hP hD hK hN hS (Nat.le_refl _) [1] rfl rfl rfl rfl 1 rfl rfl rfl rfl rfl hl.1 rfl (Nat.le_of_ble_eq_true rfl) dX5_makeForRecord_3 ⟨Nat.zero_le _, Nat.zero_le _⟩ (fun H locs hP hS => ?_)
  replace hP : zP G [shB G xB, shR G xR] [uB, uR_1] H := hP
  refine lv_aload_n hx hb dX5_makeForRecord_6 rfl (lv_at hl 0 rfl) ?_
  refine lv_aload_n hx hb dX5_makeForRecord_7 rfl (lv_at hl 1 rfl) ?_
  refine lv_iload_n hx hb dX5_makeForRecord_8 rfl (lv_at hl 3 rfl) ?_
  refine lv_iconst (v := 0) hx hb dX5_makeForRecord_9 (by decide) ?_
  obtain ⟨uB_2, uR_3, hg, h⟩ := zb2_e h
  refine z_callV (As := [.ref (xB 0), .int l3, .int ((0 : Int32))]) (rest := []) (i := 0) ⟨hx, hb, hml, hown, hts⟩ (mX5_fill l G (xB) (xR) hg) (cwV 3 hts gX5_makeForRecord_X5_fill rfl rfl rfl kvX5_fill ⟨Nat.le_of_ble_eq_true rfl, Nat.le_of_ble_eq_true rfl⟩) rfl hP hD hK hN hS (Nat.le_refl _) [0, 1] rfl rfl rfl rfl 1 rfl rfl rfl rfl rfl hl.1 rfl (Nat.le_of_ble_eq_true rfl) dX5_makeForRecord_10 ⟨Nat.zero_le _, Nat.zero_le _⟩ (fun H locs hP hS => ?_)
  replace hP : zP G [shB G xB, shR G xR] [uB_2, uR_3] H := hP
  refine lv_aload_n hx hb dX5_makeForRecord_13 rfl (lv_at hl 0 rfl) ?_
  refine rR_1 hx hb hwX5 hown hK hP 1 (xR) rfl rfl (hts _ (List.mem_of_getElem? (i := 1) rfl)) dX5_makeForRecord_14 ?_
  cases h
  exact z_iret hx hb hr hlk hP hS dX5_makeForRecord_17
end
def rmX5_goToFirst : Room := { frames := 1, cells := 0, slots := 0, locals := 21 }
theorem kvX5_goToFirst : yX5_goToFirst.cls = RX5 ∧ yX5_goToFirst.cls ≠ "java/lang/invoke/MethodHandle" ∧ yX5_goToFirst.cls ≠ "java/lang/invoke/VarHandle" ∧ (parseMethodDescriptor yX5_goToFirst.desc).map (fun d => d.parameters.length) = some 2 := by decide +kernel
section
variable {p : Program} {l : Launch} {e : Env} {s : State} {m : MethodId} {args : Array Value} {below : List Frame} {meth : Method} {c : Code} {G : zG} {xR : Nat → Nat} {vR : zSt}
set_option maxRecDepth 20000 in
theorem tX5_goToFirst_80 (C0 : zCtx p s m args meth c cX5_goToFirst RX5 wsX5_goToFirst 8 none) (hK : zK G s) (hN : zN s) (hD : zD [shR G xR]) {k18 : zSt → Int32 → Int32 → Int32 → Option (zSt)} (K18 : ∀ (uR : zSt) (l3 : Int32) (l4 : Int32) (l5 : Int32), k18 uR l3 l4 l5 = some vR → ∀ (H : Heap) (locs : List Loc), zP G [shR G xR] [uR] H → va_S (zA [shR G xR] s.heap.size) s.heap H locs → ∀ ls : Array Slot, lv_has ls 8 [(0, .ref (xR 0)), (3, .int l3), (4, .int l4), (5, .int l5)] → W p l e rmX5_goToFirst s m args below meth c H locs 0 0 (MQ below (zQ G [shR G xR] [vR] (zA [shR G xR] s.heap.size) none) args s 0 0 (zA [shR G xR] s.heap.size)) (F0 m 18 ls [])) : ∀ (uR : zSt) (l3 : Int32) (l5 : Int32) (l7 : Int32) (s0 : Int32), bX5_goToFirst_80 k18 uR l3 l5 l7 s0 = some vR → ∀ (H : Heap) (locs : List Loc), zP G [shR G xR] [uR] H → va_S (zA [shR G xR] s.heap.size) s.heap H locs → ∀ ls : Array Slot, lv_has ls 8 [(0, .ref (xR 0)), (3, .int l3), (5, .int l5), (7, .int l7)] → W p l e rmX5_goToFirst s m args below meth c H locs 0 0 (MQ below (zQ G [shR G xR] [vR] (zA [shR G xR] s.heap.size) none) args s 0 0 (zA [shR G xR] s.heap.size)) (F0 m 80 ls [.int s0]) := by
  obtain ⟨hx, hb, hr, hml, hown, hts, hlk⟩ := id C0
  intro uR l3 l5 l7 s0 h H locs hP hS ls hl
  unfold bX5_goToFirst_80 at h
  refine lv_istore (lv' := [(4, .int s0), (0, .ref (xR 0)), (3, .int l3), (5, .int l5), (7, .int l7)]) hx hb dX5_goToFirst_80 hl (by decide) rfl (fun ls hl => ?_)
  refine lv_aload_n hx hb dX5_goToFirst_82 rfl (lv_at hl 1 rfl) ?_
  refine lv_iload hx hb dX5_goToFirst_83 (lv_at hl 4 rfl) ?_
  obtain ⟨uR_1, hg, h⟩ := zb1_e h
  refine z_callV (As := [.int l7]) (rest := []) (i := 0) ⟨hx, hb, hml, hown, hts⟩ (mX5_goDown l G (xR) hg) (cwV 1 hts gX5_goToFirst_X5_goDown rfl rfl rfl kvX5_goDown ⟨Nat.le_of_ble_eq_true rfl, Nat.le_of_ble_eq_true rfl⟩) rfl hP hD hK hN hS (Nat.le_refl _) [0] rfl rfl rfl rfl 0 rfl rfl rfl rfl rfl hl.1 rfl (Nat.le_of_ble_eq_true rfl) dX5_goToFirst_85 ⟨Nat.zero_le _, Nat.zero_le _⟩ (fun H locs hP hS => ?_)
  replace hP : zP G [shR G xR] [uR_1] H := hP
  refine lv_iinc (v := (l5 + (1 : Int32))) (lv' := [(5, .int ((l5 + (1 : Int32)))), (4, .int s0), (0, .ref (xR 0)), (3, .int l3), (7, .int l7)]) hx hb dX5_goToFirst_88 hl (k := 3) rfl rfl (by decide) rfl (fun ls hl => ?_)
  refine lv_goto (tgt := 18) hx hb dX5_goToFirst_91 (by decide) ?_
  exact K18 _ _ _ _ h _ _ hP hS _ (lv_sub hl [2, 3, 1, 0] rfl)
set_option maxRecDepth 20000 in
theorem tX5_goToFirst_64 (C0 : zCtx p s m args meth c cX5_goToFirst RX5 wsX5_goToFirst 8 none) (hK : zK G s) (hN : zN s) (hD : zD [shR G xR]) {k18 : zSt → Int32 → Int32 → Int32 → Option (zSt)} (K18 : ∀ (uR : zSt) (l3 : Int32) (l4 : Int32) (l5 : Int32), k18 uR l3 l4 l5 = some vR → ∀ (H : Heap) (locs : List Loc), zP G [shR G xR] [uR] H → va_S (zA [shR G xR] s.heap.size) s.heap H locs → ∀ ls : Array Slot, lv_has ls 8 [(0, .ref (xR 0)), (3, .int l3), (4, .int l4), (5, .int l5)] → W p l e rmX5_goToFirst s m args below meth c H locs 0 0 (MQ below (zQ G [shR G xR] [vR] (zA [shR G xR] s.heap.size) none) args s 0 0 (zA [shR G xR] s.heap.size)) (F0 m 18 ls [])) : ∀ (uR : zSt) (l4 : Int32) (l5 : Int32) (l6 : Int32) (l7 : Int32) (s0 : Int32), bX5_goToFirst_64 k18 uR l4 l5 l6 l7 s0 = some vR → ∀ (H : Heap) (locs : List Loc), zP G [shR G xR] [uR] H → va_S (zA [shR G xR] s.heap.size) s.heap H locs → ∀ ls : Array Slot, lv_has ls 8 [(0, .ref (xR 0)), (4, .int l4), (5, .int l5), (6, .int l6), (7, .int l7)] → W p l e rmX5_goToFirst s m args below meth c H locs 0 0 (MQ below (zQ G [shR G xR] [vR] (zA [shR G xR] s.heap.size) none) args s 0 0 (zA [shR G xR] s.heap.size)) (F0 m 64 ls [.int s0]) := by
  obtain ⟨hx, hb, hr, hml, hown, hts, hlk⟩ := id C0
  intro uR l4 l5 l6 l7 s0 h H locs hP hS ls hl
  unfold bX5_goToFirst_64 at h
  refine lv_istore_n (lv' := [(3, .int s0), (0, .ref (xR 0)), (4, .int l4), (5, .int l5), (6, .int l6), (7, .int l7)]) hx hb dX5_goToFirst_64 rfl hl (by decide) rfl (fun ls hl => ?_)
  refine lv_iload hx hb dX5_goToFirst_65 (lv_at hl 5 rfl) ?_
  refine lv_if_eq (tgt := 78) hx hb dX5_goToFirst_67 (by decide) (fun hc => ?_) (fun hc => ?_)
  · replace h := zt hc h
    refine lv_iload hx hb dX5_goToFirst_78 (lv_at hl 4 rfl) ?_
    exact tX5_goToFirst_80 C0 hK hN hD K18 _ _ _ _ _ h _ _ hP hS _ (lv_sub hl [1, 0, 3, 5] rfl)
  · replace h := zf hc h
    refine lv_iload hx hb dX5_goToFirst_70 (lv_at hl 2 rfl) ?_
    refine lv_iload hx hb dX5_goToFirst_72 (lv_at hl 4 rfl) ?_
    refine lv_isub hx hb dX5_goToFirst_74 ?_
    refine lv_goto (tgt := 80) hx hb dX5_goToFirst_75 (by decide) ?_
    exact tX5_goToFirst_80 C0 hK hN hD K18 _ _ _ _ _ h _ _ hP hS _ (lv_sub hl [1, 0, 3, 5] rfl)
set_option maxRecDepth 20000 in
theorem tX5_goToFirst_49 (C0 : zCtx p s m args meth c cX5_goToFirst RX5 wsX5_goToFirst 8 none) (hK : zK G s) (hN : zN s) (hD : zD [shR G xR]) {k18 : zSt → Int32 → Int32 → Int32 → Option (zSt)} (K18 : ∀ (uR : zSt) (l3 : Int32) (l4 : Int32) (l5 : Int32), k18 uR l3 l4 l5 = some vR → ∀ (H : Heap) (locs : List Loc), zP G [shR G xR] [uR] H → va_S (zA [shR G xR] s.heap.size) s.heap H locs → ∀ ls : Array Slot, lv_has ls 8 [(0, .ref (xR 0)), (3, .int l3), (4, .int l4), (5, .int l5)] → W p l e rmX5_goToFirst s m args below meth c H locs 0 0 (MQ below (zQ G [shR G xR] [vR] (zA [shR G xR] s.heap.size) none) args s 0 0 (zA [shR G xR] s.heap.size)) (F0 m 18 ls [])) : ∀ (uR : zSt) (l3 : Int32) (l4 : Int32) (l5 : Int32) (l6 : Int32) (s0 : Int32), bX5_goToFirst_49 k18 uR l3 l4 l5 l6 s0 = some vR → ∀ (H : Heap) (locs : List Loc), zP G [shR G xR] [uR] H → va_S (zA [shR G xR] s.heap.size) s.heap H locs → ∀ ls : Array Slot, lv_has ls 8 [(0, .ref (xR 0)), (3, .int l3), (4, .int l4), (5, .int l5), (6, .int l6)] → W p l e rmX5_goToFirst s m args below meth c H locs 0 0 (MQ below (zQ G [shR G xR] [vR] (zA [shR G xR] s.heap.size) none) args s 0 0 (zA [shR G xR] s.heap.size)) (F0 m 49 ls [.int s0]) := by
  obtain ⟨hx, hb, hr, hml, hown, hts, hlk⟩ := id C0
  intro uR l3 l4 l5 l6 s0 h H locs hP hS ls hl
  unfold bX5_goToFirst_49 at h
  refine lv_istore (lv' := [(7, .int s0), (0, .ref (xR 0)), (3, .int l3), (4, .int l4), (5, .int l5), (6, .int l6)]) hx hb dX5_goToFirst_49 hl (by decide) rfl (fun ls hl => ?_)
  refine lv_iload hx hb dX5_goToFirst_51 (lv_at hl 0 rfl) ?_
  refine lv_if_eq (tgt := 63) hx hb dX5_goToFirst_53 (by decide) (fun hc => ?_) (fun hc => ?_)
  · replace h := zt hc h
    refine lv_iload_n hx hb dX5_goToFirst_63 rfl (lv_at hl 2 rfl) ?_
    exact tX5_goToFirst_64 C0 hK hN hD K18 _ _ _ _ _ _ h _ _ hP hS _ (lv_sub hl [1, 3, 4, 5, 0] rfl)
  · replace h := zf hc h
    refine lv_iload_n hx hb dX5_goToFirst_56 rfl (lv_at hl 2 rfl) ?_
    refine lv_iload hx hb dX5_goToFirst_57 (lv_at hl 5 rfl) ?_
    refine lv_isub hx hb dX5_goToFirst_59 ?_
    refine lv_goto (tgt := 64) hx hb dX5_goToFirst_60 (by decide) ?_
    exact tX5_goToFirst_64 C0 hK hN hD K18 _ _ _ _ _ _ h _ _ hP hS _ (lv_sub hl [1, 3, 4, 5, 0] rfl)
set_option maxRecDepth 20000 in
theorem tlX5_goToFirst_18 (C0 : zCtx p s m args meth c cX5_goToFirst RX5 wsX5_goToFirst 8 none) (hK : zK G s) (hN : zN s) (hD : zD [shR G xR])  : ∀ (n : Nat), ∀ (uR : zSt) (l3 : Int32) (l4 : Int32) (l5 : Int32), lX5_goToFirst_18  n uR l3 l4 l5 = some vR → ∀ (H : Heap) (locs : List Loc), zP G [shR G xR] [uR] H → va_S (zA [shR G xR] s.heap.size) s.heap H locs → ∀ ls : Array Slot, lv_has ls 8 [(0, .ref (xR 0)), (3, .int l3), (4, .int l4), (5, .int l5)] → W p l e rmX5_goToFirst s m args below meth c H locs 0 0 (MQ below (zQ G [shR G xR] [vR] (zA [shR G xR] s.heap.size) none) args s 0 0 (zA [shR G xR] s.heap.size)) (F0 m 18 ls []) := by
  obtain ⟨hx, hb, hr, hml, hown, hts, hlk⟩ := id C0
  intro n
  induction n with
  | zero => intro uR l3 l4 l5 h; exact absurd h (fun q => nomatch q)
  | succ n K18 =>
    intro uR l3 l4 l5 h H locs hP hS ls hl
    replace h : bX5_goToFirst_18  (lX5_goToFirst_18  n) uR l3 l4 l5 = some vR := h
    unfold bX5_goToFirst_18 at h
    refine lv_iload hx hb dX5_goToFirst_18 (lv_at hl 3 rfl) ?_
    refine lv_bipush (v := 31) hx hb dX5_goToFirst_20 (by decide) ?_
    refine lv_icmp_ge (tgt := 94) hx hb dX5_goToFirst_22 (by decide) (fun hc => ?_) (fun hc => ?_)
    · replace h := zt hc h
      cases h
      exact z_vret hx hb hr hlk hP hS dX5_goToFirst_94
    · replace h := zf hc h
      refine lv_iload_n hx hb dX5_goToFirst_25 rfl (lv_at hl 1 rfl) ?_
      refine lv_iload hx hb dX5_goToFirst_26 (lv_at hl 2 rfl) ?_
      refine lv_icmp_ge (tgt := 94) hx hb dX5_goToFirst_28 (by decide) (fun hc => ?_) (fun hc => ?_)
      · replace h := zt hc h
        cases h
        exact z_vret hx hb hr hlk hP hS dX5_goToFirst_94
      · replace h := zf hc h
        refine lv_iload hx hb dX5_goToFirst_31 (lv_at hl 2 rfl) ?_
        obtain ⟨r_2, hg, h⟩ := zb1_e h
        refine z_callS (As := [.int l4]) (rest := []) ⟨hx, hb, hml, hown, hts⟩ (mX5_split l G  hg) (va_cwS 1 hts gX5_goToFirst_X5_split rfl rfl rfl ksX5_split ⟨Nat.le_of_ble_eq_true rfl, Nat.le_of_ble_eq_true rfl⟩) hP hD hK hN hS (Nat.le_refl _) [] rfl rfl rfl rfl rfl hl.1 rfl (Nat.le_of_ble_eq_true rfl) dX5_goToFirst_33 ⟨Nat.zero_le _, Nat.zero_le _⟩ (fun H locs hP hS => ?_)
        replace hP : zP G [shR G xR] [uR] H := hP
        refine lv_istore (lv' := [(6, .int r_2), (0, .ref (xR 0)), (3, .int l3), (4, .int l4), (5, .int l5)]) hx hb dX5_goToFirst_36 hl (by decide) rfl (fun ls hl => ?_)
        refine lv_iload_n hx hb dX5_goToFirst_38 rfl (lv_at hl 2 rfl) ?_
        refine lv_iload hx hb dX5_goToFirst_39 (lv_at hl 0 rfl) ?_
        refine lv_icmp_le (tgt := 48) hx hb dX5_goToFirst_41 (by decide) (fun hc => ?_) (fun hc => ?_)
        · replace h := zt hc h
          refine lv_iconst (v := 0) hx hb dX5_goToFirst_48 (by decide) ?_
          exact tX5_goToFirst_49 C0 hK hN hD K18 _ _ _ _ _ _ h _ _ hP hS _ (lv_sub hl [1, 2, 3, 4, 0] rfl)
        · replace h := zf hc h
          refine lv_iconst (v := 1) hx hb dX5_goToFirst_44 (by decide) ?_
          refine lv_goto (tgt := 49) hx hb dX5_goToFirst_45 (by decide) ?_
          exact tX5_goToFirst_49 C0 hK hN hD K18 _ _ _ _ _ _ h _ _ hP hS _ (lv_sub hl [1, 2, 3, 4, 0] rfl)
set_option maxRecDepth 20000 in
theorem mX5_goToFirst (l : Launch) (G : zG) (xR : Nat → Nat) {uR : zSt} {l1 : Int32} {l2 : Int32} {vR : zSt} (h : fX5_goToFirst uR l1 l2 = some vR) : zC l yX5_goToFirst wsX5_goToFirst rmX5_goToFirst [.ref (xR 0), .int l1, .int l2] G [shR G xR] [uR] [vR] none := by
  refine z_ofW (cc := cX5_goToFirst) (maxL := 8) (ret := none) (by decide) rfl (Nat.le_of_ble_eq_true rfl) ?_
  intro p e s m args below meth c C0 hK hN hD hP ls hl
  obtain ⟨hx, hb, hr, hml, hown, hts, hlk⟩ := id C0
  have hS : va_S (zA [shR G xR] s.heap.size) s.heap s.heap [] := va_S.rf
  replace hl : lv_has ls 8 [(0, .ref (xR 0)), (1, .int l1), (2, .int l2)] := hl
  have hwX5 : ∀ w ∈ wsX50, w.before args s = true := fun w h => hts w (List.mem_cons_of_mem _ (List.mem_append_right _ h))
  unfold fX5_goToFirst at h
  refine lv_aload_n hx hb dX5_goToFirst_0 rfl (lv_at hl 0 rfl) ?_
  refine lv_iconst (v := 0) hx hb dX5_goToFirst_1 (by decide) ?_
  refine pR_2 hx hb hwX5 hown hK hP hD hS 0 (xR) rfl rfl (hts _ (List.mem_of_getElem? (i := 1) rfl)) dX5_goToFirst_2 (fun H locs hP hS => ?_)
  replace hP : zP G [shR G xR] [(sI uR 2 ((0 : Int32)))] H := hP
  refine lv_aload_n hx hb dX5_goToFirst_5 rfl (lv_at hl 0 rfl) ?_
  refine lv_lconst (v := 0) hx hb dX5_goToFirst_6 rfl ?_
  refine pR_3 hx hb hwX5 hown hK hP hD hS 0 (xR) rfl rfl (hts _ (List.mem_of_getElem? (i := 2) rfl)) dX5_goToFirst_7 (fun H locs hP hS => ?_)
  replace hP : zP G [shR G xR] [(sJ ((sI uR 2 ((0 : Int32)))) 3 ((0 : Int64)))] H := hP
  refine lv_iload_n hx hb dX5_goToFirst_10 rfl (lv_at hl 1 rfl) ?_
  refine lv_istore_n (lv' := [(3, .int l1), (0, .ref (xR 0)), (1, .int l1), (2, .int l2)]) hx hb dX5_goToFirst_11 rfl hl (by decide) rfl (fun ls hl => ?_)
  refine lv_iload_n hx hb dX5_goToFirst_12 rfl (lv_at hl 3 rfl) ?_
  refine lv_istore (lv' := [(4, .int l2), (3, .int l1), (0, .ref (xR 0)), (1, .int l1), (2, .int l2)]) hx hb dX5_goToFirst_13 hl (by decide) rfl (fun ls hl => ?_)
  refine lv_iconst (v := 0) hx hb dX5_goToFirst_15 (by decide) ?_
  refine lv_istore (lv' := [(5, .int ((0 : Int32))), (4, .int l2), (3, .int l1), (0, .ref (xR 0)), (1, .int l1), (2, .int l2)]) hx hb dX5_goToFirst_16 hl (by decide) rfl (fun ls hl => ?_)
  exact tlX5_goToFirst_18 C0 hK hN hD  1000 _ _ _ _ h _ _ hP hS _ (lv_sub hl [3, 2, 1, 0] rfl)
end
def rmX5_digestsBelow : Room := { frames := 0, cells := 0, slots := 0, locals := 0 }
theorem kvX5_digestsBelow : yX5_digestsBelow.cls = RX5 ∧ yX5_digestsBelow.cls ≠ "java/lang/invoke/MethodHandle" ∧ yX5_digestsBelow.cls ≠ "java/lang/invoke/VarHandle" ∧ (parseMethodDescriptor yX5_digestsBelow.desc).map (fun d => d.parameters.length) = some 0 := by decide +kernel
section
variable {p : Program} {l : Launch} {e : Env} {s : State} {m : MethodId} {args : Array Value} {below : List Frame} {meth : Method} {c : Code} {G : zG} {xR : Nat → Nat} {rr : Int32}
set_option maxRecDepth 20000 in
theorem mX5_digestsBelow (l : Launch) (G : zG) (xR : Nat → Nat) {uR : zSt} {rr : Int32} (h : fX5_digestsBelow uR = some rr) : zC l yX5_digestsBelow wsX5_digestsBelow rmX5_digestsBelow [.ref (xR 0)] G [shR G xR] [uR] [uR] (some (.int rr)) := by
  refine z_ofW (cc := cX5_digestsBelow) (maxL := 1) (ret := some .int) (by decide) rfl (Nat.le_of_ble_eq_true rfl) ?_
  intro p e s m args below meth c C0 hK hN hD hP ls hl
  obtain ⟨hx, hb, hr, hml, hown, hts, hlk⟩ := id C0
  have hS : va_S (zA [shR G xR] s.heap.size) s.heap s.heap [] := va_S.rf
  replace hl : lv_has ls 1 [(0, .ref (xR 0))] := hl
  have hwX5 : ∀ w ∈ wsX50, w.before args s = true := fun w h => hts w (List.mem_cons_of_mem _ (List.mem_append_right _ h))
  unfold fX5_digestsBelow at h
  refine lv_aload_n hx hb dX5_digestsBelow_0 rfl (lv_at hl 0 rfl) ?_
  refine rR_3 hx hb hwX5 hown hK hP 0 (xR) rfl rfl (hts _ (List.mem_of_getElem? (i := 1) rfl)) dX5_digestsBelow_1 ?_
  refine lv_lconst (v := 0) hx hb dX5_digestsBelow_4 rfl ?_
  refine W.lcmp hx hb dX5_digestsBelow_5 ?_
  refine lv_if_ne (tgt := 13) hx hb dX5_digestsBelow_6 (by decide) (fun hc => ?_) (fun hc => ?_)
  · replace h := zf hc h
    refine lv_iconst (v := 1) hx hb dX5_digestsBelow_13 (by decide) ?_
    cases h
    exact z_iret hx hb hr hlk hP hS dX5_digestsBelow_14
  · replace h := zt hc h
    refine lv_iconst (v := 0) hx hb dX5_digestsBelow_9 (by decide) ?_
    refine lv_goto (tgt := 14) hx hb dX5_digestsBelow_10 (by decide) ?_
    cases h
    exact z_iret hx hb hr hlk hP hS dX5_digestsBelow_14
end
def rmX5_makeForFirst : Room := { frames := 5, cells := 0, slots := 0, locals := 120 }
theorem kvX5_makeForFirst : yX5_makeForFirst.cls = RX5 ∧ yX5_makeForFirst.cls ≠ "java/lang/invoke/MethodHandle" ∧ yX5_makeForFirst.cls ≠ "java/lang/invoke/VarHandle" ∧ (parseMethodDescriptor yX5_makeForFirst.desc).map (fun d => d.parameters.length) = some 3 := by decide +kernel
section
variable {p : Program} {l : Launch} {e : Env} {s : State} {m : MethodId} {args : Array Value} {below : List Frame} {meth : Method} {c : Code} {G : zG} {xB : Nat → Nat} {xR : Nat → Nat} {rr : Int32} {vB : zSt} {vR : zSt}
set_option maxRecDepth 20000 in
theorem mX5_makeForFirst (l : Launch) (G : zG) (xB : Nat → Nat) (xR : Nat → Nat) {uB : zSt} {uR : zSt} {l2 : Int32} {l3 : Int32} {rr : Int32} {vB : zSt} {vR : zSt} (h : fX5_makeForFirst uB uR l2 l3 = some (rr, vB, vR)) : zC l yX5_makeForFirst wsX5_makeForFirst rmX5_makeForFirst [.ref (xR 0), .ref (xB 0), .int l2, .int l3] G [shB G xB, shR G xR] [uB, uR] [vB, vR] (some (.int rr)) := by
  refine z_ofW (cc := cX5_makeForFirst) (maxL := 4) (ret := some .int) (by decide) rfl (Nat.le_of_ble_eq_true rfl) ?_
  intro p e s m args below meth c C0 hK hN hD hP ls hl
  obtain ⟨hx, hb, hr, hml, hown, hts, hlk⟩ := id C0
  have hS : va_S (zA [shB G xB, shR G xR] s.heap.size) s.heap s.heap [] := va_S.rf
  replace hl : lv_has ls 4 [(0, .ref (xR 0)), (1, .ref (xB 0)), (2, .int l2), (3, .int l3)] := hl
  have hwX5 : ∀ w ∈ wsX50, w.before args s = true := fun w h => hts w (List.mem_cons_of_mem _ (List.mem_append_left _ (List.mem_append_right _ h)))
  unfold fX5_makeForFirst at h
  refine lv_aload_n hx hb dX5_makeForFirst_0 rfl (lv_at hl 0 rfl) ?_
  refine lv_iload_n hx hb dX5_makeForFirst_1 rfl (lv_at hl 2 rfl) ?_
  refine lv_iload_n hx hb dX5_makeForFirst_2 rfl (lv_at hl 3 rfl) ?_
  obtain ⟨uR_1, hg, h⟩ := zb1_e h
  refine z_callV (As := [.int l2, .int l3]) (rest := []) (i := 0) ⟨hx, hb, hml, hown, hts⟩ (mX5_goToFirst l G (xR) hg) (cwV 2 hts gX5_makeForFirst_X5_goToFirst rfl rfl rfl kvX5_goToFirst ⟨Nat.le_of_ble_eq_true rfl, Nat.le_of_ble_eq_true rfl⟩) rfl hP hD hK hN hS (Nat.le_refl _) [1] rfl rfl rfl rfl 1 rfl rfl rfl rfl rfl hl.1 rfl (Nat.le_of_ble_eq_true rfl) dX5_makeForFirst_3 ⟨Nat.zero_le _, Nat.zero_le _⟩ (fun H locs hP hS => ?_)
  replace hP : zP G [shB G xB, shR G xR] [uB, uR_1] H := hP
  refine lv_aload_n hx hb dX5_makeForFirst_6 rfl (lv_at hl 0 rfl) ?_
  refine lv_aload_n hx hb dX5_makeForFirst_7 rfl (lv_at hl 1 rfl) ?_
  refine lv_iload_n hx hb dX5_makeForFirst_8 rfl (lv_at hl 3 rfl) ?_
  refine lv_aload_n hx hb dX5_makeForFirst_9 rfl (lv_at hl 0 rfl) ?_
  obtain ⟨r_2, hg, h⟩ := zb1_e h
  refine z_callV (As := []) (rest := [.int l3, .ref (xB 0), .ref (xR 0)]) (i := 0) ⟨hx, hb, hml, hown, hts⟩ (mX5_digestsBelow l G (xR) hg) (cwV 0 hts gX5_makeForFirst_X5_digestsBelow rfl rfl rfl kvX5_digestsBelow ⟨Nat.le_of_ble_eq_true rfl, Nat.le_of_ble_eq_true rfl⟩) rfl hP hD hK hN hS (Nat.le_refl _) [1] rfl rfl rfl rfl 1 rfl rfl rfl rfl rfl hl.1 rfl (Nat.le_of_ble_eq_true rfl) dX5_makeForFirst_10 ⟨Nat.zero_le _, Nat.zero_le _⟩ (fun H locs hP hS => ?_)
  replace hP : zP G [shB G xB, shR G xR] [uB, uR_1] H := hP
  obtain ⟨uB_3, uR_4, hg, h⟩ := zb2_e h
  refine z_callV (As := [.ref (xB 0), .int l3, .int r_2]) (rest := []) (i := 0) ⟨hx, hb, hml, hown, hts⟩ (mX5_fill l G (xB) (xR) hg) (cwV 3 hts gX5_makeForFirst_X5_fill rfl rfl rfl kvX5_fill ⟨Nat.le_of_ble_eq_true rfl, Nat.le_of_ble_eq_true rfl⟩) rfl hP hD hK hN hS (Nat.le_refl _) [0, 1] rfl rfl rfl rfl 1 rfl rfl rfl rfl rfl hl.1 rfl (Nat.le_of_ble_eq_true rfl) dX5_makeForFirst_13 ⟨Nat.zero_le _, Nat.zero_le _⟩ (fun H locs hP hS => ?_)
  replace hP : zP G [shB G xB, shR G xR] [uB_3, uR_4] H := hP
  refine lv_aload_n hx hb dX5_makeForFirst_16 rfl (lv_at hl 0 rfl) ?_
  refine rR_1 hx hb hwX5 hown hK hP 1 (xR) rfl rfl (hts _ (List.mem_of_getElem? (i := 1) rfl)) dX5_makeForFirst_17 ?_
  cases h
  exact z_iret hx hb hr hlk hP hS dX5_makeForFirst_20
end
def rmX5_fitsRecord : Room := { frames := 2, cells := 0, slots := 0, locals := 48 }
theorem kvX5_fitsRecord : yX5_fitsRecord.cls = RX5 ∧ yX5_fitsRecord.cls ≠ "java/lang/invoke/MethodHandle" ∧ yX5_fitsRecord.cls ≠ "java/lang/invoke/VarHandle" ∧ (parseMethodDescriptor yX5_fitsRecord.desc).map (fun d => d.parameters.length) = some 4 := by decide +kernel
section
variable {p : Program} {l : Launch} {e : Env} {s : State} {m : MethodId} {args : Array Value} {below : List Frame} {meth : Method} {c : Code} {G : zG} {xR : Nat → Nat} {rr : Int32} {vR : zSt}
set_option maxRecDepth 20000 in
theorem tX5_fitsRecord_81 (C0 : zCtx p s m args meth c cX5_fitsRecord RX5 wsX5_fitsRecord 11 (some .boolean)) (hK : zK G s) (hN : zN s) (hD : zD [shR G xR]) {k25 : zSt → Int64 → Int64 → Int32 → Option (Int32 × zSt)} (K25 : ∀ (uR : zSt) (l5 : Int64) (l7 : Int64) (l9 : Int32), k25 uR l5 l7 l9 = some (rr, vR) → ∀ (H : Heap) (locs : List Loc), zP G [shR G xR] [uR] H → va_S (zA [shR G xR] s.heap.size) s.heap H locs → ∀ ls : Array Slot, lv_has ls 11 [(0, .ref (xR 0)), (5, .long l5), (7, .long l7), (9, .int l9)] → W p l e rmX5_fitsRecord s m args below meth c H locs 0 0 (MQ below (zQ G [shR G xR] [vR] (zA [shR G xR] s.heap.size) (some (.int rr))) args s 0 0 (zA [shR G xR] s.heap.size)) (F0 m 25 ls [])) : ∀ (uR : zSt) (l5 : Int64) (l9 : Int32) (s0 : Int64), bX5_fitsRecord_81 k25 uR l5 l9 s0 = some (rr, vR) → ∀ (H : Heap) (locs : List Loc), zP G [shR G xR] [uR] H → va_S (zA [shR G xR] s.heap.size) s.heap H locs → ∀ ls : Array Slot, lv_has ls 11 [(0, .ref (xR 0)), (5, .long l5), (9, .int l9)] → W p l e rmX5_fitsRecord s m args below meth c H locs 0 0 (MQ below (zQ G [shR G xR] [vR] (zA [shR G xR] s.heap.size) (some (.int rr))) args s 0 0 (zA [shR G xR] s.heap.size)) (F0 m 81 ls [.long s0]) := by
  obtain ⟨hx, hb, hr, hml, hown, hts, hlk⟩ := id C0
  intro uR l5 l9 s0 h H locs hP hS ls hl
  unfold bX5_fitsRecord_81 at h
  refine lv_lstore (lv' := [(7, .long s0), (0, .ref (xR 0)), (5, .long l5), (9, .int l9)]) hx hb dX5_fitsRecord_81 hl (by decide) rfl (fun ls hl => ?_)
  refine lv_iinc (v := (l9 + (1 : Int32))) (lv' := [(9, .int ((l9 + (1 : Int32)))), (7, .long s0), (0, .ref (xR 0)), (5, .long l5)]) hx hb dX5_fitsRecord_83 hl (k := 3) rfl rfl (by decide) rfl (fun ls hl => ?_)
  refine lv_goto (tgt := 25) hx hb dX5_fitsRecord_86 (by decide) ?_
  exact K25 _ _ _ _ h _ _ hP hS _ (lv_sub hl [2, 3, 1, 0] rfl)
set_option maxRecDepth 20000 in
theorem tlX5_fitsRecord_25 (C0 : zCtx p s m args meth c cX5_fitsRecord RX5 wsX5_fitsRecord 11 (some .boolean)) (hK : zK G s) (hN : zN s) (hD : zD [shR G xR])  : ∀ (n : Nat), ∀ (uR : zSt) (l5 : Int64) (l7 : Int64) (l9 : Int32), lX5_fitsRecord_25  n uR l5 l7 l9 = some (rr, vR) → ∀ (H : Heap) (locs : List Loc), zP G [shR G xR] [uR] H → va_S (zA [shR G xR] s.heap.size) s.heap H locs → ∀ ls : Array Slot, lv_has ls 11 [(0, .ref (xR 0)), (5, .long l5), (7, .long l7), (9, .int l9)] → W p l e rmX5_fitsRecord s m args below meth c H locs 0 0 (MQ below (zQ G [shR G xR] [vR] (zA [shR G xR] s.heap.size) (some (.int rr))) args s 0 0 (zA [shR G xR] s.heap.size)) (F0 m 25 ls []) := by
  obtain ⟨hx, hb, hr, hml, hown, hts, hlk⟩ := id C0
  have hwX5 : ∀ w ∈ wsX50, w.before args s = true := fun w h => hts w (List.mem_cons_of_mem _ (List.mem_append_right _ h))
  intro n
  induction n with
  | zero => intro uR l5 l7 l9 h; exact absurd h (fun q => nomatch q)
  | succ n K25 =>
    intro uR l5 l7 l9 h H locs hP hS ls hl
    replace h : bX5_fitsRecord_25  (lX5_fitsRecord_25  n) uR l5 l7 l9 = some (rr, vR) := h
    unfold bX5_fitsRecord_25 at h
    refine lv_iload hx hb dX5_fitsRecord_25 (lv_at hl 3 rfl) ?_
    refine lv_aload_n hx hb dX5_fitsRecord_27 rfl (lv_at hl 0 rfl) ?_
    refine rR_1 hx hb hwX5 hown hK hP 0 (xR) rfl rfl (hts _ (List.mem_of_getElem? (i := 1) rfl)) dX5_fitsRecord_28 ?_
    refine lv_icmp_ge (tgt := 89) hx hb dX5_fitsRecord_31 (by decide) (fun hc => ?_) (fun hc => ?_)
    · replace h := zt hc h
      refine lv_lload hx hb dX5_fitsRecord_89 (lv_at hl 2 rfl) ?_
      refine lv_lload hx hb dX5_fitsRecord_91 (lv_at hl 1 rfl) ?_
      refine W.lcmp hx hb dX5_fitsRecord_93 ?_
      refine lv_if_ne (tgt := 101) hx hb dX5_fitsRecord_94 (by decide) (fun hc => ?_) (fun hc => ?_)
      · replace h := zf hc h
        refine lv_iconst (v := 0) hx hb dX5_fitsRecord_101 (by decide) ?_
        cases h
        exact z_zret hx hb hr hlk rfl hP hS dX5_fitsRecord_102
      · replace h := zt hc h
        refine lv_iconst (v := 1) hx hb dX5_fitsRecord_97 (by decide) ?_
        refine lv_goto (tgt := 102) hx hb dX5_fitsRecord_98 (by decide) ?_
        cases h
        exact z_zret hx hb hr hlk rfl hP hS dX5_fitsRecord_102
    · replace h := zf hc h
      refine lv_aload_n hx hb dX5_fitsRecord_34 rfl (lv_at hl 0 rfl) ?_
      refine lv_aload_n hx hb dX5_fitsRecord_35 rfl (lv_at hl 0 rfl) ?_
      refine rR_2 hx hb hwX5 hown hK hP 0 (xR) rfl rfl (hts _ (List.mem_of_getElem? (i := 2) rfl)) dX5_fitsRecord_36 ?_
      refine lv_iconst (v := 1) hx hb dX5_fitsRecord_39 (by decide) ?_
      refine lv_isub hx hb dX5_fitsRecord_40 ?_
      refine lv_iload hx hb dX5_fitsRecord_41 (lv_at hl 3 rfl) ?_
      refine lv_isub hx hb dX5_fitsRecord_43 ?_
      obtain ⟨r_1, hg, h⟩ := zb1_e h
      refine z_callV (As := [.int ((((gI uR 2) - (1 : Int32)) - l9))]) (rest := []) (i := 0) ⟨hx, hb, hml, hown, hts⟩ (mX5_isSecond l G (xR) hg) (cwV 1 hts gX5_fitsRecord_X5_isSecond rfl rfl rfl kvX5_isSecond ⟨Nat.le_of_ble_eq_true rfl, Nat.le_of_ble_eq_true rfl⟩) rfl hP hD hK hN hS (Nat.le_refl _) [0] rfl rfl rfl rfl 0 rfl rfl rfl rfl rfl hl.1 rfl (Nat.le_of_ble_eq_true rfl) dX5_fitsRecord_44 ⟨Nat.zero_le _, Nat.zero_le _⟩ (fun H locs hP hS => ?_)
      replace hP : zP G [shR G xR] [uR] H := hP
      refine lv_istore (lv' := [(10, .int r_1), (0, .ref (xR 0)), (5, .long l5), (7, .long l7), (9, .int l9)]) hx hb dX5_fitsRecord_47 hl (by decide) rfl (fun ls hl => ?_)
      refine lv_iload hx hb dX5_fitsRecord_49 (lv_at hl 0 rfl) ?_
      refine lv_if_eq (tgt := 69) hx hb dX5_fitsRecord_51 (by decide) (fun hc => ?_) (fun hc => ?_)
      · replace h := zt hc h
        refine lv_lload hx hb dX5_fitsRecord_69 (lv_at hl 3 rfl) ?_
        refine lv_aload_n hx hb dX5_fitsRecord_71 rfl (lv_at hl 1 rfl) ?_
        refine rR_0 hx hb hwX5 hown hK hP 0 (xR) rfl rfl (hts _ (List.mem_of_getElem? (i := 3) rfl)) dX5_fitsRecord_72 ?_
        refine lv_iload hx hb dX5_fitsRecord_75 (lv_at hl 4 rfl) ?_
        obtain ⟨hi, h⟩ := zin_e h
        refine aR_0 hx hb hK hP 0 (xR) rfl rfl hi rfl dX5_fitsRecord_77 ?_
        obtain ⟨r_2, hg, h⟩ := zb1_e h
        refine z_callS (As := [.long l7, .long ((gL uR 0 l9.toNatClampNeg))]) (rest := []) ⟨hx, hb, hml, hown, hts⟩ (mX2_ofParts l G  hg) (va_cwS 2 hts gX5_fitsRecord_X2_ofParts rfl rfl rfl ksX2_ofParts ⟨Nat.le_of_ble_eq_true rfl, Nat.le_of_ble_eq_true rfl⟩) hP hD hK hN hS (Nat.le_refl _) [] rfl rfl rfl rfl rfl hl.1 rfl (Nat.le_of_ble_eq_true rfl) dX5_fitsRecord_78 ⟨Nat.zero_le _, Nat.zero_le _⟩ (fun H locs hP hS => ?_)
        replace hP : zP G [shR G xR] [uR] H := hP
        exact tX5_fitsRecord_81 C0 hK hN hD K25 _ _ _ _ h _ _ hP hS _ (lv_sub hl [1, 2, 4] rfl)
      · replace h := zf hc h
        refine lv_aload_n hx hb dX5_fitsRecord_54 rfl (lv_at hl 1 rfl) ?_
        refine rR_0 hx hb hwX5 hown hK hP 0 (xR) rfl rfl (hts _ (List.mem_of_getElem? (i := 3) rfl)) dX5_fitsRecord_55 ?_
        refine lv_iload hx hb dX5_fitsRecord_58 (lv_at hl 4 rfl) ?_
        obtain ⟨hi, h⟩ := zin_e h
        refine aR_0 hx hb hK hP 0 (xR) rfl rfl hi rfl dX5_fitsRecord_60 ?_
        refine lv_lload hx hb dX5_fitsRecord_61 (lv_at hl 3 rfl) ?_
        obtain ⟨r_3, hg, h⟩ := zb1_e h
        refine z_callS (As := [.long ((gL uR 0 l9.toNatClampNeg)), .long l7]) (rest := []) ⟨hx, hb, hml, hown, hts⟩ (mX2_ofParts l G  hg) (va_cwS 2 hts gX5_fitsRecord_X2_ofParts rfl rfl rfl ksX2_ofParts ⟨Nat.le_of_ble_eq_true rfl, Nat.le_of_ble_eq_true rfl⟩) hP hD hK hN hS (Nat.le_refl _) [] rfl rfl rfl rfl rfl hl.1 rfl (Nat.le_of_ble_eq_true rfl) dX5_fitsRecord_63 ⟨Nat.zero_le _, Nat.zero_le _⟩ (fun H locs hP hS => ?_)
        replace hP : zP G [shR G xR] [uR] H := hP
        refine lv_goto (tgt := 81) hx hb dX5_fitsRecord_66 (by decide) ?_
        exact tX5_fitsRecord_81 C0 hK hN hD K25 _ _ _ _ h _ _ hP hS _ (lv_sub hl [1, 2, 4] rfl)
set_option maxRecDepth 20000 in
theorem mX5_fitsRecord (l : Launch) (G : zG) (xR : Nat → Nat) {uR : zSt} {l1 : Int32} {l2 : Int32} {l3 : Int64} {l5 : Int64} {rr : Int32} {vR : zSt} (h : fX5_fitsRecord uR l1 l2 l3 l5 = some (rr, vR)) : zC l yX5_fitsRecord wsX5_fitsRecord rmX5_fitsRecord [.ref (xR 0), .int l1, .int l2, .long l3, .long l5] G [shR G xR] [uR] [vR] (some (.int rr)) := by
  refine z_ofW (cc := cX5_fitsRecord) (maxL := 11) (ret := some .boolean) (by decide) rfl (Nat.le_of_ble_eq_true rfl) ?_
  intro p e s m args below meth c C0 hK hN hD hP ls hl
  obtain ⟨hx, hb, hr, hml, hown, hts, hlk⟩ := id C0
  have hS : va_S (zA [shR G xR] s.heap.size) s.heap s.heap [] := va_S.rf
  replace hl : lv_has ls 11 [(0, .ref (xR 0)), (1, .int l1), (2, .int l2), (3, .long l3), (5, .long l5)] := hl
  have hwX5 : ∀ w ∈ wsX50, w.before args s = true := fun w h => hts w (List.mem_cons_of_mem _ (List.mem_append_right _ h))
  unfold fX5_fitsRecord at h
  refine lv_aload_n hx hb dX5_fitsRecord_0 rfl (lv_at hl 0 rfl) ?_
  refine lv_iload_n hx hb dX5_fitsRecord_1 rfl (lv_at hl 1 rfl) ?_
  refine lv_iload_n hx hb dX5_fitsRecord_2 rfl (lv_at hl 2 rfl) ?_
  obtain ⟨uR_4, hg, h⟩ := zb1_e h
  refine z_callV (As := [.int l1, .int l2]) (rest := []) (i := 0) ⟨hx, hb, hml, hown, hts⟩ (mX5_goToRecord l G (xR) hg) (cwV 2 hts gX5_fitsRecord_X5_goToRecord rfl rfl rfl kvX5_goToRecord ⟨Nat.le_of_ble_eq_true rfl, Nat.le_of_ble_eq_true rfl⟩) rfl hP hD hK hN hS (Nat.le_refl _) [0] rfl rfl rfl rfl 0 rfl rfl rfl rfl rfl hl.1 rfl (Nat.le_of_ble_eq_true rfl) dX5_fitsRecord_3 ⟨Nat.zero_le _, Nat.zero_le _⟩ (fun H locs hP hS => ?_)
  replace hP : zP G [shR G xR] [uR_4] H := hP
  refine lv_aload_n hx hb dX5_fitsRecord_6 rfl (lv_at hl 0 rfl) ?_
  refine rR_1 hx hb hwX5 hown hK hP 0 (xR) rfl rfl (hts _ (List.mem_of_getElem? (i := 1) rfl)) dX5_fitsRecord_7 ?_
  refine lv_aload_n hx hb dX5_fitsRecord_10 rfl (lv_at hl 0 rfl) ?_
  refine rR_2 hx hb hwX5 hown hK hP 0 (xR) rfl rfl (hts _ (List.mem_of_getElem? (i := 2) rfl)) dX5_fitsRecord_11 ?_
  refine lv_icmp_eq (tgt := 19) hx hb dX5_fitsRecord_14 (by decide) (fun hc => ?_) (fun hc => ?_)
  · replace h := zt hc h
    refine lv_lload_n hx hb dX5_fitsRecord_19 rfl (lv_at hl 3 rfl) ?_
    refine lv_lstore (lv' := [(7, .long l3), (0, .ref (xR 0)), (1, .int l1), (2, .int l2), (3, .long l3), (5, .long l5)]) hx hb dX5_fitsRecord_20 hl (by decide) rfl (fun ls hl => ?_)
    refine lv_iconst (v := 0) hx hb dX5_fitsRecord_22 (by decide) ?_
    refine lv_istore (lv' := [(9, .int ((0 : Int32))), (7, .long l3), (0, .ref (xR 0)), (1, .int l1), (2, .int l2), (3, .long l3), (5, .long l5)]) hx hb dX5_fitsRecord_23 hl (by decide) rfl (fun ls hl => ?_)
    exact tlX5_fitsRecord_25 C0 hK hN hD  1000 _ _ _ _ h _ _ hP hS _ (lv_sub hl [2, 6, 1, 0] rfl)
  · replace h := zf hc h
    refine lv_iconst (v := 0) hx hb dX5_fitsRecord_17 (by decide) ?_
    cases h
    exact z_zret hx hb hr hlk rfl hP hS dX5_fitsRecord_18
end
def rmX6_shows : Room := { frames := 3, cells := 0, slots := 0, locals := 78 }
theorem kvX6_shows : yX6_shows.cls = RX6 ∧ yX6_shows.cls ≠ "java/lang/invoke/MethodHandle" ∧ yX6_shows.cls ≠ "java/lang/invoke/VarHandle" ∧ (parseMethodDescriptor yX6_shows.desc).map (fun d => d.parameters.length) = some 4 := by decide +kernel
section
variable {p : Program} {l : Launch} {e : Env} {s : State} {m : MethodId} {args : Array Value} {below : List Frame} {meth : Method} {c : Code} {G : zG} {xO : Nat → Nat} {rr : Int32} {vR : zSt}
set_option maxRecDepth 20000 in
theorem mX6_shows (l : Launch) (G : zG) (xO : Nat → Nat) {uO : zSt} {uR : zSt} {l1 : Int32} {l2 : Int32} {l3 : Int64} {l5 : Int64} {rr : Int32} {vR : zSt} (h : fX6_shows uO uR l1 l2 l3 l5 = some (rr, vR)) : zC l yX6_shows wsX6_shows rmX6_shows [.ref (xO 0), .int l1, .int l2, .long l3, .long l5] G [shO G xO, shR G (ad 34 xO)] [uO, uR] [uO, vR] (some (.int rr)) := by
  refine z_ofW (cc := cX6_shows) (maxL := 7) (ret := some .boolean) (by decide) rfl (Nat.le_of_ble_eq_true rfl) ?_
  intro p e s m args below meth c C0 hK hN hD hP ls hl
  obtain ⟨hx, hb, hr, hml, hown, hts, hlk⟩ := id C0
  have hS : va_S (zA [shO G xO, shR G (ad 34 xO)] s.heap.size) s.heap s.heap [] := va_S.rf
  replace hl : lv_has ls 7 [(0, .ref (xO 0)), (1, .int l1), (2, .int l2), (3, .long l3), (5, .long l5)] := hl
  have hwX6 : ∀ w ∈ wsX60, w.before args s = true := fun w h => hts w (List.mem_cons_of_mem _ (List.mem_append_left _ (List.mem_append_right _ h)))
  unfold fX6_shows at h
  refine lv_iload_n hx hb dX6_shows_0 rfl (lv_at hl 1 rfl) ?_
  refine lv_if_lt (tgt := 28) hx hb dX6_shows_1 (by decide) (fun hc => ?_) (fun hc => ?_)
  · replace h := zt hc h
    refine lv_iconst (v := 0) hx hb dX6_shows_28 (by decide) ?_
    cases h
    exact z_zret hx hb hr hlk rfl hP hS dX6_shows_29
  · replace h := zf hc h
    refine lv_iload_n hx hb dX6_shows_4 rfl (lv_at hl 1 rfl) ?_
    refine lv_iload_n hx hb dX6_shows_5 rfl (lv_at hl 2 rfl) ?_
    refine lv_icmp_ge (tgt := 28) hx hb dX6_shows_6 (by decide) (fun hc => ?_) (fun hc => ?_)
    · replace h := zt hc h
      refine lv_iconst (v := 0) hx hb dX6_shows_28 (by decide) ?_
      cases h
      exact z_zret hx hb hr hlk rfl hP hS dX6_shows_29
    · replace h := zf hc h
      refine lv_aload_n hx hb dX6_shows_9 rfl (lv_at hl 0 rfl) ?_
      refine rO_3 hx hb hwX6 hown hK hP 0 (xO) rfl rfl (hts _ (List.mem_of_getElem? (i := 1) rfl)) dX6_shows_10 ?_
      refine lv_iload_n hx hb dX6_shows_13 rfl (lv_at hl 1 rfl) ?_
      refine lv_iload_n hx hb dX6_shows_14 rfl (lv_at hl 2 rfl) ?_
      refine lv_lload_n hx hb dX6_shows_15 rfl (lv_at hl 3 rfl) ?_
      refine lv_lload hx hb dX6_shows_16 (lv_at hl 4 rfl) ?_
      obtain ⟨r_1, uR_2, hg, h⟩ := zb2_e h
      refine z_callV (As := [.int l1, .int l2, .long l3, .long l5]) (rest := []) (i := 0) ⟨hx, hb, hml, hown, hts⟩ (mX5_fitsRecord l G (ad 34 xO) hg) (cwV 4 hts gX6_shows_X5_fitsRecord rfl rfl rfl kvX5_fitsRecord ⟨Nat.le_of_ble_eq_true rfl, Nat.le_of_ble_eq_true rfl⟩) rfl hP hD hK hN hS (Nat.le_refl _) [1] rfl rfl rfl rfl 1 rfl rfl rfl rfl rfl hl.1 rfl (Nat.le_of_ble_eq_true rfl) dX6_shows_18 ⟨Nat.zero_le _, Nat.zero_le _⟩ (fun H locs hP hS => ?_)
      replace hP : zP G [shO G xO, shR G (ad 34 xO)] [uO, uR_2] H := hP
      refine lv_if_eq (tgt := 28) hx hb dX6_shows_21 (by decide) (fun hc => ?_) (fun hc => ?_)
      · replace h := zt hc h
        refine lv_iconst (v := 0) hx hb dX6_shows_28 (by decide) ?_
        cases h
        exact z_zret hx hb hr hlk rfl hP hS dX6_shows_29
      · replace h := zf hc h
        refine lv_iconst (v := 1) hx hb dX6_shows_24 (by decide) ?_
        refine lv_goto (tgt := 29) hx hb dX6_shows_25 (by decide) ?_
        cases h
        exact z_zret hx hb hr hlk rfl hP hS dX6_shows_29
end
def rmX5_fitsFirst : Room := { frames := 2, cells := 0, slots := 0, locals := 48 }
theorem kvX5_fitsFirst : yX5_fitsFirst.cls = RX5 ∧ yX5_fitsFirst.cls ≠ "java/lang/invoke/MethodHandle" ∧ yX5_fitsFirst.cls ≠ "java/lang/invoke/VarHandle" ∧ (parseMethodDescriptor yX5_fitsFirst.desc).map (fun d => d.parameters.length) = some 4 := by decide +kernel
section
variable {p : Program} {l : Launch} {e : Env} {s : State} {m : MethodId} {args : Array Value} {below : List Frame} {meth : Method} {c : Code} {G : zG} {xR : Nat → Nat} {rr : Int32} {vR : zSt}
set_option maxRecDepth 20000 in
theorem tX5_fitsFirst_124 (C0 : zCtx p s m args meth c cX5_fitsFirst RX5 wsX5_fitsFirst 13 (some .boolean)) (hK : zK G s) (hN : zN s) (hD : zD [shR G xR]) {k54 : zSt → Int64 → Int64 → Int64 → Int64 → Int32 → Option (Int32 × zSt)} (K54 : ∀ (uR : zSt) (l3 : Int64) (l5 : Int64) (l8 : Int64) (l10 : Int64) (l12 : Int32), k54 uR l3 l5 l8 l10 l12 = some (rr, vR) → ∀ (H : Heap) (locs : List Loc), zP G [shR G xR] [uR] H → va_S (zA [shR G xR] s.heap.size) s.heap H locs → ∀ ls : Array Slot, lv_has ls 13 [(0, .ref (xR 0)), (3, .long l3), (5, .long l5), (8, .long l8), (10, .long l10), (12, .int l12)] → W p l e rmX5_fitsFirst s m args below meth c H locs 0 0 (MQ below (zQ G [shR G xR] [vR] (zA [shR G xR] s.heap.size) (some (.int rr))) args s 0 0 (zA [shR G xR] s.heap.size)) (F0 m 54 ls [])) : ∀ (uR : zSt) (l3 : Int64) (l5 : Int64) (l8 : Int64) (l10 : Int64) (l12 : Int32), bX5_fitsFirst_124 k54 uR l3 l5 l8 l10 l12 = some (rr, vR) → ∀ (H : Heap) (locs : List Loc), zP G [shR G xR] [uR] H → va_S (zA [shR G xR] s.heap.size) s.heap H locs → ∀ ls : Array Slot, lv_has ls 13 [(0, .ref (xR 0)), (3, .long l3), (5, .long l5), (8, .long l8), (10, .long l10), (12, .int l12)] → W p l e rmX5_fitsFirst s m args below meth c H locs 0 0 (MQ below (zQ G [shR G xR] [vR] (zA [shR G xR] s.heap.size) (some (.int rr))) args s 0 0 (zA [shR G xR] s.heap.size)) (F0 m 124 ls []) := by
  obtain ⟨hx, hb, hr, hml, hown, hts, hlk⟩ := id C0
  intro uR l3 l5 l8 l10 l12 h H locs hP hS ls hl
  unfold bX5_fitsFirst_124 at h
  refine lv_iinc (v := (l12 + (1 : Int32))) (lv' := [(12, .int ((l12 + (1 : Int32)))), (0, .ref (xR 0)), (3, .long l3), (5, .long l5), (8, .long l8), (10, .long l10)]) hx hb dX5_fitsFirst_124 hl (k := 5) rfl rfl (by decide) rfl (fun ls hl => ?_)
  refine lv_goto (tgt := 54) hx hb dX5_fitsFirst_127 (by decide) ?_
  exact K54 _ _ _ _ _ _ h _ _ hP hS _ (lv_sub hl [1, 2, 3, 4, 5, 0] rfl)
set_option maxRecDepth 20000 in
theorem tlX5_fitsFirst_54 (C0 : zCtx p s m args meth c cX5_fitsFirst RX5 wsX5_fitsFirst 13 (some .boolean)) (hK : zK G s) (hN : zN s) (hD : zD [shR G xR])  : ∀ (n : Nat), ∀ (uR : zSt) (l3 : Int64) (l5 : Int64) (l8 : Int64) (l10 : Int64) (l12 : Int32), lX5_fitsFirst_54  n uR l3 l5 l8 l10 l12 = some (rr, vR) → ∀ (H : Heap) (locs : List Loc), zP G [shR G xR] [uR] H → va_S (zA [shR G xR] s.heap.size) s.heap H locs → ∀ ls : Array Slot, lv_has ls 13 [(0, .ref (xR 0)), (3, .long l3), (5, .long l5), (8, .long l8), (10, .long l10), (12, .int l12)] → W p l e rmX5_fitsFirst s m args below meth c H locs 0 0 (MQ below (zQ G [shR G xR] [vR] (zA [shR G xR] s.heap.size) (some (.int rr))) args s 0 0 (zA [shR G xR] s.heap.size)) (F0 m 54 ls []) := by
  obtain ⟨hx, hb, hr, hml, hown, hts, hlk⟩ := id C0
  have hwX5 : ∀ w ∈ wsX50, w.before args s = true := fun w h => hts w (List.mem_cons_of_mem _ (List.mem_append_right _ h))
  intro n
  induction n with
  | zero => intro uR l3 l5 l8 l10 l12 h; exact absurd h (fun q => nomatch q)
  | succ n K54 =>
    intro uR l3 l5 l8 l10 l12 h H locs hP hS ls hl
    replace h : bX5_fitsFirst_54  (lX5_fitsFirst_54  n) uR l3 l5 l8 l10 l12 = some (rr, vR) := h
    unfold bX5_fitsFirst_54 at h
    refine lv_iload hx hb dX5_fitsFirst_54 (lv_at hl 5 rfl) ?_
    refine lv_aload_n hx hb dX5_fitsFirst_56 rfl (lv_at hl 0 rfl) ?_
    refine rR_1 hx hb hwX5 hown hK hP 0 (xR) rfl rfl (hts _ (List.mem_of_getElem? (i := 1) rfl)) dX5_fitsFirst_57 ?_
    refine lv_icmp_ge (tgt := 130) hx hb dX5_fitsFirst_60 (by decide) (fun hc => ?_) (fun hc => ?_)
    · replace h := zt hc h
      refine lv_lload hx hb dX5_fitsFirst_130 (lv_at hl 3 rfl) ?_
      refine lv_lload_n hx hb dX5_fitsFirst_132 rfl (lv_at hl 1 rfl) ?_
      refine W.lcmp hx hb dX5_fitsFirst_133 ?_
      refine lv_if_ne (tgt := 149) hx hb dX5_fitsFirst_134 (by decide) (fun hc => ?_) (fun hc => ?_)
      · replace h := zf hc h
        refine lv_iconst (v := 0) hx hb dX5_fitsFirst_149 (by decide) ?_
        cases h
        exact z_zret hx hb hr hlk rfl hP hS dX5_fitsFirst_150
      · replace h := zt hc h
        refine lv_lload hx hb dX5_fitsFirst_137 (lv_at hl 4 rfl) ?_
        refine lv_lload hx hb dX5_fitsFirst_139 (lv_at hl 2 rfl) ?_
        refine W.lcmp hx hb dX5_fitsFirst_141 ?_
        refine lv_if_ne (tgt := 149) hx hb dX5_fitsFirst_142 (by decide) (fun hc => ?_) (fun hc => ?_)
        · replace h := zf hc h
          refine lv_iconst (v := 0) hx hb dX5_fitsFirst_149 (by decide) ?_
          cases h
          exact z_zret hx hb hr hlk rfl hP hS dX5_fitsFirst_150
        · replace h := zt hc h
          refine lv_iconst (v := 1) hx hb dX5_fitsFirst_145 (by decide) ?_
          refine lv_goto (tgt := 150) hx hb dX5_fitsFirst_146 (by decide) ?_
          cases h
          exact z_zret hx hb hr hlk rfl hP hS dX5_fitsFirst_150
    · replace h := zf hc h
      refine lv_aload_n hx hb dX5_fitsFirst_63 rfl (lv_at hl 0 rfl) ?_
      refine lv_aload_n hx hb dX5_fitsFirst_64 rfl (lv_at hl 0 rfl) ?_
      refine rR_1 hx hb hwX5 hown hK hP 0 (xR) rfl rfl (hts _ (List.mem_of_getElem? (i := 1) rfl)) dX5_fitsFirst_65 ?_
      refine lv_iconst (v := 1) hx hb dX5_fitsFirst_68 (by decide) ?_
      refine lv_isub hx hb dX5_fitsFirst_69 ?_
      refine lv_iload hx hb dX5_fitsFirst_70 (lv_at hl 5 rfl) ?_
      refine lv_isub hx hb dX5_fitsFirst_72 ?_
      obtain ⟨r_1, hg, h⟩ := zb1_e h
      refine z_callV (As := [.int ((((gI uR 1) - (1 : Int32)) - l12))]) (rest := []) (i := 0) ⟨hx, hb, hml, hown, hts⟩ (mX5_isSecond l G (xR) hg) (cwV 1 hts gX5_fitsFirst_X5_isSecond rfl rfl rfl kvX5_isSecond ⟨Nat.le_of_ble_eq_true rfl, Nat.le_of_ble_eq_true rfl⟩) rfl hP hD hK hN hS (Nat.le_refl _) [0] rfl rfl rfl rfl 0 rfl rfl rfl rfl rfl hl.1 rfl (Nat.le_of_ble_eq_true rfl) dX5_fitsFirst_73 ⟨Nat.zero_le _, Nat.zero_le _⟩ (fun H locs hP hS => ?_)
      replace hP : zP G [shR G xR] [uR] H := hP
      refine lv_if_eq (tgt := 110) hx hb dX5_fitsFirst_76 (by decide) (fun hc => ?_) (fun hc => ?_)
      · replace h := zt hc h
        refine lv_lload hx hb dX5_fitsFirst_110 (lv_at hl 4 rfl) ?_
        refine lv_aload_n hx hb dX5_fitsFirst_112 rfl (lv_at hl 0 rfl) ?_
        refine rR_0 hx hb hwX5 hown hK hP 0 (xR) rfl rfl (hts _ (List.mem_of_getElem? (i := 3) rfl)) dX5_fitsFirst_113 ?_
        refine lv_iload hx hb dX5_fitsFirst_116 (lv_at hl 5 rfl) ?_
        obtain ⟨hi, h⟩ := zin_e h
        refine aR_0 hx hb hK hP 0 (xR) rfl rfl hi rfl dX5_fitsFirst_118 ?_
        obtain ⟨r_2, hg, h⟩ := zb1_e h
        refine z_callS (As := [.long l10, .long ((gL uR 0 l12.toNatClampNeg))]) (rest := []) ⟨hx, hb, hml, hown, hts⟩ (mX2_ofParts l G  hg) (va_cwS 2 hts gX5_fitsFirst_X2_ofParts rfl rfl rfl ksX2_ofParts ⟨Nat.le_of_ble_eq_true rfl, Nat.le_of_ble_eq_true rfl⟩) hP hD hK hN hS (Nat.le_refl _) [] rfl rfl rfl rfl rfl hl.1 rfl (Nat.le_of_ble_eq_true rfl) dX5_fitsFirst_119 ⟨Nat.zero_le _, Nat.zero_le _⟩ (fun H locs hP hS => ?_)
        replace hP : zP G [shR G xR] [uR] H := hP
        refine lv_lstore (lv' := [(10, .long r_2), (0, .ref (xR 0)), (3, .long l3), (5, .long l5), (8, .long l8), (12, .int l12)]) hx hb dX5_fitsFirst_122 hl (by decide) rfl (fun ls hl => ?_)
        exact tX5_fitsFirst_124 C0 hK hN hD K54 _ _ _ _ _ _ h _ _ hP hS _ (lv_sub hl [1, 2, 3, 4, 0, 5] rfl)
      · replace h := zf hc h
        refine lv_aload_n hx hb dX5_fitsFirst_79 rfl (lv_at hl 0 rfl) ?_
        refine rR_0 hx hb hwX5 hown hK hP 0 (xR) rfl rfl (hts _ (List.mem_of_getElem? (i := 3) rfl)) dX5_fitsFirst_80 ?_
        refine lv_iload hx hb dX5_fitsFirst_83 (lv_at hl 5 rfl) ?_
        obtain ⟨hi, h⟩ := zin_e h
        refine aR_0 hx hb hK hP 0 (xR) rfl rfl hi rfl dX5_fitsFirst_85 ?_
        refine lv_lload hx hb dX5_fitsFirst_86 (lv_at hl 3 rfl) ?_
        obtain ⟨r_3, hg, h⟩ := zb1_e h
        refine z_callS (As := [.long ((gL uR 0 l12.toNatClampNeg)), .long l8]) (rest := []) ⟨hx, hb, hml, hown, hts⟩ (mX2_ofParts l G  hg) (va_cwS 2 hts gX5_fitsFirst_X2_ofParts rfl rfl rfl ksX2_ofParts ⟨Nat.le_of_ble_eq_true rfl, Nat.le_of_ble_eq_true rfl⟩) hP hD hK hN hS (Nat.le_refl _) [] rfl rfl rfl rfl rfl hl.1 rfl (Nat.le_of_ble_eq_true rfl) dX5_fitsFirst_88 ⟨Nat.zero_le _, Nat.zero_le _⟩ (fun H locs hP hS => ?_)
        replace hP : zP G [shR G xR] [uR] H := hP
        refine lv_lstore (lv' := [(8, .long r_3), (0, .ref (xR 0)), (3, .long l3), (5, .long l5), (10, .long l10), (12, .int l12)]) hx hb dX5_fitsFirst_91 hl (by decide) rfl (fun ls hl => ?_)
        refine lv_aload_n hx hb dX5_fitsFirst_93 rfl (lv_at hl 1 rfl) ?_
        refine rR_0 hx hb hwX5 hown hK hP 0 (xR) rfl rfl (hts _ (List.mem_of_getElem? (i := 3) rfl)) dX5_fitsFirst_94 ?_
        refine lv_iload hx hb dX5_fitsFirst_97 (lv_at hl 5 rfl) ?_
        obtain ⟨hi, h⟩ := zin_e h
        refine aR_0 hx hb hK hP 0 (xR) rfl rfl hi rfl dX5_fitsFirst_99 ?_
        refine lv_lload hx hb dX5_fitsFirst_100 (lv_at hl 4 rfl) ?_
        obtain ⟨r_4, hg, h⟩ := zb1_e h
        refine z_callS (As := [.long ((gL uR 0 l12.toNatClampNeg)), .long l10]) (rest := []) ⟨hx, hb, hml, hown, hts⟩ (mX2_ofParts l G  hg) (va_cwS 2 hts gX5_fitsFirst_X2_ofParts rfl rfl rfl ksX2_ofParts ⟨Nat.le_of_ble_eq_true rfl, Nat.le_of_ble_eq_true rfl⟩) hP hD hK hN hS (Nat.le_refl _) [] rfl rfl rfl rfl rfl hl.1 rfl (Nat.le_of_ble_eq_true rfl) dX5_fitsFirst_102 ⟨Nat.zero_le _, Nat.zero_le _⟩ (fun H locs hP hS => ?_)
        replace hP : zP G [shR G xR] [uR] H := hP
        refine lv_lstore (lv' := [(10, .long r_4), (8, .long r_3), (0, .ref (xR 0)), (3, .long l3), (5, .long l5), (12, .int l12)]) hx hb dX5_fitsFirst_105 hl (by decide) rfl (fun ls hl => ?_)
        refine lv_goto (tgt := 124) hx hb dX5_fitsFirst_107 (by decide) ?_
        exact tX5_fitsFirst_124 C0 hK hN hD K54 _ _ _ _ _ _ h _ _ hP hS _ (lv_sub hl [2, 3, 4, 1, 0, 5] rfl)
set_option maxRecDepth 20000 in
theorem tX5_fitsFirst_44 (C0 : zCtx p s m args meth c cX5_fitsFirst RX5 wsX5_fitsFirst 13 (some .boolean)) (hK : zK G s) (hN : zN s) (hD : zD [shR G xR])  : ∀ (uR : zSt) (l3 : Int64) (l5 : Int64) (l7 : Int32) (s0 : Int64), bX5_fitsFirst_44  uR l3 l5 l7 s0 = some (rr, vR) → ∀ (H : Heap) (locs : List Loc), zP G [shR G xR] [uR] H → va_S (zA [shR G xR] s.heap.size) s.heap H locs → ∀ ls : Array Slot, lv_has ls 13 [(0, .ref (xR 0)), (3, .long l3), (5, .long l5), (7, .int l7)] → W p l e rmX5_fitsFirst s m args below meth c H locs 0 0 (MQ below (zQ G [shR G xR] [vR] (zA [shR G xR] s.heap.size) (some (.int rr))) args s 0 0 (zA [shR G xR] s.heap.size)) (F0 m 44 ls [.long s0]) := by
  obtain ⟨hx, hb, hr, hml, hown, hts, hlk⟩ := id C0
  intro uR l3 l5 l7 s0 h H locs hP hS ls hl
  unfold bX5_fitsFirst_44 at h
  refine lv_lstore (lv' := [(8, .long s0), (0, .ref (xR 0)), (3, .long l3), (5, .long l5), (7, .int l7)]) hx hb dX5_fitsFirst_44 hl (by decide) rfl (fun ls hl => ?_)
  refine lv_lload hx hb dX5_fitsFirst_46 (lv_at hl 0 rfl) ?_
  refine lv_lstore (lv' := [(10, .long s0), (8, .long s0), (0, .ref (xR 0)), (3, .long l3), (5, .long l5), (7, .int l7)]) hx hb dX5_fitsFirst_48 hl (by decide) rfl (fun ls hl => ?_)
  refine lv_iload hx hb dX5_fitsFirst_50 (lv_at hl 5 rfl) ?_
  refine lv_istore (lv' := [(12, .int l7), (10, .long s0), (8, .long s0), (0, .ref (xR 0)), (3, .long l3), (5, .long l5), (7, .int l7)]) hx hb dX5_fitsFirst_52 hl (by decide) rfl (fun ls hl => ?_)
  exact tlX5_fitsFirst_54 C0 hK hN hD  1000 _ _ _ _ _ _ h _ _ hP hS _ (lv_sub hl [3, 4, 5, 2, 1, 0] rfl)
set_option maxRecDepth 20000 in
theorem mX5_fitsFirst (l : Launch) (G : zG) (xR : Nat → Nat) {uR : zSt} {l1 : Int32} {l2 : Int32} {l3 : Int64} {l5 : Int64} {rr : Int32} {vR : zSt} (h : fX5_fitsFirst uR l1 l2 l3 l5 = some (rr, vR)) : zC l yX5_fitsFirst wsX5_fitsFirst rmX5_fitsFirst [.ref (xR 0), .int l1, .int l2, .long l3, .long l5] G [shR G xR] [uR] [vR] (some (.int rr)) := by
  refine z_ofW (cc := cX5_fitsFirst) (maxL := 13) (ret := some .boolean) (by decide) rfl (Nat.le_of_ble_eq_true rfl) ?_
  intro p e s m args below meth c C0 hK hN hD hP ls hl
  obtain ⟨hx, hb, hr, hml, hown, hts, hlk⟩ := id C0
  have hS : va_S (zA [shR G xR] s.heap.size) s.heap s.heap [] := va_S.rf
  replace hl : lv_has ls 13 [(0, .ref (xR 0)), (1, .int l1), (2, .int l2), (3, .long l3), (5, .long l5)] := hl
  have hwX5 : ∀ w ∈ wsX50, w.before args s = true := fun w h => hts w (List.mem_cons_of_mem _ (List.mem_append_right _ h))
  unfold fX5_fitsFirst at h
  refine lv_aload_n hx hb dX5_fitsFirst_0 rfl (lv_at hl 0 rfl) ?_
  refine lv_iload_n hx hb dX5_fitsFirst_1 rfl (lv_at hl 1 rfl) ?_
  refine lv_iload_n hx hb dX5_fitsFirst_2 rfl (lv_at hl 2 rfl) ?_
  obtain ⟨uR_5, hg, h⟩ := zb1_e h
  refine z_callV (As := [.int l1, .int l2]) (rest := []) (i := 0) ⟨hx, hb, hml, hown, hts⟩ (mX5_goToFirst l G (xR) hg) (cwV 2 hts gX5_fitsFirst_X5_goToFirst rfl rfl rfl kvX5_goToFirst ⟨Nat.le_of_ble_eq_true rfl, Nat.le_of_ble_eq_true rfl⟩) rfl hP hD hK hN hS (Nat.le_refl _) [0] rfl rfl rfl rfl 0 rfl rfl rfl rfl rfl hl.1 rfl (Nat.le_of_ble_eq_true rfl) dX5_fitsFirst_3 ⟨Nat.zero_le _, Nat.zero_le _⟩ (fun H locs hP hS => ?_)
  replace hP : zP G [shR G xR] [uR_5] H := hP
  refine lv_aload_n hx hb dX5_fitsFirst_6 rfl (lv_at hl 0 rfl) ?_
  obtain ⟨r_6, hg, h⟩ := zb1_e h
  refine z_callV (As := []) (rest := []) (i := 0) ⟨hx, hb, hml, hown, hts⟩ (mX5_digestsBelow l G (xR) hg) (cwV 0 hts gX5_fitsFirst_X5_digestsBelow rfl rfl rfl kvX5_digestsBelow ⟨Nat.le_of_ble_eq_true rfl, Nat.le_of_ble_eq_true rfl⟩) rfl hP hD hK hN hS (Nat.le_refl _) [0] rfl rfl rfl rfl 0 rfl rfl rfl rfl rfl hl.1 rfl (Nat.le_of_ble_eq_true rfl) dX5_fitsFirst_7 ⟨Nat.zero_le _, Nat.zero_le _⟩ (fun H locs hP hS => ?_)
  replace hP : zP G [shR G xR] [uR_5] H := hP
  refine lv_istore (lv' := [(7, .int r_6), (0, .ref (xR 0)), (1, .int l1), (2, .int l2), (3, .long l3), (5, .long l5)]) hx hb dX5_fitsFirst_10 hl (by decide) rfl (fun ls hl => ?_)
  refine lv_aload_n hx hb dX5_fitsFirst_12 rfl (lv_at hl 1 rfl) ?_
  refine rR_1 hx hb hwX5 hown hK hP 0 (xR) rfl rfl (hts _ (List.mem_of_getElem? (i := 1) rfl)) dX5_fitsFirst_13 ?_
  refine lv_aload_n hx hb dX5_fitsFirst_16 rfl (lv_at hl 1 rfl) ?_
  refine rR_2 hx hb hwX5 hown hK hP 0 (xR) rfl rfl (hts _ (List.mem_of_getElem? (i := 2) rfl)) dX5_fitsFirst_17 ?_
  refine lv_iload hx hb dX5_fitsFirst_20 (lv_at hl 0 rfl) ?_
  refine lv_iadd hx hb dX5_fitsFirst_22 ?_
  refine lv_icmp_eq (tgt := 28) hx hb dX5_fitsFirst_23 (by decide) (fun hc => ?_) (fun hc => ?_)
  · replace h := zt hc h
    refine lv_iload hx hb dX5_fitsFirst_28 (lv_at hl 0 rfl) ?_
    refine lv_iconst (v := 1) hx hb dX5_fitsFirst_30 (by decide) ?_
    refine lv_icmp_ne (tgt := 43) hx hb dX5_fitsFirst_31 (by decide) (fun hc => ?_) (fun hc => ?_)
    · replace h := zf hc h
      refine lv_lload_n hx hb dX5_fitsFirst_43 rfl (lv_at hl 4 rfl) ?_
      exact tX5_fitsFirst_44 C0 hK hN hD  _ _ _ _ _ h _ _ hP hS _ (lv_sub hl [1, 4, 5, 0] rfl)
    · replace h := zt hc h
      refine lv_aload_n hx hb dX5_fitsFirst_34 rfl (lv_at hl 1 rfl) ?_
      refine rR_0 hx hb hwX5 hown hK hP 0 (xR) rfl rfl (hts _ (List.mem_of_getElem? (i := 3) rfl)) dX5_fitsFirst_35 ?_
      refine lv_iconst (v := 0) hx hb dX5_fitsFirst_38 (by decide) ?_
      refine aR_0 hx hb hK hP 0 (xR) rfl rfl (zvi tn_0 n0_0 (by decide)) tn_0 dX5_fitsFirst_39 ?_
      refine lv_goto (tgt := 44) hx hb dX5_fitsFirst_40 (by decide) ?_
      exact tX5_fitsFirst_44 C0 hK hN hD  _ _ _ _ _ h _ _ hP hS _ (lv_sub hl [1, 4, 5, 0] rfl)
  · replace h := zf hc h
    refine lv_iconst (v := 0) hx hb dX5_fitsFirst_26 (by decide) ?_
    cases h
    exact z_zret hx hb hr hlk rfl hP hS dX5_fitsFirst_27
end
def rmX6_continues : Room := { frames := 3, cells := 0, slots := 0, locals := 80 }
theorem kvX6_continues : yX6_continues.cls = RX6 ∧ yX6_continues.cls ≠ "java/lang/invoke/MethodHandle" ∧ yX6_continues.cls ≠ "java/lang/invoke/VarHandle" ∧ (parseMethodDescriptor yX6_continues.desc).map (fun d => d.parameters.length) = some 4 := by decide +kernel
section
variable {p : Program} {l : Launch} {e : Env} {s : State} {m : MethodId} {args : Array Value} {below : List Frame} {meth : Method} {c : Code} {G : zG} {xO : Nat → Nat} {rr : Int32} {vR : zSt}
set_option maxRecDepth 20000 in
theorem mX6_continues (l : Launch) (G : zG) (xO : Nat → Nat) {uO : zSt} {uR : zSt} {l1 : Int32} {l2 : Int32} {l3 : Int64} {l5 : Int64} {rr : Int32} {vR : zSt} (h : fX6_continues uO uR l1 l2 l3 l5 = some (rr, vR)) : zC l yX6_continues wsX6_continues rmX6_continues [.ref (xO 0), .int l1, .int l2, .long l3, .long l5] G [shO G xO, shR G (ad 34 xO)] [uO, uR] [uO, vR] (some (.int rr)) := by
  refine z_ofW (cc := cX6_continues) (maxL := 7) (ret := some .boolean) (by decide) rfl (Nat.le_of_ble_eq_true rfl) ?_
  intro p e s m args below meth c C0 hK hN hD hP ls hl
  obtain ⟨hx, hb, hr, hml, hown, hts, hlk⟩ := id C0
  have hS : va_S (zA [shO G xO, shR G (ad 34 xO)] s.heap.size) s.heap s.heap [] := va_S.rf
  replace hl : lv_has ls 7 [(0, .ref (xO 0)), (1, .int l1), (2, .int l2), (3, .long l3), (5, .long l5)] := hl
  have hwX6 : ∀ w ∈ wsX60, w.before args s = true := fun w h => hts w (List.mem_cons_of_mem _ (List.mem_append_left _ (List.mem_append_right _ h)))
  unfold fX6_continues at h
  refine lv_iload_n hx hb dX6_continues_0 rfl (lv_at hl 1 rfl) ?_
  refine lv_iconst (v := 1) hx hb dX6_continues_1 (by decide) ?_
  refine lv_icmp_lt (tgt := 29) hx hb dX6_continues_2 (by decide) (fun hc => ?_) (fun hc => ?_)
  · replace h := zt hc h
    refine lv_iconst (v := 0) hx hb dX6_continues_29 (by decide) ?_
    cases h
    exact z_zret hx hb hr hlk rfl hP hS dX6_continues_30
  · replace h := zf hc h
    refine lv_iload_n hx hb dX6_continues_5 rfl (lv_at hl 1 rfl) ?_
    refine lv_iload_n hx hb dX6_continues_6 rfl (lv_at hl 2 rfl) ?_
    refine lv_icmp_gt (tgt := 29) hx hb dX6_continues_7 (by decide) (fun hc => ?_) (fun hc => ?_)
    · replace h := zt hc h
      refine lv_iconst (v := 0) hx hb dX6_continues_29 (by decide) ?_
      cases h
      exact z_zret hx hb hr hlk rfl hP hS dX6_continues_30
    · replace h := zf hc h
      refine lv_aload_n hx hb dX6_continues_10 rfl (lv_at hl 0 rfl) ?_
      refine rO_3 hx hb hwX6 hown hK hP 0 (xO) rfl rfl (hts _ (List.mem_of_getElem? (i := 1) rfl)) dX6_continues_11 ?_
      refine lv_iload_n hx hb dX6_continues_14 rfl (lv_at hl 1 rfl) ?_
      refine lv_iload_n hx hb dX6_continues_15 rfl (lv_at hl 2 rfl) ?_
      refine lv_lload_n hx hb dX6_continues_16 rfl (lv_at hl 3 rfl) ?_
      refine lv_lload hx hb dX6_continues_17 (lv_at hl 4 rfl) ?_
      obtain ⟨r_1, uR_2, hg, h⟩ := zb2_e h
      refine z_callV (As := [.int l1, .int l2, .long l3, .long l5]) (rest := []) (i := 0) ⟨hx, hb, hml, hown, hts⟩ (mX5_fitsFirst l G (ad 34 xO) hg) (cwV 4 hts gX6_continues_X5_fitsFirst rfl rfl rfl kvX5_fitsFirst ⟨Nat.le_of_ble_eq_true rfl, Nat.le_of_ble_eq_true rfl⟩) rfl hP hD hK hN hS (Nat.le_refl _) [1] rfl rfl rfl rfl 1 rfl rfl rfl rfl rfl hl.1 rfl (Nat.le_of_ble_eq_true rfl) dX6_continues_19 ⟨Nat.zero_le _, Nat.zero_le _⟩ (fun H locs hP hS => ?_)
      replace hP : zP G [shO G xO, shR G (ad 34 xO)] [uO, uR_2] H := hP
      refine lv_if_eq (tgt := 29) hx hb dX6_continues_22 (by decide) (fun hc => ?_) (fun hc => ?_)
      · replace h := zt hc h
        refine lv_iconst (v := 0) hx hb dX6_continues_29 (by decide) ?_
        cases h
        exact z_zret hx hb hr hlk rfl hP hS dX6_continues_30
      · replace h := zf hc h
        refine lv_iconst (v := 1) hx hb dX6_continues_25 (by decide) ?_
        refine lv_goto (tgt := 30) hx hb dX6_continues_26 (by decide) ?_
        cases h
        exact z_zret hx hb hr hlk rfl hP hS dX6_continues_30
end
def rmX7_thrown : Room := { frames := 0, cells := 0, slots := 0, locals := 0 }
theorem kvX7_thrown : yX7_thrown.cls = RX7 ∧ yX7_thrown.cls ≠ "java/lang/invoke/MethodHandle" ∧ yX7_thrown.cls ≠ "java/lang/invoke/VarHandle" ∧ (parseMethodDescriptor yX7_thrown.desc).map (fun d => d.parameters.length) = some 0 := by decide +kernel
section
variable {p : Program} {l : Launch} {e : Env} {s : State} {m : MethodId} {args : Array Value} {below : List Frame} {meth : Method} {c : Code} {G : zG} {xM : Nat → Nat} {rr : Int32}
set_option maxRecDepth 20000 in
theorem mX7_thrown (l : Launch) (G : zG) (xM : Nat → Nat) {uM : zSt} {rr : Int32} (h : fX7_thrown uM = some rr) : zC l yX7_thrown wsX7_thrown rmX7_thrown [.ref (xM 0)] G [shM G xM] [uM] [uM] (some (.int rr)) := by
  refine z_ofW (cc := cX7_thrown) (maxL := 1) (ret := some .int) (by decide) rfl (Nat.le_of_ble_eq_true rfl) ?_
  intro p e s m args below meth c C0 hK hN hD hP ls hl
  obtain ⟨hx, hb, hr, hml, hown, hts, hlk⟩ := id C0
  have hS : va_S (zA [shM G xM] s.heap.size) s.heap s.heap [] := va_S.rf
  replace hl : lv_has ls 1 [(0, .ref (xM 0))] := hl
  have hwX7 : ∀ w ∈ wsX70, w.before args s = true := fun w h => hts w (List.mem_cons_of_mem _ (List.mem_append_right _ h))
  unfold fX7_thrown at h
  refine lv_aload_n hx hb dX7_thrown_0 rfl (lv_at hl 0 rfl) ?_
  refine rM_0 hx hb hwX7 hown hK hP 0 (xM) rfl rfl (hts _ (List.mem_of_getElem? (i := 1) rfl)) dX7_thrown_1 ?_
  cases h
  exact z_iret hx hb hr hlk hP hS dX7_thrown_4
end
def rmX7_power : Room := { frames := 0, cells := 0, slots := 0, locals := 0 }
theorem ksX7_power : yX7_power.cls ≠ "java/lang/invoke/MethodHandle" ∧ yX7_power.cls ≠ "java/lang/invoke/VarHandle" ∧ (parseMethodDescriptor yX7_power.desc).map (fun d => d.parameters.length) = some 2 := by decide +kernel
section
variable {p : Program} {l : Launch} {e : Env} {s : State} {m : MethodId} {args : Array Value} {below : List Frame} {meth : Method} {c : Code} {G : zG}  {rr : Int32}
set_option maxRecDepth 20000 in
theorem tX7_power_34 (C0 : zCtx p s m args meth c cX7_power RX7 wsX7_power 7 (some .int)) (hK : zK G s) (hN : zN s) (hD : zD []) {k9 : Int64 → Int64 → Int32 → Option (Int32)} (K9 : ∀ (l2 : Int64) (l4 : Int64) (l6 : Int32), k9 l2 l4 l6 = some rr → ∀ (H : Heap) (locs : List Loc), zP G [] [] H → va_S (zA [] s.heap.size) s.heap H locs → ∀ ls : Array Slot, lv_has ls 7 [(2, .long l2), (4, .long l4), (6, .int l6)] → W p l e rmX7_power s m args below meth c H locs 0 0 (MQ below (zQ G [] [] (zA [] s.heap.size) (some (.int rr))) args s 0 0 (zA [] s.heap.size)) (F0 m 9 ls [])) : ∀ (l4 : Int64) (l6 : Int32) (s0 : Int64), bX7_power_34 k9 l4 l6 s0 = some rr → ∀ (H : Heap) (locs : List Loc), zP G [] [] H → va_S (zA [] s.heap.size) s.heap H locs → ∀ ls : Array Slot, lv_has ls 7 [(4, .long l4), (6, .int l6)] → W p l e rmX7_power s m args below meth c H locs 0 0 (MQ below (zQ G [] [] (zA [] s.heap.size) (some (.int rr))) args s 0 0 (zA [] s.heap.size)) (F0 m 34 ls [.long s0]) := by
  obtain ⟨hx, hb, hr, hml, hown, hts, hlk⟩ := id C0
  intro l4 l6 s0 h H locs hP hS ls hl
  unfold bX7_power_34 at h
  refine lv_lstore_n (lv' := [(2, .long s0), (4, .long l4), (6, .int l6)]) hx hb dX7_power_34 rfl hl (by decide) rfl (fun ls hl => ?_)
  refine lv_lload hx hb dX7_power_35 (lv_at hl 1 rfl) ?_
  refine lv_lload hx hb dX7_power_37 (lv_at hl 1 rfl) ?_
  refine lv_lmul hx hb dX7_power_39 ?_
  refine lv_ldc2 (v := (4079)) hx hb hown (hts _ (List.mem_of_getElem? (i := 1) rfl)) dX7_power_40 ?_
  refine lv_lrem hx hb dX7_power_43 (by decide) ?_
  refine lv_lstore (lv' := [(4, .long (((l4 * l4) - (l4 * l4) / (4079 : Int64) * (4079 : Int64)))), (2, .long s0), (6, .int l6)]) hx hb dX7_power_44 hl (by decide) rfl (fun ls hl => ?_)
  refine lv_iload hx hb dX7_power_46 (lv_at hl 2 rfl) ?_
  refine lv_iconst (v := 2) hx hb dX7_power_48 (by decide) ?_
  refine lv_idiv hx hb dX7_power_49 (by decide) ?_
  refine lv_istore (lv' := [(6, .int ((l6 / (2 : Int32)))), (4, .long (((l4 * l4) - (l4 * l4) / (4079 : Int64) * (4079 : Int64)))), (2, .long s0)]) hx hb dX7_power_50 hl (by decide) rfl (fun ls hl => ?_)
  refine lv_goto (tgt := 9) hx hb dX7_power_52 (by decide) ?_
  exact K9 _ _ _ h _ _ hP hS _ (lv_sub hl [2, 1, 0] rfl)
set_option maxRecDepth 20000 in
theorem tlX7_power_9 (C0 : zCtx p s m args meth c cX7_power RX7 wsX7_power 7 (some .int)) (hK : zK G s) (hN : zN s) (hD : zD [])  : ∀ (n : Nat), ∀ (l2 : Int64) (l4 : Int64) (l6 : Int32), lX7_power_9  n l2 l4 l6 = some rr → ∀ (H : Heap) (locs : List Loc), zP G [] [] H → va_S (zA [] s.heap.size) s.heap H locs → ∀ ls : Array Slot, lv_has ls 7 [(2, .long l2), (4, .long l4), (6, .int l6)] → W p l e rmX7_power s m args below meth c H locs 0 0 (MQ below (zQ G [] [] (zA [] s.heap.size) (some (.int rr))) args s 0 0 (zA [] s.heap.size)) (F0 m 9 ls []) := by
  obtain ⟨hx, hb, hr, hml, hown, hts, hlk⟩ := id C0
  intro n
  induction n with
  | zero => intro l2 l4 l6 h; exact absurd h (fun q => nomatch q)
  | succ n K9 =>
    intro l2 l4 l6 h H locs hP hS ls hl
    replace h : bX7_power_9  (lX7_power_9  n) l2 l4 l6 = some rr := h
    unfold bX7_power_9 at h
    refine lv_iload hx hb dX7_power_9 (lv_at hl 2 rfl) ?_
    refine lv_if_le (tgt := 55) hx hb dX7_power_11 (by decide) (fun hc => ?_) (fun hc => ?_)
    · replace h := zt hc h
      refine lv_lload_n hx hb dX7_power_55 rfl (lv_at hl 0 rfl) ?_
      refine lv_l2i (v := l2.toInt32) hx hb dX7_power_56 rfl ?_
      cases h
      exact z_iret hx hb hr hlk hP hS dX7_power_57
    · replace h := zf hc h
      refine lv_iload hx hb dX7_power_14 (lv_at hl 2 rfl) ?_
      refine lv_iconst (v := 2) hx hb dX7_power_16 (by decide) ?_
      refine lv_irem hx hb dX7_power_17 (by decide) ?_
      refine lv_iconst (v := 1) hx hb dX7_power_18 (by decide) ?_
      refine lv_icmp_ne (tgt := 33) hx hb dX7_power_19 (by decide) (fun hc => ?_) (fun hc => ?_)
      · replace h := zf hc h
        refine lv_lload_n hx hb dX7_power_33 rfl (lv_at hl 0 rfl) ?_
        exact tX7_power_34 C0 hK hN hD K9 _ _ _ h _ _ hP hS _ (lv_sub hl [1, 2] rfl)
      · replace h := zt hc h
        refine lv_lload_n hx hb dX7_power_22 rfl (lv_at hl 0 rfl) ?_
        refine lv_lload hx hb dX7_power_23 (lv_at hl 1 rfl) ?_
        refine lv_lmul hx hb dX7_power_25 ?_
        refine lv_ldc2 (v := (4079)) hx hb hown (hts _ (List.mem_of_getElem? (i := 1) rfl)) dX7_power_26 ?_
        refine lv_lrem hx hb dX7_power_29 (by decide) ?_
        refine lv_goto (tgt := 34) hx hb dX7_power_30 (by decide) ?_
        exact tX7_power_34 C0 hK hN hD K9 _ _ _ h _ _ hP hS _ (lv_sub hl [1, 2] rfl)
set_option maxRecDepth 20000 in
theorem mX7_power (l : Launch) (G : zG)  {l0 : Int32} {l1 : Int32} {rr : Int32} (h : fX7_power l0 l1 = some rr) : zC l yX7_power wsX7_power rmX7_power [.int l0, .int l1] G [] [] [] (some (.int rr)) := by
  refine z_ofW (cc := cX7_power) (maxL := 7) (ret := some .int) (by decide) rfl (Nat.le_of_ble_eq_true rfl) ?_
  intro p e s m args below meth c C0 hK hN hD hP ls hl
  obtain ⟨hx, hb, hr, hml, hown, hts, hlk⟩ := id C0
  have hS : va_S (zA [] s.heap.size) s.heap s.heap [] := va_S.rf
  replace hl : lv_has ls 7 [(0, .int l0), (1, .int l1)] := hl
  unfold fX7_power at h
  refine lv_lconst (v := 1) hx hb dX7_power_0 rfl ?_
  refine lv_lstore_n (lv' := [(2, .long ((1 : Int64))), (0, .int l0), (1, .int l1)]) hx hb dX7_power_1 rfl hl (by decide) rfl (fun ls hl => ?_)
  refine lv_iload_n hx hb dX7_power_2 rfl (lv_at hl 1 rfl) ?_
  refine lv_i2l (v := l0.toInt64) hx hb dX7_power_3 rfl ?_
  refine lv_lstore (lv' := [(4, .long ((l0.toInt64))), (2, .long ((1 : Int64))), (0, .int l0), (1, .int l1)]) hx hb dX7_power_4 hl (by decide) rfl (fun ls hl => ?_)
  refine lv_iload_n hx hb dX7_power_6 rfl (lv_at hl 3 rfl) ?_
  refine lv_istore (lv' := [(6, .int l1), (4, .long ((l0.toInt64))), (2, .long ((1 : Int64))), (0, .int l0), (1, .int l1)]) hx hb dX7_power_7 hl (by decide) rfl (fun ls hl => ?_)
  exact tlX7_power_9 C0 hK hN hD  1000 _ _ _ h _ _ hP hS _ (lv_sub hl [2, 1, 0] rfl)
end
def rmX7_times : Room := { frames := 0, cells := 0, slots := 0, locals := 0 }
theorem ksX7_times : yX7_times.cls ≠ "java/lang/invoke/MethodHandle" ∧ yX7_times.cls ≠ "java/lang/invoke/VarHandle" ∧ (parseMethodDescriptor yX7_times.desc).map (fun d => d.parameters.length) = some 2 := by decide +kernel
section
variable {p : Program} {l : Launch} {e : Env} {s : State} {m : MethodId} {args : Array Value} {below : List Frame} {meth : Method} {c : Code} {G : zG}  {rr : Int32}
set_option maxRecDepth 20000 in
theorem mX7_times (l : Launch) (G : zG)  {l0 : Int32} {l1 : Int32} {rr : Int32} (h : fX7_times l0 l1 = some rr) : zC l yX7_times wsX7_times rmX7_times [.int l0, .int l1] G [] [] [] (some (.int rr)) := by
  refine z_ofW (cc := cX7_times) (maxL := 2) (ret := some .int) (by decide) rfl (Nat.le_of_ble_eq_true rfl) ?_
  intro p e s m args below meth c C0 hK hN hD hP ls hl
  obtain ⟨hx, hb, hr, hml, hown, hts, hlk⟩ := id C0
  have hS : va_S (zA [] s.heap.size) s.heap s.heap [] := va_S.rf
  replace hl : lv_has ls 2 [(0, .int l0), (1, .int l1)] := hl
  unfold fX7_times at h
  refine lv_iload_n hx hb dX7_times_0 rfl (lv_at hl 0 rfl) ?_
  refine lv_i2l (v := l0.toInt64) hx hb dX7_times_1 rfl ?_
  refine lv_iload_n hx hb dX7_times_2 rfl (lv_at hl 1 rfl) ?_
  refine lv_i2l (v := l1.toInt64) hx hb dX7_times_3 rfl ?_
  refine lv_lmul hx hb dX7_times_4 ?_
  refine lv_ldc2 (v := (4079)) hx hb hown (hts _ (List.mem_of_getElem? (i := 1) rfl)) dX7_times_5 ?_
  refine lv_lrem hx hb dX7_times_8 (by decide) ?_
  refine lv_l2i (v := (((l0.toInt64) * (l1.toInt64)) - ((l0.toInt64) * (l1.toInt64)) / (4079 : Int64) * (4079 : Int64)).toInt32) hx hb dX7_times_9 rfl ?_
  cases h
  exact z_iret hx hb hr hlk hP hS dX7_times_10
end
def rmX7_isElement : Room := { frames := 1, cells := 0, slots := 0, locals := 26 }
theorem ksX7_isElement : yX7_isElement.cls ≠ "java/lang/invoke/MethodHandle" ∧ yX7_isElement.cls ≠ "java/lang/invoke/VarHandle" ∧ (parseMethodDescriptor yX7_isElement.desc).map (fun d => d.parameters.length) = some 1 := by decide +kernel
section
variable {p : Program} {l : Launch} {e : Env} {s : State} {m : MethodId} {args : Array Value} {below : List Frame} {meth : Method} {c : Code} {G : zG}  {rr : Int32}
set_option maxRecDepth 20000 in
theorem mX7_isElement (l : Launch) (G : zG)  {l0 : Int32} {rr : Int32} (h : fX7_isElement l0 = some rr) : zC l yX7_isElement wsX7_isElement rmX7_isElement [.int l0] G [] [] [] (some (.int rr)) := by
  refine z_ofW (cc := cX7_isElement) (maxL := 1) (ret := some .boolean) (by decide) rfl (Nat.le_of_ble_eq_true rfl) ?_
  intro p e s m args below meth c C0 hK hN hD hP ls hl
  obtain ⟨hx, hb, hr, hml, hown, hts, hlk⟩ := id C0
  have hS : va_S (zA [] s.heap.size) s.heap s.heap [] := va_S.rf
  replace hl : lv_has ls 1 [(0, .int l0)] := hl
  unfold fX7_isElement at h
  refine lv_iload_n hx hb dX7_isElement_0 rfl (lv_at hl 0 rfl) ?_
  refine lv_if_le (tgt := 26) hx hb dX7_isElement_1 (by decide) (fun hc => ?_) (fun hc => ?_)
  · replace h := zt hc h
    refine lv_iconst (v := 0) hx hb dX7_isElement_26 (by decide) ?_
    cases h
    exact z_zret hx hb hr hlk rfl hP hS dX7_isElement_27
  · replace h := zf hc h
    refine lv_iload_n hx hb dX7_isElement_4 rfl (lv_at hl 0 rfl) ?_
    refine lv_sipush (v := 4079) hx hb dX7_isElement_5 (by decide) ?_
    refine lv_icmp_ge (tgt := 26) hx hb dX7_isElement_8 (by decide) (fun hc => ?_) (fun hc => ?_)
    · replace h := zt hc h
      refine lv_iconst (v := 0) hx hb dX7_isElement_26 (by decide) ?_
      cases h
      exact z_zret hx hb hr hlk rfl hP hS dX7_isElement_27
    · replace h := zf hc h
      refine lv_iload_n hx hb dX7_isElement_11 rfl (lv_at hl 0 rfl) ?_
      refine lv_sipush (v := 2039) hx hb dX7_isElement_12 (by decide) ?_
      obtain ⟨r_1, hg, h⟩ := zb1_e h
      refine z_callS (As := [.int l0, .int ((2039 : Int32))]) (rest := []) ⟨hx, hb, hml, hown, hts⟩ (mX7_power l G  hg) (va_cwS 2 hts gX7_isElement_X7_power rfl rfl rfl ksX7_power ⟨Nat.le_of_ble_eq_true rfl, Nat.le_of_ble_eq_true rfl⟩) hP hD hK hN hS (Nat.le_refl _) [] rfl rfl rfl rfl rfl hl.1 rfl (Nat.le_of_ble_eq_true rfl) dX7_isElement_15 ⟨Nat.zero_le _, Nat.zero_le _⟩ (fun H locs hP hS => ?_)
      replace hP : zP G [] [] H := hP
      refine lv_iconst (v := 1) hx hb dX7_isElement_18 (by decide) ?_
      refine lv_icmp_ne (tgt := 26) hx hb dX7_isElement_19 (by decide) (fun hc => ?_) (fun hc => ?_)
      · replace h := zf hc h
        refine lv_iconst (v := 0) hx hb dX7_isElement_26 (by decide) ?_
        cases h
        exact z_zret hx hb hr hlk rfl hP hS dX7_isElement_27
      · replace h := zt hc h
        refine lv_iconst (v := 1) hx hb dX7_isElement_22 (by decide) ?_
        refine lv_goto (tgt := 27) hx hb dX7_isElement_23 (by decide) ?_
        cases h
        exact z_zret hx hb hr hlk rfl hP hS dX7_isElement_27
end
def rmX7_isNumber : Room := { frames := 0, cells := 0, slots := 0, locals := 0 }
theorem ksX7_isNumber : yX7_isNumber.cls ≠ "java/lang/invoke/MethodHandle" ∧ yX7_isNumber.cls ≠ "java/lang/invoke/VarHandle" ∧ (parseMethodDescriptor yX7_isNumber.desc).map (fun d => d.parameters.length) = some 1 := by decide +kernel
section
variable {p : Program} {l : Launch} {e : Env} {s : State} {m : MethodId} {args : Array Value} {below : List Frame} {meth : Method} {c : Code} {G : zG}  {rr : Int32}
set_option maxRecDepth 20000 in
theorem mX7_isNumber (l : Launch) (G : zG)  {l0 : Int32} {rr : Int32} (h : fX7_isNumber l0 = some rr) : zC l yX7_isNumber wsX7_isNumber rmX7_isNumber [.int l0] G [] [] [] (some (.int rr)) := by
  refine z_ofW (cc := cX7_isNumber) (maxL := 1) (ret := some .boolean) (by decide) rfl (Nat.le_of_ble_eq_true rfl) ?_
  intro p e s m args below meth c C0 hK hN hD hP ls hl
  obtain ⟨hx, hb, hr, hml, hown, hts, hlk⟩ := id C0
  have hS : va_S (zA [] s.heap.size) s.heap s.heap [] := va_S.rf
  replace hl : lv_has ls 1 [(0, .int l0)] := hl
  unfold fX7_isNumber at h
  refine lv_iload_n hx hb dX7_isNumber_0 rfl (lv_at hl 0 rfl) ?_
  refine lv_if_lt (tgt := 15) hx hb dX7_isNumber_1 (by decide) (fun hc => ?_) (fun hc => ?_)
  · replace h := zt hc h
    refine lv_iconst (v := 0) hx hb dX7_isNumber_15 (by decide) ?_
    cases h
    exact z_zret hx hb hr hlk rfl hP hS dX7_isNumber_16
  · replace h := zf hc h
    refine lv_iload_n hx hb dX7_isNumber_4 rfl (lv_at hl 0 rfl) ?_
    refine lv_sipush (v := 2039) hx hb dX7_isNumber_5 (by decide) ?_
    refine lv_icmp_ge (tgt := 15) hx hb dX7_isNumber_8 (by decide) (fun hc => ?_) (fun hc => ?_)
    · replace h := zt hc h
      refine lv_iconst (v := 0) hx hb dX7_isNumber_15 (by decide) ?_
      cases h
      exact z_zret hx hb hr hlk rfl hP hS dX7_isNumber_16
    · replace h := zf hc h
      refine lv_iconst (v := 1) hx hb dX7_isNumber_11 (by decide) ?_
      refine lv_goto (tgt := 16) hx hb dX7_isNumber_12 (by decide) ?_
      cases h
      exact z_zret hx hb hr hlk rfl hP hS dX7_isNumber_16
end
def rmX7_mingle : Room := { frames := 0, cells := 0, slots := 0, locals := 0 }
theorem kvX7_mingle : yX7_mingle.cls = RX7 ∧ yX7_mingle.cls ≠ "java/lang/invoke/MethodHandle" ∧ yX7_mingle.cls ≠ "java/lang/invoke/VarHandle" ∧ (parseMethodDescriptor yX7_mingle.desc).map (fun d => d.parameters.length) = some 1 := by decide +kernel
section
variable {p : Program} {l : Launch} {e : Env} {s : State} {m : MethodId} {args : Array Value} {below : List Frame} {meth : Method} {c : Code} {G : zG} {xM : Nat → Nat} {vM : zSt}
set_option maxRecDepth 20000 in
theorem mX7_mingle (l : Launch) (G : zG) (xM : Nat → Nat) {uM : zSt} {l1 : Int64} {vM : zSt} (h : fX7_mingle uM l1 = some vM) : zC l yX7_mingle wsX7_mingle rmX7_mingle [.ref (xM 0), .long l1] G [shM G xM] [uM] [vM] none := by
  refine z_ofW (cc := cX7_mingle) (maxL := 3) (ret := none) (by decide) rfl (Nat.le_of_ble_eq_true rfl) ?_
  intro p e s m args below meth c C0 hK hN hD hP ls hl
  obtain ⟨hx, hb, hr, hml, hown, hts, hlk⟩ := id C0
  have hS : va_S (zA [shM G xM] s.heap.size) s.heap s.heap [] := va_S.rf
  replace hl : lv_has ls 3 [(0, .ref (xM 0)), (1, .long l1)] := hl
  have hwX7 : ∀ w ∈ wsX70, w.before args s = true := fun w h => hts w (List.mem_cons_of_mem _ (List.mem_append_right _ h))
  unfold fX7_mingle at h
  refine lv_aload_n hx hb dX7_mingle_0 rfl (lv_at hl 0 rfl) ?_
  refine lv_aload_n hx hb dX7_mingle_1 rfl (lv_at hl 0 rfl) ?_
  refine rM_33 hx hb hwX7 hown hK hP 0 (xM) rfl rfl (hts _ (List.mem_of_getElem? (i := 1) rfl)) dX7_mingle_2 ?_
  refine lv_lload_n hx hb dX7_mingle_5 rfl (lv_at hl 1 rfl) ?_
  refine lv_lxor hx hb dX7_mingle_6 ?_
  refine lv_ldc2 (v := (-7046029254386353131)) hx hb hown (hts _ (List.mem_of_getElem? (i := 2) rfl)) dX7_mingle_7 ?_
  refine lv_lmul hx hb dX7_mingle_10 ?_
  refine pM_33 hx hb hwX7 hown hK hP hD hS 0 (xM) rfl rfl (hts _ (List.mem_of_getElem? (i := 1) rfl)) dX7_mingle_11 (fun H locs hP hS => ?_)
  replace hP : zP G [shM G xM] [(sJ uM 33 ((((gJ uM 33) ^^^ l1) * (-7046029254386353131 : Int64))))] H := hP
  refine lv_aload_n hx hb dX7_mingle_14 rfl (lv_at hl 0 rfl) ?_
  refine lv_aload_n hx hb dX7_mingle_15 rfl (lv_at hl 0 rfl) ?_
  refine rM_33 hx hb hwX7 hown hK hP 0 (xM) rfl rfl (hts _ (List.mem_of_getElem? (i := 1) rfl)) dX7_mingle_16 ?_
  refine lv_aload_n hx hb dX7_mingle_19 rfl (lv_at hl 0 rfl) ?_
  refine rM_33 hx hb hwX7 hown hK hP 0 (xM) rfl rfl (hts _ (List.mem_of_getElem? (i := 1) rfl)) dX7_mingle_20 ?_
  refine lv_bipush (v := 29) hx hb dX7_mingle_23 (by decide) ?_
  refine lv_lushr (v := (zsr (gJ ((sJ uM 33 ((((gJ uM 33) ^^^ l1) * (-7046029254386353131 : Int64))))) 33) (29 : Int32))) hx hb dX7_mingle_25 rfl ?_
  refine lv_lxor hx hb dX7_mingle_26 ?_
  refine pM_33 hx hb hwX7 hown hK hP hD hS 0 (xM) rfl rfl (hts _ (List.mem_of_getElem? (i := 1) rfl)) dX7_mingle_27 (fun H locs hP hS => ?_)
  replace hP : zP G [shM G xM] [(sJ ((sJ uM 33 ((((gJ uM 33) ^^^ l1) * (-7046029254386353131 : Int64))))) 33 (((gJ ((sJ uM 33 ((((gJ uM 33) ^^^ l1) * (-7046029254386353131 : Int64))))) 33) ^^^ (zsr (gJ ((sJ uM 33 ((((gJ uM 33) ^^^ l1) * (-7046029254386353131 : Int64))))) 33) (29 : Int32)))))] H := hP
  cases h
  exact z_vret hx hb hr hlk hP hS dX7_mingle_30
end
def rmX7_sealed : Room := { frames := 0, cells := 0, slots := 0, locals := 0 }
theorem kvX7_sealed : yX7_sealed.cls = RX7 ∧ yX7_sealed.cls ≠ "java/lang/invoke/MethodHandle" ∧ yX7_sealed.cls ≠ "java/lang/invoke/VarHandle" ∧ (parseMethodDescriptor yX7_sealed.desc).map (fun d => d.parameters.length) = some 0 := by decide +kernel
section
variable {p : Program} {l : Launch} {e : Env} {s : State} {m : MethodId} {args : Array Value} {below : List Frame} {meth : Method} {c : Code} {G : zG} {xM : Nat → Nat} {rr : Int64}
set_option maxRecDepth 20000 in
theorem mX7_sealed (l : Launch) (G : zG) (xM : Nat → Nat) {uM : zSt} {rr : Int64} (h : fX7_sealed uM = some rr) : zC l yX7_sealed wsX7_sealed rmX7_sealed [.ref (xM 0)] G [shM G xM] [uM] [uM] (some (.long rr)) := by
  refine z_ofW (cc := cX7_sealed) (maxL := 1) (ret := some .long) (by decide) rfl (Nat.le_of_ble_eq_true rfl) ?_
  intro p e s m args below meth c C0 hK hN hD hP ls hl
  obtain ⟨hx, hb, hr, hml, hown, hts, hlk⟩ := id C0
  have hS : va_S (zA [shM G xM] s.heap.size) s.heap s.heap [] := va_S.rf
  replace hl : lv_has ls 1 [(0, .ref (xM 0))] := hl
  have hwX7 : ∀ w ∈ wsX70, w.before args s = true := fun w h => hts w (List.mem_cons_of_mem _ (List.mem_append_right _ h))
  unfold fX7_sealed at h
  refine lv_aload_n hx hb dX7_sealed_0 rfl (lv_at hl 0 rfl) ?_
  refine rM_33 hx hb hwX7 hown hK hP 0 (xM) rfl rfl (hts _ (List.mem_of_getElem? (i := 1) rfl)) dX7_sealed_1 ?_
  refine lv_iconst (v := 1) hx hb dX7_sealed_4 (by decide) ?_
  refine lv_lushr (v := (zsr (gJ uM 33) (1 : Int32))) hx hb dX7_sealed_5 rfl ?_
  cases h
  exact z_lret hx hb hr hlk hP hS dX7_sealed_6
end
def rmX7_asNumber : Room := { frames := 1, cells := 0, slots := 0, locals := 20 }
theorem kvX7_asNumber : yX7_asNumber.cls = RX7 ∧ yX7_asNumber.cls ≠ "java/lang/invoke/MethodHandle" ∧ yX7_asNumber.cls ≠ "java/lang/invoke/VarHandle" ∧ (parseMethodDescriptor yX7_asNumber.desc).map (fun d => d.parameters.length) = some 0 := by decide +kernel
section
variable {p : Program} {l : Launch} {e : Env} {s : State} {m : MethodId} {args : Array Value} {below : List Frame} {meth : Method} {c : Code} {G : zG} {xM : Nat → Nat} {rr : Int32}
set_option maxRecDepth 20000 in
theorem mX7_asNumber (l : Launch) (G : zG) (xM : Nat → Nat) {uM : zSt} {rr : Int32} (h : fX7_asNumber uM = some rr) : zC l yX7_asNumber wsX7_asNumber rmX7_asNumber [.ref (xM 0)] G [shM G xM] [uM] [uM] (some (.int rr)) := by
  refine z_ofW (cc := cX7_asNumber) (maxL := 1) (ret := some .int) (by decide) rfl (Nat.le_of_ble_eq_true rfl) ?_
  intro p e s m args below meth c C0 hK hN hD hP ls hl
  obtain ⟨hx, hb, hr, hml, hown, hts, hlk⟩ := id C0
  have hS : va_S (zA [shM G xM] s.heap.size) s.heap s.heap [] := va_S.rf
  replace hl : lv_has ls 1 [(0, .ref (xM 0))] := hl
  unfold fX7_asNumber at h
  refine lv_aload_n hx hb dX7_asNumber_0 rfl (lv_at hl 0 rfl) ?_
  obtain ⟨r_1, hg, h⟩ := zb1_e h
  refine z_callV (As := []) (rest := []) (i := 0) ⟨hx, hb, hml, hown, hts⟩ (mX7_sealed l G (xM) hg) (cwV 0 hts gX7_asNumber_X7_sealed rfl rfl rfl kvX7_sealed ⟨Nat.le_of_ble_eq_true rfl, Nat.le_of_ble_eq_true rfl⟩) rfl hP hD hK hN hS (Nat.le_refl _) [0] rfl rfl rfl rfl 0 rfl rfl rfl rfl rfl hl.1 rfl (Nat.le_of_ble_eq_true rfl) dX7_asNumber_1 ⟨Nat.zero_le _, Nat.zero_le _⟩ (fun H locs hP hS => ?_)
  replace hP : zP G [shM G xM] [uM] H := hP
  refine lv_ldc2 (v := (2039)) hx hb hown (hts _ (List.mem_of_getElem? (i := 1) rfl)) dX7_asNumber_4 ?_
  refine lv_lrem hx hb dX7_asNumber_7 (by decide) ?_
  refine lv_l2i (v := (r_1 - r_1 / (2039 : Int64) * (2039 : Int64)).toInt32) hx hb dX7_asNumber_8 rfl ?_
  cases h
  exact z_iret hx hb hr hlk hP hS dX7_asNumber_9
end
def rmX7_digestOfThree : Room := { frames := 2, cells := 0, slots := 0, locals := 40 }
theorem kvX7_digestOfThree : yX7_digestOfThree.cls = RX7 ∧ yX7_digestOfThree.cls ≠ "java/lang/invoke/MethodHandle" ∧ yX7_digestOfThree.cls ≠ "java/lang/invoke/VarHandle" ∧ (parseMethodDescriptor yX7_digestOfThree.desc).map (fun d => d.parameters.length) = some 3 := by decide +kernel
section
variable {p : Program} {l : Launch} {e : Env} {s : State} {m : MethodId} {args : Array Value} {below : List Frame} {meth : Method} {c : Code} {G : zG} {xM : Nat → Nat} {rr : Int32} {vM : zSt}
set_option maxRecDepth 20000 in
theorem mX7_digestOfThree (l : Launch) (G : zG) (xM : Nat → Nat) {uM : zSt} {l1 : Int32} {l2 : Int32} {l3 : Int32} {rr : Int32} {vM : zSt} (h : fX7_digestOfThree uM l1 l2 l3 = some (rr, vM)) : zC l yX7_digestOfThree wsX7_digestOfThree rmX7_digestOfThree [.ref (xM 0), .int l1, .int l2, .int l3] G [shM G xM] [uM] [vM] (some (.int rr)) := by
  refine z_ofW (cc := cX7_digestOfThree) (maxL := 4) (ret := some .int) (by decide) rfl (Nat.le_of_ble_eq_true rfl) ?_
  intro p e s m args below meth c C0 hK hN hD hP ls hl
  obtain ⟨hx, hb, hr, hml, hown, hts, hlk⟩ := id C0
  have hS : va_S (zA [shM G xM] s.heap.size) s.heap s.heap [] := va_S.rf
  replace hl : lv_has ls 4 [(0, .ref (xM 0)), (1, .int l1), (2, .int l2), (3, .int l3)] := hl
  have hwX7 : ∀ w ∈ wsX70, w.before args s = true := fun w h => hts w (List.mem_cons_of_mem _ (List.mem_append_right _ h))
  unfold fX7_digestOfThree at h
  refine lv_aload_n hx hb dX7_digestOfThree_0 rfl (lv_at hl 0 rfl) ?_
  refine lv_lconst (v := 0) hx hb dX7_digestOfThree_1 rfl ?_
  refine pM_33 hx hb hwX7 hown hK hP hD hS 0 (xM) rfl rfl (hts _ (List.mem_of_getElem? (i := 1) rfl)) dX7_digestOfThree_2 (fun H locs hP hS => ?_)
  replace hP : zP G [shM G xM] [(sJ uM 33 ((0 : Int64)))] H := hP
  refine lv_aload_n hx hb dX7_digestOfThree_5 rfl (lv_at hl 0 rfl) ?_
  refine lv_iload_n hx hb dX7_digestOfThree_6 rfl (lv_at hl 1 rfl) ?_
  refine lv_i2l (v := l1.toInt64) hx hb dX7_digestOfThree_7 rfl ?_
  obtain ⟨uM_1, hg, h⟩ := zb1_e h
  refine z_callV (As := [.long ((l1.toInt64))]) (rest := []) (i := 0) ⟨hx, hb, hml, hown, hts⟩ (mX7_mingle l G (xM) hg) (cwV 1 hts gX7_digestOfThree_X7_mingle rfl rfl rfl kvX7_mingle ⟨Nat.le_of_ble_eq_true rfl, Nat.le_of_ble_eq_true rfl⟩) rfl hP hD hK hN hS (Nat.le_refl _) [0] rfl rfl rfl rfl 0 rfl rfl rfl rfl rfl hl.1 rfl (Nat.le_of_ble_eq_true rfl) dX7_digestOfThree_8 ⟨Nat.zero_le _, Nat.zero_le _⟩ (fun H locs hP hS => ?_)
  replace hP : zP G [shM G xM] [uM_1] H := hP
  refine lv_aload_n hx hb dX7_digestOfThree_11 rfl (lv_at hl 0 rfl) ?_
  refine lv_iload_n hx hb dX7_digestOfThree_12 rfl (lv_at hl 2 rfl) ?_
  refine lv_i2l (v := l2.toInt64) hx hb dX7_digestOfThree_13 rfl ?_
  obtain ⟨uM_2, hg, h⟩ := zb1_e h
  refine z_callV (As := [.long ((l2.toInt64))]) (rest := []) (i := 0) ⟨hx, hb, hml, hown, hts⟩ (mX7_mingle l G (xM) hg) (cwV 1 hts gX7_digestOfThree_X7_mingle rfl rfl rfl kvX7_mingle ⟨Nat.le_of_ble_eq_true rfl, Nat.le_of_ble_eq_true rfl⟩) rfl hP hD hK hN hS (Nat.le_refl _) [0] rfl rfl rfl rfl 0 rfl rfl rfl rfl rfl hl.1 rfl (Nat.le_of_ble_eq_true rfl) dX7_digestOfThree_14 ⟨Nat.zero_le _, Nat.zero_le _⟩ (fun H locs hP hS => ?_)
  replace hP : zP G [shM G xM] [uM_2] H := hP
  refine lv_aload_n hx hb dX7_digestOfThree_17 rfl (lv_at hl 0 rfl) ?_
  refine lv_iload_n hx hb dX7_digestOfThree_18 rfl (lv_at hl 3 rfl) ?_
  refine lv_i2l (v := l3.toInt64) hx hb dX7_digestOfThree_19 rfl ?_
  obtain ⟨uM_3, hg, h⟩ := zb1_e h
  refine z_callV (As := [.long ((l3.toInt64))]) (rest := []) (i := 0) ⟨hx, hb, hml, hown, hts⟩ (mX7_mingle l G (xM) hg) (cwV 1 hts gX7_digestOfThree_X7_mingle rfl rfl rfl kvX7_mingle ⟨Nat.le_of_ble_eq_true rfl, Nat.le_of_ble_eq_true rfl⟩) rfl hP hD hK hN hS (Nat.le_refl _) [0] rfl rfl rfl rfl 0 rfl rfl rfl rfl rfl hl.1 rfl (Nat.le_of_ble_eq_true rfl) dX7_digestOfThree_20 ⟨Nat.zero_le _, Nat.zero_le _⟩ (fun H locs hP hS => ?_)
  replace hP : zP G [shM G xM] [uM_3] H := hP
  refine lv_aload_n hx hb dX7_digestOfThree_23 rfl (lv_at hl 0 rfl) ?_
  obtain ⟨r_4, hg, h⟩ := zb1_e h
  refine z_callV (As := []) (rest := []) (i := 0) ⟨hx, hb, hml, hown, hts⟩ (mX7_asNumber l G (xM) hg) (cwV 0 hts gX7_digestOfThree_X7_asNumber rfl rfl rfl kvX7_asNumber ⟨Nat.le_of_ble_eq_true rfl, Nat.le_of_ble_eq_true rfl⟩) rfl hP hD hK hN hS (Nat.le_refl _) [0] rfl rfl rfl rfl 0 rfl rfl rfl rfl rfl hl.1 rfl (Nat.le_of_ble_eq_true rfl) dX7_digestOfThree_24 ⟨Nat.zero_le _, Nat.zero_le _⟩ (fun H locs hP hS => ?_)
  replace hP : zP G [shM G xM] [uM_3] H := hP
  cases h
  exact z_iret hx hb hr hlk hP hS dX7_digestOfThree_27
end
def rmX7_digestOfTwo : Room := { frames := 2, cells := 0, slots := 0, locals := 40 }
theorem kvX7_digestOfTwo : yX7_digestOfTwo.cls = RX7 ∧ yX7_digestOfTwo.cls ≠ "java/lang/invoke/MethodHandle" ∧ yX7_digestOfTwo.cls ≠ "java/lang/invoke/VarHandle" ∧ (parseMethodDescriptor yX7_digestOfTwo.desc).map (fun d => d.parameters.length) = some 2 := by decide +kernel
section
variable {p : Program} {l : Launch} {e : Env} {s : State} {m : MethodId} {args : Array Value} {below : List Frame} {meth : Method} {c : Code} {G : zG} {xM : Nat → Nat} {rr : Int32} {vM : zSt}
set_option maxRecDepth 20000 in
theorem mX7_digestOfTwo (l : Launch) (G : zG) (xM : Nat → Nat) {uM : zSt} {l1 : Int32} {l2 : Int32} {rr : Int32} {vM : zSt} (h : fX7_digestOfTwo uM l1 l2 = some (rr, vM)) : zC l yX7_digestOfTwo wsX7_digestOfTwo rmX7_digestOfTwo [.ref (xM 0), .int l1, .int l2] G [shM G xM] [uM] [vM] (some (.int rr)) := by
  refine z_ofW (cc := cX7_digestOfTwo) (maxL := 3) (ret := some .int) (by decide) rfl (Nat.le_of_ble_eq_true rfl) ?_
  intro p e s m args below meth c C0 hK hN hD hP ls hl
  obtain ⟨hx, hb, hr, hml, hown, hts, hlk⟩ := id C0
  have hS : va_S (zA [shM G xM] s.heap.size) s.heap s.heap [] := va_S.rf
  replace hl : lv_has ls 3 [(0, .ref (xM 0)), (1, .int l1), (2, .int l2)] := hl
  have hwX7 : ∀ w ∈ wsX70, w.before args s = true := fun w h => hts w (List.mem_cons_of_mem _ (List.mem_append_right _ h))
  unfold fX7_digestOfTwo at h
  refine lv_aload_n hx hb dX7_digestOfTwo_0 rfl (lv_at hl 0 rfl) ?_
  refine lv_lconst (v := 0) hx hb dX7_digestOfTwo_1 rfl ?_
  refine pM_33 hx hb hwX7 hown hK hP hD hS 0 (xM) rfl rfl (hts _ (List.mem_of_getElem? (i := 1) rfl)) dX7_digestOfTwo_2 (fun H locs hP hS => ?_)
  replace hP : zP G [shM G xM] [(sJ uM 33 ((0 : Int64)))] H := hP
  refine lv_aload_n hx hb dX7_digestOfTwo_5 rfl (lv_at hl 0 rfl) ?_
  refine lv_iload_n hx hb dX7_digestOfTwo_6 rfl (lv_at hl 1 rfl) ?_
  refine lv_i2l (v := l1.toInt64) hx hb dX7_digestOfTwo_7 rfl ?_
  obtain ⟨uM_1, hg, h⟩ := zb1_e h
  refine z_callV (As := [.long ((l1.toInt64))]) (rest := []) (i := 0) ⟨hx, hb, hml, hown, hts⟩ (mX7_mingle l G (xM) hg) (cwV 1 hts gX7_digestOfTwo_X7_mingle rfl rfl rfl kvX7_mingle ⟨Nat.le_of_ble_eq_true rfl, Nat.le_of_ble_eq_true rfl⟩) rfl hP hD hK hN hS (Nat.le_refl _) [0] rfl rfl rfl rfl 0 rfl rfl rfl rfl rfl hl.1 rfl (Nat.le_of_ble_eq_true rfl) dX7_digestOfTwo_8 ⟨Nat.zero_le _, Nat.zero_le _⟩ (fun H locs hP hS => ?_)
  replace hP : zP G [shM G xM] [uM_1] H := hP
  refine lv_aload_n hx hb dX7_digestOfTwo_11 rfl (lv_at hl 0 rfl) ?_
  refine lv_iload_n hx hb dX7_digestOfTwo_12 rfl (lv_at hl 2 rfl) ?_
  refine lv_i2l (v := l2.toInt64) hx hb dX7_digestOfTwo_13 rfl ?_
  obtain ⟨uM_2, hg, h⟩ := zb1_e h
  refine z_callV (As := [.long ((l2.toInt64))]) (rest := []) (i := 0) ⟨hx, hb, hml, hown, hts⟩ (mX7_mingle l G (xM) hg) (cwV 1 hts gX7_digestOfTwo_X7_mingle rfl rfl rfl kvX7_mingle ⟨Nat.le_of_ble_eq_true rfl, Nat.le_of_ble_eq_true rfl⟩) rfl hP hD hK hN hS (Nat.le_refl _) [0] rfl rfl rfl rfl 0 rfl rfl rfl rfl rfl hl.1 rfl (Nat.le_of_ble_eq_true rfl) dX7_digestOfTwo_14 ⟨Nat.zero_le _, Nat.zero_le _⟩ (fun H locs hP hS => ?_)
  replace hP : zP G [shM G xM] [uM_2] H := hP
  refine lv_aload_n hx hb dX7_digestOfTwo_17 rfl (lv_at hl 0 rfl) ?_
  obtain ⟨r_3, hg, h⟩ := zb1_e h
  refine z_callV (As := []) (rest := []) (i := 0) ⟨hx, hb, hml, hown, hts⟩ (mX7_asNumber l G (xM) hg) (cwV 0 hts gX7_digestOfTwo_X7_asNumber rfl rfl rfl kvX7_asNumber ⟨Nat.le_of_ble_eq_true rfl, Nat.le_of_ble_eq_true rfl⟩) rfl hP hD hK hN hS (Nat.le_refl _) [0] rfl rfl rfl rfl 0 rfl rfl rfl rfl rfl hl.1 rfl (Nat.le_of_ble_eq_true rfl) dX7_digestOfTwo_18 ⟨Nat.zero_le _, Nat.zero_le _⟩ (fun H locs hP hS => ?_)
  replace hP : zP G [shM G xM] [uM_2] H := hP
  cases h
  exact z_iret hx hb hr hlk hP hS dX7_digestOfTwo_21
end
def rmX7_digestOfFive : Room := { frames := 2, cells := 0, slots := 0, locals := 40 }
theorem kvX7_digestOfFive : yX7_digestOfFive.cls = RX7 ∧ yX7_digestOfFive.cls ≠ "java/lang/invoke/MethodHandle" ∧ yX7_digestOfFive.cls ≠ "java/lang/invoke/VarHandle" ∧ (parseMethodDescriptor yX7_digestOfFive.desc).map (fun d => d.parameters.length) = some 5 := by decide +kernel
section
variable {p : Program} {l : Launch} {e : Env} {s : State} {m : MethodId} {args : Array Value} {below : List Frame} {meth : Method} {c : Code} {G : zG} {xM : Nat → Nat} {rr : Int32} {vM : zSt}
set_option maxRecDepth 20000 in
theorem mX7_digestOfFive (l : Launch) (G : zG) (xM : Nat → Nat) {uM : zSt} {l1 : Int32} {l2 : Int32} {l3 : Int32} {l4 : Int32} {l5 : Int32} {rr : Int32} {vM : zSt} (h : fX7_digestOfFive uM l1 l2 l3 l4 l5 = some (rr, vM)) : zC l yX7_digestOfFive wsX7_digestOfFive rmX7_digestOfFive [.ref (xM 0), .int l1, .int l2, .int l3, .int l4, .int l5] G [shM G xM] [uM] [vM] (some (.int rr)) := by
  refine z_ofW (cc := cX7_digestOfFive) (maxL := 6) (ret := some .int) (by decide) rfl (Nat.le_of_ble_eq_true rfl) ?_
  intro p e s m args below meth c C0 hK hN hD hP ls hl
  obtain ⟨hx, hb, hr, hml, hown, hts, hlk⟩ := id C0
  have hS : va_S (zA [shM G xM] s.heap.size) s.heap s.heap [] := va_S.rf
  replace hl : lv_has ls 6 [(0, .ref (xM 0)), (1, .int l1), (2, .int l2), (3, .int l3), (4, .int l4), (5, .int l5)] := hl
  have hwX7 : ∀ w ∈ wsX70, w.before args s = true := fun w h => hts w (List.mem_cons_of_mem _ (List.mem_append_right _ h))
  unfold fX7_digestOfFive at h
  refine lv_aload_n hx hb dX7_digestOfFive_0 rfl (lv_at hl 0 rfl) ?_
  refine lv_lconst (v := 0) hx hb dX7_digestOfFive_1 rfl ?_
  refine pM_33 hx hb hwX7 hown hK hP hD hS 0 (xM) rfl rfl (hts _ (List.mem_of_getElem? (i := 1) rfl)) dX7_digestOfFive_2 (fun H locs hP hS => ?_)
  replace hP : zP G [shM G xM] [(sJ uM 33 ((0 : Int64)))] H := hP
  refine lv_aload_n hx hb dX7_digestOfFive_5 rfl (lv_at hl 0 rfl) ?_
  refine lv_iload_n hx hb dX7_digestOfFive_6 rfl (lv_at hl 1 rfl) ?_
  refine lv_i2l (v := l1.toInt64) hx hb dX7_digestOfFive_7 rfl ?_
  obtain ⟨uM_1, hg, h⟩ := zb1_e h
  refine z_callV (As := [.long ((l1.toInt64))]) (rest := []) (i := 0) ⟨hx, hb, hml, hown, hts⟩ (mX7_mingle l G (xM) hg) (cwV 1 hts gX7_digestOfFive_X7_mingle rfl rfl rfl kvX7_mingle ⟨Nat.le_of_ble_eq_true rfl, Nat.le_of_ble_eq_true rfl⟩) rfl hP hD hK hN hS (Nat.le_refl _) [0] rfl rfl rfl rfl 0 rfl rfl rfl rfl rfl hl.1 rfl (Nat.le_of_ble_eq_true rfl) dX7_digestOfFive_8 ⟨Nat.zero_le _, Nat.zero_le _⟩ (fun H locs hP hS => ?_)
  replace hP : zP G [shM G xM] [uM_1] H := hP
  refine lv_aload_n hx hb dX7_digestOfFive_11 rfl (lv_at hl 0 rfl) ?_
  refine lv_iload_n hx hb dX7_digestOfFive_12 rfl (lv_at hl 2 rfl) ?_
  refine lv_i2l (v := l2.toInt64) hx hb dX7_digestOfFive_13 rfl ?_
  obtain ⟨uM_2, hg, h⟩ := zb1_e h
  refine z_callV (As := [.long ((l2.toInt64))]) (rest := []) (i := 0) ⟨hx, hb, hml, hown, hts⟩ (mX7_mingle l G (xM) hg) (cwV 1 hts gX7_digestOfFive_X7_mingle rfl rfl rfl kvX7_mingle ⟨Nat.le_of_ble_eq_true rfl, Nat.le_of_ble_eq_true rfl⟩) rfl hP hD hK hN hS (Nat.le_refl _) [0] rfl rfl rfl rfl 0 rfl rfl rfl rfl rfl hl.1 rfl (Nat.le_of_ble_eq_true rfl) dX7_digestOfFive_14 ⟨Nat.zero_le _, Nat.zero_le _⟩ (fun H locs hP hS => ?_)
  replace hP : zP G [shM G xM] [uM_2] H := hP
  refine lv_aload_n hx hb dX7_digestOfFive_17 rfl (lv_at hl 0 rfl) ?_
  refine lv_iload_n hx hb dX7_digestOfFive_18 rfl (lv_at hl 3 rfl) ?_
  refine lv_i2l (v := l3.toInt64) hx hb dX7_digestOfFive_19 rfl ?_
  obtain ⟨uM_3, hg, h⟩ := zb1_e h
  refine z_callV (As := [.long ((l3.toInt64))]) (rest := []) (i := 0) ⟨hx, hb, hml, hown, hts⟩ (mX7_mingle l G (xM) hg) (cwV 1 hts gX7_digestOfFive_X7_mingle rfl rfl rfl kvX7_mingle ⟨Nat.le_of_ble_eq_true rfl, Nat.le_of_ble_eq_true rfl⟩) rfl hP hD hK hN hS (Nat.le_refl _) [0] rfl rfl rfl rfl 0 rfl rfl rfl rfl rfl hl.1 rfl (Nat.le_of_ble_eq_true rfl) dX7_digestOfFive_20 ⟨Nat.zero_le _, Nat.zero_le _⟩ (fun H locs hP hS => ?_)
  replace hP : zP G [shM G xM] [uM_3] H := hP
  refine lv_aload_n hx hb dX7_digestOfFive_23 rfl (lv_at hl 0 rfl) ?_
  refine lv_iload hx hb dX7_digestOfFive_24 (lv_at hl 4 rfl) ?_
  refine lv_i2l (v := l4.toInt64) hx hb dX7_digestOfFive_26 rfl ?_
  obtain ⟨uM_4, hg, h⟩ := zb1_e h
  refine z_callV (As := [.long ((l4.toInt64))]) (rest := []) (i := 0) ⟨hx, hb, hml, hown, hts⟩ (mX7_mingle l G (xM) hg) (cwV 1 hts gX7_digestOfFive_X7_mingle rfl rfl rfl kvX7_mingle ⟨Nat.le_of_ble_eq_true rfl, Nat.le_of_ble_eq_true rfl⟩) rfl hP hD hK hN hS (Nat.le_refl _) [0] rfl rfl rfl rfl 0 rfl rfl rfl rfl rfl hl.1 rfl (Nat.le_of_ble_eq_true rfl) dX7_digestOfFive_27 ⟨Nat.zero_le _, Nat.zero_le _⟩ (fun H locs hP hS => ?_)
  replace hP : zP G [shM G xM] [uM_4] H := hP
  refine lv_aload_n hx hb dX7_digestOfFive_30 rfl (lv_at hl 0 rfl) ?_
  refine lv_iload hx hb dX7_digestOfFive_31 (lv_at hl 5 rfl) ?_
  refine lv_i2l (v := l5.toInt64) hx hb dX7_digestOfFive_33 rfl ?_
  obtain ⟨uM_5, hg, h⟩ := zb1_e h
  refine z_callV (As := [.long ((l5.toInt64))]) (rest := []) (i := 0) ⟨hx, hb, hml, hown, hts⟩ (mX7_mingle l G (xM) hg) (cwV 1 hts gX7_digestOfFive_X7_mingle rfl rfl rfl kvX7_mingle ⟨Nat.le_of_ble_eq_true rfl, Nat.le_of_ble_eq_true rfl⟩) rfl hP hD hK hN hS (Nat.le_refl _) [0] rfl rfl rfl rfl 0 rfl rfl rfl rfl rfl hl.1 rfl (Nat.le_of_ble_eq_true rfl) dX7_digestOfFive_34 ⟨Nat.zero_le _, Nat.zero_le _⟩ (fun H locs hP hS => ?_)
  replace hP : zP G [shM G xM] [uM_5] H := hP
  refine lv_aload_n hx hb dX7_digestOfFive_37 rfl (lv_at hl 0 rfl) ?_
  obtain ⟨r_6, hg, h⟩ := zb1_e h
  refine z_callV (As := []) (rest := []) (i := 0) ⟨hx, hb, hml, hown, hts⟩ (mX7_asNumber l G (xM) hg) (cwV 0 hts gX7_digestOfFive_X7_asNumber rfl rfl rfl kvX7_asNumber ⟨Nat.le_of_ble_eq_true rfl, Nat.le_of_ble_eq_true rfl⟩) rfl hP hD hK hN hS (Nat.le_refl _) [0] rfl rfl rfl rfl 0 rfl rfl rfl rfl rfl hl.1 rfl (Nat.le_of_ble_eq_true rfl) dX7_digestOfFive_38 ⟨Nat.zero_le _, Nat.zero_le _⟩ (fun H locs hP hS => ?_)
  replace hP : zP G [shM G xM] [uM_5] H := hP
  cases h
  exact z_iret hx hb hr hlk hP hS dX7_digestOfFive_41
end
def rmX7_joined : Room := { frames := 1, cells := 0, slots := 0, locals := 22 }
theorem kvX7_joined : yX7_joined.cls = RX7 ∧ yX7_joined.cls ≠ "java/lang/invoke/MethodHandle" ∧ yX7_joined.cls ≠ "java/lang/invoke/VarHandle" ∧ (parseMethodDescriptor yX7_joined.desc).map (fun d => d.parameters.length) = some 2 := by decide +kernel
section
variable {p : Program} {l : Launch} {e : Env} {s : State} {m : MethodId} {args : Array Value} {below : List Frame} {meth : Method} {c : Code} {G : zG} {xM : Nat → Nat} {rr : Int64} {vM : zSt}
set_option maxRecDepth 20000 in
theorem mX7_joined (l : Launch) (G : zG) (xM : Nat → Nat) {uM : zSt} {l1 : Int64} {l3 : Int64} {rr : Int64} {vM : zSt} (h : fX7_joined uM l1 l3 = some (rr, vM)) : zC l yX7_joined wsX7_joined rmX7_joined [.ref (xM 0), .long l1, .long l3] G [shM G xM] [uM] [vM] (some (.long rr)) := by
  refine z_ofW (cc := cX7_joined) (maxL := 5) (ret := some .long) (by decide) rfl (Nat.le_of_ble_eq_true rfl) ?_
  intro p e s m args below meth c C0 hK hN hD hP ls hl
  obtain ⟨hx, hb, hr, hml, hown, hts, hlk⟩ := id C0
  have hS : va_S (zA [shM G xM] s.heap.size) s.heap s.heap [] := va_S.rf
  replace hl : lv_has ls 5 [(0, .ref (xM 0)), (1, .long l1), (3, .long l3)] := hl
  have hwX7 : ∀ w ∈ wsX70, w.before args s = true := fun w h => hts w (List.mem_cons_of_mem _ (List.mem_append_right _ h))
  unfold fX7_joined at h
  refine lv_aload_n hx hb dX7_joined_0 rfl (lv_at hl 0 rfl) ?_
  refine lv_lconst (v := 0) hx hb dX7_joined_1 rfl ?_
  refine pM_33 hx hb hwX7 hown hK hP hD hS 0 (xM) rfl rfl (hts _ (List.mem_of_getElem? (i := 1) rfl)) dX7_joined_2 (fun H locs hP hS => ?_)
  replace hP : zP G [shM G xM] [(sJ uM 33 ((0 : Int64)))] H := hP
  refine lv_aload_n hx hb dX7_joined_5 rfl (lv_at hl 0 rfl) ?_
  refine lv_lconst (v := 1) hx hb dX7_joined_6 rfl ?_
  obtain ⟨uM_1, hg, h⟩ := zb1_e h
  refine z_callV (As := [.long ((1 : Int64))]) (rest := []) (i := 0) ⟨hx, hb, hml, hown, hts⟩ (mX7_mingle l G (xM) hg) (cwV 1 hts gX7_joined_X7_mingle rfl rfl rfl kvX7_mingle ⟨Nat.le_of_ble_eq_true rfl, Nat.le_of_ble_eq_true rfl⟩) rfl hP hD hK hN hS (Nat.le_refl _) [0] rfl rfl rfl rfl 0 rfl rfl rfl rfl rfl hl.1 rfl (Nat.le_of_ble_eq_true rfl) dX7_joined_7 ⟨Nat.zero_le _, Nat.zero_le _⟩ (fun H locs hP hS => ?_)
  replace hP : zP G [shM G xM] [uM_1] H := hP
  refine lv_aload_n hx hb dX7_joined_10 rfl (lv_at hl 0 rfl) ?_
  refine lv_lload_n hx hb dX7_joined_11 rfl (lv_at hl 1 rfl) ?_
  obtain ⟨uM_2, hg, h⟩ := zb1_e h
  refine z_callV (As := [.long l1]) (rest := []) (i := 0) ⟨hx, hb, hml, hown, hts⟩ (mX7_mingle l G (xM) hg) (cwV 1 hts gX7_joined_X7_mingle rfl rfl rfl kvX7_mingle ⟨Nat.le_of_ble_eq_true rfl, Nat.le_of_ble_eq_true rfl⟩) rfl hP hD hK hN hS (Nat.le_refl _) [0] rfl rfl rfl rfl 0 rfl rfl rfl rfl rfl hl.1 rfl (Nat.le_of_ble_eq_true rfl) dX7_joined_12 ⟨Nat.zero_le _, Nat.zero_le _⟩ (fun H locs hP hS => ?_)
  replace hP : zP G [shM G xM] [uM_2] H := hP
  refine lv_aload_n hx hb dX7_joined_15 rfl (lv_at hl 0 rfl) ?_
  refine lv_lload_n hx hb dX7_joined_16 rfl (lv_at hl 2 rfl) ?_
  obtain ⟨uM_3, hg, h⟩ := zb1_e h
  refine z_callV (As := [.long l3]) (rest := []) (i := 0) ⟨hx, hb, hml, hown, hts⟩ (mX7_mingle l G (xM) hg) (cwV 1 hts gX7_joined_X7_mingle rfl rfl rfl kvX7_mingle ⟨Nat.le_of_ble_eq_true rfl, Nat.le_of_ble_eq_true rfl⟩) rfl hP hD hK hN hS (Nat.le_refl _) [0] rfl rfl rfl rfl 0 rfl rfl rfl rfl rfl hl.1 rfl (Nat.le_of_ble_eq_true rfl) dX7_joined_17 ⟨Nat.zero_le _, Nat.zero_le _⟩ (fun H locs hP hS => ?_)
  replace hP : zP G [shM G xM] [uM_3] H := hP
  refine lv_aload_n hx hb dX7_joined_20 rfl (lv_at hl 0 rfl) ?_
  obtain ⟨r_4, hg, h⟩ := zb1_e h
  refine z_callV (As := []) (rest := []) (i := 0) ⟨hx, hb, hml, hown, hts⟩ (mX7_sealed l G (xM) hg) (cwV 0 hts gX7_joined_X7_sealed rfl rfl rfl kvX7_sealed ⟨Nat.le_of_ble_eq_true rfl, Nat.le_of_ble_eq_true rfl⟩) rfl hP hD hK hN hS (Nat.le_refl _) [0] rfl rfl rfl rfl 0 rfl rfl rfl rfl rfl hl.1 rfl (Nat.le_of_ble_eq_true rfl) dX7_joined_21 ⟨Nat.zero_le _, Nat.zero_le _⟩ (fun H locs hP hS => ?_)
  replace hP : zP G [shM G xM] [uM_3] H := hP
  cases h
  exact z_lret hx hb hr hlk hP hS dX7_joined_24
end
def rmX7_orders : Room := { frames := 0, cells := 0, slots := 0, locals := 0 }
theorem ksX7_orders : yX7_orders.cls ≠ "java/lang/invoke/MethodHandle" ∧ yX7_orders.cls ≠ "java/lang/invoke/VarHandle" ∧ (parseMethodDescriptor yX7_orders.desc).map (fun d => d.parameters.length) = some 1 := by decide +kernel
section
variable {p : Program} {l : Launch} {e : Env} {s : State} {m : MethodId} {args : Array Value} {below : List Frame} {meth : Method} {c : Code} {G : zG}  {rr : Int32}
set_option maxRecDepth 20000 in
theorem tlX7_orders_4 (C0 : zCtx p s m args meth c cX7_orders RX7 wsX7_orders 3 (some .int)) (hK : zK G s) (hN : zN s) (hD : zD [])  : ∀ (n : Nat), ∀ (l0 : Int32) (l1 : Int32) (l2 : Int32), lX7_orders_4  n l0 l1 l2 = some rr → ∀ (H : Heap) (locs : List Loc), zP G [] [] H → va_S (zA [] s.heap.size) s.heap H locs → ∀ ls : Array Slot, lv_has ls 3 [(0, .int l0), (1, .int l1), (2, .int l2)] → W p l e rmX7_orders s m args below meth c H locs 0 0 (MQ below (zQ G [] [] (zA [] s.heap.size) (some (.int rr))) args s 0 0 (zA [] s.heap.size)) (F0 m 4 ls []) := by
  obtain ⟨hx, hb, hr, hml, hown, hts, hlk⟩ := id C0
  intro n
  induction n with
  | zero => intro l0 l1 l2 h; exact absurd h (fun q => nomatch q)
  | succ n K4 =>
    intro l0 l1 l2 h H locs hP hS ls hl
    replace h : bX7_orders_4  (lX7_orders_4  n) l0 l1 l2 = some rr := h
    unfold bX7_orders_4 at h
    refine lv_iload_n hx hb dX7_orders_4 rfl (lv_at hl 2 rfl) ?_
    refine lv_iload_n hx hb dX7_orders_5 rfl (lv_at hl 0 rfl) ?_
    refine lv_icmp_gt (tgt := 19) hx hb dX7_orders_6 (by decide) (fun hc => ?_) (fun hc => ?_)
    · replace h := zt hc h
      refine lv_iload_n hx hb dX7_orders_19 rfl (lv_at hl 1 rfl) ?_
      cases h
      exact z_iret hx hb hr hlk hP hS dX7_orders_20
    · replace h := zf hc h
      refine lv_iload_n hx hb dX7_orders_9 rfl (lv_at hl 1 rfl) ?_
      refine lv_iload_n hx hb dX7_orders_10 rfl (lv_at hl 2 rfl) ?_
      refine lv_imul hx hb dX7_orders_11 ?_
      refine lv_istore_n (lv' := [(1, .int ((l1 * l2))), (0, .int l0), (2, .int l2)]) hx hb dX7_orders_12 rfl hl (by decide) rfl (fun ls hl => ?_)
      refine lv_iinc (v := (l2 + (1 : Int32))) (lv' := [(2, .int ((l2 + (1 : Int32)))), (1, .int ((l1 * l2))), (0, .int l0)]) hx hb dX7_orders_13 hl (k := 2) rfl rfl (by decide) rfl (fun ls hl => ?_)
      refine lv_goto (tgt := 4) hx hb dX7_orders_16 (by decide) ?_
      exact K4 _ _ _ h _ _ hP hS _ (lv_sub hl [2, 1, 0] rfl)
set_option maxRecDepth 20000 in
theorem mX7_orders (l : Launch) (G : zG)  {l0 : Int32} {rr : Int32} (h : fX7_orders l0 = some rr) : zC l yX7_orders wsX7_orders rmX7_orders [.int l0] G [] [] [] (some (.int rr)) := by
  refine z_ofW (cc := cX7_orders) (maxL := 3) (ret := some .int) (by decide) rfl (Nat.le_of_ble_eq_true rfl) ?_
  intro p e s m args below meth c C0 hK hN hD hP ls hl
  obtain ⟨hx, hb, hr, hml, hown, hts, hlk⟩ := id C0
  have hS : va_S (zA [] s.heap.size) s.heap s.heap [] := va_S.rf
  replace hl : lv_has ls 3 [(0, .int l0)] := hl
  unfold fX7_orders at h
  refine lv_iconst (v := 1) hx hb dX7_orders_0 (by decide) ?_
  refine lv_istore_n (lv' := [(1, .int ((1 : Int32))), (0, .int l0)]) hx hb dX7_orders_1 rfl hl (by decide) rfl (fun ls hl => ?_)
  refine lv_iconst (v := 2) hx hb dX7_orders_2 (by decide) ?_
  refine lv_istore_n (lv' := [(2, .int ((2 : Int32))), (1, .int ((1 : Int32))), (0, .int l0)]) hx hb dX7_orders_3 rfl hl (by decide) rfl (fun ls hl => ?_)
  exact tlX7_orders_4 C0 hK hN hD  1000 _ _ _ h _ _ hP hS _ (lv_sub hl [2, 1, 0] rfl)
end
def rmX7_put : Room := { frames := 0, cells := 0, slots := 0, locals := 0 }
theorem kvX7_put : yX7_put.cls = RX7 ∧ yX7_put.cls ≠ "java/lang/invoke/MethodHandle" ∧ yX7_put.cls ≠ "java/lang/invoke/VarHandle" ∧ (parseMethodDescriptor yX7_put.desc).map (fun d => d.parameters.length) = some 4 := by decide +kernel
section
variable {p : Program} {l : Launch} {e : Env} {s : State} {m : MethodId} {args : Array Value} {below : List Frame} {meth : Method} {c : Code} {G : zG} {xM : Nat → Nat} {rr : Int32} {vM : zSt}
set_option maxRecDepth 20000 in
theorem tlX7_put_65 (C0 : zCtx p s m args meth c cX7_put RX7 wsX7_put 7 (some .int)) (hK : zK G s) (hN : zN s) (hD : zD [shM G xM])  : ∀ (n : Nat), ∀ (uM : zSt) (l5 : Int32) (l6 : Int32), lX7_put_65  n uM l5 l6 = some (rr, vM) → ∀ (H : Heap) (locs : List Loc), zP G [shM G xM] [uM] H → va_S (zA [shM G xM] s.heap.size) s.heap H locs → ∀ ls : Array Slot, lv_has ls 7 [(0, .ref (xM 0)), (5, .int l5), (6, .int l6)] → W p l e rmX7_put s m args below meth c H locs 0 0 (MQ below (zQ G [shM G xM] [vM] (zA [shM G xM] s.heap.size) (some (.int rr))) args s 0 0 (zA [shM G xM] s.heap.size)) (F0 m 65 ls []) := by
  obtain ⟨hx, hb, hr, hml, hown, hts, hlk⟩ := id C0
  have hwX7 : ∀ w ∈ wsX70, w.before args s = true := fun w h => hts w (List.mem_cons_of_mem _ (List.mem_append_right _ h))
  intro n
  induction n with
  | zero => intro uM l5 l6 h; exact absurd h (fun q => nomatch q)
  | succ n K65 =>
    intro uM l5 l6 h H locs hP hS ls hl
    replace h : bX7_put_65  (lX7_put_65  n) uM l5 l6 = some (rr, vM) := h
    unfold bX7_put_65 at h
    refine lv_iload hx hb dX7_put_65 (lv_at hl 2 rfl) ?_
    refine lv_bipush (v := 6) hx hb dX7_put_67 (by decide) ?_
    refine lv_icmp_ge (tgt := 92) hx hb dX7_put_69 (by decide) (fun hc => ?_) (fun hc => ?_)
    · replace h := zt hc h
      refine lv_iload hx hb dX7_put_92 (lv_at hl 1 rfl) ?_
      cases h
      exact z_iret hx hb hr hlk hP hS dX7_put_94
    · replace h := zf hc h
      refine lv_aload_n hx hb dX7_put_72 rfl (lv_at hl 0 rfl) ?_
      refine rM_3 hx hb hwX7 hown hK hP 0 (xM) rfl rfl (hts _ (List.mem_of_getElem? (i := 3) rfl)) dX7_put_73 ?_
      refine lv_bipush (v := 6) hx hb dX7_put_76 (by decide) ?_
      refine lv_iload hx hb dX7_put_78 (lv_at hl 1 rfl) ?_
      refine lv_imul hx hb dX7_put_80 ?_
      refine lv_iload hx hb dX7_put_81 (lv_at hl 2 rfl) ?_
      refine lv_iadd hx hb dX7_put_83 ?_
      refine lv_iconst (v := 0) hx hb dX7_put_84 (by decide) ?_
      obtain ⟨hi, h⟩ := zin_e h
      refine tM_3 hx hb hK hP hD hS 0 (xM) rfl rfl hi rfl dX7_put_85 (fun H locs hP hS => ?_)
      replace hP : zP G [shM G xM] [(sA uM 3 ((((6 : Int32) * l5) + l6)).toNatClampNeg ((0 : Int32)))] H := hP
      refine lv_iinc (v := (l6 + (1 : Int32))) (lv' := [(6, .int ((l6 + (1 : Int32)))), (0, .ref (xM 0)), (5, .int l5)]) hx hb dX7_put_86 hl (k := 2) rfl rfl (by decide) rfl (fun ls hl => ?_)
      refine lv_goto (tgt := 65) hx hb dX7_put_89 (by decide) ?_
      exact K65 _ _ _ h _ _ hP hS _ (lv_sub hl [1, 2, 0] rfl)
set_option maxRecDepth 20000 in
theorem mX7_put (l : Launch) (G : zG) (xM : Nat → Nat) {uM : zSt} {l1 : Int32} {l2 : Int32} {l3 : Int32} {l4 : Int32} {rr : Int32} {vM : zSt} (h : fX7_put uM l1 l2 l3 l4 = some (rr, vM)) : zC l yX7_put wsX7_put rmX7_put [.ref (xM 0), .int l1, .int l2, .int l3, .int l4] G [shM G xM] [uM] [vM] (some (.int rr)) := by
  refine z_ofW (cc := cX7_put) (maxL := 7) (ret := some .int) (by decide) rfl (Nat.le_of_ble_eq_true rfl) ?_
  intro p e s m args below meth c C0 hK hN hD hP ls hl
  obtain ⟨hx, hb, hr, hml, hown, hts, hlk⟩ := id C0
  have hS : va_S (zA [shM G xM] s.heap.size) s.heap s.heap [] := va_S.rf
  replace hl : lv_has ls 7 [(0, .ref (xM 0)), (1, .int l1), (2, .int l2), (3, .int l3), (4, .int l4)] := hl
  have hwX7 : ∀ w ∈ wsX70, w.before args s = true := fun w h => hts w (List.mem_cons_of_mem _ (List.mem_append_right _ h))
  unfold fX7_put at h
  refine lv_aload_n hx hb dX7_put_0 rfl (lv_at hl 0 rfl) ?_
  refine rM_1 hx hb hwX7 hown hK hP 0 (xM) rfl rfl (hts _ (List.mem_of_getElem? (i := 1) rfl)) dX7_put_1 ?_
  refine lv_istore (lv' := [(5, .int ((gI uM 1))), (0, .ref (xM 0)), (1, .int l1), (2, .int l2), (3, .int l3), (4, .int l4)]) hx hb dX7_put_4 hl (by decide) rfl (fun ls hl => ?_)
  refine lv_aload_n hx hb dX7_put_6 rfl (lv_at hl 1 rfl) ?_
  refine lv_dup hx hb dX7_put_7 rfl ?_
  refine rM_1 hx hb hwX7 hown hK hP 0 (xM) rfl rfl (hts _ (List.mem_of_getElem? (i := 1) rfl)) dX7_put_8 ?_
  refine lv_iconst (v := 1) hx hb dX7_put_11 (by decide) ?_
  refine lv_iadd hx hb dX7_put_12 ?_
  refine pM_1 hx hb hwX7 hown hK hP hD hS 0 (xM) rfl rfl (hts _ (List.mem_of_getElem? (i := 1) rfl)) dX7_put_13 (fun H locs hP hS => ?_)
  replace hP : zP G [shM G xM] [(sI uM 1 (((gI uM 1) + (1 : Int32))))] H := hP
  refine lv_aload_n hx hb dX7_put_16 rfl (lv_at hl 1 rfl) ?_
  refine rM_2 hx hb hwX7 hown hK hP 0 (xM) rfl rfl (hts _ (List.mem_of_getElem? (i := 2) rfl)) dX7_put_17 ?_
  refine lv_iload hx hb dX7_put_20 (lv_at hl 0 rfl) ?_
  refine lv_iload_n hx hb dX7_put_22 rfl (lv_at hl 2 rfl) ?_
  obtain ⟨hi, h⟩ := zin_e h
  refine tM_2 hx hb hK hP hD hS 0 (xM) rfl rfl hi rfl dX7_put_23 (fun H locs hP hS => ?_)
  replace hP : zP G [shM G xM] [(sA ((sI uM 1 (((gI uM 1) + (1 : Int32))))) 2 ((gI uM 1)).toNatClampNeg l1)] H := hP
  refine lv_aload_n hx hb dX7_put_24 rfl (lv_at hl 1 rfl) ?_
  refine rM_3 hx hb hwX7 hown hK hP 0 (xM) rfl rfl (hts _ (List.mem_of_getElem? (i := 3) rfl)) dX7_put_25 ?_
  refine lv_bipush (v := 6) hx hb dX7_put_28 (by decide) ?_
  refine lv_iload hx hb dX7_put_30 (lv_at hl 0 rfl) ?_
  refine lv_imul hx hb dX7_put_32 ?_
  refine lv_iload_n hx hb dX7_put_33 rfl (lv_at hl 3 rfl) ?_
  obtain ⟨hi, h⟩ := zin_e h
  refine tM_3 hx hb hK hP hD hS 0 (xM) rfl rfl hi rfl dX7_put_34 (fun H locs hP hS => ?_)
  replace hP : zP G [shM G xM] [(sA ((sA ((sI uM 1 (((gI uM 1) + (1 : Int32))))) 2 ((gI uM 1)).toNatClampNeg l1)) 3 (((6 : Int32) * (gI uM 1))).toNatClampNeg l2)] H := hP
  refine lv_aload_n hx hb dX7_put_35 rfl (lv_at hl 1 rfl) ?_
  refine rM_3 hx hb hwX7 hown hK hP 0 (xM) rfl rfl (hts _ (List.mem_of_getElem? (i := 3) rfl)) dX7_put_36 ?_
  refine lv_bipush (v := 6) hx hb dX7_put_39 (by decide) ?_
  refine lv_iload hx hb dX7_put_41 (lv_at hl 0 rfl) ?_
  refine lv_imul hx hb dX7_put_43 ?_
  refine lv_iconst (v := 1) hx hb dX7_put_44 (by decide) ?_
  refine lv_iadd hx hb dX7_put_45 ?_
  refine lv_iload_n hx hb dX7_put_46 rfl (lv_at hl 4 rfl) ?_
  obtain ⟨hi, h⟩ := zin_e h
  refine tM_3 hx hb hK hP hD hS 0 (xM) rfl rfl hi rfl dX7_put_47 (fun H locs hP hS => ?_)
  replace hP : zP G [shM G xM] [(sA ((sA ((sA ((sI uM 1 (((gI uM 1) + (1 : Int32))))) 2 ((gI uM 1)).toNatClampNeg l1)) 3 (((6 : Int32) * (gI uM 1))).toNatClampNeg l2)) 3 ((((6 : Int32) * (gI uM 1)) + (1 : Int32))).toNatClampNeg l3)] H := hP
  refine lv_aload_n hx hb dX7_put_48 rfl (lv_at hl 1 rfl) ?_
  refine rM_3 hx hb hwX7 hown hK hP 0 (xM) rfl rfl (hts _ (List.mem_of_getElem? (i := 3) rfl)) dX7_put_49 ?_
  refine lv_bipush (v := 6) hx hb dX7_put_52 (by decide) ?_
  refine lv_iload hx hb dX7_put_54 (lv_at hl 0 rfl) ?_
  refine lv_imul hx hb dX7_put_56 ?_
  refine lv_iconst (v := 2) hx hb dX7_put_57 (by decide) ?_
  refine lv_iadd hx hb dX7_put_58 ?_
  refine lv_iload hx hb dX7_put_59 (lv_at hl 5 rfl) ?_
  obtain ⟨hi, h⟩ := zin_e h
  refine tM_3 hx hb hK hP hD hS 0 (xM) rfl rfl hi rfl dX7_put_61 (fun H locs hP hS => ?_)
  replace hP : zP G [shM G xM] [(sA ((sA ((sA ((sA ((sI uM 1 (((gI uM 1) + (1 : Int32))))) 2 ((gI uM 1)).toNatClampNeg l1)) 3 (((6 : Int32) * (gI uM 1))).toNatClampNeg l2)) 3 ((((6 : Int32) * (gI uM 1)) + (1 : Int32))).toNatClampNeg l3)) 3 ((((6 : Int32) * (gI uM 1)) + (2 : Int32))).toNatClampNeg l4)] H := hP
  refine lv_iconst (v := 3) hx hb dX7_put_62 (by decide) ?_
  refine lv_istore (lv' := [(6, .int ((3 : Int32))), (5, .int ((gI uM 1))), (0, .ref (xM 0)), (1, .int l1), (2, .int l2), (3, .int l3), (4, .int l4)]) hx hb dX7_put_63 hl (by decide) rfl (fun ls hl => ?_)
  exact tlX7_put_65 C0 hK hN hD  1000 _ _ _ h _ _ hP hS _ (lv_sub hl [2, 1, 0] rfl)
end
def rmX7_noRoom : Room := { frames := 0, cells := 0, slots := 0, locals := 0 }
theorem kvX7_noRoom : yX7_noRoom.cls = RX7 ∧ yX7_noRoom.cls ≠ "java/lang/invoke/MethodHandle" ∧ yX7_noRoom.cls ≠ "java/lang/invoke/VarHandle" ∧ (parseMethodDescriptor yX7_noRoom.desc).map (fun d => d.parameters.length) = some 1 := by decide +kernel
section
variable {p : Program} {l : Launch} {e : Env} {s : State} {m : MethodId} {args : Array Value} {below : List Frame} {meth : Method} {c : Code} {G : zG} {xM : Nat → Nat} {rr : Int32}
set_option maxRecDepth 20000 in
theorem mX7_noRoom (l : Launch) (G : zG) (xM : Nat → Nat) {uM : zSt} {l1 : Int32} {rr : Int32} (h : fX7_noRoom uM l1 = some rr) : zC l yX7_noRoom wsX7_noRoom rmX7_noRoom [.ref (xM 0), .int l1] G [shM G xM] [uM] [uM] (some (.int rr)) := by
  refine z_ofW (cc := cX7_noRoom) (maxL := 2) (ret := some .boolean) (by decide) rfl (Nat.le_of_ble_eq_true rfl) ?_
  intro p e s m args below meth c C0 hK hN hD hP ls hl
  obtain ⟨hx, hb, hr, hml, hown, hts, hlk⟩ := id C0
  have hS : va_S (zA [shM G xM] s.heap.size) s.heap s.heap [] := va_S.rf
  replace hl : lv_has ls 2 [(0, .ref (xM 0)), (1, .int l1)] := hl
  have hwX7 : ∀ w ∈ wsX70, w.before args s = true := fun w h => hts w (List.mem_cons_of_mem _ (List.mem_append_right _ h))
  unfold fX7_noRoom at h
  refine lv_aload_n hx hb dX7_noRoom_0 rfl (lv_at hl 0 rfl) ?_
  refine rM_1 hx hb hwX7 hown hK hP 0 (xM) rfl rfl (hts _ (List.mem_of_getElem? (i := 1) rfl)) dX7_noRoom_1 ?_
  refine lv_iload_n hx hb dX7_noRoom_4 rfl (lv_at hl 1 rfl) ?_
  refine lv_iadd hx hb dX7_noRoom_5 ?_
  refine lv_sipush (v := 160) hx hb dX7_noRoom_6 (by decide) ?_
  refine lv_icmp_le (tgt := 16) hx hb dX7_noRoom_9 (by decide) (fun hc => ?_) (fun hc => ?_)
  · replace h := zt hc h
    refine lv_iconst (v := 0) hx hb dX7_noRoom_16 (by decide) ?_
    cases h
    exact z_zret hx hb hr hlk rfl hP hS dX7_noRoom_17
  · replace h := zf hc h
    refine lv_iconst (v := 1) hx hb dX7_noRoom_12 (by decide) ?_
    refine lv_goto (tgt := 17) hx hb dX7_noRoom_13 (by decide) ?_
    cases h
    exact z_zret hx hb hr hlk rfl hP hS dX7_noRoom_17
end
def rmX7_begin : Room := { frames := 1, cells := 0, slots := 0, locals := 26 }
theorem kvX7_begin : yX7_begin.cls = RX7 ∧ yX7_begin.cls ≠ "java/lang/invoke/MethodHandle" ∧ yX7_begin.cls ≠ "java/lang/invoke/VarHandle" ∧ (parseMethodDescriptor yX7_begin.desc).map (fun d => d.parameters.length) = some 3 := by decide +kernel
section
variable {p : Program} {l : Launch} {e : Env} {s : State} {m : MethodId} {args : Array Value} {below : List Frame} {meth : Method} {c : Code} {G : zG} {xM : Nat → Nat} {vM : zSt}
set_option maxRecDepth 20000 in
theorem tlX7_begin_103 (C0 : zCtx p s m args meth c cX7_begin RX7 wsX7_begin 5 none) (hK : zK G s) (hN : zN s) (hD : zD [shM G xM])  : ∀ (n : Nat), ∀ (uM : zSt) (l4 : Int32), lX7_begin_103  n uM l4 = some vM → ∀ (H : Heap) (locs : List Loc), zP G [shM G xM] [uM] H → va_S (zA [shM G xM] s.heap.size) s.heap H locs → ∀ ls : Array Slot, lv_has ls 5 [(0, .ref (xM 0)), (4, .int l4)] → W p l e rmX7_begin s m args below meth c H locs 0 0 (MQ below (zQ G [shM G xM] [vM] (zA [shM G xM] s.heap.size) none) args s 0 0 (zA [shM G xM] s.heap.size)) (F0 m 103 ls []) := by
  obtain ⟨hx, hb, hr, hml, hown, hts, hlk⟩ := id C0
  have hwX7 : ∀ w ∈ wsX70, w.before args s = true := fun w h => hts w (List.mem_cons_of_mem _ (List.mem_append_right _ h))
  intro n
  induction n with
  | zero => intro uM l4 h; exact absurd h (fun q => nomatch q)
  | succ n K103 =>
    intro uM l4 h H locs hP hS ls hl
    replace h : bX7_begin_103  (lX7_begin_103  n) uM l4 = some vM := h
    unfold bX7_begin_103 at h
    refine lv_iload hx hb dX7_begin_103 (lv_at hl 1 rfl) ?_
    refine lv_bipush (v := 10) hx hb dX7_begin_105 (by decide) ?_
    refine lv_icmp_ge (tgt := 132) hx hb dX7_begin_107 (by decide) (fun hc => ?_) (fun hc => ?_)
    · replace h := zt hc h
      refine lv_aload_n hx hb dX7_begin_132 rfl (lv_at hl 0 rfl) ?_
      refine lv_iconst (v := 0) hx hb dX7_begin_133 (by decide) ?_
      refine pM_11 hx hb hwX7 hown hK hP hD hS 0 (xM) rfl rfl (hts _ (List.mem_of_getElem? (i := 7) rfl)) dX7_begin_134 (fun H locs hP hS => ?_)
      replace hP : zP G [shM G xM] [(sI uM 11 ((0 : Int32)))] H := hP
      refine lv_aload_n hx hb dX7_begin_137 rfl (lv_at hl 0 rfl) ?_
      refine lv_iconst (v := 0) hx hb dX7_begin_138 (by decide) ?_
      refine pM_1 hx hb hwX7 hown hK hP hD hS 0 (xM) rfl rfl (hts _ (List.mem_of_getElem? (i := 8) rfl)) dX7_begin_139 (fun H locs hP hS => ?_)
      replace hP : zP G [shM G xM] [(sI ((sI uM 11 ((0 : Int32)))) 1 ((0 : Int32)))] H := hP
      refine lv_aload_n hx hb dX7_begin_142 rfl (lv_at hl 0 rfl) ?_
      refine lv_iconst (v := 0) hx hb dX7_begin_143 (by decide) ?_
      refine lv_aload_n hx hb dX7_begin_144 rfl (lv_at hl 0 rfl) ?_
      refine rM_6 hx hb hwX7 hown hK hP 0 (xM) rfl rfl (hts _ (List.mem_of_getElem? (i := 3) rfl)) dX7_begin_145 ?_
      refine lv_iconst (v := 0) hx hb dX7_begin_148 (by decide) ?_
      refine aM_6 hx hb hK hP 0 (xM) rfl rfl (zvi tn_0 n0_0 (by decide)) tn_0 dX7_begin_149 ?_
      refine lv_aload_n hx hb dX7_begin_150 rfl (lv_at hl 0 rfl) ?_
      refine rM_6 hx hb hwX7 hown hK hP 0 (xM) rfl rfl (hts _ (List.mem_of_getElem? (i := 3) rfl)) dX7_begin_151 ?_
      refine lv_iconst (v := 1) hx hb dX7_begin_154 (by decide) ?_
      refine aM_6 hx hb hK hP 0 (xM) rfl rfl (zvi tn_1 n0_1 (by decide)) tn_1 dX7_begin_155 ?_
      refine lv_aload_n hx hb dX7_begin_156 rfl (lv_at hl 0 rfl) ?_
      refine rM_6 hx hb hwX7 hown hK hP 0 (xM) rfl rfl (hts _ (List.mem_of_getElem? (i := 3) rfl)) dX7_begin_157 ?_
      refine lv_iconst (v := 2) hx hb dX7_begin_160 (by decide) ?_
      refine aM_6 hx hb hK hP 0 (xM) rfl rfl (zvi tn_2 n0_2 (by decide)) tn_2 dX7_begin_161 ?_
      obtain ⟨r_1, uM_2, hg, h⟩ := zb2_e h
      refine z_callV (As := [.int ((0 : Int32)), .int ((gA ((sI ((sI uM 11 ((0 : Int32)))) 1 ((0 : Int32)))) 6 0)), .int ((gA ((sI ((sI uM 11 ((0 : Int32)))) 1 ((0 : Int32)))) 6 1)), .int ((gA ((sI ((sI uM 11 ((0 : Int32)))) 1 ((0 : Int32)))) 6 2))]) (rest := []) (i := 0) ⟨hx, hb, hml, hown, hts⟩ (mX7_put l G (xM) hg) (cwV 4 hts gX7_begin_X7_put rfl rfl rfl kvX7_put ⟨Nat.le_of_ble_eq_true rfl, Nat.le_of_ble_eq_true rfl⟩) rfl hP hD hK hN hS (Nat.le_refl _) [0] rfl rfl rfl rfl 0 rfl rfl rfl rfl rfl hl.1 rfl (Nat.le_of_ble_eq_true rfl) dX7_begin_162 ⟨Nat.zero_le _, Nat.zero_le _⟩ (fun H locs hP hS => ?_)
      replace hP : zP G [shM G xM] [uM_2] H := hP
      refine lv_pop hx hb dX7_begin_165 rfl ?_
      refine lv_aload_n hx hb dX7_begin_166 rfl (lv_at hl 0 rfl) ?_
      refine lv_iconst (v := 1) hx hb dX7_begin_167 (by decide) ?_
      refine pM_4 hx hb hwX7 hown hK hP hD hS 0 (xM) rfl rfl (hts _ (List.mem_of_getElem? (i := 9) rfl)) dX7_begin_168 (fun H locs hP hS => ?_)
      replace hP : zP G [shM G xM] [(sI uM_2 4 ((1 : Int32)))] H := hP
      cases h
      exact z_vret hx hb hr hlk hP hS dX7_begin_171
    · replace h := zf hc h
      refine lv_aload_n hx hb dX7_begin_110 rfl (lv_at hl 0 rfl) ?_
      refine rM_7 hx hb hwX7 hown hK hP 0 (xM) rfl rfl (hts _ (List.mem_of_getElem? (i := 5) rfl)) dX7_begin_111 ?_
      refine lv_iload hx hb dX7_begin_114 (lv_at hl 1 rfl) ?_
      refine lv_iconst (v := 0) hx hb dX7_begin_116 (by decide) ?_
      obtain ⟨hi, h⟩ := zin_e h
      refine tM_7 hx hb hK hP hD hS 0 (xM) rfl rfl hi rfl vnb_0 dX7_begin_117 (fun H locs hP hS => ?_)
      replace hP : zP G [shM G xM] [(sA uM 7 l4.toNatClampNeg ((0 : Int32)))] H := hP
      refine lv_aload_n hx hb dX7_begin_118 rfl (lv_at hl 0 rfl) ?_
      refine rM_8 hx hb hwX7 hown hK hP 0 (xM) rfl rfl (hts _ (List.mem_of_getElem? (i := 6) rfl)) dX7_begin_119 ?_
      refine lv_iload hx hb dX7_begin_122 (lv_at hl 1 rfl) ?_
      refine lv_iconst (v := 0) hx hb dX7_begin_124 (by decide) ?_
      obtain ⟨hi, h⟩ := zin_e h
      refine tM_8 hx hb hK hP hD hS 0 (xM) rfl rfl hi rfl vnb_0 dX7_begin_125 (fun H locs hP hS => ?_)
      replace hP : zP G [shM G xM] [(sA ((sA uM 7 l4.toNatClampNeg ((0 : Int32)))) 8 l4.toNatClampNeg ((0 : Int32)))] H := hP
      refine lv_iinc (v := (l4 + (1 : Int32))) (lv' := [(4, .int ((l4 + (1 : Int32)))), (0, .ref (xM 0))]) hx hb dX7_begin_126 hl (k := 1) rfl rfl (by decide) rfl (fun ls hl => ?_)
      refine lv_goto (tgt := 103) hx hb dX7_begin_129 (by decide) ?_
      exact K103 _ _ h _ _ hP hS _ (lv_sub hl [1, 0] rfl)
set_option maxRecDepth 20000 in
theorem tlX7_begin_62 (C0 : zCtx p s m args meth c cX7_begin RX7 wsX7_begin 5 none) (hK : zK G s) (hN : zN s) (hD : zD [shM G xM])  : ∀ (n : Nat), ∀ (uM : zSt) (l4 : Int32), lX7_begin_62  n uM l4 = some vM → ∀ (H : Heap) (locs : List Loc), zP G [shM G xM] [uM] H → va_S (zA [shM G xM] s.heap.size) s.heap H locs → ∀ ls : Array Slot, lv_has ls 5 [(0, .ref (xM 0)), (4, .int l4)] → W p l e rmX7_begin s m args below meth c H locs 0 0 (MQ below (zQ G [shM G xM] [vM] (zA [shM G xM] s.heap.size) none) args s 0 0 (zA [shM G xM] s.heap.size)) (F0 m 62 ls []) := by
  obtain ⟨hx, hb, hr, hml, hown, hts, hlk⟩ := id C0
  have hwX7 : ∀ w ∈ wsX70, w.before args s = true := fun w h => hts w (List.mem_cons_of_mem _ (List.mem_append_right _ h))
  intro n
  induction n with
  | zero => intro uM l4 h; exact absurd h (fun q => nomatch q)
  | succ n K62 =>
    intro uM l4 h H locs hP hS ls hl
    replace h : bX7_begin_62  (lX7_begin_62  n) uM l4 = some vM := h
    unfold bX7_begin_62 at h
    refine lv_iload hx hb dX7_begin_62 (lv_at hl 1 rfl) ?_
    refine lv_iconst (v := 3) hx hb dX7_begin_64 (by decide) ?_
    refine lv_icmp_ge (tgt := 100) hx hb dX7_begin_65 (by decide) (fun hc => ?_) (fun hc => ?_)
    · replace h := zt hc h
      refine lv_iconst (v := 0) hx hb dX7_begin_100 (by decide) ?_
      refine lv_istore (lv' := [(4, .int ((0 : Int32))), (0, .ref (xM 0))]) hx hb dX7_begin_101 hl (by decide) rfl (fun ls hl => ?_)
      exact tlX7_begin_103 C0 hK hN hD  1000 _ _ h _ _ hP hS _ (lv_sub hl [1, 0] rfl)
    · replace h := zf hc h
      refine lv_aload_n hx hb dX7_begin_68 rfl (lv_at hl 0 rfl) ?_
      refine rM_6 hx hb hwX7 hown hK hP 0 (xM) rfl rfl (hts _ (List.mem_of_getElem? (i := 3) rfl)) dX7_begin_69 ?_
      refine lv_iload hx hb dX7_begin_72 (lv_at hl 1 rfl) ?_
      refine lv_iconst (v := 4) hx hb dX7_begin_74 (by decide) ?_
      refine lv_aload_n hx hb dX7_begin_75 rfl (lv_at hl 0 rfl) ?_
      refine rM_5 hx hb hwX7 hown hK hP 0 (xM) rfl rfl (hts _ (List.mem_of_getElem? (i := 2) rfl)) dX7_begin_76 ?_
      refine lv_iload hx hb dX7_begin_79 (lv_at hl 1 rfl) ?_
      obtain ⟨hi, h⟩ := zin_e h
      refine aM_5 hx hb hK hP 0 (xM) rfl rfl hi rfl dX7_begin_81 ?_
      obtain ⟨r_3, hg, h⟩ := zb1_e h
      refine z_callS (As := [.int ((4 : Int32)), .int ((gA uM 5 l4.toNatClampNeg))]) (rest := [.int l4, .ref (xM 4)]) ⟨hx, hb, hml, hown, hts⟩ (mX7_power l G  hg) (va_cwS 2 hts gX7_begin_X7_power rfl rfl rfl ksX7_power ⟨Nat.le_of_ble_eq_true rfl, Nat.le_of_ble_eq_true rfl⟩) hP hD hK hN hS (Nat.le_refl _) [] rfl rfl rfl rfl rfl hl.1 rfl (Nat.le_of_ble_eq_true rfl) dX7_begin_82 ⟨Nat.zero_le _, Nat.zero_le _⟩ (fun H locs hP hS => ?_)
      replace hP : zP G [shM G xM] [uM] H := hP
      obtain ⟨hi, h⟩ := zin_e h
      refine tM_6 hx hb hK hP hD hS 0 (xM) rfl rfl hi rfl dX7_begin_85 (fun H locs hP hS => ?_)
      replace hP : zP G [shM G xM] [(sA uM 6 l4.toNatClampNeg r_3)] H := hP
      refine lv_aload_n hx hb dX7_begin_86 rfl (lv_at hl 0 rfl) ?_
      refine rM_14 hx hb hwX7 hown hK hP 0 (xM) rfl rfl (hts _ (List.mem_of_getElem? (i := 4) rfl)) dX7_begin_87 ?_
      refine lv_iload hx hb dX7_begin_90 (lv_at hl 1 rfl) ?_
      refine lv_iconst (v := 0) hx hb dX7_begin_92 (by decide) ?_
      obtain ⟨hi, h⟩ := zin_e h
      refine tM_14 hx hb hK hP hD hS 0 (xM) rfl rfl hi rfl vnb_0 dX7_begin_93 (fun H locs hP hS => ?_)
      replace hP : zP G [shM G xM] [(sA ((sA uM 6 l4.toNatClampNeg r_3)) 14 l4.toNatClampNeg ((0 : Int32)))] H := hP
      refine lv_iinc (v := (l4 + (1 : Int32))) (lv' := [(4, .int ((l4 + (1 : Int32)))), (0, .ref (xM 0))]) hx hb dX7_begin_94 hl (k := 1) rfl rfl (by decide) rfl (fun ls hl => ?_)
      refine lv_goto (tgt := 62) hx hb dX7_begin_97 (by decide) ?_
      exact K62 _ _ h _ _ hP hS _ (lv_sub hl [1, 0] rfl)
set_option maxRecDepth 20000 in
theorem tX7_begin_27 (C0 : zCtx p s m args meth c cX7_begin RX7 wsX7_begin 5 none) (hK : zK G s) (hN : zN s) (hD : zD [shM G xM])  : ∀ (uM : zSt) (l1 : Int32) (l2 : Int32) (l3 : Int32) (s1 : Int32), bX7_begin_27  uM l1 l2 l3 s1 = some vM → ∀ (H : Heap) (locs : List Loc), zP G [shM G xM] [uM] H → va_S (zA [shM G xM] s.heap.size) s.heap H locs → ∀ ls : Array Slot, lv_has ls 5 [(0, .ref (xM 0)), (1, .int l1), (2, .int l2), (3, .int l3)] → W p l e rmX7_begin s m args below meth c H locs 0 0 (MQ below (zQ G [shM G xM] [vM] (zA [shM G xM] s.heap.size) none) args s 0 0 (zA [shM G xM] s.heap.size)) (F0 m 27 ls [.int s1, .ref (xM 0)]) := by
  obtain ⟨hx, hb, hr, hml, hown, hts, hlk⟩ := id C0
  have hwX7 : ∀ w ∈ wsX70, w.before args s = true := fun w h => hts w (List.mem_cons_of_mem _ (List.mem_append_right _ h))
  intro uM l1 l2 l3 s1 h H locs hP hS ls hl
  unfold bX7_begin_27 at h
  refine pM_0 hx hb hwX7 hown hK hP hD hS 0 (xM) rfl rfl (hts _ (List.mem_of_getElem? (i := 1) rfl)) dX7_begin_27 (fun H locs hP hS => ?_)
  replace hP : zP G [shM G xM] [(sI uM 0 s1)] H := hP
  refine lv_aload_n hx hb dX7_begin_30 rfl (lv_at hl 0 rfl) ?_
  refine rM_0 hx hb hwX7 hown hK hP 0 (xM) rfl rfl (hts _ (List.mem_of_getElem? (i := 1) rfl)) dX7_begin_31 ?_
  refine lv_if_le (tgt := 38) hx hb dX7_begin_34 (by decide) (fun hc => ?_) (fun hc => ?_)
  · replace h := zt hc h
    refine lv_aload_n hx hb dX7_begin_38 rfl (lv_at hl 0 rfl) ?_
    refine rM_5 hx hb hwX7 hown hK hP 0 (xM) rfl rfl (hts _ (List.mem_of_getElem? (i := 2) rfl)) dX7_begin_39 ?_
    refine lv_iconst (v := 0) hx hb dX7_begin_42 (by decide) ?_
    refine lv_iload_n hx hb dX7_begin_43 rfl (lv_at hl 1 rfl) ?_
    refine tM_5 hx hb hK hP hD hS 0 (xM) rfl rfl (zvi tn_0 n0_0 (by decide)) tn_0 dX7_begin_44 (fun H locs hP hS => ?_)
    replace hP : zP G [shM G xM] [(sA ((sI uM 0 s1)) 5 0 l1)] H := hP
    refine lv_aload_n hx hb dX7_begin_45 rfl (lv_at hl 0 rfl) ?_
    refine rM_5 hx hb hwX7 hown hK hP 0 (xM) rfl rfl (hts _ (List.mem_of_getElem? (i := 2) rfl)) dX7_begin_46 ?_
    refine lv_iconst (v := 1) hx hb dX7_begin_49 (by decide) ?_
    refine lv_iload_n hx hb dX7_begin_50 rfl (lv_at hl 2 rfl) ?_
    refine tM_5 hx hb hK hP hD hS 0 (xM) rfl rfl (zvi tn_1 n0_1 (by decide)) tn_1 dX7_begin_51 (fun H locs hP hS => ?_)
    replace hP : zP G [shM G xM] [(sA ((sA ((sI uM 0 s1)) 5 0 l1)) 5 1 l2)] H := hP
    refine lv_aload_n hx hb dX7_begin_52 rfl (lv_at hl 0 rfl) ?_
    refine rM_5 hx hb hwX7 hown hK hP 0 (xM) rfl rfl (hts _ (List.mem_of_getElem? (i := 2) rfl)) dX7_begin_53 ?_
    refine lv_iconst (v := 2) hx hb dX7_begin_56 (by decide) ?_
    refine lv_iload_n hx hb dX7_begin_57 rfl (lv_at hl 3 rfl) ?_
    refine tM_5 hx hb hK hP hD hS 0 (xM) rfl rfl (zvi tn_2 n0_2 (by decide)) tn_2 dX7_begin_58 (fun H locs hP hS => ?_)
    replace hP : zP G [shM G xM] [(sA ((sA ((sA ((sI uM 0 s1)) 5 0 l1)) 5 1 l2)) 5 2 l3)] H := hP
    refine lv_iconst (v := 0) hx hb dX7_begin_59 (by decide) ?_
    refine lv_istore (lv' := [(4, .int ((0 : Int32))), (0, .ref (xM 0)), (1, .int l1), (2, .int l2), (3, .int l3)]) hx hb dX7_begin_60 hl (by decide) rfl (fun ls hl => ?_)
    exact tlX7_begin_62 C0 hK hN hD  1000 _ _ h _ _ hP hS _ (lv_sub hl [1, 0] rfl)
  · replace h := zf hc h
    cases h
    exact z_vret hx hb hr hlk hP hS dX7_begin_37
set_option maxRecDepth 20000 in
theorem tX7_begin_26 (C0 : zCtx p s m args meth c cX7_begin RX7 wsX7_begin 5 none) (hK : zK G s) (hN : zN s) (hD : zD [shM G xM])  : ∀ (uM : zSt) (l1 : Int32) (l2 : Int32) (l3 : Int32), bX7_begin_26  uM l1 l2 l3 = some vM → ∀ (H : Heap) (locs : List Loc), zP G [shM G xM] [uM] H → va_S (zA [shM G xM] s.heap.size) s.heap H locs → ∀ ls : Array Slot, lv_has ls 5 [(0, .ref (xM 0)), (1, .int l1), (2, .int l2), (3, .int l3)] → W p l e rmX7_begin s m args below meth c H locs 0 0 (MQ below (zQ G [shM G xM] [vM] (zA [shM G xM] s.heap.size) none) args s 0 0 (zA [shM G xM] s.heap.size)) (F0 m 26 ls [.ref (xM 0)]) := by
  obtain ⟨hx, hb, hr, hml, hown, hts, hlk⟩ := id C0
  intro uM l1 l2 l3 h H locs hP hS ls hl
  unfold bX7_begin_26 at h
  refine lv_iconst (v := 1) hx hb dX7_begin_26 (by decide) ?_
  exact tX7_begin_27 C0 hK hN hD  _ _ _ _ _ h _ _ hP hS _ (lv_sub hl [0, 1, 2, 3] rfl)
set_option maxRecDepth 20000 in
theorem mX7_begin (l : Launch) (G : zG) (xM : Nat → Nat) {uM : zSt} {l1 : Int32} {l2 : Int32} {l3 : Int32} {vM : zSt} (h : fX7_begin uM l1 l2 l3 = some vM) : zC l yX7_begin wsX7_begin rmX7_begin [.ref (xM 0), .int l1, .int l2, .int l3] G [shM G xM] [uM] [vM] none := by
  refine z_ofW (cc := cX7_begin) (maxL := 5) (ret := none) (by decide) rfl (Nat.le_of_ble_eq_true rfl) ?_
  intro p e s m args below meth c C0 hK hN hD hP ls hl
  obtain ⟨hx, hb, hr, hml, hown, hts, hlk⟩ := id C0
  have hS : va_S (zA [shM G xM] s.heap.size) s.heap s.heap [] := va_S.rf
  replace hl : lv_has ls 5 [(0, .ref (xM 0)), (1, .int l1), (2, .int l2), (3, .int l3)] := hl
  unfold fX7_begin at h
  refine lv_aload_n hx hb dX7_begin_0 rfl (lv_at hl 0 rfl) ?_
  refine lv_iload_n hx hb dX7_begin_1 rfl (lv_at hl 1 rfl) ?_
  obtain ⟨r_4, hg, h⟩ := zb1_e h
  refine z_callS (As := [.int l1]) (rest := [.ref (xM 0)]) ⟨hx, hb, hml, hown, hts⟩ (mX7_isNumber l G  hg) (va_cwS 1 hts gX7_begin_X7_isNumber rfl rfl rfl ksX7_isNumber ⟨Nat.le_of_ble_eq_true rfl, Nat.le_of_ble_eq_true rfl⟩) hP hD hK hN hS (Nat.le_refl _) [] rfl rfl rfl rfl rfl hl.1 rfl (Nat.le_of_ble_eq_true rfl) dX7_begin_2 ⟨Nat.zero_le _, Nat.zero_le _⟩ (fun H locs hP hS => ?_)
  replace hP : zP G [shM G xM] [uM] H := hP
  refine lv_if_eq (tgt := 26) hx hb dX7_begin_5 (by decide) (fun hc => ?_) (fun hc => ?_)
  · replace h := zt hc h
    exact tX7_begin_26 C0 hK hN hD  _ _ _ _ h _ _ hP hS _ (lv_sub hl [0, 1, 2, 3] rfl)
  · replace h := zf hc h
    refine lv_iload_n hx hb dX7_begin_8 rfl (lv_at hl 2 rfl) ?_
    obtain ⟨r_5, hg, h⟩ := zb1_e h
    refine z_callS (As := [.int l2]) (rest := [.ref (xM 0)]) ⟨hx, hb, hml, hown, hts⟩ (mX7_isNumber l G  hg) (va_cwS 1 hts gX7_begin_X7_isNumber rfl rfl rfl ksX7_isNumber ⟨Nat.le_of_ble_eq_true rfl, Nat.le_of_ble_eq_true rfl⟩) hP hD hK hN hS (Nat.le_refl _) [] rfl rfl rfl rfl rfl hl.1 rfl (Nat.le_of_ble_eq_true rfl) dX7_begin_9 ⟨Nat.zero_le _, Nat.zero_le _⟩ (fun H locs hP hS => ?_)
    replace hP : zP G [shM G xM] [uM] H := hP
    refine lv_if_eq (tgt := 26) hx hb dX7_begin_12 (by decide) (fun hc => ?_) (fun hc => ?_)
    · replace h := zt hc h
      exact tX7_begin_26 C0 hK hN hD  _ _ _ _ h _ _ hP hS _ (lv_sub hl [0, 1, 2, 3] rfl)
    · replace h := zf hc h
      refine lv_iload_n hx hb dX7_begin_15 rfl (lv_at hl 3 rfl) ?_
      obtain ⟨r_6, hg, h⟩ := zb1_e h
      refine z_callS (As := [.int l3]) (rest := [.ref (xM 0)]) ⟨hx, hb, hml, hown, hts⟩ (mX7_isNumber l G  hg) (va_cwS 1 hts gX7_begin_X7_isNumber rfl rfl rfl ksX7_isNumber ⟨Nat.le_of_ble_eq_true rfl, Nat.le_of_ble_eq_true rfl⟩) hP hD hK hN hS (Nat.le_refl _) [] rfl rfl rfl rfl rfl hl.1 rfl (Nat.le_of_ble_eq_true rfl) dX7_begin_16 ⟨Nat.zero_le _, Nat.zero_le _⟩ (fun H locs hP hS => ?_)
      replace hP : zP G [shM G xM] [uM] H := hP
      refine lv_if_eq (tgt := 26) hx hb dX7_begin_19 (by decide) (fun hc => ?_) (fun hc => ?_)
      · replace h := zt hc h
        exact tX7_begin_26 C0 hK hN hD  _ _ _ _ h _ _ hP hS _ (lv_sub hl [0, 1, 2, 3] rfl)
      · replace h := zf hc h
        refine lv_iconst (v := 0) hx hb dX7_begin_22 (by decide) ?_
        refine lv_goto (tgt := 27) hx hb dX7_begin_23 (by decide) ?_
        exact tX7_begin_27 C0 hK hN hD  _ _ _ _ _ h _ _ hP hS _ (lv_sub hl [0, 1, 2, 3] rfl)
end
def rmX7_noVoter : Room := { frames := 0, cells := 0, slots := 0, locals := 0 }
theorem ksX7_noVoter : yX7_noVoter.cls ≠ "java/lang/invoke/MethodHandle" ∧ yX7_noVoter.cls ≠ "java/lang/invoke/VarHandle" ∧ (parseMethodDescriptor yX7_noVoter.desc).map (fun d => d.parameters.length) = some 1 := by decide +kernel
section
variable {p : Program} {l : Launch} {e : Env} {s : State} {m : MethodId} {args : Array Value} {below : List Frame} {meth : Method} {c : Code} {G : zG}  {rr : Int32}
set_option maxRecDepth 20000 in
theorem tX7_noVoter_10 (C0 : zCtx p s m args meth c cX7_noVoter RX7 wsX7_noVoter 1 (some .boolean)) (hK : zK G s) (hN : zN s) (hD : zD [])  : bX7_noVoter_10  = some rr → ∀ (H : Heap) (locs : List Loc), zP G [] [] H → va_S (zA [] s.heap.size) s.heap H locs → ∀ ls : Array Slot, lv_has ls 1 [] → W p l e rmX7_noVoter s m args below meth c H locs 0 0 (MQ below (zQ G [] [] (zA [] s.heap.size) (some (.int rr))) args s 0 0 (zA [] s.heap.size)) (F0 m 10 ls []) := by
  obtain ⟨hx, hb, hr, hml, hown, hts, hlk⟩ := id C0
  intro  h H locs hP hS ls hl
  unfold bX7_noVoter_10 at h
  refine lv_iconst (v := 1) hx hb dX7_noVoter_10 (by decide) ?_
  refine lv_goto (tgt := 15) hx hb dX7_noVoter_11 (by decide) ?_
  cases h
  exact z_zret hx hb hr hlk rfl hP hS dX7_noVoter_15
set_option maxRecDepth 20000 in
theorem mX7_noVoter (l : Launch) (G : zG)  {l0 : Int32} {rr : Int32} (h : fX7_noVoter l0 = some rr) : zC l yX7_noVoter wsX7_noVoter rmX7_noVoter [.int l0] G [] [] [] (some (.int rr)) := by
  refine z_ofW (cc := cX7_noVoter) (maxL := 1) (ret := some .boolean) (by decide) rfl (Nat.le_of_ble_eq_true rfl) ?_
  intro p e s m args below meth c C0 hK hN hD hP ls hl
  obtain ⟨hx, hb, hr, hml, hown, hts, hlk⟩ := id C0
  have hS : va_S (zA [] s.heap.size) s.heap s.heap [] := va_S.rf
  replace hl : lv_has ls 1 [(0, .int l0)] := hl
  unfold fX7_noVoter at h
  refine lv_iload_n hx hb dX7_noVoter_0 rfl (lv_at hl 0 rfl) ?_
  refine lv_if_lt (tgt := 10) hx hb dX7_noVoter_1 (by decide) (fun hc => ?_) (fun hc => ?_)
  · replace h := zt hc h
    exact tX7_noVoter_10 C0 hK hN hD   h _ _ hP hS _ (lv_sub hl [] rfl)
  · replace h := zf hc h
    refine lv_iload_n hx hb dX7_noVoter_4 rfl (lv_at hl 0 rfl) ?_
    refine lv_bipush (v := 9) hx hb dX7_noVoter_5 (by decide) ?_
    refine lv_icmp_le (tgt := 14) hx hb dX7_noVoter_7 (by decide) (fun hc => ?_) (fun hc => ?_)
    · replace h := zt hc h
      refine lv_iconst (v := 0) hx hb dX7_noVoter_14 (by decide) ?_
      cases h
      exact z_zret hx hb hr hlk rfl hP hS dX7_noVoter_15
    · replace h := zf hc h
      exact tX7_noVoter_10 C0 hK hN hD   h _ _ hP hS _ (lv_sub hl [] rfl)
end
def rmX7_register : Room := { frames := 1, cells := 0, slots := 0, locals := 26 }
theorem kvX7_register : yX7_register.cls = RX7 ∧ yX7_register.cls ≠ "java/lang/invoke/MethodHandle" ∧ yX7_register.cls ≠ "java/lang/invoke/VarHandle" ∧ (parseMethodDescriptor yX7_register.desc).map (fun d => d.parameters.length) = some 1 := by decide +kernel
section
variable {p : Program} {l : Launch} {e : Env} {s : State} {m : MethodId} {args : Array Value} {below : List Frame} {meth : Method} {c : Code} {G : zG} {xM : Nat → Nat} {vM : zSt}
set_option maxRecDepth 20000 in
theorem tX7_register_46 (C0 : zCtx p s m args meth c cX7_register RX7 wsX7_register 2 none) (hK : zK G s) (hN : zN s) (hD : zD [shM G xM])  : ∀ (uM : zSt) (l1 : Int32) (s1 : Int32), bX7_register_46  uM l1 s1 = some vM → ∀ (H : Heap) (locs : List Loc), zP G [shM G xM] [uM] H → va_S (zA [shM G xM] s.heap.size) s.heap H locs → ∀ ls : Array Slot, lv_has ls 2 [(0, .ref (xM 0)), (1, .int l1)] → W p l e rmX7_register s m args below meth c H locs 0 0 (MQ below (zQ G [shM G xM] [vM] (zA [shM G xM] s.heap.size) none) args s 0 0 (zA [shM G xM] s.heap.size)) (F0 m 46 ls [.int s1, .ref (xM 0)]) := by
  obtain ⟨hx, hb, hr, hml, hown, hts, hlk⟩ := id C0
  have hwX7 : ∀ w ∈ wsX70, w.before args s = true := fun w h => hts w (List.mem_cons_of_mem _ (List.mem_append_right _ h))
  intro uM l1 s1 h H locs hP hS ls hl
  unfold bX7_register_46 at h
  refine pM_0 hx hb hwX7 hown hK hP hD hS 0 (xM) rfl rfl (hts _ (List.mem_of_getElem? (i := 3) rfl)) dX7_register_46 (fun H locs hP hS => ?_)
  replace hP : zP G [shM G xM] [(sI uM 0 s1)] H := hP
  refine lv_aload_n hx hb dX7_register_49 rfl (lv_at hl 0 rfl) ?_
  refine rM_0 hx hb hwX7 hown hK hP 0 (xM) rfl rfl (hts _ (List.mem_of_getElem? (i := 3) rfl)) dX7_register_50 ?_
  refine lv_if_le (tgt := 57) hx hb dX7_register_53 (by decide) (fun hc => ?_) (fun hc => ?_)
  · replace h := zt hc h
    refine lv_aload_n hx hb dX7_register_57 rfl (lv_at hl 0 rfl) ?_
    refine rM_7 hx hb hwX7 hown hK hP 0 (xM) rfl rfl (hts _ (List.mem_of_getElem? (i := 2) rfl)) dX7_register_58 ?_
    refine lv_iload_n hx hb dX7_register_61 rfl (lv_at hl 1 rfl) ?_
    refine lv_iconst (v := 1) hx hb dX7_register_62 (by decide) ?_
    obtain ⟨hi, h⟩ := zin_e h
    refine tM_7 hx hb hK hP hD hS 0 (xM) rfl rfl hi rfl vnb_1 dX7_register_63 (fun H locs hP hS => ?_)
    replace hP : zP G [shM G xM] [(sA ((sI uM 0 s1)) 7 l1.toNatClampNeg ((1 : Int32)))] H := hP
    refine lv_aload_n hx hb dX7_register_64 rfl (lv_at hl 0 rfl) ?_
    refine lv_iconst (v := 1) hx hb dX7_register_65 (by decide) ?_
    refine lv_iload_n hx hb dX7_register_66 rfl (lv_at hl 1 rfl) ?_
    refine lv_iconst (v := 0) hx hb dX7_register_67 (by decide) ?_
    refine lv_iconst (v := 0) hx hb dX7_register_68 (by decide) ?_
    obtain ⟨r_1, uM_2, hg, h⟩ := zb2_e h
    refine z_callV (As := [.int ((1 : Int32)), .int l1, .int ((0 : Int32)), .int ((0 : Int32))]) (rest := []) (i := 0) ⟨hx, hb, hml, hown, hts⟩ (mX7_put l G (xM) hg) (cwV 4 hts gX7_register_X7_put rfl rfl rfl kvX7_put ⟨Nat.le_of_ble_eq_true rfl, Nat.le_of_ble_eq_true rfl⟩) rfl hP hD hK hN hS (Nat.le_refl _) [0] rfl rfl rfl rfl 0 rfl rfl rfl rfl rfl hl.1 rfl (Nat.le_of_ble_eq_true rfl) dX7_register_69 ⟨Nat.zero_le _, Nat.zero_le _⟩ (fun H locs hP hS => ?_)
    replace hP : zP G [shM G xM] [uM_2] H := hP
    refine lv_pop hx hb dX7_register_72 rfl ?_
    cases h
    exact z_vret hx hb hr hlk hP hS dX7_register_73
  · replace h := zf hc h
    cases h
    exact z_vret hx hb hr hlk hP hS dX7_register_56
set_option maxRecDepth 20000 in
theorem tX7_register_29 (C0 : zCtx p s m args meth c cX7_register RX7 wsX7_register 2 none) (hK : zK G s) (hN : zN s) (hD : zD [shM G xM])  : ∀ (uM : zSt) (l1 : Int32), bX7_register_29  uM l1 = some vM → ∀ (H : Heap) (locs : List Loc), zP G [shM G xM] [uM] H → va_S (zA [shM G xM] s.heap.size) s.heap H locs → ∀ ls : Array Slot, lv_has ls 2 [(0, .ref (xM 0)), (1, .int l1)] → W p l e rmX7_register s m args below meth c H locs 0 0 (MQ below (zQ G [shM G xM] [vM] (zA [shM G xM] s.heap.size) none) args s 0 0 (zA [shM G xM] s.heap.size)) (F0 m 29 ls [.ref (xM 0)]) := by
  obtain ⟨hx, hb, hr, hml, hown, hts, hlk⟩ := id C0
  intro uM l1 h H locs hP hS ls hl
  unfold bX7_register_29 at h
  refine lv_iconst (v := 2) hx hb dX7_register_29 (by decide) ?_
  refine lv_goto (tgt := 46) hx hb dX7_register_30 (by decide) ?_
  exact tX7_register_46 C0 hK hN hD  _ _ _ h _ _ hP hS _ (lv_sub hl [0, 1] rfl)
set_option maxRecDepth 20000 in
theorem mX7_register (l : Launch) (G : zG) (xM : Nat → Nat) {uM : zSt} {l1 : Int32} {vM : zSt} (h : fX7_register uM l1 = some vM) : zC l yX7_register wsX7_register rmX7_register [.ref (xM 0), .int l1] G [shM G xM] [uM] [vM] none := by
  refine z_ofW (cc := cX7_register) (maxL := 2) (ret := none) (by decide) rfl (Nat.le_of_ble_eq_true rfl) ?_
  intro p e s m args below meth c C0 hK hN hD hP ls hl
  obtain ⟨hx, hb, hr, hml, hown, hts, hlk⟩ := id C0
  have hS : va_S (zA [shM G xM] s.heap.size) s.heap s.heap [] := va_S.rf
  replace hl : lv_has ls 2 [(0, .ref (xM 0)), (1, .int l1)] := hl
  have hwX7 : ∀ w ∈ wsX70, w.before args s = true := fun w h => hts w (List.mem_cons_of_mem _ (List.mem_append_right _ h))
  unfold fX7_register at h
  refine lv_aload_n hx hb dX7_register_0 rfl (lv_at hl 0 rfl) ?_
  refine lv_iload_n hx hb dX7_register_1 rfl (lv_at hl 1 rfl) ?_
  obtain ⟨r_3, hg, h⟩ := zb1_e h
  refine z_callS (As := [.int l1]) (rest := [.ref (xM 0)]) ⟨hx, hb, hml, hown, hts⟩ (mX7_noVoter l G  hg) (va_cwS 1 hts gX7_register_X7_noVoter rfl rfl rfl ksX7_noVoter ⟨Nat.le_of_ble_eq_true rfl, Nat.le_of_ble_eq_true rfl⟩) hP hD hK hN hS (Nat.le_refl _) [] rfl rfl rfl rfl rfl hl.1 rfl (Nat.le_of_ble_eq_true rfl) dX7_register_2 ⟨Nat.zero_le _, Nat.zero_le _⟩ (fun H locs hP hS => ?_)
  replace hP : zP G [shM G xM] [uM] H := hP
  refine lv_if_eq (tgt := 12) hx hb dX7_register_5 (by decide) (fun hc => ?_) (fun hc => ?_)
  · replace h := zt hc h
    refine lv_aload_n hx hb dX7_register_12 rfl (lv_at hl 0 rfl) ?_
    refine rM_4 hx hb hwX7 hown hK hP 0 (xM) rfl rfl (hts _ (List.mem_of_getElem? (i := 1) rfl)) dX7_register_13 ?_
    refine lv_iconst (v := 1) hx hb dX7_register_16 (by decide) ?_
    refine lv_icmp_ne (tgt := 29) hx hb dX7_register_17 (by decide) (fun hc => ?_) (fun hc => ?_)
    · replace h := zf hc h
      exact tX7_register_29 C0 hK hN hD  _ _ h _ _ hP hS _ (lv_sub hl [0, 1] rfl)
    · replace h := zt hc h
      refine lv_aload_n hx hb dX7_register_20 rfl (lv_at hl 0 rfl) ?_
      refine rM_7 hx hb hwX7 hown hK hP 0 (xM) rfl rfl (hts _ (List.mem_of_getElem? (i := 2) rfl)) dX7_register_21 ?_
      refine lv_iload_n hx hb dX7_register_24 rfl (lv_at hl 1 rfl) ?_
      obtain ⟨hi, h⟩ := zin_e h
      refine aM_7 hx hb hK hP 0 (xM) rfl rfl hi rfl dX7_register_25 ?_
      refine lv_if_eq (tgt := 33) hx hb dX7_register_26 (by decide) (fun hc => ?_) (fun hc => ?_)
      · replace h := zt hc h
        refine lv_aload_n hx hb dX7_register_33 rfl (lv_at hl 0 rfl) ?_
        refine lv_iconst (v := 1) hx hb dX7_register_34 (by decide) ?_
        obtain ⟨r_4, hg, h⟩ := zb1_e h
        refine z_callV (As := [.int ((1 : Int32))]) (rest := [.ref (xM 0)]) (i := 0) ⟨hx, hb, hml, hown, hts⟩ (mX7_noRoom l G (xM) hg) (cwV 1 hts gX7_register_X7_noRoom rfl rfl rfl kvX7_noRoom ⟨Nat.le_of_ble_eq_true rfl, Nat.le_of_ble_eq_true rfl⟩) rfl hP hD hK hN hS (Nat.le_refl _) [0] rfl rfl rfl rfl 0 rfl rfl rfl rfl rfl hl.1 rfl (Nat.le_of_ble_eq_true rfl) dX7_register_35 ⟨Nat.zero_le _, Nat.zero_le _⟩ (fun H locs hP hS => ?_)
        replace hP : zP G [shM G xM] [uM] H := hP
        refine lv_if_eq (tgt := 45) hx hb dX7_register_38 (by decide) (fun hc => ?_) (fun hc => ?_)
        · replace h := zt hc h
          refine lv_iconst (v := 0) hx hb dX7_register_45 (by decide) ?_
          exact tX7_register_46 C0 hK hN hD  _ _ _ h _ _ hP hS _ (lv_sub hl [0, 1] rfl)
        · replace h := zf hc h
          refine lv_iconst (v := 3) hx hb dX7_register_41 (by decide) ?_
          refine lv_goto (tgt := 46) hx hb dX7_register_42 (by decide) ?_
          exact tX7_register_46 C0 hK hN hD  _ _ _ h _ _ hP hS _ (lv_sub hl [0, 1] rfl)
      · replace h := zf hc h
        exact tX7_register_29 C0 hK hN hD  _ _ h _ _ hP hS _ (lv_sub hl [0, 1] rfl)
  · replace h := zf hc h
    refine lv_iconst (v := 1) hx hb dX7_register_8 (by decide) ?_
    refine lv_goto (tgt := 46) hx hb dX7_register_9 (by decide) ?_
    exact tX7_register_46 C0 hK hN hD  _ _ _ h _ _ hP hS _ (lv_sub hl [0, 1] rfl)
end
def rmX7_publicKey : Room := { frames := 1, cells := 0, slots := 0, locals := 21 }
theorem kvX7_publicKey : yX7_publicKey.cls = RX7 ∧ yX7_publicKey.cls ≠ "java/lang/invoke/MethodHandle" ∧ yX7_publicKey.cls ≠ "java/lang/invoke/VarHandle" ∧ (parseMethodDescriptor yX7_publicKey.desc).map (fun d => d.parameters.length) = some 0 := by decide +kernel
section
variable {p : Program} {l : Launch} {e : Env} {s : State} {m : MethodId} {args : Array Value} {below : List Frame} {meth : Method} {c : Code} {G : zG} {xM : Nat → Nat} {rr : Int32}
set_option maxRecDepth 20000 in
theorem mX7_publicKey (l : Launch) (G : zG) (xM : Nat → Nat) {uM : zSt} {rr : Int32} (h : fX7_publicKey uM = some rr) : zC l yX7_publicKey wsX7_publicKey rmX7_publicKey [.ref (xM 0)] G [shM G xM] [uM] [uM] (some (.int rr)) := by
  refine z_ofW (cc := cX7_publicKey) (maxL := 1) (ret := some .int) (by decide) rfl (Nat.le_of_ble_eq_true rfl) ?_
  intro p e s m args below meth c C0 hK hN hD hP ls hl
  obtain ⟨hx, hb, hr, hml, hown, hts, hlk⟩ := id C0
  have hS : va_S (zA [shM G xM] s.heap.size) s.heap s.heap [] := va_S.rf
  replace hl : lv_has ls 1 [(0, .ref (xM 0))] := hl
  have hwX7 : ∀ w ∈ wsX70, w.before args s = true := fun w h => hts w (List.mem_cons_of_mem _ (List.mem_append_right _ h))
  unfold fX7_publicKey at h
  refine lv_aload_n hx hb dX7_publicKey_0 rfl (lv_at hl 0 rfl) ?_
  refine rM_6 hx hb hwX7 hown hK hP 0 (xM) rfl rfl (hts _ (List.mem_of_getElem? (i := 1) rfl)) dX7_publicKey_1 ?_
  refine lv_iconst (v := 0) hx hb dX7_publicKey_4 (by decide) ?_
  refine aM_6 hx hb hK hP 0 (xM) rfl rfl (zvi tn_0 n0_0 (by decide)) tn_0 dX7_publicKey_5 ?_
  refine lv_aload_n hx hb dX7_publicKey_6 rfl (lv_at hl 0 rfl) ?_
  refine rM_6 hx hb hwX7 hown hK hP 0 (xM) rfl rfl (hts _ (List.mem_of_getElem? (i := 1) rfl)) dX7_publicKey_7 ?_
  refine lv_iconst (v := 1) hx hb dX7_publicKey_10 (by decide) ?_
  refine aM_6 hx hb hK hP 0 (xM) rfl rfl (zvi tn_1 n0_1 (by decide)) tn_1 dX7_publicKey_11 ?_
  obtain ⟨r_1, hg, h⟩ := zb1_e h
  refine z_callS (As := [.int ((gA uM 6 0)), .int ((gA uM 6 1))]) (rest := []) ⟨hx, hb, hml, hown, hts⟩ (mX7_times l G  hg) (va_cwS 2 hts gX7_publicKey_X7_times rfl rfl rfl ksX7_times ⟨Nat.le_of_ble_eq_true rfl, Nat.le_of_ble_eq_true rfl⟩) hP hD hK hN hS (Nat.le_refl _) [] rfl rfl rfl rfl rfl hl.1 rfl (Nat.le_of_ble_eq_true rfl) dX7_publicKey_12 ⟨Nat.zero_le _, Nat.zero_le _⟩ (fun H locs hP hS => ?_)
  replace hP : zP G [shM G xM] [uM] H := hP
  refine lv_aload_n hx hb dX7_publicKey_15 rfl (lv_at hl 0 rfl) ?_
  refine rM_6 hx hb hwX7 hown hK hP 0 (xM) rfl rfl (hts _ (List.mem_of_getElem? (i := 1) rfl)) dX7_publicKey_16 ?_
  refine lv_iconst (v := 2) hx hb dX7_publicKey_19 (by decide) ?_
  refine aM_6 hx hb hK hP 0 (xM) rfl rfl (zvi tn_2 n0_2 (by decide)) tn_2 dX7_publicKey_20 ?_
  obtain ⟨r_2, hg, h⟩ := zb1_e h
  refine z_callS (As := [.int r_1, .int ((gA uM 6 2))]) (rest := []) ⟨hx, hb, hml, hown, hts⟩ (mX7_times l G  hg) (va_cwS 2 hts gX7_publicKey_X7_times rfl rfl rfl ksX7_times ⟨Nat.le_of_ble_eq_true rfl, Nat.le_of_ble_eq_true rfl⟩) hP hD hK hN hS (Nat.le_refl _) [] rfl rfl rfl rfl rfl hl.1 rfl (Nat.le_of_ble_eq_true rfl) dX7_publicKey_21 ⟨Nat.zero_le _, Nat.zero_le _⟩ (fun H locs hP hS => ?_)
  replace hP : zP G [shM G xM] [uM] H := hP
  cases h
  exact z_iret hx hb hr hlk hP hS dX7_publicKey_24
end
def rmX7_cast : Room := { frames := 2, cells := 0, slots := 0, locals := 41 }
theorem kvX7_cast : yX7_cast.cls = RX7 ∧ yX7_cast.cls ≠ "java/lang/invoke/MethodHandle" ∧ yX7_cast.cls ≠ "java/lang/invoke/VarHandle" ∧ (parseMethodDescriptor yX7_cast.desc).map (fun d => d.parameters.length) = some 3 := by decide +kernel
section
variable {p : Program} {l : Launch} {e : Env} {s : State} {m : MethodId} {args : Array Value} {below : List Frame} {meth : Method} {c : Code} {G : zG} {xM : Nat → Nat} {rr : Int32} {vM : zSt}
set_option maxRecDepth 20000 in
theorem tX7_cast_62 (C0 : zCtx p s m args meth c cX7_cast RX7 wsX7_cast 4 (some .int)) (hK : zK G s) (hN : zN s) (hD : zD [shM G xM])  : ∀ (uM : zSt) (l1 : Int32) (l2 : Int32) (l3 : Int32) (s1 : Int32), bX7_cast_62  uM l1 l2 l3 s1 = some (rr, vM) → ∀ (H : Heap) (locs : List Loc), zP G [shM G xM] [uM] H → va_S (zA [shM G xM] s.heap.size) s.heap H locs → ∀ ls : Array Slot, lv_has ls 4 [(0, .ref (xM 0)), (1, .int l1), (2, .int l2), (3, .int l3)] → W p l e rmX7_cast s m args below meth c H locs 0 0 (MQ below (zQ G [shM G xM] [vM] (zA [shM G xM] s.heap.size) (some (.int rr))) args s 0 0 (zA [shM G xM] s.heap.size)) (F0 m 62 ls [.int s1, .ref (xM 0)]) := by
  obtain ⟨hx, hb, hr, hml, hown, hts, hlk⟩ := id C0
  have hwX7 : ∀ w ∈ wsX70, w.before args s = true := fun w h => hts w (List.mem_cons_of_mem _ (List.mem_append_right _ h))
  intro uM l1 l2 l3 s1 h H locs hP hS ls hl
  unfold bX7_cast_62 at h
  refine pM_0 hx hb hwX7 hown hK hP hD hS 0 (xM) rfl rfl (hts _ (List.mem_of_getElem? (i := 3) rfl)) dX7_cast_62 (fun H locs hP hS => ?_)
  replace hP : zP G [shM G xM] [(sI uM 0 s1)] H := hP
  refine lv_aload_n hx hb dX7_cast_65 rfl (lv_at hl 0 rfl) ?_
  refine rM_0 hx hb hwX7 hown hK hP 0 (xM) rfl rfl (hts _ (List.mem_of_getElem? (i := 3) rfl)) dX7_cast_66 ?_
  refine lv_if_le (tgt := 74) hx hb dX7_cast_69 (by decide) (fun hc => ?_) (fun hc => ?_)
  · replace h := zt hc h
    refine lv_aload_n hx hb dX7_cast_74 rfl (lv_at hl 0 rfl) ?_
    refine rM_8 hx hb hwX7 hown hK hP 0 (xM) rfl rfl (hts _ (List.mem_of_getElem? (i := 4) rfl)) dX7_cast_75 ?_
    refine lv_iload_n hx hb dX7_cast_78 rfl (lv_at hl 1 rfl) ?_
    refine lv_iconst (v := 1) hx hb dX7_cast_79 (by decide) ?_
    obtain ⟨hi, h⟩ := zin_e h
    refine tM_8 hx hb hK hP hD hS 0 (xM) rfl rfl hi rfl vnb_1 dX7_cast_80 (fun H locs hP hS => ?_)
    replace hP : zP G [shM G xM] [(sA ((sI uM 0 s1)) 8 l1.toNatClampNeg ((1 : Int32)))] H := hP
    refine lv_aload_n hx hb dX7_cast_81 rfl (lv_at hl 0 rfl) ?_
    refine rM_9 hx hb hwX7 hown hK hP 0 (xM) rfl rfl (hts _ (List.mem_of_getElem? (i := 5) rfl)) dX7_cast_82 ?_
    refine lv_iload_n hx hb dX7_cast_85 rfl (lv_at hl 1 rfl) ?_
    refine lv_iconst (v := 4) hx hb dX7_cast_86 (by decide) ?_
    refine lv_iload_n hx hb dX7_cast_87 rfl (lv_at hl 3 rfl) ?_
    obtain ⟨r_1, hg, h⟩ := zb1_e h
    refine z_callS (As := [.int ((4 : Int32)), .int l3]) (rest := [.int l1, .ref (xM 7)]) ⟨hx, hb, hml, hown, hts⟩ (mX7_power l G  hg) (va_cwS 2 hts gX7_cast_X7_power rfl rfl rfl ksX7_power ⟨Nat.le_of_ble_eq_true rfl, Nat.le_of_ble_eq_true rfl⟩) hP hD hK hN hS (Nat.le_refl _) [] rfl rfl rfl rfl rfl hl.1 rfl (Nat.le_of_ble_eq_true rfl) dX7_cast_88 ⟨Nat.zero_le _, Nat.zero_le _⟩ (fun H locs hP hS => ?_)
    replace hP : zP G [shM G xM] [(sA ((sI uM 0 s1)) 8 l1.toNatClampNeg ((1 : Int32)))] H := hP
    obtain ⟨hi, h⟩ := zin_e h
    refine tM_9 hx hb hK hP hD hS 0 (xM) rfl rfl hi rfl dX7_cast_91 (fun H locs hP hS => ?_)
    replace hP : zP G [shM G xM] [(sA ((sA ((sI uM 0 s1)) 8 l1.toNatClampNeg ((1 : Int32)))) 9 l1.toNatClampNeg r_1)] H := hP
    refine lv_aload_n hx hb dX7_cast_92 rfl (lv_at hl 0 rfl) ?_
    refine rM_10 hx hb hwX7 hown hK hP 0 (xM) rfl rfl (hts _ (List.mem_of_getElem? (i := 6) rfl)) dX7_cast_93 ?_
    refine lv_iload_n hx hb dX7_cast_96 rfl (lv_at hl 1 rfl) ?_
    refine lv_iconst (v := 4) hx hb dX7_cast_97 (by decide) ?_
    refine lv_iload_n hx hb dX7_cast_98 rfl (lv_at hl 2 rfl) ?_
    obtain ⟨r_2, hg, h⟩ := zb1_e h
    refine z_callS (As := [.int ((4 : Int32)), .int l2]) (rest := [.int l1, .ref (xM 8)]) ⟨hx, hb, hml, hown, hts⟩ (mX7_power l G  hg) (va_cwS 2 hts gX7_cast_X7_power rfl rfl rfl ksX7_power ⟨Nat.le_of_ble_eq_true rfl, Nat.le_of_ble_eq_true rfl⟩) hP hD hK hN hS (Nat.le_refl _) [] rfl rfl rfl rfl rfl hl.1 rfl (Nat.le_of_ble_eq_true rfl) dX7_cast_99 ⟨Nat.zero_le _, Nat.zero_le _⟩ (fun H locs hP hS => ?_)
    replace hP : zP G [shM G xM] [(sA ((sA ((sI uM 0 s1)) 8 l1.toNatClampNeg ((1 : Int32)))) 9 l1.toNatClampNeg r_1)] H := hP
    refine lv_aload_n hx hb dX7_cast_102 rfl (lv_at hl 0 rfl) ?_
    obtain ⟨r_3, hg, h⟩ := zb1_e h
    refine z_callV (As := []) (rest := [.int r_2, .int l1, .ref (xM 8)]) (i := 0) ⟨hx, hb, hml, hown, hts⟩ (mX7_publicKey l G (xM) hg) (cwV 0 hts gX7_cast_X7_publicKey rfl rfl rfl kvX7_publicKey ⟨Nat.le_of_ble_eq_true rfl, Nat.le_of_ble_eq_true rfl⟩) rfl hP hD hK hN hS (Nat.le_refl _) [0] rfl rfl rfl rfl 0 rfl rfl rfl rfl rfl hl.1 rfl (Nat.le_of_ble_eq_true rfl) dX7_cast_103 ⟨Nat.zero_le _, Nat.zero_le _⟩ (fun H locs hP hS => ?_)
    replace hP : zP G [shM G xM] [(sA ((sA ((sI uM 0 s1)) 8 l1.toNatClampNeg ((1 : Int32)))) 9 l1.toNatClampNeg r_1)] H := hP
    refine lv_iload_n hx hb dX7_cast_106 rfl (lv_at hl 3 rfl) ?_
    obtain ⟨r_4, hg, h⟩ := zb1_e h
    refine z_callS (As := [.int r_3, .int l3]) (rest := [.int r_2, .int l1, .ref (xM 8)]) ⟨hx, hb, hml, hown, hts⟩ (mX7_power l G  hg) (va_cwS 2 hts gX7_cast_X7_power rfl rfl rfl ksX7_power ⟨Nat.le_of_ble_eq_true rfl, Nat.le_of_ble_eq_true rfl⟩) hP hD hK hN hS (Nat.le_refl _) [] rfl rfl rfl rfl rfl hl.1 rfl (Nat.le_of_ble_eq_true rfl) dX7_cast_107 ⟨Nat.zero_le _, Nat.zero_le _⟩ (fun H locs hP hS => ?_)
    replace hP : zP G [shM G xM] [(sA ((sA ((sI uM 0 s1)) 8 l1.toNatClampNeg ((1 : Int32)))) 9 l1.toNatClampNeg r_1)] H := hP
    obtain ⟨r_5, hg, h⟩ := zb1_e h
    refine z_callS (As := [.int r_2, .int r_4]) (rest := [.int l1, .ref (xM 8)]) ⟨hx, hb, hml, hown, hts⟩ (mX7_times l G  hg) (va_cwS 2 hts gX7_cast_X7_times rfl rfl rfl ksX7_times ⟨Nat.le_of_ble_eq_true rfl, Nat.le_of_ble_eq_true rfl⟩) hP hD hK hN hS (Nat.le_refl _) [] rfl rfl rfl rfl rfl hl.1 rfl (Nat.le_of_ble_eq_true rfl) dX7_cast_110 ⟨Nat.zero_le _, Nat.zero_le _⟩ (fun H locs hP hS => ?_)
    replace hP : zP G [shM G xM] [(sA ((sA ((sI uM 0 s1)) 8 l1.toNatClampNeg ((1 : Int32)))) 9 l1.toNatClampNeg r_1)] H := hP
    obtain ⟨hi, h⟩ := zin_e h
    refine tM_10 hx hb hK hP hD hS 0 (xM) rfl rfl hi rfl dX7_cast_113 (fun H locs hP hS => ?_)
    replace hP : zP G [shM G xM] [(sA ((sA ((sA ((sI uM 0 s1)) 8 l1.toNatClampNeg ((1 : Int32)))) 9 l1.toNatClampNeg r_1)) 10 l1.toNatClampNeg r_5)] H := hP
    refine lv_aload_n hx hb dX7_cast_114 rfl (lv_at hl 0 rfl) ?_
    refine lv_iconst (v := 2) hx hb dX7_cast_115 (by decide) ?_
    refine lv_iload_n hx hb dX7_cast_116 rfl (lv_at hl 1 rfl) ?_
    refine lv_aload_n hx hb dX7_cast_117 rfl (lv_at hl 0 rfl) ?_
    refine rM_9 hx hb hwX7 hown hK hP 0 (xM) rfl rfl (hts _ (List.mem_of_getElem? (i := 5) rfl)) dX7_cast_118 ?_
    refine lv_iload_n hx hb dX7_cast_121 rfl (lv_at hl 1 rfl) ?_
    obtain ⟨hi, h⟩ := zin_e h
    refine aM_9 hx hb hK hP 0 (xM) rfl rfl hi rfl dX7_cast_122 ?_
    refine lv_aload_n hx hb dX7_cast_123 rfl (lv_at hl 0 rfl) ?_
    refine rM_10 hx hb hwX7 hown hK hP 0 (xM) rfl rfl (hts _ (List.mem_of_getElem? (i := 6) rfl)) dX7_cast_124 ?_
    refine lv_iload_n hx hb dX7_cast_127 rfl (lv_at hl 1 rfl) ?_
    obtain ⟨hi, h⟩ := zin_e h
    refine aM_10 hx hb hK hP 0 (xM) rfl rfl hi rfl dX7_cast_128 ?_
    obtain ⟨r_6, uM_7, hg, h⟩ := zb2_e h
    refine z_callV (As := [.int ((2 : Int32)), .int l1, .int ((gA ((sA ((sA ((sA ((sI uM 0 s1)) 8 l1.toNatClampNeg ((1 : Int32)))) 9 l1.toNatClampNeg r_1)) 10 l1.toNatClampNeg r_5)) 9 l1.toNatClampNeg)), .int ((gA ((sA ((sA ((sA ((sI uM 0 s1)) 8 l1.toNatClampNeg ((1 : Int32)))) 9 l1.toNatClampNeg r_1)) 10 l1.toNatClampNeg r_5)) 10 l1.toNatClampNeg))]) (rest := []) (i := 0) ⟨hx, hb, hml, hown, hts⟩ (mX7_put l G (xM) hg) (cwV 4 hts gX7_cast_X7_put rfl rfl rfl kvX7_put ⟨Nat.le_of_ble_eq_true rfl, Nat.le_of_ble_eq_true rfl⟩) rfl hP hD hK hN hS (Nat.le_refl _) [0] rfl rfl rfl rfl 0 rfl rfl rfl rfl rfl hl.1 rfl (Nat.le_of_ble_eq_true rfl) dX7_cast_129 ⟨Nat.zero_le _, Nat.zero_le _⟩ (fun H locs hP hS => ?_)
    replace hP : zP G [shM G xM] [uM_7] H := hP
    cases h
    exact z_iret hx hb hr hlk hP hS dX7_cast_132
  · replace h := zf hc h
    refine lv_iconst (v := 0) hx hb dX7_cast_72 (by decide) ?_
    cases h
    exact z_iret hx hb hr hlk hP hS dX7_cast_73
set_option maxRecDepth 20000 in
theorem tX7_cast_24 (C0 : zCtx p s m args meth c cX7_cast RX7 wsX7_cast 4 (some .int)) (hK : zK G s) (hN : zN s) (hD : zD [shM G xM])  : ∀ (uM : zSt) (l1 : Int32) (l2 : Int32) (l3 : Int32), bX7_cast_24  uM l1 l2 l3 = some (rr, vM) → ∀ (H : Heap) (locs : List Loc), zP G [shM G xM] [uM] H → va_S (zA [shM G xM] s.heap.size) s.heap H locs → ∀ ls : Array Slot, lv_has ls 4 [(0, .ref (xM 0)), (1, .int l1), (2, .int l2), (3, .int l3)] → W p l e rmX7_cast s m args below meth c H locs 0 0 (MQ below (zQ G [shM G xM] [vM] (zA [shM G xM] s.heap.size) (some (.int rr))) args s 0 0 (zA [shM G xM] s.heap.size)) (F0 m 24 ls [.ref (xM 0)]) := by
  obtain ⟨hx, hb, hr, hml, hown, hts, hlk⟩ := id C0
  intro uM l1 l2 l3 h H locs hP hS ls hl
  unfold bX7_cast_24 at h
  refine lv_iconst (v := 1) hx hb dX7_cast_24 (by decide) ?_
  refine lv_goto (tgt := 62) hx hb dX7_cast_25 (by decide) ?_
  exact tX7_cast_62 C0 hK hN hD  _ _ _ _ _ h _ _ hP hS _ (lv_sub hl [0, 1, 2, 3] rfl)
set_option maxRecDepth 20000 in
theorem tX7_cast_45 (C0 : zCtx p s m args meth c cX7_cast RX7 wsX7_cast 4 (some .int)) (hK : zK G s) (hN : zN s) (hD : zD [shM G xM])  : ∀ (uM : zSt) (l1 : Int32) (l2 : Int32) (l3 : Int32), bX7_cast_45  uM l1 l2 l3 = some (rr, vM) → ∀ (H : Heap) (locs : List Loc), zP G [shM G xM] [uM] H → va_S (zA [shM G xM] s.heap.size) s.heap H locs → ∀ ls : Array Slot, lv_has ls 4 [(0, .ref (xM 0)), (1, .int l1), (2, .int l2), (3, .int l3)] → W p l e rmX7_cast s m args below meth c H locs 0 0 (MQ below (zQ G [shM G xM] [vM] (zA [shM G xM] s.heap.size) (some (.int rr))) args s 0 0 (zA [shM G xM] s.heap.size)) (F0 m 45 ls [.ref (xM 0)]) := by
  obtain ⟨hx, hb, hr, hml, hown, hts, hlk⟩ := id C0
  intro uM l1 l2 l3 h H locs hP hS ls hl
  unfold bX7_cast_45 at h
  refine lv_iconst (v := 2) hx hb dX7_cast_45 (by decide) ?_
  refine lv_goto (tgt := 62) hx hb dX7_cast_46 (by decide) ?_
  exact tX7_cast_62 C0 hK hN hD  _ _ _ _ _ h _ _ hP hS _ (lv_sub hl [0, 1, 2, 3] rfl)
set_option maxRecDepth 20000 in
theorem mX7_cast (l : Launch) (G : zG) (xM : Nat → Nat) {uM : zSt} {l1 : Int32} {l2 : Int32} {l3 : Int32} {rr : Int32} {vM : zSt} (h : fX7_cast uM l1 l2 l3 = some (rr, vM)) : zC l yX7_cast wsX7_cast rmX7_cast [.ref (xM 0), .int l1, .int l2, .int l3] G [shM G xM] [uM] [vM] (some (.int rr)) := by
  refine z_ofW (cc := cX7_cast) (maxL := 4) (ret := some .int) (by decide) rfl (Nat.le_of_ble_eq_true rfl) ?_
  intro p e s m args below meth c C0 hK hN hD hP ls hl
  obtain ⟨hx, hb, hr, hml, hown, hts, hlk⟩ := id C0
  have hS : va_S (zA [shM G xM] s.heap.size) s.heap s.heap [] := va_S.rf
  replace hl : lv_has ls 4 [(0, .ref (xM 0)), (1, .int l1), (2, .int l2), (3, .int l3)] := hl
  have hwX7 : ∀ w ∈ wsX70, w.before args s = true := fun w h => hts w (List.mem_cons_of_mem _ (List.mem_append_right _ h))
  unfold fX7_cast at h
  refine lv_aload_n hx hb dX7_cast_0 rfl (lv_at hl 0 rfl) ?_
  refine lv_iload_n hx hb dX7_cast_1 rfl (lv_at hl 1 rfl) ?_
  obtain ⟨r_8, hg, h⟩ := zb1_e h
  refine z_callS (As := [.int l1]) (rest := [.ref (xM 0)]) ⟨hx, hb, hml, hown, hts⟩ (mX7_noVoter l G  hg) (va_cwS 1 hts gX7_cast_X7_noVoter rfl rfl rfl ksX7_noVoter ⟨Nat.le_of_ble_eq_true rfl, Nat.le_of_ble_eq_true rfl⟩) hP hD hK hN hS (Nat.le_refl _) [] rfl rfl rfl rfl rfl hl.1 rfl (Nat.le_of_ble_eq_true rfl) dX7_cast_2 ⟨Nat.zero_le _, Nat.zero_le _⟩ (fun H locs hP hS => ?_)
  replace hP : zP G [shM G xM] [uM] H := hP
  refine lv_if_ne (tgt := 24) hx hb dX7_cast_5 (by decide) (fun hc => ?_) (fun hc => ?_)
  · replace h := zf hc h
    exact tX7_cast_24 C0 hK hN hD  _ _ _ _ h _ _ hP hS _ (lv_sub hl [0, 1, 2, 3] rfl)
  · replace h := zt hc h
    refine lv_iload_n hx hb dX7_cast_8 rfl (lv_at hl 2 rfl) ?_
    refine lv_if_lt (tgt := 24) hx hb dX7_cast_9 (by decide) (fun hc => ?_) (fun hc => ?_)
    · replace h := zt hc h
      exact tX7_cast_24 C0 hK hN hD  _ _ _ _ h _ _ hP hS _ (lv_sub hl [0, 1, 2, 3] rfl)
    · replace h := zf hc h
      refine lv_iload_n hx hb dX7_cast_12 rfl (lv_at hl 2 rfl) ?_
      refine lv_iconst (v := 3) hx hb dX7_cast_13 (by decide) ?_
      refine lv_icmp_gt (tgt := 24) hx hb dX7_cast_14 (by decide) (fun hc => ?_) (fun hc => ?_)
      · replace h := zt hc h
        exact tX7_cast_24 C0 hK hN hD  _ _ _ _ h _ _ hP hS _ (lv_sub hl [0, 1, 2, 3] rfl)
      · replace h := zf hc h
        refine lv_iload_n hx hb dX7_cast_17 rfl (lv_at hl 3 rfl) ?_
        obtain ⟨r_9, hg, h⟩ := zb1_e h
        refine z_callS (As := [.int l3]) (rest := [.ref (xM 0)]) ⟨hx, hb, hml, hown, hts⟩ (mX7_isNumber l G  hg) (va_cwS 1 hts gX7_cast_X7_isNumber rfl rfl rfl ksX7_isNumber ⟨Nat.le_of_ble_eq_true rfl, Nat.le_of_ble_eq_true rfl⟩) hP hD hK hN hS (Nat.le_refl _) [] rfl rfl rfl rfl rfl hl.1 rfl (Nat.le_of_ble_eq_true rfl) dX7_cast_18 ⟨Nat.zero_le _, Nat.zero_le _⟩ (fun H locs hP hS => ?_)
        replace hP : zP G [shM G xM] [uM] H := hP
        refine lv_if_ne (tgt := 28) hx hb dX7_cast_21 (by decide) (fun hc => ?_) (fun hc => ?_)
        · replace h := zf hc h
          refine lv_aload_n hx hb dX7_cast_28 rfl (lv_at hl 0 rfl) ?_
          refine rM_4 hx hb hwX7 hown hK hP 0 (xM) rfl rfl (hts _ (List.mem_of_getElem? (i := 1) rfl)) dX7_cast_29 ?_
          refine lv_iconst (v := 1) hx hb dX7_cast_32 (by decide) ?_
          refine lv_icmp_ne (tgt := 45) hx hb dX7_cast_33 (by decide) (fun hc => ?_) (fun hc => ?_)
          · replace h := zf hc h
            exact tX7_cast_45 C0 hK hN hD  _ _ _ _ h _ _ hP hS _ (lv_sub hl [0, 1, 2, 3] rfl)
          · replace h := zt hc h
            refine lv_aload_n hx hb dX7_cast_36 rfl (lv_at hl 0 rfl) ?_
            refine rM_7 hx hb hwX7 hown hK hP 0 (xM) rfl rfl (hts _ (List.mem_of_getElem? (i := 2) rfl)) dX7_cast_37 ?_
            refine lv_iload_n hx hb dX7_cast_40 rfl (lv_at hl 1 rfl) ?_
            obtain ⟨hi, h⟩ := zin_e h
            refine aM_7 hx hb hK hP 0 (xM) rfl rfl hi rfl dX7_cast_41 ?_
            refine lv_if_ne (tgt := 49) hx hb dX7_cast_42 (by decide) (fun hc => ?_) (fun hc => ?_)
            · replace h := zf hc h
              refine lv_aload_n hx hb dX7_cast_49 rfl (lv_at hl 0 rfl) ?_
              refine lv_iconst (v := 1) hx hb dX7_cast_50 (by decide) ?_
              obtain ⟨r_10, hg, h⟩ := zb1_e h
              refine z_callV (As := [.int ((1 : Int32))]) (rest := [.ref (xM 0)]) (i := 0) ⟨hx, hb, hml, hown, hts⟩ (mX7_noRoom l G (xM) hg) (cwV 1 hts gX7_cast_X7_noRoom rfl rfl rfl kvX7_noRoom ⟨Nat.le_of_ble_eq_true rfl, Nat.le_of_ble_eq_true rfl⟩) rfl hP hD hK hN hS (Nat.le_refl _) [0] rfl rfl rfl rfl 0 rfl rfl rfl rfl rfl hl.1 rfl (Nat.le_of_ble_eq_true rfl) dX7_cast_51 ⟨Nat.zero_le _, Nat.zero_le _⟩ (fun H locs hP hS => ?_)
              replace hP : zP G [shM G xM] [uM] H := hP
              refine lv_if_eq (tgt := 61) hx hb dX7_cast_54 (by decide) (fun hc => ?_) (fun hc => ?_)
              · replace h := zt hc h
                refine lv_iconst (v := 0) hx hb dX7_cast_61 (by decide) ?_
                exact tX7_cast_62 C0 hK hN hD  _ _ _ _ _ h _ _ hP hS _ (lv_sub hl [0, 1, 2, 3] rfl)
              · replace h := zf hc h
                refine lv_iconst (v := 3) hx hb dX7_cast_57 (by decide) ?_
                refine lv_goto (tgt := 62) hx hb dX7_cast_58 (by decide) ?_
                exact tX7_cast_62 C0 hK hN hD  _ _ _ _ _ h _ _ hP hS _ (lv_sub hl [0, 1, 2, 3] rfl)
            · replace h := zt hc h
              exact tX7_cast_45 C0 hK hN hD  _ _ _ _ h _ _ hP hS _ (lv_sub hl [0, 1, 2, 3] rfl)
        · replace h := zt hc h
          exact tX7_cast_24 C0 hK hN hD  _ _ _ _ h _ _ hP hS _ (lv_sub hl [0, 1, 2, 3] rfl)
end
def rmX7_close : Room := { frames := 1, cells := 0, slots := 0, locals := 26 }
theorem kvX7_close : yX7_close.cls = RX7 ∧ yX7_close.cls ≠ "java/lang/invoke/MethodHandle" ∧ yX7_close.cls ≠ "java/lang/invoke/VarHandle" ∧ (parseMethodDescriptor yX7_close.desc).map (fun d => d.parameters.length) = some 0 := by decide +kernel
section
variable {p : Program} {l : Launch} {e : Env} {s : State} {m : MethodId} {args : Array Value} {below : List Frame} {meth : Method} {c : Code} {G : zG} {xM : Nat → Nat} {rr : Int32} {vM : zSt}
set_option maxRecDepth 20000 in
theorem tX7_close_163 (C0 : zCtx p s m args meth c cX7_close RX7 wsX7_close 3 (some .int)) (hK : zK G s) (hN : zN s) (hD : zD [shM G xM]) {k89 : zSt → Int32 → Int32 → Option (Int32 × zSt)} (K89 : ∀ (uM : zSt) (l1 : Int32) (l2 : Int32), k89 uM l1 l2 = some (rr, vM) → ∀ (H : Heap) (locs : List Loc), zP G [shM G xM] [uM] H → va_S (zA [shM G xM] s.heap.size) s.heap H locs → ∀ ls : Array Slot, lv_has ls 3 [(0, .ref (xM 0)), (1, .int l1), (2, .int l2)] → W p l e rmX7_close s m args below meth c H locs 0 0 (MQ below (zQ G [shM G xM] [vM] (zA [shM G xM] s.heap.size) (some (.int rr))) args s 0 0 (zA [shM G xM] s.heap.size)) (F0 m 89 ls [])) : ∀ (uM : zSt) (l1 : Int32) (l2 : Int32), bX7_close_163 k89 uM l1 l2 = some (rr, vM) → ∀ (H : Heap) (locs : List Loc), zP G [shM G xM] [uM] H → va_S (zA [shM G xM] s.heap.size) s.heap H locs → ∀ ls : Array Slot, lv_has ls 3 [(0, .ref (xM 0)), (1, .int l1), (2, .int l2)] → W p l e rmX7_close s m args below meth c H locs 0 0 (MQ below (zQ G [shM G xM] [vM] (zA [shM G xM] s.heap.size) (some (.int rr))) args s 0 0 (zA [shM G xM] s.heap.size)) (F0 m 163 ls []) := by
  obtain ⟨hx, hb, hr, hml, hown, hts, hlk⟩ := id C0
  intro uM l1 l2 h H locs hP hS ls hl
  unfold bX7_close_163 at h
  refine lv_iinc (v := (l2 + (1 : Int32))) (lv' := [(2, .int ((l2 + (1 : Int32)))), (0, .ref (xM 0)), (1, .int l1)]) hx hb dX7_close_163 hl (k := 2) rfl rfl (by decide) rfl (fun ls hl => ?_)
  refine lv_goto (tgt := 89) hx hb dX7_close_166 (by decide) ?_
  exact K89 _ _ _ h _ _ hP hS _ (lv_sub hl [1, 2, 0] rfl)
set_option maxRecDepth 20000 in
theorem tlX7_close_89 (C0 : zCtx p s m args meth c cX7_close RX7 wsX7_close 3 (some .int)) (hK : zK G s) (hN : zN s) (hD : zD [shM G xM])  : ∀ (n : Nat), ∀ (uM : zSt) (l1 : Int32) (l2 : Int32), lX7_close_89  n uM l1 l2 = some (rr, vM) → ∀ (H : Heap) (locs : List Loc), zP G [shM G xM] [uM] H → va_S (zA [shM G xM] s.heap.size) s.heap H locs → ∀ ls : Array Slot, lv_has ls 3 [(0, .ref (xM 0)), (1, .int l1), (2, .int l2)] → W p l e rmX7_close s m args below meth c H locs 0 0 (MQ below (zQ G [shM G xM] [vM] (zA [shM G xM] s.heap.size) (some (.int rr))) args s 0 0 (zA [shM G xM] s.heap.size)) (F0 m 89 ls []) := by
  obtain ⟨hx, hb, hr, hml, hown, hts, hlk⟩ := id C0
  have hwX7 : ∀ w ∈ wsX70, w.before args s = true := fun w h => hts w (List.mem_cons_of_mem _ (List.mem_append_right _ h))
  intro n
  induction n with
  | zero => intro uM l1 l2 h; exact absurd h (fun q => nomatch q)
  | succ n K89 =>
    intro uM l1 l2 h H locs hP hS ls hl
    replace h : bX7_close_89  (lX7_close_89  n) uM l1 l2 = some (rr, vM) := h
    unfold bX7_close_89 at h
    refine lv_iload_n hx hb dX7_close_89 rfl (lv_at hl 2 rfl) ?_
    refine lv_bipush (v := 10) hx hb dX7_close_90 (by decide) ?_
    refine lv_icmp_ge (tgt := 169) hx hb dX7_close_92 (by decide) (fun hc => ?_) (fun hc => ?_)
    · replace h := zt hc h
      refine lv_aload_n hx hb dX7_close_169 rfl (lv_at hl 0 rfl) ?_
      refine lv_iconst (v := 2) hx hb dX7_close_170 (by decide) ?_
      refine pM_4 hx hb hwX7 hown hK hP hD hS 0 (xM) rfl rfl (hts _ (List.mem_of_getElem? (i := 2) rfl)) dX7_close_171 (fun H locs hP hS => ?_)
      replace hP : zP G [shM G xM] [(sI uM 4 ((2 : Int32)))] H := hP
      refine lv_iload_n hx hb dX7_close_174 rfl (lv_at hl 1 rfl) ?_
      cases h
      exact z_iret hx hb hr hlk hP hS dX7_close_175
    · replace h := zf hc h
      refine lv_aload_n hx hb dX7_close_95 rfl (lv_at hl 0 rfl) ?_
      refine rM_8 hx hb hwX7 hown hK hP 0 (xM) rfl rfl (hts _ (List.mem_of_getElem? (i := 1) rfl)) dX7_close_96 ?_
      refine lv_iload_n hx hb dX7_close_99 rfl (lv_at hl 2 rfl) ?_
      obtain ⟨hi, h⟩ := zin_e h
      refine aM_8 hx hb hK hP 0 (xM) rfl rfl hi rfl dX7_close_100 ?_
      refine lv_if_eq (tgt := 163) hx hb dX7_close_101 (by decide) (fun hc => ?_) (fun hc => ?_)
      · replace h := zt hc h
        exact tX7_close_163 C0 hK hN hD K89 _ _ _ h _ _ hP hS _ (lv_sub hl [0, 1, 2] rfl)
      · replace h := zf hc h
        refine lv_aload_n hx hb dX7_close_104 rfl (lv_at hl 0 rfl) ?_
        refine rM_12 hx hb hwX7 hown hK hP 0 (xM) rfl rfl (hts _ (List.mem_of_getElem? (i := 5) rfl)) dX7_close_105 ?_
        refine lv_aload_n hx hb dX7_close_108 rfl (lv_at hl 0 rfl) ?_
        refine rM_11 hx hb hwX7 hown hK hP 0 (xM) rfl rfl (hts _ (List.mem_of_getElem? (i := 4) rfl)) dX7_close_109 ?_
        refine lv_aload_n hx hb dX7_close_112 rfl (lv_at hl 0 rfl) ?_
        refine rM_9 hx hb hwX7 hown hK hP 0 (xM) rfl rfl (hts _ (List.mem_of_getElem? (i := 6) rfl)) dX7_close_113 ?_
        refine lv_iload_n hx hb dX7_close_116 rfl (lv_at hl 2 rfl) ?_
        obtain ⟨hi, h⟩ := zin_e h
        refine aM_9 hx hb hK hP 0 (xM) rfl rfl hi rfl dX7_close_117 ?_
        obtain ⟨hi, h⟩ := zin_e h
        refine tM_12 hx hb hK hP hD hS 0 (xM) rfl rfl hi rfl dX7_close_118 (fun H locs hP hS => ?_)
        replace hP : zP G [shM G xM] [(sA uM 12 ((gI uM 11)).toNatClampNeg ((gA uM 9 l2.toNatClampNeg)))] H := hP
        refine lv_aload_n hx hb dX7_close_119 rfl (lv_at hl 0 rfl) ?_
        refine rM_13 hx hb hwX7 hown hK hP 0 (xM) rfl rfl (hts _ (List.mem_of_getElem? (i := 7) rfl)) dX7_close_120 ?_
        refine lv_aload_n hx hb dX7_close_123 rfl (lv_at hl 0 rfl) ?_
        refine rM_11 hx hb hwX7 hown hK hP 0 (xM) rfl rfl (hts _ (List.mem_of_getElem? (i := 4) rfl)) dX7_close_124 ?_
        refine lv_aload_n hx hb dX7_close_127 rfl (lv_at hl 0 rfl) ?_
        refine rM_10 hx hb hwX7 hown hK hP 0 (xM) rfl rfl (hts _ (List.mem_of_getElem? (i := 8) rfl)) dX7_close_128 ?_
        refine lv_iload_n hx hb dX7_close_131 rfl (lv_at hl 2 rfl) ?_
        obtain ⟨hi, h⟩ := zin_e h
        refine aM_10 hx hb hK hP 0 (xM) rfl rfl hi rfl dX7_close_132 ?_
        obtain ⟨hi, h⟩ := zin_e h
        refine tM_13 hx hb hK hP hD hS 0 (xM) rfl rfl hi rfl dX7_close_133 (fun H locs hP hS => ?_)
        replace hP : zP G [shM G xM] [(sA ((sA uM 12 ((gI uM 11)).toNatClampNeg ((gA uM 9 l2.toNatClampNeg)))) 13 ((gI ((sA uM 12 ((gI uM 11)).toNatClampNeg ((gA uM 9 l2.toNatClampNeg)))) 11)).toNatClampNeg ((gA ((sA uM 12 ((gI uM 11)).toNatClampNeg ((gA uM 9 l2.toNatClampNeg)))) 10 l2.toNatClampNeg)))] H := hP
        refine lv_aload_n hx hb dX7_close_134 rfl (lv_at hl 0 rfl) ?_
        refine lv_iconst (v := 5) hx hb dX7_close_135 (by decide) ?_
        refine lv_aload_n hx hb dX7_close_136 rfl (lv_at hl 0 rfl) ?_
        refine rM_9 hx hb hwX7 hown hK hP 0 (xM) rfl rfl (hts _ (List.mem_of_getElem? (i := 6) rfl)) dX7_close_137 ?_
        refine lv_iload_n hx hb dX7_close_140 rfl (lv_at hl 2 rfl) ?_
        obtain ⟨hi, h⟩ := zin_e h
        refine aM_9 hx hb hK hP 0 (xM) rfl rfl hi rfl dX7_close_141 ?_
        refine lv_aload_n hx hb dX7_close_142 rfl (lv_at hl 0 rfl) ?_
        refine rM_10 hx hb hwX7 hown hK hP 0 (xM) rfl rfl (hts _ (List.mem_of_getElem? (i := 8) rfl)) dX7_close_143 ?_
        refine lv_iload_n hx hb dX7_close_146 rfl (lv_at hl 2 rfl) ?_
        obtain ⟨hi, h⟩ := zin_e h
        refine aM_10 hx hb hK hP 0 (xM) rfl rfl hi rfl dX7_close_147 ?_
        refine lv_iconst (v := 0) hx hb dX7_close_148 (by decide) ?_
        obtain ⟨r_1, uM_2, hg, h⟩ := zb2_e h
        refine z_callV (As := [.int ((5 : Int32)), .int ((gA ((sA ((sA uM 12 ((gI uM 11)).toNatClampNeg ((gA uM 9 l2.toNatClampNeg)))) 13 ((gI ((sA uM 12 ((gI uM 11)).toNatClampNeg ((gA uM 9 l2.toNatClampNeg)))) 11)).toNatClampNeg ((gA ((sA uM 12 ((gI uM 11)).toNatClampNeg ((gA uM 9 l2.toNatClampNeg)))) 10 l2.toNatClampNeg)))) 9 l2.toNatClampNeg)), .int ((gA ((sA ((sA uM 12 ((gI uM 11)).toNatClampNeg ((gA uM 9 l2.toNatClampNeg)))) 13 ((gI ((sA uM 12 ((gI uM 11)).toNatClampNeg ((gA uM 9 l2.toNatClampNeg)))) 11)).toNatClampNeg ((gA ((sA uM 12 ((gI uM 11)).toNatClampNeg ((gA uM 9 l2.toNatClampNeg)))) 10 l2.toNatClampNeg)))) 10 l2.toNatClampNeg)), .int ((0 : Int32))]) (rest := []) (i := 0) ⟨hx, hb, hml, hown, hts⟩ (mX7_put l G (xM) hg) (cwV 4 hts gX7_close_X7_put rfl rfl rfl kvX7_put ⟨Nat.le_of_ble_eq_true rfl, Nat.le_of_ble_eq_true rfl⟩) rfl hP hD hK hN hS (Nat.le_refl _) [0] rfl rfl rfl rfl 0 rfl rfl rfl rfl rfl hl.1 rfl (Nat.le_of_ble_eq_true rfl) dX7_close_149 ⟨Nat.zero_le _, Nat.zero_le _⟩ (fun H locs hP hS => ?_)
        replace hP : zP G [shM G xM] [uM_2] H := hP
        refine lv_pop hx hb dX7_close_152 rfl ?_
        refine lv_aload_n hx hb dX7_close_153 rfl (lv_at hl 0 rfl) ?_
        refine lv_dup hx hb dX7_close_154 rfl ?_
        refine rM_11 hx hb hwX7 hown hK hP 0 (xM) rfl rfl (hts _ (List.mem_of_getElem? (i := 4) rfl)) dX7_close_155 ?_
        refine lv_iconst (v := 1) hx hb dX7_close_158 (by decide) ?_
        refine lv_iadd hx hb dX7_close_159 ?_
        refine pM_11 hx hb hwX7 hown hK hP hD hS 0 (xM) rfl rfl (hts _ (List.mem_of_getElem? (i := 4) rfl)) dX7_close_160 (fun H locs hP hS => ?_)
        replace hP : zP G [shM G xM] [(sI uM_2 11 (((gI uM_2 11) + (1 : Int32))))] H := hP
        exact tX7_close_163 C0 hK hN hD K89 _ _ _ h _ _ hP hS _ (lv_sub hl [0, 1, 2] rfl)
set_option maxRecDepth 20000 in
theorem tX7_close_61 (C0 : zCtx p s m args meth c cX7_close RX7 wsX7_close 3 (some .int)) (hK : zK G s) (hN : zN s) (hD : zD [shM G xM])  : ∀ (uM : zSt) (l1 : Int32) (s1 : Int32), bX7_close_61  uM l1 s1 = some (rr, vM) → ∀ (H : Heap) (locs : List Loc), zP G [shM G xM] [uM] H → va_S (zA [shM G xM] s.heap.size) s.heap H locs → ∀ ls : Array Slot, lv_has ls 3 [(0, .ref (xM 0)), (1, .int l1)] → W p l e rmX7_close s m args below meth c H locs 0 0 (MQ below (zQ G [shM G xM] [vM] (zA [shM G xM] s.heap.size) (some (.int rr))) args s 0 0 (zA [shM G xM] s.heap.size)) (F0 m 61 ls [.int s1, .ref (xM 0)]) := by
  obtain ⟨hx, hb, hr, hml, hown, hts, hlk⟩ := id C0
  have hwX7 : ∀ w ∈ wsX70, w.before args s = true := fun w h => hts w (List.mem_cons_of_mem _ (List.mem_append_right _ h))
  intro uM l1 s1 h H locs hP hS ls hl
  unfold bX7_close_61 at h
  refine pM_0 hx hb hwX7 hown hK hP hD hS 0 (xM) rfl rfl (hts _ (List.mem_of_getElem? (i := 3) rfl)) dX7_close_61 (fun H locs hP hS => ?_)
  replace hP : zP G [shM G xM] [(sI uM 0 s1)] H := hP
  refine lv_aload_n hx hb dX7_close_64 rfl (lv_at hl 0 rfl) ?_
  refine rM_0 hx hb hwX7 hown hK hP 0 (xM) rfl rfl (hts _ (List.mem_of_getElem? (i := 3) rfl)) dX7_close_65 ?_
  refine lv_if_le (tgt := 73) hx hb dX7_close_68 (by decide) (fun hc => ?_) (fun hc => ?_)
  · replace h := zt hc h
    refine lv_aload_n hx hb dX7_close_73 rfl (lv_at hl 0 rfl) ?_
    refine lv_iconst (v := 3) hx hb dX7_close_74 (by decide) ?_
    refine lv_iconst (v := 0) hx hb dX7_close_75 (by decide) ?_
    refine lv_iconst (v := 0) hx hb dX7_close_76 (by decide) ?_
    refine lv_iconst (v := 0) hx hb dX7_close_77 (by decide) ?_
    obtain ⟨r_3, uM_4, hg, h⟩ := zb2_e h
    refine z_callV (As := [.int ((3 : Int32)), .int ((0 : Int32)), .int ((0 : Int32)), .int ((0 : Int32))]) (rest := []) (i := 0) ⟨hx, hb, hml, hown, hts⟩ (mX7_put l G (xM) hg) (cwV 4 hts gX7_close_X7_put rfl rfl rfl kvX7_put ⟨Nat.le_of_ble_eq_true rfl, Nat.le_of_ble_eq_true rfl⟩) rfl hP hD hK hN hS (Nat.le_refl _) [0] rfl rfl rfl rfl 0 rfl rfl rfl rfl rfl hl.1 rfl (Nat.le_of_ble_eq_true rfl) dX7_close_78 ⟨Nat.zero_le _, Nat.zero_le _⟩ (fun H locs hP hS => ?_)
    replace hP : zP G [shM G xM] [uM_4] H := hP
    refine lv_pop hx hb dX7_close_81 rfl ?_
    refine lv_aload_n hx hb dX7_close_82 rfl (lv_at hl 0 rfl) ?_
    refine lv_iconst (v := 0) hx hb dX7_close_83 (by decide) ?_
    refine pM_11 hx hb hwX7 hown hK hP hD hS 0 (xM) rfl rfl (hts _ (List.mem_of_getElem? (i := 4) rfl)) dX7_close_84 (fun H locs hP hS => ?_)
    replace hP : zP G [shM G xM] [(sI uM_4 11 ((0 : Int32)))] H := hP
    refine lv_iconst (v := 0) hx hb dX7_close_87 (by decide) ?_
    refine lv_istore_n (lv' := [(2, .int ((0 : Int32))), (0, .ref (xM 0)), (1, .int l1)]) hx hb dX7_close_88 rfl hl (by decide) rfl (fun ls hl => ?_)
    exact tlX7_close_89 C0 hK hN hD  1000 _ _ _ h _ _ hP hS _ (lv_sub hl [1, 2, 0] rfl)
  · replace h := zf hc h
    refine lv_iconst (v := 0) hx hb dX7_close_71 (by decide) ?_
    cases h
    exact z_iret hx hb hr hlk hP hS dX7_close_72
set_option maxRecDepth 20000 in
theorem tX7_close_26 (C0 : zCtx p s m args meth c cX7_close RX7 wsX7_close 3 (some .int)) (hK : zK G s) (hN : zN s) (hD : zD [shM G xM]) {k4 : zSt → Int32 → Int32 → Option (Int32 × zSt)} (K4 : ∀ (uM : zSt) (l1 : Int32) (l2 : Int32), k4 uM l1 l2 = some (rr, vM) → ∀ (H : Heap) (locs : List Loc), zP G [shM G xM] [uM] H → va_S (zA [shM G xM] s.heap.size) s.heap H locs → ∀ ls : Array Slot, lv_has ls 3 [(0, .ref (xM 0)), (1, .int l1), (2, .int l2)] → W p l e rmX7_close s m args below meth c H locs 0 0 (MQ below (zQ G [shM G xM] [vM] (zA [shM G xM] s.heap.size) (some (.int rr))) args s 0 0 (zA [shM G xM] s.heap.size)) (F0 m 4 ls [])) : ∀ (uM : zSt) (l2 : Int32) (s0 : Int32), bX7_close_26 k4 uM l2 s0 = some (rr, vM) → ∀ (H : Heap) (locs : List Loc), zP G [shM G xM] [uM] H → va_S (zA [shM G xM] s.heap.size) s.heap H locs → ∀ ls : Array Slot, lv_has ls 3 [(0, .ref (xM 0)), (2, .int l2)] → W p l e rmX7_close s m args below meth c H locs 0 0 (MQ below (zQ G [shM G xM] [vM] (zA [shM G xM] s.heap.size) (some (.int rr))) args s 0 0 (zA [shM G xM] s.heap.size)) (F0 m 26 ls [.int s0]) := by
  obtain ⟨hx, hb, hr, hml, hown, hts, hlk⟩ := id C0
  intro uM l2 s0 h H locs hP hS ls hl
  unfold bX7_close_26 at h
  refine lv_istore_n (lv' := [(1, .int s0), (0, .ref (xM 0)), (2, .int l2)]) hx hb dX7_close_26 rfl hl (by decide) rfl (fun ls hl => ?_)
  refine lv_iinc (v := (l2 + (1 : Int32))) (lv' := [(2, .int ((l2 + (1 : Int32)))), (1, .int s0), (0, .ref (xM 0))]) hx hb dX7_close_27 hl (k := 2) rfl rfl (by decide) rfl (fun ls hl => ?_)
  refine lv_goto (tgt := 4) hx hb dX7_close_30 (by decide) ?_
  exact K4 _ _ _ h _ _ hP hS _ (lv_sub hl [2, 1, 0] rfl)
set_option maxRecDepth 20000 in
theorem tlX7_close_4 (C0 : zCtx p s m args meth c cX7_close RX7 wsX7_close 3 (some .int)) (hK : zK G s) (hN : zN s) (hD : zD [shM G xM])  : ∀ (n : Nat), ∀ (uM : zSt) (l1 : Int32) (l2 : Int32), lX7_close_4  n uM l1 l2 = some (rr, vM) → ∀ (H : Heap) (locs : List Loc), zP G [shM G xM] [uM] H → va_S (zA [shM G xM] s.heap.size) s.heap H locs → ∀ ls : Array Slot, lv_has ls 3 [(0, .ref (xM 0)), (1, .int l1), (2, .int l2)] → W p l e rmX7_close s m args below meth c H locs 0 0 (MQ below (zQ G [shM G xM] [vM] (zA [shM G xM] s.heap.size) (some (.int rr))) args s 0 0 (zA [shM G xM] s.heap.size)) (F0 m 4 ls []) := by
  obtain ⟨hx, hb, hr, hml, hown, hts, hlk⟩ := id C0
  have hwX7 : ∀ w ∈ wsX70, w.before args s = true := fun w h => hts w (List.mem_cons_of_mem _ (List.mem_append_right _ h))
  intro n
  induction n with
  | zero => intro uM l1 l2 h; exact absurd h (fun q => nomatch q)
  | succ n K4 =>
    intro uM l1 l2 h H locs hP hS ls hl
    replace h : bX7_close_4  (lX7_close_4  n) uM l1 l2 = some (rr, vM) := h
    unfold bX7_close_4 at h
    refine lv_iload_n hx hb dX7_close_4 rfl (lv_at hl 2 rfl) ?_
    refine lv_bipush (v := 10) hx hb dX7_close_5 (by decide) ?_
    refine lv_icmp_ge (tgt := 33) hx hb dX7_close_7 (by decide) (fun hc => ?_) (fun hc => ?_)
    · replace h := zt hc h
      refine lv_aload_n hx hb dX7_close_33 rfl (lv_at hl 0 rfl) ?_
      refine lv_aload_n hx hb dX7_close_34 rfl (lv_at hl 0 rfl) ?_
      refine rM_4 hx hb hwX7 hown hK hP 0 (xM) rfl rfl (hts _ (List.mem_of_getElem? (i := 2) rfl)) dX7_close_35 ?_
      refine lv_iconst (v := 1) hx hb dX7_close_38 (by decide) ?_
      refine lv_icmp_eq (tgt := 46) hx hb dX7_close_39 (by decide) (fun hc => ?_) (fun hc => ?_)
      · replace h := zt hc h
        refine lv_aload_n hx hb dX7_close_46 rfl (lv_at hl 0 rfl) ?_
        refine lv_iconst (v := 1) hx hb dX7_close_47 (by decide) ?_
        refine lv_iload_n hx hb dX7_close_48 rfl (lv_at hl 1 rfl) ?_
        refine lv_iadd hx hb dX7_close_49 ?_
        obtain ⟨r_5, hg, h⟩ := zb1_e h
        refine z_callV (As := [.int (((1 : Int32) + l1))]) (rest := [.ref (xM 0)]) (i := 0) ⟨hx, hb, hml, hown, hts⟩ (mX7_noRoom l G (xM) hg) (cwV 1 hts gX7_close_X7_noRoom rfl rfl rfl kvX7_noRoom ⟨Nat.le_of_ble_eq_true rfl, Nat.le_of_ble_eq_true rfl⟩) rfl hP hD hK hN hS (Nat.le_refl _) [0] rfl rfl rfl rfl 0 rfl rfl rfl rfl rfl hl.1 rfl (Nat.le_of_ble_eq_true rfl) dX7_close_50 ⟨Nat.zero_le _, Nat.zero_le _⟩ (fun H locs hP hS => ?_)
        replace hP : zP G [shM G xM] [uM] H := hP
        refine lv_if_eq (tgt := 60) hx hb dX7_close_53 (by decide) (fun hc => ?_) (fun hc => ?_)
        · replace h := zt hc h
          refine lv_iconst (v := 0) hx hb dX7_close_60 (by decide) ?_
          exact tX7_close_61 C0 hK hN hD  _ _ _ h _ _ hP hS _ (lv_sub hl [0, 1] rfl)
        · replace h := zf hc h
          refine lv_iconst (v := 2) hx hb dX7_close_56 (by decide) ?_
          refine lv_goto (tgt := 61) hx hb dX7_close_57 (by decide) ?_
          exact tX7_close_61 C0 hK hN hD  _ _ _ h _ _ hP hS _ (lv_sub hl [0, 1] rfl)
      · replace h := zf hc h
        refine lv_iconst (v := 1) hx hb dX7_close_42 (by decide) ?_
        refine lv_goto (tgt := 61) hx hb dX7_close_43 (by decide) ?_
        exact tX7_close_61 C0 hK hN hD  _ _ _ h _ _ hP hS _ (lv_sub hl [0, 1] rfl)
    · replace h := zf hc h
      refine lv_aload_n hx hb dX7_close_10 rfl (lv_at hl 0 rfl) ?_
      refine rM_8 hx hb hwX7 hown hK hP 0 (xM) rfl rfl (hts _ (List.mem_of_getElem? (i := 1) rfl)) dX7_close_11 ?_
      refine lv_iload_n hx hb dX7_close_14 rfl (lv_at hl 2 rfl) ?_
      obtain ⟨hi, h⟩ := zin_e h
      refine aM_8 hx hb hK hP 0 (xM) rfl rfl hi rfl dX7_close_15 ?_
      refine lv_if_eq (tgt := 25) hx hb dX7_close_16 (by decide) (fun hc => ?_) (fun hc => ?_)
      · replace h := zt hc h
        refine lv_iload_n hx hb dX7_close_25 rfl (lv_at hl 1 rfl) ?_
        exact tX7_close_26 C0 hK hN hD K4 _ _ _ h _ _ hP hS _ (lv_sub hl [0, 2] rfl)
      · replace h := zf hc h
        refine lv_iload_n hx hb dX7_close_19 rfl (lv_at hl 1 rfl) ?_
        refine lv_iconst (v := 1) hx hb dX7_close_20 (by decide) ?_
        refine lv_iadd hx hb dX7_close_21 ?_
        refine lv_goto (tgt := 26) hx hb dX7_close_22 (by decide) ?_
        exact tX7_close_26 C0 hK hN hD K4 _ _ _ h _ _ hP hS _ (lv_sub hl [0, 2] rfl)
set_option maxRecDepth 20000 in
theorem mX7_close (l : Launch) (G : zG) (xM : Nat → Nat) {uM : zSt} {rr : Int32} {vM : zSt} (h : fX7_close uM = some (rr, vM)) : zC l yX7_close wsX7_close rmX7_close [.ref (xM 0)] G [shM G xM] [uM] [vM] (some (.int rr)) := by
  refine z_ofW (cc := cX7_close) (maxL := 3) (ret := some .int) (by decide) rfl (Nat.le_of_ble_eq_true rfl) ?_
  intro p e s m args below meth c C0 hK hN hD hP ls hl
  obtain ⟨hx, hb, hr, hml, hown, hts, hlk⟩ := id C0
  have hS : va_S (zA [shM G xM] s.heap.size) s.heap s.heap [] := va_S.rf
  replace hl : lv_has ls 3 [(0, .ref (xM 0))] := hl
  unfold fX7_close at h
  refine lv_iconst (v := 0) hx hb dX7_close_0 (by decide) ?_
  refine lv_istore_n (lv' := [(1, .int ((0 : Int32))), (0, .ref (xM 0))]) hx hb dX7_close_1 rfl hl (by decide) rfl (fun ls hl => ?_)
  refine lv_iconst (v := 0) hx hb dX7_close_2 (by decide) ?_
  refine lv_istore_n (lv' := [(2, .int ((0 : Int32))), (1, .int ((0 : Int32))), (0, .ref (xM 0))]) hx hb dX7_close_3 rfl hl (by decide) rfl (fun ls hl => ?_)
  exact tlX7_close_4 C0 hK hN hD  1000 _ _ _ h _ _ hP hS _ (lv_sub hl [2, 1, 0] rfl)
end
def rmX7_take : Room := { frames := 0, cells := 0, slots := 0, locals := 0 }
theorem kvX7_take : yX7_take.cls = RX7 ∧ yX7_take.cls ≠ "java/lang/invoke/MethodHandle" ∧ yX7_take.cls ≠ "java/lang/invoke/VarHandle" ∧ (parseMethodDescriptor yX7_take.desc).map (fun d => d.parameters.length) = some 2 := by decide +kernel
section
variable {p : Program} {l : Launch} {e : Env} {s : State} {m : MethodId} {args : Array Value} {below : List Frame} {meth : Method} {c : Code} {G : zG} {xM : Nat → Nat} {rr : Int32} {vM : zSt}
set_option maxRecDepth 20000 in
theorem tX7_take_39 (C0 : zCtx p s m args meth c cX7_take RX7 wsX7_take 5 (some .int)) (hK : zK G s) (hN : zN s) (hD : zD [shM G xM]) {k5 : zSt → Int32 → Int32 → Int32 → Option (Int32 × zSt)} (K5 : ∀ (uM : zSt) (l1 : Int32) (l3 : Int32) (l4 : Int32), k5 uM l1 l3 l4 = some (rr, vM) → ∀ (H : Heap) (locs : List Loc), zP G [shM G xM] [uM] H → va_S (zA [shM G xM] s.heap.size) s.heap H locs → ∀ ls : Array Slot, lv_has ls 5 [(0, .ref (xM 0)), (1, .int l1), (3, .int l3), (4, .int l4)] → W p l e rmX7_take s m args below meth c H locs 0 0 (MQ below (zQ G [shM G xM] [vM] (zA [shM G xM] s.heap.size) (some (.int rr))) args s 0 0 (zA [shM G xM] s.heap.size)) (F0 m 5 ls [])) : ∀ (uM : zSt) (l1 : Int32) (l3 : Int32) (l4 : Int32), bX7_take_39 k5 uM l1 l3 l4 = some (rr, vM) → ∀ (H : Heap) (locs : List Loc), zP G [shM G xM] [uM] H → va_S (zA [shM G xM] s.heap.size) s.heap H locs → ∀ ls : Array Slot, lv_has ls 5 [(0, .ref (xM 0)), (1, .int l1), (3, .int l3), (4, .int l4)] → W p l e rmX7_take s m args below meth c H locs 0 0 (MQ below (zQ G [shM G xM] [vM] (zA [shM G xM] s.heap.size) (some (.int rr))) args s 0 0 (zA [shM G xM] s.heap.size)) (F0 m 39 ls []) := by
  obtain ⟨hx, hb, hr, hml, hown, hts, hlk⟩ := id C0
  intro uM l1 l3 l4 h H locs hP hS ls hl
  unfold bX7_take_39 at h
  refine lv_iinc (v := (l4 + (1 : Int32))) (lv' := [(4, .int ((l4 + (1 : Int32)))), (0, .ref (xM 0)), (1, .int l1), (3, .int l3)]) hx hb dX7_take_39 hl (k := 3) rfl rfl (by decide) rfl (fun ls hl => ?_)
  refine lv_goto (tgt := 5) hx hb dX7_take_42 (by decide) ?_
  exact K5 _ _ _ _ h _ _ hP hS _ (lv_sub hl [1, 2, 3, 0] rfl)
set_option maxRecDepth 20000 in
theorem tlX7_take_5 (C0 : zCtx p s m args meth c cX7_take RX7 wsX7_take 5 (some .int)) (hK : zK G s) (hN : zN s) (hD : zD [shM G xM])  : ∀ (n : Nat), ∀ (uM : zSt) (l1 : Int32) (l3 : Int32) (l4 : Int32), lX7_take_5  n uM l1 l3 l4 = some (rr, vM) → ∀ (H : Heap) (locs : List Loc), zP G [shM G xM] [uM] H → va_S (zA [shM G xM] s.heap.size) s.heap H locs → ∀ ls : Array Slot, lv_has ls 5 [(0, .ref (xM 0)), (1, .int l1), (3, .int l3), (4, .int l4)] → W p l e rmX7_take s m args below meth c H locs 0 0 (MQ below (zQ G [shM G xM] [vM] (zA [shM G xM] s.heap.size) (some (.int rr))) args s 0 0 (zA [shM G xM] s.heap.size)) (F0 m 5 ls []) := by
  obtain ⟨hx, hb, hr, hml, hown, hts, hlk⟩ := id C0
  have hwX7 : ∀ w ∈ wsX70, w.before args s = true := fun w h => hts w (List.mem_cons_of_mem _ (List.mem_append_right _ h))
  intro n
  induction n with
  | zero => intro uM l1 l3 l4 h; exact absurd h (fun q => nomatch q)
  | succ n K5 =>
    intro uM l1 l3 l4 h H locs hP hS ls hl
    replace h : bX7_take_5  (lX7_take_5  n) uM l1 l3 l4 = some (rr, vM) := h
    unfold bX7_take_5 at h
    refine lv_iload hx hb dX7_take_5 (lv_at hl 3 rfl) ?_
    refine lv_iload_n hx hb dX7_take_7 rfl (lv_at hl 1 rfl) ?_
    refine lv_icmp_ge (tgt := 45) hx hb dX7_take_8 (by decide) (fun hc => ?_) (fun hc => ?_)
    · replace h := zt hc h
      refine lv_iconst (v := (-1)) hx hb dX7_take_45 (by decide) ?_
      cases h
      exact z_iret hx hb hr hlk hP hS dX7_take_46
    · replace h := zf hc h
      refine lv_aload_n hx hb dX7_take_11 rfl (lv_at hl 0 rfl) ?_
      refine rM_19 hx hb hwX7 hown hK hP 0 (xM) rfl rfl (hts _ (List.mem_of_getElem? (i := 1) rfl)) dX7_take_12 ?_
      refine lv_iload hx hb dX7_take_15 (lv_at hl 3 rfl) ?_
      obtain ⟨hi, h⟩ := zin_e h
      refine aM_19 hx hb hK hP 0 (xM) rfl rfl hi rfl dX7_take_17 ?_
      refine lv_if_ne (tgt := 39) hx hb dX7_take_18 (by decide) (fun hc => ?_) (fun hc => ?_)
      · replace h := zf hc h
        exact tX7_take_39 C0 hK hN hD K5 _ _ _ _ h _ _ hP hS _ (lv_sub hl [0, 1, 2, 3] rfl)
      · replace h := zt hc h
        refine lv_iload_n hx hb dX7_take_21 rfl (lv_at hl 2 rfl) ?_
        refine lv_if_ne (tgt := 36) hx hb dX7_take_22 (by decide) (fun hc => ?_) (fun hc => ?_)
        · replace h := zf hc h
          refine lv_iinc (v := (l3 + (-1 : Int32))) (lv' := [(3, .int ((l3 + (-1 : Int32)))), (0, .ref (xM 0)), (1, .int l1), (4, .int l4)]) hx hb dX7_take_36 hl (k := 2) rfl rfl (by decide) rfl (fun ls hl => ?_)
          exact tX7_take_39 C0 hK hN hD K5 _ _ _ _ h _ _ hP hS _ (lv_sub hl [1, 2, 0, 3] rfl)
        · replace h := zt hc h
          refine lv_aload_n hx hb dX7_take_25 rfl (lv_at hl 0 rfl) ?_
          refine rM_19 hx hb hwX7 hown hK hP 0 (xM) rfl rfl (hts _ (List.mem_of_getElem? (i := 1) rfl)) dX7_take_26 ?_
          refine lv_iload hx hb dX7_take_29 (lv_at hl 3 rfl) ?_
          refine lv_iconst (v := 1) hx hb dX7_take_31 (by decide) ?_
          obtain ⟨hi, h⟩ := zin_e h
          refine tM_19 hx hb hK hP hD hS 0 (xM) rfl rfl hi rfl vnb_1 dX7_take_32 (fun H locs hP hS => ?_)
          replace hP : zP G [shM G xM] [(sA uM 19 l4.toNatClampNeg ((1 : Int32)))] H := hP
          refine lv_iload hx hb dX7_take_33 (lv_at hl 3 rfl) ?_
          cases h
          exact z_iret hx hb hr hlk hP hS dX7_take_35
set_option maxRecDepth 20000 in
theorem mX7_take (l : Launch) (G : zG) (xM : Nat → Nat) {uM : zSt} {l1 : Int32} {l2 : Int32} {rr : Int32} {vM : zSt} (h : fX7_take uM l1 l2 = some (rr, vM)) : zC l yX7_take wsX7_take rmX7_take [.ref (xM 0), .int l1, .int l2] G [shM G xM] [uM] [vM] (some (.int rr)) := by
  refine z_ofW (cc := cX7_take) (maxL := 5) (ret := some .int) (by decide) rfl (Nat.le_of_ble_eq_true rfl) ?_
  intro p e s m args below meth c C0 hK hN hD hP ls hl
  obtain ⟨hx, hb, hr, hml, hown, hts, hlk⟩ := id C0
  have hS : va_S (zA [shM G xM] s.heap.size) s.heap s.heap [] := va_S.rf
  replace hl : lv_has ls 5 [(0, .ref (xM 0)), (1, .int l1), (2, .int l2)] := hl
  unfold fX7_take at h
  refine lv_iload_n hx hb dX7_take_0 rfl (lv_at hl 2 rfl) ?_
  refine lv_istore_n (lv' := [(3, .int l2), (0, .ref (xM 0)), (1, .int l1), (2, .int l2)]) hx hb dX7_take_1 rfl hl (by decide) rfl (fun ls hl => ?_)
  refine lv_iconst (v := 0) hx hb dX7_take_2 (by decide) ?_
  refine lv_istore (lv' := [(4, .int ((0 : Int32))), (3, .int l2), (0, .ref (xM 0)), (1, .int l1), (2, .int l2)]) hx hb dX7_take_3 hl (by decide) rfl (fun ls hl => ?_)
  exact tlX7_take_5 C0 hK hN hD  1000 _ _ _ _ h _ _ hP hS _ (lv_sub hl [2, 3, 1, 0] rfl)
end
def rmX7_free : Room := { frames := 0, cells := 0, slots := 0, locals := 0 }
theorem kvX7_free : yX7_free.cls = RX7 ∧ yX7_free.cls ≠ "java/lang/invoke/MethodHandle" ∧ yX7_free.cls ≠ "java/lang/invoke/VarHandle" ∧ (parseMethodDescriptor yX7_free.desc).map (fun d => d.parameters.length) = some 0 := by decide +kernel
section
variable {p : Program} {l : Launch} {e : Env} {s : State} {m : MethodId} {args : Array Value} {below : List Frame} {meth : Method} {c : Code} {G : zG} {xM : Nat → Nat} {vM : zSt}
set_option maxRecDepth 20000 in
theorem tlX7_free_2 (C0 : zCtx p s m args meth c cX7_free RX7 wsX7_free 2 none) (hK : zK G s) (hN : zN s) (hD : zD [shM G xM])  : ∀ (n : Nat), ∀ (uM : zSt) (l1 : Int32), lX7_free_2  n uM l1 = some vM → ∀ (H : Heap) (locs : List Loc), zP G [shM G xM] [uM] H → va_S (zA [shM G xM] s.heap.size) s.heap H locs → ∀ ls : Array Slot, lv_has ls 2 [(0, .ref (xM 0)), (1, .int l1)] → W p l e rmX7_free s m args below meth c H locs 0 0 (MQ below (zQ G [shM G xM] [vM] (zA [shM G xM] s.heap.size) none) args s 0 0 (zA [shM G xM] s.heap.size)) (F0 m 2 ls []) := by
  obtain ⟨hx, hb, hr, hml, hown, hts, hlk⟩ := id C0
  have hwX7 : ∀ w ∈ wsX70, w.before args s = true := fun w h => hts w (List.mem_cons_of_mem _ (List.mem_append_right _ h))
  intro n
  induction n with
  | zero => intro uM l1 h; exact absurd h (fun q => nomatch q)
  | succ n K2 =>
    intro uM l1 h H locs hP hS ls hl
    replace h : bX7_free_2  (lX7_free_2  n) uM l1 = some vM := h
    unfold bX7_free_2 at h
    refine lv_iload_n hx hb dX7_free_2 rfl (lv_at hl 1 rfl) ?_
    refine lv_bipush (v := 10) hx hb dX7_free_3 (by decide) ?_
    refine lv_icmp_ge (tgt := 21) hx hb dX7_free_5 (by decide) (fun hc => ?_) (fun hc => ?_)
    · replace h := zt hc h
      cases h
      exact z_vret hx hb hr hlk hP hS dX7_free_21
    · replace h := zf hc h
      refine lv_aload_n hx hb dX7_free_8 rfl (lv_at hl 0 rfl) ?_
      refine rM_19 hx hb hwX7 hown hK hP 0 (xM) rfl rfl (hts _ (List.mem_of_getElem? (i := 1) rfl)) dX7_free_9 ?_
      refine lv_iload_n hx hb dX7_free_12 rfl (lv_at hl 1 rfl) ?_
      refine lv_iconst (v := 0) hx hb dX7_free_13 (by decide) ?_
      obtain ⟨hi, h⟩ := zin_e h
      refine tM_19 hx hb hK hP hD hS 0 (xM) rfl rfl hi rfl vnb_0 dX7_free_14 (fun H locs hP hS => ?_)
      replace hP : zP G [shM G xM] [(sA uM 19 l1.toNatClampNeg ((0 : Int32)))] H := hP
      refine lv_iinc (v := (l1 + (1 : Int32))) (lv' := [(1, .int ((l1 + (1 : Int32)))), (0, .ref (xM 0))]) hx hb dX7_free_15 hl (k := 1) rfl rfl (by decide) rfl (fun ls hl => ?_)
      refine lv_goto (tgt := 2) hx hb dX7_free_18 (by decide) ?_
      exact K2 _ _ h _ _ hP hS _ (lv_sub hl [1, 0] rfl)
set_option maxRecDepth 20000 in
theorem mX7_free (l : Launch) (G : zG) (xM : Nat → Nat) {uM : zSt} {vM : zSt} (h : fX7_free uM = some vM) : zC l yX7_free wsX7_free rmX7_free [.ref (xM 0)] G [shM G xM] [uM] [vM] none := by
  refine z_ofW (cc := cX7_free) (maxL := 2) (ret := none) (by decide) rfl (Nat.le_of_ble_eq_true rfl) ?_
  intro p e s m args below meth c C0 hK hN hD hP ls hl
  obtain ⟨hx, hb, hr, hml, hown, hts, hlk⟩ := id C0
  have hS : va_S (zA [shM G xM] s.heap.size) s.heap s.heap [] := va_S.rf
  replace hl : lv_has ls 2 [(0, .ref (xM 0))] := hl
  unfold fX7_free at h
  refine lv_iconst (v := 0) hx hb dX7_free_0 (by decide) ?_
  refine lv_istore_n (lv' := [(1, .int ((0 : Int32))), (0, .ref (xM 0))]) hx hb dX7_free_1 rfl hl (by decide) rfl (fun ls hl => ?_)
  exact tlX7_free_2 C0 hK hN hD  1000 _ _ h _ _ hP hS _ (lv_sub hl [1, 0] rfl)
end
def rmX7_mix : Room := { frames := 3, cells := 0, slots := 0, locals := 62 }
theorem kvX7_mix : yX7_mix.cls = RX7 ∧ yX7_mix.cls ≠ "java/lang/invoke/MethodHandle" ∧ yX7_mix.cls ≠ "java/lang/invoke/VarHandle" ∧ (parseMethodDescriptor yX7_mix.desc).map (fun d => d.parameters.length) = some 2 := by decide +kernel
section
variable {p : Program} {l : Launch} {e : Env} {s : State} {m : MethodId} {args : Array Value} {below : List Frame} {meth : Method} {c : Code} {G : zG} {xM : Nat → Nat} {vM : zSt}
set_option maxRecDepth 20000 in
theorem tlX7_mix_205 (C0 : zCtx p s m args meth c cX7_mix RX7 wsX7_mix 7 none) (hK : zK G s) (hN : zN s) (hD : zD [shM G xM])  : ∀ (n : Nat), ∀ (uM : zSt) (l4 : Int32), lX7_mix_205  n uM l4 = some vM → ∀ (H : Heap) (locs : List Loc), zP G [shM G xM] [uM] H → va_S (zA [shM G xM] s.heap.size) s.heap H locs → ∀ ls : Array Slot, lv_has ls 7 [(0, .ref (xM 0)), (4, .int l4)] → W p l e rmX7_mix s m args below meth c H locs 0 0 (MQ below (zQ G [shM G xM] [vM] (zA [shM G xM] s.heap.size) none) args s 0 0 (zA [shM G xM] s.heap.size)) (F0 m 205 ls []) := by
  obtain ⟨hx, hb, hr, hml, hown, hts, hlk⟩ := id C0
  have hwX7 : ∀ w ∈ wsX70, w.before args s = true := fun w h => hts w (List.mem_cons_of_mem _ (List.mem_append_right _ h))
  intro n
  induction n with
  | zero => intro uM l4 h; exact absurd h (fun q => nomatch q)
  | succ n K205 =>
    intro uM l4 h H locs hP hS ls hl
    replace h : bX7_mix_205  (lX7_mix_205  n) uM l4 = some vM := h
    unfold bX7_mix_205 at h
    refine lv_iload hx hb dX7_mix_205 (lv_at hl 1 rfl) ?_
    refine lv_aload_n hx hb dX7_mix_207 rfl (lv_at hl 0 rfl) ?_
    refine rM_11 hx hb hwX7 hown hK hP 0 (xM) rfl rfl (hts _ (List.mem_of_getElem? (i := 2) rfl)) dX7_mix_208 ?_
    refine lv_icmp_ge (tgt := 248) hx hb dX7_mix_211 (by decide) (fun hc => ?_) (fun hc => ?_)
    · replace h := zt hc h
      cases h
      exact z_vret hx hb hr hlk hP hS dX7_mix_248
    · replace h := zf hc h
      refine lv_aload_n hx hb dX7_mix_214 rfl (lv_at hl 0 rfl) ?_
      refine rM_12 hx hb hwX7 hown hK hP 0 (xM) rfl rfl (hts _ (List.mem_of_getElem? (i := 5) rfl)) dX7_mix_215 ?_
      refine lv_iload hx hb dX7_mix_218 (lv_at hl 1 rfl) ?_
      refine lv_aload_n hx hb dX7_mix_220 rfl (lv_at hl 0 rfl) ?_
      refine rM_17 hx hb hwX7 hown hK hP 0 (xM) rfl rfl (hts _ (List.mem_of_getElem? (i := 4) rfl)) dX7_mix_221 ?_
      refine lv_iload hx hb dX7_mix_224 (lv_at hl 1 rfl) ?_
      obtain ⟨hi, h⟩ := zin_e h
      refine aM_17 hx hb hK hP 0 (xM) rfl rfl hi rfl dX7_mix_226 ?_
      obtain ⟨hi, h⟩ := zin_e h
      refine tM_12 hx hb hK hP hD hS 0 (xM) rfl rfl hi rfl dX7_mix_227 (fun H locs hP hS => ?_)
      replace hP : zP G [shM G xM] [(sA uM 12 l4.toNatClampNeg ((gA uM 17 l4.toNatClampNeg)))] H := hP
      refine lv_aload_n hx hb dX7_mix_228 rfl (lv_at hl 0 rfl) ?_
      refine rM_13 hx hb hwX7 hown hK hP 0 (xM) rfl rfl (hts _ (List.mem_of_getElem? (i := 7) rfl)) dX7_mix_229 ?_
      refine lv_iload hx hb dX7_mix_232 (lv_at hl 1 rfl) ?_
      refine lv_aload_n hx hb dX7_mix_234 rfl (lv_at hl 0 rfl) ?_
      refine rM_18 hx hb hwX7 hown hK hP 0 (xM) rfl rfl (hts _ (List.mem_of_getElem? (i := 6) rfl)) dX7_mix_235 ?_
      refine lv_iload hx hb dX7_mix_238 (lv_at hl 1 rfl) ?_
      obtain ⟨hi, h⟩ := zin_e h
      refine aM_18 hx hb hK hP 0 (xM) rfl rfl hi rfl dX7_mix_240 ?_
      obtain ⟨hi, h⟩ := zin_e h
      refine tM_13 hx hb hK hP hD hS 0 (xM) rfl rfl hi rfl dX7_mix_241 (fun H locs hP hS => ?_)
      replace hP : zP G [shM G xM] [(sA ((sA uM 12 l4.toNatClampNeg ((gA uM 17 l4.toNatClampNeg)))) 13 l4.toNatClampNeg ((gA ((sA uM 12 l4.toNatClampNeg ((gA uM 17 l4.toNatClampNeg)))) 18 l4.toNatClampNeg)))] H := hP
      refine lv_iinc (v := (l4 + (1 : Int32))) (lv' := [(4, .int ((l4 + (1 : Int32)))), (0, .ref (xM 0))]) hx hb dX7_mix_242 hl (k := 1) rfl rfl (by decide) rfl (fun ls hl => ?_)
      refine lv_goto (tgt := 205) hx hb dX7_mix_245 (by decide) ?_
      exact K205 _ _ h _ _ hP hS _ (lv_sub hl [1, 0] rfl)
set_option maxRecDepth 20000 in
theorem tlX7_mix_79 (C0 : zCtx p s m args meth c cX7_mix RX7 wsX7_mix 7 none) (hK : zK G s) (hN : zN s) (hD : zD [shM G xM])  : ∀ (n : Nat), ∀ (uM : zSt) (l1 : Int32) (l3 : Int32) (l4 : Int32), lX7_mix_79  n uM l1 l3 l4 = some vM → ∀ (H : Heap) (locs : List Loc), zP G [shM G xM] [uM] H → va_S (zA [shM G xM] s.heap.size) s.heap H locs → ∀ ls : Array Slot, lv_has ls 7 [(0, .ref (xM 0)), (1, .int l1), (3, .int l3), (4, .int l4)] → W p l e rmX7_mix s m args below meth c H locs 0 0 (MQ below (zQ G [shM G xM] [vM] (zA [shM G xM] s.heap.size) none) args s 0 0 (zA [shM G xM] s.heap.size)) (F0 m 79 ls []) := by
  obtain ⟨hx, hb, hr, hml, hown, hts, hlk⟩ := id C0
  have hwX7 : ∀ w ∈ wsX70, w.before args s = true := fun w h => hts w (List.mem_cons_of_mem _ (List.mem_append_right _ h))
  intro n
  induction n with
  | zero => intro uM l1 l3 l4 h; exact absurd h (fun q => nomatch q)
  | succ n K79 =>
    intro uM l1 l3 l4 h H locs hP hS ls hl
    replace h : bX7_mix_79  (lX7_mix_79  n) uM l1 l3 l4 = some vM := h
    unfold bX7_mix_79 at h
    refine lv_iload hx hb dX7_mix_79 (lv_at hl 3 rfl) ?_
    refine lv_aload_n hx hb dX7_mix_81 rfl (lv_at hl 0 rfl) ?_
    refine rM_11 hx hb hwX7 hown hK hP 0 (xM) rfl rfl (hts _ (List.mem_of_getElem? (i := 2) rfl)) dX7_mix_82 ?_
    refine lv_icmp_ge (tgt := 202) hx hb dX7_mix_85 (by decide) (fun hc => ?_) (fun hc => ?_)
    · replace h := zt hc h
      refine lv_iconst (v := 0) hx hb dX7_mix_202 (by decide) ?_
      refine lv_istore (lv' := [(4, .int ((0 : Int32))), (0, .ref (xM 0)), (1, .int l1), (3, .int l3)]) hx hb dX7_mix_203 hl (by decide) rfl (fun ls hl => ?_)
      exact tlX7_mix_205 C0 hK hN hD  1000 _ _ h _ _ hP hS _ (lv_sub hl [1, 0] rfl)
    · replace h := zf hc h
      refine lv_aload_n hx hb dX7_mix_88 rfl (lv_at hl 0 rfl) ?_
      refine lv_aload_n hx hb dX7_mix_89 rfl (lv_at hl 0 rfl) ?_
      refine rM_11 hx hb hwX7 hown hK hP 0 (xM) rfl rfl (hts _ (List.mem_of_getElem? (i := 2) rfl)) dX7_mix_90 ?_
      refine lv_iload_n hx hb dX7_mix_93 rfl (lv_at hl 2 rfl) ?_
      refine lv_aload_n hx hb dX7_mix_94 rfl (lv_at hl 0 rfl) ?_
      refine rM_11 hx hb hwX7 hown hK hP 0 (xM) rfl rfl (hts _ (List.mem_of_getElem? (i := 2) rfl)) dX7_mix_95 ?_
      refine lv_iload hx hb dX7_mix_98 (lv_at hl 3 rfl) ?_
      refine lv_isub hx hb dX7_mix_100 ?_
      obtain ⟨hz, h⟩ := znz_e h
      refine lv_irem hx hb dX7_mix_101 hz ?_
      obtain ⟨r_1, uM_2, hg, h⟩ := zb2_e h
      refine z_callV (As := [.int ((gI uM 11)), .int ((l3 - l3 / ((gI uM 11) - l4) * ((gI uM 11) - l4)))]) (rest := []) (i := 0) ⟨hx, hb, hml, hown, hts⟩ (mX7_take l G (xM) hg) (cwV 2 hts gX7_mix_X7_take rfl rfl rfl kvX7_take ⟨Nat.le_of_ble_eq_true rfl, Nat.le_of_ble_eq_true rfl⟩) rfl hP hD hK hN hS (Nat.le_refl _) [0] rfl rfl rfl rfl 0 rfl rfl rfl rfl rfl hl.1 rfl (Nat.le_of_ble_eq_true rfl) dX7_mix_102 ⟨Nat.zero_le _, Nat.zero_le _⟩ (fun H locs hP hS => ?_)
      replace hP : zP G [shM G xM] [uM_2] H := hP
      refine lv_istore (lv' := [(5, .int r_1), (0, .ref (xM 0)), (1, .int l1), (3, .int l3), (4, .int l4)]) hx hb dX7_mix_105 hl (by decide) rfl (fun ls hl => ?_)
      refine lv_iload_n hx hb dX7_mix_107 rfl (lv_at hl 3 rfl) ?_
      refine lv_aload_n hx hb dX7_mix_108 rfl (lv_at hl 1 rfl) ?_
      refine rM_11 hx hb hwX7 hown hK hP 0 (xM) rfl rfl (hts _ (List.mem_of_getElem? (i := 2) rfl)) dX7_mix_109 ?_
      refine lv_iload hx hb dX7_mix_112 (lv_at hl 4 rfl) ?_
      refine lv_isub hx hb dX7_mix_114 ?_
      obtain ⟨hz, h⟩ := znz_e h
      refine lv_idiv hx hb dX7_mix_115 hz ?_
      refine lv_istore_n (lv' := [(3, .int ((l3 / ((gI uM_2 11) - l4)))), (5, .int r_1), (0, .ref (xM 0)), (1, .int l1), (4, .int l4)]) hx hb dX7_mix_116 rfl hl (by decide) rfl (fun ls hl => ?_)
      refine lv_aload_n hx hb dX7_mix_117 rfl (lv_at hl 2 rfl) ?_
      refine lv_iload_n hx hb dX7_mix_118 rfl (lv_at hl 3 rfl) ?_
      refine lv_iload hx hb dX7_mix_119 (lv_at hl 4 rfl) ?_
      obtain ⟨r_3, uM_4, hg, h⟩ := zb2_e h
      refine z_callV (As := [.int l1, .int l4]) (rest := []) (i := 0) ⟨hx, hb, hml, hown, hts⟩ (mX7_digestOfTwo l G (xM) hg) (cwV 2 hts gX7_mix_X7_digestOfTwo rfl rfl rfl kvX7_digestOfTwo ⟨Nat.le_of_ble_eq_true rfl, Nat.le_of_ble_eq_true rfl⟩) rfl hP hD hK hN hS (Nat.le_refl _) [0] rfl rfl rfl rfl 0 rfl rfl rfl rfl rfl hl.1 rfl (Nat.le_of_ble_eq_true rfl) dX7_mix_121 ⟨Nat.zero_le _, Nat.zero_le _⟩ (fun H locs hP hS => ?_)
      replace hP : zP G [shM G xM] [uM_4] H := hP
      refine lv_istore (lv' := [(6, .int r_3), (3, .int ((l3 / ((gI uM_2 11) - l4)))), (5, .int r_1), (0, .ref (xM 0)), (1, .int l1), (4, .int l4)]) hx hb dX7_mix_124 hl (by decide) rfl (fun ls hl => ?_)
      refine lv_aload_n hx hb dX7_mix_126 rfl (lv_at hl 3 rfl) ?_
      refine rM_17 hx hb hwX7 hown hK hP 0 (xM) rfl rfl (hts _ (List.mem_of_getElem? (i := 4) rfl)) dX7_mix_127 ?_
      refine lv_iload hx hb dX7_mix_130 (lv_at hl 5 rfl) ?_
      refine lv_aload_n hx hb dX7_mix_132 rfl (lv_at hl 3 rfl) ?_
      refine rM_12 hx hb hwX7 hown hK hP 0 (xM) rfl rfl (hts _ (List.mem_of_getElem? (i := 5) rfl)) dX7_mix_133 ?_
      refine lv_iload hx hb dX7_mix_136 (lv_at hl 2 rfl) ?_
      obtain ⟨hi, h⟩ := zin_e h
      refine aM_12 hx hb hK hP 0 (xM) rfl rfl hi rfl dX7_mix_138 ?_
      refine lv_iconst (v := 4) hx hb dX7_mix_139 (by decide) ?_
      refine lv_iload hx hb dX7_mix_140 (lv_at hl 0 rfl) ?_
      obtain ⟨r_5, hg, h⟩ := zb1_e h
      refine z_callS (As := [.int ((4 : Int32)), .int r_3]) (rest := [.int ((gA uM_4 12 r_1.toNatClampNeg)), .int l4, .ref (xM 14)]) ⟨hx, hb, hml, hown, hts⟩ (mX7_power l G  hg) (va_cwS 2 hts gX7_mix_X7_power rfl rfl rfl ksX7_power ⟨Nat.le_of_ble_eq_true rfl, Nat.le_of_ble_eq_true rfl⟩) hP hD hK hN hS (Nat.le_refl _) [] rfl rfl rfl rfl rfl hl.1 rfl (Nat.le_of_ble_eq_true rfl) dX7_mix_142 ⟨Nat.zero_le _, Nat.zero_le _⟩ (fun H locs hP hS => ?_)
      replace hP : zP G [shM G xM] [uM_4] H := hP
      obtain ⟨r_6, hg, h⟩ := zb1_e h
      refine z_callS (As := [.int ((gA uM_4 12 r_1.toNatClampNeg)), .int r_5]) (rest := [.int l4, .ref (xM 14)]) ⟨hx, hb, hml, hown, hts⟩ (mX7_times l G  hg) (va_cwS 2 hts gX7_mix_X7_times rfl rfl rfl ksX7_times ⟨Nat.le_of_ble_eq_true rfl, Nat.le_of_ble_eq_true rfl⟩) hP hD hK hN hS (Nat.le_refl _) [] rfl rfl rfl rfl rfl hl.1 rfl (Nat.le_of_ble_eq_true rfl) dX7_mix_145 ⟨Nat.zero_le _, Nat.zero_le _⟩ (fun H locs hP hS => ?_)
      replace hP : zP G [shM G xM] [uM_4] H := hP
      obtain ⟨hi, h⟩ := zin_e h
      refine tM_17 hx hb hK hP hD hS 0 (xM) rfl rfl hi rfl dX7_mix_148 (fun H locs hP hS => ?_)
      replace hP : zP G [shM G xM] [(sA uM_4 17 l4.toNatClampNeg r_6)] H := hP
      refine lv_aload_n hx hb dX7_mix_149 rfl (lv_at hl 3 rfl) ?_
      refine rM_18 hx hb hwX7 hown hK hP 0 (xM) rfl rfl (hts _ (List.mem_of_getElem? (i := 6) rfl)) dX7_mix_150 ?_
      refine lv_iload hx hb dX7_mix_153 (lv_at hl 5 rfl) ?_
      refine lv_aload_n hx hb dX7_mix_155 rfl (lv_at hl 3 rfl) ?_
      refine rM_13 hx hb hwX7 hown hK hP 0 (xM) rfl rfl (hts _ (List.mem_of_getElem? (i := 7) rfl)) dX7_mix_156 ?_
      refine lv_iload hx hb dX7_mix_159 (lv_at hl 2 rfl) ?_
      obtain ⟨hi, h⟩ := zin_e h
      refine aM_13 hx hb hK hP 0 (xM) rfl rfl hi rfl dX7_mix_161 ?_
      refine lv_aload_n hx hb dX7_mix_162 rfl (lv_at hl 3 rfl) ?_
      obtain ⟨r_7, hg, h⟩ := zb1_e h
      refine z_callV (As := []) (rest := [.int ((gA ((sA uM_4 17 l4.toNatClampNeg r_6)) 13 r_1.toNatClampNeg)), .int l4, .ref (xM 15)]) (i := 0) ⟨hx, hb, hml, hown, hts⟩ (mX7_publicKey l G (xM) hg) (cwV 0 hts gX7_mix_X7_publicKey rfl rfl rfl kvX7_publicKey ⟨Nat.le_of_ble_eq_true rfl, Nat.le_of_ble_eq_true rfl⟩) rfl hP hD hK hN hS (Nat.le_refl _) [0] rfl rfl rfl rfl 0 rfl rfl rfl rfl rfl hl.1 rfl (Nat.le_of_ble_eq_true rfl) dX7_mix_163 ⟨Nat.zero_le _, Nat.zero_le _⟩ (fun H locs hP hS => ?_)
      replace hP : zP G [shM G xM] [(sA uM_4 17 l4.toNatClampNeg r_6)] H := hP
      refine lv_iload hx hb dX7_mix_166 (lv_at hl 0 rfl) ?_
      obtain ⟨r_8, hg, h⟩ := zb1_e h
      refine z_callS (As := [.int r_7, .int r_3]) (rest := [.int ((gA ((sA uM_4 17 l4.toNatClampNeg r_6)) 13 r_1.toNatClampNeg)), .int l4, .ref (xM 15)]) ⟨hx, hb, hml, hown, hts⟩ (mX7_power l G  hg) (va_cwS 2 hts gX7_mix_X7_power rfl rfl rfl ksX7_power ⟨Nat.le_of_ble_eq_true rfl, Nat.le_of_ble_eq_true rfl⟩) hP hD hK hN hS (Nat.le_refl _) [] rfl rfl rfl rfl rfl hl.1 rfl (Nat.le_of_ble_eq_true rfl) dX7_mix_168 ⟨Nat.zero_le _, Nat.zero_le _⟩ (fun H locs hP hS => ?_)
      replace hP : zP G [shM G xM] [(sA uM_4 17 l4.toNatClampNeg r_6)] H := hP
      obtain ⟨r_9, hg, h⟩ := zb1_e h
      refine z_callS (As := [.int ((gA ((sA uM_4 17 l4.toNatClampNeg r_6)) 13 r_1.toNatClampNeg)), .int r_8]) (rest := [.int l4, .ref (xM 15)]) ⟨hx, hb, hml, hown, hts⟩ (mX7_times l G  hg) (va_cwS 2 hts gX7_mix_X7_times rfl rfl rfl ksX7_times ⟨Nat.le_of_ble_eq_true rfl, Nat.le_of_ble_eq_true rfl⟩) hP hD hK hN hS (Nat.le_refl _) [] rfl rfl rfl rfl rfl hl.1 rfl (Nat.le_of_ble_eq_true rfl) dX7_mix_171 ⟨Nat.zero_le _, Nat.zero_le _⟩ (fun H locs hP hS => ?_)
      replace hP : zP G [shM G xM] [(sA uM_4 17 l4.toNatClampNeg r_6)] H := hP
      obtain ⟨hi, h⟩ := zin_e h
      refine tM_18 hx hb hK hP hD hS 0 (xM) rfl rfl hi rfl dX7_mix_174 (fun H locs hP hS => ?_)
      replace hP : zP G [shM G xM] [(sA ((sA uM_4 17 l4.toNatClampNeg r_6)) 18 l4.toNatClampNeg r_9)] H := hP
      refine lv_aload_n hx hb dX7_mix_175 rfl (lv_at hl 3 rfl) ?_
      refine lv_iconst (v := 5) hx hb dX7_mix_176 (by decide) ?_
      refine lv_aload_n hx hb dX7_mix_177 rfl (lv_at hl 3 rfl) ?_
      refine rM_17 hx hb hwX7 hown hK hP 0 (xM) rfl rfl (hts _ (List.mem_of_getElem? (i := 4) rfl)) dX7_mix_178 ?_
      refine lv_iload hx hb dX7_mix_181 (lv_at hl 5 rfl) ?_
      obtain ⟨hi, h⟩ := zin_e h
      refine aM_17 hx hb hK hP 0 (xM) rfl rfl hi rfl dX7_mix_183 ?_
      refine lv_aload_n hx hb dX7_mix_184 rfl (lv_at hl 3 rfl) ?_
      refine rM_18 hx hb hwX7 hown hK hP 0 (xM) rfl rfl (hts _ (List.mem_of_getElem? (i := 6) rfl)) dX7_mix_185 ?_
      refine lv_iload hx hb dX7_mix_188 (lv_at hl 5 rfl) ?_
      obtain ⟨hi, h⟩ := zin_e h
      refine aM_18 hx hb hK hP 0 (xM) rfl rfl hi rfl dX7_mix_190 ?_
      refine lv_iconst (v := 0) hx hb dX7_mix_191 (by decide) ?_
      obtain ⟨r_10, uM_11, hg, h⟩ := zb2_e h
      refine z_callV (As := [.int ((5 : Int32)), .int ((gA ((sA ((sA uM_4 17 l4.toNatClampNeg r_6)) 18 l4.toNatClampNeg r_9)) 17 l4.toNatClampNeg)), .int ((gA ((sA ((sA uM_4 17 l4.toNatClampNeg r_6)) 18 l4.toNatClampNeg r_9)) 18 l4.toNatClampNeg)), .int ((0 : Int32))]) (rest := []) (i := 0) ⟨hx, hb, hml, hown, hts⟩ (mX7_put l G (xM) hg) (cwV 4 hts gX7_mix_X7_put rfl rfl rfl kvX7_put ⟨Nat.le_of_ble_eq_true rfl, Nat.le_of_ble_eq_true rfl⟩) rfl hP hD hK hN hS (Nat.le_refl _) [0] rfl rfl rfl rfl 0 rfl rfl rfl rfl rfl hl.1 rfl (Nat.le_of_ble_eq_true rfl) dX7_mix_192 ⟨Nat.zero_le _, Nat.zero_le _⟩ (fun H locs hP hS => ?_)
      replace hP : zP G [shM G xM] [uM_11] H := hP
      refine lv_pop hx hb dX7_mix_195 rfl ?_
      refine lv_iinc (v := (l4 + (1 : Int32))) (lv' := [(4, .int ((l4 + (1 : Int32)))), (6, .int r_3), (3, .int ((l3 / ((gI uM_2 11) - l4)))), (5, .int r_1), (0, .ref (xM 0)), (1, .int l1)]) hx hb dX7_mix_196 hl (k := 5) rfl rfl (by decide) rfl (fun ls hl => ?_)
      refine lv_goto (tgt := 79) hx hb dX7_mix_199 (by decide) ?_
      exact K79 _ _ _ _ h _ _ hP hS _ (lv_sub hl [4, 5, 2, 0] rfl)
set_option maxRecDepth 20000 in
theorem tX7_mix_50 (C0 : zCtx p s m args meth c cX7_mix RX7 wsX7_mix 7 none) (hK : zK G s) (hN : zN s) (hD : zD [shM G xM])  : ∀ (uM : zSt) (l1 : Int32) (l2 : Int32) (s1 : Int32), bX7_mix_50  uM l1 l2 s1 = some vM → ∀ (H : Heap) (locs : List Loc), zP G [shM G xM] [uM] H → va_S (zA [shM G xM] s.heap.size) s.heap H locs → ∀ ls : Array Slot, lv_has ls 7 [(0, .ref (xM 0)), (1, .int l1), (2, .int l2)] → W p l e rmX7_mix s m args below meth c H locs 0 0 (MQ below (zQ G [shM G xM] [vM] (zA [shM G xM] s.heap.size) none) args s 0 0 (zA [shM G xM] s.heap.size)) (F0 m 50 ls [.int s1, .ref (xM 0)]) := by
  obtain ⟨hx, hb, hr, hml, hown, hts, hlk⟩ := id C0
  have hwX7 : ∀ w ∈ wsX70, w.before args s = true := fun w h => hts w (List.mem_cons_of_mem _ (List.mem_append_right _ h))
  intro uM l1 l2 s1 h H locs hP hS ls hl
  unfold bX7_mix_50 at h
  refine pM_0 hx hb hwX7 hown hK hP hD hS 0 (xM) rfl rfl (hts _ (List.mem_of_getElem? (i := 3) rfl)) dX7_mix_50 (fun H locs hP hS => ?_)
  replace hP : zP G [shM G xM] [(sI uM 0 s1)] H := hP
  refine lv_aload_n hx hb dX7_mix_53 rfl (lv_at hl 0 rfl) ?_
  refine rM_0 hx hb hwX7 hown hK hP 0 (xM) rfl rfl (hts _ (List.mem_of_getElem? (i := 3) rfl)) dX7_mix_54 ?_
  refine lv_if_le (tgt := 61) hx hb dX7_mix_57 (by decide) (fun hc => ?_) (fun hc => ?_)
  · replace h := zt hc h
    refine lv_aload_n hx hb dX7_mix_61 rfl (lv_at hl 0 rfl) ?_
    refine lv_iconst (v := 4) hx hb dX7_mix_62 (by decide) ?_
    refine lv_iload_n hx hb dX7_mix_63 rfl (lv_at hl 1 rfl) ?_
    refine lv_iload_n hx hb dX7_mix_64 rfl (lv_at hl 2 rfl) ?_
    refine lv_iconst (v := 0) hx hb dX7_mix_65 (by decide) ?_
    obtain ⟨r_12, uM_13, hg, h⟩ := zb2_e h
    refine z_callV (As := [.int ((4 : Int32)), .int l1, .int l2, .int ((0 : Int32))]) (rest := []) (i := 0) ⟨hx, hb, hml, hown, hts⟩ (mX7_put l G (xM) hg) (cwV 4 hts gX7_mix_X7_put rfl rfl rfl kvX7_put ⟨Nat.le_of_ble_eq_true rfl, Nat.le_of_ble_eq_true rfl⟩) rfl hP hD hK hN hS (Nat.le_refl _) [0] rfl rfl rfl rfl 0 rfl rfl rfl rfl rfl hl.1 rfl (Nat.le_of_ble_eq_true rfl) dX7_mix_66 ⟨Nat.zero_le _, Nat.zero_le _⟩ (fun H locs hP hS => ?_)
    replace hP : zP G [shM G xM] [uM_13] H := hP
    refine lv_pop hx hb dX7_mix_69 rfl ?_
    refine lv_aload_n hx hb dX7_mix_70 rfl (lv_at hl 0 rfl) ?_
    obtain ⟨uM_14, hg, h⟩ := zb1_e h
    refine z_callV (As := []) (rest := []) (i := 0) ⟨hx, hb, hml, hown, hts⟩ (mX7_free l G (xM) hg) (cwV 0 hts gX7_mix_X7_free rfl rfl rfl kvX7_free ⟨Nat.le_of_ble_eq_true rfl, Nat.le_of_ble_eq_true rfl⟩) rfl hP hD hK hN hS (Nat.le_refl _) [0] rfl rfl rfl rfl 0 rfl rfl rfl rfl rfl hl.1 rfl (Nat.le_of_ble_eq_true rfl) dX7_mix_71 ⟨Nat.zero_le _, Nat.zero_le _⟩ (fun H locs hP hS => ?_)
    replace hP : zP G [shM G xM] [uM_14] H := hP
    refine lv_iload_n hx hb dX7_mix_74 rfl (lv_at hl 2 rfl) ?_
    refine lv_istore_n (lv' := [(3, .int l2), (0, .ref (xM 0)), (1, .int l1), (2, .int l2)]) hx hb dX7_mix_75 rfl hl (by decide) rfl (fun ls hl => ?_)
    refine lv_iconst (v := 0) hx hb dX7_mix_76 (by decide) ?_
    refine lv_istore (lv' := [(4, .int ((0 : Int32))), (3, .int l2), (0, .ref (xM 0)), (1, .int l1), (2, .int l2)]) hx hb dX7_mix_77 hl (by decide) rfl (fun ls hl => ?_)
    exact tlX7_mix_79 C0 hK hN hD  1000 _ _ _ _ h _ _ hP hS _ (lv_sub hl [2, 3, 1, 0] rfl)
  · replace h := zf hc h
    cases h
    exact z_vret hx hb hr hlk hP hS dX7_mix_60
set_option maxRecDepth 20000 in
theorem tX7_mix_28 (C0 : zCtx p s m args meth c cX7_mix RX7 wsX7_mix 7 none) (hK : zK G s) (hN : zN s) (hD : zD [shM G xM])  : ∀ (uM : zSt) (l1 : Int32) (l2 : Int32), bX7_mix_28  uM l1 l2 = some vM → ∀ (H : Heap) (locs : List Loc), zP G [shM G xM] [uM] H → va_S (zA [shM G xM] s.heap.size) s.heap H locs → ∀ ls : Array Slot, lv_has ls 7 [(0, .ref (xM 0)), (1, .int l1), (2, .int l2)] → W p l e rmX7_mix s m args below meth c H locs 0 0 (MQ below (zQ G [shM G xM] [vM] (zA [shM G xM] s.heap.size) none) args s 0 0 (zA [shM G xM] s.heap.size)) (F0 m 28 ls [.ref (xM 0)]) := by
  obtain ⟨hx, hb, hr, hml, hown, hts, hlk⟩ := id C0
  intro uM l1 l2 h H locs hP hS ls hl
  unfold bX7_mix_28 at h
  refine lv_iconst (v := 2) hx hb dX7_mix_28 (by decide) ?_
  refine lv_goto (tgt := 50) hx hb dX7_mix_29 (by decide) ?_
  exact tX7_mix_50 C0 hK hN hD  _ _ _ _ h _ _ hP hS _ (lv_sub hl [0, 1, 2] rfl)
set_option maxRecDepth 20000 in
theorem mX7_mix (l : Launch) (G : zG) (xM : Nat → Nat) {uM : zSt} {l1 : Int32} {l2 : Int32} {vM : zSt} (h : fX7_mix uM l1 l2 = some vM) : zC l yX7_mix wsX7_mix rmX7_mix [.ref (xM 0), .int l1, .int l2] G [shM G xM] [uM] [vM] none := by
  refine z_ofW (cc := cX7_mix) (maxL := 7) (ret := none) (by decide) rfl (Nat.le_of_ble_eq_true rfl) ?_
  intro p e s m args below meth c C0 hK hN hD hP ls hl
  obtain ⟨hx, hb, hr, hml, hown, hts, hlk⟩ := id C0
  have hS : va_S (zA [shM G xM] s.heap.size) s.heap s.heap [] := va_S.rf
  replace hl : lv_has ls 7 [(0, .ref (xM 0)), (1, .int l1), (2, .int l2)] := hl
  have hwX7 : ∀ w ∈ wsX70, w.before args s = true := fun w h => hts w (List.mem_cons_of_mem _ (List.mem_append_right _ h))
  unfold fX7_mix at h
  refine lv_aload_n hx hb dX7_mix_0 rfl (lv_at hl 0 rfl) ?_
  refine lv_aload_n hx hb dX7_mix_1 rfl (lv_at hl 0 rfl) ?_
  refine rM_4 hx hb hwX7 hown hK hP 0 (xM) rfl rfl (hts _ (List.mem_of_getElem? (i := 1) rfl)) dX7_mix_2 ?_
  refine lv_iconst (v := 2) hx hb dX7_mix_5 (by decide) ?_
  refine lv_icmp_eq (tgt := 13) hx hb dX7_mix_6 (by decide) (fun hc => ?_) (fun hc => ?_)
  · replace h := zt hc h
    refine lv_iload_n hx hb dX7_mix_13 rfl (lv_at hl 2 rfl) ?_
    refine lv_if_lt (tgt := 28) hx hb dX7_mix_14 (by decide) (fun hc => ?_) (fun hc => ?_)
    · replace h := zt hc h
      exact tX7_mix_28 C0 hK hN hD  _ _ _ h _ _ hP hS _ (lv_sub hl [0, 1, 2] rfl)
    · replace h := zf hc h
      refine lv_iload_n hx hb dX7_mix_17 rfl (lv_at hl 2 rfl) ?_
      refine lv_aload_n hx hb dX7_mix_18 rfl (lv_at hl 0 rfl) ?_
      refine rM_11 hx hb hwX7 hown hK hP 0 (xM) rfl rfl (hts _ (List.mem_of_getElem? (i := 2) rfl)) dX7_mix_19 ?_
      obtain ⟨r_15, hg, h⟩ := zb1_e h
      refine z_callS (As := [.int ((gI uM 11))]) (rest := [.int l2, .ref (xM 0)]) ⟨hx, hb, hml, hown, hts⟩ (mX7_orders l G  hg) (va_cwS 1 hts gX7_mix_X7_orders rfl rfl rfl ksX7_orders ⟨Nat.le_of_ble_eq_true rfl, Nat.le_of_ble_eq_true rfl⟩) hP hD hK hN hS (Nat.le_refl _) [] rfl rfl rfl rfl rfl hl.1 rfl (Nat.le_of_ble_eq_true rfl) dX7_mix_22 ⟨Nat.zero_le _, Nat.zero_le _⟩ (fun H locs hP hS => ?_)
      replace hP : zP G [shM G xM] [uM] H := hP
      refine lv_icmp_lt (tgt := 32) hx hb dX7_mix_25 (by decide) (fun hc => ?_) (fun hc => ?_)
      · replace h := zt hc h
        refine lv_aload_n hx hb dX7_mix_32 rfl (lv_at hl 0 rfl) ?_
        refine lv_iconst (v := 1) hx hb dX7_mix_33 (by decide) ?_
        refine lv_aload_n hx hb dX7_mix_34 rfl (lv_at hl 0 rfl) ?_
        refine rM_11 hx hb hwX7 hown hK hP 0 (xM) rfl rfl (hts _ (List.mem_of_getElem? (i := 2) rfl)) dX7_mix_35 ?_
        refine lv_iadd hx hb dX7_mix_38 ?_
        obtain ⟨r_16, hg, h⟩ := zb1_e h
        refine z_callV (As := [.int (((1 : Int32) + (gI uM 11)))]) (rest := [.ref (xM 0)]) (i := 0) ⟨hx, hb, hml, hown, hts⟩ (mX7_noRoom l G (xM) hg) (cwV 1 hts gX7_mix_X7_noRoom rfl rfl rfl kvX7_noRoom ⟨Nat.le_of_ble_eq_true rfl, Nat.le_of_ble_eq_true rfl⟩) rfl hP hD hK hN hS (Nat.le_refl _) [0] rfl rfl rfl rfl 0 rfl rfl rfl rfl rfl hl.1 rfl (Nat.le_of_ble_eq_true rfl) dX7_mix_39 ⟨Nat.zero_le _, Nat.zero_le _⟩ (fun H locs hP hS => ?_)
        replace hP : zP G [shM G xM] [uM] H := hP
        refine lv_if_eq (tgt := 49) hx hb dX7_mix_42 (by decide) (fun hc => ?_) (fun hc => ?_)
        · replace h := zt hc h
          refine lv_iconst (v := 0) hx hb dX7_mix_49 (by decide) ?_
          exact tX7_mix_50 C0 hK hN hD  _ _ _ _ h _ _ hP hS _ (lv_sub hl [0, 1, 2] rfl)
        · replace h := zf hc h
          refine lv_iconst (v := 3) hx hb dX7_mix_45 (by decide) ?_
          refine lv_goto (tgt := 50) hx hb dX7_mix_46 (by decide) ?_
          exact tX7_mix_50 C0 hK hN hD  _ _ _ _ h _ _ hP hS _ (lv_sub hl [0, 1, 2] rfl)
      · replace h := zf hc h
        exact tX7_mix_28 C0 hK hN hD  _ _ _ h _ _ hP hS _ (lv_sub hl [0, 1, 2] rfl)
  · replace h := zf hc h
    refine lv_iconst (v := 1) hx hb dX7_mix_9 (by decide) ?_
    refine lv_goto (tgt := 50) hx hb dX7_mix_10 (by decide) ?_
    exact tX7_mix_50 C0 hK hN hD  _ _ _ _ h _ _ hP hS _ (lv_sub hl [0, 1, 2] rfl)
end
def rmX7_open : Room := { frames := 3, cells := 0, slots := 0, locals := 65 }
theorem kvX7_open : yX7_open.cls = RX7 ∧ yX7_open.cls ≠ "java/lang/invoke/MethodHandle" ∧ yX7_open.cls ≠ "java/lang/invoke/VarHandle" ∧ (parseMethodDescriptor yX7_open.desc).map (fun d => d.parameters.length) = some 2 := by decide +kernel
section
variable {p : Program} {l : Launch} {e : Env} {s : State} {m : MethodId} {args : Array Value} {below : List Frame} {meth : Method} {c : Code} {G : zG} {xM : Nat → Nat} {vM : zSt}
set_option maxRecDepth 20000 in
theorem tlX7_open_91 (C0 : zCtx p s m args meth c cX7_open RX7 wsX7_open 12 none) (hK : zK G s) (hN : zN s) (hD : zD [shM G xM])  : ∀ (n : Nat), ∀ (uM : zSt) (l1 : Int32) (l2 : Int32) (l4 : Int32) (l5 : Int32), lX7_open_91  n uM l1 l2 l4 l5 = some vM → ∀ (H : Heap) (locs : List Loc), zP G [shM G xM] [uM] H → va_S (zA [shM G xM] s.heap.size) s.heap H locs → ∀ ls : Array Slot, lv_has ls 12 [(0, .ref (xM 0)), (1, .int l1), (2, .int l2), (4, .int l4), (5, .int l5)] → W p l e rmX7_open s m args below meth c H locs 0 0 (MQ below (zQ G [shM G xM] [vM] (zA [shM G xM] s.heap.size) none) args s 0 0 (zA [shM G xM] s.heap.size)) (F0 m 91 ls []) := by
  obtain ⟨hx, hb, hr, hml, hown, hts, hlk⟩ := id C0
  have hwX7 : ∀ w ∈ wsX70, w.before args s = true := fun w h => hts w (List.mem_cons_of_mem _ (List.mem_append_right _ h))
  intro n
  induction n with
  | zero => intro uM l1 l2 l4 l5 h; exact absurd h (fun q => nomatch q)
  | succ n K91 =>
    intro uM l1 l2 l4 l5 h H locs hP hS ls hl
    replace h : bX7_open_91  (lX7_open_91  n) uM l1 l2 l4 l5 = some vM := h
    unfold bX7_open_91 at h
    refine lv_iload hx hb dX7_open_91 (lv_at hl 4 rfl) ?_
    refine lv_aload_n hx hb dX7_open_93 rfl (lv_at hl 0 rfl) ?_
    refine rM_11 hx hb hwX7 hown hK hP 0 (xM) rfl rfl (hts _ (List.mem_of_getElem? (i := 3) rfl)) dX7_open_94 ?_
    refine lv_icmp_ge (tgt := 260) hx hb dX7_open_97 (by decide) (fun hc => ?_) (fun hc => ?_)
    · replace h := zt hc h
      refine lv_aload_n hx hb dX7_open_260 rfl (lv_at hl 0 rfl) ?_
      refine rM_14 hx hb hwX7 hown hK hP 0 (xM) rfl rfl (hts _ (List.mem_of_getElem? (i := 2) rfl)) dX7_open_261 ?_
      refine lv_iload_n hx hb dX7_open_264 rfl (lv_at hl 1 rfl) ?_
      refine lv_iconst (v := 1) hx hb dX7_open_265 (by decide) ?_
      obtain ⟨hi, h⟩ := zin_e h
      refine tM_14 hx hb hK hP hD hS 0 (xM) rfl rfl hi rfl vnb_1 dX7_open_266 (fun H locs hP hS => ?_)
      replace hP : zP G [shM G xM] [(sA uM 14 l1.toNatClampNeg ((1 : Int32)))] H := hP
      refine lv_aload_n hx hb dX7_open_267 rfl (lv_at hl 0 rfl) ?_
      refine lv_iconst (v := 3) hx hb dX7_open_268 (by decide) ?_
      refine pM_4 hx hb hwX7 hown hK hP hD hS 0 (xM) rfl rfl (hts _ (List.mem_of_getElem? (i := 1) rfl)) dX7_open_269 (fun H locs hP hS => ?_)
      replace hP : zP G [shM G xM] [(sI ((sA uM 14 l1.toNatClampNeg ((1 : Int32)))) 4 ((3 : Int32)))] H := hP
      cases h
      exact z_vret hx hb hr hlk hP hS dX7_open_272
    · replace h := zf hc h
      refine lv_aload_n hx hb dX7_open_100 rfl (lv_at hl 0 rfl) ?_
      refine rM_12 hx hb hwX7 hown hK hP 0 (xM) rfl rfl (hts _ (List.mem_of_getElem? (i := 6) rfl)) dX7_open_101 ?_
      refine lv_iload hx hb dX7_open_104 (lv_at hl 4 rfl) ?_
      obtain ⟨hi, h⟩ := zin_e h
      refine aM_12 hx hb hK hP 0 (xM) rfl rfl hi rfl dX7_open_106 ?_
      refine lv_iload hx hb dX7_open_107 (lv_at hl 3 rfl) ?_
      obtain ⟨r_1, hg, h⟩ := zb1_e h
      refine z_callS (As := [.int ((gA uM 12 l5.toNatClampNeg)), .int l4]) (rest := []) ⟨hx, hb, hml, hown, hts⟩ (mX7_power l G  hg) (va_cwS 2 hts gX7_open_X7_power rfl rfl rfl ksX7_power ⟨Nat.le_of_ble_eq_true rfl, Nat.le_of_ble_eq_true rfl⟩) hP hD hK hN hS (Nat.le_refl _) [] rfl rfl rfl rfl rfl hl.1 rfl (Nat.le_of_ble_eq_true rfl) dX7_open_109 ⟨Nat.zero_le _, Nat.zero_le _⟩ (fun H locs hP hS => ?_)
      replace hP : zP G [shM G xM] [uM] H := hP
      refine lv_istore (lv' := [(6, .int r_1), (0, .ref (xM 0)), (1, .int l1), (2, .int l2), (4, .int l4), (5, .int l5)]) hx hb dX7_open_112 hl (by decide) rfl (fun ls hl => ?_)
      refine lv_aload_n hx hb dX7_open_114 rfl (lv_at hl 1 rfl) ?_
      refine lv_iload_n hx hb dX7_open_115 rfl (lv_at hl 3 rfl) ?_
      refine lv_iload_n hx hb dX7_open_116 rfl (lv_at hl 2 rfl) ?_
      refine lv_iload hx hb dX7_open_117 (lv_at hl 5 rfl) ?_
      obtain ⟨r_2, uM_3, hg, h⟩ := zb2_e h
      refine z_callV (As := [.int l2, .int l1, .int l5]) (rest := []) (i := 0) ⟨hx, hb, hml, hown, hts⟩ (mX7_digestOfThree l G (xM) hg) (cwV 3 hts gX7_open_X7_digestOfThree rfl rfl rfl kvX7_digestOfThree ⟨Nat.le_of_ble_eq_true rfl, Nat.le_of_ble_eq_true rfl⟩) rfl hP hD hK hN hS (Nat.le_refl _) [0] rfl rfl rfl rfl 0 rfl rfl rfl rfl rfl hl.1 rfl (Nat.le_of_ble_eq_true rfl) dX7_open_119 ⟨Nat.zero_le _, Nat.zero_le _⟩ (fun H locs hP hS => ?_)
      replace hP : zP G [shM G xM] [uM_3] H := hP
      refine lv_istore (lv' := [(7, .int r_2), (6, .int r_1), (0, .ref (xM 0)), (1, .int l1), (2, .int l2), (4, .int l4), (5, .int l5)]) hx hb dX7_open_122 hl (by decide) rfl (fun ls hl => ?_)
      refine lv_iconst (v := 4) hx hb dX7_open_124 (by decide) ?_
      refine lv_iload hx hb dX7_open_125 (lv_at hl 0 rfl) ?_
      obtain ⟨r_4, hg, h⟩ := zb1_e h
      refine z_callS (As := [.int ((4 : Int32)), .int r_2]) (rest := []) ⟨hx, hb, hml, hown, hts⟩ (mX7_power l G  hg) (va_cwS 2 hts gX7_open_X7_power rfl rfl rfl ksX7_power ⟨Nat.le_of_ble_eq_true rfl, Nat.le_of_ble_eq_true rfl⟩) hP hD hK hN hS (Nat.le_refl _) [] rfl rfl rfl rfl rfl hl.1 rfl (Nat.le_of_ble_eq_true rfl) dX7_open_127 ⟨Nat.zero_le _, Nat.zero_le _⟩ (fun H locs hP hS => ?_)
      replace hP : zP G [shM G xM] [uM_3] H := hP
      refine lv_istore (lv' := [(8, .int r_4), (7, .int r_2), (6, .int r_1), (0, .ref (xM 0)), (1, .int l1), (2, .int l2), (4, .int l4), (5, .int l5)]) hx hb dX7_open_130 hl (by decide) rfl (fun ls hl => ?_)
      refine lv_aload_n hx hb dX7_open_132 rfl (lv_at hl 3 rfl) ?_
      refine rM_12 hx hb hwX7 hown hK hP 0 (xM) rfl rfl (hts _ (List.mem_of_getElem? (i := 6) rfl)) dX7_open_133 ?_
      refine lv_iload hx hb dX7_open_136 (lv_at hl 7 rfl) ?_
      obtain ⟨hi, h⟩ := zin_e h
      refine aM_12 hx hb hK hP 0 (xM) rfl rfl hi rfl dX7_open_138 ?_
      refine lv_iload hx hb dX7_open_139 (lv_at hl 1 rfl) ?_
      obtain ⟨r_5, hg, h⟩ := zb1_e h
      refine z_callS (As := [.int ((gA uM_3 12 l5.toNatClampNeg)), .int r_2]) (rest := []) ⟨hx, hb, hml, hown, hts⟩ (mX7_power l G  hg) (va_cwS 2 hts gX7_open_X7_power rfl rfl rfl ksX7_power ⟨Nat.le_of_ble_eq_true rfl, Nat.le_of_ble_eq_true rfl⟩) hP hD hK hN hS (Nat.le_refl _) [] rfl rfl rfl rfl rfl hl.1 rfl (Nat.le_of_ble_eq_true rfl) dX7_open_141 ⟨Nat.zero_le _, Nat.zero_le _⟩ (fun H locs hP hS => ?_)
      replace hP : zP G [shM G xM] [uM_3] H := hP
      refine lv_istore (lv' := [(9, .int r_5), (8, .int r_4), (7, .int r_2), (6, .int r_1), (0, .ref (xM 0)), (1, .int l1), (2, .int l2), (4, .int l4), (5, .int l5)]) hx hb dX7_open_144 hl (by decide) rfl (fun ls hl => ?_)
      refine lv_aload_n hx hb dX7_open_146 rfl (lv_at hl 4 rfl) ?_
      refine lv_aload_n hx hb dX7_open_147 rfl (lv_at hl 4 rfl) ?_
      refine rM_6 hx hb hwX7 hown hK hP 0 (xM) rfl rfl (hts _ (List.mem_of_getElem? (i := 7) rfl)) dX7_open_148 ?_
      refine lv_iload_n hx hb dX7_open_151 rfl (lv_at hl 5 rfl) ?_
      obtain ⟨hi, h⟩ := zin_e h
      refine aM_6 hx hb hK hP 0 (xM) rfl rfl hi rfl dX7_open_152 ?_
      refine lv_aload_n hx hb dX7_open_153 rfl (lv_at hl 4 rfl) ?_
      refine rM_12 hx hb hwX7 hown hK hP 0 (xM) rfl rfl (hts _ (List.mem_of_getElem? (i := 6) rfl)) dX7_open_154 ?_
      refine lv_iload hx hb dX7_open_157 (lv_at hl 8 rfl) ?_
      obtain ⟨hi, h⟩ := zin_e h
      refine aM_12 hx hb hK hP 0 (xM) rfl rfl hi rfl dX7_open_159 ?_
      refine lv_iload hx hb dX7_open_160 (lv_at hl 3 rfl) ?_
      refine lv_iload hx hb dX7_open_162 (lv_at hl 1 rfl) ?_
      refine lv_iload hx hb dX7_open_164 (lv_at hl 0 rfl) ?_
      obtain ⟨r_6, uM_7, hg, h⟩ := zb2_e h
      refine z_callV (As := [.int ((gA uM_3 6 l1.toNatClampNeg)), .int ((gA uM_3 12 l5.toNatClampNeg)), .int r_1, .int r_4, .int r_5]) (rest := []) (i := 0) ⟨hx, hb, hml, hown, hts⟩ (mX7_digestOfFive l G (xM) hg) (cwV 5 hts gX7_open_X7_digestOfFive rfl rfl rfl kvX7_digestOfFive ⟨Nat.le_of_ble_eq_true rfl, Nat.le_of_ble_eq_true rfl⟩) rfl hP hD hK hN hS (Nat.le_refl _) [0] rfl rfl rfl rfl 0 rfl rfl rfl rfl rfl hl.1 rfl (Nat.le_of_ble_eq_true rfl) dX7_open_166 ⟨Nat.zero_le _, Nat.zero_le _⟩ (fun H locs hP hS => ?_)
      replace hP : zP G [shM G xM] [uM_7] H := hP
      refine lv_istore (lv' := [(10, .int r_6), (9, .int r_5), (8, .int r_4), (7, .int r_2), (6, .int r_1), (0, .ref (xM 0)), (1, .int l1), (2, .int l2), (4, .int l4), (5, .int l5)]) hx hb dX7_open_169 hl (by decide) rfl (fun ls hl => ?_)
      refine lv_aload_n hx hb dX7_open_171 rfl (lv_at hl 5 rfl) ?_
      refine rM_15 hx hb hwX7 hown hK hP 0 (xM) rfl rfl (hts _ (List.mem_of_getElem? (i := 8) rfl)) dX7_open_172 ?_
      refine lv_bipush (v := 10) hx hb dX7_open_175 (by decide) ?_
      refine lv_iload_n hx hb dX7_open_177 rfl (lv_at hl 6 rfl) ?_
      refine lv_imul hx hb dX7_open_178 ?_
      refine lv_iload hx hb dX7_open_179 (lv_at hl 9 rfl) ?_
      refine lv_iadd hx hb dX7_open_181 ?_
      refine lv_iload hx hb dX7_open_182 (lv_at hl 4 rfl) ?_
      obtain ⟨hi, h⟩ := zin_e h
      refine tM_15 hx hb hK hP hD hS 0 (xM) rfl rfl hi rfl dX7_open_184 (fun H locs hP hS => ?_)
      replace hP : zP G [shM G xM] [(sA uM_7 15 ((((10 : Int32) * l1) + l5)).toNatClampNeg r_1)] H := hP
      refine lv_aload_n hx hb dX7_open_185 rfl (lv_at hl 5 rfl) ?_
      refine lv_bipush (v := 6) hx hb dX7_open_186 (by decide) ?_
      refine lv_iload_n hx hb dX7_open_188 rfl (lv_at hl 6 rfl) ?_
      refine lv_iload hx hb dX7_open_189 (lv_at hl 9 rfl) ?_
      refine lv_iload hx hb dX7_open_191 (lv_at hl 4 rfl) ?_
      obtain ⟨r_8, uM_9, hg, h⟩ := zb2_e h
      refine z_callV (As := [.int ((6 : Int32)), .int l1, .int l5, .int r_1]) (rest := []) (i := 0) ⟨hx, hb, hml, hown, hts⟩ (mX7_put l G (xM) hg) (cwV 4 hts gX7_open_X7_put rfl rfl rfl kvX7_put ⟨Nat.le_of_ble_eq_true rfl, Nat.le_of_ble_eq_true rfl⟩) rfl hP hD hK hN hS (Nat.le_refl _) [0] rfl rfl rfl rfl 0 rfl rfl rfl rfl rfl hl.1 rfl (Nat.le_of_ble_eq_true rfl) dX7_open_193 ⟨Nat.zero_le _, Nat.zero_le _⟩ (fun H locs hP hS => ?_)
      replace hP : zP G [shM G xM] [uM_9] H := hP
      refine lv_istore (lv' := [(11, .int r_8), (10, .int r_6), (9, .int r_5), (8, .int r_4), (7, .int r_2), (6, .int r_1), (0, .ref (xM 0)), (1, .int l1), (2, .int l2), (4, .int l4), (5, .int l5)]) hx hb dX7_open_196 hl (by decide) rfl (fun ls hl => ?_)
      refine lv_aload_n hx hb dX7_open_198 rfl (lv_at hl 6 rfl) ?_
      refine rM_3 hx hb hwX7 hown hK hP 0 (xM) rfl rfl (hts _ (List.mem_of_getElem? (i := 9) rfl)) dX7_open_199 ?_
      refine lv_bipush (v := 6) hx hb dX7_open_202 (by decide) ?_
      refine lv_iload hx hb dX7_open_204 (lv_at hl 0 rfl) ?_
      refine lv_imul hx hb dX7_open_206 ?_
      refine lv_iconst (v := 3) hx hb dX7_open_207 (by decide) ?_
      refine lv_iadd hx hb dX7_open_208 ?_
      refine lv_iload hx hb dX7_open_209 (lv_at hl 4 rfl) ?_
      refine lv_i2l (v := r_2.toInt64) hx hb dX7_open_211 rfl ?_
      refine lv_iload hx hb dX7_open_212 (lv_at hl 1 rfl) ?_
      refine lv_i2l (v := r_6.toInt64) hx hb dX7_open_214 rfl ?_
      refine lv_iload hx hb dX7_open_215 (lv_at hl 9 rfl) ?_
      refine lv_i2l (v := l4.toInt64) hx hb dX7_open_217 rfl ?_
      refine lv_lmul hx hb dX7_open_218 ?_
      refine lv_ladd hx hb dX7_open_219 ?_
      refine lv_ldc2 (v := (2039)) hx hb hown (hts _ (List.mem_of_getElem? (i := 10) rfl)) dX7_open_220 ?_
      refine lv_lrem hx hb dX7_open_223 (by decide) ?_
      refine lv_l2i (v := (((r_2.toInt64) + ((r_6.toInt64) * (l4.toInt64))) - ((r_2.toInt64) + ((r_6.toInt64) * (l4.toInt64))) / (2039 : Int64) * (2039 : Int64)).toInt32) hx hb dX7_open_224 rfl ?_
      obtain ⟨hi, h⟩ := zin_e h
      refine tM_3 hx hb hK hP hD hS 0 (xM) rfl rfl hi rfl dX7_open_225 (fun H locs hP hS => ?_)
      replace hP : zP G [shM G xM] [(sA uM_9 3 ((((6 : Int32) * r_8) + (3 : Int32))).toNatClampNeg (((((r_2.toInt64) + ((r_6.toInt64) * (l4.toInt64))) - ((r_2.toInt64) + ((r_6.toInt64) * (l4.toInt64))) / (2039 : Int64) * (2039 : Int64)).toInt32)))] H := hP
      refine lv_aload_n hx hb dX7_open_226 rfl (lv_at hl 6 rfl) ?_
      refine rM_3 hx hb hwX7 hown hK hP 0 (xM) rfl rfl (hts _ (List.mem_of_getElem? (i := 9) rfl)) dX7_open_227 ?_
      refine lv_bipush (v := 6) hx hb dX7_open_230 (by decide) ?_
      refine lv_iload hx hb dX7_open_232 (lv_at hl 0 rfl) ?_
      refine lv_imul hx hb dX7_open_234 ?_
      refine lv_iconst (v := 4) hx hb dX7_open_235 (by decide) ?_
      refine lv_iadd hx hb dX7_open_236 ?_
      refine lv_iload hx hb dX7_open_237 (lv_at hl 3 rfl) ?_
      obtain ⟨hi, h⟩ := zin_e h
      refine tM_3 hx hb hK hP hD hS 0 (xM) rfl rfl hi rfl dX7_open_239 (fun H locs hP hS => ?_)
      replace hP : zP G [shM G xM] [(sA ((sA uM_9 3 ((((6 : Int32) * r_8) + (3 : Int32))).toNatClampNeg (((((r_2.toInt64) + ((r_6.toInt64) * (l4.toInt64))) - ((r_2.toInt64) + ((r_6.toInt64) * (l4.toInt64))) / (2039 : Int64) * (2039 : Int64)).toInt32)))) 3 ((((6 : Int32) * r_8) + (4 : Int32))).toNatClampNeg r_4)] H := hP
      refine lv_aload_n hx hb dX7_open_240 rfl (lv_at hl 6 rfl) ?_
      refine rM_3 hx hb hwX7 hown hK hP 0 (xM) rfl rfl (hts _ (List.mem_of_getElem? (i := 9) rfl)) dX7_open_241 ?_
      refine lv_bipush (v := 6) hx hb dX7_open_244 (by decide) ?_
      refine lv_iload hx hb dX7_open_246 (lv_at hl 0 rfl) ?_
      refine lv_imul hx hb dX7_open_248 ?_
      refine lv_iconst (v := 5) hx hb dX7_open_249 (by decide) ?_
      refine lv_iadd hx hb dX7_open_250 ?_
      refine lv_iload hx hb dX7_open_251 (lv_at hl 2 rfl) ?_
      obtain ⟨hi, h⟩ := zin_e h
      refine tM_3 hx hb hK hP hD hS 0 (xM) rfl rfl hi rfl dX7_open_253 (fun H locs hP hS => ?_)
      replace hP : zP G [shM G xM] [(sA ((sA ((sA uM_9 3 ((((6 : Int32) * r_8) + (3 : Int32))).toNatClampNeg (((((r_2.toInt64) + ((r_6.toInt64) * (l4.toInt64))) - ((r_2.toInt64) + ((r_6.toInt64) * (l4.toInt64))) / (2039 : Int64) * (2039 : Int64)).toInt32)))) 3 ((((6 : Int32) * r_8) + (4 : Int32))).toNatClampNeg r_4)) 3 ((((6 : Int32) * r_8) + (5 : Int32))).toNatClampNeg r_5)] H := hP
      refine lv_iinc (v := (l5 + (1 : Int32))) (lv' := [(5, .int ((l5 + (1 : Int32)))), (11, .int r_8), (10, .int r_6), (9, .int r_5), (8, .int r_4), (7, .int r_2), (6, .int r_1), (0, .ref (xM 0)), (1, .int l1), (2, .int l2), (4, .int l4)]) hx hb dX7_open_254 hl (k := 10) rfl rfl (by decide) rfl (fun ls hl => ?_)
      refine lv_goto (tgt := 91) hx hb dX7_open_257 (by decide) ?_
      exact K91 _ _ _ _ _ h _ _ hP hS _ (lv_sub hl [7, 8, 9, 10, 0] rfl)
set_option maxRecDepth 20000 in
theorem tX7_open_69 (C0 : zCtx p s m args meth c cX7_open RX7 wsX7_open 12 none) (hK : zK G s) (hN : zN s) (hD : zD [shM G xM])  : ∀ (uM : zSt) (l1 : Int32) (l2 : Int32) (s1 : Int32), bX7_open_69  uM l1 l2 s1 = some vM → ∀ (H : Heap) (locs : List Loc), zP G [shM G xM] [uM] H → va_S (zA [shM G xM] s.heap.size) s.heap H locs → ∀ ls : Array Slot, lv_has ls 12 [(0, .ref (xM 0)), (1, .int l1), (2, .int l2)] → W p l e rmX7_open s m args below meth c H locs 0 0 (MQ below (zQ G [shM G xM] [vM] (zA [shM G xM] s.heap.size) none) args s 0 0 (zA [shM G xM] s.heap.size)) (F0 m 69 ls [.int s1, .ref (xM 0)]) := by
  obtain ⟨hx, hb, hr, hml, hown, hts, hlk⟩ := id C0
  have hwX7 : ∀ w ∈ wsX70, w.before args s = true := fun w h => hts w (List.mem_cons_of_mem _ (List.mem_append_right _ h))
  intro uM l1 l2 s1 h H locs hP hS ls hl
  unfold bX7_open_69 at h
  refine pM_0 hx hb hwX7 hown hK hP hD hS 0 (xM) rfl rfl (hts _ (List.mem_of_getElem? (i := 4) rfl)) dX7_open_69 (fun H locs hP hS => ?_)
  replace hP : zP G [shM G xM] [(sI uM 0 s1)] H := hP
  refine lv_aload_n hx hb dX7_open_72 rfl (lv_at hl 0 rfl) ?_
  refine rM_0 hx hb hwX7 hown hK hP 0 (xM) rfl rfl (hts _ (List.mem_of_getElem? (i := 4) rfl)) dX7_open_73 ?_
  refine lv_if_le (tgt := 80) hx hb dX7_open_76 (by decide) (fun hc => ?_) (fun hc => ?_)
  · replace h := zt hc h
    refine lv_aload_n hx hb dX7_open_80 rfl (lv_at hl 0 rfl) ?_
    refine rM_5 hx hb hwX7 hown hK hP 0 (xM) rfl rfl (hts _ (List.mem_of_getElem? (i := 5) rfl)) dX7_open_81 ?_
    refine lv_iload_n hx hb dX7_open_84 rfl (lv_at hl 1 rfl) ?_
    obtain ⟨hi, h⟩ := zin_e h
    refine aM_5 hx hb hK hP 0 (xM) rfl rfl hi rfl dX7_open_85 ?_
    refine lv_istore (lv' := [(4, .int ((gA ((sI uM 0 s1)) 5 l1.toNatClampNeg))), (0, .ref (xM 0)), (1, .int l1), (2, .int l2)]) hx hb dX7_open_86 hl (by decide) rfl (fun ls hl => ?_)
    refine lv_iconst (v := 0) hx hb dX7_open_88 (by decide) ?_
    refine lv_istore (lv' := [(5, .int ((0 : Int32))), (4, .int ((gA ((sI uM 0 s1)) 5 l1.toNatClampNeg))), (0, .ref (xM 0)), (1, .int l1), (2, .int l2)]) hx hb dX7_open_89 hl (by decide) rfl (fun ls hl => ?_)
    exact tlX7_open_91 C0 hK hN hD  1000 _ _ _ _ _ h _ _ hP hS _ (lv_sub hl [2, 3, 4, 1, 0] rfl)
  · replace h := zf hc h
    cases h
    exact z_vret hx hb hr hlk hP hS dX7_open_79
set_option maxRecDepth 20000 in
theorem tX7_open_49 (C0 : zCtx p s m args meth c cX7_open RX7 wsX7_open 12 none) (hK : zK G s) (hN : zN s) (hD : zD [shM G xM])  : ∀ (uM : zSt) (l1 : Int32) (l2 : Int32), bX7_open_49  uM l1 l2 = some vM → ∀ (H : Heap) (locs : List Loc), zP G [shM G xM] [uM] H → va_S (zA [shM G xM] s.heap.size) s.heap H locs → ∀ ls : Array Slot, lv_has ls 12 [(0, .ref (xM 0)), (1, .int l1), (2, .int l2)] → W p l e rmX7_open s m args below meth c H locs 0 0 (MQ below (zQ G [shM G xM] [vM] (zA [shM G xM] s.heap.size) none) args s 0 0 (zA [shM G xM] s.heap.size)) (F0 m 49 ls [.ref (xM 0)]) := by
  obtain ⟨hx, hb, hr, hml, hown, hts, hlk⟩ := id C0
  intro uM l1 l2 h H locs hP hS ls hl
  unfold bX7_open_49 at h
  refine lv_iconst (v := 2) hx hb dX7_open_49 (by decide) ?_
  refine lv_goto (tgt := 69) hx hb dX7_open_50 (by decide) ?_
  exact tX7_open_69 C0 hK hN hD  _ _ _ _ h _ _ hP hS _ (lv_sub hl [0, 1, 2] rfl)
set_option maxRecDepth 20000 in
theorem tX7_open_40 (C0 : zCtx p s m args meth c cX7_open RX7 wsX7_open 12 none) (hK : zK G s) (hN : zN s) (hD : zD [shM G xM])  : ∀ (uM : zSt) (l1 : Int32) (l2 : Int32), bX7_open_40  uM l1 l2 = some vM → ∀ (H : Heap) (locs : List Loc), zP G [shM G xM] [uM] H → va_S (zA [shM G xM] s.heap.size) s.heap H locs → ∀ ls : Array Slot, lv_has ls 12 [(0, .ref (xM 0)), (1, .int l1), (2, .int l2)] → W p l e rmX7_open s m args below meth c H locs 0 0 (MQ below (zQ G [shM G xM] [vM] (zA [shM G xM] s.heap.size) none) args s 0 0 (zA [shM G xM] s.heap.size)) (F0 m 40 ls [.ref (xM 0)]) := by
  obtain ⟨hx, hb, hr, hml, hown, hts, hlk⟩ := id C0
  have hwX7 : ∀ w ∈ wsX70, w.before args s = true := fun w h => hts w (List.mem_cons_of_mem _ (List.mem_append_right _ h))
  intro uM l1 l2 h H locs hP hS ls hl
  unfold bX7_open_40 at h
  refine lv_aload_n hx hb dX7_open_40 rfl (lv_at hl 0 rfl) ?_
  refine rM_14 hx hb hwX7 hown hK hP 0 (xM) rfl rfl (hts _ (List.mem_of_getElem? (i := 2) rfl)) dX7_open_41 ?_
  refine lv_iload_n hx hb dX7_open_44 rfl (lv_at hl 1 rfl) ?_
  obtain ⟨hi, h⟩ := zin_e h
  refine aM_14 hx hb hK hP 0 (xM) rfl rfl hi rfl dX7_open_45 ?_
  refine lv_if_eq (tgt := 53) hx hb dX7_open_46 (by decide) (fun hc => ?_) (fun hc => ?_)
  · replace h := zt hc h
    refine lv_aload_n hx hb dX7_open_53 rfl (lv_at hl 0 rfl) ?_
    refine lv_aload_n hx hb dX7_open_54 rfl (lv_at hl 0 rfl) ?_
    refine rM_11 hx hb hwX7 hown hK hP 0 (xM) rfl rfl (hts _ (List.mem_of_getElem? (i := 3) rfl)) dX7_open_55 ?_
    obtain ⟨r_10, hg, h⟩ := zb1_e h
    refine z_callV (As := [.int ((gI uM 11))]) (rest := [.ref (xM 0)]) (i := 0) ⟨hx, hb, hml, hown, hts⟩ (mX7_noRoom l G (xM) hg) (cwV 1 hts gX7_open_X7_noRoom rfl rfl rfl kvX7_noRoom ⟨Nat.le_of_ble_eq_true rfl, Nat.le_of_ble_eq_true rfl⟩) rfl hP hD hK hN hS (Nat.le_refl _) [0] rfl rfl rfl rfl 0 rfl rfl rfl rfl rfl hl.1 rfl (Nat.le_of_ble_eq_true rfl) dX7_open_58 ⟨Nat.zero_le _, Nat.zero_le _⟩ (fun H locs hP hS => ?_)
    replace hP : zP G [shM G xM] [uM] H := hP
    refine lv_if_eq (tgt := 68) hx hb dX7_open_61 (by decide) (fun hc => ?_) (fun hc => ?_)
    · replace h := zt hc h
      refine lv_iconst (v := 0) hx hb dX7_open_68 (by decide) ?_
      exact tX7_open_69 C0 hK hN hD  _ _ _ _ h _ _ hP hS _ (lv_sub hl [0, 1, 2] rfl)
    · replace h := zf hc h
      refine lv_iconst (v := 3) hx hb dX7_open_64 (by decide) ?_
      refine lv_goto (tgt := 69) hx hb dX7_open_65 (by decide) ?_
      exact tX7_open_69 C0 hK hN hD  _ _ _ _ h _ _ hP hS _ (lv_sub hl [0, 1, 2] rfl)
  · replace h := zf hc h
    exact tX7_open_49 C0 hK hN hD  _ _ _ h _ _ hP hS _ (lv_sub hl [0, 1, 2] rfl)
set_option maxRecDepth 20000 in
theorem tX7_open_14 (C0 : zCtx p s m args meth c cX7_open RX7 wsX7_open 12 none) (hK : zK G s) (hN : zN s) (hD : zD [shM G xM])  : ∀ (uM : zSt) (l1 : Int32) (l2 : Int32) (s0 : Int32), bX7_open_14  uM l1 l2 s0 = some vM → ∀ (H : Heap) (locs : List Loc), zP G [shM G xM] [uM] H → va_S (zA [shM G xM] s.heap.size) s.heap H locs → ∀ ls : Array Slot, lv_has ls 12 [(0, .ref (xM 0)), (1, .int l1), (2, .int l2)] → W p l e rmX7_open s m args below meth c H locs 0 0 (MQ below (zQ G [shM G xM] [vM] (zA [shM G xM] s.heap.size) none) args s 0 0 (zA [shM G xM] s.heap.size)) (F0 m 14 ls [.int s0]) := by
  obtain ⟨hx, hb, hr, hml, hown, hts, hlk⟩ := id C0
  have hwX7 : ∀ w ∈ wsX70, w.before args s = true := fun w h => hts w (List.mem_cons_of_mem _ (List.mem_append_right _ h))
  intro uM l1 l2 s0 h H locs hP hS ls hl
  unfold bX7_open_14 at h
  refine lv_istore_n (lv' := [(3, .int s0), (0, .ref (xM 0)), (1, .int l1), (2, .int l2)]) hx hb dX7_open_14 rfl hl (by decide) rfl (fun ls hl => ?_)
  refine lv_aload_n hx hb dX7_open_15 rfl (lv_at hl 1 rfl) ?_
  refine lv_iload_n hx hb dX7_open_16 rfl (lv_at hl 0 rfl) ?_
  refine lv_if_ne (tgt := 24) hx hb dX7_open_17 (by decide) (fun hc => ?_) (fun hc => ?_)
  · replace h := zf hc h
    refine lv_aload_n hx hb dX7_open_24 rfl (lv_at hl 1 rfl) ?_
    refine rM_4 hx hb hwX7 hown hK hP 0 (xM) rfl rfl (hts _ (List.mem_of_getElem? (i := 1) rfl)) dX7_open_25 ?_
    refine lv_iconst (v := 2) hx hb dX7_open_28 (by decide) ?_
    refine lv_icmp_eq (tgt := 40) hx hb dX7_open_29 (by decide) (fun hc => ?_) (fun hc => ?_)
    · replace h := zt hc h
      exact tX7_open_40 C0 hK hN hD  _ _ _ h _ _ hP hS _ (lv_sub hl [1, 2, 3] rfl)
    · replace h := zf hc h
      refine lv_aload_n hx hb dX7_open_32 rfl (lv_at hl 1 rfl) ?_
      refine rM_4 hx hb hwX7 hown hK hP 0 (xM) rfl rfl (hts _ (List.mem_of_getElem? (i := 1) rfl)) dX7_open_33 ?_
      refine lv_iconst (v := 3) hx hb dX7_open_36 (by decide) ?_
      refine lv_icmp_ne (tgt := 49) hx hb dX7_open_37 (by decide) (fun hc => ?_) (fun hc => ?_)
      · replace h := zf hc h
        exact tX7_open_49 C0 hK hN hD  _ _ _ h _ _ hP hS _ (lv_sub hl [1, 2, 3] rfl)
      · replace h := zt hc h
        exact tX7_open_40 C0 hK hN hD  _ _ _ h _ _ hP hS _ (lv_sub hl [1, 2, 3] rfl)
  · replace h := zt hc h
    refine lv_iconst (v := 1) hx hb dX7_open_20 (by decide) ?_
    refine lv_goto (tgt := 69) hx hb dX7_open_21 (by decide) ?_
    exact tX7_open_69 C0 hK hN hD  _ _ _ _ h _ _ hP hS _ (lv_sub hl [1, 2, 3] rfl)
set_option maxRecDepth 20000 in
theorem tX7_open_13 (C0 : zCtx p s m args meth c cX7_open RX7 wsX7_open 12 none) (hK : zK G s) (hN : zN s) (hD : zD [shM G xM])  : ∀ (uM : zSt) (l1 : Int32) (l2 : Int32), bX7_open_13  uM l1 l2 = some vM → ∀ (H : Heap) (locs : List Loc), zP G [shM G xM] [uM] H → va_S (zA [shM G xM] s.heap.size) s.heap H locs → ∀ ls : Array Slot, lv_has ls 12 [(0, .ref (xM 0)), (1, .int l1), (2, .int l2)] → W p l e rmX7_open s m args below meth c H locs 0 0 (MQ below (zQ G [shM G xM] [vM] (zA [shM G xM] s.heap.size) none) args s 0 0 (zA [shM G xM] s.heap.size)) (F0 m 13 ls []) := by
  obtain ⟨hx, hb, hr, hml, hown, hts, hlk⟩ := id C0
  intro uM l1 l2 h H locs hP hS ls hl
  unfold bX7_open_13 at h
  refine lv_iconst (v := 0) hx hb dX7_open_13 (by decide) ?_
  exact tX7_open_14 C0 hK hN hD  _ _ _ _ h _ _ hP hS _ (lv_sub hl [0, 1, 2] rfl)
set_option maxRecDepth 20000 in
theorem mX7_open (l : Launch) (G : zG) (xM : Nat → Nat) {uM : zSt} {l1 : Int32} {l2 : Int32} {vM : zSt} (h : fX7_open uM l1 l2 = some vM) : zC l yX7_open wsX7_open rmX7_open [.ref (xM 0), .int l1, .int l2] G [shM G xM] [uM] [vM] none := by
  refine z_ofW (cc := cX7_open) (maxL := 12) (ret := none) (by decide) rfl (Nat.le_of_ble_eq_true rfl) ?_
  intro p e s m args below meth c C0 hK hN hD hP ls hl
  obtain ⟨hx, hb, hr, hml, hown, hts, hlk⟩ := id C0
  have hS : va_S (zA [shM G xM] s.heap.size) s.heap s.heap [] := va_S.rf
  replace hl : lv_has ls 12 [(0, .ref (xM 0)), (1, .int l1), (2, .int l2)] := hl
  unfold fX7_open at h
  refine lv_iload_n hx hb dX7_open_0 rfl (lv_at hl 1 rfl) ?_
  refine lv_if_lt (tgt := 13) hx hb dX7_open_1 (by decide) (fun hc => ?_) (fun hc => ?_)
  · replace h := zt hc h
    exact tX7_open_13 C0 hK hN hD  _ _ _ h _ _ hP hS _ (lv_sub hl [0, 1, 2] rfl)
  · replace h := zf hc h
    refine lv_iload_n hx hb dX7_open_4 rfl (lv_at hl 1 rfl) ?_
    refine lv_iconst (v := 2) hx hb dX7_open_5 (by decide) ?_
    refine lv_icmp_gt (tgt := 13) hx hb dX7_open_6 (by decide) (fun hc => ?_) (fun hc => ?_)
    · replace h := zt hc h
      exact tX7_open_13 C0 hK hN hD  _ _ _ h _ _ hP hS _ (lv_sub hl [0, 1, 2] rfl)
    · replace h := zf hc h
      refine lv_iconst (v := 1) hx hb dX7_open_9 (by decide) ?_
      refine lv_goto (tgt := 14) hx hb dX7_open_10 (by decide) ?_
      exact tX7_open_14 C0 hK hN hD  _ _ _ _ h _ _ hP hS _ (lv_sub hl [0, 1, 2] rfl)
end
def rmX7_choiceOf : Room := { frames := 1, cells := 0, slots := 0, locals := 26 }
theorem ksX7_choiceOf : yX7_choiceOf.cls ≠ "java/lang/invoke/MethodHandle" ∧ yX7_choiceOf.cls ≠ "java/lang/invoke/VarHandle" ∧ (parseMethodDescriptor yX7_choiceOf.desc).map (fun d => d.parameters.length) = some 1 := by decide +kernel
section
variable {p : Program} {l : Launch} {e : Env} {s : State} {m : MethodId} {args : Array Value} {below : List Frame} {meth : Method} {c : Code} {G : zG}  {rr : Int32}
set_option maxRecDepth 20000 in
theorem tlX7_choiceOf_2 (C0 : zCtx p s m args meth c cX7_choiceOf RX7 wsX7_choiceOf 2 (some .int)) (hK : zK G s) (hN : zN s) (hD : zD [])  : ∀ (n : Nat), ∀ (l0 : Int32) (l1 : Int32), lX7_choiceOf_2  n l0 l1 = some rr → ∀ (H : Heap) (locs : List Loc), zP G [] [] H → va_S (zA [] s.heap.size) s.heap H locs → ∀ ls : Array Slot, lv_has ls 2 [(0, .int l0), (1, .int l1)] → W p l e rmX7_choiceOf s m args below meth c H locs 0 0 (MQ below (zQ G [] [] (zA [] s.heap.size) (some (.int rr))) args s 0 0 (zA [] s.heap.size)) (F0 m 2 ls []) := by
  obtain ⟨hx, hb, hr, hml, hown, hts, hlk⟩ := id C0
  intro n
  induction n with
  | zero => intro l0 l1 h; exact absurd h (fun q => nomatch q)
  | succ n K2 =>
    intro l0 l1 h H locs hP hS ls hl
    replace h : bX7_choiceOf_2  (lX7_choiceOf_2  n) l0 l1 = some rr := h
    unfold bX7_choiceOf_2 at h
    refine lv_iload_n hx hb dX7_choiceOf_2 rfl (lv_at hl 1 rfl) ?_
    refine lv_iconst (v := 4) hx hb dX7_choiceOf_3 (by decide) ?_
    refine lv_icmp_ge (tgt := 24) hx hb dX7_choiceOf_4 (by decide) (fun hc => ?_) (fun hc => ?_)
    · replace h := zt hc h
      refine lv_iconst (v := (-1)) hx hb dX7_choiceOf_24 (by decide) ?_
      cases h
      exact z_iret hx hb hr hlk hP hS dX7_choiceOf_25
    · replace h := zf hc h
      refine lv_iconst (v := 4) hx hb dX7_choiceOf_7 (by decide) ?_
      refine lv_iload_n hx hb dX7_choiceOf_8 rfl (lv_at hl 1 rfl) ?_
      obtain ⟨r_1, hg, h⟩ := zb1_e h
      refine z_callS (As := [.int ((4 : Int32)), .int l1]) (rest := []) ⟨hx, hb, hml, hown, hts⟩ (mX7_power l G  hg) (va_cwS 2 hts gX7_choiceOf_X7_power rfl rfl rfl ksX7_power ⟨Nat.le_of_ble_eq_true rfl, Nat.le_of_ble_eq_true rfl⟩) hP hD hK hN hS (Nat.le_refl _) [] rfl rfl rfl rfl rfl hl.1 rfl (Nat.le_of_ble_eq_true rfl) dX7_choiceOf_9 ⟨Nat.zero_le _, Nat.zero_le _⟩ (fun H locs hP hS => ?_)
      replace hP : zP G [] [] H := hP
      refine lv_iload_n hx hb dX7_choiceOf_12 rfl (lv_at hl 0 rfl) ?_
      refine lv_icmp_ne (tgt := 18) hx hb dX7_choiceOf_13 (by decide) (fun hc => ?_) (fun hc => ?_)
      · replace h := zf hc h
        refine lv_iinc (v := (l1 + (1 : Int32))) (lv' := [(1, .int ((l1 + (1 : Int32)))), (0, .int l0)]) hx hb dX7_choiceOf_18 hl (k := 1) rfl rfl (by decide) rfl (fun ls hl => ?_)
        refine lv_goto (tgt := 2) hx hb dX7_choiceOf_21 (by decide) ?_
        exact K2 _ _ h _ _ hP hS _ (lv_sub hl [1, 0] rfl)
      · replace h := zt hc h
        refine lv_iload_n hx hb dX7_choiceOf_16 rfl (lv_at hl 1 rfl) ?_
        cases h
        exact z_iret hx hb hr hlk hP hS dX7_choiceOf_17
set_option maxRecDepth 20000 in
theorem mX7_choiceOf (l : Launch) (G : zG)  {l0 : Int32} {rr : Int32} (h : fX7_choiceOf l0 = some rr) : zC l yX7_choiceOf wsX7_choiceOf rmX7_choiceOf [.int l0] G [] [] [] (some (.int rr)) := by
  refine z_ofW (cc := cX7_choiceOf) (maxL := 2) (ret := some .int) (by decide) rfl (Nat.le_of_ble_eq_true rfl) ?_
  intro p e s m args below meth c C0 hK hN hD hP ls hl
  obtain ⟨hx, hb, hr, hml, hown, hts, hlk⟩ := id C0
  have hS : va_S (zA [] s.heap.size) s.heap s.heap [] := va_S.rf
  replace hl : lv_has ls 2 [(0, .int l0)] := hl
  unfold fX7_choiceOf at h
  refine lv_iconst (v := 0) hx hb dX7_choiceOf_0 (by decide) ?_
  refine lv_istore_n (lv' := [(1, .int ((0 : Int32))), (0, .int l0)]) hx hb dX7_choiceOf_1 rfl hl (by decide) rfl (fun ls hl => ?_)
  exact tlX7_choiceOf_2 C0 hK hN hD  1000 _ _ h _ _ hP hS _ (lv_sub hl [1, 0] rfl)
end
def rmX7_valueOf : Room := { frames := 1, cells := 0, slots := 0, locals := 26 }
theorem ksX7_valueOf : yX7_valueOf.cls ≠ "java/lang/invoke/MethodHandle" ∧ yX7_valueOf.cls ≠ "java/lang/invoke/VarHandle" ∧ (parseMethodDescriptor yX7_valueOf.desc).map (fun d => d.parameters.length) = some 4 := by decide +kernel
section
variable {p : Program} {l : Launch} {e : Env} {s : State} {m : MethodId} {args : Array Value} {below : List Frame} {meth : Method} {c : Code} {G : zG}  {rr : Int32}
set_option maxRecDepth 20000 in
theorem mX7_valueOf (l : Launch) (G : zG)  {l0 : Int32} {l1 : Int32} {l2 : Int32} {l3 : Int32} {rr : Int32} (h : fX7_valueOf l0 l1 l2 l3 = some rr) : zC l yX7_valueOf wsX7_valueOf rmX7_valueOf [.int l0, .int l1, .int l2, .int l3] G [] [] [] (some (.int rr)) := by
  refine z_ofW (cc := cX7_valueOf) (maxL := 4) (ret := some .int) (by decide) rfl (Nat.le_of_ble_eq_true rfl) ?_
  intro p e s m args below meth c C0 hK hN hD hP ls hl
  obtain ⟨hx, hb, hr, hml, hown, hts, hlk⟩ := id C0
  have hS : va_S (zA [] s.heap.size) s.heap s.heap [] := va_S.rf
  replace hl : lv_has ls 4 [(0, .int l0), (1, .int l1), (2, .int l2), (3, .int l3)] := hl
  unfold fX7_valueOf at h
  refine lv_iload_n hx hb dX7_valueOf_0 rfl (lv_at hl 0 rfl) ?_
  refine lv_iload_n hx hb dX7_valueOf_1 rfl (lv_at hl 1 rfl) ?_
  refine lv_iload_n hx hb dX7_valueOf_2 rfl (lv_at hl 2 rfl) ?_
  obtain ⟨r_1, hg, h⟩ := zb1_e h
  refine z_callS (As := [.int l1, .int l2]) (rest := [.int l0]) ⟨hx, hb, hml, hown, hts⟩ (mX7_times l G  hg) (va_cwS 2 hts gX7_valueOf_X7_times rfl rfl rfl ksX7_times ⟨Nat.le_of_ble_eq_true rfl, Nat.le_of_ble_eq_true rfl⟩) hP hD hK hN hS (Nat.le_refl _) [] rfl rfl rfl rfl rfl hl.1 rfl (Nat.le_of_ble_eq_true rfl) dX7_valueOf_3 ⟨Nat.zero_le _, Nat.zero_le _⟩ (fun H locs hP hS => ?_)
  replace hP : zP G [] [] H := hP
  refine lv_iload_n hx hb dX7_valueOf_6 rfl (lv_at hl 3 rfl) ?_
  obtain ⟨r_2, hg, h⟩ := zb1_e h
  refine z_callS (As := [.int r_1, .int l3]) (rest := [.int l0]) ⟨hx, hb, hml, hown, hts⟩ (mX7_times l G  hg) (va_cwS 2 hts gX7_valueOf_X7_times rfl rfl rfl ksX7_times ⟨Nat.le_of_ble_eq_true rfl, Nat.le_of_ble_eq_true rfl⟩) hP hD hK hN hS (Nat.le_refl _) [] rfl rfl rfl rfl rfl hl.1 rfl (Nat.le_of_ble_eq_true rfl) dX7_valueOf_7 ⟨Nat.zero_le _, Nat.zero_le _⟩ (fun H locs hP hS => ?_)
  replace hP : zP G [] [] H := hP
  refine lv_sipush (v := 2038) hx hb dX7_valueOf_10 (by decide) ?_
  obtain ⟨r_3, hg, h⟩ := zb1_e h
  refine z_callS (As := [.int r_2, .int ((2038 : Int32))]) (rest := [.int l0]) ⟨hx, hb, hml, hown, hts⟩ (mX7_power l G  hg) (va_cwS 2 hts gX7_valueOf_X7_power rfl rfl rfl ksX7_power ⟨Nat.le_of_ble_eq_true rfl, Nat.le_of_ble_eq_true rfl⟩) hP hD hK hN hS (Nat.le_refl _) [] rfl rfl rfl rfl rfl hl.1 rfl (Nat.le_of_ble_eq_true rfl) dX7_valueOf_13 ⟨Nat.zero_le _, Nat.zero_le _⟩ (fun H locs hP hS => ?_)
  replace hP : zP G [] [] H := hP
  obtain ⟨r_4, hg, h⟩ := zb1_e h
  refine z_callS (As := [.int l0, .int r_3]) (rest := []) ⟨hx, hb, hml, hown, hts⟩ (mX7_times l G  hg) (va_cwS 2 hts gX7_valueOf_X7_times rfl rfl rfl ksX7_times ⟨Nat.le_of_ble_eq_true rfl, Nat.le_of_ble_eq_true rfl⟩) hP hD hK hN hS (Nat.le_refl _) [] rfl rfl rfl rfl rfl hl.1 rfl (Nat.le_of_ble_eq_true rfl) dX7_valueOf_16 ⟨Nat.zero_le _, Nat.zero_le _⟩ (fun H locs hP hS => ?_)
  replace hP : zP G [] [] H := hP
  cases h
  exact z_iret hx hb hr hlk hP hS dX7_valueOf_19
end
def rmX7_finish : Room := { frames := 2, cells := 0, slots := 0, locals := 49 }
theorem kvX7_finish : yX7_finish.cls = RX7 ∧ yX7_finish.cls ≠ "java/lang/invoke/MethodHandle" ∧ yX7_finish.cls ≠ "java/lang/invoke/VarHandle" ∧ (parseMethodDescriptor yX7_finish.desc).map (fun d => d.parameters.length) = some 0 := by decide +kernel
section
variable {p : Program} {l : Launch} {e : Env} {s : State} {m : MethodId} {args : Array Value} {below : List Frame} {meth : Method} {c : Code} {G : zG} {xM : Nat → Nat} {rr : Int32} {vM : zSt}
set_option maxRecDepth 20000 in
theorem tX7_finish_151 (C0 : zCtx p s m args meth c cX7_finish RX7 wsX7_finish 4 (some .int)) (hK : zK G s) (hN : zN s) (hD : zD [shM G xM]) {k89 : zSt → Int32 → Int32 → Option (Int32 × zSt)} (K89 : ∀ (uM : zSt) (l1 : Int32) (l2 : Int32), k89 uM l1 l2 = some (rr, vM) → ∀ (H : Heap) (locs : List Loc), zP G [shM G xM] [uM] H → va_S (zA [shM G xM] s.heap.size) s.heap H locs → ∀ ls : Array Slot, lv_has ls 4 [(0, .ref (xM 0)), (1, .int l1), (2, .int l2)] → W p l e rmX7_finish s m args below meth c H locs 0 0 (MQ below (zQ G [shM G xM] [vM] (zA [shM G xM] s.heap.size) (some (.int rr))) args s 0 0 (zA [shM G xM] s.heap.size)) (F0 m 89 ls [])) : ∀ (uM : zSt) (l1 : Int32) (l2 : Int32), bX7_finish_151 k89 uM l1 l2 = some (rr, vM) → ∀ (H : Heap) (locs : List Loc), zP G [shM G xM] [uM] H → va_S (zA [shM G xM] s.heap.size) s.heap H locs → ∀ ls : Array Slot, lv_has ls 4 [(0, .ref (xM 0)), (1, .int l1), (2, .int l2)] → W p l e rmX7_finish s m args below meth c H locs 0 0 (MQ below (zQ G [shM G xM] [vM] (zA [shM G xM] s.heap.size) (some (.int rr))) args s 0 0 (zA [shM G xM] s.heap.size)) (F0 m 151 ls []) := by
  obtain ⟨hx, hb, hr, hml, hown, hts, hlk⟩ := id C0
  intro uM l1 l2 h H locs hP hS ls hl
  unfold bX7_finish_151 at h
  refine lv_iinc (v := (l2 + (1 : Int32))) (lv' := [(2, .int ((l2 + (1 : Int32)))), (0, .ref (xM 0)), (1, .int l1)]) hx hb dX7_finish_151 hl (k := 2) rfl rfl (by decide) rfl (fun ls hl => ?_)
  refine lv_goto (tgt := 89) hx hb dX7_finish_154 (by decide) ?_
  exact K89 _ _ _ h _ _ hP hS _ (lv_sub hl [1, 2, 0] rfl)
set_option maxRecDepth 20000 in
theorem tlX7_finish_89 (C0 : zCtx p s m args meth c cX7_finish RX7 wsX7_finish 4 (some .int)) (hK : zK G s) (hN : zN s) (hD : zD [shM G xM])  : ∀ (n : Nat), ∀ (uM : zSt) (l1 : Int32) (l2 : Int32), lX7_finish_89  n uM l1 l2 = some (rr, vM) → ∀ (H : Heap) (locs : List Loc), zP G [shM G xM] [uM] H → va_S (zA [shM G xM] s.heap.size) s.heap H locs → ∀ ls : Array Slot, lv_has ls 4 [(0, .ref (xM 0)), (1, .int l1), (2, .int l2)] → W p l e rmX7_finish s m args below meth c H locs 0 0 (MQ below (zQ G [shM G xM] [vM] (zA [shM G xM] s.heap.size) (some (.int rr))) args s 0 0 (zA [shM G xM] s.heap.size)) (F0 m 89 ls []) := by
  obtain ⟨hx, hb, hr, hml, hown, hts, hlk⟩ := id C0
  have hwX7 : ∀ w ∈ wsX70, w.before args s = true := fun w h => hts w (List.mem_cons_of_mem _ (List.mem_append_right _ h))
  intro n
  induction n with
  | zero => intro uM l1 l2 h; exact absurd h (fun q => nomatch q)
  | succ n K89 =>
    intro uM l1 l2 h H locs hP hS ls hl
    replace h : bX7_finish_89  (lX7_finish_89  n) uM l1 l2 = some (rr, vM) := h
    unfold bX7_finish_89 at h
    refine lv_iload_n hx hb dX7_finish_89 rfl (lv_at hl 2 rfl) ?_
    refine lv_aload_n hx hb dX7_finish_90 rfl (lv_at hl 0 rfl) ?_
    refine rM_11 hx hb hwX7 hown hK hP 0 (xM) rfl rfl (hts _ (List.mem_of_getElem? (i := 5) rfl)) dX7_finish_91 ?_
    refine lv_icmp_ge (tgt := 157) hx hb dX7_finish_94 (by decide) (fun hc => ?_) (fun hc => ?_)
    · replace h := zt hc h
      refine lv_aload_n hx hb dX7_finish_157 rfl (lv_at hl 0 rfl) ?_
      refine lv_bipush (v := 7) hx hb dX7_finish_158 (by decide) ?_
      refine lv_aload_n hx hb dX7_finish_160 rfl (lv_at hl 0 rfl) ?_
      refine rM_16 hx hb hwX7 hown hK hP 0 (xM) rfl rfl (hts _ (List.mem_of_getElem? (i := 4) rfl)) dX7_finish_161 ?_
      refine lv_iconst (v := 0) hx hb dX7_finish_164 (by decide) ?_
      refine aM_16 hx hb hK hP 0 (xM) rfl rfl (zvi tn_0 n0_0 (by decide)) tn_0 dX7_finish_165 ?_
      refine lv_aload_n hx hb dX7_finish_166 rfl (lv_at hl 0 rfl) ?_
      refine rM_16 hx hb hwX7 hown hK hP 0 (xM) rfl rfl (hts _ (List.mem_of_getElem? (i := 4) rfl)) dX7_finish_167 ?_
      refine lv_iconst (v := 1) hx hb dX7_finish_170 (by decide) ?_
      refine aM_16 hx hb hK hP 0 (xM) rfl rfl (zvi tn_1 n0_1 (by decide)) tn_1 dX7_finish_171 ?_
      refine lv_aload_n hx hb dX7_finish_172 rfl (lv_at hl 0 rfl) ?_
      refine rM_16 hx hb hwX7 hown hK hP 0 (xM) rfl rfl (hts _ (List.mem_of_getElem? (i := 4) rfl)) dX7_finish_173 ?_
      refine lv_iconst (v := 2) hx hb dX7_finish_176 (by decide) ?_
      refine aM_16 hx hb hK hP 0 (xM) rfl rfl (zvi tn_2 n0_2 (by decide)) tn_2 dX7_finish_177 ?_
      obtain ⟨r_1, uM_2, hg, h⟩ := zb2_e h
      refine z_callV (As := [.int ((7 : Int32)), .int ((gA uM 16 0)), .int ((gA uM 16 1)), .int ((gA uM 16 2))]) (rest := []) (i := 0) ⟨hx, hb, hml, hown, hts⟩ (mX7_put l G (xM) hg) (cwV 4 hts gX7_finish_X7_put rfl rfl rfl kvX7_put ⟨Nat.le_of_ble_eq_true rfl, Nat.le_of_ble_eq_true rfl⟩) rfl hP hD hK hN hS (Nat.le_refl _) [0] rfl rfl rfl rfl 0 rfl rfl rfl rfl rfl hl.1 rfl (Nat.le_of_ble_eq_true rfl) dX7_finish_178 ⟨Nat.zero_le _, Nat.zero_le _⟩ (fun H locs hP hS => ?_)
      replace hP : zP G [shM G xM] [uM_2] H := hP
      refine lv_istore_n (lv' := [(2, .int r_1), (0, .ref (xM 0)), (1, .int l1)]) hx hb dX7_finish_181 rfl hl (by decide) rfl (fun ls hl => ?_)
      refine lv_aload_n hx hb dX7_finish_182 rfl (lv_at hl 1 rfl) ?_
      refine rM_3 hx hb hwX7 hown hK hP 0 (xM) rfl rfl (hts _ (List.mem_of_getElem? (i := 8) rfl)) dX7_finish_183 ?_
      refine lv_bipush (v := 6) hx hb dX7_finish_186 (by decide) ?_
      refine lv_iload_n hx hb dX7_finish_188 rfl (lv_at hl 0 rfl) ?_
      refine lv_imul hx hb dX7_finish_189 ?_
      refine lv_iconst (v := 3) hx hb dX7_finish_190 (by decide) ?_
      refine lv_iadd hx hb dX7_finish_191 ?_
      refine lv_aload_n hx hb dX7_finish_192 rfl (lv_at hl 1 rfl) ?_
      refine rM_16 hx hb hwX7 hown hK hP 0 (xM) rfl rfl (hts _ (List.mem_of_getElem? (i := 4) rfl)) dX7_finish_193 ?_
      refine lv_iconst (v := 3) hx hb dX7_finish_196 (by decide) ?_
      refine aM_16 hx hb hK hP 0 (xM) rfl rfl (zvi tn_3 n0_3 (by decide)) tn_3 dX7_finish_197 ?_
      obtain ⟨hi, h⟩ := zin_e h
      refine tM_3 hx hb hK hP hD hS 0 (xM) rfl rfl hi rfl dX7_finish_198 (fun H locs hP hS => ?_)
      replace hP : zP G [shM G xM] [(sA uM_2 3 ((((6 : Int32) * r_1) + (3 : Int32))).toNatClampNeg ((gA uM_2 16 3)))] H := hP
      refine lv_aload_n hx hb dX7_finish_199 rfl (lv_at hl 1 rfl) ?_
      refine lv_iconst (v := 4) hx hb dX7_finish_200 (by decide) ?_
      refine pM_4 hx hb hwX7 hown hK hP hD hS 0 (xM) rfl rfl (hts _ (List.mem_of_getElem? (i := 1) rfl)) dX7_finish_201 (fun H locs hP hS => ?_)
      replace hP : zP G [shM G xM] [(sI ((sA uM_2 3 ((((6 : Int32) * r_1) + (3 : Int32))).toNatClampNeg ((gA uM_2 16 3)))) 4 ((4 : Int32)))] H := hP
      refine lv_iload_n hx hb dX7_finish_204 rfl (lv_at hl 2 rfl) ?_
      cases h
      exact z_iret hx hb hr hlk hP hS dX7_finish_205
    · replace h := zf hc h
      refine lv_aload_n hx hb dX7_finish_97 rfl (lv_at hl 0 rfl) ?_
      refine rM_13 hx hb hwX7 hown hK hP 0 (xM) rfl rfl (hts _ (List.mem_of_getElem? (i := 6) rfl)) dX7_finish_98 ?_
      refine lv_iload_n hx hb dX7_finish_101 rfl (lv_at hl 2 rfl) ?_
      obtain ⟨hi, h⟩ := zin_e h
      refine aM_13 hx hb hK hP 0 (xM) rfl rfl hi rfl dX7_finish_102 ?_
      refine lv_aload_n hx hb dX7_finish_103 rfl (lv_at hl 0 rfl) ?_
      refine rM_15 hx hb hwX7 hown hK hP 0 (xM) rfl rfl (hts _ (List.mem_of_getElem? (i := 7) rfl)) dX7_finish_104 ?_
      refine lv_iload_n hx hb dX7_finish_107 rfl (lv_at hl 2 rfl) ?_
      obtain ⟨hi, h⟩ := zin_e h
      refine aM_15 hx hb hK hP 0 (xM) rfl rfl hi rfl dX7_finish_108 ?_
      refine lv_aload_n hx hb dX7_finish_109 rfl (lv_at hl 0 rfl) ?_
      refine rM_15 hx hb hwX7 hown hK hP 0 (xM) rfl rfl (hts _ (List.mem_of_getElem? (i := 7) rfl)) dX7_finish_110 ?_
      refine lv_bipush (v := 10) hx hb dX7_finish_113 (by decide) ?_
      refine lv_iload_n hx hb dX7_finish_115 rfl (lv_at hl 2 rfl) ?_
      refine lv_iadd hx hb dX7_finish_116 ?_
      obtain ⟨hi, h⟩ := zin_e h
      refine aM_15 hx hb hK hP 0 (xM) rfl rfl hi rfl dX7_finish_117 ?_
      refine lv_aload_n hx hb dX7_finish_118 rfl (lv_at hl 0 rfl) ?_
      refine rM_15 hx hb hwX7 hown hK hP 0 (xM) rfl rfl (hts _ (List.mem_of_getElem? (i := 7) rfl)) dX7_finish_119 ?_
      refine lv_bipush (v := 20) hx hb dX7_finish_122 (by decide) ?_
      refine lv_iload_n hx hb dX7_finish_124 rfl (lv_at hl 2 rfl) ?_
      refine lv_iadd hx hb dX7_finish_125 ?_
      obtain ⟨hi, h⟩ := zin_e h
      refine aM_15 hx hb hK hP 0 (xM) rfl rfl hi rfl dX7_finish_126 ?_
      obtain ⟨r_3, hg, h⟩ := zb1_e h
      refine z_callS (As := [.int ((gA uM 13 l2.toNatClampNeg)), .int ((gA uM 15 l2.toNatClampNeg)), .int ((gA uM 15 (((10 : Int32) + l2)).toNatClampNeg)), .int ((gA uM 15 (((20 : Int32) + l2)).toNatClampNeg))]) (rest := []) ⟨hx, hb, hml, hown, hts⟩ (mX7_valueOf l G  hg) (va_cwS 4 hts gX7_finish_X7_valueOf rfl rfl rfl ksX7_valueOf ⟨Nat.le_of_ble_eq_true rfl, Nat.le_of_ble_eq_true rfl⟩) hP hD hK hN hS (Nat.le_refl _) [] rfl rfl rfl rfl rfl hl.1 rfl (Nat.le_of_ble_eq_true rfl) dX7_finish_127 ⟨Nat.zero_le _, Nat.zero_le _⟩ (fun H locs hP hS => ?_)
      replace hP : zP G [shM G xM] [uM] H := hP
      obtain ⟨r_4, hg, h⟩ := zb1_e h
      refine z_callS (As := [.int r_3]) (rest := []) ⟨hx, hb, hml, hown, hts⟩ (mX7_choiceOf l G  hg) (va_cwS 1 hts gX7_finish_X7_choiceOf rfl rfl rfl ksX7_choiceOf ⟨Nat.le_of_ble_eq_true rfl, Nat.le_of_ble_eq_true rfl⟩) hP hD hK hN hS (Nat.le_refl _) [] rfl rfl rfl rfl rfl hl.1 rfl (Nat.le_of_ble_eq_true rfl) dX7_finish_130 ⟨Nat.zero_le _, Nat.zero_le _⟩ (fun H locs hP hS => ?_)
      replace hP : zP G [shM G xM] [uM] H := hP
      refine lv_istore_n (lv' := [(3, .int r_4), (0, .ref (xM 0)), (1, .int l1), (2, .int l2)]) hx hb dX7_finish_133 rfl hl (by decide) rfl (fun ls hl => ?_)
      refine lv_iload_n hx hb dX7_finish_134 rfl (lv_at hl 0 rfl) ?_
      refine lv_if_lt (tgt := 151) hx hb dX7_finish_135 (by decide) (fun hc => ?_) (fun hc => ?_)
      · replace h := zt hc h
        exact tX7_finish_151 C0 hK hN hD K89 _ _ _ h _ _ hP hS _ (lv_sub hl [1, 2, 3] rfl)
      · replace h := zf hc h
        refine lv_aload_n hx hb dX7_finish_138 rfl (lv_at hl 1 rfl) ?_
        refine rM_16 hx hb hwX7 hown hK hP 0 (xM) rfl rfl (hts _ (List.mem_of_getElem? (i := 4) rfl)) dX7_finish_139 ?_
        refine lv_iload_n hx hb dX7_finish_142 rfl (lv_at hl 0 rfl) ?_
        refine lv_dup2_11 hx hb dX7_finish_143 rfl rfl ?_
        obtain ⟨hi, h⟩ := zin_e h
        refine aM_16 hx hb hK hP 0 (xM) rfl rfl hi rfl dX7_finish_144 ?_
        refine lv_iconst (v := 1) hx hb dX7_finish_145 (by decide) ?_
        refine lv_iadd hx hb dX7_finish_146 ?_
        obtain ⟨hi, h⟩ := zin_e h
        refine tM_16 hx hb hK hP hD hS 0 (xM) rfl rfl hi rfl dX7_finish_147 (fun H locs hP hS => ?_)
        replace hP : zP G [shM G xM] [(sA uM 16 r_4.toNatClampNeg (((gA uM 16 r_4.toNatClampNeg) + (1 : Int32))))] H := hP
        refine lv_iinc (v := (l1 + (1 : Int32))) (lv' := [(1, .int ((l1 + (1 : Int32)))), (3, .int r_4), (0, .ref (xM 0)), (2, .int l2)]) hx hb dX7_finish_148 hl (k := 2) rfl rfl (by decide) rfl (fun ls hl => ?_)
        exact tX7_finish_151 C0 hK hN hD K89 _ _ _ h _ _ hP hS _ (lv_sub hl [2, 0, 3] rfl)
set_option maxRecDepth 20000 in
theorem tlX7_finish_69 (C0 : zCtx p s m args meth c cX7_finish RX7 wsX7_finish 4 (some .int)) (hK : zK G s) (hN : zN s) (hD : zD [shM G xM])  : ∀ (n : Nat), ∀ (uM : zSt) (l1 : Int32) (l2 : Int32), lX7_finish_69  n uM l1 l2 = some (rr, vM) → ∀ (H : Heap) (locs : List Loc), zP G [shM G xM] [uM] H → va_S (zA [shM G xM] s.heap.size) s.heap H locs → ∀ ls : Array Slot, lv_has ls 4 [(0, .ref (xM 0)), (1, .int l1), (2, .int l2)] → W p l e rmX7_finish s m args below meth c H locs 0 0 (MQ below (zQ G [shM G xM] [vM] (zA [shM G xM] s.heap.size) (some (.int rr))) args s 0 0 (zA [shM G xM] s.heap.size)) (F0 m 69 ls []) := by
  obtain ⟨hx, hb, hr, hml, hown, hts, hlk⟩ := id C0
  have hwX7 : ∀ w ∈ wsX70, w.before args s = true := fun w h => hts w (List.mem_cons_of_mem _ (List.mem_append_right _ h))
  intro n
  induction n with
  | zero => intro uM l1 l2 h; exact absurd h (fun q => nomatch q)
  | succ n K69 =>
    intro uM l1 l2 h H locs hP hS ls hl
    replace h : bX7_finish_69  (lX7_finish_69  n) uM l1 l2 = some (rr, vM) := h
    unfold bX7_finish_69 at h
    refine lv_iload_n hx hb dX7_finish_69 rfl (lv_at hl 2 rfl) ?_
    refine lv_iconst (v := 4) hx hb dX7_finish_70 (by decide) ?_
    refine lv_icmp_ge (tgt := 87) hx hb dX7_finish_71 (by decide) (fun hc => ?_) (fun hc => ?_)
    · replace h := zt hc h
      refine lv_iconst (v := 0) hx hb dX7_finish_87 (by decide) ?_
      refine lv_istore_n (lv' := [(2, .int ((0 : Int32))), (0, .ref (xM 0)), (1, .int l1)]) hx hb dX7_finish_88 rfl hl (by decide) rfl (fun ls hl => ?_)
      exact tlX7_finish_89 C0 hK hN hD  1000 _ _ _ h _ _ hP hS _ (lv_sub hl [1, 2, 0] rfl)
    · replace h := zf hc h
      refine lv_aload_n hx hb dX7_finish_74 rfl (lv_at hl 0 rfl) ?_
      refine rM_16 hx hb hwX7 hown hK hP 0 (xM) rfl rfl (hts _ (List.mem_of_getElem? (i := 4) rfl)) dX7_finish_75 ?_
      refine lv_iload_n hx hb dX7_finish_78 rfl (lv_at hl 2 rfl) ?_
      refine lv_iconst (v := 0) hx hb dX7_finish_79 (by decide) ?_
      obtain ⟨hi, h⟩ := zin_e h
      refine tM_16 hx hb hK hP hD hS 0 (xM) rfl rfl hi rfl dX7_finish_80 (fun H locs hP hS => ?_)
      replace hP : zP G [shM G xM] [(sA uM 16 l2.toNatClampNeg ((0 : Int32)))] H := hP
      refine lv_iinc (v := (l2 + (1 : Int32))) (lv' := [(2, .int ((l2 + (1 : Int32)))), (0, .ref (xM 0)), (1, .int l1)]) hx hb dX7_finish_81 hl (k := 2) rfl rfl (by decide) rfl (fun ls hl => ?_)
      refine lv_goto (tgt := 69) hx hb dX7_finish_84 (by decide) ?_
      exact K69 _ _ _ h _ _ hP hS _ (lv_sub hl [1, 2, 0] rfl)
set_option maxRecDepth 20000 in
theorem tX7_finish_53 (C0 : zCtx p s m args meth c cX7_finish RX7 wsX7_finish 4 (some .int)) (hK : zK G s) (hN : zN s) (hD : zD [shM G xM])  : ∀ (uM : zSt) (s1 : Int32), bX7_finish_53  uM s1 = some (rr, vM) → ∀ (H : Heap) (locs : List Loc), zP G [shM G xM] [uM] H → va_S (zA [shM G xM] s.heap.size) s.heap H locs → ∀ ls : Array Slot, lv_has ls 4 [(0, .ref (xM 0))] → W p l e rmX7_finish s m args below meth c H locs 0 0 (MQ below (zQ G [shM G xM] [vM] (zA [shM G xM] s.heap.size) (some (.int rr))) args s 0 0 (zA [shM G xM] s.heap.size)) (F0 m 53 ls [.int s1, .ref (xM 0)]) := by
  obtain ⟨hx, hb, hr, hml, hown, hts, hlk⟩ := id C0
  have hwX7 : ∀ w ∈ wsX70, w.before args s = true := fun w h => hts w (List.mem_cons_of_mem _ (List.mem_append_right _ h))
  intro uM s1 h H locs hP hS ls hl
  unfold bX7_finish_53 at h
  refine pM_0 hx hb hwX7 hown hK hP hD hS 0 (xM) rfl rfl (hts _ (List.mem_of_getElem? (i := 3) rfl)) dX7_finish_53 (fun H locs hP hS => ?_)
  replace hP : zP G [shM G xM] [(sI uM 0 s1)] H := hP
  refine lv_aload_n hx hb dX7_finish_56 rfl (lv_at hl 0 rfl) ?_
  refine rM_0 hx hb hwX7 hown hK hP 0 (xM) rfl rfl (hts _ (List.mem_of_getElem? (i := 3) rfl)) dX7_finish_57 ?_
  refine lv_if_le (tgt := 65) hx hb dX7_finish_60 (by decide) (fun hc => ?_) (fun hc => ?_)
  · replace h := zt hc h
    refine lv_iconst (v := 0) hx hb dX7_finish_65 (by decide) ?_
    refine lv_istore_n (lv' := [(1, .int ((0 : Int32))), (0, .ref (xM 0))]) hx hb dX7_finish_66 rfl hl (by decide) rfl (fun ls hl => ?_)
    refine lv_iconst (v := 0) hx hb dX7_finish_67 (by decide) ?_
    refine lv_istore_n (lv' := [(2, .int ((0 : Int32))), (1, .int ((0 : Int32))), (0, .ref (xM 0))]) hx hb dX7_finish_68 rfl hl (by decide) rfl (fun ls hl => ?_)
    exact tlX7_finish_69 C0 hK hN hD  1000 _ _ _ h _ _ hP hS _ (lv_sub hl [2, 1, 0] rfl)
  · replace h := zf hc h
    refine lv_iconst (v := 0) hx hb dX7_finish_63 (by decide) ?_
    cases h
    exact z_iret hx hb hr hlk hP hS dX7_finish_64
set_option maxRecDepth 20000 in
theorem tX7_finish_36 (C0 : zCtx p s m args meth c cX7_finish RX7 wsX7_finish 4 (some .int)) (hK : zK G s) (hN : zN s) (hD : zD [shM G xM])  : ∀ (uM : zSt), bX7_finish_36  uM = some (rr, vM) → ∀ (H : Heap) (locs : List Loc), zP G [shM G xM] [uM] H → va_S (zA [shM G xM] s.heap.size) s.heap H locs → ∀ ls : Array Slot, lv_has ls 4 [(0, .ref (xM 0))] → W p l e rmX7_finish s m args below meth c H locs 0 0 (MQ below (zQ G [shM G xM] [vM] (zA [shM G xM] s.heap.size) (some (.int rr))) args s 0 0 (zA [shM G xM] s.heap.size)) (F0 m 36 ls [.ref (xM 0)]) := by
  obtain ⟨hx, hb, hr, hml, hown, hts, hlk⟩ := id C0
  intro uM h H locs hP hS ls hl
  unfold bX7_finish_36 at h
  refine lv_iconst (v := 1) hx hb dX7_finish_36 (by decide) ?_
  refine lv_goto (tgt := 53) hx hb dX7_finish_37 (by decide) ?_
  exact tX7_finish_53 C0 hK hN hD  _ _ h _ _ hP hS _ (lv_sub hl [0] rfl)
set_option maxRecDepth 20000 in
theorem mX7_finish (l : Launch) (G : zG) (xM : Nat → Nat) {uM : zSt} {rr : Int32} {vM : zSt} (h : fX7_finish uM = some (rr, vM)) : zC l yX7_finish wsX7_finish rmX7_finish [.ref (xM 0)] G [shM G xM] [uM] [vM] (some (.int rr)) := by
  refine z_ofW (cc := cX7_finish) (maxL := 4) (ret := some .int) (by decide) rfl (Nat.le_of_ble_eq_true rfl) ?_
  intro p e s m args below meth c C0 hK hN hD hP ls hl
  obtain ⟨hx, hb, hr, hml, hown, hts, hlk⟩ := id C0
  have hS : va_S (zA [shM G xM] s.heap.size) s.heap s.heap [] := va_S.rf
  replace hl : lv_has ls 4 [(0, .ref (xM 0))] := hl
  have hwX7 : ∀ w ∈ wsX70, w.before args s = true := fun w h => hts w (List.mem_cons_of_mem _ (List.mem_append_right _ h))
  unfold fX7_finish at h
  refine lv_aload_n hx hb dX7_finish_0 rfl (lv_at hl 0 rfl) ?_
  refine lv_aload_n hx hb dX7_finish_1 rfl (lv_at hl 0 rfl) ?_
  refine rM_4 hx hb hwX7 hown hK hP 0 (xM) rfl rfl (hts _ (List.mem_of_getElem? (i := 1) rfl)) dX7_finish_2 ?_
  refine lv_iconst (v := 3) hx hb dX7_finish_5 (by decide) ?_
  refine lv_icmp_ne (tgt := 36) hx hb dX7_finish_6 (by decide) (fun hc => ?_) (fun hc => ?_)
  · replace h := zf hc h
    exact tX7_finish_36 C0 hK hN hD  _ h _ _ hP hS _ (lv_sub hl [0] rfl)
  · replace h := zt hc h
    refine lv_aload_n hx hb dX7_finish_9 rfl (lv_at hl 0 rfl) ?_
    refine rM_14 hx hb hwX7 hown hK hP 0 (xM) rfl rfl (hts _ (List.mem_of_getElem? (i := 2) rfl)) dX7_finish_10 ?_
    refine lv_iconst (v := 0) hx hb dX7_finish_13 (by decide) ?_
    refine aM_14 hx hb hK hP 0 (xM) rfl rfl (zvi tn_0 n0_0 (by decide)) tn_0 dX7_finish_14 ?_
    refine lv_if_eq (tgt := 36) hx hb dX7_finish_15 (by decide) (fun hc => ?_) (fun hc => ?_)
    · replace h := zt hc h
      exact tX7_finish_36 C0 hK hN hD  _ h _ _ hP hS _ (lv_sub hl [0] rfl)
    · replace h := zf hc h
      refine lv_aload_n hx hb dX7_finish_18 rfl (lv_at hl 0 rfl) ?_
      refine rM_14 hx hb hwX7 hown hK hP 0 (xM) rfl rfl (hts _ (List.mem_of_getElem? (i := 2) rfl)) dX7_finish_19 ?_
      refine lv_iconst (v := 1) hx hb dX7_finish_22 (by decide) ?_
      refine aM_14 hx hb hK hP 0 (xM) rfl rfl (zvi tn_1 n0_1 (by decide)) tn_1 dX7_finish_23 ?_
      refine lv_if_eq (tgt := 36) hx hb dX7_finish_24 (by decide) (fun hc => ?_) (fun hc => ?_)
      · replace h := zt hc h
        exact tX7_finish_36 C0 hK hN hD  _ h _ _ hP hS _ (lv_sub hl [0] rfl)
      · replace h := zf hc h
        refine lv_aload_n hx hb dX7_finish_27 rfl (lv_at hl 0 rfl) ?_
        refine rM_14 hx hb hwX7 hown hK hP 0 (xM) rfl rfl (hts _ (List.mem_of_getElem? (i := 2) rfl)) dX7_finish_28 ?_
        refine lv_iconst (v := 2) hx hb dX7_finish_31 (by decide) ?_
        refine aM_14 hx hb hK hP 0 (xM) rfl rfl (zvi tn_2 n0_2 (by decide)) tn_2 dX7_finish_32 ?_
        refine lv_if_ne (tgt := 40) hx hb dX7_finish_33 (by decide) (fun hc => ?_) (fun hc => ?_)
        · replace h := zf hc h
          refine lv_aload_n hx hb dX7_finish_40 rfl (lv_at hl 0 rfl) ?_
          refine lv_iconst (v := 1) hx hb dX7_finish_41 (by decide) ?_
          obtain ⟨r_5, hg, h⟩ := zb1_e h
          refine z_callV (As := [.int ((1 : Int32))]) (rest := [.ref (xM 0)]) (i := 0) ⟨hx, hb, hml, hown, hts⟩ (mX7_noRoom l G (xM) hg) (cwV 1 hts gX7_finish_X7_noRoom rfl rfl rfl kvX7_noRoom ⟨Nat.le_of_ble_eq_true rfl, Nat.le_of_ble_eq_true rfl⟩) rfl hP hD hK hN hS (Nat.le_refl _) [0] rfl rfl rfl rfl 0 rfl rfl rfl rfl rfl hl.1 rfl (Nat.le_of_ble_eq_true rfl) dX7_finish_42 ⟨Nat.zero_le _, Nat.zero_le _⟩ (fun H locs hP hS => ?_)
          replace hP : zP G [shM G xM] [uM] H := hP
          refine lv_if_eq (tgt := 52) hx hb dX7_finish_45 (by decide) (fun hc => ?_) (fun hc => ?_)
          · replace h := zt hc h
            refine lv_iconst (v := 0) hx hb dX7_finish_52 (by decide) ?_
            exact tX7_finish_53 C0 hK hN hD  _ _ h _ _ hP hS _ (lv_sub hl [0] rfl)
          · replace h := zf hc h
            refine lv_iconst (v := 2) hx hb dX7_finish_48 (by decide) ?_
            refine lv_goto (tgt := 53) hx hb dX7_finish_49 (by decide) ?_
            exact tX7_finish_53 C0 hK hN hD  _ _ h _ _ hP hS _ (lv_sub hl [0] rfl)
        · replace h := zt hc h
          exact tX7_finish_36 C0 hK hN hD  _ h _ _ hP hS _ (lv_sub hl [0] rfl)
end
def rmX7_phase : Room := { frames := 0, cells := 0, slots := 0, locals := 0 }
theorem kvX7_phase : yX7_phase.cls = RX7 ∧ yX7_phase.cls ≠ "java/lang/invoke/MethodHandle" ∧ yX7_phase.cls ≠ "java/lang/invoke/VarHandle" ∧ (parseMethodDescriptor yX7_phase.desc).map (fun d => d.parameters.length) = some 0 := by decide +kernel
section
variable {p : Program} {l : Launch} {e : Env} {s : State} {m : MethodId} {args : Array Value} {below : List Frame} {meth : Method} {c : Code} {G : zG} {xM : Nat → Nat} {rr : Int32} {vM : zSt}
set_option maxRecDepth 20000 in
theorem mX7_phase (l : Launch) (G : zG) (xM : Nat → Nat) {uM : zSt} {rr : Int32} {vM : zSt} (h : fX7_phase uM = some (rr, vM)) : zC l yX7_phase wsX7_phase rmX7_phase [.ref (xM 0)] G [shM G xM] [uM] [vM] (some (.int rr)) := by
  refine z_ofW (cc := cX7_phase) (maxL := 1) (ret := some .int) (by decide) rfl (Nat.le_of_ble_eq_true rfl) ?_
  intro p e s m args below meth c C0 hK hN hD hP ls hl
  obtain ⟨hx, hb, hr, hml, hown, hts, hlk⟩ := id C0
  have hS : va_S (zA [shM G xM] s.heap.size) s.heap s.heap [] := va_S.rf
  replace hl : lv_has ls 1 [(0, .ref (xM 0))] := hl
  have hwX7 : ∀ w ∈ wsX70, w.before args s = true := fun w h => hts w (List.mem_cons_of_mem _ (List.mem_append_right _ h))
  unfold fX7_phase at h
  refine lv_aload_n hx hb dX7_phase_0 rfl (lv_at hl 0 rfl) ?_
  refine lv_iconst (v := 0) hx hb dX7_phase_1 (by decide) ?_
  refine pM_0 hx hb hwX7 hown hK hP hD hS 0 (xM) rfl rfl (hts _ (List.mem_of_getElem? (i := 1) rfl)) dX7_phase_2 (fun H locs hP hS => ?_)
  replace hP : zP G [shM G xM] [(sI uM 0 ((0 : Int32)))] H := hP
  refine lv_aload_n hx hb dX7_phase_5 rfl (lv_at hl 0 rfl) ?_
  refine rM_4 hx hb hwX7 hown hK hP 0 (xM) rfl rfl (hts _ (List.mem_of_getElem? (i := 2) rfl)) dX7_phase_6 ?_
  cases h
  exact z_iret hx hb hr hlk hP hS dX7_phase_9
end
def rmX7_votes : Room := { frames := 0, cells := 0, slots := 0, locals := 0 }
theorem kvX7_votes : yX7_votes.cls = RX7 ∧ yX7_votes.cls ≠ "java/lang/invoke/MethodHandle" ∧ yX7_votes.cls ≠ "java/lang/invoke/VarHandle" ∧ (parseMethodDescriptor yX7_votes.desc).map (fun d => d.parameters.length) = some 1 := by decide +kernel
section
variable {p : Program} {l : Launch} {e : Env} {s : State} {m : MethodId} {args : Array Value} {below : List Frame} {meth : Method} {c : Code} {G : zG} {xM : Nat → Nat} {rr : Int32} {vM : zSt}
set_option maxRecDepth 20000 in
theorem tX7_votes_15 (C0 : zCtx p s m args meth c cX7_votes RX7 wsX7_votes 2 (some .int)) (hK : zK G s) (hN : zN s) (hD : zD [shM G xM])  : ∀ (uM : zSt) (l1 : Int32) (s1 : Int32), bX7_votes_15  uM l1 s1 = some (rr, vM) → ∀ (H : Heap) (locs : List Loc), zP G [shM G xM] [uM] H → va_S (zA [shM G xM] s.heap.size) s.heap H locs → ∀ ls : Array Slot, lv_has ls 2 [(0, .ref (xM 0)), (1, .int l1)] → W p l e rmX7_votes s m args below meth c H locs 0 0 (MQ below (zQ G [shM G xM] [vM] (zA [shM G xM] s.heap.size) (some (.int rr))) args s 0 0 (zA [shM G xM] s.heap.size)) (F0 m 15 ls [.int s1, .ref (xM 0)]) := by
  obtain ⟨hx, hb, hr, hml, hown, hts, hlk⟩ := id C0
  have hwX7 : ∀ w ∈ wsX70, w.before args s = true := fun w h => hts w (List.mem_cons_of_mem _ (List.mem_append_right _ h))
  intro uM l1 s1 h H locs hP hS ls hl
  unfold bX7_votes_15 at h
  refine pM_0 hx hb hwX7 hown hK hP hD hS 0 (xM) rfl rfl (hts _ (List.mem_of_getElem? (i := 1) rfl)) dX7_votes_15 (fun H locs hP hS => ?_)
  replace hP : zP G [shM G xM] [(sI uM 0 s1)] H := hP
  refine lv_aload_n hx hb dX7_votes_18 rfl (lv_at hl 0 rfl) ?_
  refine rM_0 hx hb hwX7 hown hK hP 0 (xM) rfl rfl (hts _ (List.mem_of_getElem? (i := 1) rfl)) dX7_votes_19 ?_
  refine lv_if_le (tgt := 29) hx hb dX7_votes_22 (by decide) (fun hc => ?_) (fun hc => ?_)
  · replace h := zt hc h
    refine lv_aload_n hx hb dX7_votes_29 rfl (lv_at hl 0 rfl) ?_
    refine rM_4 hx hb hwX7 hown hK hP 0 (xM) rfl rfl (hts _ (List.mem_of_getElem? (i := 2) rfl)) dX7_votes_30 ?_
    refine lv_iconst (v := 4) hx hb dX7_votes_33 (by decide) ?_
    refine lv_icmp_ne (tgt := 46) hx hb dX7_votes_34 (by decide) (fun hc => ?_) (fun hc => ?_)
    · replace h := zf hc h
      refine lv_iconst (v := (-1)) hx hb dX7_votes_46 (by decide) ?_
      cases h
      exact z_iret hx hb hr hlk hP hS dX7_votes_47
    · replace h := zt hc h
      refine lv_aload_n hx hb dX7_votes_37 rfl (lv_at hl 0 rfl) ?_
      refine rM_16 hx hb hwX7 hown hK hP 0 (xM) rfl rfl (hts _ (List.mem_of_getElem? (i := 3) rfl)) dX7_votes_38 ?_
      refine lv_iload_n hx hb dX7_votes_41 rfl (lv_at hl 1 rfl) ?_
      obtain ⟨hi, h⟩ := zin_e h
      refine aM_16 hx hb hK hP 0 (xM) rfl rfl hi rfl dX7_votes_42 ?_
      refine lv_goto (tgt := 47) hx hb dX7_votes_43 (by decide) ?_
      cases h
      exact z_iret hx hb hr hlk hP hS dX7_votes_47
  · replace h := zf hc h
    refine lv_iconst (v := 0) hx hb dX7_votes_25 (by decide) ?_
    refine lv_goto (tgt := 47) hx hb dX7_votes_26 (by decide) ?_
    cases h
    exact z_iret hx hb hr hlk hP hS dX7_votes_47
set_option maxRecDepth 20000 in
theorem tX7_votes_10 (C0 : zCtx p s m args meth c cX7_votes RX7 wsX7_votes 2 (some .int)) (hK : zK G s) (hN : zN s) (hD : zD [shM G xM])  : ∀ (uM : zSt) (l1 : Int32), bX7_votes_10  uM l1 = some (rr, vM) → ∀ (H : Heap) (locs : List Loc), zP G [shM G xM] [uM] H → va_S (zA [shM G xM] s.heap.size) s.heap H locs → ∀ ls : Array Slot, lv_has ls 2 [(0, .ref (xM 0)), (1, .int l1)] → W p l e rmX7_votes s m args below meth c H locs 0 0 (MQ below (zQ G [shM G xM] [vM] (zA [shM G xM] s.heap.size) (some (.int rr))) args s 0 0 (zA [shM G xM] s.heap.size)) (F0 m 10 ls [.ref (xM 0)]) := by
  obtain ⟨hx, hb, hr, hml, hown, hts, hlk⟩ := id C0
  intro uM l1 h H locs hP hS ls hl
  unfold bX7_votes_10 at h
  refine lv_iconst (v := 1) hx hb dX7_votes_10 (by decide) ?_
  refine lv_goto (tgt := 15) hx hb dX7_votes_11 (by decide) ?_
  exact tX7_votes_15 C0 hK hN hD  _ _ _ h _ _ hP hS _ (lv_sub hl [0, 1] rfl)
set_option maxRecDepth 20000 in
theorem mX7_votes (l : Launch) (G : zG) (xM : Nat → Nat) {uM : zSt} {l1 : Int32} {rr : Int32} {vM : zSt} (h : fX7_votes uM l1 = some (rr, vM)) : zC l yX7_votes wsX7_votes rmX7_votes [.ref (xM 0), .int l1] G [shM G xM] [uM] [vM] (some (.int rr)) := by
  refine z_ofW (cc := cX7_votes) (maxL := 2) (ret := some .int) (by decide) rfl (Nat.le_of_ble_eq_true rfl) ?_
  intro p e s m args below meth c C0 hK hN hD hP ls hl
  obtain ⟨hx, hb, hr, hml, hown, hts, hlk⟩ := id C0
  have hS : va_S (zA [shM G xM] s.heap.size) s.heap s.heap [] := va_S.rf
  replace hl : lv_has ls 2 [(0, .ref (xM 0)), (1, .int l1)] := hl
  unfold fX7_votes at h
  refine lv_aload_n hx hb dX7_votes_0 rfl (lv_at hl 0 rfl) ?_
  refine lv_iload_n hx hb dX7_votes_1 rfl (lv_at hl 1 rfl) ?_
  refine lv_if_lt (tgt := 10) hx hb dX7_votes_2 (by decide) (fun hc => ?_) (fun hc => ?_)
  · replace h := zt hc h
    exact tX7_votes_10 C0 hK hN hD  _ _ h _ _ hP hS _ (lv_sub hl [0, 1] rfl)
  · replace h := zf hc h
    refine lv_iload_n hx hb dX7_votes_5 rfl (lv_at hl 1 rfl) ?_
    refine lv_iconst (v := 3) hx hb dX7_votes_6 (by decide) ?_
    refine lv_icmp_le (tgt := 14) hx hb dX7_votes_7 (by decide) (fun hc => ?_) (fun hc => ?_)
    · replace h := zt hc h
      refine lv_iconst (v := 0) hx hb dX7_votes_14 (by decide) ?_
      exact tX7_votes_15 C0 hK hN hD  _ _ _ h _ _ hP hS _ (lv_sub hl [0, 1] rfl)
    · replace h := zf hc h
      exact tX7_votes_10 C0 hK hN hD  _ _ h _ _ hP hS _ (lv_sub hl [0, 1] rfl)
end
def rmX7_records : Room := { frames := 0, cells := 0, slots := 0, locals := 0 }
theorem kvX7_records : yX7_records.cls = RX7 ∧ yX7_records.cls ≠ "java/lang/invoke/MethodHandle" ∧ yX7_records.cls ≠ "java/lang/invoke/VarHandle" ∧ (parseMethodDescriptor yX7_records.desc).map (fun d => d.parameters.length) = some 0 := by decide +kernel
section
variable {p : Program} {l : Launch} {e : Env} {s : State} {m : MethodId} {args : Array Value} {below : List Frame} {meth : Method} {c : Code} {G : zG} {xM : Nat → Nat} {rr : Int32} {vM : zSt}
set_option maxRecDepth 20000 in
theorem mX7_records (l : Launch) (G : zG) (xM : Nat → Nat) {uM : zSt} {rr : Int32} {vM : zSt} (h : fX7_records uM = some (rr, vM)) : zC l yX7_records wsX7_records rmX7_records [.ref (xM 0)] G [shM G xM] [uM] [vM] (some (.int rr)) := by
  refine z_ofW (cc := cX7_records) (maxL := 1) (ret := some .int) (by decide) rfl (Nat.le_of_ble_eq_true rfl) ?_
  intro p e s m args below meth c C0 hK hN hD hP ls hl
  obtain ⟨hx, hb, hr, hml, hown, hts, hlk⟩ := id C0
  have hS : va_S (zA [shM G xM] s.heap.size) s.heap s.heap [] := va_S.rf
  replace hl : lv_has ls 1 [(0, .ref (xM 0))] := hl
  have hwX7 : ∀ w ∈ wsX70, w.before args s = true := fun w h => hts w (List.mem_cons_of_mem _ (List.mem_append_right _ h))
  unfold fX7_records at h
  refine lv_aload_n hx hb dX7_records_0 rfl (lv_at hl 0 rfl) ?_
  refine lv_iconst (v := 0) hx hb dX7_records_1 (by decide) ?_
  refine pM_0 hx hb hwX7 hown hK hP hD hS 0 (xM) rfl rfl (hts _ (List.mem_of_getElem? (i := 1) rfl)) dX7_records_2 (fun H locs hP hS => ?_)
  replace hP : zP G [shM G xM] [(sI uM 0 ((0 : Int32)))] H := hP
  refine lv_aload_n hx hb dX7_records_5 rfl (lv_at hl 0 rfl) ?_
  refine rM_1 hx hb hwX7 hown hK hP 0 (xM) rfl rfl (hts _ (List.mem_of_getElem? (i := 2) rfl)) dX7_records_6 ?_
  cases h
  exact z_iret hx hb hr hlk hP hS dX7_records_9
end
def rmX7_noRecord : Room := { frames := 0, cells := 0, slots := 0, locals := 0 }
theorem kvX7_noRecord : yX7_noRecord.cls = RX7 ∧ yX7_noRecord.cls ≠ "java/lang/invoke/MethodHandle" ∧ yX7_noRecord.cls ≠ "java/lang/invoke/VarHandle" ∧ (parseMethodDescriptor yX7_noRecord.desc).map (fun d => d.parameters.length) = some 1 := by decide +kernel
section
variable {p : Program} {l : Launch} {e : Env} {s : State} {m : MethodId} {args : Array Value} {below : List Frame} {meth : Method} {c : Code} {G : zG} {xM : Nat → Nat} {rr : Int32}
set_option maxRecDepth 20000 in
theorem tX7_noRecord_12 (C0 : zCtx p s m args meth c cX7_noRecord RX7 wsX7_noRecord 2 (some .boolean)) (hK : zK G s) (hN : zN s) (hD : zD [shM G xM])  : ∀ (uM : zSt), bX7_noRecord_12  uM = some rr → ∀ (H : Heap) (locs : List Loc), zP G [shM G xM] [uM] H → va_S (zA [shM G xM] s.heap.size) s.heap H locs → ∀ ls : Array Slot, lv_has ls 2 [] → W p l e rmX7_noRecord s m args below meth c H locs 0 0 (MQ below (zQ G [shM G xM] [uM] (zA [shM G xM] s.heap.size) (some (.int rr))) args s 0 0 (zA [shM G xM] s.heap.size)) (F0 m 12 ls []) := by
  obtain ⟨hx, hb, hr, hml, hown, hts, hlk⟩ := id C0
  intro uM h H locs hP hS ls hl
  unfold bX7_noRecord_12 at h
  refine lv_iconst (v := 1) hx hb dX7_noRecord_12 (by decide) ?_
  refine lv_goto (tgt := 17) hx hb dX7_noRecord_13 (by decide) ?_
  cases h
  exact z_zret hx hb hr hlk rfl hP hS dX7_noRecord_17
set_option maxRecDepth 20000 in
theorem mX7_noRecord (l : Launch) (G : zG) (xM : Nat → Nat) {uM : zSt} {l1 : Int32} {rr : Int32} (h : fX7_noRecord uM l1 = some rr) : zC l yX7_noRecord wsX7_noRecord rmX7_noRecord [.ref (xM 0), .int l1] G [shM G xM] [uM] [uM] (some (.int rr)) := by
  refine z_ofW (cc := cX7_noRecord) (maxL := 2) (ret := some .boolean) (by decide) rfl (Nat.le_of_ble_eq_true rfl) ?_
  intro p e s m args below meth c C0 hK hN hD hP ls hl
  obtain ⟨hx, hb, hr, hml, hown, hts, hlk⟩ := id C0
  have hS : va_S (zA [shM G xM] s.heap.size) s.heap s.heap [] := va_S.rf
  replace hl : lv_has ls 2 [(0, .ref (xM 0)), (1, .int l1)] := hl
  have hwX7 : ∀ w ∈ wsX70, w.before args s = true := fun w h => hts w (List.mem_cons_of_mem _ (List.mem_append_right _ h))
  unfold fX7_noRecord at h
  refine lv_iload_n hx hb dX7_noRecord_0 rfl (lv_at hl 1 rfl) ?_
  refine lv_if_lt (tgt := 12) hx hb dX7_noRecord_1 (by decide) (fun hc => ?_) (fun hc => ?_)
  · replace h := zt hc h
    exact tX7_noRecord_12 C0 hK hN hD  _ h _ _ hP hS _ (lv_sub hl [] rfl)
  · replace h := zf hc h
    refine lv_iload_n hx hb dX7_noRecord_4 rfl (lv_at hl 1 rfl) ?_
    refine lv_aload_n hx hb dX7_noRecord_5 rfl (lv_at hl 0 rfl) ?_
    refine rM_1 hx hb hwX7 hown hK hP 0 (xM) rfl rfl (hts _ (List.mem_of_getElem? (i := 1) rfl)) dX7_noRecord_6 ?_
    refine lv_icmp_lt (tgt := 16) hx hb dX7_noRecord_9 (by decide) (fun hc => ?_) (fun hc => ?_)
    · replace h := zt hc h
      refine lv_iconst (v := 0) hx hb dX7_noRecord_16 (by decide) ?_
      cases h
      exact z_zret hx hb hr hlk rfl hP hS dX7_noRecord_17
    · replace h := zf hc h
      exact tX7_noRecord_12 C0 hK hN hD  _ h _ _ hP hS _ (lv_sub hl [] rfl)
end
def rmX7_field : Room := { frames := 1, cells := 0, slots := 0, locals := 21 }
theorem kvX7_field : yX7_field.cls = RX7 ∧ yX7_field.cls ≠ "java/lang/invoke/MethodHandle" ∧ yX7_field.cls ≠ "java/lang/invoke/VarHandle" ∧ (parseMethodDescriptor yX7_field.desc).map (fun d => d.parameters.length) = some 2 := by decide +kernel
section
variable {p : Program} {l : Launch} {e : Env} {s : State} {m : MethodId} {args : Array Value} {below : List Frame} {meth : Method} {c : Code} {G : zG} {xM : Nat → Nat} {rr : Int32} {vM : zSt}
set_option maxRecDepth 20000 in
theorem tX7_field_24 (C0 : zCtx p s m args meth c cX7_field RX7 wsX7_field 3 (some .int)) (hK : zK G s) (hN : zN s) (hD : zD [shM G xM])  : ∀ (uM : zSt) (l1 : Int32) (l2 : Int32) (s1 : Int32), bX7_field_24  uM l1 l2 s1 = some (rr, vM) → ∀ (H : Heap) (locs : List Loc), zP G [shM G xM] [uM] H → va_S (zA [shM G xM] s.heap.size) s.heap H locs → ∀ ls : Array Slot, lv_has ls 3 [(0, .ref (xM 0)), (1, .int l1), (2, .int l2)] → W p l e rmX7_field s m args below meth c H locs 0 0 (MQ below (zQ G [shM G xM] [vM] (zA [shM G xM] s.heap.size) (some (.int rr))) args s 0 0 (zA [shM G xM] s.heap.size)) (F0 m 24 ls [.int s1, .ref (xM 0)]) := by
  obtain ⟨hx, hb, hr, hml, hown, hts, hlk⟩ := id C0
  have hwX7 : ∀ w ∈ wsX70, w.before args s = true := fun w h => hts w (List.mem_cons_of_mem _ (List.mem_append_right _ h))
  intro uM l1 l2 s1 h H locs hP hS ls hl
  unfold bX7_field_24 at h
  refine pM_0 hx hb hwX7 hown hK hP hD hS 0 (xM) rfl rfl (hts _ (List.mem_of_getElem? (i := 1) rfl)) dX7_field_24 (fun H locs hP hS => ?_)
  replace hP : zP G [shM G xM] [(sI uM 0 s1)] H := hP
  refine lv_aload_n hx hb dX7_field_27 rfl (lv_at hl 0 rfl) ?_
  refine rM_0 hx hb hwX7 hown hK hP 0 (xM) rfl rfl (hts _ (List.mem_of_getElem? (i := 1) rfl)) dX7_field_28 ?_
  refine lv_if_le (tgt := 38) hx hb dX7_field_31 (by decide) (fun hc => ?_) (fun hc => ?_)
  · replace h := zt hc h
    refine lv_iload_n hx hb dX7_field_38 rfl (lv_at hl 2 rfl) ?_
    refine lv_if_ne (tgt := 51) hx hb dX7_field_39 (by decide) (fun hc => ?_) (fun hc => ?_)
    · replace h := zf hc h
      refine lv_aload_n hx hb dX7_field_51 rfl (lv_at hl 0 rfl) ?_
      refine rM_3 hx hb hwX7 hown hK hP 0 (xM) rfl rfl (hts _ (List.mem_of_getElem? (i := 3) rfl)) dX7_field_52 ?_
      refine lv_bipush (v := 6) hx hb dX7_field_55 (by decide) ?_
      refine lv_iload_n hx hb dX7_field_57 rfl (lv_at hl 1 rfl) ?_
      refine lv_imul hx hb dX7_field_58 ?_
      refine lv_iload_n hx hb dX7_field_59 rfl (lv_at hl 2 rfl) ?_
      refine lv_iadd hx hb dX7_field_60 ?_
      refine lv_iconst (v := 1) hx hb dX7_field_61 (by decide) ?_
      refine lv_isub hx hb dX7_field_62 ?_
      obtain ⟨hi, h⟩ := zin_e h
      refine aM_3 hx hb hK hP 0 (xM) rfl rfl hi rfl dX7_field_63 ?_
      cases h
      exact z_iret hx hb hr hlk hP hS dX7_field_64
    · replace h := zt hc h
      refine lv_aload_n hx hb dX7_field_42 rfl (lv_at hl 0 rfl) ?_
      refine rM_2 hx hb hwX7 hown hK hP 0 (xM) rfl rfl (hts _ (List.mem_of_getElem? (i := 2) rfl)) dX7_field_43 ?_
      refine lv_iload_n hx hb dX7_field_46 rfl (lv_at hl 1 rfl) ?_
      obtain ⟨hi, h⟩ := zin_e h
      refine aM_2 hx hb hK hP 0 (xM) rfl rfl hi rfl dX7_field_47 ?_
      refine lv_goto (tgt := 64) hx hb dX7_field_48 (by decide) ?_
      cases h
      exact z_iret hx hb hr hlk hP hS dX7_field_64
  · replace h := zf hc h
    refine lv_iconst (v := 0) hx hb dX7_field_34 (by decide) ?_
    refine lv_goto (tgt := 64) hx hb dX7_field_35 (by decide) ?_
    cases h
    exact z_iret hx hb hr hlk hP hS dX7_field_64
set_option maxRecDepth 20000 in
theorem tX7_field_19 (C0 : zCtx p s m args meth c cX7_field RX7 wsX7_field 3 (some .int)) (hK : zK G s) (hN : zN s) (hD : zD [shM G xM])  : ∀ (uM : zSt) (l1 : Int32) (l2 : Int32), bX7_field_19  uM l1 l2 = some (rr, vM) → ∀ (H : Heap) (locs : List Loc), zP G [shM G xM] [uM] H → va_S (zA [shM G xM] s.heap.size) s.heap H locs → ∀ ls : Array Slot, lv_has ls 3 [(0, .ref (xM 0)), (1, .int l1), (2, .int l2)] → W p l e rmX7_field s m args below meth c H locs 0 0 (MQ below (zQ G [shM G xM] [vM] (zA [shM G xM] s.heap.size) (some (.int rr))) args s 0 0 (zA [shM G xM] s.heap.size)) (F0 m 19 ls [.ref (xM 0)]) := by
  obtain ⟨hx, hb, hr, hml, hown, hts, hlk⟩ := id C0
  intro uM l1 l2 h H locs hP hS ls hl
  unfold bX7_field_19 at h
  refine lv_iconst (v := 1) hx hb dX7_field_19 (by decide) ?_
  refine lv_goto (tgt := 24) hx hb dX7_field_20 (by decide) ?_
  exact tX7_field_24 C0 hK hN hD  _ _ _ _ h _ _ hP hS _ (lv_sub hl [0, 1, 2] rfl)
set_option maxRecDepth 20000 in
theorem mX7_field (l : Launch) (G : zG) (xM : Nat → Nat) {uM : zSt} {l1 : Int32} {l2 : Int32} {rr : Int32} {vM : zSt} (h : fX7_field uM l1 l2 = some (rr, vM)) : zC l yX7_field wsX7_field rmX7_field [.ref (xM 0), .int l1, .int l2] G [shM G xM] [uM] [vM] (some (.int rr)) := by
  refine z_ofW (cc := cX7_field) (maxL := 3) (ret := some .int) (by decide) rfl (Nat.le_of_ble_eq_true rfl) ?_
  intro p e s m args below meth c C0 hK hN hD hP ls hl
  obtain ⟨hx, hb, hr, hml, hown, hts, hlk⟩ := id C0
  have hS : va_S (zA [shM G xM] s.heap.size) s.heap s.heap [] := va_S.rf
  replace hl : lv_has ls 3 [(0, .ref (xM 0)), (1, .int l1), (2, .int l2)] := hl
  unfold fX7_field at h
  refine lv_aload_n hx hb dX7_field_0 rfl (lv_at hl 0 rfl) ?_
  refine lv_aload_n hx hb dX7_field_1 rfl (lv_at hl 0 rfl) ?_
  refine lv_iload_n hx hb dX7_field_2 rfl (lv_at hl 1 rfl) ?_
  obtain ⟨r_1, hg, h⟩ := zb1_e h
  refine z_callV (As := [.int l1]) (rest := [.ref (xM 0)]) (i := 0) ⟨hx, hb, hml, hown, hts⟩ (mX7_noRecord l G (xM) hg) (cwV 1 hts gX7_field_X7_noRecord rfl rfl rfl kvX7_noRecord ⟨Nat.le_of_ble_eq_true rfl, Nat.le_of_ble_eq_true rfl⟩) rfl hP hD hK hN hS (Nat.le_refl _) [0] rfl rfl rfl rfl 0 rfl rfl rfl rfl rfl hl.1 rfl (Nat.le_of_ble_eq_true rfl) dX7_field_3 ⟨Nat.zero_le _, Nat.zero_le _⟩ (fun H locs hP hS => ?_)
  replace hP : zP G [shM G xM] [uM] H := hP
  refine lv_if_ne (tgt := 19) hx hb dX7_field_6 (by decide) (fun hc => ?_) (fun hc => ?_)
  · replace h := zf hc h
    exact tX7_field_19 C0 hK hN hD  _ _ _ h _ _ hP hS _ (lv_sub hl [0, 1, 2] rfl)
  · replace h := zt hc h
    refine lv_iload_n hx hb dX7_field_9 rfl (lv_at hl 2 rfl) ?_
    refine lv_if_lt (tgt := 19) hx hb dX7_field_10 (by decide) (fun hc => ?_) (fun hc => ?_)
    · replace h := zt hc h
      exact tX7_field_19 C0 hK hN hD  _ _ _ h _ _ hP hS _ (lv_sub hl [0, 1, 2] rfl)
    · replace h := zf hc h
      refine lv_iload_n hx hb dX7_field_13 rfl (lv_at hl 2 rfl) ?_
      refine lv_bipush (v := 6) hx hb dX7_field_14 (by decide) ?_
      refine lv_icmp_le (tgt := 23) hx hb dX7_field_16 (by decide) (fun hc => ?_) (fun hc => ?_)
      · replace h := zt hc h
        refine lv_iconst (v := 0) hx hb dX7_field_23 (by decide) ?_
        exact tX7_field_24 C0 hK hN hD  _ _ _ _ h _ _ hP hS _ (lv_sub hl [0, 1, 2] rfl)
      · replace h := zf hc h
        exact tX7_field_19 C0 hK hN hD  _ _ _ h _ _ hP hS _ (lv_sub hl [0, 1, 2] rfl)
end
def rmX7_forge : Room := { frames := 1, cells := 0, slots := 0, locals := 21 }
theorem kvX7_forge : yX7_forge.cls = RX7 ∧ yX7_forge.cls ≠ "java/lang/invoke/MethodHandle" ∧ yX7_forge.cls ≠ "java/lang/invoke/VarHandle" ∧ (parseMethodDescriptor yX7_forge.desc).map (fun d => d.parameters.length) = some 3 := by decide +kernel
section
variable {p : Program} {l : Launch} {e : Env} {s : State} {m : MethodId} {args : Array Value} {below : List Frame} {meth : Method} {c : Code} {G : zG} {xM : Nat → Nat} {rr : Int32} {vM : zSt}
set_option maxRecDepth 20000 in
theorem tX7_forge_25 (C0 : zCtx p s m args meth c cX7_forge RX7 wsX7_forge 5 (some .int)) (hK : zK G s) (hN : zN s) (hD : zD [shM G xM])  : ∀ (uM : zSt) (l1 : Int32) (l2 : Int32) (l3 : Int32) (s1 : Int32), bX7_forge_25  uM l1 l2 l3 s1 = some (rr, vM) → ∀ (H : Heap) (locs : List Loc), zP G [shM G xM] [uM] H → va_S (zA [shM G xM] s.heap.size) s.heap H locs → ∀ ls : Array Slot, lv_has ls 5 [(0, .ref (xM 0)), (1, .int l1), (2, .int l2), (3, .int l3)] → W p l e rmX7_forge s m args below meth c H locs 0 0 (MQ below (zQ G [shM G xM] [vM] (zA [shM G xM] s.heap.size) (some (.int rr))) args s 0 0 (zA [shM G xM] s.heap.size)) (F0 m 25 ls [.int s1, .ref (xM 0)]) := by
  obtain ⟨hx, hb, hr, hml, hown, hts, hlk⟩ := id C0
  have hwX7 : ∀ w ∈ wsX70, w.before args s = true := fun w h => hts w (List.mem_cons_of_mem _ (List.mem_append_right _ h))
  intro uM l1 l2 l3 s1 h H locs hP hS ls hl
  unfold bX7_forge_25 at h
  refine pM_0 hx hb hwX7 hown hK hP hD hS 0 (xM) rfl rfl (hts _ (List.mem_of_getElem? (i := 1) rfl)) dX7_forge_25 (fun H locs hP hS => ?_)
  replace hP : zP G [shM G xM] [(sI uM 0 s1)] H := hP
  refine lv_aload_n hx hb dX7_forge_28 rfl (lv_at hl 0 rfl) ?_
  refine rM_0 hx hb hwX7 hown hK hP 0 (xM) rfl rfl (hts _ (List.mem_of_getElem? (i := 1) rfl)) dX7_forge_29 ?_
  refine lv_if_le (tgt := 37) hx hb dX7_forge_32 (by decide) (fun hc => ?_) (fun hc => ?_)
  · replace h := zt hc h
    refine lv_aload_n hx hb dX7_forge_37 rfl (lv_at hl 0 rfl) ?_
    refine rM_3 hx hb hwX7 hown hK hP 0 (xM) rfl rfl (hts _ (List.mem_of_getElem? (i := 2) rfl)) dX7_forge_38 ?_
    refine lv_bipush (v := 6) hx hb dX7_forge_41 (by decide) ?_
    refine lv_iload_n hx hb dX7_forge_43 rfl (lv_at hl 1 rfl) ?_
    refine lv_imul hx hb dX7_forge_44 ?_
    refine lv_iload_n hx hb dX7_forge_45 rfl (lv_at hl 2 rfl) ?_
    refine lv_iadd hx hb dX7_forge_46 ?_
    refine lv_iconst (v := 1) hx hb dX7_forge_47 (by decide) ?_
    refine lv_isub hx hb dX7_forge_48 ?_
    obtain ⟨hi, h⟩ := zin_e h
    refine aM_3 hx hb hK hP 0 (xM) rfl rfl hi rfl dX7_forge_49 ?_
    refine lv_istore (lv' := [(4, .int ((gA ((sI uM 0 s1)) 3 (((((6 : Int32) * l1) + l2) - (1 : Int32))).toNatClampNeg))), (0, .ref (xM 0)), (1, .int l1), (2, .int l2), (3, .int l3)]) hx hb dX7_forge_50 hl (by decide) rfl (fun ls hl => ?_)
    refine lv_aload_n hx hb dX7_forge_52 rfl (lv_at hl 1 rfl) ?_
    refine rM_3 hx hb hwX7 hown hK hP 0 (xM) rfl rfl (hts _ (List.mem_of_getElem? (i := 2) rfl)) dX7_forge_53 ?_
    refine lv_bipush (v := 6) hx hb dX7_forge_56 (by decide) ?_
    refine lv_iload_n hx hb dX7_forge_58 rfl (lv_at hl 2 rfl) ?_
    refine lv_imul hx hb dX7_forge_59 ?_
    refine lv_iload_n hx hb dX7_forge_60 rfl (lv_at hl 3 rfl) ?_
    refine lv_iadd hx hb dX7_forge_61 ?_
    refine lv_iconst (v := 1) hx hb dX7_forge_62 (by decide) ?_
    refine lv_isub hx hb dX7_forge_63 ?_
    refine lv_iload_n hx hb dX7_forge_64 rfl (lv_at hl 4 rfl) ?_
    obtain ⟨hi, h⟩ := zin_e h
    refine tM_3 hx hb hK hP hD hS 0 (xM) rfl rfl hi rfl dX7_forge_65 (fun H locs hP hS => ?_)
    replace hP : zP G [shM G xM] [(sA ((sI uM 0 s1)) 3 (((((6 : Int32) * l1) + l2) - (1 : Int32))).toNatClampNeg l3)] H := hP
    refine lv_iload hx hb dX7_forge_66 (lv_at hl 0 rfl) ?_
    cases h
    exact z_iret hx hb hr hlk hP hS dX7_forge_68
  · replace h := zf hc h
    refine lv_iconst (v := 0) hx hb dX7_forge_35 (by decide) ?_
    cases h
    exact z_iret hx hb hr hlk hP hS dX7_forge_36
set_option maxRecDepth 20000 in
theorem tX7_forge_20 (C0 : zCtx p s m args meth c cX7_forge RX7 wsX7_forge 5 (some .int)) (hK : zK G s) (hN : zN s) (hD : zD [shM G xM])  : ∀ (uM : zSt) (l1 : Int32) (l2 : Int32) (l3 : Int32), bX7_forge_20  uM l1 l2 l3 = some (rr, vM) → ∀ (H : Heap) (locs : List Loc), zP G [shM G xM] [uM] H → va_S (zA [shM G xM] s.heap.size) s.heap H locs → ∀ ls : Array Slot, lv_has ls 5 [(0, .ref (xM 0)), (1, .int l1), (2, .int l2), (3, .int l3)] → W p l e rmX7_forge s m args below meth c H locs 0 0 (MQ below (zQ G [shM G xM] [vM] (zA [shM G xM] s.heap.size) (some (.int rr))) args s 0 0 (zA [shM G xM] s.heap.size)) (F0 m 20 ls [.ref (xM 0)]) := by
  obtain ⟨hx, hb, hr, hml, hown, hts, hlk⟩ := id C0
  intro uM l1 l2 l3 h H locs hP hS ls hl
  unfold bX7_forge_20 at h
  refine lv_iconst (v := 1) hx hb dX7_forge_20 (by decide) ?_
  refine lv_goto (tgt := 25) hx hb dX7_forge_21 (by decide) ?_
  exact tX7_forge_25 C0 hK hN hD  _ _ _ _ _ h _ _ hP hS _ (lv_sub hl [0, 1, 2, 3] rfl)
set_option maxRecDepth 20000 in
theorem mX7_forge (l : Launch) (G : zG) (xM : Nat → Nat) {uM : zSt} {l1 : Int32} {l2 : Int32} {l3 : Int32} {rr : Int32} {vM : zSt} (h : fX7_forge uM l1 l2 l3 = some (rr, vM)) : zC l yX7_forge wsX7_forge rmX7_forge [.ref (xM 0), .int l1, .int l2, .int l3] G [shM G xM] [uM] [vM] (some (.int rr)) := by
  refine z_ofW (cc := cX7_forge) (maxL := 5) (ret := some .int) (by decide) rfl (Nat.le_of_ble_eq_true rfl) ?_
  intro p e s m args below meth c C0 hK hN hD hP ls hl
  obtain ⟨hx, hb, hr, hml, hown, hts, hlk⟩ := id C0
  have hS : va_S (zA [shM G xM] s.heap.size) s.heap s.heap [] := va_S.rf
  replace hl : lv_has ls 5 [(0, .ref (xM 0)), (1, .int l1), (2, .int l2), (3, .int l3)] := hl
  unfold fX7_forge at h
  refine lv_aload_n hx hb dX7_forge_0 rfl (lv_at hl 0 rfl) ?_
  refine lv_aload_n hx hb dX7_forge_1 rfl (lv_at hl 0 rfl) ?_
  refine lv_iload_n hx hb dX7_forge_2 rfl (lv_at hl 1 rfl) ?_
  obtain ⟨r_1, hg, h⟩ := zb1_e h
  refine z_callV (As := [.int l1]) (rest := [.ref (xM 0)]) (i := 0) ⟨hx, hb, hml, hown, hts⟩ (mX7_noRecord l G (xM) hg) (cwV 1 hts gX7_forge_X7_noRecord rfl rfl rfl kvX7_noRecord ⟨Nat.le_of_ble_eq_true rfl, Nat.le_of_ble_eq_true rfl⟩) rfl hP hD hK hN hS (Nat.le_refl _) [0] rfl rfl rfl rfl 0 rfl rfl rfl rfl rfl hl.1 rfl (Nat.le_of_ble_eq_true rfl) dX7_forge_3 ⟨Nat.zero_le _, Nat.zero_le _⟩ (fun H locs hP hS => ?_)
  replace hP : zP G [shM G xM] [uM] H := hP
  refine lv_if_ne (tgt := 20) hx hb dX7_forge_6 (by decide) (fun hc => ?_) (fun hc => ?_)
  · replace h := zf hc h
    exact tX7_forge_20 C0 hK hN hD  _ _ _ _ h _ _ hP hS _ (lv_sub hl [0, 1, 2, 3] rfl)
  · replace h := zt hc h
    refine lv_iload_n hx hb dX7_forge_9 rfl (lv_at hl 2 rfl) ?_
    refine lv_iconst (v := 1) hx hb dX7_forge_10 (by decide) ?_
    refine lv_icmp_lt (tgt := 20) hx hb dX7_forge_11 (by decide) (fun hc => ?_) (fun hc => ?_)
    · replace h := zt hc h
      exact tX7_forge_20 C0 hK hN hD  _ _ _ _ h _ _ hP hS _ (lv_sub hl [0, 1, 2, 3] rfl)
    · replace h := zf hc h
      refine lv_iload_n hx hb dX7_forge_14 rfl (lv_at hl 2 rfl) ?_
      refine lv_bipush (v := 6) hx hb dX7_forge_15 (by decide) ?_
      refine lv_icmp_le (tgt := 24) hx hb dX7_forge_17 (by decide) (fun hc => ?_) (fun hc => ?_)
      · replace h := zt hc h
        refine lv_iconst (v := 0) hx hb dX7_forge_24 (by decide) ?_
        exact tX7_forge_25 C0 hK hN hD  _ _ _ _ _ h _ _ hP hS _ (lv_sub hl [0, 1, 2, 3] rfl)
      · replace h := zf hc h
        exact tX7_forge_20 C0 hK hN hD  _ _ _ _ h _ _ hP hS _ (lv_sub hl [0, 1, 2, 3] rfl)
end
def rmX7_bare : Room := { frames := 0, cells := 0, slots := 0, locals := 0 }
theorem kvX7_bare : yX7_bare.cls = RX7 ∧ yX7_bare.cls ≠ "java/lang/invoke/MethodHandle" ∧ yX7_bare.cls ≠ "java/lang/invoke/VarHandle" ∧ (parseMethodDescriptor yX7_bare.desc).map (fun d => d.parameters.length) = some 2 := by decide +kernel
section
variable {p : Program} {l : Launch} {e : Env} {s : State} {m : MethodId} {args : Array Value} {below : List Frame} {meth : Method} {c : Code} {G : zG} {xM : Nat → Nat} {rr : Int32}
set_option maxRecDepth 20000 in
theorem tX7_bare_36 (C0 : zCtx p s m args meth c cX7_bare RX7 wsX7_bare 5 (some .boolean)) (hK : zK G s) (hN : zN s) (hD : zD [shM G xM]) {k5 : zSt → Int32 → Int32 → Int32 → Option (Int32)} (K5 : ∀ (uM : zSt) (l1 : Int32) (l3 : Int32) (l4 : Int32), k5 uM l1 l3 l4 = some rr → ∀ (H : Heap) (locs : List Loc), zP G [shM G xM] [uM] H → va_S (zA [shM G xM] s.heap.size) s.heap H locs → ∀ ls : Array Slot, lv_has ls 5 [(0, .ref (xM 0)), (1, .int l1), (3, .int l3), (4, .int l4)] → W p l e rmX7_bare s m args below meth c H locs 0 0 (MQ below (zQ G [shM G xM] [uM] (zA [shM G xM] s.heap.size) (some (.int rr))) args s 0 0 (zA [shM G xM] s.heap.size)) (F0 m 5 ls [])) : ∀ (uM : zSt) (l1 : Int32) (l4 : Int32) (s0 : Int32), bX7_bare_36 k5 uM l1 l4 s0 = some rr → ∀ (H : Heap) (locs : List Loc), zP G [shM G xM] [uM] H → va_S (zA [shM G xM] s.heap.size) s.heap H locs → ∀ ls : Array Slot, lv_has ls 5 [(0, .ref (xM 0)), (1, .int l1), (4, .int l4)] → W p l e rmX7_bare s m args below meth c H locs 0 0 (MQ below (zQ G [shM G xM] [uM] (zA [shM G xM] s.heap.size) (some (.int rr))) args s 0 0 (zA [shM G xM] s.heap.size)) (F0 m 36 ls [.int s0]) := by
  obtain ⟨hx, hb, hr, hml, hown, hts, hlk⟩ := id C0
  intro uM l1 l4 s0 h H locs hP hS ls hl
  unfold bX7_bare_36 at h
  refine lv_istore_n (lv' := [(3, .int s0), (0, .ref (xM 0)), (1, .int l1), (4, .int l4)]) hx hb dX7_bare_36 rfl hl (by decide) rfl (fun ls hl => ?_)
  refine lv_iinc (v := (l4 + (1 : Int32))) (lv' := [(4, .int ((l4 + (1 : Int32)))), (3, .int s0), (0, .ref (xM 0)), (1, .int l1)]) hx hb dX7_bare_37 hl (k := 3) rfl rfl (by decide) rfl (fun ls hl => ?_)
  refine lv_goto (tgt := 5) hx hb dX7_bare_40 (by decide) ?_
  exact K5 _ _ _ _ h _ _ hP hS _ (lv_sub hl [2, 3, 1, 0] rfl)
set_option maxRecDepth 20000 in
theorem tX7_bare_35 (C0 : zCtx p s m args meth c cX7_bare RX7 wsX7_bare 5 (some .boolean)) (hK : zK G s) (hN : zN s) (hD : zD [shM G xM]) {k5 : zSt → Int32 → Int32 → Int32 → Option (Int32)} (K5 : ∀ (uM : zSt) (l1 : Int32) (l3 : Int32) (l4 : Int32), k5 uM l1 l3 l4 = some rr → ∀ (H : Heap) (locs : List Loc), zP G [shM G xM] [uM] H → va_S (zA [shM G xM] s.heap.size) s.heap H locs → ∀ ls : Array Slot, lv_has ls 5 [(0, .ref (xM 0)), (1, .int l1), (3, .int l3), (4, .int l4)] → W p l e rmX7_bare s m args below meth c H locs 0 0 (MQ below (zQ G [shM G xM] [uM] (zA [shM G xM] s.heap.size) (some (.int rr))) args s 0 0 (zA [shM G xM] s.heap.size)) (F0 m 5 ls [])) : ∀ (uM : zSt) (l1 : Int32) (l4 : Int32), bX7_bare_35 k5 uM l1 l4 = some rr → ∀ (H : Heap) (locs : List Loc), zP G [shM G xM] [uM] H → va_S (zA [shM G xM] s.heap.size) s.heap H locs → ∀ ls : Array Slot, lv_has ls 5 [(0, .ref (xM 0)), (1, .int l1), (4, .int l4)] → W p l e rmX7_bare s m args below meth c H locs 0 0 (MQ below (zQ G [shM G xM] [uM] (zA [shM G xM] s.heap.size) (some (.int rr))) args s 0 0 (zA [shM G xM] s.heap.size)) (F0 m 35 ls []) := by
  obtain ⟨hx, hb, hr, hml, hown, hts, hlk⟩ := id C0
  intro uM l1 l4 h H locs hP hS ls hl
  unfold bX7_bare_35 at h
  refine lv_iconst (v := 0) hx hb dX7_bare_35 (by decide) ?_
  exact tX7_bare_36 C0 hK hN hD K5 _ _ _ _ h _ _ hP hS _ (lv_sub hl [0, 1, 2] rfl)
set_option maxRecDepth 20000 in
theorem tlX7_bare_5 (C0 : zCtx p s m args meth c cX7_bare RX7 wsX7_bare 5 (some .boolean)) (hK : zK G s) (hN : zN s) (hD : zD [shM G xM])  : ∀ (n : Nat), ∀ (uM : zSt) (l1 : Int32) (l3 : Int32) (l4 : Int32), lX7_bare_5  n uM l1 l3 l4 = some rr → ∀ (H : Heap) (locs : List Loc), zP G [shM G xM] [uM] H → va_S (zA [shM G xM] s.heap.size) s.heap H locs → ∀ ls : Array Slot, lv_has ls 5 [(0, .ref (xM 0)), (1, .int l1), (3, .int l3), (4, .int l4)] → W p l e rmX7_bare s m args below meth c H locs 0 0 (MQ below (zQ G [shM G xM] [uM] (zA [shM G xM] s.heap.size) (some (.int rr))) args s 0 0 (zA [shM G xM] s.heap.size)) (F0 m 5 ls []) := by
  obtain ⟨hx, hb, hr, hml, hown, hts, hlk⟩ := id C0
  have hwX7 : ∀ w ∈ wsX70, w.before args s = true := fun w h => hts w (List.mem_cons_of_mem _ (List.mem_append_right _ h))
  intro n
  induction n with
  | zero => intro uM l1 l3 l4 h; exact absurd h (fun q => nomatch q)
  | succ n K5 =>
    intro uM l1 l3 l4 h H locs hP hS ls hl
    replace h : bX7_bare_5  (lX7_bare_5  n) uM l1 l3 l4 = some rr := h
    unfold bX7_bare_5 at h
    refine lv_iload hx hb dX7_bare_5 (lv_at hl 3 rfl) ?_
    refine lv_bipush (v := 6) hx hb dX7_bare_7 (by decide) ?_
    refine lv_icmp_ge (tgt := 43) hx hb dX7_bare_9 (by decide) (fun hc => ?_) (fun hc => ?_)
    · replace h := zt hc h
      refine lv_iload_n hx hb dX7_bare_43 rfl (lv_at hl 2 rfl) ?_
      obtain ⟨hb9, h⟩ := zbl_e h
      cases h
      exact z_zret hx hb hr hlk hb9 hP hS dX7_bare_44
    · replace h := zf hc h
      refine lv_iload_n hx hb dX7_bare_12 rfl (lv_at hl 2 rfl) ?_
      refine lv_if_eq (tgt := 35) hx hb dX7_bare_13 (by decide) (fun hc => ?_) (fun hc => ?_)
      · replace h := zt hc h
        exact tX7_bare_35 C0 hK hN hD K5 _ _ _ h _ _ hP hS _ (lv_sub hl [0, 1, 3] rfl)
      · replace h := zf hc h
        refine lv_aload_n hx hb dX7_bare_16 rfl (lv_at hl 0 rfl) ?_
        refine rM_3 hx hb hwX7 hown hK hP 0 (xM) rfl rfl (hts _ (List.mem_of_getElem? (i := 1) rfl)) dX7_bare_17 ?_
        refine lv_bipush (v := 6) hx hb dX7_bare_20 (by decide) ?_
        refine lv_iload_n hx hb dX7_bare_22 rfl (lv_at hl 1 rfl) ?_
        refine lv_imul hx hb dX7_bare_23 ?_
        refine lv_iload hx hb dX7_bare_24 (lv_at hl 3 rfl) ?_
        refine lv_iadd hx hb dX7_bare_26 ?_
        obtain ⟨hi, h⟩ := zin_e h
        refine aM_3 hx hb hK hP 0 (xM) rfl rfl hi rfl dX7_bare_27 ?_
        refine lv_if_ne (tgt := 35) hx hb dX7_bare_28 (by decide) (fun hc => ?_) (fun hc => ?_)
        · replace h := zf hc h
          exact tX7_bare_35 C0 hK hN hD K5 _ _ _ h _ _ hP hS _ (lv_sub hl [0, 1, 3] rfl)
        · replace h := zt hc h
          refine lv_iconst (v := 1) hx hb dX7_bare_31 (by decide) ?_
          refine lv_goto (tgt := 36) hx hb dX7_bare_32 (by decide) ?_
          exact tX7_bare_36 C0 hK hN hD K5 _ _ _ _ h _ _ hP hS _ (lv_sub hl [0, 1, 3] rfl)
set_option maxRecDepth 20000 in
theorem mX7_bare (l : Launch) (G : zG) (xM : Nat → Nat) {uM : zSt} {l1 : Int32} {l2 : Int32} {rr : Int32} (h : fX7_bare uM l1 l2 = some rr) : zC l yX7_bare wsX7_bare rmX7_bare [.ref (xM 0), .int l1, .int l2] G [shM G xM] [uM] [uM] (some (.int rr)) := by
  refine z_ofW (cc := cX7_bare) (maxL := 5) (ret := some .boolean) (by decide) rfl (Nat.le_of_ble_eq_true rfl) ?_
  intro p e s m args below meth c C0 hK hN hD hP ls hl
  obtain ⟨hx, hb, hr, hml, hown, hts, hlk⟩ := id C0
  have hS : va_S (zA [shM G xM] s.heap.size) s.heap s.heap [] := va_S.rf
  replace hl : lv_has ls 5 [(0, .ref (xM 0)), (1, .int l1), (2, .int l2)] := hl
  unfold fX7_bare at h
  refine lv_iconst (v := 1) hx hb dX7_bare_0 (by decide) ?_
  refine lv_istore_n (lv' := [(3, .int ((1 : Int32))), (0, .ref (xM 0)), (1, .int l1), (2, .int l2)]) hx hb dX7_bare_1 rfl hl (by decide) rfl (fun ls hl => ?_)
  refine lv_iload_n hx hb dX7_bare_2 rfl (lv_at hl 3 rfl) ?_
  refine lv_istore (lv' := [(4, .int l2), (3, .int ((1 : Int32))), (0, .ref (xM 0)), (1, .int l1), (2, .int l2)]) hx hb dX7_bare_3 hl (by decide) rfl (fun ls hl => ?_)
  exact tlX7_bare_5 C0 hK hN hD  1000 _ _ _ _ h _ _ hP hS _ (lv_sub hl [2, 3, 1, 0] rfl)
end
def rmX7_rightBegun : Room := { frames := 2, cells := 0, slots := 0, locals := 46 }
theorem kvX7_rightBegun : yX7_rightBegun.cls = RX7 ∧ yX7_rightBegun.cls ≠ "java/lang/invoke/MethodHandle" ∧ yX7_rightBegun.cls ≠ "java/lang/invoke/VarHandle" ∧ (parseMethodDescriptor yX7_rightBegun.desc).map (fun d => d.parameters.length) = some 1 := by decide +kernel
section
variable {p : Program} {l : Launch} {e : Env} {s : State} {m : MethodId} {args : Array Value} {below : List Frame} {meth : Method} {c : Code} {G : zG} {xM : Nat → Nat} {rr : Int32} {vM : zSt}
set_option maxRecDepth 20000 in
theorem tX7_rightBegun_55 (C0 : zCtx p s m args meth c cX7_rightBegun RX7 wsX7_rightBegun 4 (some .boolean)) (hK : zK G s) (hN : zN s) (hD : zD [shM G xM]) {k24 : zSt → Int32 → Int32 → Int32 → Option (Int32 × zSt)} (K24 : ∀ (uM : zSt) (l1 : Int32) (l2 : Int32) (l3 : Int32), k24 uM l1 l2 l3 = some (rr, vM) → ∀ (H : Heap) (locs : List Loc), zP G [shM G xM] [uM] H → va_S (zA [shM G xM] s.heap.size) s.heap H locs → ∀ ls : Array Slot, lv_has ls 4 [(0, .ref (xM 0)), (1, .int l1), (2, .int l2), (3, .int l3)] → W p l e rmX7_rightBegun s m args below meth c H locs 0 0 (MQ below (zQ G [shM G xM] [vM] (zA [shM G xM] s.heap.size) (some (.int rr))) args s 0 0 (zA [shM G xM] s.heap.size)) (F0 m 24 ls [])) : ∀ (uM : zSt) (l1 : Int32) (l3 : Int32) (s0 : Int32), bX7_rightBegun_55 k24 uM l1 l3 s0 = some (rr, vM) → ∀ (H : Heap) (locs : List Loc), zP G [shM G xM] [uM] H → va_S (zA [shM G xM] s.heap.size) s.heap H locs → ∀ ls : Array Slot, lv_has ls 4 [(0, .ref (xM 0)), (1, .int l1), (3, .int l3)] → W p l e rmX7_rightBegun s m args below meth c H locs 0 0 (MQ below (zQ G [shM G xM] [vM] (zA [shM G xM] s.heap.size) (some (.int rr))) args s 0 0 (zA [shM G xM] s.heap.size)) (F0 m 55 ls [.int s0]) := by
  obtain ⟨hx, hb, hr, hml, hown, hts, hlk⟩ := id C0
  have hwX7 : ∀ w ∈ wsX70, w.before args s = true := fun w h => hts w (List.mem_cons_of_mem _ (List.mem_append_right _ h))
  intro uM l1 l3 s0 h H locs hP hS ls hl
  unfold bX7_rightBegun_55 at h
  refine lv_istore_n (lv' := [(2, .int s0), (0, .ref (xM 0)), (1, .int l1), (3, .int l3)]) hx hb dX7_rightBegun_55 rfl hl (by decide) rfl (fun ls hl => ?_)
  refine lv_aload_n hx hb dX7_rightBegun_56 rfl (lv_at hl 1 rfl) ?_
  refine rM_24 hx hb hwX7 hown hK hP 0 (xM) rfl rfl (hts _ (List.mem_of_getElem? (i := 3) rfl)) dX7_rightBegun_57 ?_
  refine lv_iload_n hx hb dX7_rightBegun_60 rfl (lv_at hl 3 rfl) ?_
  refine lv_aload_n hx hb dX7_rightBegun_61 rfl (lv_at hl 1 rfl) ?_
  refine rM_3 hx hb hwX7 hown hK hP 0 (xM) rfl rfl (hts _ (List.mem_of_getElem? (i := 2) rfl)) dX7_rightBegun_62 ?_
  refine lv_bipush (v := 6) hx hb dX7_rightBegun_65 (by decide) ?_
  refine lv_iload_n hx hb dX7_rightBegun_67 rfl (lv_at hl 2 rfl) ?_
  refine lv_imul hx hb dX7_rightBegun_68 ?_
  refine lv_iload_n hx hb dX7_rightBegun_69 rfl (lv_at hl 3 rfl) ?_
  refine lv_iadd hx hb dX7_rightBegun_70 ?_
  obtain ⟨hi, h⟩ := zin_e h
  refine aM_3 hx hb hK hP 0 (xM) rfl rfl hi rfl dX7_rightBegun_71 ?_
  obtain ⟨hi, h⟩ := zin_e h
  refine tM_24 hx hb hK hP hD hS 0 (xM) rfl rfl hi rfl dX7_rightBegun_72 (fun H locs hP hS => ?_)
  replace hP : zP G [shM G xM] [(sA uM 24 l3.toNatClampNeg ((gA uM 3 ((((6 : Int32) * l1) + l3)).toNatClampNeg)))] H := hP
  refine lv_iinc (v := (l3 + (1 : Int32))) (lv' := [(3, .int ((l3 + (1 : Int32)))), (2, .int s0), (0, .ref (xM 0)), (1, .int l1)]) hx hb dX7_rightBegun_73 hl (k := 3) rfl rfl (by decide) rfl (fun ls hl => ?_)
  refine lv_goto (tgt := 24) hx hb dX7_rightBegun_76 (by decide) ?_
  exact K24 _ _ _ _ h _ _ hP hS _ (lv_sub hl [2, 3, 1, 0] rfl)
set_option maxRecDepth 20000 in
theorem tX7_rightBegun_54 (C0 : zCtx p s m args meth c cX7_rightBegun RX7 wsX7_rightBegun 4 (some .boolean)) (hK : zK G s) (hN : zN s) (hD : zD [shM G xM]) {k24 : zSt → Int32 → Int32 → Int32 → Option (Int32 × zSt)} (K24 : ∀ (uM : zSt) (l1 : Int32) (l2 : Int32) (l3 : Int32), k24 uM l1 l2 l3 = some (rr, vM) → ∀ (H : Heap) (locs : List Loc), zP G [shM G xM] [uM] H → va_S (zA [shM G xM] s.heap.size) s.heap H locs → ∀ ls : Array Slot, lv_has ls 4 [(0, .ref (xM 0)), (1, .int l1), (2, .int l2), (3, .int l3)] → W p l e rmX7_rightBegun s m args below meth c H locs 0 0 (MQ below (zQ G [shM G xM] [vM] (zA [shM G xM] s.heap.size) (some (.int rr))) args s 0 0 (zA [shM G xM] s.heap.size)) (F0 m 24 ls [])) : ∀ (uM : zSt) (l1 : Int32) (l3 : Int32), bX7_rightBegun_54 k24 uM l1 l3 = some (rr, vM) → ∀ (H : Heap) (locs : List Loc), zP G [shM G xM] [uM] H → va_S (zA [shM G xM] s.heap.size) s.heap H locs → ∀ ls : Array Slot, lv_has ls 4 [(0, .ref (xM 0)), (1, .int l1), (3, .int l3)] → W p l e rmX7_rightBegun s m args below meth c H locs 0 0 (MQ below (zQ G [shM G xM] [vM] (zA [shM G xM] s.heap.size) (some (.int rr))) args s 0 0 (zA [shM G xM] s.heap.size)) (F0 m 54 ls []) := by
  obtain ⟨hx, hb, hr, hml, hown, hts, hlk⟩ := id C0
  intro uM l1 l3 h H locs hP hS ls hl
  unfold bX7_rightBegun_54 at h
  refine lv_iconst (v := 0) hx hb dX7_rightBegun_54 (by decide) ?_
  exact tX7_rightBegun_55 C0 hK hN hD K24 _ _ _ _ h _ _ hP hS _ (lv_sub hl [0, 1, 2] rfl)
set_option maxRecDepth 20000 in
theorem tlX7_rightBegun_24 (C0 : zCtx p s m args meth c cX7_rightBegun RX7 wsX7_rightBegun 4 (some .boolean)) (hK : zK G s) (hN : zN s) (hD : zD [shM G xM])  : ∀ (n : Nat), ∀ (uM : zSt) (l1 : Int32) (l2 : Int32) (l3 : Int32), lX7_rightBegun_24  n uM l1 l2 l3 = some (rr, vM) → ∀ (H : Heap) (locs : List Loc), zP G [shM G xM] [uM] H → va_S (zA [shM G xM] s.heap.size) s.heap H locs → ∀ ls : Array Slot, lv_has ls 4 [(0, .ref (xM 0)), (1, .int l1), (2, .int l2), (3, .int l3)] → W p l e rmX7_rightBegun s m args below meth c H locs 0 0 (MQ below (zQ G [shM G xM] [vM] (zA [shM G xM] s.heap.size) (some (.int rr))) args s 0 0 (zA [shM G xM] s.heap.size)) (F0 m 24 ls []) := by
  obtain ⟨hx, hb, hr, hml, hown, hts, hlk⟩ := id C0
  have hwX7 : ∀ w ∈ wsX70, w.before args s = true := fun w h => hts w (List.mem_cons_of_mem _ (List.mem_append_right _ h))
  intro n
  induction n with
  | zero => intro uM l1 l2 l3 h; exact absurd h (fun q => nomatch q)
  | succ n K24 =>
    intro uM l1 l2 l3 h H locs hP hS ls hl
    replace h : bX7_rightBegun_24  (lX7_rightBegun_24  n) uM l1 l2 l3 = some (rr, vM) := h
    unfold bX7_rightBegun_24 at h
    refine lv_iload_n hx hb dX7_rightBegun_24 rfl (lv_at hl 3 rfl) ?_
    refine lv_iconst (v := 3) hx hb dX7_rightBegun_25 (by decide) ?_
    refine lv_icmp_ge (tgt := 79) hx hb dX7_rightBegun_26 (by decide) (fun hc => ?_) (fun hc => ?_)
    · replace h := zt hc h
      refine lv_aload_n hx hb dX7_rightBegun_79 rfl (lv_at hl 0 rfl) ?_
      refine lv_iconst (v := 1) hx hb dX7_rightBegun_80 (by decide) ?_
      refine pM_26 hx hb hwX7 hown hK hP hD hS 0 (xM) rfl rfl (hts _ (List.mem_of_getElem? (i := 1) rfl)) dX7_rightBegun_81 (fun H locs hP hS => ?_)
      replace hP : zP G [shM G xM] [(sI uM 26 ((1 : Int32)))] H := hP
      refine lv_iload_n hx hb dX7_rightBegun_84 rfl (lv_at hl 2 rfl) ?_
      obtain ⟨hb9, h⟩ := zbl_e h
      cases h
      exact z_zret hx hb hr hlk hb9 hP hS dX7_rightBegun_85
    · replace h := zf hc h
      refine lv_iload_n hx hb dX7_rightBegun_29 rfl (lv_at hl 2 rfl) ?_
      refine lv_if_eq (tgt := 54) hx hb dX7_rightBegun_30 (by decide) (fun hc => ?_) (fun hc => ?_)
      · replace h := zt hc h
        exact tX7_rightBegun_54 C0 hK hN hD K24 _ _ _ h _ _ hP hS _ (lv_sub hl [0, 1, 3] rfl)
      · replace h := zf hc h
        refine lv_aload_n hx hb dX7_rightBegun_33 rfl (lv_at hl 0 rfl) ?_
        refine rM_3 hx hb hwX7 hown hK hP 0 (xM) rfl rfl (hts _ (List.mem_of_getElem? (i := 2) rfl)) dX7_rightBegun_34 ?_
        refine lv_bipush (v := 6) hx hb dX7_rightBegun_37 (by decide) ?_
        refine lv_iload_n hx hb dX7_rightBegun_39 rfl (lv_at hl 1 rfl) ?_
        refine lv_imul hx hb dX7_rightBegun_40 ?_
        refine lv_iload_n hx hb dX7_rightBegun_41 rfl (lv_at hl 3 rfl) ?_
        refine lv_iadd hx hb dX7_rightBegun_42 ?_
        obtain ⟨hi, h⟩ := zin_e h
        refine aM_3 hx hb hK hP 0 (xM) rfl rfl hi rfl dX7_rightBegun_43 ?_
        obtain ⟨r_1, hg, h⟩ := zb1_e h
        refine z_callS (As := [.int ((gA uM 3 ((((6 : Int32) * l1) + l3)).toNatClampNeg))]) (rest := []) ⟨hx, hb, hml, hown, hts⟩ (mX7_isElement l G  hg) (va_cwS 1 hts gX7_rightBegun_X7_isElement rfl rfl rfl ksX7_isElement ⟨Nat.le_of_ble_eq_true rfl, Nat.le_of_ble_eq_true rfl⟩) hP hD hK hN hS (Nat.le_refl _) [] rfl rfl rfl rfl rfl hl.1 rfl (Nat.le_of_ble_eq_true rfl) dX7_rightBegun_44 ⟨Nat.zero_le _, Nat.zero_le _⟩ (fun H locs hP hS => ?_)
        replace hP : zP G [shM G xM] [uM] H := hP
        refine lv_if_eq (tgt := 54) hx hb dX7_rightBegun_47 (by decide) (fun hc => ?_) (fun hc => ?_)
        · replace h := zt hc h
          exact tX7_rightBegun_54 C0 hK hN hD K24 _ _ _ h _ _ hP hS _ (lv_sub hl [0, 1, 3] rfl)
        · replace h := zf hc h
          refine lv_iconst (v := 1) hx hb dX7_rightBegun_50 (by decide) ?_
          refine lv_goto (tgt := 55) hx hb dX7_rightBegun_51 (by decide) ?_
          exact tX7_rightBegun_55 C0 hK hN hD K24 _ _ _ _ h _ _ hP hS _ (lv_sub hl [0, 1, 3] rfl)
set_option maxRecDepth 20000 in
theorem tX7_rightBegun_21 (C0 : zCtx p s m args meth c cX7_rightBegun RX7 wsX7_rightBegun 4 (some .boolean)) (hK : zK G s) (hN : zN s) (hD : zD [shM G xM])  : ∀ (uM : zSt) (l1 : Int32) (s0 : Int32), bX7_rightBegun_21  uM l1 s0 = some (rr, vM) → ∀ (H : Heap) (locs : List Loc), zP G [shM G xM] [uM] H → va_S (zA [shM G xM] s.heap.size) s.heap H locs → ∀ ls : Array Slot, lv_has ls 4 [(0, .ref (xM 0)), (1, .int l1)] → W p l e rmX7_rightBegun s m args below meth c H locs 0 0 (MQ below (zQ G [shM G xM] [vM] (zA [shM G xM] s.heap.size) (some (.int rr))) args s 0 0 (zA [shM G xM] s.heap.size)) (F0 m 21 ls [.int s0]) := by
  obtain ⟨hx, hb, hr, hml, hown, hts, hlk⟩ := id C0
  intro uM l1 s0 h H locs hP hS ls hl
  unfold bX7_rightBegun_21 at h
  refine lv_istore_n (lv' := [(2, .int s0), (0, .ref (xM 0)), (1, .int l1)]) hx hb dX7_rightBegun_21 rfl hl (by decide) rfl (fun ls hl => ?_)
  refine lv_iconst (v := 0) hx hb dX7_rightBegun_22 (by decide) ?_
  refine lv_istore_n (lv' := [(3, .int ((0 : Int32))), (2, .int s0), (0, .ref (xM 0)), (1, .int l1)]) hx hb dX7_rightBegun_23 rfl hl (by decide) rfl (fun ls hl => ?_)
  exact tlX7_rightBegun_24 C0 hK hN hD  1000 _ _ _ _ h _ _ hP hS _ (lv_sub hl [2, 3, 1, 0] rfl)
set_option maxRecDepth 20000 in
theorem tX7_rightBegun_20 (C0 : zCtx p s m args meth c cX7_rightBegun RX7 wsX7_rightBegun 4 (some .boolean)) (hK : zK G s) (hN : zN s) (hD : zD [shM G xM])  : ∀ (uM : zSt) (l1 : Int32), bX7_rightBegun_20  uM l1 = some (rr, vM) → ∀ (H : Heap) (locs : List Loc), zP G [shM G xM] [uM] H → va_S (zA [shM G xM] s.heap.size) s.heap H locs → ∀ ls : Array Slot, lv_has ls 4 [(0, .ref (xM 0)), (1, .int l1)] → W p l e rmX7_rightBegun s m args below meth c H locs 0 0 (MQ below (zQ G [shM G xM] [vM] (zA [shM G xM] s.heap.size) (some (.int rr))) args s 0 0 (zA [shM G xM] s.heap.size)) (F0 m 20 ls []) := by
  obtain ⟨hx, hb, hr, hml, hown, hts, hlk⟩ := id C0
  intro uM l1 h H locs hP hS ls hl
  unfold bX7_rightBegun_20 at h
  refine lv_iconst (v := 0) hx hb dX7_rightBegun_20 (by decide) ?_
  exact tX7_rightBegun_21 C0 hK hN hD  _ _ _ h _ _ hP hS _ (lv_sub hl [0, 1] rfl)
set_option maxRecDepth 20000 in
theorem mX7_rightBegun (l : Launch) (G : zG) (xM : Nat → Nat) {uM : zSt} {l1 : Int32} {rr : Int32} {vM : zSt} (h : fX7_rightBegun uM l1 = some (rr, vM)) : zC l yX7_rightBegun wsX7_rightBegun rmX7_rightBegun [.ref (xM 0), .int l1] G [shM G xM] [uM] [vM] (some (.int rr)) := by
  refine z_ofW (cc := cX7_rightBegun) (maxL := 4) (ret := some .boolean) (by decide) rfl (Nat.le_of_ble_eq_true rfl) ?_
  intro p e s m args below meth c C0 hK hN hD hP ls hl
  obtain ⟨hx, hb, hr, hml, hown, hts, hlk⟩ := id C0
  have hS : va_S (zA [shM G xM] s.heap.size) s.heap s.heap [] := va_S.rf
  replace hl : lv_has ls 4 [(0, .ref (xM 0)), (1, .int l1)] := hl
  have hwX7 : ∀ w ∈ wsX70, w.before args s = true := fun w h => hts w (List.mem_cons_of_mem _ (List.mem_append_right _ h))
  unfold fX7_rightBegun at h
  refine lv_aload_n hx hb dX7_rightBegun_0 rfl (lv_at hl 0 rfl) ?_
  refine rM_26 hx hb hwX7 hown hK hP 0 (xM) rfl rfl (hts _ (List.mem_of_getElem? (i := 1) rfl)) dX7_rightBegun_1 ?_
  refine lv_if_ne (tgt := 20) hx hb dX7_rightBegun_4 (by decide) (fun hc => ?_) (fun hc => ?_)
  · replace h := zf hc h
    exact tX7_rightBegun_20 C0 hK hN hD  _ _ h _ _ hP hS _ (lv_sub hl [0, 1] rfl)
  · replace h := zt hc h
    refine lv_aload_n hx hb dX7_rightBegun_7 rfl (lv_at hl 0 rfl) ?_
    refine lv_iload_n hx hb dX7_rightBegun_8 rfl (lv_at hl 1 rfl) ?_
    refine lv_iconst (v := 3) hx hb dX7_rightBegun_9 (by decide) ?_
    obtain ⟨r_2, hg, h⟩ := zb1_e h
    refine z_callV (As := [.int l1, .int ((3 : Int32))]) (rest := []) (i := 0) ⟨hx, hb, hml, hown, hts⟩ (mX7_bare l G (xM) hg) (cwV 2 hts gX7_rightBegun_X7_bare rfl rfl rfl kvX7_bare ⟨Nat.le_of_ble_eq_true rfl, Nat.le_of_ble_eq_true rfl⟩) rfl hP hD hK hN hS (Nat.le_refl _) [0] rfl rfl rfl rfl 0 rfl rfl rfl rfl rfl hl.1 rfl (Nat.le_of_ble_eq_true rfl) dX7_rightBegun_10 ⟨Nat.zero_le _, Nat.zero_le _⟩ (fun H locs hP hS => ?_)
    replace hP : zP G [shM G xM] [uM] H := hP
    refine lv_if_eq (tgt := 20) hx hb dX7_rightBegun_13 (by decide) (fun hc => ?_) (fun hc => ?_)
    · replace h := zt hc h
      exact tX7_rightBegun_20 C0 hK hN hD  _ _ h _ _ hP hS _ (lv_sub hl [0, 1] rfl)
    · replace h := zf hc h
      refine lv_iconst (v := 1) hx hb dX7_rightBegun_16 (by decide) ?_
      refine lv_goto (tgt := 21) hx hb dX7_rightBegun_17 (by decide) ?_
      exact tX7_rightBegun_21 C0 hK hN hD  _ _ _ h _ _ hP hS _ (lv_sub hl [0, 1] rfl)
end
def rmX7_rightVoter : Room := { frames := 1, cells := 0, slots := 0, locals := 24 }
theorem kvX7_rightVoter : yX7_rightVoter.cls = RX7 ∧ yX7_rightVoter.cls ≠ "java/lang/invoke/MethodHandle" ∧ yX7_rightVoter.cls ≠ "java/lang/invoke/VarHandle" ∧ (parseMethodDescriptor yX7_rightVoter.desc).map (fun d => d.parameters.length) = some 1 := by decide +kernel
section
variable {p : Program} {l : Launch} {e : Env} {s : State} {m : MethodId} {args : Array Value} {below : List Frame} {meth : Method} {c : Code} {G : zG} {xM : Nat → Nat} {rr : Int32} {vM : zSt}
set_option maxRecDepth 20000 in
theorem mX7_rightVoter (l : Launch) (G : zG) (xM : Nat → Nat) {uM : zSt} {l1 : Int32} {rr : Int32} {vM : zSt} (h : fX7_rightVoter uM l1 = some (rr, vM)) : zC l yX7_rightVoter wsX7_rightVoter rmX7_rightVoter [.ref (xM 0), .int l1] G [shM G xM] [uM] [vM] (some (.int rr)) := by
  refine z_ofW (cc := cX7_rightVoter) (maxL := 3) (ret := some .boolean) (by decide) rfl (Nat.le_of_ble_eq_true rfl) ?_
  intro p e s m args below meth c C0 hK hN hD hP ls hl
  obtain ⟨hx, hb, hr, hml, hown, hts, hlk⟩ := id C0
  have hS : va_S (zA [shM G xM] s.heap.size) s.heap s.heap [] := va_S.rf
  replace hl : lv_has ls 3 [(0, .ref (xM 0)), (1, .int l1)] := hl
  have hwX7 : ∀ w ∈ wsX70, w.before args s = true := fun w h => hts w (List.mem_cons_of_mem _ (List.mem_append_right _ h))
  unfold fX7_rightVoter at h
  refine lv_aload_n hx hb dX7_rightVoter_0 rfl (lv_at hl 0 rfl) ?_
  refine rM_3 hx hb hwX7 hown hK hP 0 (xM) rfl rfl (hts _ (List.mem_of_getElem? (i := 1) rfl)) dX7_rightVoter_1 ?_
  refine lv_bipush (v := 6) hx hb dX7_rightVoter_4 (by decide) ?_
  refine lv_iload_n hx hb dX7_rightVoter_6 rfl (lv_at hl 1 rfl) ?_
  refine lv_imul hx hb dX7_rightVoter_7 ?_
  obtain ⟨hi, h⟩ := zin_e h
  refine aM_3 hx hb hK hP 0 (xM) rfl rfl hi rfl dX7_rightVoter_8 ?_
  refine lv_istore_n (lv' := [(2, .int ((gA uM 3 (((6 : Int32) * l1)).toNatClampNeg))), (0, .ref (xM 0)), (1, .int l1)]) hx hb dX7_rightVoter_9 rfl hl (by decide) rfl (fun ls hl => ?_)
  refine lv_aload_n hx hb dX7_rightVoter_10 rfl (lv_at hl 1 rfl) ?_
  refine rM_26 hx hb hwX7 hown hK hP 0 (xM) rfl rfl (hts _ (List.mem_of_getElem? (i := 2) rfl)) dX7_rightVoter_11 ?_
  refine lv_iconst (v := 1) hx hb dX7_rightVoter_14 (by decide) ?_
  refine lv_icmp_ne (tgt := 43) hx hb dX7_rightVoter_15 (by decide) (fun hc => ?_) (fun hc => ?_)
  · replace h := zf hc h
    refine lv_iconst (v := 0) hx hb dX7_rightVoter_43 (by decide) ?_
    cases h
    exact z_zret hx hb hr hlk rfl hP hS dX7_rightVoter_44
  · replace h := zt hc h
    refine lv_iload_n hx hb dX7_rightVoter_18 rfl (lv_at hl 0 rfl) ?_
    obtain ⟨r_1, hg, h⟩ := zb1_e h
    refine z_callS (As := [.int ((gA uM 3 (((6 : Int32) * l1)).toNatClampNeg))]) (rest := []) ⟨hx, hb, hml, hown, hts⟩ (mX7_noVoter l G  hg) (va_cwS 1 hts gX7_rightVoter_X7_noVoter rfl rfl rfl ksX7_noVoter ⟨Nat.le_of_ble_eq_true rfl, Nat.le_of_ble_eq_true rfl⟩) hP hD hK hN hS (Nat.le_refl _) [] rfl rfl rfl rfl rfl hl.1 rfl (Nat.le_of_ble_eq_true rfl) dX7_rightVoter_19 ⟨Nat.zero_le _, Nat.zero_le _⟩ (fun H locs hP hS => ?_)
    replace hP : zP G [shM G xM] [uM] H := hP
    refine lv_if_ne (tgt := 43) hx hb dX7_rightVoter_22 (by decide) (fun hc => ?_) (fun hc => ?_)
    · replace h := zf hc h
      refine lv_iconst (v := 0) hx hb dX7_rightVoter_43 (by decide) ?_
      cases h
      exact z_zret hx hb hr hlk rfl hP hS dX7_rightVoter_44
    · replace h := zt hc h
      refine lv_aload_n hx hb dX7_rightVoter_25 rfl (lv_at hl 1 rfl) ?_
      refine rM_20 hx hb hwX7 hown hK hP 0 (xM) rfl rfl (hts _ (List.mem_of_getElem? (i := 3) rfl)) dX7_rightVoter_26 ?_
      refine lv_iload_n hx hb dX7_rightVoter_29 rfl (lv_at hl 0 rfl) ?_
      obtain ⟨hi, h⟩ := zin_e h
      refine aM_20 hx hb hK hP 0 (xM) rfl rfl hi rfl dX7_rightVoter_30 ?_
      refine lv_if_ne (tgt := 43) hx hb dX7_rightVoter_31 (by decide) (fun hc => ?_) (fun hc => ?_)
      · replace h := zf hc h
        refine lv_iconst (v := 0) hx hb dX7_rightVoter_43 (by decide) ?_
        cases h
        exact z_zret hx hb hr hlk rfl hP hS dX7_rightVoter_44
      · replace h := zt hc h
        refine lv_aload_n hx hb dX7_rightVoter_34 rfl (lv_at hl 1 rfl) ?_
        refine lv_iload_n hx hb dX7_rightVoter_35 rfl (lv_at hl 2 rfl) ?_
        refine lv_iconst (v := 1) hx hb dX7_rightVoter_36 (by decide) ?_
        obtain ⟨r_2, hg, h⟩ := zb1_e h
        refine z_callV (As := [.int l1, .int ((1 : Int32))]) (rest := []) (i := 0) ⟨hx, hb, hml, hown, hts⟩ (mX7_bare l G (xM) hg) (cwV 2 hts gX7_rightVoter_X7_bare rfl rfl rfl kvX7_bare ⟨Nat.le_of_ble_eq_true rfl, Nat.le_of_ble_eq_true rfl⟩) rfl hP hD hK hN hS (Nat.le_refl _) [0] rfl rfl rfl rfl 0 rfl rfl rfl rfl rfl hl.1 rfl (Nat.le_of_ble_eq_true rfl) dX7_rightVoter_37 ⟨Nat.zero_le _, Nat.zero_le _⟩ (fun H locs hP hS => ?_)
        replace hP : zP G [shM G xM] [uM] H := hP
        refine lv_if_ne (tgt := 45) hx hb dX7_rightVoter_40 (by decide) (fun hc => ?_) (fun hc => ?_)
        · replace h := zf hc h
          refine lv_aload_n hx hb dX7_rightVoter_45 rfl (lv_at hl 1 rfl) ?_
          refine rM_20 hx hb hwX7 hown hK hP 0 (xM) rfl rfl (hts _ (List.mem_of_getElem? (i := 3) rfl)) dX7_rightVoter_46 ?_
          refine lv_iload_n hx hb dX7_rightVoter_49 rfl (lv_at hl 0 rfl) ?_
          refine lv_iconst (v := 1) hx hb dX7_rightVoter_50 (by decide) ?_
          obtain ⟨hi, h⟩ := zin_e h
          refine tM_20 hx hb hK hP hD hS 0 (xM) rfl rfl hi rfl vnb_1 dX7_rightVoter_51 (fun H locs hP hS => ?_)
          replace hP : zP G [shM G xM] [(sA uM 20 ((gA uM 3 (((6 : Int32) * l1)).toNatClampNeg)).toNatClampNeg ((1 : Int32)))] H := hP
          refine lv_iconst (v := 1) hx hb dX7_rightVoter_52 (by decide) ?_
          cases h
          exact z_zret hx hb hr hlk rfl hP hS dX7_rightVoter_53
        · replace h := zt hc h
          refine lv_iconst (v := 0) hx hb dX7_rightVoter_43 (by decide) ?_
          cases h
          exact z_zret hx hb hr hlk rfl hP hS dX7_rightVoter_44
end
def rmX7_rightBallot : Room := { frames := 2, cells := 0, slots := 0, locals := 46 }
theorem kvX7_rightBallot : yX7_rightBallot.cls = RX7 ∧ yX7_rightBallot.cls ≠ "java/lang/invoke/MethodHandle" ∧ yX7_rightBallot.cls ≠ "java/lang/invoke/VarHandle" ∧ (parseMethodDescriptor yX7_rightBallot.desc).map (fun d => d.parameters.length) = some 1 := by decide +kernel
section
variable {p : Program} {l : Launch} {e : Env} {s : State} {m : MethodId} {args : Array Value} {below : List Frame} {meth : Method} {c : Code} {G : zG} {xM : Nat → Nat} {rr : Int32} {vM : zSt}
set_option maxRecDepth 20000 in
theorem mX7_rightBallot (l : Launch) (G : zG) (xM : Nat → Nat) {uM : zSt} {l1 : Int32} {rr : Int32} {vM : zSt} (h : fX7_rightBallot uM l1 = some (rr, vM)) : zC l yX7_rightBallot wsX7_rightBallot rmX7_rightBallot [.ref (xM 0), .int l1] G [shM G xM] [uM] [vM] (some (.int rr)) := by
  refine z_ofW (cc := cX7_rightBallot) (maxL := 3) (ret := some .boolean) (by decide) rfl (Nat.le_of_ble_eq_true rfl) ?_
  intro p e s m args below meth c C0 hK hN hD hP ls hl
  obtain ⟨hx, hb, hr, hml, hown, hts, hlk⟩ := id C0
  have hS : va_S (zA [shM G xM] s.heap.size) s.heap s.heap [] := va_S.rf
  replace hl : lv_has ls 3 [(0, .ref (xM 0)), (1, .int l1)] := hl
  have hwX7 : ∀ w ∈ wsX70, w.before args s = true := fun w h => hts w (List.mem_cons_of_mem _ (List.mem_append_right _ h))
  unfold fX7_rightBallot at h
  refine lv_aload_n hx hb dX7_rightBallot_0 rfl (lv_at hl 0 rfl) ?_
  refine rM_3 hx hb hwX7 hown hK hP 0 (xM) rfl rfl (hts _ (List.mem_of_getElem? (i := 1) rfl)) dX7_rightBallot_1 ?_
  refine lv_bipush (v := 6) hx hb dX7_rightBallot_4 (by decide) ?_
  refine lv_iload_n hx hb dX7_rightBallot_6 rfl (lv_at hl 1 rfl) ?_
  refine lv_imul hx hb dX7_rightBallot_7 ?_
  obtain ⟨hi, h⟩ := zin_e h
  refine aM_3 hx hb hK hP 0 (xM) rfl rfl hi rfl dX7_rightBallot_8 ?_
  refine lv_istore_n (lv' := [(2, .int ((gA uM 3 (((6 : Int32) * l1)).toNatClampNeg))), (0, .ref (xM 0)), (1, .int l1)]) hx hb dX7_rightBallot_9 rfl hl (by decide) rfl (fun ls hl => ?_)
  refine lv_aload_n hx hb dX7_rightBallot_10 rfl (lv_at hl 1 rfl) ?_
  refine rM_26 hx hb hwX7 hown hK hP 0 (xM) rfl rfl (hts _ (List.mem_of_getElem? (i := 2) rfl)) dX7_rightBallot_11 ?_
  refine lv_iconst (v := 1) hx hb dX7_rightBallot_14 (by decide) ?_
  refine lv_icmp_ne (tgt := 77) hx hb dX7_rightBallot_15 (by decide) (fun hc => ?_) (fun hc => ?_)
  · replace h := zf hc h
    refine lv_iconst (v := 0) hx hb dX7_rightBallot_77 (by decide) ?_
    cases h
    exact z_zret hx hb hr hlk rfl hP hS dX7_rightBallot_78
  · replace h := zt hc h
    refine lv_iload_n hx hb dX7_rightBallot_18 rfl (lv_at hl 0 rfl) ?_
    obtain ⟨r_1, hg, h⟩ := zb1_e h
    refine z_callS (As := [.int ((gA uM 3 (((6 : Int32) * l1)).toNatClampNeg))]) (rest := []) ⟨hx, hb, hml, hown, hts⟩ (mX7_noVoter l G  hg) (va_cwS 1 hts gX7_rightBallot_X7_noVoter rfl rfl rfl ksX7_noVoter ⟨Nat.le_of_ble_eq_true rfl, Nat.le_of_ble_eq_true rfl⟩) hP hD hK hN hS (Nat.le_refl _) [] rfl rfl rfl rfl rfl hl.1 rfl (Nat.le_of_ble_eq_true rfl) dX7_rightBallot_19 ⟨Nat.zero_le _, Nat.zero_le _⟩ (fun H locs hP hS => ?_)
    replace hP : zP G [shM G xM] [uM] H := hP
    refine lv_if_ne (tgt := 77) hx hb dX7_rightBallot_22 (by decide) (fun hc => ?_) (fun hc => ?_)
    · replace h := zf hc h
      refine lv_iconst (v := 0) hx hb dX7_rightBallot_77 (by decide) ?_
      cases h
      exact z_zret hx hb hr hlk rfl hP hS dX7_rightBallot_78
    · replace h := zt hc h
      refine lv_aload_n hx hb dX7_rightBallot_25 rfl (lv_at hl 1 rfl) ?_
      refine rM_20 hx hb hwX7 hown hK hP 0 (xM) rfl rfl (hts _ (List.mem_of_getElem? (i := 3) rfl)) dX7_rightBallot_26 ?_
      refine lv_iload_n hx hb dX7_rightBallot_29 rfl (lv_at hl 0 rfl) ?_
      obtain ⟨hi, h⟩ := zin_e h
      refine aM_20 hx hb hK hP 0 (xM) rfl rfl hi rfl dX7_rightBallot_30 ?_
      refine lv_if_eq (tgt := 77) hx hb dX7_rightBallot_31 (by decide) (fun hc => ?_) (fun hc => ?_)
      · replace h := zt hc h
        refine lv_iconst (v := 0) hx hb dX7_rightBallot_77 (by decide) ?_
        cases h
        exact z_zret hx hb hr hlk rfl hP hS dX7_rightBallot_78
      · replace h := zf hc h
        refine lv_aload_n hx hb dX7_rightBallot_34 rfl (lv_at hl 1 rfl) ?_
        refine rM_3 hx hb hwX7 hown hK hP 0 (xM) rfl rfl (hts _ (List.mem_of_getElem? (i := 1) rfl)) dX7_rightBallot_35 ?_
        refine lv_bipush (v := 6) hx hb dX7_rightBallot_38 (by decide) ?_
        refine lv_iload_n hx hb dX7_rightBallot_40 rfl (lv_at hl 2 rfl) ?_
        refine lv_imul hx hb dX7_rightBallot_41 ?_
        refine lv_iconst (v := 1) hx hb dX7_rightBallot_42 (by decide) ?_
        refine lv_iadd hx hb dX7_rightBallot_43 ?_
        obtain ⟨hi, h⟩ := zin_e h
        refine aM_3 hx hb hK hP 0 (xM) rfl rfl hi rfl dX7_rightBallot_44 ?_
        obtain ⟨r_2, hg, h⟩ := zb1_e h
        refine z_callS (As := [.int ((gA uM 3 ((((6 : Int32) * l1) + (1 : Int32))).toNatClampNeg))]) (rest := []) ⟨hx, hb, hml, hown, hts⟩ (mX7_isElement l G  hg) (va_cwS 1 hts gX7_rightBallot_X7_isElement rfl rfl rfl ksX7_isElement ⟨Nat.le_of_ble_eq_true rfl, Nat.le_of_ble_eq_true rfl⟩) hP hD hK hN hS (Nat.le_refl _) [] rfl rfl rfl rfl rfl hl.1 rfl (Nat.le_of_ble_eq_true rfl) dX7_rightBallot_45 ⟨Nat.zero_le _, Nat.zero_le _⟩ (fun H locs hP hS => ?_)
        replace hP : zP G [shM G xM] [uM] H := hP
        refine lv_if_eq (tgt := 77) hx hb dX7_rightBallot_48 (by decide) (fun hc => ?_) (fun hc => ?_)
        · replace h := zt hc h
          refine lv_iconst (v := 0) hx hb dX7_rightBallot_77 (by decide) ?_
          cases h
          exact z_zret hx hb hr hlk rfl hP hS dX7_rightBallot_78
        · replace h := zf hc h
          refine lv_aload_n hx hb dX7_rightBallot_51 rfl (lv_at hl 1 rfl) ?_
          refine rM_3 hx hb hwX7 hown hK hP 0 (xM) rfl rfl (hts _ (List.mem_of_getElem? (i := 1) rfl)) dX7_rightBallot_52 ?_
          refine lv_bipush (v := 6) hx hb dX7_rightBallot_55 (by decide) ?_
          refine lv_iload_n hx hb dX7_rightBallot_57 rfl (lv_at hl 2 rfl) ?_
          refine lv_imul hx hb dX7_rightBallot_58 ?_
          refine lv_iconst (v := 2) hx hb dX7_rightBallot_59 (by decide) ?_
          refine lv_iadd hx hb dX7_rightBallot_60 ?_
          obtain ⟨hi, h⟩ := zin_e h
          refine aM_3 hx hb hK hP 0 (xM) rfl rfl hi rfl dX7_rightBallot_61 ?_
          obtain ⟨r_3, hg, h⟩ := zb1_e h
          refine z_callS (As := [.int ((gA uM 3 ((((6 : Int32) * l1) + (2 : Int32))).toNatClampNeg))]) (rest := []) ⟨hx, hb, hml, hown, hts⟩ (mX7_isElement l G  hg) (va_cwS 1 hts gX7_rightBallot_X7_isElement rfl rfl rfl ksX7_isElement ⟨Nat.le_of_ble_eq_true rfl, Nat.le_of_ble_eq_true rfl⟩) hP hD hK hN hS (Nat.le_refl _) [] rfl rfl rfl rfl rfl hl.1 rfl (Nat.le_of_ble_eq_true rfl) dX7_rightBallot_62 ⟨Nat.zero_le _, Nat.zero_le _⟩ (fun H locs hP hS => ?_)
          replace hP : zP G [shM G xM] [uM] H := hP
          refine lv_if_eq (tgt := 77) hx hb dX7_rightBallot_65 (by decide) (fun hc => ?_) (fun hc => ?_)
          · replace h := zt hc h
            refine lv_iconst (v := 0) hx hb dX7_rightBallot_77 (by decide) ?_
            cases h
            exact z_zret hx hb hr hlk rfl hP hS dX7_rightBallot_78
          · replace h := zf hc h
            refine lv_aload_n hx hb dX7_rightBallot_68 rfl (lv_at hl 1 rfl) ?_
            refine lv_iload_n hx hb dX7_rightBallot_69 rfl (lv_at hl 2 rfl) ?_
            refine lv_iconst (v := 3) hx hb dX7_rightBallot_70 (by decide) ?_
            obtain ⟨r_4, hg, h⟩ := zb1_e h
            refine z_callV (As := [.int l1, .int ((3 : Int32))]) (rest := []) (i := 0) ⟨hx, hb, hml, hown, hts⟩ (mX7_bare l G (xM) hg) (cwV 2 hts gX7_rightBallot_X7_bare rfl rfl rfl kvX7_bare ⟨Nat.le_of_ble_eq_true rfl, Nat.le_of_ble_eq_true rfl⟩) rfl hP hD hK hN hS (Nat.le_refl _) [0] rfl rfl rfl rfl 0 rfl rfl rfl rfl rfl hl.1 rfl (Nat.le_of_ble_eq_true rfl) dX7_rightBallot_71 ⟨Nat.zero_le _, Nat.zero_le _⟩ (fun H locs hP hS => ?_)
            replace hP : zP G [shM G xM] [uM] H := hP
            refine lv_if_ne (tgt := 79) hx hb dX7_rightBallot_74 (by decide) (fun hc => ?_) (fun hc => ?_)
            · replace h := zf hc h
              refine lv_aload_n hx hb dX7_rightBallot_79 rfl (lv_at hl 1 rfl) ?_
              refine rM_21 hx hb hwX7 hown hK hP 0 (xM) rfl rfl (hts _ (List.mem_of_getElem? (i := 4) rfl)) dX7_rightBallot_80 ?_
              refine lv_iload_n hx hb dX7_rightBallot_83 rfl (lv_at hl 0 rfl) ?_
              refine lv_iconst (v := 1) hx hb dX7_rightBallot_84 (by decide) ?_
              obtain ⟨hi, h⟩ := zin_e h
              refine tM_21 hx hb hK hP hD hS 0 (xM) rfl rfl hi rfl vnb_1 dX7_rightBallot_85 (fun H locs hP hS => ?_)
              replace hP : zP G [shM G xM] [(sA uM 21 ((gA uM 3 (((6 : Int32) * l1)).toNatClampNeg)).toNatClampNeg ((1 : Int32)))] H := hP
              refine lv_aload_n hx hb dX7_rightBallot_86 rfl (lv_at hl 1 rfl) ?_
              refine rM_22 hx hb hwX7 hown hK hP 0 (xM) rfl rfl (hts _ (List.mem_of_getElem? (i := 5) rfl)) dX7_rightBallot_87 ?_
              refine lv_iload_n hx hb dX7_rightBallot_90 rfl (lv_at hl 0 rfl) ?_
              refine lv_aload_n hx hb dX7_rightBallot_91 rfl (lv_at hl 1 rfl) ?_
              refine rM_3 hx hb hwX7 hown hK hP 0 (xM) rfl rfl (hts _ (List.mem_of_getElem? (i := 1) rfl)) dX7_rightBallot_92 ?_
              refine lv_bipush (v := 6) hx hb dX7_rightBallot_95 (by decide) ?_
              refine lv_iload_n hx hb dX7_rightBallot_97 rfl (lv_at hl 2 rfl) ?_
              refine lv_imul hx hb dX7_rightBallot_98 ?_
              refine lv_iconst (v := 1) hx hb dX7_rightBallot_99 (by decide) ?_
              refine lv_iadd hx hb dX7_rightBallot_100 ?_
              obtain ⟨hi, h⟩ := zin_e h
              refine aM_3 hx hb hK hP 0 (xM) rfl rfl hi rfl dX7_rightBallot_101 ?_
              obtain ⟨hi, h⟩ := zin_e h
              refine tM_22 hx hb hK hP hD hS 0 (xM) rfl rfl hi rfl dX7_rightBallot_102 (fun H locs hP hS => ?_)
              replace hP : zP G [shM G xM] [(sA ((sA uM 21 ((gA uM 3 (((6 : Int32) * l1)).toNatClampNeg)).toNatClampNeg ((1 : Int32)))) 22 ((gA uM 3 (((6 : Int32) * l1)).toNatClampNeg)).toNatClampNeg ((gA ((sA uM 21 ((gA uM 3 (((6 : Int32) * l1)).toNatClampNeg)).toNatClampNeg ((1 : Int32)))) 3 ((((6 : Int32) * l1) + (1 : Int32))).toNatClampNeg)))] H := hP
              refine lv_aload_n hx hb dX7_rightBallot_103 rfl (lv_at hl 1 rfl) ?_
              refine rM_23 hx hb hwX7 hown hK hP 0 (xM) rfl rfl (hts _ (List.mem_of_getElem? (i := 6) rfl)) dX7_rightBallot_104 ?_
              refine lv_iload_n hx hb dX7_rightBallot_107 rfl (lv_at hl 0 rfl) ?_
              refine lv_aload_n hx hb dX7_rightBallot_108 rfl (lv_at hl 1 rfl) ?_
              refine rM_3 hx hb hwX7 hown hK hP 0 (xM) rfl rfl (hts _ (List.mem_of_getElem? (i := 1) rfl)) dX7_rightBallot_109 ?_
              refine lv_bipush (v := 6) hx hb dX7_rightBallot_112 (by decide) ?_
              refine lv_iload_n hx hb dX7_rightBallot_114 rfl (lv_at hl 2 rfl) ?_
              refine lv_imul hx hb dX7_rightBallot_115 ?_
              refine lv_iconst (v := 2) hx hb dX7_rightBallot_116 (by decide) ?_
              refine lv_iadd hx hb dX7_rightBallot_117 ?_
              obtain ⟨hi, h⟩ := zin_e h
              refine aM_3 hx hb hK hP 0 (xM) rfl rfl hi rfl dX7_rightBallot_118 ?_
              obtain ⟨hi, h⟩ := zin_e h
              refine tM_23 hx hb hK hP hD hS 0 (xM) rfl rfl hi rfl dX7_rightBallot_119 (fun H locs hP hS => ?_)
              replace hP : zP G [shM G xM] [(sA ((sA ((sA uM 21 ((gA uM 3 (((6 : Int32) * l1)).toNatClampNeg)).toNatClampNeg ((1 : Int32)))) 22 ((gA uM 3 (((6 : Int32) * l1)).toNatClampNeg)).toNatClampNeg ((gA ((sA uM 21 ((gA uM 3 (((6 : Int32) * l1)).toNatClampNeg)).toNatClampNeg ((1 : Int32)))) 3 ((((6 : Int32) * l1) + (1 : Int32))).toNatClampNeg)))) 23 ((gA uM 3 (((6 : Int32) * l1)).toNatClampNeg)).toNatClampNeg ((gA ((sA ((sA uM 21 ((gA uM 3 (((6 : Int32) * l1)).toNatClampNeg)).toNatClampNeg ((1 : Int32)))) 22 ((gA uM 3 (((6 : Int32) * l1)).toNatClampNeg)).toNatClampNeg ((gA ((sA uM 21 ((gA uM 3 (((6 : Int32) * l1)).toNatClampNeg)).toNatClampNeg ((1 : Int32)))) 3 ((((6 : Int32) * l1) + (1 : Int32))).toNatClampNeg)))) 3 ((((6 : Int32) * l1) + (2 : Int32))).toNatClampNeg)))] H := hP
              refine lv_iconst (v := 1) hx hb dX7_rightBallot_120 (by decide) ?_
              cases h
              exact z_zret hx hb hr hlk rfl hP hS dX7_rightBallot_121
            · replace h := zt hc h
              refine lv_iconst (v := 0) hx hb dX7_rightBallot_77 (by decide) ?_
              cases h
              exact z_zret hx hb hr hlk rfl hP hS dX7_rightBallot_78
end
def rmX7_await : Room := { frames := 0, cells := 0, slots := 0, locals := 0 }
theorem kvX7_await : yX7_await.cls = RX7 ∧ yX7_await.cls ≠ "java/lang/invoke/MethodHandle" ∧ yX7_await.cls ≠ "java/lang/invoke/VarHandle" ∧ (parseMethodDescriptor yX7_await.desc).map (fun d => d.parameters.length) = some 1 := by decide +kernel
section
variable {p : Program} {l : Launch} {e : Env} {s : State} {m : MethodId} {args : Array Value} {below : List Frame} {meth : Method} {c : Code} {G : zG} {xM : Nat → Nat} {vM : zSt}
set_option maxRecDepth 20000 in
theorem tX7_await_20 (C0 : zCtx p s m args meth c cX7_await RX7 wsX7_await 2 none) (hK : zK G s) (hN : zN s) (hD : zD [shM G xM])  : ∀ (uM : zSt) (s1 : Int32), bX7_await_20  uM s1 = some vM → ∀ (H : Heap) (locs : List Loc), zP G [shM G xM] [uM] H → va_S (zA [shM G xM] s.heap.size) s.heap H locs → ∀ ls : Array Slot, lv_has ls 2 [] → W p l e rmX7_await s m args below meth c H locs 0 0 (MQ below (zQ G [shM G xM] [vM] (zA [shM G xM] s.heap.size) none) args s 0 0 (zA [shM G xM] s.heap.size)) (F0 m 20 ls [.int s1, .ref (xM 0)]) := by
  obtain ⟨hx, hb, hr, hml, hown, hts, hlk⟩ := id C0
  have hwX7 : ∀ w ∈ wsX70, w.before args s = true := fun w h => hts w (List.mem_cons_of_mem _ (List.mem_append_right _ h))
  intro uM s1 h H locs hP hS ls hl
  unfold bX7_await_20 at h
  refine pM_26 hx hb hwX7 hown hK hP hD hS 0 (xM) rfl rfl (hts _ (List.mem_of_getElem? (i := 3) rfl)) dX7_await_20 (fun H locs hP hS => ?_)
  replace hP : zP G [shM G xM] [(sI uM 26 s1)] H := hP
  cases h
  exact z_vret hx hb hr hlk hP hS dX7_await_23
set_option maxRecDepth 20000 in
theorem mX7_await (l : Launch) (G : zG) (xM : Nat → Nat) {uM : zSt} {l1 : Int32} {vM : zSt} (h : fX7_await uM l1 = some vM) : zC l yX7_await wsX7_await rmX7_await [.ref (xM 0), .int l1] G [shM G xM] [uM] [vM] none := by
  refine z_ofW (cc := cX7_await) (maxL := 2) (ret := none) (by decide) rfl (Nat.le_of_ble_eq_true rfl) ?_
  intro p e s m args below meth c C0 hK hN hD hP ls hl
  obtain ⟨hx, hb, hr, hml, hown, hts, hlk⟩ := id C0
  have hS : va_S (zA [shM G xM] s.heap.size) s.heap s.heap [] := va_S.rf
  replace hl : lv_has ls 2 [(0, .ref (xM 0)), (1, .int l1)] := hl
  have hwX7 : ∀ w ∈ wsX70, w.before args s = true := fun w h => hts w (List.mem_cons_of_mem _ (List.mem_append_right _ h))
  unfold fX7_await at h
  refine lv_aload_n hx hb dX7_await_0 rfl (lv_at hl 0 rfl) ?_
  refine lv_iload_n hx hb dX7_await_1 rfl (lv_at hl 1 rfl) ?_
  refine pM_29 hx hb hwX7 hown hK hP hD hS 0 (xM) rfl rfl (hts _ (List.mem_of_getElem? (i := 1) rfl)) dX7_await_2 (fun H locs hP hS => ?_)
  replace hP : zP G [shM G xM] [(sI uM 29 l1)] H := hP
  refine lv_aload_n hx hb dX7_await_5 rfl (lv_at hl 0 rfl) ?_
  refine lv_iconst (v := 0) hx hb dX7_await_6 (by decide) ?_
  refine pM_27 hx hb hwX7 hown hK hP hD hS 0 (xM) rfl rfl (hts _ (List.mem_of_getElem? (i := 2) rfl)) dX7_await_7 (fun H locs hP hS => ?_)
  replace hP : zP G [shM G xM] [(sI ((sI uM 29 l1)) 27 ((0 : Int32)))] H := hP
  refine lv_aload_n hx hb dX7_await_10 rfl (lv_at hl 0 rfl) ?_
  refine lv_iload_n hx hb dX7_await_11 rfl (lv_at hl 1 rfl) ?_
  refine lv_if_le (tgt := 19) hx hb dX7_await_12 (by decide) (fun hc => ?_) (fun hc => ?_)
  · replace h := zt hc h
    refine lv_iconst (v := 3) hx hb dX7_await_19 (by decide) ?_
    exact tX7_await_20 C0 hK hN hD  _ _ h _ _ hP hS _ (lv_sub hl [] rfl)
  · replace h := zf hc h
    refine lv_iconst (v := 2) hx hb dX7_await_15 (by decide) ?_
    refine lv_goto (tgt := 20) hx hb dX7_await_16 (by decide) ?_
    exact tX7_await_20 C0 hK hN hD  _ _ h _ _ hP hS _ (lv_sub hl [] rfl)
end
def rmX7_rightClosed : Room := { frames := 1, cells := 0, slots := 0, locals := 24 }
theorem kvX7_rightClosed : yX7_rightClosed.cls = RX7 ∧ yX7_rightClosed.cls ≠ "java/lang/invoke/MethodHandle" ∧ yX7_rightClosed.cls ≠ "java/lang/invoke/VarHandle" ∧ (parseMethodDescriptor yX7_rightClosed.desc).map (fun d => d.parameters.length) = some 1 := by decide +kernel
section
variable {p : Program} {l : Launch} {e : Env} {s : State} {m : MethodId} {args : Array Value} {below : List Frame} {meth : Method} {c : Code} {G : zG} {xM : Nat → Nat} {rr : Int32} {vM : zSt}
set_option maxRecDepth 20000 in
theorem tX7_rightClosed_65 (C0 : zCtx p s m args meth c cX7_rightClosed RX7 wsX7_rightClosed 4 (some .boolean)) (hK : zK G s) (hN : zN s) (hD : zD [shM G xM]) {k23 : zSt → Int32 → Int32 → Option (Int32 × zSt)} (K23 : ∀ (uM : zSt) (l2 : Int32) (l3 : Int32), k23 uM l2 l3 = some (rr, vM) → ∀ (H : Heap) (locs : List Loc), zP G [shM G xM] [uM] H → va_S (zA [shM G xM] s.heap.size) s.heap H locs → ∀ ls : Array Slot, lv_has ls 4 [(0, .ref (xM 0)), (2, .int l2), (3, .int l3)] → W p l e rmX7_rightClosed s m args below meth c H locs 0 0 (MQ below (zQ G [shM G xM] [vM] (zA [shM G xM] s.heap.size) (some (.int rr))) args s 0 0 (zA [shM G xM] s.heap.size)) (F0 m 23 ls [])) : ∀ (uM : zSt) (l2 : Int32) (l3 : Int32), bX7_rightClosed_65 k23 uM l2 l3 = some (rr, vM) → ∀ (H : Heap) (locs : List Loc), zP G [shM G xM] [uM] H → va_S (zA [shM G xM] s.heap.size) s.heap H locs → ∀ ls : Array Slot, lv_has ls 4 [(0, .ref (xM 0)), (2, .int l2), (3, .int l3)] → W p l e rmX7_rightClosed s m args below meth c H locs 0 0 (MQ below (zQ G [shM G xM] [vM] (zA [shM G xM] s.heap.size) (some (.int rr))) args s 0 0 (zA [shM G xM] s.heap.size)) (F0 m 65 ls []) := by
  obtain ⟨hx, hb, hr, hml, hown, hts, hlk⟩ := id C0
  intro uM l2 l3 h H locs hP hS ls hl
  unfold bX7_rightClosed_65 at h
  refine lv_iinc (v := (l3 + (1 : Int32))) (lv' := [(3, .int ((l3 + (1 : Int32)))), (0, .ref (xM 0)), (2, .int l2)]) hx hb dX7_rightClosed_65 hl (k := 2) rfl rfl (by decide) rfl (fun ls hl => ?_)
  refine lv_goto (tgt := 23) hx hb dX7_rightClosed_68 (by decide) ?_
  exact K23 _ _ _ h _ _ hP hS _ (lv_sub hl [1, 2, 0] rfl)
set_option maxRecDepth 20000 in
theorem tlX7_rightClosed_23 (C0 : zCtx p s m args meth c cX7_rightClosed RX7 wsX7_rightClosed 4 (some .boolean)) (hK : zK G s) (hN : zN s) (hD : zD [shM G xM])  : ∀ (n : Nat), ∀ (uM : zSt) (l2 : Int32) (l3 : Int32), lX7_rightClosed_23  n uM l2 l3 = some (rr, vM) → ∀ (H : Heap) (locs : List Loc), zP G [shM G xM] [uM] H → va_S (zA [shM G xM] s.heap.size) s.heap H locs → ∀ ls : Array Slot, lv_has ls 4 [(0, .ref (xM 0)), (2, .int l2), (3, .int l3)] → W p l e rmX7_rightClosed s m args below meth c H locs 0 0 (MQ below (zQ G [shM G xM] [vM] (zA [shM G xM] s.heap.size) (some (.int rr))) args s 0 0 (zA [shM G xM] s.heap.size)) (F0 m 23 ls []) := by
  obtain ⟨hx, hb, hr, hml, hown, hts, hlk⟩ := id C0
  have hwX7 : ∀ w ∈ wsX70, w.before args s = true := fun w h => hts w (List.mem_cons_of_mem _ (List.mem_append_right _ h))
  intro n
  induction n with
  | zero => intro uM l2 l3 h; exact absurd h (fun q => nomatch q)
  | succ n K23 =>
    intro uM l2 l3 h H locs hP hS ls hl
    replace h : bX7_rightClosed_23  (lX7_rightClosed_23  n) uM l2 l3 = some (rr, vM) := h
    unfold bX7_rightClosed_23 at h
    refine lv_iload_n hx hb dX7_rightClosed_23 rfl (lv_at hl 2 rfl) ?_
    refine lv_bipush (v := 10) hx hb dX7_rightClosed_24 (by decide) ?_
    refine lv_icmp_ge (tgt := 71) hx hb dX7_rightClosed_26 (by decide) (fun hc => ?_) (fun hc => ?_)
    · replace h := zt hc h
      refine lv_aload_n hx hb dX7_rightClosed_71 rfl (lv_at hl 0 rfl) ?_
      refine lv_iload_n hx hb dX7_rightClosed_72 rfl (lv_at hl 1 rfl) ?_
      obtain ⟨uM_1, hg, h⟩ := zb1_e h
      refine z_callV (As := [.int l2]) (rest := []) (i := 0) ⟨hx, hb, hml, hown, hts⟩ (mX7_await l G (xM) hg) (cwV 1 hts gX7_rightClosed_X7_await rfl rfl rfl kvX7_await ⟨Nat.le_of_ble_eq_true rfl, Nat.le_of_ble_eq_true rfl⟩) rfl hP hD hK hN hS (Nat.le_refl _) [0] rfl rfl rfl rfl 0 rfl rfl rfl rfl rfl hl.1 rfl (Nat.le_of_ble_eq_true rfl) dX7_rightClosed_73 ⟨Nat.zero_le _, Nat.zero_le _⟩ (fun H locs hP hS => ?_)
      replace hP : zP G [shM G xM] [uM_1] H := hP
      refine lv_iconst (v := 1) hx hb dX7_rightClosed_76 (by decide) ?_
      cases h
      exact z_zret hx hb hr hlk rfl hP hS dX7_rightClosed_77
    · replace h := zf hc h
      refine lv_aload_n hx hb dX7_rightClosed_29 rfl (lv_at hl 0 rfl) ?_
      refine rM_21 hx hb hwX7 hown hK hP 0 (xM) rfl rfl (hts _ (List.mem_of_getElem? (i := 2) rfl)) dX7_rightClosed_30 ?_
      refine lv_iload_n hx hb dX7_rightClosed_33 rfl (lv_at hl 2 rfl) ?_
      obtain ⟨hi, h⟩ := zin_e h
      refine aM_21 hx hb hK hP 0 (xM) rfl rfl hi rfl dX7_rightClosed_34 ?_
      refine lv_if_eq (tgt := 65) hx hb dX7_rightClosed_35 (by decide) (fun hc => ?_) (fun hc => ?_)
      · replace h := zt hc h
        exact tX7_rightClosed_65 C0 hK hN hD K23 _ _ _ h _ _ hP hS _ (lv_sub hl [0, 1, 2] rfl)
      · replace h := zf hc h
        refine lv_aload_n hx hb dX7_rightClosed_38 rfl (lv_at hl 0 rfl) ?_
        refine rM_30 hx hb hwX7 hown hK hP 0 (xM) rfl rfl (hts _ (List.mem_of_getElem? (i := 3) rfl)) dX7_rightClosed_39 ?_
        refine lv_iload_n hx hb dX7_rightClosed_42 rfl (lv_at hl 1 rfl) ?_
        refine lv_aload_n hx hb dX7_rightClosed_43 rfl (lv_at hl 0 rfl) ?_
        refine rM_22 hx hb hwX7 hown hK hP 0 (xM) rfl rfl (hts _ (List.mem_of_getElem? (i := 4) rfl)) dX7_rightClosed_44 ?_
        refine lv_iload_n hx hb dX7_rightClosed_47 rfl (lv_at hl 2 rfl) ?_
        obtain ⟨hi, h⟩ := zin_e h
        refine aM_22 hx hb hK hP 0 (xM) rfl rfl hi rfl dX7_rightClosed_48 ?_
        obtain ⟨hi, h⟩ := zin_e h
        refine tM_30 hx hb hK hP hD hS 0 (xM) rfl rfl hi rfl dX7_rightClosed_49 (fun H locs hP hS => ?_)
        replace hP : zP G [shM G xM] [(sA uM 30 l2.toNatClampNeg ((gA uM 22 l3.toNatClampNeg)))] H := hP
        refine lv_aload_n hx hb dX7_rightClosed_50 rfl (lv_at hl 0 rfl) ?_
        refine rM_31 hx hb hwX7 hown hK hP 0 (xM) rfl rfl (hts _ (List.mem_of_getElem? (i := 5) rfl)) dX7_rightClosed_51 ?_
        refine lv_iload_n hx hb dX7_rightClosed_54 rfl (lv_at hl 1 rfl) ?_
        refine lv_aload_n hx hb dX7_rightClosed_55 rfl (lv_at hl 0 rfl) ?_
        refine rM_23 hx hb hwX7 hown hK hP 0 (xM) rfl rfl (hts _ (List.mem_of_getElem? (i := 6) rfl)) dX7_rightClosed_56 ?_
        refine lv_iload_n hx hb dX7_rightClosed_59 rfl (lv_at hl 2 rfl) ?_
        obtain ⟨hi, h⟩ := zin_e h
        refine aM_23 hx hb hK hP 0 (xM) rfl rfl hi rfl dX7_rightClosed_60 ?_
        obtain ⟨hi, h⟩ := zin_e h
        refine tM_31 hx hb hK hP hD hS 0 (xM) rfl rfl hi rfl dX7_rightClosed_61 (fun H locs hP hS => ?_)
        replace hP : zP G [shM G xM] [(sA ((sA uM 30 l2.toNatClampNeg ((gA uM 22 l3.toNatClampNeg)))) 31 l2.toNatClampNeg ((gA ((sA uM 30 l2.toNatClampNeg ((gA uM 22 l3.toNatClampNeg)))) 23 l3.toNatClampNeg)))] H := hP
        refine lv_iinc (v := (l2 + (1 : Int32))) (lv' := [(2, .int ((l2 + (1 : Int32)))), (0, .ref (xM 0)), (3, .int l3)]) hx hb dX7_rightClosed_62 hl (k := 1) rfl rfl (by decide) rfl (fun ls hl => ?_)
        exact tX7_rightClosed_65 C0 hK hN hD K23 _ _ _ h _ _ hP hS _ (lv_sub hl [1, 0, 2] rfl)
set_option maxRecDepth 20000 in
theorem mX7_rightClosed (l : Launch) (G : zG) (xM : Nat → Nat) {uM : zSt} {l1 : Int32} {rr : Int32} {vM : zSt} (h : fX7_rightClosed uM l1 = some (rr, vM)) : zC l yX7_rightClosed wsX7_rightClosed rmX7_rightClosed [.ref (xM 0), .int l1] G [shM G xM] [uM] [vM] (some (.int rr)) := by
  refine z_ofW (cc := cX7_rightClosed) (maxL := 4) (ret := some .boolean) (by decide) rfl (Nat.le_of_ble_eq_true rfl) ?_
  intro p e s m args below meth c C0 hK hN hD hP ls hl
  obtain ⟨hx, hb, hr, hml, hown, hts, hlk⟩ := id C0
  have hS : va_S (zA [shM G xM] s.heap.size) s.heap s.heap [] := va_S.rf
  replace hl : lv_has ls 4 [(0, .ref (xM 0)), (1, .int l1)] := hl
  have hwX7 : ∀ w ∈ wsX70, w.before args s = true := fun w h => hts w (List.mem_cons_of_mem _ (List.mem_append_right _ h))
  unfold fX7_rightClosed at h
  refine lv_aload_n hx hb dX7_rightClosed_0 rfl (lv_at hl 0 rfl) ?_
  refine rM_26 hx hb hwX7 hown hK hP 0 (xM) rfl rfl (hts _ (List.mem_of_getElem? (i := 1) rfl)) dX7_rightClosed_1 ?_
  refine lv_iconst (v := 1) hx hb dX7_rightClosed_4 (by decide) ?_
  refine lv_icmp_ne (tgt := 17) hx hb dX7_rightClosed_5 (by decide) (fun hc => ?_) (fun hc => ?_)
  · replace h := zf hc h
    refine lv_iconst (v := 0) hx hb dX7_rightClosed_17 (by decide) ?_
    cases h
    exact z_zret hx hb hr hlk rfl hP hS dX7_rightClosed_18
  · replace h := zt hc h
    refine lv_aload_n hx hb dX7_rightClosed_8 rfl (lv_at hl 0 rfl) ?_
    refine lv_iload_n hx hb dX7_rightClosed_9 rfl (lv_at hl 1 rfl) ?_
    refine lv_iconst (v := 0) hx hb dX7_rightClosed_10 (by decide) ?_
    obtain ⟨r_2, hg, h⟩ := zb1_e h
    refine z_callV (As := [.int l1, .int ((0 : Int32))]) (rest := []) (i := 0) ⟨hx, hb, hml, hown, hts⟩ (mX7_bare l G (xM) hg) (cwV 2 hts gX7_rightClosed_X7_bare rfl rfl rfl kvX7_bare ⟨Nat.le_of_ble_eq_true rfl, Nat.le_of_ble_eq_true rfl⟩) rfl hP hD hK hN hS (Nat.le_refl _) [0] rfl rfl rfl rfl 0 rfl rfl rfl rfl rfl hl.1 rfl (Nat.le_of_ble_eq_true rfl) dX7_rightClosed_11 ⟨Nat.zero_le _, Nat.zero_le _⟩ (fun H locs hP hS => ?_)
    replace hP : zP G [shM G xM] [uM] H := hP
    refine lv_if_ne (tgt := 19) hx hb dX7_rightClosed_14 (by decide) (fun hc => ?_) (fun hc => ?_)
    · replace h := zf hc h
      refine lv_iconst (v := 0) hx hb dX7_rightClosed_19 (by decide) ?_
      refine lv_istore_n (lv' := [(2, .int ((0 : Int32))), (0, .ref (xM 0)), (1, .int l1)]) hx hb dX7_rightClosed_20 rfl hl (by decide) rfl (fun ls hl => ?_)
      refine lv_iconst (v := 0) hx hb dX7_rightClosed_21 (by decide) ?_
      refine lv_istore_n (lv' := [(3, .int ((0 : Int32))), (2, .int ((0 : Int32))), (0, .ref (xM 0)), (1, .int l1)]) hx hb dX7_rightClosed_22 rfl hl (by decide) rfl (fun ls hl => ?_)
      exact tlX7_rightClosed_23 C0 hK hN hD  1000 _ _ _ h _ _ hP hS _ (lv_sub hl [2, 1, 0] rfl)
    · replace h := zt hc h
      refine lv_iconst (v := 0) hx hb dX7_rightClosed_17 (by decide) ?_
      cases h
      exact z_zret hx hb hr hlk rfl hP hS dX7_rightClosed_18
end
def rmX7_rightMixed : Room := { frames := 3, cells := 0, slots := 0, locals := 62 }
theorem kvX7_rightMixed : yX7_rightMixed.cls = RX7 ∧ yX7_rightMixed.cls ≠ "java/lang/invoke/MethodHandle" ∧ yX7_rightMixed.cls ≠ "java/lang/invoke/VarHandle" ∧ (parseMethodDescriptor yX7_rightMixed.desc).map (fun d => d.parameters.length) = some 1 := by decide +kernel
section
variable {p : Program} {l : Launch} {e : Env} {s : State} {m : MethodId} {args : Array Value} {below : List Frame} {meth : Method} {c : Code} {G : zG} {xM : Nat → Nat} {rr : Int32} {vM : zSt}
set_option maxRecDepth 20000 in
theorem tlX7_rightMixed_233 (C0 : zCtx p s m args meth c cX7_rightMixed RX7 wsX7_rightMixed 9 (some .boolean)) (hK : zK G s) (hN : zN s) (hD : zD [shM G xM])  : ∀ (n : Nat), ∀ (uM : zSt) (l6 : Int32), lX7_rightMixed_233  n uM l6 = some (rr, vM) → ∀ (H : Heap) (locs : List Loc), zP G [shM G xM] [uM] H → va_S (zA [shM G xM] s.heap.size) s.heap H locs → ∀ ls : Array Slot, lv_has ls 9 [(0, .ref (xM 0)), (6, .int l6)] → W p l e rmX7_rightMixed s m args below meth c H locs 0 0 (MQ below (zQ G [shM G xM] [vM] (zA [shM G xM] s.heap.size) (some (.int rr))) args s 0 0 (zA [shM G xM] s.heap.size)) (F0 m 233 ls []) := by
  obtain ⟨hx, hb, hr, hml, hown, hts, hlk⟩ := id C0
  have hwX7 : ∀ w ∈ wsX70, w.before args s = true := fun w h => hts w (List.mem_cons_of_mem _ (List.mem_append_right _ h))
  intro n
  induction n with
  | zero => intro uM l6 h; exact absurd h (fun q => nomatch q)
  | succ n K233 =>
    intro uM l6 h H locs hP hS ls hl
    replace h : bX7_rightMixed_233  (lX7_rightMixed_233  n) uM l6 = some (rr, vM) := h
    unfold bX7_rightMixed_233 at h
    refine lv_iload hx hb dX7_rightMixed_233 (lv_at hl 1 rfl) ?_
    refine lv_aload_n hx hb dX7_rightMixed_235 rfl (lv_at hl 0 rfl) ?_
    refine rM_29 hx hb hwX7 hown hK hP 0 (xM) rfl rfl (hts _ (List.mem_of_getElem? (i := 4) rfl)) dX7_rightMixed_236 ?_
    refine lv_icmp_ge (tgt := 276) hx hb dX7_rightMixed_239 (by decide) (fun hc => ?_) (fun hc => ?_)
    · replace h := zt hc h
      refine lv_aload_n hx hb dX7_rightMixed_276 rfl (lv_at hl 0 rfl) ?_
      refine lv_aload_n hx hb dX7_rightMixed_277 rfl (lv_at hl 0 rfl) ?_
      refine rM_29 hx hb hwX7 hown hK hP 0 (xM) rfl rfl (hts _ (List.mem_of_getElem? (i := 4) rfl)) dX7_rightMixed_278 ?_
      obtain ⟨uM_1, hg, h⟩ := zb1_e h
      refine z_callV (As := [.int ((gI uM 29))]) (rest := []) (i := 0) ⟨hx, hb, hml, hown, hts⟩ (mX7_await l G (xM) hg) (cwV 1 hts gX7_rightMixed_X7_await rfl rfl rfl kvX7_await ⟨Nat.le_of_ble_eq_true rfl, Nat.le_of_ble_eq_true rfl⟩) rfl hP hD hK hN hS (Nat.le_refl _) [0] rfl rfl rfl rfl 0 rfl rfl rfl rfl rfl hl.1 rfl (Nat.le_of_ble_eq_true rfl) dX7_rightMixed_281 ⟨Nat.zero_le _, Nat.zero_le _⟩ (fun H locs hP hS => ?_)
      replace hP : zP G [shM G xM] [uM_1] H := hP
      refine lv_iconst (v := 1) hx hb dX7_rightMixed_284 (by decide) ?_
      cases h
      exact z_zret hx hb hr hlk rfl hP hS dX7_rightMixed_285
    · replace h := zf hc h
      refine lv_aload_n hx hb dX7_rightMixed_242 rfl (lv_at hl 0 rfl) ?_
      refine rM_30 hx hb hwX7 hown hK hP 0 (xM) rfl rfl (hts _ (List.mem_of_getElem? (i := 7) rfl)) dX7_rightMixed_243 ?_
      refine lv_iload hx hb dX7_rightMixed_246 (lv_at hl 1 rfl) ?_
      refine lv_aload_n hx hb dX7_rightMixed_248 rfl (lv_at hl 0 rfl) ?_
      refine rM_17 hx hb hwX7 hown hK hP 0 (xM) rfl rfl (hts _ (List.mem_of_getElem? (i := 6) rfl)) dX7_rightMixed_249 ?_
      refine lv_iload hx hb dX7_rightMixed_252 (lv_at hl 1 rfl) ?_
      obtain ⟨hi, h⟩ := zin_e h
      refine aM_17 hx hb hK hP 0 (xM) rfl rfl hi rfl dX7_rightMixed_254 ?_
      obtain ⟨hi, h⟩ := zin_e h
      refine tM_30 hx hb hK hP hD hS 0 (xM) rfl rfl hi rfl dX7_rightMixed_255 (fun H locs hP hS => ?_)
      replace hP : zP G [shM G xM] [(sA uM 30 l6.toNatClampNeg ((gA uM 17 l6.toNatClampNeg)))] H := hP
      refine lv_aload_n hx hb dX7_rightMixed_256 rfl (lv_at hl 0 rfl) ?_
      refine rM_31 hx hb hwX7 hown hK hP 0 (xM) rfl rfl (hts _ (List.mem_of_getElem? (i := 9) rfl)) dX7_rightMixed_257 ?_
      refine lv_iload hx hb dX7_rightMixed_260 (lv_at hl 1 rfl) ?_
      refine lv_aload_n hx hb dX7_rightMixed_262 rfl (lv_at hl 0 rfl) ?_
      refine rM_18 hx hb hwX7 hown hK hP 0 (xM) rfl rfl (hts _ (List.mem_of_getElem? (i := 8) rfl)) dX7_rightMixed_263 ?_
      refine lv_iload hx hb dX7_rightMixed_266 (lv_at hl 1 rfl) ?_
      obtain ⟨hi, h⟩ := zin_e h
      refine aM_18 hx hb hK hP 0 (xM) rfl rfl hi rfl dX7_rightMixed_268 ?_
      obtain ⟨hi, h⟩ := zin_e h
      refine tM_31 hx hb hK hP hD hS 0 (xM) rfl rfl hi rfl dX7_rightMixed_269 (fun H locs hP hS => ?_)
      replace hP : zP G [shM G xM] [(sA ((sA uM 30 l6.toNatClampNeg ((gA uM 17 l6.toNatClampNeg)))) 31 l6.toNatClampNeg ((gA ((sA uM 30 l6.toNatClampNeg ((gA uM 17 l6.toNatClampNeg)))) 18 l6.toNatClampNeg)))] H := hP
      refine lv_iinc (v := (l6 + (1 : Int32))) (lv' := [(6, .int ((l6 + (1 : Int32)))), (0, .ref (xM 0))]) hx hb dX7_rightMixed_270 hl (k := 1) rfl rfl (by decide) rfl (fun ls hl => ?_)
      refine lv_goto (tgt := 233) hx hb dX7_rightMixed_273 (by decide) ?_
      exact K233 _ _ h _ _ hP hS _ (lv_sub hl [1, 0] rfl)
set_option maxRecDepth 20000 in
theorem tlX7_rightMixed_119 (C0 : zCtx p s m args meth c cX7_rightMixed RX7 wsX7_rightMixed 9 (some .boolean)) (hK : zK G s) (hN : zN s) (hD : zD [shM G xM])  : ∀ (n : Nat), ∀ (uM : zSt) (l1 : Int32) (l4 : Int32) (l5 : Int32) (l6 : Int32), lX7_rightMixed_119  n uM l1 l4 l5 l6 = some (rr, vM) → ∀ (H : Heap) (locs : List Loc), zP G [shM G xM] [uM] H → va_S (zA [shM G xM] s.heap.size) s.heap H locs → ∀ ls : Array Slot, lv_has ls 9 [(0, .ref (xM 0)), (1, .int l1), (4, .int l4), (5, .int l5), (6, .int l6)] → W p l e rmX7_rightMixed s m args below meth c H locs 0 0 (MQ below (zQ G [shM G xM] [vM] (zA [shM G xM] s.heap.size) (some (.int rr))) args s 0 0 (zA [shM G xM] s.heap.size)) (F0 m 119 ls []) := by
  obtain ⟨hx, hb, hr, hml, hown, hts, hlk⟩ := id C0
  have hwX7 : ∀ w ∈ wsX70, w.before args s = true := fun w h => hts w (List.mem_cons_of_mem _ (List.mem_append_right _ h))
  intro n
  induction n with
  | zero => intro uM l1 l4 l5 l6 h; exact absurd h (fun q => nomatch q)
  | succ n K119 =>
    intro uM l1 l4 l5 l6 h H locs hP hS ls hl
    replace h : bX7_rightMixed_119  (lX7_rightMixed_119  n) uM l1 l4 l5 l6 = some (rr, vM) := h
    unfold bX7_rightMixed_119 at h
    refine lv_iload hx hb dX7_rightMixed_119 (lv_at hl 4 rfl) ?_
    refine lv_aload_n hx hb dX7_rightMixed_121 rfl (lv_at hl 0 rfl) ?_
    refine rM_29 hx hb hwX7 hown hK hP 0 (xM) rfl rfl (hts _ (List.mem_of_getElem? (i := 4) rfl)) dX7_rightMixed_122 ?_
    refine lv_icmp_ge (tgt := 230) hx hb dX7_rightMixed_125 (by decide) (fun hc => ?_) (fun hc => ?_)
    · replace h := zt hc h
      refine lv_iconst (v := 0) hx hb dX7_rightMixed_230 (by decide) ?_
      refine lv_istore (lv' := [(6, .int ((0 : Int32))), (0, .ref (xM 0)), (1, .int l1), (4, .int l4), (5, .int l5)]) hx hb dX7_rightMixed_231 hl (by decide) rfl (fun ls hl => ?_)
      exact tlX7_rightMixed_233 C0 hK hN hD  1000 _ _ h _ _ hP hS _ (lv_sub hl [1, 0] rfl)
    · replace h := zf hc h
      refine lv_aload_n hx hb dX7_rightMixed_128 rfl (lv_at hl 0 rfl) ?_
      refine lv_aload_n hx hb dX7_rightMixed_129 rfl (lv_at hl 0 rfl) ?_
      refine rM_29 hx hb hwX7 hown hK hP 0 (xM) rfl rfl (hts _ (List.mem_of_getElem? (i := 4) rfl)) dX7_rightMixed_130 ?_
      refine lv_iload hx hb dX7_rightMixed_133 (lv_at hl 3 rfl) ?_
      refine lv_aload_n hx hb dX7_rightMixed_135 rfl (lv_at hl 0 rfl) ?_
      refine rM_29 hx hb hwX7 hown hK hP 0 (xM) rfl rfl (hts _ (List.mem_of_getElem? (i := 4) rfl)) dX7_rightMixed_136 ?_
      refine lv_iload hx hb dX7_rightMixed_139 (lv_at hl 4 rfl) ?_
      refine lv_isub hx hb dX7_rightMixed_141 ?_
      obtain ⟨hz, h⟩ := znz_e h
      refine lv_irem hx hb dX7_rightMixed_142 hz ?_
      obtain ⟨r_2, uM_3, hg, h⟩ := zb2_e h
      refine z_callV (As := [.int ((gI uM 29)), .int ((l5 - l5 / ((gI uM 29) - l6) * ((gI uM 29) - l6)))]) (rest := []) (i := 0) ⟨hx, hb, hml, hown, hts⟩ (mX7_take l G (xM) hg) (cwV 2 hts gX7_rightMixed_X7_take rfl rfl rfl kvX7_take ⟨Nat.le_of_ble_eq_true rfl, Nat.le_of_ble_eq_true rfl⟩) rfl hP hD hK hN hS (Nat.le_refl _) [0] rfl rfl rfl rfl 0 rfl rfl rfl rfl rfl hl.1 rfl (Nat.le_of_ble_eq_true rfl) dX7_rightMixed_143 ⟨Nat.zero_le _, Nat.zero_le _⟩ (fun H locs hP hS => ?_)
      replace hP : zP G [shM G xM] [uM_3] H := hP
      refine lv_istore (lv' := [(7, .int r_2), (0, .ref (xM 0)), (1, .int l1), (4, .int l4), (5, .int l5), (6, .int l6)]) hx hb dX7_rightMixed_146 hl (by decide) rfl (fun ls hl => ?_)
      refine lv_iload hx hb dX7_rightMixed_148 (lv_at hl 4 rfl) ?_
      refine lv_aload_n hx hb dX7_rightMixed_150 rfl (lv_at hl 1 rfl) ?_
      refine rM_29 hx hb hwX7 hown hK hP 0 (xM) rfl rfl (hts _ (List.mem_of_getElem? (i := 4) rfl)) dX7_rightMixed_151 ?_
      refine lv_iload hx hb dX7_rightMixed_154 (lv_at hl 5 rfl) ?_
      refine lv_isub hx hb dX7_rightMixed_156 ?_
      obtain ⟨hz, h⟩ := znz_e h
      refine lv_idiv hx hb dX7_rightMixed_157 hz ?_
      refine lv_istore (lv' := [(5, .int ((l5 / ((gI uM_3 29) - l6)))), (7, .int r_2), (0, .ref (xM 0)), (1, .int l1), (4, .int l4), (6, .int l6)]) hx hb dX7_rightMixed_158 hl (by decide) rfl (fun ls hl => ?_)
      refine lv_aload_n hx hb dX7_rightMixed_160 rfl (lv_at hl 2 rfl) ?_
      refine lv_aload_n hx hb dX7_rightMixed_161 rfl (lv_at hl 2 rfl) ?_
      refine rM_3 hx hb hwX7 hown hK hP 0 (xM) rfl rfl (hts _ (List.mem_of_getElem? (i := 1) rfl)) dX7_rightMixed_162 ?_
      refine lv_bipush (v := 6) hx hb dX7_rightMixed_165 (by decide) ?_
      refine lv_iload_n hx hb dX7_rightMixed_167 rfl (lv_at hl 3 rfl) ?_
      refine lv_imul hx hb dX7_rightMixed_168 ?_
      obtain ⟨hi, h⟩ := zin_e h
      refine aM_3 hx hb hK hP 0 (xM) rfl rfl hi rfl dX7_rightMixed_169 ?_
      refine lv_iload hx hb dX7_rightMixed_170 (lv_at hl 5 rfl) ?_
      obtain ⟨r_4, uM_5, hg, h⟩ := zb2_e h
      refine z_callV (As := [.int ((gA uM_3 3 (((6 : Int32) * l1)).toNatClampNeg)), .int l6]) (rest := []) (i := 0) ⟨hx, hb, hml, hown, hts⟩ (mX7_digestOfTwo l G (xM) hg) (cwV 2 hts gX7_rightMixed_X7_digestOfTwo rfl rfl rfl kvX7_digestOfTwo ⟨Nat.le_of_ble_eq_true rfl, Nat.le_of_ble_eq_true rfl⟩) rfl hP hD hK hN hS (Nat.le_refl _) [0] rfl rfl rfl rfl 0 rfl rfl rfl rfl rfl hl.1 rfl (Nat.le_of_ble_eq_true rfl) dX7_rightMixed_172 ⟨Nat.zero_le _, Nat.zero_le _⟩ (fun H locs hP hS => ?_)
      replace hP : zP G [shM G xM] [uM_5] H := hP
      refine lv_istore (lv' := [(8, .int r_4), (5, .int ((l5 / ((gI uM_3 29) - l6)))), (7, .int r_2), (0, .ref (xM 0)), (1, .int l1), (4, .int l4), (6, .int l6)]) hx hb dX7_rightMixed_175 hl (by decide) rfl (fun ls hl => ?_)
      refine lv_aload_n hx hb dX7_rightMixed_177 rfl (lv_at hl 3 rfl) ?_
      refine rM_17 hx hb hwX7 hown hK hP 0 (xM) rfl rfl (hts _ (List.mem_of_getElem? (i := 6) rfl)) dX7_rightMixed_178 ?_
      refine lv_iload hx hb dX7_rightMixed_181 (lv_at hl 6 rfl) ?_
      refine lv_aload_n hx hb dX7_rightMixed_183 rfl (lv_at hl 3 rfl) ?_
      refine rM_30 hx hb hwX7 hown hK hP 0 (xM) rfl rfl (hts _ (List.mem_of_getElem? (i := 7) rfl)) dX7_rightMixed_184 ?_
      refine lv_iload hx hb dX7_rightMixed_187 (lv_at hl 2 rfl) ?_
      obtain ⟨hi, h⟩ := zin_e h
      refine aM_30 hx hb hK hP 0 (xM) rfl rfl hi rfl dX7_rightMixed_189 ?_
      refine lv_iconst (v := 4) hx hb dX7_rightMixed_190 (by decide) ?_
      refine lv_iload hx hb dX7_rightMixed_191 (lv_at hl 0 rfl) ?_
      obtain ⟨r_6, hg, h⟩ := zb1_e h
      refine z_callS (As := [.int ((4 : Int32)), .int r_4]) (rest := [.int ((gA uM_5 30 r_2.toNatClampNeg)), .int l6, .ref (xM 14)]) ⟨hx, hb, hml, hown, hts⟩ (mX7_power l G  hg) (va_cwS 2 hts gX7_rightMixed_X7_power rfl rfl rfl ksX7_power ⟨Nat.le_of_ble_eq_true rfl, Nat.le_of_ble_eq_true rfl⟩) hP hD hK hN hS (Nat.le_refl _) [] rfl rfl rfl rfl rfl hl.1 rfl (Nat.le_of_ble_eq_true rfl) dX7_rightMixed_193 ⟨Nat.zero_le _, Nat.zero_le _⟩ (fun H locs hP hS => ?_)
      replace hP : zP G [shM G xM] [uM_5] H := hP
      obtain ⟨r_7, hg, h⟩ := zb1_e h
      refine z_callS (As := [.int ((gA uM_5 30 r_2.toNatClampNeg)), .int r_6]) (rest := [.int l6, .ref (xM 14)]) ⟨hx, hb, hml, hown, hts⟩ (mX7_times l G  hg) (va_cwS 2 hts gX7_rightMixed_X7_times rfl rfl rfl ksX7_times ⟨Nat.le_of_ble_eq_true rfl, Nat.le_of_ble_eq_true rfl⟩) hP hD hK hN hS (Nat.le_refl _) [] rfl rfl rfl rfl rfl hl.1 rfl (Nat.le_of_ble_eq_true rfl) dX7_rightMixed_196 ⟨Nat.zero_le _, Nat.zero_le _⟩ (fun H locs hP hS => ?_)
      replace hP : zP G [shM G xM] [uM_5] H := hP
      obtain ⟨hi, h⟩ := zin_e h
      refine tM_17 hx hb hK hP hD hS 0 (xM) rfl rfl hi rfl dX7_rightMixed_199 (fun H locs hP hS => ?_)
      replace hP : zP G [shM G xM] [(sA uM_5 17 l6.toNatClampNeg r_7)] H := hP
      refine lv_aload_n hx hb dX7_rightMixed_200 rfl (lv_at hl 3 rfl) ?_
      refine rM_18 hx hb hwX7 hown hK hP 0 (xM) rfl rfl (hts _ (List.mem_of_getElem? (i := 8) rfl)) dX7_rightMixed_201 ?_
      refine lv_iload hx hb dX7_rightMixed_204 (lv_at hl 6 rfl) ?_
      refine lv_aload_n hx hb dX7_rightMixed_206 rfl (lv_at hl 3 rfl) ?_
      refine rM_31 hx hb hwX7 hown hK hP 0 (xM) rfl rfl (hts _ (List.mem_of_getElem? (i := 9) rfl)) dX7_rightMixed_207 ?_
      refine lv_iload hx hb dX7_rightMixed_210 (lv_at hl 2 rfl) ?_
      obtain ⟨hi, h⟩ := zin_e h
      refine aM_31 hx hb hK hP 0 (xM) rfl rfl hi rfl dX7_rightMixed_212 ?_
      refine lv_iload hx hb dX7_rightMixed_213 (lv_at hl 5 rfl) ?_
      refine lv_iload hx hb dX7_rightMixed_215 (lv_at hl 0 rfl) ?_
      obtain ⟨r_8, hg, h⟩ := zb1_e h
      refine z_callS (As := [.int l4, .int r_4]) (rest := [.int ((gA ((sA uM_5 17 l6.toNatClampNeg r_7)) 31 r_2.toNatClampNeg)), .int l6, .ref (xM 15)]) ⟨hx, hb, hml, hown, hts⟩ (mX7_power l G  hg) (va_cwS 2 hts gX7_rightMixed_X7_power rfl rfl rfl ksX7_power ⟨Nat.le_of_ble_eq_true rfl, Nat.le_of_ble_eq_true rfl⟩) hP hD hK hN hS (Nat.le_refl _) [] rfl rfl rfl rfl rfl hl.1 rfl (Nat.le_of_ble_eq_true rfl) dX7_rightMixed_217 ⟨Nat.zero_le _, Nat.zero_le _⟩ (fun H locs hP hS => ?_)
      replace hP : zP G [shM G xM] [(sA uM_5 17 l6.toNatClampNeg r_7)] H := hP
      obtain ⟨r_9, hg, h⟩ := zb1_e h
      refine z_callS (As := [.int ((gA ((sA uM_5 17 l6.toNatClampNeg r_7)) 31 r_2.toNatClampNeg)), .int r_8]) (rest := [.int l6, .ref (xM 15)]) ⟨hx, hb, hml, hown, hts⟩ (mX7_times l G  hg) (va_cwS 2 hts gX7_rightMixed_X7_times rfl rfl rfl ksX7_times ⟨Nat.le_of_ble_eq_true rfl, Nat.le_of_ble_eq_true rfl⟩) hP hD hK hN hS (Nat.le_refl _) [] rfl rfl rfl rfl rfl hl.1 rfl (Nat.le_of_ble_eq_true rfl) dX7_rightMixed_220 ⟨Nat.zero_le _, Nat.zero_le _⟩ (fun H locs hP hS => ?_)
      replace hP : zP G [shM G xM] [(sA uM_5 17 l6.toNatClampNeg r_7)] H := hP
      obtain ⟨hi, h⟩ := zin_e h
      refine tM_18 hx hb hK hP hD hS 0 (xM) rfl rfl hi rfl dX7_rightMixed_223 (fun H locs hP hS => ?_)
      replace hP : zP G [shM G xM] [(sA ((sA uM_5 17 l6.toNatClampNeg r_7)) 18 l6.toNatClampNeg r_9)] H := hP
      refine lv_iinc (v := (l6 + (1 : Int32))) (lv' := [(6, .int ((l6 + (1 : Int32)))), (8, .int r_4), (5, .int ((l5 / ((gI uM_3 29) - l6)))), (7, .int r_2), (0, .ref (xM 0)), (1, .int l1), (4, .int l4)]) hx hb dX7_rightMixed_224 hl (k := 6) rfl rfl (by decide) rfl (fun ls hl => ?_)
      refine lv_goto (tgt := 119) hx hb dX7_rightMixed_227 (by decide) ?_
      exact K119 _ _ _ _ _ h _ _ hP hS _ (lv_sub hl [4, 5, 6, 2, 0] rfl)
set_option maxRecDepth 20000 in
theorem tX7_rightMixed_44 (C0 : zCtx p s m args meth c cX7_rightMixed RX7 wsX7_rightMixed 9 (some .boolean)) (hK : zK G s) (hN : zN s) (hD : zD [shM G xM])  : ∀ (uM : zSt) (l1 : Int32) (l2 : Int32) (s0 : Int32), bX7_rightMixed_44  uM l1 l2 s0 = some (rr, vM) → ∀ (H : Heap) (locs : List Loc), zP G [shM G xM] [uM] H → va_S (zA [shM G xM] s.heap.size) s.heap H locs → ∀ ls : Array Slot, lv_has ls 9 [(0, .ref (xM 0)), (1, .int l1), (2, .int l2)] → W p l e rmX7_rightMixed s m args below meth c H locs 0 0 (MQ below (zQ G [shM G xM] [vM] (zA [shM G xM] s.heap.size) (some (.int rr))) args s 0 0 (zA [shM G xM] s.heap.size)) (F0 m 44 ls [.int s0]) := by
  obtain ⟨hx, hb, hr, hml, hown, hts, hlk⟩ := id C0
  have hwX7 : ∀ w ∈ wsX70, w.before args s = true := fun w h => hts w (List.mem_cons_of_mem _ (List.mem_append_right _ h))
  intro uM l1 l2 s0 h H locs hP hS ls hl
  unfold bX7_rightMixed_44 at h
  refine lv_istore_n (lv' := [(3, .int s0), (0, .ref (xM 0)), (1, .int l1), (2, .int l2)]) hx hb dX7_rightMixed_44 rfl hl (by decide) rfl (fun ls hl => ?_)
  refine lv_aload_n hx hb dX7_rightMixed_45 rfl (lv_at hl 1 rfl) ?_
  refine rM_26 hx hb hwX7 hown hK hP 0 (xM) rfl rfl (hts _ (List.mem_of_getElem? (i := 3) rfl)) dX7_rightMixed_46 ?_
  refine lv_iconst (v := 3) hx hb dX7_rightMixed_49 (by decide) ?_
  refine lv_icmp_ne (tgt := 81) hx hb dX7_rightMixed_50 (by decide) (fun hc => ?_) (fun hc => ?_)
  · replace h := zf hc h
    refine lv_iconst (v := 0) hx hb dX7_rightMixed_81 (by decide) ?_
    cases h
    exact z_zret hx hb hr hlk rfl hP hS dX7_rightMixed_82
  · replace h := zt hc h
    refine lv_iload_n hx hb dX7_rightMixed_53 rfl (lv_at hl 0 rfl) ?_
    refine lv_if_eq (tgt := 81) hx hb dX7_rightMixed_54 (by decide) (fun hc => ?_) (fun hc => ?_)
    · replace h := zt hc h
      refine lv_iconst (v := 0) hx hb dX7_rightMixed_81 (by decide) ?_
      cases h
      exact z_zret hx hb hr hlk rfl hP hS dX7_rightMixed_82
    · replace h := zf hc h
      refine lv_iload_n hx hb dX7_rightMixed_57 rfl (lv_at hl 3 rfl) ?_
      refine lv_if_lt (tgt := 81) hx hb dX7_rightMixed_58 (by decide) (fun hc => ?_) (fun hc => ?_)
      · replace h := zt hc h
        refine lv_iconst (v := 0) hx hb dX7_rightMixed_81 (by decide) ?_
        cases h
        exact z_zret hx hb hr hlk rfl hP hS dX7_rightMixed_82
      · replace h := zf hc h
        refine lv_iload_n hx hb dX7_rightMixed_61 rfl (lv_at hl 3 rfl) ?_
        refine lv_aload_n hx hb dX7_rightMixed_62 rfl (lv_at hl 1 rfl) ?_
        refine rM_29 hx hb hwX7 hown hK hP 0 (xM) rfl rfl (hts _ (List.mem_of_getElem? (i := 4) rfl)) dX7_rightMixed_63 ?_
        obtain ⟨r_10, hg, h⟩ := zb1_e h
        refine z_callS (As := [.int ((gI uM 29))]) (rest := [.int l2]) ⟨hx, hb, hml, hown, hts⟩ (mX7_orders l G  hg) (va_cwS 1 hts gX7_rightMixed_X7_orders rfl rfl rfl ksX7_orders ⟨Nat.le_of_ble_eq_true rfl, Nat.le_of_ble_eq_true rfl⟩) hP hD hK hN hS (Nat.le_refl _) [] rfl rfl rfl rfl rfl hl.1 rfl (Nat.le_of_ble_eq_true rfl) dX7_rightMixed_66 ⟨Nat.zero_le _, Nat.zero_le _⟩ (fun H locs hP hS => ?_)
        replace hP : zP G [shM G xM] [uM] H := hP
        refine lv_icmp_ge (tgt := 81) hx hb dX7_rightMixed_69 (by decide) (fun hc => ?_) (fun hc => ?_)
        · replace h := zt hc h
          refine lv_iconst (v := 0) hx hb dX7_rightMixed_81 (by decide) ?_
          cases h
          exact z_zret hx hb hr hlk rfl hP hS dX7_rightMixed_82
        · replace h := zf hc h
          refine lv_aload_n hx hb dX7_rightMixed_72 rfl (lv_at hl 1 rfl) ?_
          refine lv_iload_n hx hb dX7_rightMixed_73 rfl (lv_at hl 2 rfl) ?_
          refine lv_iconst (v := 2) hx hb dX7_rightMixed_74 (by decide) ?_
          obtain ⟨r_11, hg, h⟩ := zb1_e h
          refine z_callV (As := [.int l1, .int ((2 : Int32))]) (rest := []) (i := 0) ⟨hx, hb, hml, hown, hts⟩ (mX7_bare l G (xM) hg) (cwV 2 hts gX7_rightMixed_X7_bare rfl rfl rfl kvX7_bare ⟨Nat.le_of_ble_eq_true rfl, Nat.le_of_ble_eq_true rfl⟩) rfl hP hD hK hN hS (Nat.le_refl _) [0] rfl rfl rfl rfl 0 rfl rfl rfl rfl rfl hl.1 rfl (Nat.le_of_ble_eq_true rfl) dX7_rightMixed_75 ⟨Nat.zero_le _, Nat.zero_le _⟩ (fun H locs hP hS => ?_)
          replace hP : zP G [shM G xM] [uM] H := hP
          refine lv_if_ne (tgt := 83) hx hb dX7_rightMixed_78 (by decide) (fun hc => ?_) (fun hc => ?_)
          · replace h := zf hc h
            refine lv_aload_n hx hb dX7_rightMixed_83 rfl (lv_at hl 1 rfl) ?_
            refine rM_24 hx hb hwX7 hown hK hP 0 (xM) rfl rfl (hts _ (List.mem_of_getElem? (i := 5) rfl)) dX7_rightMixed_84 ?_
            refine lv_iconst (v := 0) hx hb dX7_rightMixed_87 (by decide) ?_
            refine aM_24 hx hb hK hP 0 (xM) rfl rfl (zvi tn_0 n0_0 (by decide)) tn_0 dX7_rightMixed_88 ?_
            refine lv_aload_n hx hb dX7_rightMixed_89 rfl (lv_at hl 1 rfl) ?_
            refine rM_24 hx hb hwX7 hown hK hP 0 (xM) rfl rfl (hts _ (List.mem_of_getElem? (i := 5) rfl)) dX7_rightMixed_90 ?_
            refine lv_iconst (v := 1) hx hb dX7_rightMixed_93 (by decide) ?_
            refine aM_24 hx hb hK hP 0 (xM) rfl rfl (zvi tn_1 n0_1 (by decide)) tn_1 dX7_rightMixed_94 ?_
            obtain ⟨r_12, hg, h⟩ := zb1_e h
            refine z_callS (As := [.int ((gA uM 24 0)), .int ((gA uM 24 1))]) (rest := []) ⟨hx, hb, hml, hown, hts⟩ (mX7_times l G  hg) (va_cwS 2 hts gX7_rightMixed_X7_times rfl rfl rfl ksX7_times ⟨Nat.le_of_ble_eq_true rfl, Nat.le_of_ble_eq_true rfl⟩) hP hD hK hN hS (Nat.le_refl _) [] rfl rfl rfl rfl rfl hl.1 rfl (Nat.le_of_ble_eq_true rfl) dX7_rightMixed_95 ⟨Nat.zero_le _, Nat.zero_le _⟩ (fun H locs hP hS => ?_)
            replace hP : zP G [shM G xM] [uM] H := hP
            refine lv_aload_n hx hb dX7_rightMixed_98 rfl (lv_at hl 1 rfl) ?_
            refine rM_24 hx hb hwX7 hown hK hP 0 (xM) rfl rfl (hts _ (List.mem_of_getElem? (i := 5) rfl)) dX7_rightMixed_99 ?_
            refine lv_iconst (v := 2) hx hb dX7_rightMixed_102 (by decide) ?_
            refine aM_24 hx hb hK hP 0 (xM) rfl rfl (zvi tn_2 n0_2 (by decide)) tn_2 dX7_rightMixed_103 ?_
            obtain ⟨r_13, hg, h⟩ := zb1_e h
            refine z_callS (As := [.int r_12, .int ((gA uM 24 2))]) (rest := []) ⟨hx, hb, hml, hown, hts⟩ (mX7_times l G  hg) (va_cwS 2 hts gX7_rightMixed_X7_times rfl rfl rfl ksX7_times ⟨Nat.le_of_ble_eq_true rfl, Nat.le_of_ble_eq_true rfl⟩) hP hD hK hN hS (Nat.le_refl _) [] rfl rfl rfl rfl rfl hl.1 rfl (Nat.le_of_ble_eq_true rfl) dX7_rightMixed_104 ⟨Nat.zero_le _, Nat.zero_le _⟩ (fun H locs hP hS => ?_)
            replace hP : zP G [shM G xM] [uM] H := hP
            refine lv_istore (lv' := [(4, .int r_13), (3, .int s0), (0, .ref (xM 0)), (1, .int l1), (2, .int l2)]) hx hb dX7_rightMixed_107 hl (by decide) rfl (fun ls hl => ?_)
            refine lv_aload_n hx hb dX7_rightMixed_109 rfl (lv_at hl 2 rfl) ?_
            obtain ⟨uM_14, hg, h⟩ := zb1_e h
            refine z_callV (As := []) (rest := []) (i := 0) ⟨hx, hb, hml, hown, hts⟩ (mX7_free l G (xM) hg) (cwV 0 hts gX7_rightMixed_X7_free rfl rfl rfl kvX7_free ⟨Nat.le_of_ble_eq_true rfl, Nat.le_of_ble_eq_true rfl⟩) rfl hP hD hK hN hS (Nat.le_refl _) [0] rfl rfl rfl rfl 0 rfl rfl rfl rfl rfl hl.1 rfl (Nat.le_of_ble_eq_true rfl) dX7_rightMixed_110 ⟨Nat.zero_le _, Nat.zero_le _⟩ (fun H locs hP hS => ?_)
            replace hP : zP G [shM G xM] [uM_14] H := hP
            refine lv_iload_n hx hb dX7_rightMixed_113 rfl (lv_at hl 4 rfl) ?_
            refine lv_istore (lv' := [(5, .int l2), (4, .int r_13), (3, .int s0), (0, .ref (xM 0)), (1, .int l1), (2, .int l2)]) hx hb dX7_rightMixed_114 hl (by decide) rfl (fun ls hl => ?_)
            refine lv_iconst (v := 0) hx hb dX7_rightMixed_116 (by decide) ?_
            refine lv_istore (lv' := [(6, .int ((0 : Int32))), (5, .int l2), (4, .int r_13), (3, .int s0), (0, .ref (xM 0)), (1, .int l1), (2, .int l2)]) hx hb dX7_rightMixed_117 hl (by decide) rfl (fun ls hl => ?_)
            exact tlX7_rightMixed_119 C0 hK hN hD  1000 _ _ _ _ _ h _ _ hP hS _ (lv_sub hl [4, 5, 2, 1, 0] rfl)
          · replace h := zt hc h
            refine lv_iconst (v := 0) hx hb dX7_rightMixed_81 (by decide) ?_
            cases h
            exact z_zret hx hb hr hlk rfl hP hS dX7_rightMixed_82
set_option maxRecDepth 20000 in
theorem tX7_rightMixed_43 (C0 : zCtx p s m args meth c cX7_rightMixed RX7 wsX7_rightMixed 9 (some .boolean)) (hK : zK G s) (hN : zN s) (hD : zD [shM G xM])  : ∀ (uM : zSt) (l1 : Int32) (l2 : Int32), bX7_rightMixed_43  uM l1 l2 = some (rr, vM) → ∀ (H : Heap) (locs : List Loc), zP G [shM G xM] [uM] H → va_S (zA [shM G xM] s.heap.size) s.heap H locs → ∀ ls : Array Slot, lv_has ls 9 [(0, .ref (xM 0)), (1, .int l1), (2, .int l2)] → W p l e rmX7_rightMixed s m args below meth c H locs 0 0 (MQ below (zQ G [shM G xM] [vM] (zA [shM G xM] s.heap.size) (some (.int rr))) args s 0 0 (zA [shM G xM] s.heap.size)) (F0 m 43 ls []) := by
  obtain ⟨hx, hb, hr, hml, hown, hts, hlk⟩ := id C0
  intro uM l1 l2 h H locs hP hS ls hl
  unfold bX7_rightMixed_43 at h
  refine lv_iconst (v := 0) hx hb dX7_rightMixed_43 (by decide) ?_
  exact tX7_rightMixed_44 C0 hK hN hD  _ _ _ _ h _ _ hP hS _ (lv_sub hl [0, 1, 2] rfl)
set_option maxRecDepth 20000 in
theorem mX7_rightMixed (l : Launch) (G : zG) (xM : Nat → Nat) {uM : zSt} {l1 : Int32} {rr : Int32} {vM : zSt} (h : fX7_rightMixed uM l1 = some (rr, vM)) : zC l yX7_rightMixed wsX7_rightMixed rmX7_rightMixed [.ref (xM 0), .int l1] G [shM G xM] [uM] [vM] (some (.int rr)) := by
  refine z_ofW (cc := cX7_rightMixed) (maxL := 9) (ret := some .boolean) (by decide) rfl (Nat.le_of_ble_eq_true rfl) ?_
  intro p e s m args below meth c C0 hK hN hD hP ls hl
  obtain ⟨hx, hb, hr, hml, hown, hts, hlk⟩ := id C0
  have hS : va_S (zA [shM G xM] s.heap.size) s.heap s.heap [] := va_S.rf
  replace hl : lv_has ls 9 [(0, .ref (xM 0)), (1, .int l1)] := hl
  have hwX7 : ∀ w ∈ wsX70, w.before args s = true := fun w h => hts w (List.mem_cons_of_mem _ (List.mem_append_right _ h))
  unfold fX7_rightMixed at h
  refine lv_aload_n hx hb dX7_rightMixed_0 rfl (lv_at hl 0 rfl) ?_
  refine rM_3 hx hb hwX7 hown hK hP 0 (xM) rfl rfl (hts _ (List.mem_of_getElem? (i := 1) rfl)) dX7_rightMixed_1 ?_
  refine lv_bipush (v := 6) hx hb dX7_rightMixed_4 (by decide) ?_
  refine lv_iload_n hx hb dX7_rightMixed_6 rfl (lv_at hl 1 rfl) ?_
  refine lv_imul hx hb dX7_rightMixed_7 ?_
  refine lv_iconst (v := 1) hx hb dX7_rightMixed_8 (by decide) ?_
  refine lv_iadd hx hb dX7_rightMixed_9 ?_
  obtain ⟨hi, h⟩ := zin_e h
  refine aM_3 hx hb hK hP 0 (xM) rfl rfl hi rfl dX7_rightMixed_10 ?_
  refine lv_istore_n (lv' := [(2, .int ((gA uM 3 ((((6 : Int32) * l1) + (1 : Int32))).toNatClampNeg))), (0, .ref (xM 0)), (1, .int l1)]) hx hb dX7_rightMixed_11 rfl hl (by decide) rfl (fun ls hl => ?_)
  refine lv_aload_n hx hb dX7_rightMixed_12 rfl (lv_at hl 1 rfl) ?_
  refine rM_25 hx hb hwX7 hown hK hP 0 (xM) rfl rfl (hts _ (List.mem_of_getElem? (i := 2) rfl)) dX7_rightMixed_13 ?_
  refine lv_iconst (v := 0) hx hb dX7_rightMixed_16 (by decide) ?_
  refine aM_25 hx hb hK hP 0 (xM) rfl rfl (zvi tn_0 n0_0 (by decide)) tn_0 dX7_rightMixed_17 ?_
  refine lv_if_ne (tgt := 43) hx hb dX7_rightMixed_18 (by decide) (fun hc => ?_) (fun hc => ?_)
  · replace h := zf hc h
    exact tX7_rightMixed_43 C0 hK hN hD  _ _ _ h _ _ hP hS _ (lv_sub hl [1, 2, 0] rfl)
  · replace h := zt hc h
    refine lv_aload_n hx hb dX7_rightMixed_21 rfl (lv_at hl 1 rfl) ?_
    refine rM_25 hx hb hwX7 hown hK hP 0 (xM) rfl rfl (hts _ (List.mem_of_getElem? (i := 2) rfl)) dX7_rightMixed_22 ?_
    refine lv_iconst (v := 1) hx hb dX7_rightMixed_25 (by decide) ?_
    refine aM_25 hx hb hK hP 0 (xM) rfl rfl (zvi tn_1 n0_1 (by decide)) tn_1 dX7_rightMixed_26 ?_
    refine lv_if_ne (tgt := 43) hx hb dX7_rightMixed_27 (by decide) (fun hc => ?_) (fun hc => ?_)
    · replace h := zf hc h
      exact tX7_rightMixed_43 C0 hK hN hD  _ _ _ h _ _ hP hS _ (lv_sub hl [1, 2, 0] rfl)
    · replace h := zt hc h
      refine lv_aload_n hx hb dX7_rightMixed_30 rfl (lv_at hl 1 rfl) ?_
      refine rM_25 hx hb hwX7 hown hK hP 0 (xM) rfl rfl (hts _ (List.mem_of_getElem? (i := 2) rfl)) dX7_rightMixed_31 ?_
      refine lv_iconst (v := 2) hx hb dX7_rightMixed_34 (by decide) ?_
      refine aM_25 hx hb hK hP 0 (xM) rfl rfl (zvi tn_2 n0_2 (by decide)) tn_2 dX7_rightMixed_35 ?_
      refine lv_if_ne (tgt := 43) hx hb dX7_rightMixed_36 (by decide) (fun hc => ?_) (fun hc => ?_)
      · replace h := zf hc h
        exact tX7_rightMixed_43 C0 hK hN hD  _ _ _ h _ _ hP hS _ (lv_sub hl [1, 2, 0] rfl)
      · replace h := zt hc h
        refine lv_iconst (v := 1) hx hb dX7_rightMixed_39 (by decide) ?_
        refine lv_goto (tgt := 44) hx hb dX7_rightMixed_40 (by decide) ?_
        exact tX7_rightMixed_44 C0 hK hN hD  _ _ _ _ h _ _ hP hS _ (lv_sub hl [1, 2, 0] rfl)
end
def rmX7_rightEntry : Room := { frames := 1, cells := 0, slots := 0, locals := 24 }
theorem kvX7_rightEntry : yX7_rightEntry.cls = RX7 ∧ yX7_rightEntry.cls ≠ "java/lang/invoke/MethodHandle" ∧ yX7_rightEntry.cls ≠ "java/lang/invoke/VarHandle" ∧ (parseMethodDescriptor yX7_rightEntry.desc).map (fun d => d.parameters.length) = some 1 := by decide +kernel
section
variable {p : Program} {l : Launch} {e : Env} {s : State} {m : MethodId} {args : Array Value} {below : List Frame} {meth : Method} {c : Code} {G : zG} {xM : Nat → Nat} {rr : Int32} {vM : zSt}
set_option maxRecDepth 20000 in
theorem tX7_rightEntry_90 (C0 : zCtx p s m args meth c cX7_rightEntry RX7 wsX7_rightEntry 2 (some .boolean)) (hK : zK G s) (hN : zN s) (hD : zD [shM G xM])  : ∀ (uM : zSt) (s1 : Int32), bX7_rightEntry_90  uM s1 = some (rr, vM) → ∀ (H : Heap) (locs : List Loc), zP G [shM G xM] [uM] H → va_S (zA [shM G xM] s.heap.size) s.heap H locs → ∀ ls : Array Slot, lv_has ls 2 [] → W p l e rmX7_rightEntry s m args below meth c H locs 0 0 (MQ below (zQ G [shM G xM] [vM] (zA [shM G xM] s.heap.size) (some (.int rr))) args s 0 0 (zA [shM G xM] s.heap.size)) (F0 m 90 ls [.int s1, .ref (xM 0)]) := by
  obtain ⟨hx, hb, hr, hml, hown, hts, hlk⟩ := id C0
  have hwX7 : ∀ w ∈ wsX70, w.before args s = true := fun w h => hts w (List.mem_cons_of_mem _ (List.mem_append_right _ h))
  intro uM s1 h H locs hP hS ls hl
  unfold bX7_rightEntry_90 at h
  refine pM_26 hx hb hwX7 hown hK hP hD hS 0 (xM) rfl rfl (hts _ (List.mem_of_getElem? (i := 1) rfl)) dX7_rightEntry_90 (fun H locs hP hS => ?_)
  replace hP : zP G [shM G xM] [(sI uM 26 s1)] H := hP
  refine lv_iconst (v := 1) hx hb dX7_rightEntry_93 (by decide) ?_
  cases h
  exact z_zret hx hb hr hlk rfl hP hS dX7_rightEntry_94
set_option maxRecDepth 20000 in
theorem mX7_rightEntry (l : Launch) (G : zG) (xM : Nat → Nat) {uM : zSt} {l1 : Int32} {rr : Int32} {vM : zSt} (h : fX7_rightEntry uM l1 = some (rr, vM)) : zC l yX7_rightEntry wsX7_rightEntry rmX7_rightEntry [.ref (xM 0), .int l1] G [shM G xM] [uM] [vM] (some (.int rr)) := by
  refine z_ofW (cc := cX7_rightEntry) (maxL := 2) (ret := some .boolean) (by decide) rfl (Nat.le_of_ble_eq_true rfl) ?_
  intro p e s m args below meth c C0 hK hN hD hP ls hl
  obtain ⟨hx, hb, hr, hml, hown, hts, hlk⟩ := id C0
  have hS : va_S (zA [shM G xM] s.heap.size) s.heap s.heap [] := va_S.rf
  replace hl : lv_has ls 2 [(0, .ref (xM 0)), (1, .int l1)] := hl
  have hwX7 : ∀ w ∈ wsX70, w.before args s = true := fun w h => hts w (List.mem_cons_of_mem _ (List.mem_append_right _ h))
  unfold fX7_rightEntry at h
  refine lv_aload_n hx hb dX7_rightEntry_0 rfl (lv_at hl 0 rfl) ?_
  refine rM_26 hx hb hwX7 hown hK hP 0 (xM) rfl rfl (hts _ (List.mem_of_getElem? (i := 1) rfl)) dX7_rightEntry_1 ?_
  refine lv_iconst (v := 2) hx hb dX7_rightEntry_4 (by decide) ?_
  refine lv_icmp_ne (tgt := 61) hx hb dX7_rightEntry_5 (by decide) (fun hc => ?_) (fun hc => ?_)
  · replace h := zf hc h
    refine lv_iconst (v := 0) hx hb dX7_rightEntry_61 (by decide) ?_
    cases h
    exact z_zret hx hb hr hlk rfl hP hS dX7_rightEntry_62
  · replace h := zt hc h
    refine lv_aload_n hx hb dX7_rightEntry_8 rfl (lv_at hl 0 rfl) ?_
    refine rM_3 hx hb hwX7 hown hK hP 0 (xM) rfl rfl (hts _ (List.mem_of_getElem? (i := 2) rfl)) dX7_rightEntry_9 ?_
    refine lv_bipush (v := 6) hx hb dX7_rightEntry_12 (by decide) ?_
    refine lv_iload_n hx hb dX7_rightEntry_14 rfl (lv_at hl 1 rfl) ?_
    refine lv_imul hx hb dX7_rightEntry_15 ?_
    obtain ⟨hi, h⟩ := zin_e h
    refine aM_3 hx hb hK hP 0 (xM) rfl rfl hi rfl dX7_rightEntry_16 ?_
    refine lv_aload_n hx hb dX7_rightEntry_17 rfl (lv_at hl 0 rfl) ?_
    refine rM_30 hx hb hwX7 hown hK hP 0 (xM) rfl rfl (hts _ (List.mem_of_getElem? (i := 3) rfl)) dX7_rightEntry_18 ?_
    refine lv_aload_n hx hb dX7_rightEntry_21 rfl (lv_at hl 0 rfl) ?_
    refine rM_27 hx hb hwX7 hown hK hP 0 (xM) rfl rfl (hts _ (List.mem_of_getElem? (i := 4) rfl)) dX7_rightEntry_22 ?_
    obtain ⟨hi, h⟩ := zin_e h
    refine aM_30 hx hb hK hP 0 (xM) rfl rfl hi rfl dX7_rightEntry_25 ?_
    refine lv_icmp_ne (tgt := 61) hx hb dX7_rightEntry_26 (by decide) (fun hc => ?_) (fun hc => ?_)
    · replace h := zf hc h
      refine lv_iconst (v := 0) hx hb dX7_rightEntry_61 (by decide) ?_
      cases h
      exact z_zret hx hb hr hlk rfl hP hS dX7_rightEntry_62
    · replace h := zt hc h
      refine lv_aload_n hx hb dX7_rightEntry_29 rfl (lv_at hl 0 rfl) ?_
      refine rM_3 hx hb hwX7 hown hK hP 0 (xM) rfl rfl (hts _ (List.mem_of_getElem? (i := 2) rfl)) dX7_rightEntry_30 ?_
      refine lv_bipush (v := 6) hx hb dX7_rightEntry_33 (by decide) ?_
      refine lv_iload_n hx hb dX7_rightEntry_35 rfl (lv_at hl 1 rfl) ?_
      refine lv_imul hx hb dX7_rightEntry_36 ?_
      refine lv_iconst (v := 1) hx hb dX7_rightEntry_37 (by decide) ?_
      refine lv_iadd hx hb dX7_rightEntry_38 ?_
      obtain ⟨hi, h⟩ := zin_e h
      refine aM_3 hx hb hK hP 0 (xM) rfl rfl hi rfl dX7_rightEntry_39 ?_
      refine lv_aload_n hx hb dX7_rightEntry_40 rfl (lv_at hl 0 rfl) ?_
      refine rM_31 hx hb hwX7 hown hK hP 0 (xM) rfl rfl (hts _ (List.mem_of_getElem? (i := 5) rfl)) dX7_rightEntry_41 ?_
      refine lv_aload_n hx hb dX7_rightEntry_44 rfl (lv_at hl 0 rfl) ?_
      refine rM_27 hx hb hwX7 hown hK hP 0 (xM) rfl rfl (hts _ (List.mem_of_getElem? (i := 4) rfl)) dX7_rightEntry_45 ?_
      obtain ⟨hi, h⟩ := zin_e h
      refine aM_31 hx hb hK hP 0 (xM) rfl rfl hi rfl dX7_rightEntry_48 ?_
      refine lv_icmp_ne (tgt := 61) hx hb dX7_rightEntry_49 (by decide) (fun hc => ?_) (fun hc => ?_)
      · replace h := zf hc h
        refine lv_iconst (v := 0) hx hb dX7_rightEntry_61 (by decide) ?_
        cases h
        exact z_zret hx hb hr hlk rfl hP hS dX7_rightEntry_62
      · replace h := zt hc h
        refine lv_aload_n hx hb dX7_rightEntry_52 rfl (lv_at hl 0 rfl) ?_
        refine lv_iload_n hx hb dX7_rightEntry_53 rfl (lv_at hl 1 rfl) ?_
        refine lv_iconst (v := 2) hx hb dX7_rightEntry_54 (by decide) ?_
        obtain ⟨r_1, hg, h⟩ := zb1_e h
        refine z_callV (As := [.int l1, .int ((2 : Int32))]) (rest := []) (i := 0) ⟨hx, hb, hml, hown, hts⟩ (mX7_bare l G (xM) hg) (cwV 2 hts gX7_rightEntry_X7_bare rfl rfl rfl kvX7_bare ⟨Nat.le_of_ble_eq_true rfl, Nat.le_of_ble_eq_true rfl⟩) rfl hP hD hK hN hS (Nat.le_refl _) [0] rfl rfl rfl rfl 0 rfl rfl rfl rfl rfl hl.1 rfl (Nat.le_of_ble_eq_true rfl) dX7_rightEntry_55 ⟨Nat.zero_le _, Nat.zero_le _⟩ (fun H locs hP hS => ?_)
        replace hP : zP G [shM G xM] [uM] H := hP
        refine lv_if_ne (tgt := 63) hx hb dX7_rightEntry_58 (by decide) (fun hc => ?_) (fun hc => ?_)
        · replace h := zf hc h
          refine lv_aload_n hx hb dX7_rightEntry_63 rfl (lv_at hl 0 rfl) ?_
          refine lv_dup hx hb dX7_rightEntry_64 rfl ?_
          refine rM_27 hx hb hwX7 hown hK hP 0 (xM) rfl rfl (hts _ (List.mem_of_getElem? (i := 4) rfl)) dX7_rightEntry_65 ?_
          refine lv_iconst (v := 1) hx hb dX7_rightEntry_68 (by decide) ?_
          refine lv_iadd hx hb dX7_rightEntry_69 ?_
          refine pM_27 hx hb hwX7 hown hK hP hD hS 0 (xM) rfl rfl (hts _ (List.mem_of_getElem? (i := 4) rfl)) dX7_rightEntry_70 (fun H locs hP hS => ?_)
          replace hP : zP G [shM G xM] [(sI uM 27 (((gI uM 27) + (1 : Int32))))] H := hP
          refine lv_aload_n hx hb dX7_rightEntry_73 rfl (lv_at hl 0 rfl) ?_
          refine lv_aload_n hx hb dX7_rightEntry_74 rfl (lv_at hl 0 rfl) ?_
          refine rM_27 hx hb hwX7 hown hK hP 0 (xM) rfl rfl (hts _ (List.mem_of_getElem? (i := 4) rfl)) dX7_rightEntry_75 ?_
          refine lv_aload_n hx hb dX7_rightEntry_78 rfl (lv_at hl 0 rfl) ?_
          refine rM_29 hx hb hwX7 hown hK hP 0 (xM) rfl rfl (hts _ (List.mem_of_getElem? (i := 6) rfl)) dX7_rightEntry_79 ?_
          refine lv_icmp_ne (tgt := 89) hx hb dX7_rightEntry_82 (by decide) (fun hc => ?_) (fun hc => ?_)
          · replace h := zf hc h
            refine lv_iconst (v := 2) hx hb dX7_rightEntry_89 (by decide) ?_
            exact tX7_rightEntry_90 C0 hK hN hD  _ _ h _ _ hP hS _ (lv_sub hl [] rfl)
          · replace h := zt hc h
            refine lv_iconst (v := 3) hx hb dX7_rightEntry_85 (by decide) ?_
            refine lv_goto (tgt := 90) hx hb dX7_rightEntry_86 (by decide) ?_
            exact tX7_rightEntry_90 C0 hK hN hD  _ _ h _ _ hP hS _ (lv_sub hl [] rfl)
        · replace h := zt hc h
          refine lv_iconst (v := 0) hx hb dX7_rightEntry_61 (by decide) ?_
          cases h
          exact z_zret hx hb hr hlk rfl hP hS dX7_rightEntry_62
end
def rmX7_rightShare : Room := { frames := 3, cells := 0, slots := 0, locals := 65 }
theorem kvX7_rightShare : yX7_rightShare.cls = RX7 ∧ yX7_rightShare.cls ≠ "java/lang/invoke/MethodHandle" ∧ yX7_rightShare.cls ≠ "java/lang/invoke/VarHandle" ∧ (parseMethodDescriptor yX7_rightShare.desc).map (fun d => d.parameters.length) = some 1 := by decide +kernel
section
variable {p : Program} {l : Launch} {e : Env} {s : State} {m : MethodId} {args : Array Value} {below : List Frame} {meth : Method} {c : Code} {G : zG} {xM : Nat → Nat} {rr : Int32} {vM : zSt}
set_option maxRecDepth 20000 in
theorem tX7_rightShare_330 (C0 : zCtx p s m args meth c cX7_rightShare RX7 wsX7_rightShare 10 (some .boolean)) (hK : zK G s) (hN : zN s) (hD : zD [shM G xM])  : ∀ (uM : zSt) (s1 : Int32), bX7_rightShare_330  uM s1 = some (rr, vM) → ∀ (H : Heap) (locs : List Loc), zP G [shM G xM] [uM] H → va_S (zA [shM G xM] s.heap.size) s.heap H locs → ∀ ls : Array Slot, lv_has ls 10 [] → W p l e rmX7_rightShare s m args below meth c H locs 0 0 (MQ below (zQ G [shM G xM] [vM] (zA [shM G xM] s.heap.size) (some (.int rr))) args s 0 0 (zA [shM G xM] s.heap.size)) (F0 m 330 ls [.int s1, .ref (xM 0)]) := by
  obtain ⟨hx, hb, hr, hml, hown, hts, hlk⟩ := id C0
  have hwX7 : ∀ w ∈ wsX70, w.before args s = true := fun w h => hts w (List.mem_cons_of_mem _ (List.mem_append_right _ h))
  intro uM s1 h H locs hP hS ls hl
  unfold bX7_rightShare_330 at h
  refine pM_26 hx hb hwX7 hown hK hP hD hS 0 (xM) rfl rfl (hts _ (List.mem_of_getElem? (i := 2) rfl)) dX7_rightShare_330 (fun H locs hP hS => ?_)
  replace hP : zP G [shM G xM] [(sI uM 26 s1)] H := hP
  refine lv_iconst (v := 1) hx hb dX7_rightShare_333 (by decide) ?_
  cases h
  exact z_zret hx hb hr hlk rfl hP hS dX7_rightShare_334
set_option maxRecDepth 20000 in
theorem tX7_rightShare_314 (C0 : zCtx p s m args meth c cX7_rightShare RX7 wsX7_rightShare 10 (some .boolean)) (hK : zK G s) (hN : zN s) (hD : zD [shM G xM])  : ∀ (uM : zSt) (l2 : Int32) (s1 : Int32) (s2 : Int32), bX7_rightShare_314  uM l2 s1 s2 = some (rr, vM) → ∀ (H : Heap) (locs : List Loc), zP G [shM G xM] [uM] H → va_S (zA [shM G xM] s.heap.size) s.heap H locs → ∀ ls : Array Slot, lv_has ls 10 [(0, .ref (xM 0)), (2, .int l2)] → W p l e rmX7_rightShare s m args below meth c H locs 0 0 (MQ below (zQ G [shM G xM] [vM] (zA [shM G xM] s.heap.size) (some (.int rr))) args s 0 0 (zA [shM G xM] s.heap.size)) (F0 m 314 ls [.int s2, .int s1, .ref (xM 22)]) := by
  obtain ⟨hx, hb, hr, hml, hown, hts, hlk⟩ := id C0
  have hwX7 : ∀ w ∈ wsX70, w.before args s = true := fun w h => hts w (List.mem_cons_of_mem _ (List.mem_append_right _ h))
  intro uM l2 s1 s2 h H locs hP hS ls hl
  unfold bX7_rightShare_314 at h
  obtain ⟨hi, h⟩ := zin_e h
  refine tM_25 hx hb hK hP hD hS 0 (xM) rfl rfl hi rfl rfl dX7_rightShare_314 (fun H locs hP hS => ?_)
  replace hP : zP G [shM G xM] [(sA uM 25 s1.toNatClampNeg ((vp_nar .boolean s2)))] H := hP
  refine lv_aload_n hx hb dX7_rightShare_315 rfl (lv_at hl 0 rfl) ?_
  refine lv_aload_n hx hb dX7_rightShare_316 rfl (lv_at hl 0 rfl) ?_
  refine rM_25 hx hb hwX7 hown hK hP 0 (xM) rfl rfl (hts _ (List.mem_of_getElem? (i := 5) rfl)) dX7_rightShare_317 ?_
  refine lv_iload_n hx hb dX7_rightShare_320 rfl (lv_at hl 1 rfl) ?_
  obtain ⟨hi, h⟩ := zin_e h
  refine aM_25 hx hb hK hP 0 (xM) rfl rfl hi rfl dX7_rightShare_321 ?_
  refine lv_if_eq (tgt := 329) hx hb dX7_rightShare_322 (by decide) (fun hc => ?_) (fun hc => ?_)
  · replace h := zt hc h
    refine lv_iconst (v := 4) hx hb dX7_rightShare_329 (by decide) ?_
    exact tX7_rightShare_330 C0 hK hN hD  _ _ h _ _ hP hS _ (lv_sub hl [] rfl)
  · replace h := zf hc h
    refine lv_iconst (v := 3) hx hb dX7_rightShare_325 (by decide) ?_
    refine lv_goto (tgt := 330) hx hb dX7_rightShare_326 (by decide) ?_
    exact tX7_rightShare_330 C0 hK hN hD  _ _ h _ _ hP hS _ (lv_sub hl [] rfl)
set_option maxRecDepth 20000 in
theorem tX7_rightShare_81 (C0 : zCtx p s m args meth c cX7_rightShare RX7 wsX7_rightShare 10 (some .boolean)) (hK : zK G s) (hN : zN s) (hD : zD [shM G xM])  : ∀ (uM : zSt) (l1 : Int32) (l2 : Int32) (l3 : Int32) (s0 : Int32), bX7_rightShare_81  uM l1 l2 l3 s0 = some (rr, vM) → ∀ (H : Heap) (locs : List Loc), zP G [shM G xM] [uM] H → va_S (zA [shM G xM] s.heap.size) s.heap H locs → ∀ ls : Array Slot, lv_has ls 10 [(0, .ref (xM 0)), (1, .int l1), (2, .int l2), (3, .int l3)] → W p l e rmX7_rightShare s m args below meth c H locs 0 0 (MQ below (zQ G [shM G xM] [vM] (zA [shM G xM] s.heap.size) (some (.int rr))) args s 0 0 (zA [shM G xM] s.heap.size)) (F0 m 81 ls [.int s0]) := by
  obtain ⟨hx, hb, hr, hml, hown, hts, hlk⟩ := id C0
  have hwX7 : ∀ w ∈ wsX70, w.before args s = true := fun w h => hts w (List.mem_cons_of_mem _ (List.mem_append_right _ h))
  intro uM l1 l2 l3 s0 h H locs hP hS ls hl
  unfold bX7_rightShare_81 at h
  refine lv_istore (lv' := [(4, .int s0), (0, .ref (xM 0)), (1, .int l1), (2, .int l2), (3, .int l3)]) hx hb dX7_rightShare_81 hl (by decide) rfl (fun ls hl => ?_)
  refine lv_iload hx hb dX7_rightShare_83 (lv_at hl 0 rfl) ?_
  refine lv_if_eq (tgt := 103) hx hb dX7_rightShare_85 (by decide) (fun hc => ?_) (fun hc => ?_)
  · replace h := zt hc h
    refine lv_iconst (v := 0) hx hb dX7_rightShare_103 (by decide) ?_
    cases h
    exact z_zret hx hb hr hlk rfl hP hS dX7_rightShare_104
  · replace h := zf hc h
    refine lv_aload_n hx hb dX7_rightShare_88 rfl (lv_at hl 1 rfl) ?_
    refine rM_3 hx hb hwX7 hown hK hP 0 (xM) rfl rfl (hts _ (List.mem_of_getElem? (i := 1) rfl)) dX7_rightShare_89 ?_
    refine lv_bipush (v := 6) hx hb dX7_rightShare_92 (by decide) ?_
    refine lv_iload_n hx hb dX7_rightShare_94 rfl (lv_at hl 2 rfl) ?_
    refine lv_imul hx hb dX7_rightShare_95 ?_
    refine lv_iconst (v := 1) hx hb dX7_rightShare_96 (by decide) ?_
    refine lv_iadd hx hb dX7_rightShare_97 ?_
    obtain ⟨hi, h⟩ := zin_e h
    refine aM_3 hx hb hK hP 0 (xM) rfl rfl hi rfl dX7_rightShare_98 ?_
    refine lv_iload_n hx hb dX7_rightShare_99 rfl (lv_at hl 4 rfl) ?_
    refine lv_icmp_eq (tgt := 105) hx hb dX7_rightShare_100 (by decide) (fun hc => ?_) (fun hc => ?_)
    · replace h := zt hc h
      refine lv_aload_n hx hb dX7_rightShare_105 rfl (lv_at hl 1 rfl) ?_
      refine rM_3 hx hb hwX7 hown hK hP 0 (xM) rfl rfl (hts _ (List.mem_of_getElem? (i := 1) rfl)) dX7_rightShare_106 ?_
      refine lv_bipush (v := 6) hx hb dX7_rightShare_109 (by decide) ?_
      refine lv_iload_n hx hb dX7_rightShare_111 rfl (lv_at hl 2 rfl) ?_
      refine lv_imul hx hb dX7_rightShare_112 ?_
      refine lv_iconst (v := 2) hx hb dX7_rightShare_113 (by decide) ?_
      refine lv_iadd hx hb dX7_rightShare_114 ?_
      obtain ⟨hi, h⟩ := zin_e h
      refine aM_3 hx hb hK hP 0 (xM) rfl rfl hi rfl dX7_rightShare_115 ?_
      refine lv_istore (lv' := [(5, .int ((gA uM 3 ((((6 : Int32) * l1) + (2 : Int32))).toNatClampNeg))), (4, .int s0), (0, .ref (xM 0)), (1, .int l1), (2, .int l2), (3, .int l3)]) hx hb dX7_rightShare_116 hl (by decide) rfl (fun ls hl => ?_)
      refine lv_aload_n hx hb dX7_rightShare_118 rfl (lv_at hl 2 rfl) ?_
      refine rM_3 hx hb hwX7 hown hK hP 0 (xM) rfl rfl (hts _ (List.mem_of_getElem? (i := 1) rfl)) dX7_rightShare_119 ?_
      refine lv_bipush (v := 6) hx hb dX7_rightShare_122 (by decide) ?_
      refine lv_iload_n hx hb dX7_rightShare_124 rfl (lv_at hl 3 rfl) ?_
      refine lv_imul hx hb dX7_rightShare_125 ?_
      refine lv_iconst (v := 3) hx hb dX7_rightShare_126 (by decide) ?_
      refine lv_iadd hx hb dX7_rightShare_127 ?_
      obtain ⟨hi, h⟩ := zin_e h
      refine aM_3 hx hb hK hP 0 (xM) rfl rfl hi rfl dX7_rightShare_128 ?_
      refine lv_istore (lv' := [(6, .int ((gA uM 3 ((((6 : Int32) * l1) + (3 : Int32))).toNatClampNeg))), (5, .int ((gA uM 3 ((((6 : Int32) * l1) + (2 : Int32))).toNatClampNeg))), (4, .int s0), (0, .ref (xM 0)), (1, .int l1), (2, .int l2), (3, .int l3)]) hx hb dX7_rightShare_129 hl (by decide) rfl (fun ls hl => ?_)
      refine lv_aload_n hx hb dX7_rightShare_131 rfl (lv_at hl 3 rfl) ?_
      refine rM_3 hx hb hwX7 hown hK hP 0 (xM) rfl rfl (hts _ (List.mem_of_getElem? (i := 1) rfl)) dX7_rightShare_132 ?_
      refine lv_bipush (v := 6) hx hb dX7_rightShare_135 (by decide) ?_
      refine lv_iload_n hx hb dX7_rightShare_137 rfl (lv_at hl 4 rfl) ?_
      refine lv_imul hx hb dX7_rightShare_138 ?_
      refine lv_iconst (v := 4) hx hb dX7_rightShare_139 (by decide) ?_
      refine lv_iadd hx hb dX7_rightShare_140 ?_
      obtain ⟨hi, h⟩ := zin_e h
      refine aM_3 hx hb hK hP 0 (xM) rfl rfl hi rfl dX7_rightShare_141 ?_
      refine lv_istore (lv' := [(7, .int ((gA uM 3 ((((6 : Int32) * l1) + (4 : Int32))).toNatClampNeg))), (6, .int ((gA uM 3 ((((6 : Int32) * l1) + (3 : Int32))).toNatClampNeg))), (5, .int ((gA uM 3 ((((6 : Int32) * l1) + (2 : Int32))).toNatClampNeg))), (4, .int s0), (0, .ref (xM 0)), (1, .int l1), (2, .int l2), (3, .int l3)]) hx hb dX7_rightShare_142 hl (by decide) rfl (fun ls hl => ?_)
      refine lv_aload_n hx hb dX7_rightShare_144 rfl (lv_at hl 4 rfl) ?_
      refine rM_3 hx hb hwX7 hown hK hP 0 (xM) rfl rfl (hts _ (List.mem_of_getElem? (i := 1) rfl)) dX7_rightShare_145 ?_
      refine lv_bipush (v := 6) hx hb dX7_rightShare_148 (by decide) ?_
      refine lv_iload_n hx hb dX7_rightShare_150 rfl (lv_at hl 5 rfl) ?_
      refine lv_imul hx hb dX7_rightShare_151 ?_
      refine lv_iconst (v := 5) hx hb dX7_rightShare_152 (by decide) ?_
      refine lv_iadd hx hb dX7_rightShare_153 ?_
      obtain ⟨hi, h⟩ := zin_e h
      refine aM_3 hx hb hK hP 0 (xM) rfl rfl hi rfl dX7_rightShare_154 ?_
      refine lv_istore (lv' := [(8, .int ((gA uM 3 ((((6 : Int32) * l1) + (5 : Int32))).toNatClampNeg))), (7, .int ((gA uM 3 ((((6 : Int32) * l1) + (4 : Int32))).toNatClampNeg))), (6, .int ((gA uM 3 ((((6 : Int32) * l1) + (3 : Int32))).toNatClampNeg))), (5, .int ((gA uM 3 ((((6 : Int32) * l1) + (2 : Int32))).toNatClampNeg))), (4, .int s0), (0, .ref (xM 0)), (1, .int l1), (2, .int l2), (3, .int l3)]) hx hb dX7_rightShare_155 hl (by decide) rfl (fun ls hl => ?_)
      refine lv_iload hx hb dX7_rightShare_157 (lv_at hl 3 rfl) ?_
      obtain ⟨r_1, hg, h⟩ := zb1_e h
      refine z_callS (As := [.int ((gA uM 3 ((((6 : Int32) * l1) + (2 : Int32))).toNatClampNeg))]) (rest := []) ⟨hx, hb, hml, hown, hts⟩ (mX7_isElement l G  hg) (va_cwS 1 hts gX7_rightShare_X7_isElement rfl rfl rfl ksX7_isElement ⟨Nat.le_of_ble_eq_true rfl, Nat.le_of_ble_eq_true rfl⟩) hP hD hK hN hS (Nat.le_refl _) [] rfl rfl rfl rfl rfl hl.1 rfl (Nat.le_of_ble_eq_true rfl) dX7_rightShare_159 ⟨Nat.zero_le _, Nat.zero_le _⟩ (fun H locs hP hS => ?_)
      replace hP : zP G [shM G xM] [uM] H := hP
      refine lv_if_eq (tgt := 189) hx hb dX7_rightShare_162 (by decide) (fun hc => ?_) (fun hc => ?_)
      · replace h := zt hc h
        refine lv_iconst (v := 0) hx hb dX7_rightShare_189 (by decide) ?_
        cases h
        exact z_zret hx hb hr hlk rfl hP hS dX7_rightShare_190
      · replace h := zf hc h
        refine lv_iload hx hb dX7_rightShare_165 (lv_at hl 2 rfl) ?_
        obtain ⟨r_2, hg, h⟩ := zb1_e h
        refine z_callS (As := [.int ((gA uM 3 ((((6 : Int32) * l1) + (3 : Int32))).toNatClampNeg))]) (rest := []) ⟨hx, hb, hml, hown, hts⟩ (mX7_isNumber l G  hg) (va_cwS 1 hts gX7_rightShare_X7_isNumber rfl rfl rfl ksX7_isNumber ⟨Nat.le_of_ble_eq_true rfl, Nat.le_of_ble_eq_true rfl⟩) hP hD hK hN hS (Nat.le_refl _) [] rfl rfl rfl rfl rfl hl.1 rfl (Nat.le_of_ble_eq_true rfl) dX7_rightShare_167 ⟨Nat.zero_le _, Nat.zero_le _⟩ (fun H locs hP hS => ?_)
        replace hP : zP G [shM G xM] [uM] H := hP
        refine lv_if_eq (tgt := 189) hx hb dX7_rightShare_170 (by decide) (fun hc => ?_) (fun hc => ?_)
        · replace h := zt hc h
          refine lv_iconst (v := 0) hx hb dX7_rightShare_189 (by decide) ?_
          cases h
          exact z_zret hx hb hr hlk rfl hP hS dX7_rightShare_190
        · replace h := zf hc h
          refine lv_iload hx hb dX7_rightShare_173 (lv_at hl 1 rfl) ?_
          obtain ⟨r_3, hg, h⟩ := zb1_e h
          refine z_callS (As := [.int ((gA uM 3 ((((6 : Int32) * l1) + (4 : Int32))).toNatClampNeg))]) (rest := []) ⟨hx, hb, hml, hown, hts⟩ (mX7_isElement l G  hg) (va_cwS 1 hts gX7_rightShare_X7_isElement rfl rfl rfl ksX7_isElement ⟨Nat.le_of_ble_eq_true rfl, Nat.le_of_ble_eq_true rfl⟩) hP hD hK hN hS (Nat.le_refl _) [] rfl rfl rfl rfl rfl hl.1 rfl (Nat.le_of_ble_eq_true rfl) dX7_rightShare_175 ⟨Nat.zero_le _, Nat.zero_le _⟩ (fun H locs hP hS => ?_)
          replace hP : zP G [shM G xM] [uM] H := hP
          refine lv_if_eq (tgt := 189) hx hb dX7_rightShare_178 (by decide) (fun hc => ?_) (fun hc => ?_)
          · replace h := zt hc h
            refine lv_iconst (v := 0) hx hb dX7_rightShare_189 (by decide) ?_
            cases h
            exact z_zret hx hb hr hlk rfl hP hS dX7_rightShare_190
          · replace h := zf hc h
            refine lv_iload hx hb dX7_rightShare_181 (lv_at hl 0 rfl) ?_
            obtain ⟨r_4, hg, h⟩ := zb1_e h
            refine z_callS (As := [.int ((gA uM 3 ((((6 : Int32) * l1) + (5 : Int32))).toNatClampNeg))]) (rest := []) ⟨hx, hb, hml, hown, hts⟩ (mX7_isElement l G  hg) (va_cwS 1 hts gX7_rightShare_X7_isElement rfl rfl rfl ksX7_isElement ⟨Nat.le_of_ble_eq_true rfl, Nat.le_of_ble_eq_true rfl⟩) hP hD hK hN hS (Nat.le_refl _) [] rfl rfl rfl rfl rfl hl.1 rfl (Nat.le_of_ble_eq_true rfl) dX7_rightShare_183 ⟨Nat.zero_le _, Nat.zero_le _⟩ (fun H locs hP hS => ?_)
            replace hP : zP G [shM G xM] [uM] H := hP
            refine lv_if_ne (tgt := 191) hx hb dX7_rightShare_186 (by decide) (fun hc => ?_) (fun hc => ?_)
            · replace h := zf hc h
              refine lv_aload_n hx hb dX7_rightShare_191 rfl (lv_at hl 5 rfl) ?_
              refine lv_aload_n hx hb dX7_rightShare_192 rfl (lv_at hl 5 rfl) ?_
              refine rM_24 hx hb hwX7 hown hK hP 0 (xM) rfl rfl (hts _ (List.mem_of_getElem? (i := 7) rfl)) dX7_rightShare_193 ?_
              refine lv_iload_n hx hb dX7_rightShare_196 rfl (lv_at hl 7 rfl) ?_
              obtain ⟨hi, h⟩ := zin_e h
              refine aM_24 hx hb hK hP 0 (xM) rfl rfl hi rfl dX7_rightShare_197 ?_
              refine lv_aload_n hx hb dX7_rightShare_198 rfl (lv_at hl 5 rfl) ?_
              refine rM_30 hx hb hwX7 hown hK hP 0 (xM) rfl rfl (hts _ (List.mem_of_getElem? (i := 8) rfl)) dX7_rightShare_199 ?_
              refine lv_iload_n hx hb dX7_rightShare_202 rfl (lv_at hl 8 rfl) ?_
              obtain ⟨hi, h⟩ := zin_e h
              refine aM_30 hx hb hK hP 0 (xM) rfl rfl hi rfl dX7_rightShare_203 ?_
              refine lv_iload hx hb dX7_rightShare_204 (lv_at hl 3 rfl) ?_
              refine lv_iload hx hb dX7_rightShare_206 (lv_at hl 1 rfl) ?_
              refine lv_iload hx hb dX7_rightShare_208 (lv_at hl 0 rfl) ?_
              obtain ⟨r_5, uM_6, hg, h⟩ := zb2_e h
              refine z_callV (As := [.int ((gA uM 24 l2.toNatClampNeg)), .int ((gA uM 30 l3.toNatClampNeg)), .int ((gA uM 3 ((((6 : Int32) * l1) + (2 : Int32))).toNatClampNeg)), .int ((gA uM 3 ((((6 : Int32) * l1) + (4 : Int32))).toNatClampNeg)), .int ((gA uM 3 ((((6 : Int32) * l1) + (5 : Int32))).toNatClampNeg))]) (rest := []) (i := 0) ⟨hx, hb, hml, hown, hts⟩ (mX7_digestOfFive l G (xM) hg) (cwV 5 hts gX7_rightShare_X7_digestOfFive rfl rfl rfl kvX7_digestOfFive ⟨Nat.le_of_ble_eq_true rfl, Nat.le_of_ble_eq_true rfl⟩) rfl hP hD hK hN hS (Nat.le_refl _) [0] rfl rfl rfl rfl 0 rfl rfl rfl rfl rfl hl.1 rfl (Nat.le_of_ble_eq_true rfl) dX7_rightShare_210 ⟨Nat.zero_le _, Nat.zero_le _⟩ (fun H locs hP hS => ?_)
              replace hP : zP G [shM G xM] [uM_6] H := hP
              refine lv_istore (lv' := [(9, .int r_5), (8, .int ((gA uM 3 ((((6 : Int32) * l1) + (5 : Int32))).toNatClampNeg))), (7, .int ((gA uM 3 ((((6 : Int32) * l1) + (4 : Int32))).toNatClampNeg))), (6, .int ((gA uM 3 ((((6 : Int32) * l1) + (3 : Int32))).toNatClampNeg))), (5, .int ((gA uM 3 ((((6 : Int32) * l1) + (2 : Int32))).toNatClampNeg))), (4, .int s0), (0, .ref (xM 0)), (1, .int l1), (2, .int l2), (3, .int l3)]) hx hb dX7_rightShare_213 hl (by decide) rfl (fun ls hl => ?_)
              refine lv_iconst (v := 4) hx hb dX7_rightShare_215 (by decide) ?_
              refine lv_iload hx hb dX7_rightShare_216 (lv_at hl 3 rfl) ?_
              obtain ⟨r_7, hg, h⟩ := zb1_e h
              refine z_callS (As := [.int ((4 : Int32)), .int ((gA uM 3 ((((6 : Int32) * l1) + (3 : Int32))).toNatClampNeg))]) (rest := []) ⟨hx, hb, hml, hown, hts⟩ (mX7_power l G  hg) (va_cwS 2 hts gX7_rightShare_X7_power rfl rfl rfl ksX7_power ⟨Nat.le_of_ble_eq_true rfl, Nat.le_of_ble_eq_true rfl⟩) hP hD hK hN hS (Nat.le_refl _) [] rfl rfl rfl rfl rfl hl.1 rfl (Nat.le_of_ble_eq_true rfl) dX7_rightShare_218 ⟨Nat.zero_le _, Nat.zero_le _⟩ (fun H locs hP hS => ?_)
              replace hP : zP G [shM G xM] [uM_6] H := hP
              refine lv_iload hx hb dX7_rightShare_221 (lv_at hl 2 rfl) ?_
              refine lv_aload_n hx hb dX7_rightShare_223 rfl (lv_at hl 6 rfl) ?_
              refine rM_24 hx hb hwX7 hown hK hP 0 (xM) rfl rfl (hts _ (List.mem_of_getElem? (i := 7) rfl)) dX7_rightShare_224 ?_
              refine lv_iload_n hx hb dX7_rightShare_227 rfl (lv_at hl 8 rfl) ?_
              obtain ⟨hi, h⟩ := zin_e h
              refine aM_24 hx hb hK hP 0 (xM) rfl rfl hi rfl dX7_rightShare_228 ?_
              refine lv_iload hx hb dX7_rightShare_229 (lv_at hl 0 rfl) ?_
              obtain ⟨r_8, hg, h⟩ := zb1_e h
              refine z_callS (As := [.int ((gA uM_6 24 l2.toNatClampNeg)), .int r_5]) (rest := [.int ((gA uM 3 ((((6 : Int32) * l1) + (4 : Int32))).toNatClampNeg)), .int r_7]) ⟨hx, hb, hml, hown, hts⟩ (mX7_power l G  hg) (va_cwS 2 hts gX7_rightShare_X7_power rfl rfl rfl ksX7_power ⟨Nat.le_of_ble_eq_true rfl, Nat.le_of_ble_eq_true rfl⟩) hP hD hK hN hS (Nat.le_refl _) [] rfl rfl rfl rfl rfl hl.1 rfl (Nat.le_of_ble_eq_true rfl) dX7_rightShare_231 ⟨Nat.zero_le _, Nat.zero_le _⟩ (fun H locs hP hS => ?_)
              replace hP : zP G [shM G xM] [uM_6] H := hP
              obtain ⟨r_9, hg, h⟩ := zb1_e h
              refine z_callS (As := [.int ((gA uM 3 ((((6 : Int32) * l1) + (4 : Int32))).toNatClampNeg)), .int r_8]) (rest := [.int r_7]) ⟨hx, hb, hml, hown, hts⟩ (mX7_times l G  hg) (va_cwS 2 hts gX7_rightShare_X7_times rfl rfl rfl ksX7_times ⟨Nat.le_of_ble_eq_true rfl, Nat.le_of_ble_eq_true rfl⟩) hP hD hK hN hS (Nat.le_refl _) [] rfl rfl rfl rfl rfl hl.1 rfl (Nat.le_of_ble_eq_true rfl) dX7_rightShare_234 ⟨Nat.zero_le _, Nat.zero_le _⟩ (fun H locs hP hS => ?_)
              replace hP : zP G [shM G xM] [uM_6] H := hP
              refine lv_icmp_ne (tgt := 266) hx hb dX7_rightShare_237 (by decide) (fun hc => ?_) (fun hc => ?_)
              · replace h := zf hc h
                refine lv_iconst (v := 0) hx hb dX7_rightShare_266 (by decide) ?_
                cases h
                exact z_zret hx hb hr hlk rfl hP hS dX7_rightShare_267
              · replace h := zt hc h
                refine lv_aload_n hx hb dX7_rightShare_240 rfl (lv_at hl 6 rfl) ?_
                refine rM_30 hx hb hwX7 hown hK hP 0 (xM) rfl rfl (hts _ (List.mem_of_getElem? (i := 8) rfl)) dX7_rightShare_241 ?_
                refine lv_iload_n hx hb dX7_rightShare_244 rfl (lv_at hl 9 rfl) ?_
                obtain ⟨hi, h⟩ := zin_e h
                refine aM_30 hx hb hK hP 0 (xM) rfl rfl hi rfl dX7_rightShare_245 ?_
                refine lv_iload hx hb dX7_rightShare_246 (lv_at hl 3 rfl) ?_
                obtain ⟨r_10, hg, h⟩ := zb1_e h
                refine z_callS (As := [.int ((gA uM_6 30 l3.toNatClampNeg)), .int ((gA uM 3 ((((6 : Int32) * l1) + (3 : Int32))).toNatClampNeg))]) (rest := []) ⟨hx, hb, hml, hown, hts⟩ (mX7_power l G  hg) (va_cwS 2 hts gX7_rightShare_X7_power rfl rfl rfl ksX7_power ⟨Nat.le_of_ble_eq_true rfl, Nat.le_of_ble_eq_true rfl⟩) hP hD hK hN hS (Nat.le_refl _) [] rfl rfl rfl rfl rfl hl.1 rfl (Nat.le_of_ble_eq_true rfl) dX7_rightShare_248 ⟨Nat.zero_le _, Nat.zero_le _⟩ (fun H locs hP hS => ?_)
                replace hP : zP G [shM G xM] [uM_6] H := hP
                refine lv_iload hx hb dX7_rightShare_251 (lv_at hl 1 rfl) ?_
                refine lv_iload hx hb dX7_rightShare_253 (lv_at hl 4 rfl) ?_
                refine lv_iload hx hb dX7_rightShare_255 (lv_at hl 0 rfl) ?_
                obtain ⟨r_11, hg, h⟩ := zb1_e h
                refine z_callS (As := [.int ((gA uM 3 ((((6 : Int32) * l1) + (2 : Int32))).toNatClampNeg)), .int r_5]) (rest := [.int ((gA uM 3 ((((6 : Int32) * l1) + (5 : Int32))).toNatClampNeg)), .int r_10]) ⟨hx, hb, hml, hown, hts⟩ (mX7_power l G  hg) (va_cwS 2 hts gX7_rightShare_X7_power rfl rfl rfl ksX7_power ⟨Nat.le_of_ble_eq_true rfl, Nat.le_of_ble_eq_true rfl⟩) hP hD hK hN hS (Nat.le_refl _) [] rfl rfl rfl rfl rfl hl.1 rfl (Nat.le_of_ble_eq_true rfl) dX7_rightShare_257 ⟨Nat.zero_le _, Nat.zero_le _⟩ (fun H locs hP hS => ?_)
                replace hP : zP G [shM G xM] [uM_6] H := hP
                obtain ⟨r_12, hg, h⟩ := zb1_e h
                refine z_callS (As := [.int ((gA uM 3 ((((6 : Int32) * l1) + (5 : Int32))).toNatClampNeg)), .int r_11]) (rest := [.int r_10]) ⟨hx, hb, hml, hown, hts⟩ (mX7_times l G  hg) (va_cwS 2 hts gX7_rightShare_X7_times rfl rfl rfl ksX7_times ⟨Nat.le_of_ble_eq_true rfl, Nat.le_of_ble_eq_true rfl⟩) hP hD hK hN hS (Nat.le_refl _) [] rfl rfl rfl rfl rfl hl.1 rfl (Nat.le_of_ble_eq_true rfl) dX7_rightShare_260 ⟨Nat.zero_le _, Nat.zero_le _⟩ (fun H locs hP hS => ?_)
                replace hP : zP G [shM G xM] [uM_6] H := hP
                refine lv_icmp_eq (tgt := 268) hx hb dX7_rightShare_263 (by decide) (fun hc => ?_) (fun hc => ?_)
                · replace h := zt hc h
                  refine lv_aload_n hx hb dX7_rightShare_268 rfl (lv_at hl 6 rfl) ?_
                  refine rM_32 hx hb hwX7 hown hK hP 0 (xM) rfl rfl (hts _ (List.mem_of_getElem? (i := 9) rfl)) dX7_rightShare_269 ?_
                  refine lv_bipush (v := 10) hx hb dX7_rightShare_272 (by decide) ?_
                  refine lv_iload_n hx hb dX7_rightShare_274 rfl (lv_at hl 8 rfl) ?_
                  refine lv_imul hx hb dX7_rightShare_275 ?_
                  refine lv_iload_n hx hb dX7_rightShare_276 rfl (lv_at hl 9 rfl) ?_
                  refine lv_iadd hx hb dX7_rightShare_277 ?_
                  refine lv_iload hx hb dX7_rightShare_278 (lv_at hl 4 rfl) ?_
                  obtain ⟨hi, h⟩ := zin_e h
                  refine tM_32 hx hb hK hP hD hS 0 (xM) rfl rfl hi rfl dX7_rightShare_280 (fun H locs hP hS => ?_)
                  replace hP : zP G [shM G xM] [(sA uM_6 32 ((((10 : Int32) * l2) + l3)).toNatClampNeg ((gA uM 3 ((((6 : Int32) * l1) + (2 : Int32))).toNatClampNeg)))] H := hP
                  refine lv_aload_n hx hb dX7_rightShare_281 rfl (lv_at hl 6 rfl) ?_
                  refine lv_iload_n hx hb dX7_rightShare_282 rfl (lv_at hl 8 rfl) ?_
                  refine pM_28 hx hb hwX7 hown hK hP hD hS 0 (xM) rfl rfl (hts _ (List.mem_of_getElem? (i := 6) rfl)) dX7_rightShare_283 (fun H locs hP hS => ?_)
                  replace hP : zP G [shM G xM] [(sI ((sA uM_6 32 ((((10 : Int32) * l2) + l3)).toNatClampNeg ((gA uM 3 ((((6 : Int32) * l1) + (2 : Int32))).toNatClampNeg)))) 28 l2)] H := hP
                  refine lv_aload_n hx hb dX7_rightShare_286 rfl (lv_at hl 6 rfl) ?_
                  refine lv_iload_n hx hb dX7_rightShare_287 rfl (lv_at hl 9 rfl) ?_
                  refine lv_iconst (v := 1) hx hb dX7_rightShare_288 (by decide) ?_
                  refine lv_iadd hx hb dX7_rightShare_289 ?_
                  refine pM_27 hx hb hwX7 hown hK hP hD hS 0 (xM) rfl rfl (hts _ (List.mem_of_getElem? (i := 3) rfl)) dX7_rightShare_290 (fun H locs hP hS => ?_)
                  replace hP : zP G [shM G xM] [(sI ((sI ((sA uM_6 32 ((((10 : Int32) * l2) + l3)).toNatClampNeg ((gA uM 3 ((((6 : Int32) * l1) + (2 : Int32))).toNatClampNeg)))) 28 l2)) 27 ((l3 + (1 : Int32))))] H := hP
                  refine lv_aload_n hx hb dX7_rightShare_293 rfl (lv_at hl 6 rfl) ?_
                  refine rM_25 hx hb hwX7 hown hK hP 0 (xM) rfl rfl (hts _ (List.mem_of_getElem? (i := 5) rfl)) dX7_rightShare_294 ?_
                  refine lv_iload_n hx hb dX7_rightShare_297 rfl (lv_at hl 8 rfl) ?_
                  refine lv_aload_n hx hb dX7_rightShare_298 rfl (lv_at hl 6 rfl) ?_
                  refine rM_27 hx hb hwX7 hown hK hP 0 (xM) rfl rfl (hts _ (List.mem_of_getElem? (i := 3) rfl)) dX7_rightShare_299 ?_
                  refine lv_aload_n hx hb dX7_rightShare_302 rfl (lv_at hl 6 rfl) ?_
                  refine rM_29 hx hb hwX7 hown hK hP 0 (xM) rfl rfl (hts _ (List.mem_of_getElem? (i := 4) rfl)) dX7_rightShare_303 ?_
                  refine lv_icmp_ne (tgt := 313) hx hb dX7_rightShare_306 (by decide) (fun hc => ?_) (fun hc => ?_)
                  · replace h := zf hc h
                    refine lv_iconst (v := 0) hx hb dX7_rightShare_313 (by decide) ?_
                    exact tX7_rightShare_314 C0 hK hN hD  _ _ _ _ h _ _ hP hS _ (lv_sub hl [6, 8] rfl)
                  · replace h := zt hc h
                    refine lv_iconst (v := 1) hx hb dX7_rightShare_309 (by decide) ?_
                    refine lv_goto (tgt := 314) hx hb dX7_rightShare_310 (by decide) ?_
                    exact tX7_rightShare_314 C0 hK hN hD  _ _ _ _ h _ _ hP hS _ (lv_sub hl [6, 8] rfl)
                · replace h := zf hc h
                  refine lv_iconst (v := 0) hx hb dX7_rightShare_266 (by decide) ?_
                  cases h
                  exact z_zret hx hb hr hlk rfl hP hS dX7_rightShare_267
            · replace h := zt hc h
              refine lv_iconst (v := 0) hx hb dX7_rightShare_189 (by decide) ?_
              cases h
              exact z_zret hx hb hr hlk rfl hP hS dX7_rightShare_190
    · replace h := zf hc h
      refine lv_iconst (v := 0) hx hb dX7_rightShare_103 (by decide) ?_
      cases h
      exact z_zret hx hb hr hlk rfl hP hS dX7_rightShare_104
set_option maxRecDepth 20000 in
theorem tX7_rightShare_80 (C0 : zCtx p s m args meth c cX7_rightShare RX7 wsX7_rightShare 10 (some .boolean)) (hK : zK G s) (hN : zN s) (hD : zD [shM G xM])  : ∀ (uM : zSt) (l1 : Int32) (l2 : Int32) (l3 : Int32), bX7_rightShare_80  uM l1 l2 l3 = some (rr, vM) → ∀ (H : Heap) (locs : List Loc), zP G [shM G xM] [uM] H → va_S (zA [shM G xM] s.heap.size) s.heap H locs → ∀ ls : Array Slot, lv_has ls 10 [(0, .ref (xM 0)), (1, .int l1), (2, .int l2), (3, .int l3)] → W p l e rmX7_rightShare s m args below meth c H locs 0 0 (MQ below (zQ G [shM G xM] [vM] (zA [shM G xM] s.heap.size) (some (.int rr))) args s 0 0 (zA [shM G xM] s.heap.size)) (F0 m 80 ls []) := by
  obtain ⟨hx, hb, hr, hml, hown, hts, hlk⟩ := id C0
  intro uM l1 l2 l3 h H locs hP hS ls hl
  unfold bX7_rightShare_80 at h
  refine lv_iconst (v := 0) hx hb dX7_rightShare_80 (by decide) ?_
  exact tX7_rightShare_81 C0 hK hN hD  _ _ _ _ _ h _ _ hP hS _ (lv_sub hl [0, 1, 2, 3] rfl)
set_option maxRecDepth 20000 in
theorem tX7_rightShare_76 (C0 : zCtx p s m args meth c cX7_rightShare RX7 wsX7_rightShare 10 (some .boolean)) (hK : zK G s) (hN : zN s) (hD : zD [shM G xM])  : ∀ (uM : zSt) (l1 : Int32) (l2 : Int32) (l3 : Int32), bX7_rightShare_76  uM l1 l2 l3 = some (rr, vM) → ∀ (H : Heap) (locs : List Loc), zP G [shM G xM] [uM] H → va_S (zA [shM G xM] s.heap.size) s.heap H locs → ∀ ls : Array Slot, lv_has ls 10 [(0, .ref (xM 0)), (1, .int l1), (2, .int l2), (3, .int l3)] → W p l e rmX7_rightShare s m args below meth c H locs 0 0 (MQ below (zQ G [shM G xM] [vM] (zA [shM G xM] s.heap.size) (some (.int rr))) args s 0 0 (zA [shM G xM] s.heap.size)) (F0 m 76 ls []) := by
  obtain ⟨hx, hb, hr, hml, hown, hts, hlk⟩ := id C0
  intro uM l1 l2 l3 h H locs hP hS ls hl
  unfold bX7_rightShare_76 at h
  refine lv_iconst (v := 1) hx hb dX7_rightShare_76 (by decide) ?_
  refine lv_goto (tgt := 81) hx hb dX7_rightShare_77 (by decide) ?_
  exact tX7_rightShare_81 C0 hK hN hD  _ _ _ _ _ h _ _ hP hS _ (lv_sub hl [0, 1, 2, 3] rfl)
set_option maxRecDepth 20000 in
theorem tX7_rightShare_60 (C0 : zCtx p s m args meth c cX7_rightShare RX7 wsX7_rightShare 10 (some .boolean)) (hK : zK G s) (hN : zN s) (hD : zD [shM G xM])  : ∀ (uM : zSt) (l1 : Int32) (l2 : Int32) (l3 : Int32), bX7_rightShare_60  uM l1 l2 l3 = some (rr, vM) → ∀ (H : Heap) (locs : List Loc), zP G [shM G xM] [uM] H → va_S (zA [shM G xM] s.heap.size) s.heap H locs → ∀ ls : Array Slot, lv_has ls 10 [(0, .ref (xM 0)), (1, .int l1), (2, .int l2), (3, .int l3)] → W p l e rmX7_rightShare s m args below meth c H locs 0 0 (MQ below (zQ G [shM G xM] [vM] (zA [shM G xM] s.heap.size) (some (.int rr))) args s 0 0 (zA [shM G xM] s.heap.size)) (F0 m 60 ls []) := by
  obtain ⟨hx, hb, hr, hml, hown, hts, hlk⟩ := id C0
  have hwX7 : ∀ w ∈ wsX70, w.before args s = true := fun w h => hts w (List.mem_cons_of_mem _ (List.mem_append_right _ h))
  intro uM l1 l2 l3 h H locs hP hS ls hl
  unfold bX7_rightShare_60 at h
  refine lv_aload_n hx hb dX7_rightShare_60 rfl (lv_at hl 0 rfl) ?_
  refine rM_26 hx hb hwX7 hown hK hP 0 (xM) rfl rfl (hts _ (List.mem_of_getElem? (i := 2) rfl)) dX7_rightShare_61 ?_
  refine lv_iconst (v := 4) hx hb dX7_rightShare_64 (by decide) ?_
  refine lv_icmp_ne (tgt := 80) hx hb dX7_rightShare_65 (by decide) (fun hc => ?_) (fun hc => ?_)
  · replace h := zf hc h
    exact tX7_rightShare_80 C0 hK hN hD  _ _ _ _ h _ _ hP hS _ (lv_sub hl [0, 1, 2, 3] rfl)
  · replace h := zt hc h
    refine lv_iload_n hx hb dX7_rightShare_68 rfl (lv_at hl 2 rfl) ?_
    refine lv_aload_n hx hb dX7_rightShare_69 rfl (lv_at hl 0 rfl) ?_
    refine rM_28 hx hb hwX7 hown hK hP 0 (xM) rfl rfl (hts _ (List.mem_of_getElem? (i := 6) rfl)) dX7_rightShare_70 ?_
    refine lv_icmp_ne (tgt := 80) hx hb dX7_rightShare_73 (by decide) (fun hc => ?_) (fun hc => ?_)
    · replace h := zf hc h
      exact tX7_rightShare_80 C0 hK hN hD  _ _ _ _ h _ _ hP hS _ (lv_sub hl [0, 1, 2, 3] rfl)
    · replace h := zt hc h
      exact tX7_rightShare_76 C0 hK hN hD  _ _ _ _ h _ _ hP hS _ (lv_sub hl [0, 1, 2, 3] rfl)
set_option maxRecDepth 20000 in
theorem tX7_rightShare_26 (C0 : zCtx p s m args meth c cX7_rightShare RX7 wsX7_rightShare 10 (some .boolean)) (hK : zK G s) (hN : zN s) (hD : zD [shM G xM])  : ∀ (uM : zSt) (l1 : Int32) (l2 : Int32) (s0 : Int32), bX7_rightShare_26  uM l1 l2 s0 = some (rr, vM) → ∀ (H : Heap) (locs : List Loc), zP G [shM G xM] [uM] H → va_S (zA [shM G xM] s.heap.size) s.heap H locs → ∀ ls : Array Slot, lv_has ls 10 [(0, .ref (xM 0)), (1, .int l1), (2, .int l2)] → W p l e rmX7_rightShare s m args below meth c H locs 0 0 (MQ below (zQ G [shM G xM] [vM] (zA [shM G xM] s.heap.size) (some (.int rr))) args s 0 0 (zA [shM G xM] s.heap.size)) (F0 m 26 ls [.int s0]) := by
  obtain ⟨hx, hb, hr, hml, hown, hts, hlk⟩ := id C0
  have hwX7 : ∀ w ∈ wsX70, w.before args s = true := fun w h => hts w (List.mem_cons_of_mem _ (List.mem_append_right _ h))
  intro uM l1 l2 s0 h H locs hP hS ls hl
  unfold bX7_rightShare_26 at h
  refine lv_istore_n (lv' := [(3, .int s0), (0, .ref (xM 0)), (1, .int l1), (2, .int l2)]) hx hb dX7_rightShare_26 rfl hl (by decide) rfl (fun ls hl => ?_)
  refine lv_aload_n hx hb dX7_rightShare_27 rfl (lv_at hl 1 rfl) ?_
  refine rM_26 hx hb hwX7 hown hK hP 0 (xM) rfl rfl (hts _ (List.mem_of_getElem? (i := 2) rfl)) dX7_rightShare_28 ?_
  refine lv_iconst (v := 3) hx hb dX7_rightShare_31 (by decide) ?_
  refine lv_icmp_ne (tgt := 60) hx hb dX7_rightShare_32 (by decide) (fun hc => ?_) (fun hc => ?_)
  · replace h := zf hc h
    exact tX7_rightShare_60 C0 hK hN hD  _ _ _ _ h _ _ hP hS _ (lv_sub hl [1, 2, 3, 0] rfl)
  · replace h := zt hc h
    refine lv_aload_n hx hb dX7_rightShare_35 rfl (lv_at hl 1 rfl) ?_
    refine rM_29 hx hb hwX7 hown hK hP 0 (xM) rfl rfl (hts _ (List.mem_of_getElem? (i := 4) rfl)) dX7_rightShare_36 ?_
    refine lv_if_le (tgt := 60) hx hb dX7_rightShare_39 (by decide) (fun hc => ?_) (fun hc => ?_)
    · replace h := zt hc h
      exact tX7_rightShare_60 C0 hK hN hD  _ _ _ _ h _ _ hP hS _ (lv_sub hl [1, 2, 3, 0] rfl)
    · replace h := zf hc h
      refine lv_iload_n hx hb dX7_rightShare_42 rfl (lv_at hl 3 rfl) ?_
      refine lv_if_lt (tgt := 60) hx hb dX7_rightShare_43 (by decide) (fun hc => ?_) (fun hc => ?_)
      · replace h := zt hc h
        exact tX7_rightShare_60 C0 hK hN hD  _ _ _ _ h _ _ hP hS _ (lv_sub hl [1, 2, 3, 0] rfl)
      · replace h := zf hc h
        refine lv_iload_n hx hb dX7_rightShare_46 rfl (lv_at hl 3 rfl) ?_
        refine lv_iconst (v := 2) hx hb dX7_rightShare_47 (by decide) ?_
        refine lv_icmp_gt (tgt := 60) hx hb dX7_rightShare_48 (by decide) (fun hc => ?_) (fun hc => ?_)
        · replace h := zt hc h
          exact tX7_rightShare_60 C0 hK hN hD  _ _ _ _ h _ _ hP hS _ (lv_sub hl [1, 2, 3, 0] rfl)
        · replace h := zf hc h
          refine lv_aload_n hx hb dX7_rightShare_51 rfl (lv_at hl 1 rfl) ?_
          refine rM_25 hx hb hwX7 hown hK hP 0 (xM) rfl rfl (hts _ (List.mem_of_getElem? (i := 5) rfl)) dX7_rightShare_52 ?_
          refine lv_iload_n hx hb dX7_rightShare_55 rfl (lv_at hl 3 rfl) ?_
          obtain ⟨hi, h⟩ := zin_e h
          refine aM_25 hx hb hK hP 0 (xM) rfl rfl hi rfl dX7_rightShare_56 ?_
          refine lv_if_eq (tgt := 76) hx hb dX7_rightShare_57 (by decide) (fun hc => ?_) (fun hc => ?_)
          · replace h := zt hc h
            exact tX7_rightShare_76 C0 hK hN hD  _ _ _ _ h _ _ hP hS _ (lv_sub hl [1, 2, 3, 0] rfl)
          · replace h := zf hc h
            exact tX7_rightShare_60 C0 hK hN hD  _ _ _ _ h _ _ hP hS _ (lv_sub hl [1, 2, 3, 0] rfl)
set_option maxRecDepth 20000 in
theorem mX7_rightShare (l : Launch) (G : zG) (xM : Nat → Nat) {uM : zSt} {l1 : Int32} {rr : Int32} {vM : zSt} (h : fX7_rightShare uM l1 = some (rr, vM)) : zC l yX7_rightShare wsX7_rightShare rmX7_rightShare [.ref (xM 0), .int l1] G [shM G xM] [uM] [vM] (some (.int rr)) := by
  refine z_ofW (cc := cX7_rightShare) (maxL := 10) (ret := some .boolean) (by decide) rfl (Nat.le_of_ble_eq_true rfl) ?_
  intro p e s m args below meth c C0 hK hN hD hP ls hl
  obtain ⟨hx, hb, hr, hml, hown, hts, hlk⟩ := id C0
  have hS : va_S (zA [shM G xM] s.heap.size) s.heap s.heap [] := va_S.rf
  replace hl : lv_has ls 10 [(0, .ref (xM 0)), (1, .int l1)] := hl
  have hwX7 : ∀ w ∈ wsX70, w.before args s = true := fun w h => hts w (List.mem_cons_of_mem _ (List.mem_append_right _ h))
  unfold fX7_rightShare at h
  refine lv_aload_n hx hb dX7_rightShare_0 rfl (lv_at hl 0 rfl) ?_
  refine rM_3 hx hb hwX7 hown hK hP 0 (xM) rfl rfl (hts _ (List.mem_of_getElem? (i := 1) rfl)) dX7_rightShare_1 ?_
  refine lv_bipush (v := 6) hx hb dX7_rightShare_4 (by decide) ?_
  refine lv_iload_n hx hb dX7_rightShare_6 rfl (lv_at hl 1 rfl) ?_
  refine lv_imul hx hb dX7_rightShare_7 ?_
  obtain ⟨hi, h⟩ := zin_e h
  refine aM_3 hx hb hK hP 0 (xM) rfl rfl hi rfl dX7_rightShare_8 ?_
  refine lv_istore_n (lv' := [(2, .int ((gA uM 3 (((6 : Int32) * l1)).toNatClampNeg))), (0, .ref (xM 0)), (1, .int l1)]) hx hb dX7_rightShare_9 rfl hl (by decide) rfl (fun ls hl => ?_)
  refine lv_aload_n hx hb dX7_rightShare_10 rfl (lv_at hl 1 rfl) ?_
  refine rM_26 hx hb hwX7 hown hK hP 0 (xM) rfl rfl (hts _ (List.mem_of_getElem? (i := 2) rfl)) dX7_rightShare_11 ?_
  refine lv_iconst (v := 4) hx hb dX7_rightShare_14 (by decide) ?_
  refine lv_icmp_ne (tgt := 25) hx hb dX7_rightShare_15 (by decide) (fun hc => ?_) (fun hc => ?_)
  · replace h := zf hc h
    refine lv_iconst (v := 0) hx hb dX7_rightShare_25 (by decide) ?_
    exact tX7_rightShare_26 C0 hK hN hD  _ _ _ _ h _ _ hP hS _ (lv_sub hl [1, 2, 0] rfl)
  · replace h := zt hc h
    refine lv_aload_n hx hb dX7_rightShare_18 rfl (lv_at hl 1 rfl) ?_
    refine rM_27 hx hb hwX7 hown hK hP 0 (xM) rfl rfl (hts _ (List.mem_of_getElem? (i := 3) rfl)) dX7_rightShare_19 ?_
    refine lv_goto (tgt := 26) hx hb dX7_rightShare_22 (by decide) ?_
    exact tX7_rightShare_26 C0 hK hN hD  _ _ _ _ h _ _ hP hS _ (lv_sub hl [1, 2, 0] rfl)
end
def rmX7_rightResult : Room := { frames := 2, cells := 0, slots := 0, locals := 49 }
theorem kvX7_rightResult : yX7_rightResult.cls = RX7 ∧ yX7_rightResult.cls ≠ "java/lang/invoke/MethodHandle" ∧ yX7_rightResult.cls ≠ "java/lang/invoke/VarHandle" ∧ (parseMethodDescriptor yX7_rightResult.desc).map (fun d => d.parameters.length) = some 1 := by decide +kernel
section
variable {p : Program} {l : Launch} {e : Env} {s : State} {m : MethodId} {args : Array Value} {below : List Frame} {meth : Method} {c : Code} {G : zG} {xM : Nat → Nat} {rr : Int32} {vM : zSt}
set_option maxRecDepth 20000 in
theorem tX7_rightResult_138 (C0 : zCtx p s m args meth c cX7_rightResult RX7 wsX7_rightResult 6 (some .boolean)) (hK : zK G s) (hN : zN s) (hD : zD [shM G xM]) {k65 : zSt → Int32 → Int32 → Option (Int32 × zSt)} (K65 : ∀ (uM : zSt) (l1 : Int32) (l3 : Int32), k65 uM l1 l3 = some (rr, vM) → ∀ (H : Heap) (locs : List Loc), zP G [shM G xM] [uM] H → va_S (zA [shM G xM] s.heap.size) s.heap H locs → ∀ ls : Array Slot, lv_has ls 6 [(0, .ref (xM 0)), (1, .int l1), (3, .int l3)] → W p l e rmX7_rightResult s m args below meth c H locs 0 0 (MQ below (zQ G [shM G xM] [vM] (zA [shM G xM] s.heap.size) (some (.int rr))) args s 0 0 (zA [shM G xM] s.heap.size)) (F0 m 65 ls [])) {k76 : zSt → Int32 → Int32 → Int32 → Int32 → Option (Int32 × zSt)} (K76 : ∀ (uM : zSt) (l1 : Int32) (l3 : Int32) (l4 : Int32) (l5 : Int32), k76 uM l1 l3 l4 l5 = some (rr, vM) → ∀ (H : Heap) (locs : List Loc), zP G [shM G xM] [uM] H → va_S (zA [shM G xM] s.heap.size) s.heap H locs → ∀ ls : Array Slot, lv_has ls 6 [(0, .ref (xM 0)), (1, .int l1), (3, .int l3), (4, .int l4), (5, .int l5)] → W p l e rmX7_rightResult s m args below meth c H locs 0 0 (MQ below (zQ G [shM G xM] [vM] (zA [shM G xM] s.heap.size) (some (.int rr))) args s 0 0 (zA [shM G xM] s.heap.size)) (F0 m 76 ls [])) : ∀ (uM : zSt) (l1 : Int32) (l3 : Int32) (l5 : Int32) (s0 : Int32), bX7_rightResult_138 k65 k76 uM l1 l3 l5 s0 = some (rr, vM) → ∀ (H : Heap) (locs : List Loc), zP G [shM G xM] [uM] H → va_S (zA [shM G xM] s.heap.size) s.heap H locs → ∀ ls : Array Slot, lv_has ls 6 [(0, .ref (xM 0)), (1, .int l1), (3, .int l3), (5, .int l5)] → W p l e rmX7_rightResult s m args below meth c H locs 0 0 (MQ below (zQ G [shM G xM] [vM] (zA [shM G xM] s.heap.size) (some (.int rr))) args s 0 0 (zA [shM G xM] s.heap.size)) (F0 m 138 ls [.int s0]) := by
  obtain ⟨hx, hb, hr, hml, hown, hts, hlk⟩ := id C0
  intro uM l1 l3 l5 s0 h H locs hP hS ls hl
  unfold bX7_rightResult_138 at h
  refine lv_istore (lv' := [(4, .int s0), (0, .ref (xM 0)), (1, .int l1), (3, .int l3), (5, .int l5)]) hx hb dX7_rightResult_138 hl (by decide) rfl (fun ls hl => ?_)
  refine lv_iinc (v := (l5 + (1 : Int32))) (lv' := [(5, .int ((l5 + (1 : Int32)))), (4, .int s0), (0, .ref (xM 0)), (1, .int l1), (3, .int l3)]) hx hb dX7_rightResult_140 hl (k := 4) rfl rfl (by decide) rfl (fun ls hl => ?_)
  refine lv_goto (tgt := 76) hx hb dX7_rightResult_143 (by decide) ?_
  exact K76 _ _ _ _ _ h _ _ hP hS _ (lv_sub hl [2, 3, 4, 1, 0] rfl)
set_option maxRecDepth 20000 in
theorem tlX7_rightResult_76 (C0 : zCtx p s m args meth c cX7_rightResult RX7 wsX7_rightResult 6 (some .boolean)) (hK : zK G s) (hN : zN s) (hD : zD [shM G xM]) {k65 : zSt → Int32 → Int32 → Option (Int32 × zSt)} (K65 : ∀ (uM : zSt) (l1 : Int32) (l3 : Int32), k65 uM l1 l3 = some (rr, vM) → ∀ (H : Heap) (locs : List Loc), zP G [shM G xM] [uM] H → va_S (zA [shM G xM] s.heap.size) s.heap H locs → ∀ ls : Array Slot, lv_has ls 6 [(0, .ref (xM 0)), (1, .int l1), (3, .int l3)] → W p l e rmX7_rightResult s m args below meth c H locs 0 0 (MQ below (zQ G [shM G xM] [vM] (zA [shM G xM] s.heap.size) (some (.int rr))) args s 0 0 (zA [shM G xM] s.heap.size)) (F0 m 65 ls [])) : ∀ (n : Nat), ∀ (uM : zSt) (l1 : Int32) (l3 : Int32) (l4 : Int32) (l5 : Int32), lX7_rightResult_76 k65 n uM l1 l3 l4 l5 = some (rr, vM) → ∀ (H : Heap) (locs : List Loc), zP G [shM G xM] [uM] H → va_S (zA [shM G xM] s.heap.size) s.heap H locs → ∀ ls : Array Slot, lv_has ls 6 [(0, .ref (xM 0)), (1, .int l1), (3, .int l3), (4, .int l4), (5, .int l5)] → W p l e rmX7_rightResult s m args below meth c H locs 0 0 (MQ below (zQ G [shM G xM] [vM] (zA [shM G xM] s.heap.size) (some (.int rr))) args s 0 0 (zA [shM G xM] s.heap.size)) (F0 m 76 ls []) := by
  obtain ⟨hx, hb, hr, hml, hown, hts, hlk⟩ := id C0
  have hwX7 : ∀ w ∈ wsX70, w.before args s = true := fun w h => hts w (List.mem_cons_of_mem _ (List.mem_append_right _ h))
  intro n
  induction n with
  | zero => intro uM l1 l3 l4 l5 h; exact absurd h (fun q => nomatch q)
  | succ n K76 =>
    intro uM l1 l3 l4 l5 h H locs hP hS ls hl
    replace h : bX7_rightResult_76 k65 (lX7_rightResult_76 k65 n) uM l1 l3 l4 l5 = some (rr, vM) := h
    unfold bX7_rightResult_76 at h
    refine lv_iload hx hb dX7_rightResult_76 (lv_at hl 4 rfl) ?_
    refine lv_aload_n hx hb dX7_rightResult_78 rfl (lv_at hl 0 rfl) ?_
    refine rM_29 hx hb hwX7 hown hK hP 0 (xM) rfl rfl (hts _ (List.mem_of_getElem? (i := 1) rfl)) dX7_rightResult_79 ?_
    refine lv_icmp_ge (tgt := 146) hx hb dX7_rightResult_82 (by decide) (fun hc => ?_) (fun hc => ?_)
    · replace h := zt hc h
      refine lv_aload_n hx hb dX7_rightResult_146 rfl (lv_at hl 0 rfl) ?_
      refine rM_3 hx hb hwX7 hown hK hP 0 (xM) rfl rfl (hts _ (List.mem_of_getElem? (i := 6) rfl)) dX7_rightResult_147 ?_
      refine lv_bipush (v := 6) hx hb dX7_rightResult_150 (by decide) ?_
      refine lv_iload_n hx hb dX7_rightResult_152 rfl (lv_at hl 1 rfl) ?_
      refine lv_imul hx hb dX7_rightResult_153 ?_
      refine lv_iload_n hx hb dX7_rightResult_154 rfl (lv_at hl 2 rfl) ?_
      refine lv_iadd hx hb dX7_rightResult_155 ?_
      obtain ⟨hi, h⟩ := zin_e h
      refine aM_3 hx hb hK hP 0 (xM) rfl rfl hi rfl dX7_rightResult_156 ?_
      refine lv_iload hx hb dX7_rightResult_157 (lv_at hl 3 rfl) ?_
      refine lv_icmp_eq (tgt := 164) hx hb dX7_rightResult_159 (by decide) (fun hc => ?_) (fun hc => ?_)
      · replace h := zt hc h
        refine lv_iinc (v := (l3 + (1 : Int32))) (lv' := [(3, .int ((l3 + (1 : Int32)))), (0, .ref (xM 0)), (1, .int l1), (4, .int l4), (5, .int l5)]) hx hb dX7_rightResult_164 hl (k := 2) rfl rfl (by decide) rfl (fun ls hl => ?_)
        refine lv_goto (tgt := 65) hx hb dX7_rightResult_167 (by decide) ?_
        exact K65 _ _ _ h _ _ hP hS _ (lv_sub hl [1, 2, 0] rfl)
      · replace h := zf hc h
        refine lv_iconst (v := 0) hx hb dX7_rightResult_162 (by decide) ?_
        cases h
        exact z_zret hx hb hr hlk rfl hP hS dX7_rightResult_163
    · replace h := zf hc h
      refine lv_aload_n hx hb dX7_rightResult_85 rfl (lv_at hl 0 rfl) ?_
      refine rM_31 hx hb hwX7 hown hK hP 0 (xM) rfl rfl (hts _ (List.mem_of_getElem? (i := 4) rfl)) dX7_rightResult_86 ?_
      refine lv_iload hx hb dX7_rightResult_89 (lv_at hl 4 rfl) ?_
      obtain ⟨hi, h⟩ := zin_e h
      refine aM_31 hx hb hK hP 0 (xM) rfl rfl hi rfl dX7_rightResult_91 ?_
      refine lv_aload_n hx hb dX7_rightResult_92 rfl (lv_at hl 0 rfl) ?_
      refine rM_32 hx hb hwX7 hown hK hP 0 (xM) rfl rfl (hts _ (List.mem_of_getElem? (i := 5) rfl)) dX7_rightResult_93 ?_
      refine lv_iload hx hb dX7_rightResult_96 (lv_at hl 4 rfl) ?_
      obtain ⟨hi, h⟩ := zin_e h
      refine aM_32 hx hb hK hP 0 (xM) rfl rfl hi rfl dX7_rightResult_98 ?_
      refine lv_aload_n hx hb dX7_rightResult_99 rfl (lv_at hl 0 rfl) ?_
      refine rM_32 hx hb hwX7 hown hK hP 0 (xM) rfl rfl (hts _ (List.mem_of_getElem? (i := 5) rfl)) dX7_rightResult_100 ?_
      refine lv_bipush (v := 10) hx hb dX7_rightResult_103 (by decide) ?_
      refine lv_iload hx hb dX7_rightResult_105 (lv_at hl 4 rfl) ?_
      refine lv_iadd hx hb dX7_rightResult_107 ?_
      obtain ⟨hi, h⟩ := zin_e h
      refine aM_32 hx hb hK hP 0 (xM) rfl rfl hi rfl dX7_rightResult_108 ?_
      refine lv_aload_n hx hb dX7_rightResult_109 rfl (lv_at hl 0 rfl) ?_
      refine rM_32 hx hb hwX7 hown hK hP 0 (xM) rfl rfl (hts _ (List.mem_of_getElem? (i := 5) rfl)) dX7_rightResult_110 ?_
      refine lv_bipush (v := 20) hx hb dX7_rightResult_113 (by decide) ?_
      refine lv_iload hx hb dX7_rightResult_115 (lv_at hl 4 rfl) ?_
      refine lv_iadd hx hb dX7_rightResult_117 ?_
      obtain ⟨hi, h⟩ := zin_e h
      refine aM_32 hx hb hK hP 0 (xM) rfl rfl hi rfl dX7_rightResult_118 ?_
      obtain ⟨r_1, hg, h⟩ := zb1_e h
      refine z_callS (As := [.int ((gA uM 31 l5.toNatClampNeg)), .int ((gA uM 32 l5.toNatClampNeg)), .int ((gA uM 32 (((10 : Int32) + l5)).toNatClampNeg)), .int ((gA uM 32 (((20 : Int32) + l5)).toNatClampNeg))]) (rest := []) ⟨hx, hb, hml, hown, hts⟩ (mX7_valueOf l G  hg) (va_cwS 4 hts gX7_rightResult_X7_valueOf rfl rfl rfl ksX7_valueOf ⟨Nat.le_of_ble_eq_true rfl, Nat.le_of_ble_eq_true rfl⟩) hP hD hK hN hS (Nat.le_refl _) [] rfl rfl rfl rfl rfl hl.1 rfl (Nat.le_of_ble_eq_true rfl) dX7_rightResult_119 ⟨Nat.zero_le _, Nat.zero_le _⟩ (fun H locs hP hS => ?_)
      replace hP : zP G [shM G xM] [uM] H := hP
      obtain ⟨r_2, hg, h⟩ := zb1_e h
      refine z_callS (As := [.int r_1]) (rest := []) ⟨hx, hb, hml, hown, hts⟩ (mX7_choiceOf l G  hg) (va_cwS 1 hts gX7_rightResult_X7_choiceOf rfl rfl rfl ksX7_choiceOf ⟨Nat.le_of_ble_eq_true rfl, Nat.le_of_ble_eq_true rfl⟩) hP hD hK hN hS (Nat.le_refl _) [] rfl rfl rfl rfl rfl hl.1 rfl (Nat.le_of_ble_eq_true rfl) dX7_rightResult_122 ⟨Nat.zero_le _, Nat.zero_le _⟩ (fun H locs hP hS => ?_)
      replace hP : zP G [shM G xM] [uM] H := hP
      refine lv_iload_n hx hb dX7_rightResult_125 rfl (lv_at hl 2 rfl) ?_
      refine lv_icmp_ne (tgt := 136) hx hb dX7_rightResult_126 (by decide) (fun hc => ?_) (fun hc => ?_)
      · replace h := zf hc h
        refine lv_iload hx hb dX7_rightResult_136 (lv_at hl 3 rfl) ?_
        exact tX7_rightResult_138 C0 hK hN hD K65 K76 _ _ _ _ _ h _ _ hP hS _ (lv_sub hl [0, 1, 2, 4] rfl)
      · replace h := zt hc h
        refine lv_iload hx hb dX7_rightResult_129 (lv_at hl 3 rfl) ?_
        refine lv_iconst (v := 1) hx hb dX7_rightResult_131 (by decide) ?_
        refine lv_iadd hx hb dX7_rightResult_132 ?_
        refine lv_goto (tgt := 138) hx hb dX7_rightResult_133 (by decide) ?_
        exact tX7_rightResult_138 C0 hK hN hD K65 K76 _ _ _ _ _ h _ _ hP hS _ (lv_sub hl [0, 1, 2, 4] rfl)
set_option maxRecDepth 20000 in
theorem tlX7_rightResult_65 (C0 : zCtx p s m args meth c cX7_rightResult RX7 wsX7_rightResult 6 (some .boolean)) (hK : zK G s) (hN : zN s) (hD : zD [shM G xM])  : ∀ (n : Nat), ∀ (uM : zSt) (l1 : Int32) (l3 : Int32), lX7_rightResult_65  n uM l1 l3 = some (rr, vM) → ∀ (H : Heap) (locs : List Loc), zP G [shM G xM] [uM] H → va_S (zA [shM G xM] s.heap.size) s.heap H locs → ∀ ls : Array Slot, lv_has ls 6 [(0, .ref (xM 0)), (1, .int l1), (3, .int l3)] → W p l e rmX7_rightResult s m args below meth c H locs 0 0 (MQ below (zQ G [shM G xM] [vM] (zA [shM G xM] s.heap.size) (some (.int rr))) args s 0 0 (zA [shM G xM] s.heap.size)) (F0 m 65 ls []) := by
  obtain ⟨hx, hb, hr, hml, hown, hts, hlk⟩ := id C0
  have hwX7 : ∀ w ∈ wsX70, w.before args s = true := fun w h => hts w (List.mem_cons_of_mem _ (List.mem_append_right _ h))
  intro n
  induction n with
  | zero => intro uM l1 l3 h; exact absurd h (fun q => nomatch q)
  | succ n K65 =>
    intro uM l1 l3 h H locs hP hS ls hl
    replace h : bX7_rightResult_65  (lX7_rightResult_65  n) uM l1 l3 = some (rr, vM) := h
    unfold bX7_rightResult_65 at h
    refine lv_iload_n hx hb dX7_rightResult_65 rfl (lv_at hl 2 rfl) ?_
    refine lv_iconst (v := 4) hx hb dX7_rightResult_66 (by decide) ?_
    refine lv_icmp_ge (tgt := 170) hx hb dX7_rightResult_67 (by decide) (fun hc => ?_) (fun hc => ?_)
    · replace h := zt hc h
      refine lv_aload_n hx hb dX7_rightResult_170 rfl (lv_at hl 0 rfl) ?_
      refine lv_iconst (v := 5) hx hb dX7_rightResult_171 (by decide) ?_
      refine pM_26 hx hb hwX7 hown hK hP hD hS 0 (xM) rfl rfl (hts _ (List.mem_of_getElem? (i := 3) rfl)) dX7_rightResult_172 (fun H locs hP hS => ?_)
      replace hP : zP G [shM G xM] [(sI uM 26 ((5 : Int32)))] H := hP
      refine lv_iconst (v := 1) hx hb dX7_rightResult_175 (by decide) ?_
      cases h
      exact z_zret hx hb hr hlk rfl hP hS dX7_rightResult_176
    · replace h := zf hc h
      refine lv_iconst (v := 0) hx hb dX7_rightResult_70 (by decide) ?_
      refine lv_istore (lv' := [(4, .int ((0 : Int32))), (0, .ref (xM 0)), (1, .int l1), (3, .int l3)]) hx hb dX7_rightResult_71 hl (by decide) rfl (fun ls hl => ?_)
      refine lv_iconst (v := 0) hx hb dX7_rightResult_73 (by decide) ?_
      refine lv_istore (lv' := [(5, .int ((0 : Int32))), (4, .int ((0 : Int32))), (0, .ref (xM 0)), (1, .int l1), (3, .int l3)]) hx hb dX7_rightResult_74 hl (by decide) rfl (fun ls hl => ?_)
      exact tlX7_rightResult_76 C0 hK hN hD K65 1000 _ _ _ _ _ h _ _ hP hS _ (lv_sub hl [2, 3, 4, 1, 0] rfl)
set_option maxRecDepth 20000 in
theorem tX7_rightResult_39 (C0 : zCtx p s m args meth c cX7_rightResult RX7 wsX7_rightResult 6 (some .boolean)) (hK : zK G s) (hN : zN s) (hD : zD [shM G xM])  : ∀ (uM : zSt) (l1 : Int32) (s0 : Int32), bX7_rightResult_39  uM l1 s0 = some (rr, vM) → ∀ (H : Heap) (locs : List Loc), zP G [shM G xM] [uM] H → va_S (zA [shM G xM] s.heap.size) s.heap H locs → ∀ ls : Array Slot, lv_has ls 6 [(0, .ref (xM 0)), (1, .int l1)] → W p l e rmX7_rightResult s m args below meth c H locs 0 0 (MQ below (zQ G [shM G xM] [vM] (zA [shM G xM] s.heap.size) (some (.int rr))) args s 0 0 (zA [shM G xM] s.heap.size)) (F0 m 39 ls [.int s0]) := by
  obtain ⟨hx, hb, hr, hml, hown, hts, hlk⟩ := id C0
  have hwX7 : ∀ w ∈ wsX70, w.before args s = true := fun w h => hts w (List.mem_cons_of_mem _ (List.mem_append_right _ h))
  intro uM l1 s0 h H locs hP hS ls hl
  unfold bX7_rightResult_39 at h
  refine lv_istore_n (lv' := [(2, .int s0), (0, .ref (xM 0)), (1, .int l1)]) hx hb dX7_rightResult_39 rfl hl (by decide) rfl (fun ls hl => ?_)
  refine lv_aload_n hx hb dX7_rightResult_40 rfl (lv_at hl 1 rfl) ?_
  refine rM_26 hx hb hwX7 hown hK hP 0 (xM) rfl rfl (hts _ (List.mem_of_getElem? (i := 3) rfl)) dX7_rightResult_41 ?_
  refine lv_iconst (v := 3) hx hb dX7_rightResult_44 (by decide) ?_
  refine lv_icmp_ne (tgt := 61) hx hb dX7_rightResult_45 (by decide) (fun hc => ?_) (fun hc => ?_)
  · replace h := zf hc h
    refine lv_iconst (v := 0) hx hb dX7_rightResult_61 (by decide) ?_
    cases h
    exact z_zret hx hb hr hlk rfl hP hS dX7_rightResult_62
  · replace h := zt hc h
    refine lv_iload_n hx hb dX7_rightResult_48 rfl (lv_at hl 0 rfl) ?_
    refine lv_if_eq (tgt := 61) hx hb dX7_rightResult_49 (by decide) (fun hc => ?_) (fun hc => ?_)
    · replace h := zt hc h
      refine lv_iconst (v := 0) hx hb dX7_rightResult_61 (by decide) ?_
      cases h
      exact z_zret hx hb hr hlk rfl hP hS dX7_rightResult_62
    · replace h := zf hc h
      refine lv_aload_n hx hb dX7_rightResult_52 rfl (lv_at hl 1 rfl) ?_
      refine lv_iload_n hx hb dX7_rightResult_53 rfl (lv_at hl 2 rfl) ?_
      refine lv_iconst (v := 4) hx hb dX7_rightResult_54 (by decide) ?_
      obtain ⟨r_3, hg, h⟩ := zb1_e h
      refine z_callV (As := [.int l1, .int ((4 : Int32))]) (rest := []) (i := 0) ⟨hx, hb, hml, hown, hts⟩ (mX7_bare l G (xM) hg) (cwV 2 hts gX7_rightResult_X7_bare rfl rfl rfl kvX7_bare ⟨Nat.le_of_ble_eq_true rfl, Nat.le_of_ble_eq_true rfl⟩) rfl hP hD hK hN hS (Nat.le_refl _) [0] rfl rfl rfl rfl 0 rfl rfl rfl rfl rfl hl.1 rfl (Nat.le_of_ble_eq_true rfl) dX7_rightResult_55 ⟨Nat.zero_le _, Nat.zero_le _⟩ (fun H locs hP hS => ?_)
      replace hP : zP G [shM G xM] [uM] H := hP
      refine lv_if_ne (tgt := 63) hx hb dX7_rightResult_58 (by decide) (fun hc => ?_) (fun hc => ?_)
      · replace h := zf hc h
        refine lv_iconst (v := 0) hx hb dX7_rightResult_63 (by decide) ?_
        refine lv_istore_n (lv' := [(3, .int ((0 : Int32))), (2, .int s0), (0, .ref (xM 0)), (1, .int l1)]) hx hb dX7_rightResult_64 rfl hl (by decide) rfl (fun ls hl => ?_)
        exact tlX7_rightResult_65 C0 hK hN hD  1000 _ _ _ h _ _ hP hS _ (lv_sub hl [2, 3, 0] rfl)
      · replace h := zt hc h
        refine lv_iconst (v := 0) hx hb dX7_rightResult_61 (by decide) ?_
        cases h
        exact z_zret hx hb hr hlk rfl hP hS dX7_rightResult_62
set_option maxRecDepth 20000 in
theorem tX7_rightResult_34 (C0 : zCtx p s m args meth c cX7_rightResult RX7 wsX7_rightResult 6 (some .boolean)) (hK : zK G s) (hN : zN s) (hD : zD [shM G xM])  : ∀ (uM : zSt) (l1 : Int32), bX7_rightResult_34  uM l1 = some (rr, vM) → ∀ (H : Heap) (locs : List Loc), zP G [shM G xM] [uM] H → va_S (zA [shM G xM] s.heap.size) s.heap H locs → ∀ ls : Array Slot, lv_has ls 6 [(0, .ref (xM 0)), (1, .int l1)] → W p l e rmX7_rightResult s m args below meth c H locs 0 0 (MQ below (zQ G [shM G xM] [vM] (zA [shM G xM] s.heap.size) (some (.int rr))) args s 0 0 (zA [shM G xM] s.heap.size)) (F0 m 34 ls []) := by
  obtain ⟨hx, hb, hr, hml, hown, hts, hlk⟩ := id C0
  intro uM l1 h H locs hP hS ls hl
  unfold bX7_rightResult_34 at h
  refine lv_iconst (v := 1) hx hb dX7_rightResult_34 (by decide) ?_
  refine lv_goto (tgt := 39) hx hb dX7_rightResult_35 (by decide) ?_
  exact tX7_rightResult_39 C0 hK hN hD  _ _ _ h _ _ hP hS _ (lv_sub hl [0, 1] rfl)
set_option maxRecDepth 20000 in
theorem tX7_rightResult_38 (C0 : zCtx p s m args meth c cX7_rightResult RX7 wsX7_rightResult 6 (some .boolean)) (hK : zK G s) (hN : zN s) (hD : zD [shM G xM])  : ∀ (uM : zSt) (l1 : Int32), bX7_rightResult_38  uM l1 = some (rr, vM) → ∀ (H : Heap) (locs : List Loc), zP G [shM G xM] [uM] H → va_S (zA [shM G xM] s.heap.size) s.heap H locs → ∀ ls : Array Slot, lv_has ls 6 [(0, .ref (xM 0)), (1, .int l1)] → W p l e rmX7_rightResult s m args below meth c H locs 0 0 (MQ below (zQ G [shM G xM] [vM] (zA [shM G xM] s.heap.size) (some (.int rr))) args s 0 0 (zA [shM G xM] s.heap.size)) (F0 m 38 ls []) := by
  obtain ⟨hx, hb, hr, hml, hown, hts, hlk⟩ := id C0
  intro uM l1 h H locs hP hS ls hl
  unfold bX7_rightResult_38 at h
  refine lv_iconst (v := 0) hx hb dX7_rightResult_38 (by decide) ?_
  exact tX7_rightResult_39 C0 hK hN hD  _ _ _ h _ _ hP hS _ (lv_sub hl [0, 1] rfl)
set_option maxRecDepth 20000 in
theorem mX7_rightResult (l : Launch) (G : zG) (xM : Nat → Nat) {uM : zSt} {l1 : Int32} {rr : Int32} {vM : zSt} (h : fX7_rightResult uM l1 = some (rr, vM)) : zC l yX7_rightResult wsX7_rightResult rmX7_rightResult [.ref (xM 0), .int l1] G [shM G xM] [uM] [vM] (some (.int rr)) := by
  refine z_ofW (cc := cX7_rightResult) (maxL := 6) (ret := some .boolean) (by decide) rfl (Nat.le_of_ble_eq_true rfl) ?_
  intro p e s m args below meth c C0 hK hN hD hP ls hl
  obtain ⟨hx, hb, hr, hml, hown, hts, hlk⟩ := id C0
  have hS : va_S (zA [shM G xM] s.heap.size) s.heap s.heap [] := va_S.rf
  replace hl : lv_has ls 6 [(0, .ref (xM 0)), (1, .int l1)] := hl
  have hwX7 : ∀ w ∈ wsX70, w.before args s = true := fun w h => hts w (List.mem_cons_of_mem _ (List.mem_append_right _ h))
  unfold fX7_rightResult at h
  refine lv_aload_n hx hb dX7_rightResult_0 rfl (lv_at hl 0 rfl) ?_
  refine rM_29 hx hb hwX7 hown hK hP 0 (xM) rfl rfl (hts _ (List.mem_of_getElem? (i := 1) rfl)) dX7_rightResult_1 ?_
  refine lv_if_eq (tgt := 34) hx hb dX7_rightResult_4 (by decide) (fun hc => ?_) (fun hc => ?_)
  · replace h := zt hc h
    exact tX7_rightResult_34 C0 hK hN hD  _ _ h _ _ hP hS _ (lv_sub hl [0, 1] rfl)
  · replace h := zf hc h
    refine lv_aload_n hx hb dX7_rightResult_7 rfl (lv_at hl 0 rfl) ?_
    refine rM_25 hx hb hwX7 hown hK hP 0 (xM) rfl rfl (hts _ (List.mem_of_getElem? (i := 2) rfl)) dX7_rightResult_8 ?_
    refine lv_iconst (v := 0) hx hb dX7_rightResult_11 (by decide) ?_
    refine aM_25 hx hb hK hP 0 (xM) rfl rfl (zvi tn_0 n0_0 (by decide)) tn_0 dX7_rightResult_12 ?_
    refine lv_if_eq (tgt := 38) hx hb dX7_rightResult_13 (by decide) (fun hc => ?_) (fun hc => ?_)
    · replace h := zt hc h
      exact tX7_rightResult_38 C0 hK hN hD  _ _ h _ _ hP hS _ (lv_sub hl [0, 1] rfl)
    · replace h := zf hc h
      refine lv_aload_n hx hb dX7_rightResult_16 rfl (lv_at hl 0 rfl) ?_
      refine rM_25 hx hb hwX7 hown hK hP 0 (xM) rfl rfl (hts _ (List.mem_of_getElem? (i := 2) rfl)) dX7_rightResult_17 ?_
      refine lv_iconst (v := 1) hx hb dX7_rightResult_20 (by decide) ?_
      refine aM_25 hx hb hK hP 0 (xM) rfl rfl (zvi tn_1 n0_1 (by decide)) tn_1 dX7_rightResult_21 ?_
      refine lv_if_eq (tgt := 38) hx hb dX7_rightResult_22 (by decide) (fun hc => ?_) (fun hc => ?_)
      · replace h := zt hc h
        exact tX7_rightResult_38 C0 hK hN hD  _ _ h _ _ hP hS _ (lv_sub hl [0, 1] rfl)
      · replace h := zf hc h
        refine lv_aload_n hx hb dX7_rightResult_25 rfl (lv_at hl 0 rfl) ?_
        refine rM_25 hx hb hwX7 hown hK hP 0 (xM) rfl rfl (hts _ (List.mem_of_getElem? (i := 2) rfl)) dX7_rightResult_26 ?_
        refine lv_iconst (v := 2) hx hb dX7_rightResult_29 (by decide) ?_
        refine aM_25 hx hb hK hP 0 (xM) rfl rfl (zvi tn_2 n0_2 (by decide)) tn_2 dX7_rightResult_30 ?_
        refine lv_if_eq (tgt := 38) hx hb dX7_rightResult_31 (by decide) (fun hc => ?_) (fun hc => ?_)
        · replace h := zt hc h
          exact tX7_rightResult_38 C0 hK hN hD  _ _ h _ _ hP hS _ (lv_sub hl [0, 1] rfl)
        · replace h := zf hc h
          exact tX7_rightResult_34 C0 hK hN hD  _ _ h _ _ hP hS _ (lv_sub hl [0, 1] rfl)
end
def rmX7_right : Room := { frames := 4, cells := 0, slots := 0, locals := 94 }
theorem kvX7_right : yX7_right.cls = RX7 ∧ yX7_right.cls ≠ "java/lang/invoke/MethodHandle" ∧ yX7_right.cls ≠ "java/lang/invoke/VarHandle" ∧ (parseMethodDescriptor yX7_right.desc).map (fun d => d.parameters.length) = some 1 := by decide +kernel
section
variable {p : Program} {l : Launch} {e : Env} {s : State} {m : MethodId} {args : Array Value} {below : List Frame} {meth : Method} {c : Code} {G : zG} {xM : Nat → Nat} {rr : Int32} {vM : zSt}
set_option maxRecDepth 20000 in
theorem mX7_right (l : Launch) (G : zG) (xM : Nat → Nat) {uM : zSt} {l1 : Int32} {rr : Int32} {vM : zSt} (h : fX7_right uM l1 = some (rr, vM)) : zC l yX7_right wsX7_right rmX7_right [.ref (xM 0), .int l1] G [shM G xM] [uM] [vM] (some (.int rr)) := by
  refine z_ofW (cc := cX7_right) (maxL := 2) (ret := some .boolean) (by decide) rfl (Nat.le_of_ble_eq_true rfl) ?_
  intro p e s m args below meth c C0 hK hN hD hP ls hl
  obtain ⟨hx, hb, hr, hml, hown, hts, hlk⟩ := id C0
  have hS : va_S (zA [shM G xM] s.heap.size) s.heap s.heap [] := va_S.rf
  replace hl : lv_has ls 2 [(0, .ref (xM 0)), (1, .int l1)] := hl
  have hwX7 : ∀ w ∈ wsX70, w.before args s = true := fun w h => hts w (List.mem_cons_of_mem _ (List.mem_append_right _ h))
  unfold fX7_right at h
  refine lv_aload_n hx hb dX7_right_0 rfl (lv_at hl 0 rfl) ?_
  refine rM_2 hx hb hwX7 hown hK hP 0 (xM) rfl rfl (hts _ (List.mem_of_getElem? (i := 1) rfl)) dX7_right_1 ?_
  refine lv_iload_n hx hb dX7_right_4 rfl (lv_at hl 1 rfl) ?_
  obtain ⟨hi, h⟩ := zin_e h
  refine aM_2 hx hb hK hP 0 (xM) rfl rfl hi rfl dX7_right_5 ?_
  by_cases hc0 : (gA uM 2 l1.toNatClampNeg) = (0 : Int32)
  · replace h := zt hc0 h
    refine lv_tableIn (off := 42) (tgt := 48) hx hb dX7_right_6 (by rw [hc0]; decide) (by rw [hc0]; decide) (by rw [hc0]; rfl) (by decide) ?_
    refine lv_aload_n hx hb dX7_right_48 rfl (lv_at hl 0 rfl) ?_
    refine lv_iload_n hx hb dX7_right_49 rfl (lv_at hl 1 rfl) ?_
    obtain ⟨r_1, uM_2, hg, h⟩ := zb2_e h
    refine z_callV (As := [.int l1]) (rest := []) (i := 0) ⟨hx, hb, hml, hown, hts⟩ (mX7_rightBegun l G (xM) hg) (cwV 1 hts gX7_right_X7_rightBegun rfl rfl rfl kvX7_rightBegun ⟨Nat.le_of_ble_eq_true rfl, Nat.le_of_ble_eq_true rfl⟩) rfl hP hD hK hN hS (Nat.le_refl _) [0] rfl rfl rfl rfl 0 rfl rfl rfl rfl rfl hl.1 rfl (Nat.le_of_ble_eq_true rfl) dX7_right_50 ⟨Nat.zero_le _, Nat.zero_le _⟩ (fun H locs hP hS => ?_)
    replace hP : zP G [shM G xM] [uM_2] H := hP
    obtain ⟨hb9, h⟩ := zbl_e h
    cases h
    exact z_zret hx hb hr hlk hb9 hP hS dX7_right_53
  · replace h := zf hc0 h
    by_cases hc1 : (gA uM 2 l1.toNatClampNeg) = (1 : Int32)
    · replace h := zt hc1 h
      refine lv_tableIn (off := 48) (tgt := 54) hx hb dX7_right_6 (by rw [hc1]; decide) (by rw [hc1]; decide) (by rw [hc1]; rfl) (by decide) ?_
      refine lv_aload_n hx hb dX7_right_54 rfl (lv_at hl 0 rfl) ?_
      refine lv_iload_n hx hb dX7_right_55 rfl (lv_at hl 1 rfl) ?_
      obtain ⟨r_3, uM_4, hg, h⟩ := zb2_e h
      refine z_callV (As := [.int l1]) (rest := []) (i := 0) ⟨hx, hb, hml, hown, hts⟩ (mX7_rightVoter l G (xM) hg) (cwV 1 hts gX7_right_X7_rightVoter rfl rfl rfl kvX7_rightVoter ⟨Nat.le_of_ble_eq_true rfl, Nat.le_of_ble_eq_true rfl⟩) rfl hP hD hK hN hS (Nat.le_refl _) [0] rfl rfl rfl rfl 0 rfl rfl rfl rfl rfl hl.1 rfl (Nat.le_of_ble_eq_true rfl) dX7_right_56 ⟨Nat.zero_le _, Nat.zero_le _⟩ (fun H locs hP hS => ?_)
      replace hP : zP G [shM G xM] [uM_4] H := hP
      obtain ⟨hb9, h⟩ := zbl_e h
      cases h
      exact z_zret hx hb hr hlk hb9 hP hS dX7_right_59
    · replace h := zf hc1 h
      by_cases hc2 : (gA uM 2 l1.toNatClampNeg) = (2 : Int32)
      · replace h := zt hc2 h
        refine lv_tableIn (off := 54) (tgt := 60) hx hb dX7_right_6 (by rw [hc2]; decide) (by rw [hc2]; decide) (by rw [hc2]; rfl) (by decide) ?_
        refine lv_aload_n hx hb dX7_right_60 rfl (lv_at hl 0 rfl) ?_
        refine lv_iload_n hx hb dX7_right_61 rfl (lv_at hl 1 rfl) ?_
        obtain ⟨r_5, uM_6, hg, h⟩ := zb2_e h
        refine z_callV (As := [.int l1]) (rest := []) (i := 0) ⟨hx, hb, hml, hown, hts⟩ (mX7_rightBallot l G (xM) hg) (cwV 1 hts gX7_right_X7_rightBallot rfl rfl rfl kvX7_rightBallot ⟨Nat.le_of_ble_eq_true rfl, Nat.le_of_ble_eq_true rfl⟩) rfl hP hD hK hN hS (Nat.le_refl _) [0] rfl rfl rfl rfl 0 rfl rfl rfl rfl rfl hl.1 rfl (Nat.le_of_ble_eq_true rfl) dX7_right_62 ⟨Nat.zero_le _, Nat.zero_le _⟩ (fun H locs hP hS => ?_)
        replace hP : zP G [shM G xM] [uM_6] H := hP
        obtain ⟨hb9, h⟩ := zbl_e h
        cases h
        exact z_zret hx hb hr hlk hb9 hP hS dX7_right_65
      · replace h := zf hc2 h
        by_cases hc3 : (gA uM 2 l1.toNatClampNeg) = (3 : Int32)
        · replace h := zt hc3 h
          refine lv_tableIn (off := 60) (tgt := 66) hx hb dX7_right_6 (by rw [hc3]; decide) (by rw [hc3]; decide) (by rw [hc3]; rfl) (by decide) ?_
          refine lv_aload_n hx hb dX7_right_66 rfl (lv_at hl 0 rfl) ?_
          refine lv_iload_n hx hb dX7_right_67 rfl (lv_at hl 1 rfl) ?_
          obtain ⟨r_7, uM_8, hg, h⟩ := zb2_e h
          refine z_callV (As := [.int l1]) (rest := []) (i := 0) ⟨hx, hb, hml, hown, hts⟩ (mX7_rightClosed l G (xM) hg) (cwV 1 hts gX7_right_X7_rightClosed rfl rfl rfl kvX7_rightClosed ⟨Nat.le_of_ble_eq_true rfl, Nat.le_of_ble_eq_true rfl⟩) rfl hP hD hK hN hS (Nat.le_refl _) [0] rfl rfl rfl rfl 0 rfl rfl rfl rfl rfl hl.1 rfl (Nat.le_of_ble_eq_true rfl) dX7_right_68 ⟨Nat.zero_le _, Nat.zero_le _⟩ (fun H locs hP hS => ?_)
          replace hP : zP G [shM G xM] [uM_8] H := hP
          obtain ⟨hb9, h⟩ := zbl_e h
          cases h
          exact z_zret hx hb hr hlk hb9 hP hS dX7_right_71
        · replace h := zf hc3 h
          by_cases hc4 : (gA uM 2 l1.toNatClampNeg) = (4 : Int32)
          · replace h := zt hc4 h
            refine lv_tableIn (off := 66) (tgt := 72) hx hb dX7_right_6 (by rw [hc4]; decide) (by rw [hc4]; decide) (by rw [hc4]; rfl) (by decide) ?_
            refine lv_aload_n hx hb dX7_right_72 rfl (lv_at hl 0 rfl) ?_
            refine lv_iload_n hx hb dX7_right_73 rfl (lv_at hl 1 rfl) ?_
            obtain ⟨r_9, uM_10, hg, h⟩ := zb2_e h
            refine z_callV (As := [.int l1]) (rest := []) (i := 0) ⟨hx, hb, hml, hown, hts⟩ (mX7_rightMixed l G (xM) hg) (cwV 1 hts gX7_right_X7_rightMixed rfl rfl rfl kvX7_rightMixed ⟨Nat.le_of_ble_eq_true rfl, Nat.le_of_ble_eq_true rfl⟩) rfl hP hD hK hN hS (Nat.le_refl _) [0] rfl rfl rfl rfl 0 rfl rfl rfl rfl rfl hl.1 rfl (Nat.le_of_ble_eq_true rfl) dX7_right_74 ⟨Nat.zero_le _, Nat.zero_le _⟩ (fun H locs hP hS => ?_)
            replace hP : zP G [shM G xM] [uM_10] H := hP
            obtain ⟨hb9, h⟩ := zbl_e h
            cases h
            exact z_zret hx hb hr hlk hb9 hP hS dX7_right_77
          · replace h := zf hc4 h
            by_cases hc5 : (gA uM 2 l1.toNatClampNeg) = (5 : Int32)
            · replace h := zt hc5 h
              refine lv_tableIn (off := 72) (tgt := 78) hx hb dX7_right_6 (by rw [hc5]; decide) (by rw [hc5]; decide) (by rw [hc5]; rfl) (by decide) ?_
              refine lv_aload_n hx hb dX7_right_78 rfl (lv_at hl 0 rfl) ?_
              refine lv_iload_n hx hb dX7_right_79 rfl (lv_at hl 1 rfl) ?_
              obtain ⟨r_11, uM_12, hg, h⟩ := zb2_e h
              refine z_callV (As := [.int l1]) (rest := []) (i := 0) ⟨hx, hb, hml, hown, hts⟩ (mX7_rightEntry l G (xM) hg) (cwV 1 hts gX7_right_X7_rightEntry rfl rfl rfl kvX7_rightEntry ⟨Nat.le_of_ble_eq_true rfl, Nat.le_of_ble_eq_true rfl⟩) rfl hP hD hK hN hS (Nat.le_refl _) [0] rfl rfl rfl rfl 0 rfl rfl rfl rfl rfl hl.1 rfl (Nat.le_of_ble_eq_true rfl) dX7_right_80 ⟨Nat.zero_le _, Nat.zero_le _⟩ (fun H locs hP hS => ?_)
              replace hP : zP G [shM G xM] [uM_12] H := hP
              obtain ⟨hb9, h⟩ := zbl_e h
              cases h
              exact z_zret hx hb hr hlk hb9 hP hS dX7_right_83
            · replace h := zf hc5 h
              by_cases hc6 : (gA uM 2 l1.toNatClampNeg) = (6 : Int32)
              · replace h := zt hc6 h
                refine lv_tableIn (off := 78) (tgt := 84) hx hb dX7_right_6 (by rw [hc6]; decide) (by rw [hc6]; decide) (by rw [hc6]; rfl) (by decide) ?_
                refine lv_aload_n hx hb dX7_right_84 rfl (lv_at hl 0 rfl) ?_
                refine lv_iload_n hx hb dX7_right_85 rfl (lv_at hl 1 rfl) ?_
                obtain ⟨r_13, uM_14, hg, h⟩ := zb2_e h
                refine z_callV (As := [.int l1]) (rest := []) (i := 0) ⟨hx, hb, hml, hown, hts⟩ (mX7_rightShare l G (xM) hg) (cwV 1 hts gX7_right_X7_rightShare rfl rfl rfl kvX7_rightShare ⟨Nat.le_of_ble_eq_true rfl, Nat.le_of_ble_eq_true rfl⟩) rfl hP hD hK hN hS (Nat.le_refl _) [0] rfl rfl rfl rfl 0 rfl rfl rfl rfl rfl hl.1 rfl (Nat.le_of_ble_eq_true rfl) dX7_right_86 ⟨Nat.zero_le _, Nat.zero_le _⟩ (fun H locs hP hS => ?_)
                replace hP : zP G [shM G xM] [uM_14] H := hP
                obtain ⟨hb9, h⟩ := zbl_e h
                cases h
                exact z_zret hx hb hr hlk hb9 hP hS dX7_right_89
              · replace h := zf hc6 h
                refine lv_tableOut (tgt := 90) hx hb dX7_right_6 (by have q0 := lv_neT (k := 0) (a := 0) hc0 (by decide); have q1 := lv_neT (k := 1) (a := 1) hc1 (by decide); have q2 := lv_neT (k := 2) (a := 2) hc2 (by decide); have q3 := lv_neT (k := 3) (a := 3) hc3 (by decide); have q4 := lv_neT (k := 4) (a := 4) hc4 (by decide); have q5 := lv_neT (k := 5) (a := 5) hc5 (by decide); have q6 := lv_neT (k := 6) (a := 6) hc6 (by decide); omega) (by decide) ?_
                refine lv_aload_n hx hb dX7_right_90 rfl (lv_at hl 0 rfl) ?_
                refine lv_iload_n hx hb dX7_right_91 rfl (lv_at hl 1 rfl) ?_
                obtain ⟨r_15, uM_16, hg, h⟩ := zb2_e h
                refine z_callV (As := [.int l1]) (rest := []) (i := 0) ⟨hx, hb, hml, hown, hts⟩ (mX7_rightResult l G (xM) hg) (cwV 1 hts gX7_right_X7_rightResult rfl rfl rfl kvX7_rightResult ⟨Nat.le_of_ble_eq_true rfl, Nat.le_of_ble_eq_true rfl⟩) rfl hP hD hK hN hS (Nat.le_refl _) [0] rfl rfl rfl rfl 0 rfl rfl rfl rfl rfl hl.1 rfl (Nat.le_of_ble_eq_true rfl) dX7_right_92 ⟨Nat.zero_le _, Nat.zero_le _⟩ (fun H locs hP hS => ?_)
                replace hP : zP G [shM G xM] [uM_16] H := hP
                obtain ⟨hb9, h⟩ := zbl_e h
                cases h
                exact z_zret hx hb hr hlk hb9 hP hS dX7_right_95
end
def rmX7_audit : Room := { frames := 5, cells := 0, slots := 0, locals := 115 }
theorem kvX7_audit : yX7_audit.cls = RX7 ∧ yX7_audit.cls ≠ "java/lang/invoke/MethodHandle" ∧ yX7_audit.cls ≠ "java/lang/invoke/VarHandle" ∧ (parseMethodDescriptor yX7_audit.desc).map (fun d => d.parameters.length) = some 0 := by decide +kernel
section
variable {p : Program} {l : Launch} {e : Env} {s : State} {m : MethodId} {args : Array Value} {below : List Frame} {meth : Method} {c : Code} {G : zG} {xM : Nat → Nat} {rr : Int32} {vM : zSt}
set_option maxRecDepth 20000 in
theorem tlX7_audit_65 (C0 : zCtx p s m args meth c cX7_audit RX7 wsX7_audit 2 (some .int)) (hK : zK G s) (hN : zN s) (hD : zD [shM G xM])  : ∀ (n : Nat), ∀ (uM : zSt) (l1 : Int32), lX7_audit_65  n uM l1 = some (rr, vM) → ∀ (H : Heap) (locs : List Loc), zP G [shM G xM] [uM] H → va_S (zA [shM G xM] s.heap.size) s.heap H locs → ∀ ls : Array Slot, lv_has ls 2 [(0, .ref (xM 0)), (1, .int l1)] → W p l e rmX7_audit s m args below meth c H locs 0 0 (MQ below (zQ G [shM G xM] [vM] (zA [shM G xM] s.heap.size) (some (.int rr))) args s 0 0 (zA [shM G xM] s.heap.size)) (F0 m 65 ls []) := by
  obtain ⟨hx, hb, hr, hml, hown, hts, hlk⟩ := id C0
  have hwX7 : ∀ w ∈ wsX70, w.before args s = true := fun w h => hts w (List.mem_cons_of_mem _ (List.mem_append_right _ h))
  intro n
  induction n with
  | zero => intro uM l1 h; exact absurd h (fun q => nomatch q)
  | succ n K65 =>
    intro uM l1 h H locs hP hS ls hl
    replace h : bX7_audit_65  (lX7_audit_65  n) uM l1 = some (rr, vM) := h
    unfold bX7_audit_65 at h
    refine lv_iload_n hx hb dX7_audit_65 rfl (lv_at hl 1 rfl) ?_
    refine lv_aload_n hx hb dX7_audit_66 rfl (lv_at hl 0 rfl) ?_
    refine rM_1 hx hb hwX7 hown hK hP 0 (xM) rfl rfl (hts _ (List.mem_of_getElem? (i := 7) rfl)) dX7_audit_67 ?_
    refine lv_icmp_ge (tgt := 89) hx hb dX7_audit_70 (by decide) (fun hc => ?_) (fun hc => ?_)
    · replace h := zt hc h
      refine lv_iconst (v := (-1)) hx hb dX7_audit_89 (by decide) ?_
      cases h
      exact z_iret hx hb hr hlk hP hS dX7_audit_90
    · replace h := zf hc h
      refine lv_aload_n hx hb dX7_audit_73 rfl (lv_at hl 0 rfl) ?_
      refine lv_iload_n hx hb dX7_audit_74 rfl (lv_at hl 1 rfl) ?_
      obtain ⟨r_1, uM_2, hg, h⟩ := zb2_e h
      refine z_callV (As := [.int l1]) (rest := []) (i := 0) ⟨hx, hb, hml, hown, hts⟩ (mX7_right l G (xM) hg) (cwV 1 hts gX7_audit_X7_right rfl rfl rfl kvX7_right ⟨Nat.le_of_ble_eq_true rfl, Nat.le_of_ble_eq_true rfl⟩) rfl hP hD hK hN hS (Nat.le_refl _) [0] rfl rfl rfl rfl 0 rfl rfl rfl rfl rfl hl.1 rfl (Nat.le_of_ble_eq_true rfl) dX7_audit_75 ⟨Nat.zero_le _, Nat.zero_le _⟩ (fun H locs hP hS => ?_)
      replace hP : zP G [shM G xM] [uM_2] H := hP
      refine lv_if_ne (tgt := 83) hx hb dX7_audit_78 (by decide) (fun hc => ?_) (fun hc => ?_)
      · replace h := zf hc h
        refine lv_iinc (v := (l1 + (1 : Int32))) (lv' := [(1, .int ((l1 + (1 : Int32)))), (0, .ref (xM 0))]) hx hb dX7_audit_83 hl (k := 1) rfl rfl (by decide) rfl (fun ls hl => ?_)
        refine lv_goto (tgt := 65) hx hb dX7_audit_86 (by decide) ?_
        exact K65 _ _ h _ _ hP hS _ (lv_sub hl [1, 0] rfl)
      · replace h := zt hc h
        refine lv_iload_n hx hb dX7_audit_81 rfl (lv_at hl 1 rfl) ?_
        cases h
        exact z_iret hx hb hr hlk hP hS dX7_audit_82
set_option maxRecDepth 20000 in
theorem tlX7_audit_45 (C0 : zCtx p s m args meth c cX7_audit RX7 wsX7_audit 2 (some .int)) (hK : zK G s) (hN : zN s) (hD : zD [shM G xM])  : ∀ (n : Nat), ∀ (uM : zSt) (l1 : Int32), lX7_audit_45  n uM l1 = some (rr, vM) → ∀ (H : Heap) (locs : List Loc), zP G [shM G xM] [uM] H → va_S (zA [shM G xM] s.heap.size) s.heap H locs → ∀ ls : Array Slot, lv_has ls 2 [(0, .ref (xM 0)), (1, .int l1)] → W p l e rmX7_audit s m args below meth c H locs 0 0 (MQ below (zQ G [shM G xM] [vM] (zA [shM G xM] s.heap.size) (some (.int rr))) args s 0 0 (zA [shM G xM] s.heap.size)) (F0 m 45 ls []) := by
  obtain ⟨hx, hb, hr, hml, hown, hts, hlk⟩ := id C0
  have hwX7 : ∀ w ∈ wsX70, w.before args s = true := fun w h => hts w (List.mem_cons_of_mem _ (List.mem_append_right _ h))
  intro n
  induction n with
  | zero => intro uM l1 h; exact absurd h (fun q => nomatch q)
  | succ n K45 =>
    intro uM l1 h H locs hP hS ls hl
    replace h : bX7_audit_45  (lX7_audit_45  n) uM l1 = some (rr, vM) := h
    unfold bX7_audit_45 at h
    refine lv_iload_n hx hb dX7_audit_45 rfl (lv_at hl 1 rfl) ?_
    refine lv_iconst (v := 3) hx hb dX7_audit_46 (by decide) ?_
    refine lv_icmp_ge (tgt := 63) hx hb dX7_audit_47 (by decide) (fun hc => ?_) (fun hc => ?_)
    · replace h := zt hc h
      refine lv_iconst (v := 0) hx hb dX7_audit_63 (by decide) ?_
      refine lv_istore_n (lv' := [(1, .int ((0 : Int32))), (0, .ref (xM 0))]) hx hb dX7_audit_64 rfl hl (by decide) rfl (fun ls hl => ?_)
      exact tlX7_audit_65 C0 hK hN hD  1000 _ _ h _ _ hP hS _ (lv_sub hl [1, 0] rfl)
    · replace h := zf hc h
      refine lv_aload_n hx hb dX7_audit_50 rfl (lv_at hl 0 rfl) ?_
      refine rM_25 hx hb hwX7 hown hK hP 0 (xM) rfl rfl (hts _ (List.mem_of_getElem? (i := 6) rfl)) dX7_audit_51 ?_
      refine lv_iload_n hx hb dX7_audit_54 rfl (lv_at hl 1 rfl) ?_
      refine lv_iconst (v := 0) hx hb dX7_audit_55 (by decide) ?_
      obtain ⟨hi, h⟩ := zin_e h
      refine tM_25 hx hb hK hP hD hS 0 (xM) rfl rfl hi rfl vnb_0 dX7_audit_56 (fun H locs hP hS => ?_)
      replace hP : zP G [shM G xM] [(sA uM 25 l1.toNatClampNeg ((0 : Int32)))] H := hP
      refine lv_iinc (v := (l1 + (1 : Int32))) (lv' := [(1, .int ((l1 + (1 : Int32)))), (0, .ref (xM 0))]) hx hb dX7_audit_57 hl (k := 1) rfl rfl (by decide) rfl (fun ls hl => ?_)
      refine lv_goto (tgt := 45) hx hb dX7_audit_60 (by decide) ?_
      exact K45 _ _ h _ _ hP hS _ (lv_sub hl [1, 0] rfl)
set_option maxRecDepth 20000 in
theorem tlX7_audit_17 (C0 : zCtx p s m args meth c cX7_audit RX7 wsX7_audit 2 (some .int)) (hK : zK G s) (hN : zN s) (hD : zD [shM G xM])  : ∀ (n : Nat), ∀ (uM : zSt) (l1 : Int32), lX7_audit_17  n uM l1 = some (rr, vM) → ∀ (H : Heap) (locs : List Loc), zP G [shM G xM] [uM] H → va_S (zA [shM G xM] s.heap.size) s.heap H locs → ∀ ls : Array Slot, lv_has ls 2 [(0, .ref (xM 0)), (1, .int l1)] → W p l e rmX7_audit s m args below meth c H locs 0 0 (MQ below (zQ G [shM G xM] [vM] (zA [shM G xM] s.heap.size) (some (.int rr))) args s 0 0 (zA [shM G xM] s.heap.size)) (F0 m 17 ls []) := by
  obtain ⟨hx, hb, hr, hml, hown, hts, hlk⟩ := id C0
  have hwX7 : ∀ w ∈ wsX70, w.before args s = true := fun w h => hts w (List.mem_cons_of_mem _ (List.mem_append_right _ h))
  intro n
  induction n with
  | zero => intro uM l1 h; exact absurd h (fun q => nomatch q)
  | succ n K17 =>
    intro uM l1 h H locs hP hS ls hl
    replace h : bX7_audit_17  (lX7_audit_17  n) uM l1 = some (rr, vM) := h
    unfold bX7_audit_17 at h
    refine lv_iload_n hx hb dX7_audit_17 rfl (lv_at hl 1 rfl) ?_
    refine lv_bipush (v := 10) hx hb dX7_audit_18 (by decide) ?_
    refine lv_icmp_ge (tgt := 43) hx hb dX7_audit_20 (by decide) (fun hc => ?_) (fun hc => ?_)
    · replace h := zt hc h
      refine lv_iconst (v := 0) hx hb dX7_audit_43 (by decide) ?_
      refine lv_istore_n (lv' := [(1, .int ((0 : Int32))), (0, .ref (xM 0))]) hx hb dX7_audit_44 rfl hl (by decide) rfl (fun ls hl => ?_)
      exact tlX7_audit_45 C0 hK hN hD  1000 _ _ h _ _ hP hS _ (lv_sub hl [1, 0] rfl)
    · replace h := zf hc h
      refine lv_aload_n hx hb dX7_audit_23 rfl (lv_at hl 0 rfl) ?_
      refine rM_20 hx hb hwX7 hown hK hP 0 (xM) rfl rfl (hts _ (List.mem_of_getElem? (i := 4) rfl)) dX7_audit_24 ?_
      refine lv_iload_n hx hb dX7_audit_27 rfl (lv_at hl 1 rfl) ?_
      refine lv_iconst (v := 0) hx hb dX7_audit_28 (by decide) ?_
      obtain ⟨hi, h⟩ := zin_e h
      refine tM_20 hx hb hK hP hD hS 0 (xM) rfl rfl hi rfl vnb_0 dX7_audit_29 (fun H locs hP hS => ?_)
      replace hP : zP G [shM G xM] [(sA uM 20 l1.toNatClampNeg ((0 : Int32)))] H := hP
      refine lv_aload_n hx hb dX7_audit_30 rfl (lv_at hl 0 rfl) ?_
      refine rM_21 hx hb hwX7 hown hK hP 0 (xM) rfl rfl (hts _ (List.mem_of_getElem? (i := 5) rfl)) dX7_audit_31 ?_
      refine lv_iload_n hx hb dX7_audit_34 rfl (lv_at hl 1 rfl) ?_
      refine lv_iconst (v := 0) hx hb dX7_audit_35 (by decide) ?_
      obtain ⟨hi, h⟩ := zin_e h
      refine tM_21 hx hb hK hP hD hS 0 (xM) rfl rfl hi rfl vnb_0 dX7_audit_36 (fun H locs hP hS => ?_)
      replace hP : zP G [shM G xM] [(sA ((sA uM 20 l1.toNatClampNeg ((0 : Int32)))) 21 l1.toNatClampNeg ((0 : Int32)))] H := hP
      refine lv_iinc (v := (l1 + (1 : Int32))) (lv' := [(1, .int ((l1 + (1 : Int32)))), (0, .ref (xM 0))]) hx hb dX7_audit_37 hl (k := 1) rfl rfl (by decide) rfl (fun ls hl => ?_)
      refine lv_goto (tgt := 17) hx hb dX7_audit_40 (by decide) ?_
      exact K17 _ _ h _ _ hP hS _ (lv_sub hl [1, 0] rfl)
set_option maxRecDepth 20000 in
theorem mX7_audit (l : Launch) (G : zG) (xM : Nat → Nat) {uM : zSt} {rr : Int32} {vM : zSt} (h : fX7_audit uM = some (rr, vM)) : zC l yX7_audit wsX7_audit rmX7_audit [.ref (xM 0)] G [shM G xM] [uM] [vM] (some (.int rr)) := by
  refine z_ofW (cc := cX7_audit) (maxL := 2) (ret := some .int) (by decide) rfl (Nat.le_of_ble_eq_true rfl) ?_
  intro p e s m args below meth c C0 hK hN hD hP ls hl
  obtain ⟨hx, hb, hr, hml, hown, hts, hlk⟩ := id C0
  have hS : va_S (zA [shM G xM] s.heap.size) s.heap s.heap [] := va_S.rf
  replace hl : lv_has ls 2 [(0, .ref (xM 0))] := hl
  have hwX7 : ∀ w ∈ wsX70, w.before args s = true := fun w h => hts w (List.mem_cons_of_mem _ (List.mem_append_right _ h))
  unfold fX7_audit at h
  refine lv_aload_n hx hb dX7_audit_0 rfl (lv_at hl 0 rfl) ?_
  refine lv_iconst (v := 0) hx hb dX7_audit_1 (by decide) ?_
  refine pM_0 hx hb hwX7 hown hK hP hD hS 0 (xM) rfl rfl (hts _ (List.mem_of_getElem? (i := 1) rfl)) dX7_audit_2 (fun H locs hP hS => ?_)
  replace hP : zP G [shM G xM] [(sI uM 0 ((0 : Int32)))] H := hP
  refine lv_aload_n hx hb dX7_audit_5 rfl (lv_at hl 0 rfl) ?_
  refine lv_iconst (v := 0) hx hb dX7_audit_6 (by decide) ?_
  refine pM_26 hx hb hwX7 hown hK hP hD hS 0 (xM) rfl rfl (hts _ (List.mem_of_getElem? (i := 2) rfl)) dX7_audit_7 (fun H locs hP hS => ?_)
  replace hP : zP G [shM G xM] [(sI ((sI uM 0 ((0 : Int32)))) 26 ((0 : Int32)))] H := hP
  refine lv_aload_n hx hb dX7_audit_10 rfl (lv_at hl 0 rfl) ?_
  refine lv_iconst (v := 0) hx hb dX7_audit_11 (by decide) ?_
  refine pM_29 hx hb hwX7 hown hK hP hD hS 0 (xM) rfl rfl (hts _ (List.mem_of_getElem? (i := 3) rfl)) dX7_audit_12 (fun H locs hP hS => ?_)
  replace hP : zP G [shM G xM] [(sI ((sI ((sI uM 0 ((0 : Int32)))) 26 ((0 : Int32)))) 29 ((0 : Int32)))] H := hP
  refine lv_iconst (v := 0) hx hb dX7_audit_15 (by decide) ?_
  refine lv_istore_n (lv' := [(1, .int ((0 : Int32))), (0, .ref (xM 0))]) hx hb dX7_audit_16 rfl hl (by decide) rfl (fun ls hl => ?_)
  exact tlX7_audit_17 C0 hK hN hD  1000 _ _ h _ _ hP hS _ (lv_sub hl [1, 0] rfl)
end
def rmX7_leafOf : Room := { frames := 1, cells := 0, slots := 0, locals := 22 }
theorem kvX7_leafOf : yX7_leafOf.cls = RX7 ∧ yX7_leafOf.cls ≠ "java/lang/invoke/MethodHandle" ∧ yX7_leafOf.cls ≠ "java/lang/invoke/VarHandle" ∧ (parseMethodDescriptor yX7_leafOf.desc).map (fun d => d.parameters.length) = some 1 := by decide +kernel
section
variable {p : Program} {l : Launch} {e : Env} {s : State} {m : MethodId} {args : Array Value} {below : List Frame} {meth : Method} {c : Code} {G : zG} {xM : Nat → Nat} {rr : Int64} {vM : zSt}
set_option maxRecDepth 20000 in
theorem tlX7_leafOf_23 (C0 : zCtx p s m args meth c cX7_leafOf RX7 wsX7_leafOf 3 (some .long)) (hK : zK G s) (hN : zN s) (hD : zD [shM G xM])  : ∀ (n : Nat), ∀ (uM : zSt) (l1 : Int32) (l2 : Int32), lX7_leafOf_23  n uM l1 l2 = some (rr, vM) → ∀ (H : Heap) (locs : List Loc), zP G [shM G xM] [uM] H → va_S (zA [shM G xM] s.heap.size) s.heap H locs → ∀ ls : Array Slot, lv_has ls 3 [(0, .ref (xM 0)), (1, .int l1), (2, .int l2)] → W p l e rmX7_leafOf s m args below meth c H locs 0 0 (MQ below (zQ G [shM G xM] [vM] (zA [shM G xM] s.heap.size) (some (.long rr))) args s 0 0 (zA [shM G xM] s.heap.size)) (F0 m 23 ls []) := by
  obtain ⟨hx, hb, hr, hml, hown, hts, hlk⟩ := id C0
  have hwX7 : ∀ w ∈ wsX70, w.before args s = true := fun w h => hts w (List.mem_cons_of_mem _ (List.mem_append_right _ h))
  intro n
  induction n with
  | zero => intro uM l1 l2 h; exact absurd h (fun q => nomatch q)
  | succ n K23 =>
    intro uM l1 l2 h H locs hP hS ls hl
    replace h : bX7_leafOf_23  (lX7_leafOf_23  n) uM l1 l2 = some (rr, vM) := h
    unfold bX7_leafOf_23 at h
    refine lv_iload_n hx hb dX7_leafOf_23 rfl (lv_at hl 2 rfl) ?_
    refine lv_bipush (v := 6) hx hb dX7_leafOf_24 (by decide) ?_
    refine lv_icmp_ge (tgt := 51) hx hb dX7_leafOf_26 (by decide) (fun hc => ?_) (fun hc => ?_)
    · replace h := zt hc h
      refine lv_aload_n hx hb dX7_leafOf_51 rfl (lv_at hl 0 rfl) ?_
      obtain ⟨r_1, hg, h⟩ := zb1_e h
      refine z_callV (As := []) (rest := []) (i := 0) ⟨hx, hb, hml, hown, hts⟩ (mX7_sealed l G (xM) hg) (cwV 0 hts gX7_leafOf_X7_sealed rfl rfl rfl kvX7_sealed ⟨Nat.le_of_ble_eq_true rfl, Nat.le_of_ble_eq_true rfl⟩) rfl hP hD hK hN hS (Nat.le_refl _) [0] rfl rfl rfl rfl 0 rfl rfl rfl rfl rfl hl.1 rfl (Nat.le_of_ble_eq_true rfl) dX7_leafOf_52 ⟨Nat.zero_le _, Nat.zero_le _⟩ (fun H locs hP hS => ?_)
      replace hP : zP G [shM G xM] [uM] H := hP
      cases h
      exact z_lret hx hb hr hlk hP hS dX7_leafOf_55
    · replace h := zf hc h
      refine lv_aload_n hx hb dX7_leafOf_29 rfl (lv_at hl 0 rfl) ?_
      refine lv_aload_n hx hb dX7_leafOf_30 rfl (lv_at hl 0 rfl) ?_
      refine rM_3 hx hb hwX7 hown hK hP 0 (xM) rfl rfl (hts _ (List.mem_of_getElem? (i := 3) rfl)) dX7_leafOf_31 ?_
      refine lv_bipush (v := 6) hx hb dX7_leafOf_34 (by decide) ?_
      refine lv_iload_n hx hb dX7_leafOf_36 rfl (lv_at hl 1 rfl) ?_
      refine lv_imul hx hb dX7_leafOf_37 ?_
      refine lv_iload_n hx hb dX7_leafOf_38 rfl (lv_at hl 2 rfl) ?_
      refine lv_iadd hx hb dX7_leafOf_39 ?_
      obtain ⟨hi, h⟩ := zin_e h
      refine aM_3 hx hb hK hP 0 (xM) rfl rfl hi rfl dX7_leafOf_40 ?_
      refine lv_i2l (v := (gA uM 3 ((((6 : Int32) * l1) + l2)).toNatClampNeg).toInt64) hx hb dX7_leafOf_41 rfl ?_
      obtain ⟨uM_2, hg, h⟩ := zb1_e h
      refine z_callV (As := [.long (((gA uM 3 ((((6 : Int32) * l1) + l2)).toNatClampNeg).toInt64))]) (rest := []) (i := 0) ⟨hx, hb, hml, hown, hts⟩ (mX7_mingle l G (xM) hg) (cwV 1 hts gX7_leafOf_X7_mingle rfl rfl rfl kvX7_mingle ⟨Nat.le_of_ble_eq_true rfl, Nat.le_of_ble_eq_true rfl⟩) rfl hP hD hK hN hS (Nat.le_refl _) [0] rfl rfl rfl rfl 0 rfl rfl rfl rfl rfl hl.1 rfl (Nat.le_of_ble_eq_true rfl) dX7_leafOf_42 ⟨Nat.zero_le _, Nat.zero_le _⟩ (fun H locs hP hS => ?_)
      replace hP : zP G [shM G xM] [uM_2] H := hP
      refine lv_iinc (v := (l2 + (1 : Int32))) (lv' := [(2, .int ((l2 + (1 : Int32)))), (0, .ref (xM 0)), (1, .int l1)]) hx hb dX7_leafOf_45 hl (k := 2) rfl rfl (by decide) rfl (fun ls hl => ?_)
      refine lv_goto (tgt := 23) hx hb dX7_leafOf_48 (by decide) ?_
      exact K23 _ _ _ h _ _ hP hS _ (lv_sub hl [1, 2, 0] rfl)
set_option maxRecDepth 20000 in
theorem mX7_leafOf (l : Launch) (G : zG) (xM : Nat → Nat) {uM : zSt} {l1 : Int32} {rr : Int64} {vM : zSt} (h : fX7_leafOf uM l1 = some (rr, vM)) : zC l yX7_leafOf wsX7_leafOf rmX7_leafOf [.ref (xM 0), .int l1] G [shM G xM] [uM] [vM] (some (.long rr)) := by
  refine z_ofW (cc := cX7_leafOf) (maxL := 3) (ret := some .long) (by decide) rfl (Nat.le_of_ble_eq_true rfl) ?_
  intro p e s m args below meth c C0 hK hN hD hP ls hl
  obtain ⟨hx, hb, hr, hml, hown, hts, hlk⟩ := id C0
  have hS : va_S (zA [shM G xM] s.heap.size) s.heap s.heap [] := va_S.rf
  replace hl : lv_has ls 3 [(0, .ref (xM 0)), (1, .int l1)] := hl
  have hwX7 : ∀ w ∈ wsX70, w.before args s = true := fun w h => hts w (List.mem_cons_of_mem _ (List.mem_append_right _ h))
  unfold fX7_leafOf at h
  refine lv_aload_n hx hb dX7_leafOf_0 rfl (lv_at hl 0 rfl) ?_
  refine lv_lconst (v := 0) hx hb dX7_leafOf_1 rfl ?_
  refine pM_33 hx hb hwX7 hown hK hP hD hS 0 (xM) rfl rfl (hts _ (List.mem_of_getElem? (i := 1) rfl)) dX7_leafOf_2 (fun H locs hP hS => ?_)
  replace hP : zP G [shM G xM] [(sJ uM 33 ((0 : Int64)))] H := hP
  refine lv_aload_n hx hb dX7_leafOf_5 rfl (lv_at hl 0 rfl) ?_
  refine lv_lconst (v := 0) hx hb dX7_leafOf_6 rfl ?_
  obtain ⟨uM_3, hg, h⟩ := zb1_e h
  refine z_callV (As := [.long ((0 : Int64))]) (rest := []) (i := 0) ⟨hx, hb, hml, hown, hts⟩ (mX7_mingle l G (xM) hg) (cwV 1 hts gX7_leafOf_X7_mingle rfl rfl rfl kvX7_mingle ⟨Nat.le_of_ble_eq_true rfl, Nat.le_of_ble_eq_true rfl⟩) rfl hP hD hK hN hS (Nat.le_refl _) [0] rfl rfl rfl rfl 0 rfl rfl rfl rfl rfl hl.1 rfl (Nat.le_of_ble_eq_true rfl) dX7_leafOf_7 ⟨Nat.zero_le _, Nat.zero_le _⟩ (fun H locs hP hS => ?_)
  replace hP : zP G [shM G xM] [uM_3] H := hP
  refine lv_aload_n hx hb dX7_leafOf_10 rfl (lv_at hl 0 rfl) ?_
  refine lv_aload_n hx hb dX7_leafOf_11 rfl (lv_at hl 0 rfl) ?_
  refine rM_2 hx hb hwX7 hown hK hP 0 (xM) rfl rfl (hts _ (List.mem_of_getElem? (i := 2) rfl)) dX7_leafOf_12 ?_
  refine lv_iload_n hx hb dX7_leafOf_15 rfl (lv_at hl 1 rfl) ?_
  obtain ⟨hi, h⟩ := zin_e h
  refine aM_2 hx hb hK hP 0 (xM) rfl rfl hi rfl dX7_leafOf_16 ?_
  refine lv_i2l (v := (gA uM_3 2 l1.toNatClampNeg).toInt64) hx hb dX7_leafOf_17 rfl ?_
  obtain ⟨uM_4, hg, h⟩ := zb1_e h
  refine z_callV (As := [.long (((gA uM_3 2 l1.toNatClampNeg).toInt64))]) (rest := []) (i := 0) ⟨hx, hb, hml, hown, hts⟩ (mX7_mingle l G (xM) hg) (cwV 1 hts gX7_leafOf_X7_mingle rfl rfl rfl kvX7_mingle ⟨Nat.le_of_ble_eq_true rfl, Nat.le_of_ble_eq_true rfl⟩) rfl hP hD hK hN hS (Nat.le_refl _) [0] rfl rfl rfl rfl 0 rfl rfl rfl rfl rfl hl.1 rfl (Nat.le_of_ble_eq_true rfl) dX7_leafOf_18 ⟨Nat.zero_le _, Nat.zero_le _⟩ (fun H locs hP hS => ?_)
  replace hP : zP G [shM G xM] [uM_4] H := hP
  refine lv_iconst (v := 0) hx hb dX7_leafOf_21 (by decide) ?_
  refine lv_istore_n (lv' := [(2, .int ((0 : Int32))), (0, .ref (xM 0)), (1, .int l1)]) hx hb dX7_leafOf_22 rfl hl (by decide) rfl (fun ls hl => ?_)
  exact tlX7_leafOf_23 C0 hK hN hD  1000 _ _ _ h _ _ hP hS _ (lv_sub hl [1, 2, 0] rfl)
end
def rmX7_leaf : Room := { frames := 2, cells := 0, slots := 0, locals := 44 }
theorem kvX7_leaf : yX7_leaf.cls = RX7 ∧ yX7_leaf.cls ≠ "java/lang/invoke/MethodHandle" ∧ yX7_leaf.cls ≠ "java/lang/invoke/VarHandle" ∧ (parseMethodDescriptor yX7_leaf.desc).map (fun d => d.parameters.length) = some 1 := by decide +kernel
section
variable {p : Program} {l : Launch} {e : Env} {s : State} {m : MethodId} {args : Array Value} {below : List Frame} {meth : Method} {c : Code} {G : zG} {xM : Nat → Nat} {rr : Int64} {vM : zSt}
set_option maxRecDepth 20000 in
theorem tX7_leaf_14 (C0 : zCtx p s m args meth c cX7_leaf RX7 wsX7_leaf 2 (some .long)) (hK : zK G s) (hN : zN s) (hD : zD [shM G xM])  : ∀ (uM : zSt) (l1 : Int32) (s1 : Int32), bX7_leaf_14  uM l1 s1 = some (rr, vM) → ∀ (H : Heap) (locs : List Loc), zP G [shM G xM] [uM] H → va_S (zA [shM G xM] s.heap.size) s.heap H locs → ∀ ls : Array Slot, lv_has ls 2 [(0, .ref (xM 0)), (1, .int l1)] → W p l e rmX7_leaf s m args below meth c H locs 0 0 (MQ below (zQ G [shM G xM] [vM] (zA [shM G xM] s.heap.size) (some (.long rr))) args s 0 0 (zA [shM G xM] s.heap.size)) (F0 m 14 ls [.int s1, .ref (xM 0)]) := by
  obtain ⟨hx, hb, hr, hml, hown, hts, hlk⟩ := id C0
  have hwX7 : ∀ w ∈ wsX70, w.before args s = true := fun w h => hts w (List.mem_cons_of_mem _ (List.mem_append_right _ h))
  intro uM l1 s1 h H locs hP hS ls hl
  unfold bX7_leaf_14 at h
  refine pM_0 hx hb hwX7 hown hK hP hD hS 0 (xM) rfl rfl (hts _ (List.mem_of_getElem? (i := 1) rfl)) dX7_leaf_14 (fun H locs hP hS => ?_)
  replace hP : zP G [shM G xM] [(sI uM 0 s1)] H := hP
  refine lv_aload_n hx hb dX7_leaf_17 rfl (lv_at hl 0 rfl) ?_
  refine rM_0 hx hb hwX7 hown hK hP 0 (xM) rfl rfl (hts _ (List.mem_of_getElem? (i := 1) rfl)) dX7_leaf_18 ?_
  refine lv_if_le (tgt := 28) hx hb dX7_leaf_21 (by decide) (fun hc => ?_) (fun hc => ?_)
  · replace h := zt hc h
    refine lv_aload_n hx hb dX7_leaf_28 rfl (lv_at hl 0 rfl) ?_
    refine lv_iload_n hx hb dX7_leaf_29 rfl (lv_at hl 1 rfl) ?_
    obtain ⟨r_1, uM_2, hg, h⟩ := zb2_e h
    refine z_callV (As := [.int l1]) (rest := []) (i := 0) ⟨hx, hb, hml, hown, hts⟩ (mX7_leafOf l G (xM) hg) (cwV 1 hts gX7_leaf_X7_leafOf rfl rfl rfl kvX7_leafOf ⟨Nat.le_of_ble_eq_true rfl, Nat.le_of_ble_eq_true rfl⟩) rfl hP hD hK hN hS (Nat.le_refl _) [0] rfl rfl rfl rfl 0 rfl rfl rfl rfl rfl hl.1 rfl (Nat.le_of_ble_eq_true rfl) dX7_leaf_30 ⟨Nat.zero_le _, Nat.zero_le _⟩ (fun H locs hP hS => ?_)
    replace hP : zP G [shM G xM] [uM_2] H := hP
    cases h
    exact z_lret hx hb hr hlk hP hS dX7_leaf_33
  · replace h := zf hc h
    refine lv_lconst (v := 0) hx hb dX7_leaf_24 rfl ?_
    refine lv_goto (tgt := 33) hx hb dX7_leaf_25 (by decide) ?_
    cases h
    exact z_lret hx hb hr hlk hP hS dX7_leaf_33
set_option maxRecDepth 20000 in
theorem mX7_leaf (l : Launch) (G : zG) (xM : Nat → Nat) {uM : zSt} {l1 : Int32} {rr : Int64} {vM : zSt} (h : fX7_leaf uM l1 = some (rr, vM)) : zC l yX7_leaf wsX7_leaf rmX7_leaf [.ref (xM 0), .int l1] G [shM G xM] [uM] [vM] (some (.long rr)) := by
  refine z_ofW (cc := cX7_leaf) (maxL := 2) (ret := some .long) (by decide) rfl (Nat.le_of_ble_eq_true rfl) ?_
  intro p e s m args below meth c C0 hK hN hD hP ls hl
  obtain ⟨hx, hb, hr, hml, hown, hts, hlk⟩ := id C0
  have hS : va_S (zA [shM G xM] s.heap.size) s.heap s.heap [] := va_S.rf
  replace hl : lv_has ls 2 [(0, .ref (xM 0)), (1, .int l1)] := hl
  unfold fX7_leaf at h
  refine lv_aload_n hx hb dX7_leaf_0 rfl (lv_at hl 0 rfl) ?_
  refine lv_aload_n hx hb dX7_leaf_1 rfl (lv_at hl 0 rfl) ?_
  refine lv_iload_n hx hb dX7_leaf_2 rfl (lv_at hl 1 rfl) ?_
  obtain ⟨r_3, hg, h⟩ := zb1_e h
  refine z_callV (As := [.int l1]) (rest := [.ref (xM 0)]) (i := 0) ⟨hx, hb, hml, hown, hts⟩ (mX7_noRecord l G (xM) hg) (cwV 1 hts gX7_leaf_X7_noRecord rfl rfl rfl kvX7_noRecord ⟨Nat.le_of_ble_eq_true rfl, Nat.le_of_ble_eq_true rfl⟩) rfl hP hD hK hN hS (Nat.le_refl _) [0] rfl rfl rfl rfl 0 rfl rfl rfl rfl rfl hl.1 rfl (Nat.le_of_ble_eq_true rfl) dX7_leaf_3 ⟨Nat.zero_le _, Nat.zero_le _⟩ (fun H locs hP hS => ?_)
  replace hP : zP G [shM G xM] [uM] H := hP
  refine lv_if_eq (tgt := 13) hx hb dX7_leaf_6 (by decide) (fun hc => ?_) (fun hc => ?_)
  · replace h := zt hc h
    refine lv_iconst (v := 0) hx hb dX7_leaf_13 (by decide) ?_
    exact tX7_leaf_14 C0 hK hN hD  _ _ _ h _ _ hP hS _ (lv_sub hl [0, 1] rfl)
  · replace h := zf hc h
    refine lv_iconst (v := 1) hx hb dX7_leaf_9 (by decide) ?_
    refine lv_goto (tgt := 14) hx hb dX7_leaf_10 (by decide) ?_
    exact tX7_leaf_14 C0 hK hN hD  _ _ _ h _ _ hP hS _ (lv_sub hl [0, 1] rfl)
end
def rmX7_headOf : Room := { frames := 2, cells := 0, slots := 0, locals := 46 }
theorem kvX7_headOf : yX7_headOf.cls = RX7 ∧ yX7_headOf.cls ≠ "java/lang/invoke/MethodHandle" ∧ yX7_headOf.cls ≠ "java/lang/invoke/VarHandle" ∧ (parseMethodDescriptor yX7_headOf.desc).map (fun d => d.parameters.length) = some 2 := by decide +kernel
section
variable {p : Program} {l : Launch} {e : Env} {s : State} {m : MethodId} {args : Array Value} {below : List Frame} {meth : Method} {c : Code} {G : zG} {xM : Nat → Nat} {rr : Int64} {vM : zSt}
set_option maxRecDepth 20000 in
theorem tX7_headOf_102 (C0 : zCtx p s m args meth c cX7_headOf RX7 wsX7_headOf 5 (some .long)) (hK : zK G s) (hN : zN s) (hD : zD [shM G xM]) {k28 : zSt → Int32 → Option (Int64 × zSt)} (K28 : ∀ (uM : zSt) (l3 : Int32), k28 uM l3 = some (rr, vM) → ∀ (H : Heap) (locs : List Loc), zP G [shM G xM] [uM] H → va_S (zA [shM G xM] s.heap.size) s.heap H locs → ∀ ls : Array Slot, lv_has ls 5 [(0, .ref (xM 0)), (3, .int l3)] → W p l e rmX7_headOf s m args below meth c H locs 0 0 (MQ below (zQ G [shM G xM] [vM] (zA [shM G xM] s.heap.size) (some (.long rr))) args s 0 0 (zA [shM G xM] s.heap.size)) (F0 m 28 ls [])) : ∀ (uM : zSt) (l3 : Int32), bX7_headOf_102 k28 uM l3 = some (rr, vM) → ∀ (H : Heap) (locs : List Loc), zP G [shM G xM] [uM] H → va_S (zA [shM G xM] s.heap.size) s.heap H locs → ∀ ls : Array Slot, lv_has ls 5 [(0, .ref (xM 0)), (3, .int l3)] → W p l e rmX7_headOf s m args below meth c H locs 0 0 (MQ below (zQ G [shM G xM] [vM] (zA [shM G xM] s.heap.size) (some (.long rr))) args s 0 0 (zA [shM G xM] s.heap.size)) (F0 m 102 ls []) := by
  obtain ⟨hx, hb, hr, hml, hown, hts, hlk⟩ := id C0
  intro uM l3 h H locs hP hS ls hl
  unfold bX7_headOf_102 at h
  refine lv_iload_n hx hb dX7_headOf_102 rfl (lv_at hl 1 rfl) ?_
  refine lv_iconst (v := 2) hx hb dX7_headOf_103 (by decide) ?_
  refine lv_idiv hx hb dX7_headOf_104 (by decide) ?_
  refine lv_iload_n hx hb dX7_headOf_105 rfl (lv_at hl 1 rfl) ?_
  refine lv_iconst (v := 2) hx hb dX7_headOf_106 (by decide) ?_
  refine lv_irem hx hb dX7_headOf_107 (by decide) ?_
  refine lv_iadd hx hb dX7_headOf_108 ?_
  refine lv_istore_n (lv' := [(3, .int (((l3 / (2 : Int32)) + (l3 - l3 / (2 : Int32) * (2 : Int32))))), (0, .ref (xM 0))]) hx hb dX7_headOf_109 rfl hl (by decide) rfl (fun ls hl => ?_)
  refine lv_goto (tgt := 28) hx hb dX7_headOf_110 (by decide) ?_
  exact K28 _ _ h _ _ hP hS _ (lv_sub hl [1, 0] rfl)
set_option maxRecDepth 20000 in
theorem tlX7_headOf_36 (C0 : zCtx p s m args meth c cX7_headOf RX7 wsX7_headOf 5 (some .long)) (hK : zK G s) (hN : zN s) (hD : zD [shM G xM]) {k28 : zSt → Int32 → Option (Int64 × zSt)} (K28 : ∀ (uM : zSt) (l3 : Int32), k28 uM l3 = some (rr, vM) → ∀ (H : Heap) (locs : List Loc), zP G [shM G xM] [uM] H → va_S (zA [shM G xM] s.heap.size) s.heap H locs → ∀ ls : Array Slot, lv_has ls 5 [(0, .ref (xM 0)), (3, .int l3)] → W p l e rmX7_headOf s m args below meth c H locs 0 0 (MQ below (zQ G [shM G xM] [vM] (zA [shM G xM] s.heap.size) (some (.long rr))) args s 0 0 (zA [shM G xM] s.heap.size)) (F0 m 28 ls [])) : ∀ (n : Nat), ∀ (uM : zSt) (l3 : Int32) (l4 : Int32), lX7_headOf_36 k28 n uM l3 l4 = some (rr, vM) → ∀ (H : Heap) (locs : List Loc), zP G [shM G xM] [uM] H → va_S (zA [shM G xM] s.heap.size) s.heap H locs → ∀ ls : Array Slot, lv_has ls 5 [(0, .ref (xM 0)), (3, .int l3), (4, .int l4)] → W p l e rmX7_headOf s m args below meth c H locs 0 0 (MQ below (zQ G [shM G xM] [vM] (zA [shM G xM] s.heap.size) (some (.long rr))) args s 0 0 (zA [shM G xM] s.heap.size)) (F0 m 36 ls []) := by
  obtain ⟨hx, hb, hr, hml, hown, hts, hlk⟩ := id C0
  have hwX7 : ∀ w ∈ wsX70, w.before args s = true := fun w h => hts w (List.mem_cons_of_mem _ (List.mem_append_right _ h))
  intro n
  induction n with
  | zero => intro uM l3 l4 h; exact absurd h (fun q => nomatch q)
  | succ n K36 =>
    intro uM l3 l4 h H locs hP hS ls hl
    replace h : bX7_headOf_36 k28 (lX7_headOf_36 k28 n) uM l3 l4 = some (rr, vM) := h
    unfold bX7_headOf_36 at h
    refine lv_iload hx hb dX7_headOf_36 (lv_at hl 2 rfl) ?_
    refine lv_iconst (v := 1) hx hb dX7_headOf_38 (by decide) ?_
    refine lv_iadd hx hb dX7_headOf_39 ?_
    refine lv_iload_n hx hb dX7_headOf_40 rfl (lv_at hl 1 rfl) ?_
    refine lv_icmp_ge (tgt := 79) hx hb dX7_headOf_41 (by decide) (fun hc => ?_) (fun hc => ?_)
    · replace h := zt hc h
      refine lv_iload_n hx hb dX7_headOf_79 rfl (lv_at hl 1 rfl) ?_
      refine lv_iconst (v := 2) hx hb dX7_headOf_80 (by decide) ?_
      refine lv_irem hx hb dX7_headOf_81 (by decide) ?_
      refine lv_iconst (v := 1) hx hb dX7_headOf_82 (by decide) ?_
      refine lv_icmp_ne (tgt := 102) hx hb dX7_headOf_83 (by decide) (fun hc => ?_) (fun hc => ?_)
      · replace h := zf hc h
        exact tX7_headOf_102 C0 hK hN hD K28 _ _ h _ _ hP hS _ (lv_sub hl [0, 1] rfl)
      · replace h := zt hc h
        refine lv_aload_n hx hb dX7_headOf_86 rfl (lv_at hl 0 rfl) ?_
        refine rM_34 hx hb hwX7 hown hK hP 0 (xM) rfl rfl (hts _ (List.mem_of_getElem? (i := 1) rfl)) dX7_headOf_87 ?_
        refine lv_iload_n hx hb dX7_headOf_90 rfl (lv_at hl 1 rfl) ?_
        refine lv_iconst (v := 2) hx hb dX7_headOf_91 (by decide) ?_
        refine lv_idiv hx hb dX7_headOf_92 (by decide) ?_
        refine lv_aload_n hx hb dX7_headOf_93 rfl (lv_at hl 0 rfl) ?_
        refine rM_34 hx hb hwX7 hown hK hP 0 (xM) rfl rfl (hts _ (List.mem_of_getElem? (i := 1) rfl)) dX7_headOf_94 ?_
        refine lv_iload_n hx hb dX7_headOf_97 rfl (lv_at hl 1 rfl) ?_
        refine lv_iconst (v := 1) hx hb dX7_headOf_98 (by decide) ?_
        refine lv_isub hx hb dX7_headOf_99 ?_
        obtain ⟨hi, h⟩ := zin_e h
        refine aM_34 hx hb hK hP 0 (xM) rfl rfl hi rfl dX7_headOf_100 ?_
        obtain ⟨hi, h⟩ := zin_e h
        refine tM_34 hx hb hK hP hD hS 0 (xM) rfl rfl hi rfl dX7_headOf_101 (fun H locs hP hS => ?_)
        replace hP : zP G [shM G xM] [(sL uM 34 ((l3 / (2 : Int32))).toNatClampNeg ((gL uM 34 ((l3 - (1 : Int32))).toNatClampNeg)))] H := hP
        exact tX7_headOf_102 C0 hK hN hD K28 _ _ h _ _ hP hS _ (lv_sub hl [0, 1] rfl)
    · replace h := zf hc h
      refine lv_aload_n hx hb dX7_headOf_44 rfl (lv_at hl 0 rfl) ?_
      refine rM_34 hx hb hwX7 hown hK hP 0 (xM) rfl rfl (hts _ (List.mem_of_getElem? (i := 1) rfl)) dX7_headOf_45 ?_
      refine lv_iload hx hb dX7_headOf_48 (lv_at hl 2 rfl) ?_
      refine lv_iconst (v := 2) hx hb dX7_headOf_50 (by decide) ?_
      refine lv_idiv hx hb dX7_headOf_51 (by decide) ?_
      refine lv_aload_n hx hb dX7_headOf_52 rfl (lv_at hl 0 rfl) ?_
      refine lv_aload_n hx hb dX7_headOf_53 rfl (lv_at hl 0 rfl) ?_
      refine rM_34 hx hb hwX7 hown hK hP 0 (xM) rfl rfl (hts _ (List.mem_of_getElem? (i := 1) rfl)) dX7_headOf_54 ?_
      refine lv_iload hx hb dX7_headOf_57 (lv_at hl 2 rfl) ?_
      obtain ⟨hi, h⟩ := zin_e h
      refine aM_34 hx hb hK hP 0 (xM) rfl rfl hi rfl dX7_headOf_59 ?_
      refine lv_aload_n hx hb dX7_headOf_60 rfl (lv_at hl 0 rfl) ?_
      refine rM_34 hx hb hwX7 hown hK hP 0 (xM) rfl rfl (hts _ (List.mem_of_getElem? (i := 1) rfl)) dX7_headOf_61 ?_
      refine lv_iload hx hb dX7_headOf_64 (lv_at hl 2 rfl) ?_
      refine lv_iconst (v := 1) hx hb dX7_headOf_66 (by decide) ?_
      refine lv_iadd hx hb dX7_headOf_67 ?_
      obtain ⟨hi, h⟩ := zin_e h
      refine aM_34 hx hb hK hP 0 (xM) rfl rfl hi rfl dX7_headOf_68 ?_
      obtain ⟨r_1, uM_2, hg, h⟩ := zb2_e h
      refine z_callV (As := [.long ((gL uM 34 l4.toNatClampNeg)), .long ((gL uM 34 ((l4 + (1 : Int32))).toNatClampNeg))]) (rest := [.int ((l4 / (2 : Int32))), .ref (xM 26)]) (i := 0) ⟨hx, hb, hml, hown, hts⟩ (mX7_joined l G (xM) hg) (cwV 2 hts gX7_headOf_X7_joined rfl rfl rfl kvX7_joined ⟨Nat.le_of_ble_eq_true rfl, Nat.le_of_ble_eq_true rfl⟩) rfl hP hD hK hN hS (Nat.le_refl _) [0] rfl rfl rfl rfl 0 rfl rfl rfl rfl rfl hl.1 rfl (Nat.le_of_ble_eq_true rfl) dX7_headOf_69 ⟨Nat.zero_le _, Nat.zero_le _⟩ (fun H locs hP hS => ?_)
      replace hP : zP G [shM G xM] [uM_2] H := hP
      obtain ⟨hi, h⟩ := zin_e h
      refine tM_34 hx hb hK hP hD hS 0 (xM) rfl rfl hi rfl dX7_headOf_72 (fun H locs hP hS => ?_)
      replace hP : zP G [shM G xM] [(sL uM_2 34 ((l4 / (2 : Int32))).toNatClampNeg r_1)] H := hP
      refine lv_iinc (v := (l4 + (2 : Int32))) (lv' := [(4, .int ((l4 + (2 : Int32)))), (0, .ref (xM 0)), (3, .int l3)]) hx hb dX7_headOf_73 hl (k := 2) rfl rfl (by decide) rfl (fun ls hl => ?_)
      refine lv_goto (tgt := 36) hx hb dX7_headOf_76 (by decide) ?_
      exact K36 _ _ _ h _ _ hP hS _ (lv_sub hl [1, 2, 0] rfl)
set_option maxRecDepth 20000 in
theorem tlX7_headOf_28 (C0 : zCtx p s m args meth c cX7_headOf RX7 wsX7_headOf 5 (some .long)) (hK : zK G s) (hN : zN s) (hD : zD [shM G xM])  : ∀ (n : Nat), ∀ (uM : zSt) (l3 : Int32), lX7_headOf_28  n uM l3 = some (rr, vM) → ∀ (H : Heap) (locs : List Loc), zP G [shM G xM] [uM] H → va_S (zA [shM G xM] s.heap.size) s.heap H locs → ∀ ls : Array Slot, lv_has ls 5 [(0, .ref (xM 0)), (3, .int l3)] → W p l e rmX7_headOf s m args below meth c H locs 0 0 (MQ below (zQ G [shM G xM] [vM] (zA [shM G xM] s.heap.size) (some (.long rr))) args s 0 0 (zA [shM G xM] s.heap.size)) (F0 m 28 ls []) := by
  obtain ⟨hx, hb, hr, hml, hown, hts, hlk⟩ := id C0
  have hwX7 : ∀ w ∈ wsX70, w.before args s = true := fun w h => hts w (List.mem_cons_of_mem _ (List.mem_append_right _ h))
  intro n
  induction n with
  | zero => intro uM l3 h; exact absurd h (fun q => nomatch q)
  | succ n K28 =>
    intro uM l3 h H locs hP hS ls hl
    replace h : bX7_headOf_28  (lX7_headOf_28  n) uM l3 = some (rr, vM) := h
    unfold bX7_headOf_28 at h
    refine lv_iload_n hx hb dX7_headOf_28 rfl (lv_at hl 1 rfl) ?_
    refine lv_iconst (v := 1) hx hb dX7_headOf_29 (by decide) ?_
    refine lv_icmp_le (tgt := 113) hx hb dX7_headOf_30 (by decide) (fun hc => ?_) (fun hc => ?_)
    · replace h := zt hc h
      refine lv_aload_n hx hb dX7_headOf_113 rfl (lv_at hl 0 rfl) ?_
      refine rM_34 hx hb hwX7 hown hK hP 0 (xM) rfl rfl (hts _ (List.mem_of_getElem? (i := 1) rfl)) dX7_headOf_114 ?_
      refine lv_iconst (v := 0) hx hb dX7_headOf_117 (by decide) ?_
      refine aM_34 hx hb hK hP 0 (xM) rfl rfl (zvi tn_0 n0_0 (by decide)) tn_0 dX7_headOf_118 ?_
      cases h
      exact z_lret hx hb hr hlk hP hS dX7_headOf_119
    · replace h := zf hc h
      refine lv_iconst (v := 0) hx hb dX7_headOf_33 (by decide) ?_
      refine lv_istore (lv' := [(4, .int ((0 : Int32))), (0, .ref (xM 0)), (3, .int l3)]) hx hb dX7_headOf_34 hl (by decide) rfl (fun ls hl => ?_)
      exact tlX7_headOf_36 C0 hK hN hD K28 1000 _ _ _ h _ _ hP hS _ (lv_sub hl [1, 2, 0] rfl)
set_option maxRecDepth 20000 in
theorem tlX7_headOf_2 (C0 : zCtx p s m args meth c cX7_headOf RX7 wsX7_headOf 5 (some .long)) (hK : zK G s) (hN : zN s) (hD : zD [shM G xM])  : ∀ (n : Nat), ∀ (uM : zSt) (l1 : Int32) (l2 : Int32) (l3 : Int32), lX7_headOf_2  n uM l1 l2 l3 = some (rr, vM) → ∀ (H : Heap) (locs : List Loc), zP G [shM G xM] [uM] H → va_S (zA [shM G xM] s.heap.size) s.heap H locs → ∀ ls : Array Slot, lv_has ls 5 [(0, .ref (xM 0)), (1, .int l1), (2, .int l2), (3, .int l3)] → W p l e rmX7_headOf s m args below meth c H locs 0 0 (MQ below (zQ G [shM G xM] [vM] (zA [shM G xM] s.heap.size) (some (.long rr))) args s 0 0 (zA [shM G xM] s.heap.size)) (F0 m 2 ls []) := by
  obtain ⟨hx, hb, hr, hml, hown, hts, hlk⟩ := id C0
  have hwX7 : ∀ w ∈ wsX70, w.before args s = true := fun w h => hts w (List.mem_cons_of_mem _ (List.mem_append_right _ h))
  intro n
  induction n with
  | zero => intro uM l1 l2 l3 h; exact absurd h (fun q => nomatch q)
  | succ n K2 =>
    intro uM l1 l2 l3 h H locs hP hS ls hl
    replace h : bX7_headOf_2  (lX7_headOf_2  n) uM l1 l2 l3 = some (rr, vM) := h
    unfold bX7_headOf_2 at h
    refine lv_iload_n hx hb dX7_headOf_2 rfl (lv_at hl 3 rfl) ?_
    refine lv_iload_n hx hb dX7_headOf_3 rfl (lv_at hl 2 rfl) ?_
    refine lv_icmp_ge (tgt := 26) hx hb dX7_headOf_4 (by decide) (fun hc => ?_) (fun hc => ?_)
    · replace h := zt hc h
      refine lv_iload_n hx hb dX7_headOf_26 rfl (lv_at hl 2 rfl) ?_
      refine lv_istore_n (lv' := [(3, .int l2), (0, .ref (xM 0)), (1, .int l1), (2, .int l2)]) hx hb dX7_headOf_27 rfl hl (by decide) rfl (fun ls hl => ?_)
      exact tlX7_headOf_28 C0 hK hN hD  1000 _ _ h _ _ hP hS _ (lv_sub hl [1, 0] rfl)
    · replace h := zf hc h
      refine lv_aload_n hx hb dX7_headOf_7 rfl (lv_at hl 0 rfl) ?_
      refine rM_34 hx hb hwX7 hown hK hP 0 (xM) rfl rfl (hts _ (List.mem_of_getElem? (i := 1) rfl)) dX7_headOf_8 ?_
      refine lv_iload_n hx hb dX7_headOf_11 rfl (lv_at hl 3 rfl) ?_
      refine lv_aload_n hx hb dX7_headOf_12 rfl (lv_at hl 0 rfl) ?_
      refine lv_iload_n hx hb dX7_headOf_13 rfl (lv_at hl 1 rfl) ?_
      refine lv_iload_n hx hb dX7_headOf_14 rfl (lv_at hl 3 rfl) ?_
      refine lv_iadd hx hb dX7_headOf_15 ?_
      obtain ⟨r_3, uM_4, hg, h⟩ := zb2_e h
      refine z_callV (As := [.int ((l1 + l3))]) (rest := [.int l3, .ref (xM 26)]) (i := 0) ⟨hx, hb, hml, hown, hts⟩ (mX7_leafOf l G (xM) hg) (cwV 1 hts gX7_headOf_X7_leafOf rfl rfl rfl kvX7_leafOf ⟨Nat.le_of_ble_eq_true rfl, Nat.le_of_ble_eq_true rfl⟩) rfl hP hD hK hN hS (Nat.le_refl _) [0] rfl rfl rfl rfl 0 rfl rfl rfl rfl rfl hl.1 rfl (Nat.le_of_ble_eq_true rfl) dX7_headOf_16 ⟨Nat.zero_le _, Nat.zero_le _⟩ (fun H locs hP hS => ?_)
      replace hP : zP G [shM G xM] [uM_4] H := hP
      obtain ⟨hi, h⟩ := zin_e h
      refine tM_34 hx hb hK hP hD hS 0 (xM) rfl rfl hi rfl dX7_headOf_19 (fun H locs hP hS => ?_)
      replace hP : zP G [shM G xM] [(sL uM_4 34 l3.toNatClampNeg r_3)] H := hP
      refine lv_iinc (v := (l3 + (1 : Int32))) (lv' := [(3, .int ((l3 + (1 : Int32)))), (0, .ref (xM 0)), (1, .int l1), (2, .int l2)]) hx hb dX7_headOf_20 hl (k := 3) rfl rfl (by decide) rfl (fun ls hl => ?_)
      refine lv_goto (tgt := 2) hx hb dX7_headOf_23 (by decide) ?_
      exact K2 _ _ _ _ h _ _ hP hS _ (lv_sub hl [1, 2, 3, 0] rfl)
set_option maxRecDepth 20000 in
theorem mX7_headOf (l : Launch) (G : zG) (xM : Nat → Nat) {uM : zSt} {l1 : Int32} {l2 : Int32} {rr : Int64} {vM : zSt} (h : fX7_headOf uM l1 l2 = some (rr, vM)) : zC l yX7_headOf wsX7_headOf rmX7_headOf [.ref (xM 0), .int l1, .int l2] G [shM G xM] [uM] [vM] (some (.long rr)) := by
  refine z_ofW (cc := cX7_headOf) (maxL := 5) (ret := some .long) (by decide) rfl (Nat.le_of_ble_eq_true rfl) ?_
  intro p e s m args below meth c C0 hK hN hD hP ls hl
  obtain ⟨hx, hb, hr, hml, hown, hts, hlk⟩ := id C0
  have hS : va_S (zA [shM G xM] s.heap.size) s.heap s.heap [] := va_S.rf
  replace hl : lv_has ls 5 [(0, .ref (xM 0)), (1, .int l1), (2, .int l2)] := hl
  unfold fX7_headOf at h
  refine lv_iconst (v := 0) hx hb dX7_headOf_0 (by decide) ?_
  refine lv_istore_n (lv' := [(3, .int ((0 : Int32))), (0, .ref (xM 0)), (1, .int l1), (2, .int l2)]) hx hb dX7_headOf_1 rfl hl (by decide) rfl (fun ls hl => ?_)
  exact tlX7_headOf_2 C0 hK hN hD  1000 _ _ _ _ h _ _ hP hS _ (lv_sub hl [1, 2, 3, 0] rfl)
end
def rmX7_head : Room := { frames := 3, cells := 0, slots := 0, locals := 70 }
theorem kvX7_head : yX7_head.cls = RX7 ∧ yX7_head.cls ≠ "java/lang/invoke/MethodHandle" ∧ yX7_head.cls ≠ "java/lang/invoke/VarHandle" ∧ (parseMethodDescriptor yX7_head.desc).map (fun d => d.parameters.length) = some 1 := by decide +kernel
section
variable {p : Program} {l : Launch} {e : Env} {s : State} {m : MethodId} {args : Array Value} {below : List Frame} {meth : Method} {c : Code} {G : zG} {xM : Nat → Nat} {rr : Int64} {vM : zSt}
set_option maxRecDepth 20000 in
theorem tX7_head_32 (C0 : zCtx p s m args meth c cX7_head RX7 wsX7_head 2 (some .long)) (hK : zK G s) (hN : zN s) (hD : zD [shM G xM])  : ∀ (uM : zSt), bX7_head_32  uM = some (rr, vM) → ∀ (H : Heap) (locs : List Loc), zP G [shM G xM] [uM] H → va_S (zA [shM G xM] s.heap.size) s.heap H locs → ∀ ls : Array Slot, lv_has ls 2 [] → W p l e rmX7_head s m args below meth c H locs 0 0 (MQ below (zQ G [shM G xM] [vM] (zA [shM G xM] s.heap.size) (some (.long rr))) args s 0 0 (zA [shM G xM] s.heap.size)) (F0 m 32 ls []) := by
  obtain ⟨hx, hb, hr, hml, hown, hts, hlk⟩ := id C0
  intro uM h H locs hP hS ls hl
  unfold bX7_head_32 at h
  refine lv_lconst (v := 0) hx hb dX7_head_32 rfl ?_
  refine lv_goto (tgt := 42) hx hb dX7_head_33 (by decide) ?_
  cases h
  exact z_lret hx hb hr hlk hP hS dX7_head_42
set_option maxRecDepth 20000 in
theorem tX7_head_18 (C0 : zCtx p s m args meth c cX7_head RX7 wsX7_head 2 (some .long)) (hK : zK G s) (hN : zN s) (hD : zD [shM G xM])  : ∀ (uM : zSt) (l1 : Int32) (s1 : Int32), bX7_head_18  uM l1 s1 = some (rr, vM) → ∀ (H : Heap) (locs : List Loc), zP G [shM G xM] [uM] H → va_S (zA [shM G xM] s.heap.size) s.heap H locs → ∀ ls : Array Slot, lv_has ls 2 [(0, .ref (xM 0)), (1, .int l1)] → W p l e rmX7_head s m args below meth c H locs 0 0 (MQ below (zQ G [shM G xM] [vM] (zA [shM G xM] s.heap.size) (some (.long rr))) args s 0 0 (zA [shM G xM] s.heap.size)) (F0 m 18 ls [.int s1, .ref (xM 0)]) := by
  obtain ⟨hx, hb, hr, hml, hown, hts, hlk⟩ := id C0
  have hwX7 : ∀ w ∈ wsX70, w.before args s = true := fun w h => hts w (List.mem_cons_of_mem _ (List.mem_append_right _ h))
  intro uM l1 s1 h H locs hP hS ls hl
  unfold bX7_head_18 at h
  refine pM_0 hx hb hwX7 hown hK hP hD hS 0 (xM) rfl rfl (hts _ (List.mem_of_getElem? (i := 2) rfl)) dX7_head_18 (fun H locs hP hS => ?_)
  replace hP : zP G [shM G xM] [(sI uM 0 s1)] H := hP
  refine lv_aload_n hx hb dX7_head_21 rfl (lv_at hl 0 rfl) ?_
  refine rM_0 hx hb hwX7 hown hK hP 0 (xM) rfl rfl (hts _ (List.mem_of_getElem? (i := 2) rfl)) dX7_head_22 ?_
  refine lv_if_gt (tgt := 32) hx hb dX7_head_25 (by decide) (fun hc => ?_) (fun hc => ?_)
  · replace h := zt hc h
    exact tX7_head_32 C0 hK hN hD  _ h _ _ hP hS _ (lv_sub hl [] rfl)
  · replace h := zf hc h
    refine lv_iload_n hx hb dX7_head_28 rfl (lv_at hl 1 rfl) ?_
    refine lv_if_ne (tgt := 36) hx hb dX7_head_29 (by decide) (fun hc => ?_) (fun hc => ?_)
    · replace h := zf hc h
      refine lv_aload_n hx hb dX7_head_36 rfl (lv_at hl 0 rfl) ?_
      refine lv_iconst (v := 0) hx hb dX7_head_37 (by decide) ?_
      refine lv_iload_n hx hb dX7_head_38 rfl (lv_at hl 1 rfl) ?_
      obtain ⟨r_1, uM_2, hg, h⟩ := zb2_e h
      refine z_callV (As := [.int ((0 : Int32)), .int l1]) (rest := []) (i := 0) ⟨hx, hb, hml, hown, hts⟩ (mX7_headOf l G (xM) hg) (cwV 2 hts gX7_head_X7_headOf rfl rfl rfl kvX7_headOf ⟨Nat.le_of_ble_eq_true rfl, Nat.le_of_ble_eq_true rfl⟩) rfl hP hD hK hN hS (Nat.le_refl _) [0] rfl rfl rfl rfl 0 rfl rfl rfl rfl rfl hl.1 rfl (Nat.le_of_ble_eq_true rfl) dX7_head_39 ⟨Nat.zero_le _, Nat.zero_le _⟩ (fun H locs hP hS => ?_)
      replace hP : zP G [shM G xM] [uM_2] H := hP
      cases h
      exact z_lret hx hb hr hlk hP hS dX7_head_42
    · replace h := zt hc h
      exact tX7_head_32 C0 hK hN hD  _ h _ _ hP hS _ (lv_sub hl [] rfl)
set_option maxRecDepth 20000 in
theorem tX7_head_13 (C0 : zCtx p s m args meth c cX7_head RX7 wsX7_head 2 (some .long)) (hK : zK G s) (hN : zN s) (hD : zD [shM G xM])  : ∀ (uM : zSt) (l1 : Int32), bX7_head_13  uM l1 = some (rr, vM) → ∀ (H : Heap) (locs : List Loc), zP G [shM G xM] [uM] H → va_S (zA [shM G xM] s.heap.size) s.heap H locs → ∀ ls : Array Slot, lv_has ls 2 [(0, .ref (xM 0)), (1, .int l1)] → W p l e rmX7_head s m args below meth c H locs 0 0 (MQ below (zQ G [shM G xM] [vM] (zA [shM G xM] s.heap.size) (some (.long rr))) args s 0 0 (zA [shM G xM] s.heap.size)) (F0 m 13 ls [.ref (xM 0)]) := by
  obtain ⟨hx, hb, hr, hml, hown, hts, hlk⟩ := id C0
  intro uM l1 h H locs hP hS ls hl
  unfold bX7_head_13 at h
  refine lv_iconst (v := 1) hx hb dX7_head_13 (by decide) ?_
  refine lv_goto (tgt := 18) hx hb dX7_head_14 (by decide) ?_
  exact tX7_head_18 C0 hK hN hD  _ _ _ h _ _ hP hS _ (lv_sub hl [0, 1] rfl)
set_option maxRecDepth 20000 in
theorem mX7_head (l : Launch) (G : zG) (xM : Nat → Nat) {uM : zSt} {l1 : Int32} {rr : Int64} {vM : zSt} (h : fX7_head uM l1 = some (rr, vM)) : zC l yX7_head wsX7_head rmX7_head [.ref (xM 0), .int l1] G [shM G xM] [uM] [vM] (some (.long rr)) := by
  refine z_ofW (cc := cX7_head) (maxL := 2) (ret := some .long) (by decide) rfl (Nat.le_of_ble_eq_true rfl) ?_
  intro p e s m args below meth c C0 hK hN hD hP ls hl
  obtain ⟨hx, hb, hr, hml, hown, hts, hlk⟩ := id C0
  have hS : va_S (zA [shM G xM] s.heap.size) s.heap s.heap [] := va_S.rf
  replace hl : lv_has ls 2 [(0, .ref (xM 0)), (1, .int l1)] := hl
  have hwX7 : ∀ w ∈ wsX70, w.before args s = true := fun w h => hts w (List.mem_cons_of_mem _ (List.mem_append_right _ h))
  unfold fX7_head at h
  refine lv_aload_n hx hb dX7_head_0 rfl (lv_at hl 0 rfl) ?_
  refine lv_iload_n hx hb dX7_head_1 rfl (lv_at hl 1 rfl) ?_
  refine lv_if_lt (tgt := 13) hx hb dX7_head_2 (by decide) (fun hc => ?_) (fun hc => ?_)
  · replace h := zt hc h
    exact tX7_head_13 C0 hK hN hD  _ _ h _ _ hP hS _ (lv_sub hl [0, 1] rfl)
  · replace h := zf hc h
    refine lv_iload_n hx hb dX7_head_5 rfl (lv_at hl 1 rfl) ?_
    refine lv_aload_n hx hb dX7_head_6 rfl (lv_at hl 0 rfl) ?_
    refine rM_1 hx hb hwX7 hown hK hP 0 (xM) rfl rfl (hts _ (List.mem_of_getElem? (i := 1) rfl)) dX7_head_7 ?_
    refine lv_icmp_le (tgt := 17) hx hb dX7_head_10 (by decide) (fun hc => ?_) (fun hc => ?_)
    · replace h := zt hc h
      refine lv_iconst (v := 0) hx hb dX7_head_17 (by decide) ?_
      exact tX7_head_18 C0 hK hN hD  _ _ _ h _ _ hP hS _ (lv_sub hl [0, 1] rfl)
    · replace h := zf hc h
      exact tX7_head_13 C0 hK hN hD  _ _ h _ _ hP hS _ (lv_sub hl [0, 1] rfl)
end
def rmX7_partOf : Room := { frames := 0, cells := 0, slots := 0, locals := 0 }
theorem ksX7_partOf : yX7_partOf.cls ≠ "java/lang/invoke/MethodHandle" ∧ yX7_partOf.cls ≠ "java/lang/invoke/VarHandle" ∧ (parseMethodDescriptor yX7_partOf.desc).map (fun d => d.parameters.length) = some 1 := by decide +kernel
section
variable {p : Program} {l : Launch} {e : Env} {s : State} {m : MethodId} {args : Array Value} {below : List Frame} {meth : Method} {c : Code} {G : zG}  {rr : Int32}
set_option maxRecDepth 20000 in
theorem tlX7_partOf_2 (C0 : zCtx p s m args meth c cX7_partOf RX7 wsX7_partOf 2 (some .int)) (hK : zK G s) (hN : zN s) (hD : zD [])  : ∀ (n : Nat), ∀ (l0 : Int32) (l1 : Int32), lX7_partOf_2  n l0 l1 = some rr → ∀ (H : Heap) (locs : List Loc), zP G [] [] H → va_S (zA [] s.heap.size) s.heap H locs → ∀ ls : Array Slot, lv_has ls 2 [(0, .int l0), (1, .int l1)] → W p l e rmX7_partOf s m args below meth c H locs 0 0 (MQ below (zQ G [] [] (zA [] s.heap.size) (some (.int rr))) args s 0 0 (zA [] s.heap.size)) (F0 m 2 ls []) := by
  obtain ⟨hx, hb, hr, hml, hown, hts, hlk⟩ := id C0
  intro n
  induction n with
  | zero => intro l0 l1 h; exact absurd h (fun q => nomatch q)
  | succ n K2 =>
    intro l0 l1 h H locs hP hS ls hl
    replace h : bX7_partOf_2  (lX7_partOf_2  n) l0 l1 = some rr := h
    unfold bX7_partOf_2 at h
    refine lv_iload_n hx hb dX7_partOf_2 rfl (lv_at hl 1 rfl) ?_
    refine lv_iload_n hx hb dX7_partOf_3 rfl (lv_at hl 0 rfl) ?_
    refine lv_iload_n hx hb dX7_partOf_4 rfl (lv_at hl 1 rfl) ?_
    refine lv_isub hx hb dX7_partOf_5 ?_
    refine lv_icmp_ge (tgt := 16) hx hb dX7_partOf_6 (by decide) (fun hc => ?_) (fun hc => ?_)
    · replace h := zt hc h
      refine lv_iload_n hx hb dX7_partOf_16 rfl (lv_at hl 1 rfl) ?_
      cases h
      exact z_iret hx hb hr hlk hP hS dX7_partOf_17
    · replace h := zf hc h
      refine lv_iload_n hx hb dX7_partOf_9 rfl (lv_at hl 1 rfl) ?_
      refine lv_iconst (v := 2) hx hb dX7_partOf_10 (by decide) ?_
      refine lv_imul hx hb dX7_partOf_11 ?_
      refine lv_istore_n (lv' := [(1, .int ((l1 * (2 : Int32)))), (0, .int l0)]) hx hb dX7_partOf_12 rfl hl (by decide) rfl (fun ls hl => ?_)
      refine lv_goto (tgt := 2) hx hb dX7_partOf_13 (by decide) ?_
      exact K2 _ _ h _ _ hP hS _ (lv_sub hl [1, 0] rfl)
set_option maxRecDepth 20000 in
theorem mX7_partOf (l : Launch) (G : zG)  {l0 : Int32} {rr : Int32} (h : fX7_partOf l0 = some rr) : zC l yX7_partOf wsX7_partOf rmX7_partOf [.int l0] G [] [] [] (some (.int rr)) := by
  refine z_ofW (cc := cX7_partOf) (maxL := 2) (ret := some .int) (by decide) rfl (Nat.le_of_ble_eq_true rfl) ?_
  intro p e s m args below meth c C0 hK hN hD hP ls hl
  obtain ⟨hx, hb, hr, hml, hown, hts, hlk⟩ := id C0
  have hS : va_S (zA [] s.heap.size) s.heap s.heap [] := va_S.rf
  replace hl : lv_has ls 2 [(0, .int l0)] := hl
  unfold fX7_partOf at h
  refine lv_iconst (v := 1) hx hb dX7_partOf_0 (by decide) ?_
  refine lv_istore_n (lv' := [(1, .int ((1 : Int32))), (0, .int l0)]) hx hb dX7_partOf_1 rfl hl (by decide) rfl (fun ls hl => ?_)
  exact tlX7_partOf_2 C0 hK hN hD  1000 _ _ h _ _ hP hS _ (lv_sub hl [1, 0] rfl)
end
def rmX7_turnRound : Room := { frames := 0, cells := 0, slots := 0, locals := 0 }
theorem kvX7_turnRound : yX7_turnRound.cls = RX7 ∧ yX7_turnRound.cls ≠ "java/lang/invoke/MethodHandle" ∧ yX7_turnRound.cls ≠ "java/lang/invoke/VarHandle" ∧ (parseMethodDescriptor yX7_turnRound.desc).map (fun d => d.parameters.length) = some 2 := by decide +kernel
section
variable {p : Program} {l : Launch} {e : Env} {s : State} {m : MethodId} {args : Array Value} {below : List Frame} {meth : Method} {c : Code} {G : zG} {xM : Nat → Nat} {vM : zSt}
set_option maxRecDepth 20000 in
theorem tlX7_turnRound_2 (C0 : zCtx p s m args meth c cX7_turnRound RX7 wsX7_turnRound 4 none) (hK : zK G s) (hN : zN s) (hD : zD [shM G xM])  : ∀ (n : Nat), ∀ (uM : zSt) (l1 : Int32) (l2 : Int32) (l3 : Int32), lX7_turnRound_2  n uM l1 l2 l3 = some vM → ∀ (H : Heap) (locs : List Loc), zP G [shM G xM] [uM] H → va_S (zA [shM G xM] s.heap.size) s.heap H locs → ∀ ls : Array Slot, lv_has ls 4 [(0, .ref (xM 0)), (1, .int l1), (2, .int l2), (3, .int l3)] → W p l e rmX7_turnRound s m args below meth c H locs 0 0 (MQ below (zQ G [shM G xM] [vM] (zA [shM G xM] s.heap.size) none) args s 0 0 (zA [shM G xM] s.heap.size)) (F0 m 2 ls []) := by
  obtain ⟨hx, hb, hr, hml, hown, hts, hlk⟩ := id C0
  have hwX7 : ∀ w ∈ wsX70, w.before args s = true := fun w h => hts w (List.mem_cons_of_mem _ (List.mem_append_right _ h))
  intro n
  induction n with
  | zero => intro uM l1 l2 l3 h; exact absurd h (fun q => nomatch q)
  | succ n K2 =>
    intro uM l1 l2 l3 h H locs hP hS ls hl
    replace h : bX7_turnRound_2  (lX7_turnRound_2  n) uM l1 l2 l3 = some vM := h
    unfold bX7_turnRound_2 at h
    refine lv_iload_n hx hb dX7_turnRound_2 rfl (lv_at hl 3 rfl) ?_
    refine lv_iload_n hx hb dX7_turnRound_3 rfl (lv_at hl 1 rfl) ?_
    refine lv_icmp_ge (tgt := 31) hx hb dX7_turnRound_4 (by decide) (fun hc => ?_) (fun hc => ?_)
    · replace h := zt hc h
      refine lv_aload_n hx hb dX7_turnRound_31 rfl (lv_at hl 0 rfl) ?_
      refine lv_iload_n hx hb dX7_turnRound_32 rfl (lv_at hl 2 rfl) ?_
      refine lv_iload_n hx hb dX7_turnRound_33 rfl (lv_at hl 1 rfl) ?_
      refine lv_iadd hx hb dX7_turnRound_34 ?_
      refine pM_35 hx hb hwX7 hown hK hP hD hS 0 (xM) rfl rfl (hts _ (List.mem_of_getElem? (i := 3) rfl)) dX7_turnRound_35 (fun H locs hP hS => ?_)
      replace hP : zP G [shM G xM] [(sI uM 35 ((l2 + l1)))] H := hP
      cases h
      exact z_vret hx hb hr hlk hP hS dX7_turnRound_38
    · replace h := zf hc h
      refine lv_aload_n hx hb dX7_turnRound_7 rfl (lv_at hl 0 rfl) ?_
      refine rM_36 hx hb hwX7 hown hK hP 0 (xM) rfl rfl (hts _ (List.mem_of_getElem? (i := 1) rfl)) dX7_turnRound_8 ?_
      refine lv_iload_n hx hb dX7_turnRound_11 rfl (lv_at hl 2 rfl) ?_
      refine lv_iload_n hx hb dX7_turnRound_12 rfl (lv_at hl 3 rfl) ?_
      refine lv_iadd hx hb dX7_turnRound_13 ?_
      refine lv_aload_n hx hb dX7_turnRound_14 rfl (lv_at hl 0 rfl) ?_
      refine rM_37 hx hb hwX7 hown hK hP 0 (xM) rfl rfl (hts _ (List.mem_of_getElem? (i := 2) rfl)) dX7_turnRound_15 ?_
      refine lv_iload_n hx hb dX7_turnRound_18 rfl (lv_at hl 1 rfl) ?_
      refine lv_iconst (v := 1) hx hb dX7_turnRound_19 (by decide) ?_
      refine lv_isub hx hb dX7_turnRound_20 ?_
      refine lv_iload_n hx hb dX7_turnRound_21 rfl (lv_at hl 3 rfl) ?_
      refine lv_isub hx hb dX7_turnRound_22 ?_
      obtain ⟨hi, h⟩ := zin_e h
      refine aM_37 hx hb hK hP 0 (xM) rfl rfl hi rfl dX7_turnRound_23 ?_
      obtain ⟨hi, h⟩ := zin_e h
      refine tM_36 hx hb hK hP hD hS 0 (xM) rfl rfl hi rfl dX7_turnRound_24 (fun H locs hP hS => ?_)
      replace hP : zP G [shM G xM] [(sL uM 36 ((l2 + l3)).toNatClampNeg ((gL uM 37 (((l1 - (1 : Int32)) - l3)).toNatClampNeg)))] H := hP
      refine lv_iinc (v := (l3 + (1 : Int32))) (lv' := [(3, .int ((l3 + (1 : Int32)))), (0, .ref (xM 0)), (1, .int l1), (2, .int l2)]) hx hb dX7_turnRound_25 hl (k := 3) rfl rfl (by decide) rfl (fun ls hl => ?_)
      refine lv_goto (tgt := 2) hx hb dX7_turnRound_28 (by decide) ?_
      exact K2 _ _ _ _ h _ _ hP hS _ (lv_sub hl [1, 2, 3, 0] rfl)
set_option maxRecDepth 20000 in
theorem mX7_turnRound (l : Launch) (G : zG) (xM : Nat → Nat) {uM : zSt} {l1 : Int32} {l2 : Int32} {vM : zSt} (h : fX7_turnRound uM l1 l2 = some vM) : zC l yX7_turnRound wsX7_turnRound rmX7_turnRound [.ref (xM 0), .int l1, .int l2] G [shM G xM] [uM] [vM] none := by
  refine z_ofW (cc := cX7_turnRound) (maxL := 4) (ret := none) (by decide) rfl (Nat.le_of_ble_eq_true rfl) ?_
  intro p e s m args below meth c C0 hK hN hD hP ls hl
  obtain ⟨hx, hb, hr, hml, hown, hts, hlk⟩ := id C0
  have hS : va_S (zA [shM G xM] s.heap.size) s.heap s.heap [] := va_S.rf
  replace hl : lv_has ls 4 [(0, .ref (xM 0)), (1, .int l1), (2, .int l2)] := hl
  unfold fX7_turnRound at h
  refine lv_iconst (v := 0) hx hb dX7_turnRound_0 (by decide) ?_
  refine lv_istore_n (lv' := [(3, .int ((0 : Int32))), (0, .ref (xM 0)), (1, .int l1), (2, .int l2)]) hx hb dX7_turnRound_1 rfl hl (by decide) rfl (fun ls hl => ?_)
  exact tlX7_turnRound_2 C0 hK hN hD  1000 _ _ _ _ h _ _ hP hS _ (lv_sub hl [1, 2, 3, 0] rfl)
end
def rmX7_prove : Room := { frames := 3, cells := 0, slots := 0, locals := 70 }
theorem kvX7_prove : yX7_prove.cls = RX7 ∧ yX7_prove.cls ≠ "java/lang/invoke/MethodHandle" ∧ yX7_prove.cls ≠ "java/lang/invoke/VarHandle" ∧ (parseMethodDescriptor yX7_prove.desc).map (fun d => d.parameters.length) = some 2 := by decide +kernel
section
variable {p : Program} {l : Launch} {e : Env} {s : State} {m : MethodId} {args : Array Value} {below : List Frame} {meth : Method} {c : Code} {G : zG} {xM : Nat → Nat} {rr : Int32} {vM : zSt}
set_option maxRecDepth 20000 in
theorem tX7_prove_138 (C0 : zCtx p s m args meth c cX7_prove RX7 wsX7_prove 8 (some .int)) (hK : zK G s) (hN : zN s) (hD : zD [shM G xM]) {k43 : zSt → Int32 → Int32 → Int32 → Int32 → Option (Int32 × zSt)} (K43 : ∀ (uM : zSt) (l1 : Int32) (l3 : Int32) (l4 : Int32) (l5 : Int32), k43 uM l1 l3 l4 l5 = some (rr, vM) → ∀ (H : Heap) (locs : List Loc), zP G [shM G xM] [uM] H → va_S (zA [shM G xM] s.heap.size) s.heap H locs → ∀ ls : Array Slot, lv_has ls 8 [(0, .ref (xM 0)), (1, .int l1), (3, .int l3), (4, .int l4), (5, .int l5)] → W p l e rmX7_prove s m args below meth c H locs 0 0 (MQ below (zQ G [shM G xM] [vM] (zA [shM G xM] s.heap.size) (some (.int rr))) args s 0 0 (zA [shM G xM] s.heap.size)) (F0 m 43 ls [])) : ∀ (uM : zSt) (l1 : Int32) (l3 : Int32) (l5 : Int32) (s0 : Int32), bX7_prove_138 k43 uM l1 l3 l5 s0 = some (rr, vM) → ∀ (H : Heap) (locs : List Loc), zP G [shM G xM] [uM] H → va_S (zA [shM G xM] s.heap.size) s.heap H locs → ∀ ls : Array Slot, lv_has ls 8 [(0, .ref (xM 0)), (1, .int l1), (3, .int l3), (5, .int l5)] → W p l e rmX7_prove s m args below meth c H locs 0 0 (MQ below (zQ G [shM G xM] [vM] (zA [shM G xM] s.heap.size) (some (.int rr))) args s 0 0 (zA [shM G xM] s.heap.size)) (F0 m 138 ls [.int s0]) := by
  obtain ⟨hx, hb, hr, hml, hown, hts, hlk⟩ := id C0
  intro uM l1 l3 l5 s0 h H locs hP hS ls hl
  unfold bX7_prove_138 at h
  refine lv_istore (lv' := [(4, .int s0), (0, .ref (xM 0)), (1, .int l1), (3, .int l3), (5, .int l5)]) hx hb dX7_prove_138 hl (by decide) rfl (fun ls hl => ?_)
  refine lv_goto (tgt := 43) hx hb dX7_prove_140 (by decide) ?_
  exact K43 _ _ _ _ _ h _ _ hP hS _ (lv_sub hl [1, 2, 3, 0, 4] rfl)
set_option maxRecDepth 20000 in
theorem tX7_prove_122 (C0 : zCtx p s m args meth c cX7_prove RX7 wsX7_prove 8 (some .int)) (hK : zK G s) (hN : zN s) (hD : zD [shM G xM]) {k43 : zSt → Int32 → Int32 → Int32 → Int32 → Option (Int32 × zSt)} (K43 : ∀ (uM : zSt) (l1 : Int32) (l3 : Int32) (l4 : Int32) (l5 : Int32), k43 uM l1 l3 l4 l5 = some (rr, vM) → ∀ (H : Heap) (locs : List Loc), zP G [shM G xM] [uM] H → va_S (zA [shM G xM] s.heap.size) s.heap H locs → ∀ ls : Array Slot, lv_has ls 8 [(0, .ref (xM 0)), (1, .int l1), (3, .int l3), (4, .int l4), (5, .int l5)] → W p l e rmX7_prove s m args below meth c H locs 0 0 (MQ below (zQ G [shM G xM] [vM] (zA [shM G xM] s.heap.size) (some (.int rr))) args s 0 0 (zA [shM G xM] s.heap.size)) (F0 m 43 ls [])) : ∀ (uM : zSt) (l1 : Int32) (l4 : Int32) (l5 : Int32) (l6 : Int32) (l7 : Int32) (s0 : Int32), bX7_prove_122 k43 uM l1 l4 l5 l6 l7 s0 = some (rr, vM) → ∀ (H : Heap) (locs : List Loc), zP G [shM G xM] [uM] H → va_S (zA [shM G xM] s.heap.size) s.heap H locs → ∀ ls : Array Slot, lv_has ls 8 [(0, .ref (xM 0)), (1, .int l1), (4, .int l4), (5, .int l5), (6, .int l6), (7, .int l7)] → W p l e rmX7_prove s m args below meth c H locs 0 0 (MQ below (zQ G [shM G xM] [vM] (zA [shM G xM] s.heap.size) (some (.int rr))) args s 0 0 (zA [shM G xM] s.heap.size)) (F0 m 122 ls [.int s0]) := by
  obtain ⟨hx, hb, hr, hml, hown, hts, hlk⟩ := id C0
  intro uM l1 l4 l5 l6 l7 s0 h H locs hP hS ls hl
  unfold bX7_prove_122 at h
  refine lv_istore_n (lv' := [(3, .int s0), (0, .ref (xM 0)), (1, .int l1), (4, .int l4), (5, .int l5), (6, .int l6), (7, .int l7)]) hx hb dX7_prove_122 rfl hl (by decide) rfl (fun ls hl => ?_)
  refine lv_iload hx hb dX7_prove_123 (lv_at hl 6 rfl) ?_
  refine lv_if_eq (tgt := 133) hx hb dX7_prove_125 (by decide) (fun hc => ?_) (fun hc => ?_)
  · replace h := zt hc h
    refine lv_iload hx hb dX7_prove_133 (lv_at hl 3 rfl) ?_
    refine lv_iload hx hb dX7_prove_135 (lv_at hl 5 rfl) ?_
    refine lv_isub hx hb dX7_prove_137 ?_
    exact tX7_prove_138 C0 hK hN hD K43 _ _ _ _ _ h _ _ hP hS _ (lv_sub hl [1, 2, 0, 4] rfl)
  · replace h := zf hc h
    refine lv_iload hx hb dX7_prove_128 (lv_at hl 5 rfl) ?_
    refine lv_goto (tgt := 138) hx hb dX7_prove_130 (by decide) ?_
    exact tX7_prove_138 C0 hK hN hD K43 _ _ _ _ _ h _ _ hP hS _ (lv_sub hl [1, 2, 0, 4] rfl)
set_option maxRecDepth 20000 in
theorem tX7_prove_105 (C0 : zCtx p s m args meth c cX7_prove RX7 wsX7_prove 8 (some .int)) (hK : zK G s) (hN : zN s) (hD : zD [shM G xM]) {k43 : zSt → Int32 → Int32 → Int32 → Int32 → Option (Int32 × zSt)} (K43 : ∀ (uM : zSt) (l1 : Int32) (l3 : Int32) (l4 : Int32) (l5 : Int32), k43 uM l1 l3 l4 l5 = some (rr, vM) → ∀ (H : Heap) (locs : List Loc), zP G [shM G xM] [uM] H → va_S (zA [shM G xM] s.heap.size) s.heap H locs → ∀ ls : Array Slot, lv_has ls 8 [(0, .ref (xM 0)), (1, .int l1), (3, .int l3), (4, .int l4), (5, .int l5)] → W p l e rmX7_prove s m args below meth c H locs 0 0 (MQ below (zQ G [shM G xM] [vM] (zA [shM G xM] s.heap.size) (some (.int rr))) args s 0 0 (zA [shM G xM] s.heap.size)) (F0 m 43 ls [])) : ∀ (uM : zSt) (l1 : Int32) (l3 : Int32) (l4 : Int32) (l5 : Int32) (l6 : Int32) (l7 : Int32) (s1 : Int32) (s2 : Int64), bX7_prove_105 k43 uM l1 l3 l4 l5 l6 l7 s1 s2 = some (rr, vM) → ∀ (H : Heap) (locs : List Loc), zP G [shM G xM] [uM] H → va_S (zA [shM G xM] s.heap.size) s.heap H locs → ∀ ls : Array Slot, lv_has ls 8 [(0, .ref (xM 0)), (1, .int l1), (3, .int l3), (4, .int l4), (5, .int l5), (6, .int l6), (7, .int l7)] → W p l e rmX7_prove s m args below meth c H locs 0 0 (MQ below (zQ G [shM G xM] [vM] (zA [shM G xM] s.heap.size) (some (.int rr))) args s 0 0 (zA [shM G xM] s.heap.size)) (F0 m 105 ls [.long s2, .int s1, .ref (xM 28)]) := by
  obtain ⟨hx, hb, hr, hml, hown, hts, hlk⟩ := id C0
  intro uM l1 l3 l4 l5 l6 l7 s1 s2 h H locs hP hS ls hl
  unfold bX7_prove_105 at h
  obtain ⟨hi, h⟩ := zin_e h
  refine tM_37 hx hb hK hP hD hS 0 (xM) rfl rfl hi rfl dX7_prove_105 (fun H locs hP hS => ?_)
  replace hP : zP G [shM G xM] [(sL uM 37 s1.toNatClampNeg s2)] H := hP
  refine lv_iinc (v := (l5 + (1 : Int32))) (lv' := [(5, .int ((l5 + (1 : Int32)))), (0, .ref (xM 0)), (1, .int l1), (3, .int l3), (4, .int l4), (6, .int l6), (7, .int l7)]) hx hb dX7_prove_106 hl (k := 4) rfl rfl (by decide) rfl (fun ls hl => ?_)
  refine lv_iload hx hb dX7_prove_109 (lv_at hl 6 rfl) ?_
  refine lv_if_eq (tgt := 118) hx hb dX7_prove_111 (by decide) (fun hc => ?_) (fun hc => ?_)
  · replace h := zt hc h
    refine lv_iload_n hx hb dX7_prove_118 rfl (lv_at hl 3 rfl) ?_
    refine lv_iload hx hb dX7_prove_119 (lv_at hl 5 rfl) ?_
    refine lv_iadd hx hb dX7_prove_121 ?_
    exact tX7_prove_122 C0 hK hN hD K43 _ _ _ _ _ _ _ h _ _ hP hS _ (lv_sub hl [1, 2, 4, 0, 5, 6] rfl)
  · replace h := zf hc h
    refine lv_iload_n hx hb dX7_prove_114 rfl (lv_at hl 3 rfl) ?_
    refine lv_goto (tgt := 122) hx hb dX7_prove_115 (by decide) ?_
    exact tX7_prove_122 C0 hK hN hD K43 _ _ _ _ _ _ _ h _ _ hP hS _ (lv_sub hl [1, 2, 4, 0, 5, 6] rfl)
set_option maxRecDepth 20000 in
theorem tX7_prove_69 (C0 : zCtx p s m args meth c cX7_prove RX7 wsX7_prove 8 (some .int)) (hK : zK G s) (hN : zN s) (hD : zD [shM G xM]) {k43 : zSt → Int32 → Int32 → Int32 → Int32 → Option (Int32 × zSt)} (K43 : ∀ (uM : zSt) (l1 : Int32) (l3 : Int32) (l4 : Int32) (l5 : Int32), k43 uM l1 l3 l4 l5 = some (rr, vM) → ∀ (H : Heap) (locs : List Loc), zP G [shM G xM] [uM] H → va_S (zA [shM G xM] s.heap.size) s.heap H locs → ∀ ls : Array Slot, lv_has ls 8 [(0, .ref (xM 0)), (1, .int l1), (3, .int l3), (4, .int l4), (5, .int l5)] → W p l e rmX7_prove s m args below meth c H locs 0 0 (MQ below (zQ G [shM G xM] [vM] (zA [shM G xM] s.heap.size) (some (.int rr))) args s 0 0 (zA [shM G xM] s.heap.size)) (F0 m 43 ls [])) : ∀ (uM : zSt) (l1 : Int32) (l3 : Int32) (l4 : Int32) (l5 : Int32) (l6 : Int32) (s0 : Int32), bX7_prove_69 k43 uM l1 l3 l4 l5 l6 s0 = some (rr, vM) → ∀ (H : Heap) (locs : List Loc), zP G [shM G xM] [uM] H → va_S (zA [shM G xM] s.heap.size) s.heap H locs → ∀ ls : Array Slot, lv_has ls 8 [(0, .ref (xM 0)), (1, .int l1), (3, .int l3), (4, .int l4), (5, .int l5), (6, .int l6)] → W p l e rmX7_prove s m args below meth c H locs 0 0 (MQ below (zQ G [shM G xM] [vM] (zA [shM G xM] s.heap.size) (some (.int rr))) args s 0 0 (zA [shM G xM] s.heap.size)) (F0 m 69 ls [.int s0]) := by
  obtain ⟨hx, hb, hr, hml, hown, hts, hlk⟩ := id C0
  have hwX7 : ∀ w ∈ wsX70, w.before args s = true := fun w h => hts w (List.mem_cons_of_mem _ (List.mem_append_right _ h))
  intro uM l1 l3 l4 l5 l6 s0 h H locs hP hS ls hl
  unfold bX7_prove_69 at h
  refine lv_istore (lv' := [(7, .int s0), (0, .ref (xM 0)), (1, .int l1), (3, .int l3), (4, .int l4), (5, .int l5), (6, .int l6)]) hx hb dX7_prove_69 hl (by decide) rfl (fun ls hl => ?_)
  refine lv_aload_n hx hb dX7_prove_71 rfl (lv_at hl 1 rfl) ?_
  refine rM_37 hx hb hwX7 hown hK hP 0 (xM) rfl rfl (hts _ (List.mem_of_getElem? (i := 3) rfl)) dX7_prove_72 ?_
  refine lv_iload hx hb dX7_prove_75 (lv_at hl 5 rfl) ?_
  refine lv_iload hx hb dX7_prove_77 (lv_at hl 0 rfl) ?_
  refine lv_if_eq (tgt := 98) hx hb dX7_prove_79 (by decide) (fun hc => ?_) (fun hc => ?_)
  · replace h := zt hc h
    refine lv_aload_n hx hb dX7_prove_98 rfl (lv_at hl 1 rfl) ?_
    refine lv_iload_n hx hb dX7_prove_99 rfl (lv_at hl 3 rfl) ?_
    refine lv_iload hx hb dX7_prove_100 (lv_at hl 6 rfl) ?_
    obtain ⟨r_1, uM_2, hg, h⟩ := zb2_e h
    refine z_callV (As := [.int l3, .int l6]) (rest := [.int l5, .ref (xM 28)]) (i := 0) ⟨hx, hb, hml, hown, hts⟩ (mX7_headOf l G (xM) hg) (cwV 2 hts gX7_prove_X7_headOf rfl rfl rfl kvX7_headOf ⟨Nat.le_of_ble_eq_true rfl, Nat.le_of_ble_eq_true rfl⟩) rfl hP hD hK hN hS (Nat.le_refl _) [0] rfl rfl rfl rfl 0 rfl rfl rfl rfl rfl hl.1 rfl (Nat.le_of_ble_eq_true rfl) dX7_prove_102 ⟨Nat.zero_le _, Nat.zero_le _⟩ (fun H locs hP hS => ?_)
    replace hP : zP G [shM G xM] [uM_2] H := hP
    exact tX7_prove_105 C0 hK hN hD K43 _ _ _ _ _ _ _ _ _ h _ _ hP hS _ (lv_sub hl [1, 2, 3, 4, 5, 6, 0] rfl)
  · replace h := zf hc h
    refine lv_aload_n hx hb dX7_prove_82 rfl (lv_at hl 1 rfl) ?_
    refine lv_iload_n hx hb dX7_prove_83 rfl (lv_at hl 3 rfl) ?_
    refine lv_iload hx hb dX7_prove_84 (lv_at hl 6 rfl) ?_
    refine lv_iadd hx hb dX7_prove_86 ?_
    refine lv_iload hx hb dX7_prove_87 (lv_at hl 4 rfl) ?_
    refine lv_iload hx hb dX7_prove_89 (lv_at hl 6 rfl) ?_
    refine lv_isub hx hb dX7_prove_91 ?_
    obtain ⟨r_3, uM_4, hg, h⟩ := zb2_e h
    refine z_callV (As := [.int ((l3 + l6)), .int ((l4 - l6))]) (rest := [.int l5, .ref (xM 28)]) (i := 0) ⟨hx, hb, hml, hown, hts⟩ (mX7_headOf l G (xM) hg) (cwV 2 hts gX7_prove_X7_headOf rfl rfl rfl kvX7_headOf ⟨Nat.le_of_ble_eq_true rfl, Nat.le_of_ble_eq_true rfl⟩) rfl hP hD hK hN hS (Nat.le_refl _) [0] rfl rfl rfl rfl 0 rfl rfl rfl rfl rfl hl.1 rfl (Nat.le_of_ble_eq_true rfl) dX7_prove_92 ⟨Nat.zero_le _, Nat.zero_le _⟩ (fun H locs hP hS => ?_)
    replace hP : zP G [shM G xM] [uM_4] H := hP
    refine lv_goto (tgt := 105) hx hb dX7_prove_95 (by decide) ?_
    exact tX7_prove_105 C0 hK hN hD K43 _ _ _ _ _ _ _ _ _ h _ _ hP hS _ (lv_sub hl [1, 2, 3, 4, 5, 6, 0] rfl)
set_option maxRecDepth 20000 in
theorem tlX7_prove_43 (C0 : zCtx p s m args meth c cX7_prove RX7 wsX7_prove 8 (some .int)) (hK : zK G s) (hN : zN s) (hD : zD [shM G xM])  : ∀ (n : Nat), ∀ (uM : zSt) (l1 : Int32) (l3 : Int32) (l4 : Int32) (l5 : Int32), lX7_prove_43  n uM l1 l3 l4 l5 = some (rr, vM) → ∀ (H : Heap) (locs : List Loc), zP G [shM G xM] [uM] H → va_S (zA [shM G xM] s.heap.size) s.heap H locs → ∀ ls : Array Slot, lv_has ls 8 [(0, .ref (xM 0)), (1, .int l1), (3, .int l3), (4, .int l4), (5, .int l5)] → W p l e rmX7_prove s m args below meth c H locs 0 0 (MQ below (zQ G [shM G xM] [vM] (zA [shM G xM] s.heap.size) (some (.int rr))) args s 0 0 (zA [shM G xM] s.heap.size)) (F0 m 43 ls []) := by
  obtain ⟨hx, hb, hr, hml, hown, hts, hlk⟩ := id C0
  have hwX7 : ∀ w ∈ wsX70, w.before args s = true := fun w h => hts w (List.mem_cons_of_mem _ (List.mem_append_right _ h))
  intro n
  induction n with
  | zero => intro uM l1 l3 l4 l5 h; exact absurd h (fun q => nomatch q)
  | succ n K43 =>
    intro uM l1 l3 l4 l5 h H locs hP hS ls hl
    replace h : bX7_prove_43  (lX7_prove_43  n) uM l1 l3 l4 l5 = some (rr, vM) := h
    unfold bX7_prove_43 at h
    refine lv_iload hx hb dX7_prove_43 (lv_at hl 3 rfl) ?_
    refine lv_iconst (v := 1) hx hb dX7_prove_45 (by decide) ?_
    refine lv_icmp_le (tgt := 143) hx hb dX7_prove_46 (by decide) (fun hc => ?_) (fun hc => ?_)
    · replace h := zt hc h
      refine lv_aload_n hx hb dX7_prove_143 rfl (lv_at hl 0 rfl) ?_
      refine lv_iload hx hb dX7_prove_144 (lv_at hl 4 rfl) ?_
      refine lv_iconst (v := 0) hx hb dX7_prove_146 (by decide) ?_
      obtain ⟨uM_5, hg, h⟩ := zb1_e h
      refine z_callV (As := [.int l5, .int ((0 : Int32))]) (rest := []) (i := 0) ⟨hx, hb, hml, hown, hts⟩ (mX7_turnRound l G (xM) hg) (cwV 2 hts gX7_prove_X7_turnRound rfl rfl rfl kvX7_turnRound ⟨Nat.le_of_ble_eq_true rfl, Nat.le_of_ble_eq_true rfl⟩) rfl hP hD hK hN hS (Nat.le_refl _) [0] rfl rfl rfl rfl 0 rfl rfl rfl rfl rfl hl.1 rfl (Nat.le_of_ble_eq_true rfl) dX7_prove_147 ⟨Nat.zero_le _, Nat.zero_le _⟩ (fun H locs hP hS => ?_)
      replace hP : zP G [shM G xM] [uM_5] H := hP
      refine lv_aload_n hx hb dX7_prove_150 rfl (lv_at hl 0 rfl) ?_
      refine rM_35 hx hb hwX7 hown hK hP 0 (xM) rfl rfl (hts _ (List.mem_of_getElem? (i := 4) rfl)) dX7_prove_151 ?_
      cases h
      exact z_iret hx hb hr hlk hP hS dX7_prove_154
    · replace h := zf hc h
      refine lv_iload hx hb dX7_prove_49 (lv_at hl 3 rfl) ?_
      obtain ⟨r_6, hg, h⟩ := zb1_e h
      refine z_callS (As := [.int l4]) (rest := []) ⟨hx, hb, hml, hown, hts⟩ (mX7_partOf l G  hg) (va_cwS 1 hts gX7_prove_X7_partOf rfl rfl rfl ksX7_partOf ⟨Nat.le_of_ble_eq_true rfl, Nat.le_of_ble_eq_true rfl⟩) hP hD hK hN hS (Nat.le_refl _) [] rfl rfl rfl rfl rfl hl.1 rfl (Nat.le_of_ble_eq_true rfl) dX7_prove_51 ⟨Nat.zero_le _, Nat.zero_le _⟩ (fun H locs hP hS => ?_)
      replace hP : zP G [shM G xM] [uM] H := hP
      refine lv_istore (lv' := [(6, .int r_6), (0, .ref (xM 0)), (1, .int l1), (3, .int l3), (4, .int l4), (5, .int l5)]) hx hb dX7_prove_54 hl (by decide) rfl (fun ls hl => ?_)
      refine lv_iload_n hx hb dX7_prove_56 rfl (lv_at hl 2 rfl) ?_
      refine lv_iload_n hx hb dX7_prove_57 rfl (lv_at hl 3 rfl) ?_
      refine lv_isub hx hb dX7_prove_58 ?_
      refine lv_iload hx hb dX7_prove_59 (lv_at hl 0 rfl) ?_
      refine lv_icmp_ge (tgt := 68) hx hb dX7_prove_61 (by decide) (fun hc => ?_) (fun hc => ?_)
      · replace h := zt hc h
        refine lv_iconst (v := 0) hx hb dX7_prove_68 (by decide) ?_
        exact tX7_prove_69 C0 hK hN hD K43 _ _ _ _ _ _ _ h _ _ hP hS _ (lv_sub hl [1, 2, 3, 4, 5, 0] rfl)
      · replace h := zf hc h
        refine lv_iconst (v := 1) hx hb dX7_prove_64 (by decide) ?_
        refine lv_goto (tgt := 69) hx hb dX7_prove_65 (by decide) ?_
        exact tX7_prove_69 C0 hK hN hD K43 _ _ _ _ _ _ _ h _ _ hP hS _ (lv_sub hl [1, 2, 3, 4, 5, 0] rfl)
set_option maxRecDepth 20000 in
theorem tX7_prove_23 (C0 : zCtx p s m args meth c cX7_prove RX7 wsX7_prove 8 (some .int)) (hK : zK G s) (hN : zN s) (hD : zD [shM G xM])  : ∀ (uM : zSt) (l1 : Int32) (l2 : Int32) (s1 : Int32), bX7_prove_23  uM l1 l2 s1 = some (rr, vM) → ∀ (H : Heap) (locs : List Loc), zP G [shM G xM] [uM] H → va_S (zA [shM G xM] s.heap.size) s.heap H locs → ∀ ls : Array Slot, lv_has ls 8 [(0, .ref (xM 0)), (1, .int l1), (2, .int l2)] → W p l e rmX7_prove s m args below meth c H locs 0 0 (MQ below (zQ G [shM G xM] [vM] (zA [shM G xM] s.heap.size) (some (.int rr))) args s 0 0 (zA [shM G xM] s.heap.size)) (F0 m 23 ls [.int s1, .ref (xM 0)]) := by
  obtain ⟨hx, hb, hr, hml, hown, hts, hlk⟩ := id C0
  have hwX7 : ∀ w ∈ wsX70, w.before args s = true := fun w h => hts w (List.mem_cons_of_mem _ (List.mem_append_right _ h))
  intro uM l1 l2 s1 h H locs hP hS ls hl
  unfold bX7_prove_23 at h
  refine pM_0 hx hb hwX7 hown hK hP hD hS 0 (xM) rfl rfl (hts _ (List.mem_of_getElem? (i := 2) rfl)) dX7_prove_23 (fun H locs hP hS => ?_)
  replace hP : zP G [shM G xM] [(sI uM 0 s1)] H := hP
  refine lv_aload_n hx hb dX7_prove_26 rfl (lv_at hl 0 rfl) ?_
  refine rM_0 hx hb hwX7 hown hK hP 0 (xM) rfl rfl (hts _ (List.mem_of_getElem? (i := 2) rfl)) dX7_prove_27 ?_
  refine lv_if_le (tgt := 35) hx hb dX7_prove_30 (by decide) (fun hc => ?_) (fun hc => ?_)
  · replace h := zt hc h
    refine lv_iconst (v := 0) hx hb dX7_prove_35 (by decide) ?_
    refine lv_istore_n (lv' := [(3, .int ((0 : Int32))), (0, .ref (xM 0)), (1, .int l1), (2, .int l2)]) hx hb dX7_prove_36 rfl hl (by decide) rfl (fun ls hl => ?_)
    refine lv_iload_n hx hb dX7_prove_37 rfl (lv_at hl 3 rfl) ?_
    refine lv_istore (lv' := [(4, .int l2), (3, .int ((0 : Int32))), (0, .ref (xM 0)), (1, .int l1), (2, .int l2)]) hx hb dX7_prove_38 hl (by decide) rfl (fun ls hl => ?_)
    refine lv_iconst (v := 0) hx hb dX7_prove_40 (by decide) ?_
    refine lv_istore (lv' := [(5, .int ((0 : Int32))), (4, .int l2), (3, .int ((0 : Int32))), (0, .ref (xM 0)), (1, .int l1), (2, .int l2)]) hx hb dX7_prove_41 hl (by decide) rfl (fun ls hl => ?_)
    exact tlX7_prove_43 C0 hK hN hD  1000 _ _ _ _ _ h _ _ hP hS _ (lv_sub hl [3, 4, 2, 1, 0] rfl)
  · replace h := zf hc h
    refine lv_iconst (v := 0) hx hb dX7_prove_33 (by decide) ?_
    cases h
    exact z_iret hx hb hr hlk hP hS dX7_prove_34
set_option maxRecDepth 20000 in
theorem tX7_prove_18 (C0 : zCtx p s m args meth c cX7_prove RX7 wsX7_prove 8 (some .int)) (hK : zK G s) (hN : zN s) (hD : zD [shM G xM])  : ∀ (uM : zSt) (l1 : Int32) (l2 : Int32), bX7_prove_18  uM l1 l2 = some (rr, vM) → ∀ (H : Heap) (locs : List Loc), zP G [shM G xM] [uM] H → va_S (zA [shM G xM] s.heap.size) s.heap H locs → ∀ ls : Array Slot, lv_has ls 8 [(0, .ref (xM 0)), (1, .int l1), (2, .int l2)] → W p l e rmX7_prove s m args below meth c H locs 0 0 (MQ below (zQ G [shM G xM] [vM] (zA [shM G xM] s.heap.size) (some (.int rr))) args s 0 0 (zA [shM G xM] s.heap.size)) (F0 m 18 ls [.ref (xM 0)]) := by
  obtain ⟨hx, hb, hr, hml, hown, hts, hlk⟩ := id C0
  intro uM l1 l2 h H locs hP hS ls hl
  unfold bX7_prove_18 at h
  refine lv_iconst (v := 1) hx hb dX7_prove_18 (by decide) ?_
  refine lv_goto (tgt := 23) hx hb dX7_prove_19 (by decide) ?_
  exact tX7_prove_23 C0 hK hN hD  _ _ _ _ h _ _ hP hS _ (lv_sub hl [0, 1, 2] rfl)
set_option maxRecDepth 20000 in
theorem mX7_prove (l : Launch) (G : zG) (xM : Nat → Nat) {uM : zSt} {l1 : Int32} {l2 : Int32} {rr : Int32} {vM : zSt} (h : fX7_prove uM l1 l2 = some (rr, vM)) : zC l yX7_prove wsX7_prove rmX7_prove [.ref (xM 0), .int l1, .int l2] G [shM G xM] [uM] [vM] (some (.int rr)) := by
  refine z_ofW (cc := cX7_prove) (maxL := 8) (ret := some .int) (by decide) rfl (Nat.le_of_ble_eq_true rfl) ?_
  intro p e s m args below meth c C0 hK hN hD hP ls hl
  obtain ⟨hx, hb, hr, hml, hown, hts, hlk⟩ := id C0
  have hS : va_S (zA [shM G xM] s.heap.size) s.heap s.heap [] := va_S.rf
  replace hl : lv_has ls 8 [(0, .ref (xM 0)), (1, .int l1), (2, .int l2)] := hl
  have hwX7 : ∀ w ∈ wsX70, w.before args s = true := fun w h => hts w (List.mem_cons_of_mem _ (List.mem_append_right _ h))
  unfold fX7_prove at h
  refine lv_aload_n hx hb dX7_prove_0 rfl (lv_at hl 0 rfl) ?_
  refine lv_iload_n hx hb dX7_prove_1 rfl (lv_at hl 2 rfl) ?_
  refine lv_aload_n hx hb dX7_prove_2 rfl (lv_at hl 0 rfl) ?_
  refine rM_1 hx hb hwX7 hown hK hP 0 (xM) rfl rfl (hts _ (List.mem_of_getElem? (i := 1) rfl)) dX7_prove_3 ?_
  refine lv_icmp_gt (tgt := 18) hx hb dX7_prove_6 (by decide) (fun hc => ?_) (fun hc => ?_)
  · replace h := zt hc h
    exact tX7_prove_18 C0 hK hN hD  _ _ _ h _ _ hP hS _ (lv_sub hl [0, 1, 2] rfl)
  · replace h := zf hc h
    refine lv_iload_n hx hb dX7_prove_9 rfl (lv_at hl 1 rfl) ?_
    refine lv_if_lt (tgt := 18) hx hb dX7_prove_10 (by decide) (fun hc => ?_) (fun hc => ?_)
    · replace h := zt hc h
      exact tX7_prove_18 C0 hK hN hD  _ _ _ h _ _ hP hS _ (lv_sub hl [0, 1, 2] rfl)
    · replace h := zf hc h
      refine lv_iload_n hx hb dX7_prove_13 rfl (lv_at hl 1 rfl) ?_
      refine lv_iload_n hx hb dX7_prove_14 rfl (lv_at hl 2 rfl) ?_
      refine lv_icmp_lt (tgt := 22) hx hb dX7_prove_15 (by decide) (fun hc => ?_) (fun hc => ?_)
      · replace h := zt hc h
        refine lv_iconst (v := 0) hx hb dX7_prove_22 (by decide) ?_
        exact tX7_prove_23 C0 hK hN hD  _ _ _ _ h _ _ hP hS _ (lv_sub hl [0, 1, 2] rfl)
      · replace h := zf hc h
        exact tX7_prove_18 C0 hK hN hD  _ _ _ h _ _ hP hS _ (lv_sub hl [0, 1, 2] rfl)
end
def rmX7_relate : Room := { frames := 3, cells := 0, slots := 0, locals := 70 }
theorem kvX7_relate : yX7_relate.cls = RX7 ∧ yX7_relate.cls ≠ "java/lang/invoke/MethodHandle" ∧ yX7_relate.cls ≠ "java/lang/invoke/VarHandle" ∧ (parseMethodDescriptor yX7_relate.desc).map (fun d => d.parameters.length) = some 2 := by decide +kernel
section
variable {p : Program} {l : Launch} {e : Env} {s : State} {m : MethodId} {args : Array Value} {below : List Frame} {meth : Method} {c : Code} {G : zG} {xM : Nat → Nat} {rr : Int32} {vM : zSt}
set_option maxRecDepth 20000 in
theorem tX7_relate_215 (C0 : zCtx p s m args meth c cX7_relate RX7 wsX7_relate 10 (some .int)) (hK : zK G s) (hN : zN s) (hD : zD [shM G xM])  : ∀ (uM : zSt) (s1 : Int32) (s2 : Int32), bX7_relate_215  uM s1 s2 = some (rr, vM) → ∀ (H : Heap) (locs : List Loc), zP G [shM G xM] [uM] H → va_S (zA [shM G xM] s.heap.size) s.heap H locs → ∀ ls : Array Slot, lv_has ls 10 [(0, .ref (xM 0))] → W p l e rmX7_relate s m args below meth c H locs 0 0 (MQ below (zQ G [shM G xM] [vM] (zA [shM G xM] s.heap.size) (some (.int rr))) args s 0 0 (zA [shM G xM] s.heap.size)) (F0 m 215 ls [.int s2, .int s1, .ref (xM 0)]) := by
  obtain ⟨hx, hb, hr, hml, hown, hts, hlk⟩ := id C0
  have hwX7 : ∀ w ∈ wsX70, w.before args s = true := fun w h => hts w (List.mem_cons_of_mem _ (List.mem_append_right _ h))
  intro uM s1 s2 h H locs hP hS ls hl
  unfold bX7_relate_215 at h
  obtain ⟨uM_1, hg, h⟩ := zb1_e h
  refine z_callV (As := [.int s1, .int s2]) (rest := []) (i := 0) ⟨hx, hb, hml, hown, hts⟩ (mX7_turnRound l G (xM) hg) (cwV 2 hts gX7_relate_X7_turnRound rfl rfl rfl kvX7_turnRound ⟨Nat.le_of_ble_eq_true rfl, Nat.le_of_ble_eq_true rfl⟩) rfl hP hD hK hN hS (Nat.le_refl _) [0] rfl rfl rfl rfl 0 rfl rfl rfl rfl rfl hl.1 rfl (Nat.le_of_ble_eq_true rfl) dX7_relate_215 ⟨Nat.zero_le _, Nat.zero_le _⟩ (fun H locs hP hS => ?_)
  replace hP : zP G [shM G xM] [uM_1] H := hP
  refine lv_aload_n hx hb dX7_relate_218 rfl (lv_at hl 0 rfl) ?_
  refine rM_35 hx hb hwX7 hown hK hP 0 (xM) rfl rfl (hts _ (List.mem_of_getElem? (i := 5) rfl)) dX7_relate_219 ?_
  cases h
  exact z_iret hx hb hr hlk hP hS dX7_relate_222
set_option maxRecDepth 20000 in
theorem tX7_relate_202 (C0 : zCtx p s m args meth c cX7_relate RX7 wsX7_relate 10 (some .int)) (hK : zK G s) (hN : zN s) (hD : zD [shM G xM])  : ∀ (uM : zSt) (l6 : Int32) (l7 : Int32), bX7_relate_202  uM l6 l7 = some (rr, vM) → ∀ (H : Heap) (locs : List Loc), zP G [shM G xM] [uM] H → va_S (zA [shM G xM] s.heap.size) s.heap H locs → ∀ ls : Array Slot, lv_has ls 10 [(0, .ref (xM 0)), (6, .int l6), (7, .int l7)] → W p l e rmX7_relate s m args below meth c H locs 0 0 (MQ below (zQ G [shM G xM] [vM] (zA [shM G xM] s.heap.size) (some (.int rr))) args s 0 0 (zA [shM G xM] s.heap.size)) (F0 m 202 ls []) := by
  obtain ⟨hx, hb, hr, hml, hown, hts, hlk⟩ := id C0
  intro uM l6 l7 h H locs hP hS ls hl
  unfold bX7_relate_202 at h
  refine lv_aload_n hx hb dX7_relate_202 rfl (lv_at hl 0 rfl) ?_
  refine lv_iload hx hb dX7_relate_203 (lv_at hl 2 rfl) ?_
  refine lv_iload hx hb dX7_relate_205 (lv_at hl 1 rfl) ?_
  refine lv_if_eq (tgt := 214) hx hb dX7_relate_207 (by decide) (fun hc => ?_) (fun hc => ?_)
  · replace h := zt hc h
    refine lv_iconst (v := 1) hx hb dX7_relate_214 (by decide) ?_
    exact tX7_relate_215 C0 hK hN hD  _ _ _ h _ _ hP hS _ (lv_sub hl [0] rfl)
  · replace h := zf hc h
    refine lv_iconst (v := 0) hx hb dX7_relate_210 (by decide) ?_
    refine lv_goto (tgt := 215) hx hb dX7_relate_211 (by decide) ?_
    exact tX7_relate_215 C0 hK hN hD  _ _ _ h _ _ hP hS _ (lv_sub hl [0] rfl)
set_option maxRecDepth 20000 in
theorem tX7_relate_179 (C0 : zCtx p s m args meth c cX7_relate RX7 wsX7_relate 10 (some .int)) (hK : zK G s) (hN : zN s) (hD : zD [shM G xM]) {k50 : zSt → Int32 → Int32 → Int32 → Int32 → Int32 → Option (Int32 × zSt)} (K50 : ∀ (uM : zSt) (l3 : Int32) (l4 : Int32) (l5 : Int32) (l6 : Int32) (l7 : Int32), k50 uM l3 l4 l5 l6 l7 = some (rr, vM) → ∀ (H : Heap) (locs : List Loc), zP G [shM G xM] [uM] H → va_S (zA [shM G xM] s.heap.size) s.heap H locs → ∀ ls : Array Slot, lv_has ls 10 [(0, .ref (xM 0)), (3, .int l3), (4, .int l4), (5, .int l5), (6, .int l6), (7, .int l7)] → W p l e rmX7_relate s m args below meth c H locs 0 0 (MQ below (zQ G [shM G xM] [vM] (zA [shM G xM] s.heap.size) (some (.int rr))) args s 0 0 (zA [shM G xM] s.heap.size)) (F0 m 50 ls [])) : ∀ (uM : zSt) (l3 : Int32) (l5 : Int32) (l6 : Int32) (l7 : Int32) (s0 : Int32), bX7_relate_179 k50 uM l3 l5 l6 l7 s0 = some (rr, vM) → ∀ (H : Heap) (locs : List Loc), zP G [shM G xM] [uM] H → va_S (zA [shM G xM] s.heap.size) s.heap H locs → ∀ ls : Array Slot, lv_has ls 10 [(0, .ref (xM 0)), (3, .int l3), (5, .int l5), (6, .int l6), (7, .int l7)] → W p l e rmX7_relate s m args below meth c H locs 0 0 (MQ below (zQ G [shM G xM] [vM] (zA [shM G xM] s.heap.size) (some (.int rr))) args s 0 0 (zA [shM G xM] s.heap.size)) (F0 m 179 ls [.int s0]) := by
  obtain ⟨hx, hb, hr, hml, hown, hts, hlk⟩ := id C0
  intro uM l3 l5 l6 l7 s0 h H locs hP hS ls hl
  unfold bX7_relate_179 at h
  refine lv_istore (lv' := [(4, .int s0), (0, .ref (xM 0)), (3, .int l3), (5, .int l5), (6, .int l6), (7, .int l7)]) hx hb dX7_relate_179 hl (by decide) rfl (fun ls hl => ?_)
  refine lv_goto (tgt := 50) hx hb dX7_relate_181 (by decide) ?_
  exact K50 _ _ _ _ _ _ h _ _ hP hS _ (lv_sub hl [1, 2, 0, 3, 4, 5] rfl)
set_option maxRecDepth 20000 in
theorem tX7_relate_162 (C0 : zCtx p s m args meth c cX7_relate RX7 wsX7_relate 10 (some .int)) (hK : zK G s) (hN : zN s) (hD : zD [shM G xM]) {k50 : zSt → Int32 → Int32 → Int32 → Int32 → Int32 → Option (Int32 × zSt)} (K50 : ∀ (uM : zSt) (l3 : Int32) (l4 : Int32) (l5 : Int32) (l6 : Int32) (l7 : Int32), k50 uM l3 l4 l5 l6 l7 = some (rr, vM) → ∀ (H : Heap) (locs : List Loc), zP G [shM G xM] [uM] H → va_S (zA [shM G xM] s.heap.size) s.heap H locs → ∀ ls : Array Slot, lv_has ls 10 [(0, .ref (xM 0)), (3, .int l3), (4, .int l4), (5, .int l5), (6, .int l6), (7, .int l7)] → W p l e rmX7_relate s m args below meth c H locs 0 0 (MQ below (zQ G [shM G xM] [vM] (zA [shM G xM] s.heap.size) (some (.int rr))) args s 0 0 (zA [shM G xM] s.heap.size)) (F0 m 50 ls [])) : ∀ (uM : zSt) (l3 : Int32) (l4 : Int32) (l6 : Int32) (l7 : Int32) (l8 : Int32) (l9 : Int32) (s0 : Int32), bX7_relate_162 k50 uM l3 l4 l6 l7 l8 l9 s0 = some (rr, vM) → ∀ (H : Heap) (locs : List Loc), zP G [shM G xM] [uM] H → va_S (zA [shM G xM] s.heap.size) s.heap H locs → ∀ ls : Array Slot, lv_has ls 10 [(0, .ref (xM 0)), (3, .int l3), (4, .int l4), (6, .int l6), (7, .int l7), (8, .int l8), (9, .int l9)] → W p l e rmX7_relate s m args below meth c H locs 0 0 (MQ below (zQ G [shM G xM] [vM] (zA [shM G xM] s.heap.size) (some (.int rr))) args s 0 0 (zA [shM G xM] s.heap.size)) (F0 m 162 ls [.int s0]) := by
  obtain ⟨hx, hb, hr, hml, hown, hts, hlk⟩ := id C0
  intro uM l3 l4 l6 l7 l8 l9 s0 h H locs hP hS ls hl
  unfold bX7_relate_162 at h
  refine lv_istore (lv' := [(5, .int s0), (0, .ref (xM 0)), (3, .int l3), (4, .int l4), (6, .int l6), (7, .int l7), (8, .int l8), (9, .int l9)]) hx hb dX7_relate_162 hl (by decide) rfl (fun ls hl => ?_)
  refine lv_iload hx hb dX7_relate_164 (lv_at hl 7 rfl) ?_
  refine lv_if_eq (tgt := 174) hx hb dX7_relate_166 (by decide) (fun hc => ?_) (fun hc => ?_)
  · replace h := zt hc h
    refine lv_iload hx hb dX7_relate_174 (lv_at hl 3 rfl) ?_
    refine lv_iload hx hb dX7_relate_176 (lv_at hl 6 rfl) ?_
    refine lv_isub hx hb dX7_relate_178 ?_
    exact tX7_relate_179 C0 hK hN hD K50 _ _ _ _ _ _ h _ _ hP hS _ (lv_sub hl [1, 2, 0, 4, 5] rfl)
  · replace h := zf hc h
    refine lv_iload hx hb dX7_relate_169 (lv_at hl 6 rfl) ?_
    refine lv_goto (tgt := 179) hx hb dX7_relate_171 (by decide) ?_
    exact tX7_relate_179 C0 hK hN hD K50 _ _ _ _ _ _ h _ _ hP hS _ (lv_sub hl [1, 2, 0, 4, 5] rfl)
set_option maxRecDepth 20000 in
theorem tX7_relate_146 (C0 : zCtx p s m args meth c cX7_relate RX7 wsX7_relate 10 (some .int)) (hK : zK G s) (hN : zN s) (hD : zD [shM G xM]) {k50 : zSt → Int32 → Int32 → Int32 → Int32 → Int32 → Option (Int32 × zSt)} (K50 : ∀ (uM : zSt) (l3 : Int32) (l4 : Int32) (l5 : Int32) (l6 : Int32) (l7 : Int32), k50 uM l3 l4 l5 l6 l7 = some (rr, vM) → ∀ (H : Heap) (locs : List Loc), zP G [shM G xM] [uM] H → va_S (zA [shM G xM] s.heap.size) s.heap H locs → ∀ ls : Array Slot, lv_has ls 10 [(0, .ref (xM 0)), (3, .int l3), (4, .int l4), (5, .int l5), (6, .int l6), (7, .int l7)] → W p l e rmX7_relate s m args below meth c H locs 0 0 (MQ below (zQ G [shM G xM] [vM] (zA [shM G xM] s.heap.size) (some (.int rr))) args s 0 0 (zA [shM G xM] s.heap.size)) (F0 m 50 ls [])) : ∀ (uM : zSt) (l4 : Int32) (l5 : Int32) (l6 : Int32) (l7 : Int32) (l8 : Int32) (l9 : Int32) (s0 : Int32), bX7_relate_146 k50 uM l4 l5 l6 l7 l8 l9 s0 = some (rr, vM) → ∀ (H : Heap) (locs : List Loc), zP G [shM G xM] [uM] H → va_S (zA [shM G xM] s.heap.size) s.heap H locs → ∀ ls : Array Slot, lv_has ls 10 [(0, .ref (xM 0)), (4, .int l4), (5, .int l5), (6, .int l6), (7, .int l7), (8, .int l8), (9, .int l9)] → W p l e rmX7_relate s m args below meth c H locs 0 0 (MQ below (zQ G [shM G xM] [vM] (zA [shM G xM] s.heap.size) (some (.int rr))) args s 0 0 (zA [shM G xM] s.heap.size)) (F0 m 146 ls [.int s0]) := by
  obtain ⟨hx, hb, hr, hml, hown, hts, hlk⟩ := id C0
  intro uM l4 l5 l6 l7 l8 l9 s0 h H locs hP hS ls hl
  unfold bX7_relate_146 at h
  refine lv_istore_n (lv' := [(3, .int s0), (0, .ref (xM 0)), (4, .int l4), (5, .int l5), (6, .int l6), (7, .int l7), (8, .int l8), (9, .int l9)]) hx hb dX7_relate_146 rfl hl (by decide) rfl (fun ls hl => ?_)
  refine lv_iload hx hb dX7_relate_147 (lv_at hl 7 rfl) ?_
  refine lv_if_eq (tgt := 157) hx hb dX7_relate_149 (by decide) (fun hc => ?_) (fun hc => ?_)
  · replace h := zt hc h
    refine lv_iload hx hb dX7_relate_157 (lv_at hl 3 rfl) ?_
    refine lv_iload hx hb dX7_relate_159 (lv_at hl 6 rfl) ?_
    refine lv_isub hx hb dX7_relate_161 ?_
    exact tX7_relate_162 C0 hK hN hD K50 _ _ _ _ _ _ _ _ h _ _ hP hS _ (lv_sub hl [1, 0, 2, 4, 5, 6, 7] rfl)
  · replace h := zf hc h
    refine lv_iload hx hb dX7_relate_152 (lv_at hl 3 rfl) ?_
    refine lv_goto (tgt := 162) hx hb dX7_relate_154 (by decide) ?_
    exact tX7_relate_162 C0 hK hN hD K50 _ _ _ _ _ _ _ _ h _ _ hP hS _ (lv_sub hl [1, 0, 2, 4, 5, 6, 7] rfl)
set_option maxRecDepth 20000 in
theorem tX7_relate_131 (C0 : zCtx p s m args meth c cX7_relate RX7 wsX7_relate 10 (some .int)) (hK : zK G s) (hN : zN s) (hD : zD [shM G xM]) {k50 : zSt → Int32 → Int32 → Int32 → Int32 → Int32 → Option (Int32 × zSt)} (K50 : ∀ (uM : zSt) (l3 : Int32) (l4 : Int32) (l5 : Int32) (l6 : Int32) (l7 : Int32), k50 uM l3 l4 l5 l6 l7 = some (rr, vM) → ∀ (H : Heap) (locs : List Loc), zP G [shM G xM] [uM] H → va_S (zA [shM G xM] s.heap.size) s.heap H locs → ∀ ls : Array Slot, lv_has ls 10 [(0, .ref (xM 0)), (3, .int l3), (4, .int l4), (5, .int l5), (6, .int l6), (7, .int l7)] → W p l e rmX7_relate s m args below meth c H locs 0 0 (MQ below (zQ G [shM G xM] [vM] (zA [shM G xM] s.heap.size) (some (.int rr))) args s 0 0 (zA [shM G xM] s.heap.size)) (F0 m 50 ls [])) : ∀ (uM : zSt) (l3 : Int32) (l4 : Int32) (l5 : Int32) (l7 : Int32) (l8 : Int32) (l9 : Int32) (s0 : Int32), bX7_relate_131 k50 uM l3 l4 l5 l7 l8 l9 s0 = some (rr, vM) → ∀ (H : Heap) (locs : List Loc), zP G [shM G xM] [uM] H → va_S (zA [shM G xM] s.heap.size) s.heap H locs → ∀ ls : Array Slot, lv_has ls 10 [(0, .ref (xM 0)), (3, .int l3), (4, .int l4), (5, .int l5), (7, .int l7), (8, .int l8), (9, .int l9)] → W p l e rmX7_relate s m args below meth c H locs 0 0 (MQ below (zQ G [shM G xM] [vM] (zA [shM G xM] s.heap.size) (some (.int rr))) args s 0 0 (zA [shM G xM] s.heap.size)) (F0 m 131 ls [.int s0]) := by
  obtain ⟨hx, hb, hr, hml, hown, hts, hlk⟩ := id C0
  intro uM l3 l4 l5 l7 l8 l9 s0 h H locs hP hS ls hl
  unfold bX7_relate_131 at h
  refine lv_istore (lv' := [(6, .int s0), (0, .ref (xM 0)), (3, .int l3), (4, .int l4), (5, .int l5), (7, .int l7), (8, .int l8), (9, .int l9)]) hx hb dX7_relate_131 hl (by decide) rfl (fun ls hl => ?_)
  refine lv_iload hx hb dX7_relate_133 (lv_at hl 7 rfl) ?_
  refine lv_if_eq (tgt := 142) hx hb dX7_relate_135 (by decide) (fun hc => ?_) (fun hc => ?_)
  · replace h := zt hc h
    refine lv_iload_n hx hb dX7_relate_142 rfl (lv_at hl 2 rfl) ?_
    refine lv_iload hx hb dX7_relate_143 (lv_at hl 6 rfl) ?_
    refine lv_iadd hx hb dX7_relate_145 ?_
    exact tX7_relate_146 C0 hK hN hD K50 _ _ _ _ _ _ _ _ h _ _ hP hS _ (lv_sub hl [1, 3, 4, 0, 5, 6, 7] rfl)
  · replace h := zf hc h
    refine lv_iload_n hx hb dX7_relate_138 rfl (lv_at hl 2 rfl) ?_
    refine lv_goto (tgt := 146) hx hb dX7_relate_139 (by decide) ?_
    exact tX7_relate_146 C0 hK hN hD K50 _ _ _ _ _ _ _ _ h _ _ hP hS _ (lv_sub hl [1, 3, 4, 0, 5, 6, 7] rfl)
set_option maxRecDepth 20000 in
theorem tX7_relate_130 (C0 : zCtx p s m args meth c cX7_relate RX7 wsX7_relate 10 (some .int)) (hK : zK G s) (hN : zN s) (hD : zD [shM G xM]) {k50 : zSt → Int32 → Int32 → Int32 → Int32 → Int32 → Option (Int32 × zSt)} (K50 : ∀ (uM : zSt) (l3 : Int32) (l4 : Int32) (l5 : Int32) (l6 : Int32) (l7 : Int32), k50 uM l3 l4 l5 l6 l7 = some (rr, vM) → ∀ (H : Heap) (locs : List Loc), zP G [shM G xM] [uM] H → va_S (zA [shM G xM] s.heap.size) s.heap H locs → ∀ ls : Array Slot, lv_has ls 10 [(0, .ref (xM 0)), (3, .int l3), (4, .int l4), (5, .int l5), (6, .int l6), (7, .int l7)] → W p l e rmX7_relate s m args below meth c H locs 0 0 (MQ below (zQ G [shM G xM] [vM] (zA [shM G xM] s.heap.size) (some (.int rr))) args s 0 0 (zA [shM G xM] s.heap.size)) (F0 m 50 ls [])) : ∀ (uM : zSt) (l3 : Int32) (l4 : Int32) (l5 : Int32) (l7 : Int32) (l8 : Int32) (l9 : Int32), bX7_relate_130 k50 uM l3 l4 l5 l7 l8 l9 = some (rr, vM) → ∀ (H : Heap) (locs : List Loc), zP G [shM G xM] [uM] H → va_S (zA [shM G xM] s.heap.size) s.heap H locs → ∀ ls : Array Slot, lv_has ls 10 [(0, .ref (xM 0)), (3, .int l3), (4, .int l4), (5, .int l5), (7, .int l7), (8, .int l8), (9, .int l9)] → W p l e rmX7_relate s m args below meth c H locs 0 0 (MQ below (zQ G [shM G xM] [vM] (zA [shM G xM] s.heap.size) (some (.int rr))) args s 0 0 (zA [shM G xM] s.heap.size)) (F0 m 130 ls []) := by
  obtain ⟨hx, hb, hr, hml, hown, hts, hlk⟩ := id C0
  intro uM l3 l4 l5 l7 l8 l9 h H locs hP hS ls hl
  unfold bX7_relate_130 at h
  refine lv_iconst (v := 0) hx hb dX7_relate_130 (by decide) ?_
  exact tX7_relate_131 C0 hK hN hD K50 _ _ _ _ _ _ _ _ h _ _ hP hS _ (lv_sub hl [0, 1, 2, 3, 4, 5, 6] rfl)
set_option maxRecDepth 20000 in
theorem tX7_relate_112 (C0 : zCtx p s m args meth c cX7_relate RX7 wsX7_relate 10 (some .int)) (hK : zK G s) (hN : zN s) (hD : zD [shM G xM]) {k50 : zSt → Int32 → Int32 → Int32 → Int32 → Int32 → Option (Int32 × zSt)} (K50 : ∀ (uM : zSt) (l3 : Int32) (l4 : Int32) (l5 : Int32) (l6 : Int32) (l7 : Int32), k50 uM l3 l4 l5 l6 l7 = some (rr, vM) → ∀ (H : Heap) (locs : List Loc), zP G [shM G xM] [uM] H → va_S (zA [shM G xM] s.heap.size) s.heap H locs → ∀ ls : Array Slot, lv_has ls 10 [(0, .ref (xM 0)), (3, .int l3), (4, .int l4), (5, .int l5), (6, .int l6), (7, .int l7)] → W p l e rmX7_relate s m args below meth c H locs 0 0 (MQ below (zQ G [shM G xM] [vM] (zA [shM G xM] s.heap.size) (some (.int rr))) args s 0 0 (zA [shM G xM] s.heap.size)) (F0 m 50 ls [])) : ∀ (uM : zSt) (l3 : Int32) (l4 : Int32) (l5 : Int32) (l6 : Int32) (l7 : Int32) (l8 : Int32) (l9 : Int32) (s1 : Int32) (s2 : Int64), bX7_relate_112 k50 uM l3 l4 l5 l6 l7 l8 l9 s1 s2 = some (rr, vM) → ∀ (H : Heap) (locs : List Loc), zP G [shM G xM] [uM] H → va_S (zA [shM G xM] s.heap.size) s.heap H locs → ∀ ls : Array Slot, lv_has ls 10 [(0, .ref (xM 0)), (3, .int l3), (4, .int l4), (5, .int l5), (6, .int l6), (7, .int l7), (8, .int l8), (9, .int l9)] → W p l e rmX7_relate s m args below meth c H locs 0 0 (MQ below (zQ G [shM G xM] [vM] (zA [shM G xM] s.heap.size) (some (.int rr))) args s 0 0 (zA [shM G xM] s.heap.size)) (F0 m 112 ls [.long s2, .int s1, .ref (xM 28)]) := by
  obtain ⟨hx, hb, hr, hml, hown, hts, hlk⟩ := id C0
  intro uM l3 l4 l5 l6 l7 l8 l9 s1 s2 h H locs hP hS ls hl
  unfold bX7_relate_112 at h
  obtain ⟨hi, h⟩ := zin_e h
  refine tM_37 hx hb hK hP hD hS 0 (xM) rfl rfl hi rfl dX7_relate_112 (fun H locs hP hS => ?_)
  replace hP : zP G [shM G xM] [(sL uM 37 s1.toNatClampNeg s2)] H := hP
  refine lv_iinc (v := (l7 + (1 : Int32))) (lv' := [(7, .int ((l7 + (1 : Int32)))), (0, .ref (xM 0)), (3, .int l3), (4, .int l4), (5, .int l5), (6, .int l6), (8, .int l8), (9, .int l9)]) hx hb dX7_relate_113 hl (k := 5) rfl rfl (by decide) rfl (fun ls hl => ?_)
  refine lv_iload hx hb dX7_relate_116 (lv_at hl 5 rfl) ?_
  refine lv_if_eq (tgt := 130) hx hb dX7_relate_118 (by decide) (fun hc => ?_) (fun hc => ?_)
  · replace h := zt hc h
    exact tX7_relate_130 C0 hK hN hD K50 _ _ _ _ _ _ _ h _ _ hP hS _ (lv_sub hl [1, 2, 3, 4, 0, 6, 7] rfl)
  · replace h := zf hc h
    refine lv_iload hx hb dX7_relate_121 (lv_at hl 7 rfl) ?_
    refine lv_if_eq (tgt := 130) hx hb dX7_relate_123 (by decide) (fun hc => ?_) (fun hc => ?_)
    · replace h := zt hc h
      exact tX7_relate_130 C0 hK hN hD K50 _ _ _ _ _ _ _ h _ _ hP hS _ (lv_sub hl [1, 2, 3, 4, 0, 6, 7] rfl)
    · replace h := zf hc h
      refine lv_iconst (v := 1) hx hb dX7_relate_126 (by decide) ?_
      refine lv_goto (tgt := 131) hx hb dX7_relate_127 (by decide) ?_
      exact tX7_relate_131 C0 hK hN hD K50 _ _ _ _ _ _ _ _ h _ _ hP hS _ (lv_sub hl [1, 2, 3, 4, 0, 6, 7] rfl)
set_option maxRecDepth 20000 in
theorem tX7_relate_76 (C0 : zCtx p s m args meth c cX7_relate RX7 wsX7_relate 10 (some .int)) (hK : zK G s) (hN : zN s) (hD : zD [shM G xM]) {k50 : zSt → Int32 → Int32 → Int32 → Int32 → Int32 → Option (Int32 × zSt)} (K50 : ∀ (uM : zSt) (l3 : Int32) (l4 : Int32) (l5 : Int32) (l6 : Int32) (l7 : Int32), k50 uM l3 l4 l5 l6 l7 = some (rr, vM) → ∀ (H : Heap) (locs : List Loc), zP G [shM G xM] [uM] H → va_S (zA [shM G xM] s.heap.size) s.heap H locs → ∀ ls : Array Slot, lv_has ls 10 [(0, .ref (xM 0)), (3, .int l3), (4, .int l4), (5, .int l5), (6, .int l6), (7, .int l7)] → W p l e rmX7_relate s m args below meth c H locs 0 0 (MQ below (zQ G [shM G xM] [vM] (zA [shM G xM] s.heap.size) (some (.int rr))) args s 0 0 (zA [shM G xM] s.heap.size)) (F0 m 50 ls [])) : ∀ (uM : zSt) (l3 : Int32) (l4 : Int32) (l5 : Int32) (l6 : Int32) (l7 : Int32) (l8 : Int32) (s0 : Int32), bX7_relate_76 k50 uM l3 l4 l5 l6 l7 l8 s0 = some (rr, vM) → ∀ (H : Heap) (locs : List Loc), zP G [shM G xM] [uM] H → va_S (zA [shM G xM] s.heap.size) s.heap H locs → ∀ ls : Array Slot, lv_has ls 10 [(0, .ref (xM 0)), (3, .int l3), (4, .int l4), (5, .int l5), (6, .int l6), (7, .int l7), (8, .int l8)] → W p l e rmX7_relate s m args below meth c H locs 0 0 (MQ below (zQ G [shM G xM] [vM] (zA [shM G xM] s.heap.size) (some (.int rr))) args s 0 0 (zA [shM G xM] s.heap.size)) (F0 m 76 ls [.int s0]) := by
  obtain ⟨hx, hb, hr, hml, hown, hts, hlk⟩ := id C0
  have hwX7 : ∀ w ∈ wsX70, w.before args s = true := fun w h => hts w (List.mem_cons_of_mem _ (List.mem_append_right _ h))
  intro uM l3 l4 l5 l6 l7 l8 s0 h H locs hP hS ls hl
  unfold bX7_relate_76 at h
  refine lv_istore (lv' := [(9, .int s0), (0, .ref (xM 0)), (3, .int l3), (4, .int l4), (5, .int l5), (6, .int l6), (7, .int l7), (8, .int l8)]) hx hb dX7_relate_76 hl (by decide) rfl (fun ls hl => ?_)
  refine lv_aload_n hx hb dX7_relate_78 rfl (lv_at hl 1 rfl) ?_
  refine rM_37 hx hb hwX7 hown hK hP 0 (xM) rfl rfl (hts _ (List.mem_of_getElem? (i := 3) rfl)) dX7_relate_79 ?_
  refine lv_iload hx hb dX7_relate_82 (lv_at hl 6 rfl) ?_
  refine lv_iload hx hb dX7_relate_84 (lv_at hl 0 rfl) ?_
  refine lv_if_eq (tgt := 105) hx hb dX7_relate_86 (by decide) (fun hc => ?_) (fun hc => ?_)
  · replace h := zt hc h
    refine lv_aload_n hx hb dX7_relate_105 rfl (lv_at hl 1 rfl) ?_
    refine lv_iload_n hx hb dX7_relate_106 rfl (lv_at hl 2 rfl) ?_
    refine lv_iload hx hb dX7_relate_107 (lv_at hl 7 rfl) ?_
    obtain ⟨r_2, uM_3, hg, h⟩ := zb2_e h
    refine z_callV (As := [.int l3, .int l8]) (rest := [.int l7, .ref (xM 28)]) (i := 0) ⟨hx, hb, hml, hown, hts⟩ (mX7_headOf l G (xM) hg) (cwV 2 hts gX7_relate_X7_headOf rfl rfl rfl kvX7_headOf ⟨Nat.le_of_ble_eq_true rfl, Nat.le_of_ble_eq_true rfl⟩) rfl hP hD hK hN hS (Nat.le_refl _) [0] rfl rfl rfl rfl 0 rfl rfl rfl rfl rfl hl.1 rfl (Nat.le_of_ble_eq_true rfl) dX7_relate_109 ⟨Nat.zero_le _, Nat.zero_le _⟩ (fun H locs hP hS => ?_)
    replace hP : zP G [shM G xM] [uM_3] H := hP
    exact tX7_relate_112 C0 hK hN hD K50 _ _ _ _ _ _ _ _ _ _ h _ _ hP hS _ (lv_sub hl [1, 2, 3, 4, 5, 6, 7, 0] rfl)
  · replace h := zf hc h
    refine lv_aload_n hx hb dX7_relate_89 rfl (lv_at hl 1 rfl) ?_
    refine lv_iload_n hx hb dX7_relate_90 rfl (lv_at hl 2 rfl) ?_
    refine lv_iload hx hb dX7_relate_91 (lv_at hl 7 rfl) ?_
    refine lv_iadd hx hb dX7_relate_93 ?_
    refine lv_iload hx hb dX7_relate_94 (lv_at hl 3 rfl) ?_
    refine lv_iload hx hb dX7_relate_96 (lv_at hl 7 rfl) ?_
    refine lv_isub hx hb dX7_relate_98 ?_
    obtain ⟨r_4, uM_5, hg, h⟩ := zb2_e h
    refine z_callV (As := [.int ((l3 + l8)), .int ((l4 - l8))]) (rest := [.int l7, .ref (xM 28)]) (i := 0) ⟨hx, hb, hml, hown, hts⟩ (mX7_headOf l G (xM) hg) (cwV 2 hts gX7_relate_X7_headOf rfl rfl rfl kvX7_headOf ⟨Nat.le_of_ble_eq_true rfl, Nat.le_of_ble_eq_true rfl⟩) rfl hP hD hK hN hS (Nat.le_refl _) [0] rfl rfl rfl rfl 0 rfl rfl rfl rfl rfl hl.1 rfl (Nat.le_of_ble_eq_true rfl) dX7_relate_99 ⟨Nat.zero_le _, Nat.zero_le _⟩ (fun H locs hP hS => ?_)
    replace hP : zP G [shM G xM] [uM_5] H := hP
    refine lv_goto (tgt := 112) hx hb dX7_relate_102 (by decide) ?_
    exact tX7_relate_112 C0 hK hN hD K50 _ _ _ _ _ _ _ _ _ _ h _ _ hP hS _ (lv_sub hl [1, 2, 3, 4, 5, 6, 7, 0] rfl)
set_option maxRecDepth 20000 in
theorem tlX7_relate_50 (C0 : zCtx p s m args meth c cX7_relate RX7 wsX7_relate 10 (some .int)) (hK : zK G s) (hN : zN s) (hD : zD [shM G xM])  : ∀ (n : Nat), ∀ (uM : zSt) (l3 : Int32) (l4 : Int32) (l5 : Int32) (l6 : Int32) (l7 : Int32), lX7_relate_50  n uM l3 l4 l5 l6 l7 = some (rr, vM) → ∀ (H : Heap) (locs : List Loc), zP G [shM G xM] [uM] H → va_S (zA [shM G xM] s.heap.size) s.heap H locs → ∀ ls : Array Slot, lv_has ls 10 [(0, .ref (xM 0)), (3, .int l3), (4, .int l4), (5, .int l5), (6, .int l6), (7, .int l7)] → W p l e rmX7_relate s m args below meth c H locs 0 0 (MQ below (zQ G [shM G xM] [vM] (zA [shM G xM] s.heap.size) (some (.int rr))) args s 0 0 (zA [shM G xM] s.heap.size)) (F0 m 50 ls []) := by
  obtain ⟨hx, hb, hr, hml, hown, hts, hlk⟩ := id C0
  have hwX7 : ∀ w ∈ wsX70, w.before args s = true := fun w h => hts w (List.mem_cons_of_mem _ (List.mem_append_right _ h))
  intro n
  induction n with
  | zero => intro uM l3 l4 l5 l6 l7 h; exact absurd h (fun q => nomatch q)
  | succ n K50 =>
    intro uM l3 l4 l5 l6 l7 h H locs hP hS ls hl
    replace h : bX7_relate_50  (lX7_relate_50  n) uM l3 l4 l5 l6 l7 = some (rr, vM) := h
    unfold bX7_relate_50 at h
    refine lv_iload hx hb dX7_relate_50 (lv_at hl 3 rfl) ?_
    refine lv_iload hx hb dX7_relate_52 (lv_at hl 2 rfl) ?_
    refine lv_icmp_eq (tgt := 184) hx hb dX7_relate_54 (by decide) (fun hc => ?_) (fun hc => ?_)
    · replace h := zt hc h
      refine lv_iload hx hb dX7_relate_184 (lv_at hl 4 rfl) ?_
      refine lv_if_ne (tgt := 202) hx hb dX7_relate_186 (by decide) (fun hc => ?_) (fun hc => ?_)
      · replace h := zf hc h
        exact tX7_relate_202 C0 hK hN hD  _ _ _ h _ _ hP hS _ (lv_sub hl [0, 4, 5] rfl)
      · replace h := zt hc h
        refine lv_aload_n hx hb dX7_relate_189 rfl (lv_at hl 0 rfl) ?_
        refine rM_36 hx hb hwX7 hown hK hP 0 (xM) rfl rfl (hts _ (List.mem_of_getElem? (i := 4) rfl)) dX7_relate_190 ?_
        refine lv_iconst (v := 0) hx hb dX7_relate_193 (by decide) ?_
        refine lv_aload_n hx hb dX7_relate_194 rfl (lv_at hl 0 rfl) ?_
        refine lv_iload_n hx hb dX7_relate_195 rfl (lv_at hl 1 rfl) ?_
        refine lv_iload hx hb dX7_relate_196 (lv_at hl 2 rfl) ?_
        obtain ⟨r_6, uM_7, hg, h⟩ := zb2_e h
        refine z_callV (As := [.int l3, .int l4]) (rest := [.int ((0 : Int32)), .ref (xM 27)]) (i := 0) ⟨hx, hb, hml, hown, hts⟩ (mX7_headOf l G (xM) hg) (cwV 2 hts gX7_relate_X7_headOf rfl rfl rfl kvX7_headOf ⟨Nat.le_of_ble_eq_true rfl, Nat.le_of_ble_eq_true rfl⟩) rfl hP hD hK hN hS (Nat.le_refl _) [0] rfl rfl rfl rfl 0 rfl rfl rfl rfl rfl hl.1 rfl (Nat.le_of_ble_eq_true rfl) dX7_relate_198 ⟨Nat.zero_le _, Nat.zero_le _⟩ (fun H locs hP hS => ?_)
        replace hP : zP G [shM G xM] [uM_7] H := hP
        refine tM_36 hx hb hK hP hD hS 0 (xM) rfl rfl (zvi tn_0 n0_0 (by decide)) tn_0 dX7_relate_201 (fun H locs hP hS => ?_)
        replace hP : zP G [shM G xM] [(sL uM_7 36 0 r_6)] H := hP
        exact tX7_relate_202 C0 hK hN hD  _ _ _ h _ _ hP hS _ (lv_sub hl [0, 4, 5] rfl)
    · replace h := zf hc h
      refine lv_iload hx hb dX7_relate_57 (lv_at hl 2 rfl) ?_
      obtain ⟨r_8, hg, h⟩ := zb1_e h
      refine z_callS (As := [.int l4]) (rest := []) ⟨hx, hb, hml, hown, hts⟩ (mX7_partOf l G  hg) (va_cwS 1 hts gX7_relate_X7_partOf rfl rfl rfl ksX7_partOf ⟨Nat.le_of_ble_eq_true rfl, Nat.le_of_ble_eq_true rfl⟩) hP hD hK hN hS (Nat.le_refl _) [] rfl rfl rfl rfl rfl hl.1 rfl (Nat.le_of_ble_eq_true rfl) dX7_relate_59 ⟨Nat.zero_le _, Nat.zero_le _⟩ (fun H locs hP hS => ?_)
      replace hP : zP G [shM G xM] [uM] H := hP
      refine lv_istore (lv' := [(8, .int r_8), (0, .ref (xM 0)), (3, .int l3), (4, .int l4), (5, .int l5), (6, .int l6), (7, .int l7)]) hx hb dX7_relate_62 hl (by decide) rfl (fun ls hl => ?_)
      refine lv_iload hx hb dX7_relate_64 (lv_at hl 4 rfl) ?_
      refine lv_iload hx hb dX7_relate_66 (lv_at hl 0 rfl) ?_
      refine lv_icmp_gt (tgt := 75) hx hb dX7_relate_68 (by decide) (fun hc => ?_) (fun hc => ?_)
      · replace h := zt hc h
        refine lv_iconst (v := 0) hx hb dX7_relate_75 (by decide) ?_
        exact tX7_relate_76 C0 hK hN hD K50 _ _ _ _ _ _ _ _ h _ _ hP hS _ (lv_sub hl [1, 2, 3, 4, 5, 6, 0] rfl)
      · replace h := zf hc h
        refine lv_iconst (v := 1) hx hb dX7_relate_71 (by decide) ?_
        refine lv_goto (tgt := 76) hx hb dX7_relate_72 (by decide) ?_
        exact tX7_relate_76 C0 hK hN hD K50 _ _ _ _ _ _ _ _ h _ _ hP hS _ (lv_sub hl [1, 2, 3, 4, 5, 6, 0] rfl)
set_option maxRecDepth 20000 in
theorem tX7_relate_24 (C0 : zCtx p s m args meth c cX7_relate RX7 wsX7_relate 10 (some .int)) (hK : zK G s) (hN : zN s) (hD : zD [shM G xM])  : ∀ (uM : zSt) (l1 : Int32) (l2 : Int32) (s1 : Int32), bX7_relate_24  uM l1 l2 s1 = some (rr, vM) → ∀ (H : Heap) (locs : List Loc), zP G [shM G xM] [uM] H → va_S (zA [shM G xM] s.heap.size) s.heap H locs → ∀ ls : Array Slot, lv_has ls 10 [(0, .ref (xM 0)), (1, .int l1), (2, .int l2)] → W p l e rmX7_relate s m args below meth c H locs 0 0 (MQ below (zQ G [shM G xM] [vM] (zA [shM G xM] s.heap.size) (some (.int rr))) args s 0 0 (zA [shM G xM] s.heap.size)) (F0 m 24 ls [.int s1, .ref (xM 0)]) := by
  obtain ⟨hx, hb, hr, hml, hown, hts, hlk⟩ := id C0
  have hwX7 : ∀ w ∈ wsX70, w.before args s = true := fun w h => hts w (List.mem_cons_of_mem _ (List.mem_append_right _ h))
  intro uM l1 l2 s1 h H locs hP hS ls hl
  unfold bX7_relate_24 at h
  refine pM_0 hx hb hwX7 hown hK hP hD hS 0 (xM) rfl rfl (hts _ (List.mem_of_getElem? (i := 2) rfl)) dX7_relate_24 (fun H locs hP hS => ?_)
  replace hP : zP G [shM G xM] [(sI uM 0 s1)] H := hP
  refine lv_aload_n hx hb dX7_relate_27 rfl (lv_at hl 0 rfl) ?_
  refine rM_0 hx hb hwX7 hown hK hP 0 (xM) rfl rfl (hts _ (List.mem_of_getElem? (i := 2) rfl)) dX7_relate_28 ?_
  refine lv_if_le (tgt := 36) hx hb dX7_relate_31 (by decide) (fun hc => ?_) (fun hc => ?_)
  · replace h := zt hc h
    refine lv_iconst (v := 0) hx hb dX7_relate_36 (by decide) ?_
    refine lv_istore_n (lv' := [(3, .int ((0 : Int32))), (0, .ref (xM 0)), (1, .int l1), (2, .int l2)]) hx hb dX7_relate_37 rfl hl (by decide) rfl (fun ls hl => ?_)
    refine lv_iload_n hx hb dX7_relate_38 rfl (lv_at hl 3 rfl) ?_
    refine lv_istore (lv' := [(4, .int l2), (3, .int ((0 : Int32))), (0, .ref (xM 0)), (1, .int l1), (2, .int l2)]) hx hb dX7_relate_39 hl (by decide) rfl (fun ls hl => ?_)
    refine lv_iload_n hx hb dX7_relate_41 rfl (lv_at hl 3 rfl) ?_
    refine lv_istore (lv' := [(5, .int l1), (4, .int l2), (3, .int ((0 : Int32))), (0, .ref (xM 0)), (1, .int l1), (2, .int l2)]) hx hb dX7_relate_42 hl (by decide) rfl (fun ls hl => ?_)
    refine lv_iconst (v := 1) hx hb dX7_relate_44 (by decide) ?_
    refine lv_istore (lv' := [(6, .int ((1 : Int32))), (5, .int l1), (4, .int l2), (3, .int ((0 : Int32))), (0, .ref (xM 0)), (1, .int l1), (2, .int l2)]) hx hb dX7_relate_45 hl (by decide) rfl (fun ls hl => ?_)
    refine lv_iconst (v := 0) hx hb dX7_relate_47 (by decide) ?_
    refine lv_istore (lv' := [(7, .int ((0 : Int32))), (6, .int ((1 : Int32))), (5, .int l1), (4, .int l2), (3, .int ((0 : Int32))), (0, .ref (xM 0)), (1, .int l1), (2, .int l2)]) hx hb dX7_relate_48 hl (by decide) rfl (fun ls hl => ?_)
    exact tlX7_relate_50 C0 hK hN hD  1000 _ _ _ _ _ _ h _ _ hP hS _ (lv_sub hl [5, 4, 3, 2, 1, 0] rfl)
  · replace h := zf hc h
    refine lv_iconst (v := 0) hx hb dX7_relate_34 (by decide) ?_
    cases h
    exact z_iret hx hb hr hlk hP hS dX7_relate_35
set_option maxRecDepth 20000 in
theorem tX7_relate_19 (C0 : zCtx p s m args meth c cX7_relate RX7 wsX7_relate 10 (some .int)) (hK : zK G s) (hN : zN s) (hD : zD [shM G xM])  : ∀ (uM : zSt) (l1 : Int32) (l2 : Int32), bX7_relate_19  uM l1 l2 = some (rr, vM) → ∀ (H : Heap) (locs : List Loc), zP G [shM G xM] [uM] H → va_S (zA [shM G xM] s.heap.size) s.heap H locs → ∀ ls : Array Slot, lv_has ls 10 [(0, .ref (xM 0)), (1, .int l1), (2, .int l2)] → W p l e rmX7_relate s m args below meth c H locs 0 0 (MQ below (zQ G [shM G xM] [vM] (zA [shM G xM] s.heap.size) (some (.int rr))) args s 0 0 (zA [shM G xM] s.heap.size)) (F0 m 19 ls [.ref (xM 0)]) := by
  obtain ⟨hx, hb, hr, hml, hown, hts, hlk⟩ := id C0
  intro uM l1 l2 h H locs hP hS ls hl
  unfold bX7_relate_19 at h
  refine lv_iconst (v := 1) hx hb dX7_relate_19 (by decide) ?_
  refine lv_goto (tgt := 24) hx hb dX7_relate_20 (by decide) ?_
  exact tX7_relate_24 C0 hK hN hD  _ _ _ _ h _ _ hP hS _ (lv_sub hl [0, 1, 2] rfl)
set_option maxRecDepth 20000 in
theorem mX7_relate (l : Launch) (G : zG) (xM : Nat → Nat) {uM : zSt} {l1 : Int32} {l2 : Int32} {rr : Int32} {vM : zSt} (h : fX7_relate uM l1 l2 = some (rr, vM)) : zC l yX7_relate wsX7_relate rmX7_relate [.ref (xM 0), .int l1, .int l2] G [shM G xM] [uM] [vM] (some (.int rr)) := by
  refine z_ofW (cc := cX7_relate) (maxL := 10) (ret := some .int) (by decide) rfl (Nat.le_of_ble_eq_true rfl) ?_
  intro p e s m args below meth c C0 hK hN hD hP ls hl
  obtain ⟨hx, hb, hr, hml, hown, hts, hlk⟩ := id C0
  have hS : va_S (zA [shM G xM] s.heap.size) s.heap s.heap [] := va_S.rf
  replace hl : lv_has ls 10 [(0, .ref (xM 0)), (1, .int l1), (2, .int l2)] := hl
  have hwX7 : ∀ w ∈ wsX70, w.before args s = true := fun w h => hts w (List.mem_cons_of_mem _ (List.mem_append_right _ h))
  unfold fX7_relate at h
  refine lv_aload_n hx hb dX7_relate_0 rfl (lv_at hl 0 rfl) ?_
  refine lv_iload_n hx hb dX7_relate_1 rfl (lv_at hl 2 rfl) ?_
  refine lv_aload_n hx hb dX7_relate_2 rfl (lv_at hl 0 rfl) ?_
  refine rM_1 hx hb hwX7 hown hK hP 0 (xM) rfl rfl (hts _ (List.mem_of_getElem? (i := 1) rfl)) dX7_relate_3 ?_
  refine lv_icmp_gt (tgt := 19) hx hb dX7_relate_6 (by decide) (fun hc => ?_) (fun hc => ?_)
  · replace h := zt hc h
    exact tX7_relate_19 C0 hK hN hD  _ _ _ h _ _ hP hS _ (lv_sub hl [0, 1, 2] rfl)
  · replace h := zf hc h
    refine lv_iload_n hx hb dX7_relate_9 rfl (lv_at hl 1 rfl) ?_
    refine lv_iconst (v := 1) hx hb dX7_relate_10 (by decide) ?_
    refine lv_icmp_lt (tgt := 19) hx hb dX7_relate_11 (by decide) (fun hc => ?_) (fun hc => ?_)
    · replace h := zt hc h
      exact tX7_relate_19 C0 hK hN hD  _ _ _ h _ _ hP hS _ (lv_sub hl [0, 1, 2] rfl)
    · replace h := zf hc h
      refine lv_iload_n hx hb dX7_relate_14 rfl (lv_at hl 1 rfl) ?_
      refine lv_iload_n hx hb dX7_relate_15 rfl (lv_at hl 2 rfl) ?_
      refine lv_icmp_le (tgt := 23) hx hb dX7_relate_16 (by decide) (fun hc => ?_) (fun hc => ?_)
      · replace h := zt hc h
        refine lv_iconst (v := 0) hx hb dX7_relate_23 (by decide) ?_
        exact tX7_relate_24 C0 hK hN hD  _ _ _ _ h _ _ hP hS _ (lv_sub hl [0, 1, 2] rfl)
      · replace h := zf hc h
        exact tX7_relate_19 C0 hK hN hD  _ _ _ h _ _ hP hS _ (lv_sub hl [0, 1, 2] rfl)
end
def rmX7_proof : Room := { frames := 0, cells := 0, slots := 0, locals := 0 }
theorem kvX7_proof : yX7_proof.cls = RX7 ∧ yX7_proof.cls ≠ "java/lang/invoke/MethodHandle" ∧ yX7_proof.cls ≠ "java/lang/invoke/VarHandle" ∧ (parseMethodDescriptor yX7_proof.desc).map (fun d => d.parameters.length) = some 1 := by decide +kernel
section
variable {p : Program} {l : Launch} {e : Env} {s : State} {m : MethodId} {args : Array Value} {below : List Frame} {meth : Method} {c : Code} {G : zG} {xM : Nat → Nat} {rr : Int64} {vM : zSt}
set_option maxRecDepth 20000 in
theorem tX7_proof_18 (C0 : zCtx p s m args meth c cX7_proof RX7 wsX7_proof 2 (some .long)) (hK : zK G s) (hN : zN s) (hD : zD [shM G xM])  : ∀ (uM : zSt) (l1 : Int32) (s1 : Int32), bX7_proof_18  uM l1 s1 = some (rr, vM) → ∀ (H : Heap) (locs : List Loc), zP G [shM G xM] [uM] H → va_S (zA [shM G xM] s.heap.size) s.heap H locs → ∀ ls : Array Slot, lv_has ls 2 [(0, .ref (xM 0)), (1, .int l1)] → W p l e rmX7_proof s m args below meth c H locs 0 0 (MQ below (zQ G [shM G xM] [vM] (zA [shM G xM] s.heap.size) (some (.long rr))) args s 0 0 (zA [shM G xM] s.heap.size)) (F0 m 18 ls [.int s1, .ref (xM 0)]) := by
  obtain ⟨hx, hb, hr, hml, hown, hts, hlk⟩ := id C0
  have hwX7 : ∀ w ∈ wsX70, w.before args s = true := fun w h => hts w (List.mem_cons_of_mem _ (List.mem_append_right _ h))
  intro uM l1 s1 h H locs hP hS ls hl
  unfold bX7_proof_18 at h
  refine pM_0 hx hb hwX7 hown hK hP hD hS 0 (xM) rfl rfl (hts _ (List.mem_of_getElem? (i := 2) rfl)) dX7_proof_18 (fun H locs hP hS => ?_)
  replace hP : zP G [shM G xM] [(sI uM 0 s1)] H := hP
  refine lv_aload_n hx hb dX7_proof_21 rfl (lv_at hl 0 rfl) ?_
  refine rM_0 hx hb hwX7 hown hK hP 0 (xM) rfl rfl (hts _ (List.mem_of_getElem? (i := 2) rfl)) dX7_proof_22 ?_
  refine lv_if_le (tgt := 32) hx hb dX7_proof_25 (by decide) (fun hc => ?_) (fun hc => ?_)
  · replace h := zt hc h
    refine lv_aload_n hx hb dX7_proof_32 rfl (lv_at hl 0 rfl) ?_
    refine rM_36 hx hb hwX7 hown hK hP 0 (xM) rfl rfl (hts _ (List.mem_of_getElem? (i := 3) rfl)) dX7_proof_33 ?_
    refine lv_iload_n hx hb dX7_proof_36 rfl (lv_at hl 1 rfl) ?_
    obtain ⟨hi, h⟩ := zin_e h
    refine aM_36 hx hb hK hP 0 (xM) rfl rfl hi rfl dX7_proof_37 ?_
    cases h
    exact z_lret hx hb hr hlk hP hS dX7_proof_38
  · replace h := zf hc h
    refine lv_lconst (v := 0) hx hb dX7_proof_28 rfl ?_
    refine lv_goto (tgt := 38) hx hb dX7_proof_29 (by decide) ?_
    cases h
    exact z_lret hx hb hr hlk hP hS dX7_proof_38
set_option maxRecDepth 20000 in
theorem tX7_proof_13 (C0 : zCtx p s m args meth c cX7_proof RX7 wsX7_proof 2 (some .long)) (hK : zK G s) (hN : zN s) (hD : zD [shM G xM])  : ∀ (uM : zSt) (l1 : Int32), bX7_proof_13  uM l1 = some (rr, vM) → ∀ (H : Heap) (locs : List Loc), zP G [shM G xM] [uM] H → va_S (zA [shM G xM] s.heap.size) s.heap H locs → ∀ ls : Array Slot, lv_has ls 2 [(0, .ref (xM 0)), (1, .int l1)] → W p l e rmX7_proof s m args below meth c H locs 0 0 (MQ below (zQ G [shM G xM] [vM] (zA [shM G xM] s.heap.size) (some (.long rr))) args s 0 0 (zA [shM G xM] s.heap.size)) (F0 m 13 ls [.ref (xM 0)]) := by
  obtain ⟨hx, hb, hr, hml, hown, hts, hlk⟩ := id C0
  intro uM l1 h H locs hP hS ls hl
  unfold bX7_proof_13 at h
  refine lv_iconst (v := 1) hx hb dX7_proof_13 (by decide) ?_
  refine lv_goto (tgt := 18) hx hb dX7_proof_14 (by decide) ?_
  exact tX7_proof_18 C0 hK hN hD  _ _ _ h _ _ hP hS _ (lv_sub hl [0, 1] rfl)
set_option maxRecDepth 20000 in
theorem mX7_proof (l : Launch) (G : zG) (xM : Nat → Nat) {uM : zSt} {l1 : Int32} {rr : Int64} {vM : zSt} (h : fX7_proof uM l1 = some (rr, vM)) : zC l yX7_proof wsX7_proof rmX7_proof [.ref (xM 0), .int l1] G [shM G xM] [uM] [vM] (some (.long rr)) := by
  refine z_ofW (cc := cX7_proof) (maxL := 2) (ret := some .long) (by decide) rfl (Nat.le_of_ble_eq_true rfl) ?_
  intro p e s m args below meth c C0 hK hN hD hP ls hl
  obtain ⟨hx, hb, hr, hml, hown, hts, hlk⟩ := id C0
  have hS : va_S (zA [shM G xM] s.heap.size) s.heap s.heap [] := va_S.rf
  replace hl : lv_has ls 2 [(0, .ref (xM 0)), (1, .int l1)] := hl
  have hwX7 : ∀ w ∈ wsX70, w.before args s = true := fun w h => hts w (List.mem_cons_of_mem _ (List.mem_append_right _ h))
  unfold fX7_proof at h
  refine lv_aload_n hx hb dX7_proof_0 rfl (lv_at hl 0 rfl) ?_
  refine lv_iload_n hx hb dX7_proof_1 rfl (lv_at hl 1 rfl) ?_
  refine lv_if_lt (tgt := 13) hx hb dX7_proof_2 (by decide) (fun hc => ?_) (fun hc => ?_)
  · replace h := zt hc h
    exact tX7_proof_13 C0 hK hN hD  _ _ h _ _ hP hS _ (lv_sub hl [0, 1] rfl)
  · replace h := zf hc h
    refine lv_iload_n hx hb dX7_proof_5 rfl (lv_at hl 1 rfl) ?_
    refine lv_aload_n hx hb dX7_proof_6 rfl (lv_at hl 0 rfl) ?_
    refine rM_35 hx hb hwX7 hown hK hP 0 (xM) rfl rfl (hts _ (List.mem_of_getElem? (i := 1) rfl)) dX7_proof_7 ?_
    refine lv_icmp_lt (tgt := 17) hx hb dX7_proof_10 (by decide) (fun hc => ?_) (fun hc => ?_)
    · replace h := zt hc h
      refine lv_iconst (v := 0) hx hb dX7_proof_17 (by decide) ?_
      exact tX7_proof_18 C0 hK hN hD  _ _ _ h _ _ hP hS _ (lv_sub hl [0, 1] rfl)
    · replace h := zf hc h
      exact tX7_proof_13 C0 hK hN hD  _ _ h _ _ hP hS _ (lv_sub hl [0, 1] rfl)
end
def rmX7_shows : Room := { frames := 2, cells := 0, slots := 0, locals := 46 }
theorem kvX7_shows : yX7_shows.cls = RX7 ∧ yX7_shows.cls ≠ "java/lang/invoke/MethodHandle" ∧ yX7_shows.cls ≠ "java/lang/invoke/VarHandle" ∧ (parseMethodDescriptor yX7_shows.desc).map (fun d => d.parameters.length) = some 4 := by decide +kernel
section
variable {p : Program} {l : Launch} {e : Env} {s : State} {m : MethodId} {args : Array Value} {below : List Frame} {meth : Method} {c : Code} {G : zG} {xM : Nat → Nat} {rr : Int32} {vM : zSt}
set_option maxRecDepth 20000 in
theorem tX7_shows_115 (C0 : zCtx p s m args meth c cX7_shows RX7 wsX7_shows 13 (some .boolean)) (hK : zK G s) (hN : zN s) (hD : zD [shM G xM]) {k28 : zSt → Int64 → Int32 → Int32 → Int32 → Int64 → Option (Int32 × zSt)} (K28 : ∀ (uM : zSt) (l5 : Int64) (l7 : Int32) (l8 : Int32) (l9 : Int32) (l10 : Int64), k28 uM l5 l7 l8 l9 l10 = some (rr, vM) → ∀ (H : Heap) (locs : List Loc), zP G [shM G xM] [uM] H → va_S (zA [shM G xM] s.heap.size) s.heap H locs → ∀ ls : Array Slot, lv_has ls 13 [(0, .ref (xM 0)), (5, .long l5), (7, .int l7), (8, .int l8), (9, .int l9), (10, .long l10)] → W p l e rmX7_shows s m args below meth c H locs 0 0 (MQ below (zQ G [shM G xM] [vM] (zA [shM G xM] s.heap.size) (some (.int rr))) args s 0 0 (zA [shM G xM] s.heap.size)) (F0 m 28 ls [])) : ∀ (uM : zSt) (l5 : Int64) (l7 : Int32) (l8 : Int32) (l9 : Int32) (l10 : Int64), bX7_shows_115 k28 uM l5 l7 l8 l9 l10 = some (rr, vM) → ∀ (H : Heap) (locs : List Loc), zP G [shM G xM] [uM] H → va_S (zA [shM G xM] s.heap.size) s.heap H locs → ∀ ls : Array Slot, lv_has ls 13 [(0, .ref (xM 0)), (5, .long l5), (7, .int l7), (8, .int l8), (9, .int l9), (10, .long l10)] → W p l e rmX7_shows s m args below meth c H locs 0 0 (MQ below (zQ G [shM G xM] [vM] (zA [shM G xM] s.heap.size) (some (.int rr))) args s 0 0 (zA [shM G xM] s.heap.size)) (F0 m 115 ls []) := by
  obtain ⟨hx, hb, hr, hml, hown, hts, hlk⟩ := id C0
  intro uM l5 l7 l8 l9 l10 h H locs hP hS ls hl
  unfold bX7_shows_115 at h
  refine lv_iload hx hb dX7_shows_115 (lv_at hl 2 rfl) ?_
  refine lv_iconst (v := 2) hx hb dX7_shows_117 (by decide) ?_
  refine lv_idiv hx hb dX7_shows_118 (by decide) ?_
  refine lv_istore (lv' := [(7, .int ((l7 / (2 : Int32)))), (0, .ref (xM 0)), (5, .long l5), (8, .int l8), (9, .int l9), (10, .long l10)]) hx hb dX7_shows_119 hl (by decide) rfl (fun ls hl => ?_)
  refine lv_iload hx hb dX7_shows_121 (lv_at hl 3 rfl) ?_
  refine lv_iconst (v := 2) hx hb dX7_shows_123 (by decide) ?_
  refine lv_idiv hx hb dX7_shows_124 (by decide) ?_
  refine lv_iload hx hb dX7_shows_125 (lv_at hl 3 rfl) ?_
  refine lv_iconst (v := 2) hx hb dX7_shows_127 (by decide) ?_
  refine lv_irem hx hb dX7_shows_128 (by decide) ?_
  refine lv_iadd hx hb dX7_shows_129 ?_
  refine lv_istore (lv' := [(8, .int (((l8 / (2 : Int32)) + (l8 - l8 / (2 : Int32) * (2 : Int32))))), (7, .int ((l7 / (2 : Int32)))), (0, .ref (xM 0)), (5, .long l5), (9, .int l9), (10, .long l10)]) hx hb dX7_shows_130 hl (by decide) rfl (fun ls hl => ?_)
  refine lv_goto (tgt := 28) hx hb dX7_shows_132 (by decide) ?_
  exact K28 _ _ _ _ _ _ h _ _ hP hS _ (lv_sub hl [2, 3, 1, 0, 4, 5] rfl)
set_option maxRecDepth 20000 in
theorem tX7_shows_110 (C0 : zCtx p s m args meth c cX7_shows RX7 wsX7_shows 13 (some .boolean)) (hK : zK G s) (hN : zN s) (hD : zD [shM G xM]) {k28 : zSt → Int64 → Int32 → Int32 → Int32 → Int64 → Option (Int32 × zSt)} (K28 : ∀ (uM : zSt) (l5 : Int64) (l7 : Int32) (l8 : Int32) (l9 : Int32) (l10 : Int64), k28 uM l5 l7 l8 l9 l10 = some (rr, vM) → ∀ (H : Heap) (locs : List Loc), zP G [shM G xM] [uM] H → va_S (zA [shM G xM] s.heap.size) s.heap H locs → ∀ ls : Array Slot, lv_has ls 13 [(0, .ref (xM 0)), (5, .long l5), (7, .int l7), (8, .int l8), (9, .int l9), (10, .long l10)] → W p l e rmX7_shows s m args below meth c H locs 0 0 (MQ below (zQ G [shM G xM] [vM] (zA [shM G xM] s.heap.size) (some (.int rr))) args s 0 0 (zA [shM G xM] s.heap.size)) (F0 m 28 ls [])) : ∀ (uM : zSt) (l5 : Int64) (l7 : Int32) (l8 : Int32) (l9 : Int32) (s0 : Int64), bX7_shows_110 k28 uM l5 l7 l8 l9 s0 = some (rr, vM) → ∀ (H : Heap) (locs : List Loc), zP G [shM G xM] [uM] H → va_S (zA [shM G xM] s.heap.size) s.heap H locs → ∀ ls : Array Slot, lv_has ls 13 [(0, .ref (xM 0)), (5, .long l5), (7, .int l7), (8, .int l8), (9, .int l9)] → W p l e rmX7_shows s m args below meth c H locs 0 0 (MQ below (zQ G [shM G xM] [vM] (zA [shM G xM] s.heap.size) (some (.int rr))) args s 0 0 (zA [shM G xM] s.heap.size)) (F0 m 110 ls [.long s0]) := by
  obtain ⟨hx, hb, hr, hml, hown, hts, hlk⟩ := id C0
  intro uM l5 l7 l8 l9 s0 h H locs hP hS ls hl
  unfold bX7_shows_110 at h
  refine lv_lstore (lv' := [(10, .long s0), (0, .ref (xM 0)), (5, .long l5), (7, .int l7), (8, .int l8), (9, .int l9)]) hx hb dX7_shows_110 hl (by decide) rfl (fun ls hl => ?_)
  refine lv_iinc (v := (l9 + (1 : Int32))) (lv' := [(9, .int ((l9 + (1 : Int32)))), (10, .long s0), (0, .ref (xM 0)), (5, .long l5), (7, .int l7), (8, .int l8)]) hx hb dX7_shows_112 hl (k := 5) rfl rfl (by decide) rfl (fun ls hl => ?_)
  exact tX7_shows_115 C0 hK hN hD K28 _ _ _ _ _ _ h _ _ hP hS _ (lv_sub hl [2, 3, 4, 5, 0, 1] rfl)
set_option maxRecDepth 20000 in
theorem tX7_shows_55 (C0 : zCtx p s m args meth c cX7_shows RX7 wsX7_shows 13 (some .boolean)) (hK : zK G s) (hN : zN s) (hD : zD [shM G xM]) {k28 : zSt → Int64 → Int32 → Int32 → Int32 → Int64 → Option (Int32 × zSt)} (K28 : ∀ (uM : zSt) (l5 : Int64) (l7 : Int32) (l8 : Int32) (l9 : Int32) (l10 : Int64), k28 uM l5 l7 l8 l9 l10 = some (rr, vM) → ∀ (H : Heap) (locs : List Loc), zP G [shM G xM] [uM] H → va_S (zA [shM G xM] s.heap.size) s.heap H locs → ∀ ls : Array Slot, lv_has ls 13 [(0, .ref (xM 0)), (5, .long l5), (7, .int l7), (8, .int l8), (9, .int l9), (10, .long l10)] → W p l e rmX7_shows s m args below meth c H locs 0 0 (MQ below (zQ G [shM G xM] [vM] (zA [shM G xM] s.heap.size) (some (.int rr))) args s 0 0 (zA [shM G xM] s.heap.size)) (F0 m 28 ls [])) : ∀ (uM : zSt) (l5 : Int64) (l7 : Int32) (l8 : Int32) (l9 : Int32) (l10 : Int64) (s0 : Int32), bX7_shows_55 k28 uM l5 l7 l8 l9 l10 s0 = some (rr, vM) → ∀ (H : Heap) (locs : List Loc), zP G [shM G xM] [uM] H → va_S (zA [shM G xM] s.heap.size) s.heap H locs → ∀ ls : Array Slot, lv_has ls 13 [(0, .ref (xM 0)), (5, .long l5), (7, .int l7), (8, .int l8), (9, .int l9), (10, .long l10)] → W p l e rmX7_shows s m args below meth c H locs 0 0 (MQ below (zQ G [shM G xM] [vM] (zA [shM G xM] s.heap.size) (some (.int rr))) args s 0 0 (zA [shM G xM] s.heap.size)) (F0 m 55 ls [.int s0]) := by
  obtain ⟨hx, hb, hr, hml, hown, hts, hlk⟩ := id C0
  have hwX7 : ∀ w ∈ wsX70, w.before args s = true := fun w h => hts w (List.mem_cons_of_mem _ (List.mem_append_right _ h))
  intro uM l5 l7 l8 l9 l10 s0 h H locs hP hS ls hl
  unfold bX7_shows_55 at h
  refine lv_istore (lv' := [(12, .int s0), (0, .ref (xM 0)), (5, .long l5), (7, .int l7), (8, .int l8), (9, .int l9), (10, .long l10)]) hx hb dX7_shows_55 hl (by decide) rfl (fun ls hl => ?_)
  refine lv_iload hx hb dX7_shows_57 (lv_at hl 0 rfl) ?_
  refine lv_if_ne (tgt := 115) hx hb dX7_shows_59 (by decide) (fun hc => ?_) (fun hc => ?_)
  · replace h := zf hc h
    exact tX7_shows_115 C0 hK hN hD K28 _ _ _ _ _ _ h _ _ hP hS _ (lv_sub hl [1, 2, 3, 4, 5, 6] rfl)
  · replace h := zt hc h
    refine lv_iload hx hb dX7_shows_62 (lv_at hl 5 rfl) ?_
    refine lv_aload_n hx hb dX7_shows_64 rfl (lv_at hl 1 rfl) ?_
    refine rM_35 hx hb hwX7 hown hK hP 0 (xM) rfl rfl (hts _ (List.mem_of_getElem? (i := 2) rfl)) dX7_shows_65 ?_
    refine lv_icmp_ne (tgt := 73) hx hb dX7_shows_68 (by decide) (fun hc => ?_) (fun hc => ?_)
    · replace h := zf hc h
      refine lv_iload hx hb dX7_shows_73 (lv_at hl 3 rfl) ?_
      refine lv_iconst (v := 2) hx hb dX7_shows_75 (by decide) ?_
      refine lv_irem hx hb dX7_shows_76 (by decide) ?_
      refine lv_iconst (v := 1) hx hb dX7_shows_77 (by decide) ?_
      refine lv_icmp_ne (tgt := 97) hx hb dX7_shows_78 (by decide) (fun hc => ?_) (fun hc => ?_)
      · replace h := zf hc h
        refine lv_aload_n hx hb dX7_shows_97 rfl (lv_at hl 1 rfl) ?_
        refine lv_lload hx hb dX7_shows_98 (lv_at hl 6 rfl) ?_
        refine lv_aload_n hx hb dX7_shows_100 rfl (lv_at hl 1 rfl) ?_
        refine rM_36 hx hb hwX7 hown hK hP 0 (xM) rfl rfl (hts _ (List.mem_of_getElem? (i := 3) rfl)) dX7_shows_101 ?_
        refine lv_iload hx hb dX7_shows_104 (lv_at hl 5 rfl) ?_
        obtain ⟨hi, h⟩ := zin_e h
        refine aM_36 hx hb hK hP 0 (xM) rfl rfl hi rfl dX7_shows_106 ?_
        obtain ⟨r_1, uM_2, hg, h⟩ := zb2_e h
        refine z_callV (As := [.long l10, .long ((gL uM 36 l9.toNatClampNeg))]) (rest := []) (i := 0) ⟨hx, hb, hml, hown, hts⟩ (mX7_joined l G (xM) hg) (cwV 2 hts gX7_shows_X7_joined rfl rfl rfl kvX7_joined ⟨Nat.le_of_ble_eq_true rfl, Nat.le_of_ble_eq_true rfl⟩) rfl hP hD hK hN hS (Nat.le_refl _) [0] rfl rfl rfl rfl 0 rfl rfl rfl rfl rfl hl.1 rfl (Nat.le_of_ble_eq_true rfl) dX7_shows_107 ⟨Nat.zero_le _, Nat.zero_le _⟩ (fun H locs hP hS => ?_)
        replace hP : zP G [shM G xM] [uM_2] H := hP
        exact tX7_shows_110 C0 hK hN hD K28 _ _ _ _ _ _ h _ _ hP hS _ (lv_sub hl [1, 2, 3, 4, 5] rfl)
      · replace h := zt hc h
        refine lv_aload_n hx hb dX7_shows_81 rfl (lv_at hl 1 rfl) ?_
        refine lv_aload_n hx hb dX7_shows_82 rfl (lv_at hl 1 rfl) ?_
        refine rM_36 hx hb hwX7 hown hK hP 0 (xM) rfl rfl (hts _ (List.mem_of_getElem? (i := 3) rfl)) dX7_shows_83 ?_
        refine lv_iload hx hb dX7_shows_86 (lv_at hl 5 rfl) ?_
        obtain ⟨hi, h⟩ := zin_e h
        refine aM_36 hx hb hK hP 0 (xM) rfl rfl hi rfl dX7_shows_88 ?_
        refine lv_lload hx hb dX7_shows_89 (lv_at hl 6 rfl) ?_
        obtain ⟨r_3, uM_4, hg, h⟩ := zb2_e h
        refine z_callV (As := [.long ((gL uM 36 l9.toNatClampNeg)), .long l10]) (rest := []) (i := 0) ⟨hx, hb, hml, hown, hts⟩ (mX7_joined l G (xM) hg) (cwV 2 hts gX7_shows_X7_joined rfl rfl rfl kvX7_joined ⟨Nat.le_of_ble_eq_true rfl, Nat.le_of_ble_eq_true rfl⟩) rfl hP hD hK hN hS (Nat.le_refl _) [0] rfl rfl rfl rfl 0 rfl rfl rfl rfl rfl hl.1 rfl (Nat.le_of_ble_eq_true rfl) dX7_shows_91 ⟨Nat.zero_le _, Nat.zero_le _⟩ (fun H locs hP hS => ?_)
        replace hP : zP G [shM G xM] [uM_4] H := hP
        refine lv_goto (tgt := 110) hx hb dX7_shows_94 (by decide) ?_
        exact tX7_shows_110 C0 hK hN hD K28 _ _ _ _ _ _ h _ _ hP hS _ (lv_sub hl [1, 2, 3, 4, 5] rfl)
    · replace h := zt hc h
      refine lv_iconst (v := 0) hx hb dX7_shows_71 (by decide) ?_
      cases h
      exact z_zret hx hb hr hlk rfl hP hS dX7_shows_72
set_option maxRecDepth 20000 in
theorem tX7_shows_54 (C0 : zCtx p s m args meth c cX7_shows RX7 wsX7_shows 13 (some .boolean)) (hK : zK G s) (hN : zN s) (hD : zD [shM G xM]) {k28 : zSt → Int64 → Int32 → Int32 → Int32 → Int64 → Option (Int32 × zSt)} (K28 : ∀ (uM : zSt) (l5 : Int64) (l7 : Int32) (l8 : Int32) (l9 : Int32) (l10 : Int64), k28 uM l5 l7 l8 l9 l10 = some (rr, vM) → ∀ (H : Heap) (locs : List Loc), zP G [shM G xM] [uM] H → va_S (zA [shM G xM] s.heap.size) s.heap H locs → ∀ ls : Array Slot, lv_has ls 13 [(0, .ref (xM 0)), (5, .long l5), (7, .int l7), (8, .int l8), (9, .int l9), (10, .long l10)] → W p l e rmX7_shows s m args below meth c H locs 0 0 (MQ below (zQ G [shM G xM] [vM] (zA [shM G xM] s.heap.size) (some (.int rr))) args s 0 0 (zA [shM G xM] s.heap.size)) (F0 m 28 ls [])) : ∀ (uM : zSt) (l5 : Int64) (l7 : Int32) (l8 : Int32) (l9 : Int32) (l10 : Int64), bX7_shows_54 k28 uM l5 l7 l8 l9 l10 = some (rr, vM) → ∀ (H : Heap) (locs : List Loc), zP G [shM G xM] [uM] H → va_S (zA [shM G xM] s.heap.size) s.heap H locs → ∀ ls : Array Slot, lv_has ls 13 [(0, .ref (xM 0)), (5, .long l5), (7, .int l7), (8, .int l8), (9, .int l9), (10, .long l10)] → W p l e rmX7_shows s m args below meth c H locs 0 0 (MQ below (zQ G [shM G xM] [vM] (zA [shM G xM] s.heap.size) (some (.int rr))) args s 0 0 (zA [shM G xM] s.heap.size)) (F0 m 54 ls []) := by
  obtain ⟨hx, hb, hr, hml, hown, hts, hlk⟩ := id C0
  intro uM l5 l7 l8 l9 l10 h H locs hP hS ls hl
  unfold bX7_shows_54 at h
  refine lv_iconst (v := 0) hx hb dX7_shows_54 (by decide) ?_
  exact tX7_shows_55 C0 hK hN hD K28 _ _ _ _ _ _ _ h _ _ hP hS _ (lv_sub hl [0, 1, 2, 3, 4, 5] rfl)
set_option maxRecDepth 20000 in
theorem tlX7_shows_28 (C0 : zCtx p s m args meth c cX7_shows RX7 wsX7_shows 13 (some .boolean)) (hK : zK G s) (hN : zN s) (hD : zD [shM G xM])  : ∀ (n : Nat), ∀ (uM : zSt) (l5 : Int64) (l7 : Int32) (l8 : Int32) (l9 : Int32) (l10 : Int64), lX7_shows_28  n uM l5 l7 l8 l9 l10 = some (rr, vM) → ∀ (H : Heap) (locs : List Loc), zP G [shM G xM] [uM] H → va_S (zA [shM G xM] s.heap.size) s.heap H locs → ∀ ls : Array Slot, lv_has ls 13 [(0, .ref (xM 0)), (5, .long l5), (7, .int l7), (8, .int l8), (9, .int l9), (10, .long l10)] → W p l e rmX7_shows s m args below meth c H locs 0 0 (MQ below (zQ G [shM G xM] [vM] (zA [shM G xM] s.heap.size) (some (.int rr))) args s 0 0 (zA [shM G xM] s.heap.size)) (F0 m 28 ls []) := by
  obtain ⟨hx, hb, hr, hml, hown, hts, hlk⟩ := id C0
  have hwX7 : ∀ w ∈ wsX70, w.before args s = true := fun w h => hts w (List.mem_cons_of_mem _ (List.mem_append_right _ h))
  intro n
  induction n with
  | zero => intro uM l5 l7 l8 l9 l10 h; exact absurd h (fun q => nomatch q)
  | succ n K28 =>
    intro uM l5 l7 l8 l9 l10 h H locs hP hS ls hl
    replace h : bX7_shows_28  (lX7_shows_28  n) uM l5 l7 l8 l9 l10 = some (rr, vM) := h
    unfold bX7_shows_28 at h
    refine lv_iload hx hb dX7_shows_28 (lv_at hl 3 rfl) ?_
    refine lv_iconst (v := 1) hx hb dX7_shows_30 (by decide) ?_
    refine lv_icmp_le (tgt := 135) hx hb dX7_shows_31 (by decide) (fun hc => ?_) (fun hc => ?_)
    · replace h := zt hc h
      refine lv_iload hx hb dX7_shows_135 (lv_at hl 4 rfl) ?_
      refine lv_aload_n hx hb dX7_shows_137 rfl (lv_at hl 0 rfl) ?_
      refine rM_35 hx hb hwX7 hown hK hP 0 (xM) rfl rfl (hts _ (List.mem_of_getElem? (i := 2) rfl)) dX7_shows_138 ?_
      refine lv_icmp_ne (tgt := 156) hx hb dX7_shows_141 (by decide) (fun hc => ?_) (fun hc => ?_)
      · replace h := zf hc h
        refine lv_iconst (v := 0) hx hb dX7_shows_156 (by decide) ?_
        cases h
        exact z_zret hx hb hr hlk rfl hP hS dX7_shows_157
      · replace h := zt hc h
        refine lv_lload hx hb dX7_shows_144 (lv_at hl 5 rfl) ?_
        refine lv_lload hx hb dX7_shows_146 (lv_at hl 1 rfl) ?_
        refine W.lcmp hx hb dX7_shows_148 ?_
        refine lv_if_ne (tgt := 156) hx hb dX7_shows_149 (by decide) (fun hc => ?_) (fun hc => ?_)
        · replace h := zf hc h
          refine lv_iconst (v := 0) hx hb dX7_shows_156 (by decide) ?_
          cases h
          exact z_zret hx hb hr hlk rfl hP hS dX7_shows_157
        · replace h := zt hc h
          refine lv_iconst (v := 1) hx hb dX7_shows_152 (by decide) ?_
          refine lv_goto (tgt := 157) hx hb dX7_shows_153 (by decide) ?_
          cases h
          exact z_zret hx hb hr hlk rfl hP hS dX7_shows_157
    · replace h := zf hc h
      refine lv_iload hx hb dX7_shows_34 (lv_at hl 2 rfl) ?_
      refine lv_iconst (v := 2) hx hb dX7_shows_36 (by decide) ?_
      refine lv_irem hx hb dX7_shows_37 (by decide) ?_
      refine lv_if_ne (tgt := 54) hx hb dX7_shows_38 (by decide) (fun hc => ?_) (fun hc => ?_)
      · replace h := zf hc h
        exact tX7_shows_54 C0 hK hN hD K28 _ _ _ _ _ _ h _ _ hP hS _ (lv_sub hl [0, 1, 2, 3, 4, 5] rfl)
      · replace h := zt hc h
        refine lv_iload hx hb dX7_shows_41 (lv_at hl 2 rfl) ?_
        refine lv_iload hx hb dX7_shows_43 (lv_at hl 3 rfl) ?_
        refine lv_iconst (v := 1) hx hb dX7_shows_45 (by decide) ?_
        refine lv_isub hx hb dX7_shows_46 ?_
        refine lv_icmp_ne (tgt := 54) hx hb dX7_shows_47 (by decide) (fun hc => ?_) (fun hc => ?_)
        · replace h := zf hc h
          exact tX7_shows_54 C0 hK hN hD K28 _ _ _ _ _ _ h _ _ hP hS _ (lv_sub hl [0, 1, 2, 3, 4, 5] rfl)
        · replace h := zt hc h
          refine lv_iconst (v := 1) hx hb dX7_shows_50 (by decide) ?_
          refine lv_goto (tgt := 55) hx hb dX7_shows_51 (by decide) ?_
          exact tX7_shows_55 C0 hK hN hD K28 _ _ _ _ _ _ _ h _ _ hP hS _ (lv_sub hl [0, 1, 2, 3, 4, 5] rfl)
set_option maxRecDepth 20000 in
theorem mX7_shows (l : Launch) (G : zG) (xM : Nat → Nat) {uM : zSt} {l1 : Int32} {l2 : Int32} {l3 : Int64} {l5 : Int64} {rr : Int32} {vM : zSt} (h : fX7_shows uM l1 l2 l3 l5 = some (rr, vM)) : zC l yX7_shows wsX7_shows rmX7_shows [.ref (xM 0), .int l1, .int l2, .long l3, .long l5] G [shM G xM] [uM] [vM] (some (.int rr)) := by
  refine z_ofW (cc := cX7_shows) (maxL := 13) (ret := some .boolean) (by decide) rfl (Nat.le_of_ble_eq_true rfl) ?_
  intro p e s m args below meth c C0 hK hN hD hP ls hl
  obtain ⟨hx, hb, hr, hml, hown, hts, hlk⟩ := id C0
  have hS : va_S (zA [shM G xM] s.heap.size) s.heap s.heap [] := va_S.rf
  replace hl : lv_has ls 13 [(0, .ref (xM 0)), (1, .int l1), (2, .int l2), (3, .long l3), (5, .long l5)] := hl
  have hwX7 : ∀ w ∈ wsX70, w.before args s = true := fun w h => hts w (List.mem_cons_of_mem _ (List.mem_append_right _ h))
  unfold fX7_shows at h
  refine lv_aload_n hx hb dX7_shows_0 rfl (lv_at hl 0 rfl) ?_
  refine lv_iconst (v := 0) hx hb dX7_shows_1 (by decide) ?_
  refine pM_0 hx hb hwX7 hown hK hP hD hS 0 (xM) rfl rfl (hts _ (List.mem_of_getElem? (i := 1) rfl)) dX7_shows_2 (fun H locs hP hS => ?_)
  replace hP : zP G [shM G xM] [(sI uM 0 ((0 : Int32)))] H := hP
  refine lv_iload_n hx hb dX7_shows_5 rfl (lv_at hl 1 rfl) ?_
  refine lv_if_lt (tgt := 14) hx hb dX7_shows_6 (by decide) (fun hc => ?_) (fun hc => ?_)
  · replace h := zt hc h
    refine lv_iconst (v := 0) hx hb dX7_shows_14 (by decide) ?_
    cases h
    exact z_zret hx hb hr hlk rfl hP hS dX7_shows_15
  · replace h := zf hc h
    refine lv_iload_n hx hb dX7_shows_9 rfl (lv_at hl 1 rfl) ?_
    refine lv_iload_n hx hb dX7_shows_10 rfl (lv_at hl 2 rfl) ?_
    refine lv_icmp_lt (tgt := 16) hx hb dX7_shows_11 (by decide) (fun hc => ?_) (fun hc => ?_)
    · replace h := zt hc h
      refine lv_iload_n hx hb dX7_shows_16 rfl (lv_at hl 1 rfl) ?_
      refine lv_istore (lv' := [(7, .int l1), (0, .ref (xM 0)), (1, .int l1), (2, .int l2), (3, .long l3), (5, .long l5)]) hx hb dX7_shows_17 hl (by decide) rfl (fun ls hl => ?_)
      refine lv_iload_n hx hb dX7_shows_19 rfl (lv_at hl 3 rfl) ?_
      refine lv_istore (lv' := [(8, .int l2), (7, .int l1), (0, .ref (xM 0)), (1, .int l1), (2, .int l2), (3, .long l3), (5, .long l5)]) hx hb dX7_shows_20 hl (by decide) rfl (fun ls hl => ?_)
      refine lv_iconst (v := 0) hx hb dX7_shows_22 (by decide) ?_
      refine lv_istore (lv' := [(9, .int ((0 : Int32))), (8, .int l2), (7, .int l1), (0, .ref (xM 0)), (1, .int l1), (2, .int l2), (3, .long l3), (5, .long l5)]) hx hb dX7_shows_23 hl (by decide) rfl (fun ls hl => ?_)
      refine lv_lload_n hx hb dX7_shows_25 rfl (lv_at hl 6 rfl) ?_
      refine lv_lstore (lv' := [(10, .long l3), (9, .int ((0 : Int32))), (8, .int l2), (7, .int l1), (0, .ref (xM 0)), (1, .int l1), (2, .int l2), (3, .long l3), (5, .long l5)]) hx hb dX7_shows_26 hl (by decide) rfl (fun ls hl => ?_)
      exact tlX7_shows_28 C0 hK hN hD  1000 _ _ _ _ _ _ h _ _ hP hS _ (lv_sub hl [4, 8, 3, 2, 1, 0] rfl)
    · replace h := zf hc h
      refine lv_iconst (v := 0) hx hb dX7_shows_14 (by decide) ?_
      cases h
      exact z_zret hx hb hr hlk rfl hP hS dX7_shows_15
end
def rmX7_continues : Room := { frames := 2, cells := 0, slots := 0, locals := 46 }
theorem kvX7_continues : yX7_continues.cls = RX7 ∧ yX7_continues.cls ≠ "java/lang/invoke/MethodHandle" ∧ yX7_continues.cls ≠ "java/lang/invoke/VarHandle" ∧ (parseMethodDescriptor yX7_continues.desc).map (fun d => d.parameters.length) = some 4 := by decide +kernel
section
variable {p : Program} {l : Launch} {e : Env} {s : State} {m : MethodId} {args : Array Value} {below : List Frame} {meth : Method} {c : Code} {G : zG} {xM : Nat → Nat} {rr : Int32} {vM : zSt}
set_option maxRecDepth 20000 in
theorem tX7_continues_267 (C0 : zCtx p s m args meth c cX7_continues RX7 wsX7_continues 17 (some .boolean)) (hK : zK G s) (hN : zN s) (hD : zD [shM G xM]) {k193 : zSt → Int64 → Int64 → Int32 → Int64 → Int64 → Int32 → Option (Int32 × zSt)} (K193 : ∀ (uM : zSt) (l3 : Int64) (l5 : Int64) (l11 : Int32) (l12 : Int64) (l14 : Int64) (l16 : Int32), k193 uM l3 l5 l11 l12 l14 l16 = some (rr, vM) → ∀ (H : Heap) (locs : List Loc), zP G [shM G xM] [uM] H → va_S (zA [shM G xM] s.heap.size) s.heap H locs → ∀ ls : Array Slot, lv_has ls 17 [(0, .ref (xM 0)), (3, .long l3), (5, .long l5), (11, .int l11), (12, .long l12), (14, .long l14), (16, .int l16)] → W p l e rmX7_continues s m args below meth c H locs 0 0 (MQ below (zQ G [shM G xM] [vM] (zA [shM G xM] s.heap.size) (some (.int rr))) args s 0 0 (zA [shM G xM] s.heap.size)) (F0 m 193 ls [])) : ∀ (uM : zSt) (l3 : Int64) (l5 : Int64) (l11 : Int32) (l12 : Int64) (l16 : Int32) (s0 : Int64), bX7_continues_267 k193 uM l3 l5 l11 l12 l16 s0 = some (rr, vM) → ∀ (H : Heap) (locs : List Loc), zP G [shM G xM] [uM] H → va_S (zA [shM G xM] s.heap.size) s.heap H locs → ∀ ls : Array Slot, lv_has ls 17 [(0, .ref (xM 0)), (3, .long l3), (5, .long l5), (11, .int l11), (12, .long l12), (16, .int l16)] → W p l e rmX7_continues s m args below meth c H locs 0 0 (MQ below (zQ G [shM G xM] [vM] (zA [shM G xM] s.heap.size) (some (.int rr))) args s 0 0 (zA [shM G xM] s.heap.size)) (F0 m 267 ls [.long s0]) := by
  obtain ⟨hx, hb, hr, hml, hown, hts, hlk⟩ := id C0
  intro uM l3 l5 l11 l12 l16 s0 h H locs hP hS ls hl
  unfold bX7_continues_267 at h
  refine lv_lstore (lv' := [(14, .long s0), (0, .ref (xM 0)), (3, .long l3), (5, .long l5), (11, .int l11), (12, .long l12), (16, .int l16)]) hx hb dX7_continues_267 hl (by decide) rfl (fun ls hl => ?_)
  refine lv_iinc (v := (l11 + (1 : Int32))) (lv' := [(11, .int ((l11 + (1 : Int32)))), (14, .long s0), (0, .ref (xM 0)), (3, .long l3), (5, .long l5), (12, .long l12), (16, .int l16)]) hx hb dX7_continues_269 hl (k := 4) rfl rfl (by decide) rfl (fun ls hl => ?_)
  refine lv_iinc (v := (l16 + (-1 : Int32))) (lv' := [(16, .int ((l16 + (-1 : Int32)))), (11, .int ((l11 + (1 : Int32)))), (14, .long s0), (0, .ref (xM 0)), (3, .long l3), (5, .long l5), (12, .long l12)]) hx hb dX7_continues_272 hl (k := 6) rfl rfl (by decide) rfl (fun ls hl => ?_)
  refine lv_goto (tgt := 193) hx hb dX7_continues_275 (by decide) ?_
  exact K193 _ _ _ _ _ _ _ h _ _ hP hS _ (lv_sub hl [3, 4, 5, 1, 6, 2, 0] rfl)
set_option maxRecDepth 20000 in
theorem tX7_continues_226 (C0 : zCtx p s m args meth c cX7_continues RX7 wsX7_continues 17 (some .boolean)) (hK : zK G s) (hN : zN s) (hD : zD [shM G xM]) {k193 : zSt → Int64 → Int64 → Int32 → Int64 → Int64 → Int32 → Option (Int32 × zSt)} (K193 : ∀ (uM : zSt) (l3 : Int64) (l5 : Int64) (l11 : Int32) (l12 : Int64) (l14 : Int64) (l16 : Int32), k193 uM l3 l5 l11 l12 l14 l16 = some (rr, vM) → ∀ (H : Heap) (locs : List Loc), zP G [shM G xM] [uM] H → va_S (zA [shM G xM] s.heap.size) s.heap H locs → ∀ ls : Array Slot, lv_has ls 17 [(0, .ref (xM 0)), (3, .long l3), (5, .long l5), (11, .int l11), (12, .long l12), (14, .long l14), (16, .int l16)] → W p l e rmX7_continues s m args below meth c H locs 0 0 (MQ below (zQ G [shM G xM] [vM] (zA [shM G xM] s.heap.size) (some (.int rr))) args s 0 0 (zA [shM G xM] s.heap.size)) (F0 m 193 ls [])) : ∀ (uM : zSt) (l3 : Int64) (l5 : Int64) (l11 : Int32) (l14 : Int64) (l16 : Int32) (s0 : Int64), bX7_continues_226 k193 uM l3 l5 l11 l14 l16 s0 = some (rr, vM) → ∀ (H : Heap) (locs : List Loc), zP G [shM G xM] [uM] H → va_S (zA [shM G xM] s.heap.size) s.heap H locs → ∀ ls : Array Slot, lv_has ls 17 [(0, .ref (xM 0)), (3, .long l3), (5, .long l5), (11, .int l11), (14, .long l14), (16, .int l16)] → W p l e rmX7_continues s m args below meth c H locs 0 0 (MQ below (zQ G [shM G xM] [vM] (zA [shM G xM] s.heap.size) (some (.int rr))) args s 0 0 (zA [shM G xM] s.heap.size)) (F0 m 226 ls [.long s0]) := by
  obtain ⟨hx, hb, hr, hml, hown, hts, hlk⟩ := id C0
  have hwX7 : ∀ w ∈ wsX70, w.before args s = true := fun w h => hts w (List.mem_cons_of_mem _ (List.mem_append_right _ h))
  intro uM l3 l5 l11 l14 l16 s0 h H locs hP hS ls hl
  unfold bX7_continues_226 at h
  refine lv_lstore (lv' := [(12, .long s0), (0, .ref (xM 0)), (3, .long l3), (5, .long l5), (11, .int l11), (14, .long l14), (16, .int l16)]) hx hb dX7_continues_226 hl (by decide) rfl (fun ls hl => ?_)
  refine lv_aload_n hx hb dX7_continues_228 rfl (lv_at hl 1 rfl) ?_
  refine rM_38 hx hb hwX7 hown hK hP 0 (xM) rfl rfl (hts _ (List.mem_of_getElem? (i := 2) rfl)) dX7_continues_229 ?_
  refine lv_iload hx hb dX7_continues_232 (lv_at hl 6 rfl) ?_
  obtain ⟨hi, h⟩ := zin_e h
  refine aM_38 hx hb hK hP 0 (xM) rfl rfl hi rfl dX7_continues_234 ?_
  refine lv_if_eq (tgt := 254) hx hb dX7_continues_235 (by decide) (fun hc => ?_) (fun hc => ?_)
  · replace h := zt hc h
    refine lv_aload_n hx hb dX7_continues_254 rfl (lv_at hl 1 rfl) ?_
    refine lv_lload hx hb dX7_continues_255 (lv_at hl 5 rfl) ?_
    refine lv_aload_n hx hb dX7_continues_257 rfl (lv_at hl 1 rfl) ?_
    refine rM_36 hx hb hwX7 hown hK hP 0 (xM) rfl rfl (hts _ (List.mem_of_getElem? (i := 4) rfl)) dX7_continues_258 ?_
    refine lv_iload hx hb dX7_continues_261 (lv_at hl 4 rfl) ?_
    obtain ⟨hi, h⟩ := zin_e h
    refine aM_36 hx hb hK hP 0 (xM) rfl rfl hi rfl dX7_continues_263 ?_
    obtain ⟨r_1, uM_2, hg, h⟩ := zb2_e h
    refine z_callV (As := [.long l14, .long ((gL uM 36 l11.toNatClampNeg))]) (rest := []) (i := 0) ⟨hx, hb, hml, hown, hts⟩ (mX7_joined l G (xM) hg) (cwV 2 hts gX7_continues_X7_joined rfl rfl rfl kvX7_joined ⟨Nat.le_of_ble_eq_true rfl, Nat.le_of_ble_eq_true rfl⟩) rfl hP hD hK hN hS (Nat.le_refl _) [0] rfl rfl rfl rfl 0 rfl rfl rfl rfl rfl hl.1 rfl (Nat.le_of_ble_eq_true rfl) dX7_continues_264 ⟨Nat.zero_le _, Nat.zero_le _⟩ (fun H locs hP hS => ?_)
    replace hP : zP G [shM G xM] [uM_2] H := hP
    exact tX7_continues_267 C0 hK hN hD K193 _ _ _ _ _ _ _ h _ _ hP hS _ (lv_sub hl [1, 2, 3, 4, 0, 6] rfl)
  · replace h := zf hc h
    refine lv_aload_n hx hb dX7_continues_238 rfl (lv_at hl 1 rfl) ?_
    refine lv_aload_n hx hb dX7_continues_239 rfl (lv_at hl 1 rfl) ?_
    refine rM_36 hx hb hwX7 hown hK hP 0 (xM) rfl rfl (hts _ (List.mem_of_getElem? (i := 4) rfl)) dX7_continues_240 ?_
    refine lv_iload hx hb dX7_continues_243 (lv_at hl 4 rfl) ?_
    obtain ⟨hi, h⟩ := zin_e h
    refine aM_36 hx hb hK hP 0 (xM) rfl rfl hi rfl dX7_continues_245 ?_
    refine lv_lload hx hb dX7_continues_246 (lv_at hl 5 rfl) ?_
    obtain ⟨r_3, uM_4, hg, h⟩ := zb2_e h
    refine z_callV (As := [.long ((gL uM 36 l11.toNatClampNeg)), .long l14]) (rest := []) (i := 0) ⟨hx, hb, hml, hown, hts⟩ (mX7_joined l G (xM) hg) (cwV 2 hts gX7_continues_X7_joined rfl rfl rfl kvX7_joined ⟨Nat.le_of_ble_eq_true rfl, Nat.le_of_ble_eq_true rfl⟩) rfl hP hD hK hN hS (Nat.le_refl _) [0] rfl rfl rfl rfl 0 rfl rfl rfl rfl rfl hl.1 rfl (Nat.le_of_ble_eq_true rfl) dX7_continues_248 ⟨Nat.zero_le _, Nat.zero_le _⟩ (fun H locs hP hS => ?_)
    replace hP : zP G [shM G xM] [uM_4] H := hP
    refine lv_goto (tgt := 267) hx hb dX7_continues_251 (by decide) ?_
    exact tX7_continues_267 C0 hK hN hD K193 _ _ _ _ _ _ _ h _ _ hP hS _ (lv_sub hl [1, 2, 3, 4, 0, 6] rfl)
set_option maxRecDepth 20000 in
theorem tlX7_continues_193 (C0 : zCtx p s m args meth c cX7_continues RX7 wsX7_continues 17 (some .boolean)) (hK : zK G s) (hN : zN s) (hD : zD [shM G xM])  : ∀ (n : Nat), ∀ (uM : zSt) (l3 : Int64) (l5 : Int64) (l11 : Int32) (l12 : Int64) (l14 : Int64) (l16 : Int32), lX7_continues_193  n uM l3 l5 l11 l12 l14 l16 = some (rr, vM) → ∀ (H : Heap) (locs : List Loc), zP G [shM G xM] [uM] H → va_S (zA [shM G xM] s.heap.size) s.heap H locs → ∀ ls : Array Slot, lv_has ls 17 [(0, .ref (xM 0)), (3, .long l3), (5, .long l5), (11, .int l11), (12, .long l12), (14, .long l14), (16, .int l16)] → W p l e rmX7_continues s m args below meth c H locs 0 0 (MQ below (zQ G [shM G xM] [vM] (zA [shM G xM] s.heap.size) (some (.int rr))) args s 0 0 (zA [shM G xM] s.heap.size)) (F0 m 193 ls []) := by
  obtain ⟨hx, hb, hr, hml, hown, hts, hlk⟩ := id C0
  have hwX7 : ∀ w ∈ wsX70, w.before args s = true := fun w h => hts w (List.mem_cons_of_mem _ (List.mem_append_right _ h))
  intro n
  induction n with
  | zero => intro uM l3 l5 l11 l12 l14 l16 h; exact absurd h (fun q => nomatch q)
  | succ n K193 =>
    intro uM l3 l5 l11 l12 l14 l16 h H locs hP hS ls hl
    replace h : bX7_continues_193  (lX7_continues_193  n) uM l3 l5 l11 l12 l14 l16 = some (rr, vM) := h
    unfold bX7_continues_193 at h
    refine lv_iload hx hb dX7_continues_193 (lv_at hl 6 rfl) ?_
    refine lv_if_lt (tgt := 278) hx hb dX7_continues_195 (by decide) (fun hc => ?_) (fun hc => ?_)
    · replace h := zt hc h
      refine lv_lload hx hb dX7_continues_278 (lv_at hl 4 rfl) ?_
      refine lv_lload_n hx hb dX7_continues_280 rfl (lv_at hl 1 rfl) ?_
      refine W.lcmp hx hb dX7_continues_281 ?_
      refine lv_if_ne (tgt := 297) hx hb dX7_continues_282 (by decide) (fun hc => ?_) (fun hc => ?_)
      · replace h := zf hc h
        refine lv_iconst (v := 0) hx hb dX7_continues_297 (by decide) ?_
        cases h
        exact z_zret hx hb hr hlk rfl hP hS dX7_continues_298
      · replace h := zt hc h
        refine lv_lload hx hb dX7_continues_285 (lv_at hl 5 rfl) ?_
        refine lv_lload hx hb dX7_continues_287 (lv_at hl 2 rfl) ?_
        refine W.lcmp hx hb dX7_continues_289 ?_
        refine lv_if_ne (tgt := 297) hx hb dX7_continues_290 (by decide) (fun hc => ?_) (fun hc => ?_)
        · replace h := zf hc h
          refine lv_iconst (v := 0) hx hb dX7_continues_297 (by decide) ?_
          cases h
          exact z_zret hx hb hr hlk rfl hP hS dX7_continues_298
        · replace h := zt hc h
          refine lv_iconst (v := 1) hx hb dX7_continues_293 (by decide) ?_
          refine lv_goto (tgt := 298) hx hb dX7_continues_294 (by decide) ?_
          cases h
          exact z_zret hx hb hr hlk rfl hP hS dX7_continues_298
    · replace h := zf hc h
      refine lv_aload_n hx hb dX7_continues_198 rfl (lv_at hl 0 rfl) ?_
      refine rM_38 hx hb hwX7 hown hK hP 0 (xM) rfl rfl (hts _ (List.mem_of_getElem? (i := 2) rfl)) dX7_continues_199 ?_
      refine lv_iload hx hb dX7_continues_202 (lv_at hl 6 rfl) ?_
      obtain ⟨hi, h⟩ := zin_e h
      refine aM_38 hx hb hK hP 0 (xM) rfl rfl hi rfl dX7_continues_204 ?_
      refine lv_if_eq (tgt := 224) hx hb dX7_continues_205 (by decide) (fun hc => ?_) (fun hc => ?_)
      · replace h := zt hc h
        refine lv_lload hx hb dX7_continues_224 (lv_at hl 4 rfl) ?_
        exact tX7_continues_226 C0 hK hN hD K193 _ _ _ _ _ _ _ h _ _ hP hS _ (lv_sub hl [0, 1, 2, 3, 5, 6] rfl)
      · replace h := zf hc h
        refine lv_aload_n hx hb dX7_continues_208 rfl (lv_at hl 0 rfl) ?_
        refine lv_aload_n hx hb dX7_continues_209 rfl (lv_at hl 0 rfl) ?_
        refine rM_36 hx hb hwX7 hown hK hP 0 (xM) rfl rfl (hts _ (List.mem_of_getElem? (i := 4) rfl)) dX7_continues_210 ?_
        refine lv_iload hx hb dX7_continues_213 (lv_at hl 3 rfl) ?_
        obtain ⟨hi, h⟩ := zin_e h
        refine aM_36 hx hb hK hP 0 (xM) rfl rfl hi rfl dX7_continues_215 ?_
        refine lv_lload hx hb dX7_continues_216 (lv_at hl 4 rfl) ?_
        obtain ⟨r_5, uM_6, hg, h⟩ := zb2_e h
        refine z_callV (As := [.long ((gL uM 36 l11.toNatClampNeg)), .long l12]) (rest := []) (i := 0) ⟨hx, hb, hml, hown, hts⟩ (mX7_joined l G (xM) hg) (cwV 2 hts gX7_continues_X7_joined rfl rfl rfl kvX7_joined ⟨Nat.le_of_ble_eq_true rfl, Nat.le_of_ble_eq_true rfl⟩) rfl hP hD hK hN hS (Nat.le_refl _) [0] rfl rfl rfl rfl 0 rfl rfl rfl rfl rfl hl.1 rfl (Nat.le_of_ble_eq_true rfl) dX7_continues_218 ⟨Nat.zero_le _, Nat.zero_le _⟩ (fun H locs hP hS => ?_)
        replace hP : zP G [shM G xM] [uM_6] H := hP
        refine lv_goto (tgt := 226) hx hb dX7_continues_221 (by decide) ?_
        exact tX7_continues_226 C0 hK hN hD K193 _ _ _ _ _ _ _ h _ _ hP hS _ (lv_sub hl [0, 1, 2, 3, 5, 6] rfl)
set_option maxRecDepth 20000 in
theorem tX7_continues_181 (C0 : zCtx p s m args meth c cX7_continues RX7 wsX7_continues 17 (some .boolean)) (hK : zK G s) (hN : zN s) (hD : zD [shM G xM])  : ∀ (uM : zSt) (l3 : Int64) (l5 : Int64) (l9 : Int32) (l11 : Int32) (s0 : Int64), bX7_continues_181  uM l3 l5 l9 l11 s0 = some (rr, vM) → ∀ (H : Heap) (locs : List Loc), zP G [shM G xM] [uM] H → va_S (zA [shM G xM] s.heap.size) s.heap H locs → ∀ ls : Array Slot, lv_has ls 17 [(0, .ref (xM 0)), (3, .long l3), (5, .long l5), (9, .int l9), (11, .int l11)] → W p l e rmX7_continues s m args below meth c H locs 0 0 (MQ below (zQ G [shM G xM] [vM] (zA [shM G xM] s.heap.size) (some (.int rr))) args s 0 0 (zA [shM G xM] s.heap.size)) (F0 m 181 ls [.long s0]) := by
  obtain ⟨hx, hb, hr, hml, hown, hts, hlk⟩ := id C0
  intro uM l3 l5 l9 l11 s0 h H locs hP hS ls hl
  unfold bX7_continues_181 at h
  refine lv_lstore (lv' := [(12, .long s0), (0, .ref (xM 0)), (3, .long l3), (5, .long l5), (9, .int l9), (11, .int l11)]) hx hb dX7_continues_181 hl (by decide) rfl (fun ls hl => ?_)
  refine lv_lload hx hb dX7_continues_183 (lv_at hl 0 rfl) ?_
  refine lv_lstore (lv' := [(14, .long s0), (12, .long s0), (0, .ref (xM 0)), (3, .long l3), (5, .long l5), (9, .int l9), (11, .int l11)]) hx hb dX7_continues_185 hl (by decide) rfl (fun ls hl => ?_)
  refine lv_iload hx hb dX7_continues_187 (lv_at hl 5 rfl) ?_
  refine lv_iconst (v := 1) hx hb dX7_continues_189 (by decide) ?_
  refine lv_isub hx hb dX7_continues_190 ?_
  refine lv_istore (lv' := [(16, .int ((l9 - (1 : Int32)))), (14, .long s0), (12, .long s0), (0, .ref (xM 0)), (3, .long l3), (5, .long l5), (9, .int l9), (11, .int l11)]) hx hb dX7_continues_191 hl (by decide) rfl (fun ls hl => ?_)
  exact tlX7_continues_193 C0 hK hN hD  1000 _ _ _ _ _ _ _ h _ _ hP hS _ (lv_sub hl [3, 4, 5, 7, 2, 1, 0] rfl)
set_option maxRecDepth 20000 in
theorem tX7_continues_164 (C0 : zCtx p s m args meth c cX7_continues RX7 wsX7_continues 17 (some .boolean)) (hK : zK G s) (hN : zN s) (hD : zD [shM G xM])  : ∀ (uM : zSt) (l3 : Int64) (l5 : Int64) (l9 : Int32) (l10 : Int32) (s0 : Int32), bX7_continues_164  uM l3 l5 l9 l10 s0 = some (rr, vM) → ∀ (H : Heap) (locs : List Loc), zP G [shM G xM] [uM] H → va_S (zA [shM G xM] s.heap.size) s.heap H locs → ∀ ls : Array Slot, lv_has ls 17 [(0, .ref (xM 0)), (3, .long l3), (5, .long l5), (9, .int l9), (10, .int l10)] → W p l e rmX7_continues s m args below meth c H locs 0 0 (MQ below (zQ G [shM G xM] [vM] (zA [shM G xM] s.heap.size) (some (.int rr))) args s 0 0 (zA [shM G xM] s.heap.size)) (F0 m 164 ls [.int s0]) := by
  obtain ⟨hx, hb, hr, hml, hown, hts, hlk⟩ := id C0
  have hwX7 : ∀ w ∈ wsX70, w.before args s = true := fun w h => hts w (List.mem_cons_of_mem _ (List.mem_append_right _ h))
  intro uM l3 l5 l9 l10 s0 h H locs hP hS ls hl
  unfold bX7_continues_164 at h
  refine lv_istore (lv' := [(11, .int s0), (0, .ref (xM 0)), (3, .long l3), (5, .long l5), (9, .int l9), (10, .int l10)]) hx hb dX7_continues_164 hl (by decide) rfl (fun ls hl => ?_)
  refine lv_iload hx hb dX7_continues_166 (lv_at hl 5 rfl) ?_
  refine lv_if_eq (tgt := 175) hx hb dX7_continues_168 (by decide) (fun hc => ?_) (fun hc => ?_)
  · replace h := zt hc h
    refine lv_aload_n hx hb dX7_continues_175 rfl (lv_at hl 1 rfl) ?_
    refine rM_36 hx hb hwX7 hown hK hP 0 (xM) rfl rfl (hts _ (List.mem_of_getElem? (i := 4) rfl)) dX7_continues_176 ?_
    refine lv_iconst (v := 0) hx hb dX7_continues_179 (by decide) ?_
    refine aM_36 hx hb hK hP 0 (xM) rfl rfl (zvi tn_0 n0_0 (by decide)) tn_0 dX7_continues_180 ?_
    exact tX7_continues_181 C0 hK hN hD  _ _ _ _ _ _ h _ _ hP hS _ (lv_sub hl [1, 2, 3, 4, 0] rfl)
  · replace h := zf hc h
    refine lv_lload_n hx hb dX7_continues_171 rfl (lv_at hl 2 rfl) ?_
    refine lv_goto (tgt := 181) hx hb dX7_continues_172 (by decide) ?_
    exact tX7_continues_181 C0 hK hN hD  _ _ _ _ _ _ h _ _ hP hS _ (lv_sub hl [1, 2, 3, 4, 0] rfl)
set_option maxRecDepth 20000 in
theorem tX7_continues_149 (C0 : zCtx p s m args meth c cX7_continues RX7 wsX7_continues 17 (some .boolean)) (hK : zK G s) (hN : zN s) (hD : zD [shM G xM])  : ∀ (uM : zSt) (l3 : Int64) (l5 : Int64) (l9 : Int32) (l10 : Int32) (s0 : Int32) (s1 : Int32), bX7_continues_149  uM l3 l5 l9 l10 s0 s1 = some (rr, vM) → ∀ (H : Heap) (locs : List Loc), zP G [shM G xM] [uM] H → va_S (zA [shM G xM] s.heap.size) s.heap H locs → ∀ ls : Array Slot, lv_has ls 17 [(0, .ref (xM 0)), (3, .long l3), (5, .long l5), (9, .int l9), (10, .int l10)] → W p l e rmX7_continues s m args below meth c H locs 0 0 (MQ below (zQ G [shM G xM] [vM] (zA [shM G xM] s.heap.size) (some (.int rr))) args s 0 0 (zA [shM G xM] s.heap.size)) (F0 m 149 ls [.int s1, .int s0]) := by
  obtain ⟨hx, hb, hr, hml, hown, hts, hlk⟩ := id C0
  intro uM l3 l5 l9 l10 s0 s1 h H locs hP hS ls hl
  unfold bX7_continues_149 at h
  refine lv_icmp_eq (tgt := 154) hx hb dX7_continues_149 (by decide) (fun hc => ?_) (fun hc => ?_)
  · replace h := zt hc h
    refine lv_iload hx hb dX7_continues_154 (lv_at hl 4 rfl) ?_
    refine lv_if_eq (tgt := 163) hx hb dX7_continues_156 (by decide) (fun hc => ?_) (fun hc => ?_)
    · replace h := zt hc h
      refine lv_iconst (v := 1) hx hb dX7_continues_163 (by decide) ?_
      exact tX7_continues_164 C0 hK hN hD  _ _ _ _ _ _ h _ _ hP hS _ (lv_sub hl [0, 1, 2, 3, 4] rfl)
    · replace h := zf hc h
      refine lv_iconst (v := 0) hx hb dX7_continues_159 (by decide) ?_
      refine lv_goto (tgt := 164) hx hb dX7_continues_160 (by decide) ?_
      exact tX7_continues_164 C0 hK hN hD  _ _ _ _ _ _ h _ _ hP hS _ (lv_sub hl [0, 1, 2, 3, 4] rfl)
  · replace h := zf hc h
    refine lv_iconst (v := 0) hx hb dX7_continues_152 (by decide) ?_
    cases h
    exact z_zret hx hb hr hlk rfl hP hS dX7_continues_153
set_option maxRecDepth 20000 in
theorem tX7_continues_126 (C0 : zCtx p s m args meth c cX7_continues RX7 wsX7_continues 17 (some .boolean)) (hK : zK G s) (hN : zN s) (hD : zD [shM G xM]) {k29 : zSt → Int64 → Int64 → Int32 → Int32 → Int32 → Int32 → Option (Int32 × zSt)} (K29 : ∀ (uM : zSt) (l3 : Int64) (l5 : Int64) (l7 : Int32) (l8 : Int32) (l9 : Int32) (l10 : Int32), k29 uM l3 l5 l7 l8 l9 l10 = some (rr, vM) → ∀ (H : Heap) (locs : List Loc), zP G [shM G xM] [uM] H → va_S (zA [shM G xM] s.heap.size) s.heap H locs → ∀ ls : Array Slot, lv_has ls 17 [(0, .ref (xM 0)), (3, .long l3), (5, .long l5), (7, .int l7), (8, .int l8), (9, .int l9), (10, .int l10)] → W p l e rmX7_continues s m args below meth c H locs 0 0 (MQ below (zQ G [shM G xM] [vM] (zA [shM G xM] s.heap.size) (some (.int rr))) args s 0 0 (zA [shM G xM] s.heap.size)) (F0 m 29 ls [])) : ∀ (uM : zSt) (l3 : Int64) (l5 : Int64) (l7 : Int32) (l9 : Int32) (l10 : Int32) (s0 : Int32), bX7_continues_126 k29 uM l3 l5 l7 l9 l10 s0 = some (rr, vM) → ∀ (H : Heap) (locs : List Loc), zP G [shM G xM] [uM] H → va_S (zA [shM G xM] s.heap.size) s.heap H locs → ∀ ls : Array Slot, lv_has ls 17 [(0, .ref (xM 0)), (3, .long l3), (5, .long l5), (7, .int l7), (9, .int l9), (10, .int l10)] → W p l e rmX7_continues s m args below meth c H locs 0 0 (MQ below (zQ G [shM G xM] [vM] (zA [shM G xM] s.heap.size) (some (.int rr))) args s 0 0 (zA [shM G xM] s.heap.size)) (F0 m 126 ls [.int s0]) := by
  obtain ⟨hx, hb, hr, hml, hown, hts, hlk⟩ := id C0
  intro uM l3 l5 l7 l9 l10 s0 h H locs hP hS ls hl
  unfold bX7_continues_126 at h
  refine lv_istore (lv' := [(8, .int s0), (0, .ref (xM 0)), (3, .long l3), (5, .long l5), (7, .int l7), (9, .int l9), (10, .int l10)]) hx hb dX7_continues_126 hl (by decide) rfl (fun ls hl => ?_)
  refine lv_goto (tgt := 29) hx hb dX7_continues_128 (by decide) ?_
  exact K29 _ _ _ _ _ _ _ h _ _ hP hS _ (lv_sub hl [1, 2, 3, 4, 0, 5, 6] rfl)
set_option maxRecDepth 20000 in
theorem tX7_continues_109 (C0 : zCtx p s m args meth c cX7_continues RX7 wsX7_continues 17 (some .boolean)) (hK : zK G s) (hN : zN s) (hD : zD [shM G xM]) {k29 : zSt → Int64 → Int64 → Int32 → Int32 → Int32 → Int32 → Option (Int32 × zSt)} (K29 : ∀ (uM : zSt) (l3 : Int64) (l5 : Int64) (l7 : Int32) (l8 : Int32) (l9 : Int32) (l10 : Int32), k29 uM l3 l5 l7 l8 l9 l10 = some (rr, vM) → ∀ (H : Heap) (locs : List Loc), zP G [shM G xM] [uM] H → va_S (zA [shM G xM] s.heap.size) s.heap H locs → ∀ ls : Array Slot, lv_has ls 17 [(0, .ref (xM 0)), (3, .long l3), (5, .long l5), (7, .int l7), (8, .int l8), (9, .int l9), (10, .int l10)] → W p l e rmX7_continues s m args below meth c H locs 0 0 (MQ below (zQ G [shM G xM] [vM] (zA [shM G xM] s.heap.size) (some (.int rr))) args s 0 0 (zA [shM G xM] s.heap.size)) (F0 m 29 ls [])) : ∀ (uM : zSt) (l3 : Int64) (l5 : Int64) (l8 : Int32) (l9 : Int32) (l10 : Int32) (l11 : Int32) (l12 : Int32) (s0 : Int32), bX7_continues_109 k29 uM l3 l5 l8 l9 l10 l11 l12 s0 = some (rr, vM) → ∀ (H : Heap) (locs : List Loc), zP G [shM G xM] [uM] H → va_S (zA [shM G xM] s.heap.size) s.heap H locs → ∀ ls : Array Slot, lv_has ls 17 [(0, .ref (xM 0)), (3, .long l3), (5, .long l5), (8, .int l8), (9, .int l9), (10, .int l10), (11, .int l11), (12, .int l12)] → W p l e rmX7_continues s m args below meth c H locs 0 0 (MQ below (zQ G [shM G xM] [vM] (zA [shM G xM] s.heap.size) (some (.int rr))) args s 0 0 (zA [shM G xM] s.heap.size)) (F0 m 109 ls [.int s0]) := by
  obtain ⟨hx, hb, hr, hml, hown, hts, hlk⟩ := id C0
  intro uM l3 l5 l8 l9 l10 l11 l12 s0 h H locs hP hS ls hl
  unfold bX7_continues_109 at h
  refine lv_istore (lv' := [(7, .int s0), (0, .ref (xM 0)), (3, .long l3), (5, .long l5), (8, .int l8), (9, .int l9), (10, .int l10), (11, .int l11), (12, .int l12)]) hx hb dX7_continues_109 hl (by decide) rfl (fun ls hl => ?_)
  refine lv_iload hx hb dX7_continues_111 (lv_at hl 8 rfl) ?_
  refine lv_if_eq (tgt := 121) hx hb dX7_continues_113 (by decide) (fun hc => ?_) (fun hc => ?_)
  · replace h := zt hc h
    refine lv_iload hx hb dX7_continues_121 (lv_at hl 4 rfl) ?_
    refine lv_iload hx hb dX7_continues_123 (lv_at hl 7 rfl) ?_
    refine lv_isub hx hb dX7_continues_125 ?_
    exact tX7_continues_126 C0 hK hN hD K29 _ _ _ _ _ _ _ h _ _ hP hS _ (lv_sub hl [1, 2, 3, 0, 5, 6] rfl)
  · replace h := zf hc h
    refine lv_iload hx hb dX7_continues_116 (lv_at hl 7 rfl) ?_
    refine lv_goto (tgt := 126) hx hb dX7_continues_118 (by decide) ?_
    exact tX7_continues_126 C0 hK hN hD K29 _ _ _ _ _ _ _ h _ _ hP hS _ (lv_sub hl [1, 2, 3, 0, 5, 6] rfl)
set_option maxRecDepth 20000 in
theorem tX7_continues_92 (C0 : zCtx p s m args meth c cX7_continues RX7 wsX7_continues 17 (some .boolean)) (hK : zK G s) (hN : zN s) (hD : zD [shM G xM]) {k29 : zSt → Int64 → Int64 → Int32 → Int32 → Int32 → Int32 → Option (Int32 × zSt)} (K29 : ∀ (uM : zSt) (l3 : Int64) (l5 : Int64) (l7 : Int32) (l8 : Int32) (l9 : Int32) (l10 : Int32), k29 uM l3 l5 l7 l8 l9 l10 = some (rr, vM) → ∀ (H : Heap) (locs : List Loc), zP G [shM G xM] [uM] H → va_S (zA [shM G xM] s.heap.size) s.heap H locs → ∀ ls : Array Slot, lv_has ls 17 [(0, .ref (xM 0)), (3, .long l3), (5, .long l5), (7, .int l7), (8, .int l8), (9, .int l9), (10, .int l10)] → W p l e rmX7_continues s m args below meth c H locs 0 0 (MQ below (zQ G [shM G xM] [vM] (zA [shM G xM] s.heap.size) (some (.int rr))) args s 0 0 (zA [shM G xM] s.heap.size)) (F0 m 29 ls [])) : ∀ (uM : zSt) (l3 : Int64) (l5 : Int64) (l7 : Int32) (l8 : Int32) (l9 : Int32) (l11 : Int32) (l12 : Int32) (s0 : Int32), bX7_continues_92 k29 uM l3 l5 l7 l8 l9 l11 l12 s0 = some (rr, vM) → ∀ (H : Heap) (locs : List Loc), zP G [shM G xM] [uM] H → va_S (zA [shM G xM] s.heap.size) s.heap H locs → ∀ ls : Array Slot, lv_has ls 17 [(0, .ref (xM 0)), (3, .long l3), (5, .long l5), (7, .int l7), (8, .int l8), (9, .int l9), (11, .int l11), (12, .int l12)] → W p l e rmX7_continues s m args below meth c H locs 0 0 (MQ below (zQ G [shM G xM] [vM] (zA [shM G xM] s.heap.size) (some (.int rr))) args s 0 0 (zA [shM G xM] s.heap.size)) (F0 m 92 ls [.int s0]) := by
  obtain ⟨hx, hb, hr, hml, hown, hts, hlk⟩ := id C0
  intro uM l3 l5 l7 l8 l9 l11 l12 s0 h H locs hP hS ls hl
  unfold bX7_continues_92 at h
  refine lv_istore (lv' := [(10, .int s0), (0, .ref (xM 0)), (3, .long l3), (5, .long l5), (7, .int l7), (8, .int l8), (9, .int l9), (11, .int l11), (12, .int l12)]) hx hb dX7_continues_92 hl (by decide) rfl (fun ls hl => ?_)
  refine lv_iload hx hb dX7_continues_94 (lv_at hl 8 rfl) ?_
  refine lv_if_eq (tgt := 104) hx hb dX7_continues_96 (by decide) (fun hc => ?_) (fun hc => ?_)
  · replace h := zt hc h
    refine lv_iload hx hb dX7_continues_104 (lv_at hl 4 rfl) ?_
    refine lv_iload hx hb dX7_continues_106 (lv_at hl 7 rfl) ?_
    refine lv_isub hx hb dX7_continues_108 ?_
    exact tX7_continues_109 C0 hK hN hD K29 _ _ _ _ _ _ _ _ _ h _ _ hP hS _ (lv_sub hl [1, 2, 3, 5, 6, 0, 7, 8] rfl)
  · replace h := zf hc h
    refine lv_iload hx hb dX7_continues_99 (lv_at hl 4 rfl) ?_
    refine lv_goto (tgt := 109) hx hb dX7_continues_101 (by decide) ?_
    exact tX7_continues_109 C0 hK hN hD K29 _ _ _ _ _ _ _ _ _ h _ _ hP hS _ (lv_sub hl [1, 2, 3, 5, 6, 0, 7, 8] rfl)
set_option maxRecDepth 20000 in
theorem tX7_continues_91 (C0 : zCtx p s m args meth c cX7_continues RX7 wsX7_continues 17 (some .boolean)) (hK : zK G s) (hN : zN s) (hD : zD [shM G xM]) {k29 : zSt → Int64 → Int64 → Int32 → Int32 → Int32 → Int32 → Option (Int32 × zSt)} (K29 : ∀ (uM : zSt) (l3 : Int64) (l5 : Int64) (l7 : Int32) (l8 : Int32) (l9 : Int32) (l10 : Int32), k29 uM l3 l5 l7 l8 l9 l10 = some (rr, vM) → ∀ (H : Heap) (locs : List Loc), zP G [shM G xM] [uM] H → va_S (zA [shM G xM] s.heap.size) s.heap H locs → ∀ ls : Array Slot, lv_has ls 17 [(0, .ref (xM 0)), (3, .long l3), (5, .long l5), (7, .int l7), (8, .int l8), (9, .int l9), (10, .int l10)] → W p l e rmX7_continues s m args below meth c H locs 0 0 (MQ below (zQ G [shM G xM] [vM] (zA [shM G xM] s.heap.size) (some (.int rr))) args s 0 0 (zA [shM G xM] s.heap.size)) (F0 m 29 ls [])) : ∀ (uM : zSt) (l3 : Int64) (l5 : Int64) (l7 : Int32) (l8 : Int32) (l9 : Int32) (l11 : Int32) (l12 : Int32), bX7_continues_91 k29 uM l3 l5 l7 l8 l9 l11 l12 = some (rr, vM) → ∀ (H : Heap) (locs : List Loc), zP G [shM G xM] [uM] H → va_S (zA [shM G xM] s.heap.size) s.heap H locs → ∀ ls : Array Slot, lv_has ls 17 [(0, .ref (xM 0)), (3, .long l3), (5, .long l5), (7, .int l7), (8, .int l8), (9, .int l9), (11, .int l11), (12, .int l12)] → W p l e rmX7_continues s m args below meth c H locs 0 0 (MQ below (zQ G [shM G xM] [vM] (zA [shM G xM] s.heap.size) (some (.int rr))) args s 0 0 (zA [shM G xM] s.heap.size)) (F0 m 91 ls []) := by
  obtain ⟨hx, hb, hr, hml, hown, hts, hlk⟩ := id C0
  intro uM l3 l5 l7 l8 l9 l11 l12 h H locs hP hS ls hl
  unfold bX7_continues_91 at h
  refine lv_iconst (v := 0) hx hb dX7_continues_91 (by decide) ?_
  exact tX7_continues_92 C0 hK hN hD K29 _ _ _ _ _ _ _ _ _ h _ _ hP hS _ (lv_sub hl [0, 1, 2, 3, 4, 5, 6, 7] rfl)
set_option maxRecDepth 20000 in
theorem tX7_continues_73 (C0 : zCtx p s m args meth c cX7_continues RX7 wsX7_continues 17 (some .boolean)) (hK : zK G s) (hN : zN s) (hD : zD [shM G xM]) {k29 : zSt → Int64 → Int64 → Int32 → Int32 → Int32 → Int32 → Option (Int32 × zSt)} (K29 : ∀ (uM : zSt) (l3 : Int64) (l5 : Int64) (l7 : Int32) (l8 : Int32) (l9 : Int32) (l10 : Int32), k29 uM l3 l5 l7 l8 l9 l10 = some (rr, vM) → ∀ (H : Heap) (locs : List Loc), zP G [shM G xM] [uM] H → va_S (zA [shM G xM] s.heap.size) s.heap H locs → ∀ ls : Array Slot, lv_has ls 17 [(0, .ref (xM 0)), (3, .long l3), (5, .long l5), (7, .int l7), (8, .int l8), (9, .int l9), (10, .int l10)] → W p l e rmX7_continues s m args below meth c H locs 0 0 (MQ below (zQ G [shM G xM] [vM] (zA [shM G xM] s.heap.size) (some (.int rr))) args s 0 0 (zA [shM G xM] s.heap.size)) (F0 m 29 ls [])) : ∀ (uM : zSt) (l3 : Int64) (l5 : Int64) (l7 : Int32) (l8 : Int32) (l9 : Int32) (l10 : Int32) (l11 : Int32) (l12 : Int32) (s1 : Int32) (s2 : Int32), bX7_continues_73 k29 uM l3 l5 l7 l8 l9 l10 l11 l12 s1 s2 = some (rr, vM) → ∀ (H : Heap) (locs : List Loc), zP G [shM G xM] [uM] H → va_S (zA [shM G xM] s.heap.size) s.heap H locs → ∀ ls : Array Slot, lv_has ls 17 [(0, .ref (xM 0)), (3, .long l3), (5, .long l5), (7, .int l7), (8, .int l8), (9, .int l9), (10, .int l10), (11, .int l11), (12, .int l12)] → W p l e rmX7_continues s m args below meth c H locs 0 0 (MQ below (zQ G [shM G xM] [vM] (zA [shM G xM] s.heap.size) (some (.int rr))) args s 0 0 (zA [shM G xM] s.heap.size)) (F0 m 73 ls [.int s2, .int s1, .ref (xM 29)]) := by
  obtain ⟨hx, hb, hr, hml, hown, hts, hlk⟩ := id C0
  intro uM l3 l5 l7 l8 l9 l10 l11 l12 s1 s2 h H locs hP hS ls hl
  unfold bX7_continues_73 at h
  obtain ⟨hi, h⟩ := zin_e h
  refine tM_38 hx hb hK hP hD hS 0 (xM) rfl rfl hi rfl rfl dX7_continues_73 (fun H locs hP hS => ?_)
  replace hP : zP G [shM G xM] [(sA uM 38 s1.toNatClampNeg ((vp_nar .boolean s2)))] H := hP
  refine lv_iinc (v := (l9 + (1 : Int32))) (lv' := [(9, .int ((l9 + (1 : Int32)))), (0, .ref (xM 0)), (3, .long l3), (5, .long l5), (7, .int l7), (8, .int l8), (10, .int l10), (11, .int l11), (12, .int l12)]) hx hb dX7_continues_74 hl (k := 5) rfl rfl (by decide) rfl (fun ls hl => ?_)
  refine lv_iload hx hb dX7_continues_77 (lv_at hl 6 rfl) ?_
  refine lv_if_eq (tgt := 91) hx hb dX7_continues_79 (by decide) (fun hc => ?_) (fun hc => ?_)
  · replace h := zt hc h
    exact tX7_continues_91 C0 hK hN hD K29 _ _ _ _ _ _ _ _ h _ _ hP hS _ (lv_sub hl [1, 2, 3, 4, 5, 0, 7, 8] rfl)
  · replace h := zf hc h
    refine lv_iload hx hb dX7_continues_82 (lv_at hl 8 rfl) ?_
    refine lv_if_eq (tgt := 91) hx hb dX7_continues_84 (by decide) (fun hc => ?_) (fun hc => ?_)
    · replace h := zt hc h
      exact tX7_continues_91 C0 hK hN hD K29 _ _ _ _ _ _ _ _ h _ _ hP hS _ (lv_sub hl [1, 2, 3, 4, 5, 0, 7, 8] rfl)
    · replace h := zf hc h
      refine lv_iconst (v := 1) hx hb dX7_continues_87 (by decide) ?_
      refine lv_goto (tgt := 92) hx hb dX7_continues_88 (by decide) ?_
      exact tX7_continues_92 C0 hK hN hD K29 _ _ _ _ _ _ _ _ _ h _ _ hP hS _ (lv_sub hl [1, 2, 3, 4, 5, 0, 7, 8] rfl)
set_option maxRecDepth 20000 in
theorem tX7_continues_55 (C0 : zCtx p s m args meth c cX7_continues RX7 wsX7_continues 17 (some .boolean)) (hK : zK G s) (hN : zN s) (hD : zD [shM G xM]) {k29 : zSt → Int64 → Int64 → Int32 → Int32 → Int32 → Int32 → Option (Int32 × zSt)} (K29 : ∀ (uM : zSt) (l3 : Int64) (l5 : Int64) (l7 : Int32) (l8 : Int32) (l9 : Int32) (l10 : Int32), k29 uM l3 l5 l7 l8 l9 l10 = some (rr, vM) → ∀ (H : Heap) (locs : List Loc), zP G [shM G xM] [uM] H → va_S (zA [shM G xM] s.heap.size) s.heap H locs → ∀ ls : Array Slot, lv_has ls 17 [(0, .ref (xM 0)), (3, .long l3), (5, .long l5), (7, .int l7), (8, .int l8), (9, .int l9), (10, .int l10)] → W p l e rmX7_continues s m args below meth c H locs 0 0 (MQ below (zQ G [shM G xM] [vM] (zA [shM G xM] s.heap.size) (some (.int rr))) args s 0 0 (zA [shM G xM] s.heap.size)) (F0 m 29 ls [])) : ∀ (uM : zSt) (l3 : Int64) (l5 : Int64) (l7 : Int32) (l8 : Int32) (l9 : Int32) (l10 : Int32) (l11 : Int32) (s0 : Int32), bX7_continues_55 k29 uM l3 l5 l7 l8 l9 l10 l11 s0 = some (rr, vM) → ∀ (H : Heap) (locs : List Loc), zP G [shM G xM] [uM] H → va_S (zA [shM G xM] s.heap.size) s.heap H locs → ∀ ls : Array Slot, lv_has ls 17 [(0, .ref (xM 0)), (3, .long l3), (5, .long l5), (7, .int l7), (8, .int l8), (9, .int l9), (10, .int l10), (11, .int l11)] → W p l e rmX7_continues s m args below meth c H locs 0 0 (MQ below (zQ G [shM G xM] [vM] (zA [shM G xM] s.heap.size) (some (.int rr))) args s 0 0 (zA [shM G xM] s.heap.size)) (F0 m 55 ls [.int s0]) := by
  obtain ⟨hx, hb, hr, hml, hown, hts, hlk⟩ := id C0
  have hwX7 : ∀ w ∈ wsX70, w.before args s = true := fun w h => hts w (List.mem_cons_of_mem _ (List.mem_append_right _ h))
  intro uM l3 l5 l7 l8 l9 l10 l11 s0 h H locs hP hS ls hl
  unfold bX7_continues_55 at h
  refine lv_istore (lv' := [(12, .int s0), (0, .ref (xM 0)), (3, .long l3), (5, .long l5), (7, .int l7), (8, .int l8), (9, .int l9), (10, .int l10), (11, .int l11)]) hx hb dX7_continues_55 hl (by decide) rfl (fun ls hl => ?_)
  refine lv_aload_n hx hb dX7_continues_57 rfl (lv_at hl 1 rfl) ?_
  refine rM_38 hx hb hwX7 hown hK hP 0 (xM) rfl rfl (hts _ (List.mem_of_getElem? (i := 2) rfl)) dX7_continues_58 ?_
  refine lv_iload hx hb dX7_continues_61 (lv_at hl 6 rfl) ?_
  refine lv_iload hx hb dX7_continues_63 (lv_at hl 0 rfl) ?_
  refine lv_if_ne (tgt := 72) hx hb dX7_continues_65 (by decide) (fun hc => ?_) (fun hc => ?_)
  · replace h := zf hc h
    refine lv_iconst (v := 0) hx hb dX7_continues_72 (by decide) ?_
    exact tX7_continues_73 C0 hK hN hD K29 _ _ _ _ _ _ _ _ _ _ _ h _ _ hP hS _ (lv_sub hl [1, 2, 3, 4, 5, 6, 7, 8, 0] rfl)
  · replace h := zt hc h
    refine lv_iconst (v := 1) hx hb dX7_continues_68 (by decide) ?_
    refine lv_goto (tgt := 73) hx hb dX7_continues_69 (by decide) ?_
    exact tX7_continues_73 C0 hK hN hD K29 _ _ _ _ _ _ _ _ _ _ _ h _ _ hP hS _ (lv_sub hl [1, 2, 3, 4, 5, 6, 7, 8, 0] rfl)
set_option maxRecDepth 20000 in
theorem tlX7_continues_29 (C0 : zCtx p s m args meth c cX7_continues RX7 wsX7_continues 17 (some .boolean)) (hK : zK G s) (hN : zN s) (hD : zD [shM G xM])  : ∀ (n : Nat), ∀ (uM : zSt) (l3 : Int64) (l5 : Int64) (l7 : Int32) (l8 : Int32) (l9 : Int32) (l10 : Int32), lX7_continues_29  n uM l3 l5 l7 l8 l9 l10 = some (rr, vM) → ∀ (H : Heap) (locs : List Loc), zP G [shM G xM] [uM] H → va_S (zA [shM G xM] s.heap.size) s.heap H locs → ∀ ls : Array Slot, lv_has ls 17 [(0, .ref (xM 0)), (3, .long l3), (5, .long l5), (7, .int l7), (8, .int l8), (9, .int l9), (10, .int l10)] → W p l e rmX7_continues s m args below meth c H locs 0 0 (MQ below (zQ G [shM G xM] [vM] (zA [shM G xM] s.heap.size) (some (.int rr))) args s 0 0 (zA [shM G xM] s.heap.size)) (F0 m 29 ls []) := by
  obtain ⟨hx, hb, hr, hml, hown, hts, hlk⟩ := id C0
  have hwX7 : ∀ w ∈ wsX70, w.before args s = true := fun w h => hts w (List.mem_cons_of_mem _ (List.mem_append_right _ h))
  intro n
  induction n with
  | zero => intro uM l3 l5 l7 l8 l9 l10 h; exact absurd h (fun q => nomatch q)
  | succ n K29 =>
    intro uM l3 l5 l7 l8 l9 l10 h H locs hP hS ls hl
    replace h : bX7_continues_29  (lX7_continues_29  n) uM l3 l5 l7 l8 l9 l10 = some (rr, vM) := h
    unfold bX7_continues_29 at h
    refine lv_iload hx hb dX7_continues_29 (lv_at hl 3 rfl) ?_
    refine lv_iload hx hb dX7_continues_31 (lv_at hl 4 rfl) ?_
    refine lv_icmp_eq (tgt := 131) hx hb dX7_continues_33 (by decide) (fun hc => ?_) (fun hc => ?_)
    · replace h := zt hc h
      refine lv_aload_n hx hb dX7_continues_131 rfl (lv_at hl 0 rfl) ?_
      refine rM_35 hx hb hwX7 hown hK hP 0 (xM) rfl rfl (hts _ (List.mem_of_getElem? (i := 3) rfl)) dX7_continues_132 ?_
      refine lv_iload hx hb dX7_continues_135 (lv_at hl 6 rfl) ?_
      refine lv_if_eq (tgt := 145) hx hb dX7_continues_137 (by decide) (fun hc => ?_) (fun hc => ?_)
      · replace h := zt hc h
        refine lv_iload hx hb dX7_continues_145 (lv_at hl 5 rfl) ?_
        refine lv_iconst (v := 1) hx hb dX7_continues_147 (by decide) ?_
        refine lv_iadd hx hb dX7_continues_148 ?_
        exact tX7_continues_149 C0 hK hN hD  _ _ _ _ _ _ _ h _ _ hP hS _ (lv_sub hl [0, 1, 2, 5, 6] rfl)
      · replace h := zf hc h
        refine lv_iload hx hb dX7_continues_140 (lv_at hl 5 rfl) ?_
        refine lv_goto (tgt := 149) hx hb dX7_continues_142 (by decide) ?_
        exact tX7_continues_149 C0 hK hN hD  _ _ _ _ _ _ _ h _ _ hP hS _ (lv_sub hl [0, 1, 2, 5, 6] rfl)
    · replace h := zf hc h
      refine lv_iload hx hb dX7_continues_36 (lv_at hl 4 rfl) ?_
      obtain ⟨r_7, hg, h⟩ := zb1_e h
      refine z_callS (As := [.int l8]) (rest := []) ⟨hx, hb, hml, hown, hts⟩ (mX7_partOf l G  hg) (va_cwS 1 hts gX7_continues_X7_partOf rfl rfl rfl ksX7_partOf ⟨Nat.le_of_ble_eq_true rfl, Nat.le_of_ble_eq_true rfl⟩) hP hD hK hN hS (Nat.le_refl _) [] rfl rfl rfl rfl rfl hl.1 rfl (Nat.le_of_ble_eq_true rfl) dX7_continues_38 ⟨Nat.zero_le _, Nat.zero_le _⟩ (fun H locs hP hS => ?_)
      replace hP : zP G [shM G xM] [uM] H := hP
      refine lv_istore (lv' := [(11, .int r_7), (0, .ref (xM 0)), (3, .long l3), (5, .long l5), (7, .int l7), (8, .int l8), (9, .int l9), (10, .int l10)]) hx hb dX7_continues_41 hl (by decide) rfl (fun ls hl => ?_)
      refine lv_iload hx hb dX7_continues_43 (lv_at hl 4 rfl) ?_
      refine lv_iload hx hb dX7_continues_45 (lv_at hl 0 rfl) ?_
      refine lv_icmp_gt (tgt := 54) hx hb dX7_continues_47 (by decide) (fun hc => ?_) (fun hc => ?_)
      · replace h := zt hc h
        refine lv_iconst (v := 0) hx hb dX7_continues_54 (by decide) ?_
        exact tX7_continues_55 C0 hK hN hD K29 _ _ _ _ _ _ _ _ _ h _ _ hP hS _ (lv_sub hl [1, 2, 3, 4, 5, 6, 7, 0] rfl)
      · replace h := zf hc h
        refine lv_iconst (v := 1) hx hb dX7_continues_50 (by decide) ?_
        refine lv_goto (tgt := 55) hx hb dX7_continues_51 (by decide) ?_
        exact tX7_continues_55 C0 hK hN hD K29 _ _ _ _ _ _ _ _ _ h _ _ hP hS _ (lv_sub hl [1, 2, 3, 4, 5, 6, 7, 0] rfl)
set_option maxRecDepth 20000 in
theorem mX7_continues (l : Launch) (G : zG) (xM : Nat → Nat) {uM : zSt} {l1 : Int32} {l2 : Int32} {l3 : Int64} {l5 : Int64} {rr : Int32} {vM : zSt} (h : fX7_continues uM l1 l2 l3 l5 = some (rr, vM)) : zC l yX7_continues wsX7_continues rmX7_continues [.ref (xM 0), .int l1, .int l2, .long l3, .long l5] G [shM G xM] [uM] [vM] (some (.int rr)) := by
  refine z_ofW (cc := cX7_continues) (maxL := 17) (ret := some .boolean) (by decide) rfl (Nat.le_of_ble_eq_true rfl) ?_
  intro p e s m args below meth c C0 hK hN hD hP ls hl
  obtain ⟨hx, hb, hr, hml, hown, hts, hlk⟩ := id C0
  have hS : va_S (zA [shM G xM] s.heap.size) s.heap s.heap [] := va_S.rf
  replace hl : lv_has ls 17 [(0, .ref (xM 0)), (1, .int l1), (2, .int l2), (3, .long l3), (5, .long l5)] := hl
  have hwX7 : ∀ w ∈ wsX70, w.before args s = true := fun w h => hts w (List.mem_cons_of_mem _ (List.mem_append_right _ h))
  unfold fX7_continues at h
  refine lv_aload_n hx hb dX7_continues_0 rfl (lv_at hl 0 rfl) ?_
  refine lv_iconst (v := 0) hx hb dX7_continues_1 (by decide) ?_
  refine pM_0 hx hb hwX7 hown hK hP hD hS 0 (xM) rfl rfl (hts _ (List.mem_of_getElem? (i := 1) rfl)) dX7_continues_2 (fun H locs hP hS => ?_)
  replace hP : zP G [shM G xM] [(sI uM 0 ((0 : Int32)))] H := hP
  refine lv_iload_n hx hb dX7_continues_5 rfl (lv_at hl 1 rfl) ?_
  refine lv_iconst (v := 1) hx hb dX7_continues_6 (by decide) ?_
  refine lv_icmp_lt (tgt := 15) hx hb dX7_continues_7 (by decide) (fun hc => ?_) (fun hc => ?_)
  · replace h := zt hc h
    refine lv_iconst (v := 0) hx hb dX7_continues_15 (by decide) ?_
    cases h
    exact z_zret hx hb hr hlk rfl hP hS dX7_continues_16
  · replace h := zf hc h
    refine lv_iload_n hx hb dX7_continues_10 rfl (lv_at hl 1 rfl) ?_
    refine lv_iload_n hx hb dX7_continues_11 rfl (lv_at hl 2 rfl) ?_
    refine lv_icmp_le (tgt := 17) hx hb dX7_continues_12 (by decide) (fun hc => ?_) (fun hc => ?_)
    · replace h := zt hc h
      refine lv_iload_n hx hb dX7_continues_17 rfl (lv_at hl 1 rfl) ?_
      refine lv_istore (lv' := [(7, .int l1), (0, .ref (xM 0)), (1, .int l1), (2, .int l2), (3, .long l3), (5, .long l5)]) hx hb dX7_continues_18 hl (by decide) rfl (fun ls hl => ?_)
      refine lv_iload_n hx hb dX7_continues_20 rfl (lv_at hl 3 rfl) ?_
      refine lv_istore (lv' := [(8, .int l2), (7, .int l1), (0, .ref (xM 0)), (1, .int l1), (2, .int l2), (3, .long l3), (5, .long l5)]) hx hb dX7_continues_21 hl (by decide) rfl (fun ls hl => ?_)
      refine lv_iconst (v := 0) hx hb dX7_continues_23 (by decide) ?_
      refine lv_istore (lv' := [(9, .int ((0 : Int32))), (8, .int l2), (7, .int l1), (0, .ref (xM 0)), (1, .int l1), (2, .int l2), (3, .long l3), (5, .long l5)]) hx hb dX7_continues_24 hl (by decide) rfl (fun ls hl => ?_)
      refine lv_iconst (v := 1) hx hb dX7_continues_26 (by decide) ?_
      refine lv_istore (lv' := [(10, .int ((1 : Int32))), (9, .int ((0 : Int32))), (8, .int l2), (7, .int l1), (0, .ref (xM 0)), (1, .int l1), (2, .int l2), (3, .long l3), (5, .long l5)]) hx hb dX7_continues_27 hl (by decide) rfl (fun ls hl => ?_)
      exact tlX7_continues_29 C0 hK hN hD  1000 _ _ _ _ _ _ _ h _ _ hP hS _ (lv_sub hl [4, 7, 8, 3, 2, 1, 0] rfl)
    · replace h := zf hc h
      refine lv_iconst (v := 0) hx hb dX7_continues_15 (by decide) ?_
      cases h
      exact z_zret hx hb hr hlk rfl hP hS dX7_continues_16
end
