def rmX3_isNumber : Room := { frames := 0, cells := 0, slots := 0, locals := 0 }
theorem ksX3_isNumber : yX3_isNumber.cls ≠ "java/lang/invoke/MethodHandle" ∧ yX3_isNumber.cls ≠ "java/lang/invoke/VarHandle" ∧ (parseMethodDescriptor yX3_isNumber.desc).map (fun d => d.parameters.length) = some 1 := by decide +kernel
section
variable {p : Program} {l : Launch} {e : Env} {s : State} {m : MethodId} {args : Array Value} {below : List Frame} {meth : Method} {c : Code} {G : zG}  {rr : Int32}
set_option maxRecDepth 20000 in
theorem mX3_isNumber (l : Launch) (G : zG)  {l0 : Int32} {rr : Int32} (h : fX3_isNumber l0 = some rr) : zC l yX3_isNumber wsX3_isNumber rmX3_isNumber [.int l0] G [] [] [] (some (.int rr)) := by
  refine z_ofW (cc := cX3_isNumber) (maxL := 1) (ret := some .boolean) (by decide) rfl (Nat.le_of_ble_eq_true rfl) ?_
  intro p e s m args below meth c C0 hK hN hD hP ls hl
  obtain ⟨hx, hb, hr, hml, hown, hts, hlk⟩ := id C0
  have hS : va_S (zA [] s.heap.size) s.heap s.heap [] := va_S.rf
  replace hl : lv_has ls 1 [(0, .int l0)] := hl
  unfold fX3_isNumber at h
  refine lv_iload_n hx hb dX3_isNumber_0 rfl (lv_at hl 0 rfl) ?_
  refine lv_if_lt (tgt := 15) hx hb dX3_isNumber_1 (by decide) (fun hc => ?_) (fun hc => ?_)
  · replace h := zt hc h
    refine lv_iconst (v := 0) hx hb dX3_isNumber_15 (by decide) ?_
    cases h
    exact z_zret hx hb hr hlk rfl hP hS dX3_isNumber_16
  · replace h := zf hc h
    refine lv_iload_n hx hb dX3_isNumber_4 rfl (lv_at hl 0 rfl) ?_
    refine lv_sipush (v := 2039) hx hb dX3_isNumber_5 (by decide) ?_
    refine lv_icmp_ge (tgt := 15) hx hb dX3_isNumber_8 (by decide) (fun hc => ?_) (fun hc => ?_)
    · replace h := zt hc h
      refine lv_iconst (v := 0) hx hb dX3_isNumber_15 (by decide) ?_
      cases h
      exact z_zret hx hb hr hlk rfl hP hS dX3_isNumber_16
    · replace h := zf hc h
      refine lv_iconst (v := 1) hx hb dX3_isNumber_11 (by decide) ?_
      refine lv_goto (tgt := 16) hx hb dX3_isNumber_12 (by decide) ?_
      cases h
      exact z_zret hx hb hr hlk rfl hP hS dX3_isNumber_16
end
def rmX3_power : Room := { frames := 0, cells := 0, slots := 0, locals := 0 }
theorem ksX3_power : yX3_power.cls ≠ "java/lang/invoke/MethodHandle" ∧ yX3_power.cls ≠ "java/lang/invoke/VarHandle" ∧ (parseMethodDescriptor yX3_power.desc).map (fun d => d.parameters.length) = some 2 := by decide +kernel
section
variable {p : Program} {l : Launch} {e : Env} {s : State} {m : MethodId} {args : Array Value} {below : List Frame} {meth : Method} {c : Code} {G : zG}  {rr : Int32}
set_option maxRecDepth 20000 in
theorem tX3_power_28 (C0 : zCtx p s m args meth c cX3_power RX3 wsX3_power 5 (some .int)) (hK : zK G s) (hN : zN s) (hD : zD []) {k7 : Int32 → Int32 → Int32 → Option (Int32)} (K7 : ∀ (l2 : Int32) (l3 : Int32) (l4 : Int32), k7 l2 l3 l4 = some rr → ∀ (H : Heap) (locs : List Loc), zP G [] [] H → va_S (zA [] s.heap.size) s.heap H locs → ∀ ls : Array Slot, lv_has ls 5 [(2, .int l2), (3, .int l3), (4, .int l4)] → W p l e rmX3_power s m args below meth c H locs 0 0 (MQ below (zQ G [] [] (zA [] s.heap.size) (some (.int rr))) args s 0 0 (zA [] s.heap.size)) (F0 m 7 ls [])) : ∀ (l2 : Int32) (l3 : Int32) (l4 : Int32), bX3_power_28 k7 l2 l3 l4 = some rr → ∀ (H : Heap) (locs : List Loc), zP G [] [] H → va_S (zA [] s.heap.size) s.heap H locs → ∀ ls : Array Slot, lv_has ls 5 [(2, .int l2), (3, .int l3), (4, .int l4)] → W p l e rmX3_power s m args below meth c H locs 0 0 (MQ below (zQ G [] [] (zA [] s.heap.size) (some (.int rr))) args s 0 0 (zA [] s.heap.size)) (F0 m 28 ls []) := by
  obtain ⟨hx, hb, hr, hml, hown, hts, hlk⟩ := id C0
  intro l2 l3 l4 h H locs hP hS ls hl
  unfold bX3_power_28 at h
  refine lv_iload_n hx hb dX3_power_28 rfl (lv_at hl 1 rfl) ?_
  refine lv_iload_n hx hb dX3_power_29 rfl (lv_at hl 1 rfl) ?_
  refine lv_imul hx hb dX3_power_30 ?_
  refine lv_sipush (v := 4079) hx hb dX3_power_31 (by decide) ?_
  refine lv_irem hx hb dX3_power_34 (by decide) ?_
  refine lv_istore_n (lv' := [(3, .int (((l3 * l3) - (l3 * l3) / (4079 : Int32) * (4079 : Int32)))), (2, .int l2), (4, .int l4)]) hx hb dX3_power_35 rfl hl (by decide) rfl (fun ls hl => ?_)
  refine lv_iload hx hb dX3_power_36 (lv_at hl 2 rfl) ?_
  refine lv_iconst (v := 1) hx hb dX3_power_38 (by decide) ?_
  refine lv_ishr hx hb dX3_power_39 ?_
  refine lv_istore (lv' := [(4, .int ((l4 >>> ((1 : Int32) &&& 31)))), (3, .int (((l3 * l3) - (l3 * l3) / (4079 : Int32) * (4079 : Int32)))), (2, .int l2)]) hx hb dX3_power_40 hl (by decide) rfl (fun ls hl => ?_)
  refine lv_goto (tgt := 7) hx hb dX3_power_42 (by decide) ?_
  exact K7 _ _ _ h _ _ hP hS _ (lv_sub hl [2, 1, 0] rfl)
set_option maxRecDepth 20000 in
theorem tlX3_power_7 (C0 : zCtx p s m args meth c cX3_power RX3 wsX3_power 5 (some .int)) (hK : zK G s) (hN : zN s) (hD : zD [])  : ∀ (n : Nat), ∀ (l2 : Int32) (l3 : Int32) (l4 : Int32), lX3_power_7  n l2 l3 l4 = some rr → ∀ (H : Heap) (locs : List Loc), zP G [] [] H → va_S (zA [] s.heap.size) s.heap H locs → ∀ ls : Array Slot, lv_has ls 5 [(2, .int l2), (3, .int l3), (4, .int l4)] → W p l e rmX3_power s m args below meth c H locs 0 0 (MQ below (zQ G [] [] (zA [] s.heap.size) (some (.int rr))) args s 0 0 (zA [] s.heap.size)) (F0 m 7 ls []) := by
  obtain ⟨hx, hb, hr, hml, hown, hts, hlk⟩ := id C0
  intro n
  induction n with
  | zero => intro l2 l3 l4 h; exact absurd h (fun q => nomatch q)
  | succ n K7 =>
    intro l2 l3 l4 h H locs hP hS ls hl
    replace h : bX3_power_7  (lX3_power_7  n) l2 l3 l4 = some rr := h
    unfold bX3_power_7 at h
    refine lv_iload hx hb dX3_power_7 (lv_at hl 2 rfl) ?_
    refine lv_if_le (tgt := 45) hx hb dX3_power_9 (by decide) (fun hc => ?_) (fun hc => ?_)
    · replace h := zt hc h
      refine lv_iload_n hx hb dX3_power_45 rfl (lv_at hl 0 rfl) ?_
      cases h
      exact z_iret hx hb hr hlk hP hS dX3_power_46
    · replace h := zf hc h
      refine lv_iload hx hb dX3_power_12 (lv_at hl 2 rfl) ?_
      refine lv_iconst (v := 1) hx hb dX3_power_14 (by decide) ?_
      refine lv_iand hx hb dX3_power_15 ?_
      refine lv_iconst (v := 1) hx hb dX3_power_16 (by decide) ?_
      refine lv_icmp_ne (tgt := 28) hx hb dX3_power_17 (by decide) (fun hc => ?_) (fun hc => ?_)
      · replace h := zf hc h
        exact tX3_power_28 C0 hK hN hD K7 _ _ _ h _ _ hP hS _ (lv_sub hl [0, 1, 2] rfl)
      · replace h := zt hc h
        refine lv_iload_n hx hb dX3_power_20 rfl (lv_at hl 0 rfl) ?_
        refine lv_iload_n hx hb dX3_power_21 rfl (lv_at hl 1 rfl) ?_
        refine lv_imul hx hb dX3_power_22 ?_
        refine lv_sipush (v := 4079) hx hb dX3_power_23 (by decide) ?_
        refine lv_irem hx hb dX3_power_26 (by decide) ?_
        refine lv_istore_n (lv' := [(2, .int (((l2 * l3) - (l2 * l3) / (4079 : Int32) * (4079 : Int32)))), (3, .int l3), (4, .int l4)]) hx hb dX3_power_27 rfl hl (by decide) rfl (fun ls hl => ?_)
        exact tX3_power_28 C0 hK hN hD K7 _ _ _ h _ _ hP hS _ (lv_sub hl [0, 1, 2] rfl)
set_option maxRecDepth 20000 in
theorem mX3_power (l : Launch) (G : zG)  {l0 : Int32} {l1 : Int32} {rr : Int32} (h : fX3_power l0 l1 = some rr) : zC l yX3_power wsX3_power rmX3_power [.int l0, .int l1] G [] [] [] (some (.int rr)) := by
  refine z_ofW (cc := cX3_power) (maxL := 5) (ret := some .int) (by decide) rfl (Nat.le_of_ble_eq_true rfl) ?_
  intro p e s m args below meth c C0 hK hN hD hP ls hl
  obtain ⟨hx, hb, hr, hml, hown, hts, hlk⟩ := id C0
  have hS : va_S (zA [] s.heap.size) s.heap s.heap [] := va_S.rf
  replace hl : lv_has ls 5 [(0, .int l0), (1, .int l1)] := hl
  unfold fX3_power at h
  refine lv_iconst (v := 1) hx hb dX3_power_0 (by decide) ?_
  refine lv_istore_n (lv' := [(2, .int ((1 : Int32))), (0, .int l0), (1, .int l1)]) hx hb dX3_power_1 rfl hl (by decide) rfl (fun ls hl => ?_)
  refine lv_iload_n hx hb dX3_power_2 rfl (lv_at hl 1 rfl) ?_
  refine lv_istore_n (lv' := [(3, .int l0), (2, .int ((1 : Int32))), (0, .int l0), (1, .int l1)]) hx hb dX3_power_3 rfl hl (by decide) rfl (fun ls hl => ?_)
  refine lv_iload_n hx hb dX3_power_4 rfl (lv_at hl 3 rfl) ?_
  refine lv_istore (lv' := [(4, .int l1), (3, .int l0), (2, .int ((1 : Int32))), (0, .int l0), (1, .int l1)]) hx hb dX3_power_5 hl (by decide) rfl (fun ls hl => ?_)
  exact tlX3_power_7 C0 hK hN hD  1000 _ _ _ h _ _ hP hS _ (lv_sub hl [2, 1, 0] rfl)
end
def rmX3_ofBase : Room := { frames := 1, cells := 0, slots := 0, locals := 24 }
theorem ksX3_ofBase : yX3_ofBase.cls ≠ "java/lang/invoke/MethodHandle" ∧ yX3_ofBase.cls ≠ "java/lang/invoke/VarHandle" ∧ (parseMethodDescriptor yX3_ofBase.desc).map (fun d => d.parameters.length) = some 1 := by decide +kernel
section
variable {p : Program} {l : Launch} {e : Env} {s : State} {m : MethodId} {args : Array Value} {below : List Frame} {meth : Method} {c : Code} {G : zG}  {rr : Int32}
set_option maxRecDepth 20000 in
theorem mX3_ofBase (l : Launch) (G : zG)  {l0 : Int32} {rr : Int32} (h : fX3_ofBase l0 = some rr) : zC l yX3_ofBase wsX3_ofBase rmX3_ofBase [.int l0] G [] [] [] (some (.int rr)) := by
  refine z_ofW (cc := cX3_ofBase) (maxL := 1) (ret := some .int) (by decide) rfl (Nat.le_of_ble_eq_true rfl) ?_
  intro p e s m args below meth c C0 hK hN hD hP ls hl
  obtain ⟨hx, hb, hr, hml, hown, hts, hlk⟩ := id C0
  have hS : va_S (zA [] s.heap.size) s.heap s.heap [] := va_S.rf
  replace hl : lv_has ls 1 [(0, .int l0)] := hl
  unfold fX3_ofBase at h
  refine lv_iconst (v := 4) hx hb dX3_ofBase_0 (by decide) ?_
  refine lv_iload_n hx hb dX3_ofBase_1 rfl (lv_at hl 0 rfl) ?_
  obtain ⟨r_1, hg, h⟩ := zb1_e h
  refine z_callS (As := [.int ((4 : Int32)), .int l0]) (rest := []) ⟨hx, hb, hml, hown, hts⟩ (mX3_power l G  hg) (va_cwS 2 hts gX3_ofBase_X3_power rfl rfl rfl ksX3_power ⟨Nat.le_of_ble_eq_true rfl, Nat.le_of_ble_eq_true rfl⟩) hP hD hK hN hS (Nat.le_refl _) [] rfl rfl rfl rfl rfl hl.1 rfl (Nat.le_of_ble_eq_true rfl) dX3_ofBase_2 ⟨Nat.zero_le _, Nat.zero_le _⟩ (fun H locs hP hS => ?_)
  replace hP : zP G [] [] H := hP
  cases h
  exact z_iret hx hb hr hlk hP hS dX3_ofBase_5
end
def rmX3_times : Room := { frames := 0, cells := 0, slots := 0, locals := 0 }
theorem ksX3_times : yX3_times.cls ≠ "java/lang/invoke/MethodHandle" ∧ yX3_times.cls ≠ "java/lang/invoke/VarHandle" ∧ (parseMethodDescriptor yX3_times.desc).map (fun d => d.parameters.length) = some 2 := by decide +kernel
section
variable {p : Program} {l : Launch} {e : Env} {s : State} {m : MethodId} {args : Array Value} {below : List Frame} {meth : Method} {c : Code} {G : zG}  {rr : Int32}
set_option maxRecDepth 20000 in
theorem mX3_times (l : Launch) (G : zG)  {l0 : Int32} {l1 : Int32} {rr : Int32} (h : fX3_times l0 l1 = some rr) : zC l yX3_times wsX3_times rmX3_times [.int l0, .int l1] G [] [] [] (some (.int rr)) := by
  refine z_ofW (cc := cX3_times) (maxL := 2) (ret := some .int) (by decide) rfl (Nat.le_of_ble_eq_true rfl) ?_
  intro p e s m args below meth c C0 hK hN hD hP ls hl
  obtain ⟨hx, hb, hr, hml, hown, hts, hlk⟩ := id C0
  have hS : va_S (zA [] s.heap.size) s.heap s.heap [] := va_S.rf
  replace hl : lv_has ls 2 [(0, .int l0), (1, .int l1)] := hl
  unfold fX3_times at h
  refine lv_iload_n hx hb dX3_times_0 rfl (lv_at hl 0 rfl) ?_
  refine lv_iload_n hx hb dX3_times_1 rfl (lv_at hl 1 rfl) ?_
  refine lv_imul hx hb dX3_times_2 ?_
  refine lv_sipush (v := 4079) hx hb dX3_times_3 (by decide) ?_
  refine lv_irem hx hb dX3_times_6 (by decide) ?_
  cases h
  exact z_iret hx hb hr hlk hP hS dX3_times_7
end
def rmX1_empty : Room := { frames := 0, cells := 0, slots := 0, locals := 0 }
theorem kvX1_empty : yX1_empty.cls = RX1 ∧ yX1_empty.cls ≠ "java/lang/invoke/MethodHandle" ∧ yX1_empty.cls ≠ "java/lang/invoke/VarHandle" ∧ (parseMethodDescriptor yX1_empty.desc).map (fun d => d.parameters.length) = some 0 := by decide +kernel
section
variable {p : Program} {l : Launch} {e : Env} {s : State} {m : MethodId} {args : Array Value} {below : List Frame} {meth : Method} {c : Code} {G : zG} {xB : Nat → Nat} {vB : zSt}
set_option maxRecDepth 20000 in
theorem mX1_empty (l : Launch) (G : zG) (xB : Nat → Nat) {uB : zSt} {vB : zSt} (h : fX1_empty uB = some vB) : zC l yX1_empty wsX1_empty rmX1_empty [.ref (xB 0)] G [shB G xB] [uB] [vB] none := by
  refine z_ofW (cc := cX1_empty) (maxL := 1) (ret := none) (by decide) rfl (Nat.le_of_ble_eq_true rfl) ?_
  intro p e s m args below meth c C0 hK hN hD hP ls hl
  obtain ⟨hx, hb, hr, hml, hown, hts, hlk⟩ := id C0
  have hS : va_S (zA [shB G xB] s.heap.size) s.heap s.heap [] := va_S.rf
  replace hl : lv_has ls 1 [(0, .ref (xB 0))] := hl
  have hwX1 : ∀ w ∈ wsX10, w.before args s = true := fun w h => hts w (List.mem_cons_of_mem _ (List.mem_append_right _ h))
  unfold fX1_empty at h
  refine lv_aload_n hx hb dX1_empty_0 rfl (lv_at hl 0 rfl) ?_
  refine lv_iconst (v := 0) hx hb dX1_empty_1 (by decide) ?_
  refine pB_3 hx hb hwX1 hown hK hP hD hS 0 (xB) rfl rfl (hts _ (List.mem_of_getElem? (i := 1) rfl)) dX1_empty_2 (fun H locs hP hS => ?_)
  replace hP : zP G [shB G xB] [(sI uB 3 ((0 : Int32)))] H := hP
  cases h
  exact z_vret hx hb hr hlk hP hS dX1_empty_5
end
def rmX1_write : Room := { frames := 0, cells := 0, slots := 0, locals := 0 }
theorem kvX1_write : yX1_write.cls = RX1 ∧ yX1_write.cls ≠ "java/lang/invoke/MethodHandle" ∧ yX1_write.cls ≠ "java/lang/invoke/VarHandle" ∧ (parseMethodDescriptor yX1_write.desc).map (fun d => d.parameters.length) = some 3 := by decide +kernel
section
variable {p : Program} {l : Launch} {e : Env} {s : State} {m : MethodId} {args : Array Value} {below : List Frame} {meth : Method} {c : Code} {G : zG} {xB : Nat → Nat} {vB : zSt}
set_option maxRecDepth 20000 in
theorem mX1_write (l : Launch) (G : zG) (xB : Nat → Nat) {uB : zSt} {l1 : Int32} {l2 : Int32} {l3 : Int32} {vB : zSt} (h : fX1_write uB l1 l2 l3 = some vB) : zC l yX1_write wsX1_write rmX1_write [.ref (xB 0), .int l1, .int l2, .int l3] G [shB G xB] [uB] [vB] none := by
  refine z_ofW (cc := cX1_write) (maxL := 4) (ret := none) (by decide) rfl (Nat.le_of_ble_eq_true rfl) ?_
  intro p e s m args below meth c C0 hK hN hD hP ls hl
  obtain ⟨hx, hb, hr, hml, hown, hts, hlk⟩ := id C0
  have hS : va_S (zA [shB G xB] s.heap.size) s.heap s.heap [] := va_S.rf
  replace hl : lv_has ls 4 [(0, .ref (xB 0)), (1, .int l1), (2, .int l2), (3, .int l3)] := hl
  have hwX1 : ∀ w ∈ wsX10, w.before args s = true := fun w h => hts w (List.mem_cons_of_mem _ (List.mem_append_right _ h))
  unfold fX1_write at h
  refine lv_aload_n hx hb dX1_write_0 rfl (lv_at hl 0 rfl) ?_
  refine rB_1 hx hb hwX1 hown hK hP 0 (xB) rfl rfl (hts _ (List.mem_of_getElem? (i := 1) rfl)) dX1_write_1 ?_
  refine lv_iload_n hx hb dX1_write_4 rfl (lv_at hl 1 rfl) ?_
  refine lv_bipush (v := 6) hx hb dX1_write_5 (by decide) ?_
  refine lv_imul hx hb dX1_write_7 ?_
  refine lv_iload_n hx hb dX1_write_8 rfl (lv_at hl 2 rfl) ?_
  refine lv_iadd hx hb dX1_write_9 ?_
  refine lv_iload_n hx hb dX1_write_10 rfl (lv_at hl 3 rfl) ?_
  obtain ⟨hi, h⟩ := zin_e h
  refine tB_1 hx hb hK hP hD hS 0 (xB) rfl rfl hi rfl dX1_write_11 (fun H locs hP hS => ?_)
  replace hP : zP G [shB G xB] [(sA uB 1 (((l1 * (6 : Int32)) + l2)).toNatClampNeg l3)] H := hP
  cases h
  exact z_vret hx hb hr hlk hP hS dX1_write_12
end
def rmX1_put : Room := { frames := 1, cells := 0, slots := 0, locals := 23 }
theorem kvX1_put : yX1_put.cls = RX1 ∧ yX1_put.cls ≠ "java/lang/invoke/MethodHandle" ∧ yX1_put.cls ≠ "java/lang/invoke/VarHandle" ∧ (parseMethodDescriptor yX1_put.desc).map (fun d => d.parameters.length) = some 4 := by decide +kernel
section
variable {p : Program} {l : Launch} {e : Env} {s : State} {m : MethodId} {args : Array Value} {below : List Frame} {meth : Method} {c : Code} {G : zG} {xB : Nat → Nat} {rr : Int32} {vB : zSt}
set_option maxRecDepth 20000 in
theorem tlX1_put_42 (C0 : zCtx p s m args meth c cX1_put RX1 wsX1_put 7 (some .int)) (hK : zK G s) (hN : zN s) (hD : zD [shB G xB])  : ∀ (n : Nat), ∀ (uB : zSt) (l5 : Int32) (l6 : Int32), lX1_put_42  n uB l5 l6 = some (rr, vB) → ∀ (H : Heap) (locs : List Loc), zP G [shB G xB] [uB] H → va_S (zA [shB G xB] s.heap.size) s.heap H locs → ∀ ls : Array Slot, lv_has ls 7 [(0, .ref (xB 0)), (5, .int l5), (6, .int l6)] → W p l e rmX1_put s m args below meth c H locs 0 0 (MQ below (zQ G [shB G xB] [vB] (zA [shB G xB] s.heap.size) (some (.int rr))) args s 0 0 (zA [shB G xB] s.heap.size)) (F0 m 42 ls []) := by
  obtain ⟨hx, hb, hr, hml, hown, hts, hlk⟩ := id C0
  have hwX1 : ∀ w ∈ wsX10, w.before args s = true := fun w h => hts w (List.mem_cons_of_mem _ (List.mem_append_right _ h))
  intro n
  induction n with
  | zero => intro uB l5 l6 h; exact absurd h (fun q => nomatch q)
  | succ n K42 =>
    intro uB l5 l6 h H locs hP hS ls hl
    replace h : bX1_put_42  (lX1_put_42  n) uB l5 l6 = some (rr, vB) := h
    unfold bX1_put_42 at h
    refine lv_iload hx hb dX1_put_42 (lv_at hl 2 rfl) ?_
    refine lv_bipush (v := 6) hx hb dX1_put_44 (by decide) ?_
    refine lv_icmp_ge (tgt := 64) hx hb dX1_put_46 (by decide) (fun hc => ?_) (fun hc => ?_)
    · replace h := zt hc h
      refine lv_aload_n hx hb dX1_put_64 rfl (lv_at hl 0 rfl) ?_
      refine lv_dup hx hb dX1_put_65 rfl ?_
      refine rB_3 hx hb hwX1 hown hK hP 0 (xB) rfl rfl (hts _ (List.mem_of_getElem? (i := 1) rfl)) dX1_put_66 ?_
      refine lv_iconst (v := 1) hx hb dX1_put_69 (by decide) ?_
      refine lv_iadd hx hb dX1_put_70 ?_
      refine pB_3 hx hb hwX1 hown hK hP hD hS 0 (xB) rfl rfl (hts _ (List.mem_of_getElem? (i := 1) rfl)) dX1_put_71 (fun H locs hP hS => ?_)
      replace hP : zP G [shB G xB] [(sI uB 3 (((gI uB 3) + (1 : Int32))))] H := hP
      refine lv_iload hx hb dX1_put_74 (lv_at hl 1 rfl) ?_
      cases h
      exact z_iret hx hb hr hlk hP hS dX1_put_76
    · replace h := zf hc h
      refine lv_aload_n hx hb dX1_put_49 rfl (lv_at hl 0 rfl) ?_
      refine lv_iload hx hb dX1_put_50 (lv_at hl 1 rfl) ?_
      refine lv_iload hx hb dX1_put_52 (lv_at hl 2 rfl) ?_
      refine lv_iconst (v := 0) hx hb dX1_put_54 (by decide) ?_
      obtain ⟨uB_1, hg, h⟩ := zb1_e h
      refine z_callV (As := [.int l5, .int l6, .int ((0 : Int32))]) (rest := []) (i := 0) ⟨hx, hb, hml, hown, hts⟩ (mX1_write l G (xB) hg) (cwV 3 hts gX1_put_X1_write rfl rfl rfl kvX1_write ⟨Nat.le_of_ble_eq_true rfl, Nat.le_of_ble_eq_true rfl⟩) rfl hP hD hK hN hS (Nat.le_refl _) [0] rfl rfl rfl rfl 0 rfl rfl rfl rfl rfl hl.1 rfl (Nat.le_of_ble_eq_true rfl) dX1_put_55 ⟨Nat.zero_le _, Nat.zero_le _⟩ (fun H locs hP hS => ?_)
      replace hP : zP G [shB G xB] [uB_1] H := hP
      refine lv_iinc (v := (l6 + (1 : Int32))) (lv' := [(6, .int ((l6 + (1 : Int32)))), (0, .ref (xB 0)), (5, .int l5)]) hx hb dX1_put_58 hl (k := 2) rfl rfl (by decide) rfl (fun ls hl => ?_)
      refine lv_goto (tgt := 42) hx hb dX1_put_61 (by decide) ?_
      exact K42 _ _ _ h _ _ hP hS _ (lv_sub hl [1, 2, 0] rfl)
set_option maxRecDepth 20000 in
theorem mX1_put (l : Launch) (G : zG) (xB : Nat → Nat) {uB : zSt} {l1 : Int32} {l2 : Int32} {l3 : Int32} {l4 : Int32} {rr : Int32} {vB : zSt} (h : fX1_put uB l1 l2 l3 l4 = some (rr, vB)) : zC l yX1_put wsX1_put rmX1_put [.ref (xB 0), .int l1, .int l2, .int l3, .int l4] G [shB G xB] [uB] [vB] (some (.int rr)) := by
  refine z_ofW (cc := cX1_put) (maxL := 7) (ret := some .int) (by decide) rfl (Nat.le_of_ble_eq_true rfl) ?_
  intro p e s m args below meth c C0 hK hN hD hP ls hl
  obtain ⟨hx, hb, hr, hml, hown, hts, hlk⟩ := id C0
  have hS : va_S (zA [shB G xB] s.heap.size) s.heap s.heap [] := va_S.rf
  replace hl : lv_has ls 7 [(0, .ref (xB 0)), (1, .int l1), (2, .int l2), (3, .int l3), (4, .int l4)] := hl
  have hwX1 : ∀ w ∈ wsX10, w.before args s = true := fun w h => hts w (List.mem_cons_of_mem _ (List.mem_append_right _ h))
  unfold fX1_put at h
  refine lv_aload_n hx hb dX1_put_0 rfl (lv_at hl 0 rfl) ?_
  refine rB_3 hx hb hwX1 hown hK hP 0 (xB) rfl rfl (hts _ (List.mem_of_getElem? (i := 1) rfl)) dX1_put_1 ?_
  refine lv_istore (lv' := [(5, .int ((gI uB 3))), (0, .ref (xB 0)), (1, .int l1), (2, .int l2), (3, .int l3), (4, .int l4)]) hx hb dX1_put_4 hl (by decide) rfl (fun ls hl => ?_)
  refine lv_aload_n hx hb dX1_put_6 rfl (lv_at hl 1 rfl) ?_
  refine rB_0 hx hb hwX1 hown hK hP 0 (xB) rfl rfl (hts _ (List.mem_of_getElem? (i := 2) rfl)) dX1_put_7 ?_
  refine lv_iload hx hb dX1_put_10 (lv_at hl 0 rfl) ?_
  refine lv_iload_n hx hb dX1_put_12 rfl (lv_at hl 2 rfl) ?_
  obtain ⟨hi, h⟩ := zin_e h
  refine tB_0 hx hb hK hP hD hS 0 (xB) rfl rfl hi rfl dX1_put_13 (fun H locs hP hS => ?_)
  replace hP : zP G [shB G xB] [(sA uB 0 ((gI uB 3)).toNatClampNeg l1)] H := hP
  refine lv_aload_n hx hb dX1_put_14 rfl (lv_at hl 1 rfl) ?_
  refine lv_iload hx hb dX1_put_15 (lv_at hl 0 rfl) ?_
  refine lv_iconst (v := 0) hx hb dX1_put_17 (by decide) ?_
  refine lv_iload_n hx hb dX1_put_18 rfl (lv_at hl 3 rfl) ?_
  obtain ⟨uB_2, hg, h⟩ := zb1_e h
  refine z_callV (As := [.int ((gI uB 3)), .int ((0 : Int32)), .int l2]) (rest := []) (i := 0) ⟨hx, hb, hml, hown, hts⟩ (mX1_write l G (xB) hg) (cwV 3 hts gX1_put_X1_write rfl rfl rfl kvX1_write ⟨Nat.le_of_ble_eq_true rfl, Nat.le_of_ble_eq_true rfl⟩) rfl hP hD hK hN hS (Nat.le_refl _) [0] rfl rfl rfl rfl 0 rfl rfl rfl rfl rfl hl.1 rfl (Nat.le_of_ble_eq_true rfl) dX1_put_19 ⟨Nat.zero_le _, Nat.zero_le _⟩ (fun H locs hP hS => ?_)
  replace hP : zP G [shB G xB] [uB_2] H := hP
  refine lv_aload_n hx hb dX1_put_22 rfl (lv_at hl 1 rfl) ?_
  refine lv_iload hx hb dX1_put_23 (lv_at hl 0 rfl) ?_
  refine lv_iconst (v := 1) hx hb dX1_put_25 (by decide) ?_
  refine lv_iload_n hx hb dX1_put_26 rfl (lv_at hl 4 rfl) ?_
  obtain ⟨uB_3, hg, h⟩ := zb1_e h
  refine z_callV (As := [.int ((gI uB 3)), .int ((1 : Int32)), .int l3]) (rest := []) (i := 0) ⟨hx, hb, hml, hown, hts⟩ (mX1_write l G (xB) hg) (cwV 3 hts gX1_put_X1_write rfl rfl rfl kvX1_write ⟨Nat.le_of_ble_eq_true rfl, Nat.le_of_ble_eq_true rfl⟩) rfl hP hD hK hN hS (Nat.le_refl _) [0] rfl rfl rfl rfl 0 rfl rfl rfl rfl rfl hl.1 rfl (Nat.le_of_ble_eq_true rfl) dX1_put_27 ⟨Nat.zero_le _, Nat.zero_le _⟩ (fun H locs hP hS => ?_)
  replace hP : zP G [shB G xB] [uB_3] H := hP
  refine lv_aload_n hx hb dX1_put_30 rfl (lv_at hl 1 rfl) ?_
  refine lv_iload hx hb dX1_put_31 (lv_at hl 0 rfl) ?_
  refine lv_iconst (v := 2) hx hb dX1_put_33 (by decide) ?_
  refine lv_iload hx hb dX1_put_34 (lv_at hl 5 rfl) ?_
  obtain ⟨uB_4, hg, h⟩ := zb1_e h
  refine z_callV (As := [.int ((gI uB 3)), .int ((2 : Int32)), .int l4]) (rest := []) (i := 0) ⟨hx, hb, hml, hown, hts⟩ (mX1_write l G (xB) hg) (cwV 3 hts gX1_put_X1_write rfl rfl rfl kvX1_write ⟨Nat.le_of_ble_eq_true rfl, Nat.le_of_ble_eq_true rfl⟩) rfl hP hD hK hN hS (Nat.le_refl _) [0] rfl rfl rfl rfl 0 rfl rfl rfl rfl rfl hl.1 rfl (Nat.le_of_ble_eq_true rfl) dX1_put_36 ⟨Nat.zero_le _, Nat.zero_le _⟩ (fun H locs hP hS => ?_)
  replace hP : zP G [shB G xB] [uB_4] H := hP
  refine lv_iconst (v := 3) hx hb dX1_put_39 (by decide) ?_
  refine lv_istore (lv' := [(6, .int ((3 : Int32))), (5, .int ((gI uB 3))), (0, .ref (xB 0)), (1, .int l1), (2, .int l2), (3, .int l3), (4, .int l4)]) hx hb dX1_put_40 hl (by decide) rfl (fun ls hl => ?_)
  exact tlX1_put_42 C0 hK hN hD  1000 _ _ _ h _ _ hP hS _ (lv_sub hl [2, 1, 0] rfl)
end
def rmX1_hasRoom : Room := { frames := 0, cells := 0, slots := 0, locals := 0 }
theorem kvX1_hasRoom : yX1_hasRoom.cls = RX1 ∧ yX1_hasRoom.cls ≠ "java/lang/invoke/MethodHandle" ∧ yX1_hasRoom.cls ≠ "java/lang/invoke/VarHandle" ∧ (parseMethodDescriptor yX1_hasRoom.desc).map (fun d => d.parameters.length) = some 1 := by decide +kernel
section
variable {p : Program} {l : Launch} {e : Env} {s : State} {m : MethodId} {args : Array Value} {below : List Frame} {meth : Method} {c : Code} {G : zG} {xB : Nat → Nat} {rr : Int32}
set_option maxRecDepth 20000 in
theorem mX1_hasRoom (l : Launch) (G : zG) (xB : Nat → Nat) {uB : zSt} {l1 : Int32} {rr : Int32} (h : fX1_hasRoom uB l1 = some rr) : zC l yX1_hasRoom wsX1_hasRoom rmX1_hasRoom [.ref (xB 0), .int l1] G [shB G xB] [uB] [uB] (some (.int rr)) := by
  refine z_ofW (cc := cX1_hasRoom) (maxL := 2) (ret := some .boolean) (by decide) rfl (Nat.le_of_ble_eq_true rfl) ?_
  intro p e s m args below meth c C0 hK hN hD hP ls hl
  obtain ⟨hx, hb, hr, hml, hown, hts, hlk⟩ := id C0
  have hS : va_S (zA [shB G xB] s.heap.size) s.heap s.heap [] := va_S.rf
  replace hl : lv_has ls 2 [(0, .ref (xB 0)), (1, .int l1)] := hl
  have hwX1 : ∀ w ∈ wsX10, w.before args s = true := fun w h => hts w (List.mem_cons_of_mem _ (List.mem_append_right _ h))
  unfold fX1_hasRoom at h
  refine lv_iload_n hx hb dX1_hasRoom_0 rfl (lv_at hl 1 rfl) ?_
  refine lv_sipush (v := 160) hx hb dX1_hasRoom_1 (by decide) ?_
  refine lv_aload_n hx hb dX1_hasRoom_4 rfl (lv_at hl 0 rfl) ?_
  refine rB_3 hx hb hwX1 hown hK hP 0 (xB) rfl rfl (hts _ (List.mem_of_getElem? (i := 1) rfl)) dX1_hasRoom_5 ?_
  refine lv_isub hx hb dX1_hasRoom_8 ?_
  refine lv_icmp_gt (tgt := 16) hx hb dX1_hasRoom_9 (by decide) (fun hc => ?_) (fun hc => ?_)
  · replace h := zt hc h
    refine lv_iconst (v := 0) hx hb dX1_hasRoom_16 (by decide) ?_
    cases h
    exact z_zret hx hb hr hlk rfl hP hS dX1_hasRoom_17
  · replace h := zf hc h
    refine lv_iconst (v := 1) hx hb dX1_hasRoom_12 (by decide) ?_
    refine lv_goto (tgt := 17) hx hb dX1_hasRoom_13 (by decide) ?_
    cases h
    exact z_zret hx hb hr hlk rfl hP hS dX1_hasRoom_17
end
def rmX2_with : Room := { frames := 0, cells := 0, slots := 0, locals := 0 }
theorem ksX2_with : yX2_with.cls ≠ "java/lang/invoke/MethodHandle" ∧ yX2_with.cls ≠ "java/lang/invoke/VarHandle" ∧ (parseMethodDescriptor yX2_with.desc).map (fun d => d.parameters.length) = some 2 := by decide +kernel
section
variable {p : Program} {l : Launch} {e : Env} {s : State} {m : MethodId} {args : Array Value} {below : List Frame} {meth : Method} {c : Code} {G : zG}  {rr : Int64}
set_option maxRecDepth 20000 in
theorem mX2_with (l : Launch) (G : zG)  {l0 : Int64} {l2 : Int64} {rr : Int64} (h : fX2_with l0 l2 = some rr) : zC l yX2_with wsX2_with rmX2_with [.long l0, .long l2] G [] [] [] (some (.long rr)) := by
  refine z_ofW (cc := cX2_with) (maxL := 6) (ret := some .long) (by decide) rfl (Nat.le_of_ble_eq_true rfl) ?_
  intro p e s m args below meth c C0 hK hN hD hP ls hl
  obtain ⟨hx, hb, hr, hml, hown, hts, hlk⟩ := id C0
  have hS : va_S (zA [] s.heap.size) s.heap s.heap [] := va_S.rf
  replace hl : lv_has ls 6 [(0, .long l0), (2, .long l2)] := hl
  unfold fX2_with at h
  refine lv_lload_n hx hb dX2_with_0 rfl (lv_at hl 0 rfl) ?_
  refine lv_lload_n hx hb dX2_with_1 rfl (lv_at hl 1 rfl) ?_
  refine lv_lxor hx hb dX2_with_2 ?_
  refine lv_ldc2 (v := (-7046029254386353131)) hx hb hown (hts _ (List.mem_of_getElem? (i := 1) rfl)) dX2_with_3 ?_
  refine lv_lmul hx hb dX2_with_6 ?_
  refine lv_lstore (lv' := [(4, .long (((l0 ^^^ l2) * (-7046029254386353131 : Int64)))), (0, .long l0), (2, .long l2)]) hx hb dX2_with_7 hl (by decide) rfl (fun ls hl => ?_)
  refine lv_lload hx hb dX2_with_9 (lv_at hl 0 rfl) ?_
  refine lv_lload hx hb dX2_with_11 (lv_at hl 0 rfl) ?_
  refine lv_bipush (v := 29) hx hb dX2_with_13 (by decide) ?_
  refine lv_lushr (v := (zsr ((l0 ^^^ l2) * (-7046029254386353131 : Int64)) (29 : Int32))) hx hb dX2_with_15 rfl ?_
  refine lv_lxor hx hb dX2_with_16 ?_
  cases h
  exact z_lret hx hb hr hlk hP hS dX2_with_17
end
def rmX2_number : Room := { frames := 0, cells := 0, slots := 0, locals := 0 }
theorem ksX2_number : yX2_number.cls ≠ "java/lang/invoke/MethodHandle" ∧ yX2_number.cls ≠ "java/lang/invoke/VarHandle" ∧ (parseMethodDescriptor yX2_number.desc).map (fun d => d.parameters.length) = some 1 := by decide +kernel
section
variable {p : Program} {l : Launch} {e : Env} {s : State} {m : MethodId} {args : Array Value} {below : List Frame} {meth : Method} {c : Code} {G : zG}  {rr : Int32}
set_option maxRecDepth 20000 in
theorem mX2_number (l : Launch) (G : zG)  {l0 : Int64} {rr : Int32} (h : fX2_number l0 = some rr) : zC l yX2_number wsX2_number rmX2_number [.long l0] G [] [] [] (some (.int rr)) := by
  refine z_ofW (cc := cX2_number) (maxL := 2) (ret := some .int) (by decide) rfl (Nat.le_of_ble_eq_true rfl) ?_
  intro p e s m args below meth c C0 hK hN hD hP ls hl
  obtain ⟨hx, hb, hr, hml, hown, hts, hlk⟩ := id C0
  have hS : va_S (zA [] s.heap.size) s.heap s.heap [] := va_S.rf
  replace hl : lv_has ls 2 [(0, .long l0)] := hl
  unfold fX2_number at h
  refine lv_lload_n hx hb dX2_number_0 rfl (lv_at hl 0 rfl) ?_
  refine lv_iconst (v := 1) hx hb dX2_number_1 (by decide) ?_
  refine lv_lushr (v := (zsr l0 (1 : Int32))) hx hb dX2_number_2 rfl ?_
  refine lv_ldc2 (v := (2039)) hx hb hown (hts _ (List.mem_of_getElem? (i := 1) rfl)) dX2_number_3 ?_
  refine lv_lrem hx hb dX2_number_6 (by decide) ?_
  refine lv_l2i (v := ((zsr l0 (1 : Int32)) - (zsr l0 (1 : Int32)) / (2039 : Int64) * (2039 : Int64)).toInt32) hx hb dX2_number_7 rfl ?_
  cases h
  exact z_iret hx hb hr hlk hP hS dX2_number_8
end
def rmX2_challenge : Room := { frames := 1, cells := 0, slots := 0, locals := 25 }
theorem ksX2_challenge : yX2_challenge.cls ≠ "java/lang/invoke/MethodHandle" ∧ yX2_challenge.cls ≠ "java/lang/invoke/VarHandle" ∧ (parseMethodDescriptor yX2_challenge.desc).map (fun d => d.parameters.length) = some 5 := by decide +kernel
section
variable {p : Program} {l : Launch} {e : Env} {s : State} {m : MethodId} {args : Array Value} {below : List Frame} {meth : Method} {c : Code} {G : zG}  {rr : Int32}
set_option maxRecDepth 20000 in
theorem mX2_challenge (l : Launch) (G : zG)  {l0 : Int32} {l1 : Int32} {l2 : Int32} {l3 : Int32} {l4 : Int32} {rr : Int32} (h : fX2_challenge l0 l1 l2 l3 l4 = some rr) : zC l yX2_challenge wsX2_challenge rmX2_challenge [.int l0, .int l1, .int l2, .int l3, .int l4] G [] [] [] (some (.int rr)) := by
  refine z_ofW (cc := cX2_challenge) (maxL := 5) (ret := some .int) (by decide) rfl (Nat.le_of_ble_eq_true rfl) ?_
  intro p e s m args below meth c C0 hK hN hD hP ls hl
  obtain ⟨hx, hb, hr, hml, hown, hts, hlk⟩ := id C0
  have hS : va_S (zA [] s.heap.size) s.heap s.heap [] := va_S.rf
  replace hl : lv_has ls 5 [(0, .int l0), (1, .int l1), (2, .int l2), (3, .int l3), (4, .int l4)] := hl
  unfold fX2_challenge at h
  refine lv_lconst (v := 0) hx hb dX2_challenge_0 rfl ?_
  refine lv_iload_n hx hb dX2_challenge_1 rfl (lv_at hl 0 rfl) ?_
  refine lv_i2l (v := l0.toInt64) hx hb dX2_challenge_2 rfl ?_
  obtain ⟨r_1, hg, h⟩ := zb1_e h
  refine z_callS (As := [.long ((0 : Int64)), .long ((l0.toInt64))]) (rest := []) ⟨hx, hb, hml, hown, hts⟩ (mX2_with l G  hg) (va_cwS 2 hts gX2_challenge_X2_with rfl rfl rfl ksX2_with ⟨Nat.le_of_ble_eq_true rfl, Nat.le_of_ble_eq_true rfl⟩) hP hD hK hN hS (Nat.le_refl _) [] rfl rfl rfl rfl rfl hl.1 rfl (Nat.le_of_ble_eq_true rfl) dX2_challenge_3 ⟨Nat.zero_le _, Nat.zero_le _⟩ (fun H locs hP hS => ?_)
  replace hP : zP G [] [] H := hP
  refine lv_iload_n hx hb dX2_challenge_6 rfl (lv_at hl 1 rfl) ?_
  refine lv_i2l (v := l1.toInt64) hx hb dX2_challenge_7 rfl ?_
  obtain ⟨r_2, hg, h⟩ := zb1_e h
  refine z_callS (As := [.long r_1, .long ((l1.toInt64))]) (rest := []) ⟨hx, hb, hml, hown, hts⟩ (mX2_with l G  hg) (va_cwS 2 hts gX2_challenge_X2_with rfl rfl rfl ksX2_with ⟨Nat.le_of_ble_eq_true rfl, Nat.le_of_ble_eq_true rfl⟩) hP hD hK hN hS (Nat.le_refl _) [] rfl rfl rfl rfl rfl hl.1 rfl (Nat.le_of_ble_eq_true rfl) dX2_challenge_8 ⟨Nat.zero_le _, Nat.zero_le _⟩ (fun H locs hP hS => ?_)
  replace hP : zP G [] [] H := hP
  refine lv_iload_n hx hb dX2_challenge_11 rfl (lv_at hl 2 rfl) ?_
  refine lv_i2l (v := l2.toInt64) hx hb dX2_challenge_12 rfl ?_
  obtain ⟨r_3, hg, h⟩ := zb1_e h
  refine z_callS (As := [.long r_2, .long ((l2.toInt64))]) (rest := []) ⟨hx, hb, hml, hown, hts⟩ (mX2_with l G  hg) (va_cwS 2 hts gX2_challenge_X2_with rfl rfl rfl ksX2_with ⟨Nat.le_of_ble_eq_true rfl, Nat.le_of_ble_eq_true rfl⟩) hP hD hK hN hS (Nat.le_refl _) [] rfl rfl rfl rfl rfl hl.1 rfl (Nat.le_of_ble_eq_true rfl) dX2_challenge_13 ⟨Nat.zero_le _, Nat.zero_le _⟩ (fun H locs hP hS => ?_)
  replace hP : zP G [] [] H := hP
  refine lv_iload_n hx hb dX2_challenge_16 rfl (lv_at hl 3 rfl) ?_
  refine lv_i2l (v := l3.toInt64) hx hb dX2_challenge_17 rfl ?_
  obtain ⟨r_4, hg, h⟩ := zb1_e h
  refine z_callS (As := [.long r_3, .long ((l3.toInt64))]) (rest := []) ⟨hx, hb, hml, hown, hts⟩ (mX2_with l G  hg) (va_cwS 2 hts gX2_challenge_X2_with rfl rfl rfl ksX2_with ⟨Nat.le_of_ble_eq_true rfl, Nat.le_of_ble_eq_true rfl⟩) hP hD hK hN hS (Nat.le_refl _) [] rfl rfl rfl rfl rfl hl.1 rfl (Nat.le_of_ble_eq_true rfl) dX2_challenge_18 ⟨Nat.zero_le _, Nat.zero_le _⟩ (fun H locs hP hS => ?_)
  replace hP : zP G [] [] H := hP
  refine lv_iload hx hb dX2_challenge_21 (lv_at hl 4 rfl) ?_
  refine lv_i2l (v := l4.toInt64) hx hb dX2_challenge_23 rfl ?_
  obtain ⟨r_5, hg, h⟩ := zb1_e h
  refine z_callS (As := [.long r_4, .long ((l4.toInt64))]) (rest := []) ⟨hx, hb, hml, hown, hts⟩ (mX2_with l G  hg) (va_cwS 2 hts gX2_challenge_X2_with rfl rfl rfl ksX2_with ⟨Nat.le_of_ble_eq_true rfl, Nat.le_of_ble_eq_true rfl⟩) hP hD hK hN hS (Nat.le_refl _) [] rfl rfl rfl rfl rfl hl.1 rfl (Nat.le_of_ble_eq_true rfl) dX2_challenge_24 ⟨Nat.zero_le _, Nat.zero_le _⟩ (fun H locs hP hS => ?_)
  replace hP : zP G [] [] H := hP
  obtain ⟨r_6, hg, h⟩ := zb1_e h
  refine z_callS (As := [.long r_5]) (rest := []) ⟨hx, hb, hml, hown, hts⟩ (mX2_number l G  hg) (va_cwS 1 hts gX2_challenge_X2_number rfl rfl rfl ksX2_number ⟨Nat.le_of_ble_eq_true rfl, Nat.le_of_ble_eq_true rfl⟩) hP hD hK hN hS (Nat.le_refl _) [] rfl rfl rfl rfl rfl hl.1 rfl (Nat.le_of_ble_eq_true rfl) dX2_challenge_27 ⟨Nat.zero_le _, Nat.zero_le _⟩ (fun H locs hP hS => ?_)
  replace hP : zP G [] [] H := hP
  cases h
  exact z_iret hx hb hr hlk hP hS dX2_challenge_30
end
def rmX3_inverse : Room := { frames := 1, cells := 0, slots := 0, locals := 24 }
theorem ksX3_inverse : yX3_inverse.cls ≠ "java/lang/invoke/MethodHandle" ∧ yX3_inverse.cls ≠ "java/lang/invoke/VarHandle" ∧ (parseMethodDescriptor yX3_inverse.desc).map (fun d => d.parameters.length) = some 1 := by decide +kernel
section
variable {p : Program} {l : Launch} {e : Env} {s : State} {m : MethodId} {args : Array Value} {below : List Frame} {meth : Method} {c : Code} {G : zG}  {rr : Int32}
set_option maxRecDepth 20000 in
theorem mX3_inverse (l : Launch) (G : zG)  {l0 : Int32} {rr : Int32} (h : fX3_inverse l0 = some rr) : zC l yX3_inverse wsX3_inverse rmX3_inverse [.int l0] G [] [] [] (some (.int rr)) := by
  refine z_ofW (cc := cX3_inverse) (maxL := 1) (ret := some .int) (by decide) rfl (Nat.le_of_ble_eq_true rfl) ?_
  intro p e s m args below meth c C0 hK hN hD hP ls hl
  obtain ⟨hx, hb, hr, hml, hown, hts, hlk⟩ := id C0
  have hS : va_S (zA [] s.heap.size) s.heap s.heap [] := va_S.rf
  replace hl : lv_has ls 1 [(0, .int l0)] := hl
  unfold fX3_inverse at h
  refine lv_iload_n hx hb dX3_inverse_0 rfl (lv_at hl 0 rfl) ?_
  refine lv_sipush (v := 2038) hx hb dX3_inverse_1 (by decide) ?_
  obtain ⟨r_1, hg, h⟩ := zb1_e h
  refine z_callS (As := [.int l0, .int ((2038 : Int32))]) (rest := []) ⟨hx, hb, hml, hown, hts⟩ (mX3_power l G  hg) (va_cwS 2 hts gX3_inverse_X3_power rfl rfl rfl ksX3_power ⟨Nat.le_of_ble_eq_true rfl, Nat.le_of_ble_eq_true rfl⟩) hP hD hK hN hS (Nat.le_refl _) [] rfl rfl rfl rfl rfl hl.1 rfl (Nat.le_of_ble_eq_true rfl) dX3_inverse_4 ⟨Nat.zero_le _, Nat.zero_le _⟩ (fun H locs hP hS => ?_)
  replace hP : zP G [] [] H := hP
  cases h
  exact z_iret hx hb hr hlk hP hS dX3_inverse_7
end
def rmX1_has : Room := { frames := 0, cells := 0, slots := 0, locals := 0 }
theorem kvX1_has : yX1_has.cls = RX1 ∧ yX1_has.cls ≠ "java/lang/invoke/MethodHandle" ∧ yX1_has.cls ≠ "java/lang/invoke/VarHandle" ∧ (parseMethodDescriptor yX1_has.desc).map (fun d => d.parameters.length) = some 1 := by decide +kernel
section
variable {p : Program} {l : Launch} {e : Env} {s : State} {m : MethodId} {args : Array Value} {below : List Frame} {meth : Method} {c : Code} {G : zG} {xB : Nat → Nat} {rr : Int32}
set_option maxRecDepth 20000 in
theorem mX1_has (l : Launch) (G : zG) (xB : Nat → Nat) {uB : zSt} {l1 : Int32} {rr : Int32} (h : fX1_has uB l1 = some rr) : zC l yX1_has wsX1_has rmX1_has [.ref (xB 0), .int l1] G [shB G xB] [uB] [uB] (some (.int rr)) := by
  refine z_ofW (cc := cX1_has) (maxL := 2) (ret := some .boolean) (by decide) rfl (Nat.le_of_ble_eq_true rfl) ?_
  intro p e s m args below meth c C0 hK hN hD hP ls hl
  obtain ⟨hx, hb, hr, hml, hown, hts, hlk⟩ := id C0
  have hS : va_S (zA [shB G xB] s.heap.size) s.heap s.heap [] := va_S.rf
  replace hl : lv_has ls 2 [(0, .ref (xB 0)), (1, .int l1)] := hl
  have hwX1 : ∀ w ∈ wsX10, w.before args s = true := fun w h => hts w (List.mem_cons_of_mem _ (List.mem_append_right _ h))
  unfold fX1_has at h
  refine lv_iload_n hx hb dX1_has_0 rfl (lv_at hl 1 rfl) ?_
  refine lv_if_lt (tgt := 16) hx hb dX1_has_1 (by decide) (fun hc => ?_) (fun hc => ?_)
  · replace h := zt hc h
    refine lv_iconst (v := 0) hx hb dX1_has_16 (by decide) ?_
    cases h
    exact z_zret hx hb hr hlk rfl hP hS dX1_has_17
  · replace h := zf hc h
    refine lv_iload_n hx hb dX1_has_4 rfl (lv_at hl 1 rfl) ?_
    refine lv_aload_n hx hb dX1_has_5 rfl (lv_at hl 0 rfl) ?_
    refine rB_3 hx hb hwX1 hown hK hP 0 (xB) rfl rfl (hts _ (List.mem_of_getElem? (i := 1) rfl)) dX1_has_6 ?_
    refine lv_icmp_ge (tgt := 16) hx hb dX1_has_9 (by decide) (fun hc => ?_) (fun hc => ?_)
    · replace h := zt hc h
      refine lv_iconst (v := 0) hx hb dX1_has_16 (by decide) ?_
      cases h
      exact z_zret hx hb hr hlk rfl hP hS dX1_has_17
    · replace h := zf hc h
      refine lv_iconst (v := 1) hx hb dX1_has_12 (by decide) ?_
      refine lv_goto (tgt := 17) hx hb dX1_has_13 (by decide) ?_
      cases h
      exact z_zret hx hb hr hlk rfl hP hS dX1_has_17
end
def rmX1_number : Room := { frames := 0, cells := 0, slots := 0, locals := 0 }
theorem kvX1_number : yX1_number.cls = RX1 ∧ yX1_number.cls ≠ "java/lang/invoke/MethodHandle" ∧ yX1_number.cls ≠ "java/lang/invoke/VarHandle" ∧ (parseMethodDescriptor yX1_number.desc).map (fun d => d.parameters.length) = some 2 := by decide +kernel
section
variable {p : Program} {l : Launch} {e : Env} {s : State} {m : MethodId} {args : Array Value} {below : List Frame} {meth : Method} {c : Code} {G : zG} {xB : Nat → Nat} {rr : Int32}
set_option maxRecDepth 20000 in
theorem mX1_number (l : Launch) (G : zG) (xB : Nat → Nat) {uB : zSt} {l1 : Int32} {l2 : Int32} {rr : Int32} (h : fX1_number uB l1 l2 = some rr) : zC l yX1_number wsX1_number rmX1_number [.ref (xB 0), .int l1, .int l2] G [shB G xB] [uB] [uB] (some (.int rr)) := by
  refine z_ofW (cc := cX1_number) (maxL := 3) (ret := some .int) (by decide) rfl (Nat.le_of_ble_eq_true rfl) ?_
  intro p e s m args below meth c C0 hK hN hD hP ls hl
  obtain ⟨hx, hb, hr, hml, hown, hts, hlk⟩ := id C0
  have hS : va_S (zA [shB G xB] s.heap.size) s.heap s.heap [] := va_S.rf
  replace hl : lv_has ls 3 [(0, .ref (xB 0)), (1, .int l1), (2, .int l2)] := hl
  have hwX1 : ∀ w ∈ wsX10, w.before args s = true := fun w h => hts w (List.mem_cons_of_mem _ (List.mem_append_right _ h))
  unfold fX1_number at h
  refine lv_aload_n hx hb dX1_number_0 rfl (lv_at hl 0 rfl) ?_
  refine rB_1 hx hb hwX1 hown hK hP 0 (xB) rfl rfl (hts _ (List.mem_of_getElem? (i := 1) rfl)) dX1_number_1 ?_
  refine lv_iload_n hx hb dX1_number_4 rfl (lv_at hl 1 rfl) ?_
  refine lv_bipush (v := 6) hx hb dX1_number_5 (by decide) ?_
  refine lv_imul hx hb dX1_number_7 ?_
  refine lv_iload_n hx hb dX1_number_8 rfl (lv_at hl 2 rfl) ?_
  refine lv_iadd hx hb dX1_number_9 ?_
  obtain ⟨hi, h⟩ := zin_e h
  refine aB_1 hx hb hK hP 0 (xB) rfl rfl hi rfl dX1_number_10 ?_
  cases h
  exact z_iret hx hb hr hlk hP hS dX1_number_11
end
def rmX1_kind : Room := { frames := 0, cells := 0, slots := 0, locals := 0 }
theorem kvX1_kind : yX1_kind.cls = RX1 ∧ yX1_kind.cls ≠ "java/lang/invoke/MethodHandle" ∧ yX1_kind.cls ≠ "java/lang/invoke/VarHandle" ∧ (parseMethodDescriptor yX1_kind.desc).map (fun d => d.parameters.length) = some 1 := by decide +kernel
section
variable {p : Program} {l : Launch} {e : Env} {s : State} {m : MethodId} {args : Array Value} {below : List Frame} {meth : Method} {c : Code} {G : zG} {xB : Nat → Nat} {rr : Int32}
set_option maxRecDepth 20000 in
theorem mX1_kind (l : Launch) (G : zG) (xB : Nat → Nat) {uB : zSt} {l1 : Int32} {rr : Int32} (h : fX1_kind uB l1 = some rr) : zC l yX1_kind wsX1_kind rmX1_kind [.ref (xB 0), .int l1] G [shB G xB] [uB] [uB] (some (.int rr)) := by
  refine z_ofW (cc := cX1_kind) (maxL := 2) (ret := some .int) (by decide) rfl (Nat.le_of_ble_eq_true rfl) ?_
  intro p e s m args below meth c C0 hK hN hD hP ls hl
  obtain ⟨hx, hb, hr, hml, hown, hts, hlk⟩ := id C0
  have hS : va_S (zA [shB G xB] s.heap.size) s.heap s.heap [] := va_S.rf
  replace hl : lv_has ls 2 [(0, .ref (xB 0)), (1, .int l1)] := hl
  have hwX1 : ∀ w ∈ wsX10, w.before args s = true := fun w h => hts w (List.mem_cons_of_mem _ (List.mem_append_right _ h))
  unfold fX1_kind at h
  refine lv_aload_n hx hb dX1_kind_0 rfl (lv_at hl 0 rfl) ?_
  refine rB_0 hx hb hwX1 hown hK hP 0 (xB) rfl rfl (hts _ (List.mem_of_getElem? (i := 1) rfl)) dX1_kind_1 ?_
  refine lv_iload_n hx hb dX1_kind_4 rfl (lv_at hl 1 rfl) ?_
  obtain ⟨hi, h⟩ := zin_e h
  refine aB_0 hx hb hK hP 0 (xB) rfl rfl hi rfl dX1_kind_5 ?_
  cases h
  exact z_iret hx hb hr hlk hP hS dX1_kind_6
end
def rmX3_isElement : Room := { frames := 1, cells := 0, slots := 0, locals := 24 }
theorem ksX3_isElement : yX3_isElement.cls ≠ "java/lang/invoke/MethodHandle" ∧ yX3_isElement.cls ≠ "java/lang/invoke/VarHandle" ∧ (parseMethodDescriptor yX3_isElement.desc).map (fun d => d.parameters.length) = some 1 := by decide +kernel
section
variable {p : Program} {l : Launch} {e : Env} {s : State} {m : MethodId} {args : Array Value} {below : List Frame} {meth : Method} {c : Code} {G : zG}  {rr : Int32}
set_option maxRecDepth 20000 in
theorem mX3_isElement (l : Launch) (G : zG)  {l0 : Int32} {rr : Int32} (h : fX3_isElement l0 = some rr) : zC l yX3_isElement wsX3_isElement rmX3_isElement [.int l0] G [] [] [] (some (.int rr)) := by
  refine z_ofW (cc := cX3_isElement) (maxL := 1) (ret := some .boolean) (by decide) rfl (Nat.le_of_ble_eq_true rfl) ?_
  intro p e s m args below meth c C0 hK hN hD hP ls hl
  obtain ⟨hx, hb, hr, hml, hown, hts, hlk⟩ := id C0
  have hS : va_S (zA [] s.heap.size) s.heap s.heap [] := va_S.rf
  replace hl : lv_has ls 1 [(0, .int l0)] := hl
  unfold fX3_isElement at h
  refine lv_iload_n hx hb dX3_isElement_0 rfl (lv_at hl 0 rfl) ?_
  refine lv_iconst (v := 1) hx hb dX3_isElement_1 (by decide) ?_
  refine lv_icmp_lt (tgt := 27) hx hb dX3_isElement_2 (by decide) (fun hc => ?_) (fun hc => ?_)
  · replace h := zt hc h
    refine lv_iconst (v := 0) hx hb dX3_isElement_27 (by decide) ?_
    cases h
    exact z_zret hx hb hr hlk rfl hP hS dX3_isElement_28
  · replace h := zf hc h
    refine lv_iload_n hx hb dX3_isElement_5 rfl (lv_at hl 0 rfl) ?_
    refine lv_sipush (v := 4079) hx hb dX3_isElement_6 (by decide) ?_
    refine lv_icmp_ge (tgt := 27) hx hb dX3_isElement_9 (by decide) (fun hc => ?_) (fun hc => ?_)
    · replace h := zt hc h
      refine lv_iconst (v := 0) hx hb dX3_isElement_27 (by decide) ?_
      cases h
      exact z_zret hx hb hr hlk rfl hP hS dX3_isElement_28
    · replace h := zf hc h
      refine lv_iload_n hx hb dX3_isElement_12 rfl (lv_at hl 0 rfl) ?_
      refine lv_sipush (v := 2039) hx hb dX3_isElement_13 (by decide) ?_
      obtain ⟨r_1, hg, h⟩ := zb1_e h
      refine z_callS (As := [.int l0, .int ((2039 : Int32))]) (rest := []) ⟨hx, hb, hml, hown, hts⟩ (mX3_power l G  hg) (va_cwS 2 hts gX3_isElement_X3_power rfl rfl rfl ksX3_power ⟨Nat.le_of_ble_eq_true rfl, Nat.le_of_ble_eq_true rfl⟩) hP hD hK hN hS (Nat.le_refl _) [] rfl rfl rfl rfl rfl hl.1 rfl (Nat.le_of_ble_eq_true rfl) dX3_isElement_16 ⟨Nat.zero_le _, Nat.zero_le _⟩ (fun H locs hP hS => ?_)
      replace hP : zP G [] [] H := hP
      refine lv_iconst (v := 1) hx hb dX3_isElement_19 (by decide) ?_
      refine lv_icmp_ne (tgt := 27) hx hb dX3_isElement_20 (by decide) (fun hc => ?_) (fun hc => ?_)
      · replace h := zf hc h
        refine lv_iconst (v := 0) hx hb dX3_isElement_27 (by decide) ?_
        cases h
        exact z_zret hx hb hr hlk rfl hP hS dX3_isElement_28
      · replace h := zt hc h
        refine lv_iconst (v := 1) hx hb dX3_isElement_23 (by decide) ?_
        refine lv_goto (tgt := 28) hx hb dX3_isElement_24 (by decide) ?_
        cases h
        exact z_zret hx hb hr hlk rfl hP hS dX3_isElement_28
end
def rmX2_ended : Room := { frames := 0, cells := 0, slots := 0, locals := 0 }
theorem ksX2_ended : yX2_ended.cls ≠ "java/lang/invoke/MethodHandle" ∧ yX2_ended.cls ≠ "java/lang/invoke/VarHandle" ∧ (parseMethodDescriptor yX2_ended.desc).map (fun d => d.parameters.length) = some 1 := by decide +kernel
section
variable {p : Program} {l : Launch} {e : Env} {s : State} {m : MethodId} {args : Array Value} {below : List Frame} {meth : Method} {c : Code} {G : zG}  {rr : Int64}
set_option maxRecDepth 20000 in
theorem mX2_ended (l : Launch) (G : zG)  {l0 : Int64} {rr : Int64} (h : fX2_ended l0 = some rr) : zC l yX2_ended wsX2_ended rmX2_ended [.long l0] G [] [] [] (some (.long rr)) := by
  refine z_ofW (cc := cX2_ended) (maxL := 2) (ret := some .long) (by decide) rfl (Nat.le_of_ble_eq_true rfl) ?_
  intro p e s m args below meth c C0 hK hN hD hP ls hl
  obtain ⟨hx, hb, hr, hml, hown, hts, hlk⟩ := id C0
  have hS : va_S (zA [] s.heap.size) s.heap s.heap [] := va_S.rf
  replace hl : lv_has ls 2 [(0, .long l0)] := hl
  unfold fX2_ended at h
  refine lv_lload_n hx hb dX2_ended_0 rfl (lv_at hl 0 rfl) ?_
  refine lv_iconst (v := 1) hx hb dX2_ended_1 (by decide) ?_
  refine lv_lushr (v := (zsr l0 (1 : Int32))) hx hb dX2_ended_2 rfl ?_
  cases h
  exact z_lret hx hb hr hlk hP hS dX2_ended_3
end
def rmX1_leafOf : Room := { frames := 1, cells := 0, slots := 0, locals := 25 }
theorem kvX1_leafOf : yX1_leafOf.cls = RX1 ∧ yX1_leafOf.cls ≠ "java/lang/invoke/MethodHandle" ∧ yX1_leafOf.cls ≠ "java/lang/invoke/VarHandle" ∧ (parseMethodDescriptor yX1_leafOf.desc).map (fun d => d.parameters.length) = some 1 := by decide +kernel
section
variable {p : Program} {l : Launch} {e : Env} {s : State} {m : MethodId} {args : Array Value} {below : List Frame} {meth : Method} {c : Code} {G : zG} {xB : Nat → Nat} {rr : Int64}
set_option maxRecDepth 20000 in
theorem tlX1_leafOf_18 (C0 : zCtx p s m args meth c cX1_leafOf RX1 wsX1_leafOf 5 (some .long)) (hK : zK G s) (hN : zN s) (hD : zD [shB G xB])  : ∀ (n : Nat), ∀ (uB : zSt) (l1 : Int32) (l2 : Int64) (l4 : Int32), lX1_leafOf_18  n uB l1 l2 l4 = some rr → ∀ (H : Heap) (locs : List Loc), zP G [shB G xB] [uB] H → va_S (zA [shB G xB] s.heap.size) s.heap H locs → ∀ ls : Array Slot, lv_has ls 5 [(0, .ref (xB 0)), (1, .int l1), (2, .long l2), (4, .int l4)] → W p l e rmX1_leafOf s m args below meth c H locs 0 0 (MQ below (zQ G [shB G xB] [uB] (zA [shB G xB] s.heap.size) (some (.long rr))) args s 0 0 (zA [shB G xB] s.heap.size)) (F0 m 18 ls []) := by
  obtain ⟨hx, hb, hr, hml, hown, hts, hlk⟩ := id C0
  intro n
  induction n with
  | zero => intro uB l1 l2 l4 h; exact absurd h (fun q => nomatch q)
  | succ n K18 =>
    intro uB l1 l2 l4 h H locs hP hS ls hl
    replace h : bX1_leafOf_18  (lX1_leafOf_18  n) uB l1 l2 l4 = some rr := h
    unfold bX1_leafOf_18 at h
    refine lv_iload hx hb dX1_leafOf_18 (lv_at hl 3 rfl) ?_
    refine lv_bipush (v := 6) hx hb dX1_leafOf_20 (by decide) ?_
    refine lv_icmp_ge (tgt := 44) hx hb dX1_leafOf_22 (by decide) (fun hc => ?_) (fun hc => ?_)
    · replace h := zt hc h
      refine lv_lload_n hx hb dX1_leafOf_44 rfl (lv_at hl 2 rfl) ?_
      obtain ⟨r_1, hg, h⟩ := zb1_e h
      refine z_callS (As := [.long l2]) (rest := []) ⟨hx, hb, hml, hown, hts⟩ (mX2_ended l G  hg) (va_cwS 1 hts gX1_leafOf_X2_ended rfl rfl rfl ksX2_ended ⟨Nat.le_of_ble_eq_true rfl, Nat.le_of_ble_eq_true rfl⟩) hP hD hK hN hS (Nat.le_refl _) [] rfl rfl rfl rfl rfl hl.1 rfl (Nat.le_of_ble_eq_true rfl) dX1_leafOf_45 ⟨Nat.zero_le _, Nat.zero_le _⟩ (fun H locs hP hS => ?_)
      replace hP : zP G [shB G xB] [uB] H := hP
      cases h
      exact z_lret hx hb hr hlk hP hS dX1_leafOf_48
    · replace h := zf hc h
      refine lv_lload_n hx hb dX1_leafOf_25 rfl (lv_at hl 2 rfl) ?_
      refine lv_aload_n hx hb dX1_leafOf_26 rfl (lv_at hl 0 rfl) ?_
      refine lv_iload_n hx hb dX1_leafOf_27 rfl (lv_at hl 1 rfl) ?_
      refine lv_iload hx hb dX1_leafOf_28 (lv_at hl 3 rfl) ?_
      obtain ⟨r_2, hg, h⟩ := zb1_e h
      refine z_callV (As := [.int l1, .int l4]) (rest := [.long l2]) (i := 0) ⟨hx, hb, hml, hown, hts⟩ (mX1_number l G (xB) hg) (cwV 2 hts gX1_leafOf_X1_number rfl rfl rfl kvX1_number ⟨Nat.le_of_ble_eq_true rfl, Nat.le_of_ble_eq_true rfl⟩) rfl hP hD hK hN hS (Nat.le_refl _) [0] rfl rfl rfl rfl 0 rfl rfl rfl rfl rfl hl.1 rfl (Nat.le_of_ble_eq_true rfl) dX1_leafOf_30 ⟨Nat.zero_le _, Nat.zero_le _⟩ (fun H locs hP hS => ?_)
      replace hP : zP G [shB G xB] [uB] H := hP
      refine lv_i2l (v := r_2.toInt64) hx hb dX1_leafOf_33 rfl ?_
      obtain ⟨r_3, hg, h⟩ := zb1_e h
      refine z_callS (As := [.long l2, .long ((r_2.toInt64))]) (rest := []) ⟨hx, hb, hml, hown, hts⟩ (mX2_with l G  hg) (va_cwS 2 hts gX1_leafOf_X2_with rfl rfl rfl ksX2_with ⟨Nat.le_of_ble_eq_true rfl, Nat.le_of_ble_eq_true rfl⟩) hP hD hK hN hS (Nat.le_refl _) [] rfl rfl rfl rfl rfl hl.1 rfl (Nat.le_of_ble_eq_true rfl) dX1_leafOf_34 ⟨Nat.zero_le _, Nat.zero_le _⟩ (fun H locs hP hS => ?_)
      replace hP : zP G [shB G xB] [uB] H := hP
      refine lv_lstore_n (lv' := [(2, .long r_3), (0, .ref (xB 0)), (1, .int l1), (4, .int l4)]) hx hb dX1_leafOf_37 rfl hl (by decide) rfl (fun ls hl => ?_)
      refine lv_iinc (v := (l4 + (1 : Int32))) (lv' := [(4, .int ((l4 + (1 : Int32)))), (2, .long r_3), (0, .ref (xB 0)), (1, .int l1)]) hx hb dX1_leafOf_38 hl (k := 3) rfl rfl (by decide) rfl (fun ls hl => ?_)
      refine lv_goto (tgt := 18) hx hb dX1_leafOf_41 (by decide) ?_
      exact K18 _ _ _ _ h _ _ hP hS _ (lv_sub hl [2, 3, 1, 0] rfl)
set_option maxRecDepth 20000 in
theorem mX1_leafOf (l : Launch) (G : zG) (xB : Nat → Nat) {uB : zSt} {l1 : Int32} {rr : Int64} (h : fX1_leafOf uB l1 = some rr) : zC l yX1_leafOf wsX1_leafOf rmX1_leafOf [.ref (xB 0), .int l1] G [shB G xB] [uB] [uB] (some (.long rr)) := by
  refine z_ofW (cc := cX1_leafOf) (maxL := 5) (ret := some .long) (by decide) rfl (Nat.le_of_ble_eq_true rfl) ?_
  intro p e s m args below meth c C0 hK hN hD hP ls hl
  obtain ⟨hx, hb, hr, hml, hown, hts, hlk⟩ := id C0
  have hS : va_S (zA [shB G xB] s.heap.size) s.heap s.heap [] := va_S.rf
  replace hl : lv_has ls 5 [(0, .ref (xB 0)), (1, .int l1)] := hl
  unfold fX1_leafOf at h
  refine lv_lconst (v := 0) hx hb dX1_leafOf_0 rfl ?_
  refine lv_lconst (v := 0) hx hb dX1_leafOf_1 rfl ?_
  obtain ⟨r_4, hg, h⟩ := zb1_e h
  refine z_callS (As := [.long ((0 : Int64)), .long ((0 : Int64))]) (rest := []) ⟨hx, hb, hml, hown, hts⟩ (mX2_with l G  hg) (va_cwS 2 hts gX1_leafOf_X2_with rfl rfl rfl ksX2_with ⟨Nat.le_of_ble_eq_true rfl, Nat.le_of_ble_eq_true rfl⟩) hP hD hK hN hS (Nat.le_refl _) [] rfl rfl rfl rfl rfl hl.1 rfl (Nat.le_of_ble_eq_true rfl) dX1_leafOf_2 ⟨Nat.zero_le _, Nat.zero_le _⟩ (fun H locs hP hS => ?_)
  replace hP : zP G [shB G xB] [uB] H := hP
  refine lv_aload_n hx hb dX1_leafOf_5 rfl (lv_at hl 0 rfl) ?_
  refine lv_iload_n hx hb dX1_leafOf_6 rfl (lv_at hl 1 rfl) ?_
  obtain ⟨r_5, hg, h⟩ := zb1_e h
  refine z_callV (As := [.int l1]) (rest := [.long r_4]) (i := 0) ⟨hx, hb, hml, hown, hts⟩ (mX1_kind l G (xB) hg) (cwV 1 hts gX1_leafOf_X1_kind rfl rfl rfl kvX1_kind ⟨Nat.le_of_ble_eq_true rfl, Nat.le_of_ble_eq_true rfl⟩) rfl hP hD hK hN hS (Nat.le_refl _) [0] rfl rfl rfl rfl 0 rfl rfl rfl rfl rfl hl.1 rfl (Nat.le_of_ble_eq_true rfl) dX1_leafOf_7 ⟨Nat.zero_le _, Nat.zero_le _⟩ (fun H locs hP hS => ?_)
  replace hP : zP G [shB G xB] [uB] H := hP
  refine lv_i2l (v := r_5.toInt64) hx hb dX1_leafOf_10 rfl ?_
  obtain ⟨r_6, hg, h⟩ := zb1_e h
  refine z_callS (As := [.long r_4, .long ((r_5.toInt64))]) (rest := []) ⟨hx, hb, hml, hown, hts⟩ (mX2_with l G  hg) (va_cwS 2 hts gX1_leafOf_X2_with rfl rfl rfl ksX2_with ⟨Nat.le_of_ble_eq_true rfl, Nat.le_of_ble_eq_true rfl⟩) hP hD hK hN hS (Nat.le_refl _) [] rfl rfl rfl rfl rfl hl.1 rfl (Nat.le_of_ble_eq_true rfl) dX1_leafOf_11 ⟨Nat.zero_le _, Nat.zero_le _⟩ (fun H locs hP hS => ?_)
  replace hP : zP G [shB G xB] [uB] H := hP
  refine lv_lstore_n (lv' := [(2, .long r_6), (0, .ref (xB 0)), (1, .int l1)]) hx hb dX1_leafOf_14 rfl hl (by decide) rfl (fun ls hl => ?_)
  refine lv_iconst (v := 0) hx hb dX1_leafOf_15 (by decide) ?_
  refine lv_istore (lv' := [(4, .int ((0 : Int32))), (2, .long r_6), (0, .ref (xB 0)), (1, .int l1)]) hx hb dX1_leafOf_16 hl (by decide) rfl (fun ls hl => ?_)
  exact tlX1_leafOf_18 C0 hK hN hD  1000 _ _ _ _ h _ _ hP hS _ (lv_sub hl [2, 3, 1, 0] rfl)
end
def rmX2_ofParts : Room := { frames := 1, cells := 0, slots := 0, locals := 25 }
theorem ksX2_ofParts : yX2_ofParts.cls ≠ "java/lang/invoke/MethodHandle" ∧ yX2_ofParts.cls ≠ "java/lang/invoke/VarHandle" ∧ (parseMethodDescriptor yX2_ofParts.desc).map (fun d => d.parameters.length) = some 2 := by decide +kernel
section
variable {p : Program} {l : Launch} {e : Env} {s : State} {m : MethodId} {args : Array Value} {below : List Frame} {meth : Method} {c : Code} {G : zG}  {rr : Int64}
set_option maxRecDepth 20000 in
theorem mX2_ofParts (l : Launch) (G : zG)  {l0 : Int64} {l2 : Int64} {rr : Int64} (h : fX2_ofParts l0 l2 = some rr) : zC l yX2_ofParts wsX2_ofParts rmX2_ofParts [.long l0, .long l2] G [] [] [] (some (.long rr)) := by
  refine z_ofW (cc := cX2_ofParts) (maxL := 4) (ret := some .long) (by decide) rfl (Nat.le_of_ble_eq_true rfl) ?_
  intro p e s m args below meth c C0 hK hN hD hP ls hl
  obtain ⟨hx, hb, hr, hml, hown, hts, hlk⟩ := id C0
  have hS : va_S (zA [] s.heap.size) s.heap s.heap [] := va_S.rf
  replace hl : lv_has ls 4 [(0, .long l0), (2, .long l2)] := hl
  unfold fX2_ofParts at h
  refine lv_lconst (v := 0) hx hb dX2_ofParts_0 rfl ?_
  refine lv_lconst (v := 1) hx hb dX2_ofParts_1 rfl ?_
  obtain ⟨r_1, hg, h⟩ := zb1_e h
  refine z_callS (As := [.long ((0 : Int64)), .long ((1 : Int64))]) (rest := []) ⟨hx, hb, hml, hown, hts⟩ (mX2_with l G  hg) (va_cwS 2 hts gX2_ofParts_X2_with rfl rfl rfl ksX2_with ⟨Nat.le_of_ble_eq_true rfl, Nat.le_of_ble_eq_true rfl⟩) hP hD hK hN hS (Nat.le_refl _) [] rfl rfl rfl rfl rfl hl.1 rfl (Nat.le_of_ble_eq_true rfl) dX2_ofParts_2 ⟨Nat.zero_le _, Nat.zero_le _⟩ (fun H locs hP hS => ?_)
  replace hP : zP G [] [] H := hP
  refine lv_lload_n hx hb dX2_ofParts_5 rfl (lv_at hl 0 rfl) ?_
  obtain ⟨r_2, hg, h⟩ := zb1_e h
  refine z_callS (As := [.long r_1, .long l0]) (rest := []) ⟨hx, hb, hml, hown, hts⟩ (mX2_with l G  hg) (va_cwS 2 hts gX2_ofParts_X2_with rfl rfl rfl ksX2_with ⟨Nat.le_of_ble_eq_true rfl, Nat.le_of_ble_eq_true rfl⟩) hP hD hK hN hS (Nat.le_refl _) [] rfl rfl rfl rfl rfl hl.1 rfl (Nat.le_of_ble_eq_true rfl) dX2_ofParts_6 ⟨Nat.zero_le _, Nat.zero_le _⟩ (fun H locs hP hS => ?_)
  replace hP : zP G [] [] H := hP
  refine lv_lload_n hx hb dX2_ofParts_9 rfl (lv_at hl 1 rfl) ?_
  obtain ⟨r_3, hg, h⟩ := zb1_e h
  refine z_callS (As := [.long r_2, .long l2]) (rest := []) ⟨hx, hb, hml, hown, hts⟩ (mX2_with l G  hg) (va_cwS 2 hts gX2_ofParts_X2_with rfl rfl rfl ksX2_with ⟨Nat.le_of_ble_eq_true rfl, Nat.le_of_ble_eq_true rfl⟩) hP hD hK hN hS (Nat.le_refl _) [] rfl rfl rfl rfl rfl hl.1 rfl (Nat.le_of_ble_eq_true rfl) dX2_ofParts_10 ⟨Nat.zero_le _, Nat.zero_le _⟩ (fun H locs hP hS => ?_)
  replace hP : zP G [] [] H := hP
  obtain ⟨r_4, hg, h⟩ := zb1_e h
  refine z_callS (As := [.long r_3]) (rest := []) ⟨hx, hb, hml, hown, hts⟩ (mX2_ended l G  hg) (va_cwS 1 hts gX2_ofParts_X2_ended rfl rfl rfl ksX2_ended ⟨Nat.le_of_ble_eq_true rfl, Nat.le_of_ble_eq_true rfl⟩) hP hD hK hN hS (Nat.le_refl _) [] rfl rfl rfl rfl rfl hl.1 rfl (Nat.le_of_ble_eq_true rfl) dX2_ofParts_13 ⟨Nat.zero_le _, Nat.zero_le _⟩ (fun H locs hP hS => ?_)
  replace hP : zP G [] [] H := hP
  cases h
  exact z_lret hx hb hr hlk hP hS dX2_ofParts_16
end
def rmX1_joinNeighbours : Room := { frames := 2, cells := 0, slots := 0, locals := 48 }
theorem kvX1_joinNeighbours : yX1_joinNeighbours.cls = RX1 ∧ yX1_joinNeighbours.cls ≠ "java/lang/invoke/MethodHandle" ∧ yX1_joinNeighbours.cls ≠ "java/lang/invoke/VarHandle" ∧ (parseMethodDescriptor yX1_joinNeighbours.desc).map (fun d => d.parameters.length) = some 1 := by decide +kernel
section
variable {p : Program} {l : Launch} {e : Env} {s : State} {m : MethodId} {args : Array Value} {below : List Frame} {meth : Method} {c : Code} {G : zG} {xB : Nat → Nat} {vB : zSt}
set_option maxRecDepth 20000 in
theorem tlX1_joinNeighbours_2 (C0 : zCtx p s m args meth c cX1_joinNeighbours RX1 wsX1_joinNeighbours 3 none) (hK : zK G s) (hN : zN s) (hD : zD [shB G xB])  : ∀ (n : Nat), ∀ (uB : zSt) (l1 : Int32) (l2 : Int32), lX1_joinNeighbours_2  n uB l1 l2 = some vB → ∀ (H : Heap) (locs : List Loc), zP G [shB G xB] [uB] H → va_S (zA [shB G xB] s.heap.size) s.heap H locs → ∀ ls : Array Slot, lv_has ls 3 [(0, .ref (xB 0)), (1, .int l1), (2, .int l2)] → W p l e rmX1_joinNeighbours s m args below meth c H locs 0 0 (MQ below (zQ G [shB G xB] [vB] (zA [shB G xB] s.heap.size) none) args s 0 0 (zA [shB G xB] s.heap.size)) (F0 m 2 ls []) := by
  obtain ⟨hx, hb, hr, hml, hown, hts, hlk⟩ := id C0
  have hwX1 : ∀ w ∈ wsX10, w.before args s = true := fun w h => hts w (List.mem_cons_of_mem _ (List.mem_append_right _ h))
  intro n
  induction n with
  | zero => intro uB l1 l2 h; exact absurd h (fun q => nomatch q)
  | succ n K2 =>
    intro uB l1 l2 h H locs hP hS ls hl
    replace h : bX1_joinNeighbours_2  (lX1_joinNeighbours_2  n) uB l1 l2 = some vB := h
    unfold bX1_joinNeighbours_2 at h
    refine lv_iload_n hx hb dX1_joinNeighbours_2 rfl (lv_at hl 2 rfl) ?_
    refine lv_iload_n hx hb dX1_joinNeighbours_3 rfl (lv_at hl 1 rfl) ?_
    refine lv_iconst (v := 2) hx hb dX1_joinNeighbours_4 (by decide) ?_
    refine lv_idiv hx hb dX1_joinNeighbours_5 (by decide) ?_
    refine lv_icmp_ge (tgt := 42) hx hb dX1_joinNeighbours_6 (by decide) (fun hc => ?_) (fun hc => ?_)
    · replace h := zt hc h
      refine lv_iload_n hx hb dX1_joinNeighbours_42 rfl (lv_at hl 1 rfl) ?_
      refine lv_iconst (v := 2) hx hb dX1_joinNeighbours_43 (by decide) ?_
      refine lv_irem hx hb dX1_joinNeighbours_44 (by decide) ?_
      refine lv_iconst (v := 1) hx hb dX1_joinNeighbours_45 (by decide) ?_
      refine lv_icmp_ne (tgt := 65) hx hb dX1_joinNeighbours_46 (by decide) (fun hc => ?_) (fun hc => ?_)
      · replace h := zf hc h
        cases h
        exact z_vret hx hb hr hlk hP hS dX1_joinNeighbours_65
      · replace h := zt hc h
        refine lv_aload_n hx hb dX1_joinNeighbours_49 rfl (lv_at hl 0 rfl) ?_
        refine rB_2 hx hb hwX1 hown hK hP 0 (xB) rfl rfl (hts _ (List.mem_of_getElem? (i := 1) rfl)) dX1_joinNeighbours_50 ?_
        refine lv_iload_n hx hb dX1_joinNeighbours_53 rfl (lv_at hl 1 rfl) ?_
        refine lv_iconst (v := 2) hx hb dX1_joinNeighbours_54 (by decide) ?_
        refine lv_idiv hx hb dX1_joinNeighbours_55 (by decide) ?_
        refine lv_aload_n hx hb dX1_joinNeighbours_56 rfl (lv_at hl 0 rfl) ?_
        refine rB_2 hx hb hwX1 hown hK hP 0 (xB) rfl rfl (hts _ (List.mem_of_getElem? (i := 1) rfl)) dX1_joinNeighbours_57 ?_
        refine lv_iload_n hx hb dX1_joinNeighbours_60 rfl (lv_at hl 1 rfl) ?_
        refine lv_iconst (v := 1) hx hb dX1_joinNeighbours_61 (by decide) ?_
        refine lv_isub hx hb dX1_joinNeighbours_62 ?_
        obtain ⟨hi, h⟩ := zin_e h
        refine aB_2 hx hb hK hP 0 (xB) rfl rfl hi rfl dX1_joinNeighbours_63 ?_
        obtain ⟨hi, h⟩ := zin_e h
        refine tB_2 hx hb hK hP hD hS 0 (xB) rfl rfl hi rfl dX1_joinNeighbours_64 (fun H locs hP hS => ?_)
        replace hP : zP G [shB G xB] [(sL uB 2 ((l1 / (2 : Int32))).toNatClampNeg ((gL uB 2 ((l1 - (1 : Int32))).toNatClampNeg)))] H := hP
        cases h
        exact z_vret hx hb hr hlk hP hS dX1_joinNeighbours_65
    · replace h := zf hc h
      refine lv_aload_n hx hb dX1_joinNeighbours_9 rfl (lv_at hl 0 rfl) ?_
      refine rB_2 hx hb hwX1 hown hK hP 0 (xB) rfl rfl (hts _ (List.mem_of_getElem? (i := 1) rfl)) dX1_joinNeighbours_10 ?_
      refine lv_iload_n hx hb dX1_joinNeighbours_13 rfl (lv_at hl 2 rfl) ?_
      refine lv_aload_n hx hb dX1_joinNeighbours_14 rfl (lv_at hl 0 rfl) ?_
      refine rB_2 hx hb hwX1 hown hK hP 0 (xB) rfl rfl (hts _ (List.mem_of_getElem? (i := 1) rfl)) dX1_joinNeighbours_15 ?_
      refine lv_iconst (v := 2) hx hb dX1_joinNeighbours_18 (by decide) ?_
      refine lv_iload_n hx hb dX1_joinNeighbours_19 rfl (lv_at hl 2 rfl) ?_
      refine lv_imul hx hb dX1_joinNeighbours_20 ?_
      obtain ⟨hi, h⟩ := zin_e h
      refine aB_2 hx hb hK hP 0 (xB) rfl rfl hi rfl dX1_joinNeighbours_21 ?_
      refine lv_aload_n hx hb dX1_joinNeighbours_22 rfl (lv_at hl 0 rfl) ?_
      refine rB_2 hx hb hwX1 hown hK hP 0 (xB) rfl rfl (hts _ (List.mem_of_getElem? (i := 1) rfl)) dX1_joinNeighbours_23 ?_
      refine lv_iconst (v := 2) hx hb dX1_joinNeighbours_26 (by decide) ?_
      refine lv_iload_n hx hb dX1_joinNeighbours_27 rfl (lv_at hl 2 rfl) ?_
      refine lv_imul hx hb dX1_joinNeighbours_28 ?_
      refine lv_iconst (v := 1) hx hb dX1_joinNeighbours_29 (by decide) ?_
      refine lv_iadd hx hb dX1_joinNeighbours_30 ?_
      obtain ⟨hi, h⟩ := zin_e h
      refine aB_2 hx hb hK hP 0 (xB) rfl rfl hi rfl dX1_joinNeighbours_31 ?_
      obtain ⟨r_1, hg, h⟩ := zb1_e h
      refine z_callS (As := [.long ((gL uB 2 (((2 : Int32) * l2)).toNatClampNeg)), .long ((gL uB 2 ((((2 : Int32) * l2) + (1 : Int32))).toNatClampNeg))]) (rest := [.int l2, .ref (xB 3)]) ⟨hx, hb, hml, hown, hts⟩ (mX2_ofParts l G  hg) (va_cwS 2 hts gX1_joinNeighbours_X2_ofParts rfl rfl rfl ksX2_ofParts ⟨Nat.le_of_ble_eq_true rfl, Nat.le_of_ble_eq_true rfl⟩) hP hD hK hN hS (Nat.le_refl _) [] rfl rfl rfl rfl rfl hl.1 rfl (Nat.le_of_ble_eq_true rfl) dX1_joinNeighbours_32 ⟨Nat.zero_le _, Nat.zero_le _⟩ (fun H locs hP hS => ?_)
      replace hP : zP G [shB G xB] [uB] H := hP
      obtain ⟨hi, h⟩ := zin_e h
      refine tB_2 hx hb hK hP hD hS 0 (xB) rfl rfl hi rfl dX1_joinNeighbours_35 (fun H locs hP hS => ?_)
      replace hP : zP G [shB G xB] [(sL uB 2 l2.toNatClampNeg r_1)] H := hP
      refine lv_iinc (v := (l2 + (1 : Int32))) (lv' := [(2, .int ((l2 + (1 : Int32)))), (0, .ref (xB 0)), (1, .int l1)]) hx hb dX1_joinNeighbours_36 hl (k := 2) rfl rfl (by decide) rfl (fun ls hl => ?_)
      refine lv_goto (tgt := 2) hx hb dX1_joinNeighbours_39 (by decide) ?_
      exact K2 _ _ _ h _ _ hP hS _ (lv_sub hl [1, 2, 0] rfl)
set_option maxRecDepth 20000 in
theorem mX1_joinNeighbours (l : Launch) (G : zG) (xB : Nat → Nat) {uB : zSt} {l1 : Int32} {vB : zSt} (h : fX1_joinNeighbours uB l1 = some vB) : zC l yX1_joinNeighbours wsX1_joinNeighbours rmX1_joinNeighbours [.ref (xB 0), .int l1] G [shB G xB] [uB] [vB] none := by
  refine z_ofW (cc := cX1_joinNeighbours) (maxL := 3) (ret := none) (by decide) rfl (Nat.le_of_ble_eq_true rfl) ?_
  intro p e s m args below meth c C0 hK hN hD hP ls hl
  obtain ⟨hx, hb, hr, hml, hown, hts, hlk⟩ := id C0
  have hS : va_S (zA [shB G xB] s.heap.size) s.heap s.heap [] := va_S.rf
  replace hl : lv_has ls 3 [(0, .ref (xB 0)), (1, .int l1)] := hl
  unfold fX1_joinNeighbours at h
  refine lv_iconst (v := 0) hx hb dX1_joinNeighbours_0 (by decide) ?_
  refine lv_istore_n (lv' := [(2, .int ((0 : Int32))), (0, .ref (xB 0)), (1, .int l1)]) hx hb dX1_joinNeighbours_1 rfl hl (by decide) rfl (fun ls hl => ?_)
  exact tlX1_joinNeighbours_2 C0 hK hN hD  1000 _ _ _ h _ _ hP hS _ (lv_sub hl [1, 2, 0] rfl)
end
def rmX1_headOf : Room := { frames := 3, cells := 0, slots := 0, locals := 70 }
theorem kvX1_headOf : yX1_headOf.cls = RX1 ∧ yX1_headOf.cls ≠ "java/lang/invoke/MethodHandle" ∧ yX1_headOf.cls ≠ "java/lang/invoke/VarHandle" ∧ (parseMethodDescriptor yX1_headOf.desc).map (fun d => d.parameters.length) = some 2 := by decide +kernel
section
variable {p : Program} {l : Launch} {e : Env} {s : State} {m : MethodId} {args : Array Value} {below : List Frame} {meth : Method} {c : Code} {G : zG} {xB : Nat → Nat} {rr : Int64} {vB : zSt}
set_option maxRecDepth 20000 in
theorem tlX1_headOf_34 (C0 : zCtx p s m args meth c cX1_headOf RX1 wsX1_headOf 4 (some .long)) (hK : zK G s) (hN : zN s) (hD : zD [shB G xB])  : ∀ (n : Nat), ∀ (uB : zSt) (l3 : Int32), lX1_headOf_34  n uB l3 = some (rr, vB) → ∀ (H : Heap) (locs : List Loc), zP G [shB G xB] [uB] H → va_S (zA [shB G xB] s.heap.size) s.heap H locs → ∀ ls : Array Slot, lv_has ls 4 [(0, .ref (xB 0)), (3, .int l3)] → W p l e rmX1_headOf s m args below meth c H locs 0 0 (MQ below (zQ G [shB G xB] [vB] (zA [shB G xB] s.heap.size) (some (.long rr))) args s 0 0 (zA [shB G xB] s.heap.size)) (F0 m 34 ls []) := by
  obtain ⟨hx, hb, hr, hml, hown, hts, hlk⟩ := id C0
  have hwX1 : ∀ w ∈ wsX10, w.before args s = true := fun w h => hts w (List.mem_cons_of_mem _ (List.mem_append_right _ h))
  intro n
  induction n with
  | zero => intro uB l3 h; exact absurd h (fun q => nomatch q)
  | succ n K34 =>
    intro uB l3 h H locs hP hS ls hl
    replace h : bX1_headOf_34  (lX1_headOf_34  n) uB l3 = some (rr, vB) := h
    unfold bX1_headOf_34 at h
    refine lv_iload_n hx hb dX1_headOf_34 rfl (lv_at hl 1 rfl) ?_
    refine lv_iconst (v := 1) hx hb dX1_headOf_35 (by decide) ?_
    refine lv_icmp_le (tgt := 53) hx hb dX1_headOf_36 (by decide) (fun hc => ?_) (fun hc => ?_)
    · replace h := zt hc h
      refine lv_aload_n hx hb dX1_headOf_53 rfl (lv_at hl 0 rfl) ?_
      refine rB_2 hx hb hwX1 hown hK hP 0 (xB) rfl rfl (hts _ (List.mem_of_getElem? (i := 1) rfl)) dX1_headOf_54 ?_
      refine lv_iconst (v := 0) hx hb dX1_headOf_57 (by decide) ?_
      refine aB_2 hx hb hK hP 0 (xB) rfl rfl (zvi tn_0 n0_0 (by decide)) tn_0 dX1_headOf_58 ?_
      cases h
      exact z_lret hx hb hr hlk hP hS dX1_headOf_59
    · replace h := zf hc h
      refine lv_aload_n hx hb dX1_headOf_39 rfl (lv_at hl 0 rfl) ?_
      refine lv_iload_n hx hb dX1_headOf_40 rfl (lv_at hl 1 rfl) ?_
      obtain ⟨uB_1, hg, h⟩ := zb1_e h
      refine z_callV (As := [.int l3]) (rest := []) (i := 0) ⟨hx, hb, hml, hown, hts⟩ (mX1_joinNeighbours l G (xB) hg) (cwV 1 hts gX1_headOf_X1_joinNeighbours rfl rfl rfl kvX1_joinNeighbours ⟨Nat.le_of_ble_eq_true rfl, Nat.le_of_ble_eq_true rfl⟩) rfl hP hD hK hN hS (Nat.le_refl _) [0] rfl rfl rfl rfl 0 rfl rfl rfl rfl rfl hl.1 rfl (Nat.le_of_ble_eq_true rfl) dX1_headOf_41 ⟨Nat.zero_le _, Nat.zero_le _⟩ (fun H locs hP hS => ?_)
      replace hP : zP G [shB G xB] [uB_1] H := hP
      refine lv_iload_n hx hb dX1_headOf_44 rfl (lv_at hl 1 rfl) ?_
      refine lv_iconst (v := 1) hx hb dX1_headOf_45 (by decide) ?_
      refine lv_iadd hx hb dX1_headOf_46 ?_
      refine lv_iconst (v := 2) hx hb dX1_headOf_47 (by decide) ?_
      refine lv_idiv hx hb dX1_headOf_48 (by decide) ?_
      refine lv_istore_n (lv' := [(3, .int (((l3 + (1 : Int32)) / (2 : Int32)))), (0, .ref (xB 0))]) hx hb dX1_headOf_49 rfl hl (by decide) rfl (fun ls hl => ?_)
      refine lv_goto (tgt := 34) hx hb dX1_headOf_50 (by decide) ?_
      exact K34 _ _ h _ _ hP hS _ (lv_sub hl [1, 0] rfl)
set_option maxRecDepth 20000 in
theorem tlX1_headOf_8 (C0 : zCtx p s m args meth c cX1_headOf RX1 wsX1_headOf 4 (some .long)) (hK : zK G s) (hN : zN s) (hD : zD [shB G xB])  : ∀ (n : Nat), ∀ (uB : zSt) (l1 : Int32) (l2 : Int32) (l3 : Int32), lX1_headOf_8  n uB l1 l2 l3 = some (rr, vB) → ∀ (H : Heap) (locs : List Loc), zP G [shB G xB] [uB] H → va_S (zA [shB G xB] s.heap.size) s.heap H locs → ∀ ls : Array Slot, lv_has ls 4 [(0, .ref (xB 0)), (1, .int l1), (2, .int l2), (3, .int l3)] → W p l e rmX1_headOf s m args below meth c H locs 0 0 (MQ below (zQ G [shB G xB] [vB] (zA [shB G xB] s.heap.size) (some (.long rr))) args s 0 0 (zA [shB G xB] s.heap.size)) (F0 m 8 ls []) := by
  obtain ⟨hx, hb, hr, hml, hown, hts, hlk⟩ := id C0
  have hwX1 : ∀ w ∈ wsX10, w.before args s = true := fun w h => hts w (List.mem_cons_of_mem _ (List.mem_append_right _ h))
  intro n
  induction n with
  | zero => intro uB l1 l2 l3 h; exact absurd h (fun q => nomatch q)
  | succ n K8 =>
    intro uB l1 l2 l3 h H locs hP hS ls hl
    replace h : bX1_headOf_8  (lX1_headOf_8  n) uB l1 l2 l3 = some (rr, vB) := h
    unfold bX1_headOf_8 at h
    refine lv_iload_n hx hb dX1_headOf_8 rfl (lv_at hl 3 rfl) ?_
    refine lv_iload_n hx hb dX1_headOf_9 rfl (lv_at hl 2 rfl) ?_
    refine lv_icmp_ge (tgt := 32) hx hb dX1_headOf_10 (by decide) (fun hc => ?_) (fun hc => ?_)
    · replace h := zt hc h
      refine lv_iload_n hx hb dX1_headOf_32 rfl (lv_at hl 2 rfl) ?_
      refine lv_istore_n (lv' := [(3, .int l2), (0, .ref (xB 0)), (1, .int l1), (2, .int l2)]) hx hb dX1_headOf_33 rfl hl (by decide) rfl (fun ls hl => ?_)
      exact tlX1_headOf_34 C0 hK hN hD  1000 _ _ h _ _ hP hS _ (lv_sub hl [1, 0] rfl)
    · replace h := zf hc h
      refine lv_aload_n hx hb dX1_headOf_13 rfl (lv_at hl 0 rfl) ?_
      refine rB_2 hx hb hwX1 hown hK hP 0 (xB) rfl rfl (hts _ (List.mem_of_getElem? (i := 1) rfl)) dX1_headOf_14 ?_
      refine lv_iload_n hx hb dX1_headOf_17 rfl (lv_at hl 3 rfl) ?_
      refine lv_aload_n hx hb dX1_headOf_18 rfl (lv_at hl 0 rfl) ?_
      refine lv_iload_n hx hb dX1_headOf_19 rfl (lv_at hl 1 rfl) ?_
      refine lv_iload_n hx hb dX1_headOf_20 rfl (lv_at hl 3 rfl) ?_
      refine lv_iadd hx hb dX1_headOf_21 ?_
      obtain ⟨r_2, hg, h⟩ := zb1_e h
      refine z_callV (As := [.int ((l1 + l3))]) (rest := [.int l3, .ref (xB 3)]) (i := 0) ⟨hx, hb, hml, hown, hts⟩ (mX1_leafOf l G (xB) hg) (cwV 1 hts gX1_headOf_X1_leafOf rfl rfl rfl kvX1_leafOf ⟨Nat.le_of_ble_eq_true rfl, Nat.le_of_ble_eq_true rfl⟩) rfl hP hD hK hN hS (Nat.le_refl _) [0] rfl rfl rfl rfl 0 rfl rfl rfl rfl rfl hl.1 rfl (Nat.le_of_ble_eq_true rfl) dX1_headOf_22 ⟨Nat.zero_le _, Nat.zero_le _⟩ (fun H locs hP hS => ?_)
      replace hP : zP G [shB G xB] [uB] H := hP
      obtain ⟨hi, h⟩ := zin_e h
      refine tB_2 hx hb hK hP hD hS 0 (xB) rfl rfl hi rfl dX1_headOf_25 (fun H locs hP hS => ?_)
      replace hP : zP G [shB G xB] [(sL uB 2 l3.toNatClampNeg r_2)] H := hP
      refine lv_iinc (v := (l3 + (1 : Int32))) (lv' := [(3, .int ((l3 + (1 : Int32)))), (0, .ref (xB 0)), (1, .int l1), (2, .int l2)]) hx hb dX1_headOf_26 hl (k := 3) rfl rfl (by decide) rfl (fun ls hl => ?_)
      refine lv_goto (tgt := 8) hx hb dX1_headOf_29 (by decide) ?_
      exact K8 _ _ _ _ h _ _ hP hS _ (lv_sub hl [1, 2, 3, 0] rfl)
set_option maxRecDepth 20000 in
theorem mX1_headOf (l : Launch) (G : zG) (xB : Nat → Nat) {uB : zSt} {l1 : Int32} {l2 : Int32} {rr : Int64} {vB : zSt} (h : fX1_headOf uB l1 l2 = some (rr, vB)) : zC l yX1_headOf wsX1_headOf rmX1_headOf [.ref (xB 0), .int l1, .int l2] G [shB G xB] [uB] [vB] (some (.long rr)) := by
  refine z_ofW (cc := cX1_headOf) (maxL := 4) (ret := some .long) (by decide) rfl (Nat.le_of_ble_eq_true rfl) ?_
  intro p e s m args below meth c C0 hK hN hD hP ls hl
  obtain ⟨hx, hb, hr, hml, hown, hts, hlk⟩ := id C0
  have hS : va_S (zA [shB G xB] s.heap.size) s.heap s.heap [] := va_S.rf
  replace hl : lv_has ls 4 [(0, .ref (xB 0)), (1, .int l1), (2, .int l2)] := hl
  unfold fX1_headOf at h
  refine lv_iload_n hx hb dX1_headOf_0 rfl (lv_at hl 2 rfl) ?_
  refine lv_if_ne (tgt := 6) hx hb dX1_headOf_1 (by decide) (fun hc => ?_) (fun hc => ?_)
  · replace h := zf hc h
    refine lv_iconst (v := 0) hx hb dX1_headOf_6 (by decide) ?_
    refine lv_istore_n (lv' := [(3, .int ((0 : Int32))), (0, .ref (xB 0)), (1, .int l1), (2, .int l2)]) hx hb dX1_headOf_7 rfl hl (by decide) rfl (fun ls hl => ?_)
    exact tlX1_headOf_8 C0 hK hN hD  1000 _ _ _ _ h _ _ hP hS _ (lv_sub hl [1, 2, 3, 0] rfl)
  · replace h := zt hc h
    refine lv_lconst (v := 0) hx hb dX1_headOf_4 rfl ?_
    cases h
    exact z_lret hx hb hr hlk hP hS dX1_headOf_5
end
