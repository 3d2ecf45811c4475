section
variable {p : Program} {l : Launch} {e : Env} {s : State} {m : MethodId} {below : List Frame} {meth : Method} {c : Code} {b L : Nat} {xs : Nat → Int32} {G : zG} {xO xM xU : Nat → Nat}
set_option maxHeartbeats 4000000 in
set_option maxRecDepth 20000 in
theorem tL_law_1294 (C0 : zLaw p l s m meth c b L xs G xO xM xU) (j : Nat) {k23 : zSt → zSt → zSt → zSt → zSt → zSt → zSt → zSt → Int32 → Option Unit} (K23 : ∀ (uO : zSt) (uB : zSt) (uP : zSt) (uA : zSt) (uT : zSt) (uR : zSt) (uM : zSt) (uU : zSt) (l4 : Int32), l4 = nI (7 * (j + 1)) → k23 uO uB uP uA uT uR uM uU l4 = some () → ∀ (H : Heap) (locs : List Loc), zP G (zLsh G xO xM xU) [uO, uB, uP, uA, uT, uR, uM, uU] H → va_S (zA (zLsh G xO xM xU) s.heap.size) s.heap H locs → ∀ ls : Array Slot, lv_has ls 8 [(0, .ref (b)), (1, .ref (xO 0)), (2, .ref (xM 0)), (3, .ref (xU 0)), (4, .int l4)] → W p l e room_1 s m #[Value.ref b] below meth c H locs (157 + (j + 1)) (4003 + 6 * (j + 1)) (lw_Z below #[Value.ref b] s) (F0 m 23 ls [])) : ∀ (uO : zSt) (uB : zSt) (uP : zSt) (uA : zSt) (uT : zSt) (uR : zSt) (uM : zSt) (uU : zSt) (l4 : Int32), l4 = nI (7 * j) → bL_law_1294 k23 uO uB uP uA uT uR uM uU l4 = some () → ∀ (H : Heap) (locs : List Loc), zP G (zLsh G xO xM xU) [uO, uB, uP, uA, uT, uR, uM, uU] H → va_S (zA (zLsh G xO xM xU) s.heap.size) s.heap H locs → ∀ ls : Array Slot, lv_has ls 8 [(0, .ref (b)), (1, .ref (xO 0)), (2, .ref (xM 0)), (3, .ref (xU 0)), (4, .int l4)] → W p l e room_1 s m #[Value.ref b] below meth c H locs (157 + (j + 1)) (4003 + 6 * (j + 1)) (lw_Z below #[Value.ref b] s) (F0 m 1294 ls []) := by
  obtain ⟨hx, hb, hr, hml, hown, hts, hlk, hK, hN, hD, hX, hH, hfl, hXs, hbl, hbA, hge, hL⟩ := id C0
  intro uO uB uP uA uT uR uM uU l4 hj9 h H locs hP hS ls hl
  unfold bL_law_1294 at h
  refine lv_iinc (v := (l4 + (7 : Int32))) (lv' := [(4, .int ((l4 + (7 : Int32)))), (0, .ref (b)), (1, .ref (xO 0)), (2, .ref (xM 0)), (3, .ref (xU 0))]) hx hb dL_law_1294 hl (k := 4) rfl rfl (by decide) rfl (fun ls hl => ?_)
  refine lv_goto (tgt := 23) hx hb dL_law_1297 (by decide) ?_
  exact K23 _ _ _ _ _ _ _ _ _ (by rw [hj9]; exact nI_add (7 * j) 7) h _ _ hP hS _ (lv_sub hl [1, 2, 3, 4, 0] rfl)
set_option maxHeartbeats 4000000 in
set_option maxRecDepth 20000 in
theorem tL_law_136 (C0 : zLaw p l s m meth c b L xs G xO xM xU) (j : Nat) (hj : j < 64) {k23 : zSt → zSt → zSt → zSt → zSt → zSt → zSt → zSt → Int32 → Option Unit} (K23 : ∀ (uO : zSt) (uB : zSt) (uP : zSt) (uA : zSt) (uT : zSt) (uR : zSt) (uM : zSt) (uU : zSt) (l4 : Int32), l4 = nI (7 * (j + 1)) → k23 uO uB uP uA uT uR uM uU l4 = some () → ∀ (H : Heap) (locs : List Loc), zP G (zLsh G xO xM xU) [uO, uB, uP, uA, uT, uR, uM, uU] H → va_S (zA (zLsh G xO xM xU) s.heap.size) s.heap H locs → ∀ ls : Array Slot, lv_has ls 8 [(0, .ref (b)), (1, .ref (xO 0)), (2, .ref (xM 0)), (3, .ref (xU 0)), (4, .int l4)] → W p l e room_1 s m #[Value.ref b] below meth c H locs (157 + (j + 1)) (4003 + 6 * (j + 1)) (lw_Z below #[Value.ref b] s) (F0 m 23 ls [])) : ∀ (uO : zSt) (uB : zSt) (uP : zSt) (uA : zSt) (uT : zSt) (uR : zSt) (uM : zSt) (uU : zSt) (l4 : Int32), l4 = nI (7 * j) → bL_law_136 xs L k23 uO uB uP uA uT uR uM uU l4 = some () → ∀ (H : Heap) (locs : List Loc), zP G (zLsh G xO xM xU) [uO, uB, uP, uA, uT, uR, uM, uU] H → va_S (zA (zLsh G xO xM xU) s.heap.size) s.heap H locs → ∀ ls : Array Slot, lv_has ls 8 [(0, .ref (b)), (1, .ref (xO 0)), (2, .ref (xM 0)), (3, .ref (xU 0)), (4, .int l4)] → W p l e room_1 s m #[Value.ref b] below meth c H locs (157 + j) (4003 + 6 * j) (lw_Z below #[Value.ref b] s) (F0 m 136 ls []) := by
  obtain ⟨hx, hb, hr, hml, hown, hts, hlk, hK, hN, hD, hX, hH, hfl, hXs, hbl, hbA, hge, hL⟩ := id C0
  have hr0 : 157 + j ≤ room_1.cells ∧ 4003 + 6 * j ≤ room_1.slots := ⟨by show 157 + j ≤ 221; omega, by show 4003 + 6 * j ≤ 4387; omega⟩
  have hr1 : 157 + j + 1 ≤ room_1.cells ∧ 4003 + 6 * j + 6 ≤ room_1.slots := ⟨by show 157 + j + 1 ≤ 221; omega, by show 4003 + 6 * j + 6 ≤ 4387; omega⟩
  intro uO uB uP uA uT uR uM uU l4 hj9 h H locs hP hS ls hl
  unfold bL_law_136 at h
  refine lv_aload_n hx hb dL_law_136 rfl (lv_at hl 1 rfl) ?_
  refine lv_aload_n hx hb dL_law_137 rfl (lv_at hl 0 rfl) ?_
  refine lv_iload hx hb dL_law_138 (lv_at hl 4 rfl) ?_
  refine lv_iconst (v := 1) hx hb dL_law_140 (by decide) ?_
  refine lv_iadd hx hb dL_law_141 ?_
  obtain ⟨hi, h⟩ := zin_e h
  refine va_sld hx hb hXs hbl hbA hS hi dL_law_142 ?_
  refine lv_aload_n hx hb dL_law_143 rfl (lv_at hl 0 rfl) ?_
  refine lv_iload hx hb dL_law_144 (lv_at hl 4 rfl) ?_
  refine lv_iconst (v := 2) hx hb dL_law_146 (by decide) ?_
  refine lv_iadd hx hb dL_law_147 ?_
  obtain ⟨hi, h⟩ := zin_e h
  refine va_sld hx hb hXs hbl hbA hS hi dL_law_148 ?_
  refine lv_aload_n hx hb dL_law_149 rfl (lv_at hl 0 rfl) ?_
  refine lv_iload hx hb dL_law_150 (lv_at hl 4 rfl) ?_
  refine lv_iconst (v := 3) hx hb dL_law_152 (by decide) ?_
  refine lv_iadd hx hb dL_law_153 ?_
  obtain ⟨hi, h⟩ := zin_e h
  refine va_sld hx hb hXs hbl hbA hS hi dL_law_154 ?_
  obtain ⟨r_1, uO_2, uB_3, uP_4, hg, h⟩ := zb4_e h
  refine z_callL (As := [.ref (xO 0), .int ((xs ((l4 + (1 : Int32))).toNatClampNeg)), .int ((xs ((l4 + (2 : Int32))).toNatClampNeg)), .int ((xs ((l4 + (3 : Int32))).toNatClampNeg))]) (rest := []) (hh := [(0, 7, 10, 13)]) ⟨hx, hb, hml, hown, hts⟩ (mL_begin l hfl G xO hg) (vx_cwSW 4 hts gL_law_L_begin rfl rfl rfl ksL_begin ⟨Nat.le_of_ble_eq_true rfl, Nat.le_of_ble_eq_true rfl⟩) hP hD hK hN hX hH hS (Nat.le_refl _) [0, 1, 2] rfl rfl rfl rfl rfl hl.1 rfl (Nat.le_of_ble_eq_true rfl) dL_law_155 hr1 (fun H locs hP hS => ?_)
  replace hP : zP G (zLsh G xO xM xU) [uO_2, uB_3, uP_4, uA, uT, uR, uM, uU] H := hP
  refine lv_istore (lv' := [(5, .int r_1), (0, .ref (b)), (1, .ref (xO 0)), (2, .ref (xM 0)), (3, .ref (xU 0)), (4, .int l4)]) hx hb dL_law_158 hl (by decide) rfl (fun ls hl => ?_)
  refine lv_aload_n hx hb dL_law_160 rfl (lv_at hl 3 rfl) ?_
  refine lv_aload_n hx hb dL_law_161 rfl (lv_at hl 1 rfl) ?_
  refine lv_iload hx hb dL_law_162 (lv_at hl 5 rfl) ?_
  refine lv_iconst (v := 1) hx hb dL_law_164 (by decide) ?_
  refine lv_iadd hx hb dL_law_165 ?_
  obtain ⟨hi, h⟩ := zin_e h
  refine va_sld hx hb hXs hbl hbA hS hi dL_law_166 ?_
  refine lv_aload_n hx hb dL_law_167 rfl (lv_at hl 1 rfl) ?_
  refine lv_iload hx hb dL_law_168 (lv_at hl 5 rfl) ?_
  refine lv_iconst (v := 2) hx hb dL_law_170 (by decide) ?_
  refine lv_iadd hx hb dL_law_171 ?_
  obtain ⟨hi, h⟩ := zin_e h
  refine va_sld hx hb hXs hbl hbA hS hi dL_law_172 ?_
  refine lv_aload_n hx hb dL_law_173 rfl (lv_at hl 1 rfl) ?_
  refine lv_iload hx hb dL_law_174 (lv_at hl 5 rfl) ?_
  refine lv_iconst (v := 3) hx hb dL_law_176 (by decide) ?_
  refine lv_iadd hx hb dL_law_177 ?_
  obtain ⟨hi, h⟩ := zin_e h
  refine va_sld hx hb hXs hbl hbA hS hi dL_law_178 ?_
  obtain ⟨uM_5, hg, h⟩ := zb1_e h
  refine z_callV (As := [.int ((xs ((l4 + (1 : Int32))).toNatClampNeg)), .int ((xs ((l4 + (2 : Int32))).toNatClampNeg)), .int ((xs ((l4 + (3 : Int32))).toNatClampNeg))]) (rest := []) (i := 0) ⟨hx, hb, hml, hown, hts⟩ (mX7_begin l G (xM) hg) (cwV 3 hts gL_law_X7_begin rfl rfl rfl kvX7_begin ⟨Nat.le_of_ble_eq_true rfl, Nat.le_of_ble_eq_true rfl⟩) rfl hP hD hK hN hS (Nat.le_refl _) [6] rfl rfl rfl rfl 6 rfl rfl rfl rfl rfl hl.1 rfl (Nat.le_of_ble_eq_true rfl) dL_law_179 hr1 (fun H locs hP hS => ?_)
  replace hP : zP G (zLsh G xO xM xU) [uO_2, uB_3, uP_4, uA, uT, uR, uM_5, uU] H := hP
  refine lv_aload_n hx hb dL_law_182 rfl (lv_at hl 3 rfl) ?_
  obtain ⟨r_6, hg, h⟩ := zb1_e h
  refine z_callV (As := []) (rest := []) (i := 0) ⟨hx, hb, hml, hown, hts⟩ (mX7_thrown l G (xM) hg) (cwV 0 hts gL_law_X7_thrown rfl rfl rfl kvX7_thrown ⟨Nat.le_of_ble_eq_true rfl, Nat.le_of_ble_eq_true rfl⟩) rfl hP hD hK hN hS (Nat.le_refl _) [6] rfl rfl rfl rfl 6 rfl rfl rfl rfl rfl hl.1 rfl (Nat.le_of_ble_eq_true rfl) dL_law_183 hr1 (fun H locs hP hS => ?_)
  replace hP : zP G (zLsh G xO xM xU) [uO_2, uB_3, uP_4, uA, uT, uR, uM_5, uU] H := hP
  refine lv_iload hx hb dL_law_186 (lv_at hl 0 rfl) ?_
  refine lv_icmp_eq (tgt := 193) hx hb dL_law_188 (by decide) (fun hc => ?_) (fun hc => ?_)
  · replace h := zt hc h
    refine lv_goto (tgt := 1294) hx hb dL_law_193 (by decide) ?_
    refine W.widen (k := 157 + (j + 1)) (n := 4003 + 6 * (j + 1)) (by omega) (by omega) ?_
    exact tL_law_1294 C0 j K23 _ _ _ _ _ _ _ _ _ hj9 h _ _ hP hS _ (lv_sub hl [1, 2, 3, 4, 5] rfl)
  · replace h := zf hc h
    refine lv_iconst (v := 0) hx hb dL_law_191 (by decide) ?_
    cases h
set_option maxHeartbeats 4000000 in
set_option maxRecDepth 20000 in
theorem tL_law_196 (C0 : zLaw p l s m meth c b L xs G xO xM xU) (j : Nat) (hj : j < 64) {k23 : zSt → zSt → zSt → zSt → zSt → zSt → zSt → zSt → Int32 → Option Unit} (K23 : ∀ (uO : zSt) (uB : zSt) (uP : zSt) (uA : zSt) (uT : zSt) (uR : zSt) (uM : zSt) (uU : zSt) (l4 : Int32), l4 = nI (7 * (j + 1)) → k23 uO uB uP uA uT uR uM uU l4 = some () → ∀ (H : Heap) (locs : List Loc), zP G (zLsh G xO xM xU) [uO, uB, uP, uA, uT, uR, uM, uU] H → va_S (zA (zLsh G xO xM xU) s.heap.size) s.heap H locs → ∀ ls : Array Slot, lv_has ls 8 [(0, .ref (b)), (1, .ref (xO 0)), (2, .ref (xM 0)), (3, .ref (xU 0)), (4, .int l4)] → W p l e room_1 s m #[Value.ref b] below meth c H locs (157 + (j + 1)) (4003 + 6 * (j + 1)) (lw_Z below #[Value.ref b] s) (F0 m 23 ls [])) : ∀ (uO : zSt) (uB : zSt) (uP : zSt) (uA : zSt) (uT : zSt) (uR : zSt) (uM : zSt) (uU : zSt) (l4 : Int32), l4 = nI (7 * j) → bL_law_196 xs L k23 uO uB uP uA uT uR uM uU l4 = some () → ∀ (H : Heap) (locs : List Loc), zP G (zLsh G xO xM xU) [uO, uB, uP, uA, uT, uR, uM, uU] H → va_S (zA (zLsh G xO xM xU) s.heap.size) s.heap H locs → ∀ ls : Array Slot, lv_has ls 8 [(0, .ref (b)), (1, .ref (xO 0)), (2, .ref (xM 0)), (3, .ref (xU 0)), (4, .int l4)] → W p l e room_1 s m #[Value.ref b] below meth c H locs (157 + j) (4003 + 6 * j) (lw_Z below #[Value.ref b] s) (F0 m 196 ls []) := by
  obtain ⟨hx, hb, hr, hml, hown, hts, hlk, hK, hN, hD, hX, hH, hfl, hXs, hbl, hbA, hge, hL⟩ := id C0
  have hr0 : 157 + j ≤ room_1.cells ∧ 4003 + 6 * j ≤ room_1.slots := ⟨by show 157 + j ≤ 221; omega, by show 4003 + 6 * j ≤ 4387; omega⟩
  have hr1 : 157 + j + 1 ≤ room_1.cells ∧ 4003 + 6 * j + 6 ≤ room_1.slots := ⟨by show 157 + j + 1 ≤ 221; omega, by show 4003 + 6 * j + 6 ≤ 4387; omega⟩
  intro uO uB uP uA uT uR uM uU l4 hj9 h H locs hP hS ls hl
  unfold bL_law_196 at h
  refine lv_aload_n hx hb dL_law_196 rfl (lv_at hl 1 rfl) ?_
  refine lv_aload_n hx hb dL_law_197 rfl (lv_at hl 0 rfl) ?_
  refine lv_iload hx hb dL_law_198 (lv_at hl 4 rfl) ?_
  refine lv_iconst (v := 1) hx hb dL_law_200 (by decide) ?_
  refine lv_iadd hx hb dL_law_201 ?_
  obtain ⟨hi, h⟩ := zin_e h
  refine va_sld hx hb hXs hbl hbA hS hi dL_law_202 ?_
  obtain ⟨r_7, uB_8, uP_9, hg, h⟩ := zb3_e h
  refine z_callL (As := [.ref (xO 0), .int ((xs ((l4 + (1 : Int32))).toNatClampNeg))]) (rest := []) (hh := [(0, 5, 8, 13), (0, 5, 11, 19), (0, 5, 14, 21)]) ⟨hx, hb, hml, hown, hts⟩ (mL_register l hfl G xO hg) (vx_cwSW 2 hts gL_law_L_register rfl rfl rfl ksL_register ⟨Nat.le_of_ble_eq_true rfl, Nat.le_of_ble_eq_true rfl⟩) hP hD hK hN hX hH hS (Nat.le_refl _) [0, 1, 2] rfl rfl rfl rfl rfl hl.1 rfl (Nat.le_of_ble_eq_true rfl) dL_law_203 hr1 (fun H locs hP hS => ?_)
  replace hP : zP G (zLsh G xO xM xU) [uO, uB_8, uP_9, uA, uT, uR, uM, uU] H := hP
  refine lv_istore (lv' := [(5, .int r_7), (0, .ref (b)), (1, .ref (xO 0)), (2, .ref (xM 0)), (3, .ref (xU 0)), (4, .int l4)]) hx hb dL_law_206 hl (by decide) rfl (fun ls hl => ?_)
  refine lv_aload_n hx hb dL_law_208 rfl (lv_at hl 3 rfl) ?_
  refine lv_aload_n hx hb dL_law_209 rfl (lv_at hl 1 rfl) ?_
  refine lv_iload hx hb dL_law_210 (lv_at hl 5 rfl) ?_
  refine lv_iconst (v := 1) hx hb dL_law_212 (by decide) ?_
  refine lv_iadd hx hb dL_law_213 ?_
  obtain ⟨hi, h⟩ := zin_e h
  refine va_sld hx hb hXs hbl hbA hS hi dL_law_214 ?_
  obtain ⟨uM_10, hg, h⟩ := zb1_e h
  refine z_callV (As := [.int ((xs ((l4 + (1 : Int32))).toNatClampNeg))]) (rest := []) (i := 0) ⟨hx, hb, hml, hown, hts⟩ (mX7_register l G (xM) hg) (cwV 1 hts gL_law_X7_register rfl rfl rfl kvX7_register ⟨Nat.le_of_ble_eq_true rfl, Nat.le_of_ble_eq_true rfl⟩) rfl hP hD hK hN hS (Nat.le_refl _) [6] rfl rfl rfl rfl 6 rfl rfl rfl rfl rfl hl.1 rfl (Nat.le_of_ble_eq_true rfl) dL_law_215 hr1 (fun H locs hP hS => ?_)
  replace hP : zP G (zLsh G xO xM xU) [uO, uB_8, uP_9, uA, uT, uR, uM_10, uU] H := hP
  refine lv_aload_n hx hb dL_law_218 rfl (lv_at hl 3 rfl) ?_
  obtain ⟨r_11, hg, h⟩ := zb1_e h
  refine z_callV (As := []) (rest := []) (i := 0) ⟨hx, hb, hml, hown, hts⟩ (mX7_thrown l G (xM) hg) (cwV 0 hts gL_law_X7_thrown rfl rfl rfl kvX7_thrown ⟨Nat.le_of_ble_eq_true rfl, Nat.le_of_ble_eq_true rfl⟩) rfl hP hD hK hN hS (Nat.le_refl _) [6] rfl rfl rfl rfl 6 rfl rfl rfl rfl rfl hl.1 rfl (Nat.le_of_ble_eq_true rfl) dL_law_219 hr1 (fun H locs hP hS => ?_)
  replace hP : zP G (zLsh G xO xM xU) [uO, uB_8, uP_9, uA, uT, uR, uM_10, uU] H := hP
  refine lv_iload hx hb dL_law_222 (lv_at hl 0 rfl) ?_
  refine lv_icmp_eq (tgt := 229) hx hb dL_law_224 (by decide) (fun hc => ?_) (fun hc => ?_)
  · replace h := zt hc h
    refine lv_goto (tgt := 1294) hx hb dL_law_229 (by decide) ?_
    refine W.widen (k := 157 + (j + 1)) (n := 4003 + 6 * (j + 1)) (by omega) (by omega) ?_
    exact tL_law_1294 C0 j K23 _ _ _ _ _ _ _ _ _ hj9 h _ _ hP hS _ (lv_sub hl [1, 2, 3, 4, 5] rfl)
  · replace h := zf hc h
    refine lv_iconst (v := 0) hx hb dL_law_227 (by decide) ?_
    cases h
set_option maxHeartbeats 4000000 in
set_option maxRecDepth 20000 in
theorem tL_law_232 (C0 : zLaw p l s m meth c b L xs G xO xM xU) (j : Nat) (hj : j < 64) {k23 : zSt → zSt → zSt → zSt → zSt → zSt → zSt → zSt → Int32 → Option Unit} (K23 : ∀ (uO : zSt) (uB : zSt) (uP : zSt) (uA : zSt) (uT : zSt) (uR : zSt) (uM : zSt) (uU : zSt) (l4 : Int32), l4 = nI (7 * (j + 1)) → k23 uO uB uP uA uT uR uM uU l4 = some () → ∀ (H : Heap) (locs : List Loc), zP G (zLsh G xO xM xU) [uO, uB, uP, uA, uT, uR, uM, uU] H → va_S (zA (zLsh G xO xM xU) s.heap.size) s.heap H locs → ∀ ls : Array Slot, lv_has ls 8 [(0, .ref (b)), (1, .ref (xO 0)), (2, .ref (xM 0)), (3, .ref (xU 0)), (4, .int l4)] → W p l e room_1 s m #[Value.ref b] below meth c H locs (157 + (j + 1)) (4003 + 6 * (j + 1)) (lw_Z below #[Value.ref b] s) (F0 m 23 ls [])) : ∀ (uO : zSt) (uB : zSt) (uP : zSt) (uA : zSt) (uT : zSt) (uR : zSt) (uM : zSt) (uU : zSt) (l4 : Int32), l4 = nI (7 * j) → bL_law_232 xs L k23 uO uB uP uA uT uR uM uU l4 = some () → ∀ (H : Heap) (locs : List Loc), zP G (zLsh G xO xM xU) [uO, uB, uP, uA, uT, uR, uM, uU] H → va_S (zA (zLsh G xO xM xU) s.heap.size) s.heap H locs → ∀ ls : Array Slot, lv_has ls 8 [(0, .ref (b)), (1, .ref (xO 0)), (2, .ref (xM 0)), (3, .ref (xU 0)), (4, .int l4)] → W p l e room_1 s m #[Value.ref b] below meth c H locs (157 + j) (4003 + 6 * j) (lw_Z below #[Value.ref b] s) (F0 m 232 ls []) := by
  obtain ⟨hx, hb, hr, hml, hown, hts, hlk, hK, hN, hD, hX, hH, hfl, hXs, hbl, hbA, hge, hL⟩ := id C0
  have hr0 : 157 + j ≤ room_1.cells ∧ 4003 + 6 * j ≤ room_1.slots := ⟨by show 157 + j ≤ 221; omega, by show 4003 + 6 * j ≤ 4387; omega⟩
  have hr1 : 157 + j + 1 ≤ room_1.cells ∧ 4003 + 6 * j + 6 ≤ room_1.slots := ⟨by show 157 + j + 1 ≤ 221; omega, by show 4003 + 6 * j + 6 ≤ 4387; omega⟩
  intro uO uB uP uA uT uR uM uU l4 hj9 h H locs hP hS ls hl
  unfold bL_law_232 at h
  refine lv_aload_n hx hb dL_law_232 rfl (lv_at hl 1 rfl) ?_
  refine lv_aload_n hx hb dL_law_233 rfl (lv_at hl 0 rfl) ?_
  refine lv_iload hx hb dL_law_234 (lv_at hl 4 rfl) ?_
  refine lv_iconst (v := 1) hx hb dL_law_236 (by decide) ?_
  refine lv_iadd hx hb dL_law_237 ?_
  obtain ⟨hi, h⟩ := zin_e h
  refine va_sld hx hb hXs hbl hbA hS hi dL_law_238 ?_
  refine lv_aload_n hx hb dL_law_239 rfl (lv_at hl 0 rfl) ?_
  refine lv_iload hx hb dL_law_240 (lv_at hl 4 rfl) ?_
  refine lv_iconst (v := 2) hx hb dL_law_242 (by decide) ?_
  refine lv_iadd hx hb dL_law_243 ?_
  obtain ⟨hi, h⟩ := zin_e h
  refine va_sld hx hb hXs hbl hbA hS hi dL_law_244 ?_
  refine lv_aload_n hx hb dL_law_245 rfl (lv_at hl 0 rfl) ?_
  refine lv_iload hx hb dL_law_246 (lv_at hl 4 rfl) ?_
  refine lv_iconst (v := 3) hx hb dL_law_248 (by decide) ?_
  refine lv_iadd hx hb dL_law_249 ?_
  obtain ⟨hi, h⟩ := zin_e h
  refine va_sld hx hb hXs hbl hbA hS hi dL_law_250 ?_
  refine lv_aload_n hx hb dL_law_251 rfl (lv_at hl 3 rfl) ?_
  obtain ⟨r_12, uB_13, uP_14, uU_15, hg, h⟩ := zb4_e h
  refine z_callL (As := [.ref (xO 0), .int ((xs ((l4 + (1 : Int32))).toNatClampNeg)), .int ((xs ((l4 + (2 : Int32))).toNatClampNeg)), .int ((xs ((l4 + (3 : Int32))).toNatClampNeg)), .ref (xU 0)]) (rest := []) (hh := [(0, 12, 15, 13), (0, 12, 19, 19), (0, 12, 23, 21)]) ⟨hx, hb, hml, hown, hts⟩ (mL_cast l hfl G xO xU hg) (vx_cwSW 5 hts gL_law_L_cast rfl rfl rfl ksL_cast ⟨Nat.le_of_ble_eq_true rfl, Nat.le_of_ble_eq_true rfl⟩) hP hD hK hN hX hH hS (Nat.le_refl _) [0, 1, 2, 7] rfl rfl rfl rfl rfl hl.1 rfl (Nat.le_of_ble_eq_true rfl) dL_law_252 hr1 (fun H locs hP hS => ?_)
  replace hP : zP G (zLsh G xO xM xU) [uO, uB_13, uP_14, uA, uT, uR, uM, uU_15] H := hP
  refine lv_istore (lv' := [(5, .int r_12), (0, .ref (b)), (1, .ref (xO 0)), (2, .ref (xM 0)), (3, .ref (xU 0)), (4, .int l4)]) hx hb dL_law_255 hl (by decide) rfl (fun ls hl => ?_)
  refine lv_aload_n hx hb dL_law_257 rfl (lv_at hl 3 rfl) ?_
  refine lv_aload_n hx hb dL_law_258 rfl (lv_at hl 1 rfl) ?_
  refine lv_iload hx hb dL_law_259 (lv_at hl 5 rfl) ?_
  refine lv_iconst (v := 1) hx hb dL_law_261 (by decide) ?_
  refine lv_iadd hx hb dL_law_262 ?_
  obtain ⟨hi, h⟩ := zin_e h
  refine va_sld hx hb hXs hbl hbA hS hi dL_law_263 ?_
  refine lv_aload_n hx hb dL_law_264 rfl (lv_at hl 1 rfl) ?_
  refine lv_iload hx hb dL_law_265 (lv_at hl 5 rfl) ?_
  refine lv_iconst (v := 2) hx hb dL_law_267 (by decide) ?_
  refine lv_iadd hx hb dL_law_268 ?_
  obtain ⟨hi, h⟩ := zin_e h
  refine va_sld hx hb hXs hbl hbA hS hi dL_law_269 ?_
  refine lv_aload_n hx hb dL_law_270 rfl (lv_at hl 1 rfl) ?_
  refine lv_iload hx hb dL_law_271 (lv_at hl 5 rfl) ?_
  refine lv_iconst (v := 3) hx hb dL_law_273 (by decide) ?_
  refine lv_iadd hx hb dL_law_274 ?_
  obtain ⟨hi, h⟩ := zin_e h
  refine va_sld hx hb hXs hbl hbA hS hi dL_law_275 ?_
  obtain ⟨r_16, uM_17, hg, h⟩ := zb2_e h
  refine z_callV (As := [.int ((xs ((l4 + (1 : Int32))).toNatClampNeg)), .int ((xs ((l4 + (2 : Int32))).toNatClampNeg)), .int ((xs ((l4 + (3 : Int32))).toNatClampNeg))]) (rest := []) (i := 0) ⟨hx, hb, hml, hown, hts⟩ (mX7_cast l G (xM) hg) (cwV 3 hts gL_law_X7_cast rfl rfl rfl kvX7_cast ⟨Nat.le_of_ble_eq_true rfl, Nat.le_of_ble_eq_true rfl⟩) rfl hP hD hK hN hS (Nat.le_refl _) [6] rfl rfl rfl rfl 6 rfl rfl rfl rfl rfl hl.1 rfl (Nat.le_of_ble_eq_true rfl) dL_law_276 hr1 (fun H locs hP hS => ?_)
  replace hP : zP G (zLsh G xO xM xU) [uO, uB_13, uP_14, uA, uT, uR, uM_17, uU_15] H := hP
  refine lv_istore (lv' := [(6, .int r_16), (5, .int r_12), (0, .ref (b)), (1, .ref (xO 0)), (2, .ref (xM 0)), (3, .ref (xU 0)), (4, .int l4)]) hx hb dL_law_279 hl (by decide) rfl (fun ls hl => ?_)
  refine lv_aload_n hx hb dL_law_281 rfl (lv_at hl 4 rfl) ?_
  obtain ⟨r_18, hg, h⟩ := zb1_e h
  refine z_callV (As := []) (rest := []) (i := 0) ⟨hx, hb, hml, hown, hts⟩ (mX7_thrown l G (xM) hg) (cwV 0 hts gL_law_X7_thrown rfl rfl rfl kvX7_thrown ⟨Nat.le_of_ble_eq_true rfl, Nat.le_of_ble_eq_true rfl⟩) rfl hP hD hK hN hS (Nat.le_refl _) [6] rfl rfl rfl rfl 6 rfl rfl rfl rfl rfl hl.1 rfl (Nat.le_of_ble_eq_true rfl) dL_law_282 hr1 (fun H locs hP hS => ?_)
  replace hP : zP G (zLsh G xO xM xU) [uO, uB_13, uP_14, uA, uT, uR, uM_17, uU_15] H := hP
  refine lv_iload hx hb dL_law_285 (lv_at hl 1 rfl) ?_
  refine lv_icmp_eq (tgt := 292) hx hb dL_law_287 (by decide) (fun hc => ?_) (fun hc => ?_)
  · replace h := zt hc h
    refine lv_iload hx hb dL_law_292 (lv_at hl 1 rfl) ?_
    refine lv_if_ne (tgt := 309) hx hb dL_law_294 (by decide) (fun hc => ?_) (fun hc => ?_)
    · replace h := zf hc h
      refine lv_goto (tgt := 1294) hx hb dL_law_309 (by decide) ?_
      refine W.widen (k := 157 + (j + 1)) (n := 4003 + 6 * (j + 1)) (by omega) (by omega) ?_
      exact tL_law_1294 C0 j K23 _ _ _ _ _ _ _ _ _ hj9 h _ _ hP hS _ (lv_sub hl [2, 3, 4, 5, 6] rfl)
    · replace h := zt hc h
      refine lv_aload_n hx hb dL_law_297 rfl (lv_at hl 5 rfl) ?_
      refine lv_iconst (v := 0) hx hb dL_law_298 (by decide) ?_
      refine aU_0 hx hb hK hP 7 (xU) rfl rfl (zvi tn_0 n0_0 (by decide)) tn_0 dL_law_299 ?_
      refine lv_iload hx hb dL_law_300 (lv_at hl 0 rfl) ?_
      refine lv_i2l (v := r_16.toInt64) hx hb dL_law_302 rfl ?_
      refine W.lcmp hx hb dL_law_303 ?_
      refine lv_if_eq (tgt := 309) hx hb dL_law_304 (by decide) (fun hc => ?_) (fun hc => ?_)
      · replace h := zt hc h
        refine lv_goto (tgt := 1294) hx hb dL_law_309 (by decide) ?_
        refine W.widen (k := 157 + (j + 1)) (n := 4003 + 6 * (j + 1)) (by omega) (by omega) ?_
        exact tL_law_1294 C0 j K23 _ _ _ _ _ _ _ _ _ hj9 h _ _ hP hS _ (lv_sub hl [2, 3, 4, 5, 6] rfl)
      · replace h := zf hc h
        refine lv_iconst (v := 0) hx hb dL_law_307 (by decide) ?_
        cases h
  · replace h := zf hc h
    refine lv_iconst (v := 0) hx hb dL_law_290 (by decide) ?_
    cases h
set_option maxHeartbeats 4000000 in
set_option maxRecDepth 20000 in
theorem tL_law_312 (C0 : zLaw p l s m meth c b L xs G xO xM xU) (j : Nat) (hj : j < 64) {k23 : zSt → zSt → zSt → zSt → zSt → zSt → zSt → zSt → Int32 → Option Unit} (K23 : ∀ (uO : zSt) (uB : zSt) (uP : zSt) (uA : zSt) (uT : zSt) (uR : zSt) (uM : zSt) (uU : zSt) (l4 : Int32), l4 = nI (7 * (j + 1)) → k23 uO uB uP uA uT uR uM uU l4 = some () → ∀ (H : Heap) (locs : List Loc), zP G (zLsh G xO xM xU) [uO, uB, uP, uA, uT, uR, uM, uU] H → va_S (zA (zLsh G xO xM xU) s.heap.size) s.heap H locs → ∀ ls : Array Slot, lv_has ls 8 [(0, .ref (b)), (1, .ref (xO 0)), (2, .ref (xM 0)), (3, .ref (xU 0)), (4, .int l4)] → W p l e room_1 s m #[Value.ref b] below meth c H locs (157 + (j + 1)) (4003 + 6 * (j + 1)) (lw_Z below #[Value.ref b] s) (F0 m 23 ls [])) : ∀ (uO : zSt) (uB : zSt) (uP : zSt) (uA : zSt) (uT : zSt) (uR : zSt) (uM : zSt) (uU : zSt) (l4 : Int32), l4 = nI (7 * j) → bL_law_312 xs L k23 uO uB uP uA uT uR uM uU l4 = some () → ∀ (H : Heap) (locs : List Loc), zP G (zLsh G xO xM xU) [uO, uB, uP, uA, uT, uR, uM, uU] H → va_S (zA (zLsh G xO xM xU) s.heap.size) s.heap H locs → ∀ ls : Array Slot, lv_has ls 8 [(0, .ref (b)), (1, .ref (xO 0)), (2, .ref (xM 0)), (3, .ref (xU 0)), (4, .int l4)] → W p l e room_1 s m #[Value.ref b] below meth c H locs (157 + j) (4003 + 6 * j) (lw_Z below #[Value.ref b] s) (F0 m 312 ls []) := by
  obtain ⟨hx, hb, hr, hml, hown, hts, hlk, hK, hN, hD, hX, hH, hfl, hXs, hbl, hbA, hge, hL⟩ := id C0
  have hr0 : 157 + j ≤ room_1.cells ∧ 4003 + 6 * j ≤ room_1.slots := ⟨by show 157 + j ≤ 221; omega, by show 4003 + 6 * j ≤ 4387; omega⟩
  have hr1 : 157 + j + 1 ≤ room_1.cells ∧ 4003 + 6 * j + 6 ≤ room_1.slots := ⟨by show 157 + j + 1 ≤ 221; omega, by show 4003 + 6 * j + 6 ≤ 4387; omega⟩
  intro uO uB uP uA uT uR uM uU l4 hj9 h H locs hP hS ls hl
  unfold bL_law_312 at h
  refine lv_aload_n hx hb dL_law_312 rfl (lv_at hl 1 rfl) ?_
  refine lv_aload_n hx hb dL_law_313 rfl (lv_at hl 3 rfl) ?_
  obtain ⟨r_19, uO_20, uB_21, uP_22, uU_23, hg, h⟩ := zb5_e h
  refine z_callL (As := [.ref (xO 0), .ref (xU 0)]) (rest := []) (hh := [(0, 8, 11, 19), (0, 8, 14, 21)]) ⟨hx, hb, hml, hown, hts⟩ (mL_close l hfl G xO xU hg) (vx_cwSW 2 hts gL_law_L_close rfl rfl rfl ksL_close ⟨Nat.le_of_ble_eq_true rfl, Nat.le_of_ble_eq_true rfl⟩) hP hD hK hN hX hH hS (Nat.le_refl _) [0, 1, 2, 7] rfl rfl rfl rfl rfl hl.1 rfl (Nat.le_of_ble_eq_true rfl) dL_law_314 hr1 (fun H locs hP hS => ?_)
  replace hP : zP G (zLsh G xO xM xU) [uO_20, uB_21, uP_22, uA, uT, uR, uM, uU_23] H := hP
  refine lv_istore (lv' := [(5, .int r_19), (0, .ref (b)), (1, .ref (xO 0)), (2, .ref (xM 0)), (3, .ref (xU 0)), (4, .int l4)]) hx hb dL_law_317 hl (by decide) rfl (fun ls hl => ?_)
  refine lv_aload_n hx hb dL_law_319 rfl (lv_at hl 3 rfl) ?_
  obtain ⟨r_24, uM_25, hg, h⟩ := zb2_e h
  refine z_callV (As := []) (rest := []) (i := 0) ⟨hx, hb, hml, hown, hts⟩ (mX7_close l G (xM) hg) (cwV 0 hts gL_law_X7_close rfl rfl rfl kvX7_close ⟨Nat.le_of_ble_eq_true rfl, Nat.le_of_ble_eq_true rfl⟩) rfl hP hD hK hN hS (Nat.le_refl _) [6] rfl rfl rfl rfl 6 rfl rfl rfl rfl rfl hl.1 rfl (Nat.le_of_ble_eq_true rfl) dL_law_320 hr1 (fun H locs hP hS => ?_)
  replace hP : zP G (zLsh G xO xM xU) [uO_20, uB_21, uP_22, uA, uT, uR, uM_25, uU_23] H := hP
  refine lv_istore (lv' := [(6, .int r_24), (5, .int r_19), (0, .ref (b)), (1, .ref (xO 0)), (2, .ref (xM 0)), (3, .ref (xU 0)), (4, .int l4)]) hx hb dL_law_323 hl (by decide) rfl (fun ls hl => ?_)
  refine lv_aload_n hx hb dL_law_325 rfl (lv_at hl 4 rfl) ?_
  obtain ⟨r_26, hg, h⟩ := zb1_e h
  refine z_callV (As := []) (rest := []) (i := 0) ⟨hx, hb, hml, hown, hts⟩ (mX7_thrown l G (xM) hg) (cwV 0 hts gL_law_X7_thrown rfl rfl rfl kvX7_thrown ⟨Nat.le_of_ble_eq_true rfl, Nat.le_of_ble_eq_true rfl⟩) rfl hP hD hK hN hS (Nat.le_refl _) [6] rfl rfl rfl rfl 6 rfl rfl rfl rfl rfl hl.1 rfl (Nat.le_of_ble_eq_true rfl) dL_law_326 hr1 (fun H locs hP hS => ?_)
  replace hP : zP G (zLsh G xO xM xU) [uO_20, uB_21, uP_22, uA, uT, uR, uM_25, uU_23] H := hP
  refine lv_iload hx hb dL_law_329 (lv_at hl 1 rfl) ?_
  refine lv_icmp_eq (tgt := 336) hx hb dL_law_331 (by decide) (fun hc => ?_) (fun hc => ?_)
  · replace h := zt hc h
    refine lv_iload hx hb dL_law_336 (lv_at hl 1 rfl) ?_
    refine lv_if_ne (tgt := 353) hx hb dL_law_338 (by decide) (fun hc => ?_) (fun hc => ?_)
    · replace h := zf hc h
      refine lv_goto (tgt := 1294) hx hb dL_law_353 (by decide) ?_
      refine W.widen (k := 157 + (j + 1)) (n := 4003 + 6 * (j + 1)) (by omega) (by omega) ?_
      exact tL_law_1294 C0 j K23 _ _ _ _ _ _ _ _ _ hj9 h _ _ hP hS _ (lv_sub hl [2, 3, 4, 5, 6] rfl)
    · replace h := zt hc h
      refine lv_aload_n hx hb dL_law_341 rfl (lv_at hl 5 rfl) ?_
      refine lv_iconst (v := 0) hx hb dL_law_342 (by decide) ?_
      refine aU_0 hx hb hK hP 7 (xU) rfl rfl (zvi tn_0 n0_0 (by decide)) tn_0 dL_law_343 ?_
      refine lv_iload hx hb dL_law_344 (lv_at hl 0 rfl) ?_
      refine lv_i2l (v := r_24.toInt64) hx hb dL_law_346 rfl ?_
      refine W.lcmp hx hb dL_law_347 ?_
      refine lv_if_eq (tgt := 353) hx hb dL_law_348 (by decide) (fun hc => ?_) (fun hc => ?_)
      · replace h := zt hc h
        refine lv_goto (tgt := 1294) hx hb dL_law_353 (by decide) ?_
        refine W.widen (k := 157 + (j + 1)) (n := 4003 + 6 * (j + 1)) (by omega) (by omega) ?_
        exact tL_law_1294 C0 j K23 _ _ _ _ _ _ _ _ _ hj9 h _ _ hP hS _ (lv_sub hl [2, 3, 4, 5, 6] rfl)
      · replace h := zf hc h
        refine lv_iconst (v := 0) hx hb dL_law_351 (by decide) ?_
        cases h
  · replace h := zf hc h
    refine lv_iconst (v := 0) hx hb dL_law_334 (by decide) ?_
    cases h
set_option maxHeartbeats 4000000 in
set_option maxRecDepth 20000 in
theorem tL_law_356 (C0 : zLaw p l s m meth c b L xs G xO xM xU) (j : Nat) (hj : j < 64) {k23 : zSt → zSt → zSt → zSt → zSt → zSt → zSt → zSt → Int32 → Option Unit} (K23 : ∀ (uO : zSt) (uB : zSt) (uP : zSt) (uA : zSt) (uT : zSt) (uR : zSt) (uM : zSt) (uU : zSt) (l4 : Int32), l4 = nI (7 * (j + 1)) → k23 uO uB uP uA uT uR uM uU l4 = some () → ∀ (H : Heap) (locs : List Loc), zP G (zLsh G xO xM xU) [uO, uB, uP, uA, uT, uR, uM, uU] H → va_S (zA (zLsh G xO xM xU) s.heap.size) s.heap H locs → ∀ ls : Array Slot, lv_has ls 8 [(0, .ref (b)), (1, .ref (xO 0)), (2, .ref (xM 0)), (3, .ref (xU 0)), (4, .int l4)] → W p l e room_1 s m #[Value.ref b] below meth c H locs (157 + (j + 1)) (4003 + 6 * (j + 1)) (lw_Z below #[Value.ref b] s) (F0 m 23 ls [])) : ∀ (uO : zSt) (uB : zSt) (uP : zSt) (uA : zSt) (uT : zSt) (uR : zSt) (uM : zSt) (uU : zSt) (l4 : Int32), l4 = nI (7 * j) → bL_law_356 xs L k23 uO uB uP uA uT uR uM uU l4 = some () → ∀ (H : Heap) (locs : List Loc), zP G (zLsh G xO xM xU) [uO, uB, uP, uA, uT, uR, uM, uU] H → va_S (zA (zLsh G xO xM xU) s.heap.size) s.heap H locs → ∀ ls : Array Slot, lv_has ls 8 [(0, .ref (b)), (1, .ref (xO 0)), (2, .ref (xM 0)), (3, .ref (xU 0)), (4, .int l4)] → W p l e room_1 s m #[Value.ref b] below meth c H locs (157 + j) (4003 + 6 * j) (lw_Z below #[Value.ref b] s) (F0 m 356 ls []) := by
  obtain ⟨hx, hb, hr, hml, hown, hts, hlk, hK, hN, hD, hX, hH, hfl, hXs, hbl, hbA, hge, hL⟩ := id C0
  have hr0 : 157 + j ≤ room_1.cells ∧ 4003 + 6 * j ≤ room_1.slots := ⟨by show 157 + j ≤ 221; omega, by show 4003 + 6 * j ≤ 4387; omega⟩
  have hr1 : 157 + j + 1 ≤ room_1.cells ∧ 4003 + 6 * j + 6 ≤ room_1.slots := ⟨by show 157 + j + 1 ≤ 221; omega, by show 4003 + 6 * j + 6 ≤ 4387; omega⟩
  intro uO uB uP uA uT uR uM uU l4 hj9 h H locs hP hS ls hl
  unfold bL_law_356 at h
  refine lv_aload_n hx hb dL_law_356 rfl (lv_at hl 1 rfl) ?_
  refine lv_aload_n hx hb dL_law_357 rfl (lv_at hl 0 rfl) ?_
  refine lv_iload hx hb dL_law_358 (lv_at hl 4 rfl) ?_
  refine lv_iconst (v := 1) hx hb dL_law_360 (by decide) ?_
  refine lv_iadd hx hb dL_law_361 ?_
  obtain ⟨hi, h⟩ := zin_e h
  refine va_sld hx hb hXs hbl hbA hS hi dL_law_362 ?_
  refine lv_aload_n hx hb dL_law_363 rfl (lv_at hl 0 rfl) ?_
  refine lv_iload hx hb dL_law_364 (lv_at hl 4 rfl) ?_
  refine lv_iconst (v := 2) hx hb dL_law_366 (by decide) ?_
  refine lv_iadd hx hb dL_law_367 ?_
  obtain ⟨hi, h⟩ := zin_e h
  refine va_sld hx hb hXs hbl hbA hS hi dL_law_368 ?_
  obtain ⟨r_27, uB_28, uP_29, hg, h⟩ := zb3_e h
  refine z_callL (As := [.ref (xO 0), .int ((xs ((l4 + (1 : Int32))).toNatClampNeg)), .int ((xs ((l4 + (2 : Int32))).toNatClampNeg))]) (rest := []) (hh := [(0, 6, 9, 19), (0, 6, 12, 13), (0, 6, 15, 21)]) ⟨hx, hb, hml, hown, hts⟩ (mL_mix l hfl G xO hg) (vx_cwSW 3 hts gL_law_L_mix rfl rfl rfl ksL_mix ⟨Nat.le_of_ble_eq_true rfl, Nat.le_of_ble_eq_true rfl⟩) hP hD hK hN hX hH hS (Nat.le_refl _) [0, 1, 2] rfl rfl rfl rfl rfl hl.1 rfl (Nat.le_of_ble_eq_true rfl) dL_law_369 hr1 (fun H locs hP hS => ?_)
  replace hP : zP G (zLsh G xO xM xU) [uO, uB_28, uP_29, uA, uT, uR, uM, uU] H := hP
  refine lv_istore (lv' := [(5, .int r_27), (0, .ref (b)), (1, .ref (xO 0)), (2, .ref (xM 0)), (3, .ref (xU 0)), (4, .int l4)]) hx hb dL_law_372 hl (by decide) rfl (fun ls hl => ?_)
  refine lv_aload_n hx hb dL_law_374 rfl (lv_at hl 3 rfl) ?_
  refine lv_aload_n hx hb dL_law_375 rfl (lv_at hl 1 rfl) ?_
  refine lv_iload hx hb dL_law_376 (lv_at hl 5 rfl) ?_
  refine lv_iconst (v := 1) hx hb dL_law_378 (by decide) ?_
  refine lv_iadd hx hb dL_law_379 ?_
  obtain ⟨hi, h⟩ := zin_e h
  refine va_sld hx hb hXs hbl hbA hS hi dL_law_380 ?_
  refine lv_aload_n hx hb dL_law_381 rfl (lv_at hl 1 rfl) ?_
  refine lv_iload hx hb dL_law_382 (lv_at hl 5 rfl) ?_
  refine lv_iconst (v := 2) hx hb dL_law_384 (by decide) ?_
  refine lv_iadd hx hb dL_law_385 ?_
  obtain ⟨hi, h⟩ := zin_e h
  refine va_sld hx hb hXs hbl hbA hS hi dL_law_386 ?_
  obtain ⟨uM_30, hg, h⟩ := zb1_e h
  refine z_callV (As := [.int ((xs ((l4 + (1 : Int32))).toNatClampNeg)), .int ((xs ((l4 + (2 : Int32))).toNatClampNeg))]) (rest := []) (i := 0) ⟨hx, hb, hml, hown, hts⟩ (mX7_mix l G (xM) hg) (cwV 2 hts gL_law_X7_mix rfl rfl rfl kvX7_mix ⟨Nat.le_of_ble_eq_true rfl, Nat.le_of_ble_eq_true rfl⟩) rfl hP hD hK hN hS (Nat.le_refl _) [6] rfl rfl rfl rfl 6 rfl rfl rfl rfl rfl hl.1 rfl (Nat.le_of_ble_eq_true rfl) dL_law_387 hr1 (fun H locs hP hS => ?_)
  replace hP : zP G (zLsh G xO xM xU) [uO, uB_28, uP_29, uA, uT, uR, uM_30, uU] H := hP
  refine lv_aload_n hx hb dL_law_390 rfl (lv_at hl 3 rfl) ?_
  obtain ⟨r_31, hg, h⟩ := zb1_e h
  refine z_callV (As := []) (rest := []) (i := 0) ⟨hx, hb, hml, hown, hts⟩ (mX7_thrown l G (xM) hg) (cwV 0 hts gL_law_X7_thrown rfl rfl rfl kvX7_thrown ⟨Nat.le_of_ble_eq_true rfl, Nat.le_of_ble_eq_true rfl⟩) rfl hP hD hK hN hS (Nat.le_refl _) [6] rfl rfl rfl rfl 6 rfl rfl rfl rfl rfl hl.1 rfl (Nat.le_of_ble_eq_true rfl) dL_law_391 hr1 (fun H locs hP hS => ?_)
  replace hP : zP G (zLsh G xO xM xU) [uO, uB_28, uP_29, uA, uT, uR, uM_30, uU] H := hP
  refine lv_iload hx hb dL_law_394 (lv_at hl 0 rfl) ?_
  refine lv_icmp_eq (tgt := 401) hx hb dL_law_396 (by decide) (fun hc => ?_) (fun hc => ?_)
  · replace h := zt hc h
    refine lv_goto (tgt := 1294) hx hb dL_law_401 (by decide) ?_
    refine W.widen (k := 157 + (j + 1)) (n := 4003 + 6 * (j + 1)) (by omega) (by omega) ?_
    exact tL_law_1294 C0 j K23 _ _ _ _ _ _ _ _ _ hj9 h _ _ hP hS _ (lv_sub hl [1, 2, 3, 4, 5] rfl)
  · replace h := zf hc h
    refine lv_iconst (v := 0) hx hb dL_law_399 (by decide) ?_
    cases h
set_option maxHeartbeats 4000000 in
set_option maxRecDepth 20000 in
theorem tL_law_404 (C0 : zLaw p l s m meth c b L xs G xO xM xU) (j : Nat) (hj : j < 64) {k23 : zSt → zSt → zSt → zSt → zSt → zSt → zSt → zSt → Int32 → Option Unit} (K23 : ∀ (uO : zSt) (uB : zSt) (uP : zSt) (uA : zSt) (uT : zSt) (uR : zSt) (uM : zSt) (uU : zSt) (l4 : Int32), l4 = nI (7 * (j + 1)) → k23 uO uB uP uA uT uR uM uU l4 = some () → ∀ (H : Heap) (locs : List Loc), zP G (zLsh G xO xM xU) [uO, uB, uP, uA, uT, uR, uM, uU] H → va_S (zA (zLsh G xO xM xU) s.heap.size) s.heap H locs → ∀ ls : Array Slot, lv_has ls 8 [(0, .ref (b)), (1, .ref (xO 0)), (2, .ref (xM 0)), (3, .ref (xU 0)), (4, .int l4)] → W p l e room_1 s m #[Value.ref b] below meth c H locs (157 + (j + 1)) (4003 + 6 * (j + 1)) (lw_Z below #[Value.ref b] s) (F0 m 23 ls [])) : ∀ (uO : zSt) (uB : zSt) (uP : zSt) (uA : zSt) (uT : zSt) (uR : zSt) (uM : zSt) (uU : zSt) (l4 : Int32), l4 = nI (7 * j) → bL_law_404 xs L k23 uO uB uP uA uT uR uM uU l4 = some () → ∀ (H : Heap) (locs : List Loc), zP G (zLsh G xO xM xU) [uO, uB, uP, uA, uT, uR, uM, uU] H → va_S (zA (zLsh G xO xM xU) s.heap.size) s.heap H locs → ∀ ls : Array Slot, lv_has ls 8 [(0, .ref (b)), (1, .ref (xO 0)), (2, .ref (xM 0)), (3, .ref (xU 0)), (4, .int l4)] → W p l e room_1 s m #[Value.ref b] below meth c H locs (157 + j) (4003 + 6 * j) (lw_Z below #[Value.ref b] s) (F0 m 404 ls []) := by
  obtain ⟨hx, hb, hr, hml, hown, hts, hlk, hK, hN, hD, hX, hH, hfl, hXs, hbl, hbA, hge, hL⟩ := id C0
  have hr0 : 157 + j ≤ room_1.cells ∧ 4003 + 6 * j ≤ room_1.slots := ⟨by show 157 + j ≤ 221; omega, by show 4003 + 6 * j ≤ 4387; omega⟩
  have hr1 : 157 + j + 1 ≤ room_1.cells ∧ 4003 + 6 * j + 6 ≤ room_1.slots := ⟨by show 157 + j + 1 ≤ 221; omega, by show 4003 + 6 * j + 6 ≤ 4387; omega⟩
  intro uO uB uP uA uT uR uM uU l4 hj9 h H locs hP hS ls hl
  unfold bL_law_404 at h
  refine lv_aload_n hx hb dL_law_404 rfl (lv_at hl 1 rfl) ?_
  refine lv_aload_n hx hb dL_law_405 rfl (lv_at hl 0 rfl) ?_
  refine lv_iload hx hb dL_law_406 (lv_at hl 4 rfl) ?_
  refine lv_iconst (v := 1) hx hb dL_law_408 (by decide) ?_
  refine lv_iadd hx hb dL_law_409 ?_
  obtain ⟨hi, h⟩ := zin_e h
  refine va_sld hx hb hXs hbl hbA hS hi dL_law_410 ?_
  refine lv_aload_n hx hb dL_law_411 rfl (lv_at hl 0 rfl) ?_
  refine lv_iload hx hb dL_law_412 (lv_at hl 4 rfl) ?_
  refine lv_iconst (v := 2) hx hb dL_law_414 (by decide) ?_
  refine lv_iadd hx hb dL_law_415 ?_
  obtain ⟨hi, h⟩ := zin_e h
  refine va_sld hx hb hXs hbl hbA hS hi dL_law_416 ?_
  obtain ⟨r_32, uO_33, uB_34, uP_35, hg, h⟩ := zb4_e h
  refine z_callL (As := [.ref (xO 0), .int ((xs ((l4 + (1 : Int32))).toNatClampNeg)), .int ((xs ((l4 + (2 : Int32))).toNatClampNeg))]) (rest := []) (hh := [(0, 6, 9, 13), (0, 6, 12, 19), (0, 6, 15, 21)]) ⟨hx, hb, hml, hown, hts⟩ (mL_open l hfl G xO hg) (vx_cwSW 3 hts gL_law_L_open rfl rfl rfl ksL_open ⟨Nat.le_of_ble_eq_true rfl, Nat.le_of_ble_eq_true rfl⟩) hP hD hK hN hX hH hS (Nat.le_refl _) [0, 1, 2] rfl rfl rfl rfl rfl hl.1 rfl (Nat.le_of_ble_eq_true rfl) dL_law_417 hr1 (fun H locs hP hS => ?_)
  replace hP : zP G (zLsh G xO xM xU) [uO_33, uB_34, uP_35, uA, uT, uR, uM, uU] H := hP
  refine lv_istore (lv' := [(5, .int r_32), (0, .ref (b)), (1, .ref (xO 0)), (2, .ref (xM 0)), (3, .ref (xU 0)), (4, .int l4)]) hx hb dL_law_420 hl (by decide) rfl (fun ls hl => ?_)
  refine lv_aload_n hx hb dL_law_422 rfl (lv_at hl 3 rfl) ?_
  refine lv_aload_n hx hb dL_law_423 rfl (lv_at hl 1 rfl) ?_
  refine lv_iload hx hb dL_law_424 (lv_at hl 5 rfl) ?_
  refine lv_iconst (v := 1) hx hb dL_law_426 (by decide) ?_
  refine lv_iadd hx hb dL_law_427 ?_
  obtain ⟨hi, h⟩ := zin_e h
  refine va_sld hx hb hXs hbl hbA hS hi dL_law_428 ?_
  refine lv_aload_n hx hb dL_law_429 rfl (lv_at hl 1 rfl) ?_
  refine lv_iload hx hb dL_law_430 (lv_at hl 5 rfl) ?_
  refine lv_iconst (v := 2) hx hb dL_law_432 (by decide) ?_
  refine lv_iadd hx hb dL_law_433 ?_
  obtain ⟨hi, h⟩ := zin_e h
  refine va_sld hx hb hXs hbl hbA hS hi dL_law_434 ?_
  obtain ⟨uM_36, hg, h⟩ := zb1_e h
  refine z_callV (As := [.int ((xs ((l4 + (1 : Int32))).toNatClampNeg)), .int ((xs ((l4 + (2 : Int32))).toNatClampNeg))]) (rest := []) (i := 0) ⟨hx, hb, hml, hown, hts⟩ (mX7_open l G (xM) hg) (cwV 2 hts gL_law_X7_open rfl rfl rfl kvX7_open ⟨Nat.le_of_ble_eq_true rfl, Nat.le_of_ble_eq_true rfl⟩) rfl hP hD hK hN hS (Nat.le_refl _) [6] rfl rfl rfl rfl 6 rfl rfl rfl rfl rfl hl.1 rfl (Nat.le_of_ble_eq_true rfl) dL_law_435 hr1 (fun H locs hP hS => ?_)
  replace hP : zP G (zLsh G xO xM xU) [uO_33, uB_34, uP_35, uA, uT, uR, uM_36, uU] H := hP
  refine lv_aload_n hx hb dL_law_438 rfl (lv_at hl 3 rfl) ?_
  obtain ⟨r_37, hg, h⟩ := zb1_e h
  refine z_callV (As := []) (rest := []) (i := 0) ⟨hx, hb, hml, hown, hts⟩ (mX7_thrown l G (xM) hg) (cwV 0 hts gL_law_X7_thrown rfl rfl rfl kvX7_thrown ⟨Nat.le_of_ble_eq_true rfl, Nat.le_of_ble_eq_true rfl⟩) rfl hP hD hK hN hS (Nat.le_refl _) [6] rfl rfl rfl rfl 6 rfl rfl rfl rfl rfl hl.1 rfl (Nat.le_of_ble_eq_true rfl) dL_law_439 hr1 (fun H locs hP hS => ?_)
  replace hP : zP G (zLsh G xO xM xU) [uO_33, uB_34, uP_35, uA, uT, uR, uM_36, uU] H := hP
  refine lv_iload hx hb dL_law_442 (lv_at hl 0 rfl) ?_
  refine lv_icmp_eq (tgt := 449) hx hb dL_law_444 (by decide) (fun hc => ?_) (fun hc => ?_)
  · replace h := zt hc h
    refine lv_goto (tgt := 1294) hx hb dL_law_449 (by decide) ?_
    refine W.widen (k := 157 + (j + 1)) (n := 4003 + 6 * (j + 1)) (by omega) (by omega) ?_
    exact tL_law_1294 C0 j K23 _ _ _ _ _ _ _ _ _ hj9 h _ _ hP hS _ (lv_sub hl [1, 2, 3, 4, 5] rfl)
  · replace h := zf hc h
    refine lv_iconst (v := 0) hx hb dL_law_447 (by decide) ?_
    cases h
set_option maxHeartbeats 4000000 in
set_option maxRecDepth 20000 in
theorem tL_law_452 (C0 : zLaw p l s m meth c b L xs G xO xM xU) (j : Nat) (hj : j < 64) {k23 : zSt → zSt → zSt → zSt → zSt → zSt → zSt → zSt → Int32 → Option Unit} (K23 : ∀ (uO : zSt) (uB : zSt) (uP : zSt) (uA : zSt) (uT : zSt) (uR : zSt) (uM : zSt) (uU : zSt) (l4 : Int32), l4 = nI (7 * (j + 1)) → k23 uO uB uP uA uT uR uM uU l4 = some () → ∀ (H : Heap) (locs : List Loc), zP G (zLsh G xO xM xU) [uO, uB, uP, uA, uT, uR, uM, uU] H → va_S (zA (zLsh G xO xM xU) s.heap.size) s.heap H locs → ∀ ls : Array Slot, lv_has ls 8 [(0, .ref (b)), (1, .ref (xO 0)), (2, .ref (xM 0)), (3, .ref (xU 0)), (4, .int l4)] → W p l e room_1 s m #[Value.ref b] below meth c H locs (157 + (j + 1)) (4003 + 6 * (j + 1)) (lw_Z below #[Value.ref b] s) (F0 m 23 ls [])) : ∀ (uO : zSt) (uB : zSt) (uP : zSt) (uA : zSt) (uT : zSt) (uR : zSt) (uM : zSt) (uU : zSt) (l4 : Int32), l4 = nI (7 * j) → bL_law_452 xs L k23 uO uB uP uA uT uR uM uU l4 = some () → ∀ (H : Heap) (locs : List Loc), zP G (zLsh G xO xM xU) [uO, uB, uP, uA, uT, uR, uM, uU] H → va_S (zA (zLsh G xO xM xU) s.heap.size) s.heap H locs → ∀ ls : Array Slot, lv_has ls 8 [(0, .ref (b)), (1, .ref (xO 0)), (2, .ref (xM 0)), (3, .ref (xU 0)), (4, .int l4)] → W p l e room_1 s m #[Value.ref b] below meth c H locs (157 + j) (4003 + 6 * j) (lw_Z below #[Value.ref b] s) (F0 m 452 ls []) := by
  obtain ⟨hx, hb, hr, hml, hown, hts, hlk, hK, hN, hD, hX, hH, hfl, hXs, hbl, hbA, hge, hL⟩ := id C0
  have hr0 : 157 + j ≤ room_1.cells ∧ 4003 + 6 * j ≤ room_1.slots := ⟨by show 157 + j ≤ 221; omega, by show 4003 + 6 * j ≤ 4387; omega⟩
  have hr1 : 157 + j + 1 ≤ room_1.cells ∧ 4003 + 6 * j + 6 ≤ room_1.slots := ⟨by show 157 + j + 1 ≤ 221; omega, by show 4003 + 6 * j + 6 ≤ 4387; omega⟩
  intro uO uB uP uA uT uR uM uU l4 hj9 h H locs hP hS ls hl
  unfold bL_law_452 at h
  refine lv_aload_n hx hb dL_law_452 rfl (lv_at hl 1 rfl) ?_
  refine lv_aload_n hx hb dL_law_453 rfl (lv_at hl 3 rfl) ?_
  obtain ⟨r_38, uO_39, uB_40, uP_41, uU_42, hg, h⟩ := zb5_e h
  refine z_callL (As := [.ref (xO 0), .ref (xU 0)]) (rest := []) (hh := [(0, 8, 11, 19), (0, 8, 14, 21)]) ⟨hx, hb, hml, hown, hts⟩ (mL_finish l hfl G xO xU hg) (vx_cwSW 2 hts gL_law_L_finish rfl rfl rfl ksL_finish ⟨Nat.le_of_ble_eq_true rfl, Nat.le_of_ble_eq_true rfl⟩) hP hD hK hN hX hH hS (Nat.le_refl _) [0, 1, 2, 7] rfl rfl rfl rfl rfl hl.1 rfl (Nat.le_of_ble_eq_true rfl) dL_law_454 hr1 (fun H locs hP hS => ?_)
  replace hP : zP G (zLsh G xO xM xU) [uO_39, uB_40, uP_41, uA, uT, uR, uM, uU_42] H := hP
  refine lv_istore (lv' := [(5, .int r_38), (0, .ref (b)), (1, .ref (xO 0)), (2, .ref (xM 0)), (3, .ref (xU 0)), (4, .int l4)]) hx hb dL_law_457 hl (by decide) rfl (fun ls hl => ?_)
  refine lv_aload_n hx hb dL_law_459 rfl (lv_at hl 3 rfl) ?_
  obtain ⟨r_43, uM_44, hg, h⟩ := zb2_e h
  refine z_callV (As := []) (rest := []) (i := 0) ⟨hx, hb, hml, hown, hts⟩ (mX7_finish l G (xM) hg) (cwV 0 hts gL_law_X7_finish rfl rfl rfl kvX7_finish ⟨Nat.le_of_ble_eq_true rfl, Nat.le_of_ble_eq_true rfl⟩) rfl hP hD hK hN hS (Nat.le_refl _) [6] rfl rfl rfl rfl 6 rfl rfl rfl rfl rfl hl.1 rfl (Nat.le_of_ble_eq_true rfl) dL_law_460 hr1 (fun H locs hP hS => ?_)
  replace hP : zP G (zLsh G xO xM xU) [uO_39, uB_40, uP_41, uA, uT, uR, uM_44, uU_42] H := hP
  refine lv_istore (lv' := [(6, .int r_43), (5, .int r_38), (0, .ref (b)), (1, .ref (xO 0)), (2, .ref (xM 0)), (3, .ref (xU 0)), (4, .int l4)]) hx hb dL_law_463 hl (by decide) rfl (fun ls hl => ?_)
  refine lv_aload_n hx hb dL_law_465 rfl (lv_at hl 4 rfl) ?_
  obtain ⟨r_45, hg, h⟩ := zb1_e h
  refine z_callV (As := []) (rest := []) (i := 0) ⟨hx, hb, hml, hown, hts⟩ (mX7_thrown l G (xM) hg) (cwV 0 hts gL_law_X7_thrown rfl rfl rfl kvX7_thrown ⟨Nat.le_of_ble_eq_true rfl, Nat.le_of_ble_eq_true rfl⟩) rfl hP hD hK hN hS (Nat.le_refl _) [6] rfl rfl rfl rfl 6 rfl rfl rfl rfl rfl hl.1 rfl (Nat.le_of_ble_eq_true rfl) dL_law_466 hr1 (fun H locs hP hS => ?_)
  replace hP : zP G (zLsh G xO xM xU) [uO_39, uB_40, uP_41, uA, uT, uR, uM_44, uU_42] H := hP
  refine lv_iload hx hb dL_law_469 (lv_at hl 1 rfl) ?_
  refine lv_icmp_eq (tgt := 476) hx hb dL_law_471 (by decide) (fun hc => ?_) (fun hc => ?_)
  · replace h := zt hc h
    refine lv_iload hx hb dL_law_476 (lv_at hl 1 rfl) ?_
    refine lv_if_ne (tgt := 493) hx hb dL_law_478 (by decide) (fun hc => ?_) (fun hc => ?_)
    · replace h := zf hc h
      refine lv_goto (tgt := 1294) hx hb dL_law_493 (by decide) ?_
      refine W.widen (k := 157 + (j + 1)) (n := 4003 + 6 * (j + 1)) (by omega) (by omega) ?_
      exact tL_law_1294 C0 j K23 _ _ _ _ _ _ _ _ _ hj9 h _ _ hP hS _ (lv_sub hl [2, 3, 4, 5, 6] rfl)
    · replace h := zt hc h
      refine lv_aload_n hx hb dL_law_481 rfl (lv_at hl 5 rfl) ?_
      refine lv_iconst (v := 0) hx hb dL_law_482 (by decide) ?_
      refine aU_0 hx hb hK hP 7 (xU) rfl rfl (zvi tn_0 n0_0 (by decide)) tn_0 dL_law_483 ?_
      refine lv_iload hx hb dL_law_484 (lv_at hl 0 rfl) ?_
      refine lv_i2l (v := r_43.toInt64) hx hb dL_law_486 rfl ?_
      refine W.lcmp hx hb dL_law_487 ?_
      refine lv_if_eq (tgt := 493) hx hb dL_law_488 (by decide) (fun hc => ?_) (fun hc => ?_)
      · replace h := zt hc h
        refine lv_goto (tgt := 1294) hx hb dL_law_493 (by decide) ?_
        refine W.widen (k := 157 + (j + 1)) (n := 4003 + 6 * (j + 1)) (by omega) (by omega) ?_
        exact tL_law_1294 C0 j K23 _ _ _ _ _ _ _ _ _ hj9 h _ _ hP hS _ (lv_sub hl [2, 3, 4, 5, 6] rfl)
      · replace h := zf hc h
        refine lv_iconst (v := 0) hx hb dL_law_491 (by decide) ?_
        cases h
  · replace h := zf hc h
    refine lv_iconst (v := 0) hx hb dL_law_474 (by decide) ?_
    cases h
set_option maxHeartbeats 4000000 in
set_option maxRecDepth 20000 in
theorem tL_law_496 (C0 : zLaw p l s m meth c b L xs G xO xM xU) (j : Nat) (hj : j < 64) {k23 : zSt → zSt → zSt → zSt → zSt → zSt → zSt → zSt → Int32 → Option Unit} (K23 : ∀ (uO : zSt) (uB : zSt) (uP : zSt) (uA : zSt) (uT : zSt) (uR : zSt) (uM : zSt) (uU : zSt) (l4 : Int32), l4 = nI (7 * (j + 1)) → k23 uO uB uP uA uT uR uM uU l4 = some () → ∀ (H : Heap) (locs : List Loc), zP G (zLsh G xO xM xU) [uO, uB, uP, uA, uT, uR, uM, uU] H → va_S (zA (zLsh G xO xM xU) s.heap.size) s.heap H locs → ∀ ls : Array Slot, lv_has ls 8 [(0, .ref (b)), (1, .ref (xO 0)), (2, .ref (xM 0)), (3, .ref (xU 0)), (4, .int l4)] → W p l e room_1 s m #[Value.ref b] below meth c H locs (157 + (j + 1)) (4003 + 6 * (j + 1)) (lw_Z below #[Value.ref b] s) (F0 m 23 ls [])) : ∀ (uO : zSt) (uB : zSt) (uP : zSt) (uA : zSt) (uT : zSt) (uR : zSt) (uM : zSt) (uU : zSt) (l4 : Int32), l4 = nI (7 * j) → bL_law_496 xs L k23 uO uB uP uA uT uR uM uU l4 = some () → ∀ (H : Heap) (locs : List Loc), zP G (zLsh G xO xM xU) [uO, uB, uP, uA, uT, uR, uM, uU] H → va_S (zA (zLsh G xO xM xU) s.heap.size) s.heap H locs → ∀ ls : Array Slot, lv_has ls 8 [(0, .ref (b)), (1, .ref (xO 0)), (2, .ref (xM 0)), (3, .ref (xU 0)), (4, .int l4)] → W p l e room_1 s m #[Value.ref b] below meth c H locs (157 + j) (4003 + 6 * j) (lw_Z below #[Value.ref b] s) (F0 m 496 ls []) := by
  obtain ⟨hx, hb, hr, hml, hown, hts, hlk, hK, hN, hD, hX, hH, hfl, hXs, hbl, hbA, hge, hL⟩ := id C0
  have hr0 : 157 + j ≤ room_1.cells ∧ 4003 + 6 * j ≤ room_1.slots := ⟨by show 157 + j ≤ 221; omega, by show 4003 + 6 * j ≤ 4387; omega⟩
  have hr1 : 157 + j + 1 ≤ room_1.cells ∧ 4003 + 6 * j + 6 ≤ room_1.slots := ⟨by show 157 + j + 1 ≤ 221; omega, by show 4003 + 6 * j + 6 ≤ 4387; omega⟩
  intro uO uB uP uA uT uR uM uU l4 hj9 h H locs hP hS ls hl
  unfold bL_law_496 at h
  refine lv_aload_n hx hb dL_law_496 rfl (lv_at hl 1 rfl) ?_
  obtain ⟨r_46, hg, h⟩ := zb1_e h
  refine z_callV (As := []) (rest := []) (i := 0) ⟨hx, hb, hml, hown, hts⟩ (mX6_phase l G (xO) hg) (cwV 0 hts gL_law_X6_phase rfl rfl rfl kvX6_phase ⟨Nat.le_of_ble_eq_true rfl, Nat.le_of_ble_eq_true rfl⟩) rfl hP hD hK hN hS (Nat.le_refl _) [0] rfl rfl rfl rfl 0 rfl rfl rfl rfl rfl hl.1 rfl (Nat.le_of_ble_eq_true rfl) dL_law_497 hr0 (fun H locs hP hS => ?_)
  replace hP : zP G (zLsh G xO xM xU) [uO, uB, uP, uA, uT, uR, uM, uU] H := hP
  refine lv_aload_n hx hb dL_law_500 rfl (lv_at hl 2 rfl) ?_
  obtain ⟨r_47, uM_48, hg, h⟩ := zb2_e h
  refine z_callV (As := []) (rest := [.int r_46]) (i := 0) ⟨hx, hb, hml, hown, hts⟩ (mX7_phase l G (xM) hg) (cwV 0 hts gL_law_X7_phase rfl rfl rfl kvX7_phase ⟨Nat.le_of_ble_eq_true rfl, Nat.le_of_ble_eq_true rfl⟩) rfl hP hD hK hN hS (Nat.le_refl _) [6] rfl rfl rfl rfl 6 rfl rfl rfl rfl rfl hl.1 rfl (Nat.le_of_ble_eq_true rfl) dL_law_501 hr0 (fun H locs hP hS => ?_)
  replace hP : zP G (zLsh G xO xM xU) [uO, uB, uP, uA, uT, uR, uM_48, uU] H := hP
  refine lv_icmp_eq (tgt := 1294) hx hb dL_law_504 (by decide) (fun hc => ?_) (fun hc => ?_)
  · replace h := zt hc h
    refine W.widen (k := 157 + (j + 1)) (n := 4003 + 6 * (j + 1)) (by omega) (by omega) ?_
    exact tL_law_1294 C0 j K23 _ _ _ _ _ _ _ _ _ hj9 h _ _ hP hS _ (lv_sub hl [0, 1, 2, 3, 4] rfl)
  · replace h := zf hc h
    refine lv_iconst (v := 0) hx hb dL_law_507 (by decide) ?_
    cases h
set_option maxHeartbeats 4000000 in
set_option maxRecDepth 20000 in
theorem tL_law_509 (C0 : zLaw p l s m meth c b L xs G xO xM xU) (j : Nat) (hj : j < 64) {k23 : zSt → zSt → zSt → zSt → zSt → zSt → zSt → zSt → Int32 → Option Unit} (K23 : ∀ (uO : zSt) (uB : zSt) (uP : zSt) (uA : zSt) (uT : zSt) (uR : zSt) (uM : zSt) (uU : zSt) (l4 : Int32), l4 = nI (7 * (j + 1)) → k23 uO uB uP uA uT uR uM uU l4 = some () → ∀ (H : Heap) (locs : List Loc), zP G (zLsh G xO xM xU) [uO, uB, uP, uA, uT, uR, uM, uU] H → va_S (zA (zLsh G xO xM xU) s.heap.size) s.heap H locs → ∀ ls : Array Slot, lv_has ls 8 [(0, .ref (b)), (1, .ref (xO 0)), (2, .ref (xM 0)), (3, .ref (xU 0)), (4, .int l4)] → W p l e room_1 s m #[Value.ref b] below meth c H locs (157 + (j + 1)) (4003 + 6 * (j + 1)) (lw_Z below #[Value.ref b] s) (F0 m 23 ls [])) : ∀ (uO : zSt) (uB : zSt) (uP : zSt) (uA : zSt) (uT : zSt) (uR : zSt) (uM : zSt) (uU : zSt) (l4 : Int32), l4 = nI (7 * j) → bL_law_509 xs L k23 uO uB uP uA uT uR uM uU l4 = some () → ∀ (H : Heap) (locs : List Loc), zP G (zLsh G xO xM xU) [uO, uB, uP, uA, uT, uR, uM, uU] H → va_S (zA (zLsh G xO xM xU) s.heap.size) s.heap H locs → ∀ ls : Array Slot, lv_has ls 8 [(0, .ref (b)), (1, .ref (xO 0)), (2, .ref (xM 0)), (3, .ref (xU 0)), (4, .int l4)] → W p l e room_1 s m #[Value.ref b] below meth c H locs (157 + j) (4003 + 6 * j) (lw_Z below #[Value.ref b] s) (F0 m 509 ls []) := by
  obtain ⟨hx, hb, hr, hml, hown, hts, hlk, hK, hN, hD, hX, hH, hfl, hXs, hbl, hbA, hge, hL⟩ := id C0
  have hr0 : 157 + j ≤ room_1.cells ∧ 4003 + 6 * j ≤ room_1.slots := ⟨by show 157 + j ≤ 221; omega, by show 4003 + 6 * j ≤ 4387; omega⟩
  have hr1 : 157 + j + 1 ≤ room_1.cells ∧ 4003 + 6 * j + 6 ≤ room_1.slots := ⟨by show 157 + j + 1 ≤ 221; omega, by show 4003 + 6 * j + 6 ≤ 4387; omega⟩
  intro uO uB uP uA uT uR uM uU l4 hj9 h H locs hP hS ls hl
  unfold bL_law_509 at h
  refine lv_aload_n hx hb dL_law_509 rfl (lv_at hl 1 rfl) ?_
  refine lv_aload_n hx hb dL_law_510 rfl (lv_at hl 0 rfl) ?_
  refine lv_iload hx hb dL_law_511 (lv_at hl 4 rfl) ?_
  refine lv_iconst (v := 1) hx hb dL_law_513 (by decide) ?_
  refine lv_iadd hx hb dL_law_514 ?_
  obtain ⟨hi, h⟩ := zin_e h
  refine va_sld hx hb hXs hbl hbA hS hi dL_law_515 ?_
  refine lv_aload_n hx hb dL_law_516 rfl (lv_at hl 3 rfl) ?_
  obtain ⟨r_49, uU_50, hg, h⟩ := zb2_e h
  refine z_callL (As := [.ref (xO 0), .int ((xs ((l4 + (1 : Int32))).toNatClampNeg)), .ref (xU 0)]) (rest := []) (hh := [(0, 9, 12, 13)]) ⟨hx, hb, hml, hown, hts⟩ (mL_votes l hfl G xO xU hg) (vx_cwSW 3 hts gL_law_L_votes rfl rfl rfl ksL_votes ⟨Nat.le_of_ble_eq_true rfl, Nat.le_of_ble_eq_true rfl⟩) hP hD hK hN hX hH hS (Nat.le_refl _) [0, 2, 7] rfl rfl rfl rfl rfl hl.1 rfl (Nat.le_of_ble_eq_true rfl) dL_law_517 hr1 (fun H locs hP hS => ?_)
  replace hP : zP G (zLsh G xO xM xU) [uO, uB, uP, uA, uT, uR, uM, uU_50] H := hP
  refine lv_istore (lv' := [(5, .int r_49), (0, .ref (b)), (1, .ref (xO 0)), (2, .ref (xM 0)), (3, .ref (xU 0)), (4, .int l4)]) hx hb dL_law_520 hl (by decide) rfl (fun ls hl => ?_)
  refine lv_aload_n hx hb dL_law_522 rfl (lv_at hl 3 rfl) ?_
  refine lv_aload_n hx hb dL_law_523 rfl (lv_at hl 1 rfl) ?_
  refine lv_iload hx hb dL_law_524 (lv_at hl 5 rfl) ?_
  refine lv_iconst (v := 1) hx hb dL_law_526 (by decide) ?_
  refine lv_iadd hx hb dL_law_527 ?_
  obtain ⟨hi, h⟩ := zin_e h
  refine va_sld hx hb hXs hbl hbA hS hi dL_law_528 ?_
  obtain ⟨r_51, uM_52, hg, h⟩ := zb2_e h
  refine z_callV (As := [.int ((xs ((l4 + (1 : Int32))).toNatClampNeg))]) (rest := []) (i := 0) ⟨hx, hb, hml, hown, hts⟩ (mX7_votes l G (xM) hg) (cwV 1 hts gL_law_X7_votes rfl rfl rfl kvX7_votes ⟨Nat.le_of_ble_eq_true rfl, Nat.le_of_ble_eq_true rfl⟩) rfl hP hD hK hN hS (Nat.le_refl _) [6] rfl rfl rfl rfl 6 rfl rfl rfl rfl rfl hl.1 rfl (Nat.le_of_ble_eq_true rfl) dL_law_529 hr1 (fun H locs hP hS => ?_)
  replace hP : zP G (zLsh G xO xM xU) [uO, uB, uP, uA, uT, uR, uM_52, uU_50] H := hP
  refine lv_istore (lv' := [(6, .int r_51), (5, .int r_49), (0, .ref (b)), (1, .ref (xO 0)), (2, .ref (xM 0)), (3, .ref (xU 0)), (4, .int l4)]) hx hb dL_law_532 hl (by decide) rfl (fun ls hl => ?_)
  refine lv_aload_n hx hb dL_law_534 rfl (lv_at hl 4 rfl) ?_
  obtain ⟨r_53, hg, h⟩ := zb1_e h
  refine z_callV (As := []) (rest := []) (i := 0) ⟨hx, hb, hml, hown, hts⟩ (mX7_thrown l G (xM) hg) (cwV 0 hts gL_law_X7_thrown rfl rfl rfl kvX7_thrown ⟨Nat.le_of_ble_eq_true rfl, Nat.le_of_ble_eq_true rfl⟩) rfl hP hD hK hN hS (Nat.le_refl _) [6] rfl rfl rfl rfl 6 rfl rfl rfl rfl rfl hl.1 rfl (Nat.le_of_ble_eq_true rfl) dL_law_535 hr1 (fun H locs hP hS => ?_)
  replace hP : zP G (zLsh G xO xM xU) [uO, uB, uP, uA, uT, uR, uM_52, uU_50] H := hP
  refine lv_iload hx hb dL_law_538 (lv_at hl 1 rfl) ?_
  refine lv_icmp_eq (tgt := 545) hx hb dL_law_540 (by decide) (fun hc => ?_) (fun hc => ?_)
  · replace h := zt hc h
    refine lv_iload hx hb dL_law_545 (lv_at hl 1 rfl) ?_
    refine lv_if_ne (tgt := 562) hx hb dL_law_547 (by decide) (fun hc => ?_) (fun hc => ?_)
    · replace h := zf hc h
      refine lv_goto (tgt := 1294) hx hb dL_law_562 (by decide) ?_
      refine W.widen (k := 157 + (j + 1)) (n := 4003 + 6 * (j + 1)) (by omega) (by omega) ?_
      exact tL_law_1294 C0 j K23 _ _ _ _ _ _ _ _ _ hj9 h _ _ hP hS _ (lv_sub hl [2, 3, 4, 5, 6] rfl)
    · replace h := zt hc h
      refine lv_aload_n hx hb dL_law_550 rfl (lv_at hl 5 rfl) ?_
      refine lv_iconst (v := 0) hx hb dL_law_551 (by decide) ?_
      refine aU_0 hx hb hK hP 7 (xU) rfl rfl (zvi tn_0 n0_0 (by decide)) tn_0 dL_law_552 ?_
      refine lv_iload hx hb dL_law_553 (lv_at hl 0 rfl) ?_
      refine lv_i2l (v := r_51.toInt64) hx hb dL_law_555 rfl ?_
      refine W.lcmp hx hb dL_law_556 ?_
      refine lv_if_eq (tgt := 562) hx hb dL_law_557 (by decide) (fun hc => ?_) (fun hc => ?_)
      · replace h := zt hc h
        refine lv_goto (tgt := 1294) hx hb dL_law_562 (by decide) ?_
        refine W.widen (k := 157 + (j + 1)) (n := 4003 + 6 * (j + 1)) (by omega) (by omega) ?_
        exact tL_law_1294 C0 j K23 _ _ _ _ _ _ _ _ _ hj9 h _ _ hP hS _ (lv_sub hl [2, 3, 4, 5, 6] rfl)
      · replace h := zf hc h
        refine lv_iconst (v := 0) hx hb dL_law_560 (by decide) ?_
        cases h
  · replace h := zf hc h
    refine lv_iconst (v := 0) hx hb dL_law_543 (by decide) ?_
    cases h
set_option maxHeartbeats 4000000 in
set_option maxRecDepth 20000 in
theorem tL_law_565 (C0 : zLaw p l s m meth c b L xs G xO xM xU) (j : Nat) (hj : j < 64) {k23 : zSt → zSt → zSt → zSt → zSt → zSt → zSt → zSt → Int32 → Option Unit} (K23 : ∀ (uO : zSt) (uB : zSt) (uP : zSt) (uA : zSt) (uT : zSt) (uR : zSt) (uM : zSt) (uU : zSt) (l4 : Int32), l4 = nI (7 * (j + 1)) → k23 uO uB uP uA uT uR uM uU l4 = some () → ∀ (H : Heap) (locs : List Loc), zP G (zLsh G xO xM xU) [uO, uB, uP, uA, uT, uR, uM, uU] H → va_S (zA (zLsh G xO xM xU) s.heap.size) s.heap H locs → ∀ ls : Array Slot, lv_has ls 8 [(0, .ref (b)), (1, .ref (xO 0)), (2, .ref (xM 0)), (3, .ref (xU 0)), (4, .int l4)] → W p l e room_1 s m #[Value.ref b] below meth c H locs (157 + (j + 1)) (4003 + 6 * (j + 1)) (lw_Z below #[Value.ref b] s) (F0 m 23 ls [])) : ∀ (uO : zSt) (uB : zSt) (uP : zSt) (uA : zSt) (uT : zSt) (uR : zSt) (uM : zSt) (uU : zSt) (l4 : Int32), l4 = nI (7 * j) → bL_law_565 xs L k23 uO uB uP uA uT uR uM uU l4 = some () → ∀ (H : Heap) (locs : List Loc), zP G (zLsh G xO xM xU) [uO, uB, uP, uA, uT, uR, uM, uU] H → va_S (zA (zLsh G xO xM xU) s.heap.size) s.heap H locs → ∀ ls : Array Slot, lv_has ls 8 [(0, .ref (b)), (1, .ref (xO 0)), (2, .ref (xM 0)), (3, .ref (xU 0)), (4, .int l4)] → W p l e room_1 s m #[Value.ref b] below meth c H locs (157 + j) (4003 + 6 * j) (lw_Z below #[Value.ref b] s) (F0 m 565 ls []) := by
  obtain ⟨hx, hb, hr, hml, hown, hts, hlk, hK, hN, hD, hX, hH, hfl, hXs, hbl, hbA, hge, hL⟩ := id C0
  have hr0 : 157 + j ≤ room_1.cells ∧ 4003 + 6 * j ≤ room_1.slots := ⟨by show 157 + j ≤ 221; omega, by show 4003 + 6 * j ≤ 4387; omega⟩
  have hr1 : 157 + j + 1 ≤ room_1.cells ∧ 4003 + 6 * j + 6 ≤ room_1.slots := ⟨by show 157 + j + 1 ≤ 221; omega, by show 4003 + 6 * j + 6 ≤ 4387; omega⟩
  intro uO uB uP uA uT uR uM uU l4 hj9 h H locs hP hS ls hl
  unfold bL_law_565 at h
  refine lv_aload_n hx hb dL_law_565 rfl (lv_at hl 1 rfl) ?_
  obtain ⟨r_54, hg, h⟩ := zb1_e h
  refine z_callV (As := []) (rest := []) (i := 0) ⟨hx, hb, hml, hown, hts⟩ (mX6_records l G (xO) hg) (cwV 0 hts gL_law_X6_records rfl rfl rfl kvX6_records ⟨Nat.le_of_ble_eq_true rfl, Nat.le_of_ble_eq_true rfl⟩) rfl hP hD hK hN hS (Nat.le_refl _) [0, 1] rfl rfl rfl rfl 0 rfl rfl rfl rfl rfl hl.1 rfl (Nat.le_of_ble_eq_true rfl) dL_law_566 hr0 (fun H locs hP hS => ?_)
  replace hP : zP G (zLsh G xO xM xU) [uO, uB, uP, uA, uT, uR, uM, uU] H := hP
  refine lv_aload_n hx hb dL_law_569 rfl (lv_at hl 2 rfl) ?_
  obtain ⟨r_55, uM_56, hg, h⟩ := zb2_e h
  refine z_callV (As := []) (rest := [.int r_54]) (i := 0) ⟨hx, hb, hml, hown, hts⟩ (mX7_records l G (xM) hg) (cwV 0 hts gL_law_X7_records rfl rfl rfl kvX7_records ⟨Nat.le_of_ble_eq_true rfl, Nat.le_of_ble_eq_true rfl⟩) rfl hP hD hK hN hS (Nat.le_refl _) [6] rfl rfl rfl rfl 6 rfl rfl rfl rfl rfl hl.1 rfl (Nat.le_of_ble_eq_true rfl) dL_law_570 hr0 (fun H locs hP hS => ?_)
  replace hP : zP G (zLsh G xO xM xU) [uO, uB, uP, uA, uT, uR, uM_56, uU] H := hP
  refine lv_icmp_eq (tgt := 1294) hx hb dL_law_573 (by decide) (fun hc => ?_) (fun hc => ?_)
  · replace h := zt hc h
    refine W.widen (k := 157 + (j + 1)) (n := 4003 + 6 * (j + 1)) (by omega) (by omega) ?_
    exact tL_law_1294 C0 j K23 _ _ _ _ _ _ _ _ _ hj9 h _ _ hP hS _ (lv_sub hl [0, 1, 2, 3, 4] rfl)
  · replace h := zf hc h
    refine lv_iconst (v := 0) hx hb dL_law_576 (by decide) ?_
    cases h
set_option maxHeartbeats 4000000 in
set_option maxRecDepth 20000 in
theorem tL_law_578 (C0 : zLaw p l s m meth c b L xs G xO xM xU) (j : Nat) (hj : j < 64) {k23 : zSt → zSt → zSt → zSt → zSt → zSt → zSt → zSt → Int32 → Option Unit} (K23 : ∀ (uO : zSt) (uB : zSt) (uP : zSt) (uA : zSt) (uT : zSt) (uR : zSt) (uM : zSt) (uU : zSt) (l4 : Int32), l4 = nI (7 * (j + 1)) → k23 uO uB uP uA uT uR uM uU l4 = some () → ∀ (H : Heap) (locs : List Loc), zP G (zLsh G xO xM xU) [uO, uB, uP, uA, uT, uR, uM, uU] H → va_S (zA (zLsh G xO xM xU) s.heap.size) s.heap H locs → ∀ ls : Array Slot, lv_has ls 8 [(0, .ref (b)), (1, .ref (xO 0)), (2, .ref (xM 0)), (3, .ref (xU 0)), (4, .int l4)] → W p l e room_1 s m #[Value.ref b] below meth c H locs (157 + (j + 1)) (4003 + 6 * (j + 1)) (lw_Z below #[Value.ref b] s) (F0 m 23 ls [])) : ∀ (uO : zSt) (uB : zSt) (uP : zSt) (uA : zSt) (uT : zSt) (uR : zSt) (uM : zSt) (uU : zSt) (l4 : Int32), l4 = nI (7 * j) → bL_law_578 xs L k23 uO uB uP uA uT uR uM uU l4 = some () → ∀ (H : Heap) (locs : List Loc), zP G (zLsh G xO xM xU) [uO, uB, uP, uA, uT, uR, uM, uU] H → va_S (zA (zLsh G xO xM xU) s.heap.size) s.heap H locs → ∀ ls : Array Slot, lv_has ls 8 [(0, .ref (b)), (1, .ref (xO 0)), (2, .ref (xM 0)), (3, .ref (xU 0)), (4, .int l4)] → W p l e room_1 s m #[Value.ref b] below meth c H locs (157 + j) (4003 + 6 * j) (lw_Z below #[Value.ref b] s) (F0 m 578 ls []) := by
  obtain ⟨hx, hb, hr, hml, hown, hts, hlk, hK, hN, hD, hX, hH, hfl, hXs, hbl, hbA, hge, hL⟩ := id C0
  have hr0 : 157 + j ≤ room_1.cells ∧ 4003 + 6 * j ≤ room_1.slots := ⟨by show 157 + j ≤ 221; omega, by show 4003 + 6 * j ≤ 4387; omega⟩
  have hr1 : 157 + j + 1 ≤ room_1.cells ∧ 4003 + 6 * j + 6 ≤ room_1.slots := ⟨by show 157 + j + 1 ≤ 221; omega, by show 4003 + 6 * j + 6 ≤ 4387; omega⟩
  intro uO uB uP uA uT uR uM uU l4 hj9 h H locs hP hS ls hl
  unfold bL_law_578 at h
  refine lv_aload_n hx hb dL_law_578 rfl (lv_at hl 1 rfl) ?_
  refine lv_aload_n hx hb dL_law_579 rfl (lv_at hl 0 rfl) ?_
  refine lv_iload hx hb dL_law_580 (lv_at hl 4 rfl) ?_
  refine lv_iconst (v := 1) hx hb dL_law_582 (by decide) ?_
  refine lv_iadd hx hb dL_law_583 ?_
  obtain ⟨hi, h⟩ := zin_e h
  refine va_sld hx hb hXs hbl hbA hS hi dL_law_584 ?_
  refine lv_aload_n hx hb dL_law_585 rfl (lv_at hl 0 rfl) ?_
  refine lv_iload hx hb dL_law_586 (lv_at hl 4 rfl) ?_
  refine lv_iconst (v := 2) hx hb dL_law_588 (by decide) ?_
  refine lv_iadd hx hb dL_law_589 ?_
  obtain ⟨hi, h⟩ := zin_e h
  refine va_sld hx hb hXs hbl hbA hS hi dL_law_590 ?_
  refine lv_aload_n hx hb dL_law_591 rfl (lv_at hl 3 rfl) ?_
  obtain ⟨r_57, uU_58, hg, h⟩ := zb2_e h
  refine z_callL (As := [.ref (xO 0), .int ((xs ((l4 + (1 : Int32))).toNatClampNeg)), .int ((xs ((l4 + (2 : Int32))).toNatClampNeg)), .ref (xU 0)]) (rest := []) (hh := [(0, 10, 13, 49)]) ⟨hx, hb, hml, hown, hts⟩ (mL_field l hfl G xO xU hg) (vx_cwSW 4 hts gL_law_L_field rfl rfl rfl ksL_field ⟨Nat.le_of_ble_eq_true rfl, Nat.le_of_ble_eq_true rfl⟩) hP hD hK hN hX hH hS (Nat.le_refl _) [0, 1, 7] rfl rfl rfl rfl rfl hl.1 rfl (Nat.le_of_ble_eq_true rfl) dL_law_592 hr1 (fun H locs hP hS => ?_)
  replace hP : zP G (zLsh G xO xM xU) [uO, uB, uP, uA, uT, uR, uM, uU_58] H := hP
  refine lv_istore (lv' := [(5, .int r_57), (0, .ref (b)), (1, .ref (xO 0)), (2, .ref (xM 0)), (3, .ref (xU 0)), (4, .int l4)]) hx hb dL_law_595 hl (by decide) rfl (fun ls hl => ?_)
  refine lv_aload_n hx hb dL_law_597 rfl (lv_at hl 3 rfl) ?_
  refine lv_aload_n hx hb dL_law_598 rfl (lv_at hl 1 rfl) ?_
  refine lv_iload hx hb dL_law_599 (lv_at hl 5 rfl) ?_
  refine lv_iconst (v := 1) hx hb dL_law_601 (by decide) ?_
  refine lv_iadd hx hb dL_law_602 ?_
  obtain ⟨hi, h⟩ := zin_e h
  refine va_sld hx hb hXs hbl hbA hS hi dL_law_603 ?_
  refine lv_aload_n hx hb dL_law_604 rfl (lv_at hl 1 rfl) ?_
  refine lv_iload hx hb dL_law_605 (lv_at hl 5 rfl) ?_
  refine lv_iconst (v := 2) hx hb dL_law_607 (by decide) ?_
  refine lv_iadd hx hb dL_law_608 ?_
  obtain ⟨hi, h⟩ := zin_e h
  refine va_sld hx hb hXs hbl hbA hS hi dL_law_609 ?_
  obtain ⟨r_59, uM_60, hg, h⟩ := zb2_e h
  refine z_callV (As := [.int ((xs ((l4 + (1 : Int32))).toNatClampNeg)), .int ((xs ((l4 + (2 : Int32))).toNatClampNeg))]) (rest := []) (i := 0) ⟨hx, hb, hml, hown, hts⟩ (mX7_field l G (xM) hg) (cwV 2 hts gL_law_X7_field rfl rfl rfl kvX7_field ⟨Nat.le_of_ble_eq_true rfl, Nat.le_of_ble_eq_true rfl⟩) rfl hP hD hK hN hS (Nat.le_refl _) [6] rfl rfl rfl rfl 6 rfl rfl rfl rfl rfl hl.1 rfl (Nat.le_of_ble_eq_true rfl) dL_law_610 hr1 (fun H locs hP hS => ?_)
  replace hP : zP G (zLsh G xO xM xU) [uO, uB, uP, uA, uT, uR, uM_60, uU_58] H := hP
  refine lv_istore (lv' := [(6, .int r_59), (5, .int r_57), (0, .ref (b)), (1, .ref (xO 0)), (2, .ref (xM 0)), (3, .ref (xU 0)), (4, .int l4)]) hx hb dL_law_613 hl (by decide) rfl (fun ls hl => ?_)
  refine lv_aload_n hx hb dL_law_615 rfl (lv_at hl 4 rfl) ?_
  obtain ⟨r_61, hg, h⟩ := zb1_e h
  refine z_callV (As := []) (rest := []) (i := 0) ⟨hx, hb, hml, hown, hts⟩ (mX7_thrown l G (xM) hg) (cwV 0 hts gL_law_X7_thrown rfl rfl rfl kvX7_thrown ⟨Nat.le_of_ble_eq_true rfl, Nat.le_of_ble_eq_true rfl⟩) rfl hP hD hK hN hS (Nat.le_refl _) [6] rfl rfl rfl rfl 6 rfl rfl rfl rfl rfl hl.1 rfl (Nat.le_of_ble_eq_true rfl) dL_law_616 hr1 (fun H locs hP hS => ?_)
  replace hP : zP G (zLsh G xO xM xU) [uO, uB, uP, uA, uT, uR, uM_60, uU_58] H := hP
  refine lv_iload hx hb dL_law_619 (lv_at hl 1 rfl) ?_
  refine lv_icmp_eq (tgt := 626) hx hb dL_law_621 (by decide) (fun hc => ?_) (fun hc => ?_)
  · replace h := zt hc h
    refine lv_iload hx hb dL_law_626 (lv_at hl 1 rfl) ?_
    refine lv_if_ne (tgt := 643) hx hb dL_law_628 (by decide) (fun hc => ?_) (fun hc => ?_)
    · replace h := zf hc h
      refine lv_goto (tgt := 1294) hx hb dL_law_643 (by decide) ?_
      refine W.widen (k := 157 + (j + 1)) (n := 4003 + 6 * (j + 1)) (by omega) (by omega) ?_
      exact tL_law_1294 C0 j K23 _ _ _ _ _ _ _ _ _ hj9 h _ _ hP hS _ (lv_sub hl [2, 3, 4, 5, 6] rfl)
    · replace h := zt hc h
      refine lv_aload_n hx hb dL_law_631 rfl (lv_at hl 5 rfl) ?_
      refine lv_iconst (v := 0) hx hb dL_law_632 (by decide) ?_
      refine aU_0 hx hb hK hP 7 (xU) rfl rfl (zvi tn_0 n0_0 (by decide)) tn_0 dL_law_633 ?_
      refine lv_iload hx hb dL_law_634 (lv_at hl 0 rfl) ?_
      refine lv_i2l (v := r_59.toInt64) hx hb dL_law_636 rfl ?_
      refine W.lcmp hx hb dL_law_637 ?_
      refine lv_if_eq (tgt := 643) hx hb dL_law_638 (by decide) (fun hc => ?_) (fun hc => ?_)
      · replace h := zt hc h
        refine lv_goto (tgt := 1294) hx hb dL_law_643 (by decide) ?_
        refine W.widen (k := 157 + (j + 1)) (n := 4003 + 6 * (j + 1)) (by omega) (by omega) ?_
        exact tL_law_1294 C0 j K23 _ _ _ _ _ _ _ _ _ hj9 h _ _ hP hS _ (lv_sub hl [2, 3, 4, 5, 6] rfl)
      · replace h := zf hc h
        refine lv_iconst (v := 0) hx hb dL_law_641 (by decide) ?_
        cases h
  · replace h := zf hc h
    refine lv_iconst (v := 0) hx hb dL_law_624 (by decide) ?_
    cases h
set_option maxHeartbeats 4000000 in
set_option maxRecDepth 20000 in
theorem tL_law_646 (C0 : zLaw p l s m meth c b L xs G xO xM xU) (j : Nat) (hj : j < 64) {k23 : zSt → zSt → zSt → zSt → zSt → zSt → zSt → zSt → Int32 → Option Unit} (K23 : ∀ (uO : zSt) (uB : zSt) (uP : zSt) (uA : zSt) (uT : zSt) (uR : zSt) (uM : zSt) (uU : zSt) (l4 : Int32), l4 = nI (7 * (j + 1)) → k23 uO uB uP uA uT uR uM uU l4 = some () → ∀ (H : Heap) (locs : List Loc), zP G (zLsh G xO xM xU) [uO, uB, uP, uA, uT, uR, uM, uU] H → va_S (zA (zLsh G xO xM xU) s.heap.size) s.heap H locs → ∀ ls : Array Slot, lv_has ls 8 [(0, .ref (b)), (1, .ref (xO 0)), (2, .ref (xM 0)), (3, .ref (xU 0)), (4, .int l4)] → W p l e room_1 s m #[Value.ref b] below meth c H locs (157 + (j + 1)) (4003 + 6 * (j + 1)) (lw_Z below #[Value.ref b] s) (F0 m 23 ls [])) : ∀ (uO : zSt) (uB : zSt) (uP : zSt) (uA : zSt) (uT : zSt) (uR : zSt) (uM : zSt) (uU : zSt) (l4 : Int32), l4 = nI (7 * j) → bL_law_646 xs L k23 uO uB uP uA uT uR uM uU l4 = some () → ∀ (H : Heap) (locs : List Loc), zP G (zLsh G xO xM xU) [uO, uB, uP, uA, uT, uR, uM, uU] H → va_S (zA (zLsh G xO xM xU) s.heap.size) s.heap H locs → ∀ ls : Array Slot, lv_has ls 8 [(0, .ref (b)), (1, .ref (xO 0)), (2, .ref (xM 0)), (3, .ref (xU 0)), (4, .int l4)] → W p l e room_1 s m #[Value.ref b] below meth c H locs (157 + j) (4003 + 6 * j) (lw_Z below #[Value.ref b] s) (F0 m 646 ls []) := by
  obtain ⟨hx, hb, hr, hml, hown, hts, hlk, hK, hN, hD, hX, hH, hfl, hXs, hbl, hbA, hge, hL⟩ := id C0
  have hr0 : 157 + j ≤ room_1.cells ∧ 4003 + 6 * j ≤ room_1.slots := ⟨by show 157 + j ≤ 221; omega, by show 4003 + 6 * j ≤ 4387; omega⟩
  have hr1 : 157 + j + 1 ≤ room_1.cells ∧ 4003 + 6 * j + 6 ≤ room_1.slots := ⟨by show 157 + j + 1 ≤ 221; omega, by show 4003 + 6 * j + 6 ≤ 4387; omega⟩
  intro uO uB uP uA uT uR uM uU l4 hj9 h H locs hP hS ls hl
  unfold bL_law_646 at h
  refine lv_aload_n hx hb dL_law_646 rfl (lv_at hl 1 rfl) ?_
  refine lv_aload_n hx hb dL_law_647 rfl (lv_at hl 0 rfl) ?_
  refine lv_iload hx hb dL_law_648 (lv_at hl 4 rfl) ?_
  refine lv_iconst (v := 1) hx hb dL_law_650 (by decide) ?_
  refine lv_iadd hx hb dL_law_651 ?_
  obtain ⟨hi, h⟩ := zin_e h
  refine va_sld hx hb hXs hbl hbA hS hi dL_law_652 ?_
  refine lv_aload_n hx hb dL_law_653 rfl (lv_at hl 0 rfl) ?_
  refine lv_iload hx hb dL_law_654 (lv_at hl 4 rfl) ?_
  refine lv_iconst (v := 2) hx hb dL_law_656 (by decide) ?_
  refine lv_iadd hx hb dL_law_657 ?_
  obtain ⟨hi, h⟩ := zin_e h
  refine va_sld hx hb hXs hbl hbA hS hi dL_law_658 ?_
  refine lv_aload_n hx hb dL_law_659 rfl (lv_at hl 0 rfl) ?_
  refine lv_iload hx hb dL_law_660 (lv_at hl 4 rfl) ?_
  refine lv_iconst (v := 3) hx hb dL_law_662 (by decide) ?_
  refine lv_iadd hx hb dL_law_663 ?_
  obtain ⟨hi, h⟩ := zin_e h
  refine va_sld hx hb hXs hbl hbA hS hi dL_law_664 ?_
  refine lv_aload_n hx hb dL_law_665 rfl (lv_at hl 3 rfl) ?_
  obtain ⟨r_62, uB_63, uU_64, hg, h⟩ := zb3_e h
  refine z_callL (As := [.ref (xO 0), .int ((xs ((l4 + (1 : Int32))).toNatClampNeg)), .int ((xs ((l4 + (2 : Int32))).toNatClampNeg)), .int ((xs ((l4 + (3 : Int32))).toNatClampNeg)), .ref (xU 0)]) (rest := []) (hh := [(0, 12, 15, 49)]) ⟨hx, hb, hml, hown, hts⟩ (mL_forge l hfl G xO xU hg) (vx_cwSW 5 hts gL_law_L_forge rfl rfl rfl ksL_forge ⟨Nat.le_of_ble_eq_true rfl, Nat.le_of_ble_eq_true rfl⟩) hP hD hK hN hX hH hS (Nat.le_refl _) [0, 1, 7] rfl rfl rfl rfl rfl hl.1 rfl (Nat.le_of_ble_eq_true rfl) dL_law_666 hr1 (fun H locs hP hS => ?_)
  replace hP : zP G (zLsh G xO xM xU) [uO, uB_63, uP, uA, uT, uR, uM, uU_64] H := hP
  refine lv_istore (lv' := [(5, .int r_62), (0, .ref (b)), (1, .ref (xO 0)), (2, .ref (xM 0)), (3, .ref (xU 0)), (4, .int l4)]) hx hb dL_law_669 hl (by decide) rfl (fun ls hl => ?_)
  refine lv_aload_n hx hb dL_law_671 rfl (lv_at hl 3 rfl) ?_
  refine lv_aload_n hx hb dL_law_672 rfl (lv_at hl 1 rfl) ?_
  refine lv_iload hx hb dL_law_673 (lv_at hl 5 rfl) ?_
  refine lv_iconst (v := 1) hx hb dL_law_675 (by decide) ?_
  refine lv_iadd hx hb dL_law_676 ?_
  obtain ⟨hi, h⟩ := zin_e h
  refine va_sld hx hb hXs hbl hbA hS hi dL_law_677 ?_
  refine lv_aload_n hx hb dL_law_678 rfl (lv_at hl 1 rfl) ?_
  refine lv_iload hx hb dL_law_679 (lv_at hl 5 rfl) ?_
  refine lv_iconst (v := 2) hx hb dL_law_681 (by decide) ?_
  refine lv_iadd hx hb dL_law_682 ?_
  obtain ⟨hi, h⟩ := zin_e h
  refine va_sld hx hb hXs hbl hbA hS hi dL_law_683 ?_
  refine lv_aload_n hx hb dL_law_684 rfl (lv_at hl 1 rfl) ?_
  refine lv_iload hx hb dL_law_685 (lv_at hl 5 rfl) ?_
  refine lv_iconst (v := 3) hx hb dL_law_687 (by decide) ?_
  refine lv_iadd hx hb dL_law_688 ?_
  obtain ⟨hi, h⟩ := zin_e h
  refine va_sld hx hb hXs hbl hbA hS hi dL_law_689 ?_
  obtain ⟨r_65, uM_66, hg, h⟩ := zb2_e h
  refine z_callV (As := [.int ((xs ((l4 + (1 : Int32))).toNatClampNeg)), .int ((xs ((l4 + (2 : Int32))).toNatClampNeg)), .int ((xs ((l4 + (3 : Int32))).toNatClampNeg))]) (rest := []) (i := 0) ⟨hx, hb, hml, hown, hts⟩ (mX7_forge l G (xM) hg) (cwV 3 hts gL_law_X7_forge rfl rfl rfl kvX7_forge ⟨Nat.le_of_ble_eq_true rfl, Nat.le_of_ble_eq_true rfl⟩) rfl hP hD hK hN hS (Nat.le_refl _) [6] rfl rfl rfl rfl 6 rfl rfl rfl rfl rfl hl.1 rfl (Nat.le_of_ble_eq_true rfl) dL_law_690 hr1 (fun H locs hP hS => ?_)
  replace hP : zP G (zLsh G xO xM xU) [uO, uB_63, uP, uA, uT, uR, uM_66, uU_64] H := hP
  refine lv_istore (lv' := [(6, .int r_65), (5, .int r_62), (0, .ref (b)), (1, .ref (xO 0)), (2, .ref (xM 0)), (3, .ref (xU 0)), (4, .int l4)]) hx hb dL_law_693 hl (by decide) rfl (fun ls hl => ?_)
  refine lv_aload_n hx hb dL_law_695 rfl (lv_at hl 4 rfl) ?_
  obtain ⟨r_67, hg, h⟩ := zb1_e h
  refine z_callV (As := []) (rest := []) (i := 0) ⟨hx, hb, hml, hown, hts⟩ (mX7_thrown l G (xM) hg) (cwV 0 hts gL_law_X7_thrown rfl rfl rfl kvX7_thrown ⟨Nat.le_of_ble_eq_true rfl, Nat.le_of_ble_eq_true rfl⟩) rfl hP hD hK hN hS (Nat.le_refl _) [6] rfl rfl rfl rfl 6 rfl rfl rfl rfl rfl hl.1 rfl (Nat.le_of_ble_eq_true rfl) dL_law_696 hr1 (fun H locs hP hS => ?_)
  replace hP : zP G (zLsh G xO xM xU) [uO, uB_63, uP, uA, uT, uR, uM_66, uU_64] H := hP
  refine lv_iload hx hb dL_law_699 (lv_at hl 1 rfl) ?_
  refine lv_icmp_eq (tgt := 706) hx hb dL_law_701 (by decide) (fun hc => ?_) (fun hc => ?_)
  · replace h := zt hc h
    refine lv_iload hx hb dL_law_706 (lv_at hl 1 rfl) ?_
    refine lv_if_ne (tgt := 723) hx hb dL_law_708 (by decide) (fun hc => ?_) (fun hc => ?_)
    · replace h := zf hc h
      refine lv_goto (tgt := 1294) hx hb dL_law_723 (by decide) ?_
      refine W.widen (k := 157 + (j + 1)) (n := 4003 + 6 * (j + 1)) (by omega) (by omega) ?_
      exact tL_law_1294 C0 j K23 _ _ _ _ _ _ _ _ _ hj9 h _ _ hP hS _ (lv_sub hl [2, 3, 4, 5, 6] rfl)
    · replace h := zt hc h
      refine lv_aload_n hx hb dL_law_711 rfl (lv_at hl 5 rfl) ?_
      refine lv_iconst (v := 0) hx hb dL_law_712 (by decide) ?_
      refine aU_0 hx hb hK hP 7 (xU) rfl rfl (zvi tn_0 n0_0 (by decide)) tn_0 dL_law_713 ?_
      refine lv_iload hx hb dL_law_714 (lv_at hl 0 rfl) ?_
      refine lv_i2l (v := r_65.toInt64) hx hb dL_law_716 rfl ?_
      refine W.lcmp hx hb dL_law_717 ?_
      refine lv_if_eq (tgt := 723) hx hb dL_law_718 (by decide) (fun hc => ?_) (fun hc => ?_)
      · replace h := zt hc h
        refine lv_goto (tgt := 1294) hx hb dL_law_723 (by decide) ?_
        refine W.widen (k := 157 + (j + 1)) (n := 4003 + 6 * (j + 1)) (by omega) (by omega) ?_
        exact tL_law_1294 C0 j K23 _ _ _ _ _ _ _ _ _ hj9 h _ _ hP hS _ (lv_sub hl [2, 3, 4, 5, 6] rfl)
      · replace h := zf hc h
        refine lv_iconst (v := 0) hx hb dL_law_721 (by decide) ?_
        cases h
  · replace h := zf hc h
    refine lv_iconst (v := 0) hx hb dL_law_704 (by decide) ?_
    cases h
set_option maxHeartbeats 4000000 in
set_option maxRecDepth 20000 in
theorem tL_law_726 (C0 : zLaw p l s m meth c b L xs G xO xM xU) (j : Nat) (hj : j < 64) {k23 : zSt → zSt → zSt → zSt → zSt → zSt → zSt → zSt → Int32 → Option Unit} (K23 : ∀ (uO : zSt) (uB : zSt) (uP : zSt) (uA : zSt) (uT : zSt) (uR : zSt) (uM : zSt) (uU : zSt) (l4 : Int32), l4 = nI (7 * (j + 1)) → k23 uO uB uP uA uT uR uM uU l4 = some () → ∀ (H : Heap) (locs : List Loc), zP G (zLsh G xO xM xU) [uO, uB, uP, uA, uT, uR, uM, uU] H → va_S (zA (zLsh G xO xM xU) s.heap.size) s.heap H locs → ∀ ls : Array Slot, lv_has ls 8 [(0, .ref (b)), (1, .ref (xO 0)), (2, .ref (xM 0)), (3, .ref (xU 0)), (4, .int l4)] → W p l e room_1 s m #[Value.ref b] below meth c H locs (157 + (j + 1)) (4003 + 6 * (j + 1)) (lw_Z below #[Value.ref b] s) (F0 m 23 ls [])) : ∀ (uO : zSt) (uB : zSt) (uP : zSt) (uA : zSt) (uT : zSt) (uR : zSt) (uM : zSt) (uU : zSt) (l4 : Int32), l4 = nI (7 * j) → bL_law_726 xs L k23 uO uB uP uA uT uR uM uU l4 = some () → ∀ (H : Heap) (locs : List Loc), zP G (zLsh G xO xM xU) [uO, uB, uP, uA, uT, uR, uM, uU] H → va_S (zA (zLsh G xO xM xU) s.heap.size) s.heap H locs → ∀ ls : Array Slot, lv_has ls 8 [(0, .ref (b)), (1, .ref (xO 0)), (2, .ref (xM 0)), (3, .ref (xU 0)), (4, .int l4)] → W p l e room_1 s m #[Value.ref b] below meth c H locs (157 + j) (4003 + 6 * j) (lw_Z below #[Value.ref b] s) (F0 m 726 ls []) := by
  obtain ⟨hx, hb, hr, hml, hown, hts, hlk, hK, hN, hD, hX, hH, hfl, hXs, hbl, hbA, hge, hL⟩ := id C0
  have hr0 : 157 + j ≤ room_1.cells ∧ 4003 + 6 * j ≤ room_1.slots := ⟨by show 157 + j ≤ 221; omega, by show 4003 + 6 * j ≤ 4387; omega⟩
  have hr1 : 157 + j + 1 ≤ room_1.cells ∧ 4003 + 6 * j + 6 ≤ room_1.slots := ⟨by show 157 + j + 1 ≤ 221; omega, by show 4003 + 6 * j + 6 ≤ 4387; omega⟩
  intro uO uB uP uA uT uR uM uU l4 hj9 h H locs hP hS ls hl
  unfold bL_law_726 at h
  refine lv_aload_n hx hb dL_law_726 rfl (lv_at hl 1 rfl) ?_
  obtain ⟨r_68, uA_69, uT_70, hg, h⟩ := zb3_e h
  refine z_callV (As := []) (rest := []) (i := 0) ⟨hx, hb, hml, hown, hts⟩ (mX6_audit l G (xO) hg) (cwV 0 hts gL_law_X6_audit rfl rfl rfl kvX6_audit ⟨Nat.le_of_ble_eq_true rfl, Nat.le_of_ble_eq_true rfl⟩) rfl hP hD hK hN hS (Nat.le_refl _) [0, 1, 3, 4] rfl rfl rfl rfl 0 rfl rfl rfl rfl rfl hl.1 rfl (Nat.le_of_ble_eq_true rfl) dL_law_727 hr0 (fun H locs hP hS => ?_)
  replace hP : zP G (zLsh G xO xM xU) [uO, uB, uP, uA_69, uT_70, uR, uM, uU] H := hP
  refine lv_aload_n hx hb dL_law_730 rfl (lv_at hl 2 rfl) ?_
  obtain ⟨r_71, uM_72, hg, h⟩ := zb2_e h
  refine z_callV (As := []) (rest := [.int r_68]) (i := 0) ⟨hx, hb, hml, hown, hts⟩ (mX7_audit l G (xM) hg) (cwV 0 hts gL_law_X7_audit rfl rfl rfl kvX7_audit ⟨Nat.le_of_ble_eq_true rfl, Nat.le_of_ble_eq_true rfl⟩) rfl hP hD hK hN hS (Nat.le_refl _) [6] rfl rfl rfl rfl 6 rfl rfl rfl rfl rfl hl.1 rfl (Nat.le_of_ble_eq_true rfl) dL_law_731 hr0 (fun H locs hP hS => ?_)
  replace hP : zP G (zLsh G xO xM xU) [uO, uB, uP, uA_69, uT_70, uR, uM_72, uU] H := hP
  refine lv_icmp_eq (tgt := 1294) hx hb dL_law_734 (by decide) (fun hc => ?_) (fun hc => ?_)
  · replace h := zt hc h
    refine W.widen (k := 157 + (j + 1)) (n := 4003 + 6 * (j + 1)) (by omega) (by omega) ?_
    exact tL_law_1294 C0 j K23 _ _ _ _ _ _ _ _ _ hj9 h _ _ hP hS _ (lv_sub hl [0, 1, 2, 3, 4] rfl)
  · replace h := zf hc h
    refine lv_iconst (v := 0) hx hb dL_law_737 (by decide) ?_
    cases h
set_option maxHeartbeats 4000000 in
set_option maxRecDepth 20000 in
theorem tL_law_739 (C0 : zLaw p l s m meth c b L xs G xO xM xU) (j : Nat) (hj : j < 64) {k23 : zSt → zSt → zSt → zSt → zSt → zSt → zSt → zSt → Int32 → Option Unit} (K23 : ∀ (uO : zSt) (uB : zSt) (uP : zSt) (uA : zSt) (uT : zSt) (uR : zSt) (uM : zSt) (uU : zSt) (l4 : Int32), l4 = nI (7 * (j + 1)) → k23 uO uB uP uA uT uR uM uU l4 = some () → ∀ (H : Heap) (locs : List Loc), zP G (zLsh G xO xM xU) [uO, uB, uP, uA, uT, uR, uM, uU] H → va_S (zA (zLsh G xO xM xU) s.heap.size) s.heap H locs → ∀ ls : Array Slot, lv_has ls 8 [(0, .ref (b)), (1, .ref (xO 0)), (2, .ref (xM 0)), (3, .ref (xU 0)), (4, .int l4)] → W p l e room_1 s m #[Value.ref b] below meth c H locs (157 + (j + 1)) (4003 + 6 * (j + 1)) (lw_Z below #[Value.ref b] s) (F0 m 23 ls [])) : ∀ (uO : zSt) (uB : zSt) (uP : zSt) (uA : zSt) (uT : zSt) (uR : zSt) (uM : zSt) (uU : zSt) (l4 : Int32), l4 = nI (7 * j) → bL_law_739 xs L k23 uO uB uP uA uT uR uM uU l4 = some () → ∀ (H : Heap) (locs : List Loc), zP G (zLsh G xO xM xU) [uO, uB, uP, uA, uT, uR, uM, uU] H → va_S (zA (zLsh G xO xM xU) s.heap.size) s.heap H locs → ∀ ls : Array Slot, lv_has ls 8 [(0, .ref (b)), (1, .ref (xO 0)), (2, .ref (xM 0)), (3, .ref (xU 0)), (4, .int l4)] → W p l e room_1 s m #[Value.ref b] below meth c H locs (157 + j) (4003 + 6 * j) (lw_Z below #[Value.ref b] s) (F0 m 739 ls []) := by
  obtain ⟨hx, hb, hr, hml, hown, hts, hlk, hK, hN, hD, hX, hH, hfl, hXs, hbl, hbA, hge, hL⟩ := id C0
  have hr0 : 157 + j ≤ room_1.cells ∧ 4003 + 6 * j ≤ room_1.slots := ⟨by show 157 + j ≤ 221; omega, by show 4003 + 6 * j ≤ 4387; omega⟩
  have hr1 : 157 + j + 1 ≤ room_1.cells ∧ 4003 + 6 * j + 6 ≤ room_1.slots := ⟨by show 157 + j + 1 ≤ 221; omega, by show 4003 + 6 * j + 6 ≤ 4387; omega⟩
  intro uO uB uP uA uT uR uM uU l4 hj9 h H locs hP hS ls hl
  unfold bL_law_739 at h
  refine lv_aload_n hx hb dL_law_739 rfl (lv_at hl 1 rfl) ?_
  refine lv_aload_n hx hb dL_law_740 rfl (lv_at hl 0 rfl) ?_
  refine lv_iload hx hb dL_law_741 (lv_at hl 4 rfl) ?_
  refine lv_iconst (v := 1) hx hb dL_law_743 (by decide) ?_
  refine lv_iadd hx hb dL_law_744 ?_
  obtain ⟨hi, h⟩ := zin_e h
  refine va_sld hx hb hXs hbl hbA hS hi dL_law_745 ?_
  refine lv_aload_n hx hb dL_law_746 rfl (lv_at hl 3 rfl) ?_
  obtain ⟨r_73, uU_74, hg, h⟩ := zb2_e h
  refine z_callL (As := [.ref (xO 0), .int ((xs ((l4 + (1 : Int32))).toNatClampNeg)), .ref (xU 0)]) (rest := []) (hh := [(0, 8, 11, 49)]) ⟨hx, hb, hml, hown, hts⟩ (mL_leaf l hfl G xO xU hg) (vx_cwSW 3 hts gL_law_L_leaf rfl rfl rfl ksL_leaf ⟨Nat.le_of_ble_eq_true rfl, Nat.le_of_ble_eq_true rfl⟩) hP hD hK hN hX hH hS (Nat.le_refl _) [0, 1, 7] rfl rfl rfl rfl rfl hl.1 rfl (Nat.le_of_ble_eq_true rfl) dL_law_747 hr1 (fun H locs hP hS => ?_)
  replace hP : zP G (zLsh G xO xM xU) [uO, uB, uP, uA, uT, uR, uM, uU_74] H := hP
  refine lv_istore (lv' := [(5, .int r_73), (0, .ref (b)), (1, .ref (xO 0)), (2, .ref (xM 0)), (3, .ref (xU 0)), (4, .int l4)]) hx hb dL_law_750 hl (by decide) rfl (fun ls hl => ?_)
  refine lv_aload_n hx hb dL_law_752 rfl (lv_at hl 3 rfl) ?_
  refine lv_aload_n hx hb dL_law_753 rfl (lv_at hl 1 rfl) ?_
  refine lv_iload hx hb dL_law_754 (lv_at hl 5 rfl) ?_
  refine lv_iconst (v := 1) hx hb dL_law_756 (by decide) ?_
  refine lv_iadd hx hb dL_law_757 ?_
  obtain ⟨hi, h⟩ := zin_e h
  refine va_sld hx hb hXs hbl hbA hS hi dL_law_758 ?_
  obtain ⟨r_75, uM_76, hg, h⟩ := zb2_e h
  refine z_callV (As := [.int ((xs ((l4 + (1 : Int32))).toNatClampNeg))]) (rest := []) (i := 0) ⟨hx, hb, hml, hown, hts⟩ (mX7_leaf l G (xM) hg) (cwV 1 hts gL_law_X7_leaf rfl rfl rfl kvX7_leaf ⟨Nat.le_of_ble_eq_true rfl, Nat.le_of_ble_eq_true rfl⟩) rfl hP hD hK hN hS (Nat.le_refl _) [6] rfl rfl rfl rfl 6 rfl rfl rfl rfl rfl hl.1 rfl (Nat.le_of_ble_eq_true rfl) dL_law_759 hr1 (fun H locs hP hS => ?_)
  replace hP : zP G (zLsh G xO xM xU) [uO, uB, uP, uA, uT, uR, uM_76, uU_74] H := hP
  refine lv_lstore (lv' := [(6, .long r_75), (5, .int r_73), (0, .ref (b)), (1, .ref (xO 0)), (2, .ref (xM 0)), (3, .ref (xU 0)), (4, .int l4)]) hx hb dL_law_762 hl (by decide) rfl (fun ls hl => ?_)
  refine lv_aload_n hx hb dL_law_764 rfl (lv_at hl 4 rfl) ?_
  obtain ⟨r_77, hg, h⟩ := zb1_e h
  refine z_callV (As := []) (rest := []) (i := 0) ⟨hx, hb, hml, hown, hts⟩ (mX7_thrown l G (xM) hg) (cwV 0 hts gL_law_X7_thrown rfl rfl rfl kvX7_thrown ⟨Nat.le_of_ble_eq_true rfl, Nat.le_of_ble_eq_true rfl⟩) rfl hP hD hK hN hS (Nat.le_refl _) [6] rfl rfl rfl rfl 6 rfl rfl rfl rfl rfl hl.1 rfl (Nat.le_of_ble_eq_true rfl) dL_law_765 hr1 (fun H locs hP hS => ?_)
  replace hP : zP G (zLsh G xO xM xU) [uO, uB, uP, uA, uT, uR, uM_76, uU_74] H := hP
  refine lv_iload hx hb dL_law_768 (lv_at hl 1 rfl) ?_
  refine lv_icmp_eq (tgt := 775) hx hb dL_law_770 (by decide) (fun hc => ?_) (fun hc => ?_)
  · replace h := zt hc h
    refine lv_iload hx hb dL_law_775 (lv_at hl 1 rfl) ?_
    refine lv_if_ne (tgt := 791) hx hb dL_law_777 (by decide) (fun hc => ?_) (fun hc => ?_)
    · replace h := zf hc h
      refine lv_goto (tgt := 1294) hx hb dL_law_791 (by decide) ?_
      refine W.widen (k := 157 + (j + 1)) (n := 4003 + 6 * (j + 1)) (by omega) (by omega) ?_
      exact tL_law_1294 C0 j K23 _ _ _ _ _ _ _ _ _ hj9 h _ _ hP hS _ (lv_sub hl [2, 3, 4, 5, 6] rfl)
    · replace h := zt hc h
      refine lv_aload_n hx hb dL_law_780 rfl (lv_at hl 5 rfl) ?_
      refine lv_iconst (v := 0) hx hb dL_law_781 (by decide) ?_
      refine aU_0 hx hb hK hP 7 (xU) rfl rfl (zvi tn_0 n0_0 (by decide)) tn_0 dL_law_782 ?_
      refine lv_lload hx hb dL_law_783 (lv_at hl 0 rfl) ?_
      refine W.lcmp hx hb dL_law_785 ?_
      refine lv_if_eq (tgt := 791) hx hb dL_law_786 (by decide) (fun hc => ?_) (fun hc => ?_)
      · replace h := zt hc h
        refine lv_goto (tgt := 1294) hx hb dL_law_791 (by decide) ?_
        refine W.widen (k := 157 + (j + 1)) (n := 4003 + 6 * (j + 1)) (by omega) (by omega) ?_
        exact tL_law_1294 C0 j K23 _ _ _ _ _ _ _ _ _ hj9 h _ _ hP hS _ (lv_sub hl [2, 3, 4, 5, 6] rfl)
      · replace h := zf hc h
        refine lv_iconst (v := 0) hx hb dL_law_789 (by decide) ?_
        cases h
  · replace h := zf hc h
    refine lv_iconst (v := 0) hx hb dL_law_773 (by decide) ?_
    cases h
set_option maxHeartbeats 4000000 in
set_option maxRecDepth 20000 in
theorem tL_law_794 (C0 : zLaw p l s m meth c b L xs G xO xM xU) (j : Nat) (hj : j < 64) {k23 : zSt → zSt → zSt → zSt → zSt → zSt → zSt → zSt → Int32 → Option Unit} (K23 : ∀ (uO : zSt) (uB : zSt) (uP : zSt) (uA : zSt) (uT : zSt) (uR : zSt) (uM : zSt) (uU : zSt) (l4 : Int32), l4 = nI (7 * (j + 1)) → k23 uO uB uP uA uT uR uM uU l4 = some () → ∀ (H : Heap) (locs : List Loc), zP G (zLsh G xO xM xU) [uO, uB, uP, uA, uT, uR, uM, uU] H → va_S (zA (zLsh G xO xM xU) s.heap.size) s.heap H locs → ∀ ls : Array Slot, lv_has ls 8 [(0, .ref (b)), (1, .ref (xO 0)), (2, .ref (xM 0)), (3, .ref (xU 0)), (4, .int l4)] → W p l e room_1 s m #[Value.ref b] below meth c H locs (157 + (j + 1)) (4003 + 6 * (j + 1)) (lw_Z below #[Value.ref b] s) (F0 m 23 ls [])) : ∀ (uO : zSt) (uB : zSt) (uP : zSt) (uA : zSt) (uT : zSt) (uR : zSt) (uM : zSt) (uU : zSt) (l4 : Int32), l4 = nI (7 * j) → bL_law_794 xs L k23 uO uB uP uA uT uR uM uU l4 = some () → ∀ (H : Heap) (locs : List Loc), zP G (zLsh G xO xM xU) [uO, uB, uP, uA, uT, uR, uM, uU] H → va_S (zA (zLsh G xO xM xU) s.heap.size) s.heap H locs → ∀ ls : Array Slot, lv_has ls 8 [(0, .ref (b)), (1, .ref (xO 0)), (2, .ref (xM 0)), (3, .ref (xU 0)), (4, .int l4)] → W p l e room_1 s m #[Value.ref b] below meth c H locs (157 + j) (4003 + 6 * j) (lw_Z below #[Value.ref b] s) (F0 m 794 ls []) := by
  obtain ⟨hx, hb, hr, hml, hown, hts, hlk, hK, hN, hD, hX, hH, hfl, hXs, hbl, hbA, hge, hL⟩ := id C0
  have hr0 : 157 + j ≤ room_1.cells ∧ 4003 + 6 * j ≤ room_1.slots := ⟨by show 157 + j ≤ 221; omega, by show 4003 + 6 * j ≤ 4387; omega⟩
  have hr1 : 157 + j + 1 ≤ room_1.cells ∧ 4003 + 6 * j + 6 ≤ room_1.slots := ⟨by show 157 + j + 1 ≤ 221; omega, by show 4003 + 6 * j + 6 ≤ 4387; omega⟩
  intro uO uB uP uA uT uR uM uU l4 hj9 h H locs hP hS ls hl
  unfold bL_law_794 at h
  refine lv_aload_n hx hb dL_law_794 rfl (lv_at hl 1 rfl) ?_
  refine lv_aload_n hx hb dL_law_795 rfl (lv_at hl 0 rfl) ?_
  refine lv_iload hx hb dL_law_796 (lv_at hl 4 rfl) ?_
  refine lv_iconst (v := 1) hx hb dL_law_798 (by decide) ?_
  refine lv_iadd hx hb dL_law_799 ?_
  obtain ⟨hi, h⟩ := zin_e h
  refine va_sld hx hb hXs hbl hbA hS hi dL_law_800 ?_
  refine lv_aload_n hx hb dL_law_801 rfl (lv_at hl 3 rfl) ?_
  obtain ⟨r_78, uB_79, uU_80, hg, h⟩ := zb3_e h
  refine z_callL (As := [.ref (xO 0), .int ((xs ((l4 + (1 : Int32))).toNatClampNeg)), .ref (xU 0)]) (rest := []) (hh := [(0, 8, 11, 49)]) ⟨hx, hb, hml, hown, hts⟩ (mL_head l hfl G xO xU hg) (vx_cwSW 3 hts gL_law_L_head rfl rfl rfl ksL_head ⟨Nat.le_of_ble_eq_true rfl, Nat.le_of_ble_eq_true rfl⟩) hP hD hK hN hX hH hS (Nat.le_refl _) [0, 1, 7] rfl rfl rfl rfl rfl hl.1 rfl (Nat.le_of_ble_eq_true rfl) dL_law_802 hr1 (fun H locs hP hS => ?_)
  replace hP : zP G (zLsh G xO xM xU) [uO, uB_79, uP, uA, uT, uR, uM, uU_80] H := hP
  refine lv_istore (lv' := [(5, .int r_78), (0, .ref (b)), (1, .ref (xO 0)), (2, .ref (xM 0)), (3, .ref (xU 0)), (4, .int l4)]) hx hb dL_law_805 hl (by decide) rfl (fun ls hl => ?_)
  refine lv_aload_n hx hb dL_law_807 rfl (lv_at hl 3 rfl) ?_
  refine lv_aload_n hx hb dL_law_808 rfl (lv_at hl 1 rfl) ?_
  refine lv_iload hx hb dL_law_809 (lv_at hl 5 rfl) ?_
  refine lv_iconst (v := 1) hx hb dL_law_811 (by decide) ?_
  refine lv_iadd hx hb dL_law_812 ?_
  obtain ⟨hi, h⟩ := zin_e h
  refine va_sld hx hb hXs hbl hbA hS hi dL_law_813 ?_
  obtain ⟨r_81, uM_82, hg, h⟩ := zb2_e h
  refine z_callV (As := [.int ((xs ((l4 + (1 : Int32))).toNatClampNeg))]) (rest := []) (i := 0) ⟨hx, hb, hml, hown, hts⟩ (mX7_head l G (xM) hg) (cwV 1 hts gL_law_X7_head rfl rfl rfl kvX7_head ⟨Nat.le_of_ble_eq_true rfl, Nat.le_of_ble_eq_true rfl⟩) rfl hP hD hK hN hS (Nat.le_refl _) [6] rfl rfl rfl rfl 6 rfl rfl rfl rfl rfl hl.1 rfl (Nat.le_of_ble_eq_true rfl) dL_law_814 hr1 (fun H locs hP hS => ?_)
  replace hP : zP G (zLsh G xO xM xU) [uO, uB_79, uP, uA, uT, uR, uM_82, uU_80] H := hP
  refine lv_lstore (lv' := [(6, .long r_81), (5, .int r_78), (0, .ref (b)), (1, .ref (xO 0)), (2, .ref (xM 0)), (3, .ref (xU 0)), (4, .int l4)]) hx hb dL_law_817 hl (by decide) rfl (fun ls hl => ?_)
  refine lv_aload_n hx hb dL_law_819 rfl (lv_at hl 4 rfl) ?_
  obtain ⟨r_83, hg, h⟩ := zb1_e h
  refine z_callV (As := []) (rest := []) (i := 0) ⟨hx, hb, hml, hown, hts⟩ (mX7_thrown l G (xM) hg) (cwV 0 hts gL_law_X7_thrown rfl rfl rfl kvX7_thrown ⟨Nat.le_of_ble_eq_true rfl, Nat.le_of_ble_eq_true rfl⟩) rfl hP hD hK hN hS (Nat.le_refl _) [6] rfl rfl rfl rfl 6 rfl rfl rfl rfl rfl hl.1 rfl (Nat.le_of_ble_eq_true rfl) dL_law_820 hr1 (fun H locs hP hS => ?_)
  replace hP : zP G (zLsh G xO xM xU) [uO, uB_79, uP, uA, uT, uR, uM_82, uU_80] H := hP
  refine lv_iload hx hb dL_law_823 (lv_at hl 1 rfl) ?_
  refine lv_icmp_eq (tgt := 830) hx hb dL_law_825 (by decide) (fun hc => ?_) (fun hc => ?_)
  · replace h := zt hc h
    refine lv_iload hx hb dL_law_830 (lv_at hl 1 rfl) ?_
    refine lv_if_ne (tgt := 846) hx hb dL_law_832 (by decide) (fun hc => ?_) (fun hc => ?_)
    · replace h := zf hc h
      refine lv_goto (tgt := 1294) hx hb dL_law_846 (by decide) ?_
      refine W.widen (k := 157 + (j + 1)) (n := 4003 + 6 * (j + 1)) (by omega) (by omega) ?_
      exact tL_law_1294 C0 j K23 _ _ _ _ _ _ _ _ _ hj9 h _ _ hP hS _ (lv_sub hl [2, 3, 4, 5, 6] rfl)
    · replace h := zt hc h
      refine lv_aload_n hx hb dL_law_835 rfl (lv_at hl 5 rfl) ?_
      refine lv_iconst (v := 0) hx hb dL_law_836 (by decide) ?_
      refine aU_0 hx hb hK hP 7 (xU) rfl rfl (zvi tn_0 n0_0 (by decide)) tn_0 dL_law_837 ?_
      refine lv_lload hx hb dL_law_838 (lv_at hl 0 rfl) ?_
      refine W.lcmp hx hb dL_law_840 ?_
      refine lv_if_eq (tgt := 846) hx hb dL_law_841 (by decide) (fun hc => ?_) (fun hc => ?_)
      · replace h := zt hc h
        refine lv_goto (tgt := 1294) hx hb dL_law_846 (by decide) ?_
        refine W.widen (k := 157 + (j + 1)) (n := 4003 + 6 * (j + 1)) (by omega) (by omega) ?_
        exact tL_law_1294 C0 j K23 _ _ _ _ _ _ _ _ _ hj9 h _ _ hP hS _ (lv_sub hl [2, 3, 4, 5, 6] rfl)
      · replace h := zf hc h
        refine lv_iconst (v := 0) hx hb dL_law_844 (by decide) ?_
        cases h
  · replace h := zf hc h
    refine lv_iconst (v := 0) hx hb dL_law_828 (by decide) ?_
    cases h
set_option maxHeartbeats 4000000 in
set_option maxRecDepth 20000 in
theorem tL_law_849 (C0 : zLaw p l s m meth c b L xs G xO xM xU) (j : Nat) (hj : j < 64) {k23 : zSt → zSt → zSt → zSt → zSt → zSt → zSt → zSt → Int32 → Option Unit} (K23 : ∀ (uO : zSt) (uB : zSt) (uP : zSt) (uA : zSt) (uT : zSt) (uR : zSt) (uM : zSt) (uU : zSt) (l4 : Int32), l4 = nI (7 * (j + 1)) → k23 uO uB uP uA uT uR uM uU l4 = some () → ∀ (H : Heap) (locs : List Loc), zP G (zLsh G xO xM xU) [uO, uB, uP, uA, uT, uR, uM, uU] H → va_S (zA (zLsh G xO xM xU) s.heap.size) s.heap H locs → ∀ ls : Array Slot, lv_has ls 8 [(0, .ref (b)), (1, .ref (xO 0)), (2, .ref (xM 0)), (3, .ref (xU 0)), (4, .int l4)] → W p l e room_1 s m #[Value.ref b] below meth c H locs (157 + (j + 1)) (4003 + 6 * (j + 1)) (lw_Z below #[Value.ref b] s) (F0 m 23 ls [])) : ∀ (uO : zSt) (uB : zSt) (uP : zSt) (uA : zSt) (uT : zSt) (uR : zSt) (uM : zSt) (uU : zSt) (l4 : Int32), l4 = nI (7 * j) → bL_law_849 xs L k23 uO uB uP uA uT uR uM uU l4 = some () → ∀ (H : Heap) (locs : List Loc), zP G (zLsh G xO xM xU) [uO, uB, uP, uA, uT, uR, uM, uU] H → va_S (zA (zLsh G xO xM xU) s.heap.size) s.heap H locs → ∀ ls : Array Slot, lv_has ls 8 [(0, .ref (b)), (1, .ref (xO 0)), (2, .ref (xM 0)), (3, .ref (xU 0)), (4, .int l4)] → W p l e room_1 s m #[Value.ref b] below meth c H locs (157 + j) (4003 + 6 * j) (lw_Z below #[Value.ref b] s) (F0 m 849 ls []) := by
  obtain ⟨hx, hb, hr, hml, hown, hts, hlk, hK, hN, hD, hX, hH, hfl, hXs, hbl, hbA, hge, hL⟩ := id C0
  have hr0 : 157 + j ≤ room_1.cells ∧ 4003 + 6 * j ≤ room_1.slots := ⟨by show 157 + j ≤ 221; omega, by show 4003 + 6 * j ≤ 4387; omega⟩
  have hr1 : 157 + j + 1 ≤ room_1.cells ∧ 4003 + 6 * j + 6 ≤ room_1.slots := ⟨by show 157 + j + 1 ≤ 221; omega, by show 4003 + 6 * j + 6 ≤ 4387; omega⟩
  intro uO uB uP uA uT uR uM uU l4 hj9 h H locs hP hS ls hl
  unfold bL_law_849 at h
  refine lv_aload_n hx hb dL_law_849 rfl (lv_at hl 1 rfl) ?_
  refine lv_aload_n hx hb dL_law_850 rfl (lv_at hl 0 rfl) ?_
  refine lv_iload hx hb dL_law_851 (lv_at hl 4 rfl) ?_
  refine lv_iconst (v := 1) hx hb dL_law_853 (by decide) ?_
  refine lv_iadd hx hb dL_law_854 ?_
  obtain ⟨hi, h⟩ := zin_e h
  refine va_sld hx hb hXs hbl hbA hS hi dL_law_855 ?_
  refine lv_aload_n hx hb dL_law_856 rfl (lv_at hl 0 rfl) ?_
  refine lv_iload hx hb dL_law_857 (lv_at hl 4 rfl) ?_
  refine lv_iconst (v := 2) hx hb dL_law_859 (by decide) ?_
  refine lv_iadd hx hb dL_law_860 ?_
  obtain ⟨hi, h⟩ := zin_e h
  refine va_sld hx hb hXs hbl hbA hS hi dL_law_861 ?_
  refine lv_aload_n hx hb dL_law_862 rfl (lv_at hl 3 rfl) ?_
  obtain ⟨r_84, uB_85, uR_86, uU_87, hg, h⟩ := zb4_e h
  refine z_callL (As := [.ref (xO 0), .int ((xs ((l4 + (1 : Int32))).toNatClampNeg)), .int ((xs ((l4 + (2 : Int32))).toNatClampNeg)), .ref (xU 0)]) (rest := []) (hh := [(0, 10, 13, 49)]) ⟨hx, hb, hml, hown, hts⟩ (mL_prove l hfl G xO xU hg) (vx_cwSW 4 hts gL_law_L_prove rfl rfl rfl ksL_prove ⟨Nat.le_of_ble_eq_true rfl, Nat.le_of_ble_eq_true rfl⟩) hP hD hK hN hX hH hS (Nat.le_refl _) [0, 1, 5, 7] rfl rfl rfl rfl rfl hl.1 rfl (Nat.le_of_ble_eq_true rfl) dL_law_863 hr1 (fun H locs hP hS => ?_)
  replace hP : zP G (zLsh G xO xM xU) [uO, uB_85, uP, uA, uT, uR_86, uM, uU_87] H := hP
  refine lv_istore (lv' := [(5, .int r_84), (0, .ref (b)), (1, .ref (xO 0)), (2, .ref (xM 0)), (3, .ref (xU 0)), (4, .int l4)]) hx hb dL_law_866 hl (by decide) rfl (fun ls hl => ?_)
  refine lv_aload_n hx hb dL_law_868 rfl (lv_at hl 3 rfl) ?_
  refine lv_aload_n hx hb dL_law_869 rfl (lv_at hl 1 rfl) ?_
  refine lv_iload hx hb dL_law_870 (lv_at hl 5 rfl) ?_
  refine lv_iconst (v := 1) hx hb dL_law_872 (by decide) ?_
  refine lv_iadd hx hb dL_law_873 ?_
  obtain ⟨hi, h⟩ := zin_e h
  refine va_sld hx hb hXs hbl hbA hS hi dL_law_874 ?_
  refine lv_aload_n hx hb dL_law_875 rfl (lv_at hl 1 rfl) ?_
  refine lv_iload hx hb dL_law_876 (lv_at hl 5 rfl) ?_
  refine lv_iconst (v := 2) hx hb dL_law_878 (by decide) ?_
  refine lv_iadd hx hb dL_law_879 ?_
  obtain ⟨hi, h⟩ := zin_e h
  refine va_sld hx hb hXs hbl hbA hS hi dL_law_880 ?_
  obtain ⟨r_88, uM_89, hg, h⟩ := zb2_e h
  refine z_callV (As := [.int ((xs ((l4 + (1 : Int32))).toNatClampNeg)), .int ((xs ((l4 + (2 : Int32))).toNatClampNeg))]) (rest := []) (i := 0) ⟨hx, hb, hml, hown, hts⟩ (mX7_prove l G (xM) hg) (cwV 2 hts gL_law_X7_prove rfl rfl rfl kvX7_prove ⟨Nat.le_of_ble_eq_true rfl, Nat.le_of_ble_eq_true rfl⟩) rfl hP hD hK hN hS (Nat.le_refl _) [6] rfl rfl rfl rfl 6 rfl rfl rfl rfl rfl hl.1 rfl (Nat.le_of_ble_eq_true rfl) dL_law_881 hr1 (fun H locs hP hS => ?_)
  replace hP : zP G (zLsh G xO xM xU) [uO, uB_85, uP, uA, uT, uR_86, uM_89, uU_87] H := hP
  refine lv_istore (lv' := [(6, .int r_88), (5, .int r_84), (0, .ref (b)), (1, .ref (xO 0)), (2, .ref (xM 0)), (3, .ref (xU 0)), (4, .int l4)]) hx hb dL_law_884 hl (by decide) rfl (fun ls hl => ?_)
  refine lv_aload_n hx hb dL_law_886 rfl (lv_at hl 4 rfl) ?_
  obtain ⟨r_90, hg, h⟩ := zb1_e h
  refine z_callV (As := []) (rest := []) (i := 0) ⟨hx, hb, hml, hown, hts⟩ (mX7_thrown l G (xM) hg) (cwV 0 hts gL_law_X7_thrown rfl rfl rfl kvX7_thrown ⟨Nat.le_of_ble_eq_true rfl, Nat.le_of_ble_eq_true rfl⟩) rfl hP hD hK hN hS (Nat.le_refl _) [6] rfl rfl rfl rfl 6 rfl rfl rfl rfl rfl hl.1 rfl (Nat.le_of_ble_eq_true rfl) dL_law_887 hr1 (fun H locs hP hS => ?_)
  replace hP : zP G (zLsh G xO xM xU) [uO, uB_85, uP, uA, uT, uR_86, uM_89, uU_87] H := hP
  refine lv_iload hx hb dL_law_890 (lv_at hl 1 rfl) ?_
  refine lv_icmp_eq (tgt := 897) hx hb dL_law_892 (by decide) (fun hc => ?_) (fun hc => ?_)
  · replace h := zt hc h
    refine lv_iload hx hb dL_law_897 (lv_at hl 1 rfl) ?_
    refine lv_if_ne (tgt := 914) hx hb dL_law_899 (by decide) (fun hc => ?_) (fun hc => ?_)
    · replace h := zf hc h
      refine lv_goto (tgt := 1294) hx hb dL_law_914 (by decide) ?_
      refine W.widen (k := 157 + (j + 1)) (n := 4003 + 6 * (j + 1)) (by omega) (by omega) ?_
      exact tL_law_1294 C0 j K23 _ _ _ _ _ _ _ _ _ hj9 h _ _ hP hS _ (lv_sub hl [2, 3, 4, 5, 6] rfl)
    · replace h := zt hc h
      refine lv_aload_n hx hb dL_law_902 rfl (lv_at hl 5 rfl) ?_
      refine lv_iconst (v := 0) hx hb dL_law_903 (by decide) ?_
      refine aU_0 hx hb hK hP 7 (xU) rfl rfl (zvi tn_0 n0_0 (by decide)) tn_0 dL_law_904 ?_
      refine lv_iload hx hb dL_law_905 (lv_at hl 0 rfl) ?_
      refine lv_i2l (v := r_88.toInt64) hx hb dL_law_907 rfl ?_
      refine W.lcmp hx hb dL_law_908 ?_
      refine lv_if_eq (tgt := 914) hx hb dL_law_909 (by decide) (fun hc => ?_) (fun hc => ?_)
      · replace h := zt hc h
        refine lv_goto (tgt := 1294) hx hb dL_law_914 (by decide) ?_
        refine W.widen (k := 157 + (j + 1)) (n := 4003 + 6 * (j + 1)) (by omega) (by omega) ?_
        exact tL_law_1294 C0 j K23 _ _ _ _ _ _ _ _ _ hj9 h _ _ hP hS _ (lv_sub hl [2, 3, 4, 5, 6] rfl)
      · replace h := zf hc h
        refine lv_iconst (v := 0) hx hb dL_law_912 (by decide) ?_
        cases h
  · replace h := zf hc h
    refine lv_iconst (v := 0) hx hb dL_law_895 (by decide) ?_
    cases h
set_option maxHeartbeats 4000000 in
set_option maxRecDepth 20000 in
theorem tL_law_917 (C0 : zLaw p l s m meth c b L xs G xO xM xU) (j : Nat) (hj : j < 64) {k23 : zSt → zSt → zSt → zSt → zSt → zSt → zSt → zSt → Int32 → Option Unit} (K23 : ∀ (uO : zSt) (uB : zSt) (uP : zSt) (uA : zSt) (uT : zSt) (uR : zSt) (uM : zSt) (uU : zSt) (l4 : Int32), l4 = nI (7 * (j + 1)) → k23 uO uB uP uA uT uR uM uU l4 = some () → ∀ (H : Heap) (locs : List Loc), zP G (zLsh G xO xM xU) [uO, uB, uP, uA, uT, uR, uM, uU] H → va_S (zA (zLsh G xO xM xU) s.heap.size) s.heap H locs → ∀ ls : Array Slot, lv_has ls 8 [(0, .ref (b)), (1, .ref (xO 0)), (2, .ref (xM 0)), (3, .ref (xU 0)), (4, .int l4)] → W p l e room_1 s m #[Value.ref b] below meth c H locs (157 + (j + 1)) (4003 + 6 * (j + 1)) (lw_Z below #[Value.ref b] s) (F0 m 23 ls [])) : ∀ (uO : zSt) (uB : zSt) (uP : zSt) (uA : zSt) (uT : zSt) (uR : zSt) (uM : zSt) (uU : zSt) (l4 : Int32), l4 = nI (7 * j) → bL_law_917 xs L k23 uO uB uP uA uT uR uM uU l4 = some () → ∀ (H : Heap) (locs : List Loc), zP G (zLsh G xO xM xU) [uO, uB, uP, uA, uT, uR, uM, uU] H → va_S (zA (zLsh G xO xM xU) s.heap.size) s.heap H locs → ∀ ls : Array Slot, lv_has ls 8 [(0, .ref (b)), (1, .ref (xO 0)), (2, .ref (xM 0)), (3, .ref (xU 0)), (4, .int l4)] → W p l e room_1 s m #[Value.ref b] below meth c H locs (157 + j) (4003 + 6 * j) (lw_Z below #[Value.ref b] s) (F0 m 917 ls []) := by
  obtain ⟨hx, hb, hr, hml, hown, hts, hlk, hK, hN, hD, hX, hH, hfl, hXs, hbl, hbA, hge, hL⟩ := id C0
  have hr0 : 157 + j ≤ room_1.cells ∧ 4003 + 6 * j ≤ room_1.slots := ⟨by show 157 + j ≤ 221; omega, by show 4003 + 6 * j ≤ 4387; omega⟩
  have hr1 : 157 + j + 1 ≤ room_1.cells ∧ 4003 + 6 * j + 6 ≤ room_1.slots := ⟨by show 157 + j + 1 ≤ 221; omega, by show 4003 + 6 * j + 6 ≤ 4387; omega⟩
  intro uO uB uP uA uT uR uM uU l4 hj9 h H locs hP hS ls hl
  unfold bL_law_917 at h
  refine lv_aload_n hx hb dL_law_917 rfl (lv_at hl 1 rfl) ?_
  refine lv_aload_n hx hb dL_law_918 rfl (lv_at hl 0 rfl) ?_
  refine lv_iload hx hb dL_law_919 (lv_at hl 4 rfl) ?_
  refine lv_iconst (v := 1) hx hb dL_law_921 (by decide) ?_
  refine lv_iadd hx hb dL_law_922 ?_
  obtain ⟨hi, h⟩ := zin_e h
  refine va_sld hx hb hXs hbl hbA hS hi dL_law_923 ?_
  refine lv_aload_n hx hb dL_law_924 rfl (lv_at hl 0 rfl) ?_
  refine lv_iload hx hb dL_law_925 (lv_at hl 4 rfl) ?_
  refine lv_iconst (v := 2) hx hb dL_law_927 (by decide) ?_
  refine lv_iadd hx hb dL_law_928 ?_
  obtain ⟨hi, h⟩ := zin_e h
  refine va_sld hx hb hXs hbl hbA hS hi dL_law_929 ?_
  refine lv_aload_n hx hb dL_law_930 rfl (lv_at hl 3 rfl) ?_
  obtain ⟨r_91, uB_92, uR_93, uU_94, hg, h⟩ := zb4_e h
  refine z_callL (As := [.ref (xO 0), .int ((xs ((l4 + (1 : Int32))).toNatClampNeg)), .int ((xs ((l4 + (2 : Int32))).toNatClampNeg)), .ref (xU 0)]) (rest := []) (hh := [(0, 10, 13, 49)]) ⟨hx, hb, hml, hown, hts⟩ (mL_relate l hfl G xO xU hg) (vx_cwSW 4 hts gL_law_L_relate rfl rfl rfl ksL_relate ⟨Nat.le_of_ble_eq_true rfl, Nat.le_of_ble_eq_true rfl⟩) hP hD hK hN hX hH hS (Nat.le_refl _) [0, 1, 5, 7] rfl rfl rfl rfl rfl hl.1 rfl (Nat.le_of_ble_eq_true rfl) dL_law_931 hr1 (fun H locs hP hS => ?_)
  replace hP : zP G (zLsh G xO xM xU) [uO, uB_92, uP, uA, uT, uR_93, uM, uU_94] H := hP
  refine lv_istore (lv' := [(5, .int r_91), (0, .ref (b)), (1, .ref (xO 0)), (2, .ref (xM 0)), (3, .ref (xU 0)), (4, .int l4)]) hx hb dL_law_934 hl (by decide) rfl (fun ls hl => ?_)
  refine lv_aload_n hx hb dL_law_936 rfl (lv_at hl 3 rfl) ?_
  refine lv_aload_n hx hb dL_law_937 rfl (lv_at hl 1 rfl) ?_
  refine lv_iload hx hb dL_law_938 (lv_at hl 5 rfl) ?_
  refine lv_iconst (v := 1) hx hb dL_law_940 (by decide) ?_
  refine lv_iadd hx hb dL_law_941 ?_
  obtain ⟨hi, h⟩ := zin_e h
  refine va_sld hx hb hXs hbl hbA hS hi dL_law_942 ?_
  refine lv_aload_n hx hb dL_law_943 rfl (lv_at hl 1 rfl) ?_
  refine lv_iload hx hb dL_law_944 (lv_at hl 5 rfl) ?_
  refine lv_iconst (v := 2) hx hb dL_law_946 (by decide) ?_
  refine lv_iadd hx hb dL_law_947 ?_
  obtain ⟨hi, h⟩ := zin_e h
  refine va_sld hx hb hXs hbl hbA hS hi dL_law_948 ?_
  obtain ⟨r_95, uM_96, hg, h⟩ := zb2_e h
  refine z_callV (As := [.int ((xs ((l4 + (1 : Int32))).toNatClampNeg)), .int ((xs ((l4 + (2 : Int32))).toNatClampNeg))]) (rest := []) (i := 0) ⟨hx, hb, hml, hown, hts⟩ (mX7_relate l G (xM) hg) (cwV 2 hts gL_law_X7_relate rfl rfl rfl kvX7_relate ⟨Nat.le_of_ble_eq_true rfl, Nat.le_of_ble_eq_true rfl⟩) rfl hP hD hK hN hS (Nat.le_refl _) [6] rfl rfl rfl rfl 6 rfl rfl rfl rfl rfl hl.1 rfl (Nat.le_of_ble_eq_true rfl) dL_law_949 hr1 (fun H locs hP hS => ?_)
  replace hP : zP G (zLsh G xO xM xU) [uO, uB_92, uP, uA, uT, uR_93, uM_96, uU_94] H := hP
  refine lv_istore (lv' := [(6, .int r_95), (5, .int r_91), (0, .ref (b)), (1, .ref (xO 0)), (2, .ref (xM 0)), (3, .ref (xU 0)), (4, .int l4)]) hx hb dL_law_952 hl (by decide) rfl (fun ls hl => ?_)
  refine lv_aload_n hx hb dL_law_954 rfl (lv_at hl 4 rfl) ?_
  obtain ⟨r_97, hg, h⟩ := zb1_e h
  refine z_callV (As := []) (rest := []) (i := 0) ⟨hx, hb, hml, hown, hts⟩ (mX7_thrown l G (xM) hg) (cwV 0 hts gL_law_X7_thrown rfl rfl rfl kvX7_thrown ⟨Nat.le_of_ble_eq_true rfl, Nat.le_of_ble_eq_true rfl⟩) rfl hP hD hK hN hS (Nat.le_refl _) [6] rfl rfl rfl rfl 6 rfl rfl rfl rfl rfl hl.1 rfl (Nat.le_of_ble_eq_true rfl) dL_law_955 hr1 (fun H locs hP hS => ?_)
  replace hP : zP G (zLsh G xO xM xU) [uO, uB_92, uP, uA, uT, uR_93, uM_96, uU_94] H := hP
  refine lv_iload hx hb dL_law_958 (lv_at hl 1 rfl) ?_
  refine lv_icmp_eq (tgt := 965) hx hb dL_law_960 (by decide) (fun hc => ?_) (fun hc => ?_)
  · replace h := zt hc h
    refine lv_iload hx hb dL_law_965 (lv_at hl 1 rfl) ?_
    refine lv_if_ne (tgt := 982) hx hb dL_law_967 (by decide) (fun hc => ?_) (fun hc => ?_)
    · replace h := zf hc h
      refine lv_goto (tgt := 1294) hx hb dL_law_982 (by decide) ?_
      refine W.widen (k := 157 + (j + 1)) (n := 4003 + 6 * (j + 1)) (by omega) (by omega) ?_
      exact tL_law_1294 C0 j K23 _ _ _ _ _ _ _ _ _ hj9 h _ _ hP hS _ (lv_sub hl [2, 3, 4, 5, 6] rfl)
    · replace h := zt hc h
      refine lv_aload_n hx hb dL_law_970 rfl (lv_at hl 5 rfl) ?_
      refine lv_iconst (v := 0) hx hb dL_law_971 (by decide) ?_
      refine aU_0 hx hb hK hP 7 (xU) rfl rfl (zvi tn_0 n0_0 (by decide)) tn_0 dL_law_972 ?_
      refine lv_iload hx hb dL_law_973 (lv_at hl 0 rfl) ?_
      refine lv_i2l (v := r_95.toInt64) hx hb dL_law_975 rfl ?_
      refine W.lcmp hx hb dL_law_976 ?_
      refine lv_if_eq (tgt := 982) hx hb dL_law_977 (by decide) (fun hc => ?_) (fun hc => ?_)
      · replace h := zt hc h
        refine lv_goto (tgt := 1294) hx hb dL_law_982 (by decide) ?_
        refine W.widen (k := 157 + (j + 1)) (n := 4003 + 6 * (j + 1)) (by omega) (by omega) ?_
        exact tL_law_1294 C0 j K23 _ _ _ _ _ _ _ _ _ hj9 h _ _ hP hS _ (lv_sub hl [2, 3, 4, 5, 6] rfl)
      · replace h := zf hc h
        refine lv_iconst (v := 0) hx hb dL_law_980 (by decide) ?_
        cases h
  · replace h := zf hc h
    refine lv_iconst (v := 0) hx hb dL_law_963 (by decide) ?_
    cases h
set_option maxHeartbeats 4000000 in
set_option maxRecDepth 20000 in
theorem tL_law_985 (C0 : zLaw p l s m meth c b L xs G xO xM xU) (j : Nat) (hj : j < 64) {k23 : zSt → zSt → zSt → zSt → zSt → zSt → zSt → zSt → Int32 → Option Unit} (K23 : ∀ (uO : zSt) (uB : zSt) (uP : zSt) (uA : zSt) (uT : zSt) (uR : zSt) (uM : zSt) (uU : zSt) (l4 : Int32), l4 = nI (7 * (j + 1)) → k23 uO uB uP uA uT uR uM uU l4 = some () → ∀ (H : Heap) (locs : List Loc), zP G (zLsh G xO xM xU) [uO, uB, uP, uA, uT, uR, uM, uU] H → va_S (zA (zLsh G xO xM xU) s.heap.size) s.heap H locs → ∀ ls : Array Slot, lv_has ls 8 [(0, .ref (b)), (1, .ref (xO 0)), (2, .ref (xM 0)), (3, .ref (xU 0)), (4, .int l4)] → W p l e room_1 s m #[Value.ref b] below meth c H locs (157 + (j + 1)) (4003 + 6 * (j + 1)) (lw_Z below #[Value.ref b] s) (F0 m 23 ls [])) : ∀ (uO : zSt) (uB : zSt) (uP : zSt) (uA : zSt) (uT : zSt) (uR : zSt) (uM : zSt) (uU : zSt) (l4 : Int32), l4 = nI (7 * j) → bL_law_985 xs L k23 uO uB uP uA uT uR uM uU l4 = some () → ∀ (H : Heap) (locs : List Loc), zP G (zLsh G xO xM xU) [uO, uB, uP, uA, uT, uR, uM, uU] H → va_S (zA (zLsh G xO xM xU) s.heap.size) s.heap H locs → ∀ ls : Array Slot, lv_has ls 8 [(0, .ref (b)), (1, .ref (xO 0)), (2, .ref (xM 0)), (3, .ref (xU 0)), (4, .int l4)] → W p l e room_1 s m #[Value.ref b] below meth c H locs (157 + j) (4003 + 6 * j) (lw_Z below #[Value.ref b] s) (F0 m 985 ls []) := by
  obtain ⟨hx, hb, hr, hml, hown, hts, hlk, hK, hN, hD, hX, hH, hfl, hXs, hbl, hbA, hge, hL⟩ := id C0
  have hr0 : 157 + j ≤ room_1.cells ∧ 4003 + 6 * j ≤ room_1.slots := ⟨by show 157 + j ≤ 221; omega, by show 4003 + 6 * j ≤ 4387; omega⟩
  have hr1 : 157 + j + 1 ≤ room_1.cells ∧ 4003 + 6 * j + 6 ≤ room_1.slots := ⟨by show 157 + j + 1 ≤ 221; omega, by show 4003 + 6 * j + 6 ≤ 4387; omega⟩
  intro uO uB uP uA uT uR uM uU l4 hj9 h H locs hP hS ls hl
  unfold bL_law_985 at h
  refine lv_aload_n hx hb dL_law_985 rfl (lv_at hl 1 rfl) ?_
  refine lv_aload_n hx hb dL_law_986 rfl (lv_at hl 0 rfl) ?_
  refine lv_iload hx hb dL_law_987 (lv_at hl 4 rfl) ?_
  refine lv_iconst (v := 1) hx hb dL_law_989 (by decide) ?_
  refine lv_iadd hx hb dL_law_990 ?_
  obtain ⟨hi, h⟩ := zin_e h
  refine va_sld hx hb hXs hbl hbA hS hi dL_law_991 ?_
  refine lv_aload_n hx hb dL_law_992 rfl (lv_at hl 3 rfl) ?_
  obtain ⟨r_98, uU_99, hg, h⟩ := zb2_e h
  refine z_callL (As := [.ref (xO 0), .int ((xs ((l4 + (1 : Int32))).toNatClampNeg)), .ref (xU 0)]) (rest := []) (hh := [(0, 8, 11, 49)]) ⟨hx, hb, hml, hown, hts⟩ (mL_proof l hfl G xO xU hg) (vx_cwSW 3 hts gL_law_L_proof rfl rfl rfl ksL_proof ⟨Nat.le_of_ble_eq_true rfl, Nat.le_of_ble_eq_true rfl⟩) hP hD hK hN hX hH hS (Nat.le_refl _) [0, 5, 7] rfl rfl rfl rfl rfl hl.1 rfl (Nat.le_of_ble_eq_true rfl) dL_law_993 hr1 (fun H locs hP hS => ?_)
  replace hP : zP G (zLsh G xO xM xU) [uO, uB, uP, uA, uT, uR, uM, uU_99] H := hP
  refine lv_istore (lv' := [(5, .int r_98), (0, .ref (b)), (1, .ref (xO 0)), (2, .ref (xM 0)), (3, .ref (xU 0)), (4, .int l4)]) hx hb dL_law_996 hl (by decide) rfl (fun ls hl => ?_)
  refine lv_aload_n hx hb dL_law_998 rfl (lv_at hl 3 rfl) ?_
  refine lv_aload_n hx hb dL_law_999 rfl (lv_at hl 1 rfl) ?_
  refine lv_iload hx hb dL_law_1000 (lv_at hl 5 rfl) ?_
  refine lv_iconst (v := 1) hx hb dL_law_1002 (by decide) ?_
  refine lv_iadd hx hb dL_law_1003 ?_
  obtain ⟨hi, h⟩ := zin_e h
  refine va_sld hx hb hXs hbl hbA hS hi dL_law_1004 ?_
  obtain ⟨r_100, uM_101, hg, h⟩ := zb2_e h
  refine z_callV (As := [.int ((xs ((l4 + (1 : Int32))).toNatClampNeg))]) (rest := []) (i := 0) ⟨hx, hb, hml, hown, hts⟩ (mX7_proof l G (xM) hg) (cwV 1 hts gL_law_X7_proof rfl rfl rfl kvX7_proof ⟨Nat.le_of_ble_eq_true rfl, Nat.le_of_ble_eq_true rfl⟩) rfl hP hD hK hN hS (Nat.le_refl _) [6] rfl rfl rfl rfl 6 rfl rfl rfl rfl rfl hl.1 rfl (Nat.le_of_ble_eq_true rfl) dL_law_1005 hr1 (fun H locs hP hS => ?_)
  replace hP : zP G (zLsh G xO xM xU) [uO, uB, uP, uA, uT, uR, uM_101, uU_99] H := hP
  refine lv_lstore (lv' := [(6, .long r_100), (5, .int r_98), (0, .ref (b)), (1, .ref (xO 0)), (2, .ref (xM 0)), (3, .ref (xU 0)), (4, .int l4)]) hx hb dL_law_1008 hl (by decide) rfl (fun ls hl => ?_)
  refine lv_aload_n hx hb dL_law_1010 rfl (lv_at hl 4 rfl) ?_
  obtain ⟨r_102, hg, h⟩ := zb1_e h
  refine z_callV (As := []) (rest := []) (i := 0) ⟨hx, hb, hml, hown, hts⟩ (mX7_thrown l G (xM) hg) (cwV 0 hts gL_law_X7_thrown rfl rfl rfl kvX7_thrown ⟨Nat.le_of_ble_eq_true rfl, Nat.le_of_ble_eq_true rfl⟩) rfl hP hD hK hN hS (Nat.le_refl _) [6] rfl rfl rfl rfl 6 rfl rfl rfl rfl rfl hl.1 rfl (Nat.le_of_ble_eq_true rfl) dL_law_1011 hr1 (fun H locs hP hS => ?_)
  replace hP : zP G (zLsh G xO xM xU) [uO, uB, uP, uA, uT, uR, uM_101, uU_99] H := hP
  refine lv_iload hx hb dL_law_1014 (lv_at hl 1 rfl) ?_
  refine lv_icmp_eq (tgt := 1021) hx hb dL_law_1016 (by decide) (fun hc => ?_) (fun hc => ?_)
  · replace h := zt hc h
    refine lv_iload hx hb dL_law_1021 (lv_at hl 1 rfl) ?_
    refine lv_if_ne (tgt := 1037) hx hb dL_law_1023 (by decide) (fun hc => ?_) (fun hc => ?_)
    · replace h := zf hc h
      refine lv_goto (tgt := 1294) hx hb dL_law_1037 (by decide) ?_
      refine W.widen (k := 157 + (j + 1)) (n := 4003 + 6 * (j + 1)) (by omega) (by omega) ?_
      exact tL_law_1294 C0 j K23 _ _ _ _ _ _ _ _ _ hj9 h _ _ hP hS _ (lv_sub hl [2, 3, 4, 5, 6] rfl)
    · replace h := zt hc h
      refine lv_aload_n hx hb dL_law_1026 rfl (lv_at hl 5 rfl) ?_
      refine lv_iconst (v := 0) hx hb dL_law_1027 (by decide) ?_
      refine aU_0 hx hb hK hP 7 (xU) rfl rfl (zvi tn_0 n0_0 (by decide)) tn_0 dL_law_1028 ?_
      refine lv_lload hx hb dL_law_1029 (lv_at hl 0 rfl) ?_
      refine W.lcmp hx hb dL_law_1031 ?_
      refine lv_if_eq (tgt := 1037) hx hb dL_law_1032 (by decide) (fun hc => ?_) (fun hc => ?_)
      · replace h := zt hc h
        refine lv_goto (tgt := 1294) hx hb dL_law_1037 (by decide) ?_
        refine W.widen (k := 157 + (j + 1)) (n := 4003 + 6 * (j + 1)) (by omega) (by omega) ?_
        exact tL_law_1294 C0 j K23 _ _ _ _ _ _ _ _ _ hj9 h _ _ hP hS _ (lv_sub hl [2, 3, 4, 5, 6] rfl)
      · replace h := zf hc h
        refine lv_iconst (v := 0) hx hb dL_law_1035 (by decide) ?_
        cases h
  · replace h := zf hc h
    refine lv_iconst (v := 0) hx hb dL_law_1019 (by decide) ?_
    cases h
set_option maxHeartbeats 4000000 in
set_option maxRecDepth 20000 in
theorem tL_law_1040 (C0 : zLaw p l s m meth c b L xs G xO xM xU) (j : Nat) (hj : j < 64) {k23 : zSt → zSt → zSt → zSt → zSt → zSt → zSt → zSt → Int32 → Option Unit} (K23 : ∀ (uO : zSt) (uB : zSt) (uP : zSt) (uA : zSt) (uT : zSt) (uR : zSt) (uM : zSt) (uU : zSt) (l4 : Int32), l4 = nI (7 * (j + 1)) → k23 uO uB uP uA uT uR uM uU l4 = some () → ∀ (H : Heap) (locs : List Loc), zP G (zLsh G xO xM xU) [uO, uB, uP, uA, uT, uR, uM, uU] H → va_S (zA (zLsh G xO xM xU) s.heap.size) s.heap H locs → ∀ ls : Array Slot, lv_has ls 8 [(0, .ref (b)), (1, .ref (xO 0)), (2, .ref (xM 0)), (3, .ref (xU 0)), (4, .int l4)] → W p l e room_1 s m #[Value.ref b] below meth c H locs (157 + (j + 1)) (4003 + 6 * (j + 1)) (lw_Z below #[Value.ref b] s) (F0 m 23 ls [])) : ∀ (uO : zSt) (uB : zSt) (uP : zSt) (uA : zSt) (uT : zSt) (uR : zSt) (uM : zSt) (uU : zSt) (l4 : Int32), l4 = nI (7 * j) → bL_law_1040 xs L k23 uO uB uP uA uT uR uM uU l4 = some () → ∀ (H : Heap) (locs : List Loc), zP G (zLsh G xO xM xU) [uO, uB, uP, uA, uT, uR, uM, uU] H → va_S (zA (zLsh G xO xM xU) s.heap.size) s.heap H locs → ∀ ls : Array Slot, lv_has ls 8 [(0, .ref (b)), (1, .ref (xO 0)), (2, .ref (xM 0)), (3, .ref (xU 0)), (4, .int l4)] → W p l e room_1 s m #[Value.ref b] below meth c H locs (157 + j) (4003 + 6 * j) (lw_Z below #[Value.ref b] s) (F0 m 1040 ls []) := by
  obtain ⟨hx, hb, hr, hml, hown, hts, hlk, hK, hN, hD, hX, hH, hfl, hXs, hbl, hbA, hge, hL⟩ := id C0
  have hr0 : 157 + j ≤ room_1.cells ∧ 4003 + 6 * j ≤ room_1.slots := ⟨by show 157 + j ≤ 221; omega, by show 4003 + 6 * j ≤ 4387; omega⟩
  have hr1 : 157 + j + 1 ≤ room_1.cells ∧ 4003 + 6 * j + 6 ≤ room_1.slots := ⟨by show 157 + j + 1 ≤ 221; omega, by show 4003 + 6 * j + 6 ≤ 4387; omega⟩
  intro uO uB uP uA uT uR uM uU l4 hj9 h H locs hP hS ls hl
  unfold bL_law_1040 at h
  refine lv_aload_n hx hb dL_law_1040 rfl (lv_at hl 1 rfl) ?_
  refine lv_aload_n hx hb dL_law_1041 rfl (lv_at hl 0 rfl) ?_
  refine lv_iload hx hb dL_law_1042 (lv_at hl 4 rfl) ?_
  refine lv_iconst (v := 1) hx hb dL_law_1044 (by decide) ?_
  refine lv_iadd hx hb dL_law_1045 ?_
  obtain ⟨hi, h⟩ := zin_e h
  refine va_sld hx hb hXs hbl hbA hS hi dL_law_1046 ?_
  refine lv_aload_n hx hb dL_law_1047 rfl (lv_at hl 0 rfl) ?_
  refine lv_iload hx hb dL_law_1048 (lv_at hl 4 rfl) ?_
  refine lv_iconst (v := 2) hx hb dL_law_1050 (by decide) ?_
  refine lv_iadd hx hb dL_law_1051 ?_
  obtain ⟨hi, h⟩ := zin_e h
  refine va_sld hx hb hXs hbl hbA hS hi dL_law_1052 ?_
  refine lv_aload_n hx hb dL_law_1053 rfl (lv_at hl 0 rfl) ?_
  refine lv_iload hx hb dL_law_1054 (lv_at hl 4 rfl) ?_
  refine lv_iconst (v := 3) hx hb dL_law_1056 (by decide) ?_
  refine lv_iadd hx hb dL_law_1057 ?_
  obtain ⟨hi, h⟩ := zin_e h
  refine va_sld hx hb hXs hbl hbA hS hi dL_law_1058 ?_
  refine lv_i2l (v := (xs ((l4 + (3 : Int32))).toNatClampNeg).toInt64) hx hb dL_law_1059 rfl ?_
  refine lv_bipush (v := 32) hx hb dL_law_1060 (by decide) ?_
  refine lv_lshl (v := (((xs ((l4 + (3 : Int32))).toNatClampNeg).toInt64) <<< ((32 : Int32).toInt64 &&& 63))) hx hb dL_law_1062 rfl ?_
  refine lv_aload_n hx hb dL_law_1063 rfl (lv_at hl 0 rfl) ?_
  refine lv_iload hx hb dL_law_1064 (lv_at hl 4 rfl) ?_
  refine lv_iconst (v := 4) hx hb dL_law_1066 (by decide) ?_
  refine lv_iadd hx hb dL_law_1067 ?_
  obtain ⟨hi, h⟩ := zin_e h
  refine va_sld hx hb hXs hbl hbA hS hi dL_law_1068 ?_
  refine lv_i2l (v := (xs ((l4 + (4 : Int32))).toNatClampNeg).toInt64) hx hb dL_law_1069 rfl ?_
  refine lv_ldc2 (v := (4294967295)) hx hb hown (hts _ (List.mem_of_getElem? (i := 7) rfl)) dL_law_1070 ?_
  refine lv_land hx hb dL_law_1073 ?_
  refine lv_lor hx hb dL_law_1074 ?_
  refine lv_aload_n hx hb dL_law_1075 rfl (lv_at hl 0 rfl) ?_
  refine lv_iload hx hb dL_law_1076 (lv_at hl 4 rfl) ?_
  refine lv_iconst (v := 5) hx hb dL_law_1078 (by decide) ?_
  refine lv_iadd hx hb dL_law_1079 ?_
  obtain ⟨hi, h⟩ := zin_e h
  refine va_sld hx hb hXs hbl hbA hS hi dL_law_1080 ?_
  refine lv_i2l (v := (xs ((l4 + (5 : Int32))).toNatClampNeg).toInt64) hx hb dL_law_1081 rfl ?_
  refine lv_bipush (v := 32) hx hb dL_law_1082 (by decide) ?_
  refine lv_lshl (v := (((xs ((l4 + (5 : Int32))).toNatClampNeg).toInt64) <<< ((32 : Int32).toInt64 &&& 63))) hx hb dL_law_1084 rfl ?_
  refine lv_aload_n hx hb dL_law_1085 rfl (lv_at hl 0 rfl) ?_
  refine lv_iload hx hb dL_law_1086 (lv_at hl 4 rfl) ?_
  refine lv_bipush (v := 6) hx hb dL_law_1088 (by decide) ?_
  refine lv_iadd hx hb dL_law_1090 ?_
  obtain ⟨hi, h⟩ := zin_e h
  refine va_sld hx hb hXs hbl hbA hS hi dL_law_1091 ?_
  refine lv_i2l (v := (xs ((l4 + (6 : Int32))).toNatClampNeg).toInt64) hx hb dL_law_1092 rfl ?_
  refine lv_ldc2 (v := (4294967295)) hx hb hown (hts _ (List.mem_of_getElem? (i := 7) rfl)) dL_law_1093 ?_
  refine lv_land hx hb dL_law_1096 ?_
  refine lv_lor hx hb dL_law_1097 ?_
  obtain ⟨r_103, uR_104, hg, h⟩ := zb2_e h
  refine z_callV (As := [.int ((xs ((l4 + (1 : Int32))).toNatClampNeg)), .int ((xs ((l4 + (2 : Int32))).toNatClampNeg)), .long (((((xs ((l4 + (3 : Int32))).toNatClampNeg).toInt64) <<< ((32 : Int32).toInt64 &&& 63)) ||| (((xs ((l4 + (4 : Int32))).toNatClampNeg).toInt64) &&& (4294967295 : Int64)))), .long (((((xs ((l4 + (5 : Int32))).toNatClampNeg).toInt64) <<< ((32 : Int32).toInt64 &&& 63)) ||| (((xs ((l4 + (6 : Int32))).toNatClampNeg).toInt64) &&& (4294967295 : Int64))))]) (rest := []) (i := 0) ⟨hx, hb, hml, hown, hts⟩ (mX6_shows l G (xO) hg) (cwV 4 hts gL_law_X6_shows rfl rfl rfl kvX6_shows ⟨Nat.le_of_ble_eq_true rfl, Nat.le_of_ble_eq_true rfl⟩) rfl hP hD hK hN hS (Nat.le_refl _) [0, 5] rfl rfl rfl rfl 0 rfl rfl rfl rfl rfl hl.1 rfl (Nat.le_of_ble_eq_true rfl) dL_law_1098 hr0 (fun H locs hP hS => ?_)
  replace hP : zP G (zLsh G xO xM xU) [uO, uB, uP, uA, uT, uR_104, uM, uU] H := hP
  refine lv_aload_n hx hb dL_law_1101 rfl (lv_at hl 2 rfl) ?_
  refine lv_aload_n hx hb dL_law_1102 rfl (lv_at hl 0 rfl) ?_
  refine lv_iload hx hb dL_law_1103 (lv_at hl 4 rfl) ?_
  refine lv_iconst (v := 1) hx hb dL_law_1105 (by decide) ?_
  refine lv_iadd hx hb dL_law_1106 ?_
  obtain ⟨hi, h⟩ := zin_e h
  refine va_sld hx hb hXs hbl hbA hS hi dL_law_1107 ?_
  refine lv_aload_n hx hb dL_law_1108 rfl (lv_at hl 0 rfl) ?_
  refine lv_iload hx hb dL_law_1109 (lv_at hl 4 rfl) ?_
  refine lv_iconst (v := 2) hx hb dL_law_1111 (by decide) ?_
  refine lv_iadd hx hb dL_law_1112 ?_
  obtain ⟨hi, h⟩ := zin_e h
  refine va_sld hx hb hXs hbl hbA hS hi dL_law_1113 ?_
  refine lv_aload_n hx hb dL_law_1114 rfl (lv_at hl 0 rfl) ?_
  refine lv_iload hx hb dL_law_1115 (lv_at hl 4 rfl) ?_
  refine lv_iconst (v := 3) hx hb dL_law_1117 (by decide) ?_
  refine lv_iadd hx hb dL_law_1118 ?_
  obtain ⟨hi, h⟩ := zin_e h
  refine va_sld hx hb hXs hbl hbA hS hi dL_law_1119 ?_
  refine lv_i2l (v := (xs ((l4 + (3 : Int32))).toNatClampNeg).toInt64) hx hb dL_law_1120 rfl ?_
  refine lv_bipush (v := 32) hx hb dL_law_1121 (by decide) ?_
  refine lv_lshl (v := (((xs ((l4 + (3 : Int32))).toNatClampNeg).toInt64) <<< ((32 : Int32).toInt64 &&& 63))) hx hb dL_law_1123 rfl ?_
  refine lv_aload_n hx hb dL_law_1124 rfl (lv_at hl 0 rfl) ?_
  refine lv_iload hx hb dL_law_1125 (lv_at hl 4 rfl) ?_
  refine lv_iconst (v := 4) hx hb dL_law_1127 (by decide) ?_
  refine lv_iadd hx hb dL_law_1128 ?_
  obtain ⟨hi, h⟩ := zin_e h
  refine va_sld hx hb hXs hbl hbA hS hi dL_law_1129 ?_
  refine lv_i2l (v := (xs ((l4 + (4 : Int32))).toNatClampNeg).toInt64) hx hb dL_law_1130 rfl ?_
  refine lv_ldc2 (v := (4294967295)) hx hb hown (hts _ (List.mem_of_getElem? (i := 7) rfl)) dL_law_1131 ?_
  refine lv_land hx hb dL_law_1134 ?_
  refine lv_lor hx hb dL_law_1135 ?_
  refine lv_aload_n hx hb dL_law_1136 rfl (lv_at hl 0 rfl) ?_
  refine lv_iload hx hb dL_law_1137 (lv_at hl 4 rfl) ?_
  refine lv_iconst (v := 5) hx hb dL_law_1139 (by decide) ?_
  refine lv_iadd hx hb dL_law_1140 ?_
  obtain ⟨hi, h⟩ := zin_e h
  refine va_sld hx hb hXs hbl hbA hS hi dL_law_1141 ?_
  refine lv_i2l (v := (xs ((l4 + (5 : Int32))).toNatClampNeg).toInt64) hx hb dL_law_1142 rfl ?_
  refine lv_bipush (v := 32) hx hb dL_law_1143 (by decide) ?_
  refine lv_lshl (v := (((xs ((l4 + (5 : Int32))).toNatClampNeg).toInt64) <<< ((32 : Int32).toInt64 &&& 63))) hx hb dL_law_1145 rfl ?_
  refine lv_aload_n hx hb dL_law_1146 rfl (lv_at hl 0 rfl) ?_
  refine lv_iload hx hb dL_law_1147 (lv_at hl 4 rfl) ?_
  refine lv_bipush (v := 6) hx hb dL_law_1149 (by decide) ?_
  refine lv_iadd hx hb dL_law_1151 ?_
  obtain ⟨hi, h⟩ := zin_e h
  refine va_sld hx hb hXs hbl hbA hS hi dL_law_1152 ?_
  refine lv_i2l (v := (xs ((l4 + (6 : Int32))).toNatClampNeg).toInt64) hx hb dL_law_1153 rfl ?_
  refine lv_ldc2 (v := (4294967295)) hx hb hown (hts _ (List.mem_of_getElem? (i := 7) rfl)) dL_law_1154 ?_
  refine lv_land hx hb dL_law_1157 ?_
  refine lv_lor hx hb dL_law_1158 ?_
  obtain ⟨r_105, uM_106, hg, h⟩ := zb2_e h
  refine z_callV (As := [.int ((xs ((l4 + (1 : Int32))).toNatClampNeg)), .int ((xs ((l4 + (2 : Int32))).toNatClampNeg)), .long (((((xs ((l4 + (3 : Int32))).toNatClampNeg).toInt64) <<< ((32 : Int32).toInt64 &&& 63)) ||| (((xs ((l4 + (4 : Int32))).toNatClampNeg).toInt64) &&& (4294967295 : Int64)))), .long (((((xs ((l4 + (5 : Int32))).toNatClampNeg).toInt64) <<< ((32 : Int32).toInt64 &&& 63)) ||| (((xs ((l4 + (6 : Int32))).toNatClampNeg).toInt64) &&& (4294967295 : Int64))))]) (rest := [.int r_103]) (i := 0) ⟨hx, hb, hml, hown, hts⟩ (mX7_shows l G (xM) hg) (cwV 4 hts gL_law_X7_shows rfl rfl rfl kvX7_shows ⟨Nat.le_of_ble_eq_true rfl, Nat.le_of_ble_eq_true rfl⟩) rfl hP hD hK hN hS (Nat.le_refl _) [6] rfl rfl rfl rfl 6 rfl rfl rfl rfl rfl hl.1 rfl (Nat.le_of_ble_eq_true rfl) dL_law_1159 hr0 (fun H locs hP hS => ?_)
  replace hP : zP G (zLsh G xO xM xU) [uO, uB, uP, uA, uT, uR_104, uM_106, uU] H := hP
  refine lv_icmp_eq (tgt := 1294) hx hb dL_law_1162 (by decide) (fun hc => ?_) (fun hc => ?_)
  · replace h := zt hc h
    refine W.widen (k := 157 + (j + 1)) (n := 4003 + 6 * (j + 1)) (by omega) (by omega) ?_
    exact tL_law_1294 C0 j K23 _ _ _ _ _ _ _ _ _ hj9 h _ _ hP hS _ (lv_sub hl [0, 1, 2, 3, 4] rfl)
  · replace h := zf hc h
    refine lv_iconst (v := 0) hx hb dL_law_1165 (by decide) ?_
    cases h
set_option maxHeartbeats 4000000 in
set_option maxRecDepth 20000 in
theorem tL_law_1167 (C0 : zLaw p l s m meth c b L xs G xO xM xU) (j : Nat) (hj : j < 64) {k23 : zSt → zSt → zSt → zSt → zSt → zSt → zSt → zSt → Int32 → Option Unit} (K23 : ∀ (uO : zSt) (uB : zSt) (uP : zSt) (uA : zSt) (uT : zSt) (uR : zSt) (uM : zSt) (uU : zSt) (l4 : Int32), l4 = nI (7 * (j + 1)) → k23 uO uB uP uA uT uR uM uU l4 = some () → ∀ (H : Heap) (locs : List Loc), zP G (zLsh G xO xM xU) [uO, uB, uP, uA, uT, uR, uM, uU] H → va_S (zA (zLsh G xO xM xU) s.heap.size) s.heap H locs → ∀ ls : Array Slot, lv_has ls 8 [(0, .ref (b)), (1, .ref (xO 0)), (2, .ref (xM 0)), (3, .ref (xU 0)), (4, .int l4)] → W p l e room_1 s m #[Value.ref b] below meth c H locs (157 + (j + 1)) (4003 + 6 * (j + 1)) (lw_Z below #[Value.ref b] s) (F0 m 23 ls [])) : ∀ (uO : zSt) (uB : zSt) (uP : zSt) (uA : zSt) (uT : zSt) (uR : zSt) (uM : zSt) (uU : zSt) (l4 : Int32), l4 = nI (7 * j) → bL_law_1167 xs L k23 uO uB uP uA uT uR uM uU l4 = some () → ∀ (H : Heap) (locs : List Loc), zP G (zLsh G xO xM xU) [uO, uB, uP, uA, uT, uR, uM, uU] H → va_S (zA (zLsh G xO xM xU) s.heap.size) s.heap H locs → ∀ ls : Array Slot, lv_has ls 8 [(0, .ref (b)), (1, .ref (xO 0)), (2, .ref (xM 0)), (3, .ref (xU 0)), (4, .int l4)] → W p l e room_1 s m #[Value.ref b] below meth c H locs (157 + j) (4003 + 6 * j) (lw_Z below #[Value.ref b] s) (F0 m 1167 ls []) := by
  obtain ⟨hx, hb, hr, hml, hown, hts, hlk, hK, hN, hD, hX, hH, hfl, hXs, hbl, hbA, hge, hL⟩ := id C0
  have hr0 : 157 + j ≤ room_1.cells ∧ 4003 + 6 * j ≤ room_1.slots := ⟨by show 157 + j ≤ 221; omega, by show 4003 + 6 * j ≤ 4387; omega⟩
  have hr1 : 157 + j + 1 ≤ room_1.cells ∧ 4003 + 6 * j + 6 ≤ room_1.slots := ⟨by show 157 + j + 1 ≤ 221; omega, by show 4003 + 6 * j + 6 ≤ 4387; omega⟩
  intro uO uB uP uA uT uR uM uU l4 hj9 h H locs hP hS ls hl
  unfold bL_law_1167 at h
  refine lv_aload_n hx hb dL_law_1167 rfl (lv_at hl 1 rfl) ?_
  refine lv_aload_n hx hb dL_law_1168 rfl (lv_at hl 0 rfl) ?_
  refine lv_iload hx hb dL_law_1169 (lv_at hl 4 rfl) ?_
  refine lv_iconst (v := 1) hx hb dL_law_1171 (by decide) ?_
  refine lv_iadd hx hb dL_law_1172 ?_
  obtain ⟨hi, h⟩ := zin_e h
  refine va_sld hx hb hXs hbl hbA hS hi dL_law_1173 ?_
  refine lv_aload_n hx hb dL_law_1174 rfl (lv_at hl 0 rfl) ?_
  refine lv_iload hx hb dL_law_1175 (lv_at hl 4 rfl) ?_
  refine lv_iconst (v := 2) hx hb dL_law_1177 (by decide) ?_
  refine lv_iadd hx hb dL_law_1178 ?_
  obtain ⟨hi, h⟩ := zin_e h
  refine va_sld hx hb hXs hbl hbA hS hi dL_law_1179 ?_
  refine lv_aload_n hx hb dL_law_1180 rfl (lv_at hl 0 rfl) ?_
  refine lv_iload hx hb dL_law_1181 (lv_at hl 4 rfl) ?_
  refine lv_iconst (v := 3) hx hb dL_law_1183 (by decide) ?_
  refine lv_iadd hx hb dL_law_1184 ?_
  obtain ⟨hi, h⟩ := zin_e h
  refine va_sld hx hb hXs hbl hbA hS hi dL_law_1185 ?_
  refine lv_i2l (v := (xs ((l4 + (3 : Int32))).toNatClampNeg).toInt64) hx hb dL_law_1186 rfl ?_
  refine lv_bipush (v := 32) hx hb dL_law_1187 (by decide) ?_
  refine lv_lshl (v := (((xs ((l4 + (3 : Int32))).toNatClampNeg).toInt64) <<< ((32 : Int32).toInt64 &&& 63))) hx hb dL_law_1189 rfl ?_
  refine lv_aload_n hx hb dL_law_1190 rfl (lv_at hl 0 rfl) ?_
  refine lv_iload hx hb dL_law_1191 (lv_at hl 4 rfl) ?_
  refine lv_iconst (v := 4) hx hb dL_law_1193 (by decide) ?_
  refine lv_iadd hx hb dL_law_1194 ?_
  obtain ⟨hi, h⟩ := zin_e h
  refine va_sld hx hb hXs hbl hbA hS hi dL_law_1195 ?_
  refine lv_i2l (v := (xs ((l4 + (4 : Int32))).toNatClampNeg).toInt64) hx hb dL_law_1196 rfl ?_
  refine lv_ldc2 (v := (4294967295)) hx hb hown (hts _ (List.mem_of_getElem? (i := 7) rfl)) dL_law_1197 ?_
  refine lv_land hx hb dL_law_1200 ?_
  refine lv_lor hx hb dL_law_1201 ?_
  refine lv_aload_n hx hb dL_law_1202 rfl (lv_at hl 0 rfl) ?_
  refine lv_iload hx hb dL_law_1203 (lv_at hl 4 rfl) ?_
  refine lv_iconst (v := 5) hx hb dL_law_1205 (by decide) ?_
  refine lv_iadd hx hb dL_law_1206 ?_
  obtain ⟨hi, h⟩ := zin_e h
  refine va_sld hx hb hXs hbl hbA hS hi dL_law_1207 ?_
  refine lv_i2l (v := (xs ((l4 + (5 : Int32))).toNatClampNeg).toInt64) hx hb dL_law_1208 rfl ?_
  refine lv_bipush (v := 32) hx hb dL_law_1209 (by decide) ?_
  refine lv_lshl (v := (((xs ((l4 + (5 : Int32))).toNatClampNeg).toInt64) <<< ((32 : Int32).toInt64 &&& 63))) hx hb dL_law_1211 rfl ?_
  refine lv_aload_n hx hb dL_law_1212 rfl (lv_at hl 0 rfl) ?_
  refine lv_iload hx hb dL_law_1213 (lv_at hl 4 rfl) ?_
  refine lv_bipush (v := 6) hx hb dL_law_1215 (by decide) ?_
  refine lv_iadd hx hb dL_law_1217 ?_
  obtain ⟨hi, h⟩ := zin_e h
  refine va_sld hx hb hXs hbl hbA hS hi dL_law_1218 ?_
  refine lv_i2l (v := (xs ((l4 + (6 : Int32))).toNatClampNeg).toInt64) hx hb dL_law_1219 rfl ?_
  refine lv_ldc2 (v := (4294967295)) hx hb hown (hts _ (List.mem_of_getElem? (i := 7) rfl)) dL_law_1220 ?_
  refine lv_land hx hb dL_law_1223 ?_
  refine lv_lor hx hb dL_law_1224 ?_
  obtain ⟨r_107, uR_108, hg, h⟩ := zb2_e h
  refine z_callV (As := [.int ((xs ((l4 + (1 : Int32))).toNatClampNeg)), .int ((xs ((l4 + (2 : Int32))).toNatClampNeg)), .long (((((xs ((l4 + (3 : Int32))).toNatClampNeg).toInt64) <<< ((32 : Int32).toInt64 &&& 63)) ||| (((xs ((l4 + (4 : Int32))).toNatClampNeg).toInt64) &&& (4294967295 : Int64)))), .long (((((xs ((l4 + (5 : Int32))).toNatClampNeg).toInt64) <<< ((32 : Int32).toInt64 &&& 63)) ||| (((xs ((l4 + (6 : Int32))).toNatClampNeg).toInt64) &&& (4294967295 : Int64))))]) (rest := []) (i := 0) ⟨hx, hb, hml, hown, hts⟩ (mX6_continues l G (xO) hg) (cwV 4 hts gL_law_X6_continues rfl rfl rfl kvX6_continues ⟨Nat.le_of_ble_eq_true rfl, Nat.le_of_ble_eq_true rfl⟩) rfl hP hD hK hN hS (Nat.le_refl _) [0, 5] rfl rfl rfl rfl 0 rfl rfl rfl rfl rfl hl.1 rfl (Nat.le_of_ble_eq_true rfl) dL_law_1225 hr0 (fun H locs hP hS => ?_)
  replace hP : zP G (zLsh G xO xM xU) [uO, uB, uP, uA, uT, uR_108, uM, uU] H := hP
  refine lv_aload_n hx hb dL_law_1228 rfl (lv_at hl 2 rfl) ?_
  refine lv_aload_n hx hb dL_law_1229 rfl (lv_at hl 0 rfl) ?_
  refine lv_iload hx hb dL_law_1230 (lv_at hl 4 rfl) ?_
  refine lv_iconst (v := 1) hx hb dL_law_1232 (by decide) ?_
  refine lv_iadd hx hb dL_law_1233 ?_
  obtain ⟨hi, h⟩ := zin_e h
  refine va_sld hx hb hXs hbl hbA hS hi dL_law_1234 ?_
  refine lv_aload_n hx hb dL_law_1235 rfl (lv_at hl 0 rfl) ?_
  refine lv_iload hx hb dL_law_1236 (lv_at hl 4 rfl) ?_
  refine lv_iconst (v := 2) hx hb dL_law_1238 (by decide) ?_
  refine lv_iadd hx hb dL_law_1239 ?_
  obtain ⟨hi, h⟩ := zin_e h
  refine va_sld hx hb hXs hbl hbA hS hi dL_law_1240 ?_
  refine lv_aload_n hx hb dL_law_1241 rfl (lv_at hl 0 rfl) ?_
  refine lv_iload hx hb dL_law_1242 (lv_at hl 4 rfl) ?_
  refine lv_iconst (v := 3) hx hb dL_law_1244 (by decide) ?_
  refine lv_iadd hx hb dL_law_1245 ?_
  obtain ⟨hi, h⟩ := zin_e h
  refine va_sld hx hb hXs hbl hbA hS hi dL_law_1246 ?_
  refine lv_i2l (v := (xs ((l4 + (3 : Int32))).toNatClampNeg).toInt64) hx hb dL_law_1247 rfl ?_
  refine lv_bipush (v := 32) hx hb dL_law_1248 (by decide) ?_
  refine lv_lshl (v := (((xs ((l4 + (3 : Int32))).toNatClampNeg).toInt64) <<< ((32 : Int32).toInt64 &&& 63))) hx hb dL_law_1250 rfl ?_
  refine lv_aload_n hx hb dL_law_1251 rfl (lv_at hl 0 rfl) ?_
  refine lv_iload hx hb dL_law_1252 (lv_at hl 4 rfl) ?_
  refine lv_iconst (v := 4) hx hb dL_law_1254 (by decide) ?_
  refine lv_iadd hx hb dL_law_1255 ?_
  obtain ⟨hi, h⟩ := zin_e h
  refine va_sld hx hb hXs hbl hbA hS hi dL_law_1256 ?_
  refine lv_i2l (v := (xs ((l4 + (4 : Int32))).toNatClampNeg).toInt64) hx hb dL_law_1257 rfl ?_
  refine lv_ldc2 (v := (4294967295)) hx hb hown (hts _ (List.mem_of_getElem? (i := 7) rfl)) dL_law_1258 ?_
  refine lv_land hx hb dL_law_1261 ?_
  refine lv_lor hx hb dL_law_1262 ?_
  refine lv_aload_n hx hb dL_law_1263 rfl (lv_at hl 0 rfl) ?_
  refine lv_iload hx hb dL_law_1264 (lv_at hl 4 rfl) ?_
  refine lv_iconst (v := 5) hx hb dL_law_1266 (by decide) ?_
  refine lv_iadd hx hb dL_law_1267 ?_
  obtain ⟨hi, h⟩ := zin_e h
  refine va_sld hx hb hXs hbl hbA hS hi dL_law_1268 ?_
  refine lv_i2l (v := (xs ((l4 + (5 : Int32))).toNatClampNeg).toInt64) hx hb dL_law_1269 rfl ?_
  refine lv_bipush (v := 32) hx hb dL_law_1270 (by decide) ?_
  refine lv_lshl (v := (((xs ((l4 + (5 : Int32))).toNatClampNeg).toInt64) <<< ((32 : Int32).toInt64 &&& 63))) hx hb dL_law_1272 rfl ?_
  refine lv_aload_n hx hb dL_law_1273 rfl (lv_at hl 0 rfl) ?_
  refine lv_iload hx hb dL_law_1274 (lv_at hl 4 rfl) ?_
  refine lv_bipush (v := 6) hx hb dL_law_1276 (by decide) ?_
  refine lv_iadd hx hb dL_law_1278 ?_
  obtain ⟨hi, h⟩ := zin_e h
  refine va_sld hx hb hXs hbl hbA hS hi dL_law_1279 ?_
  refine lv_i2l (v := (xs ((l4 + (6 : Int32))).toNatClampNeg).toInt64) hx hb dL_law_1280 rfl ?_
  refine lv_ldc2 (v := (4294967295)) hx hb hown (hts _ (List.mem_of_getElem? (i := 7) rfl)) dL_law_1281 ?_
  refine lv_land hx hb dL_law_1284 ?_
  refine lv_lor hx hb dL_law_1285 ?_
  obtain ⟨r_109, uM_110, hg, h⟩ := zb2_e h
  refine z_callV (As := [.int ((xs ((l4 + (1 : Int32))).toNatClampNeg)), .int ((xs ((l4 + (2 : Int32))).toNatClampNeg)), .long (((((xs ((l4 + (3 : Int32))).toNatClampNeg).toInt64) <<< ((32 : Int32).toInt64 &&& 63)) ||| (((xs ((l4 + (4 : Int32))).toNatClampNeg).toInt64) &&& (4294967295 : Int64)))), .long (((((xs ((l4 + (5 : Int32))).toNatClampNeg).toInt64) <<< ((32 : Int32).toInt64 &&& 63)) ||| (((xs ((l4 + (6 : Int32))).toNatClampNeg).toInt64) &&& (4294967295 : Int64))))]) (rest := [.int r_107]) (i := 0) ⟨hx, hb, hml, hown, hts⟩ (mX7_continues l G (xM) hg) (cwV 4 hts gL_law_X7_continues rfl rfl rfl kvX7_continues ⟨Nat.le_of_ble_eq_true rfl, Nat.le_of_ble_eq_true rfl⟩) rfl hP hD hK hN hS (Nat.le_refl _) [6] rfl rfl rfl rfl 6 rfl rfl rfl rfl rfl hl.1 rfl (Nat.le_of_ble_eq_true rfl) dL_law_1286 hr0 (fun H locs hP hS => ?_)
  replace hP : zP G (zLsh G xO xM xU) [uO, uB, uP, uA, uT, uR_108, uM_110, uU] H := hP
  refine lv_icmp_eq (tgt := 1294) hx hb dL_law_1289 (by decide) (fun hc => ?_) (fun hc => ?_)
  · replace h := zt hc h
    refine W.widen (k := 157 + (j + 1)) (n := 4003 + 6 * (j + 1)) (by omega) (by omega) ?_
    exact tL_law_1294 C0 j K23 _ _ _ _ _ _ _ _ _ hj9 h _ _ hP hS _ (lv_sub hl [0, 1, 2, 3, 4] rfl)
  · replace h := zf hc h
    refine lv_iconst (v := 0) hx hb dL_law_1292 (by decide) ?_
    cases h
set_option maxHeartbeats 4000000 in
set_option maxRecDepth 20000 in
theorem tlL_law_23 (C0 : zLaw p l s m meth c b L xs G xO xM xU) : ∀ (n j : Nat), 7 * j ≤ 448 → ∀ (uO : zSt) (uB : zSt) (uP : zSt) (uA : zSt) (uT : zSt) (uR : zSt) (uM : zSt) (uU : zSt) (l4 : Int32), l4 = nI (7 * j) → lL_law_23 xs L n uO uB uP uA uT uR uM uU l4 = some () → ∀ (H : Heap) (locs : List Loc), zP G (zLsh G xO xM xU) [uO, uB, uP, uA, uT, uR, uM, uU] H → va_S (zA (zLsh G xO xM xU) s.heap.size) s.heap H locs → ∀ ls : Array Slot, lv_has ls 8 [(0, .ref (b)), (1, .ref (xO 0)), (2, .ref (xM 0)), (3, .ref (xU 0)), (4, .int l4)] → W p l e room_1 s m #[Value.ref b] below meth c H locs (157 + j) (4003 + 6 * j) (lw_Z below #[Value.ref b] s) (F0 m 23 ls []) := by
  obtain ⟨hx, hb, hr, hml, hown, hts, hlk, hK, hN, hD, hX, hH, hfl, hXs, hbl, hbA, hge, hL⟩ := id C0
  intro n
  induction n with
  | zero => intro j hj7 uO uB uP uA uT uR uM uU l4 hj9 h; exact absurd h (fun q => nomatch q)
  | succ n ih =>
    intro j hj7 uO uB uP uA uT uR uM uU l4 hj9 h H locs hP hS ls hl
    replace h : bL_law_23 xs L (lL_law_23 xs L n) uO uB uP uA uT uR uM uU l4 = some () := h
    unfold bL_law_23 at h
    refine lv_iload hx hb dL_law_23 (lv_at hl 4 rfl) ?_
    refine lv_aload_n hx hb dL_law_25 rfl (lv_at hl 0 rfl) ?_
    refine va_slen hx hb hXs hbl hbA hS dL_law_26 ?_
    refine lv_bipush (v := 7) hx hb dL_law_27 (by decide) ?_
    refine lv_isub hx hb dL_law_29 ?_
    refine lv_icmp_gt (tgt := 1300) hx hb dL_law_30 (by decide) (fun hc => ?_) (fun hc => ?_)
    · replace h := zt hc h
      refine lv_iconst (v := 1) hx hb dL_law_1300 (by decide) ?_
      refine va_forget (fun q hq => hge _ (hS.2.2 q hq)) ?_
      refine W.widen (k := 221) (n := 4387) (by omega) (by omega) ?_
      exact lw_ret hx hb hr hlk dL_law_1301
    · replace h := zf hc h
      obtain ⟨hj, hjj⟩ := z_j hj9 hj7 hL hc
      have K23 := ih (j + 1) (by omega)
      refine lv_aload_n hx hb dL_law_33 rfl (lv_at hl 0 rfl) ?_
      refine lv_iload hx hb dL_law_34 (lv_at hl 4 rfl) ?_
      obtain ⟨hi, h⟩ := zin_e h
      refine va_sld hx hb hXs hbl hbA hS hi dL_law_36 ?_
      refine lv_bipush (v := 31) hx hb dL_law_37 (by decide) ?_
      refine lv_iand hx hb dL_law_39 ?_
      by_cases hc0 : ((xs l4.toNatClampNeg) &&& (31 : Int32)) = (0 : Int32)
      · replace h := zt hc0 h
        refine lv_tableIn (off := 96) (tgt := 136) hx hb dL_law_40 (by rw [hc0]; decide) (by rw [hc0]; decide) (by rw [hc0]; rfl) (by decide) ?_
        exact tL_law_136 C0 j hj K23 _ _ _ _ _ _ _ _ _ hj9 h _ _ hP hS _ (lv_sub hl [0, 1, 2, 3, 4] rfl)
      · replace h := zf hc0 h
        by_cases hc1 : ((xs l4.toNatClampNeg) &&& (31 : Int32)) = (1 : Int32)
        · replace h := zt hc1 h
          refine lv_tableIn (off := 156) (tgt := 196) hx hb dL_law_40 (by rw [hc1]; decide) (by rw [hc1]; decide) (by rw [hc1]; rfl) (by decide) ?_
          exact tL_law_196 C0 j hj K23 _ _ _ _ _ _ _ _ _ hj9 h _ _ hP hS _ (lv_sub hl [0, 1, 2, 3, 4] rfl)
        · replace h := zf hc1 h
          by_cases hc2 : ((xs l4.toNatClampNeg) &&& (31 : Int32)) = (2 : Int32)
          · replace h := zt hc2 h
            refine lv_tableIn (off := 192) (tgt := 232) hx hb dL_law_40 (by rw [hc2]; decide) (by rw [hc2]; decide) (by rw [hc2]; rfl) (by decide) ?_
            exact tL_law_232 C0 j hj K23 _ _ _ _ _ _ _ _ _ hj9 h _ _ hP hS _ (lv_sub hl [0, 1, 2, 3, 4] rfl)
          · replace h := zf hc2 h
            by_cases hc3 : ((xs l4.toNatClampNeg) &&& (31 : Int32)) = (3 : Int32)
            · replace h := zt hc3 h
              refine lv_tableIn (off := 272) (tgt := 312) hx hb dL_law_40 (by rw [hc3]; decide) (by rw [hc3]; decide) (by rw [hc3]; rfl) (by decide) ?_
              exact tL_law_312 C0 j hj K23 _ _ _ _ _ _ _ _ _ hj9 h _ _ hP hS _ (lv_sub hl [0, 1, 2, 3, 4] rfl)
            · replace h := zf hc3 h
              by_cases hc4 : ((xs l4.toNatClampNeg) &&& (31 : Int32)) = (4 : Int32)
              · replace h := zt hc4 h
                refine lv_tableIn (off := 316) (tgt := 356) hx hb dL_law_40 (by rw [hc4]; decide) (by rw [hc4]; decide) (by rw [hc4]; rfl) (by decide) ?_
                exact tL_law_356 C0 j hj K23 _ _ _ _ _ _ _ _ _ hj9 h _ _ hP hS _ (lv_sub hl [0, 1, 2, 3, 4] rfl)
              · replace h := zf hc4 h
                by_cases hc5 : ((xs l4.toNatClampNeg) &&& (31 : Int32)) = (5 : Int32)
                · replace h := zt hc5 h
                  refine lv_tableIn (off := 364) (tgt := 404) hx hb dL_law_40 (by rw [hc5]; decide) (by rw [hc5]; decide) (by rw [hc5]; rfl) (by decide) ?_
                  exact tL_law_404 C0 j hj K23 _ _ _ _ _ _ _ _ _ hj9 h _ _ hP hS _ (lv_sub hl [0, 1, 2, 3, 4] rfl)
                · replace h := zf hc5 h
                  by_cases hc6 : ((xs l4.toNatClampNeg) &&& (31 : Int32)) = (6 : Int32)
                  · replace h := zt hc6 h
                    refine lv_tableIn (off := 412) (tgt := 452) hx hb dL_law_40 (by rw [hc6]; decide) (by rw [hc6]; decide) (by rw [hc6]; rfl) (by decide) ?_
                    exact tL_law_452 C0 j hj K23 _ _ _ _ _ _ _ _ _ hj9 h _ _ hP hS _ (lv_sub hl [0, 1, 2, 3, 4] rfl)
                  · replace h := zf hc6 h
                    by_cases hc7 : ((xs l4.toNatClampNeg) &&& (31 : Int32)) = (7 : Int32)
                    · replace h := zt hc7 h
                      refine lv_tableIn (off := 456) (tgt := 496) hx hb dL_law_40 (by rw [hc7]; decide) (by rw [hc7]; decide) (by rw [hc7]; rfl) (by decide) ?_
                      exact tL_law_496 C0 j hj K23 _ _ _ _ _ _ _ _ _ hj9 h _ _ hP hS _ (lv_sub hl [0, 1, 2, 3, 4] rfl)
                    · replace h := zf hc7 h
                      by_cases hc8 : ((xs l4.toNatClampNeg) &&& (31 : Int32)) = (8 : Int32)
                      · replace h := zt hc8 h
                        refine lv_tableIn (off := 469) (tgt := 509) hx hb dL_law_40 (by rw [hc8]; decide) (by rw [hc8]; decide) (by rw [hc8]; rfl) (by decide) ?_
                        exact tL_law_509 C0 j hj K23 _ _ _ _ _ _ _ _ _ hj9 h _ _ hP hS _ (lv_sub hl [0, 1, 2, 3, 4] rfl)
                      · replace h := zf hc8 h
                        by_cases hc9 : ((xs l4.toNatClampNeg) &&& (31 : Int32)) = (9 : Int32)
                        · replace h := zt hc9 h
                          refine lv_tableIn (off := 525) (tgt := 565) hx hb dL_law_40 (by rw [hc9]; decide) (by rw [hc9]; decide) (by rw [hc9]; rfl) (by decide) ?_
                          exact tL_law_565 C0 j hj K23 _ _ _ _ _ _ _ _ _ hj9 h _ _ hP hS _ (lv_sub hl [0, 1, 2, 3, 4] rfl)
                        · replace h := zf hc9 h
                          by_cases hc10 : ((xs l4.toNatClampNeg) &&& (31 : Int32)) = (10 : Int32)
                          · replace h := zt hc10 h
                            refine lv_tableIn (off := 538) (tgt := 578) hx hb dL_law_40 (by rw [hc10]; decide) (by rw [hc10]; decide) (by rw [hc10]; rfl) (by decide) ?_
                            exact tL_law_578 C0 j hj K23 _ _ _ _ _ _ _ _ _ hj9 h _ _ hP hS _ (lv_sub hl [0, 1, 2, 3, 4] rfl)
                          · replace h := zf hc10 h
                            by_cases hc11 : ((xs l4.toNatClampNeg) &&& (31 : Int32)) = (11 : Int32)
                            · replace h := zt hc11 h
                              refine lv_tableIn (off := 606) (tgt := 646) hx hb dL_law_40 (by rw [hc11]; decide) (by rw [hc11]; decide) (by rw [hc11]; rfl) (by decide) ?_
                              exact tL_law_646 C0 j hj K23 _ _ _ _ _ _ _ _ _ hj9 h _ _ hP hS _ (lv_sub hl [0, 1, 2, 3, 4] rfl)
                            · replace h := zf hc11 h
                              by_cases hc12 : ((xs l4.toNatClampNeg) &&& (31 : Int32)) = (12 : Int32)
                              · replace h := zt hc12 h
                                refine lv_tableIn (off := 686) (tgt := 726) hx hb dL_law_40 (by rw [hc12]; decide) (by rw [hc12]; decide) (by rw [hc12]; rfl) (by decide) ?_
                                exact tL_law_726 C0 j hj K23 _ _ _ _ _ _ _ _ _ hj9 h _ _ hP hS _ (lv_sub hl [0, 1, 2, 3, 4] rfl)
                              · replace h := zf hc12 h
                                by_cases hc13 : ((xs l4.toNatClampNeg) &&& (31 : Int32)) = (13 : Int32)
                                · replace h := zt hc13 h
                                  refine lv_tableIn (off := 699) (tgt := 739) hx hb dL_law_40 (by rw [hc13]; decide) (by rw [hc13]; decide) (by rw [hc13]; rfl) (by decide) ?_
                                  exact tL_law_739 C0 j hj K23 _ _ _ _ _ _ _ _ _ hj9 h _ _ hP hS _ (lv_sub hl [0, 1, 2, 3, 4] rfl)
                                · replace h := zf hc13 h
                                  by_cases hc14 : ((xs l4.toNatClampNeg) &&& (31 : Int32)) = (14 : Int32)
                                  · replace h := zt hc14 h
                                    refine lv_tableIn (off := 754) (tgt := 794) hx hb dL_law_40 (by rw [hc14]; decide) (by rw [hc14]; decide) (by rw [hc14]; rfl) (by decide) ?_
                                    exact tL_law_794 C0 j hj K23 _ _ _ _ _ _ _ _ _ hj9 h _ _ hP hS _ (lv_sub hl [0, 1, 2, 3, 4] rfl)
                                  · replace h := zf hc14 h
                                    by_cases hc15 : ((xs l4.toNatClampNeg) &&& (31 : Int32)) = (15 : Int32)
                                    · replace h := zt hc15 h
                                      refine lv_tableIn (off := 809) (tgt := 849) hx hb dL_law_40 (by rw [hc15]; decide) (by rw [hc15]; decide) (by rw [hc15]; rfl) (by decide) ?_
                                      exact tL_law_849 C0 j hj K23 _ _ _ _ _ _ _ _ _ hj9 h _ _ hP hS _ (lv_sub hl [0, 1, 2, 3, 4] rfl)
                                    · replace h := zf hc15 h
                                      by_cases hc16 : ((xs l4.toNatClampNeg) &&& (31 : Int32)) = (16 : Int32)
                                      · replace h := zt hc16 h
                                        refine lv_tableIn (off := 877) (tgt := 917) hx hb dL_law_40 (by rw [hc16]; decide) (by rw [hc16]; decide) (by rw [hc16]; rfl) (by decide) ?_
                                        exact tL_law_917 C0 j hj K23 _ _ _ _ _ _ _ _ _ hj9 h _ _ hP hS _ (lv_sub hl [0, 1, 2, 3, 4] rfl)
                                      · replace h := zf hc16 h
                                        by_cases hc17 : ((xs l4.toNatClampNeg) &&& (31 : Int32)) = (17 : Int32)
                                        · replace h := zt hc17 h
                                          refine lv_tableIn (off := 945) (tgt := 985) hx hb dL_law_40 (by rw [hc17]; decide) (by rw [hc17]; decide) (by rw [hc17]; rfl) (by decide) ?_
                                          exact tL_law_985 C0 j hj K23 _ _ _ _ _ _ _ _ _ hj9 h _ _ hP hS _ (lv_sub hl [0, 1, 2, 3, 4] rfl)
                                        · replace h := zf hc17 h
                                          by_cases hc18 : ((xs l4.toNatClampNeg) &&& (31 : Int32)) = (18 : Int32)
                                          · replace h := zt hc18 h
                                            refine lv_tableIn (off := 1000) (tgt := 1040) hx hb dL_law_40 (by rw [hc18]; decide) (by rw [hc18]; decide) (by rw [hc18]; rfl) (by decide) ?_
                                            exact tL_law_1040 C0 j hj K23 _ _ _ _ _ _ _ _ _ hj9 h _ _ hP hS _ (lv_sub hl [0, 1, 2, 3, 4] rfl)
                                          · replace h := zf hc18 h
                                            by_cases hc19 : ((xs l4.toNatClampNeg) &&& (31 : Int32)) = (19 : Int32)
                                            · replace h := zt hc19 h
                                              refine lv_tableIn (off := 1127) (tgt := 1167) hx hb dL_law_40 (by rw [hc19]; decide) (by rw [hc19]; decide) (by rw [hc19]; rfl) (by decide) ?_
                                              exact tL_law_1167 C0 j hj K23 _ _ _ _ _ _ _ _ _ hj9 h _ _ hP hS _ (lv_sub hl [0, 1, 2, 3, 4] rfl)
                                            · replace h := zf hc19 h
                                              refine lv_tableOut (tgt := 1294) hx hb dL_law_40 (by have q0 := lv_neT (k := 0) (a := 0) hc0 (by decide); have q1 := lv_neT (k := 1) (a := 1) hc1 (by decide); have q2 := lv_neT (k := 2) (a := 2) hc2 (by decide); have q3 := lv_neT (k := 3) (a := 3) hc3 (by decide); have q4 := lv_neT (k := 4) (a := 4) hc4 (by decide); have q5 := lv_neT (k := 5) (a := 5) hc5 (by decide); have q6 := lv_neT (k := 6) (a := 6) hc6 (by decide); have q7 := lv_neT (k := 7) (a := 7) hc7 (by decide); have q8 := lv_neT (k := 8) (a := 8) hc8 (by decide); have q9 := lv_neT (k := 9) (a := 9) hc9 (by decide); have q10 := lv_neT (k := 10) (a := 10) hc10 (by decide); have q11 := lv_neT (k := 11) (a := 11) hc11 (by decide); have q12 := lv_neT (k := 12) (a := 12) hc12 (by decide); have q13 := lv_neT (k := 13) (a := 13) hc13 (by decide); have q14 := lv_neT (k := 14) (a := 14) hc14 (by decide); have q15 := lv_neT (k := 15) (a := 15) hc15 (by decide); have q16 := lv_neT (k := 16) (a := 16) hc16 (by decide); have q17 := lv_neT (k := 17) (a := 17) hc17 (by decide); have q18 := lv_neT (k := 18) (a := 18) hc18 (by decide); have q19 := lv_neT (k := 19) (a := 19) hc19 (by decide); omega) (by decide) ?_
                                              refine W.widen (k := 157 + (j + 1)) (n := 4003 + 6 * (j + 1)) (by omega) (by omega) ?_
                                              exact tL_law_1294 C0 j K23 _ _ _ _ _ _ _ _ _ hj9 h _ _ hP hS _ (lv_sub hl [0, 1, 2, 3, 4] rfl)
end
