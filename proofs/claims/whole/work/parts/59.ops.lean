/-! Pure: close, mix, open, finish. -/
theorem pu_g_out {h a f : Nat → Int32} (v : Nat) : ∀ i, pu_cn h v ≤ i → pu_g h a f v i = f i := by
  induction v with
  | zero => intro i _; rfl
  | succ v ih =>
    intro i hi
    by_cases h0 : h v = 0
    · rw [pu_cn_0 h0] at hi
      rw [pu_g_0 h0]; exact ih i hi
    · rw [pu_cn_1 h0] at hi
      rw [pu_g_1 h0, pk_un (by omega)]; exact ih i (by omega)
theorem pu_g_el' {h a f : Nat → Int32} (ea : ∀ t, t < 10 → pu_el (a t)) (ef : ∀ t, t < 10 → pu_el (f t)) : ∀ t, t < 10 → pu_el (pu_g h a f 10 t) := fun t ht => by
  by_cases h1 : t < pu_cn h 10
  · exact pu_g_el 10 ea t h1
  · rw [pu_g_out 10 t (by omega)]; exact ef t ht
theorem pu_ov_el {nw old : Nat → Int32} {e : Nat} (h1 : ∀ t, t < e → pu_el (nw t)) (h2 : ∀ t, t < 10 → pu_el (old t)) : ∀ t, t < 10 → pu_el (pu_ov nw old e t) := fun t ht => by
  by_cases h : t < e
  · rw [pu_ov_in h]; exact h1 t h
  · rw [pu_ov_out (by omega)]; exact h2 t ht
theorem pu_ov_ov (nw x y : Nat → Int32) (e : Nat) : pu_ov (pu_ov nw x e) y e = pu_ov nw y e := by
  funext t; unfold pu_ov
  by_cases h : t < e
  · rw [if_pos h, if_pos h, if_pos h]
  · rw [if_neg h, if_neg h]
theorem op_close {j : Nat} (hj : j < 64) {O B P R M : zSt} (h : Rel j O B P R M) (U : zSt) : ∃ (r b : Int32) (O' B' P' U' M' : zSt), fL_close O B P U = some (r, O', B', P', U') ∧ fX7_close M = some (b, M') ∧ gI M' 0 = r ∧ (r = 0 → lg_cmp (gL U' 0 0) b.toInt64 = 0) ∧ Rel (j + 1) O' B' P' R M' := by
  have hh := h
  obtain ⟨n, ⟨n1, n2, n3, n4, n5⟩, hV, hN, hE, hR, hK⟩ := h
  obtain ⟨v0, v1, v2, v3, v4, v5, v6, v7, v8, v9, v10, v11⟩ := hV
  obtain ⟨g, hg⟩ := pu_cl4 M 10 1000 0 rfl (by decide)
  have hg' : fX7_close M = _ := hg
  have hc10 := pu_cn_le (gA M 8) 10
  have e1 : (1 : Int32) + nI (pu_cn (gA M 8) 10) = nI (1 + pu_cn (gA M 8) 10) := nI_add 1 _
  unfold fL_close fX6_close
  rw [hg', v0]
  unfold bX7_close_4
  rw [if_pos (show (10 : Int32) ≤ nI 10 by decide)]
  by_cases g1 : gI M 4 = 1
  rotate_left
  · rw [if_neg g1, if_neg g1, pu_bxl, if_pos rfl]
    unfold bX7_close_61
    rw [if_neg (pu_gt0 M pu_hn12)]
    exact ⟨1, 0, O, B, P, U, _, rfl, rfl, pu_c0 _ _, fun z => absurd z (by decide), hh.code 1⟩
  rw [if_pos g1, if_pos g1, pu_bvs, pu_b1, v2, e1]
  obtain ⟨hnj, hop⟩ := hK.2 g1
  rcases pu_room B M (m := 1 + pu_cn (gA M 8) 10) n1 (by omega) n2 n3 with ⟨r1, r2, r3⟩ | ⟨r1, r2, r3⟩
  rotate_left
  · rw [r2, pu_b1, if_pos rfl, pu_bxl, if_neg (by decide), if_pos rfl, r3, pu_b1, if_neg pu_hn10]
    unfold bX7_close_61
    rw [if_neg (pu_gt0 M (show ¬ (2 : Int32) ≤ 0 by decide))]
    exact ⟨2, 0, O, B, P, U, _, rfl, rfl, pu_c0 _ _, fun z => absurd z (by decide), hh.code 2⟩
  obtain ⟨P1, p1, p6, p7, p8, p12, pf⟩ := pu_gather P
  rw [v2] at p6 p7 p8 p12
  rw [v3, v8] at p7
  rw [v4, v9] at p8
  obtain ⟨B1, b1, b2, b3, b4⟩ := pu_put1 B (n := n) (3 : Int32) 0 0 0 (by omega) n2
  obtain ⟨B2, d1, d2, d3, d4⟩ := pu_pes O P1 B1 (e := pu_cn (gA M 8) 10) (n := n + 1) hc10 (by omega) p6 b2
  obtain ⟨M1, m1, m2, m3, m4, m5⟩ := pu_put7 (sI M 0 0) (n := n) (3 : Int32) 0 0 0 (by omega) (by rw [zs_II, if_neg (by decide)]; exact n3)
  have fr1 : pu_fr [0, 1, 11] [2, 3] [] [] M (sI M1 11 0) := (((pu_fr.refl _ _ _ _ M).sI (by decide) _).trans (m5.mono (by decide) (by decide) (by decide) (by decide))).sI (by decide) _
  have e8 : gA (sI M1 11 0) 8 = gA M 8 := fr1.2.1 8 (by decide)
  have e9 : gA (sI M1 11 0) 9 = gA M 9 := fr1.2.1 9 (by decide)
  have e10 : gA (sI M1 11 0) 10 = gA M 10 := fr1.2.1 10 (by decide)
  have e12 : gA (sI M1 11 0) 12 = gA M 12 := fr1.2.1 12 (by decide)
  have e13 : gA (sI M1 11 0) 13 = gA M 13 := fr1.2.1 13 (by decide)
  have e2 : gA (sI M1 11 0) 2 = upd (gA M 2) n 3 := by rw [zs_AI, m3, zs_AI]
  have e3 : gA (sI M1 11 0) 3 = pu_row (gA M 3) n 0 0 0 := by rw [zs_AI, m4, zs_AI]
  obtain ⟨M2, k1, k11, k12, k13, k1', k2, k3, kf⟩ := pu_cl89 (sI M1 11 0) (n + 1) (nI (pu_cn (gA M 8) 10)) (Or.inr (by rw [e8]; omega)) 10 1000 0 (sI M1 11 0) rfl (by decide) ⟨by rw [zs_II, if_pos rfl]; rfl, rfl, rfl, by rw [zs_II, if_neg (by decide)]; exact m2, rfl, rfl, pu_fr.refl _ _ _ _ _⟩
  rw [e8] at k11 k12 k13 k1' k2 k3
  rw [e9, e12] at k12
  rw [e10, e13] at k13
  rw [e2] at k2
  rw [e3, k12, k13] at k3
  have k1z : lX7_close_89 1000 (sI M1 11 0) (nI (pu_cn (gA M 8) 10)) 0 = _ := k1
  have frM : pu_fr [0, 1, 11] [2, 3, 12, 13] [] [] M M2 := (fr1.mono (by decide) (by decide) (by decide) (by decide)).trans (kf.mono (by decide) (by decide) (by decide) (by decide))
  rw [r2, pu_b1, if_neg pu_hn10, p1, pu_b1, b1, pu_b2, d1, pu_b1, pu_bxr, r3, pu_b1, if_pos rfl]
  unfold bX7_close_61
  rw [if_pos (pu_le0 M), m1, pu_b2, k1z]
  refine ⟨0, _, sI O 5 2, B2, P1, _, sI M2 4 2, rfl, rfl, ?_, ?_, ⟨n + 1 + pu_cn (gA M 8) 10, ⟨by omega, d2, ?_, ?_, ?_⟩, ⟨?_, ?_, ?_, ?_, ?_, ?_, ?_, ?_, ?_, ?_, ?_, ?_⟩, ⟨?_, ?_, ?_, ?_, ?_, ?_, ?_⟩, ?_, ?_, ?_, ?_⟩⟩
  · rw [zs_II, if_neg (by decide), kf.1 0 (by decide), zs_II, if_neg (by decide), m5.1 0 (by decide)]; exact pu_c0 _ _
  · intro _; rw [pu_out, p6]; exact pu_cr _
  · rw [zs_II, if_neg (by decide)]; exact k1'
  · rw [zs_AI, d3, b3, k2, n4]
  · rw [zs_AI, d4, b4, k3, n5, p7, p8]
  · rw [zs_II, if_pos rfl, zs_II, if_pos rfl]
  · rw [zs_AI, pf.2.1 2 (by decide), frM.2.1 7 (by decide)]; exact v1
  · rw [zs_AI, pf.2.1 3 (by decide), frM.2.1 8 (by decide)]; exact v2
  · rw [zs_AI, pf.2.1 4 (by decide), frM.2.1 9 (by decide)]; exact v3
  · rw [zs_AI, pf.2.1 5 (by decide), frM.2.1 10 (by decide)]; exact v4
  · rw [zs_AI, pf.2.1 13 (by decide), frM.2.1 14 (by decide)]; exact v5
  · rw [zs_AI, zs_AI, frM.2.1 5 (by decide)]; exact v6
  · rw [zs_AI, pf.2.1 0 (by decide), frM.2.1 6 (by decide)]; exact v7
  · rw [zs_AI, p7, k12]
  · rw [zs_AI, p8, k13]
  · rw [zs_AI, pf.2.1 14 (by decide), frM.2.1 16 (by decide)]; exact v10
  · rw [zs_AI, pf.1 1 (by decide), frM.2.1 6 (by decide)]; exact v11
  · rw [zs_AI, frM.2.1 5 (by decide)]; exact hN.1
  · rw [zs_AI, frM.2.1 6 (by decide)]; exact hN.2.1
  · rw [zs_AI, frM.2.1 9 (by decide)]; exact hN.2.2.1
  · rw [zs_AI, frM.2.1 10 (by decide)]; exact hN.2.2.2.1
  · rw [zs_AI, k12]; exact pu_g_el' hN.2.2.1 hN.2.2.2.2.1
  · rw [zs_AI, k13]; exact pu_g_el' hN.2.2.2.1 hN.2.2.2.2.2.1
  · rw [zs_AI, frM.2.1 15 (by decide)]; exact hN.2.2.2.2.2.2
  · intro _
    refine ⟨pu_cn (gA M 8) 10, hc10, p6, by rw [zs_II, if_neg (by decide)]; exact k11, fun i hi => ?_⟩
    have o1 : ∀ t, t < 3 → pu_o (sI M2 4 2) t i = 1 := fun t ht => by
      unfold pu_o
      rw [zs_AI, frM.2.1 14 (by decide), if_pos (hop t ht)]
    rw [p12, pu_g_1s 10 i hi, o1 0 (by decide), o1 1 (by decide), o1 2 (by decide)]; rfl
  · unfold rR at hR ⊢
    rw [zs_II, if_neg (by decide), zs_LI, frM.1 35 (by decide), frM.2.2.1 36 (by decide)]
    exact hR
  · rw [zs_AI, k2]
    exact (hK.1.put (k := 3) (by decide) (fun _ => by omega)).pk _
  · intro z
    rw [zs_II, if_pos rfl] at z
    exact absurd z (by decide)
theorem op_mix {j : Nat} {O B P R M : zSt} (h : Rel j O B P R M) (x y : Int32) : ∃ (r : Int32) (B' P' M' : zSt), fL_mix O B P x y = some (r, B', P') ∧ fX7_mix M x y = some M' ∧ gI M' 0 = r ∧ Rel (j + 1) O B' P' R M' := by
  have hh := h
  obtain ⟨n, ⟨n1, n2, n3, n4, n5⟩, hV, hN, hE, hR, hK⟩ := h
  obtain ⟨v0, v1, v2, v3, v4, v5, v6, v7, v8, v9, v10, v11⟩ := hV
  unfold fL_mix fX6_mix fX7_mix
  rw [v0]
  by_cases g1 : gI M 4 = 2
  rotate_left
  · rw [if_neg g1, if_neg g1, pu_bxl, if_pos rfl]
    unfold bX7_mix_50
    rw [if_neg (pu_gt0 M pu_hn12)]
    exact ⟨1, B, P, _, rfl, rfl, pu_c0 _ _, hh.code 1⟩
  obtain ⟨e, he, h6, h11, hsh⟩ := hE (Or.inl g1)
  obtain ⟨ro, o1, o2⟩ := pu_orders P he h6 y
  have bad : ∃ (r : Int32) (B' P' M' : zSt), zbx (some (.inl "java/lang/IllegalArgumentException" : String ⊕ (zSt × zSt))) (fun E => if E = "java/lang/IllegalStateException" then some ((1 : Int32), B, P) else (if E = "java/lang/IllegalArgumentException" then some ((2 : Int32), B, P) else (if E = "java/lang/UnsupportedOperationException" then some ((3 : Int32), B, P) else none))) (fun x => some ((0 : Int32), x.1, x.2)) = some (r, B', P') ∧ bX7_mix_28 M x y = some M' ∧ gI M' 0 = r ∧ Rel (j + 1) O B' P' R M' := by
    rw [pu_bxl, if_neg (by decide), if_pos rfl]
    unfold bX7_mix_28 bX7_mix_50
    rw [if_neg (pu_gt0 M (show ¬ (2 : Int32) ≤ 0 by decide))]
    exact ⟨2, B, P, _, rfl, rfl, pu_c0 _ _, hh.code 2⟩
  rw [if_pos g1, if_pos g1, o2, pu_b1]
  by_cases g2 : y < 0
  · rw [if_pos g2, if_pos rfl, if_pos g2]; exact bad
  rw [if_neg g2, if_neg g2, h11, o1, pu_b1]
  by_cases g3 : ro ≤ y
  · rw [if_pos g3, if_pos rfl, if_neg (show ¬ y < ro by rw [Int32.lt_iff_toInt_lt]; rw [Int32.le_iff_toInt_le] at g3; omega)]; exact bad
  rw [if_neg g3, if_neg pu_hn10, if_pos (show y < ro by rw [Int32.lt_iff_toInt_lt]; rw [Int32.le_iff_toInt_le] at g3; omega)]
  have e1 : (1 : Int32) + nI e = nI (1 + e) := nI_add 1 e
  rw [h6, e1]
  rcases pu_room B M (m := 1 + e) n1 (by omega) n2 n3 with ⟨r1, r2, r3⟩ | ⟨r1, r2, r3⟩
  rotate_left
  · rw [r2, pu_b1, if_pos rfl, pu_bxl, if_neg (by decide), if_neg (by decide), if_pos rfl, r3, pu_b1, if_neg pu_hn10]
    unfold bX7_mix_50
    rw [if_neg (pu_gt0 M (show ¬ (3 : Int32) ≤ 0 by decide))]
    exact ⟨3, B, P, _, rfl, rfl, pu_c0 _ _, hh.code 3⟩
  obtain ⟨q, hq, rfl⟩ := nI_of g2
  generalize hY : pu_tm (pu_tm (gA M 6 0) (gA M 6 1)) (gA M 6 2) = Y at *
  have ey : pu_el Y := by rw [← hY]; exact pu_tm_el _ _
  obtain ⟨P1, p1, p7, p8, pf⟩ := pu_mix1 P he hq h6 x (by rw [v11]; exact ey) (fun t ht => by rw [v8]; exact hN.2.2.2.2.1 t (by omega)) (fun t ht => by rw [v9]; exact hN.2.2.2.2.2.1 t (by omega))
  rw [v8] at p7
  rw [v9, v11] at p8
  have p6 : gI P1 6 = nI e := (pf.1 6 (by decide)).trans h6
  obtain ⟨B1, b1, b2, b3, b4⟩ := pu_put1 B (n := n) (4 : Int32) x (nI q) 0 (by omega) n2
  obtain ⟨B2, d1, d2, d3, d4⟩ := pu_pes O P1 B1 (e := e) (n := n + 1) he (by omega) p6 b2
  obtain ⟨M1, m1, m2, m3, m4, m5⟩ := pu_put7 (sI M 0 0) (n := n) (4 : Int32) x (nI q) 0 (by omega) (by rw [zs_II, if_neg (by decide)]; exact n3)
  obtain ⟨M2, w1, w2, w3⟩ := pu_free M1
  have fr2 : pu_fr [0, 1] [2, 3, 19] [] [] M M2 := ((pu_fr.refl _ _ _ _ M).sI (by decide) _).trans ((m5.mono (by decide) (by decide) (by decide) (by decide)).trans (w3.mono (by decide) (by decide) (by decide) (by decide)))
  have e6 : gA M2 6 = gA M 6 := fr2.2.1 6 (by decide)
  have e12 : gA M2 12 = gA M 12 := fr2.2.1 12 (by decide)
  have e13 : gA M2 13 = gA M 13 := fr2.2.1 13 (by decide)
  have e2 : gA M2 2 = upd (gA M 2) n 4 := by rw [w3.2.1 2 (by decide), m3, zs_AI]
  have e3 : gA M2 3 = pu_row (gA M 3) n x (nI q) 0 := by rw [w3.2.1 3 (by decide), m4, zs_AI]
  have f1 : gI M2 1 = nI (n + 1 + 0) := (w3.1 1 (by decide)).trans m2
  have f11 : gI M2 11 = nI e := (fr2.1 11 (by decide)).trans h11
  obtain ⟨M3, k1, k17, k18, k1', k2, k3, kf⟩ := pu_mx79 M2 he hq (n := n + 1) (by omega) f11 x Y ey (fun t ht => by rw [e6]; exact hN.2.1 t ht) (by rw [e6]; exact hY.symm) (fun t ht => by rw [e12]; exact hN.2.2.2.2.1 t (by omega)) (fun t ht => by rw [e13]; exact hN.2.2.2.2.2.1 t (by omega)) e 1000 0 M2 (by omega) (by omega) (fun t ht => w2 t (by omega)) rfl rfl f1 rfl rfl (pu_fr.refl _ _ _ _ _)
  rw [e12] at k17 k3
  rw [e13] at k18 k3
  rw [e2] at k2
  rw [e3] at k3
  obtain ⟨M4, c1, c12, c13, cf⟩ := pu_mx205 M3 he ((kf.1 11 (by decide)).trans f11) e 1000 0 M3 (by omega) (by omega) rfl rfl (pu_fr.refl _ _ _ _ _)
  rw [k17, kf.2.1 12 (by decide), e12, pu_ov_ov] at c12
  rw [k18, kf.2.1 13 (by decide), e13, pu_ov_ov] at c13
  have frM : pu_fr [0, 1] [2, 3, 12, 13, 17, 18, 19] [] [33] M M4 := (fr2.mono (by decide) (by decide) (by decide) (by decide)).trans ((kf.mono (by decide) (by decide) (by decide) (by decide)).trans (cf.mono (by decide) (by decide) (by decide) (by decide)))
  have k1z : lX7_mix_79 1000 M2 x (nI q) 0 = _ := k1
  have c1z : lX7_mix_205 1000 M3 0 = _ := c1
  rw [r2, pu_b1, if_neg pu_hn10, p1, pu_b1, b1, pu_b2, d1, pu_b1, pu_bxr, r3, pu_b1, if_pos rfl]
  unfold bX7_mix_50
  rw [if_pos (pu_le0 M), m1, pu_b2, w1, pu_b1, k1z, c1z]
  refine ⟨0, B2, P1, M4, rfl, rfl, ?_, ⟨n + 1 + e, ⟨by omega, d2, ?_, ?_, ?_⟩, ⟨?_, ?_, ?_, ?_, ?_, ?_, ?_, ?_, ?_, ?_, ?_, ?_⟩, ⟨?_, ?_, ?_, ?_, ?_, ?_, ?_⟩, ?_, ?_, ?_, ?_⟩⟩
  · rw [cf.1 0 (by decide), kf.1 0 (by decide), w3.1 0 (by decide), m5.1 0 (by decide)]; exact pu_c0 _ _
  · rw [cf.1 1 (by decide)]; exact k1'
  · rw [d3, b3, cf.2.1 2 (by decide), k2, n4]
  · rw [d4, b4, cf.2.1 3 (by decide), k3, n5, p7, p8]
    exact pu_pf_c e (fun i hi => pu_ov_in hi) (fun i hi => pu_ov_in hi)
  · rw [frM.1 4 (by decide)]; exact v0
  · rw [pf.2.1 2 (by decide), frM.2.1 7 (by decide)]; exact v1
  · rw [pf.2.1 3 (by decide), frM.2.1 8 (by decide)]; exact v2
  · rw [pf.2.1 4 (by decide), frM.2.1 9 (by decide)]; exact v3
  · rw [pf.2.1 5 (by decide), frM.2.1 10 (by decide)]; exact v4
  · rw [pf.2.1 13 (by decide), frM.2.1 14 (by decide)]; exact v5
  · rw [frM.2.1 5 (by decide)]; exact v6
  · rw [pf.2.1 0 (by decide), frM.2.1 6 (by decide)]; exact v7
  · rw [p7, c12]
  · rw [p8, c13]
  · rw [pf.2.1 14 (by decide), frM.2.1 16 (by decide)]; exact v10
  · rw [pf.1 1 (by decide), frM.2.1 6 (by decide), hY]; exact v11
  · rw [frM.2.1 5 (by decide)]; exact hN.1
  · rw [frM.2.1 6 (by decide)]; exact hN.2.1
  · rw [frM.2.1 9 (by decide)]; exact hN.2.2.1
  · rw [frM.2.1 10 (by decide)]; exact hN.2.2.2.1
  · rw [c12]; exact pu_ov_el (fun t _ => pu_tm_el _ _) hN.2.2.2.2.1
  · rw [c13]; exact pu_ov_el (fun t _ => pu_tm_el _ _) hN.2.2.2.2.2.1
  · rw [frM.2.1 15 (by decide)]; exact hN.2.2.2.2.2.2
  · intro _
    refine ⟨e, he, p6, (frM.1 11 (by decide)).trans h11, fun i hi => ?_⟩
    unfold pu_o at hsh ⊢
    rw [pf.2.1 12 (by decide), frM.2.1 14 (by decide), frM.2.1 15 (by decide)]
    exact hsh i hi
  · unfold rR at hR ⊢
    rw [frM.1 35 (by decide), frM.2.2.1 36 (by decide)]
    exact hR
  · rw [cf.2.1 2 (by decide), k2]
    exact (hK.1.put (k := 4) (by decide) (fun z => by cases z)).pk _
  · intro z
    rw [frM.1 4 (by decide), g1] at z
    exact absurd z (by decide)
theorem pu_o15_0 (D old : Nat → Int32) (t : Nat) : pu_o15 D old t 0 = old := by
  funext k; unfold pu_o15; rw [if_neg (by omega)]
/-- shares behind an opening -/
theorem pu_open_o (M M' : zSt) {t e : Nat} (D : Nat → Int32) (h14 : gA M' 14 = upd (gA M 14) t 1) (h15 : gA M' 15 = pu_o15 D (gA M 15) t e) (ht0 : gA M 14 t = 0) {i : Nat} (hi : i < e) (he : e ≤ 10) : pu_o M t i = 1 ∧ pu_o M' t i = (D i).toNatClampNeg ∧ ∀ t', t' ≠ t → pu_o M' t' i = pu_o M t' i := by
  unfold pu_o
  refine ⟨if_pos ht0, ?_, fun t' hne => ?_⟩
  · rw [h14, pk_us, if_neg (by decide), h15]
    unfold pu_o15
    rw [if_pos (by omega), show 10 * t + i - 10 * t = i by omega]
  · rw [h14, pk_un hne, h15]
    unfold pu_o15
    rw [if_neg (show ¬ (10 * t ≤ 10 * t' + i ∧ 10 * t' + i < 10 * t + e) by omega)]
theorem op_open {j : Nat} {O B P R M : zSt} (h : Rel j O B P R M) (x y : Int32) : ∃ (r : Int32) (O' B' P' M' : zSt), fL_open O B P x y = some (r, O', B', P') ∧ fX7_open M x y = some M' ∧ gI M' 0 = r ∧ Rel (j + 1) O' B' P' R M' := by
  have hh := h
  obtain ⟨n, ⟨n1, n2, n3, n4, n5⟩, hV, hN, hE, hR, hK⟩ := h
  obtain ⟨v0, v1, v2, v3, v4, v5, v6, v7, v8, v9, v10, v11⟩ := hV
  unfold fL_open fX6_open fX7_open
  have bad : ∃ (r : Int32) (O' B' P' M' : zSt), zbx (some (.inl "java/lang/IllegalArgumentException" : String ⊕ (zSt × zSt × zSt))) (fun E => if E = "java/lang/IllegalArgumentException" then some ((1 : Int32), O, B, P) else (if E = "java/lang/IllegalStateException" then some ((2 : Int32), O, B, P) else (if E = "java/lang/UnsupportedOperationException" then some ((3 : Int32), O, B, P) else none))) (fun x => some ((0 : Int32), x.1, x.2.1, x.2.2)) = some (r, O', B', P') ∧ bX7_open_13 M x y = some M' ∧ gI M' 0 = r ∧ Rel (j + 1) O' B' P' R M' := by
    rw [pu_bxl, if_pos rfl]
    unfold bX7_open_13 bX7_open_14 bX7_open_69
    rw [if_pos rfl, if_neg (pu_gt0 M pu_hn12)]
    exact ⟨1, O, B, P, _, rfl, rfl, pu_c0 _ _, hh.code 1⟩
  have bad2 : ∃ (r : Int32) (O' B' P' M' : zSt), zbx (some (.inl "java/lang/IllegalStateException" : String ⊕ (zSt × zSt × zSt))) (fun E => if E = "java/lang/IllegalArgumentException" then some ((1 : Int32), O, B, P) else (if E = "java/lang/IllegalStateException" then some ((2 : Int32), O, B, P) else (if E = "java/lang/UnsupportedOperationException" then some ((3 : Int32), O, B, P) else none))) (fun x => some ((0 : Int32), x.1, x.2.1, x.2.2)) = some (r, O', B', P') ∧ bX7_open_49 M x y = some M' ∧ gI M' 0 = r ∧ Rel (j + 1) O' B' P' R M' := by
    rw [pu_bxl, if_neg (by decide), if_pos rfl]
    unfold bX7_open_49 bX7_open_69
    rw [if_neg (pu_gt0 M (show ¬ (2 : Int32) ≤ 0 by decide))]
    exact ⟨2, O, B, P, _, rfl, rfl, pu_c0 _ _, hh.code 2⟩
  rcases pu_tru x with ⟨t, ht, rfl, c1, c2, c3⟩ | ⟨c1, c2⟩
  rotate_left
  · rw [c1, pu_b1, if_pos rfl]
    rcases c2 with c2 | ⟨c2, c3⟩
    · rw [if_pos c2]; exact bad
    · rw [if_neg c2, if_pos c3]; exact bad
  rw [c1, pu_b1, if_neg pu_hn10, if_neg c2, if_neg c3, v0]
  unfold bX7_open_14
  rw [if_neg pu_hn10]
  have main : gI M 4 = 2 ∨ gI M 4 = 3 → ∃ (r : Int32) (O' B' P' M' : zSt), zbx (bX6_open_33 O B P (nI t) y) (fun E => if E = "java/lang/IllegalArgumentException" then some ((1 : Int32), O, B, P) else (if E = "java/lang/IllegalStateException" then some ((2 : Int32), O, B, P) else (if E = "java/lang/UnsupportedOperationException" then some ((3 : Int32), O, B, P) else none))) (fun x => some ((0 : Int32), x.1, x.2.1, x.2.2)) = some (r, O', B', P') ∧ bX7_open_40 M (nI t) y = some M' ∧ gI M' 0 = r ∧ Rel (j + 1) O' B' P' R M' := by
    intro hst
    obtain ⟨e, he, h6, h11, hsh⟩ := hE hst
    unfold bX6_open_33 bX7_open_40
    rw [pu_zn ht (by decide), pu_zn ht (by decide), pu_c (show t < 2 ^ 31 by omega), v5]
    by_cases g2 : gA M 14 t = 0
    rotate_left
    · rw [if_neg g2, if_neg g2]; exact bad2
    rw [if_pos g2, if_pos g2, h6, h11]
    rcases pu_room B M (m := e) n1 (by omega) n2 n3 with ⟨r1, r2, r3⟩ | ⟨r1, r2, r3⟩
    rotate_left
    · rw [r2, pu_b1, if_pos rfl, pu_bxl, if_neg (by decide), if_neg (by decide), if_pos rfl, r3, pu_b1, if_neg pu_hn10]
      unfold bX7_open_69
      rw [if_neg (pu_gt0 M (show ¬ (3 : Int32) ≤ 0 by decide))]
      exact ⟨3, O, B, P, _, rfl, rfl, pu_c0 _ _, hh.code 3⟩
    obtain ⟨xs, hxs, hxe⟩ := hN.1 t ht
    obtain ⟨B1, P1, b1, b2, b3, b4, b12, bf⟩ := pu_op1 O P (n := n) (t := t) (e := e) y ht he r1 h6 (gA B 0) (gA B 1) (by rw [v6]; exact ⟨xs, hxs, hxe⟩) (fun i hi => by rw [v8]; exact hN.2.2.2.2.1 i (by omega)) (fun i hi => by rw [hsh i hi]; exact ⟨_, Nat.mod_lt _ (by decide), rfl⟩) e 1000 0 B P (by omega) (by omega) n2 rfl rfl rfl (pu_fr.refl _ _ _ _ _)
    rw [v6, v8] at b12
    rw [v6, v7, v8] at b4
    obtain ⟨M1, m1, m2, m3, m4, m15, mf⟩ := pu_op7 (sI M 0 0) (n := n) (t := t) (e := e) y (gA M 5 t) ht he r1 (by rw [zs_II, if_neg (by decide)]; exact h11) ⟨xs, hxs, hxe⟩ (fun i hi => by rw [zs_AI]; exact hN.2.2.2.2.1 i (by omega)) e 1000 0 (sI M 0 0) (by omega) (by omega) (by rw [zs_II, if_neg (by decide)]; exact n3) rfl rfl (pu_o15_0 _ _ _).symm (pu_fr.refl _ _ _ _ _)
    simp only [zs_AI] at m3 m4 m15
    have b1z : lX6_open_84 1000 O B P (nI t) y 0 = _ := b1
    have m1z : lX7_open_91 1000 (sI M 0 0) (nI t) y (gA M 5 t) 0 = _ := m1
    have frM : pu_fr [0, 1, 4] [2, 3, 14, 15] [] [33] M (sI (sA M1 14 t 1) 4 3) := ((((pu_fr.refl _ _ _ _ M).sI (by decide) _).trans (mf.mono (by decide) (by decide) (by decide) (by decide))).sA (by decide) _ _).sI (by decide) _
    have h14 : gA (sI (sA M1 14 t 1) 4 3) 14 = upd (gA M 14) t 1 := by
      rw [zs_AI, zs_AA, if_pos rfl, mf.2.1 14 (by decide), zs_AI]
    have h15 : gA (sI (sA M1 14 t 1) 4 3) 15 = pu_o15 (fun j => pu_pw (gA M 12 j) (gA M 5 t)) (gA M 15) t e := by
      rw [zs_AI, zs_AA, if_neg (by decide)]; exact m15
    rw [r2, pu_b1, if_neg pu_hn10, b1z, pu_bxr, r3, pu_b1, if_pos rfl]
    unfold bX7_open_69
    rw [if_pos (pu_le0 M), pu_zn ht (by decide), pu_c (show t < 2 ^ 31 by omega), zs_AI, m1z]
    refine ⟨0, sI O 5 3, B1, sA P1 13 t 1, sI (sA M1 14 t 1) 4 3, rfl, rfl, ?_, ⟨n + e, ⟨r1, b2, ?_, ?_, ?_⟩, ⟨?_, ?_, ?_, ?_, ?_, ?_, ?_, ?_, ?_, ?_, ?_, ?_⟩, ⟨?_, ?_, ?_, ?_, ?_, ?_, ?_⟩, ?_, ?_, ?_, ?_⟩⟩
    · rw [zs_II, if_neg (by decide), zs_IA, mf.1 0 (by decide)]; exact pu_c0 _ _
    · rw [zs_II, if_neg (by decide), zs_IA]; exact m2
    · rw [zs_AI, zs_AA, if_neg (by decide), b3, m3, n4]
    · rw [zs_AI, zs_AA, if_neg (by decide), b4, m4, n5]
    · rw [zs_II, if_pos rfl, zs_II, if_pos rfl]
    · rw [zs_AA, if_neg (by decide), bf.2.1 2 (by decide), frM.2.1 7 (by decide)]; exact v1
    · rw [zs_AA, if_neg (by decide), bf.2.1 3 (by decide), frM.2.1 8 (by decide)]; exact v2
    · rw [zs_AA, if_neg (by decide), bf.2.1 4 (by decide), frM.2.1 9 (by decide)]; exact v3
    · rw [zs_AA, if_neg (by decide), bf.2.1 5 (by decide), frM.2.1 10 (by decide)]; exact v4
    · rw [zs_AA, if_pos rfl, bf.2.1 13 (by decide), h14, v5]
    · rw [zs_AI, frM.2.1 5 (by decide)]; exact v6
    · rw [zs_AA, if_neg (by decide), bf.2.1 0 (by decide), frM.2.1 6 (by decide)]; exact v7
    · rw [zs_AA, if_neg (by decide), bf.2.1 7 (by decide), frM.2.1 12 (by decide)]; exact v8
    · rw [zs_AA, if_neg (by decide), bf.2.1 8 (by decide), frM.2.1 13 (by decide)]; exact v9
    · rw [zs_AA, if_neg (by decide), bf.2.1 14 (by decide), frM.2.1 16 (by decide)]; exact v10
    · rw [zs_IA, bf.1 1 (by decide), frM.2.1 6 (by decide)]; exact v11
    · rw [frM.2.1 5 (by decide)]; exact hN.1
    · rw [frM.2.1 6 (by decide)]; exact hN.2.1
    · rw [frM.2.1 9 (by decide)]; exact hN.2.2.1
    · rw [frM.2.1 10 (by decide)]; exact hN.2.2.2.1
    · rw [frM.2.1 12 (by decide)]; exact hN.2.2.2.2.1
    · rw [frM.2.1 13 (by decide)]; exact hN.2.2.2.2.2.1
    · rw [h15]; intro k hk
      unfold pu_o15
      by_cases hc : 10 * t ≤ k ∧ k < 10 * t + e
      · rw [if_pos hc]; exact pu_pw_el _ _
      · rw [if_neg hc]; exact hN.2.2.2.2.2.2 k hk
    · intro _
      refine ⟨e, he, by rw [zs_IA, bf.1 6 (by decide)]; exact h6, (frM.1 11 (by decide)).trans h11, fun i hi => ?_⟩
      obtain ⟨q1, q2, q3⟩ := pu_open_o M (sI (sA M1 14 t 1) 4 3) _ h14 h15 g2 hi he
      rw [zs_AA, if_neg (by decide), b12, pu_ov_in hi, hsh i hi, pu_tm_e, pu_c (by have := Nat.mod_lt (pu_o M 0 i * pu_o M 1 i * pu_o M 2 i) (show 0 < 4079 by decide); omega), pu_mm]
      have ht3 : t = 0 ∨ t = 1 ∨ t = 2 := by omega
      refine congrArg nI (congrArg (· % 4079) ?_)
      rcases ht3 with rfl | rfl | rfl
      · rw [q1, q2, q3 1 (by decide), q3 2 (by decide), Nat.one_mul, Nat.mul_comm (pu_o M 1 i * pu_o M 2 i), Nat.mul_assoc]
      · rw [q1, q2, q3 0 (by decide), q3 2 (by decide), Nat.mul_one, Nat.mul_assoc, Nat.mul_comm (pu_o M 2 i), ← Nat.mul_assoc]
      · rw [q1, q2, q3 0 (by decide), q3 1 (by decide), Nat.mul_one]
    · unfold rR at hR ⊢
      rw [frM.1 35 (by decide), frM.2.2.1 36 (by decide)]
      exact hR
    · rw [zs_AI, zs_AA, if_neg (by decide), m3]
      exact hK.1.p6 e
    · intro z
      rw [zs_II, if_pos rfl] at z
      exact absurd z (by decide)
  by_cases g1 : gI M 4 = 2
  · rw [if_pos g1, if_pos g1]; exact main (Or.inl g1)
  · rw [if_neg g1, if_neg g1]
    by_cases g3 : gI M 4 = 3
    · rw [if_pos g3, if_pos g3]; exact main (Or.inr g3)
    · rw [if_neg g3, if_neg g3]; exact bad2
/-- finish -/
theorem pu_fi69 (l1 : Int32) : ∀ (d f i : Nat) (S : zSt), i + d = 4 → d < f → ∃ S' : zSt, lX7_finish_69 f S l1 (nI i) = lX7_finish_89 1000 S' l1 0 ∧ gA S' 16 = pu_z (gA S 16) i 4 ∧ pu_fr [] [16] [] [] S S' := by
  intro d
  induction d with
  | zero =>
    intro f i S hi hf
    obtain ⟨g, rfl, -⟩ := pu_fu hf
    have h0 : i = 4 := by omega
    subst h0
    refine ⟨S, ?_, (pu_z_e _ _).symm, pu_fr.refl _ _ _ _ S⟩
    show bX7_finish_69 _ S _ _ = _
    unfold bX7_finish_69
    rw [if_pos (show (4 : Int32) ≤ nI 4 by decide)]
  | succ d ih =>
    intro f i S hi hf
    obtain ⟨g, rfl, hg⟩ := pu_fu hf
    have hiN : i < 4 := by omega
    obtain ⟨S', h1, k0, h3⟩ := ih g (i + 1) (sA S 16 i 0) (by omega) (by omega)
    refine ⟨S', ?_, ?_, ((pu_fr.refl _ _ _ _ S).sA (by decide) i 0).trans h3⟩
    · show bX7_finish_69 _ S _ _ = _
      unfold bX7_finish_69
      rw [if_neg (show ¬ (4 : Int32) ≤ nI i from nI_ge hiN (by decide)), pu_zn hiN (by decide), nI_1, pu_c (by omega)]
      exact h1
    · rw [k0]; simp only [zs_AA, ↓reduceIte, Nat.reduceEqDiff]; exact pu_z_s _ hiN
noncomputable def pu_val3 (b D : Nat → Int32) (p : Nat) : Int32 := pu_tm (b p) (pu_pw (pu_s3 D p) 2038)
noncomputable def pu_al (v : Nat → Int32) (i : Nat) : Nat := pu_vc v 0 i + pu_vc v 1 i + pu_vc v 2 i + pu_vc v 3 i
theorem pu_10 (i : Nat) : (10 : Int32) + nI i = nI (10 + i) := nI_add 10 i
theorem pu_20 (i : Nat) : (20 : Int32) + nI i = nI (20 + i) := nI_add 20 i
theorem pu_fi89 (M0 : zSt) {e : Nat} (he : e ≤ 10) (h11 : gI M0 11 = nI e) (hb : ∀ p, p < 10 → pu_el (gA M0 13 p)) (hs : ∀ k, k < 30 → pu_el (gA M0 15 k)) : ∀ (d f i : Nat) (M : zSt), i + d = e → d < f → (∀ t, t < 4 → gA M 16 t = nI (pu_vc (pu_val3 (gA M0 13) (gA M0 15)) t i)) → pu_fr [] [16] [] [] M0 M → ∃ M' : zSt, lX7_finish_89 f M (nI (pu_al (pu_val3 (gA M0 13) (gA M0 15)) i)) (nI i) = zb2 (fX7_put M' (7 : Int32) (gA M' 16 0) (gA M' 16 1) (gA M' 16 2)) (fun r_1 uM_2 => zin (((6 : Int32) * r_1) + (3 : Int32)) 960 (some (nI (pu_al (pu_val3 (gA M0 13) (gA M0 15)) e), sI (sA uM_2 3 (((6 : Int32) * r_1) + (3 : Int32)).toNatClampNeg (gA uM_2 16 3)) 4 (4 : Int32)))) ∧ (∀ t, t < 4 → gA M' 16 t = nI (pu_vc (pu_val3 (gA M0 13) (gA M0 15)) t e)) ∧ pu_fr [] [16] [] [] M0 M' := by
  intro d
  induction d with
  | zero =>
    intro f i M hi hf h16 fr
    obtain ⟨g, rfl, -⟩ := pu_fu hf
    have h0 : i = e := by omega
    subst h0
    refine ⟨M, ?_, h16, fr⟩
    show bX7_finish_89 _ _ _ _ = _
    unfold bX7_finish_89
    rw [fr.1 11 (by decide), h11, if_pos (nI_le (Nat.le_refl _) (by omega))]
  | succ d ih =>
    intro f i M hi hf h16 fr
    obtain ⟨g, rfl, hg⟩ := pu_fu hf
    show ∃ M' : zSt, bX7_finish_89 _ _ _ _ = _ ∧ _
    unfold bX7_finish_89 bX7_finish_151
    have e13 : gA M 13 = gA M0 13 := fr.2.1 13 (by decide)
    have e15 : gA M 15 = gA M0 15 := fr.2.1 15 (by decide)
    rw [fr.1 11 (by decide), h11, if_neg (nI_ge (by omega) (by omega)), pu_zn (show i < 10 by omega) (by decide), pu_zn (show i < 30 by omega) (by decide), pu_10, pu_20, pu_zn (show 10 + i < 30 by omega) (by decide), pu_zn (show 20 + i < 30 by omega) (by decide), pu_c (show i < 2 ^ 31 by omega), pu_c (show 10 + i < 2 ^ 31 by omega), pu_c (show 20 + i < 2 ^ 31 by omega), e13, e15, pu_valof (hb i (by omega)) (hs i (by omega)) (hs (10 + i) (by omega)) (hs (20 + i) (by omega)), pu_b1]
    obtain ⟨r, c1, c2⟩ := pu_choice (pu_val3 (gA M0 13) (gA M0 15) i)
    have c1' : fX7_choiceOf (pu_tm (gA M0 13 i) (pu_pw (pu_tm (pu_tm (gA M0 15 i) (gA M0 15 (10 + i))) (gA M0 15 (20 + i))) 2038)) = some r := c1
    rw [c1', pu_b1, nI_1]
    rcases c2 with ⟨rfl, hno⟩ | ⟨c, hc, rfl, hv⟩
    · have hs0 : ∀ t, t < 4 → pu_vc (pu_val3 (gA M0 13) (gA M0 15)) t (i + 1) = pu_vc (pu_val3 (gA M0 13) (gA M0 15)) t i := fun t ht => by
        rw [pu_vc_s, if_neg (hno t ht), Nat.add_zero]
      have hal : pu_al (pu_val3 (gA M0 13) (gA M0 15)) (i + 1) = pu_al (pu_val3 (gA M0 13) (gA M0 15)) i := by
        unfold pu_al; rw [hs0 0 (by decide), hs0 1 (by decide), hs0 2 (by decide), hs0 3 (by decide)]
      rw [if_pos (show (-1 : Int32) < 0 by decide), ← hal]
      exact ih g (i + 1) M (by omega) (by omega) (fun t ht => by rw [h16 t ht, hs0 t ht]) fr
    · have hs0 : ∀ t, t < 4 → t ≠ c → pu_vc (pu_val3 (gA M0 13) (gA M0 15)) t (i + 1) = pu_vc (pu_val3 (gA M0 13) (gA M0 15)) t i := fun t ht htc => by
        rw [pu_vc_s, if_neg (fun z => pu_v4_ne c hc t ht htc (z.symm.trans hv)), Nat.add_zero]
      have hs1 : pu_vc (pu_val3 (gA M0 13) (gA M0 15)) c (i + 1) = pu_vc (pu_val3 (gA M0 13) (gA M0 15)) c i + 1 := by
        rw [pu_vc_s, if_pos hv]
      have hal : pu_al (pu_val3 (gA M0 13) (gA M0 15)) (i + 1) = pu_al (pu_val3 (gA M0 13) (gA M0 15)) i + 1 := by
        unfold pu_al
        have hc4 : c = 0 ∨ c = 1 ∨ c = 2 ∨ c = 3 := by omega
        rcases hc4 with rfl | rfl | rfl | rfl
        · rw [hs1, hs0 1 (by decide) (by decide), hs0 2 (by decide) (by decide), hs0 3 (by decide) (by decide)]; omega
        · rw [hs1, hs0 0 (by decide) (by decide), hs0 2 (by decide) (by decide), hs0 3 (by decide) (by decide)]; omega
        · rw [hs1, hs0 0 (by decide) (by decide), hs0 1 (by decide) (by decide), hs0 3 (by decide) (by decide)]; omega
        · rw [hs1, hs0 0 (by decide) (by decide), hs0 1 (by decide) (by decide), hs0 2 (by decide) (by decide)]; omega
      rw [if_neg (nI_pos (by omega)), pu_zn hc (by decide), pu_zn hc (by decide), pu_c (show c < 2 ^ 31 by omega), nI_1, ← hal]
      refine ih g (i + 1) _ (by omega) (by omega) (fun t ht => ?_) (fr.sA (by decide) _ _)
      rw [zs_AA, if_pos rfl]
      by_cases htc : t = c
      · rw [htc, pk_us, h16 c hc, nI_1, hs1]
      · rw [pk_un htc, h16 t ht, hs0 t ht htc]
theorem op_finish {j : Nat} {O B P R M : zSt} (h : Rel j O B P R M) (U : zSt) : ∃ (r b : Int32) (O' B' P' U' M' : zSt), fL_finish O B P U = some (r, O', B', P', U') ∧ fX7_finish M = some (b, M') ∧ gI M' 0 = r ∧ (r = 0 → lg_cmp (gL U' 0 0) b.toInt64 = 0) ∧ Rel (j + 1) O' B' P' R M' := by
  have hh := h
  obtain ⟨n, ⟨n1, n2, n3, n4, n5⟩, hV, hN, hE, hR, hK⟩ := h
  obtain ⟨v0, v1, v2, v3, v4, v5, v6, v7, v8, v9, v10, v11⟩ := hV
  unfold fL_finish fX6_finish fX7_finish
  have bad : ∃ (r b : Int32) (O' B' P' U' M' : zSt), zbx (some (.inl "java/lang/IllegalStateException" : String ⊕ (Int32 × zSt × zSt × zSt))) (fun E => if E = "java/lang/IllegalStateException" then some ((1 : Int32), O, B, P, U) else (if E = "java/lang/UnsupportedOperationException" then some ((2 : Int32), O, B, P, U) else none)) (fun x => some ((0 : Int32), x.2.1, x.2.2.1, x.2.2.2, (sL U 0 0 (((x.1).toInt64))))) = some (r, O', B', P', U') ∧ bX7_finish_36 M = some (b, M') ∧ gI M' 0 = r ∧ (r = 0 → lg_cmp (gL U' 0 0) b.toInt64 = 0) ∧ Rel (j + 1) O' B' P' R M' := by
    rw [pu_bxl, if_pos rfl]
    unfold bX7_finish_36 bX7_finish_53
    rw [if_neg (pu_gt0 M pu_hn12)]
    exact ⟨1, 0, O, B, P, U, _, rfl, rfl, pu_c0 _ _, fun z => absurd z (by decide), hh.code 1⟩
  rw [v0]
  by_cases g1 : gI M 4 = 3
  rotate_left
  · rw [if_neg g1, if_neg g1]; exact bad
  rw [if_pos g1, if_pos g1]
  unfold fX4_allOpened
  rw [v5]
  by_cases o0 : gA M 14 0 = 0
  · rw [if_pos o0, pu_b1, if_pos rfl, if_pos o0]; exact bad
  rw [if_neg o0, if_neg o0]
  by_cases o1 : gA M 14 1 = 0
  · rw [if_pos o1, pu_b1, if_pos rfl, if_pos o1]; exact bad
  rw [if_neg o1, if_neg o1]
  by_cases o2 : gA M 14 2 = 0
  · rw [if_pos o2, pu_b1, if_pos rfl, if_pos o2]; exact bad
  rw [if_neg o2, pu_b1, if_neg pu_hn10, if_neg o2]
  rcases pu_room B M (m := 1) n1 (by decide) n2 n3 with ⟨r1, r2, r3⟩ | ⟨r1, r2, r3⟩
  rotate_left
  · have r2' : fX1_hasRoom B 1 = some 0 := r2
    have r3' : fX7_noRoom M 1 = some 1 := r3
    rw [r2', pu_b1, if_pos rfl, pu_bxl, if_neg (by decide), if_pos rfl, r3', pu_b1, if_neg pu_hn10]
    unfold bX7_finish_53
    rw [if_neg (pu_gt0 M (show ¬ (2 : Int32) ≤ 0 by decide))]
    exact ⟨2, 0, O, B, P, U, _, rfl, rfl, pu_c0 _ _, fun z => absurd z (by decide), hh.code 2⟩
  have r2' : fX1_hasRoom B 1 = some 1 := r2
  have r3' : fX7_noRoom M 1 = some 0 := r3
  obtain ⟨e, he, h6, h11, hsh⟩ := hE (Or.inr g1)
  have hs3 : ∀ i, i < e → gA P 12 i = pu_s3 (gA M 15) i := fun i hi => by
    rw [hsh i hi]
    unfold pu_s3 pu_o
    rw [if_neg o0, if_neg o1, if_neg o2, pu_tm_e, pu_tm_e, pu_c (by have := Nat.mod_lt ((gA M 15 i).toNatClampNeg * (gA M 15 (10 + i)).toNatClampNeg) (show 0 < 4079 by decide); omega), pu_mm, show 10 * 0 + i = i by omega, show 10 * 1 + i = 10 + i by omega, show 10 * 2 + i = 20 + i by omega]
  obtain ⟨P1, p1, p14, pf⟩ := pu_count P he h6 (fun p hp => by rw [v9]; exact hN.2.2.2.2.2.1 p (by omega)) (fun p hp => by rw [hs3 p hp]; exact pu_tm_el _ _)
  have hval : ∀ t, pu_vc (pu_val (gA P 8) (gA P 12)) t e = pu_vc (pu_val3 (gA M 13) (gA M 15)) t e := fun t => pu_vc_c e (fun p hp => by
    unfold pu_val pu_val3
    rw [v9, hs3 p hp])
  have c14 : ∀ t, t < 4 → gA P1 14 t = nI (pu_vc (pu_val3 (gA M 13) (gA M 15)) t e) := fun t ht => by rw [p14 t ht, hval]
  obtain ⟨B1, b1, b2, b3, b4⟩ := pu_put1 B (n := n) (7 : Int32) (gA P1 14 0) (gA P1 14 1) (gA P1 14 2) (by omega) n2
  obtain ⟨M1, a1, a2, a3⟩ := pu_fi69 (nI 0) 4 1000 0 (sI M 0 0) rfl (by decide)
  have fr1 : pu_fr [0] [16] [] [] M M1 := ((pu_fr.refl _ _ _ _ M).sI (by decide) _).trans (a3.mono (by decide) (by decide) (by decide) (by decide))
  have e13 : gA M1 13 = gA M 13 := fr1.2.1 13 (by decide)
  have e15 : gA M1 15 = gA M 15 := fr1.2.1 15 (by decide)
  obtain ⟨M2, f1, f16, ff⟩ := pu_fi89 M1 he ((fr1.1 11 (by decide)).trans h11) (by rw [e13]; exact hN.2.2.2.2.2.1) (by rw [e15]; exact hN.2.2.2.2.2.2) e 1000 0 M1 (by omega) (by omega) (fun t ht => by rw [a2]; exact if_pos ⟨Nat.zero_le _, ht⟩) (pu_fr.refl _ _ _ _ _)
  rw [e13, e15] at f1 f16
  have fr2 : pu_fr [0] [16] [] [] M M2 := fr1.trans (ff.mono (by decide) (by decide) (by decide) (by decide))
  obtain ⟨M3, m1, m2, m3, m4, m5⟩ := pu_put7 M2 (n := n) (7 : Int32) (gA M2 16 0) (gA M2 16 1) (gA M2 16 2) (by omega) ((fr2.1 1 (by decide)).trans n3)
  have i3 : (6 : Int32) * nI n + (3 : Int32) = nI (6 * n + 3) := pu_i7
  rw [m1, pu_b2, i3, pu_zn (by omega) (by decide), pu_c (by omega)] at f1
  have h16 : gA M3 16 = gA M2 16 := m5.2.1 16 (by decide)
  have a1z : lX7_finish_69 1000 (sI M 0 0) 0 0 = lX7_finish_89 1000 M1 0 0 := a1
  have f1z : lX7_finish_89 1000 M1 0 0 = _ := f1
  have frM : pu_fr [0, 1, 4] [2, 3, 16] [] [] M (sI (sA M3 3 (6 * n + 3) (gA M3 16 3)) 4 4) := (((fr2.mono (by decide) (by decide) (by decide) (by decide)).trans (m5.mono (by decide) (by decide) (by decide) (by decide))).sA (by decide) _ _).sI (by decide) _
  have hsum : gA P1 14 0 + gA P1 14 1 + gA P1 14 2 + gA P1 14 3 = nI (pu_al (pu_val3 (gA M 13) (gA M 15)) e) := by
    rw [c14 0 (by decide), c14 1 (by decide), c14 2 (by decide), c14 3 (by decide), nI_add, nI_add, nI_add]; rfl
  rw [r2', pu_b1, if_neg pu_hn10, p1, pu_b1, b1, pu_b2]
  dsimp only
  rw [pu_wr1 B1 _ (3 : Int32) 3 (show n < 160 by omega) (by decide) rfl, pu_b1, pu_bxr, r3', pu_b1, if_pos rfl]
  unfold bX7_finish_53
  rw [if_pos (pu_le0 M), a1z, f1z]
  refine ⟨0, _, sI O 5 4, sA B1 1 (6 * n + 3) (gA P1 14 3), P1, _, sI (sA M3 3 (6 * n + 3) (gA M3 16 3)) 4 4, rfl, rfl, ?_, ?_, ⟨n + 1, ⟨r1, ?_, ?_, ?_, ?_⟩, ⟨?_, ?_, ?_, ?_, ?_, ?_, ?_, ?_, ?_, ?_, ?_, ?_⟩, ⟨?_, ?_, ?_, ?_, ?_, ?_, ?_⟩, ?_, ?_, ?_, ?_⟩⟩
  · rw [zs_II, if_neg (by decide), zs_IA, m5.1 0 (by decide), ff.1 0 (by decide), a3.1 0 (by decide)]; exact pu_c0 _ _
  · intro _; rw [pu_out, hsum]; exact pu_cr _
  · rw [zs_IA]; exact b2
  · rw [zs_II, if_neg (by decide), zs_IA]; exact m2
  · rw [zs_AA, if_neg (by decide), zs_AI, zs_AA, if_neg (by decide), b3, m3, fr2.2.1 2 (by decide), n4]
  · rw [zs_AA, if_pos rfl, zs_AI, zs_AA, if_pos rfl, b4, m4, fr2.2.1 3 (by decide), n5, h16, f16 0 (by decide), f16 1 (by decide), f16 2 (by decide), f16 3 (by decide), c14 0 (by decide), c14 1 (by decide), c14 2 (by decide), c14 3 (by decide)]
  · rw [zs_II, if_pos rfl, zs_II, if_pos rfl]
  · rw [pf.2.1 2 (by decide), frM.2.1 7 (by decide)]; exact v1
  · rw [pf.2.1 3 (by decide), frM.2.1 8 (by decide)]; exact v2
  · rw [pf.2.1 4 (by decide), frM.2.1 9 (by decide)]; exact v3
  · rw [pf.2.1 5 (by decide), frM.2.1 10 (by decide)]; exact v4
  · rw [pf.2.1 13 (by decide), frM.2.1 14 (by decide)]; exact v5
  · rw [zs_AI, frM.2.1 5 (by decide)]; exact v6
  · rw [pf.2.1 0 (by decide), frM.2.1 6 (by decide)]; exact v7
  · rw [pf.2.1 7 (by decide), frM.2.1 12 (by decide)]; exact v8
  · rw [pf.2.1 8 (by decide), frM.2.1 13 (by decide)]; exact v9
  · intro t ht
    rw [zs_AI, zs_AA, if_neg (by decide), h16, f16 t ht, c14 t ht]
  · rw [pf.1 1 (by decide), frM.2.1 6 (by decide)]; exact v11
  · rw [frM.2.1 5 (by decide)]; exact hN.1
  · rw [frM.2.1 6 (by decide)]; exact hN.2.1
  · rw [frM.2.1 9 (by decide)]; exact hN.2.2.1
  · rw [frM.2.1 10 (by decide)]; exact hN.2.2.2.1
  · rw [frM.2.1 12 (by decide)]; exact hN.2.2.2.2.1
  · rw [frM.2.1 13 (by decide)]; exact hN.2.2.2.2.2.1
  · rw [frM.2.1 15 (by decide)]; exact hN.2.2.2.2.2.2
  · intro z
    rw [zs_II, if_pos rfl] at z
    exact absurd z (by decide)
  · unfold rR at hR ⊢
    rw [frM.1 35 (by decide), frM.2.2.1 36 (by decide)]
    exact hR
  · rw [zs_AI, zs_AA, if_neg (by decide), m3, fr2.2.1 2 (by decide)]
    exact hK.1.put (k := 7) (by decide) (fun z => by cases z)
  · intro z
    rw [zs_II, if_pos rfl] at z
    exact absurd z (by decide)
