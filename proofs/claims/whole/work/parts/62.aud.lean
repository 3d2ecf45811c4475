/-! Pure: the audit's CLOSED, ENTRY, MIXED. -/
theorem au_wait {A T M : zSt} {e : Nat} (hE : aEnt e T M) (h26 : gI M 26 = if e = 0 then 3 else 2) (h27 : gI M 27 = 0) (hA1 : gI A 1 = 2) (hA2 : gI A 2 = nI e) (hA3 : gI A 3 = 0) (hK : aKey T M) (hD : aDone T M) (hN : aNone M) (h12 : ∀ i, i < e → gA T 12 i = 1) : AR A T M := by
  rcases Nat.eq_zero_or_pos e with h0 | h0
  · subst h0
    refine Or.inr (Or.inr (Or.inr (Or.inl ⟨0, ?_, Or.inl ⟨hA1, hN⟩, hA2.trans nI_0, hA3, hK, hD, hE, fun i hi => absurd hi (Nat.not_lt_zero _)⟩)))
    rw [h26, if_pos rfl]
  · refine Or.inr (Or.inr (Or.inl ⟨e, 0, h0, ?_, hA1, hA2, hA3, h27.trans nI_0.symm, hK, hD, hN, hE, h12⟩))
    rw [h26, if_neg (by omega)]
theorem au_sh0 {M : zSt} (hN : aNone M) {t i : Nat} (ht : t < 3) : ¬ (gA M 25 t ≠ 0 ∨ (t = 0 ∧ i < 0)) := fun z => z.elim (fun z => z (hN t ht)) (fun z => absurd z.2 (Nat.not_lt_zero _))
theorem au_sh1 {T M : zSt} {e : Nat} (hN : aNone M) (h12 : ∀ i, i < e → gA T 12 i = 1) : aSh e 0 0 T M := fun i hi => by
  refine ⟨?_, fun t ht z => absurd z (au_sh0 hN ht)⟩
  unfold aO
  rw [h12 i hi, if_neg (au_sh0 hN (by decide)), if_neg (au_sh0 hN (by decide)), if_neg (au_sh0 hN (by decide))]
  rfl
theorem au_sh2 {T M : zSt} {e : Nat} (hN : aNone M) (h : aSh e 0 0 T M) : ∀ i, i < e → gA T 12 i = 1 := fun i hi => by
  rw [(h i hi).1]
  unfold aO
  rw [if_neg (au_sh0 hN (by decide)), if_neg (au_sh0 hN (by decide)), if_neg (au_sh0 hN (by decide))]
  rfl
theorem au_closed {A T M : zSt} (B : zSt) {k : Nat} (hk : k < 64) (hB : gA B 1 = gA M 3) (h : aR1 A T M) : aOut M (fX0_takesClosed B A T (nI k)) (fX7_rightClosed M (nI k)) := by
  obtain ⟨h26, hA1, hA2, hA3, hK, hD, hN, hV⟩ := h
  unfold fX0_takesClosed fX7_rightClosed
  obtain ⟨b, b0, b1, b2⟩ := au_br B M (show k < 160 by omega) hB 0 0 (by decide) rfl
  rw [if_pos hA1, b1, pu_b1, if_pos h26, b2, pu_b1]
  by_cases hb : b = 0
  · rw [if_pos hb, if_pos hb]; exact aOut.no rfl rfl (aF.refl M)
  have hc := pu_cn_le (gA T 3) 10
  have hcc : pu_cn (gA T 3) 10 = pu_cn (gA M 21) 10 := pu_cn_c 10 (fun t ht => (hV t ht).2.1)
  obtain ⟨T', p1, p2, p3, p4, p5, p6⟩ := pu_gather T
  rw [if_neg hb, if_neg hb, pu_bvs, pu_b1, nI_1, nI_add, if_pos (show nI (k + 1 + pu_cn (gA T 3) 10) ≤ (160 : Int32) from nI_le (b := 160) (by omega) (by decide)), p1, pu_b1]
  obtain ⟨M1, m1, m2, m3, m4⟩ := au_rc M 10 1000 0 M rfl (by decide) rfl rfl (pu_fr.refl _ _ _ _ M)
  have m1z : lX7_rightClosed_23 1000 M 0 0 = _ := m1
  obtain ⟨M2, s1, s2, s3, s4, s5⟩ := au_await M1 (n := pu_cn (gA M 21) 10) (by omega)
  rw [m1z, s1, pu_b1]
  have fr : aF M M2 := (m4.mono (by decide) (by decide) (by decide) (by decide)).trans (s5.mono (by decide) (by decide) (by decide) (by decide))
  have q30 : gA M2 30 = pu_g (gA M 21) (gA M 22) (gA M 30) 10 := (s5.2.1 30 (by decide)).trans m2
  have q31 : gA M2 31 = pu_g (gA M 21) (gA M 23) (gA M 31) 10 := (s5.2.1 31 (by decide)).trans m3
  have q25 : gA M2 25 = gA M 25 := (s5.2.1 25 (by decide)).trans (m4.2.1 25 (by decide))
  have q24 : gA M2 24 = gA M 24 := (s5.2.1 24 (by decide)).trans (m4.2.1 24 (by decide))
  have hz : ∀ t, t < 10 → gA T 3 t ≠ 0 → gA M 21 t ≠ 0 := fun t ht z => by rw [← (hV t ht).2.1]; exact z
  refine ⟨1, _, T', M2, rfl, rfl, Or.inr rfl, fr, fun _ => au_wait (e := pu_cn (gA M 21) 10) ⟨by omega, by rw [p2, hcc], s2, fun i hi => ⟨?_, ?_, ?_, ?_⟩⟩ s4 s3 ?_ ?_ ?_ (hK.fr (p6.2.1 0 (by decide)) (p6.1 1 (by decide)) q24) (hD.fr (p6.2.1 13 (by decide)) q25) (hN.fr q25) (fun i hi => ?_)⟩
  · rw [p3, q30]; exact au_g_c 10 (fun t ht => (hV t ht).2.1) (fun t ht z => ((hV t ht).2.2 (hz t ht z)).1) i (by rw [hcc]; exact hi)
  · rw [p4, q31]; exact au_g_c 10 (fun t ht => (hV t ht).2.1) (fun t ht z => ((hV t ht).2.2 (hz t ht z)).2.1) i (by rw [hcc]; exact hi)
  · rw [q30]; exact au_g_el 10 (fun t ht z => ((hV t ht).2.2 z).2.2.1) i hi
  · rw [q31]; exact au_g_el 10 (fun t ht z => ((hV t ht).2.2 z).2.2.2) i hi
  · rw [zs_II, if_pos rfl]
  · rw [zs_II, if_neg (by decide), zs_II, if_pos rfl, p2, hcc]
  · rw [zs_II, if_neg (by decide), zs_II, if_neg (by decide)]; exact hA3
  · rw [p5]; exact pu_g_1s 10 i (by rw [hcc]; exact hi)
theorem au_entry {A T M : zSt} {e w : Nat} (B : zSt) {k : Nat} (hk : k < 160) (hB : gA B 1 = gA M 3) (h : aR2 A T M e w) : aOut M (zb2 (fX0_takesEntry B A T (nI k)) (fun r_21 uA_22 => if r_21 = (0 : Int32) then some ((0 : Int32), uA_22, T) else some ((1 : Int32), uA_22, T))) (fX7_rightEntry M (nI k)) := by
  obtain ⟨hw, h26, hA1, hA2, hA3, h27, hK, hD, hN, hE, h12⟩ := h
  have hE' := hE
  obtain ⟨he, h6, h29, hX⟩ := hE'
  unfold fX0_takesEntry fX7_rightEntry
  obtain ⟨b, b0, b1, b2⟩ := au_br B M hk hB 2 2 (by decide) rfl
  have hs : gI T 6 - gI A 2 = nI w := by rw [h6, hA2, pk_sub (by omega)]; exact congrArg nI (by omega)
  have nope : aOut M (zb2 (some ((0 : Int32), A)) (fun r_21 uA_22 => if r_21 = (0 : Int32) then some ((0 : Int32), uA_22, T) else some ((1 : Int32), uA_22, T))) (some ((0 : Int32), M)) := by
    rw [pu_b2]
    exact aOut.no (if_pos rfl) rfl (aF.refl M)
  rw [b1, pu_b1, au_n0 B hk hB, pu_b1, hs, au_n1 B hk hB, pu_b1, if_pos h26, pu_i70, h27, au_j1, b2, pu_b1]
  simp only [pu_zin (pu_in (show w < 10 by omega) (show 10 < 2 ^ 31 by decide)), pu_c (show w < 2 ^ 31 by omega), pu_zin (pu_in (show 6 * k < 960 by omega) (show 960 < 2 ^ 31 by decide)), pu_zin (pu_in (show 6 * k + 1 < 960 by omega) (show 960 < 2 ^ 31 by decide)), au_c0 hk, au_c hk 1 (by decide)]
  rw [(hX w hw).1, (hX w hw).2.1]
  by_cases g1 : gA M 3 (6 * k) = gA M 30 w
  rotate_left
  · rw [if_neg g1, if_neg g1, ite_self]; exact nope
  rw [if_pos g1, if_pos g1]
  by_cases g2 : gA M 3 (6 * k + 1) = gA M 31 w
  rotate_left
  · rw [if_neg g2, if_neg g2, ite_self]; exact nope
  rw [if_pos g2, if_pos g2]
  by_cases hb : b = 0
  · rw [if_pos hb, if_pos hb]; exact nope
  rw [if_neg hb, if_neg hb, pu_b2]
  unfold bX7_rightEntry_90
  have q27 : gI (sI M 27 (nI w + 1)) 27 = nI (w + 1) := by rw [zs_II, if_pos rfl, nI_1]
  have q29 : gI (sI M 27 (nI w + 1)) 29 = nI e := by rw [zs_II, if_neg (by decide), h29]
  have qA : gI A 2 - 1 = nI (e - (w + 1)) := by
    rw [hA2, show e - w = e - (w + 1) + 1 by omega, nI_pred]
  rw [q27, q29, qA]
  have fr : ∀ x : Int32, aF M (sI (sI M 27 (nI w + 1)) 26 x) := fun x => ((pu_fr.refl _ _ _ _ M).sI (by decide) _).sI (by decide) _
  by_cases hl : w + 1 = e
  · rw [if_pos (show nI (w + 1) = nI e by rw [hl])]
    refine ⟨1, sI A 2 (nI (e - (w + 1))), T, _, if_neg pu_hn10, rfl, Or.inr rfl, fr 3, fun _ => Or.inr (Or.inr (Or.inr (Or.inl ⟨e, ?_, Or.inl ⟨?_, ?_⟩, ?_, ?_, hK.fr rfl rfl ?_, hD.fr rfl ?_, hE.fr rfl ?_ rfl rfl ?_ ?_, ?_⟩)))⟩
    · rw [zs_II, if_pos rfl]
    · rw [zs_II, if_neg (by decide)]; exact hA1
    · exact hN.fr (by rw [zs_AI, zs_AI])
    · rw [zs_II, if_pos rfl, hl, Nat.sub_self, nI_0]
    · rw [zs_II, if_neg (by decide)]; exact hA3
    · rw [zs_AI, zs_AI]
    · rw [zs_AI, zs_AI]
    · rw [zs_II, if_neg (by decide), zs_II, if_neg (by decide)]
    · rw [zs_AI, zs_AI]
    · rw [zs_AI, zs_AI]
    · exact au_sh1 (hN.fr (by rw [zs_AI, zs_AI])) h12
  · rw [if_neg (show ¬ nI (w + 1) = nI e from fun z => hl ((nI_eq (by omega) (by omega)).mp z))]
    refine ⟨1, sI A 2 (nI (e - (w + 1))), T, _, if_neg pu_hn10, rfl, Or.inr rfl, fr 2, fun _ => Or.inr (Or.inr (Or.inl ⟨e, w + 1, by omega, ?_, ?_, ?_, ?_, ?_, hK.fr rfl rfl ?_, hD.fr rfl ?_, hN.fr ?_, hE.fr rfl ?_ rfl rfl ?_ ?_, h12⟩))⟩
    · rw [zs_II, if_pos rfl]
    · rw [zs_II, if_neg (by decide)]; exact hA1
    · rw [zs_II, if_pos rfl]
    · rw [zs_II, if_neg (by decide)]; exact hA3
    · rw [zs_II, if_neg (by decide)]; exact q27
    · rw [zs_AI, zs_AI]
    · rw [zs_AI, zs_AI]
    · rw [zs_AI, zs_AI]
    · rw [zs_II, if_neg (by decide), zs_II, if_neg (by decide)]
    · rw [zs_AI, zs_AI]
    · rw [zs_AI, zs_AI]
theorem au_mixed {A T M : zSt} {e : Nat} (B : zSt) {k : Nat} (hk : k < 160) (hB : gA B 1 = gA M 3) (h : aR3 A T M e) : aOut M (fX0_takesMixed B A T (nI k)) (fX7_rightMixed M (nI k)) := by
  obtain ⟨h26, hR, hA2, hA3, hK, hD, hE, hS⟩ := h
  have hE' := hE
  obtain ⟨he, h6, h29, hX⟩ := hE'
  rcases hR with ⟨hA1, hN⟩ | ⟨hA1, hN⟩
  rotate_left
  · refine aOut.no (A := A) (T := T) (M' := M) (au_xM B A T hk hB (by rw [hA1]; decide)) ?_ (aF.refl M)
    unfold fX7_rightMixed bX7_rightMixed_43
    rw [au_i1, au_z hk 1 (by decide)]
    have no0 : ∀ l2, bX7_rightMixed_44 M (nI k) l2 0 = some (0, M) := fun l2 => by
      unfold bX7_rightMixed_44
      rw [if_pos h26, if_pos rfl]
    rw [no0]
    by_cases d0 : gA M 25 0 = 0
    rotate_left
    · rw [if_neg d0]
    rw [if_pos d0]
    by_cases d1 : gA M 25 1 = 0
    rotate_left
    · rw [if_neg d1]
    rw [if_pos d1]
    by_cases d2 : gA M 25 2 = 0
    rotate_left
    · rw [if_neg d2]
    exact absurd (pu_3 (p := fun t => gA M 25 t = 0) d0 d1 d2) hN
  unfold fX0_takesMixed fX7_rightMixed bX7_rightMixed_44
  obtain ⟨b, b0, b1, b2⟩ := au_br B M hk hB 2 2 (by decide) rfl
  obtain ⟨r, o1, o2⟩ := pu_orders T he h6 (gA M 3 (6 * k + 1))
  rw [au_n0 B hk hB, pu_b1, au_n1 B hk hB, pu_b1, if_pos hA1, b1, pu_b1, o2, pu_b1, au_i1, au_z hk 1 (by decide), au_c hk 1 (by decide), if_pos (hN 0 (by decide)), if_pos (hN 1 (by decide)), if_pos (hN 2 (by decide)), if_pos h26, if_neg pu_hn10, h29, o1, pu_b1, b2, pu_b1]
  by_cases hx : gA M 3 (6 * k + 1) < 0
  · rw [if_pos hx, if_pos hx, if_pos rfl, ite_self]
    exact aOut.no rfl rfl (aF.refl M)
  rw [if_neg hx, if_neg hx]
  by_cases hr : r ≤ gA M 3 (6 * k + 1)
  · rw [if_pos hr, if_pos hr, if_pos rfl, ite_self]
    exact aOut.no rfl rfl (aF.refl M)
  rw [if_neg hr, if_neg hr, if_neg pu_hn10]
  by_cases hb : b = 0
  · rw [if_pos hb, if_pos hb]; exact aOut.no rfl rfl (aF.refl M)
  rw [if_neg hb, if_neg hb]
  obtain ⟨q, hq, hxq⟩ := nI_of hx
  obtain ⟨T', p1, p2, p3, p4⟩ := pu_mix1 T he hq h6 (gA M 3 (6 * k)) (by rw [hK.2]; exact pu_tm_el _ _) (fun t ht => by rw [(hX t ht).1]; exact (hX t ht).2.2.1) (fun t ht => by rw [(hX t ht).2.1]; exact (hX t ht).2.2.2)
  rw [hxq, p1, pu_b1]
  obtain ⟨M1, f1, f2, f3⟩ := pu_free M
  rw [pu_tim7 (hK.1 0 (by decide)).2 (hK.1 1 (by decide)).2, pu_b1, pu_tim7 (pu_tm_el _ _) (hK.1 2 (by decide)).2, pu_b1, f1, pu_b1]
  have e3 : gA M1 3 = gA M 3 := f3.2.1 3 (by decide)
  have e30 : gA M1 30 = gA M 30 := f3.2.1 30 (by decide)
  have e31 : gA M1 31 = gA M 31 := f3.2.1 31 (by decide)
  obtain ⟨M2, c1, c2, c3, c4⟩ := pu_mx119 M1 he hq hk ((f3.1 29 (by decide)).trans h29) (pu_tm (pu_tm (gA M 24 0) (gA M 24 1)) (gA M 24 2)) (pu_tm_el _ _) (fun t ht => by rw [e30]; exact (hX t ht).2.2.1) (fun t ht => by rw [e31]; exact (hX t ht).2.2.2) e 1000 0 M1 (by omega) (by omega) (fun t ht => f2 t (by omega)) rfl rfl (pu_fr.refl _ _ _ _ M1)
  have c1z : lX7_rightMixed_119 1000 M1 (nI k) (pu_tm (pu_tm (gA M 24 0) (gA M 24 1)) (gA M 24 2)) (nI q) 0 = _ := c1
  obtain ⟨M3, d1, d2, d3, d4⟩ := au_rm M2 he ((c4.1 29 (by decide)).trans ((f3.1 29 (by decide)).trans h29)) e 1000 0 M2 (by omega) (by omega) rfl rfl (pu_fr.refl _ _ _ _ M2)
  have d1z : lX7_rightMixed_233 1000 M2 0 = _ := d1
  obtain ⟨M4, s1, s2, s3, s4, s5⟩ := au_await M3 he
  rw [c1z, d1z, s1, pu_b1]
  have fr : aF M M4 := (f3.mono (by decide) (by decide) (by decide) (by decide)).trans ((c4.mono (by decide) (by decide) (by decide) (by decide)).trans ((d4.mono (by decide) (by decide) (by decide) (by decide)).trans (s5.mono (by decide) (by decide) (by decide) (by decide))))
  have frk : pu_fr [26, 27, 29] [17, 18, 19, 30, 31] [] [33] M M4 := (f3.mono (by decide) (by decide) (by decide) (by decide)).trans ((c4.mono (by decide) (by decide) (by decide) (by decide)).trans ((d4.mono (by decide) (by decide) (by decide) (by decide)).trans (s5.mono (by decide) (by decide) (by decide) (by decide))))
  have q30 : ∀ i, i < e → gA M4 30 i = pu_ma (gA M 30) 4 q e (gA M 3 (6 * k)) i := fun i hi => by
    rw [s5.2.1 30 (by decide), d2, pu_ov_in hi, c2, pu_ov_in hi, e30, e3]
  have q31 : ∀ i, i < e → gA M4 31 i = pu_ma (gA M 31) (pu_tm (pu_tm (gA M 24 0) (gA M 24 1)) (gA M 24 2)) q e (gA M 3 (6 * k)) i := fun i hi => by
    rw [s5.2.1 31 (by decide), d3, pu_ov_in hi, c3, pu_ov_in hi, e31, e3]
  refine ⟨1, _, T', M4, rfl, rfl, Or.inr rfl, fr, fun _ => au_wait (e := e) ⟨he, (p4.1 6 (by decide)).trans h6, s2, fun i hi => ⟨?_, ?_, ?_, ?_⟩⟩ s4 s3 ?_ ?_ ?_ (hK.fr (p4.2.1 0 (by decide)) (p4.1 1 (by decide)) (frk.2.1 24 (by decide))) (hD.fr (p4.2.1 13 (by decide)) (frk.2.1 25 (by decide))) (hN.fr (frk.2.1 25 (by decide))) (fun i hi => ?_)⟩
  · rw [q30 i hi, p2, pu_ov_in hi]; exact pu_ma_c (fun t ht => (hX t ht).1) hi
  · rw [q31 i hi, p3, pu_ov_in hi, hK.2]; exact pu_ma_c (fun t ht => (hX t ht).2.1) hi
  · rw [q30 i hi]; exact pu_tm_el _ _
  · rw [q31 i hi]; exact pu_tm_el _ _
  · rw [zs_II, if_neg (by decide)]; exact hA1
  · rw [zs_II, if_pos rfl, p4.1 6 (by decide), h6]
  · rw [zs_II, if_neg (by decide)]; exact hA3
  · rw [p4.2.1 12 (by decide)]; exact au_sh2 hN hS i hi
