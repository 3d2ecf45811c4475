/-! Pure: the audit's SHARE. -/
theorem au_upd (f : Nat → Int32) (t : Nat) (x : Int32) (h : f t = x) : upd f t x = f := by
  funext j
  by_cases hj : j = t
  · rw [hj, pk_us, h]
  · rw [pk_un hj]
theorem au_shS {T M T' M' : zSt} {e tr i : Nat} {d : Int32} (htr : tr < 3) (hi : i < e) (he : e ≤ 10) (h : aSh e tr i T M) (h0 : gA M 25 tr = 0) (h12 : gA T' 12 = upd (gA T 12) i (pu_tm (gA T 12 i) d)) (h25 : gA M' 25 = gA M 25) (h32 : gA M' 32 = upd (gA M 32) (10 * tr + i) d) (hd : pu_el d) : aSh e tr (i + 1) T' M' := by
  intro p hp
  have key : ∀ t, t < 3 → ¬ (p = i ∧ t = tr) → aO M' tr (i + 1) t p = aO M tr i t p := by
    intro t ht hne
    have hc : (gA M 25 t ≠ 0 ∨ (t = tr ∧ p < i + 1)) ↔ (gA M 25 t ≠ 0 ∨ (t = tr ∧ p < i)) := ⟨fun z => z.imp id (fun z => ⟨z.1, by omega⟩), fun z => z.imp id (fun z => ⟨z.1, by omega⟩)⟩
    unfold aO
    rw [h25, h32, pk_un (show 10 * t + p ≠ 10 * tr + i by omega)]
    by_cases c : gA M 25 t ≠ 0 ∨ (t = tr ∧ p < i)
    · rw [if_pos (hc.mpr c), if_pos c]
    · rw [if_neg (fun z => c (hc.mp z)), if_neg c]
  constructor
  · by_cases hpi : p = i
    · subst hpi
      have o1 : aO M tr p tr p = 1 := by
        unfold aO
        exact if_neg (fun z => z.elim (fun z => z h0) (fun z => Nat.lt_irrefl _ z.2))
      have o2 : aO M' tr (p + 1) tr p = d.toNatClampNeg := by
        unfold aO
        rw [if_pos (Or.inr ⟨rfl, Nat.lt_succ_self _⟩), h32, pk_us]
      have hlt : ∀ x : Nat, x % 4079 < 2 ^ 31 := fun x => by have := Nat.mod_lt x (show 0 < 4079 by decide); omega
      rw [h12, pk_us, (h p hp).1, pu_tm_e, pu_c (hlt _), pu_mm]
      have h3 : tr = 0 ∨ tr = 1 ∨ tr = 2 := by omega
      rcases h3 with rfl | rfl | rfl
      · rw [o1, o2, key 1 (by decide) (by omega), key 2 (by decide) (by omega), Nat.one_mul]
        exact congrArg (fun x => nI (x % 4079)) (by rw [Nat.mul_assoc d.toNatClampNeg]; exact Nat.mul_comm _ _)
      · rw [o1, o2, key 0 (by decide) (by omega), key 2 (by decide) (by omega), Nat.mul_one]
        exact congrArg (fun x => nI (x % 4079)) (Nat.mul_right_comm _ _ _)
      · rw [o1, o2, key 0 (by decide) (by omega), key 1 (by decide) (by omega), Nat.mul_one]
    · rw [h12, pk_un hpi, (h p hp).1, key 0 (by decide) (fun z => hpi z.1), key 1 (by decide) (fun z => hpi z.1), key 2 (by decide) (fun z => hpi z.1)]
  · intro t ht c
    rw [h25] at c
    rw [h32]
    by_cases hs : p = i ∧ t = tr
    · rw [hs.1, hs.2, pk_us]; exact hd
    · rw [pk_un (show 10 * t + p ≠ 10 * tr + i by omega)]
      exact (h p hp).2 t ht (c.imp id (fun z => ⟨z.1, by omega⟩))
theorem au_shE {T M T' M' : zSt} {e tr : Nat} (h : aSh e tr e T M) (h12 : gA T' 12 = gA T 12) (h25 : gA M' 25 = upd (gA M 25) tr 1) (h32 : gA M' 32 = gA M 32) : aSh e 0 0 T' M' := by
  intro p hp
  have cond : ∀ t, (gA M' 25 t ≠ 0 ∨ (t = 0 ∧ p < 0)) ↔ (gA M 25 t ≠ 0 ∨ (t = tr ∧ p < e)) := by
    intro t
    rw [h25]
    by_cases htt : t = tr
    · subst htt
      rw [pk_us]
      exact ⟨fun _ => Or.inr ⟨rfl, hp⟩, fun _ => Or.inl pu_hn10⟩
    · rw [pk_un htt]
      exact ⟨fun z => z.elim Or.inl (fun z => absurd z.2 (Nat.not_lt_zero _)), fun z => z.elim Or.inl (fun z => absurd z.1 htt)⟩
  have key : ∀ t, aO M' 0 0 t p = aO M tr e t p := by
    intro t
    unfold aO
    rw [h32]
    by_cases c : gA M 25 t ≠ 0 ∨ (t = tr ∧ p < e)
    · rw [if_pos ((cond t).mpr c), if_pos c]
    · rw [if_neg (fun z => c ((cond t).mp z)), if_neg c]
  rw [h12, key, key, key]
  exact ⟨(h p hp).1, fun t ht c => by rw [h32]; exact (h p hp).2 t ht ((cond t).mp c)⟩
theorem au_sh00 {T M : zSt} {e : Nat} (tr : Nat) (h : aSh e 0 0 T M) : aSh e tr 0 T M := by
  intro p hp
  have cond : ∀ t, (gA M 25 t ≠ 0 ∨ (t = tr ∧ p < 0)) ↔ (gA M 25 t ≠ 0 ∨ (t = 0 ∧ p < 0)) := fun t => ⟨fun z => z.elim Or.inl (fun z => absurd z.2 (Nat.not_lt_zero _)), fun z => z.elim Or.inl (fun z => absurd z.2 (Nat.not_lt_zero _))⟩
  have key : ∀ t, aO M tr 0 t p = aO M 0 0 t p := by
    intro t
    unfold aO
    by_cases c : gA M 25 t ≠ 0 ∨ (t = 0 ∧ p < 0)
    · rw [if_pos ((cond t).mpr c), if_pos c]
    · rw [if_neg (fun z => c ((cond t).mp z)), if_neg c]
  rw [key, key, key]
  exact ⟨(h p hp).1, fun t ht c => (h p hp).2 t ht ((cond t).mp c)⟩
theorem au_nar1 : vp_nar .boolean 1 = 1 := rfl
theorem au_nar0 : vp_nar .boolean 0 = 0 := rfl
/-- a share that may come next -/
theorem au_sh90 {A T M : zSt} {e tr i : Nat} (B : zSt) {k : Nat} (hk : k < 160) (hB : gA B 1 = gA M 3) (htr : tr < 3) (hi : i < e) (hA2 : gI A 2 = 0) (hA3 : gI A 3 = nI i) (hK : aKey T M) (hD : aDone T M) (hE : aEnt e T M) (hS : aSh e tr i T M) (h0 : gA M 25 tr = 0) (hp : gA M 3 (6 * k + 1) = nI i) : aOut M (bX0_takesShare_90 B A T (nI k) (nI tr) (nI i)) (bX7_rightShare_81 M (nI k) (nI tr) (nI i) 1) := by
  have hE' := hE
  obtain ⟨he, h6, h29, hX⟩ := hE'
  obtain ⟨x1, y1, z1, w1⟩ := pu_isel (gA M 3 (6 * k + 2))
  obtain ⟨x2, y2, z2, w2⟩ := pu_isnu (gA M 3 (6 * k + 3))
  obtain ⟨x3, y3, z3, w3⟩ := pu_isel (gA M 3 (6 * k + 4))
  obtain ⟨x4, y4, z4, w4⟩ := pu_isel (gA M 3 (6 * k + 5))
  have zi : ∀ {α : Type} (X : Option α), zin (nI i) 10 X = X := fun X => pu_zn (by omega) (by decide)
  have zt : ∀ {α : Type} (X : Option α), zin (nI tr) 3 X = X := fun X => pu_zn htr (by decide)
  have ci : (nI i).toNatClampNeg = i := pu_c (by omega)
  have ct : (nI tr).toNatClampNeg = tr := pu_c (by omega)
  unfold bX0_takesShare_90 fX0_provesShare bX7_rightShare_81
  rw [au_n2 B hk hB, au_n3 B hk hB, au_n4 B hk hB, au_n5 B hk hB, if_neg pu_hn10, au_i1, au_i2, au_i3, au_i4, au_i5, au_z hk 1 (by decide), au_c hk 1 (by decide), if_pos hp, au_z hk 2 (by decide), au_z hk 3 (by decide), au_z hk 4 (by decide), au_z hk 5 (by decide), au_c hk 2 (by decide), au_c hk 3 (by decide), au_c hk 4 (by decide), au_c hk 5 (by decide), z1, z2, z3, z4]
  simp only [pu_b1]
  rw [y1, y2, y3, y4]
  simp only [pu_b1, zi, zt, ci, ct]
  by_cases g1 : x1 = 0
  · rw [if_pos g1, if_pos g1, pu_b1, if_pos rfl]; exact aOut.no rfl rfl (aF.refl M)
  rw [if_neg g1, if_neg g1]
  by_cases g2 : x2 = 0
  · rw [if_pos g2, if_pos g2, pu_b1, if_pos rfl]; exact aOut.no rfl rfl (aF.refl M)
  rw [if_neg g2, if_neg g2]
  by_cases g3 : x3 = 0
  · rw [if_pos g3, if_pos g3, pu_b1, if_pos rfl]; exact aOut.no rfl rfl (aF.refl M)
  rw [if_neg g3, if_neg g3]
  by_cases g4 : x4 = 0
  · rw [if_pos g4, if_pos g4, pu_b1, if_pos rfl]; exact aOut.no rfl rfl (aF.refl M)
  rw [if_neg g4, if_neg g4]
  obtain ⟨-, ld⟩ := w1.resolve_left g1
  obtain ⟨-, sn, sn1, sn2⟩ := w2.resolve_left g2
  obtain ⟨-, lt⟩ := w3.resolve_left g3
  obtain ⟨-, lu⟩ := w4.resolve_left g4
  have ns : pu_nn (gA M 3 (6 * k + 3)) := ⟨sn, by omega, sn2⟩
  obtain ⟨kK, lK⟩ := hK.1 tr htr
  obtain ⟨kA, -, lA, -⟩ := hX i hi
  have nc : ∀ a b c d e, pu_nn (pu_ch a b c d e) := fun a b c d e => pu_dn_nn _
  obtain ⟨M1, m1, m2⟩ := pu_dg5 M (gA M 24 tr) (gA M 30 i) (gA M 3 (6 * k + 2)) (gA M 3 (6 * k + 4)) (gA M 3 (6 * k + 5))
  have e24 : gA M1 24 = gA M 24 := m2.2.1 24 (by decide)
  have e30 : gA M1 30 = gA M 30 := m2.2.1 30 (by decide)
  rw [kK, kA, pu_chal, m1]
  simp only [pu_b1, pu_b2]
  rw [e24, e30]
  generalize hcc : pu_ch (gA M 24 tr) (gA M 30 i) (gA M 3 (6 * k + 2)) (gA M 3 (6 * k + 4)) (gA M 3 (6 * k + 5)) = c
  have ncc : pu_nn c := by rw [← hcc]; exact nc _ _ _ _ _
  rw [pu_ofb ns, pu_pow3 lK ncc, pu_pow3 lA ns, pu_pow3 ld ncc, pu_pow7 pu_el4 ns, pu_pow7 lK ncc, pu_pow7 lA ns, pu_pow7 ld ncc]
  simp only [pu_b1]
  rw [pu_tim3 lt (pu_pw_el _ _), pu_tim3 lu (pu_pw_el _ _), pu_tim7 lt (pu_pw_el _ _), pu_tim7 lu (pu_pw_el _ _)]
  simp only [pu_b1]
  have fr1 : aF M M1 := m2.mono (by decide) (by decide) (by decide) (by decide)
  by_cases q1 : pu_pw 4 (gA M 3 (6 * k + 3)) = pu_tm (gA M 3 (6 * k + 4)) (pu_pw (gA M 24 tr) c)
  rotate_left
  · rw [if_neg q1, if_neg q1, pu_b1, if_pos rfl]; exact aOut.no rfl rfl fr1
  rw [if_pos q1, if_pos q1]
  by_cases q2 : pu_pw (gA M 30 i) (gA M 3 (6 * k + 3)) = pu_tm (gA M 3 (6 * k + 5)) (pu_pw (gA M 3 (6 * k + 2)) c)
  rotate_left
  · rw [if_neg q2, if_neg q2, pu_b1, if_pos rfl]; exact aOut.no rfl rfl fr1
  rw [if_pos q2, if_pos q2, pu_b1, if_neg pu_hn10]
  have l12 : pu_el (gA T 12 i) := ⟨_, Nat.mod_lt _ (by decide), (hS i hi).1⟩
  have ha : fX4_addShare T (nI i) (gA M 3 (6 * k + 2)) = some (sA T 12 i (pu_tm (gA T 12 i) (gA M 3 (6 * k + 2)))) := by
    unfold fX4_addShare
    rw [zi, ci, pu_tim3 l12 ld, pu_b1, zi]
  rw [ha, pu_b1]
  have cA : gI (sI (sI A 1 3) 4 (nI tr)) 3 = nI i := by rw [zs_II, if_neg (by decide), zs_II, if_neg (by decide)]; exact hA3
  have c3 : gI (sI (sI (sI A 1 3) 4 (nI tr)) 3 (nI (i + 1))) 3 = nI (i + 1) := by rw [zs_II, if_pos rfl]
  rw [cA, nI_1, c3, zs_IA, h6, pu_i10, pu_zn (show 10 * tr + i < 30 by omega) (by decide), pu_c (show 10 * tr + i < 2 ^ 31 by omega)]
  have c27 : gI (sI (sI (sA M1 32 (10 * tr + i) (gA M 3 (6 * k + 2))) 28 (nI tr)) 27 (nI (i + 1))) 27 = nI (i + 1) := by rw [zs_II, if_pos rfl]
  have c29 : gI (sI (sI (sA M1 32 (10 * tr + i) (gA M 3 (6 * k + 2))) 28 (nI tr)) 27 (nI (i + 1))) 29 = nI e := by
    rw [zs_II, if_neg (by decide), zs_II, if_neg (by decide), zs_IA, m2.1 29 (by decide), h29]
  rw [c27, c29]
  unfold bX7_rightShare_314 bX7_rightShare_330
  simp only [zt, ct]
  generalize hM2 : sI (sI (sA M1 32 (10 * tr + i) (gA M 3 (6 * k + 2))) 28 (nI tr)) 27 (nI (i + 1)) = M2 at c27 c29 ⊢
  have fr2 : pu_fr [27, 28] [32] [] [33] M M2 := by
    rw [← hM2]
    exact (((m2.mono (by decide) (by decide) (by decide) (by decide)).sA (by decide) _ _).sI (by decide) _).sI (by decide) _
  have e32 : gA M2 32 = upd (gA M 32) (10 * tr + i) (gA M 3 (6 * k + 2)) := by
    rw [← hM2, zs_AI, zs_AI, zs_AA, if_pos rfl, m2.2.1 32 (by decide)]
  have e25 : gA M2 25 = gA M 25 := fr2.2.1 25 (by decide)
  have c28 : gI M2 28 = nI tr := by rw [← hM2, zs_II, if_neg (by decide), zs_II, if_pos rfl]
  have hS' : aSh e tr (i + 1) (sA T 12 i (pu_tm (gA T 12 i) (gA M 3 (6 * k + 2)))) M2 := au_shS htr hi he hS h0 (by rw [zs_AA, if_pos rfl]) e25 e32 ld
  generalize hT2 : sA T 12 i (pu_tm (gA T 12 i) (gA M 3 (6 * k + 2))) = T2 at hS' ⊢
  have frT : pu_fr [] [12] [] [] T T2 := by
    rw [← hT2]
    exact (pu_fr.refl _ _ _ _ T).sA (by decide) _ _
  have fr3 : ∀ a b : Int32, aF M (sI (sA M2 25 tr a) 26 b) := fun a b => ((fr2.mono (by decide) (by decide) (by decide) (by decide)).sA (by decide) _ _).sI (by decide) _
  by_cases hl : i + 1 = e
  · have hle : nI (i + 1) = nI e := by rw [hl]
    rw [if_pos hle, if_pos hle, au_nar1, zs_AA, if_pos rfl, pk_us, if_neg pu_hn10]
    refine ⟨1, _, _, _, rfl, rfl, Or.inr rfl, fr3 1 3, fun _ => Or.inr (Or.inr (Or.inr (Or.inl ⟨e, ?_, Or.inr ⟨?_, ?_⟩, ?_, ?_, hK.fr ?_ ?_ ?_, ?_, hE.fr ?_ ?_ ?_ ?_ ?_ ?_, ?_⟩)))⟩
    · rw [zs_II, if_pos rfl]
    · simp only [zs_II, ↓reduceIte, Nat.reduceEqDiff, reduceCtorEq]
    · intro z
      have := z tr htr
      rw [zs_AI, zs_AA, if_pos rfl, pk_us] at this
      exact pu_hn10 this
    · simp only [zs_II, ↓reduceIte, Nat.reduceEqDiff, reduceCtorEq]; exact hA2
    · simp only [zs_II, ↓reduceIte]
    · rw [zs_AA, if_neg (by decide)]; exact frT.2.1 0 (by decide)
    · rw [zs_IA]; exact frT.1 1 (by decide)
    · rw [zs_AI, zs_AA, if_neg (by decide)]; exact fr2.2.1 24 (by decide)
    · intro t ht
      rw [zs_AI, zs_AA, if_pos rfl, zs_AA, if_pos rfl, frT.2.1 13 (by decide), e25]
      by_cases htt : t = tr
      · rw [htt, pk_us, pk_us]
      · rw [pk_un htt, pk_un htt]; exact hD t ht
    · rw [zs_IA]; exact frT.1 6 (by decide)
    · rw [zs_II, if_neg (by decide), zs_IA]; exact fr2.1 29 (by decide)
    · rw [zs_AA, if_neg (by decide)]; exact frT.2.1 7 (by decide)
    · rw [zs_AA, if_neg (by decide)]; exact frT.2.1 8 (by decide)
    · rw [zs_AI, zs_AA, if_neg (by decide)]; exact fr2.2.1 30 (by decide)
    · rw [zs_AI, zs_AA, if_neg (by decide)]; exact fr2.2.1 31 (by decide)
    · rw [hl] at hS'
      exact au_shE hS' (by rw [zs_AA, if_neg (by decide)]) (by rw [zs_AI, zs_AA, if_pos rfl]) (by rw [zs_AI, zs_AA, if_neg (by decide)])
  · have hle : ¬ nI (i + 1) = nI e := fun z => hl ((nI_eq (by omega) (by omega)).mp z)
    rw [if_neg hle, if_neg hle, au_nar0, zs_AA, if_pos rfl, pk_us, if_pos rfl]
    have e25' : ∀ b : Int32, gA (sI (sA M2 25 tr 0) 26 b) 25 = gA M 25 := fun b => by
      rw [zs_AI, zs_AA, if_pos rfl, e25]; exact au_upd _ _ _ h0
    refine ⟨1, _, T2, _, rfl, rfl, Or.inr rfl, fr3 0 4, fun _ => Or.inr (Or.inr (Or.inr (Or.inr (Or.inl ⟨e, tr, i + 1, by omega, by omega, htr, ?_, ?_, ?_, ?_, ?_, ?_, ?_, ?_, hK.fr ?_ ?_ ?_, hD.fr ?_ ?_, hE.fr ?_ ?_ ?_ ?_ ?_ ?_, ?_⟩))))⟩
    · rw [zs_II, if_pos rfl]
    · simp only [zs_II, ↓reduceIte, Nat.reduceEqDiff, reduceCtorEq]
    · simp only [zs_II, ↓reduceIte, Nat.reduceEqDiff, reduceCtorEq]; exact hA2
    · exact c3
    · rw [zs_II, if_neg (by decide), zs_IA]; exact c27
    · simp only [zs_II, ↓reduceIte, Nat.reduceEqDiff, reduceCtorEq]
    · rw [zs_II, if_neg (by decide), zs_IA]; exact c28
    · rw [e25']; exact h0
    · exact frT.2.1 0 (by decide)
    · exact frT.1 1 (by decide)
    · rw [zs_AI, zs_AA, if_neg (by decide)]; exact fr2.2.1 24 (by decide)
    · exact frT.2.1 13 (by decide)
    · exact e25' _
    · exact frT.1 6 (by decide)
    · rw [zs_II, if_neg (by decide), zs_IA]; exact fr2.1 29 (by decide)
    · exact frT.2.1 7 (by decide)
    · exact frT.2.1 8 (by decide)
    · rw [zs_AI, zs_AA, if_neg (by decide)]; exact fr2.2.1 30 (by decide)
    · rw [zs_AI, zs_AA, if_neg (by decide)]; exact fr2.2.1 31 (by decide)
    · exact hS'.fr rfl (by rw [e25', e25]) (by rw [zs_AI, zs_AA, if_neg (by decide)])
theorem au_tr1 {t : Nat} (ht : t < 3) : fX6_isTrustee (nI t) = some 1 := by
  unfold fX6_isTrustee
  rw [if_neg (nI_pos (by omega)), if_neg (show ¬ (3 : Int32) ≤ nI t from nI_ge ht (by decide))]
theorem au_share3 {A T M : zSt} {e : Nat} (B : zSt) {k : Nat} (hk : k < 160) (hB : gA B 1 = gA M 3) (h : aR3 A T M e) : aOut M (fX0_takesShare B A T (nI k)) (fX7_rightShare M (nI k)) := by
  obtain ⟨h26, hR, hA2, hA3, hK, hD, hE, hS⟩ := h
  have hE' := hE
  obtain ⟨he, h6, h29, hX⟩ := hE'
  have h4 : ¬ gI M 26 = 4 := by rw [h26]; decide
  have m60 : ∀ l2 l3 : Int32, bX7_rightShare_60 M (nI k) l2 l3 = some (0, M) := fun l2 l3 => by
    unfold bX7_rightShare_60 bX7_rightShare_80 bX7_rightShare_81
    rw [if_neg h4, if_pos rfl]
  have hc : ∀ X : Option (Int32 × zSt × zSt), (if gI A 1 = 2 then X else (if gI A 1 = 3 then X else some (0, A, T))) = X := fun X => by
    rcases hR with ⟨q, -⟩ | ⟨q, -⟩
    · rw [if_pos q]
    · rw [q, if_neg (by decide), if_pos rfl]
  unfold fX0_takesShare fX7_rightShare
  rw [au_n0 B hk hB, pu_b1, au_n1 B hk hB, pu_b1, hc, pu_i70, au_z0 hk, if_neg h4, au_c0 hk]
  unfold bX0_takesShare_31 bX7_rightShare_26
  rw [if_pos h26, h29, m60]
  rcases pu_tru (gA M 3 (6 * k)) with ⟨v, hv, hw, t1, t2, t3⟩ | ⟨t1, t2⟩
  rotate_left
  · rw [t1, pu_b1, if_pos rfl]
    rcases t2 with t2 | ⟨t2, t3⟩
    · rw [if_pos t2, ite_self]; exact aOut.no rfl rfl (aF.refl M)
    · rw [if_neg t2, if_pos t3, ite_self]; exact aOut.no rfl rfl (aF.refl M)
  rw [t1, pu_b1, if_neg pu_hn10, if_neg t2, if_neg t3, hw, pu_zn hv (by decide), pu_zn hv (by decide), pu_c (show v < 2 ^ 31 by omega), hD v hv]
  by_cases hd : gA M 25 v = 0
  rotate_left
  · rw [if_neg hd, if_neg hd, ite_self]; exact aOut.no rfl rfl (aF.refl M)
  rw [if_pos hd, if_pos hd, h6, hA3]
  rcases Nat.eq_zero_or_pos e with he0 | he0
  · have hz : nI e ≤ 0 := by rw [he0]; decide
    rw [if_pos hz, if_pos hz]; exact aOut.no rfl rfl (aF.refl M)
  have hz : ¬ nI e ≤ 0 := nI_nle he0 (by omega)
  rw [if_neg hz, if_neg hz]
  unfold bX7_rightShare_76
  by_cases hp : gA M 3 (6 * k + 1) = 0
  · rw [if_pos hp, hp, if_pos (show (0 : Int32) ≤ 0 by decide)]
    exact au_sh90 (i := 0) B hk hB hv he0 hA2 hA3 hK hD hE (au_sh00 v hS) hd hp
  · rw [if_neg hp]
    unfold bX7_rightShare_81
    rw [if_neg pu_hn10, au_i1, au_z hk 1 (by decide), au_c hk 1 (by decide), if_neg hp]
    exact aOut.no rfl rfl (aF.refl M)
theorem au_share4 {A T M : zSt} {e tr w : Nat} (B : zSt) {k : Nat} (hk : k < 160) (hB : gA B 1 = gA M 3) (h : aR4 A T M e tr w) : aOut M (fX0_takesShare B A T (nI k)) (fX7_rightShare M (nI k)) := by
  obtain ⟨hw0, hwe, htr, h26, hA1, hA2, hA3, h27, hA4, h28, h0, hK, hD, hE, hS⟩ := h
  have hE' := hE
  obtain ⟨he, h6, h29, hX⟩ := hE'
  unfold fX0_takesShare fX7_rightShare
  rw [au_n0 B hk hB, pu_b1, au_n1 B hk hB, pu_b1, hA1, if_neg (by decide), if_pos rfl, pu_i70, au_z0 hk, if_pos h26, au_c0 hk, h27]
  unfold bX0_takesShare_31 bX7_rightShare_26 bX7_rightShare_60
  rw [h26, if_neg (show ¬ (4 : Int32) = 3 by decide), if_pos (show (4 : Int32) = 4 from rfl), h28, h6, hA3, hA4]
  have hle : ¬ nI e ≤ nI w := nI_ge hwe (by omega)
  have hw1 : ¬ nI w ≤ 0 := nI_nle hw0 (by omega)
  by_cases hw : gA M 3 (6 * k) = nI tr
  · rw [hw, au_tr1 htr, pu_b1, if_neg pu_hn10, pu_zn htr (by decide), pu_c (show tr < 2 ^ 31 by omega), hD tr htr, if_pos h0, if_neg hle, if_pos rfl, if_pos rfl]
    unfold bX7_rightShare_76
    by_cases hp : gA M 3 (6 * k + 1) = nI w
    · rw [if_pos hp, hp, if_neg hw1]
      exact au_sh90 B hk hB htr hwe hA2 hA3 hK hD hE hS h0 hp
    · rw [if_neg hp]
      unfold bX7_rightShare_81
      rw [if_neg pu_hn10, au_i1, au_z hk 1 (by decide), au_c hk 1 (by decide), if_neg hp]
      exact aOut.no rfl rfl (aF.refl M)
  · rw [if_neg hw, if_neg hw]
    unfold bX7_rightShare_80 bX7_rightShare_81
    rw [if_pos rfl]
    rcases pu_tru (gA M 3 (6 * k)) with ⟨v, hv, hwv, t1, t2, t3⟩ | ⟨t1, t2⟩
    rotate_left
    · rw [t1, pu_b1, if_pos rfl]; exact aOut.no rfl rfl (aF.refl M)
    rw [t1, pu_b1, if_neg pu_hn10, hwv, pu_zn hv (by decide), if_neg hle]
    by_cases hp : gA M 3 (6 * k + 1) = nI w
    · rw [if_pos hp, hp, if_neg hw1, ite_self]; exact aOut.no rfl rfl (aF.refl M)
    · rw [if_neg hp, ite_self]; exact aOut.no rfl rfl (aF.refl M)
