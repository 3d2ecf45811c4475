/-! Pure: what stands on both sides between two records of an audit; records that can't come; BEGUN, VOTER, BALLOT. -/
theorem au_j1 (k : Nat) : nI k + (1 : Int32) = nI (k + 1) := nI_add k 1
theorem au_j2 (k : Nat) : nI k + (2 : Int32) = nI (k + 2) := nI_add k 2
def aKey (T M : zSt) : Prop := (∀ t, t < 3 → gA T 0 t = gA M 24 t ∧ pu_el (gA M 24 t)) ∧ gI T 1 = pu_tm (pu_tm (gA M 24 0) (gA M 24 1)) (gA M 24 2)
def aDone (T M : zSt) : Prop := ∀ t, t < 3 → gA T 13 t = gA M 25 t
def aNone (M : zSt) : Prop := ∀ t, t < 3 → gA M 25 t = 0
def aVot (T M : zSt) : Prop := ∀ v, v < 10 → gA T 2 v = gA M 20 v ∧ gA T 3 v = gA M 21 v ∧ (gA M 21 v ≠ 0 → gA T 4 v = gA M 22 v ∧ gA T 5 v = gA M 23 v ∧ pu_el (gA M 22 v) ∧ pu_el (gA M 23 v))
def aEnt (e : Nat) (T M : zSt) : Prop := e ≤ 10 ∧ gI T 6 = nI e ∧ gI M 29 = nI e ∧ ∀ i, i < e → gA T 7 i = gA M 30 i ∧ gA T 8 i = gA M 31 i ∧ pu_el (gA M 30 i) ∧ pu_el (gA M 31 i)
/-- trustee t's factor in entry i, while tr has opened his w first ones -/
def aO (M : zSt) (tr w t i : Nat) : Nat := if gA M 25 t ≠ 0 ∨ (t = tr ∧ i < w) then (gA M 32 (10 * t + i)).toNatClampNeg else 1
def aSh (e tr w : Nat) (T M : zSt) : Prop := ∀ i, i < e → gA T 12 i = nI (aO M tr w 0 i * aO M tr w 1 i * aO M tr w 2 i % 4079) ∧ ∀ t, t < 3 → (gA M 25 t ≠ 0 ∨ (t = tr ∧ i < w)) → pu_el (gA M 32 (10 * t + i))
def aR0 (A T M : zSt) : Prop := gI M 26 = 0 ∧ gI A 1 = 0 ∧ gI A 2 = 0 ∧ gI A 3 = 0 ∧ aNone M ∧ ∀ v, v < 10 → gA M 20 v = 0 ∧ gA M 21 v = 0
def aR1 (A T M : zSt) : Prop := gI M 26 = 1 ∧ gI A 1 = 1 ∧ gI A 2 = 0 ∧ gI A 3 = 0 ∧ aKey T M ∧ aDone T M ∧ aNone M ∧ aVot T M
def aR2 (A T M : zSt) (e w : Nat) : Prop := w < e ∧ gI M 26 = 2 ∧ gI A 1 = 2 ∧ gI A 2 = nI (e - w) ∧ gI A 3 = 0 ∧ gI M 27 = nI w ∧ aKey T M ∧ aDone T M ∧ aNone M ∧ aEnt e T M ∧ ∀ i, i < e → gA T 12 i = 1
def aR3 (A T M : zSt) (e : Nat) : Prop := gI M 26 = 3 ∧ ((gI A 1 = 2 ∧ aNone M) ∨ (gI A 1 = 3 ∧ ¬ aNone M)) ∧ gI A 2 = 0 ∧ gI A 3 = 0 ∧ aKey T M ∧ aDone T M ∧ aEnt e T M ∧ aSh e 0 0 T M
def aR4 (A T M : zSt) (e tr w : Nat) : Prop := 0 < w ∧ w < e ∧ tr < 3 ∧ gI M 26 = 4 ∧ gI A 1 = 3 ∧ gI A 2 = 0 ∧ gI A 3 = nI w ∧ gI M 27 = nI w ∧ gI A 4 = nI tr ∧ gI M 28 = nI tr ∧ gA M 25 tr = 0 ∧ aKey T M ∧ aDone T M ∧ aEnt e T M ∧ aSh e tr w T M
def aR5 (A M : zSt) : Prop := gI M 26 = 5 ∧ gI A 1 = 4 ∧ gI A 2 = 0
def AR (A T M : zSt) : Prop := aR0 A T M ∨ aR1 A T M ∨ (∃ e w, aR2 A T M e w) ∨ (∃ e, aR3 A T M e) ∨ (∃ e tr w, aR4 A T M e tr w) ∨ aR5 A M
def aOut (M : zSt) (X : Option (Int32 × zSt × zSt)) (Y : Option (Int32 × zSt)) : Prop := ∃ (r : Int32) (A' T' M' : zSt), X = some (r, A', T') ∧ Y = some (r, M') ∧ (r = 0 ∨ r = 1) ∧ aF M M' ∧ (r = 1 → AR A' T' M')
theorem aF.refl (M : zSt) : aF M M := pu_fr.refl _ _ _ _ M
theorem aOut.no {M A T M' : zSt} {X : Option (Int32 × zSt × zSt)} {Y : Option (Int32 × zSt)} (h1 : X = some (0, A, T)) (h2 : Y = some (0, M')) (h3 : aF M M') : aOut M X Y := ⟨0, A, T, M', h1, h2, Or.inl rfl, h3, fun z => absurd z au_01⟩
/-- records that can't come: the model -/
theorem au_noB (M : zSt) {k : Nat} (hk : k < 160) (h : ¬ gI M 26 = 0) : ∃ M' : zSt, fX7_rightBegun M (nI k) = some (0, M') ∧ aF M M' := by
  unfold fX7_rightBegun bX7_rightBegun_20 bX7_rightBegun_21
  rw [if_neg h]
  obtain ⟨r, M', a1, a2, a3, -, -, a6⟩ := au_rb hk (gA M 3) 3 1000 0 M 0 rfl (by decide) rfl (Or.inl rfl)
  have hr : r = 0 := a2.resolve_right (fun z => absurd (a3.mp z).1 au_01)
  rw [hr] at a1
  exact ⟨M', a1, a6.mono (by decide) (by decide) (by decide) (by decide)⟩
theorem au_noV (M : zSt) {k : Nat} (hk : k < 160) (h : ¬ gI M 26 = 1) : fX7_rightVoter M (nI k) = some (0, M) := by
  unfold fX7_rightVoter
  rw [pu_i70, au_z0 hk, if_neg h]
theorem au_noL (M : zSt) {k : Nat} (hk : k < 160) (h : ¬ gI M 26 = 1) : fX7_rightBallot M (nI k) = some (0, M) := by
  unfold fX7_rightBallot
  rw [pu_i70, au_z0 hk, if_neg h]
theorem au_noC (M : zSt) {k : Nat} (h : ¬ gI M 26 = 1) : fX7_rightClosed M (nI k) = some (0, M) := by
  unfold fX7_rightClosed
  rw [if_neg h]
theorem au_noM (M : zSt) {k : Nat} (hk : k < 160) (h : ¬ gI M 26 = 3) : fX7_rightMixed M (nI k) = some (0, M) := by
  unfold fX7_rightMixed bX7_rightMixed_43 bX7_rightMixed_44
  rw [au_i1, au_z hk 1 (by decide), if_neg h, if_neg h, ite_self, ite_self, ite_self]
theorem au_noE (M : zSt) {k : Nat} (h : ¬ gI M 26 = 2) : fX7_rightEntry M (nI k) = some (0, M) := by
  unfold fX7_rightEntry
  rw [if_neg h]
theorem au_noS (M : zSt) {k : Nat} (hk : k < 160) (h : ¬ gI M 26 = 3) (h4 : ¬ gI M 26 = 4) : fX7_rightShare M (nI k) = some (0, M) := by
  unfold fX7_rightShare bX7_rightShare_26 bX7_rightShare_60 bX7_rightShare_80 bX7_rightShare_81
  rw [pu_i70, au_z0 hk, if_neg h4, if_neg h, if_neg h4, if_pos rfl]
theorem au_noR (M : zSt) {k : Nat} (h : ¬ gI M 26 = 3) : fX7_rightResult M (nI k) = some (0, M) := by
  unfold fX7_rightResult bX7_rightResult_34 bX7_rightResult_38 bX7_rightResult_39
  rw [if_neg h, if_neg h, ite_self, ite_self, ite_self, ite_self]
/-- and the class -/
theorem au_xB (B A T : zSt) {k : Nat} {F : Nat → Int32} (hk : k < 160) (hB : gA B 1 = F) (h : ¬ gI A 1 = 0) : fX0_takesBegun B A T (nI k) = some (0, A, T) := by
  unfold fX0_takesBegun
  rw [au_n0 B hk hB, pu_b1, au_n1 B hk hB, pu_b1, au_n2 B hk hB, pu_b1, if_neg h]
theorem au_xV (B A T : zSt) {k : Nat} {F : Nat → Int32} (hk : k < 160) (hB : gA B 1 = F) (h : ¬ gI A 1 = 1) : fX0_takesVoter B A T (nI k) = some (0, T) := by
  unfold fX0_takesVoter
  rw [au_n0 B hk hB, pu_b1, if_neg h]
theorem au_xL (B A T : zSt) {k : Nat} {F : Nat → Int32} (hk : k < 160) (hB : gA B 1 = F) (h : ¬ gI A 1 = 1) : fX0_takesBallot B A T (nI k) = some (0, T) := by
  unfold fX0_takesBallot
  rw [au_n0 B hk hB, pu_b1, au_n1 B hk hB, pu_b1, au_n2 B hk hB, pu_b1, if_neg h]
theorem au_xC (B A T : zSt) {k : Nat} (h : ¬ gI A 1 = 1) : fX0_takesClosed B A T (nI k) = some (0, A, T) := by
  unfold fX0_takesClosed
  rw [if_neg h]
theorem au_xM (B A T : zSt) {k : Nat} {F : Nat → Int32} (hk : k < 160) (hB : gA B 1 = F) (h : ¬ gI A 1 = 2) : fX0_takesMixed B A T (nI k) = some (0, A, T) := by
  unfold fX0_takesMixed
  rw [au_n0 B hk hB, pu_b1, au_n1 B hk hB, pu_b1, if_neg h]
theorem au_xS (B A T : zSt) {k : Nat} {F : Nat → Int32} (hk : k < 160) (hB : gA B 1 = F) (h : ¬ gI A 1 = 2) (h3 : ¬ gI A 1 = 3) : fX0_takesShare B A T (nI k) = some (0, A, T) := by
  unfold fX0_takesShare
  rw [au_n0 B hk hB, pu_b1, au_n1 B hk hB, pu_b1, if_neg h, if_neg h3]
theorem au_xR (B A T : zSt) {k : Nat} (h : ¬ gI A 1 = 2) (h3 : ¬ gI A 1 = 3) : fX0_takesResult B A T (nI k) = some (0, A, T) := by
  unfold fX0_takesResult
  rw [if_neg h, if_neg h3]
theorem au_begun {A T M : zSt} (B : zSt) {k : Nat} (hk : k < 160) (hB : gA B 1 = gA M 3) (h : aR0 A T M) : aOut M (fX0_takesBegun B A T (nI k)) (fX7_rightBegun M (nI k)) := by
  obtain ⟨h26, hA1, hA2, hA3, hN, hZ⟩ := h
  unfold fX0_takesBegun fX7_rightBegun
  obtain ⟨b, b0, b1, b2⟩ := au_br B M hk hB 3 3 (by decide) rfl
  obtain ⟨x1, y1, z1, w1⟩ := pu_isel (gA M 3 (6 * k))
  obtain ⟨x2, y2, z2, w2⟩ := pu_isel (gA M 3 (6 * k + 1))
  obtain ⟨x3, y3, z3, w3⟩ := pu_isel (gA M 3 (6 * k + 2))
  rw [au_n0 B hk hB, pu_b1, au_n1 B hk hB, pu_b1, au_n2 B hk hB, pu_b1, if_pos hA1, b1, pu_b1, if_pos h26, b2, pu_b1]
  unfold bX7_rightBegun_20 bX7_rightBegun_21
  by_cases hb : b = 0
  · rw [if_pos hb, if_pos hb]
    obtain ⟨r, M', a1, a2, a3, -, -, a6⟩ := au_rb hk (gA M 3) 3 1000 0 M 0 rfl (by decide) rfl (Or.inl rfl)
    have hr : r = 0 := a2.resolve_right (fun z => absurd (a3.mp z).1 au_01)
    rw [hr] at a1
    exact aOut.no rfl a1 (a6.mono (by decide) (by decide) (by decide) (by decide))
  rw [if_neg hb, if_neg hb, y1, pu_b1]
  obtain ⟨r, M', a1, a2, a3, a4, a5, a6⟩ := au_rb hk (gA M 3) 3 1000 0 M 1 rfl (by decide) rfl (Or.inr rfl)
  have a1z : lX7_rightBegun_24 1000 M (nI k) 1 0 = some (r, M') := a1
  rw [a1z]
  have fr : aF M M' := a6.mono (by decide) (by decide) (by decide) (by decide)
  have bad : (∃ t, t < 3 ∧ ∃ x, fX7_isElement (gA M 3 (6 * k + t)) = some x ∧ x = 0) → (some (r, M') : Option (Int32 × zSt)) = some (0, M') := by
    intro ⟨t, ht, x, hx, hx0⟩
    have hr : r = 0 := a2.resolve_right (fun z => by
      have q := (a3.mp z).2 t (Nat.zero_le _) ht
      rw [hx, hx0] at q
      exact absurd (Option.some.inj q) au_01)
    rw [hr]
  by_cases g1 : x1 = 0
  · rw [if_pos g1]
    exact aOut.no rfl (bad ⟨0, by decide, x1, z1, g1⟩) fr
  rw [if_neg g1, y2, pu_b1]
  by_cases g2 : x2 = 0
  · rw [if_pos g2]
    exact aOut.no rfl (bad ⟨1, by decide, x2, z2, g2⟩) fr
  rw [if_neg g2, y3, pu_b1]
  by_cases g3 : x3 = 0
  · rw [if_pos g3]
    exact aOut.no rfl (bad ⟨2, by decide, x3, z3, g3⟩) fr
  rw [if_neg g3]
  obtain ⟨e1, l1⟩ := w1.resolve_left g1
  obtain ⟨e2, l2⟩ := w2.resolve_left g2
  obtain ⟨e3, l3⟩ := w3.resolve_left g3
  have hr : r = 1 := a3.mpr ⟨rfl, fun t _ ht => by
    have : t = 0 ∨ t = 1 ∨ t = 2 := by omega
    rcases this with rfl | rfl | rfl
    · rw [← e1]; exact z1
    · rw [← e2]; exact z2
    · rw [← e3]; exact z3⟩
  rw [hr]
  obtain ⟨T', p1, p2, p3, p4, p5, p6, p7⟩ := pu_start T l1 l2 l3
  rw [p1, pu_b1]
  obtain ⟨u0, u1, u2⟩ := pu_u3 (gA T 0) (gA M 3 (6 * k)) (gA M 3 (6 * k + 1)) (gA M 3 (6 * k + 2))
  have q0 : gA M' 24 0 = gA M 3 (6 * k) := by rw [a5, if_pos (by decide)]; rfl
  have q1 : gA M' 24 1 = gA M 3 (6 * k + 1) := by rw [a5, if_pos (by decide)]
  have q2 : gA M' 24 2 = gA M 3 (6 * k + 2) := by rw [a5, if_pos (by decide)]
  refine ⟨1, sI A 1 1, T', M', rfl, rfl, Or.inr rfl, fr, fun _ => Or.inr (Or.inl ⟨a4, ?_, ?_, ?_, ⟨?_, ?_⟩, ?_, ?_, ?_⟩)⟩
  · rw [zs_II, if_pos rfl]
  · rw [zs_II, if_neg (by decide)]; exact hA2
  · rw [zs_II, if_neg (by decide)]; exact hA3
  · rw [p3]
    refine pu_3 ?_ ?_ ?_
    · rw [u0, q0]; exact ⟨rfl, l1⟩
    · rw [u1, q1]; exact ⟨rfl, l2⟩
    · rw [u2, q2]; exact ⟨rfl, l3⟩
  · rw [p2, q0, q1, q2]
  · intro t ht
    rw [p6, a6.2.1 25 (by decide), hN t ht]; exact if_pos ⟨Nat.zero_le _, ht⟩
  · intro t ht
    rw [a6.2.1 25 (by decide)]; exact hN t ht
  · intro v hv
    have c1 : gA T' 2 v = 0 := by rw [p4]; exact if_pos ⟨Nat.zero_le _, hv⟩
    have c2 : gA T' 3 v = 0 := by rw [p5]; exact if_pos ⟨Nat.zero_le _, hv⟩
    rw [c1, c2, a6.2.1 20 (by decide), a6.2.1 21 (by decide), (hZ v hv).1, (hZ v hv).2]
    exact ⟨rfl, rfl, fun z => absurd rfl z⟩
/-- a frame keeps what a frame leaves -/
theorem aKey.fr {T M T' M' : zSt} (h : aKey T M) (h1 : gA T' 0 = gA T 0) (h2 : gI T' 1 = gI T 1) (h3 : gA M' 24 = gA M 24) : aKey T' M' := by
  unfold aKey at h ⊢; rw [h1, h2, h3]; exact h
theorem aDone.fr {T M T' M' : zSt} (h : aDone T M) (h1 : gA T' 13 = gA T 13) (h2 : gA M' 25 = gA M 25) : aDone T' M' := by
  unfold aDone at h ⊢; rw [h1, h2]; exact h
theorem aNone.fr {M M' : zSt} (h : aNone M) (h2 : gA M' 25 = gA M 25) : aNone M' := by
  unfold aNone at h ⊢; rw [h2]; exact h
theorem aEnt.fr {e : Nat} {T M T' M' : zSt} (h : aEnt e T M) (h1 : gI T' 6 = gI T 6) (h2 : gI M' 29 = gI M 29) (h3 : gA T' 7 = gA T 7) (h4 : gA T' 8 = gA T 8) (h5 : gA M' 30 = gA M 30) (h6 : gA M' 31 = gA M 31) : aEnt e T' M' := by
  unfold aEnt at h ⊢; rw [h1, h2, h3, h4, h5, h6]; exact h
theorem aSh.fr {e tr w : Nat} {T M T' M' : zSt} (h : aSh e tr w T M) (h1 : gA T' 12 = gA T 12) (h2 : gA M' 25 = gA M 25) (h3 : gA M' 32 = gA M 32) : aSh e tr w T' M' := by
  unfold aSh aO at h ⊢; rw [h1, h2, h3]; exact h
theorem au_voter {A T M : zSt} (B : zSt) {k : Nat} (hk : k < 160) (hB : gA B 1 = gA M 3) (h : aR1 A T M) : aOut M (zb2 (fX0_takesVoter B A T (nI k)) (fun r_5 uT_6 => zbl r_5 (some (r_5, A, uT_6)))) (fX7_rightVoter M (nI k)) := by
  obtain ⟨h26, hA1, hA2, hA3, hK, hD, hN, hV⟩ := h
  unfold fX0_takesVoter fX7_rightVoter
  obtain ⟨b, b0, b1, b2⟩ := au_br B M hk hB 1 1 (by decide) rfl
  rw [au_n0 B hk hB, pu_b1, if_pos hA1, b1, pu_b1, pu_i70, au_z0 hk, if_pos h26, au_c0 hk]
  have nope : aOut M (zb2 (some ((0 : Int32), T)) (fun r_5 uT_6 => zbl r_5 (some (r_5, A, uT_6)))) (some ((0 : Int32), M)) := by
    rw [pu_b2]
    exact aOut.no (au_bl (Or.inl rfl) _) rfl (aF.refl M)
  rcases pu_vot (gA M 3 (6 * k)) with ⟨v, hv, hx, a1, a2⟩ | ⟨a1, a2⟩
  rotate_left
  · rw [a2, pu_b1, if_neg pu_hn10]
    by_cases hb : b = 0
    · rw [if_pos hb]; exact nope
    · rw [if_neg hb, a1, pu_b1, if_pos rfl]; exact nope
  obtain ⟨v1, v2, v3⟩ := hV v hv
  rw [a1, a2, pu_b1, pu_b1, if_neg pu_hn10, if_pos rfl, hx]
  simp only [pu_zin (pu_in hv (show 10 < 2 ^ 31 by decide)), pu_c (show v < 2 ^ 31 by omega)]
  rw [v1, b2, pu_b1]
  by_cases hs : gA M 20 v = 0
  rotate_left
  · rw [if_neg hs, if_neg hs]
    by_cases hb : b = 0
    · rw [if_pos hb]; exact nope
    · rw [if_neg hb]; exact nope
  rw [if_pos hs, if_pos hs]
  by_cases hb : b = 0
  · rw [if_pos hb, if_pos hb]; exact nope
  rw [if_neg hb, if_neg hb, pu_b2]
  refine ⟨1, A, sA T 2 v 1, sA M 20 v 1, au_bl (Or.inr rfl) _, rfl, Or.inr rfl, (pu_fr.refl _ _ _ _ M).sA (by decide) _ _, fun _ => Or.inr (Or.inl ⟨?_, hA1, hA2, hA3, hK.fr ?_ ?_ ?_, hD.fr ?_ ?_, hN.fr ?_, ?_⟩)⟩
  · rw [zs_IA]; exact h26
  · rw [zs_AA, if_neg (by decide)]
  · rw [zs_IA]
  · rw [zs_AA, if_neg (by decide)]
  · rw [zs_AA, if_neg (by decide)]
  · rw [zs_AA, if_neg (by decide)]
  · rw [zs_AA, if_neg (by decide)]
  · intro t ht
    obtain ⟨w1, w2⟩ := hV t ht
    simp only [zs_AA, ↓reduceIte, Nat.reduceEqDiff]
    refine ⟨?_, w2⟩
    by_cases htv : t = v
    · rw [htv, pk_us, pk_us]
    · rw [pk_un htv, pk_un htv]; exact w1
theorem au_ballot {A T M : zSt} (B : zSt) {k : Nat} (hk : k < 160) (hB : gA B 1 = gA M 3) (h : aR1 A T M) : aOut M (zb2 (fX0_takesBallot B A T (nI k)) (fun r_5 uT_6 => zbl r_5 (some (r_5, A, uT_6)))) (fX7_rightBallot M (nI k)) := by
  obtain ⟨h26, hA1, hA2, hA3, hK, hD, hN, hV⟩ := h
  unfold fX0_takesBallot fX7_rightBallot
  obtain ⟨b, b0, b1, b2⟩ := au_br B M hk hB 3 3 (by decide) rfl
  obtain ⟨x1, y1, z1, w1⟩ := pu_isel (gA M 3 (6 * k + 1))
  obtain ⟨x2, y2, z2, w2⟩ := pu_isel (gA M 3 (6 * k + 2))
  rw [au_n0 B hk hB, pu_b1, au_n1 B hk hB, pu_b1, au_n2 B hk hB, pu_b1, if_pos hA1, b1, pu_b1, pu_i70, au_z0 hk, if_pos h26, au_c0 hk]
  have nope : aOut M (zb2 (some ((0 : Int32), T)) (fun r_5 uT_6 => zbl r_5 (some (r_5, A, uT_6)))) (some ((0 : Int32), M)) := by
    rw [pu_b2]
    exact aOut.no (au_bl (Or.inl rfl) _) rfl (aF.refl M)
  rcases pu_vot (gA M 3 (6 * k)) with ⟨v, hv, hx, a1, a2⟩ | ⟨a1, a2⟩
  rotate_left
  · rw [a2, pu_b1, if_neg pu_hn10]
    by_cases hb : b = 0
    · rw [if_pos hb]; exact nope
    · rw [if_neg hb, a1, pu_b1, if_pos rfl]; exact nope
  obtain ⟨v1, v2, v3⟩ := hV v hv
  rw [a1, a2, pu_b1, pu_b1, if_neg pu_hn10, if_pos rfl, hx, au_j1, au_j2]
  simp only [pu_zin (pu_in hv (show 10 < 2 ^ 31 by decide)), pu_c (show v < 2 ^ 31 by omega), pu_zin (pu_in (show 6 * k + 1 < 960 by omega) (show 960 < 2 ^ 31 by decide)), pu_zin (pu_in (show 6 * k + 2 < 960 by omega) (show 960 < 2 ^ 31 by decide)), au_c hk 1 (by decide), au_c hk 2 (by decide)]
  rw [v1, y1, z1, y2, z2, b2]
  simp only [pu_b1]
  by_cases hs : gA M 20 v = 0
  · rw [if_pos hs, if_pos hs, ite_self]; exact nope
  rw [if_neg hs, if_neg hs]
  by_cases g1 : x1 = 0
  · rw [if_pos g1, if_pos g1, ite_self]; exact nope
  rw [if_neg g1, if_neg g1]
  by_cases g2 : x2 = 0
  · rw [if_pos g2, if_pos g2, ite_self]; exact nope
  rw [if_neg g2, if_neg g2]
  by_cases hb : b = 0
  · rw [if_pos hb, if_pos hb]; exact nope
  obtain ⟨e1, l1⟩ := w1.resolve_left g1
  obtain ⟨e2, l2⟩ := w2.resolve_left g2
  rw [if_neg hb, if_neg hb]
  unfold fX4_keepBallot
  simp only [pu_zin (pu_in hv (show 10 < 2 ^ 31 by decide)), pu_c (show v < 2 ^ 31 by omega), pu_b1, pu_b2]
  refine ⟨1, A, _, _, au_bl (Or.inr rfl) _, rfl, Or.inr rfl, (((pu_fr.refl _ _ _ _ M).sA (by decide) _ _).sA (by decide) _ _).sA (by decide) _ _, fun _ => Or.inr (Or.inl ⟨?_, hA1, hA2, hA3, hK.fr ?_ ?_ ?_, hD.fr ?_ ?_, hN.fr ?_, ?_⟩)⟩
  · simp only [zs_IA]; exact h26
  · simp only [zs_AA, ↓reduceIte, Nat.reduceEqDiff, reduceCtorEq]
  · simp only [zs_IA]
  · simp only [zs_AA, ↓reduceIte, Nat.reduceEqDiff, reduceCtorEq]
  · simp only [zs_AA, ↓reduceIte, Nat.reduceEqDiff, reduceCtorEq]
  · simp only [zs_AA, ↓reduceIte, Nat.reduceEqDiff, reduceCtorEq]
  · simp only [zs_AA, ↓reduceIte, Nat.reduceEqDiff, reduceCtorEq]
  · intro t ht
    obtain ⟨q1, q2, q3⟩ := hV t ht
    simp only [zs_AA, ↓reduceIte, Nat.reduceEqDiff, reduceCtorEq]
    by_cases htv : t = v
    · rw [htv] at q1 ⊢
      simp only [pk_us]
      exact ⟨q1, trivial, fun _ => ⟨trivial, trivial, l1, l2⟩⟩
    · simp only [pk_un htv]
      exact ⟨q1, q2, q3⟩
