/-! Pure: leaves, heads, splits. -/
noncomputable def pu_lx (F : Nat → Int32) (n : Nat) : Nat → Int64 → Int64
  | 0, x => x
  | i + 1, x => pu_dg (pu_lx F n i x) (F (6 * n + i)).toInt64
noncomputable def pu_leaf (K F : Nat → Int32) (n : Nat) : Int64 := pu_sr (pu_lx F n 6 (pu_dg (pu_dg 0 0) (K n).toInt64))
theorem pu_lf18 (B : zSt) {n : Nat} (hn : n < 160) (x : Int64) : ∀ (d f i : Nat), i + d = 6 → d < f → lX1_leafOf_18 f B (nI n) (pu_lx (gA B 1) n i x) (nI i) = some (pu_sr (pu_lx (gA B 1) n 6 x)) := by
  intro d
  induction d with
  | zero =>
    intro f i hi hf
    obtain ⟨g, rfl, -⟩ := pu_fu hf
    have h0 : i = 6 := by omega
    subst h0
    show bX1_leafOf_18 _ _ _ _ _ = _
    unfold bX1_leafOf_18
    rw [if_pos (by decide), pu_end, pu_b1]
  | succ d ih =>
    intro f i hi hf
    obtain ⟨g, rfl, hg⟩ := pu_fu hf
    have hi6 : i < 6 := by omega
    show bX1_leafOf_18 _ _ _ _ _ = _
    unfold bX1_leafOf_18
    rw [if_neg (show ¬ (6 : Int32) ≤ nI i from nI_ge hi6 (by decide)), pu_nu1 B (nI i) i hn hi6 rfl, pu_b1, pu_with, pu_b1, nI_1]
    exact ih g (i + 1) (by omega) (by omega)
theorem pu_leaf1 (B : zSt) {n : Nat} (hn : n < 160) : fX1_leafOf B (nI n) = some (pu_leaf (gA B 0) (gA B 1) n) := by
  unfold fX1_leafOf
  have hk : fX1_kind B (nI n) = some (gA B 0 n) := by
    unfold fX1_kind
    rw [pu_zn hn (by decide), pu_c (by omega)]
  rw [pu_with, pu_b1, hk, pu_b1, pu_with, pu_b1]
  exact pu_lf18 B hn _ 6 1000 0 rfl (by decide)
theorem pu_lf23 {n : Nat} (hn : n < 160) (F : Nat → Int32) (x : Int64) : ∀ (d f i : Nat) (M : zSt), i + d = 6 → d < f → gA M 3 = F → gJ M 33 = pu_lx F n i x → ∃ M' : zSt, lX7_leafOf_23 f M (nI n) (nI i) = some (pu_sr (pu_lx F n 6 x), M') ∧ pu_fr [] [] [] [33] M M' := by
  intro d
  induction d with
  | zero =>
    intro f i M hi hf hF hx
    obtain ⟨g, rfl, -⟩ := pu_fu hf
    have h0 : i = 6 := by omega
    subst h0
    refine ⟨M, ?_, pu_fr.refl _ _ _ _ M⟩
    show bX7_leafOf_23 _ _ _ _ = _
    unfold bX7_leafOf_23
    rw [if_pos (by decide), pu_seal, pu_b1, hx]
  | succ d ih =>
    intro f i M hi hf hF hx
    obtain ⟨g, rfl, hg⟩ := pu_fu hf
    have hi6 : i < 6 := by omega
    show ∃ M' : zSt, bX7_leafOf_23 _ _ _ _ = _ ∧ _
    unfold bX7_leafOf_23
    rw [if_neg (show ¬ (6 : Int32) ≤ nI i from nI_ge hi6 (by decide)), pu_i7, pu_zn (show 6 * n + i < 960 by omega) (by decide), pu_c (by omega), hF]
    obtain ⟨M1, a1, a2, a3⟩ := pu_ming M (F (6 * n + i)).toInt64
    rw [a1, pu_b1, nI_1]
    obtain ⟨M2, b1, b2⟩ := ih g (i + 1) M1 (by omega) (by omega) (by rw [a3.2.1 3 (by decide), hF]) (by rw [a2, hx]; rfl)
    exact ⟨M2, b1, a3.trans b2⟩
theorem pu_leaf7 (M : zSt) {n : Nat} (hn : n < 160) : ∃ M' : zSt, fX7_leafOf M (nI n) = some (pu_leaf (gA M 2) (gA M 3) n, M') ∧ pu_fr [] [] [] [33] M M' := by
  unfold fX7_leafOf
  obtain ⟨M1, a1, a2, a3⟩ := pu_ming (sJ M 33 0) 0
  rw [a1, pu_b1, pu_zn hn (by decide), pu_c (by omega)]
  obtain ⟨M2, b1, b2, b3⟩ := pu_ming M1 (gA M1 2 n).toInt64
  have e3 : gA M2 3 = gA M 3 := by rw [b3.2.1 3 (by decide), a3.2.1 3 (by decide), zs_AJ]
  have e2 : gA M1 2 = gA M 2 := by rw [a3.2.1 2 (by decide), zs_AJ]
  have e0 : gJ (sJ M 33 0) 33 = 0 := by rw [zs_JJ, if_pos rfl]
  rw [b1, pu_b1]
  obtain ⟨M3, c1, c2⟩ := pu_lf23 hn (gA M 3) (pu_dg (pu_dg 0 0) (gA M 2 n).toInt64) 6 1000 0 M2 rfl (by decide) e3 (by rw [b2, a2, e2, e0]; rfl)
  exact ⟨M3, c1, ((pu_fr.refl _ _ _ _ M).sJ (by decide) _).trans (a3.trans (b3.trans c2))⟩
/-- two digests joined -/
noncomputable def pu_j (l r : Int64) : Int64 := pu_sr (pu_dg (pu_dg (pu_dg 0 1) l) r)
theorem pu_j1 (l r : Int64) : fX2_ofParts l r = some (pu_j l r) := by
  unfold fX2_ofParts
  rw [pu_with, pu_b1, pu_with, pu_b1, pu_with, pu_b1, pu_end, pu_b1]; rfl
theorem pu_j7 (M : zSt) (l r : Int64) : ∃ M' : zSt, fX7_joined M l r = some (pu_j l r, M') ∧ pu_fr [] [] [] [33] M M' := by
  unfold fX7_joined
  obtain ⟨M1, a1, a2, a3⟩ := pu_ming (sJ M 33 0) 1
  obtain ⟨M2, b1, b2, b3⟩ := pu_ming M1 l
  obtain ⟨M3, c1, c2, c3⟩ := pu_ming M2 r
  rw [a1, pu_b1, b1, pu_b1, c1, pu_b1]
  refine ⟨M3, ?_, ((pu_fr.refl _ _ _ _ M).sJ (by decide) _).trans (a3.trans (b3.trans c3))⟩
  have e0 : gJ (sJ M 33 0) 33 = 0 := by rw [zs_JJ, if_pos rfl]
  rw [pu_seal, pu_b1, c2, b2, a2, e0]; rfl
/-- a level: its first i pairs joined -/
noncomputable def pu_lp (r : Nat → Int64) (i : Nat) : Nat → Int64 := fun t => if t < i then pu_j (r (2 * t)) (r (2 * t + 1)) else r t
theorem pu_lp_s (r : Nat → Int64) (i : Nat) : vp_updL (pu_lp r i) i (pu_j (r (2 * i)) (r (2 * i + 1))) = pu_lp r (i + 1) := by
  funext t; unfold vp_updL pu_lp
  by_cases h : t = i
  · subst h; rw [if_pos rfl, if_pos (by omega)]
  · rw [if_neg h]
    by_cases h2 : t < i
    · rw [if_pos h2, if_pos (by omega)]
    · rw [if_neg h2, if_neg (by omega)]
theorem pu_lp_o (r : Nat → Int64) {i t : Nat} (h : i ≤ t) : pu_lp r i t = r t := if_neg (by omega)
noncomputable def pu_lv (r : Nat → Int64) (w : Nat) : Nat → Int64 := if w % 2 = 1 then vp_updL (pu_lp r (w / 2)) (w / 2) (r (w - 1)) else pu_lp r (w / 2)
theorem pu_d2 {w : Nat} (hw : w < 2 ^ 31) : nI w / (2 : Int32) = nI (w / 2) := pk_div hw (by decide) (by decide)
theorem pu_r2 {w : Nat} (hw : w < 2 ^ 31) : nI w - nI w / (2 : Int32) * (2 : Int32) = nI (w % 2) := pk_rem hw (by decide) (by decide)
theorem pu_m2 {w : Nat} : (2 : Int32) * nI w = nI (2 * w) := pk_mul 2 w
theorem pu_jn1 {w : Nat} (hw : w ≤ 160) (h0 : 1 ≤ w) (r : Nat → Int64) : ∀ (d f i : Nat) (B : zSt), i + d = w / 2 → d < f → gL B 2 = pu_lp r i → ∃ B' : zSt, lX1_joinNeighbours_2 f B (nI w) (nI i) = some B' ∧ gL B' 2 = pu_lv r w ∧ pu_fr [] [] [2] [] B B' := by
  intro d
  induction d with
  | zero =>
    intro f i B hi hf hr
    obtain ⟨g, rfl, -⟩ := pu_fu hf
    have h1 : i = w / 2 := by omega
    subst h1
    show ∃ B' : zSt, bX1_joinNeighbours_2 _ _ _ _ = _ ∧ _
    unfold bX1_joinNeighbours_2 pu_lv
    rw [pu_d2 (by omega), if_pos (nI_le (Nat.le_refl _) (by omega))]
    have hm : nI w - nI (w / 2) * (2 : Int32) = nI (w % 2) := by rw [← pu_d2 (by omega)]; exact pu_r2 (by omega)
    rw [hm]
    by_cases h : w % 2 = 1
    · have e1 : nI w - (1 : Int32) = nI (w - 1) := pk_sub h0
      rw [if_pos (show nI (w % 2) = (1 : Int32) by rw [h]; rfl), if_pos h, e1, pu_zn (by omega) (by decide), pu_zn (by omega) (by decide), pu_c (by omega), pu_c (by omega)]
      refine ⟨_, rfl, ?_, (pu_fr.refl _ _ _ _ B).sL (by decide) _ _⟩
      rw [zs_LL, if_pos rfl, hr, pu_lp_o r (show w / 2 ≤ w - 1 by omega)]
    · rw [if_neg (show ¬ nI (w % 2) = (1 : Int32) by rw [show w % 2 = 0 by omega]; decide), if_neg h]
      exact ⟨B, rfl, hr, pu_fr.refl _ _ _ _ B⟩
  | succ d ih =>
    intro f i B hi hf hr
    obtain ⟨g, rfl, hg⟩ := pu_fu hf
    show ∃ B' : zSt, bX1_joinNeighbours_2 _ _ _ _ = _ ∧ _
    unfold bX1_joinNeighbours_2
    rw [pu_d2 (by omega), if_neg (nI_ge (by omega) (by omega)), pu_m2, nI_1, pu_zn (by omega) (by decide), pu_zn (by omega) (by decide), pu_c (by omega), pu_c (by omega), hr, pu_lp_o r (by omega), pu_lp_o r (by omega), pu_j1, pu_b1, pu_zn (by omega) (by decide), pu_c (by omega), nI_1]
    obtain ⟨B', a1, a2, a3⟩ := ih g (i + 1) (sL B 2 i (pu_j (r (2 * i)) (r (2 * i + 1)))) (by omega) (by omega) (by rw [zs_LL, if_pos rfl, hr, pu_lp_s])
    exact ⟨B', a1, a2, ((pu_fr.refl _ _ _ _ B).sL (by decide) _ _).trans a3⟩
theorem pu_jn7 (k28 : zSt → Int32 → Option (Int64 × zSt)) {w : Nat} (hw : w ≤ 160) (h0 : 1 ≤ w) (r : Nat → Int64) : ∀ (d f i : Nat) (M : zSt), i + d = w / 2 → d < f → gL M 34 = pu_lp r i → ∃ M' : zSt, lX7_headOf_36 k28 f M (nI w) (nI (2 * i)) = k28 M' (nI ((w + 1) / 2)) ∧ gL M' 34 = pu_lv r w ∧ pu_fr [] [] [34] [33] M M' := by
  intro d
  induction d with
  | zero =>
    intro f i M hi hf hr
    obtain ⟨g, rfl, -⟩ := pu_fu hf
    have h1 : i = w / 2 := by omega
    subst h1
    show ∃ M' : zSt, bX7_headOf_36 _ _ _ _ _ = _ ∧ _
    unfold bX7_headOf_36 bX7_headOf_102 pu_lv
    have hm : nI w - nI (w / 2) * (2 : Int32) = nI (w % 2) := by rw [← pu_d2 (by omega)]; exact pu_r2 (by omega)
    have hs : nI (w / 2) + nI (w % 2) = nI ((w + 1) / 2) := by rw [nI_add]; exact congrArg nI (by omega)
    rw [nI_1, if_pos (nI_le (by omega) (by omega)), pu_d2 (by omega), hm, hs]
    by_cases h : w % 2 = 1
    · have e1 : nI w - (1 : Int32) = nI (w - 1) := pk_sub h0
      rw [if_pos (show nI (w % 2) = (1 : Int32) by rw [h]; rfl), if_pos h, e1, pu_zn (by omega) (by decide), pu_zn (by omega) (by decide), pu_c (by omega), pu_c (by omega)]
      refine ⟨_, rfl, ?_, (pu_fr.refl _ _ _ _ M).sL (by decide) _ _⟩
      rw [zs_LL, if_pos rfl, hr, pu_lp_o r (show w / 2 ≤ w - 1 by omega)]
    · rw [if_neg (show ¬ nI (w % 2) = (1 : Int32) by rw [show w % 2 = 0 by omega]; decide), if_neg h]
      exact ⟨M, rfl, hr, pu_fr.refl _ _ _ _ M⟩
  | succ d ih =>
    intro f i M hi hf hr
    obtain ⟨g, rfl, hg⟩ := pu_fu hf
    show ∃ M' : zSt, bX7_headOf_36 _ _ _ _ _ = _ ∧ _
    unfold bX7_headOf_36
    have e2 : nI (2 * i) / (2 : Int32) = nI i := by rw [pu_d2 (by omega)]; exact congrArg nI (by omega)
    have e3 : nI (2 * i) + (2 : Int32) = nI (2 * (i + 1)) := nI_add (2 * i) 2
    obtain ⟨M1, j1, j2⟩ := pu_j7 M (r (2 * i)) (r (2 * i + 1))
    rw [nI_1, if_neg (nI_ge (by omega) (by omega)), pu_zn (by omega) (by decide), pu_zn (by omega) (by decide), pu_c (by omega), pu_c (by omega), hr, pu_lp_o r (by omega), pu_lp_o r (by omega), j1, pu_b2, e2, pu_zn (by omega) (by decide), pu_c (by omega), e3]
    obtain ⟨M', a1, a2, a3⟩ := ih g (i + 1) (sL M1 34 i (pu_j (r (2 * i)) (r (2 * i + 1)))) (by omega) (by omega) (by rw [zs_LL, if_pos rfl, j2.2.2.1 34 (by decide), hr, pu_lp_s])
    exact ⟨M', a1, a2, ((j2.mono (by decide) (by decide) (by decide) (by decide)).sL (by decide) _ _).trans a3⟩
/-- all levels -/
noncomputable def pu_hf : Nat → Nat → (Nat → Int64) → Int64
  | 0, _, r => r 0
  | d + 1, w, r => if w ≤ 1 then r 0 else pu_hf d ((w + 1) / 2) (pu_lv r w)
theorem pu_hf_1 (d : Nat) {w : Nat} (r : Nat → Int64) (h : w ≤ 1) : pu_hf d w r = r 0 := by
  cases d with
  | zero => rfl
  | succ d => exact if_pos h
theorem pu_hf_c : ∀ (d w : Nat) (r r' : Nat → Int64), 1 ≤ w → (∀ t, t < w → r t = r' t) → pu_hf d w r = pu_hf d w r' := by
  intro d
  induction d with
  | zero => intro w r r' h1 h; exact h 0 (by omega)
  | succ d ih =>
    intro w r r' h1 h
    unfold pu_hf
    by_cases hw : w ≤ 1
    · rw [if_pos hw, if_pos hw]; exact h 0 (by omega)
    · rw [if_neg hw, if_neg hw]
      refine ih _ _ _ (by omega) (fun t ht => ?_)
      unfold pu_lv
      have hp : ∀ u, u < (w + 1) / 2 → u ≠ w / 2 ∨ w % 2 = 0 → pu_lp r (w / 2) u = pu_lp r' (w / 2) u := by
        intro u hu hc
        unfold pu_lp
        rw [if_pos (by omega), if_pos (by omega), h _ (by omega), h _ (by omega)]
      by_cases ho : w % 2 = 1
      · rw [if_pos ho, if_pos ho]
        unfold vp_updL
        by_cases ht2 : t = w / 2
        · rw [if_pos ht2, if_pos ht2]; exact h _ (by omega)
        · rw [if_neg ht2, if_neg ht2]; exact hp t ht (Or.inl ht2)
      · rw [if_neg ho, if_neg ho]; exact hp t ht (Or.inr (by omega))
theorem pu_h34 : ∀ (d f w : Nat) (B : zSt), 1 ≤ w → w ≤ 2 ^ d → w ≤ 160 → d < f → ∃ B' : zSt, lX1_headOf_34 f B (nI w) = some (pu_hf d w (gL B 2), B') ∧ pu_fr [] [] [2] [] B B' := by
  intro d
  induction d with
  | zero =>
    intro f w B h1 h2 h3 hf
    obtain ⟨g, rfl, -⟩ := pu_fu hf
    have hw : w = 1 := by simp at h2; omega
    subst hw
    refine ⟨B, ?_, pu_fr.refl _ _ _ _ B⟩
    show bX1_headOf_34 _ _ _ = _
    unfold bX1_headOf_34
    rw [if_pos (by decide)]; rfl
  | succ d ih =>
    intro f w B h1 h2 h3 hf
    obtain ⟨g, rfl, hg⟩ := pu_fu hf
    show ∃ B' : zSt, bX1_headOf_34 _ _ _ = _ ∧ _
    unfold bX1_headOf_34
    by_cases hw : w ≤ 1
    · rw [if_pos (show nI w ≤ (1 : Int32) from nI_le hw (by decide)), pu_hf_1 _ _ hw]
      exact ⟨B, rfl, pu_fr.refl _ _ _ _ B⟩
    · obtain ⟨B1, a1, a2, a3⟩ := pu_jn1 h3 h1 (gL B 2) (w / 2) 1000 0 B (by omega) (by omega) rfl
      have a1' : fX1_joinNeighbours B (nI w) = some B1 := a1
      have e1 : (nI w + (1 : Int32)) / (2 : Int32) = nI ((w + 1) / 2) := by rw [nI_1]; exact pu_d2 (by omega)
      rw [if_neg (show ¬ nI w ≤ (1 : Int32) from nI_ge (a := 1) (by omega) (by omega)), a1', pu_b1, e1]
      have h2' : (w + 1) / 2 ≤ 2 ^ d := by rw [Nat.pow_succ] at h2; omega
      obtain ⟨B2, b1, b2⟩ := ih g ((w + 1) / 2) B1 (by omega) h2' (by omega) (by omega)
      refine ⟨B2, ?_, a3.trans b2⟩
      rw [b1, a2]
      show _ = some (pu_hf (d + 1) w (gL B 2), B2)
      rw [show pu_hf (d + 1) w (gL B 2) = pu_hf d ((w + 1) / 2) (pu_lv (gL B 2) w) from if_neg hw]
theorem pu_h28 : ∀ (d f w : Nat) (M : zSt), 1 ≤ w → w ≤ 2 ^ d → w ≤ 160 → d < f → ∃ M' : zSt, lX7_headOf_28 f M (nI w) = some (pu_hf d w (gL M 34), M') ∧ pu_fr [] [] [34] [33] M M' := by
  intro d
  induction d with
  | zero =>
    intro f w M h1 h2 h3 hf
    obtain ⟨g, rfl, -⟩ := pu_fu hf
    have hw : w = 1 := by simp at h2; omega
    subst hw
    refine ⟨M, ?_, pu_fr.refl _ _ _ _ M⟩
    show bX7_headOf_28 _ _ _ = _
    unfold bX7_headOf_28
    rw [if_pos (by decide)]; rfl
  | succ d ih =>
    intro f w M h1 h2 h3 hf
    obtain ⟨g, rfl, hg⟩ := pu_fu hf
    show ∃ M' : zSt, bX7_headOf_28 _ _ _ = _ ∧ _
    unfold bX7_headOf_28
    by_cases hw : w ≤ 1
    · rw [if_pos (show nI w ≤ (1 : Int32) from nI_le hw (by decide)), pu_hf_1 _ _ hw]
      exact ⟨M, rfl, pu_fr.refl _ _ _ _ M⟩
    · obtain ⟨M1, a1, a2, a3⟩ := pu_jn7 (lX7_headOf_28 g) h3 h1 (gL M 34) (w / 2) 1000 0 M (by omega) (by omega) rfl
      have a1' : lX7_headOf_36 (lX7_headOf_28 g) 1000 M (nI w) 0 = lX7_headOf_28 g M1 (nI ((w + 1) / 2)) := a1
      rw [if_neg (show ¬ nI w ≤ (1 : Int32) from nI_ge (a := 1) (by omega) (by omega)), a1']
      have h2' : (w + 1) / 2 ≤ 2 ^ d := by rw [Nat.pow_succ] at h2; omega
      obtain ⟨M2, b1, b2⟩ := ih g ((w + 1) / 2) M1 (by omega) h2' (by omega) (by omega)
      refine ⟨M2, ?_, a3.trans b2⟩
      rw [b1, a2]
      show _ = some (pu_hf (d + 1) w (gL M 34), M2)
      rw [show pu_hf (d + 1) w (gL M 34) = pu_hf d ((w + 1) / 2) (pu_lv (gL M 34) w) from if_neg hw]
/-- the head of n leaves from s on -/
noncomputable def pu_head (lf : Nat → Int64) (s n : Nat) : Int64 := pu_hf 8 n (fun t => lf (s + t))
theorem pu_h8 (B0 : zSt) {s n : Nat} (h1 : 1 ≤ n) (hn : s + n ≤ 160) : ∀ (d f i : Nat) (B : zSt), i + d = n → d < f → (∀ t, t < i → gL B 2 t = pu_leaf (gA B0 0) (gA B0 1) (s + t)) → pu_fr [] [] [2] [] B0 B → ∃ B' : zSt, lX1_headOf_8 f B (nI s) (nI n) (nI i) = some (pu_head (pu_leaf (gA B0 0) (gA B0 1)) s n, B') ∧ pu_fr [] [] [2] [] B0 B' := by
  intro d
  induction d with
  | zero =>
    intro f i B hi hf hl fr
    obtain ⟨g, rfl, -⟩ := pu_fu hf
    have h0 : i = n := by omega
    subst h0
    show ∃ B' : zSt, bX1_headOf_8 _ _ _ _ _ = _ ∧ _
    unfold bX1_headOf_8
    rw [if_pos (nI_le (Nat.le_refl _) (by omega))]
    obtain ⟨B', a1, a2⟩ := pu_h34 8 1000 i B h1 (by omega) (by omega) (by decide)
    refine ⟨B', ?_, fr.trans a2⟩
    rw [a1]
    unfold pu_head
    rw [pu_hf_c 8 i (gL B 2) _ h1 hl]
  | succ d ih =>
    intro f i B hi hf hl fr
    obtain ⟨g, rfl, hg⟩ := pu_fu hf
    show ∃ B' : zSt, bX1_headOf_8 _ _ _ _ _ = _ ∧ _
    unfold bX1_headOf_8
    rw [if_neg (nI_ge (by omega) (by omega)), nI_add, pu_leaf1 B (show s + i < 160 by omega), pu_b1, pu_zn (by omega) (by decide), pu_c (by omega), nI_1]
    refine ih g (i + 1) _ (by omega) (by omega) (fun t ht => ?_) (fr.sL (by decide) _ _)
    rw [zs_LL, if_pos rfl]
    by_cases h : t = i
    · rw [h, pk_uLs, fr.2.1 0 (by decide), fr.2.1 1 (by decide)]
    · rw [pk_uLn h]; exact hl t (by omega)
theorem pu_head1 (B : zSt) {s n : Nat} (h1 : 1 ≤ n) (hn : s + n ≤ 160) : ∃ B' : zSt, fX1_headOf B (nI s) (nI n) = some (pu_head (pu_leaf (gA B 0) (gA B 1)) s n, B') ∧ pu_fr [] [] [2] [] B B' := by
  unfold fX1_headOf
  rw [if_neg (nI_ne0 (by omega) (by omega))]
  exact pu_h8 B h1 hn n 1000 0 B (by omega) (by omega) (fun t ht => absurd ht (Nat.not_lt_zero _)) (pu_fr.refl _ _ _ _ B)
theorem pu_h2 (M0 : zSt) {s n : Nat} (h1 : 1 ≤ n) (hn : s + n ≤ 160) : ∀ (d f i : Nat) (M : zSt), i + d = n → d < f → (∀ t, t < i → gL M 34 t = pu_leaf (gA M0 2) (gA M0 3) (s + t)) → pu_fr [] [] [34] [33] M0 M → ∃ M' : zSt, lX7_headOf_2 f M (nI s) (nI n) (nI i) = some (pu_head (pu_leaf (gA M0 2) (gA M0 3)) s n, M') ∧ pu_fr [] [] [34] [33] M0 M' := by
  intro d
  induction d with
  | zero =>
    intro f i M hi hf hl fr
    obtain ⟨g, rfl, -⟩ := pu_fu hf
    have h0 : i = n := by omega
    subst h0
    show ∃ M' : zSt, bX7_headOf_2 _ _ _ _ _ = _ ∧ _
    unfold bX7_headOf_2
    rw [if_pos (nI_le (Nat.le_refl _) (by omega))]
    obtain ⟨M', a1, a2⟩ := pu_h28 8 1000 i M h1 (by omega) (by omega) (by decide)
    refine ⟨M', ?_, fr.trans a2⟩
    rw [a1]
    unfold pu_head
    rw [pu_hf_c 8 i (gL M 34) _ h1 hl]
  | succ d ih =>
    intro f i M hi hf hl fr
    obtain ⟨g, rfl, hg⟩ := pu_fu hf
    show ∃ M' : zSt, bX7_headOf_2 _ _ _ _ _ = _ ∧ _
    unfold bX7_headOf_2
    obtain ⟨M1, a1, a2⟩ := pu_leaf7 M (show s + i < 160 by omega)
    rw [if_neg (nI_ge (by omega) (by omega)), nI_add, a1, pu_b2, pu_zn (by omega) (by decide), pu_c (by omega), nI_1]
    refine ih g (i + 1) _ (by omega) (by omega) (fun t ht => ?_) ((fr.trans (a2.mono (by decide) (by decide) (by decide) (by decide))).sL (by decide) _ _)
    rw [zs_LL, if_pos rfl]
    by_cases h : t = i
    · rw [h, pk_uLs, fr.2.1 2 (by decide), fr.2.1 3 (by decide)]
    · rw [pk_uLn h, a2.2.2.1 34 (by decide)]; exact hl t (by omega)
theorem pu_head7 (M : zSt) {s n : Nat} (h1 : 1 ≤ n) (hn : s + n ≤ 160) : ∃ M' : zSt, fX7_headOf M (nI s) (nI n) = some (pu_head (pu_leaf (gA M 2) (gA M 3)) s n, M') ∧ pu_fr [] [] [34] [33] M M' :=
  pu_h2 M h1 hn n 1000 0 M (by omega) (by omega) (fun t ht => absurd ht (Nat.not_lt_zero _)) (pu_fr.refl _ _ _ _ M)
/-- the greatest power of two below n, from m on -/
def pu_spl (n : Nat) : Nat → Nat → Nat
  | 0, m => m
  | d + 1, m => if n ≤ 2 * m then m else pu_spl n d (2 * m)
def pu_sp (n : Nat) : Nat := pu_spl n 31 1
theorem pu_spl_p (n : Nat) : ∀ (d a : Nat), 2 ^ a < n → n ≤ 2 ^ (a + d + 1) → ∃ k, pu_spl n d (2 ^ a) = 2 ^ k ∧ 2 ^ k < n ∧ n ≤ 2 ^ (k + 1) := by
  intro d
  induction d with
  | zero => intro a h1 h2; exact ⟨a, rfl, h1, h2⟩
  | succ d ih =>
    intro a h1 h2
    unfold pu_spl
    by_cases h : n ≤ 2 * 2 ^ a
    · rw [if_pos h]; exact ⟨a, rfl, h1, by rw [Nat.pow_succ]; omega⟩
    · rw [if_neg h]
      have e : 2 * 2 ^ a = 2 ^ (a + 1) := by rw [Nat.pow_succ, Nat.mul_comm]
      rw [e]
      exact ih (a + 1) (by rw [← e]; omega) (by rw [show a + 1 + d + 1 = a + (d + 1) + 1 by omega]; exact h2)
theorem pu_sp_p {n : Nat} (h2 : 2 ≤ n) (hn : n ≤ 2 ^ 32) : ∃ k, pu_sp n = 2 ^ k ∧ 2 ^ k < n ∧ n ≤ 2 ^ (k + 1) := pu_spl_p n 31 0 (by simp; omega) hn
theorem pu_split_f {n : Nat} (hn : n < 2 ^ 31) : ∀ (d a f : Nat), 2 ^ a < n → n ≤ 2 ^ (a + d + 1) → d < f → lX5_split_2 f (nI n) (nI (2 ^ a)) = some (nI (pu_spl n d (2 ^ a))) := by
  intro d
  induction d with
  | zero =>
    intro a f h1 h2 hf
    obtain ⟨g, rfl, -⟩ := pu_fu hf
    show bX5_split_2 _ _ _ = _
    unfold bX5_split_2
    rw [Nat.add_zero, Nat.pow_succ] at h2
    rw [pk_sub (by omega), if_pos (nI_le (by omega) (by omega))]; rfl
  | succ d ih =>
    intro a f h1 h2 hf
    obtain ⟨g, rfl, hg⟩ := pu_fu hf
    show bX5_split_2 _ _ _ = _
    unfold bX5_split_2 pu_spl
    rw [pk_sub (by omega)]
    by_cases h : n ≤ 2 * 2 ^ a
    · rw [if_pos (nI_le (by omega) (by omega)), if_pos h]
    · have e : 2 * 2 ^ a = 2 ^ (a + 1) := by rw [Nat.pow_succ, Nat.mul_comm]
      have e2 : nI (2 ^ a) * (2 : Int32) = nI (2 ^ (a + 1)) := by rw [← e, Nat.mul_comm]; exact pk_mul _ _
      rw [if_neg (nI_ge (by omega) (by omega)), if_neg h, e, e2]
      exact ih (a + 1) g (by rw [← e]; omega) (by rw [show a + 1 + d + 1 = a + (d + 1) + 1 by omega]; exact h2) (by omega)
theorem pu_split {n : Nat} (h2 : 2 ≤ n) (hn : n < 2 ^ 31) : fX5_split (nI n) = some (nI (pu_sp n)) := by
  have h := pu_split_f hn 31 0 1000 (by simp; omega) (by omega) (by decide)
  exact h
theorem pu_part_f : ∀ (f : Nat) (x y : Int32), lX7_partOf_2 f x y = lX5_split_2 f x y := by
  intro f
  induction f with
  | zero => intro x y; rfl
  | succ f ih =>
    intro x y
    show bX7_partOf_2 _ _ _ = bX5_split_2 _ _ _
    unfold bX7_partOf_2 bX5_split_2
    rw [ih]
theorem pu_part {n : Nat} (h2 : 2 ≤ n) (hn : n < 2 ^ 31) : fX7_partOf (nI n) = some (nI (pu_sp n)) := by
  unfold fX7_partOf
  rw [pu_part_f]; exact pu_split h2 hn
