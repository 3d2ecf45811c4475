/-! Pure: the audit's RESULT, a step of the audit, its loop, the call. -/
theorem au_tr47 (B A T : zSt) {k : Nat} (hk : k < 160) {F : Nat → Int32} (hB : gA B 1 = F) {b : Int32} (hb : b = 0 ∨ b = 1) (h4 : fX0_isZeroFrom B (nI k) 4 = some b) : ∀ (d f c : Nat), c + d = 4 → d < f → ∃ (r : Int32) (A' : zSt), lX0_takesResult_47 f B A T (nI k) (nI c) = some (r, A', T) ∧ (r = 0 ∨ r = 1) ∧ (r = 1 ↔ b = 1 ∧ ∀ t, c ≤ t → t < 4 → F (6 * k + t) = gA T 14 t) ∧ (r = 1 → A' = sI A 1 4) := by
  intro d
  induction d with
  | zero =>
    intro f c hc hf
    obtain ⟨g, rfl, -⟩ := pu_fu hf
    have h0 : c = 4 := by omega
    subst h0
    refine ⟨b, sI A 1 4, ?_, hb, ⟨fun z => ⟨z, fun t h1 h2 => absurd h2 (by omega)⟩, fun z => z.1⟩, fun _ => rfl⟩
    show bX0_takesResult_47 _ B A T _ _ = _
    unfold bX0_takesResult_47
    rw [if_pos (show (4 : Int32) ≤ nI 4 by decide), h4, pu_b1, au_bl hb]
  | succ d ih =>
    intro f c hc hf
    obtain ⟨g, rfl, hg⟩ := pu_fu hf
    have hc4 : c < 4 := by omega
    show ∃ (r : Int32) (A' : zSt), bX0_takesResult_47 _ B A T _ _ = _ ∧ _
    unfold bX0_takesResult_47
    rw [if_neg (show ¬ (4 : Int32) ≤ nI c from nI_ge hc4 (by decide)), au_n B hk hB c (nI c) (by omega) rfl, pu_b1, pu_zn hc4 (by decide), pu_c (show c < 2 ^ 31 by omega), nI_1]
    by_cases hq : F (6 * k + c) = gA T 14 c
    · rw [if_pos hq]
      obtain ⟨r, A', a1, a2, a3, a4⟩ := ih g (c + 1) (by omega) (by omega)
      refine ⟨r, A', a1, a2, ?_, a4⟩
      rw [a3]
      constructor
      · intro ⟨q1, q2⟩
        refine ⟨q1, fun t h3 h5 => ?_⟩
        by_cases ht : t = c
        · rw [ht]; exact hq
        · exact q2 t (by omega) h5
      · intro ⟨q1, q2⟩
        exact ⟨q1, fun t h3 h5 => q2 t (by omega) h5⟩
    · rw [if_neg hq]
      exact ⟨0, A, rfl, Or.inl rfl, ⟨fun z => absurd z au_01, fun z => absurd (z.2 c (Nat.le_refl _) hc4) hq⟩, fun z => absurd z au_01⟩
theorem au_rr76 (k65 : zSt → Int32 → Int32 → Option (Int32 × zSt)) (M : zSt) {k e c : Nat} (hk : k < 160) (he : e ≤ 10) (h29 : gI M 29 = nI e) (hc : c < 4) (hb : ∀ p, p < e → pu_el (gA M 31 p)) (hs : ∀ p, p < e → pu_el (gA M 32 p) ∧ pu_el (gA M 32 (10 + p)) ∧ pu_el (gA M 32 (20 + p))) : ∀ (d f i : Nat), i + d = e → d < f → lX7_rightResult_76 k65 f M (nI k) (nI c) (nI (pu_vc (pu_val3 (gA M 31) (gA M 32)) c i)) (nI i) = (if gA M 3 (6 * k + c) = nI (pu_vc (pu_val3 (gA M 31) (gA M 32)) c e) then k65 M (nI k) (nI (c + 1)) else some (0, M)) := by
  intro d
  induction d with
  | zero =>
    intro f i hi hf
    obtain ⟨g, rfl, -⟩ := pu_fu hf
    have h0 : i = e := by omega
    subst h0
    show bX7_rightResult_76 _ _ M _ _ _ _ = _
    unfold bX7_rightResult_76
    rw [h29, if_pos (nI_le (Nat.le_refl _) (by omega)), pu_i7, pu_zn (show 6 * k + c < 960 by omega) (by decide), pu_c (show 6 * k + c < 2 ^ 31 by omega), nI_1]
  | succ d ih =>
    intro f i hi hf
    obtain ⟨g, rfl, hg⟩ := pu_fu hf
    have hie : i < e := by omega
    obtain ⟨s0, s1, s2⟩ := hs i hie
    show bX7_rightResult_76 _ _ M _ _ _ _ = _
    unfold bX7_rightResult_76
    have hv : fX7_valueOf (gA M 31 i) (gA M 32 i) (gA M 32 (10 + i)) (gA M 32 (20 + i)) = some (pu_val3 (gA M 31) (gA M 32) i) := pu_valof (hb i hie) s0 s1 s2
    rw [h29, if_neg (nI_ge hie (by omega)), pu_10, pu_20, pu_zn (show i < 10 by omega) (by decide), pu_zn (show i < 30 by omega) (by decide), pu_zn (show 10 + i < 30 by omega) (by decide), pu_zn (show 20 + i < 30 by omega) (by decide), pu_c (show i < 2 ^ 31 by omega), pu_c (show 10 + i < 2 ^ 31 by omega), pu_c (show 20 + i < 2 ^ 31 by omega), hv, pu_b1]
    obtain ⟨r, c1, c2⟩ := pu_choice (pu_val3 (gA M 31) (gA M 32) i)
    rw [c1, pu_b1]
    unfold bX7_rightResult_138
    have hih := ih g (i + 1) (by omega) (by omega)
    rw [pu_vc_s] at hih
    have hiff : r = nI c ↔ pu_val3 (gA M 31) (gA M 32) i = pu_v4 c := by
      rcases c2 with ⟨e1, e2⟩ | ⟨c', hc', e1, e2⟩
      · rw [e1]
        refine ⟨fun z => ?_, fun z => absurd z (e2 c hc)⟩
        have h1 : (-1 : Int32) < 0 := by decide
        rw [z] at h1
        exact absurd h1 (nI_pos (by omega))
      · rw [e1, e2]
        refine ⟨fun z => by rw [(nI_eq (by omega) (by omega)).mp z], fun z => ?_⟩
        by_cases hcc : c' = c
        · rw [hcc]
        · exact absurd z (pu_v4_ne c hc c' hc' hcc)
    by_cases hr : r = nI c
    · rw [if_pos hr, nI_1, nI_1]
      rw [if_pos (hiff.mp hr)] at hih
      exact hih
    · rw [if_neg hr, nI_1]
      rw [if_neg (fun z => hr (hiff.mpr z))] at hih
      exact hih
theorem au_rr65 (M : zSt) {k e : Nat} (hk : k < 160) (he : e ≤ 10) (h29 : gI M 29 = nI e) (hb : ∀ p, p < e → pu_el (gA M 31 p)) (hs : ∀ p, p < e → pu_el (gA M 32 p) ∧ pu_el (gA M 32 (10 + p)) ∧ pu_el (gA M 32 (20 + p))) : ∀ (d f c : Nat), c + d = 4 → d < f → ∃ (r : Int32) (M' : zSt), lX7_rightResult_65 f M (nI k) (nI c) = some (r, M') ∧ (r = 0 ∨ r = 1) ∧ (r = 1 ↔ ∀ t, c ≤ t → t < 4 → gA M 3 (6 * k + t) = nI (pu_vc (pu_val3 (gA M 31) (gA M 32)) t e)) ∧ (r = 1 → M' = sI M 26 5) ∧ aF M M' := by
  intro d
  induction d with
  | zero =>
    intro f c hc hf
    obtain ⟨g, rfl, -⟩ := pu_fu hf
    have h0 : c = 4 := by omega
    subst h0
    refine ⟨1, sI M 26 5, ?_, Or.inr rfl, ⟨fun _ t h1 h2 => absurd h2 (by omega), fun _ => rfl⟩, fun _ => rfl, (pu_fr.refl _ _ _ _ M).sI (by decide) _⟩
    show bX7_rightResult_65 _ M _ _ = _
    unfold bX7_rightResult_65
    rw [if_pos (show (4 : Int32) ≤ nI 4 by decide)]
  | succ d ih =>
    intro f c hc hf
    obtain ⟨g, rfl, hg⟩ := pu_fu hf
    have hc4 : c < 4 := by omega
    show ∃ (r : Int32) (M' : zSt), bX7_rightResult_65 _ M _ _ = _ ∧ _
    unfold bX7_rightResult_65
    have h1 : lX7_rightResult_76 (lX7_rightResult_65 g) 1000 M (nI k) (nI c) 0 0 = _ := au_rr76 (lX7_rightResult_65 g) M hk he h29 hc4 hb hs e 1000 0 (by omega) (by omega)
    rw [if_neg (show ¬ (4 : Int32) ≤ nI c from nI_ge hc4 (by decide)), h1]
    by_cases hq : gA M 3 (6 * k + c) = nI (pu_vc (pu_val3 (gA M 31) (gA M 32)) c e)
    · rw [if_pos hq]
      obtain ⟨r, M', a1, a2, a3, a4, a5⟩ := ih g (c + 1) (by omega) (by omega)
      refine ⟨r, M', a1, a2, ?_, a4, a5⟩
      rw [a3]
      constructor
      · intro q2 t h3 h5
        by_cases ht : t = c
        · rw [ht]; exact hq
        · exact q2 t (by omega) h5
      · intro q2 t h3 h5
        exact q2 t (by omega) h5
    · rw [if_neg hq]
      exact ⟨0, M, rfl, Or.inl rfl, ⟨fun z => absurd z au_01, fun z => absurd (z c (Nat.le_refl _) hc4) hq⟩, fun z => absurd z au_01, aF.refl M⟩
theorem au_res38 {A T M : zSt} {e : Nat} (B : zSt) {k : Nat} (hk : k < 160) (hB : gA B 1 = gA M 3) (h : aR3 A T M e) (hs : ∀ p, p < e → gA T 12 p = pu_s3 (gA M 32) p ∧ pu_el (gA M 32 p) ∧ pu_el (gA M 32 (10 + p)) ∧ pu_el (gA M 32 (20 + p))) : aOut M (bX0_takesResult_38 B A T (nI k)) (bX7_rightResult_39 M (nI k) 1) := by
  obtain ⟨h26, hR, hA2, hA3, hK, hD, hE, hS⟩ := h
  obtain ⟨he, h6, h29, hX⟩ := hE
  unfold bX0_takesResult_38 bX7_rightResult_39
  obtain ⟨b, b0, b1, b2⟩ := au_br B M hk hB 4 4 (by decide) rfl
  obtain ⟨P1, p1, p14, pf⟩ := pu_count T he h6 (fun p hp => by rw [(hX p hp).2.1]; exact (hX p hp).2.2.2) (fun p hp => by rw [(hs p hp).1]; exact pu_tm_el _ _)
  have hval : ∀ t, pu_vc (pu_val (gA T 8) (gA T 12)) t e = pu_vc (pu_val3 (gA M 31) (gA M 32)) t e := fun t => pu_vc_c e (fun p hp => by
    unfold pu_val pu_val3
    rw [(hX p hp).2.1, (hs p hp).1])
  obtain ⟨r, A', a1, a2, a3, a4⟩ := au_tr47 B A P1 hk hB b0 b1 4 1000 0 rfl (by decide)
  have a1z : lX0_takesResult_47 1000 B A P1 (nI k) 0 = some (r, A', P1) := a1
  obtain ⟨r', M', c1, c2, c3, c4, c5⟩ := au_rr65 M hk he h29 (fun p hp => (hX p hp).2.2.2) (fun p hp => (hs p hp).2) 4 1000 0 rfl (by decide)
  have c1z : lX7_rightResult_65 1000 M (nI k) 0 = some (r', M') := c1
  rw [p1, pu_b1, a1z, if_pos h26, if_neg pu_hn10, b2, pu_b1, c1z]
  by_cases hb : b = 0
  · rw [if_pos hb]
    have hr : r = 0 := a2.resolve_right (fun z => absurd (hb.symm.trans (a3.mp z).1) au_01)
    rw [hr]
    exact aOut.no rfl rfl (aF.refl M)
  rw [if_neg hb]
  have hb1 : b = 1 := b0.resolve_left hb
  have hiff : r = 1 ↔ r' = 1 := by
    rw [a3, c3]
    constructor
    · intro ⟨_, q⟩ t h1 h2
      rw [q t h1 h2, p14 t h2, hval]
    · intro q
      refine ⟨hb1, fun t h1 h2 => ?_⟩
      rw [q t h1 h2, p14 t h2, hval]
  by_cases hr : r = 1
  · have hr' := hiff.mp hr
    refine ⟨1, A', P1, M', by rw [hr], by rw [hr'], Or.inr rfl, c5, fun _ => Or.inr (Or.inr (Or.inr (Or.inr (Or.inr ⟨?_, ?_, ?_⟩))))⟩
    · rw [c4 hr', zs_II, if_pos rfl]
    · rw [a4 hr, zs_II, if_pos rfl]
    · rw [a4 hr, zs_II, if_neg (by decide)]; exact hA2
  · have hr0 : r = 0 := a2.resolve_right hr
    have hr0' : r' = 0 := c2.resolve_right (fun z => hr (hiff.mpr z))
    rw [hr0, hr0']
    exact aOut.no rfl rfl c5
theorem au_result3 {A T M : zSt} {e : Nat} (B : zSt) {k : Nat} (hk : k < 160) (hB : gA B 1 = gA M 3) (h : aR3 A T M e) : aOut M (fX0_takesResult B A T (nI k)) (fX7_rightResult M (nI k)) := by
  have hh := h
  obtain ⟨h26, hR, hA2, hA3, hK, hD, hE, hS⟩ := h
  obtain ⟨he, h6, h29, hX⟩ := hE
  have hc : ∀ X : Option (Int32 × zSt × zSt), (if gI A 1 = 2 then X else (if gI A 1 = 3 then X else some (0, A, T))) = X := fun X => by
    rcases hR with ⟨q, -⟩ | ⟨q, -⟩
    · rw [if_pos q]
    · rw [q, if_neg (by decide), if_pos rfl]
  unfold fX0_takesResult fX7_rightResult
  rw [hc, h29]
  unfold bX0_takesResult_16 bX7_rightResult_34 bX7_rightResult_38
  rw [h6]
  rcases Nat.eq_zero_or_pos e with he0 | he0
  · subst he0
    rw [if_pos (show nI 0 = 0 from rfl), if_pos (show nI 0 = 0 from rfl)]
    exact au_res38 B hk hB hh (fun p hp => absurd hp (Nat.not_lt_zero _))
  have hz : ¬ nI e = 0 := nI_ne0 he0 (by omega)
  rw [if_neg hz, if_neg hz]
  have m0 : bX7_rightResult_39 M (nI k) 0 = some (0, M) := by
    unfold bX7_rightResult_39
    rw [if_pos h26, if_pos rfl]
  unfold fX4_allOpened
  rw [m0, hD 0 (by decide), hD 1 (by decide), hD 2 (by decide)]
  by_cases o0 : gA M 25 0 = 0
  · rw [if_pos o0, if_pos o0, pu_b1, if_pos rfl]; exact aOut.no rfl rfl (aF.refl M)
  rw [if_neg o0, if_neg o0]
  by_cases o1 : gA M 25 1 = 0
  · rw [if_pos o1, if_pos o1, pu_b1, if_pos rfl]; exact aOut.no rfl rfl (aF.refl M)
  rw [if_neg o1, if_neg o1]
  by_cases o2 : gA M 25 2 = 0
  · rw [if_pos o2, if_pos o2, pu_b1, if_pos rfl]; exact aOut.no rfl rfl (aF.refl M)
  rw [if_neg o2, if_neg o2, pu_b1, if_neg pu_hn10]
  refine au_res38 B hk hB hh (fun p hp => ⟨?_, ?_, ?_, ?_⟩)
  · rw [(hS p hp).1]
    unfold pu_s3 aO
    rw [if_pos (Or.inl o0), if_pos (Or.inl o1), if_pos (Or.inl o2), pu_tm_e, pu_tm_e, pu_c (by have := Nat.mod_lt ((gA M 32 p).toNatClampNeg * (gA M 32 (10 + p)).toNatClampNeg) (show 0 < 4079 by decide); omega), pu_mm, show 10 * 0 + p = p by omega, show 10 * 1 + p = 10 + p by omega, show 10 * 2 + p = 20 + p by omega]
  · have := (hS p hp).2 0 (by decide) (Or.inl o0)
    rw [show 10 * 0 + p = p by omega] at this; exact this
  · exact (hS p hp).2 1 (by decide) (Or.inl o1)
  · exact (hS p hp).2 2 (by decide) (Or.inl o2)
theorem au_result4 {A T M : zSt} {e tr w : Nat} (B : zSt) {k : Nat} (h : aR4 A T M e tr w) : aOut M (fX0_takesResult B A T (nI k)) (fX7_rightResult M (nI k)) := by
  obtain ⟨hw0, hwe, htr, h26, hA1, hA2, hA3, h27, hA4, h28, h0, hK, hD, hE, hS⟩ := h
  obtain ⟨he, h6, h29, hX⟩ := hE
  refine aOut.no (A := A) (T := T) ?_ (au_noR M (by rw [h26]; decide)) (aF.refl M)
  unfold fX0_takesResult
  rw [hA1, if_neg (by decide), if_pos rfl]
  unfold bX0_takesResult_16
  rw [h6, if_neg (nI_ne0 (by omega) (by omega))]
  have ho : fX4_allOpened T = some 0 := by
    unfold fX4_allOpened
    have ht : gA T 13 tr = 0 := by rw [hD tr htr]; exact h0
    have h3 : tr = 0 ∨ tr = 1 ∨ tr = 2 := by omega
    rcases h3 with rfl | rfl | rfl
    · rw [if_pos ht]
    · rw [if_pos ht, ite_self]
    · rw [if_pos ht, ite_self, ite_self]
  rw [ho, pu_b1, if_pos rfl]
theorem aOut.w {M : zSt} {X : Option (Int32 × zSt × zSt)} {Y : Option (Int32 × zSt)} (h : aOut M X Y) : aOut M X (zb2 Y (fun r m => zbl r (some (r, m)))) := by
  obtain ⟨r, A', T', M', a1, a2, a3, a4⟩ := h
  exact ⟨r, A', T', M', a1, by rw [a2, pu_b2]; exact au_bl a3 _, a3, a4⟩
theorem aOut.w3 {M : zSt} {X : Option (Int32 × zSt × zSt)} {Y : Option (Int32 × zSt)} (h : aOut M X Y) : aOut M (zb3 X (fun r a t => zbl r (some (r, a, t)))) (zb2 Y (fun r m => zbl r (some (r, m)))) := by
  obtain ⟨r, A', T', M', a1, a2, a3, a4⟩ := h
  exact ⟨r, A', T', M', by rw [a1, pu_b3]; exact au_bl a3 _, by rw [a2, pu_b2]; exact au_bl a3 _, a3, a4⟩
theorem au_t0 (B A T : zSt) {k : Nat} (hk : k < 160) (hK : gA B 0 k = 0) (h2 : gI A 2 = 0) : fX0_takes B A T (nI k) = zb3 (fX0_takesBegun B A T (nI k)) (fun r a t => zbl r (some (r, a, t))) := by
  unfold fX0_takes fX1_kind
  rw [pu_zn hk (by decide), pu_b1, pu_c (show k < 2 ^ 31 by omega), hK, if_pos (show gI A 2 ≤ 0 by rw [h2]; decide), if_pos (show (0 : Int32) = 0 from rfl)]
theorem au_m0 (M : zSt) {k : Nat} (hk : k < 160) (hK : gA M 2 k = 0) : fX7_right M (nI k) = zb2 (fX7_rightBegun M (nI k)) (fun r m => zbl r (some (r, m))) := by
  unfold fX7_right
  rw [pu_zn hk (by decide), pu_c (show k < 2 ^ 31 by omega), hK, if_pos (show (0 : Int32) = 0 from rfl)]
theorem au_t1 (B A T : zSt) {k : Nat} (hk : k < 160) (hK : gA B 0 k = 1) (h2 : gI A 2 = 0) : fX0_takes B A T (nI k) = zb2 (fX0_takesVoter B A T (nI k)) (fun r t => zbl r (some (r, A, t))) := by
  unfold fX0_takes fX1_kind
  rw [pu_zn hk (by decide), pu_b1, pu_c (show k < 2 ^ 31 by omega), hK, if_pos (show gI A 2 ≤ 0 by rw [h2]; decide), if_neg (show ¬ (1 : Int32) = 0 by decide), if_pos (show (1 : Int32) = 1 from rfl)]
theorem au_m1 (M : zSt) {k : Nat} (hk : k < 160) (hK : gA M 2 k = 1) : fX7_right M (nI k) = zb2 (fX7_rightVoter M (nI k)) (fun r m => zbl r (some (r, m))) := by
  unfold fX7_right
  rw [pu_zn hk (by decide), pu_c (show k < 2 ^ 31 by omega), hK, if_neg (show ¬ (1 : Int32) = 0 by decide), if_pos (show (1 : Int32) = 1 from rfl)]
theorem au_t2 (B A T : zSt) {k : Nat} (hk : k < 160) (hK : gA B 0 k = 2) (h2 : gI A 2 = 0) : fX0_takes B A T (nI k) = zb2 (fX0_takesBallot B A T (nI k)) (fun r t => zbl r (some (r, A, t))) := by
  unfold fX0_takes fX1_kind
  rw [pu_zn hk (by decide), pu_b1, pu_c (show k < 2 ^ 31 by omega), hK, if_pos (show gI A 2 ≤ 0 by rw [h2]; decide), if_neg (show ¬ (2 : Int32) = 0 by decide), if_neg (show ¬ (2 : Int32) = 1 by decide), if_pos (show (2 : Int32) = 2 from rfl)]
theorem au_m2 (M : zSt) {k : Nat} (hk : k < 160) (hK : gA M 2 k = 2) : fX7_right M (nI k) = zb2 (fX7_rightBallot M (nI k)) (fun r m => zbl r (some (r, m))) := by
  unfold fX7_right
  rw [pu_zn hk (by decide), pu_c (show k < 2 ^ 31 by omega), hK, if_neg (show ¬ (2 : Int32) = 0 by decide), if_neg (show ¬ (2 : Int32) = 1 by decide), if_pos (show (2 : Int32) = 2 from rfl)]
theorem au_t3 (B A T : zSt) {k : Nat} (hk : k < 160) (hK : gA B 0 k = 3) (h2 : gI A 2 = 0) : fX0_takes B A T (nI k) = zb3 (fX0_takesClosed B A T (nI k)) (fun r a t => zbl r (some (r, a, t))) := by
  unfold fX0_takes fX1_kind
  rw [pu_zn hk (by decide), pu_b1, pu_c (show k < 2 ^ 31 by omega), hK, if_pos (show gI A 2 ≤ 0 by rw [h2]; decide), if_neg (show ¬ (3 : Int32) = 0 by decide), if_neg (show ¬ (3 : Int32) = 1 by decide), if_neg (show ¬ (3 : Int32) = 2 by decide), if_pos (show (3 : Int32) = 3 from rfl)]
theorem au_m3 (M : zSt) {k : Nat} (hk : k < 160) (hK : gA M 2 k = 3) : fX7_right M (nI k) = zb2 (fX7_rightClosed M (nI k)) (fun r m => zbl r (some (r, m))) := by
  unfold fX7_right
  rw [pu_zn hk (by decide), pu_c (show k < 2 ^ 31 by omega), hK, if_neg (show ¬ (3 : Int32) = 0 by decide), if_neg (show ¬ (3 : Int32) = 1 by decide), if_neg (show ¬ (3 : Int32) = 2 by decide), if_pos (show (3 : Int32) = 3 from rfl)]
theorem au_t4 (B A T : zSt) {k : Nat} (hk : k < 160) (hK : gA B 0 k = 4) (h2 : gI A 2 = 0) : fX0_takes B A T (nI k) = zb3 (fX0_takesMixed B A T (nI k)) (fun r a t => zbl r (some (r, a, t))) := by
  unfold fX0_takes fX1_kind
  rw [pu_zn hk (by decide), pu_b1, pu_c (show k < 2 ^ 31 by omega), hK, if_pos (show gI A 2 ≤ 0 by rw [h2]; decide), if_neg (show ¬ (4 : Int32) = 0 by decide), if_neg (show ¬ (4 : Int32) = 1 by decide), if_neg (show ¬ (4 : Int32) = 2 by decide), if_neg (show ¬ (4 : Int32) = 3 by decide), if_pos (show (4 : Int32) = 4 from rfl)]
theorem au_m4 (M : zSt) {k : Nat} (hk : k < 160) (hK : gA M 2 k = 4) : fX7_right M (nI k) = zb2 (fX7_rightMixed M (nI k)) (fun r m => zbl r (some (r, m))) := by
  unfold fX7_right
  rw [pu_zn hk (by decide), pu_c (show k < 2 ^ 31 by omega), hK, if_neg (show ¬ (4 : Int32) = 0 by decide), if_neg (show ¬ (4 : Int32) = 1 by decide), if_neg (show ¬ (4 : Int32) = 2 by decide), if_neg (show ¬ (4 : Int32) = 3 by decide), if_pos (show (4 : Int32) = 4 from rfl)]
theorem au_t5 (B A T : zSt) {k : Nat} (hk : k < 160) (hK : gA B 0 k = 5) (h2 : gI A 2 = 0) : fX0_takes B A T (nI k) = some ((0 : Int32), A, T) := by
  unfold fX0_takes fX1_kind
  rw [pu_zn hk (by decide), pu_b1, pu_c (show k < 2 ^ 31 by omega), hK, if_pos (show gI A 2 ≤ 0 by rw [h2]; decide), if_neg (show ¬ (5 : Int32) = 0 by decide), if_neg (show ¬ (5 : Int32) = 1 by decide), if_neg (show ¬ (5 : Int32) = 2 by decide), if_neg (show ¬ (5 : Int32) = 3 by decide), if_neg (show ¬ (5 : Int32) = 4 by decide), if_pos (show (5 : Int32) = 5 from rfl)]
theorem au_m5 (M : zSt) {k : Nat} (hk : k < 160) (hK : gA M 2 k = 5) : fX7_right M (nI k) = zb2 (fX7_rightEntry M (nI k)) (fun r m => zbl r (some (r, m))) := by
  unfold fX7_right
  rw [pu_zn hk (by decide), pu_c (show k < 2 ^ 31 by omega), hK, if_neg (show ¬ (5 : Int32) = 0 by decide), if_neg (show ¬ (5 : Int32) = 1 by decide), if_neg (show ¬ (5 : Int32) = 2 by decide), if_neg (show ¬ (5 : Int32) = 3 by decide), if_neg (show ¬ (5 : Int32) = 4 by decide), if_pos (show (5 : Int32) = 5 from rfl)]
theorem au_t6 (B A T : zSt) {k : Nat} (hk : k < 160) (hK : gA B 0 k = 6) (h2 : gI A 2 = 0) : fX0_takes B A T (nI k) = zb3 (fX0_takesShare B A T (nI k)) (fun r a t => zbl r (some (r, a, t))) := by
  unfold fX0_takes fX1_kind
  rw [pu_zn hk (by decide), pu_b1, pu_c (show k < 2 ^ 31 by omega), hK, if_pos (show gI A 2 ≤ 0 by rw [h2]; decide), if_neg (show ¬ (6 : Int32) = 0 by decide), if_neg (show ¬ (6 : Int32) = 1 by decide), if_neg (show ¬ (6 : Int32) = 2 by decide), if_neg (show ¬ (6 : Int32) = 3 by decide), if_neg (show ¬ (6 : Int32) = 4 by decide), if_neg (show ¬ (6 : Int32) = 5 by decide), if_pos (show (6 : Int32) = 6 from rfl)]
theorem au_m6 (M : zSt) {k : Nat} (hk : k < 160) (hK : gA M 2 k = 6) : fX7_right M (nI k) = zb2 (fX7_rightShare M (nI k)) (fun r m => zbl r (some (r, m))) := by
  unfold fX7_right
  rw [pu_zn hk (by decide), pu_c (show k < 2 ^ 31 by omega), hK, if_neg (show ¬ (6 : Int32) = 0 by decide), if_neg (show ¬ (6 : Int32) = 1 by decide), if_neg (show ¬ (6 : Int32) = 2 by decide), if_neg (show ¬ (6 : Int32) = 3 by decide), if_neg (show ¬ (6 : Int32) = 4 by decide), if_neg (show ¬ (6 : Int32) = 5 by decide), if_pos (show (6 : Int32) = 6 from rfl)]
theorem au_t7 (B A T : zSt) {k : Nat} (hk : k < 160) (hK : gA B 0 k = 7) (h2 : gI A 2 = 0) : fX0_takes B A T (nI k) = zb3 (fX0_takesResult B A T (nI k)) (fun r a t => zbl r (some (r, a, t))) := by
  unfold fX0_takes fX1_kind
  rw [pu_zn hk (by decide), pu_b1, pu_c (show k < 2 ^ 31 by omega), hK, if_pos (show gI A 2 ≤ 0 by rw [h2]; decide), if_neg (show ¬ (7 : Int32) = 0 by decide), if_neg (show ¬ (7 : Int32) = 1 by decide), if_neg (show ¬ (7 : Int32) = 2 by decide), if_neg (show ¬ (7 : Int32) = 3 by decide), if_neg (show ¬ (7 : Int32) = 4 by decide), if_neg (show ¬ (7 : Int32) = 5 by decide), if_neg (show ¬ (7 : Int32) = 6 by decide), if_pos (show (7 : Int32) = 7 from rfl)]
theorem au_m7 (M : zSt) {k : Nat} (hk : k < 160) (hK : gA M 2 k = 7) : fX7_right M (nI k) = zb2 (fX7_rightResult M (nI k)) (fun r m => zbl r (some (r, m))) := by
  unfold fX7_right
  rw [pu_zn hk (by decide), pu_c (show k < 2 ^ 31 by omega), hK, if_neg (show ¬ (7 : Int32) = 0 by decide), if_neg (show ¬ (7 : Int32) = 1 by decide), if_neg (show ¬ (7 : Int32) = 2 by decide), if_neg (show ¬ (7 : Int32) = 3 by decide), if_neg (show ¬ (7 : Int32) = 4 by decide), if_neg (show ¬ (7 : Int32) = 5 by decide), if_neg (show ¬ (7 : Int32) = 6 by decide)]
theorem au_w5 (B A T : zSt) {k : Nat} (hk : k < 160) (hK : gA B 0 k = 5) (h2 : ¬ gI A 2 ≤ 0) : fX0_takes B A T (nI k) = zb2 (fX0_takesEntry B A T (nI k)) (fun r_21 uA_22 => if r_21 = (0 : Int32) then some ((0 : Int32), uA_22, T) else some ((1 : Int32), uA_22, T)) := by
  unfold fX0_takes fX1_kind
  rw [pu_zn hk (by decide), pu_b1, pu_c (show k < 2 ^ 31 by omega), hK, if_neg h2, if_pos (show (5 : Int32) = 5 from rfl)]
theorem au_wn (B A T : zSt) {k : Nat} (hk : k < 160) (hK : ¬ gA B 0 k = 5) (h2 : ¬ gI A 2 ≤ 0) : fX0_takes B A T (nI k) = some ((0 : Int32), A, T) := by
  unfold fX0_takes fX1_kind
  rw [pu_zn hk (by decide), pu_b1, pu_c (show k < 2 ^ 31 by omega), if_neg h2, if_neg hK]
/-- records that can't come, on both sides -/
theorem au_q0 {A T M : zSt} (B : zSt) {k : Nat} (hk : k < 160) (hB : gA B 1 = gA M 3) (m : ¬ gI M 26 = 0) (n : ¬ gI A 1 = 0) : aOut M (fX0_takesBegun B A T (nI k)) (fX7_rightBegun M (nI k)) := by
  obtain ⟨M', a1, a2⟩ := au_noB M hk m
  exact aOut.no (au_xB B A T hk hB n) a1 a2
theorem au_q1 {A T M : zSt} (B : zSt) {k : Nat} (hk : k < 160) (hB : gA B 1 = gA M 3) (m : ¬ gI M 26 = 1) (n : ¬ gI A 1 = 1) : aOut M (zb2 (fX0_takesVoter B A T (nI k)) (fun r t => zbl r (some (r, A, t)))) (fX7_rightVoter M (nI k)) := by
  rw [au_xV B A T hk hB n, pu_b2]
  exact aOut.no (au_bl (Or.inl rfl) _) (au_noV M hk m) (aF.refl M)
theorem au_q2 {A T M : zSt} (B : zSt) {k : Nat} (hk : k < 160) (hB : gA B 1 = gA M 3) (m : ¬ gI M 26 = 1) (n : ¬ gI A 1 = 1) : aOut M (zb2 (fX0_takesBallot B A T (nI k)) (fun r t => zbl r (some (r, A, t)))) (fX7_rightBallot M (nI k)) := by
  rw [au_xL B A T hk hB n, pu_b2]
  exact aOut.no (au_bl (Or.inl rfl) _) (au_noL M hk m) (aF.refl M)
theorem au_q3 {A T M : zSt} (B : zSt) {k : Nat} (m : ¬ gI M 26 = 1) (n : ¬ gI A 1 = 1) : aOut M (fX0_takesClosed B A T (nI k)) (fX7_rightClosed M (nI k)) :=
  aOut.no (au_xC B A T n) (au_noC M m) (aF.refl M)
theorem au_q4 {A T M : zSt} (B : zSt) {k : Nat} (hk : k < 160) (hB : gA B 1 = gA M 3) (m : ¬ gI M 26 = 3) (n : ¬ gI A 1 = 2) : aOut M (fX0_takesMixed B A T (nI k)) (fX7_rightMixed M (nI k)) :=
  aOut.no (au_xM B A T hk hB n) (au_noM M hk m) (aF.refl M)
theorem au_q5 {A T M : zSt} {k : Nat} (m : ¬ gI M 26 = 2) : aOut M (some ((0 : Int32), A, T)) (fX7_rightEntry M (nI k)) :=
  aOut.no rfl (au_noE M m) (aF.refl M)
theorem au_q6 {A T M : zSt} (B : zSt) {k : Nat} (hk : k < 160) (hB : gA B 1 = gA M 3) (m : ¬ gI M 26 = 3) (m' : ¬ gI M 26 = 4) (n : ¬ gI A 1 = 2) (n' : ¬ gI A 1 = 3) : aOut M (fX0_takesShare B A T (nI k)) (fX7_rightShare M (nI k)) :=
  aOut.no (au_xS B A T hk hB n n') (au_noS M hk m m') (aF.refl M)
theorem au_q7 {A T M : zSt} (B : zSt) {k : Nat} (m : ¬ gI M 26 = 3) (n : ¬ gI A 1 = 2) (n' : ¬ gI A 1 = 3) : aOut M (fX0_takesResult B A T (nI k)) (fX7_rightResult M (nI k)) :=
  aOut.no (au_xR B A T n n') (au_noR M m) (aF.refl M)
theorem au_step {A T M : zSt} (B : zSt) {k : Nat} (hk : k < 160) (hB0 : gA B 0 = gA M 2) (hB : gA B 1 = gA M 3) (hkd : ∃ q, q < 8 ∧ gA M 2 k = nI q) (h3 : gA M 2 k = 3 → k < 64) (h : AR A T M) : aOut M (fX0_takes B A T (nI k)) (fX7_right M (nI k)) := by
  obtain ⟨q, hq, hkq⟩ := hkd
  have hx : gA B 0 k = nI q := by rw [hB0]; exact hkq
  have hqq : q = 0 ∨ q = 1 ∨ q = 2 ∨ q = 3 ∨ q = 4 ∨ q = 5 ∨ q = 6 ∨ q = 7 := by omega
  rcases h with h | h | ⟨e, w, h⟩ | ⟨e, h⟩ | ⟨e, tr, w, h⟩ | h
  · have a26 : gI M 26 = 0 := h.1
    have m1 : ¬ gI M 26 = 1 := by rw [a26]; decide
    have m2 : ¬ gI M 26 = 2 := by rw [a26]; decide
    have m3 : ¬ gI M 26 = 3 := by rw [a26]; decide
    have m4 : ¬ gI M 26 = 4 := by rw [a26]; decide
    have a1 : gI A 1 = 0 := h.2.1
    have n1 : ¬ gI A 1 = 1 := by rw [a1]; decide
    have n2 : ¬ gI A 1 = 2 := by rw [a1]; decide
    have n3 : ¬ gI A 1 = 3 := by rw [a1]; decide
    have a2 : gI A 2 = 0 := h.2.2.1
    rcases hqq with rfl | rfl | rfl | rfl | rfl | rfl | rfl | rfl
    · rw [au_t0 B A T hk hx a2, au_m0 M hk hkq]; exact (au_begun B hk hB h).w3
    · rw [au_t1 B A T hk hx a2, au_m1 M hk hkq]; exact (au_q1 B hk hB m1 n1).w
    · rw [au_t2 B A T hk hx a2, au_m2 M hk hkq]; exact (au_q2 B hk hB m1 n1).w
    · rw [au_t3 B A T hk hx a2, au_m3 M hk hkq]; exact (au_q3 B m1 n1).w3
    · rw [au_t4 B A T hk hx a2, au_m4 M hk hkq]; exact (au_q4 B hk hB m3 n2).w3
    · rw [au_t5 B A T hk hx a2, au_m5 M hk hkq]; exact (au_q5 m2).w
    · rw [au_t6 B A T hk hx a2, au_m6 M hk hkq]; exact (au_q6 B hk hB m3 m4 n2 n3).w3
    · rw [au_t7 B A T hk hx a2, au_m7 M hk hkq]; exact (au_q7 B m3 n2 n3).w3
  · have a26 : gI M 26 = 1 := h.1
    have m0 : ¬ gI M 26 = 0 := by rw [a26]; decide
    have m2 : ¬ gI M 26 = 2 := by rw [a26]; decide
    have m3 : ¬ gI M 26 = 3 := by rw [a26]; decide
    have m4 : ¬ gI M 26 = 4 := by rw [a26]; decide
    have a1 : gI A 1 = 1 := h.2.1
    have n0 : ¬ gI A 1 = 0 := by rw [a1]; decide
    have n2 : ¬ gI A 1 = 2 := by rw [a1]; decide
    have n3 : ¬ gI A 1 = 3 := by rw [a1]; decide
    have a2 : gI A 2 = 0 := h.2.2.1
    rcases hqq with rfl | rfl | rfl | rfl | rfl | rfl | rfl | rfl
    · rw [au_t0 B A T hk hx a2, au_m0 M hk hkq]; exact (au_q0 B hk hB m0 n0).w3
    · rw [au_t1 B A T hk hx a2, au_m1 M hk hkq]; exact (au_voter B hk hB h).w
    · rw [au_t2 B A T hk hx a2, au_m2 M hk hkq]; exact (au_ballot B hk hB h).w
    · rw [au_t3 B A T hk hx a2, au_m3 M hk hkq]; exact (au_closed B (h3 hkq) hB h).w3
    · rw [au_t4 B A T hk hx a2, au_m4 M hk hkq]; exact (au_q4 B hk hB m3 n2).w3
    · rw [au_t5 B A T hk hx a2, au_m5 M hk hkq]; exact (au_q5 m2).w
    · rw [au_t6 B A T hk hx a2, au_m6 M hk hkq]; exact (au_q6 B hk hB m3 m4 n2 n3).w3
    · rw [au_t7 B A T hk hx a2, au_m7 M hk hkq]; exact (au_q7 B m3 n2 n3).w3
  · have a26 : gI M 26 = 2 := h.2.1
    have m0 : ¬ gI M 26 = 0 := by rw [a26]; decide
    have m1 : ¬ gI M 26 = 1 := by rw [a26]; decide
    have m3 : ¬ gI M 26 = 3 := by rw [a26]; decide
    have m4 : ¬ gI M 26 = 4 := by rw [a26]; decide
    have a2 : ¬ gI A 2 ≤ 0 := by rw [h.2.2.2.1]; exact nI_nle (by have := h.1; omega) (by have := h.2.2.2.2.2.2.2.2.2.1.1; omega)
    rcases hqq with rfl | rfl | rfl | rfl | rfl | rfl | rfl | rfl
    · rw [au_wn B A T hk (by rw [hx]; decide) a2, au_m0 M hk hkq]
      obtain ⟨M', z1, z2⟩ := au_noB M hk m0
      exact (aOut.no rfl z1 z2).w
    · rw [au_wn B A T hk (by rw [hx]; decide) a2, au_m1 M hk hkq]; exact (aOut.no rfl (au_noV M hk m1) (aF.refl M)).w
    · rw [au_wn B A T hk (by rw [hx]; decide) a2, au_m2 M hk hkq]; exact (aOut.no rfl (au_noL M hk m1) (aF.refl M)).w
    · rw [au_wn B A T hk (by rw [hx]; decide) a2, au_m3 M hk hkq]; exact (aOut.no rfl (au_noC M m1) (aF.refl M)).w
    · rw [au_wn B A T hk (by rw [hx]; decide) a2, au_m4 M hk hkq]; exact (aOut.no rfl (au_noM M hk m3) (aF.refl M)).w
    · rw [au_w5 B A T hk hx a2, au_m5 M hk hkq]; exact (au_entry B hk hB h).w
    · rw [au_wn B A T hk (by rw [hx]; decide) a2, au_m6 M hk hkq]; exact (aOut.no rfl (au_noS M hk m3 m4) (aF.refl M)).w
    · rw [au_wn B A T hk (by rw [hx]; decide) a2, au_m7 M hk hkq]; exact (aOut.no rfl (au_noR M m3) (aF.refl M)).w
  · have a26 : gI M 26 = 3 := h.1
    have m0 : ¬ gI M 26 = 0 := by rw [a26]; decide
    have m1 : ¬ gI M 26 = 1 := by rw [a26]; decide
    have m2 : ¬ gI M 26 = 2 := by rw [a26]; decide
    have m4 : ¬ gI M 26 = 4 := by rw [a26]; decide
    have n0 : ¬ gI A 1 = 0 := by
      rcases h.2.1 with ⟨z, -⟩ | ⟨z, -⟩
      · rw [z]; decide
      · rw [z]; decide
    have n1 : ¬ gI A 1 = 1 := by
      rcases h.2.1 with ⟨z, -⟩ | ⟨z, -⟩
      · rw [z]; decide
      · rw [z]; decide
    have a2 : gI A 2 = 0 := h.2.2.1
    rcases hqq with rfl | rfl | rfl | rfl | rfl | rfl | rfl | rfl
    · rw [au_t0 B A T hk hx a2, au_m0 M hk hkq]; exact (au_q0 B hk hB m0 n0).w3
    · rw [au_t1 B A T hk hx a2, au_m1 M hk hkq]; exact (au_q1 B hk hB m1 n1).w
    · rw [au_t2 B A T hk hx a2, au_m2 M hk hkq]; exact (au_q2 B hk hB m1 n1).w
    · rw [au_t3 B A T hk hx a2, au_m3 M hk hkq]; exact (au_q3 B m1 n1).w3
    · rw [au_t4 B A T hk hx a2, au_m4 M hk hkq]; exact (au_mixed B hk hB h).w3
    · rw [au_t5 B A T hk hx a2, au_m5 M hk hkq]; exact (au_q5 m2).w
    · rw [au_t6 B A T hk hx a2, au_m6 M hk hkq]; exact (au_share3 B hk hB h).w3
    · rw [au_t7 B A T hk hx a2, au_m7 M hk hkq]; exact (au_result3 B hk hB h).w3
  · have a26 : gI M 26 = 4 := h.2.2.2.1
    have m0 : ¬ gI M 26 = 0 := by rw [a26]; decide
    have m1 : ¬ gI M 26 = 1 := by rw [a26]; decide
    have m2 : ¬ gI M 26 = 2 := by rw [a26]; decide
    have m3 : ¬ gI M 26 = 3 := by rw [a26]; decide
    have a1 : gI A 1 = 3 := h.2.2.2.2.1
    have n0 : ¬ gI A 1 = 0 := by rw [a1]; decide
    have n1 : ¬ gI A 1 = 1 := by rw [a1]; decide
    have n2 : ¬ gI A 1 = 2 := by rw [a1]; decide
    have a2 : gI A 2 = 0 := h.2.2.2.2.2.1
    rcases hqq with rfl | rfl | rfl | rfl | rfl | rfl | rfl | rfl
    · rw [au_t0 B A T hk hx a2, au_m0 M hk hkq]; exact (au_q0 B hk hB m0 n0).w3
    · rw [au_t1 B A T hk hx a2, au_m1 M hk hkq]; exact (au_q1 B hk hB m1 n1).w
    · rw [au_t2 B A T hk hx a2, au_m2 M hk hkq]; exact (au_q2 B hk hB m1 n1).w
    · rw [au_t3 B A T hk hx a2, au_m3 M hk hkq]; exact (au_q3 B m1 n1).w3
    · rw [au_t4 B A T hk hx a2, au_m4 M hk hkq]; exact (au_q4 B hk hB m3 n2).w3
    · rw [au_t5 B A T hk hx a2, au_m5 M hk hkq]; exact (au_q5 m2).w
    · rw [au_t6 B A T hk hx a2, au_m6 M hk hkq]; exact (au_share4 B hk hB h).w3
    · rw [au_t7 B A T hk hx a2, au_m7 M hk hkq]; exact (au_result4 B h).w3
  · have a26 : gI M 26 = 5 := h.1
    have m0 : ¬ gI M 26 = 0 := by rw [a26]; decide
    have m1 : ¬ gI M 26 = 1 := by rw [a26]; decide
    have m2 : ¬ gI M 26 = 2 := by rw [a26]; decide
    have m3 : ¬ gI M 26 = 3 := by rw [a26]; decide
    have m4 : ¬ gI M 26 = 4 := by rw [a26]; decide
    have a1 : gI A 1 = 4 := h.2.1
    have n0 : ¬ gI A 1 = 0 := by rw [a1]; decide
    have n1 : ¬ gI A 1 = 1 := by rw [a1]; decide
    have n2 : ¬ gI A 1 = 2 := by rw [a1]; decide
    have n3 : ¬ gI A 1 = 3 := by rw [a1]; decide
    have a2 : gI A 2 = 0 := h.2.2
    rcases hqq with rfl | rfl | rfl | rfl | rfl | rfl | rfl | rfl
    · rw [au_t0 B A T hk hx a2, au_m0 M hk hkq]; exact (au_q0 B hk hB m0 n0).w3
    · rw [au_t1 B A T hk hx a2, au_m1 M hk hkq]; exact (au_q1 B hk hB m1 n1).w
    · rw [au_t2 B A T hk hx a2, au_m2 M hk hkq]; exact (au_q2 B hk hB m1 n1).w
    · rw [au_t3 B A T hk hx a2, au_m3 M hk hkq]; exact (au_q3 B m1 n1).w3
    · rw [au_t4 B A T hk hx a2, au_m4 M hk hkq]; exact (au_q4 B hk hB m3 n2).w3
    · rw [au_t5 B A T hk hx a2, au_m5 M hk hkq]; exact (au_q5 m2).w
    · rw [au_t6 B A T hk hx a2, au_m6 M hk hkq]; exact (au_q6 B hk hB m3 m4 n2 n3).w3
    · rw [au_t7 B A T hk hx a2, au_m7 M hk hkq]; exact (au_q7 B m3 n2 n3).w3
theorem au_loop (B M0 : zSt) {n : Nat} (hn : n ≤ 160) (hB3 : gI B 3 = nI n) (hM1 : gI M0 1 = nI n) (hB0 : gA B 0 = gA M0 2) (hB : gA B 1 = gA M0 3) (hK : rK0 n (gA M0 2)) : ∀ (d f k : Nat) (A T M : zSt), k + d = n → d < f → aF M0 M → AR A T M → ∃ (r : Int32) (A' T' M' : zSt), lX0_firstWrong_17 f B A T (nI k) = some (r, A', T') ∧ lX7_audit_65 f M (nI k) = some (r, M') ∧ aF M0 M' := by
  intro d
  induction d with
  | zero =>
    intro f k A T M hk hf fr h
    obtain ⟨g, rfl, -⟩ := pu_fu hf
    have h0 : k = n := by omega
    subst h0
    refine ⟨-1, A, T, M, ?_, ?_, fr⟩
    · show bX0_firstWrong_17 _ B A T _ = _
      unfold bX0_firstWrong_17
      rw [hB3, if_pos (nI_le (Nat.le_refl _) (by omega))]
    · show bX7_audit_65 _ M _ = _
      unfold bX7_audit_65
      rw [fr.1 1 (by decide), hM1, if_pos (nI_le (Nat.le_refl _) (by omega))]
  | succ d ih =>
    intro f k A T M hk hf fr h
    obtain ⟨g, rfl, hg⟩ := pu_fu hf
    have hkn : k < n := by omega
    have e2 : gA M 2 = gA M0 2 := fr.2.1 2 (by decide)
    have e3 : gA M 3 = gA M0 3 := fr.2.1 3 (by decide)
    obtain ⟨r, A', T', M', a1, a2, a3, a4, a5⟩ := au_step (A := A) (T := T) (M := M) B (show k < 160 by omega) (by rw [hB0, e2]) (by rw [hB, e3]) (by rw [e2]; exact hK.1 k hkn) (by rw [e2]; exact hK.2 k hkn) h
    show ∃ (r : Int32) (A' T' M' : zSt), bX0_firstWrong_17 _ B A T _ = _ ∧ bX7_audit_65 _ M _ = _ ∧ _
    unfold bX0_firstWrong_17 bX7_audit_65
    rw [hB3, if_neg (nI_ge hkn (by omega)), fr.1 1 (by decide), hM1, if_neg (nI_ge hkn (by omega)), a1, pu_b3, a2, pu_b2]
    dsimp only
    by_cases hr : r = 0
    · rw [if_pos hr, if_pos hr]
      exact ⟨_, _, _, _, rfl, rfl, fr.trans a4⟩
    · rw [if_neg hr, if_neg hr, nI_1]
      exact ih g (k + 1) A' T' M' (by omega) (by omega) (fr.trans a4) (a5 (a3.resolve_left hr))
theorem op_audit {j : Nat} {O B P R M : zSt} (h : Rel j O B P R M) (A T : zSt) : ∃ (r : Int32) (A' T' M' : zSt), fX6_audit O B A T = some (r, A', T') ∧ fX7_audit M = some (r, M') ∧ Rel (j + 1) O B P R M' := by
  have hh := h
  obtain ⟨n, ⟨n1, n2, n3, n4, n5⟩, hV, hN, hE, hR, hK⟩ := h
  obtain ⟨M1, a1, a2, a3, a4⟩ := pu_au17 10 1000 0 (sI (sI (sI M 0 0) 26 0) 29 0) rfl (by decide)
  obtain ⟨M2, b1, b2, b3⟩ := pu_au45 3 1000 0 M1 rfl (by decide)
  have fr : aF M M2 := ((((pu_fr.refl _ _ _ _ M).sI (by decide) _).sI (by decide) _).sI (by decide) _).trans ((a4.mono (by decide) (by decide) (by decide) (by decide)).trans (b3.mono (by decide) (by decide) (by decide) (by decide)))
  have q26 : gI M2 26 = 0 := by
    rw [b3.1 26 (by decide), a4.1 26 (by decide), zs_II, if_neg (by decide), zs_II, if_pos rfl]
  have hAR : AR (sI (sI (sI A 1 0) 2 0) 3 0) T M2 := by
    refine Or.inl ⟨q26, ?_, ?_, ?_, ?_, ?_⟩
    · simp only [zs_II, ↓reduceIte, Nat.reduceEqDiff, reduceCtorEq]
    · simp only [zs_II, ↓reduceIte, Nat.reduceEqDiff, reduceCtorEq]
    · simp only [zs_II, ↓reduceIte]
    · intro t ht
      rw [b2]; exact if_pos ⟨Nat.zero_le _, ht⟩
    · intro v hv
      rw [b3.2.1 20 (by decide), b3.2.1 21 (by decide), a2, a3]
      exact ⟨if_pos ⟨Nat.zero_le _, hv⟩, if_pos ⟨Nat.zero_le _, hv⟩⟩
  obtain ⟨r, A', T', M', c1, c2, c3⟩ := au_loop B M2 n1 n2 ((fr.1 1 (by decide)).trans n3) (by rw [n4]; exact (fr.2.1 2 (by decide)).symm) (by rw [n5]; exact (fr.2.1 3 (by decide)).symm) (by rw [fr.2.1 2 (by decide)]; exact hK.1) n 1000 0 (sI (sI (sI A 1 0) 2 0) 3 0) T M2 (by omega) (by omega) (aF.refl M2) hAR
  refine ⟨r, A', T', M', ?_, ?_, hh.same (pu_fr.refl _ _ _ _ B) (pu_fr.refl _ _ _ _ R) ((fr.trans c3).mono (by decide) (by decide) (by decide) (by decide))⟩
  · unfold fX6_audit fX0_firstWrong
    have c1z : lX0_firstWrong_17 1000 B (sI (sI (sI A 1 0) 2 0) 3 0) T 0 = some (r, A', T') := c1
    rw [c1z, pu_b3]
  · unfold fX7_audit
    have a1z : lX7_audit_17 1000 (sI (sI (sI M 0 0) 26 0) 29 0) 0 = lX7_audit_45 1000 M1 0 := a1
    have b1z : lX7_audit_45 1000 M1 0 = lX7_audit_65 1000 M2 0 := b1
    rw [a1z, b1z]
    exact c2
