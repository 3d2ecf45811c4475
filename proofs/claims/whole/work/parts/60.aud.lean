/-! Pure: the audit's small parts: numbers of a record, bare records, loops. -/
def aF (M M' : zSt) : Prop := pu_fr [0, 26, 27, 28, 29] [17, 18, 19, 20, 21, 22, 23, 24, 25, 30, 31, 32] [] [33] M M'
theorem au_n (B : zSt) {k : Nat} {F : Nat → Int32} (hk : k < 160) (hB : gA B 1 = F) (f : Nat) (x : Int32) (hf : f < 6) (hx : x = nI f) : fX1_number B (nI k) x = some (F (6 * k + f)) := by
  rw [pu_nu1 B x f hk hf hx, hB]
theorem au_n0 (B : zSt) {k : Nat} {F : Nat → Int32} (hk : k < 160) (hB : gA B 1 = F) : fX1_number B (nI k) 0 = some (F (6 * k)) := au_n B hk hB 0 0 (by decide) rfl
theorem au_n1 (B : zSt) {k : Nat} {F : Nat → Int32} (hk : k < 160) (hB : gA B 1 = F) : fX1_number B (nI k) 1 = some (F (6 * k + 1)) := au_n B hk hB 1 1 (by decide) rfl
theorem au_n2 (B : zSt) {k : Nat} {F : Nat → Int32} (hk : k < 160) (hB : gA B 1 = F) : fX1_number B (nI k) 2 = some (F (6 * k + 2)) := au_n B hk hB 2 2 (by decide) rfl
theorem au_n3 (B : zSt) {k : Nat} {F : Nat → Int32} (hk : k < 160) (hB : gA B 1 = F) : fX1_number B (nI k) 3 = some (F (6 * k + 3)) := au_n B hk hB 3 3 (by decide) rfl
theorem au_n4 (B : zSt) {k : Nat} {F : Nat → Int32} (hk : k < 160) (hB : gA B 1 = F) : fX1_number B (nI k) 4 = some (F (6 * k + 4)) := au_n B hk hB 4 4 (by decide) rfl
theorem au_n5 (B : zSt) {k : Nat} {F : Nat → Int32} (hk : k < 160) (hB : gA B 1 = F) : fX1_number B (nI k) 5 = some (F (6 * k + 5)) := au_n B hk hB 5 5 (by decide) rfl
theorem au_i1 (k : Nat) : (6 : Int32) * nI k + (1 : Int32) = nI (6 * k + 1) := pu_i7
theorem au_i2 (k : Nat) : (6 : Int32) * nI k + (2 : Int32) = nI (6 * k + 2) := pu_i7
theorem au_i3 (k : Nat) : (6 : Int32) * nI k + (3 : Int32) = nI (6 * k + 3) := pu_i7
theorem au_i4 (k : Nat) : (6 : Int32) * nI k + (4 : Int32) = nI (6 * k + 4) := pu_i7
theorem au_i5 (k : Nat) : (6 : Int32) * nI k + (5 : Int32) = nI (6 * k + 5) := pu_i7
theorem au_z {α : Type} {k : Nat} (hk : k < 160) (f : Nat) (hf : f < 6) (A : Option α) : zin (nI (6 * k + f)) 960 A = A := pu_zn (by omega) (by decide)
theorem au_z0 {α : Type} {k : Nat} (hk : k < 160) (A : Option α) : zin (nI (6 * k)) 960 A = A := pu_zn (by omega) (by decide)
theorem au_zx {α : Type} {x : Int32} {v n : Nat} (hv : v < n) (hn : n < 2 ^ 31) (hx : x = nI v) (A : Option α) : zin x n A = A := by
  rw [hx]; exact pu_zn hv hn
theorem au_c {k : Nat} (hk : k < 160) (f : Nat) (hf : f < 6) : (nI (6 * k + f)).toNatClampNeg = 6 * k + f := pu_c (by omega)
theorem au_c0 {k : Nat} (hk : k < 160) : (nI (6 * k)).toNatClampNeg = 6 * k := pu_c (by omega)
theorem au_bl {α : Type} {r : Int32} (h : r = 0 ∨ r = 1) (A : Option α) : zbl r A = A := if_pos h
theorem au_01 : ¬ (0 : Int32) = 1 := by decide
theorem au_bare0 (M : zSt) {k : Nat} : ∀ (d f j : Nat), j + d = 6 → d < f → lX7_bare_5 f M (nI k) 0 (nI j) = some 0 := by
  intro d
  induction d with
  | zero =>
    intro f j hj hf
    obtain ⟨g, rfl, -⟩ := pu_fu hf
    have h0 : j = 6 := by omega
    subst h0
    show bX7_bare_5 _ M _ _ _ = _
    unfold bX7_bare_5
    rw [if_pos (show (6 : Int32) ≤ nI 6 by decide), au_bl (Or.inl rfl)]
  | succ d ih =>
    intro f j hj hf
    obtain ⟨g, rfl, hg⟩ := pu_fu hf
    show bX7_bare_5 _ M _ _ _ = _
    unfold bX7_bare_5
    rw [if_neg (show ¬ (6 : Int32) ≤ nI j from nI_ge (show j < 6 by omega) (by decide)), if_pos rfl]
    unfold bX7_bare_35 bX7_bare_36
    rw [nI_1]
    exact ih g (j + 1) (by omega) (by omega)
theorem au_bare (B M : zSt) {k : Nat} (hk : k < 160) (hB : gA B 1 = gA M 3) : ∀ (d f j : Nat), j + d = 6 → d < f → ∃ r : Int32, (r = 0 ∨ r = 1) ∧ lX0_isZeroFrom_2 f B (nI k) (nI j) = some r ∧ lX7_bare_5 f M (nI k) 1 (nI j) = some r := by
  intro d
  induction d with
  | zero =>
    intro f j hj hf
    obtain ⟨g, rfl, -⟩ := pu_fu hf
    have h0 : j = 6 := by omega
    subst h0
    refine ⟨1, Or.inr rfl, ?_, ?_⟩
    · show bX0_isZeroFrom_2 _ B _ _ = _
      unfold bX0_isZeroFrom_2
      rw [if_pos (show (6 : Int32) ≤ nI 6 by decide)]
    · show bX7_bare_5 _ M _ _ _ = _
      unfold bX7_bare_5
      rw [if_pos (show (6 : Int32) ≤ nI 6 by decide), au_bl (Or.inr rfl)]
  | succ d ih =>
    intro f j hj hf
    obtain ⟨g, rfl, hg⟩ := pu_fu hf
    have n6 : ¬ (6 : Int32) ≤ nI j := nI_ge (show j < 6 by omega) (by decide)
    obtain ⟨r, r1, r2, r3⟩ := ih g (j + 1) (by omega) (by omega)
    by_cases hz : gA M 3 (6 * k + j) = 0
    · refine ⟨r, r1, ?_, ?_⟩
      · show bX0_isZeroFrom_2 _ B _ _ = _
        unfold bX0_isZeroFrom_2
        rw [if_neg n6, pu_nu1 B (nI j) j hk (by omega) rfl, pu_b1, hB, if_pos hz, nI_1]; exact r2
      · show bX7_bare_5 _ M _ _ _ = _
        unfold bX7_bare_5
        rw [if_neg n6, if_neg pu_hn10, pu_i7, pu_zn (show 6 * k + j < 960 by omega) (by decide), pu_c (by omega), if_pos hz]
        unfold bX7_bare_36
        rw [nI_1]; exact r3
    · refine ⟨0, Or.inl rfl, ?_, ?_⟩
      · show bX0_isZeroFrom_2 _ B _ _ = _
        unfold bX0_isZeroFrom_2
        rw [if_neg n6, pu_nu1 B (nI j) j hk (by omega) rfl, pu_b1, hB, if_neg hz]
      · show bX7_bare_5 _ M _ _ _ = _
        unfold bX7_bare_5
        rw [if_neg n6, if_neg pu_hn10, pu_i7, pu_zn (show 6 * k + j < 960 by omega) (by decide), pu_c (by omega), if_neg hz]
        unfold bX7_bare_35 bX7_bare_36
        rw [nI_1]; exact au_bare0 M d g (j + 1) (by omega) (by omega)
theorem au_br (B M : zSt) {k : Nat} (hk : k < 160) (hB : gA B 1 = gA M 3) (x : Int32) (j : Nat) (hj : j ≤ 6) (hx : x = nI j) : ∃ r : Int32, (r = 0 ∨ r = 1) ∧ fX0_isZeroFrom B (nI k) x = some r ∧ fX7_bare M (nI k) x = some r := by
  subst hx
  exact au_bare B M hk hB (6 - j) 1000 j (by omega) (by omega)
theorem au_rb {k : Nat} (hk : k < 160) (F : Nat → Int32) : ∀ (d f i : Nat) (M : zSt) (l2 : Int32), i + d = 3 → d < f → gA M 3 = F → (l2 = 0 ∨ l2 = 1) → ∃ (r : Int32) (M' : zSt), lX7_rightBegun_24 f M (nI k) l2 (nI i) = some (r, M') ∧ (r = 0 ∨ r = 1) ∧ (r = 1 ↔ l2 = 1 ∧ ∀ t, i ≤ t → t < 3 → fX7_isElement (F (6 * k + t)) = some 1) ∧ gI M' 26 = 1 ∧ (∀ t, gA M' 24 t = if i ≤ t ∧ t < 3 then F (6 * k + t) else gA M 24 t) ∧ pu_fr [26] [24] [] [] M M' := by
  intro d
  induction d with
  | zero =>
    intro f i M l2 hi hf hF hl
    obtain ⟨g, rfl, -⟩ := pu_fu hf
    have h0 : i = 3 := by omega
    subst h0
    refine ⟨l2, sI M 26 1, ?_, hl, ?_, ?_, ?_, (pu_fr.refl _ _ _ _ M).sI (by decide) _⟩
    · show bX7_rightBegun_24 _ M _ _ _ = _
      unfold bX7_rightBegun_24
      rw [if_pos (show (3 : Int32) ≤ nI 3 by decide), au_bl hl]
    · exact ⟨fun z => ⟨z, fun t h1 h2 => absurd h2 (by omega)⟩, fun z => z.1⟩
    · rw [zs_II, if_pos rfl]
    · intro t; rw [zs_AI, if_neg (by omega)]
  | succ d ih =>
    intro f i M l2 hi hf hF hl
    obtain ⟨g, rfl, hg⟩ := pu_fu hf
    have hi3 : i < 3 := by omega
    have st : ∀ s0 : Int32, bX7_rightBegun_55 (lX7_rightBegun_24 g) M (nI k) (nI i) s0 = lX7_rightBegun_24 g (sA M 24 i (F (6 * k + i))) (nI k) s0 (nI (i + 1)) := by
      intro s0
      unfold bX7_rightBegun_55
      rw [pu_i7, pu_zn (show 6 * k + i < 960 by omega) (by decide), pu_zn hi3 (by decide), pu_c (show 6 * k + i < 2 ^ 31 by omega), pu_c (show i < 2 ^ 31 by omega), nI_1, hF]
    have fin : ∀ s0 : Int32, (s0 = 0 ∨ s0 = 1) → (s0 = 1 ↔ l2 = 1 ∧ fX7_isElement (F (6 * k + i)) = some 1) → ∃ (r : Int32) (M' : zSt), lX7_rightBegun_24 g (sA M 24 i (F (6 * k + i))) (nI k) s0 (nI (i + 1)) = some (r, M') ∧ (r = 0 ∨ r = 1) ∧ (r = 1 ↔ l2 = 1 ∧ ∀ t, i ≤ t → t < 3 → fX7_isElement (F (6 * k + t)) = some 1) ∧ gI M' 26 = 1 ∧ (∀ t, gA M' 24 t = if i ≤ t ∧ t < 3 then F (6 * k + t) else gA M 24 t) ∧ pu_fr [26] [24] [] [] M M' := by
      intro s0 h1 h2
      obtain ⟨r, M', a1, a2, a3, a4, a5, a6⟩ := ih g (i + 1) (sA M 24 i (F (6 * k + i))) s0 (by omega) (by omega) (by rw [zs_AA, if_neg (by decide)]; exact hF) h1
      refine ⟨r, M', a1, a2, ?_, a4, ?_, ((pu_fr.refl _ _ _ _ M).sA (by decide) _ _).trans a6⟩
      · rw [a3, h2]
        constructor
        · intro ⟨⟨q1, q2⟩, q3⟩
          refine ⟨q1, fun t h3 h4 => ?_⟩
          by_cases ht : t = i
          · rw [ht]; exact q2
          · exact q3 t (by omega) h4
        · intro ⟨q1, q2⟩
          exact ⟨⟨q1, q2 i (Nat.le_refl _) hi3⟩, fun t h3 h4 => q2 t (by omega) h4⟩
      · intro t
        rw [a5, zs_AA, if_pos rfl]
        by_cases ht : t = i
        · subst ht; rw [if_neg (by omega), pk_us, if_pos ⟨Nat.le_refl _, hi3⟩]
        · rw [pk_un ht]
          by_cases h5 : i + 1 ≤ t ∧ t < 3
          · rw [if_pos h5, if_pos (by omega)]
          · rw [if_neg h5, if_neg (by omega)]
    show ∃ (r : Int32) (M' : zSt), bX7_rightBegun_24 _ M _ _ _ = _ ∧ _
    unfold bX7_rightBegun_24
    rw [if_neg (show ¬ (3 : Int32) ≤ nI i from nI_ge hi3 (by decide))]
    unfold bX7_rightBegun_54
    by_cases hl0 : l2 = 0
    · rw [if_pos hl0, st]
      exact fin 0 (Or.inl rfl) ⟨fun z => absurd z au_01, fun z => absurd (hl0.symm.trans z.1) au_01⟩
    · have hl1 : l2 = 1 := hl.resolve_left hl0
      obtain ⟨r, -, c2, c3⟩ := pu_isel (F (6 * k + i))
      rw [if_neg hl0, pu_i7, pu_zn (show 6 * k + i < 960 by omega) (by decide), pu_c (show 6 * k + i < 2 ^ 31 by omega), hF, c2, pu_b1]
      by_cases hr : r = 0
      · rw [if_pos hr, st]
        refine fin 0 (Or.inl rfl) ⟨fun z => absurd z au_01, fun z => ?_⟩
        have hz := z.2
        rw [c2, hr] at hz
        exact absurd (Option.some.inj hz) au_01
      · rw [if_neg hr, st]
        exact fin 1 (Or.inr rfl) ⟨fun _ => ⟨hl1, by rw [c2, (c3.resolve_left hr).1]⟩, fun _ => rfl⟩
/-- gathering, where only the chosen ones need be alike -/
theorem au_g_c {h h' a a' f f' : Nat → Int32} (v : Nat) (e : ∀ t, t < v → h t = h' t) (ea : ∀ t, t < v → h t ≠ 0 → a t = a' t) : ∀ i, i < pu_cn h v → pu_g h a f v i = pu_g h' a' f' v i := by
  induction v with
  | zero => intro i hi; exact absurd hi (Nat.not_lt_zero _)
  | succ v ih =>
    have ih' := ih (fun t ht => e t (by omega)) (fun t ht => ea t (by omega))
    intro i hi
    by_cases h0 : h v = 0
    · have h0' : h' v = 0 := by rw [← e v (by omega)]; exact h0
      rw [pu_cn_0 h0] at hi
      rw [pu_g_0 h0, pu_g_0 h0']; exact ih' i hi
    · have h0' : ¬ h' v = 0 := by rw [← e v (by omega)]; exact h0
      rw [pu_cn_1 h0] at hi
      rw [pu_g_1 h0, pu_g_1 h0', ← pu_cn_c v (fun t ht => e t (by omega)), ← ea v (by omega) h0]
      by_cases hi2 : i = pu_cn h v
      · rw [hi2, pk_us, pk_us]
      · rw [pk_un hi2, pk_un hi2]; exact ih' i (by omega)
theorem au_g_el {h a f : Nat → Int32} (v : Nat) (ea : ∀ t, t < v → h t ≠ 0 → pu_el (a t)) : ∀ i, i < pu_cn h v → pu_el (pu_g h a f v i) := by
  induction v with
  | zero => intro i hi; exact absurd hi (Nat.not_lt_zero _)
  | succ v ih =>
    intro i hi
    by_cases h0 : h v = 0
    · rw [pu_cn_0 h0] at hi
      rw [pu_g_0 h0]; exact ih (fun t ht => ea t (by omega)) i hi
    · rw [pu_cn_1 h0] at hi
      rw [pu_g_1 h0]
      by_cases hi2 : i = pu_cn h v
      · rw [hi2, pk_us]; exact ea v (by omega) h0
      · rw [pk_un hi2]; exact ih (fun t ht => ea t (by omega)) i (by omega)
theorem au_await (M : zSt) {n : Nat} (hn : n ≤ 10) : ∃ M' : zSt, fX7_await M (nI n) = some M' ∧ gI M' 29 = nI n ∧ gI M' 27 = 0 ∧ gI M' 26 = (if n = 0 then 3 else 2) ∧ pu_fr [26, 27, 29] [] [] [] M M' := by
  unfold fX7_await
  rcases Nat.eq_zero_or_pos n with h0 | h0
  · subst h0
    unfold bX7_await_20
    rw [if_pos (show nI 0 ≤ (0 : Int32) by decide)]
    refine ⟨_, rfl, ?_, ?_, ?_, (((pu_fr.refl _ _ _ _ M).sI (by decide) _).sI (by decide) _).sI (by decide) _⟩
    · simp only [zs_II, ↓reduceIte, Nat.reduceEqDiff]
    · simp only [zs_II, ↓reduceIte, Nat.reduceEqDiff]
    · rw [zs_II, if_pos rfl, if_pos rfl]
  · unfold bX7_await_20
    rw [if_neg (nI_nle h0 (by omega))]
    refine ⟨_, rfl, ?_, ?_, ?_, (((pu_fr.refl _ _ _ _ M).sI (by decide) _).sI (by decide) _).sI (by decide) _⟩
    · simp only [zs_II, ↓reduceIte, Nat.reduceEqDiff]
    · simp only [zs_II, ↓reduceIte, Nat.reduceEqDiff]
    · rw [zs_II, if_pos rfl, if_neg (show ¬ n = 0 by omega)]
theorem au_rc (M0 : zSt) : ∀ (d f v : Nat) (M : zSt), v + d = 10 → d < f → gA M 30 = pu_g (gA M0 21) (gA M0 22) (gA M0 30) v → gA M 31 = pu_g (gA M0 21) (gA M0 23) (gA M0 31) v → pu_fr [] [30, 31] [] [] M0 M → ∃ M' : zSt, lX7_rightClosed_23 f M (nI (pu_cn (gA M0 21) v)) (nI v) = zb1 (fX7_await M' (nI (pu_cn (gA M0 21) 10))) (fun uM_1 => some ((1 : Int32), uM_1)) ∧ gA M' 30 = pu_g (gA M0 21) (gA M0 22) (gA M0 30) 10 ∧ gA M' 31 = pu_g (gA M0 21) (gA M0 23) (gA M0 31) 10 ∧ pu_fr [] [30, 31] [] [] M0 M' := by
  intro d
  induction d with
  | zero =>
    intro f v M hv hf h30 h31 fr
    obtain ⟨g, rfl, -⟩ := pu_fu hf
    have h0 : v = 10 := by omega
    subst h0
    refine ⟨M, ?_, h30, h31, fr⟩
    show bX7_rightClosed_23 _ M _ _ = _
    unfold bX7_rightClosed_23
    rw [if_pos (show (10 : Int32) ≤ nI 10 by decide)]
  | succ d ih =>
    intro f v M hv hf h30 h31 fr
    obtain ⟨g, rfl, hg⟩ := pu_fu hf
    have hv10 : v < 10 := by omega
    have hc := pu_cn_le (gA M0 21) v
    have e21 : gA M 21 = gA M0 21 := fr.2.1 21 (by decide)
    have e22 : gA M 22 = gA M0 22 := fr.2.1 22 (by decide)
    have e23 : gA M 23 = gA M0 23 := fr.2.1 23 (by decide)
    show ∃ M' : zSt, bX7_rightClosed_23 _ M _ _ = _ ∧ _
    unfold bX7_rightClosed_23
    rw [if_neg (show ¬ (10 : Int32) ≤ nI v from nI_ge hv10 (by decide)), pu_zn hv10 (by decide), pu_c (show v < 2 ^ 31 by omega), e21]
    unfold bX7_rightClosed_65
    by_cases hz : gA M0 21 v = 0
    · rw [if_pos hz, nI_1]
      have := ih g (v + 1) M (by omega) (by omega) (by rw [h30, pu_g_0 hz]) (by rw [h31, pu_g_0 hz]) fr
      rw [pu_cn_0 hz] at this
      exact this
    · rw [if_neg hz]
      have hcl : pu_cn (gA M0 21) v < 10 := by omega
      rw [pu_zn hv10 (by decide), pu_zn hcl (by decide), pu_zn hv10 (by decide), pu_zn hcl (by decide), pu_c (show pu_cn (gA M0 21) v < 2 ^ 31 by omega), nI_1, nI_1]
      have := ih g (v + 1) (sA (sA M 30 (pu_cn (gA M0 21) v) (gA M 22 v)) 31 (pu_cn (gA M0 21) v) (gA (sA M 30 (pu_cn (gA M0 21) v) (gA M 22 v)) 23 v)) (by omega) (by omega) (by rw [pu_g_1 hz, zs_AA, if_neg (by decide), zs_AA, if_pos rfl, h30, e22]) (by rw [pu_g_1 hz, zs_AA, if_pos rfl, zs_AA, if_neg (by decide), zs_AA, if_neg (by decide), h31, e23]) ((fr.sA (by decide) _ _).sA (by decide) _ _)
      rw [pu_cn_1 hz] at this
      exact this
theorem au_rm (M0 : zSt) {e : Nat} (he : e ≤ 10) (h29 : gI M0 29 = nI e) : ∀ (d f i : Nat) (M : zSt), i + d = e → d < f → gA M 30 = pu_ov (gA M0 17) (gA M0 30) i → gA M 31 = pu_ov (gA M0 18) (gA M0 31) i → pu_fr [] [30, 31] [] [] M0 M → ∃ M' : zSt, lX7_rightMixed_233 f M (nI i) = zb1 (fX7_await M' (nI e)) (fun uM_1 => some ((1 : Int32), uM_1)) ∧ gA M' 30 = pu_ov (gA M0 17) (gA M0 30) e ∧ gA M' 31 = pu_ov (gA M0 18) (gA M0 31) e ∧ pu_fr [] [30, 31] [] [] M0 M' := by
  intro d
  induction d with
  | zero =>
    intro f i M hi hf h30 h31 fr
    obtain ⟨g, rfl, -⟩ := pu_fu hf
    have h0 : i = e := by omega
    subst h0
    refine ⟨M, ?_, h30, h31, fr⟩
    show bX7_rightMixed_233 _ M _ = _
    unfold bX7_rightMixed_233
    rw [fr.1 29 (by decide), h29, if_pos (nI_le (Nat.le_refl _) (by omega))]
  | succ d ih =>
    intro f i M hi hf h30 h31 fr
    obtain ⟨g, rfl, hg⟩ := pu_fu hf
    have hie : i < e := by omega
    have hi10 : i < 10 := by omega
    have e17 : gA M 17 = gA M0 17 := fr.2.1 17 (by decide)
    have e18 : gA M 18 = gA M0 18 := fr.2.1 18 (by decide)
    show ∃ M' : zSt, bX7_rightMixed_233 _ M _ = _ ∧ _
    unfold bX7_rightMixed_233
    rw [fr.1 29 (by decide), h29, if_neg (nI_ge hie (by omega)), pu_zn hi10 (by decide), pu_zn hi10 (by decide), pu_zn hi10 (by decide), pu_zn hi10 (by decide), pu_c (show i < 2 ^ 31 by omega), nI_1]
    refine ih g (i + 1) _ (by omega) (by omega) ?_ ?_ ((fr.sA (by decide) _ _).sA (by decide) _ _)
    · rw [zs_AA, if_neg (by decide), zs_AA, if_pos rfl, h30, e17, pu_ov_s]
    · rw [zs_AA, if_pos rfl, zs_AA, if_neg (by decide), zs_AA, if_neg (by decide), h31, e18, pu_ov_s]
