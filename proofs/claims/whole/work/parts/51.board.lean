/-! Pure: the board, rows that are cleared, entries that are gathered. -/
def pu_z (f : Nat → Int32) (i n : Nat) : Nat → Int32 := fun t => if i ≤ t ∧ t < n then 0 else f t
theorem pu_z_e (f : Nat → Int32) (n : Nat) : pu_z f n n = f := by
  funext t; unfold pu_z; rw [if_neg (by omega)]
theorem pu_z_s (f : Nat → Int32) {i n : Nat} (h : i < n) : pu_z (upd f i 0) (i + 1) n = pu_z f i n := by
  funext t; unfold pu_z upd
  by_cases h1 : t = i
  · subst h1; simp only [h, Nat.le_refl, and_self, ↓reduceIte, ite_self]
  · by_cases h2 : i + 1 ≤ t ∧ t < n
    · rw [if_pos h2, if_pos (by omega)]
    · rw [if_neg h2, if_neg h1, if_neg (show ¬ (i ≤ t ∧ t < n) by omega)]
/-- a record's numbers -/
def pu_row (f : Nat → Int32) (n : Nat) (a b c : Int32) : Nat → Int32 := upd (upd (upd (upd (upd (upd f (6 * n) a) (6 * n + 1) b) (6 * n + 2) c) (6 * n + 3) 0) (6 * n + 4) 0) (6 * n + 5) 0
theorem pu_i1 {n f : Nat} : nI n * (6 : Int32) + nI f = nI (6 * n + f) := by
  have h : nI n * (6 : Int32) = nI (n * 6) := pk_mul n 6
  rw [h, nI_add, Nat.mul_comm]
theorem pu_i7 {n f : Nat} : (6 : Int32) * nI n + nI f = nI (6 * n + f) := by
  have h : (6 : Int32) * nI n = nI (6 * n) := pk_mul 6 n
  rw [h, nI_add]
theorem pu_i70 {n : Nat} : (6 : Int32) * nI n = nI (6 * n) := pk_mul 6 n
theorem pu_wr1 (B : zSt) {n : Nat} (v x : Int32) (f : Nat) (hn : n < 160) (hf : f < 6) (hx : x = nI f) : fX1_write B (nI n) x v = some (sA B 1 (6 * n + f) v) := by
  subst hx
  unfold fX1_write
  rw [pu_i1, pu_zn (by omega) (by decide), pu_c (by omega)]
theorem pu_nu1 (B : zSt) {n : Nat} (x : Int32) (f : Nat) (hn : n < 160) (hf : f < 6) (hx : x = nI f) : fX1_number B (nI n) x = some (gA B 1 (6 * n + f)) := by
  subst hx
  unfold fX1_number
  rw [pu_i1, pu_zn (by omega) (by decide), pu_c (by omega)]
theorem pu_put1 (B : zSt) {n : Nat} (k a b c : Int32) (hn : n < 160) (h : gI B 3 = nI n) : ∃ B' : zSt, fX1_put B k a b c = some (nI n, B') ∧ gI B' 3 = nI (n + 1) ∧ gA B' 0 = upd (gA B 0) n k ∧ gA B' 1 = pu_row (gA B 1) n a b c := by
  unfold fX1_put
  rw [h, pu_zn hn (by decide), pu_c (by omega), pu_wr1 _ _ (0 : Int32) 0 hn (by decide) rfl, pu_b1, pu_wr1 _ _ (1 : Int32) 1 hn (by decide) rfl, pu_b1, pu_wr1 _ _ (2 : Int32) 2 hn (by decide) rfl, pu_b1]
  show ∃ B' : zSt, bX1_put_42 _ _ _ _ = _ ∧ _
  unfold bX1_put_42
  rw [if_neg (by decide), pu_wr1 _ _ (3 : Int32) 3 hn (by decide) rfl, pu_b1]
  show ∃ B' : zSt, bX1_put_42 _ _ _ (4 : Int32) = _ ∧ _
  unfold bX1_put_42
  rw [if_neg (by decide), pu_wr1 _ _ (4 : Int32) 4 hn (by decide) rfl, pu_b1]
  show ∃ B' : zSt, bX1_put_42 _ _ _ (5 : Int32) = _ ∧ _
  unfold bX1_put_42
  rw [if_neg (by decide), pu_wr1 _ _ (5 : Int32) 5 hn (by decide) rfl, pu_b1]
  show ∃ B' : zSt, bX1_put_42 _ _ _ (6 : Int32) = _ ∧ _
  unfold bX1_put_42
  rw [if_pos (by decide)]
  refine ⟨_, rfl, ?_, ?_, ?_⟩
  · simp only [zs_II, zs_IA, ↓reduceIte, h, nI_1]
  · simp only [zs_AI, zs_AA, ↓reduceIte, Nat.reduceEqDiff, reduceCtorEq]
  · simp only [zs_AI, zs_AA, ↓reduceIte, Nat.reduceEqDiff, reduceCtorEq, Nat.add_zero]
    rfl
theorem pu_put7 (M : zSt) {n : Nat} (k a b c : Int32) (hn : n < 160) (h : gI M 1 = nI n) : ∃ M' : zSt, fX7_put M k a b c = some (nI n, M') ∧ gI M' 1 = nI (n + 1) ∧ gA M' 2 = upd (gA M 2) n k ∧ gA M' 3 = pu_row (gA M 3) n a b c ∧ pu_fr [1] [2, 3] [] [] M M' := by
  unfold fX7_put
  have e1 : (6 : Int32) * nI n + (1 : Int32) = nI (6 * n + 1) := pu_i7
  have e2 : (6 : Int32) * nI n + (2 : Int32) = nI (6 * n + 2) := pu_i7
  have e3 : (6 : Int32) * nI n + (3 : Int32) = nI (6 * n + 3) := pu_i7
  have e4 : (6 : Int32) * nI n + (4 : Int32) = nI (6 * n + 4) := pu_i7
  have e5 : (6 : Int32) * nI n + (5 : Int32) = nI (6 * n + 5) := pu_i7
  rw [h, e1, e2, pu_i70, pu_zn hn (by decide), pu_zn (by omega) (by decide), pu_zn (by omega) (by decide), pu_zn (by omega) (by decide), pu_c (by omega), pu_c (by omega), pu_c (by omega), pu_c (by omega), nI_1]
  show ∃ M' : zSt, bX7_put_65 _ _ _ _ = _ ∧ _
  unfold bX7_put_65
  rw [if_neg (by decide), e3, pu_zn (by omega) (by decide), pu_c (by omega)]
  show ∃ M' : zSt, bX7_put_65 _ _ _ (4 : Int32) = _ ∧ _
  unfold bX7_put_65
  rw [if_neg (by decide), e4, pu_zn (by omega) (by decide), pu_c (by omega)]
  show ∃ M' : zSt, bX7_put_65 _ _ _ (5 : Int32) = _ ∧ _
  unfold bX7_put_65
  rw [if_neg (by decide), e5, pu_zn (by omega) (by decide), pu_c (by omega)]
  show ∃ M' : zSt, bX7_put_65 _ _ _ (6 : Int32) = _ ∧ _
  unfold bX7_put_65
  rw [if_pos (by decide)]
  refine ⟨_, rfl, ?_, ?_, ?_, ?_⟩
  · simp only [zs_II, zs_IA, ↓reduceIte]
  · simp only [zs_AI, zs_AA, ↓reduceIte, Nat.reduceEqDiff, reduceCtorEq]
  · simp only [zs_AI, zs_AA, ↓reduceIte, Nat.reduceEqDiff, reduceCtorEq]
    rfl
  · exact ((((((((pu_fr.refl _ _ _ _ M).sI (by decide) _).sA (by decide) _ _).sA (by decide) _ _).sA (by decide) _ _).sA (by decide) _ _).sA (by decide) _ _).sA (by decide) _ _).sA (by decide) _ _
/-- room: both ask the same -/
theorem pu_room (B M : zSt) {n m : Nat} (hn : n ≤ 160) (hm : m ≤ 160) (hB : gI B 3 = nI n) (hM : gI M 1 = nI n) : (n + m ≤ 160 ∧ fX1_hasRoom B (nI m) = some 1 ∧ fX7_noRoom M (nI m) = some 0) ∨ (160 < n + m ∧ fX1_hasRoom B (nI m) = some 0 ∧ fX7_noRoom M (nI m) = some 1) := by
  unfold fX1_hasRoom fX7_noRoom
  have e1 : (160 : Int32) - nI n = nI (160 - n) := pk_sub hn
  rw [hB, hM, nI_add, e1]
  by_cases h : n + m ≤ 160
  · refine Or.inl ⟨h, ?_, ?_⟩
    · rw [if_neg (nI_nlt (by omega) (by omega))]
    · rw [if_pos (show nI (n + m) ≤ (160 : Int32) from nI_le h (by decide))]
  · refine Or.inr ⟨by omega, ?_, ?_⟩
    · rw [if_pos (nI_lt (by omega) (by omega))]
    · rw [if_neg (show ¬ nI (n + m) ≤ (160 : Int32) from nI_ge (a := 160) (by omega) (by omega))]
theorem pu_st69 : ∀ (d f i : Nat) (S : zSt), i + d = 3 → d < f → ∃ S' : zSt, lX4_start_69 f S (nI i) = some S' ∧ gA S' 13 = pu_z (gA S 13) i 3 ∧ pu_fr [] [13] [] [] S S' := by
  intro d
  induction d with
  | zero =>
    intro f i S hi hf
    obtain ⟨g, rfl, -⟩ := pu_fu hf
    have h0 : i = 3 := by omega
    subst h0
    refine ⟨S, ?_, (pu_z_e _ _).symm, pu_fr.refl _ _ _ _ S⟩
    show bX4_start_69 _ S _ = _
    unfold bX4_start_69
    rw [if_pos (show (3 : Int32) ≤ nI 3 by decide)]
  | succ d ih =>
    intro f i S hi hf
    obtain ⟨g, rfl, hg⟩ := pu_fu hf
    have hiN : i < 3 := by omega
    obtain ⟨S', h1, k0, h3⟩ := ih g (i + 1) (sA S 13 i 0) (by omega) (by omega)
    refine ⟨S', ?_, ?_, ((pu_fr.refl _ _ _ _ S).sA (by decide) i 0).trans h3⟩
    · show bX4_start_69 _ S _ = _
      unfold bX4_start_69
      rw [if_neg (show ¬ (3 : Int32) ≤ nI i from nI_ge hiN (by decide)), pu_zn hiN (by decide), nI_1, pu_c (by omega)]
      exact h1
    · rw [k0]; simp only [zs_AA, ↓reduceIte, Nat.reduceEqDiff]; exact pu_z_s _ hiN
theorem pu_st37 : ∀ (d f i : Nat) (S : zSt), i + d = 10 → d < f → ∃ S' : zSt, lX4_start_37 f S (nI i) = lX4_start_69 1000 S' 0 ∧ gA S' 2 = pu_z (gA S 2) i 10 ∧ gA S' 3 = pu_z (gA S 3) i 10 ∧ pu_fr [] [2, 3] [] [] S S' := by
  intro d
  induction d with
  | zero =>
    intro f i S hi hf
    obtain ⟨g, rfl, -⟩ := pu_fu hf
    have h0 : i = 10 := by omega
    subst h0
    refine ⟨S, ?_, (pu_z_e _ _).symm, (pu_z_e _ _).symm, pu_fr.refl _ _ _ _ S⟩
    show bX4_start_37 _ S _ = _
    unfold bX4_start_37
    rw [if_pos (show (10 : Int32) ≤ nI 10 by decide)]
  | succ d ih =>
    intro f i S hi hf
    obtain ⟨g, rfl, hg⟩ := pu_fu hf
    have hiN : i < 10 := by omega
    obtain ⟨S', h1, k0, k1, h3⟩ := ih g (i + 1) (sA (sA S 2 i 0) 3 i 0) (by omega) (by omega)
    refine ⟨S', ?_, ?_, ?_, (((pu_fr.refl _ _ _ _ S).sA (by decide) i 0).sA (by decide) i 0).trans h3⟩
    · show bX4_start_37 _ S _ = _
      unfold bX4_start_37
      rw [if_neg (show ¬ (10 : Int32) ≤ nI i from nI_ge hiN (by decide)), pu_zn hiN (by decide), pu_zn hiN (by decide), nI_1, pu_c (by omega)]
      exact h1
    · rw [k0]; simp only [zs_AA, ↓reduceIte, Nat.reduceEqDiff]; exact pu_z_s _ hiN
    · rw [k1]; simp only [zs_AA, ↓reduceIte, Nat.reduceEqDiff]; exact pu_z_s _ hiN
theorem pu_free2 : ∀ (d f i : Nat) (S : zSt), i + d = 10 → d < f → ∃ S' : zSt, lX7_free_2 f S (nI i) = some S' ∧ gA S' 19 = pu_z (gA S 19) i 10 ∧ pu_fr [] [19] [] [] S S' := by
  intro d
  induction d with
  | zero =>
    intro f i S hi hf
    obtain ⟨g, rfl, -⟩ := pu_fu hf
    have h0 : i = 10 := by omega
    subst h0
    refine ⟨S, ?_, (pu_z_e _ _).symm, pu_fr.refl _ _ _ _ S⟩
    show bX7_free_2 _ S _ = _
    unfold bX7_free_2
    rw [if_pos (show (10 : Int32) ≤ nI 10 by decide)]
  | succ d ih =>
    intro f i S hi hf
    obtain ⟨g, rfl, hg⟩ := pu_fu hf
    have hiN : i < 10 := by omega
    obtain ⟨S', h1, k0, h3⟩ := ih g (i + 1) (sA S 19 i 0) (by omega) (by omega)
    refine ⟨S', ?_, ?_, ((pu_fr.refl _ _ _ _ S).sA (by decide) i 0).trans h3⟩
    · show bX7_free_2 _ S _ = _
      unfold bX7_free_2
      rw [if_neg (show ¬ (10 : Int32) ≤ nI i from nI_ge hiN (by decide)), pu_zn hiN (by decide), nI_1, pu_c (by omega)]
      exact h1
    · rw [k0]; simp only [zs_AA, ↓reduceIte, Nat.reduceEqDiff]; exact pu_z_s _ hiN
theorem pu_cv2 : ∀ (d f i : Nat) (S : zSt), i + d = 4 → d < f → ∃ S' : zSt, lX4_countVotes_2 f S (nI i) = lX4_countVotes_22 1000 S' 0 ∧ gA S' 14 = pu_z (gA S 14) i 4 ∧ pu_fr [] [14] [] [] S S' := by
  intro d
  induction d with
  | zero =>
    intro f i S hi hf
    obtain ⟨g, rfl, -⟩ := pu_fu hf
    have h0 : i = 4 := by omega
    subst h0
    refine ⟨S, ?_, (pu_z_e _ _).symm, pu_fr.refl _ _ _ _ S⟩
    show bX4_countVotes_2 _ S _ = _
    unfold bX4_countVotes_2
    rw [if_pos (show (4 : Int32) ≤ nI 4 by decide)]
  | succ d ih =>
    intro f i S hi hf
    obtain ⟨g, rfl, hg⟩ := pu_fu hf
    have hiN : i < 4 := by omega
    obtain ⟨S', h1, k0, h3⟩ := ih g (i + 1) (sA S 14 i 0) (by omega) (by omega)
    refine ⟨S', ?_, ?_, ((pu_fr.refl _ _ _ _ S).sA (by decide) i 0).trans h3⟩
    · show bX4_countVotes_2 _ S _ = _
      unfold bX4_countVotes_2
      rw [if_neg (show ¬ (4 : Int32) ≤ nI i from nI_ge hiN (by decide)), pu_zn hiN (by decide), nI_1, pu_c (by omega)]
      exact h1
    · rw [k0]; simp only [zs_AA, ↓reduceIte, Nat.reduceEqDiff]; exact pu_z_s _ hiN
theorem pu_au45 : ∀ (d f i : Nat) (S : zSt), i + d = 3 → d < f → ∃ S' : zSt, lX7_audit_45 f S (nI i) = lX7_audit_65 1000 S' 0 ∧ gA S' 25 = pu_z (gA S 25) i 3 ∧ pu_fr [] [25] [] [] S S' := by
  intro d
  induction d with
  | zero =>
    intro f i S hi hf
    obtain ⟨g, rfl, -⟩ := pu_fu hf
    have h0 : i = 3 := by omega
    subst h0
    refine ⟨S, ?_, (pu_z_e _ _).symm, pu_fr.refl _ _ _ _ S⟩
    show bX7_audit_45 _ S _ = _
    unfold bX7_audit_45
    rw [if_pos (show (3 : Int32) ≤ nI 3 by decide)]
  | succ d ih =>
    intro f i S hi hf
    obtain ⟨g, rfl, hg⟩ := pu_fu hf
    have hiN : i < 3 := by omega
    obtain ⟨S', h1, k0, h3⟩ := ih g (i + 1) (sA S 25 i 0) (by omega) (by omega)
    refine ⟨S', ?_, ?_, ((pu_fr.refl _ _ _ _ S).sA (by decide) i 0).trans h3⟩
    · show bX7_audit_45 _ S _ = _
      unfold bX7_audit_45
      rw [if_neg (show ¬ (3 : Int32) ≤ nI i from nI_ge hiN (by decide)), pu_zn hiN (by decide), nI_1, pu_c (by omega)]
      exact h1
    · rw [k0]; simp only [zs_AA, ↓reduceIte, Nat.reduceEqDiff]; exact pu_z_s _ hiN
theorem pu_au17 : ∀ (d f i : Nat) (S : zSt), i + d = 10 → d < f → ∃ S' : zSt, lX7_audit_17 f S (nI i) = lX7_audit_45 1000 S' 0 ∧ gA S' 20 = pu_z (gA S 20) i 10 ∧ gA S' 21 = pu_z (gA S 21) i 10 ∧ pu_fr [] [20, 21] [] [] S S' := by
  intro d
  induction d with
  | zero =>
    intro f i S hi hf
    obtain ⟨g, rfl, -⟩ := pu_fu hf
    have h0 : i = 10 := by omega
    subst h0
    refine ⟨S, ?_, (pu_z_e _ _).symm, (pu_z_e _ _).symm, pu_fr.refl _ _ _ _ S⟩
    show bX7_audit_17 _ S _ = _
    unfold bX7_audit_17
    rw [if_pos (show (10 : Int32) ≤ nI 10 by decide)]
  | succ d ih =>
    intro f i S hi hf
    obtain ⟨g, rfl, hg⟩ := pu_fu hf
    have hiN : i < 10 := by omega
    obtain ⟨S', h1, k0, k1, h3⟩ := ih g (i + 1) (sA (sA S 20 i 0) 21 i 0) (by omega) (by omega)
    refine ⟨S', ?_, ?_, ?_, (((pu_fr.refl _ _ _ _ S).sA (by decide) i 0).sA (by decide) i 0).trans h3⟩
    · show bX7_audit_17 _ S _ = _
      unfold bX7_audit_17
      rw [if_neg (show ¬ (10 : Int32) ≤ nI i from nI_ge hiN (by decide)), pu_zn hiN (by decide), pu_zn hiN (by decide), nI_1, pu_c (by omega)]
      exact h1
    · rw [k0]; simp only [zs_AA, ↓reduceIte, Nat.reduceEqDiff]; exact pu_z_s _ hiN
    · rw [k1]; simp only [zs_AA, ↓reduceIte, Nat.reduceEqDiff]; exact pu_z_s _ hiN

theorem pu_start (P : zSt) {a b c : Int32} (ha : pu_el a) (hb : pu_el b) (hc : pu_el c) : ∃ P' : zSt, fX4_start P a b c = some P' ∧ gI P' 1 = pu_tm (pu_tm a b) c ∧ gA P' 0 = upd (upd (upd (gA P 0) 0 a) 1 b) 2 c ∧ gA P' 2 = pu_z (gA P 2) 0 10 ∧ gA P' 3 = pu_z (gA P 3) 0 10 ∧ gA P' 13 = pu_z (gA P 13) 0 3 ∧ pu_fr [1] [0, 2, 3, 13] [] [] P P' := by
  unfold fX4_start
  rw [pu_tim3 ha hb, pu_b1, pu_tim3 (pu_tm_el _ _) hc, pu_b1]
  obtain ⟨P1, h1, h2, h3, h4⟩ := pu_st37 10 1000 0 (sI (sA (sA (sA P 0 0 a) 0 1 b) 0 2 c) 1 (pu_tm (pu_tm a b) c)) rfl (by decide)
  obtain ⟨P2, g1, g2, g3⟩ := pu_st69 3 1000 0 P1 rfl (by decide)
  refine ⟨P2, h1.trans g1, ?_, ?_, ?_, ?_, ?_, ?_⟩
  · rw [g3.1 1 (by decide), h4.1 1 (by decide)]; rfl
  · rw [g3.2.1 0 (by decide), h4.2.1 0 (by decide)]; simp only [zs_AI, zs_AA, ↓reduceIte]
  · rw [g3.2.1 2 (by decide), h2]; rfl
  · rw [g3.2.1 3 (by decide), h3]; rfl
  · rw [g2, h4.2.1 13 (by decide)]; rfl
  · exact (((((pu_fr.refl _ _ _ _ P).sA (by decide) _ _).sA (by decide) _ _).sA (by decide) _ _).sI (by decide) _).trans ((h4.mono (by decide) (by decide) (by decide) (by decide)).trans (g3.mono (by decide) (by decide) (by decide) (by decide)))
/-- how many before v -/
def pu_cn (h : Nat → Int32) : Nat → Nat
  | 0 => 0
  | v + 1 => if h v = 0 then pu_cn h v else pu_cn h v + 1
/-- the chosen ones of a, one behind the other, over f -/
def pu_g (h a f : Nat → Int32) : Nat → (Nat → Int32)
  | 0 => f
  | v + 1 => if h v = 0 then pu_g h a f v else upd (pu_g h a f v) (pu_cn h v) (a v)
theorem pu_cn_le (h : Nat → Int32) (v : Nat) : pu_cn h v ≤ v := by
  induction v with
  | zero => exact Nat.le_refl _
  | succ v ih => unfold pu_cn; split <;> omega
theorem pu_cn_0 {h : Nat → Int32} {v : Nat} (e : h v = 0) : pu_cn h (v + 1) = pu_cn h v := if_pos e
theorem pu_cn_1 {h : Nat → Int32} {v : Nat} (e : ¬ h v = 0) : pu_cn h (v + 1) = pu_cn h v + 1 := if_neg e
theorem pu_g_0 {h a f : Nat → Int32} {v : Nat} (e : h v = 0) : pu_g h a f (v + 1) = pu_g h a f v := if_pos e
theorem pu_g_1 {h a f : Nat → Int32} {v : Nat} (e : ¬ h v = 0) : pu_g h a f (v + 1) = upd (pu_g h a f v) (pu_cn h v) (a v) := if_neg e
theorem pu_cn_c {h h' : Nat → Int32} (v : Nat) (e : ∀ t, t < v → h t = h' t) : pu_cn h v = pu_cn h' v := by
  induction v with
  | zero => rfl
  | succ v ih => unfold pu_cn; rw [e v (by omega), ih (fun t ht => e t (by omega))]
theorem pu_g_c {h h' a a' f f' : Nat → Int32} (v : Nat) (e : ∀ t, t < v → h t = h' t) (ea : ∀ t, t < v → a t = a' t) : ∀ i, i < pu_cn h v → pu_g h a f v i = pu_g h' a' f' v i := by
  induction v with
  | zero => intro i hi; exact absurd hi (Nat.not_lt_zero _)
  | succ v ih =>
    have ih' := ih (fun t ht => e t (by omega)) (fun t ht => ea t (by omega))
    intro i hi
    by_cases h0 : h v = 0
    · have h0' : h' v = 0 := by rw [← e v (by omega)]; exact h0
      rw [pu_cn_0 h0] at hi
      rw [pu_g_0 h0, pu_g_0 h0']; exact ih' i hi
    · have h0' : ¬ h' v = 0 := by rw [← e v (by omega)]; exact h0
      rw [pu_cn_1 h0] at hi
      rw [pu_g_1 h0, pu_g_1 h0', ← pu_cn_c v (fun t ht => e t (by omega)), ← ea v (by omega)]
      by_cases hi2 : i = pu_cn h v
      · rw [hi2, pk_us, pk_us]
      · rw [pk_un hi2, pk_un hi2]; exact ih' i (by omega)
theorem pu_g_el {h a f : Nat → Int32} (v : Nat) (ea : ∀ t, t < v → pu_el (a t)) : ∀ i, i < pu_cn h v → pu_el (pu_g h a f v i) := by
  induction v with
  | zero => intro i hi; exact absurd hi (Nat.not_lt_zero _)
  | succ v ih =>
    intro i hi
    by_cases h0 : h v = 0
    · rw [pu_cn_0 h0] at hi
      rw [pu_g_0 h0]; exact ih (fun t ht => ea t (by omega)) i hi
    · rw [pu_cn_1 h0] at hi
      rw [pu_g_1 h0]
      by_cases hi2 : i = pu_cn h v
      · rw [hi2, pk_us]; exact ea v (by omega)
      · rw [pk_un hi2]; exact ih (fun t ht => ea t (by omega)) i (by omega)
theorem pu_g_1s {h f : Nat → Int32} (v : Nat) : ∀ i, i < pu_cn h v → pu_g h (fun _ => 1) f v i = 1 := by
  induction v with
  | zero => intro i hi; exact absurd hi (Nat.not_lt_zero _)
  | succ v ih =>
    intro i hi
    by_cases h0 : h v = 0
    · rw [pu_cn_0 h0] at hi
      rw [pu_g_0 h0]; exact ih i hi
    · rw [pu_cn_1 h0] at hi
      rw [pu_g_1 h0]
      by_cases hi2 : i = pu_cn h v
      · rw [hi2, pk_us]
      · rw [pk_un hi2]; exact ih i (by omega)
theorem pu_bv (P : zSt) : ∀ (d f v : Nat), v + d = 10 → d < f → lX4_ballotVoters_4 f P (nI (pu_cn (gA P 3) v)) (nI v) = some (nI (pu_cn (gA P 3) 10)) := by
  intro d
  induction d with
  | zero =>
    intro f v hv hf
    obtain ⟨g, rfl, -⟩ := pu_fu hf
    have h0 : v = 10 := by omega
    subst h0
    show bX4_ballotVoters_4 _ _ _ _ = _
    unfold bX4_ballotVoters_4
    rw [if_pos (by decide)]
  | succ d ih =>
    intro f v hv hf
    obtain ⟨g, rfl, hg⟩ := pu_fu hf
    have hv10 : v < 10 := by omega
    have h1 := ih g (v + 1) (by omega) (by omega)
    show bX4_ballotVoters_4 _ _ _ _ = _
    unfold bX4_ballotVoters_4 bX4_ballotVoters_22
    rw [if_neg (show ¬ (10 : Int32) ≤ nI v from nI_ge hv10 (by decide)), pu_zn hv10 (by decide), pu_c (by omega), nI_1, nI_1]
    by_cases h0 : gA P 3 v = 0
    · rw [if_pos h0, ← pu_cn_0 h0]; exact h1
    · rw [if_neg h0, ← pu_cn_1 h0]; exact h1
theorem pu_bvs (P : zSt) : fX4_ballotVoters P = some (nI (pu_cn (gA P 3) 10)) := pu_bv P 10 1000 0 rfl (by decide)
theorem pu_cl4 (M : zSt) : ∀ (d f v : Nat), v + d = 10 → d < f → ∃ g, lX7_close_4 f M (nI (pu_cn (gA M 8) v)) (nI v) = bX7_close_4 (lX7_close_4 g) M (nI (pu_cn (gA M 8) 10)) (nI 10) := by
  intro d
  induction d with
  | zero =>
    intro f v hv hf
    obtain ⟨g, rfl, -⟩ := pu_fu hf
    have h0 : v = 10 := by omega
    subst h0
    exact ⟨g, rfl⟩
  | succ d ih =>
    intro f v hv hf
    obtain ⟨g, rfl, hg⟩ := pu_fu hf
    have hv10 : v < 10 := by omega
    obtain ⟨g', h1⟩ := ih g (v + 1) (by omega) (by omega)
    refine ⟨g', Eq.trans ?_ h1⟩
    show bX7_close_4 _ _ _ _ = _
    conv => lhs; unfold bX7_close_4 bX7_close_26
    rw [if_neg (show ¬ (10 : Int32) ≤ nI v from nI_ge hv10 (by decide)), pu_zn hv10 (by decide), pu_c (by omega), nI_1, nI_1]
    by_cases h0 : gA M 8 v = 0
    · rw [if_pos h0, ← pu_cn_0 h0]
    · rw [if_neg h0, ← pu_cn_1 h0]
theorem pu_ga (P0 : zSt) : ∀ (d f v : Nat) (P : zSt), v + d = 10 → d < f → (gI P 6 = nI (pu_cn (gA P0 3) v) ∧ gA P 7 = pu_g (gA P0 3) (gA P0 4) (gA P0 7) v ∧ gA P 8 = pu_g (gA P0 3) (gA P0 5) (gA P0 8) v ∧ gA P 12 = pu_g (gA P0 3) (fun _ => 1) (gA P0 12) v ∧ pu_fr [6] [7, 8, 12] [] [] P0 P) → ∃ P' : zSt, lX4_gatherEntries_7 f P (nI v) = some P' ∧ (gI P' 6 = nI (pu_cn (gA P0 3) 10) ∧ gA P' 7 = pu_g (gA P0 3) (gA P0 4) (gA P0 7) 10 ∧ gA P' 8 = pu_g (gA P0 3) (gA P0 5) (gA P0 8) 10 ∧ gA P' 12 = pu_g (gA P0 3) (fun _ => 1) (gA P0 12) 10 ∧ pu_fr [6] [7, 8, 12] [] [] P0 P') := by
  intro d
  induction d with
  | zero =>
    intro f v P hv hf h
    obtain ⟨g, rfl, -⟩ := pu_fu hf
    have h0 : v = 10 := by omega
    subst h0
    refine ⟨P, ?_, h⟩
    show bX4_gatherEntries_7 _ _ _ = _
    unfold bX4_gatherEntries_7
    rw [if_pos (by decide)]
  | succ d ih =>
    intro f v P hv hf h
    obtain ⟨g, rfl, hg⟩ := pu_fu hf
    have hv10 : v < 10 := by omega
    obtain ⟨e6, e7, e8, e12, fr⟩ := h
    show ∃ P' : zSt, bX4_gatherEntries_7 _ _ _ = _ ∧ _
    unfold bX4_gatherEntries_7 bX4_gatherEntries_72
    have hle := pu_cn_le (gA P0 3) v
    have r3 : gA P 3 = gA P0 3 := fr.2.1 3 (by decide)
    have r4 : gA P 4 = gA P0 4 := fr.2.1 4 (by decide)
    have r5 : gA P 5 = gA P0 5 := fr.2.1 5 (by decide)
    simp only [zs_IA, zs_AA, ↓reduceIte, Nat.reduceEqDiff, e6, r3, r4, r5]
    rw [if_neg (show ¬ (10 : Int32) ≤ nI v from nI_ge hv10 (by decide)), pu_zn hv10 (by decide), pu_c (by omega)]
    by_cases h0 : gA P0 3 v = 0
    · rw [if_pos h0, nI_1]
      refine ih g (v + 1) P (by omega) (by omega) ⟨?_, ?_, ?_, ?_, fr⟩
      · rw [pu_cn_0 h0]; exact e6
      · rw [pu_g_0 h0]; exact e7
      · rw [pu_g_0 h0]; exact e8
      · rw [pu_g_0 h0]; exact e12
    · rw [if_neg h0, pu_zn hv10 (by decide), pu_zn (by omega) (by decide), pu_zn hv10 (by decide), pu_zn (by omega) (by decide), pu_zn (by omega) (by decide), nI_1, nI_1, pu_c (by omega)]
      refine ih g (v + 1) _ (by omega) (by omega) ⟨?_, ?_, ?_, ?_, ?_⟩
      · rw [pu_cn_1 h0]; rfl
      · rw [pu_g_1 h0, ← e7]; simp only [zs_AI, zs_AA, ↓reduceIte, Nat.reduceEqDiff]
      · rw [pu_g_1 h0, ← e8]; simp only [zs_AI, zs_AA, ↓reduceIte, Nat.reduceEqDiff]
      · rw [pu_g_1 h0, ← e12]; simp only [zs_AI, zs_AA, ↓reduceIte, Nat.reduceEqDiff]
      · exact (((fr.sA (by decide) _ _).sA (by decide) _ _).sA (by decide) _ _).sI (by decide) _
theorem pu_gather (P : zSt) : ∃ P' : zSt, fX4_gatherEntries P = some P' ∧ (gI P' 6 = nI (pu_cn (gA P 3) 10) ∧ gA P' 7 = pu_g (gA P 3) (gA P 4) (gA P 7) 10 ∧ gA P' 8 = pu_g (gA P 3) (gA P 5) (gA P 8) 10 ∧ gA P' 12 = pu_g (gA P 3) (fun _ => 1) (gA P 12) 10 ∧ pu_fr [6] [7, 8, 12] [] [] P P') := by
  unfold fX4_gatherEntries
  exact pu_ga P 10 1000 0 _ rfl (by decide) ⟨rfl, rfl, rfl, rfl, (pu_fr.refl _ _ _ _ P).sI (by decide) _⟩
/-- entries put onto the board: kinds, numbers -/
def pu_pk (K : Nat → Int32) (n : Nat) : Nat → (Nat → Int32)
  | 0 => K
  | i + 1 => upd (pu_pk K n i) (n + i) 5
def pu_pf (F : Nat → Int32) (n : Nat) (a b : Nat → Int32) : Nat → (Nat → Int32)
  | 0 => F
  | i + 1 => pu_row (pu_pf F n a b i) (n + i) (a i) (b i) 0
theorem pu_pf_c {F : Nat → Int32} {n : Nat} {a b a' b' : Nat → Int32} (m : Nat) (ea : ∀ i, i < m → a i = a' i) (eb : ∀ i, i < m → b i = b' i) : pu_pf F n a b m = pu_pf F n a' b' m := by
  induction m with
  | zero => rfl
  | succ m ih => unfold pu_pf; rw [ea m (by omega), eb m (by omega), ih (fun i hi => ea i (by omega)) (fun i hi => eb i (by omega))]
theorem pu_pe1 (O P : zSt) {e n : Nat} (he : e ≤ 10) (hn : n + e ≤ 160) (h6 : gI P 6 = nI e) : ∀ (d f i : Nat) (B : zSt) (K F : Nat → Int32), i + d = e → d < f → gI B 3 = nI (n + i) → gA B 0 = pu_pk K n i → gA B 1 = pu_pf F n (gA P 7) (gA P 8) i → ∃ B' : zSt, lX6_putEntries_2 f O B P (nI i) = some B' ∧ gI B' 3 = nI (n + e) ∧ gA B' 0 = pu_pk K n e ∧ gA B' 1 = pu_pf F n (gA P 7) (gA P 8) e := by
  intro d
  induction d with
  | zero =>
    intro f i B K F hi hf h3 h0 h1
    obtain ⟨g, rfl, -⟩ := pu_fu hf
    have h0' : i = e := by omega
    subst h0'
    refine ⟨B, ?_, h3, h0, h1⟩
    show bX6_putEntries_2 _ _ _ _ _ = _
    unfold bX6_putEntries_2
    rw [h6, if_pos (nI_le (Nat.le_refl _) (by omega))]
  | succ d ih =>
    intro f i B K F hi hf h3 h0 h1
    obtain ⟨g, rfl, hg⟩ := pu_fu hf
    show ∃ B' : zSt, bX6_putEntries_2 _ _ _ _ _ = _ ∧ _
    unfold bX6_putEntries_2
    rw [h6, if_neg (nI_ge (by omega) (by omega)), pu_zn (by omega) (by decide), pu_zn (by omega) (by decide), pu_c (by omega)]
    obtain ⟨B1, p1, p2, p3, p4⟩ := pu_put1 B (5 : Int32) (gA P 7 i) (gA P 8 i) (0 : Int32) (by omega) h3
    rw [p1, pu_b2, nI_1]
    exact ih g (i + 1) B1 K F (by omega) (by omega) p2 (by rw [p3, h0]; rfl) (by rw [p4, h1]; rfl)
theorem pu_pes (O P B : zSt) {e n : Nat} (he : e ≤ 10) (hn : n + e ≤ 160) (h6 : gI P 6 = nI e) (h3 : gI B 3 = nI n) : ∃ B' : zSt, fX6_putEntries O B P = some B' ∧ gI B' 3 = nI (n + e) ∧ gA B' 0 = pu_pk (gA B 0) n e ∧ gA B' 1 = pu_pf (gA B 1) n (gA P 7) (gA P 8) e :=
  pu_pe1 O P he hn h6 e 1000 0 B _ _ (by omega) (by omega) h3 rfl rfl
/-- the model's closing: the entries are gathered and put -/
theorem pu_cl89 (M0 : zSt) (n : Nat) (l : Int32) (hn : n + 10 ≤ 160 ∨ n + pu_cn (gA M0 8) 10 ≤ 160) : ∀ (d f v : Nat) (M : zSt), v + d = 10 → d < f → (gI M 11 = nI (pu_cn (gA M0 8) v) ∧ gA M 12 = pu_g (gA M0 8) (gA M0 9) (gA M0 12) v ∧ gA M 13 = pu_g (gA M0 8) (gA M0 10) (gA M0 13) v ∧ gI M 1 = nI (n + pu_cn (gA M0 8) v) ∧ gA M 2 = pu_pk (gA M0 2) n (pu_cn (gA M0 8) v) ∧ gA M 3 = pu_pf (gA M0 3) n (gA M 12) (gA M 13) (pu_cn (gA M0 8) v) ∧ pu_fr [1, 11] [2, 3, 12, 13] [] [] M0 M) → ∃ M' : zSt, lX7_close_89 f M l (nI v) = some (l, sI M' 4 2) ∧ (gI M' 11 = nI (pu_cn (gA M0 8) 10) ∧ gA M' 12 = pu_g (gA M0 8) (gA M0 9) (gA M0 12) 10 ∧ gA M' 13 = pu_g (gA M0 8) (gA M0 10) (gA M0 13) 10 ∧ gI M' 1 = nI (n + pu_cn (gA M0 8) 10) ∧ gA M' 2 = pu_pk (gA M0 2) n (pu_cn (gA M0 8) 10) ∧ gA M' 3 = pu_pf (gA M0 3) n (gA M' 12) (gA M' 13) (pu_cn (gA M0 8) 10) ∧ pu_fr [1, 11] [2, 3, 12, 13] [] [] M0 M') := by
  have hmono : ∀ v w, v ≤ w → pu_cn (gA M0 8) v ≤ pu_cn (gA M0 8) w := by
    intro v w hvw
    induction hvw with
    | refl => exact Nat.le_refl _
    | step _ ih => refine Nat.le_trans ih ?_; conv => rhs; unfold pu_cn
                   split <;> omega
  have hn9 : ∀ v, v < 10 → ¬ gA M0 8 v = 0 → n + pu_cn (gA M0 8) v < 160 := by
    intro v hv h0
    have h1 := hmono (v + 1) 10 (by omega)
    rw [pu_cn_1 h0] at h1
    have h2 := pu_cn_le (gA M0 8) 10
    rcases hn with h | h <;> omega
  intro d
  induction d with
  | zero =>
    intro f v M hv hf h
    obtain ⟨g, rfl, -⟩ := pu_fu hf
    have h0 : v = 10 := by omega
    subst h0
    refine ⟨M, ?_, h⟩
    show bX7_close_89 _ _ _ _ = _
    unfold bX7_close_89
    rw [if_pos (by decide)]
  | succ d ih =>
    intro f v M hv hf h
    obtain ⟨g, rfl, hg⟩ := pu_fu hf
    have hv10 : v < 10 := by omega
    obtain ⟨e11, e12, e13, e1, e2, e3, fr⟩ := h
    show ∃ M' : zSt, bX7_close_89 _ _ _ _ = _ ∧ _
    unfold bX7_close_89 bX7_close_163
    have hle := pu_cn_le (gA M0 8) v
    have r8 : gA M 8 = gA M0 8 := fr.2.1 8 (by decide)
    have r9 : gA M 9 = gA M0 9 := fr.2.1 9 (by decide)
    have r10 : gA M 10 = gA M0 10 := fr.2.1 10 (by decide)
    simp only [zs_IA, zs_AA, ↓reduceIte, Nat.reduceEqDiff, e11, r8, r9, r10]
    rw [if_neg (show ¬ (10 : Int32) ≤ nI v from nI_ge hv10 (by decide)), pu_zn hv10 (by decide), pu_c (by omega)]
    by_cases h0 : gA M0 8 v = 0
    · rw [if_pos h0, nI_1]
      refine ih g (v + 1) M (by omega) (by omega) ⟨?_, ?_, ?_, ?_, ?_, ?_, fr⟩
      · rw [pu_cn_0 h0]; exact e11
      · rw [pu_g_0 h0]; exact e12
      · rw [pu_g_0 h0]; exact e13
      · rw [pu_cn_0 h0]; exact e1
      · rw [pu_cn_0 h0]; exact e2
      · rw [pu_cn_0 h0]; exact e3
    · rw [if_neg h0, pu_zn hv10 (by decide), pu_zn (by omega) (by decide), pu_zn hv10 (by decide), pu_zn (by omega) (by decide), pu_zn hv10 (by decide), pu_zn hv10 (by decide), pu_c (by omega)]
      obtain ⟨M1, p1, p2, p3, p4, p5⟩ := pu_put7 (sA (sA M 12 (pu_cn (gA M0 8) v) (gA M0 9 v)) 13 (pu_cn (gA M0 8) v) (gA M0 10 v)) (5 : Int32) (gA M0 9 v) (gA M0 10 v) (0 : Int32) (hn9 v hv10 h0) e1
      rw [p1, pu_b2, nI_1]
      have q11 : gI M1 11 = nI (pu_cn (gA M0 8) v) := (p5.1 11 (by decide)).trans e11
      have q12 : gA M1 12 = upd (gA M 12) (pu_cn (gA M0 8) v) (gA M0 9 v) := by
        rw [p5.2.1 12 (by decide)]; simp only [zs_AA, ↓reduceIte, Nat.reduceEqDiff]
      have q13 : gA M1 13 = upd (gA M 13) (pu_cn (gA M0 8) v) (gA M0 10 v) := by
        rw [p5.2.1 13 (by decide)]; simp only [zs_AA, ↓reduceIte, Nat.reduceEqDiff]
      refine ih g (v + 1) _ (by omega) (by omega) ⟨?_, ?_, ?_, ?_, ?_, ?_, ?_⟩
      · show gI (sI M1 11 _) 11 = _
        rw [zs_II, if_pos rfl, q11, nI_1, pu_cn_1 h0]
      · rw [pu_g_1 h0, ← e12]; exact q12
      · rw [pu_g_1 h0, ← e13]; exact q13
      · rw [pu_cn_1 h0]; exact p2
      · rw [pu_cn_1 h0]; show gA M1 2 = _
        rw [p3]; show upd (gA M 2) _ _ = _
        rw [e2]; rfl
      · rw [pu_cn_1 h0]; show gA M1 3 = pu_pf _ _ (gA M1 12) (gA M1 13) _
        rw [p4]; show pu_row (gA M 3) _ _ _ _ = _
        rw [e3]
        have c1 : gA M1 12 (pu_cn (gA M0 8) v) = gA M0 9 v := by rw [q12, pk_us]
        have c2 : gA M1 13 (pu_cn (gA M0 8) v) = gA M0 10 v := by rw [q13, pk_us]
        have c3 : pu_pf (gA M0 3) n (gA M 12) (gA M 13) (pu_cn (gA M0 8) v) = pu_pf (gA M0 3) n (gA M1 12) (gA M1 13) (pu_cn (gA M0 8) v) := by
          refine pu_pf_c _ (fun i hi => ?_) (fun i hi => ?_)
          · rw [q12, pk_un (by omega)]
          · rw [q13, pk_un (by omega)]
        show _ = pu_row (pu_pf (gA M0 3) n (gA M1 12) (gA M1 13) (pu_cn (gA M0 8) v)) (n + pu_cn (gA M0 8) v) (gA M1 12 (pu_cn (gA M0 8) v)) (gA M1 13 (pu_cn (gA M0 8) v)) 0
        rw [c1, c2, c3]
      · exact (((fr.sA (by decide) _ _).sA (by decide) _ _).trans (p5.mono (by decide) (by decide) (by decide) (by decide))).sI (by decide) _
