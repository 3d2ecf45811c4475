/-! Pure: what stands on both sides between calls; calls that ask, begin, register, cast. -/
def rB (n : Nat) (B M : zSt) : Prop := n ≤ 160 ∧ gI B 3 = nI n ∧ gI M 1 = nI n ∧ gA B 0 = gA M 2 ∧ gA B 1 = gA M 3
def rV (O P M : zSt) : Prop := gI O 5 = gI M 4 ∧ gA P 2 = gA M 7 ∧ gA P 3 = gA M 8 ∧ gA P 4 = gA M 9 ∧ gA P 5 = gA M 10 ∧ gA P 13 = gA M 14 ∧ gA O 4 = gA M 5 ∧ gA P 0 = gA M 6 ∧ gA P 7 = gA M 12 ∧ gA P 8 = gA M 13 ∧ (∀ c, c < 4 → gA P 14 c = gA M 16 c) ∧ gI P 1 = pu_tm (pu_tm (gA M 6 0) (gA M 6 1)) (gA M 6 2)
def rN (M : zSt) : Prop := (∀ t, t < 3 → ∃ x, x < 2039 ∧ gA M 5 t = nI x) ∧ (∀ t, t < 3 → pu_el (gA M 6 t)) ∧ (∀ t, t < 10 → pu_el (gA M 9 t)) ∧ (∀ t, t < 10 → pu_el (gA M 10 t)) ∧ (∀ t, t < 10 → pu_el (gA M 12 t)) ∧ (∀ t, t < 10 → pu_el (gA M 13 t)) ∧ ∀ t, t < 30 → pu_el (gA M 15 t)
/-- a trustee's factor in an entry's shares -/
def pu_o (M : zSt) (t i : Nat) : Nat := if gA M 14 t = 0 then 1 else (gA M 15 (10 * t + i)).toNatClampNeg
def rE (P M : zSt) : Prop := (gI M 4 = 2 ∨ gI M 4 = 3) → ∃ e, e ≤ 10 ∧ gI P 6 = nI e ∧ gI M 11 = nI e ∧ ∀ i, i < e → gA P 12 i = nI (pu_o M 0 i * pu_o M 1 i * pu_o M 2 i % 4079)
def rR (R M : zSt) : Prop := ∃ c, c ≤ 24 ∧ gI R 1 = nI c ∧ gI M 35 = nI c ∧ ∀ i, i < c → gL R 0 i = gL M 36 i
def rK0 (n : Nat) (K : Nat → Int32) : Prop := (∀ i, i < n → ∃ k, k < 8 ∧ K i = nI k) ∧ ∀ i, i < n → K i = 3 → i < 64
def rK (j n : Nat) (M : zSt) : Prop := rK0 n (gA M 2) ∧ (gI M 4 = 1 → n ≤ j ∧ ∀ t, t < 3 → gA M 14 t = 0)
def Rel (j : Nat) (O B P R M : zSt) : Prop := ∃ n, rB n B M ∧ rV O P M ∧ rN M ∧ rE P M ∧ rR R M ∧ rK j n M
theorem rK0.put {n : Nat} {K : Nat → Int32} (h : rK0 n K) {k : Nat} (hk : k < 8) (h3 : k = 3 → n < 64) : rK0 (n + 1) (upd K n (nI k)) := by
  refine ⟨fun i hi => ?_, fun i hi he => ?_⟩
  · by_cases h1 : i = n
    · rw [h1, pk_us]; exact ⟨k, hk, rfl⟩
    · rw [pk_un h1]; exact h.1 i (by omega)
  · by_cases h1 : i = n
    · rw [h1, pk_us] at he
      rw [h1]
      exact h3 ((nI_eq (b := 3) (by omega) (by decide)).mp he)
    · rw [pk_un h1] at he; exact h.2 i (by omega) he
theorem rK0.pk {n : Nat} {K : Nat → Int32} (h : rK0 n K) (e : Nat) : rK0 (n + e) (pu_pk K n e) := by
  induction e with
  | zero => exact h
  | succ e ih => exact ih.put (k := 5) (by decide) (fun z => by cases z)
theorem rK0.p6 {n : Nat} {K : Nat → Int32} (h : rK0 n K) (e : Nat) : rK0 (n + e) (pu_p6 K n e) := by
  induction e with
  | zero => exact h
  | succ e ih => exact ih.put (k := 6) (by decide) (fun z => by cases z)
/-- calls that only look -/
theorem Rel.same {j : Nat} {O B P R M B' R' M' : zSt} (h : Rel j O B P R M) (fB : pu_fr [] [] [2] [] B B') (fR : pu_fr [2] [] [] [3] R R') (fM : pu_fr [0, 26, 27, 28, 29] [17, 18, 19, 20, 21, 22, 23, 24, 25, 30, 31, 32, 38] [34, 37] [33] M M') : Rel (j + 1) O B' P R' M' := by
  obtain ⟨n, ⟨b1, b2, b3, b4, b5⟩, hV, hN, hE, hR, hK⟩ := h
  refine ⟨n, ⟨b1, ?_, ?_, ?_, ?_⟩, ?_, ?_, ?_, ?_, ?_⟩
  · rw [fB.1 3 (by decide)]; exact b2
  · rw [fM.1 1 (by decide)]; exact b3
  · rw [fB.2.1 0 (by decide), fM.2.1 2 (by decide)]; exact b4
  · rw [fB.2.1 1 (by decide), fM.2.1 3 (by decide)]; exact b5
  · unfold rV at hV ⊢
    rw [fM.1 4 (by decide), fM.2.1 7 (by decide), fM.2.1 8 (by decide), fM.2.1 9 (by decide), fM.2.1 10 (by decide), fM.2.1 14 (by decide), fM.2.1 5 (by decide), fM.2.1 6 (by decide), fM.2.1 12 (by decide), fM.2.1 13 (by decide), fM.2.1 16 (by decide)]
    exact hV
  · unfold rN at hN ⊢
    rw [fM.2.1 5 (by decide), fM.2.1 6 (by decide), fM.2.1 9 (by decide), fM.2.1 10 (by decide), fM.2.1 12 (by decide), fM.2.1 13 (by decide), fM.2.1 15 (by decide)]
    exact hN
  · unfold rE pu_o at hE ⊢
    rw [fM.1 4 (by decide), fM.1 11 (by decide), fM.2.1 14 (by decide), fM.2.1 15 (by decide)]
    exact hE
  · unfold rR at hR ⊢
    rw [fR.1 1 (by decide), fR.2.2.1 0 (by decide), fM.1 35 (by decide), fM.2.2.1 36 (by decide)]
    exact hR
  · unfold rK at hK ⊢
    rw [fM.1 4 (by decide), fM.2.1 2 (by decide), fM.2.1 14 (by decide)]
    exact ⟨hK.1, fun z => ⟨Nat.le_succ_of_le (hK.2 z).1, (hK.2 z).2⟩⟩
theorem Rel.code {j : Nat} {O B P R M : zSt} (h : Rel j O B P R M) (c : Int32) : Rel (j + 1) O B P R (sI M 0 c) :=
  h.same (pu_fr.refl _ _ _ _ B) (pu_fr.refl _ _ _ _ R) ((pu_fr.refl _ _ _ _ M).sI (by decide) _)
theorem pu_le0 (M : zSt) : gI (sI M 0 0) 0 ≤ 0 := by rw [zs_II, if_pos rfl]; decide
theorem pu_gt0 (M : zSt) {c : Int32} (h : ¬ c ≤ 0) : ¬ gI (sI M 0 c) 0 ≤ 0 := by rw [zs_II, if_pos rfl]; exact h
theorem pu_c0 (M : zSt) (c : Int32) : gI (sI M 0 c) 0 = c := by rw [zs_II, if_pos rfl]
theorem pu_out (U : zSt) (v : Int64) : gL (sL U 0 0 v) 0 0 = v := by rw [zs_LL, if_pos rfl, pk_uLs]
theorem pu_cr (v : Int64) : lg_cmp v v = 0 := (lg_cmp_eq _ _).mpr rfl
theorem pu_vot (x : Int32) : (∃ v, v < 10 ∧ x = nI v ∧ fX6_isVoter x = some 1 ∧ fX7_noVoter x = some 0) ∨ (fX6_isVoter x = some 0 ∧ fX7_noVoter x = some 1) := by
  unfold fX6_isVoter fX7_noVoter bX7_noVoter_10
  rcases pk_ix x (n := 10) (by decide) with h | h | ⟨v, hv, rfl⟩
  · rw [if_pos h, if_pos h]; exact Or.inr ⟨rfl, rfl⟩
  · have h10 : (10 : Int32) ≤ x := h
    have h0 : ¬ x < 0 := fun z => by
      rw [Int32.lt_iff_toInt_lt] at z; rw [Int32.le_iff_toInt_le] at h10
      have e1 : (10 : Int32).toInt = 10 := rfl
      have e0 : (0 : Int32).toInt = 0 := rfl
      omega
    have h9 : ¬ x ≤ 9 := fun z => by
      rw [Int32.le_iff_toInt_le] at z h10
      have e1 : (10 : Int32).toInt = 10 := rfl
      have e0 : (9 : Int32).toInt = 9 := rfl
      omega
    rw [if_neg h0, if_pos h10, if_neg h0, if_neg h9]; exact Or.inr ⟨rfl, rfl⟩
  · rw [if_neg (nI_pos (by omega)), if_neg (show ¬ (10 : Int32) ≤ nI v from nI_ge hv (by decide)), if_neg (nI_pos (by omega)), if_pos (show nI v ≤ (9 : Int32) from nI_le (b := 9) (by omega) (by decide))]
    exact Or.inl ⟨v, hv, rfl, rfl, rfl⟩
/-- a choice, on both sides -/
theorem pu_cho4 (x : Int32) : (∃ v, v < 4 ∧ x = nI v ∧ fX6_isChoice x = some 1 ∧ ¬ x < 0 ∧ ¬ 3 < x ∧ x ≤ 3) ∨ (fX6_isChoice x = some 0 ∧ (x < 0 ∨ (¬ x < 0 ∧ 3 < x ∧ ¬ x ≤ 3))) := by
  unfold fX6_isChoice
  rcases pk_ix x (n := 4) (by decide) with h | h | ⟨v, hv, rfl⟩
  · rw [if_pos h]; exact Or.inr ⟨rfl, Or.inl h⟩
  · have h4 : (4 : Int32) ≤ x := h
    have e3 : (3 : Int32).toInt = 3 := rfl
    have e4 : (4 : Int32).toInt = 4 := rfl
    have e0 : (0 : Int32).toInt = 0 := rfl
    have h0 : ¬ x < 0 := fun z => by
      rw [Int32.lt_iff_toInt_lt] at z; rw [Int32.le_iff_toInt_le] at h4
      omega
    rw [if_neg h0, if_pos h4]
    refine Or.inr ⟨rfl, Or.inr ⟨h0, ?_, fun z => ?_⟩⟩
    · rw [Int32.lt_iff_toInt_lt]; rw [Int32.le_iff_toInt_le] at h4; omega
    · rw [Int32.le_iff_toInt_le] at z h4; omega
  · rw [if_neg (nI_pos (by omega)), if_neg (show ¬ (4 : Int32) ≤ nI v from nI_ge hv (by decide))]
    exact Or.inl ⟨v, hv, rfl, rfl, nI_pos (by omega), nI_nlt (b := v) (a := 3) (by omega) (by decide), nI_le (b := 3) (by omega) (by decide)⟩
theorem pu_tru (x : Int32) : (∃ v, v < 3 ∧ x = nI v ∧ fX6_isTrustee x = some 1 ∧ ¬ x < 0 ∧ ¬ 2 < x) ∨ (fX6_isTrustee x = some 0 ∧ (x < 0 ∨ (¬ x < 0 ∧ 2 < x))) := by
  unfold fX6_isTrustee
  rcases pk_ix x (n := 3) (by decide) with h | h | ⟨v, hv, rfl⟩
  · rw [if_pos h]; exact Or.inr ⟨rfl, Or.inl h⟩
  · have h4 : (3 : Int32) ≤ x := h
    have e3 : (3 : Int32).toInt = 3 := rfl
    have e4 : (2 : Int32).toInt = 2 := rfl
    have e0 : (0 : Int32).toInt = 0 := rfl
    have h0 : ¬ x < 0 := fun z => by
      rw [Int32.lt_iff_toInt_lt] at z; rw [Int32.le_iff_toInt_le] at h4
      omega
    rw [if_neg h0, if_pos h4]
    refine Or.inr ⟨rfl, Or.inr ⟨h0, ?_⟩⟩
    rw [Int32.lt_iff_toInt_lt]; rw [Int32.le_iff_toInt_le] at h4; omega
  · rw [if_neg (nI_pos (by omega)), if_neg (show ¬ (3 : Int32) ≤ nI v from nI_ge hv (by decide))]
    exact Or.inl ⟨v, hv, rfl, rfl, nI_pos (by omega), nI_nlt (b := v) (a := 2) (by omega) (by decide)⟩
theorem pu_rec (B M : zSt) {n : Nat} (hn : n ≤ 160) (hB : gI B 3 = nI n) (hM : gI M 1 = nI n) (x : Int32) : (∃ v, v < n ∧ x = nI v ∧ fX1_has B x = some 1 ∧ fX7_noRecord M x = some 0) ∨ (fX1_has B x = some 0 ∧ fX7_noRecord M x = some 1) := by
  unfold fX1_has fX7_noRecord bX7_noRecord_12
  rw [hB, hM]
  rcases pk_ix x (n := n) (by omega) with h | h | ⟨v, hv, rfl⟩
  · rw [if_pos h, if_pos h]; exact Or.inr ⟨rfl, rfl⟩
  · by_cases h0 : x < 0
    · rw [if_pos h0, if_pos h0]; exact Or.inr ⟨rfl, rfl⟩
    · have h1 : ¬ x < nI n := fun z => by
        rw [Int32.lt_iff_toInt_lt] at z; rw [Int32.le_iff_toInt_le] at h
        omega
      rw [if_neg h0, if_pos h, if_neg h0, if_neg h1]; exact Or.inr ⟨rfl, rfl⟩
  · rw [if_neg (nI_pos (by omega)), if_neg (nI_ge hv (by omega)), if_neg (nI_pos (by omega)), if_pos (nI_lt hv (by omega))]
    exact Or.inl ⟨v, hv, rfl, rfl, rfl⟩
theorem pu_hn10 : ¬ (1 : Int32) = 0 := by decide
theorem pu_hn12 : ¬ (1 : Int32) ≤ 0 := by decide
theorem pu_z3 (f : Nat → Int32) : upd (upd (upd f 0 0) 1 0) 2 0 = pu_z f 0 3 := by
  rw [← pu_z_e (upd (upd (upd f 0 0) 1 0) 2 0) 3, pu_z_s _ (by decide), pu_z_s _ (by decide), pu_z_s _ (by decide)]
theorem pu_be103 : ∀ (d f i : Nat) (S : zSt), i + d = 10 → d < f → ∃ S' : zSt, lX7_begin_103 f S (nI i) = zb2 (fX7_put (sI (sI S' 11 0) 1 0) (0 : Int32) (gA (sI (sI S' 11 0) 1 0) 6 0) (gA (sI (sI S' 11 0) 1 0) 6 1) (gA (sI (sI S' 11 0) 1 0) 6 2)) (fun r_1 uM_2 => some (sI uM_2 4 (1 : Int32))) ∧ gA S' 7 = pu_z (gA S 7) i 10 ∧ gA S' 8 = pu_z (gA S 8) i 10 ∧ pu_fr [] [7, 8] [] [] S S' := by
  intro d
  induction d with
  | zero =>
    intro f i S hi hf
    obtain ⟨g, rfl, -⟩ := pu_fu hf
    have h0 : i = 10 := by omega
    subst h0
    refine ⟨S, ?_, (pu_z_e _ _).symm, (pu_z_e _ _).symm, pu_fr.refl _ _ _ _ S⟩
    show bX7_begin_103 _ S _ = _
    unfold bX7_begin_103
    rw [if_pos (show (10 : Int32) ≤ nI 10 by decide)]
  | succ d ih =>
    intro f i S hi hf
    obtain ⟨g, rfl, hg⟩ := pu_fu hf
    have hiN : i < 10 := by omega
    obtain ⟨S', h1, k0, k1, h3⟩ := ih g (i + 1) (sA (sA S 7 i 0) 8 i 0) (by omega) (by omega)
    refine ⟨S', ?_, ?_, ?_, (((pu_fr.refl _ _ _ _ S).sA (by decide) i 0).sA (by decide) i 0).trans h3⟩
    · show bX7_begin_103 _ S _ = _
      unfold bX7_begin_103
      rw [if_neg (show ¬ (10 : Int32) ≤ nI i from nI_ge hiN (by decide)), pu_zn hiN (by decide), pu_zn hiN (by decide), nI_1, pu_c (by omega)]
      exact h1
    · rw [k0]; simp only [zs_AA, ↓reduceIte, Nat.reduceEqDiff]; exact pu_z_s _ hiN
    · rw [k1]; simp only [zs_AA, ↓reduceIte, Nat.reduceEqDiff]; exact pu_z_s _ hiN

theorem pu_be62 (M : zSt) {x y z : Int32} (hx : pu_nn x) (hy : pu_nn y) (hz : pu_nn z) (h5 : gA M 5 0 = x ∧ gA M 5 1 = y ∧ gA M 5 2 = z) : ∃ M' : zSt, lX7_begin_62 1000 M 0 = lX7_begin_103 1000 M' 0 ∧ gA M' 6 = upd (upd (upd (gA M 6) 0 (pu_pw 4 x)) 1 (pu_pw 4 y)) 2 (pu_pw 4 z) ∧ gA M' 14 = pu_z (gA M 14) 0 3 ∧ pu_fr [] [6, 14] [] [] M M' := by
  obtain ⟨e0, e1, e2⟩ := h5
  refine ⟨sA (sA (sA (sA (sA (sA M 6 0 (pu_pw 4 x)) 14 0 0) 6 1 (pu_pw 4 y)) 14 1 0) 6 2 (pu_pw 4 z)) 14 2 0, ?_, ?_, ?_, ?_⟩
  · show bX7_begin_62 _ _ (nI 0) = _
    unfold bX7_begin_62
    rw [if_neg (by decide), pu_zn (show 0 < 3 by decide) (by decide), pu_c (by decide), e0, pu_pow7 pu_el4 hx, pu_b1, pu_zn (show 0 < 3 by decide) (by decide), pu_zn (show 0 < 3 by decide) (by decide)]
    show bX7_begin_62 _ _ (nI 1) = _
    unfold bX7_begin_62
    rw [if_neg (by decide), pu_zn (show 1 < 3 by decide) (by decide), pu_c (by decide), zs_AA, if_neg (by decide), zs_AA, if_neg (by decide), e1, pu_pow7 pu_el4 hy, pu_b1, pu_zn (show 1 < 3 by decide) (by decide), pu_zn (show 1 < 3 by decide) (by decide)]
    show bX7_begin_62 _ _ (nI 2) = _
    unfold bX7_begin_62
    rw [if_neg (by decide), pu_zn (show 2 < 3 by decide) (by decide), pu_c (by decide), zs_AA, if_neg (by decide), zs_AA, if_neg (by decide), zs_AA, if_neg (by decide), zs_AA, if_neg (by decide), e2, pu_pow7 pu_el4 hz, pu_b1, pu_zn (show 2 < 3 by decide) (by decide), pu_zn (show 2 < 3 by decide) (by decide)]
    show bX7_begin_62 _ _ (nI 3) = _
    unfold bX7_begin_62
    rw [if_pos (by decide)]
  · simp only [zs_AA, ↓reduceIte, Nat.reduceEqDiff]
  · simp only [zs_AA, ↓reduceIte, Nat.reduceEqDiff]
    exact pu_z3 _
  · exact ((((((pu_fr.refl _ _ _ _ M).sA (by decide) _ _).sA (by decide) _ _).sA (by decide) _ _).sA (by decide) _ _).sA (by decide) _ _).sA (by decide) _ _
theorem pu_u3 (f : Nat → Int32) (a b c : Int32) : upd (upd (upd f 0 a) 1 b) 2 c 0 = a ∧ upd (upd (upd f 0 a) 1 b) 2 c 1 = b ∧ upd (upd (upd f 0 a) 1 b) 2 c 2 = c := by
  refine ⟨?_, ?_, ?_⟩
  · rw [pk_un (by decide), pk_un (by decide), pk_us]
  · rw [pk_un (by decide), pk_us]
  · rw [pk_us]
theorem pu_3 {p : Nat → Prop} (h0 : p 0) (h1 : p 1) (h2 : p 2) : ∀ t, t < 3 → p t := fun t ht => by
  have : t = 0 ∨ t = 1 ∨ t = 2 := by omega
  rcases this with rfl | rfl | rfl
  · exact h0
  · exact h1
  · exact h2
theorem op_begin {j : Nat} {O B P R M : zSt} (h : Rel j O B P R M) (x y z : Int32) : ∃ (r : Int32) (O' B' P' M' : zSt), fL_begin O B P x y z = some (r, O', B', P') ∧ fX7_begin M x y z = some M' ∧ gI M' 0 = r ∧ Rel (j + 1) O' B' P' R M' := by
  have bad : ∀ M1, fX6_begin O B P x y z = some (.inl "java/lang/IllegalArgumentException") → M1 = bX7_begin_26 M x y z → ∃ (r : Int32) (O' B' P' M' : zSt), fL_begin O B P x y z = some (r, O', B', P') ∧ M1 = some M' ∧ gI M' 0 = r ∧ Rel (j + 1) O' B' P' R M' := by
    intro M1 h1 h2
    refine ⟨1, O, B, P, sI M 0 1, ?_, ?_, pu_c0 _ _, h.code 1⟩
    · unfold fL_begin
      rw [h1, pu_bxl, if_pos rfl]
    · rw [h2]
      unfold bX7_begin_26 bX7_begin_27
      rw [if_neg (pu_gt0 M pu_hn12)]
  obtain ⟨r1, a1, b1, c1⟩ := pu_isnu x
  obtain ⟨r2, a2, b2, c2⟩ := pu_isnu y
  obtain ⟨r3, a3, b3, c3⟩ := pu_isnu z
  by_cases g1 : r1 = 0
  · refine bad _ ?_ ?_
    · unfold fX6_begin; rw [a1, pu_b1, if_pos g1]
    · unfold fX7_begin; rw [b1, pu_b1, if_pos g1]
  by_cases g2 : r2 = 0
  · refine bad _ ?_ ?_
    · unfold fX6_begin; rw [a1, pu_b1, if_neg g1, a2, pu_b1, if_pos g2]
    · unfold fX7_begin; rw [b1, pu_b1, if_neg g1, b2, pu_b1, if_pos g2]
  by_cases g3 : r3 = 0
  · refine bad _ ?_ ?_
    · unfold fX6_begin; rw [a1, pu_b1, if_neg g1, a2, pu_b1, if_neg g2, a3, pu_b1, if_pos g3]
    · unfold fX7_begin; rw [b1, pu_b1, if_neg g1, b2, pu_b1, if_neg g2, b3, pu_b1, if_pos g3]
  obtain ⟨-, x', hx1, hx2⟩ := c1.resolve_left g1
  obtain ⟨-, y', hy1, hy2⟩ := c2.resolve_left g2
  obtain ⟨-, z', hz1, hz2⟩ := c3.resolve_left g3
  have nx : pu_nn x := ⟨x', by omega, hx2⟩
  have ny : pu_nn y := ⟨y', by omega, hy2⟩
  have nz : pu_nn z := ⟨z', by omega, hz2⟩
  obtain ⟨n, ⟨n1, n2, n3, n4, n5⟩, hV, hN, hE, hR, hK⟩ := h
  obtain ⟨P1, p1, p2, p3, p4, p5, p6, p7⟩ := pu_start P (pu_pw_el 4 x) (pu_pw_el 4 y) (pu_pw_el 4 z)
  obtain ⟨u0, u1, u2⟩ := pu_u3 (gA P 0) (pu_pw 4 x) (pu_pw 4 y) (pu_pw 4 z)
  obtain ⟨B1, q1, q2, q3, q4⟩ := pu_put1 (sI B 3 0) (n := 0) (0 : Int32) (gA P1 0 0) (gA P1 0 1) (gA P1 0 2) (by decide) (by rw [zs_II, if_pos rfl]; rfl)
  obtain ⟨w0, w1, w2⟩ := pu_u3 (gA M 5) x y z
  have s5 : gA (sA (sA (sA (sI M 0 0) 5 0 x) 5 1 y) 5 2 z) 5 = upd (upd (upd (gA M 5) 0 x) 1 y) 2 z := by
    simp only [zs_AA, zs_AI, ↓reduceIte]
  obtain ⟨M1, m1, m2, m3, m4⟩ := pu_be62 (sA (sA (sA (sI M 0 0) 5 0 x) 5 1 y) 5 2 z) nx ny nz (by rw [s5]; exact ⟨w0, w1, w2⟩)
  obtain ⟨M2, t1, t2, t3, t4⟩ := pu_be103 10 1000 0 M1 rfl (by decide)
  have m2' : gA M1 6 = upd (upd (upd (gA M 6) 0 (pu_pw 4 x)) 1 (pu_pw 4 y)) 2 (pu_pw 4 z) := by
    rw [m2]; simp only [zs_AA, zs_AI, ↓reduceIte, Nat.reduceEqDiff]
  have m6 : gA M2 6 = upd (upd (upd (gA M 6) 0 (pu_pw 4 x)) 1 (pu_pw 4 y)) 2 (pu_pw 4 z) := (t4.2.1 6 (by decide)).trans m2'
  obtain ⟨v0, v1, v2⟩ := pu_u3 (gA M 6) (pu_pw 4 x) (pu_pw 4 y) (pu_pw 4 z)
  obtain ⟨M3, k1, k2, k3, k4, k5⟩ := pu_put7 (sI (sI M2 11 0) 1 0) (n := 0) (0 : Int32) (gA (sI (sI M2 11 0) 1 0) 6 0) (gA (sI (sI M2 11 0) 1 0) 6 1) (gA (sI (sI M2 11 0) 1 0) 6 2) (by decide) (by rw [zs_II, if_pos rfl]; rfl)
  have fr5 : pu_fr [0] [5] [] [] M (sA (sA (sA (sI M 0 0) 5 0 x) 5 1 y) 5 2 z) := ((((pu_fr.refl _ _ _ _ M).sI (by decide) _).sA (by decide) _ _).sA (by decide) _ _).sA (by decide) _ _
  have frM : pu_fr [0, 1, 11] [2, 3, 5, 6, 7, 8, 14] [] [] M M3 := (fr5.mono (by decide) (by decide) (by decide) (by decide)).trans ((m4.mono (by decide) (by decide) (by decide) (by decide)).trans ((t4.mono (by decide) (by decide) (by decide) (by decide)).trans ((((pu_fr.refl _ _ _ _ M2).sI (by decide) _).sI (by decide) _).trans (k5.mono (by decide) (by decide) (by decide) (by decide)))))
  have h7 : gA M3 7 = pu_z (gA M 7) 0 10 := by
    rw [k5.2.1 7 (by decide), zs_AI, zs_AI, t2, m4.2.1 7 (by decide), fr5.2.1 7 (by decide)]
  have h8 : gA M3 8 = pu_z (gA M 8) 0 10 := by
    rw [k5.2.1 8 (by decide), zs_AI, zs_AI, t3, m4.2.1 8 (by decide), fr5.2.1 8 (by decide)]
  have h14 : gA M3 14 = pu_z (gA M 14) 0 3 := by
    rw [k5.2.1 14 (by decide), zs_AI, zs_AI, t4.2.1 14 (by decide), m3, fr5.2.1 14 (by decide)]
  have h5 : gA M3 5 = upd (upd (upd (gA M 5) 0 x) 1 y) 2 z := by
    rw [k5.2.1 5 (by decide), zs_AI, zs_AI, t4.2.1 5 (by decide), m4.2.1 5 (by decide), s5]
  have h6 : gA M3 6 = upd (upd (upd (gA M 6) 0 (pu_pw 4 x)) 1 (pu_pw 4 y)) 2 (pu_pw 4 z) := by
    rw [k5.2.1 6 (by decide), zs_AI, zs_AI, m6]
  have hc0 : gI M3 0 = 0 := by
    rw [k5.1 0 (by decide), zs_II, if_neg (by decide), zs_II, if_neg (by decide), t4.1 0 (by decide), m4.1 0 (by decide), zs_IA, zs_IA, zs_IA, zs_II, if_pos rfl]
  refine ⟨0, sI (sA (sA (sA O 4 0 x) 4 1 y) 4 2 z) 5 1, B1, P1, sI M3 4 1, ?_, ?_, ?_, ⟨1, ⟨by decide, q2, ?_, ?_, ?_⟩, ⟨?_, ?_, ?_, ?_, ?_, ?_, ?_, ?_, ?_, ?_, ?_, ?_⟩, ⟨?_, ?_, ?_, ?_, ?_, ?_, ?_⟩, ?_, ?_, ?_, ?_⟩⟩
  · unfold fL_begin fX6_begin
    rw [a1, pu_b1, if_neg g1, a2, pu_b1, if_neg g2, a3, pu_b1, if_neg g3, pu_ofb nx, pu_b1, pu_ofb ny, pu_b1, pu_ofb nz, pu_b1, p1, pu_b1]
    unfold fX1_empty
    rw [pu_b1, q1, pu_b2, pu_bxr]
  · unfold fX7_begin
    rw [b1, pu_b1, if_neg g1, b2, pu_b1, if_neg g2, b3, pu_b1, if_neg g3]
    unfold bX7_begin_27
    rw [if_pos (pu_le0 M), m1]
    have t1' : lX7_begin_103 1000 M1 0 = _ := t1
    rw [t1', k1, pu_b2]
  · rw [zs_II, if_neg (by decide)]; exact hc0
  · rw [zs_II, if_neg (by decide)]; exact k2
  · rw [zs_AI, q3, k3, zs_AI, zs_AI, zs_AI, t4.2.1 2 (by decide), m4.2.1 2 (by decide), fr5.2.1 2 (by decide), n4]
  · rw [zs_AI, q4, k4]
    simp only [zs_AI]
    rw [t4.2.1 3 (by decide), m4.2.1 3 (by decide), fr5.2.1 3 (by decide), n5, p3, u0, u1, u2, m6, v0, v1, v2]
  · rw [zs_II, if_pos rfl, zs_II, if_pos rfl]
  · rw [zs_AI, p4, h7, hV.2.1]
  · rw [zs_AI, p5, h8, hV.2.2.1]
  · rw [zs_AI, p7.2.1 4 (by decide), frM.2.1 9 (by decide), hV.2.2.2.1]
  · rw [zs_AI, p7.2.1 5 (by decide), frM.2.1 10 (by decide), hV.2.2.2.2.1]
  · rw [zs_AI, p6, h14, hV.2.2.2.2.2.1]
  · rw [zs_AI, zs_AI, h5]
    simp only [zs_AA, ↓reduceIte, hV.2.2.2.2.2.2.1]
  · rw [zs_AI, p3, h6, hV.2.2.2.2.2.2.2.1]
  · rw [zs_AI, p7.2.1 7 (by decide), frM.2.1 12 (by decide), hV.2.2.2.2.2.2.2.2.1]
  · rw [zs_AI, p7.2.1 8 (by decide), frM.2.1 13 (by decide), hV.2.2.2.2.2.2.2.2.2.1]
  · rw [zs_AI, p7.2.1 14 (by decide), frM.2.1 16 (by decide)]; exact hV.2.2.2.2.2.2.2.2.2.2.1
  · rw [zs_AI, p2, h6, v0, v1, v2]
  · rw [zs_AI, h5]
    exact pu_3 (by rw [w0]; exact ⟨x', hx1, hx2⟩) (by rw [w1]; exact ⟨y', hy1, hy2⟩) (by rw [w2]; exact ⟨z', hz1, hz2⟩)
  · rw [zs_AI, h6]
    exact pu_3 (by rw [v0]; exact pu_pw_el _ _) (by rw [v1]; exact pu_pw_el _ _) (by rw [v2]; exact pu_pw_el _ _)
  · rw [zs_AI, frM.2.1 9 (by decide)]; exact hN.2.2.1
  · rw [zs_AI, frM.2.1 10 (by decide)]; exact hN.2.2.2.1
  · rw [zs_AI, frM.2.1 12 (by decide)]; exact hN.2.2.2.2.1
  · rw [zs_AI, frM.2.1 13 (by decide)]; exact hN.2.2.2.2.2.1
  · rw [zs_AI, frM.2.1 15 (by decide)]; exact hN.2.2.2.2.2.2
  · intro hst
    rw [zs_II, if_pos rfl] at hst
    exact absurd hst (by decide)
  · unfold rR at hR ⊢
    rw [zs_II, if_neg (by decide), zs_LI, frM.1 35 (by decide), frM.2.2.1 36 (by decide)]
    exact hR
  · rw [zs_AI, k3]
    have e0 : rK0 0 (gA (sI (sI M2 11 0) 1 0) 2) := ⟨fun i hi => absurd hi (Nat.not_lt_zero _), fun i hi => absurd hi (Nat.not_lt_zero _)⟩
    exact e0.put (k := 0) (by decide) (fun z => by cases z)
  · intro _
    refine ⟨by omega, fun t ht => ?_⟩
    rw [zs_AI, h14]; exact if_pos ⟨Nat.zero_le _, ht⟩
theorem op_register {j : Nat} {O B P R M : zSt} (h : Rel j O B P R M) (x : Int32) : ∃ (r : Int32) (B' P' M' : zSt), fL_register O B P x = some (r, B', P') ∧ fX7_register M x = some M' ∧ gI M' 0 = r ∧ Rel (j + 1) O B' P' R M' := by
  unfold fL_register fX6_register fX7_register
  rcases pu_vot x with ⟨v, hv, rfl, a1, a2⟩ | ⟨a1, a2⟩
  rotate_left
  · rw [a1, pu_b1, if_pos rfl, pu_bxl, if_pos rfl, a2, pu_b1, if_neg pu_hn10]
    unfold bX7_register_46
    rw [if_neg (pu_gt0 M pu_hn12)]
    exact ⟨1, B, P, _, rfl, rfl, pu_c0 _ _, h.code 1⟩
  rw [a1, pu_b1, if_neg pu_hn10, a2, pu_b1, if_pos rfl]
  have hh := h
  obtain ⟨n, ⟨n1, n2, n3, n4, n5⟩, hV, hN, hE, hR, hK⟩ := h
  have bad : ∃ (r : Int32) (B' P' M' : zSt), zbx (some (.inl "java/lang/IllegalStateException" : String ⊕ (zSt × zSt))) (fun E => if E = "java/lang/IllegalArgumentException" then some ((1 : Int32), B, P) else (if E = "java/lang/IllegalStateException" then some ((2 : Int32), B, P) else (if E = "java/lang/UnsupportedOperationException" then some ((3 : Int32), B, P) else none))) (fun x => some ((0 : Int32), x.1, x.2)) = some (r, B', P') ∧ bX7_register_29 M (nI v) = some M' ∧ gI M' 0 = r ∧ Rel (j + 1) O B' P' R M' := by
    rw [pu_bxl, if_neg (by decide), if_pos rfl]
    unfold bX7_register_29 bX7_register_46
    rw [if_neg (pu_gt0 M (show ¬ (2 : Int32) ≤ 0 by decide))]
    exact ⟨2, B, P, _, rfl, rfl, pu_c0 _ _, hh.code 2⟩
  have hst : gI O 5 = gI M 4 := hV.1
  have h2 : gA P 2 = gA M 7 := hV.2.1
  rw [hst, h2]
  by_cases g1 : gI M 4 = 1
  rotate_left
  · rw [if_neg g1, if_neg g1]; exact bad
  rw [if_pos g1, if_pos g1, pu_zn hv (by decide), pu_zn hv (by decide), pu_zn hv (by decide), pu_c (by omega)]
  by_cases g2 : gA M 7 v = 0
  rotate_left
  · rw [if_neg g2, if_neg g2]; exact bad
  rw [if_pos g2, if_pos g2]
  rcases pu_room B M (m := 1) n1 (by decide) n2 n3 with ⟨r1, r2, r3⟩ | ⟨r1, r2, r3⟩
  rotate_left
  · have r2' : fX1_hasRoom B 1 = some 0 := r2
    have r3' : fX7_noRoom M 1 = some 1 := r3
    rw [r2', pu_b1, if_pos rfl, pu_bxl, if_neg (by decide), if_neg (by decide), if_pos rfl, r3', pu_b1, if_neg pu_hn10]
    unfold bX7_register_46
    rw [if_neg (pu_gt0 M (show ¬ (3 : Int32) ≤ 0 by decide))]
    exact ⟨3, B, P, _, rfl, rfl, pu_c0 _ _, hh.code 3⟩
  have r2' : fX1_hasRoom B 1 = some 1 := r2
  have r3' : fX7_noRoom M 1 = some 0 := r3
  obtain ⟨B1, b1, b2, b3, b4⟩ := pu_put1 B (n := n) (1 : Int32) (nI v) 0 0 (by omega) n2
  obtain ⟨M1, m1, m2, m3, m4, m5⟩ := pu_put7 (sA (sI M 0 0) 7 v 1) (n := n) (1 : Int32) (nI v) 0 0 (by omega) (by rw [zs_IA, zs_II, if_neg (by decide)]; exact n3)
  have frM : pu_fr [0, 1] [2, 3, 7] [] [] M M1 := (((pu_fr.refl _ _ _ _ M).sI (by decide) _).sA (by decide) _ _).trans (m5.mono (by decide) (by decide) (by decide) (by decide))
  have h7 : gA M1 7 = upd (gA M 7) v 1 := by
    rw [m5.2.1 7 (by decide)]; simp only [zs_AA, zs_AI, ↓reduceIte]
  rw [r2', pu_b1, if_neg pu_hn10, b1, pu_b2, pu_bxr, r3', pu_b1, if_pos rfl]
  unfold bX7_register_46
  rw [if_pos (pu_le0 M), pu_zn hv (by decide), pu_c (by omega), m1, pu_b2]
  refine ⟨0, B1, sA P 2 v 1, M1, rfl, rfl, ?_, ⟨n + 1, ⟨r1, b2, m2, ?_, ?_⟩, ⟨?_, ?_, ?_⟩, ?_, ?_, ?_, ?_, ?_⟩⟩
  · rw [m5.1 0 (by decide), zs_IA]; exact pu_c0 _ _
  · rw [b3, m3, zs_AA, if_neg (by decide), zs_AI, n4]
  · rw [b4, m4, zs_AA, if_neg (by decide), zs_AI, n5]
  · rw [frM.1 4 (by decide)]; exact hst
  · rw [zs_AA, if_pos rfl, h7, h2]
  · rw [frM.2.1 8 (by decide), frM.2.1 9 (by decide), frM.2.1 10 (by decide), frM.2.1 14 (by decide), frM.2.1 5 (by decide), frM.2.1 6 (by decide), frM.2.1 12 (by decide), frM.2.1 13 (by decide), frM.2.1 16 (by decide)]
    exact hV.2.2
  · unfold rN at hN ⊢
    rw [frM.2.1 5 (by decide), frM.2.1 6 (by decide), frM.2.1 9 (by decide), frM.2.1 10 (by decide), frM.2.1 12 (by decide), frM.2.1 13 (by decide), frM.2.1 15 (by decide)]
    exact hN
  · unfold rE; intro z
    rw [frM.1 4 (by decide), g1] at z
    exact absurd z (by decide)
  · unfold rR at hR ⊢
    rw [frM.1 35 (by decide), frM.2.2.1 36 (by decide)]
    exact hR
  · rw [m3, zs_AA, if_neg (by decide), zs_AI]
    exact hK.1.put (k := 1) (by decide) (fun z => by cases z)
  · intro z
    rw [frM.1 4 (by decide)] at z
    rw [frM.2.1 14 (by decide)]
    exact ⟨Nat.succ_le_succ (hK.2 z).1, (hK.2 z).2⟩
theorem op_cast {j : Nat} {O B P R M : zSt} (h : Rel j O B P R M) (U : zSt) (x y z : Int32) : ∃ (r b : Int32) (B' P' U' M' : zSt), fL_cast O B P U x y z = some (r, B', P', U') ∧ fX7_cast M x y z = some (b, M') ∧ gI M' 0 = r ∧ (r = 0 → lg_cmp (gL U' 0 0) b.toInt64 = 0) ∧ Rel (j + 1) O B' P' R M' := by
  unfold fL_cast fX6_cast fX7_cast
  have hh := h
  obtain ⟨n, ⟨n1, n2, n3, n4, n5⟩, hV, hN, hE, hR, hK⟩ := h
  have bad1 : ∃ (r b : Int32) (B' P' U' M' : zSt), zbx (some (.inl "java/lang/IllegalArgumentException" : String ⊕ (Int32 × zSt × zSt))) (fun E => if E = "java/lang/IllegalArgumentException" then some ((1 : Int32), B, P, U) else (if E = "java/lang/IllegalStateException" then some ((2 : Int32), B, P, U) else (if E = "java/lang/UnsupportedOperationException" then some ((3 : Int32), B, P, U) else none))) (fun x => some ((0 : Int32), x.2.1, x.2.2, (sL U 0 0 (((x.1).toInt64))))) = some (r, B', P', U') ∧ bX7_cast_24 M x y z = some (b, M') ∧ gI M' 0 = r ∧ (r = 0 → lg_cmp (gL U' 0 0) b.toInt64 = 0) ∧ Rel (j + 1) O B' P' R M' := by
    rw [pu_bxl, if_pos rfl]
    unfold bX7_cast_24 bX7_cast_62
    rw [if_neg (pu_gt0 M pu_hn12)]
    exact ⟨1, 0, B, P, U, _, rfl, rfl, pu_c0 _ _, fun z => absurd z (by decide), hh.code 1⟩
  have bad2 : ∃ (r b : Int32) (B' P' U' M' : zSt), zbx (some (.inl "java/lang/IllegalStateException" : String ⊕ (Int32 × zSt × zSt))) (fun E => if E = "java/lang/IllegalArgumentException" then some ((1 : Int32), B, P, U) else (if E = "java/lang/IllegalStateException" then some ((2 : Int32), B, P, U) else (if E = "java/lang/UnsupportedOperationException" then some ((3 : Int32), B, P, U) else none))) (fun x => some ((0 : Int32), x.2.1, x.2.2, (sL U 0 0 (((x.1).toInt64))))) = some (r, B', P', U') ∧ bX7_cast_45 M x y z = some (b, M') ∧ gI M' 0 = r ∧ (r = 0 → lg_cmp (gL U' 0 0) b.toInt64 = 0) ∧ Rel (j + 1) O B' P' R M' := by
    rw [pu_bxl, if_neg (by decide), if_pos rfl]
    unfold bX7_cast_45 bX7_cast_62
    rw [if_neg (pu_gt0 M (show ¬ (2 : Int32) ≤ 0 by decide))]
    exact ⟨2, 0, B, P, U, _, rfl, rfl, pu_c0 _ _, fun z => absurd z (by decide), hh.code 2⟩
  rcases pu_vot x with ⟨v, hv, rfl, a1, a2⟩ | ⟨a1, a2⟩
  rotate_left
  · rw [a1, pu_b1, if_pos rfl, a2, pu_b1, if_neg pu_hn10]; exact bad1
  rw [a1, pu_b1, if_neg pu_hn10, a2, pu_b1, if_pos rfl]
  rcases pu_cho4 y with ⟨w, hw, rfl, c1, c2, c3, -⟩ | ⟨c1, c2⟩
  rotate_left
  · rw [c1, pu_b1, if_pos rfl]
    rcases c2 with c2 | ⟨c2, c3, -⟩
    · rw [if_pos c2]; exact bad1
    · rw [if_neg c2, if_pos c3]; exact bad1
  rw [c1, pu_b1, if_neg pu_hn10, if_neg c2, if_neg c3]
  obtain ⟨r0, d1, d2, d3⟩ := pu_isnu z
  rw [d1, pu_b1, d2, pu_b1]
  by_cases g0 : r0 = 0
  · rw [if_pos g0, if_pos g0]; exact bad1
  rw [if_neg g0, if_neg g0]
  obtain ⟨-, q, hq, rfl⟩ := d3.resolve_left g0
  have nz : pu_nn (nI q) := ⟨q, by omega, rfl⟩
  have nw : pu_nn (nI w) := ⟨w, by omega, rfl⟩
  have hst : gI O 5 = gI M 4 := hV.1
  have h2 : gA P 2 = gA M 7 := hV.2.1
  rw [hst, h2]
  by_cases g1 : gI M 4 = 1
  rotate_left
  · rw [if_neg g1, if_neg g1]; exact bad2
  rw [if_pos g1, if_pos g1, pu_zn hv (by decide), pu_zn hv (by decide), pu_c (show v < 2 ^ 31 by omega)]
  by_cases g2 : gA M 7 v = 0
  · rw [if_pos g2, if_pos g2]; exact bad2
  rw [if_neg g2, if_neg g2]
  rcases pu_room B M (m := 1) n1 (by decide) n2 n3 with ⟨r1, r2, r3⟩ | ⟨r1, r2, r3⟩
  rotate_left
  · have r2' : fX1_hasRoom B 1 = some 0 := r2
    have r3' : fX7_noRoom M 1 = some 1 := r3
    rw [r2', pu_b1, if_pos rfl, pu_bxl, if_neg (by decide), if_neg (by decide), if_pos rfl, r3', pu_b1, if_neg pu_hn10]
    unfold bX7_cast_62
    rw [if_neg (pu_gt0 M (show ¬ (3 : Int32) ≤ 0 by decide))]
    exact ⟨3, 0, B, P, U, _, rfl, rfl, pu_c0 _ _, fun z => absurd z (by decide), hh.code 3⟩
  have r2' : fX1_hasRoom B 1 = some 1 := r2
  have r3' : fX7_noRoom M 1 = some 0 := r3
  have e1 : gI P 1 = pu_tm (pu_tm (gA M 6 0) (gA M 6 1)) (gA M 6 2) := hV.2.2.2.2.2.2.2.2.2.2.2
  have ey : pu_el (pu_tm (pu_tm (gA M 6 0) (gA M 6 1)) (gA M 6 2)) := pu_tm_el _ _
  generalize hY : pu_tm (pu_tm (gA M 6 0) (gA M 6 1)) (gA M 6 2) = Y at *
  obtain ⟨B1, b1, b2, b3, b4⟩ := pu_put1 B (n := n) (2 : Int32) (nI v) (pu_pw 4 (nI q)) (pu_tm (pu_pw 4 (nI w)) (pu_pw Y (nI q))) (by omega) n2
  obtain ⟨M1, m1, m2, m3, m4, m5⟩ := pu_put7 (sA (sA (sA (sI M 0 0) 8 v 1) 9 v (pu_pw 4 (nI q))) 10 v (pu_tm (pu_pw 4 (nI w)) (pu_pw Y (nI q)))) (n := n) (2 : Int32) (nI v) (pu_pw 4 (nI q)) (pu_tm (pu_pw 4 (nI w)) (pu_pw Y (nI q))) (by omega) (by rw [zs_IA, zs_IA, zs_IA, zs_II, if_neg (by decide)]; exact n3)
  have frM : pu_fr [0, 1] [2, 3, 8, 9, 10] [] [] M M1 := (((((pu_fr.refl _ _ _ _ M).sI (by decide) _).sA (by decide) _ _).sA (by decide) _ _).sA (by decide) _ _).trans (m5.mono (by decide) (by decide) (by decide) (by decide))
  have h8 : gA M1 8 = upd (gA M 8) v 1 := by
    rw [m5.2.1 8 (by decide)]; simp only [zs_AA, zs_AI, ↓reduceIte, Nat.reduceEqDiff]
  have h9 : gA M1 9 = upd (gA M 9) v (pu_pw 4 (nI q)) := by
    rw [m5.2.1 9 (by decide)]; simp only [zs_AA, zs_AI, ↓reduceIte, Nat.reduceEqDiff]
  have h10 : gA M1 10 = upd (gA M 10) v (pu_tm (pu_pw 4 (nI w)) (pu_pw Y (nI q))) := by
    rw [m5.2.1 10 (by decide)]; simp only [zs_AA, zs_AI, ↓reduceIte, Nat.reduceEqDiff]
  have kb : fX4_keepBallot P (nI v) (pu_pw 4 (nI q)) (pu_tm (pu_pw 4 (nI w)) (pu_pw Y (nI q))) = some (sA (sA (sA P 3 v 1) 4 v (pu_pw 4 (nI q))) 5 v (pu_tm (pu_pw 4 (nI w)) (pu_pw Y (nI q)))) := by
    unfold fX4_keepBallot
    rw [pu_zn hv (by decide), pu_zn hv (by decide), pu_zn hv (by decide), pu_c (by omega)]
  have pk : fX7_publicKey (sA (sA (sI M 0 0) 8 v 1) 9 v (pu_pw 4 (nI q))) = some Y := by
    have e6 : gA (sA (sA (sI M 0 0) 8 v 1) 9 v (pu_pw 4 (nI q))) 6 = gA M 6 := by simp only [zs_AA, zs_AI, ↓reduceIte, Nat.reduceEqDiff]
    rw [pu_pk7 _ (by rw [e6]; exact hN.2.1 0 (by decide)) (by rw [e6]; exact hN.2.1 1 (by decide)) (by rw [e6]; exact hN.2.1 2 (by decide)), e6, hY]
  have f1 : ∀ S : zSt, gA (sA (sA S 9 v (pu_pw 4 (nI q))) 10 v (pu_tm (pu_pw 4 (nI w)) (pu_pw Y (nI q)))) 9 v = pu_pw 4 (nI q) := fun S => by
    rw [zs_AA, if_neg (by decide), zs_AA, if_pos rfl, pk_us]
  have f2 : ∀ S : zSt, gA (sA S 10 v (pu_tm (pu_pw 4 (nI w)) (pu_pw Y (nI q)))) 10 v = pu_tm (pu_pw 4 (nI w)) (pu_pw Y (nI q)) := fun S => by
    rw [zs_AA, if_pos rfl, pk_us]
  rw [r2', pu_b1, if_neg pu_hn10, pu_ofb nz, pu_b1, pu_ofb nw, pu_b1, e1, pu_pow3 ey nz, pu_b1, pu_tim3 (pu_pw_el _ _) (pu_pw_el _ _), pu_b1, kb, pu_b1, b1, pu_b2, pu_bxr, r3', pu_b1, if_pos rfl]
  unfold bX7_cast_62
  rw [if_pos (pu_le0 M), pu_zn hv (by decide), pu_pow7 pu_el4 nz, pu_b1, pu_zn hv (by decide), pu_pow7 pu_el4 nw, pu_b1, pu_c (show v < 2 ^ 31 by omega), pk, pu_b1, pu_pow7 ey nz, pu_b1, pu_tim7 (pu_pw_el _ _) (pu_pw_el _ _), pu_b1, pu_zn hv (by decide), pu_zn hv (by decide), pu_zn hv (by decide), f1, f2, m1, pu_b2]
  refine ⟨0, nI n, B1, _, _, M1, rfl, rfl, ?_, ?_, ⟨n + 1, ⟨r1, b2, m2, ?_, ?_⟩, ⟨?_, ?_, ?_, ?_, ?_, ?_⟩, ⟨?_, ?_, ?_, ?_, ?_⟩, ?_, ?_, ?_, ?_⟩⟩
  · rw [m5.1 0 (by decide), zs_IA, zs_IA, zs_IA]; exact pu_c0 _ _
  · intro _; rw [pu_out]; exact pu_cr _
  · rw [b3, m3]; simp only [zs_AA, zs_AI, ↓reduceIte, Nat.reduceEqDiff]; rw [n4]
  · rw [b4, m4]; simp only [zs_AA, zs_AI, ↓reduceIte, Nat.reduceEqDiff]; rw [n5]
  · rw [frM.1 4 (by decide)]; exact hst
  · simp only [zs_AA, ↓reduceIte, Nat.reduceEqDiff]; rw [frM.2.1 7 (by decide)]; exact h2
  · simp only [zs_AA, ↓reduceIte, Nat.reduceEqDiff]; rw [h8, hV.2.2.1]
  · simp only [zs_AA, ↓reduceIte, Nat.reduceEqDiff]; rw [h9, hV.2.2.2.1]
  · simp only [zs_AA, ↓reduceIte, Nat.reduceEqDiff]; rw [h10, hV.2.2.2.2.1]
  · simp only [zs_AA, zs_IA, ↓reduceIte, Nat.reduceEqDiff]
    rw [frM.2.1 14 (by decide), frM.2.1 5 (by decide), frM.2.1 6 (by decide), frM.2.1 12 (by decide), frM.2.1 13 (by decide), frM.2.1 16 (by decide)]
    have := hV.2.2.2.2.2
    rw [hY] at this ⊢
    exact this
  · rw [frM.2.1 5 (by decide)]; exact hN.1
  · rw [frM.2.1 6 (by decide)]; exact hN.2.1
  · rw [h9]; intro t ht
    by_cases ht2 : t = v
    · rw [ht2, pk_us]; exact pu_pw_el _ _
    · rw [pk_un ht2]; exact hN.2.2.1 t ht
  · rw [h10]; intro t ht
    by_cases ht2 : t = v
    · rw [ht2, pk_us]; exact pu_tm_el _ _
    · rw [pk_un ht2]; exact hN.2.2.2.1 t ht
  · rw [frM.2.1 12 (by decide), frM.2.1 13 (by decide), frM.2.1 15 (by decide)]
    exact hN.2.2.2.2
  · unfold rE; intro z
    rw [frM.1 4 (by decide), g1] at z
    exact absurd z (by decide)
  · unfold rR at hR ⊢
    rw [frM.1 35 (by decide), frM.2.2.1 36 (by decide)]
    exact hR
  · rw [m3]; simp only [zs_AA, zs_AI, ↓reduceIte, Nat.reduceEqDiff]
    exact hK.1.put (k := 2) (by decide) (fun z => by cases z)
  · intro z
    rw [frM.1 4 (by decide)] at z
    rw [frM.2.1 14 (by decide)]
    exact ⟨Nat.succ_le_succ (hK.2 z).1, (hK.2 z).2⟩
theorem op_phase {j : Nat} {O B P R M : zSt} (h : Rel j O B P R M) : ∃ (r : Int32) (M' : zSt), fX6_phase O = some r ∧ fX7_phase M = some (r, M') ∧ Rel (j + 1) O B P R M' := by
  have hh := h
  obtain ⟨n, hB, hV, -⟩ := h
  refine ⟨gI M 4, sI M 0 0, ?_, ?_, hh.code 0⟩
  · unfold fX6_phase; rw [hV.1]
  · unfold fX7_phase; rw [zs_II, if_neg (by decide)]
theorem op_records {j : Nat} {O B P R M : zSt} (h : Rel j O B P R M) : ∃ (r : Int32) (M' : zSt), fX6_records O B = some r ∧ fX7_records M = some (r, M') ∧ Rel (j + 1) O B P R M' := by
  have hh := h
  obtain ⟨n, ⟨n1, n2, n3, n4, n5⟩, hV, -⟩ := h
  refine ⟨nI n, sI M 0 0, ?_, ?_, hh.code 0⟩
  · unfold fX6_records; rw [n2]
  · unfold fX7_records; rw [zs_II, if_neg (by decide), n3]
theorem op_votes {j : Nat} {O B P R M : zSt} (h : Rel j O B P R M) (U : zSt) (x : Int32) : ∃ (r b : Int32) (U' M' : zSt), fL_votes O P U x = some (r, U') ∧ fX7_votes M x = some (b, M') ∧ gI M' 0 = r ∧ (r = 0 → lg_cmp (gL U' 0 0) b.toInt64 = 0) ∧ Rel (j + 1) O B P R M' := by
  have hh := h
  obtain ⟨n, hB, hV, -⟩ := h
  unfold fL_votes fX6_votes fX7_votes
  have bad : ∃ (r b : Int32) (U' M' : zSt), zbx (some (.inl "java/lang/IllegalArgumentException" : String ⊕ Int32)) (fun E => if E = "java/lang/IllegalArgumentException" then some ((1 : Int32), U) else none) (fun x => some ((0 : Int32), (sL U 0 0 ((x.toInt64))))) = some (r, U') ∧ bX7_votes_10 M x = some (b, M') ∧ gI M' 0 = r ∧ (r = 0 → lg_cmp (gL U' 0 0) b.toInt64 = 0) ∧ Rel (j + 1) O B P R M' := by
    rw [pu_bxl, if_pos rfl]
    unfold bX7_votes_10 bX7_votes_15
    rw [if_neg (pu_gt0 M pu_hn12)]
    exact ⟨1, 0, U, _, rfl, rfl, pu_c0 _ _, fun z => absurd z (by decide), hh.code 1⟩
  rcases pu_cho4 x with ⟨w, hw, rfl, c1, c2, c4, c3⟩ | ⟨c1, c2⟩
  rotate_left
  · rw [c1, pu_b1, if_pos rfl]
    rcases c2 with c2 | ⟨c2, c3, c4⟩
    · rw [if_pos c2]; exact bad
    · rw [if_neg c2, if_neg c4]; exact bad
  rw [c1, pu_b1, if_neg pu_hn10, if_neg c2, if_pos c3, hV.1]
  unfold bX7_votes_15
  rw [if_pos (pu_le0 M)]
  have e4 : gI (sI M 0 0) 4 = gI M 4 := by rw [zs_II, if_neg (by decide)]
  have e16 : gA (sI M 0 0) 16 = gA M 16 := zs_AI ..
  rw [e4, e16]
  by_cases g : gI M 4 = 4
  · rw [if_pos g, if_pos g, pu_zn hw (by decide), pu_zn hw (by decide), pu_c (by omega), pu_bxr, hV.2.2.2.2.2.2.2.2.2.2.1 w hw]
    exact ⟨0, _, _, _, rfl, rfl, pu_c0 _ _, fun _ => by rw [pu_out]; exact pu_cr _, hh.code 0⟩
  · rw [if_neg g, if_neg g, pu_bxr]
    exact ⟨0, _, _, _, rfl, rfl, pu_c0 _ _, fun _ => by rw [pu_out]; exact pu_cr _, hh.code 0⟩
theorem pu_f6 (x : Int32) : x < 0 ∨ (¬ x < 0 ∧ ¬ x ≤ 6) ∨ ∃ v, v < 7 ∧ x = nI v := by
  rcases pk_ix x (n := 7) (by decide) with h | h | h
  · exact Or.inl h
  · by_cases h0 : x < 0
    · exact Or.inl h0
    · refine Or.inr (Or.inl ⟨h0, fun z => ?_⟩)
      have h7 : (7 : Int32) ≤ x := h
      rw [Int32.le_iff_toInt_le] at z h7
      have e6 : (6 : Int32).toInt = 6 := rfl
      have e7 : (7 : Int32).toInt = 7 := rfl
      omega
  · exact Or.inr (Or.inr h)
theorem op_field {j : Nat} {O B P R M : zSt} (h : Rel j O B P R M) (U : zSt) (x y : Int32) : ∃ (r b : Int32) (U' M' : zSt), fL_field O B U x y = some (r, U') ∧ fX7_field M x y = some (b, M') ∧ gI M' 0 = r ∧ (r = 0 → lg_cmp (gL U' 0 0) b.toInt64 = 0) ∧ Rel (j + 1) O B P R M' := by
  have hh := h
  obtain ⟨n, ⟨n1, n2, n3, n4, n5⟩, hV, -⟩ := h
  unfold fL_field fX6_field fX7_field
  have bad : ∃ (r b : Int32) (U' M' : zSt), zbx (some (.inl "java/lang/IndexOutOfBoundsException" : String ⊕ Int32)) (fun E => if E = "java/lang/IndexOutOfBoundsException" then some ((1 : Int32), U) else none) (fun x => some ((0 : Int32), (sL U 0 0 ((x.toInt64))))) = some (r, U') ∧ bX7_field_19 M x y = some (b, M') ∧ gI M' 0 = r ∧ (r = 0 → lg_cmp (gL U' 0 0) b.toInt64 = 0) ∧ Rel (j + 1) O B P R M' := by
    rw [pu_bxl, if_pos rfl]
    unfold bX7_field_19 bX7_field_24
    rw [if_neg (pu_gt0 M pu_hn12)]
    exact ⟨1, 0, U, _, rfl, rfl, pu_c0 _ _, fun z => absurd z (by decide), hh.code 1⟩
  rcases pu_rec B M n1 n2 n3 x with ⟨k, hk, rfl, a1, a2⟩ | ⟨a1, a2⟩
  rotate_left
  · rw [a1, pu_b1, if_pos rfl, a2, pu_b1, if_neg pu_hn10]; exact bad
  rw [a1, pu_b1, if_neg pu_hn10, a2, pu_b1, if_pos rfl]
  rcases pu_f6 y with g | ⟨g, g2⟩ | ⟨v, hv, rfl⟩
  · rw [if_pos g, if_pos g]; exact bad
  · rw [if_neg g, if_neg g2, if_neg g, if_neg g2]; exact bad
  rw [if_neg (nI_pos (by omega)), if_neg (nI_pos (by omega)), if_pos (show nI v ≤ (6 : Int32) from nI_le (b := 6) (by omega) (by decide)), if_pos (show nI v ≤ (6 : Int32) from nI_le (b := 6) (by omega) (by decide))]
  unfold bX7_field_24
  rw [if_pos (pu_le0 M)]
  have e2 : gA (sI M 0 0) 2 = gA M 2 := zs_AI ..
  have e3 : gA (sI M 0 0) 3 = gA M 3 := zs_AI ..
  rw [e2, e3]
  rcases Nat.eq_zero_or_pos v with hv0 | hv0
  · subst hv0
    unfold fX1_kind
    rw [if_pos (show nI 0 = 0 from rfl), if_pos (show nI 0 = 0 from rfl), pu_zn (show k < 160 by omega) (by decide), pu_zn (show k < 160 by omega) (by decide), pu_c (by omega), pu_b1, pu_bxr, n4]
    exact ⟨0, _, _, _, rfl, rfl, pu_c0 _ _, fun _ => by rw [pu_out]; exact pu_cr _, hh.code 0⟩
  · have e1 : nI v - (1 : Int32) = nI (v - 1) := pk_sub (b := 1) hv0
    have e5 : (6 : Int32) * nI k + nI v - (1 : Int32) = nI (6 * k + (v - 1)) := by
      rw [pu_i7]
      have : nI (6 * k + v) - (1 : Int32) = nI (6 * k + v - 1) := pk_sub (b := 1) (by omega)
      rw [this]; exact congrArg nI (by omega)
    rw [if_neg (nI_ne0 hv0 (by omega)), if_neg (nI_ne0 hv0 (by omega)), e1, pu_nu1 B (nI (v - 1)) (v - 1) (by omega) (by omega) rfl, pu_b1, pu_bxr, e5, pu_zn (by omega) (by decide), pu_c (by omega), n5]
    exact ⟨0, _, _, _, rfl, rfl, pu_c0 _ _, fun _ => by rw [pu_out]; exact pu_cr _, hh.code 0⟩
theorem op_forge {j : Nat} {O B P R M : zSt} (h : Rel j O B P R M) (U : zSt) (x y z : Int32) : ∃ (r b : Int32) (B' U' M' : zSt), fL_forge O B U x y z = some (r, B', U') ∧ fX7_forge M x y z = some (b, M') ∧ gI M' 0 = r ∧ (r = 0 → lg_cmp (gL U' 0 0) b.toInt64 = 0) ∧ Rel (j + 1) O B' P R M' := by
  have hh := h
  obtain ⟨n, ⟨n1, n2, n3, n4, n5⟩, hV, hN, hE, hR, hK⟩ := h
  unfold fL_forge fX6_forge fX7_forge
  have bad : ∃ (r b : Int32) (B' U' M' : zSt), zbx (some (.inl "java/lang/IndexOutOfBoundsException" : String ⊕ (Int32 × zSt))) (fun E => if E = "java/lang/IndexOutOfBoundsException" then some ((1 : Int32), B, U) else none) (fun x => some ((0 : Int32), x.2, (sL U 0 0 (((x.1).toInt64))))) = some (r, B', U') ∧ bX7_forge_20 M x y z = some (b, M') ∧ gI M' 0 = r ∧ (r = 0 → lg_cmp (gL U' 0 0) b.toInt64 = 0) ∧ Rel (j + 1) O B' P R M' := by
    rw [pu_bxl, if_pos rfl]
    unfold bX7_forge_20 bX7_forge_25
    rw [if_neg (pu_gt0 M pu_hn12)]
    exact ⟨1, 0, B, U, _, rfl, rfl, pu_c0 _ _, fun z => absurd z (by decide), hh.code 1⟩
  rcases pu_rec B M n1 n2 n3 x with ⟨k, hk, rfl, a1, a2⟩ | ⟨a1, a2⟩
  rotate_left
  · rw [a1, pu_b1, if_pos rfl, a2, pu_b1, if_neg pu_hn10]; exact bad
  rw [a1, pu_b1, if_neg pu_hn10, a2, pu_b1, if_pos rfl]
  have hlt : y < 0 → y < 1 := fun g => by
    rw [Int32.lt_iff_toInt_lt] at g ⊢
    have e1 : (1 : Int32).toInt = 1 := rfl
    have e0 : (0 : Int32).toInt = 0 := rfl
    omega
  rcases pu_f6 y with g | ⟨g, g2⟩ | ⟨v, hv, rfl⟩
  · rw [if_pos (hlt g), if_pos (hlt g)]; exact bad
  · by_cases g1 : y < 1
    · rw [if_pos g1, if_pos g1]; exact bad
    · rw [if_neg g1, if_neg g2, if_neg g1, if_neg g2]; exact bad
  rcases Nat.eq_zero_or_pos v with hv0 | hv0
  · subst hv0
    rw [if_pos (show nI 0 < (1 : Int32) by decide), if_pos (show nI 0 < (1 : Int32) by decide)]; exact bad
  rw [if_neg (show ¬ nI v < (1 : Int32) from nI_nlt (b := 1) hv0 (by omega)), if_neg (show ¬ nI v < (1 : Int32) from nI_nlt (b := 1) hv0 (by omega)), if_pos (show nI v ≤ (6 : Int32) from nI_le (b := 6) (by omega) (by decide)), if_pos (show nI v ≤ (6 : Int32) from nI_le (b := 6) (by omega) (by decide))]
  unfold bX7_forge_25
  rw [if_pos (pu_le0 M)]
  have e3 : gA (sI M 0 0) 3 = gA M 3 := zs_AI ..
  have e1 : nI v - (1 : Int32) = nI (v - 1) := pk_sub (b := 1) hv0
  have e5 : (6 : Int32) * nI k + nI v - (1 : Int32) = nI (6 * k + (v - 1)) := by
    rw [pu_i7]
    have : nI (6 * k + v) - (1 : Int32) = nI (6 * k + v - 1) := pk_sub (b := 1) (by omega)
    rw [this]; exact congrArg nI (by omega)
  rw [e1, pu_nu1 B (nI (v - 1)) (v - 1) (by omega) (by omega) rfl, pu_b1, pu_wr1 B z (nI (v - 1)) (v - 1) (by omega) (by omega) rfl, pu_b1, pu_bxr, e5, pu_zn (by omega) (by decide), pu_zn (by omega) (by decide), pu_c (by omega), e3, n5]
  have fM : pu_fr [0] [3] [] [] M (sA (sI M 0 0) 3 (6 * k + (v - 1)) z) := ((pu_fr.refl _ _ _ _ M).sI (by decide) _).sA (by decide) _ _
  refine ⟨0, _, _, _, _, rfl, rfl, ?_, fun _ => by rw [pu_out]; exact pu_cr _, n, ⟨n1, ?_, ?_, ?_, ?_⟩, ?_, ?_, ?_, ?_, ?_⟩
  · rw [zs_IA]; exact pu_c0 _ _
  · rw [zs_IA]; exact n2
  · rw [fM.1 1 (by decide)]; exact n3
  · rw [zs_AA, if_neg (by decide), fM.2.1 2 (by decide)]; exact n4
  · rw [zs_AA, if_pos rfl, zs_AA, if_pos rfl, e3, n5]
  · unfold rV at hV ⊢
    rw [fM.1 4 (by decide), fM.2.1 7 (by decide), fM.2.1 8 (by decide), fM.2.1 9 (by decide), fM.2.1 10 (by decide), fM.2.1 14 (by decide), fM.2.1 5 (by decide), fM.2.1 6 (by decide), fM.2.1 12 (by decide), fM.2.1 13 (by decide), fM.2.1 16 (by decide)]
    exact hV
  · unfold rN at hN ⊢
    rw [fM.2.1 5 (by decide), fM.2.1 6 (by decide), fM.2.1 9 (by decide), fM.2.1 10 (by decide), fM.2.1 12 (by decide), fM.2.1 13 (by decide), fM.2.1 15 (by decide)]
    exact hN
  · unfold rE pu_o at hE ⊢
    rw [fM.1 4 (by decide), fM.1 11 (by decide), fM.2.1 14 (by decide), fM.2.1 15 (by decide)]
    exact hE
  · unfold rR at hR ⊢
    rw [fM.1 35 (by decide), fM.2.2.1 36 (by decide)]
    exact hR
  · unfold rK at hK ⊢
    rw [fM.1 4 (by decide), fM.2.1 2 (by decide), fM.2.1 14 (by decide)]
    exact ⟨hK.1, fun z => ⟨Nat.le_succ_of_le (hK.2 z).1, (hK.2 z).2⟩⟩
theorem op_leaf {j : Nat} {O B P R M : zSt} (h : Rel j O B P R M) (U : zSt) (x : Int32) : ∃ (r : Int32) (b : Int64) (U' M' : zSt), fL_leaf O B U x = some (r, U') ∧ fX7_leaf M x = some (b, M') ∧ gI M' 0 = r ∧ (r = 0 → lg_cmp (gL U' 0 0) b = 0) ∧ Rel (j + 1) O B P R M' := by
  have hh := h
  obtain ⟨n, ⟨n1, n2, n3, n4, n5⟩, hV, -⟩ := h
  unfold fL_leaf fX6_leaf fX7_leaf bX7_leaf_14
  rcases pu_rec B M n1 n2 n3 x with ⟨k, hk, rfl, a1, a2⟩ | ⟨a1, a2⟩
  rotate_left
  · rw [a1, pu_b1, if_pos rfl, a2, pu_b1, if_neg pu_hn10, pu_bxl, if_pos rfl, if_neg (pu_gt0 M pu_hn12)]
    exact ⟨1, 0, U, _, rfl, rfl, pu_c0 _ _, fun z => absurd z (by decide), hh.code 1⟩
  obtain ⟨M1, m1, m2⟩ := pu_leaf7 (sI M 0 0) (show k < 160 by omega)
  rw [a1, pu_b1, if_neg pu_hn10, a2, pu_b1, if_pos rfl, pu_leaf1 B (show k < 160 by omega), pu_b1, pu_bxr, if_pos (pu_le0 M), m1, pu_b2]
  refine ⟨0, _, _, M1, rfl, rfl, ?_, fun _ => ?_, hh.same (pu_fr.refl _ _ _ _ B) (pu_fr.refl _ _ _ _ R) (((pu_fr.refl _ _ _ _ M).sI (by decide) _).trans (m2.mono (by decide) (by decide) (by decide) (by decide)))⟩
  · rw [m2.1 0 (by decide)]; exact pu_c0 _ _
  · rw [pu_out, n4, n5, zs_AI, zs_AI]; exact pu_cr _
theorem pu_le (x : Int32) {n : Nat} (hn : n < 2 ^ 31) : x < 0 ∨ (¬ x < 0 ∧ ¬ x ≤ nI n) ∨ ∃ v, v ≤ n ∧ x = nI v := by
  by_cases h0 : x < 0
  · exact Or.inl h0
  · by_cases h1 : x ≤ nI n
    · obtain ⟨v, hv, rfl⟩ := nI_of h0
      exact Or.inr (Or.inr ⟨v, (nI_leI hv hn).mp h1, rfl⟩)
    · exact Or.inr (Or.inl ⟨h0, h1⟩)
theorem op_head {j : Nat} {O B P R M : zSt} (h : Rel j O B P R M) (U : zSt) (x : Int32) : ∃ (r : Int32) (b : Int64) (B' U' M' : zSt), fL_head O B U x = some (r, B', U') ∧ fX7_head M x = some (b, M') ∧ gI M' 0 = r ∧ (r = 0 → lg_cmp (gL U' 0 0) b = 0) ∧ Rel (j + 1) O B' P R M' := by
  have hh := h
  obtain ⟨n, ⟨n1, n2, n3, n4, n5⟩, hV, -⟩ := h
  unfold fL_head fX6_head fX7_head
  have bad : ∃ (r : Int32) (b : Int64) (B' U' M' : zSt), zbx (some (.inl "java/lang/IndexOutOfBoundsException" : String ⊕ (Int64 × zSt))) (fun E => if E = "java/lang/IndexOutOfBoundsException" then some ((1 : Int32), B, U) else none) (fun x => some ((0 : Int32), x.2, (sL U 0 0 x.1))) = some (r, B', U') ∧ bX7_head_13 M x = some (b, M') ∧ gI M' 0 = r ∧ (r = 0 → lg_cmp (gL U' 0 0) b = 0) ∧ Rel (j + 1) O B' P R M' := by
    rw [pu_bxl, if_pos rfl]
    unfold bX7_head_13 bX7_head_18 bX7_head_32
    rw [if_pos (show (0 : Int32) < gI (sI M 0 1) 0 by rw [pu_c0]; decide)]
    exact ⟨1, 0, B, U, _, rfl, rfl, pu_c0 _ _, fun z => absurd z (by decide), hh.code 1⟩
  rw [n2, n3]
  rcases pu_le x (n := n) (by omega) with g | ⟨g, g2⟩ | ⟨v, hv, rfl⟩
  · rw [if_pos g, if_pos g]; exact bad
  · rw [if_neg g, if_neg g2, if_neg g, if_neg g2]; exact bad
  rw [if_neg (nI_pos (by omega)), if_neg (nI_pos (by omega)), if_pos (nI_le hv (by omega)), if_pos (nI_le hv (by omega))]
  unfold bX7_head_18 bX7_head_32
  rw [if_neg (show ¬ (0 : Int32) < gI (sI M 0 0) 0 by rw [pu_c0]; decide)]
  rcases Nat.eq_zero_or_pos v with hv0 | hv0
  · subst hv0
    unfold fX1_headOf
    rw [if_pos (show nI 0 = 0 from rfl), if_pos (show nI 0 = 0 from rfl), pu_b2, pu_bxr]
    exact ⟨0, _, _, _, _, rfl, rfl, pu_c0 _ _, fun _ => by rw [pu_out]; exact pu_cr _, hh.code 0⟩
  · obtain ⟨B1, b1, b2⟩ := pu_head1 B (s := 0) (n := v) hv0 (by omega)
    obtain ⟨M1, m1, m2⟩ := pu_head7 (sI M 0 0) (s := 0) (n := v) hv0 (by omega)
    have b1' : fX1_headOf B 0 (nI v) = _ := b1
    have m1' : fX7_headOf (sI M 0 0) 0 (nI v) = _ := m1
    rw [b1', pu_b2, pu_bxr, if_neg (nI_ne0 hv0 (by omega)), m1', pu_b2]
    refine ⟨0, _, B1, _, M1, rfl, rfl, ?_, fun _ => ?_, hh.same b2 (pu_fr.refl _ _ _ _ R) (((pu_fr.refl _ _ _ _ M).sI (by decide) _).trans (m2.mono (by decide) (by decide) (by decide) (by decide)))⟩
    · rw [m2.1 0 (by decide)]; exact pu_c0 _ _
    · rw [pu_out, n4, n5, zs_AI, zs_AI]; exact pu_cr _
/-- behind a new proof -/
theorem Rel.newR {j : Nat} {O B P R M B' R' M' : zSt} (h : Rel j O B P R M) (fB : pu_fr [] [] [2] [] B B') (fM : pu_fr [0, 35] [] [34, 36, 37] [33] M M') (hR : rR R' M') : Rel (j + 1) O B' P R' M' := by
  obtain ⟨n, ⟨b1, b2, b3, b4, b5⟩, hV, hN, hE, -, hK⟩ := h
  refine ⟨n, ⟨b1, ?_, ?_, ?_, ?_⟩, ?_, ?_, ?_, hR, ?_⟩
  · rw [fB.1 3 (by decide)]; exact b2
  · rw [fM.1 1 (by decide)]; exact b3
  · rw [fB.2.1 0 (by decide), fM.2.1 2 (by decide)]; exact b4
  · rw [fB.2.1 1 (by decide), fM.2.1 3 (by decide)]; exact b5
  · unfold rV at hV ⊢
    rw [fM.1 4 (by decide), fM.2.1 7 (by decide), fM.2.1 8 (by decide), fM.2.1 9 (by decide), fM.2.1 10 (by decide), fM.2.1 14 (by decide), fM.2.1 5 (by decide), fM.2.1 6 (by decide), fM.2.1 12 (by decide), fM.2.1 13 (by decide), fM.2.1 16 (by decide)]
    exact hV
  · unfold rN at hN ⊢
    rw [fM.2.1 5 (by decide), fM.2.1 6 (by decide), fM.2.1 9 (by decide), fM.2.1 10 (by decide), fM.2.1 12 (by decide), fM.2.1 13 (by decide), fM.2.1 15 (by decide)]
    exact hN
  · unfold rE pu_o at hE ⊢
    rw [fM.1 4 (by decide), fM.1 11 (by decide), fM.2.1 14 (by decide), fM.2.1 15 (by decide)]
    exact hE
  · unfold rK at hK ⊢
    rw [fM.1 4 (by decide), fM.2.1 2 (by decide), fM.2.1 14 (by decide)]
    exact ⟨hK.1, fun z => ⟨Nat.le_succ_of_le (hK.2 z).1, (hK.2 z).2⟩⟩
theorem op_prove {j : Nat} {O B P R M : zSt} (h : Rel j O B P R M) (U : zSt) (x y : Int32) : ∃ (r b : Int32) (B' R' U' M' : zSt), fL_prove O B R U x y = some (r, B', R', U') ∧ fX7_prove M x y = some (b, M') ∧ gI M' 0 = r ∧ (r = 0 → lg_cmp (gL U' 0 0) b.toInt64 = 0) ∧ Rel (j + 1) O B' P R' M' := by
  have hh := h
  obtain ⟨n, ⟨n1, n2, n3, n4, n5⟩, hV, -⟩ := h
  unfold fL_prove fX6_prove fX7_prove
  have bad : ∃ (r b : Int32) (B' R' U' M' : zSt), zbx (some (.inl "java/lang/IndexOutOfBoundsException" : String ⊕ (Int32 × zSt × zSt))) (fun E => if E = "java/lang/IndexOutOfBoundsException" then some ((1 : Int32), B, R, U) else none) (fun x => some ((0 : Int32), x.2.1, x.2.2, (sL U 0 0 (((x.1).toInt64))))) = some (r, B', R', U') ∧ bX7_prove_18 M x y = some (b, M') ∧ gI M' 0 = r ∧ (r = 0 → lg_cmp (gL U' 0 0) b.toInt64 = 0) ∧ Rel (j + 1) O B' P R' M' := by
    rw [pu_bxl, if_pos rfl]
    unfold bX7_prove_18 bX7_prove_23
    rw [if_neg (pu_gt0 M pu_hn12)]
    exact ⟨1, 0, B, R, U, _, rfl, rfl, pu_c0 _ _, fun z => absurd z (by decide), hh.code 1⟩
  rw [n2, n3]
  by_cases g1 : nI n < y
  · rw [if_pos g1, if_neg (show ¬ y ≤ nI n from fun z => absurd g1 (by rw [Int32.lt_iff_toInt_lt]; rw [Int32.le_iff_toInt_le] at z; omega))]
    rw [ite_self, ite_self]; exact bad
  rw [if_neg g1]
  by_cases g2 : x < 0
  · rw [if_pos g2, if_pos g2]; exact bad
  rw [if_neg g2, if_neg g2]
  by_cases g3 : x < y
  rotate_left
  · rw [if_neg g3, if_pos (pu_i32.mp g3)]; exact bad
  obtain ⟨k, m, rfl, rfl, hk, hm⟩ := pu_ix2 g2 g3
  have hmn : m ≤ n := by
    rcases Nat.lt_or_ge n m with q | q
    · exact absurd (nI_lt q hm) g1
    · exact q
  rw [if_pos g3, if_neg (nI_ge hk hm), if_pos (nI_le hmn (by omega))]
  obtain ⟨q, B1, R1, M1, a1, a2, a3, a4, a5, a6, a7, a8⟩ := pu_prove B R (sI M 0 0) hk (by omega) (by rw [zs_AI]; exact n4) (by rw [zs_AI]; exact n5)
  unfold bX7_prove_23
  rw [if_pos (pu_le0 M), a1, pu_b3, pu_bxr, a2]
  have fM : pu_fr [0, 35] [] [34, 36, 37] [33] M M1 := ((pu_fr.refl _ _ _ _ M).sI (by decide) _).trans (a8.mono (by decide) (by decide) (by decide) (by decide))
  exact ⟨0, nI q, B1, R1, _, M1, rfl, rfl, (a8.1 0 (by decide)).trans (pu_c0 _ _), fun _ => by rw [pu_out]; exact pu_cr _, hh.newR a7 fM ⟨q, a3, a4, a5, a6⟩⟩
theorem op_relate {j : Nat} {O B P R M : zSt} (h : Rel j O B P R M) (U : zSt) (x y : Int32) : ∃ (r b : Int32) (B' R' U' M' : zSt), fL_relate O B R U x y = some (r, B', R', U') ∧ fX7_relate M x y = some (b, M') ∧ gI M' 0 = r ∧ (r = 0 → lg_cmp (gL U' 0 0) b.toInt64 = 0) ∧ Rel (j + 1) O B' P R' M' := by
  have hh := h
  obtain ⟨n, ⟨n1, n2, n3, n4, n5⟩, hV, -⟩ := h
  unfold fL_relate fX6_relate fX7_relate
  have bad : ∃ (r b : Int32) (B' R' U' M' : zSt), zbx (some (.inl "java/lang/IndexOutOfBoundsException" : String ⊕ (Int32 × zSt × zSt))) (fun E => if E = "java/lang/IndexOutOfBoundsException" then some ((1 : Int32), B, R, U) else none) (fun x => some ((0 : Int32), x.2.1, x.2.2, (sL U 0 0 (((x.1).toInt64))))) = some (r, B', R', U') ∧ bX7_relate_19 M x y = some (b, M') ∧ gI M' 0 = r ∧ (r = 0 → lg_cmp (gL U' 0 0) b.toInt64 = 0) ∧ Rel (j + 1) O B' P R' M' := by
    rw [pu_bxl, if_pos rfl]
    unfold bX7_relate_19 bX7_relate_24
    rw [if_neg (pu_gt0 M pu_hn12)]
    exact ⟨1, 0, B, R, U, _, rfl, rfl, pu_c0 _ _, fun z => absurd z (by decide), hh.code 1⟩
  rw [n2, n3]
  by_cases g1 : nI n < y
  · rw [if_pos g1, if_neg (show ¬ y ≤ nI n from fun z => absurd g1 (by rw [Int32.lt_iff_toInt_lt]; rw [Int32.le_iff_toInt_le] at z; omega))]
    rw [ite_self, ite_self]; exact bad
  rw [if_neg g1]
  by_cases g2 : x < 1
  · rw [if_pos g2, if_pos g2]; exact bad
  rw [if_neg g2, if_neg g2]
  by_cases g3 : x ≤ y
  rotate_left
  · rw [if_neg g3, if_pos (by rw [Int32.lt_iff_toInt_lt]; rw [Int32.le_iff_toInt_le] at g3; omega)]; exact bad
  obtain ⟨k, m, rfl, rfl, hk1, hk, hm⟩ := pu_ix2e g2 g3
  have hmn : m ≤ n := by
    rcases Nat.lt_or_ge n m with q | q
    · exact absurd (nI_lt q hm) g1
    · exact q
  rw [if_pos g3, if_neg (nI_nlt hk hm), if_pos (nI_le hmn (by omega))]
  obtain ⟨q, B1, R1, M1, a1, a2, a3, a4, a5, a6, a7, a8⟩ := pu_relate B R (sI M 0 0) hk1 hk (by omega) (by rw [zs_AI]; exact n4) (by rw [zs_AI]; exact n5)
  unfold bX7_relate_24
  rw [if_pos (pu_le0 M), a1, pu_b3, pu_bxr, a2]
  have fM : pu_fr [0, 35] [] [34, 36, 37] [33] M M1 := ((pu_fr.refl _ _ _ _ M).sI (by decide) _).trans (a8.mono (by decide) (by decide) (by decide) (by decide))
  exact ⟨0, nI q, B1, R1, _, M1, rfl, rfl, (a8.1 0 (by decide)).trans (pu_c0 _ _), fun _ => by rw [pu_out]; exact pu_cr _, hh.newR a7 fM ⟨q, a3, a4, a5, a6⟩⟩
theorem op_proof {j : Nat} {O B P R M : zSt} (h : Rel j O B P R M) (U : zSt) (x : Int32) : ∃ (r : Int32) (b : Int64) (U' M' : zSt), fL_proof O R U x = some (r, U') ∧ fX7_proof M x = some (b, M') ∧ gI M' 0 = r ∧ (r = 0 → lg_cmp (gL U' 0 0) b = 0) ∧ Rel (j + 1) O B P R M' := by
  have hh := h
  obtain ⟨n, hB, hV, hN, hE, ⟨c, c1, c2, c3, c4⟩, hK⟩ := h
  unfold fL_proof fX6_proof fX7_proof
  have bad : ∃ (r : Int32) (b : Int64) (U' M' : zSt), zbx (some (.inl "java/lang/IndexOutOfBoundsException" : String ⊕ Int64)) (fun E => if E = "java/lang/IndexOutOfBoundsException" then some ((1 : Int32), U) else none) (fun x => some ((0 : Int32), (sL U 0 0 x))) = some (r, U') ∧ bX7_proof_13 M x = some (b, M') ∧ gI M' 0 = r ∧ (r = 0 → lg_cmp (gL U' 0 0) b = 0) ∧ Rel (j + 1) O B P R M' := by
    rw [pu_bxl, if_pos rfl]
    unfold bX7_proof_13 bX7_proof_18
    rw [if_neg (pu_gt0 M pu_hn12)]
    exact ⟨1, 0, U, _, rfl, rfl, pu_c0 _ _, fun z => absurd z (by decide), hh.code 1⟩
  rw [c2, c3]
  by_cases g : x < 0
  · rw [if_pos g, if_pos g]; exact bad
  rw [if_neg g, if_neg g]
  by_cases g2 : x < nI c
  rotate_left
  · rw [if_neg g2, if_neg g2]; exact bad
  obtain ⟨i, hi, rfl⟩ := nI_of g
  have hic : i < c := (nI_ltI hi (by omega)).mp g2
  unfold bX7_proof_18
  rw [if_pos g2, if_pos g2, pu_zn (show i < 32 by omega) (by decide), if_pos (pu_le0 M), pu_zn (show i < 24 by omega) (by decide), pu_c hi, pu_bxr, zs_LI]
  exact ⟨0, _, _, _, rfl, rfl, pu_c0 _ _, fun _ => by rw [pu_out, c4 i hic]; exact pu_cr _, hh.code 0⟩
theorem op_shows {j : Nat} {O B P R M : zSt} (h : Rel j O B P R M) (x y : Int32) (u v : Int64) : ∃ (r : Int32) (R' M' : zSt), fX6_shows O R x y u v = some (r, R') ∧ fX7_shows M x y u v = some (r, M') ∧ Rel (j + 1) O B P R' M' := by
  have hh := h
  obtain ⟨n, hB, hV, hN, hE, ⟨c, c1, c2, c3, c4⟩, hK⟩ := h
  obtain ⟨r, R1, M1, a1, a2, a3, a4⟩ := pu_showsB O R M c1 c2 c3 c4 x y u v
  exact ⟨r, R1, M1, a1, a2, hh.same (pu_fr.refl _ _ _ _ B) a3 (a4.mono (by decide) (by decide) (by decide) (by decide))⟩
theorem op_continues {j : Nat} {O B P R M : zSt} (h : Rel j O B P R M) (x y : Int32) (u v : Int64) : ∃ (r : Int32) (R' M' : zSt), fX6_continues O R x y u v = some (r, R') ∧ fX7_continues M x y u v = some (r, M') ∧ Rel (j + 1) O B P R' M' := by
  have hh := h
  obtain ⟨n, hB, hV, hN, hE, ⟨c, c1, c2, c3, c4⟩, hK⟩ := h
  obtain ⟨r, R1, M1, a1, a2, a3, a4⟩ := pu_contB O R M c1 c2 c3 c4 x y u v
  exact ⟨r, R1, M1, a1, a2, hh.same (pu_fr.refl _ _ _ _ B) a3 (a4.mono (by decide) (by decide) (by decide) (by decide))⟩
