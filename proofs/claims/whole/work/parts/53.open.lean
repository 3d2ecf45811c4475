/-! Pure: shares and counts. -/
noncomputable def pu_sk (seed tr : Int32) (i : Nat) : Int32 := pu_dn (pu_dg (pu_dg (pu_dg 0 seed.toInt64) tr.toInt64) (nI i).toInt64)
noncomputable def pu_ch (y a d t u : Int32) : Int32 := pu_dn (pu_dg (pu_dg (pu_dg (pu_dg (pu_dg 0 y.toInt64) a.toInt64) d.toInt64) t.toInt64) u.toInt64)
def pu_ss (k c x : Int32) : Int32 := nI ((k.toNatClampNeg + c.toNatClampNeg * x.toNatClampNeg) % 2039)
/-- a share's record -/
noncomputable def pu_srec (F : Nat → Int32) (m : Nat) (tr : Int32) (i : Nat) (y a x seed : Int32) : Nat → Int32 :=
  upd (upd (upd (pu_row F m tr (nI i) (pu_pw a x)) (6 * m + 3) (pu_ss (pu_sk seed tr i) (pu_ch y a (pu_pw a x) (pu_pw 4 (pu_sk seed tr i)) (pu_pw a (pu_sk seed tr i))) x)) (6 * m + 4) (pu_pw 4 (pu_sk seed tr i))) (6 * m + 5) (pu_pw a (pu_sk seed tr i))
noncomputable def pu_sf (F : Nat → Int32) (n : Nat) (tr y x seed : Int32) (a : Nat → Int32) : Nat → (Nat → Int32)
  | 0 => F
  | i + 1 => pu_srec (pu_sf F n tr y x seed a i) (n + i) tr i y (a i) x seed
def pu_p6 (K : Nat → Int32) (n : Nat) : Nat → (Nat → Int32)
  | 0 => K
  | i + 1 => upd (pu_p6 K n i) (n + i) 6
theorem pu_chal (y a d t u : Int32) : fX2_challenge y a d t u = some (pu_ch y a d t u) := by
  unfold fX2_challenge
  rw [pu_with, pu_b1, pu_with, pu_b1, pu_with, pu_b1, pu_with, pu_b1, pu_with, pu_b1, pu_numb, pu_b1]
  rfl
theorem pu_dg3 (M : zSt) (seed tr : Int32) (i : Nat) : ∃ M' : zSt, fX7_digestOfThree M seed tr (nI i) = some (pu_sk seed tr i, M') ∧ pu_fr [] [] [] [33] M M' := by
  unfold fX7_digestOfThree
  obtain ⟨M1, a1, a2, a3⟩ := pu_ming (sJ M 33 0) seed.toInt64
  obtain ⟨M2, b1, b2, b3⟩ := pu_ming M1 tr.toInt64
  obtain ⟨M3, c1, c2, c3⟩ := pu_ming M2 (nI i).toInt64
  rw [a1, pu_b1, b1, pu_b1, c1, pu_b1]
  refine ⟨M3, ?_, ((pu_fr.refl _ _ _ _ M).sJ (by decide) _).trans (a3.trans (b3.trans c3))⟩
  rw [pu_asn, pu_b1, c2, b2, a2, zs_JJ, if_pos rfl]; rfl
theorem pu_dg5 (M : zSt) (y a d t u : Int32) : ∃ M' : zSt, fX7_digestOfFive M y a d t u = some (pu_ch y a d t u, M') ∧ pu_fr [] [] [] [33] M M' := by
  unfold fX7_digestOfFive
  obtain ⟨M1, a1, a2, a3⟩ := pu_ming (sJ M 33 0) y.toInt64
  obtain ⟨M2, b1, b2, b3⟩ := pu_ming M1 a.toInt64
  obtain ⟨M3, c1, c2, c3⟩ := pu_ming M2 d.toInt64
  obtain ⟨M4, d1, d2, d3⟩ := pu_ming M3 t.toInt64
  obtain ⟨M5, e1, e2, e3⟩ := pu_ming M4 u.toInt64
  rw [a1, pu_b1, b1, pu_b1, c1, pu_b1, d1, pu_b1, e1, pu_b1]
  refine ⟨M5, ?_, ((pu_fr.refl _ _ _ _ M).sJ (by decide) _).trans (a3.trans (b3.trans (c3.trans (d3.trans e3))))⟩
  rw [pu_asn, pu_b1, e2, d2, c2, b2, a2, zs_JJ, if_pos rfl]; rfl
theorem pu_lt3 {k c x : Nat} (hk : k < 2039) (hc : c < 2039) (hx : x < 2039) : k + c * x < 4160000 := by
  have h1 : c * x ≤ 2038 * 2038 := Nat.mul_le_mul (by omega) (by omega)
  omega
theorem pu_ss1 {k c x : Int32} (hk : ∃ n, n < 2039 ∧ k = nI n) (hc : ∃ n, n < 2039 ∧ c = nI n) (hx : ∃ n, n < 2039 ∧ x = nI n) : (k + (c * x)) - (k + (c * x)) / (2039 : Int32) * (2039 : Int32) = pu_ss k c x := by
  obtain ⟨k, h1, rfl⟩ := hk
  obtain ⟨c, h2, rfl⟩ := hc
  obtain ⟨x, h3, rfl⟩ := hx
  unfold pu_ss
  rw [pu_c (by omega), pu_c (by omega), pu_c (by omega), pk_mul, nI_add]
  exact pk_rem (by have := pu_lt3 h1 h2 h3; omega) (by decide) (by decide)
theorem pu_ss7 {k c x : Int32} (hk : ∃ n, n < 2039 ∧ k = nI n) (hc : ∃ n, n < 2039 ∧ c = nI n) (hx : ∃ n, n < 2039 ∧ x = nI n) : (((k.toInt64) + ((c.toInt64) * (x.toInt64))) - ((k.toInt64) + ((c.toInt64) * (x.toInt64))) / (2039 : Int64) * (2039 : Int64)).toInt32 = pu_ss k c x := by
  obtain ⟨k, h1, rfl⟩ := hk
  obtain ⟨c, h2, rfl⟩ := hc
  obtain ⟨x, h3, rfl⟩ := hx
  unfold pu_ss
  rw [pu_c (by omega), pu_c (by omega), pu_c (by omega), nI_l (by omega), nI_l (by omega), nI_l (by omega), lN_mul, lN_add]
  have h : lN (k + c * x) - lN (k + c * x) / (2039 : Int64) * (2039 : Int64) = lN ((k + c * x) % 2039) := pk_lRem (by have := pu_lt3 h1 h2 h3; omega) (by decide) (by decide)
  rw [h, lN_i]
theorem pu_sk_lt (s t : Int32) (i : Nat) : ∃ n, n < 2039 ∧ pu_sk s t i = nI n := pu_dn_lt _
theorem pu_ch_lt (y a d t u : Int32) : ∃ n, n < 2039 ∧ pu_ch y a d t u = nI n := pu_dn_lt _
/-- one share of the first -/
theorem pu_share (O B P : zSt) {n t i : Nat} (seed : Int32) (ht : t < 3) (hi : i < 10) (hn : n < 160) (h3 : gI B 3 = nI n) (hx : ∃ q, q < 2039 ∧ gA O 4 t = nI q) (ha : pu_el (gA P 7 i)) (hs : pu_el (gA P 12 i)) : ∃ B' : zSt, fX6_putShare O B P (nI t) (nI i) seed = some (B', sA P 12 i (pu_tm (gA P 12 i) (pu_pw (gA P 7 i) (gA O 4 t)))) ∧ gI B' 3 = nI (n + 1) ∧ gA B' 0 = upd (gA B 0) n 6 ∧ gA B' 1 = pu_srec (gA B 1) n (nI t) i (gA P 0 t) (gA P 7 i) (gA O 4 t) seed := by
  unfold fX6_putShare
  have xn : pu_nn (gA O 4 t) := by obtain ⟨q, h1, h2⟩ := hx; exact ⟨q, by omega, h2⟩
  have p1 : fX3_power (gA P 7 i) (gA O 4 t) = some (pu_pw (gA P 7 i) (gA O 4 t)) := pu_pow3 ha xn
  have p2 : fX2_number (pu_dg (pu_dg (pu_dg 0 seed.toInt64) (nI t).toInt64) (nI i).toInt64) = some (pu_sk seed (nI t) i) := pu_numb _
  have p3 : fX3_ofBase (pu_sk seed (nI t) i) = some (pu_pw 4 (pu_sk seed (nI t) i)) := pu_ofb (pu_dn_nn _)
  have p4 : fX3_power (gA P 7 i) (pu_sk seed (nI t) i) = some (pu_pw (gA P 7 i) (pu_sk seed (nI t) i)) := pu_pow3 ha (pu_dn_nn _)
  rw [pu_zn hi (by decide), pu_zn ht (by decide), pu_c (by omega), pu_c (by omega), p1, pu_b1, pu_with, pu_b1, pu_with, pu_b1, pu_with, pu_b1, p2, pu_b1, p3, pu_b1, p4, pu_b1, pu_zn ht (by decide), pu_chal, pu_b1]
  obtain ⟨B1, a1, a2, a3, a4⟩ := pu_put1 B (6 : Int32) (nI t) (nI i) (pu_pw (gA P 7 i) (gA O 4 t)) hn h3
  rw [a1, pu_b2, pu_zn ht (by decide), pu_ss1 (pu_sk_lt _ _ _) (pu_ch_lt _ _ _ _ _) hx, pu_wr1 _ _ (3 : Int32) 3 hn (by decide) rfl, pu_b1, pu_wr1 _ _ (4 : Int32) 4 hn (by decide) rfl, pu_b1, pu_wr1 _ _ (5 : Int32) 5 hn (by decide) rfl, pu_b1]
  unfold fX4_addShare
  rw [pu_zn hi (by decide), pu_c (by omega), pu_tim3 hs (pu_pw_el _ _), pu_b1, pu_zn hi (by decide), pu_b1]
  refine ⟨_, rfl, ?_, ?_, ?_⟩
  · simp only [zs_IA]; exact a2
  · simp only [zs_AA, ↓reduceIte, Nat.reduceEqDiff, reduceCtorEq]; exact a3
  · simp only [zs_AA, ↓reduceIte, a4]; rfl
theorem pu_op1 (O P0 : zSt) {n t e : Nat} (seed : Int32) (ht : t < 3) (he : e ≤ 10) (hn : n + e ≤ 160) (h6 : gI P0 6 = nI e) (K F : Nat → Int32) (hx : ∃ q, q < 2039 ∧ gA O 4 t = nI q) (ha : ∀ i, i < e → pu_el (gA P0 7 i)) (hs : ∀ i, i < e → pu_el (gA P0 12 i)) : ∀ (d f i : Nat) (B P : zSt), i + d = e → d < f → gI B 3 = nI (n + i) → gA B 0 = pu_p6 K n i → gA B 1 = pu_sf F n (nI t) (gA P0 0 t) (gA O 4 t) seed (gA P0 7) i → gA P 12 = pu_ov (fun j => pu_tm (gA P0 12 j) (pu_pw (gA P0 7 j) (gA O 4 t))) (gA P0 12) i → pu_fr [] [12] [] [] P0 P → ∃ B' P' : zSt, lX6_open_84 f O B P (nI t) seed (nI i) = some (.inr (sI O 5 3, B', sA P' 13 t 1)) ∧ gI B' 3 = nI (n + e) ∧ gA B' 0 = pu_p6 K n e ∧ gA B' 1 = pu_sf F n (nI t) (gA P0 0 t) (gA O 4 t) seed (gA P0 7) e ∧ gA P' 12 = pu_ov (fun j => pu_tm (gA P0 12 j) (pu_pw (gA P0 7 j) (gA O 4 t))) (gA P0 12) e ∧ pu_fr [] [12] [] [] P0 P' := by
  intro d
  induction d with
  | zero =>
    intro f i B P hi hf h3 h0 h1 h12 fr
    obtain ⟨g, rfl, -⟩ := pu_fu hf
    have h0' : i = e := by omega
    subst h0'
    refine ⟨B, P, ?_, h3, h0, h1, h12, fr⟩
    show bX6_open_84 _ _ _ _ _ _ _ = _
    unfold bX6_open_84
    rw [fr.1 6 (by decide), h6, if_pos (nI_le (Nat.le_refl _) (by omega)), pu_zn ht (by decide), pu_c (by omega)]
  | succ d ih =>
    intro f i B P hi hf h3 h0 h1 h12 fr
    obtain ⟨g, rfl, hg⟩ := pu_fu hf
    show ∃ B' P' : zSt, bX6_open_84 _ _ _ _ _ _ _ = _ ∧ _
    unfold bX6_open_84
    have e7 : gA P 7 = gA P0 7 := fr.2.1 7 (by decide)
    have e0 : gA P 0 = gA P0 0 := fr.2.1 0 (by decide)
    have e12 : gA P 12 i = gA P0 12 i := by rw [h12, pu_ov_out (Nat.le_refl _)]
    obtain ⟨B1, a1, a2, a3, a4⟩ := pu_share O B P seed ht (show i < 10 by omega) (show n + i < 160 by omega) h3 hx (by rw [e7]; exact ha i (by omega)) (by rw [e12]; exact hs i (by omega))
    rw [fr.1 6 (by decide), h6, if_neg (nI_ge (by omega) (by omega)), a1, pu_b2, nI_1]
    refine ih g (i + 1) B1 _ (by omega) (by omega) a2 ?_ ?_ ?_ (fr.sA (by decide) _ _)
    · rw [a3, h0]; rfl
    · rw [a4, h1, e7, e0]; rfl
    · simp only [zs_AA, ↓reduceIte]
      rw [e12, e7, h12]
      exact pu_ov_s (fun j => pu_tm (gA P0 12 j) (pu_pw (gA P0 7 j) (gA O 4 t))) (gA P0 12) i
/-- the model's shares of a trustee -/
def pu_o15 (D old : Nat → Int32) (t i : Nat) : Nat → Int32 := fun k => if 10 * t ≤ k ∧ k < 10 * t + i then D (k - 10 * t) else old k
theorem pu_o15_s (D old : Nat → Int32) (t i : Nat) : upd (pu_o15 D old t i) (10 * t + i) (D i) = pu_o15 D old t (i + 1) := by
  funext k; unfold upd pu_o15
  by_cases h : k = 10 * t + i
  · subst h; rw [if_pos rfl, if_pos (by omega), show 10 * t + i - 10 * t = i by omega]
  · rw [if_neg h]
    by_cases h2 : 10 * t ≤ k ∧ k < 10 * t + i
    · rw [if_pos h2, if_pos (by omega)]
    · rw [if_neg h2, if_neg (by omega)]
theorem pu_i10 {t i : Nat} : (10 : Int32) * nI t + nI i = nI (10 * t + i) := by
  have h : (10 : Int32) * nI t = nI (10 * t) := pk_mul 10 t
  rw [h, nI_add]
theorem pu_op7 (M0 : zSt) {n t e : Nat} (seed x : Int32) (ht : t < 3) (he : e ≤ 10) (hn : n + e ≤ 160) (h11 : gI M0 11 = nI e) (hx : ∃ q, q < 2039 ∧ x = nI q) (ha : ∀ i, i < e → pu_el (gA M0 12 i)) : ∀ (d f i : Nat) (M : zSt), i + d = e → d < f → gI M 1 = nI (n + i) → gA M 2 = pu_p6 (gA M0 2) n i → gA M 3 = pu_sf (gA M0 3) n (nI t) (gA M0 6 t) x seed (gA M0 12) i → gA M 15 = pu_o15 (fun j => pu_pw (gA M0 12 j) x) (gA M0 15) t i → pu_fr [1] [2, 3, 15] [] [33] M0 M → ∃ M' : zSt, lX7_open_91 f M (nI t) seed x (nI i) = some (sI (sA M' 14 t 1) 4 3) ∧ gI M' 1 = nI (n + e) ∧ gA M' 2 = pu_p6 (gA M0 2) n e ∧ gA M' 3 = pu_sf (gA M0 3) n (nI t) (gA M0 6 t) x seed (gA M0 12) e ∧ gA M' 15 = pu_o15 (fun j => pu_pw (gA M0 12 j) x) (gA M0 15) t e ∧ pu_fr [1] [2, 3, 15] [] [33] M0 M' := by
  intro d
  induction d with
  | zero =>
    intro f i M hi hf h1 h2 h3 h15 fr
    obtain ⟨g, rfl, -⟩ := pu_fu hf
    have h0' : i = e := by omega
    subst h0'
    refine ⟨M, ?_, h1, h2, h3, h15, fr⟩
    show bX7_open_91 _ _ _ _ _ _ = _
    unfold bX7_open_91
    rw [fr.1 11 (by decide), h11, if_pos (nI_le (Nat.le_refl _) (by omega)), pu_zn ht (by decide), pu_c (by omega)]
  | succ d ih =>
    intro f i M hi hf h1 h2 h3 h15 fr
    obtain ⟨g, rfl, hg⟩ := pu_fu hf
    show ∃ M' : zSt, bX7_open_91 _ _ _ _ _ _ = _ ∧ _
    unfold bX7_open_91
    have xn : pu_nn x := by obtain ⟨q, h1, h2⟩ := hx; exact ⟨q, by omega, h2⟩
    have e12 : gA M 12 = gA M0 12 := fr.2.1 12 (by decide)
    have hae := ha i (by omega)
    obtain ⟨M1, d1, d2⟩ := pu_dg3 M seed (nI t) i
    have fr1 : pu_fr [1] [2, 3, 15] [] [33] M0 M1 := fr.trans (d2.mono (by decide) (by decide) (by decide) (by decide))
    have e12' : gA M1 12 = gA M0 12 := fr1.2.1 12 (by decide)
    have e6' : gA M1 6 = gA M0 6 := fr1.2.1 6 (by decide)
    have p1 : fX7_power (gA M0 12 i) x = some (pu_pw (gA M0 12 i) x) := pu_pow7 hae xn
    have p3 : fX7_power 4 (pu_sk seed (nI t) i) = some (pu_pw 4 (pu_sk seed (nI t) i)) := pu_pow7 pu_el4 (pu_dn_nn _)
    have p4 : fX7_power (gA M0 12 i) (pu_sk seed (nI t) i) = some (pu_pw (gA M0 12 i) (pu_sk seed (nI t) i)) := pu_pow7 hae (pu_dn_nn _)
    rw [fr.1 11 (by decide), h11, if_neg (nI_ge (by omega) (by omega)), pu_zn (show i < 10 by omega) (by decide), pu_c (show i < 2 ^ 31 by omega), e12, p1, pu_b1, d1, pu_b2]
    dsimp only
    rw [p3, pu_b1, pu_zn (show i < 10 by omega) (by decide), e12', p4, pu_b1, pu_zn ht (by decide), pu_zn (show i < 10 by omega) (by decide), pu_c (show t < 2 ^ 31 by omega), e6']
    obtain ⟨M2, f1, f2⟩ := pu_dg5 M1 (gA M0 6 t) (gA M0 12 i) (pu_pw (gA M0 12 i) x) (pu_pw 4 (pu_sk seed (nI t) i)) (pu_pw (gA M0 12 i) (pu_sk seed (nI t) i))
    rw [f1, pu_b2]
    dsimp only
    rw [pu_i10, pu_zn (show 10 * t + i < 30 by omega) (by decide), pu_c (show 10 * t + i < 2 ^ 31 by omega)]
    have fr2 : pu_fr [1] [2, 3, 15] [] [33] M0 M2 := fr1.trans (f2.mono (by decide) (by decide) (by decide) (by decide))
    have g1 : gI (sA M2 15 (10 * t + i) (pu_pw (gA M0 12 i) x)) 1 = nI (n + i) := by
      rw [zs_IA, f2.1 1 (by decide), d2.1 1 (by decide)]; exact h1
    obtain ⟨M3, c1, c2, c3, c4, c5⟩ := pu_put7 (sA M2 15 (10 * t + i) (pu_pw (gA M0 12 i) x)) (6 : Int32) (nI t) (nI i) (pu_pw (gA M0 12 i) x) (show n + i < 160 by omega) g1
    rw [c1, pu_b2]
    dsimp only
    have e3 : (6 : Int32) * nI (n + i) + (3 : Int32) = nI (6 * (n + i) + 3) := pu_i7
    have e4 : (6 : Int32) * nI (n + i) + (4 : Int32) = nI (6 * (n + i) + 4) := pu_i7
    have e5 : (6 : Int32) * nI (n + i) + (5 : Int32) = nI (6 * (n + i) + 5) := pu_i7
    rw [e3, e4, e5, pu_zn (show 6 * (n + i) + 3 < 960 by omega) (by decide), pu_zn (show 6 * (n + i) + 4 < 960 by omega) (by decide), pu_zn (show 6 * (n + i) + 5 < 960 by omega) (by decide), pu_c (show 6 * (n + i) + 3 < 2 ^ 31 by omega), pu_c (show 6 * (n + i) + 4 < 2 ^ 31 by omega), pu_c (show 6 * (n + i) + 5 < 2 ^ 31 by omega), pu_ss7 (pu_sk_lt _ _ _) (pu_ch_lt _ _ _ _ _) hx, nI_1]
    have q15 : gA M3 15 = upd (gA M 15) (10 * t + i) (pu_pw (gA M0 12 i) x) := by
      rw [c5.2.1 15 (by decide)]
      simp only [zs_AA, ↓reduceIte]
      rw [f2.2.1 15 (by decide), d2.2.1 15 (by decide)]
    have q2 : gA M3 2 = upd (gA M 2) (n + i) 6 := by
      rw [c3]
      simp only [zs_AA, ↓reduceIte, Nat.reduceEqDiff]
      rw [f2.2.1 2 (by decide), d2.2.1 2 (by decide)]
    have q3 : gA M3 3 = pu_row (gA M 3) (n + i) (nI t) (nI i) (pu_pw (gA M0 12 i) x) := by
      rw [c4]
      simp only [zs_AA, ↓reduceIte, Nat.reduceEqDiff]
      rw [f2.2.1 3 (by decide), d2.2.1 3 (by decide)]
    refine ih g (i + 1) _ (by omega) (by omega) ?_ ?_ ?_ ?_ (((((fr2.sA (by decide) _ _).trans (c5.mono (by decide) (by decide) (by decide) (by decide))).sA (by decide) _ _).sA (by decide) _ _).sA (by decide) _ _)
    · simp only [zs_IA]; exact c2
    · simp only [zs_AA, ↓reduceIte, Nat.reduceEqDiff]; rw [q2, h2]; rfl
    · simp only [zs_AA, ↓reduceIte, Nat.reduceEqDiff]; rw [q3, h3]; rfl
    · simp only [zs_AA, ↓reduceIte, Nat.reduceEqDiff]; rw [q15, h15]; exact pu_o15_s (fun j => pu_pw (gA M0 12 j) x) (gA M0 15) t i
/-- votes -/
noncomputable def pu_v4 (c : Nat) : Int32 := pu_pw 4 (nI c)
theorem pu_v4_e (c : Nat) (hc : c < 4) : pu_v4 c = nI (4 ^ c % 4079) := by
  unfold pu_v4
  rw [pu_pw_e, pu_c (by omega)]; rfl
theorem pu_v4_ne : ∀ c, c < 4 → ∀ t, t < 4 → t ≠ c → pu_v4 t ≠ pu_v4 c := fun c hc t ht h => by
  rw [pu_v4_e c hc, pu_v4_e t ht]
  exact (show ∀ c, c < 4 → ∀ t, t < 4 → t ≠ c → nI (4 ^ t % 4079) ≠ nI (4 ^ c % 4079) by decide) c hc t ht h
/-- how many of the first i values are a vote for c -/
noncomputable def pu_vc (v : Nat → Int32) (c : Nat) : Nat → Nat
  | 0 => 0
  | i + 1 => pu_vc v c i + (if v i = pu_v4 c then 1 else 0)
theorem pu_vc_s (v : Nat → Int32) (c i : Nat) : pu_vc v c (i + 1) = pu_vc v c i + (if v i = pu_v4 c then 1 else 0) := rfl
theorem pu_vc_le (v : Nat → Int32) (c i : Nat) : pu_vc v c i ≤ i := by
  induction i with
  | zero => exact Nat.le_refl _
  | succ i ih => unfold pu_vc; split <;> omega
theorem pu_vc_c {v v' : Nat → Int32} {c : Nat} (i : Nat) (h : ∀ p, p < i → v p = v' p) : pu_vc v c i = pu_vc v' c i := by
  induction i with
  | zero => rfl
  | succ i ih => unfold pu_vc; rw [h i (by omega), ih (fun p hp => h p (by omega))]
/-- the first counts a value -/
theorem pu_cv51 (k22 : zSt → Int32 → Option zSt) (p v : Int32) : ∀ (d f c : Nat) (P : zSt), c + d = 4 → d < f → ∃ P' : zSt, lX4_countVotes_51 k22 f P p v (nI c) = k22 P' (p + 1) ∧ (∀ t, t < 4 → gA P' 14 t = if c ≤ t ∧ v = pu_v4 t then gA P 14 t + 1 else gA P 14 t) ∧ pu_fr [] [14] [] [] P P' := by
  intro d
  induction d with
  | zero =>
    intro f c P hc hf
    obtain ⟨g, rfl, -⟩ := pu_fu hf
    have h0 : c = 4 := by omega
    subst h0
    refine ⟨P, ?_, fun t ht => ?_, pu_fr.refl _ _ _ _ P⟩
    · show bX4_countVotes_51 _ _ _ _ _ _ = _
      unfold bX4_countVotes_51
      rw [if_pos (by decide)]
    · rw [if_neg (by omega)]
  | succ d ih =>
    intro f c P hc hf
    obtain ⟨g, rfl, hg⟩ := pu_fu hf
    have hc4 : c < 4 := by omega
    show ∃ P' : zSt, bX4_countVotes_51 _ _ _ _ _ _ = _ ∧ _
    unfold bX4_countVotes_51 bX4_countVotes_74
    have h1 : fX3_ofBase (nI c) = some (pu_v4 c) := pu_ofb ⟨c, by omega, rfl⟩
    rw [if_neg (show ¬ (4 : Int32) ≤ nI c from nI_ge hc4 (by decide)), h1, pu_b1, nI_1]
    by_cases hv : v = pu_v4 c
    · rw [if_pos hv, pu_zn hc4 (by decide), pu_zn hc4 (by decide), pu_c (by omega)]
      obtain ⟨P', a1, a2, a3⟩ := ih g (c + 1) (sA P 14 c (gA P 14 c + 1)) (by omega) (by omega)
      refine ⟨P', a1, fun t ht => ?_, ((pu_fr.refl _ _ _ _ P).sA (by decide) _ _).trans a3⟩
      rw [a2 t ht]
      simp only [zs_AA, ↓reduceIte]
      by_cases htc : t = c
      · subst htc; rw [pk_us, if_neg (by omega), if_pos ⟨Nat.le_refl _, hv⟩]
      · rw [pk_un htc]
        have : ¬ v = pu_v4 t := fun z => pu_v4_ne c hc4 t ht htc (z.symm.trans hv)
        rw [if_neg (fun z => this z.2), if_neg (fun z => this z.2)]
    · rw [if_neg hv]
      obtain ⟨P', a1, a2, a3⟩ := ih g (c + 1) P (by omega) (by omega)
      refine ⟨P', a1, fun t ht => ?_, a3⟩
      rw [a2 t ht]
      by_cases htc : t = c
      · subst htc; rw [if_neg (by omega), if_neg (fun z => hv z.2)]
      · by_cases hle : c + 1 ≤ t ∧ v = pu_v4 t
        · rw [if_pos hle, if_pos ⟨by omega, hle.2⟩]
        · rw [if_neg hle, if_neg (fun z => hle ⟨by omega, z.2⟩)]
noncomputable def pu_val (b s : Nat → Int32) (p : Nat) : Int32 := pu_tm (b p) (pu_pw (s p) 2038)
theorem pu_cv22 (P0 : zSt) {e : Nat} (he : e ≤ 10) (h6 : gI P0 6 = nI e) (hb : ∀ p, p < e → pu_el (gA P0 8 p)) (hs : ∀ p, p < e → pu_el (gA P0 12 p)) : ∀ (d f i : Nat) (P : zSt), i + d = e → d < f → (∀ t, t < 4 → gA P 14 t = nI (pu_vc (pu_val (gA P0 8) (gA P0 12)) t i)) → pu_fr [] [14] [] [] P0 P → ∃ P' : zSt, lX4_countVotes_22 f P (nI i) = some P' ∧ (∀ t, t < 4 → gA P' 14 t = nI (pu_vc (pu_val (gA P0 8) (gA P0 12)) t e)) ∧ pu_fr [] [14] [] [] P0 P' := by
  intro d
  induction d with
  | zero =>
    intro f i P hi hf h14 fr
    obtain ⟨g, rfl, -⟩ := pu_fu hf
    have h0 : i = e := by omega
    subst h0
    refine ⟨P, ?_, h14, fr⟩
    show bX4_countVotes_22 _ _ _ = _
    unfold bX4_countVotes_22
    rw [fr.1 6 (by decide), h6, if_pos (nI_le (Nat.le_refl _) (by omega))]
  | succ d ih =>
    intro f i P hi hf h14 fr
    obtain ⟨g, rfl, hg⟩ := pu_fu hf
    show ∃ P' : zSt, bX4_countVotes_22 _ _ _ = _ ∧ _
    unfold bX4_countVotes_22
    have e8 : gA P 8 = gA P0 8 := fr.2.1 8 (by decide)
    have e12 : gA P 12 = gA P0 12 := fr.2.1 12 (by decide)
    rw [fr.1 6 (by decide), h6, if_neg (nI_ge (by omega) (by omega)), pu_zn (show i < 10 by omega) (by decide), pu_zn (show i < 10 by omega) (by decide), pu_c (by omega), e8, e12, pu_inv (hs i (by omega)), pu_b1, pu_tim3 (hb i (by omega)) (pu_pw_el _ _), pu_b1]
    obtain ⟨P1, a1, a2, a3⟩ := pu_cv51 (lX4_countVotes_22 g) (nI i) (pu_val (gA P0 8) (gA P0 12) i) 4 1000 0 P rfl (by decide)
    have a1' : lX4_countVotes_51 (lX4_countVotes_22 g) 1000 P (nI i) (pu_tm (gA P0 8 i) (pu_pw (gA P0 12 i) 2038)) 0 = lX4_countVotes_22 g P1 (nI i + 1) := a1
    rw [a1', nI_1]
    refine ih g (i + 1) P1 (by omega) (by omega) (fun t ht => ?_) (fr.trans a3)
    rw [a2 t ht, h14 t ht, pu_vc_s]
    by_cases hv : pu_val (gA P0 8) (gA P0 12) i = pu_v4 t
    · rw [if_pos ⟨Nat.zero_le _, hv⟩, if_pos hv, nI_1]
    · rw [if_neg (fun z => hv z.2), if_neg hv]; rfl
theorem pu_count (P : zSt) {e : Nat} (he : e ≤ 10) (h6 : gI P 6 = nI e) (hb : ∀ p, p < e → pu_el (gA P 8 p)) (hs : ∀ p, p < e → pu_el (gA P 12 p)) : ∃ P' : zSt, fX4_countVotes P = some P' ∧ (∀ t, t < 4 → gA P' 14 t = nI (pu_vc (pu_val (gA P 8) (gA P 12)) t e)) ∧ pu_fr [] [14] [] [] P P' := by
  obtain ⟨P1, a1, a2, a3⟩ := pu_cv2 4 1000 0 P rfl (by decide)
  have e8 : gA P1 8 = gA P 8 := a3.2.1 8 (by decide)
  have e12 : gA P1 12 = gA P 12 := a3.2.1 12 (by decide)
  obtain ⟨P2, b1, b2, b3⟩ := pu_cv22 P1 he ((a3.1 6 (by decide)).trans h6) (by rw [e8]; exact hb) (by rw [e12]; exact hs) e 1000 0 P1 (by omega) (by omega) (fun t ht => by rw [a2]; exact if_pos ⟨Nat.zero_le _, ht⟩) (pu_fr.refl _ _ _ _ P1)
  refine ⟨P2, ?_, ?_, a3.trans b3⟩
  · unfold fX4_countVotes; exact a1.trans b1
  · rw [e8, e12] at b2; exact b2
theorem pu_cho (v : Int32) : ∀ (d f c : Nat), c + d = 4 → d < f → (∀ t, t < c → v ≠ pu_v4 t) → ∃ r : Int32, lX7_choiceOf_2 f v (nI c) = some r ∧ ((r = -1 ∧ ∀ t, t < 4 → v ≠ pu_v4 t) ∨ ∃ c', c' < 4 ∧ r = nI c' ∧ v = pu_v4 c') := by
  intro d
  induction d with
  | zero =>
    intro f c hc hf h
    obtain ⟨g, rfl, -⟩ := pu_fu hf
    have h0 : c = 4 := by omega
    subst h0
    refine ⟨-1, ?_, Or.inl ⟨rfl, h⟩⟩
    show bX7_choiceOf_2 _ _ _ = _
    unfold bX7_choiceOf_2
    rw [if_pos (by decide)]
  | succ d ih =>
    intro f c hc hf h
    obtain ⟨g, rfl, hg⟩ := pu_fu hf
    have hc4 : c < 4 := by omega
    show ∃ r : Int32, bX7_choiceOf_2 _ _ _ = _ ∧ _
    unfold bX7_choiceOf_2
    have h1 : fX7_power 4 (nI c) = some (pu_v4 c) := pu_pow7 pu_el4 ⟨c, by omega, rfl⟩
    rw [if_neg (show ¬ (4 : Int32) ≤ nI c from nI_ge hc4 (by decide)), h1, pu_b1, nI_1]
    by_cases hv : pu_v4 c = v
    · rw [if_pos hv]; exact ⟨nI c, rfl, Or.inr ⟨c, hc4, rfl, hv.symm⟩⟩
    · rw [if_neg hv]
      refine ih g (c + 1) (by omega) (by omega) (fun t ht => ?_)
      by_cases htc : t = c
      · rw [htc]; exact fun z => hv z.symm
      · exact h t (by omega)
theorem pu_choice (v : Int32) : ∃ r : Int32, fX7_choiceOf v = some r ∧ ((r = -1 ∧ ∀ t, t < 4 → v ≠ pu_v4 t) ∨ ∃ c', c' < 4 ∧ r = nI c' ∧ v = pu_v4 c') :=
  pu_cho v 4 1000 0 rfl (by decide) (fun t ht => absurd ht (Nat.not_lt_zero _))
theorem pu_valof {b d0 d1 d2 : Int32} (hb : pu_el b) (h0 : pu_el d0) (h1 : pu_el d1) (h2 : pu_el d2) : fX7_valueOf b d0 d1 d2 = some (pu_tm b (pu_pw (pu_tm (pu_tm d0 d1) d2) 2038)) := by
  unfold fX7_valueOf
  rw [pu_tim7 h0 h1, pu_b1, pu_tim7 (pu_tm_el _ _) h2, pu_b1, pu_pow7 (pu_tm_el _ _) (⟨2038, by decide, rfl⟩ : pu_nn 2038), pu_b1, pu_tim7 hb (pu_pw_el _ _), pu_b1]
noncomputable def pu_s3 (D : Nat → Int32) (p : Nat) : Int32 := pu_tm (pu_tm (D p) (D (10 + p))) (D (20 + p))
theorem pu_10i {t i : Nat} : nI t + nI i = nI (t + i) := nI_add t i
