/-! Pure: orders, taking, mixing. -/
theorem pu_nz {α : Type} {m : Nat} {A : Option α} (h : 0 < m) (hm : m < 2 ^ 31) : znz (nI m) A = A := if_neg (nI_ne0 h hm)
theorem pu_in {i n : Nat} (h : i < n) (hn : n < 2 ^ 31) : vp_in (nI i) n := vp_in_nI h hn
/-- untaken places from s on, d places -/
def pu_un (t : Nat → Int32) : Nat → Nat → Nat
  | _, 0 => 0
  | s, d + 1 => (if t s = 0 then 1 else 0) + pu_un t (s + 1) d
/-- the place that is taken -/
def pu_tk (t : Nat → Int32) : Nat → Nat → Nat → Nat
  | _, _, 0 => 0
  | w, s, d + 1 => if t s = 0 then (if w = 0 then s else pu_tk t (w - 1) (s + 1) d) else pu_tk t w (s + 1) d
theorem pu_tk_c {t t' : Nat → Int32} : ∀ (d w s : Nat), (∀ i, s ≤ i → i < s + d → t i = t' i) → pu_tk t w s d = pu_tk t' w s d := by
  intro d
  induction d with
  | zero => intro w s h; rfl
  | succ d ih =>
    intro w s h
    unfold pu_tk
    rw [h s (by omega) (by omega), ih (w - 1) (s + 1) (fun i h1 h2 => h i (by omega) (by omega)), ih w (s + 1) (fun i h1 h2 => h i (by omega) (by omega))]
theorem pu_tk_in {t : Nat → Int32} : ∀ (d w s : Nat), w < pu_un t s d → s ≤ pu_tk t w s d ∧ pu_tk t w s d < s + d ∧ t (pu_tk t w s d) = 0 := by
  intro d
  induction d with
  | zero => intro w s h; exact absurd h (Nat.not_lt_zero _)
  | succ d ih =>
    intro w s h
    unfold pu_un at h
    unfold pu_tk
    by_cases h0 : t s = 0
    · rw [if_pos h0] at h ⊢
      by_cases hw : w = 0
      · rw [if_pos hw]; exact ⟨Nat.le_refl _, by omega, h0⟩
      · rw [if_neg hw]
        obtain ⟨a, b, c⟩ := ih (w - 1) (s + 1) (by omega)
        exact ⟨by omega, by omega, c⟩
    · rw [if_neg h0] at h ⊢
      obtain ⟨a, b, c⟩ := ih w (s + 1) (by omega)
      exact ⟨by omega, by omega, c⟩
theorem pu_un_c {t t' : Nat → Int32} : ∀ (d s : Nat), (∀ i, s ≤ i → i < s + d → t i = t' i) → pu_un t s d = pu_un t' s d := by
  intro d
  induction d with
  | zero => intro s h; rfl
  | succ d ih =>
    intro s h
    unfold pu_un
    rw [h s (by omega) (by omega), ih (s + 1) (fun i h1 h2 => h i (by omega) (by omega))]
theorem pu_un_u {t : Nat → Int32} {p : Nat} (hp : t p = 0) : ∀ (d s : Nat), s ≤ p → p < s + d → pu_un (upd t p 1) s d + 1 = pu_un t s d := by
  intro d
  induction d with
  | zero => intro s h1 h2; omega
  | succ d ih =>
    intro s h1 h2
    unfold pu_un
    by_cases hs : s = p
    · subst hs
      rw [pk_us, if_neg (by decide), if_pos hp, pu_un_c (t := upd t s 1) (t' := t) d (s + 1) (fun i h3 h4 => pk_un (by omega))]
      omega
    · rw [pk_un hs]
      have := ih (s + 1) (by omega) (by omega)
      omega
theorem pu_un_0 : ∀ (d s : Nat), pu_un (fun _ => 0) s d = d := by
  intro d
  induction d with
  | zero => intro s; rfl
  | succ d ih => intro s; unfold pu_un; rw [if_pos rfl, ih]; omega
theorem pu_take1 (P : zSt) {e : Nat} (he : e ≤ 10) (h6 : gI P 6 = nI e) : ∀ (d f w s : Nat), s + d = e → d < f → w < 2 ^ 31 → w < pu_un (gA P 11) s d → lX4_takeEntry_4 f P (nI w) (nI s) = some (nI (pu_tk (gA P 11) w s d), sA P 11 (pu_tk (gA P 11) w s d) 1) := by
  intro d
  induction d with
  | zero => intro f w s h1 h2 h3 h4; exact absurd h4 (Nat.not_lt_zero _)
  | succ d ih =>
    intro f w s h1 h2 h3 h4
    obtain ⟨g, rfl, hg⟩ := pu_fu h2
    show bX4_takeEntry_4 _ _ _ _ = _
    unfold bX4_takeEntry_4 bX4_takeEntry_37
    unfold pu_un at h4
    unfold pu_tk
    rw [h6, if_neg (nI_ge (by omega) (by omega)), pu_zn (by omega) (by decide), pu_c (by omega), nI_1]
    by_cases h0 : gA P 11 s = 0
    · rw [if_pos h0] at h4
      rw [if_pos h0, if_pos h0]
      by_cases hw : w = 0
      · subst hw
        rw [if_pos (show nI 0 = 0 from rfl), if_pos rfl, pu_zn (by omega) (by decide)]
      · rw [if_neg (nI_ne0 (by omega) h3), if_neg hw]
        obtain ⟨w', rfl⟩ : ∃ w', w = w' + 1 := ⟨w - 1, by omega⟩
        rw [pk_m1]
        exact ih g w' (s + 1) (by omega) (by omega) (by omega) (by omega)
    · rw [if_neg h0] at h4
      rw [if_neg h0, if_neg h0]
      exact ih g w (s + 1) (by omega) (by omega) (by omega) (by omega)
theorem pu_take7 (M : zSt) {e : Nat} (he : e ≤ 10) : ∀ (d f w s : Nat), s + d = e → d < f → w < 2 ^ 31 → w < pu_un (gA M 19) s d → lX7_take_5 f M (nI e) (nI w) (nI s) = some (nI (pu_tk (gA M 19) w s d), sA M 19 (pu_tk (gA M 19) w s d) 1) := by
  intro d
  induction d with
  | zero => intro f w s h1 h2 h3 h4; exact absurd h4 (Nat.not_lt_zero _)
  | succ d ih =>
    intro f w s h1 h2 h3 h4
    obtain ⟨g, rfl, hg⟩ := pu_fu h2
    show bX7_take_5 _ _ _ _ _ = _
    unfold bX7_take_5 bX7_take_39
    unfold pu_un at h4
    unfold pu_tk
    rw [if_neg (nI_ge (by omega) (by omega)), pu_zn (by omega) (by decide), pu_c (by omega), nI_1]
    by_cases h0 : gA M 19 s = 0
    · rw [if_pos h0] at h4
      rw [if_pos h0, if_pos h0]
      by_cases hw : w = 0
      · subst hw
        rw [if_pos (show nI 0 = 0 from rfl), if_pos rfl, pu_zn (by omega) (by decide)]
      · rw [if_neg (nI_ne0 (by omega) h3), if_neg hw]
        obtain ⟨w', rfl⟩ : ∃ w', w = w' + 1 := ⟨w - 1, by omega⟩
        rw [pk_m1]
        exact ih g w' (s + 1) (by omega) (by omega) (by omega) (by omega)
    · rw [if_neg h0] at h4
      rw [if_neg h0, if_neg h0]
      exact ih g w (s + 1) (by omega) (by omega) (by omega) (by omega)
/-- what is taken, and what is left of the order, behind i -/
def pu_mt (q e : Nat) : Nat → (Nat → Int32) × Nat
  | 0 => (fun _ => 0, q)
  | i + 1 => (upd (pu_mt q e i).1 (pu_tk (pu_mt q e i).1 ((pu_mt q e i).2 % (e - i)) 0 e) 1, (pu_mt q e i).2 / (e - i))
def pu_mk (q e i : Nat) : Nat := pu_tk (pu_mt q e i).1 ((pu_mt q e i).2 % (e - i)) 0 e
theorem pu_mt_1 (q e i : Nat) : (pu_mt q e (i + 1)).1 = upd (pu_mt q e i).1 (pu_mk q e i) 1 := rfl
theorem pu_mt_2 (q e i : Nat) : (pu_mt q e (i + 1)).2 = (pu_mt q e i).2 / (e - i) := rfl
theorem pu_mt_i {T T' : Nat → Int32} {q e i : Nat} (hT : T' = upd T (pu_mk q e i) 1) (h : ∀ t, t < e → T t = (pu_mt q e i).1 t) : ∀ t, t < e → T' t = (pu_mt q e (i + 1)).1 t := by
  intro t ht
  rw [pu_mt_1, hT]
  by_cases h1 : t = pu_mk q e i
  · rw [h1, pk_us, pk_us]
  · rw [pk_un h1, pk_un h1]; exact h t ht
theorem pu_mt_le (q e i : Nat) : (pu_mt q e i).2 ≤ q := by
  induction i with
  | zero => exact Nat.le_refl _
  | succ i ih => exact Nat.le_trans (Nat.div_le_self _ _) ih
theorem pu_mt_un (q e : Nat) : ∀ i, i ≤ e → pu_un (pu_mt q e i).1 0 e = e - i := by
  intro i
  induction i with
  | zero => intro h; exact pu_un_0 e 0
  | succ i ih =>
    intro h
    have h1 := ih (by omega)
    have hw : (pu_mt q e i).2 % (e - i) < pu_un (pu_mt q e i).1 0 e := by rw [h1]; exact Nat.mod_lt _ (by omega)
    obtain ⟨a, b, c⟩ := pu_tk_in e _ 0 hw
    have h2 := pu_un_u c e 0 a b
    show pu_un (upd (pu_mt q e i).1 (pu_tk (pu_mt q e i).1 ((pu_mt q e i).2 % (e - i)) 0 e) 1) 0 e = _
    omega
theorem pu_mw (q : Nat) {e i : Nat} (h : i < e) : (pu_mt q e i).2 % (e - i) < pu_un (pu_mt q e i).1 0 e := by
  rw [pu_mt_un q e i (by omega)]; exact Nat.mod_lt _ (by omega)
theorem pu_mk_lt (q : Nat) {e i : Nat} (h : i < e) : pu_mk q e i < e := by
  obtain ⟨a, b, c⟩ := pu_tk_in e _ 0 (pu_mw q h)
  unfold pu_mk; omega
/-- the number that seed and place make -/
noncomputable def pu_r (seed : Int32) (i : Nat) : Int32 := pu_dn (pu_dg (pu_dg 0 seed.toInt64) (nI i).toInt64)
noncomputable def pu_ma (a : Nat → Int32) (y : Int32) (q e : Nat) (seed : Int32) (i : Nat) : Int32 := pu_tm (a (pu_mk q e i)) (pu_pw y (pu_r seed i))
theorem pu_ma_c {a a' : Nat → Int32} {y : Int32} {q e : Nat} {seed : Int32} (h : ∀ t, t < e → a t = a' t) {i : Nat} (hi : i < e) : pu_ma a y q e seed i = pu_ma a' y q e seed i := by
  unfold pu_ma; rw [h _ (pu_mk_lt q hi)]
/-- new ones below i -/
def pu_ov (nw old : Nat → Int32) (i : Nat) : Nat → Int32 := fun t => if t < i then nw t else old t
theorem pu_ov_0 (nw old : Nat → Int32) : pu_ov nw old 0 = old := rfl
theorem pu_ov_s (nw old : Nat → Int32) (i : Nat) : upd (pu_ov nw old i) i (nw i) = pu_ov nw old (i + 1) := by
  funext t; unfold upd pu_ov
  by_cases h : t = i
  · subst h; rw [if_pos rfl, if_pos (by omega)]
  · rw [if_neg h]
    by_cases h2 : t < i
    · rw [if_pos h2, if_pos (by omega)]
    · rw [if_neg h2, if_neg (by omega)]
theorem pu_ov_in {nw old : Nat → Int32} {i t : Nat} (h : t < i) : pu_ov nw old i t = nw t := if_pos h
theorem pu_ov_out {nw old : Nat → Int32} {i t : Nat} (h : i ≤ t) : pu_ov nw old i t = old t := if_neg (by omega)
/-- the first's copy -/
theorem pu_mx2 (P0 : zSt) {e : Nat} (he : e ≤ 10) (h6 : gI P0 6 = nI e) (l1 l2 : Int32) : ∀ (d f i : Nat) (P : zSt), i + d = e → d < f → gA P 9 = pu_ov (gA P0 7) (gA P0 9) i → gA P 10 = pu_ov (gA P0 8) (gA P0 10) i → (∀ t, t < i → gA P 11 t = 0) → pu_fr [] [9, 10, 11] [] [] P0 P → ∃ P' : zSt, lX4_mixEntries_2 f P l1 l2 (nI i) = lX4_mixEntries_52 1000 P' l1 l2 0 ∧ gA P' 9 = pu_ov (gA P0 7) (gA P0 9) e ∧ gA P' 10 = pu_ov (gA P0 8) (gA P0 10) e ∧ (∀ t, t < e → gA P' 11 t = 0) ∧ pu_fr [] [9, 10, 11] [] [] P0 P' := by
  intro d
  induction d with
  | zero =>
    intro f i P hi hf h9 h10 h11 fr
    obtain ⟨g, rfl, -⟩ := pu_fu hf
    have h0 : i = e := by omega
    subst h0
    refine ⟨P, ?_, h9, h10, h11, fr⟩
    show bX4_mixEntries_2 _ _ _ _ _ = _
    unfold bX4_mixEntries_2
    rw [fr.1 6 (by decide), h6, if_pos (nI_le (Nat.le_refl _) (by omega))]
  | succ d ih =>
    intro f i P hi hf h9 h10 h11 fr
    obtain ⟨g, rfl, hg⟩ := pu_fu hf
    show ∃ P' : zSt, bX4_mixEntries_2 _ _ _ _ _ = _ ∧ _
    unfold bX4_mixEntries_2
    have r7 : gA P 7 = gA P0 7 := fr.2.1 7 (by decide)
    have r8 : gA P 8 = gA P0 8 := fr.2.1 8 (by decide)
    simp only [zs_AA, ↓reduceIte, Nat.reduceEqDiff, r7, r8, pu_zin (pu_in (show i < 10 by omega) (by decide))]
    rw [fr.1 6 (by decide), h6, if_neg (nI_ge (by omega) (by omega)), pu_c (by omega), nI_1]
    refine ih g (i + 1) _ (by omega) (by omega) ?_ ?_ ?_ (((fr.sA (by decide) _ _).sA (by decide) _ _).sA (by decide) _ _)
    · simp only [zs_AA, ↓reduceIte, Nat.reduceEqDiff]; rw [h9, pu_ov_s]
    · simp only [zs_AA, ↓reduceIte, Nat.reduceEqDiff]; rw [h10, pu_ov_s]
    · intro t ht
      simp only [zs_AA, ↓reduceIte, Nat.reduceEqDiff]
      by_cases h : t = i
      · rw [h, pk_us]
      · rw [pk_un h]; exact h11 t (by omega)
/-- the first's mixing -/
theorem pu_mx52 (P0 : zSt) {e q : Nat} (he : e ≤ 10) (hq : q < 2 ^ 31) (h6 : gI P0 6 = nI e) (seed : Int32) (hy : pu_el (gI P0 1)) (ha : ∀ t, t < e → pu_el (gA P0 9 t)) (hb : ∀ t, t < e → pu_el (gA P0 10 t)) : ∀ (d f i : Nat) (P : zSt), i + d = e → d < f → (∀ t, t < e → gA P 11 t = (pu_mt q e i).1 t) → gA P 7 = pu_ov (pu_ma (gA P0 9) 4 q e seed) (gA P0 7) i → gA P 8 = pu_ov (pu_ma (gA P0 10) (gI P0 1) q e seed) (gA P0 8) i → pu_fr [] [7, 8, 11] [] [] P0 P → ∃ P' : zSt, lX4_mixEntries_52 f P seed (nI (pu_mt q e i).2) (nI i) = some P' ∧ gA P' 7 = pu_ov (pu_ma (gA P0 9) 4 q e seed) (gA P0 7) e ∧ gA P' 8 = pu_ov (pu_ma (gA P0 10) (gI P0 1) q e seed) (gA P0 8) e ∧ pu_fr [] [7, 8, 11] [] [] P0 P' := by
  intro d
  induction d with
  | zero =>
    intro f i P hi hf h11 h7 h8 fr
    obtain ⟨g, rfl, -⟩ := pu_fu hf
    have h0 : i = e := by omega
    subst h0
    refine ⟨P, ?_, h7, h8, fr⟩
    show bX4_mixEntries_52 _ _ _ _ _ = _
    unfold bX4_mixEntries_52
    rw [fr.1 6 (by decide), h6, if_pos (nI_le (Nat.le_refl _) (by omega))]
  | succ d ih =>
    intro f i P hi hf h11 h7 h8 fr
    obtain ⟨g, rfl, hg⟩ := pu_fu hf
    show ∃ P' : zSt, bX4_mixEntries_52 _ _ _ _ _ = _ ∧ _
    unfold bX4_mixEntries_52
    have p6 : gI P 6 = nI e := (fr.1 6 (by decide)).trans h6
    have hie : i < e := by omega
    have hw := pu_mw q hie
    have hpk : pu_tk (gA P 11) ((pu_mt q e i).2 % (e - i)) 0 e = pu_mk q e i := pu_tk_c e _ 0 (fun t _ h => h11 t (by omega))
    have hun : pu_un (gA P 11) 0 e = pu_un (pu_mt q e i).1 0 e := pu_un_c e 0 (fun t _ h => h11 t (by omega))
    have hle := pu_mt_le q e i
    have hlt : (pu_mt q e i).2 % (e - i) < 2 ^ 31 := Nat.lt_of_le_of_lt (Nat.mod_le _ _) (by omega)
    have hk : fX4_takeEntry P (nI ((pu_mt q e i).2 % (e - i))) = some (nI (pu_mk q e i), sA P 11 (pu_mk q e i) 1) := by
      have := pu_take1 P he p6 e 1000 ((pu_mt q e i).2 % (e - i)) 0 (by omega) (by omega) hlt (by rw [hun]; exact hw)
      rw [hpk] at this; exact this
    have hp := pu_mk_lt q hie
    have e9 : gA P 9 = gA P0 9 := fr.2.1 9 (by decide)
    have e10 : gA P 10 = gA P0 10 := fr.2.1 10 (by decide)
    have e1 : gI P 1 = gI P0 1 := fr.1 1 (by decide)
    have hm : nI (pu_mt q e i).2 - nI (pu_mt q e i).2 / nI (e - i) * nI (e - i) = nI ((pu_mt q e i).2 % (e - i)) := pk_rem (by omega) (by omega) (by omega)
    have hdv : nI (pu_mt q e i).2 / nI (e - i) = nI ((pu_mt q e i).2 / (e - i)) := pk_div (by omega) (by omega) (by omega)
    have t1 : fX3_times (gA P0 9 (pu_mk q e i)) (pu_pw 4 (pu_r seed i)) = some (pu_ma (gA P0 9) 4 q e seed i) := pu_tim3 (ha _ hp) (pu_pw_el _ _)
    have t2 : fX3_times (gA P0 10 (pu_mk q e i)) (pu_pw (gI P0 1) (pu_r seed i)) = some (pu_ma (gA P0 10) (gI P0 1) q e seed i) := pu_tim3 (hb _ hp) (pu_pw_el _ _)
    have t3 : fX3_ofBase (pu_r seed i) = some (pu_pw 4 (pu_r seed i)) := pu_ofb (pu_dn_nn _)
    have t4 : fX3_power (gI P0 1) (pu_r seed i) = some (pu_pw (gI P0 1) (pu_r seed i)) := pu_pow3 hy (pu_dn_nn _)
    have t5 : fX2_number (pu_dg (pu_dg 0 seed.toInt64) (nI i).toInt64) = some (pu_r seed i) := pu_numb _
    rw [p6, if_neg (nI_ge hie (by omega)), pk_sub (by omega), pu_nz (by omega) (by omega), hm, hk, pu_b2]
    simp only [zs_IA, p6, pk_sub (show i ≤ e by omega), pu_nz (show 0 < e - i by omega) (show e - i < 2 ^ 31 by omega)]
    simp only [pu_with, pu_b1, t5]
    simp only [pu_zin (pu_in (show pu_mk q e i < 10 by omega) (by decide)), pu_zin (pu_in (show i < 10 by omega) (by decide)), t3, pu_b1]
    try simp only [zs_AA, ↓reduceIte, Nat.reduceEqDiff]
    simp only [pu_c (show pu_mk q e i < 2 ^ 31 by omega), pu_c (show i < 2 ^ 31 by omega), e9, e10, e1]
    simp only [t1, t2, t4, pu_b1, zs_IA, e1, hdv, nI_1]
    refine ih g (i + 1) _ (by omega) (by omega) ?_ ?_ ?_ (((fr.sA (by decide) _ _).sA (by decide) _ _).sA (by decide) _ _)
    · refine pu_mt_i ?_ h11
      simp only [zs_AA, ↓reduceIte, Nat.reduceEqDiff]
    · simp only [zs_AA, ↓reduceIte, Nat.reduceEqDiff]; rw [h7, pu_ov_s]
    · simp only [zs_AA, ↓reduceIte, Nat.reduceEqDiff]; rw [h8, pu_ov_s]
theorem pu_mix1 (P : zSt) {e q : Nat} (he : e ≤ 10) (hq : q < 2 ^ 31) (h6 : gI P 6 = nI e) (seed : Int32) (hy : pu_el (gI P 1)) (ha : ∀ t, t < e → pu_el (gA P 7 t)) (hb : ∀ t, t < e → pu_el (gA P 8 t)) : ∃ P' : zSt, fX4_mixEntries P seed (nI q) = some P' ∧ gA P' 7 = pu_ov (pu_ma (gA P 7) 4 q e seed) (gA P 7) e ∧ gA P' 8 = pu_ov (pu_ma (gA P 8) (gI P 1) q e seed) (gA P 8) e ∧ pu_fr [] [7, 8, 9, 10, 11] [] [] P P' := by
  obtain ⟨P1, a1, a2, a3, a4, a5⟩ := pu_mx2 P he h6 seed (nI q) e 1000 0 P (by omega) (by omega) rfl rfl (fun t ht => absurd ht (Nat.not_lt_zero _)) (pu_fr.refl _ _ _ _ P)
  have e9 : ∀ t, t < e → gA P1 9 t = gA P 7 t := fun t ht => by rw [a2, pu_ov_in ht]
  have e10 : ∀ t, t < e → gA P1 10 t = gA P 8 t := fun t ht => by rw [a3, pu_ov_in ht]
  have e1 : gI P1 1 = gI P 1 := a5.1 1 (by decide)
  obtain ⟨P2, b1, b2, b3, b4⟩ := pu_mx52 P1 he hq ((a5.1 6 (by decide)).trans h6) seed (by rw [e1]; exact hy) (fun t ht => by rw [e9 t ht]; exact ha t ht) (fun t ht => by rw [e10 t ht]; exact hb t ht) e 1000 0 P1 (by omega) (by omega) a4 rfl rfl (pu_fr.refl _ _ _ _ P1)
  refine ⟨P2, ?_, ?_, ?_, (a5.mono (by decide) (by decide) (by decide) (by decide)).trans (b4.mono (by decide) (by decide) (by decide) (by decide))⟩
  · unfold fX4_mixEntries; exact a1.trans b1
  · rw [b2]; funext t; unfold pu_ov
    by_cases h : t < e
    · rw [if_pos h, if_pos h]; exact pu_ma_c e9 h
    · rw [if_neg h, if_neg h, a5.2.1 7 (by decide)]
  · rw [b3]; funext t; unfold pu_ov
    by_cases h : t < e
    · rw [if_pos h, if_pos h, e1]; exact pu_ma_c e10 h
    · rw [if_neg h, if_neg h, a5.2.1 8 (by decide)]
/-- the model's two digests of the numbers -/
theorem pu_dg2 (M : zSt) (seed : Int32) (i : Nat) : ∃ M' : zSt, fX7_digestOfTwo M seed (nI i) = some (pu_r seed i, M') ∧ pu_fr [] [] [] [33] M M' := by
  unfold fX7_digestOfTwo
  obtain ⟨M1, a1, a2, a3⟩ := pu_ming (sJ M 33 0) seed.toInt64
  obtain ⟨M2, b1, b2, b3⟩ := pu_ming M1 (nI i).toInt64
  rw [a1, pu_b1, b1, pu_b1]
  refine ⟨M2, ?_, ((pu_fr.refl _ _ _ _ M).sJ (by decide) _).trans (a3.trans b3)⟩
  rw [pu_asn, pu_b1, b2, a2, zs_JJ, if_pos rfl]; rfl
theorem pu_pk7 (M : zSt) (h0 : pu_el (gA M 6 0)) (h1 : pu_el (gA M 6 1)) (h2 : pu_el (gA M 6 2)) : fX7_publicKey M = some (pu_tm (pu_tm (gA M 6 0) (gA M 6 1)) (gA M 6 2)) := by
  unfold fX7_publicKey
  rw [pu_tim7 h0 h1, pu_b1, pu_tim7 (pu_tm_el _ _) h2, pu_b1]
/-- the model's mixing: digests, entries, puts -/
theorem pu_mx79 (M0 : zSt) {e q n : Nat} (he : e ≤ 10) (hq : q < 2 ^ 31) (hn : n + e ≤ 160) (h11 : gI M0 11 = nI e) (seed y : Int32) (hy : pu_el y) (hk : ∀ t, t < 3 → pu_el (gA M0 6 t)) (hy' : y = pu_tm (pu_tm (gA M0 6 0) (gA M0 6 1)) (gA M0 6 2)) (ha : ∀ t, t < e → pu_el (gA M0 12 t)) (hb : ∀ t, t < e → pu_el (gA M0 13 t)) : ∀ (d f i : Nat) (M : zSt), i + d = e → d < f → (∀ t, t < e → gA M 19 t = (pu_mt q e i).1 t) → gA M 17 = pu_ov (pu_ma (gA M0 12) 4 q e seed) (gA M0 17) i → gA M 18 = pu_ov (pu_ma (gA M0 13) y q e seed) (gA M0 18) i → gI M 1 = nI (n + i) → gA M 2 = pu_pk (gA M0 2) n i → gA M 3 = pu_pf (gA M0 3) n (pu_ma (gA M0 12) 4 q e seed) (pu_ma (gA M0 13) y q e seed) i → pu_fr [1] [2, 3, 17, 18, 19] [] [33] M0 M → ∃ M' : zSt, lX7_mix_79 f M seed (nI (pu_mt q e i).2) (nI i) = lX7_mix_205 1000 M' 0 ∧ gA M' 17 = pu_ov (pu_ma (gA M0 12) 4 q e seed) (gA M0 17) e ∧ gA M' 18 = pu_ov (pu_ma (gA M0 13) y q e seed) (gA M0 18) e ∧ gI M' 1 = nI (n + e) ∧ gA M' 2 = pu_pk (gA M0 2) n e ∧ gA M' 3 = pu_pf (gA M0 3) n (pu_ma (gA M0 12) 4 q e seed) (pu_ma (gA M0 13) y q e seed) e ∧ pu_fr [1] [2, 3, 17, 18, 19] [] [33] M0 M' := by
  intro d
  induction d with
  | zero =>
    intro f i M hi hf h19 h17 h18 g1 g2 g3 fr
    obtain ⟨g, rfl, -⟩ := pu_fu hf
    have h0 : i = e := by omega
    subst h0
    refine ⟨M, ?_, h17, h18, g1, g2, g3, fr⟩
    show bX7_mix_79 _ _ _ _ _ = _
    unfold bX7_mix_79
    rw [fr.1 11 (by decide), h11, if_pos (nI_le (Nat.le_refl _) (by omega))]
  | succ d ih =>
    intro f i M hi hf h19 h17 h18 g1 g2 g3 fr
    obtain ⟨g, rfl, hg⟩ := pu_fu hf
    show ∃ M' : zSt, bX7_mix_79 _ _ _ _ _ = _ ∧ _
    unfold bX7_mix_79
    have p11 : gI M 11 = nI e := (fr.1 11 (by decide)).trans h11
    have hie : i < e := by omega
    have hw := pu_mw q hie
    have hpk : pu_tk (gA M 19) ((pu_mt q e i).2 % (e - i)) 0 e = pu_mk q e i := pu_tk_c e _ 0 (fun t _ h => h19 t (by omega))
    have hun : pu_un (gA M 19) 0 e = pu_un (pu_mt q e i).1 0 e := pu_un_c e 0 (fun t _ h => h19 t (by omega))
    have hle := pu_mt_le q e i
    have hlt : (pu_mt q e i).2 % (e - i) < 2 ^ 31 := Nat.lt_of_le_of_lt (Nat.mod_le _ _) (by omega)
    have hkk : fX7_take M (nI e) (nI ((pu_mt q e i).2 % (e - i))) = some (nI (pu_mk q e i), sA M 19 (pu_mk q e i) 1) := by
      have := pu_take7 M he e 1000 ((pu_mt q e i).2 % (e - i)) 0 (by omega) (by omega) hlt (by rw [hun]; exact hw)
      rw [hpk] at this; exact this
    have hp := pu_mk_lt q hie
    have hm : nI (pu_mt q e i).2 - nI (pu_mt q e i).2 / nI (e - i) * nI (e - i) = nI ((pu_mt q e i).2 % (e - i)) := pk_rem (by omega) (by omega) (by omega)
    have hdv : nI (pu_mt q e i).2 / nI (e - i) = nI ((pu_mt q e i).2 / (e - i)) := pk_div (by omega) (by omega) (by omega)
    have t1 : fX7_times (gA M0 12 (pu_mk q e i)) (pu_pw 4 (pu_r seed i)) = some (pu_ma (gA M0 12) 4 q e seed i) := pu_tim7 (ha _ hp) (pu_pw_el _ _)
    have t2 : fX7_times (gA M0 13 (pu_mk q e i)) (pu_pw y (pu_r seed i)) = some (pu_ma (gA M0 13) y q e seed i) := pu_tim7 (hb _ hp) (pu_pw_el _ _)
    have t3 : fX7_power 4 (pu_r seed i) = some (pu_pw 4 (pu_r seed i)) := pu_pow7 pu_el4 (pu_dn_nn _)
    have t4 : fX7_power y (pu_r seed i) = some (pu_pw y (pu_r seed i)) := pu_pow7 hy (pu_dn_nn _)
    obtain ⟨M1, d1, d2⟩ := pu_dg2 (sA M 19 (pu_mk q e i) 1) seed i
    have fr1 : pu_fr [1] [2, 3, 17, 18, 19] [] [33] M0 M1 := (fr.sA (by decide) _ _).trans (d2.mono (by decide) (by decide) (by decide) (by decide))
    have e12 : gA M1 12 = gA M0 12 := fr1.2.1 12 (by decide)
    have e13 : gA M1 13 = gA M0 13 := fr1.2.1 13 (by decide)
    have e6 : gA M1 6 = gA M0 6 := fr1.2.1 6 (by decide)
    have t6 : ∀ v, fX7_publicKey (sA M1 17 i v) = some y := fun v => by
      rw [pu_pk7 _ (by show pu_el (gA M1 6 0); rw [e6]; exact hk 0 (by decide)) (by show pu_el (gA M1 6 1); rw [e6]; exact hk 1 (by decide)) (by show pu_el (gA M1 6 2); rw [e6]; exact hk 2 (by decide)), hy']
      show some (pu_tm (pu_tm (gA M1 6 0) (gA M1 6 1)) (gA M1 6 2)) = _
      rw [e6]
    rw [p11, if_neg (nI_ge hie (by omega)), pk_sub (by omega), pu_nz (by omega) (by omega), hm, hkk, pu_b2]
    simp only [zs_IA, p11, pk_sub (show i ≤ e by omega), pu_nz (show 0 < e - i by omega) (show e - i < 2 ^ 31 by omega)]
    simp only [d1, pu_b2]
    simp only [pu_zin (pu_in (show pu_mk q e i < 10 by omega) (by decide)), pu_zin (pu_in (show i < 10 by omega) (by decide)), t3, pu_b1]
    try simp only [zs_AA, ↓reduceIte, Nat.reduceEqDiff]
    simp only [pu_c (show pu_mk q e i < 2 ^ 31 by omega), pu_c (show i < 2 ^ 31 by omega), e12, e13]
    simp only [t1, pu_b1]
    simp only [t6, pu_b1]
    simp only [t4, pu_b1]
    simp only [t2, pu_b1]
    try simp only [zs_AA, ↓reduceIte, Nat.reduceEqDiff]
    simp only [pk_us, hdv, nI_1]
    have f1 : gI (sA (sA M1 17 i (pu_ma (gA M0 12) 4 q e seed i)) 18 i (pu_ma (gA M0 13) y q e seed i)) 1 = nI (n + i) := by
      show gI M1 1 = _
      rw [d2.1 1 (by decide)]; exact g1
    obtain ⟨M2, c1, c2, c3, c4, c5⟩ := pu_put7 (sA (sA M1 17 i (pu_ma (gA M0 12) 4 q e seed i)) 18 i (pu_ma (gA M0 13) y q e seed i)) (5 : Int32) (pu_ma (gA M0 12) 4 q e seed i) (pu_ma (gA M0 13) y q e seed i) 0 (by omega) f1
    rw [c1, pu_b2]
    have q17 : gA M1 17 = gA M 17 := d2.2.1 17 (by decide)
    have q18 : gA M1 18 = gA M 18 := d2.2.1 18 (by decide)
    have q19 : gA M1 19 = upd (gA M 19) (pu_mk q e i) 1 := d2.2.1 19 (by decide)
    have q2 : gA M1 2 = gA M 2 := d2.2.1 2 (by decide)
    have q3 : gA M1 3 = gA M 3 := d2.2.1 3 (by decide)
    refine ih g (i + 1) M2 (by omega) (by omega) ?_ ?_ ?_ ?_ ?_ ?_ (((fr1.sA (by decide) _ _).sA (by decide) _ _).trans (c5.mono (by decide) (by decide) (by decide) (by decide)))
    · refine pu_mt_i ?_ h19
      rw [c5.2.1 19 (by decide)]
      simp only [zs_AA, ↓reduceIte, Nat.reduceEqDiff]
      rw [q19]
    · rw [c5.2.1 17 (by decide)]
      simp only [zs_AA, ↓reduceIte, Nat.reduceEqDiff]; rw [q17, h17, pu_ov_s]
    · rw [c5.2.1 18 (by decide)]
      simp only [zs_AA, ↓reduceIte, Nat.reduceEqDiff]; rw [q18, h18, pu_ov_s]
    · exact c2
    · rw [c3]; show upd (gA M1 2) _ _ = _
      rw [q2, g2]; rfl
    · rw [c4]; show pu_row (gA M1 3) _ _ _ _ = _
      rw [q3, g3]; rfl
/-- copies of the new ones -/
theorem pu_mx205 (M0 : zSt) {e : Nat} (he : e ≤ 10) (h11 : gI M0 11 = nI e) : ∀ (d f i : Nat) (M : zSt), i + d = e → d < f → gA M 12 = pu_ov (gA M0 17) (gA M0 12) i → gA M 13 = pu_ov (gA M0 18) (gA M0 13) i → pu_fr [] [12, 13] [] [] M0 M → ∃ M' : zSt, lX7_mix_205 f M (nI i) = some M' ∧ gA M' 12 = pu_ov (gA M0 17) (gA M0 12) e ∧ gA M' 13 = pu_ov (gA M0 18) (gA M0 13) e ∧ pu_fr [] [12, 13] [] [] M0 M' := by
  intro d
  induction d with
  | zero =>
    intro f i M hi hf h12 h13 fr
    obtain ⟨g, rfl, -⟩ := pu_fu hf
    have h0 : i = e := by omega
    subst h0
    refine ⟨M, ?_, h12, h13, fr⟩
    show bX7_mix_205 _ _ _ = _
    unfold bX7_mix_205
    rw [fr.1 11 (by decide), h11, if_pos (nI_le (Nat.le_refl _) (by omega))]
  | succ d ih =>
    intro f i M hi hf h12 h13 fr
    obtain ⟨g, rfl, hg⟩ := pu_fu hf
    show ∃ M' : zSt, bX7_mix_205 _ _ _ = _ ∧ _
    unfold bX7_mix_205
    have r17 : gA M 17 = gA M0 17 := fr.2.1 17 (by decide)
    have r18 : gA M 18 = gA M0 18 := fr.2.1 18 (by decide)
    simp only [zs_AA, ↓reduceIte, Nat.reduceEqDiff, r17, r18, pu_zin (pu_in (show i < 10 by omega) (by decide))]
    rw [fr.1 11 (by decide), h11, if_neg (nI_ge (by omega) (by omega)), pu_c (by omega), nI_1]
    refine ih g (i + 1) _ (by omega) (by omega) ?_ ?_ ((fr.sA (by decide) _ _).sA (by decide) _ _)
    · simp only [zs_AA, ↓reduceIte, Nat.reduceEqDiff]; rw [h12, pu_ov_s]
    · simp only [zs_AA, ↓reduceIte, Nat.reduceEqDiff]; rw [h13, pu_ov_s]
theorem pu_free (M : zSt) : ∃ M' : zSt, fX7_free M = some M' ∧ (∀ t, t < 10 → gA M' 19 t = 0) ∧ pu_fr [] [19] [] [] M M' := by
  obtain ⟨M1, a1, a2, a3⟩ := pu_free2 10 1000 0 M rfl (by decide)
  refine ⟨M1, a1, fun t ht => ?_, a3⟩
  rw [a2]; exact if_pos ⟨Nat.zero_le _, ht⟩
/-- the audit's mixing -/
theorem pu_mx119 (M0 : zSt) {e q n : Nat} (he : e ≤ 10) (hq : q < 2 ^ 31) (hn : n < 160) (h29 : gI M0 29 = nI e) (y : Int32) (hy : pu_el y) (ha : ∀ t, t < e → pu_el (gA M0 30 t)) (hb : ∀ t, t < e → pu_el (gA M0 31 t)) : ∀ (d f i : Nat) (M : zSt), i + d = e → d < f → (∀ t, t < e → gA M 19 t = (pu_mt q e i).1 t) → gA M 17 = pu_ov (pu_ma (gA M0 30) 4 q e (gA M0 3 (6 * n))) (gA M0 17) i → gA M 18 = pu_ov (pu_ma (gA M0 31) y q e (gA M0 3 (6 * n))) (gA M0 18) i → pu_fr [] [17, 18, 19] [] [33] M0 M → ∃ M' : zSt, lX7_rightMixed_119 f M (nI n) y (nI (pu_mt q e i).2) (nI i) = lX7_rightMixed_233 1000 M' 0 ∧ gA M' 17 = pu_ov (pu_ma (gA M0 30) 4 q e (gA M0 3 (6 * n))) (gA M0 17) e ∧ gA M' 18 = pu_ov (pu_ma (gA M0 31) y q e (gA M0 3 (6 * n))) (gA M0 18) e ∧ pu_fr [] [17, 18, 19] [] [33] M0 M' := by
  intro d
  induction d with
  | zero =>
    intro f i M hi hf h19 h17 h18 fr
    obtain ⟨g, rfl, -⟩ := pu_fu hf
    have h0 : i = e := by omega
    subst h0
    refine ⟨M, ?_, h17, h18, fr⟩
    show bX7_rightMixed_119 _ _ _ _ _ _ = _
    unfold bX7_rightMixed_119
    rw [fr.1 29 (by decide), h29, if_pos (nI_le (Nat.le_refl _) (by omega))]
  | succ d ih =>
    intro f i M hi hf h19 h17 h18 fr
    obtain ⟨g, rfl, hg⟩ := pu_fu hf
    show ∃ M' : zSt, bX7_rightMixed_119 _ _ _ _ _ _ = _ ∧ _
    unfold bX7_rightMixed_119
    have p29 : gI M 29 = nI e := (fr.1 29 (by decide)).trans h29
    have hie : i < e := by omega
    have hw := pu_mw q hie
    have hpk : pu_tk (gA M 19) ((pu_mt q e i).2 % (e - i)) 0 e = pu_mk q e i := pu_tk_c e _ 0 (fun t _ h => h19 t (by omega))
    have hun : pu_un (gA M 19) 0 e = pu_un (pu_mt q e i).1 0 e := pu_un_c e 0 (fun t _ h => h19 t (by omega))
    have hle := pu_mt_le q e i
    have hlt : (pu_mt q e i).2 % (e - i) < 2 ^ 31 := Nat.lt_of_le_of_lt (Nat.mod_le _ _) (by omega)
    have hkk : fX7_take M (nI e) (nI ((pu_mt q e i).2 % (e - i))) = some (nI (pu_mk q e i), sA M 19 (pu_mk q e i) 1) := by
      have := pu_take7 M he e 1000 ((pu_mt q e i).2 % (e - i)) 0 (by omega) (by omega) hlt (by rw [hun]; exact hw)
      rw [hpk] at this; exact this
    have hp := pu_mk_lt q hie
    have hm : nI (pu_mt q e i).2 - nI (pu_mt q e i).2 / nI (e - i) * nI (e - i) = nI ((pu_mt q e i).2 % (e - i)) := pk_rem (by omega) (by omega) (by omega)
    have hdv : nI (pu_mt q e i).2 / nI (e - i) = nI ((pu_mt q e i).2 / (e - i)) := pk_div (by omega) (by omega) (by omega)
    have t1 : fX7_times (gA M0 30 (pu_mk q e i)) (pu_pw 4 (pu_r (gA M0 3 (6 * n)) i)) = some (pu_ma (gA M0 30) 4 q e (gA M0 3 (6 * n)) i) := pu_tim7 (ha _ hp) (pu_pw_el _ _)
    have t2 : fX7_times (gA M0 31 (pu_mk q e i)) (pu_pw y (pu_r (gA M0 3 (6 * n)) i)) = some (pu_ma (gA M0 31) y q e (gA M0 3 (6 * n)) i) := pu_tim7 (hb _ hp) (pu_pw_el _ _)
    have t3 : fX7_power 4 (pu_r (gA M0 3 (6 * n)) i) = some (pu_pw 4 (pu_r (gA M0 3 (6 * n)) i)) := pu_pow7 pu_el4 (pu_dn_nn _)
    have t4 : fX7_power y (pu_r (gA M0 3 (6 * n)) i) = some (pu_pw y (pu_r (gA M0 3 (6 * n)) i)) := pu_pow7 hy (pu_dn_nn _)
    have e3 : gA M 3 = gA M0 3 := fr.2.1 3 (by decide)
    obtain ⟨M1, d1, d2⟩ := pu_dg2 (sA M 19 (pu_mk q e i) 1) (gA M0 3 (6 * n)) i
    have fr1 : pu_fr [] [17, 18, 19] [] [33] M0 M1 := (fr.sA (by decide) _ _).trans (d2.mono (by decide) (by decide) (by decide) (by decide))
    have e30 : gA M1 30 = gA M0 30 := fr1.2.1 30 (by decide)
    have e31 : gA M1 31 = gA M0 31 := fr1.2.1 31 (by decide)
    rw [p29, if_neg (nI_ge hie (by omega)), pk_sub (by omega), pu_nz (by omega) (by omega), hm, hkk, pu_b2]
    simp only [zs_IA, p29, pk_sub (show i ≤ e by omega), pu_nz (show 0 < e - i by omega) (show e - i < 2 ^ 31 by omega), pu_i70]
    simp only [pu_zin (pu_in (show 6 * n < 960 by omega) (by decide)), pu_c (show 6 * n < 2 ^ 31 by omega)]
    try simp only [zs_AA, ↓reduceIte, Nat.reduceEqDiff]
    simp only [e3]
    simp only [d1, pu_b2]
    simp only [pu_zin (pu_in (show pu_mk q e i < 10 by omega) (by decide)), pu_zin (pu_in (show i < 10 by omega) (by decide)), t3, pu_b1]
    try simp only [zs_AA, ↓reduceIte, Nat.reduceEqDiff]
    simp only [pu_c (show pu_mk q e i < 2 ^ 31 by omega), pu_c (show i < 2 ^ 31 by omega), e30, e31]
    simp only [t1, pu_b1]
    simp only [t4, pu_b1]
    simp only [t2, pu_b1]
    simp only [hdv, nI_1]
    have q17 : gA M1 17 = gA M 17 := d2.2.1 17 (by decide)
    have q18 : gA M1 18 = gA M 18 := d2.2.1 18 (by decide)
    have q19 : gA M1 19 = upd (gA M 19) (pu_mk q e i) 1 := d2.2.1 19 (by decide)
    refine ih g (i + 1) _ (by omega) (by omega) ?_ ?_ ?_ ((fr1.sA (by decide) _ _).sA (by decide) _ _)
    · refine pu_mt_i ?_ h19
      simp only [zs_AA, ↓reduceIte, Nat.reduceEqDiff]
      rw [q19]
    · simp only [zs_AA, ↓reduceIte, Nat.reduceEqDiff]; rw [q17, h17, pu_ov_s]
    · simp only [zs_AA, ↓reduceIte, Nat.reduceEqDiff]; rw [q18, h18, pu_ov_s]
/-- orders: what isOrder and orders say together -/
theorem pu_ord (P : zSt) {e : Nat} (he : e ≤ 10) (h6 : gI P 6 = nI e) (x : Int32) : ∀ (d f k : Nat) (o : Int32), k + d = e + 1 ∨ (e + 1 < k ∧ d = 0) → 2 ≤ k → k ≤ 11 → d < f → ∃ r : Int32, lX7_orders_4 f (nI e) o (nI k) = some r ∧ lX4_isOrder_4 f P x o (nI k) = some (if x < 0 then 0 else if r ≤ x then 0 else 1) := by
  intro d
  induction d with
  | zero =>
    intro f k o hk h2 h11 hf
    obtain ⟨g, rfl, -⟩ := pu_fu hf
    refine ⟨o, ?_, ?_⟩
    · show bX7_orders_4 _ _ _ _ = _
      unfold bX7_orders_4
      rw [if_pos (nI_lt (by omega) (by omega))]
    · show bX4_isOrder_4 _ _ _ _ _ = _
      unfold bX4_isOrder_4
      rw [h6, if_pos (nI_lt (by omega) (by omega))]
      by_cases hx : x < 0
      · rw [if_pos hx, if_pos hx]
      · rw [if_neg hx, if_neg hx]
        by_cases hx2 : o ≤ x
        · rw [if_pos hx2, if_pos hx2]
        · rw [if_neg hx2, if_neg hx2]
  | succ d ih =>
    intro f k o hk h2 h11 hf
    obtain ⟨g, rfl, hg⟩ := pu_fu hf
    obtain ⟨r, a, b⟩ := ih g (k + 1) (o * nI k) (by omega) (by omega) (by omega) (by omega)
    refine ⟨r, ?_, ?_⟩
    · show bX7_orders_4 _ _ _ _ = _
      unfold bX7_orders_4
      rw [if_neg (nI_nlt (by omega) (by omega)), nI_1]; exact a
    · show bX4_isOrder_4 _ _ _ _ _ = _
      unfold bX4_isOrder_4
      rw [h6, if_neg (nI_nlt (by omega) (by omega)), nI_1]; exact b
theorem pu_orders (P : zSt) {e : Nat} (he : e ≤ 10) (h6 : gI P 6 = nI e) (x : Int32) : ∃ r : Int32, fX7_orders (nI e) = some r ∧ fX4_isOrder P x = some (if x < 0 then 0 else if r ≤ x then 0 else 1) :=
  pu_ord P he h6 x (e + 1 - 2) 1000 2 1 (by omega) (by decide) (by decide) (by omega)
