/-! Pure: states and frames, loops, numbers, digests. -/
theorem pu_nr {α : Sort _} {a b : α} (h : a = b) : a = b := h
theorem zs_II (S : zSt) (k : Nat) (v : Int32) (j : Nat) : gI (sI S k v) j = if j = k then v else gI S j := pu_nr rfl
theorem zs_IJ (S : zSt) (k : Nat) (v : Int64) (j : Nat) : gI (sJ S k v) j = gI S j := pu_nr rfl
theorem zs_IA (S : zSt) (k i : Nat) (v : Int32) (j : Nat) : gI (sA S k i v) j = gI S j := pu_nr rfl
theorem zs_IL (S : zSt) (k i : Nat) (v : Int64) (j : Nat) : gI (sL S k i v) j = gI S j := pu_nr rfl
theorem zs_JI (S : zSt) (k : Nat) (v : Int32) (j : Nat) : gJ (sI S k v) j = gJ S j := pu_nr rfl
theorem zs_JJ (S : zSt) (k : Nat) (v : Int64) (j : Nat) : gJ (sJ S k v) j = if j = k then v else gJ S j := pu_nr rfl
theorem zs_JA (S : zSt) (k i : Nat) (v : Int32) (j : Nat) : gJ (sA S k i v) j = gJ S j := pu_nr rfl
theorem zs_JL (S : zSt) (k i : Nat) (v : Int64) (j : Nat) : gJ (sL S k i v) j = gJ S j := pu_nr rfl
theorem zs_AI (S : zSt) (k : Nat) (v : Int32) (j : Nat) : gA (sI S k v) j = gA S j := pu_nr rfl
theorem zs_AJ (S : zSt) (k : Nat) (v : Int64) (j : Nat) : gA (sJ S k v) j = gA S j := pu_nr rfl
theorem zs_AA (S : zSt) (k i : Nat) (v : Int32) (j : Nat) : gA (sA S k i v) j = if j = k then upd (gA S k) i v else gA S j := pu_nr rfl
theorem zs_AL (S : zSt) (k i : Nat) (v : Int64) (j : Nat) : gA (sL S k i v) j = gA S j := pu_nr rfl
theorem zs_LI (S : zSt) (k : Nat) (v : Int32) (j : Nat) : gL (sI S k v) j = gL S j := pu_nr rfl
theorem zs_LJ (S : zSt) (k : Nat) (v : Int64) (j : Nat) : gL (sJ S k v) j = gL S j := pu_nr rfl
theorem zs_LA (S : zSt) (k i : Nat) (v : Int32) (j : Nat) : gL (sA S k i v) j = gL S j := pu_nr rfl
theorem zs_LL (S : zSt) (k i : Nat) (v : Int64) (j : Nat) : gL (sL S k i v) j = if j = k then vp_updL (gL S k) i v else gL S j := pu_nr rfl
/-- only these cells may differ -/
def pu_fr (I A L J : List Nat) (S S' : zSt) : Prop := (∀ k, k ∉ I → gI S' k = gI S k) ∧ (∀ k, k ∉ A → gA S' k = gA S k) ∧ (∀ k, k ∉ L → gL S' k = gL S k) ∧ ∀ k, k ∉ J → gJ S' k = gJ S k
theorem pu_fr.refl (I A L J : List Nat) (S : zSt) : pu_fr I A L J S S := ⟨fun _ _ => rfl, fun _ _ => rfl, fun _ _ => rfl, fun _ _ => rfl⟩
theorem pu_fr.trans {I A L J : List Nat} {S S' S'' : zSt} (h : pu_fr I A L J S S') (g : pu_fr I A L J S' S'') : pu_fr I A L J S S'' :=
  ⟨fun k hk => (g.1 k hk).trans (h.1 k hk), fun k hk => (g.2.1 k hk).trans (h.2.1 k hk), fun k hk => (g.2.2.1 k hk).trans (h.2.2.1 k hk), fun k hk => (g.2.2.2 k hk).trans (h.2.2.2 k hk)⟩
theorem pu_fr.mono {I A L J I' A' L' J' : List Nat} {S S' : zSt} (h : pu_fr I A L J S S') (h1 : ∀ k, k ∈ I → k ∈ I') (h2 : ∀ k, k ∈ A → k ∈ A') (h3 : ∀ k, k ∈ L → k ∈ L') (h4 : ∀ k, k ∈ J → k ∈ J') : pu_fr I' A' L' J' S S' :=
  ⟨fun k hk => h.1 k (fun z => hk (h1 k z)), fun k hk => h.2.1 k (fun z => hk (h2 k z)), fun k hk => h.2.2.1 k (fun z => hk (h3 k z)), fun k hk => h.2.2.2 k (fun z => hk (h4 k z))⟩
theorem pu_fr.sI {I A L J : List Nat} {S S' : zSt} (h : pu_fr I A L J S S') {k : Nat} (hk : k ∈ I) (v : Int32) : pu_fr I A L J S (sI S' k v) :=
  ⟨fun j hj => by rw [zs_II, if_neg (fun z : j = k => hj (by rw [z]; exact hk))]; exact h.1 j hj, h.2.1, h.2.2.1, h.2.2.2⟩
theorem pu_fr.sA {I A L J : List Nat} {S S' : zSt} (h : pu_fr I A L J S S') {k : Nat} (hk : k ∈ A) (i : Nat) (v : Int32) : pu_fr I A L J S (sA S' k i v) :=
  ⟨h.1, fun j hj => by rw [zs_AA, if_neg (fun z : j = k => hj (by rw [z]; exact hk))]; exact h.2.1 j hj, h.2.2.1, h.2.2.2⟩
theorem pu_fr.sL {I A L J : List Nat} {S S' : zSt} (h : pu_fr I A L J S S') {k : Nat} (hk : k ∈ L) (i : Nat) (v : Int64) : pu_fr I A L J S (sL S' k i v) :=
  ⟨h.1, h.2.1, fun j hj => by rw [zs_LL, if_neg (fun z : j = k => hj (by rw [z]; exact hk))]; exact h.2.2.1 j hj, h.2.2.2⟩
theorem pu_fr.sJ {I A L J : List Nat} {S S' : zSt} (h : pu_fr I A L J S S') {k : Nat} (hk : k ∈ J) (v : Int64) : pu_fr I A L J S (sJ S' k v) :=
  ⟨h.1, h.2.1, h.2.2.1, fun j hj => by rw [zs_JJ, if_neg (fun z : j = k => hj (by rw [z]; exact hk))]; exact h.2.2.2 j hj⟩
theorem pu_zin {α : Type} {x : Int32} {n : Nat} {A : Option α} (h : vp_in x n) : zin x n A = A := if_neg h
theorem pu_zn {α : Type} {i n : Nat} {A : Option α} (h : i < n) (hn : n < 2 ^ 31) : zin (nI i) n A = A := if_neg (nI_in h hn)
theorem pu_b1 {α ρ : Type} (a : α) (f : α → Option ρ) : zb1 (some a) f = f a := pu_nr rfl
theorem pu_b2 {α β ρ : Type} (a : α × β) (f : α → β → Option ρ) : zb2 (some a) f = f a.1 a.2 := pu_nr rfl
theorem pu_b3 {α β γ ρ : Type} (a : α × β × γ) (f : α → β → γ → Option ρ) : zb3 (some a) f = f a.1 a.2.1 a.2.2 := pu_nr rfl
theorem pu_b4 {α β γ δ ρ : Type} (a : α × β × γ × δ) (f : α → β → γ → δ → Option ρ) : zb4 (some a) f = f a.1 a.2.1 a.2.2.1 a.2.2.2 := pu_nr rfl
theorem pu_b5 {α β γ δ η ρ : Type} (a : α × β × γ × δ × η) (f : α → β → γ → δ → η → Option ρ) : zb5 (some a) f = f a.1 a.2.1 a.2.2.1 a.2.2.2.1 a.2.2.2.2 := pu_nr rfl
theorem pu_bxl {β ρ : Type} (E : String) (fe : String → Option β) (f : ρ → Option β) : zbx (some (.inl E)) fe f = fe E := pu_nr rfl
theorem pu_bxr {β ρ : Type} (a : ρ) (fe : String → Option β) (f : ρ → Option β) : zbx (some (.inr a)) fe f = f a := pu_nr rfl
theorem pu_c {n : Nat} (h : n < 2 ^ 31) : (nI n).toNatClampNeg = n := nI_clamp h
theorem pu_fu {n f : Nat} (h : n < f) : ∃ g, f = g + 1 ∧ n ≤ g := ⟨f - 1, by omega, by omega⟩
theorem pu_uu (f : Nat → Int32) (k : Nat) (v w : Int32) : upd (upd f k v) k w = upd f k w := by
  funext j; unfold upd; by_cases h : j = k <;> simp only [h, ite_true, ite_false]
theorem pu_uuL (f : Nat → Int64) (k : Nat) (v w : Int64) : vp_updL (vp_updL f k v) k w = vp_updL f k w := by
  funext j; unfold vp_updL; by_cases h : j = k <;> simp only [h, ite_true, ite_false]
/-- numbers -/
def pu_el (x : Int32) : Prop := ∃ n, n < 4079 ∧ x = nI n
def pu_nn (x : Int32) : Prop := ∃ n, n < 2 ^ 31 ∧ x = nI n
theorem pu_el.nn {x : Int32} (h : pu_el x) : pu_nn x := by
  obtain ⟨n, h1, h2⟩ := h
  exact ⟨n, by omega, h2⟩
theorem pu_pw_x : ∃ f : Int32 → Int32 → Int32, ∀ b e, f b e = nI (b.toNatClampNeg ^ e.toNatClampNeg % 4079) := ⟨_, fun _ _ => rfl⟩
theorem pu_tm_x : ∃ f : Int32 → Int32 → Int32, ∀ a b, f a b = nI (a.toNatClampNeg * b.toNatClampNeg % 4079) := ⟨_, fun _ _ => rfl⟩
/-- chosen, so that nothing unfolds them -/
noncomputable def pu_pw : Int32 → Int32 → Int32 := Classical.choose pu_pw_x
noncomputable def pu_tm : Int32 → Int32 → Int32 := Classical.choose pu_tm_x
theorem pu_pw_e (b e : Int32) : pu_pw b e = nI (b.toNatClampNeg ^ e.toNatClampNeg % 4079) := Classical.choose_spec pu_pw_x b e
theorem pu_tm_e (a b : Int32) : pu_tm a b = nI (a.toNatClampNeg * b.toNatClampNeg % 4079) := Classical.choose_spec pu_tm_x a b
theorem pu_pw_el (b e : Int32) : pu_el (pu_pw b e) := ⟨_, Nat.mod_lt _ (by decide), pu_pw_e b e⟩
theorem pu_tm_el (b e : Int32) : pu_el (pu_tm b e) := ⟨_, Nat.mod_lt _ (by decide), pu_tm_e b e⟩
theorem pu_el4 : pu_el 4 := ⟨4, by decide, rfl⟩
theorem pu_mm (a b : Nat) : a % 4079 * b % 4079 = a * b % 4079 := by rw [Nat.mul_mod, Nat.mod_mod, ← Nat.mul_mod]
theorem pu_mm2 (a b : Nat) : a * (b % 4079) % 4079 = a * b % 4079 := by rw [Nat.mul_mod, Nat.mod_mod, ← Nat.mul_mod]
theorem pu_mp (r s q : Nat) : r % 4079 * (s * s % 4079) ^ q % 4079 = r * s ^ (2 * q) % 4079 := by
  rw [pu_mm, Nat.mul_mod, ← Nat.pow_mod, ← Nat.mul_mod, Nat.pow_mul, Nat.pow_two]
theorem pu_lt2 {a b : Nat} (ha : a < 4079) (hb : b < 4079) : a * b < 16638241 := by
  have h1 : a * b ≤ 4078 * 4078 := Nat.mul_le_mul (by omega) (by omega)
  omega
theorem pu_p3 : ∀ (k f r s e : Nat), r < 4079 → s < 4079 → e < 2 ^ k → k ≤ 31 → k < f → lX3_power_7 f (nI r) (nI s) (nI e) = some (nI (r * s ^ e % 4079)) := by
  intro k
  induction k with
  | zero =>
    intro f r s e hr hs he hk hf
    obtain ⟨g, rfl, -⟩ := pu_fu hf
    have h0 : e = 0 := by simpa using he
    subst h0
    show bX3_power_7 _ _ _ _ = _
    unfold bX3_power_7
    rw [if_pos (show nI 0 ≤ (0 : Int32) by decide)]
    rw [Nat.pow_zero, Nat.mul_one, Nat.mod_eq_of_lt hr]
  | succ k ih =>
    intro f r s e hr hs he hk hf
    obtain ⟨g, rfl, hg⟩ := pu_fu hf
    show bX3_power_7 _ _ _ _ = _
    unfold bX3_power_7
    have hkk : 2 ^ (k + 1) ≤ 2 ^ 31 := Nat.pow_le_pow_right (by decide) hk
    have he31 : e < 2 ^ 31 := Nat.lt_of_lt_of_le he hkk
    rcases Nat.eq_zero_or_pos e with h0 | h0
    · subst h0
      rw [if_pos (show nI 0 ≤ (0 : Int32) by decide), Nat.pow_zero, Nat.mul_one, Nat.mod_eq_of_lt hr]
    · rw [if_neg (nI_nle h0 he31)]
      have hsh : nI e >>> ((1 : Int32) &&& 31) = nI (e / 2) := pk_shrN he31 _ 1 (by decide)
      have hss : (nI s * nI s) - (nI s * nI s) / (4079 : Int32) * (4079 : Int32) = nI (s * s % 4079) := by
        rw [pk_mul]; exact pk_rem (by have := pu_lt2 hs hs; omega) (by decide) (by decide)
      have hrs : (nI r * nI s) - (nI r * nI s) / (4079 : Int32) * (4079 : Int32) = nI (r * s % 4079) := by
        rw [pk_mul]; exact pk_rem (by have := pu_lt2 hr hs; omega) (by decide) (by decide)
      have hand : nI e &&& (1 : Int32) = nI (e % 2) := pk_andN (by omega) 1 (by decide)
      have he2 : e / 2 < 2 ^ k := by rw [Nat.pow_succ] at he; omega
      have hP : (0 : Nat) < 4079 := by decide
      by_cases h1 : e % 2 = 1
      · rw [if_pos (show nI e &&& (1 : Int32) = 1 by rw [hand, h1]; rfl)]
        unfold bX3_power_28
        rw [hrs, hss, hsh, ih g _ _ _ (Nat.mod_lt _ hP) (Nat.mod_lt _ hP) he2 (by omega) (by omega), pu_mp]
        have e2 : e = 2 * (e / 2) + 1 := by omega
        have h4 : s ^ e = s * s ^ (2 * (e / 2)) := by
          conv => lhs; rw [e2, Nat.pow_succ']
        rw [h4, Nat.mul_assoc]
      · rw [if_neg (show ¬ nI e &&& (1 : Int32) = 1 by rw [hand, show e % 2 = 0 by omega]; decide)]
        unfold bX3_power_28
        have e2 : e = 2 * (e / 2) := by omega
        rw [hss, hsh, ih g _ _ _ hr (Nat.mod_lt _ hP) he2 (by omega) (by omega)]
        have h5 := pu_mp r s (e / 2)
        rw [Nat.mod_eq_of_lt hr] at h5
        rw [h5, ← e2]
theorem pu_p7 : ∀ (k f r s e : Nat), r < 4079 → s < 4079 → e < 2 ^ k → k ≤ 31 → k < f → lX7_power_9 f (lN r) (lN s) (nI e) = some (nI (r * s ^ e % 4079)) := by
  intro k
  induction k with
  | zero =>
    intro f r s e hr hs he hk hf
    obtain ⟨g, rfl, -⟩ := pu_fu hf
    have h0 : e = 0 := by simpa using he
    subst h0
    show bX7_power_9 _ _ _ _ = _
    unfold bX7_power_9
    rw [if_pos (show nI 0 ≤ (0 : Int32) by decide)]
    rw [Nat.pow_zero, Nat.mul_one, Nat.mod_eq_of_lt hr, lN_i]
  | succ k ih =>
    intro f r s e hr hs he hk hf
    obtain ⟨g, rfl, hg⟩ := pu_fu hf
    show bX7_power_9 _ _ _ _ = _
    unfold bX7_power_9
    have hkk : 2 ^ (k + 1) ≤ 2 ^ 31 := Nat.pow_le_pow_right (by decide) hk
    have he31 : e < 2 ^ 31 := Nat.lt_of_lt_of_le he hkk
    rcases Nat.eq_zero_or_pos e with h0 | h0
    · subst h0
      rw [if_pos (show nI 0 ≤ (0 : Int32) by decide), Nat.pow_zero, Nat.mul_one, Nat.mod_eq_of_lt hr, lN_i]
    · rw [if_neg (nI_nle h0 he31)]
      have hsh : nI e / (2 : Int32) = nI (e / 2) := pk_div he31 (by decide) (by decide)
      have hss : (lN s * lN s) - (lN s * lN s) / (4079 : Int64) * (4079 : Int64) = lN (s * s % 4079) := by
        rw [lN_mul]; exact pk_lRem (by have := pu_lt2 hs hs; omega) (by decide) (by decide)
      have hrs : (lN r * lN s) - (lN r * lN s) / (4079 : Int64) * (4079 : Int64) = lN (r * s % 4079) := by
        rw [lN_mul]; exact pk_lRem (by have := pu_lt2 hr hs; omega) (by decide) (by decide)
      have hand : nI e - nI e / (2 : Int32) * (2 : Int32) = nI (e % 2) := pk_rem he31 (by decide) (by decide)
      have he2 : e / 2 < 2 ^ k := by rw [Nat.pow_succ] at he; omega
      have hP : (0 : Nat) < 4079 := by decide
      by_cases h1 : e % 2 = 1
      · rw [if_pos (show nI e - nI e / (2 : Int32) * (2 : Int32) = 1 by rw [hand, h1]; rfl)]
        unfold bX7_power_34
        rw [hrs, hss, hsh, ih g _ _ _ (Nat.mod_lt _ hP) (Nat.mod_lt _ hP) he2 (by omega) (by omega), pu_mp]
        have e2 : e = 2 * (e / 2) + 1 := by omega
        have h4 : s ^ e = s * s ^ (2 * (e / 2)) := by
          conv => lhs; rw [e2, Nat.pow_succ']
        rw [h4, Nat.mul_assoc]
      · rw [if_neg (show ¬ nI e - nI e / (2 : Int32) * (2 : Int32) = 1 by rw [hand, show e % 2 = 0 by omega]; decide)]
        unfold bX7_power_34
        have e2 : e = 2 * (e / 2) := by omega
        rw [hss, hsh, ih g _ _ _ hr (Nat.mod_lt _ hP) he2 (by omega) (by omega)]
        have h5 := pu_mp r s (e / 2)
        rw [Nat.mod_eq_of_lt hr] at h5
        rw [h5, ← e2]
theorem pu_pow3 {b e : Int32} (hb : pu_el b) (he : pu_nn e) : fX3_power b e = some (pu_pw b e) := by
  obtain ⟨n, hn, rfl⟩ := hb
  obtain ⟨q, hq, rfl⟩ := he
  unfold fX3_power
  rw [pu_pw_e]
  have h := pu_p3 31 1000 1 n q (by decide) hn hq (by decide) (by decide)
  rw [Nat.one_mul] at h
  rw [pu_c (by omega), pu_c hq]
  exact h
theorem pu_pow7 {b e : Int32} (hb : pu_el b) (he : pu_nn e) : fX7_power b e = some (pu_pw b e) := by
  obtain ⟨n, hn, rfl⟩ := hb
  obtain ⟨q, hq, rfl⟩ := he
  unfold fX7_power
  rw [pu_pw_e]
  have h := pu_p7 31 1000 1 n q (by decide) hn hq (by decide) (by decide)
  rw [Nat.one_mul] at h
  rw [pu_c (by omega), pu_c hq, nI_l (by omega)]
  exact h
theorem pu_tim3 {a b : Int32} (ha : pu_el a) (hb : pu_el b) : fX3_times a b = some (pu_tm a b) := by
  obtain ⟨n, hn, rfl⟩ := ha
  obtain ⟨q, hq, rfl⟩ := hb
  unfold fX3_times
  rw [pu_tm_e]
  rw [pu_c (by omega), pu_c (by omega), pk_mul]
  exact congrArg some (pk_rem (by have := pu_lt2 hn hq; omega) (by decide) (by decide))
theorem pu_tim7 {a b : Int32} (ha : pu_el a) (hb : pu_el b) : fX7_times a b = some (pu_tm a b) := by
  obtain ⟨n, hn, rfl⟩ := ha
  obtain ⟨q, hq, rfl⟩ := hb
  unfold fX7_times
  rw [pu_tm_e]
  rw [pu_c (by omega), pu_c (by omega), nI_l (by omega), nI_l (by omega), lN_mul]
  have h : (lN (n * q) - lN (n * q) / (4079 : Int64) * (4079 : Int64)) = lN (n * q % 4079) := pk_lRem (by have := pu_lt2 hn hq; omega) (by decide) (by decide)
  rw [h, lN_i]
theorem pu_ofb {e : Int32} (he : pu_nn e) : fX3_ofBase e = some (pu_pw 4 e) := by
  unfold fX3_ofBase
  rw [pu_pow3 pu_el4 he]; rfl
theorem pu_inv {e : Int32} (he : pu_el e) : fX3_inverse e = some (pu_pw e 2038) := by
  unfold fX3_inverse
  rw [pu_pow3 he (⟨2038, by decide, rfl⟩ : pu_nn 2038)]; rfl
/-- one check of elements for both -/
theorem pu_isel (x : Int32) : ∃ r : Int32, fX3_isElement x = some r ∧ fX7_isElement x = some r ∧ (r = 0 ∨ (r = 1 ∧ pu_el x)) := by
  unfold fX3_isElement fX7_isElement
  rcases pk_ix x (n := 4079) (by decide) with h | h | ⟨j, hj, rfl⟩
  · have h1 : x < 1 := by simp only [Int32.lt_iff_toInt_lt] at h ⊢; exact Int.lt_trans h (by decide)
    have h2 : x ≤ 0 := by simp only [Int32.lt_iff_toInt_lt, Int32.le_iff_toInt_le] at h ⊢; exact Int.le_of_lt h
    rw [if_pos h1, if_pos h2]
    exact ⟨0, rfl, rfl, Or.inl rfl⟩
  · have h3 : (4079 : Int32) ≤ x := h
    by_cases h1 : x < 1
    · have h2 : x ≤ 0 := by
        simp only [Int32.lt_iff_toInt_lt, Int32.le_iff_toInt_le] at h1 ⊢
        have : (1 : Int32).toInt = 1 := rfl
        have : (0 : Int32).toInt = 0 := rfl
        omega
      rw [if_pos h1, if_pos h2]
      exact ⟨0, rfl, rfl, Or.inl rfl⟩
    · rw [if_neg h1, if_pos h3]
      have h2 : ¬ x ≤ 0 := fun z => by
        simp only [Int32.lt_iff_toInt_lt, Int32.le_iff_toInt_le] at h1 z
        have : (1 : Int32).toInt = 1 := rfl
        have : (0 : Int32).toInt = 0 := rfl
        omega
      rw [if_neg h2, if_pos h3]
      exact ⟨0, rfl, rfl, Or.inl rfl⟩
  · have hj31 : j < 2 ^ 31 := by omega
    rcases Nat.eq_zero_or_pos j with h0 | h0
    · subst h0
      rw [if_pos (show nI 0 < (1 : Int32) by decide), if_pos (show nI 0 ≤ (0 : Int32) by decide)]
      exact ⟨0, rfl, rfl, Or.inl rfl⟩
    · rw [if_neg (show ¬ nI j < (1 : Int32) from nI_nlt (b := 1) h0 hj31), if_neg (nI_nle h0 hj31), if_neg (show ¬ (4079 : Int32) ≤ nI j from nI_ge hj (by decide)), if_neg (show ¬ (4079 : Int32) ≤ nI j from nI_ge hj (by decide))]
      have he : pu_el (nI j) := ⟨j, hj, rfl⟩
      rw [pu_pow3 he (⟨2039, by decide, rfl⟩ : pu_nn 2039), pu_pow7 he (⟨2039, by decide, rfl⟩ : pu_nn 2039), pu_b1]
      by_cases h1 : pu_pw (nI j) 2039 = 1
      · rw [if_pos h1]; exact ⟨1, rfl, rfl, Or.inr ⟨rfl, he⟩⟩
      · rw [if_neg h1]; exact ⟨0, rfl, rfl, Or.inl rfl⟩
theorem pu_isnu (x : Int32) : ∃ r : Int32, fX3_isNumber x = some r ∧ fX7_isNumber x = some r ∧ (r = 0 ∨ (r = 1 ∧ ∃ n, n < 2039 ∧ x = nI n)) := by
  unfold fX3_isNumber fX7_isNumber
  by_cases h : x < 0
  · rw [if_pos h]; exact ⟨0, rfl, rfl, Or.inl rfl⟩
  · rw [if_neg h]
    by_cases h2 : (2039 : Int32) ≤ x
    · rw [if_pos h2]; exact ⟨0, rfl, rfl, Or.inl rfl⟩
    · rw [if_neg h2]
      rcases pk_ix x (n := 2039) (by decide) with h3 | h3 | h3
      · exact absurd h3 h
      · exact absurd h3 h2
      · exact ⟨1, rfl, rfl, Or.inr ⟨rfl, h3⟩⟩
/-- digests -/
theorem pu_dg_x : ∃ f : Int64 → Int64 → Int64, ∀ h x, f h x = ((h ^^^ x) * (-7046029254386353131 : Int64)) ^^^ (zsr ((h ^^^ x) * (-7046029254386353131 : Int64)) (29 : Int32)) := ⟨_, fun _ _ => rfl⟩
theorem pu_dn_x : ∃ f : Int64 → Int32, ∀ h, f h = ((zsr h (1 : Int32)) - (zsr h (1 : Int32)) / (2039 : Int64) * (2039 : Int64)).toInt32 := ⟨_, fun _ => rfl⟩
theorem pu_sr_x : ∃ f : Int64 → Int64, ∀ h, f h = zsr h (1 : Int32) := ⟨_, fun _ => rfl⟩
noncomputable def pu_dg : Int64 → Int64 → Int64 := Classical.choose pu_dg_x
noncomputable def pu_dn : Int64 → Int32 := Classical.choose pu_dn_x
noncomputable def pu_sr : Int64 → Int64 := Classical.choose pu_sr_x
theorem pu_dg_e (h x : Int64) : pu_dg h x = ((h ^^^ x) * (-7046029254386353131 : Int64)) ^^^ (zsr ((h ^^^ x) * (-7046029254386353131 : Int64)) (29 : Int32)) := Classical.choose_spec pu_dg_x h x
theorem pu_dn_e (h : Int64) : pu_dn h = ((zsr h (1 : Int32)) - (zsr h (1 : Int32)) / (2039 : Int64) * (2039 : Int64)).toInt32 := Classical.choose_spec pu_dn_x h
theorem pu_sr_e (h : Int64) : pu_sr h = zsr h (1 : Int32) := Classical.choose_spec pu_sr_x h
theorem pu_end (h : Int64) : fX2_ended h = some (pu_sr h) := by rw [pu_sr_e]; rfl
theorem pu_seal (M : zSt) : fX7_sealed M = some (pu_sr (gJ M 33)) := by rw [pu_sr_e]; rfl
theorem pu_with (h x : Int64) : fX2_with h x = some (pu_dg h x) := by rw [pu_dg_e]; rfl
theorem pu_numb (h : Int64) : fX2_number h = some (pu_dn h) := by rw [pu_dn_e]; rfl
theorem pu_ming (S : zSt) (x : Int64) : ∃ S', fX7_mingle S x = some S' ∧ gJ S' 33 = pu_dg (gJ S 33) x ∧ pu_fr [] [] [] [33] S S' := by
  refine ⟨_, rfl, ?_, ((pu_fr.refl _ _ _ _ S).sJ (by decide) _).sJ (by decide) _⟩
  simp only [zs_JJ, ↓reduceIte, pu_dg_e]
theorem pu_zsr1 (h : Int64) : ∃ n, n < 2 ^ 63 ∧ zsr h 1 = lN n := by
  refine ⟨h.toBitVec.toNat / 2, by have := h.toBitVec.isLt; omega, ?_⟩
  unfold zsr
  apply Int64.toBitVec_inj.mp
  apply BitVec.eq_of_toNat_eq
  have hl : (lN (h.toBitVec.toNat / 2)).toBitVec.toNat = h.toBitVec.toNat / 2 := by
    show (BitVec.ofNat 64 _).toNat = _
    rw [BitVec.toNat_ofNat]
    apply Nat.mod_eq_of_lt
    have := h.toBitVec.isLt; omega
  rw [hl]
  show ((h.toUInt64 >>> ((1 : Int32).toInt64.toUInt64 &&& Int64.toUInt64 63)).toBitVec).toNat = _
  show (h.toBitVec >>> (((1 : Int32).toInt64.toUInt64 &&& Int64.toUInt64 63).toBitVec % 64)).toNat = _
  rw [show ((1 : Int32).toInt64.toUInt64 &&& Int64.toUInt64 63).toBitVec % 64 = 1#64 by decide]
  show (h.toBitVec >>> 1).toNat = _
  rw [BitVec.toNat_ushiftRight, Nat.shiftRight_eq_div_pow]
theorem pu_dn_lt (h : Int64) : ∃ n, n < 2039 ∧ pu_dn h = nI n := by
  obtain ⟨n, hn, e⟩ := pu_zsr1 h
  refine ⟨n % 2039, Nat.mod_lt _ (by decide), ?_⟩
  rw [pu_dn_e, e]
  have h2 : lN n - lN n / (2039 : Int64) * (2039 : Int64) = lN (n % 2039) := pk_lRem hn (by decide) (by decide)
  rw [h2, lN_i]
theorem pu_dn_nn (h : Int64) : pu_nn (pu_dn h) := by
  obtain ⟨n, hn, e⟩ := pu_dn_lt h
  exact ⟨n, by omega, e⟩
theorem pu_asn (M : zSt) : fX7_asNumber M = some (pu_dn (gJ M 33)) := by rw [pu_dn_e]; rfl
