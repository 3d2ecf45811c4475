/-! Pure: proofs that are held against heads. -/
theorem pu_sp_u {n a : Nat} (h1 : 2 ^ a < n) (h2 : n ≤ 2 ^ (a + 1)) (hn : n < 2 ^ 31) : pu_sp n = 2 ^ a := by
  have hp := Nat.one_le_two_pow (n := a)
  obtain ⟨k, e, g1, g2⟩ := pu_sp_p (n := n) (by omega) (by omega)
  have k1 : k < a + 1 := (Nat.pow_lt_pow_iff_right (a := 2) (by decide)).mp (by omega)
  have k2 : a < k + 1 := (Nat.pow_lt_pow_iff_right (a := 2) (by decide)).mp (by omega)
  have : k = a := by omega
  rw [e, this]
theorem pu_path_1 (d k w : Nat) (h : w ≤ 1) : pu_path d k w = [] := by
  cases d with
  | zero => rfl
  | succ d => exact if_pos h
theorem pu_path_s : ∀ (d n k : Nat), 2 ≤ n → n ≤ 2 ^ (d + 1) → n < 2 ^ 31 → k < n → pu_path (d + 1) k n = pu_path d (k / 2) ((n + 1) / 2) ++ (if k % 2 = 0 ∧ k + 1 = n then [] else [decide (k % 2 = 1)]) := by
  have h2 : ∀ d k, k < 2 → pu_path (d + 1) k 2 = pu_path d (k / 2) ((2 + 1) / 2) ++ (if k % 2 = 0 ∧ k + 1 = 2 then [] else [decide (k % 2 = 1)]) := by
    intro d k hk
    obtain ⟨c1, c2, c3⟩ := pu_sp_lt (n := 2) (by decide) (by decide)
    have e : pu_sp 2 = 1 := by omega
    rw [pu_path_1 d (k / 2) _ (by decide), List.nil_append, if_neg (by omega)]
    show (if 2 ≤ 1 then [] else if k < pu_sp 2 then false :: pu_path d k (pu_sp 2) else true :: pu_path d (k - pu_sp 2) (2 - pu_sp 2)) = _
    rw [if_neg (by decide), e]
    by_cases h : k < 1
    · have : k = 0 := by omega
      subst this
      rw [if_pos (by decide), pu_path_1 d 0 1 (by decide)]; rfl
    · have : k = 1 := by omega
      subst this
      rw [if_neg (by decide), pu_path_1 d _ _ (by decide)]; rfl
  intro d
  induction d with
  | zero =>
    intro n k h1 hn hn31 hk
    have : n = 2 := by simp at hn; omega
    subst this
    exact h2 0 k hk
  | succ d ih =>
    intro n k h1 hn hn31 hk
    by_cases hn2 : n = 2
    · subst hn2; exact h2 (d + 1) k hk
    · obtain ⟨a, e, g1, g2⟩ := pu_sp_p h1 (by omega)
      have ha : 1 ≤ a := by
        cases a with
        | zero => simp at g2; omega
        | succ a => omega
      obtain ⟨a', rfl⟩ : ∃ a', a = a' + 1 := ⟨a - 1, by omega⟩
      rw [Nat.pow_succ] at e g1 g2
      have e2 : 2 ^ (a' + 1) = 2 ^ a' * 2 := Nat.pow_succ ..
      have hp := Nat.one_le_two_pow (n := a')
      have eN : pu_sp ((n + 1) / 2) = 2 ^ a' := pu_sp_u (by omega) (by omega) (by omega)
      have hd : n ≤ 2 ^ (d + 1) * 2 := by rw [← Nat.pow_succ]; exact hn
      obtain ⟨z1, z2⟩ := pu_sp_le h1 hn31 hn
      show (if n ≤ 1 then [] else if k < pu_sp n then false :: pu_path (d + 1) k (pu_sp n) else true :: pu_path (d + 1) (k - pu_sp n) (n - pu_sp n)) = (if (n + 1) / 2 ≤ 1 then [] else if k / 2 < pu_sp ((n + 1) / 2) then false :: pu_path d (k / 2) (pu_sp ((n + 1) / 2)) else true :: pu_path d (k / 2 - pu_sp ((n + 1) / 2)) ((n + 1) / 2 - pu_sp ((n + 1) / 2))) ++ _
      rw [if_neg (show ¬ n ≤ 1 by omega), if_neg (show ¬ (n + 1) / 2 ≤ 1 by omega), eN]
      by_cases hks : k < pu_sp n
      · rw [if_pos hks, if_pos (show k / 2 < 2 ^ a' by omega), ih (pu_sp n) k (by omega) z1 (by omega) hks, if_neg (show ¬ (k % 2 = 0 ∧ k + 1 = pu_sp n) by omega), if_neg (show ¬ (k % 2 = 0 ∧ k + 1 = n) by omega), show (pu_sp n + 1) / 2 = 2 ^ a' by omega]
        rfl
      · rw [if_neg hks, if_neg (show ¬ k / 2 < 2 ^ a' by omega)]
        have e3 : (n + 1) / 2 - 2 ^ a' = (n - pu_sp n + 1) / 2 := by omega
        have e4 : k / 2 - 2 ^ a' = (k - pu_sp n) / 2 := by omega
        rw [e3, e4]
        by_cases hn1 : n - pu_sp n = 1
        · rw [pu_path_1 (d + 1) _ _ (by omega), pu_path_1 d _ _ (by omega), if_pos (show k % 2 = 0 ∧ k + 1 = n by omega)]; rfl
        · rw [ih (n - pu_sp n) (k - pu_sp n) (by omega) z2 (by omega) (by omega)]
          by_cases hal : k % 2 = 0 ∧ k + 1 = n
          · rw [if_pos hal, if_pos (show (k - pu_sp n) % 2 = 0 ∧ k - pu_sp n + 1 = n - pu_sp n by omega)]; rfl
          · rw [if_neg hal, if_neg (show ¬ ((k - pu_sp n) % 2 = 0 ∧ k - pu_sp n + 1 = n - pu_sp n) by omega), show (k - pu_sp n) % 2 = k % 2 by omega]; rfl
/-- from the leaves up -/
def pu_bp : Nat → Nat → Nat → List Bool
  | 0, _, _ => []
  | d + 1, p, s => if s ≤ 1 then [] else if p % 2 = 0 ∧ p + 1 = s then pu_bp d (p / 2) ((s + 1) / 2) else decide (p % 2 = 1) :: pu_bp d (p / 2) ((s + 1) / 2)
theorem pu_bp_r : ∀ (d k n : Nat), n ≤ 2 ^ d → n < 2 ^ 31 → k < n → pu_bp d k n = (pu_path d k n).reverse := by
  intro d
  induction d with
  | zero => intro k n h1 h2 h3; rfl
  | succ d ih =>
    intro k n h1 h2 h3
    by_cases hn : n ≤ 1
    · rw [pu_path_1 _ _ _ hn]
      exact if_pos hn
    · rw [pu_path_s d n k (by omega) h1 h2 h3, List.reverse_append, ← ih (k / 2) ((n + 1) / 2) (by rw [Nat.pow_succ] at h1; omega) (by omega) (by omega)]
      show (if n ≤ 1 then [] else if k % 2 = 0 ∧ k + 1 = n then pu_bp d (k / 2) ((n + 1) / 2) else decide (k % 2 = 1) :: pu_bp d (k / 2) ((n + 1) / 2)) = _
      rw [if_neg hn]
      by_cases h : k % 2 = 0 ∧ k + 1 = n
      · rw [if_pos h, if_pos h]; rfl
      · rw [if_neg h, if_neg h]; rfl
noncomputable def pu_up (D : Nat → Int64) : List Bool → Nat → Int64 → Int64
  | [], _, x => x
  | b :: l, i, x => pu_up D l (i + 1) (if b = true then pu_j (D i) x else pu_j x (D i))
noncomputable def pu_u1 (D : Nat → Int64) : List Bool → Nat → Int64 → Int64
  | [], _, x => x
  | b :: l, i, x => pu_u1 D l (i + 1) (if b = true then pu_j (D i) x else x)
theorem pu_up_c {D D' : Nat → Int64} : ∀ (q : List Bool) (i : Nat) (x : Int64), (∀ t, i ≤ t → t < i + q.length → D t = D' t) → pu_up D q i x = pu_up D' q i x := by
  intro q
  induction q with
  | nil => intro i x h; rfl
  | cons b q ih =>
    intro i x h
    unfold pu_up
    rw [h i (Nat.le_refl _) (by simp), ih (i + 1) _ (fun t h1 h2 => h t (by omega) (by simp; omega))]
theorem pu_u1_c {D D' : Nat → Int64} : ∀ (q : List Bool) (i : Nat) (x : Int64), (∀ t, i ≤ t → t < i + q.length → D t = D' t) → pu_u1 D q i x = pu_u1 D' q i x := by
  intro q
  induction q with
  | nil => intro i x h; rfl
  | cons b q ih =>
    intro i x h
    unfold pu_u1
    rw [h i (Nat.le_refl _) (by simp), ih (i + 1) _ (fun t h1 h2 => h t (by omega) (by simp; omega))]
theorem pu_cmp {α : Type} (x y : Int64) (A B : α) : (if lg_cmp x y = (0 : Int32) then A else B) = (if x = y then A else B) := by
  by_cases h : x = y
  · rw [if_pos h, if_pos ((lg_cmp_eq _ _).mpr h)]
  · rw [if_neg h, if_neg (fun z => h ((lg_cmp_eq _ _).mp z))]
theorem pu_fr25 (R : zSt) (p : List Bool) (head : Int64) (hp : p.length ≤ 31) (h1 : gI R 1 = nI p.length) (h2 : gI R 2 = nI p.length) (hb : pu_bits (gJ R 3) p) : ∀ (q : List Bool) (f i : Nat) (x : Int64), i + q.length = p.length → (∀ t, t < q.length → p[p.length - 1 - (i + t)]? = q[t]?) → q.length < f → lX5_fitsRecord_25 f R head x (nI i) = some (if pu_up (gL R 0) q i x = head then 1 else 0, R) := by
  intro q
  induction q with
  | nil =>
    intro f i x hi hq hf
    obtain ⟨g, rfl, -⟩ := pu_fu hf
    have h0 : i = p.length := by simpa using hi
    show bX5_fitsRecord_25 _ _ _ _ _ = _
    unfold bX5_fitsRecord_25
    rw [h1, if_pos (nI_le (by omega) (by omega)), pu_cmp]
    unfold pu_up
    by_cases h : x = head
    · rw [if_pos h, if_pos h]
    · rw [if_neg h, if_neg h]
  | cons b q ih =>
    intro f i x hi hq hf
    obtain ⟨g, rfl, hg⟩ := pu_fu hf
    rw [List.length_cons] at hi hg
    have hps : p[p.length - 1 - i]?.getD false = b := by
      have := hq 0 (by simp)
      rw [Nat.add_zero] at this
      rw [this]; rfl
    have hq' : ∀ t, t < q.length → p[p.length - 1 - (i + 1 + t)]? = q[t]? := fun t ht => by
      have := hq (t + 1) (by simp; omega)
      rw [show i + (t + 1) = i + 1 + t by omega] at this
      rw [this]; rfl
    show bX5_fitsRecord_25 _ _ _ _ _ = _
    unfold bX5_fitsRecord_25 bX5_fitsRecord_81
    have e1 : nI p.length - (1 : Int32) = nI (p.length - 1) := pk_sub (b := 1) (by omega)
    rw [h1, if_neg (nI_ge (by omega) (by omega)), h2, e1, pk_sub (by omega), pu_isec hb (by omega), pu_b1, hps, pu_zn (by omega) (by decide), pu_zn (by omega) (by decide), pu_c (by omega), pu_j1, pu_b1, pu_j1, pu_b1, nI_1, ih g (i + 1) _ (by omega) hq' (by omega), ih g (i + 1) _ (by omega) hq' (by omega)]
    cases b with
    | true => rw [show (if true = true then (1 : Int32) else 0) = 1 from rfl, if_neg (by decide)]; rfl
    | false => rw [show (if false = true then (1 : Int32) else 0) = 0 from rfl, if_pos rfl]; rfl
theorem pu_sh28 (c : Nat) (hc : c ≤ 24) (head : Int64) (D : Nat → Int64) : ∀ (d f place size used : Nat) (x : Int64) (M : zSt), size ≤ 2 ^ d → size < 2 ^ 31 → place < size → used ≤ c → gI M 35 = nI c → gL M 36 = D → d < f → ∃ M' : zSt, lX7_shows_28 f M head (nI place) (nI size) (nI used) x = some (if used + (pu_bp d place size).length = c ∧ pu_up D (pu_bp d place size) used x = head then 1 else 0, M') ∧ pu_fr [] [] [] [33] M M' := by
  have hend : ∀ (f place size used : Nat) (x : Int64) (M : zSt), size ≤ 1 → used ≤ c → gI M 35 = nI c → bX7_shows_28 (lX7_shows_28 f) M head (nI place) (nI size) (nI used) x = some (if used = c ∧ x = head then 1 else 0, M) := by
    intro f place size used x M h1 hu h35
    unfold bX7_shows_28
    rw [if_pos (show nI size ≤ (1 : Int32) from nI_le h1 (by decide)), h35, pu_cmp]
    by_cases hu2 : used = c
    · rw [if_pos (congrArg nI hu2)]
      by_cases h : x = head
      · rw [if_pos h, if_pos ⟨hu2, h⟩]
      · rw [if_neg h, if_neg (fun z => h z.2)]
    · rw [if_neg (fun z => hu2 ((nI_eq (by omega) (by omega)).mp z)), if_neg (fun z => hu2 z.1)]
  intro d
  induction d with
  | zero =>
    intro f place size used x M hs hs31 hp hu h35 hD hf
    obtain ⟨g, rfl, -⟩ := pu_fu hf
    have h1 : size ≤ 1 := by simpa using hs
    refine ⟨M, ?_, pu_fr.refl _ _ _ _ M⟩
    show bX7_shows_28 _ _ _ _ _ _ _ = _
    rw [hend g place size used x M h1 hu h35]; rfl
  | succ d ih =>
    intro f place size used x M hs hs31 hp hu h35 hD hf
    obtain ⟨g, rfl, hg⟩ := pu_fu hf
    show ∃ M' : zSt, bX7_shows_28 _ _ _ _ _ _ _ = _ ∧ _
    unfold pu_bp
    by_cases h1 : size ≤ 1
    · rw [if_pos h1, hend g place size used x M h1 hu h35]
      exact ⟨M, rfl, pu_fr.refl _ _ _ _ M⟩
    · rw [if_neg h1]
      unfold bX7_shows_28 bX7_shows_54 bX7_shows_55 bX7_shows_110 bX7_shows_115
      have e1 : nI size - (1 : Int32) = nI (size - 1) := pk_sub (b := 1) (by omega)
      have e2 : nI (size / 2) + nI (size % 2) = nI ((size + 1) / 2) := by rw [nI_add]; exact congrArg nI (by omega)
      have e3 : nI size - nI (size / 2) * (2 : Int32) = nI (size % 2) := by rw [← pu_d2 (by omega)]; exact pu_r2 (by omega)
      have e4 : nI place - nI (place / 2) * (2 : Int32) = nI (place % 2) := by rw [← pu_d2 (by omega)]; exact pu_r2 (by omega)
      have hs' : (size + 1) / 2 ≤ 2 ^ d := by rw [Nat.pow_succ] at hs; omega
      rw [if_neg (show ¬ nI size ≤ (1 : Int32) from nI_ge (a := 1) (by omega) (by omega)), pu_d2 (show place < 2 ^ 31 by omega), pu_d2 (show size < 2 ^ 31 by omega), e1, e3, e4, e2, h35, hD]
      have key : ∃ M' : zSt, (if nI used = nI c then some ((0 : Int32), M) else if nI (place % 2) = (1 : Int32) then zin (nI used) 24 (zb2 (fX7_joined M (D (nI used).toNatClampNeg) x) (fun r_3 uM_4 => lX7_shows_28 g uM_4 head (nI (place / 2)) (nI ((size + 1) / 2)) (nI used + 1) r_3)) else zin (nI used) 24 (zb2 (fX7_joined M x (D (nI used).toNatClampNeg)) (fun r_1 uM_2 => lX7_shows_28 g uM_2 head (nI (place / 2)) (nI ((size + 1) / 2)) (nI used + 1) r_1))) = some (if used + (decide (place % 2 = 1) :: pu_bp d (place / 2) ((size + 1) / 2)).length = c ∧ pu_up D (decide (place % 2 = 1) :: pu_bp d (place / 2) ((size + 1) / 2)) used x = head then 1 else 0, M') ∧ pu_fr [] [] [] [33] M M' := by
        by_cases hu2 : used = c
        · rw [if_pos (congrArg nI hu2), if_neg (fun z => by have := z.1; rw [List.length_cons] at this; omega)]
          exact ⟨M, rfl, pu_fr.refl _ _ _ _ M⟩
        · rw [if_neg (fun z => hu2 ((nI_eq (by omega) (by omega)).mp z)), pu_zn (by omega) (by decide), pu_zn (by omega) (by decide), pu_c (by omega), nI_1, List.length_cons, show used + ((pu_bp d (place / 2) ((size + 1) / 2)).length + 1) = used + 1 + (pu_bp d (place / 2) ((size + 1) / 2)).length by omega]
          by_cases ho : place % 2 = 1
          · obtain ⟨M1, a1, a2⟩ := pu_j7 M (D used) x
            rw [if_pos (show nI (place % 2) = (1 : Int32) by rw [ho]; rfl), a1, pu_b2]
            obtain ⟨M2, b1, b2⟩ := ih g (place / 2) ((size + 1) / 2) (used + 1) (pu_j (D used) x) M1 hs' (by omega) (by omega) (by omega) ((a2.1 35 (by decide)).trans h35) ((a2.2.2.1 36 (by decide)).trans hD) (by omega)
            refine ⟨M2, ?_, a2.trans b2⟩
            have hdc : decide (place % 2 = 1) = true := decide_eq_true ho
            rw [b1, hdc]; rfl
          · obtain ⟨M1, a1, a2⟩ := pu_j7 M x (D used)
            rw [if_neg (show ¬ nI (place % 2) = (1 : Int32) by rw [show place % 2 = 0 by omega]; decide), a1, pu_b2]
            obtain ⟨M2, b1, b2⟩ := ih g (place / 2) ((size + 1) / 2) (used + 1) (pu_j x (D used)) M1 hs' (by omega) (by omega) (by omega) ((a2.1 35 (by decide)).trans h35) ((a2.2.2.1 36 (by decide)).trans hD) (by omega)
            refine ⟨M2, ?_, a2.trans b2⟩
            have hdc : decide (place % 2 = 1) = false := decide_eq_false ho
            rw [b1, hdc]; rfl
      by_cases hal : place % 2 = 0 ∧ place + 1 = size
      · rw [if_pos hal, if_pos (show nI (place % 2) = (0 : Int32) by rw [hal.1]; rfl), if_pos (congrArg nI (by omega)), if_neg (by decide)]
        exact ih g (place / 2) ((size + 1) / 2) used x M hs' (by omega) (by omega) hu h35 hD (by omega)
      · rw [if_neg hal, if_pos (rfl : (0 : Int32) = 0)]
        by_cases ho : place % 2 = 0
        · rw [if_pos (show nI (place % 2) = (0 : Int32) by rw [ho]; rfl), if_neg (fun z => hal ⟨ho, by have := (nI_eq (by omega) (by omega)).mp z; omega⟩)]
          exact key
        · rw [if_neg (show ¬ nI (place % 2) = (0 : Int32) by rw [show place % 2 = 1 by omega]; decide)]
          exact key
theorem pu_ix2 {l1 l2 : Int32} (h1 : ¬ l1 < 0) (h2 : l1 < l2) : ∃ k n, l1 = nI k ∧ l2 = nI n ∧ k < n ∧ n < 2 ^ 31 := by
  obtain ⟨k, hk, rfl⟩ := nI_of h1
  have h3 : ¬ l2 < 0 := fun z => by
    rw [Int32.lt_iff_toInt_lt] at h1 h2 z
    omega
  obtain ⟨n, hn, rfl⟩ := nI_of h3
  exact ⟨k, n, rfl, rfl, (nI_ltI hk hn).mp h2, hn⟩
theorem pu_ix2e {l1 l2 : Int32} (h1 : ¬ l1 < 1) (h2 : l1 ≤ l2) : ∃ k n, l1 = nI k ∧ l2 = nI n ∧ 1 ≤ k ∧ k ≤ n ∧ n < 2 ^ 31 := by
  have e1 : (1 : Int32).toInt = 1 := rfl
  have e0 : (0 : Int32).toInt = 0 := rfl
  have h0 : ¬ l1 < 0 := fun z => by
    rw [Int32.lt_iff_toInt_lt] at h1 z
    omega
  have h3 : ¬ l2 < 0 := fun z => by
    rw [Int32.lt_iff_toInt_lt] at h1 z
    rw [Int32.le_iff_toInt_le] at h2
    omega
  obtain ⟨k, hk, rfl⟩ := nI_of h0
  obtain ⟨n, hn, rfl⟩ := nI_of h3
  refine ⟨k, n, rfl, rfl, ?_, (nI_leI hk hn).mp h2, hn⟩
  rcases Nat.eq_zero_or_pos k with h | h
  · subst h; exact absurd (show nI 0 < (1 : Int32) by decide) h1
  · exact h
theorem pu_i32 {x y : Int32} : ¬ x < y ↔ y ≤ x := by
  rw [Int32.lt_iff_toInt_lt, Int32.le_iff_toInt_le]; omega
theorem pu_showsB (O R M : zSt) {c : Nat} (hc : c ≤ 24) (hR : gI R 1 = nI c) (hM : gI M 35 = nI c) (hD : ∀ i, i < c → gL R 0 i = gL M 36 i) (l1 l2 : Int32) (leaf head : Int64) : ∃ (r : Int32) (R' M' : zSt), fX6_shows O R l1 l2 leaf head = some (r, R') ∧ fX7_shows M l1 l2 leaf head = some (r, M') ∧ pu_fr [2] [] [] [3] R R' ∧ pu_fr [0] [] [] [33] M M' := by
  have h10 : ¬ (1 : Int32) = 0 := by decide
  unfold fX6_shows fX7_shows
  by_cases h1 : l1 < 0
  · rw [if_pos h1, if_pos h1]
    exact ⟨0, R, _, rfl, rfl, pu_fr.refl _ _ _ _ R, (pu_fr.refl _ _ _ _ M).sI (by decide) _⟩
  · rw [if_neg h1, if_neg h1]
    by_cases h2 : l1 < l2
    · obtain ⟨k, n, rfl, rfl, hk, hn⟩ := pu_ix2 h1 h2
      rw [if_neg (nI_ge hk hn), if_pos h2]
      obtain ⟨R1, a1, a2, a3, a4⟩ := pu_toR R hk hn
      have hlen := pu_path_len 31 k n
      have hR1 : gI R1 1 = nI c := (a4.1 1 (by decide)).trans hR
      have hD1 : gL R1 0 = gL R 0 := a4.2.2.1 0 (by decide)
      obtain ⟨M1, b1, b2⟩ := pu_sh28 c hc head (gL M 36) 31 1000 k n 0 leaf (sI M 0 0) (by omega) hn hk (Nat.zero_le _) (by rw [zs_II, if_neg (by decide)]; exact hM) (by rw [zs_LI]) (by decide)
      rw [pu_bp_r 31 k n (by omega) hn hk, List.length_reverse, Nat.zero_add] at b1
      have b1' : lX7_shows_28 1000 (sI M 0 0) head (nI k) (nI n) 0 leaf = _ := b1
      have fM : pu_fr [0] [] [] [33] M M1 := ((pu_fr.refl _ _ _ _ M).sI (by decide) _).trans (b2.mono (by decide) (by decide) (by decide) (by decide))
      unfold fX5_fitsRecord
      rw [a1, pu_b1, hR1, a2, b1']
      by_cases he : (pu_path 31 k n).length = c
      · rw [if_pos (congrArg nI he.symm)]
        have h3 := pu_fr25 R1 (pu_path 31 k n) head hlen (by rw [hR1, he]) a2 a3 (pu_path 31 k n).reverse 1000 0 leaf (by rw [List.length_reverse]; omega) (fun t ht => by rw [List.length_reverse] at ht; rw [List.getElem?_reverse ht, Nat.zero_add]) (by rw [List.length_reverse]; omega)
        have h3' : lX5_fitsRecord_25 1000 R1 head leaf 0 = _ := h3
        rw [h3', hD1, pu_up_c (D := gL R 0) (D' := gL M 36) _ 0 leaf (fun t _ ht => hD t (by rw [List.length_reverse] at ht; omega))]
        by_cases hh : pu_up (gL M 36) (pu_path 31 k n).reverse 0 leaf = head
        · rw [if_pos hh, if_pos ⟨he, hh⟩, pu_b2, if_neg (show ¬ ((1 : Int32), R1).1 = 0 from h10)]
          exact ⟨1, R1, M1, rfl, rfl, a4, fM⟩
        · rw [if_neg hh, if_neg (show ¬ ((pu_path 31 k n).length = c ∧ pu_up (gL M 36) (pu_path 31 k n).reverse 0 leaf = head) from fun z => hh z.2), pu_b2, if_pos (show ((0 : Int32), R1).1 = 0 from rfl)]
          exact ⟨0, R1, M1, rfl, rfl, a4, fM⟩
      · rw [if_neg (fun z => he ((nI_eq (by omega) (by omega)).mp z).symm), if_neg (fun z => he z.1), pu_b2, if_pos rfl]
        exact ⟨0, R1, M1, rfl, rfl, a4, fM⟩
    · rw [if_pos (pu_i32.mp h2), if_neg h2]
      exact ⟨0, R, _, rfl, rfl, pu_fr.refl _ _ _ _ R, (pu_fr.refl _ _ _ _ M).sI (by decide) _⟩
theorem pu_ff54 (R : zSt) (p : List Bool) (bl : Nat) (hbl : bl ≤ 1) (before after : Int64) (hp : p.length ≤ 31) (h1 : gI R 1 = nI (p.length + bl)) (hb : pu_bits (gJ R 3) p) : ∀ (q : List Bool) (f i : Nat) (x y : Int64), i + q.length = p.length + bl → (∀ t, t < q.length → p[p.length + bl - 1 - (i + t)]? = q[t]?) → q.length < f → lX5_fitsFirst_54 f R before after x y (nI i) = some (if pu_u1 (gL R 0) q i x = before ∧ pu_up (gL R 0) q i y = after then 1 else 0, R) := by
  intro q
  induction q with
  | nil =>
    intro f i x y hi hq hf
    obtain ⟨g, rfl, -⟩ := pu_fu hf
    have h0 : i = p.length + bl := by simpa using hi
    show bX5_fitsFirst_54 _ _ _ _ _ _ _ = _
    unfold bX5_fitsFirst_54
    rw [h1, if_pos (nI_le (by omega) (by omega)), pu_cmp, pu_cmp]
    unfold pu_up pu_u1
    by_cases h : x = before
    · rw [if_pos h]
      by_cases h2 : y = after
      · rw [if_pos h2, if_pos ⟨h, h2⟩]
      · rw [if_neg h2, if_neg (fun z => h2 z.2)]
    · rw [if_neg h, if_neg (fun z => h z.1)]
  | cons b q ih =>
    intro f i x y hi hq hf
    obtain ⟨g, rfl, hg⟩ := pu_fu hf
    rw [List.length_cons] at hi hg
    have hps : p[p.length + bl - 1 - i]?.getD false = b := by
      have := hq 0 (by simp)
      rw [Nat.add_zero] at this
      rw [this]; rfl
    have hq' : ∀ t, t < q.length → p[p.length + bl - 1 - (i + 1 + t)]? = q[t]? := fun t ht => by
      have := hq (t + 1) (by simp; omega)
      rw [show i + (t + 1) = i + 1 + t by omega] at this
      rw [this]; rfl
    show bX5_fitsFirst_54 _ _ _ _ _ _ _ = _
    unfold bX5_fitsFirst_54 bX5_fitsFirst_124
    have e1 : nI (p.length + bl) - (1 : Int32) = nI (p.length + bl - 1) := pk_sub (b := 1) (by omega)
    rw [h1, if_neg (nI_ge (by omega) (by omega)), e1, pk_sub (by omega), pu_isec hb (by omega), pu_b1, hps, pu_zn (by omega) (by decide), pu_zn (by omega) (by decide), pu_c (by omega), pu_j1, pu_b1, pu_j1, pu_b1, pu_zn (by omega) (by decide), pu_j1, pu_b1, nI_1, ih g (i + 1) _ _ (by omega) hq' (by omega), ih g (i + 1) _ _ (by omega) hq' (by omega)]
    cases b with
    | true => rw [show (if true = true then (1 : Int32) else 0) = 1 from rfl, if_neg (by decide)]; rfl
    | false => rw [show (if false = true then (1 : Int32) else 0) = 0 from rfl, if_pos rfl]; rfl
theorem pu_m1' (m : Nat) : nI m + (-1 : Int32) = nI m - 1 := (Int32.sub_eq_add_neg _ _).symm
theorem pu_co193 (before after : Int64) (D : Nat → Int64) : ∀ (q : List Bool) (f i : Nat) (x y : Int64) (M : zSt), (∀ t, t < q.length → gA M 38 (q.length - 1 - t) = if q[t]?.getD false = true then 1 else 0) → i + q.length ≤ 24 → gL M 36 = D → q.length < f → ∃ M' : zSt, lX7_continues_193 f M before after (nI i) x y (nI q.length - 1) = some (if pu_u1 D q i x = before ∧ pu_up D q i y = after then 1 else 0, M') ∧ pu_fr [] [] [] [33] M M' := by
  intro q
  induction q with
  | nil =>
    intro f i x y M hq hi hD hf
    obtain ⟨g, rfl, -⟩ := pu_fu hf
    refine ⟨M, ?_, pu_fr.refl _ _ _ _ M⟩
    show bX7_continues_193 _ _ _ _ _ _ _ _ = _
    unfold bX7_continues_193
    rw [if_pos (show nI ([] : List Bool).length - (1 : Int32) < 0 by decide), pu_cmp, pu_cmp]
    unfold pu_up pu_u1
    by_cases h : x = before
    · rw [if_pos h]
      by_cases h2 : y = after
      · rw [if_pos h2, if_pos ⟨h, h2⟩]
      · rw [if_neg h2, if_neg (fun z => h2 z.2)]
    · rw [if_neg h, if_neg (fun z => h z.1)]
  | cons b q ih =>
    intro f i x y M hq hi hD hf
    obtain ⟨g, rfl, hg⟩ := pu_fu hf
    rw [List.length_cons] at hi hg
    have hb0 : gA M 38 q.length = if b = true then 1 else 0 := by
      have := hq 0 (by simp)
      rw [List.length_cons, show q.length + 1 - 1 - 0 = q.length by omega] at this
      exact this
    have hq' : ∀ M2 : zSt, gA M2 38 = gA M 38 → ∀ t, t < q.length → gA M2 38 (q.length - 1 - t) = if q[t]?.getD false = true then 1 else 0 := fun M2 hM t ht => by
      have := hq (t + 1) (by simp; omega)
      rw [List.length_cons, show q.length + 1 - 1 - (t + 1) = q.length - 1 - t by omega] at this
      rw [hM, this]; rfl
    show ∃ M' : zSt, bX7_continues_193 _ _ _ _ _ _ _ _ = _ ∧ _
    unfold bX7_continues_193 bX7_continues_226 bX7_continues_267
    have e1 : nI (b :: q).length - (1 : Int32) = nI q.length := nI_pred q.length
    rw [e1, if_neg (nI_pos (by omega)), pu_zn (show q.length < 32 by omega) (by decide), pu_c (show q.length < 2 ^ 31 by omega), hb0]
    cases b with
    | true =>
      obtain ⟨M1, a1, a2⟩ := pu_j7 M (D i) x
      have hM1 : gA M1 38 = gA M 38 := a2.2.1 38 (by decide)
      have hD1 : gL M1 36 = D := (a2.2.2.1 36 (by decide)).trans hD
      obtain ⟨M2, b1, b2⟩ := pu_j7 M1 (D i) y
      have hM2 : gA M2 38 = gA M 38 := (b2.2.1 38 (by decide)).trans hM1
      have hD2 : gL M2 36 = D := (b2.2.2.1 36 (by decide)).trans hD1
      rw [show (if true = true then (1 : Int32) else 0) = 1 from rfl, if_neg (by decide), pu_zn (show i < 24 by omega) (by decide), pu_c (by omega), hD, a1, pu_b2]
      dsimp only
      rw [pu_zn (show q.length < 32 by omega) (by decide), hM1, hb0, show (if true = true then (1 : Int32) else 0) = 1 from rfl, if_neg (by decide), pu_zn (show i < 24 by omega) (by decide), hD1, b1, pu_b2, nI_1, pu_m1']
      obtain ⟨M3, c1, c2⟩ := ih g (i + 1) (pu_j (D i) x) (pu_j (D i) y) M2 (hq' M2 hM2) (by omega) hD2 (by omega)
      exact ⟨M3, c1, a2.trans (b2.trans c2)⟩
    | false =>
      obtain ⟨M1, a1, a2⟩ := pu_j7 M y (D i)
      have hM1 : gA M1 38 = gA M 38 := a2.2.1 38 (by decide)
      have hD1 : gL M1 36 = D := (a2.2.2.1 36 (by decide)).trans hD
      rw [show (if false = true then (1 : Int32) else 0) = 0 from rfl, if_pos rfl, pu_zn (show q.length < 32 by omega) (by decide), if_pos rfl, pu_zn (show i < 24 by omega) (by decide), pu_c (by omega), hD, a1, pu_b2, nI_1, pu_m1']
      obtain ⟨M3, c1, c2⟩ := ih g (i + 1) x (pu_j y (D i)) M1 (hq' M1 hM1) (by omega) hD1 (by omega)
      exact ⟨M3, c1, a2.trans c2⟩
theorem pu_nar (b : Int32) (h : b = 0 ∨ b = 1) : vp_nar .boolean b = b := by
  rcases h with rfl | rfl <;> rfl
theorem pu_co29 (before after : Int64) : ∀ (d f j w steps : Nat) (a : Bool) (M : zSt), w ≤ 2 ^ d → 1 ≤ j → j ≤ w → w < 2 ^ 31 → steps + d ≤ 32 → d < f → ∃ M' : zSt, lX7_continues_29 f M before after (nI j) (nI w) (nI steps) (if a = true then 0 else 1) = bX7_continues_149 M' before after (nI (steps + (pu_pathF d j w).length)) (if (a || (pu_pathF d j w).any id) = true then 0 else 1) (gI M 35) (nI (steps + (pu_pathF d j w).length + (if (a || (pu_pathF d j w).any id) = true then 1 else 0))) ∧ (∀ t, t < steps → gA M' 38 t = gA M 38 t) ∧ (∀ t, t < (pu_pathF d j w).length → gA M' 38 (steps + t) = if (pu_pathF d j w)[t]?.getD false = true then 1 else 0) ∧ pu_fr [] [38] [] [] M M' := by
  have h10 : ¬ (1 : Int32) = 0 := by decide
  have hend : ∀ (f j w steps : Nat) (a : Bool) (M : zSt), j = w → bX7_continues_29 (lX7_continues_29 f) M before after (nI j) (nI w) (nI steps) (if a = true then 0 else 1) = bX7_continues_149 M before after (nI steps) (if a = true then 0 else 1) (gI M 35) (nI (steps + (if a = true then 1 else 0))) := by
    intro f j w steps a M hj
    subst hj
    unfold bX7_continues_29
    rw [if_pos rfl]
    cases a with
    | true => rw [show (if true = true then (0 : Int32) else 1) = 0 from rfl, if_pos rfl, nI_1]; rfl
    | false => rw [show (if false = true then (0 : Int32) else 1) = 1 from rfl, if_neg (by decide)]; rfl
  intro d
  induction d with
  | zero =>
    intro f j w steps a M hw hj hk hw31 hm hf
    obtain ⟨g, rfl, -⟩ := pu_fu hf
    have h1 : w ≤ 1 := by simpa using hw
    refine ⟨M, ?_, fun _ _ => rfl, fun t ht => absurd ht (Nat.not_lt_zero _), pu_fr.refl _ _ _ _ M⟩
    show bX7_continues_29 _ _ _ _ _ _ _ _ = _
    rw [hend g j w steps a M (by omega)]
    unfold pu_pathF
    rw [List.any_nil, Bool.or_false]; rfl
  | succ d ih =>
    intro f j w steps a M hw hj hk hw31 hm hf
    obtain ⟨g, rfl, hg⟩ := pu_fu hf
    unfold pu_pathF
    by_cases h1 : w ≤ j
    · rw [if_pos h1, List.any_nil, Bool.or_false]
      refine ⟨M, ?_, fun _ _ => rfl, fun t ht => absurd ht (Nat.not_lt_zero _), pu_fr.refl _ _ _ _ M⟩
      show bX7_continues_29 _ _ _ _ _ _ _ _ = _
      rw [hend g j w steps a M (by omega)]; rfl
    · show ∃ M' : zSt, bX7_continues_29 _ _ _ _ _ _ _ _ = _ ∧ _
      obtain ⟨c1, c2, c3⟩ := pu_sp_lt (show 2 ≤ w by omega) hw31
      obtain ⟨d1, d2⟩ := pu_sp_le (show 2 ≤ w by omega) hw31 hw
      have hne : ¬ nI j = nI w := fun z => by
        have := (nI_eq (show j < 2 ^ 31 by omega) (show w < 2 ^ 31 by omega)).mp z
        omega
      unfold bX7_continues_29
      rw [if_neg hne, if_neg h1, pu_part (by omega) hw31, pu_b1]
      unfold bX7_continues_55 bX7_continues_73 bX7_continues_91 bX7_continues_92 bX7_continues_109 bX7_continues_126
      by_cases hks : j ≤ pu_sp w
      · rw [if_neg (nI_nlt hks (by omega)), if_pos hks, if_neg (by decide), pu_zn (by omega) (by decide), pu_c (by omega), nI_1, pu_nar 0 (Or.inl rfl)]
        simp only [if_neg h10]
        obtain ⟨M2, b1, b2, b3, b4⟩ := ih g j (pu_sp w) (steps + 1) a (sA M 38 steps 0) d1 hj hks (by omega) (by omega) (by omega)
        rw [zs_IA] at b1
        have hany : (false :: pu_pathF d j (pu_sp w)).any id = (pu_pathF d j (pu_sp w)).any id := by rw [List.any_cons]; rfl
        rw [hany]
        refine ⟨M2, ?_, fun t ht => ?_, fun t ht => ?_, ((pu_fr.refl _ _ _ _ M).sA (by decide) _ _).trans b4⟩
        · rw [List.length_cons, show steps + ((pu_pathF d j (pu_sp w)).length + 1) = steps + 1 + (pu_pathF d j (pu_sp w)).length by omega, ← b1]
          cases a with
          | true => rw [show (if true = true then (0 : Int32) else 1) = 0 from rfl, if_pos rfl]
          | false => rw [show (if false = true then (0 : Int32) else 1) = 1 from rfl, if_neg (by decide)]
        · rw [b2 t (by omega), zs_AA, if_pos rfl, pk_un (by omega)]
        · cases t with
          | zero => rw [Nat.add_zero, b2 steps (by omega), zs_AA, if_pos rfl, pk_us]; rfl
          | succ t =>
            rw [List.length_cons] at ht
            rw [show steps + (t + 1) = steps + 1 + t by omega, b3 t (by omega)]; rfl
      · rw [if_pos (nI_lt (by omega) (by omega)), if_neg hks, if_pos rfl, pu_zn (by omega) (by decide), pu_c (by omega), nI_1, pu_nar 1 (Or.inr rfl)]
        simp only [↓reduceIte, ite_self]
        rw [pk_sub (show pu_sp w ≤ j by omega), pk_sub (show pu_sp w ≤ w by omega)]
        obtain ⟨M2, b1, b2, b3, b4⟩ := ih g (j - pu_sp w) (w - pu_sp w) (steps + 1) true (sA M 38 steps 1) d2 (by omega) (by omega) (by omega) (by omega) (by omega)
        rw [zs_IA] at b1
        have hany : (a || (true :: pu_pathF d (j - pu_sp w) (w - pu_sp w)).any id) = true := by rw [List.any_cons]; simp
        rw [hany]
        rw [Bool.true_or] at b1
        refine ⟨M2, ?_, fun t ht => ?_, fun t ht => ?_, ((pu_fr.refl _ _ _ _ M).sA (by decide) _ _).trans b4⟩
        · rw [List.length_cons, show steps + ((pu_pathF d (j - pu_sp w) (w - pu_sp w)).length + 1) = steps + 1 + (pu_pathF d (j - pu_sp w) (w - pu_sp w)).length by omega, ← b1]
          rfl
        · rw [b2 t (by omega), zs_AA, if_pos rfl, pk_un (by omega)]
        · cases t with
          | zero => rw [Nat.add_zero, b2 steps (by omega), zs_AA, if_pos rfl, pk_us]; rfl
          | succ t =>
            rw [List.length_cons] at ht
            rw [show steps + (t + 1) = steps + 1 + t by omega, b3 t (by omega)]; rfl
theorem pu_contB (O R M : zSt) {c : Nat} (hc : c ≤ 24) (hR : gI R 1 = nI c) (hM : gI M 35 = nI c) (hD : ∀ i, i < c → gL R 0 i = gL M 36 i) (l1 l2 : Int32) (before after : Int64) : ∃ (r : Int32) (R' M' : zSt), fX6_continues O R l1 l2 before after = some (r, R') ∧ fX7_continues M l1 l2 before after = some (r, M') ∧ pu_fr [2] [] [] [3] R R' ∧ pu_fr [0] [38] [] [33] M M' := by
  have h10 : ¬ (1 : Int32) = 0 := by decide
  unfold fX6_continues fX7_continues
  by_cases h1 : l1 < 1
  · rw [if_pos h1, if_pos h1]
    exact ⟨0, R, _, rfl, rfl, pu_fr.refl _ _ _ _ R, (pu_fr.refl _ _ _ _ M).sI (by decide) _⟩
  · rw [if_neg h1, if_neg h1]
    by_cases h2 : l1 ≤ l2
    · obtain ⟨j, n, rfl, rfl, hj, hk, hn⟩ := pu_ix2e h1 h2
      rw [if_neg (nI_nlt hk hn), if_pos h2]
      obtain ⟨R1, a1, a2, a3, a4⟩ := pu_toF R hj hk hn
      have hlen := pu_pathF_len 31 j n
      have hR1 : gI R1 1 = nI c := (a4.1 1 (by decide)).trans hR
      have hD1 : gL R1 0 = gL R 0 := a4.2.2.1 0 (by decide)
      obtain ⟨M1, b1, b2, b3, b4⟩ := pu_co29 before after 31 1000 j n 0 false (sI M 0 0) (by omega) hj hk hn (by decide) (by decide)
      have b1' : lX7_continues_29 1000 (sI M 0 0) before after (nI j) (nI n) 0 1 = _ := b1
      have fM1 : pu_fr [0] [38] [] [33] M M1 := ((pu_fr.refl _ _ _ _ M).sI (by decide) _).trans (b4.mono (by decide) (by decide) (by decide) (by decide))
      have hM1 : gI M1 35 = nI c := (fM1.1 35 (by decide)).trans hM
      have hE1 : gL M1 36 = gL M 36 := fM1.2.2.1 36 (by decide)
      have h35 : gI (sI M 0 0) 35 = nI c := by rw [zs_II, if_neg (by decide)]; exact hM
      unfold fX5_fitsFirst
      rw [a1, pu_b1, pu_below a3 (by omega), pu_b1, hR1, a2, b1', h35, Bool.false_or]
      clear b1 b1'
      generalize hP : pu_pathF 31 j n = P at *
      obtain ⟨bl, hbl, hbl1, hbt⟩ : ∃ bl : Nat, (if P.any id = true then 1 else 0) = bl ∧ bl ≤ 1 ∧ (P.any id = true ↔ bl = 1) := by
        by_cases h : P.any id = true
        · exact ⟨1, if_pos h, by decide, fun _ => rfl, fun _ => h⟩
        · exact ⟨0, if_neg h, by decide, fun z => absurd z h, fun z => by cases z⟩
      have hbi : (if P.any id = true then (1 : Int32) else 0) = nI bl := by rw [← hbl]; split <;> rfl
      have hbj : (if P.any id = true then (0 : Int32) else 1) = nI (1 - bl) := by rw [← hbl]; split <;> rfl
      rw [hbi, hbj, hbl, Nat.zero_add, nI_add]
      unfold bX7_continues_149 bX7_continues_164 bX7_continues_181
      by_cases he : c = P.length + bl
      · have hq : ∀ t, t < P.reverse.length → gA M1 38 (P.reverse.length - 1 - t) = if P.reverse[t]?.getD false = true then 1 else 0 := fun t ht => by
          rw [List.length_reverse] at ht ⊢
          have := b3 (P.length - 1 - t) (by omega)
          rw [Nat.zero_add] at this
          rw [this, List.getElem?_reverse ht]
        rw [if_pos (congrArg nI he), if_pos (congrArg nI he)]
        rw [hE1]
        have hup : ∀ x, pu_up (gL R 0) P.reverse bl x = pu_up (gL M 36) P.reverse bl x := fun x => pu_up_c _ _ _ (fun t _ ht => hD t (by rw [List.length_reverse] at ht; omega))
        have hu1 : ∀ x, pu_u1 (gL R 0) P.reverse bl x = pu_u1 (gL M 36) P.reverse bl x := fun x => pu_u1_c _ _ _ (fun t _ ht => hD t (by rw [List.length_reverse] at ht; omega))
        have key : ∀ x : Int64, ∃ (r : Int32) (R' M' : zSt), (zb2 (bX5_fitsFirst_44 R1 before after (nI bl) x) (fun r_1 uR_2 => if r_1 = (0 : Int32) then some ((0 : Int32), uR_2) else some ((1 : Int32), uR_2))) = some (r, R') ∧ lX7_continues_193 1000 M1 before after (nI bl) x x (nI P.length - 1) = some (r, M') ∧ pu_fr [2] [] [] [3] R R' ∧ pu_fr [0] [38] [] [33] M M' := by
          intro x
          obtain ⟨M2, c1, c2⟩ := pu_co193 before after (gL M 36) P.reverse 1000 bl x x M1 hq (by rw [List.length_reverse]; omega) hE1 (by rw [List.length_reverse]; omega)
          rw [List.length_reverse] at c1
          unfold bX5_fitsFirst_44
          have h3 := pu_ff54 R1 P bl hbl1 before after (by omega) (by rw [hR1, he]) a3 P.reverse 1000 bl x x (by rw [List.length_reverse]; omega) (fun t ht => by rw [List.length_reverse] at ht; rw [List.getElem?_reverse ht]; exact congrArg (fun z => P[z]?) (by omega)) (by rw [List.length_reverse]; omega)
          rw [h3, c1, hD1, hu1, hup]
          have fM2 : pu_fr [0] [38] [] [33] M M2 := fM1.trans (c2.mono (by decide) (by decide) (by decide) (by decide))
          by_cases hh : pu_u1 (gL M 36) P.reverse bl x = before ∧ pu_up (gL M 36) P.reverse bl x = after
          · rw [if_pos hh, pu_b2, if_neg (show ¬ ((1 : Int32), R1).1 = 0 from h10)]
            exact ⟨1, R1, M2, rfl, rfl, a4, fM2⟩
          · rw [if_neg hh, pu_b2, if_pos (show ((0 : Int32), R1).1 = 0 from rfl)]
            exact ⟨0, R1, M2, rfl, rfl, a4, fM2⟩
        have hb01 : bl = 0 ∨ bl = 1 := by omega
        rcases hb01 with hb0 | hb0
        · subst hb0
          rw [if_neg (show ¬ nI 0 = (1 : Int32) by decide), if_neg (show ¬ nI (1 - 0) = (0 : Int32) by decide), if_neg (show ¬ nI (1 - 0) = (0 : Int32) by decide)]
          exact key before
        · subst hb0
          rw [if_pos (show nI 1 = (1 : Int32) from rfl), if_pos (show nI (1 - 1) = (0 : Int32) from rfl), if_pos (show nI (1 - 1) = (0 : Int32) from rfl), hD1, hD 0 (by omega)]
          exact key (gL M 36 0)
      · rw [if_neg (fun z => he ((nI_eq (by omega) (by omega)).mp z)), if_neg (fun z => he ((nI_eq (by omega) (by omega)).mp z)), pu_b2, if_pos rfl]
        exact ⟨0, R1, M1, rfl, rfl, a4, fM1⟩
    · rw [if_pos (by rw [Int32.lt_iff_toInt_lt]; rw [Int32.le_iff_toInt_le] at h2; omega), if_neg h2]
      exact ⟨0, R, _, rfl, rfl, pu_fr.refl _ _ _ _ R, (pu_fr.refl _ _ _ _ M).sI (by decide) _⟩
