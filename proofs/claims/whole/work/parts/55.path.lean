/-! Pure: ways down, proofs that are made. -/
def pu_bits (x : Int64) (l : List Bool) : Prop := ∀ s, s < 64 → x.toBitVec.getLsbD s = l[s]?.getD false
theorem pu_sh1 : ∀ s, s < 64 → ((1 : Int64) <<< ((nI s).toInt64 &&& 63)).toBitVec = BitVec.twoPow 64 s := by decide
theorem pu_sh2 : ∀ s, s < 64 → (((nI s).toInt64 &&& 63).toBitVec.smod 64).toNat = s := by decide
theorem pu_one : ∀ i, i < 64 → ¬ i = 0 → (1 : Int64).toBitVec.getLsbD i = false := by decide
theorem pu_bits0 : pu_bits 0 [] := fun s hs => by
  rw [List.getElem?_nil]
  show (0#64).getLsbD s = false
  exact BitVec.getLsbD_zero
theorem pu_bits_f {x : Int64} {l : List Bool} (h : pu_bits x l) : pu_bits x (l ++ [false]) := fun s hs => by
  rw [h s hs]
  by_cases h1 : s < l.length
  · rw [List.getElem?_append_left h1]
  · rw [List.getElem?_append_right (by omega), List.getElem?_eq_none (by omega)]
    by_cases h2 : s - l.length = 0
    · rw [h2]; rfl
    · rw [List.getElem?_eq_none (by simp; omega)]
theorem pu_bits_t {x : Int64} {l : List Bool} (h : pu_bits x l) (hl : l.length < 64) : pu_bits (x ||| ((1 : Int64) <<< ((nI l.length).toInt64 &&& 63))) (l ++ [true]) := fun s hs => by
  rw [Int64.toBitVec_or, BitVec.getLsbD_or, h s hs, pu_sh1 _ hl, BitVec.getLsbD_twoPow]
  by_cases h1 : s < l.length
  · rw [List.getElem?_append_left h1]
    have : ¬ l.length = s := by omega
    simp [this]
  · rw [List.getElem?_append_right (by omega), List.getElem?_eq_none (by omega)]
    by_cases h2 : s = l.length
    · subst h2; simp [hl]
    · have e1 : ¬ l.length = s := fun z => h2 z.symm
      rw [List.getElem?_eq_none (by simp; omega)]
      simp [e1]
theorem pu_bit {w : Int64} {s : Nat} (hs : s < 64) : ((w >>> ((nI s).toInt64 &&& 63)) &&& (1 : Int64)) = (1 : Int64) ↔ w.toBitVec.getLsbD s = true := by
  have e : (w >>> ((nI s).toInt64 &&& 63)).toBitVec = w.toBitVec.sshiftRight s := by
    rw [Int64.toBitVec_shiftRight]
    show w.toBitVec.sshiftRight (((nI s).toInt64 &&& 63).toBitVec.smod 64).toNat = _
    rw [pu_sh2 s hs]
  have hb : (w.toBitVec.sshiftRight s).getLsbD 0 = w.toBitVec.getLsbD s := by
    rw [BitVec.getLsbD_sshiftRight]
    simp [hs]
  rw [← hb, ← e]
  constructor
  · intro h
    have h2 := congrArg (fun z : Int64 => z.toBitVec.getLsbD 0) h
    simp only [Int64.toBitVec_and, BitVec.getLsbD_and] at h2
    have h3 : (1 : Int64).toBitVec.getLsbD 0 = true := by decide
    rw [h3, Bool.and_true] at h2
    exact h2
  · intro h
    apply Int64.toBitVec_inj.mp
    apply BitVec.eq_of_getLsbD_eq
    intro i hi
    rw [Int64.toBitVec_and, BitVec.getLsbD_and]
    by_cases h0 : i = 0
    · subst h0; rw [h]; rfl
    · have h1 : (1 : Int64).toBitVec.getLsbD i = false := pu_one i hi h0
      rw [h1, Bool.and_false]
theorem pu_isec {R : zSt} {l : List Bool} (h : pu_bits (gJ R 3) l) {s : Nat} (hs : s < 64) : fX5_isSecond R (nI s) = some (if l[s]?.getD false = true then 1 else 0) := by
  unfold fX5_isSecond
  rw [← h s hs]
  by_cases hb : (gJ R 3).toBitVec.getLsbD s = true
  · rw [if_pos ((lg_cmp_eq _ _).mpr ((pu_bit hs).mpr hb)), if_pos hb]
  · rw [if_neg (fun z => hb ((pu_bit hs).mp ((lg_cmp_eq _ _).mp z))), if_neg hb]
theorem pu_any {l : List Bool} : (∀ s, s < l.length → l[s]?.getD false = false) ↔ l.any id = false := by
  induction l with
  | nil => exact ⟨fun _ => rfl, fun _ s h => absurd h (Nat.not_lt_zero _)⟩
  | cons b l ih =>
    constructor
    · intro h
      have h0 : b = false := h 0 (by simp)
      have h1 := ih.mp (fun s hs => h (s + 1) (by simp; omega))
      rw [List.any_cons, h0, h1]; rfl
    · intro h s hs
      rw [List.any_cons, Bool.or_eq_false_iff] at h
      cases s with
      | zero => exact h.1
      | succ s => exact ih.mpr h.2 s (by simp at hs; omega)
theorem pu_below {R : zSt} {l : List Bool} (h : pu_bits (gJ R 3) l) (hl : l.length ≤ 64) : fX5_digestsBelow R = some (if l.any id = true then 1 else 0) := by
  unfold fX5_digestsBelow
  by_cases h0 : gJ R 3 = 0
  · rw [if_pos ((lg_cmp_eq _ _).mpr h0)]
    have : l.any id = false := pu_any.mp (fun s hs => by rw [← h s (by omega), h0]; exact BitVec.getLsbD_zero)
    rw [this]; rfl
  · rw [if_neg (fun z => h0 ((lg_cmp_eq _ _).mp z))]
    by_cases ha : l.any id = true
    · rw [if_pos ha]
    · exfalso
      apply h0
      have ha' := pu_any.mpr (by simpa using ha)
      apply Int64.toBitVec_inj.mp
      apply BitVec.eq_of_getLsbD_eq
      intro i hi
      rw [h i hi]
      have e0 : (0 : Int64).toBitVec.getLsbD i = false := BitVec.getLsbD_zero
      rw [e0]
      by_cases hil : i < l.length
      · exact ha' i hil
      · rw [List.getElem?_eq_none (by omega)]; rfl
theorem pu_godown {R : zSt} {l : List Bool} (b : Bool) (h2 : gI R 2 = nI l.length) (h : pu_bits (gJ R 3) l) (hl : l.length < 64) : ∃ R' : zSt, fX5_goDown R (if b = true then 1 else 0) = some R' ∧ gI R' 2 = nI (l ++ [b]).length ∧ pu_bits (gJ R' 3) (l ++ [b]) ∧ pu_fr [2] [] [] [3] R R' := by
  unfold fX5_goDown bX5_goDown_19
  cases b with
  | false =>
    rw [show (if false = true then (1 : Int32) else 0) = 0 from rfl, if_pos rfl]
    refine ⟨_, rfl, ?_, ?_, (pu_fr.refl _ _ _ _ R).sI (by decide) _⟩
    · rw [zs_II, if_pos rfl, h2, nI_1]; simp
    · rw [zs_JI]; exact pu_bits_f h
  | true =>
    rw [show (if true = true then (1 : Int32) else 0) = 1 from rfl, if_neg (by decide)]
    refine ⟨_, rfl, ?_, ?_, ((pu_fr.refl _ _ _ _ R).sJ (by decide) _).sI (by decide) _⟩
    · rw [zs_II, if_pos rfl, zs_IJ, h2, nI_1]; simp
    · rw [zs_JI, zs_JJ, if_pos rfl, h2]; exact pu_bits_t h hl
def pu_path : Nat → Nat → Nat → List Bool
  | 0, _, _ => []
  | d + 1, k, w => if w ≤ 1 then [] else if k < pu_sp w then false :: pu_path d k (pu_sp w) else true :: pu_path d (k - pu_sp w) (w - pu_sp w)
def pu_pathF : Nat → Nat → Nat → List Bool
  | 0, _, _ => []
  | d + 1, j, w => if w ≤ j then [] else if j ≤ pu_sp w then false :: pu_pathF d j (pu_sp w) else true :: pu_pathF d (j - pu_sp w) (w - pu_sp w)
theorem pu_sp_lt {n : Nat} (h2 : 2 ≤ n) (hn : n < 2 ^ 31) : 1 ≤ pu_sp n ∧ pu_sp n < n ∧ n ≤ 2 * pu_sp n := by
  obtain ⟨k, e, h1, h3⟩ := pu_sp_p h2 (by omega)
  have := Nat.one_le_two_pow (n := k)
  rw [Nat.pow_succ] at h3
  rw [e]; omega
theorem pu_sp_le {n d : Nat} (h2 : 2 ≤ n) (hn : n < 2 ^ 31) (hd : n ≤ 2 ^ (d + 1)) : pu_sp n ≤ 2 ^ d ∧ n - pu_sp n ≤ 2 ^ d := by
  obtain ⟨k, e, h1, h3⟩ := pu_sp_p h2 (by omega)
  have hkd : k < d + 1 := (Nat.pow_lt_pow_iff_right (a := 2) (by decide)).mp (by omega)
  have : 2 ^ k ≤ 2 ^ d := Nat.pow_le_pow_right (by decide) (by omega)
  rw [Nat.pow_succ] at h3
  rw [e]; omega
theorem pu_path_len : ∀ (d k w : Nat), (pu_path d k w).length ≤ d := by
  intro d
  induction d with
  | zero => intro k w; exact Nat.le_refl _
  | succ d ih =>
    intro k w
    unfold pu_path
    split
    · simp
    · split
      · have := ih k (pu_sp w); simp; omega
      · have := ih (k - pu_sp w) (w - pu_sp w); simp; omega
theorem pu_pathF_len : ∀ (d k w : Nat), (pu_pathF d k w).length ≤ d := by
  intro d
  induction d with
  | zero => intro k w; exact Nat.le_refl _
  | succ d ih =>
    intro k w
    unfold pu_pathF
    split
    · simp
    · split
      · have := ih k (pu_sp w); simp; omega
      · have := ih (k - pu_sp w) (w - pu_sp w); simp; omega
/-- more steps allowed, the same way -/
theorem pu_path_d : ∀ (d e k w : Nat), w < 2 ^ 31 → w ≤ 2 ^ d → d ≤ e → pu_path e k w = pu_path d k w := by
  intro d
  induction d with
  | zero =>
    intro e k w hw h he
    have h1 : w ≤ 1 := by simpa using h
    cases e with
    | zero => rfl
    | succ e => exact if_pos h1
  | succ d ih =>
    intro e k w hw h he
    obtain ⟨e', rfl⟩ : ∃ e', e = e' + 1 := ⟨e - 1, by omega⟩
    unfold pu_path
    by_cases h1 : w ≤ 1
    · rw [if_pos h1, if_pos h1]
    · obtain ⟨a, b⟩ := pu_sp_le (show 2 ≤ w by omega) hw h
      obtain ⟨c1, c2, c3⟩ := pu_sp_lt (show 2 ≤ w by omega) hw
      rw [if_neg h1, if_neg h1, ih e' k _ (by omega) a (by omega), ih e' (k - pu_sp w) _ (by omega) b (by omega)]
theorem pu_pathF_d : ∀ (d e j w : Nat), 1 ≤ j → w < 2 ^ 31 → w ≤ 2 ^ d → d ≤ e → pu_pathF e j w = pu_pathF d j w := by
  intro d
  induction d with
  | zero =>
    intro e j w hj hw h he
    have h1 : w ≤ 1 := by simpa using h
    cases e with
    | zero => rfl
    | succ e => exact if_pos (by omega)
  | succ d ih =>
    intro e j w hj hw h he
    obtain ⟨e', rfl⟩ : ∃ e', e = e' + 1 := ⟨e - 1, by omega⟩
    unfold pu_pathF
    by_cases h1 : w ≤ j
    · rw [if_pos h1, if_pos h1]
    · obtain ⟨a, b⟩ := pu_sp_le (show 2 ≤ w by omega) hw h
      obtain ⟨c1, c2, c3⟩ := pu_sp_lt (show 2 ≤ w by omega) hw
      rw [if_neg h1, if_neg h1]
      by_cases h2 : j ≤ pu_sp w
      · rw [if_pos h2, if_pos h2, ih e' j _ hj (by omega) a (by omega)]
      · rw [if_neg h2, if_neg h2, ih e' (j - pu_sp w) _ (by omega) (by omega) b (by omega)]
theorem pu_goR : ∀ (d f s k w : Nat) (R : zSt) (l : List Bool), s + d = 31 → d < f → k < w → w < 2 ^ 31 → l.length = s → gI R 2 = nI s → pu_bits (gJ R 3) l → ∃ R' : zSt, lX5_goToRecord_18 f R (nI k) (nI w) (nI s) = some R' ∧ gI R' 2 = nI (l ++ pu_path d k w).length ∧ pu_bits (gJ R' 3) (l ++ pu_path d k w) ∧ pu_fr [2] [] [] [3] R R' := by
  intro d
  induction d with
  | zero =>
    intro f s k w R l hs hf hk hw hl h2 hb
    obtain ⟨g, rfl, -⟩ := pu_fu hf
    have h0 : s = 31 := by omega
    subst h0
    refine ⟨R, ?_, ?_, ?_, pu_fr.refl _ _ _ _ R⟩
    · show bX5_goToRecord_18 _ _ _ _ _ = _
      unfold bX5_goToRecord_18
      rw [if_pos (by decide)]
    · rw [h2]; unfold pu_path; rw [List.append_nil, hl]
    · unfold pu_path; rw [List.append_nil]; exact hb
  | succ d ih =>
    intro f s k w R l hs hf hk hw hl h2 hb
    obtain ⟨g, rfl, hg⟩ := pu_fu hf
    show ∃ R' : zSt, bX5_goToRecord_18 _ _ _ _ _ = _ ∧ _
    unfold bX5_goToRecord_18 pu_path
    rw [if_neg (show ¬ (31 : Int32) ≤ nI s from nI_ge (b := 31) (by omega) (by decide))]
    by_cases h1 : w ≤ 1
    · rw [if_pos (show nI w ≤ (1 : Int32) from nI_le h1 (by decide)), if_pos h1, List.append_nil]
      exact ⟨R, rfl, by rw [h2, hl], hb, pu_fr.refl _ _ _ _ R⟩
    · rw [if_neg (show ¬ nI w ≤ (1 : Int32) from nI_ge (a := 1) (by omega) (by omega)), if_neg h1, pu_split (by omega) hw, pu_b1]
      obtain ⟨c1, c2, c3⟩ := pu_sp_lt (show 2 ≤ w by omega) hw
      subst hl
      unfold bX5_goToRecord_49 bX5_goToRecord_64 bX5_goToRecord_80
      by_cases hks : k < pu_sp w
      · rw [if_pos (nI_lt hks (by omega)), if_pos hks, if_pos rfl, if_pos rfl]
        obtain ⟨R1, a1, a2, a3, a4⟩ := pu_godown false h2 hb (by omega)
        have a1' : fX5_goDown R 0 = some R1 := a1
        rw [a1', pu_b1, nI_1]
        obtain ⟨R2, b1, b2, b3, b4⟩ := ih g (l.length + 1) k (pu_sp w) R1 (l ++ [false]) (by omega) (by omega) hks (by omega) (by simp) (by rw [a2]; simp) a3
        rw [List.append_assoc] at b2 b3
        exact ⟨R2, b1, b2, b3, a4.trans b4⟩
      · rw [if_neg (nI_nlt (by omega) (by omega)), if_neg hks, if_neg (by decide), if_neg (by decide)]
        obtain ⟨R1, a1, a2, a3, a4⟩ := pu_godown true h2 hb (by omega)
        have a1' : fX5_goDown R 1 = some R1 := a1
        rw [a1', pu_b1, nI_1, pk_sub (by omega), pk_sub (by omega)]
        obtain ⟨R2, b1, b2, b3, b4⟩ := ih g (l.length + 1) (k - pu_sp w) (w - pu_sp w) R1 (l ++ [true]) (by omega) (by omega) (by omega) (by omega) (by simp) (by rw [a2]; simp) a3
        rw [List.append_assoc] at b2 b3
        exact ⟨R2, b1, b2, b3, a4.trans b4⟩
theorem pu_goF : ∀ (d f s j w : Nat) (R : zSt) (l : List Bool), s + d = 31 → d < f → 1 ≤ j → j ≤ w → w < 2 ^ 31 → l.length = s → gI R 2 = nI s → pu_bits (gJ R 3) l → ∃ R' : zSt, lX5_goToFirst_18 f R (nI j) (nI w) (nI s) = some R' ∧ gI R' 2 = nI (l ++ pu_pathF d j w).length ∧ pu_bits (gJ R' 3) (l ++ pu_pathF d j w) ∧ pu_fr [2] [] [] [3] R R' := by
  intro d
  induction d with
  | zero =>
    intro f s j w R l hs hf hj hk hw hl h2 hb
    obtain ⟨g, rfl, -⟩ := pu_fu hf
    have h0 : s = 31 := by omega
    subst h0
    refine ⟨R, ?_, ?_, ?_, pu_fr.refl _ _ _ _ R⟩
    · show bX5_goToFirst_18 _ _ _ _ _ = _
      unfold bX5_goToFirst_18
      rw [if_pos (by decide)]
    · rw [h2]; unfold pu_pathF; rw [List.append_nil, hl]
    · unfold pu_pathF; rw [List.append_nil]; exact hb
  | succ d ih =>
    intro f s j w R l hs hf hj hk hw hl h2 hb
    obtain ⟨g, rfl, hg⟩ := pu_fu hf
    show ∃ R' : zSt, bX5_goToFirst_18 _ _ _ _ _ = _ ∧ _
    unfold bX5_goToFirst_18 pu_pathF
    rw [if_neg (show ¬ (31 : Int32) ≤ nI s from nI_ge (b := 31) (by omega) (by decide))]
    by_cases h1 : w ≤ j
    · rw [if_pos (nI_le h1 (by omega)), if_pos h1, List.append_nil]
      exact ⟨R, rfl, by rw [h2, hl], hb, pu_fr.refl _ _ _ _ R⟩
    · rw [if_neg (nI_ge (by omega) (by omega)), if_neg h1, pu_split (by omega) hw, pu_b1]
      obtain ⟨c1, c2, c3⟩ := pu_sp_lt (show 2 ≤ w by omega) hw
      subst hl
      unfold bX5_goToFirst_49 bX5_goToFirst_64 bX5_goToFirst_80
      by_cases hks : j ≤ pu_sp w
      · rw [if_pos (nI_le hks (by omega)), if_pos hks, if_pos rfl, if_pos rfl]
        obtain ⟨R1, a1, a2, a3, a4⟩ := pu_godown false h2 hb (by omega)
        have a1' : fX5_goDown R 0 = some R1 := a1
        rw [a1', pu_b1, nI_1]
        obtain ⟨R2, b1, b2, b3, b4⟩ := ih g (l.length + 1) j (pu_sp w) R1 (l ++ [false]) (by omega) (by omega) hj hks (by omega) (by simp) (by rw [a2]; simp) a3
        rw [List.append_assoc] at b2 b3
        exact ⟨R2, b1, b2, b3, a4.trans b4⟩
      · rw [if_neg (nI_ge (by omega) (by omega)), if_neg hks, if_neg (by decide), if_neg (by decide)]
        obtain ⟨R1, a1, a2, a3, a4⟩ := pu_godown true h2 hb (by omega)
        have a1' : fX5_goDown R 1 = some R1 := a1
        rw [a1', pu_b1, nI_1, pk_sub (by omega), pk_sub (by omega)]
        obtain ⟨R2, b1, b2, b3, b4⟩ := ih g (l.length + 1) (j - pu_sp w) (w - pu_sp w) R1 (l ++ [true]) (by omega) (by omega) (by omega) (by omega) (by omega) (by simp) (by rw [a2]; simp) a3
        rw [List.append_assoc] at b2 b3
        exact ⟨R2, b1, b2, b3, a4.trans b4⟩
theorem pu_toR (R : zSt) {k w : Nat} (hk : k < w) (hw : w < 2 ^ 31) : ∃ R' : zSt, fX5_goToRecord R (nI k) (nI w) = some R' ∧ gI R' 2 = nI (pu_path 31 k w).length ∧ pu_bits (gJ R' 3) (pu_path 31 k w) ∧ pu_fr [2] [] [] [3] R R' := by
  obtain ⟨R', a1, a2, a3, a4⟩ := pu_goR 31 1000 0 k w (sJ (sI R 2 0) 3 0) [] rfl (by decide) hk hw rfl rfl pu_bits0
  exact ⟨R', a1, a2, a3, (((pu_fr.refl _ _ _ _ R).sI (by decide) _).sJ (by decide) _).trans a4⟩
theorem pu_toF (R : zSt) {j w : Nat} (hj : 1 ≤ j) (hk : j ≤ w) (hw : w < 2 ^ 31) : ∃ R' : zSt, fX5_goToFirst R (nI j) (nI w) = some R' ∧ gI R' 2 = nI (pu_pathF 31 j w).length ∧ pu_bits (gJ R' 3) (pu_pathF 31 j w) ∧ pu_fr [2] [] [] [3] R R' := by
  obtain ⟨R', a1, a2, a3, a4⟩ := pu_goF 31 1000 0 j w (sJ (sI R 2 0) 3 0) [] rfl (by decide) hj hk hw rfl rfl pu_bits0
  exact ⟨R', a1, a2, a3, (((pu_fr.refl _ _ _ _ R).sI (by decide) _).sJ (by decide) _).trans a4⟩
/-- widths along a way -/
def pu_okp : List Bool → Nat → Prop
  | [], w => 1 ≤ w
  | b :: l, w => 2 ≤ w ∧ pu_okp l (if b = true then w - pu_sp w else pu_sp w)
theorem pu_ok1 : ∀ (d k w : Nat), k < w → w < 2 ^ 31 → pu_okp (pu_path d k w) w := by
  intro d
  induction d with
  | zero => intro k w hk hw; show 1 ≤ w; omega
  | succ d ih =>
    intro k w hk hw
    unfold pu_path
    by_cases h1 : w ≤ 1
    · rw [if_pos h1]; show 1 ≤ w; omega
    · obtain ⟨c1, c2, c3⟩ := pu_sp_lt (show 2 ≤ w by omega) hw
      rw [if_neg h1]
      by_cases hks : k < pu_sp w
      · rw [if_pos hks]; exact ⟨by omega, ih _ _ hks (by omega)⟩
      · rw [if_neg hks]; exact ⟨by omega, ih _ _ (by omega) (by omega)⟩
theorem pu_ok2 : ∀ (d j w : Nat), 1 ≤ j → j ≤ w → w < 2 ^ 31 → pu_okp (pu_pathF d j w) w := by
  intro d
  induction d with
  | zero => intro j w hj hk hw; show 1 ≤ w; omega
  | succ d ih =>
    intro j w hj hk hw
    unfold pu_pathF
    by_cases h1 : w ≤ j
    · rw [if_pos h1]; show 1 ≤ w; omega
    · obtain ⟨c1, c2, c3⟩ := pu_sp_lt (show 2 ≤ w by omega) hw
      rw [if_neg h1]
      by_cases hks : j ≤ pu_sp w
      · rw [if_pos hks]; exact ⟨by omega, ih _ _ hj hks (by omega)⟩
      · rw [if_neg hks]; exact ⟨by omega, ih _ _ (by omega) (by omega) (by omega)⟩
/-- the digest at step s of a way; the head at its end -/
noncomputable def pu_V (hd : Nat → Nat → Int64) : List Bool → Nat → Nat → Nat → Int64
  | [], _, _, _ => 0
  | b :: _, s, w, 0 => if b = true then hd s (pu_sp w) else hd (s + pu_sp w) (w - pu_sp w)
  | b :: l, s, w, t + 1 => pu_V hd l (if b = true then s + pu_sp w else s) (if b = true then w - pu_sp w else pu_sp w) t
noncomputable def pu_E (hd : Nat → Nat → Int64) : List Bool → Nat → Nat → Int64
  | [], s, w => hd s w
  | b :: l, s, w => pu_E hd l (if b = true then s + pu_sp w else s) (if b = true then w - pu_sp w else pu_sp w)
theorem pu_fill (p : List Bool) (bl : Nat) (hbl : bl ≤ 1) (hp : p.length ≤ 31) : ∀ (q : List Bool) (f s from_ w : Nat) (B R : zSt), s + q.length = p.length → (∀ i, i < q.length → p[s + i]? = q[i]?) → q.length < f → pu_okp q w → w < 2 ^ 31 → from_ + w ≤ 160 → gI R 1 = nI (p.length + bl) → gI R 2 = nI p.length → pu_bits (gJ R 3) p → ∃ B' R' : zSt, lX5_fill_19 f B R (nI bl) (nI from_) (nI w) (nI s) = some (B', R') ∧ (∀ t, t < q.length → gL R' 0 (q.length - 1 - t + bl) = pu_V (pu_head (pu_leaf (gA B 0) (gA B 1))) q from_ w t) ∧ (bl = 1 → gL R' 0 0 = pu_E (pu_head (pu_leaf (gA B 0) (gA B 1))) q from_ w) ∧ (∀ t, q.length + bl ≤ t → gL R' 0 t = gL R 0 t) ∧ pu_fr [] [] [2] [] B B' ∧ pu_fr [] [] [0] [] R R' := by
  intro q
  induction q with
  | nil =>
    intro f s from_ w B R hs hq hf hok hw hn h1 h2 hb
    obtain ⟨g, rfl, -⟩ := pu_fu hf
    have h0 : s = p.length := by simpa using hs
    subst h0
    show ∃ B' R' : zSt, bX5_fill_19 _ _ _ _ _ _ _ = _ ∧ _
    unfold bX5_fill_19
    rw [h2, if_pos (nI_le (Nat.le_refl _) (by omega))]
    by_cases hb1 : bl = 1
    · subst hb1
      obtain ⟨B', a1, a2⟩ := pu_head1 B (s := from_) hok hn
      rw [if_pos (show nI 1 = (1 : Int32) from rfl), a1, pu_b2]
      refine ⟨B', _, rfl, fun t ht => absurd ht (Nat.not_lt_zero _), fun _ => ?_, fun t ht => ?_, a2, (pu_fr.refl _ _ _ _ R).sL (by decide) _ _⟩
      · rw [zs_LL, if_pos rfl, pk_uLs]; rfl
      · rw [zs_LL, if_pos rfl, pk_uLn (by simp at ht; omega)]
    · have hb0 : bl = 0 := by omega
      subst hb0
      rw [if_neg (show ¬ nI 0 = (1 : Int32) by decide)]
      exact ⟨B, R, rfl, fun t ht => absurd ht (Nat.not_lt_zero _), fun h => absurd h hb1, fun t ht => rfl, pu_fr.refl _ _ _ _ B, pu_fr.refl _ _ _ _ R⟩
  | cons b q ih =>
    intro f s from_ w B R hs hq hf hok hw hn h1 h2 hb
    obtain ⟨g, rfl, hg⟩ := pu_fu hf
    obtain ⟨hw2, hok'⟩ := hok
    obtain ⟨c1, c2, c3⟩ := pu_sp_lt hw2 hw
    rw [List.length_cons] at hs hg
    have hps : p[s]?.getD false = b := by
      have := hq 0 (by simp)
      rw [Nat.add_zero] at this
      rw [this]; rfl
    have hq' : ∀ i, i < q.length → p[s + 1 + i]? = q[i]? := fun i hi => by
      have := hq (i + 1) (by simp; omega)
      rw [show s + (i + 1) = s + 1 + i by omega] at this
      rw [this]; rfl
    show ∃ B' R' : zSt, bX5_fill_19 _ _ _ _ _ _ _ = _ ∧ _
    unfold bX5_fill_19 bX5_fill_115
    rw [h2, if_neg (nI_ge (by omega) (by omega)), pu_split hw2 hw, pu_b1, pu_isec hb (by omega), pu_b1, hps]
    have e1 : nI (p.length + bl) - (1 : Int32) = nI (p.length + bl - 1) := pk_sub (b := 1) (by omega)
    have e2 : nI (p.length + bl - 1) - nI s = nI (q.length + bl) := by rw [pk_sub (by omega)]; exact congrArg nI (by omega)
    cases b with
    | true =>
      rw [if_pos rfl] at hok'
      obtain ⟨B1, a1, a2⟩ := pu_head1 B (s := from_) c1 (show from_ + pu_sp w ≤ 160 by omega)
      rw [show (if true = true then (1 : Int32) else 0) = 1 from rfl, if_neg (by decide), a1, pu_b2, h1, e1, e2, pu_zn (by omega) (by decide), pu_c (by omega), nI_add, pk_sub (by omega), nI_1]
      obtain ⟨B2, R2, b1, b2, b3, b4, b5, b6⟩ := ih g (s + 1) (from_ + pu_sp w) (w - pu_sp w) B1 (sL R 0 (q.length + bl) (pu_head (pu_leaf (gA B 0) (gA B 1)) from_ (pu_sp w))) (by omega) hq' (by omega) hok' (by omega) (by omega) h1 h2 hb
      rw [a2.2.1 0 (by decide), a2.2.1 1 (by decide)] at b2 b3
      refine ⟨B2, R2, b1, fun t ht => ?_, fun h => ?_, fun t ht => ?_, a2.trans b5, ((pu_fr.refl _ _ _ _ R).sL (by decide) _ _).trans b6⟩
      · cases t with
        | zero =>
          rw [List.length_cons, show q.length + 1 - 1 - 0 + bl = q.length + bl by omega, b4 _ (Nat.le_refl _), zs_LL, if_pos rfl, pk_uLs]; rfl
        | succ t =>
          rw [List.length_cons] at ht ⊢
          rw [show q.length + 1 - 1 - (t + 1) + bl = q.length - 1 - t + bl by omega, b2 t (by omega)]; rfl
      · rw [b3 h]; rfl
      · rw [List.length_cons] at ht
        rw [b4 t (by omega), zs_LL, if_pos rfl, pk_uLn (by omega)]
    | false =>
      rw [if_neg (by decide)] at hok'
      obtain ⟨B1, a1, a2⟩ := pu_head1 B (s := from_ + pu_sp w) (n := w - pu_sp w) (by omega) (by omega)
      rw [show (if false = true then (1 : Int32) else 0) = 0 from rfl, if_pos rfl, nI_add, pk_sub (by omega), a1, pu_b2, h1, e1, e2, pu_zn (by omega) (by decide), pu_c (by omega), nI_1]
      obtain ⟨B2, R2, b1, b2, b3, b4, b5, b6⟩ := ih g (s + 1) from_ (pu_sp w) B1 (sL R 0 (q.length + bl) (pu_head (pu_leaf (gA B 0) (gA B 1)) (from_ + pu_sp w) (w - pu_sp w))) (by omega) hq' (by omega) hok' (by omega) (by omega) h1 h2 hb
      rw [a2.2.1 0 (by decide), a2.2.1 1 (by decide)] at b2 b3
      refine ⟨B2, R2, b1, fun t ht => ?_, fun h => ?_, fun t ht => ?_, a2.trans b5, ((pu_fr.refl _ _ _ _ R).sL (by decide) _ _).trans b6⟩
      · cases t with
        | zero =>
          rw [List.length_cons, show q.length + 1 - 1 - 0 + bl = q.length + bl by omega, b4 _ (Nat.le_refl _), zs_LL, if_pos rfl, pk_uLs]; rfl
        | succ t =>
          rw [List.length_cons] at ht ⊢
          rw [show q.length + 1 - 1 - (t + 1) + bl = q.length - 1 - t + bl by omega, b2 t (by omega)]; rfl
      · rw [b3 h]; rfl
      · rw [List.length_cons] at ht
        rw [b4 t (by omega), zs_LL, if_pos rfl, pk_uLn (by omega)]
