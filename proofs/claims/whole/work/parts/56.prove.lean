/-! Pure: proofs made and held on both sides. -/
theorem pu_tr2 {made at_ : Nat} (h24 : made + at_ ≤ 24) : ∀ (d f i : Nat) (M : zSt), i + d = made → d < f → ∃ M' : zSt, lX7_turnRound_2 f M (nI made) (nI at_) (nI i) = some M' ∧ gI M' 35 = nI (at_ + made) ∧ (∀ t, i ≤ t → t < made → gL M' 36 (at_ + t) = gL M 37 (made - 1 - t)) ∧ (∀ t, t < at_ + i → gL M' 36 t = gL M 36 t) ∧ pu_fr [35] [] [36] [] M M' := by
  intro d
  induction d with
  | zero =>
    intro f i M hi hf
    obtain ⟨g, rfl, -⟩ := pu_fu hf
    have h0 : i = made := by omega
    subst h0
    show ∃ M' : zSt, bX7_turnRound_2 _ _ _ _ _ = _ ∧ _
    unfold bX7_turnRound_2
    rw [if_pos (nI_le (Nat.le_refl _) (by omega)), nI_add]
    exact ⟨_, rfl, by rw [zs_II, if_pos rfl], fun t h1 h2 => by omega, fun t ht => by rw [zs_LI], (pu_fr.refl _ _ _ _ M).sI (by decide) _⟩
  | succ d ih =>
    intro f i M hi hf
    obtain ⟨g, rfl, hg⟩ := pu_fu hf
    show ∃ M' : zSt, bX7_turnRound_2 _ _ _ _ _ = _ ∧ _
    unfold bX7_turnRound_2
    have e1 : nI made - (1 : Int32) = nI (made - 1) := pk_sub (b := 1) (by omega)
    rw [if_neg (nI_ge (by omega) (by omega)), e1, pk_sub (by omega), nI_add, pu_zn (by omega) (by decide), pu_zn (by omega) (by decide), pu_c (by omega), pu_c (by omega), nI_1]
    obtain ⟨M', a1, a2, a3, a4, a5⟩ := ih g (i + 1) (sL M 36 (at_ + i) (gL M 37 (made - 1 - i))) (by omega) (by omega)
    refine ⟨M', a1, a2, fun t h1 h2 => ?_, fun t ht => ?_, ((pu_fr.refl _ _ _ _ M).sL (by decide) _ _).trans a5⟩
    · by_cases ht : t = i
      · subst ht
        rw [a4 _ (by omega), zs_LL, if_pos rfl, pk_uLs]
      · rw [a3 t (by omega) h2, zs_LL, if_neg (by decide)]
    · rw [a4 t (by omega), zs_LL, if_pos rfl, pk_uLn (by omega)]
theorem pu_turn {made at_ : Nat} (h24 : made + at_ ≤ 24) (M : zSt) : ∃ M' : zSt, fX7_turnRound M (nI made) (nI at_) = some M' ∧ gI M' 35 = nI (at_ + made) ∧ (∀ t, t < made → gL M' 36 (at_ + t) = gL M 37 (made - 1 - t)) ∧ (∀ t, t < at_ → gL M' 36 t = gL M 36 t) ∧ pu_fr [35] [] [36] [] M M' := by
  obtain ⟨M', a1, a2, a3, a4, a5⟩ := pu_tr2 h24 made 1000 0 M (by omega) (by omega)
  exact ⟨M', a1, a2, fun t ht => a3 t (Nat.zero_le _) ht, fun t ht => a4 t (by omega), a5⟩
theorem pu_V_0t (hd : Nat → Nat → Int64) (l : List Bool) (s w : Nat) : pu_V hd (true :: l) s w 0 = hd s (pu_sp w) := rfl
theorem pu_V_0f (hd : Nat → Nat → Int64) (l : List Bool) (s w : Nat) : pu_V hd (false :: l) s w 0 = hd (s + pu_sp w) (w - pu_sp w) := rfl
theorem pu_V_st (hd : Nat → Nat → Int64) (l : List Bool) (s w t : Nat) : pu_V hd (true :: l) s w (t + 1) = pu_V hd l (s + pu_sp w) (w - pu_sp w) t := rfl
theorem pu_V_sf (hd : Nat → Nat → Int64) (l : List Bool) (s w t : Nat) : pu_V hd (false :: l) s w (t + 1) = pu_V hd l s (pu_sp w) t := rfl
theorem pu_E_t (hd : Nat → Nat → Int64) (l : List Bool) (s w : Nat) : pu_E hd (true :: l) s w = pu_E hd l (s + pu_sp w) (w - pu_sp w) := rfl
theorem pu_E_f (hd : Nat → Nat → Int64) (l : List Bool) (s w : Nat) : pu_E hd (false :: l) s w = pu_E hd l s (pu_sp w) := rfl
/-- the model's way to a record -/
theorem pu_pr43 : ∀ (d f k s w made : Nat) (M : zSt), w ≤ 2 ^ d → k < w → s + w ≤ 160 → made + d ≤ 24 → d < f → ∃ M' : zSt, lX7_prove_43 f M (nI (s + k)) (nI s) (nI w) (nI made) = zb1 (fX7_turnRound M' (nI (made + (pu_path d k w).length)) 0) (fun uM_5 => some (gI uM_5 35, uM_5)) ∧ (∀ t, t < made → gL M' 37 t = gL M 37 t) ∧ (∀ t, t < (pu_path d k w).length → gL M' 37 (made + t) = pu_V (pu_head (pu_leaf (gA M 2) (gA M 3))) (pu_path d k w) s w t) ∧ pu_fr [] [] [34, 37] [33] M M' := by
  intro d
  induction d with
  | zero =>
    intro f k s w made M hw hk hs hm hf
    obtain ⟨g, rfl, -⟩ := pu_fu hf
    have h1 : w ≤ 1 := by simpa using hw
    refine ⟨M, ?_, fun _ _ => rfl, fun t ht => absurd ht (Nat.not_lt_zero _), pu_fr.refl _ _ _ _ M⟩
    show bX7_prove_43 _ _ _ _ _ _ = _
    unfold bX7_prove_43
    rw [if_pos (show nI w ≤ (1 : Int32) from nI_le h1 (by decide))]; rfl
  | succ d ih =>
    intro f k s w made M hw hk hs hm hf
    obtain ⟨g, rfl, hg⟩ := pu_fu hf
    show ∃ M' : zSt, bX7_prove_43 _ _ _ _ _ _ = _ ∧ _
    unfold bX7_prove_43 pu_path
    by_cases h1 : w ≤ 1
    · rw [if_pos (show nI w ≤ (1 : Int32) from nI_le h1 (by decide)), if_pos h1]
      exact ⟨M, rfl, fun _ _ => rfl, fun t ht => absurd ht (Nat.not_lt_zero _), pu_fr.refl _ _ _ _ M⟩
    · obtain ⟨c1, c2, c3⟩ := pu_sp_lt (show 2 ≤ w by omega) (by omega)
      obtain ⟨d1, d2⟩ := pu_sp_le (show 2 ≤ w by omega) (by omega) hw
      rw [if_neg (show ¬ nI w ≤ (1 : Int32) from nI_ge (a := 1) (by omega) (by omega)), if_neg h1, pu_part (by omega) (by omega), pu_b1, pk_sub (by omega), show s + k - s = k by omega]
      unfold bX7_prove_69 bX7_prove_105 bX7_prove_122 bX7_prove_138
      by_cases hks : k < pu_sp w
      · rw [if_neg (nI_ge hks (by omega)), if_pos hks, if_neg (by decide)]
        obtain ⟨M1, a1, a2⟩ := pu_head7 M (s := s + pu_sp w) (n := w - pu_sp w) (by omega) (by omega)
        rw [nI_add, pk_sub (by omega), a1, pu_b2, pu_zn (by omega) (by decide), if_neg (by decide), if_neg (by decide), pu_c (by omega), nI_1]
        obtain ⟨M2, b1, b2, b3, b4⟩ := ih g k s (pu_sp w) (made + 1) (sL M1 37 made (pu_head (pu_leaf (gA M 2) (gA M 3)) (s + pu_sp w) (w - pu_sp w))) d1 hks (by omega) (by omega) (by omega)
        rw [zs_AL, zs_AL, a2.2.1 2 (by decide), a2.2.1 3 (by decide)] at b3
        refine ⟨M2, ?_, fun t ht => ?_, fun t ht => ?_, ((a2.mono (by decide) (by decide) (by decide) (by decide)).sL (by decide) _ _).trans b4⟩
        · rw [b1, List.length_cons, show made + 1 + (pu_path d k (pu_sp w)).length = made + ((pu_path d k (pu_sp w)).length + 1) by omega]
        · rw [b2 t (by omega), zs_LL, if_pos rfl, pk_uLn (by omega), a2.2.2.1 37 (by decide)]
        · cases t with
          | zero => rw [pu_V_0f, Nat.add_zero, b2 made (by omega), zs_LL, if_pos rfl, pk_uLs]
          | succ t =>
            rw [List.length_cons] at ht
            rw [pu_V_sf, ← b3 t (by omega), show made + (t + 1) = made + 1 + t by omega]
      · rw [if_pos (nI_le (by omega) (by omega)), if_neg hks, if_pos rfl]
        obtain ⟨M1, a1, a2⟩ := pu_head7 M (s := s) (n := pu_sp w) (by omega) (by omega)
        rw [nI_add, pk_sub (by omega), a1, pu_b2, pu_zn (by omega) (by decide), if_pos rfl, if_pos rfl, pu_c (by omega), nI_1]
        obtain ⟨M2, b1, b2, b3, b4⟩ := ih g (k - pu_sp w) (s + pu_sp w) (w - pu_sp w) (made + 1) (sL M1 37 made (pu_head (pu_leaf (gA M 2) (gA M 3)) s (pu_sp w))) d2 (by omega) (by omega) (by omega) (by omega)
        rw [zs_AL, zs_AL, a2.2.1 2 (by decide), a2.2.1 3 (by decide)] at b3
        refine ⟨M2, ?_, fun t ht => ?_, fun t ht => ?_, ((a2.mono (by decide) (by decide) (by decide) (by decide)).sL (by decide) _ _).trans b4⟩
        · rw [show s + k = s + pu_sp w + (k - pu_sp w) by omega, b1, List.length_cons, show made + 1 + (pu_path d (k - pu_sp w) (w - pu_sp w)).length = made + ((pu_path d (k - pu_sp w) (w - pu_sp w)).length + 1) by omega]
        · rw [b2 t (by omega), zs_LL, if_pos rfl, pk_uLn (by omega), a2.2.2.1 37 (by decide)]
        · cases t with
          | zero => rw [pu_V_0t, Nat.add_zero, b2 made (by omega), zs_LL, if_pos rfl, pk_uLs]
          | succ t =>
            rw [List.length_cons] at ht
            rw [pu_V_st, ← b3 t (by omega), show made + (t + 1) = made + 1 + t by omega]
/-- the model's way to a first part -/
theorem pu_re50 : ∀ (d f j s w made : Nat) (a : Bool) (M : zSt), w ≤ 2 ^ d → 1 ≤ j → j ≤ w → s + w ≤ 160 → made + d ≤ 23 → d < f → ∃ M' : zSt, lX7_relate_50 f M (nI s) (nI w) (nI j) (if a = true then 0 else 1) (nI made) = zb1 (fX7_turnRound M' (nI (made + (pu_pathF d j w).length)) (nI (if (a || (pu_pathF d j w).any id) = true then 1 else 0))) (fun uM_1 => some (gI uM_1 35, uM_1)) ∧ (∀ t, t < made → gL M' 37 t = gL M 37 t) ∧ (∀ t, t < (pu_pathF d j w).length → gL M' 37 (made + t) = pu_V (pu_head (pu_leaf (gA M 2) (gA M 3))) (pu_pathF d j w) s w t) ∧ ((a || (pu_pathF d j w).any id) = true → gL M' 36 0 = pu_E (pu_head (pu_leaf (gA M 2) (gA M 3))) (pu_pathF d j w) s w) ∧ pu_fr [] [] [34, 36, 37] [33] M M' := by
  have h10 : ¬ (1 : Int32) = 0 := by decide

  have hend : ∀ (f j s w made : Nat) (a : Bool) (M : zSt), 1 ≤ w → s + w ≤ 160 → j = w → ∃ M' : zSt, bX7_relate_50 (lX7_relate_50 f) M (nI s) (nI w) (nI j) (if a = true then 0 else 1) (nI made) = zb1 (fX7_turnRound M' (nI made) (nI (if a = true then 1 else 0))) (fun uM_1 => some (gI uM_1 35, uM_1)) ∧ (∀ t, t < made → gL M' 37 t = gL M 37 t) ∧ (a = true → gL M' 36 0 = pu_head (pu_leaf (gA M 2) (gA M 3)) s w) ∧ pu_fr [] [] [34, 36, 37] [33] M M' := by
    intro f j s w made a M h1 hs hj
    subst hj
    unfold bX7_relate_50 bX7_relate_202 bX7_relate_215
    rw [if_pos rfl]
    cases a with
    | true =>
      obtain ⟨M1, a1, a2⟩ := pu_head7 M (s := s) (n := j) h1 hs
      rw [show (if true = true then (0 : Int32) else 1) = 0 from rfl, if_pos rfl, a1, pu_b2, if_pos rfl]
      refine ⟨_, rfl, fun t ht => ?_, fun _ => ?_, (a2.mono (by decide) (by decide) (by decide) (by decide)).sL (by decide) _ _⟩
      · rw [zs_LL, if_neg (by decide), a2.2.2.1 37 (by decide)]
      · rw [zs_LL, if_pos rfl, pk_uLs]
    | false =>
      rw [show (if false = true then (0 : Int32) else 1) = 1 from rfl, if_neg (by decide), if_neg (by decide)]
      exact ⟨M, rfl, fun _ _ => rfl, fun h => absurd h (by decide), pu_fr.refl _ _ _ _ M⟩
  intro d
  induction d with
  | zero =>
    intro f j s w made a M hw hj hk hs hm hf
    obtain ⟨g, rfl, -⟩ := pu_fu hf
    have h1 : w ≤ 1 := by simpa using hw
    obtain ⟨M', a1, a2, a3, a4⟩ := hend g j s w made a M (by omega) hs (by omega)
    refine ⟨M', ?_, a2, fun t ht => absurd ht (Nat.not_lt_zero _), ?_, a4⟩
    · show bX7_relate_50 _ _ _ _ _ _ _ = _
      rw [a1]
      unfold pu_pathF
      rw [List.any_nil, Bool.or_false]; rfl
    · unfold pu_pathF
      rw [List.any_nil, Bool.or_false]; exact a3
  | succ d ih =>
    intro f j s w made a M hw hj hk hs hm hf
    obtain ⟨g, rfl, hg⟩ := pu_fu hf
    unfold pu_pathF
    by_cases h1 : w ≤ j
    · rw [if_pos h1, List.any_nil, Bool.or_false]
      obtain ⟨M', a1, a2, a3, a4⟩ := hend g j s w made a M (by omega) hs (by omega)
      exact ⟨M', a1, a2, fun t ht => absurd ht (Nat.not_lt_zero _), a3, a4⟩
    · show ∃ M' : zSt, bX7_relate_50 _ _ _ _ _ _ _ = _ ∧ _
      unfold bX7_relate_50
      obtain ⟨c1, c2, c3⟩ := pu_sp_lt (show 2 ≤ w by omega) (by omega)
      obtain ⟨d1, d2⟩ := pu_sp_le (show 2 ≤ w by omega) (by omega) hw
      have hne : ¬ nI j = nI w := fun z => by
        have := (nI_eq (show j < 2 ^ 31 by omega) (show w < 2 ^ 31 by omega)).mp z
        omega
      rw [if_neg hne, if_neg h1, pu_part (by omega) (by omega), pu_b1]
      unfold bX7_relate_76 bX7_relate_112 bX7_relate_130 bX7_relate_131 bX7_relate_146 bX7_relate_162 bX7_relate_179
      by_cases hks : j ≤ pu_sp w
      · rw [if_neg (nI_nlt hks (by omega)), if_pos hks, if_neg (by decide)]
        obtain ⟨M1, a1, a2⟩ := pu_head7 M (s := s + pu_sp w) (n := w - pu_sp w) (by omega) (by omega)
        rw [nI_add, pk_sub (by omega), a1, pu_b2, pu_zn (by omega) (by decide), pu_c (by omega), nI_1]
        simp only [if_neg h10]
        obtain ⟨M2, b1, b2, b3, b5, b4⟩ := ih g j s (pu_sp w) (made + 1) a (sL M1 37 made (pu_head (pu_leaf (gA M 2) (gA M 3)) (s + pu_sp w) (w - pu_sp w))) d1 hj hks (by omega) (by omega) (by omega)
        rw [zs_AL, zs_AL, a2.2.1 2 (by decide), a2.2.1 3 (by decide)] at b3 b5
        have hany : (false :: pu_pathF d j (pu_sp w)).any id = (pu_pathF d j (pu_sp w)).any id := by rw [List.any_cons]; rfl
        rw [hany]
        refine ⟨M2, ?_, fun t ht => ?_, fun t ht => ?_, fun h => ?_, ((a2.mono (by decide) (by decide) (by decide) (by decide)).sL (by decide) _ _).trans b4⟩
        · rw [List.length_cons, show made + ((pu_pathF d j (pu_sp w)).length + 1) = made + 1 + (pu_pathF d j (pu_sp w)).length by omega, ← b1]
          cases a with
          | true => rw [show (if true = true then (0 : Int32) else 1) = 0 from rfl, if_pos rfl]
          | false => rw [show (if false = true then (0 : Int32) else 1) = 1 from rfl, if_neg (by decide)]
        · rw [b2 t (by omega), zs_LL, if_pos rfl, pk_uLn (by omega), a2.2.2.1 37 (by decide)]
        · cases t with
          | zero => rw [pu_V_0f, Nat.add_zero, b2 made (by omega), zs_LL, if_pos rfl, pk_uLs]
          | succ t =>
            rw [List.length_cons] at ht
            rw [pu_V_sf, ← b3 t (by omega), show made + (t + 1) = made + 1 + t by omega]
        · rw [b5 h, pu_E_f]
      · rw [if_pos (nI_lt (by omega) (by omega)), if_neg hks, if_pos rfl]
        obtain ⟨M1, a1, a2⟩ := pu_head7 M (s := s) (n := pu_sp w) (by omega) (by omega)
        rw [a1, pu_b2, pu_zn (by omega) (by decide), pu_c (by omega), nI_1]
        simp only [↓reduceIte, ite_self]
        rw [nI_add, pk_sub (show pu_sp w ≤ j by omega), pk_sub (show pu_sp w ≤ w by omega)]
        obtain ⟨M2, b1, b2, b3, b5, b4⟩ := ih g (j - pu_sp w) (s + pu_sp w) (w - pu_sp w) (made + 1) true (sL M1 37 made (pu_head (pu_leaf (gA M 2) (gA M 3)) s (pu_sp w))) d2 (by omega) (by omega) (by omega) (by omega) (by omega)
        rw [zs_AL, zs_AL, a2.2.1 2 (by decide), a2.2.1 3 (by decide)] at b3 b5
        have hany : (a || (true :: pu_pathF d (j - pu_sp w) (w - pu_sp w)).any id) = true := by rw [List.any_cons]; simp
        rw [hany]
        rw [Bool.true_or] at b1 b5
        refine ⟨M2, ?_, fun t ht => ?_, fun t ht => ?_, fun h => ?_, ((a2.mono (by decide) (by decide) (by decide) (by decide)).sL (by decide) _ _).trans b4⟩
        · rw [List.length_cons, show made + ((pu_pathF d (j - pu_sp w) (w - pu_sp w)).length + 1) = made + 1 + (pu_pathF d (j - pu_sp w) (w - pu_sp w)).length by omega, ← b1]
          rfl
        · rw [b2 t (by omega), zs_LL, if_pos rfl, pk_uLn (by omega), a2.2.2.1 37 (by decide)]
        · cases t with
          | zero => rw [pu_V_0t, Nat.add_zero, b2 made (by omega), zs_LL, if_pos rfl, pk_uLs]
          | succ t =>
            rw [List.length_cons] at ht
            rw [pu_V_st, ← b3 t (by omega), show made + (t + 1) = made + 1 + t by omega]
        · rw [b5 rfl, pu_E_t]
/-- both make the same proof of a record -/
theorem pu_prove (B R M : zSt) {k n : Nat} (hk : k < n) (hn : n ≤ 160) (e0 : gA B 0 = gA M 2) (e1 : gA B 1 = gA M 3) : ∃ (q : Nat) (B' R' M' : zSt), fX5_makeForRecord B R (nI k) (nI n) = some (nI q, B', R') ∧ lX7_prove_43 1000 M (nI k) 0 (nI n) 0 = some (nI q, M') ∧ q ≤ 24 ∧ gI R' 1 = nI q ∧ gI M' 35 = nI q ∧ (∀ i, i < q → gL R' 0 i = gL M' 36 i) ∧ pu_fr [] [] [2] [] B B' ∧ pu_fr [35] [] [34, 36, 37] [33] M M' := by
  have hp : pu_path 31 k n = pu_path 8 k n := pu_path_d 8 31 k n (by omega) (by omega) (by decide)
  have hlen := pu_path_len 8 k n
  obtain ⟨R1, a1, a2, a3, a4⟩ := pu_toR R hk (show n < 2 ^ 31 by omega)
  rw [hp] at a2 a3
  obtain ⟨B2, R2, b1, b2, b3, b4, b5, b6⟩ := pu_fill (pu_path 8 k n) 0 (by decide) (by omega) (pu_path 8 k n) 1000 0 0 n B (sI R1 1 (nI ((pu_path 8 k n).length + 0))) (by omega) (fun i hi => by rw [Nat.zero_add]) (by omega) (pu_ok1 8 k n hk (by omega)) (by omega) (by omega) (by rw [zs_II, if_pos rfl]) (by rw [zs_II, if_neg (by decide)]; exact a2) a3
  obtain ⟨M1, c1, c2, c3, c4⟩ := pu_pr43 8 1000 k 0 n 0 M (by omega) hk (by omega) (by decide) (by decide)
  rw [Nat.zero_add, Nat.zero_add] at c1
  obtain ⟨M2, d1, d2, d3, d4, d5⟩ := pu_turn (made := (pu_path 8 k n).length) (at_ := 0) (by omega) M1
  have d1' : fX7_turnRound M1 (nI (pu_path 8 k n).length) 0 = some M2 := d1
  rw [d1', pu_b1, d2, Nat.zero_add] at c1
  rw [Nat.zero_add] at d2
  have e2 : gI R2 1 = nI (pu_path 8 k n).length := by rw [b6.1 1 (by decide), zs_II, if_pos rfl, Nat.add_zero]
  refine ⟨(pu_path 8 k n).length, B2, R2, M2, ?_, c1, by omega, e2, d2, fun i hi => ?_, b5, (c4.mono (by decide) (by decide) (by decide) (by decide)).trans (d5.mono (by decide) (by decide) (by decide) (by decide))⟩
  · unfold fX5_makeForRecord fX5_fill
    have e3 : gI R1 2 + (0 : Int32) = nI ((pu_path 8 k n).length + 0) := by rw [a2]; exact nI_add _ 0
    have b1' : lX5_fill_19 1000 B (sI R1 1 (nI ((pu_path 8 k n).length + 0))) 0 0 (nI n) 0 = some (B2, R2) := b1
    rw [a1, pu_b1, e3, b1', pu_b2, e2]
  · have h1 := b2 ((pu_path 8 k n).length - 1 - i) (by omega)
    have h2 := d3 i hi
    have h3 := c3 ((pu_path 8 k n).length - 1 - i) (by omega)
    rw [show (pu_path 8 k n).length - 1 - ((pu_path 8 k n).length - 1 - i) + 0 = i by omega] at h1
    rw [Nat.zero_add] at h2 h3
    rw [h1, h2, h3, e0, e1]
/-- both make the same proof of a first part -/
theorem pu_relate (B R M : zSt) {j n : Nat} (hj : 1 ≤ j) (hk : j ≤ n) (hn : n ≤ 160) (e0 : gA B 0 = gA M 2) (e1 : gA B 1 = gA M 3) : ∃ (q : Nat) (B' R' M' : zSt), fX5_makeForFirst B R (nI j) (nI n) = some (nI q, B', R') ∧ lX7_relate_50 1000 M 0 (nI n) (nI j) 1 0 = some (nI q, M') ∧ q ≤ 24 ∧ gI R' 1 = nI q ∧ gI M' 35 = nI q ∧ (∀ i, i < q → gL R' 0 i = gL M' 36 i) ∧ pu_fr [] [] [2] [] B B' ∧ pu_fr [35] [] [34, 36, 37] [33] M M' := by
  have hp : pu_pathF 31 j n = pu_pathF 8 j n := pu_pathF_d 8 31 j n hj (by omega) (by omega) (by decide)
  have hlen := pu_pathF_len 8 j n
  obtain ⟨R1, a1, a2, a3, a4⟩ := pu_toF R hj hk (show n < 2 ^ 31 by omega)
  rw [hp] at a2 a3
  obtain ⟨bl, hbl, hbl1, hbe⟩ : ∃ bl : Nat, (if (pu_pathF 8 j n).any id = true then 1 else 0) = bl ∧ bl ≤ 1 ∧ (bl = 1 → (pu_pathF 8 j n).any id = true) := by
    by_cases h : (pu_pathF 8 j n).any id = true
    · exact ⟨1, if_pos h, by decide, fun _ => h⟩
    · exact ⟨0, if_neg h, by decide, fun h => by cases h⟩
  have hbi : (if (pu_pathF 8 j n).any id = true then (1 : Int32) else 0) = nI bl := by
    rw [← hbl]; split <;> rfl
  obtain ⟨B2, R2, b1, b2, b3, b4, b5, b6⟩ := pu_fill (pu_pathF 8 j n) bl hbl1 (by omega) (pu_pathF 8 j n) 1000 0 0 n B (sI R1 1 (nI ((pu_pathF 8 j n).length + bl))) (by omega) (fun i hi => by rw [Nat.zero_add]) (by omega) (pu_ok2 8 j n hj hk (by omega)) (by omega) (by omega) (by rw [zs_II, if_pos rfl]) (by rw [zs_II, if_neg (by decide)]; exact a2) a3
  obtain ⟨M1, c1, c2, c3, c5, c4⟩ := pu_re50 8 1000 j 0 n 0 false M (by omega) hj hk (by omega) (by decide) (by decide)
  rw [Nat.zero_add, Bool.false_or, hbl] at c1
  rw [Bool.false_or] at c5
  obtain ⟨M2, d1, d2, d3, d4, d5⟩ := pu_turn (made := (pu_pathF 8 j n).length) (at_ := bl) (by omega) M1
  rw [d1, pu_b1, d2, Nat.add_comm] at c1
  rw [Nat.add_comm] at d2
  have e2 : gI R2 1 = nI ((pu_pathF 8 j n).length + bl) := by rw [b6.1 1 (by decide), zs_II, if_pos rfl]
  refine ⟨(pu_pathF 8 j n).length + bl, B2, R2, M2, ?_, c1, by omega, e2, d2, fun i hi => ?_, b5, (c4.mono (by decide) (by decide) (by decide) (by decide)).trans (d5.mono (by decide) (by decide) (by decide) (by decide))⟩
  · unfold fX5_makeForFirst fX5_fill
    have b1' : lX5_fill_19 1000 B (sI R1 1 (nI ((pu_pathF 8 j n).length + bl))) (nI bl) 0 (nI n) 0 = some (B2, R2) := b1
    rw [a1, pu_b1, pu_below a3 (by omega), pu_b1, hbi, a2, nI_add, b1', pu_b2, e2]
  · by_cases hi0 : bl = 1 ∧ i = 0
    · obtain ⟨h1, h2⟩ := hi0
      subst h2
      rw [b3 h1, d4 0 (by omega), c5 (hbe h1), e0, e1]
    · have h1 := b2 ((pu_pathF 8 j n).length - 1 - (i - bl)) (by omega)
      have h2 := d3 (i - bl) (by omega)
      have h3 := c3 ((pu_pathF 8 j n).length - 1 - (i - bl)) (by omega)
      rw [show (pu_pathF 8 j n).length - 1 - ((pu_pathF 8 j n).length - 1 - (i - bl)) + bl = i by omega] at h1
      rw [show bl + (i - bl) = i by omega] at h2
      rw [Nat.zero_add] at h3
      rw [h1, h2, h3, e0, e1]
