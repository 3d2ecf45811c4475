/-! Pure: the law's loop ends with every script. -/
theorem la_i1 (k : Nat) : nI k + (1 : Int32) = nI (k + 1) := nI_add k 1
theorem la_i2 (k : Nat) : nI k + (2 : Int32) = nI (k + 2) := nI_add k 2
theorem la_i3 (k : Nat) : nI k + (3 : Int32) = nI (k + 3) := nI_add k 3
theorem la_i4 (k : Nat) : nI k + (4 : Int32) = nI (k + 4) := nI_add k 4
theorem la_i5 (k : Nat) : nI k + (5 : Int32) = nI (k + 5) := nI_add k 5
theorem la_i6 (k : Nat) : nI k + (6 : Int32) = nI (k + 6) := nI_add k 6
theorem la_i7 (k : Nat) : nI k + (7 : Int32) = nI (k + 7) := nI_add k 7
theorem la_z {α : Type} {k L m : Nat} (h : k + 7 ≤ L) (hm : m < 7) (hL : L ≤ 448) (X : Option α) : zin (nI (k + m)) L X = X := pu_zn (by omega) (by omega)
theorem la_z0 {α : Type} {k L : Nat} (h : k + 7 ≤ L) (hL : L ≤ 448) (X : Option α) : zin (nI k) L X = X := pu_zn (by omega) (by omega)
theorem Rel.start : Rel 0 z0 z0 z0 z0 z0 := by
  have e0 : pu_el 0 := ⟨0, by decide, rfl⟩
  refine ⟨0, ⟨by decide, rfl, rfl, rfl, rfl⟩, ⟨rfl, rfl, rfl, rfl, rfl, rfl, rfl, rfl, rfl, rfl, fun _ _ => rfl, ?_⟩, ⟨fun _ _ => ⟨0, by decide, rfl⟩, fun _ _ => e0, fun _ _ => e0, fun _ _ => e0, fun _ _ => e0, fun _ _ => e0, fun _ _ => e0⟩, ?_, ⟨0, by decide, rfl, rfl, fun i hi => absurd hi (Nat.not_lt_zero _)⟩, ⟨fun i hi => absurd hi (Nat.not_lt_zero _), fun i hi => absurd hi (Nat.not_lt_zero _)⟩, ?_⟩
  · show (0 : Int32) = pu_tm (pu_tm 0 0) 0
    rw [pu_tm_e, pu_tm_e]; decide
  · intro z
    rcases z with z | z
    · exact absurd (show (0 : Int32) = 2 from z) (by decide)
    · exact absurd (show (0 : Int32) = 3 from z) (by decide)
  · intro z
    exact absurd (show (0 : Int32) = 1 from z) (by decide)
theorem la_begin {xs : Nat → Int32} {L j : Nat} (k23 : zSt → zSt → zSt → zSt → zSt → zSt → zSt → zSt → Int32 → Option Unit) (hL : L ≤ 448) (hj : j < 64) (hl : 7 * j + 7 ≤ L) {O B P A T R M U : zSt} (h : Rel j O B P R M) (hk : ∀ O B P A T R M U : zSt, Rel (j + 1) O B P R M → bL_law_1294 k23 O B P A T R M U (nI (7 * j)) = some ()) : bL_law_136 xs L k23 O B P A T R M U (nI (7 * j)) = some () := by
  obtain ⟨r, O1, B1, P1, M1, a1, a2, a3, a5⟩ := op_begin h ((xs ((nI (7 * j + 1))).toNatClampNeg)) ((xs ((nI (7 * j + 2))).toNatClampNeg)) ((xs ((nI (7 * j + 3))).toNatClampNeg))
  unfold bL_law_136
  simp only [la_i1, la_i2, la_i3]
  simp only [la_z (k := 7 * j) (m := 1) hl (by decide) hL, la_z (k := 7 * j) (m := 2) hl (by decide) hL, la_z (k := 7 * j) (m := 3) hl (by decide) hL]
  rw [a1, pu_b4]
  try dsimp only
  rw [a2, pu_b1]
  unfold fX7_thrown
  rw [pu_b1]
  rw [if_pos a3]
  exact hk _ _ _ _ _ _ _ _ a5
theorem la_register {xs : Nat → Int32} {L j : Nat} (k23 : zSt → zSt → zSt → zSt → zSt → zSt → zSt → zSt → Int32 → Option Unit) (hL : L ≤ 448) (hj : j < 64) (hl : 7 * j + 7 ≤ L) {O B P A T R M U : zSt} (h : Rel j O B P R M) (hk : ∀ O B P A T R M U : zSt, Rel (j + 1) O B P R M → bL_law_1294 k23 O B P A T R M U (nI (7 * j)) = some ()) : bL_law_196 xs L k23 O B P A T R M U (nI (7 * j)) = some () := by
  obtain ⟨r, B1, P1, M1, a1, a2, a3, a5⟩ := op_register h ((xs ((nI (7 * j + 1))).toNatClampNeg))
  unfold bL_law_196
  simp only [la_i1]
  simp only [la_z (k := 7 * j) (m := 1) hl (by decide) hL]
  rw [a1, pu_b3]
  try dsimp only
  rw [a2, pu_b1]
  unfold fX7_thrown
  rw [pu_b1]
  rw [if_pos a3]
  exact hk _ _ _ _ _ _ _ _ a5
theorem la_cast {xs : Nat → Int32} {L j : Nat} (k23 : zSt → zSt → zSt → zSt → zSt → zSt → zSt → zSt → Int32 → Option Unit) (hL : L ≤ 448) (hj : j < 64) (hl : 7 * j + 7 ≤ L) {O B P A T R M U : zSt} (h : Rel j O B P R M) (hk : ∀ O B P A T R M U : zSt, Rel (j + 1) O B P R M → bL_law_1294 k23 O B P A T R M U (nI (7 * j)) = some ()) : bL_law_232 xs L k23 O B P A T R M U (nI (7 * j)) = some () := by
  obtain ⟨r, b, B1, P1, U1, M1, a1, a2, a3, a4, a5⟩ := op_cast h U ((xs ((nI (7 * j + 1))).toNatClampNeg)) ((xs ((nI (7 * j + 2))).toNatClampNeg)) ((xs ((nI (7 * j + 3))).toNatClampNeg))
  unfold bL_law_232
  simp only [la_i1, la_i2, la_i3]
  simp only [la_z (k := 7 * j) (m := 1) hl (by decide) hL, la_z (k := 7 * j) (m := 2) hl (by decide) hL, la_z (k := 7 * j) (m := 3) hl (by decide) hL]
  rw [a1, pu_b4]
  try dsimp only
  rw [a2, pu_b2]
  unfold fX7_thrown
  rw [pu_b1]
  try dsimp only
  rw [if_pos a3]
  by_cases hr : r = 0
  · rw [if_pos hr, if_pos (a4 hr)]; exact hk _ _ _ _ _ _ _ _ a5
  · rw [if_neg hr]; exact hk _ _ _ _ _ _ _ _ a5
theorem la_close {xs : Nat → Int32} {L j : Nat} (k23 : zSt → zSt → zSt → zSt → zSt → zSt → zSt → zSt → Int32 → Option Unit) (hL : L ≤ 448) (hj : j < 64) (hl : 7 * j + 7 ≤ L) {O B P A T R M U : zSt} (h : Rel j O B P R M) (hk : ∀ O B P A T R M U : zSt, Rel (j + 1) O B P R M → bL_law_1294 k23 O B P A T R M U (nI (7 * j)) = some ()) : bL_law_312 xs L k23 O B P A T R M U (nI (7 * j)) = some () := by
  obtain ⟨r, b, O1, B1, P1, U1, M1, a1, a2, a3, a4, a5⟩ := op_close hj h U 
  unfold bL_law_312
  rw [a1, pu_b5]
  try dsimp only
  rw [a2, pu_b2]
  unfold fX7_thrown
  rw [pu_b1]
  try dsimp only
  rw [if_pos a3]
  by_cases hr : r = 0
  · rw [if_pos hr, if_pos (a4 hr)]; exact hk _ _ _ _ _ _ _ _ a5
  · rw [if_neg hr]; exact hk _ _ _ _ _ _ _ _ a5
theorem la_mix {xs : Nat → Int32} {L j : Nat} (k23 : zSt → zSt → zSt → zSt → zSt → zSt → zSt → zSt → Int32 → Option Unit) (hL : L ≤ 448) (hj : j < 64) (hl : 7 * j + 7 ≤ L) {O B P A T R M U : zSt} (h : Rel j O B P R M) (hk : ∀ O B P A T R M U : zSt, Rel (j + 1) O B P R M → bL_law_1294 k23 O B P A T R M U (nI (7 * j)) = some ()) : bL_law_356 xs L k23 O B P A T R M U (nI (7 * j)) = some () := by
  obtain ⟨r, B1, P1, M1, a1, a2, a3, a5⟩ := op_mix h ((xs ((nI (7 * j + 1))).toNatClampNeg)) ((xs ((nI (7 * j + 2))).toNatClampNeg))
  unfold bL_law_356
  simp only [la_i1, la_i2]
  simp only [la_z (k := 7 * j) (m := 1) hl (by decide) hL, la_z (k := 7 * j) (m := 2) hl (by decide) hL]
  rw [a1, pu_b3]
  try dsimp only
  rw [a2, pu_b1]
  unfold fX7_thrown
  rw [pu_b1]
  rw [if_pos a3]
  exact hk _ _ _ _ _ _ _ _ a5
theorem la_open {xs : Nat → Int32} {L j : Nat} (k23 : zSt → zSt → zSt → zSt → zSt → zSt → zSt → zSt → Int32 → Option Unit) (hL : L ≤ 448) (hj : j < 64) (hl : 7 * j + 7 ≤ L) {O B P A T R M U : zSt} (h : Rel j O B P R M) (hk : ∀ O B P A T R M U : zSt, Rel (j + 1) O B P R M → bL_law_1294 k23 O B P A T R M U (nI (7 * j)) = some ()) : bL_law_404 xs L k23 O B P A T R M U (nI (7 * j)) = some () := by
  obtain ⟨r, O1, B1, P1, M1, a1, a2, a3, a5⟩ := op_open h ((xs ((nI (7 * j + 1))).toNatClampNeg)) ((xs ((nI (7 * j + 2))).toNatClampNeg))
  unfold bL_law_404
  simp only [la_i1, la_i2]
  simp only [la_z (k := 7 * j) (m := 1) hl (by decide) hL, la_z (k := 7 * j) (m := 2) hl (by decide) hL]
  rw [a1, pu_b4]
  try dsimp only
  rw [a2, pu_b1]
  unfold fX7_thrown
  rw [pu_b1]
  rw [if_pos a3]
  exact hk _ _ _ _ _ _ _ _ a5
theorem la_finish {xs : Nat → Int32} {L j : Nat} (k23 : zSt → zSt → zSt → zSt → zSt → zSt → zSt → zSt → Int32 → Option Unit) (hL : L ≤ 448) (hj : j < 64) (hl : 7 * j + 7 ≤ L) {O B P A T R M U : zSt} (h : Rel j O B P R M) (hk : ∀ O B P A T R M U : zSt, Rel (j + 1) O B P R M → bL_law_1294 k23 O B P A T R M U (nI (7 * j)) = some ()) : bL_law_452 xs L k23 O B P A T R M U (nI (7 * j)) = some () := by
  obtain ⟨r, b, O1, B1, P1, U1, M1, a1, a2, a3, a4, a5⟩ := op_finish h U 
  unfold bL_law_452
  rw [a1, pu_b5]
  try dsimp only
  rw [a2, pu_b2]
  unfold fX7_thrown
  rw [pu_b1]
  try dsimp only
  rw [if_pos a3]
  by_cases hr : r = 0
  · rw [if_pos hr, if_pos (a4 hr)]; exact hk _ _ _ _ _ _ _ _ a5
  · rw [if_neg hr]; exact hk _ _ _ _ _ _ _ _ a5
theorem la_phase {xs : Nat → Int32} {L j : Nat} (k23 : zSt → zSt → zSt → zSt → zSt → zSt → zSt → zSt → Int32 → Option Unit) (hL : L ≤ 448) (hj : j < 64) (hl : 7 * j + 7 ≤ L) {O B P A T R M U : zSt} (h : Rel j O B P R M) (hk : ∀ O B P A T R M U : zSt, Rel (j + 1) O B P R M → bL_law_1294 k23 O B P A T R M U (nI (7 * j)) = some ()) : bL_law_496 xs L k23 O B P A T R M U (nI (7 * j)) = some () := by
  obtain ⟨r, M1, a1, a2, a5⟩ := op_phase h 
  unfold bL_law_496
  rw [a1, pu_b1]
  try dsimp only
  rw [a2, pu_b2]
  try dsimp only
  rw [if_pos rfl]
  exact hk _ _ _ _ _ _ _ _ a5
theorem la_votes {xs : Nat → Int32} {L j : Nat} (k23 : zSt → zSt → zSt → zSt → zSt → zSt → zSt → zSt → Int32 → Option Unit) (hL : L ≤ 448) (hj : j < 64) (hl : 7 * j + 7 ≤ L) {O B P A T R M U : zSt} (h : Rel j O B P R M) (hk : ∀ O B P A T R M U : zSt, Rel (j + 1) O B P R M → bL_law_1294 k23 O B P A T R M U (nI (7 * j)) = some ()) : bL_law_509 xs L k23 O B P A T R M U (nI (7 * j)) = some () := by
  obtain ⟨r, b, U1, M1, a1, a2, a3, a4, a5⟩ := op_votes h U ((xs ((nI (7 * j + 1))).toNatClampNeg))
  unfold bL_law_509
  simp only [la_i1]
  simp only [la_z (k := 7 * j) (m := 1) hl (by decide) hL]
  rw [a1, pu_b2]
  try dsimp only
  rw [a2, pu_b2]
  unfold fX7_thrown
  rw [pu_b1]
  try dsimp only
  rw [if_pos a3]
  by_cases hr : r = 0
  · rw [if_pos hr, if_pos (a4 hr)]; exact hk _ _ _ _ _ _ _ _ a5
  · rw [if_neg hr]; exact hk _ _ _ _ _ _ _ _ a5
theorem la_records {xs : Nat → Int32} {L j : Nat} (k23 : zSt → zSt → zSt → zSt → zSt → zSt → zSt → zSt → Int32 → Option Unit) (hL : L ≤ 448) (hj : j < 64) (hl : 7 * j + 7 ≤ L) {O B P A T R M U : zSt} (h : Rel j O B P R M) (hk : ∀ O B P A T R M U : zSt, Rel (j + 1) O B P R M → bL_law_1294 k23 O B P A T R M U (nI (7 * j)) = some ()) : bL_law_565 xs L k23 O B P A T R M U (nI (7 * j)) = some () := by
  obtain ⟨r, M1, a1, a2, a5⟩ := op_records h 
  unfold bL_law_565
  rw [a1, pu_b1]
  try dsimp only
  rw [a2, pu_b2]
  try dsimp only
  rw [if_pos rfl]
  exact hk _ _ _ _ _ _ _ _ a5
theorem la_field {xs : Nat → Int32} {L j : Nat} (k23 : zSt → zSt → zSt → zSt → zSt → zSt → zSt → zSt → Int32 → Option Unit) (hL : L ≤ 448) (hj : j < 64) (hl : 7 * j + 7 ≤ L) {O B P A T R M U : zSt} (h : Rel j O B P R M) (hk : ∀ O B P A T R M U : zSt, Rel (j + 1) O B P R M → bL_law_1294 k23 O B P A T R M U (nI (7 * j)) = some ()) : bL_law_578 xs L k23 O B P A T R M U (nI (7 * j)) = some () := by
  obtain ⟨r, b, U1, M1, a1, a2, a3, a4, a5⟩ := op_field h U ((xs ((nI (7 * j + 1))).toNatClampNeg)) ((xs ((nI (7 * j + 2))).toNatClampNeg))
  unfold bL_law_578
  simp only [la_i1, la_i2]
  simp only [la_z (k := 7 * j) (m := 1) hl (by decide) hL, la_z (k := 7 * j) (m := 2) hl (by decide) hL]
  rw [a1, pu_b2]
  try dsimp only
  rw [a2, pu_b2]
  unfold fX7_thrown
  rw [pu_b1]
  try dsimp only
  rw [if_pos a3]
  by_cases hr : r = 0
  · rw [if_pos hr, if_pos (a4 hr)]; exact hk _ _ _ _ _ _ _ _ a5
  · rw [if_neg hr]; exact hk _ _ _ _ _ _ _ _ a5
theorem la_forge {xs : Nat → Int32} {L j : Nat} (k23 : zSt → zSt → zSt → zSt → zSt → zSt → zSt → zSt → Int32 → Option Unit) (hL : L ≤ 448) (hj : j < 64) (hl : 7 * j + 7 ≤ L) {O B P A T R M U : zSt} (h : Rel j O B P R M) (hk : ∀ O B P A T R M U : zSt, Rel (j + 1) O B P R M → bL_law_1294 k23 O B P A T R M U (nI (7 * j)) = some ()) : bL_law_646 xs L k23 O B P A T R M U (nI (7 * j)) = some () := by
  obtain ⟨r, b, B1, U1, M1, a1, a2, a3, a4, a5⟩ := op_forge h U ((xs ((nI (7 * j + 1))).toNatClampNeg)) ((xs ((nI (7 * j + 2))).toNatClampNeg)) ((xs ((nI (7 * j + 3))).toNatClampNeg))
  unfold bL_law_646
  simp only [la_i1, la_i2, la_i3]
  simp only [la_z (k := 7 * j) (m := 1) hl (by decide) hL, la_z (k := 7 * j) (m := 2) hl (by decide) hL, la_z (k := 7 * j) (m := 3) hl (by decide) hL]
  rw [a1, pu_b3]
  try dsimp only
  rw [a2, pu_b2]
  unfold fX7_thrown
  rw [pu_b1]
  try dsimp only
  rw [if_pos a3]
  by_cases hr : r = 0
  · rw [if_pos hr, if_pos (a4 hr)]; exact hk _ _ _ _ _ _ _ _ a5
  · rw [if_neg hr]; exact hk _ _ _ _ _ _ _ _ a5
theorem la_audit {xs : Nat → Int32} {L j : Nat} (k23 : zSt → zSt → zSt → zSt → zSt → zSt → zSt → zSt → Int32 → Option Unit) (hL : L ≤ 448) (hj : j < 64) (hl : 7 * j + 7 ≤ L) {O B P A T R M U : zSt} (h : Rel j O B P R M) (hk : ∀ O B P A T R M U : zSt, Rel (j + 1) O B P R M → bL_law_1294 k23 O B P A T R M U (nI (7 * j)) = some ()) : bL_law_726 xs L k23 O B P A T R M U (nI (7 * j)) = some () := by
  obtain ⟨r, A1, T1, M1, a1, a2, a5⟩ := op_audit h A T 
  unfold bL_law_726
  rw [a1, pu_b3]
  try dsimp only
  rw [a2, pu_b2]
  try dsimp only
  rw [if_pos rfl]
  exact hk _ _ _ _ _ _ _ _ a5
theorem la_leaf {xs : Nat → Int32} {L j : Nat} (k23 : zSt → zSt → zSt → zSt → zSt → zSt → zSt → zSt → Int32 → Option Unit) (hL : L ≤ 448) (hj : j < 64) (hl : 7 * j + 7 ≤ L) {O B P A T R M U : zSt} (h : Rel j O B P R M) (hk : ∀ O B P A T R M U : zSt, Rel (j + 1) O B P R M → bL_law_1294 k23 O B P A T R M U (nI (7 * j)) = some ()) : bL_law_739 xs L k23 O B P A T R M U (nI (7 * j)) = some () := by
  obtain ⟨r, b, U1, M1, a1, a2, a3, a4, a5⟩ := op_leaf h U ((xs ((nI (7 * j + 1))).toNatClampNeg))
  unfold bL_law_739
  simp only [la_i1]
  simp only [la_z (k := 7 * j) (m := 1) hl (by decide) hL]
  rw [a1, pu_b2]
  try dsimp only
  rw [a2, pu_b2]
  unfold fX7_thrown
  rw [pu_b1]
  try dsimp only
  rw [if_pos a3]
  by_cases hr : r = 0
  · rw [if_pos hr, if_pos (a4 hr)]; exact hk _ _ _ _ _ _ _ _ a5
  · rw [if_neg hr]; exact hk _ _ _ _ _ _ _ _ a5
theorem la_head {xs : Nat → Int32} {L j : Nat} (k23 : zSt → zSt → zSt → zSt → zSt → zSt → zSt → zSt → Int32 → Option Unit) (hL : L ≤ 448) (hj : j < 64) (hl : 7 * j + 7 ≤ L) {O B P A T R M U : zSt} (h : Rel j O B P R M) (hk : ∀ O B P A T R M U : zSt, Rel (j + 1) O B P R M → bL_law_1294 k23 O B P A T R M U (nI (7 * j)) = some ()) : bL_law_794 xs L k23 O B P A T R M U (nI (7 * j)) = some () := by
  obtain ⟨r, b, B1, U1, M1, a1, a2, a3, a4, a5⟩ := op_head h U ((xs ((nI (7 * j + 1))).toNatClampNeg))
  unfold bL_law_794
  simp only [la_i1]
  simp only [la_z (k := 7 * j) (m := 1) hl (by decide) hL]
  rw [a1, pu_b3]
  try dsimp only
  rw [a2, pu_b2]
  unfold fX7_thrown
  rw [pu_b1]
  try dsimp only
  rw [if_pos a3]
  by_cases hr : r = 0
  · rw [if_pos hr, if_pos (a4 hr)]; exact hk _ _ _ _ _ _ _ _ a5
  · rw [if_neg hr]; exact hk _ _ _ _ _ _ _ _ a5
theorem la_prove {xs : Nat → Int32} {L j : Nat} (k23 : zSt → zSt → zSt → zSt → zSt → zSt → zSt → zSt → Int32 → Option Unit) (hL : L ≤ 448) (hj : j < 64) (hl : 7 * j + 7 ≤ L) {O B P A T R M U : zSt} (h : Rel j O B P R M) (hk : ∀ O B P A T R M U : zSt, Rel (j + 1) O B P R M → bL_law_1294 k23 O B P A T R M U (nI (7 * j)) = some ()) : bL_law_849 xs L k23 O B P A T R M U (nI (7 * j)) = some () := by
  obtain ⟨r, b, B1, R1, U1, M1, a1, a2, a3, a4, a5⟩ := op_prove h U ((xs ((nI (7 * j + 1))).toNatClampNeg)) ((xs ((nI (7 * j + 2))).toNatClampNeg))
  unfold bL_law_849
  simp only [la_i1, la_i2]
  simp only [la_z (k := 7 * j) (m := 1) hl (by decide) hL, la_z (k := 7 * j) (m := 2) hl (by decide) hL]
  rw [a1, pu_b4]
  try dsimp only
  rw [a2, pu_b2]
  unfold fX7_thrown
  rw [pu_b1]
  try dsimp only
  rw [if_pos a3]
  by_cases hr : r = 0
  · rw [if_pos hr, if_pos (a4 hr)]; exact hk _ _ _ _ _ _ _ _ a5
  · rw [if_neg hr]; exact hk _ _ _ _ _ _ _ _ a5
theorem la_relate {xs : Nat → Int32} {L j : Nat} (k23 : zSt → zSt → zSt → zSt → zSt → zSt → zSt → zSt → Int32 → Option Unit) (hL : L ≤ 448) (hj : j < 64) (hl : 7 * j + 7 ≤ L) {O B P A T R M U : zSt} (h : Rel j O B P R M) (hk : ∀ O B P A T R M U : zSt, Rel (j + 1) O B P R M → bL_law_1294 k23 O B P A T R M U (nI (7 * j)) = some ()) : bL_law_917 xs L k23 O B P A T R M U (nI (7 * j)) = some () := by
  obtain ⟨r, b, B1, R1, U1, M1, a1, a2, a3, a4, a5⟩ := op_relate h U ((xs ((nI (7 * j + 1))).toNatClampNeg)) ((xs ((nI (7 * j + 2))).toNatClampNeg))
  unfold bL_law_917
  simp only [la_i1, la_i2]
  simp only [la_z (k := 7 * j) (m := 1) hl (by decide) hL, la_z (k := 7 * j) (m := 2) hl (by decide) hL]
  rw [a1, pu_b4]
  try dsimp only
  rw [a2, pu_b2]
  unfold fX7_thrown
  rw [pu_b1]
  try dsimp only
  rw [if_pos a3]
  by_cases hr : r = 0
  · rw [if_pos hr, if_pos (a4 hr)]; exact hk _ _ _ _ _ _ _ _ a5
  · rw [if_neg hr]; exact hk _ _ _ _ _ _ _ _ a5
theorem la_proof {xs : Nat → Int32} {L j : Nat} (k23 : zSt → zSt → zSt → zSt → zSt → zSt → zSt → zSt → Int32 → Option Unit) (hL : L ≤ 448) (hj : j < 64) (hl : 7 * j + 7 ≤ L) {O B P A T R M U : zSt} (h : Rel j O B P R M) (hk : ∀ O B P A T R M U : zSt, Rel (j + 1) O B P R M → bL_law_1294 k23 O B P A T R M U (nI (7 * j)) = some ()) : bL_law_985 xs L k23 O B P A T R M U (nI (7 * j)) = some () := by
  obtain ⟨r, b, U1, M1, a1, a2, a3, a4, a5⟩ := op_proof h U ((xs ((nI (7 * j + 1))).toNatClampNeg))
  unfold bL_law_985
  simp only [la_i1]
  simp only [la_z (k := 7 * j) (m := 1) hl (by decide) hL]
  rw [a1, pu_b2]
  try dsimp only
  rw [a2, pu_b2]
  unfold fX7_thrown
  rw [pu_b1]
  try dsimp only
  rw [if_pos a3]
  by_cases hr : r = 0
  · rw [if_pos hr, if_pos (a4 hr)]; exact hk _ _ _ _ _ _ _ _ a5
  · rw [if_neg hr]; exact hk _ _ _ _ _ _ _ _ a5
theorem la_shows {xs : Nat → Int32} {L j : Nat} (k23 : zSt → zSt → zSt → zSt → zSt → zSt → zSt → zSt → Int32 → Option Unit) (hL : L ≤ 448) (hj : j < 64) (hl : 7 * j + 7 ≤ L) {O B P A T R M U : zSt} (h : Rel j O B P R M) (hk : ∀ O B P A T R M U : zSt, Rel (j + 1) O B P R M → bL_law_1294 k23 O B P A T R M U (nI (7 * j)) = some ()) : bL_law_1040 xs L k23 O B P A T R M U (nI (7 * j)) = some () := by
  obtain ⟨r, R1, M1, a1, a2, a5⟩ := op_shows h ((xs ((nI (7 * j + 1))).toNatClampNeg)) ((xs ((nI (7 * j + 2))).toNatClampNeg)) (((((xs ((nI (7 * j + 3))).toNatClampNeg).toInt64) <<< ((32 : Int32).toInt64 &&& 63)) ||| (((xs ((nI (7 * j + 4))).toNatClampNeg).toInt64) &&& (4294967295 : Int64)))) (((((xs ((nI (7 * j + 5))).toNatClampNeg).toInt64) <<< ((32 : Int32).toInt64 &&& 63)) ||| (((xs ((nI (7 * j + 6))).toNatClampNeg).toInt64) &&& (4294967295 : Int64))))
  unfold bL_law_1040
  simp only [la_i1, la_i2, la_i3, la_i4, la_i5, la_i6]
  simp only [la_z (k := 7 * j) (m := 1) hl (by decide) hL, la_z (k := 7 * j) (m := 2) hl (by decide) hL, la_z (k := 7 * j) (m := 3) hl (by decide) hL, la_z (k := 7 * j) (m := 4) hl (by decide) hL, la_z (k := 7 * j) (m := 5) hl (by decide) hL, la_z (k := 7 * j) (m := 6) hl (by decide) hL]
  rw [a1, pu_b2]
  try dsimp only
  rw [a2, pu_b2]
  try dsimp only
  rw [if_pos rfl]
  exact hk _ _ _ _ _ _ _ _ a5
theorem la_continues {xs : Nat → Int32} {L j : Nat} (k23 : zSt → zSt → zSt → zSt → zSt → zSt → zSt → zSt → Int32 → Option Unit) (hL : L ≤ 448) (hj : j < 64) (hl : 7 * j + 7 ≤ L) {O B P A T R M U : zSt} (h : Rel j O B P R M) (hk : ∀ O B P A T R M U : zSt, Rel (j + 1) O B P R M → bL_law_1294 k23 O B P A T R M U (nI (7 * j)) = some ()) : bL_law_1167 xs L k23 O B P A T R M U (nI (7 * j)) = some () := by
  obtain ⟨r, R1, M1, a1, a2, a5⟩ := op_continues h ((xs ((nI (7 * j + 1))).toNatClampNeg)) ((xs ((nI (7 * j + 2))).toNatClampNeg)) (((((xs ((nI (7 * j + 3))).toNatClampNeg).toInt64) <<< ((32 : Int32).toInt64 &&& 63)) ||| (((xs ((nI (7 * j + 4))).toNatClampNeg).toInt64) &&& (4294967295 : Int64)))) (((((xs ((nI (7 * j + 5))).toNatClampNeg).toInt64) <<< ((32 : Int32).toInt64 &&& 63)) ||| (((xs ((nI (7 * j + 6))).toNatClampNeg).toInt64) &&& (4294967295 : Int64))))
  unfold bL_law_1167
  simp only [la_i1, la_i2, la_i3, la_i4, la_i5, la_i6]
  simp only [la_z (k := 7 * j) (m := 1) hl (by decide) hL, la_z (k := 7 * j) (m := 2) hl (by decide) hL, la_z (k := 7 * j) (m := 3) hl (by decide) hL, la_z (k := 7 * j) (m := 4) hl (by decide) hL, la_z (k := 7 * j) (m := 5) hl (by decide) hL, la_z (k := 7 * j) (m := 6) hl (by decide) hL]
  rw [a1, pu_b2]
  try dsimp only
  rw [a2, pu_b2]
  try dsimp only
  rw [if_pos rfl]
  exact hk _ _ _ _ _ _ _ _ a5
theorem Rel.next {j : Nat} {O B P R M : zSt} (h : Rel j O B P R M) : Rel (j + 1) O B P R M := h.same (pu_fr.refl _ _ _ _ B) (pu_fr.refl _ _ _ _ R) (pu_fr.refl _ _ _ _ M)
theorem la_loop (xs : Nat → Int32) (L : Nat) (hL : L ≤ 448) : ∀ (d f j : Nat) (O B P A T R M U : zSt), j + d = 64 → d < f → Rel j O B P R M → lL_law_23 xs L f O B P A T R M U (nI (7 * j)) = some () := by
  intro d
  induction d with
  | zero =>
    intro f j O B P A T R M U hj hf h
    obtain ⟨g, rfl, -⟩ := pu_fu hf
    show bL_law_23 xs L _ O B P A T R M U _ = _
    unfold bL_law_23
    by_cases hq : Int32.ofNat L - 7 < nI (7 * j)
    · rw [if_pos hq]
    · have := z_j rfl (show 7 * j ≤ 448 by omega) hL hq
      omega
  | succ d ih =>
    intro f j O B P A T R M U hj hf h
    obtain ⟨g, rfl, hg⟩ := pu_fu hf
    show bL_law_23 xs L _ O B P A T R M U _ = _
    unfold bL_law_23
    by_cases hq : Int32.ofNat L - 7 < nI (7 * j)
    · rw [if_pos hq]
    obtain ⟨hj64, hl⟩ := z_j rfl (show 7 * j ≤ 448 by omega) hL hq
    have hk : ∀ O B P A T R M U : zSt, Rel (j + 1) O B P R M → bL_law_1294 (lL_law_23 xs L g) O B P A T R M U (nI (7 * j)) = some () := fun O B P A T R M U hr => by
      unfold bL_law_1294
      rw [la_i7]
      exact ih g (j + 1) O B P A T R M U (by omega) (by omega) hr
    rw [if_neg hq, la_z0 hl hL]
    by_cases c0 : xs (nI (7 * j)).toNatClampNeg &&& 31 = 0
    · rw [if_pos c0]; exact la_begin _ hL hj64 hl h hk
    rw [if_neg c0]
    by_cases c1 : xs (nI (7 * j)).toNatClampNeg &&& 31 = 1
    · rw [if_pos c1]; exact la_register _ hL hj64 hl h hk
    rw [if_neg c1]
    by_cases c2 : xs (nI (7 * j)).toNatClampNeg &&& 31 = 2
    · rw [if_pos c2]; exact la_cast _ hL hj64 hl h hk
    rw [if_neg c2]
    by_cases c3 : xs (nI (7 * j)).toNatClampNeg &&& 31 = 3
    · rw [if_pos c3]; exact la_close _ hL hj64 hl h hk
    rw [if_neg c3]
    by_cases c4 : xs (nI (7 * j)).toNatClampNeg &&& 31 = 4
    · rw [if_pos c4]; exact la_mix _ hL hj64 hl h hk
    rw [if_neg c4]
    by_cases c5 : xs (nI (7 * j)).toNatClampNeg &&& 31 = 5
    · rw [if_pos c5]; exact la_open _ hL hj64 hl h hk
    rw [if_neg c5]
    by_cases c6 : xs (nI (7 * j)).toNatClampNeg &&& 31 = 6
    · rw [if_pos c6]; exact la_finish _ hL hj64 hl h hk
    rw [if_neg c6]
    by_cases c7 : xs (nI (7 * j)).toNatClampNeg &&& 31 = 7
    · rw [if_pos c7]; exact la_phase _ hL hj64 hl h hk
    rw [if_neg c7]
    by_cases c8 : xs (nI (7 * j)).toNatClampNeg &&& 31 = 8
    · rw [if_pos c8]; exact la_votes _ hL hj64 hl h hk
    rw [if_neg c8]
    by_cases c9 : xs (nI (7 * j)).toNatClampNeg &&& 31 = 9
    · rw [if_pos c9]; exact la_records _ hL hj64 hl h hk
    rw [if_neg c9]
    by_cases c10 : xs (nI (7 * j)).toNatClampNeg &&& 31 = 10
    · rw [if_pos c10]; exact la_field _ hL hj64 hl h hk
    rw [if_neg c10]
    by_cases c11 : xs (nI (7 * j)).toNatClampNeg &&& 31 = 11
    · rw [if_pos c11]; exact la_forge _ hL hj64 hl h hk
    rw [if_neg c11]
    by_cases c12 : xs (nI (7 * j)).toNatClampNeg &&& 31 = 12
    · rw [if_pos c12]; exact la_audit _ hL hj64 hl h hk
    rw [if_neg c12]
    by_cases c13 : xs (nI (7 * j)).toNatClampNeg &&& 31 = 13
    · rw [if_pos c13]; exact la_leaf _ hL hj64 hl h hk
    rw [if_neg c13]
    by_cases c14 : xs (nI (7 * j)).toNatClampNeg &&& 31 = 14
    · rw [if_pos c14]; exact la_head _ hL hj64 hl h hk
    rw [if_neg c14]
    by_cases c15 : xs (nI (7 * j)).toNatClampNeg &&& 31 = 15
    · rw [if_pos c15]; exact la_prove _ hL hj64 hl h hk
    rw [if_neg c15]
    by_cases c16 : xs (nI (7 * j)).toNatClampNeg &&& 31 = 16
    · rw [if_pos c16]; exact la_relate _ hL hj64 hl h hk
    rw [if_neg c16]
    by_cases c17 : xs (nI (7 * j)).toNatClampNeg &&& 31 = 17
    · rw [if_pos c17]; exact la_proof _ hL hj64 hl h hk
    rw [if_neg c17]
    by_cases c18 : xs (nI (7 * j)).toNatClampNeg &&& 31 = 18
    · rw [if_pos c18]; exact la_shows _ hL hj64 hl h hk
    rw [if_neg c18]
    by_cases c19 : xs (nI (7 * j)).toNatClampNeg &&& 31 = 19
    · rw [if_pos c19]; exact la_continues _ hL hj64 hl h hk
    rw [if_neg c19]
    exact hk _ _ _ _ _ _ _ _ h.next
theorem la_pure (xs : Nat → Int32) (L : Nat) (hL : L ≤ 448) : lL_law_23 xs L 1000 z0 z0 z0 z0 z0 z0 z0 z0 0 = some () :=
  la_loop xs L hL 64 1000 0 z0 z0 z0 z0 z0 z0 z0 z0 rfl (by decide) Rel.start
