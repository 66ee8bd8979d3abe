theorem q00 : ((0 : Int32) = 0) = True := by decide
theorem q10 : ((1 : Int32) = 0) = False := by decide
theorem q11 : ((1 : Int32) = 1) = True := by decide
theorem q20 : ((2 : Int32) = 0) = False := by decide
theorem q21 : ((2 : Int32) = 1) = False := by decide
theorem q22 : ((2 : Int32) = 2) = True := by decide
theorem q30 : ((3 : Int32) = 0) = False := by decide
theorem q31 : ((3 : Int32) = 1) = False := by decide
theorem q32 : ((3 : Int32) = 2) = False := by decide
theorem q33 : ((3 : Int32) = 3) = True := by decide
theorem q01 : ((0 : Int32) = 1) = False := by decide
theorem q02 : ((0 : Int32) = 2) = False := by decide
theorem q03 : ((0 : Int32) = 3) = False := by decide
theorem q12 : ((1 : Int32) = 2) = False := by decide
theorem q13 : ((1 : Int32) = 3) = False := by decide
theorem q23 : ((2 : Int32) = 3) = False := by decide
theorem p20 : ((2 : Int32) ≤ 0) = False := by decide
theorem p21 : ((2 : Int32) ≤ 1) = False := by decide
theorem p22 : ((2 : Int32) ≤ 2) = True := by decide
theorem p23 : ((2 : Int32) ≤ 3) = True := by decide
theorem in0 : fX4_in (Int32.toInt64 0) 0 3 = some 1 := by rw [in_eq2 0 (a := 0) (b := 3) rfl rfl]; rfl
theorem in1 : fX4_in (Int32.toInt64 1) 0 3 = some 1 := by rw [in_eq2 1 (a := 0) (b := 3) rfl rfl]; rfl
theorem in2 : fX4_in (Int32.toInt64 2) 0 3 = some 1 := by rw [in_eq2 2 (a := 0) (b := 3) rfl rfl]; rfl
theorem in3 : fX4_in (Int32.toInt64 3) 0 3 = some 1 := by rw [in_eq2 3 (a := 0) (b := 3) rfl rfl]; rfl
theorem in_w (x : Int32) : fX4_in (Int32.toInt64 x) (Int32.toInt64 1) (Int32.toInt64 99) = some (if 1 ≤ x.toInt ∧ x.toInt ≤ 99 then 1 else 0) := in_eq2 x rfl rfl
theorem in_h (x : Int32) : fX4_in (Int32.toInt64 x) (Int32.toInt64 1) (Int32.toInt64 9) = some (if 1 ≤ x.toInt ∧ x.toInt ≤ 9 then 1 else 0) := in_eq2 x rfl rfl
theorem in_d (x : Int32) : fX4_in (Int32.toInt64 x) (Int32.toInt64 0) (Int32.toInt64 999) = some (if 0 ≤ x.toInt ∧ x.toInt ≤ 999 then 1 else 0) := in_eq2 x rfl rfl
theorem in_l (x : Int32) : fX4_in (Int32.toInt64 x) (Int32.toInt64 0) (Int32.toInt64 1) = some (if 0 ≤ x.toInt ∧ x.toInt ≤ 1 then 1 else 0) := in_eq2 x rfl rfl
theorem wi_w (x : Int32) : fX3_within x 1 99 = some (if 1 ≤ x.toInt ∧ x.toInt ≤ 99 then 1 else 0) := within_eq2 x rfl rfl
theorem wi_h (x : Int32) : fX3_within x 1 9 = some (if 1 ≤ x.toInt ∧ x.toInt ≤ 9 then 1 else 0) := within_eq2 x rfl rfl
theorem wi_d (x : Int32) : fX3_within x 0 999 = some (if 0 ≤ x.toInt ∧ x.toInt ≤ 999 then 1 else 0) := within_eq2 x rfl rfl
theorem wi_l (x : Int32) : fX3_within x 0 1 = some (if 0 ≤ x.toInt ∧ x.toInt ≤ 1 then 1 else 0) := within_eq2 x rfl rfl
theorem P_set {c : Nat → Int32} {ca : Nat → Nat → Int32} {m : Nat → Int32} {ma : Nat → Nat → Int32} {mh : Nat → Int64} (x1 x2 : Int32) (hR : Rel c ca m ma) : ∃ (r : Int32) (a0 : Int32) (a1 : Int32) (a2 : Int32) (a3 : Int32) (b0 : Int32) (b1 : Int32) (b2 : Int32) (b3 : Int32), fX3_set x1 x2 (c 3) (c 2) (c 1) (c 4) = some (r, a0, a1, a2, a3) ∧ fX4_set x1 x2 (m 0) (m 1) (m 2) (m 3) = some (r, b0, b1, b2, b3) ∧ Rel (blI ((c 0) :: a2 :: a1 :: a0 :: a3 :: (c 5) :: (c 6) :: (c 7) :: (c 8) :: (c 9) :: (c 10) :: (c 11) :: (c 12) :: (c 13) :: (c 14) :: (c 15) :: (c 16) :: (c 17) :: (c 18) :: (c 19) :: (c 20) :: (c 21) :: (c 22) :: (c 23) :: (c 24) :: (c 25) :: (c 26) :: (c 27) :: (c 28) :: (c 29) :: (c 30) :: (c 31) :: [])) ca (blI (b0 :: b1 :: b2 :: b3 :: (m 4) :: (m 5) :: (m 6) :: (m 7) :: (m 8) :: (m 9) :: (m 10) :: (m 11) :: (m 12) :: (m 13) :: (m 14) :: (m 15) :: (m 16) :: [])) ma := by
  obtain ⟨hp, hb, hrest⟩ := id hR
  obtain ⟨w, h, d, l, n, s, fi, se, wo, wi, ro, sw, sm, ⟨b1, b2, b3, b4, b5, b6, b7, b8⟩, ⟨e1, e2, e3, e4, e5, e6⟩, ⟨m1, m2, m3, m4, m5, m6⟩, hv, hr, hri, hc, hm, hs⟩ := hb
  by_cases h0 : x1 = 0
  · subst h0
    simp only [fX3_set, fX3_settable, fX0_setting, fX0_change, fX4_set, fX4_set_j10, fX4_set_j42, fX4_set_j111, fX4_set_j126, fX4_set_j143, fX4_set_j160, fX4_set_j177, q00, q01, q02, q03, p20, in0, in_w, wi_w, bnd1_s, bnd4_s, if_true, if_false, q10, nar01, i01]
    by_cases hz : 1 ≤ x2.toInt ∧ x2.toInt ≤ 99
    · obtain ⟨j, -, hj2, hj3⟩ := b_of (x := x2) (by omega)
      simp only [hz, and_self, not_true, if_false]
      exact ⟨_, _, _, _, _, _, _, _, _, rfl, by rw [m1, ← e1], hp, ⟨j, h, d, l, n, s, fi, se, wo, wi, ro, sw, sm, ⟨by omega, by omega, b3, b4, b5, b6, b7, b8⟩, ⟨hj2, e2, e3, e4, e5, e6⟩, ⟨hj2, m2, m3, m4, m5, m6⟩, hv, hr, hri, hc, hm, hs⟩, hrest⟩
    · rw [if_pos hz, if_pos hz]
      exact ⟨_, _, _, _, _, _, _, _, _, rfl, rfl, hR⟩
  by_cases h1 : x1 = 1
  · subst h1
    simp only [fX3_set, fX3_settable, fX0_setting, fX0_change, fX4_set, fX4_set_j10, fX4_set_j42, fX4_set_j111, fX4_set_j126, fX4_set_j143, fX4_set_j160, fX4_set_j177, q10, q11, q12, q13, p21, in1, in_h, wi_h, bnd1_s, bnd4_s, if_true, if_false, nar01, i01]
    by_cases hz : 1 ≤ x2.toInt ∧ x2.toInt ≤ 9
    · obtain ⟨j, -, hj2, hj3⟩ := b_of (x := x2) (by omega)
      simp only [hz, and_self, not_true, if_false]
      exact ⟨_, _, _, _, _, _, _, _, _, rfl, by rw [m2, ← e2], hp, ⟨w, j, d, l, n, s, fi, se, wo, wi, ro, sw, sm, ⟨b1, b2, by omega, by omega, b5, b6, b7, b8⟩, ⟨e1, hj2, e3, e4, e5, e6⟩, ⟨m1, hj2, m3, m4, m5, m6⟩, hv, hr, hri, hc, hm, hs⟩, hrest⟩
    · rw [if_pos hz, if_pos hz]
      exact ⟨_, _, _, _, _, _, _, _, _, rfl, rfl, hR⟩
  by_cases h2 : x1 = 2
  · subst h2
    simp only [fX3_set, fX3_settable, fX0_setting, fX0_change, fX4_set, fX4_set_j10, fX4_set_j42, fX4_set_j111, fX4_set_j126, fX4_set_j143, fX4_set_j160, fX4_set_j177, q20, q21, q22, q23, q10, p22, in2, in_d, wi_d, bnd1_s, bnd4_s, if_true, if_false, nar01, i01]
    by_cases hz : 0 ≤ x2.toInt ∧ x2.toInt ≤ 999
    · obtain ⟨j, -, hj2, hj3⟩ := b_of (x := x2) (by omega)
      simp only [hz, and_self, not_true, if_false]
      exact ⟨_, _, _, _, _, _, _, _, _, rfl, by rw [m3, ← e3], hp, ⟨w, h, j, l, n, s, fi, se, wo, wi, ro, sw, sm, ⟨b1, b2, b3, b4, by omega, b6, b7, b8⟩, ⟨e1, e2, hj2, e4, e5, e6⟩, ⟨m1, m2, hj2, m4, m5, m6⟩, hv, hr, hri, hc, hm, hs⟩, hrest⟩
    · rw [if_pos hz, if_pos hz]
      exact ⟨_, _, _, _, _, _, _, _, _, rfl, rfl, hR⟩
  by_cases h3 : x1 = 3
  · subst h3
    simp only [fX3_set, fX3_settable, fX0_setting, fX0_change, fX4_set, fX4_set_j10, fX4_set_j42, fX4_set_j111, fX4_set_j126, fX4_set_j143, fX4_set_j160, fX4_set_j177, q30, q31, q32, q33, q10, p23, in3, in_l, wi_l, bnd1_s, bnd4_s, if_true, if_false, nar01, i01]
    by_cases hz : 0 ≤ x2.toInt ∧ x2.toInt ≤ 1
    · obtain ⟨j, -, hj2, hj3⟩ := b_of (x := x2) (by omega)
      simp only [hz, and_self, not_true, if_false]
      exact ⟨_, _, _, _, _, _, _, _, _, rfl, by rw [m4, ← e4], hp, ⟨w, h, d, j, n, s, fi, se, wo, wi, ro, sw, sm, ⟨b1, b2, b3, b4, b5, by omega, b7, b8⟩, ⟨e1, e2, e3, hj2, e5, e6⟩, ⟨m1, m2, m3, hj2, m5, m6⟩, hv, hr, hri, hc, hm, hs⟩, hrest⟩
    · rw [if_pos hz, if_pos hz]
      exact ⟨_, _, _, _, _, _, _, _, _, rfl, rfl, hR⟩
  · have hz : ¬ (0 ≤ x1.toInt ∧ x1.toInt ≤ 3) := by
      rw [b_eq] at h0 h1 h2 h3
      have a0 : (0 : Int32).toInt = 0 := rfl
      have a1 : (1 : Int32).toInt = 1 := rfl
      have a2 : (2 : Int32).toInt = 2 := rfl
      have a3 : (3 : Int32).toInt = 3 := rfl
      omega
    have hi : fX4_in (Int32.toInt64 x1) 0 3 = some 0 := by rw [in_eq2 x1 (a := 0) (b := 3) rfl rfl, if_neg hz]
    refine ⟨-2, _, _, _, _, m 0, m 1, m 2, m 3, ?_, ?_, hR⟩
    · simp only [fX3_set, fX3_settable, h0, h1, h2, h3, if_false, bnd1_s, q00, if_true]
    · simp only [fX4_set, fX4_set_j10, fX4_set_j42, h0, h1, h2, h3, if_false, bnd1_s, q00, if_true, hi]
      by_cases hq : (2 : Int32) ≤ x1
      · rw [if_pos hq]
      · rw [if_neg hq]
