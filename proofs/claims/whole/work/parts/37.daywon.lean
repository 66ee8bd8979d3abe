theorem b_cases4 {x : Int32} (h : 0 ≤ x.toInt ∧ x.toInt ≤ 3) : x = nI 0 ∨ x = nI 1 ∨ x = nI 2 ∨ x = nI 3 := by
  obtain ⟨j, -, hj, hj2⟩ := b_of h.1
  have : j = 0 ∨ j = 1 ∨ j = 2 ∨ j = 3 := by omega
  rcases this with rfl | rfl | rfl | rfl
  · exact Or.inl hj
  · exact Or.inr (Or.inl hj)
  · exact Or.inr (Or.inr (Or.inl hj))
  · exact Or.inr (Or.inr (Or.inr hj))
theorem has_c {j : Nat} (hj : j < 4) (a b c d : Int32) : fX2_has (nI j) d c b a = some (if j = 0 then a else if j = 1 then b else if j = 2 then c else d) := by
  have : j = 0 ∨ j = 1 ∨ j = 2 ∨ j = 3 := by omega
  rcases this with rfl | rfl | rfl | rfl <;> rfl
theorem P_day {c : Nat → Int32} {ca : Nat → Nat → Int32} {m : Nat → Int32} {ma : Nat → Nat → Int32} {mh : Nat → Int64} (x1 : Int32) (hR : Rel c ca m ma) : ∃ (r : Int32) (a0 : Int32) (a1 : Int32) (a2 : Int32) (a3 : Int32) (a4 : Int32) (a5 : Int32) (b0 : Int32) (b1 : Int32) (b2 : Int32) (b3 : Int32) (b4 : Nat → Int32) (b5 : Nat → Int32) (b6 : Nat → Int64), fX3_day x1 (c 1) (c 2) (c 3) (c 22) (c 23) (c 24) (c 25) (c 26) (c 27) (c 5) (c 4) (ca 5) (ca 1) (ca 2) (ca 3) (ca 4) = some (r, a0, a1, a2, a3, a4, a5) ∧ fX4_day x1 (m 4) (m 11) (m 0) (m 1) (m 2) (m 12) (m 13) (m 14) (m 3) (ma 4) (ma 8) (ma 9) mh (ma 0) (ma 1) (ma 3) (ma 2) = some (r, b0, b1, b2, b3, b4, b5, b6) ∧ Rel (blI ((c 0) :: (c 1) :: (c 2) :: (c 3) :: (c 4) :: (c 5) :: (c 6) :: (c 7) :: (c 8) :: (c 9) :: (c 10) :: (c 11) :: (c 12) :: (c 13) :: (c 14) :: (c 15) :: (c 16) :: (c 17) :: (c 18) :: (c 19) :: (c 20) :: (c 21) :: a0 :: a1 :: a2 :: a3 :: a4 :: a5 :: (c 28) :: (c 29) :: (c 30) :: (c 31) :: [])) ca (blI ((m 0) :: (m 1) :: (m 2) :: (m 3) :: (m 4) :: (m 5) :: (m 6) :: (m 7) :: (m 8) :: (m 9) :: (m 10) :: b0 :: b1 :: b2 :: b3 :: (m 15) :: (m 16) :: [])) (blA ((ma 0) :: (ma 1) :: (ma 2) :: (ma 3) :: (ma 4) :: (ma 5) :: (ma 6) :: (ma 7) :: b4 :: b5 :: (ma 10) :: (ma 11) :: (ma 12) :: (ma 13) :: (ma 14) :: (ma 15) :: [])) := by
  obtain ⟨hp, hb, hrest⟩ := id hR
  obtain ⟨w, h, d, l, n, s, fi, se, wo, wi, ro, sw, sm, ⟨b1, b2, b3, b4, b5, b6, b7, b8⟩, ⟨e1, e2, e3, e4, e5, e6⟩, ⟨m1, m2, m3, m4, m5, m6⟩, hv, hr, hri, hc, hm, hs⟩ := hb
  have hV : VB n fi se wo wi ro := ⟨b7, hv, hr⟩
  have hS := sit_c hV hc b6 b2 ⟨b3, b4⟩ b5
  obtain ⟨b, e, z, g1, g2⟩ := goDay_m hV hm b6 b2 ⟨b3, b4⟩ b5 (by' := ma 8) (ex' := ma 9) (has := mh)
  have hF := floats_c (d := d) b2 ⟨b3, b4⟩
  rw [← e1, ← e2, ← e3] at hF
  rw [← e1, ← e2, ← e3, ← e4, ← e5] at hS
  rw [← m1, ← m2, ← m3, ← m4, ← m5] at g1
  unfold fX3_day fX4_day
  rw [within_eq2 x1 (a := 0) (b := 2) rfl rfl, in_eq2 x1 (a := 0) (b := 2) rfl rfl, bnd1_s, bnd1_s]
  by_cases hin : 0 ≤ x1.toInt ∧ x1.toInt ≤ 2
  · simp only [if01_t hin]
    rw [hS, g1, hF]
    simp only [bnd1_s, bnd6_s, bnd7_s]
    by_cases h0 : x1 = 0
    · simp only [if_pos h0]
      exact ⟨_, _, _, _, _, _, _, _, _, _, _, _, _, _, rfl, rfl, hR⟩
    · simp only [if_neg h0]
      by_cases h1 : x1 = 1
      · simp only [if_pos h1]
        exact ⟨_, _, _, _, _, _, _, _, _, _, _, _, _, _, rfl, rfl, hR⟩
      · simp only [if_neg h1]
        exact ⟨_, _, _, _, _, _, _, _, _, _, _, _, _, _, rfl, rfl, hR⟩
  · simp only [if01_f hin]
    exact ⟨_, _, _, _, _, _, _, _, _, _, _, _, _, _, rfl, rfl, hR⟩
theorem P_won {c : Nat → Int32} {ca : Nat → Nat → Int32} {m : Nat → Int32} {ma : Nat → Nat → Int32} {mh : Nat → Int64} (x1 : Int32) (hR : Rel c ca m ma) : ∃ (r : Int32) (a0 : Int32) (a1 : Int32) (a2 : Int32) (a3 : Int32) (a4 : Int32) (a5 : Int32) (b0 : Int32) (b1 : Int32) (b2 : Int32) (b3 : Int32) (b4 : Nat → Int32) (b5 : Nat → Int32) (b6 : Nat → Int64), fX3_won x1 (c 1) (c 2) (c 3) (c 22) (c 23) (c 24) (c 25) (c 26) (c 27) (c 5) (c 4) (ca 5) (ca 1) (ca 2) (ca 3) (ca 4) = some (r, a0, a1, a2, a3, a4, a5) ∧ fX4_won x1 (m 4) (m 11) (m 0) (m 1) (m 2) (m 12) (m 13) (m 14) (m 3) (ma 4) (ma 8) (ma 9) mh (ma 0) (ma 1) (ma 3) (ma 2) = some (r, b0, b1, b2, b3, b4, b5, b6) ∧ Rel (blI ((c 0) :: (c 1) :: (c 2) :: (c 3) :: (c 4) :: (c 5) :: (c 6) :: (c 7) :: (c 8) :: (c 9) :: (c 10) :: (c 11) :: (c 12) :: (c 13) :: (c 14) :: (c 15) :: (c 16) :: (c 17) :: (c 18) :: (c 19) :: (c 20) :: (c 21) :: a0 :: a1 :: a2 :: a3 :: a4 :: a5 :: (c 28) :: (c 29) :: (c 30) :: (c 31) :: [])) ca (blI ((m 0) :: (m 1) :: (m 2) :: (m 3) :: (m 4) :: (m 5) :: (m 6) :: (m 7) :: (m 8) :: (m 9) :: (m 10) :: b0 :: b1 :: b2 :: b3 :: (m 15) :: (m 16) :: [])) (blA ((ma 0) :: (ma 1) :: (ma 2) :: (ma 3) :: (ma 4) :: (ma 5) :: (ma 6) :: (ma 7) :: b4 :: b5 :: (ma 10) :: (ma 11) :: (ma 12) :: (ma 13) :: (ma 14) :: (ma 15) :: [])) := by
  obtain ⟨hp, hb, hrest⟩ := id hR
  obtain ⟨w, h, d, l, n, s, fi, se, wo, wi, ro, sw, sm, ⟨b1, b2, b3, b4, b5, b6, b7, b8⟩, ⟨e1, e2, e3, e4, e5, e6⟩, ⟨m1, m2, m3, m4, m5, m6⟩, hv, hr, hri, hc, hm, hs⟩ := hb
  have hV : VB n fi se wo wi ro := ⟨b7, hv, hr⟩
  have hS := sit_c hV hc b6 b2 ⟨b3, b4⟩ b5
  obtain ⟨b, e, z, g1, g2⟩ := goDay_m hV hm b6 b2 ⟨b3, b4⟩ b5 (by' := ma 8) (ex' := ma 9) (has := mh)
  rw [← e1, ← e2, ← e3, ← e4, ← e5] at hS
  rw [← m1, ← m2, ← m3, ← m4, ← m5] at g1
  unfold fX3_won fX4_won
  rw [isSide_c x1, isSide_m x1, bnd1_s, bnd1_s]
  by_cases hin : 0 ≤ x1.toInt ∧ x1.toInt ≤ 3
  · simp only [if01_t hin]
    rw [hS, g1]
    simp only [bnd6_s, bnd7_s]
    obtain ⟨j, hj4, hj, hj2⟩ := b_of hin.1
    have hj3 : j < 4 := by omega
    rw [hj, has_c hj3, bnd1_s, if_pos (nI_inF hj3 (by omega)), nI_clamp (by omega), g2 j hj3, lN_i]
    have hk : j = 0 ∨ j = 1 ∨ j = 2 ∨ j = 3 := by omega
    rcases hk with rfl | rfl | rfl | rfl <;> exact ⟨_, _, _, _, _, _, _, _, _, _, _, _, _, _, rfl, rfl, hR⟩
  · simp only [if01_f hin]
    exact ⟨_, _, _, _, _, _, _, _, _, _, _, _, _, _, rfl, rfl, hR⟩
