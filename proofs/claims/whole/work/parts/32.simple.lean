theorem P_wipe {c : Nat → Int32} {ca : Nat → Nat → Int32} {m : Nat → Int32} {ma : Nat → Nat → Int32} {mh : Nat → Int64} (hR : Rel c ca m ma) : ∃ (r : Int32) (a0 : Int32) (b0 : Int32), fX3_wipe (c 0) = some (r, a0) ∧ fX4_wipe (m 6) = some (r, b0) ∧ Rel (blI (a0 :: (c 1) :: (c 2) :: (c 3) :: (c 4) :: (c 5) :: (c 6) :: (c 7) :: (c 8) :: (c 9) :: (c 10) :: (c 11) :: (c 12) :: (c 13) :: (c 14) :: (c 15) :: (c 16) :: (c 17) :: (c 18) :: (c 19) :: (c 20) :: (c 21) :: (c 22) :: (c 23) :: (c 24) :: (c 25) :: (c 26) :: (c 27) :: (c 28) :: (c 29) :: (c 30) :: (c 31) :: [])) ca (blI ((m 0) :: (m 1) :: (m 2) :: (m 3) :: (m 4) :: (m 5) :: b0 :: (m 7) :: (m 8) :: (m 9) :: (m 10) :: (m 11) :: (m 12) :: (m 13) :: (m 14) :: (m 15) :: (m 16) :: [])) ma := by
  obtain ⟨hp, hrest⟩ := id hR
  obtain ⟨k, g, hk, ec, em, hg⟩ := hp
  exact ⟨c 0, 0, 0, rfl, by rw [ec, ← em]; rfl, ⟨0, g, by omega, rfl, rfl, fun j h => absurd h (Nat.not_lt_zero j)⟩, hrest⟩
theorem P_forget {c : Nat → Int32} {ca : Nat → Nat → Int32} {m : Nat → Int32} {ma : Nat → Nat → Int32} {mh : Nat → Int64} (hR : Rel c ca m ma) : ∃ (r : Int32) (a0 : Int32) (b0 : Int32), fX3_forget (c 6) = some (r, a0) ∧ fX4_forget (m 5) = some (r, b0) ∧ Rel (blI ((c 0) :: (c 1) :: (c 2) :: (c 3) :: (c 4) :: (c 5) :: a0 :: (c 7) :: (c 8) :: (c 9) :: (c 10) :: (c 11) :: (c 12) :: (c 13) :: (c 14) :: (c 15) :: (c 16) :: (c 17) :: (c 18) :: (c 19) :: (c 20) :: (c 21) :: (c 22) :: (c 23) :: (c 24) :: (c 25) :: (c 26) :: (c 27) :: (c 28) :: (c 29) :: (c 30) :: (c 31) :: [])) ca (blI ((m 0) :: (m 1) :: (m 2) :: (m 3) :: (m 4) :: b0 :: (m 6) :: (m 7) :: (m 8) :: (m 9) :: (m 10) :: (m 11) :: (m 12) :: (m 13) :: (m 14) :: (m 15) :: (m 16) :: [])) ma := by
  obtain ⟨hp, hb, hrest⟩ := id hR
  obtain ⟨w, h, d, l, n, s, fi, se, wo, wi, ro, sw, sm, ⟨b1, b2, b3, b4, b5, b6, b7, b8⟩, ⟨e1, e2, e3, e4, e5, e6⟩, ⟨m1, m2, m3, m4, m5, m6⟩, hv, hr, hri, hc, hm, hs⟩ := hb
  exact ⟨c 6, 0, 0, rfl, by rw [e6, ← m6]; rfl, hp, ⟨w, h, d, l, n, 0, fi, se, wo, wi, ro, sw, sm, ⟨b1, b2, b3, b4, b5, b6, b7, by omega⟩, ⟨e1, e2, e3, e4, e5, rfl⟩, ⟨m1, m2, m3, m4, m5, rfl⟩, hv, hr, hri, hc, hm, fun k h => absurd h (Nat.not_lt_zero k)⟩, hrest⟩
theorem told_m {x : Int32} {n : Nat} (hn : n ≤ 6) : fX4_in (Int32.toInt64 x) 10 (Int32.toInt64 (9 + nI n)) = some (if 10 ≤ x.toInt ∧ x.toInt ≤ (n : Int) + 9 then 1 else 0) :=
  in_eq2 x (a := 10) (b := (n : Int) + 9) rfl (by
    rw [Int32.toInt_toInt64, b_add, b_nI (by omega)]
    · show (9 : Int) + n = _; omega
    · rw [b_nI (by omega)]; show _ ≤ (9 : Int) + n; omega
    · rw [b_nI (by omega)]; show (9 : Int) + n < _; omega)
theorem told_c {x : Int32} {n : Nat} (hn : n ≤ 6) : fX3_within x 10 (9 + nI n) = some (if 10 ≤ x.toInt ∧ x.toInt ≤ (n : Int) + 9 then 1 else 0) :=
  within_eq2 x (a := 10) (b := (n : Int) + 9) rfl (by
    rw [b_add, b_nI (by omega)]
    · show (9 : Int) + n = _; omega
    · rw [b_nI (by omega)]; show _ ≤ (9 : Int) + n; omega
    · rw [b_nI (by omega)]; show (9 : Int) + n < _; omega)
theorem P_told {c : Nat → Int32} {ca : Nat → Nat → Int32} {m : Nat → Int32} {ma : Nat → Nat → Int32} {mh : Nat → Int64} (x1 : Int32) (hR : Rel c ca m ma) : ∃ (r : Int32), fX3_told x1 (c 6) (c 5) (c 4) (c 3) (c 2) (c 1) (c 0) (ca 5) = some r ∧ fX4_told x1 (m 4) (m 5) (m 3) (m 2) (m 1) (m 0) (m 6) (ma 4) = some r ∧ Rel c ca m ma := by
  obtain ⟨hp, hb, hrest⟩ := id hR
  obtain ⟨w, h, d, l, n, s, fi, se, wo, wi, ro, sw, sm, ⟨b1, b2, b3, b4, b5, b6, b7, b8⟩, ⟨e1, e2, e3, e4, e5, e6⟩, ⟨m1, m2, m3, m4, m5, m6⟩, hv, hr, hri, hc, hm, hs⟩ := hb
  obtain ⟨k, g, hk, ec, em, hg⟩ := hp
  unfold fX3_told fX4_told
  rw [e1, e2, e3, e4, e5, e6, ec, m1, m2, m3, m4, m5, m6, em, told_c b7, told_m b7, bnd1_eq rfl, bnd1_eq rfl]
  by_cases hin : 10 ≤ x1.toInt ∧ x1.toInt ≤ (n : Int) + 9
  · obtain ⟨j, hj, hj2⟩ : ∃ j : Nat, j < n ∧ x1 = nI (10 + j) := ⟨(x1.toInt - 10).toNat, by omega, by rw [b_eq, b_nI (by omega)]; omega⟩
    have ht : x1.toInt = 10 + (j : Int) := by rw [hj2, b_nI (by omega)]; omega
    have hs10 : x1 - 10 = nI j := by rw [hj2, show (10 : Int32) = nI 10 from rfl, pk_sub (by omega)]; congr 1; omega
    refine ⟨nI (ro j), ?_, ?_, hR⟩
    · rw [if_neg (b_ne (z := 0) rfl (by omega)), if_neg (b_ne (z := 1) rfl (by omega)), if_neg (b_ne (z := 2) rfl (by omega)), if_neg (b_ne (z := 3) rfl (by omega)), if_neg (b_ne (z := 4) rfl (by omega)), if_neg (b_ne (z := 5) rfl (by omega)), if_neg (b_ne (z := 6) rfl (by omega)), if01_t hin, hs10, at_nI (by omega) (by omega), bnd1_eq rfl, (hc j hj).2.2.2.2]
    · rw [if01_t hin, hs10, if_pos (nI_in (by omega) (by omega)), nI_clamp (by omega), (hm j hj).2.2.2.2]
  · simp only [if01_f hin]
    by_cases h0 : x1 = 0
    · exact ⟨_, by rw [if_pos h0], by rw [if_pos h0], hR⟩
    simp only [if_neg h0]
    by_cases h1 : x1 = 1
    · exact ⟨_, by rw [if_pos h1], by rw [if_pos h1], hR⟩
    simp only [if_neg h1]
    by_cases h2 : x1 = 2
    · exact ⟨_, by rw [if_pos h2], by rw [if_pos h2], hR⟩
    simp only [if_neg h2]
    by_cases h3 : x1 = 3
    · exact ⟨_, by rw [if_pos h3], by rw [if_pos h3], hR⟩
    simp only [if_neg h3]
    by_cases h4 : x1 = 4
    · exact ⟨_, by rw [if_pos h4], by rw [if_pos h4], hR⟩
    simp only [if_neg h4]
    by_cases h5 : x1 = 5
    · exact ⟨_, by rw [if_pos h5], by rw [if_pos h5], hR⟩
    simp only [if_neg h5]
    by_cases h6 : x1 = 6
    · exact ⟨_, by rw [if_pos h6], by rw [if_pos h6], hR⟩
    simp only [if_neg h6]
    exact ⟨_, rfl, rfl, hR⟩
theorem P_suit {c : Nat → Int32} {ca : Nat → Nat → Int32} {m : Nat → Int32} {ma : Nat → Nat → Int32} {mh : Nat → Int64} (x1 x2 : Int32) (hR : Rel c ca m ma) : ∃ (r : Int32), fX3_suit x1 x2 (c 5) (ca 4) (ca 3) (ca 2) (ca 1) = some r ∧ fX4_suit x1 x2 (m 4) (ma 3) (ma 2) (ma 1) (ma 0) = some r ∧ Rel c ca m ma := by
  obtain ⟨hp, hb, hrest⟩ := id hR
  obtain ⟨w, h, d, l, n, s, fi, se, wo, wi, ro, sw, sm, ⟨b1, b2, b3, b4, b5, b6, b7, b8⟩, ⟨e1, e2, e3, e4, e5, e6⟩, ⟨m1, m2, m3, m4, m5, m6⟩, hv, hr, hri, hc, hm, hs⟩ := hb
  unfold fX3_suit fX4_suit
  rw [e5, m5, isSuit_c x1 b7, isSuit_m x1 b7, bnd1_eq rfl, bnd1_eq rfl]
  by_cases hin : 0 ≤ x1.toInt ∧ x1.toInt ≤ (n : Int) - 1
  · simp only [if01_t hin]
    obtain ⟨j, -, hj2, hj3⟩ := b_of hin.1
    have hj : j < n := by omega
    rw [hj2, at_nI (by omega) (by omega), at_nI (by omega) (by omega), at_nI (by omega) (by omega), at_nI (by omega) (by omega), if_pos (nI_in (by omega) (by omega)), if_pos (nI_in (by omega) (by omega)), if_pos (nI_in (by omega) (by omega)), if_pos (nI_in (by omega) (by omega)), nI_clamp (by omega)]
    obtain ⟨c1, c2, c3, c4, -⟩ := hc j hj
    obtain ⟨d1, d2, d3, d4, -⟩ := hm j hj
    rw [c1, c2, c3, c4, d1, d2, d3, d4, bnd1_eq rfl, bnd1_eq rfl, bnd1_eq rfl, bnd1_eq rfl]
    by_cases h0 : x2 = 0
    · exact ⟨_, by rw [if_pos h0], by rw [if_pos h0], hR⟩
    simp only [if_neg h0]
    by_cases h1 : x2 = 1
    · exact ⟨_, by rw [if_pos h1], by rw [if_pos h1], hR⟩
    simp only [if_neg h1]
    by_cases h2 : x2 = 2
    · exact ⟨_, by rw [if_pos h2], by rw [if_pos h2], hR⟩
    simp only [if_neg h2]
    by_cases h3 : x2 = 3
    · exact ⟨_, by rw [if_pos h3], by rw [if_pos h3], hR⟩
    simp only [if_neg h3]
    exact ⟨_, rfl, rfl, hR⟩
  · exact ⟨-1, by simp only [if01_f hin], by simp only [if01_f hin], hR⟩
theorem P_say {c : Nat → Int32} {ca : Nat → Nat → Int32} {m : Nat → Int32} {ma : Nat → Nat → Int32} {mh : Nat → Int64} (x1 : Int32) (hR : Rel c ca m ma) : ∃ (r : Int32) (a0 : Int32) (a1 : Nat → Int32) (b0 : Int32) (b1 : Nat → Int32), fX3_say x1 (c 0) (ca 0) = some (r, a0, a1) ∧ fX4_say x1 (m 6) (ma 7) = some (r, b0, b1) ∧ Rel (blI (a0 :: (c 1) :: (c 2) :: (c 3) :: (c 4) :: (c 5) :: (c 6) :: (c 7) :: (c 8) :: (c 9) :: (c 10) :: (c 11) :: (c 12) :: (c 13) :: (c 14) :: (c 15) :: (c 16) :: (c 17) :: (c 18) :: (c 19) :: (c 20) :: (c 21) :: (c 22) :: (c 23) :: (c 24) :: (c 25) :: (c 26) :: (c 27) :: (c 28) :: (c 29) :: (c 30) :: (c 31) :: [])) (blA (a1 :: (ca 1) :: (ca 2) :: (ca 3) :: (ca 4) :: (ca 5) :: (ca 6) :: (ca 7) :: (ca 8) :: (ca 9) :: (ca 10) :: (ca 11) :: (ca 12) :: (ca 13) :: (ca 14) :: (ca 15) :: (ca 16) :: (ca 17) :: (ca 18) :: (ca 19) :: (ca 20) :: (ca 21) :: (ca 22) :: (ca 23) :: (ca 24) :: (ca 25) :: (ca 26) :: (ca 27) :: [])) (blI ((m 0) :: (m 1) :: (m 2) :: (m 3) :: (m 4) :: (m 5) :: b0 :: (m 7) :: (m 8) :: (m 9) :: (m 10) :: (m 11) :: (m 12) :: (m 13) :: (m 14) :: (m 15) :: (m 16) :: [])) (blA ((ma 0) :: (ma 1) :: (ma 2) :: (ma 3) :: (ma 4) :: (ma 5) :: (ma 6) :: b1 :: (ma 8) :: (ma 9) :: (ma 10) :: (ma 11) :: (ma 12) :: (ma 13) :: (ma 14) :: (ma 15) :: [])) := by
  obtain ⟨hp, hrest⟩ := id hR
  obtain ⟨k, g, hk, ec, em, hg⟩ := hp
  unfold fX3_say fX4_say
  rw [ec, em, within_eq2 x1 (a := 33) (b := 126) rfl rfl, in_eq2 x1 (a := 33) (b := 126) rfl rfl, bnd1_eq rfl, bnd1_eq rfl]
  by_cases hin : 33 ≤ x1.toInt ∧ x1.toInt ≤ 126
  · simp only [if01_t hin]
    obtain ⟨j, -, hj2, hj3⟩ := b_of (x := x1) (by omega)
    by_cases h60 : k < 60
    · rw [if_pos (show nI k < 60 from nI_lt (b := 60) h60 (by omega)), if_neg (b_ne (x := nI k) (k := 60) (z := 60) rfl (by rw [b_nI (by omega)]; omega)), put_nI (by omega) (by omega), bnd1_eq rfl, if_pos (nI_in (by omega) (by omega)), nI_clamp (by omega)]
      refine ⟨_, _, _, _, _, rfl, rfl, ⟨k + 1, fun i => if i = k then j else g i, by omega, nI_1 k, nI_1 k, ?_⟩, hrest⟩
      intro i hi
      show 33 ≤ (if i = k then j else g i) ∧ (if i = k then j else g i) ≤ 126 ∧ upd (ca 0) k x1 i = nI (if i = k then j else g i) ∧ upd (ma 7) k x1 i = nI (if i = k then j else g i)
      unfold upd
      by_cases hik : i = k
      · rw [if_pos hik, if_pos hik, if_pos hik]
        exact ⟨by omega, by omega, hj2, hj2⟩
      · rw [if_neg hik, if_neg hik, if_neg hik]
        exact hg i (by omega)
    · have hk60 : k = 60 := by omega
      subst hk60
      exact ⟨-4, nI 60, _, nI 60, _, by rw [if_neg (by decide)], by rw [if_pos (by rfl)], ⟨60, g, by omega, rfl, rfl, hg⟩, hrest⟩
  · exact ⟨-2, nI k, _, nI k, _, by simp only [if01_f hin], by simp only [if01_f hin], ⟨k, g, hk, rfl, rfl, hg⟩, hrest⟩
theorem P_seen {c : Nat → Int32} {ca : Nat → Nat → Int32} {m : Nat → Int32} {ma : Nat → Nat → Int32} {mh : Nat → Int64} (x1 x2 : Int32) (hR : Rel c ca m ma) : ∃ (r : Int32) (a0 : Int32) (a1 : Nat → Int32) (a2 : Nat → Int32) (b0 : Int32) (b1 : Nat → Int32) (b2 : Nat → Int32), fX3_seen x1 x2 (c 5) (c 6) (ca 6) (ca 7) = some (r, a0, a1, a2) ∧ fX4_seen x1 x2 (m 4) (m 5) (ma 5) (ma 6) = some (r, b0, b1, b2) ∧ Rel (blI ((c 0) :: (c 1) :: (c 2) :: (c 3) :: (c 4) :: (c 5) :: a0 :: (c 7) :: (c 8) :: (c 9) :: (c 10) :: (c 11) :: (c 12) :: (c 13) :: (c 14) :: (c 15) :: (c 16) :: (c 17) :: (c 18) :: (c 19) :: (c 20) :: (c 21) :: (c 22) :: (c 23) :: (c 24) :: (c 25) :: (c 26) :: (c 27) :: (c 28) :: (c 29) :: (c 30) :: (c 31) :: [])) (blA ((ca 0) :: (ca 1) :: (ca 2) :: (ca 3) :: (ca 4) :: (ca 5) :: a1 :: a2 :: (ca 8) :: (ca 9) :: (ca 10) :: (ca 11) :: (ca 12) :: (ca 13) :: (ca 14) :: (ca 15) :: (ca 16) :: (ca 17) :: (ca 18) :: (ca 19) :: (ca 20) :: (ca 21) :: (ca 22) :: (ca 23) :: (ca 24) :: (ca 25) :: (ca 26) :: (ca 27) :: [])) (blI ((m 0) :: (m 1) :: (m 2) :: (m 3) :: (m 4) :: b0 :: (m 6) :: (m 7) :: (m 8) :: (m 9) :: (m 10) :: (m 11) :: (m 12) :: (m 13) :: (m 14) :: (m 15) :: (m 16) :: [])) (blA ((ma 0) :: (ma 1) :: (ma 2) :: (ma 3) :: (ma 4) :: b1 :: b2 :: (ma 7) :: (ma 8) :: (ma 9) :: (ma 10) :: (ma 11) :: (ma 12) :: (ma 13) :: (ma 14) :: (ma 15) :: [])) := by
  obtain ⟨hp, hb, hrest⟩ := id hR
  obtain ⟨w, h, d, l, n, s, fi, se, wo, wi, ro, sw, sm, ⟨b1, b2, b3, b4, b5, b6, b7, b8⟩, ⟨e1, e2, e3, e4, e5, e6⟩, ⟨m1, m2, m3, m4, m5, m6⟩, hv, hr, hri, hc, hm, hs⟩ := hb
  unfold fX3_seen fX4_seen
  rw [e5, m5, e6, m6, within_eq2 x1 (a := 1) (b := 99) rfl rfl, in_eq2 x1 (a := 1) (b := 99) rfl rfl, within_eq2 x2 (a := 0) (b := (n : Int)) rfl (b_nI (by omega)), in_eq2 x2 (a := 0) (b := (n : Int)) rfl (by rw [Int32.toInt_toInt64]; exact b_nI (by omega)), bnd1_eq rfl, bnd1_eq rfl, bnd1_eq rfl, bnd1_eq rfl]
  have keep : Rel (blI ((c 0) :: (c 1) :: (c 2) :: (c 3) :: (c 4) :: nI n :: nI s :: (c 7) :: (c 8) :: (c 9) :: (c 10) :: (c 11) :: (c 12) :: (c 13) :: (c 14) :: (c 15) :: (c 16) :: (c 17) :: (c 18) :: (c 19) :: (c 20) :: (c 21) :: (c 22) :: (c 23) :: (c 24) :: (c 25) :: (c 26) :: (c 27) :: (c 28) :: (c 29) :: (c 30) :: (c 31) :: [])) (blA ((ca 0) :: (ca 1) :: (ca 2) :: (ca 3) :: (ca 4) :: (ca 5) :: (ca 6) :: (ca 7) :: (ca 8) :: (ca 9) :: (ca 10) :: (ca 11) :: (ca 12) :: (ca 13) :: (ca 14) :: (ca 15) :: (ca 16) :: (ca 17) :: (ca 18) :: (ca 19) :: (ca 20) :: (ca 21) :: (ca 22) :: (ca 23) :: (ca 24) :: (ca 25) :: (ca 26) :: (ca 27) :: [])) (blI ((m 0) :: (m 1) :: (m 2) :: (m 3) :: nI n :: nI s :: (m 6) :: (m 7) :: (m 8) :: (m 9) :: (m 10) :: (m 11) :: (m 12) :: (m 13) :: (m 14) :: (m 15) :: (m 16) :: [])) (blA ((ma 0) :: (ma 1) :: (ma 2) :: (ma 3) :: (ma 4) :: (ma 5) :: (ma 6) :: (ma 7) :: (ma 8) :: (ma 9) :: (ma 10) :: (ma 11) :: (ma 12) :: (ma 13) :: (ma 14) :: (ma 15) :: [])) :=
    ⟨hp, ⟨w, h, d, l, n, s, fi, se, wo, wi, ro, sw, sm, ⟨b1, b2, b3, b4, b5, b6, b7, b8⟩, ⟨e1, e2, e3, e4, rfl, rfl⟩, ⟨m1, m2, m3, m4, rfl, rfl⟩, hv, hr, hri, hc, hm, hs⟩, hrest⟩
  by_cases h1 : 1 ≤ x1.toInt ∧ x1.toInt ≤ 99
  · simp only [if01_t h1]
    by_cases h2 : 0 ≤ x2.toInt ∧ x2.toInt ≤ (n : Int)
    · simp only [if01_t h2]
      obtain ⟨j, -, hj2, hj3⟩ := b_of (x := x1) (by omega)
      obtain ⟨j', -, hj2', hj3'⟩ := b_of (x := x2) (by omega)
      by_cases h6 : s < 6
      · rw [if_pos (show nI s < 6 from nI_lt (b := 6) h6 (by omega)), if_neg (b_ne (x := nI s) (k := 6) (z := 6) rfl (by rw [b_nI (by omega)]; omega)), put_nI (by omega) (by omega), put_nI (by omega) (by omega), bnd1_eq rfl, bnd1_eq rfl, if_pos (nI_in (by omega) (by omega)), if_pos (nI_in (by omega) (by omega)), nI_clamp (by omega)]
        refine ⟨_, _, _, _, _, _, _, rfl, rfl, hp, ⟨w, h, d, l, n, s + 1, fi, se, wo, wi, ro, fun i => if i = s then j else sw i, fun i => if i = s then j' else sm i, ⟨b1, b2, b3, b4, b5, b6, b7, by omega⟩, ⟨e1, e2, e3, e4, rfl, nI_1 s⟩, ⟨m1, m2, m3, m4, rfl, nI_1 s⟩, hv, hr, hri, hc, hm, ?_⟩, hrest⟩
        intro i hi
        show 1 ≤ (if i = s then j else sw i) ∧ (if i = s then j else sw i) ≤ 99 ∧ (if i = s then j' else sm i) ≤ 6 ∧ upd (ca 6) s x1 i = nI (if i = s then j else sw i) ∧ upd (ca 7) s x2 i = nI (if i = s then j' else sm i) ∧ upd (ma 5) s x1 i = nI (if i = s then j else sw i) ∧ upd (ma 6) s x2 i = nI (if i = s then j' else sm i)
        unfold upd
        by_cases hik : i = s
        · simp only [if_pos hik]
          exact ⟨by omega, by omega, by omega, hj2, hj2', hj2, hj2'⟩
        · simp only [if_neg hik]
          exact hs i (by omega)
      · have h66 : s = 6 := by omega
        subst h66
        exact ⟨-4, _, _, _, _, _, _, by rw [if_neg (by decide)], by rw [if_pos (by rfl)], keep⟩
    · exact ⟨-2, _, _, _, _, _, _, by simp only [if01_f h2], by simp only [if01_f h2], keep⟩
  · exact ⟨-2, _, _, _, _, _, _, by simp only [if01_f h1], by simp only [if01_f h1], keep⟩
