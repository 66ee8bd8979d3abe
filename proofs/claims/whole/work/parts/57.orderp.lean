theorem init_l {n j l : Nat} {cw ch cd s1 s2 s3 s4 s5 s6 : Int32} {cfi cse cwo cwi cb : Nat → Int32} : ∀ (r i fuel : Nat) (trial : Nat → Int32), i + r = 6 → r + 1 ≤ fuel → (∀ q, q < i → trial q = nI q) → ∃ trial', fX3_findBest_l4 (nI j) cw ch cd s1 s2 s3 s4 s5 s6 (nI n) (nI l) cfi cse cwo cwi cb (-1) fuel (nI i) trial = fX3_findBest_l30 (nI j) cw ch cd (nI n) (nI l) cfi cse cwo cwi FU (-1) 1 0 s1 s2 s3 s4 s5 s6 trial' cb ∧ ∀ q, q < 6 → trial' q = nI q
  | 0, i, fuel, trial, hi, hf, hb => by
    obtain ⟨f, rfl⟩ : ∃ f, fuel = f + 1 := ⟨fuel - 1, by omega⟩
    exact ⟨trial, by rw [fX3_findBest_l4, if_pos (show (6 : Int32) ≤ nI i from nI_le (a := 6) (by omega) (by omega))], fun q hq => hb q (by omega)⟩
  | r + 1, i, fuel, trial, hi, hf, hb => by
    obtain ⟨f, rfl⟩ : ∃ f, fuel = f + 1 := ⟨fuel - 1, by omega⟩
    rw [fX3_findBest_l4, if_neg (show ¬ (6 : Int32) ≤ nI i from nI_ge (b := 6) (by omega) (by omega)), put_nI (by omega) (by omega), bnd1_s, nI_1]
    refine init_l r (i + 1) f _ (by omega) (by omega) (fun q hq => ?_)
    by_cases h : q = i
    · rw [h, upd_eq]
    · rw [upd_ne h]; exact hb q (by omega)
theorem pow_l {n j l F : Nat} {x2 wt dec sk : Int32} {b ex mfi mse mwi mwo mb : Nat → Int32} {has : Nat → Int64} (hn : n ≤ 6) : ∀ (r i p fuel : Nat), i + r = n → r + 1 ≤ fuel → fX4_order_l19 (nI j) x2 (nI n) wt (nI F) dec sk (nI l) b ex has mfi mse mwi mwo mb fuel (nI p) (nI i) = fX4_order_l49 (nI j) x2 (nI n) wt (nI F) (nI l) ex mfi mse mwi mwo (nI (p * n ^ r)) FU (-1) 0 dec sk b has mb
  | 0, i, p, fuel, hi, hf => by
    obtain ⟨f, rfl⟩ : ∃ f, fuel = f + 1 := ⟨fuel - 1, by omega⟩
    rw [fX4_order_l19, if_pos (nI_le (by omega) (by omega)), Nat.pow_zero, Nat.mul_one]
  | r + 1, i, p, fuel, hi, hf => by
    obtain ⟨f, rfl⟩ : ∃ f, fuel = f + 1 := ⟨fuel - 1, by omega⟩
    rw [fX4_order_l19, if_neg (nI_ge (by omega) (by omega)), pk_mul, nI_1, pow_l hn r (i + 1) (p * n) f (by omega) (by omega), Nat.pow_succ, Nat.mul_comm (n ^ r) n, Nat.mul_assoc]
theorem P_order {c : Nat → Int32} {ca : Nat → Nat → Int32} {m : Nat → Int32} {ma : Nat → Nat → Int32} {mh : Nat → Int64} (x1 x2 : Int32) (hR : Rel c ca m ma) : ∃ (r : Int32) (a0 : Int32) (a1 : Int32) (a2 : Int32) (a3 : Int32) (a4 : Int32) (a5 : Int32) (a6 : Nat → Int32) (a7 : Nat → Int32) (b0 : Int32) (b1 : Int32) (b2 : Int32) (b3 : Int32) (b4 : Nat → Int32) (b5 : Nat → Int32) (b6 : Nat → Int64) (b7 : Nat → Int32), fX3_order x1 x2 (c 5) (c 1) (c 2) (c 3) (c 22) (c 23) (c 24) (c 25) (c 26) (c 27) (c 4) (ca 26) (ca 1) (ca 2) (ca 3) (ca 4) (ca 27) = some (r, a0, a1, a2, a3, a4, a5, a6, a7) ∧ fX4_order x1 x2 (m 4) (m 11) (m 0) (m 1) (m 2) (m 12) (m 13) (m 14) (m 3) (ma 4) (ma 8) (ma 9) mh (ma 0) (ma 1) (ma 3) (ma 2) (ma 10) = some (r, b0, b1, b2, b3, b4, b5, b6, b7) ∧ Rel (blI ((c 0) :: (c 1) :: (c 2) :: (c 3) :: (c 4) :: (c 5) :: (c 6) :: (c 7) :: (c 8) :: (c 9) :: (c 10) :: (c 11) :: (c 12) :: (c 13) :: (c 14) :: (c 15) :: (c 16) :: (c 17) :: (c 18) :: (c 19) :: (c 20) :: (c 21) :: a0 :: a1 :: a2 :: a3 :: a4 :: a5 :: (c 28) :: (c 29) :: (c 30) :: (c 31) :: [])) (blA ((ca 0) :: (ca 1) :: (ca 2) :: (ca 3) :: (ca 4) :: (ca 5) :: (ca 6) :: (ca 7) :: (ca 8) :: (ca 9) :: (ca 10) :: (ca 11) :: (ca 12) :: (ca 13) :: (ca 14) :: (ca 15) :: (ca 16) :: (ca 17) :: (ca 18) :: (ca 19) :: (ca 20) :: (ca 21) :: (ca 22) :: (ca 23) :: (ca 24) :: (ca 25) :: a6 :: a7 :: [])) (blI ((m 0) :: (m 1) :: (m 2) :: (m 3) :: (m 4) :: (m 5) :: (m 6) :: (m 7) :: (m 8) :: (m 9) :: (m 10) :: b0 :: b1 :: b2 :: b3 :: (m 15) :: (m 16) :: [])) (blA ((ma 0) :: (ma 1) :: (ma 2) :: (ma 3) :: (ma 4) :: (ma 5) :: (ma 6) :: (ma 7) :: b4 :: b5 :: b7 :: (ma 11) :: (ma 12) :: (ma 13) :: (ma 14) :: (ma 15) :: [])) := by
  obtain ⟨hp, hb, hrest⟩ := id hR
  obtain ⟨w, h, d, l, n, s, fi, se, wo, wi, ro, sw, sm, ⟨b1, b2, b3, b4, b5, b6, b7, b8⟩, ⟨e1, e2, e3, e4, e5, e6⟩, ⟨m1, m2, m3, m4, m5, m6⟩, hv, hr, hri, hc, hm, hs⟩ := hb
  have hV : VB n fi se wo wi ro := ⟨b7, hv, hr⟩
  obtain ⟨b, e, z, g1, g2, g3⟩ := layNow_m (n := n) (d := d) (order := ma 4) (by' := ma 8) (ex' := ma 9) (has := mh) b2 ⟨b3, b4⟩
  have hfl : fX0_floats (c 1) (c 2) (c 3) = some (nI (FL w h d)) := by rw [e1, e2, e3]; exact floats_c b2 ⟨b3, b4⟩
  rw [← m1, ← m2, ← m3, ← m5] at g1
  unfold fX3_order fX4_order
  rw [isSide_c x1, isSide_m x1, bnd1_s, bnd1_s]
  by_cases hin : 0 ≤ x1.toInt ∧ x1.toInt ≤ 3
  · simp only [if01_t hin]
    rw [g1, bnd5_s]
    obtain ⟨j, -, hj, hj2⟩ := b_of hin.1
    have hj4 : j < 4 := by omega
    obtain ⟨hid, h50, hok⟩ := idc_lt n (by omega)
    obtain ⟨trial, t1, t2⟩ := init_l (n := n) (j := j) (l := l) (cw := c 1) (ch := c 2) (cd := c 3) (s1 := c 22) (s2 := c 23) (s3 := c 24) (s4 := c 25) (s5 := c 26) (s6 := c 27) (cfi := ca 1) (cse := ca 2) (cwo := ca 3) (cwi := ca 4) (cb := ca 27) 6 0 FU (ca 26) (by omega) (Nat.le_trans (by omega) FU_ge) (fun q hq => absurd hq (Nat.not_lt_zero q))
    have p1 := pow_l (n := n) (j := j) (l := l) (F := FL w h d) (x2 := x2) (wt := nI n) (dec := m 13) (sk := m 14) (b := b) (ex := e) (mfi := ma 0) (mse := ma 1) (mwi := ma 3) (mwo := ma 2) (mb := ma 10) (has := z) b7 n 0 1 FU (by omega) (Nat.le_trans (by omega) FU_ge)
    rw [Nat.one_mul] at p1
    obtain ⟨X', s1', s2', s3', s4', s5', s6', trial', cb', f', Y', dec', sk', b', has', mb', q1, q2, v, v1, v2, v3, v4⟩ := best_l (x2 := x2) hfl hV hc hm (fun q hq => (g2 q hq).2) b6 (FL_le (h := h) b2 b5) hj4 (n ^ n) (idc n) 0 FU FU (-1) 1 (c 22) (c 23) (c 24) (c 25) (c 26) (c 27) trial (ca 27) (-1) (m 13) (m 14) b z (ma 10) (Nat.le_refl _) (Nat.le_trans (by omega) FU_ge) (Nat.le_trans (by omega) FU_ge) (chkN b7) (by omega) (Or.inl ⟨rfl, hid, fun q hq => by rw [okl_s n hok q hq]; exact ⟨t2 q (by omega), by omega⟩⟩) (Or.inl ⟨rfl, rfl, rfl⟩)
    rw [Nat.sub_self] at q2
    have q2 : fX4_order_l49 (nI j) x2 (nI n) (nI n) (nI (FL w h d)) (nI l) e (ma 0) (ma 1) (ma 3) (ma 2) (nI (n ^ n)) FU (-1) 0 (m 13) (m 14) b z (ma 10) = _ := q2
    have q1 : fX3_findBest_l30 (nI j) (c 1) (c 2) (c 3) (nI n) (nI l) (ca 1) (ca 2) (ca 3) (ca 4) FU (-1) 1 0 (c 22) (c 23) (c 24) (c 25) (c 26) (c 27) trial (ca 27) = _ := q1
    have t1 : fX3_findBest_l4 (nI j) (c 1) (c 2) (c 3) (c 22) (c 23) (c 24) (c 25) (c 26) (c 27) (nI n) (nI l) (ca 1) (ca 2) (ca 3) (ca 4) (ca 27) (-1) FU 0 (ca 26) = _ := t1
    have p1 : fX4_order_l19 (nI j) x2 (nI n) (nI n) (nI (FL w h d)) (m 13) (m 14) (nI l) b e z (ma 0) (ma 1) (ma 3) (ma 2) (ma 10) FU 1 0 = _ := p1
    have hmod : fX4_order_l19 x1 x2 (m 4) (m 4) (nI (FL w h d)) (m 13) (m 14) (m 3) b e z (ma 0) (ma 1) (ma 3) (ma 2) (ma 10) FU 1 0 = (if x2 = -1 then some (nI v, nI n, nI (FL w h d), dec', sk', b', e, has', mb') else if 0 ≤ x2.toInt ∧ x2.toInt ≤ (n : Int) - 1 then some (mb' (Int32.toNatClampNeg x2), nI n, nI (FL w h d), dec', sk', b', e, has', mb') else some (-6, nI n, nI (FL w h d), dec', sk', b', e, has', mb')) := by
      rw [m4, m5, hj, p1, q2, fX4_order_l49, if_pos (nI_le (Nat.le_refl _) (by omega)), isSuit_m x2 b7, bnd1_s]
      by_cases h1 : x2 = -1
      · rw [if_pos h1, if_pos h1, v3, lN_i]
      · rw [if_neg h1, if_neg h1]
        by_cases h2 : 0 ≤ x2.toInt ∧ x2.toInt ≤ (n : Int) - 1
        · obtain ⟨t, -, ht, ht2⟩ := b_of h2.1
          rw [if01_t h2, if_pos h2, if_pos (by rw [ht]; exact nI_inF (show t < 6 by omega) (by omega))]
        · rw [if01_f h2, if_neg h2]
    have hcls : fX3_findBest x1 (c 1) (c 2) (c 3) (c 22) (c 23) (c 24) (c 25) (c 26) (c 27) (c 5) (c 4) (ca 26) (ca 1) (ca 2) (ca 3) (ca 4) (ca 27) = some (nI v, s1', s2', s3', s4', s5', s6', trial', cb') := by
      unfold fX3_findBest
      rw [e4, e5, hj, t1, q1, v2]
    rw [hmod, hcls, bnd9_s]
    have c1 : (x2 < (-1 : Int32)) = (x2.toInt < -1) := propext (by rw [b_lt, show (-1 : Int32).toInt = -1 by decide])
    have c2 : (x2 < c 5) = (x2.toInt < (n : Int)) := propext (by rw [b_lt, e5, b_nI (by omega)])
    have c3 : (x2 = -1) = (x2.toInt = -1) := propext (by rw [b_eq, show (-1 : Int32).toInt = -1 by decide])
    simp only [c1, c2, c3]
    by_cases h0 : x2.toInt < -1
    · rw [if_pos h0, if_neg (show ¬ x2.toInt = -1 by omega), if_neg (show ¬ (0 ≤ x2.toInt ∧ x2.toInt ≤ (n : Int) - 1) by omega)]
      exact ⟨_, _, _, _, _, _, _, _, _, _, _, _, _, _, _, _, _, rfl, rfl, hR⟩
    · rw [if_neg h0]
      by_cases h1 : x2.toInt < (n : Int)
      · rw [if_pos h1]
        by_cases h2 : x2.toInt = -1
        · rw [if_pos h2, if_pos h2]
          exact ⟨_, _, _, _, _, _, _, _, _, _, _, _, _, _, _, _, _, rfl, rfl, hR⟩
        · obtain ⟨t, -, ht, ht2⟩ := b_of (x := x2) (by omega)
          rw [if_neg h2, if_neg h2, if_pos (show 0 ≤ x2.toInt ∧ x2.toInt ≤ (n : Int) - 1 by omega), ht, at_nI (by omega) (by omega), bnd1_s, nI_clamp (by omega), v4 t (by omega)]
          exact ⟨_, _, _, _, _, _, _, _, _, _, _, _, _, _, _, _, _, rfl, rfl, hR⟩
      · rw [if_neg h1, if_neg (show ¬ x2.toInt = -1 by omega), if_neg (show ¬ (0 ≤ x2.toInt ∧ x2.toInt ≤ (n : Int) - 1) by omega)]
        exact ⟨_, _, _, _, _, _, _, _, _, _, _, _, _, _, _, _, _, rfl, rfl, hR⟩
  · simp only [if01_f hin]
    exact ⟨_, _, _, _, _, _, _, _, _, _, _, _, _, _, _, _, _, rfl, rfl, hR⟩
