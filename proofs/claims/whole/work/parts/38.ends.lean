theorem fb_holes : ∀ (m n : Nat) (f : Nat → Nat), (∀ i, i < n → f i < m) → (∀ i j, i < j → j < n → f i ≠ f j) → n ≤ m := by
  intro m
  induction m with
  | zero =>
    intro n f h1 _
    rcases Nat.eq_zero_or_pos n with h | h
    · omega
    · exact absurd (h1 0 h) (Nat.not_lt_zero _)
  | succ m ih =>
    intro n f h1 h2
    by_cases hx : ∃ i, i < n ∧ f i = m
    · obtain ⟨a, ha, hfa⟩ := hx
      have hg := ih (n - 1) (fun i => if i < a then f i else f (i + 1)) (by
        intro i hi
        by_cases q : i < a
        · simp only [if_pos q]
          have b1 := h1 i (by omega)
          have b2 := h2 i a q ha
          omega
        · simp only [if_neg q]
          have b1 := h1 (i + 1) (by omega)
          have b2 := h2 a (i + 1) (by omega) (by omega)
          omega) (by
        intro i j hij hj
        by_cases q : i < a
        · by_cases r : j < a
          · simp only [if_pos q, if_pos r]
            exact h2 i j hij (by omega)
          · simp only [if_pos q, if_neg r]
            exact h2 i (j + 1) (by omega) (by omega)
        · have r : ¬ j < a := by omega
          simp only [if_neg q, if_neg r]
          exact h2 (i + 1) (j + 1) (by omega) (by omega))
      omega
    · have hg := ih n f (fun i hi => by
        have b1 := h1 i hi
        have b2 : f i ≠ m := fun e => hx ⟨i, hi, e⟩
        omega) h2
      omega
/-- two of them in one place -/
theorem fb_twice {m n : Nat} {f : Nat → Nat} (h : ∀ i, i < n → f i < m) (hm : m < n) : ∃ i j, i < j ∧ j < n ∧ f i = f j := by
  refine Classical.byContradiction fun hx => ?_
  have := fb_holes m n f h (fun i j hij hj e => hx ⟨i, j, hij, hj, e⟩)
  omega
/-- as many as places, none twice: each place is taken -/
theorem fb_onto {n : Nat} {f : Nat → Nat} (h : ∀ i, i < n → f i < n) (h2 : ∀ i j, i < j → j < n → f i ≠ f j) {y : Nat} (hy : y < n) : ∃ i, i < n ∧ f i = y := by
  refine Classical.byContradiction fun hx => ?_
  have hne : ∀ i, i < n → f i ≠ y := fun i hi e => hx ⟨i, hi, e⟩
  have := fb_holes (n - 1) n (fun i => if f i < y then f i else f i - 1) (by
    intro i hi
    have b1 := h i hi
    have b2 := hne i hi
    by_cases q : f i < y
    · simp only [if_pos q]; omega
    · simp only [if_neg q]; omega) (by
    intro i j hij hj
    have b1 := hne i (by omega)
    have b2 := hne j hj
    have b3 := h2 i j hij hj
    by_cases q : f i < y
    · by_cases r : f j < y
      · simp only [if_pos q, if_pos r]; exact b3
      · simp only [if_pos q, if_neg r]; omega
    · by_cases r : f j < y
      · simp only [if_neg q, if_pos r]; omega
      · simp only [if_neg q, if_neg r]; omega)
  omega
theorem place_c {n p q : Nat} {ro : Nat → Nat} {row : Nat → Int32} (hn : n ≤ 6) (hro : ∀ i, i < n → ro i < n ∧ row i = nI (ro i)) (hp : p < n) (hq : ro p = q) (hinj : ∀ j k, j < n → k < n → ro j = ro k → j = k) :
    ∀ (r i fuel : Nat), i + r = p → r + 1 ≤ fuel → fX0_place_l2 (nI q) (nI n) row fuel (nI i) = some (nI p)
  | 0, i, fuel, hi, hf => by
    obtain ⟨f, rfl⟩ : ∃ f, fuel = f + 1 := ⟨fuel - 1, by omega⟩
    have : i = p := by omega
    subst this
    rw [fX0_place_l2, if_neg (nI_ge hp (by omega)), at_nI (by omega) (by omega), bnd1_s, (hro i hp).2, hq, if_pos rfl]
  | r + 1, i, fuel, hi, hf => by
    obtain ⟨f, rfl⟩ : ∃ f, fuel = f + 1 := ⟨fuel - 1, by omega⟩
    have h1 := (hro i (by omega)).1
    have h2 := (hro p hp).1
    have hne : ro i ≠ q := fun e => by have := hinj i p (by omega) hp (by rw [e, hq]); omega
    rw [fX0_place_l2, if_neg (nI_ge (by omega) (by omega)), at_nI (by omega) (by omega), bnd1_s, (hro i (by omega)).2, if_neg (fun e => hne ((nI_eq (by omega) (by omega)).mp e)), nI_1]
    exact place_c hn hro hp hq hinj r (i + 1) f (by omega) (by omega)
theorem place_m {n p q : Nat} {ro : Nat → Nat} {row : Nat → Int32} (hn : n ≤ 6) (hro : ∀ i, i < n → ro i < n ∧ row i = nI (ro i)) (hp : p < n) (hq : ro p = q) (hinj : ∀ j k, j < n → k < n → ro j = ro k → j = k) :
    ∀ (r i fuel : Nat), i + r = p → r + 1 ≤ fuel → fX4_placeOf_l2 (nI q) row fuel (nI i) = some (nI p)
  | 0, i, fuel, hi, hf => by
    obtain ⟨f, rfl⟩ : ∃ f, fuel = f + 1 := ⟨fuel - 1, by omega⟩
    have : i = p := by omega
    subst this
    rw [fX4_placeOf_l2, if_pos (nI_inF (show i < 6 by omega) (by omega)), nI_clamp (by omega), (hro i hp).2, hq, if_pos rfl]
  | r + 1, i, fuel, hi, hf => by
    obtain ⟨f, rfl⟩ : ∃ f, fuel = f + 1 := ⟨fuel - 1, by omega⟩
    have h1 := (hro i (by omega)).1
    have h2 := (hro p hp).1
    have hne : ro i ≠ q := fun e => by have := hinj i p (by omega) hp (by rw [e, hq]); omega
    rw [fX4_placeOf_l2, if_pos (nI_inF (show i < 6 by omega) (by omega)), nI_clamp (by omega), (hro i (by omega)).2, if_neg (fun e => hne ((nI_eq (by omega) (by omega)).mp e)), nI_1]
    exact place_m hn hro hp hq hinj r (i + 1) f (by omega) (by omega)
abbrev D0 (fi se ro : Nat → Nat) (i : Nat) : Nat := fi (ro i) + se (ro i)
theorem end_c {n p q : Nat} {fi se wo wi ro : Nat → Nat} {cfi cse cwo cwi row : Nat → Int32} (hV : VB n fi se wo wi ro) (hE : EN n fi se wo wi ro cfi cse cwo cwi row) (hp : p < n) (hq : ro p = q) (hinj : ∀ j k, j < n → k < n → ro j = ro k → j = k) :
    ∀ (r i sec fuel : Nat), i + r = p + 1 → r + 1 ≤ fuel → fX0_end_l4 (nI q) (nI n) row cfi cse fuel (nI sec) (nI i) = some (nI (sec + SMn (D0 fi se ro) r i))
  | 0, i, sec, fuel, hi, hf => by
    obtain ⟨f, rfl⟩ : ∃ f, fuel = f + 1 := ⟨fuel - 1, by omega⟩
    have hn := hV.1
    have hpl : fX0_place (nI q) (nI n) row = some (nI p) := place_c hn (fun i hi => ⟨hV.2.2 i hi, (hE i hi).2.2.2.2⟩) hp hq hinj p 0 FU (by omega) (Nat.le_trans (by omega) FU_ge)
    rw [fX0_end_l4, hpl, bnd1_s, if_pos (nI_lt (by omega) (by omega))]
    rfl
  | r + 1, i, sec, fuel, hi, hf => by
    obtain ⟨f, rfl⟩ : ∃ f, fuel = f + 1 := ⟨fuel - 1, by omega⟩
    have hn := hV.1
    have hpl : fX0_place (nI q) (nI n) row = some (nI p) := place_c hn (fun i hi => ⟨hV.2.2 i hi, (hE i hi).2.2.2.2⟩) hp hq hinj p 0 FU (by omega) (Nat.le_trans (by omega) FU_ge)
    have h1 := hV.2.2 i (by omega)
    rw [fX0_end_l4, hpl, bnd1_s, if_neg (nI_nlt (by omega) (by omega)), at_nI (by omega) (by omega), bnd1_s, (hE i (by omega)).2.2.2.2]
    unfold fX0_lasts
    rw [at_nI (by omega) (by omega), at_nI (by omega) (by omega), bnd1_s, bnd1_s, bnd1_s, (hE (ro i) h1).1, (hE (ro i) h1).2.1, nI_add, nI_add, nI_1, end_c hV hE hp hq hinj r (i + 1) _ f (by omega) (by omega)]
    simp only [SMn, Nat.add_assoc]
theorem end_m {n p q : Nat} {fi se wo wi ro : Nat → Nat} {cfi cse cwo cwi row : Nat → Int32} (hV : VB n fi se wo wi ro) (hE : EN n fi se wo wi ro cfi cse cwo cwi row) (hp : p < n) (hq : ro p = q) (hinj : ∀ j k, j < n → k < n → ro j = ro k → j = k) :
    ∀ (r i sec fuel : Nat), i + r = p + 1 → r + 1 ≤ fuel → fX4_endOf_l4 (nI q) row cfi cse fuel (nI sec) (nI i) = some (nI (sec + SMn (D0 fi se ro) r i))
  | 0, i, sec, fuel, hi, hf => by
    obtain ⟨f, rfl⟩ : ∃ f, fuel = f + 1 := ⟨fuel - 1, by omega⟩
    have hn := hV.1
    have hpl : fX4_placeOf (nI q) row = some (nI p) := place_m hn (fun i hi => ⟨hV.2.2 i hi, (hE i hi).2.2.2.2⟩) hp hq hinj p 0 FU (by omega) (Nat.le_trans (by omega) FU_ge)
    rw [fX4_endOf_l4, hpl, bnd1_s, if_pos (nI_lt (by omega) (by omega))]
    rfl
  | r + 1, i, sec, fuel, hi, hf => by
    obtain ⟨f, rfl⟩ : ∃ f, fuel = f + 1 := ⟨fuel - 1, by omega⟩
    have hn := hV.1
    have hpl : fX4_placeOf (nI q) row = some (nI p) := place_m hn (fun i hi => ⟨hV.2.2 i hi, (hE i hi).2.2.2.2⟩) hp hq hinj p 0 FU (by omega) (Nat.le_trans (by omega) FU_ge)
    have h1 := hV.2.2 i (by omega)
    rw [fX4_endOf_l4, hpl, bnd1_s, if_neg (nI_nlt (by omega) (by omega))]
    simp only [if_pos (nI_inG (show i < 6 by omega) (show 6 < 2 ^ 31 by omega)), nI_clamp (show i < 2 ^ 31 by omega), (hE i (show i < n by omega)).2.2.2.2, if_pos (nI_inG (show ro i < 6 by omega) (show 6 < 2 ^ 31 by omega)), nI_clamp (show ro i < 2 ^ 31 by omega), (hE (ro i) h1).1, (hE (ro i) h1).2.1, nI_add, nI_1]
    rw [end_m hV hE hp hq hinj r (i + 1) _ f (by omega) (by omega)]
    simp only [SMn, Nat.add_assoc]
/-- each suit's place in the order -/
theorem places {n : Nat} {ro : Nat → Nat} (hr : ∀ k, k < n → ro k < n) (hinj : ∀ j k, j < n → k < n → ro j = ro k → j = k) : ∃ pos : Nat → Nat, ∀ q, q < n → pos q < n ∧ ro (pos q) = q := by
  have h : ∀ q, ∃ p, q < n → p < n ∧ ro p = q := fun q => by
    by_cases hq : q < n
    · obtain ⟨p, hp, e⟩ := fb_onto (f := ro) hr (fun i j hij hj e => by have := hinj i j (by omega) hj e; omega) hq
      exact ⟨p, fun _ => ⟨hp, e⟩⟩
    · exact ⟨0, fun h => absurd h hq⟩
  exact ⟨fun q => Classical.choose (h q), fun q hq => Classical.choose_spec (h q) hq⟩
/-- when each suit is over -/
theorem ends {n : Nat} {fi se wo wi ro : Nat → Nat} {cfi cse cwo cwi crow mfi mse mwo mwi mrow : Nat → Int32} (hV : VB n fi se wo wi ro) (hc : EN n fi se wo wi ro cfi cse cwo cwi crow) (hm : EN n fi se wo wi ro mfi mse mwo mwi mrow) (hinj : ∀ j k, j < n → k < n → ro j = ro k → j = k) :
    ∃ E : Nat → Nat, ∀ q, q < n → fX0_end (nI q) (nI n) crow cfi cse = some (nI (E q)) ∧ fX4_endOf (nI q) mrow mfi mse = some (nI (E q)) ∧ E q ≤ 12000 := by
  obtain ⟨pos, hpos⟩ := places hV.2.2 hinj
  refine ⟨fun q => SMn (D0 fi se ro) (pos q + 1) 0, fun q hq => ?_⟩
  obtain ⟨h1, h2⟩ := hpos q hq
  have hn := hV.1
  refine ⟨?_, ?_, ?_⟩
  · have := end_c hV hc h1 h2 hinj (pos q + 1) 0 0 FU (by omega) (Nat.le_trans (by omega) FU_ge)
    rw [Nat.zero_add] at this
    exact this
  · have := end_m hV hm h1 h2 hinj (pos q + 1) 0 0 FU (by omega) (Nat.le_trans (by omega) FU_ge)
    rw [Nat.zero_add] at this
    exact this
  · have := SMn_le (f := D0 fi se ro) (c := 1998) (pos q + 1) 0 (fun k _ hk => by
      have v := hV.2.1 (ro k) (hV.2.2 k (by omega))
      show fi (ro k) + se (ro k) ≤ 1998
      omega)
    have h3 : (pos q + 1) * 1998 ≤ 6 * 1998 := Nat.mul_le_mul_right _ (by omega)
    show SMn (D0 fi se ro) (pos q + 1) 0 ≤ 12000
    omega
theorem b_subN {a b : Nat} (ha : a < 1000000000) (hb : b < 1000000000) : (nI a - nI b).toInt = (a : Int) - b := by
  rw [b_sub, b_nI (by omega), b_nI (by omega)]
  · rw [b_nI (by omega), b_nI (by omega)]; omega
  · rw [b_nI (by omega), b_nI (by omega)]; omega
theorem P_drawnOut {c : Nat → Int32} {ca : Nat → Nat → Int32} {m : Nat → Int32} {ma : Nat → Nat → Int32} {mh : Nat → Int64} (x1 : Int32) (hR : Rel c ca m ma) : ∃ (r : Int32), fX3_drawnOut x1 (c 5) (c 1) (c 2) (c 3) (ca 5) (ca 1) (ca 2) = some r ∧ fX4_drawnOut x1 (m 4) (m 0) (m 1) (m 2) (ma 4) (ma 0) (ma 1) = some r ∧ Rel c ca m ma := by
  obtain ⟨hp, hb, hrest⟩ := id hR
  obtain ⟨w, h, d, l, n, s, fi, se, wo, wi, ro, sw, sm, ⟨b1, b2, b3, b4, b5, b6, b7, b8⟩, ⟨e1, e2, e3, e4, e5, e6⟩, ⟨m1, m2, m3, m4, m5, m6⟩, hv, hr, hri, hc, hm, hs⟩ := hb
  obtain ⟨E, hE⟩ := ends ⟨b7, hv, hr⟩ hc hm hri
  unfold fX3_drawnOut fX4_drawnOut
  rw [e1, e2, e3, e5, m1, m2, m3, m5, isSuit_c x1 b7, isSuit_m x1 b7, bnd1_s, bnd1_s]
  by_cases hin : 0 ≤ x1.toInt ∧ x1.toInt ≤ (n : Int) - 1
  · simp only [if01_t hin]
    obtain ⟨q, -, hq, hq2⟩ := b_of hin.1
    obtain ⟨E1, E2, E3⟩ := hE q (by omega)
    have hF := FL_le (h := h) b2 b5
    rw [hq, floats_c b2 ⟨b3, b4⟩, floatsBy_m b2 ⟨b3, b4⟩, E1, E2]
    simp only [bnd1_s]
    have hz := b_subN (a := FL w h d) (b := E q) (by omega) (by omega)
    have hz1 : (nI (FL w h d) - nI (E q) + 1).toInt = (FL w h d : Int) - E q + 1 := by
      rw [b_add, hz]
      · rfl
      · rw [hz]; show _ ≤ ((FL w h d : Int) - E q) + 1; omega
      · rw [hz]; show ((FL w h d : Int) - E q) + 1 < _; omega
    have c1 : (0 : Int32) ≤ nI (FL w h d) - nI (E q) ↔ (0 : Int) ≤ (FL w h d : Int) - E q := by rw [b_le, hz]; exact Iff.rfl
    have c2 : nI (FL w h d) - nI (E q) + 1 ≤ (0 : Int32) ↔ (FL w h d : Int) - E q + 1 ≤ 0 := by rw [b_le, hz1]; exact Iff.rfl
    by_cases hle : (0 : Int) ≤ (FL w h d : Int) - E q
    · exact ⟨_, by rw [if_pos (c1.mpr hle)], by rw [if_neg (fun q => by have := c2.mp q; omega)], hR⟩
    · exact ⟨_, by rw [if_neg (fun q => hle (c1.mp q))], by rw [if_pos (c2.mpr (by omega))], hR⟩
  · exact ⟨-1, by simp only [if01_f hin], by simp only [if01_f hin], hR⟩
theorem P_over {c : Nat → Int32} {ca : Nat → Nat → Int32} {m : Nat → Int32} {ma : Nat → Nat → Int32} {mh : Nat → Int64} (x1 x2 : Int32) (hR : Rel c ca m ma) : ∃ (r : Int32) (a0 : Int32) (a1 : Int32) (a2 : Int32) (a3 : Int32) (a4 : Int32) (a5 : Int32) (b0 : Int32) (b1 : Int32) (b2 : Int32) (b3 : Int32) (b4 : Nat → Int32) (b5 : Nat → Int32) (b6 : Nat → Int64), fX3_over x1 x2 (c 5) (c 1) (c 2) (c 3) (c 22) (c 23) (c 24) (c 25) (c 26) (c 27) (c 4) (ca 5) (ca 1) (ca 2) (ca 3) (ca 4) = some (r, a0, a1, a2, a3, a4, a5) ∧ fX4_over x1 x2 (m 4) (m 11) (m 0) (m 1) (m 2) (m 12) (m 13) (m 14) (m 3) (ma 4) (ma 8) (ma 9) mh (ma 0) (ma 1) (ma 3) (ma 2) = some (r, b0, b1, b2, b3, b4, b5, b6) ∧ Rel (blI ((c 0) :: (c 1) :: (c 2) :: (c 3) :: (c 4) :: (c 5) :: (c 6) :: (c 7) :: (c 8) :: (c 9) :: (c 10) :: (c 11) :: (c 12) :: (c 13) :: (c 14) :: (c 15) :: (c 16) :: (c 17) :: (c 18) :: (c 19) :: (c 20) :: (c 21) :: a0 :: a1 :: a2 :: a3 :: a4 :: a5 :: (c 28) :: (c 29) :: (c 30) :: (c 31) :: [])) ca (blI ((m 0) :: (m 1) :: (m 2) :: (m 3) :: (m 4) :: (m 5) :: (m 6) :: (m 7) :: (m 8) :: (m 9) :: (m 10) :: b0 :: b1 :: b2 :: b3 :: (m 15) :: (m 16) :: [])) (blA ((ma 0) :: (ma 1) :: (ma 2) :: (ma 3) :: (ma 4) :: (ma 5) :: (ma 6) :: (ma 7) :: b4 :: b5 :: (ma 10) :: (ma 11) :: (ma 12) :: (ma 13) :: (ma 14) :: (ma 15) :: [])) := by
  obtain ⟨hp, hb, hrest⟩ := id hR
  obtain ⟨w, h, d, l, n, s, fi, se, wo, wi, ro, sw, sm, ⟨b1, b2, b3, b4, b5, b6, b7, b8⟩, ⟨e1, e2, e3, e4, e5, e6⟩, ⟨m1, m2, m3, m4, m5, m6⟩, hv, hr, hri, hc, hm, hs⟩ := hb
  have hV : VB n fi se wo wi ro := ⟨b7, hv, hr⟩
  obtain ⟨E, hE⟩ := ends hV hc hm hri
  obtain ⟨pos, hpos⟩ := places hr hri
  have hS := sit_c hV hc b6 b2 ⟨b3, b4⟩ b5
  obtain ⟨b, e, z, g1, g2⟩ := goDay_m hV hm b6 b2 ⟨b3, b4⟩ b5 (by' := ma 8) (ex' := ma 9) (has := mh)
  have hK := PLn_le (DUR fi se (fun _ => 0) ro) (FL w h d) n 0 0
  obtain ⟨K, hKe⟩ : ∃ K, K = KN n w h d fi se ro := ⟨_, rfl⟩
  rw [← hKe] at hS g1
  have hK : K ≤ n := by rw [hKe]; exact hK
  rw [← e1, ← e2, ← e3, ← e4, ← e5] at hS
  rw [← m1, ← m2, ← m3, ← m4, ← m5] at g1
  unfold fX3_over fX4_over fX3_fate
  have i1 := isSuit_c x1 b7
  have i2 := isSuit_m x1 b7
  rw [← e5] at i1
  rw [← m5] at i2
  rw [i1, i2, bnd1_s, bnd1_s]
  by_cases hin : 0 ≤ x1.toInt ∧ x1.toInt ≤ (n : Int) - 1
  · simp only [if01_t hin]
    rw [within_eq2 x2 (a := 0) (b := 1) rfl rfl, in_eq2 x2 (a := 0) (b := 1) rfl rfl, bnd1_s, bnd1_s]
    by_cases hin2 : 0 ≤ x2.toInt ∧ x2.toInt ≤ 1
    · simp only [if01_t hin2]
      obtain ⟨q, -, hq, hq2⟩ := b_of hin.1
      have hqn : q < n := by omega
      obtain ⟨E1, E2, E3⟩ := hE q hqn
      obtain ⟨p1, p2⟩ := hpos q hqn
      have P1 : fX0_place (nI q) (nI n) (ca 5) = some (nI (pos q)) := place_c b7 (fun i hi => ⟨hr i hi, (hc i hi).2.2.2.2⟩) p1 p2 hri (pos q) 0 FU (by omega) (Nat.le_trans (by omega) FU_ge)
      have P2 : fX4_placeOf (nI q) (ma 4) = some (nI (pos q)) := place_m b7 (fun i hi => ⟨hr i hi, (hm i hi).2.2.2.2⟩) p1 p2 hri (pos q) 0 FU (by omega) (Nat.le_trans (by omega) FU_ge)
      rw [← e5] at E1 P1
      rw [hS, g1, hq, E1, E2, P1, P2]
      simp only [bnd1_s, bnd6_s, bnd7_s]
      by_cases h0 : x2 = 0
      · simp only [if_pos h0]
        exact ⟨_, _, _, _, _, _, _, _, _, _, _, _, _, _, rfl, rfl, hR⟩
      · simp only [if_neg h0]
        by_cases hKn : K < n
        · have hsk : SKn ro K n 0 = nI (ro K) := by unfold SKn; rw [if_pos hKn, Nat.zero_add]
          rw [hsk]
          have hrK := hr K hKn
          by_cases hpK : pos q = K
          · have hqK : q = ro K := by rw [← hpK, p2]
            rw [if_pos (by rw [hqK]), if_pos (nI_le (by omega) (by omega)), if_pos (by rw [hpK])]
            exact ⟨_, _, _, _, _, _, _, _, _, _, _, _, _, _, rfl, rfl, hR⟩
          · have hne : q ≠ ro K := fun e => hpK (hri _ _ p1 hKn (by rw [p2, e]))
            rw [if_neg (fun e => hne ((nI_eq (by omega) (by omega)).mp e)), if_neg (fun e => hpK ((nI_eq (by omega) (by omega)).mp e))]
            by_cases hlt : K ≤ pos q
            · rw [if_pos (nI_le hlt (by omega)), if_pos (nI_le hlt (by omega))]
              exact ⟨_, _, _, _, _, _, _, _, _, _, _, _, _, _, rfl, rfl, hR⟩
            · rw [if_neg (nI_ge (by omega) (by omega)), if_neg (nI_ge (by omega) (by omega))]
              exact ⟨_, _, _, _, _, _, _, _, _, _, _, _, _, _, rfl, rfl, hR⟩
        · have hsk : SKn ro K n 0 = -6 := by unfold SKn; rw [if_neg hKn]
          rw [hsk, if_neg (b_ne (z := -6) (by decide) (by rw [b_nI (by omega)]; omega)), if_neg (nI_ge (by omega) (by omega)), if_neg (nI_ge (by omega) (by omega))]
          exact ⟨_, _, _, _, _, _, _, _, _, _, _, _, _, _, rfl, rfl, hR⟩
    · simp only [if01_f hin2]
      exact ⟨_, _, _, _, _, _, _, _, _, _, _, _, _, _, rfl, rfl, hR⟩
  · simp only [if01_f hin]
    exact ⟨_, _, _, _, _, _, _, _, _, _, _, _, _, _, rfl, rfl, hR⟩
