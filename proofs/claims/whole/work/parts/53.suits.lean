theorem read0 {k : Nat} {g : Nat → Nat} {cp mp : Nat → Int32} (hk : k ≤ 60) (hg : ∀ j, j < k → 33 ≤ g j ∧ g j ≤ 126 ∧ cp j = nI (g j) ∧ mp j = nI (g j)) (F S W V pl de mw mv : Nat → Int32) :
    ∃ (res sr' ph' dg' vl' : Int32) (W' V' S' F' : Nat → Int32) (pt' md' nz' : Int32), fX1_read (nI k) cp W V S F 60 = some (res, sr', ph', dg', vl', W', V', S', F') ∧ fX4_faultOfSuits (nI k) mp = some (res, pt', md', nz', sr') ∧
      ((∃ t : Nat, t ≤ 60 ∧ res = nI t) ∨ (res = -6 ∧ ∃ N : Nat, N ≤ 6 ∧ sr' = nI N ∧ ∀ (P1 P2 P3 P4 P5 : Int32) (ord : Nat → Int32), ∃ pl' de' mw' mv', fX4_suits_l24 P1 P2 P3 P4 (nI k) P5 mp ord FU 0 0 0 pl de mw mv = fX4_suits_l167 P1 P2 P3 P4 P5 pl' de' mw' mv' FU 0 ord ∧ ∀ q, q < N → GD F' S' W' V' pl' de' mw' mv' q)) := by
  obtain ⟨res, sr', ph', dg', vl', W', V', S', F', pt', md', nz', f1, f2, f3⟩ := read_l hk hg k 0 FU 0 0 0 0 0 0 0 0 F S W V pl de mw mv (by omega) (Nat.le_trans (by omega) FU_ge) (fun _ => rfl) (by unfold RN; omega) ⟨fun q hq => absurd hq (Nat.not_lt_zero q), fun h => absurd h (by omega), fun h => absurd h (by omega)⟩
  refine ⟨res, sr', ph', dg', vl', W', V', S', F', pt', md', nz', ?_, ?_, f3⟩
  · unfold fX1_read fX1_startNumber
    rw [bnd3_s]
    exact f1
  · unfold fX4_faultOfSuits
    exact f2
theorem P_fault {c : Nat → Int32} {ca : Nat → Nat → Int32} {m : Nat → Int32} {ma : Nat → Nat → Int32} {mh : Nat → Int64} (x1 : Int32) (hR : Rel c ca m ma) : ∃ (r : Int32) (a0 : Int32) (a1 : Int32) (a2 : Int32) (a3 : Int32) (a4 : Nat → Int32) (a5 : Nat → Int32) (a6 : Nat → Int32) (a7 : Nat → Int32) (b0 : Int32) (b1 : Int32) (b2 : Int32) (b3 : Int32), fX3_fault x1 (c 0) (c 31) (c 28) (c 29) (c 30) (c 5) (ca 0) (ca 24) (ca 25) (ca 23) (ca 22) = some (r, a0, a1, a2, a3, a4, a5, a6, a7) ∧ fX4_fault x1 (m 7) (m 8) (m 9) (m 10) (m 6) (m 4) (ma 7) = some (r, b0, b1, b2, b3) ∧ Rel (blI ((c 0) :: (c 1) :: (c 2) :: (c 3) :: (c 4) :: (c 5) :: (c 6) :: (c 7) :: (c 8) :: (c 9) :: (c 10) :: (c 11) :: (c 12) :: (c 13) :: (c 14) :: (c 15) :: (c 16) :: (c 17) :: (c 18) :: (c 19) :: (c 20) :: (c 21) :: (c 22) :: (c 23) :: (c 24) :: (c 25) :: (c 26) :: (c 27) :: a1 :: a2 :: a3 :: a0 :: [])) (blA ((ca 0) :: (ca 1) :: (ca 2) :: (ca 3) :: (ca 4) :: (ca 5) :: (ca 6) :: (ca 7) :: (ca 8) :: (ca 9) :: (ca 10) :: (ca 11) :: (ca 12) :: (ca 13) :: (ca 14) :: (ca 15) :: (ca 16) :: (ca 17) :: (ca 18) :: (ca 19) :: (ca 20) :: (ca 21) :: a7 :: a6 :: a4 :: a5 :: (ca 26) :: (ca 27) :: [])) (blI ((m 0) :: (m 1) :: (m 2) :: (m 3) :: (m 4) :: (m 5) :: (m 6) :: b0 :: b1 :: b2 :: b3 :: (m 11) :: (m 12) :: (m 13) :: (m 14) :: (m 15) :: (m 16) :: [])) ma := by
  obtain ⟨hp, hb, hrest⟩ := id hR
  obtain ⟨w, h, d, l, n, s, fi, se, wo, wi, ro, sw, sm, ⟨b1, b2, b3, b4, b5, b6, b7, b8⟩, ⟨e1, e2, e3, e4, e5, e6⟩, ⟨m1, m2, m3, m4, m5, m6⟩, hv, hr, hri, hc, hm, hs⟩ := hb
  obtain ⟨k, g, hk, ec, em, hg⟩ := hp
  unfold fX3_fault fX4_fault
  by_cases h0 : x1 = 0
  · simp only [if_pos h0]
    obtain ⟨res, sr', ph', dg', vl', W', V', S', F', pt', md', nz', f1, f2, f3⟩ := read0 hk hg (ca 22) (ca 23) (ca 24) (ca 25) (ma 0) (ma 1) (ma 2) (ma 3)
    rw [← ec] at f1
    rw [← em] at f2
    rw [f1, f2, bnd9_s, bnd5_s]
    exact ⟨_, _, _, _, _, _, _, _, _, _, _, _, _, rfl, rfl, hR⟩
  · simp only [if_neg h0]
    by_cases h1 : x1 = 1
    · simp only [if_pos h1]
      obtain ⟨v, f1, f2, f3⟩ := order_l b7 hk hg k 0 0 FU (by omega) (Nat.le_trans (by omega) FU_ge) (by omega) (by omega) (fun j hj => absurd hj (Nat.not_lt_zero j)) (fun j j' hj => absurd hj (Nat.not_lt_zero j)) (fun t ht => ⟨fun q => absurd q (by rw [Nat.zero_div]; decide), fun ⟨j, hj, _⟩ => absurd hj (Nat.not_lt_zero j)⟩)
      have f1 : fX3_orderFault (nI k) (nI n) (ca 0) = some v := f1
      have f2 : fX4_faultOfOrder (nI k) (nI n) (ma 7) = some v := f2
      rw [← ec, ← e5] at f1
      rw [← em, ← m5] at f2
      rw [f1, f2, bnd1_s, bnd1_s]
      exact ⟨_, _, _, _, _, _, _, _, _, _, _, _, _, rfl, rfl, hR⟩
    · simp only [if_neg h1]
      exact ⟨_, _, _, _, _, _, _, _, _, _, _, _, _, rfl, rfl, hR⟩
theorem take_l {N a b c e : _} : ∀ (r i fuel : Nat) (row : Nat → Int32), i + r = 6 → r + 1 ≤ fuel → (∀ q, q < i → row q = nI q) → ∃ row', fX0_take_l54 N a b c e fuel (nI i) row = some (N, 0, a, b, c, e, row') ∧ ∀ q, q < 6 → row' q = nI q
  | 0, i, fuel, row, hi, hf, hr => by
    obtain ⟨f, rfl⟩ : ∃ f, fuel = f + 1 := ⟨fuel - 1, by omega⟩
    exact ⟨row, by rw [fX0_take_l54, if_pos (show (6 : Int32) ≤ nI i from nI_le (a := 6) (by omega) (by omega))], fun q hq => hr q (by omega)⟩
  | r + 1, i, fuel, row, hi, hf, hr => by
    obtain ⟨f, rfl⟩ : ∃ f, fuel = f + 1 := ⟨fuel - 1, by omega⟩
    rw [fX0_take_l54, if_neg (show ¬ (6 : Int32) ≤ nI i from nI_ge (b := 6) (by omega) (by omega)), put_nI (by omega) (by omega), bnd1_s, nI_1]
    refine take_l r (i + 1) f _ (by omega) (by omega) (fun q hq => ?_)
    by_cases h : q = i
    · rw [h, upd_eq]
    · rw [upd_ne h]; exact hr q (by omega)
theorem fill_l {P1 P2 P3 P4 P5 : Int32} {a b c e : Nat → Int32} : ∀ (r i fuel : Nat) (row : Nat → Int32), i + r = 6 → r + 1 ≤ fuel → (∀ q, q < i → row q = nI q) → ∃ row', fX4_suits_l167 P1 P2 P3 P4 P5 a b c e fuel (nI i) row = some (P5, P1, P2, P3, P4, 0, P5, 0, a, b, c, e, row') ∧ ∀ q, q < 6 → row' q = nI q
  | 0, i, fuel, row, hi, hf, hr => by
    obtain ⟨f, rfl⟩ : ∃ f, fuel = f + 1 := ⟨fuel - 1, by omega⟩
    exact ⟨row, by rw [fX4_suits_l167, if_pos (show (6 : Int32) ≤ nI i from nI_le (a := 6) (by omega) (by omega))], fun q hq => hr q (by omega)⟩
  | r + 1, i, fuel, row, hi, hf, hr => by
    obtain ⟨f, rfl⟩ : ∃ f, fuel = f + 1 := ⟨fuel - 1, by omega⟩
    rw [fX4_suits_l167, if_neg (show ¬ (6 : Int32) ≤ nI i from nI_ge (b := 6) (by omega) (by omega)), if_pos (nI_inF (show i < 6 by omega) (by omega)), nI_clamp (by omega), nI_1]
    refine fill_l r (i + 1) f _ (by omega) (by omega) (fun q hq => ?_)
    by_cases h : q = i
    · rw [h, upd_eq]
    · rw [upd_ne h]; exact hr q (by omega)
theorem GD_fun {F S W V pl de mw mv : Nat → Int32} {N : Nat} (h : ∀ q, q < N → GD F S W V pl de mw mv q) : ∃ fi se wo wi : Nat → Nat, ∀ q, q < N → (1 ≤ fi q ∧ fi q ≤ 999 ∧ 1 ≤ se q ∧ se q ≤ 999 ∧ wo q ≤ 999 ∧ wi q ≤ 1) ∧ (F q = nI (fi q) ∧ S q = nI (se q) ∧ W q = nI (wo q) ∧ V q = nI (wi q)) ∧ (pl q = nI (fi q) ∧ de q = nI (se q) ∧ mw q = nI (wo q) ∧ mv q = nI (wi q)) := by
  have h2 : ∀ q, ∃ t : Nat × Nat × Nat × Nat, q < N → (1 ≤ t.1 ∧ t.1 ≤ 999 ∧ 1 ≤ t.2.1 ∧ t.2.1 ≤ 999 ∧ t.2.2.1 ≤ 999 ∧ t.2.2.2 ≤ 1) ∧ (F q = nI t.1 ∧ S q = nI t.2.1 ∧ W q = nI t.2.2.1 ∧ V q = nI t.2.2.2) ∧ (pl q = nI t.1 ∧ de q = nI t.2.1 ∧ mw q = nI t.2.2.1 ∧ mv q = nI t.2.2.2) := fun q => by
    by_cases hq : q < N
    · obtain ⟨a, b, c, e, g1, g2, g3⟩ := h q hq
      exact ⟨(a, b, c, e), fun _ => ⟨g1, g2, g3⟩⟩
    · exact ⟨(0, 0, 0, 0), fun h => absurd h hq⟩
  exact ⟨fun q => (Classical.choose (h2 q)).1, fun q => (Classical.choose (h2 q)).2.1, fun q => (Classical.choose (h2 q)).2.2.1, fun q => (Classical.choose (h2 q)).2.2.2, fun q hq => Classical.choose_spec (h2 q) hq⟩
theorem P_suits {c : Nat → Int32} {ca : Nat → Nat → Int32} {m : Nat → Int32} {ma : Nat → Nat → Int32} {mh : Nat → Int64} (hR : Rel c ca m ma) : ∃ (r : Int32) (a0 : Int32) (a1 : Int32) (a2 : Int32) (a3 : Int32) (a4 : Int32) (a5 : Int32) (a6 : Int32) (a7 : Nat → Int32) (a8 : Nat → Int32) (a9 : Nat → Int32) (a10 : Nat → Int32) (a11 : Nat → Int32) (a12 : Nat → Int32) (a13 : Nat → Int32) (a14 : Nat → Int32) (a15 : Nat → Int32) (b0 : Int32) (b1 : Int32) (b2 : Int32) (b3 : Int32) (b4 : Int32) (b5 : Int32) (b6 : Int32) (b7 : Nat → Int32) (b8 : Nat → Int32) (b9 : Nat → Int32) (b10 : Nat → Int32) (b11 : Nat → Int32), fX3_suits (c 0) (c 5) (c 6) (ca 0) (ca 24) (ca 25) (ca 23) (ca 22) (ca 1) (ca 2) (ca 3) (ca 4) (ca 5) = some (r, a0, a1, a2, a3, a4, a5, a6, a7, a8, a9, a10, a11, a12, a13, a14, a15) ∧ fX4_suits (m 6) (m 4) (m 5) (ma 7) (ma 0) (ma 1) (ma 2) (ma 3) (ma 4) = some (r, b0, b1, b2, b3, b4, b5, b6, b7, b8, b9, b10, b11) ∧ Rel (blI (a0 :: (c 1) :: (c 2) :: (c 3) :: (c 4) :: a5 :: a6 :: (c 7) :: (c 8) :: (c 9) :: (c 10) :: (c 11) :: (c 12) :: (c 13) :: (c 14) :: (c 15) :: (c 16) :: (c 17) :: (c 18) :: (c 19) :: (c 20) :: (c 21) :: (c 22) :: (c 23) :: (c 24) :: (c 25) :: (c 26) :: (c 27) :: a2 :: a3 :: a4 :: a1 :: [])) (blA ((ca 0) :: a11 :: a12 :: a13 :: a14 :: a15 :: (ca 6) :: (ca 7) :: (ca 8) :: (ca 9) :: (ca 10) :: (ca 11) :: (ca 12) :: (ca 13) :: (ca 14) :: (ca 15) :: (ca 16) :: (ca 17) :: (ca 18) :: (ca 19) :: (ca 20) :: (ca 21) :: a10 :: a9 :: a7 :: a8 :: (ca 26) :: (ca 27) :: [])) (blI ((m 0) :: (m 1) :: (m 2) :: (m 3) :: b5 :: b6 :: b4 :: b0 :: b1 :: b2 :: b3 :: (m 11) :: (m 12) :: (m 13) :: (m 14) :: (m 15) :: (m 16) :: [])) (blA (b7 :: b8 :: b9 :: b10 :: b11 :: (ma 5) :: (ma 6) :: (ma 7) :: (ma 8) :: (ma 9) :: (ma 10) :: (ma 11) :: (ma 12) :: (ma 13) :: (ma 14) :: (ma 15) :: [])) := by
  obtain ⟨hp, hb, hrest⟩ := id hR
  obtain ⟨w, h, d, l, n, s, fi, se, wo, wi, ro, sw, sm, ⟨b1, b2, b3, b4, b5, b6, b7, b8⟩, ⟨e1, e2, e3, e4, e5, e6⟩, ⟨m1, m2, m3, m4, m5, m6⟩, hv, hr, hri, hc, hm, hs⟩ := hb
  obtain ⟨k, g, hk, ec, em, hg⟩ := hp
  obtain ⟨res, sr', ph', dg', vl', W', V', S', F', pt', md', nz', f1, f2, f3⟩ := read0 hk hg (ca 22) (ca 23) (ca 24) (ca 25) (ma 0) (ma 1) (ma 2) (ma 3)
  rw [← ec] at f1
  rw [← em] at f2
  unfold fX3_suits fX4_suits
  rw [f1, f2, bnd9_s, bnd5_s]
  rcases f3 with ⟨t, ht, f3⟩ | ⟨f3, N, f4, f5, f6⟩
  · have hne : ¬ res = -6 := by rw [f3]; exact b_ne (z := -6) (by decide) (by rw [b_nI (by omega)]; omega)
    rw [if_neg hne, if_neg (by rw [f3]; exact nI_pos (by omega))]
    exact ⟨_, _, _, _, _, _, _, _, _, _, _, _, _, _, _, _, _, _, _, _, _, _, _, _, _, _, _, _, _, rfl, rfl, hR⟩
  · obtain ⟨pl', de', mw', mv', g1, g2⟩ := f6 pt' md' nz' sr' sr' (ma 4)
    rw [← em] at g1
    rw [if_pos f3, if_pos (by rw [f3]; decide), g1]
    unfold fX0_take
    obtain ⟨c1, p1, q1⟩ := copyRow_s (ca 1) F'
    obtain ⟨c2, p2, q2⟩ := copyRow_s (ca 2) S'
    obtain ⟨c3, p3, q3⟩ := copyRow_s (ca 3) W'
    obtain ⟨c4, p4, q4⟩ := copyRow_s (ca 4) V'
    obtain ⟨row, t1, t2⟩ := take_l (N := sr') (a := c1) (b := c2) (c := c3) (e := c4) 6 0 FU (ca 5) (by omega) (Nat.le_trans (by omega) FU_ge) (fun q hq => absurd hq (Nat.not_lt_zero q))
    obtain ⟨ord, u1, u2⟩ := fill_l (P1 := pt') (P2 := md') (P3 := nz') (P4 := sr') (P5 := sr') (a := pl') (b := de') (c := mw') (e := mv') 6 0 FU (ma 4) (by omega) (Nat.le_trans (by omega) FU_ge) (fun q hq => absurd hq (Nat.not_lt_zero q))
    have t1 : fX0_take_l54 sr' c1 c2 c3 c4 FU 0 (ca 5) = _ := t1
    have u1 : fX4_suits_l167 pt' md' nz' sr' sr' pl' de' mw' mv' FU 0 (ma 4) = _ := u1
    rw [p1, bnd1_s, p2, bnd1_s, p3, bnd1_s, p4, bnd1_s, t1, bnd7_s, u1]
    obtain ⟨fi', se', wo', wi', G⟩ := GD_fun g2
    refine ⟨_, _, _, _, _, _, _, _, _, _, _, _, _, _, _, _, _, _, _, _, _, _, _, _, _, _, _, _, _, rfl, rfl, ⟨0, g, by omega, rfl, rfl, fun j hj => absurd hj (Nat.not_lt_zero j)⟩, ⟨w, h, d, l, N, 0, fi', se', wo', wi', fun q => q, sw, sm, ⟨b1, b2, b3, b4, b5, b6, f4, by omega⟩, ⟨e1, e2, e3, e4, f5, rfl⟩, ⟨m1, m2, m3, m4, f5, rfl⟩, fun q hq => (G q hq).1, fun q hq => hq, fun i j _ _ e => e, fun q hq => ?_, fun q hq => ?_, fun q hq => absurd hq (Nat.not_lt_zero q)⟩, hrest⟩
    · obtain ⟨-, ⟨a1, a2, a3, a4⟩, -⟩ := G q hq
      exact ⟨(q1 q (by omega)).trans a1, (q2 q (by omega)).trans a2, (q3 q (by omega)).trans a3, (q4 q (by omega)).trans a4, t2 q (by omega)⟩
    · obtain ⟨-, -, ⟨a1, a2, a3, a4⟩⟩ := G q hq
      exact ⟨a1, a2, a3, a4, u2 q (by omega)⟩
