theorem orI : ∀ M, M < 64 → ∀ t, t < 6 → M / 2 ^ t % 2 = 0 → (nI M ||| (1 <<< (nI t &&& 31)) : Int32) = nI (M + 2 ^ t) ∧ M + 2 ^ t < 64 := by decide +kernel
theorem orBit : ∀ M, M < 64 → ∀ t, t < 6 → M / 2 ^ t % 2 = 0 → ∀ u, u < 6 → (M + 2 ^ t) / 2 ^ u % 2 = if u = t then 1 else M / 2 ^ u % 2 := by decide +kernel
theorem order_l {n k : Nat} {g : Nat → Nat} {cp mp : Nat → Int32} (hn : n ≤ 6) (hk : k ≤ 60) (hg : ∀ j, j < k → 33 ≤ g j ∧ g j ≤ 126 ∧ cp j = nI (g j) ∧ mp j = nI (g j)) :
    ∀ (r i M fuel : Nat), i + r = k → r + 1 ≤ fuel → i ≤ n → M < 64 → (∀ j, j < i → 48 ≤ g j ∧ g j - 48 < n) → (∀ j j', j < i → j' < i → g j = g j' → j = j') → (∀ t, t < 6 → (M / 2 ^ t % 2 = 1 ↔ ∃ j, j < i ∧ g j = 48 + t)) →
      ∃ v, fX3_orderFault_l4 (nI k) (nI n) cp fuel (nI M) (nI i) = some v ∧ fX4_faultOfOrder_l4 (nI k) (nI n) mp fuel (nI M) (nI i) = some v ∧
        ((v = -6 ∧ k = n ∧ (∀ j, j < n → 48 ≤ g j ∧ g j - 48 < n) ∧ ∀ j j', j < n → j' < n → g j = g j' → j = j') ∨ ∃ t, t ≤ 60 ∧ v = nI t)
  | 0, i, M, fuel, hi, hf, hin, hM, h1, h2, h3 => by
    obtain ⟨f, rfl⟩ : ∃ f, fuel = f + 1 := ⟨fuel - 1, by omega⟩
    have hkk : (nI k : Int32) ≤ nI i := nI_le (by omega) (by omega)
    rw [fX3_orderFault_l4, fX4_faultOfOrder_l4]
    simp only [if_pos hkk]
    by_cases h : n ≤ k
    · simp only [if_pos (show (nI n : Int32) ≤ nI k from nI_le h (by omega))]
      have hkn : k = n := by omega
      have hik : i = n := by omega
      rw [hik] at h1 h2
      exact ⟨_, rfl, rfl, Or.inl ⟨rfl, hkn, h1, h2⟩⟩
    · simp only [if_neg (show ¬ (nI n : Int32) ≤ nI k from nI_ge (by omega) (by omega))]
      exact ⟨_, rfl, rfl, Or.inr ⟨k, hk, rfl⟩⟩
  | r + 1, i, M, fuel, hi, hf, hin, hM, h1, h2, h3 => by
    obtain ⟨f, rfl⟩ : ∃ f, fuel = f + 1 := ⟨fuel - 1, by omega⟩
    obtain ⟨g1, g2, g3, g4⟩ := hg i (by omega)
    have hx : (nI (g i) - 48 : Int32).toInt = (g i : Int) - 48 := by
      rw [b_sub, b_nI (by omega)]
      · rfl
      · rw [b_nI (by omega)]; show _ ≤ (g i : Int) - 48; omega
      · rw [b_nI (by omega)]; show (g i : Int) - 48 < _; omega
    rw [fX3_orderFault_l4, fX4_faultOfOrder_l4, if_neg (nI_ge (show i < k by omega) (by omega)), if_neg (nI_ge (show i < k by omega) (by omega)), at_nI (show i < 60 by omega) (by omega), bnd1_s, g3, if_pos (nI_inF (show i < 60 by omega) (by omega)), nI_clamp (by omega), g4, isSuit_c _ hn, isSuit_m _ hn, bnd1_s, bnd1_s, hx]
    have stop : ∃ v, some (nI i) = some v ∧ some (nI i) = some v ∧ ((v = -6 ∧ k = n ∧ (∀ j, j < n → 48 ≤ g j ∧ g j - 48 < n) ∧ ∀ j j', j < n → j' < n → g j = g j' → j = j') ∨ ∃ t, t ≤ 60 ∧ v = nI t) := ⟨_, rfl, rfl, Or.inr ⟨i, by omega, rfl⟩⟩
    by_cases hs : (0 : Int) ≤ (g i : Int) - 48 ∧ (g i : Int) - 48 ≤ (n : Int) - 1
    · simp only [if01_t hs]
      have ht : (nI (g i) - 48 : Int32) = nI (g i - 48) := pk_sub (b := 48) (by omega)
      have htn : g i - 48 < n := by omega
      rw [ht, bitI M hM _ (by omega)]
      by_cases hb : M / 2 ^ (g i - 48) % 2 = 0
      · have hne : i ≠ n := fun e => by
          obtain ⟨p, p1, p2⟩ := fb_onto (n := n) (f := fun j => g j - 48) (fun j hj => (h1 j (by omega)).2) (fun a b hab hb e2 => by
            have e2 : g a - 48 = g b - 48 := e2
            have := h1 a (by omega)
            have := h1 b (by omega)
            have := h2 a b (by omega) (by omega) (by omega)
            omega) htn
          have p2 : g p - 48 = g i - 48 := p2
          have := h1 p (by omega)
          have := (h3 (g i - 48) (by omega)).mpr ⟨p, by omega, by omega⟩
          omega
        rw [hb, if_pos (show (nI 0 : Int32) = 0 from rfl), if_neg (show ¬ (nI 0 : Int32) = 1 by decide), if_neg (fun e => hne ((nI_eq (by omega) (by omega)).mp e)), (orI M hM _ (by omega) hb).1, nI_1]
        have hM2 := (orI M hM _ (by omega) hb).2
        refine order_l hn hk hg r (i + 1) _ f (by omega) (by omega) (by omega) hM2 (fun j hj => ?_) (fun j j' hj hj' e => ?_) (fun t ht6 => ?_)
        · by_cases hji : j = i
          · rw [hji]; omega
          · exact h1 j (by omega)
        · have hnot : ∀ j, j < i → g j ≠ g i := fun j hj e => by
            have := (h3 (g i - 48) (by omega)).mpr ⟨j, hj, by omega⟩
            omega
          by_cases hji : j = i
          · by_cases hji' : j' = i
            · omega
            · exact absurd (by rw [← e, hji]) (hnot j' (by omega))
          · by_cases hji' : j' = i
            · exact absurd (by rw [e, hji']) (hnot j (by omega))
            · exact h2 j j' (by omega) (by omega) e
        · rw [orBit M hM _ (by omega) hb t ht6]
          by_cases htt : t = g i - 48
          · rw [if_pos htt]
            exact ⟨fun _ => ⟨i, by omega, by omega⟩, fun _ => rfl⟩
          · rw [if_neg htt, h3 t ht6]
            refine ⟨fun ⟨j, hj, e⟩ => ⟨j, by omega, e⟩, fun ⟨j, hj, e⟩ => ?_⟩
            by_cases hji : j = i
            · rw [hji] at e; omega
            · exact ⟨j, by omega, e⟩
      · rw [if_neg (nI_ne0 (by omega) (by omega)), show M / 2 ^ (g i - 48) % 2 = 1 by omega, if_pos (show (nI 1 : Int32) = 1 from rfl), ite_self]
        exact stop
    · simp only [if01_f hs, ite_self]
      exact stop
theorem lay_lc {n : Nat} {g : Nat → Nat} {cp : Nat → Int32} (hn : n ≤ 6) (hg : ∀ j, j < n → 48 ≤ g j ∧ cp j = nI (g j)) : ∀ (r i fuel : Nat) (row : Nat → Int32), i + r = n → r + 1 ≤ fuel → (∀ j, j < i → row j = nI (g j - 48)) → ∃ row', fX3_lay_l14 (nI n) cp fuel (nI i) row = some (1, 0, row') ∧ ∀ j, j < n → row' j = nI (g j - 48)
  | 0, i, fuel, row, hi, hf, hr => by
    obtain ⟨f, rfl⟩ : ∃ f, fuel = f + 1 := ⟨fuel - 1, by omega⟩
    exact ⟨row, by rw [fX3_lay_l14, if_pos (nI_le (by omega) (by omega))], fun j hj => hr j (by omega)⟩
  | r + 1, i, fuel, row, hi, hf, hr => by
    obtain ⟨f, rfl⟩ : ∃ f, fuel = f + 1 := ⟨fuel - 1, by omega⟩
    rw [fX3_lay_l14, if_neg (nI_ge (by omega) (by omega)), at_nI (by omega) (by omega), bnd1_s, put_nI (by omega) (by omega), bnd1_s, (hg i (by omega)).2, show (nI (g i) - 48 : Int32) = nI (g i - 48) from pk_sub (b := 48) (hg i (by omega)).1, nI_1]
    refine lay_lc hn hg r (i + 1) f _ (by omega) (by omega) (fun j hj => ?_)
    unfold upd
    by_cases h : j = i
    · rw [if_pos h, h]
    · rw [if_neg h]; exact hr j (by omega)
theorem lay_lm {n : Nat} {g : Nat → Nat} {cp : Nat → Int32} (hn : n ≤ 6) (hg : ∀ j, j < n → 48 ≤ g j ∧ cp j = nI (g j)) : ∀ (r i fuel : Nat) (row : Nat → Int32), i + r = n → r + 1 ≤ fuel → (∀ j, j < i → row j = nI (g j - 48)) → ∃ row', fX4_lay_l12 (nI n) cp fuel (nI i) row = some (1, 0, row') ∧ ∀ j, j < n → row' j = nI (g j - 48)
  | 0, i, fuel, row, hi, hf, hr => by
    obtain ⟨f, rfl⟩ : ∃ f, fuel = f + 1 := ⟨fuel - 1, by omega⟩
    exact ⟨row, by rw [fX4_lay_l12, if_pos (nI_le (by omega) (by omega))], fun j hj => hr j (by omega)⟩
  | r + 1, i, fuel, row, hi, hf, hr => by
    obtain ⟨f, rfl⟩ : ∃ f, fuel = f + 1 := ⟨fuel - 1, by omega⟩
    rw [fX4_lay_l12, if_neg (nI_ge (by omega) (by omega)), if_pos (nI_inF (show i < 60 by omega) (by omega)), if_pos (nI_inF (show i < 6 by omega) (by omega)), nI_clamp (by omega), (hg i (by omega)).2, show (nI (g i) - 48 : Int32) = nI (g i - 48) from pk_sub (b := 48) (hg i (by omega)).1, nI_1]
    refine lay_lm hn hg r (i + 1) f _ (by omega) (by omega) (fun j hj => ?_)
    unfold upd
    by_cases h : j = i
    · rw [if_pos h, h]
    · rw [if_neg h]; exact hr j (by omega)
theorem P_lay {c : Nat → Int32} {ca : Nat → Nat → Int32} {m : Nat → Int32} {ma : Nat → Nat → Int32} {mh : Nat → Int64} (hR : Rel c ca m ma) : ∃ (r : Int32) (a0 : Int32) (a1 : Nat → Int32) (b0 : Int32) (b1 : Nat → Int32), fX3_lay (c 0) (c 5) (ca 0) (ca 5) = some (r, a0, a1) ∧ fX4_lay (m 6) (m 4) (ma 7) (ma 4) = some (r, b0, b1) ∧ Rel (blI (a0 :: (c 1) :: (c 2) :: (c 3) :: (c 4) :: (c 5) :: (c 6) :: (c 7) :: (c 8) :: (c 9) :: (c 10) :: (c 11) :: (c 12) :: (c 13) :: (c 14) :: (c 15) :: (c 16) :: (c 17) :: (c 18) :: (c 19) :: (c 20) :: (c 21) :: (c 22) :: (c 23) :: (c 24) :: (c 25) :: (c 26) :: (c 27) :: (c 28) :: (c 29) :: (c 30) :: (c 31) :: [])) (blA ((ca 0) :: (ca 1) :: (ca 2) :: (ca 3) :: (ca 4) :: a1 :: (ca 6) :: (ca 7) :: (ca 8) :: (ca 9) :: (ca 10) :: (ca 11) :: (ca 12) :: (ca 13) :: (ca 14) :: (ca 15) :: (ca 16) :: (ca 17) :: (ca 18) :: (ca 19) :: (ca 20) :: (ca 21) :: (ca 22) :: (ca 23) :: (ca 24) :: (ca 25) :: (ca 26) :: (ca 27) :: [])) (blI ((m 0) :: (m 1) :: (m 2) :: (m 3) :: (m 4) :: (m 5) :: b0 :: (m 7) :: (m 8) :: (m 9) :: (m 10) :: (m 11) :: (m 12) :: (m 13) :: (m 14) :: (m 15) :: (m 16) :: [])) (blA ((ma 0) :: (ma 1) :: (ma 2) :: (ma 3) :: b1 :: (ma 5) :: (ma 6) :: (ma 7) :: (ma 8) :: (ma 9) :: (ma 10) :: (ma 11) :: (ma 12) :: (ma 13) :: (ma 14) :: (ma 15) :: [])) := by
  obtain ⟨hp, hb, hrest⟩ := id hR
  obtain ⟨w, h, d, l, n, s, fi, se, wo, wi, ro, sw, sm, ⟨b1, b2, b3, b4, b5, b6, b7, b8⟩, ⟨e1, e2, e3, e4, e5, e6⟩, ⟨m1, m2, m3, m4, m5, m6⟩, hv, hr, hri, hc, hm, hs⟩ := hb
  obtain ⟨k, g, hk, ec, em, hg⟩ := hp
  obtain ⟨v, f1, f2, f3⟩ := order_l b7 hk hg k 0 0 FU (by omega) (Nat.le_trans (by omega) FU_ge) (by omega) (by omega) (fun j hj => absurd hj (Nat.not_lt_zero j)) (fun j j' hj => absurd hj (Nat.not_lt_zero j)) (fun t ht => ⟨fun q => absurd q (by rw [Nat.zero_div]; decide), fun ⟨j, hj, _⟩ => absurd hj (Nat.not_lt_zero j)⟩)
  have f1 : fX3_orderFault (nI k) (nI n) (ca 0) = some v := f1
  have f2 : fX4_faultOfOrder (nI k) (nI n) (ma 7) = some v := f2
  rw [← ec, ← e5] at f1
  rw [← em, ← m5] at f2
  unfold fX3_lay fX4_lay
  rw [f1, f2, bnd1_s, bnd1_s]
  rcases f3 with ⟨q1, q2, q3, q4⟩ | ⟨t, ht, q1⟩
  · rw [if_pos q1, if_pos (by rw [q1]; decide)]
    obtain ⟨row, r1, r2⟩ := lay_lc (cp := ca 0) b7 (fun j hj => ⟨(q3 j hj).1, (hg j (by omega)).2.2.1⟩) n 0 FU (ca 5) (by omega) (Nat.le_trans (by omega) FU_ge) (fun j hj => absurd hj (Nat.not_lt_zero j))
    obtain ⟨row2, r3, r4⟩ := lay_lm (cp := ma 7) b7 (fun j hj => ⟨(q3 j hj).1, (hg j (by omega)).2.2.2⟩) n 0 FU (ma 4) (by omega) (Nat.le_trans (by omega) FU_ge) (fun j hj => absurd hj (Nat.not_lt_zero j))
    rw [← e5] at r1
    rw [← m5] at r3
    refine ⟨1, 0, row, 0, row2, r1, r3, ⟨0, g, by omega, rfl, rfl, fun j hj => absurd hj (Nat.not_lt_zero j)⟩, ⟨w, h, d, l, n, s, fi, se, wo, wi, fun j => g j - 48, sw, sm, ⟨b1, b2, b3, b4, b5, b6, b7, b8⟩, ⟨e1, e2, e3, e4, e5, e6⟩, ⟨m1, m2, m3, m4, m5, m6⟩, hv, fun j hj => (q3 j hj).2, fun j j' hj hj' e => ?_, fun j hj => ?_, fun j hj => ?_, hs⟩, hrest⟩
    · have e : g j - 48 = g j' - 48 := e
      have := q3 j hj
      have := q3 j' hj'
      exact q4 j j' hj hj' (by omega)
    · obtain ⟨a1, a2, a3, a4, a5⟩ := hc j hj
      exact ⟨a1, a2, a3, a4, r2 j hj⟩
    · obtain ⟨a1, a2, a3, a4, a5⟩ := hm j hj
      exact ⟨a1, a2, a3, a4, r4 j hj⟩
  · have hne : ¬ v = -6 := by rw [q1]; exact b_ne (z := -6) (by decide) (by rw [b_nI (by omega)]; omega)
    rw [if_neg hne, if_neg (by rw [q1]; exact nI_pos (by omega))]
    exact ⟨_, _, _, _, _, rfl, rfl, hR⟩
