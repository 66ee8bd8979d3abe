theorem ten_le : ∀ n, n < 7 → 10 ^ n ≤ 1000000 := by decide
theorem HV_le {n l K : Nat} {fi se wo wi ro : Nat → Nat} (hV : VB n fi se wo wi ro) (hl : l ≤ 1) (hK : K ≤ n) (k : Nat) : HV l wo wi ro K n 0 k ≤ 10000 := by
  have hn := hV.1
  have hw : ∀ i, i < n → wo (ro i) ≤ 999 := fun i hi => (hV.2.1 (ro i) (hV.2.2 i hi)).2.2.2.2.1
  have h1 := SMn_le (f := PLf wo wi ro) (c := 999) K 0 (fun k _ hk => by
    have := hw k (by omega)
    show (if wi (ro k) = 0 then wo (ro k) else 0) ≤ 999
    split <;> omega)
  have h2 := SMn_le (f := DEf wo wi ro) (c := 999) K 0 (fun k _ hk => by
    have := hw k (by omega)
    show (if wi (ro k) = 0 then 0 else wo (ro k)) ≤ 999
    split <;> omega)
  have h3 := SMn_le (f := fun i => wo (ro i)) (c := 999) K 0 (fun k _ hk => hw k (by omega))
  have h4 : SWn wo ro K n 0 ≤ 999 := by
    unfold SWn
    by_cases h : K < n
    · rw [if_pos h, Nat.zero_add]; exact hw K h
    · rw [if_neg h]; omega
  unfold HV
  split
  · split <;> omega
  · split
    · omega
    · split
      · split <;> omega
      · omega
theorem likely_lc {n l w h d x c p q : Nat} {x4 : Int32} {fi se wo wi ro T : Nat → Nat} {cfi cse cwo cwi cro : Nat → Int32} (hV : VB n fi se wo wi ro) (hE : EN n fi se wo wi ro cfi cse cwo cwi cro) (hl : l ≤ 1) (hw : w ≤ 99) (hh : 1 ≤ h ∧ h ≤ 9) (hd : d ≤ 999) (hx : x ≤ 999) (hc : c ≤ 10) (hp : p < n) (hq : ro p = q) (hinj : ∀ j k, j < n → k < n → ro j = ro k → j = k) (hT : T = fun S => if KS fi se ro n (FL w h d) S x ≤ p then 0 else WYn S c n 0) :
    ∀ (r S acc fuel : Nat) (s1 s2 s3 s4 s5 s6 : Int32), S + r = 2 ^ n → r + 1 ≤ fuel → ∃ a1 a2 a3 a4 a5 a6, fX3_likely_l32 (nI q) (nI x) (nI c) x4 (nI n) (nI w) (nI h) (nI d) (nI l) cro cfi cse cwo cwi fuel (lN acc) (nI S) s1 s2 s3 s4 s5 s6 = bnd1 (fX3_lowest (lN (acc + SMn T r S)) (lN (10 ^ n)) x4) (fun r7 => some (r7, a1, a2, a3, a4, a5, a6))
  | 0, S, acc, fuel, s1, s2, s3, s4, s5, s6, hi, hf => by
    obtain ⟨f, rfl⟩ : ∃ f, fuel = f + 1 := ⟨fuel - 1, by omega⟩
    have hn := hV.1
    have h64 := two_le64 n (by omega)
    refine ⟨s1, s2, s3, s4, s5, s6, ?_⟩
    rw [fX3_likely_l32, sh1 n (by omega), if_pos (nI_le (by omega) (by omega)), show fX3_power 10 (nI n) = some (lN (10 ^ n)) from power_s (a := 10) (by omega) hn]
    rfl
  | r + 1, S, acc, fuel, s1, s2, s3, s4, s5, s6, hi, hf => by
    obtain ⟨f, rfl⟩ : ∃ f, fuel = f + 1 := ⟨fuel - 1, by omega⟩
    have hn := hV.1
    have h64 := two_le64 n (by omega)
    have hK := PLn_le (DUR fi se (EXS S x) ro) (FL w h d) n 0 0
    have hK : KS fi se ro n (FL w h d) S x ≤ n := hK
    rw [fX3_likely_l32, sh1 n (by omega), if_neg (nI_ge (by omega) (by omega)), sitS_c hV hE hl hw hh hd (by omega) hx, bnd6_s, nI_1, show acc + SMn T (r + 1) S = (acc + T S) + SMn T r (S + 1) from by rw [SMn]; omega]
    rw [place_c hn (fun i hi => ⟨hV.2.2 i hi, (hE i hi).2.2.2.2⟩) hp hq hinj p 0 FU (by omega) (Nat.le_trans (by omega) FU_ge) |> (show fX0_place_l2 (nI q) (nI n) cro FU (nI 0) = some (nI p) → fX0_place (nI q) (nI n) cro = some (nI p) from fun h => h), bnd1_s]
    by_cases hle : KS fi se ro n (FL w h d) S x ≤ p
    · have hT0 : T S = 0 := by rw [hT]; exact if_pos hle
      rw [if_pos (nI_le hle (by omega)), hT0, Nat.add_zero]
      exact likely_lc hV hE hl hw hh hd hx hc hp hq hinj hT r (S + 1) acc f _ _ _ _ _ _ (by omega) (by omega)
    · have hT0 : T S = WYn S c n 0 := by rw [hT]; exact if_neg hle
      rw [if_neg (nI_ge (by omega) (by omega)), ways_s hn (by omega) hc, bnd1_s, lN_add, hT0]
      exact likely_lc hV hE hl hw hh hd hx hc hp hq hinj hT r (S + 1) _ f _ _ _ _ _ _ (by omega) (by omega)
theorem likely_lm {n l w h d x c p q : Nat} {x4 : Int32} {fi se wo wi ro T : Nat → Nat} {mfi mse mwo mwi mro : Nat → Int32} (hV : VB n fi se wo wi ro) (hE : EN n fi se wo wi ro mfi mse mwo mwi mro) (hl : l ≤ 1) (hw : w ≤ 99) (hh : 1 ≤ h ∧ h ≤ 9) (hd : d ≤ 999) (hx : x ≤ 999) (hc : c ≤ 10) (hp : p < n) (hq : ro p = q) (hinj : ∀ j k, j < n → k < n → ro j = ro k → j = k) (hT : T = fun S => if KS fi se ro n (FL w h d) S x ≤ p then 0 else WYn S c n 0) :
    ∀ (r S acc fuel : Nat) (v1 v2 v3 v4 : Int32) (v5 v6 : Nat → Int32) (v7 : Nat → Int64), S + r = 2 ^ n → r + 1 ≤ fuel → ∃ u1 u2 u3 u4 u5 u6 u7, fX4_likely_l32 (nI q) (nI x) (nI c) x4 (nI n) (nI w) (nI h) (nI d) (nI l) mro mfi mse mwi mwo fuel (lN acc) (nI S) v1 v2 v3 v4 v5 v6 v7 = bnd1 (fX4_lowest (lN (acc + SMn T r S)) (lN (10 ^ n)) x4) (fun r7 => some (r7, u1, u2, u3, u4, u5, u6, u7))
  | 0, S, acc, fuel, v1, v2, v3, v4, v5, v6, v7, hi, hf => by
    obtain ⟨f, rfl⟩ : ∃ f, fuel = f + 1 := ⟨fuel - 1, by omega⟩
    have hn := hV.1
    have h64 := two_le64 n (by omega)
    refine ⟨v1, v2, v3, v4, v5, v6, v7, ?_⟩
    rw [fX4_likely_l32, sh1 n (by omega), if_pos (nI_le (by omega) (by omega)), allWays_s hn]
    rfl
  | r + 1, S, acc, fuel, v1, v2, v3, v4, v5, v6, v7, hi, hf => by
    obtain ⟨f, rfl⟩ : ∃ f, fuel = f + 1 := ⟨fuel - 1, by omega⟩
    have hn := hV.1
    have h64 := two_le64 n (by omega)
    have hK := PLn_le (DUR fi se (EXS S x) ro) (FL w h d) n 0 0
    have hK : KS fi se ro n (FL w h d) S x ≤ n := hK
    obtain ⟨b, e, z, z', g1, g2, g3, g4⟩ := laySit_m (d := d) (x := x) (c := c) (by' := v5) (ex' := v6) (has := v7) hV hE hl hw hh hd (show S < 64 by omega) hx hc
    rw [fX4_likely_l32, sh1 n (by omega), if_neg (nI_ge (by omega) (by omega)), g1, bnd6_s, g3, bnd3_s, nI_1, show acc + SMn T (r + 1) S = (acc + T S) + SMn T r (S + 1) from by rw [SMn]; omega]
    have hwd : fX4_wasDecided (nI q) (nI (KS fi se ro n (FL w h d) S x)) b = some (B01 (decide (p < KS fi se ro n (FL w h d) S x))) := by
      unfold fX4_wasDecided
      have := wasDecided_l hn hK (fun i hi => ⟨hV.2.2 i hi, g2 i hi⟩) hp hq hinj (KS fi se ro n (FL w h d) S x) 0 FU false (by omega) (Nat.le_trans (by omega) FU_ge)
      have this : fX4_wasDecided_l4 (nI q) (nI (KS fi se ro n (FL w h d) S x)) b FU 0 0 = _ := this
      rw [this, Bool.false_or]
      congr 2
      exact decide_eq_decide.mpr (by omega)
    rw [hwd, bnd1_s]
    by_cases hle : KS fi se ro n (FL w h d) S x ≤ p
    · have hT0 : T S = 0 := by rw [hT]; exact if_pos hle
      rw [decide_eq_false (show ¬ p < KS fi se ro n (FL w h d) S x by omega), if_pos (show B01 false = 0 from rfl), hT0, lL0, lN_add]
      exact likely_lm hV hE hl hw hh hd hx hc hp hq hinj hT r (S + 1) _ f _ _ _ _ _ _ _ (by omega) (by omega)
    · have hT0 : T S = WYn S c n 0 := by rw [hT]; exact if_neg hle
      rw [decide_eq_true (show p < KS fi se ro n (FL w h d) S x by omega), if_neg (show ¬ B01 true = 0 by decide), lN_add, hT0]
      exact likely_lm hV hE hl hw hh hd hx hc hp hq hinj hT r (S + 1) _ f _ _ _ _ _ _ _ (by omega) (by omega)
theorem P_likely {c : Nat → Int32} {ca : Nat → Nat → Int32} {m : Nat → Int32} {ma : Nat → Nat → Int32} {mh : Nat → Int64} (x1 x2 x3 x4 : Int32) (hR : Rel c ca m ma) : ∃ (r : Int64) (a0 : Int32) (a1 : Int32) (a2 : Int32) (a3 : Int32) (a4 : Int32) (a5 : Int32) (b0 : Int32) (b1 : Int32) (b2 : Int32) (b3 : Int32) (b4 : Nat → Int32) (b5 : Nat → Int32) (b6 : Nat → Int64), fX3_likely x1 x2 x3 x4 (c 5) (c 1) (c 2) (c 3) (c 22) (c 23) (c 24) (c 25) (c 26) (c 27) (c 4) (ca 5) (ca 1) (ca 2) (ca 3) (ca 4) = some (r, a0, a1, a2, a3, a4, a5) ∧ fX4_likely x1 x2 x3 x4 (m 4) (m 11) (m 0) (m 1) (m 2) (m 12) (m 13) (m 14) (m 3) (ma 4) (ma 8) (ma 9) mh (ma 0) (ma 1) (ma 3) (ma 2) = some (r, b0, b1, b2, b3, b4, b5, b6) ∧ Rel (blI ((c 0) :: (c 1) :: (c 2) :: (c 3) :: (c 4) :: (c 5) :: (c 6) :: (c 7) :: (c 8) :: (c 9) :: (c 10) :: (c 11) :: (c 12) :: (c 13) :: (c 14) :: (c 15) :: (c 16) :: (c 17) :: (c 18) :: (c 19) :: (c 20) :: (c 21) :: a0 :: a1 :: a2 :: a3 :: a4 :: a5 :: (c 28) :: (c 29) :: (c 30) :: (c 31) :: [])) ca (blI ((m 0) :: (m 1) :: (m 2) :: (m 3) :: (m 4) :: (m 5) :: (m 6) :: (m 7) :: (m 8) :: (m 9) :: (m 10) :: b0 :: b1 :: b2 :: b3 :: (m 15) :: (m 16) :: [])) (blA ((ma 0) :: (ma 1) :: (ma 2) :: (ma 3) :: (ma 4) :: (ma 5) :: (ma 6) :: (ma 7) :: b4 :: b5 :: (ma 10) :: (ma 11) :: (ma 12) :: (ma 13) :: (ma 14) :: (ma 15) :: [])) := by
  obtain ⟨hp, hb, hrest⟩ := id hR
  obtain ⟨w, h, d, l, n, s, fi, se, wo, wi, ro, sw, sm, ⟨b1, b2, b3, b4, b5, b6, b7, b8⟩, ⟨e1, e2, e3, e4, e5, e6⟩, ⟨m1, m2, m3, m4, m5, m6⟩, hv, hr, hri, hc, hm, hs⟩ := hb
  have hV : VB n fi se wo wi ro := ⟨b7, hv, hr⟩
  have h64 := two_le64 n (by omega)
  unfold fX3_likely fX4_likely
  have i1 := isSuit_c x1 b7
  have i2 := isSuit_m x1 b7
  rw [← e5] at i1
  rw [← m5] at i2
  rw [i1, i2, bnd1_s, bnd1_s]
  by_cases hin : 0 ≤ x1.toInt ∧ x1.toInt ≤ (n : Int) - 1
  · simp only [if01_t hin]
    rw [chance_c, chance_m, bnd1_s, bnd1_s]
    by_cases hin2 : (0 ≤ x2.toInt ∧ x2.toInt ≤ 999) ∧ (0 ≤ x3.toInt ∧ x3.toInt ≤ 10) ∧ (0 ≤ x4.toInt ∧ x4.toInt ≤ 1)
    · simp only [if01_t hin2]
      obtain ⟨x, -, hx, hx2⟩ := b_of hin2.1.1
      obtain ⟨c', -, hc', hc2⟩ := b_of hin2.2.1.1
      obtain ⟨q, -, hq, hq2⟩ := b_of hin.1
      have hqn : q < n := by omega
      obtain ⟨pos, hpos⟩ := places hr hri
      obtain ⟨p1, p2⟩ := hpos q hqn
      obtain ⟨T, hT⟩ : ∃ T : Nat → Nat, T = fun S => if KS fi se ro n (FL w h d) S x ≤ pos q then 0 else WYn S c' n 0 := ⟨_, rfl⟩
      have hTb : ∀ S, S < 2 ^ n → T S ≤ 1000000 := fun S _ => by
        have h1 := WYn_le (S := S) (c := c') (by omega) n 0
        have h2 := ten_le n (by omega)
        rw [hT]
        show (if KS fi se ro n (FL w h d) S x ≤ pos q then 0 else WYn S c' n 0) ≤ 1000000
        split <;> omega
      have hA := SMn_le (f := T) (c := 1000000) (2 ^ n) 0 (fun k _ hk => hTb k (by omega))
      have hA2 : 2 ^ n * 1000000 ≤ 64 * 1000000 := Nat.mul_le_mul_right _ h64
      have ht := ten_le n (by omega)
      obtain ⟨v, l1, l2⟩ := lowest_s (A := SMn T (2 ^ n) 0) (B := 10 ^ n) (by omega) (Nat.pow_pos (by omega)) (by omega) x4
      obtain ⟨a1, a2, a3, a4, a5, a6, f1⟩ := likely_lc (d := d) (x := x) (c := c') (x4 := x4) hV hc b6 b2 ⟨b3, b4⟩ b5 (by omega) (by omega) p1 p2 hri hT (2 ^ n) 0 0 FU (c 22) (c 23) (c 24) (c 25) (c 26) (c 27) (by omega) (Nat.le_trans (by omega) FU_ge)
      obtain ⟨u1, u2, u3, u4, u5, u6, u7, f2⟩ := likely_lm (d := d) (x := x) (c := c') (x4 := x4) hV hm b6 b2 ⟨b3, b4⟩ b5 (by omega) (by omega) p1 p2 hri hT (2 ^ n) 0 0 FU (m 11) (m 12) (m 13) (m 14) (ma 8) (ma 9) mh (by omega) (Nat.le_trans (by omega) FU_ge)
      rw [Nat.zero_add] at f1 f2
      rw [l1, bnd1_s] at f1
      rw [l2, bnd1_s] at f2
      rw [← e1, ← e2, ← e3, ← e4, ← e5, ← hx, ← hc', ← hq] at f1
      rw [← m1, ← m2, ← m3, ← m4, ← m5, ← hx, ← hc', ← hq] at f2
      exact ⟨v, a1, a2, a3, a4, a5, a6, u1, u2, u3, u4, u5, u6, u7, f1, f2, hR⟩
    · simp only [if01_f hin2]
      exact ⟨_, _, _, _, _, _, _, _, _, _, _, _, _, _, rfl, rfl, hR⟩
  · simp only [if01_f hin]
    exact ⟨_, _, _, _, _, _, _, _, _, _, _, _, _, _, rfl, rfl, hR⟩
theorem mean_lc {n l w h d x c j : Nat} {x4 : Int32} {fi se wo wi ro T : Nat → Nat} {cfi cse cwo cwi cro : Nat → Int32} (hV : VB n fi se wo wi ro) (hE : EN n fi se wo wi ro cfi cse cwo cwi cro) (hl : l ≤ 1) (hw : w ≤ 99) (hh : 1 ≤ h ∧ h ≤ 9) (hd : d ≤ 999) (hx : x ≤ 999) (hc : c ≤ 10) (hj : j < 4) (hT : T = fun S => WYn S c n 0 * HV l wo wi ro (KS fi se ro n (FL w h d) S x) n 0 j) :
    ∀ (r S acc fuel : Nat) (s1 s2 s3 s4 s5 s6 : Int32), S + r = 2 ^ n → r + 1 ≤ fuel → ∃ a1 a2 a3 a4 a5 a6, fX3_mean_l27 (nI j) (nI x) (nI c) x4 (nI n) (nI w) (nI h) (nI d) (nI l) cro cfi cse cwo cwi fuel (lN acc) (nI S) s1 s2 s3 s4 s5 s6 = bnd1 (fX3_lowest (lN (acc + SMn T r S)) (lN (10 ^ n)) x4) (fun r7 => some (r7, a1, a2, a3, a4, a5, a6))
  | 0, S, acc, fuel, s1, s2, s3, s4, s5, s6, hi, hf => by
    obtain ⟨f, rfl⟩ : ∃ f, fuel = f + 1 := ⟨fuel - 1, by omega⟩
    have hn := hV.1
    have h64 := two_le64 n (by omega)
    refine ⟨s1, s2, s3, s4, s5, s6, ?_⟩
    rw [fX3_mean_l27, sh1 n (by omega), if_pos (nI_le (by omega) (by omega)), show fX3_power 10 (nI n) = some (lN (10 ^ n)) from power_s (a := 10) (by omega) hn]
    rfl
  | r + 1, S, acc, fuel, s1, s2, s3, s4, s5, s6, hi, hf => by
    obtain ⟨f, rfl⟩ : ∃ f, fuel = f + 1 := ⟨fuel - 1, by omega⟩
    have hn := hV.1
    have h64 := two_le64 n (by omega)
    have hK := PLn_le (DUR fi se (EXS S x) ro) (FL w h d) n 0 0
    have hK : KS fi se ro n (FL w h d) S x ≤ n := hK
    rw [fX3_mean_l27, sh1 n (by omega), if_neg (nI_ge (by omega) (by omega)), sitS_c hV hE hl hw hh hd (by omega) hx, bnd6_s, nI_1, show acc + SMn T (r + 1) S = (acc + T S) + SMn T r (S + 1) from by rw [SMn]; omega]
    have hH := HV_le hV hl hK j
    have hT0 : T S = WYn S c n 0 * HV l wo wi ro (KS fi se ro n (FL w h d) S x) n 0 j := by rw [hT]
    rw [ways_s hn (by omega) hc, bnd1_s, has_c hj, bnd1_s, hvj hj (fun k => HV l wo wi ro (KS fi se ro n (FL w h d) S x) n 0 k), nI_l (by omega), lN_mul, lN_add, hT0]
    exact mean_lc hV hE hl hw hh hd hx hc hj hT r (S + 1) _ f _ _ _ _ _ _ (by omega) (by omega)
theorem mean_lm {n l w h d x c j : Nat} {x4 : Int32} {fi se wo wi ro T : Nat → Nat} {mfi mse mwo mwi mro : Nat → Int32} (hV : VB n fi se wo wi ro) (hE : EN n fi se wo wi ro mfi mse mwo mwi mro) (hl : l ≤ 1) (hw : w ≤ 99) (hh : 1 ≤ h ∧ h ≤ 9) (hd : d ≤ 999) (hx : x ≤ 999) (hc : c ≤ 10) (hj : j < 4) (hT : T = fun S => WYn S c n 0 * HV l wo wi ro (KS fi se ro n (FL w h d) S x) n 0 j) :
    ∀ (r S acc fuel : Nat) (v1 v2 v3 v4 : Int32) (v5 v6 : Nat → Int32) (v7 : Nat → Int64), S + r = 2 ^ n → r + 1 ≤ fuel → ∃ u1 u2 u3 u4 u5 u6 u7, fX4_mean_l27 (nI j) (nI x) (nI c) x4 (nI n) (nI w) (nI h) (nI d) (nI l) mro mfi mse mwi mwo fuel (lN acc) (nI S) v1 v2 v3 v4 v5 v6 v7 = bnd1 (fX4_lowest (lN (acc + SMn T r S)) (lN (10 ^ n)) x4) (fun r7 => some (r7, u1, u2, u3, u4, u5, u6, u7))
  | 0, S, acc, fuel, v1, v2, v3, v4, v5, v6, v7, hi, hf => by
    obtain ⟨f, rfl⟩ : ∃ f, fuel = f + 1 := ⟨fuel - 1, by omega⟩
    have hn := hV.1
    have h64 := two_le64 n (by omega)
    refine ⟨v1, v2, v3, v4, v5, v6, v7, ?_⟩
    rw [fX4_mean_l27, sh1 n (by omega), if_pos (nI_le (by omega) (by omega)), allWays_s hn]
    rfl
  | r + 1, S, acc, fuel, v1, v2, v3, v4, v5, v6, v7, hi, hf => by
    obtain ⟨f, rfl⟩ : ∃ f, fuel = f + 1 := ⟨fuel - 1, by omega⟩
    have hn := hV.1
    have h64 := two_le64 n (by omega)
    have hK := PLn_le (DUR fi se (EXS S x) ro) (FL w h d) n 0 0
    have hK : KS fi se ro n (FL w h d) S x ≤ n := hK
    obtain ⟨b, e, z, z', g1, g2, g3, g4⟩ := laySit_m (d := d) (x := x) (c := c) (by' := v5) (ex' := v6) (has := v7) hV hE hl hw hh hd (show S < 64 by omega) hx hc
    rw [fX4_mean_l27, sh1 n (by omega), if_neg (nI_ge (by omega) (by omega)), g1, bnd6_s, g3, bnd3_s, nI_1, show acc + SMn T (r + 1) S = (acc + T S) + SMn T r (S + 1) from by rw [SMn]; omega]
    have hT0 : T S = WYn S c n 0 * HV l wo wi ro (KS fi se ro n (FL w h d) S x) n 0 j := by rw [hT]
    rw [if_pos (nI_inF hj (by omega)), nI_clamp (by omega), g4 j hj, lN_mul, lN_add, hT0]
    exact mean_lm hV hE hl hw hh hd hx hc hj hT r (S + 1) _ f _ _ _ _ _ _ _ (by omega) (by omega)
theorem P_mean {c : Nat → Int32} {ca : Nat → Nat → Int32} {m : Nat → Int32} {ma : Nat → Nat → Int32} {mh : Nat → Int64} (x1 x2 x3 x4 : Int32) (hR : Rel c ca m ma) : ∃ (r : Int64) (a0 : Int32) (a1 : Int32) (a2 : Int32) (a3 : Int32) (a4 : Int32) (a5 : Int32) (b0 : Int32) (b1 : Int32) (b2 : Int32) (b3 : Int32) (b4 : Nat → Int32) (b5 : Nat → Int32) (b6 : Nat → Int64), fX3_mean x1 x2 x3 x4 (c 5) (c 1) (c 2) (c 3) (c 22) (c 23) (c 24) (c 25) (c 26) (c 27) (c 4) (ca 5) (ca 1) (ca 2) (ca 3) (ca 4) = some (r, a0, a1, a2, a3, a4, a5) ∧ fX4_mean x1 x2 x3 x4 (m 4) (m 11) (m 0) (m 1) (m 2) (m 12) (m 13) (m 14) (m 3) (ma 4) (ma 8) (ma 9) mh (ma 0) (ma 1) (ma 3) (ma 2) = some (r, b0, b1, b2, b3, b4, b5, b6) ∧ Rel (blI ((c 0) :: (c 1) :: (c 2) :: (c 3) :: (c 4) :: (c 5) :: (c 6) :: (c 7) :: (c 8) :: (c 9) :: (c 10) :: (c 11) :: (c 12) :: (c 13) :: (c 14) :: (c 15) :: (c 16) :: (c 17) :: (c 18) :: (c 19) :: (c 20) :: (c 21) :: a0 :: a1 :: a2 :: a3 :: a4 :: a5 :: (c 28) :: (c 29) :: (c 30) :: (c 31) :: [])) ca (blI ((m 0) :: (m 1) :: (m 2) :: (m 3) :: (m 4) :: (m 5) :: (m 6) :: (m 7) :: (m 8) :: (m 9) :: (m 10) :: b0 :: b1 :: b2 :: b3 :: (m 15) :: (m 16) :: [])) (blA ((ma 0) :: (ma 1) :: (ma 2) :: (ma 3) :: (ma 4) :: (ma 5) :: (ma 6) :: (ma 7) :: b4 :: b5 :: (ma 10) :: (ma 11) :: (ma 12) :: (ma 13) :: (ma 14) :: (ma 15) :: [])) := by
  obtain ⟨hp, hb, hrest⟩ := id hR
  obtain ⟨w, h, d, l, n, s, fi, se, wo, wi, ro, sw, sm, ⟨b1, b2, b3, b4, b5, b6, b7, b8⟩, ⟨e1, e2, e3, e4, e5, e6⟩, ⟨m1, m2, m3, m4, m5, m6⟩, hv, hr, hri, hc, hm, hs⟩ := hb
  have hV : VB n fi se wo wi ro := ⟨b7, hv, hr⟩
  have h64 := two_le64 n (by omega)
  unfold fX3_mean fX4_mean
  rw [isSide_c x1, isSide_m x1, bnd1_s, bnd1_s]
  by_cases hin : 0 ≤ x1.toInt ∧ x1.toInt ≤ 3
  · simp only [if01_t hin]
    rw [chance_c, chance_m, bnd1_s, bnd1_s]
    by_cases hin2 : (0 ≤ x2.toInt ∧ x2.toInt ≤ 999) ∧ (0 ≤ x3.toInt ∧ x3.toInt ≤ 10) ∧ (0 ≤ x4.toInt ∧ x4.toInt ≤ 1)
    · simp only [if01_t hin2]
      obtain ⟨x, -, hx, hx2⟩ := b_of hin2.1.1
      obtain ⟨c', -, hc', hc2⟩ := b_of hin2.2.1.1
      obtain ⟨j, -, hj, hj2⟩ := b_of hin.1
      have hj4 : j < 4 := by omega
      obtain ⟨T, hT⟩ : ∃ T : Nat → Nat, T = fun S => WYn S c' n 0 * HV l wo wi ro (KS fi se ro n (FL w h d) S x) n 0 j := ⟨_, rfl⟩
      have hTb : ∀ S, S < 2 ^ n → T S ≤ 1000000 * 10000 := fun S _ => by
        have h1 := WYn_le (S := S) (c := c') (by omega) n 0
        have h2 := ten_le n (by omega)
        have hK := PLn_le (DUR fi se (EXS S x) ro) (FL w h d) n 0 0
        have h3 := HV_le hV b6 (show KS fi se ro n (FL w h d) S x ≤ n from hK) j
        rw [hT]
        exact Nat.mul_le_mul (by omega) h3
      have hA := SMn_le (f := T) (c := (1000000 * 10000)) (2 ^ n) 0 (fun k _ hk => hTb k (by omega))
      have hA2 : 2 ^ n * (1000000 * 10000) ≤ 64 * (1000000 * 10000) := Nat.mul_le_mul_right _ h64
      have ht := ten_le n (by omega)
      obtain ⟨v, l1, l2⟩ := lowest_s (A := SMn T (2 ^ n) 0) (B := 10 ^ n) (by omega) (Nat.pow_pos (by omega)) (by omega) x4
      obtain ⟨a1, a2, a3, a4, a5, a6, f1⟩ := mean_lc (d := d) (x := x) (c := c') (x4 := x4) hV hc b6 b2 ⟨b3, b4⟩ b5 (by omega) (by omega) hj4 hT (2 ^ n) 0 0 FU (c 22) (c 23) (c 24) (c 25) (c 26) (c 27) (by omega) (Nat.le_trans (by omega) FU_ge)
      obtain ⟨u1, u2, u3, u4, u5, u6, u7, f2⟩ := mean_lm (d := d) (x := x) (c := c') (x4 := x4) hV hm b6 b2 ⟨b3, b4⟩ b5 (by omega) (by omega) hj4 hT (2 ^ n) 0 0 FU (m 11) (m 12) (m 13) (m 14) (ma 8) (ma 9) mh (by omega) (Nat.le_trans (by omega) FU_ge)
      rw [Nat.zero_add] at f1 f2
      rw [l1, bnd1_s] at f1
      rw [l2, bnd1_s] at f2
      rw [← e1, ← e2, ← e3, ← e4, ← e5, ← hx, ← hc', ← hj] at f1
      rw [← m1, ← m2, ← m3, ← m4, ← m5, ← hx, ← hc', ← hj] at f2
      exact ⟨v, a1, a2, a3, a4, a5, a6, u1, u2, u3, u4, u5, u6, u7, f1, f2, hR⟩
    · simp only [if01_f hin2]
      exact ⟨_, _, _, _, _, _, _, _, _, _, _, _, _, _, rfl, rfl, hR⟩
  · simp only [if01_f hin]
    exact ⟨_, _, _, _, _, _, _, _, _, _, _, _, _, _, rfl, rfl, hR⟩
