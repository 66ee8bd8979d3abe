theorem PLn_shift {f g : Nat → Nat} {a F : Nat} (h : ∀ k, g k = f (a + k)) : ∀ r i sec, PLn g F r i sec = PLn f F r (a + i) sec
  | 0, _, _ => rfl
  | r + 1, i, sec => by
    simp only [PLn, h, PLn_shift h r (i + 1), ← Nat.add_assoc]
theorem SMn_shift {f g : Nat → Nat} {a : Nat} (h : ∀ k, g k = f (a + k)) : ∀ r i, SMn g r i = SMn f r (a + i)
  | 0, _ => rfl
  | r + 1, i => by
    simp only [SMn, h, SMn_shift h r (i + 1), ← Nat.add_assoc]
theorem HV_shift (l : Nat) (wo wi ro : Nat → Nat) (a K r k : Nat) : HV l wo wi (fun k => ro (a + k)) K r 0 k = HV l wo wi ro K r a k := by
  unfold HV SWn
  rw [SMn_shift (f := PLf wo wi ro) (a := a) (fun k => rfl), SMn_shift (f := DEf wo wi ro) (a := a) (fun k => rfl), SMn_shift (f := fun i => wo (ro i)) (a := a) (fun k => rfl)]
  simp only [Nat.add_zero, Nat.zero_add]
theorem SKn_shift (ro : Nat → Nat) (a K r : Nat) : SKn (fun k => ro (a + k)) K r 0 = SKn ro K r a := by
  unfold SKn
  simp only [Nat.zero_add]
abbrev KA (fi se ro : Nat → Nat) (F r a : Nat) : Nat := PLn (DUR fi se (fun _ => 0) ro) F r a 0
theorem plA_c {n l F r a : Nat} {fi se wo wi ro : Nat → Nat} {cfi cse cwo cwi cro : Nat → Int32} (hV : VB n fi se wo wi ro) (hE : EN n fi se wo wi ro cfi cse cwo cwi cro) (hl : l ≤ 1) (hF : F < 10000) (ha : a + r = n) :
    fX2_plead (nI a) (nI F) 0 0 (nI n) (nI l) cro cfi cse cwo cwi 6 = some (nI (KA fi se ro F r a), SKn ro (KA fi se ro F r a) r a, nI (HV l wo wi ro (KA fi se ro F r a) r a 0), nI (HV l wo wi ro (KA fi se ro F r a) r a 1), nI (HV l wo wi ro (KA fi se ro F r a) r a 2), nI (HV l wo wi ro (KA fi se ro F r a) r a 3)) := by
  unfold fX2_plead
  have hp := plead_c (BD_of (ex := fun _ => 0) hV hE (fun _ _ => by show 0 ≤ 999; omega)) hF hl (x5 := 0) (x6 := 0) drawn0 r a 0 0 0 0 0 FU ha (Nat.le_trans (by have := hV.1; omega) FU_ge) (by omega)
  have hp : fX2_plead_l37 (nI F) 0 0 (nI n) (nI l) cro cfi cse cwo cwi 6 FU 0 (nI a) 0 (-6) 0 0 0 0 = _ := hp
  rw [hp]
  simp only [HV, Nat.zero_add]
  rfl
theorem plA_m {n l F r a : Nat} {fi se wo wi ro hv : Nat → Nat} {b0 b e mfi mse mwo mwi : Nat → Int32} {has : Nat → Int64} (hB : BM n ro fi se wo wi (fun _ => 0) b0 mfi mse mwo mwi e) (hl : l ≤ 1) (hF : F < 10000) (ha : a + r = n) (hb : ∀ k, k < r → b k = nI (ro (a + k))) (hh : ∀ k, k < 4 → has k = lN (hv k)) :
    ∃ has', fX4_plead (nI r) (nI F) (nI l) b mfi mse e mwi has mwo = some (nI (KA fi se ro F r a), SKn ro (KA fi se ro F r a) r a, has') ∧ ∀ k, k < 4 → has' k = lN (hv k + HV l wo wi ro (KA fi se ro F r a) r a k) := by
  have hB2 : BM r (fun k => ro (a + k)) fi se wo wi (fun _ => 0) b mfi mse mwo mwi e := by
    obtain ⟨⟨h1, h2⟩, h3⟩ := hB
    refine ⟨⟨by omega, fun i hi => ?_⟩, fun i hi => h3 (a + i) (by omega)⟩
    obtain ⟨q1, q2, q3, q4, q5, q6, q7, q8, q9, q10, q11⟩ := h2 (a + i) (by omega)
    exact ⟨q1, hb i hi, q3, q4, q5, q6, q7, q8, q9, q10, q11⟩
  obtain ⟨has', g1, g2⟩ := pl0_m hB2 hl hF hh
  have hK : KF fi se (fun k => ro (a + k)) r F = KA fi se ro F r a := by
    show PLn _ F r 0 0 = PLn _ F r a 0
    rw [PLn_shift (f := DUR fi se (fun _ => 0) ro) (a := a) (fun k => rfl), Nat.add_zero]
  rw [hK] at g1 g2
  refine ⟨has', ?_, fun k hk => ?_⟩
  · rw [g1, SKn_shift]
  · rw [g2 k hk, HV_shift]
theorem has_m1 (a b c d : Int32) : fX2_has (-1) d c b a = some 0 := by
  unfold fX2_has
  rw [if_neg (by decide), if_neg (by decide), if_neg (by decide), if_neg (by decide)]
theorem shift_m {q s : Nat} {dec sk x2 : Int32} {has : Nat → Int64} {B : Nat → Int32} {kk : (Int32) → (Int32) → (Int32) → (Int32) → (Nat → Int32) → (Nat → Int64) → Option (Int32 × (Int32) × (Int32) × (Int32) × (Int32) × (Nat → Int32) × (Nat → Int32) × (Nat → Int64))} (h6 : q + s ≤ 6) :
    ∀ (r i fuel : Nat) (b : Nat → Int32), i + r = q → r + 1 ≤ fuel → (∀ k, k < i → b k = B (k + s)) → (∀ k, i ≤ k → b k = B k) → ∃ b', fX4_term_l75 (nI q) dec sk has x2 (nI s) kk fuel (nI i) b = kk x2 (nI q) dec sk b' has ∧ ∀ k, k < q → b' k = B (k + s)
  | 0, i, fuel, b, hi, hf, h1, h2 => by
    obtain ⟨f, rfl⟩ : ∃ f, fuel = f + 1 := ⟨fuel - 1, by omega⟩
    exact ⟨b, by rw [fX4_term_l75, if_pos (nI_le (by omega) (by omega))], fun k hk => h1 k (by omega)⟩
  | r + 1, i, fuel, b, hi, hf, h1, h2 => by
    obtain ⟨f, rfl⟩ : ∃ f, fuel = f + 1 := ⟨fuel - 1, by omega⟩
    rw [fX4_term_l75, if_neg (nI_ge (by omega) (by omega)), nI_add, if_pos (nI_inF (show i + s < 6 by omega) (by omega)), if_pos (nI_inF (show i < 6 by omega) (by omega)), nI_clamp (by omega), nI_clamp (by omega), nI_1]
    refine shift_m h6 r (i + 1) f _ (by omega) (by omega) (fun k hk => ?_) (fun k hk => ?_)
    · unfold upd
      by_cases h : k = i
      · rw [if_pos h, h]; exact h2 (i + s) (by omega)
      · rw [if_neg h]; exact h1 k (by omega)
    · unfold upd
      rw [if_neg (by omega)]; exact h2 k (by omega)
theorem term_l {n l F : Nat} {x1 : Int32} {fi se wo wi ro : Nat → Nat} {cfi cse cwo cwi cro b0 e mfi mse mwo mwi : Nat → Int32} {cw ch cd : Int32} (hfl : fX0_floats cw ch cd = some (nI F)) (hV : VB n fi se wo wi ro) (hE : EN n fi se wo wi ro cfi cse cwo cwi cro) (hB : BM n ro fi se wo wi (fun _ => 0) b0 mfi mse mwo mwi e) (hl : l ≤ 1) (hF : F < 10000) :
    ∀ (N r a t fuel fuel2 : Nat) (x3 s1 s2 s3 s4 s5 s6 v2 v3 : Int32) (b : Nat → Int32) (has : Nat → Int64) (hv : Nat → Nat), r ≤ N → a + r = n → t ≤ a → N + 1 ≤ fuel → N + 1 ≤ fuel2 → (∀ k, k < r → b k = nI (ro (a + k))) → (∀ k, k < 4 → has k = lN (hv k)) → (x1 = -1 ∨ ∃ j, j < 4 ∧ x1 = nI j ∧ x3 = nI (hv j)) →
      ∃ v a1 a2 a3 a4 a5 a6 u1 u2 u3 u4 u5 u6 u7, fX3_term_l25 x1 (nI n) cw ch cd (nI l) cro cfi cse cwo cwi fuel (nI t) x3 (nI a) (nI t) s1 s2 s3 s4 s5 s6 = some (v, a1, a2, a3, a4, a5, a6) ∧
        fX4_term_l23 x1 (nI F) (nI l) e mfi mse mwi mwo fuel2 (nI t) (nI r) v2 v3 b has = some (v, u1, u2, u3, u4, u5, u6, u7)
  | N, 0, a, t, fuel, fuel2, x3, s1, s2, s3, s4, s5, s6, v2, v3, b, has, hv, hN, ha, ht, hf, hf2, hb, hh, hx => by
    obtain ⟨f, rfl⟩ : ∃ f, fuel = f + 1 := ⟨fuel - 1, by omega⟩
    obtain ⟨f2, rfl⟩ : ∃ f, fuel2 = f + 1 := ⟨fuel2 - 1, by omega⟩
    have hn := hV.1
    have hC : fX3_term_l25 x1 (nI n) cw ch cd (nI l) cro cfi cse cwo cwi (f + 1) (nI t) x3 (nI a) (nI t) s1 s2 s3 s4 s5 s6 = fX3_term_j123 x1 s1 s2 s3 s4 s5 s6 (nI t) x3 := by
      rw [fX3_term_l25]
      by_cases h6 : (6 : Int32) ≤ nI t
      · rw [if_pos h6]
      · rw [if_neg h6, if_pos (nI_le (by omega) (by omega))]
    rw [hC, fX4_term_l23, if_pos (show nI 0 ≤ (0 : Int32) by decide)]
    unfold fX3_term_j123
    rcases hx with hx1 | ⟨j, hj, hx1, hx2⟩
    · rw [if_pos hx1, if_pos hx1]
      exact ⟨_, _, _, _, _, _, _, _, _, _, _, _, _, _, rfl, rfl⟩
    · have hne : ¬ x1 = -1 := by rw [hx1]; exact b_ne (z := -1) (by decide) (by rw [b_nI (by omega)]; omega)
      rw [if_neg hne, if_neg hne, hx1, if_pos (nI_inF hj (by omega)), nI_clamp (by omega), hh j hj, lN_i, hx2]
      exact ⟨_, _, _, _, _, _, _, _, _, _, _, _, _, _, rfl, rfl⟩
  | 0, r + 1, a, t, fuel, fuel2, x3, s1, s2, s3, s4, s5, s6, v2, v3, b, has, hv, hN, ha, ht, hf, hf2, hb, hh, hx => absurd hN (by omega)
  | N + 1, r + 1, a, t, fuel, fuel2, x3, s1, s2, s3, s4, s5, s6, v2, v3, b, has, hv, hN, ha, ht, hf, hf2, hb, hh, hx => by
    obtain ⟨f, rfl⟩ : ∃ f, fuel = f + 1 := ⟨fuel - 1, by omega⟩
    obtain ⟨f2, rfl⟩ : ∃ f, fuel2 = f + 1 := ⟨fuel2 - 1, by omega⟩
    have hn := hV.1
    have hK := PLn_le (DUR fi se (fun _ => 0) ro) F (r + 1) a 0
    obtain ⟨has', g1, g2⟩ := plA_m hB hl hF ha hb hh
    have c1 := plA_c hV hE hl hF ha
    obtain ⟨K, hKe⟩ : ∃ K, K = KA fi se ro F (r + 1) a := ⟨_, rfl⟩
    have hK : K ≤ r + 1 := by rw [hKe]; exact hK
    rw [← hKe] at g1 g2 c1
    have hJ : ∃ x3' : Int32, fX2_has x1 (nI (HV l wo wi ro K (r + 1) a 3)) (nI (HV l wo wi ro K (r + 1) a 2)) (nI (HV l wo wi ro K (r + 1) a 1)) (nI (HV l wo wi ro K (r + 1) a 0)) = some x3' ∧ (x1 = -1 ∨ ∃ j, j < 4 ∧ x1 = nI j ∧ x3 + x3' = nI (hv j + HV l wo wi ro K (r + 1) a j)) := by
      rcases hx with hx1 | ⟨j, hj, hx1, hx2⟩
      · exact ⟨0, by rw [hx1, has_m1], Or.inl hx1⟩
      · refine ⟨nI (HV l wo wi ro K (r + 1) a j), ?_, Or.inr ⟨j, hj, hx1, by rw [hx2, nI_add]⟩⟩
        rw [hx1, has_c hj, hvj hj (fun k => HV l wo wi ro K (r + 1) a k)]
    obtain ⟨x3', j1, j2⟩ := hJ
    rw [fX3_term_l25, if_neg (show ¬ (6 : Int32) ≤ nI t from nI_ge (b := 6) (by omega) (by omega)), if_neg (nI_ge (by omega) (by omega)), hfl, bnd1_s, c1, bnd6_s, fX4_term_l23, if_neg (show ¬ nI (r + 1) ≤ (0 : Int32) from nI_nle (by omega) (by omega)), g1, bnd3_s]
    unfold fX3_term_j99 fX4_term_j61
    rw [j1]
    simp only [bnd1_s, nI_1]
    by_cases hKr : K < r + 1
    · have hsk : SKn ro K (r + 1) a = nI (ro (a + K)) := by unfold SKn; rw [if_pos hKr]
      have hr := hV.2.2 (a + K) (by omega)
      rw [if_neg (by rw [hsk]; exact b_ne (z := -6) (by decide) (by rw [b_nI (by omega)]; omega)), if_neg (nI_ge hKr (by omega)), pk_sub (by omega), nI_add a (K + 1)]
      obtain ⟨b', s1', s2'⟩ := shift_m (q := r + 1 - (K + 1)) (s := K + 1) (dec := nI K) (sk := SKn ro K (r + 1) a) (x2 := nI (t + 1)) (has := has') (B := b) (kk := fX4_term_l23 x1 (nI F) (nI l) e mfi mse mwi mwo f2) (by omega) (r + 1 - (K + 1)) 0 FU b (by omega) (Nat.le_trans (by omega) FU_ge) (fun k hk => absurd hk (Nat.not_lt_zero k)) (fun k _ => rfl)
      have s1' : fX4_term_l75 (nI (r + 1 - (K + 1))) (nI K) (SKn ro K (r + 1) a) has' (nI (t + 1)) (nI (K + 1)) (fX4_term_l23 x1 (nI F) (nI l) e mfi mse mwi mwo f2) FU 0 b = _ := s1'
      rw [s1']
      exact term_l hfl hV hE hB hl hF N (r + 1 - (K + 1)) (a + (K + 1)) (t + 1) f f2 _ _ _ _ _ _ _ _ _ b' has' _ (by omega) (by omega) (by omega) (by omega) (by omega) (fun k hk => by rw [s2' k hk, hb (k + (K + 1)) (by omega)]; congr 2; omega) g2 j2
    · have hKe2 : K = r + 1 := by omega
      have hsk : SKn ro K (r + 1) a = -6 := by unfold SKn; rw [if_neg hKr]
      rw [if_pos hsk, if_pos (nI_le (by omega) (by omega)), pk_sub (by omega), show (nI a + (nI K + 0) : Int32) = nI (a + K) from by rw [show (0 : Int32) = nI 0 from rfl, nI_add, nI_add]; rfl]
      obtain ⟨b', s1', s2'⟩ := shift_m (q := r + 1 - K) (s := K) (dec := nI K) (sk := SKn ro K (r + 1) a) (x2 := nI (t + 1)) (has := has') (B := b) (kk := fX4_term_l23 x1 (nI F) (nI l) e mfi mse mwi mwo f2) (by omega) (r + 1 - K) 0 FU b (by omega) (Nat.le_trans (by omega) FU_ge) (fun k hk => absurd hk (Nat.not_lt_zero k)) (fun k _ => rfl)
      have s1' : fX4_term_l75 (nI (r + 1 - K)) (nI K) (SKn ro K (r + 1) a) has' (nI (t + 1)) (nI K) (fX4_term_l23 x1 (nI F) (nI l) e mfi mse mwi mwo f2) FU 0 b = _ := s1'
      rw [s1']
      exact term_l hfl hV hE hB hl hF N (r + 1 - K) (a + K) (t + 1) f f2 _ _ _ _ _ _ _ _ _ b' has' _ (by omega) (by omega) (by omega) (by omega) (by omega) (fun k hk => by omega) g2 j2
theorem P_term {c : Nat → Int32} {ca : Nat → Nat → Int32} {m : Nat → Int32} {ma : Nat → Nat → Int32} {mh : Nat → Int64} (x1 : Int32) (hR : Rel c ca m ma) : ∃ (r : Int32) (a0 : Int32) (a1 : Int32) (a2 : Int32) (a3 : Int32) (a4 : Int32) (a5 : Int32) (b0 : Int32) (b1 : Int32) (b2 : Int32) (b3 : Int32) (b4 : Nat → Int32) (b5 : Nat → Int32) (b6 : Nat → Int64), fX3_term x1 (c 5) (c 1) (c 2) (c 3) (c 22) (c 23) (c 24) (c 25) (c 26) (c 27) (c 4) (ca 5) (ca 1) (ca 2) (ca 3) (ca 4) = some (r, a0, a1, a2, a3, a4, a5) ∧ fX4_term x1 (m 4) (m 11) (m 0) (m 1) (m 2) (m 12) (m 13) (m 14) (m 3) (ma 4) (ma 8) (ma 9) mh (ma 0) (ma 1) (ma 3) (ma 2) = some (r, b0, b1, b2, b3, b4, b5, b6) ∧ Rel (blI ((c 0) :: (c 1) :: (c 2) :: (c 3) :: (c 4) :: (c 5) :: (c 6) :: (c 7) :: (c 8) :: (c 9) :: (c 10) :: (c 11) :: (c 12) :: (c 13) :: (c 14) :: (c 15) :: (c 16) :: (c 17) :: (c 18) :: (c 19) :: (c 20) :: (c 21) :: a0 :: a1 :: a2 :: a3 :: a4 :: a5 :: (c 28) :: (c 29) :: (c 30) :: (c 31) :: [])) ca (blI ((m 0) :: (m 1) :: (m 2) :: (m 3) :: (m 4) :: (m 5) :: (m 6) :: (m 7) :: (m 8) :: (m 9) :: (m 10) :: b0 :: b1 :: b2 :: b3 :: (m 15) :: (m 16) :: [])) (blA ((ma 0) :: (ma 1) :: (ma 2) :: (ma 3) :: (ma 4) :: (ma 5) :: (ma 6) :: (ma 7) :: b4 :: b5 :: (ma 10) :: (ma 11) :: (ma 12) :: (ma 13) :: (ma 14) :: (ma 15) :: [])) := by
  obtain ⟨hp, hb, hrest⟩ := id hR
  obtain ⟨w, h, d, l, n, s, fi, se, wo, wi, ro, sw, sm, ⟨b1, b2, b3, b4, b5, b6, b7, b8⟩, ⟨e1, e2, e3, e4, e5, e6⟩, ⟨m1, m2, m3, m4, m5, m6⟩, hv, hr, hri, hc, hm, hs⟩ := hb
  have hV : VB n fi se wo wi ro := ⟨b7, hv, hr⟩
  obtain ⟨b, e, z, g1, hB, g3⟩ := lay0_m (d := d) hV hm b2 ⟨b3, b4⟩ (by' := ma 8) (ex' := ma 9) (has := mh)
  have hfl : fX0_floats (c 1) (c 2) (c 3) = some (nI (FL w h d)) := by rw [e1, e2, e3]; exact floats_c b2 ⟨b3, b4⟩
  rw [← m1, ← m2, ← m3, ← m5] at g1
  have main : (x1 = -1 ∨ ∃ j, j < 4 ∧ x1 = nI j ∧ (0 : Int32) = nI ((fun _ => 0) j)) → ∃ v a1 a2 a3 a4 a5 a6 u1 u2 u3 u4 u5 u6 u7, fX3_term_l25 x1 (c 5) (c 1) (c 2) (c 3) (c 4) (ca 5) (ca 1) (ca 2) (ca 3) (ca 4) FU 0 0 0 0 (c 22) (c 23) (c 24) (c 25) (c 26) (c 27) = some (v, a1, a2, a3, a4, a5, a6) ∧
        fX4_term_l23 x1 (nI (FL w h d)) (m 3) e (ma 0) (ma 1) (ma 3) (ma 2) FU 0 (m 4) (m 13) (m 14) b z = some (v, u1, u2, u3, u4, u5, u6, u7) := fun hx => by
    rw [e4, e5, m4, m5]
    exact term_l hfl hV hc hB b6 (FL_le b2 b5) n n 0 0 FU FU 0 (c 22) (c 23) (c 24) (c 25) (c 26) (c 27) (m 13) (m 14) b z (fun _ => 0) (Nat.le_refl _) (by omega) (by omega) (Nat.le_trans (by omega) FU_ge) (Nat.le_trans (by omega) FU_ge) (fun k hk => by rw [Nat.zero_add]; exact (hB.1.2 k hk).2.1) g3 hx
  unfold fX3_term fX4_term fX3_term_j15
  rw [in_eq2 x1 (a := -1) (b := 3) (by decide) rfl, isSide_c x1, bnd1_s, bnd1_s]
  by_cases h1 : x1 = -1
  · have hin3 : -1 ≤ x1.toInt ∧ x1.toInt ≤ 3 := by rw [h1]; decide
    obtain ⟨v, a1, a2, a3, a4, a5, a6, u1, u2, u3, u4, u5, u6, u7, f1, f2⟩ := main (Or.inl h1)
    simp only [if01_t hin3, if_pos h1]
    rw [f1, g1, bnd5_s, f2]
    exact ⟨_, _, _, _, _, _, _, _, _, _, _, _, _, _, rfl, rfl, hR⟩
  · simp only [if_neg h1]
    by_cases hin3 : 0 ≤ x1.toInt ∧ x1.toInt ≤ 3
    · have hin4 : -1 ≤ x1.toInt ∧ x1.toInt ≤ 3 := by omega
      simp only [if01_t hin3, if01_t hin4]
      obtain ⟨j, -, hj, hj2⟩ := b_of hin3.1
      obtain ⟨v, a1, a2, a3, a4, a5, a6, u1, u2, u3, u4, u5, u6, u7, f1, f2⟩ := main (Or.inr ⟨j, by omega, hj, rfl⟩)
      rw [f1, g1, bnd5_s, f2]
      exact ⟨_, _, _, _, _, _, _, _, _, _, _, _, _, _, rfl, rfl, hR⟩
    · have hin4 : ¬ (-1 ≤ x1.toInt ∧ x1.toInt ≤ 3) := fun q => by
        have : x1.toInt = -1 := by omega
        exact h1 ((b_eq _ _).mpr (by rw [this]; decide))
      simp only [if01_f hin3, if01_f hin4]
      exact ⟨_, _, _, _, _, _, _, _, _, _, _, _, _, _, rfl, rfl, hR⟩
