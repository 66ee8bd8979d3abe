abbrev KF (fi se ro : Nat → Nat) (n F : Nat) : Nat := PLn (DUR fi se (fun _ => 0) ro) F n 0 0
theorem pl0_c {n l F : Nat} {fi se wo wi ro : Nat → Nat} {cfi cse cwo cwi cro : Nat → Int32} (hV : VB n fi se wo wi ro) (hE : EN n fi se wo wi ro cfi cse cwo cwi cro) (hl : l ≤ 1) (hF : F < 10000) :
    fX2_plead 0 (nI F) 0 0 (nI n) (nI l) cro cfi cse cwo cwi 6 = some (nI (KF fi se ro n F), SKn ro (KF fi se ro n F) n 0, nI (HV l wo wi ro (KF fi se ro n F) n 0 0), nI (HV l wo wi ro (KF fi se ro n F) n 0 1), nI (HV l wo wi ro (KF fi se ro n F) n 0 2), nI (HV l wo wi ro (KF fi se ro n F) n 0 3)) := by
  unfold fX2_plead
  have hp := plead_c (BD_of (ex := fun _ => 0) hV hE (fun _ _ => by show 0 ≤ 999; omega)) hF hl (x5 := 0) (x6 := 0) drawn0 n 0 0 0 0 0 0 FU (by omega) (Nat.le_trans (by have := hV.1; omega) FU_ge) (by omega)
  have hp : fX2_plead_l37 (nI F) 0 0 (nI n) (nI l) cro cfi cse cwo cwi 6 FU 0 0 0 (-6) 0 0 0 0 = _ := hp
  rw [hp]
  simp only [HV, Nat.zero_add]
  rfl
theorem pl0_m {n l F : Nat} {fi se wo wi ro hv : Nat → Nat} {b e mfi mse mwo mwi : Nat → Int32} {has : Nat → Int64} (hB : BM n ro fi se wo wi (fun _ => 0) b mfi mse mwo mwi e) (hl : l ≤ 1) (hF : F < 10000) (hh : ∀ k, k < 4 → has k = lN (hv k)) :
    ∃ has', fX4_plead (nI n) (nI F) (nI l) b mfi mse e mwi has mwo = some (nI (KF fi se ro n F), SKn ro (KF fi se ro n F) n 0, has') ∧ ∀ k, k < 4 → has' k = lN (hv k + HV l wo wi ro (KF fi se ro n F) n 0 k) := by
  unfold fX4_plead
  obtain ⟨z', e1, e2⟩ := plead_m (l := l) hB hF hl n 0 0 FU has hv (by omega) (Nat.le_trans (by have := hB.1.1; omega) FU_ge) (by omega) hh
  refine ⟨z', ?_, e2⟩
  have e1 : fX4_plead_l13 (-6) (nI n) (nI F) (nI l) b mfi mse e mwi mwo FU 0 0 has = _ := e1
  rw [e1, Nat.zero_add]
theorem lay0_m {n w h d : Nat} {fi se wo wi ro : Nat → Nat} {mfi mse mwo mwi mro by' ex' : Nat → Int32} {has : Nat → Int64} (hV : VB n fi se wo wi ro) (hE : EN n fi se wo wi ro mfi mse mwo mwi mro) (hw : w ≤ 99) (hh : 1 ≤ h ∧ h ≤ 9) :
    ∃ b e z, fX4_layNow (nI n) (nI w) (nI h) (nI d) mro by' ex' has = some (nI n, nI (FL w h d), b, e, z) ∧ BM n ro fi se wo wi (fun _ => 0) b mfi mse mwo mwi e ∧ ∀ k, k < 4 → z k = lN ((fun _ => 0) k) := by
  obtain ⟨b, e, z, h1, h2, h3⟩ := layNow_m (n := n) (d := d) (order := mro) (by' := by') (ex' := ex') (has := has) hw hh
  have hn := hV.1
  have hE2 : EN n fi se wo wi ro mfi mse mwo mwi b := fun k hk => by
    obtain ⟨a1, a2, a3, a4, a5⟩ := hE k hk
    exact ⟨a1, a2, a3, a4, by rw [(h2 k (by omega)).1]; exact a5⟩
  exact ⟨b, e, z, h1, ⟨BD_of (ex := fun _ => 0) hV hE2 (fun _ _ => by show 0 ≤ 999; omega), fun i hi => (h2 (ro i) (by have := hV.2.2 i hi; omega)).2⟩, h3⟩
theorem hvj {j : Nat} (hj : j < 4) (f : Nat → Nat) : (if j = 0 then nI (f 0) else if j = 1 then nI (f 1) else if j = 2 then nI (f 2) else nI (f 3)) = nI (f j) := by
  have : j = 0 ∨ j = 1 ∨ j = 2 ∨ j = 3 := by omega
  rcases this with rfl | rfl | rfl | rfl <;> rfl
/-- a year's sum: r days left, the number is y -/
def YR (val : Nat → Nat) : Nat → Nat → Nat
  | 0, _ => 0
  | r + 1, y => val (1 + (75 * y + 74) % 65537 % 99) + YR val r ((75 * y + 74) % 65537)
theorem yr_c {y : Nat} (h : y < 65537) : (75 * nI y + 74 - (75 * nI y + 74) / 65537 * 65537 : Int32) = nI ((75 * y + 74) % 65537) := by
  rw [show (75 : Int32) = nI 75 from rfl, show (74 : Int32) = nI 74 from rfl, show (65537 : Int32) = nI 65537 from rfl, pk_mul, nI_add, pk_rem (by omega) (by omega) (by omega)]
theorem yr_m {y : Nat} (h : y < 65537) : Int64.toInt32 (75 * Int32.toInt64 (nI y) + 74 - (75 * Int32.toInt64 (nI y) + 74) / 65537 * 65537) = nI ((75 * y + 74) % 65537) := by
  rw [nI_l (by omega), show (75 : Int64) = lN 75 from rfl, show (74 : Int64) = lN 74 from rfl, show (65537 : Int64) = lN 65537 from rfl, lN_mul, lN_add, pk_lRem (by omega) (by omega) (by omega), lN_i]
theorem yr_w {z : Nat} (h : z < 65537) : (1 + (nI z - nI z / 99 * 99) : Int32) = nI (1 + z % 99) := by
  rw [show (99 : Int32) = nI 99 from rfl, pk_rem (by omega) (by omega) (by omega), show (1 : Int32) = nI 1 from rfl, nI_add]
theorem year_c {n l h d X : Nat} {fi se wo wi ro VAL : Nat → Nat} {x3 : Int32} {cfi cse cwo cwi cro : Nat → Int32} (hV : VB n fi se wo wi ro) (hE : EN n fi se wo wi ro cfi cse cwo cwi cro) (hl : l ≤ 1) (hh : 1 ≤ h ∧ h ≤ 9) (hd : d ≤ 999) (hX : X ≤ 99)
    (hx : (x3 = -1 ∧ ∀ w, VAL w = KF fi se ro n (FL w h d)) ∨ ∃ j, j < 4 ∧ x3 = nI j ∧ ∀ w, VAL w = HV l wo wi ro (KF fi se ro n (FL w h d)) n 0 j) :
    ∀ (r i y t fuel : Nat) (s1 s2 s3 s4 s5 s6 : Int32), i + r = X → r + 1 ≤ fuel → y < 65537 → ∃ a1 a2 a3 a4 a5 a6, fX3_year_l45 (nI X) x3 (nI h) (nI d) (nI n) (nI l) cro cfi cse cwo cwi fuel (nI y) (nI t) (nI i) s1 s2 s3 s4 s5 s6 = some (nI (t + YR VAL r y), a1, a2, a3, a4, a5, a6)
  | 0, i, y, t, fuel, s1, s2, s3, s4, s5, s6, hi, hf, hy => by
    obtain ⟨f, rfl⟩ : ∃ f, fuel = f + 1 := ⟨fuel - 1, by omega⟩
    exact ⟨s1, s2, s3, s4, s5, s6, by rw [fX3_year_l45, if_pos (nI_le (by omega) (by omega))]; rfl⟩
  | r + 1, i, y, t, fuel, s1, s2, s3, s4, s5, s6, hi, hf, hy => by
    obtain ⟨f, rfl⟩ : ∃ f, fuel = f + 1 := ⟨fuel - 1, by omega⟩
    have hz : (75 * y + 74) % 65537 < 65537 := Nat.mod_lt _ (by omega)
    have hw : 1 + (75 * y + 74) % 65537 % 99 ≤ 99 := by omega
    rw [fX3_year_l45, if_neg (nI_ge (by omega) (by omega)), yr_c hy, yr_w hz, floatsBy_c hw hh, bnd1_s, pl0_c hV hE hl (FL_le hw hd), bnd6_s]
    rcases hx with ⟨hx1, hx2⟩ | ⟨j, hj, hx1, hx2⟩
    · obtain ⟨a1, a2, a3, a4, a5, a6, g⟩ := year_c hV hE hl hh hd hX (Or.inl ⟨hx1, hx2⟩) r (i + 1) ((75 * y + 74) % 65537) (t + KF fi se ro n (FL (1 + (75 * y + 74) % 65537 % 99) h d)) f (nI (KF fi se ro n (FL (1 + (75 * y + 74) % 65537 % 99) h d))) (SKn ro (KF fi se ro n (FL (1 + (75 * y + 74) % 65537 % 99) h d)) n 0) (nI (HV l wo wi ro (KF fi se ro n (FL (1 + (75 * y + 74) % 65537 % 99) h d)) n 0 0)) (nI (HV l wo wi ro (KF fi se ro n (FL (1 + (75 * y + 74) % 65537 % 99) h d)) n 0 1)) (nI (HV l wo wi ro (KF fi se ro n (FL (1 + (75 * y + 74) % 65537 % 99) h d)) n 0 2)) (nI (HV l wo wi ro (KF fi se ro n (FL (1 + (75 * y + 74) % 65537 % 99) h d)) n 0 3)) (by omega) (by omega) hz
      refine ⟨a1, a2, a3, a4, a5, a6, ?_⟩
      rw [if_pos hx1, nI_add, nI_1, g]
      simp only [YR, hx2, Nat.add_assoc]
    · obtain ⟨a1, a2, a3, a4, a5, a6, g⟩ := year_c hV hE hl hh hd hX (Or.inr ⟨j, hj, hx1, hx2⟩) r (i + 1) ((75 * y + 74) % 65537) (t + HV l wo wi ro (KF fi se ro n (FL (1 + (75 * y + 74) % 65537 % 99) h d)) n 0 j) f (nI (KF fi se ro n (FL (1 + (75 * y + 74) % 65537 % 99) h d))) (SKn ro (KF fi se ro n (FL (1 + (75 * y + 74) % 65537 % 99) h d)) n 0) (nI (HV l wo wi ro (KF fi se ro n (FL (1 + (75 * y + 74) % 65537 % 99) h d)) n 0 0)) (nI (HV l wo wi ro (KF fi se ro n (FL (1 + (75 * y + 74) % 65537 % 99) h d)) n 0 1)) (nI (HV l wo wi ro (KF fi se ro n (FL (1 + (75 * y + 74) % 65537 % 99) h d)) n 0 2)) (nI (HV l wo wi ro (KF fi se ro n (FL (1 + (75 * y + 74) % 65537 % 99) h d)) n 0 3)) (by omega) (by omega) hz
      refine ⟨a1, a2, a3, a4, a5, a6, ?_⟩
      have hne : ¬ x3 = -1 := by rw [hx1]; exact b_ne (z := -1) (by decide) (by rw [b_nI (by omega)]; omega)
      rw [if_neg hne]
      rw [hx1] at g ⊢
      rw [has_c hj, bnd1_s, hvj hj (fun k => HV l wo wi ro (KF fi se ro n (FL (1 + (75 * y + 74) % 65537 % 99) h d)) n 0 k), nI_add, nI_1, g]
      simp only [YR, hx2, Nat.add_assoc]
theorem year_m {n l h d X : Nat} {fi se wo wi ro VAL : Nat → Nat} {x3 : Int32} {b e mfi mse mwo mwi : Nat → Int32} (hB : BM n ro fi se wo wi (fun _ => 0) b mfi mse mwo mwi e) (hl : l ≤ 1) (hh : 1 ≤ h ∧ h ≤ 9) (hd : d ≤ 999) (hX : X ≤ 99) :
    ∀ (r i y t A fuel : Nat) (fl dec sk : Int32) (has : Nat → Int64) (hv : Nat → Nat), i + r = X → r + 1 ≤ fuel → y < 65537 → (∀ k, k < 4 → has k = lN (hv k)) →
      ((x3 = -1 ∧ (∀ w, VAL w = KF fi se ro n (FL w h d)) ∧ A = t) ∨ ∃ j, j < 4 ∧ x3 = nI j ∧ (∀ w, VAL w = HV l wo wi ro (KF fi se ro n (FL w h d)) n 0 j) ∧ A = hv j) →
      ∃ fl' dec' sk' has', fX4_year_l54 (nI X) x3 (nI n) (nI h) (nI d) (nI l) b e mfi mse mwi mwo fuel (nI y) (nI t) (nI i) fl dec sk has = some (nI (A + YR VAL r y), nI n, fl', dec', sk', b, e, has')
  | 0, i, y, t, A, fuel, fl, dec, sk, has, hv, hi, hf, hy, hs, hx => by
    obtain ⟨f, rfl⟩ : ∃ f, fuel = f + 1 := ⟨fuel - 1, by omega⟩
    refine ⟨fl, dec, sk, has, ?_⟩
    rw [fX4_year_l54, if_pos (nI_le (by omega) (by omega))]
    rcases hx with ⟨hx1, hx2, hx3⟩ | ⟨j, hj, hx1, hx2, hx3⟩
    · rw [if_pos hx1, hx3]; rfl
    · have hne : ¬ x3 = -1 := by rw [hx1]; exact b_ne (z := -1) (by decide) (by rw [b_nI (by omega)]; omega)
      rw [if_neg hne, hx1, if_pos (nI_inF hj (by omega)), nI_clamp (by omega), hs j hj, lN_i, hx3]; rfl
  | r + 1, i, y, t, A, fuel, fl, dec, sk, has, hv, hi, hf, hy, hs, hx => by
    obtain ⟨f, rfl⟩ : ∃ f, fuel = f + 1 := ⟨fuel - 1, by omega⟩
    have hz : (75 * y + 74) % 65537 < 65537 := Nat.mod_lt _ (by omega)
    have hw : 1 + (75 * y + 74) % 65537 % 99 ≤ 99 := by omega
    obtain ⟨has', p1, p2⟩ := pl0_m hB hl (FL_le (h := h) hw hd) hs
    have step : ∃ fl' dec' sk' has'', fX4_year_l54 (nI X) x3 (nI n) (nI h) (nI d) (nI l) b e mfi mse mwi mwo f (nI ((75 * y + 74) % 65537)) (nI (t + KF fi se ro n (FL (1 + (75 * y + 74) % 65537 % 99) h d))) (nI (i + 1)) (nI (FL (1 + (75 * y + 74) % 65537 % 99) h d)) (nI (KF fi se ro n (FL (1 + (75 * y + 74) % 65537 % 99) h d))) (SKn ro (KF fi se ro n (FL (1 + (75 * y + 74) % 65537 % 99) h d)) n 0) has' = some (nI ((A + VAL (1 + (75 * y + 74) % 65537 % 99)) + YR VAL r ((75 * y + 74) % 65537)), nI n, fl', dec', sk', b, e, has'') :=
      year_m hB hl hh hd hX r (i + 1) ((75 * y + 74) % 65537) _ (A + VAL (1 + (75 * y + 74) % 65537 % 99)) f _ _ _ has' _ (by omega) (by omega) hz p2 (by
        rcases hx with ⟨hx1, hx2, hx3⟩ | ⟨j, hj, hx1, hx2, hx3⟩
        · exact Or.inl ⟨hx1, hx2, by rw [hx3, hx2]⟩
        · exact Or.inr ⟨j, hj, hx1, hx2, by rw [hx3, hx2]⟩)
    obtain ⟨fl', dec', sk', has'', g⟩ := step
    refine ⟨fl', dec', sk', has'', ?_⟩
    rw [fX4_year_l54, if_neg (nI_ge (by omega) (by omega)), yr_m hy, yr_w hz, floatsBy_m hw hh, bnd1_s, p1, bnd3_s, nI_add, nI_1, g]
    simp only [YR, Nat.add_assoc]
theorem P_year {c : Nat → Int32} {ca : Nat → Nat → Int32} {m : Nat → Int32} {ma : Nat → Nat → Int32} {mh : Nat → Int64} (x1 x2 x3 : Int32) (hR : Rel c ca m ma) : ∃ (r : Int32) (a0 : Int32) (a1 : Int32) (a2 : Int32) (a3 : Int32) (a4 : Int32) (a5 : Int32) (b0 : Int32) (b1 : Int32) (b2 : Int32) (b3 : Int32) (b4 : Nat → Int32) (b5 : Nat → Int32) (b6 : Nat → Int64), fX3_year x1 x2 x3 (c 2) (c 3) (c 22) (c 23) (c 24) (c 25) (c 26) (c 27) (c 5) (c 4) (ca 5) (ca 1) (ca 2) (ca 3) (ca 4) = some (r, a0, a1, a2, a3, a4, a5) ∧ fX4_year x1 x2 x3 (m 4) (m 11) (m 0) (m 1) (m 2) (m 12) (m 13) (m 14) (m 3) (ma 4) (ma 8) (ma 9) mh (ma 0) (ma 1) (ma 3) (ma 2) = some (r, b0, b1, b2, b3, b4, b5, b6) ∧ Rel (blI ((c 0) :: (c 1) :: (c 2) :: (c 3) :: (c 4) :: (c 5) :: (c 6) :: (c 7) :: (c 8) :: (c 9) :: (c 10) :: (c 11) :: (c 12) :: (c 13) :: (c 14) :: (c 15) :: (c 16) :: (c 17) :: (c 18) :: (c 19) :: (c 20) :: (c 21) :: a0 :: a1 :: a2 :: a3 :: a4 :: a5 :: (c 28) :: (c 29) :: (c 30) :: (c 31) :: [])) ca (blI ((m 0) :: (m 1) :: (m 2) :: (m 3) :: (m 4) :: (m 5) :: (m 6) :: (m 7) :: (m 8) :: (m 9) :: (m 10) :: b0 :: b1 :: b2 :: b3 :: (m 15) :: (m 16) :: [])) (blA ((ma 0) :: (ma 1) :: (ma 2) :: (ma 3) :: (ma 4) :: (ma 5) :: (ma 6) :: (ma 7) :: b4 :: b5 :: (ma 10) :: (ma 11) :: (ma 12) :: (ma 13) :: (ma 14) :: (ma 15) :: [])) := by
  obtain ⟨hp, hb, hrest⟩ := id hR
  obtain ⟨w, h, d, l, n, s, fi, se, wo, wi, ro, sw, sm, ⟨b1, b2, b3, b4, b5, b6, b7, b8⟩, ⟨e1, e2, e3, e4, e5, e6⟩, ⟨m1, m2, m3, m4, m5, m6⟩, hv, hr, hri, hc, hm, hs⟩ := hb
  have hV : VB n fi se wo wi ro := ⟨b7, hv, hr⟩
  obtain ⟨b, e, z, g1, hB, g3⟩ := lay0_m (d := d) hV hm b2 ⟨b3, b4⟩ (by' := ma 8) (ex' := ma 9) (has := mh)
  have D (r : Int32) (a0 a1 a2 a3 a4 a5 b0 b1 b2 b3 : Int32) (b4 b5 : Nat → Int32) (b6 : Nat → Int64) : Rel (blI ((c 0) :: (c 1) :: (c 2) :: (c 3) :: (c 4) :: (c 5) :: (c 6) :: (c 7) :: (c 8) :: (c 9) :: (c 10) :: (c 11) :: (c 12) :: (c 13) :: (c 14) :: (c 15) :: (c 16) :: (c 17) :: (c 18) :: (c 19) :: (c 20) :: (c 21) :: a0 :: a1 :: a2 :: a3 :: a4 :: a5 :: (c 28) :: (c 29) :: (c 30) :: (c 31) :: [])) ca (blI ((m 0) :: (m 1) :: (m 2) :: (m 3) :: (m 4) :: (m 5) :: (m 6) :: (m 7) :: (m 8) :: (m 9) :: (m 10) :: b0 :: b1 :: b2 :: b3 :: (m 15) :: (m 16) :: [])) (blA ((ma 0) :: (ma 1) :: (ma 2) :: (ma 3) :: (ma 4) :: (ma 5) :: (ma 6) :: (ma 7) :: b4 :: b5 :: (ma 10) :: (ma 11) :: (ma 12) :: (ma 13) :: (ma 14) :: (ma 15) :: [])) := hR
  unfold fX3_year fX4_year
  rw [within_eq2 x1 (a := 0) (b := 9999) rfl rfl, in_eq2 x1 (a := 0) (b := 9999) rfl rfl, bnd1_s, bnd1_s]
  by_cases hin : 0 ≤ x1.toInt ∧ x1.toInt ≤ 9999
  · simp only [if01_t hin]
    rw [within_eq2 x2 (a := 1) (b := 99) rfl rfl, in_eq2 x2 (a := 1) (b := 99) rfl rfl, bnd1_s, bnd1_s]
    by_cases hin2 : 1 ≤ x2.toInt ∧ x2.toInt ≤ 99
    · simp only [if01_t hin2]
      rw [in_eq2 x3 (a := -1) (b := 3) (by decide) rfl, isSide_c x3, bnd1_s, bnd1_s]
      obtain ⟨y, -, hy, hy2⟩ := b_of hin.1
      obtain ⟨X, -, hX, hX2⟩ := b_of (x := x2) (by omega)
      rw [← m1, ← m2, ← m3, ← m5] at g1
      by_cases h1 : x3 = -1
      · have hin3 : -1 ≤ x3.toInt ∧ x3.toInt ≤ 3 := by rw [h1]; decide
        simp only [if01_t hin3, if_pos h1]
        unfold fX3_year_j36
        obtain ⟨a1, a2, a3, a4, a5, a6, f1⟩ := year_c hV hc b6 ⟨b3, b4⟩ b5 (show X ≤ 99 by omega) (x3 := x3) (VAL := fun w => KF fi se ro n (FL w h d)) (Or.inl ⟨h1, fun _ => rfl⟩) X 0 y 0 FU (c 22) (c 23) (c 24) (c 25) (c 26) (c 27) (by omega) (Nat.le_trans (by omega) FU_ge) (by omega)
        obtain ⟨fl', dec', sk', has', f2⟩ := year_m hB b6 ⟨b3, b4⟩ b5 (show X ≤ 99 by omega) (x3 := x3) (VAL := fun w => KF fi se ro n (FL w h d)) X 0 y 0 0 FU (nI (FL w h d)) (m 13) (m 14) z (fun _ => 0) (by omega) (Nat.le_trans (by omega) FU_ge) (by omega) g3 (Or.inl ⟨h1, fun _ => rfl, rfl⟩)
        rw [← e2, ← e3, ← e4, ← e5, ← hX, ← hy] at f1
        rw [← m2, ← m3, ← m4, ← m5, ← hX, ← hy] at f2
        have f1 : fX3_year_l45 x2 x3 (c 2) (c 3) (c 5) (c 4) (ca 5) (ca 1) (ca 2) (ca 3) (ca 4) FU x1 0 0 (c 22) (c 23) (c 24) (c 25) (c 26) (c 27) = _ := f1
        have f2 : fX4_year_l54 x2 x3 (m 4) (m 1) (m 2) (m 3) b e (ma 0) (ma 1) (ma 3) (ma 2) FU x1 0 0 (nI (FL w h d)) (m 13) (m 14) z = _ := f2
        rw [g1, bnd5_s, f1, f2]
        exact ⟨_, _, _, _, _, _, _, _, _, _, _, _, _, _, rfl, rfl, hR⟩
      · simp only [if_neg h1]
        by_cases hin3 : 0 ≤ x3.toInt ∧ x3.toInt ≤ 3
        · have hin4 : -1 ≤ x3.toInt ∧ x3.toInt ≤ 3 := by omega
          simp only [if01_t hin3, if01_t hin4]
          unfold fX3_year_j36
          obtain ⟨j, -, hj, hj2⟩ := b_of hin3.1
          have hj4 : j < 4 := by omega
          obtain ⟨a1, a2, a3, a4, a5, a6, f1⟩ := year_c hV hc b6 ⟨b3, b4⟩ b5 (show X ≤ 99 by omega) (x3 := x3) (VAL := fun w => HV l wo wi ro (KF fi se ro n (FL w h d)) n 0 j) (Or.inr ⟨j, hj4, hj, fun _ => rfl⟩) X 0 y 0 FU (c 22) (c 23) (c 24) (c 25) (c 26) (c 27) (by omega) (Nat.le_trans (by omega) FU_ge) (by omega)
          obtain ⟨fl', dec', sk', has', f2⟩ := year_m hB b6 ⟨b3, b4⟩ b5 (show X ≤ 99 by omega) (x3 := x3) (VAL := fun w => HV l wo wi ro (KF fi se ro n (FL w h d)) n 0 j) X 0 y 0 0 FU (nI (FL w h d)) (m 13) (m 14) z (fun _ => 0) (by omega) (Nat.le_trans (by omega) FU_ge) (by omega) g3 (Or.inr ⟨j, hj4, hj, fun _ => rfl, rfl⟩)
          rw [← e2, ← e3, ← e4, ← e5, ← hX, ← hy] at f1
          rw [← m2, ← m3, ← m4, ← m5, ← hX, ← hy] at f2
          have f1 : fX3_year_l45 x2 x3 (c 2) (c 3) (c 5) (c 4) (ca 5) (ca 1) (ca 2) (ca 3) (ca 4) FU x1 0 0 (c 22) (c 23) (c 24) (c 25) (c 26) (c 27) = _ := f1
          have f2 : fX4_year_l54 x2 x3 (m 4) (m 1) (m 2) (m 3) b e (ma 0) (ma 1) (ma 3) (ma 2) FU x1 0 0 (nI (FL w h d)) (m 13) (m 14) z = _ := f2
          rw [g1, bnd5_s, f1, f2]
          exact ⟨_, _, _, _, _, _, _, _, _, _, _, _, _, _, rfl, rfl, hR⟩
        · have hin4 : ¬ (-1 ≤ x3.toInt ∧ x3.toInt ≤ 3) := fun q => by
            have : x3.toInt = -1 := by omega
            exact h1 ((b_eq _ _).mpr (by rw [this]; decide))
          simp only [if01_f hin3, if01_f hin4]
          exact ⟨_, _, _, _, _, _, _, _, _, _, _, _, _, _, rfl, rfl, hR⟩
    · simp only [if01_f hin2]
      exact ⟨_, _, _, _, _, _, _, _, _, _, _, _, _, _, rfl, rfl, hR⟩
  · simp only [if01_f hin]
    exact ⟨_, _, _, _, _, _, _, _, _, _, _, _, _, _, rfl, rfl, hR⟩
