/-- whether r sights from the i-th on are held -/
def HDb (Q : Nat → Bool) : Nat → Nat → Bool
  | 0, _ => true
  | r + 1, i => Q i && HDb Q r (i + 1)
def B01 (b : Bool) : Int32 := match b with
  | true => 1
  | false => 0
theorem hold_c {n l x d s : Nat} {fi se wo wi ro sw sm : Nat → Nat} {csw csm : Nat → Int32} {cfi cse cwo cwi cro : Nat → Int32} (hV : VB n fi se wo wi ro) (hE : EN n fi se wo wi ro cfi cse cwo cwi cro) (hl : l ≤ 1) (hx : 1 ≤ x ∧ x ≤ 9) (hd : d ≤ 999) (hs6 : s ≤ 6)
    (hS : ∀ k, k < s → sw k ≤ 99 ∧ sm k ≤ 6 ∧ csw k = nI (sw k) ∧ csm k = nI (sm k)) :
    ∀ (r i fuel : Nat) (s1 s2 s3 s4 s5 s6 : Int32), i + r = s → r + 1 ≤ fuel → ∃ a1 a2 a3 a4 a5 a6, fX3_sightsHold_l2 (nI x) (nI s) (nI d) (nI n) (nI l) csw cro cfi cse cwo cwi csm fuel (nI i) s1 s2 s3 s4 s5 s6 = some (B01 (HDb (fun k => decide (KF fi se ro n (FL (sw k) x d) = sm k)) r i), a1, a2, a3, a4, a5, a6)
  | 0, i, fuel, s1, s2, s3, s4, s5, s6, hi, hf => by
    obtain ⟨f, rfl⟩ : ∃ f, fuel = f + 1 := ⟨fuel - 1, by omega⟩
    exact ⟨s1, s2, s3, s4, s5, s6, by rw [fX3_sightsHold_l2, if_pos (nI_le (by omega) (by omega))]; rfl⟩
  | r + 1, i, fuel, s1, s2, s3, s4, s5, s6, hi, hf => by
    obtain ⟨f, rfl⟩ : ∃ f, fuel = f + 1 := ⟨fuel - 1, by omega⟩
    obtain ⟨v1, v2, v3, v4⟩ := hS i (by omega)
    have hK := PLn_le (DUR fi se (fun _ => 0) ro) (FL (sw i) x d) n 0 0
    have hK : KF fi se ro n (FL (sw i) x d) ≤ n := hK
    have hn := hV.1
    rw [fX3_sightsHold_l2, if_neg (nI_ge (by omega) (by omega)), at_nI (by omega) (by omega), at_nI (by omega) (by omega), bnd1_s, v3, v4, floatsBy_c v1 hx, bnd1_s, pl0_c hV hE hl (FL_le v1 hd), bnd6_s, bnd1_s, nI_1]
    by_cases h : KF fi se ro n (FL (sw i) x d) = sm i
    · obtain ⟨a1, a2, a3, a4, a5, a6, g⟩ := hold_c hV hE hl hx hd hs6 hS r (i + 1) f (nI (KF fi se ro n (FL (sw i) x d))) (SKn ro (KF fi se ro n (FL (sw i) x d)) n 0) (nI (HV l wo wi ro (KF fi se ro n (FL (sw i) x d)) n 0 0)) (nI (HV l wo wi ro (KF fi se ro n (FL (sw i) x d)) n 0 1)) (nI (HV l wo wi ro (KF fi se ro n (FL (sw i) x d)) n 0 2)) (nI (HV l wo wi ro (KF fi se ro n (FL (sw i) x d)) n 0 3)) (by omega) (by omega)
      refine ⟨a1, a2, a3, a4, a5, a6, ?_⟩
      rw [if_pos (by rw [h]), g]
      simp only [HDb, h, decide_true, Bool.true_and]
    · have hH : HDb (fun k => decide (KF fi se ro n (FL (sw k) x d) = sm k)) (r + 1) i = false := by simp only [HDb, h, decide_false, Bool.false_and]
      rw [if_neg (fun q => h ((nI_eq (by omega) (by omega)).mp q)), hH]
      exact ⟨_, _, _, _, _, _, rfl⟩
theorem hold_m {n l w h x d s : Nat} {fi se wo wi ro sw sm : Nat → Nat} {msw msm : Nat → Int32} {mfi mse mwo mwi mro : Nat → Int32} {x1 : Int32} {kk : (Int32) → (Int32) → (Int32) → (Int32) → (Int32) → (Int32) → (Nat → Int32) → (Nat → Int32) → (Nat → Int64) → Option (Int32 × (Int32) × (Int32) × (Int32) × (Int32) × (Nat → Int32) × (Nat → Int32) × (Nat → Int64))}
    (hV : VB n fi se wo wi ro) (hE : EN n fi se wo wi ro mfi mse mwo mwi mro) (hl : l ≤ 1) (hw : w ≤ 99) (hh : 1 ≤ h ∧ h ≤ 9) (hx : 1 ≤ x ∧ x ≤ 9) (hd : d ≤ 999) (hs6 : s ≤ 6)
    (hS : ∀ k, k < s → sw k ≤ 99 ∧ sm k ≤ 6 ∧ msw k = nI (sw k) ∧ msm k = nI (sm k)) :
    ∀ (r i fuel : Nat) (b : Bool) (v1 v2 v3 v4 : Int32) (v5 v6 : Nat → Int32) (v7 : Nat → Int64), i + r = s → r + 1 ≤ fuel → ∃ u1 u2 u3 u4 u5 u6 u7, fX4_fits_l15 (nI s) (nI n) (nI w) (nI h) (nI d) (nI l) mro msw mfi mse mwi mwo msm x1 (nI x) kk fuel (B01 b) (nI i) v1 v2 v3 v4 v5 v6 v7 =
      kk (x1 ||| (if (b && HDb (fun k => decide (KF fi se ro n (FL (sw k) x d) = sm k)) r i) = true then 1 <<< (nI x &&& 31) else 0)) (nI (x + 1)) u1 u2 u3 u4 u5 u6 u7
  | 0, i, fuel, b, v1, v2, v3, v4, v5, v6, v7, hi, hf => by
    obtain ⟨f, rfl⟩ : ∃ f, fuel = f + 1 := ⟨fuel - 1, by omega⟩
    refine ⟨v1, v2, v3, v4, v5, v6, v7, ?_⟩
    rw [fX4_fits_l15, if_pos (nI_le (by omega) (by omega)), nI_1]
    cases b
    · rw [if_pos (show B01 false = 0 from rfl)]; rfl
    · rw [if_neg (show ¬ B01 true = 0 by decide)]; rfl
  | r + 1, i, fuel, b, v1, v2, v3, v4, v5, v6, v7, hi, hf => by
    obtain ⟨f, rfl⟩ : ∃ f, fuel = f + 1 := ⟨fuel - 1, by omega⟩
    obtain ⟨p1, p2, p3, p4⟩ := hS i (by omega)
    have hK := PLn_le (DUR fi se (fun _ => 0) ro) (FL (sw i) x d) n 0 0
    have hK : KF fi se ro n (FL (sw i) x d) ≤ n := hK
    have hn := hV.1
    obtain ⟨by', e, z, g1, hB, g3⟩ := lay0_m (d := d) hV hE hw hh (by' := v5) (ex' := v6) (has := v7)
    obtain ⟨has', q1, q2⟩ := pl0_m hB hl (FL_le (h := x) p1 hd) g3
    have hg := nI_inF (show i < 6 by omega) (show 6 < 2 ^ 31 by omega)
    rw [fX4_fits_l15, if_neg (nI_ge (by omega) (by omega)), g1, bnd5_s, if_pos hg, nI_clamp (by omega), p3, floatsBy_m p1 hx, bnd1_s, q1, bnd3_s, nI_1, p4]
    cases b
    · rw [if_pos (show B01 false = 0 from rfl)]
      obtain ⟨u1, u2, u3, u4, u5, u6, u7, g⟩ := hold_m (x1 := x1) (kk := kk) hV hE hl hw hh hx hd hs6 hS r (i + 1) f false (nI n) (nI (FL (sw i) x d)) (nI (KF fi se ro n (FL (sw i) x d))) (SKn ro (KF fi se ro n (FL (sw i) x d)) n 0) by' e has' (by omega) (by omega)
      exact ⟨u1, u2, u3, u4, u5, u6, u7, g⟩
    · rw [if_neg (show ¬ B01 true = 0 by decide), if_pos (nI_inG (show i < 6 by omega) (by omega))]
      by_cases hq : KF fi se ro n (FL (sw i) x d) = sm i
      · rw [if_pos (by rw [hq])]
        obtain ⟨u1, u2, u3, u4, u5, u6, u7, g⟩ := hold_m (x1 := x1) (kk := kk) hV hE hl hw hh hx hd hs6 hS r (i + 1) f true (nI n) (nI (FL (sw i) x d)) (nI (KF fi se ro n (FL (sw i) x d))) (SKn ro (KF fi se ro n (FL (sw i) x d)) n 0) by' e has' (by omega) (by omega)
        refine ⟨u1, u2, u3, u4, u5, u6, u7, g.trans ?_⟩
        simp only [HDb, hq, decide_true, Bool.true_and]
      · rw [if_neg (fun q => hq ((nI_eq (by omega) (by omega)).mp q))]
        obtain ⟨u1, u2, u3, u4, u5, u6, u7, g⟩ := hold_m (x1 := x1) (kk := kk) hV hE hl hw hh hx hd hs6 hS r (i + 1) f false (nI n) (nI (FL (sw i) x d)) (nI (KF fi se ro n (FL (sw i) x d))) (SKn ro (KF fi se ro n (FL (sw i) x d)) n 0) by' e has' (by omega) (by omega)
        refine ⟨u1, u2, u3, u4, u5, u6, u7, g.trans ?_⟩
        simp only [HDb, hq, decide_false, Bool.false_and, Bool.and_false]
theorem fits_l {n l w h d s : Nat} {fi se wo wi ro sw sm : Nat → Nat} {csw csm msw msm : Nat → Int32} {cfi cse cwo cwi cro mfi mse mwo mwi mro : Nat → Int32}
    (hV : VB n fi se wo wi ro) (hC : EN n fi se wo wi ro cfi cse cwo cwi cro) (hM : EN n fi se wo wi ro mfi mse mwo mwi mro) (hl : l ≤ 1) (hw : w ≤ 99) (hh : 1 ≤ h ∧ h ≤ 9) (hd : d ≤ 999) (hs6 : s ≤ 6)
    (hSc : ∀ k, k < s → sw k ≤ 99 ∧ sm k ≤ 6 ∧ csw k = nI (sw k) ∧ csm k = nI (sm k)) (hSm : ∀ k, k < s → sw k ≤ 99 ∧ sm k ≤ 6 ∧ msw k = nI (sw k) ∧ msm k = nI (sm k)) :
    ∀ (r x fuel : Nat) (acc : Int32) (s1 s2 s3 s4 s5 s6 v1 v2 v3 v4 : Int32) (v5 v6 : Nat → Int32) (v7 : Nat → Int64), x + r = 10 → 1 ≤ x → r + 1 ≤ fuel → ∃ v a1 a2 a3 a4 a5 a6 u1 u2 u3 u4 u5 u6 u7,
      fX3_fits_l4 (nI s) (nI d) (nI n) (nI l) csw cro cfi cse cwo cwi csm fuel acc (nI x) s1 s2 s3 s4 s5 s6 = some (v, a1, a2, a3, a4, a5, a6) ∧
      fX4_fits_l4 (nI s) (nI n) (nI w) (nI h) (nI d) (nI l) mro msw mfi mse mwi mwo msm fuel acc (nI x) v1 v2 v3 v4 v5 v6 v7 = some (v, u1, u2, u3, u4, u5, u6, u7)
  | 0, x, fuel, acc, s1, s2, s3, s4, s5, s6, v1, v2, v3, v4, v5, v6, v7, hi, hx, hf => by
    obtain ⟨f, rfl⟩ : ∃ f, fuel = f + 1 := ⟨fuel - 1, by omega⟩
    refine ⟨acc, s1, s2, s3, s4, s5, s6, v1, v2, v3, v4, v5, v6, v7, ?_, ?_⟩
    · rw [fX3_fits_l4, if_pos (show (9 : Int32) < nI x from nI_lt (a := 9) (by omega) (by omega))]
    · rw [fX4_fits_l4, if_pos (show (10 : Int32) ≤ nI x from nI_le (a := 10) (by omega) (by omega))]
  | r + 1, x, fuel, acc, s1, s2, s3, s4, s5, s6, v1, v2, v3, v4, v5, v6, v7, hi, hx, hf => by
    obtain ⟨f, rfl⟩ : ∃ f, fuel = f + 1 := ⟨fuel - 1, by omega⟩
    obtain ⟨a1, a2, a3, a4, a5, a6, g1⟩ := hold_c hV hC hl (x := x) ⟨hx, by omega⟩ hd hs6 hSc s 0 FU s1 s2 s3 s4 s5 s6 (by omega) (Nat.le_trans (by omega) FU_ge)
    obtain ⟨u1, u2, u3, u4, u5, u6, u7, g2⟩ := hold_m (x := x) (x1 := acc) (kk := fX4_fits_l4 (nI s) (nI n) (nI w) (nI h) (nI d) (nI l) mro msw mfi mse mwi mwo msm f) hV hM hl hw hh ⟨hx, by omega⟩ hd hs6 hSm s 0 FU true v1 v2 v3 v4 v5 v6 v7 (by omega) (Nat.le_trans (by omega) FU_ge)
    have g1 : fX3_sightsHold (nI x) (nI s) (nI d) s1 s2 s3 s4 s5 s6 (nI n) (nI l) csw cro cfi cse cwo cwi csm = _ := g1
    have g2 : fX4_fits_l15 (nI s) (nI n) (nI w) (nI h) (nI d) (nI l) mro msw mfi mse mwi mwo msm acc (nI x) (fX4_fits_l4 (nI s) (nI n) (nI w) (nI h) (nI d) (nI l) mro msw mfi mse mwi mwo msm f) FU 1 0 v1 v2 v3 v4 v5 v6 v7 = _ := g2
    rw [fX3_fits_l4, fX4_fits_l4, if_neg (show ¬ (9 : Int32) < nI x from nI_nlt (a := 9) (by omega) (by omega)), if_neg (show ¬ (10 : Int32) ≤ nI x from nI_ge (b := 10) (by omega) (by omega)), g1, g2, bnd7_s, nI_1]
    cases hb : HDb (fun k => decide (KF fi se ro n (FL (sw k) x d) = sm k)) s 0
    · rw [if_pos (show B01 false = 0 from rfl), if_neg (by decide), Int32.or_zero]
      exact fits_l hV hC hM hl hw hh hd hs6 hSc hSm r (x + 1) f acc _ _ _ _ _ _ _ _ _ _ _ _ _ (by omega) (by omega) (by omega)
    · rw [if_neg (show ¬ B01 true = 0 by decide), if_pos (by decide)]
      exact fits_l hV hC hM hl hw hh hd hs6 hSc hSm r (x + 1) f _ _ _ _ _ _ _ _ _ _ _ _ _ _ (by omega) (by omega) (by omega)
theorem P_fits {c : Nat → Int32} {ca : Nat → Nat → Int32} {m : Nat → Int32} {ma : Nat → Nat → Int32} {mh : Nat → Int64} (hR : Rel c ca m ma) : ∃ (r : Int32) (a0 : Int32) (a1 : Int32) (a2 : Int32) (a3 : Int32) (a4 : Int32) (a5 : Int32) (b0 : Int32) (b1 : Int32) (b2 : Int32) (b3 : Int32) (b4 : Nat → Int32) (b5 : Nat → Int32) (b6 : Nat → Int64), fX3_fits (c 6) (c 3) (c 22) (c 23) (c 24) (c 25) (c 26) (c 27) (c 5) (c 4) (ca 6) (ca 5) (ca 1) (ca 2) (ca 3) (ca 4) (ca 7) = some (r, a0, a1, a2, a3, a4, a5) ∧ fX4_fits (m 5) (m 4) (m 11) (m 0) (m 1) (m 2) (m 12) (m 13) (m 14) (m 3) (ma 4) (ma 8) (ma 9) mh (ma 5) (ma 0) (ma 1) (ma 3) (ma 2) (ma 6) = some (r, b0, b1, b2, b3, b4, b5, b6) ∧ Rel (blI ((c 0) :: (c 1) :: (c 2) :: (c 3) :: (c 4) :: (c 5) :: (c 6) :: (c 7) :: (c 8) :: (c 9) :: (c 10) :: (c 11) :: (c 12) :: (c 13) :: (c 14) :: (c 15) :: (c 16) :: (c 17) :: (c 18) :: (c 19) :: (c 20) :: (c 21) :: a0 :: a1 :: a2 :: a3 :: a4 :: a5 :: (c 28) :: (c 29) :: (c 30) :: (c 31) :: [])) ca (blI ((m 0) :: (m 1) :: (m 2) :: (m 3) :: (m 4) :: (m 5) :: (m 6) :: (m 7) :: (m 8) :: (m 9) :: (m 10) :: b0 :: b1 :: b2 :: b3 :: (m 15) :: (m 16) :: [])) (blA ((ma 0) :: (ma 1) :: (ma 2) :: (ma 3) :: (ma 4) :: (ma 5) :: (ma 6) :: (ma 7) :: b4 :: b5 :: (ma 10) :: (ma 11) :: (ma 12) :: (ma 13) :: (ma 14) :: (ma 15) :: [])) := by
  obtain ⟨hp, hb, hrest⟩ := id hR
  obtain ⟨w, h, d, l, n, s, fi, se, wo, wi, ro, sw, sm, ⟨b1, b2, b3, b4, b5, b6, b7, b8⟩, ⟨e1, e2, e3, e4, e5, e6⟩, ⟨m1, m2, m3, m4, m5, m6⟩, hv, hr, hri, hc, hm, hs⟩ := hb
  have hV : VB n fi se wo wi ro := ⟨b7, hv, hr⟩
  obtain ⟨v, a1, a2, a3, a4, a5, a6, u1, u2, u3, u4, u5, u6, u7, f1, f2⟩ := fits_l hV hc hm b6 b2 ⟨b3, b4⟩ b5 b8 (fun k hk => by obtain ⟨q1, q2, q3, q4, q5, q6, q7⟩ := hs k hk; exact ⟨q2, q3, q4, q5⟩) (fun k hk => by obtain ⟨q1, q2, q3, q4, q5, q6, q7⟩ := hs k hk; exact ⟨q2, q3, q6, q7⟩) 9 1 FU 0 (c 22) (c 23) (c 24) (c 25) (c 26) (c 27) (m 11) (m 12) (m 13) (m 14) (ma 8) (ma 9) mh (by omega) (by omega) (Nat.le_trans (by omega) FU_ge)
  rw [← e3, ← e4, ← e5, ← e6] at f1
  rw [← m1, ← m2, ← m3, ← m4, ← m5, ← m6] at f2
  exact ⟨v, a1, a2, a3, a4, a5, a6, u1, u2, u3, u4, u5, u6, u7, f1, f2, hR⟩
