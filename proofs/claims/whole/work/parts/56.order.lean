theorem copyN_l {n : Nat} {dec sk : Int32} {b : Nat → Int32} {has : Nat → Int64} {Y : Int64} {x6 : Int32} {kk : (Int64) → (Int32) → (Int32) → (Int32) → (Nat → Int32) → (Nat → Int64) → (Nat → Int32) → Option (Int32 × (Int32) × (Int32) × (Int32) × (Int32) × (Nat → Int32) × (Nat → Int32) × (Nat → Int64) × (Nat → Int32))} (hn : n ≤ 6) :
    ∀ (r i fuel : Nat) (mb : Nat → Int32), i + r = n → r + 1 ≤ fuel → (∀ q, q < i → mb q = b q) → ∃ mb', fX4_order_l95 (nI n) dec sk b has Y x6 kk fuel (nI i) mb = kk Y (x6 + 1) dec sk b has mb' ∧ ∀ q, q < n → mb' q = b q
  | 0, i, fuel, mb, hi, hf, hb => by
    obtain ⟨f, rfl⟩ : ∃ f, fuel = f + 1 := ⟨fuel - 1, by omega⟩
    exact ⟨mb, by rw [fX4_order_l95, if_pos (nI_le (by omega) (by omega))], fun q hq => hb q (by omega)⟩
  | r + 1, i, fuel, mb, hi, hf, hb => by
    obtain ⟨f, rfl⟩ : ∃ f, fuel = f + 1 := ⟨fuel - 1, by omega⟩
    have hg := nI_inF (show i < 6 by omega) (show 6 < 2 ^ 31 by omega)
    rw [fX4_order_l95, if_neg (nI_ge (by omega) (by omega)), if_pos hg, if_pos hg, nI_clamp (by omega), nI_1]
    refine copyN_l hn r (i + 1) f _ (by omega) (by omega) (fun q hq => ?_)
    by_cases h : q = i
    · rw [h, upd_eq]
    · rw [upd_ne h]; exact hb q (by omega)
def MR (n : Nat) (X : Int32) (Y : Int64) (cb mb : Nat → Int32) : Prop := ∃ v : Nat, v ≤ 10000 ∧ X = nI v ∧ Y = lN v ∧ ∀ q, q < n → cb q = mb q
theorem best_l {n l F j : Nat} {x2 : Int32} {fi se wo wi ro : Nat → Nat} {cfi cse cwo cwi cro ex mfi mse mwo mwi mro : Nat → Int32} {cw ch cd : Int32} (hfl : fX0_floats cw ch cd = some (nI F)) (hV : VB n fi se wo wi ro) (hc : EN n fi se wo wi ro cfi cse cwo cwi cro) (hm : EN n fi se wo wi ro mfi mse mwo mwi mro) (hex : ∀ q, q < 6 → ex q = 0) (hl : l ≤ 1) (hF : F < 10000) (hj : j < 4) :
    ∀ (r e k fuel fuel2 : Nat) (X fl s1 s2 s3 s4 s5 s6 : Int32) (trial cb : Nat → Int32) (Y : Int64) (dec sk : Int32) (b : Nat → Int32) (has : Nat → Int64) (mb : Nat → Int32), r ≤ n ^ n → r + 1 ≤ fuel → r + 1 ≤ fuel2 → chk n r e k = true → k ≤ 720 →
      ((fl = 1 ∧ e < n ^ n ∧ RW n (dgt n e) trial) ∨ (fl = 0 ∧ e = n ^ n)) → ((X = -1 ∧ Y = -1 ∧ e = idc n) ∨ MR n X Y cb mb) →
      ∃ X' s1' s2' s3' s4' s5' s6' trial' cb' f' Y' dec' sk' b' has' mb', fX3_findBest_l30 (nI j) cw ch cd (nI n) (nI l) cfi cse cwo cwi fuel X fl (nI k) s1 s2 s3 s4 s5 s6 trial cb = some (X', s1', s2', s3', s4', s5', s6', trial', cb') ∧
        fX4_order_l49 (nI j) x2 (nI n) (nI n) (nI F) (nI l) ex mfi mse mwi mwo (nI (n ^ n)) fuel2 Y (nI (n ^ n - r)) dec sk b has mb = fX4_order_l49 (nI j) x2 (nI n) (nI n) (nI F) (nI l) ex mfi mse mwi mwo (nI (n ^ n)) (f' + 1) Y' (nI (n ^ n)) dec' sk' b' has' mb' ∧ MR n X' Y' cb' mb'
  | 0, e, k, fuel, fuel2, X, fl, s1, s2, s3, s4, s5, s6, trial, cb, Y, dec, sk, b, has, mb, hr, hf, hf2, hk, hk7, hfl3, hM => by
    obtain ⟨f, rfl⟩ : ∃ f, fuel = f + 1 := ⟨fuel - 1, by omega⟩
    obtain ⟨f2, rfl⟩ : ∃ f, fuel2 = f + 1 := ⟨fuel2 - 1, by omega⟩
    have he : e = n ^ n := Nat.eq_of_beq_eq_true hk
    have hid := (idc_lt n (by have := hV.1; omega)).1
    have hfl0 : fl = 0 := by
      rcases hfl3 with ⟨-, h, -⟩ | ⟨h, -⟩
      · omega
      · exact h
    have hMR : MR n X Y cb mb := by
      rcases hM with ⟨-, -, h⟩ | h
      · omega
      · exact h
    refine ⟨X, s1, s2, s3, s4, s5, s6, trial, cb, f2, Y, dec, sk, b, has, mb, ?_, by rw [Nat.sub_zero], hMR⟩
    rw [fX3_findBest_l30]
    by_cases h : (720 : Int32) ≤ nI k
    · rw [if_pos h]
    · rw [if_neg h, if_pos hfl0]
  | r + 1, e, k, fuel, fuel2, X, fl, s1, s2, s3, s4, s5, s6, trial, cb, Y, dec, sk, b, has, mb, hr, hf, hf2, hk, hk7, hfl3, hM => by
    obtain ⟨f2, rfl⟩ : ∃ f, fuel2 = f + 1 := ⟨fuel2 - 1, by omega⟩
    have hn := hV.1
    obtain ⟨hid, h50, -⟩ := idc_lt n (by omega)
    obtain ⟨by', y1, y2⟩ := layOrder_m (n := n) (c := n ^ n - (r + 1)) (by' := b) hn (by omega)
    have hcs : (nI (n ^ n - (r + 1)) + 1 : Int32) = nI (n ^ n - r) := by rw [nI_1]; congr 1; omega
    rw [fX4_order_l49, if_neg (nI_ge (show n ^ n - (r + 1) < n ^ n by omega) (by omega)), y1, bnd2_s, hcs]
    rw [chk] at hk
    by_cases hce : n ^ n - (r + 1) = e
    · obtain ⟨f, rfl⟩ : ∃ f, fuel = f + 1 := ⟨fuel - 1, by omega⟩
      rw [if_pos hce, Bool.and_eq_true, Bool.and_eq_true, Bool.and_eq_true] at hk
      obtain ⟨k1, k2, k3, k4⟩ := hk
      have k2 : k < 720 := by rw [Nat.blt_eq] at k2; exact k2
      rw [hce] at y2 ⊢
      obtain ⟨hfl1, he, hT⟩ : fl = 1 ∧ e < n ^ n ∧ RW n (dgt n e) trial := by
        rcases hfl3 with h | ⟨-, h⟩
        · exact h
        · omega
      have hVd : VB n fi se wo wi (dgt n e) := ⟨hn, hV.2.1, fun q hq => Nat.mod_lt _ (by omega)⟩
      have hEc : EN n fi se wo wi (dgt n e) cfi cse cwo cwi trial := fun q hq => by
        obtain ⟨a1, a2, a3, a4, -⟩ := hc q hq
        exact ⟨a1, a2, a3, a4, (hT q hq).1⟩
      have hEm : EN n fi se wo wi (dgt n e) mfi mse mwo mwi by' := fun q hq => by
        obtain ⟨a1, a2, a3, a4, -⟩ := hm q hq
        exact ⟨a1, a2, a3, a4, y2 q hq⟩
      have hB : BM n (dgt n e) fi se wo wi (fun _ => 0) by' mfi mse mwo mwi ex := ⟨BD_of (ex := fun _ => 0) hVd hEm (fun _ _ => by show 0 ≤ 999; omega), fun i hi => hex _ (by have := hVd.2.2 i hi; omega)⟩
      obtain ⟨z, z1, z2⟩ := clear_m 4 0 FU has (by omega) (Nat.le_trans (by omega) FU_ge) (fun q h => absurd h (Nat.not_lt_zero q))
      obtain ⟨has', p1, p2⟩ := pl0_m (hv := fun _ => 0) hB hl hF z2
      have hK := PLn_le (DUR fi se (fun _ => 0) (dgt n e)) F n 0 0
      have hH := HV_le hVd hl (show KF fi se (dgt n e) n F ≤ n from hK) j
      obtain ⟨hv, hhv⟩ : ∃ hv, hv = HV l wo wi (dgt n e) (KF fi se (dgt n e) n F) n 0 j := ⟨_, rfl⟩
      have p2j : has' j = lN hv := by rw [p2 j hj, hhv]; show lN (0 + _) = _; rw [Nat.zero_add]
      have hcl : fX4_clear has = some z := z1
      obtain ⟨fl', trial', t1, t2, t3⟩ := step_c hn hT
      have hnext : (fl' = 1 ∧ nxt n e < n ^ n ∧ RW n (dgt n (nxt n e)) trial') ∨ (fl' = 0 ∧ nxt n e = n ^ n) := by
        by_cases hu : fUn (dgt n e) (n - 1) = 0
        · exact Or.inr ⟨t2 hu, by unfold nxt; rw [if_pos hu]⟩
        · rw [okn, if_neg hu, Bool.and_eq_true, Nat.blt_eq] at k3
          obtain ⟨t4, t5⟩ := t3 hu
          refine Or.inl ⟨t4, k3.1, fun q hq => ?_⟩
          rw [okl_s n k3.2 q hq]
          exact t5 q hq
      rw [if_pos k1, if_neg (show ¬ (1 : Int32) = 0 by decide), hcl, bnd1_s, p1, bnd3_s, if_pos (nI_inF hj (by omega)), if_pos (nI_inF hj (by omega)), nI_clamp (by omega), p2j]
      rw [fX3_findBest_l30, if_neg (show ¬ (720 : Int32) ≤ nI k from nI_ge (b := 720) k2 (by omega)), if_neg (by rw [hfl1]; decide), hfl, bnd1_s, pl0_c hVd hEc hl hF, bnd6_s, has_c hj, bnd1_s, hvj hj (fun q => HV l wo wi (dgt n e) (KF fi se (dgt n e) n F) n 0 q), ← hhv]
      unfold fX3_findBest_j97
      by_cases hbet : nI hv ≤ X
      · obtain ⟨v, v1, v2, v3, v4⟩ : MR n X Y cb mb := by
          rcases hM with ⟨h, -, -⟩ | h
          · rw [h] at hbet
            exact absurd hbet (by rw [b_le, b_nI (by omega), show (-1 : Int32).toInt = -1 by decide]; omega)
          · exact h
        have hvv : hv ≤ v := by rw [v2] at hbet; exact (nI_leI (by omega) (by omega)).mp hbet
        rw [if_pos hbet, if_pos ((lg_cmp_le _ _).mpr (by rw [v3]; exact (pk_lLE (by omega) (by omega)).mpr hvv)), t1, bnd2_s, nI_1]
        exact best_l hfl hV hc hm hex hl hF hj r (nxt n e) (k + 1) f f2 X fl' _ _ _ _ _ _ trial' cb Y _ _ by' has' mb (by omega) (by omega) (by omega) k4 (by omega) hnext (Or.inr ⟨v, v1, v2, v3, v4⟩)
      · have hnle : ¬ lg_cmp (lN hv) Y ≤ 0 := fun q => by
          have q := (lg_cmp_le _ _).mp q
          rcases hM with ⟨-, h, -⟩ | ⟨v, v1, v2, v3, v4⟩
          · rw [h, Int64.le_iff_toInt_le, lN_toInt (by omega), show (-1 : Int64).toInt = -1 by decide] at q
            omega
          · rw [v3] at q
            exact hbet (by rw [v2]; exact nI_le ((pk_lLE (by omega) (by omega)).mp q) (by omega))
        obtain ⟨cb', c1, c2⟩ := copyRow_s cb trial
        obtain ⟨mb', m1, m2⟩ := copyN_l (dec := nI (KF fi se (dgt n e) n F)) (sk := SKn (dgt n e) (KF fi se (dgt n e) n F) n 0) (b := by') (has := has') (Y := lN hv) (x6 := nI e) (kk := fX4_order_l49 (nI j) x2 (nI n) (nI n) (nI F) (nI l) ex mfi mse mwi mwo (nI (n ^ n)) f2) hn n 0 FU mb (by omega) (Nat.le_trans (by omega) FU_ge) (fun q h => absurd h (Nat.not_lt_zero q))
        have m1 : fX4_order_l95 (nI n) (nI (KF fi se (dgt n e) n F)) (SKn (dgt n e) (KF fi se (dgt n e) n F) n 0) by' has' (lN hv) (nI e) (fX4_order_l49 (nI j) x2 (nI n) (nI n) (nI F) (nI l) ex mfi mse mwi mwo (nI (n ^ n)) f2) FU 0 mb = _ := m1
        rw [hce] at hcs
        rw [if_neg hbet, if_neg hnle, c1, bnd1_s, t1, bnd2_s, nI_1, m1, hcs]
        exact best_l hfl hV hc hm hex hl hF hj r (nxt n e) (k + 1) f f2 (nI hv) fl' _ _ _ _ _ _ trial' cb' (lN hv) _ _ by' has' mb' (by omega) (by omega) (by omega) k4 (by omega) hnext (Or.inr ⟨hv, by omega, rfl, rfl, fun q hq => by rw [c2 q (by omega), m2 q hq, (hT q hq).1, y2 q hq]⟩)
    · rw [if_neg hce, Bool.and_eq_true] at hk
      obtain ⟨k1, k4⟩ := hk
      have k1 : ¬ mkN n n (n ^ n - (r + 1)) 0 = true := by
        intro h
        rw [h] at k1
        exact absurd k1 (by decide)
      rw [if_neg k1, if_pos rfl]
      exact best_l hfl hV hc hm hex hl hF hj r e k fuel f2 X fl s1 s2 s3 s4 s5 s6 trial cb Y dec sk by' has mb (by omega) (by omega) (by omega) k4 hk7 hfl3 hM
