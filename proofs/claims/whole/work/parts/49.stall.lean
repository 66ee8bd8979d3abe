abbrev MVn (m s : Nat) : Nat := 2 * (s / (m + 1)) + (if s % (m + 1) = 0 then 1 else 2)
abbrev FTn (m s : Nat) : Int32 := if s % (m + 1) = 0 then -6 else nI (s % (m + 1))
abbrev WNn (m s : Nat) : Int32 := if s % (m + 1) = 0 then 0 else 1
theorem st_arith {m t i : Nat} (hm : 1 ≤ m ∧ m ≤ 9) (hi : 1 ≤ i ∧ i ≤ m ∧ i ≤ t) : ((t - i) % (m + 1) = 0 → i = t % (m + 1)) ∧ (i = t % (m + 1) → (t - i) % (m + 1) = 0 ∧ (t - i) / (m + 1) = t / (m + 1)) ∧ (t % (m + 1) = 0 → (t - i) / (m + 1) + 1 = t / (m + 1)) := by
  have h : m = 1 ∨ m = 2 ∨ m = 3 ∨ m = 4 ∨ m = 5 ∨ m = 6 ∨ m = 7 ∨ m = 8 ∨ m = 9 := by omega
  rcases h with rfl | rfl | rfl | rfl | rfl | rfl | rfl | rfl | rfl <;> exact ⟨fun _ => by omega, fun _ => by omega, fun _ => by omega⟩
theorem st_rlt {m t : Nat} (hm : 1 ≤ m ∧ m ≤ 9) : t % (m + 1) ≤ m ∧ t % (m + 1) ≤ t ∧ (t ≤ m → t % (m + 1) = t) ∧ t / (m + 1) ≤ t := by
  have h1 := Nat.mod_lt t (show 0 < m + 1 by omega)
  exact ⟨by omega, Nat.mod_le _ _, fun h => Nat.mod_eq_of_lt (by omega), Nat.div_le_self _ _⟩
theorem inner_e {m t : Nat} {x4 x5 : Int32} {wins first moves : Nat → Int32} {kk : (Int32) → (Nat → Int32) → (Nat → Int32) → (Nat → Int32) → Option ((Nat → Int32) × (Nat → Int32) × (Nat → Int32))} (ht : t < 800) (hw : wins t = WNn m t) (h0 : t % (m + 1) = 0 → x5 = nI (2 * (t / (m + 1)))) (h1 : ¬ t % (m + 1) = 0 → x4 = nI (2 * (t / (m + 1)) + 1)) :
    fX4_findStall_j146 wins first moves (nI t) x4 x5 kk = kk (nI (t + 1)) wins first (upd moves t (nI (MVn m t))) := by
  unfold fX4_findStall_j146 fX4_findStall_j168
  have hg0 := nI_inF ht (show 800 < 2 ^ 31 by omega)
  have hg := nI_inG ht (show 800 < 2 ^ 31 by omega)
  rw [if_pos hg0, nI_clamp (by omega), hw, nI_1]
  by_cases h : t % (m + 1) = 0
  · rw [if_pos (show WNn m t = 0 from if_pos h), if_pos hg, h0 h, show (1 : Int32) = nI 1 from rfl, nI_add, show 1 + 2 * (t / (m + 1)) = MVn m t from by show _ = 2 * (t / (m + 1)) + (if t % (m + 1) = 0 then 1 else 2); rw [if_pos h]; omega]
  · rw [if_neg (show ¬ WNn m t = 0 from by show ¬ (if t % (m + 1) = 0 then (0 : Int32) else 1) = 0; rw [if_neg h]; decide), if_pos hg, h1 h, show (1 : Int32) = nI 1 from rfl, nI_add, show 1 + (2 * (t / (m + 1)) + 1) = MVn m t from by show _ = 2 * (t / (m + 1)) + (if t % (m + 1) = 0 then 1 else 2); rw [if_neg h]; omega]
theorem j124_s {wins first : Nat → Int32} {x4 x5 x7 : Int32} {i : Nat} {kk : (Int32) → (Int32) → (Int32) → (Nat → Int32) → (Nat → Int32) → Option ((Nat → Int32) × (Nat → Int32) × (Nat → Int32))} : ∃ x5' : Int32, fX4_findStall_j124 wins first x4 x5 (nI i) x7 kk = kk x4 x5' (nI (i + 1)) wins first ∧ ∀ a b : Nat, a ≤ b → b < 10000 → x5 = nI a → x7 = nI b → x5' = nI b := by
  unfold fX4_findStall_j124
  rw [nI_1]
  by_cases h : x7 ≤ x5
  · rw [if_pos h]
    refine ⟨x5, rfl, fun a b hab hb e1 e2 => ?_⟩
    rw [e1, e2] at h
    have := (nI_leI (by omega) (by omega)).mp h
    rw [e1]; congr 1; omega
  · rw [if_neg h]
    exact ⟨x7, rfl, fun a b hab hb e1 e2 => e2⟩
theorem inner_m {m t : Nat} {moves : Nat → Int32} {kk : (Int32) → (Nat → Int32) → (Nat → Int32) → (Nat → Int32) → Option ((Nat → Int32) × (Nat → Int32) × (Nat → Int32))} (hm : 1 ≤ m ∧ m ≤ 9) (ht : t < 800) (hmv : ∀ s, s < t → moves s = nI (MVn m s)) :
    ∀ (k i fuel : Nat) (x4 x5 : Int32) (wins first : Nat → Int32), i + k = m + 1 → 1 ≤ i → k + 1 ≤ fuel → (∀ s, s < t → wins s = WNn m s) → (wins t = if t % (m + 1) < i then WNn m t else 0) → (first t = if t % (m + 1) < i then FTn m t else -6) →
      (t % (m + 1) = 0 → x5 = nI (if i = 1 then 0 else 2 * (t / (m + 1)))) → (¬ t % (m + 1) = 0 → t % (m + 1) < i → x4 = nI (2 * (t / (m + 1)) + 1)) →
      ∃ wins' first', fX4_findStall_l31 (nI m) moves (nI t) kk fuel x4 x5 (nI i) wins first = kk (nI (t + 1)) wins' first' (upd moves t (nI (MVn m t))) ∧ (∀ s, s < t → wins' s = wins s ∧ first' s = first s) ∧ wins' t = WNn m t ∧ first' t = FTn m t
  | 0, i, fuel, x4, x5, wins, first, hi, hi1, hf, hw, hwt, hft, h5, h4 => by
    obtain ⟨f, rfl⟩ : ∃ f, fuel = f + 1 := ⟨fuel - 1, by omega⟩
    obtain ⟨r1, r2, r3, r4⟩ := st_rlt (t := t) hm
    have hlt : t % (m + 1) < i := by omega
    rw [if_pos hlt] at hwt hft
    refine ⟨wins, first, ?_, fun s _ => ⟨rfl, rfl⟩, hwt, hft⟩
    rw [fX4_findStall_l31, if_pos (nI_lt (by omega) (by omega))]
    exact inner_e ht hwt (fun h => by rw [h5 h, if_neg (by omega)]) (fun h => h4 h hlt)
  | k + 1, i, fuel, x4, x5, wins, first, hi, hi1, hf, hw, hwt, hft, h5, h4 => by
    obtain ⟨f, rfl⟩ : ∃ f, fuel = f + 1 := ⟨fuel - 1, by omega⟩
    obtain ⟨r1, r2, r3, r4⟩ := st_rlt (t := t) hm
    rw [fX4_findStall_l31, if_neg (nI_nlt (by omega) (by omega))]
    by_cases hti : t < i
    · have hlt : t % (m + 1) < i := by omega
      have hq : t / (m + 1) = 0 := Nat.div_eq_of_lt (by omega)
      rw [if_pos hlt] at hwt hft
      refine ⟨wins, first, ?_, fun s _ => ⟨rfl, rfl⟩, hwt, hft⟩
      rw [if_pos (nI_lt hti (by omega))]
      exact inner_e ht hwt (fun h => by rw [h5 h, hq]; split <;> rfl) (fun h => h4 h hlt)
    · obtain ⟨a1, a2, a3⟩ := st_arith (t := t) (i := i) hm ⟨hi1, by omega, by omega⟩
      have hg := nI_inF (show t - i < 800 by omega) (show 800 < 2 ^ 31 by omega)
      have hgt := nI_inF ht (show 800 < 2 ^ 31 by omega)
      rw [if_neg (nI_nlt (by omega) (by omega)), pk_sub (by omega), if_pos hg, if_pos hg, nI_clamp (by omega), nI_clamp (show t < 2 ^ 31 by omega), hw (t - i) (by omega), hmv (t - i) (by omega)]
      by_cases hz : (t - i) % (m + 1) = 0
      · have hir := a1 hz
        obtain ⟨b1, b2⟩ := a2 hir
        have hr0 : ¬ t % (m + 1) = 0 := by omega
        rw [if_neg (by omega)] at hwt
        rw [if_pos (show WNn m (t - i) = 0 from if_pos hz), if_pos (nI_inG ht (show 800 < 2 ^ 31 by omega)), hwt, if_pos rfl]
        unfold fX4_findStall_j91
        rw [if_pos hgt, if_pos hgt, nI_clamp (show t < 2 ^ 31 by omega), hwt, if_pos rfl]
        unfold fX4_findStall_j115
        rw [if_pos hgt, nI_clamp (show t < 2 ^ 31 by omega)]
        obtain ⟨x5', g1, g2⟩ := j124_s (wins := upd wins t (vp_nar .boolean 1)) (first := upd first t (nI i)) (x4 := nI (MVn m (t - i))) (x5 := x5) (x7 := nI (MVn m (t - i))) (i := i) (kk := fX4_findStall_l31 (nI m) moves (nI t) kk f)
        rw [g1]
        obtain ⟨wins', first', f1, f2, f3, f4⟩ := inner_m (kk := kk) hm ht hmv k (i + 1) f (nI (MVn m (t - i))) x5' (upd wins t (vp_nar .boolean 1)) (upd first t (nI i)) (by omega) (by omega) (by omega) (fun s hs => by unfold upd; rw [if_neg (by omega)]; exact hw s hs) (by
          unfold upd; rw [if_pos rfl, if_pos (by omega), show WNn m t = 1 from if_neg hr0]; decide) (by
          unfold upd; rw [if_pos rfl, if_pos (by omega), show FTn m t = nI (t % (m + 1)) from if_neg hr0, ← hir]) (fun h => absurd h hr0) (fun _ _ => by
            show nI (2 * ((t - i) / (m + 1)) + (if (t - i) % (m + 1) = 0 then 1 else 2)) = _
            rw [if_pos hz, b2])
        refine ⟨wins', first', f1, fun s hs => ?_, f3, f4⟩
        obtain ⟨c1, c2⟩ := f2 s hs
        rw [c1, c2]
        unfold upd
        rw [if_neg (by omega), if_neg (by omega)]
        exact ⟨rfl, rfl⟩
      · have hir : ¬ i = t % (m + 1) := fun e => hz (a2 e).1
        rw [if_neg (show ¬ WNn m (t - i) = 0 from by show ¬ (if (t - i) % (m + 1) = 0 then (0 : Int32) else 1) = 0; rw [if_neg hz]; decide)]
        obtain ⟨x5', g1, g2⟩ := j124_s (wins := wins) (first := first) (x4 := x4) (x5 := x5) (x7 := nI (MVn m (t - i))) (i := i) (kk := fX4_findStall_l31 (nI m) moves (nI t) kk f)
        rw [g1]
        have hiff : (t % (m + 1) < i + 1) = (t % (m + 1) < i) := propext ⟨fun _ => by omega, fun _ => by omega⟩
        exact inner_m (kk := kk) hm ht hmv k (i + 1) f x4 x5' wins first (by omega) (by omega) (by omega) hw (by simp only [hiff]; exact hwt) (by simp only [hiff]; exact hft) (fun h => by
          have hMV : MVn m (t - i) = 2 * (t / (m + 1)) := by
            have := a3 h
            show 2 * ((t - i) / (m + 1)) + (if (t - i) % (m + 1) = 0 then 1 else 2) = _
            rw [if_neg hz]; omega
          rw [if_neg (by omega)]
          exact g2 _ _ (by split <;> omega) (by omega) (h5 h) (by rw [hMV])) (fun h hlt => h4 h (by omega))
theorem outer_m {m T : Nat} (hm : 1 ≤ m ∧ m ≤ 9) (hT : T < 799) : ∀ (k t fuel : Nat) (wins first moves : Nat → Int32), t + k = T + 1 → k + 1 ≤ fuel → (∀ s, s < t → wins s = WNn m s ∧ first s = FTn m s ∧ moves s = nI (MVn m s)) →
    ∃ wins' first' moves', fX4_findStall_l2 (nI T) (nI m) fuel (nI t) wins first moves = some (wins', first', moves') ∧ ∀ s, s ≤ T → first' s = FTn m s ∧ moves' s = nI (MVn m s)
  | 0, t, fuel, wins, first, moves, hi, hf, hh => by
    obtain ⟨f, rfl⟩ : ∃ f, fuel = f + 1 := ⟨fuel - 1, by omega⟩
    exact ⟨wins, first, moves, by rw [fX4_findStall_l2, if_pos (nI_lt (by omega) (by omega))], fun s hs => (hh s (by omega)).2⟩
  | k + 1, t, fuel, wins, first, moves, hi, hf, hh => by
    obtain ⟨f, rfl⟩ : ∃ f, fuel = f + 1 := ⟨fuel - 1, by omega⟩
    have hgt := nI_inF (show t < 800 by omega) (show 800 < 2 ^ 31 by omega)
    rw [fX4_findStall_l2, if_neg (nI_nlt (by omega) (by omega)), if_pos hgt, if_pos hgt, nI_clamp (by omega)]
    obtain ⟨wins', first', f1, f2, f3, f4⟩ := inner_m (kk := fX4_findStall_l2 (nI T) (nI m) f) hm (show t < 800 by omega) (fun s hs => (hh s hs).2.2) m 1 FU 0 0 (upd wins t (vp_nar .boolean 0)) (upd first t (-6)) (by omega) (by omega) (Nat.le_trans (by omega) FU_ge) (fun s hs => by unfold upd; rw [if_neg (by omega)]; exact (hh s hs).1) (by
      unfold upd; rw [if_pos rfl]
      by_cases h : t % (m + 1) < 1
      · rw [if_pos h, show WNn m t = 0 from if_pos (by omega)]; decide
      · rw [if_neg h]; decide) (by
      unfold upd; rw [if_pos rfl]
      by_cases h : t % (m + 1) < 1
      · rw [if_pos h, show FTn m t = -6 from if_pos (by omega)]
      · rw [if_neg h]) (fun _ => rfl) (fun h h2 => absurd h2 (by omega))
    have f1 : fX4_findStall_l31 (nI m) moves (nI t) (fX4_findStall_l2 (nI T) (nI m) f) FU 0 0 1 (upd wins t (vp_nar .boolean 0)) (upd first t (-6)) = _ := f1
    rw [f1]
    refine outer_m hm hT k (t + 1) f _ _ _ (by omega) (by omega) (fun s hs => ?_)
    by_cases h : s = t
    · rw [h]
      exact ⟨f3, f4, by unfold upd; rw [if_pos rfl]⟩
    · obtain ⟨c1, c2⟩ := f2 s (by omega)
      obtain ⟨d1, d2, d3⟩ := hh s (by omega)
      refine ⟨?_, ?_, ?_⟩
      · rw [c1]; unfold upd; rw [if_neg h]; exact d1
      · rw [c2]; unfold upd; rw [if_neg h]; exact d2
      · unfold upd; rw [if_neg h]; exact d3
theorem FL_le2 {w h d : Nat} (hw : w ≤ 99) (hd : d ≤ 999) : FL w h d < 7000 := by
  have := Nat.div_le_self (60 * w) h
  show 60 * w / h + d < 7000
  omega
theorem P_stall {c : Nat → Int32} {ca : Nat → Nat → Int32} {m : Nat → Int32} {ma : Nat → Nat → Int32} {mh : Nat → Int64} (x1 x2 x3 : Int32) (hR : Rel c ca m ma) : ∃ (r : Int32) (b0 : Nat → Int32) (b1 : Nat → Int32) (b2 : Nat → Int32), fX3_stall x1 x2 x3 (c 1) (c 2) (c 3) = some r ∧ fX4_stall x1 x2 x3 (m 0) (m 1) (m 2) (ma 11) (ma 12) (ma 13) = some (r, b0, b1, b2) ∧ Rel c ca m (blA ((ma 0) :: (ma 1) :: (ma 2) :: (ma 3) :: (ma 4) :: (ma 5) :: (ma 6) :: (ma 7) :: (ma 8) :: (ma 9) :: (ma 10) :: b0 :: b1 :: b2 :: (ma 14) :: (ma 15) :: [])) := by
  obtain ⟨hp, hb, hrest⟩ := id hR
  obtain ⟨w, h, d, l, n, s, fi, se, wo, wi, ro, sw, sm, ⟨b1, b2, b3, b4, b5, b6, b7, b8⟩, ⟨e1, e2, e3, e4, e5, e6⟩, ⟨m1, m2, m3, m4, m5, m6⟩, hv, hr, hri, hc, hm, hs⟩ := hb
  have hF := FL_le2 (h := h) b2 b5
  unfold fX3_stall fX4_stall
  rw [e1, e2, e3, m1, m2, m3, floats_c b2 ⟨b3, b4⟩, floatsBy_m b2 ⟨b3, b4⟩]
  simp only [bnd1_s]
  rw [within_eq2 x1 (a := 0) (b := (FL w h d : Int)) rfl (b_nI (by omega)), in_eq2 x1 (a := 0) (b := (FL w h d : Int)) rfl (by rw [Int32.toInt_toInt64]; exact b_nI (by omega)), within_eq2 x2 (a := 1) (b := 9) rfl rfl, in_eq2 x2 (a := 1) (b := 9) rfl rfl, within_eq2 x3 (a := 0) (b := 1) rfl rfl, in_eq2 x3 (a := 0) (b := 1) rfl rfl]
  simp only [bnd1_s]
  by_cases hin : 0 ≤ x1.toInt ∧ x1.toInt ≤ (FL w h d : Int)
  · by_cases hin2 : 1 ≤ x2.toInt ∧ x2.toInt ≤ 9
    · by_cases hin3 : 0 ≤ x3.toInt ∧ x3.toInt ≤ 1
      · simp only [if01_t hin, if01_t hin2, if01_t hin3]
        obtain ⟨a, -, ha, ha2⟩ := b_of hin.1
        obtain ⟨m', -, hm', hm2⟩ := b_of (x := x2) (by omega)
        have hm9 : 1 ≤ m' ∧ m' ≤ 9 := by omega
        obtain ⟨T, hT⟩ : ∃ T, T = (FL w h d - a) / 10 := ⟨_, rfl⟩
        have hTl : T < 799 := by omega
        have hTe : (nI (FL w h d) - nI a : Int32) / 10 = nI T := by
          rw [pk_sub (by omega), show (10 : Int32) = nI 10 from rfl, pk_div (by omega) (by omega) (by omega), hT]
        obtain ⟨wins', first', moves', f1, f2⟩ := outer_m hm9 hTl (T + 1) 0 FU (ma 11) (ma 12) (ma 13) (by omega) (Nat.le_trans (by omega) FU_ge) (fun s hs => absurd hs (Nat.not_lt_zero s))
        have f1 : fX4_findStall (nI T) (nI m') (ma 11) (ma 12) (ma 13) = _ := f1
        obtain ⟨g1, g2⟩ := f2 T (Nat.le_refl T)
        have hgt := nI_inF (show T < 800 by omega) (show 800 < 2 ^ 31 by omega)
        have hdl := Nat.div_le_self T (m' + 1)
        have hdiv : (nI T / nI (m' + 1) : Int32) = nI (T / (m' + 1)) := pk_div (by omega) (by omega) (by omega)
        have hrem : (nI T - nI (T / (m' + 1)) * nI (m' + 1) : Int32) = nI (T % (m' + 1)) := by rw [← hdiv]; exact pk_rem (by omega) (by omega) (by omega)
        have hml := Nat.mod_lt T (show 0 < m' + 1 by omega)
        rw [ha, hm', hTe, nI_1, f1, bnd3_s]
        simp only [hdiv, hrem, if_pos (show ¬ nI (m' + 1) = 0 from nI_ne0 (by omega) (by omega)), nI_clamp (show T < 2 ^ 31 by omega), if_pos (nI_inG (show T < 800 by omega) (show 800 < 2 ^ 31 by omega)), g1, g2]
        by_cases h3 : x3 = 0
        · simp only [if_pos h3]
          by_cases hz : T % (m' + 1) = 0
          · rw [if_pos (by rw [hz]; rfl), show FTn m' T = -6 from if_pos hz]
            exact ⟨_, _, _, _, rfl, rfl, hR⟩
          · rw [if_neg (nI_ne0 (by omega) (by omega)), show FTn m' T = nI (T % (m' + 1)) from if_neg hz]
            exact ⟨_, _, _, _, rfl, rfl, hR⟩
        · simp only [if_neg h3]
          by_cases hz : T % (m' + 1) = 0
          · rw [if_pos (by rw [hz]; rfl), show MVn m' T = 2 * (T / (m' + 1)) + 1 from by show _ + (if T % (m' + 1) = 0 then 1 else 2) = _; rw [if_pos hz], show (2 : Int32) = nI 2 from rfl, pk_mul, nI_1]
            exact ⟨_, _, _, _, rfl, rfl, hR⟩
          · rw [if_neg (nI_ne0 (by omega) (by omega)), show MVn m' T = 2 * (T / (m' + 1)) + 2 from by show _ + (if T % (m' + 1) = 0 then 1 else 2) = _; rw [if_neg hz], show (2 : Int32) = nI 2 from rfl, pk_mul, nI_add]
            exact ⟨_, _, _, _, rfl, rfl, hR⟩
      · simp only [if01_t hin, if01_t hin2, if01_f hin3]
        exact ⟨_, _, _, _, rfl, rfl, hR⟩
    · simp only [if01_t hin, if01_f hin2]
      exact ⟨_, _, _, _, rfl, rfl, hR⟩
  · simp only [if01_f hin]
    exact ⟨_, _, _, _, rfl, rfl, hR⟩
