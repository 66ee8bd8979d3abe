theorem upd_self (f : Nat → Int32) (k : Nat) : upd f k (f k) = f := by
  funext j
  unfold upd
  by_cases h : j = k
  · rw [if_pos h, h]
  · rw [if_neg h]
theorem copyRow_l {src : Nat → Int32} : ∀ (r i fuel : Nat) (dst : Nat → Int32), i + r = 6 → r + 1 ≤ fuel → (∀ k, k < i → dst k = src k) → ∃ g, fX3_copyRow_l2 src 6 6 fuel (nI i) dst = some g ∧ ∀ k, k < 6 → g k = src k
  | 0, i, fuel, dst, hi, hf, hd => by
    obtain ⟨f, rfl⟩ : ∃ f, fuel = f + 1 := ⟨fuel - 1, by omega⟩
    refine ⟨dst, ?_, fun k hk => hd k (by omega)⟩
    rw [fX3_copyRow_l2, if_pos (show Int32.ofNat 6 ≤ nI i from nI_le (a := 6) (by omega) (by omega))]
  | r + 1, i, fuel, dst, hi, hf, hd => by
    obtain ⟨f, rfl⟩ : ∃ f, fuel = f + 1 := ⟨fuel - 1, by omega⟩
    rw [fX3_copyRow_l2, if_neg (show ¬ Int32.ofNat 6 ≤ nI i from nI_ge (b := 6) (by omega) (by omega)), at_nI (by omega) (by omega), bnd1_s, if_pos (nI_inF (show i < 6 by omega) (by omega)), nI_clamp (by omega), nI_1]
    refine copyRow_l r (i + 1) f _ (by omega) (by omega) (fun k hk => ?_)
    unfold upd
    by_cases h : k = i
    · rw [if_pos h, h]
    · rw [if_neg h]; exact hd k (by omega)
theorem copyRow_s (dst src : Nat → Int32) : ∃ g, fX3_copyRow dst src 6 6 = some g ∧ ∀ k, k < 6 → g k = src k :=
  copyRow_l 6 0 FU dst (by omega) (Nat.le_trans (by omega) FU_ge) (fun k h => absurd h (Nat.not_lt_zero k))
theorem BR_move {cw ch cd cl cn cs mw mh md ml mn ms mw' mh' md' ml' mn' ms' : Int32} {cfi cse cwo cwi cro csw csm mfi mse mwo mwi mro msw msm cfi' cse' cwo' cwi' cro' csw' csm' mfi' mse' mwo' mwi' mro' msw' msm' : Nat → Int32} (hb : BR cw ch cd cl cn cs cfi cse cwo cwi cro csw csm mw mh md ml mn ms mfi mse mwo mwi mro msw msm)
    (hc : ∀ k, k < 6 → cfi' k = cfi k ∧ cse' k = cse k ∧ cwo' k = cwo k ∧ cwi' k = cwi k ∧ cro' k = cro k ∧ csw' k = csw k ∧ csm' k = csm k) (he : mw' = mw ∧ mh' = mh ∧ md' = md ∧ ml' = ml ∧ mn' = mn ∧ ms' = ms) (hm : ∀ k, k < 6 → mfi' k = mfi k ∧ mse' k = mse k ∧ mwo' k = mwo k ∧ mwi' k = mwi k ∧ mro' k = mro k ∧ msw' k = msw k ∧ msm' k = msm k) :
    BR cw ch cd cl cn cs cfi' cse' cwo' cwi' cro' csw' csm' mw' mh' md' ml' mn' ms' mfi' mse' mwo' mwi' mro' msw' msm' := by
  obtain ⟨w, h, d, l, n, s, fi, se, wo, wi, ro, sw, sm, ⟨b1, b2, b3, b4, b5, b6, b7, b8⟩, ec, ⟨m1, m2, m3, m4, m5, m6⟩, hv, hr, hri, gc, gm, gs⟩ := hb
  obtain ⟨h1, h2, h3, h4, h5, h6⟩ := he
  refine ⟨w, h, d, l, n, s, fi, se, wo, wi, ro, sw, sm, ⟨b1, b2, b3, b4, b5, b6, b7, b8⟩, ec, ⟨h1.trans m1, h2.trans m2, h3.trans m3, h4.trans m4, h5.trans m5, h6.trans m6⟩, hv, hr, hri, fun k hk => ?_, fun k hk => ?_, fun k hk => ?_⟩
  · obtain ⟨c1, c2, c3, c4, c5, c6, c7⟩ := hc k (by omega)
    obtain ⟨g1, g2, g3, g4, g5⟩ := gc k hk
    exact ⟨c1.trans g1, c2.trans g2, c3.trans g3, c4.trans g4, c5.trans g5⟩
  · obtain ⟨c1, c2, c3, c4, c5, c6, c7⟩ := hm k (by omega)
    obtain ⟨g1, g2, g3, g4, g5⟩ := gm k hk
    exact ⟨c1.trans g1, c2.trans g2, c3.trans g3, c4.trans g4, c5.trans g5⟩
  · obtain ⟨c1, c2, c3, c4, c5, c6, c7⟩ := hc k (by omega)
    obtain ⟨d1, d2, d3, d4, d5, d6, d7⟩ := hm k (by omega)
    obtain ⟨g1, g2, g3, g4, g5, g6, g7⟩ := gs k hk
    exact ⟨g1, g2, g3, c6.trans g4, c7.trans g5, d6.trans g6, d7.trans g7⟩
theorem IR_move {cf mf cw ch cd cl cn cs : Int32} {cfi cse cwo cwi cro csw csm kept kept' : Nat → Int32} {o : Nat} (h : IR cf mf cw ch cd cl cn cs cfi cse cwo cwi cro csw csm o kept) (hk : ∀ j, o ≤ j → j < o + 48 → kept' j = kept j) : IR cf mf cw ch cd cl cn cs cfi cse cwo cwi cro csw csm o kept' := by
  rcases h with h | ⟨h1, h2, hb⟩
  · exact Or.inl h
  · refine Or.inr ⟨h1, h2, BR_move hb (fun k _ => ⟨rfl, rfl, rfl, rfl, rfl, rfl, rfl⟩) ⟨hk _ (by omega) (by omega), hk _ (by omega) (by omega), hk _ (by omega) (by omega), hk _ (by omega) (by omega), hk _ (by omega) (by omega), hk _ (by omega) (by omega)⟩ (fun k h6 => ⟨hk _ (by omega) (by omega), hk _ (by omega) (by omega), hk _ (by omega) (by omega), hk _ (by omega) (by omega), hk _ (by omega) (by omega), hk _ (by omega) (by omega), hk _ (by omega) (by omega)⟩)⟩
theorem pass_w {a : Nat} (b : Nat) (ha : a < 120) (hb : b = a + 1) (v : Int32) (kept : Nat → Int32) : fX4_pass v 1 (nI a) kept = some (v, nI b, upd kept a v) := by
  unfold fX4_pass
  rw [if_neg (by decide)]
  unfold fX4_pass_j20
  rw [if_pos (nI_inF ha (by omega)), nI_clamp (by omega), nI_1, hb]
theorem pass_r {a : Nat} (b : Nat) (ha : a < 120) (hb : b = a + 1) (v : Int32) (kept : Nat → Int32) : fX4_pass v 0 (nI a) kept = some (kept a, nI b, kept) := by
  unfold fX4_pass
  rw [if_pos rfl, if_pos (nI_inF ha (by omega)), nI_clamp (by omega)]
  unfold fX4_pass_j20
  rw [if_pos (nI_inF ha (by omega)), nI_clamp (by omega), nI_1, hb, upd_self]
theorem bnd13_s {A B C D E F G H I J K L M γ : Type} (a : A) (b : B) (c : C) (d : D) (e : E) (f : F) (g : G) (h : H) (i : I) (j : J) (k : K) (l : L) (m : M) (K' : A → B → C → D → E → F → G → H → I → J → K → L → M → Option γ) : bnd13 (some (a, b, c, d, e, f, g, h, i, j, k, l, m)) K' = K' a b c d e f g h i j k l m := rfl
theorem bnd15_s {A B C D E F G H I J K L M N O γ : Type} (a : A) (b : B) (c : C) (d : D) (e : E) (f : F) (g : G) (h : H) (i : I) (j : J) (k : K) (l : L) (m : M) (n : N) (o : O) (K' : A → B → C → D → E → F → G → H → I → J → K → L → M → N → O → Option γ) : bnd15 (some (a, b, c, d, e, f, g, h, i, j, k, l, m, n, o)) K' = K' a b c d e f g h i j k l m n o := rfl
theorem passW {o : Nat} (ho : o + 48 ≤ 120) (w h d l n s : Int32) (fi se wo wi ro sw sm : Nat → Int32) : ∀ (r k fuel : Nat) (kept : Nat → Int32), k + r = 6 → r + 1 ≤ fuel →
    ∃ kept', fX4_passAll_l74 w 1 h d l n s fuel (nI k) (nI (o + 6 + 7 * k)) kept fi se wo wi ro sw sm = some (w, nI (o + 48), h, d, l, n, s, kept', fi, se, wo, wi, ro, sw, sm) ∧ (∀ j, j < o + 6 + 7 * k ∨ o + 48 ≤ j → kept' j = kept j) ∧ ∀ q, k ≤ q → q < 6 → kept' (o + 6 + 7 * q) = fi q ∧ kept' (o + 7 + 7 * q) = se q ∧ kept' (o + 8 + 7 * q) = wo q ∧ kept' (o + 9 + 7 * q) = wi q ∧ kept' (o + 10 + 7 * q) = ro q ∧ kept' (o + 11 + 7 * q) = sw q ∧ kept' (o + 12 + 7 * q) = sm q
  | 0, k, fuel, kept, hk, hf => by
    obtain ⟨f, rfl⟩ : ∃ f, fuel = f + 1 := ⟨fuel - 1, by omega⟩
    have : k = 6 := by omega
    subst this
    refine ⟨kept, ?_, fun _ _ => rfl, fun q h1 h2 => by omega⟩
    rw [fX4_passAll_l74, if_pos (show (6 : Int32) ≤ nI 6 by decide)]
  | r + 1, k, fuel, kept, hk, hf => by
    obtain ⟨f, rfl⟩ : ∃ f, fuel = f + 1 := ⟨fuel - 1, by omega⟩
    have hg := nI_inG (show k < 6 by omega) (show 6 < 2 ^ 31 by omega)
    rw [fX4_passAll_l74, if_neg (show ¬ (6 : Int32) ≤ nI k from nI_ge (b := 6) (by omega) (by omega))]
    simp only [nI_clamp (show k < 2 ^ 31 by omega), if_pos hg, bnd3_s, nI_1, upd_self,
      pass_w (a := o + 6 + 7 * k) (o + 7 + 7 * k) (by omega) (by omega), pass_w (a := o + 7 + 7 * k) (o + 8 + 7 * k) (by omega) (by omega), pass_w (a := o + 8 + 7 * k) (o + 9 + 7 * k) (by omega) (by omega), pass_w (a := o + 9 + 7 * k) (o + 10 + 7 * k) (by omega) (by omega), pass_w (a := o + 10 + 7 * k) (o + 11 + 7 * k) (by omega) (by omega), pass_w (a := o + 11 + 7 * k) (o + 12 + 7 * k) (by omega) (by omega), pass_w (a := o + 12 + 7 * k) (o + 6 + 7 * (k + 1)) (by omega) (by omega)]
    obtain ⟨kept', g1, g2, g3⟩ := passW ho w h d l n s fi se wo wi ro sw sm r (k + 1) f _ (by omega) (by omega)
    refine ⟨kept', g1, fun j hj => ?_, fun q h1 h2 => ?_⟩
    · rw [g2 j (by omega)]
      unfold upd
      rw [if_neg (by omega), if_neg (by omega), if_neg (by omega), if_neg (by omega), if_neg (by omega), if_neg (by omega), if_neg (by omega)]
    · by_cases hq : q = k
      · subst hq
        refine ⟨?_, ?_, ?_, ?_, ?_, ?_, ?_⟩
        · rw [g2 _ (by omega)]; unfold upd; rw [if_neg (by omega), if_neg (by omega), if_neg (by omega), if_neg (by omega), if_neg (by omega), if_neg (by omega), if_pos rfl]
        · rw [g2 _ (by omega)]; unfold upd; rw [if_neg (by omega), if_neg (by omega), if_neg (by omega), if_neg (by omega), if_neg (by omega), if_pos rfl]
        · rw [g2 _ (by omega)]; unfold upd; rw [if_neg (by omega), if_neg (by omega), if_neg (by omega), if_neg (by omega), if_pos rfl]
        · rw [g2 _ (by omega)]; unfold upd; rw [if_neg (by omega), if_neg (by omega), if_neg (by omega), if_pos rfl]
        · rw [g2 _ (by omega)]; unfold upd; rw [if_neg (by omega), if_neg (by omega), if_pos rfl]
        · rw [g2 _ (by omega)]; unfold upd; rw [if_neg (by omega), if_pos rfl]
        · rw [g2 _ (by omega)]; unfold upd; rw [if_pos rfl]
      · exact g3 q (by omega) h2
theorem passAll_w {o : Nat} (ho : o + 48 ≤ 120) (w h d l n s : Int32) (fi se wo wi ro sw sm kept : Nat → Int32) :
    ∃ kept', fX4_passAll w 1 (nI o) h d l n s kept fi se wo wi ro sw sm = some (w, nI (o + 48), h, d, l, n, s, kept', fi, se, wo, wi, ro, sw, sm) ∧ (∀ j, j < o ∨ o + 48 ≤ j → kept' j = kept j) ∧ (kept' o = w ∧ kept' (o + 1) = h ∧ kept' (o + 2) = d ∧ kept' (o + 3) = l ∧ kept' (o + 4) = n ∧ kept' (o + 5) = s) ∧ ∀ q, q < 6 → kept' (o + 6 + 7 * q) = fi q ∧ kept' (o + 7 + 7 * q) = se q ∧ kept' (o + 8 + 7 * q) = wo q ∧ kept' (o + 9 + 7 * q) = wi q ∧ kept' (o + 10 + 7 * q) = ro q ∧ kept' (o + 11 + 7 * q) = sw q ∧ kept' (o + 12 + 7 * q) = sm q := by
  unfold fX4_passAll
  simp only [bnd3_s, pass_w (a := o) (o + 1) (by omega) (by omega), pass_w (a := o + 1) (o + 2) (by omega) (by omega), pass_w (a := o + 2) (o + 3) (by omega) (by omega), pass_w (a := o + 3) (o + 4) (by omega) (by omega), pass_w (a := o + 4) (o + 5) (by omega) (by omega), pass_w (a := o + 5) (o + 6 + 7 * 0) (by omega) (by omega)]
  obtain ⟨kept', g1, g2, g3⟩ := passW ho w h d l n s fi se wo wi ro sw sm 6 0 FU _ (by omega) (Nat.le_trans (by omega) FU_ge)
  refine ⟨kept', g1, fun j hj => ?_, ?_, fun q hq => g3 q (by omega) hq⟩
  · rw [g2 j (by omega)]
    unfold upd
    rw [if_neg (by omega), if_neg (by omega), if_neg (by omega), if_neg (by omega), if_neg (by omega), if_neg (by omega)]
  · refine ⟨?_, ?_, ?_, ?_, ?_, ?_⟩
    · rw [g2 _ (by omega)]; unfold upd; rw [if_neg (by omega), if_neg (by omega), if_neg (by omega), if_neg (by omega), if_neg (by omega), if_pos rfl]
    · rw [g2 _ (by omega)]; unfold upd; rw [if_neg (by omega), if_neg (by omega), if_neg (by omega), if_neg (by omega), if_pos rfl]
    · rw [g2 _ (by omega)]; unfold upd; rw [if_neg (by omega), if_neg (by omega), if_neg (by omega), if_pos rfl]
    · rw [g2 _ (by omega)]; unfold upd; rw [if_neg (by omega), if_neg (by omega), if_pos rfl]
    · rw [g2 _ (by omega)]; unfold upd; rw [if_neg (by omega), if_pos rfl]
    · rw [g2 _ (by omega)]; unfold upd; rw [if_pos rfl]
theorem passR {o : Nat} (ho : o + 48 ≤ 120) (w h d l n s : Int32) (kept : Nat → Int32) : ∀ (r k fuel : Nat) (fi se wo wi ro sw sm : Nat → Int32), k + r = 6 → r + 1 ≤ fuel → (∀ q, q < k → fi q = kept (o + 6 + 7 * q) ∧ se q = kept (o + 7 + 7 * q) ∧ wo q = kept (o + 8 + 7 * q) ∧ wi q = kept (o + 9 + 7 * q) ∧ ro q = kept (o + 10 + 7 * q) ∧ sw q = kept (o + 11 + 7 * q) ∧ sm q = kept (o + 12 + 7 * q)) →
    ∃ fi' se' wo' wi' ro' sw' sm', fX4_passAll_l74 w 0 h d l n s fuel (nI k) (nI (o + 6 + 7 * k)) kept fi se wo wi ro sw sm = some (w, nI (o + 48), h, d, l, n, s, kept, fi', se', wo', wi', ro', sw', sm') ∧ ∀ q, q < 6 → fi' q = kept (o + 6 + 7 * q) ∧ se' q = kept (o + 7 + 7 * q) ∧ wo' q = kept (o + 8 + 7 * q) ∧ wi' q = kept (o + 9 + 7 * q) ∧ ro' q = kept (o + 10 + 7 * q) ∧ sw' q = kept (o + 11 + 7 * q) ∧ sm' q = kept (o + 12 + 7 * q)
  | 0, k, fuel, fi, se, wo, wi, ro, sw, sm, hk, hf, hh => by
    obtain ⟨f, rfl⟩ : ∃ f, fuel = f + 1 := ⟨fuel - 1, by omega⟩
    have : k = 6 := by omega
    subst this
    refine ⟨fi, se, wo, wi, ro, sw, sm, ?_, hh⟩
    rw [fX4_passAll_l74, if_pos (show (6 : Int32) ≤ nI 6 by decide)]
  | r + 1, k, fuel, fi, se, wo, wi, ro, sw, sm, hk, hf, hh => by
    obtain ⟨f, rfl⟩ : ∃ f, fuel = f + 1 := ⟨fuel - 1, by omega⟩
    have hg := nI_inG (show k < 6 by omega) (show 6 < 2 ^ 31 by omega)
    rw [fX4_passAll_l74, if_neg (show ¬ (6 : Int32) ≤ nI k from nI_ge (b := 6) (by omega) (by omega))]
    simp only [nI_clamp (show k < 2 ^ 31 by omega), if_pos hg, bnd3_s, nI_1,
      pass_r (a := o + 6 + 7 * k) (o + 7 + 7 * k) (by omega) (by omega), pass_r (a := o + 7 + 7 * k) (o + 8 + 7 * k) (by omega) (by omega), pass_r (a := o + 8 + 7 * k) (o + 9 + 7 * k) (by omega) (by omega), pass_r (a := o + 9 + 7 * k) (o + 10 + 7 * k) (by omega) (by omega), pass_r (a := o + 10 + 7 * k) (o + 11 + 7 * k) (by omega) (by omega), pass_r (a := o + 11 + 7 * k) (o + 12 + 7 * k) (by omega) (by omega), pass_r (a := o + 12 + 7 * k) (o + 6 + 7 * (k + 1)) (by omega) (by omega)]
    refine passR ho w h d l n s kept r (k + 1) f _ _ _ _ _ _ _ (by omega) (by omega) (fun q hq => ?_)
    unfold upd
    by_cases h : q = k
    · subst h
      simp only [if_true, and_self]
    · simp only [if_neg h]
      exact hh q (by omega)
theorem passAll_r {o : Nat} (ho : o + 48 ≤ 120) (w h d l n s : Int32) (fi se wo wi ro sw sm kept : Nat → Int32) :
    ∃ fi' se' wo' wi' ro' sw' sm', fX4_passAll w 0 (nI o) h d l n s kept fi se wo wi ro sw sm = some (kept o, nI (o + 48), kept (o + 1), kept (o + 2), kept (o + 3), kept (o + 4), kept (o + 5), kept, fi', se', wo', wi', ro', sw', sm') ∧ ∀ q, q < 6 → fi' q = kept (o + 6 + 7 * q) ∧ se' q = kept (o + 7 + 7 * q) ∧ wo' q = kept (o + 8 + 7 * q) ∧ wi' q = kept (o + 9 + 7 * q) ∧ ro' q = kept (o + 10 + 7 * q) ∧ sw' q = kept (o + 11 + 7 * q) ∧ sm' q = kept (o + 12 + 7 * q) := by
  unfold fX4_passAll
  simp only [bnd3_s, pass_r (a := o) (o + 1) (by omega) (by omega), pass_r (a := o + 1) (o + 2) (by omega) (by omega), pass_r (a := o + 2) (o + 3) (by omega) (by omega), pass_r (a := o + 3) (o + 4) (by omega) (by omega), pass_r (a := o + 4) (o + 5) (by omega) (by omega), pass_r (a := o + 5) (o + 6 + 7 * 0) (by omega) (by omega)]
  exact passR ho _ _ _ _ _ _ kept 6 0 FU fi se wo wi ro sw sm (by omega) (Nat.le_trans (by omega) FU_ge) (fun q h => absurd h (Nat.not_lt_zero q))
theorem copy_s (w h d l n s : Int32) (a1 b1 a2 b2 a3 b3 a4 b4 a5 b5 a6 b6 a7 b7 : Nat → Int32) : ∃ g1 g2 g3 g4 g5 g6 g7, fX0_copy w h d l n s a1 b1 a2 b2 a3 b3 a4 b4 a5 b5 a6 b6 a7 b7 = some (w, h, d, l, n, s, g1, g2, g3, g4, g5, g6, g7) ∧ ∀ k, k < 6 → g1 k = b1 k ∧ g2 k = b2 k ∧ g3 k = b3 k ∧ g4 k = b4 k ∧ g5 k = b5 k ∧ g6 k = b6 k ∧ g7 k = b7 k := by
  obtain ⟨g1, p1, q1⟩ := copyRow_s a1 b1
  obtain ⟨g2, p2, q2⟩ := copyRow_s a2 b2
  obtain ⟨g3, p3, q3⟩ := copyRow_s a3 b3
  obtain ⟨g4, p4, q4⟩ := copyRow_s a4 b4
  obtain ⟨g5, p5, q5⟩ := copyRow_s a5 b5
  obtain ⟨g6, p6, q6⟩ := copyRow_s a6 b6
  obtain ⟨g7, p7, q7⟩ := copyRow_s a7 b7
  refine ⟨g1, g2, g3, g4, g5, g6, g7, ?_, fun k hk => ⟨q1 k hk, q2 k hk, q3 k hk, q4 k hk, q5 k hk, q6 k hk, q7 k hk⟩⟩
  unfold fX0_copy
  rw [p1, bnd1_s, p2, bnd1_s, p3, bnd1_s, p4, bnd1_s, p5, bnd1_s, p6, bnd1_s, p7, bnd1_s]
theorem P_imageS0 {c : Nat → Int32} {ca : Nat → Nat → Int32} {m : Nat → Int32} {ma : Nat → Nat → Int32} {mh : Nat → Int64} (x1 : Int32) (h : x1 = 0) (hR : Rel c ca m ma) : ∃ (r : Int32) (a0 : Int32) (a1 : Int32) (a2 : Int32) (a3 : Int32) (a4 : Int32) (a5 : Int32) (a6 : Int32) (a7 : Nat → Int32) (a8 : Nat → Int32) (a9 : Nat → Int32) (a10 : Nat → Int32) (a11 : Nat → Int32) (a12 : Nat → Int32) (a13 : Nat → Int32) (b0 : Int32) (b1 : Int32) (b2 : Int32) (b3 : Int32) (b4 : Int32) (b5 : Int32) (b6 : Int32) (b7 : Int32) (b8 : Nat → Int32) (b9 : Nat → Int32) (b10 : Nat → Int32) (b11 : Nat → Int32) (b12 : Nat → Int32) (b13 : Nat → Int32) (b14 : Nat → Int32) (b15 : Nat → Int32) (b16 : Nat → Int32), fX3_imageS (c 1) (c 2) (c 3) (c 4) (c 5) (c 6) (ca 8) (ca 1) (ca 9) (ca 2) (ca 10) (ca 3) (ca 11) (ca 4) (ca 12) (ca 5) (ca 13) (ca 6) (ca 14) (ca 7) = some (r, a0, a1, a2, a3, a4, a5, a6, a7, a8, a9, a10, a11, a12, a13) ∧ fX4_image x1 (m 15) (m 16) (m 0) (m 1) (m 2) (m 3) (m 4) (m 5) (ma 14) (ma 0) (ma 1) (ma 2) (ma 3) (ma 4) (ma 5) (ma 6) (ma 15) = some (r, b0, b1, b2, b3, b4, b5, b6, b7, b8, b9, b10, b11, b12, b13, b14, b15, b16) ∧ Rel (blI ((c 0) :: (c 1) :: (c 2) :: (c 3) :: (c 4) :: (c 5) :: (c 6) :: (c 7) :: a0 :: a1 :: a2 :: a3 :: a4 :: a5 :: a6 :: (c 15) :: (c 16) :: (c 17) :: (c 18) :: (c 19) :: (c 20) :: (c 21) :: (c 22) :: (c 23) :: (c 24) :: (c 25) :: (c 26) :: (c 27) :: (c 28) :: (c 29) :: (c 30) :: (c 31) :: [])) (blA ((ca 0) :: (ca 1) :: (ca 2) :: (ca 3) :: (ca 4) :: (ca 5) :: (ca 6) :: (ca 7) :: a7 :: a8 :: a9 :: a10 :: a11 :: a12 :: a13 :: (ca 15) :: (ca 16) :: (ca 17) :: (ca 18) :: (ca 19) :: (ca 20) :: (ca 21) :: (ca 22) :: (ca 23) :: (ca 24) :: (ca 25) :: (ca 26) :: (ca 27) :: [])) (blI (b2 :: b3 :: b4 :: b5 :: b6 :: b7 :: (m 6) :: (m 7) :: (m 8) :: (m 9) :: (m 10) :: (m 11) :: (m 12) :: (m 13) :: (m 14) :: b0 :: b1 :: [])) (blA (b9 :: b10 :: b11 :: b12 :: b13 :: b14 :: b15 :: (ma 7) :: (ma 8) :: (ma 9) :: (ma 10) :: (ma 11) :: (ma 12) :: (ma 13) :: b8 :: b16 :: [])) := by
  subst h
  obtain ⟨hp, hb, i0, i1⟩ := id hR
  obtain ⟨kept', f1, k1, ⟨k2, k3, k4, k5, k6, k7⟩, k8⟩ := passAll_w (o := 0) (by omega) (m 0) (m 1) (m 2) (m 3) (m 4) (m 5) (ma 0) (ma 1) (ma 2) (ma 3) (ma 4) (ma 5) (ma 6) (ma 14)
  obtain ⟨g1, g2, g3, g4, g5, g6, g7, f2, q2⟩ := copy_s (c 1) (c 2) (c 3) (c 4) (c 5) (c 6) (ca 8) (ca 1) (ca 9) (ca 2) (ca 10) (ca 3) (ca 11) (ca 4) (ca 12) (ca 5) (ca 13) (ca 6) (ca 14) (ca 7)
  unfold fX3_imageS fX4_image
  have hin : 0 ≤ (0 : Int32).toInt ∧ (0 : Int32).toInt ≤ 1 := by decide
  rw [in_eq2 0 (a := 0) (b := 1) rfl rfl, bnd1_s, f2, bnd13_s, show (60 * 0 : Int32) = nI 0 by decide]
  simp only [if01_t hin]
  rw [f1, bnd15_s, if_pos (show ¬ ((0 : Int32) < 0 ∨ 2 ≤ Int32.toNatClampNeg 0) by decide)]
  refine ⟨_, _, _, _, _, _, _, _, _, _, _, _, _, _, _, _, _, _, _, _, _, _, _, _, _, _, _, _, _, _, _, _, rfl, rfl, hp, hb, ?_, IR_move i1 (fun j h1 _ => k1 j (by omega))⟩
  refine Or.inr ⟨rfl, ?_, BR_move hb q2 ⟨k2, k3, k4, k5, k6, k7⟩ k8⟩
  show upd (ma 15) (Int32.toNatClampNeg 0) (vp_nar .boolean 1) 0 = 1
  unfold upd
  rw [if_pos (by decide)]
  decide
theorem P_restoreS0 {c : Nat → Int32} {ca : Nat → Nat → Int32} {m : Nat → Int32} {ma : Nat → Nat → Int32} {mh : Nat → Int64} (x1 : Int32) (h : x1 = 0) (hR : Rel c ca m ma) : ∃ (r : Int32) (a0 : Int32) (a1 : Int32) (a2 : Int32) (a3 : Int32) (a4 : Int32) (a5 : Int32) (a6 : Nat → Int32) (a7 : Nat → Int32) (a8 : Nat → Int32) (a9 : Nat → Int32) (a10 : Nat → Int32) (a11 : Nat → Int32) (a12 : Nat → Int32) (b0 : Int32) (b1 : Int32) (b2 : Int32) (b3 : Int32) (b4 : Int32) (b5 : Int32) (b6 : Int32) (b7 : Int32) (b8 : Nat → Int32) (b9 : Nat → Int32) (b10 : Nat → Int32) (b11 : Nat → Int32) (b12 : Nat → Int32) (b13 : Nat → Int32) (b14 : Nat → Int32) (b15 : Nat → Int32), fX3_restoreS (c 14) (c 8) (c 1) (c 9) (c 2) (c 10) (c 3) (c 11) (c 4) (c 12) (c 5) (c 13) (c 6) (ca 1) (ca 8) (ca 2) (ca 9) (ca 3) (ca 10) (ca 4) (ca 11) (ca 5) (ca 12) (ca 6) (ca 13) (ca 7) (ca 14) = some (r, a0, a1, a2, a3, a4, a5, a6, a7, a8, a9, a10, a11, a12) ∧ fX4_restore x1 (m 15) (m 16) (m 0) (m 1) (m 2) (m 3) (m 4) (m 5) (ma 15) (ma 14) (ma 0) (ma 1) (ma 2) (ma 3) (ma 4) (ma 5) (ma 6) = some (r, b0, b1, b2, b3, b4, b5, b6, b7, b8, b9, b10, b11, b12, b13, b14, b15) ∧ Rel (blI ((c 0) :: a0 :: a1 :: a2 :: a3 :: a4 :: a5 :: (c 7) :: (c 8) :: (c 9) :: (c 10) :: (c 11) :: (c 12) :: (c 13) :: (c 14) :: (c 15) :: (c 16) :: (c 17) :: (c 18) :: (c 19) :: (c 20) :: (c 21) :: (c 22) :: (c 23) :: (c 24) :: (c 25) :: (c 26) :: (c 27) :: (c 28) :: (c 29) :: (c 30) :: (c 31) :: [])) (blA ((ca 0) :: a6 :: a7 :: a8 :: a9 :: a10 :: a11 :: a12 :: (ca 8) :: (ca 9) :: (ca 10) :: (ca 11) :: (ca 12) :: (ca 13) :: (ca 14) :: (ca 15) :: (ca 16) :: (ca 17) :: (ca 18) :: (ca 19) :: (ca 20) :: (ca 21) :: (ca 22) :: (ca 23) :: (ca 24) :: (ca 25) :: (ca 26) :: (ca 27) :: [])) (blI (b2 :: b3 :: b4 :: b5 :: b6 :: b7 :: (m 6) :: (m 7) :: (m 8) :: (m 9) :: (m 10) :: (m 11) :: (m 12) :: (m 13) :: (m 14) :: b0 :: b1 :: [])) (blA (b9 :: b10 :: b11 :: b12 :: b13 :: b14 :: b15 :: (ma 7) :: (ma 8) :: (ma 9) :: (ma 10) :: (ma 11) :: (ma 12) :: (ma 13) :: b8 :: (ma 15) :: [])) := by
  subst h
  obtain ⟨hp, hb, i0, i1⟩ := id hR
  have hin : 0 ≤ (0 : Int32).toInt ∧ (0 : Int32).toInt ≤ 1 := by decide
  have hcl : Int32.toNatClampNeg 0 = 0 := by decide
  unfold fX3_restoreS fX4_restore
  rw [in_eq2 0 (a := 0) (b := 1) rfl rfl, bnd1_s]
  simp only [if01_t hin]
  rw [if_pos (show ¬ ((0 : Int32) < 0 ∨ 2 ≤ Int32.toNatClampNeg 0) by decide), hcl]
  rcases i0 with ⟨z1, z2⟩ | ⟨z1, z2, zb⟩
  · rw [if_pos z1, if_pos z2]
    exact ⟨_, _, _, _, _, _, _, _, _, _, _, _, _, _, _, _, _, _, _, _, _, _, _, _, _, _, _, _, _, _, rfl, rfl, hR⟩
  · obtain ⟨a1, a2, a3, a4, a5, a6, a7, f1, k8⟩ := passAll_r (o := 0) (by omega) (m 0) (m 1) (m 2) (m 3) (m 4) (m 5) (ma 0) (ma 1) (ma 2) (ma 3) (ma 4) (ma 5) (ma 6) (ma 14)
    obtain ⟨g1, g2, g3, g4, g5, g6, g7, f2, q2⟩ := copy_s (c 8) (c 9) (c 10) (c 11) (c 12) (c 13) (ca 1) (ca 8) (ca 2) (ca 9) (ca 3) (ca 10) (ca 4) (ca 11) (ca 5) (ca 12) (ca 6) (ca 13) (ca 7) (ca 14)
    rw [if_neg (by rw [z1]; decide), if_neg (by rw [z2]; decide), f2, bnd13_s, show (60 * 0 : Int32) = nI 0 by decide, f1, bnd15_s]
    exact ⟨_, _, _, _, _, _, _, _, _, _, _, _, _, _, _, _, _, _, _, _, _, _, _, _, _, _, _, _, _, _, rfl, rfl, hp, BR_move zb q2 ⟨rfl, rfl, rfl, rfl, rfl, rfl⟩ k8, hR.2.2.1, hR.2.2.2⟩
theorem P_imageS1 {c : Nat → Int32} {ca : Nat → Nat → Int32} {m : Nat → Int32} {ma : Nat → Nat → Int32} {mh : Nat → Int64} (x1 : Int32) (h : x1 = 1) (hR : Rel c ca m ma) : ∃ (r : Int32) (a0 : Int32) (a1 : Int32) (a2 : Int32) (a3 : Int32) (a4 : Int32) (a5 : Int32) (a6 : Int32) (a7 : Nat → Int32) (a8 : Nat → Int32) (a9 : Nat → Int32) (a10 : Nat → Int32) (a11 : Nat → Int32) (a12 : Nat → Int32) (a13 : Nat → Int32) (b0 : Int32) (b1 : Int32) (b2 : Int32) (b3 : Int32) (b4 : Int32) (b5 : Int32) (b6 : Int32) (b7 : Int32) (b8 : Nat → Int32) (b9 : Nat → Int32) (b10 : Nat → Int32) (b11 : Nat → Int32) (b12 : Nat → Int32) (b13 : Nat → Int32) (b14 : Nat → Int32) (b15 : Nat → Int32) (b16 : Nat → Int32), fX3_imageS (c 1) (c 2) (c 3) (c 4) (c 5) (c 6) (ca 15) (ca 1) (ca 16) (ca 2) (ca 17) (ca 3) (ca 18) (ca 4) (ca 19) (ca 5) (ca 20) (ca 6) (ca 21) (ca 7) = some (r, a0, a1, a2, a3, a4, a5, a6, a7, a8, a9, a10, a11, a12, a13) ∧ fX4_image x1 (m 15) (m 16) (m 0) (m 1) (m 2) (m 3) (m 4) (m 5) (ma 14) (ma 0) (ma 1) (ma 2) (ma 3) (ma 4) (ma 5) (ma 6) (ma 15) = some (r, b0, b1, b2, b3, b4, b5, b6, b7, b8, b9, b10, b11, b12, b13, b14, b15, b16) ∧ Rel (blI ((c 0) :: (c 1) :: (c 2) :: (c 3) :: (c 4) :: (c 5) :: (c 6) :: (c 7) :: (c 8) :: (c 9) :: (c 10) :: (c 11) :: (c 12) :: (c 13) :: (c 14) :: a0 :: a1 :: a2 :: a3 :: a4 :: a5 :: a6 :: (c 22) :: (c 23) :: (c 24) :: (c 25) :: (c 26) :: (c 27) :: (c 28) :: (c 29) :: (c 30) :: (c 31) :: [])) (blA ((ca 0) :: (ca 1) :: (ca 2) :: (ca 3) :: (ca 4) :: (ca 5) :: (ca 6) :: (ca 7) :: (ca 8) :: (ca 9) :: (ca 10) :: (ca 11) :: (ca 12) :: (ca 13) :: (ca 14) :: a7 :: a8 :: a9 :: a10 :: a11 :: a12 :: a13 :: (ca 22) :: (ca 23) :: (ca 24) :: (ca 25) :: (ca 26) :: (ca 27) :: [])) (blI (b2 :: b3 :: b4 :: b5 :: b6 :: b7 :: (m 6) :: (m 7) :: (m 8) :: (m 9) :: (m 10) :: (m 11) :: (m 12) :: (m 13) :: (m 14) :: b0 :: b1 :: [])) (blA (b9 :: b10 :: b11 :: b12 :: b13 :: b14 :: b15 :: (ma 7) :: (ma 8) :: (ma 9) :: (ma 10) :: (ma 11) :: (ma 12) :: (ma 13) :: b8 :: b16 :: [])) := by
  subst h
  obtain ⟨hp, hb, i0, i1⟩ := id hR
  obtain ⟨kept', f1, k1, ⟨k2, k3, k4, k5, k6, k7⟩, k8⟩ := passAll_w (o := 60) (by omega) (m 0) (m 1) (m 2) (m 3) (m 4) (m 5) (ma 0) (ma 1) (ma 2) (ma 3) (ma 4) (ma 5) (ma 6) (ma 14)
  obtain ⟨g1, g2, g3, g4, g5, g6, g7, f2, q2⟩ := copy_s (c 1) (c 2) (c 3) (c 4) (c 5) (c 6) (ca 15) (ca 1) (ca 16) (ca 2) (ca 17) (ca 3) (ca 18) (ca 4) (ca 19) (ca 5) (ca 20) (ca 6) (ca 21) (ca 7)
  unfold fX3_imageS fX4_image
  have hin : 0 ≤ (1 : Int32).toInt ∧ (1 : Int32).toInt ≤ 1 := by decide
  rw [in_eq2 1 (a := 0) (b := 1) rfl rfl, bnd1_s, f2, bnd13_s, show (60 * 1 : Int32) = nI 60 by decide]
  simp only [if01_t hin]
  rw [f1, bnd15_s, if_pos (show ¬ ((1 : Int32) < 0 ∨ 2 ≤ Int32.toNatClampNeg 1) by decide)]
  refine ⟨_, _, _, _, _, _, _, _, _, _, _, _, _, _, _, _, _, _, _, _, _, _, _, _, _, _, _, _, _, _, _, _, rfl, rfl, hp, hb, IR_move i0 (fun j _ h1 => k1 j (by omega)), ?_⟩
  refine Or.inr ⟨rfl, ?_, BR_move hb q2 ⟨k2, k3, k4, k5, k6, k7⟩ k8⟩
  show upd (ma 15) (Int32.toNatClampNeg 1) (vp_nar .boolean 1) 1 = 1
  unfold upd
  rw [if_pos (by decide)]
  decide
theorem P_restoreS1 {c : Nat → Int32} {ca : Nat → Nat → Int32} {m : Nat → Int32} {ma : Nat → Nat → Int32} {mh : Nat → Int64} (x1 : Int32) (h : x1 = 1) (hR : Rel c ca m ma) : ∃ (r : Int32) (a0 : Int32) (a1 : Int32) (a2 : Int32) (a3 : Int32) (a4 : Int32) (a5 : Int32) (a6 : Nat → Int32) (a7 : Nat → Int32) (a8 : Nat → Int32) (a9 : Nat → Int32) (a10 : Nat → Int32) (a11 : Nat → Int32) (a12 : Nat → Int32) (b0 : Int32) (b1 : Int32) (b2 : Int32) (b3 : Int32) (b4 : Int32) (b5 : Int32) (b6 : Int32) (b7 : Int32) (b8 : Nat → Int32) (b9 : Nat → Int32) (b10 : Nat → Int32) (b11 : Nat → Int32) (b12 : Nat → Int32) (b13 : Nat → Int32) (b14 : Nat → Int32) (b15 : Nat → Int32), fX3_restoreS (c 21) (c 15) (c 1) (c 16) (c 2) (c 17) (c 3) (c 18) (c 4) (c 19) (c 5) (c 20) (c 6) (ca 1) (ca 15) (ca 2) (ca 16) (ca 3) (ca 17) (ca 4) (ca 18) (ca 5) (ca 19) (ca 6) (ca 20) (ca 7) (ca 21) = some (r, a0, a1, a2, a3, a4, a5, a6, a7, a8, a9, a10, a11, a12) ∧ fX4_restore x1 (m 15) (m 16) (m 0) (m 1) (m 2) (m 3) (m 4) (m 5) (ma 15) (ma 14) (ma 0) (ma 1) (ma 2) (ma 3) (ma 4) (ma 5) (ma 6) = some (r, b0, b1, b2, b3, b4, b5, b6, b7, b8, b9, b10, b11, b12, b13, b14, b15) ∧ Rel (blI ((c 0) :: a0 :: a1 :: a2 :: a3 :: a4 :: a5 :: (c 7) :: (c 8) :: (c 9) :: (c 10) :: (c 11) :: (c 12) :: (c 13) :: (c 14) :: (c 15) :: (c 16) :: (c 17) :: (c 18) :: (c 19) :: (c 20) :: (c 21) :: (c 22) :: (c 23) :: (c 24) :: (c 25) :: (c 26) :: (c 27) :: (c 28) :: (c 29) :: (c 30) :: (c 31) :: [])) (blA ((ca 0) :: a6 :: a7 :: a8 :: a9 :: a10 :: a11 :: a12 :: (ca 8) :: (ca 9) :: (ca 10) :: (ca 11) :: (ca 12) :: (ca 13) :: (ca 14) :: (ca 15) :: (ca 16) :: (ca 17) :: (ca 18) :: (ca 19) :: (ca 20) :: (ca 21) :: (ca 22) :: (ca 23) :: (ca 24) :: (ca 25) :: (ca 26) :: (ca 27) :: [])) (blI (b2 :: b3 :: b4 :: b5 :: b6 :: b7 :: (m 6) :: (m 7) :: (m 8) :: (m 9) :: (m 10) :: (m 11) :: (m 12) :: (m 13) :: (m 14) :: b0 :: b1 :: [])) (blA (b9 :: b10 :: b11 :: b12 :: b13 :: b14 :: b15 :: (ma 7) :: (ma 8) :: (ma 9) :: (ma 10) :: (ma 11) :: (ma 12) :: (ma 13) :: b8 :: (ma 15) :: [])) := by
  subst h
  obtain ⟨hp, hb, i0, i1⟩ := id hR
  have hin : 0 ≤ (1 : Int32).toInt ∧ (1 : Int32).toInt ≤ 1 := by decide
  have hcl : Int32.toNatClampNeg 1 = 1 := by decide
  unfold fX3_restoreS fX4_restore
  rw [in_eq2 1 (a := 0) (b := 1) rfl rfl, bnd1_s]
  simp only [if01_t hin]
  rw [if_pos (show ¬ ((1 : Int32) < 0 ∨ 2 ≤ Int32.toNatClampNeg 1) by decide), hcl]
  rcases i1 with ⟨z1, z2⟩ | ⟨z1, z2, zb⟩
  · rw [if_pos z1, if_pos z2]
    exact ⟨_, _, _, _, _, _, _, _, _, _, _, _, _, _, _, _, _, _, _, _, _, _, _, _, _, _, _, _, _, _, rfl, rfl, hR⟩
  · obtain ⟨a1, a2, a3, a4, a5, a6, a7, f1, k8⟩ := passAll_r (o := 60) (by omega) (m 0) (m 1) (m 2) (m 3) (m 4) (m 5) (ma 0) (ma 1) (ma 2) (ma 3) (ma 4) (ma 5) (ma 6) (ma 14)
    obtain ⟨g1, g2, g3, g4, g5, g6, g7, f2, q2⟩ := copy_s (c 15) (c 16) (c 17) (c 18) (c 19) (c 20) (ca 1) (ca 15) (ca 2) (ca 16) (ca 3) (ca 17) (ca 4) (ca 18) (ca 5) (ca 19) (ca 6) (ca 20) (ca 7) (ca 21)
    rw [if_neg (by rw [z1]; decide), if_neg (by rw [z2]; decide), f2, bnd13_s, show (60 * 1 : Int32) = nI 60 by decide, f1, bnd15_s]
    exact ⟨_, _, _, _, _, _, _, _, _, _, _, _, _, _, _, _, _, _, _, _, _, _, _, _, _, _, _, _, _, _, rfl, rfl, hp, BR_move zb q2 ⟨rfl, rfl, rfl, rfl, rfl, rfl⟩ k8, hR.2.2.1, hR.2.2.2⟩
