theorem bnd5_s {α β δ ε ζ γ : Type} (a : α) (b : β) (d : δ) (e : ε) (z : ζ) (k : α → β → δ → ε → ζ → Option γ) : bnd5 (some (a, b, d, e, z)) k = k a b d e z := rfl
theorem bnd6_s {α β δ ε ζ η γ : Type} (a : α) (b : β) (d : δ) (e : ε) (z : ζ) (h : η) (k : α → β → δ → ε → ζ → η → Option γ) : bnd6 (some (a, b, d, e, z, h)) k = k a b d e z h := rfl
theorem bnd7_s {α β δ ε ζ η θ γ : Type} (a : α) (b : β) (d : δ) (e : ε) (z : ζ) (h : η) (t : θ) (k : α → β → δ → ε → ζ → η → θ → Option γ) : bnd7 (some (a, b, d, e, z, h, t)) k = k a b d e z h t := rfl
abbrev FL (w h d : Nat) : Nat := 60 * w / h + d
theorem FL_le {w h d : Nat} (hw : w ≤ 99) (hd : d ≤ 999) : FL w h d < 10000 := by
  have := Nat.div_le_self (60 * w) h
  show 60 * w / h + d < 10000
  omega
theorem burns_c {w h : Nat} (hw : w ≤ 99) (hh : 1 ≤ h ∧ h ≤ 9) : fX3_burns (nI w) (nI h) = some (nI (60 * w / h)) := by
  unfold fX3_burns
  rw [if_neg (nI_nle (by omega) (by omega)), if_pos (nI_ne0 (by omega) (by omega)), show (60 : Int32) = nI 60 from rfl, pk_mul, pk_div (by omega) (by omega) (by omega)]
theorem floatsBy_c {w h d : Nat} (hw : w ≤ 99) (hh : 1 ≤ h ∧ h ≤ 9) : fX0_floatsBy (nI w) (nI h) (nI d) = some (nI (FL w h d)) := by
  unfold fX0_floatsBy
  rw [burns_c hw hh, bnd1_s, nI_add]
theorem floats_c {w h d : Nat} (hw : w ≤ 99) (hh : 1 ≤ h ∧ h ≤ 9) : fX0_floats (nI w) (nI h) (nI d) = some (nI (FL w h d)) := by
  unfold fX0_floats
  rw [floatsBy_c hw hh, bnd1_s]
theorem floatsBy_m {w h d : Nat} (hw : w ≤ 99) (hh : 1 ≤ h ∧ h ≤ 9) : fX4_floatsBy (nI w) (nI h) (nI d) = some (nI (FL w h d)) := by
  unfold fX4_floatsBy
  rw [if_pos (nI_ne0 (by omega) (by omega)), show (60 : Int32) = nI 60 from rfl, pk_mul, pk_div (by omega) (by omega) (by omega), nI_add]
theorem clear_m : ∀ (r i fuel : Nat) (has : Nat → Int64), i + r = 4 → r + 1 ≤ fuel → (∀ k, k < i → has k = lN 0) → ∃ has', fX4_clear_l2 fuel (nI i) has = some has' ∧ ∀ k, k < 4 → has' k = lN 0
  | 0, i, fuel, has, hi, hf, hh => by
    obtain ⟨f, rfl⟩ : ∃ f, fuel = f + 1 := ⟨fuel - 1, by omega⟩
    refine ⟨has, ?_, fun k hk => hh k (by omega)⟩
    rw [fX4_clear_l2, if_pos (show (4 : Int32) ≤ nI i from nI_le (a := 4) (by omega) (by omega))]
  | r + 1, i, fuel, has, hi, hf, hh => by
    obtain ⟨f, rfl⟩ : ∃ f, fuel = f + 1 := ⟨fuel - 1, by omega⟩
    rw [fX4_clear_l2, if_neg (show ¬ (4 : Int32) ≤ nI i from nI_ge (b := 4) (by omega) (by omega)), if_pos (nI_inF (by omega) (by omega)), nI_clamp (by omega), nI_1]
    refine clear_m r (i + 1) f _ (by omega) (by omega) (fun k hk => ?_)
    unfold vp_updL
    by_cases h : k = i
    · rw [if_pos h]; rfl
    · rw [if_neg h]; exact hh k (by omega)
theorem layNow_l {n w h d : Nat} {order : Nat → Int32} {has : Nat → Int64} (hw : w ≤ 99) (hh : 1 ≤ h ∧ h ≤ 9) : ∀ (r i fuel : Nat) (by' ex' : Nat → Int32), i + r = 6 → r + 1 ≤ fuel → (∀ k, k < i → by' k = order k ∧ ex' k = 0) →
    ∃ b e z, fX4_layNow_l2 (nI n) (nI w) (nI h) (nI d) order has fuel (nI i) by' ex' = some (nI n, nI (FL w h d), b, e, z) ∧ (∀ k, k < 6 → b k = order k ∧ e k = 0) ∧ ∀ k, k < 4 → z k = lN 0
  | 0, i, fuel, by', ex', hi, hf, hk => by
    obtain ⟨f, rfl⟩ : ∃ f, fuel = f + 1 := ⟨fuel - 1, by omega⟩
    obtain ⟨z, z1, z2⟩ := clear_m 4 0 FU has (by omega) (Nat.le_trans (by omega) FU_ge) (fun k h => absurd h (Nat.not_lt_zero k))
    refine ⟨by', ex', z, ?_, fun k h => hk k (by omega), z2⟩
    rw [fX4_layNow_l2, if_pos (show (6 : Int32) ≤ nI i from nI_le (a := 6) (by omega) (by omega)), floatsBy_m hw hh, bnd1_s]
    unfold fX4_clear
    rw [show (0 : Int32) = nI 0 from rfl, z1, bnd1_s]
  | r + 1, i, fuel, by', ex', hi, hf, hk => by
    obtain ⟨f, rfl⟩ : ∃ f, fuel = f + 1 := ⟨fuel - 1, by omega⟩
    rw [fX4_layNow_l2, if_neg (show ¬ (6 : Int32) ≤ nI i from nI_ge (b := 6) (by omega) (by omega))]
    simp only [if_pos (nI_inG (show i < 6 by omega) (show 6 < 2 ^ 31 by omega)), nI_clamp (show i < 2 ^ 31 by omega), nI_1]
    refine layNow_l hw hh r (i + 1) f _ _ (by omega) (by omega) (fun k hk2 => ?_)
    unfold upd
    by_cases h : k = i
    · rw [if_pos h, if_pos h, h]; exact ⟨rfl, rfl⟩
    · rw [if_neg h, if_neg h]; exact hk k (by omega)
theorem layNow_m {n w h d : Nat} {order by' ex' : Nat → Int32} {has : Nat → Int64} (hw : w ≤ 99) (hh : 1 ≤ h ∧ h ≤ 9) :
    ∃ b e z, fX4_layNow (nI n) (nI w) (nI h) (nI d) order by' ex' has = some (nI n, nI (FL w h d), b, e, z) ∧ (∀ k, k < 6 → b k = order k ∧ e k = 0) ∧ ∀ k, k < 4 → z k = lN 0 := by
  unfold fX4_layNow
  exact layNow_l hw hh 6 0 FU by' ex' (by omega) (Nat.le_trans (by omega) FU_ge) (fun k h => absurd h (Nat.not_lt_zero k))
/-- what BR gives of a bench, with nothing added to the speeches -/
def VB (n : Nat) (fi se wo wi ro : Nat → Nat) : Prop := n ≤ 6 ∧ (∀ k, k < n → 1 ≤ fi k ∧ fi k ≤ 999 ∧ 1 ≤ se k ∧ se k ≤ 999 ∧ wo k ≤ 999 ∧ wi k ≤ 1) ∧ (∀ k, k < n → ro k < n)
def EN (n : Nat) (fi se wo wi ro : Nat → Nat) (cfi cse cwo cwi cro : Nat → Int32) : Prop := ∀ k, k < n → cfi k = nI (fi k) ∧ cse k = nI (se k) ∧ cwo k = nI (wo k) ∧ cwi k = nI (wi k) ∧ cro k = nI (ro k)
theorem BD_of {n : Nat} {fi se wo wi ro ex : Nat → Nat} {cfi cse cwo cwi cro : Nat → Int32} (hV : VB n fi se wo wi ro) (hE : EN n fi se wo wi ro cfi cse cwo cwi cro) (hx : ∀ q, q < n → ex q ≤ 999) : BD n ro fi se wo wi ex cro cfi cse cwo cwi := by
  obtain ⟨hn, hv, hr⟩ := hV
  refine ⟨hn, fun i hi => ?_⟩
  have h1 := hr i hi
  obtain ⟨e1, e2, e3, e4, -⟩ := hE (ro i) h1
  obtain ⟨v1, v2, v3, v4, v5, v6⟩ := hv (ro i) h1
  exact ⟨by omega, (hE i hi).2.2.2.2, e1, e2, e3, e4, v6, v2, v4, hx (ro i) h1, v5⟩
theorem drawn0 (q : Nat) (hq : q < 6) : (if ((((0 : Int32) >>> (nI q &&& 31)) &&& 1) : Int32) = 0 then (0 : Int32) else 0) = nI ((fun _ => 0) q) := by
  rw [ite_self]; rfl
abbrev KN (n w h d : Nat) (fi se ro : Nat → Nat) : Nat := PLn (DUR fi se (fun _ => 0) ro) (FL w h d) n 0 0
theorem sit_c {n l w h d : Nat} {fi se wo wi ro : Nat → Nat} {cfi cse cwo cwi cro : Nat → Int32} (hV : VB n fi se wo wi ro) (hE : EN n fi se wo wi ro cfi cse cwo cwi cro) (hl : l ≤ 1) (hw : w ≤ 99) (hh : 1 ≤ h ∧ h ≤ 9) (hd : d ≤ 999) :
    fX3_sitToday (nI w) (nI h) (nI d) (nI n) (nI l) cro cfi cse cwo cwi = some (nI (KN n w h d fi se ro), SKn ro (KN n w h d fi se ro) n 0, nI (HV l wo wi ro (KN n w h d fi se ro) n 0 0), nI (HV l wo wi ro (KN n w h d fi se ro) n 0 1), nI (HV l wo wi ro (KN n w h d fi se ro) n 0 2), nI (HV l wo wi ro (KN n w h d fi se ro) n 0 3)) := by
  unfold fX3_sitToday fX2_plead
  rw [floats_c hw hh, bnd1_s]
  have hp := plead_c (BD_of (ex := fun _ => 0) hV hE (fun _ _ => by show 0 ≤ 999; omega)) (FL_le (h := h) hw hd) hl (x5 := 0) (x6 := 0) drawn0 n 0 0 0 0 0 0 FU (by omega) (Nat.le_trans (by have := hV.1; omega) FU_ge) (by omega)
  have hp : fX2_plead_l37 (nI (FL w h d)) 0 0 (nI n) (nI l) cro cfi cse cwo cwi 6 FU 0 0 0 (-6) 0 0 0 0 = _ := hp
  rw [hp, bnd6_s]
  simp only [HV, Nat.zero_add]
  rfl
theorem goDay_m {n l w h d : Nat} {fi se wo wi ro : Nat → Nat} {mfi mse mwo mwi mro by' ex' : Nat → Int32} {has : Nat → Int64} (hV : VB n fi se wo wi ro) (hE : EN n fi se wo wi ro mfi mse mwo mwi mro) (hl : l ≤ 1) (hw : w ≤ 99) (hh : 1 ≤ h ∧ h ≤ 9) (hd : d ≤ 999) :
    ∃ b e z, fX4_goDay (nI n) (nI w) (nI h) (nI d) (nI l) mro by' ex' has mfi mse mwi mwo = some (nI n, nI (FL w h d), nI (KN n w h d fi se ro), SKn ro (KN n w h d fi se ro) n 0, b, e, z) ∧ ∀ k, k < 4 → z k = lN (HV l wo wi ro (KN n w h d fi se ro) n 0 k) := by
  unfold fX4_goDay fX4_plead
  obtain ⟨b, e, z, h1, h2, h3⟩ := layNow_m (n := n) (d := d) (order := mro) (by' := by') (ex' := ex') (has := has) hw hh
  have hn := hV.1
  have hE2 : EN n fi se wo wi ro mfi mse mwo mwi b := fun k hk => by
    obtain ⟨a1, a2, a3, a4, a5⟩ := hE k hk
    exact ⟨a1, a2, a3, a4, by rw [(h2 k (by omega)).1]; exact a5⟩
  obtain ⟨z', e1, e2⟩ := plead_m (l := l) (mex := e) ⟨BD_of (ex := fun _ => 0) hV hE2 (fun _ _ => by show 0 ≤ 999; omega), fun i hi => (h2 (ro i) (by have := hV.2.2 i hi; omega)).2⟩ (FL_le (h := h) hw hd) hl n 0 0 FU z (fun _ => 0) (by omega) (Nat.le_trans (by omega) FU_ge) (by omega) h3
  refine ⟨b, e, z', ?_, fun k hk => ?_⟩
  · rw [h1, bnd5_s]
    have e1 : fX4_plead_l13 (-6) (nI n) (nI (FL w h d)) (nI l) b mfi mse e mwi mwo FU 0 0 z = _ := e1
    rw [e1, bnd3_s, Nat.zero_add]
  · rw [e2 k hk, Nat.zero_add]
