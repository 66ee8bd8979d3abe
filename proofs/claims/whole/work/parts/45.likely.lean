abbrev EXS (S x : Nat) (q : Nat) : Nat := if S / 2 ^ q % 2 = 0 then 0 else x
abbrev KS (fi se ro : Nat → Nat) (n F S x : Nat) : Nat := PLn (DUR fi se (EXS S x) ro) F n 0 0
theorem sh1 : ∀ n, n < 7 → (1 <<< (nI n &&& 31) : Int32) = nI (2 ^ n) := by decide +kernel
theorem EXS_le {S x q : Nat} (hx : x ≤ 999) : EXS S x q ≤ 999 := by
  show (if S / 2 ^ q % 2 = 0 then 0 else x) ≤ 999
  split
  · omega
  · exact hx
theorem sitS_c {n l w h d S x : Nat} {fi se wo wi ro : Nat → Nat} {cfi cse cwo cwi cro : Nat → Int32} (hV : VB n fi se wo wi ro) (hE : EN n fi se wo wi ro cfi cse cwo cwi cro) (hl : l ≤ 1) (hw : w ≤ 99) (hh : 1 ≤ h ∧ h ≤ 9) (hd : d ≤ 999) (hS : S < 64) (hx : x ≤ 999) :
    fX3_sitDrawn (nI S) (nI x) (nI w) (nI h) (nI d) (nI n) (nI l) cro cfi cse cwo cwi = some (nI (KS fi se ro n (FL w h d) S x), SKn ro (KS fi se ro n (FL w h d) S x) n 0, nI (HV l wo wi ro (KS fi se ro n (FL w h d) S x) n 0 0), nI (HV l wo wi ro (KS fi se ro n (FL w h d) S x) n 0 1), nI (HV l wo wi ro (KS fi se ro n (FL w h d) S x) n 0 2), nI (HV l wo wi ro (KS fi se ro n (FL w h d) S x) n 0 3)) := by
  unfold fX3_sitDrawn fX2_plead
  rw [floats_c hw hh, bnd1_s]
  have hp := plead_c (BD_of (ex := EXS S x) hV hE (fun _ _ => EXS_le hx)) (FL_le (h := h) hw hd) hl (x5 := nI S) (x6 := nI x) (fun q hq => by
    rw [bitI S hS q hq]
    show _ = nI (if S / 2 ^ q % 2 = 0 then 0 else x)
    by_cases hb : S / 2 ^ q % 2 = 0
    · rw [if_pos hb, hb]; rfl
    · rw [if_neg hb, if_neg (nI_ne0 (by omega) (by omega))]) n 0 0 0 0 0 0 FU (by omega) (Nat.le_trans (by have := hV.1; omega) FU_ge) (by omega)
  have hp : fX2_plead_l37 (nI (FL w h d)) (nI S) (nI x) (nI n) (nI l) cro cfi cse cwo cwi 6 FU 0 0 0 (-6) 0 0 0 0 = _ := hp
  rw [hp, bnd6_s]
  simp only [HV, Nat.zero_add]
  rfl
/-- the ways of a set, the r suits from the i-th on -/
def WYn (S c : Nat) : Nat → Nat → Nat
  | 0, _ => 1
  | r + 1, i => (if S / 2 ^ i % 2 = 0 then 10 - c else c) * WYn S c r (i + 1)
theorem WYn_le {S c : Nat} (hc : c ≤ 10) : ∀ r i, WYn S c r i ≤ 10 ^ r
  | 0, _ => Nat.le_refl _
  | r + 1, i => by
    have h := WYn_le (S := S) hc r (i + 1)
    rw [WYn, Nat.pow_succ, Nat.mul_comm (10 ^ r) 10]
    exact Nat.mul_le_mul (by split <;> omega) h
theorem layLonger_l {n S x c : Nat} {wt flo : Int32} {b : Nat → Int32} {has : Nat → Int64} (hn : n ≤ 6) (hS : S < 64) (hc : c ≤ 10) :
    ∀ (r i p fuel : Nat) (e : Nat → Int32), i + r = n → r + 1 ≤ fuel → (∀ q, q < i → e q = nI (EXS S x q)) → ∃ e', fX4_layLonger_l10 (nI S) (nI x) (nI c) (nI n) wt flo b has fuel (lN p) (nI i) e = some (lN (p * WYn S c r i), wt, flo, b, e', has) ∧ ∀ q, q < n → e' q = nI (EXS S x q)
  | 0, i, p, fuel, e, hi, hf, he => by
    obtain ⟨f, rfl⟩ : ∃ f, fuel = f + 1 := ⟨fuel - 1, by omega⟩
    exact ⟨e, by rw [fX4_layLonger_l10, if_pos (nI_le (by omega) (by omega)), WYn, Nat.mul_one], fun q hq => he q (by omega)⟩
  | r + 1, i, p, fuel, e, hi, hf, he => by
    obtain ⟨f, rfl⟩ : ∃ f, fuel = f + 1 := ⟨fuel - 1, by omega⟩
    rw [fX4_layLonger_l10, if_neg (nI_ge (by omega) (by omega)), bitI S hS i (by omega)]
    unfold fX4_layLonger_j34 fX4_layLonger_j52
    have hg := nI_inF (show i < 6 by omega) (show 6 < 2 ^ 31 by omega)
    by_cases hb : S / 2 ^ i % 2 = 0
    · rw [hb, if_neg (show ¬ (nI 0 : Int32) = 1 by decide), if_pos rfl, if_pos hg, if_pos rfl, nI_clamp (by omega), show (10 - nI c : Int32) = nI (10 - c) from pk_sub (a := 10) hc, nI_l (by omega), lN_mul, nI_1]
      obtain ⟨e', g1, g2⟩ := layLonger_l (x := x) (wt := wt) (flo := flo) (b := b) (has := has) hn hS hc r (i + 1) (p * (10 - c)) f (upd e i 0) (by omega) (by omega) (fun q hq => by
        unfold upd
        by_cases h : q = i
        · rw [if_pos h, h]; show (0 : Int32) = nI (if S / 2 ^ i % 2 = 0 then 0 else x); rw [if_pos hb]; rfl
        · rw [if_neg h]; exact he q (by omega))
      refine ⟨e', ?_, g2⟩
      rw [g1, WYn, if_pos hb, Nat.mul_assoc]
    · rw [show S / 2 ^ i % 2 = 1 by omega, if_pos (show (nI 1 : Int32) = 1 from rfl), if_neg (show ¬ (1 : Int32) = 0 by decide), if_pos hg, if_neg (show ¬ (1 : Int32) = 0 by decide), nI_clamp (by omega), nI_l (by omega), lN_mul, nI_1]
      obtain ⟨e', g1, g2⟩ := layLonger_l (x := x) (wt := wt) (flo := flo) (b := b) (has := has) hn hS hc r (i + 1) (p * c) f (upd e i (nI x)) (by omega) (by omega) (fun q hq => by
        unfold upd
        by_cases h : q = i
        · rw [if_pos h, h]; show nI x = nI (if S / 2 ^ i % 2 = 0 then 0 else x); rw [if_neg hb]
        · rw [if_neg h]; exact he q (by omega))
      refine ⟨e', ?_, g2⟩
      rw [g1, WYn, if_neg hb, Nat.mul_assoc]
theorem laySit_m {n l w h d S x c : Nat} {fi se wo wi ro : Nat → Nat} {mfi mse mwo mwi mro by' ex' : Nat → Int32} {has : Nat → Int64} (hV : VB n fi se wo wi ro) (hE : EN n fi se wo wi ro mfi mse mwo mwi mro) (hl : l ≤ 1) (hw : w ≤ 99) (hh : 1 ≤ h ∧ h ≤ 9) (hd : d ≤ 999) (hS : S < 64) (hx : x ≤ 999) (hc : c ≤ 10) :
    ∃ b e z z', fX4_layLonger (nI S) (nI x) (nI c) (nI n) (nI w) (nI h) (nI d) mro by' ex' has = some (lN (WYn S c n 0), nI n, nI (FL w h d), b, e, z) ∧ (∀ k, k < n → b k = nI (ro k)) ∧
      fX4_plead (nI n) (nI (FL w h d)) (nI l) b mfi mse e mwi z mwo = some (nI (KS fi se ro n (FL w h d) S x), SKn ro (KS fi se ro n (FL w h d) S x) n 0, z') ∧ ∀ k, k < 4 → z' k = lN (HV l wo wi ro (KS fi se ro n (FL w h d) S x) n 0 k) := by
  obtain ⟨b, e, z, h1, h2, h3⟩ := layNow_m (n := n) (d := d) (order := mro) (by' := by') (ex' := ex') (has := has) hw hh
  have hn := hV.1
  have hE2 : EN n fi se wo wi ro mfi mse mwo mwi b := fun k hk => by
    obtain ⟨a1, a2, a3, a4, a5⟩ := hE k hk
    exact ⟨a1, a2, a3, a4, by rw [(h2 k (by omega)).1]; exact a5⟩
  obtain ⟨e', g1, g2⟩ := layLonger_l (x := x) (wt := nI n) (flo := nI (FL w h d)) (b := b) (has := z) hn hS hc n 0 1 FU e (by omega) (Nat.le_trans (by omega) FU_ge) (fun q hq => absurd hq (Nat.not_lt_zero q))
  have hB : BM n ro fi se wo wi (EXS S x) b mfi mse mwo mwi e' := ⟨BD_of (ex := EXS S x) hV hE2 (fun _ _ => EXS_le hx), fun i hi => g2 (ro i) (hV.2.2 i hi)⟩
  obtain ⟨z', e1, e2⟩ := plead_m (l := l) hB (FL_le (h := h) hw hd) hl n 0 0 FU z (fun _ => 0) (by omega) (Nat.le_trans (by omega) FU_ge) (by omega) h3
  refine ⟨b, e', z, z', ?_, fun k hk => (hE2 k hk).2.2.2.2, ?_, fun k hk => ?_⟩
  · unfold fX4_layLonger
    rw [h1, bnd5_s]
    have g1 : fX4_layLonger_l10 (nI S) (nI x) (nI c) (nI n) (nI n) (nI (FL w h d)) b z FU 1 0 e = _ := g1
    rw [g1, Nat.one_mul]
  · unfold fX4_plead
    have e1 : fX4_plead_l13 (-6) (nI n) (nI (FL w h d)) (nI l) b mfi mse e' mwi mwo FU 0 0 z = _ := e1
    rw [e1, Nat.zero_add]
  · rw [e2 k hk, Nat.zero_add]
theorem power_l {a q : Nat} (ha : a < 2 ^ 31) (hq : q ≤ 6) : ∀ (r i p fuel : Nat), i + r = q → r + 1 ≤ fuel → fX3_power_l5 (nI a) (nI q) fuel (lN p) (nI i) = some (lN (p * a ^ r))
  | 0, i, p, fuel, hi, hf => by
    obtain ⟨f, rfl⟩ : ∃ f, fuel = f + 1 := ⟨fuel - 1, by omega⟩
    rw [fX3_power_l5, if_pos (nI_le (by omega) (by omega)), Nat.pow_zero, Nat.mul_one]
  | r + 1, i, p, fuel, hi, hf => by
    obtain ⟨f, rfl⟩ : ∃ f, fuel = f + 1 := ⟨fuel - 1, by omega⟩
    rw [fX3_power_l5, if_neg (nI_ge (by omega) (by omega)), nI_l ha, lN_mul, nI_1, power_l ha hq r (i + 1) (p * a) f (by omega) (by omega), Nat.pow_succ, Nat.mul_comm (a ^ r) a, Nat.mul_assoc]
theorem power_s {a q : Nat} (ha : a < 2 ^ 31) (hq : q ≤ 6) : fX3_power (nI a) (nI q) = some (lN (a ^ q)) := by
  unfold fX3_power
  have := power_l ha hq q 0 1 FU (by omega) (Nat.le_trans (by omega) FU_ge)
  rw [Nat.one_mul] at this
  exact this
theorem allWays_l {n : Nat} (hn : n ≤ 6) : ∀ (r i p fuel : Nat), i + r = n → r + 1 ≤ fuel → fX4_allWays_l4 (nI n) fuel (lN p) (nI i) = some (lN (p * 10 ^ r))
  | 0, i, p, fuel, hi, hf => by
    obtain ⟨f, rfl⟩ : ∃ f, fuel = f + 1 := ⟨fuel - 1, by omega⟩
    rw [fX4_allWays_l4, if_pos (nI_le (by omega) (by omega)), Nat.pow_zero, Nat.mul_one]
  | r + 1, i, p, fuel, hi, hf => by
    obtain ⟨f, rfl⟩ : ∃ f, fuel = f + 1 := ⟨fuel - 1, by omega⟩
    rw [fX4_allWays_l4, if_neg (nI_ge (by omega) (by omega)), show (10 : Int64) = lN 10 from rfl, lN_mul, nI_1, allWays_l hn r (i + 1) (p * 10) f (by omega) (by omega), Nat.pow_succ, Nat.mul_comm (10 ^ r) 10, Nat.mul_assoc]
theorem allWays_s {n : Nat} (hn : n ≤ 6) : fX4_allWays (nI n) = some (lN (10 ^ n)) := by
  unfold fX4_allWays
  have := allWays_l hn n 0 1 FU (by omega) (Nat.le_trans (by omega) FU_ge)
  rw [Nat.one_mul] at this
  exact this
abbrev BC (S r i : Nat) : Nat := SMn (fun k => S / 2 ^ k % 2) r i
theorem BC_le (S : Nat) : ∀ r i, BC S r i ≤ r := fun r i => by
  have := SMn_le (f := fun k => S / 2 ^ k % 2) (c := 1) r i (fun k _ _ => by show S / 2 ^ k % 2 ≤ 1; omega)
  show SMn _ r i ≤ r
  omega
theorem WY_pow (S c : Nat) : ∀ r i, c ^ BC S r i * (10 - c) ^ (r - BC S r i) = WYn S c r i
  | 0, _ => rfl
  | r + 1, i => by
    have h := WY_pow S c r (i + 1)
    have hb := BC_le S r (i + 1)
    rw [WYn, ← h]
    have e : BC S (r + 1) i = S / 2 ^ i % 2 + BC S r (i + 1) := rfl
    rw [e]
    by_cases hb0 : S / 2 ^ i % 2 = 0
    · rw [if_pos hb0, hb0, Nat.zero_add, show r + 1 - BC S r (i + 1) = (r - BC S r (i + 1)) + 1 by omega, Nat.pow_succ, ← Nat.mul_assoc, Nat.mul_comm]
    · rw [if_neg hb0, show S / 2 ^ i % 2 = 1 by omega, show 1 + BC S r (i + 1) = BC S r (i + 1) + 1 by omega, show r + 1 - (BC S r (i + 1) + 1) = r - BC S r (i + 1) by omega, Nat.pow_succ, Nat.mul_comm (c ^ BC S r (i + 1)) c, Nat.mul_assoc]
theorem bitCount_s : ∀ n, n < 7 → ∀ S, S < 2 ^ n → fJ6_bitCount_0f7a4 (nI S) = some (nI (BC S n 0)) := by
  unfold fJ6_bitCount_0f7a4
  decide +kernel
theorem ways_s {n S c : Nat} (hn : n ≤ 6) (hS : S < 2 ^ n) (hc : c ≤ 10) : fX3_waysOf (nI S) (nI c) (nI n) = some (lN (WYn S c n 0)) := by
  unfold fX3_waysOf
  have hb := BC_le S n 0
  rw [bitCount_s n (by omega) S hS, bnd1_s, power_s (by omega) (by omega), bnd1_s, show (10 - nI c : Int32) = nI (10 - c) from pk_sub (a := 10) hc, pk_sub hb, power_s (by omega) (by omega), bnd1_s, lN_mul, WY_pow]
