theorem setTop : ∀ n, n < 7 → ((1 <<< (nI n &&& 31) : Int32) - 1).toInt = ((2 ^ n : Nat) : Int) - 1 := by decide +kernel
theorem bitI : ∀ S, S < 64 → ∀ q, q < 6 → ((nI S >>> (nI q &&& 31)) &&& 1 : Int32) = nI (S / 2 ^ q % 2) := by decide +kernel
theorem isSet_c (x : Int32) {n : Nat} (h : n ≤ 6) : fX3_isSet x (nI n) = some (if 0 ≤ x.toInt ∧ x.toInt ≤ ((2 ^ n : Nat) : Int) - 1 then 1 else 0) := by
  unfold fX3_isSet
  rw [within_eq2 x (a := 0) (b := ((2 ^ n : Nat) : Int) - 1) rfl (setTop n (by omega)), bnd1_eq rfl, if_pos nar01]
theorem isSet_m (x : Int32) {n : Nat} (h : n ≤ 6) : fX4_isSet x (nI n) = some (if 0 ≤ x.toInt ∧ x.toInt ≤ ((2 ^ n : Nat) : Int) - 1 then 1 else 0) := by
  unfold fX4_isSet
  rw [in_eq2 x (a := 0) (b := ((2 ^ n : Nat) : Int) - 1) rfl (by rw [Int32.toInt_toInt64]; exact setTop n (by omega)), bnd1_eq rfl, if_pos nar01]
theorem two_le64 : ∀ n, n < 7 → 2 ^ n ≤ 64 := by decide
/-- the last end among a set of suits -/
def LEn (E : Nat → Nat) (S : Nat) : Nat → Nat → Nat → Nat
  | 0, _, b => b
  | r + 1, i, b => LEn E S r (i + 1) (if (if S / 2 ^ i % 2 = 0 then 0 else E i) ≤ b then b else (if S / 2 ^ i % 2 = 0 then 0 else E i))
theorem LEn_le {E : Nat → Nat} {S : Nat} : ∀ r i b, b ≤ 12000 → (∀ q, i ≤ q → q < i + r → E q ≤ 12000) → LEn E S r i b ≤ 12000
  | 0, _, _, h, _ => h
  | r + 1, i, b, h, hE => by
    unfold LEn
    have h1 := hE i (Nat.le_refl _) (by omega)
    refine LEn_le r (i + 1) _ ?_ (fun q a c => hE q (by omega) (by omega))
    split
    · exact h
    · split
      · omega
      · exact h1
theorem lastEnd_c {n S : Nat} {E : Nat → Nat} {row fi se : Nat → Int32} (hn : n ≤ 6) (hS : S < 64) (hE : ∀ q, q < n → fX0_end (nI q) (nI n) row fi se = some (nI (E q)) ∧ E q ≤ 12000) :
    ∀ r i b fuel, i + r = n → r + 1 ≤ fuel → b ≤ 12000 → fX3_lastEnd_l4 (nI S) (nI n) row fi se fuel (nI b) (nI i) = some (nI (LEn E S r i b))
  | 0, i, b, fuel, hi, hf, hb => by
    obtain ⟨f, rfl⟩ : ∃ f, fuel = f + 1 := ⟨fuel - 1, by omega⟩
    rw [fX3_lastEnd_l4, if_pos (nI_le (by omega) (by omega))]
    rfl
  | r + 1, i, b, fuel, hi, hf, hb => by
    obtain ⟨f, rfl⟩ : ∃ f, fuel = f + 1 := ⟨fuel - 1, by omega⟩
    obtain ⟨E1, E2⟩ := hE i (by omega)
    rw [fX3_lastEnd_l4, if_neg (nI_ge (by omega) (by omega)), bitI S hS i (by omega)]
    unfold fX3_lastEnd_j35
    by_cases h : S / 2 ^ i % 2 = 0
    · rw [h, if_pos (show (nI 0 : Int32) = 0 from rfl), if_pos (show (0 : Int32) ≤ nI b from nI_le (a := 0) (by omega) (by omega)), nI_1, lastEnd_c hn hS hE r (i + 1) b f (by omega) (by omega) hb]
      simp only [LEn, if_pos h, Nat.zero_le, if_true]
    · rw [if_neg (nI_ne0 (by omega) (by omega)), E1, bnd1_s, nI_1]
      by_cases hle : E i ≤ b
      · rw [if_pos (nI_le hle (by omega)), lastEnd_c hn hS hE r (i + 1) b f (by omega) (by omega) hb]
        simp only [LEn, if_neg h, if_pos hle]
      · rw [if_neg (nI_ge (by omega) (by omega)), lastEnd_c hn hS hE r (i + 1) (E i) f (by omega) (by omega) E2]
        simp only [LEn, if_neg h, if_neg hle]
theorem lastEnd_m {n S : Nat} {E : Nat → Nat} {row fi se : Nat → Int32} (hn : n ≤ 6) (hS : S < 64) (hE : ∀ q, q < n → fX4_endOf (nI q) row fi se = some (nI (E q)) ∧ E q ≤ 12000) :
    ∀ r i b fuel, i + r = n → r + 1 ≤ fuel → b ≤ 12000 → fX4_lastEnd_l4 (nI S) (nI n) row fi se fuel (nI b) (nI i) = some (nI (LEn E S r i b))
  | 0, i, b, fuel, hi, hf, hb => by
    obtain ⟨f, rfl⟩ : ∃ f, fuel = f + 1 := ⟨fuel - 1, by omega⟩
    rw [fX4_lastEnd_l4, if_pos (nI_le (by omega) (by omega))]
    rfl
  | r + 1, i, b, fuel, hi, hf, hb => by
    obtain ⟨f, rfl⟩ : ∃ f, fuel = f + 1 := ⟨fuel - 1, by omega⟩
    obtain ⟨E1, E2⟩ := hE i (by omega)
    rw [fX4_lastEnd_l4, if_neg (nI_ge (by omega) (by omega)), bitI S hS i (by omega)]
    unfold fX4_lastEnd_j30
    by_cases h : S / 2 ^ i % 2 = 0
    · rw [h, if_neg (show ¬ (nI 0 : Int32) = 1 by decide), if_pos (show (0 : Int32) ≤ nI b from nI_le (a := 0) (by omega) (by omega)), nI_1, lastEnd_m hn hS hE r (i + 1) b f (by omega) (by omega) hb]
      simp only [LEn, if_pos h, Nat.zero_le, if_true]
    · rw [show S / 2 ^ i % 2 = 1 by omega, if_pos (show (nI 1 : Int32) = 1 from rfl), E1, bnd1_s, nI_1]
      by_cases hle : E i ≤ b
      · rw [if_pos (nI_le hle (by omega)), lastEnd_m hn hS hE r (i + 1) b f (by omega) (by omega) hb]
        simp only [LEn, if_neg h, if_pos hle]
      · rw [if_neg (nI_ge (by omega) (by omega)), lastEnd_m hn hS hE r (i + 1) (E i) f (by omega) (by omega) E2]
        simp only [LEn, if_neg h, if_neg hle]
theorem wax_l {h d L : Nat} (hh : 1 ≤ h ∧ h ≤ 9) (hd : d ≤ 999) (hL : L ≤ 12000) : ∀ (r i fuel : Nat), i + r = 100 → r + 1 ≤ fuel → ∃ v, fX3_wax_l19 (nI h) (nI d) (nI L) fuel (nI i) = some v ∧ fX4_wax_l19 (nI h) (nI d) (nI L) fuel (nI i) = some v
  | 0, i, fuel, hi, hf => by
    obtain ⟨f, rfl⟩ : ∃ f, fuel = f + 1 := ⟨fuel - 1, by omega⟩
    refine ⟨-6, ?_, ?_⟩
    · rw [fX3_wax_l19, if_pos (show (99 : Int32) < nI i from nI_lt (a := 99) (by omega) (by omega))]
    · rw [fX4_wax_l19, if_pos (show (100 : Int32) ≤ nI i from nI_le (a := 100) (by omega) (by omega))]
  | r + 1, i, fuel, hi, hf => by
    obtain ⟨f, rfl⟩ : ∃ f, fuel = f + 1 := ⟨fuel - 1, by omega⟩
    have hF := FL_le (w := i) (h := h) (d := d) (by omega) hd
    rw [fX3_wax_l19, fX4_wax_l19, if_neg (show ¬ (99 : Int32) < nI i from nI_nlt (a := 99) (by omega) (by omega)), if_neg (show ¬ (100 : Int32) ≤ nI i from nI_ge (b := 100) (by omega) (by omega)), floatsBy_c (by omega) hh, floatsBy_m (by omega) hh, bnd1_s, bnd1_s, nI_1]
    by_cases hlt : FL i h d < L
    · rw [if_pos (nI_lt hlt (by omega)), if_pos (nI_lt hlt (by omega))]
      exact wax_l hh hd hL r (i + 1) f (by omega) (by omega)
    · rw [if_neg (nI_nlt (by omega) (by omega)), if_neg (nI_nlt (by omega) (by omega))]
      exact ⟨_, rfl, rfl⟩
theorem P_wax {c : Nat → Int32} {ca : Nat → Nat → Int32} {m : Nat → Int32} {ma : Nat → Nat → Int32} {mh : Nat → Int64} (x1 : Int32) (hR : Rel c ca m ma) : ∃ (r : Int32), fX3_wax x1 (c 5) (c 2) (c 3) (ca 5) (ca 1) (ca 2) = some r ∧ fX4_wax x1 (m 4) (m 1) (m 2) (ma 4) (ma 0) (ma 1) = some r ∧ Rel c ca m ma := by
  obtain ⟨hp, hb, hrest⟩ := id hR
  obtain ⟨w, h, d, l, n, s, fi, se, wo, wi, ro, sw, sm, ⟨b1, b2, b3, b4, b5, b6, b7, b8⟩, ⟨e1, e2, e3, e4, e5, e6⟩, ⟨m1, m2, m3, m4, m5, m6⟩, hv, hr, hri, hc, hm, hs⟩ := hb
  obtain ⟨E, hE⟩ := ends ⟨b7, hv, hr⟩ hc hm hri
  unfold fX3_wax fX4_wax
  rw [e2, e3, e5, m2, m3, m5, isSet_c x1 b7, isSet_m x1 b7, bnd1_s, bnd1_s]
  by_cases hin : 0 ≤ x1.toInt ∧ x1.toInt ≤ ((2 ^ n : Nat) : Int) - 1
  · simp only [if01_t hin]
    obtain ⟨S, -, hq, hq2⟩ := b_of hin.1
    have h64 := two_le64 n (by omega)
    have hS : S < 64 := by omega
    unfold fX3_lastEnd fX4_lastEnd
    have g1 := lastEnd_c b7 hS (fun q hq => ⟨(hE q hq).1, (hE q hq).2.2⟩) n 0 0 FU (by omega) (Nat.le_trans (by omega) FU_ge) (by omega)
    have g2 := lastEnd_m b7 hS (fun q hq => ⟨(hE q hq).2.1, (hE q hq).2.2⟩) n 0 0 FU (by omega) (Nat.le_trans (by omega) FU_ge) (by omega)
    have hL := LEn_le (E := E) (S := S) n 0 0 (by omega) (fun q _ hq => (hE q (by omega)).2.2)
    obtain ⟨v, v1, v2⟩ := wax_l ⟨b3, b4⟩ b5 hL 99 1 FU (by omega) (Nat.le_trans (by omega) FU_ge)
    rw [hq]
    refine ⟨v, ?_, ?_, hR⟩
    · rw [show (0 : Int32) = nI 0 from rfl, g1, bnd1_s]; exact v1
    · rw [show (0 : Int32) = nI 0 from rfl, g2, bnd1_s]; exact v2
  · exact ⟨-2, by simp only [if01_f hin], by simp only [if01_f hin], hR⟩
theorem P_finger {c : Nat → Int32} {ca : Nat → Nat → Int32} {m : Nat → Int32} {ma : Nat → Nat → Int32} {mh : Nat → Int64} (x1 : Int32) (hR : Rel c ca m ma) : ∃ (r : Int32), fX3_finger x1 (c 5) (c 1) (c 2) (ca 5) (ca 1) (ca 2) = some r ∧ fX4_finger x1 (m 4) (m 0) (m 1) (ma 4) (ma 0) (ma 1) = some r ∧ Rel c ca m ma := by
  obtain ⟨hp, hb, hrest⟩ := id hR
  obtain ⟨w, h, d, l, n, s, fi, se, wo, wi, ro, sw, sm, ⟨b1, b2, b3, b4, b5, b6, b7, b8⟩, ⟨e1, e2, e3, e4, e5, e6⟩, ⟨m1, m2, m3, m4, m5, m6⟩, hv, hr, hri, hc, hm, hs⟩ := hb
  obtain ⟨E, hE⟩ := ends ⟨b7, hv, hr⟩ hc hm hri
  unfold fX3_finger fX4_finger
  rw [e1, e2, e5, m1, m2, m5, isSet_c x1 b7, isSet_m x1 b7, bnd1_s, bnd1_s]
  by_cases hin : 0 ≤ x1.toInt ∧ x1.toInt ≤ ((2 ^ n : Nat) : Int) - 1
  · simp only [if01_t hin]
    obtain ⟨S, -, hq, hq2⟩ := b_of hin.1
    have h64 := two_le64 n (by omega)
    have hS : S < 64 := by omega
    unfold fX3_lastEnd fX4_lastEnd
    have g1 := lastEnd_c b7 hS (fun q hq => ⟨(hE q hq).1, (hE q hq).2.2⟩) n 0 0 FU (by omega) (Nat.le_trans (by omega) FU_ge) (by omega)
    have g2 := lastEnd_m b7 hS (fun q hq => ⟨(hE q hq).2.1, (hE q hq).2.2⟩) n 0 0 FU (by omega) (Nat.le_trans (by omega) FU_ge) (by omega)
    have g1 : fX3_lastEnd_l4 (nI S) (nI n) (ca 5) (ca 1) (ca 2) FU 0 0 = _ := g1
    have g2 : fX4_lastEnd_l4 (nI S) (nI n) (ma 4) (ma 0) (ma 1) FU 0 0 = _ := g2
    have hL := LEn_le (E := E) (S := S) n 0 0 (by omega) (fun q _ hq => (hE q (by omega)).2.2)
    obtain ⟨L, hLe⟩ : ∃ L, L = LEn E S n 0 0 := ⟨_, rfl⟩
    rw [← hLe] at g1 g2 hL
    have hB : (60 * nI w : Int32) / nI h = nI (60 * w / h) := by rw [show (60 : Int32) = nI 60 from rfl, pk_mul, pk_div (by omega) (by omega) (by omega)]
    have hBl := FL_le (w := w) (h := h) (d := 0) b2 (by omega)
    have hBl : 60 * w / h + 0 < 10000 := hBl
    rw [hq, g1, g2, burns_c b2 ⟨b3, b4⟩]
    simp only [bnd1_s, hB]
    rw [if_pos (nI_ne0 (by omega) (by omega))]
    have hz := b_subN (a := L) (b := 60 * w / h) (by omega) (by omega)
    have c1 : (0 : Int32) < nI L - nI (60 * w / h) ↔ (0 : Int) < (L : Int) - (60 * w / h : Nat) := by rw [b_lt, hz]; exact Iff.rfl
    have c2 : nI L - nI (60 * w / h) ≤ (0 : Int32) ↔ (L : Int) - (60 * w / h : Nat) ≤ 0 := by rw [b_le, hz]; exact Iff.rfl
    have c3 : nI L - nI (60 * w / h) ≤ (999 : Int32) ↔ (L : Int) - (60 * w / h : Nat) ≤ 999 := by rw [b_le, hz]; exact Iff.rfl
    simp only [c1, c2, c3]
    by_cases q1 : (0 : Int) < (L : Int) - (60 * w / h : Nat)
    · rw [if_pos q1, if_neg (show ¬ (L : Int) - (60 * w / h : Nat) ≤ 0 by omega)]
      by_cases q2 : (L : Int) - (60 * w / h : Nat) ≤ 999
      · rw [if_pos q2]
        exact ⟨_, rfl, rfl, hR⟩
      · rw [if_neg q2]
        exact ⟨_, rfl, rfl, hR⟩
    · rw [if_neg q1, if_pos (show (L : Int) - (60 * w / h : Nat) ≤ 999 by omega), if_pos (show (L : Int) - (60 * w / h : Nat) ≤ 0 by omega)]
      exact ⟨_, rfl, rfl, hR⟩
  · exact ⟨-2, by simp only [if01_f hin], by simp only [if01_f hin], hR⟩
