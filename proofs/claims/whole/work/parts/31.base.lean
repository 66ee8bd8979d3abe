/-! numbers: everything is told in Nat through nI, or in Int through toInt -/
theorem fa_lit (n : Nat) : (OfNat.ofNat n : Int32) = nI n := rfl
theorem fa_litL (n : Nat) : (OfNat.ofNat n : Int64) = lN n := rfl
theorem b_lt (a b : Int32) : a < b ↔ a.toInt < b.toInt := Int32.lt_iff_toInt_lt
theorem b_le (a b : Int32) : a ≤ b ↔ a.toInt ≤ b.toInt := Int32.le_iff_toInt_le
theorem b_eq (a b : Int32) : a = b ↔ a.toInt = b.toInt := Int32.toInt_inj.symm
theorem b_nI {n : Nat} (h : n < 2147483648) : (nI n).toInt = (n : Int) := nI_toInt (by omega)
theorem b_rng (x : Int32) : -2147483648 ≤ x.toInt ∧ x.toInt < 2147483648 := by
  have h1 := Int32.le_toInt x
  have h2 := Int32.toInt_lt x
  omega
theorem b_bmod {z : Int} (h1 : -2147483648 ≤ z) (h2 : z < 2147483648) : z.bmod (2 ^ 32) = z := by
  rw [Int.bmod_eq_of_le (by omega) (by omega)]
theorem b_add {x y : Int32} (h1 : -2147483648 ≤ x.toInt + y.toInt) (h2 : x.toInt + y.toInt < 2147483648) : (x + y).toInt = x.toInt + y.toInt := by
  rw [Int32.toInt_add, b_bmod h1 h2]
theorem b_sub {x y : Int32} (h1 : -2147483648 ≤ x.toInt - y.toInt) (h2 : x.toInt - y.toInt < 2147483648) : (x - y).toInt = x.toInt - y.toInt := by
  rw [Int32.toInt_sub, b_bmod h1 h2]
theorem b_of {x : Int32} (h : 0 ≤ x.toInt) : ∃ j : Nat, j < 2147483648 ∧ x = nI j ∧ x.toInt = (j : Int) := by
  have h2 := b_rng x
  refine ⟨x.toInt.toNat, by omega, ?_, by omega⟩
  rw [b_eq, b_nI (by omega)]
  omega
theorem i01 {c : Prop} [Decidable c] : ((if c then (1 : Int32) else 0) = 0) ↔ ¬ c := by
  by_cases h : c
  · rw [if_pos h]; exact ⟨fun q => absurd q (by decide), fun q => absurd h q⟩
  · rw [if_neg h]; exact ⟨fun _ => h, fun _ => rfl⟩
theorem nar01 {c : Prop} [Decidable c] : narrow .boolean (.int (if c then (1 : Int32) else 0)) = .int (if c then (1 : Int32) else 0) := by
  by_cases h : c
  · rw [if_pos h]; decide
  · rw [if_neg h]; decide
theorem fit01 {c : Prop} [Decidable c] : fits .boolean (.int (if c then (1 : Int32) else 0)) = true := by
  by_cases h : c
  · rw [if_pos h]; decide
  · rw [if_neg h]; decide
theorem within_eq (x lo hi : Int32) : fX3_within x lo hi = some (if lo.toInt ≤ x.toInt ∧ x.toInt ≤ hi.toInt then 1 else 0) := by
  unfold fX3_within
  by_cases h1 : x < lo
  · rw [if_pos h1, if_neg]
    rw [b_lt] at h1; omega
  · rw [if_neg h1]
    by_cases h2 : hi < x
    · rw [if_pos h2, if_neg]
      rw [b_lt] at h2; omega
    · rw [if_neg h2, if_pos]
      rw [b_lt] at h1 h2; omega
theorem in_eq (x lo hi : Int64) : fX4_in x lo hi = some (if lo.toInt ≤ x.toInt ∧ x.toInt ≤ hi.toInt then 1 else 0) := by
  unfold fX4_in
  by_cases h1 : lg_cmp x lo < 0
  · rw [if_pos h1, if_neg]
    rw [lg_cmp_lt, Int64.lt_iff_toInt_lt] at h1; omega
  · rw [if_neg h1]
    by_cases h2 : 0 < lg_cmp x hi
    · rw [if_pos h2, if_neg]
      rw [lg_cmp_gt, Int64.lt_iff_toInt_lt] at h2; omega
    · rw [if_neg h2, if_pos]
      rw [lg_cmp_lt, Int64.lt_iff_toInt_lt] at h1
      rw [lg_cmp_gt, Int64.lt_iff_toInt_lt] at h2
      omega
/-- in of ints: bounds as Ints -/
theorem in_eq2 (x : Int32) {lo hi : Int64} {a b : Int} (ha : lo.toInt = a) (hb : hi.toInt = b) : fX4_in (Int32.toInt64 x) lo hi = some (if a ≤ x.toInt ∧ x.toInt ≤ b then 1 else 0) := by
  rw [in_eq, Int32.toInt_toInt64, ha, hb]
theorem within_eq2 (x : Int32) {lo hi : Int32} {a b : Int} (ha : lo.toInt = a) (hb : hi.toInt = b) : fX3_within x lo hi = some (if a ≤ x.toInt ∧ x.toInt ≤ b then 1 else 0) := by
  rw [within_eq, ha, hb]
theorem at_nI {j N : Nat} (h : j < N) (hN : N < 2 ^ 31) (f : Nat → Int32) : fX3_at (nI j) f N = some (f j) := by
  unfold fX3_at
  rw [if_neg (nI_pos (by omega)), if_neg (show ¬ Int32.ofNat N ≤ nI j from nI_ge h hN), if_pos (nI_in h hN), nI_clamp (by omega)]
theorem put_nI {j N : Nat} (h : j < N) (hN : N < 2 ^ 31) (v : Int32) (f : Nat → Int32) : fX3_put (nI j) v f N = some (upd f j v) := by
  unfold fX3_put
  rw [if_neg (nI_pos (by omega)), if_neg (show ¬ Int32.ofNat N ≤ nI j from nI_ge h hN), if_pos (nI_in h hN), nI_clamp (by omega)]
theorem b_m1 {n : Nat} (h : n ≤ 6) : (nI n - 1).toInt = (n : Int) - 1 := by
  rw [b_sub, b_nI (by omega)]
  · rfl
  · rw [b_nI (by omega)]; show _ ≤ (n : Int) - 1; omega
  · rw [b_nI (by omega)]; show (n : Int) - 1 < _; omega
theorem isSuit_c (x : Int32) {n : Nat} (h : n ≤ 6) : fX3_isSuit x (nI n) = some (if 0 ≤ x.toInt ∧ x.toInt ≤ (n : Int) - 1 then 1 else 0) := by
  unfold fX3_isSuit
  rw [within_eq2 x (a := 0) (b := (n : Int) - 1) rfl (b_m1 h), bnd1_eq rfl, if_pos nar01]
theorem isSuit_m (x : Int32) {n : Nat} (h : n ≤ 6) : fX4_isSuit x (nI n) = some (if 0 ≤ x.toInt ∧ x.toInt ≤ (n : Int) - 1 then 1 else 0) := by
  unfold fX4_isSuit
  rw [in_eq2 x (a := 0) (b := (n : Int) - 1) rfl (by rw [Int32.toInt_toInt64]; exact b_m1 h), bnd1_eq rfl, if_pos nar01]
theorem isSide_c (x : Int32) : fX3_isSide x = some (if 0 ≤ x.toInt ∧ x.toInt ≤ 3 then 1 else 0) := by
  unfold fX3_isSide
  rw [within_eq2 x (a := 0) (b := 3) rfl rfl, bnd1_eq rfl, if_pos nar01]
theorem isSide_m (x : Int32) : fX4_isSide x = some (if 0 ≤ x.toInt ∧ x.toInt ≤ 3 then 1 else 0) := by
  unfold fX4_isSide
  rw [in_eq2 x (a := 0) (b := 3) rfl rfl, bnd1_eq rfl, if_pos nar01]
theorem b_ne {x : Int32} {k : Int32} {z : Int} (hk : k.toInt = z) (h : x.toInt ≠ z) : ¬ x = k := fun q => h (by rw [q, hk])
theorem bnd1_s {α γ : Type} (a : α) (k : α → Option γ) : bnd1 (some a) k = k a := rfl
theorem bnd2_s {α β γ : Type} (a : α) (b : β) (k : α → β → Option γ) : bnd2 (some (a, b)) k = k a b := rfl
theorem bnd3_s {α β δ γ : Type} (a : α) (b : β) (d : δ) (k : α → β → δ → Option γ) : bnd3 (some (a, b, d)) k = k a b d := rfl
theorem bnd4_s {α β δ ε γ : Type} (a : α) (b : β) (d : δ) (e : ε) (k : α → β → δ → ε → Option γ) : bnd4 (some (a, b, d, e)) k = k a b d e := rfl
theorem zT {p : Prop} (h : p) : p = True := eq_true h
theorem zF {p : Prop} (h : ¬ p) : p = False := eq_false h
theorem if01_t {c : Prop} [Decidable c] {α : Type} {A B : α} (h : c) : (if (if c then (1 : Int32) else 0) = 0 then A else B) = B := if_neg (by rw [i01]; exact fun q => q h)
theorem if01_f {c : Prop} [Decidable c] {α : Type} {A B : α} (h : ¬ c) : (if (if c then (1 : Int32) else 0) = 0 then A else B) = A := if_pos (i01.mpr h)
