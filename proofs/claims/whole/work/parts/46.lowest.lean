theorem mod_half {b r k : Nat} (hr : 0 < r) (hrb : r < b) (hb : b < 2 ^ (k + 1)) : b % r < 2 ^ k := by
  have h1 := Nat.mod_lt b hr
  have h2 : 2 ^ (k + 1) = 2 * 2 ^ k := by rw [Nat.pow_succ, Nat.mul_comm]
  by_cases h : r ≤ b / 2
  · omega
  · have h3 : b % r = (b - r) % r := Nat.mod_eq_sub_mod (by omega)
    have h4 : (b - r) % r = b - r := Nat.mod_eq_of_lt (by omega)
    omega
theorem lL0 : (0 : Int64) = lN 0 := rfl
theorem lgc0 : lg_cmp (lN 0) 0 = 0 := (lg_cmp_eq _ _).mpr rfl
theorem lNne0 {a : Nat} (h : 0 < a) (ha : a < 2 ^ 63) : ¬ lN a = 0 := fun q => by
  have := (pk_lEQ ha (show 0 < 2 ^ 63 by decide)).mp q
  omega
theorem gcd_step (a b : Nat) : Nat.gcd b (a % b) = Nat.gcd a b := by rw [Nat.gcd_comm b, ← Nat.gcd_rec, Nat.gcd_comm]
theorem euclid_c {A B : Int64} {x4 : Int32} : ∀ (k a b cnt fuel : Nat), b < 2 ^ k → cnt + 2 * k ≤ 90 → 2 * k + 1 ≤ fuel → a < 2 ^ 62 → b < 2 ^ 62 → fX3_lowest_l9 A B x4 fuel (lN a) (lN b) (nI cnt) = fX3_lowest_j44 A B x4 (lN (Nat.gcd a b))
  | 0, a, b, cnt, fuel, hb, hc, hf, ha, hb2 => by
    obtain ⟨f, rfl⟩ : ∃ f, fuel = f + 1 := ⟨fuel - 1, by omega⟩
    have hb0 : b = 0 := by omega
    rw [fX3_lowest_l9, if_neg (show ¬ (100 : Int32) ≤ nI cnt from nI_ge (b := 100) (by omega) (by omega)), hb0, if_pos lgc0, Nat.gcd_zero_right]
  | k + 1, a, b, cnt, fuel, hb, hc, hf, ha, hb2 => by
    obtain ⟨f, rfl⟩ : ∃ f, fuel = f + 2 := ⟨fuel - 2, by omega⟩
    rw [fX3_lowest_l9, if_neg (show ¬ (100 : Int32) ≤ nI cnt from nI_ge (b := 100) (by omega) (by omega))]
    by_cases hb0 : b = 0
    · rw [hb0, if_pos lgc0, Nat.gcd_zero_right]
    · have hne := lNne0 (show 0 < b by omega) (by omega)
      have hm := Nat.mod_lt a (show 0 < b by omega)
      rw [if_neg (fun q => hne ((lg_cmp_eq _ _).mp q)), if_pos hne, pk_lRem (by omega) (by omega) (by omega), nI_1]
      rw [fX3_lowest_l9, if_neg (show ¬ (100 : Int32) ≤ nI (cnt + 1) from nI_ge (b := 100) (by omega) (by omega))]
      by_cases hr0 : a % b = 0
      · rw [hr0, if_pos lgc0, ← gcd_step, hr0, Nat.gcd_zero_right]
      · have hne2 := lNne0 (show 0 < a % b by omega) (by omega)
        have hm2 := Nat.mod_lt b (show 0 < a % b by omega)
        rw [if_neg (fun q => hne2 ((lg_cmp_eq _ _).mp q)), if_pos hne2, pk_lRem (by omega) (by omega) (by omega), nI_1, euclid_c k (a % b) (b % (a % b)) (cnt + 1 + 1) f (mod_half (by omega) hm hb) (by omega) (by omega) (by omega) (by omega), gcd_step, gcd_step]
theorem euclid_m {A B : Int64} {x4 : Int32} : ∀ (k a b fuel : Nat), b < 2 ^ k → 2 * k + 1 ≤ fuel → 0 < Nat.gcd a b → a < 2 ^ 62 → b < 2 ^ 62 → fX4_lowest_l6 A B x4 fuel (lN a) (lN b) = some (if x4 = 0 then A / lN (Nat.gcd a b) else B / lN (Nat.gcd a b))
  | 0, a, b, fuel, hb, hf, hg, ha, hb2 => by
    obtain ⟨f, rfl⟩ : ∃ f, fuel = f + 1 := ⟨fuel - 1, by omega⟩
    have hb0 : b = 0 := by omega
    rw [hb0, Nat.gcd_zero_right] at hg ⊢
    have hne := lNne0 hg (show a < 2 ^ 63 by omega)
    rw [fX4_lowest_l6, if_pos lgc0, if_pos hne, if_pos hne]
    by_cases h : x4 = 0
    · rw [if_pos h, if_pos h]
    · rw [if_neg h, if_neg h]
  | k + 1, a, b, fuel, hb, hf, hg, ha, hb2 => by
    obtain ⟨f, rfl⟩ : ∃ f, fuel = f + 2 := ⟨fuel - 2, by omega⟩
    by_cases hb0 : b = 0
    · rw [hb0, Nat.gcd_zero_right] at hg ⊢
      have hne := lNne0 hg (show a < 2 ^ 63 by omega)
      rw [fX4_lowest_l6, if_pos lgc0, if_pos hne, if_pos hne]
      by_cases h : x4 = 0
      · rw [if_pos h, if_pos h]
      · rw [if_neg h, if_neg h]
    · have hne := lNne0 (show 0 < b by omega) (by omega)
      have hm := Nat.mod_lt a (show 0 < b by omega)
      rw [fX4_lowest_l6, if_neg (fun q => hne ((lg_cmp_eq _ _).mp q)), if_pos hne, pk_lRem (by omega) (by omega) (by omega)]
      by_cases hr0 : a % b = 0
      · rw [fX4_lowest_l6, hr0, if_pos lgc0, if_pos hne, if_pos hne, ← gcd_step, hr0, Nat.gcd_zero_right]
        by_cases h : x4 = 0
        · rw [if_pos h, if_pos h]
        · rw [if_neg h, if_neg h]
      · have hne2 := lNne0 (show 0 < a % b by omega) (by omega)
        have hm2 := Nat.mod_lt b (show 0 < a % b by omega)
        have hg2 : Nat.gcd (a % b) (b % (a % b)) = Nat.gcd a b := by rw [gcd_step, gcd_step]
        rw [fX4_lowest_l6, if_neg (fun q => hne2 ((lg_cmp_eq _ _).mp q)), if_pos hne2, pk_lRem (by omega) (by omega) (by omega), euclid_m k (a % b) (b % (a % b)) f (mod_half (by omega) hm hb) (by omega) (by rw [hg2]; exact hg) (by omega) (by omega), hg2]
theorem lowest_s {A B : Nat} (hA : A < 2 ^ 62) (hB : 0 < B) (hB2 : B < 2 ^ 20) (x4 : Int32) : ∃ v, fX3_lowest (lN A) (lN B) x4 = some v ∧ fX4_lowest (lN A) (lN B) x4 = some v := by
  have hg : 0 < Nat.gcd A B := Nat.gcd_pos_of_pos_right A hB
  have hgl : Nat.gcd A B ≤ B := Nat.gcd_le_right A hB
  have hne := lNne0 hg (show Nat.gcd A B < 2 ^ 63 by omega)
  refine ⟨if x4 = 0 then lN A / lN (Nat.gcd A B) else lN B / lN (Nat.gcd A B), ?_, ?_⟩
  · unfold fX3_lowest
    have := euclid_c (A := lN A) (B := lN B) (x4 := x4) 20 A B 0 FU hB2 (by omega) (Nat.le_trans (by omega) FU_ge) hA (by omega)
    have this : fX3_lowest_l9 (lN A) (lN B) x4 FU (lN A) (lN B) 0 = _ := this
    rw [this]
    unfold fX3_lowest_j44 fX3_lowest_j54
    have hle : ¬ lg_cmp (lN (Nat.gcd A B)) 0 ≤ 0 := fun q => by
      have := (pk_lLE (show Nat.gcd A B < 2 ^ 63 by omega) (show 0 < 2 ^ 63 by decide)).mp ((lg_cmp_le _ _).mp q)
      omega
    rw [if_neg hle, if_neg hle, if_pos hne, if_pos hne]
    by_cases h : x4 = 0
    · rw [if_pos h, if_pos h]
    · rw [if_neg h, if_neg h]
  · unfold fX4_lowest
    have hm := Nat.mod_lt B (show 0 < 2 ^ 62 by decide)
    rw [euclid_m (A := lN A) (B := lN B) (x4 := x4) 62 B A FU hA (Nat.le_trans (by omega) FU_ge) (by rw [Nat.gcd_comm]; exact hg) (by omega) hA, Nat.gcd_comm B A]
theorem chance_c (x y z : Int32) : fX3_isChance x y z = some (if (0 ≤ x.toInt ∧ x.toInt ≤ 999) ∧ (0 ≤ y.toInt ∧ y.toInt ≤ 10) ∧ (0 ≤ z.toInt ∧ z.toInt ≤ 1) then 1 else 0) := by
  unfold fX3_isChance
  rw [within_eq2 x (a := 0) (b := 999) rfl rfl, within_eq2 y (a := 0) (b := 10) rfl rfl, within_eq2 z (a := 0) (b := 1) rfl rfl, bnd1_s, bnd1_s, bnd1_s]
  by_cases h1 : 0 ≤ x.toInt ∧ x.toInt ≤ 999
  · by_cases h2 : 0 ≤ y.toInt ∧ y.toInt ≤ 10
    · by_cases h3 : 0 ≤ z.toInt ∧ z.toInt ≤ 1
      · rw [if01_t h1, if01_t h2, if01_t h3, if_pos ⟨h1, h2, h3⟩]
      · rw [if01_t h1, if01_t h2, if01_f h3, if_neg (fun q => h3 q.2.2)]
    · rw [if01_t h1, if01_f h2, if_neg (fun q => h2 q.2.1)]
  · rw [if01_f h1, if_neg (fun q => h1 q.1)]
theorem chance_m (x y z : Int32) : fX4_areOdds x y z = some (if (0 ≤ x.toInt ∧ x.toInt ≤ 999) ∧ (0 ≤ y.toInt ∧ y.toInt ≤ 10) ∧ (0 ≤ z.toInt ∧ z.toInt ≤ 1) then 1 else 0) := by
  unfold fX4_areOdds
  rw [in_eq2 x (a := 0) (b := 999) rfl rfl, in_eq2 y (a := 0) (b := 10) rfl rfl, in_eq2 z (a := 0) (b := 1) rfl rfl, bnd1_s, bnd1_s, bnd1_s]
  by_cases h1 : 0 ≤ x.toInt ∧ x.toInt ≤ 999
  · by_cases h2 : 0 ≤ y.toInt ∧ y.toInt ≤ 10
    · by_cases h3 : 0 ≤ z.toInt ∧ z.toInt ≤ 1
      · rw [if01_t h1, if01_t h2, if01_t h3, if_pos ⟨h1, h2, h3⟩]
      · rw [if01_t h1, if01_t h2, if01_f h3, if_neg (fun q => h3 q.2.2)]
    · rw [if01_t h1, if01_f h2, if_neg (fun q => h2 q.2.1)]
  · rw [if01_f h1, if_neg (fun q => h1 q.1)]
theorem B01_nar (b : Bool) : narrow .boolean (.int (B01 b)) = .int (B01 b) := by cases b <;> decide
theorem wasDecided_l {n q p K : Nat} {ro : Nat → Nat} {b : Nat → Int32} (hn : n ≤ 6) (hK : K ≤ n) (hro : ∀ i, i < n → ro i < n ∧ b i = nI (ro i)) (hp : p < n) (hq : ro p = q) (hinj : ∀ j k, j < n → k < n → ro j = ro k → j = k) :
    ∀ (r i fuel : Nat) (f : Bool), i + r = K → r + 1 ≤ fuel → fX4_wasDecided_l4 (nI q) (nI K) b fuel (B01 f) (nI i) = some (B01 (f || decide (i ≤ p ∧ p < K)))
  | 0, i, fuel, f, hi, hf => by
    obtain ⟨f', rfl⟩ : ∃ f, fuel = f + 1 := ⟨fuel - 1, by omega⟩
    rw [fX4_wasDecided_l4, if_pos (nI_le (by omega) (by omega)), if_pos (B01_nar f), decide_eq_false (show ¬ (i ≤ p ∧ p < K) by omega), Bool.or_false]
  | r + 1, i, fuel, f, hi, hf => by
    obtain ⟨f', rfl⟩ : ∃ f, fuel = f + 1 := ⟨fuel - 1, by omega⟩
    rw [fX4_wasDecided_l4, if_neg (nI_ge (by omega) (by omega)), nI_1]
    cases f
    · rw [if_pos (show B01 false = 0 from rfl), if_pos (nI_inF (show i < 6 by omega) (by omega)), nI_clamp (by omega), (hro i (by omega)).2]
      have h1 := (hro i (by omega)).1
      have h2 := (hro p hp).1
      by_cases h : i = p
      · rw [if_pos (by rw [h, hq])]
        have := wasDecided_l hn hK hro hp hq hinj r (i + 1) f' true (by omega) (by omega)
        have this : fX4_wasDecided_l4 (nI q) (nI K) b f' 1 (nI (i + 1)) = _ := this
        rw [this, decide_eq_true (show i ≤ p ∧ p < K by omega)]
        rfl
      · rw [if_neg (fun e => h (hinj i p (by omega) hp (by rw [hq]; exact (nI_eq (by omega) (by omega)).mp e)))]
        have := wasDecided_l hn hK hro hp hq hinj r (i + 1) f' false (by omega) (by omega)
        have this : fX4_wasDecided_l4 (nI q) (nI K) b f' 0 (nI (i + 1)) = _ := this
        rw [this]
        congr 3
        exact decide_eq_decide.mpr (by omega)
    · rw [if_neg (show ¬ B01 true = 0 by decide)]
      have := wasDecided_l hn hK hro hp hq hinj r (i + 1) f' true (by omega) (by omega)
      have this : fX4_wasDecided_l4 (nI q) (nI K) b f' 1 (nI (i + 1)) = _ := this
      rw [this]
      rfl
