theorem orJ : ∀ M, M < 64 → ∀ t, t < 6 → (nI M ||| (1 <<< (nI t &&& 31)) : Int32) = nI (M ||| 2 ^ t) ∧ M ||| 2 ^ t < 64 := by decide +kernel
theorem chkN {n : Nat} (hn : n ≤ 6) : chk n (n ^ n) (idc n) 0 = true := by
  have h : n = 0 ∨ n = 1 ∨ n = 2 ∨ n = 3 ∨ n = 4 ∨ n = 5 ∨ n = 6 := by omega
  rcases h with rfl | rfl | rfl | rfl | rfl | rfl | rfl
  · exact chk0
  · exact chk1
  · exact chk2
  · exact chk3
  · exact chk4
  · exact chk5
  · exact chk6
theorem idc_lt : ∀ n, n < 7 → idc n < n ^ n ∧ n ^ n < 50000 ∧ okl (dgt n (idc n)) (fun i => i) n = true := by decide +kernel
theorem okl_s {f g : Nat → Nat} : ∀ r, okl f g r = true → ∀ i, i < r → f i = g i
  | 0, _, i, hi => absurd hi (Nat.not_lt_zero i)
  | r + 1, h, i, hi => by
    rw [okl, Bool.and_eq_true] at h
    by_cases hir : i = r
    · rw [hir]; exact Nat.eq_of_beq_eq_true h.1
    · exact okl_s r h.2 i (by omega)
def XR : Nat → Int32
  | 0 => -1
  | q + 1 => nI q
theorem XR_m {q : Nat} (h : q < 100) : (nI q + (-1) : Int32) = XR q := by
  cases q with
  | zero => decide
  | succ s =>
    show (nI (s + 1) + (-1) : Int32) = nI s
    have h1 : (-1 : Int32).toInt = -1 := by decide
    rw [b_eq, b_add, b_nI (by omega), b_nI (by omega), h1]
    · omega
    · rw [b_nI (by omega), h1]; omega
    · rw [b_nI (by omega), h1]; omega
def RW (n : Nat) (row : Nat → Nat) (rowI : Nat → Int32) : Prop := ∀ i, i < n → rowI i = nI (row i) ∧ row i < 6
theorem fUn_le (row : Nat → Nat) : ∀ r, fUn row r ≤ r
  | 0 => Nat.le_refl _
  | r + 1 => by
    rw [fUn]
    have := fUn_le row r
    split <;> omega
theorem fVn_le (row : Nat → Nat) (p : Nat) : ∀ r, fVn row p r ≤ r
  | 0 => Nat.le_refl _
  | r + 1 => by
    rw [fVn]
    have := fVn_le row p r
    split
    · omega
    · split <;> omega
theorem up_c {n : Nat} {row : Nat → Nat} {rowI : Nat → Int32} (hn : n ≤ 6) (hR : RW n row rowI) : ∀ (r fuel : Nat), r + 1 ≤ fuel → (r < n ∨ r = 0) → fX3_stepOrder_l4 (nI n) rowI 6 fuel (XR r) = fX3_stepOrder_j29 (nI n) rowI 6 (XR (fUn row r))
  | 0, fuel, hf, hr => by
    obtain ⟨f, rfl⟩ : ∃ f, fuel = f + 1 := ⟨fuel - 1, by omega⟩
    rw [fX3_stepOrder_l4, if_pos (show XR 0 < 0 by decide)]
    rfl
  | q + 1, fuel, hf, hr => by
    obtain ⟨f, rfl⟩ : ∃ f, fuel = f + 1 := ⟨fuel - 1, by omega⟩
    obtain ⟨h1, h2⟩ := hR q (by omega)
    obtain ⟨h3, h4⟩ := hR (q + 1) (by omega)
    have step : fX3_stepOrder_l4 (nI n) rowI 6 (f + 1) (nI q) = fX3_stepOrder_j29 (nI n) rowI 6 (XR (fUn row (q + 1))) := by
      rw [fX3_stepOrder_l4, if_neg (nI_pos (by omega)), at_nI (by omega) (by omega), bnd1_s, nI_1, at_nI (by omega) (by omega), bnd1_s, h1, h3, XR_m (by omega), fUn]
      by_cases h : row q < row (q + 1)
      · rw [if_pos (nI_lt h (by omega)), if_pos h]; rfl
      · rw [if_neg (nI_nlt (by omega) (by omega)), if_neg h]
        exact up_c hn hR q f (by omega) (by omega)
    exact step
theorem fv_c {n p : Nat} {row : Nat → Nat} {rowI : Nat → Int32} (hn : n ≤ 6) (hp : p < n) (hR : RW n row rowI) : ∀ (q fuel : Nat), q + 1 ≤ fuel → q < n → fX3_stepOrder_l39 (nI n) rowI 6 (nI p) fuel (nI q) = fX3_stepOrder_j63 (nI n) rowI 6 (nI p) (nI (fVn row p q))
  | 0, fuel, hf, hq => by
    obtain ⟨f, rfl⟩ : ∃ f, fuel = f + 1 := ⟨fuel - 1, by omega⟩
    rw [fX3_stepOrder_l39, if_pos (nI_le (by omega) (by omega))]
    rfl
  | q + 1, fuel, hf, hq => by
    obtain ⟨f, rfl⟩ : ∃ f, fuel = f + 1 := ⟨fuel - 1, by omega⟩
    obtain ⟨h1, h2⟩ := hR p (by omega)
    obtain ⟨h3, h4⟩ := hR (q + 1) (by omega)
    rw [fX3_stepOrder_l39, fVn]
    by_cases hle : q + 1 ≤ p
    · rw [if_pos (nI_le hle (by omega)), if_pos hle]
    · rw [if_neg (nI_ge (by omega) (by omega)), if_neg hle, at_nI (by omega) (by omega), bnd1_s, at_nI (by omega) (by omega), bnd1_s, h1, h3]
      by_cases h : row p < row (q + 1)
      · rw [if_pos (nI_lt h (by omega)), if_pos h]
      · rw [if_neg (nI_nlt (by omega) (by omega)), if_neg h, XR_m (by omega)]
        exact fv_c hn hp hR q f (by omega) (by omega)
theorem swap_c {n a b : Nat} {row : Nat → Nat} {rowI : Nat → Int32} (hn : n ≤ 6) (ha : a < n) (hb : b < n) (hR : RW n row rowI) : ∃ rowI', fX3_swap (nI a) (nI b) rowI 6 = some rowI' ∧ RW n (swpN row a b) rowI' := by
  unfold fX3_swap
  rw [at_nI (by omega) (by omega), bnd1_s, at_nI (by omega) (by omega), bnd1_s, put_nI (by omega) (by omega), bnd1_s, put_nI (by omega) (by omega), bnd1_s]
  refine ⟨_, rfl, fun i hi => ?_⟩
  obtain ⟨h1, h2⟩ := hR a ha
  obtain ⟨h3, h4⟩ := hR b hb
  obtain ⟨h5, h6⟩ := hR i hi
  unfold upd swpN
  by_cases hib : i = b
  · simp only [if_pos hib]; exact ⟨h1, h2⟩
  · simp only [if_neg hib]
    by_cases hia : i = a
    · simp only [if_pos hia]; exact ⟨h3, h4⟩
    · simp only [if_neg hia]; exact ⟨h5, h6⟩
theorem fr_c {n : Nat} (hn : n ≤ 6) : ∀ (f a b fuel : Nat) (row : Nat → Nat) (rowI : Nat → Int32), f + 1 ≤ fuel → b < n → b ≤ a + 2 * f → a ≤ 10 → RW n row rowI → ∃ rowI', fX3_stepOrder_l79 6 fuel (nI a) (nI b) rowI = some (1, rowI') ∧ RW n (fRn f row a b) rowI'
  | 0, a, b, fuel, row, rowI, hf, hb, hab, ha, hR => by
    obtain ⟨f', rfl⟩ : ∃ f, fuel = f + 1 := ⟨fuel - 1, by omega⟩
    exact ⟨rowI, by rw [fX3_stepOrder_l79, if_pos (nI_le (by omega) (by omega))], hR⟩
  | f + 1, a, b, fuel, row, rowI, hf, hb, hab, ha, hR => by
    obtain ⟨f', rfl⟩ : ∃ f, fuel = f + 1 := ⟨fuel - 1, by omega⟩
    rw [fX3_stepOrder_l79, fRn]
    by_cases hle : b ≤ a
    · rw [if_pos (nI_le hle (by omega)), if_pos hle]
      exact ⟨rowI, rfl, hR⟩
    · obtain ⟨rowI', g1, g2⟩ := swap_c (a := a) (b := b) hn (by omega) hb hR
      obtain ⟨b', rfl⟩ : ∃ b', b = b' + 1 := ⟨b - 1, by omega⟩
      rw [if_neg (nI_ge (by omega) (by omega)), if_neg hle, g1, bnd1_s, nI_1, XR_m (by omega)]
      exact fr_c hn f (a + 1) b' f' _ _ (by omega) (by omega) (by omega) (by omega) g2
theorem step_c {n : Nat} {row : Nat → Nat} {rowI : Nat → Int32} (hn : n ≤ 6) (hR : RW n row rowI) : ∃ fl rowI', fX3_stepOrder (nI n) rowI 6 = some (fl, rowI') ∧ (fUn row (n - 1) = 0 → fl = 0) ∧ (¬ fUn row (n - 1) = 0 → fl = 1 ∧ RW n (nxr n row) rowI') := by
  unfold fX3_stepOrder
  have hu : fX3_stepOrder_l4 (nI n) rowI 6 FU (nI n - 2) = fX3_stepOrder_j29 (nI n) rowI 6 (XR (fUn row (n - 1))) ∨ (n = 0 ∧ fX3_stepOrder_l4 (nI n) rowI 6 FU (nI n - 2) = some (0, rowI)) := by
    by_cases h0 : n = 0
    · right
      obtain ⟨f, hf⟩ : ∃ f, FU = f + 1 := ⟨FU - 1, by have := FU_ge; omega⟩
      refine ⟨h0, ?_⟩
      rw [h0, hf, fX3_stepOrder_l4, if_pos (by decide)]
      unfold fX3_stepOrder_j29
      rw [if_neg (by decide)]
    · left
      have hx : (nI n - 2 : Int32) = XR (n - 1) := by
        obtain ⟨m, rfl⟩ : ∃ m, n = m + 1 := ⟨n - 1, by omega⟩
        cases m with
        | zero => decide
        | succ q => exact pk_sub (a := q + 1 + 1) (b := 2) (by omega)
      rw [hx]
      exact up_c hn hR (n - 1) FU (Nat.le_trans (by omega) FU_ge) (by omega)
  rcases hu with hu | ⟨h0, hu⟩
  · rw [hu]
    have hle := fUn_le row (n - 1)
    unfold fX3_stepOrder_j29
    by_cases h : fUn row (n - 1) = 0
    · rw [h, if_neg (show ¬ (0 : Int32) ≤ XR 0 by decide)]
      exact ⟨0, rowI, rfl, fun _ => rfl, fun q => absurd rfl q⟩
    · obtain ⟨p, hp⟩ : ∃ p, fUn row (n - 1) = p + 1 := ⟨fUn row (n - 1) - 1, by omega⟩
      have hv := fVn_le row p (n - 1)
      rw [hp, if_pos (show (0 : Int32) ≤ XR (p + 1) from nI_le (a := 0) (by omega) (by omega)), show (nI n - 1 : Int32) = nI (n - 1) from pk_sub (b := 1) (by omega), show XR (p + 1) = nI p from rfl, fv_c hn (by omega) hR (n - 1) FU (Nat.le_trans (by omega) FU_ge) (by omega)]
      unfold fX3_stepOrder_j63
      obtain ⟨r1, g1, g2⟩ := swap_c (a := p) (b := fVn row p (n - 1)) hn (by omega) (by omega) hR
      rw [g1, bnd1_s, nI_1, show (nI n - 1 : Int32) = nI (n - 1) from pk_sub (b := 1) (by omega)]
      obtain ⟨r2, g3, g4⟩ := fr_c hn n (p + 1) (n - 1) FU _ _ (Nat.le_trans (by omega) FU_ge) (by omega) (by omega) (by omega) g2
      refine ⟨1, r2, g3, fun q => absurd q (by omega), fun _ => ⟨rfl, ?_⟩⟩
      unfold nxr
      rw [hp]
      exact g4
  · refine ⟨0, rowI, hu, fun _ => rfl, fun q => absurd (show fUn row (n - 1) = 0 by rw [h0]; rfl) q⟩
theorem layOrder_l {n : Nat} (hn : n ≤ 6) : ∀ (r c M fuel : Nat) (by' : Nat → Int32), r ≤ n → r + 1 ≤ fuel → c < 50000 → M < 64 → ∃ b, fX4_layOrder_l12 (nI n) fuel (nI c) (nI M) (XR r) by' = some ((if mkN n r c M = true then 1 else 0), b) ∧ (∀ i, i < r → b i = nI (c / n ^ (r - 1 - i) % n)) ∧ ∀ i, r ≤ i → b i = by' i
  | 0, c, M, fuel, by', hr, hf, hc, hM => by
    obtain ⟨f, rfl⟩ : ∃ f, fuel = f + 1 := ⟨fuel - 1, by omega⟩
    have h64 := two_le64 n (by omega)
    have hpos : 0 < 2 ^ n := Nat.two_pow_pos n
    refine ⟨by', ?_, fun i hi => absurd hi (Nat.not_lt_zero i), fun i _ => rfl⟩
    rw [fX4_layOrder_l12, if_pos (show XR 0 < 0 by decide), sh1 n (by omega), show (nI (2 ^ n) - 1 : Int32) = nI (2 ^ n - 1) from pk_sub (b := 1) (by omega), mkN]
    by_cases h : M = 2 ^ n - 1
    · rw [if_pos (by rw [h]), if_pos (by rw [h]; exact Nat.beq_refl _)]
    · rw [if_neg (fun e => h ((nI_eq (by omega) (by omega)).mp e)), if_neg (fun e => h (Nat.eq_of_beq_eq_true e))]
  | r + 1, c, M, fuel, by', hr, hf, hc, hM => by
    obtain ⟨f, rfl⟩ : ∃ f, fuel = f + 1 := ⟨fuel - 1, by omega⟩
    have hg := nI_inF (show r < 6 by omega) (show 6 < 2 ^ 31 by omega)
    have hn0 : ¬ (nI n : Int32) = 0 := nI_ne0 (by omega) (by omega)
    have hm := Nat.mod_lt c (show 0 < n by omega)
    have hd := Nat.div_le_self c n
    obtain ⟨o1, o2⟩ := orJ M hM (c % n) (by omega)
    obtain ⟨b, g1, g2, g3⟩ := layOrder_l hn r (c / n) (M ||| 2 ^ (c % n)) f (upd by' r (nI (c % n))) (by omega) (by omega) (by omega) o2
    refine ⟨b, ?_, fun i hi => ?_, fun i hi => ?_⟩
    · have step : fX4_layOrder_l12 (nI n) (f + 1) (nI c) (nI M) (nI r) by' = some ((if mkN n r (c / n) (M ||| 2 ^ (c % n)) = true then 1 else 0), b) := by
        rw [fX4_layOrder_l12, if_neg (nI_pos (by omega)), if_pos hn0, if_pos hg, if_pos hg, if_pos hn0, nI_clamp (by omega), pk_rem (by omega) (by omega) (by omega), pk_div (by omega) (by omega) (by omega), upd_eq, o1, XR_m (by omega), g1]
      exact step
    · by_cases hir : i = r
      · rw [hir, g3 r (Nat.le_refl r), upd_eq, show r + 1 - 1 - r = 0 by omega, Nat.pow_zero, Nat.div_one]
      · rw [g2 i (by omega), Nat.div_div_eq_div_mul, show n * n ^ (r - 1 - i) = n ^ (r + 1 - 1 - i) from by rw [show r + 1 - 1 - i = (r - 1 - i) + 1 by omega, Nat.pow_succ, Nat.mul_comm]]
    · rw [g3 i (by omega), upd_ne (by omega)]
theorem layOrder_m {n c : Nat} {by' : Nat → Int32} (hn : n ≤ 6) (hc : c < 50000) : ∃ b, fX4_layOrder (nI c) (nI n) by' = some ((if mkN n n c 0 = true then 1 else 0), b) ∧ ∀ i, i < n → b i = nI (dgt n c i) := by
  unfold fX4_layOrder
  have hx : (nI n - 1 : Int32) = XR n := by
    cases n with
    | zero => decide
    | succ q => exact pk_sub (a := q + 1) (b := 1) (by omega)
  rw [hx]
  obtain ⟨b, g1, g2, -⟩ := layOrder_l hn n c 0 FU by' (Nat.le_refl n) (Nat.le_trans (by omega) FU_ge) hc (by omega)
  exact ⟨b, g1, g2⟩
