theorem bnd9_s {A B C D E F G H I γ : Type} (a : A) (b : B) (c : C) (d : D) (e : E) (f : F) (g : G) (h : H) (i : I) (K' : A → B → C → D → E → F → G → H → I → Option γ) : bnd9 (some (a, b, c, d, e, f, g, h, i)) K' = K' a b c d e f g h i := rfl
theorem upd_eq (f : Nat → Int32) (s : Nat) (v : Int32) : upd f s v s = v := by unfold upd; rw [if_pos rfl]
theorem upd_ne {f : Nat → Int32} {s k : Nat} {v : Int32} (h : k ≠ s) : upd f s v k = f k := by unfold upd; rw [if_neg h]
def GD (F S W V pl de mw mv : Nat → Int32) (k : Nat) : Prop := ∃ a b c e : Nat, (1 ≤ a ∧ a ≤ 999 ∧ 1 ≤ b ∧ b ≤ 999 ∧ c ≤ 999 ∧ e ≤ 1) ∧ (F k = nI a ∧ S k = nI b ∧ W k = nI c ∧ V k = nI e) ∧ (pl k = nI a ∧ de k = nI b ∧ mw k = nI c ∧ mv k = nI e)
theorem GD_of {F S W V pl de mw mv F' S' W' V' pl' de' mw' mv' : Nat → Int32} {k : Nat} (h : GD F S W V pl de mw mv k) (e : F' k = F k ∧ S' k = S k ∧ W' k = W k ∧ V' k = V k ∧ pl' k = pl k ∧ de' k = de k ∧ mw' k = mw k ∧ mv' k = mv k) : GD F' S' W' V' pl' de' mw' mv' k := by
  obtain ⟨a, b, c, d, h1, ⟨h2, h3, h4, h5⟩, ⟨h6, h7, h8, h9⟩⟩ := h
  obtain ⟨e1, e2, e3, e4, e5, e6, e7, e8⟩ := e
  exact ⟨a, b, c, d, h1, ⟨e1.trans h2, e2.trans h3, e3.trans h4, e4.trans h5⟩, ⟨e5.trans h6, e6.trans h7, e7.trans h8, e8.trans h9⟩⟩
def RN (ph dg vl sr pt md nz x2 : Nat) : Prop := ph ≤ 3 ∧ dg ≤ 3 ∧ (dg = 0 → vl = 0) ∧ (dg = 1 → vl ≤ 9) ∧ (dg = 2 → vl ≤ 99) ∧ vl ≤ 999 ∧ sr ≤ 6 ∧ (ph ≠ 3 → sr ≤ 5) ∧ (ph < 2 → 0 < dg → 1 ≤ vl) ∧
  ((ph ≠ 3 ∧ pt = ph) ∨ (ph = 3 ∧ pt = 4)) ∧ ((ph ≠ 3 ∧ md = dg) ∨ (ph = 3 ∧ md = 0)) ∧ ((nz = 1 ∧ ph ≠ 3 ∧ 0 < dg ∧ vl = 0) ∨ (nz = 0 ∧ ¬ (ph ≠ 3 ∧ 0 < dg ∧ vl = 0))) ∧ ((ph ≠ 3 ∧ x2 = vl) ∨ (ph = 3 ∧ x2 = 0))
def RA (ph sr : Nat) (F S W V pl de mw mv : Nat → Int32) : Prop := (∀ k, k < sr → GD F S W V pl de mw mv k) ∧ (ph = 1 ∨ ph = 2 → ∃ a : Nat, 1 ≤ a ∧ a ≤ 999 ∧ F sr = nI a ∧ pl sr = nI a) ∧ (ph = 2 → ∃ b : Nat, 1 ≤ b ∧ b ≤ 999 ∧ S sr = nI b ∧ de sr = nI b)

theorem read_D {k r i fuel : Nat} {ch ph dg vl sr pt md nz x2 : Nat} {cp mp F S W V pl de mw mv : Nat → Int32} (IH : ∀ (i fuel : Nat) (ph dg vl sr pt md nz x2 : Nat) (F S W V pl de mw mv : Nat → Int32), i + r = k → r + 1 ≤ fuel → (i = 0 → sr = 0) → RN ph dg vl sr pt md nz x2 → RA ph sr F S W V pl de mw mv → ∃ (res sr' ph' dg' vl' : Int32) (W' V' S' F' : Nat → Int32) (pt' md' nz' : Int32), fX1_read_l12 (nI k) cp 60 fuel (nI i) (nI sr) (nI ph) (nI dg) (nI vl) W V S F = some (res, sr', ph', dg', vl', W', V', S', F') ∧ fX4_faultOfSuits_l22 (nI k) mp fuel (nI i) (nI pt) (nI md) (nI nz) (nI sr) = some (res, pt', md', nz', sr') ∧
      ((∃ t : Nat, t ≤ 60 ∧ res = nI t) ∨ (res = -6 ∧ ∃ N : Nat, N ≤ 6 ∧ sr' = nI N ∧ ∀ (P1 P2 P3 P4 P5 : Int32) (ord : Nat → Int32), ∃ pl' de' mw' mv', fX4_suits_l24 P1 P2 P3 P4 (nI k) P5 mp ord fuel (nI sr) (nI x2) (nI i) pl de mw mv = fX4_suits_l167 P1 P2 P3 P4 P5 pl' de' mw' mv' FU 0 ord ∧ ∀ q, q < N → GD F' S' W' V' pl' de' mw' mv' q))) (hk : k ≤ 60) (hi : i + (r + 1) = k) (hf : r + 1 + 1 ≤ fuel) (h0 : i = 0 → sr = 0) (hN : RN ph dg vl sr pt md nz x2) (hA : RA ph sr F S W V pl de mw mv) (hch : 33 ≤ ch ∧ ch ≤ 126) (g3 : cp i = nI ch) (g4 : mp i = nI ch) (hok : OKs ch ph dg vl sr) (hcc : 48 ≤ ch ∧ ch ≤ 57) : ∃ (res sr' ph' dg' vl' : Int32) (W' V' S' F' : Nat → Int32) (pt' md' nz' : Int32), fX1_read_l12 (nI k) cp 60 fuel (nI i) (nI sr) (nI ph) (nI dg) (nI vl) W V S F = some (res, sr', ph', dg', vl', W', V', S', F') ∧ fX4_faultOfSuits_l22 (nI k) mp fuel (nI i) (nI pt) (nI md) (nI nz) (nI sr) = some (res, pt', md', nz', sr') ∧
      ((∃ t : Nat, t ≤ 60 ∧ res = nI t) ∨ (res = -6 ∧ ∃ N : Nat, N ≤ 6 ∧ sr' = nI N ∧ ∀ (P1 P2 P3 P4 P5 : Int32) (ord : Nat → Int32), ∃ pl' de' mw' mv', fX4_suits_l24 P1 P2 P3 P4 (nI k) P5 mp ord fuel (nI sr) (nI x2) (nI i) pl de mw mv = fX4_suits_l167 P1 P2 P3 P4 P5 pl' de' mw' mv' FU 0 ord ∧ ∀ q, q < N → GD F' S' W' V' pl' de' mw' mv' q)) := by
  obtain ⟨f, rfl⟩ : ∃ f, fuel = f + 1 := ⟨fuel - 1, by omega⟩
  obtain ⟨hA1, hA2, hA3⟩ := hA
  have hN' := hN
  unfold RN at hN'
  obtain ⟨n1, n2, n3, n4, n5, n6, n7, n8, n9, nP, nM, nZ, nX⟩ := hN'
  have hnk : ¬ (nI k : Int32) ≤ nI i := nI_ge (by omega) (by omega)
  have h10 : ¬ (1 : Int32) = 0 := by decide
  have hgi := nI_inF (show i < 60 by omega) (show 60 < 2 ^ 31 by omega)
  obtain ⟨tF, tD, t43, t61, t100, t112, t59⟩ := takes_s (W := W) (V := V) (S := S) (F := F) hch n1 n2 n6 n7 n8
  obtain ⟨mF, mD, m43, m61, m100, m59⟩ := reads_s hch n1 n2 n7 nP nM nZ
  have hok' := hok
  unfold OKs at hok'
  have h6 : sr < 6 := by omega
  have HN : RN (ph) (dg + 1) (10 * vl + (ch - 48)) (sr) (pt) (md + 1) (if md = 0 ∧ ch = 48 then 1 else 0) (10 * x2 + (ch - 48)) := by
    unfold RN
    by_cases q : md = 0 ∧ ch = 48
    · rw [if_pos q]
      refine ⟨?_, ?_, ?_, ?_, ?_, ?_, ?_, ?_, ?_, ?_, ?_, ?_, ?_⟩ <;> omega
    · rw [if_neg q]
      refine ⟨?_, ?_, ?_, ?_, ?_, ?_, ?_, ?_, ?_, ?_, ?_, ?_, ?_⟩ <;> omega
  have HA : RA (ph) (sr) (F) (S) (W) (V) (pl) (de) (mw) (mv) := by
    exact ⟨hA1, hA2, hA3⟩
  obtain ⟨res, sr', ph', dg', vl', W', V', S', F', pt', md', nz', f1, f2, f3⟩ := IH (i + 1) f (ph) (dg + 1) (10 * vl + (ch - 48)) (sr) (pt) (md + 1) (if md = 0 ∧ ch = 48 then 1 else 0) (10 * x2 + (ch - 48)) (F) (S) (W) (V) (pl) (de) (mw) (mv) (by omega) (by omega) (fun h => absurd h (by omega)) HN HA
  rw [fX1_read_l12, fX4_faultOfSuits_l22, if_neg hnk, if_neg hnk, at_nI (show i < 60 by omega) (by omega), bnd1_s, g3, tD hok hcc, bnd9_s, if_neg h10, nI_1, if_pos hgi, nI_clamp (show i < 2 ^ 31 by omega), g4, mD hok hcc, bnd5_s, if_neg h10]
  refine ⟨res, sr', ph', dg', vl', W', V', S', F', pt', md', nz', f1, f2, ?_⟩
  rcases f3 with f3 | ⟨f3, N, f4, f5, f6⟩
  · exact Or.inl f3
  · refine Or.inr ⟨f3, N, f4, f5, fun P1 P2 P3 P4 P5 ord => ?_⟩
    obtain ⟨sD, s43, s61, s100, s112, s59⟩ := scan_s (P1 := P1) (P2 := P2) (P3 := P3) (P4 := P4) (P5 := P5) (ord := ord) (f := f) (x2 := x2) (pl := pl) (de := de) (mw := mw) (mv := mv) (show i < k by omega) hk g4 hch n7
    rw [sD hcc]
    exact f6 P1 P2 P3 P4 P5 ord
theorem read_43 {k r i fuel : Nat} {ch ph dg vl sr pt md nz x2 : Nat} {cp mp F S W V pl de mw mv : Nat → Int32} (IH : ∀ (i fuel : Nat) (ph dg vl sr pt md nz x2 : Nat) (F S W V pl de mw mv : Nat → Int32), i + r = k → r + 1 ≤ fuel → (i = 0 → sr = 0) → RN ph dg vl sr pt md nz x2 → RA ph sr F S W V pl de mw mv → ∃ (res sr' ph' dg' vl' : Int32) (W' V' S' F' : Nat → Int32) (pt' md' nz' : Int32), fX1_read_l12 (nI k) cp 60 fuel (nI i) (nI sr) (nI ph) (nI dg) (nI vl) W V S F = some (res, sr', ph', dg', vl', W', V', S', F') ∧ fX4_faultOfSuits_l22 (nI k) mp fuel (nI i) (nI pt) (nI md) (nI nz) (nI sr) = some (res, pt', md', nz', sr') ∧
      ((∃ t : Nat, t ≤ 60 ∧ res = nI t) ∨ (res = -6 ∧ ∃ N : Nat, N ≤ 6 ∧ sr' = nI N ∧ ∀ (P1 P2 P3 P4 P5 : Int32) (ord : Nat → Int32), ∃ pl' de' mw' mv', fX4_suits_l24 P1 P2 P3 P4 (nI k) P5 mp ord fuel (nI sr) (nI x2) (nI i) pl de mw mv = fX4_suits_l167 P1 P2 P3 P4 P5 pl' de' mw' mv' FU 0 ord ∧ ∀ q, q < N → GD F' S' W' V' pl' de' mw' mv' q))) (hk : k ≤ 60) (hi : i + (r + 1) = k) (hf : r + 1 + 1 ≤ fuel) (h0 : i = 0 → sr = 0) (hN : RN ph dg vl sr pt md nz x2) (hA : RA ph sr F S W V pl de mw mv) (hch : 33 ≤ ch ∧ ch ≤ 126) (g3 : cp i = nI ch) (g4 : mp i = nI ch) (hok : OKs ch ph dg vl sr) (hcc : ch = 43) : ∃ (res sr' ph' dg' vl' : Int32) (W' V' S' F' : Nat → Int32) (pt' md' nz' : Int32), fX1_read_l12 (nI k) cp 60 fuel (nI i) (nI sr) (nI ph) (nI dg) (nI vl) W V S F = some (res, sr', ph', dg', vl', W', V', S', F') ∧ fX4_faultOfSuits_l22 (nI k) mp fuel (nI i) (nI pt) (nI md) (nI nz) (nI sr) = some (res, pt', md', nz', sr') ∧
      ((∃ t : Nat, t ≤ 60 ∧ res = nI t) ∨ (res = -6 ∧ ∃ N : Nat, N ≤ 6 ∧ sr' = nI N ∧ ∀ (P1 P2 P3 P4 P5 : Int32) (ord : Nat → Int32), ∃ pl' de' mw' mv', fX4_suits_l24 P1 P2 P3 P4 (nI k) P5 mp ord fuel (nI sr) (nI x2) (nI i) pl de mw mv = fX4_suits_l167 P1 P2 P3 P4 P5 pl' de' mw' mv' FU 0 ord ∧ ∀ q, q < N → GD F' S' W' V' pl' de' mw' mv' q)) := by
  obtain ⟨f, rfl⟩ : ∃ f, fuel = f + 1 := ⟨fuel - 1, by omega⟩
  obtain ⟨hA1, hA2, hA3⟩ := hA
  have hN' := hN
  unfold RN at hN'
  obtain ⟨n1, n2, n3, n4, n5, n6, n7, n8, n9, nP, nM, nZ, nX⟩ := hN'
  have hnk : ¬ (nI k : Int32) ≤ nI i := nI_ge (by omega) (by omega)
  have h10 : ¬ (1 : Int32) = 0 := by decide
  have hgi := nI_inF (show i < 60 by omega) (show 60 < 2 ^ 31 by omega)
  obtain ⟨tF, tD, t43, t61, t100, t112, t59⟩ := takes_s (W := W) (V := V) (S := S) (F := F) hch n1 n2 n6 n7 n8
  obtain ⟨mF, mD, m43, m61, m100, m59⟩ := reads_s hch n1 n2 n7 nP nM nZ
  have hok' := hok
  unfold OKs at hok'
  have h6 : sr < 6 := by omega
  have HN : RN (1) (0) (0) (sr) (1) (0) (0) (0) := by
    unfold RN
    refine ⟨?_, ?_, ?_, ?_, ?_, ?_, ?_, ?_, ?_, ?_, ?_, ?_, ?_⟩ <;> omega
  have HA : RA (1) (sr) (upd F sr (nI vl)) (S) (W) (V) (upd pl sr (nI x2)) (de) (mw) (mv) := by
    refine ⟨fun q hq => GD_of (hA1 q hq) ⟨upd_ne (by omega), rfl, rfl, rfl, upd_ne (by omega), rfl, rfl, rfl⟩, fun _ => ⟨vl, by omega, by omega, upd_eq _ _ _, ?_⟩, fun h => absurd h (by omega)⟩
    rw [upd_eq]; congr 1; omega
  obtain ⟨res, sr', ph', dg', vl', W', V', S', F', pt', md', nz', f1, f2, f3⟩ := IH (i + 1) f (1) (0) (0) (sr) (1) (0) (0) (0) (upd F sr (nI vl)) (S) (W) (V) (upd pl sr (nI x2)) (de) (mw) (mv) (by omega) (by omega) (fun h => absurd h (by omega)) HN HA
  rw [fX1_read_l12, fX4_faultOfSuits_l22, if_neg hnk, if_neg hnk, at_nI (show i < 60 by omega) (by omega), bnd1_s, g3, t43 hok hcc, bnd9_s, if_neg h10, nI_1, if_pos hgi, nI_clamp (show i < 2 ^ 31 by omega), g4, m43 hok hcc, bnd5_s, if_neg h10]
  refine ⟨res, sr', ph', dg', vl', W', V', S', F', pt', md', nz', f1, f2, ?_⟩
  rcases f3 with f3 | ⟨f3, N, f4, f5, f6⟩
  · exact Or.inl f3
  · refine Or.inr ⟨f3, N, f4, f5, fun P1 P2 P3 P4 P5 ord => ?_⟩
    obtain ⟨sD, s43, s61, s100, s112, s59⟩ := scan_s (P1 := P1) (P2 := P2) (P3 := P3) (P4 := P4) (P5 := P5) (ord := ord) (f := f) (x2 := x2) (pl := pl) (de := de) (mw := mw) (mv := mv) (show i < k by omega) hk g4 hch n7
    rw [s43 h6 hcc]
    exact f6 P1 P2 P3 P4 P5 ord
theorem read_61 {k r i fuel : Nat} {ch ph dg vl sr pt md nz x2 : Nat} {cp mp F S W V pl de mw mv : Nat → Int32} (IH : ∀ (i fuel : Nat) (ph dg vl sr pt md nz x2 : Nat) (F S W V pl de mw mv : Nat → Int32), i + r = k → r + 1 ≤ fuel → (i = 0 → sr = 0) → RN ph dg vl sr pt md nz x2 → RA ph sr F S W V pl de mw mv → ∃ (res sr' ph' dg' vl' : Int32) (W' V' S' F' : Nat → Int32) (pt' md' nz' : Int32), fX1_read_l12 (nI k) cp 60 fuel (nI i) (nI sr) (nI ph) (nI dg) (nI vl) W V S F = some (res, sr', ph', dg', vl', W', V', S', F') ∧ fX4_faultOfSuits_l22 (nI k) mp fuel (nI i) (nI pt) (nI md) (nI nz) (nI sr) = some (res, pt', md', nz', sr') ∧
      ((∃ t : Nat, t ≤ 60 ∧ res = nI t) ∨ (res = -6 ∧ ∃ N : Nat, N ≤ 6 ∧ sr' = nI N ∧ ∀ (P1 P2 P3 P4 P5 : Int32) (ord : Nat → Int32), ∃ pl' de' mw' mv', fX4_suits_l24 P1 P2 P3 P4 (nI k) P5 mp ord fuel (nI sr) (nI x2) (nI i) pl de mw mv = fX4_suits_l167 P1 P2 P3 P4 P5 pl' de' mw' mv' FU 0 ord ∧ ∀ q, q < N → GD F' S' W' V' pl' de' mw' mv' q))) (hk : k ≤ 60) (hi : i + (r + 1) = k) (hf : r + 1 + 1 ≤ fuel) (h0 : i = 0 → sr = 0) (hN : RN ph dg vl sr pt md nz x2) (hA : RA ph sr F S W V pl de mw mv) (hch : 33 ≤ ch ∧ ch ≤ 126) (g3 : cp i = nI ch) (g4 : mp i = nI ch) (hok : OKs ch ph dg vl sr) (hcc : ch = 61) : ∃ (res sr' ph' dg' vl' : Int32) (W' V' S' F' : Nat → Int32) (pt' md' nz' : Int32), fX1_read_l12 (nI k) cp 60 fuel (nI i) (nI sr) (nI ph) (nI dg) (nI vl) W V S F = some (res, sr', ph', dg', vl', W', V', S', F') ∧ fX4_faultOfSuits_l22 (nI k) mp fuel (nI i) (nI pt) (nI md) (nI nz) (nI sr) = some (res, pt', md', nz', sr') ∧
      ((∃ t : Nat, t ≤ 60 ∧ res = nI t) ∨ (res = -6 ∧ ∃ N : Nat, N ≤ 6 ∧ sr' = nI N ∧ ∀ (P1 P2 P3 P4 P5 : Int32) (ord : Nat → Int32), ∃ pl' de' mw' mv', fX4_suits_l24 P1 P2 P3 P4 (nI k) P5 mp ord fuel (nI sr) (nI x2) (nI i) pl de mw mv = fX4_suits_l167 P1 P2 P3 P4 P5 pl' de' mw' mv' FU 0 ord ∧ ∀ q, q < N → GD F' S' W' V' pl' de' mw' mv' q)) := by
  obtain ⟨f, rfl⟩ : ∃ f, fuel = f + 1 := ⟨fuel - 1, by omega⟩
  obtain ⟨hA1, hA2, hA3⟩ := hA
  have hN' := hN
  unfold RN at hN'
  obtain ⟨n1, n2, n3, n4, n5, n6, n7, n8, n9, nP, nM, nZ, nX⟩ := hN'
  have hnk : ¬ (nI k : Int32) ≤ nI i := nI_ge (by omega) (by omega)
  have h10 : ¬ (1 : Int32) = 0 := by decide
  have hgi := nI_inF (show i < 60 by omega) (show 60 < 2 ^ 31 by omega)
  obtain ⟨tF, tD, t43, t61, t100, t112, t59⟩ := takes_s (W := W) (V := V) (S := S) (F := F) hch n1 n2 n6 n7 n8
  obtain ⟨mF, mD, m43, m61, m100, m59⟩ := reads_s hch n1 n2 n7 nP nM nZ
  have hok' := hok
  unfold OKs at hok'
  have h6 : sr < 6 := by omega
  have HN : RN (2) (0) (0) (sr) (2) (0) (0) (0) := by
    unfold RN
    refine ⟨?_, ?_, ?_, ?_, ?_, ?_, ?_, ?_, ?_, ?_, ?_, ?_, ?_⟩ <;> omega
  have HA : RA (2) (sr) (F) (upd S sr (nI vl)) (W) (V) (pl) (upd de sr (nI x2)) (mw) (mv) := by
    refine ⟨fun q hq => GD_of (hA1 q hq) ⟨rfl, upd_ne (by omega), rfl, rfl, rfl, upd_ne (by omega), rfl, rfl⟩, fun _ => hA2 (by omega), fun _ => ⟨vl, by omega, by omega, upd_eq _ _ _, ?_⟩⟩
    rw [upd_eq]; congr 1; omega
  obtain ⟨res, sr', ph', dg', vl', W', V', S', F', pt', md', nz', f1, f2, f3⟩ := IH (i + 1) f (2) (0) (0) (sr) (2) (0) (0) (0) (F) (upd S sr (nI vl)) (W) (V) (pl) (upd de sr (nI x2)) (mw) (mv) (by omega) (by omega) (fun h => absurd h (by omega)) HN HA
  rw [fX1_read_l12, fX4_faultOfSuits_l22, if_neg hnk, if_neg hnk, at_nI (show i < 60 by omega) (by omega), bnd1_s, g3, t61 hok hcc, bnd9_s, if_neg h10, nI_1, if_pos hgi, nI_clamp (show i < 2 ^ 31 by omega), g4, m61 hok hcc, bnd5_s, if_neg h10]
  refine ⟨res, sr', ph', dg', vl', W', V', S', F', pt', md', nz', f1, f2, ?_⟩
  rcases f3 with f3 | ⟨f3, N, f4, f5, f6⟩
  · exact Or.inl f3
  · refine Or.inr ⟨f3, N, f4, f5, fun P1 P2 P3 P4 P5 ord => ?_⟩
    obtain ⟨sD, s43, s61, s100, s112, s59⟩ := scan_s (P1 := P1) (P2 := P2) (P3 := P3) (P4 := P4) (P5 := P5) (ord := ord) (f := f) (x2 := x2) (pl := pl) (de := de) (mw := mw) (mv := mv) (show i < k by omega) hk g4 hch n7
    rw [s61 h6 hcc]
    exact f6 P1 P2 P3 P4 P5 ord
theorem read_100 {k r i fuel : Nat} {ch ph dg vl sr pt md nz x2 : Nat} {cp mp F S W V pl de mw mv : Nat → Int32} (IH : ∀ (i fuel : Nat) (ph dg vl sr pt md nz x2 : Nat) (F S W V pl de mw mv : Nat → Int32), i + r = k → r + 1 ≤ fuel → (i = 0 → sr = 0) → RN ph dg vl sr pt md nz x2 → RA ph sr F S W V pl de mw mv → ∃ (res sr' ph' dg' vl' : Int32) (W' V' S' F' : Nat → Int32) (pt' md' nz' : Int32), fX1_read_l12 (nI k) cp 60 fuel (nI i) (nI sr) (nI ph) (nI dg) (nI vl) W V S F = some (res, sr', ph', dg', vl', W', V', S', F') ∧ fX4_faultOfSuits_l22 (nI k) mp fuel (nI i) (nI pt) (nI md) (nI nz) (nI sr) = some (res, pt', md', nz', sr') ∧
      ((∃ t : Nat, t ≤ 60 ∧ res = nI t) ∨ (res = -6 ∧ ∃ N : Nat, N ≤ 6 ∧ sr' = nI N ∧ ∀ (P1 P2 P3 P4 P5 : Int32) (ord : Nat → Int32), ∃ pl' de' mw' mv', fX4_suits_l24 P1 P2 P3 P4 (nI k) P5 mp ord fuel (nI sr) (nI x2) (nI i) pl de mw mv = fX4_suits_l167 P1 P2 P3 P4 P5 pl' de' mw' mv' FU 0 ord ∧ ∀ q, q < N → GD F' S' W' V' pl' de' mw' mv' q))) (hk : k ≤ 60) (hi : i + (r + 1) = k) (hf : r + 1 + 1 ≤ fuel) (h0 : i = 0 → sr = 0) (hN : RN ph dg vl sr pt md nz x2) (hA : RA ph sr F S W V pl de mw mv) (hch : 33 ≤ ch ∧ ch ≤ 126) (g3 : cp i = nI ch) (g4 : mp i = nI ch) (hok : OKs ch ph dg vl sr) (hcc : ch = 100) : ∃ (res sr' ph' dg' vl' : Int32) (W' V' S' F' : Nat → Int32) (pt' md' nz' : Int32), fX1_read_l12 (nI k) cp 60 fuel (nI i) (nI sr) (nI ph) (nI dg) (nI vl) W V S F = some (res, sr', ph', dg', vl', W', V', S', F') ∧ fX4_faultOfSuits_l22 (nI k) mp fuel (nI i) (nI pt) (nI md) (nI nz) (nI sr) = some (res, pt', md', nz', sr') ∧
      ((∃ t : Nat, t ≤ 60 ∧ res = nI t) ∨ (res = -6 ∧ ∃ N : Nat, N ≤ 6 ∧ sr' = nI N ∧ ∀ (P1 P2 P3 P4 P5 : Int32) (ord : Nat → Int32), ∃ pl' de' mw' mv', fX4_suits_l24 P1 P2 P3 P4 (nI k) P5 mp ord fuel (nI sr) (nI x2) (nI i) pl de mw mv = fX4_suits_l167 P1 P2 P3 P4 P5 pl' de' mw' mv' FU 0 ord ∧ ∀ q, q < N → GD F' S' W' V' pl' de' mw' mv' q)) := by
  obtain ⟨f, rfl⟩ : ∃ f, fuel = f + 1 := ⟨fuel - 1, by omega⟩
  obtain ⟨hA1, hA2, hA3⟩ := hA
  have hN' := hN
  unfold RN at hN'
  obtain ⟨n1, n2, n3, n4, n5, n6, n7, n8, n9, nP, nM, nZ, nX⟩ := hN'
  have hnk : ¬ (nI k : Int32) ≤ nI i := nI_ge (by omega) (by omega)
  have h10 : ¬ (1 : Int32) = 0 := by decide
  have hgi := nI_inF (show i < 60 by omega) (show 60 < 2 ^ 31 by omega)
  obtain ⟨tF, tD, t43, t61, t100, t112, t59⟩ := takes_s (W := W) (V := V) (S := S) (F := F) hch n1 n2 n6 n7 n8
  obtain ⟨mF, mD, m43, m61, m100, m59⟩ := reads_s hch n1 n2 n7 nP nM nZ
  have hok' := hok
  unfold OKs at hok'
  have h6 : sr < 6 := by omega
  have HN : RN (3) (dg) (vl) (sr + 1) (4) (0) (0) (0) := by
    unfold RN
    refine ⟨?_, ?_, ?_, ?_, ?_, ?_, ?_, ?_, ?_, ?_, ?_, ?_, ?_⟩ <;> omega
  have HA : RA (3) (sr + 1) (F) (S) (upd W sr (nI vl)) (upd V sr (nI 1)) (pl) (de) (upd mw sr (nI x2)) (upd mv sr (nI 1)) := by
    refine ⟨fun q hq => ?_, fun h => absurd h (by omega), fun h => absurd h (by omega)⟩
    by_cases hqs : q = sr
    · obtain ⟨a, a1, a2, a3, a4⟩ := hA2 (by omega)
      obtain ⟨b, b1, b2, b3, b4⟩ := hA3 (by omega)
      rw [hqs]
      exact ⟨a, b, vl, 1, ⟨a1, a2, b1, b2, n6, by omega⟩, ⟨a3, b3, upd_eq _ _ _, upd_eq _ _ _⟩, ⟨a4, b4, by rw [upd_eq]; congr 1; omega, upd_eq _ _ _⟩⟩
    · exact GD_of (hA1 q (by omega)) ⟨rfl, rfl, upd_ne hqs, upd_ne hqs, rfl, rfl, upd_ne hqs, upd_ne hqs⟩
  obtain ⟨res, sr', ph', dg', vl', W', V', S', F', pt', md', nz', f1, f2, f3⟩ := IH (i + 1) f (3) (dg) (vl) (sr + 1) (4) (0) (0) (0) (F) (S) (upd W sr (nI vl)) (upd V sr (nI 1)) (pl) (de) (upd mw sr (nI x2)) (upd mv sr (nI 1)) (by omega) (by omega) (fun h => absurd h (by omega)) HN HA
  rw [fX1_read_l12, fX4_faultOfSuits_l22, if_neg hnk, if_neg hnk, at_nI (show i < 60 by omega) (by omega), bnd1_s, g3, t100 hok hcc, bnd9_s, if_neg h10, nI_1, if_pos hgi, nI_clamp (show i < 2 ^ 31 by omega), g4, m100 hok (by omega), bnd5_s, if_neg h10]
  refine ⟨res, sr', ph', dg', vl', W', V', S', F', pt', md', nz', f1, f2, ?_⟩
  rcases f3 with f3 | ⟨f3, N, f4, f5, f6⟩
  · exact Or.inl f3
  · refine Or.inr ⟨f3, N, f4, f5, fun P1 P2 P3 P4 P5 ord => ?_⟩
    obtain ⟨sD, s43, s61, s100, s112, s59⟩ := scan_s (P1 := P1) (P2 := P2) (P3 := P3) (P4 := P4) (P5 := P5) (ord := ord) (f := f) (x2 := x2) (pl := pl) (de := de) (mw := mw) (mv := mv) (show i < k by omega) hk g4 hch n7
    rw [s100 h6 hcc]
    exact f6 P1 P2 P3 P4 P5 ord
theorem read_112 {k r i fuel : Nat} {ch ph dg vl sr pt md nz x2 : Nat} {cp mp F S W V pl de mw mv : Nat → Int32} (IH : ∀ (i fuel : Nat) (ph dg vl sr pt md nz x2 : Nat) (F S W V pl de mw mv : Nat → Int32), i + r = k → r + 1 ≤ fuel → (i = 0 → sr = 0) → RN ph dg vl sr pt md nz x2 → RA ph sr F S W V pl de mw mv → ∃ (res sr' ph' dg' vl' : Int32) (W' V' S' F' : Nat → Int32) (pt' md' nz' : Int32), fX1_read_l12 (nI k) cp 60 fuel (nI i) (nI sr) (nI ph) (nI dg) (nI vl) W V S F = some (res, sr', ph', dg', vl', W', V', S', F') ∧ fX4_faultOfSuits_l22 (nI k) mp fuel (nI i) (nI pt) (nI md) (nI nz) (nI sr) = some (res, pt', md', nz', sr') ∧
      ((∃ t : Nat, t ≤ 60 ∧ res = nI t) ∨ (res = -6 ∧ ∃ N : Nat, N ≤ 6 ∧ sr' = nI N ∧ ∀ (P1 P2 P3 P4 P5 : Int32) (ord : Nat → Int32), ∃ pl' de' mw' mv', fX4_suits_l24 P1 P2 P3 P4 (nI k) P5 mp ord fuel (nI sr) (nI x2) (nI i) pl de mw mv = fX4_suits_l167 P1 P2 P3 P4 P5 pl' de' mw' mv' FU 0 ord ∧ ∀ q, q < N → GD F' S' W' V' pl' de' mw' mv' q))) (hk : k ≤ 60) (hi : i + (r + 1) = k) (hf : r + 1 + 1 ≤ fuel) (h0 : i = 0 → sr = 0) (hN : RN ph dg vl sr pt md nz x2) (hA : RA ph sr F S W V pl de mw mv) (hch : 33 ≤ ch ∧ ch ≤ 126) (g3 : cp i = nI ch) (g4 : mp i = nI ch) (hok : OKs ch ph dg vl sr) (hcc : ch = 112) : ∃ (res sr' ph' dg' vl' : Int32) (W' V' S' F' : Nat → Int32) (pt' md' nz' : Int32), fX1_read_l12 (nI k) cp 60 fuel (nI i) (nI sr) (nI ph) (nI dg) (nI vl) W V S F = some (res, sr', ph', dg', vl', W', V', S', F') ∧ fX4_faultOfSuits_l22 (nI k) mp fuel (nI i) (nI pt) (nI md) (nI nz) (nI sr) = some (res, pt', md', nz', sr') ∧
      ((∃ t : Nat, t ≤ 60 ∧ res = nI t) ∨ (res = -6 ∧ ∃ N : Nat, N ≤ 6 ∧ sr' = nI N ∧ ∀ (P1 P2 P3 P4 P5 : Int32) (ord : Nat → Int32), ∃ pl' de' mw' mv', fX4_suits_l24 P1 P2 P3 P4 (nI k) P5 mp ord fuel (nI sr) (nI x2) (nI i) pl de mw mv = fX4_suits_l167 P1 P2 P3 P4 P5 pl' de' mw' mv' FU 0 ord ∧ ∀ q, q < N → GD F' S' W' V' pl' de' mw' mv' q)) := by
  obtain ⟨f, rfl⟩ : ∃ f, fuel = f + 1 := ⟨fuel - 1, by omega⟩
  obtain ⟨hA1, hA2, hA3⟩ := hA
  have hN' := hN
  unfold RN at hN'
  obtain ⟨n1, n2, n3, n4, n5, n6, n7, n8, n9, nP, nM, nZ, nX⟩ := hN'
  have hnk : ¬ (nI k : Int32) ≤ nI i := nI_ge (by omega) (by omega)
  have h10 : ¬ (1 : Int32) = 0 := by decide
  have hgi := nI_inF (show i < 60 by omega) (show 60 < 2 ^ 31 by omega)
  obtain ⟨tF, tD, t43, t61, t100, t112, t59⟩ := takes_s (W := W) (V := V) (S := S) (F := F) hch n1 n2 n6 n7 n8
  obtain ⟨mF, mD, m43, m61, m100, m59⟩ := reads_s hch n1 n2 n7 nP nM nZ
  have hok' := hok
  unfold OKs at hok'
  have h6 : sr < 6 := by omega
  have HN : RN (3) (dg) (vl) (sr + 1) (4) (0) (0) (0) := by
    unfold RN
    refine ⟨?_, ?_, ?_, ?_, ?_, ?_, ?_, ?_, ?_, ?_, ?_, ?_, ?_⟩ <;> omega
  have HA : RA (3) (sr + 1) (F) (S) (upd W sr (nI vl)) (upd V sr (nI 0)) (pl) (de) (upd mw sr (nI x2)) (upd mv sr (nI 0)) := by
    refine ⟨fun q hq => ?_, fun h => absurd h (by omega), fun h => absurd h (by omega)⟩
    by_cases hqs : q = sr
    · obtain ⟨a, a1, a2, a3, a4⟩ := hA2 (by omega)
      obtain ⟨b, b1, b2, b3, b4⟩ := hA3 (by omega)
      rw [hqs]
      exact ⟨a, b, vl, 0, ⟨a1, a2, b1, b2, n6, by omega⟩, ⟨a3, b3, upd_eq _ _ _, upd_eq _ _ _⟩, ⟨a4, b4, by rw [upd_eq]; congr 1; omega, upd_eq _ _ _⟩⟩
    · exact GD_of (hA1 q (by omega)) ⟨rfl, rfl, upd_ne hqs, upd_ne hqs, rfl, rfl, upd_ne hqs, upd_ne hqs⟩
  obtain ⟨res, sr', ph', dg', vl', W', V', S', F', pt', md', nz', f1, f2, f3⟩ := IH (i + 1) f (3) (dg) (vl) (sr + 1) (4) (0) (0) (0) (F) (S) (upd W sr (nI vl)) (upd V sr (nI 0)) (pl) (de) (upd mw sr (nI x2)) (upd mv sr (nI 0)) (by omega) (by omega) (fun h => absurd h (by omega)) HN HA
  rw [fX1_read_l12, fX4_faultOfSuits_l22, if_neg hnk, if_neg hnk, at_nI (show i < 60 by omega) (by omega), bnd1_s, g3, t112 hok hcc, bnd9_s, if_neg h10, nI_1, if_pos hgi, nI_clamp (show i < 2 ^ 31 by omega), g4, m100 hok (by omega), bnd5_s, if_neg h10]
  refine ⟨res, sr', ph', dg', vl', W', V', S', F', pt', md', nz', f1, f2, ?_⟩
  rcases f3 with f3 | ⟨f3, N, f4, f5, f6⟩
  · exact Or.inl f3
  · refine Or.inr ⟨f3, N, f4, f5, fun P1 P2 P3 P4 P5 ord => ?_⟩
    obtain ⟨sD, s43, s61, s100, s112, s59⟩ := scan_s (P1 := P1) (P2 := P2) (P3 := P3) (P4 := P4) (P5 := P5) (ord := ord) (f := f) (x2 := x2) (pl := pl) (de := de) (mw := mw) (mv := mv) (show i < k by omega) hk g4 hch n7
    rw [s112 h6 hcc]
    exact f6 P1 P2 P3 P4 P5 ord
theorem read_59 {k r i fuel : Nat} {ch ph dg vl sr pt md nz x2 : Nat} {cp mp F S W V pl de mw mv : Nat → Int32} (IH : ∀ (i fuel : Nat) (ph dg vl sr pt md nz x2 : Nat) (F S W V pl de mw mv : Nat → Int32), i + r = k → r + 1 ≤ fuel → (i = 0 → sr = 0) → RN ph dg vl sr pt md nz x2 → RA ph sr F S W V pl de mw mv → ∃ (res sr' ph' dg' vl' : Int32) (W' V' S' F' : Nat → Int32) (pt' md' nz' : Int32), fX1_read_l12 (nI k) cp 60 fuel (nI i) (nI sr) (nI ph) (nI dg) (nI vl) W V S F = some (res, sr', ph', dg', vl', W', V', S', F') ∧ fX4_faultOfSuits_l22 (nI k) mp fuel (nI i) (nI pt) (nI md) (nI nz) (nI sr) = some (res, pt', md', nz', sr') ∧
      ((∃ t : Nat, t ≤ 60 ∧ res = nI t) ∨ (res = -6 ∧ ∃ N : Nat, N ≤ 6 ∧ sr' = nI N ∧ ∀ (P1 P2 P3 P4 P5 : Int32) (ord : Nat → Int32), ∃ pl' de' mw' mv', fX4_suits_l24 P1 P2 P3 P4 (nI k) P5 mp ord fuel (nI sr) (nI x2) (nI i) pl de mw mv = fX4_suits_l167 P1 P2 P3 P4 P5 pl' de' mw' mv' FU 0 ord ∧ ∀ q, q < N → GD F' S' W' V' pl' de' mw' mv' q))) (hk : k ≤ 60) (hi : i + (r + 1) = k) (hf : r + 1 + 1 ≤ fuel) (h0 : i = 0 → sr = 0) (hN : RN ph dg vl sr pt md nz x2) (hA : RA ph sr F S W V pl de mw mv) (hch : 33 ≤ ch ∧ ch ≤ 126) (g3 : cp i = nI ch) (g4 : mp i = nI ch) (hok : OKs ch ph dg vl sr) (hcc : ch = 59) : ∃ (res sr' ph' dg' vl' : Int32) (W' V' S' F' : Nat → Int32) (pt' md' nz' : Int32), fX1_read_l12 (nI k) cp 60 fuel (nI i) (nI sr) (nI ph) (nI dg) (nI vl) W V S F = some (res, sr', ph', dg', vl', W', V', S', F') ∧ fX4_faultOfSuits_l22 (nI k) mp fuel (nI i) (nI pt) (nI md) (nI nz) (nI sr) = some (res, pt', md', nz', sr') ∧
      ((∃ t : Nat, t ≤ 60 ∧ res = nI t) ∨ (res = -6 ∧ ∃ N : Nat, N ≤ 6 ∧ sr' = nI N ∧ ∀ (P1 P2 P3 P4 P5 : Int32) (ord : Nat → Int32), ∃ pl' de' mw' mv', fX4_suits_l24 P1 P2 P3 P4 (nI k) P5 mp ord fuel (nI sr) (nI x2) (nI i) pl de mw mv = fX4_suits_l167 P1 P2 P3 P4 P5 pl' de' mw' mv' FU 0 ord ∧ ∀ q, q < N → GD F' S' W' V' pl' de' mw' mv' q)) := by
  obtain ⟨f, rfl⟩ : ∃ f, fuel = f + 1 := ⟨fuel - 1, by omega⟩
  obtain ⟨hA1, hA2, hA3⟩ := hA
  have hN' := hN
  unfold RN at hN'
  obtain ⟨n1, n2, n3, n4, n5, n6, n7, n8, n9, nP, nM, nZ, nX⟩ := hN'
  have hnk : ¬ (nI k : Int32) ≤ nI i := nI_ge (by omega) (by omega)
  have h10 : ¬ (1 : Int32) = 0 := by decide
  have hgi := nI_inF (show i < 60 by omega) (show 60 < 2 ^ 31 by omega)
  obtain ⟨tF, tD, t43, t61, t100, t112, t59⟩ := takes_s (W := W) (V := V) (S := S) (F := F) hch n1 n2 n6 n7 n8
  obtain ⟨mF, mD, m43, m61, m100, m59⟩ := reads_s hch n1 n2 n7 nP nM nZ
  have hok' := hok
  unfold OKs at hok'
  have h6 : sr < 6 := by omega
  have HN : RN (0) (0) (0) (sr) (0) (0) (0) (0) := by
    unfold RN
    refine ⟨?_, ?_, ?_, ?_, ?_, ?_, ?_, ?_, ?_, ?_, ?_, ?_, ?_⟩ <;> omega
  have HA : RA (0) (sr) (F) (S) (W) (V) (pl) (de) (mw) (mv) := by
    exact ⟨hA1, fun h => absurd h (by omega), fun h => absurd h (by omega)⟩
  obtain ⟨res, sr', ph', dg', vl', W', V', S', F', pt', md', nz', f1, f2, f3⟩ := IH (i + 1) f (0) (0) (0) (sr) (0) (0) (0) (0) (F) (S) (W) (V) (pl) (de) (mw) (mv) (by omega) (by omega) (fun h => absurd h (by omega)) HN HA
  rw [fX1_read_l12, fX4_faultOfSuits_l22, if_neg hnk, if_neg hnk, at_nI (show i < 60 by omega) (by omega), bnd1_s, g3, t59 hok hcc, bnd9_s, if_neg h10, nI_1, if_pos hgi, nI_clamp (show i < 2 ^ 31 by omega), g4, m59 hok hcc, bnd5_s, if_neg h10]
  refine ⟨res, sr', ph', dg', vl', W', V', S', F', pt', md', nz', f1, f2, ?_⟩
  rcases f3 with f3 | ⟨f3, N, f4, f5, f6⟩
  · exact Or.inl f3
  · refine Or.inr ⟨f3, N, f4, f5, fun P1 P2 P3 P4 P5 ord => ?_⟩
    obtain ⟨sD, s43, s61, s100, s112, s59⟩ := scan_s (P1 := P1) (P2 := P2) (P3 := P3) (P4 := P4) (P5 := P5) (ord := ord) (f := f) (x2 := x2) (pl := pl) (de := de) (mw := mw) (mv := mv) (show i < k by omega) hk g4 hch n7
    rw [s59 h6 hcc]
    exact f6 P1 P2 P3 P4 P5 ord
theorem read_l {k : Nat} {g : Nat → Nat} {cp mp : Nat → Int32} (hk : k ≤ 60) (hg : ∀ j, j < k → 33 ≤ g j ∧ g j ≤ 126 ∧ cp j = nI (g j) ∧ mp j = nI (g j)) :
    ∀ (r i fuel : Nat) (ph dg vl sr pt md nz x2 : Nat) (F S W V pl de mw mv : Nat → Int32), i + r = k → r + 1 ≤ fuel → (i = 0 → sr = 0) → RN ph dg vl sr pt md nz x2 → RA ph sr F S W V pl de mw mv → ∃ (res sr' ph' dg' vl' : Int32) (W' V' S' F' : Nat → Int32) (pt' md' nz' : Int32), fX1_read_l12 (nI k) cp 60 fuel (nI i) (nI sr) (nI ph) (nI dg) (nI vl) W V S F = some (res, sr', ph', dg', vl', W', V', S', F') ∧ fX4_faultOfSuits_l22 (nI k) mp fuel (nI i) (nI pt) (nI md) (nI nz) (nI sr) = some (res, pt', md', nz', sr') ∧
      ((∃ t : Nat, t ≤ 60 ∧ res = nI t) ∨ (res = -6 ∧ ∃ N : Nat, N ≤ 6 ∧ sr' = nI N ∧ ∀ (P1 P2 P3 P4 P5 : Int32) (ord : Nat → Int32), ∃ pl' de' mw' mv', fX4_suits_l24 P1 P2 P3 P4 (nI k) P5 mp ord fuel (nI sr) (nI x2) (nI i) pl de mw mv = fX4_suits_l167 P1 P2 P3 P4 P5 pl' de' mw' mv' FU 0 ord ∧ ∀ q, q < N → GD F' S' W' V' pl' de' mw' mv' q))
  | 0, i, fuel, ph, dg, vl, sr, pt, md, nz, x2, F, S, W, V, pl, de, mw, mv, hi, hf, h0, hN, hA => by
    obtain ⟨f, rfl⟩ : ∃ f, fuel = f + 1 := ⟨fuel - 1, by omega⟩
    obtain ⟨n1, n2, n3, n4, n5, n6, n7, n8, n9, nP, nM, nZ, nX⟩ := hN
    have q1 : pt ≤ 4 := by omega
    have q2 : ph = 3 → pt = 4 := fun h => by omega
    have q3 : ¬ ph = 3 → ¬ pt = 4 := fun h => by omega
    have hkk : (nI k : Int32) ≤ nI i := nI_le (by omega) (by omega)
    have k0 : ((nI k : Int32) = 0) = (k = 0) := eqN (b := 0) (by omega) (by omega)
    have p3 : ((nI ph : Int32) = 3) = (ph = 3) := eqN (b := 3) (by omega) (by omega)
    have p4 : ((nI pt : Int32) = 4) = (pt = 4) := eqN (b := 4) (by omega) (by omega)
    obtain ⟨hA1, hA2, hA3⟩ := hA
    rw [fX1_read_l12, fX4_faultOfSuits_l22]
    simp only [if_pos hkk, k0, p3, p4]
    have acc : ∀ (P1 P2 P3 P4 P5 : Int32) (ord : Nat → Int32), ∃ pl' de' mw' mv', fX4_suits_l24 P1 P2 P3 P4 (nI k) P5 mp ord (f + 1) (nI sr) (nI x2) (nI i) pl de mw mv = fX4_suits_l167 P1 P2 P3 P4 P5 pl' de' mw' mv' FU 0 ord ∧ ∀ q, q < sr → GD F S W V pl' de' mw' mv' q := fun P1 P2 P3 P4 P5 ord => ⟨pl, de, mw, mv, by rw [fX4_suits_l24, if_pos hkk], hA1⟩
    by_cases hk0 : k = 0
    · simp only [if_pos hk0]
      exact ⟨_, _, _, _, _, _, _, _, _, _, _, _, rfl, rfl, Or.inr ⟨rfl, sr, n7, rfl, acc⟩⟩
    · simp only [if_neg hk0]
      by_cases h3 : ph = 3
      · simp only [if_pos h3, if_pos (q2 h3)]
        exact ⟨_, _, _, _, _, _, _, _, _, _, _, _, rfl, rfl, Or.inr ⟨rfl, sr, n7, rfl, acc⟩⟩
      · simp only [if_neg h3, if_neg (q3 h3)]
        exact ⟨_, _, _, _, _, _, _, _, _, _, _, _, rfl, rfl, Or.inl ⟨k, hk, rfl⟩⟩
  | r + 1, i, fuel, ph, dg, vl, sr, pt, md, nz, x2, F, S, W, V, pl, de, mw, mv, hi, hf, h0, hN, hA => by
    obtain ⟨f, rfl⟩ : ∃ f, fuel = f + 1 := ⟨fuel - 1, by omega⟩
    obtain ⟨hA1, hA2, hA3⟩ := id hA
    obtain ⟨n1, n2, n3, n4, n5, n6, n7, n8, n9, nP, nM, nZ, nX⟩ := id hN
    obtain ⟨g1, g2, g3, g4⟩ := hg i (by omega)
    have hsr : sr ≤ 6 := n7
    have hnk : ¬ (nI k : Int32) ≤ nI i := nI_ge (by omega) (by omega)
    have h10 : ¬ (1 : Int32) = 0 := by decide
    have hgi := nI_inF (show i < 60 by omega) (show 60 < 2 ^ 31 by omega)
    obtain ⟨tF, tD, t43, t61, t100, t112, t59⟩ := takes_s (W := W) (V := V) (S := S) (F := F) ⟨g1, g2⟩ n1 n2 n6 n7 n8
    obtain ⟨mF, mD, m43, m61, m100, m59⟩ := reads_s ⟨g1, g2⟩ n1 n2 n7 nP nM nZ
    by_cases hok : OKs (g i) ph dg vl sr
    rotate_left
    · rw [fX1_read_l12, fX4_faultOfSuits_l22, if_neg hnk, if_neg hnk, at_nI (show i < 60 by omega) (by omega), bnd1_s, g3, tF hok, bnd9_s, if_pos rfl, if_pos hgi, nI_clamp (show i < 2 ^ 31 by omega), g4, mF hok, bnd5_s, if_pos rfl]
      exact ⟨_, _, _, _, _, _, _, _, _, _, _, _, rfl, rfl, Or.inl ⟨i, by omega, rfl⟩⟩
    by_cases c0 : 48 ≤ g i ∧ g i ≤ 57
    · exact read_D (read_l hk hg r) hk hi hf h0 hN hA ⟨g1, g2⟩ g3 g4 hok c0
    by_cases c1 : g i = 43
    · exact read_43 (read_l hk hg r) hk hi hf h0 hN hA ⟨g1, g2⟩ g3 g4 hok c1
    by_cases c2 : g i = 61
    · exact read_61 (read_l hk hg r) hk hi hf h0 hN hA ⟨g1, g2⟩ g3 g4 hok c2
    by_cases c3 : g i = 100
    · exact read_100 (read_l hk hg r) hk hi hf h0 hN hA ⟨g1, g2⟩ g3 g4 hok c3
    by_cases c4 : g i = 112
    · exact read_112 (read_l hk hg r) hk hi hf h0 hN hA ⟨g1, g2⟩ g3 g4 hok c4
    · exact read_59 (read_l hk hg r) hk hi hf h0 hN hA ⟨g1, g2⟩ g3 g4 hok (by unfold OKs at hok; omega)
