theorem readsD {ch pt md nz : Nat} (hc : 33 ≤ ch ∧ ch ≤ 126) (hp : pt ≤ 4) (hd : md ≤ 3) (hz : nz ≤ 1) : fX4_readsDigit (nI ch) (nI pt) (nI md) (nI nz) = if 3 ≤ pt ∨ 3 ≤ md ∨ nz ≠ 0 ∨ (ch = 48 ∧ md = 0 ∧ pt ≠ 2) then some (0, nI md, nI nz) else some (1, nI (md + 1), nI (if md = 0 ∧ ch = 48 then 1 else 0)) := by
  have a1 : ((3 : Int32) ≤ nI pt) = (3 ≤ pt) := leN (a := 3) (by omega) (by omega)
  have a2 : ((3 : Int32) ≤ nI md) = (3 ≤ md) := leN (a := 3) (by omega) (by omega)
  have a3 : ((nI nz : Int32) = 0) = (nz = 0) := eqN (b := 0) (by omega) (by omega)
  have a4 : ((nI ch : Int32) = 48) = (ch = 48) := eqN (b := 48) (by omega) (by omega)
  have a5 : ((0 : Int32) < nI md) = (0 < md) := ltN (a := 0) (by omega) (by omega)
  have a6 : ((nI pt : Int32) = 2) = (pt = 2) := eqN (b := 2) (by omega) (by omega)
  have a7 : ((nI md : Int32) = 0) = (md = 0) := eqN (b := 0) (by omega) (by omega)
  have z0 : ((0 : Int32) = 0) = True := eq_true rfl
  have z1 : ((1 : Int32) = 0) = False := eq_false (by decide)
  unfold fX4_readsDigit fX4_readsDigit_j48 fX4_readsDigit_j49 fX4_readsDigit_j72 fX4_readsDigit_j73
  simp only [a1, a2, a3, a4, a5, a6, a7, nI_1, z0, z1, nb0, nb1, ft0, ft1, and_self, if_true, if_false]
  by_cases c1 : 3 ≤ pt
  · rw [if_pos c1, if_pos (by omega)]
  rw [if_neg c1]
  by_cases c2 : 3 ≤ md
  · rw [if_pos c2, if_pos (by omega)]
  rw [if_neg c2]
  by_cases c3 : nz = 0
  · rw [if_pos c3]
    by_cases c4 : ch = 48
    · simp only [if_pos c4]
      by_cases c5 : md = 0
      · simp only [if_neg (show ¬ 0 < md by omega), if_pos c5]
        by_cases c6 : pt = 2
        · rw [if_pos c6, if_neg (by omega), if_pos ⟨c5, c4⟩]; rfl
        · rw [if_neg c6, if_pos (by omega)]
      · simp only [if_pos (show 0 < md by omega), if_neg c5]
        rw [if_neg (by omega), if_neg (by omega)]; rfl
    · simp only [if_neg c4]
      rw [if_neg (show ¬ (3 ≤ pt ∨ 3 ≤ md ∨ nz ≠ 0 ∨ (ch = 48 ∧ md = 0 ∧ pt ≠ 2)) by omega), if_neg (show ¬ (md = 0 ∧ ch = 48) by omega), ite_self]; rfl
  · rw [if_neg c3, if_pos (by omega)]
theorem reads_s {ch ph dg vl sr pt md nz : Nat} (hc : 33 ≤ ch ∧ ch ≤ 126) (hp : ph ≤ 3) (hd : dg ≤ 3) (hs : sr ≤ 6) (hP : (ph ≠ 3 ∧ pt = ph) ∨ (ph = 3 ∧ pt = 4)) (hM : (ph ≠ 3 ∧ md = dg) ∨ (ph = 3 ∧ md = 0)) (hZ : (nz = 1 ∧ ph ≠ 3 ∧ 0 < dg ∧ vl = 0) ∨ (nz = 0 ∧ ¬ (ph ≠ 3 ∧ 0 < dg ∧ vl = 0))) :
    (¬ OKs ch ph dg vl sr → fX4_reads (nI ch) (nI pt) (nI md) (nI nz) (nI sr) = some (0, nI pt, nI md, nI nz, nI sr)) ∧
    (OKs ch ph dg vl sr → 48 ≤ ch ∧ ch ≤ 57 → fX4_reads (nI ch) (nI pt) (nI md) (nI nz) (nI sr) = some (1, nI pt, nI (md + 1), nI (if md = 0 ∧ ch = 48 then 1 else 0), nI sr)) ∧
    (OKs ch ph dg vl sr → ch = 43 → fX4_reads (nI ch) (nI pt) (nI md) (nI nz) (nI sr) = some (1, nI 1, nI 0, nI 0, nI sr)) ∧
    (OKs ch ph dg vl sr → ch = 61 → fX4_reads (nI ch) (nI pt) (nI md) (nI nz) (nI sr) = some (1, nI 2, nI 0, nI 0, nI sr)) ∧
    (OKs ch ph dg vl sr → ch = 100 ∨ ch = 112 → fX4_reads (nI ch) (nI pt) (nI md) (nI nz) (nI sr) = some (1, nI 4, nI 0, nI 0, nI (sr + 1))) ∧
    (OKs ch ph dg vl sr → ch = 59 → fX4_reads (nI ch) (nI pt) (nI md) (nI nz) (nI sr) = some (1, nI 0, nI 0, nI 0, nI sr)) := by
  have a0 : ((nI md : Int32) ≤ 0) = (md ≤ 0) := leN (b := 0) (by omega) (by omega)
  have a1 : ((nI pt : Int32) = 0) = (pt = 0) := eqN (b := 0) (by omega) (by omega)
  have a2 : ((nI pt : Int32) = 1) = (pt = 1) := eqN (b := 1) (by omega) (by omega)
  have a3 : ((nI pt : Int32) = 2) = (pt = 2) := eqN (b := 2) (by omega) (by omega)
  have a4 : ((nI pt : Int32) = 4) = (pt = 4) := eqN (b := 4) (by omega) (by omega)
  have a5 : ((6 : Int32) ≤ nI sr) = (6 ≤ sr) := leN (a := 6) (by omega) (by omega)
  have b1 : ((nI ch : Int32) = 43) = (ch = 43) := eqN (b := 43) (by omega) (by omega)
  have b2 : ((nI ch : Int32) = 59) = (ch = 59) := eqN (b := 59) (by omega) (by omega)
  have b3 : ((nI ch : Int32) = 61) = (ch = 61) := eqN (b := 61) (by omega) (by omega)
  have b4 : ((nI ch : Int32) = 100) = (ch = 100) := eqN (b := 100) (by omega) (by omega)
  have b5 : ((nI ch : Int32) = 112) = (ch = 112) := eqN (b := 112) (by omega) (by omega)
  have z0 : ((0 : Int32) = 0) = True := eq_true rfl
  have z1 : ((1 : Int32) = 0) = False := eq_false (by decide)
  have z4 : ((4 : Int32) = 4) = True := eq_true rfl
  have z5 : ((nI (pt + 1) : Int32) = 4) = (pt + 1 = 4) := eqN (b := 4) (by omega) (by omega)
  have z6 : (nI sr + 0 : Int32) = nI sr := nI_add sr 0
  unfold fX4_reads
  rw [dig_m (by omega), bnd1_s]
  by_cases hdg : 48 ≤ ch ∧ ch ≤ 57
  · simp only [if01_t hdg]
    rw [readsD hc (by omega) (by omega) (by omega)]
    refine ⟨fun h => ?_, fun h _ => ?_, fun _ h => by omega, fun _ h => by omega, fun _ h => by omega, fun _ h => by omega⟩
    · unfold OKs at h
      rw [if_pos (by omega)]
      simp only [bnd3_s, nb0, if_true]
    · unfold OKs at h
      rw [if_neg (by omega)]
      simp only [bnd3_s, nb1, if_true]
  · simp only [if01_f hdg]
    unfold fX4_reads_j78 fX4_reads_j40 fX4_reads_j54 fX4_reads_j78 fX4_reads_j79 fX4_reads_j107 fX4_reads_j108 fX4_reads_j119 fX4_reads_j146 fX4_reads_j170 fX4_reads_j171
    simp only [a0, a1, a2, a3, a4, a5, b1, b2, b3, b4, b5, z0, z1, z4, nI_1, z5, z6, if_true, if_false]
    refine ⟨fun h => ?_, fun _ h => absurd h hdg, fun h hch => ?_, fun h hch => ?_, fun h hch => ?_, fun h hch => ?_⟩
    · unfold OKs at h
      by_cases d0 : md ≤ 0
      · simp only [if_pos d0]
        by_cases d1 : pt = 4
        · simp only [if_pos d1]
          by_cases d2 : ch = 59
          · simp only [if_pos d2, if_pos (show 6 ≤ sr by omega)]
          · simp only [if_neg d2]
        · simp only [if_neg d1]
      · simp only [if_neg d0, if_neg (show ¬ pt = 4 by omega)]
        by_cases e0 : pt = 0
        · simp only [if_pos e0, if_neg (show ¬ ch = 43 by omega), if_neg (show ¬ pt = 1 by omega), if_neg (show ¬ pt = 2 by omega)]
        · by_cases e1 : pt = 1
          · simp only [if_neg e0, if_pos e1, if_neg (show ¬ ch = 61 by omega), if_neg (show ¬ pt = 2 by omega)]
          · simp only [if_neg e0, if_neg e1, if_pos (show pt = 2 by omega), if_neg (show ¬ ch = 112 by omega), if_neg (show ¬ ch = 100 by omega)]
    · unfold OKs at h
      have hpt : pt = 0 := by omega
      subst hpt
      simp only [if_neg (show ¬ md ≤ 0 by omega), if_pos hch, if_true, if_neg (show ¬ 0 = 4 by omega), if_neg (show ¬ 0 = 2 by omega), if_neg (show ¬ 0 + 1 = 4 by omega)]
      rfl
    · unfold OKs at h
      have hpt : pt = 1 := by omega
      subst hpt
      simp only [if_neg (show ¬ md ≤ 0 by omega), if_pos hch, if_true, if_neg (show ¬ 1 = 0 by omega), if_neg (show ¬ 1 = 4 by omega), if_neg (show ¬ 1 = 2 by omega), if_neg (show ¬ 1 + 1 = 4 by omega)]
      rfl
    · unfold OKs at h
      have hpt : pt = 2 := by omega
      subst hpt
      simp only [if_neg (show ¬ md ≤ 0 by omega), if_true, if_neg (show ¬ 2 = 0 by omega), if_neg (show ¬ 2 = 1 by omega), if_neg (show ¬ 2 = 4 by omega)]
      rcases hch with hch | hch
      · simp only [if_neg (show ¬ ch = 112 by omega), if_pos hch]
        rfl
      · simp only [if_pos hch]
        rfl
    · unfold OKs at h
      have hpt : pt = 4 := by omega
      simp only [if_pos (show md ≤ 0 by omega), if_pos hpt, if_pos hch, if_neg (show ¬ 6 ≤ sr by omega)]
      rfl
theorem scan_s {P1 P2 P3 P4 P5 : Int32} {mp ord : Nat → Int32} {k i f sr x2 ch : Nat} {pl de mw mv : Nat → Int32} (hi : i < k) (hk : k ≤ 60) (hg : mp i = nI ch) (hc : 33 ≤ ch ∧ ch ≤ 126) (hs : sr ≤ 6) :
    (48 ≤ ch ∧ ch ≤ 57 → fX4_suits_l24 P1 P2 P3 P4 (nI k) P5 mp ord (f + 1) (nI sr) (nI x2) (nI i) pl de mw mv = fX4_suits_l24 P1 P2 P3 P4 (nI k) P5 mp ord f (nI sr) (nI (10 * x2 + (ch - 48))) (nI (i + 1)) pl de mw mv) ∧
    (sr < 6 → ch = 43 → fX4_suits_l24 P1 P2 P3 P4 (nI k) P5 mp ord (f + 1) (nI sr) (nI x2) (nI i) pl de mw mv = fX4_suits_l24 P1 P2 P3 P4 (nI k) P5 mp ord f (nI sr) (nI 0) (nI (i + 1)) (upd pl sr (nI x2)) de mw mv) ∧
    (sr < 6 → ch = 61 → fX4_suits_l24 P1 P2 P3 P4 (nI k) P5 mp ord (f + 1) (nI sr) (nI x2) (nI i) pl de mw mv = fX4_suits_l24 P1 P2 P3 P4 (nI k) P5 mp ord f (nI sr) (nI 0) (nI (i + 1)) pl (upd de sr (nI x2)) mw mv) ∧
    (sr < 6 → ch = 100 → fX4_suits_l24 P1 P2 P3 P4 (nI k) P5 mp ord (f + 1) (nI sr) (nI x2) (nI i) pl de mw mv = fX4_suits_l24 P1 P2 P3 P4 (nI k) P5 mp ord f (nI (sr + 1)) (nI 0) (nI (i + 1)) pl de (upd mw sr (nI x2)) (upd mv sr (nI 1))) ∧
    (sr < 6 → ch = 112 → fX4_suits_l24 P1 P2 P3 P4 (nI k) P5 mp ord (f + 1) (nI sr) (nI x2) (nI i) pl de mw mv = fX4_suits_l24 P1 P2 P3 P4 (nI k) P5 mp ord f (nI (sr + 1)) (nI 0) (nI (i + 1)) pl de (upd mw sr (nI x2)) (upd mv sr (nI 0))) ∧
    (sr < 6 → ch = 59 → fX4_suits_l24 P1 P2 P3 P4 (nI k) P5 mp ord (f + 1) (nI sr) (nI x2) (nI i) pl de mw mv = fX4_suits_l24 P1 P2 P3 P4 (nI k) P5 mp ord f (nI sr) (nI 0) (nI (i + 1)) pl de mw mv) := by
  have b1 : ((nI ch : Int32) = 43) = (ch = 43) := eqN (b := 43) (by omega) (by omega)
  have b3 : ((nI ch : Int32) = 61) = (ch = 61) := eqN (b := 61) (by omega) (by omega)
  have b4 : ((nI ch : Int32) = 100) = (ch = 100) := eqN (b := 100) (by omega) (by omega)
  have b5 : ((nI ch : Int32) = 112) = (ch = 112) := eqN (b := 112) (by omega) (by omega)
  have hgi := nI_inG (show i < 60 by omega) (show 60 < 2 ^ 31 by omega)
  rw [fX4_suits_l24, if_neg (nI_ge hi (by omega))]
  unfold fX4_suits_j91 fX4_suits_j114 fX4_suits_j129 fX4_suits_j153
  simp only [nI_clamp (show i < 2 ^ 31 by omega), nI_clamp (show sr < 2 ^ 31 by omega), if_pos hgi, hg, dig_m (show ch < 1000 by omega), bnd1_s, b1, b3, b4, b5, nI_1, upd_self]
  refine ⟨fun h => ?_, fun h6 h => ?_, fun h6 h => ?_, fun h6 h => ?_, fun h6 h => ?_, fun h6 h => ?_⟩
  · simp only [if01_t h]
    rw [show ((10 * nI x2 + nI ch) - 48 : Int32) = nI (10 * x2 + (ch - 48)) from by rw [show (10 : Int32) = nI 10 from rfl, pk_mul, nI_add, show (48 : Int32) = nI 48 from rfl, pk_sub (by omega)]; congr 1; omega]
  · simp only [if01_f (show ¬ (48 ≤ ch ∧ ch ≤ 57) by omega), if_pos (nI_inG h6 (show 6 < 2 ^ 31 by omega)), if_pos h, if_neg (show ¬ ch = 61 by omega), if_neg (show ¬ ch = 112 by omega), if_neg (show ¬ ch = 100 by omega)]
    rfl
  · simp only [if01_f (show ¬ (48 ≤ ch ∧ ch ≤ 57) by omega), if_pos (nI_inG h6 (show 6 < 2 ^ 31 by omega)), if_neg (show ¬ ch = 43 by omega), if_pos h, if_neg (show ¬ ch = 112 by omega), if_neg (show ¬ ch = 100 by omega)]
    rfl
  · simp only [if01_f (show ¬ (48 ≤ ch ∧ ch ≤ 57) by omega), if_pos (nI_inG h6 (show 6 < 2 ^ 31 by omega)), if_neg (show ¬ ch = 43 by omega), if_neg (show ¬ ch = 61 by omega), if_neg (show ¬ ch = 112 by omega), if_pos h]
    rfl
  · simp only [if01_f (show ¬ (48 ≤ ch ∧ ch ≤ 57) by omega), if_pos (nI_inG h6 (show 6 < 2 ^ 31 by omega)), if_neg (show ¬ ch = 43 by omega), if_neg (show ¬ ch = 61 by omega), if_pos h]
    rfl
  · simp only [if01_f (show ¬ (48 ≤ ch ∧ ch ≤ 57) by omega), if_pos (nI_inG h6 (show 6 < 2 ^ 31 by omega)), if_neg (show ¬ ch = 43 by omega), if_neg (show ¬ ch = 61 by omega), if_neg (show ¬ ch = 112 by omega), if_neg (show ¬ ch = 100 by omega)]
    rfl
