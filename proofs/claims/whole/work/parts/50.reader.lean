theorem nb0 : (narrow .boolean (.int 0) = .int 0) = True := eq_true (by decide)
theorem nb1 : (narrow .boolean (.int 1) = .int 1) = True := eq_true (by decide)
theorem ft0 : (fits .boolean (.int 0) = true) = True := eq_true (by decide)
theorem ft1 : (fits .boolean (.int 1) = true) = True := eq_true (by decide)
theorem eqN {a b : Nat} (ha : a < 1000000) (hb : b < 1000000) : ((nI a : Int32) = nI b) = (a = b) := propext (nI_eq (by omega) (by omega))
theorem leN {a b : Nat} (ha : a < 1000000) (hb : b < 1000000) : ((nI a : Int32) ≤ nI b) = (a ≤ b) := propext (nI_leI (by omega) (by omega))
theorem ltN {a b : Nat} (ha : a < 1000000) (hb : b < 1000000) : ((nI a : Int32) < nI b) = (a < b) := propext (nI_ltI (by omega) (by omega))
theorem dig_c {ch : Nat} (h : ch < 1000) : fX3_within (nI ch) 48 57 = some (if 48 ≤ ch ∧ ch ≤ 57 then 1 else 0) := by
  rw [within_eq2 (nI ch) (a := 48) (b := 57) rfl rfl, b_nI (by omega)]
  by_cases q : 48 ≤ ch ∧ ch ≤ 57
  · rw [if_pos q, if_pos (by omega)]
  · rw [if_neg q, if_neg (by omega)]
theorem dig_m {ch : Nat} (h : ch < 1000) : fX4_in (Int32.toInt64 (nI ch)) 48 57 = some (if 48 ≤ ch ∧ ch ≤ 57 then 1 else 0) := by
  rw [in_eq2 (nI ch) (a := 48) (b := 57) rfl rfl, b_nI (by omega)]
  by_cases q : 48 ≤ ch ∧ ch ≤ 57
  · rw [if_pos q, if_pos (by omega)]
  · rw [if_neg q, if_neg (by omega)]
def OKs (ch ph dg vl sr : Nat) : Prop := (48 ≤ ch ∧ ch ≤ 57 ∧ ph ≠ 3 ∧ dg ≠ 3 ∧ ¬ (dg = 0 ∧ ch = 48 ∧ ph ≠ 2) ∧ ¬ (0 < dg ∧ vl = 0)) ∨ (ch = 43 ∧ ph = 0 ∧ dg ≠ 0) ∨ (ch = 61 ∧ ph = 1 ∧ dg ≠ 0) ∨ ((ch = 100 ∨ ch = 112) ∧ ph = 2 ∧ dg ≠ 0) ∨ (ch = 59 ∧ ph = 3 ∧ sr < 6)
theorem takesD {u ph dg vl : Nat} (hu : u ≤ 9) (hp : ph ≤ 3) (hd : dg ≤ 3) (hv : vl ≤ 999) : fX1_takesDigit (nI u) (nI ph) (nI dg) (nI vl) = if ph = 3 ∨ dg = 3 ∨ (dg = 0 ∧ u = 0 ∧ ph ≠ 2) ∨ (0 < dg ∧ vl = 0) then some (0, nI dg, nI vl) else some (1, nI (dg + 1), nI (10 * vl + u)) := by
  have a1 : ((nI ph : Int32) = 3) = (ph = 3) := eqN (b := 3) (by omega) (by omega)
  have a2 : ((nI ph : Int32) = 2) = (ph = 2) := eqN (b := 2) (by omega) (by omega)
  have a3 : ((nI dg : Int32) = 3) = (dg = 3) := eqN (b := 3) (by omega) (by omega)
  have a4 : ((nI dg : Int32) = 0) = (dg = 0) := eqN (b := 0) (by omega) (by omega)
  have a5 : ((nI u : Int32) = 0) = (u = 0) := eqN (b := 0) (by omega) (by omega)
  have a6 : ((nI dg : Int32) ≤ 0) = (dg ≤ 0) := leN (b := 0) (by omega) (by omega)
  have a7 : ((nI vl : Int32) = 0) = (vl = 0) := eqN (b := 0) (by omega) (by omega)
  have a8 : (10 * nI vl + nI u : Int32) = nI (10 * vl + u) := by rw [show (10 : Int32) = nI 10 from rfl, pk_mul, nI_add]
  have z0 : ((0 : Int32) = 0) = True := eq_true rfl
  have z1 : ((1 : Int32) = 0) = False := eq_false (by decide)
  unfold fX1_takesDigit fX1_takesDigit_j41 fX1_takesDigit_j42 fX1_takesDigit_j63
  simp only [a1, a2, a3, a4, a5, a6, a7, a8, nI_1, z0, z1, if_true, if_false]
  by_cases c1 : ph = 3
  · rw [if_pos c1, if_pos (by omega)]
  rw [if_neg c1]
  by_cases c2 : dg = 3
  · rw [if_pos c2, if_pos (by omega)]
  rw [if_neg c2]
  by_cases c3 : dg = 0
  · simp only [if_pos c3, if_pos (show dg ≤ 0 by omega)]
    by_cases c4 : u = 0
    · rw [if_pos c4]
      by_cases c5 : ph = 2
      · rw [if_pos c5, if_neg (by omega)]
      · rw [if_neg c5, if_pos (by omega)]
    · rw [if_neg c4, if_neg (by omega)]
  · simp only [if_neg c3, if_neg (show ¬ dg ≤ 0 by omega)]
    by_cases c4 : vl = 0
    · rw [if_pos c4, if_pos (by omega)]
    · rw [if_neg c4, if_neg (by omega)]
theorem takes_s {ch ph dg vl sr : Nat} {W V S F : Nat → Int32} (hc : 33 ≤ ch ∧ ch ≤ 126) (hp : ph ≤ 3) (hd : dg ≤ 3) (hv : vl ≤ 999) (hs : sr ≤ 6) (hs5 : ph ≠ 3 → sr ≤ 5) :
    (¬ OKs ch ph dg vl sr → fX1_takes (nI ch) (nI ph) (nI dg) (nI vl) (nI sr) W V S F = some (0, nI ph, nI dg, nI vl, nI sr, W, V, S, F)) ∧
    (OKs ch ph dg vl sr → 48 ≤ ch ∧ ch ≤ 57 → fX1_takes (nI ch) (nI ph) (nI dg) (nI vl) (nI sr) W V S F = some (1, nI ph, nI (dg + 1), nI (10 * vl + (ch - 48)), nI sr, W, V, S, F)) ∧
    (OKs ch ph dg vl sr → ch = 43 → fX1_takes (nI ch) (nI ph) (nI dg) (nI vl) (nI sr) W V S F = some (1, nI 1, nI 0, nI 0, nI sr, W, V, S, upd F sr (nI vl))) ∧
    (OKs ch ph dg vl sr → ch = 61 → fX1_takes (nI ch) (nI ph) (nI dg) (nI vl) (nI sr) W V S F = some (1, nI 2, nI 0, nI 0, nI sr, W, V, upd S sr (nI vl), F)) ∧
    (OKs ch ph dg vl sr → ch = 100 → fX1_takes (nI ch) (nI ph) (nI dg) (nI vl) (nI sr) W V S F = some (1, nI 3, nI dg, nI vl, nI (sr + 1), upd W sr (nI vl), upd V sr (nI 1), S, F)) ∧
    (OKs ch ph dg vl sr → ch = 112 → fX1_takes (nI ch) (nI ph) (nI dg) (nI vl) (nI sr) W V S F = some (1, nI 3, nI dg, nI vl, nI (sr + 1), upd W sr (nI vl), upd V sr (nI 0), S, F)) ∧
    (OKs ch ph dg vl sr → ch = 59 → fX1_takes (nI ch) (nI ph) (nI dg) (nI vl) (nI sr) W V S F = some (1, nI 0, nI 0, nI 0, nI sr, W, V, S, F)) := by
  have a1 : ((nI ph : Int32) = 3) = (ph = 3) := eqN (b := 3) (by omega) (by omega)
  have a2 : ((nI ph : Int32) = 2) = (ph = 2) := eqN (b := 2) (by omega) (by omega)
  have a3 : ((nI ph : Int32) = 1) = (ph = 1) := eqN (b := 1) (by omega) (by omega)
  have a4 : ((nI ph : Int32) = 0) = (ph = 0) := eqN (b := 0) (by omega) (by omega)
  have a5 : ((nI dg : Int32) = 0) = (dg = 0) := eqN (b := 0) (by omega) (by omega)
  have a6 : ((nI sr : Int32) < 6) = (sr < 6) := ltN (b := 6) (by omega) (by omega)
  have b1 : ((nI ch : Int32) = 43) = (ch = 43) := eqN (b := 43) (by omega) (by omega)
  have b2 : ((nI ch : Int32) = 59) = (ch = 59) := eqN (b := 59) (by omega) (by omega)
  have b3 : ((nI ch : Int32) = 61) = (ch = 61) := eqN (b := 61) (by omega) (by omega)
  have b4 : ((nI ch : Int32) = 100) = (ch = 100) := eqN (b := 100) (by omega) (by omega)
  have b5 : ((nI ch : Int32) = 112) = (ch = 112) := eqN (b := 112) (by omega) (by omega)
  unfold fX1_takes
  rw [dig_c (by omega), bnd1_s]
  by_cases hdg : 48 ≤ ch ∧ ch ≤ 57
  · simp only [if01_t hdg]
    rw [show (nI ch - 48 : Int32) = nI (ch - 48) from pk_sub (b := 48) hdg.1, takesD (by omega) hp hd hv]
    refine ⟨fun h => ?_, fun h _ => ?_, fun _ h => by omega, fun _ h => by omega, fun _ h => by omega, fun _ h => by omega, fun _ h => by omega⟩
    · unfold OKs at h
      rw [if_pos (by omega)]
      simp only [bnd3_s, nb0, if_true]
    · unfold OKs at h
      rw [if_neg (by omega)]
      simp only [bnd3_s, nb1, if_true]
  · simp only [if01_f hdg]
    unfold fX1_endsSpeech fX1_endsSuit fX1_startsSuit fX1_startNumber
    simp only [a1, a2, a3, a4, a5, a6, b1, b2, b3, b4, b5]
    refine ⟨fun h => ?_, fun _ h => absurd h hdg, fun h hch => ?_, fun h hch => ?_, fun h hch => ?_, fun h hch => ?_, fun h hch => ?_⟩
    · unfold OKs at h
      by_cases c1 : ch = 43
      · simp only [if_pos c1]
        by_cases d1 : ph = 0
        · simp only [if_pos d1, if_pos (show dg = 0 by omega), bnd5_s, nb0, if_true]
        · simp only [if_neg d1, bnd5_s, nb0, if_true]
      simp only [if_neg c1]
      by_cases c2 : ch = 59
      · simp only [if_pos c2]
        by_cases d1 : ph = 3
        · simp only [if_pos d1, if_neg (show ¬ sr < 6 by omega), bnd4_s, nb0, if_true]
        · simp only [if_neg d1, bnd4_s, nb0, if_true]
      simp only [if_neg c2]
      by_cases c3 : ch = 61
      · simp only [if_pos c3]
        by_cases d1 : ph = 1
        · simp only [if_pos d1, if_pos (show dg = 0 by omega), bnd5_s, nb0, if_true]
        · simp only [if_neg d1, bnd5_s, nb0, if_true]
      simp only [if_neg c3]
      by_cases c4 : ch = 100
      · simp only [if_pos c4]
        by_cases d1 : ph = 2
        · simp only [if_pos d1, if_pos (show dg = 0 by omega), bnd5_s, nb0, if_true]
        · simp only [if_neg d1, bnd5_s, nb0, if_true]
      simp only [if_neg c4]
      by_cases c5 : ch = 112
      · simp only [if_pos c5]
        by_cases d1 : ph = 2
        · simp only [if_pos d1, if_pos (show dg = 0 by omega), bnd5_s, nb0, if_true]
        · simp only [if_neg d1, bnd5_s, nb0, if_true]
      simp only [if_neg c5]
    · unfold OKs at h
      simp only [if_pos hch, if_pos (show ph = 0 by omega), if_neg (show ¬ dg = 0 by omega), put_nI (show sr < 6 by omega) (show 6 < 2 ^ 31 by omega), bnd1_s, bnd3_s, bnd5_s, nb1, if_true]
      rfl
    · unfold OKs at h
      simp only [if_neg (show ¬ ch = 43 by omega), if_neg (show ¬ ch = 59 by omega), if_pos hch, if_pos (show ph = 1 by omega), if_neg (show ¬ dg = 0 by omega), put_nI (show sr < 6 by omega) (show 6 < 2 ^ 31 by omega), bnd1_s, bnd3_s, bnd5_s, nb1, if_true]
      rfl
    · unfold OKs at h
      simp only [if_neg (show ¬ ch = 43 by omega), if_neg (show ¬ ch = 59 by omega), if_neg (show ¬ ch = 61 by omega), if_pos hch, if_pos (show ph = 2 by omega), if_neg (show ¬ dg = 0 by omega), put_nI (show sr < 6 by omega) (show 6 < 2 ^ 31 by omega), bnd1_s, bnd5_s, nb1, if_true, nI_1]
      rfl
    · unfold OKs at h
      simp only [if_neg (show ¬ ch = 43 by omega), if_neg (show ¬ ch = 59 by omega), if_neg (show ¬ ch = 61 by omega), if_neg (show ¬ ch = 100 by omega), if_pos hch, if_pos (show ph = 2 by omega), if_neg (show ¬ dg = 0 by omega), put_nI (show sr < 6 by omega) (show 6 < 2 ^ 31 by omega), bnd1_s, bnd5_s, nb1, if_true, nI_1]
      rfl
    · unfold OKs at h
      simp only [if_neg (show ¬ ch = 43 by omega), if_pos hch, if_pos (show ph = 3 by omega), if_pos (show sr < 6 by omega), bnd3_s, bnd4_s, nb1, if_true]
      rfl
