/-- what a side has: 0 plaintiffs, 1 defendants, 2 the poor box, 3 worths decided -/
def HV (l : Nat) (wo wi ro : Nat → Nat) (K r i k : Nat) : Nat :=
  if k = 0 then SMn (PLf wo wi ro) K i + (if l = 0 then SWn wo ro K r i else 0)
  else if k = 1 then SMn (DEf wo wi ro) K i
  else if k = 2 then (if l = 0 then 0 else SWn wo ro K r i)
  else SMn (fun i => wo (ro i)) K i
theorem nI_inF {c N : Nat} (h : c < N) (hN : N < 2 ^ 31) : ¬ (nI c < (0 : Int32) ∨ N ≤ Int32.toNatClampNeg (nI c)) := nI_in h hN
theorem nI_inG {c N : Nat} (h : c < N) (hN : N < 2 ^ 31) : ¬ (nI c < (0 : Int32) ∨ N ≤ c) := fun q => q.elim (fun q => nI_pos (by omega) q) (fun q => by omega)
theorem lengthOf_m {q : Nat} {fi se ex : Nat → Nat} {mfi mse mex : Nat → Int32} (hq : q < 6) (h1 : mfi q = nI (fi q)) (h2 : mse q = nI (se q)) (h3 : mex q = nI (ex q)) : fX4_lengthOf (nI q) mfi mse mex = some (nI (fi q + (se q + ex q))) := by
  unfold fX4_lengthOf
  simp only [if_pos (nI_inG hq (show 6 < 2 ^ 31 by omega)), nI_clamp (show q < 2 ^ 31 by omega), h1, h2, h3, nI_add, Nat.add_assoc]
theorem skn_s (ro : Nat → Nat) (k r i : Nat) : SKn ro (k + 1) (r + 1) i = SKn ro k r (i + 1) := by
  unfold SKn
  simp only [Nat.add_lt_add_iff_right, show i + (k + 1) = i + 1 + k by omega]
theorem swn_s (wo ro : Nat → Nat) (k r i : Nat) : SWn wo ro (k + 1) (r + 1) i = SWn wo ro k r (i + 1) := by
  unfold SWn
  simp only [Nat.add_lt_add_iff_right, show i + (k + 1) = i + 1 + k by omega]
theorem j114_m {n l i : Nat} {ro wo : Nat → Nat} {by' mwo : Nat → Int32} {has : Nat → Int64} {hv : Nat → Nat} (hn : n ≤ 6) (hi : i ≤ n) (hl : l ≤ 1) (hB : i < n → ro i < 6 ∧ by' i = nI (ro i) ∧ mwo (ro i) = nI (wo (ro i)) ∧ wo (ro i) ≤ 999) (hh : ∀ k, k < 4 → has k = lN (hv k)) :
    ∃ has', fX4_plead_j114 (nI i) (-6) (nI n) (nI l) by' has mwo = some (nI i, (if i < n then nI (ro i) else (-6)), has') ∧ ∀ k, k < 4 → has' k = lN (hv k + (if i < n then (if k = 0 then (if l = 0 then wo (ro i) else 0) else if k = 2 then (if l = 0 then 0 else wo (ro i)) else 0) else 0)) := by
  unfold fX4_plead_j114
  by_cases hin : i < n
  · obtain ⟨q1, q2, q3, q4⟩ := hB hin
    rw [if_neg (nI_ge hin (by omega)), if_pos (nI_inF (show i < 6 by omega) (by omega)), nI_clamp (by omega), q2]
    simp only [if_pos hin]
    have h0 : ¬ ((0 : Int32) < 0 ∨ 4 ≤ Int32.toNatClampNeg 0) := by decide
    have h2 : ¬ ((2 : Int32) < 0 ∨ 4 ≤ Int32.toNatClampNeg 2) := by decide
    by_cases hl0 : l = 0
    · rw [if_pos (by rw [hl0]; rfl)]
      unfold fX4_plead_j154
      simp only [if_pos h0, if_pos (nI_inG q1 (show 6 < 2 ^ 31 by omega)), nI_clamp (show ro i < 2 ^ 31 by omega), q3, if_pos hl0]
      refine ⟨_, rfl, fun k hk => ?_⟩
      show vp_updL has 0 (has 0 + Int32.toInt64 (nI (wo (ro i)))) k = _
      unfold vp_updL
      by_cases hk0 : k = 0
      · subst hk0
        rw [if_pos rfl, if_pos rfl, hh 0 hk, nI_l (by omega), lN_add]
      · rw [if_neg hk0, if_neg hk0, hh k hk]
        simp only [ite_self, Nat.add_zero]
    · rw [if_neg (nI_ne0 (by omega) (by omega))]
      unfold fX4_plead_j154
      simp only [if_pos h2, if_pos (nI_inG q1 (show 6 < 2 ^ 31 by omega)), nI_clamp (show ro i < 2 ^ 31 by omega), q3, if_neg hl0]
      refine ⟨_, rfl, fun k hk => ?_⟩
      show vp_updL has 2 (has 2 + Int32.toInt64 (nI (wo (ro i)))) k = _
      unfold vp_updL
      by_cases hk2 : k = 2
      · subst hk2
        rw [if_pos rfl, if_neg (by omega), if_pos rfl, hh 2 hk, nI_l (by omega), lN_add]
      · rw [if_neg hk2, if_neg hk2, hh k hk]
        simp only [ite_self, Nat.add_zero]
  · rw [if_pos (nI_le (by omega) (by omega))]
    simp only [if_neg hin, Nat.add_zero]
    exact ⟨has, rfl, hh⟩
/-- the reference's bench: as the class's, and what is more -/
def BM (n : Nat) (ro fi se wo wi ex : Nat → Nat) (by' mfi mse mwo mwi mex : Nat → Int32) : Prop :=
  BD n ro fi se wo wi ex by' mfi mse mwo mwi ∧ ∀ i, i < n → mex (ro i) = nI (ex (ro i))
theorem plead_m {n l F : Nat} {ro fi se wo wi ex : Nat → Nat} {by' mfi mse mwo mwi mex : Nat → Int32} (hB : BM n ro fi se wo wi ex by' mfi mse mwo mwi mex) (hF : F < 10000) (hl : l ≤ 1) :
    ∀ (r i sec fuel : Nat) (has : Nat → Int64) (hv : Nat → Nat), i + r = n → r + 1 ≤ fuel → sec ≤ 3000 * i → (∀ k, k < 4 → has k = lN (hv k)) →
      ∃ has', fX4_plead_l13 (-6) (nI n) (nI F) (nI l) by' mfi mse mex mwi mwo fuel (nI sec) (nI i) has = some (nI (i + PLn (DUR fi se ex ro) F r i sec), SKn ro (PLn (DUR fi se ex ro) F r i sec) r i, has') ∧
        ∀ k, k < 4 → has' k = lN (hv k + HV l wo wi ro (PLn (DUR fi se ex ro) F r i sec) r i k) := by
  obtain ⟨⟨hn, hB⟩, hX⟩ := hB
  intro r
  induction r with
  | zero =>
    intro i sec fuel has hv hi hf hs hh
    obtain ⟨f, rfl⟩ : ∃ f, fuel = f + 1 := ⟨fuel - 1, by omega⟩
    have hin : i = n := by omega
    obtain ⟨has', e1, e2⟩ := j114_m (n := n) (l := l) (i := i) (ro := ro) (wo := wo) (by' := by') (mwo := mwo) hn (by omega) hl (fun h => absurd h (by omega)) hh
    rw [if_neg (by omega)] at e1
    refine ⟨has', ?_, fun k hk => ?_⟩
    · rw [fX4_plead_l13, if_pos (nI_le (by omega) (by omega)), e1]
      simp only [PLn, SKn, Nat.lt_irrefl, if_false, Nat.add_zero]
    · rw [e2 k hk, if_neg (by omega)]
      simp only [PLn, HV, SMn, SWn, Nat.lt_irrefl, if_false, ite_self, Nat.add_zero]
  | succ r ih =>
    intro i sec fuel has hv hi hf hs hh
    obtain ⟨f, rfl⟩ : ∃ f, fuel = f + 1 := ⟨fuel - 1, by omega⟩
    obtain ⟨q1, q2, q3, q4, q5, q6, q7, q8, q9, q10, q11⟩ := hB i (by omega)
    have q12 := hX i (by omega)
    have hd : DUR fi se ex ro i ≤ 2997 := by show fi (ro i) + (se (ro i) + ex (ro i)) ≤ 2997; omega
    rw [fX4_plead_l13, if_neg (nI_ge (by omega) (by omega)), if_pos (nI_inF (show i < 6 by omega) (by omega)), nI_clamp (by omega), q2, lengthOf_m q1 q3 q4 q12, bnd1_s, nI_add]
    by_cases hle : sec + DUR fi se ex ro i ≤ F
    · have hle0 := hle
      have h3 : ¬ ((3 : Int32) < 0 ∨ 4 ≤ Int32.toNatClampNeg 3) := by decide
      have hw : wi (ro i) < 4 := by omega
      rw [if_neg (show ¬ nI F < nI (sec + (fi (ro i) + (se (ro i) + ex (ro i)))) from nI_nlt hle (by omega)), if_pos (nI_inG (show i < 6 by omega) (by omega)), bnd1_s]
      simp only [if_pos (nI_inG q1 (show 6 < 2 ^ 31 by omega)), nI_clamp (show ro i < 2 ^ 31 by omega), q6, if_pos (nI_inG hw (show 4 < 2 ^ 31 by omega)), nI_clamp (show wi (ro i) < 2 ^ 31 by omega), if_pos h3, q5, nI_l (show wo (ro i) < 2 ^ 31 by omega), nI_add, nI_1]
      obtain ⟨has', e1, e2⟩ := ih (i + 1) (sec + (fi (ro i) + (se (ro i) + ex (ro i)))) f (vp_updL (vp_updL has (wi (ro i)) (has (wi (ro i)) + lN (wo (ro i)))) (Int32.toNatClampNeg 3) (vp_updL has (wi (ro i)) (has (wi (ro i)) + lN (wo (ro i))) (Int32.toNatClampNeg 3) + lN (wo (ro i))))
        (fun k => if k = 3 then hv 3 + wo (ro i) else if k = wi (ro i) then hv k + wo (ro i) else hv k) (by omega) (by omega) (by omega) (fun k hk => by
          show vp_updL (vp_updL has (wi (ro i)) (has (wi (ro i)) + lN (wo (ro i)))) 3 (vp_updL has (wi (ro i)) (has (wi (ro i)) + lN (wo (ro i))) 3 + lN (wo (ro i))) k = _
          unfold vp_updL
          by_cases hk3 : k = 3
          · rw [if_pos hk3, if_pos hk3, if_neg (by omega), hh 3 (by omega), lN_add]
          · rw [if_neg hk3, if_neg hk3]
            by_cases hkw : k = wi (ro i)
            · rw [if_pos hkw, if_pos hkw, ← hkw, hh k hk, lN_add]
            · rw [if_neg hkw, if_neg hkw, hh k hk])
      obtain ⟨K, hK⟩ : ∃ K, K = PLn (DUR fi se ex ro) F r (i + 1) (sec + (fi (ro i) + (se (ro i) + ex (ro i)))) := ⟨_, rfl⟩
      have e : PLn (DUR fi se ex ro) F (r + 1) i sec = K + 1 := by rw [hK, PLn, if_pos hle]
      rw [← hK] at e1 e2
      refine ⟨has', ?_, fun k hk => ?_⟩
      · rw [e1, e, skn_s]
        refine congrArg some (Prod.ext (by show nI _ = nI _; congr 1; show i + 1 + _ = i + (_ + 1); omega) rfl)
      · rw [e2 k hk, e]
        unfold HV
        rw [swn_s]
        simp only [SMn]
        have hpf : PLf wo wi ro i = if wi (ro i) = 0 then wo (ro i) else 0 := rfl
        have hdf : DEf wo wi ro i = if wi (ro i) = 0 then 0 else wo (ro i) := rfl
        congr 1
        have hk' : k = 0 ∨ k = 1 ∨ k = 2 ∨ k = 3 := by omega
        have hw' : wi (ro i) = 0 ∨ wi (ro i) = 1 := by omega
        rcases hk' with rfl | rfl | rfl | rfl <;> rcases hw' with hw' | hw' <;> simp only [hw', hpf, hdf, if_true, if_false, Nat.reduceEqDiff, reduceIte] <;> first | omega | (simp; omega) | simp
    · rw [if_pos (show nI F < nI (sec + (fi (ro i) + (se (ro i) + ex (ro i)))) from nI_lt (by show F < sec + DUR fi se ex ro i; omega) (by omega))]
      have e : PLn (DUR fi se ex ro) F (r + 1) i sec = 0 := by rw [PLn, if_neg hle]
      obtain ⟨has', e1, e2⟩ := j114_m (n := n) (l := l) (i := i) (ro := ro) (wo := wo) (by' := by') (mwo := mwo) hn (by omega) hl (fun _ => ⟨q1, q2, q5, q11⟩) hh
      rw [if_pos (by omega)] at e1
      refine ⟨has', ?_, fun k hk => ?_⟩
      · rw [e1, e]
        simp only [SKn, Nat.zero_lt_succ, if_true, Nat.add_zero]
      · rw [e2 k hk, e, if_pos (by omega)]
        simp only [HV, SMn, SWn, Nat.zero_lt_succ, if_true, Nat.add_zero, Nat.zero_add]
        congr 1
        have hk' : k = 0 ∨ k = 1 ∨ k = 2 ∨ k = 3 := by omega
        rcases hk' with rfl | rfl | rfl | rfl <;> simp
