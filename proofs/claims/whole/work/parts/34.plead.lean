/-! a day, told in Nat: r suits from the i-th of the order on, sec seconds are over -/
def PLn (dur : Nat → Nat) (F : Nat) : Nat → Nat → Nat → Nat
  | 0, _, _ => 0
  | r + 1, i, sec => if sec + dur i ≤ F then PLn dur F r (i + 1) (sec + dur i) + 1 else 0
def SMn (f : Nat → Nat) : Nat → Nat → Nat
  | 0, _ => 0
  | r + 1, i => f i + SMn f r (i + 1)
theorem PLn_le (dur : Nat → Nat) (F : Nat) : ∀ r i sec, PLn dur F r i sec ≤ r
  | 0, _, _ => Nat.le_refl _
  | r + 1, i, sec => by
    unfold PLn
    have := PLn_le dur F r (i + 1) (sec + dur i)
    split <;> omega
theorem SMn_le {f : Nat → Nat} {c : Nat} : ∀ r i, (∀ k, i ≤ k → k < i + r → f k ≤ c) → SMn f r i ≤ r * c
  | 0, _, _ => Nat.le_of_eq (by simp [SMn])
  | r + 1, i, h => by
    unfold SMn
    have h1 := h i (Nat.le_refl _) (by omega)
    have h2 := SMn_le r (i + 1) (fun k a b => h k (by omega) (by omega))
    rw [Nat.succ_mul]
    omega
theorem SMn_cong {f g : Nat → Nat} : ∀ r i, (∀ k, i ≤ k → k < i + r → f k = g k) → SMn f r i = SMn g r i
  | 0, _, _ => rfl
  | r + 1, i, h => by
    unfold SMn
    rw [h i (Nat.le_refl _) (by omega), SMn_cong r (i + 1) (fun k a b => h k (by omega) (by omega))]
theorem PLn_cong {f g : Nat → Nat} (F : Nat) : ∀ r i sec, (∀ k, i ≤ k → k < i + r → f k = g k) → PLn f F r i sec = PLn g F r i sec
  | 0, _, _, _ => rfl
  | r + 1, i, sec, h => by
    unfold PLn
    rw [h i (Nat.le_refl _) (by omega), PLn_cong F r (i + 1) _ (fun k a b => h k (by omega) (by omega))]
/-- which suit sinks: its number, or NONE -/
def SKn (ro : Nat → Nat) (k r i : Nat) : Int32 := if k < r then nI (ro (i + k)) else (-6)
/-- what the one that sinks brings -/
def SWn (wo ro : Nat → Nat) (k r i : Nat) : Nat := if k < r then wo (ro (i + k)) else 0
/-- a bench as the class and the reference hold it: duration parts, worths, winners, by the places of an order -/
def BD (n : Nat) (ro fi se wo wi ex : Nat → Nat) (row cfi cse cwo cwi : Nat → Int32) : Prop :=
  n ≤ 6 ∧ ∀ i, i < n → ro i < 6 ∧ row i = nI (ro i) ∧ cfi (ro i) = nI (fi (ro i)) ∧ cse (ro i) = nI (se (ro i)) ∧ cwo (ro i) = nI (wo (ro i)) ∧ cwi (ro i) = nI (wi (ro i)) ∧ wi (ro i) ≤ 1 ∧ fi (ro i) ≤ 999 ∧ se (ro i) ≤ 999 ∧ ex (ro i) ≤ 999 ∧ wo (ro i) ≤ 999
abbrev DUR (fi se ex ro : Nat → Nat) (i : Nat) : Nat := fi (ro i) + (se (ro i) + ex (ro i))
abbrev PLf (wo wi ro : Nat → Nat) (i : Nat) : Nat := if wi (ro i) = 0 then wo (ro i) else 0
abbrev DEf (wo wi ro : Nat → Nat) (i : Nat) : Nat := if wi (ro i) = 0 then 0 else wo (ro i)
theorem nI_le_iff {a b : Nat} (ha : a < 2 ^ 31) (hb : b < 2 ^ 31) : nI a ≤ nI b ↔ a ≤ b := nI_leI ha hb
theorem decide_c {q dec wos pl de : Nat} {wo wi : Nat → Nat} {cwo cwi : Nat → Int32} (hq : q < 6) (h1 : cwo q = nI (wo q)) (h2 : cwi q = nI (wi q)) (h3 : wi q ≤ 1) :
    fX2_decide (nI q) (nI dec) (nI wos) (nI pl) (nI de) cwo cwi = some (nI (dec + 1), nI (wos + wo q), nI (pl + if wi q = 0 then wo q else 0), nI (de + if wi q = 0 then 0 else wo q)) := by
  unfold fX2_decide
  rw [at_nI hq (by omega), at_nI hq (by omega)]
  simp only [bnd1_s, h1, h2]
  by_cases h : wi q = 0
  · rw [if_pos (by rw [h]; rfl), if_pos h, if_pos h, nI_1, nI_add, nI_add]; rfl
  · rw [if_neg (nI_ne0 (by omega) (by omega)), if_neg h, if_neg h, nI_1, nI_add, nI_add]; rfl
theorem sink_c {q l pl po : Nat} {wo : Nat → Nat} {cwo : Nat → Int32} (hq : q < 6) (hl : l ≤ 1) (h1 : cwo q = nI (wo q)) :
    fX2_sink (nI q) (nI l) (nI pl) (nI po) cwo = some (nI q, nI (pl + if l = 0 then wo q else 0), nI (po + if l = 0 then 0 else wo q)) := by
  unfold fX2_sink
  rw [at_nI hq (by omega)]
  simp only [bnd1_s, h1]
  by_cases h : l = 0
  · rw [if_pos (by rw [h]; rfl), if_pos h, if_pos h, nI_add]; rfl
  · rw [if_neg (nI_ne0 (by omega) (by omega)), if_neg h, if_neg h, nI_add]; rfl
theorem plead_c {n l F : Nat} {ro fi se wo wi ex : Nat → Nat} {row cfi cse cwo cwi : Nat → Int32} {x5 x6 : Int32} (hB : BD n ro fi se wo wi ex row cfi cse cwo cwi) (hF : F < 10000) (hl : l ≤ 1)
    (hx : ∀ q, q < 6 → (if (((x5 >>> (nI q &&& 31)) &&& 1) : Int32) = 0 then (0 : Int32) else x6) = nI (ex q)) :
    ∀ (r i sec dec pl de wos fuel : Nat), i + r = n → r + 2 ≤ fuel → sec ≤ 3000 * i →
      fX2_plead_l37 (nI F) x5 x6 (nI n) (nI l) row cfi cse cwo cwi 6 fuel (nI sec) (nI i) (nI dec) (-6) (nI pl) (nI de) 0 (nI wos) =
        some (nI (dec + PLn (DUR fi se ex ro) F r i sec), SKn ro (PLn (DUR fi se ex ro) F r i sec) r i,
          nI (pl + SMn (PLf wo wi ro) (PLn (DUR fi se ex ro) F r i sec) i + (if l = 0 then SWn wo ro (PLn (DUR fi se ex ro) F r i sec) r i else 0)),
          nI (de + SMn (DEf wo wi ro) (PLn (DUR fi se ex ro) F r i sec) i),
          nI (if l = 0 then 0 else SWn wo ro (PLn (DUR fi se ex ro) F r i sec) r i),
          nI (wos + SMn (fun i => wo (ro i)) (PLn (DUR fi se ex ro) F r i sec) i)) := by
  obtain ⟨hn, hB⟩ := hB
  intro r
  induction r with
  | zero =>
    intro i sec dec pl de wos fuel hi hf hs
    obtain ⟨f, rfl⟩ : ∃ f, fuel = f + 1 := ⟨fuel - 1, by omega⟩
    rw [fX2_plead_l37, if_pos (nI_le (by omega) (by omega))]
    simp only [PLn, SMn, SKn, SWn, Nat.lt_irrefl, if_false, Nat.add_zero, ite_self]
    rfl
  | succ r ih =>
    intro i sec dec pl de wos fuel hi hf hs
    obtain ⟨f, rfl⟩ : ∃ f, fuel = f + 2 := ⟨fuel - 2, by omega⟩
    obtain ⟨q1, q2, q3, q4, q5, q6, q7, q8, q9, q10, q11⟩ := hB i (by omega)
    rw [fX2_plead_l37, if_neg (nI_ge (by omega) (by omega)), if_pos rfl, at_nI (by omega) (by omega), bnd1_s, q2]
    unfold fX0_lasts
    rw [at_nI q1 (by omega), at_nI q1 (by omega), bnd1_s, bnd1_s, bnd1_s, q3, q4, nI_add]
    have hx1 := hx (ro i) q1
    have hdur : nI sec + (nI (fi (ro i) + se (ro i)) + nI (ex (ro i))) = nI (sec + DUR fi se ex ro i) := by
      rw [nI_add, nI_add]; congr 1; show _ = sec + (fi (ro i) + (se (ro i) + ex (ro i))); omega
    have key : ∀ s2 : Int32, s2 = nI (ex (ro i)) → fX2_plead_j87 (nI F) (nI dec) (-6) (nI pl) (nI de) 0 (nI wos) (nI l) cwo cwi (nI i) (nI (ro i)) (nI sec) (nI (fi (ro i) + se (ro i))) s2 (fX2_plead_l37 (nI F) x5 x6 (nI n) (nI l) row cfi cse cwo cwi 6 (f + 1)) = some (nI (dec + PLn (DUR fi se ex ro) F (r + 1) i sec), SKn ro (PLn (DUR fi se ex ro) F (r + 1) i sec) (r + 1) i,
          nI (pl + SMn (PLf wo wi ro) (PLn (DUR fi se ex ro) F (r + 1) i sec) i + (if l = 0 then SWn wo ro (PLn (DUR fi se ex ro) F (r + 1) i sec) (r + 1) i else 0)),
          nI (de + SMn (DEf wo wi ro) (PLn (DUR fi se ex ro) F (r + 1) i sec) i),
          nI (if l = 0 then 0 else SWn wo ro (PLn (DUR fi se ex ro) F (r + 1) i sec) (r + 1) i),
          nI (wos + SMn (fun i => wo (ro i)) (PLn (DUR fi se ex ro) F (r + 1) i sec) i)) := by
      intro s2 hs2
      unfold fX2_plead_j87
      rw [hs2, hdur]
      have hd : DUR fi se ex ro i ≤ 2997 := by show fi (ro i) + (se (ro i) + ex (ro i)) ≤ 2997; omega
      by_cases hle : sec + DUR fi se ex ro i ≤ F
      · rw [if_pos ((nI_le_iff (by omega) (by omega)).mpr hle), decide_c q1 q5 q6 q7, bnd4_s, nI_1, ih (i + 1) _ _ _ _ _ _ (by omega) (by omega) (by omega)]
        have e : PLn (DUR fi se ex ro) F (r + 1) i sec = PLn (DUR fi se ex ro) F r (i + 1) (sec + DUR fi se ex ro i) + 1 := by rw [PLn, if_pos hle]
        rw [e]
        have e2 : ∀ k, SKn ro (k + 1) (r + 1) i = SKn ro k r (i + 1) := fun k => by
          unfold SKn
          simp only [Nat.add_lt_add_iff_right, show i + (k + 1) = i + 1 + k by omega]
        have e3 : ∀ k, SWn wo ro (k + 1) (r + 1) i = SWn wo ro k r (i + 1) := fun k => by
          unfold SWn
          simp only [Nat.add_lt_add_iff_right, show i + (k + 1) = i + 1 + k by omega]
        rw [e2, e3]
        simp only [SMn]
        have hpf : PLf wo wi ro i = if wi (ro i) = 0 then wo (ro i) else 0 := rfl
        have hdf : DEf wo wi ro i = if wi (ro i) = 0 then 0 else wo (ro i) := rfl
        refine congrArg some ?_
        refine Prod.ext (by show nI _ = nI _; congr 1; omega) (Prod.ext rfl (Prod.ext (by show nI _ = nI _; congr 1; omega) (Prod.ext (by show nI _ = nI _; congr 1; omega) (Prod.ext rfl (by show nI _ = nI _; congr 1; omega)))))
      · rw [if_neg (fun q => hle ((nI_le_iff (by omega) (by omega)).mp q)), show (0 : Int32) = nI 0 from rfl, sink_c q1 hl q5, bnd3_s, nI_1, fX2_plead_l37]
        have e : PLn (DUR fi se ex ro) F (r + 1) i sec = 0 := by rw [PLn, if_neg hle]
        rw [e]
        simp only [SMn, SKn, SWn, Nat.zero_lt_succ, if_true, Nat.add_zero]
        have hne : ¬ (nI (ro i) : Int32) = (-6) := b_ne (z := -6) (by decide) (by rw [b_nI (by omega)]; omega)
        rw [if_neg hne, ite_self]
        refine congrArg some ?_
        refine Prod.ext rfl (Prod.ext rfl (Prod.ext rfl (Prod.ext rfl (Prod.ext (by show nI _ = nI _; congr 1; omega) rfl))))
    by_cases hb : (((x5 >>> (nI (ro i) &&& 31)) &&& 1) : Int32) = 0
    · rw [if_pos hb]; rw [if_pos hb] at hx1; exact key 0 hx1
    · rw [if_neg hb]; rw [if_neg hb] at hx1; exact key x6 hx1
