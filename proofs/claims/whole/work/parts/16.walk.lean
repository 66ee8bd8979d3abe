set_option maxHeartbeats 4000000 in
set_option maxRecDepth 100000 in
theorem tX3_year (l : Launch) (D : va_G) (cI cJ cZ cB : ClassId) (a_this : Nat) (a_now : Nat) (a_sitting : Nat) (a_now_row : Nat) (a_now_first : Nat) (a_now_second : Nat) (a_now_worth : Nat) (a_now_winner : Nat) (o_this_pad : Value) (o_this_signs : Value) (o_this_images : Value) (o_this_reader : Value) (o_this_trial : Value) (o_this_best : Value) (o_now_weight : Value) (o_now_sights : Value) (o_now_full : Value) (o_now_sightWeight : Value) (o_now_sightMany : Value) (x1 : Int32) (x2 : Int32) (x3 : Int32) (v_now_hole : Int32) (v_now_held : Int32) (v_sitting_decided : Int32) (v_sitting_sunk : Int32) (v_sitting_plaintiffs : Int32) (v_sitting_defendants : Int32) (v_sitting_poor : Int32) (v_sitting_worths : Int32) (v_now_many : Int32) (v_now_law : Int32) (v_now_row : Nat → Int32) (v_now_first : Nat → Int32) (v_now_second : Nat → Int32) (v_now_worth : Nat → Int32) (v_now_winner : Nat → Int32) (r0 : Int32) (w_sitting_decided : Int32) (w_sitting_sunk : Int32) (w_sitting_plaintiffs : Int32) (w_sitting_defendants : Int32) (w_sitting_poor : Int32) (w_sitting_worths : Int32) (hf : fX3_year x1 x2 x3 v_now_hole v_now_held v_sitting_decided v_sitting_sunk v_sitting_plaintiffs v_sitting_defendants v_sitting_poor v_sitting_worths v_now_many v_now_law v_now_row v_now_first v_now_second v_now_worth v_now_winner = some (r0, w_sitting_decided, w_sitting_sunk, w_sitting_plaintiffs, w_sitting_defendants, w_sitting_poor, w_sitting_worths)) : MW l yX3_year wsX3_year { frames := 3, cells := 0, slots := 0, locals := 72 } D cI cJ cZ cB [(a_this, .inr (3, [o_this_pad, o_this_signs, .ref a_now, o_this_images, .ref a_sitting, o_this_reader, o_this_trial, o_this_best])), (a_now, .inr (0, (o_now_weight :: .int v_now_hole :: .int v_now_held :: .int v_now_law :: .int v_now_many :: o_now_sights :: o_now_full :: .ref a_now_first :: .ref a_now_second :: .ref a_now_worth :: .ref a_now_winner :: .ref a_now_row :: o_now_sightWeight :: o_now_sightMany :: []))), (a_sitting, .inr (2, [.int v_sitting_decided, .int v_sitting_sunk, .int v_sitting_plaintiffs, .int v_sitting_defendants, .int v_sitting_poor, .int v_sitting_worths])), (a_now_row, .inl (cI, 6, .inl v_now_row)), (a_now_first, .inl (cI, 6, .inl v_now_first)), (a_now_second, .inl (cI, 6, .inl v_now_second)), (a_now_worth, .inl (cI, 6, .inl v_now_worth)), (a_now_winner, .inl (cI, 6, .inl v_now_winner))] [.ref a_this, .int x1, .int x2, .int x3] (QWi D r0 [(a_this, .inr (3, [o_this_pad, o_this_signs, .ref a_now, o_this_images, .ref a_sitting, o_this_reader, o_this_trial, o_this_best])), (a_now, .inr (0, (o_now_weight :: .int v_now_hole :: .int v_now_held :: .int v_now_law :: .int v_now_many :: o_now_sights :: o_now_full :: .ref a_now_first :: .ref a_now_second :: .ref a_now_worth :: .ref a_now_winner :: .ref a_now_row :: o_now_sightWeight :: o_now_sightMany :: []))), (a_sitting, .inr (2, [.int w_sitting_decided, .int w_sitting_sunk, .int w_sitting_plaintiffs, .int w_sitting_defendants, .int w_sitting_poor, .int w_sitting_worths])), (a_now_row, .inl (cI, 6, .inl v_now_row)), (a_now_first, .inl (cI, 6, .inl v_now_first)), (a_now_second, .inl (cI, 6, .inl v_now_second)), (a_now_worth, .inl (cI, 6, .inl v_now_worth)), (a_now_winner, .inl (cI, 6, .inl v_now_winner))]) := by
  refine k_body (cc := cX3_year) (maxL := 7) (ret := (some .int)) (by decide) rfl (Nat.le_of_ble_eq_true rfl) ?_
  intro p e s m args below meth c hx hb hr hml hts hown hlocks hname hK A hA hP hD hS ls hl
  have hl : lv_has ls 7 [(0, .ref a_this), (1, .int x1), (2, .int x2), (3, .int x3)] := hl
  generalize hQ : MQ below ((QWi D r0 [(a_this, .inr (3, [o_this_pad, o_this_signs, .ref a_now, o_this_images, .ref a_sitting, o_this_reader, o_this_trial, o_this_best])), (a_now, .inr (0, (o_now_weight :: .int v_now_hole :: .int v_now_held :: .int v_now_law :: .int v_now_many :: o_now_sights :: o_now_full :: .ref a_now_first :: .ref a_now_second :: .ref a_now_worth :: .ref a_now_winner :: .ref a_now_row :: o_now_sightWeight :: o_now_sightMany :: []))), (a_sitting, .inr (2, [.int w_sitting_decided, .int w_sitting_sunk, .int w_sitting_plaintiffs, .int w_sitting_defendants, .int w_sitting_poor, .int w_sitting_worths])), (a_now_row, .inl (cI, 6, .inl v_now_row)), (a_now_first, .inl (cI, 6, .inl v_now_first)), (a_now_second, .inl (cI, 6, .inl v_now_second)), (a_now_worth, .inl (cI, 6, .inl v_now_worth)), (a_now_winner, .inl (cI, 6, .inl v_now_winner))]) A) args s 0 0 A = Q
  obtain ⟨H, hH⟩ : ∃ H, H = s.heap := ⟨_, rfl⟩
  obtain ⟨locs, hlo⟩ : ∃ z : List Loc, z = [] := ⟨_, rfl⟩
  have hP : va_P D vwCl [(a_this, .inr (3, [o_this_pad, o_this_signs, .ref a_now, o_this_images, .ref a_sitting, o_this_reader, o_this_trial, o_this_best])), (a_now, .inr (0, (o_now_weight :: .int v_now_hole :: .int v_now_held :: .int v_now_law :: .int v_now_many :: o_now_sights :: o_now_full :: .ref a_now_first :: .ref a_now_second :: .ref a_now_worth :: .ref a_now_winner :: .ref a_now_row :: o_now_sightWeight :: o_now_sightMany :: []))), (a_sitting, .inr (2, [.int v_sitting_decided, .int v_sitting_sunk, .int v_sitting_plaintiffs, .int v_sitting_defendants, .int v_sitting_poor, .int v_sitting_worths])), (a_now_row, .inl (cI, 6, .inl v_now_row)), (a_now_first, .inl (cI, 6, .inl v_now_first)), (a_now_second, .inl (cI, 6, .inl v_now_second)), (a_now_worth, .inl (cI, 6, .inl v_now_worth)), (a_now_winner, .inl (cI, 6, .inl v_now_winner))] H := by rw [hH]; exact hP
  have hS : va_S A s.heap H locs := by rw [hH, hlo]; exact hS
  suffices hg : W p l e (headSpec wsX3_year { frames := 3, cells := 0, slots := 0, locals := 72 }).room s m args below meth c H locs 0 0 Q (F0 m 0 ls []) by rw [hH, hlo] at hg; exact hg
  have l20 := hts (.fieldLink RX3 20 "CandleCourt" "now" "LCandleCourt$Bench;") (by decide +kernel)
  have l31 := hts (.fieldLink RX3 31 "CandleCourt" "sitting" "LCandleCourt$Sitting;") (by decide +kernel)
  have l83 := hts (.fieldLink RX3 83 "CandleCourt$Bench" "row" "[I") (by decide +kernel)
  have l111 := hts (.fieldLink RX3 111 "CandleCourt$Sitting" "decided" "I") (by decide +kernel)
  have l138 := hts (.fieldLink RX3 138 "CandleCourt$Bench" "hole" "I") (by decide +kernel)
  have iX0 : ∀ w ∈ wsX00, w ∈ wsX3_year := by decide +kernel
  have iX2 : ∀ w ∈ wsX20, w ∈ wsX3_year := by decide +kernel
  have iX3 : ∀ w ∈ wsX30, w ∈ wsX3_year := by decide +kernel
  unfold fX3_year at hf
  refine lv_iload_n hx hb dX3_year_0 rfl (lv_at hl 1 rfl) ?_
  refine lv_iconst (v := 0) hx hb dX3_year_1 (by decide) ?_
  refine lv_sipush (v := 9999) hx hb dX3_year_2 (by decide) ?_
  obtain ⟨r1, hc2, hf⟩ := bnd1_some hf
  refine k_ci (wc := []) (wr := [(a_this, .inr (3, [o_this_pad, o_this_signs, .ref a_now, o_this_images, .ref a_sitting, o_this_reader, o_this_trial, o_this_best])), (a_now, .inr (0, (o_now_weight :: .int v_now_hole :: .int v_now_held :: .int v_now_law :: .int v_now_many :: o_now_sights :: o_now_full :: .ref a_now_first :: .ref a_now_second :: .ref a_now_worth :: .ref a_now_winner :: .ref a_now_row :: o_now_sightWeight :: o_now_sightMany :: []))), (a_sitting, .inr (2, [.int v_sitting_decided, .int v_sitting_sunk, .int v_sitting_plaintiffs, .int v_sitting_defendants, .int v_sitting_poor, .int v_sitting_worths])), (a_now_row, .inl (cI, 6, .inl v_now_row)), (a_now_first, .inl (cI, 6, .inl v_now_first)), (a_now_second, .inl (cI, 6, .inl v_now_second)), (a_now_worth, .inl (cI, 6, .inl v_now_worth)), (a_now_winner, .inl (cI, 6, .inl v_now_winner))]) (w1 := []) (ws' := [(a_this, .inr (3, [o_this_pad, o_this_signs, .ref a_now, o_this_images, .ref a_sitting, o_this_reader, o_this_trial, o_this_best])), (a_now, .inr (0, (o_now_weight :: .int v_now_hole :: .int v_now_held :: .int v_now_law :: .int v_now_many :: o_now_sights :: o_now_full :: .ref a_now_first :: .ref a_now_second :: .ref a_now_worth :: .ref a_now_winner :: .ref a_now_row :: o_now_sightWeight :: o_now_sightMany :: []))), (a_sitting, .inr (2, [.int v_sitting_decided, .int v_sitting_sunk, .int v_sitting_plaintiffs, .int v_sitting_defendants, .int v_sitting_poor, .int v_sitting_worths])), (a_now_row, .inl (cI, 6, .inl v_now_row)), (a_now_first, .inl (cI, 6, .inl v_now_first)), (a_now_second, .inl (cI, 6, .inl v_now_second)), (a_now_worth, .inl (cI, 6, .inl v_now_worth)), (a_now_winner, .inl (cI, 6, .inl v_now_winner))]) (va_runS (As := [.int x1, .int 0, .int 9999]) (rest := []) ⟨hx, hb, hml, hown, hts⟩ (tX3_within l D cI cJ cZ cB x1 0 9999 r1 hc2 H.size) (va_cwS 3 hts gX3_year_X3_within rfl rfl rfl (by decide +kernel) ⟨Nat.le_of_ble_eq_true rfl, Nat.le_of_ble_eq_true rfl⟩) (k_preS (is := []) hK hP hD rfl rfl) rfl rfl hl.1 rfl (lv_room (Nat.le_of_ble_eq_true rfl)) dX3_year_5 ⟨Nat.zero_le _, Nat.zero_le _⟩) hP hD hS hA [] [0, 1, 2, 3, 4, 5, 6, 7] [0, 1, 2, 3, 4, 5, 6, 7] rfl rfl rfl (by decide) rfl rfl (fun H locs hP hD hS => ?_)
  refine lv_if_eq (tgt := 33) hx hb dX3_year_8 (by decide) (fun c3 => ?_) (fun c3 => ?_)
  · have hf := (if_pos c3).symm.trans hf
    refine lv_bipush (v := (-2)) hx hb dX3_year_33 (by decide) ?_
    cases hf
    subst hQ
    exact k_ri hx hb hr hlocks hP hD hS dX3_year_35
  · have hf := (if_neg c3).symm.trans hf
    refine lv_iload_n hx hb dX3_year_11 rfl (lv_at hl 2 rfl) ?_
    refine lv_iconst (v := 1) hx hb dX3_year_12 (by decide) ?_
    refine lv_bipush (v := 99) hx hb dX3_year_13 (by decide) ?_
    obtain ⟨r4, hc5, hf⟩ := bnd1_some hf
    refine k_ci (wc := []) (wr := [(a_this, .inr (3, [o_this_pad, o_this_signs, .ref a_now, o_this_images, .ref a_sitting, o_this_reader, o_this_trial, o_this_best])), (a_now, .inr (0, (o_now_weight :: .int v_now_hole :: .int v_now_held :: .int v_now_law :: .int v_now_many :: o_now_sights :: o_now_full :: .ref a_now_first :: .ref a_now_second :: .ref a_now_worth :: .ref a_now_winner :: .ref a_now_row :: o_now_sightWeight :: o_now_sightMany :: []))), (a_sitting, .inr (2, [.int v_sitting_decided, .int v_sitting_sunk, .int v_sitting_plaintiffs, .int v_sitting_defendants, .int v_sitting_poor, .int v_sitting_worths])), (a_now_row, .inl (cI, 6, .inl v_now_row)), (a_now_first, .inl (cI, 6, .inl v_now_first)), (a_now_second, .inl (cI, 6, .inl v_now_second)), (a_now_worth, .inl (cI, 6, .inl v_now_worth)), (a_now_winner, .inl (cI, 6, .inl v_now_winner))]) (w1 := []) (ws' := [(a_this, .inr (3, [o_this_pad, o_this_signs, .ref a_now, o_this_images, .ref a_sitting, o_this_reader, o_this_trial, o_this_best])), (a_now, .inr (0, (o_now_weight :: .int v_now_hole :: .int v_now_held :: .int v_now_law :: .int v_now_many :: o_now_sights :: o_now_full :: .ref a_now_first :: .ref a_now_second :: .ref a_now_worth :: .ref a_now_winner :: .ref a_now_row :: o_now_sightWeight :: o_now_sightMany :: []))), (a_sitting, .inr (2, [.int v_sitting_decided, .int v_sitting_sunk, .int v_sitting_plaintiffs, .int v_sitting_defendants, .int v_sitting_poor, .int v_sitting_worths])), (a_now_row, .inl (cI, 6, .inl v_now_row)), (a_now_first, .inl (cI, 6, .inl v_now_first)), (a_now_second, .inl (cI, 6, .inl v_now_second)), (a_now_worth, .inl (cI, 6, .inl v_now_worth)), (a_now_winner, .inl (cI, 6, .inl v_now_winner))]) (va_runS (As := [.int x2, .int 1, .int 99]) (rest := []) ⟨hx, hb, hml, hown, hts⟩ (tX3_within l D cI cJ cZ cB x2 1 99 r4 hc5 H.size) (va_cwS 3 hts gX3_year_X3_within rfl rfl rfl (by decide +kernel) ⟨Nat.le_of_ble_eq_true rfl, Nat.le_of_ble_eq_true rfl⟩) (k_preS (is := []) hK hP hD rfl rfl) rfl rfl hl.1 rfl (lv_room (Nat.le_of_ble_eq_true rfl)) dX3_year_15 ⟨Nat.zero_le _, Nat.zero_le _⟩) hP hD hS hA [] [0, 1, 2, 3, 4, 5, 6, 7] [0, 1, 2, 3, 4, 5, 6, 7] rfl rfl rfl (by decide) rfl rfl (fun H locs hP hD hS => ?_)
    refine lv_if_eq (tgt := 33) hx hb dX3_year_18 (by decide) (fun c6 => ?_) (fun c6 => ?_)
    · have hf := (if_pos c6).symm.trans hf
      refine lv_bipush (v := (-2)) hx hb dX3_year_33 (by decide) ?_
      cases hf
      subst hQ
      exact k_ri hx hb hr hlocks hP hD hS dX3_year_35
    · have hf := (if_neg c6).symm.trans hf
      refine lv_iload_n hx hb dX3_year_21 rfl (lv_at hl 3 rfl) ?_
      refine lv_iconst (v := (-1)) hx hb dX3_year_22 (by decide) ?_
      have J36 : ∀ (v_sitting_decided_36 : Int32) (v_sitting_sunk_36 : Int32) (v_sitting_plaintiffs_36 : Int32) (v_sitting_defendants_36 : Int32) (v_sitting_poor_36 : Int32) (v_sitting_worths_36 : Int32) (H : Heap) (locs : List Loc) (ls : Array Slot), fX3_year_j36 x1 x2 x3 v_now_hole v_now_held v_sitting_decided_36 v_sitting_sunk_36 v_sitting_plaintiffs_36 v_sitting_defendants_36 v_sitting_poor_36 v_sitting_worths_36 v_now_many v_now_law v_now_row v_now_first v_now_second v_now_worth v_now_winner = some (r0, w_sitting_decided, w_sitting_sunk, w_sitting_plaintiffs, w_sitting_defendants, w_sitting_poor, w_sitting_worths) → va_P D vwCl [(a_this, .inr (3, [o_this_pad, o_this_signs, .ref a_now, o_this_images, .ref a_sitting, o_this_reader, o_this_trial, o_this_best])), (a_now, .inr (0, (o_now_weight :: .int v_now_hole :: .int v_now_held :: .int v_now_law :: .int v_now_many :: o_now_sights :: o_now_full :: .ref a_now_first :: .ref a_now_second :: .ref a_now_worth :: .ref a_now_winner :: .ref a_now_row :: o_now_sightWeight :: o_now_sightMany :: []))), (a_sitting, .inr (2, [.int v_sitting_decided_36, .int v_sitting_sunk_36, .int v_sitting_plaintiffs_36, .int v_sitting_defendants_36, .int v_sitting_poor_36, .int v_sitting_worths_36])), (a_now_row, .inl (cI, 6, .inl v_now_row)), (a_now_first, .inl (cI, 6, .inl v_now_first)), (a_now_second, .inl (cI, 6, .inl v_now_second)), (a_now_worth, .inl (cI, 6, .inl v_now_worth)), (a_now_winner, .inl (cI, 6, .inl v_now_winner))] H → va_D A [(a_this, .inr (3, [o_this_pad, o_this_signs, .ref a_now, o_this_images, .ref a_sitting, o_this_reader, o_this_trial, o_this_best])), (a_now, .inr (0, (o_now_weight :: .int v_now_hole :: .int v_now_held :: .int v_now_law :: .int v_now_many :: o_now_sights :: o_now_full :: .ref a_now_first :: .ref a_now_second :: .ref a_now_worth :: .ref a_now_winner :: .ref a_now_row :: o_now_sightWeight :: o_now_sightMany :: []))), (a_sitting, .inr (2, [.int v_sitting_decided_36, .int v_sitting_sunk_36, .int v_sitting_plaintiffs_36, .int v_sitting_defendants_36, .int v_sitting_poor_36, .int v_sitting_worths_36])), (a_now_row, .inl (cI, 6, .inl v_now_row)), (a_now_first, .inl (cI, 6, .inl v_now_first)), (a_now_second, .inl (cI, 6, .inl v_now_second)), (a_now_worth, .inl (cI, 6, .inl v_now_worth)), (a_now_winner, .inl (cI, 6, .inl v_now_winner))] → va_S A s.heap H locs → lv_has ls 7 [(0, .ref a_this), (1, .int x1), (2, .int x2), (3, .int x3)] → W p l e (headSpec wsX3_year { frames := 3, cells := 0, slots := 0, locals := 72 }).room s m args below meth c H locs 0 0 Q (F0 m 36 ls []) := by
        intro v_sitting_decided_36 v_sitting_sunk_36 v_sitting_plaintiffs_36 v_sitting_defendants_36 v_sitting_poor_36 v_sitting_worths_36 H locs ls hf hP hD hS hl
        unfold fX3_year_j36 at hf
        refine lv_iload_n hx hb dX3_year_36 rfl (lv_at hl 1 rfl) ?_
        refine lv_istore (lv' := [(4, .int x1), (0, .ref a_this), (1, .int x1), (2, .int x2), (3, .int x3)]) hx hb dX3_year_37 hl (by decide) rfl (fun ls hl => ?_)
        refine lv_iconst (v := 0) hx hb dX3_year_39 (by decide) ?_
        refine lv_istore (lv' := [(5, .int 0), (4, .int x1), (0, .ref a_this), (1, .int x1), (2, .int x2), (3, .int x3)]) hx hb dX3_year_40 hl (by decide) rfl (fun ls hl => ?_)
        refine lv_iconst (v := 0) hx hb dX3_year_42 (by decide) ?_
        refine lv_istore (lv' := [(6, .int 0), (5, .int 0), (4, .int x1), (0, .ref a_this), (1, .int x1), (2, .int x2), (3, .int x3)]) hx hb dX3_year_43 hl (by decide) rfl (fun ls hl => ?_)
        have L45 : ∀ (n45 : Nat) (x4_45 : Int32) (x5_45 : Int32) (x6_45 : Int32) (v_sitting_decided_45 : Int32) (v_sitting_sunk_45 : Int32) (v_sitting_plaintiffs_45 : Int32) (v_sitting_defendants_45 : Int32) (v_sitting_poor_45 : Int32) (v_sitting_worths_45 : Int32) (H : Heap) (locs : List Loc) (ls : Array Slot), fX3_year_l45 x2 x3 v_now_hole v_now_held v_now_many v_now_law v_now_row v_now_first v_now_second v_now_worth v_now_winner n45 x4_45 x5_45 x6_45 v_sitting_decided_45 v_sitting_sunk_45 v_sitting_plaintiffs_45 v_sitting_defendants_45 v_sitting_poor_45 v_sitting_worths_45 = some (r0, w_sitting_decided, w_sitting_sunk, w_sitting_plaintiffs, w_sitting_defendants, w_sitting_poor, w_sitting_worths) → va_P D vwCl [(a_this, .inr (3, [o_this_pad, o_this_signs, .ref a_now, o_this_images, .ref a_sitting, o_this_reader, o_this_trial, o_this_best])), (a_now, .inr (0, (o_now_weight :: .int v_now_hole :: .int v_now_held :: .int v_now_law :: .int v_now_many :: o_now_sights :: o_now_full :: .ref a_now_first :: .ref a_now_second :: .ref a_now_worth :: .ref a_now_winner :: .ref a_now_row :: o_now_sightWeight :: o_now_sightMany :: []))), (a_sitting, .inr (2, [.int v_sitting_decided_45, .int v_sitting_sunk_45, .int v_sitting_plaintiffs_45, .int v_sitting_defendants_45, .int v_sitting_poor_45, .int v_sitting_worths_45])), (a_now_row, .inl (cI, 6, .inl v_now_row)), (a_now_first, .inl (cI, 6, .inl v_now_first)), (a_now_second, .inl (cI, 6, .inl v_now_second)), (a_now_worth, .inl (cI, 6, .inl v_now_worth)), (a_now_winner, .inl (cI, 6, .inl v_now_winner))] H → va_D A [(a_this, .inr (3, [o_this_pad, o_this_signs, .ref a_now, o_this_images, .ref a_sitting, o_this_reader, o_this_trial, o_this_best])), (a_now, .inr (0, (o_now_weight :: .int v_now_hole :: .int v_now_held :: .int v_now_law :: .int v_now_many :: o_now_sights :: o_now_full :: .ref a_now_first :: .ref a_now_second :: .ref a_now_worth :: .ref a_now_winner :: .ref a_now_row :: o_now_sightWeight :: o_now_sightMany :: []))), (a_sitting, .inr (2, [.int v_sitting_decided_45, .int v_sitting_sunk_45, .int v_sitting_plaintiffs_45, .int v_sitting_defendants_45, .int v_sitting_poor_45, .int v_sitting_worths_45])), (a_now_row, .inl (cI, 6, .inl v_now_row)), (a_now_first, .inl (cI, 6, .inl v_now_first)), (a_now_second, .inl (cI, 6, .inl v_now_second)), (a_now_worth, .inl (cI, 6, .inl v_now_worth)), (a_now_winner, .inl (cI, 6, .inl v_now_winner))] → va_S A s.heap H locs → lv_has ls 7 [(0, .ref a_this), (2, .int x2), (3, .int x3), (4, .int x4_45), (5, .int x5_45), (6, .int x6_45)] → W p l e (headSpec wsX3_year { frames := 3, cells := 0, slots := 0, locals := 72 }).room s m args below meth c H locs 0 0 Q (F0 m 45 ls []) := by
          intro n45
          induction n45 with
          | zero =>
            intro x4_45 x5_45 x6_45 v_sitting_decided_45 v_sitting_sunk_45 v_sitting_plaintiffs_45 v_sitting_defendants_45 v_sitting_poor_45 v_sitting_worths_45 H locs ls hf
            have hf : (none : Option (Int32 × (Int32) × (Int32) × (Int32) × (Int32) × (Int32) × (Int32))) = some (r0, w_sitting_decided, w_sitting_sunk, w_sitting_plaintiffs, w_sitting_defendants, w_sitting_poor, w_sitting_worths) := hf
            cases hf
          | succ n45 ih45 =>
            intro x4_45 x5_45 x6_45 v_sitting_decided_45 v_sitting_sunk_45 v_sitting_plaintiffs_45 v_sitting_defendants_45 v_sitting_poor_45 v_sitting_worths_45 H locs ls hf hP hD hS hl
            rw [fX3_year_l45] at hf
            refine lv_iload hx hb dX3_year_45 (lv_at hl 5 rfl) ?_
            refine lv_iload_n hx hb dX3_year_47 rfl (lv_at hl 1 rfl) ?_
            refine lv_icmp_ge (tgt := 140) hx hb dX3_year_48 (by decide) (fun c7 => ?_) (fun c7 => ?_)
            · have hf := (if_pos c7).symm.trans hf
              refine lv_iload hx hb dX3_year_140 (lv_at hl 4 rfl) ?_
              cases hf
              subst hQ
              exact k_ri hx hb hr hlocks hP hD hS dX3_year_142
            · have hf := (if_neg c7).symm.trans hf
              refine lv_bipush (v := 75) hx hb dX3_year_51 (by decide) ?_
              refine lv_iload hx hb dX3_year_53 (lv_at hl 3 rfl) ?_
              refine lv_imul hx hb dX3_year_55 ?_
              refine lv_bipush (v := 74) hx hb dX3_year_56 (by decide) ?_
              refine lv_iadd hx hb dX3_year_58 ?_
              refine lv_ldc (own := RX3) (v := 65537) hx hb hown (hts (.constant RX3 191 (65537)) (by decide +kernel)) dX3_year_59 ?_
              refine lv_irem hx hb dX3_year_61 (by decide) ?_
              refine lv_istore (lv' := [(4, .int (((75 * x4_45) + 74) - ((75 * x4_45) + 74) / 65537 * 65537)), (0, .ref a_this), (2, .int x2), (3, .int x3), (5, .int x5_45), (6, .int x6_45)]) hx hb dX3_year_62 hl (by decide) rfl (fun ls hl => ?_)
              refine lv_aload_n hx hb dX3_year_64 rfl (lv_at hl 1 rfl) ?_
              refine va_get (D := D) (ci := 3) (v := .ref a_sitting) (C := RX3) (T := TX3) (N := 8) hx hb hts iX3 hown hK.1 hP 0 rfl rfl 4 (by decide) l31 (fun _ h9 => h9) rfl dX3_year_65 ?_
              refine lv_aload_n hx hb dX3_year_68 rfl (lv_at hl 1 rfl) ?_
              refine va_get (D := D) (ci := 3) (v := .ref a_now) (C := RX3) (T := TX3) (N := 8) hx hb hts iX3 hown hK.1 hP 0 rfl rfl 2 (by decide) l20 (fun _ h9 => h9) rfl dX3_year_69 ?_
              refine lv_aload_n hx hb dX3_year_72 rfl (lv_at hl 1 rfl) ?_
              refine va_get (D := D) (ci := 3) (v := .ref a_now) (C := RX3) (T := TX3) (N := 8) hx hb hts iX3 hown hK.1 hP 0 rfl rfl 2 (by decide) l20 (fun _ h9 => h9) rfl dX3_year_73 ?_
              refine va_get (D := D) (ci := 0) (v := .ref a_now_row) (C := RX0) (T := TX0) (N := 14) hx hb hts iX0 hown hK.1 hP 1 rfl rfl 11 (by decide) l83 (fun _ h9 => h9) rfl dX3_year_76 ?_
              refine lv_iconst (v := 0) hx hb dX3_year_79 (by decide) ?_
              refine lv_aload_n hx hb dX3_year_80 rfl (lv_at hl 1 rfl) ?_
              refine va_get (D := D) (ci := 3) (v := .ref a_now) (C := RX3) (T := TX3) (N := 8) hx hb hts iX3 hown hK.1 hP 0 rfl rfl 2 (by decide) l20 (fun _ h9 => h9) rfl dX3_year_81 ?_
              refine lv_iconst (v := 1) hx hb dX3_year_84 (by decide) ?_
              refine lv_iload hx hb dX3_year_85 (lv_at hl 0 rfl) ?_
              refine lv_bipush (v := 99) hx hb dX3_year_87 (by decide) ?_
              refine lv_irem hx hb dX3_year_89 (by decide) ?_
              refine lv_iadd hx hb dX3_year_90 ?_
              refine lv_aload_n hx hb dX3_year_91 rfl (lv_at hl 1 rfl) ?_
              refine va_get (D := D) (ci := 3) (v := .ref a_now) (C := RX3) (T := TX3) (N := 8) hx hb hts iX3 hown hK.1 hP 0 rfl rfl 2 (by decide) l20 (fun _ h9 => h9) rfl dX3_year_92 ?_
              refine va_get (D := D) (ci := 0) (v := .int v_now_hole) (C := RX0) (T := TX0) (N := 14) hx hb hts iX0 hown hK.1 hP 1 rfl rfl 1 (by decide) l138 (fun _ h9 => h9) rfl dX3_year_95 ?_
              obtain ⟨r8, hc9, hf⟩ := bnd1_some hf
              refine k_ci (wc := [(a_now, .inr (0, (o_now_weight :: .int v_now_hole :: .int v_now_held :: .int v_now_law :: .int v_now_many :: o_now_sights :: o_now_full :: .ref a_now_first :: .ref a_now_second :: .ref a_now_worth :: .ref a_now_winner :: .ref a_now_row :: o_now_sightWeight :: o_now_sightMany :: [])))]) (wr := [(a_this, .inr (3, [o_this_pad, o_this_signs, .ref a_now, o_this_images, .ref a_sitting, o_this_reader, o_this_trial, o_this_best])), (a_sitting, .inr (2, [.int v_sitting_decided_45, .int v_sitting_sunk_45, .int v_sitting_plaintiffs_45, .int v_sitting_defendants_45, .int v_sitting_poor_45, .int v_sitting_worths_45])), (a_now_row, .inl (cI, 6, .inl v_now_row)), (a_now_first, .inl (cI, 6, .inl v_now_first)), (a_now_second, .inl (cI, 6, .inl v_now_second)), (a_now_worth, .inl (cI, 6, .inl v_now_worth)), (a_now_winner, .inl (cI, 6, .inl v_now_winner))]) (w1 := [(a_now, .inr (0, (o_now_weight :: .int v_now_hole :: .int v_now_held :: .int v_now_law :: .int v_now_many :: o_now_sights :: o_now_full :: .ref a_now_first :: .ref a_now_second :: .ref a_now_worth :: .ref a_now_winner :: .ref a_now_row :: o_now_sightWeight :: o_now_sightMany :: [])))]) (ws' := [(a_this, .inr (3, [o_this_pad, o_this_signs, .ref a_now, o_this_images, .ref a_sitting, o_this_reader, o_this_trial, o_this_best])), (a_now, .inr (0, (o_now_weight :: .int v_now_hole :: .int v_now_held :: .int v_now_law :: .int v_now_many :: o_now_sights :: o_now_full :: .ref a_now_first :: .ref a_now_second :: .ref a_now_worth :: .ref a_now_winner :: .ref a_now_row :: o_now_sightWeight :: o_now_sightMany :: []))), (a_sitting, .inr (2, [.int v_sitting_decided_45, .int v_sitting_sunk_45, .int v_sitting_plaintiffs_45, .int v_sitting_defendants_45, .int v_sitting_poor_45, .int v_sitting_worths_45])), (a_now_row, .inl (cI, 6, .inl v_now_row)), (a_now_first, .inl (cI, 6, .inl v_now_first)), (a_now_second, .inl (cI, 6, .inl v_now_second)), (a_now_worth, .inl (cI, 6, .inl v_now_worth)), (a_now_winner, .inl (cI, 6, .inl v_now_winner))]) (va_runV (As := [.int (1 + ((((75 * x4_45) + 74) - ((75 * x4_45) + 74) / 65537 * 65537) - (((75 * x4_45) + 74) - ((75 * x4_45) + 74) / 65537 * 65537) / 99 * 99)), .int v_now_hole]) (rest := [.int 0, .ref a_now_row, .ref a_now, .ref a_sitting]) ⟨hx, hb, hml, hown, hts⟩ (tX0_floatsBy l D cI cJ cZ cB a_now o_now_weight (.int v_now_hole) (.int v_now_law) (.int v_now_many) o_now_sights o_now_full (.ref a_now_first) (.ref a_now_second) (.ref a_now_worth) (.ref a_now_winner) (.ref a_now_row) o_now_sightWeight o_now_sightMany (1 + ((((75 * x4_45) + 74) - ((75 * x4_45) + 74) / 65537 * 65537) - (((75 * x4_45) + 74) - ((75 * x4_45) + 74) / 65537 * 65537) / 99 * 99)) v_now_hole v_now_held r8 hc9 H.size) (cwV 2 hts gX3_year_X0_floatsBy rfl rfl rfl (by decide +kernel) ⟨Nat.le_of_ble_eq_true rfl, Nat.le_of_ble_eq_true rfl⟩) (k_preV (ci := 0) (q0 := 1) (is := [1]) hK hP hD rfl rfl rfl rfl) rfl rfl hl.1 rfl (lv_room (Nat.le_of_ble_eq_true rfl)) dX3_year_98 ⟨Nat.zero_le _, Nat.zero_le _⟩) hP hD hS hA [1] [0, 2, 3, 4, 5, 6, 7] [0, 7, 1, 2, 3, 4, 5, 6] rfl rfl rfl (by decide) rfl rfl (fun H locs hP hD hS => ?_)
              refine lv_iconst (v := 0) hx hb dX3_year_101 (by decide) ?_
              refine lv_iconst (v := 0) hx hb dX3_year_102 (by decide) ?_
              obtain ⟨u10, u11, u12, u13, u14, u15, hc16, hf⟩ := bnd6_some hf
              refine k_cv (wc := [(a_sitting, .inr (2, [.int v_sitting_decided_45, .int v_sitting_sunk_45, .int v_sitting_plaintiffs_45, .int v_sitting_defendants_45, .int v_sitting_poor_45, .int v_sitting_worths_45])), (a_now, .inr (0, (o_now_weight :: .int v_now_hole :: .int v_now_held :: .int v_now_law :: .int v_now_many :: o_now_sights :: o_now_full :: .ref a_now_first :: .ref a_now_second :: .ref a_now_worth :: .ref a_now_winner :: .ref a_now_row :: o_now_sightWeight :: o_now_sightMany :: []))), (a_now_row, .inl (cI, 6, .inl v_now_row)), (a_now_first, .inl (cI, 6, .inl v_now_first)), (a_now_second, .inl (cI, 6, .inl v_now_second)), (a_now_worth, .inl (cI, 6, .inl v_now_worth)), (a_now_winner, .inl (cI, 6, .inl v_now_winner))]) (wr := [(a_this, .inr (3, [o_this_pad, o_this_signs, .ref a_now, o_this_images, .ref a_sitting, o_this_reader, o_this_trial, o_this_best]))]) (w1 := [(a_sitting, .inr (2, [.int u10, .int u11, .int u12, .int u13, .int u14, .int u15])), (a_now, .inr (0, (o_now_weight :: .int v_now_hole :: .int v_now_held :: .int v_now_law :: .int v_now_many :: o_now_sights :: o_now_full :: .ref a_now_first :: .ref a_now_second :: .ref a_now_worth :: .ref a_now_winner :: .ref a_now_row :: o_now_sightWeight :: o_now_sightMany :: []))), (a_now_row, .inl (cI, 6, .inl v_now_row)), (a_now_first, .inl (cI, 6, .inl v_now_first)), (a_now_second, .inl (cI, 6, .inl v_now_second)), (a_now_worth, .inl (cI, 6, .inl v_now_worth)), (a_now_winner, .inl (cI, 6, .inl v_now_winner))]) (ws' := [(a_this, .inr (3, [o_this_pad, o_this_signs, .ref a_now, o_this_images, .ref a_sitting, o_this_reader, o_this_trial, o_this_best])), (a_now, .inr (0, (o_now_weight :: .int v_now_hole :: .int v_now_held :: .int v_now_law :: .int v_now_many :: o_now_sights :: o_now_full :: .ref a_now_first :: .ref a_now_second :: .ref a_now_worth :: .ref a_now_winner :: .ref a_now_row :: o_now_sightWeight :: o_now_sightMany :: []))), (a_sitting, .inr (2, [.int u10, .int u11, .int u12, .int u13, .int u14, .int u15])), (a_now_row, .inl (cI, 6, .inl v_now_row)), (a_now_first, .inl (cI, 6, .inl v_now_first)), (a_now_second, .inl (cI, 6, .inl v_now_second)), (a_now_worth, .inl (cI, 6, .inl v_now_worth)), (a_now_winner, .inl (cI, 6, .inl v_now_winner))]) (va_runV (As := [.ref a_now, .ref a_now_row, .int 0, .int r8, .int 0, .int 0]) (rest := []) ⟨hx, hb, hml, hown, hts⟩ (tX2_plead l D cI cJ cZ cB a_sitting a_now a_now_row a_now_first a_now_second a_now_worth a_now_winner 6 o_now_weight (.int v_now_hole) (.int v_now_held) o_now_sights o_now_full (.ref a_now_row) o_now_sightWeight o_now_sightMany 0 r8 0 0 v_sitting_decided_45 v_sitting_sunk_45 v_sitting_plaintiffs_45 v_sitting_defendants_45 v_sitting_poor_45 v_sitting_worths_45 v_now_many v_now_law v_now_row v_now_first v_now_second v_now_worth v_now_winner u10 u11 u12 u13 u14 u15 hc16 H.size) (cwV 6 hts gX3_year_X2_plead rfl rfl rfl (by decide +kernel) ⟨Nat.le_of_ble_eq_true rfl, Nat.le_of_ble_eq_true rfl⟩) (k_preV (ci := 2) (q0 := 2) (is := [2, 1, 3, 4, 5, 6, 7]) hK hP hD rfl rfl rfl rfl) rfl rfl hl.1 rfl (lv_room (Nat.le_of_ble_eq_true rfl)) dX3_year_103 ⟨Nat.zero_le _, Nat.zero_le _⟩) hP hD hS hA [2, 1, 3, 4, 5, 6, 7] [0] [0, 2, 1, 3, 4, 5, 6, 7] rfl rfl rfl (by decide) rfl rfl (fun H locs hP hD hS => ?_)
              refine lv_iload hx hb dX3_year_106 (lv_at hl 4 rfl) ?_
              refine lv_iload_n hx hb dX3_year_108 rfl (lv_at hl 3 rfl) ?_
              refine lv_iconst (v := (-1)) hx hb dX3_year_109 (by decide) ?_
              refine lv_icmp_ne (tgt := 123) hx hb dX3_year_110 (by decide) (fun c17 => ?_) (fun c17 => ?_)
              · have hf := (if_neg c17).symm.trans hf
                refine lv_aload_n hx hb dX3_year_123 rfl (lv_at hl 1 rfl) ?_
                refine va_get (D := D) (ci := 3) (v := .ref a_sitting) (C := RX3) (T := TX3) (N := 8) hx hb hts iX3 hown hK.1 hP 0 rfl rfl 4 (by decide) l31 (fun _ h9 => h9) rfl dX3_year_124 ?_
                refine lv_iload_n hx hb dX3_year_127 rfl (lv_at hl 3 rfl) ?_
                obtain ⟨r18, hc19, hf⟩ := bnd1_some hf
                refine k_ci (wc := [(a_sitting, .inr (2, [.int u10, .int u11, .int u12, .int u13, .int u14, .int u15]))]) (wr := [(a_this, .inr (3, [o_this_pad, o_this_signs, .ref a_now, o_this_images, .ref a_sitting, o_this_reader, o_this_trial, o_this_best])), (a_now, .inr (0, (o_now_weight :: .int v_now_hole :: .int v_now_held :: .int v_now_law :: .int v_now_many :: o_now_sights :: o_now_full :: .ref a_now_first :: .ref a_now_second :: .ref a_now_worth :: .ref a_now_winner :: .ref a_now_row :: o_now_sightWeight :: o_now_sightMany :: []))), (a_now_row, .inl (cI, 6, .inl v_now_row)), (a_now_first, .inl (cI, 6, .inl v_now_first)), (a_now_second, .inl (cI, 6, .inl v_now_second)), (a_now_worth, .inl (cI, 6, .inl v_now_worth)), (a_now_winner, .inl (cI, 6, .inl v_now_winner))]) (w1 := [(a_sitting, .inr (2, [.int u10, .int u11, .int u12, .int u13, .int u14, .int u15]))]) (ws' := [(a_this, .inr (3, [o_this_pad, o_this_signs, .ref a_now, o_this_images, .ref a_sitting, o_this_reader, o_this_trial, o_this_best])), (a_now, .inr (0, (o_now_weight :: .int v_now_hole :: .int v_now_held :: .int v_now_law :: .int v_now_many :: o_now_sights :: o_now_full :: .ref a_now_first :: .ref a_now_second :: .ref a_now_worth :: .ref a_now_winner :: .ref a_now_row :: o_now_sightWeight :: o_now_sightMany :: []))), (a_sitting, .inr (2, [.int u10, .int u11, .int u12, .int u13, .int u14, .int u15])), (a_now_row, .inl (cI, 6, .inl v_now_row)), (a_now_first, .inl (cI, 6, .inl v_now_first)), (a_now_second, .inl (cI, 6, .inl v_now_second)), (a_now_worth, .inl (cI, 6, .inl v_now_worth)), (a_now_winner, .inl (cI, 6, .inl v_now_winner))]) (va_runV (As := [.int x3]) (rest := [.int x5_45]) ⟨hx, hb, hml, hown, hts⟩ (tX2_has l D cI cJ cZ cB a_sitting (.int u10) (.int u11) x3 u15 u14 u13 u12 r18 hc19 H.size) (cwV 1 hts gX3_year_X2_has rfl rfl rfl (by decide +kernel) ⟨Nat.le_of_ble_eq_true rfl, Nat.le_of_ble_eq_true rfl⟩) (k_preV (ci := 2) (q0 := 2) (is := [2]) hK hP hD rfl rfl rfl rfl) rfl rfl hl.1 rfl (lv_room (Nat.le_of_ble_eq_true rfl)) dX3_year_128 ⟨Nat.zero_le _, Nat.zero_le _⟩) hP hD hS hA [2] [0, 1, 3, 4, 5, 6, 7] [0, 1, 7, 2, 3, 4, 5, 6] rfl rfl rfl (by decide) rfl rfl (fun H locs hP hD hS => ?_)
                refine lv_iadd hx hb dX3_year_131 ?_
                refine lv_istore (lv' := [(5, .int (x5_45 + r18)), (4, .int (((75 * x4_45) + 74) - ((75 * x4_45) + 74) / 65537 * 65537)), (0, .ref a_this), (2, .int x2), (3, .int x3), (6, .int x6_45)]) hx hb dX3_year_132 hl (by decide) rfl (fun ls hl => ?_)
                refine lv_iinc (v := (x6_45 + 1)) (lv' := [(6, .int (x6_45 + 1)), (5, .int (x5_45 + r18)), (4, .int (((75 * x4_45) + 74) - ((75 * x4_45) + 74) / 65537 * 65537)), (0, .ref a_this), (2, .int x2), (3, .int x3)]) hx hb dX3_year_134 hl (k := 5) rfl (by rfl) (by decide) rfl (fun ls hl => ?_)
                refine lv_goto (tgt := 45) hx hb dX3_year_137 (by decide) ?_
                exact ih45 (((75 * x4_45) + 74) - ((75 * x4_45) + 74) / 65537 * 65537) (x5_45 + r18) (x6_45 + 1) u10 u11 u12 u13 u14 u15 _ _ _ hf hP hD hS (lv_sub hl [3, 4, 5, 2, 1, 0] rfl)
              · have hf := (if_pos c17).symm.trans hf
                refine lv_aload_n hx hb dX3_year_113 rfl (lv_at hl 1 rfl) ?_
                refine va_get (D := D) (ci := 3) (v := .ref a_sitting) (C := RX3) (T := TX3) (N := 8) hx hb hts iX3 hown hK.1 hP 0 rfl rfl 4 (by decide) l31 (fun _ h9 => h9) rfl dX3_year_114 ?_
                refine va_get (D := D) (ci := 2) (v := .int u10) (C := RX2) (T := TX2) (N := 6) hx hb hts iX2 hown hK.1 hP 2 rfl rfl 0 (by decide) l111 (fun _ h9 => h9) rfl dX3_year_117 ?_
                refine lv_goto (tgt := 131) hx hb dX3_year_120 (by decide) ?_
                refine lv_iadd hx hb dX3_year_131 ?_
                refine lv_istore (lv' := [(5, .int (x5_45 + u10)), (4, .int (((75 * x4_45) + 74) - ((75 * x4_45) + 74) / 65537 * 65537)), (0, .ref a_this), (2, .int x2), (3, .int x3), (6, .int x6_45)]) hx hb dX3_year_132 hl (by decide) rfl (fun ls hl => ?_)
                refine lv_iinc (v := (x6_45 + 1)) (lv' := [(6, .int (x6_45 + 1)), (5, .int (x5_45 + u10)), (4, .int (((75 * x4_45) + 74) - ((75 * x4_45) + 74) / 65537 * 65537)), (0, .ref a_this), (2, .int x2), (3, .int x3)]) hx hb dX3_year_134 hl (k := 5) rfl (by rfl) (by decide) rfl (fun ls hl => ?_)
                refine lv_goto (tgt := 45) hx hb dX3_year_137 (by decide) ?_
                exact ih45 (((75 * x4_45) + 74) - ((75 * x4_45) + 74) / 65537 * 65537) (x5_45 + u10) (x6_45 + 1) u10 u11 u12 u13 u14 u15 _ _ _ hf hP hD hS (lv_sub hl [3, 4, 5, 2, 1, 0] rfl)
        exact L45 FU x1 0 0 v_sitting_decided_36 v_sitting_sunk_36 v_sitting_plaintiffs_36 v_sitting_defendants_36 v_sitting_poor_36 v_sitting_worths_36 _ _ _ hf hP hD hS (lv_sub hl [3, 5, 6, 2, 1, 0] rfl)
      refine lv_icmp_eq (tgt := 36) hx hb dX3_year_23 (by decide) (fun c20 => ?_) (fun c20 => ?_)
      · have hf := (if_pos c20).symm.trans hf
        exact J36 v_sitting_decided v_sitting_sunk v_sitting_plaintiffs v_sitting_defendants v_sitting_poor v_sitting_worths _ _ _ hf hP hD hS (lv_sub hl [0, 1, 2, 3] rfl)
      · have hf := (if_neg c20).symm.trans hf
        refine lv_iload_n hx hb dX3_year_26 rfl (lv_at hl 3 rfl) ?_
        obtain ⟨r21, hc22, hf⟩ := bnd1_some hf
        refine k_ci (wc := []) (wr := [(a_this, .inr (3, [o_this_pad, o_this_signs, .ref a_now, o_this_images, .ref a_sitting, o_this_reader, o_this_trial, o_this_best])), (a_now, .inr (0, (o_now_weight :: .int v_now_hole :: .int v_now_held :: .int v_now_law :: .int v_now_many :: o_now_sights :: o_now_full :: .ref a_now_first :: .ref a_now_second :: .ref a_now_worth :: .ref a_now_winner :: .ref a_now_row :: o_now_sightWeight :: o_now_sightMany :: []))), (a_sitting, .inr (2, [.int v_sitting_decided, .int v_sitting_sunk, .int v_sitting_plaintiffs, .int v_sitting_defendants, .int v_sitting_poor, .int v_sitting_worths])), (a_now_row, .inl (cI, 6, .inl v_now_row)), (a_now_first, .inl (cI, 6, .inl v_now_first)), (a_now_second, .inl (cI, 6, .inl v_now_second)), (a_now_worth, .inl (cI, 6, .inl v_now_worth)), (a_now_winner, .inl (cI, 6, .inl v_now_winner))]) (w1 := []) (ws' := [(a_this, .inr (3, [o_this_pad, o_this_signs, .ref a_now, o_this_images, .ref a_sitting, o_this_reader, o_this_trial, o_this_best])), (a_now, .inr (0, (o_now_weight :: .int v_now_hole :: .int v_now_held :: .int v_now_law :: .int v_now_many :: o_now_sights :: o_now_full :: .ref a_now_first :: .ref a_now_second :: .ref a_now_worth :: .ref a_now_winner :: .ref a_now_row :: o_now_sightWeight :: o_now_sightMany :: []))), (a_sitting, .inr (2, [.int v_sitting_decided, .int v_sitting_sunk, .int v_sitting_plaintiffs, .int v_sitting_defendants, .int v_sitting_poor, .int v_sitting_worths])), (a_now_row, .inl (cI, 6, .inl v_now_row)), (a_now_first, .inl (cI, 6, .inl v_now_first)), (a_now_second, .inl (cI, 6, .inl v_now_second)), (a_now_worth, .inl (cI, 6, .inl v_now_worth)), (a_now_winner, .inl (cI, 6, .inl v_now_winner))]) (va_runS (As := [.int x3]) (rest := []) ⟨hx, hb, hml, hown, hts⟩ (tX3_isSide l D cI cJ cZ cB x3 r21 hc22 H.size) (va_cwS 1 hts gX3_year_X3_isSide rfl rfl rfl (by decide +kernel) ⟨Nat.le_of_ble_eq_true rfl, Nat.le_of_ble_eq_true rfl⟩) (k_preS (is := []) hK hP hD rfl rfl) rfl rfl hl.1 rfl (lv_room (Nat.le_of_ble_eq_true rfl)) dX3_year_27 ⟨Nat.zero_le _, Nat.zero_le _⟩) hP hD hS hA [] [0, 1, 2, 3, 4, 5, 6, 7] [0, 1, 2, 3, 4, 5, 6, 7] rfl rfl rfl (by decide) rfl rfl (fun H locs hP hD hS => ?_)
        refine lv_if_ne (tgt := 36) hx hb dX3_year_30 (by decide) (fun c23 => ?_) (fun c23 => ?_)
        · have hf := (if_neg c23).symm.trans hf
          exact J36 v_sitting_decided v_sitting_sunk v_sitting_plaintiffs v_sitting_defendants v_sitting_poor v_sitting_worths _ _ _ hf hP hD hS (lv_sub hl [0, 1, 2, 3] rfl)
        · have hf := (if_pos c23).symm.trans hf
          refine lv_bipush (v := (-2)) hx hb dX3_year_33 (by decide) ?_
          cases hf
          subst hQ
          exact k_ri hx hb hr hlocks hP hD hS dX3_year_35

set_option maxHeartbeats 4000000 in
set_option maxRecDepth 100000 in
theorem tX3_told (l : Launch) (D : va_G) (cI cJ cZ cB : ClassId) (a_this : Nat) (a_now : Nat) (a_now_row : Nat) (o_this_pad : Value) (o_this_images : Value) (o_this_sitting : Value) (o_this_reader : Value) (o_this_trial : Value) (o_this_best : Value) (o_now_full : Value) (o_now_first : Value) (o_now_second : Value) (o_now_worth : Value) (o_now_winner : Value) (o_now_sightWeight : Value) (o_now_sightMany : Value) (x1 : Int32) (v_now_sights : Int32) (v_now_many : Int32) (v_now_law : Int32) (v_now_held : Int32) (v_now_hole : Int32) (v_now_weight : Int32) (v_signs : Int32) (v_now_row : Nat → Int32) (r0 : Int32) (hf : fX3_told x1 v_now_sights v_now_many v_now_law v_now_held v_now_hole v_now_weight v_signs v_now_row = some r0) : MW l yX3_told wsX3_told { frames := 1, cells := 0, slots := 0, locals := 22 } D cI cJ cZ cB [(a_this, .inr (3, [o_this_pad, .int v_signs, .ref a_now, o_this_images, o_this_sitting, o_this_reader, o_this_trial, o_this_best])), (a_now, .inr (0, (.int v_now_weight :: .int v_now_hole :: .int v_now_held :: .int v_now_law :: .int v_now_many :: .int v_now_sights :: o_now_full :: o_now_first :: o_now_second :: o_now_worth :: o_now_winner :: .ref a_now_row :: o_now_sightWeight :: o_now_sightMany :: []))), (a_now_row, .inl (cI, 6, .inl v_now_row))] [.ref a_this, .int x1] (QWi D r0 [(a_this, .inr (3, [o_this_pad, .int v_signs, .ref a_now, o_this_images, o_this_sitting, o_this_reader, o_this_trial, o_this_best])), (a_now, .inr (0, (.int v_now_weight :: .int v_now_hole :: .int v_now_held :: .int v_now_law :: .int v_now_many :: .int v_now_sights :: o_now_full :: o_now_first :: o_now_second :: o_now_worth :: o_now_winner :: .ref a_now_row :: o_now_sightWeight :: o_now_sightMany :: []))), (a_now_row, .inl (cI, 6, .inl v_now_row))]) := by
  refine k_body (cc := cX3_told) (maxL := 2) (ret := (some .int)) (by decide) rfl (Nat.le_of_ble_eq_true rfl) ?_
  intro p e s m args below meth c hx hb hr hml hts hown hlocks hname hK A hA hP hD hS ls hl
  have hl : lv_has ls 2 [(0, .ref a_this), (1, .int x1)] := hl
  generalize hQ : MQ below ((QWi D r0 [(a_this, .inr (3, [o_this_pad, .int v_signs, .ref a_now, o_this_images, o_this_sitting, o_this_reader, o_this_trial, o_this_best])), (a_now, .inr (0, (.int v_now_weight :: .int v_now_hole :: .int v_now_held :: .int v_now_law :: .int v_now_many :: .int v_now_sights :: o_now_full :: o_now_first :: o_now_second :: o_now_worth :: o_now_winner :: .ref a_now_row :: o_now_sightWeight :: o_now_sightMany :: []))), (a_now_row, .inl (cI, 6, .inl v_now_row))]) A) args s 0 0 A = Q
  obtain ⟨H, hH⟩ : ∃ H, H = s.heap := ⟨_, rfl⟩
  obtain ⟨locs, hlo⟩ : ∃ z : List Loc, z = [] := ⟨_, rfl⟩
  have hP : va_P D vwCl [(a_this, .inr (3, [o_this_pad, .int v_signs, .ref a_now, o_this_images, o_this_sitting, o_this_reader, o_this_trial, o_this_best])), (a_now, .inr (0, (.int v_now_weight :: .int v_now_hole :: .int v_now_held :: .int v_now_law :: .int v_now_many :: .int v_now_sights :: o_now_full :: o_now_first :: o_now_second :: o_now_worth :: o_now_winner :: .ref a_now_row :: o_now_sightWeight :: o_now_sightMany :: []))), (a_now_row, .inl (cI, 6, .inl v_now_row))] H := by rw [hH]; exact hP
  have hS : va_S A s.heap H locs := by rw [hH, hlo]; exact hS
  suffices hg : W p l e (headSpec wsX3_told { frames := 1, cells := 0, slots := 0, locals := 22 }).room s m args below meth c H locs 0 0 Q (F0 m 0 ls []) by rw [hH, hlo] at hg; exact hg
  have l13 := hts (.fieldLink RX3 13 "CandleCourt" "signs" "I") (by decide +kernel)
  have l20 := hts (.fieldLink RX3 20 "CandleCourt" "now" "LCandleCourt$Bench;") (by decide +kernel)
  have l80 := hts (.fieldLink RX3 80 "CandleCourt$Bench" "many" "I") (by decide +kernel)
  have l83 := hts (.fieldLink RX3 83 "CandleCourt$Bench" "row" "[I") (by decide +kernel)
  have l138 := hts (.fieldLink RX3 138 "CandleCourt$Bench" "hole" "I") (by decide +kernel)
  have l145 := hts (.fieldLink RX3 145 "CandleCourt$Bench" "weight" "I") (by decide +kernel)
  have l179 := hts (.fieldLink RX3 179 "CandleCourt$Bench" "sights" "I") (by decide +kernel)
  have l204 := hts (.fieldLink RX3 204 "CandleCourt$Bench" "held" "I") (by decide +kernel)
  have l207 := hts (.fieldLink RX3 207 "CandleCourt$Bench" "law" "I") (by decide +kernel)
  have iX0 : ∀ w ∈ wsX00, w ∈ wsX3_told := by decide +kernel
  have iX3 : ∀ w ∈ wsX30, w ∈ wsX3_told := by decide +kernel
  unfold fX3_told at hf
  refine lv_iload_n hx hb dX3_told_0 rfl (lv_at hl 1 rfl) ?_
  by_cases c1 : (x1 : Int32) = 0
  · have hf := (if_pos c1).symm.trans hf
    refine lv_tableIn (off := 43) (tgt := 44) hx hb dX3_told_1 (by rw [c1]; decide) (by rw [c1]; decide) (by rw [c1]; rfl) (by decide) ?_
    refine lv_aload_n hx hb dX3_told_44 rfl (lv_at hl 0 rfl) ?_
    refine va_get (D := D) (ci := 3) (v := .int v_signs) (C := RX3) (T := TX3) (N := 8) hx hb hts iX3 hown hK.1 hP 0 rfl rfl 1 (by decide) l13 (fun _ h9 => h9) rfl dX3_told_45 ?_
    cases hf
    subst hQ
    exact k_ri hx hb hr hlocks hP hD hS dX3_told_48
  have hf := (if_neg c1).symm.trans hf
  by_cases c2 : (x1 : Int32) = 1
  · have hf := (if_pos c2).symm.trans hf
    refine lv_tableIn (off := 48) (tgt := 49) hx hb dX3_told_1 (by rw [c2]; decide) (by rw [c2]; decide) (by rw [c2]; rfl) (by decide) ?_
    refine lv_aload_n hx hb dX3_told_49 rfl (lv_at hl 0 rfl) ?_
    refine va_get (D := D) (ci := 3) (v := .ref a_now) (C := RX3) (T := TX3) (N := 8) hx hb hts iX3 hown hK.1 hP 0 rfl rfl 2 (by decide) l20 (fun _ h9 => h9) rfl dX3_told_50 ?_
    refine va_get (D := D) (ci := 0) (v := .int v_now_weight) (C := RX0) (T := TX0) (N := 14) hx hb hts iX0 hown hK.1 hP 1 rfl rfl 0 (by decide) l145 (fun _ h9 => h9) rfl dX3_told_53 ?_
    cases hf
    subst hQ
    exact k_ri hx hb hr hlocks hP hD hS dX3_told_56
  have hf := (if_neg c2).symm.trans hf
  by_cases c3 : (x1 : Int32) = 2
  · have hf := (if_pos c3).symm.trans hf
    refine lv_tableIn (off := 56) (tgt := 57) hx hb dX3_told_1 (by rw [c3]; decide) (by rw [c3]; decide) (by rw [c3]; rfl) (by decide) ?_
    refine lv_aload_n hx hb dX3_told_57 rfl (lv_at hl 0 rfl) ?_
    refine va_get (D := D) (ci := 3) (v := .ref a_now) (C := RX3) (T := TX3) (N := 8) hx hb hts iX3 hown hK.1 hP 0 rfl rfl 2 (by decide) l20 (fun _ h9 => h9) rfl dX3_told_58 ?_
    refine va_get (D := D) (ci := 0) (v := .int v_now_hole) (C := RX0) (T := TX0) (N := 14) hx hb hts iX0 hown hK.1 hP 1 rfl rfl 1 (by decide) l138 (fun _ h9 => h9) rfl dX3_told_61 ?_
    cases hf
    subst hQ
    exact k_ri hx hb hr hlocks hP hD hS dX3_told_64
  have hf := (if_neg c3).symm.trans hf
  by_cases c4 : (x1 : Int32) = 3
  · have hf := (if_pos c4).symm.trans hf
    refine lv_tableIn (off := 64) (tgt := 65) hx hb dX3_told_1 (by rw [c4]; decide) (by rw [c4]; decide) (by rw [c4]; rfl) (by decide) ?_
    refine lv_aload_n hx hb dX3_told_65 rfl (lv_at hl 0 rfl) ?_
    refine va_get (D := D) (ci := 3) (v := .ref a_now) (C := RX3) (T := TX3) (N := 8) hx hb hts iX3 hown hK.1 hP 0 rfl rfl 2 (by decide) l20 (fun _ h9 => h9) rfl dX3_told_66 ?_
    refine va_get (D := D) (ci := 0) (v := .int v_now_held) (C := RX0) (T := TX0) (N := 14) hx hb hts iX0 hown hK.1 hP 1 rfl rfl 2 (by decide) l204 (fun _ h9 => h9) rfl dX3_told_69 ?_
    cases hf
    subst hQ
    exact k_ri hx hb hr hlocks hP hD hS dX3_told_72
  have hf := (if_neg c4).symm.trans hf
  by_cases c5 : (x1 : Int32) = 4
  · have hf := (if_pos c5).symm.trans hf
    refine lv_tableIn (off := 72) (tgt := 73) hx hb dX3_told_1 (by rw [c5]; decide) (by rw [c5]; decide) (by rw [c5]; rfl) (by decide) ?_
    refine lv_aload_n hx hb dX3_told_73 rfl (lv_at hl 0 rfl) ?_
    refine va_get (D := D) (ci := 3) (v := .ref a_now) (C := RX3) (T := TX3) (N := 8) hx hb hts iX3 hown hK.1 hP 0 rfl rfl 2 (by decide) l20 (fun _ h9 => h9) rfl dX3_told_74 ?_
    refine va_get (D := D) (ci := 0) (v := .int v_now_law) (C := RX0) (T := TX0) (N := 14) hx hb hts iX0 hown hK.1 hP 1 rfl rfl 3 (by decide) l207 (fun _ h9 => h9) rfl dX3_told_77 ?_
    cases hf
    subst hQ
    exact k_ri hx hb hr hlocks hP hD hS dX3_told_80
  have hf := (if_neg c5).symm.trans hf
  by_cases c6 : (x1 : Int32) = 5
  · have hf := (if_pos c6).symm.trans hf
    refine lv_tableIn (off := 80) (tgt := 81) hx hb dX3_told_1 (by rw [c6]; decide) (by rw [c6]; decide) (by rw [c6]; rfl) (by decide) ?_
    refine lv_aload_n hx hb dX3_told_81 rfl (lv_at hl 0 rfl) ?_
    refine va_get (D := D) (ci := 3) (v := .ref a_now) (C := RX3) (T := TX3) (N := 8) hx hb hts iX3 hown hK.1 hP 0 rfl rfl 2 (by decide) l20 (fun _ h9 => h9) rfl dX3_told_82 ?_
    refine va_get (D := D) (ci := 0) (v := .int v_now_many) (C := RX0) (T := TX0) (N := 14) hx hb hts iX0 hown hK.1 hP 1 rfl rfl 4 (by decide) l80 (fun _ h9 => h9) rfl dX3_told_85 ?_
    cases hf
    subst hQ
    exact k_ri hx hb hr hlocks hP hD hS dX3_told_88
  have hf := (if_neg c6).symm.trans hf
  by_cases c7 : (x1 : Int32) = 6
  · have hf := (if_pos c7).symm.trans hf
    refine lv_tableIn (off := 88) (tgt := 89) hx hb dX3_told_1 (by rw [c7]; decide) (by rw [c7]; decide) (by rw [c7]; rfl) (by decide) ?_
    refine lv_aload_n hx hb dX3_told_89 rfl (lv_at hl 0 rfl) ?_
    refine va_get (D := D) (ci := 3) (v := .ref a_now) (C := RX3) (T := TX3) (N := 8) hx hb hts iX3 hown hK.1 hP 0 rfl rfl 2 (by decide) l20 (fun _ h9 => h9) rfl dX3_told_90 ?_
    refine va_get (D := D) (ci := 0) (v := .int v_now_sights) (C := RX0) (T := TX0) (N := 14) hx hb hts iX0 hown hK.1 hP 1 rfl rfl 5 (by decide) l179 (fun _ h9 => h9) rfl dX3_told_93 ?_
    cases hf
    subst hQ
    exact k_ri hx hb hr hlocks hP hD hS dX3_told_96
  have hf := (if_neg c7).symm.trans hf
  have c1z := k_tsw (a := 0) c1 rfl
  have c2z := k_tsw (a := 1) c2 rfl
  have c3z := k_tsw (a := 2) c3 rfl
  have c4z := k_tsw (a := 3) c4 rfl
  have c5z := k_tsw (a := 4) c5 rfl
  have c6z := k_tsw (a := 5) c6 rfl
  have c7z := k_tsw (a := 6) c7 rfl
  refine lv_tableOut (tgt := 97) hx hb dX3_told_1 (by omega) (by decide) ?_
  refine lv_iload_n hx hb dX3_told_97 rfl (lv_at hl 1 rfl) ?_
  refine lv_bipush (v := 10) hx hb dX3_told_98 (by decide) ?_
  refine lv_bipush (v := 9) hx hb dX3_told_100 (by decide) ?_
  refine lv_aload_n hx hb dX3_told_102 rfl (lv_at hl 0 rfl) ?_
  refine va_get (D := D) (ci := 3) (v := .ref a_now) (C := RX3) (T := TX3) (N := 8) hx hb hts iX3 hown hK.1 hP 0 rfl rfl 2 (by decide) l20 (fun _ h9 => h9) rfl dX3_told_103 ?_
  refine va_get (D := D) (ci := 0) (v := .int v_now_many) (C := RX0) (T := TX0) (N := 14) hx hb hts iX0 hown hK.1 hP 1 rfl rfl 4 (by decide) l80 (fun _ h9 => h9) rfl dX3_told_106 ?_
  refine lv_iadd hx hb dX3_told_109 ?_
  obtain ⟨r8, hc9, hf⟩ := bnd1_some hf
  refine k_ci (wc := []) (wr := [(a_this, .inr (3, [o_this_pad, .int v_signs, .ref a_now, o_this_images, o_this_sitting, o_this_reader, o_this_trial, o_this_best])), (a_now, .inr (0, (.int v_now_weight :: .int v_now_hole :: .int v_now_held :: .int v_now_law :: .int v_now_many :: .int v_now_sights :: o_now_full :: o_now_first :: o_now_second :: o_now_worth :: o_now_winner :: .ref a_now_row :: o_now_sightWeight :: o_now_sightMany :: []))), (a_now_row, .inl (cI, 6, .inl v_now_row))]) (w1 := []) (ws' := [(a_this, .inr (3, [o_this_pad, .int v_signs, .ref a_now, o_this_images, o_this_sitting, o_this_reader, o_this_trial, o_this_best])), (a_now, .inr (0, (.int v_now_weight :: .int v_now_hole :: .int v_now_held :: .int v_now_law :: .int v_now_many :: .int v_now_sights :: o_now_full :: o_now_first :: o_now_second :: o_now_worth :: o_now_winner :: .ref a_now_row :: o_now_sightWeight :: o_now_sightMany :: []))), (a_now_row, .inl (cI, 6, .inl v_now_row))]) (va_runS (As := [.int x1, .int 10, .int (9 + v_now_many)]) (rest := []) ⟨hx, hb, hml, hown, hts⟩ (tX3_within l D cI cJ cZ cB x1 10 (9 + v_now_many) r8 hc9 H.size) (va_cwS 3 hts gX3_told_X3_within rfl rfl rfl (by decide +kernel) ⟨Nat.le_of_ble_eq_true rfl, Nat.le_of_ble_eq_true rfl⟩) (k_preS (is := []) hK hP hD rfl rfl) rfl rfl hl.1 rfl (lv_room (Nat.le_of_ble_eq_true rfl)) dX3_told_110 ⟨Nat.zero_le _, Nat.zero_le _⟩) hP hD hS hA [] [0, 1, 2] [0, 1, 2] rfl rfl rfl (by decide) rfl rfl (fun H locs hP hD hS => ?_)
  refine lv_if_eq (tgt := 133) hx hb dX3_told_113 (by decide) (fun c10 => ?_) (fun c10 => ?_)
  · have hf := (if_pos c10).symm.trans hf
    refine lv_bipush (v := (-2)) hx hb dX3_told_133 (by decide) ?_
    cases hf
    subst hQ
    exact k_ri hx hb hr hlocks hP hD hS dX3_told_135
  · have hf := (if_neg c10).symm.trans hf
    refine lv_aload_n hx hb dX3_told_116 rfl (lv_at hl 0 rfl) ?_
    refine va_get (D := D) (ci := 3) (v := .ref a_now) (C := RX3) (T := TX3) (N := 8) hx hb hts iX3 hown hK.1 hP 0 rfl rfl 2 (by decide) l20 (fun _ h9 => h9) rfl dX3_told_117 ?_
    refine va_get (D := D) (ci := 0) (v := .ref a_now_row) (C := RX0) (T := TX0) (N := 14) hx hb hts iX0 hown hK.1 hP 1 rfl rfl 11 (by decide) l83 (fun _ h9 => h9) rfl dX3_told_120 ?_
    refine lv_iload_n hx hb dX3_told_123 rfl (lv_at hl 1 rfl) ?_
    refine lv_bipush (v := 10) hx hb dX3_told_124 (by decide) ?_
    refine lv_isub hx hb dX3_told_126 ?_
    obtain ⟨r11, hc12, hf⟩ := bnd1_some hf
    refine k_ci (wc := [(a_now_row, .inl (cI, 6, .inl v_now_row))]) (wr := [(a_this, .inr (3, [o_this_pad, .int v_signs, .ref a_now, o_this_images, o_this_sitting, o_this_reader, o_this_trial, o_this_best])), (a_now, .inr (0, (.int v_now_weight :: .int v_now_hole :: .int v_now_held :: .int v_now_law :: .int v_now_many :: .int v_now_sights :: o_now_full :: o_now_first :: o_now_second :: o_now_worth :: o_now_winner :: .ref a_now_row :: o_now_sightWeight :: o_now_sightMany :: [])))]) (w1 := [(a_now_row, .inl (cI, 6, .inl v_now_row))]) (ws' := [(a_this, .inr (3, [o_this_pad, .int v_signs, .ref a_now, o_this_images, o_this_sitting, o_this_reader, o_this_trial, o_this_best])), (a_now, .inr (0, (.int v_now_weight :: .int v_now_hole :: .int v_now_held :: .int v_now_law :: .int v_now_many :: .int v_now_sights :: o_now_full :: o_now_first :: o_now_second :: o_now_worth :: o_now_winner :: .ref a_now_row :: o_now_sightWeight :: o_now_sightMany :: []))), (a_now_row, .inl (cI, 6, .inl v_now_row))]) (va_runS (As := [.ref a_now_row, .int (x1 - 10)]) (rest := []) ⟨hx, hb, hml, hown, hts⟩ (tX3_at l D cI cJ cZ cB a_now_row 6 (x1 - 10) v_now_row r11 hc12 H.size) (va_cwS 2 hts gX3_told_X3_at rfl rfl rfl (by decide +kernel) ⟨Nat.le_of_ble_eq_true rfl, Nat.le_of_ble_eq_true rfl⟩) (k_preS (is := [2]) hK hP hD rfl rfl) rfl rfl hl.1 rfl (lv_room (Nat.le_of_ble_eq_true rfl)) dX3_told_127 ⟨Nat.zero_le _, Nat.zero_le _⟩) hP hD hS hA [2] [0, 1] [0, 1, 2] rfl rfl rfl (by decide) rfl rfl (fun H locs hP hD hS => ?_)
    refine lv_goto (tgt := 135) hx hb dX3_told_130 (by decide) ?_
    cases hf
    subst hQ
    exact k_ri hx hb hr hlocks hP hD hS dX3_told_135

set_option maxHeartbeats 4000000 in
set_option maxRecDepth 100000 in
theorem tX3_imageOf (l : Launch) (D : va_G) (cI cJ cZ cB : ClassId) (a_this : Nat) (a_images : Nat) (o_this_pad : Value) (o_this_signs : Value) (o_this_now : Value) (o_this_sitting : Value) (o_this_reader : Value) (o_this_trial : Value) (o_this_best : Value) (x1 : Int32) (v_images : Nat → Option Nat) (r0 : (Option Nat)) (hf : fX3_imageOf x1 v_images = some r0) : MW l yX3_imageOf wsX3_imageOf { frames := 0, cells := 0, slots := 0, locals := 0 } D cI cJ cZ cB [(a_this, .inr (3, [o_this_pad, o_this_signs, o_this_now, .ref a_images, o_this_sitting, o_this_reader, o_this_trial, o_this_best])), (a_images, .inl (cB, 2, .inr (.inr (.inr (.inr v_images)))))] [.ref a_this, .int x1] (QWq D r0 [(a_this, .inr (3, [o_this_pad, o_this_signs, o_this_now, .ref a_images, o_this_sitting, o_this_reader, o_this_trial, o_this_best])), (a_images, .inl (cB, 2, .inr (.inr (.inr (.inr v_images)))))]) := by
  refine k_body (cc := cX3_imageOf) (maxL := 2) (ret := (some (.object "CandleCourt$Bench"))) (by decide) rfl (Nat.le_of_ble_eq_true rfl) ?_
  intro p e s m args below meth c hx hb hr hml hts hown hlocks hname hK A hA hP hD hS ls hl
  have hl : lv_has ls 2 [(0, .ref a_this), (1, .int x1)] := hl
  generalize hQ : MQ below ((QWq D r0 [(a_this, .inr (3, [o_this_pad, o_this_signs, o_this_now, .ref a_images, o_this_sitting, o_this_reader, o_this_trial, o_this_best])), (a_images, .inl (cB, 2, .inr (.inr (.inr (.inr v_images)))))]) A) args s 0 0 A = Q
  obtain ⟨H, hH⟩ : ∃ H, H = s.heap := ⟨_, rfl⟩
  obtain ⟨locs, hlo⟩ : ∃ z : List Loc, z = [] := ⟨_, rfl⟩
  have hP : va_P D vwCl [(a_this, .inr (3, [o_this_pad, o_this_signs, o_this_now, .ref a_images, o_this_sitting, o_this_reader, o_this_trial, o_this_best])), (a_images, .inl (cB, 2, .inr (.inr (.inr (.inr v_images)))))] H := by rw [hH]; exact hP
  have hS : va_S A s.heap H locs := by rw [hH, hlo]; exact hS
  suffices hg : W p l e (headSpec wsX3_imageOf { frames := 0, cells := 0, slots := 0, locals := 0 }).room s m args below meth c H locs 0 0 Q (F0 m 0 ls []) by rw [hH, hlo] at hg; exact hg
  have l24 := hts (.fieldLink RX3 24 "CandleCourt" "images" "[LCandleCourt$Bench;") (by decide +kernel)
  have iX3 : ∀ w ∈ wsX30, w ∈ wsX3_imageOf := by decide +kernel
  unfold fX3_imageOf at hf
  refine lv_iload_n hx hb dX3_imageOf_0 rfl (lv_at hl 1 rfl) ?_
  refine lv_if_lt (tgt := 22) hx hb dX3_imageOf_1 (by decide) (fun c1 => ?_) (fun c1 => ?_)
  · have hf := (if_pos c1).symm.trans hf
    refine lv_null hx hb dX3_imageOf_22 ?_
    cases hf
    subst hQ
    exact k_rq hx hb hr hlocks hP hD hS dX3_imageOf_23
  · have hf := (if_neg c1).symm.trans hf
    refine lv_iload_n hx hb dX3_imageOf_4 rfl (lv_at hl 1 rfl) ?_
    refine lv_aload_n hx hb dX3_imageOf_5 rfl (lv_at hl 0 rfl) ?_
    refine va_get (D := D) (ci := 3) (v := .ref a_images) (C := RX3) (T := TX3) (N := 8) hx hb hts iX3 hown hK.1 hP 0 rfl rfl 3 (by decide) l24 (fun _ h9 => h9) rfl dX3_imageOf_6 ?_
    refine va_alen (D := D) (v := (Int32.ofNat 2)) hx hb hK.1 hP 1 3 rfl rfl rfl dX3_imageOf_9 ?_
    refine lv_icmp_ge (tgt := 22) hx hb dX3_imageOf_10 (by decide) (fun c2 => ?_) (fun c2 => ?_)
    · have hf := (if_pos c2).symm.trans hf
      refine lv_null hx hb dX3_imageOf_22 ?_
      cases hf
      subst hQ
      exact k_rq hx hb hr hlocks hP hD hS dX3_imageOf_23
    · have hf := (if_neg c2).symm.trans hf
      refine lv_aload_n hx hb dX3_imageOf_13 rfl (lv_at hl 0 rfl) ?_
      refine va_get (D := D) (ci := 3) (v := .ref a_images) (C := RX3) (T := TX3) (N := 8) hx hb hts iX3 hown hK.1 hP 0 rfl rfl 3 (by decide) l24 (fun _ h9 => h9) rfl dX3_imageOf_14 ?_
      refine lv_iload_n hx hb dX3_imageOf_17 rfl (lv_at hl 1 rfl) ?_
      obtain ⟨h3, hf⟩ := gd_some hf
      refine va_aldq (D := D) (i := x1) hx hb hK.1 hP 1 3 rfl rfl h3 dX3_imageOf_18 ?_
      refine lv_goto (tgt := 23) hx hb dX3_imageOf_19 (by decide) ?_
      cases hf
      subst hQ
      exact k_rq hx hb hr hlocks hP hD hS dX3_imageOf_23
