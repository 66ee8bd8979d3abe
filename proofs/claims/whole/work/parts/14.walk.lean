set_option maxHeartbeats 4000000 in
set_option maxRecDepth 100000 in
theorem tX3_finger (l : Launch) (D : va_G) (cI cJ cZ cB : ClassId) (a_this : Nat) (a_now : Nat) (a_now_row : Nat) (a_now_first : Nat) (a_now_second : Nat) (o_this_pad : Value) (o_this_signs : Value) (o_this_images : Value) (o_this_sitting : Value) (o_this_reader : Value) (o_this_trial : Value) (o_this_best : Value) (o_now_held : Value) (o_now_law : Value) (o_now_sights : Value) (o_now_full : Value) (o_now_worth : Value) (o_now_winner : Value) (o_now_sightWeight : Value) (o_now_sightMany : Value) (x1 : Int32) (v_now_many : Int32) (v_now_weight : Int32) (v_now_hole : Int32) (v_now_row : Nat → Int32) (v_now_first : Nat → Int32) (v_now_second : Nat → Int32) (r0 : Int32) (hf : fX3_finger x1 v_now_many v_now_weight v_now_hole v_now_row v_now_first v_now_second = some r0) : MW l yX3_finger wsX3_finger { frames := 4, cells := 0, slots := 0, locals := 90 } D cI cJ cZ cB [(a_this, .inr (3, [o_this_pad, o_this_signs, .ref a_now, o_this_images, o_this_sitting, o_this_reader, o_this_trial, o_this_best])), (a_now, .inr (0, (.int v_now_weight :: .int v_now_hole :: o_now_held :: o_now_law :: .int v_now_many :: o_now_sights :: o_now_full :: .ref a_now_first :: .ref a_now_second :: o_now_worth :: o_now_winner :: .ref a_now_row :: o_now_sightWeight :: o_now_sightMany :: []))), (a_now_row, .inl (cI, 6, .inl v_now_row)), (a_now_first, .inl (cI, 6, .inl v_now_first)), (a_now_second, .inl (cI, 6, .inl v_now_second))] [.ref a_this, .int x1] (QWi D r0 [(a_this, .inr (3, [o_this_pad, o_this_signs, .ref a_now, o_this_images, o_this_sitting, o_this_reader, o_this_trial, o_this_best])), (a_now, .inr (0, (.int v_now_weight :: .int v_now_hole :: o_now_held :: o_now_law :: .int v_now_many :: o_now_sights :: o_now_full :: .ref a_now_first :: .ref a_now_second :: o_now_worth :: o_now_winner :: .ref a_now_row :: o_now_sightWeight :: o_now_sightMany :: []))), (a_now_row, .inl (cI, 6, .inl v_now_row)), (a_now_first, .inl (cI, 6, .inl v_now_first)), (a_now_second, .inl (cI, 6, .inl v_now_second))]) := by
  refine k_body (cc := cX3_finger) (maxL := 3) (ret := (some .int)) (by decide) rfl (Nat.le_of_ble_eq_true rfl) ?_
  intro p e s m args below meth c hx hb hr hml hts hown hlocks hname hK A hA hP hD hS ls hl
  have hl : lv_has ls 3 [(0, .ref a_this), (1, .int x1)] := hl
  generalize hQ : MQ below ((QWi D r0 [(a_this, .inr (3, [o_this_pad, o_this_signs, .ref a_now, o_this_images, o_this_sitting, o_this_reader, o_this_trial, o_this_best])), (a_now, .inr (0, (.int v_now_weight :: .int v_now_hole :: o_now_held :: o_now_law :: .int v_now_many :: o_now_sights :: o_now_full :: .ref a_now_first :: .ref a_now_second :: o_now_worth :: o_now_winner :: .ref a_now_row :: o_now_sightWeight :: o_now_sightMany :: []))), (a_now_row, .inl (cI, 6, .inl v_now_row)), (a_now_first, .inl (cI, 6, .inl v_now_first)), (a_now_second, .inl (cI, 6, .inl v_now_second))]) A) args s 0 0 A = Q
  obtain ⟨H, hH⟩ : ∃ H, H = s.heap := ⟨_, rfl⟩
  obtain ⟨locs, hlo⟩ : ∃ z : List Loc, z = [] := ⟨_, rfl⟩
  have hP : va_P D vwCl [(a_this, .inr (3, [o_this_pad, o_this_signs, .ref a_now, o_this_images, o_this_sitting, o_this_reader, o_this_trial, o_this_best])), (a_now, .inr (0, (.int v_now_weight :: .int v_now_hole :: o_now_held :: o_now_law :: .int v_now_many :: o_now_sights :: o_now_full :: .ref a_now_first :: .ref a_now_second :: o_now_worth :: o_now_winner :: .ref a_now_row :: o_now_sightWeight :: o_now_sightMany :: []))), (a_now_row, .inl (cI, 6, .inl v_now_row)), (a_now_first, .inl (cI, 6, .inl v_now_first)), (a_now_second, .inl (cI, 6, .inl v_now_second))] H := by rw [hH]; exact hP
  have hS : va_S A s.heap H locs := by rw [hH, hlo]; exact hS
  suffices hg : W p l e (headSpec wsX3_finger { frames := 4, cells := 0, slots := 0, locals := 90 }).room s m args below meth c H locs 0 0 Q (F0 m 0 ls []) by rw [hH, hlo] at hg; exact hg
  have l20 := hts (.fieldLink RX3 20 "CandleCourt" "now" "LCandleCourt$Bench;") (by decide +kernel)
  have l138 := hts (.fieldLink RX3 138 "CandleCourt$Bench" "hole" "I") (by decide +kernel)
  have l145 := hts (.fieldLink RX3 145 "CandleCourt$Bench" "weight" "I") (by decide +kernel)
  have iX0 : ∀ w ∈ wsX00, w ∈ wsX3_finger := by decide +kernel
  have iX3 : ∀ w ∈ wsX30, w ∈ wsX3_finger := by decide +kernel
  unfold fX3_finger at hf
  refine lv_aload_n hx hb dX3_finger_0 rfl (lv_at hl 0 rfl) ?_
  refine lv_iload_n hx hb dX3_finger_1 rfl (lv_at hl 1 rfl) ?_
  obtain ⟨r1, hc2, hf⟩ := bnd1_some hf
  refine k_ci (wc := [(a_this, .inr (3, [o_this_pad, o_this_signs, .ref a_now, o_this_images, o_this_sitting, o_this_reader, o_this_trial, o_this_best])), (a_now, .inr (0, (.int v_now_weight :: .int v_now_hole :: o_now_held :: o_now_law :: .int v_now_many :: o_now_sights :: o_now_full :: .ref a_now_first :: .ref a_now_second :: o_now_worth :: o_now_winner :: .ref a_now_row :: o_now_sightWeight :: o_now_sightMany :: [])))]) (wr := [(a_now_row, .inl (cI, 6, .inl v_now_row)), (a_now_first, .inl (cI, 6, .inl v_now_first)), (a_now_second, .inl (cI, 6, .inl v_now_second))]) (w1 := [(a_this, .inr (3, [o_this_pad, o_this_signs, .ref a_now, o_this_images, o_this_sitting, o_this_reader, o_this_trial, o_this_best])), (a_now, .inr (0, (.int v_now_weight :: .int v_now_hole :: o_now_held :: o_now_law :: .int v_now_many :: o_now_sights :: o_now_full :: .ref a_now_first :: .ref a_now_second :: o_now_worth :: o_now_winner :: .ref a_now_row :: o_now_sightWeight :: o_now_sightMany :: [])))]) (ws' := [(a_this, .inr (3, [o_this_pad, o_this_signs, .ref a_now, o_this_images, o_this_sitting, o_this_reader, o_this_trial, o_this_best])), (a_now, .inr (0, (.int v_now_weight :: .int v_now_hole :: o_now_held :: o_now_law :: .int v_now_many :: o_now_sights :: o_now_full :: .ref a_now_first :: .ref a_now_second :: o_now_worth :: o_now_winner :: .ref a_now_row :: o_now_sightWeight :: o_now_sightMany :: []))), (a_now_row, .inl (cI, 6, .inl v_now_row)), (a_now_first, .inl (cI, 6, .inl v_now_first)), (a_now_second, .inl (cI, 6, .inl v_now_second))]) (va_runV (As := [.int x1]) (rest := []) ⟨hx, hb, hml, hown, hts⟩ (tX3_isSet l D cI cJ cZ cB a_this a_now o_this_pad o_this_signs o_this_images o_this_sitting o_this_reader o_this_trial o_this_best (.int v_now_weight) (.int v_now_hole) o_now_held o_now_law o_now_sights o_now_full (.ref a_now_first) (.ref a_now_second) o_now_worth o_now_winner (.ref a_now_row) o_now_sightWeight o_now_sightMany x1 v_now_many r1 hc2 H.size) (cwV 1 hts gX3_finger_X3_isSet rfl rfl rfl (by decide +kernel) ⟨Nat.le_of_ble_eq_true rfl, Nat.le_of_ble_eq_true rfl⟩) (k_preV (ci := 3) (q0 := 0) (is := [0, 1]) hK hP hD rfl rfl rfl rfl) rfl rfl hl.1 rfl (lv_room (Nat.le_of_ble_eq_true rfl)) dX3_finger_2 ⟨Nat.zero_le _, Nat.zero_le _⟩) hP hD hS hA [0, 1] [2, 3, 4] [3, 4, 0, 1, 2] rfl rfl rfl (by decide) rfl rfl (fun H locs hP hD hS => ?_)
  refine lv_if_ne (tgt := 11) hx hb dX3_finger_5 (by decide) (fun c3 => ?_) (fun c3 => ?_)
  · have hf := (if_neg c3).symm.trans hf
    refine lv_aload_n hx hb dX3_finger_11 rfl (lv_at hl 0 rfl) ?_
    refine lv_iload_n hx hb dX3_finger_12 rfl (lv_at hl 1 rfl) ?_
    obtain ⟨r4, hc5, hf⟩ := bnd1_some hf
    refine k_ci (wc := [(a_this, .inr (3, [o_this_pad, o_this_signs, .ref a_now, o_this_images, o_this_sitting, o_this_reader, o_this_trial, o_this_best])), (a_now, .inr (0, (.int v_now_weight :: .int v_now_hole :: o_now_held :: o_now_law :: .int v_now_many :: o_now_sights :: o_now_full :: .ref a_now_first :: .ref a_now_second :: o_now_worth :: o_now_winner :: .ref a_now_row :: o_now_sightWeight :: o_now_sightMany :: []))), (a_now_row, .inl (cI, 6, .inl v_now_row)), (a_now_first, .inl (cI, 6, .inl v_now_first)), (a_now_second, .inl (cI, 6, .inl v_now_second))]) (wr := []) (w1 := [(a_this, .inr (3, [o_this_pad, o_this_signs, .ref a_now, o_this_images, o_this_sitting, o_this_reader, o_this_trial, o_this_best])), (a_now, .inr (0, (.int v_now_weight :: .int v_now_hole :: o_now_held :: o_now_law :: .int v_now_many :: o_now_sights :: o_now_full :: .ref a_now_first :: .ref a_now_second :: o_now_worth :: o_now_winner :: .ref a_now_row :: o_now_sightWeight :: o_now_sightMany :: []))), (a_now_row, .inl (cI, 6, .inl v_now_row)), (a_now_first, .inl (cI, 6, .inl v_now_first)), (a_now_second, .inl (cI, 6, .inl v_now_second))]) (ws' := [(a_this, .inr (3, [o_this_pad, o_this_signs, .ref a_now, o_this_images, o_this_sitting, o_this_reader, o_this_trial, o_this_best])), (a_now, .inr (0, (.int v_now_weight :: .int v_now_hole :: o_now_held :: o_now_law :: .int v_now_many :: o_now_sights :: o_now_full :: .ref a_now_first :: .ref a_now_second :: o_now_worth :: o_now_winner :: .ref a_now_row :: o_now_sightWeight :: o_now_sightMany :: []))), (a_now_row, .inl (cI, 6, .inl v_now_row)), (a_now_first, .inl (cI, 6, .inl v_now_first)), (a_now_second, .inl (cI, 6, .inl v_now_second))]) (va_runV (As := [.int x1]) (rest := []) ⟨hx, hb, hml, hown, hts⟩ (tX3_lastEnd l D cI cJ cZ cB a_this a_now a_now_row a_now_first a_now_second o_this_pad o_this_signs o_this_images o_this_sitting o_this_reader o_this_trial o_this_best (.int v_now_weight) (.int v_now_hole) o_now_held o_now_law o_now_sights o_now_full o_now_worth o_now_winner o_now_sightWeight o_now_sightMany x1 v_now_many v_now_row v_now_first v_now_second r4 hc5 H.size) (cwV 1 hts gX3_finger_X3_lastEnd rfl rfl rfl (by decide +kernel) ⟨Nat.le_of_ble_eq_true rfl, Nat.le_of_ble_eq_true rfl⟩) (k_preV (ci := 3) (q0 := 0) (is := [0, 1, 2, 3, 4]) hK hP hD rfl rfl rfl rfl) rfl rfl hl.1 rfl (lv_room (Nat.le_of_ble_eq_true rfl)) dX3_finger_13 ⟨Nat.zero_le _, Nat.zero_le _⟩) hP hD hS hA [0, 1, 2, 3, 4] [] [0, 1, 2, 3, 4] rfl rfl rfl (by decide) rfl rfl (fun H locs hP hD hS => ?_)
    refine lv_aload_n hx hb dX3_finger_16 rfl (lv_at hl 0 rfl) ?_
    refine va_get (D := D) (ci := 3) (v := .ref a_now) (C := RX3) (T := TX3) (N := 8) hx hb hts iX3 hown hK.1 hP 0 rfl rfl 2 (by decide) l20 (fun _ h9 => h9) rfl dX3_finger_17 ?_
    refine va_get (D := D) (ci := 0) (v := .int v_now_weight) (C := RX0) (T := TX0) (N := 14) hx hb hts iX0 hown hK.1 hP 1 rfl rfl 0 (by decide) l145 (fun _ h9 => h9) rfl dX3_finger_20 ?_
    refine lv_aload_n hx hb dX3_finger_23 rfl (lv_at hl 0 rfl) ?_
    refine va_get (D := D) (ci := 3) (v := .ref a_now) (C := RX3) (T := TX3) (N := 8) hx hb hts iX3 hown hK.1 hP 0 rfl rfl 2 (by decide) l20 (fun _ h9 => h9) rfl dX3_finger_24 ?_
    refine va_get (D := D) (ci := 0) (v := .int v_now_hole) (C := RX0) (T := TX0) (N := 14) hx hb hts iX0 hown hK.1 hP 1 rfl rfl 1 (by decide) l138 (fun _ h9 => h9) rfl dX3_finger_27 ?_
    obtain ⟨r6, hc7, hf⟩ := bnd1_some hf
    refine k_ci (wc := []) (wr := [(a_this, .inr (3, [o_this_pad, o_this_signs, .ref a_now, o_this_images, o_this_sitting, o_this_reader, o_this_trial, o_this_best])), (a_now, .inr (0, (.int v_now_weight :: .int v_now_hole :: o_now_held :: o_now_law :: .int v_now_many :: o_now_sights :: o_now_full :: .ref a_now_first :: .ref a_now_second :: o_now_worth :: o_now_winner :: .ref a_now_row :: o_now_sightWeight :: o_now_sightMany :: []))), (a_now_row, .inl (cI, 6, .inl v_now_row)), (a_now_first, .inl (cI, 6, .inl v_now_first)), (a_now_second, .inl (cI, 6, .inl v_now_second))]) (w1 := []) (ws' := [(a_this, .inr (3, [o_this_pad, o_this_signs, .ref a_now, o_this_images, o_this_sitting, o_this_reader, o_this_trial, o_this_best])), (a_now, .inr (0, (.int v_now_weight :: .int v_now_hole :: o_now_held :: o_now_law :: .int v_now_many :: o_now_sights :: o_now_full :: .ref a_now_first :: .ref a_now_second :: o_now_worth :: o_now_winner :: .ref a_now_row :: o_now_sightWeight :: o_now_sightMany :: []))), (a_now_row, .inl (cI, 6, .inl v_now_row)), (a_now_first, .inl (cI, 6, .inl v_now_first)), (a_now_second, .inl (cI, 6, .inl v_now_second))]) (va_runS (As := [.int v_now_weight, .int v_now_hole]) (rest := [.int r4]) ⟨hx, hb, hml, hown, hts⟩ (tX3_burns l D cI cJ cZ cB v_now_weight v_now_hole r6 hc7 H.size) (va_cwS 2 hts gX3_finger_X3_burns rfl rfl rfl (by decide +kernel) ⟨Nat.le_of_ble_eq_true rfl, Nat.le_of_ble_eq_true rfl⟩) (k_preS (is := []) hK hP hD rfl rfl) rfl rfl hl.1 rfl (lv_room (Nat.le_of_ble_eq_true rfl)) dX3_finger_30 ⟨Nat.zero_le _, Nat.zero_le _⟩) hP hD hS hA [] [0, 1, 2, 3, 4] [0, 1, 2, 3, 4] rfl rfl rfl (by decide) rfl rfl (fun H locs hP hD hS => ?_)
    refine lv_isub hx hb dX3_finger_33 ?_
    refine lv_istore_n (lv' := [(2, .int (r4 - r6)), (0, .ref a_this), (1, .int x1)]) hx hb dX3_finger_34 rfl hl (by decide) rfl (fun ls hl => ?_)
    refine lv_iload_n hx hb dX3_finger_35 rfl (lv_at hl 0 rfl) ?_
    refine lv_if_gt (tgt := 41) hx hb dX3_finger_36 (by decide) (fun c8 => ?_) (fun c8 => ?_)
    · have hf := (if_pos c8).symm.trans hf
      refine lv_iload_n hx hb dX3_finger_41 rfl (lv_at hl 0 rfl) ?_
      refine lv_sipush (v := 999) hx hb dX3_finger_42 (by decide) ?_
      refine lv_icmp_le (tgt := 53) hx hb dX3_finger_45 (by decide) (fun c9 => ?_) (fun c9 => ?_)
      · have hf := (if_pos c9).symm.trans hf
        refine lv_iload_n hx hb dX3_finger_53 rfl (lv_at hl 0 rfl) ?_
        cases hf
        subst hQ
        exact k_ri hx hb hr hlocks hP hD hS dX3_finger_54
      · have hf := (if_neg c9).symm.trans hf
        refine lv_bipush (v := (-6)) hx hb dX3_finger_48 (by decide) ?_
        refine lv_goto (tgt := 54) hx hb dX3_finger_50 (by decide) ?_
        cases hf
        subst hQ
        exact k_ri hx hb hr hlocks hP hD hS dX3_finger_54
    · have hf := (if_neg c8).symm.trans hf
      refine lv_iconst (v := 0) hx hb dX3_finger_39 (by decide) ?_
      cases hf
      subst hQ
      exact k_ri hx hb hr hlocks hP hD hS dX3_finger_40
  · have hf := (if_pos c3).symm.trans hf
    refine lv_bipush (v := (-2)) hx hb dX3_finger_8 (by decide) ?_
    cases hf
    subst hQ
    exact k_ri hx hb hr hlocks hP hD hS dX3_finger_10

set_option maxHeartbeats 4000000 in
set_option maxRecDepth 100000 in
theorem tX3_drawnOut (l : Launch) (D : va_G) (cI cJ cZ cB : ClassId) (a_this : Nat) (a_now : Nat) (a_now_row : Nat) (a_now_first : Nat) (a_now_second : Nat) (o_this_pad : Value) (o_this_signs : Value) (o_this_images : Value) (o_this_sitting : Value) (o_this_reader : Value) (o_this_trial : Value) (o_this_best : Value) (o_now_law : Value) (o_now_sights : Value) (o_now_full : Value) (o_now_worth : Value) (o_now_winner : Value) (o_now_sightWeight : Value) (o_now_sightMany : Value) (x1 : Int32) (v_now_many : Int32) (v_now_weight : Int32) (v_now_hole : Int32) (v_now_held : Int32) (v_now_row : Nat → Int32) (v_now_first : Nat → Int32) (v_now_second : Nat → Int32) (r0 : Int32) (hf : fX3_drawnOut x1 v_now_many v_now_weight v_now_hole v_now_held v_now_row v_now_first v_now_second = some r0) : MW l yX3_drawnOut wsX3_drawnOut { frames := 3, cells := 0, slots := 0, locals := 66 } D cI cJ cZ cB [(a_this, .inr (3, [o_this_pad, o_this_signs, .ref a_now, o_this_images, o_this_sitting, o_this_reader, o_this_trial, o_this_best])), (a_now, .inr (0, (.int v_now_weight :: .int v_now_hole :: .int v_now_held :: o_now_law :: .int v_now_many :: o_now_sights :: o_now_full :: .ref a_now_first :: .ref a_now_second :: o_now_worth :: o_now_winner :: .ref a_now_row :: o_now_sightWeight :: o_now_sightMany :: []))), (a_now_row, .inl (cI, 6, .inl v_now_row)), (a_now_first, .inl (cI, 6, .inl v_now_first)), (a_now_second, .inl (cI, 6, .inl v_now_second))] [.ref a_this, .int x1] (QWi D r0 [(a_this, .inr (3, [o_this_pad, o_this_signs, .ref a_now, o_this_images, o_this_sitting, o_this_reader, o_this_trial, o_this_best])), (a_now, .inr (0, (.int v_now_weight :: .int v_now_hole :: .int v_now_held :: o_now_law :: .int v_now_many :: o_now_sights :: o_now_full :: .ref a_now_first :: .ref a_now_second :: o_now_worth :: o_now_winner :: .ref a_now_row :: o_now_sightWeight :: o_now_sightMany :: []))), (a_now_row, .inl (cI, 6, .inl v_now_row)), (a_now_first, .inl (cI, 6, .inl v_now_first)), (a_now_second, .inl (cI, 6, .inl v_now_second))]) := by
  refine k_body (cc := cX3_drawnOut) (maxL := 3) (ret := (some .int)) (by decide) rfl (Nat.le_of_ble_eq_true rfl) ?_
  intro p e s m args below meth c hx hb hr hml hts hown hlocks hname hK A hA hP hD hS ls hl
  have hl : lv_has ls 3 [(0, .ref a_this), (1, .int x1)] := hl
  generalize hQ : MQ below ((QWi D r0 [(a_this, .inr (3, [o_this_pad, o_this_signs, .ref a_now, o_this_images, o_this_sitting, o_this_reader, o_this_trial, o_this_best])), (a_now, .inr (0, (.int v_now_weight :: .int v_now_hole :: .int v_now_held :: o_now_law :: .int v_now_many :: o_now_sights :: o_now_full :: .ref a_now_first :: .ref a_now_second :: o_now_worth :: o_now_winner :: .ref a_now_row :: o_now_sightWeight :: o_now_sightMany :: []))), (a_now_row, .inl (cI, 6, .inl v_now_row)), (a_now_first, .inl (cI, 6, .inl v_now_first)), (a_now_second, .inl (cI, 6, .inl v_now_second))]) A) args s 0 0 A = Q
  obtain ⟨H, hH⟩ : ∃ H, H = s.heap := ⟨_, rfl⟩
  obtain ⟨locs, hlo⟩ : ∃ z : List Loc, z = [] := ⟨_, rfl⟩
  have hP : va_P D vwCl [(a_this, .inr (3, [o_this_pad, o_this_signs, .ref a_now, o_this_images, o_this_sitting, o_this_reader, o_this_trial, o_this_best])), (a_now, .inr (0, (.int v_now_weight :: .int v_now_hole :: .int v_now_held :: o_now_law :: .int v_now_many :: o_now_sights :: o_now_full :: .ref a_now_first :: .ref a_now_second :: o_now_worth :: o_now_winner :: .ref a_now_row :: o_now_sightWeight :: o_now_sightMany :: []))), (a_now_row, .inl (cI, 6, .inl v_now_row)), (a_now_first, .inl (cI, 6, .inl v_now_first)), (a_now_second, .inl (cI, 6, .inl v_now_second))] H := by rw [hH]; exact hP
  have hS : va_S A s.heap H locs := by rw [hH, hlo]; exact hS
  suffices hg : W p l e (headSpec wsX3_drawnOut { frames := 3, cells := 0, slots := 0, locals := 66 }).room s m args below meth c H locs 0 0 Q (F0 m 0 ls []) by rw [hH, hlo] at hg; exact hg
  have l20 := hts (.fieldLink RX3 20 "CandleCourt" "now" "LCandleCourt$Bench;") (by decide +kernel)
  have iX3 : ∀ w ∈ wsX30, w ∈ wsX3_drawnOut := by decide +kernel
  unfold fX3_drawnOut at hf
  refine lv_aload_n hx hb dX3_drawnOut_0 rfl (lv_at hl 0 rfl) ?_
  refine lv_iload_n hx hb dX3_drawnOut_1 rfl (lv_at hl 1 rfl) ?_
  obtain ⟨r1, hc2, hf⟩ := bnd1_some hf
  refine k_ci (wc := [(a_this, .inr (3, [o_this_pad, o_this_signs, .ref a_now, o_this_images, o_this_sitting, o_this_reader, o_this_trial, o_this_best])), (a_now, .inr (0, (.int v_now_weight :: .int v_now_hole :: .int v_now_held :: o_now_law :: .int v_now_many :: o_now_sights :: o_now_full :: .ref a_now_first :: .ref a_now_second :: o_now_worth :: o_now_winner :: .ref a_now_row :: o_now_sightWeight :: o_now_sightMany :: [])))]) (wr := [(a_now_row, .inl (cI, 6, .inl v_now_row)), (a_now_first, .inl (cI, 6, .inl v_now_first)), (a_now_second, .inl (cI, 6, .inl v_now_second))]) (w1 := [(a_this, .inr (3, [o_this_pad, o_this_signs, .ref a_now, o_this_images, o_this_sitting, o_this_reader, o_this_trial, o_this_best])), (a_now, .inr (0, (.int v_now_weight :: .int v_now_hole :: .int v_now_held :: o_now_law :: .int v_now_many :: o_now_sights :: o_now_full :: .ref a_now_first :: .ref a_now_second :: o_now_worth :: o_now_winner :: .ref a_now_row :: o_now_sightWeight :: o_now_sightMany :: [])))]) (ws' := [(a_this, .inr (3, [o_this_pad, o_this_signs, .ref a_now, o_this_images, o_this_sitting, o_this_reader, o_this_trial, o_this_best])), (a_now, .inr (0, (.int v_now_weight :: .int v_now_hole :: .int v_now_held :: o_now_law :: .int v_now_many :: o_now_sights :: o_now_full :: .ref a_now_first :: .ref a_now_second :: o_now_worth :: o_now_winner :: .ref a_now_row :: o_now_sightWeight :: o_now_sightMany :: []))), (a_now_row, .inl (cI, 6, .inl v_now_row)), (a_now_first, .inl (cI, 6, .inl v_now_first)), (a_now_second, .inl (cI, 6, .inl v_now_second))]) (va_runV (As := [.int x1]) (rest := []) ⟨hx, hb, hml, hown, hts⟩ (tX3_isSuit l D cI cJ cZ cB a_this a_now o_this_pad o_this_signs o_this_images o_this_sitting o_this_reader o_this_trial o_this_best (.int v_now_weight) (.int v_now_hole) (.int v_now_held) o_now_law o_now_sights o_now_full (.ref a_now_first) (.ref a_now_second) o_now_worth o_now_winner (.ref a_now_row) o_now_sightWeight o_now_sightMany x1 v_now_many r1 hc2 H.size) (cwV 1 hts gX3_drawnOut_X3_isSuit rfl rfl rfl (by decide +kernel) ⟨Nat.le_of_ble_eq_true rfl, Nat.le_of_ble_eq_true rfl⟩) (k_preV (ci := 3) (q0 := 0) (is := [0, 1]) hK hP hD rfl rfl rfl rfl) rfl rfl hl.1 rfl (lv_room (Nat.le_of_ble_eq_true rfl)) dX3_drawnOut_2 ⟨Nat.zero_le _, Nat.zero_le _⟩) hP hD hS hA [0, 1] [2, 3, 4] [3, 4, 0, 1, 2] rfl rfl rfl (by decide) rfl rfl (fun H locs hP hD hS => ?_)
  refine lv_if_ne (tgt := 10) hx hb dX3_drawnOut_5 (by decide) (fun c3 => ?_) (fun c3 => ?_)
  · have hf := (if_neg c3).symm.trans hf
    refine lv_aload_n hx hb dX3_drawnOut_10 rfl (lv_at hl 0 rfl) ?_
    refine va_get (D := D) (ci := 3) (v := .ref a_now) (C := RX3) (T := TX3) (N := 8) hx hb hts iX3 hown hK.1 hP 0 rfl rfl 2 (by decide) l20 (fun _ h9 => h9) rfl dX3_drawnOut_11 ?_
    obtain ⟨r4, hc5, hf⟩ := bnd1_some hf
    refine k_ci (wc := [(a_now, .inr (0, (.int v_now_weight :: .int v_now_hole :: .int v_now_held :: o_now_law :: .int v_now_many :: o_now_sights :: o_now_full :: .ref a_now_first :: .ref a_now_second :: o_now_worth :: o_now_winner :: .ref a_now_row :: o_now_sightWeight :: o_now_sightMany :: [])))]) (wr := [(a_this, .inr (3, [o_this_pad, o_this_signs, .ref a_now, o_this_images, o_this_sitting, o_this_reader, o_this_trial, o_this_best])), (a_now_row, .inl (cI, 6, .inl v_now_row)), (a_now_first, .inl (cI, 6, .inl v_now_first)), (a_now_second, .inl (cI, 6, .inl v_now_second))]) (w1 := [(a_now, .inr (0, (.int v_now_weight :: .int v_now_hole :: .int v_now_held :: o_now_law :: .int v_now_many :: o_now_sights :: o_now_full :: .ref a_now_first :: .ref a_now_second :: o_now_worth :: o_now_winner :: .ref a_now_row :: o_now_sightWeight :: o_now_sightMany :: [])))]) (ws' := [(a_this, .inr (3, [o_this_pad, o_this_signs, .ref a_now, o_this_images, o_this_sitting, o_this_reader, o_this_trial, o_this_best])), (a_now, .inr (0, (.int v_now_weight :: .int v_now_hole :: .int v_now_held :: o_now_law :: .int v_now_many :: o_now_sights :: o_now_full :: .ref a_now_first :: .ref a_now_second :: o_now_worth :: o_now_winner :: .ref a_now_row :: o_now_sightWeight :: o_now_sightMany :: []))), (a_now_row, .inl (cI, 6, .inl v_now_row)), (a_now_first, .inl (cI, 6, .inl v_now_first)), (a_now_second, .inl (cI, 6, .inl v_now_second))]) (va_runV (As := []) (rest := []) ⟨hx, hb, hml, hown, hts⟩ (tX0_floats l D cI cJ cZ cB a_now o_now_law (.int v_now_many) o_now_sights o_now_full (.ref a_now_first) (.ref a_now_second) o_now_worth o_now_winner (.ref a_now_row) o_now_sightWeight o_now_sightMany v_now_weight v_now_hole v_now_held r4 hc5 H.size) (cwV 0 hts gX3_drawnOut_X0_floats rfl rfl rfl (by decide +kernel) ⟨Nat.le_of_ble_eq_true rfl, Nat.le_of_ble_eq_true rfl⟩) (k_preV (ci := 0) (q0 := 1) (is := [1]) hK hP hD rfl rfl rfl rfl) rfl rfl hl.1 rfl (lv_room (Nat.le_of_ble_eq_true rfl)) dX3_drawnOut_14 ⟨Nat.zero_le _, Nat.zero_le _⟩) hP hD hS hA [1] [0, 2, 3, 4] [0, 4, 1, 2, 3] rfl rfl rfl (by decide) rfl rfl (fun H locs hP hD hS => ?_)
    refine lv_aload_n hx hb dX3_drawnOut_17 rfl (lv_at hl 0 rfl) ?_
    refine va_get (D := D) (ci := 3) (v := .ref a_now) (C := RX3) (T := TX3) (N := 8) hx hb hts iX3 hown hK.1 hP 0 rfl rfl 2 (by decide) l20 (fun _ h9 => h9) rfl dX3_drawnOut_18 ?_
    refine lv_iload_n hx hb dX3_drawnOut_21 rfl (lv_at hl 1 rfl) ?_
    obtain ⟨r6, hc7, hf⟩ := bnd1_some hf
    refine k_ci (wc := [(a_now, .inr (0, (.int v_now_weight :: .int v_now_hole :: .int v_now_held :: o_now_law :: .int v_now_many :: o_now_sights :: o_now_full :: .ref a_now_first :: .ref a_now_second :: o_now_worth :: o_now_winner :: .ref a_now_row :: o_now_sightWeight :: o_now_sightMany :: []))), (a_now_row, .inl (cI, 6, .inl v_now_row)), (a_now_first, .inl (cI, 6, .inl v_now_first)), (a_now_second, .inl (cI, 6, .inl v_now_second))]) (wr := [(a_this, .inr (3, [o_this_pad, o_this_signs, .ref a_now, o_this_images, o_this_sitting, o_this_reader, o_this_trial, o_this_best]))]) (w1 := [(a_now, .inr (0, (.int v_now_weight :: .int v_now_hole :: .int v_now_held :: o_now_law :: .int v_now_many :: o_now_sights :: o_now_full :: .ref a_now_first :: .ref a_now_second :: o_now_worth :: o_now_winner :: .ref a_now_row :: o_now_sightWeight :: o_now_sightMany :: []))), (a_now_row, .inl (cI, 6, .inl v_now_row)), (a_now_first, .inl (cI, 6, .inl v_now_first)), (a_now_second, .inl (cI, 6, .inl v_now_second))]) (ws' := [(a_this, .inr (3, [o_this_pad, o_this_signs, .ref a_now, o_this_images, o_this_sitting, o_this_reader, o_this_trial, o_this_best])), (a_now, .inr (0, (.int v_now_weight :: .int v_now_hole :: .int v_now_held :: o_now_law :: .int v_now_many :: o_now_sights :: o_now_full :: .ref a_now_first :: .ref a_now_second :: o_now_worth :: o_now_winner :: .ref a_now_row :: o_now_sightWeight :: o_now_sightMany :: []))), (a_now_row, .inl (cI, 6, .inl v_now_row)), (a_now_first, .inl (cI, 6, .inl v_now_first)), (a_now_second, .inl (cI, 6, .inl v_now_second))]) (va_runV (As := [.int x1]) (rest := [.int r4]) ⟨hx, hb, hml, hown, hts⟩ (tX0_end l D cI cJ cZ cB a_now a_now_row a_now_first a_now_second (.int v_now_weight) (.int v_now_hole) (.int v_now_held) o_now_law o_now_sights o_now_full o_now_worth o_now_winner o_now_sightWeight o_now_sightMany x1 v_now_many v_now_row v_now_first v_now_second r6 hc7 H.size) (cwV 1 hts gX3_drawnOut_X0_end rfl rfl rfl (by decide +kernel) ⟨Nat.le_of_ble_eq_true rfl, Nat.le_of_ble_eq_true rfl⟩) (k_preV (ci := 0) (q0 := 1) (is := [1, 2, 3, 4]) hK hP hD rfl rfl rfl rfl) rfl rfl hl.1 rfl (lv_room (Nat.le_of_ble_eq_true rfl)) dX3_drawnOut_22 ⟨Nat.zero_le _, Nat.zero_le _⟩) hP hD hS hA [1, 2, 3, 4] [0] [0, 1, 2, 3, 4] rfl rfl rfl (by decide) rfl rfl (fun H locs hP hD hS => ?_)
    refine lv_isub hx hb dX3_drawnOut_25 ?_
    refine lv_istore_n (lv' := [(2, .int (r4 - r6)), (0, .ref a_this), (1, .int x1)]) hx hb dX3_drawnOut_26 rfl hl (by decide) rfl (fun ls hl => ?_)
    refine lv_iload_n hx hb dX3_drawnOut_27 rfl (lv_at hl 0 rfl) ?_
    refine lv_if_ge (tgt := 35) hx hb dX3_drawnOut_28 (by decide) (fun c8 => ?_) (fun c8 => ?_)
    · have hf := (if_pos c8).symm.trans hf
      refine lv_iload_n hx hb dX3_drawnOut_35 rfl (lv_at hl 0 rfl) ?_
      refine lv_iconst (v := 1) hx hb dX3_drawnOut_36 (by decide) ?_
      refine lv_iadd hx hb dX3_drawnOut_37 ?_
      cases hf
      subst hQ
      exact k_ri hx hb hr hlocks hP hD hS dX3_drawnOut_38
    · have hf := (if_neg c8).symm.trans hf
      refine lv_iconst (v := 0) hx hb dX3_drawnOut_31 (by decide) ?_
      refine lv_goto (tgt := 38) hx hb dX3_drawnOut_32 (by decide) ?_
      cases hf
      subst hQ
      exact k_ri hx hb hr hlocks hP hD hS dX3_drawnOut_38
  · have hf := (if_pos c3).symm.trans hf
    refine lv_iconst (v := (-1)) hx hb dX3_drawnOut_8 (by decide) ?_
    cases hf
    subst hQ
    exact k_ri hx hb hr hlocks hP hD hS dX3_drawnOut_9

set_option maxHeartbeats 4000000 in
set_option maxRecDepth 100000 in
theorem tX3_stall (l : Launch) (D : va_G) (cI cJ cZ cB : ClassId) (a_this : Nat) (a_now : Nat) (o_this_pad : Value) (o_this_signs : Value) (o_this_images : Value) (o_this_sitting : Value) (o_this_reader : Value) (o_this_trial : Value) (o_this_best : Value) (o_now_law : Value) (o_now_many : Value) (o_now_sights : Value) (o_now_full : Value) (o_now_first : Value) (o_now_second : Value) (o_now_worth : Value) (o_now_winner : Value) (o_now_row : Value) (o_now_sightWeight : Value) (o_now_sightMany : Value) (x1 : Int32) (x2 : Int32) (x3 : Int32) (v_now_weight : Int32) (v_now_hole : Int32) (v_now_held : Int32) (r0 : Int32) (hf : fX3_stall x1 x2 x3 v_now_weight v_now_hole v_now_held = some r0) : MW l yX3_stall wsX3_stall { frames := 3, cells := 0, slots := 0, locals := 63 } D cI cJ cZ cB [(a_this, .inr (3, [o_this_pad, o_this_signs, .ref a_now, o_this_images, o_this_sitting, o_this_reader, o_this_trial, o_this_best])), (a_now, .inr (0, (.int v_now_weight :: .int v_now_hole :: .int v_now_held :: o_now_law :: o_now_many :: o_now_sights :: o_now_full :: o_now_first :: o_now_second :: o_now_worth :: o_now_winner :: o_now_row :: o_now_sightWeight :: o_now_sightMany :: [])))] [.ref a_this, .int x1, .int x2, .int x3] (QWi D r0 [(a_this, .inr (3, [o_this_pad, o_this_signs, .ref a_now, o_this_images, o_this_sitting, o_this_reader, o_this_trial, o_this_best])), (a_now, .inr (0, (.int v_now_weight :: .int v_now_hole :: .int v_now_held :: o_now_law :: o_now_many :: o_now_sights :: o_now_full :: o_now_first :: o_now_second :: o_now_worth :: o_now_winner :: o_now_row :: o_now_sightWeight :: o_now_sightMany :: [])))]) := by
  refine k_body (cc := cX3_stall) (maxL := 8) (ret := (some .int)) (by decide) rfl (Nat.le_of_ble_eq_true rfl) ?_
  intro p e s m args below meth c hx hb hr hml hts hown hlocks hname hK A hA hP hD hS ls hl
  have hl : lv_has ls 8 [(0, .ref a_this), (1, .int x1), (2, .int x2), (3, .int x3)] := hl
  generalize hQ : MQ below ((QWi D r0 [(a_this, .inr (3, [o_this_pad, o_this_signs, .ref a_now, o_this_images, o_this_sitting, o_this_reader, o_this_trial, o_this_best])), (a_now, .inr (0, (.int v_now_weight :: .int v_now_hole :: .int v_now_held :: o_now_law :: o_now_many :: o_now_sights :: o_now_full :: o_now_first :: o_now_second :: o_now_worth :: o_now_winner :: o_now_row :: o_now_sightWeight :: o_now_sightMany :: [])))]) A) args s 0 0 A = Q
  obtain ⟨H, hH⟩ : ∃ H, H = s.heap := ⟨_, rfl⟩
  obtain ⟨locs, hlo⟩ : ∃ z : List Loc, z = [] := ⟨_, rfl⟩
  have hP : va_P D vwCl [(a_this, .inr (3, [o_this_pad, o_this_signs, .ref a_now, o_this_images, o_this_sitting, o_this_reader, o_this_trial, o_this_best])), (a_now, .inr (0, (.int v_now_weight :: .int v_now_hole :: .int v_now_held :: o_now_law :: o_now_many :: o_now_sights :: o_now_full :: o_now_first :: o_now_second :: o_now_worth :: o_now_winner :: o_now_row :: o_now_sightWeight :: o_now_sightMany :: [])))] H := by rw [hH]; exact hP
  have hS : va_S A s.heap H locs := by rw [hH, hlo]; exact hS
  suffices hg : W p l e (headSpec wsX3_stall { frames := 3, cells := 0, slots := 0, locals := 63 }).room s m args below meth c H locs 0 0 Q (F0 m 0 ls []) by rw [hH, hlo] at hg; exact hg
  have l20 := hts (.fieldLink RX3 20 "CandleCourt" "now" "LCandleCourt$Bench;") (by decide +kernel)
  have iX3 : ∀ w ∈ wsX30, w ∈ wsX3_stall := by decide +kernel
  unfold fX3_stall at hf
  refine lv_iload_n hx hb dX3_stall_0 rfl (lv_at hl 1 rfl) ?_
  refine lv_iconst (v := 0) hx hb dX3_stall_1 (by decide) ?_
  refine lv_aload_n hx hb dX3_stall_2 rfl (lv_at hl 0 rfl) ?_
  refine va_get (D := D) (ci := 3) (v := .ref a_now) (C := RX3) (T := TX3) (N := 8) hx hb hts iX3 hown hK.1 hP 0 rfl rfl 2 (by decide) l20 (fun _ h9 => h9) rfl dX3_stall_3 ?_
  obtain ⟨r1, hc2, hf⟩ := bnd1_some hf
  refine k_ci (wc := [(a_now, .inr (0, (.int v_now_weight :: .int v_now_hole :: .int v_now_held :: o_now_law :: o_now_many :: o_now_sights :: o_now_full :: o_now_first :: o_now_second :: o_now_worth :: o_now_winner :: o_now_row :: o_now_sightWeight :: o_now_sightMany :: [])))]) (wr := [(a_this, .inr (3, [o_this_pad, o_this_signs, .ref a_now, o_this_images, o_this_sitting, o_this_reader, o_this_trial, o_this_best]))]) (w1 := [(a_now, .inr (0, (.int v_now_weight :: .int v_now_hole :: .int v_now_held :: o_now_law :: o_now_many :: o_now_sights :: o_now_full :: o_now_first :: o_now_second :: o_now_worth :: o_now_winner :: o_now_row :: o_now_sightWeight :: o_now_sightMany :: [])))]) (ws' := [(a_this, .inr (3, [o_this_pad, o_this_signs, .ref a_now, o_this_images, o_this_sitting, o_this_reader, o_this_trial, o_this_best])), (a_now, .inr (0, (.int v_now_weight :: .int v_now_hole :: .int v_now_held :: o_now_law :: o_now_many :: o_now_sights :: o_now_full :: o_now_first :: o_now_second :: o_now_worth :: o_now_winner :: o_now_row :: o_now_sightWeight :: o_now_sightMany :: [])))]) (va_runV (As := []) (rest := [.int 0, .int x1]) ⟨hx, hb, hml, hown, hts⟩ (tX0_floats l D cI cJ cZ cB a_now o_now_law o_now_many o_now_sights o_now_full o_now_first o_now_second o_now_worth o_now_winner o_now_row o_now_sightWeight o_now_sightMany v_now_weight v_now_hole v_now_held r1 hc2 H.size) (cwV 0 hts gX3_stall_X0_floats rfl rfl rfl (by decide +kernel) ⟨Nat.le_of_ble_eq_true rfl, Nat.le_of_ble_eq_true rfl⟩) (k_preV (ci := 0) (q0 := 1) (is := [1]) hK hP hD rfl rfl rfl rfl) rfl rfl hl.1 rfl (lv_room (Nat.le_of_ble_eq_true rfl)) dX3_stall_6 ⟨Nat.zero_le _, Nat.zero_le _⟩) hP hD hS hA [1] [0] [0, 1] rfl rfl rfl (by decide) rfl rfl (fun H locs hP hD hS => ?_)
  obtain ⟨r3, hc4, hf⟩ := bnd1_some hf
  refine k_ci (wc := []) (wr := [(a_this, .inr (3, [o_this_pad, o_this_signs, .ref a_now, o_this_images, o_this_sitting, o_this_reader, o_this_trial, o_this_best])), (a_now, .inr (0, (.int v_now_weight :: .int v_now_hole :: .int v_now_held :: o_now_law :: o_now_many :: o_now_sights :: o_now_full :: o_now_first :: o_now_second :: o_now_worth :: o_now_winner :: o_now_row :: o_now_sightWeight :: o_now_sightMany :: [])))]) (w1 := []) (ws' := [(a_this, .inr (3, [o_this_pad, o_this_signs, .ref a_now, o_this_images, o_this_sitting, o_this_reader, o_this_trial, o_this_best])), (a_now, .inr (0, (.int v_now_weight :: .int v_now_hole :: .int v_now_held :: o_now_law :: o_now_many :: o_now_sights :: o_now_full :: o_now_first :: o_now_second :: o_now_worth :: o_now_winner :: o_now_row :: o_now_sightWeight :: o_now_sightMany :: [])))]) (va_runS (As := [.int x1, .int 0, .int r1]) (rest := []) ⟨hx, hb, hml, hown, hts⟩ (tX3_within l D cI cJ cZ cB x1 0 r1 r3 hc4 H.size) (va_cwS 3 hts gX3_stall_X3_within rfl rfl rfl (by decide +kernel) ⟨Nat.le_of_ble_eq_true rfl, Nat.le_of_ble_eq_true rfl⟩) (k_preS (is := []) hK hP hD rfl rfl) rfl rfl hl.1 rfl (lv_room (Nat.le_of_ble_eq_true rfl)) dX3_stall_9 ⟨Nat.zero_le _, Nat.zero_le _⟩) hP hD hS hA [] [0, 1] [0, 1] rfl rfl rfl (by decide) rfl rfl (fun H locs hP hD hS => ?_)
  refine lv_if_eq (tgt := 34) hx hb dX3_stall_12 (by decide) (fun c5 => ?_) (fun c5 => ?_)
  · have hf := (if_pos c5).symm.trans hf
    refine lv_bipush (v := (-2)) hx hb dX3_stall_34 (by decide) ?_
    cases hf
    subst hQ
    exact k_ri hx hb hr hlocks hP hD hS dX3_stall_36
  · have hf := (if_neg c5).symm.trans hf
    refine lv_iload_n hx hb dX3_stall_15 rfl (lv_at hl 2 rfl) ?_
    refine lv_iconst (v := 1) hx hb dX3_stall_16 (by decide) ?_
    refine lv_bipush (v := 9) hx hb dX3_stall_17 (by decide) ?_
    obtain ⟨r6, hc7, hf⟩ := bnd1_some hf
    refine k_ci (wc := []) (wr := [(a_this, .inr (3, [o_this_pad, o_this_signs, .ref a_now, o_this_images, o_this_sitting, o_this_reader, o_this_trial, o_this_best])), (a_now, .inr (0, (.int v_now_weight :: .int v_now_hole :: .int v_now_held :: o_now_law :: o_now_many :: o_now_sights :: o_now_full :: o_now_first :: o_now_second :: o_now_worth :: o_now_winner :: o_now_row :: o_now_sightWeight :: o_now_sightMany :: [])))]) (w1 := []) (ws' := [(a_this, .inr (3, [o_this_pad, o_this_signs, .ref a_now, o_this_images, o_this_sitting, o_this_reader, o_this_trial, o_this_best])), (a_now, .inr (0, (.int v_now_weight :: .int v_now_hole :: .int v_now_held :: o_now_law :: o_now_many :: o_now_sights :: o_now_full :: o_now_first :: o_now_second :: o_now_worth :: o_now_winner :: o_now_row :: o_now_sightWeight :: o_now_sightMany :: [])))]) (va_runS (As := [.int x2, .int 1, .int 9]) (rest := []) ⟨hx, hb, hml, hown, hts⟩ (tX3_within l D cI cJ cZ cB x2 1 9 r6 hc7 H.size) (va_cwS 3 hts gX3_stall_X3_within rfl rfl rfl (by decide +kernel) ⟨Nat.le_of_ble_eq_true rfl, Nat.le_of_ble_eq_true rfl⟩) (k_preS (is := []) hK hP hD rfl rfl) rfl rfl hl.1 rfl (lv_room (Nat.le_of_ble_eq_true rfl)) dX3_stall_19 ⟨Nat.zero_le _, Nat.zero_le _⟩) hP hD hS hA [] [0, 1] [0, 1] rfl rfl rfl (by decide) rfl rfl (fun H locs hP hD hS => ?_)
    refine lv_if_eq (tgt := 34) hx hb dX3_stall_22 (by decide) (fun c8 => ?_) (fun c8 => ?_)
    · have hf := (if_pos c8).symm.trans hf
      refine lv_bipush (v := (-2)) hx hb dX3_stall_34 (by decide) ?_
      cases hf
      subst hQ
      exact k_ri hx hb hr hlocks hP hD hS dX3_stall_36
    · have hf := (if_neg c8).symm.trans hf
      refine lv_iload_n hx hb dX3_stall_25 rfl (lv_at hl 3 rfl) ?_
      refine lv_iconst (v := 0) hx hb dX3_stall_26 (by decide) ?_
      refine lv_iconst (v := 1) hx hb dX3_stall_27 (by decide) ?_
      obtain ⟨r9, hc10, hf⟩ := bnd1_some hf
      refine k_ci (wc := []) (wr := [(a_this, .inr (3, [o_this_pad, o_this_signs, .ref a_now, o_this_images, o_this_sitting, o_this_reader, o_this_trial, o_this_best])), (a_now, .inr (0, (.int v_now_weight :: .int v_now_hole :: .int v_now_held :: o_now_law :: o_now_many :: o_now_sights :: o_now_full :: o_now_first :: o_now_second :: o_now_worth :: o_now_winner :: o_now_row :: o_now_sightWeight :: o_now_sightMany :: [])))]) (w1 := []) (ws' := [(a_this, .inr (3, [o_this_pad, o_this_signs, .ref a_now, o_this_images, o_this_sitting, o_this_reader, o_this_trial, o_this_best])), (a_now, .inr (0, (.int v_now_weight :: .int v_now_hole :: .int v_now_held :: o_now_law :: o_now_many :: o_now_sights :: o_now_full :: o_now_first :: o_now_second :: o_now_worth :: o_now_winner :: o_now_row :: o_now_sightWeight :: o_now_sightMany :: [])))]) (va_runS (As := [.int x3, .int 0, .int 1]) (rest := []) ⟨hx, hb, hml, hown, hts⟩ (tX3_within l D cI cJ cZ cB x3 0 1 r9 hc10 H.size) (va_cwS 3 hts gX3_stall_X3_within rfl rfl rfl (by decide +kernel) ⟨Nat.le_of_ble_eq_true rfl, Nat.le_of_ble_eq_true rfl⟩) (k_preS (is := []) hK hP hD rfl rfl) rfl rfl hl.1 rfl (lv_room (Nat.le_of_ble_eq_true rfl)) dX3_stall_28 ⟨Nat.zero_le _, Nat.zero_le _⟩) hP hD hS hA [] [0, 1] [0, 1] rfl rfl rfl (by decide) rfl rfl (fun H locs hP hD hS => ?_)
      refine lv_if_ne (tgt := 37) hx hb dX3_stall_31 (by decide) (fun c11 => ?_) (fun c11 => ?_)
      · have hf := (if_neg c11).symm.trans hf
        refine lv_aload_n hx hb dX3_stall_37 rfl (lv_at hl 0 rfl) ?_
        refine va_get (D := D) (ci := 3) (v := .ref a_now) (C := RX3) (T := TX3) (N := 8) hx hb hts iX3 hown hK.1 hP 0 rfl rfl 2 (by decide) l20 (fun _ h9 => h9) rfl dX3_stall_38 ?_
        obtain ⟨r12, hc13, hf⟩ := bnd1_some hf
        refine k_ci (wc := [(a_now, .inr (0, (.int v_now_weight :: .int v_now_hole :: .int v_now_held :: o_now_law :: o_now_many :: o_now_sights :: o_now_full :: o_now_first :: o_now_second :: o_now_worth :: o_now_winner :: o_now_row :: o_now_sightWeight :: o_now_sightMany :: [])))]) (wr := [(a_this, .inr (3, [o_this_pad, o_this_signs, .ref a_now, o_this_images, o_this_sitting, o_this_reader, o_this_trial, o_this_best]))]) (w1 := [(a_now, .inr (0, (.int v_now_weight :: .int v_now_hole :: .int v_now_held :: o_now_law :: o_now_many :: o_now_sights :: o_now_full :: o_now_first :: o_now_second :: o_now_worth :: o_now_winner :: o_now_row :: o_now_sightWeight :: o_now_sightMany :: [])))]) (ws' := [(a_this, .inr (3, [o_this_pad, o_this_signs, .ref a_now, o_this_images, o_this_sitting, o_this_reader, o_this_trial, o_this_best])), (a_now, .inr (0, (.int v_now_weight :: .int v_now_hole :: .int v_now_held :: o_now_law :: o_now_many :: o_now_sights :: o_now_full :: o_now_first :: o_now_second :: o_now_worth :: o_now_winner :: o_now_row :: o_now_sightWeight :: o_now_sightMany :: [])))]) (va_runV (As := []) (rest := []) ⟨hx, hb, hml, hown, hts⟩ (tX0_floats l D cI cJ cZ cB a_now o_now_law o_now_many o_now_sights o_now_full o_now_first o_now_second o_now_worth o_now_winner o_now_row o_now_sightWeight o_now_sightMany v_now_weight v_now_hole v_now_held r12 hc13 H.size) (cwV 0 hts gX3_stall_X0_floats rfl rfl rfl (by decide +kernel) ⟨Nat.le_of_ble_eq_true rfl, Nat.le_of_ble_eq_true rfl⟩) (k_preV (ci := 0) (q0 := 1) (is := [1]) hK hP hD rfl rfl rfl rfl) rfl rfl hl.1 rfl (lv_room (Nat.le_of_ble_eq_true rfl)) dX3_stall_41 ⟨Nat.zero_le _, Nat.zero_le _⟩) hP hD hS hA [1] [0] [0, 1] rfl rfl rfl (by decide) rfl rfl (fun H locs hP hD hS => ?_)
        refine lv_iload_n hx hb dX3_stall_44 rfl (lv_at hl 1 rfl) ?_
        refine lv_isub hx hb dX3_stall_45 ?_
        refine lv_bipush (v := 10) hx hb dX3_stall_46 (by decide) ?_
        refine lv_idiv hx hb dX3_stall_48 (by decide) ?_
        refine lv_istore (lv' := [(4, .int ((r12 - x1) / 10)), (0, .ref a_this), (1, .int x1), (2, .int x2), (3, .int x3)]) hx hb dX3_stall_49 hl (by decide) rfl (fun ls hl => ?_)
        refine lv_iload_n hx hb dX3_stall_51 rfl (lv_at hl 3 rfl) ?_
        refine lv_iconst (v := 1) hx hb dX3_stall_52 (by decide) ?_
        refine lv_iadd hx hb dX3_stall_53 ?_
        refine lv_istore (lv' := [(5, .int (x2 + 1)), (4, .int ((r12 - x1) / 10)), (0, .ref a_this), (1, .int x1), (2, .int x2), (3, .int x3)]) hx hb dX3_stall_54 hl (by decide) rfl (fun ls hl => ?_)
        refine lv_iload hx hb dX3_stall_56 (lv_at hl 1 rfl) ?_
        refine lv_iload hx hb dX3_stall_58 (lv_at hl 0 rfl) ?_
        obtain ⟨h14, hf⟩ := gd_some hf
        refine lv_irem hx hb dX3_stall_60 h14 ?_
        refine lv_istore (lv' := [(6, .int (((r12 - x1) / 10) - ((r12 - x1) / 10) / (x2 + 1) * (x2 + 1))), (5, .int (x2 + 1)), (4, .int ((r12 - x1) / 10)), (0, .ref a_this), (1, .int x1), (2, .int x2), (3, .int x3)]) hx hb dX3_stall_61 hl (by decide) rfl (fun ls hl => ?_)
        refine lv_iload hx hb dX3_stall_63 (lv_at hl 2 rfl) ?_
        refine lv_iload hx hb dX3_stall_65 (lv_at hl 1 rfl) ?_
        obtain ⟨h15, hf⟩ := gd_some hf
        refine lv_idiv hx hb dX3_stall_67 h15 ?_
        refine lv_istore (lv' := [(7, .int (((r12 - x1) / 10) / (x2 + 1))), (6, .int (((r12 - x1) / 10) - ((r12 - x1) / 10) / (x2 + 1) * (x2 + 1))), (5, .int (x2 + 1)), (4, .int ((r12 - x1) / 10)), (0, .ref a_this), (1, .int x1), (2, .int x2), (3, .int x3)]) hx hb dX3_stall_68 hl (by decide) rfl (fun ls hl => ?_)
        refine lv_iload_n hx hb dX3_stall_70 rfl (lv_at hl 7 rfl) ?_
        refine lv_if_ne (tgt := 87) hx hb dX3_stall_71 (by decide) (fun c16 => ?_) (fun c16 => ?_)
        · have hf := (if_neg c16).symm.trans hf
          refine lv_iconst (v := 2) hx hb dX3_stall_87 (by decide) ?_
          refine lv_iload hx hb dX3_stall_88 (lv_at hl 0 rfl) ?_
          refine lv_imul hx hb dX3_stall_90 ?_
          refine lv_iload hx hb dX3_stall_91 (lv_at hl 1 rfl) ?_
          refine lv_if_ne (tgt := 100) hx hb dX3_stall_93 (by decide) (fun c17 => ?_) (fun c17 => ?_)
          · have hf := (if_neg c17).symm.trans hf
            refine lv_iconst (v := 2) hx hb dX3_stall_100 (by decide) ?_
            refine lv_iadd hx hb dX3_stall_101 ?_
            cases hf
            subst hQ
            exact k_ri hx hb hr hlocks hP hD hS dX3_stall_102
          · have hf := (if_pos c17).symm.trans hf
            refine lv_iconst (v := 1) hx hb dX3_stall_96 (by decide) ?_
            refine lv_goto (tgt := 101) hx hb dX3_stall_97 (by decide) ?_
            refine lv_iadd hx hb dX3_stall_101 ?_
            cases hf
            subst hQ
            exact k_ri hx hb hr hlocks hP hD hS dX3_stall_102
        · have hf := (if_pos c16).symm.trans hf
          refine lv_iload hx hb dX3_stall_74 (lv_at hl 1 rfl) ?_
          refine lv_if_ne (tgt := 84) hx hb dX3_stall_76 (by decide) (fun c18 => ?_) (fun c18 => ?_)
          · have hf := (if_neg c18).symm.trans hf
            refine lv_iload hx hb dX3_stall_84 (lv_at hl 1 rfl) ?_
            cases hf
            subst hQ
            exact k_ri hx hb hr hlocks hP hD hS dX3_stall_86
          · have hf := (if_pos c18).symm.trans hf
            refine lv_bipush (v := (-6)) hx hb dX3_stall_79 (by decide) ?_
            refine lv_goto (tgt := 86) hx hb dX3_stall_81 (by decide) ?_
            cases hf
            subst hQ
            exact k_ri hx hb hr hlocks hP hD hS dX3_stall_86
      · have hf := (if_pos c11).symm.trans hf
        refine lv_bipush (v := (-2)) hx hb dX3_stall_34 (by decide) ?_
        cases hf
        subst hQ
        exact k_ri hx hb hr hlocks hP hD hS dX3_stall_36

set_option maxHeartbeats 4000000 in
set_option maxRecDepth 100000 in
theorem tX3_isChance (l : Launch) (D : va_G) (cI cJ cZ cB : ClassId) (x0 : Int32) (x1 : Int32) (x2 : Int32) (r0 : Int32) (hf : fX3_isChance x0 x1 x2 = some r0) : MW l yX3_isChance wsX3_isChance { frames := 1, cells := 0, slots := 0, locals := 22 } D cI cJ cZ cB [] [.int x0, .int x1, .int x2] (QWi D r0 []) := by
  refine k_body (cc := cX3_isChance) (maxL := 3) (ret := (some .boolean)) (by decide) rfl (Nat.le_of_ble_eq_true rfl) ?_
  intro p e s m args below meth c hx hb hr hml hts hown hlocks hname hK A hA hP hD hS ls hl
  have hl : lv_has ls 3 [(0, .int x0), (1, .int x1), (2, .int x2)] := hl
  generalize hQ : MQ below ((QWi D r0 []) A) args s 0 0 A = Q
  obtain ⟨H, hH⟩ : ∃ H, H = s.heap := ⟨_, rfl⟩
  obtain ⟨locs, hlo⟩ : ∃ z : List Loc, z = [] := ⟨_, rfl⟩
  have hP : va_P D vwCl [] H := by rw [hH]; exact hP
  have hS : va_S A s.heap H locs := by rw [hH, hlo]; exact hS
  suffices hg : W p l e (headSpec wsX3_isChance { frames := 1, cells := 0, slots := 0, locals := 22 }).room s m args below meth c H locs 0 0 Q (F0 m 0 ls []) by rw [hH, hlo] at hg; exact hg
  unfold fX3_isChance at hf
  refine lv_iload_n hx hb dX3_isChance_0 rfl (lv_at hl 0 rfl) ?_
  refine lv_iconst (v := 0) hx hb dX3_isChance_1 (by decide) ?_
  refine lv_sipush (v := 999) hx hb dX3_isChance_2 (by decide) ?_
  obtain ⟨r1, hc2, hf⟩ := bnd1_some hf
  refine k_ci (wc := []) (wr := []) (w1 := []) (ws' := []) (va_runS (As := [.int x0, .int 0, .int 999]) (rest := []) ⟨hx, hb, hml, hown, hts⟩ (tX3_within l D cI cJ cZ cB x0 0 999 r1 hc2 H.size) (va_cwS 3 hts gX3_isChance_X3_within rfl rfl rfl (by decide +kernel) ⟨Nat.le_of_ble_eq_true rfl, Nat.le_of_ble_eq_true rfl⟩) (k_preS (is := []) hK hP hD rfl rfl) rfl rfl hl.1 rfl (lv_room (Nat.le_of_ble_eq_true rfl)) dX3_isChance_5 ⟨Nat.zero_le _, Nat.zero_le _⟩) hP hD hS hA [] [] [] rfl rfl rfl (by decide) rfl rfl (fun H locs hP hD hS => ?_)
  refine lv_if_eq (tgt := 34) hx hb dX3_isChance_8 (by decide) (fun c3 => ?_) (fun c3 => ?_)
  · have hf := (if_pos c3).symm.trans hf
    refine lv_iconst (v := 0) hx hb dX3_isChance_34 (by decide) ?_
    cases hf
    subst hQ
    exact k_rz hx hb hr hlocks hP hD hS (by decide) dX3_isChance_35
  · have hf := (if_neg c3).symm.trans hf
    refine lv_iload_n hx hb dX3_isChance_11 rfl (lv_at hl 1 rfl) ?_
    refine lv_iconst (v := 0) hx hb dX3_isChance_12 (by decide) ?_
    refine lv_bipush (v := 10) hx hb dX3_isChance_13 (by decide) ?_
    obtain ⟨r4, hc5, hf⟩ := bnd1_some hf
    refine k_ci (wc := []) (wr := []) (w1 := []) (ws' := []) (va_runS (As := [.int x1, .int 0, .int 10]) (rest := []) ⟨hx, hb, hml, hown, hts⟩ (tX3_within l D cI cJ cZ cB x1 0 10 r4 hc5 H.size) (va_cwS 3 hts gX3_isChance_X3_within rfl rfl rfl (by decide +kernel) ⟨Nat.le_of_ble_eq_true rfl, Nat.le_of_ble_eq_true rfl⟩) (k_preS (is := []) hK hP hD rfl rfl) rfl rfl hl.1 rfl (lv_room (Nat.le_of_ble_eq_true rfl)) dX3_isChance_15 ⟨Nat.zero_le _, Nat.zero_le _⟩) hP hD hS hA [] [] [] rfl rfl rfl (by decide) rfl rfl (fun H locs hP hD hS => ?_)
    refine lv_if_eq (tgt := 34) hx hb dX3_isChance_18 (by decide) (fun c6 => ?_) (fun c6 => ?_)
    · have hf := (if_pos c6).symm.trans hf
      refine lv_iconst (v := 0) hx hb dX3_isChance_34 (by decide) ?_
      cases hf
      subst hQ
      exact k_rz hx hb hr hlocks hP hD hS (by decide) dX3_isChance_35
    · have hf := (if_neg c6).symm.trans hf
      refine lv_iload_n hx hb dX3_isChance_21 rfl (lv_at hl 2 rfl) ?_
      refine lv_iconst (v := 0) hx hb dX3_isChance_22 (by decide) ?_
      refine lv_iconst (v := 1) hx hb dX3_isChance_23 (by decide) ?_
      obtain ⟨r7, hc8, hf⟩ := bnd1_some hf
      refine k_ci (wc := []) (wr := []) (w1 := []) (ws' := []) (va_runS (As := [.int x2, .int 0, .int 1]) (rest := []) ⟨hx, hb, hml, hown, hts⟩ (tX3_within l D cI cJ cZ cB x2 0 1 r7 hc8 H.size) (va_cwS 3 hts gX3_isChance_X3_within rfl rfl rfl (by decide +kernel) ⟨Nat.le_of_ble_eq_true rfl, Nat.le_of_ble_eq_true rfl⟩) (k_preS (is := []) hK hP hD rfl rfl) rfl rfl hl.1 rfl (lv_room (Nat.le_of_ble_eq_true rfl)) dX3_isChance_24 ⟨Nat.zero_le _, Nat.zero_le _⟩) hP hD hS hA [] [] [] rfl rfl rfl (by decide) rfl rfl (fun H locs hP hD hS => ?_)
      refine lv_if_eq (tgt := 34) hx hb dX3_isChance_27 (by decide) (fun c9 => ?_) (fun c9 => ?_)
      · have hf := (if_pos c9).symm.trans hf
        refine lv_iconst (v := 0) hx hb dX3_isChance_34 (by decide) ?_
        cases hf
        subst hQ
        exact k_rz hx hb hr hlocks hP hD hS (by decide) dX3_isChance_35
      · have hf := (if_neg c9).symm.trans hf
        refine lv_iconst (v := 1) hx hb dX3_isChance_30 (by decide) ?_
        refine lv_goto (tgt := 35) hx hb dX3_isChance_31 (by decide) ?_
        cases hf
        subst hQ
        exact k_rz hx hb hr hlocks hP hD hS (by decide) dX3_isChance_35

set_option maxHeartbeats 4000000 in
set_option maxRecDepth 100000 in
theorem tX3_sitDrawn (l : Launch) (D : va_G) (cI cJ cZ cB : ClassId) (a_this : Nat) (a_now : Nat) (a_sitting : Nat) (a_now_row : Nat) (a_now_first : Nat) (a_now_second : Nat) (a_now_worth : Nat) (a_now_winner : Nat) (o_this_pad : Value) (o_this_signs : Value) (o_this_images : Value) (o_this_reader : Value) (o_this_trial : Value) (o_this_best : Value) (o_now_sights : Value) (o_now_full : Value) (o_now_sightWeight : Value) (o_now_sightMany : Value) (x1 : Int32) (x2 : Int32) (v_now_weight : Int32) (v_now_hole : Int32) (v_now_held : Int32) (v_sitting_decided : Int32) (v_sitting_sunk : Int32) (v_sitting_plaintiffs : Int32) (v_sitting_defendants : Int32) (v_sitting_poor : Int32) (v_sitting_worths : Int32) (v_now_many : Int32) (v_now_law : Int32) (v_now_row : Nat → Int32) (v_now_first : Nat → Int32) (v_now_second : Nat → Int32) (v_now_worth : Nat → Int32) (v_now_winner : Nat → Int32) (w_sitting_decided : Int32) (w_sitting_sunk : Int32) (w_sitting_plaintiffs : Int32) (w_sitting_defendants : Int32) (w_sitting_poor : Int32) (w_sitting_worths : Int32) (hf : fX3_sitDrawn x1 x2 v_now_weight v_now_hole v_now_held v_now_many v_now_law v_now_row v_now_first v_now_second v_now_worth v_now_winner = some (w_sitting_decided, w_sitting_sunk, w_sitting_plaintiffs, w_sitting_defendants, w_sitting_poor, w_sitting_worths)) : MW l yX3_sitDrawn wsX3_sitDrawn { frames := 3, cells := 0, slots := 0, locals := 72 } D cI cJ cZ cB [(a_this, .inr (3, [o_this_pad, o_this_signs, .ref a_now, o_this_images, .ref a_sitting, o_this_reader, o_this_trial, o_this_best])), (a_now, .inr (0, (.int v_now_weight :: .int v_now_hole :: .int v_now_held :: .int v_now_law :: .int v_now_many :: o_now_sights :: o_now_full :: .ref a_now_first :: .ref a_now_second :: .ref a_now_worth :: .ref a_now_winner :: .ref a_now_row :: o_now_sightWeight :: o_now_sightMany :: []))), (a_sitting, .inr (2, [.int v_sitting_decided, .int v_sitting_sunk, .int v_sitting_plaintiffs, .int v_sitting_defendants, .int v_sitting_poor, .int v_sitting_worths])), (a_now_row, .inl (cI, 6, .inl v_now_row)), (a_now_first, .inl (cI, 6, .inl v_now_first)), (a_now_second, .inl (cI, 6, .inl v_now_second)), (a_now_worth, .inl (cI, 6, .inl v_now_worth)), (a_now_winner, .inl (cI, 6, .inl v_now_winner))] [.ref a_this, .int x1, .int x2] (QWv D [(a_this, .inr (3, [o_this_pad, o_this_signs, .ref a_now, o_this_images, .ref a_sitting, o_this_reader, o_this_trial, o_this_best])), (a_now, .inr (0, (.int v_now_weight :: .int v_now_hole :: .int v_now_held :: .int v_now_law :: .int v_now_many :: o_now_sights :: o_now_full :: .ref a_now_first :: .ref a_now_second :: .ref a_now_worth :: .ref a_now_winner :: .ref a_now_row :: o_now_sightWeight :: o_now_sightMany :: []))), (a_sitting, .inr (2, [.int w_sitting_decided, .int w_sitting_sunk, .int w_sitting_plaintiffs, .int w_sitting_defendants, .int w_sitting_poor, .int w_sitting_worths])), (a_now_row, .inl (cI, 6, .inl v_now_row)), (a_now_first, .inl (cI, 6, .inl v_now_first)), (a_now_second, .inl (cI, 6, .inl v_now_second)), (a_now_worth, .inl (cI, 6, .inl v_now_worth)), (a_now_winner, .inl (cI, 6, .inl v_now_winner))]) := by
  refine k_body (cc := cX3_sitDrawn) (maxL := 3) (ret := none) (by decide) rfl (Nat.le_of_ble_eq_true rfl) ?_
  intro p e s m args below meth c hx hb hr hml hts hown hlocks hname hK A hA hP hD hS ls hl
  have hl : lv_has ls 3 [(0, .ref a_this), (1, .int x1), (2, .int x2)] := hl
  generalize hQ : MQ below ((QWv D [(a_this, .inr (3, [o_this_pad, o_this_signs, .ref a_now, o_this_images, .ref a_sitting, o_this_reader, o_this_trial, o_this_best])), (a_now, .inr (0, (.int v_now_weight :: .int v_now_hole :: .int v_now_held :: .int v_now_law :: .int v_now_many :: o_now_sights :: o_now_full :: .ref a_now_first :: .ref a_now_second :: .ref a_now_worth :: .ref a_now_winner :: .ref a_now_row :: o_now_sightWeight :: o_now_sightMany :: []))), (a_sitting, .inr (2, [.int w_sitting_decided, .int w_sitting_sunk, .int w_sitting_plaintiffs, .int w_sitting_defendants, .int w_sitting_poor, .int w_sitting_worths])), (a_now_row, .inl (cI, 6, .inl v_now_row)), (a_now_first, .inl (cI, 6, .inl v_now_first)), (a_now_second, .inl (cI, 6, .inl v_now_second)), (a_now_worth, .inl (cI, 6, .inl v_now_worth)), (a_now_winner, .inl (cI, 6, .inl v_now_winner))]) A) args s 0 0 A = Q
  obtain ⟨H, hH⟩ : ∃ H, H = s.heap := ⟨_, rfl⟩
  obtain ⟨locs, hlo⟩ : ∃ z : List Loc, z = [] := ⟨_, rfl⟩
  have hP : va_P D vwCl [(a_this, .inr (3, [o_this_pad, o_this_signs, .ref a_now, o_this_images, .ref a_sitting, o_this_reader, o_this_trial, o_this_best])), (a_now, .inr (0, (.int v_now_weight :: .int v_now_hole :: .int v_now_held :: .int v_now_law :: .int v_now_many :: o_now_sights :: o_now_full :: .ref a_now_first :: .ref a_now_second :: .ref a_now_worth :: .ref a_now_winner :: .ref a_now_row :: o_now_sightWeight :: o_now_sightMany :: []))), (a_sitting, .inr (2, [.int v_sitting_decided, .int v_sitting_sunk, .int v_sitting_plaintiffs, .int v_sitting_defendants, .int v_sitting_poor, .int v_sitting_worths])), (a_now_row, .inl (cI, 6, .inl v_now_row)), (a_now_first, .inl (cI, 6, .inl v_now_first)), (a_now_second, .inl (cI, 6, .inl v_now_second)), (a_now_worth, .inl (cI, 6, .inl v_now_worth)), (a_now_winner, .inl (cI, 6, .inl v_now_winner))] H := by rw [hH]; exact hP
  have hS : va_S A s.heap H locs := by rw [hH, hlo]; exact hS
  suffices hg : W p l e (headSpec wsX3_sitDrawn { frames := 3, cells := 0, slots := 0, locals := 72 }).room s m args below meth c H locs 0 0 Q (F0 m 0 ls []) by rw [hH, hlo] at hg; exact hg
  have l20 := hts (.fieldLink RX3 20 "CandleCourt" "now" "LCandleCourt$Bench;") (by decide +kernel)
  have l31 := hts (.fieldLink RX3 31 "CandleCourt" "sitting" "LCandleCourt$Sitting;") (by decide +kernel)
  have l83 := hts (.fieldLink RX3 83 "CandleCourt$Bench" "row" "[I") (by decide +kernel)
  have iX0 : ∀ w ∈ wsX00, w ∈ wsX3_sitDrawn := by decide +kernel
  have iX3 : ∀ w ∈ wsX30, w ∈ wsX3_sitDrawn := by decide +kernel
  unfold fX3_sitDrawn at hf
  refine lv_aload_n hx hb dX3_sitDrawn_0 rfl (lv_at hl 0 rfl) ?_
  refine va_get (D := D) (ci := 3) (v := .ref a_sitting) (C := RX3) (T := TX3) (N := 8) hx hb hts iX3 hown hK.1 hP 0 rfl rfl 4 (by decide) l31 (fun _ h9 => h9) rfl dX3_sitDrawn_1 ?_
  refine lv_aload_n hx hb dX3_sitDrawn_4 rfl (lv_at hl 0 rfl) ?_
  refine va_get (D := D) (ci := 3) (v := .ref a_now) (C := RX3) (T := TX3) (N := 8) hx hb hts iX3 hown hK.1 hP 0 rfl rfl 2 (by decide) l20 (fun _ h9 => h9) rfl dX3_sitDrawn_5 ?_
  refine lv_aload_n hx hb dX3_sitDrawn_8 rfl (lv_at hl 0 rfl) ?_
  refine va_get (D := D) (ci := 3) (v := .ref a_now) (C := RX3) (T := TX3) (N := 8) hx hb hts iX3 hown hK.1 hP 0 rfl rfl 2 (by decide) l20 (fun _ h9 => h9) rfl dX3_sitDrawn_9 ?_
  refine va_get (D := D) (ci := 0) (v := .ref a_now_row) (C := RX0) (T := TX0) (N := 14) hx hb hts iX0 hown hK.1 hP 1 rfl rfl 11 (by decide) l83 (fun _ h9 => h9) rfl dX3_sitDrawn_12 ?_
  refine lv_iconst (v := 0) hx hb dX3_sitDrawn_15 (by decide) ?_
  refine lv_aload_n hx hb dX3_sitDrawn_16 rfl (lv_at hl 0 rfl) ?_
  refine va_get (D := D) (ci := 3) (v := .ref a_now) (C := RX3) (T := TX3) (N := 8) hx hb hts iX3 hown hK.1 hP 0 rfl rfl 2 (by decide) l20 (fun _ h9 => h9) rfl dX3_sitDrawn_17 ?_
  obtain ⟨r1, hc2, hf⟩ := bnd1_some hf
  refine k_ci (wc := [(a_now, .inr (0, (.int v_now_weight :: .int v_now_hole :: .int v_now_held :: .int v_now_law :: .int v_now_many :: o_now_sights :: o_now_full :: .ref a_now_first :: .ref a_now_second :: .ref a_now_worth :: .ref a_now_winner :: .ref a_now_row :: o_now_sightWeight :: o_now_sightMany :: [])))]) (wr := [(a_this, .inr (3, [o_this_pad, o_this_signs, .ref a_now, o_this_images, .ref a_sitting, o_this_reader, o_this_trial, o_this_best])), (a_sitting, .inr (2, [.int v_sitting_decided, .int v_sitting_sunk, .int v_sitting_plaintiffs, .int v_sitting_defendants, .int v_sitting_poor, .int v_sitting_worths])), (a_now_row, .inl (cI, 6, .inl v_now_row)), (a_now_first, .inl (cI, 6, .inl v_now_first)), (a_now_second, .inl (cI, 6, .inl v_now_second)), (a_now_worth, .inl (cI, 6, .inl v_now_worth)), (a_now_winner, .inl (cI, 6, .inl v_now_winner))]) (w1 := [(a_now, .inr (0, (.int v_now_weight :: .int v_now_hole :: .int v_now_held :: .int v_now_law :: .int v_now_many :: o_now_sights :: o_now_full :: .ref a_now_first :: .ref a_now_second :: .ref a_now_worth :: .ref a_now_winner :: .ref a_now_row :: o_now_sightWeight :: o_now_sightMany :: [])))]) (ws' := [(a_this, .inr (3, [o_this_pad, o_this_signs, .ref a_now, o_this_images, .ref a_sitting, o_this_reader, o_this_trial, o_this_best])), (a_now, .inr (0, (.int v_now_weight :: .int v_now_hole :: .int v_now_held :: .int v_now_law :: .int v_now_many :: o_now_sights :: o_now_full :: .ref a_now_first :: .ref a_now_second :: .ref a_now_worth :: .ref a_now_winner :: .ref a_now_row :: o_now_sightWeight :: o_now_sightMany :: []))), (a_sitting, .inr (2, [.int v_sitting_decided, .int v_sitting_sunk, .int v_sitting_plaintiffs, .int v_sitting_defendants, .int v_sitting_poor, .int v_sitting_worths])), (a_now_row, .inl (cI, 6, .inl v_now_row)), (a_now_first, .inl (cI, 6, .inl v_now_first)), (a_now_second, .inl (cI, 6, .inl v_now_second)), (a_now_worth, .inl (cI, 6, .inl v_now_worth)), (a_now_winner, .inl (cI, 6, .inl v_now_winner))]) (va_runV (As := []) (rest := [.int 0, .ref a_now_row, .ref a_now, .ref a_sitting]) ⟨hx, hb, hml, hown, hts⟩ (tX0_floats l D cI cJ cZ cB a_now (.int v_now_law) (.int v_now_many) o_now_sights o_now_full (.ref a_now_first) (.ref a_now_second) (.ref a_now_worth) (.ref a_now_winner) (.ref a_now_row) o_now_sightWeight o_now_sightMany v_now_weight v_now_hole v_now_held r1 hc2 H.size) (cwV 0 hts gX3_sitDrawn_X0_floats rfl rfl rfl (by decide +kernel) ⟨Nat.le_of_ble_eq_true rfl, Nat.le_of_ble_eq_true rfl⟩) (k_preV (ci := 0) (q0 := 1) (is := [1]) hK hP hD rfl rfl rfl rfl) rfl rfl hl.1 rfl (lv_room (Nat.le_of_ble_eq_true rfl)) dX3_sitDrawn_20 ⟨Nat.zero_le _, Nat.zero_le _⟩) hP hD hS hA [1] [0, 2, 3, 4, 5, 6, 7] [0, 7, 1, 2, 3, 4, 5, 6] rfl rfl rfl (by decide) rfl rfl (fun H locs hP hD hS => ?_)
  refine lv_iload_n hx hb dX3_sitDrawn_23 rfl (lv_at hl 1 rfl) ?_
  refine lv_iload_n hx hb dX3_sitDrawn_24 rfl (lv_at hl 2 rfl) ?_
  obtain ⟨u3, u4, u5, u6, u7, u8, hc9, hf⟩ := bnd6_some hf
  refine k_cv (wc := [(a_sitting, .inr (2, [.int v_sitting_decided, .int v_sitting_sunk, .int v_sitting_plaintiffs, .int v_sitting_defendants, .int v_sitting_poor, .int v_sitting_worths])), (a_now, .inr (0, (.int v_now_weight :: .int v_now_hole :: .int v_now_held :: .int v_now_law :: .int v_now_many :: o_now_sights :: o_now_full :: .ref a_now_first :: .ref a_now_second :: .ref a_now_worth :: .ref a_now_winner :: .ref a_now_row :: o_now_sightWeight :: o_now_sightMany :: []))), (a_now_row, .inl (cI, 6, .inl v_now_row)), (a_now_first, .inl (cI, 6, .inl v_now_first)), (a_now_second, .inl (cI, 6, .inl v_now_second)), (a_now_worth, .inl (cI, 6, .inl v_now_worth)), (a_now_winner, .inl (cI, 6, .inl v_now_winner))]) (wr := [(a_this, .inr (3, [o_this_pad, o_this_signs, .ref a_now, o_this_images, .ref a_sitting, o_this_reader, o_this_trial, o_this_best]))]) (w1 := [(a_sitting, .inr (2, [.int u3, .int u4, .int u5, .int u6, .int u7, .int u8])), (a_now, .inr (0, (.int v_now_weight :: .int v_now_hole :: .int v_now_held :: .int v_now_law :: .int v_now_many :: o_now_sights :: o_now_full :: .ref a_now_first :: .ref a_now_second :: .ref a_now_worth :: .ref a_now_winner :: .ref a_now_row :: o_now_sightWeight :: o_now_sightMany :: []))), (a_now_row, .inl (cI, 6, .inl v_now_row)), (a_now_first, .inl (cI, 6, .inl v_now_first)), (a_now_second, .inl (cI, 6, .inl v_now_second)), (a_now_worth, .inl (cI, 6, .inl v_now_worth)), (a_now_winner, .inl (cI, 6, .inl v_now_winner))]) (ws' := [(a_this, .inr (3, [o_this_pad, o_this_signs, .ref a_now, o_this_images, .ref a_sitting, o_this_reader, o_this_trial, o_this_best])), (a_now, .inr (0, (.int v_now_weight :: .int v_now_hole :: .int v_now_held :: .int v_now_law :: .int v_now_many :: o_now_sights :: o_now_full :: .ref a_now_first :: .ref a_now_second :: .ref a_now_worth :: .ref a_now_winner :: .ref a_now_row :: o_now_sightWeight :: o_now_sightMany :: []))), (a_sitting, .inr (2, [.int u3, .int u4, .int u5, .int u6, .int u7, .int u8])), (a_now_row, .inl (cI, 6, .inl v_now_row)), (a_now_first, .inl (cI, 6, .inl v_now_first)), (a_now_second, .inl (cI, 6, .inl v_now_second)), (a_now_worth, .inl (cI, 6, .inl v_now_worth)), (a_now_winner, .inl (cI, 6, .inl v_now_winner))]) (va_runV (As := [.ref a_now, .ref a_now_row, .int 0, .int r1, .int x1, .int x2]) (rest := []) ⟨hx, hb, hml, hown, hts⟩ (tX2_plead l D cI cJ cZ cB a_sitting a_now a_now_row a_now_first a_now_second a_now_worth a_now_winner 6 (.int v_now_weight) (.int v_now_hole) (.int v_now_held) o_now_sights o_now_full (.ref a_now_row) o_now_sightWeight o_now_sightMany 0 r1 x1 x2 v_sitting_decided v_sitting_sunk v_sitting_plaintiffs v_sitting_defendants v_sitting_poor v_sitting_worths v_now_many v_now_law v_now_row v_now_first v_now_second v_now_worth v_now_winner u3 u4 u5 u6 u7 u8 hc9 H.size) (cwV 6 hts gX3_sitDrawn_X2_plead rfl rfl rfl (by decide +kernel) ⟨Nat.le_of_ble_eq_true rfl, Nat.le_of_ble_eq_true rfl⟩) (k_preV (ci := 2) (q0 := 2) (is := [2, 1, 3, 4, 5, 6, 7]) hK hP hD rfl rfl rfl rfl) rfl rfl hl.1 rfl (lv_room (Nat.le_of_ble_eq_true rfl)) dX3_sitDrawn_25 ⟨Nat.zero_le _, Nat.zero_le _⟩) hP hD hS hA [2, 1, 3, 4, 5, 6, 7] [0] [0, 2, 1, 3, 4, 5, 6, 7] rfl rfl rfl (by decide) rfl rfl (fun H locs hP hD hS => ?_)
  cases hf
  subst hQ
  exact k_rv hx hb hr hlocks hP hD hS dX3_sitDrawn_28

set_option maxHeartbeats 4000000 in
set_option maxRecDepth 100000 in
theorem tJ6_bitCount_0f7a4 (l : Launch) (D : va_G) (cI cJ cZ cB : ClassId) (x0 : Int32) (r0 : Int32) (hf : fJ6_bitCount_0f7a4 x0 = some r0) : MW l yJ6_bitCount_0f7a4 wsJ6_bitCount_0f7a4 { frames := 0, cells := 0, slots := 0, locals := 0 } D cI cJ cZ cB [] [.int x0] (QWi D r0 []) := by
  refine k_body (cc := cJ6_bitCount_0f7a4) (maxL := 1) (ret := (some .int)) (by decide) rfl (Nat.le_of_ble_eq_true rfl) ?_
  intro p e s m args below meth c hx hb hr hml hts hown hlocks hname hK A hA hP hD hS ls hl
  have hl : lv_has ls 1 [(0, .int x0)] := hl
  generalize hQ : MQ below ((QWi D r0 []) A) args s 0 0 A = Q
  obtain ⟨H, hH⟩ : ∃ H, H = s.heap := ⟨_, rfl⟩
  obtain ⟨locs, hlo⟩ : ∃ z : List Loc, z = [] := ⟨_, rfl⟩
  have hP : va_P D vwCl [] H := by rw [hH]; exact hP
  have hS : va_S A s.heap H locs := by rw [hH, hlo]; exact hS
  suffices hg : W p l e (headSpec wsJ6_bitCount_0f7a4 { frames := 0, cells := 0, slots := 0, locals := 0 }).room s m args below meth c H locs 0 0 Q (F0 m 0 ls []) by rw [hH, hlo] at hg; exact hg
  unfold fJ6_bitCount_0f7a4 at hf
  refine lv_iload_n hx hb dJ6_bitCount_0f7a4_0 rfl (lv_at hl 0 rfl) ?_
  refine lv_iload_n hx hb dJ6_bitCount_0f7a4_1 rfl (lv_at hl 0 rfl) ?_
  refine lv_iconst (v := 1) hx hb dJ6_bitCount_0f7a4_2 (by decide) ?_
  refine lv_iushr (v := ((Int32.toUInt32 x0 >>> (Int32.toUInt32 1 &&& Int32.toUInt32 31)).toInt32)) hx hb dJ6_bitCount_0f7a4_3 rfl ?_
  refine lv_ldcw (own := RJ6) (v := 1431655765) hx hb hown (hts (.constant RJ6 265 (1431655765)) (by decide +kernel)) dJ6_bitCount_0f7a4_4 ?_
  refine lv_iand hx hb dJ6_bitCount_0f7a4_7 ?_
  refine lv_isub hx hb dJ6_bitCount_0f7a4_8 ?_
  refine lv_istore_n (lv' := [(0, .int (x0 - (((Int32.toUInt32 x0 >>> (Int32.toUInt32 1 &&& Int32.toUInt32 31)).toInt32) &&& 1431655765)))]) hx hb dJ6_bitCount_0f7a4_9 rfl hl (by decide) rfl (fun ls hl => ?_)
  refine lv_iload_n hx hb dJ6_bitCount_0f7a4_10 rfl (lv_at hl 0 rfl) ?_
  refine lv_ldcw (own := RJ6) (v := 858993459) hx hb hown (hts (.constant RJ6 266 (858993459)) (by decide +kernel)) dJ6_bitCount_0f7a4_11 ?_
  refine lv_iand hx hb dJ6_bitCount_0f7a4_14 ?_
  refine lv_iload_n hx hb dJ6_bitCount_0f7a4_15 rfl (lv_at hl 0 rfl) ?_
  refine lv_iconst (v := 2) hx hb dJ6_bitCount_0f7a4_16 (by decide) ?_
  refine lv_iushr (v := ((Int32.toUInt32 (x0 - (((Int32.toUInt32 x0 >>> (Int32.toUInt32 1 &&& Int32.toUInt32 31)).toInt32) &&& 1431655765)) >>> (Int32.toUInt32 2 &&& Int32.toUInt32 31)).toInt32)) hx hb dJ6_bitCount_0f7a4_17 rfl ?_
  refine lv_ldcw (own := RJ6) (v := 858993459) hx hb hown (hts (.constant RJ6 266 (858993459)) (by decide +kernel)) dJ6_bitCount_0f7a4_18 ?_
  refine lv_iand hx hb dJ6_bitCount_0f7a4_21 ?_
  refine lv_iadd hx hb dJ6_bitCount_0f7a4_22 ?_
  refine lv_istore_n (lv' := [(0, .int (((x0 - (((Int32.toUInt32 x0 >>> (Int32.toUInt32 1 &&& Int32.toUInt32 31)).toInt32) &&& 1431655765)) &&& 858993459) + (((Int32.toUInt32 (x0 - (((Int32.toUInt32 x0 >>> (Int32.toUInt32 1 &&& Int32.toUInt32 31)).toInt32) &&& 1431655765)) >>> (Int32.toUInt32 2 &&& Int32.toUInt32 31)).toInt32) &&& 858993459)))]) hx hb dJ6_bitCount_0f7a4_23 rfl hl (by decide) rfl (fun ls hl => ?_)
  refine lv_iload_n hx hb dJ6_bitCount_0f7a4_24 rfl (lv_at hl 0 rfl) ?_
  refine lv_iload_n hx hb dJ6_bitCount_0f7a4_25 rfl (lv_at hl 0 rfl) ?_
  refine lv_iconst (v := 4) hx hb dJ6_bitCount_0f7a4_26 (by decide) ?_
  refine lv_iushr (v := ((Int32.toUInt32 (((x0 - (((Int32.toUInt32 x0 >>> (Int32.toUInt32 1 &&& Int32.toUInt32 31)).toInt32) &&& 1431655765)) &&& 858993459) + (((Int32.toUInt32 (x0 - (((Int32.toUInt32 x0 >>> (Int32.toUInt32 1 &&& Int32.toUInt32 31)).toInt32) &&& 1431655765)) >>> (Int32.toUInt32 2 &&& Int32.toUInt32 31)).toInt32) &&& 858993459)) >>> (Int32.toUInt32 4 &&& Int32.toUInt32 31)).toInt32)) hx hb dJ6_bitCount_0f7a4_27 rfl ?_
  refine lv_iadd hx hb dJ6_bitCount_0f7a4_28 ?_
  refine lv_ldcw (own := RJ6) (v := 252645135) hx hb hown (hts (.constant RJ6 267 (252645135)) (by decide +kernel)) dJ6_bitCount_0f7a4_29 ?_
  refine lv_iand hx hb dJ6_bitCount_0f7a4_32 ?_
  refine lv_istore_n (lv' := [(0, .int (((((x0 - (((Int32.toUInt32 x0 >>> (Int32.toUInt32 1 &&& Int32.toUInt32 31)).toInt32) &&& 1431655765)) &&& 858993459) + (((Int32.toUInt32 (x0 - (((Int32.toUInt32 x0 >>> (Int32.toUInt32 1 &&& Int32.toUInt32 31)).toInt32) &&& 1431655765)) >>> (Int32.toUInt32 2 &&& Int32.toUInt32 31)).toInt32) &&& 858993459)) + ((Int32.toUInt32 (((x0 - (((Int32.toUInt32 x0 >>> (Int32.toUInt32 1 &&& Int32.toUInt32 31)).toInt32) &&& 1431655765)) &&& 858993459) + (((Int32.toUInt32 (x0 - (((Int32.toUInt32 x0 >>> (Int32.toUInt32 1 &&& Int32.toUInt32 31)).toInt32) &&& 1431655765)) >>> (Int32.toUInt32 2 &&& Int32.toUInt32 31)).toInt32) &&& 858993459)) >>> (Int32.toUInt32 4 &&& Int32.toUInt32 31)).toInt32)) &&& 252645135))]) hx hb dJ6_bitCount_0f7a4_33 rfl hl (by decide) rfl (fun ls hl => ?_)
  refine lv_iload_n hx hb dJ6_bitCount_0f7a4_34 rfl (lv_at hl 0 rfl) ?_
  refine lv_iload_n hx hb dJ6_bitCount_0f7a4_35 rfl (lv_at hl 0 rfl) ?_
  refine lv_bipush (v := 8) hx hb dJ6_bitCount_0f7a4_36 (by decide) ?_
  refine lv_iushr (v := ((Int32.toUInt32 (((((x0 - (((Int32.toUInt32 x0 >>> (Int32.toUInt32 1 &&& Int32.toUInt32 31)).toInt32) &&& 1431655765)) &&& 858993459) + (((Int32.toUInt32 (x0 - (((Int32.toUInt32 x0 >>> (Int32.toUInt32 1 &&& Int32.toUInt32 31)).toInt32) &&& 1431655765)) >>> (Int32.toUInt32 2 &&& Int32.toUInt32 31)).toInt32) &&& 858993459)) + ((Int32.toUInt32 (((x0 - (((Int32.toUInt32 x0 >>> (Int32.toUInt32 1 &&& Int32.toUInt32 31)).toInt32) &&& 1431655765)) &&& 858993459) + (((Int32.toUInt32 (x0 - (((Int32.toUInt32 x0 >>> (Int32.toUInt32 1 &&& Int32.toUInt32 31)).toInt32) &&& 1431655765)) >>> (Int32.toUInt32 2 &&& Int32.toUInt32 31)).toInt32) &&& 858993459)) >>> (Int32.toUInt32 4 &&& Int32.toUInt32 31)).toInt32)) &&& 252645135) >>> (Int32.toUInt32 8 &&& Int32.toUInt32 31)).toInt32)) hx hb dJ6_bitCount_0f7a4_38 rfl ?_
  refine lv_iadd hx hb dJ6_bitCount_0f7a4_39 ?_
  refine lv_istore_n (lv' := [(0, .int ((((((x0 - (((Int32.toUInt32 x0 >>> (Int32.toUInt32 1 &&& Int32.toUInt32 31)).toInt32) &&& 1431655765)) &&& 858993459) + (((Int32.toUInt32 (x0 - (((Int32.toUInt32 x0 >>> (Int32.toUInt32 1 &&& Int32.toUInt32 31)).toInt32) &&& 1431655765)) >>> (Int32.toUInt32 2 &&& Int32.toUInt32 31)).toInt32) &&& 858993459)) + ((Int32.toUInt32 (((x0 - (((Int32.toUInt32 x0 >>> (Int32.toUInt32 1 &&& Int32.toUInt32 31)).toInt32) &&& 1431655765)) &&& 858993459) + (((Int32.toUInt32 (x0 - (((Int32.toUInt32 x0 >>> (Int32.toUInt32 1 &&& Int32.toUInt32 31)).toInt32) &&& 1431655765)) >>> (Int32.toUInt32 2 &&& Int32.toUInt32 31)).toInt32) &&& 858993459)) >>> (Int32.toUInt32 4 &&& Int32.toUInt32 31)).toInt32)) &&& 252645135) + ((Int32.toUInt32 (((((x0 - (((Int32.toUInt32 x0 >>> (Int32.toUInt32 1 &&& Int32.toUInt32 31)).toInt32) &&& 1431655765)) &&& 858993459) + (((Int32.toUInt32 (x0 - (((Int32.toUInt32 x0 >>> (Int32.toUInt32 1 &&& Int32.toUInt32 31)).toInt32) &&& 1431655765)) >>> (Int32.toUInt32 2 &&& Int32.toUInt32 31)).toInt32) &&& 858993459)) + ((Int32.toUInt32 (((x0 - (((Int32.toUInt32 x0 >>> (Int32.toUInt32 1 &&& Int32.toUInt32 31)).toInt32) &&& 1431655765)) &&& 858993459) + (((Int32.toUInt32 (x0 - (((Int32.toUInt32 x0 >>> (Int32.toUInt32 1 &&& Int32.toUInt32 31)).toInt32) &&& 1431655765)) >>> (Int32.toUInt32 2 &&& Int32.toUInt32 31)).toInt32) &&& 858993459)) >>> (Int32.toUInt32 4 &&& Int32.toUInt32 31)).toInt32)) &&& 252645135) >>> (Int32.toUInt32 8 &&& Int32.toUInt32 31)).toInt32)))]) hx hb dJ6_bitCount_0f7a4_40 rfl hl (by decide) rfl (fun ls hl => ?_)
  refine lv_iload_n hx hb dJ6_bitCount_0f7a4_41 rfl (lv_at hl 0 rfl) ?_
  refine lv_iload_n hx hb dJ6_bitCount_0f7a4_42 rfl (lv_at hl 0 rfl) ?_
  refine lv_bipush (v := 16) hx hb dJ6_bitCount_0f7a4_43 (by decide) ?_
  refine lv_iushr (v := ((Int32.toUInt32 ((((((x0 - (((Int32.toUInt32 x0 >>> (Int32.toUInt32 1 &&& Int32.toUInt32 31)).toInt32) &&& 1431655765)) &&& 858993459) + (((Int32.toUInt32 (x0 - (((Int32.toUInt32 x0 >>> (Int32.toUInt32 1 &&& Int32.toUInt32 31)).toInt32) &&& 1431655765)) >>> (Int32.toUInt32 2 &&& Int32.toUInt32 31)).toInt32) &&& 858993459)) + ((Int32.toUInt32 (((x0 - (((Int32.toUInt32 x0 >>> (Int32.toUInt32 1 &&& Int32.toUInt32 31)).toInt32) &&& 1431655765)) &&& 858993459) + (((Int32.toUInt32 (x0 - (((Int32.toUInt32 x0 >>> (Int32.toUInt32 1 &&& Int32.toUInt32 31)).toInt32) &&& 1431655765)) >>> (Int32.toUInt32 2 &&& Int32.toUInt32 31)).toInt32) &&& 858993459)) >>> (Int32.toUInt32 4 &&& Int32.toUInt32 31)).toInt32)) &&& 252645135) + ((Int32.toUInt32 (((((x0 - (((Int32.toUInt32 x0 >>> (Int32.toUInt32 1 &&& Int32.toUInt32 31)).toInt32) &&& 1431655765)) &&& 858993459) + (((Int32.toUInt32 (x0 - (((Int32.toUInt32 x0 >>> (Int32.toUInt32 1 &&& Int32.toUInt32 31)).toInt32) &&& 1431655765)) >>> (Int32.toUInt32 2 &&& Int32.toUInt32 31)).toInt32) &&& 858993459)) + ((Int32.toUInt32 (((x0 - (((Int32.toUInt32 x0 >>> (Int32.toUInt32 1 &&& Int32.toUInt32 31)).toInt32) &&& 1431655765)) &&& 858993459) + (((Int32.toUInt32 (x0 - (((Int32.toUInt32 x0 >>> (Int32.toUInt32 1 &&& Int32.toUInt32 31)).toInt32) &&& 1431655765)) >>> (Int32.toUInt32 2 &&& Int32.toUInt32 31)).toInt32) &&& 858993459)) >>> (Int32.toUInt32 4 &&& Int32.toUInt32 31)).toInt32)) &&& 252645135) >>> (Int32.toUInt32 8 &&& Int32.toUInt32 31)).toInt32)) >>> (Int32.toUInt32 16 &&& Int32.toUInt32 31)).toInt32)) hx hb dJ6_bitCount_0f7a4_45 rfl ?_
  refine lv_iadd hx hb dJ6_bitCount_0f7a4_46 ?_
  refine lv_istore_n (lv' := [(0, .int (((((((x0 - (((Int32.toUInt32 x0 >>> (Int32.toUInt32 1 &&& Int32.toUInt32 31)).toInt32) &&& 1431655765)) &&& 858993459) + (((Int32.toUInt32 (x0 - (((Int32.toUInt32 x0 >>> (Int32.toUInt32 1 &&& Int32.toUInt32 31)).toInt32) &&& 1431655765)) >>> (Int32.toUInt32 2 &&& Int32.toUInt32 31)).toInt32) &&& 858993459)) + ((Int32.toUInt32 (((x0 - (((Int32.toUInt32 x0 >>> (Int32.toUInt32 1 &&& Int32.toUInt32 31)).toInt32) &&& 1431655765)) &&& 858993459) + (((Int32.toUInt32 (x0 - (((Int32.toUInt32 x0 >>> (Int32.toUInt32 1 &&& Int32.toUInt32 31)).toInt32) &&& 1431655765)) >>> (Int32.toUInt32 2 &&& Int32.toUInt32 31)).toInt32) &&& 858993459)) >>> (Int32.toUInt32 4 &&& Int32.toUInt32 31)).toInt32)) &&& 252645135) + ((Int32.toUInt32 (((((x0 - (((Int32.toUInt32 x0 >>> (Int32.toUInt32 1 &&& Int32.toUInt32 31)).toInt32) &&& 1431655765)) &&& 858993459) + (((Int32.toUInt32 (x0 - (((Int32.toUInt32 x0 >>> (Int32.toUInt32 1 &&& Int32.toUInt32 31)).toInt32) &&& 1431655765)) >>> (Int32.toUInt32 2 &&& Int32.toUInt32 31)).toInt32) &&& 858993459)) + ((Int32.toUInt32 (((x0 - (((Int32.toUInt32 x0 >>> (Int32.toUInt32 1 &&& Int32.toUInt32 31)).toInt32) &&& 1431655765)) &&& 858993459) + (((Int32.toUInt32 (x0 - (((Int32.toUInt32 x0 >>> (Int32.toUInt32 1 &&& Int32.toUInt32 31)).toInt32) &&& 1431655765)) >>> (Int32.toUInt32 2 &&& Int32.toUInt32 31)).toInt32) &&& 858993459)) >>> (Int32.toUInt32 4 &&& Int32.toUInt32 31)).toInt32)) &&& 252645135) >>> (Int32.toUInt32 8 &&& Int32.toUInt32 31)).toInt32)) + ((Int32.toUInt32 ((((((x0 - (((Int32.toUInt32 x0 >>> (Int32.toUInt32 1 &&& Int32.toUInt32 31)).toInt32) &&& 1431655765)) &&& 858993459) + (((Int32.toUInt32 (x0 - (((Int32.toUInt32 x0 >>> (Int32.toUInt32 1 &&& Int32.toUInt32 31)).toInt32) &&& 1431655765)) >>> (Int32.toUInt32 2 &&& Int32.toUInt32 31)).toInt32) &&& 858993459)) + ((Int32.toUInt32 (((x0 - (((Int32.toUInt32 x0 >>> (Int32.toUInt32 1 &&& Int32.toUInt32 31)).toInt32) &&& 1431655765)) &&& 858993459) + (((Int32.toUInt32 (x0 - (((Int32.toUInt32 x0 >>> (Int32.toUInt32 1 &&& Int32.toUInt32 31)).toInt32) &&& 1431655765)) >>> (Int32.toUInt32 2 &&& Int32.toUInt32 31)).toInt32) &&& 858993459)) >>> (Int32.toUInt32 4 &&& Int32.toUInt32 31)).toInt32)) &&& 252645135) + ((Int32.toUInt32 (((((x0 - (((Int32.toUInt32 x0 >>> (Int32.toUInt32 1 &&& Int32.toUInt32 31)).toInt32) &&& 1431655765)) &&& 858993459) + (((Int32.toUInt32 (x0 - (((Int32.toUInt32 x0 >>> (Int32.toUInt32 1 &&& Int32.toUInt32 31)).toInt32) &&& 1431655765)) >>> (Int32.toUInt32 2 &&& Int32.toUInt32 31)).toInt32) &&& 858993459)) + ((Int32.toUInt32 (((x0 - (((Int32.toUInt32 x0 >>> (Int32.toUInt32 1 &&& Int32.toUInt32 31)).toInt32) &&& 1431655765)) &&& 858993459) + (((Int32.toUInt32 (x0 - (((Int32.toUInt32 x0 >>> (Int32.toUInt32 1 &&& Int32.toUInt32 31)).toInt32) &&& 1431655765)) >>> (Int32.toUInt32 2 &&& Int32.toUInt32 31)).toInt32) &&& 858993459)) >>> (Int32.toUInt32 4 &&& Int32.toUInt32 31)).toInt32)) &&& 252645135) >>> (Int32.toUInt32 8 &&& Int32.toUInt32 31)).toInt32)) >>> (Int32.toUInt32 16 &&& Int32.toUInt32 31)).toInt32)))]) hx hb dJ6_bitCount_0f7a4_47 rfl hl (by decide) rfl (fun ls hl => ?_)
  refine lv_iload_n hx hb dJ6_bitCount_0f7a4_48 rfl (lv_at hl 0 rfl) ?_
  refine lv_bipush (v := 63) hx hb dJ6_bitCount_0f7a4_49 (by decide) ?_
  refine lv_iand hx hb dJ6_bitCount_0f7a4_51 ?_
  cases hf
  subst hQ
  exact k_ri hx hb hr hlocks hP hD hS dJ6_bitCount_0f7a4_52

set_option maxHeartbeats 4000000 in
set_option maxRecDepth 100000 in
theorem tX3_power (l : Launch) (D : va_G) (cI cJ cZ cB : ClassId) (x0 : Int32) (x1 : Int32) (r0 : Int64) (hf : fX3_power x0 x1 = some r0) : MW l yX3_power wsX3_power { frames := 0, cells := 0, slots := 0, locals := 0 } D cI cJ cZ cB [] [.int x0, .int x1] (QWl D r0 []) := by
  refine k_body (cc := cX3_power) (maxL := 5) (ret := (some .long)) (by decide) rfl (Nat.le_of_ble_eq_true rfl) ?_
  intro p e s m args below meth c hx hb hr hml hts hown hlocks hname hK A hA hP hD hS ls hl
  have hl : lv_has ls 5 [(0, .int x0), (1, .int x1)] := hl
  generalize hQ : MQ below ((QWl D r0 []) A) args s 0 0 A = Q
  obtain ⟨H, hH⟩ : ∃ H, H = s.heap := ⟨_, rfl⟩
  obtain ⟨locs, hlo⟩ : ∃ z : List Loc, z = [] := ⟨_, rfl⟩
  have hP : va_P D vwCl [] H := by rw [hH]; exact hP
  have hS : va_S A s.heap H locs := by rw [hH, hlo]; exact hS
  suffices hg : W p l e (headSpec wsX3_power { frames := 0, cells := 0, slots := 0, locals := 0 }).room s m args below meth c H locs 0 0 Q (F0 m 0 ls []) by rw [hH, hlo] at hg; exact hg
  unfold fX3_power at hf
  refine lv_lconst (v := 1) hx hb dX3_power_0 (by decide) ?_
  refine lv_lstore_n (lv' := [(2, .long 1), (0, .int x0), (1, .int x1)]) hx hb dX3_power_1 rfl hl (by decide) rfl (fun ls hl => ?_)
  refine lv_iconst (v := 0) hx hb dX3_power_2 (by decide) ?_
  refine lv_istore (lv' := [(4, .int 0), (2, .long 1), (0, .int x0), (1, .int x1)]) hx hb dX3_power_3 hl (by decide) rfl (fun ls hl => ?_)
  have L5 : ∀ (n5 : Nat) (x2_5 : Int64) (x4_5 : Int32) (H : Heap) (locs : List Loc) (ls : Array Slot), fX3_power_l5 x0 x1 n5 x2_5 x4_5 = some r0 → va_P D vwCl [] H → va_D A [] → va_S A s.heap H locs → lv_has ls 5 [(0, .int x0), (1, .int x1), (2, .long x2_5), (4, .int x4_5)] → W p l e (headSpec wsX3_power { frames := 0, cells := 0, slots := 0, locals := 0 }).room s m args below meth c H locs 0 0 Q (F0 m 5 ls []) := by
    intro n5
    induction n5 with
    | zero =>
      intro x2_5 x4_5 H locs ls hf
      have hf : (none : Option (Int64)) = some r0 := hf
      cases hf
    | succ n5 ih5 =>
      intro x2_5 x4_5 H locs ls hf hP hD hS hl
      rw [fX3_power_l5] at hf
      refine lv_iload hx hb dX3_power_5 (lv_at hl 3 rfl) ?_
      refine lv_iload_n hx hb dX3_power_7 rfl (lv_at hl 1 rfl) ?_
      refine lv_icmp_ge (tgt := 22) hx hb dX3_power_8 (by decide) (fun c1 => ?_) (fun c1 => ?_)
      · have hf := (if_pos c1).symm.trans hf
        refine lv_lload_n hx hb dX3_power_22 rfl (lv_at hl 2 rfl) ?_
        cases hf
        subst hQ
        exact k_rl hx hb hr hlocks hP hD hS dX3_power_23
      · have hf := (if_neg c1).symm.trans hf
        refine lv_lload_n hx hb dX3_power_11 rfl (lv_at hl 2 rfl) ?_
        refine lv_iload_n hx hb dX3_power_12 rfl (lv_at hl 0 rfl) ?_
        refine lv_i2l (v := Int32.toInt64 x0) hx hb dX3_power_13 rfl ?_
        refine lv_lmul hx hb dX3_power_14 ?_
        refine lv_lstore_n (lv' := [(2, .long (x2_5 * (Int32.toInt64 x0))), (0, .int x0), (1, .int x1), (4, .int x4_5)]) hx hb dX3_power_15 rfl hl (by decide) rfl (fun ls hl => ?_)
        refine lv_iinc (v := (x4_5 + 1)) (lv' := [(4, .int (x4_5 + 1)), (2, .long (x2_5 * (Int32.toInt64 x0))), (0, .int x0), (1, .int x1)]) hx hb dX3_power_16 hl (k := 3) rfl (by rfl) (by decide) rfl (fun ls hl => ?_)
        refine lv_goto (tgt := 5) hx hb dX3_power_19 (by decide) ?_
        exact ih5 (x2_5 * (Int32.toInt64 x0)) (x4_5 + 1) _ _ _ hf hP hD hS (lv_sub hl [2, 3, 1, 0] rfl)
  exact L5 FU 1 0 _ _ _ hf hP hD hS (lv_sub hl [2, 3, 1, 0] rfl)

set_option maxHeartbeats 4000000 in
set_option maxRecDepth 100000 in
theorem tX3_waysOf (l : Launch) (D : va_G) (cI cJ cZ cB : ClassId) (a_this : Nat) (a_now : Nat) (o_this_pad : Value) (o_this_signs : Value) (o_this_images : Value) (o_this_sitting : Value) (o_this_reader : Value) (o_this_trial : Value) (o_this_best : Value) (o_now_weight : Value) (o_now_hole : Value) (o_now_held : Value) (o_now_law : Value) (o_now_sights : Value) (o_now_full : Value) (o_now_first : Value) (o_now_second : Value) (o_now_worth : Value) (o_now_winner : Value) (o_now_row : Value) (o_now_sightWeight : Value) (o_now_sightMany : Value) (x1 : Int32) (x2 : Int32) (v_now_many : Int32) (r0 : Int64) (hf : fX3_waysOf x1 x2 v_now_many = some r0) : MW l yX3_waysOf wsX3_waysOf { frames := 1, cells := 0, slots := 0, locals := 24 } D cI cJ cZ cB [(a_this, .inr (3, [o_this_pad, o_this_signs, .ref a_now, o_this_images, o_this_sitting, o_this_reader, o_this_trial, o_this_best])), (a_now, .inr (0, (o_now_weight :: o_now_hole :: o_now_held :: o_now_law :: .int v_now_many :: o_now_sights :: o_now_full :: o_now_first :: o_now_second :: o_now_worth :: o_now_winner :: o_now_row :: o_now_sightWeight :: o_now_sightMany :: [])))] [.ref a_this, .int x1, .int x2] (QWl D r0 [(a_this, .inr (3, [o_this_pad, o_this_signs, .ref a_now, o_this_images, o_this_sitting, o_this_reader, o_this_trial, o_this_best])), (a_now, .inr (0, (o_now_weight :: o_now_hole :: o_now_held :: o_now_law :: .int v_now_many :: o_now_sights :: o_now_full :: o_now_first :: o_now_second :: o_now_worth :: o_now_winner :: o_now_row :: o_now_sightWeight :: o_now_sightMany :: [])))]) := by
  refine k_body (cc := cX3_waysOf) (maxL := 4) (ret := (some .long)) (by decide) rfl (Nat.le_of_ble_eq_true rfl) ?_
  intro p e s m args below meth c hx hb hr hml hts hown hlocks hname hK A hA hP hD hS ls hl
  have hl : lv_has ls 4 [(0, .ref a_this), (1, .int x1), (2, .int x2)] := hl
  generalize hQ : MQ below ((QWl D r0 [(a_this, .inr (3, [o_this_pad, o_this_signs, .ref a_now, o_this_images, o_this_sitting, o_this_reader, o_this_trial, o_this_best])), (a_now, .inr (0, (o_now_weight :: o_now_hole :: o_now_held :: o_now_law :: .int v_now_many :: o_now_sights :: o_now_full :: o_now_first :: o_now_second :: o_now_worth :: o_now_winner :: o_now_row :: o_now_sightWeight :: o_now_sightMany :: [])))]) A) args s 0 0 A = Q
  obtain ⟨H, hH⟩ : ∃ H, H = s.heap := ⟨_, rfl⟩
  obtain ⟨locs, hlo⟩ : ∃ z : List Loc, z = [] := ⟨_, rfl⟩
  have hP : va_P D vwCl [(a_this, .inr (3, [o_this_pad, o_this_signs, .ref a_now, o_this_images, o_this_sitting, o_this_reader, o_this_trial, o_this_best])), (a_now, .inr (0, (o_now_weight :: o_now_hole :: o_now_held :: o_now_law :: .int v_now_many :: o_now_sights :: o_now_full :: o_now_first :: o_now_second :: o_now_worth :: o_now_winner :: o_now_row :: o_now_sightWeight :: o_now_sightMany :: [])))] H := by rw [hH]; exact hP
  have hS : va_S A s.heap H locs := by rw [hH, hlo]; exact hS
  suffices hg : W p l e (headSpec wsX3_waysOf { frames := 1, cells := 0, slots := 0, locals := 24 }).room s m args below meth c H locs 0 0 Q (F0 m 0 ls []) by rw [hH, hlo] at hg; exact hg
  have l20 := hts (.fieldLink RX3 20 "CandleCourt" "now" "LCandleCourt$Bench;") (by decide +kernel)
  have l80 := hts (.fieldLink RX3 80 "CandleCourt$Bench" "many" "I") (by decide +kernel)
  have iX0 : ∀ w ∈ wsX00, w ∈ wsX3_waysOf := by decide +kernel
  have iX3 : ∀ w ∈ wsX30, w ∈ wsX3_waysOf := by decide +kernel
  unfold fX3_waysOf at hf
  refine lv_iload_n hx hb dX3_waysOf_0 rfl (lv_at hl 1 rfl) ?_
  obtain ⟨r1, hc2, hf⟩ := bnd1_some hf
  refine k_ci (wc := []) (wr := [(a_this, .inr (3, [o_this_pad, o_this_signs, .ref a_now, o_this_images, o_this_sitting, o_this_reader, o_this_trial, o_this_best])), (a_now, .inr (0, (o_now_weight :: o_now_hole :: o_now_held :: o_now_law :: .int v_now_many :: o_now_sights :: o_now_full :: o_now_first :: o_now_second :: o_now_worth :: o_now_winner :: o_now_row :: o_now_sightWeight :: o_now_sightMany :: [])))]) (w1 := []) (ws' := [(a_this, .inr (3, [o_this_pad, o_this_signs, .ref a_now, o_this_images, o_this_sitting, o_this_reader, o_this_trial, o_this_best])), (a_now, .inr (0, (o_now_weight :: o_now_hole :: o_now_held :: o_now_law :: .int v_now_many :: o_now_sights :: o_now_full :: o_now_first :: o_now_second :: o_now_worth :: o_now_winner :: o_now_row :: o_now_sightWeight :: o_now_sightMany :: [])))]) (va_runS (As := [.int x1]) (rest := []) ⟨hx, hb, hml, hown, hts⟩ (tJ6_bitCount_0f7a4 l D cI cJ cZ cB x1 r1 hc2 H.size) (va_cwS 1 hts gX3_waysOf_J6_bitCount_0f7a4 rfl rfl rfl (by decide +kernel) ⟨Nat.le_of_ble_eq_true rfl, Nat.le_of_ble_eq_true rfl⟩) (k_preS (is := []) hK hP hD rfl rfl) rfl rfl hl.1 rfl (lv_room (Nat.le_of_ble_eq_true rfl)) dX3_waysOf_1 ⟨Nat.zero_le _, Nat.zero_le _⟩) hP hD hS hA [] [0, 1] [0, 1] rfl rfl rfl (by decide) rfl rfl (fun H locs hP hD hS => ?_)
  refine lv_istore_n (lv' := [(3, .int r1), (0, .ref a_this), (1, .int x1), (2, .int x2)]) hx hb dX3_waysOf_4 rfl hl (by decide) rfl (fun ls hl => ?_)
  refine lv_iload_n hx hb dX3_waysOf_5 rfl (lv_at hl 3 rfl) ?_
  refine lv_iload_n hx hb dX3_waysOf_6 rfl (lv_at hl 0 rfl) ?_
  obtain ⟨r3, hc4, hf⟩ := bnd1_some hf
  refine k_cl (wc := []) (wr := [(a_this, .inr (3, [o_this_pad, o_this_signs, .ref a_now, o_this_images, o_this_sitting, o_this_reader, o_this_trial, o_this_best])), (a_now, .inr (0, (o_now_weight :: o_now_hole :: o_now_held :: o_now_law :: .int v_now_many :: o_now_sights :: o_now_full :: o_now_first :: o_now_second :: o_now_worth :: o_now_winner :: o_now_row :: o_now_sightWeight :: o_now_sightMany :: [])))]) (w1 := []) (ws' := [(a_this, .inr (3, [o_this_pad, o_this_signs, .ref a_now, o_this_images, o_this_sitting, o_this_reader, o_this_trial, o_this_best])), (a_now, .inr (0, (o_now_weight :: o_now_hole :: o_now_held :: o_now_law :: .int v_now_many :: o_now_sights :: o_now_full :: o_now_first :: o_now_second :: o_now_worth :: o_now_winner :: o_now_row :: o_now_sightWeight :: o_now_sightMany :: [])))]) (va_runS (As := [.int x2, .int r1]) (rest := []) ⟨hx, hb, hml, hown, hts⟩ (tX3_power l D cI cJ cZ cB x2 r1 r3 hc4 H.size) (va_cwS 2 hts gX3_waysOf_X3_power rfl rfl rfl (by decide +kernel) ⟨Nat.le_of_ble_eq_true rfl, Nat.le_of_ble_eq_true rfl⟩) (k_preS (is := []) hK hP hD rfl rfl) rfl rfl hl.1 rfl (lv_room (Nat.le_of_ble_eq_true rfl)) dX3_waysOf_7 ⟨Nat.zero_le _, Nat.zero_le _⟩) hP hD hS hA [] [0, 1] [0, 1] rfl rfl rfl (by decide) rfl rfl (fun H locs hP hD hS => ?_)
  refine lv_bipush (v := 10) hx hb dX3_waysOf_10 (by decide) ?_
  refine lv_iload_n hx hb dX3_waysOf_12 rfl (lv_at hl 3 rfl) ?_
  refine lv_isub hx hb dX3_waysOf_13 ?_
  refine lv_aload_n hx hb dX3_waysOf_14 rfl (lv_at hl 1 rfl) ?_
  refine va_get (D := D) (ci := 3) (v := .ref a_now) (C := RX3) (T := TX3) (N := 8) hx hb hts iX3 hown hK.1 hP 0 rfl rfl 2 (by decide) l20 (fun _ h9 => h9) rfl dX3_waysOf_15 ?_
  refine va_get (D := D) (ci := 0) (v := .int v_now_many) (C := RX0) (T := TX0) (N := 14) hx hb hts iX0 hown hK.1 hP 1 rfl rfl 4 (by decide) l80 (fun _ h9 => h9) rfl dX3_waysOf_18 ?_
  refine lv_iload_n hx hb dX3_waysOf_21 rfl (lv_at hl 0 rfl) ?_
  refine lv_isub hx hb dX3_waysOf_22 ?_
  obtain ⟨r5, hc6, hf⟩ := bnd1_some hf
  refine k_cl (wc := []) (wr := [(a_this, .inr (3, [o_this_pad, o_this_signs, .ref a_now, o_this_images, o_this_sitting, o_this_reader, o_this_trial, o_this_best])), (a_now, .inr (0, (o_now_weight :: o_now_hole :: o_now_held :: o_now_law :: .int v_now_many :: o_now_sights :: o_now_full :: o_now_first :: o_now_second :: o_now_worth :: o_now_winner :: o_now_row :: o_now_sightWeight :: o_now_sightMany :: [])))]) (w1 := []) (ws' := [(a_this, .inr (3, [o_this_pad, o_this_signs, .ref a_now, o_this_images, o_this_sitting, o_this_reader, o_this_trial, o_this_best])), (a_now, .inr (0, (o_now_weight :: o_now_hole :: o_now_held :: o_now_law :: .int v_now_many :: o_now_sights :: o_now_full :: o_now_first :: o_now_second :: o_now_worth :: o_now_winner :: o_now_row :: o_now_sightWeight :: o_now_sightMany :: [])))]) (va_runS (As := [.int (10 - x2), .int (v_now_many - r1)]) (rest := [.long r3]) ⟨hx, hb, hml, hown, hts⟩ (tX3_power l D cI cJ cZ cB (10 - x2) (v_now_many - r1) r5 hc6 H.size) (va_cwS 2 hts gX3_waysOf_X3_power rfl rfl rfl (by decide +kernel) ⟨Nat.le_of_ble_eq_true rfl, Nat.le_of_ble_eq_true rfl⟩) (k_preS (is := []) hK hP hD rfl rfl) rfl rfl hl.1 rfl (lv_room (Nat.le_of_ble_eq_true rfl)) dX3_waysOf_23 ⟨Nat.zero_le _, Nat.zero_le _⟩) hP hD hS hA [] [0, 1] [0, 1] rfl rfl rfl (by decide) rfl rfl (fun H locs hP hD hS => ?_)
  refine lv_lmul hx hb dX3_waysOf_26 ?_
  cases hf
  subst hQ
  exact k_rl hx hb hr hlocks hP hD hS dX3_waysOf_27

set_option maxHeartbeats 4000000 in
set_option maxRecDepth 100000 in
theorem tX3_lowest (l : Launch) (D : va_G) (cI cJ cZ cB : ClassId) (x0 : Int64) (x2 : Int64) (x4 : Int32) (r0 : Int64) (hf : fX3_lowest x0 x2 x4 = some r0) : MW l yX3_lowest wsX3_lowest { frames := 0, cells := 0, slots := 0, locals := 0 } D cI cJ cZ cB [] [.long x0, .long x2, .int x4] (QWl D r0 []) := by
  refine k_body (cc := cX3_lowest) (maxL := 12) (ret := (some .long)) (by decide) rfl (Nat.le_of_ble_eq_true rfl) ?_
  intro p e s m args below meth c hx hb hr hml hts hown hlocks hname hK A hA hP hD hS ls hl
  have hl : lv_has ls 12 [(0, .long x0), (2, .long x2), (4, .int x4)] := hl
  generalize hQ : MQ below ((QWl D r0 []) A) args s 0 0 A = Q
  obtain ⟨H, hH⟩ : ∃ H, H = s.heap := ⟨_, rfl⟩
  obtain ⟨locs, hlo⟩ : ∃ z : List Loc, z = [] := ⟨_, rfl⟩
  have hP : va_P D vwCl [] H := by rw [hH]; exact hP
  have hS : va_S A s.heap H locs := by rw [hH, hlo]; exact hS
  suffices hg : W p l e (headSpec wsX3_lowest { frames := 0, cells := 0, slots := 0, locals := 0 }).room s m args below meth c H locs 0 0 Q (F0 m 0 ls []) by rw [hH, hlo] at hg; exact hg
  unfold fX3_lowest at hf
  refine lv_lload_n hx hb dX3_lowest_0 rfl (lv_at hl 0 rfl) ?_
  refine lv_lstore (lv' := [(5, .long x0), (0, .long x0), (2, .long x2), (4, .int x4)]) hx hb dX3_lowest_1 hl (by decide) rfl (fun ls hl => ?_)
  refine lv_lload_n hx hb dX3_lowest_3 rfl (lv_at hl 2 rfl) ?_
  refine lv_lstore (lv' := [(7, .long x2), (5, .long x0), (0, .long x0), (2, .long x2), (4, .int x4)]) hx hb dX3_lowest_4 hl (by decide) rfl (fun ls hl => ?_)
  refine lv_iconst (v := 0) hx hb dX3_lowest_6 (by decide) ?_
  refine lv_istore (lv' := [(9, .int 0), (7, .long x2), (5, .long x0), (0, .long x0), (2, .long x2), (4, .int x4)]) hx hb dX3_lowest_7 hl (by decide) rfl (fun ls hl => ?_)
  have L9 : ∀ (n9 : Nat) (x5_9 : Int64) (x7_9 : Int64) (x9_9 : Int32) (H : Heap) (locs : List Loc) (ls : Array Slot), fX3_lowest_l9 x0 x2 x4 n9 x5_9 x7_9 x9_9 = some r0 → va_P D vwCl [] H → va_D A [] → va_S A s.heap H locs → lv_has ls 12 [(0, .long x0), (2, .long x2), (4, .int x4), (5, .long x5_9), (7, .long x7_9), (9, .int x9_9)] → W p l e (headSpec wsX3_lowest { frames := 0, cells := 0, slots := 0, locals := 0 }).room s m args below meth c H locs 0 0 Q (F0 m 9 ls []) := by
    intro n9
    induction n9 with
    | zero =>
      intro x5_9 x7_9 x9_9 H locs ls hf
      have hf : (none : Option (Int64)) = some r0 := hf
      cases hf
    | succ n9 ih9 =>
      intro x5_9 x7_9 x9_9 H locs ls hf hP hD hS hl
      rw [fX3_lowest_l9] at hf
      refine lv_iload hx hb dX3_lowest_9 (lv_at hl 5 rfl) ?_
      refine lv_bipush (v := 100) hx hb dX3_lowest_11 (by decide) ?_
      have J44 : ∀ (x5_44 : Int64) (H : Heap) (locs : List Loc) (ls : Array Slot), fX3_lowest_j44 x0 x2 x4 x5_44 = some r0 → va_P D vwCl [] H → va_D A [] → va_S A s.heap H locs → lv_has ls 12 [(0, .long x0), (2, .long x2), (4, .int x4), (5, .long x5_44)] → W p l e (headSpec wsX3_lowest { frames := 0, cells := 0, slots := 0, locals := 0 }).room s m args below meth c H locs 0 0 Q (F0 m 44 ls []) := by
        intro x5_44 H locs ls hf hP hD hS hl
        unfold fX3_lowest_j44 at hf
        refine lv_iload hx hb dX3_lowest_44 (lv_at hl 2 rfl) ?_
        have J54 : ∀ (s0_54 : Int64) (x5_54 : Int64) (H : Heap) (locs : List Loc) (ls : Array Slot), fX3_lowest_j54 x5_54 s0_54 = some r0 → va_P D vwCl [] H → va_D A [] → va_S A s.heap H locs → lv_has ls 12 [(5, .long x5_54)] → W p l e (headSpec wsX3_lowest { frames := 0, cells := 0, slots := 0, locals := 0 }).room s m args below meth c H locs 0 0 Q (F0 m 54 ls [.long s0_54]) := by
          intro s0_54 x5_54 H locs ls hf hP hD hS hl
          unfold fX3_lowest_j54 at hf
          refine lv_lstore (lv' := [(9, .long s0_54), (5, .long x5_54)]) hx hb dX3_lowest_54 hl (by decide) rfl (fun ls hl => ?_)
          refine lv_lload hx hb dX3_lowest_56 (lv_at hl 1 rfl) ?_
          refine lv_lconst (v := 0) hx hb dX3_lowest_58 (by decide) ?_
          refine W.lcmp hx hb dX3_lowest_59 ?_
          refine lv_if_le (tgt := 71) hx hb dX3_lowest_60 (by decide) (fun c1 => ?_) (fun c1 => ?_)
          · have hf := (if_pos c1).symm.trans hf
            refine lv_lload hx hb dX3_lowest_71 (lv_at hl 0 rfl) ?_
            cases hf
            subst hQ
            exact k_rl hx hb hr hlocks hP hD hS dX3_lowest_73
          · have hf := (if_neg c1).symm.trans hf
            refine lv_lload hx hb dX3_lowest_63 (lv_at hl 0 rfl) ?_
            refine lv_lload hx hb dX3_lowest_65 (lv_at hl 1 rfl) ?_
            obtain ⟨h2, hf⟩ := gd_some hf
            refine lv_ldiv hx hb dX3_lowest_67 h2 ?_
            refine lv_goto (tgt := 73) hx hb dX3_lowest_68 (by decide) ?_
            cases hf
            subst hQ
            exact k_rl hx hb hr hlocks hP hD hS dX3_lowest_73
        refine lv_if_ne (tgt := 53) hx hb dX3_lowest_46 (by decide) (fun c3 => ?_) (fun c3 => ?_)
        · have hf := (if_neg c3).symm.trans hf
          refine lv_lload_n hx hb dX3_lowest_53 rfl (lv_at hl 1 rfl) ?_
          exact J54 x2 x5_44 _ _ _ hf hP hD hS (lv_sub hl [3] rfl)
        · have hf := (if_pos c3).symm.trans hf
          refine lv_lload_n hx hb dX3_lowest_49 rfl (lv_at hl 0 rfl) ?_
          refine lv_goto (tgt := 54) hx hb dX3_lowest_50 (by decide) ?_
          exact J54 x0 x5_44 _ _ _ hf hP hD hS (lv_sub hl [3] rfl)
      refine lv_icmp_ge (tgt := 44) hx hb dX3_lowest_13 (by decide) (fun c4 => ?_) (fun c4 => ?_)
      · have hf := (if_pos c4).symm.trans hf
        exact J44 x5_9 _ _ _ hf hP hD hS (lv_sub hl [0, 1, 2, 3] rfl)
      · have hf := (if_neg c4).symm.trans hf
        refine lv_lload hx hb dX3_lowest_16 (lv_at hl 4 rfl) ?_
        refine lv_lconst (v := 0) hx hb dX3_lowest_18 (by decide) ?_
        refine W.lcmp hx hb dX3_lowest_19 ?_
        refine lv_if_eq (tgt := 44) hx hb dX3_lowest_20 (by decide) (fun c5 => ?_) (fun c5 => ?_)
        · have hf := (if_pos c5).symm.trans hf
          exact J44 x5_9 _ _ _ hf hP hD hS (lv_sub hl [0, 1, 2, 3] rfl)
        · have hf := (if_neg c5).symm.trans hf
          refine lv_lload hx hb dX3_lowest_23 (lv_at hl 3 rfl) ?_
          refine lv_lload hx hb dX3_lowest_25 (lv_at hl 4 rfl) ?_
          obtain ⟨h6, hf⟩ := gd_some hf
          refine lv_lrem hx hb dX3_lowest_27 h6 ?_
          refine lv_lstore (lv' := [(10, .long (x5_9 - x5_9 / x7_9 * x7_9)), (0, .long x0), (2, .long x2), (4, .int x4), (5, .long x5_9), (7, .long x7_9), (9, .int x9_9)]) hx hb dX3_lowest_28 hl (by decide) rfl (fun ls hl => ?_)
          refine lv_lload hx hb dX3_lowest_30 (lv_at hl 5 rfl) ?_
          refine lv_lstore (lv' := [(5, .long x7_9), (10, .long (x5_9 - x5_9 / x7_9 * x7_9)), (0, .long x0), (2, .long x2), (4, .int x4), (7, .long x7_9), (9, .int x9_9)]) hx hb dX3_lowest_32 hl (by decide) rfl (fun ls hl => ?_)
          refine lv_lload hx hb dX3_lowest_34 (lv_at hl 1 rfl) ?_
          refine lv_lstore (lv' := [(7, .long (x5_9 - x5_9 / x7_9 * x7_9)), (5, .long x7_9), (10, .long (x5_9 - x5_9 / x7_9 * x7_9)), (0, .long x0), (2, .long x2), (4, .int x4), (9, .int x9_9)]) hx hb dX3_lowest_36 hl (by decide) rfl (fun ls hl => ?_)
          refine lv_iinc (v := (x9_9 + 1)) (lv' := [(9, .int (x9_9 + 1)), (7, .long (x5_9 - x5_9 / x7_9 * x7_9)), (5, .long x7_9), (10, .long (x5_9 - x5_9 / x7_9 * x7_9)), (0, .long x0), (2, .long x2), (4, .int x4)]) hx hb dX3_lowest_38 hl (k := 6) rfl (by rfl) (by decide) rfl (fun ls hl => ?_)
          refine lv_goto (tgt := 9) hx hb dX3_lowest_41 (by decide) ?_
          exact ih9 x7_9 (x5_9 - x5_9 / x7_9 * x7_9) (x9_9 + 1) _ _ _ hf hP hD hS (lv_sub hl [4, 5, 6, 2, 1, 0] rfl)
  exact L9 FU x0 x2 0 _ _ _ hf hP hD hS (lv_sub hl [3, 4, 5, 2, 1, 0] rfl)

set_option maxHeartbeats 4000000 in
set_option maxRecDepth 100000 in
theorem tX3_likely (l : Launch) (D : va_G) (cI cJ cZ cB : ClassId) (a_this : Nat) (a_now : Nat) (a_sitting : Nat) (a_now_row : Nat) (a_now_first : Nat) (a_now_second : Nat) (a_now_worth : Nat) (a_now_winner : Nat) (o_this_pad : Value) (o_this_signs : Value) (o_this_images : Value) (o_this_reader : Value) (o_this_trial : Value) (o_this_best : Value) (o_now_sights : Value) (o_now_full : Value) (o_now_sightWeight : Value) (o_now_sightMany : Value) (x1 : Int32) (x2 : Int32) (x3 : Int32) (x4 : Int32) (v_now_many : Int32) (v_now_weight : Int32) (v_now_hole : Int32) (v_now_held : Int32) (v_sitting_decided : Int32) (v_sitting_sunk : Int32) (v_sitting_plaintiffs : Int32) (v_sitting_defendants : Int32) (v_sitting_poor : Int32) (v_sitting_worths : Int32) (v_now_law : Int32) (v_now_row : Nat → Int32) (v_now_first : Nat → Int32) (v_now_second : Nat → Int32) (v_now_worth : Nat → Int32) (v_now_winner : Nat → Int32) (r0 : Int64) (w_sitting_decided : Int32) (w_sitting_sunk : Int32) (w_sitting_plaintiffs : Int32) (w_sitting_defendants : Int32) (w_sitting_poor : Int32) (w_sitting_worths : Int32) (hf : fX3_likely x1 x2 x3 x4 v_now_many v_now_weight v_now_hole v_now_held v_sitting_decided v_sitting_sunk v_sitting_plaintiffs v_sitting_defendants v_sitting_poor v_sitting_worths v_now_law v_now_row v_now_first v_now_second v_now_worth v_now_winner = some (r0, w_sitting_decided, w_sitting_sunk, w_sitting_plaintiffs, w_sitting_defendants, w_sitting_poor, w_sitting_worths)) : MW l yX3_likely wsX3_likely { frames := 4, cells := 0, slots := 0, locals := 94 } D cI cJ cZ cB [(a_this, .inr (3, [o_this_pad, o_this_signs, .ref a_now, o_this_images, .ref a_sitting, o_this_reader, o_this_trial, o_this_best])), (a_now, .inr (0, (.int v_now_weight :: .int v_now_hole :: .int v_now_held :: .int v_now_law :: .int v_now_many :: o_now_sights :: o_now_full :: .ref a_now_first :: .ref a_now_second :: .ref a_now_worth :: .ref a_now_winner :: .ref a_now_row :: o_now_sightWeight :: o_now_sightMany :: []))), (a_sitting, .inr (2, [.int v_sitting_decided, .int v_sitting_sunk, .int v_sitting_plaintiffs, .int v_sitting_defendants, .int v_sitting_poor, .int v_sitting_worths])), (a_now_row, .inl (cI, 6, .inl v_now_row)), (a_now_first, .inl (cI, 6, .inl v_now_first)), (a_now_second, .inl (cI, 6, .inl v_now_second)), (a_now_worth, .inl (cI, 6, .inl v_now_worth)), (a_now_winner, .inl (cI, 6, .inl v_now_winner))] [.ref a_this, .int x1, .int x2, .int x3, .int x4] (QWl D r0 [(a_this, .inr (3, [o_this_pad, o_this_signs, .ref a_now, o_this_images, .ref a_sitting, o_this_reader, o_this_trial, o_this_best])), (a_now, .inr (0, (.int v_now_weight :: .int v_now_hole :: .int v_now_held :: .int v_now_law :: .int v_now_many :: o_now_sights :: o_now_full :: .ref a_now_first :: .ref a_now_second :: .ref a_now_worth :: .ref a_now_winner :: .ref a_now_row :: o_now_sightWeight :: o_now_sightMany :: []))), (a_sitting, .inr (2, [.int w_sitting_decided, .int w_sitting_sunk, .int w_sitting_plaintiffs, .int w_sitting_defendants, .int w_sitting_poor, .int w_sitting_worths])), (a_now_row, .inl (cI, 6, .inl v_now_row)), (a_now_first, .inl (cI, 6, .inl v_now_first)), (a_now_second, .inl (cI, 6, .inl v_now_second)), (a_now_worth, .inl (cI, 6, .inl v_now_worth)), (a_now_winner, .inl (cI, 6, .inl v_now_winner))]) := by
  refine k_body (cc := cX3_likely) (maxL := 8) (ret := (some .long)) (by decide) rfl (Nat.le_of_ble_eq_true rfl) ?_
  intro p e s m args below meth c hx hb hr hml hts hown hlocks hname hK A hA hP hD hS ls hl
  have hl : lv_has ls 8 [(0, .ref a_this), (1, .int x1), (2, .int x2), (3, .int x3), (4, .int x4)] := hl
  generalize hQ : MQ below ((QWl D r0 [(a_this, .inr (3, [o_this_pad, o_this_signs, .ref a_now, o_this_images, .ref a_sitting, o_this_reader, o_this_trial, o_this_best])), (a_now, .inr (0, (.int v_now_weight :: .int v_now_hole :: .int v_now_held :: .int v_now_law :: .int v_now_many :: o_now_sights :: o_now_full :: .ref a_now_first :: .ref a_now_second :: .ref a_now_worth :: .ref a_now_winner :: .ref a_now_row :: o_now_sightWeight :: o_now_sightMany :: []))), (a_sitting, .inr (2, [.int w_sitting_decided, .int w_sitting_sunk, .int w_sitting_plaintiffs, .int w_sitting_defendants, .int w_sitting_poor, .int w_sitting_worths])), (a_now_row, .inl (cI, 6, .inl v_now_row)), (a_now_first, .inl (cI, 6, .inl v_now_first)), (a_now_second, .inl (cI, 6, .inl v_now_second)), (a_now_worth, .inl (cI, 6, .inl v_now_worth)), (a_now_winner, .inl (cI, 6, .inl v_now_winner))]) A) args s 0 0 A = Q
  obtain ⟨H, hH⟩ : ∃ H, H = s.heap := ⟨_, rfl⟩
  obtain ⟨locs, hlo⟩ : ∃ z : List Loc, z = [] := ⟨_, rfl⟩
  have hP : va_P D vwCl [(a_this, .inr (3, [o_this_pad, o_this_signs, .ref a_now, o_this_images, .ref a_sitting, o_this_reader, o_this_trial, o_this_best])), (a_now, .inr (0, (.int v_now_weight :: .int v_now_hole :: .int v_now_held :: .int v_now_law :: .int v_now_many :: o_now_sights :: o_now_full :: .ref a_now_first :: .ref a_now_second :: .ref a_now_worth :: .ref a_now_winner :: .ref a_now_row :: o_now_sightWeight :: o_now_sightMany :: []))), (a_sitting, .inr (2, [.int v_sitting_decided, .int v_sitting_sunk, .int v_sitting_plaintiffs, .int v_sitting_defendants, .int v_sitting_poor, .int v_sitting_worths])), (a_now_row, .inl (cI, 6, .inl v_now_row)), (a_now_first, .inl (cI, 6, .inl v_now_first)), (a_now_second, .inl (cI, 6, .inl v_now_second)), (a_now_worth, .inl (cI, 6, .inl v_now_worth)), (a_now_winner, .inl (cI, 6, .inl v_now_winner))] H := by rw [hH]; exact hP
  have hS : va_S A s.heap H locs := by rw [hH, hlo]; exact hS
  suffices hg : W p l e (headSpec wsX3_likely { frames := 4, cells := 0, slots := 0, locals := 94 }).room s m args below meth c H locs 0 0 Q (F0 m 0 ls []) by rw [hH, hlo] at hg; exact hg
  have l20 := hts (.fieldLink RX3 20 "CandleCourt" "now" "LCandleCourt$Bench;") (by decide +kernel)
  have l31 := hts (.fieldLink RX3 31 "CandleCourt" "sitting" "LCandleCourt$Sitting;") (by decide +kernel)
  have l80 := hts (.fieldLink RX3 80 "CandleCourt$Bench" "many" "I") (by decide +kernel)
  have l111 := hts (.fieldLink RX3 111 "CandleCourt$Sitting" "decided" "I") (by decide +kernel)
  have iX0 : ∀ w ∈ wsX00, w ∈ wsX3_likely := by decide +kernel
  have iX2 : ∀ w ∈ wsX20, w ∈ wsX3_likely := by decide +kernel
  have iX3 : ∀ w ∈ wsX30, w ∈ wsX3_likely := by decide +kernel
  unfold fX3_likely at hf
  refine lv_aload_n hx hb dX3_likely_0 rfl (lv_at hl 0 rfl) ?_
  refine lv_iload_n hx hb dX3_likely_1 rfl (lv_at hl 1 rfl) ?_
  obtain ⟨r1, hc2, hf⟩ := bnd1_some hf
  refine k_ci (wc := [(a_this, .inr (3, [o_this_pad, o_this_signs, .ref a_now, o_this_images, .ref a_sitting, o_this_reader, o_this_trial, o_this_best])), (a_now, .inr (0, (.int v_now_weight :: .int v_now_hole :: .int v_now_held :: .int v_now_law :: .int v_now_many :: o_now_sights :: o_now_full :: .ref a_now_first :: .ref a_now_second :: .ref a_now_worth :: .ref a_now_winner :: .ref a_now_row :: o_now_sightWeight :: o_now_sightMany :: [])))]) (wr := [(a_sitting, .inr (2, [.int v_sitting_decided, .int v_sitting_sunk, .int v_sitting_plaintiffs, .int v_sitting_defendants, .int v_sitting_poor, .int v_sitting_worths])), (a_now_row, .inl (cI, 6, .inl v_now_row)), (a_now_first, .inl (cI, 6, .inl v_now_first)), (a_now_second, .inl (cI, 6, .inl v_now_second)), (a_now_worth, .inl (cI, 6, .inl v_now_worth)), (a_now_winner, .inl (cI, 6, .inl v_now_winner))]) (w1 := [(a_this, .inr (3, [o_this_pad, o_this_signs, .ref a_now, o_this_images, .ref a_sitting, o_this_reader, o_this_trial, o_this_best])), (a_now, .inr (0, (.int v_now_weight :: .int v_now_hole :: .int v_now_held :: .int v_now_law :: .int v_now_many :: o_now_sights :: o_now_full :: .ref a_now_first :: .ref a_now_second :: .ref a_now_worth :: .ref a_now_winner :: .ref a_now_row :: o_now_sightWeight :: o_now_sightMany :: [])))]) (ws' := [(a_this, .inr (3, [o_this_pad, o_this_signs, .ref a_now, o_this_images, .ref a_sitting, o_this_reader, o_this_trial, o_this_best])), (a_now, .inr (0, (.int v_now_weight :: .int v_now_hole :: .int v_now_held :: .int v_now_law :: .int v_now_many :: o_now_sights :: o_now_full :: .ref a_now_first :: .ref a_now_second :: .ref a_now_worth :: .ref a_now_winner :: .ref a_now_row :: o_now_sightWeight :: o_now_sightMany :: []))), (a_sitting, .inr (2, [.int v_sitting_decided, .int v_sitting_sunk, .int v_sitting_plaintiffs, .int v_sitting_defendants, .int v_sitting_poor, .int v_sitting_worths])), (a_now_row, .inl (cI, 6, .inl v_now_row)), (a_now_first, .inl (cI, 6, .inl v_now_first)), (a_now_second, .inl (cI, 6, .inl v_now_second)), (a_now_worth, .inl (cI, 6, .inl v_now_worth)), (a_now_winner, .inl (cI, 6, .inl v_now_winner))]) (va_runV (As := [.int x1]) (rest := []) ⟨hx, hb, hml, hown, hts⟩ (tX3_isSuit l D cI cJ cZ cB a_this a_now o_this_pad o_this_signs o_this_images (.ref a_sitting) o_this_reader o_this_trial o_this_best (.int v_now_weight) (.int v_now_hole) (.int v_now_held) (.int v_now_law) o_now_sights o_now_full (.ref a_now_first) (.ref a_now_second) (.ref a_now_worth) (.ref a_now_winner) (.ref a_now_row) o_now_sightWeight o_now_sightMany x1 v_now_many r1 hc2 H.size) (cwV 1 hts gX3_likely_X3_isSuit rfl rfl rfl (by decide +kernel) ⟨Nat.le_of_ble_eq_true rfl, Nat.le_of_ble_eq_true rfl⟩) (k_preV (ci := 3) (q0 := 0) (is := [0, 1]) hK hP hD rfl rfl rfl rfl) rfl rfl hl.1 rfl (lv_room (Nat.le_of_ble_eq_true rfl)) dX3_likely_2 ⟨Nat.zero_le _, Nat.zero_le _⟩) hP hD hS hA [0, 1] [2, 3, 4, 5, 6, 7] [6, 7, 0, 1, 2, 3, 4, 5] rfl rfl rfl (by decide) rfl rfl (fun H locs hP hD hS => ?_)
  refine lv_if_ne (tgt := 12) hx hb dX3_likely_5 (by decide) (fun c3 => ?_) (fun c3 => ?_)
  · have hf := (if_neg c3).symm.trans hf
    refine lv_iload_n hx hb dX3_likely_12 rfl (lv_at hl 2 rfl) ?_
    refine lv_iload_n hx hb dX3_likely_13 rfl (lv_at hl 3 rfl) ?_
    refine lv_iload hx hb dX3_likely_14 (lv_at hl 4 rfl) ?_
    obtain ⟨r4, hc5, hf⟩ := bnd1_some hf
    refine k_ci (wc := []) (wr := [(a_this, .inr (3, [o_this_pad, o_this_signs, .ref a_now, o_this_images, .ref a_sitting, o_this_reader, o_this_trial, o_this_best])), (a_now, .inr (0, (.int v_now_weight :: .int v_now_hole :: .int v_now_held :: .int v_now_law :: .int v_now_many :: o_now_sights :: o_now_full :: .ref a_now_first :: .ref a_now_second :: .ref a_now_worth :: .ref a_now_winner :: .ref a_now_row :: o_now_sightWeight :: o_now_sightMany :: []))), (a_sitting, .inr (2, [.int v_sitting_decided, .int v_sitting_sunk, .int v_sitting_plaintiffs, .int v_sitting_defendants, .int v_sitting_poor, .int v_sitting_worths])), (a_now_row, .inl (cI, 6, .inl v_now_row)), (a_now_first, .inl (cI, 6, .inl v_now_first)), (a_now_second, .inl (cI, 6, .inl v_now_second)), (a_now_worth, .inl (cI, 6, .inl v_now_worth)), (a_now_winner, .inl (cI, 6, .inl v_now_winner))]) (w1 := []) (ws' := [(a_this, .inr (3, [o_this_pad, o_this_signs, .ref a_now, o_this_images, .ref a_sitting, o_this_reader, o_this_trial, o_this_best])), (a_now, .inr (0, (.int v_now_weight :: .int v_now_hole :: .int v_now_held :: .int v_now_law :: .int v_now_many :: o_now_sights :: o_now_full :: .ref a_now_first :: .ref a_now_second :: .ref a_now_worth :: .ref a_now_winner :: .ref a_now_row :: o_now_sightWeight :: o_now_sightMany :: []))), (a_sitting, .inr (2, [.int v_sitting_decided, .int v_sitting_sunk, .int v_sitting_plaintiffs, .int v_sitting_defendants, .int v_sitting_poor, .int v_sitting_worths])), (a_now_row, .inl (cI, 6, .inl v_now_row)), (a_now_first, .inl (cI, 6, .inl v_now_first)), (a_now_second, .inl (cI, 6, .inl v_now_second)), (a_now_worth, .inl (cI, 6, .inl v_now_worth)), (a_now_winner, .inl (cI, 6, .inl v_now_winner))]) (va_runS (As := [.int x2, .int x3, .int x4]) (rest := []) ⟨hx, hb, hml, hown, hts⟩ (tX3_isChance l D cI cJ cZ cB x2 x3 x4 r4 hc5 H.size) (va_cwS 3 hts gX3_likely_X3_isChance rfl rfl rfl (by decide +kernel) ⟨Nat.le_of_ble_eq_true rfl, Nat.le_of_ble_eq_true rfl⟩) (k_preS (is := []) hK hP hD rfl rfl) rfl rfl hl.1 rfl (lv_room (Nat.le_of_ble_eq_true rfl)) dX3_likely_16 ⟨Nat.zero_le _, Nat.zero_le _⟩) hP hD hS hA [] [0, 1, 2, 3, 4, 5, 6, 7] [0, 1, 2, 3, 4, 5, 6, 7] rfl rfl rfl (by decide) rfl rfl (fun H locs hP hD hS => ?_)
    refine lv_if_ne (tgt := 26) hx hb dX3_likely_19 (by decide) (fun c6 => ?_) (fun c6 => ?_)
    · have hf := (if_neg c6).symm.trans hf
      refine lv_lconst (v := 0) hx hb dX3_likely_26 (by decide) ?_
      refine lv_lstore (lv' := [(5, .long 0), (0, .ref a_this), (1, .int x1), (2, .int x2), (3, .int x3), (4, .int x4)]) hx hb dX3_likely_27 hl (by decide) rfl (fun ls hl => ?_)
      refine lv_iconst (v := 0) hx hb dX3_likely_29 (by decide) ?_
      refine lv_istore (lv' := [(7, .int 0), (5, .long 0), (0, .ref a_this), (1, .int x1), (2, .int x2), (3, .int x3), (4, .int x4)]) hx hb dX3_likely_30 hl (by decide) rfl (fun ls hl => ?_)
      have L32 : ∀ (n32 : Nat) (x5_32 : Int64) (x7_32 : Int32) (v_sitting_decided_32 : Int32) (v_sitting_sunk_32 : Int32) (v_sitting_plaintiffs_32 : Int32) (v_sitting_defendants_32 : Int32) (v_sitting_poor_32 : Int32) (v_sitting_worths_32 : Int32) (H : Heap) (locs : List Loc) (ls : Array Slot), fX3_likely_l32 x1 x2 x3 x4 v_now_many v_now_weight v_now_hole v_now_held v_now_law v_now_row v_now_first v_now_second v_now_worth v_now_winner n32 x5_32 x7_32 v_sitting_decided_32 v_sitting_sunk_32 v_sitting_plaintiffs_32 v_sitting_defendants_32 v_sitting_poor_32 v_sitting_worths_32 = some (r0, w_sitting_decided, w_sitting_sunk, w_sitting_plaintiffs, w_sitting_defendants, w_sitting_poor, w_sitting_worths) → va_P D vwCl [(a_this, .inr (3, [o_this_pad, o_this_signs, .ref a_now, o_this_images, .ref a_sitting, o_this_reader, o_this_trial, o_this_best])), (a_now, .inr (0, (.int v_now_weight :: .int v_now_hole :: .int v_now_held :: .int v_now_law :: .int v_now_many :: o_now_sights :: o_now_full :: .ref a_now_first :: .ref a_now_second :: .ref a_now_worth :: .ref a_now_winner :: .ref a_now_row :: o_now_sightWeight :: o_now_sightMany :: []))), (a_sitting, .inr (2, [.int v_sitting_decided_32, .int v_sitting_sunk_32, .int v_sitting_plaintiffs_32, .int v_sitting_defendants_32, .int v_sitting_poor_32, .int v_sitting_worths_32])), (a_now_row, .inl (cI, 6, .inl v_now_row)), (a_now_first, .inl (cI, 6, .inl v_now_first)), (a_now_second, .inl (cI, 6, .inl v_now_second)), (a_now_worth, .inl (cI, 6, .inl v_now_worth)), (a_now_winner, .inl (cI, 6, .inl v_now_winner))] H → va_D A [(a_this, .inr (3, [o_this_pad, o_this_signs, .ref a_now, o_this_images, .ref a_sitting, o_this_reader, o_this_trial, o_this_best])), (a_now, .inr (0, (.int v_now_weight :: .int v_now_hole :: .int v_now_held :: .int v_now_law :: .int v_now_many :: o_now_sights :: o_now_full :: .ref a_now_first :: .ref a_now_second :: .ref a_now_worth :: .ref a_now_winner :: .ref a_now_row :: o_now_sightWeight :: o_now_sightMany :: []))), (a_sitting, .inr (2, [.int v_sitting_decided_32, .int v_sitting_sunk_32, .int v_sitting_plaintiffs_32, .int v_sitting_defendants_32, .int v_sitting_poor_32, .int v_sitting_worths_32])), (a_now_row, .inl (cI, 6, .inl v_now_row)), (a_now_first, .inl (cI, 6, .inl v_now_first)), (a_now_second, .inl (cI, 6, .inl v_now_second)), (a_now_worth, .inl (cI, 6, .inl v_now_worth)), (a_now_winner, .inl (cI, 6, .inl v_now_winner))] → va_S A s.heap H locs → lv_has ls 8 [(0, .ref a_this), (1, .int x1), (2, .int x2), (3, .int x3), (4, .int x4), (5, .long x5_32), (7, .int x7_32)] → W p l e (headSpec wsX3_likely { frames := 4, cells := 0, slots := 0, locals := 94 }).room s m args below meth c H locs 0 0 Q (F0 m 32 ls []) := by
        intro n32
        induction n32 with
        | zero =>
          intro x5_32 x7_32 v_sitting_decided_32 v_sitting_sunk_32 v_sitting_plaintiffs_32 v_sitting_defendants_32 v_sitting_poor_32 v_sitting_worths_32 H locs ls hf
          have hf : (none : Option (Int64 × (Int32) × (Int32) × (Int32) × (Int32) × (Int32) × (Int32))) = some (r0, w_sitting_decided, w_sitting_sunk, w_sitting_plaintiffs, w_sitting_defendants, w_sitting_poor, w_sitting_worths) := hf
          cases hf
        | succ n32 ih32 =>
          intro x5_32 x7_32 v_sitting_decided_32 v_sitting_sunk_32 v_sitting_plaintiffs_32 v_sitting_defendants_32 v_sitting_poor_32 v_sitting_worths_32 H locs ls hf hP hD hS hl
          rw [fX3_likely_l32] at hf
          refine lv_iload hx hb dX3_likely_32 (lv_at hl 6 rfl) ?_
          refine lv_iconst (v := 1) hx hb dX3_likely_34 (by decide) ?_
          refine lv_aload_n hx hb dX3_likely_35 rfl (lv_at hl 0 rfl) ?_
          refine va_get (D := D) (ci := 3) (v := .ref a_now) (C := RX3) (T := TX3) (N := 8) hx hb hts iX3 hown hK.1 hP 0 rfl rfl 2 (by decide) l20 (fun _ h9 => h9) rfl dX3_likely_36 ?_
          refine va_get (D := D) (ci := 0) (v := .int v_now_many) (C := RX0) (T := TX0) (N := 14) hx hb hts iX0 hown hK.1 hP 1 rfl rfl 4 (by decide) l80 (fun _ h9 => h9) rfl dX3_likely_39 ?_
          refine lv_ishl hx hb dX3_likely_42 ?_
          refine lv_icmp_ge (tgt := 89) hx hb dX3_likely_43 (by decide) (fun c7 => ?_) (fun c7 => ?_)
          · have hf := (if_pos c7).symm.trans hf
            refine lv_lload hx hb dX3_likely_89 (lv_at hl 5 rfl) ?_
            refine lv_bipush (v := 10) hx hb dX3_likely_91 (by decide) ?_
            refine lv_aload_n hx hb dX3_likely_93 rfl (lv_at hl 0 rfl) ?_
            refine va_get (D := D) (ci := 3) (v := .ref a_now) (C := RX3) (T := TX3) (N := 8) hx hb hts iX3 hown hK.1 hP 0 rfl rfl 2 (by decide) l20 (fun _ h9 => h9) rfl dX3_likely_94 ?_
            refine va_get (D := D) (ci := 0) (v := .int v_now_many) (C := RX0) (T := TX0) (N := 14) hx hb hts iX0 hown hK.1 hP 1 rfl rfl 4 (by decide) l80 (fun _ h9 => h9) rfl dX3_likely_97 ?_
            obtain ⟨r8, hc9, hf⟩ := bnd1_some hf
            refine k_cl (wc := []) (wr := [(a_this, .inr (3, [o_this_pad, o_this_signs, .ref a_now, o_this_images, .ref a_sitting, o_this_reader, o_this_trial, o_this_best])), (a_now, .inr (0, (.int v_now_weight :: .int v_now_hole :: .int v_now_held :: .int v_now_law :: .int v_now_many :: o_now_sights :: o_now_full :: .ref a_now_first :: .ref a_now_second :: .ref a_now_worth :: .ref a_now_winner :: .ref a_now_row :: o_now_sightWeight :: o_now_sightMany :: []))), (a_sitting, .inr (2, [.int v_sitting_decided_32, .int v_sitting_sunk_32, .int v_sitting_plaintiffs_32, .int v_sitting_defendants_32, .int v_sitting_poor_32, .int v_sitting_worths_32])), (a_now_row, .inl (cI, 6, .inl v_now_row)), (a_now_first, .inl (cI, 6, .inl v_now_first)), (a_now_second, .inl (cI, 6, .inl v_now_second)), (a_now_worth, .inl (cI, 6, .inl v_now_worth)), (a_now_winner, .inl (cI, 6, .inl v_now_winner))]) (w1 := []) (ws' := [(a_this, .inr (3, [o_this_pad, o_this_signs, .ref a_now, o_this_images, .ref a_sitting, o_this_reader, o_this_trial, o_this_best])), (a_now, .inr (0, (.int v_now_weight :: .int v_now_hole :: .int v_now_held :: .int v_now_law :: .int v_now_many :: o_now_sights :: o_now_full :: .ref a_now_first :: .ref a_now_second :: .ref a_now_worth :: .ref a_now_winner :: .ref a_now_row :: o_now_sightWeight :: o_now_sightMany :: []))), (a_sitting, .inr (2, [.int v_sitting_decided_32, .int v_sitting_sunk_32, .int v_sitting_plaintiffs_32, .int v_sitting_defendants_32, .int v_sitting_poor_32, .int v_sitting_worths_32])), (a_now_row, .inl (cI, 6, .inl v_now_row)), (a_now_first, .inl (cI, 6, .inl v_now_first)), (a_now_second, .inl (cI, 6, .inl v_now_second)), (a_now_worth, .inl (cI, 6, .inl v_now_worth)), (a_now_winner, .inl (cI, 6, .inl v_now_winner))]) (va_runS (As := [.int 10, .int v_now_many]) (rest := [.long x5_32]) ⟨hx, hb, hml, hown, hts⟩ (tX3_power l D cI cJ cZ cB 10 v_now_many r8 hc9 H.size) (va_cwS 2 hts gX3_likely_X3_power rfl rfl rfl (by decide +kernel) ⟨Nat.le_of_ble_eq_true rfl, Nat.le_of_ble_eq_true rfl⟩) (k_preS (is := []) hK hP hD rfl rfl) rfl rfl hl.1 rfl (lv_room (Nat.le_of_ble_eq_true rfl)) dX3_likely_100 ⟨Nat.zero_le _, Nat.zero_le _⟩) hP hD hS hA [] [0, 1, 2, 3, 4, 5, 6, 7] [0, 1, 2, 3, 4, 5, 6, 7] rfl rfl rfl (by decide) rfl rfl (fun H locs hP hD hS => ?_)
            refine lv_iload hx hb dX3_likely_103 (lv_at hl 4 rfl) ?_
            obtain ⟨r10, hc11, hf⟩ := bnd1_some hf
            refine k_cl (wc := []) (wr := [(a_this, .inr (3, [o_this_pad, o_this_signs, .ref a_now, o_this_images, .ref a_sitting, o_this_reader, o_this_trial, o_this_best])), (a_now, .inr (0, (.int v_now_weight :: .int v_now_hole :: .int v_now_held :: .int v_now_law :: .int v_now_many :: o_now_sights :: o_now_full :: .ref a_now_first :: .ref a_now_second :: .ref a_now_worth :: .ref a_now_winner :: .ref a_now_row :: o_now_sightWeight :: o_now_sightMany :: []))), (a_sitting, .inr (2, [.int v_sitting_decided_32, .int v_sitting_sunk_32, .int v_sitting_plaintiffs_32, .int v_sitting_defendants_32, .int v_sitting_poor_32, .int v_sitting_worths_32])), (a_now_row, .inl (cI, 6, .inl v_now_row)), (a_now_first, .inl (cI, 6, .inl v_now_first)), (a_now_second, .inl (cI, 6, .inl v_now_second)), (a_now_worth, .inl (cI, 6, .inl v_now_worth)), (a_now_winner, .inl (cI, 6, .inl v_now_winner))]) (w1 := []) (ws' := [(a_this, .inr (3, [o_this_pad, o_this_signs, .ref a_now, o_this_images, .ref a_sitting, o_this_reader, o_this_trial, o_this_best])), (a_now, .inr (0, (.int v_now_weight :: .int v_now_hole :: .int v_now_held :: .int v_now_law :: .int v_now_many :: o_now_sights :: o_now_full :: .ref a_now_first :: .ref a_now_second :: .ref a_now_worth :: .ref a_now_winner :: .ref a_now_row :: o_now_sightWeight :: o_now_sightMany :: []))), (a_sitting, .inr (2, [.int v_sitting_decided_32, .int v_sitting_sunk_32, .int v_sitting_plaintiffs_32, .int v_sitting_defendants_32, .int v_sitting_poor_32, .int v_sitting_worths_32])), (a_now_row, .inl (cI, 6, .inl v_now_row)), (a_now_first, .inl (cI, 6, .inl v_now_first)), (a_now_second, .inl (cI, 6, .inl v_now_second)), (a_now_worth, .inl (cI, 6, .inl v_now_worth)), (a_now_winner, .inl (cI, 6, .inl v_now_winner))]) (va_runS (As := [.long x5_32, .long r8, .int x4]) (rest := []) ⟨hx, hb, hml, hown, hts⟩ (tX3_lowest l D cI cJ cZ cB x5_32 r8 x4 r10 hc11 H.size) (va_cwS 3 hts gX3_likely_X3_lowest rfl rfl rfl (by decide +kernel) ⟨Nat.le_of_ble_eq_true rfl, Nat.le_of_ble_eq_true rfl⟩) (k_preS (is := []) hK hP hD rfl rfl) rfl rfl hl.1 rfl (lv_room (Nat.le_of_ble_eq_true rfl)) dX3_likely_105 ⟨Nat.zero_le _, Nat.zero_le _⟩) hP hD hS hA [] [0, 1, 2, 3, 4, 5, 6, 7] [0, 1, 2, 3, 4, 5, 6, 7] rfl rfl rfl (by decide) rfl rfl (fun H locs hP hD hS => ?_)
            cases hf
            subst hQ
            exact k_rl hx hb hr hlocks hP hD hS dX3_likely_108
          · have hf := (if_neg c7).symm.trans hf
            refine lv_aload_n hx hb dX3_likely_46 rfl (lv_at hl 0 rfl) ?_
            refine lv_iload hx hb dX3_likely_47 (lv_at hl 6 rfl) ?_
            refine lv_iload_n hx hb dX3_likely_49 rfl (lv_at hl 2 rfl) ?_
            obtain ⟨u12, u13, u14, u15, u16, u17, hc18, hf⟩ := bnd6_some hf
            refine k_cv (wc := [(a_this, .inr (3, [o_this_pad, o_this_signs, .ref a_now, o_this_images, .ref a_sitting, o_this_reader, o_this_trial, o_this_best])), (a_now, .inr (0, (.int v_now_weight :: .int v_now_hole :: .int v_now_held :: .int v_now_law :: .int v_now_many :: o_now_sights :: o_now_full :: .ref a_now_first :: .ref a_now_second :: .ref a_now_worth :: .ref a_now_winner :: .ref a_now_row :: o_now_sightWeight :: o_now_sightMany :: []))), (a_sitting, .inr (2, [.int v_sitting_decided_32, .int v_sitting_sunk_32, .int v_sitting_plaintiffs_32, .int v_sitting_defendants_32, .int v_sitting_poor_32, .int v_sitting_worths_32])), (a_now_row, .inl (cI, 6, .inl v_now_row)), (a_now_first, .inl (cI, 6, .inl v_now_first)), (a_now_second, .inl (cI, 6, .inl v_now_second)), (a_now_worth, .inl (cI, 6, .inl v_now_worth)), (a_now_winner, .inl (cI, 6, .inl v_now_winner))]) (wr := []) (w1 := [(a_this, .inr (3, [o_this_pad, o_this_signs, .ref a_now, o_this_images, .ref a_sitting, o_this_reader, o_this_trial, o_this_best])), (a_now, .inr (0, (.int v_now_weight :: .int v_now_hole :: .int v_now_held :: .int v_now_law :: .int v_now_many :: o_now_sights :: o_now_full :: .ref a_now_first :: .ref a_now_second :: .ref a_now_worth :: .ref a_now_winner :: .ref a_now_row :: o_now_sightWeight :: o_now_sightMany :: []))), (a_sitting, .inr (2, [.int u12, .int u13, .int u14, .int u15, .int u16, .int u17])), (a_now_row, .inl (cI, 6, .inl v_now_row)), (a_now_first, .inl (cI, 6, .inl v_now_first)), (a_now_second, .inl (cI, 6, .inl v_now_second)), (a_now_worth, .inl (cI, 6, .inl v_now_worth)), (a_now_winner, .inl (cI, 6, .inl v_now_winner))]) (ws' := [(a_this, .inr (3, [o_this_pad, o_this_signs, .ref a_now, o_this_images, .ref a_sitting, o_this_reader, o_this_trial, o_this_best])), (a_now, .inr (0, (.int v_now_weight :: .int v_now_hole :: .int v_now_held :: .int v_now_law :: .int v_now_many :: o_now_sights :: o_now_full :: .ref a_now_first :: .ref a_now_second :: .ref a_now_worth :: .ref a_now_winner :: .ref a_now_row :: o_now_sightWeight :: o_now_sightMany :: []))), (a_sitting, .inr (2, [.int u12, .int u13, .int u14, .int u15, .int u16, .int u17])), (a_now_row, .inl (cI, 6, .inl v_now_row)), (a_now_first, .inl (cI, 6, .inl v_now_first)), (a_now_second, .inl (cI, 6, .inl v_now_second)), (a_now_worth, .inl (cI, 6, .inl v_now_worth)), (a_now_winner, .inl (cI, 6, .inl v_now_winner))]) (va_runV (As := [.int x7_32, .int x2]) (rest := []) ⟨hx, hb, hml, hown, hts⟩ (tX3_sitDrawn l D cI cJ cZ cB a_this a_now a_sitting a_now_row a_now_first a_now_second a_now_worth a_now_winner o_this_pad o_this_signs o_this_images o_this_reader o_this_trial o_this_best o_now_sights o_now_full o_now_sightWeight o_now_sightMany x7_32 x2 v_now_weight v_now_hole v_now_held v_sitting_decided_32 v_sitting_sunk_32 v_sitting_plaintiffs_32 v_sitting_defendants_32 v_sitting_poor_32 v_sitting_worths_32 v_now_many v_now_law v_now_row v_now_first v_now_second v_now_worth v_now_winner u12 u13 u14 u15 u16 u17 hc18 H.size) (cwV 2 hts gX3_likely_X3_sitDrawn rfl rfl rfl (by decide +kernel) ⟨Nat.le_of_ble_eq_true rfl, Nat.le_of_ble_eq_true rfl⟩) (k_preV (ci := 3) (q0 := 0) (is := [0, 1, 2, 3, 4, 5, 6, 7]) hK hP hD rfl rfl rfl rfl) rfl rfl hl.1 rfl (lv_room (Nat.le_of_ble_eq_true rfl)) dX3_likely_50 ⟨Nat.zero_le _, Nat.zero_le _⟩) hP hD hS hA [0, 1, 2, 3, 4, 5, 6, 7] [] [0, 1, 2, 3, 4, 5, 6, 7] rfl rfl rfl (by decide) rfl rfl (fun H locs hP hD hS => ?_)
            refine lv_aload_n hx hb dX3_likely_53 rfl (lv_at hl 0 rfl) ?_
            refine va_get (D := D) (ci := 3) (v := .ref a_now) (C := RX3) (T := TX3) (N := 8) hx hb hts iX3 hown hK.1 hP 0 rfl rfl 2 (by decide) l20 (fun _ h9 => h9) rfl dX3_likely_54 ?_
            refine lv_iload_n hx hb dX3_likely_57 rfl (lv_at hl 1 rfl) ?_
            obtain ⟨r19, hc20, hf⟩ := bnd1_some hf
            refine k_ci (wc := [(a_now, .inr (0, (.int v_now_weight :: .int v_now_hole :: .int v_now_held :: .int v_now_law :: .int v_now_many :: o_now_sights :: o_now_full :: .ref a_now_first :: .ref a_now_second :: .ref a_now_worth :: .ref a_now_winner :: .ref a_now_row :: o_now_sightWeight :: o_now_sightMany :: []))), (a_now_row, .inl (cI, 6, .inl v_now_row))]) (wr := [(a_this, .inr (3, [o_this_pad, o_this_signs, .ref a_now, o_this_images, .ref a_sitting, o_this_reader, o_this_trial, o_this_best])), (a_sitting, .inr (2, [.int u12, .int u13, .int u14, .int u15, .int u16, .int u17])), (a_now_first, .inl (cI, 6, .inl v_now_first)), (a_now_second, .inl (cI, 6, .inl v_now_second)), (a_now_worth, .inl (cI, 6, .inl v_now_worth)), (a_now_winner, .inl (cI, 6, .inl v_now_winner))]) (w1 := [(a_now, .inr (0, (.int v_now_weight :: .int v_now_hole :: .int v_now_held :: .int v_now_law :: .int v_now_many :: o_now_sights :: o_now_full :: .ref a_now_first :: .ref a_now_second :: .ref a_now_worth :: .ref a_now_winner :: .ref a_now_row :: o_now_sightWeight :: o_now_sightMany :: []))), (a_now_row, .inl (cI, 6, .inl v_now_row))]) (ws' := [(a_this, .inr (3, [o_this_pad, o_this_signs, .ref a_now, o_this_images, .ref a_sitting, o_this_reader, o_this_trial, o_this_best])), (a_now, .inr (0, (.int v_now_weight :: .int v_now_hole :: .int v_now_held :: .int v_now_law :: .int v_now_many :: o_now_sights :: o_now_full :: .ref a_now_first :: .ref a_now_second :: .ref a_now_worth :: .ref a_now_winner :: .ref a_now_row :: o_now_sightWeight :: o_now_sightMany :: []))), (a_sitting, .inr (2, [.int u12, .int u13, .int u14, .int u15, .int u16, .int u17])), (a_now_row, .inl (cI, 6, .inl v_now_row)), (a_now_first, .inl (cI, 6, .inl v_now_first)), (a_now_second, .inl (cI, 6, .inl v_now_second)), (a_now_worth, .inl (cI, 6, .inl v_now_worth)), (a_now_winner, .inl (cI, 6, .inl v_now_winner))]) (va_runV (As := [.int x1]) (rest := []) ⟨hx, hb, hml, hown, hts⟩ (tX0_place l D cI cJ cZ cB a_now a_now_row (.int v_now_weight) (.int v_now_hole) (.int v_now_held) (.int v_now_law) o_now_sights o_now_full (.ref a_now_first) (.ref a_now_second) (.ref a_now_worth) (.ref a_now_winner) o_now_sightWeight o_now_sightMany x1 v_now_many v_now_row r19 hc20 H.size) (cwV 1 hts gX3_likely_X0_place rfl rfl rfl (by decide +kernel) ⟨Nat.le_of_ble_eq_true rfl, Nat.le_of_ble_eq_true rfl⟩) (k_preV (ci := 0) (q0 := 1) (is := [1, 3]) hK hP hD rfl rfl rfl rfl) rfl rfl hl.1 rfl (lv_room (Nat.le_of_ble_eq_true rfl)) dX3_likely_58 ⟨Nat.zero_le _, Nat.zero_le _⟩) hP hD hS hA [1, 3] [0, 2, 4, 5, 6, 7] [0, 6, 1, 7, 2, 3, 4, 5] rfl rfl rfl (by decide) rfl rfl (fun H locs hP hD hS => ?_)
            refine lv_aload_n hx hb dX3_likely_61 rfl (lv_at hl 0 rfl) ?_
            refine va_get (D := D) (ci := 3) (v := .ref a_sitting) (C := RX3) (T := TX3) (N := 8) hx hb hts iX3 hown hK.1 hP 0 rfl rfl 4 (by decide) l31 (fun _ h9 => h9) rfl dX3_likely_62 ?_
            refine va_get (D := D) (ci := 2) (v := .int u12) (C := RX2) (T := TX2) (N := 6) hx hb hts iX2 hown hK.1 hP 2 rfl rfl 0 (by decide) l111 (fun _ h9 => h9) rfl dX3_likely_65 ?_
            refine lv_icmp_ge (tgt := 83) hx hb dX3_likely_68 (by decide) (fun c21 => ?_) (fun c21 => ?_)
            · have hf := (if_pos c21).symm.trans hf
              refine lv_iinc (v := (x7_32 + 1)) (lv' := [(7, .int (x7_32 + 1)), (0, .ref a_this), (1, .int x1), (2, .int x2), (3, .int x3), (4, .int x4), (5, .long x5_32)]) hx hb dX3_likely_83 hl (k := 6) rfl (by rfl) (by decide) rfl (fun ls hl => ?_)
              refine lv_goto (tgt := 32) hx hb dX3_likely_86 (by decide) ?_
              exact ih32 x5_32 (x7_32 + 1) u12 u13 u14 u15 u16 u17 _ _ _ hf hP hD hS (lv_sub hl [1, 2, 3, 4, 5, 6, 0] rfl)
            · have hf := (if_neg c21).symm.trans hf
              refine lv_lload hx hb dX3_likely_71 (lv_at hl 5 rfl) ?_
              refine lv_aload_n hx hb dX3_likely_73 rfl (lv_at hl 0 rfl) ?_
              refine lv_iload hx hb dX3_likely_74 (lv_at hl 6 rfl) ?_
              refine lv_iload_n hx hb dX3_likely_76 rfl (lv_at hl 3 rfl) ?_
              obtain ⟨r22, hc23, hf⟩ := bnd1_some hf
              refine k_cl (wc := [(a_this, .inr (3, [o_this_pad, o_this_signs, .ref a_now, o_this_images, .ref a_sitting, o_this_reader, o_this_trial, o_this_best])), (a_now, .inr (0, (.int v_now_weight :: .int v_now_hole :: .int v_now_held :: .int v_now_law :: .int v_now_many :: o_now_sights :: o_now_full :: .ref a_now_first :: .ref a_now_second :: .ref a_now_worth :: .ref a_now_winner :: .ref a_now_row :: o_now_sightWeight :: o_now_sightMany :: [])))]) (wr := [(a_sitting, .inr (2, [.int u12, .int u13, .int u14, .int u15, .int u16, .int u17])), (a_now_row, .inl (cI, 6, .inl v_now_row)), (a_now_first, .inl (cI, 6, .inl v_now_first)), (a_now_second, .inl (cI, 6, .inl v_now_second)), (a_now_worth, .inl (cI, 6, .inl v_now_worth)), (a_now_winner, .inl (cI, 6, .inl v_now_winner))]) (w1 := [(a_this, .inr (3, [o_this_pad, o_this_signs, .ref a_now, o_this_images, .ref a_sitting, o_this_reader, o_this_trial, o_this_best])), (a_now, .inr (0, (.int v_now_weight :: .int v_now_hole :: .int v_now_held :: .int v_now_law :: .int v_now_many :: o_now_sights :: o_now_full :: .ref a_now_first :: .ref a_now_second :: .ref a_now_worth :: .ref a_now_winner :: .ref a_now_row :: o_now_sightWeight :: o_now_sightMany :: [])))]) (ws' := [(a_this, .inr (3, [o_this_pad, o_this_signs, .ref a_now, o_this_images, .ref a_sitting, o_this_reader, o_this_trial, o_this_best])), (a_now, .inr (0, (.int v_now_weight :: .int v_now_hole :: .int v_now_held :: .int v_now_law :: .int v_now_many :: o_now_sights :: o_now_full :: .ref a_now_first :: .ref a_now_second :: .ref a_now_worth :: .ref a_now_winner :: .ref a_now_row :: o_now_sightWeight :: o_now_sightMany :: []))), (a_sitting, .inr (2, [.int u12, .int u13, .int u14, .int u15, .int u16, .int u17])), (a_now_row, .inl (cI, 6, .inl v_now_row)), (a_now_first, .inl (cI, 6, .inl v_now_first)), (a_now_second, .inl (cI, 6, .inl v_now_second)), (a_now_worth, .inl (cI, 6, .inl v_now_worth)), (a_now_winner, .inl (cI, 6, .inl v_now_winner))]) (va_runV (As := [.int x7_32, .int x3]) (rest := [.long x5_32]) ⟨hx, hb, hml, hown, hts⟩ (tX3_waysOf l D cI cJ cZ cB a_this a_now o_this_pad o_this_signs o_this_images (.ref a_sitting) o_this_reader o_this_trial o_this_best (.int v_now_weight) (.int v_now_hole) (.int v_now_held) (.int v_now_law) o_now_sights o_now_full (.ref a_now_first) (.ref a_now_second) (.ref a_now_worth) (.ref a_now_winner) (.ref a_now_row) o_now_sightWeight o_now_sightMany x7_32 x3 v_now_many r22 hc23 H.size) (cwV 2 hts gX3_likely_X3_waysOf rfl rfl rfl (by decide +kernel) ⟨Nat.le_of_ble_eq_true rfl, Nat.le_of_ble_eq_true rfl⟩) (k_preV (ci := 3) (q0 := 0) (is := [0, 1]) hK hP hD rfl rfl rfl rfl) rfl rfl hl.1 rfl (lv_room (Nat.le_of_ble_eq_true rfl)) dX3_likely_77 ⟨Nat.zero_le _, Nat.zero_le _⟩) hP hD hS hA [0, 1] [2, 3, 4, 5, 6, 7] [6, 7, 0, 1, 2, 3, 4, 5] rfl rfl rfl (by decide) rfl rfl (fun H locs hP hD hS => ?_)
              refine lv_ladd hx hb dX3_likely_80 ?_
              refine lv_lstore (lv' := [(5, .long (x5_32 + r22)), (0, .ref a_this), (1, .int x1), (2, .int x2), (3, .int x3), (4, .int x4), (7, .int x7_32)]) hx hb dX3_likely_81 hl (by decide) rfl (fun ls hl => ?_)
              refine lv_iinc (v := (x7_32 + 1)) (lv' := [(7, .int (x7_32 + 1)), (5, .long (x5_32 + r22)), (0, .ref a_this), (1, .int x1), (2, .int x2), (3, .int x3), (4, .int x4)]) hx hb dX3_likely_83 hl (k := 6) rfl (by rfl) (by decide) rfl (fun ls hl => ?_)
              refine lv_goto (tgt := 32) hx hb dX3_likely_86 (by decide) ?_
              exact ih32 (x5_32 + r22) (x7_32 + 1) u12 u13 u14 u15 u16 u17 _ _ _ hf hP hD hS (lv_sub hl [2, 3, 4, 5, 6, 1, 0] rfl)
      exact L32 FU 0 0 v_sitting_decided v_sitting_sunk v_sitting_plaintiffs v_sitting_defendants v_sitting_poor v_sitting_worths _ _ _ hf hP hD hS (lv_sub hl [2, 3, 4, 5, 6, 1, 0] rfl)
    · have hf := (if_pos c6).symm.trans hf
      refine lv_ldc2 (own := RX3) (v := (-1000000000000000002)) hx hb hown (hts (.constantLong RX3 156 (-1000000000000000002)) (by decide +kernel)) dX3_likely_22 ?_
      cases hf
      subst hQ
      exact k_rl hx hb hr hlocks hP hD hS dX3_likely_25
  · have hf := (if_pos c3).symm.trans hf
    refine lv_ldc2 (own := RX3) (v := (-1000000000000000001)) hx hb hown (hts (.constantLong RX3 151 (-1000000000000000001)) (by decide +kernel)) dX3_likely_8 ?_
    cases hf
    subst hQ
    exact k_rl hx hb hr hlocks hP hD hS dX3_likely_11
