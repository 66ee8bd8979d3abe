set_option maxHeartbeats 4000000 in
set_option maxRecDepth 100000 in
theorem tX4_finger (l : Launch) (D : va_G) (cI cJ cZ cB : ClassId) (a_this : Nat) (a_order : Nat) (a_plaintiff : Nat) (a_defendant : Nat) (o_this_held : Value) (o_this_law : Value) (o_this_worth : Value) (o_this_winner : Value) (o_this_sightWeight : Value) (o_this_sightMany : Value) (o_this_sights : Value) (o_this_pad : Value) (o_this_padMany : Value) (o_this_part : Value) (o_this_digits : Value) (o_this_isNought : Value) (o_this_done : Value) (o_this_by : Value) (o_this_extra : Value) (o_this_waiting : Value) (o_this_floats : Value) (o_this_decided : Value) (o_this_sunk : Value) (o_this_has : Value) (o_this_bestOrder : Value) (o_this_wins : Value) (o_this_firstTens : Value) (o_this_moves : Value) (o_this_kept : Value) (o_this_isKept : Value) (o_this_keptAt : Value) (o_this_isWriting : Value) (x1 : Int32) (v_suits : Int32) (v_weight : Int32) (v_hole : Int32) (v_order : Nat → Int32) (v_plaintiff : Nat → Int32) (v_defendant : Nat → Int32) (r0 : Int32) (hf : fX4_finger x1 v_suits v_weight v_hole v_order v_plaintiff v_defendant = some r0) : MW l yX4_finger wsX4_finger { frames := 3, cells := 0, slots := 0, locals := 69 } D cI cJ cZ cB [(a_this, .inr (4, (.int v_weight :: .int v_hole :: o_this_held :: o_this_law :: .int v_suits :: .ref a_plaintiff :: .ref a_defendant :: o_this_worth :: o_this_winner :: .ref a_order :: o_this_sightWeight :: o_this_sightMany :: o_this_sights :: o_this_pad :: o_this_padMany :: o_this_part :: o_this_digits :: o_this_isNought :: o_this_done :: o_this_by :: o_this_extra :: o_this_waiting :: o_this_floats :: o_this_decided :: o_this_sunk :: o_this_has :: o_this_bestOrder :: o_this_wins :: o_this_firstTens :: o_this_moves :: o_this_kept :: o_this_isKept :: o_this_keptAt :: o_this_isWriting :: []))), (a_order, .inl (cI, 6, .inl v_order)), (a_plaintiff, .inl (cI, 6, .inl v_plaintiff)), (a_defendant, .inl (cI, 6, .inl v_defendant))] [.ref a_this, .int x1] (QWi D r0 [(a_this, .inr (4, (.int v_weight :: .int v_hole :: o_this_held :: o_this_law :: .int v_suits :: .ref a_plaintiff :: .ref a_defendant :: o_this_worth :: o_this_winner :: .ref a_order :: o_this_sightWeight :: o_this_sightMany :: o_this_sights :: o_this_pad :: o_this_padMany :: o_this_part :: o_this_digits :: o_this_isNought :: o_this_done :: o_this_by :: o_this_extra :: o_this_waiting :: o_this_floats :: o_this_decided :: o_this_sunk :: o_this_has :: o_this_bestOrder :: o_this_wins :: o_this_firstTens :: o_this_moves :: o_this_kept :: o_this_isKept :: o_this_keptAt :: o_this_isWriting :: []))), (a_order, .inl (cI, 6, .inl v_order)), (a_plaintiff, .inl (cI, 6, .inl v_plaintiff)), (a_defendant, .inl (cI, 6, .inl v_defendant))]) := by
  refine k_body (cc := cX4_finger) (maxL := 3) (ret := (some .int)) (by decide) rfl (Nat.le_of_ble_eq_true rfl) ?_
  intro p e s m args below meth c hx hb hr hml hts hown hlocks hname hK A hA hP hD hS ls hl
  have hl : lv_has ls 3 [(0, .ref a_this), (1, .int x1)] := hl
  generalize hQ : MQ below ((QWi D r0 [(a_this, .inr (4, (.int v_weight :: .int v_hole :: o_this_held :: o_this_law :: .int v_suits :: .ref a_plaintiff :: .ref a_defendant :: o_this_worth :: o_this_winner :: .ref a_order :: o_this_sightWeight :: o_this_sightMany :: o_this_sights :: o_this_pad :: o_this_padMany :: o_this_part :: o_this_digits :: o_this_isNought :: o_this_done :: o_this_by :: o_this_extra :: o_this_waiting :: o_this_floats :: o_this_decided :: o_this_sunk :: o_this_has :: o_this_bestOrder :: o_this_wins :: o_this_firstTens :: o_this_moves :: o_this_kept :: o_this_isKept :: o_this_keptAt :: o_this_isWriting :: []))), (a_order, .inl (cI, 6, .inl v_order)), (a_plaintiff, .inl (cI, 6, .inl v_plaintiff)), (a_defendant, .inl (cI, 6, .inl v_defendant))]) A) args s 0 0 A = Q
  obtain ⟨H, hH⟩ : ∃ H, H = s.heap := ⟨_, rfl⟩
  obtain ⟨locs, hlo⟩ : ∃ z : List Loc, z = [] := ⟨_, rfl⟩
  have hP : va_P D vwCl [(a_this, .inr (4, (.int v_weight :: .int v_hole :: o_this_held :: o_this_law :: .int v_suits :: .ref a_plaintiff :: .ref a_defendant :: o_this_worth :: o_this_winner :: .ref a_order :: o_this_sightWeight :: o_this_sightMany :: o_this_sights :: o_this_pad :: o_this_padMany :: o_this_part :: o_this_digits :: o_this_isNought :: o_this_done :: o_this_by :: o_this_extra :: o_this_waiting :: o_this_floats :: o_this_decided :: o_this_sunk :: o_this_has :: o_this_bestOrder :: o_this_wins :: o_this_firstTens :: o_this_moves :: o_this_kept :: o_this_isKept :: o_this_keptAt :: o_this_isWriting :: []))), (a_order, .inl (cI, 6, .inl v_order)), (a_plaintiff, .inl (cI, 6, .inl v_plaintiff)), (a_defendant, .inl (cI, 6, .inl v_defendant))] H := by rw [hH]; exact hP
  have hS : va_S A s.heap H locs := by rw [hH, hlo]; exact hS
  suffices hg : W p l e (headSpec wsX4_finger { frames := 3, cells := 0, slots := 0, locals := 69 }).room s m args below meth c H locs 0 0 Q (F0 m 0 ls []) by rw [hH, hlo] at hg; exact hg
  have l63 := hts (.fieldLink RX4 63 "CandleCourtModel" "weight" "I") (by decide +kernel)
  have l67 := hts (.fieldLink RX4 67 "CandleCourtModel" "hole" "I") (by decide +kernel)
  have iX4 : ∀ w ∈ wsX40, w ∈ wsX4_finger := by decide +kernel
  unfold fX4_finger at hf
  refine lv_aload_n hx hb dX4_finger_0 rfl (lv_at hl 0 rfl) ?_
  refine lv_iload_n hx hb dX4_finger_1 rfl (lv_at hl 1 rfl) ?_
  obtain ⟨r1, hc2, hf⟩ := bnd1_some hf
  refine k_ci (wc := [(a_this, .inr (4, (.int v_weight :: .int v_hole :: o_this_held :: o_this_law :: .int v_suits :: .ref a_plaintiff :: .ref a_defendant :: o_this_worth :: o_this_winner :: .ref a_order :: o_this_sightWeight :: o_this_sightMany :: o_this_sights :: o_this_pad :: o_this_padMany :: o_this_part :: o_this_digits :: o_this_isNought :: o_this_done :: o_this_by :: o_this_extra :: o_this_waiting :: o_this_floats :: o_this_decided :: o_this_sunk :: o_this_has :: o_this_bestOrder :: o_this_wins :: o_this_firstTens :: o_this_moves :: o_this_kept :: o_this_isKept :: o_this_keptAt :: o_this_isWriting :: [])))]) (wr := [(a_order, .inl (cI, 6, .inl v_order)), (a_plaintiff, .inl (cI, 6, .inl v_plaintiff)), (a_defendant, .inl (cI, 6, .inl v_defendant))]) (w1 := [(a_this, .inr (4, (.int v_weight :: .int v_hole :: o_this_held :: o_this_law :: .int v_suits :: .ref a_plaintiff :: .ref a_defendant :: o_this_worth :: o_this_winner :: .ref a_order :: o_this_sightWeight :: o_this_sightMany :: o_this_sights :: o_this_pad :: o_this_padMany :: o_this_part :: o_this_digits :: o_this_isNought :: o_this_done :: o_this_by :: o_this_extra :: o_this_waiting :: o_this_floats :: o_this_decided :: o_this_sunk :: o_this_has :: o_this_bestOrder :: o_this_wins :: o_this_firstTens :: o_this_moves :: o_this_kept :: o_this_isKept :: o_this_keptAt :: o_this_isWriting :: [])))]) (ws' := [(a_this, .inr (4, (.int v_weight :: .int v_hole :: o_this_held :: o_this_law :: .int v_suits :: .ref a_plaintiff :: .ref a_defendant :: o_this_worth :: o_this_winner :: .ref a_order :: o_this_sightWeight :: o_this_sightMany :: o_this_sights :: o_this_pad :: o_this_padMany :: o_this_part :: o_this_digits :: o_this_isNought :: o_this_done :: o_this_by :: o_this_extra :: o_this_waiting :: o_this_floats :: o_this_decided :: o_this_sunk :: o_this_has :: o_this_bestOrder :: o_this_wins :: o_this_firstTens :: o_this_moves :: o_this_kept :: o_this_isKept :: o_this_keptAt :: o_this_isWriting :: []))), (a_order, .inl (cI, 6, .inl v_order)), (a_plaintiff, .inl (cI, 6, .inl v_plaintiff)), (a_defendant, .inl (cI, 6, .inl v_defendant))]) (va_runV (As := [.int x1]) (rest := []) ⟨hx, hb, hml, hown, hts⟩ (tX4_isSet l D cI cJ cZ cB a_this (.int v_weight) (.int v_hole) o_this_held o_this_law (.ref a_plaintiff) (.ref a_defendant) o_this_worth o_this_winner (.ref a_order) o_this_sightWeight o_this_sightMany o_this_sights o_this_pad o_this_padMany o_this_part o_this_digits o_this_isNought o_this_done o_this_by o_this_extra o_this_waiting o_this_floats o_this_decided o_this_sunk o_this_has o_this_bestOrder o_this_wins o_this_firstTens o_this_moves o_this_kept o_this_isKept o_this_keptAt o_this_isWriting x1 v_suits r1 hc2 H.size) (cwV 1 hts gX4_finger_X4_isSet rfl rfl rfl (by decide +kernel) ⟨Nat.le_of_ble_eq_true rfl, Nat.le_of_ble_eq_true rfl⟩) (k_preV (ci := 4) (q0 := 0) (is := [0]) hK hP hD rfl rfl rfl rfl) rfl rfl hl.1 rfl (lv_room (Nat.le_of_ble_eq_true rfl)) dX4_finger_2 ⟨Nat.zero_le _, Nat.zero_le _⟩) hP hD hS hA [0] [1, 2, 3] [3, 0, 1, 2] rfl rfl rfl (by decide) rfl rfl (fun H locs hP hD hS => ?_)
  refine lv_if_ne (tgt := 11) hx hb dX4_finger_5 (by decide) (fun c3 => ?_) (fun c3 => ?_)
  · have hf := (if_neg c3).symm.trans hf
    refine lv_aload_n hx hb dX4_finger_11 rfl (lv_at hl 0 rfl) ?_
    refine lv_iload_n hx hb dX4_finger_12 rfl (lv_at hl 1 rfl) ?_
    obtain ⟨r4, hc5, hf⟩ := bnd1_some hf
    refine k_ci (wc := [(a_this, .inr (4, (.int v_weight :: .int v_hole :: o_this_held :: o_this_law :: .int v_suits :: .ref a_plaintiff :: .ref a_defendant :: o_this_worth :: o_this_winner :: .ref a_order :: o_this_sightWeight :: o_this_sightMany :: o_this_sights :: o_this_pad :: o_this_padMany :: o_this_part :: o_this_digits :: o_this_isNought :: o_this_done :: o_this_by :: o_this_extra :: o_this_waiting :: o_this_floats :: o_this_decided :: o_this_sunk :: o_this_has :: o_this_bestOrder :: o_this_wins :: o_this_firstTens :: o_this_moves :: o_this_kept :: o_this_isKept :: o_this_keptAt :: o_this_isWriting :: []))), (a_order, .inl (cI, 6, .inl v_order)), (a_plaintiff, .inl (cI, 6, .inl v_plaintiff)), (a_defendant, .inl (cI, 6, .inl v_defendant))]) (wr := []) (w1 := [(a_this, .inr (4, (.int v_weight :: .int v_hole :: o_this_held :: o_this_law :: .int v_suits :: .ref a_plaintiff :: .ref a_defendant :: o_this_worth :: o_this_winner :: .ref a_order :: o_this_sightWeight :: o_this_sightMany :: o_this_sights :: o_this_pad :: o_this_padMany :: o_this_part :: o_this_digits :: o_this_isNought :: o_this_done :: o_this_by :: o_this_extra :: o_this_waiting :: o_this_floats :: o_this_decided :: o_this_sunk :: o_this_has :: o_this_bestOrder :: o_this_wins :: o_this_firstTens :: o_this_moves :: o_this_kept :: o_this_isKept :: o_this_keptAt :: o_this_isWriting :: []))), (a_order, .inl (cI, 6, .inl v_order)), (a_plaintiff, .inl (cI, 6, .inl v_plaintiff)), (a_defendant, .inl (cI, 6, .inl v_defendant))]) (ws' := [(a_this, .inr (4, (.int v_weight :: .int v_hole :: o_this_held :: o_this_law :: .int v_suits :: .ref a_plaintiff :: .ref a_defendant :: o_this_worth :: o_this_winner :: .ref a_order :: o_this_sightWeight :: o_this_sightMany :: o_this_sights :: o_this_pad :: o_this_padMany :: o_this_part :: o_this_digits :: o_this_isNought :: o_this_done :: o_this_by :: o_this_extra :: o_this_waiting :: o_this_floats :: o_this_decided :: o_this_sunk :: o_this_has :: o_this_bestOrder :: o_this_wins :: o_this_firstTens :: o_this_moves :: o_this_kept :: o_this_isKept :: o_this_keptAt :: o_this_isWriting :: []))), (a_order, .inl (cI, 6, .inl v_order)), (a_plaintiff, .inl (cI, 6, .inl v_plaintiff)), (a_defendant, .inl (cI, 6, .inl v_defendant))]) (va_runV (As := [.int x1]) (rest := []) ⟨hx, hb, hml, hown, hts⟩ (tX4_lastEnd l D cI cJ cZ cB a_this a_order a_plaintiff a_defendant (.int v_weight) (.int v_hole) o_this_held o_this_law o_this_worth o_this_winner o_this_sightWeight o_this_sightMany o_this_sights o_this_pad o_this_padMany o_this_part o_this_digits o_this_isNought o_this_done o_this_by o_this_extra o_this_waiting o_this_floats o_this_decided o_this_sunk o_this_has o_this_bestOrder o_this_wins o_this_firstTens o_this_moves o_this_kept o_this_isKept o_this_keptAt o_this_isWriting x1 v_suits v_order v_plaintiff v_defendant r4 hc5 H.size) (cwV 1 hts gX4_finger_X4_lastEnd rfl rfl rfl (by decide +kernel) ⟨Nat.le_of_ble_eq_true rfl, Nat.le_of_ble_eq_true rfl⟩) (k_preV (ci := 4) (q0 := 0) (is := [0, 1, 2, 3]) hK hP hD rfl rfl rfl rfl) rfl rfl hl.1 rfl (lv_room (Nat.le_of_ble_eq_true rfl)) dX4_finger_13 ⟨Nat.zero_le _, Nat.zero_le _⟩) hP hD hS hA [0, 1, 2, 3] [] [0, 1, 2, 3] rfl rfl rfl (by decide) rfl rfl (fun H locs hP hD hS => ?_)
    refine lv_bipush (v := 60) hx hb dX4_finger_16 (by decide) ?_
    refine lv_aload_n hx hb dX4_finger_18 rfl (lv_at hl 0 rfl) ?_
    refine va_get (D := D) (ci := 4) (v := .int v_weight) (C := RX4) (T := TX4) (N := 34) hx hb hts iX4 hown hK.1 hP 0 rfl rfl 0 (by decide) l63 (fun _ h9 => h9) rfl dX4_finger_19 ?_
    refine lv_imul hx hb dX4_finger_22 ?_
    refine lv_aload_n hx hb dX4_finger_23 rfl (lv_at hl 0 rfl) ?_
    refine va_get (D := D) (ci := 4) (v := .int v_hole) (C := RX4) (T := TX4) (N := 34) hx hb hts iX4 hown hK.1 hP 0 rfl rfl 1 (by decide) l67 (fun _ h9 => h9) rfl dX4_finger_24 ?_
    obtain ⟨h6, hf⟩ := gd_some hf
    refine lv_idiv hx hb dX4_finger_27 h6 ?_
    refine lv_isub hx hb dX4_finger_28 ?_
    refine lv_istore_n (lv' := [(2, .int (r4 - ((60 * v_weight) / v_hole))), (0, .ref a_this), (1, .int x1)]) hx hb dX4_finger_29 rfl hl (by decide) rfl (fun ls hl => ?_)
    refine lv_iload_n hx hb dX4_finger_30 rfl (lv_at hl 0 rfl) ?_
    refine lv_sipush (v := 999) hx hb dX4_finger_31 (by decide) ?_
    refine lv_icmp_le (tgt := 42) hx hb dX4_finger_34 (by decide) (fun c7 => ?_) (fun c7 => ?_)
    · have hf := (if_pos c7).symm.trans hf
      refine lv_iload_n hx hb dX4_finger_42 rfl (lv_at hl 0 rfl) ?_
      refine lv_if_le (tgt := 50) hx hb dX4_finger_43 (by decide) (fun c8 => ?_) (fun c8 => ?_)
      · have hf := (if_pos c8).symm.trans hf
        refine lv_iconst (v := 0) hx hb dX4_finger_50 (by decide) ?_
        cases hf
        subst hQ
        exact k_ri hx hb hr hlocks hP hD hS dX4_finger_51
      · have hf := (if_neg c8).symm.trans hf
        refine lv_iload_n hx hb dX4_finger_46 rfl (lv_at hl 0 rfl) ?_
        refine lv_goto (tgt := 51) hx hb dX4_finger_47 (by decide) ?_
        cases hf
        subst hQ
        exact k_ri hx hb hr hlocks hP hD hS dX4_finger_51
    · have hf := (if_neg c7).symm.trans hf
      refine lv_bipush (v := (-6)) hx hb dX4_finger_37 (by decide) ?_
      refine lv_goto (tgt := 51) hx hb dX4_finger_39 (by decide) ?_
      cases hf
      subst hQ
      exact k_ri hx hb hr hlocks hP hD hS dX4_finger_51
  · have hf := (if_pos c3).symm.trans hf
    refine lv_bipush (v := (-2)) hx hb dX4_finger_8 (by decide) ?_
    cases hf
    subst hQ
    exact k_ri hx hb hr hlocks hP hD hS dX4_finger_10

set_option maxHeartbeats 4000000 in
set_option maxRecDepth 100000 in
theorem tX4_drawnOut (l : Launch) (D : va_G) (cI cJ cZ cB : ClassId) (a_this : Nat) (a_order : Nat) (a_plaintiff : Nat) (a_defendant : Nat) (o_this_law : Value) (o_this_worth : Value) (o_this_winner : Value) (o_this_sightWeight : Value) (o_this_sightMany : Value) (o_this_sights : Value) (o_this_pad : Value) (o_this_padMany : Value) (o_this_part : Value) (o_this_digits : Value) (o_this_isNought : Value) (o_this_done : Value) (o_this_by : Value) (o_this_extra : Value) (o_this_waiting : Value) (o_this_floats : Value) (o_this_decided : Value) (o_this_sunk : Value) (o_this_has : Value) (o_this_bestOrder : Value) (o_this_wins : Value) (o_this_firstTens : Value) (o_this_moves : Value) (o_this_kept : Value) (o_this_isKept : Value) (o_this_keptAt : Value) (o_this_isWriting : Value) (x1 : Int32) (v_suits : Int32) (v_weight : Int32) (v_hole : Int32) (v_held : Int32) (v_order : Nat → Int32) (v_plaintiff : Nat → Int32) (v_defendant : Nat → Int32) (r0 : Int32) (hf : fX4_drawnOut x1 v_suits v_weight v_hole v_held v_order v_plaintiff v_defendant = some r0) : MW l yX4_drawnOut wsX4_drawnOut { frames := 2, cells := 0, slots := 0, locals := 46 } D cI cJ cZ cB [(a_this, .inr (4, (.int v_weight :: .int v_hole :: .int v_held :: o_this_law :: .int v_suits :: .ref a_plaintiff :: .ref a_defendant :: o_this_worth :: o_this_winner :: .ref a_order :: o_this_sightWeight :: o_this_sightMany :: o_this_sights :: o_this_pad :: o_this_padMany :: o_this_part :: o_this_digits :: o_this_isNought :: o_this_done :: o_this_by :: o_this_extra :: o_this_waiting :: o_this_floats :: o_this_decided :: o_this_sunk :: o_this_has :: o_this_bestOrder :: o_this_wins :: o_this_firstTens :: o_this_moves :: o_this_kept :: o_this_isKept :: o_this_keptAt :: o_this_isWriting :: []))), (a_order, .inl (cI, 6, .inl v_order)), (a_plaintiff, .inl (cI, 6, .inl v_plaintiff)), (a_defendant, .inl (cI, 6, .inl v_defendant))] [.ref a_this, .int x1] (QWi D r0 [(a_this, .inr (4, (.int v_weight :: .int v_hole :: .int v_held :: o_this_law :: .int v_suits :: .ref a_plaintiff :: .ref a_defendant :: o_this_worth :: o_this_winner :: .ref a_order :: o_this_sightWeight :: o_this_sightMany :: o_this_sights :: o_this_pad :: o_this_padMany :: o_this_part :: o_this_digits :: o_this_isNought :: o_this_done :: o_this_by :: o_this_extra :: o_this_waiting :: o_this_floats :: o_this_decided :: o_this_sunk :: o_this_has :: o_this_bestOrder :: o_this_wins :: o_this_firstTens :: o_this_moves :: o_this_kept :: o_this_isKept :: o_this_keptAt :: o_this_isWriting :: []))), (a_order, .inl (cI, 6, .inl v_order)), (a_plaintiff, .inl (cI, 6, .inl v_plaintiff)), (a_defendant, .inl (cI, 6, .inl v_defendant))]) := by
  refine k_body (cc := cX4_drawnOut) (maxL := 3) (ret := (some .int)) (by decide) rfl (Nat.le_of_ble_eq_true rfl) ?_
  intro p e s m args below meth c hx hb hr hml hts hown hlocks hname hK A hA hP hD hS ls hl
  have hl : lv_has ls 3 [(0, .ref a_this), (1, .int x1)] := hl
  generalize hQ : MQ below ((QWi D r0 [(a_this, .inr (4, (.int v_weight :: .int v_hole :: .int v_held :: o_this_law :: .int v_suits :: .ref a_plaintiff :: .ref a_defendant :: o_this_worth :: o_this_winner :: .ref a_order :: o_this_sightWeight :: o_this_sightMany :: o_this_sights :: o_this_pad :: o_this_padMany :: o_this_part :: o_this_digits :: o_this_isNought :: o_this_done :: o_this_by :: o_this_extra :: o_this_waiting :: o_this_floats :: o_this_decided :: o_this_sunk :: o_this_has :: o_this_bestOrder :: o_this_wins :: o_this_firstTens :: o_this_moves :: o_this_kept :: o_this_isKept :: o_this_keptAt :: o_this_isWriting :: []))), (a_order, .inl (cI, 6, .inl v_order)), (a_plaintiff, .inl (cI, 6, .inl v_plaintiff)), (a_defendant, .inl (cI, 6, .inl v_defendant))]) A) args s 0 0 A = Q
  obtain ⟨H, hH⟩ : ∃ H, H = s.heap := ⟨_, rfl⟩
  obtain ⟨locs, hlo⟩ : ∃ z : List Loc, z = [] := ⟨_, rfl⟩
  have hP : va_P D vwCl [(a_this, .inr (4, (.int v_weight :: .int v_hole :: .int v_held :: o_this_law :: .int v_suits :: .ref a_plaintiff :: .ref a_defendant :: o_this_worth :: o_this_winner :: .ref a_order :: o_this_sightWeight :: o_this_sightMany :: o_this_sights :: o_this_pad :: o_this_padMany :: o_this_part :: o_this_digits :: o_this_isNought :: o_this_done :: o_this_by :: o_this_extra :: o_this_waiting :: o_this_floats :: o_this_decided :: o_this_sunk :: o_this_has :: o_this_bestOrder :: o_this_wins :: o_this_firstTens :: o_this_moves :: o_this_kept :: o_this_isKept :: o_this_keptAt :: o_this_isWriting :: []))), (a_order, .inl (cI, 6, .inl v_order)), (a_plaintiff, .inl (cI, 6, .inl v_plaintiff)), (a_defendant, .inl (cI, 6, .inl v_defendant))] H := by rw [hH]; exact hP
  have hS : va_S A s.heap H locs := by rw [hH, hlo]; exact hS
  suffices hg : W p l e (headSpec wsX4_drawnOut { frames := 2, cells := 0, slots := 0, locals := 46 }).room s m args below meth c H locs 0 0 Q (F0 m 0 ls []) by rw [hH, hlo] at hg; exact hg
  have l63 := hts (.fieldLink RX4 63 "CandleCourtModel" "weight" "I") (by decide +kernel)
  have l67 := hts (.fieldLink RX4 67 "CandleCourtModel" "hole" "I") (by decide +kernel)
  have iX4 : ∀ w ∈ wsX40, w ∈ wsX4_drawnOut := by decide +kernel
  unfold fX4_drawnOut at hf
  refine lv_aload_n hx hb dX4_drawnOut_0 rfl (lv_at hl 0 rfl) ?_
  refine lv_iload_n hx hb dX4_drawnOut_1 rfl (lv_at hl 1 rfl) ?_
  obtain ⟨r1, hc2, hf⟩ := bnd1_some hf
  refine k_ci (wc := [(a_this, .inr (4, (.int v_weight :: .int v_hole :: .int v_held :: o_this_law :: .int v_suits :: .ref a_plaintiff :: .ref a_defendant :: o_this_worth :: o_this_winner :: .ref a_order :: o_this_sightWeight :: o_this_sightMany :: o_this_sights :: o_this_pad :: o_this_padMany :: o_this_part :: o_this_digits :: o_this_isNought :: o_this_done :: o_this_by :: o_this_extra :: o_this_waiting :: o_this_floats :: o_this_decided :: o_this_sunk :: o_this_has :: o_this_bestOrder :: o_this_wins :: o_this_firstTens :: o_this_moves :: o_this_kept :: o_this_isKept :: o_this_keptAt :: o_this_isWriting :: [])))]) (wr := [(a_order, .inl (cI, 6, .inl v_order)), (a_plaintiff, .inl (cI, 6, .inl v_plaintiff)), (a_defendant, .inl (cI, 6, .inl v_defendant))]) (w1 := [(a_this, .inr (4, (.int v_weight :: .int v_hole :: .int v_held :: o_this_law :: .int v_suits :: .ref a_plaintiff :: .ref a_defendant :: o_this_worth :: o_this_winner :: .ref a_order :: o_this_sightWeight :: o_this_sightMany :: o_this_sights :: o_this_pad :: o_this_padMany :: o_this_part :: o_this_digits :: o_this_isNought :: o_this_done :: o_this_by :: o_this_extra :: o_this_waiting :: o_this_floats :: o_this_decided :: o_this_sunk :: o_this_has :: o_this_bestOrder :: o_this_wins :: o_this_firstTens :: o_this_moves :: o_this_kept :: o_this_isKept :: o_this_keptAt :: o_this_isWriting :: [])))]) (ws' := [(a_this, .inr (4, (.int v_weight :: .int v_hole :: .int v_held :: o_this_law :: .int v_suits :: .ref a_plaintiff :: .ref a_defendant :: o_this_worth :: o_this_winner :: .ref a_order :: o_this_sightWeight :: o_this_sightMany :: o_this_sights :: o_this_pad :: o_this_padMany :: o_this_part :: o_this_digits :: o_this_isNought :: o_this_done :: o_this_by :: o_this_extra :: o_this_waiting :: o_this_floats :: o_this_decided :: o_this_sunk :: o_this_has :: o_this_bestOrder :: o_this_wins :: o_this_firstTens :: o_this_moves :: o_this_kept :: o_this_isKept :: o_this_keptAt :: o_this_isWriting :: []))), (a_order, .inl (cI, 6, .inl v_order)), (a_plaintiff, .inl (cI, 6, .inl v_plaintiff)), (a_defendant, .inl (cI, 6, .inl v_defendant))]) (va_runV (As := [.int x1]) (rest := []) ⟨hx, hb, hml, hown, hts⟩ (tX4_isSuit l D cI cJ cZ cB a_this (.int v_weight) (.int v_hole) (.int v_held) o_this_law (.ref a_plaintiff) (.ref a_defendant) o_this_worth o_this_winner (.ref a_order) o_this_sightWeight o_this_sightMany o_this_sights o_this_pad o_this_padMany o_this_part o_this_digits o_this_isNought o_this_done o_this_by o_this_extra o_this_waiting o_this_floats o_this_decided o_this_sunk o_this_has o_this_bestOrder o_this_wins o_this_firstTens o_this_moves o_this_kept o_this_isKept o_this_keptAt o_this_isWriting x1 v_suits r1 hc2 H.size) (cwV 1 hts gX4_drawnOut_X4_isSuit rfl rfl rfl (by decide +kernel) ⟨Nat.le_of_ble_eq_true rfl, Nat.le_of_ble_eq_true rfl⟩) (k_preV (ci := 4) (q0 := 0) (is := [0]) hK hP hD rfl rfl rfl rfl) rfl rfl hl.1 rfl (lv_room (Nat.le_of_ble_eq_true rfl)) dX4_drawnOut_2 ⟨Nat.zero_le _, Nat.zero_le _⟩) hP hD hS hA [0] [1, 2, 3] [3, 0, 1, 2] rfl rfl rfl (by decide) rfl rfl (fun H locs hP hD hS => ?_)
  refine lv_if_ne (tgt := 10) hx hb dX4_drawnOut_5 (by decide) (fun c3 => ?_) (fun c3 => ?_)
  · have hf := (if_neg c3).symm.trans hf
    refine lv_aload_n hx hb dX4_drawnOut_10 rfl (lv_at hl 0 rfl) ?_
    refine lv_aload_n hx hb dX4_drawnOut_11 rfl (lv_at hl 0 rfl) ?_
    refine va_get (D := D) (ci := 4) (v := .int v_weight) (C := RX4) (T := TX4) (N := 34) hx hb hts iX4 hown hK.1 hP 0 rfl rfl 0 (by decide) l63 (fun _ h9 => h9) rfl dX4_drawnOut_12 ?_
    refine lv_aload_n hx hb dX4_drawnOut_15 rfl (lv_at hl 0 rfl) ?_
    refine va_get (D := D) (ci := 4) (v := .int v_hole) (C := RX4) (T := TX4) (N := 34) hx hb hts iX4 hown hK.1 hP 0 rfl rfl 1 (by decide) l67 (fun _ h9 => h9) rfl dX4_drawnOut_16 ?_
    obtain ⟨r4, hc5, hf⟩ := bnd1_some hf
    refine k_ci (wc := [(a_this, .inr (4, (.int v_weight :: .int v_hole :: .int v_held :: o_this_law :: .int v_suits :: .ref a_plaintiff :: .ref a_defendant :: o_this_worth :: o_this_winner :: .ref a_order :: o_this_sightWeight :: o_this_sightMany :: o_this_sights :: o_this_pad :: o_this_padMany :: o_this_part :: o_this_digits :: o_this_isNought :: o_this_done :: o_this_by :: o_this_extra :: o_this_waiting :: o_this_floats :: o_this_decided :: o_this_sunk :: o_this_has :: o_this_bestOrder :: o_this_wins :: o_this_firstTens :: o_this_moves :: o_this_kept :: o_this_isKept :: o_this_keptAt :: o_this_isWriting :: [])))]) (wr := [(a_order, .inl (cI, 6, .inl v_order)), (a_plaintiff, .inl (cI, 6, .inl v_plaintiff)), (a_defendant, .inl (cI, 6, .inl v_defendant))]) (w1 := [(a_this, .inr (4, (.int v_weight :: .int v_hole :: .int v_held :: o_this_law :: .int v_suits :: .ref a_plaintiff :: .ref a_defendant :: o_this_worth :: o_this_winner :: .ref a_order :: o_this_sightWeight :: o_this_sightMany :: o_this_sights :: o_this_pad :: o_this_padMany :: o_this_part :: o_this_digits :: o_this_isNought :: o_this_done :: o_this_by :: o_this_extra :: o_this_waiting :: o_this_floats :: o_this_decided :: o_this_sunk :: o_this_has :: o_this_bestOrder :: o_this_wins :: o_this_firstTens :: o_this_moves :: o_this_kept :: o_this_isKept :: o_this_keptAt :: o_this_isWriting :: [])))]) (ws' := [(a_this, .inr (4, (.int v_weight :: .int v_hole :: .int v_held :: o_this_law :: .int v_suits :: .ref a_plaintiff :: .ref a_defendant :: o_this_worth :: o_this_winner :: .ref a_order :: o_this_sightWeight :: o_this_sightMany :: o_this_sights :: o_this_pad :: o_this_padMany :: o_this_part :: o_this_digits :: o_this_isNought :: o_this_done :: o_this_by :: o_this_extra :: o_this_waiting :: o_this_floats :: o_this_decided :: o_this_sunk :: o_this_has :: o_this_bestOrder :: o_this_wins :: o_this_firstTens :: o_this_moves :: o_this_kept :: o_this_isKept :: o_this_keptAt :: o_this_isWriting :: []))), (a_order, .inl (cI, 6, .inl v_order)), (a_plaintiff, .inl (cI, 6, .inl v_plaintiff)), (a_defendant, .inl (cI, 6, .inl v_defendant))]) (va_runV (As := [.int v_weight, .int v_hole]) (rest := []) ⟨hx, hb, hml, hown, hts⟩ (tX4_floatsBy l D cI cJ cZ cB a_this (.int v_weight) (.int v_hole) o_this_law (.int v_suits) (.ref a_plaintiff) (.ref a_defendant) o_this_worth o_this_winner (.ref a_order) o_this_sightWeight o_this_sightMany o_this_sights o_this_pad o_this_padMany o_this_part o_this_digits o_this_isNought o_this_done o_this_by o_this_extra o_this_waiting o_this_floats o_this_decided o_this_sunk o_this_has o_this_bestOrder o_this_wins o_this_firstTens o_this_moves o_this_kept o_this_isKept o_this_keptAt o_this_isWriting v_weight v_hole v_held r4 hc5 H.size) (cwV 2 hts gX4_drawnOut_X4_floatsBy rfl rfl rfl (by decide +kernel) ⟨Nat.le_of_ble_eq_true rfl, Nat.le_of_ble_eq_true rfl⟩) (k_preV (ci := 4) (q0 := 0) (is := [0]) hK hP hD rfl rfl rfl rfl) rfl rfl hl.1 rfl (lv_room (Nat.le_of_ble_eq_true rfl)) dX4_drawnOut_19 ⟨Nat.zero_le _, Nat.zero_le _⟩) hP hD hS hA [0] [1, 2, 3] [3, 0, 1, 2] rfl rfl rfl (by decide) rfl rfl (fun H locs hP hD hS => ?_)
    refine lv_aload_n hx hb dX4_drawnOut_22 rfl (lv_at hl 0 rfl) ?_
    refine lv_iload_n hx hb dX4_drawnOut_23 rfl (lv_at hl 1 rfl) ?_
    obtain ⟨r6, hc7, hf⟩ := bnd1_some hf
    refine k_ci (wc := [(a_this, .inr (4, (.int v_weight :: .int v_hole :: .int v_held :: o_this_law :: .int v_suits :: .ref a_plaintiff :: .ref a_defendant :: o_this_worth :: o_this_winner :: .ref a_order :: o_this_sightWeight :: o_this_sightMany :: o_this_sights :: o_this_pad :: o_this_padMany :: o_this_part :: o_this_digits :: o_this_isNought :: o_this_done :: o_this_by :: o_this_extra :: o_this_waiting :: o_this_floats :: o_this_decided :: o_this_sunk :: o_this_has :: o_this_bestOrder :: o_this_wins :: o_this_firstTens :: o_this_moves :: o_this_kept :: o_this_isKept :: o_this_keptAt :: o_this_isWriting :: []))), (a_order, .inl (cI, 6, .inl v_order)), (a_plaintiff, .inl (cI, 6, .inl v_plaintiff)), (a_defendant, .inl (cI, 6, .inl v_defendant))]) (wr := []) (w1 := [(a_this, .inr (4, (.int v_weight :: .int v_hole :: .int v_held :: o_this_law :: .int v_suits :: .ref a_plaintiff :: .ref a_defendant :: o_this_worth :: o_this_winner :: .ref a_order :: o_this_sightWeight :: o_this_sightMany :: o_this_sights :: o_this_pad :: o_this_padMany :: o_this_part :: o_this_digits :: o_this_isNought :: o_this_done :: o_this_by :: o_this_extra :: o_this_waiting :: o_this_floats :: o_this_decided :: o_this_sunk :: o_this_has :: o_this_bestOrder :: o_this_wins :: o_this_firstTens :: o_this_moves :: o_this_kept :: o_this_isKept :: o_this_keptAt :: o_this_isWriting :: []))), (a_order, .inl (cI, 6, .inl v_order)), (a_plaintiff, .inl (cI, 6, .inl v_plaintiff)), (a_defendant, .inl (cI, 6, .inl v_defendant))]) (ws' := [(a_this, .inr (4, (.int v_weight :: .int v_hole :: .int v_held :: o_this_law :: .int v_suits :: .ref a_plaintiff :: .ref a_defendant :: o_this_worth :: o_this_winner :: .ref a_order :: o_this_sightWeight :: o_this_sightMany :: o_this_sights :: o_this_pad :: o_this_padMany :: o_this_part :: o_this_digits :: o_this_isNought :: o_this_done :: o_this_by :: o_this_extra :: o_this_waiting :: o_this_floats :: o_this_decided :: o_this_sunk :: o_this_has :: o_this_bestOrder :: o_this_wins :: o_this_firstTens :: o_this_moves :: o_this_kept :: o_this_isKept :: o_this_keptAt :: o_this_isWriting :: []))), (a_order, .inl (cI, 6, .inl v_order)), (a_plaintiff, .inl (cI, 6, .inl v_plaintiff)), (a_defendant, .inl (cI, 6, .inl v_defendant))]) (va_runV (As := [.int x1]) (rest := [.int r4]) ⟨hx, hb, hml, hown, hts⟩ (tX4_endOf l D cI cJ cZ cB a_this a_order a_plaintiff a_defendant (.int v_weight) (.int v_hole) (.int v_held) o_this_law (.int v_suits) o_this_worth o_this_winner o_this_sightWeight o_this_sightMany o_this_sights o_this_pad o_this_padMany o_this_part o_this_digits o_this_isNought o_this_done o_this_by o_this_extra o_this_waiting o_this_floats o_this_decided o_this_sunk o_this_has o_this_bestOrder o_this_wins o_this_firstTens o_this_moves o_this_kept o_this_isKept o_this_keptAt o_this_isWriting x1 v_order v_plaintiff v_defendant r6 hc7 H.size) (cwV 1 hts gX4_drawnOut_X4_endOf rfl rfl rfl (by decide +kernel) ⟨Nat.le_of_ble_eq_true rfl, Nat.le_of_ble_eq_true rfl⟩) (k_preV (ci := 4) (q0 := 0) (is := [0, 1, 2, 3]) hK hP hD rfl rfl rfl rfl) rfl rfl hl.1 rfl (lv_room (Nat.le_of_ble_eq_true rfl)) dX4_drawnOut_24 ⟨Nat.zero_le _, Nat.zero_le _⟩) hP hD hS hA [0, 1, 2, 3] [] [0, 1, 2, 3] rfl rfl rfl (by decide) rfl rfl (fun H locs hP hD hS => ?_)
    refine lv_isub hx hb dX4_drawnOut_27 ?_
    refine lv_iconst (v := 1) hx hb dX4_drawnOut_28 (by decide) ?_
    refine lv_iadd hx hb dX4_drawnOut_29 ?_
    refine lv_istore_n (lv' := [(2, .int ((r4 - r6) + 1)), (0, .ref a_this), (1, .int x1)]) hx hb dX4_drawnOut_30 rfl hl (by decide) rfl (fun ls hl => ?_)
    refine lv_iload_n hx hb dX4_drawnOut_31 rfl (lv_at hl 0 rfl) ?_
    refine lv_if_le (tgt := 39) hx hb dX4_drawnOut_32 (by decide) (fun c8 => ?_) (fun c8 => ?_)
    · have hf := (if_pos c8).symm.trans hf
      refine lv_iconst (v := 0) hx hb dX4_drawnOut_39 (by decide) ?_
      cases hf
      subst hQ
      exact k_ri hx hb hr hlocks hP hD hS dX4_drawnOut_40
    · have hf := (if_neg c8).symm.trans hf
      refine lv_iload_n hx hb dX4_drawnOut_35 rfl (lv_at hl 0 rfl) ?_
      refine lv_goto (tgt := 40) hx hb dX4_drawnOut_36 (by decide) ?_
      cases hf
      subst hQ
      exact k_ri hx hb hr hlocks hP hD hS dX4_drawnOut_40
  · have hf := (if_pos c3).symm.trans hf
    refine lv_iconst (v := (-1)) hx hb dX4_drawnOut_8 (by decide) ?_
    cases hf
    subst hQ
    exact k_ri hx hb hr hlocks hP hD hS dX4_drawnOut_9

set_option maxHeartbeats 4000000 in
set_option maxRecDepth 100000 in
theorem tX4_findStall (l : Launch) (D : va_G) (cI cJ cZ cB : ClassId) (a_this : Nat) (a_wins : Nat) (a_firstTens : Nat) (a_moves : Nat) (o_this_weight : Value) (o_this_hole : Value) (o_this_held : Value) (o_this_law : Value) (o_this_suits : Value) (o_this_plaintiff : Value) (o_this_defendant : Value) (o_this_worth : Value) (o_this_winner : Value) (o_this_order : Value) (o_this_sightWeight : Value) (o_this_sightMany : Value) (o_this_sights : Value) (o_this_pad : Value) (o_this_padMany : Value) (o_this_part : Value) (o_this_digits : Value) (o_this_isNought : Value) (o_this_done : Value) (o_this_by : Value) (o_this_extra : Value) (o_this_waiting : Value) (o_this_floats : Value) (o_this_decided : Value) (o_this_sunk : Value) (o_this_has : Value) (o_this_bestOrder : Value) (o_this_kept : Value) (o_this_isKept : Value) (o_this_keptAt : Value) (o_this_isWriting : Value) (x1 : Int32) (x2 : Int32) (v_wins : Nat → Int32) (v_firstTens : Nat → Int32) (v_moves : Nat → Int32) (w_wins : Nat → Int32) (w_firstTens : Nat → Int32) (w_moves : Nat → Int32) (hf : fX4_findStall x1 x2 v_wins v_firstTens v_moves = some (w_wins, w_firstTens, w_moves)) : MW l yX4_findStall wsX4_findStall { frames := 0, cells := 0, slots := 0, locals := 0 } D cI cJ cZ cB [(a_this, .inr (4, (o_this_weight :: o_this_hole :: o_this_held :: o_this_law :: o_this_suits :: o_this_plaintiff :: o_this_defendant :: o_this_worth :: o_this_winner :: o_this_order :: o_this_sightWeight :: o_this_sightMany :: o_this_sights :: o_this_pad :: o_this_padMany :: o_this_part :: o_this_digits :: o_this_isNought :: o_this_done :: o_this_by :: o_this_extra :: o_this_waiting :: o_this_floats :: o_this_decided :: o_this_sunk :: o_this_has :: o_this_bestOrder :: .ref a_wins :: .ref a_firstTens :: .ref a_moves :: o_this_kept :: o_this_isKept :: o_this_keptAt :: o_this_isWriting :: []))), (a_wins, .inl (cZ, 800, .inl v_wins)), (a_firstTens, .inl (cI, 800, .inl v_firstTens)), (a_moves, .inl (cI, 800, .inl v_moves))] [.ref a_this, .int x1, .int x2] (QWv D [(a_this, .inr (4, (o_this_weight :: o_this_hole :: o_this_held :: o_this_law :: o_this_suits :: o_this_plaintiff :: o_this_defendant :: o_this_worth :: o_this_winner :: o_this_order :: o_this_sightWeight :: o_this_sightMany :: o_this_sights :: o_this_pad :: o_this_padMany :: o_this_part :: o_this_digits :: o_this_isNought :: o_this_done :: o_this_by :: o_this_extra :: o_this_waiting :: o_this_floats :: o_this_decided :: o_this_sunk :: o_this_has :: o_this_bestOrder :: .ref a_wins :: .ref a_firstTens :: .ref a_moves :: o_this_kept :: o_this_isKept :: o_this_keptAt :: o_this_isWriting :: []))), (a_wins, .inl (cZ, 800, .inl w_wins)), (a_firstTens, .inl (cI, 800, .inl w_firstTens)), (a_moves, .inl (cI, 800, .inl w_moves))]) := by
  refine k_body (cc := cX4_findStall) (maxL := 8) (ret := none) (by decide) rfl (Nat.le_of_ble_eq_true rfl) ?_
  intro p e s m args below meth c hx hb hr hml hts hown hlocks hname hK A hA hP hD hS ls hl
  have hl : lv_has ls 8 [(0, .ref a_this), (1, .int x1), (2, .int x2)] := hl
  generalize hQ : MQ below ((QWv D [(a_this, .inr (4, (o_this_weight :: o_this_hole :: o_this_held :: o_this_law :: o_this_suits :: o_this_plaintiff :: o_this_defendant :: o_this_worth :: o_this_winner :: o_this_order :: o_this_sightWeight :: o_this_sightMany :: o_this_sights :: o_this_pad :: o_this_padMany :: o_this_part :: o_this_digits :: o_this_isNought :: o_this_done :: o_this_by :: o_this_extra :: o_this_waiting :: o_this_floats :: o_this_decided :: o_this_sunk :: o_this_has :: o_this_bestOrder :: .ref a_wins :: .ref a_firstTens :: .ref a_moves :: o_this_kept :: o_this_isKept :: o_this_keptAt :: o_this_isWriting :: []))), (a_wins, .inl (cZ, 800, .inl w_wins)), (a_firstTens, .inl (cI, 800, .inl w_firstTens)), (a_moves, .inl (cI, 800, .inl w_moves))]) A) args s 0 0 A = Q
  obtain ⟨H, hH⟩ : ∃ H, H = s.heap := ⟨_, rfl⟩
  obtain ⟨locs, hlo⟩ : ∃ z : List Loc, z = [] := ⟨_, rfl⟩
  have hP : va_P D vwCl [(a_this, .inr (4, (o_this_weight :: o_this_hole :: o_this_held :: o_this_law :: o_this_suits :: o_this_plaintiff :: o_this_defendant :: o_this_worth :: o_this_winner :: o_this_order :: o_this_sightWeight :: o_this_sightMany :: o_this_sights :: o_this_pad :: o_this_padMany :: o_this_part :: o_this_digits :: o_this_isNought :: o_this_done :: o_this_by :: o_this_extra :: o_this_waiting :: o_this_floats :: o_this_decided :: o_this_sunk :: o_this_has :: o_this_bestOrder :: .ref a_wins :: .ref a_firstTens :: .ref a_moves :: o_this_kept :: o_this_isKept :: o_this_keptAt :: o_this_isWriting :: []))), (a_wins, .inl (cZ, 800, .inl v_wins)), (a_firstTens, .inl (cI, 800, .inl v_firstTens)), (a_moves, .inl (cI, 800, .inl v_moves))] H := by rw [hH]; exact hP
  have hS : va_S A s.heap H locs := by rw [hH, hlo]; exact hS
  suffices hg : W p l e (headSpec wsX4_findStall { frames := 0, cells := 0, slots := 0, locals := 0 }).room s m args below meth c H locs 0 0 Q (F0 m 0 ls []) by rw [hH, hlo] at hg; exact hg
  have l47 := hts (.fieldLink RX4 47 "CandleCourtModel" "wins" "[Z") (by decide +kernel)
  have l51 := hts (.fieldLink RX4 51 "CandleCourtModel" "firstTens" "[I") (by decide +kernel)
  have l54 := hts (.fieldLink RX4 54 "CandleCourtModel" "moves" "[I") (by decide +kernel)
  have iX4 : ∀ w ∈ wsX40, w ∈ wsX4_findStall := by decide +kernel
  unfold fX4_findStall at hf
  refine lv_iconst (v := 0) hx hb dX4_findStall_0 (by decide) ?_
  refine lv_istore_n (lv' := [(3, .int 0), (0, .ref a_this), (1, .int x1), (2, .int x2)]) hx hb dX4_findStall_1 rfl hl (by decide) rfl (fun ls hl => ?_)
  have L2 : ∀ (n2 : Nat) (x3_2 : Int32) (v_wins_2 : Nat → Int32) (v_firstTens_2 : Nat → Int32) (v_moves_2 : Nat → Int32) (H : Heap) (locs : List Loc) (ls : Array Slot), fX4_findStall_l2 x1 x2 n2 x3_2 v_wins_2 v_firstTens_2 v_moves_2 = some (w_wins, w_firstTens, w_moves) → va_P D vwCl [(a_this, .inr (4, (o_this_weight :: o_this_hole :: o_this_held :: o_this_law :: o_this_suits :: o_this_plaintiff :: o_this_defendant :: o_this_worth :: o_this_winner :: o_this_order :: o_this_sightWeight :: o_this_sightMany :: o_this_sights :: o_this_pad :: o_this_padMany :: o_this_part :: o_this_digits :: o_this_isNought :: o_this_done :: o_this_by :: o_this_extra :: o_this_waiting :: o_this_floats :: o_this_decided :: o_this_sunk :: o_this_has :: o_this_bestOrder :: .ref a_wins :: .ref a_firstTens :: .ref a_moves :: o_this_kept :: o_this_isKept :: o_this_keptAt :: o_this_isWriting :: []))), (a_wins, .inl (cZ, 800, .inl v_wins_2)), (a_firstTens, .inl (cI, 800, .inl v_firstTens_2)), (a_moves, .inl (cI, 800, .inl v_moves_2))] H → va_D A [(a_this, .inr (4, (o_this_weight :: o_this_hole :: o_this_held :: o_this_law :: o_this_suits :: o_this_plaintiff :: o_this_defendant :: o_this_worth :: o_this_winner :: o_this_order :: o_this_sightWeight :: o_this_sightMany :: o_this_sights :: o_this_pad :: o_this_padMany :: o_this_part :: o_this_digits :: o_this_isNought :: o_this_done :: o_this_by :: o_this_extra :: o_this_waiting :: o_this_floats :: o_this_decided :: o_this_sunk :: o_this_has :: o_this_bestOrder :: .ref a_wins :: .ref a_firstTens :: .ref a_moves :: o_this_kept :: o_this_isKept :: o_this_keptAt :: o_this_isWriting :: []))), (a_wins, .inl (cZ, 800, .inl v_wins_2)), (a_firstTens, .inl (cI, 800, .inl v_firstTens_2)), (a_moves, .inl (cI, 800, .inl v_moves_2))] → va_S A s.heap H locs → lv_has ls 8 [(0, .ref a_this), (1, .int x1), (2, .int x2), (3, .int x3_2)] → W p l e (headSpec wsX4_findStall { frames := 0, cells := 0, slots := 0, locals := 0 }).room s m args below meth c H locs 0 0 Q (F0 m 2 ls []) := by
    intro n2
    induction n2 with
    | zero =>
      intro x3_2 v_wins_2 v_firstTens_2 v_moves_2 H locs ls hf
      have hf : (none : Option ((Nat → Int32) × (Nat → Int32) × (Nat → Int32))) = some (w_wins, w_firstTens, w_moves) := hf
      cases hf
    | succ n2 ih2 =>
      intro x3_2 v_wins_2 v_firstTens_2 v_moves_2 H locs ls hf hP hD hS hl
      rw [fX4_findStall_l2] at hf
      refine lv_iload_n hx hb dX4_findStall_2 rfl (lv_at hl 3 rfl) ?_
      refine lv_iload_n hx hb dX4_findStall_3 rfl (lv_at hl 1 rfl) ?_
      refine lv_icmp_gt (tgt := 176) hx hb dX4_findStall_4 (by decide) (fun c1 => ?_) (fun c1 => ?_)
      · have hf := (if_pos c1).symm.trans hf
        cases hf
        subst hQ
        exact k_rv hx hb hr hlocks hP hD hS dX4_findStall_176
      · have hf := (if_neg c1).symm.trans hf
        refine lv_aload_n hx hb dX4_findStall_7 rfl (lv_at hl 0 rfl) ?_
        refine va_get (D := D) (ci := 4) (v := .ref a_wins) (C := RX4) (T := TX4) (N := 34) hx hb hts iX4 hown hK.1 hP 0 rfl rfl 27 (by decide) l47 (fun _ h9 => h9) rfl dX4_findStall_8 ?_
        refine lv_iload_n hx hb dX4_findStall_11 rfl (lv_at hl 3 rfl) ?_
        refine lv_iconst (v := 0) hx hb dX4_findStall_12 (by decide) ?_
        obtain ⟨h2, hf⟩ := gd_some hf
        refine va_zast (D := D) (i := x3_2) hx hb hK.1 hP hD hS 1 2 rfl rfl h2 dX4_findStall_13 (fun H locs hP hD hS => ?_)
        have hP : va_P D vwCl [(a_this, .inr (4, (o_this_weight :: o_this_hole :: o_this_held :: o_this_law :: o_this_suits :: o_this_plaintiff :: o_this_defendant :: o_this_worth :: o_this_winner :: o_this_order :: o_this_sightWeight :: o_this_sightMany :: o_this_sights :: o_this_pad :: o_this_padMany :: o_this_part :: o_this_digits :: o_this_isNought :: o_this_done :: o_this_by :: o_this_extra :: o_this_waiting :: o_this_floats :: o_this_decided :: o_this_sunk :: o_this_has :: o_this_bestOrder :: .ref a_wins :: .ref a_firstTens :: .ref a_moves :: o_this_kept :: o_this_isKept :: o_this_keptAt :: o_this_isWriting :: []))), (a_wins, .inl (cZ, 800, .inl (upd v_wins_2 (Int32.toNatClampNeg x3_2) (vp_nar .boolean 0)))), (a_firstTens, .inl (cI, 800, .inl v_firstTens_2)), (a_moves, .inl (cI, 800, .inl v_moves_2))] H := hP
        have hD : va_D A [(a_this, .inr (4, (o_this_weight :: o_this_hole :: o_this_held :: o_this_law :: o_this_suits :: o_this_plaintiff :: o_this_defendant :: o_this_worth :: o_this_winner :: o_this_order :: o_this_sightWeight :: o_this_sightMany :: o_this_sights :: o_this_pad :: o_this_padMany :: o_this_part :: o_this_digits :: o_this_isNought :: o_this_done :: o_this_by :: o_this_extra :: o_this_waiting :: o_this_floats :: o_this_decided :: o_this_sunk :: o_this_has :: o_this_bestOrder :: .ref a_wins :: .ref a_firstTens :: .ref a_moves :: o_this_kept :: o_this_isKept :: o_this_keptAt :: o_this_isWriting :: []))), (a_wins, .inl (cZ, 800, .inl (upd v_wins_2 (Int32.toNatClampNeg x3_2) (vp_nar .boolean 0)))), (a_firstTens, .inl (cI, 800, .inl v_firstTens_2)), (a_moves, .inl (cI, 800, .inl v_moves_2))] := hD
        refine lv_aload_n hx hb dX4_findStall_14 rfl (lv_at hl 0 rfl) ?_
        refine va_get (D := D) (ci := 4) (v := .ref a_firstTens) (C := RX4) (T := TX4) (N := 34) hx hb hts iX4 hown hK.1 hP 0 rfl rfl 28 (by decide) l51 (fun _ h9 => h9) rfl dX4_findStall_15 ?_
        refine lv_iload_n hx hb dX4_findStall_18 rfl (lv_at hl 3 rfl) ?_
        refine lv_bipush (v := (-6)) hx hb dX4_findStall_19 (by decide) ?_
        obtain ⟨h3, hf⟩ := gd_some hf
        refine va_iast (D := D) (i := x3_2) hx hb hK.1 hP hD hS 2 0 rfl rfl h3 dX4_findStall_21 (fun H locs hP hD hS => ?_)
        have hP : va_P D vwCl [(a_this, .inr (4, (o_this_weight :: o_this_hole :: o_this_held :: o_this_law :: o_this_suits :: o_this_plaintiff :: o_this_defendant :: o_this_worth :: o_this_winner :: o_this_order :: o_this_sightWeight :: o_this_sightMany :: o_this_sights :: o_this_pad :: o_this_padMany :: o_this_part :: o_this_digits :: o_this_isNought :: o_this_done :: o_this_by :: o_this_extra :: o_this_waiting :: o_this_floats :: o_this_decided :: o_this_sunk :: o_this_has :: o_this_bestOrder :: .ref a_wins :: .ref a_firstTens :: .ref a_moves :: o_this_kept :: o_this_isKept :: o_this_keptAt :: o_this_isWriting :: []))), (a_wins, .inl (cZ, 800, .inl (upd v_wins_2 (Int32.toNatClampNeg x3_2) (vp_nar .boolean 0)))), (a_firstTens, .inl (cI, 800, .inl (upd v_firstTens_2 (Int32.toNatClampNeg x3_2) (-6)))), (a_moves, .inl (cI, 800, .inl v_moves_2))] H := hP
        have hD : va_D A [(a_this, .inr (4, (o_this_weight :: o_this_hole :: o_this_held :: o_this_law :: o_this_suits :: o_this_plaintiff :: o_this_defendant :: o_this_worth :: o_this_winner :: o_this_order :: o_this_sightWeight :: o_this_sightMany :: o_this_sights :: o_this_pad :: o_this_padMany :: o_this_part :: o_this_digits :: o_this_isNought :: o_this_done :: o_this_by :: o_this_extra :: o_this_waiting :: o_this_floats :: o_this_decided :: o_this_sunk :: o_this_has :: o_this_bestOrder :: .ref a_wins :: .ref a_firstTens :: .ref a_moves :: o_this_kept :: o_this_isKept :: o_this_keptAt :: o_this_isWriting :: []))), (a_wins, .inl (cZ, 800, .inl (upd v_wins_2 (Int32.toNatClampNeg x3_2) (vp_nar .boolean 0)))), (a_firstTens, .inl (cI, 800, .inl (upd v_firstTens_2 (Int32.toNatClampNeg x3_2) (-6)))), (a_moves, .inl (cI, 800, .inl v_moves_2))] := hD
        refine lv_iconst (v := 0) hx hb dX4_findStall_22 (by decide) ?_
        refine lv_istore (lv' := [(4, .int 0), (0, .ref a_this), (1, .int x1), (2, .int x2), (3, .int x3_2)]) hx hb dX4_findStall_23 hl (by decide) rfl (fun ls hl => ?_)
        refine lv_iconst (v := 0) hx hb dX4_findStall_25 (by decide) ?_
        refine lv_istore (lv' := [(5, .int 0), (4, .int 0), (0, .ref a_this), (1, .int x1), (2, .int x2), (3, .int x3_2)]) hx hb dX4_findStall_26 hl (by decide) rfl (fun ls hl => ?_)
        refine lv_iconst (v := 1) hx hb dX4_findStall_28 (by decide) ?_
        refine lv_istore (lv' := [(6, .int 1), (5, .int 0), (4, .int 0), (0, .ref a_this), (1, .int x1), (2, .int x2), (3, .int x3_2)]) hx hb dX4_findStall_29 hl (by decide) rfl (fun ls hl => ?_)
        have L31 : ∀ (n31 : Nat) (x4_31 : Int32) (x5_31 : Int32) (x6_31 : Int32) (v_wins_31 : Nat → Int32) (v_firstTens_31 : Nat → Int32) (H : Heap) (locs : List Loc) (ls : Array Slot), fX4_findStall_l31 x2 v_moves_2 x3_2 (fX4_findStall_l2 x1 x2 n2) n31 x4_31 x5_31 x6_31 v_wins_31 v_firstTens_31 = some (w_wins, w_firstTens, w_moves) → va_P D vwCl [(a_this, .inr (4, (o_this_weight :: o_this_hole :: o_this_held :: o_this_law :: o_this_suits :: o_this_plaintiff :: o_this_defendant :: o_this_worth :: o_this_winner :: o_this_order :: o_this_sightWeight :: o_this_sightMany :: o_this_sights :: o_this_pad :: o_this_padMany :: o_this_part :: o_this_digits :: o_this_isNought :: o_this_done :: o_this_by :: o_this_extra :: o_this_waiting :: o_this_floats :: o_this_decided :: o_this_sunk :: o_this_has :: o_this_bestOrder :: .ref a_wins :: .ref a_firstTens :: .ref a_moves :: o_this_kept :: o_this_isKept :: o_this_keptAt :: o_this_isWriting :: []))), (a_wins, .inl (cZ, 800, .inl v_wins_31)), (a_firstTens, .inl (cI, 800, .inl v_firstTens_31)), (a_moves, .inl (cI, 800, .inl v_moves_2))] H → va_D A [(a_this, .inr (4, (o_this_weight :: o_this_hole :: o_this_held :: o_this_law :: o_this_suits :: o_this_plaintiff :: o_this_defendant :: o_this_worth :: o_this_winner :: o_this_order :: o_this_sightWeight :: o_this_sightMany :: o_this_sights :: o_this_pad :: o_this_padMany :: o_this_part :: o_this_digits :: o_this_isNought :: o_this_done :: o_this_by :: o_this_extra :: o_this_waiting :: o_this_floats :: o_this_decided :: o_this_sunk :: o_this_has :: o_this_bestOrder :: .ref a_wins :: .ref a_firstTens :: .ref a_moves :: o_this_kept :: o_this_isKept :: o_this_keptAt :: o_this_isWriting :: []))), (a_wins, .inl (cZ, 800, .inl v_wins_31)), (a_firstTens, .inl (cI, 800, .inl v_firstTens_31)), (a_moves, .inl (cI, 800, .inl v_moves_2))] → va_S A s.heap H locs → lv_has ls 8 [(0, .ref a_this), (1, .int x1), (2, .int x2), (3, .int x3_2), (4, .int x4_31), (5, .int x5_31), (6, .int x6_31)] → W p l e (headSpec wsX4_findStall { frames := 0, cells := 0, slots := 0, locals := 0 }).room s m args below meth c H locs 0 0 Q (F0 m 31 ls []) := by
          intro n31
          induction n31 with
          | zero =>
            intro x4_31 x5_31 x6_31 v_wins_31 v_firstTens_31 H locs ls hf
            have hf : (none : Option ((Nat → Int32) × (Nat → Int32) × (Nat → Int32))) = some (w_wins, w_firstTens, w_moves) := hf
            cases hf
          | succ n31 ih31 =>
            intro x4_31 x5_31 x6_31 v_wins_31 v_firstTens_31 H locs ls hf hP hD hS hl
            rw [fX4_findStall_l31] at hf
            refine lv_iload hx hb dX4_findStall_31 (lv_at hl 6 rfl) ?_
            refine lv_iload_n hx hb dX4_findStall_33 rfl (lv_at hl 2 rfl) ?_
            have J146 : ∀ (x3_146 : Int32) (x4_146 : Int32) (x5_146 : Int32) (v_wins_146 : Nat → Int32) (v_firstTens_146 : Nat → Int32) (v_moves_146 : Nat → Int32) (H : Heap) (locs : List Loc) (ls : Array Slot), fX4_findStall_j146 v_wins_146 v_firstTens_146 v_moves_146 x3_146 x4_146 x5_146 (fX4_findStall_l2 x1 x2 n2) = some (w_wins, w_firstTens, w_moves) → va_P D vwCl [(a_this, .inr (4, (o_this_weight :: o_this_hole :: o_this_held :: o_this_law :: o_this_suits :: o_this_plaintiff :: o_this_defendant :: o_this_worth :: o_this_winner :: o_this_order :: o_this_sightWeight :: o_this_sightMany :: o_this_sights :: o_this_pad :: o_this_padMany :: o_this_part :: o_this_digits :: o_this_isNought :: o_this_done :: o_this_by :: o_this_extra :: o_this_waiting :: o_this_floats :: o_this_decided :: o_this_sunk :: o_this_has :: o_this_bestOrder :: .ref a_wins :: .ref a_firstTens :: .ref a_moves :: o_this_kept :: o_this_isKept :: o_this_keptAt :: o_this_isWriting :: []))), (a_wins, .inl (cZ, 800, .inl v_wins_146)), (a_firstTens, .inl (cI, 800, .inl v_firstTens_146)), (a_moves, .inl (cI, 800, .inl v_moves_146))] H → va_D A [(a_this, .inr (4, (o_this_weight :: o_this_hole :: o_this_held :: o_this_law :: o_this_suits :: o_this_plaintiff :: o_this_defendant :: o_this_worth :: o_this_winner :: o_this_order :: o_this_sightWeight :: o_this_sightMany :: o_this_sights :: o_this_pad :: o_this_padMany :: o_this_part :: o_this_digits :: o_this_isNought :: o_this_done :: o_this_by :: o_this_extra :: o_this_waiting :: o_this_floats :: o_this_decided :: o_this_sunk :: o_this_has :: o_this_bestOrder :: .ref a_wins :: .ref a_firstTens :: .ref a_moves :: o_this_kept :: o_this_isKept :: o_this_keptAt :: o_this_isWriting :: []))), (a_wins, .inl (cZ, 800, .inl v_wins_146)), (a_firstTens, .inl (cI, 800, .inl v_firstTens_146)), (a_moves, .inl (cI, 800, .inl v_moves_146))] → va_S A s.heap H locs → lv_has ls 8 [(0, .ref a_this), (1, .int x1), (2, .int x2), (3, .int x3_146), (4, .int x4_146), (5, .int x5_146)] → W p l e (headSpec wsX4_findStall { frames := 0, cells := 0, slots := 0, locals := 0 }).room s m args below meth c H locs 0 0 Q (F0 m 146 ls []) := by
              intro x3_146 x4_146 x5_146 v_wins_146 v_firstTens_146 v_moves_146 H locs ls hf hP hD hS hl
              unfold fX4_findStall_j146 at hf
              refine lv_aload_n hx hb dX4_findStall_146 rfl (lv_at hl 0 rfl) ?_
              refine va_get (D := D) (ci := 4) (v := .ref a_moves) (C := RX4) (T := TX4) (N := 34) hx hb hts iX4 hown hK.1 hP 0 rfl rfl 29 (by decide) l54 (fun _ h9 => h9) rfl dX4_findStall_147 ?_
              refine lv_iload_n hx hb dX4_findStall_150 rfl (lv_at hl 3 rfl) ?_
              refine lv_iconst (v := 1) hx hb dX4_findStall_151 (by decide) ?_
              refine lv_aload_n hx hb dX4_findStall_152 rfl (lv_at hl 0 rfl) ?_
              refine va_get (D := D) (ci := 4) (v := .ref a_wins) (C := RX4) (T := TX4) (N := 34) hx hb hts iX4 hown hK.1 hP 0 rfl rfl 27 (by decide) l47 (fun _ h9 => h9) rfl dX4_findStall_153 ?_
              refine lv_iload_n hx hb dX4_findStall_156 rfl (lv_at hl 3 rfl) ?_
              obtain ⟨h4, hf⟩ := gd_some hf
              refine va_zald (D := D) (i := x3_146) hx hb hK.1 hP 1 2 rfl rfl h4 dX4_findStall_157 ?_
              have J168 : ∀ (s1_168 : Int32) (s2_168 : Int32) (s3_168 : Int32) (x3_168 : Int32) (v_wins_168 : Nat → Int32) (v_firstTens_168 : Nat → Int32) (v_moves_168 : Nat → Int32) (H : Heap) (locs : List Loc) (ls : Array Slot), fX4_findStall_j168 v_wins_168 v_firstTens_168 v_moves_168 x3_168 s1_168 s2_168 s3_168 (fX4_findStall_l2 x1 x2 n2) = some (w_wins, w_firstTens, w_moves) → va_P D vwCl [(a_this, .inr (4, (o_this_weight :: o_this_hole :: o_this_held :: o_this_law :: o_this_suits :: o_this_plaintiff :: o_this_defendant :: o_this_worth :: o_this_winner :: o_this_order :: o_this_sightWeight :: o_this_sightMany :: o_this_sights :: o_this_pad :: o_this_padMany :: o_this_part :: o_this_digits :: o_this_isNought :: o_this_done :: o_this_by :: o_this_extra :: o_this_waiting :: o_this_floats :: o_this_decided :: o_this_sunk :: o_this_has :: o_this_bestOrder :: .ref a_wins :: .ref a_firstTens :: .ref a_moves :: o_this_kept :: o_this_isKept :: o_this_keptAt :: o_this_isWriting :: []))), (a_wins, .inl (cZ, 800, .inl v_wins_168)), (a_firstTens, .inl (cI, 800, .inl v_firstTens_168)), (a_moves, .inl (cI, 800, .inl v_moves_168))] H → va_D A [(a_this, .inr (4, (o_this_weight :: o_this_hole :: o_this_held :: o_this_law :: o_this_suits :: o_this_plaintiff :: o_this_defendant :: o_this_worth :: o_this_winner :: o_this_order :: o_this_sightWeight :: o_this_sightMany :: o_this_sights :: o_this_pad :: o_this_padMany :: o_this_part :: o_this_digits :: o_this_isNought :: o_this_done :: o_this_by :: o_this_extra :: o_this_waiting :: o_this_floats :: o_this_decided :: o_this_sunk :: o_this_has :: o_this_bestOrder :: .ref a_wins :: .ref a_firstTens :: .ref a_moves :: o_this_kept :: o_this_isKept :: o_this_keptAt :: o_this_isWriting :: []))), (a_wins, .inl (cZ, 800, .inl v_wins_168)), (a_firstTens, .inl (cI, 800, .inl v_firstTens_168)), (a_moves, .inl (cI, 800, .inl v_moves_168))] → va_S A s.heap H locs → lv_has ls 8 [(0, .ref a_this), (1, .int x1), (2, .int x2), (3, .int x3_168)] → W p l e (headSpec wsX4_findStall { frames := 0, cells := 0, slots := 0, locals := 0 }).room s m args below meth c H locs 0 0 Q (F0 m 168 ls [.int s3_168, .int s2_168, .int s1_168, .ref a_moves]) := by
                intro s1_168 s2_168 s3_168 x3_168 v_wins_168 v_firstTens_168 v_moves_168 H locs ls hf hP hD hS hl
                unfold fX4_findStall_j168 at hf
                refine lv_iadd hx hb dX4_findStall_168 ?_
                obtain ⟨h5, hf⟩ := gd_some hf
                refine va_iast (D := D) (i := s1_168) hx hb hK.1 hP hD hS 3 0 rfl rfl h5 dX4_findStall_169 (fun H locs hP hD hS => ?_)
                have hP : va_P D vwCl [(a_this, .inr (4, (o_this_weight :: o_this_hole :: o_this_held :: o_this_law :: o_this_suits :: o_this_plaintiff :: o_this_defendant :: o_this_worth :: o_this_winner :: o_this_order :: o_this_sightWeight :: o_this_sightMany :: o_this_sights :: o_this_pad :: o_this_padMany :: o_this_part :: o_this_digits :: o_this_isNought :: o_this_done :: o_this_by :: o_this_extra :: o_this_waiting :: o_this_floats :: o_this_decided :: o_this_sunk :: o_this_has :: o_this_bestOrder :: .ref a_wins :: .ref a_firstTens :: .ref a_moves :: o_this_kept :: o_this_isKept :: o_this_keptAt :: o_this_isWriting :: []))), (a_wins, .inl (cZ, 800, .inl v_wins_168)), (a_firstTens, .inl (cI, 800, .inl v_firstTens_168)), (a_moves, .inl (cI, 800, .inl (upd v_moves_168 (Int32.toNatClampNeg s1_168) (s2_168 + s3_168))))] H := hP
                have hD : va_D A [(a_this, .inr (4, (o_this_weight :: o_this_hole :: o_this_held :: o_this_law :: o_this_suits :: o_this_plaintiff :: o_this_defendant :: o_this_worth :: o_this_winner :: o_this_order :: o_this_sightWeight :: o_this_sightMany :: o_this_sights :: o_this_pad :: o_this_padMany :: o_this_part :: o_this_digits :: o_this_isNought :: o_this_done :: o_this_by :: o_this_extra :: o_this_waiting :: o_this_floats :: o_this_decided :: o_this_sunk :: o_this_has :: o_this_bestOrder :: .ref a_wins :: .ref a_firstTens :: .ref a_moves :: o_this_kept :: o_this_isKept :: o_this_keptAt :: o_this_isWriting :: []))), (a_wins, .inl (cZ, 800, .inl v_wins_168)), (a_firstTens, .inl (cI, 800, .inl v_firstTens_168)), (a_moves, .inl (cI, 800, .inl (upd v_moves_168 (Int32.toNatClampNeg s1_168) (s2_168 + s3_168))))] := hD
                refine lv_iinc (v := (x3_168 + 1)) (lv' := [(3, .int (x3_168 + 1)), (0, .ref a_this), (1, .int x1), (2, .int x2)]) hx hb dX4_findStall_170 hl (k := 3) rfl (by rfl) (by decide) rfl (fun ls hl => ?_)
                refine lv_goto (tgt := 2) hx hb dX4_findStall_173 (by decide) ?_
                exact ih2 (x3_168 + 1) v_wins_168 v_firstTens_168 (upd v_moves_168 (Int32.toNatClampNeg s1_168) (s2_168 + s3_168)) _ _ _ hf hP hD hS (lv_sub hl [1, 2, 3, 0] rfl)
              refine lv_if_eq (tgt := 166) hx hb dX4_findStall_158 (by decide) (fun c6 => ?_) (fun c6 => ?_)
              · have hf := (if_pos c6).symm.trans hf
                refine lv_iload hx hb dX4_findStall_166 (lv_at hl 5 rfl) ?_
                exact J168 x3_146 1 x5_146 x3_146 v_wins_146 v_firstTens_146 v_moves_146 _ _ _ hf hP hD hS (lv_sub hl [0, 1, 2, 3] rfl)
              · have hf := (if_neg c6).symm.trans hf
                refine lv_iload hx hb dX4_findStall_161 (lv_at hl 4 rfl) ?_
                refine lv_goto (tgt := 168) hx hb dX4_findStall_163 (by decide) ?_
                exact J168 x3_146 1 x4_146 x3_146 v_wins_146 v_firstTens_146 v_moves_146 _ _ _ hf hP hD hS (lv_sub hl [0, 1, 2, 3] rfl)
            refine lv_icmp_gt (tgt := 146) hx hb dX4_findStall_34 (by decide) (fun c7 => ?_) (fun c7 => ?_)
            · have hf := (if_pos c7).symm.trans hf
              exact J146 x3_2 x4_31 x5_31 v_wins_31 v_firstTens_31 v_moves_2 _ _ _ hf hP hD hS (lv_sub hl [0, 1, 2, 3, 4, 5] rfl)
            · have hf := (if_neg c7).symm.trans hf
              refine lv_iload hx hb dX4_findStall_37 (lv_at hl 6 rfl) ?_
              refine lv_iload_n hx hb dX4_findStall_39 rfl (lv_at hl 3 rfl) ?_
              refine lv_icmp_gt (tgt := 146) hx hb dX4_findStall_40 (by decide) (fun c8 => ?_) (fun c8 => ?_)
              · have hf := (if_pos c8).symm.trans hf
                exact J146 x3_2 x4_31 x5_31 v_wins_31 v_firstTens_31 v_moves_2 _ _ _ hf hP hD hS (lv_sub hl [0, 1, 2, 3, 4, 5] rfl)
              · have hf := (if_neg c8).symm.trans hf
                refine lv_aload_n hx hb dX4_findStall_43 rfl (lv_at hl 0 rfl) ?_
                refine va_get (D := D) (ci := 4) (v := .ref a_moves) (C := RX4) (T := TX4) (N := 34) hx hb hts iX4 hown hK.1 hP 0 rfl rfl 29 (by decide) l54 (fun _ h9 => h9) rfl dX4_findStall_44 ?_
                refine lv_iload_n hx hb dX4_findStall_47 rfl (lv_at hl 3 rfl) ?_
                refine lv_iload hx hb dX4_findStall_48 (lv_at hl 6 rfl) ?_
                refine lv_isub hx hb dX4_findStall_50 ?_
                obtain ⟨h9, hf⟩ := gd_some hf
                refine va_iald (D := D) (i := (x3_2 - x6_31)) hx hb hK.1 hP 3 0 rfl rfl h9 dX4_findStall_51 ?_
                refine lv_istore (lv' := [(7, .int (v_moves_2 (Int32.toNatClampNeg (x3_2 - x6_31)))), (0, .ref a_this), (1, .int x1), (2, .int x2), (3, .int x3_2), (4, .int x4_31), (5, .int x5_31), (6, .int x6_31)]) hx hb dX4_findStall_52 hl (by decide) rfl (fun ls hl => ?_)
                refine lv_aload_n hx hb dX4_findStall_54 rfl (lv_at hl 1 rfl) ?_
                refine va_get (D := D) (ci := 4) (v := .ref a_wins) (C := RX4) (T := TX4) (N := 34) hx hb hts iX4 hown hK.1 hP 0 rfl rfl 27 (by decide) l47 (fun _ h9 => h9) rfl dX4_findStall_55 ?_
                refine lv_iload_n hx hb dX4_findStall_58 rfl (lv_at hl 4 rfl) ?_
                refine lv_iload hx hb dX4_findStall_59 (lv_at hl 7 rfl) ?_
                refine lv_isub hx hb dX4_findStall_61 ?_
                obtain ⟨h10, hf⟩ := gd_some hf
                refine va_zald (D := D) (i := (x3_2 - x6_31)) hx hb hK.1 hP 1 2 rfl rfl h10 dX4_findStall_62 ?_
                have J124 : ∀ (x4_124 : Int32) (x5_124 : Int32) (x6_124 : Int32) (x7_124 : Int32) (v_wins_124 : Nat → Int32) (v_firstTens_124 : Nat → Int32) (H : Heap) (locs : List Loc) (ls : Array Slot), fX4_findStall_j124 v_wins_124 v_firstTens_124 x4_124 x5_124 x6_124 x7_124 (fX4_findStall_l31 x2 v_moves_2 x3_2 (fX4_findStall_l2 x1 x2 n2) n31) = some (w_wins, w_firstTens, w_moves) → va_P D vwCl [(a_this, .inr (4, (o_this_weight :: o_this_hole :: o_this_held :: o_this_law :: o_this_suits :: o_this_plaintiff :: o_this_defendant :: o_this_worth :: o_this_winner :: o_this_order :: o_this_sightWeight :: o_this_sightMany :: o_this_sights :: o_this_pad :: o_this_padMany :: o_this_part :: o_this_digits :: o_this_isNought :: o_this_done :: o_this_by :: o_this_extra :: o_this_waiting :: o_this_floats :: o_this_decided :: o_this_sunk :: o_this_has :: o_this_bestOrder :: .ref a_wins :: .ref a_firstTens :: .ref a_moves :: o_this_kept :: o_this_isKept :: o_this_keptAt :: o_this_isWriting :: []))), (a_wins, .inl (cZ, 800, .inl v_wins_124)), (a_firstTens, .inl (cI, 800, .inl v_firstTens_124)), (a_moves, .inl (cI, 800, .inl v_moves_2))] H → va_D A [(a_this, .inr (4, (o_this_weight :: o_this_hole :: o_this_held :: o_this_law :: o_this_suits :: o_this_plaintiff :: o_this_defendant :: o_this_worth :: o_this_winner :: o_this_order :: o_this_sightWeight :: o_this_sightMany :: o_this_sights :: o_this_pad :: o_this_padMany :: o_this_part :: o_this_digits :: o_this_isNought :: o_this_done :: o_this_by :: o_this_extra :: o_this_waiting :: o_this_floats :: o_this_decided :: o_this_sunk :: o_this_has :: o_this_bestOrder :: .ref a_wins :: .ref a_firstTens :: .ref a_moves :: o_this_kept :: o_this_isKept :: o_this_keptAt :: o_this_isWriting :: []))), (a_wins, .inl (cZ, 800, .inl v_wins_124)), (a_firstTens, .inl (cI, 800, .inl v_firstTens_124)), (a_moves, .inl (cI, 800, .inl v_moves_2))] → va_S A s.heap H locs → lv_has ls 8 [(0, .ref a_this), (1, .int x1), (2, .int x2), (3, .int x3_2), (4, .int x4_124), (5, .int x5_124), (6, .int x6_124), (7, .int x7_124)] → W p l e (headSpec wsX4_findStall { frames := 0, cells := 0, slots := 0, locals := 0 }).room s m args below meth c H locs 0 0 Q (F0 m 124 ls []) := by
                  intro x4_124 x5_124 x6_124 x7_124 v_wins_124 v_firstTens_124 H locs ls hf hP hD hS hl
                  unfold fX4_findStall_j124 at hf
                  refine lv_iload hx hb dX4_findStall_124 (lv_at hl 7 rfl) ?_
                  refine lv_iload hx hb dX4_findStall_126 (lv_at hl 5 rfl) ?_
                  refine lv_icmp_le (tgt := 136) hx hb dX4_findStall_128 (by decide) (fun c11 => ?_) (fun c11 => ?_)
                  · have hf := (if_pos c11).symm.trans hf
                    refine lv_iload hx hb dX4_findStall_136 (lv_at hl 5 rfl) ?_
                    refine lv_istore (lv' := [(5, .int x5_124), (0, .ref a_this), (1, .int x1), (2, .int x2), (3, .int x3_2), (4, .int x4_124), (6, .int x6_124), (7, .int x7_124)]) hx hb dX4_findStall_138 hl (by decide) rfl (fun ls hl => ?_)
                    refine lv_iinc (v := (x6_124 + 1)) (lv' := [(6, .int (x6_124 + 1)), (5, .int x5_124), (0, .ref a_this), (1, .int x1), (2, .int x2), (3, .int x3_2), (4, .int x4_124), (7, .int x7_124)]) hx hb dX4_findStall_140 hl (k := 6) rfl (by rfl) (by decide) rfl (fun ls hl => ?_)
                    refine lv_goto (tgt := 31) hx hb dX4_findStall_143 (by decide) ?_
                    exact ih31 x4_124 x5_124 (x6_124 + 1) v_wins_124 v_firstTens_124 _ _ _ hf hP hD hS (lv_sub hl [2, 3, 4, 5, 6, 1, 0] rfl)
                  · have hf := (if_neg c11).symm.trans hf
                    refine lv_iload hx hb dX4_findStall_131 (lv_at hl 7 rfl) ?_
                    refine lv_goto (tgt := 138) hx hb dX4_findStall_133 (by decide) ?_
                    refine lv_istore (lv' := [(5, .int x7_124), (0, .ref a_this), (1, .int x1), (2, .int x2), (3, .int x3_2), (4, .int x4_124), (6, .int x6_124), (7, .int x7_124)]) hx hb dX4_findStall_138 hl (by decide) rfl (fun ls hl => ?_)
                    refine lv_iinc (v := (x6_124 + 1)) (lv' := [(6, .int (x6_124 + 1)), (5, .int x7_124), (0, .ref a_this), (1, .int x1), (2, .int x2), (3, .int x3_2), (4, .int x4_124), (7, .int x7_124)]) hx hb dX4_findStall_140 hl (k := 6) rfl (by rfl) (by decide) rfl (fun ls hl => ?_)
                    refine lv_goto (tgt := 31) hx hb dX4_findStall_143 (by decide) ?_
                    exact ih31 x4_124 x7_124 (x6_124 + 1) v_wins_124 v_firstTens_124 _ _ _ hf hP hD hS (lv_sub hl [2, 3, 4, 5, 6, 1, 0] rfl)
                refine lv_if_ne (tgt := 124) hx hb dX4_findStall_63 (by decide) (fun c12 => ?_) (fun c12 => ?_)
                · have hf := (if_neg c12).symm.trans hf
                  exact J124 x4_31 x5_31 x6_31 (v_moves_2 (Int32.toNatClampNeg (x3_2 - x6_31))) v_wins_31 v_firstTens_31 _ _ _ hf hP hD hS (lv_sub hl [1, 2, 3, 4, 5, 6, 7, 0] rfl)
                · have hf := (if_pos c12).symm.trans hf
                  refine lv_aload_n hx hb dX4_findStall_66 rfl (lv_at hl 1 rfl) ?_
                  refine va_get (D := D) (ci := 4) (v := .ref a_firstTens) (C := RX4) (T := TX4) (N := 34) hx hb hts iX4 hown hK.1 hP 0 rfl rfl 28 (by decide) l51 (fun _ h9 => h9) rfl dX4_findStall_67 ?_
                  refine lv_iload_n hx hb dX4_findStall_70 rfl (lv_at hl 4 rfl) ?_
                  refine lv_aload_n hx hb dX4_findStall_71 rfl (lv_at hl 1 rfl) ?_
                  refine va_get (D := D) (ci := 4) (v := .ref a_wins) (C := RX4) (T := TX4) (N := 34) hx hb hts iX4 hown hK.1 hP 0 rfl rfl 27 (by decide) l47 (fun _ h9 => h9) rfl dX4_findStall_72 ?_
                  refine lv_iload_n hx hb dX4_findStall_75 rfl (lv_at hl 4 rfl) ?_
                  obtain ⟨h13, hf⟩ := gd_some hf
                  refine va_zald (D := D) (i := x3_2) hx hb hK.1 hP 1 2 rfl rfl h13 dX4_findStall_76 ?_
                  have J91 : ∀ (s1_91 : Int32) (s2_91 : Int32) (x4_91 : Int32) (x5_91 : Int32) (x6_91 : Int32) (x7_91 : Int32) (v_wins_91 : Nat → Int32) (v_firstTens_91 : Nat → Int32) (H : Heap) (locs : List Loc) (ls : Array Slot), fX4_findStall_j91 v_wins_91 v_firstTens_91 x3_2 x4_91 x5_91 x6_91 x7_91 s1_91 s2_91 (fX4_findStall_l31 x2 v_moves_2 x3_2 (fX4_findStall_l2 x1 x2 n2) n31) = some (w_wins, w_firstTens, w_moves) → va_P D vwCl [(a_this, .inr (4, (o_this_weight :: o_this_hole :: o_this_held :: o_this_law :: o_this_suits :: o_this_plaintiff :: o_this_defendant :: o_this_worth :: o_this_winner :: o_this_order :: o_this_sightWeight :: o_this_sightMany :: o_this_sights :: o_this_pad :: o_this_padMany :: o_this_part :: o_this_digits :: o_this_isNought :: o_this_done :: o_this_by :: o_this_extra :: o_this_waiting :: o_this_floats :: o_this_decided :: o_this_sunk :: o_this_has :: o_this_bestOrder :: .ref a_wins :: .ref a_firstTens :: .ref a_moves :: o_this_kept :: o_this_isKept :: o_this_keptAt :: o_this_isWriting :: []))), (a_wins, .inl (cZ, 800, .inl v_wins_91)), (a_firstTens, .inl (cI, 800, .inl v_firstTens_91)), (a_moves, .inl (cI, 800, .inl v_moves_2))] H → va_D A [(a_this, .inr (4, (o_this_weight :: o_this_hole :: o_this_held :: o_this_law :: o_this_suits :: o_this_plaintiff :: o_this_defendant :: o_this_worth :: o_this_winner :: o_this_order :: o_this_sightWeight :: o_this_sightMany :: o_this_sights :: o_this_pad :: o_this_padMany :: o_this_part :: o_this_digits :: o_this_isNought :: o_this_done :: o_this_by :: o_this_extra :: o_this_waiting :: o_this_floats :: o_this_decided :: o_this_sunk :: o_this_has :: o_this_bestOrder :: .ref a_wins :: .ref a_firstTens :: .ref a_moves :: o_this_kept :: o_this_isKept :: o_this_keptAt :: o_this_isWriting :: []))), (a_wins, .inl (cZ, 800, .inl v_wins_91)), (a_firstTens, .inl (cI, 800, .inl v_firstTens_91)), (a_moves, .inl (cI, 800, .inl v_moves_2))] → va_S A s.heap H locs → lv_has ls 8 [(0, .ref a_this), (1, .int x1), (2, .int x2), (3, .int x3_2), (4, .int x4_91), (5, .int x5_91), (6, .int x6_91), (7, .int x7_91)] → W p l e (headSpec wsX4_findStall { frames := 0, cells := 0, slots := 0, locals := 0 }).room s m args below meth c H locs 0 0 Q (F0 m 91 ls [.int s2_91, .int s1_91, .ref a_firstTens]) := by
                    intro s1_91 s2_91 x4_91 x5_91 x6_91 x7_91 v_wins_91 v_firstTens_91 H locs ls hf hP hD hS hl
                    unfold fX4_findStall_j91 at hf
                    obtain ⟨h14, hf⟩ := gd_some hf
                    refine va_iast (D := D) (i := s1_91) hx hb hK.1 hP hD hS 2 0 rfl rfl h14 dX4_findStall_91 (fun H locs hP hD hS => ?_)
                    have hP : va_P D vwCl [(a_this, .inr (4, (o_this_weight :: o_this_hole :: o_this_held :: o_this_law :: o_this_suits :: o_this_plaintiff :: o_this_defendant :: o_this_worth :: o_this_winner :: o_this_order :: o_this_sightWeight :: o_this_sightMany :: o_this_sights :: o_this_pad :: o_this_padMany :: o_this_part :: o_this_digits :: o_this_isNought :: o_this_done :: o_this_by :: o_this_extra :: o_this_waiting :: o_this_floats :: o_this_decided :: o_this_sunk :: o_this_has :: o_this_bestOrder :: .ref a_wins :: .ref a_firstTens :: .ref a_moves :: o_this_kept :: o_this_isKept :: o_this_keptAt :: o_this_isWriting :: []))), (a_wins, .inl (cZ, 800, .inl v_wins_91)), (a_firstTens, .inl (cI, 800, .inl (upd v_firstTens_91 (Int32.toNatClampNeg s1_91) s2_91))), (a_moves, .inl (cI, 800, .inl v_moves_2))] H := hP
                    have hD : va_D A [(a_this, .inr (4, (o_this_weight :: o_this_hole :: o_this_held :: o_this_law :: o_this_suits :: o_this_plaintiff :: o_this_defendant :: o_this_worth :: o_this_winner :: o_this_order :: o_this_sightWeight :: o_this_sightMany :: o_this_sights :: o_this_pad :: o_this_padMany :: o_this_part :: o_this_digits :: o_this_isNought :: o_this_done :: o_this_by :: o_this_extra :: o_this_waiting :: o_this_floats :: o_this_decided :: o_this_sunk :: o_this_has :: o_this_bestOrder :: .ref a_wins :: .ref a_firstTens :: .ref a_moves :: o_this_kept :: o_this_isKept :: o_this_keptAt :: o_this_isWriting :: []))), (a_wins, .inl (cZ, 800, .inl v_wins_91)), (a_firstTens, .inl (cI, 800, .inl (upd v_firstTens_91 (Int32.toNatClampNeg s1_91) s2_91))), (a_moves, .inl (cI, 800, .inl v_moves_2))] := hD
                    refine lv_aload_n hx hb dX4_findStall_92 rfl (lv_at hl 0 rfl) ?_
                    refine va_get (D := D) (ci := 4) (v := .ref a_wins) (C := RX4) (T := TX4) (N := 34) hx hb hts iX4 hown hK.1 hP 0 rfl rfl 27 (by decide) l47 (fun _ h9 => h9) rfl dX4_findStall_93 ?_
                    refine lv_iload_n hx hb dX4_findStall_96 rfl (lv_at hl 3 rfl) ?_
                    obtain ⟨h15, hf⟩ := gd_some hf
                    refine va_zald (D := D) (i := x3_2) hx hb hK.1 hP 1 2 rfl rfl h15 dX4_findStall_97 ?_
                    have J115 : ∀ (s0_115 : Int32) (x5_115 : Int32) (x6_115 : Int32) (x7_115 : Int32) (v_wins_115 : Nat → Int32) (v_firstTens_115 : Nat → Int32) (H : Heap) (locs : List Loc) (ls : Array Slot), fX4_findStall_j115 v_wins_115 v_firstTens_115 x3_2 x5_115 x6_115 x7_115 s0_115 (fX4_findStall_l31 x2 v_moves_2 x3_2 (fX4_findStall_l2 x1 x2 n2) n31) = some (w_wins, w_firstTens, w_moves) → va_P D vwCl [(a_this, .inr (4, (o_this_weight :: o_this_hole :: o_this_held :: o_this_law :: o_this_suits :: o_this_plaintiff :: o_this_defendant :: o_this_worth :: o_this_winner :: o_this_order :: o_this_sightWeight :: o_this_sightMany :: o_this_sights :: o_this_pad :: o_this_padMany :: o_this_part :: o_this_digits :: o_this_isNought :: o_this_done :: o_this_by :: o_this_extra :: o_this_waiting :: o_this_floats :: o_this_decided :: o_this_sunk :: o_this_has :: o_this_bestOrder :: .ref a_wins :: .ref a_firstTens :: .ref a_moves :: o_this_kept :: o_this_isKept :: o_this_keptAt :: o_this_isWriting :: []))), (a_wins, .inl (cZ, 800, .inl v_wins_115)), (a_firstTens, .inl (cI, 800, .inl v_firstTens_115)), (a_moves, .inl (cI, 800, .inl v_moves_2))] H → va_D A [(a_this, .inr (4, (o_this_weight :: o_this_hole :: o_this_held :: o_this_law :: o_this_suits :: o_this_plaintiff :: o_this_defendant :: o_this_worth :: o_this_winner :: o_this_order :: o_this_sightWeight :: o_this_sightMany :: o_this_sights :: o_this_pad :: o_this_padMany :: o_this_part :: o_this_digits :: o_this_isNought :: o_this_done :: o_this_by :: o_this_extra :: o_this_waiting :: o_this_floats :: o_this_decided :: o_this_sunk :: o_this_has :: o_this_bestOrder :: .ref a_wins :: .ref a_firstTens :: .ref a_moves :: o_this_kept :: o_this_isKept :: o_this_keptAt :: o_this_isWriting :: []))), (a_wins, .inl (cZ, 800, .inl v_wins_115)), (a_firstTens, .inl (cI, 800, .inl v_firstTens_115)), (a_moves, .inl (cI, 800, .inl v_moves_2))] → va_S A s.heap H locs → lv_has ls 8 [(0, .ref a_this), (1, .int x1), (2, .int x2), (3, .int x3_2), (5, .int x5_115), (6, .int x6_115), (7, .int x7_115)] → W p l e (headSpec wsX4_findStall { frames := 0, cells := 0, slots := 0, locals := 0 }).room s m args below meth c H locs 0 0 Q (F0 m 115 ls [.int s0_115]) := by
                      intro s0_115 x5_115 x6_115 x7_115 v_wins_115 v_firstTens_115 H locs ls hf hP hD hS hl
                      unfold fX4_findStall_j115 at hf
                      refine lv_istore (lv' := [(4, .int s0_115), (0, .ref a_this), (1, .int x1), (2, .int x2), (3, .int x3_2), (5, .int x5_115), (6, .int x6_115), (7, .int x7_115)]) hx hb dX4_findStall_115 hl (by decide) rfl (fun ls hl => ?_)
                      refine lv_aload_n hx hb dX4_findStall_117 rfl (lv_at hl 1 rfl) ?_
                      refine va_get (D := D) (ci := 4) (v := .ref a_wins) (C := RX4) (T := TX4) (N := 34) hx hb hts iX4 hown hK.1 hP 0 rfl rfl 27 (by decide) l47 (fun _ h9 => h9) rfl dX4_findStall_118 ?_
                      refine lv_iload_n hx hb dX4_findStall_121 rfl (lv_at hl 4 rfl) ?_
                      refine lv_iconst (v := 1) hx hb dX4_findStall_122 (by decide) ?_
                      obtain ⟨h16, hf⟩ := gd_some hf
                      refine va_zast (D := D) (i := x3_2) hx hb hK.1 hP hD hS 1 2 rfl rfl h16 dX4_findStall_123 (fun H locs hP hD hS => ?_)
                      have hP : va_P D vwCl [(a_this, .inr (4, (o_this_weight :: o_this_hole :: o_this_held :: o_this_law :: o_this_suits :: o_this_plaintiff :: o_this_defendant :: o_this_worth :: o_this_winner :: o_this_order :: o_this_sightWeight :: o_this_sightMany :: o_this_sights :: o_this_pad :: o_this_padMany :: o_this_part :: o_this_digits :: o_this_isNought :: o_this_done :: o_this_by :: o_this_extra :: o_this_waiting :: o_this_floats :: o_this_decided :: o_this_sunk :: o_this_has :: o_this_bestOrder :: .ref a_wins :: .ref a_firstTens :: .ref a_moves :: o_this_kept :: o_this_isKept :: o_this_keptAt :: o_this_isWriting :: []))), (a_wins, .inl (cZ, 800, .inl (upd v_wins_115 (Int32.toNatClampNeg x3_2) (vp_nar .boolean 1)))), (a_firstTens, .inl (cI, 800, .inl v_firstTens_115)), (a_moves, .inl (cI, 800, .inl v_moves_2))] H := hP
                      have hD : va_D A [(a_this, .inr (4, (o_this_weight :: o_this_hole :: o_this_held :: o_this_law :: o_this_suits :: o_this_plaintiff :: o_this_defendant :: o_this_worth :: o_this_winner :: o_this_order :: o_this_sightWeight :: o_this_sightMany :: o_this_sights :: o_this_pad :: o_this_padMany :: o_this_part :: o_this_digits :: o_this_isNought :: o_this_done :: o_this_by :: o_this_extra :: o_this_waiting :: o_this_floats :: o_this_decided :: o_this_sunk :: o_this_has :: o_this_bestOrder :: .ref a_wins :: .ref a_firstTens :: .ref a_moves :: o_this_kept :: o_this_isKept :: o_this_keptAt :: o_this_isWriting :: []))), (a_wins, .inl (cZ, 800, .inl (upd v_wins_115 (Int32.toNatClampNeg x3_2) (vp_nar .boolean 1)))), (a_firstTens, .inl (cI, 800, .inl v_firstTens_115)), (a_moves, .inl (cI, 800, .inl v_moves_2))] := hD
                      exact J124 s0_115 x5_115 x6_115 x7_115 (upd v_wins_115 (Int32.toNatClampNeg x3_2) (vp_nar .boolean 1)) v_firstTens_115 _ _ _ hf hP hD hS (lv_sub hl [1, 2, 3, 4, 0, 5, 6, 7] rfl)
                    refine lv_if_eq (tgt := 108) hx hb dX4_findStall_98 (by decide) (fun c17 => ?_) (fun c17 => ?_)
                    · have hf := (if_pos c17).symm.trans hf
                      refine lv_iload hx hb dX4_findStall_108 (lv_at hl 7 rfl) ?_
                      refine lv_goto (tgt := 115) hx hb dX4_findStall_110 (by decide) ?_
                      exact J115 x7_91 x5_91 x6_91 x7_91 v_wins_91 (upd v_firstTens_91 (Int32.toNatClampNeg s1_91) s2_91) _ _ _ hf hP hD hS (lv_sub hl [0, 1, 2, 3, 5, 6, 7] rfl)
                    · have hf := (if_neg c17).symm.trans hf
                      refine lv_iload hx hb dX4_findStall_101 (lv_at hl 7 rfl) ?_
                      refine lv_iload hx hb dX4_findStall_103 (lv_at hl 4 rfl) ?_
                      refine lv_icmp_ge (tgt := 113) hx hb dX4_findStall_105 (by decide) (fun c18 => ?_) (fun c18 => ?_)
                      · have hf := (if_pos c18).symm.trans hf
                        refine lv_iload hx hb dX4_findStall_113 (lv_at hl 4 rfl) ?_
                        exact J115 x4_91 x5_91 x6_91 x7_91 v_wins_91 (upd v_firstTens_91 (Int32.toNatClampNeg s1_91) s2_91) _ _ _ hf hP hD hS (lv_sub hl [0, 1, 2, 3, 5, 6, 7] rfl)
                      · have hf := (if_neg c18).symm.trans hf
                        refine lv_iload hx hb dX4_findStall_108 (lv_at hl 7 rfl) ?_
                        refine lv_goto (tgt := 115) hx hb dX4_findStall_110 (by decide) ?_
                        exact J115 x7_91 x5_91 x6_91 x7_91 v_wins_91 (upd v_firstTens_91 (Int32.toNatClampNeg s1_91) s2_91) _ _ _ hf hP hD hS (lv_sub hl [0, 1, 2, 3, 5, 6, 7] rfl)
                  refine lv_if_eq (tgt := 89) hx hb dX4_findStall_77 (by decide) (fun c19 => ?_) (fun c19 => ?_)
                  · have hf := (if_pos c19).symm.trans hf
                    refine lv_iload hx hb dX4_findStall_89 (lv_at hl 7 rfl) ?_
                    exact J91 x3_2 x6_31 x4_31 x5_31 x6_31 (v_moves_2 (Int32.toNatClampNeg (x3_2 - x6_31))) v_wins_31 v_firstTens_31 _ _ _ hf hP hD hS (lv_sub hl [1, 2, 3, 4, 5, 6, 7, 0] rfl)
                  · have hf := (if_neg c19).symm.trans hf
                    refine lv_aload_n hx hb dX4_findStall_80 rfl (lv_at hl 1 rfl) ?_
                    refine va_get (D := D) (ci := 4) (v := .ref a_firstTens) (C := RX4) (T := TX4) (N := 34) hx hb hts iX4 hown hK.1 hP 0 rfl rfl 28 (by decide) l51 (fun _ h9 => h9) rfl dX4_findStall_81 ?_
                    refine lv_iload_n hx hb dX4_findStall_84 rfl (lv_at hl 4 rfl) ?_
                    obtain ⟨h20, hf⟩ := gd_some hf
                    refine va_iald (D := D) (i := x3_2) hx hb hK.1 hP 2 0 rfl rfl h20 dX4_findStall_85 ?_
                    refine lv_goto (tgt := 91) hx hb dX4_findStall_86 (by decide) ?_
                    exact J91 x3_2 (v_firstTens_31 (Int32.toNatClampNeg x3_2)) x4_31 x5_31 x6_31 (v_moves_2 (Int32.toNatClampNeg (x3_2 - x6_31))) v_wins_31 v_firstTens_31 _ _ _ hf hP hD hS (lv_sub hl [1, 2, 3, 4, 5, 6, 7, 0] rfl)
        exact L31 FU 0 0 1 (upd v_wins_2 (Int32.toNatClampNeg x3_2) (vp_nar .boolean 0)) (upd v_firstTens_2 (Int32.toNatClampNeg x3_2) (-6)) _ _ _ hf hP hD hS (lv_sub hl [3, 4, 5, 6, 2, 1, 0] rfl)
  exact L2 FU 0 v_wins v_firstTens v_moves _ _ _ hf hP hD hS (lv_sub hl [1, 2, 3, 0] rfl)

set_option maxHeartbeats 4000000 in
set_option maxRecDepth 100000 in
theorem tX4_stall (l : Launch) (D : va_G) (cI cJ cZ cB : ClassId) (a_this : Nat) (a_wins : Nat) (a_firstTens : Nat) (a_moves : Nat) (o_this_law : Value) (o_this_suits : Value) (o_this_plaintiff : Value) (o_this_defendant : Value) (o_this_worth : Value) (o_this_winner : Value) (o_this_order : Value) (o_this_sightWeight : Value) (o_this_sightMany : Value) (o_this_sights : Value) (o_this_pad : Value) (o_this_padMany : Value) (o_this_part : Value) (o_this_digits : Value) (o_this_isNought : Value) (o_this_done : Value) (o_this_by : Value) (o_this_extra : Value) (o_this_waiting : Value) (o_this_floats : Value) (o_this_decided : Value) (o_this_sunk : Value) (o_this_has : Value) (o_this_bestOrder : Value) (o_this_kept : Value) (o_this_isKept : Value) (o_this_keptAt : Value) (o_this_isWriting : Value) (x1 : Int32) (x2 : Int32) (x3 : Int32) (v_weight : Int32) (v_hole : Int32) (v_held : Int32) (v_wins : Nat → Int32) (v_firstTens : Nat → Int32) (v_moves : Nat → Int32) (r0 : Int32) (w_wins : Nat → Int32) (w_firstTens : Nat → Int32) (w_moves : Nat → Int32) (hf : fX4_stall x1 x2 x3 v_weight v_hole v_held v_wins v_firstTens v_moves = some (r0, w_wins, w_firstTens, w_moves)) : MW l yX4_stall wsX4_stall { frames := 1, cells := 0, slots := 0, locals := 27 } D cI cJ cZ cB [(a_this, .inr (4, (.int v_weight :: .int v_hole :: .int v_held :: o_this_law :: o_this_suits :: o_this_plaintiff :: o_this_defendant :: o_this_worth :: o_this_winner :: o_this_order :: o_this_sightWeight :: o_this_sightMany :: o_this_sights :: o_this_pad :: o_this_padMany :: o_this_part :: o_this_digits :: o_this_isNought :: o_this_done :: o_this_by :: o_this_extra :: o_this_waiting :: o_this_floats :: o_this_decided :: o_this_sunk :: o_this_has :: o_this_bestOrder :: .ref a_wins :: .ref a_firstTens :: .ref a_moves :: o_this_kept :: o_this_isKept :: o_this_keptAt :: o_this_isWriting :: []))), (a_wins, .inl (cZ, 800, .inl v_wins)), (a_firstTens, .inl (cI, 800, .inl v_firstTens)), (a_moves, .inl (cI, 800, .inl v_moves))] [.ref a_this, .int x1, .int x2, .int x3] (QWi D r0 [(a_this, .inr (4, (.int v_weight :: .int v_hole :: .int v_held :: o_this_law :: o_this_suits :: o_this_plaintiff :: o_this_defendant :: o_this_worth :: o_this_winner :: o_this_order :: o_this_sightWeight :: o_this_sightMany :: o_this_sights :: o_this_pad :: o_this_padMany :: o_this_part :: o_this_digits :: o_this_isNought :: o_this_done :: o_this_by :: o_this_extra :: o_this_waiting :: o_this_floats :: o_this_decided :: o_this_sunk :: o_this_has :: o_this_bestOrder :: .ref a_wins :: .ref a_firstTens :: .ref a_moves :: o_this_kept :: o_this_isKept :: o_this_keptAt :: o_this_isWriting :: []))), (a_wins, .inl (cZ, 800, .inl w_wins)), (a_firstTens, .inl (cI, 800, .inl w_firstTens)), (a_moves, .inl (cI, 800, .inl w_moves))]) := by
  refine k_body (cc := cX4_stall) (maxL := 6) (ret := (some .int)) (by decide) rfl (Nat.le_of_ble_eq_true rfl) ?_
  intro p e s m args below meth c hx hb hr hml hts hown hlocks hname hK A hA hP hD hS ls hl
  have hl : lv_has ls 6 [(0, .ref a_this), (1, .int x1), (2, .int x2), (3, .int x3)] := hl
  generalize hQ : MQ below ((QWi D r0 [(a_this, .inr (4, (.int v_weight :: .int v_hole :: .int v_held :: o_this_law :: o_this_suits :: o_this_plaintiff :: o_this_defendant :: o_this_worth :: o_this_winner :: o_this_order :: o_this_sightWeight :: o_this_sightMany :: o_this_sights :: o_this_pad :: o_this_padMany :: o_this_part :: o_this_digits :: o_this_isNought :: o_this_done :: o_this_by :: o_this_extra :: o_this_waiting :: o_this_floats :: o_this_decided :: o_this_sunk :: o_this_has :: o_this_bestOrder :: .ref a_wins :: .ref a_firstTens :: .ref a_moves :: o_this_kept :: o_this_isKept :: o_this_keptAt :: o_this_isWriting :: []))), (a_wins, .inl (cZ, 800, .inl w_wins)), (a_firstTens, .inl (cI, 800, .inl w_firstTens)), (a_moves, .inl (cI, 800, .inl w_moves))]) A) args s 0 0 A = Q
  obtain ⟨H, hH⟩ : ∃ H, H = s.heap := ⟨_, rfl⟩
  obtain ⟨locs, hlo⟩ : ∃ z : List Loc, z = [] := ⟨_, rfl⟩
  have hP : va_P D vwCl [(a_this, .inr (4, (.int v_weight :: .int v_hole :: .int v_held :: o_this_law :: o_this_suits :: o_this_plaintiff :: o_this_defendant :: o_this_worth :: o_this_winner :: o_this_order :: o_this_sightWeight :: o_this_sightMany :: o_this_sights :: o_this_pad :: o_this_padMany :: o_this_part :: o_this_digits :: o_this_isNought :: o_this_done :: o_this_by :: o_this_extra :: o_this_waiting :: o_this_floats :: o_this_decided :: o_this_sunk :: o_this_has :: o_this_bestOrder :: .ref a_wins :: .ref a_firstTens :: .ref a_moves :: o_this_kept :: o_this_isKept :: o_this_keptAt :: o_this_isWriting :: []))), (a_wins, .inl (cZ, 800, .inl v_wins)), (a_firstTens, .inl (cI, 800, .inl v_firstTens)), (a_moves, .inl (cI, 800, .inl v_moves))] H := by rw [hH]; exact hP
  have hS : va_S A s.heap H locs := by rw [hH, hlo]; exact hS
  suffices hg : W p l e (headSpec wsX4_stall { frames := 1, cells := 0, slots := 0, locals := 27 }).room s m args below meth c H locs 0 0 Q (F0 m 0 ls []) by rw [hH, hlo] at hg; exact hg
  have l51 := hts (.fieldLink RX4 51 "CandleCourtModel" "firstTens" "[I") (by decide +kernel)
  have l54 := hts (.fieldLink RX4 54 "CandleCourtModel" "moves" "[I") (by decide +kernel)
  have l63 := hts (.fieldLink RX4 63 "CandleCourtModel" "weight" "I") (by decide +kernel)
  have l67 := hts (.fieldLink RX4 67 "CandleCourtModel" "hole" "I") (by decide +kernel)
  have iX4 : ∀ w ∈ wsX40, w ∈ wsX4_stall := by decide +kernel
  unfold fX4_stall at hf
  refine lv_aload_n hx hb dX4_stall_0 rfl (lv_at hl 0 rfl) ?_
  refine lv_aload_n hx hb dX4_stall_1 rfl (lv_at hl 0 rfl) ?_
  refine va_get (D := D) (ci := 4) (v := .int v_weight) (C := RX4) (T := TX4) (N := 34) hx hb hts iX4 hown hK.1 hP 0 rfl rfl 0 (by decide) l63 (fun _ h9 => h9) rfl dX4_stall_2 ?_
  refine lv_aload_n hx hb dX4_stall_5 rfl (lv_at hl 0 rfl) ?_
  refine va_get (D := D) (ci := 4) (v := .int v_hole) (C := RX4) (T := TX4) (N := 34) hx hb hts iX4 hown hK.1 hP 0 rfl rfl 1 (by decide) l67 (fun _ h9 => h9) rfl dX4_stall_6 ?_
  obtain ⟨r1, hc2, hf⟩ := bnd1_some hf
  refine k_ci (wc := [(a_this, .inr (4, (.int v_weight :: .int v_hole :: .int v_held :: o_this_law :: o_this_suits :: o_this_plaintiff :: o_this_defendant :: o_this_worth :: o_this_winner :: o_this_order :: o_this_sightWeight :: o_this_sightMany :: o_this_sights :: o_this_pad :: o_this_padMany :: o_this_part :: o_this_digits :: o_this_isNought :: o_this_done :: o_this_by :: o_this_extra :: o_this_waiting :: o_this_floats :: o_this_decided :: o_this_sunk :: o_this_has :: o_this_bestOrder :: .ref a_wins :: .ref a_firstTens :: .ref a_moves :: o_this_kept :: o_this_isKept :: o_this_keptAt :: o_this_isWriting :: [])))]) (wr := [(a_wins, .inl (cZ, 800, .inl v_wins)), (a_firstTens, .inl (cI, 800, .inl v_firstTens)), (a_moves, .inl (cI, 800, .inl v_moves))]) (w1 := [(a_this, .inr (4, (.int v_weight :: .int v_hole :: .int v_held :: o_this_law :: o_this_suits :: o_this_plaintiff :: o_this_defendant :: o_this_worth :: o_this_winner :: o_this_order :: o_this_sightWeight :: o_this_sightMany :: o_this_sights :: o_this_pad :: o_this_padMany :: o_this_part :: o_this_digits :: o_this_isNought :: o_this_done :: o_this_by :: o_this_extra :: o_this_waiting :: o_this_floats :: o_this_decided :: o_this_sunk :: o_this_has :: o_this_bestOrder :: .ref a_wins :: .ref a_firstTens :: .ref a_moves :: o_this_kept :: o_this_isKept :: o_this_keptAt :: o_this_isWriting :: [])))]) (ws' := [(a_this, .inr (4, (.int v_weight :: .int v_hole :: .int v_held :: o_this_law :: o_this_suits :: o_this_plaintiff :: o_this_defendant :: o_this_worth :: o_this_winner :: o_this_order :: o_this_sightWeight :: o_this_sightMany :: o_this_sights :: o_this_pad :: o_this_padMany :: o_this_part :: o_this_digits :: o_this_isNought :: o_this_done :: o_this_by :: o_this_extra :: o_this_waiting :: o_this_floats :: o_this_decided :: o_this_sunk :: o_this_has :: o_this_bestOrder :: .ref a_wins :: .ref a_firstTens :: .ref a_moves :: o_this_kept :: o_this_isKept :: o_this_keptAt :: o_this_isWriting :: []))), (a_wins, .inl (cZ, 800, .inl v_wins)), (a_firstTens, .inl (cI, 800, .inl v_firstTens)), (a_moves, .inl (cI, 800, .inl v_moves))]) (va_runV (As := [.int v_weight, .int v_hole]) (rest := []) ⟨hx, hb, hml, hown, hts⟩ (tX4_floatsBy l D cI cJ cZ cB a_this (.int v_weight) (.int v_hole) o_this_law o_this_suits o_this_plaintiff o_this_defendant o_this_worth o_this_winner o_this_order o_this_sightWeight o_this_sightMany o_this_sights o_this_pad o_this_padMany o_this_part o_this_digits o_this_isNought o_this_done o_this_by o_this_extra o_this_waiting o_this_floats o_this_decided o_this_sunk o_this_has o_this_bestOrder (.ref a_wins) (.ref a_firstTens) (.ref a_moves) o_this_kept o_this_isKept o_this_keptAt o_this_isWriting v_weight v_hole v_held r1 hc2 H.size) (cwV 2 hts gX4_stall_X4_floatsBy rfl rfl rfl (by decide +kernel) ⟨Nat.le_of_ble_eq_true rfl, Nat.le_of_ble_eq_true rfl⟩) (k_preV (ci := 4) (q0 := 0) (is := [0]) hK hP hD rfl rfl rfl rfl) rfl rfl hl.1 rfl (lv_room (Nat.le_of_ble_eq_true rfl)) dX4_stall_9 ⟨Nat.zero_le _, Nat.zero_le _⟩) hP hD hS hA [0] [1, 2, 3] [3, 0, 1, 2] rfl rfl rfl (by decide) rfl rfl (fun H locs hP hD hS => ?_)
  refine lv_istore (lv' := [(4, .int r1), (0, .ref a_this), (1, .int x1), (2, .int x2), (3, .int x3)]) hx hb dX4_stall_12 hl (by decide) rfl (fun ls hl => ?_)
  refine lv_iload_n hx hb dX4_stall_14 rfl (lv_at hl 2 rfl) ?_
  refine lv_i2l (v := Int32.toInt64 x1) hx hb dX4_stall_15 rfl ?_
  refine lv_lconst (v := 0) hx hb dX4_stall_16 (by decide) ?_
  refine lv_iload hx hb dX4_stall_17 (lv_at hl 0 rfl) ?_
  refine lv_i2l (v := Int32.toInt64 r1) hx hb dX4_stall_19 rfl ?_
  obtain ⟨r3, hc4, hf⟩ := bnd1_some hf
  refine k_ci (wc := []) (wr := [(a_this, .inr (4, (.int v_weight :: .int v_hole :: .int v_held :: o_this_law :: o_this_suits :: o_this_plaintiff :: o_this_defendant :: o_this_worth :: o_this_winner :: o_this_order :: o_this_sightWeight :: o_this_sightMany :: o_this_sights :: o_this_pad :: o_this_padMany :: o_this_part :: o_this_digits :: o_this_isNought :: o_this_done :: o_this_by :: o_this_extra :: o_this_waiting :: o_this_floats :: o_this_decided :: o_this_sunk :: o_this_has :: o_this_bestOrder :: .ref a_wins :: .ref a_firstTens :: .ref a_moves :: o_this_kept :: o_this_isKept :: o_this_keptAt :: o_this_isWriting :: []))), (a_wins, .inl (cZ, 800, .inl v_wins)), (a_firstTens, .inl (cI, 800, .inl v_firstTens)), (a_moves, .inl (cI, 800, .inl v_moves))]) (w1 := []) (ws' := [(a_this, .inr (4, (.int v_weight :: .int v_hole :: .int v_held :: o_this_law :: o_this_suits :: o_this_plaintiff :: o_this_defendant :: o_this_worth :: o_this_winner :: o_this_order :: o_this_sightWeight :: o_this_sightMany :: o_this_sights :: o_this_pad :: o_this_padMany :: o_this_part :: o_this_digits :: o_this_isNought :: o_this_done :: o_this_by :: o_this_extra :: o_this_waiting :: o_this_floats :: o_this_decided :: o_this_sunk :: o_this_has :: o_this_bestOrder :: .ref a_wins :: .ref a_firstTens :: .ref a_moves :: o_this_kept :: o_this_isKept :: o_this_keptAt :: o_this_isWriting :: []))), (a_wins, .inl (cZ, 800, .inl v_wins)), (a_firstTens, .inl (cI, 800, .inl v_firstTens)), (a_moves, .inl (cI, 800, .inl v_moves))]) (va_runS (As := [.long (Int32.toInt64 x1), .long 0, .long (Int32.toInt64 r1)]) (rest := []) ⟨hx, hb, hml, hown, hts⟩ (tX4_in l D cI cJ cZ cB (Int32.toInt64 x1) 0 (Int32.toInt64 r1) r3 hc4 H.size) (va_cwS 3 hts gX4_stall_X4_in rfl rfl rfl (by decide +kernel) ⟨Nat.le_of_ble_eq_true rfl, Nat.le_of_ble_eq_true rfl⟩) (k_preS (is := []) hK hP hD rfl rfl) rfl rfl hl.1 rfl (lv_room (Nat.le_of_ble_eq_true rfl)) dX4_stall_20 ⟨Nat.zero_le _, Nat.zero_le _⟩) hP hD hS hA [] [0, 1, 2, 3] [0, 1, 2, 3] rfl rfl rfl (by decide) rfl rfl (fun H locs hP hD hS => ?_)
  refine lv_if_eq (tgt := 48) hx hb dX4_stall_23 (by decide) (fun c5 => ?_) (fun c5 => ?_)
  · have hf := (if_pos c5).symm.trans hf
    refine lv_bipush (v := (-2)) hx hb dX4_stall_48 (by decide) ?_
    cases hf
    subst hQ
    exact k_ri hx hb hr hlocks hP hD hS dX4_stall_50
  · have hf := (if_neg c5).symm.trans hf
    refine lv_iload_n hx hb dX4_stall_26 rfl (lv_at hl 3 rfl) ?_
    refine lv_i2l (v := Int32.toInt64 x2) hx hb dX4_stall_27 rfl ?_
    refine lv_lconst (v := 1) hx hb dX4_stall_28 (by decide) ?_
    refine lv_ldc2 (own := RX4) (v := 9) hx hb hown (hts (.constantLong RX4 183 (9)) (by decide +kernel)) dX4_stall_29 ?_
    obtain ⟨r6, hc7, hf⟩ := bnd1_some hf
    refine k_ci (wc := []) (wr := [(a_this, .inr (4, (.int v_weight :: .int v_hole :: .int v_held :: o_this_law :: o_this_suits :: o_this_plaintiff :: o_this_defendant :: o_this_worth :: o_this_winner :: o_this_order :: o_this_sightWeight :: o_this_sightMany :: o_this_sights :: o_this_pad :: o_this_padMany :: o_this_part :: o_this_digits :: o_this_isNought :: o_this_done :: o_this_by :: o_this_extra :: o_this_waiting :: o_this_floats :: o_this_decided :: o_this_sunk :: o_this_has :: o_this_bestOrder :: .ref a_wins :: .ref a_firstTens :: .ref a_moves :: o_this_kept :: o_this_isKept :: o_this_keptAt :: o_this_isWriting :: []))), (a_wins, .inl (cZ, 800, .inl v_wins)), (a_firstTens, .inl (cI, 800, .inl v_firstTens)), (a_moves, .inl (cI, 800, .inl v_moves))]) (w1 := []) (ws' := [(a_this, .inr (4, (.int v_weight :: .int v_hole :: .int v_held :: o_this_law :: o_this_suits :: o_this_plaintiff :: o_this_defendant :: o_this_worth :: o_this_winner :: o_this_order :: o_this_sightWeight :: o_this_sightMany :: o_this_sights :: o_this_pad :: o_this_padMany :: o_this_part :: o_this_digits :: o_this_isNought :: o_this_done :: o_this_by :: o_this_extra :: o_this_waiting :: o_this_floats :: o_this_decided :: o_this_sunk :: o_this_has :: o_this_bestOrder :: .ref a_wins :: .ref a_firstTens :: .ref a_moves :: o_this_kept :: o_this_isKept :: o_this_keptAt :: o_this_isWriting :: []))), (a_wins, .inl (cZ, 800, .inl v_wins)), (a_firstTens, .inl (cI, 800, .inl v_firstTens)), (a_moves, .inl (cI, 800, .inl v_moves))]) (va_runS (As := [.long (Int32.toInt64 x2), .long 1, .long 9]) (rest := []) ⟨hx, hb, hml, hown, hts⟩ (tX4_in l D cI cJ cZ cB (Int32.toInt64 x2) 1 9 r6 hc7 H.size) (va_cwS 3 hts gX4_stall_X4_in rfl rfl rfl (by decide +kernel) ⟨Nat.le_of_ble_eq_true rfl, Nat.le_of_ble_eq_true rfl⟩) (k_preS (is := []) hK hP hD rfl rfl) rfl rfl hl.1 rfl (lv_room (Nat.le_of_ble_eq_true rfl)) dX4_stall_32 ⟨Nat.zero_le _, Nat.zero_le _⟩) hP hD hS hA [] [0, 1, 2, 3] [0, 1, 2, 3] rfl rfl rfl (by decide) rfl rfl (fun H locs hP hD hS => ?_)
    refine lv_if_eq (tgt := 48) hx hb dX4_stall_35 (by decide) (fun c8 => ?_) (fun c8 => ?_)
    · have hf := (if_pos c8).symm.trans hf
      refine lv_bipush (v := (-2)) hx hb dX4_stall_48 (by decide) ?_
      cases hf
      subst hQ
      exact k_ri hx hb hr hlocks hP hD hS dX4_stall_50
    · have hf := (if_neg c8).symm.trans hf
      refine lv_iload_n hx hb dX4_stall_38 rfl (lv_at hl 4 rfl) ?_
      refine lv_i2l (v := Int32.toInt64 x3) hx hb dX4_stall_39 rfl ?_
      refine lv_lconst (v := 0) hx hb dX4_stall_40 (by decide) ?_
      refine lv_lconst (v := 1) hx hb dX4_stall_41 (by decide) ?_
      obtain ⟨r9, hc10, hf⟩ := bnd1_some hf
      refine k_ci (wc := []) (wr := [(a_this, .inr (4, (.int v_weight :: .int v_hole :: .int v_held :: o_this_law :: o_this_suits :: o_this_plaintiff :: o_this_defendant :: o_this_worth :: o_this_winner :: o_this_order :: o_this_sightWeight :: o_this_sightMany :: o_this_sights :: o_this_pad :: o_this_padMany :: o_this_part :: o_this_digits :: o_this_isNought :: o_this_done :: o_this_by :: o_this_extra :: o_this_waiting :: o_this_floats :: o_this_decided :: o_this_sunk :: o_this_has :: o_this_bestOrder :: .ref a_wins :: .ref a_firstTens :: .ref a_moves :: o_this_kept :: o_this_isKept :: o_this_keptAt :: o_this_isWriting :: []))), (a_wins, .inl (cZ, 800, .inl v_wins)), (a_firstTens, .inl (cI, 800, .inl v_firstTens)), (a_moves, .inl (cI, 800, .inl v_moves))]) (w1 := []) (ws' := [(a_this, .inr (4, (.int v_weight :: .int v_hole :: .int v_held :: o_this_law :: o_this_suits :: o_this_plaintiff :: o_this_defendant :: o_this_worth :: o_this_winner :: o_this_order :: o_this_sightWeight :: o_this_sightMany :: o_this_sights :: o_this_pad :: o_this_padMany :: o_this_part :: o_this_digits :: o_this_isNought :: o_this_done :: o_this_by :: o_this_extra :: o_this_waiting :: o_this_floats :: o_this_decided :: o_this_sunk :: o_this_has :: o_this_bestOrder :: .ref a_wins :: .ref a_firstTens :: .ref a_moves :: o_this_kept :: o_this_isKept :: o_this_keptAt :: o_this_isWriting :: []))), (a_wins, .inl (cZ, 800, .inl v_wins)), (a_firstTens, .inl (cI, 800, .inl v_firstTens)), (a_moves, .inl (cI, 800, .inl v_moves))]) (va_runS (As := [.long (Int32.toInt64 x3), .long 0, .long 1]) (rest := []) ⟨hx, hb, hml, hown, hts⟩ (tX4_in l D cI cJ cZ cB (Int32.toInt64 x3) 0 1 r9 hc10 H.size) (va_cwS 3 hts gX4_stall_X4_in rfl rfl rfl (by decide +kernel) ⟨Nat.le_of_ble_eq_true rfl, Nat.le_of_ble_eq_true rfl⟩) (k_preS (is := []) hK hP hD rfl rfl) rfl rfl hl.1 rfl (lv_room (Nat.le_of_ble_eq_true rfl)) dX4_stall_42 ⟨Nat.zero_le _, Nat.zero_le _⟩) hP hD hS hA [] [0, 1, 2, 3] [0, 1, 2, 3] rfl rfl rfl (by decide) rfl rfl (fun H locs hP hD hS => ?_)
      refine lv_if_ne (tgt := 51) hx hb dX4_stall_45 (by decide) (fun c11 => ?_) (fun c11 => ?_)
      · have hf := (if_neg c11).symm.trans hf
        refine lv_iload hx hb dX4_stall_51 (lv_at hl 0 rfl) ?_
        refine lv_iload_n hx hb dX4_stall_53 rfl (lv_at hl 2 rfl) ?_
        refine lv_isub hx hb dX4_stall_54 ?_
        refine lv_bipush (v := 10) hx hb dX4_stall_55 (by decide) ?_
        refine lv_idiv hx hb dX4_stall_57 (by decide) ?_
        refine lv_istore (lv' := [(5, .int ((r1 - x1) / 10)), (4, .int r1), (0, .ref a_this), (1, .int x1), (2, .int x2), (3, .int x3)]) hx hb dX4_stall_58 hl (by decide) rfl (fun ls hl => ?_)
        refine lv_aload_n hx hb dX4_stall_60 rfl (lv_at hl 2 rfl) ?_
        refine lv_iload hx hb dX4_stall_61 (lv_at hl 0 rfl) ?_
        refine lv_iload_n hx hb dX4_stall_63 rfl (lv_at hl 4 rfl) ?_
        obtain ⟨u12, u13, u14, hc15, hf⟩ := bnd3_some hf
        refine k_cv (wc := [(a_this, .inr (4, (.int v_weight :: .int v_hole :: .int v_held :: o_this_law :: o_this_suits :: o_this_plaintiff :: o_this_defendant :: o_this_worth :: o_this_winner :: o_this_order :: o_this_sightWeight :: o_this_sightMany :: o_this_sights :: o_this_pad :: o_this_padMany :: o_this_part :: o_this_digits :: o_this_isNought :: o_this_done :: o_this_by :: o_this_extra :: o_this_waiting :: o_this_floats :: o_this_decided :: o_this_sunk :: o_this_has :: o_this_bestOrder :: .ref a_wins :: .ref a_firstTens :: .ref a_moves :: o_this_kept :: o_this_isKept :: o_this_keptAt :: o_this_isWriting :: []))), (a_wins, .inl (cZ, 800, .inl v_wins)), (a_firstTens, .inl (cI, 800, .inl v_firstTens)), (a_moves, .inl (cI, 800, .inl v_moves))]) (wr := []) (w1 := [(a_this, .inr (4, (.int v_weight :: .int v_hole :: .int v_held :: o_this_law :: o_this_suits :: o_this_plaintiff :: o_this_defendant :: o_this_worth :: o_this_winner :: o_this_order :: o_this_sightWeight :: o_this_sightMany :: o_this_sights :: o_this_pad :: o_this_padMany :: o_this_part :: o_this_digits :: o_this_isNought :: o_this_done :: o_this_by :: o_this_extra :: o_this_waiting :: o_this_floats :: o_this_decided :: o_this_sunk :: o_this_has :: o_this_bestOrder :: .ref a_wins :: .ref a_firstTens :: .ref a_moves :: o_this_kept :: o_this_isKept :: o_this_keptAt :: o_this_isWriting :: []))), (a_wins, .inl (cZ, 800, .inl u12)), (a_firstTens, .inl (cI, 800, .inl u13)), (a_moves, .inl (cI, 800, .inl u14))]) (ws' := [(a_this, .inr (4, (.int v_weight :: .int v_hole :: .int v_held :: o_this_law :: o_this_suits :: o_this_plaintiff :: o_this_defendant :: o_this_worth :: o_this_winner :: o_this_order :: o_this_sightWeight :: o_this_sightMany :: o_this_sights :: o_this_pad :: o_this_padMany :: o_this_part :: o_this_digits :: o_this_isNought :: o_this_done :: o_this_by :: o_this_extra :: o_this_waiting :: o_this_floats :: o_this_decided :: o_this_sunk :: o_this_has :: o_this_bestOrder :: .ref a_wins :: .ref a_firstTens :: .ref a_moves :: o_this_kept :: o_this_isKept :: o_this_keptAt :: o_this_isWriting :: []))), (a_wins, .inl (cZ, 800, .inl u12)), (a_firstTens, .inl (cI, 800, .inl u13)), (a_moves, .inl (cI, 800, .inl u14))]) (va_runV (As := [.int ((r1 - x1) / 10), .int x2]) (rest := []) ⟨hx, hb, hml, hown, hts⟩ (tX4_findStall l D cI cJ cZ cB a_this a_wins a_firstTens a_moves (.int v_weight) (.int v_hole) (.int v_held) o_this_law o_this_suits o_this_plaintiff o_this_defendant o_this_worth o_this_winner o_this_order o_this_sightWeight o_this_sightMany o_this_sights o_this_pad o_this_padMany o_this_part o_this_digits o_this_isNought o_this_done o_this_by o_this_extra o_this_waiting o_this_floats o_this_decided o_this_sunk o_this_has o_this_bestOrder o_this_kept o_this_isKept o_this_keptAt o_this_isWriting ((r1 - x1) / 10) x2 v_wins v_firstTens v_moves u12 u13 u14 hc15 H.size) (cwV 2 hts gX4_stall_X4_findStall rfl rfl rfl (by decide +kernel) ⟨Nat.le_of_ble_eq_true rfl, Nat.le_of_ble_eq_true rfl⟩) (k_preV (ci := 4) (q0 := 0) (is := [0, 1, 2, 3]) hK hP hD rfl rfl rfl rfl) rfl rfl hl.1 rfl (lv_room (Nat.le_of_ble_eq_true rfl)) dX4_stall_64 ⟨Nat.zero_le _, Nat.zero_le _⟩) hP hD hS hA [0, 1, 2, 3] [] [0, 1, 2, 3] rfl rfl rfl (by decide) rfl rfl (fun H locs hP hD hS => ?_)
        refine lv_iload_n hx hb dX4_stall_67 rfl (lv_at hl 5 rfl) ?_
        refine lv_if_ne (tgt := 81) hx hb dX4_stall_68 (by decide) (fun c16 => ?_) (fun c16 => ?_)
        · have hf := (if_neg c16).symm.trans hf
          refine lv_aload_n hx hb dX4_stall_81 rfl (lv_at hl 2 rfl) ?_
          refine va_get (D := D) (ci := 4) (v := .ref a_moves) (C := RX4) (T := TX4) (N := 34) hx hb hts iX4 hown hK.1 hP 0 rfl rfl 29 (by decide) l54 (fun _ h9 => h9) rfl dX4_stall_82 ?_
          refine lv_iload hx hb dX4_stall_85 (lv_at hl 0 rfl) ?_
          obtain ⟨h17, hf⟩ := gd_some hf
          refine va_iald (D := D) (i := ((r1 - x1) / 10)) hx hb hK.1 hP 3 0 rfl rfl h17 dX4_stall_87 ?_
          cases hf
          subst hQ
          exact k_ri hx hb hr hlocks hP hD hS dX4_stall_88
        · have hf := (if_pos c16).symm.trans hf
          refine lv_aload_n hx hb dX4_stall_71 rfl (lv_at hl 2 rfl) ?_
          refine va_get (D := D) (ci := 4) (v := .ref a_firstTens) (C := RX4) (T := TX4) (N := 34) hx hb hts iX4 hown hK.1 hP 0 rfl rfl 28 (by decide) l51 (fun _ h9 => h9) rfl dX4_stall_72 ?_
          refine lv_iload hx hb dX4_stall_75 (lv_at hl 0 rfl) ?_
          obtain ⟨h18, hf⟩ := gd_some hf
          refine va_iald (D := D) (i := ((r1 - x1) / 10)) hx hb hK.1 hP 2 0 rfl rfl h18 dX4_stall_77 ?_
          refine lv_goto (tgt := 88) hx hb dX4_stall_78 (by decide) ?_
          cases hf
          subst hQ
          exact k_ri hx hb hr hlocks hP hD hS dX4_stall_88
      · have hf := (if_pos c11).symm.trans hf
        refine lv_bipush (v := (-2)) hx hb dX4_stall_48 (by decide) ?_
        cases hf
        subst hQ
        exact k_ri hx hb hr hlocks hP hD hS dX4_stall_50

set_option maxHeartbeats 4000000 in
set_option maxRecDepth 100000 in
theorem tX4_lowest (l : Launch) (D : va_G) (cI cJ cZ cB : ClassId) (x0 : Int64) (x2 : Int64) (x4 : Int32) (r0 : Int64) (hf : fX4_lowest x0 x2 x4 = some r0) : MW l yX4_lowest wsX4_lowest { frames := 0, cells := 0, slots := 0, locals := 0 } D cI cJ cZ cB [] [.long x0, .long x2, .int x4] (QWl D r0 []) := by
  refine k_body (cc := cX4_lowest) (maxL := 11) (ret := (some .long)) (by decide) rfl (Nat.le_of_ble_eq_true rfl) ?_
  intro p e s m args below meth c hx hb hr hml hts hown hlocks hname hK A hA hP hD hS ls hl
  have hl : lv_has ls 11 [(0, .long x0), (2, .long x2), (4, .int x4)] := hl
  generalize hQ : MQ below ((QWl D r0 []) A) args s 0 0 A = Q
  obtain ⟨H, hH⟩ : ∃ H, H = s.heap := ⟨_, rfl⟩
  obtain ⟨locs, hlo⟩ : ∃ z : List Loc, z = [] := ⟨_, rfl⟩
  have hP : va_P D vwCl [] H := by rw [hH]; exact hP
  have hS : va_S A s.heap H locs := by rw [hH, hlo]; exact hS
  suffices hg : W p l e (headSpec wsX4_lowest { frames := 0, cells := 0, slots := 0, locals := 0 }).room s m args below meth c H locs 0 0 Q (F0 m 0 ls []) by rw [hH, hlo] at hg; exact hg
  unfold fX4_lowest at hf
  refine lv_lload_n hx hb dX4_lowest_0 rfl (lv_at hl 1 rfl) ?_
  refine lv_lstore (lv' := [(5, .long x2), (0, .long x0), (2, .long x2), (4, .int x4)]) hx hb dX4_lowest_1 hl (by decide) rfl (fun ls hl => ?_)
  refine lv_lload_n hx hb dX4_lowest_3 rfl (lv_at hl 1 rfl) ?_
  refine lv_lstore (lv' := [(7, .long x0), (5, .long x2), (0, .long x0), (2, .long x2), (4, .int x4)]) hx hb dX4_lowest_4 hl (by decide) rfl (fun ls hl => ?_)
  have L6 : ∀ (n6 : Nat) (x5_6 : Int64) (x7_6 : Int64) (H : Heap) (locs : List Loc) (ls : Array Slot), fX4_lowest_l6 x0 x2 x4 n6 x5_6 x7_6 = some r0 → va_P D vwCl [] H → va_D A [] → va_S A s.heap H locs → lv_has ls 11 [(0, .long x0), (2, .long x2), (4, .int x4), (5, .long x5_6), (7, .long x7_6)] → W p l e (headSpec wsX4_lowest { frames := 0, cells := 0, slots := 0, locals := 0 }).room s m args below meth c H locs 0 0 Q (F0 m 6 ls []) := by
    intro n6
    induction n6 with
    | zero =>
      intro x5_6 x7_6 H locs ls hf
      have hf : (none : Option (Int64)) = some r0 := hf
      cases hf
    | succ n6 ih6 =>
      intro x5_6 x7_6 H locs ls hf hP hD hS hl
      rw [fX4_lowest_l6] at hf
      refine lv_lload hx hb dX4_lowest_6 (lv_at hl 4 rfl) ?_
      refine lv_lconst (v := 0) hx hb dX4_lowest_8 (by decide) ?_
      refine W.lcmp hx hb dX4_lowest_9 ?_
      refine lv_if_eq (tgt := 31) hx hb dX4_lowest_10 (by decide) (fun c1 => ?_) (fun c1 => ?_)
      · have hf := (if_pos c1).symm.trans hf
        refine lv_iload hx hb dX4_lowest_31 (lv_at hl 2 rfl) ?_
        refine lv_if_ne (tgt := 43) hx hb dX4_lowest_33 (by decide) (fun c2 => ?_) (fun c2 => ?_)
        · have hf := (if_neg c2).symm.trans hf
          refine lv_lload_n hx hb dX4_lowest_43 rfl (lv_at hl 1 rfl) ?_
          refine lv_lload hx hb dX4_lowest_44 (lv_at hl 3 rfl) ?_
          obtain ⟨h3, hf⟩ := gd_some hf
          refine lv_ldiv hx hb dX4_lowest_46 h3 ?_
          cases hf
          subst hQ
          exact k_rl hx hb hr hlocks hP hD hS dX4_lowest_47
        · have hf := (if_pos c2).symm.trans hf
          refine lv_lload_n hx hb dX4_lowest_36 rfl (lv_at hl 0 rfl) ?_
          refine lv_lload hx hb dX4_lowest_37 (lv_at hl 3 rfl) ?_
          obtain ⟨h4, hf⟩ := gd_some hf
          refine lv_ldiv hx hb dX4_lowest_39 h4 ?_
          refine lv_goto (tgt := 47) hx hb dX4_lowest_40 (by decide) ?_
          cases hf
          subst hQ
          exact k_rl hx hb hr hlocks hP hD hS dX4_lowest_47
      · have hf := (if_neg c1).symm.trans hf
        refine lv_lload hx hb dX4_lowest_13 (lv_at hl 3 rfl) ?_
        refine lv_lload hx hb dX4_lowest_15 (lv_at hl 4 rfl) ?_
        obtain ⟨h5, hf⟩ := gd_some hf
        refine lv_lrem hx hb dX4_lowest_17 h5 ?_
        refine lv_lstore (lv' := [(9, .long (x5_6 - x5_6 / x7_6 * x7_6)), (0, .long x0), (2, .long x2), (4, .int x4), (5, .long x5_6), (7, .long x7_6)]) hx hb dX4_lowest_18 hl (by decide) rfl (fun ls hl => ?_)
        refine lv_lload hx hb dX4_lowest_20 (lv_at hl 5 rfl) ?_
        refine lv_lstore (lv' := [(5, .long x7_6), (9, .long (x5_6 - x5_6 / x7_6 * x7_6)), (0, .long x0), (2, .long x2), (4, .int x4), (7, .long x7_6)]) hx hb dX4_lowest_22 hl (by decide) rfl (fun ls hl => ?_)
        refine lv_lload hx hb dX4_lowest_24 (lv_at hl 1 rfl) ?_
        refine lv_lstore (lv' := [(7, .long (x5_6 - x5_6 / x7_6 * x7_6)), (5, .long x7_6), (9, .long (x5_6 - x5_6 / x7_6 * x7_6)), (0, .long x0), (2, .long x2), (4, .int x4)]) hx hb dX4_lowest_26 hl (by decide) rfl (fun ls hl => ?_)
        refine lv_goto (tgt := 6) hx hb dX4_lowest_28 (by decide) ?_
        exact ih6 x7_6 (x5_6 - x5_6 / x7_6 * x7_6) _ _ _ hf hP hD hS (lv_sub hl [3, 4, 5, 1, 0] rfl)
  exact L6 FU x2 x0 _ _ _ hf hP hD hS (lv_sub hl [2, 3, 4, 1, 0] rfl)

set_option maxHeartbeats 4000000 in
set_option maxRecDepth 100000 in
theorem tX4_areOdds (l : Launch) (D : va_G) (cI cJ cZ cB : ClassId) (x0 : Int32) (x1 : Int32) (x2 : Int32) (r0 : Int32) (hf : fX4_areOdds x0 x1 x2 = some r0) : MW l yX4_areOdds wsX4_areOdds { frames := 1, cells := 0, slots := 0, locals := 25 } D cI cJ cZ cB [] [.int x0, .int x1, .int x2] (QWi D r0 []) := by
  refine k_body (cc := cX4_areOdds) (maxL := 3) (ret := (some .boolean)) (by decide) rfl (Nat.le_of_ble_eq_true rfl) ?_
  intro p e s m args below meth c hx hb hr hml hts hown hlocks hname hK A hA hP hD hS ls hl
  have hl : lv_has ls 3 [(0, .int x0), (1, .int x1), (2, .int x2)] := hl
  generalize hQ : MQ below ((QWi D r0 []) A) args s 0 0 A = Q
  obtain ⟨H, hH⟩ : ∃ H, H = s.heap := ⟨_, rfl⟩
  obtain ⟨locs, hlo⟩ : ∃ z : List Loc, z = [] := ⟨_, rfl⟩
  have hP : va_P D vwCl [] H := by rw [hH]; exact hP
  have hS : va_S A s.heap H locs := by rw [hH, hlo]; exact hS
  suffices hg : W p l e (headSpec wsX4_areOdds { frames := 1, cells := 0, slots := 0, locals := 25 }).room s m args below meth c H locs 0 0 Q (F0 m 0 ls []) by rw [hH, hlo] at hg; exact hg
  unfold fX4_areOdds at hf
  refine lv_iload_n hx hb dX4_areOdds_0 rfl (lv_at hl 0 rfl) ?_
  refine lv_i2l (v := Int32.toInt64 x0) hx hb dX4_areOdds_1 rfl ?_
  refine lv_lconst (v := 0) hx hb dX4_areOdds_2 (by decide) ?_
  refine lv_ldc2 (own := RX4) (v := 999) hx hb hown (hts (.constantLong RX4 189 (999)) (by decide +kernel)) dX4_areOdds_3 ?_
  obtain ⟨r1, hc2, hf⟩ := bnd1_some hf
  refine k_ci (wc := []) (wr := []) (w1 := []) (ws' := []) (va_runS (As := [.long (Int32.toInt64 x0), .long 0, .long 999]) (rest := []) ⟨hx, hb, hml, hown, hts⟩ (tX4_in l D cI cJ cZ cB (Int32.toInt64 x0) 0 999 r1 hc2 H.size) (va_cwS 3 hts gX4_areOdds_X4_in rfl rfl rfl (by decide +kernel) ⟨Nat.le_of_ble_eq_true rfl, Nat.le_of_ble_eq_true rfl⟩) (k_preS (is := []) hK hP hD rfl rfl) rfl rfl hl.1 rfl (lv_room (Nat.le_of_ble_eq_true rfl)) dX4_areOdds_6 ⟨Nat.zero_le _, Nat.zero_le _⟩) hP hD hS hA [] [] [] rfl rfl rfl (by decide) rfl rfl (fun H locs hP hD hS => ?_)
  refine lv_if_eq (tgt := 38) hx hb dX4_areOdds_9 (by decide) (fun c3 => ?_) (fun c3 => ?_)
  · have hf := (if_pos c3).symm.trans hf
    refine lv_iconst (v := 0) hx hb dX4_areOdds_38 (by decide) ?_
    cases hf
    subst hQ
    exact k_rz hx hb hr hlocks hP hD hS (by decide) dX4_areOdds_39
  · have hf := (if_neg c3).symm.trans hf
    refine lv_iload_n hx hb dX4_areOdds_12 rfl (lv_at hl 1 rfl) ?_
    refine lv_i2l (v := Int32.toInt64 x1) hx hb dX4_areOdds_13 rfl ?_
    refine lv_lconst (v := 0) hx hb dX4_areOdds_14 (by decide) ?_
    refine lv_ldc2 (own := RX4) (v := 10) hx hb hown (hts (.constantLong RX4 191 (10)) (by decide +kernel)) dX4_areOdds_15 ?_
    obtain ⟨r4, hc5, hf⟩ := bnd1_some hf
    refine k_ci (wc := []) (wr := []) (w1 := []) (ws' := []) (va_runS (As := [.long (Int32.toInt64 x1), .long 0, .long 10]) (rest := []) ⟨hx, hb, hml, hown, hts⟩ (tX4_in l D cI cJ cZ cB (Int32.toInt64 x1) 0 10 r4 hc5 H.size) (va_cwS 3 hts gX4_areOdds_X4_in rfl rfl rfl (by decide +kernel) ⟨Nat.le_of_ble_eq_true rfl, Nat.le_of_ble_eq_true rfl⟩) (k_preS (is := []) hK hP hD rfl rfl) rfl rfl hl.1 rfl (lv_room (Nat.le_of_ble_eq_true rfl)) dX4_areOdds_18 ⟨Nat.zero_le _, Nat.zero_le _⟩) hP hD hS hA [] [] [] rfl rfl rfl (by decide) rfl rfl (fun H locs hP hD hS => ?_)
    refine lv_if_eq (tgt := 38) hx hb dX4_areOdds_21 (by decide) (fun c6 => ?_) (fun c6 => ?_)
    · have hf := (if_pos c6).symm.trans hf
      refine lv_iconst (v := 0) hx hb dX4_areOdds_38 (by decide) ?_
      cases hf
      subst hQ
      exact k_rz hx hb hr hlocks hP hD hS (by decide) dX4_areOdds_39
    · have hf := (if_neg c6).symm.trans hf
      refine lv_iload_n hx hb dX4_areOdds_24 rfl (lv_at hl 2 rfl) ?_
      refine lv_i2l (v := Int32.toInt64 x2) hx hb dX4_areOdds_25 rfl ?_
      refine lv_lconst (v := 0) hx hb dX4_areOdds_26 (by decide) ?_
      refine lv_lconst (v := 1) hx hb dX4_areOdds_27 (by decide) ?_
      obtain ⟨r7, hc8, hf⟩ := bnd1_some hf
      refine k_ci (wc := []) (wr := []) (w1 := []) (ws' := []) (va_runS (As := [.long (Int32.toInt64 x2), .long 0, .long 1]) (rest := []) ⟨hx, hb, hml, hown, hts⟩ (tX4_in l D cI cJ cZ cB (Int32.toInt64 x2) 0 1 r7 hc8 H.size) (va_cwS 3 hts gX4_areOdds_X4_in rfl rfl rfl (by decide +kernel) ⟨Nat.le_of_ble_eq_true rfl, Nat.le_of_ble_eq_true rfl⟩) (k_preS (is := []) hK hP hD rfl rfl) rfl rfl hl.1 rfl (lv_room (Nat.le_of_ble_eq_true rfl)) dX4_areOdds_28 ⟨Nat.zero_le _, Nat.zero_le _⟩) hP hD hS hA [] [] [] rfl rfl rfl (by decide) rfl rfl (fun H locs hP hD hS => ?_)
      refine lv_if_eq (tgt := 38) hx hb dX4_areOdds_31 (by decide) (fun c9 => ?_) (fun c9 => ?_)
      · have hf := (if_pos c9).symm.trans hf
        refine lv_iconst (v := 0) hx hb dX4_areOdds_38 (by decide) ?_
        cases hf
        subst hQ
        exact k_rz hx hb hr hlocks hP hD hS (by decide) dX4_areOdds_39
      · have hf := (if_neg c9).symm.trans hf
        refine lv_iconst (v := 1) hx hb dX4_areOdds_34 (by decide) ?_
        refine lv_goto (tgt := 39) hx hb dX4_areOdds_35 (by decide) ?_
        cases hf
        subst hQ
        exact k_rz hx hb hr hlocks hP hD hS (by decide) dX4_areOdds_39

set_option maxHeartbeats 4000000 in
set_option maxRecDepth 100000 in
theorem tX4_layLonger (l : Launch) (D : va_G) (cI cJ cZ cB : ClassId) (a_this : Nat) (a_order : Nat) (a_by : Nat) (a_extra : Nat) (a_has : Nat) (o_this_law : Value) (o_this_plaintiff : Value) (o_this_defendant : Value) (o_this_worth : Value) (o_this_winner : Value) (o_this_sightWeight : Value) (o_this_sightMany : Value) (o_this_sights : Value) (o_this_pad : Value) (o_this_padMany : Value) (o_this_part : Value) (o_this_digits : Value) (o_this_isNought : Value) (o_this_done : Value) (o_this_decided : Value) (o_this_sunk : Value) (o_this_bestOrder : Value) (o_this_wins : Value) (o_this_firstTens : Value) (o_this_moves : Value) (o_this_kept : Value) (o_this_isKept : Value) (o_this_keptAt : Value) (o_this_isWriting : Value) (x1 : Int32) (x2 : Int32) (x3 : Int32) (v_suits : Int32) (v_waiting : Int32) (v_weight : Int32) (v_hole : Int32) (v_held : Int32) (v_floats : Int32) (v_order : Nat → Int32) (v_by : Nat → Int32) (v_extra : Nat → Int32) (v_has : Nat → Int64) (r0 : Int64) (w_waiting : Int32) (w_floats : Int32) (w_by : Nat → Int32) (w_extra : Nat → Int32) (w_has : Nat → Int64) (hf : fX4_layLonger x1 x2 x3 v_suits v_weight v_hole v_held v_order v_by v_extra v_has = some (r0, w_waiting, w_floats, w_by, w_extra, w_has)) : MW l yX4_layLonger wsX4_layLonger { frames := 2, cells := 0, slots := 0, locals := 43 } D cI cJ cZ cB [(a_this, .inr (4, (.int v_weight :: .int v_hole :: .int v_held :: o_this_law :: .int v_suits :: o_this_plaintiff :: o_this_defendant :: o_this_worth :: o_this_winner :: .ref a_order :: o_this_sightWeight :: o_this_sightMany :: o_this_sights :: o_this_pad :: o_this_padMany :: o_this_part :: o_this_digits :: o_this_isNought :: o_this_done :: .ref a_by :: .ref a_extra :: .int v_waiting :: .int v_floats :: o_this_decided :: o_this_sunk :: .ref a_has :: o_this_bestOrder :: o_this_wins :: o_this_firstTens :: o_this_moves :: o_this_kept :: o_this_isKept :: o_this_keptAt :: o_this_isWriting :: []))), (a_order, .inl (cI, 6, .inl v_order)), (a_by, .inl (cI, 6, .inl v_by)), (a_extra, .inl (cI, 6, .inl v_extra)), (a_has, .inl (cJ, 4, .inr (.inl v_has)))] [.ref a_this, .int x1, .int x2, .int x3] (QWl D r0 [(a_this, .inr (4, (.int v_weight :: .int v_hole :: .int v_held :: o_this_law :: .int v_suits :: o_this_plaintiff :: o_this_defendant :: o_this_worth :: o_this_winner :: .ref a_order :: o_this_sightWeight :: o_this_sightMany :: o_this_sights :: o_this_pad :: o_this_padMany :: o_this_part :: o_this_digits :: o_this_isNought :: o_this_done :: .ref a_by :: .ref a_extra :: .int w_waiting :: .int w_floats :: o_this_decided :: o_this_sunk :: .ref a_has :: o_this_bestOrder :: o_this_wins :: o_this_firstTens :: o_this_moves :: o_this_kept :: o_this_isKept :: o_this_keptAt :: o_this_isWriting :: []))), (a_order, .inl (cI, 6, .inl v_order)), (a_by, .inl (cI, 6, .inl w_by)), (a_extra, .inl (cI, 6, .inl w_extra)), (a_has, .inl (cJ, 4, .inr (.inl w_has)))]) := by
  refine k_body (cc := cX4_layLonger) (maxL := 8) (ret := (some .long)) (by decide) rfl (Nat.le_of_ble_eq_true rfl) ?_
  intro p e s m args below meth c hx hb hr hml hts hown hlocks hname hK A hA hP hD hS ls hl
  have hl : lv_has ls 8 [(0, .ref a_this), (1, .int x1), (2, .int x2), (3, .int x3)] := hl
  generalize hQ : MQ below ((QWl D r0 [(a_this, .inr (4, (.int v_weight :: .int v_hole :: .int v_held :: o_this_law :: .int v_suits :: o_this_plaintiff :: o_this_defendant :: o_this_worth :: o_this_winner :: .ref a_order :: o_this_sightWeight :: o_this_sightMany :: o_this_sights :: o_this_pad :: o_this_padMany :: o_this_part :: o_this_digits :: o_this_isNought :: o_this_done :: .ref a_by :: .ref a_extra :: .int w_waiting :: .int w_floats :: o_this_decided :: o_this_sunk :: .ref a_has :: o_this_bestOrder :: o_this_wins :: o_this_firstTens :: o_this_moves :: o_this_kept :: o_this_isKept :: o_this_keptAt :: o_this_isWriting :: []))), (a_order, .inl (cI, 6, .inl v_order)), (a_by, .inl (cI, 6, .inl w_by)), (a_extra, .inl (cI, 6, .inl w_extra)), (a_has, .inl (cJ, 4, .inr (.inl w_has)))]) A) args s 0 0 A = Q
  obtain ⟨H, hH⟩ : ∃ H, H = s.heap := ⟨_, rfl⟩
  obtain ⟨locs, hlo⟩ : ∃ z : List Loc, z = [] := ⟨_, rfl⟩
  have hP : va_P D vwCl [(a_this, .inr (4, (.int v_weight :: .int v_hole :: .int v_held :: o_this_law :: .int v_suits :: o_this_plaintiff :: o_this_defendant :: o_this_worth :: o_this_winner :: .ref a_order :: o_this_sightWeight :: o_this_sightMany :: o_this_sights :: o_this_pad :: o_this_padMany :: o_this_part :: o_this_digits :: o_this_isNought :: o_this_done :: .ref a_by :: .ref a_extra :: .int v_waiting :: .int v_floats :: o_this_decided :: o_this_sunk :: .ref a_has :: o_this_bestOrder :: o_this_wins :: o_this_firstTens :: o_this_moves :: o_this_kept :: o_this_isKept :: o_this_keptAt :: o_this_isWriting :: []))), (a_order, .inl (cI, 6, .inl v_order)), (a_by, .inl (cI, 6, .inl v_by)), (a_extra, .inl (cI, 6, .inl v_extra)), (a_has, .inl (cJ, 4, .inr (.inl v_has)))] H := by rw [hH]; exact hP
  have hS : va_S A s.heap H locs := by rw [hH, hlo]; exact hS
  suffices hg : W p l e (headSpec wsX4_layLonger { frames := 2, cells := 0, slots := 0, locals := 43 }).room s m args below meth c H locs 0 0 Q (F0 m 0 ls []) by rw [hH, hlo] at hg; exact hg
  have l37 := hts (.fieldLink RX4 37 "CandleCourtModel" "extra" "[I") (by decide +kernel)
  have l113 := hts (.fieldLink RX4 113 "CandleCourtModel" "suits" "I") (by decide +kernel)
  have iX4 : ∀ w ∈ wsX40, w ∈ wsX4_layLonger := by decide +kernel
  unfold fX4_layLonger at hf
  refine lv_aload_n hx hb dX4_layLonger_0 rfl (lv_at hl 0 rfl) ?_
  obtain ⟨u1, u2, u3, u4, u5, hc6, hf⟩ := bnd5_some hf
  refine k_cv (wc := [(a_this, .inr (4, (.int v_weight :: .int v_hole :: .int v_held :: o_this_law :: .int v_suits :: o_this_plaintiff :: o_this_defendant :: o_this_worth :: o_this_winner :: .ref a_order :: o_this_sightWeight :: o_this_sightMany :: o_this_sights :: o_this_pad :: o_this_padMany :: o_this_part :: o_this_digits :: o_this_isNought :: o_this_done :: .ref a_by :: .ref a_extra :: .int v_waiting :: .int v_floats :: o_this_decided :: o_this_sunk :: .ref a_has :: o_this_bestOrder :: o_this_wins :: o_this_firstTens :: o_this_moves :: o_this_kept :: o_this_isKept :: o_this_keptAt :: o_this_isWriting :: []))), (a_order, .inl (cI, 6, .inl v_order)), (a_by, .inl (cI, 6, .inl v_by)), (a_extra, .inl (cI, 6, .inl v_extra)), (a_has, .inl (cJ, 4, .inr (.inl v_has)))]) (wr := []) (w1 := [(a_this, .inr (4, (.int v_weight :: .int v_hole :: .int v_held :: o_this_law :: .int v_suits :: o_this_plaintiff :: o_this_defendant :: o_this_worth :: o_this_winner :: .ref a_order :: o_this_sightWeight :: o_this_sightMany :: o_this_sights :: o_this_pad :: o_this_padMany :: o_this_part :: o_this_digits :: o_this_isNought :: o_this_done :: .ref a_by :: .ref a_extra :: .int u1 :: .int u2 :: o_this_decided :: o_this_sunk :: .ref a_has :: o_this_bestOrder :: o_this_wins :: o_this_firstTens :: o_this_moves :: o_this_kept :: o_this_isKept :: o_this_keptAt :: o_this_isWriting :: []))), (a_order, .inl (cI, 6, .inl v_order)), (a_by, .inl (cI, 6, .inl u3)), (a_extra, .inl (cI, 6, .inl u4)), (a_has, .inl (cJ, 4, .inr (.inl u5)))]) (ws' := [(a_this, .inr (4, (.int v_weight :: .int v_hole :: .int v_held :: o_this_law :: .int v_suits :: o_this_plaintiff :: o_this_defendant :: o_this_worth :: o_this_winner :: .ref a_order :: o_this_sightWeight :: o_this_sightMany :: o_this_sights :: o_this_pad :: o_this_padMany :: o_this_part :: o_this_digits :: o_this_isNought :: o_this_done :: .ref a_by :: .ref a_extra :: .int u1 :: .int u2 :: o_this_decided :: o_this_sunk :: .ref a_has :: o_this_bestOrder :: o_this_wins :: o_this_firstTens :: o_this_moves :: o_this_kept :: o_this_isKept :: o_this_keptAt :: o_this_isWriting :: []))), (a_order, .inl (cI, 6, .inl v_order)), (a_by, .inl (cI, 6, .inl u3)), (a_extra, .inl (cI, 6, .inl u4)), (a_has, .inl (cJ, 4, .inr (.inl u5)))]) (va_runV (As := []) (rest := []) ⟨hx, hb, hml, hown, hts⟩ (tX4_layNow l D cI cJ cZ cB a_this a_order a_by a_extra a_has o_this_law o_this_plaintiff o_this_defendant o_this_worth o_this_winner o_this_sightWeight o_this_sightMany o_this_sights o_this_pad o_this_padMany o_this_part o_this_digits o_this_isNought o_this_done o_this_decided o_this_sunk o_this_bestOrder o_this_wins o_this_firstTens o_this_moves o_this_kept o_this_isKept o_this_keptAt o_this_isWriting v_suits v_waiting v_weight v_hole v_held v_floats v_order v_by v_extra v_has u1 u2 u3 u4 u5 hc6 H.size) (cwV 0 hts gX4_layLonger_X4_layNow rfl rfl rfl (by decide +kernel) ⟨Nat.le_of_ble_eq_true rfl, Nat.le_of_ble_eq_true rfl⟩) (k_preV (ci := 4) (q0 := 0) (is := [0, 1, 2, 3, 4]) hK hP hD rfl rfl rfl rfl) rfl rfl hl.1 rfl (lv_room (Nat.le_of_ble_eq_true rfl)) dX4_layLonger_1 ⟨Nat.zero_le _, Nat.zero_le _⟩) hP hD hS hA [0, 1, 2, 3, 4] [] [0, 1, 2, 3, 4] rfl rfl rfl (by decide) rfl rfl (fun H locs hP hD hS => ?_)
  refine lv_lconst (v := 1) hx hb dX4_layLonger_4 (by decide) ?_
  refine lv_lstore (lv' := [(4, .long 1), (0, .ref a_this), (1, .int x1), (2, .int x2), (3, .int x3)]) hx hb dX4_layLonger_5 hl (by decide) rfl (fun ls hl => ?_)
  refine lv_iconst (v := 0) hx hb dX4_layLonger_7 (by decide) ?_
  refine lv_istore (lv' := [(6, .int 0), (4, .long 1), (0, .ref a_this), (1, .int x1), (2, .int x2), (3, .int x3)]) hx hb dX4_layLonger_8 hl (by decide) rfl (fun ls hl => ?_)
  have L10 : ∀ (n10 : Nat) (x4_10 : Int64) (x6_10 : Int32) (v_extra_10 : Nat → Int32) (H : Heap) (locs : List Loc) (ls : Array Slot), fX4_layLonger_l10 x1 x2 x3 v_suits u1 u2 u3 u5 n10 x4_10 x6_10 v_extra_10 = some (r0, w_waiting, w_floats, w_by, w_extra, w_has) → va_P D vwCl [(a_this, .inr (4, (.int v_weight :: .int v_hole :: .int v_held :: o_this_law :: .int v_suits :: o_this_plaintiff :: o_this_defendant :: o_this_worth :: o_this_winner :: .ref a_order :: o_this_sightWeight :: o_this_sightMany :: o_this_sights :: o_this_pad :: o_this_padMany :: o_this_part :: o_this_digits :: o_this_isNought :: o_this_done :: .ref a_by :: .ref a_extra :: .int u1 :: .int u2 :: o_this_decided :: o_this_sunk :: .ref a_has :: o_this_bestOrder :: o_this_wins :: o_this_firstTens :: o_this_moves :: o_this_kept :: o_this_isKept :: o_this_keptAt :: o_this_isWriting :: []))), (a_order, .inl (cI, 6, .inl v_order)), (a_by, .inl (cI, 6, .inl u3)), (a_extra, .inl (cI, 6, .inl v_extra_10)), (a_has, .inl (cJ, 4, .inr (.inl u5)))] H → va_D A [(a_this, .inr (4, (.int v_weight :: .int v_hole :: .int v_held :: o_this_law :: .int v_suits :: o_this_plaintiff :: o_this_defendant :: o_this_worth :: o_this_winner :: .ref a_order :: o_this_sightWeight :: o_this_sightMany :: o_this_sights :: o_this_pad :: o_this_padMany :: o_this_part :: o_this_digits :: o_this_isNought :: o_this_done :: .ref a_by :: .ref a_extra :: .int u1 :: .int u2 :: o_this_decided :: o_this_sunk :: .ref a_has :: o_this_bestOrder :: o_this_wins :: o_this_firstTens :: o_this_moves :: o_this_kept :: o_this_isKept :: o_this_keptAt :: o_this_isWriting :: []))), (a_order, .inl (cI, 6, .inl v_order)), (a_by, .inl (cI, 6, .inl u3)), (a_extra, .inl (cI, 6, .inl v_extra_10)), (a_has, .inl (cJ, 4, .inr (.inl u5)))] → va_S A s.heap H locs → lv_has ls 8 [(0, .ref a_this), (1, .int x1), (2, .int x2), (3, .int x3), (4, .long x4_10), (6, .int x6_10)] → W p l e (headSpec wsX4_layLonger { frames := 2, cells := 0, slots := 0, locals := 43 }).room s m args below meth c H locs 0 0 Q (F0 m 10 ls []) := by
    intro n10
    induction n10 with
    | zero =>
      intro x4_10 x6_10 v_extra_10 H locs ls hf
      have hf : (none : Option (Int64 × (Int32) × (Int32) × (Nat → Int32) × (Nat → Int32) × (Nat → Int64))) = some (r0, w_waiting, w_floats, w_by, w_extra, w_has) := hf
      cases hf
    | succ n10 ih10 =>
      intro x4_10 x6_10 v_extra_10 H locs ls hf hP hD hS hl
      rw [fX4_layLonger_l10] at hf
      refine lv_iload hx hb dX4_layLonger_10 (lv_at hl 5 rfl) ?_
      refine lv_aload_n hx hb dX4_layLonger_12 rfl (lv_at hl 0 rfl) ?_
      refine va_get (D := D) (ci := 4) (v := .int v_suits) (C := RX4) (T := TX4) (N := 34) hx hb hts iX4 hown hK.1 hP 0 rfl rfl 4 (by decide) l113 (fun _ h9 => h9) rfl dX4_layLonger_13 ?_
      refine lv_icmp_ge (tgt := 79) hx hb dX4_layLonger_16 (by decide) (fun c7 => ?_) (fun c7 => ?_)
      · have hf := (if_pos c7).symm.trans hf
        refine lv_lload hx hb dX4_layLonger_79 (lv_at hl 4 rfl) ?_
        cases hf
        subst hQ
        exact k_rl hx hb hr hlocks hP hD hS dX4_layLonger_81
      · have hf := (if_neg c7).symm.trans hf
        refine lv_iload_n hx hb dX4_layLonger_19 rfl (lv_at hl 1 rfl) ?_
        refine lv_iload hx hb dX4_layLonger_20 (lv_at hl 5 rfl) ?_
        refine lv_ishr hx hb dX4_layLonger_22 ?_
        refine lv_iconst (v := 1) hx hb dX4_layLonger_23 (by decide) ?_
        refine lv_iand hx hb dX4_layLonger_24 ?_
        refine lv_iconst (v := 1) hx hb dX4_layLonger_25 (by decide) ?_
        have J34 : ∀ (s0_34 : Int32) (x4_34 : Int64) (x6_34 : Int32) (v_extra_34 : Nat → Int32) (H : Heap) (locs : List Loc) (ls : Array Slot), fX4_layLonger_j34 x2 x3 v_extra_34 x4_34 x6_34 s0_34 (fX4_layLonger_l10 x1 x2 x3 v_suits u1 u2 u3 u5 n10) = some (r0, w_waiting, w_floats, w_by, w_extra, w_has) → va_P D vwCl [(a_this, .inr (4, (.int v_weight :: .int v_hole :: .int v_held :: o_this_law :: .int v_suits :: o_this_plaintiff :: o_this_defendant :: o_this_worth :: o_this_winner :: .ref a_order :: o_this_sightWeight :: o_this_sightMany :: o_this_sights :: o_this_pad :: o_this_padMany :: o_this_part :: o_this_digits :: o_this_isNought :: o_this_done :: .ref a_by :: .ref a_extra :: .int u1 :: .int u2 :: o_this_decided :: o_this_sunk :: .ref a_has :: o_this_bestOrder :: o_this_wins :: o_this_firstTens :: o_this_moves :: o_this_kept :: o_this_isKept :: o_this_keptAt :: o_this_isWriting :: []))), (a_order, .inl (cI, 6, .inl v_order)), (a_by, .inl (cI, 6, .inl u3)), (a_extra, .inl (cI, 6, .inl v_extra_34)), (a_has, .inl (cJ, 4, .inr (.inl u5)))] H → va_D A [(a_this, .inr (4, (.int v_weight :: .int v_hole :: .int v_held :: o_this_law :: .int v_suits :: o_this_plaintiff :: o_this_defendant :: o_this_worth :: o_this_winner :: .ref a_order :: o_this_sightWeight :: o_this_sightMany :: o_this_sights :: o_this_pad :: o_this_padMany :: o_this_part :: o_this_digits :: o_this_isNought :: o_this_done :: .ref a_by :: .ref a_extra :: .int u1 :: .int u2 :: o_this_decided :: o_this_sunk :: .ref a_has :: o_this_bestOrder :: o_this_wins :: o_this_firstTens :: o_this_moves :: o_this_kept :: o_this_isKept :: o_this_keptAt :: o_this_isWriting :: []))), (a_order, .inl (cI, 6, .inl v_order)), (a_by, .inl (cI, 6, .inl u3)), (a_extra, .inl (cI, 6, .inl v_extra_34)), (a_has, .inl (cJ, 4, .inr (.inl u5)))] → va_S A s.heap H locs → lv_has ls 8 [(0, .ref a_this), (1, .int x1), (2, .int x2), (3, .int x3), (4, .long x4_34), (6, .int x6_34)] → W p l e (headSpec wsX4_layLonger { frames := 2, cells := 0, slots := 0, locals := 43 }).room s m args below meth c H locs 0 0 Q (F0 m 34 ls [.int s0_34]) := by
          intro s0_34 x4_34 x6_34 v_extra_34 H locs ls hf hP hD hS hl
          unfold fX4_layLonger_j34 at hf
          refine lv_istore (lv' := [(7, .int s0_34), (0, .ref a_this), (1, .int x1), (2, .int x2), (3, .int x3), (4, .long x4_34), (6, .int x6_34)]) hx hb dX4_layLonger_34 hl (by decide) rfl (fun ls hl => ?_)
          refine lv_aload_n hx hb dX4_layLonger_36 rfl (lv_at hl 1 rfl) ?_
          refine va_get (D := D) (ci := 4) (v := .ref a_extra) (C := RX4) (T := TX4) (N := 34) hx hb hts iX4 hown hK.1 hP 0 rfl rfl 20 (by decide) l37 (fun _ h9 => h9) rfl dX4_layLonger_37 ?_
          refine lv_iload hx hb dX4_layLonger_40 (lv_at hl 6 rfl) ?_
          refine lv_iload hx hb dX4_layLonger_42 (lv_at hl 0 rfl) ?_
          have J52 : ∀ (s1_52 : Int32) (s2_52 : Int32) (x4_52 : Int64) (x6_52 : Int32) (x7_52 : Int32) (v_extra_52 : Nat → Int32) (H : Heap) (locs : List Loc) (ls : Array Slot), fX4_layLonger_j52 x3 v_extra_52 x4_52 x6_52 x7_52 s1_52 s2_52 (fX4_layLonger_l10 x1 x2 x3 v_suits u1 u2 u3 u5 n10) = some (r0, w_waiting, w_floats, w_by, w_extra, w_has) → va_P D vwCl [(a_this, .inr (4, (.int v_weight :: .int v_hole :: .int v_held :: o_this_law :: .int v_suits :: o_this_plaintiff :: o_this_defendant :: o_this_worth :: o_this_winner :: .ref a_order :: o_this_sightWeight :: o_this_sightMany :: o_this_sights :: o_this_pad :: o_this_padMany :: o_this_part :: o_this_digits :: o_this_isNought :: o_this_done :: .ref a_by :: .ref a_extra :: .int u1 :: .int u2 :: o_this_decided :: o_this_sunk :: .ref a_has :: o_this_bestOrder :: o_this_wins :: o_this_firstTens :: o_this_moves :: o_this_kept :: o_this_isKept :: o_this_keptAt :: o_this_isWriting :: []))), (a_order, .inl (cI, 6, .inl v_order)), (a_by, .inl (cI, 6, .inl u3)), (a_extra, .inl (cI, 6, .inl v_extra_52)), (a_has, .inl (cJ, 4, .inr (.inl u5)))] H → va_D A [(a_this, .inr (4, (.int v_weight :: .int v_hole :: .int v_held :: o_this_law :: .int v_suits :: o_this_plaintiff :: o_this_defendant :: o_this_worth :: o_this_winner :: .ref a_order :: o_this_sightWeight :: o_this_sightMany :: o_this_sights :: o_this_pad :: o_this_padMany :: o_this_part :: o_this_digits :: o_this_isNought :: o_this_done :: .ref a_by :: .ref a_extra :: .int u1 :: .int u2 :: o_this_decided :: o_this_sunk :: .ref a_has :: o_this_bestOrder :: o_this_wins :: o_this_firstTens :: o_this_moves :: o_this_kept :: o_this_isKept :: o_this_keptAt :: o_this_isWriting :: []))), (a_order, .inl (cI, 6, .inl v_order)), (a_by, .inl (cI, 6, .inl u3)), (a_extra, .inl (cI, 6, .inl v_extra_52)), (a_has, .inl (cJ, 4, .inr (.inl u5)))] → va_S A s.heap H locs → lv_has ls 8 [(0, .ref a_this), (1, .int x1), (2, .int x2), (3, .int x3), (4, .long x4_52), (6, .int x6_52), (7, .int x7_52)] → W p l e (headSpec wsX4_layLonger { frames := 2, cells := 0, slots := 0, locals := 43 }).room s m args below meth c H locs 0 0 Q (F0 m 52 ls [.int s2_52, .int s1_52, .ref a_extra]) := by
            intro s1_52 s2_52 x4_52 x6_52 x7_52 v_extra_52 H locs ls hf hP hD hS hl
            unfold fX4_layLonger_j52 at hf
            obtain ⟨h8, hf⟩ := gd_some hf
            refine va_iast (D := D) (i := s1_52) hx hb hK.1 hP hD hS 3 0 rfl rfl h8 dX4_layLonger_52 (fun H locs hP hD hS => ?_)
            have hP : va_P D vwCl [(a_this, .inr (4, (.int v_weight :: .int v_hole :: .int v_held :: o_this_law :: .int v_suits :: o_this_plaintiff :: o_this_defendant :: o_this_worth :: o_this_winner :: .ref a_order :: o_this_sightWeight :: o_this_sightMany :: o_this_sights :: o_this_pad :: o_this_padMany :: o_this_part :: o_this_digits :: o_this_isNought :: o_this_done :: .ref a_by :: .ref a_extra :: .int u1 :: .int u2 :: o_this_decided :: o_this_sunk :: .ref a_has :: o_this_bestOrder :: o_this_wins :: o_this_firstTens :: o_this_moves :: o_this_kept :: o_this_isKept :: o_this_keptAt :: o_this_isWriting :: []))), (a_order, .inl (cI, 6, .inl v_order)), (a_by, .inl (cI, 6, .inl u3)), (a_extra, .inl (cI, 6, .inl (upd v_extra_52 (Int32.toNatClampNeg s1_52) s2_52))), (a_has, .inl (cJ, 4, .inr (.inl u5)))] H := hP
            have hD : va_D A [(a_this, .inr (4, (.int v_weight :: .int v_hole :: .int v_held :: o_this_law :: .int v_suits :: o_this_plaintiff :: o_this_defendant :: o_this_worth :: o_this_winner :: .ref a_order :: o_this_sightWeight :: o_this_sightMany :: o_this_sights :: o_this_pad :: o_this_padMany :: o_this_part :: o_this_digits :: o_this_isNought :: o_this_done :: .ref a_by :: .ref a_extra :: .int u1 :: .int u2 :: o_this_decided :: o_this_sunk :: .ref a_has :: o_this_bestOrder :: o_this_wins :: o_this_firstTens :: o_this_moves :: o_this_kept :: o_this_isKept :: o_this_keptAt :: o_this_isWriting :: []))), (a_order, .inl (cI, 6, .inl v_order)), (a_by, .inl (cI, 6, .inl u3)), (a_extra, .inl (cI, 6, .inl (upd v_extra_52 (Int32.toNatClampNeg s1_52) s2_52))), (a_has, .inl (cJ, 4, .inr (.inl u5)))] := hD
            refine lv_lload hx hb dX4_layLonger_53 (lv_at hl 4 rfl) ?_
            refine lv_iload hx hb dX4_layLonger_55 (lv_at hl 6 rfl) ?_
            refine lv_if_eq (tgt := 65) hx hb dX4_layLonger_57 (by decide) (fun c9 => ?_) (fun c9 => ?_)
            · have hf := (if_pos c9).symm.trans hf
              refine lv_bipush (v := 10) hx hb dX4_layLonger_65 (by decide) ?_
              refine lv_iload_n hx hb dX4_layLonger_67 rfl (lv_at hl 3 rfl) ?_
              refine lv_isub hx hb dX4_layLonger_68 ?_
              refine lv_i2l (v := Int32.toInt64 (10 - x3)) hx hb dX4_layLonger_69 rfl ?_
              refine lv_lmul hx hb dX4_layLonger_70 ?_
              refine lv_lstore (lv' := [(4, .long (x4_52 * (Int32.toInt64 (10 - x3)))), (0, .ref a_this), (1, .int x1), (2, .int x2), (3, .int x3), (6, .int x6_52), (7, .int x7_52)]) hx hb dX4_layLonger_71 hl (by decide) rfl (fun ls hl => ?_)
              refine lv_iinc (v := (x6_52 + 1)) (lv' := [(6, .int (x6_52 + 1)), (4, .long (x4_52 * (Int32.toInt64 (10 - x3)))), (0, .ref a_this), (1, .int x1), (2, .int x2), (3, .int x3), (7, .int x7_52)]) hx hb dX4_layLonger_73 hl (k := 5) rfl (by rfl) (by decide) rfl (fun ls hl => ?_)
              refine lv_goto (tgt := 10) hx hb dX4_layLonger_76 (by decide) ?_
              exact ih10 (x4_52 * (Int32.toInt64 (10 - x3))) (x6_52 + 1) (upd v_extra_52 (Int32.toNatClampNeg s1_52) s2_52) _ _ _ hf hP hD hS (lv_sub hl [2, 3, 4, 5, 1, 0] rfl)
            · have hf := (if_neg c9).symm.trans hf
              refine lv_iload_n hx hb dX4_layLonger_60 rfl (lv_at hl 3 rfl) ?_
              refine lv_i2l (v := Int32.toInt64 x3) hx hb dX4_layLonger_61 rfl ?_
              refine lv_goto (tgt := 70) hx hb dX4_layLonger_62 (by decide) ?_
              refine lv_lmul hx hb dX4_layLonger_70 ?_
              refine lv_lstore (lv' := [(4, .long (x4_52 * (Int32.toInt64 x3))), (0, .ref a_this), (1, .int x1), (2, .int x2), (3, .int x3), (6, .int x6_52), (7, .int x7_52)]) hx hb dX4_layLonger_71 hl (by decide) rfl (fun ls hl => ?_)
              refine lv_iinc (v := (x6_52 + 1)) (lv' := [(6, .int (x6_52 + 1)), (4, .long (x4_52 * (Int32.toInt64 x3))), (0, .ref a_this), (1, .int x1), (2, .int x2), (3, .int x3), (7, .int x7_52)]) hx hb dX4_layLonger_73 hl (k := 5) rfl (by rfl) (by decide) rfl (fun ls hl => ?_)
              refine lv_goto (tgt := 10) hx hb dX4_layLonger_76 (by decide) ?_
              exact ih10 (x4_52 * (Int32.toInt64 x3)) (x6_52 + 1) (upd v_extra_52 (Int32.toNatClampNeg s1_52) s2_52) _ _ _ hf hP hD hS (lv_sub hl [2, 3, 4, 5, 1, 0] rfl)
          refine lv_if_eq (tgt := 51) hx hb dX4_layLonger_44 (by decide) (fun c10 => ?_) (fun c10 => ?_)
          · have hf := (if_pos c10).symm.trans hf
            refine lv_iconst (v := 0) hx hb dX4_layLonger_51 (by decide) ?_
            exact J52 x6_34 0 x4_34 x6_34 s0_34 v_extra_34 _ _ _ hf hP hD hS (lv_sub hl [1, 2, 3, 4, 5, 6, 0] rfl)
          · have hf := (if_neg c10).symm.trans hf
            refine lv_iload_n hx hb dX4_layLonger_47 rfl (lv_at hl 3 rfl) ?_
            refine lv_goto (tgt := 52) hx hb dX4_layLonger_48 (by decide) ?_
            exact J52 x6_34 x2 x4_34 x6_34 s0_34 v_extra_34 _ _ _ hf hP hD hS (lv_sub hl [1, 2, 3, 4, 5, 6, 0] rfl)
        refine lv_icmp_ne (tgt := 33) hx hb dX4_layLonger_26 (by decide) (fun c11 => ?_) (fun c11 => ?_)
        · have hf := (if_neg c11).symm.trans hf
          refine lv_iconst (v := 0) hx hb dX4_layLonger_33 (by decide) ?_
          exact J34 0 x4_10 x6_10 v_extra_10 _ _ _ hf hP hD hS (lv_sub hl [0, 1, 2, 3, 4, 5] rfl)
        · have hf := (if_pos c11).symm.trans hf
          refine lv_iconst (v := 1) hx hb dX4_layLonger_29 (by decide) ?_
          refine lv_goto (tgt := 34) hx hb dX4_layLonger_30 (by decide) ?_
          exact J34 1 x4_10 x6_10 v_extra_10 _ _ _ hf hP hD hS (lv_sub hl [0, 1, 2, 3, 4, 5] rfl)
  exact L10 FU 1 0 u4 _ _ _ hf hP hD hS (lv_sub hl [2, 3, 4, 5, 1, 0] rfl)

set_option maxHeartbeats 4000000 in
set_option maxRecDepth 100000 in
theorem tX4_wasDecided (l : Launch) (D : va_G) (cI cJ cZ cB : ClassId) (a_this : Nat) (a_by : Nat) (o_this_weight : Value) (o_this_hole : Value) (o_this_held : Value) (o_this_law : Value) (o_this_suits : Value) (o_this_plaintiff : Value) (o_this_defendant : Value) (o_this_worth : Value) (o_this_winner : Value) (o_this_order : Value) (o_this_sightWeight : Value) (o_this_sightMany : Value) (o_this_sights : Value) (o_this_pad : Value) (o_this_padMany : Value) (o_this_part : Value) (o_this_digits : Value) (o_this_isNought : Value) (o_this_done : Value) (o_this_extra : Value) (o_this_waiting : Value) (o_this_floats : Value) (o_this_sunk : Value) (o_this_has : Value) (o_this_bestOrder : Value) (o_this_wins : Value) (o_this_firstTens : Value) (o_this_moves : Value) (o_this_kept : Value) (o_this_isKept : Value) (o_this_keptAt : Value) (o_this_isWriting : Value) (x1 : Int32) (v_decided : Int32) (v_by : Nat → Int32) (r0 : Int32) (hf : fX4_wasDecided x1 v_decided v_by = some r0) : MW l yX4_wasDecided wsX4_wasDecided { frames := 0, cells := 0, slots := 0, locals := 0 } D cI cJ cZ cB [(a_this, .inr (4, (o_this_weight :: o_this_hole :: o_this_held :: o_this_law :: o_this_suits :: o_this_plaintiff :: o_this_defendant :: o_this_worth :: o_this_winner :: o_this_order :: o_this_sightWeight :: o_this_sightMany :: o_this_sights :: o_this_pad :: o_this_padMany :: o_this_part :: o_this_digits :: o_this_isNought :: o_this_done :: .ref a_by :: o_this_extra :: o_this_waiting :: o_this_floats :: .int v_decided :: o_this_sunk :: o_this_has :: o_this_bestOrder :: o_this_wins :: o_this_firstTens :: o_this_moves :: o_this_kept :: o_this_isKept :: o_this_keptAt :: o_this_isWriting :: []))), (a_by, .inl (cI, 6, .inl v_by))] [.ref a_this, .int x1] (QWi D r0 [(a_this, .inr (4, (o_this_weight :: o_this_hole :: o_this_held :: o_this_law :: o_this_suits :: o_this_plaintiff :: o_this_defendant :: o_this_worth :: o_this_winner :: o_this_order :: o_this_sightWeight :: o_this_sightMany :: o_this_sights :: o_this_pad :: o_this_padMany :: o_this_part :: o_this_digits :: o_this_isNought :: o_this_done :: .ref a_by :: o_this_extra :: o_this_waiting :: o_this_floats :: .int v_decided :: o_this_sunk :: o_this_has :: o_this_bestOrder :: o_this_wins :: o_this_firstTens :: o_this_moves :: o_this_kept :: o_this_isKept :: o_this_keptAt :: o_this_isWriting :: []))), (a_by, .inl (cI, 6, .inl v_by))]) := by
  refine k_body (cc := cX4_wasDecided) (maxL := 4) (ret := (some .boolean)) (by decide) rfl (Nat.le_of_ble_eq_true rfl) ?_
  intro p e s m args below meth c hx hb hr hml hts hown hlocks hname hK A hA hP hD hS ls hl
  have hl : lv_has ls 4 [(0, .ref a_this), (1, .int x1)] := hl
  generalize hQ : MQ below ((QWi D r0 [(a_this, .inr (4, (o_this_weight :: o_this_hole :: o_this_held :: o_this_law :: o_this_suits :: o_this_plaintiff :: o_this_defendant :: o_this_worth :: o_this_winner :: o_this_order :: o_this_sightWeight :: o_this_sightMany :: o_this_sights :: o_this_pad :: o_this_padMany :: o_this_part :: o_this_digits :: o_this_isNought :: o_this_done :: .ref a_by :: o_this_extra :: o_this_waiting :: o_this_floats :: .int v_decided :: o_this_sunk :: o_this_has :: o_this_bestOrder :: o_this_wins :: o_this_firstTens :: o_this_moves :: o_this_kept :: o_this_isKept :: o_this_keptAt :: o_this_isWriting :: []))), (a_by, .inl (cI, 6, .inl v_by))]) A) args s 0 0 A = Q
  obtain ⟨H, hH⟩ : ∃ H, H = s.heap := ⟨_, rfl⟩
  obtain ⟨locs, hlo⟩ : ∃ z : List Loc, z = [] := ⟨_, rfl⟩
  have hP : va_P D vwCl [(a_this, .inr (4, (o_this_weight :: o_this_hole :: o_this_held :: o_this_law :: o_this_suits :: o_this_plaintiff :: o_this_defendant :: o_this_worth :: o_this_winner :: o_this_order :: o_this_sightWeight :: o_this_sightMany :: o_this_sights :: o_this_pad :: o_this_padMany :: o_this_part :: o_this_digits :: o_this_isNought :: o_this_done :: .ref a_by :: o_this_extra :: o_this_waiting :: o_this_floats :: .int v_decided :: o_this_sunk :: o_this_has :: o_this_bestOrder :: o_this_wins :: o_this_firstTens :: o_this_moves :: o_this_kept :: o_this_isKept :: o_this_keptAt :: o_this_isWriting :: []))), (a_by, .inl (cI, 6, .inl v_by))] H := by rw [hH]; exact hP
  have hS : va_S A s.heap H locs := by rw [hH, hlo]; exact hS
  suffices hg : W p l e (headSpec wsX4_wasDecided { frames := 0, cells := 0, slots := 0, locals := 0 }).room s m args below meth c H locs 0 0 Q (F0 m 0 ls []) by rw [hH, hlo] at hg; exact hg
  have l34 := hts (.fieldLink RX4 34 "CandleCourtModel" "by" "[I") (by decide +kernel)
  have l142 := hts (.fieldLink RX4 142 "CandleCourtModel" "decided" "I") (by decide +kernel)
  have iX4 : ∀ w ∈ wsX40, w ∈ wsX4_wasDecided := by decide +kernel
  unfold fX4_wasDecided at hf
  refine lv_iconst (v := 0) hx hb dX4_wasDecided_0 (by decide) ?_
  refine lv_istore_n (lv' := [(2, .int 0), (0, .ref a_this), (1, .int x1)]) hx hb dX4_wasDecided_1 rfl hl (by decide) rfl (fun ls hl => ?_)
  refine lv_iconst (v := 0) hx hb dX4_wasDecided_2 (by decide) ?_
  refine lv_istore_n (lv' := [(3, .int 0), (2, .int 0), (0, .ref a_this), (1, .int x1)]) hx hb dX4_wasDecided_3 rfl hl (by decide) rfl (fun ls hl => ?_)
  have L4 : ∀ (n4 : Nat) (x2_4 : Int32) (x3_4 : Int32) (H : Heap) (locs : List Loc) (ls : Array Slot), fX4_wasDecided_l4 x1 v_decided v_by n4 x2_4 x3_4 = some r0 → va_P D vwCl [(a_this, .inr (4, (o_this_weight :: o_this_hole :: o_this_held :: o_this_law :: o_this_suits :: o_this_plaintiff :: o_this_defendant :: o_this_worth :: o_this_winner :: o_this_order :: o_this_sightWeight :: o_this_sightMany :: o_this_sights :: o_this_pad :: o_this_padMany :: o_this_part :: o_this_digits :: o_this_isNought :: o_this_done :: .ref a_by :: o_this_extra :: o_this_waiting :: o_this_floats :: .int v_decided :: o_this_sunk :: o_this_has :: o_this_bestOrder :: o_this_wins :: o_this_firstTens :: o_this_moves :: o_this_kept :: o_this_isKept :: o_this_keptAt :: o_this_isWriting :: []))), (a_by, .inl (cI, 6, .inl v_by))] H → va_D A [(a_this, .inr (4, (o_this_weight :: o_this_hole :: o_this_held :: o_this_law :: o_this_suits :: o_this_plaintiff :: o_this_defendant :: o_this_worth :: o_this_winner :: o_this_order :: o_this_sightWeight :: o_this_sightMany :: o_this_sights :: o_this_pad :: o_this_padMany :: o_this_part :: o_this_digits :: o_this_isNought :: o_this_done :: .ref a_by :: o_this_extra :: o_this_waiting :: o_this_floats :: .int v_decided :: o_this_sunk :: o_this_has :: o_this_bestOrder :: o_this_wins :: o_this_firstTens :: o_this_moves :: o_this_kept :: o_this_isKept :: o_this_keptAt :: o_this_isWriting :: []))), (a_by, .inl (cI, 6, .inl v_by))] → va_S A s.heap H locs → lv_has ls 4 [(0, .ref a_this), (1, .int x1), (2, .int x2_4), (3, .int x3_4)] → W p l e (headSpec wsX4_wasDecided { frames := 0, cells := 0, slots := 0, locals := 0 }).room s m args below meth c H locs 0 0 Q (F0 m 4 ls []) := by
    intro n4
    induction n4 with
    | zero =>
      intro x2_4 x3_4 H locs ls hf
      have hf : (none : Option (Int32)) = some r0 := hf
      cases hf
    | succ n4 ih4 =>
      intro x2_4 x3_4 H locs ls hf hP hD hS hl
      rw [fX4_wasDecided_l4] at hf
      refine lv_iload_n hx hb dX4_wasDecided_4 rfl (lv_at hl 3 rfl) ?_
      refine lv_aload_n hx hb dX4_wasDecided_5 rfl (lv_at hl 0 rfl) ?_
      refine va_get (D := D) (ci := 4) (v := .int v_decided) (C := RX4) (T := TX4) (N := 34) hx hb hts iX4 hown hK.1 hP 0 rfl rfl 23 (by decide) l142 (fun _ h9 => h9) rfl dX4_wasDecided_6 ?_
      refine lv_icmp_ge (tgt := 38) hx hb dX4_wasDecided_9 (by decide) (fun c1 => ?_) (fun c1 => ?_)
      · have hf := (if_pos c1).symm.trans hf
        refine lv_iload_n hx hb dX4_wasDecided_38 rfl (lv_at hl 2 rfl) ?_
        obtain ⟨hnar, hf⟩ := gd_some hf
        cases hf
        subst hQ
        exact k_rz hx hb hr hlocks hP hD hS hnar dX4_wasDecided_39
      · have hf := (if_neg c1).symm.trans hf
        refine lv_iload_n hx hb dX4_wasDecided_12 rfl (lv_at hl 2 rfl) ?_
        refine lv_if_ne (tgt := 26) hx hb dX4_wasDecided_13 (by decide) (fun c2 => ?_) (fun c2 => ?_)
        · have hf := (if_neg c2).symm.trans hf
          refine lv_iconst (v := 1) hx hb dX4_wasDecided_26 (by decide) ?_
          refine lv_goto (tgt := 31) hx hb dX4_wasDecided_27 (by decide) ?_
          refine lv_istore_n (lv' := [(2, .int 1), (0, .ref a_this), (1, .int x1), (3, .int x3_4)]) hx hb dX4_wasDecided_31 rfl hl (by decide) rfl (fun ls hl => ?_)
          refine lv_iinc (v := (x3_4 + 1)) (lv' := [(3, .int (x3_4 + 1)), (2, .int 1), (0, .ref a_this), (1, .int x1)]) hx hb dX4_wasDecided_32 hl (k := 3) rfl (by rfl) (by decide) rfl (fun ls hl => ?_)
          refine lv_goto (tgt := 4) hx hb dX4_wasDecided_35 (by decide) ?_
          exact ih4 1 (x3_4 + 1) _ _ _ hf hP hD hS (lv_sub hl [2, 3, 1, 0] rfl)
        · have hf := (if_pos c2).symm.trans hf
          refine lv_aload_n hx hb dX4_wasDecided_16 rfl (lv_at hl 0 rfl) ?_
          refine va_get (D := D) (ci := 4) (v := .ref a_by) (C := RX4) (T := TX4) (N := 34) hx hb hts iX4 hown hK.1 hP 0 rfl rfl 19 (by decide) l34 (fun _ h9 => h9) rfl dX4_wasDecided_17 ?_
          refine lv_iload_n hx hb dX4_wasDecided_20 rfl (lv_at hl 3 rfl) ?_
          obtain ⟨h3, hf⟩ := gd_some hf
          refine va_iald (D := D) (i := x3_4) hx hb hK.1 hP 1 0 rfl rfl h3 dX4_wasDecided_21 ?_
          refine lv_iload_n hx hb dX4_wasDecided_22 rfl (lv_at hl 1 rfl) ?_
          refine lv_icmp_ne (tgt := 30) hx hb dX4_wasDecided_23 (by decide) (fun c4 => ?_) (fun c4 => ?_)
          · have hf := (if_neg c4).symm.trans hf
            refine lv_iconst (v := 0) hx hb dX4_wasDecided_30 (by decide) ?_
            refine lv_istore_n (lv' := [(2, .int 0), (0, .ref a_this), (1, .int x1), (3, .int x3_4)]) hx hb dX4_wasDecided_31 rfl hl (by decide) rfl (fun ls hl => ?_)
            refine lv_iinc (v := (x3_4 + 1)) (lv' := [(3, .int (x3_4 + 1)), (2, .int 0), (0, .ref a_this), (1, .int x1)]) hx hb dX4_wasDecided_32 hl (k := 3) rfl (by rfl) (by decide) rfl (fun ls hl => ?_)
            refine lv_goto (tgt := 4) hx hb dX4_wasDecided_35 (by decide) ?_
            exact ih4 0 (x3_4 + 1) _ _ _ hf hP hD hS (lv_sub hl [2, 3, 1, 0] rfl)
          · have hf := (if_pos c4).symm.trans hf
            refine lv_iconst (v := 1) hx hb dX4_wasDecided_26 (by decide) ?_
            refine lv_goto (tgt := 31) hx hb dX4_wasDecided_27 (by decide) ?_
            refine lv_istore_n (lv' := [(2, .int 1), (0, .ref a_this), (1, .int x1), (3, .int x3_4)]) hx hb dX4_wasDecided_31 rfl hl (by decide) rfl (fun ls hl => ?_)
            refine lv_iinc (v := (x3_4 + 1)) (lv' := [(3, .int (x3_4 + 1)), (2, .int 1), (0, .ref a_this), (1, .int x1)]) hx hb dX4_wasDecided_32 hl (k := 3) rfl (by rfl) (by decide) rfl (fun ls hl => ?_)
            refine lv_goto (tgt := 4) hx hb dX4_wasDecided_35 (by decide) ?_
            exact ih4 1 (x3_4 + 1) _ _ _ hf hP hD hS (lv_sub hl [2, 3, 1, 0] rfl)
  exact L4 FU 0 0 _ _ _ hf hP hD hS (lv_sub hl [2, 3, 1, 0] rfl)

set_option maxHeartbeats 4000000 in
set_option maxRecDepth 100000 in
theorem tX4_allWays (l : Launch) (D : va_G) (cI cJ cZ cB : ClassId) (a_this : Nat) (o_this_weight : Value) (o_this_hole : Value) (o_this_held : Value) (o_this_law : Value) (o_this_plaintiff : Value) (o_this_defendant : Value) (o_this_worth : Value) (o_this_winner : Value) (o_this_order : Value) (o_this_sightWeight : Value) (o_this_sightMany : Value) (o_this_sights : Value) (o_this_pad : Value) (o_this_padMany : Value) (o_this_part : Value) (o_this_digits : Value) (o_this_isNought : Value) (o_this_done : Value) (o_this_by : Value) (o_this_extra : Value) (o_this_waiting : Value) (o_this_floats : Value) (o_this_decided : Value) (o_this_sunk : Value) (o_this_has : Value) (o_this_bestOrder : Value) (o_this_wins : Value) (o_this_firstTens : Value) (o_this_moves : Value) (o_this_kept : Value) (o_this_isKept : Value) (o_this_keptAt : Value) (o_this_isWriting : Value) (v_suits : Int32) (r0 : Int64) (hf : fX4_allWays v_suits = some r0) : MW l yX4_allWays wsX4_allWays { frames := 0, cells := 0, slots := 0, locals := 0 } D cI cJ cZ cB [(a_this, .inr (4, (o_this_weight :: o_this_hole :: o_this_held :: o_this_law :: .int v_suits :: o_this_plaintiff :: o_this_defendant :: o_this_worth :: o_this_winner :: o_this_order :: o_this_sightWeight :: o_this_sightMany :: o_this_sights :: o_this_pad :: o_this_padMany :: o_this_part :: o_this_digits :: o_this_isNought :: o_this_done :: o_this_by :: o_this_extra :: o_this_waiting :: o_this_floats :: o_this_decided :: o_this_sunk :: o_this_has :: o_this_bestOrder :: o_this_wins :: o_this_firstTens :: o_this_moves :: o_this_kept :: o_this_isKept :: o_this_keptAt :: o_this_isWriting :: [])))] [.ref a_this] (QWl D r0 [(a_this, .inr (4, (o_this_weight :: o_this_hole :: o_this_held :: o_this_law :: .int v_suits :: o_this_plaintiff :: o_this_defendant :: o_this_worth :: o_this_winner :: o_this_order :: o_this_sightWeight :: o_this_sightMany :: o_this_sights :: o_this_pad :: o_this_padMany :: o_this_part :: o_this_digits :: o_this_isNought :: o_this_done :: o_this_by :: o_this_extra :: o_this_waiting :: o_this_floats :: o_this_decided :: o_this_sunk :: o_this_has :: o_this_bestOrder :: o_this_wins :: o_this_firstTens :: o_this_moves :: o_this_kept :: o_this_isKept :: o_this_keptAt :: o_this_isWriting :: [])))]) := by
  refine k_body (cc := cX4_allWays) (maxL := 4) (ret := (some .long)) (by decide) rfl (Nat.le_of_ble_eq_true rfl) ?_
  intro p e s m args below meth c hx hb hr hml hts hown hlocks hname hK A hA hP hD hS ls hl
  have hl : lv_has ls 4 [(0, .ref a_this)] := hl
  generalize hQ : MQ below ((QWl D r0 [(a_this, .inr (4, (o_this_weight :: o_this_hole :: o_this_held :: o_this_law :: .int v_suits :: o_this_plaintiff :: o_this_defendant :: o_this_worth :: o_this_winner :: o_this_order :: o_this_sightWeight :: o_this_sightMany :: o_this_sights :: o_this_pad :: o_this_padMany :: o_this_part :: o_this_digits :: o_this_isNought :: o_this_done :: o_this_by :: o_this_extra :: o_this_waiting :: o_this_floats :: o_this_decided :: o_this_sunk :: o_this_has :: o_this_bestOrder :: o_this_wins :: o_this_firstTens :: o_this_moves :: o_this_kept :: o_this_isKept :: o_this_keptAt :: o_this_isWriting :: [])))]) A) args s 0 0 A = Q
  obtain ⟨H, hH⟩ : ∃ H, H = s.heap := ⟨_, rfl⟩
  obtain ⟨locs, hlo⟩ : ∃ z : List Loc, z = [] := ⟨_, rfl⟩
  have hP : va_P D vwCl [(a_this, .inr (4, (o_this_weight :: o_this_hole :: o_this_held :: o_this_law :: .int v_suits :: o_this_plaintiff :: o_this_defendant :: o_this_worth :: o_this_winner :: o_this_order :: o_this_sightWeight :: o_this_sightMany :: o_this_sights :: o_this_pad :: o_this_padMany :: o_this_part :: o_this_digits :: o_this_isNought :: o_this_done :: o_this_by :: o_this_extra :: o_this_waiting :: o_this_floats :: o_this_decided :: o_this_sunk :: o_this_has :: o_this_bestOrder :: o_this_wins :: o_this_firstTens :: o_this_moves :: o_this_kept :: o_this_isKept :: o_this_keptAt :: o_this_isWriting :: [])))] H := by rw [hH]; exact hP
  have hS : va_S A s.heap H locs := by rw [hH, hlo]; exact hS
  suffices hg : W p l e (headSpec wsX4_allWays { frames := 0, cells := 0, slots := 0, locals := 0 }).room s m args below meth c H locs 0 0 Q (F0 m 0 ls []) by rw [hH, hlo] at hg; exact hg
  have l113 := hts (.fieldLink RX4 113 "CandleCourtModel" "suits" "I") (by decide +kernel)
  have iX4 : ∀ w ∈ wsX40, w ∈ wsX4_allWays := by decide +kernel
  unfold fX4_allWays at hf
  refine lv_lconst (v := 1) hx hb dX4_allWays_0 (by decide) ?_
  refine lv_lstore_n (lv' := [(1, .long 1), (0, .ref a_this)]) hx hb dX4_allWays_1 rfl hl (by decide) rfl (fun ls hl => ?_)
  refine lv_iconst (v := 0) hx hb dX4_allWays_2 (by decide) ?_
  refine lv_istore_n (lv' := [(3, .int 0), (1, .long 1), (0, .ref a_this)]) hx hb dX4_allWays_3 rfl hl (by decide) rfl (fun ls hl => ?_)
  have L4 : ∀ (n4 : Nat) (x1_4 : Int64) (x3_4 : Int32) (H : Heap) (locs : List Loc) (ls : Array Slot), fX4_allWays_l4 v_suits n4 x1_4 x3_4 = some r0 → va_P D vwCl [(a_this, .inr (4, (o_this_weight :: o_this_hole :: o_this_held :: o_this_law :: .int v_suits :: o_this_plaintiff :: o_this_defendant :: o_this_worth :: o_this_winner :: o_this_order :: o_this_sightWeight :: o_this_sightMany :: o_this_sights :: o_this_pad :: o_this_padMany :: o_this_part :: o_this_digits :: o_this_isNought :: o_this_done :: o_this_by :: o_this_extra :: o_this_waiting :: o_this_floats :: o_this_decided :: o_this_sunk :: o_this_has :: o_this_bestOrder :: o_this_wins :: o_this_firstTens :: o_this_moves :: o_this_kept :: o_this_isKept :: o_this_keptAt :: o_this_isWriting :: [])))] H → va_D A [(a_this, .inr (4, (o_this_weight :: o_this_hole :: o_this_held :: o_this_law :: .int v_suits :: o_this_plaintiff :: o_this_defendant :: o_this_worth :: o_this_winner :: o_this_order :: o_this_sightWeight :: o_this_sightMany :: o_this_sights :: o_this_pad :: o_this_padMany :: o_this_part :: o_this_digits :: o_this_isNought :: o_this_done :: o_this_by :: o_this_extra :: o_this_waiting :: o_this_floats :: o_this_decided :: o_this_sunk :: o_this_has :: o_this_bestOrder :: o_this_wins :: o_this_firstTens :: o_this_moves :: o_this_kept :: o_this_isKept :: o_this_keptAt :: o_this_isWriting :: [])))] → va_S A s.heap H locs → lv_has ls 4 [(0, .ref a_this), (1, .long x1_4), (3, .int x3_4)] → W p l e (headSpec wsX4_allWays { frames := 0, cells := 0, slots := 0, locals := 0 }).room s m args below meth c H locs 0 0 Q (F0 m 4 ls []) := by
    intro n4
    induction n4 with
    | zero =>
      intro x1_4 x3_4 H locs ls hf
      have hf : (none : Option (Int64)) = some r0 := hf
      cases hf
    | succ n4 ih4 =>
      intro x1_4 x3_4 H locs ls hf hP hD hS hl
      rw [fX4_allWays_l4] at hf
      refine lv_iload_n hx hb dX4_allWays_4 rfl (lv_at hl 2 rfl) ?_
      refine lv_aload_n hx hb dX4_allWays_5 rfl (lv_at hl 0 rfl) ?_
      refine va_get (D := D) (ci := 4) (v := .int v_suits) (C := RX4) (T := TX4) (N := 34) hx hb hts iX4 hown hK.1 hP 0 rfl rfl 4 (by decide) l113 (fun _ h9 => h9) rfl dX4_allWays_6 ?_
      refine lv_icmp_ge (tgt := 24) hx hb dX4_allWays_9 (by decide) (fun c1 => ?_) (fun c1 => ?_)
      · have hf := (if_pos c1).symm.trans hf
        refine lv_lload_n hx hb dX4_allWays_24 rfl (lv_at hl 1 rfl) ?_
        cases hf
        subst hQ
        exact k_rl hx hb hr hlocks hP hD hS dX4_allWays_25
      · have hf := (if_neg c1).symm.trans hf
        refine lv_lload_n hx hb dX4_allWays_12 rfl (lv_at hl 1 rfl) ?_
        refine lv_ldc2 (own := RX4) (v := 10) hx hb hown (hts (.constantLong RX4 191 (10)) (by decide +kernel)) dX4_allWays_13 ?_
        refine lv_lmul hx hb dX4_allWays_16 ?_
        refine lv_lstore_n (lv' := [(1, .long (x1_4 * 10)), (0, .ref a_this), (3, .int x3_4)]) hx hb dX4_allWays_17 rfl hl (by decide) rfl (fun ls hl => ?_)
        refine lv_iinc (v := (x3_4 + 1)) (lv' := [(3, .int (x3_4 + 1)), (1, .long (x1_4 * 10)), (0, .ref a_this)]) hx hb dX4_allWays_18 hl (k := 2) rfl (by rfl) (by decide) rfl (fun ls hl => ?_)
        refine lv_goto (tgt := 4) hx hb dX4_allWays_21 (by decide) ?_
        exact ih4 (x1_4 * 10) (x3_4 + 1) _ _ _ hf hP hD hS (lv_sub hl [2, 1, 0] rfl)
  exact L4 FU 1 0 _ _ _ hf hP hD hS (lv_sub hl [2, 1, 0] rfl)
