set_option maxHeartbeats 4000000 in
set_option maxRecDepth 100000 in
theorem tX4_in (l : Launch) (D : va_G) (cI cJ cZ cB : ClassId) (x0 : Int64) (x2 : Int64) (x4 : Int64) (r0 : Int32) (hf : fX4_in x0 x2 x4 = some r0) : MW l yX4_in wsX4_in { frames := 0, cells := 0, slots := 0, locals := 0 } D cI cJ cZ cB [] [.long x0, .long x2, .long x4] (QWi D r0 []) := by
  refine k_body (cc := cX4_in) (maxL := 6) (ret := (some .boolean)) (by decide) rfl (Nat.le_of_ble_eq_true rfl) ?_
  intro p e s m args below meth c hx hb hr hml hts hown hlocks hname hK A hA hP hD hS ls hl
  have hl : lv_has ls 6 [(0, .long x0), (2, .long x2), (4, .long x4)] := hl
  generalize hQ : MQ below ((QWi D r0 []) A) args s 0 0 A = Q
  obtain ⟨H, hH⟩ : ∃ H, H = s.heap := ⟨_, rfl⟩
  obtain ⟨locs, hlo⟩ : ∃ z : List Loc, z = [] := ⟨_, rfl⟩
  have hP : va_P D vwCl [] H := by rw [hH]; exact hP
  have hS : va_S A s.heap H locs := by rw [hH, hlo]; exact hS
  suffices hg : W p l e (headSpec wsX4_in { frames := 0, cells := 0, slots := 0, locals := 0 }).room s m args below meth c H locs 0 0 Q (F0 m 0 ls []) by rw [hH, hlo] at hg; exact hg
  unfold fX4_in at hf
  refine lv_lload_n hx hb dX4_in_0 rfl (lv_at hl 0 rfl) ?_
  refine lv_lload_n hx hb dX4_in_1 rfl (lv_at hl 1 rfl) ?_
  refine W.lcmp hx hb dX4_in_2 ?_
  refine lv_if_lt (tgt := 17) hx hb dX4_in_3 (by decide) (fun c1 => ?_) (fun c1 => ?_)
  · have hf := (if_pos c1).symm.trans hf
    refine lv_iconst (v := 0) hx hb dX4_in_17 (by decide) ?_
    cases hf
    subst hQ
    exact k_rz hx hb hr hlocks hP hD hS (by decide) dX4_in_18
  · have hf := (if_neg c1).symm.trans hf
    refine lv_lload_n hx hb dX4_in_6 rfl (lv_at hl 0 rfl) ?_
    refine lv_lload hx hb dX4_in_7 (lv_at hl 2 rfl) ?_
    refine W.lcmp hx hb dX4_in_9 ?_
    refine lv_if_gt (tgt := 17) hx hb dX4_in_10 (by decide) (fun c2 => ?_) (fun c2 => ?_)
    · have hf := (if_pos c2).symm.trans hf
      refine lv_iconst (v := 0) hx hb dX4_in_17 (by decide) ?_
      cases hf
      subst hQ
      exact k_rz hx hb hr hlocks hP hD hS (by decide) dX4_in_18
    · have hf := (if_neg c2).symm.trans hf
      refine lv_iconst (v := 1) hx hb dX4_in_13 (by decide) ?_
      refine lv_goto (tgt := 18) hx hb dX4_in_14 (by decide) ?_
      cases hf
      subst hQ
      exact k_rz hx hb hr hlocks hP hD hS (by decide) dX4_in_18

set_option maxHeartbeats 4000000 in
set_option maxRecDepth 100000 in
theorem tX4_set (l : Launch) (D : va_G) (cI cJ cZ cB : ClassId) (a_this : Nat) (o_this_suits : Value) (o_this_plaintiff : Value) (o_this_defendant : Value) (o_this_worth : Value) (o_this_winner : Value) (o_this_order : Value) (o_this_sightWeight : Value) (o_this_sightMany : Value) (o_this_sights : Value) (o_this_pad : Value) (o_this_padMany : Value) (o_this_part : Value) (o_this_digits : Value) (o_this_isNought : Value) (o_this_done : Value) (o_this_by : Value) (o_this_extra : Value) (o_this_waiting : Value) (o_this_floats : Value) (o_this_decided : Value) (o_this_sunk : Value) (o_this_has : Value) (o_this_bestOrder : Value) (o_this_wins : Value) (o_this_firstTens : Value) (o_this_moves : Value) (o_this_kept : Value) (o_this_isKept : Value) (o_this_keptAt : Value) (o_this_isWriting : Value) (x1 : Int32) (x2 : Int32) (v_weight : Int32) (v_hole : Int32) (v_held : Int32) (v_law : Int32) (r0 : Int32) (w_weight : Int32) (w_hole : Int32) (w_held : Int32) (w_law : Int32) (hf : fX4_set x1 x2 v_weight v_hole v_held v_law = some (r0, w_weight, w_hole, w_held, w_law)) : MW l yX4_set wsX4_set { frames := 1, cells := 0, slots := 0, locals := 25 } D cI cJ cZ cB [(a_this, .inr (4, (.int v_weight :: .int v_hole :: .int v_held :: .int v_law :: o_this_suits :: o_this_plaintiff :: o_this_defendant :: o_this_worth :: o_this_winner :: o_this_order :: o_this_sightWeight :: o_this_sightMany :: o_this_sights :: o_this_pad :: o_this_padMany :: o_this_part :: o_this_digits :: o_this_isNought :: o_this_done :: o_this_by :: o_this_extra :: o_this_waiting :: o_this_floats :: o_this_decided :: o_this_sunk :: o_this_has :: o_this_bestOrder :: o_this_wins :: o_this_firstTens :: o_this_moves :: o_this_kept :: o_this_isKept :: o_this_keptAt :: o_this_isWriting :: [])))] [.ref a_this, .int x1, .int x2] (QWi D r0 [(a_this, .inr (4, (.int w_weight :: .int w_hole :: .int w_held :: .int w_law :: o_this_suits :: o_this_plaintiff :: o_this_defendant :: o_this_worth :: o_this_winner :: o_this_order :: o_this_sightWeight :: o_this_sightMany :: o_this_sights :: o_this_pad :: o_this_padMany :: o_this_part :: o_this_digits :: o_this_isNought :: o_this_done :: o_this_by :: o_this_extra :: o_this_waiting :: o_this_floats :: o_this_decided :: o_this_sunk :: o_this_has :: o_this_bestOrder :: o_this_wins :: o_this_firstTens :: o_this_moves :: o_this_kept :: o_this_isKept :: o_this_keptAt :: o_this_isWriting :: [])))]) := by
  refine k_body (cc := cX4_set) (maxL := 6) (ret := (some .int)) (by decide) rfl (Nat.le_of_ble_eq_true rfl) ?_
  intro p e s m args below meth c hx hb hr hml hts hown hlocks hname hK A hA hP hD hS ls hl
  have hl : lv_has ls 6 [(0, .ref a_this), (1, .int x1), (2, .int x2)] := hl
  generalize hQ : MQ below ((QWi D r0 [(a_this, .inr (4, (.int w_weight :: .int w_hole :: .int w_held :: .int w_law :: o_this_suits :: o_this_plaintiff :: o_this_defendant :: o_this_worth :: o_this_winner :: o_this_order :: o_this_sightWeight :: o_this_sightMany :: o_this_sights :: o_this_pad :: o_this_padMany :: o_this_part :: o_this_digits :: o_this_isNought :: o_this_done :: o_this_by :: o_this_extra :: o_this_waiting :: o_this_floats :: o_this_decided :: o_this_sunk :: o_this_has :: o_this_bestOrder :: o_this_wins :: o_this_firstTens :: o_this_moves :: o_this_kept :: o_this_isKept :: o_this_keptAt :: o_this_isWriting :: [])))]) A) args s 0 0 A = Q
  obtain ⟨H, hH⟩ : ∃ H, H = s.heap := ⟨_, rfl⟩
  obtain ⟨locs, hlo⟩ : ∃ z : List Loc, z = [] := ⟨_, rfl⟩
  have hP : va_P D vwCl [(a_this, .inr (4, (.int v_weight :: .int v_hole :: .int v_held :: .int v_law :: o_this_suits :: o_this_plaintiff :: o_this_defendant :: o_this_worth :: o_this_winner :: o_this_order :: o_this_sightWeight :: o_this_sightMany :: o_this_sights :: o_this_pad :: o_this_padMany :: o_this_part :: o_this_digits :: o_this_isNought :: o_this_done :: o_this_by :: o_this_extra :: o_this_waiting :: o_this_floats :: o_this_decided :: o_this_sunk :: o_this_has :: o_this_bestOrder :: o_this_wins :: o_this_firstTens :: o_this_moves :: o_this_kept :: o_this_isKept :: o_this_keptAt :: o_this_isWriting :: [])))] H := by rw [hH]; exact hP
  have hS : va_S A s.heap H locs := by rw [hH, hlo]; exact hS
  suffices hg : W p l e (headSpec wsX4_set { frames := 1, cells := 0, slots := 0, locals := 25 }).room s m args below meth c H locs 0 0 Q (F0 m 0 ls []) by rw [hH, hlo] at hg; exact hg
  have l63 := hts (.fieldLink RX4 63 "CandleCourtModel" "weight" "I") (by decide +kernel)
  have l67 := hts (.fieldLink RX4 67 "CandleCourtModel" "hole" "I") (by decide +kernel)
  have l76 := hts (.fieldLink RX4 76 "CandleCourtModel" "held" "I") (by decide +kernel)
  have l79 := hts (.fieldLink RX4 79 "CandleCourtModel" "law" "I") (by decide +kernel)
  have iX4 : ∀ w ∈ wsX40, w ∈ wsX4_set := by decide +kernel
  unfold fX4_set at hf
  refine lv_iload_n hx hb dX4_set_0 rfl (lv_at hl 1 rfl) ?_
  refine lv_iconst (v := 2) hx hb dX4_set_1 (by decide) ?_
  have J10 : ∀ (s0_10 : Int32) (v_weight_10 : Int32) (v_hole_10 : Int32) (v_held_10 : Int32) (v_law_10 : Int32) (H : Heap) (locs : List Loc) (ls : Array Slot), fX4_set_j10 x1 x2 v_weight_10 v_hole_10 v_held_10 v_law_10 s0_10 = some (r0, w_weight, w_hole, w_held, w_law) → va_P D vwCl [(a_this, .inr (4, (.int v_weight_10 :: .int v_hole_10 :: .int v_held_10 :: .int v_law_10 :: o_this_suits :: o_this_plaintiff :: o_this_defendant :: o_this_worth :: o_this_winner :: o_this_order :: o_this_sightWeight :: o_this_sightMany :: o_this_sights :: o_this_pad :: o_this_padMany :: o_this_part :: o_this_digits :: o_this_isNought :: o_this_done :: o_this_by :: o_this_extra :: o_this_waiting :: o_this_floats :: o_this_decided :: o_this_sunk :: o_this_has :: o_this_bestOrder :: o_this_wins :: o_this_firstTens :: o_this_moves :: o_this_kept :: o_this_isKept :: o_this_keptAt :: o_this_isWriting :: [])))] H → va_D A [(a_this, .inr (4, (.int v_weight_10 :: .int v_hole_10 :: .int v_held_10 :: .int v_law_10 :: o_this_suits :: o_this_plaintiff :: o_this_defendant :: o_this_worth :: o_this_winner :: o_this_order :: o_this_sightWeight :: o_this_sightMany :: o_this_sights :: o_this_pad :: o_this_padMany :: o_this_part :: o_this_digits :: o_this_isNought :: o_this_done :: o_this_by :: o_this_extra :: o_this_waiting :: o_this_floats :: o_this_decided :: o_this_sunk :: o_this_has :: o_this_bestOrder :: o_this_wins :: o_this_firstTens :: o_this_moves :: o_this_kept :: o_this_isKept :: o_this_keptAt :: o_this_isWriting :: [])))] → va_S A s.heap H locs → lv_has ls 6 [(0, .ref a_this), (1, .int x1), (2, .int x2)] → W p l e (headSpec wsX4_set { frames := 1, cells := 0, slots := 0, locals := 25 }).room s m args below meth c H locs 0 0 Q (F0 m 10 ls [.int s0_10]) := by
    intro s0_10 v_weight_10 v_hole_10 v_held_10 v_law_10 H locs ls hf hP hD hS hl
    unfold fX4_set_j10 at hf
    refine lv_istore_n (lv' := [(3, .int s0_10), (0, .ref a_this), (1, .int x1), (2, .int x2)]) hx hb dX4_set_10 rfl hl (by decide) rfl (fun ls hl => ?_)
    refine lv_iload_n hx hb dX4_set_11 rfl (lv_at hl 2 rfl) ?_
    have J42 : ∀ (s0_42 : Int32) (x3_42 : Int32) (v_weight_42 : Int32) (v_hole_42 : Int32) (v_held_42 : Int32) (v_law_42 : Int32) (H : Heap) (locs : List Loc) (ls : Array Slot), fX4_set_j42 x1 x2 v_weight_42 v_hole_42 v_held_42 v_law_42 x3_42 s0_42 = some (r0, w_weight, w_hole, w_held, w_law) → va_P D vwCl [(a_this, .inr (4, (.int v_weight_42 :: .int v_hole_42 :: .int v_held_42 :: .int v_law_42 :: o_this_suits :: o_this_plaintiff :: o_this_defendant :: o_this_worth :: o_this_winner :: o_this_order :: o_this_sightWeight :: o_this_sightMany :: o_this_sights :: o_this_pad :: o_this_padMany :: o_this_part :: o_this_digits :: o_this_isNought :: o_this_done :: o_this_by :: o_this_extra :: o_this_waiting :: o_this_floats :: o_this_decided :: o_this_sunk :: o_this_has :: o_this_bestOrder :: o_this_wins :: o_this_firstTens :: o_this_moves :: o_this_kept :: o_this_isKept :: o_this_keptAt :: o_this_isWriting :: [])))] H → va_D A [(a_this, .inr (4, (.int v_weight_42 :: .int v_hole_42 :: .int v_held_42 :: .int v_law_42 :: o_this_suits :: o_this_plaintiff :: o_this_defendant :: o_this_worth :: o_this_winner :: o_this_order :: o_this_sightWeight :: o_this_sightMany :: o_this_sights :: o_this_pad :: o_this_padMany :: o_this_part :: o_this_digits :: o_this_isNought :: o_this_done :: o_this_by :: o_this_extra :: o_this_waiting :: o_this_floats :: o_this_decided :: o_this_sunk :: o_this_has :: o_this_bestOrder :: o_this_wins :: o_this_firstTens :: o_this_moves :: o_this_kept :: o_this_isKept :: o_this_keptAt :: o_this_isWriting :: [])))] → va_S A s.heap H locs → lv_has ls 6 [(0, .ref a_this), (1, .int x1), (2, .int x2), (3, .int x3_42)] → W p l e (headSpec wsX4_set { frames := 1, cells := 0, slots := 0, locals := 25 }).room s m args below meth c H locs 0 0 Q (F0 m 42 ls [.int s0_42]) := by
      intro s0_42 x3_42 v_weight_42 v_hole_42 v_held_42 v_law_42 H locs ls hf hP hD hS hl
      unfold fX4_set_j42 at hf
      refine lv_istore (lv' := [(4, .int s0_42), (0, .ref a_this), (1, .int x1), (2, .int x2), (3, .int x3_42)]) hx hb dX4_set_42 hl (by decide) rfl (fun ls hl => ?_)
      refine lv_iload_n hx hb dX4_set_44 rfl (lv_at hl 2 rfl) ?_
      refine lv_i2l (v := Int32.toInt64 x1) hx hb dX4_set_45 rfl ?_
      refine lv_lconst (v := 0) hx hb dX4_set_46 (by decide) ?_
      refine lv_ldc2 (own := RX4) (v := 3) hx hb hown (hts (.constantLong RX4 70 (3)) (by decide +kernel)) dX4_set_47 ?_
      obtain ⟨r1, hc2, hf⟩ := bnd1_some hf
      refine k_ci (wc := []) (wr := [(a_this, .inr (4, (.int v_weight_42 :: .int v_hole_42 :: .int v_held_42 :: .int v_law_42 :: o_this_suits :: o_this_plaintiff :: o_this_defendant :: o_this_worth :: o_this_winner :: o_this_order :: o_this_sightWeight :: o_this_sightMany :: o_this_sights :: o_this_pad :: o_this_padMany :: o_this_part :: o_this_digits :: o_this_isNought :: o_this_done :: o_this_by :: o_this_extra :: o_this_waiting :: o_this_floats :: o_this_decided :: o_this_sunk :: o_this_has :: o_this_bestOrder :: o_this_wins :: o_this_firstTens :: o_this_moves :: o_this_kept :: o_this_isKept :: o_this_keptAt :: o_this_isWriting :: [])))]) (w1 := []) (ws' := [(a_this, .inr (4, (.int v_weight_42 :: .int v_hole_42 :: .int v_held_42 :: .int v_law_42 :: o_this_suits :: o_this_plaintiff :: o_this_defendant :: o_this_worth :: o_this_winner :: o_this_order :: o_this_sightWeight :: o_this_sightMany :: o_this_sights :: o_this_pad :: o_this_padMany :: o_this_part :: o_this_digits :: o_this_isNought :: o_this_done :: o_this_by :: o_this_extra :: o_this_waiting :: o_this_floats :: o_this_decided :: o_this_sunk :: o_this_has :: o_this_bestOrder :: o_this_wins :: o_this_firstTens :: o_this_moves :: o_this_kept :: o_this_isKept :: o_this_keptAt :: o_this_isWriting :: [])))]) (va_runS (As := [.long (Int32.toInt64 x1), .long 0, .long 3]) (rest := []) ⟨hx, hb, hml, hown, hts⟩ (tX4_in l D cI cJ cZ cB (Int32.toInt64 x1) 0 3 r1 hc2 H.size) (va_cwS 3 hts gX4_set_X4_in rfl rfl rfl (by decide +kernel) ⟨Nat.le_of_ble_eq_true rfl, Nat.le_of_ble_eq_true rfl⟩) (k_preS (is := []) hK hP hD rfl rfl) rfl rfl hl.1 rfl (lv_room (Nat.le_of_ble_eq_true rfl)) dX4_set_50 ⟨Nat.zero_le _, Nat.zero_le _⟩) hP hD hS hA [] [0] [0] rfl rfl rfl (by decide) rfl rfl (fun H locs hP hD hS => ?_)
      refine lv_if_eq (tgt := 69) hx hb dX4_set_53 (by decide) (fun c3 => ?_) (fun c3 => ?_)
      · have hf := (if_pos c3).symm.trans hf
        refine lv_bipush (v := (-2)) hx hb dX4_set_69 (by decide) ?_
        cases hf
        subst hQ
        exact k_ri hx hb hr hlocks hP hD hS dX4_set_71
      · have hf := (if_neg c3).symm.trans hf
        refine lv_iload_n hx hb dX4_set_56 rfl (lv_at hl 3 rfl) ?_
        refine lv_i2l (v := Int32.toInt64 x2) hx hb dX4_set_57 rfl ?_
        refine lv_iload_n hx hb dX4_set_58 rfl (lv_at hl 4 rfl) ?_
        refine lv_i2l (v := Int32.toInt64 x3_42) hx hb dX4_set_59 rfl ?_
        refine lv_iload hx hb dX4_set_60 (lv_at hl 0 rfl) ?_
        refine lv_i2l (v := Int32.toInt64 s0_42) hx hb dX4_set_62 rfl ?_
        obtain ⟨r4, hc5, hf⟩ := bnd1_some hf
        refine k_ci (wc := []) (wr := [(a_this, .inr (4, (.int v_weight_42 :: .int v_hole_42 :: .int v_held_42 :: .int v_law_42 :: o_this_suits :: o_this_plaintiff :: o_this_defendant :: o_this_worth :: o_this_winner :: o_this_order :: o_this_sightWeight :: o_this_sightMany :: o_this_sights :: o_this_pad :: o_this_padMany :: o_this_part :: o_this_digits :: o_this_isNought :: o_this_done :: o_this_by :: o_this_extra :: o_this_waiting :: o_this_floats :: o_this_decided :: o_this_sunk :: o_this_has :: o_this_bestOrder :: o_this_wins :: o_this_firstTens :: o_this_moves :: o_this_kept :: o_this_isKept :: o_this_keptAt :: o_this_isWriting :: [])))]) (w1 := []) (ws' := [(a_this, .inr (4, (.int v_weight_42 :: .int v_hole_42 :: .int v_held_42 :: .int v_law_42 :: o_this_suits :: o_this_plaintiff :: o_this_defendant :: o_this_worth :: o_this_winner :: o_this_order :: o_this_sightWeight :: o_this_sightMany :: o_this_sights :: o_this_pad :: o_this_padMany :: o_this_part :: o_this_digits :: o_this_isNought :: o_this_done :: o_this_by :: o_this_extra :: o_this_waiting :: o_this_floats :: o_this_decided :: o_this_sunk :: o_this_has :: o_this_bestOrder :: o_this_wins :: o_this_firstTens :: o_this_moves :: o_this_kept :: o_this_isKept :: o_this_keptAt :: o_this_isWriting :: [])))]) (va_runS (As := [.long (Int32.toInt64 x2), .long (Int32.toInt64 x3_42), .long (Int32.toInt64 s0_42)]) (rest := []) ⟨hx, hb, hml, hown, hts⟩ (tX4_in l D cI cJ cZ cB (Int32.toInt64 x2) (Int32.toInt64 x3_42) (Int32.toInt64 s0_42) r4 hc5 H.size) (va_cwS 3 hts gX4_set_X4_in rfl rfl rfl (by decide +kernel) ⟨Nat.le_of_ble_eq_true rfl, Nat.le_of_ble_eq_true rfl⟩) (k_preS (is := []) hK hP hD rfl rfl) rfl rfl hl.1 rfl (lv_room (Nat.le_of_ble_eq_true rfl)) dX4_set_63 ⟨Nat.zero_le _, Nat.zero_le _⟩) hP hD hS hA [] [0] [0] rfl rfl rfl (by decide) rfl rfl (fun H locs hP hD hS => ?_)
        refine lv_if_ne (tgt := 72) hx hb dX4_set_66 (by decide) (fun c6 => ?_) (fun c6 => ?_)
        · have hf := (if_neg c6).symm.trans hf
          refine lv_iload_n hx hb dX4_set_72 rfl (lv_at hl 2 rfl) ?_
          have J111 : ∀ (s0_111 : Int32) (v_weight_111 : Int32) (v_hole_111 : Int32) (v_held_111 : Int32) (v_law_111 : Int32) (H : Heap) (locs : List Loc) (ls : Array Slot), fX4_set_j111 x1 x2 v_weight_111 v_hole_111 v_held_111 v_law_111 s0_111 = some (r0, w_weight, w_hole, w_held, w_law) → va_P D vwCl [(a_this, .inr (4, (.int v_weight_111 :: .int v_hole_111 :: .int v_held_111 :: .int v_law_111 :: o_this_suits :: o_this_plaintiff :: o_this_defendant :: o_this_worth :: o_this_winner :: o_this_order :: o_this_sightWeight :: o_this_sightMany :: o_this_sights :: o_this_pad :: o_this_padMany :: o_this_part :: o_this_digits :: o_this_isNought :: o_this_done :: o_this_by :: o_this_extra :: o_this_waiting :: o_this_floats :: o_this_decided :: o_this_sunk :: o_this_has :: o_this_bestOrder :: o_this_wins :: o_this_firstTens :: o_this_moves :: o_this_kept :: o_this_isKept :: o_this_keptAt :: o_this_isWriting :: [])))] H → va_D A [(a_this, .inr (4, (.int v_weight_111 :: .int v_hole_111 :: .int v_held_111 :: .int v_law_111 :: o_this_suits :: o_this_plaintiff :: o_this_defendant :: o_this_worth :: o_this_winner :: o_this_order :: o_this_sightWeight :: o_this_sightMany :: o_this_sights :: o_this_pad :: o_this_padMany :: o_this_part :: o_this_digits :: o_this_isNought :: o_this_done :: o_this_by :: o_this_extra :: o_this_waiting :: o_this_floats :: o_this_decided :: o_this_sunk :: o_this_has :: o_this_bestOrder :: o_this_wins :: o_this_firstTens :: o_this_moves :: o_this_kept :: o_this_isKept :: o_this_keptAt :: o_this_isWriting :: [])))] → va_S A s.heap H locs → lv_has ls 6 [(0, .ref a_this), (1, .int x1), (2, .int x2)] → W p l e (headSpec wsX4_set { frames := 1, cells := 0, slots := 0, locals := 25 }).room s m args below meth c H locs 0 0 Q (F0 m 111 ls [.int s0_111]) := by
            intro s0_111 v_weight_111 v_hole_111 v_held_111 v_law_111 H locs ls hf hP hD hS hl
            unfold fX4_set_j111 at hf
            refine lv_istore (lv' := [(5, .int s0_111), (0, .ref a_this), (1, .int x1), (2, .int x2)]) hx hb dX4_set_111 hl (by decide) rfl (fun ls hl => ?_)
            refine lv_aload_n hx hb dX4_set_113 rfl (lv_at hl 1 rfl) ?_
            refine lv_iload_n hx hb dX4_set_114 rfl (lv_at hl 2 rfl) ?_
            have J126 : ∀ (s1_126 : Int32) (x5_126 : Int32) (v_weight_126 : Int32) (v_hole_126 : Int32) (v_held_126 : Int32) (v_law_126 : Int32) (H : Heap) (locs : List Loc) (ls : Array Slot), fX4_set_j126 x1 x2 v_hole_126 v_held_126 v_law_126 x5_126 s1_126 = some (r0, w_weight, w_hole, w_held, w_law) → va_P D vwCl [(a_this, .inr (4, (.int v_weight_126 :: .int v_hole_126 :: .int v_held_126 :: .int v_law_126 :: o_this_suits :: o_this_plaintiff :: o_this_defendant :: o_this_worth :: o_this_winner :: o_this_order :: o_this_sightWeight :: o_this_sightMany :: o_this_sights :: o_this_pad :: o_this_padMany :: o_this_part :: o_this_digits :: o_this_isNought :: o_this_done :: o_this_by :: o_this_extra :: o_this_waiting :: o_this_floats :: o_this_decided :: o_this_sunk :: o_this_has :: o_this_bestOrder :: o_this_wins :: o_this_firstTens :: o_this_moves :: o_this_kept :: o_this_isKept :: o_this_keptAt :: o_this_isWriting :: [])))] H → va_D A [(a_this, .inr (4, (.int v_weight_126 :: .int v_hole_126 :: .int v_held_126 :: .int v_law_126 :: o_this_suits :: o_this_plaintiff :: o_this_defendant :: o_this_worth :: o_this_winner :: o_this_order :: o_this_sightWeight :: o_this_sightMany :: o_this_sights :: o_this_pad :: o_this_padMany :: o_this_part :: o_this_digits :: o_this_isNought :: o_this_done :: o_this_by :: o_this_extra :: o_this_waiting :: o_this_floats :: o_this_decided :: o_this_sunk :: o_this_has :: o_this_bestOrder :: o_this_wins :: o_this_firstTens :: o_this_moves :: o_this_kept :: o_this_isKept :: o_this_keptAt :: o_this_isWriting :: [])))] → va_S A s.heap H locs → lv_has ls 6 [(0, .ref a_this), (1, .int x1), (2, .int x2), (5, .int x5_126)] → W p l e (headSpec wsX4_set { frames := 1, cells := 0, slots := 0, locals := 25 }).room s m args below meth c H locs 0 0 Q (F0 m 126 ls [.int s1_126, .ref a_this]) := by
              intro s1_126 x5_126 v_weight_126 v_hole_126 v_held_126 v_law_126 H locs ls hf hP hD hS hl
              unfold fX4_set_j126 at hf
              refine va_put (D := D) (ci := 4) (v := .int s1_126) (ty := .int) (C := RX4) (T := TX4) (N := 34) hx hb hts iX4 tyX4 tyX4_ok nmX4 hown hK.1 hP hD hS 0 rfl rfl 0 (by decide) l63 (fun _ h9 => h9) rfl (by decide +kernel) rfl rfl (Nat.le_of_ble_eq_true rfl) dX4_set_126 (fun H locs hP hD hS => ?_)
              have hP : va_P D vwCl [(a_this, .inr (4, (.int s1_126 :: .int v_hole_126 :: .int v_held_126 :: .int v_law_126 :: o_this_suits :: o_this_plaintiff :: o_this_defendant :: o_this_worth :: o_this_winner :: o_this_order :: o_this_sightWeight :: o_this_sightMany :: o_this_sights :: o_this_pad :: o_this_padMany :: o_this_part :: o_this_digits :: o_this_isNought :: o_this_done :: o_this_by :: o_this_extra :: o_this_waiting :: o_this_floats :: o_this_decided :: o_this_sunk :: o_this_has :: o_this_bestOrder :: o_this_wins :: o_this_firstTens :: o_this_moves :: o_this_kept :: o_this_isKept :: o_this_keptAt :: o_this_isWriting :: [])))] H := hP
              have hD : va_D A [(a_this, .inr (4, (.int s1_126 :: .int v_hole_126 :: .int v_held_126 :: .int v_law_126 :: o_this_suits :: o_this_plaintiff :: o_this_defendant :: o_this_worth :: o_this_winner :: o_this_order :: o_this_sightWeight :: o_this_sightMany :: o_this_sights :: o_this_pad :: o_this_padMany :: o_this_part :: o_this_digits :: o_this_isNought :: o_this_done :: o_this_by :: o_this_extra :: o_this_waiting :: o_this_floats :: o_this_decided :: o_this_sunk :: o_this_has :: o_this_bestOrder :: o_this_wins :: o_this_firstTens :: o_this_moves :: o_this_kept :: o_this_isKept :: o_this_keptAt :: o_this_isWriting :: [])))] := hD
              refine lv_aload_n hx hb dX4_set_129 rfl (lv_at hl 0 rfl) ?_
              refine lv_iload_n hx hb dX4_set_130 rfl (lv_at hl 1 rfl) ?_
              refine lv_iconst (v := 1) hx hb dX4_set_131 (by decide) ?_
              have J143 : ∀ (s1_143 : Int32) (x5_143 : Int32) (v_weight_143 : Int32) (v_hole_143 : Int32) (v_held_143 : Int32) (v_law_143 : Int32) (H : Heap) (locs : List Loc) (ls : Array Slot), fX4_set_j143 x1 x2 v_weight_143 v_held_143 v_law_143 x5_143 s1_143 = some (r0, w_weight, w_hole, w_held, w_law) → va_P D vwCl [(a_this, .inr (4, (.int v_weight_143 :: .int v_hole_143 :: .int v_held_143 :: .int v_law_143 :: o_this_suits :: o_this_plaintiff :: o_this_defendant :: o_this_worth :: o_this_winner :: o_this_order :: o_this_sightWeight :: o_this_sightMany :: o_this_sights :: o_this_pad :: o_this_padMany :: o_this_part :: o_this_digits :: o_this_isNought :: o_this_done :: o_this_by :: o_this_extra :: o_this_waiting :: o_this_floats :: o_this_decided :: o_this_sunk :: o_this_has :: o_this_bestOrder :: o_this_wins :: o_this_firstTens :: o_this_moves :: o_this_kept :: o_this_isKept :: o_this_keptAt :: o_this_isWriting :: [])))] H → va_D A [(a_this, .inr (4, (.int v_weight_143 :: .int v_hole_143 :: .int v_held_143 :: .int v_law_143 :: o_this_suits :: o_this_plaintiff :: o_this_defendant :: o_this_worth :: o_this_winner :: o_this_order :: o_this_sightWeight :: o_this_sightMany :: o_this_sights :: o_this_pad :: o_this_padMany :: o_this_part :: o_this_digits :: o_this_isNought :: o_this_done :: o_this_by :: o_this_extra :: o_this_waiting :: o_this_floats :: o_this_decided :: o_this_sunk :: o_this_has :: o_this_bestOrder :: o_this_wins :: o_this_firstTens :: o_this_moves :: o_this_kept :: o_this_isKept :: o_this_keptAt :: o_this_isWriting :: [])))] → va_S A s.heap H locs → lv_has ls 6 [(0, .ref a_this), (1, .int x1), (2, .int x2), (5, .int x5_143)] → W p l e (headSpec wsX4_set { frames := 1, cells := 0, slots := 0, locals := 25 }).room s m args below meth c H locs 0 0 Q (F0 m 143 ls [.int s1_143, .ref a_this]) := by
                intro s1_143 x5_143 v_weight_143 v_hole_143 v_held_143 v_law_143 H locs ls hf hP hD hS hl
                unfold fX4_set_j143 at hf
                refine va_put (D := D) (ci := 4) (v := .int s1_143) (ty := .int) (C := RX4) (T := TX4) (N := 34) hx hb hts iX4 tyX4 tyX4_ok nmX4 hown hK.1 hP hD hS 0 rfl rfl 1 (by decide) l67 (fun _ h9 => h9) rfl (by decide +kernel) rfl rfl (Nat.le_of_ble_eq_true rfl) dX4_set_143 (fun H locs hP hD hS => ?_)
                have hP : va_P D vwCl [(a_this, .inr (4, (.int v_weight_143 :: .int s1_143 :: .int v_held_143 :: .int v_law_143 :: o_this_suits :: o_this_plaintiff :: o_this_defendant :: o_this_worth :: o_this_winner :: o_this_order :: o_this_sightWeight :: o_this_sightMany :: o_this_sights :: o_this_pad :: o_this_padMany :: o_this_part :: o_this_digits :: o_this_isNought :: o_this_done :: o_this_by :: o_this_extra :: o_this_waiting :: o_this_floats :: o_this_decided :: o_this_sunk :: o_this_has :: o_this_bestOrder :: o_this_wins :: o_this_firstTens :: o_this_moves :: o_this_kept :: o_this_isKept :: o_this_keptAt :: o_this_isWriting :: [])))] H := hP
                have hD : va_D A [(a_this, .inr (4, (.int v_weight_143 :: .int s1_143 :: .int v_held_143 :: .int v_law_143 :: o_this_suits :: o_this_plaintiff :: o_this_defendant :: o_this_worth :: o_this_winner :: o_this_order :: o_this_sightWeight :: o_this_sightMany :: o_this_sights :: o_this_pad :: o_this_padMany :: o_this_part :: o_this_digits :: o_this_isNought :: o_this_done :: o_this_by :: o_this_extra :: o_this_waiting :: o_this_floats :: o_this_decided :: o_this_sunk :: o_this_has :: o_this_bestOrder :: o_this_wins :: o_this_firstTens :: o_this_moves :: o_this_kept :: o_this_isKept :: o_this_keptAt :: o_this_isWriting :: [])))] := hD
                refine lv_aload_n hx hb dX4_set_146 rfl (lv_at hl 0 rfl) ?_
                refine lv_iload_n hx hb dX4_set_147 rfl (lv_at hl 1 rfl) ?_
                refine lv_iconst (v := 2) hx hb dX4_set_148 (by decide) ?_
                have J160 : ∀ (s1_160 : Int32) (x5_160 : Int32) (v_weight_160 : Int32) (v_hole_160 : Int32) (v_held_160 : Int32) (v_law_160 : Int32) (H : Heap) (locs : List Loc) (ls : Array Slot), fX4_set_j160 x1 x2 v_weight_160 v_hole_160 v_law_160 x5_160 s1_160 = some (r0, w_weight, w_hole, w_held, w_law) → va_P D vwCl [(a_this, .inr (4, (.int v_weight_160 :: .int v_hole_160 :: .int v_held_160 :: .int v_law_160 :: o_this_suits :: o_this_plaintiff :: o_this_defendant :: o_this_worth :: o_this_winner :: o_this_order :: o_this_sightWeight :: o_this_sightMany :: o_this_sights :: o_this_pad :: o_this_padMany :: o_this_part :: o_this_digits :: o_this_isNought :: o_this_done :: o_this_by :: o_this_extra :: o_this_waiting :: o_this_floats :: o_this_decided :: o_this_sunk :: o_this_has :: o_this_bestOrder :: o_this_wins :: o_this_firstTens :: o_this_moves :: o_this_kept :: o_this_isKept :: o_this_keptAt :: o_this_isWriting :: [])))] H → va_D A [(a_this, .inr (4, (.int v_weight_160 :: .int v_hole_160 :: .int v_held_160 :: .int v_law_160 :: o_this_suits :: o_this_plaintiff :: o_this_defendant :: o_this_worth :: o_this_winner :: o_this_order :: o_this_sightWeight :: o_this_sightMany :: o_this_sights :: o_this_pad :: o_this_padMany :: o_this_part :: o_this_digits :: o_this_isNought :: o_this_done :: o_this_by :: o_this_extra :: o_this_waiting :: o_this_floats :: o_this_decided :: o_this_sunk :: o_this_has :: o_this_bestOrder :: o_this_wins :: o_this_firstTens :: o_this_moves :: o_this_kept :: o_this_isKept :: o_this_keptAt :: o_this_isWriting :: [])))] → va_S A s.heap H locs → lv_has ls 6 [(0, .ref a_this), (1, .int x1), (2, .int x2), (5, .int x5_160)] → W p l e (headSpec wsX4_set { frames := 1, cells := 0, slots := 0, locals := 25 }).room s m args below meth c H locs 0 0 Q (F0 m 160 ls [.int s1_160, .ref a_this]) := by
                  intro s1_160 x5_160 v_weight_160 v_hole_160 v_held_160 v_law_160 H locs ls hf hP hD hS hl
                  unfold fX4_set_j160 at hf
                  refine va_put (D := D) (ci := 4) (v := .int s1_160) (ty := .int) (C := RX4) (T := TX4) (N := 34) hx hb hts iX4 tyX4 tyX4_ok nmX4 hown hK.1 hP hD hS 0 rfl rfl 2 (by decide) l76 (fun _ h9 => h9) rfl (by decide +kernel) rfl rfl (Nat.le_of_ble_eq_true rfl) dX4_set_160 (fun H locs hP hD hS => ?_)
                  have hP : va_P D vwCl [(a_this, .inr (4, (.int v_weight_160 :: .int v_hole_160 :: .int s1_160 :: .int v_law_160 :: o_this_suits :: o_this_plaintiff :: o_this_defendant :: o_this_worth :: o_this_winner :: o_this_order :: o_this_sightWeight :: o_this_sightMany :: o_this_sights :: o_this_pad :: o_this_padMany :: o_this_part :: o_this_digits :: o_this_isNought :: o_this_done :: o_this_by :: o_this_extra :: o_this_waiting :: o_this_floats :: o_this_decided :: o_this_sunk :: o_this_has :: o_this_bestOrder :: o_this_wins :: o_this_firstTens :: o_this_moves :: o_this_kept :: o_this_isKept :: o_this_keptAt :: o_this_isWriting :: [])))] H := hP
                  have hD : va_D A [(a_this, .inr (4, (.int v_weight_160 :: .int v_hole_160 :: .int s1_160 :: .int v_law_160 :: o_this_suits :: o_this_plaintiff :: o_this_defendant :: o_this_worth :: o_this_winner :: o_this_order :: o_this_sightWeight :: o_this_sightMany :: o_this_sights :: o_this_pad :: o_this_padMany :: o_this_part :: o_this_digits :: o_this_isNought :: o_this_done :: o_this_by :: o_this_extra :: o_this_waiting :: o_this_floats :: o_this_decided :: o_this_sunk :: o_this_has :: o_this_bestOrder :: o_this_wins :: o_this_firstTens :: o_this_moves :: o_this_kept :: o_this_isKept :: o_this_keptAt :: o_this_isWriting :: [])))] := hD
                  refine lv_aload_n hx hb dX4_set_163 rfl (lv_at hl 0 rfl) ?_
                  refine lv_iload_n hx hb dX4_set_164 rfl (lv_at hl 1 rfl) ?_
                  refine lv_iconst (v := 3) hx hb dX4_set_165 (by decide) ?_
                  have J177 : ∀ (s1_177 : Int32) (x5_177 : Int32) (v_weight_177 : Int32) (v_hole_177 : Int32) (v_held_177 : Int32) (v_law_177 : Int32) (H : Heap) (locs : List Loc) (ls : Array Slot), fX4_set_j177 v_weight_177 v_hole_177 v_held_177 x5_177 s1_177 = some (r0, w_weight, w_hole, w_held, w_law) → va_P D vwCl [(a_this, .inr (4, (.int v_weight_177 :: .int v_hole_177 :: .int v_held_177 :: .int v_law_177 :: o_this_suits :: o_this_plaintiff :: o_this_defendant :: o_this_worth :: o_this_winner :: o_this_order :: o_this_sightWeight :: o_this_sightMany :: o_this_sights :: o_this_pad :: o_this_padMany :: o_this_part :: o_this_digits :: o_this_isNought :: o_this_done :: o_this_by :: o_this_extra :: o_this_waiting :: o_this_floats :: o_this_decided :: o_this_sunk :: o_this_has :: o_this_bestOrder :: o_this_wins :: o_this_firstTens :: o_this_moves :: o_this_kept :: o_this_isKept :: o_this_keptAt :: o_this_isWriting :: [])))] H → va_D A [(a_this, .inr (4, (.int v_weight_177 :: .int v_hole_177 :: .int v_held_177 :: .int v_law_177 :: o_this_suits :: o_this_plaintiff :: o_this_defendant :: o_this_worth :: o_this_winner :: o_this_order :: o_this_sightWeight :: o_this_sightMany :: o_this_sights :: o_this_pad :: o_this_padMany :: o_this_part :: o_this_digits :: o_this_isNought :: o_this_done :: o_this_by :: o_this_extra :: o_this_waiting :: o_this_floats :: o_this_decided :: o_this_sunk :: o_this_has :: o_this_bestOrder :: o_this_wins :: o_this_firstTens :: o_this_moves :: o_this_kept :: o_this_isKept :: o_this_keptAt :: o_this_isWriting :: [])))] → va_S A s.heap H locs → lv_has ls 6 [(5, .int x5_177)] → W p l e (headSpec wsX4_set { frames := 1, cells := 0, slots := 0, locals := 25 }).room s m args below meth c H locs 0 0 Q (F0 m 177 ls [.int s1_177, .ref a_this]) := by
                    intro s1_177 x5_177 v_weight_177 v_hole_177 v_held_177 v_law_177 H locs ls hf hP hD hS hl
                    unfold fX4_set_j177 at hf
                    refine va_put (D := D) (ci := 4) (v := .int s1_177) (ty := .int) (C := RX4) (T := TX4) (N := 34) hx hb hts iX4 tyX4 tyX4_ok nmX4 hown hK.1 hP hD hS 0 rfl rfl 3 (by decide) l79 (fun _ h9 => h9) rfl (by decide +kernel) rfl rfl (Nat.le_of_ble_eq_true rfl) dX4_set_177 (fun H locs hP hD hS => ?_)
                    have hP : va_P D vwCl [(a_this, .inr (4, (.int v_weight_177 :: .int v_hole_177 :: .int v_held_177 :: .int s1_177 :: o_this_suits :: o_this_plaintiff :: o_this_defendant :: o_this_worth :: o_this_winner :: o_this_order :: o_this_sightWeight :: o_this_sightMany :: o_this_sights :: o_this_pad :: o_this_padMany :: o_this_part :: o_this_digits :: o_this_isNought :: o_this_done :: o_this_by :: o_this_extra :: o_this_waiting :: o_this_floats :: o_this_decided :: o_this_sunk :: o_this_has :: o_this_bestOrder :: o_this_wins :: o_this_firstTens :: o_this_moves :: o_this_kept :: o_this_isKept :: o_this_keptAt :: o_this_isWriting :: [])))] H := hP
                    have hD : va_D A [(a_this, .inr (4, (.int v_weight_177 :: .int v_hole_177 :: .int v_held_177 :: .int s1_177 :: o_this_suits :: o_this_plaintiff :: o_this_defendant :: o_this_worth :: o_this_winner :: o_this_order :: o_this_sightWeight :: o_this_sightMany :: o_this_sights :: o_this_pad :: o_this_padMany :: o_this_part :: o_this_digits :: o_this_isNought :: o_this_done :: o_this_by :: o_this_extra :: o_this_waiting :: o_this_floats :: o_this_decided :: o_this_sunk :: o_this_has :: o_this_bestOrder :: o_this_wins :: o_this_firstTens :: o_this_moves :: o_this_kept :: o_this_isKept :: o_this_keptAt :: o_this_isWriting :: [])))] := hD
                    refine lv_iload hx hb dX4_set_180 (lv_at hl 0 rfl) ?_
                    cases hf
                    subst hQ
                    exact k_ri hx hb hr hlocks hP hD hS dX4_set_182
                  refine lv_icmp_ne (tgt := 173) hx hb dX4_set_166 (by decide) (fun c7 => ?_) (fun c7 => ?_)
                  · have hf := (if_neg c7).symm.trans hf
                    refine lv_aload_n hx hb dX4_set_173 rfl (lv_at hl 0 rfl) ?_
                    refine va_get (D := D) (ci := 4) (v := .int v_law_160) (C := RX4) (T := TX4) (N := 34) hx hb hts iX4 hown hK.1 hP 0 rfl rfl 3 (by decide) l79 (fun _ h9 => h9) rfl dX4_set_174 ?_
                    exact J177 v_law_160 x5_160 v_weight_160 v_hole_160 s1_160 v_law_160 _ _ _ hf hP hD hS (lv_sub hl [3] rfl)
                  · have hf := (if_pos c7).symm.trans hf
                    refine lv_iload_n hx hb dX4_set_169 rfl (lv_at hl 2 rfl) ?_
                    refine lv_goto (tgt := 177) hx hb dX4_set_170 (by decide) ?_
                    exact J177 x2 x5_160 v_weight_160 v_hole_160 s1_160 v_law_160 _ _ _ hf hP hD hS (lv_sub hl [3] rfl)
                refine lv_icmp_ne (tgt := 156) hx hb dX4_set_149 (by decide) (fun c8 => ?_) (fun c8 => ?_)
                · have hf := (if_neg c8).symm.trans hf
                  refine lv_aload_n hx hb dX4_set_156 rfl (lv_at hl 0 rfl) ?_
                  refine va_get (D := D) (ci := 4) (v := .int v_held_143) (C := RX4) (T := TX4) (N := 34) hx hb hts iX4 hown hK.1 hP 0 rfl rfl 2 (by decide) l76 (fun _ h9 => h9) rfl dX4_set_157 ?_
                  exact J160 v_held_143 x5_143 v_weight_143 s1_143 v_held_143 v_law_143 _ _ _ hf hP hD hS (lv_sub hl [0, 1, 2, 3] rfl)
                · have hf := (if_pos c8).symm.trans hf
                  refine lv_iload_n hx hb dX4_set_152 rfl (lv_at hl 2 rfl) ?_
                  refine lv_goto (tgt := 160) hx hb dX4_set_153 (by decide) ?_
                  exact J160 x2 x5_143 v_weight_143 s1_143 v_held_143 v_law_143 _ _ _ hf hP hD hS (lv_sub hl [0, 1, 2, 3] rfl)
              refine lv_icmp_ne (tgt := 139) hx hb dX4_set_132 (by decide) (fun c9 => ?_) (fun c9 => ?_)
              · have hf := (if_neg c9).symm.trans hf
                refine lv_aload_n hx hb dX4_set_139 rfl (lv_at hl 0 rfl) ?_
                refine va_get (D := D) (ci := 4) (v := .int v_hole_126) (C := RX4) (T := TX4) (N := 34) hx hb hts iX4 hown hK.1 hP 0 rfl rfl 1 (by decide) l67 (fun _ h9 => h9) rfl dX4_set_140 ?_
                exact J143 v_hole_126 x5_126 s1_126 v_hole_126 v_held_126 v_law_126 _ _ _ hf hP hD hS (lv_sub hl [0, 1, 2, 3] rfl)
              · have hf := (if_pos c9).symm.trans hf
                refine lv_iload_n hx hb dX4_set_135 rfl (lv_at hl 2 rfl) ?_
                refine lv_goto (tgt := 143) hx hb dX4_set_136 (by decide) ?_
                exact J143 x2 x5_126 s1_126 v_hole_126 v_held_126 v_law_126 _ _ _ hf hP hD hS (lv_sub hl [0, 1, 2, 3] rfl)
            refine lv_if_ne (tgt := 122) hx hb dX4_set_115 (by decide) (fun c10 => ?_) (fun c10 => ?_)
            · have hf := (if_neg c10).symm.trans hf
              refine lv_aload_n hx hb dX4_set_122 rfl (lv_at hl 1 rfl) ?_
              refine va_get (D := D) (ci := 4) (v := .int v_weight_111) (C := RX4) (T := TX4) (N := 34) hx hb hts iX4 hown hK.1 hP 0 rfl rfl 0 (by decide) l63 (fun _ h9 => h9) rfl dX4_set_123 ?_
              exact J126 v_weight_111 s0_111 v_weight_111 v_hole_111 v_held_111 v_law_111 _ _ _ hf hP hD hS (lv_sub hl [1, 2, 3, 0] rfl)
            · have hf := (if_pos c10).symm.trans hf
              refine lv_iload_n hx hb dX4_set_118 rfl (lv_at hl 3 rfl) ?_
              refine lv_goto (tgt := 126) hx hb dX4_set_119 (by decide) ?_
              exact J126 x2 s0_111 v_weight_111 v_hole_111 v_held_111 v_law_111 _ _ _ hf hP hD hS (lv_sub hl [1, 2, 3, 0] rfl)
          refine lv_if_ne (tgt := 83) hx hb dX4_set_73 (by decide) (fun c11 => ?_) (fun c11 => ?_)
          · have hf := (if_neg c11).symm.trans hf
            refine lv_iload_n hx hb dX4_set_83 rfl (lv_at hl 2 rfl) ?_
            refine lv_iconst (v := 1) hx hb dX4_set_84 (by decide) ?_
            refine lv_icmp_ne (tgt := 95) hx hb dX4_set_85 (by decide) (fun c12 => ?_) (fun c12 => ?_)
            · have hf := (if_neg c12).symm.trans hf
              refine lv_iload_n hx hb dX4_set_95 rfl (lv_at hl 2 rfl) ?_
              refine lv_iconst (v := 2) hx hb dX4_set_96 (by decide) ?_
              refine lv_icmp_ne (tgt := 107) hx hb dX4_set_97 (by decide) (fun c13 => ?_) (fun c13 => ?_)
              · have hf := (if_neg c13).symm.trans hf
                refine lv_aload_n hx hb dX4_set_107 rfl (lv_at hl 1 rfl) ?_
                refine va_get (D := D) (ci := 4) (v := .int v_law_42) (C := RX4) (T := TX4) (N := 34) hx hb hts iX4 hown hK.1 hP 0 rfl rfl 3 (by decide) l79 (fun _ h9 => h9) rfl dX4_set_108 ?_
                exact J111 v_law_42 v_weight_42 v_hole_42 v_held_42 v_law_42 _ _ _ hf hP hD hS (lv_sub hl [1, 2, 3] rfl)
              · have hf := (if_pos c13).symm.trans hf
                refine lv_aload_n hx hb dX4_set_100 rfl (lv_at hl 1 rfl) ?_
                refine va_get (D := D) (ci := 4) (v := .int v_held_42) (C := RX4) (T := TX4) (N := 34) hx hb hts iX4 hown hK.1 hP 0 rfl rfl 2 (by decide) l76 (fun _ h9 => h9) rfl dX4_set_101 ?_
                refine lv_goto (tgt := 111) hx hb dX4_set_104 (by decide) ?_
                exact J111 v_held_42 v_weight_42 v_hole_42 v_held_42 v_law_42 _ _ _ hf hP hD hS (lv_sub hl [1, 2, 3] rfl)
            · have hf := (if_pos c12).symm.trans hf
              refine lv_aload_n hx hb dX4_set_88 rfl (lv_at hl 1 rfl) ?_
              refine va_get (D := D) (ci := 4) (v := .int v_hole_42) (C := RX4) (T := TX4) (N := 34) hx hb hts iX4 hown hK.1 hP 0 rfl rfl 1 (by decide) l67 (fun _ h9 => h9) rfl dX4_set_89 ?_
              refine lv_goto (tgt := 111) hx hb dX4_set_92 (by decide) ?_
              exact J111 v_hole_42 v_weight_42 v_hole_42 v_held_42 v_law_42 _ _ _ hf hP hD hS (lv_sub hl [1, 2, 3] rfl)
          · have hf := (if_pos c11).symm.trans hf
            refine lv_aload_n hx hb dX4_set_76 rfl (lv_at hl 1 rfl) ?_
            refine va_get (D := D) (ci := 4) (v := .int v_weight_42) (C := RX4) (T := TX4) (N := 34) hx hb hts iX4 hown hK.1 hP 0 rfl rfl 0 (by decide) l63 (fun _ h9 => h9) rfl dX4_set_77 ?_
            refine lv_goto (tgt := 111) hx hb dX4_set_80 (by decide) ?_
            exact J111 v_weight_42 v_weight_42 v_hole_42 v_held_42 v_law_42 _ _ _ hf hP hD hS (lv_sub hl [1, 2, 3] rfl)
        · have hf := (if_pos c6).symm.trans hf
          refine lv_bipush (v := (-2)) hx hb dX4_set_69 (by decide) ?_
          cases hf
          subst hQ
          exact k_ri hx hb hr hlocks hP hD hS dX4_set_71
    refine lv_if_ne (tgt := 20) hx hb dX4_set_12 (by decide) (fun c14 => ?_) (fun c14 => ?_)
    · have hf := (if_neg c14).symm.trans hf
      refine lv_iload_n hx hb dX4_set_20 rfl (lv_at hl 2 rfl) ?_
      refine lv_iconst (v := 1) hx hb dX4_set_21 (by decide) ?_
      refine lv_icmp_ne (tgt := 30) hx hb dX4_set_22 (by decide) (fun c15 => ?_) (fun c15 => ?_)
      · have hf := (if_neg c15).symm.trans hf
        refine lv_iload_n hx hb dX4_set_30 rfl (lv_at hl 2 rfl) ?_
        refine lv_iconst (v := 2) hx hb dX4_set_31 (by decide) ?_
        refine lv_icmp_ne (tgt := 41) hx hb dX4_set_32 (by decide) (fun c16 => ?_) (fun c16 => ?_)
        · have hf := (if_neg c16).symm.trans hf
          refine lv_iconst (v := 1) hx hb dX4_set_41 (by decide) ?_
          exact J42 1 s0_10 v_weight_10 v_hole_10 v_held_10 v_law_10 _ _ _ hf hP hD hS (lv_sub hl [1, 2, 3, 0] rfl)
        · have hf := (if_pos c16).symm.trans hf
          refine lv_sipush (v := 999) hx hb dX4_set_35 (by decide) ?_
          refine lv_goto (tgt := 42) hx hb dX4_set_38 (by decide) ?_
          exact J42 999 s0_10 v_weight_10 v_hole_10 v_held_10 v_law_10 _ _ _ hf hP hD hS (lv_sub hl [1, 2, 3, 0] rfl)
      · have hf := (if_pos c15).symm.trans hf
        refine lv_bipush (v := 9) hx hb dX4_set_25 (by decide) ?_
        refine lv_goto (tgt := 42) hx hb dX4_set_27 (by decide) ?_
        exact J42 9 s0_10 v_weight_10 v_hole_10 v_held_10 v_law_10 _ _ _ hf hP hD hS (lv_sub hl [1, 2, 3, 0] rfl)
    · have hf := (if_pos c14).symm.trans hf
      refine lv_bipush (v := 99) hx hb dX4_set_15 (by decide) ?_
      refine lv_goto (tgt := 42) hx hb dX4_set_17 (by decide) ?_
      exact J42 99 s0_10 v_weight_10 v_hole_10 v_held_10 v_law_10 _ _ _ hf hP hD hS (lv_sub hl [1, 2, 3, 0] rfl)
  refine lv_icmp_ge (tgt := 9) hx hb dX4_set_2 (by decide) (fun c17 => ?_) (fun c17 => ?_)
  · have hf := (if_pos c17).symm.trans hf
    refine lv_iconst (v := 0) hx hb dX4_set_9 (by decide) ?_
    exact J10 0 v_weight v_hole v_held v_law _ _ _ hf hP hD hS (lv_sub hl [0, 1, 2] rfl)
  · have hf := (if_neg c17).symm.trans hf
    refine lv_iconst (v := 1) hx hb dX4_set_5 (by decide) ?_
    refine lv_goto (tgt := 10) hx hb dX4_set_6 (by decide) ?_
    exact J10 1 v_weight v_hole v_held v_law _ _ _ hf hP hD hS (lv_sub hl [0, 1, 2] rfl)

set_option maxHeartbeats 4000000 in
set_option maxRecDepth 100000 in
theorem tX4_say (l : Launch) (D : va_G) (cI cJ cZ cB : ClassId) (a_this : Nat) (a_pad : Nat) (o_this_weight : Value) (o_this_hole : Value) (o_this_held : Value) (o_this_law : Value) (o_this_suits : Value) (o_this_plaintiff : Value) (o_this_defendant : Value) (o_this_worth : Value) (o_this_winner : Value) (o_this_order : Value) (o_this_sightWeight : Value) (o_this_sightMany : Value) (o_this_sights : Value) (o_this_part : Value) (o_this_digits : Value) (o_this_isNought : Value) (o_this_done : Value) (o_this_by : Value) (o_this_extra : Value) (o_this_waiting : Value) (o_this_floats : Value) (o_this_decided : Value) (o_this_sunk : Value) (o_this_has : Value) (o_this_bestOrder : Value) (o_this_wins : Value) (o_this_firstTens : Value) (o_this_moves : Value) (o_this_kept : Value) (o_this_isKept : Value) (o_this_keptAt : Value) (o_this_isWriting : Value) (x1 : Int32) (v_padMany : Int32) (v_pad : Nat → Int32) (r0 : Int32) (w_padMany : Int32) (w_pad : Nat → Int32) (hf : fX4_say x1 v_padMany v_pad = some (r0, w_padMany, w_pad)) : MW l yX4_say wsX4_say { frames := 1, cells := 0, slots := 0, locals := 25 } D cI cJ cZ cB [(a_this, .inr (4, (o_this_weight :: o_this_hole :: o_this_held :: o_this_law :: o_this_suits :: o_this_plaintiff :: o_this_defendant :: o_this_worth :: o_this_winner :: o_this_order :: o_this_sightWeight :: o_this_sightMany :: o_this_sights :: .ref a_pad :: .int v_padMany :: o_this_part :: o_this_digits :: o_this_isNought :: o_this_done :: o_this_by :: o_this_extra :: o_this_waiting :: o_this_floats :: o_this_decided :: o_this_sunk :: o_this_has :: o_this_bestOrder :: o_this_wins :: o_this_firstTens :: o_this_moves :: o_this_kept :: o_this_isKept :: o_this_keptAt :: o_this_isWriting :: []))), (a_pad, .inl (cI, 60, .inl v_pad))] [.ref a_this, .int x1] (QWi D r0 [(a_this, .inr (4, (o_this_weight :: o_this_hole :: o_this_held :: o_this_law :: o_this_suits :: o_this_plaintiff :: o_this_defendant :: o_this_worth :: o_this_winner :: o_this_order :: o_this_sightWeight :: o_this_sightMany :: o_this_sights :: .ref a_pad :: .int w_padMany :: o_this_part :: o_this_digits :: o_this_isNought :: o_this_done :: o_this_by :: o_this_extra :: o_this_waiting :: o_this_floats :: o_this_decided :: o_this_sunk :: o_this_has :: o_this_bestOrder :: o_this_wins :: o_this_firstTens :: o_this_moves :: o_this_kept :: o_this_isKept :: o_this_keptAt :: o_this_isWriting :: []))), (a_pad, .inl (cI, 60, .inl w_pad))]) := by
  refine k_body (cc := cX4_say) (maxL := 2) (ret := (some .int)) (by decide) rfl (Nat.le_of_ble_eq_true rfl) ?_
  intro p e s m args below meth c hx hb hr hml hts hown hlocks hname hK A hA hP hD hS ls hl
  have hl : lv_has ls 2 [(0, .ref a_this), (1, .int x1)] := hl
  generalize hQ : MQ below ((QWi D r0 [(a_this, .inr (4, (o_this_weight :: o_this_hole :: o_this_held :: o_this_law :: o_this_suits :: o_this_plaintiff :: o_this_defendant :: o_this_worth :: o_this_winner :: o_this_order :: o_this_sightWeight :: o_this_sightMany :: o_this_sights :: .ref a_pad :: .int w_padMany :: o_this_part :: o_this_digits :: o_this_isNought :: o_this_done :: o_this_by :: o_this_extra :: o_this_waiting :: o_this_floats :: o_this_decided :: o_this_sunk :: o_this_has :: o_this_bestOrder :: o_this_wins :: o_this_firstTens :: o_this_moves :: o_this_kept :: o_this_isKept :: o_this_keptAt :: o_this_isWriting :: []))), (a_pad, .inl (cI, 60, .inl w_pad))]) A) args s 0 0 A = Q
  obtain ⟨H, hH⟩ : ∃ H, H = s.heap := ⟨_, rfl⟩
  obtain ⟨locs, hlo⟩ : ∃ z : List Loc, z = [] := ⟨_, rfl⟩
  have hP : va_P D vwCl [(a_this, .inr (4, (o_this_weight :: o_this_hole :: o_this_held :: o_this_law :: o_this_suits :: o_this_plaintiff :: o_this_defendant :: o_this_worth :: o_this_winner :: o_this_order :: o_this_sightWeight :: o_this_sightMany :: o_this_sights :: .ref a_pad :: .int v_padMany :: o_this_part :: o_this_digits :: o_this_isNought :: o_this_done :: o_this_by :: o_this_extra :: o_this_waiting :: o_this_floats :: o_this_decided :: o_this_sunk :: o_this_has :: o_this_bestOrder :: o_this_wins :: o_this_firstTens :: o_this_moves :: o_this_kept :: o_this_isKept :: o_this_keptAt :: o_this_isWriting :: []))), (a_pad, .inl (cI, 60, .inl v_pad))] H := by rw [hH]; exact hP
  have hS : va_S A s.heap H locs := by rw [hH, hlo]; exact hS
  suffices hg : W p l e (headSpec wsX4_say { frames := 1, cells := 0, slots := 0, locals := 25 }).room s m args below meth c H locs 0 0 Q (F0 m 0 ls []) by rw [hH, hlo] at hg; exact hg
  have l31 := hts (.fieldLink RX4 31 "CandleCourtModel" "pad" "[I") (by decide +kernel)
  have l86 := hts (.fieldLink RX4 86 "CandleCourtModel" "padMany" "I") (by decide +kernel)
  have iX4 : ∀ w ∈ wsX40, w ∈ wsX4_say := by decide +kernel
  unfold fX4_say at hf
  refine lv_iload_n hx hb dX4_say_0 rfl (lv_at hl 1 rfl) ?_
  refine lv_i2l (v := Int32.toInt64 x1) hx hb dX4_say_1 rfl ?_
  refine lv_ldc2 (own := RX4) (v := 33) hx hb hown (hts (.constantLong RX4 82 (33)) (by decide +kernel)) dX4_say_2 ?_
  refine lv_ldc2 (own := RX4) (v := 126) hx hb hown (hts (.constantLong RX4 84 (126)) (by decide +kernel)) dX4_say_5 ?_
  obtain ⟨r1, hc2, hf⟩ := bnd1_some hf
  refine k_ci (wc := []) (wr := [(a_this, .inr (4, (o_this_weight :: o_this_hole :: o_this_held :: o_this_law :: o_this_suits :: o_this_plaintiff :: o_this_defendant :: o_this_worth :: o_this_winner :: o_this_order :: o_this_sightWeight :: o_this_sightMany :: o_this_sights :: .ref a_pad :: .int v_padMany :: o_this_part :: o_this_digits :: o_this_isNought :: o_this_done :: o_this_by :: o_this_extra :: o_this_waiting :: o_this_floats :: o_this_decided :: o_this_sunk :: o_this_has :: o_this_bestOrder :: o_this_wins :: o_this_firstTens :: o_this_moves :: o_this_kept :: o_this_isKept :: o_this_keptAt :: o_this_isWriting :: []))), (a_pad, .inl (cI, 60, .inl v_pad))]) (w1 := []) (ws' := [(a_this, .inr (4, (o_this_weight :: o_this_hole :: o_this_held :: o_this_law :: o_this_suits :: o_this_plaintiff :: o_this_defendant :: o_this_worth :: o_this_winner :: o_this_order :: o_this_sightWeight :: o_this_sightMany :: o_this_sights :: .ref a_pad :: .int v_padMany :: o_this_part :: o_this_digits :: o_this_isNought :: o_this_done :: o_this_by :: o_this_extra :: o_this_waiting :: o_this_floats :: o_this_decided :: o_this_sunk :: o_this_has :: o_this_bestOrder :: o_this_wins :: o_this_firstTens :: o_this_moves :: o_this_kept :: o_this_isKept :: o_this_keptAt :: o_this_isWriting :: []))), (a_pad, .inl (cI, 60, .inl v_pad))]) (va_runS (As := [.long (Int32.toInt64 x1), .long 33, .long 126]) (rest := []) ⟨hx, hb, hml, hown, hts⟩ (tX4_in l D cI cJ cZ cB (Int32.toInt64 x1) 33 126 r1 hc2 H.size) (va_cwS 3 hts gX4_say_X4_in rfl rfl rfl (by decide +kernel) ⟨Nat.le_of_ble_eq_true rfl, Nat.le_of_ble_eq_true rfl⟩) (k_preS (is := []) hK hP hD rfl rfl) rfl rfl hl.1 rfl (lv_room (Nat.le_of_ble_eq_true rfl)) dX4_say_8 ⟨Nat.zero_le _, Nat.zero_le _⟩) hP hD hS hA [] [0, 1] [0, 1] rfl rfl rfl (by decide) rfl rfl (fun H locs hP hD hS => ?_)
  refine lv_if_ne (tgt := 17) hx hb dX4_say_11 (by decide) (fun c3 => ?_) (fun c3 => ?_)
  · have hf := (if_neg c3).symm.trans hf
    refine lv_aload_n hx hb dX4_say_17 rfl (lv_at hl 0 rfl) ?_
    refine va_get (D := D) (ci := 4) (v := .int v_padMany) (C := RX4) (T := TX4) (N := 34) hx hb hts iX4 hown hK.1 hP 0 rfl rfl 14 (by decide) l86 (fun _ h9 => h9) rfl dX4_say_18 ?_
    refine lv_bipush (v := 60) hx hb dX4_say_21 (by decide) ?_
    refine lv_icmp_ne (tgt := 29) hx hb dX4_say_23 (by decide) (fun c4 => ?_) (fun c4 => ?_)
    · have hf := (if_neg c4).symm.trans hf
      refine lv_aload_n hx hb dX4_say_29 rfl (lv_at hl 0 rfl) ?_
      refine va_get (D := D) (ci := 4) (v := .ref a_pad) (C := RX4) (T := TX4) (N := 34) hx hb hts iX4 hown hK.1 hP 0 rfl rfl 13 (by decide) l31 (fun _ h9 => h9) rfl dX4_say_30 ?_
      refine lv_aload_n hx hb dX4_say_33 rfl (lv_at hl 0 rfl) ?_
      refine va_get (D := D) (ci := 4) (v := .int v_padMany) (C := RX4) (T := TX4) (N := 34) hx hb hts iX4 hown hK.1 hP 0 rfl rfl 14 (by decide) l86 (fun _ h9 => h9) rfl dX4_say_34 ?_
      refine lv_iload_n hx hb dX4_say_37 rfl (lv_at hl 1 rfl) ?_
      obtain ⟨h5, hf⟩ := gd_some hf
      refine va_iast (D := D) (i := v_padMany) hx hb hK.1 hP hD hS 1 0 rfl rfl h5 dX4_say_38 (fun H locs hP hD hS => ?_)
      have hP : va_P D vwCl [(a_this, .inr (4, (o_this_weight :: o_this_hole :: o_this_held :: o_this_law :: o_this_suits :: o_this_plaintiff :: o_this_defendant :: o_this_worth :: o_this_winner :: o_this_order :: o_this_sightWeight :: o_this_sightMany :: o_this_sights :: .ref a_pad :: .int v_padMany :: o_this_part :: o_this_digits :: o_this_isNought :: o_this_done :: o_this_by :: o_this_extra :: o_this_waiting :: o_this_floats :: o_this_decided :: o_this_sunk :: o_this_has :: o_this_bestOrder :: o_this_wins :: o_this_firstTens :: o_this_moves :: o_this_kept :: o_this_isKept :: o_this_keptAt :: o_this_isWriting :: []))), (a_pad, .inl (cI, 60, .inl (upd v_pad (Int32.toNatClampNeg v_padMany) x1)))] H := hP
      have hD : va_D A [(a_this, .inr (4, (o_this_weight :: o_this_hole :: o_this_held :: o_this_law :: o_this_suits :: o_this_plaintiff :: o_this_defendant :: o_this_worth :: o_this_winner :: o_this_order :: o_this_sightWeight :: o_this_sightMany :: o_this_sights :: .ref a_pad :: .int v_padMany :: o_this_part :: o_this_digits :: o_this_isNought :: o_this_done :: o_this_by :: o_this_extra :: o_this_waiting :: o_this_floats :: o_this_decided :: o_this_sunk :: o_this_has :: o_this_bestOrder :: o_this_wins :: o_this_firstTens :: o_this_moves :: o_this_kept :: o_this_isKept :: o_this_keptAt :: o_this_isWriting :: []))), (a_pad, .inl (cI, 60, .inl (upd v_pad (Int32.toNatClampNeg v_padMany) x1)))] := hD
      refine lv_aload_n hx hb dX4_say_39 rfl (lv_at hl 0 rfl) ?_
      refine lv_dup hx hb dX4_say_40 rfl ?_
      refine va_get (D := D) (ci := 4) (v := .int v_padMany) (C := RX4) (T := TX4) (N := 34) hx hb hts iX4 hown hK.1 hP 0 rfl rfl 14 (by decide) l86 (fun _ h9 => h9) rfl dX4_say_41 ?_
      refine lv_iconst (v := 1) hx hb dX4_say_44 (by decide) ?_
      refine lv_iadd hx hb dX4_say_45 ?_
      refine va_put (D := D) (ci := 4) (v := .int (v_padMany + 1)) (ty := .int) (C := RX4) (T := TX4) (N := 34) hx hb hts iX4 tyX4 tyX4_ok nmX4 hown hK.1 hP hD hS 0 rfl rfl 14 (by decide) l86 (fun _ h9 => h9) rfl (by decide +kernel) rfl rfl (Nat.le_of_ble_eq_true rfl) dX4_say_46 (fun H locs hP hD hS => ?_)
      have hP : va_P D vwCl [(a_this, .inr (4, (o_this_weight :: o_this_hole :: o_this_held :: o_this_law :: o_this_suits :: o_this_plaintiff :: o_this_defendant :: o_this_worth :: o_this_winner :: o_this_order :: o_this_sightWeight :: o_this_sightMany :: o_this_sights :: .ref a_pad :: .int (v_padMany + 1) :: o_this_part :: o_this_digits :: o_this_isNought :: o_this_done :: o_this_by :: o_this_extra :: o_this_waiting :: o_this_floats :: o_this_decided :: o_this_sunk :: o_this_has :: o_this_bestOrder :: o_this_wins :: o_this_firstTens :: o_this_moves :: o_this_kept :: o_this_isKept :: o_this_keptAt :: o_this_isWriting :: []))), (a_pad, .inl (cI, 60, .inl (upd v_pad (Int32.toNatClampNeg v_padMany) x1)))] H := hP
      have hD : va_D A [(a_this, .inr (4, (o_this_weight :: o_this_hole :: o_this_held :: o_this_law :: o_this_suits :: o_this_plaintiff :: o_this_defendant :: o_this_worth :: o_this_winner :: o_this_order :: o_this_sightWeight :: o_this_sightMany :: o_this_sights :: .ref a_pad :: .int (v_padMany + 1) :: o_this_part :: o_this_digits :: o_this_isNought :: o_this_done :: o_this_by :: o_this_extra :: o_this_waiting :: o_this_floats :: o_this_decided :: o_this_sunk :: o_this_has :: o_this_bestOrder :: o_this_wins :: o_this_firstTens :: o_this_moves :: o_this_kept :: o_this_isKept :: o_this_keptAt :: o_this_isWriting :: []))), (a_pad, .inl (cI, 60, .inl (upd v_pad (Int32.toNatClampNeg v_padMany) x1)))] := hD
      refine lv_aload_n hx hb dX4_say_49 rfl (lv_at hl 0 rfl) ?_
      refine va_get (D := D) (ci := 4) (v := .int (v_padMany + 1)) (C := RX4) (T := TX4) (N := 34) hx hb hts iX4 hown hK.1 hP 0 rfl rfl 14 (by decide) l86 (fun _ h9 => h9) rfl dX4_say_50 ?_
      cases hf
      subst hQ
      exact k_ri hx hb hr hlocks hP hD hS dX4_say_53
    · have hf := (if_pos c4).symm.trans hf
      refine lv_bipush (v := (-4)) hx hb dX4_say_26 (by decide) ?_
      cases hf
      subst hQ
      exact k_ri hx hb hr hlocks hP hD hS dX4_say_28
  · have hf := (if_pos c3).symm.trans hf
    refine lv_bipush (v := (-2)) hx hb dX4_say_14 (by decide) ?_
    cases hf
    subst hQ
    exact k_ri hx hb hr hlocks hP hD hS dX4_say_16

set_option maxHeartbeats 4000000 in
set_option maxRecDepth 100000 in
theorem tX4_wipe (l : Launch) (D : va_G) (cI cJ cZ cB : ClassId) (a_this : Nat) (o_this_weight : Value) (o_this_hole : Value) (o_this_held : Value) (o_this_law : Value) (o_this_suits : Value) (o_this_plaintiff : Value) (o_this_defendant : Value) (o_this_worth : Value) (o_this_winner : Value) (o_this_order : Value) (o_this_sightWeight : Value) (o_this_sightMany : Value) (o_this_sights : Value) (o_this_pad : Value) (o_this_part : Value) (o_this_digits : Value) (o_this_isNought : Value) (o_this_done : Value) (o_this_by : Value) (o_this_extra : Value) (o_this_waiting : Value) (o_this_floats : Value) (o_this_decided : Value) (o_this_sunk : Value) (o_this_has : Value) (o_this_bestOrder : Value) (o_this_wins : Value) (o_this_firstTens : Value) (o_this_moves : Value) (o_this_kept : Value) (o_this_isKept : Value) (o_this_keptAt : Value) (o_this_isWriting : Value) (v_padMany : Int32) (r0 : Int32) (w_padMany : Int32) (hf : fX4_wipe v_padMany = some (r0, w_padMany)) : MW l yX4_wipe wsX4_wipe { frames := 0, cells := 0, slots := 0, locals := 0 } D cI cJ cZ cB [(a_this, .inr (4, (o_this_weight :: o_this_hole :: o_this_held :: o_this_law :: o_this_suits :: o_this_plaintiff :: o_this_defendant :: o_this_worth :: o_this_winner :: o_this_order :: o_this_sightWeight :: o_this_sightMany :: o_this_sights :: o_this_pad :: .int v_padMany :: o_this_part :: o_this_digits :: o_this_isNought :: o_this_done :: o_this_by :: o_this_extra :: o_this_waiting :: o_this_floats :: o_this_decided :: o_this_sunk :: o_this_has :: o_this_bestOrder :: o_this_wins :: o_this_firstTens :: o_this_moves :: o_this_kept :: o_this_isKept :: o_this_keptAt :: o_this_isWriting :: [])))] [.ref a_this] (QWi D r0 [(a_this, .inr (4, (o_this_weight :: o_this_hole :: o_this_held :: o_this_law :: o_this_suits :: o_this_plaintiff :: o_this_defendant :: o_this_worth :: o_this_winner :: o_this_order :: o_this_sightWeight :: o_this_sightMany :: o_this_sights :: o_this_pad :: .int w_padMany :: o_this_part :: o_this_digits :: o_this_isNought :: o_this_done :: o_this_by :: o_this_extra :: o_this_waiting :: o_this_floats :: o_this_decided :: o_this_sunk :: o_this_has :: o_this_bestOrder :: o_this_wins :: o_this_firstTens :: o_this_moves :: o_this_kept :: o_this_isKept :: o_this_keptAt :: o_this_isWriting :: [])))]) := by
  refine k_body (cc := cX4_wipe) (maxL := 2) (ret := (some .int)) (by decide) rfl (Nat.le_of_ble_eq_true rfl) ?_
  intro p e s m args below meth c hx hb hr hml hts hown hlocks hname hK A hA hP hD hS ls hl
  have hl : lv_has ls 2 [(0, .ref a_this)] := hl
  generalize hQ : MQ below ((QWi D r0 [(a_this, .inr (4, (o_this_weight :: o_this_hole :: o_this_held :: o_this_law :: o_this_suits :: o_this_plaintiff :: o_this_defendant :: o_this_worth :: o_this_winner :: o_this_order :: o_this_sightWeight :: o_this_sightMany :: o_this_sights :: o_this_pad :: .int w_padMany :: o_this_part :: o_this_digits :: o_this_isNought :: o_this_done :: o_this_by :: o_this_extra :: o_this_waiting :: o_this_floats :: o_this_decided :: o_this_sunk :: o_this_has :: o_this_bestOrder :: o_this_wins :: o_this_firstTens :: o_this_moves :: o_this_kept :: o_this_isKept :: o_this_keptAt :: o_this_isWriting :: [])))]) A) args s 0 0 A = Q
  obtain ⟨H, hH⟩ : ∃ H, H = s.heap := ⟨_, rfl⟩
  obtain ⟨locs, hlo⟩ : ∃ z : List Loc, z = [] := ⟨_, rfl⟩
  have hP : va_P D vwCl [(a_this, .inr (4, (o_this_weight :: o_this_hole :: o_this_held :: o_this_law :: o_this_suits :: o_this_plaintiff :: o_this_defendant :: o_this_worth :: o_this_winner :: o_this_order :: o_this_sightWeight :: o_this_sightMany :: o_this_sights :: o_this_pad :: .int v_padMany :: o_this_part :: o_this_digits :: o_this_isNought :: o_this_done :: o_this_by :: o_this_extra :: o_this_waiting :: o_this_floats :: o_this_decided :: o_this_sunk :: o_this_has :: o_this_bestOrder :: o_this_wins :: o_this_firstTens :: o_this_moves :: o_this_kept :: o_this_isKept :: o_this_keptAt :: o_this_isWriting :: [])))] H := by rw [hH]; exact hP
  have hS : va_S A s.heap H locs := by rw [hH, hlo]; exact hS
  suffices hg : W p l e (headSpec wsX4_wipe { frames := 0, cells := 0, slots := 0, locals := 0 }).room s m args below meth c H locs 0 0 Q (F0 m 0 ls []) by rw [hH, hlo] at hg; exact hg
  have l86 := hts (.fieldLink RX4 86 "CandleCourtModel" "padMany" "I") (by decide +kernel)
  have iX4 : ∀ w ∈ wsX40, w ∈ wsX4_wipe := by decide +kernel
  unfold fX4_wipe at hf
  refine lv_aload_n hx hb dX4_wipe_0 rfl (lv_at hl 0 rfl) ?_
  refine va_get (D := D) (ci := 4) (v := .int v_padMany) (C := RX4) (T := TX4) (N := 34) hx hb hts iX4 hown hK.1 hP 0 rfl rfl 14 (by decide) l86 (fun _ h9 => h9) rfl dX4_wipe_1 ?_
  refine lv_istore_n (lv' := [(1, .int v_padMany), (0, .ref a_this)]) hx hb dX4_wipe_4 rfl hl (by decide) rfl (fun ls hl => ?_)
  refine lv_aload_n hx hb dX4_wipe_5 rfl (lv_at hl 1 rfl) ?_
  refine lv_iconst (v := 0) hx hb dX4_wipe_6 (by decide) ?_
  refine va_put (D := D) (ci := 4) (v := .int 0) (ty := .int) (C := RX4) (T := TX4) (N := 34) hx hb hts iX4 tyX4 tyX4_ok nmX4 hown hK.1 hP hD hS 0 rfl rfl 14 (by decide) l86 (fun _ h9 => h9) rfl (by decide +kernel) rfl rfl (Nat.le_of_ble_eq_true rfl) dX4_wipe_7 (fun H locs hP hD hS => ?_)
  have hP : va_P D vwCl [(a_this, .inr (4, (o_this_weight :: o_this_hole :: o_this_held :: o_this_law :: o_this_suits :: o_this_plaintiff :: o_this_defendant :: o_this_worth :: o_this_winner :: o_this_order :: o_this_sightWeight :: o_this_sightMany :: o_this_sights :: o_this_pad :: .int 0 :: o_this_part :: o_this_digits :: o_this_isNought :: o_this_done :: o_this_by :: o_this_extra :: o_this_waiting :: o_this_floats :: o_this_decided :: o_this_sunk :: o_this_has :: o_this_bestOrder :: o_this_wins :: o_this_firstTens :: o_this_moves :: o_this_kept :: o_this_isKept :: o_this_keptAt :: o_this_isWriting :: [])))] H := hP
  have hD : va_D A [(a_this, .inr (4, (o_this_weight :: o_this_hole :: o_this_held :: o_this_law :: o_this_suits :: o_this_plaintiff :: o_this_defendant :: o_this_worth :: o_this_winner :: o_this_order :: o_this_sightWeight :: o_this_sightMany :: o_this_sights :: o_this_pad :: .int 0 :: o_this_part :: o_this_digits :: o_this_isNought :: o_this_done :: o_this_by :: o_this_extra :: o_this_waiting :: o_this_floats :: o_this_decided :: o_this_sunk :: o_this_has :: o_this_bestOrder :: o_this_wins :: o_this_firstTens :: o_this_moves :: o_this_kept :: o_this_isKept :: o_this_keptAt :: o_this_isWriting :: [])))] := hD
  refine lv_iload_n hx hb dX4_wipe_10 rfl (lv_at hl 0 rfl) ?_
  cases hf
  subst hQ
  exact k_ri hx hb hr hlocks hP hD hS dX4_wipe_11

set_option maxHeartbeats 4000000 in
set_option maxRecDepth 100000 in
theorem tX4_readsDigit (l : Launch) (D : va_G) (cI cJ cZ cB : ClassId) (a_this : Nat) (o_this_weight : Value) (o_this_hole : Value) (o_this_held : Value) (o_this_law : Value) (o_this_suits : Value) (o_this_plaintiff : Value) (o_this_defendant : Value) (o_this_worth : Value) (o_this_winner : Value) (o_this_order : Value) (o_this_sightWeight : Value) (o_this_sightMany : Value) (o_this_sights : Value) (o_this_pad : Value) (o_this_padMany : Value) (o_this_done : Value) (o_this_by : Value) (o_this_extra : Value) (o_this_waiting : Value) (o_this_floats : Value) (o_this_decided : Value) (o_this_sunk : Value) (o_this_has : Value) (o_this_bestOrder : Value) (o_this_wins : Value) (o_this_firstTens : Value) (o_this_moves : Value) (o_this_kept : Value) (o_this_isKept : Value) (o_this_keptAt : Value) (o_this_isWriting : Value) (x1 : Int32) (v_part : Int32) (v_digits : Int32) (v_isNought : Int32) (r0 : Int32) (w_digits : Int32) (w_isNought : Int32) (hf : fX4_readsDigit x1 v_part v_digits v_isNought = some (r0, w_digits, w_isNought)) : MW l yX4_readsDigit wsX4_readsDigit { frames := 0, cells := 0, slots := 0, locals := 0 } D cI cJ cZ cB [(a_this, .inr (4, (o_this_weight :: o_this_hole :: o_this_held :: o_this_law :: o_this_suits :: o_this_plaintiff :: o_this_defendant :: o_this_worth :: o_this_winner :: o_this_order :: o_this_sightWeight :: o_this_sightMany :: o_this_sights :: o_this_pad :: o_this_padMany :: .int v_part :: .int v_digits :: .int v_isNought :: o_this_done :: o_this_by :: o_this_extra :: o_this_waiting :: o_this_floats :: o_this_decided :: o_this_sunk :: o_this_has :: o_this_bestOrder :: o_this_wins :: o_this_firstTens :: o_this_moves :: o_this_kept :: o_this_isKept :: o_this_keptAt :: o_this_isWriting :: [])))] [.ref a_this, .int x1] (QWi D r0 [(a_this, .inr (4, (o_this_weight :: o_this_hole :: o_this_held :: o_this_law :: o_this_suits :: o_this_plaintiff :: o_this_defendant :: o_this_worth :: o_this_winner :: o_this_order :: o_this_sightWeight :: o_this_sightMany :: o_this_sights :: o_this_pad :: o_this_padMany :: .int v_part :: .int w_digits :: .int w_isNought :: o_this_done :: o_this_by :: o_this_extra :: o_this_waiting :: o_this_floats :: o_this_decided :: o_this_sunk :: o_this_has :: o_this_bestOrder :: o_this_wins :: o_this_firstTens :: o_this_moves :: o_this_kept :: o_this_isKept :: o_this_keptAt :: o_this_isWriting :: [])))]) := by
  refine k_body (cc := cX4_readsDigit) (maxL := 3) (ret := (some .boolean)) (by decide) rfl (Nat.le_of_ble_eq_true rfl) ?_
  intro p e s m args below meth c hx hb hr hml hts hown hlocks hname hK A hA hP hD hS ls hl
  have hl : lv_has ls 3 [(0, .ref a_this), (1, .int x1)] := hl
  generalize hQ : MQ below ((QWi D r0 [(a_this, .inr (4, (o_this_weight :: o_this_hole :: o_this_held :: o_this_law :: o_this_suits :: o_this_plaintiff :: o_this_defendant :: o_this_worth :: o_this_winner :: o_this_order :: o_this_sightWeight :: o_this_sightMany :: o_this_sights :: o_this_pad :: o_this_padMany :: .int v_part :: .int w_digits :: .int w_isNought :: o_this_done :: o_this_by :: o_this_extra :: o_this_waiting :: o_this_floats :: o_this_decided :: o_this_sunk :: o_this_has :: o_this_bestOrder :: o_this_wins :: o_this_firstTens :: o_this_moves :: o_this_kept :: o_this_isKept :: o_this_keptAt :: o_this_isWriting :: [])))]) A) args s 0 0 A = Q
  obtain ⟨H, hH⟩ : ∃ H, H = s.heap := ⟨_, rfl⟩
  obtain ⟨locs, hlo⟩ : ∃ z : List Loc, z = [] := ⟨_, rfl⟩
  have hP : va_P D vwCl [(a_this, .inr (4, (o_this_weight :: o_this_hole :: o_this_held :: o_this_law :: o_this_suits :: o_this_plaintiff :: o_this_defendant :: o_this_worth :: o_this_winner :: o_this_order :: o_this_sightWeight :: o_this_sightMany :: o_this_sights :: o_this_pad :: o_this_padMany :: .int v_part :: .int v_digits :: .int v_isNought :: o_this_done :: o_this_by :: o_this_extra :: o_this_waiting :: o_this_floats :: o_this_decided :: o_this_sunk :: o_this_has :: o_this_bestOrder :: o_this_wins :: o_this_firstTens :: o_this_moves :: o_this_kept :: o_this_isKept :: o_this_keptAt :: o_this_isWriting :: [])))] H := by rw [hH]; exact hP
  have hS : va_S A s.heap H locs := by rw [hH, hlo]; exact hS
  suffices hg : W p l e (headSpec wsX4_readsDigit { frames := 0, cells := 0, slots := 0, locals := 0 }).room s m args below meth c H locs 0 0 Q (F0 m 0 ls []) by rw [hH, hlo] at hg; exact hg
  have l89 := hts (.fieldLink RX4 89 "CandleCourtModel" "part" "I") (by decide +kernel)
  have l92 := hts (.fieldLink RX4 92 "CandleCourtModel" "digits" "I") (by decide +kernel)
  have l95 := hts (.fieldLink RX4 95 "CandleCourtModel" "isNought" "Z") (by decide +kernel)
  have iX4 : ∀ w ∈ wsX40, w ∈ wsX4_readsDigit := by decide +kernel
  unfold fX4_readsDigit at hf
  refine lv_aload_n hx hb dX4_readsDigit_0 rfl (lv_at hl 0 rfl) ?_
  refine va_get (D := D) (ci := 4) (v := .int v_part) (C := RX4) (T := TX4) (N := 34) hx hb hts iX4 hown hK.1 hP 0 rfl rfl 15 (by decide) l89 (fun _ h9 => h9) rfl dX4_readsDigit_1 ?_
  refine lv_iconst (v := 3) hx hb dX4_readsDigit_4 (by decide) ?_
  have J49 : ∀ (s0_49 : Int32) (v_digits_49 : Int32) (v_isNought_49 : Int32) (H : Heap) (locs : List Loc) (ls : Array Slot), fX4_readsDigit_j49 x1 v_digits_49 v_isNought_49 s0_49 = some (r0, w_digits, w_isNought) → va_P D vwCl [(a_this, .inr (4, (o_this_weight :: o_this_hole :: o_this_held :: o_this_law :: o_this_suits :: o_this_plaintiff :: o_this_defendant :: o_this_worth :: o_this_winner :: o_this_order :: o_this_sightWeight :: o_this_sightMany :: o_this_sights :: o_this_pad :: o_this_padMany :: .int v_part :: .int v_digits_49 :: .int v_isNought_49 :: o_this_done :: o_this_by :: o_this_extra :: o_this_waiting :: o_this_floats :: o_this_decided :: o_this_sunk :: o_this_has :: o_this_bestOrder :: o_this_wins :: o_this_firstTens :: o_this_moves :: o_this_kept :: o_this_isKept :: o_this_keptAt :: o_this_isWriting :: [])))] H → va_D A [(a_this, .inr (4, (o_this_weight :: o_this_hole :: o_this_held :: o_this_law :: o_this_suits :: o_this_plaintiff :: o_this_defendant :: o_this_worth :: o_this_winner :: o_this_order :: o_this_sightWeight :: o_this_sightMany :: o_this_sights :: o_this_pad :: o_this_padMany :: .int v_part :: .int v_digits_49 :: .int v_isNought_49 :: o_this_done :: o_this_by :: o_this_extra :: o_this_waiting :: o_this_floats :: o_this_decided :: o_this_sunk :: o_this_has :: o_this_bestOrder :: o_this_wins :: o_this_firstTens :: o_this_moves :: o_this_kept :: o_this_isKept :: o_this_keptAt :: o_this_isWriting :: [])))] → va_S A s.heap H locs → lv_has ls 3 [(0, .ref a_this), (1, .int x1)] → W p l e (headSpec wsX4_readsDigit { frames := 0, cells := 0, slots := 0, locals := 0 }).room s m args below meth c H locs 0 0 Q (F0 m 49 ls [.int s0_49]) := by
    intro s0_49 v_digits_49 v_isNought_49 H locs ls hf hP hD hS hl
    unfold fX4_readsDigit_j49 at hf
    refine lv_istore_n (lv' := [(2, .int s0_49), (0, .ref a_this), (1, .int x1)]) hx hb dX4_readsDigit_49 rfl hl (by decide) rfl (fun ls hl => ?_)
    refine lv_iload_n hx hb dX4_readsDigit_50 rfl (lv_at hl 0 rfl) ?_
    refine lv_if_eq (tgt := 86) hx hb dX4_readsDigit_51 (by decide) (fun c1 => ?_) (fun c1 => ?_)
    · have hf := (if_pos c1).symm.trans hf
      refine lv_iload_n hx hb dX4_readsDigit_86 rfl (lv_at hl 0 rfl) ?_
      obtain ⟨hnar, hf⟩ := gd_some hf
      cases hf
      subst hQ
      exact k_rz hx hb hr hlocks hP hD hS hnar dX4_readsDigit_87
    · have hf := (if_neg c1).symm.trans hf
      refine lv_aload_n hx hb dX4_readsDigit_54 rfl (lv_at hl 1 rfl) ?_
      refine lv_aload_n hx hb dX4_readsDigit_55 rfl (lv_at hl 1 rfl) ?_
      refine va_get (D := D) (ci := 4) (v := .int v_digits_49) (C := RX4) (T := TX4) (N := 34) hx hb hts iX4 hown hK.1 hP 0 rfl rfl 16 (by decide) l92 (fun _ h9 => h9) rfl dX4_readsDigit_56 ?_
      have J73 : ∀ (s1_73 : Int32) (x2_73 : Int32) (v_digits_73 : Int32) (v_isNought_73 : Int32) (H : Heap) (locs : List Loc) (ls : Array Slot), fX4_readsDigit_j73 v_digits_73 x2_73 s1_73 = some (r0, w_digits, w_isNought) → va_P D vwCl [(a_this, .inr (4, (o_this_weight :: o_this_hole :: o_this_held :: o_this_law :: o_this_suits :: o_this_plaintiff :: o_this_defendant :: o_this_worth :: o_this_winner :: o_this_order :: o_this_sightWeight :: o_this_sightMany :: o_this_sights :: o_this_pad :: o_this_padMany :: .int v_part :: .int v_digits_73 :: .int v_isNought_73 :: o_this_done :: o_this_by :: o_this_extra :: o_this_waiting :: o_this_floats :: o_this_decided :: o_this_sunk :: o_this_has :: o_this_bestOrder :: o_this_wins :: o_this_firstTens :: o_this_moves :: o_this_kept :: o_this_isKept :: o_this_keptAt :: o_this_isWriting :: [])))] H → va_D A [(a_this, .inr (4, (o_this_weight :: o_this_hole :: o_this_held :: o_this_law :: o_this_suits :: o_this_plaintiff :: o_this_defendant :: o_this_worth :: o_this_winner :: o_this_order :: o_this_sightWeight :: o_this_sightMany :: o_this_sights :: o_this_pad :: o_this_padMany :: .int v_part :: .int v_digits_73 :: .int v_isNought_73 :: o_this_done :: o_this_by :: o_this_extra :: o_this_waiting :: o_this_floats :: o_this_decided :: o_this_sunk :: o_this_has :: o_this_bestOrder :: o_this_wins :: o_this_firstTens :: o_this_moves :: o_this_kept :: o_this_isKept :: o_this_keptAt :: o_this_isWriting :: [])))] → va_S A s.heap H locs → lv_has ls 3 [(0, .ref a_this), (2, .int x2_73)] → W p l e (headSpec wsX4_readsDigit { frames := 0, cells := 0, slots := 0, locals := 0 }).room s m args below meth c H locs 0 0 Q (F0 m 73 ls [.int s1_73, .ref a_this]) := by
        intro s1_73 x2_73 v_digits_73 v_isNought_73 H locs ls hf hP hD hS hl
        unfold fX4_readsDigit_j73 at hf
        obtain ⟨h2, hf⟩ := gd_some hf
        refine va_put (D := D) (ci := 4) (v := .int s1_73) (ty := .boolean) (C := RX4) (T := TX4) (N := 34) hx hb hts iX4 tyX4 tyX4_ok nmX4 hown hK.1 hP hD hS 0 rfl rfl 17 (by decide) l95 (fun _ h9 => h9) rfl (by decide +kernel) h2.1 h2.2 (Nat.le_of_ble_eq_true rfl) dX4_readsDigit_73 (fun H locs hP hD hS => ?_)
        have hP : va_P D vwCl [(a_this, .inr (4, (o_this_weight :: o_this_hole :: o_this_held :: o_this_law :: o_this_suits :: o_this_plaintiff :: o_this_defendant :: o_this_worth :: o_this_winner :: o_this_order :: o_this_sightWeight :: o_this_sightMany :: o_this_sights :: o_this_pad :: o_this_padMany :: .int v_part :: .int v_digits_73 :: .int s1_73 :: o_this_done :: o_this_by :: o_this_extra :: o_this_waiting :: o_this_floats :: o_this_decided :: o_this_sunk :: o_this_has :: o_this_bestOrder :: o_this_wins :: o_this_firstTens :: o_this_moves :: o_this_kept :: o_this_isKept :: o_this_keptAt :: o_this_isWriting :: [])))] H := hP
        have hD : va_D A [(a_this, .inr (4, (o_this_weight :: o_this_hole :: o_this_held :: o_this_law :: o_this_suits :: o_this_plaintiff :: o_this_defendant :: o_this_worth :: o_this_winner :: o_this_order :: o_this_sightWeight :: o_this_sightMany :: o_this_sights :: o_this_pad :: o_this_padMany :: .int v_part :: .int v_digits_73 :: .int s1_73 :: o_this_done :: o_this_by :: o_this_extra :: o_this_waiting :: o_this_floats :: o_this_decided :: o_this_sunk :: o_this_has :: o_this_bestOrder :: o_this_wins :: o_this_firstTens :: o_this_moves :: o_this_kept :: o_this_isKept :: o_this_keptAt :: o_this_isWriting :: [])))] := hD
        refine lv_aload_n hx hb dX4_readsDigit_76 rfl (lv_at hl 0 rfl) ?_
        refine lv_dup hx hb dX4_readsDigit_77 rfl ?_
        refine va_get (D := D) (ci := 4) (v := .int v_digits_73) (C := RX4) (T := TX4) (N := 34) hx hb hts iX4 hown hK.1 hP 0 rfl rfl 16 (by decide) l92 (fun _ h9 => h9) rfl dX4_readsDigit_78 ?_
        refine lv_iconst (v := 1) hx hb dX4_readsDigit_81 (by decide) ?_
        refine lv_iadd hx hb dX4_readsDigit_82 ?_
        refine va_put (D := D) (ci := 4) (v := .int (v_digits_73 + 1)) (ty := .int) (C := RX4) (T := TX4) (N := 34) hx hb hts iX4 tyX4 tyX4_ok nmX4 hown hK.1 hP hD hS 0 rfl rfl 16 (by decide) l92 (fun _ h9 => h9) rfl (by decide +kernel) rfl rfl (Nat.le_of_ble_eq_true rfl) dX4_readsDigit_83 (fun H locs hP hD hS => ?_)
        have hP : va_P D vwCl [(a_this, .inr (4, (o_this_weight :: o_this_hole :: o_this_held :: o_this_law :: o_this_suits :: o_this_plaintiff :: o_this_defendant :: o_this_worth :: o_this_winner :: o_this_order :: o_this_sightWeight :: o_this_sightMany :: o_this_sights :: o_this_pad :: o_this_padMany :: .int v_part :: .int (v_digits_73 + 1) :: .int s1_73 :: o_this_done :: o_this_by :: o_this_extra :: o_this_waiting :: o_this_floats :: o_this_decided :: o_this_sunk :: o_this_has :: o_this_bestOrder :: o_this_wins :: o_this_firstTens :: o_this_moves :: o_this_kept :: o_this_isKept :: o_this_keptAt :: o_this_isWriting :: [])))] H := hP
        have hD : va_D A [(a_this, .inr (4, (o_this_weight :: o_this_hole :: o_this_held :: o_this_law :: o_this_suits :: o_this_plaintiff :: o_this_defendant :: o_this_worth :: o_this_winner :: o_this_order :: o_this_sightWeight :: o_this_sightMany :: o_this_sights :: o_this_pad :: o_this_padMany :: .int v_part :: .int (v_digits_73 + 1) :: .int s1_73 :: o_this_done :: o_this_by :: o_this_extra :: o_this_waiting :: o_this_floats :: o_this_decided :: o_this_sunk :: o_this_has :: o_this_bestOrder :: o_this_wins :: o_this_firstTens :: o_this_moves :: o_this_kept :: o_this_isKept :: o_this_keptAt :: o_this_isWriting :: [])))] := hD
        refine lv_iload_n hx hb dX4_readsDigit_86 rfl (lv_at hl 1 rfl) ?_
        obtain ⟨hnar, hf⟩ := gd_some hf
        cases hf
        subst hQ
        exact k_rz hx hb hr hlocks hP hD hS hnar dX4_readsDigit_87
      have J72 : ∀ (x2_72 : Int32) (v_digits_72 : Int32) (v_isNought_72 : Int32) (H : Heap) (locs : List Loc) (ls : Array Slot), fX4_readsDigit_j72 v_digits_72 x2_72 = some (r0, w_digits, w_isNought) → va_P D vwCl [(a_this, .inr (4, (o_this_weight :: o_this_hole :: o_this_held :: o_this_law :: o_this_suits :: o_this_plaintiff :: o_this_defendant :: o_this_worth :: o_this_winner :: o_this_order :: o_this_sightWeight :: o_this_sightMany :: o_this_sights :: o_this_pad :: o_this_padMany :: .int v_part :: .int v_digits_72 :: .int v_isNought_72 :: o_this_done :: o_this_by :: o_this_extra :: o_this_waiting :: o_this_floats :: o_this_decided :: o_this_sunk :: o_this_has :: o_this_bestOrder :: o_this_wins :: o_this_firstTens :: o_this_moves :: o_this_kept :: o_this_isKept :: o_this_keptAt :: o_this_isWriting :: [])))] H → va_D A [(a_this, .inr (4, (o_this_weight :: o_this_hole :: o_this_held :: o_this_law :: o_this_suits :: o_this_plaintiff :: o_this_defendant :: o_this_worth :: o_this_winner :: o_this_order :: o_this_sightWeight :: o_this_sightMany :: o_this_sights :: o_this_pad :: o_this_padMany :: .int v_part :: .int v_digits_72 :: .int v_isNought_72 :: o_this_done :: o_this_by :: o_this_extra :: o_this_waiting :: o_this_floats :: o_this_decided :: o_this_sunk :: o_this_has :: o_this_bestOrder :: o_this_wins :: o_this_firstTens :: o_this_moves :: o_this_kept :: o_this_isKept :: o_this_keptAt :: o_this_isWriting :: [])))] → va_S A s.heap H locs → lv_has ls 3 [(0, .ref a_this), (2, .int x2_72)] → W p l e (headSpec wsX4_readsDigit { frames := 0, cells := 0, slots := 0, locals := 0 }).room s m args below meth c H locs 0 0 Q (F0 m 72 ls [.ref a_this]) := by
        intro x2_72 v_digits_72 v_isNought_72 H locs ls hf hP hD hS hl
        unfold fX4_readsDigit_j72 at hf
        refine lv_iconst (v := 0) hx hb dX4_readsDigit_72 (by decide) ?_
        exact J73 0 x2_72 v_digits_72 v_isNought_72 _ _ _ hf hP hD hS (lv_sub hl [0, 1] rfl)
      refine lv_if_ne (tgt := 72) hx hb dX4_readsDigit_59 (by decide) (fun c3 => ?_) (fun c3 => ?_)
      · have hf := (if_neg c3).symm.trans hf
        exact J72 s0_49 v_digits_49 v_isNought_49 _ _ _ hf hP hD hS (lv_sub hl [1, 0] rfl)
      · have hf := (if_pos c3).symm.trans hf
        refine lv_iload_n hx hb dX4_readsDigit_62 rfl (lv_at hl 2 rfl) ?_
        refine lv_bipush (v := 48) hx hb dX4_readsDigit_63 (by decide) ?_
        refine lv_icmp_ne (tgt := 72) hx hb dX4_readsDigit_65 (by decide) (fun c4 => ?_) (fun c4 => ?_)
        · have hf := (if_neg c4).symm.trans hf
          exact J72 s0_49 v_digits_49 v_isNought_49 _ _ _ hf hP hD hS (lv_sub hl [1, 0] rfl)
        · have hf := (if_pos c4).symm.trans hf
          refine lv_iconst (v := 1) hx hb dX4_readsDigit_68 (by decide) ?_
          refine lv_goto (tgt := 73) hx hb dX4_readsDigit_69 (by decide) ?_
          exact J73 1 s0_49 v_digits_49 v_isNought_49 _ _ _ hf hP hD hS (lv_sub hl [1, 0] rfl)
  have J48 : ∀ (v_digits_48 : Int32) (v_isNought_48 : Int32) (H : Heap) (locs : List Loc) (ls : Array Slot), fX4_readsDigit_j48 x1 v_digits_48 v_isNought_48 = some (r0, w_digits, w_isNought) → va_P D vwCl [(a_this, .inr (4, (o_this_weight :: o_this_hole :: o_this_held :: o_this_law :: o_this_suits :: o_this_plaintiff :: o_this_defendant :: o_this_worth :: o_this_winner :: o_this_order :: o_this_sightWeight :: o_this_sightMany :: o_this_sights :: o_this_pad :: o_this_padMany :: .int v_part :: .int v_digits_48 :: .int v_isNought_48 :: o_this_done :: o_this_by :: o_this_extra :: o_this_waiting :: o_this_floats :: o_this_decided :: o_this_sunk :: o_this_has :: o_this_bestOrder :: o_this_wins :: o_this_firstTens :: o_this_moves :: o_this_kept :: o_this_isKept :: o_this_keptAt :: o_this_isWriting :: [])))] H → va_D A [(a_this, .inr (4, (o_this_weight :: o_this_hole :: o_this_held :: o_this_law :: o_this_suits :: o_this_plaintiff :: o_this_defendant :: o_this_worth :: o_this_winner :: o_this_order :: o_this_sightWeight :: o_this_sightMany :: o_this_sights :: o_this_pad :: o_this_padMany :: .int v_part :: .int v_digits_48 :: .int v_isNought_48 :: o_this_done :: o_this_by :: o_this_extra :: o_this_waiting :: o_this_floats :: o_this_decided :: o_this_sunk :: o_this_has :: o_this_bestOrder :: o_this_wins :: o_this_firstTens :: o_this_moves :: o_this_kept :: o_this_isKept :: o_this_keptAt :: o_this_isWriting :: [])))] → va_S A s.heap H locs → lv_has ls 3 [(0, .ref a_this), (1, .int x1)] → W p l e (headSpec wsX4_readsDigit { frames := 0, cells := 0, slots := 0, locals := 0 }).room s m args below meth c H locs 0 0 Q (F0 m 48 ls []) := by
    intro v_digits_48 v_isNought_48 H locs ls hf hP hD hS hl
    unfold fX4_readsDigit_j48 at hf
    refine lv_iconst (v := 0) hx hb dX4_readsDigit_48 (by decide) ?_
    exact J49 0 v_digits_48 v_isNought_48 _ _ _ hf hP hD hS (lv_sub hl [0, 1] rfl)
  refine lv_icmp_ge (tgt := 48) hx hb dX4_readsDigit_5 (by decide) (fun c5 => ?_) (fun c5 => ?_)
  · have hf := (if_pos c5).symm.trans hf
    exact J48 v_digits v_isNought _ _ _ hf hP hD hS (lv_sub hl [0, 1] rfl)
  · have hf := (if_neg c5).symm.trans hf
    refine lv_aload_n hx hb dX4_readsDigit_8 rfl (lv_at hl 0 rfl) ?_
    refine va_get (D := D) (ci := 4) (v := .int v_digits) (C := RX4) (T := TX4) (N := 34) hx hb hts iX4 hown hK.1 hP 0 rfl rfl 16 (by decide) l92 (fun _ h9 => h9) rfl dX4_readsDigit_9 ?_
    refine lv_iconst (v := 3) hx hb dX4_readsDigit_12 (by decide) ?_
    refine lv_icmp_ge (tgt := 48) hx hb dX4_readsDigit_13 (by decide) (fun c6 => ?_) (fun c6 => ?_)
    · have hf := (if_pos c6).symm.trans hf
      exact J48 v_digits v_isNought _ _ _ hf hP hD hS (lv_sub hl [0, 1] rfl)
    · have hf := (if_neg c6).symm.trans hf
      refine lv_aload_n hx hb dX4_readsDigit_16 rfl (lv_at hl 0 rfl) ?_
      refine va_get (D := D) (ci := 4) (v := .int v_isNought) (C := RX4) (T := TX4) (N := 34) hx hb hts iX4 hown hK.1 hP 0 rfl rfl 17 (by decide) l95 (fun _ h9 => h9) rfl dX4_readsDigit_17 ?_
      refine lv_if_ne (tgt := 48) hx hb dX4_readsDigit_20 (by decide) (fun c7 => ?_) (fun c7 => ?_)
      · have hf := (if_neg c7).symm.trans hf
        exact J48 v_digits v_isNought _ _ _ hf hP hD hS (lv_sub hl [0, 1] rfl)
      · have hf := (if_pos c7).symm.trans hf
        refine lv_iload_n hx hb dX4_readsDigit_23 rfl (lv_at hl 1 rfl) ?_
        refine lv_bipush (v := 48) hx hb dX4_readsDigit_24 (by decide) ?_
        refine lv_icmp_ne (tgt := 44) hx hb dX4_readsDigit_26 (by decide) (fun c8 => ?_) (fun c8 => ?_)
        · have hf := (if_neg c8).symm.trans hf
          refine lv_iconst (v := 1) hx hb dX4_readsDigit_44 (by decide) ?_
          refine lv_goto (tgt := 49) hx hb dX4_readsDigit_45 (by decide) ?_
          exact J49 1 v_digits v_isNought _ _ _ hf hP hD hS (lv_sub hl [0, 1] rfl)
        · have hf := (if_pos c8).symm.trans hf
          refine lv_aload_n hx hb dX4_readsDigit_29 rfl (lv_at hl 0 rfl) ?_
          refine va_get (D := D) (ci := 4) (v := .int v_digits) (C := RX4) (T := TX4) (N := 34) hx hb hts iX4 hown hK.1 hP 0 rfl rfl 16 (by decide) l92 (fun _ h9 => h9) rfl dX4_readsDigit_30 ?_
          refine lv_if_gt (tgt := 44) hx hb dX4_readsDigit_33 (by decide) (fun c9 => ?_) (fun c9 => ?_)
          · have hf := (if_pos c9).symm.trans hf
            refine lv_iconst (v := 1) hx hb dX4_readsDigit_44 (by decide) ?_
            refine lv_goto (tgt := 49) hx hb dX4_readsDigit_45 (by decide) ?_
            exact J49 1 v_digits v_isNought _ _ _ hf hP hD hS (lv_sub hl [0, 1] rfl)
          · have hf := (if_neg c9).symm.trans hf
            refine lv_aload_n hx hb dX4_readsDigit_36 rfl (lv_at hl 0 rfl) ?_
            refine va_get (D := D) (ci := 4) (v := .int v_part) (C := RX4) (T := TX4) (N := 34) hx hb hts iX4 hown hK.1 hP 0 rfl rfl 15 (by decide) l89 (fun _ h9 => h9) rfl dX4_readsDigit_37 ?_
            refine lv_iconst (v := 2) hx hb dX4_readsDigit_40 (by decide) ?_
            refine lv_icmp_ne (tgt := 48) hx hb dX4_readsDigit_41 (by decide) (fun c10 => ?_) (fun c10 => ?_)
            · have hf := (if_neg c10).symm.trans hf
              exact J48 v_digits v_isNought _ _ _ hf hP hD hS (lv_sub hl [0, 1] rfl)
            · have hf := (if_pos c10).symm.trans hf
              refine lv_iconst (v := 1) hx hb dX4_readsDigit_44 (by decide) ?_
              refine lv_goto (tgt := 49) hx hb dX4_readsDigit_45 (by decide) ?_
              exact J49 1 v_digits v_isNought _ _ _ hf hP hD hS (lv_sub hl [0, 1] rfl)

set_option maxHeartbeats 4000000 in
set_option maxRecDepth 100000 in
theorem tX4_reads (l : Launch) (D : va_G) (cI cJ cZ cB : ClassId) (a_this : Nat) (o_this_weight : Value) (o_this_hole : Value) (o_this_held : Value) (o_this_law : Value) (o_this_suits : Value) (o_this_plaintiff : Value) (o_this_defendant : Value) (o_this_worth : Value) (o_this_winner : Value) (o_this_order : Value) (o_this_sightWeight : Value) (o_this_sightMany : Value) (o_this_sights : Value) (o_this_pad : Value) (o_this_padMany : Value) (o_this_by : Value) (o_this_extra : Value) (o_this_waiting : Value) (o_this_floats : Value) (o_this_decided : Value) (o_this_sunk : Value) (o_this_has : Value) (o_this_bestOrder : Value) (o_this_wins : Value) (o_this_firstTens : Value) (o_this_moves : Value) (o_this_kept : Value) (o_this_isKept : Value) (o_this_keptAt : Value) (o_this_isWriting : Value) (x1 : Int32) (v_part : Int32) (v_digits : Int32) (v_isNought : Int32) (v_done : Int32) (r0 : Int32) (w_part : Int32) (w_digits : Int32) (w_isNought : Int32) (w_done : Int32) (hf : fX4_reads x1 v_part v_digits v_isNought v_done = some (r0, w_part, w_digits, w_isNought, w_done)) : MW l yX4_reads wsX4_reads { frames := 1, cells := 0, slots := 0, locals := 25 } D cI cJ cZ cB [(a_this, .inr (4, (o_this_weight :: o_this_hole :: o_this_held :: o_this_law :: o_this_suits :: o_this_plaintiff :: o_this_defendant :: o_this_worth :: o_this_winner :: o_this_order :: o_this_sightWeight :: o_this_sightMany :: o_this_sights :: o_this_pad :: o_this_padMany :: .int v_part :: .int v_digits :: .int v_isNought :: .int v_done :: o_this_by :: o_this_extra :: o_this_waiting :: o_this_floats :: o_this_decided :: o_this_sunk :: o_this_has :: o_this_bestOrder :: o_this_wins :: o_this_firstTens :: o_this_moves :: o_this_kept :: o_this_isKept :: o_this_keptAt :: o_this_isWriting :: [])))] [.ref a_this, .int x1] (QWi D r0 [(a_this, .inr (4, (o_this_weight :: o_this_hole :: o_this_held :: o_this_law :: o_this_suits :: o_this_plaintiff :: o_this_defendant :: o_this_worth :: o_this_winner :: o_this_order :: o_this_sightWeight :: o_this_sightMany :: o_this_sights :: o_this_pad :: o_this_padMany :: .int w_part :: .int w_digits :: .int w_isNought :: .int w_done :: o_this_by :: o_this_extra :: o_this_waiting :: o_this_floats :: o_this_decided :: o_this_sunk :: o_this_has :: o_this_bestOrder :: o_this_wins :: o_this_firstTens :: o_this_moves :: o_this_kept :: o_this_isKept :: o_this_keptAt :: o_this_isWriting :: [])))]) := by
  refine k_body (cc := cX4_reads) (maxL := 4) (ret := (some .boolean)) (by decide) rfl (Nat.le_of_ble_eq_true rfl) ?_
  intro p e s m args below meth c hx hb hr hml hts hown hlocks hname hK A hA hP hD hS ls hl
  have hl : lv_has ls 4 [(0, .ref a_this), (1, .int x1)] := hl
  generalize hQ : MQ below ((QWi D r0 [(a_this, .inr (4, (o_this_weight :: o_this_hole :: o_this_held :: o_this_law :: o_this_suits :: o_this_plaintiff :: o_this_defendant :: o_this_worth :: o_this_winner :: o_this_order :: o_this_sightWeight :: o_this_sightMany :: o_this_sights :: o_this_pad :: o_this_padMany :: .int w_part :: .int w_digits :: .int w_isNought :: .int w_done :: o_this_by :: o_this_extra :: o_this_waiting :: o_this_floats :: o_this_decided :: o_this_sunk :: o_this_has :: o_this_bestOrder :: o_this_wins :: o_this_firstTens :: o_this_moves :: o_this_kept :: o_this_isKept :: o_this_keptAt :: o_this_isWriting :: [])))]) A) args s 0 0 A = Q
  obtain ⟨H, hH⟩ : ∃ H, H = s.heap := ⟨_, rfl⟩
  obtain ⟨locs, hlo⟩ : ∃ z : List Loc, z = [] := ⟨_, rfl⟩
  have hP : va_P D vwCl [(a_this, .inr (4, (o_this_weight :: o_this_hole :: o_this_held :: o_this_law :: o_this_suits :: o_this_plaintiff :: o_this_defendant :: o_this_worth :: o_this_winner :: o_this_order :: o_this_sightWeight :: o_this_sightMany :: o_this_sights :: o_this_pad :: o_this_padMany :: .int v_part :: .int v_digits :: .int v_isNought :: .int v_done :: o_this_by :: o_this_extra :: o_this_waiting :: o_this_floats :: o_this_decided :: o_this_sunk :: o_this_has :: o_this_bestOrder :: o_this_wins :: o_this_firstTens :: o_this_moves :: o_this_kept :: o_this_isKept :: o_this_keptAt :: o_this_isWriting :: [])))] H := by rw [hH]; exact hP
  have hS : va_S A s.heap H locs := by rw [hH, hlo]; exact hS
  suffices hg : W p l e (headSpec wsX4_reads { frames := 1, cells := 0, slots := 0, locals := 25 }).room s m args below meth c H locs 0 0 Q (F0 m 0 ls []) by rw [hH, hlo] at hg; exact hg
  have l89 := hts (.fieldLink RX4 89 "CandleCourtModel" "part" "I") (by decide +kernel)
  have l92 := hts (.fieldLink RX4 92 "CandleCourtModel" "digits" "I") (by decide +kernel)
  have l95 := hts (.fieldLink RX4 95 "CandleCourtModel" "isNought" "Z") (by decide +kernel)
  have l107 := hts (.fieldLink RX4 107 "CandleCourtModel" "done" "I") (by decide +kernel)
  have iX4 : ∀ w ∈ wsX40, w ∈ wsX4_reads := by decide +kernel
  unfold fX4_reads at hf
  refine lv_iload_n hx hb dX4_reads_0 rfl (lv_at hl 1 rfl) ?_
  refine lv_i2l (v := Int32.toInt64 x1) hx hb dX4_reads_1 rfl ?_
  refine lv_ldc2 (own := RX4) (v := 48) hx hb hown (hts (.constantLong RX4 99 (48)) (by decide +kernel)) dX4_reads_2 ?_
  refine lv_ldc2 (own := RX4) (v := 57) hx hb hown (hts (.constantLong RX4 101 (57)) (by decide +kernel)) dX4_reads_5 ?_
  obtain ⟨r1, hc2, hf⟩ := bnd1_some hf
  refine k_ci (wc := []) (wr := [(a_this, .inr (4, (o_this_weight :: o_this_hole :: o_this_held :: o_this_law :: o_this_suits :: o_this_plaintiff :: o_this_defendant :: o_this_worth :: o_this_winner :: o_this_order :: o_this_sightWeight :: o_this_sightMany :: o_this_sights :: o_this_pad :: o_this_padMany :: .int v_part :: .int v_digits :: .int v_isNought :: .int v_done :: o_this_by :: o_this_extra :: o_this_waiting :: o_this_floats :: o_this_decided :: o_this_sunk :: o_this_has :: o_this_bestOrder :: o_this_wins :: o_this_firstTens :: o_this_moves :: o_this_kept :: o_this_isKept :: o_this_keptAt :: o_this_isWriting :: [])))]) (w1 := []) (ws' := [(a_this, .inr (4, (o_this_weight :: o_this_hole :: o_this_held :: o_this_law :: o_this_suits :: o_this_plaintiff :: o_this_defendant :: o_this_worth :: o_this_winner :: o_this_order :: o_this_sightWeight :: o_this_sightMany :: o_this_sights :: o_this_pad :: o_this_padMany :: .int v_part :: .int v_digits :: .int v_isNought :: .int v_done :: o_this_by :: o_this_extra :: o_this_waiting :: o_this_floats :: o_this_decided :: o_this_sunk :: o_this_has :: o_this_bestOrder :: o_this_wins :: o_this_firstTens :: o_this_moves :: o_this_kept :: o_this_isKept :: o_this_keptAt :: o_this_isWriting :: [])))]) (va_runS (As := [.long (Int32.toInt64 x1), .long 48, .long 57]) (rest := []) ⟨hx, hb, hml, hown, hts⟩ (tX4_in l D cI cJ cZ cB (Int32.toInt64 x1) 48 57 r1 hc2 H.size) (va_cwS 3 hts gX4_reads_X4_in rfl rfl rfl (by decide +kernel) ⟨Nat.le_of_ble_eq_true rfl, Nat.le_of_ble_eq_true rfl⟩) (k_preS (is := []) hK hP hD rfl rfl) rfl rfl hl.1 rfl (lv_room (Nat.le_of_ble_eq_true rfl)) dX4_reads_8 ⟨Nat.zero_le _, Nat.zero_le _⟩) hP hD hS hA [] [0] [0] rfl rfl rfl (by decide) rfl rfl (fun H locs hP hD hS => ?_)
  refine lv_if_eq (tgt := 20) hx hb dX4_reads_11 (by decide) (fun c3 => ?_) (fun c3 => ?_)
  · have hf := (if_pos c3).symm.trans hf
    refine lv_aload_n hx hb dX4_reads_20 rfl (lv_at hl 0 rfl) ?_
    refine va_get (D := D) (ci := 4) (v := .int v_digits) (C := RX4) (T := TX4) (N := 34) hx hb hts iX4 hown hK.1 hP 0 rfl rfl 16 (by decide) l92 (fun _ h9 => h9) rfl dX4_reads_21 ?_
    have J79 : ∀ (s0_79 : Int32) (v_part_79 : Int32) (v_digits_79 : Int32) (v_isNought_79 : Int32) (v_done_79 : Int32) (H : Heap) (locs : List Loc) (ls : Array Slot), fX4_reads_j79 x1 v_part_79 v_digits_79 v_isNought_79 v_done_79 s0_79 = some (r0, w_part, w_digits, w_isNought, w_done) → va_P D vwCl [(a_this, .inr (4, (o_this_weight :: o_this_hole :: o_this_held :: o_this_law :: o_this_suits :: o_this_plaintiff :: o_this_defendant :: o_this_worth :: o_this_winner :: o_this_order :: o_this_sightWeight :: o_this_sightMany :: o_this_sights :: o_this_pad :: o_this_padMany :: .int v_part_79 :: .int v_digits_79 :: .int v_isNought_79 :: .int v_done_79 :: o_this_by :: o_this_extra :: o_this_waiting :: o_this_floats :: o_this_decided :: o_this_sunk :: o_this_has :: o_this_bestOrder :: o_this_wins :: o_this_firstTens :: o_this_moves :: o_this_kept :: o_this_isKept :: o_this_keptAt :: o_this_isWriting :: [])))] H → va_D A [(a_this, .inr (4, (o_this_weight :: o_this_hole :: o_this_held :: o_this_law :: o_this_suits :: o_this_plaintiff :: o_this_defendant :: o_this_worth :: o_this_winner :: o_this_order :: o_this_sightWeight :: o_this_sightMany :: o_this_sights :: o_this_pad :: o_this_padMany :: .int v_part_79 :: .int v_digits_79 :: .int v_isNought_79 :: .int v_done_79 :: o_this_by :: o_this_extra :: o_this_waiting :: o_this_floats :: o_this_decided :: o_this_sunk :: o_this_has :: o_this_bestOrder :: o_this_wins :: o_this_firstTens :: o_this_moves :: o_this_kept :: o_this_isKept :: o_this_keptAt :: o_this_isWriting :: [])))] → va_S A s.heap H locs → lv_has ls 4 [(0, .ref a_this), (1, .int x1)] → W p l e (headSpec wsX4_reads { frames := 1, cells := 0, slots := 0, locals := 25 }).room s m args below meth c H locs 0 0 Q (F0 m 79 ls [.int s0_79]) := by
      intro s0_79 v_part_79 v_digits_79 v_isNought_79 v_done_79 H locs ls hf hP hD hS hl
      unfold fX4_reads_j79 at hf
      refine lv_istore_n (lv' := [(2, .int s0_79), (0, .ref a_this), (1, .int x1)]) hx hb dX4_reads_79 rfl hl (by decide) rfl (fun ls hl => ?_)
      refine lv_aload_n hx hb dX4_reads_80 rfl (lv_at hl 1 rfl) ?_
      refine va_get (D := D) (ci := 4) (v := .int v_part_79) (C := RX4) (T := TX4) (N := 34) hx hb hts iX4 hown hK.1 hP 0 rfl rfl 15 (by decide) l89 (fun _ h9 => h9) rfl dX4_reads_81 ?_
      refine lv_iconst (v := 4) hx hb dX4_reads_84 (by decide) ?_
      have J108 : ∀ (s0_108 : Int32) (x2_108 : Int32) (v_part_108 : Int32) (v_digits_108 : Int32) (v_isNought_108 : Int32) (v_done_108 : Int32) (H : Heap) (locs : List Loc) (ls : Array Slot), fX4_reads_j108 v_part_108 v_digits_108 v_isNought_108 v_done_108 x2_108 s0_108 = some (r0, w_part, w_digits, w_isNought, w_done) → va_P D vwCl [(a_this, .inr (4, (o_this_weight :: o_this_hole :: o_this_held :: o_this_law :: o_this_suits :: o_this_plaintiff :: o_this_defendant :: o_this_worth :: o_this_winner :: o_this_order :: o_this_sightWeight :: o_this_sightMany :: o_this_sights :: o_this_pad :: o_this_padMany :: .int v_part_108 :: .int v_digits_108 :: .int v_isNought_108 :: .int v_done_108 :: o_this_by :: o_this_extra :: o_this_waiting :: o_this_floats :: o_this_decided :: o_this_sunk :: o_this_has :: o_this_bestOrder :: o_this_wins :: o_this_firstTens :: o_this_moves :: o_this_kept :: o_this_isKept :: o_this_keptAt :: o_this_isWriting :: [])))] H → va_D A [(a_this, .inr (4, (o_this_weight :: o_this_hole :: o_this_held :: o_this_law :: o_this_suits :: o_this_plaintiff :: o_this_defendant :: o_this_worth :: o_this_winner :: o_this_order :: o_this_sightWeight :: o_this_sightMany :: o_this_sights :: o_this_pad :: o_this_padMany :: .int v_part_108 :: .int v_digits_108 :: .int v_isNought_108 :: .int v_done_108 :: o_this_by :: o_this_extra :: o_this_waiting :: o_this_floats :: o_this_decided :: o_this_sunk :: o_this_has :: o_this_bestOrder :: o_this_wins :: o_this_firstTens :: o_this_moves :: o_this_kept :: o_this_isKept :: o_this_keptAt :: o_this_isWriting :: [])))] → va_S A s.heap H locs → lv_has ls 4 [(0, .ref a_this), (2, .int x2_108)] → W p l e (headSpec wsX4_reads { frames := 1, cells := 0, slots := 0, locals := 25 }).room s m args below meth c H locs 0 0 Q (F0 m 108 ls [.int s0_108]) := by
        intro s0_108 x2_108 v_part_108 v_digits_108 v_isNought_108 v_done_108 H locs ls hf hP hD hS hl
        unfold fX4_reads_j108 at hf
        refine lv_istore_n (lv' := [(3, .int s0_108), (0, .ref a_this), (2, .int x2_108)]) hx hb dX4_reads_108 rfl hl (by decide) rfl (fun ls hl => ?_)
        refine lv_iload_n hx hb dX4_reads_109 rfl (lv_at hl 2 rfl) ?_
        have J119 : ∀ (x2_119 : Int32) (x3_119 : Int32) (v_part_119 : Int32) (v_digits_119 : Int32) (v_isNought_119 : Int32) (v_done_119 : Int32) (H : Heap) (locs : List Loc) (ls : Array Slot), fX4_reads_j119 v_part_119 v_done_119 x2_119 x3_119 = some (r0, w_part, w_digits, w_isNought, w_done) → va_P D vwCl [(a_this, .inr (4, (o_this_weight :: o_this_hole :: o_this_held :: o_this_law :: o_this_suits :: o_this_plaintiff :: o_this_defendant :: o_this_worth :: o_this_winner :: o_this_order :: o_this_sightWeight :: o_this_sightMany :: o_this_sights :: o_this_pad :: o_this_padMany :: .int v_part_119 :: .int v_digits_119 :: .int v_isNought_119 :: .int v_done_119 :: o_this_by :: o_this_extra :: o_this_waiting :: o_this_floats :: o_this_decided :: o_this_sunk :: o_this_has :: o_this_bestOrder :: o_this_wins :: o_this_firstTens :: o_this_moves :: o_this_kept :: o_this_isKept :: o_this_keptAt :: o_this_isWriting :: [])))] H → va_D A [(a_this, .inr (4, (o_this_weight :: o_this_hole :: o_this_held :: o_this_law :: o_this_suits :: o_this_plaintiff :: o_this_defendant :: o_this_worth :: o_this_winner :: o_this_order :: o_this_sightWeight :: o_this_sightMany :: o_this_sights :: o_this_pad :: o_this_padMany :: .int v_part_119 :: .int v_digits_119 :: .int v_isNought_119 :: .int v_done_119 :: o_this_by :: o_this_extra :: o_this_waiting :: o_this_floats :: o_this_decided :: o_this_sunk :: o_this_has :: o_this_bestOrder :: o_this_wins :: o_this_firstTens :: o_this_moves :: o_this_kept :: o_this_isKept :: o_this_keptAt :: o_this_isWriting :: [])))] → va_S A s.heap H locs → lv_has ls 4 [(0, .ref a_this), (2, .int x2_119), (3, .int x3_119)] → W p l e (headSpec wsX4_reads { frames := 1, cells := 0, slots := 0, locals := 25 }).room s m args below meth c H locs 0 0 Q (F0 m 119 ls []) := by
          intro x2_119 x3_119 v_part_119 v_digits_119 v_isNought_119 v_done_119 H locs ls hf hP hD hS hl
          unfold fX4_reads_j119 at hf
          refine lv_aload_n hx hb dX4_reads_119 rfl (lv_at hl 0 rfl) ?_
          refine lv_iload_n hx hb dX4_reads_120 rfl (lv_at hl 2 rfl) ?_
          have J146 : ∀ (s1_146 : Int32) (x2_146 : Int32) (v_part_146 : Int32) (v_digits_146 : Int32) (v_isNought_146 : Int32) (v_done_146 : Int32) (H : Heap) (locs : List Loc) (ls : Array Slot), fX4_reads_j146 v_done_146 x2_146 s1_146 = some (r0, w_part, w_digits, w_isNought, w_done) → va_P D vwCl [(a_this, .inr (4, (o_this_weight :: o_this_hole :: o_this_held :: o_this_law :: o_this_suits :: o_this_plaintiff :: o_this_defendant :: o_this_worth :: o_this_winner :: o_this_order :: o_this_sightWeight :: o_this_sightMany :: o_this_sights :: o_this_pad :: o_this_padMany :: .int v_part_146 :: .int v_digits_146 :: .int v_isNought_146 :: .int v_done_146 :: o_this_by :: o_this_extra :: o_this_waiting :: o_this_floats :: o_this_decided :: o_this_sunk :: o_this_has :: o_this_bestOrder :: o_this_wins :: o_this_firstTens :: o_this_moves :: o_this_kept :: o_this_isKept :: o_this_keptAt :: o_this_isWriting :: [])))] H → va_D A [(a_this, .inr (4, (o_this_weight :: o_this_hole :: o_this_held :: o_this_law :: o_this_suits :: o_this_plaintiff :: o_this_defendant :: o_this_worth :: o_this_winner :: o_this_order :: o_this_sightWeight :: o_this_sightMany :: o_this_sights :: o_this_pad :: o_this_padMany :: .int v_part_146 :: .int v_digits_146 :: .int v_isNought_146 :: .int v_done_146 :: o_this_by :: o_this_extra :: o_this_waiting :: o_this_floats :: o_this_decided :: o_this_sunk :: o_this_has :: o_this_bestOrder :: o_this_wins :: o_this_firstTens :: o_this_moves :: o_this_kept :: o_this_isKept :: o_this_keptAt :: o_this_isWriting :: [])))] → va_S A s.heap H locs → lv_has ls 4 [(0, .ref a_this), (2, .int x2_146)] → W p l e (headSpec wsX4_reads { frames := 1, cells := 0, slots := 0, locals := 25 }).room s m args below meth c H locs 0 0 Q (F0 m 146 ls [.int s1_146, .ref a_this]) := by
            intro s1_146 x2_146 v_part_146 v_digits_146 v_isNought_146 v_done_146 H locs ls hf hP hD hS hl
            unfold fX4_reads_j146 at hf
            refine va_put (D := D) (ci := 4) (v := .int s1_146) (ty := .int) (C := RX4) (T := TX4) (N := 34) hx hb hts iX4 tyX4 tyX4_ok nmX4 hown hK.1 hP hD hS 0 rfl rfl 15 (by decide) l89 (fun _ h9 => h9) rfl (by decide +kernel) rfl rfl (Nat.le_of_ble_eq_true rfl) dX4_reads_146 (fun H locs hP hD hS => ?_)
            have hP : va_P D vwCl [(a_this, .inr (4, (o_this_weight :: o_this_hole :: o_this_held :: o_this_law :: o_this_suits :: o_this_plaintiff :: o_this_defendant :: o_this_worth :: o_this_winner :: o_this_order :: o_this_sightWeight :: o_this_sightMany :: o_this_sights :: o_this_pad :: o_this_padMany :: .int s1_146 :: .int v_digits_146 :: .int v_isNought_146 :: .int v_done_146 :: o_this_by :: o_this_extra :: o_this_waiting :: o_this_floats :: o_this_decided :: o_this_sunk :: o_this_has :: o_this_bestOrder :: o_this_wins :: o_this_firstTens :: o_this_moves :: o_this_kept :: o_this_isKept :: o_this_keptAt :: o_this_isWriting :: [])))] H := hP
            have hD : va_D A [(a_this, .inr (4, (o_this_weight :: o_this_hole :: o_this_held :: o_this_law :: o_this_suits :: o_this_plaintiff :: o_this_defendant :: o_this_worth :: o_this_winner :: o_this_order :: o_this_sightWeight :: o_this_sightMany :: o_this_sights :: o_this_pad :: o_this_padMany :: .int s1_146 :: .int v_digits_146 :: .int v_isNought_146 :: .int v_done_146 :: o_this_by :: o_this_extra :: o_this_waiting :: o_this_floats :: o_this_decided :: o_this_sunk :: o_this_has :: o_this_bestOrder :: o_this_wins :: o_this_firstTens :: o_this_moves :: o_this_kept :: o_this_isKept :: o_this_keptAt :: o_this_isWriting :: [])))] := hD
            refine lv_aload_n hx hb dX4_reads_149 rfl (lv_at hl 0 rfl) ?_
            refine lv_dup hx hb dX4_reads_150 rfl ?_
            refine va_get (D := D) (ci := 4) (v := .int v_done_146) (C := RX4) (T := TX4) (N := 34) hx hb hts iX4 hown hK.1 hP 0 rfl rfl 18 (by decide) l107 (fun _ h9 => h9) rfl dX4_reads_151 ?_
            refine lv_iload_n hx hb dX4_reads_154 rfl (lv_at hl 1 rfl) ?_
            have J171 : ∀ (s1_171 : Int32) (s2_171 : Int32) (v_part_171 : Int32) (v_digits_171 : Int32) (v_isNought_171 : Int32) (v_done_171 : Int32) (H : Heap) (locs : List Loc) (ls : Array Slot), fX4_reads_j171 v_part_171 s1_171 s2_171 = some (r0, w_part, w_digits, w_isNought, w_done) → va_P D vwCl [(a_this, .inr (4, (o_this_weight :: o_this_hole :: o_this_held :: o_this_law :: o_this_suits :: o_this_plaintiff :: o_this_defendant :: o_this_worth :: o_this_winner :: o_this_order :: o_this_sightWeight :: o_this_sightMany :: o_this_sights :: o_this_pad :: o_this_padMany :: .int v_part_171 :: .int v_digits_171 :: .int v_isNought_171 :: .int v_done_171 :: o_this_by :: o_this_extra :: o_this_waiting :: o_this_floats :: o_this_decided :: o_this_sunk :: o_this_has :: o_this_bestOrder :: o_this_wins :: o_this_firstTens :: o_this_moves :: o_this_kept :: o_this_isKept :: o_this_keptAt :: o_this_isWriting :: [])))] H → va_D A [(a_this, .inr (4, (o_this_weight :: o_this_hole :: o_this_held :: o_this_law :: o_this_suits :: o_this_plaintiff :: o_this_defendant :: o_this_worth :: o_this_winner :: o_this_order :: o_this_sightWeight :: o_this_sightMany :: o_this_sights :: o_this_pad :: o_this_padMany :: .int v_part_171 :: .int v_digits_171 :: .int v_isNought_171 :: .int v_done_171 :: o_this_by :: o_this_extra :: o_this_waiting :: o_this_floats :: o_this_decided :: o_this_sunk :: o_this_has :: o_this_bestOrder :: o_this_wins :: o_this_firstTens :: o_this_moves :: o_this_kept :: o_this_isKept :: o_this_keptAt :: o_this_isWriting :: [])))] → va_S A s.heap H locs → lv_has ls 4 [(0, .ref a_this)] → W p l e (headSpec wsX4_reads { frames := 1, cells := 0, slots := 0, locals := 25 }).room s m args below meth c H locs 0 0 Q (F0 m 171 ls [.int s2_171, .int s1_171, .ref a_this]) := by
              intro s1_171 s2_171 v_part_171 v_digits_171 v_isNought_171 v_done_171 H locs ls hf hP hD hS hl
              unfold fX4_reads_j171 at hf
              refine lv_iadd hx hb dX4_reads_171 ?_
              refine va_put (D := D) (ci := 4) (v := .int (s1_171 + s2_171)) (ty := .int) (C := RX4) (T := TX4) (N := 34) hx hb hts iX4 tyX4 tyX4_ok nmX4 hown hK.1 hP hD hS 0 rfl rfl 18 (by decide) l107 (fun _ h9 => h9) rfl (by decide +kernel) rfl rfl (Nat.le_of_ble_eq_true rfl) dX4_reads_172 (fun H locs hP hD hS => ?_)
              have hP : va_P D vwCl [(a_this, .inr (4, (o_this_weight :: o_this_hole :: o_this_held :: o_this_law :: o_this_suits :: o_this_plaintiff :: o_this_defendant :: o_this_worth :: o_this_winner :: o_this_order :: o_this_sightWeight :: o_this_sightMany :: o_this_sights :: o_this_pad :: o_this_padMany :: .int v_part_171 :: .int v_digits_171 :: .int v_isNought_171 :: .int (s1_171 + s2_171) :: o_this_by :: o_this_extra :: o_this_waiting :: o_this_floats :: o_this_decided :: o_this_sunk :: o_this_has :: o_this_bestOrder :: o_this_wins :: o_this_firstTens :: o_this_moves :: o_this_kept :: o_this_isKept :: o_this_keptAt :: o_this_isWriting :: [])))] H := hP
              have hD : va_D A [(a_this, .inr (4, (o_this_weight :: o_this_hole :: o_this_held :: o_this_law :: o_this_suits :: o_this_plaintiff :: o_this_defendant :: o_this_worth :: o_this_winner :: o_this_order :: o_this_sightWeight :: o_this_sightMany :: o_this_sights :: o_this_pad :: o_this_padMany :: .int v_part_171 :: .int v_digits_171 :: .int v_isNought_171 :: .int (s1_171 + s2_171) :: o_this_by :: o_this_extra :: o_this_waiting :: o_this_floats :: o_this_decided :: o_this_sunk :: o_this_has :: o_this_bestOrder :: o_this_wins :: o_this_firstTens :: o_this_moves :: o_this_kept :: o_this_isKept :: o_this_keptAt :: o_this_isWriting :: [])))] := hD
              refine lv_aload_n hx hb dX4_reads_175 rfl (lv_at hl 0 rfl) ?_
              refine lv_iconst (v := 0) hx hb dX4_reads_176 (by decide) ?_
              refine va_put (D := D) (ci := 4) (v := .int 0) (ty := .int) (C := RX4) (T := TX4) (N := 34) hx hb hts iX4 tyX4 tyX4_ok nmX4 hown hK.1 hP hD hS 0 rfl rfl 16 (by decide) l92 (fun _ h9 => h9) rfl (by decide +kernel) rfl rfl (Nat.le_of_ble_eq_true rfl) dX4_reads_177 (fun H locs hP hD hS => ?_)
              have hP : va_P D vwCl [(a_this, .inr (4, (o_this_weight :: o_this_hole :: o_this_held :: o_this_law :: o_this_suits :: o_this_plaintiff :: o_this_defendant :: o_this_worth :: o_this_winner :: o_this_order :: o_this_sightWeight :: o_this_sightMany :: o_this_sights :: o_this_pad :: o_this_padMany :: .int v_part_171 :: .int 0 :: .int v_isNought_171 :: .int (s1_171 + s2_171) :: o_this_by :: o_this_extra :: o_this_waiting :: o_this_floats :: o_this_decided :: o_this_sunk :: o_this_has :: o_this_bestOrder :: o_this_wins :: o_this_firstTens :: o_this_moves :: o_this_kept :: o_this_isKept :: o_this_keptAt :: o_this_isWriting :: [])))] H := hP
              have hD : va_D A [(a_this, .inr (4, (o_this_weight :: o_this_hole :: o_this_held :: o_this_law :: o_this_suits :: o_this_plaintiff :: o_this_defendant :: o_this_worth :: o_this_winner :: o_this_order :: o_this_sightWeight :: o_this_sightMany :: o_this_sights :: o_this_pad :: o_this_padMany :: .int v_part_171 :: .int 0 :: .int v_isNought_171 :: .int (s1_171 + s2_171) :: o_this_by :: o_this_extra :: o_this_waiting :: o_this_floats :: o_this_decided :: o_this_sunk :: o_this_has :: o_this_bestOrder :: o_this_wins :: o_this_firstTens :: o_this_moves :: o_this_kept :: o_this_isKept :: o_this_keptAt :: o_this_isWriting :: [])))] := hD
              refine lv_aload_n hx hb dX4_reads_180 rfl (lv_at hl 0 rfl) ?_
              refine lv_iconst (v := 0) hx hb dX4_reads_181 (by decide) ?_
              refine va_put (D := D) (ci := 4) (v := .int 0) (ty := .boolean) (C := RX4) (T := TX4) (N := 34) hx hb hts iX4 tyX4 tyX4_ok nmX4 hown hK.1 hP hD hS 0 rfl rfl 17 (by decide) l95 (fun _ h9 => h9) rfl (by decide +kernel) (by decide) (by decide) (Nat.le_of_ble_eq_true rfl) dX4_reads_182 (fun H locs hP hD hS => ?_)
              have hP : va_P D vwCl [(a_this, .inr (4, (o_this_weight :: o_this_hole :: o_this_held :: o_this_law :: o_this_suits :: o_this_plaintiff :: o_this_defendant :: o_this_worth :: o_this_winner :: o_this_order :: o_this_sightWeight :: o_this_sightMany :: o_this_sights :: o_this_pad :: o_this_padMany :: .int v_part_171 :: .int 0 :: .int 0 :: .int (s1_171 + s2_171) :: o_this_by :: o_this_extra :: o_this_waiting :: o_this_floats :: o_this_decided :: o_this_sunk :: o_this_has :: o_this_bestOrder :: o_this_wins :: o_this_firstTens :: o_this_moves :: o_this_kept :: o_this_isKept :: o_this_keptAt :: o_this_isWriting :: [])))] H := hP
              have hD : va_D A [(a_this, .inr (4, (o_this_weight :: o_this_hole :: o_this_held :: o_this_law :: o_this_suits :: o_this_plaintiff :: o_this_defendant :: o_this_worth :: o_this_winner :: o_this_order :: o_this_sightWeight :: o_this_sightMany :: o_this_sights :: o_this_pad :: o_this_padMany :: .int v_part_171 :: .int 0 :: .int 0 :: .int (s1_171 + s2_171) :: o_this_by :: o_this_extra :: o_this_waiting :: o_this_floats :: o_this_decided :: o_this_sunk :: o_this_has :: o_this_bestOrder :: o_this_wins :: o_this_firstTens :: o_this_moves :: o_this_kept :: o_this_isKept :: o_this_keptAt :: o_this_isWriting :: [])))] := hD
              refine lv_iconst (v := 1) hx hb dX4_reads_185 (by decide) ?_
              cases hf
              subst hQ
              exact k_rz hx hb hr hlocks hP hD hS (by decide) dX4_reads_186
            have J170 : ∀ (s1_170 : Int32) (v_part_170 : Int32) (v_digits_170 : Int32) (v_isNought_170 : Int32) (v_done_170 : Int32) (H : Heap) (locs : List Loc) (ls : Array Slot), fX4_reads_j170 v_part_170 s1_170 = some (r0, w_part, w_digits, w_isNought, w_done) → va_P D vwCl [(a_this, .inr (4, (o_this_weight :: o_this_hole :: o_this_held :: o_this_law :: o_this_suits :: o_this_plaintiff :: o_this_defendant :: o_this_worth :: o_this_winner :: o_this_order :: o_this_sightWeight :: o_this_sightMany :: o_this_sights :: o_this_pad :: o_this_padMany :: .int v_part_170 :: .int v_digits_170 :: .int v_isNought_170 :: .int v_done_170 :: o_this_by :: o_this_extra :: o_this_waiting :: o_this_floats :: o_this_decided :: o_this_sunk :: o_this_has :: o_this_bestOrder :: o_this_wins :: o_this_firstTens :: o_this_moves :: o_this_kept :: o_this_isKept :: o_this_keptAt :: o_this_isWriting :: [])))] H → va_D A [(a_this, .inr (4, (o_this_weight :: o_this_hole :: o_this_held :: o_this_law :: o_this_suits :: o_this_plaintiff :: o_this_defendant :: o_this_worth :: o_this_winner :: o_this_order :: o_this_sightWeight :: o_this_sightMany :: o_this_sights :: o_this_pad :: o_this_padMany :: .int v_part_170 :: .int v_digits_170 :: .int v_isNought_170 :: .int v_done_170 :: o_this_by :: o_this_extra :: o_this_waiting :: o_this_floats :: o_this_decided :: o_this_sunk :: o_this_has :: o_this_bestOrder :: o_this_wins :: o_this_firstTens :: o_this_moves :: o_this_kept :: o_this_isKept :: o_this_keptAt :: o_this_isWriting :: [])))] → va_S A s.heap H locs → lv_has ls 4 [(0, .ref a_this)] → W p l e (headSpec wsX4_reads { frames := 1, cells := 0, slots := 0, locals := 25 }).room s m args below meth c H locs 0 0 Q (F0 m 170 ls [.int s1_170, .ref a_this]) := by
              intro s1_170 v_part_170 v_digits_170 v_isNought_170 v_done_170 H locs ls hf hP hD hS hl
              unfold fX4_reads_j170 at hf
              refine lv_iconst (v := 0) hx hb dX4_reads_170 (by decide) ?_
              exact J171 s1_170 0 v_part_170 v_digits_170 v_isNought_170 v_done_170 _ _ _ hf hP hD hS (lv_sub hl [0] rfl)
            refine lv_if_eq (tgt := 170) hx hb dX4_reads_155 (by decide) (fun c4 => ?_) (fun c4 => ?_)
            · have hf := (if_pos c4).symm.trans hf
              exact J170 v_done_146 s1_146 v_digits_146 v_isNought_146 v_done_146 _ _ _ hf hP hD hS (lv_sub hl [0] rfl)
            · have hf := (if_neg c4).symm.trans hf
              refine lv_aload_n hx hb dX4_reads_158 rfl (lv_at hl 0 rfl) ?_
              refine va_get (D := D) (ci := 4) (v := .int s1_146) (C := RX4) (T := TX4) (N := 34) hx hb hts iX4 hown hK.1 hP 0 rfl rfl 15 (by decide) l89 (fun _ h9 => h9) rfl dX4_reads_159 ?_
              refine lv_iconst (v := 4) hx hb dX4_reads_162 (by decide) ?_
              refine lv_icmp_ne (tgt := 170) hx hb dX4_reads_163 (by decide) (fun c5 => ?_) (fun c5 => ?_)
              · have hf := (if_neg c5).symm.trans hf
                exact J170 v_done_146 s1_146 v_digits_146 v_isNought_146 v_done_146 _ _ _ hf hP hD hS (lv_sub hl [0] rfl)
              · have hf := (if_pos c5).symm.trans hf
                refine lv_iconst (v := 1) hx hb dX4_reads_166 (by decide) ?_
                refine lv_goto (tgt := 171) hx hb dX4_reads_167 (by decide) ?_
                exact J171 v_done_146 1 s1_146 v_digits_146 v_isNought_146 v_done_146 _ _ _ hf hP hD hS (lv_sub hl [0] rfl)
          refine lv_if_eq (tgt := 128) hx hb dX4_reads_121 (by decide) (fun c6 => ?_) (fun c6 => ?_)
          · have hf := (if_pos c6).symm.trans hf
            refine lv_aload_n hx hb dX4_reads_128 rfl (lv_at hl 0 rfl) ?_
            refine va_get (D := D) (ci := 4) (v := .int v_part_119) (C := RX4) (T := TX4) (N := 34) hx hb hts iX4 hown hK.1 hP 0 rfl rfl 15 (by decide) l89 (fun _ h9 => h9) rfl dX4_reads_129 ?_
            refine lv_iconst (v := 2) hx hb dX4_reads_132 (by decide) ?_
            refine lv_icmp_ne (tgt := 140) hx hb dX4_reads_133 (by decide) (fun c7 => ?_) (fun c7 => ?_)
            · have hf := (if_neg c7).symm.trans hf
              refine lv_aload_n hx hb dX4_reads_140 rfl (lv_at hl 0 rfl) ?_
              refine va_get (D := D) (ci := 4) (v := .int v_part_119) (C := RX4) (T := TX4) (N := 34) hx hb hts iX4 hown hK.1 hP 0 rfl rfl 15 (by decide) l89 (fun _ h9 => h9) rfl dX4_reads_141 ?_
              refine lv_iconst (v := 1) hx hb dX4_reads_144 (by decide) ?_
              refine lv_iadd hx hb dX4_reads_145 ?_
              exact J146 (v_part_119 + 1) x2_119 v_part_119 v_digits_119 v_isNought_119 v_done_119 _ _ _ hf hP hD hS (lv_sub hl [0, 1] rfl)
            · have hf := (if_pos c7).symm.trans hf
              refine lv_iconst (v := 4) hx hb dX4_reads_136 (by decide) ?_
              refine lv_goto (tgt := 146) hx hb dX4_reads_137 (by decide) ?_
              exact J146 4 x2_119 v_part_119 v_digits_119 v_isNought_119 v_done_119 _ _ _ hf hP hD hS (lv_sub hl [0, 1] rfl)
          · have hf := (if_neg c6).symm.trans hf
            refine lv_iconst (v := 0) hx hb dX4_reads_124 (by decide) ?_
            refine lv_goto (tgt := 146) hx hb dX4_reads_125 (by decide) ?_
            exact J146 0 x2_119 v_part_119 v_digits_119 v_isNought_119 v_done_119 _ _ _ hf hP hD hS (lv_sub hl [0, 1] rfl)
        refine lv_if_ne (tgt := 119) hx hb dX4_reads_110 (by decide) (fun c8 => ?_) (fun c8 => ?_)
        · have hf := (if_neg c8).symm.trans hf
          exact J119 x2_108 s0_108 v_part_108 v_digits_108 v_isNought_108 v_done_108 _ _ _ hf hP hD hS (lv_sub hl [1, 2, 0] rfl)
        · have hf := (if_pos c8).symm.trans hf
          refine lv_iload_n hx hb dX4_reads_113 rfl (lv_at hl 0 rfl) ?_
          refine lv_if_ne (tgt := 119) hx hb dX4_reads_114 (by decide) (fun c9 => ?_) (fun c9 => ?_)
          · have hf := (if_neg c9).symm.trans hf
            exact J119 x2_108 s0_108 v_part_108 v_digits_108 v_isNought_108 v_done_108 _ _ _ hf hP hD hS (lv_sub hl [1, 2, 0] rfl)
          · have hf := (if_pos c9).symm.trans hf
            refine lv_iconst (v := 0) hx hb dX4_reads_117 (by decide) ?_
            cases hf
            subst hQ
            exact k_rz hx hb hr hlocks hP hD hS (by decide) dX4_reads_118
      have J107 : ∀ (x2_107 : Int32) (v_part_107 : Int32) (v_digits_107 : Int32) (v_isNought_107 : Int32) (v_done_107 : Int32) (H : Heap) (locs : List Loc) (ls : Array Slot), fX4_reads_j107 v_part_107 v_digits_107 v_isNought_107 v_done_107 x2_107 = some (r0, w_part, w_digits, w_isNought, w_done) → va_P D vwCl [(a_this, .inr (4, (o_this_weight :: o_this_hole :: o_this_held :: o_this_law :: o_this_suits :: o_this_plaintiff :: o_this_defendant :: o_this_worth :: o_this_winner :: o_this_order :: o_this_sightWeight :: o_this_sightMany :: o_this_sights :: o_this_pad :: o_this_padMany :: .int v_part_107 :: .int v_digits_107 :: .int v_isNought_107 :: .int v_done_107 :: o_this_by :: o_this_extra :: o_this_waiting :: o_this_floats :: o_this_decided :: o_this_sunk :: o_this_has :: o_this_bestOrder :: o_this_wins :: o_this_firstTens :: o_this_moves :: o_this_kept :: o_this_isKept :: o_this_keptAt :: o_this_isWriting :: [])))] H → va_D A [(a_this, .inr (4, (o_this_weight :: o_this_hole :: o_this_held :: o_this_law :: o_this_suits :: o_this_plaintiff :: o_this_defendant :: o_this_worth :: o_this_winner :: o_this_order :: o_this_sightWeight :: o_this_sightMany :: o_this_sights :: o_this_pad :: o_this_padMany :: .int v_part_107 :: .int v_digits_107 :: .int v_isNought_107 :: .int v_done_107 :: o_this_by :: o_this_extra :: o_this_waiting :: o_this_floats :: o_this_decided :: o_this_sunk :: o_this_has :: o_this_bestOrder :: o_this_wins :: o_this_firstTens :: o_this_moves :: o_this_kept :: o_this_isKept :: o_this_keptAt :: o_this_isWriting :: [])))] → va_S A s.heap H locs → lv_has ls 4 [(0, .ref a_this), (2, .int x2_107)] → W p l e (headSpec wsX4_reads { frames := 1, cells := 0, slots := 0, locals := 25 }).room s m args below meth c H locs 0 0 Q (F0 m 107 ls []) := by
        intro x2_107 v_part_107 v_digits_107 v_isNought_107 v_done_107 H locs ls hf hP hD hS hl
        unfold fX4_reads_j107 at hf
        refine lv_iconst (v := 0) hx hb dX4_reads_107 (by decide) ?_
        exact J108 0 x2_107 v_part_107 v_digits_107 v_isNought_107 v_done_107 _ _ _ hf hP hD hS (lv_sub hl [0, 1] rfl)
      refine lv_icmp_ne (tgt := 107) hx hb dX4_reads_85 (by decide) (fun c10 => ?_) (fun c10 => ?_)
      · have hf := (if_neg c10).symm.trans hf
        exact J107 s0_79 v_part_79 v_digits_79 v_isNought_79 v_done_79 _ _ _ hf hP hD hS (lv_sub hl [1, 0] rfl)
      · have hf := (if_pos c10).symm.trans hf
        refine lv_iload_n hx hb dX4_reads_88 rfl (lv_at hl 2 rfl) ?_
        refine lv_bipush (v := 59) hx hb dX4_reads_89 (by decide) ?_
        refine lv_icmp_ne (tgt := 107) hx hb dX4_reads_91 (by decide) (fun c11 => ?_) (fun c11 => ?_)
        · have hf := (if_neg c11).symm.trans hf
          exact J107 s0_79 v_part_79 v_digits_79 v_isNought_79 v_done_79 _ _ _ hf hP hD hS (lv_sub hl [1, 0] rfl)
        · have hf := (if_pos c11).symm.trans hf
          refine lv_aload_n hx hb dX4_reads_94 rfl (lv_at hl 1 rfl) ?_
          refine va_get (D := D) (ci := 4) (v := .int v_done_79) (C := RX4) (T := TX4) (N := 34) hx hb hts iX4 hown hK.1 hP 0 rfl rfl 18 (by decide) l107 (fun _ h9 => h9) rfl dX4_reads_95 ?_
          refine lv_bipush (v := 6) hx hb dX4_reads_98 (by decide) ?_
          refine lv_icmp_ge (tgt := 107) hx hb dX4_reads_100 (by decide) (fun c12 => ?_) (fun c12 => ?_)
          · have hf := (if_pos c12).symm.trans hf
            exact J107 s0_79 v_part_79 v_digits_79 v_isNought_79 v_done_79 _ _ _ hf hP hD hS (lv_sub hl [1, 0] rfl)
          · have hf := (if_neg c12).symm.trans hf
            refine lv_iconst (v := 1) hx hb dX4_reads_103 (by decide) ?_
            refine lv_goto (tgt := 108) hx hb dX4_reads_104 (by decide) ?_
            exact J108 1 s0_79 v_part_79 v_digits_79 v_isNought_79 v_done_79 _ _ _ hf hP hD hS (lv_sub hl [1, 0] rfl)
    have J78 : ∀ (v_part_78 : Int32) (v_digits_78 : Int32) (v_isNought_78 : Int32) (v_done_78 : Int32) (H : Heap) (locs : List Loc) (ls : Array Slot), fX4_reads_j78 x1 v_part_78 v_digits_78 v_isNought_78 v_done_78 = some (r0, w_part, w_digits, w_isNought, w_done) → va_P D vwCl [(a_this, .inr (4, (o_this_weight :: o_this_hole :: o_this_held :: o_this_law :: o_this_suits :: o_this_plaintiff :: o_this_defendant :: o_this_worth :: o_this_winner :: o_this_order :: o_this_sightWeight :: o_this_sightMany :: o_this_sights :: o_this_pad :: o_this_padMany :: .int v_part_78 :: .int v_digits_78 :: .int v_isNought_78 :: .int v_done_78 :: o_this_by :: o_this_extra :: o_this_waiting :: o_this_floats :: o_this_decided :: o_this_sunk :: o_this_has :: o_this_bestOrder :: o_this_wins :: o_this_firstTens :: o_this_moves :: o_this_kept :: o_this_isKept :: o_this_keptAt :: o_this_isWriting :: [])))] H → va_D A [(a_this, .inr (4, (o_this_weight :: o_this_hole :: o_this_held :: o_this_law :: o_this_suits :: o_this_plaintiff :: o_this_defendant :: o_this_worth :: o_this_winner :: o_this_order :: o_this_sightWeight :: o_this_sightMany :: o_this_sights :: o_this_pad :: o_this_padMany :: .int v_part_78 :: .int v_digits_78 :: .int v_isNought_78 :: .int v_done_78 :: o_this_by :: o_this_extra :: o_this_waiting :: o_this_floats :: o_this_decided :: o_this_sunk :: o_this_has :: o_this_bestOrder :: o_this_wins :: o_this_firstTens :: o_this_moves :: o_this_kept :: o_this_isKept :: o_this_keptAt :: o_this_isWriting :: [])))] → va_S A s.heap H locs → lv_has ls 4 [(0, .ref a_this), (1, .int x1)] → W p l e (headSpec wsX4_reads { frames := 1, cells := 0, slots := 0, locals := 25 }).room s m args below meth c H locs 0 0 Q (F0 m 78 ls []) := by
      intro v_part_78 v_digits_78 v_isNought_78 v_done_78 H locs ls hf hP hD hS hl
      unfold fX4_reads_j78 at hf
      refine lv_iconst (v := 0) hx hb dX4_reads_78 (by decide) ?_
      exact J79 0 v_part_78 v_digits_78 v_isNought_78 v_done_78 _ _ _ hf hP hD hS (lv_sub hl [0, 1] rfl)
    refine lv_if_le (tgt := 78) hx hb dX4_reads_24 (by decide) (fun c13 => ?_) (fun c13 => ?_)
    · have hf := (if_pos c13).symm.trans hf
      exact J78 v_part v_digits v_isNought v_done _ _ _ hf hP hD hS (lv_sub hl [0, 1] rfl)
    · have hf := (if_neg c13).symm.trans hf
      refine lv_aload_n hx hb dX4_reads_27 rfl (lv_at hl 0 rfl) ?_
      refine va_get (D := D) (ci := 4) (v := .int v_part) (C := RX4) (T := TX4) (N := 34) hx hb hts iX4 hown hK.1 hP 0 rfl rfl 15 (by decide) l89 (fun _ h9 => h9) rfl dX4_reads_28 ?_
      have J40 : ∀ (v_part_40 : Int32) (v_digits_40 : Int32) (v_isNought_40 : Int32) (v_done_40 : Int32) (H : Heap) (locs : List Loc) (ls : Array Slot), fX4_reads_j40 x1 v_part_40 v_digits_40 v_isNought_40 v_done_40 = some (r0, w_part, w_digits, w_isNought, w_done) → va_P D vwCl [(a_this, .inr (4, (o_this_weight :: o_this_hole :: o_this_held :: o_this_law :: o_this_suits :: o_this_plaintiff :: o_this_defendant :: o_this_worth :: o_this_winner :: o_this_order :: o_this_sightWeight :: o_this_sightMany :: o_this_sights :: o_this_pad :: o_this_padMany :: .int v_part_40 :: .int v_digits_40 :: .int v_isNought_40 :: .int v_done_40 :: o_this_by :: o_this_extra :: o_this_waiting :: o_this_floats :: o_this_decided :: o_this_sunk :: o_this_has :: o_this_bestOrder :: o_this_wins :: o_this_firstTens :: o_this_moves :: o_this_kept :: o_this_isKept :: o_this_keptAt :: o_this_isWriting :: [])))] H → va_D A [(a_this, .inr (4, (o_this_weight :: o_this_hole :: o_this_held :: o_this_law :: o_this_suits :: o_this_plaintiff :: o_this_defendant :: o_this_worth :: o_this_winner :: o_this_order :: o_this_sightWeight :: o_this_sightMany :: o_this_sights :: o_this_pad :: o_this_padMany :: .int v_part_40 :: .int v_digits_40 :: .int v_isNought_40 :: .int v_done_40 :: o_this_by :: o_this_extra :: o_this_waiting :: o_this_floats :: o_this_decided :: o_this_sunk :: o_this_has :: o_this_bestOrder :: o_this_wins :: o_this_firstTens :: o_this_moves :: o_this_kept :: o_this_isKept :: o_this_keptAt :: o_this_isWriting :: [])))] → va_S A s.heap H locs → lv_has ls 4 [(0, .ref a_this), (1, .int x1)] → W p l e (headSpec wsX4_reads { frames := 1, cells := 0, slots := 0, locals := 25 }).room s m args below meth c H locs 0 0 Q (F0 m 40 ls []) := by
        intro v_part_40 v_digits_40 v_isNought_40 v_done_40 H locs ls hf hP hD hS hl
        unfold fX4_reads_j40 at hf
        refine lv_aload_n hx hb dX4_reads_40 rfl (lv_at hl 0 rfl) ?_
        refine va_get (D := D) (ci := 4) (v := .int v_part_40) (C := RX4) (T := TX4) (N := 34) hx hb hts iX4 hown hK.1 hP 0 rfl rfl 15 (by decide) l89 (fun _ h9 => h9) rfl dX4_reads_41 ?_
        refine lv_iconst (v := 1) hx hb dX4_reads_44 (by decide) ?_
        have J54 : ∀ (v_part_54 : Int32) (v_digits_54 : Int32) (v_isNought_54 : Int32) (v_done_54 : Int32) (H : Heap) (locs : List Loc) (ls : Array Slot), fX4_reads_j54 x1 v_part_54 v_digits_54 v_isNought_54 v_done_54 = some (r0, w_part, w_digits, w_isNought, w_done) → va_P D vwCl [(a_this, .inr (4, (o_this_weight :: o_this_hole :: o_this_held :: o_this_law :: o_this_suits :: o_this_plaintiff :: o_this_defendant :: o_this_worth :: o_this_winner :: o_this_order :: o_this_sightWeight :: o_this_sightMany :: o_this_sights :: o_this_pad :: o_this_padMany :: .int v_part_54 :: .int v_digits_54 :: .int v_isNought_54 :: .int v_done_54 :: o_this_by :: o_this_extra :: o_this_waiting :: o_this_floats :: o_this_decided :: o_this_sunk :: o_this_has :: o_this_bestOrder :: o_this_wins :: o_this_firstTens :: o_this_moves :: o_this_kept :: o_this_isKept :: o_this_keptAt :: o_this_isWriting :: [])))] H → va_D A [(a_this, .inr (4, (o_this_weight :: o_this_hole :: o_this_held :: o_this_law :: o_this_suits :: o_this_plaintiff :: o_this_defendant :: o_this_worth :: o_this_winner :: o_this_order :: o_this_sightWeight :: o_this_sightMany :: o_this_sights :: o_this_pad :: o_this_padMany :: .int v_part_54 :: .int v_digits_54 :: .int v_isNought_54 :: .int v_done_54 :: o_this_by :: o_this_extra :: o_this_waiting :: o_this_floats :: o_this_decided :: o_this_sunk :: o_this_has :: o_this_bestOrder :: o_this_wins :: o_this_firstTens :: o_this_moves :: o_this_kept :: o_this_isKept :: o_this_keptAt :: o_this_isWriting :: [])))] → va_S A s.heap H locs → lv_has ls 4 [(0, .ref a_this), (1, .int x1)] → W p l e (headSpec wsX4_reads { frames := 1, cells := 0, slots := 0, locals := 25 }).room s m args below meth c H locs 0 0 Q (F0 m 54 ls []) := by
          intro v_part_54 v_digits_54 v_isNought_54 v_done_54 H locs ls hf hP hD hS hl
          unfold fX4_reads_j54 at hf
          refine lv_aload_n hx hb dX4_reads_54 rfl (lv_at hl 0 rfl) ?_
          refine va_get (D := D) (ci := 4) (v := .int v_part_54) (C := RX4) (T := TX4) (N := 34) hx hb hts iX4 hown hK.1 hP 0 rfl rfl 15 (by decide) l89 (fun _ h9 => h9) rfl dX4_reads_55 ?_
          refine lv_iconst (v := 2) hx hb dX4_reads_58 (by decide) ?_
          refine lv_icmp_ne (tgt := 78) hx hb dX4_reads_59 (by decide) (fun c14 => ?_) (fun c14 => ?_)
          · have hf := (if_neg c14).symm.trans hf
            exact J78 v_part_54 v_digits_54 v_isNought_54 v_done_54 _ _ _ hf hP hD hS (lv_sub hl [0, 1] rfl)
          · have hf := (if_pos c14).symm.trans hf
            refine lv_iload_n hx hb dX4_reads_62 rfl (lv_at hl 1 rfl) ?_
            refine lv_bipush (v := 112) hx hb dX4_reads_63 (by decide) ?_
            refine lv_icmp_eq (tgt := 74) hx hb dX4_reads_65 (by decide) (fun c15 => ?_) (fun c15 => ?_)
            · have hf := (if_pos c15).symm.trans hf
              refine lv_iconst (v := 1) hx hb dX4_reads_74 (by decide) ?_
              refine lv_goto (tgt := 79) hx hb dX4_reads_75 (by decide) ?_
              exact J79 1 v_part_54 v_digits_54 v_isNought_54 v_done_54 _ _ _ hf hP hD hS (lv_sub hl [0, 1] rfl)
            · have hf := (if_neg c15).symm.trans hf
              refine lv_iload_n hx hb dX4_reads_68 rfl (lv_at hl 1 rfl) ?_
              refine lv_bipush (v := 100) hx hb dX4_reads_69 (by decide) ?_
              refine lv_icmp_ne (tgt := 78) hx hb dX4_reads_71 (by decide) (fun c16 => ?_) (fun c16 => ?_)
              · have hf := (if_neg c16).symm.trans hf
                exact J78 v_part_54 v_digits_54 v_isNought_54 v_done_54 _ _ _ hf hP hD hS (lv_sub hl [0, 1] rfl)
              · have hf := (if_pos c16).symm.trans hf
                refine lv_iconst (v := 1) hx hb dX4_reads_74 (by decide) ?_
                refine lv_goto (tgt := 79) hx hb dX4_reads_75 (by decide) ?_
                exact J79 1 v_part_54 v_digits_54 v_isNought_54 v_done_54 _ _ _ hf hP hD hS (lv_sub hl [0, 1] rfl)
        refine lv_icmp_ne (tgt := 54) hx hb dX4_reads_45 (by decide) (fun c17 => ?_) (fun c17 => ?_)
        · have hf := (if_neg c17).symm.trans hf
          exact J54 v_part_40 v_digits_40 v_isNought_40 v_done_40 _ _ _ hf hP hD hS (lv_sub hl [0, 1] rfl)
        · have hf := (if_pos c17).symm.trans hf
          refine lv_iload_n hx hb dX4_reads_48 rfl (lv_at hl 1 rfl) ?_
          refine lv_bipush (v := 61) hx hb dX4_reads_49 (by decide) ?_
          refine lv_icmp_eq (tgt := 74) hx hb dX4_reads_51 (by decide) (fun c18 => ?_) (fun c18 => ?_)
          · have hf := (if_pos c18).symm.trans hf
            refine lv_iconst (v := 1) hx hb dX4_reads_74 (by decide) ?_
            refine lv_goto (tgt := 79) hx hb dX4_reads_75 (by decide) ?_
            exact J79 1 v_part_40 v_digits_40 v_isNought_40 v_done_40 _ _ _ hf hP hD hS (lv_sub hl [0, 1] rfl)
          · have hf := (if_neg c18).symm.trans hf
            exact J54 v_part_40 v_digits_40 v_isNought_40 v_done_40 _ _ _ hf hP hD hS (lv_sub hl [0, 1] rfl)
      refine lv_if_ne (tgt := 40) hx hb dX4_reads_31 (by decide) (fun c19 => ?_) (fun c19 => ?_)
      · have hf := (if_neg c19).symm.trans hf
        exact J40 v_part v_digits v_isNought v_done _ _ _ hf hP hD hS (lv_sub hl [0, 1] rfl)
      · have hf := (if_pos c19).symm.trans hf
        refine lv_iload_n hx hb dX4_reads_34 rfl (lv_at hl 1 rfl) ?_
        refine lv_bipush (v := 43) hx hb dX4_reads_35 (by decide) ?_
        refine lv_icmp_eq (tgt := 74) hx hb dX4_reads_37 (by decide) (fun c20 => ?_) (fun c20 => ?_)
        · have hf := (if_pos c20).symm.trans hf
          refine lv_iconst (v := 1) hx hb dX4_reads_74 (by decide) ?_
          refine lv_goto (tgt := 79) hx hb dX4_reads_75 (by decide) ?_
          exact J79 1 v_part v_digits v_isNought v_done _ _ _ hf hP hD hS (lv_sub hl [0, 1] rfl)
        · have hf := (if_neg c20).symm.trans hf
          exact J40 v_part v_digits v_isNought v_done _ _ _ hf hP hD hS (lv_sub hl [0, 1] rfl)
  · have hf := (if_neg c3).symm.trans hf
    refine lv_aload_n hx hb dX4_reads_14 rfl (lv_at hl 0 rfl) ?_
    refine lv_iload_n hx hb dX4_reads_15 rfl (lv_at hl 1 rfl) ?_
    obtain ⟨r21, u22, u23, hc24, hf⟩ := bnd3_some hf
    refine k_ci (wc := [(a_this, .inr (4, (o_this_weight :: o_this_hole :: o_this_held :: o_this_law :: o_this_suits :: o_this_plaintiff :: o_this_defendant :: o_this_worth :: o_this_winner :: o_this_order :: o_this_sightWeight :: o_this_sightMany :: o_this_sights :: o_this_pad :: o_this_padMany :: .int v_part :: .int v_digits :: .int v_isNought :: .int v_done :: o_this_by :: o_this_extra :: o_this_waiting :: o_this_floats :: o_this_decided :: o_this_sunk :: o_this_has :: o_this_bestOrder :: o_this_wins :: o_this_firstTens :: o_this_moves :: o_this_kept :: o_this_isKept :: o_this_keptAt :: o_this_isWriting :: [])))]) (wr := []) (w1 := [(a_this, .inr (4, (o_this_weight :: o_this_hole :: o_this_held :: o_this_law :: o_this_suits :: o_this_plaintiff :: o_this_defendant :: o_this_worth :: o_this_winner :: o_this_order :: o_this_sightWeight :: o_this_sightMany :: o_this_sights :: o_this_pad :: o_this_padMany :: .int v_part :: .int u22 :: .int u23 :: .int v_done :: o_this_by :: o_this_extra :: o_this_waiting :: o_this_floats :: o_this_decided :: o_this_sunk :: o_this_has :: o_this_bestOrder :: o_this_wins :: o_this_firstTens :: o_this_moves :: o_this_kept :: o_this_isKept :: o_this_keptAt :: o_this_isWriting :: [])))]) (ws' := [(a_this, .inr (4, (o_this_weight :: o_this_hole :: o_this_held :: o_this_law :: o_this_suits :: o_this_plaintiff :: o_this_defendant :: o_this_worth :: o_this_winner :: o_this_order :: o_this_sightWeight :: o_this_sightMany :: o_this_sights :: o_this_pad :: o_this_padMany :: .int v_part :: .int u22 :: .int u23 :: .int v_done :: o_this_by :: o_this_extra :: o_this_waiting :: o_this_floats :: o_this_decided :: o_this_sunk :: o_this_has :: o_this_bestOrder :: o_this_wins :: o_this_firstTens :: o_this_moves :: o_this_kept :: o_this_isKept :: o_this_keptAt :: o_this_isWriting :: [])))]) (va_runV (As := [.int x1]) (rest := []) ⟨hx, hb, hml, hown, hts⟩ (tX4_readsDigit l D cI cJ cZ cB a_this o_this_weight o_this_hole o_this_held o_this_law o_this_suits o_this_plaintiff o_this_defendant o_this_worth o_this_winner o_this_order o_this_sightWeight o_this_sightMany o_this_sights o_this_pad o_this_padMany (.int v_done) o_this_by o_this_extra o_this_waiting o_this_floats o_this_decided o_this_sunk o_this_has o_this_bestOrder o_this_wins o_this_firstTens o_this_moves o_this_kept o_this_isKept o_this_keptAt o_this_isWriting x1 v_part v_digits v_isNought r21 u22 u23 hc24 H.size) (cwV 1 hts gX4_reads_X4_readsDigit rfl rfl rfl (by decide +kernel) ⟨Nat.le_of_ble_eq_true rfl, Nat.le_of_ble_eq_true rfl⟩) (k_preV (ci := 4) (q0 := 0) (is := [0]) hK hP hD rfl rfl rfl rfl) rfl rfl hl.1 rfl (lv_room (Nat.le_of_ble_eq_true rfl)) dX4_reads_16 ⟨Nat.zero_le _, Nat.zero_le _⟩) hP hD hS hA [0] [] [0] rfl rfl rfl (by decide) rfl rfl (fun H locs hP hD hS => ?_)
    obtain ⟨hnar, hf⟩ := gd_some hf
    cases hf
    subst hQ
    exact k_rz hx hb hr hlocks hP hD hS hnar dX4_reads_19

set_option maxHeartbeats 4000000 in
set_option maxRecDepth 100000 in
theorem tX4_faultOfSuits (l : Launch) (D : va_G) (cI cJ cZ cB : ClassId) (a_this : Nat) (a_pad : Nat) (o_this_weight : Value) (o_this_hole : Value) (o_this_held : Value) (o_this_law : Value) (o_this_suits : Value) (o_this_plaintiff : Value) (o_this_defendant : Value) (o_this_worth : Value) (o_this_winner : Value) (o_this_order : Value) (o_this_sightWeight : Value) (o_this_sightMany : Value) (o_this_sights : Value) (o_this_by : Value) (o_this_extra : Value) (o_this_waiting : Value) (o_this_floats : Value) (o_this_decided : Value) (o_this_sunk : Value) (o_this_has : Value) (o_this_bestOrder : Value) (o_this_wins : Value) (o_this_firstTens : Value) (o_this_moves : Value) (o_this_kept : Value) (o_this_isKept : Value) (o_this_keptAt : Value) (o_this_isWriting : Value) (v_part : Int32) (v_digits : Int32) (v_isNought : Int32) (v_done : Int32) (v_padMany : Int32) (v_pad : Nat → Int32) (r0 : Int32) (w_part : Int32) (w_digits : Int32) (w_isNought : Int32) (w_done : Int32) (hf : fX4_faultOfSuits v_padMany v_pad = some (r0, w_part, w_digits, w_isNought, w_done)) : MW l yX4_faultOfSuits wsX4_faultOfSuits { frames := 2, cells := 0, slots := 0, locals := 48 } D cI cJ cZ cB [(a_this, .inr (4, (o_this_weight :: o_this_hole :: o_this_held :: o_this_law :: o_this_suits :: o_this_plaintiff :: o_this_defendant :: o_this_worth :: o_this_winner :: o_this_order :: o_this_sightWeight :: o_this_sightMany :: o_this_sights :: .ref a_pad :: .int v_padMany :: .int v_part :: .int v_digits :: .int v_isNought :: .int v_done :: o_this_by :: o_this_extra :: o_this_waiting :: o_this_floats :: o_this_decided :: o_this_sunk :: o_this_has :: o_this_bestOrder :: o_this_wins :: o_this_firstTens :: o_this_moves :: o_this_kept :: o_this_isKept :: o_this_keptAt :: o_this_isWriting :: []))), (a_pad, .inl (cI, 60, .inl v_pad))] [.ref a_this] (QWi D r0 [(a_this, .inr (4, (o_this_weight :: o_this_hole :: o_this_held :: o_this_law :: o_this_suits :: o_this_plaintiff :: o_this_defendant :: o_this_worth :: o_this_winner :: o_this_order :: o_this_sightWeight :: o_this_sightMany :: o_this_sights :: .ref a_pad :: .int v_padMany :: .int w_part :: .int w_digits :: .int w_isNought :: .int w_done :: o_this_by :: o_this_extra :: o_this_waiting :: o_this_floats :: o_this_decided :: o_this_sunk :: o_this_has :: o_this_bestOrder :: o_this_wins :: o_this_firstTens :: o_this_moves :: o_this_kept :: o_this_isKept :: o_this_keptAt :: o_this_isWriting :: []))), (a_pad, .inl (cI, 60, .inl v_pad))]) := by
  refine k_body (cc := cX4_faultOfSuits) (maxL := 2) (ret := (some .int)) (by decide) rfl (Nat.le_of_ble_eq_true rfl) ?_
  intro p e s m args below meth c hx hb hr hml hts hown hlocks hname hK A hA hP hD hS ls hl
  have hl : lv_has ls 2 [(0, .ref a_this)] := hl
  generalize hQ : MQ below ((QWi D r0 [(a_this, .inr (4, (o_this_weight :: o_this_hole :: o_this_held :: o_this_law :: o_this_suits :: o_this_plaintiff :: o_this_defendant :: o_this_worth :: o_this_winner :: o_this_order :: o_this_sightWeight :: o_this_sightMany :: o_this_sights :: .ref a_pad :: .int v_padMany :: .int w_part :: .int w_digits :: .int w_isNought :: .int w_done :: o_this_by :: o_this_extra :: o_this_waiting :: o_this_floats :: o_this_decided :: o_this_sunk :: o_this_has :: o_this_bestOrder :: o_this_wins :: o_this_firstTens :: o_this_moves :: o_this_kept :: o_this_isKept :: o_this_keptAt :: o_this_isWriting :: []))), (a_pad, .inl (cI, 60, .inl v_pad))]) A) args s 0 0 A = Q
  obtain ⟨H, hH⟩ : ∃ H, H = s.heap := ⟨_, rfl⟩
  obtain ⟨locs, hlo⟩ : ∃ z : List Loc, z = [] := ⟨_, rfl⟩
  have hP : va_P D vwCl [(a_this, .inr (4, (o_this_weight :: o_this_hole :: o_this_held :: o_this_law :: o_this_suits :: o_this_plaintiff :: o_this_defendant :: o_this_worth :: o_this_winner :: o_this_order :: o_this_sightWeight :: o_this_sightMany :: o_this_sights :: .ref a_pad :: .int v_padMany :: .int v_part :: .int v_digits :: .int v_isNought :: .int v_done :: o_this_by :: o_this_extra :: o_this_waiting :: o_this_floats :: o_this_decided :: o_this_sunk :: o_this_has :: o_this_bestOrder :: o_this_wins :: o_this_firstTens :: o_this_moves :: o_this_kept :: o_this_isKept :: o_this_keptAt :: o_this_isWriting :: []))), (a_pad, .inl (cI, 60, .inl v_pad))] H := by rw [hH]; exact hP
  have hS : va_S A s.heap H locs := by rw [hH, hlo]; exact hS
  suffices hg : W p l e (headSpec wsX4_faultOfSuits { frames := 2, cells := 0, slots := 0, locals := 48 }).room s m args below meth c H locs 0 0 Q (F0 m 0 ls []) by rw [hH, hlo] at hg; exact hg
  have l31 := hts (.fieldLink RX4 31 "CandleCourtModel" "pad" "[I") (by decide +kernel)
  have l86 := hts (.fieldLink RX4 86 "CandleCourtModel" "padMany" "I") (by decide +kernel)
  have l89 := hts (.fieldLink RX4 89 "CandleCourtModel" "part" "I") (by decide +kernel)
  have l92 := hts (.fieldLink RX4 92 "CandleCourtModel" "digits" "I") (by decide +kernel)
  have l95 := hts (.fieldLink RX4 95 "CandleCourtModel" "isNought" "Z") (by decide +kernel)
  have l107 := hts (.fieldLink RX4 107 "CandleCourtModel" "done" "I") (by decide +kernel)
  have iX4 : ∀ w ∈ wsX40, w ∈ wsX4_faultOfSuits := by decide +kernel
  unfold fX4_faultOfSuits at hf
  refine lv_aload_n hx hb dX4_faultOfSuits_0 rfl (lv_at hl 0 rfl) ?_
  refine lv_iconst (v := 0) hx hb dX4_faultOfSuits_1 (by decide) ?_
  refine va_put (D := D) (ci := 4) (v := .int 0) (ty := .int) (C := RX4) (T := TX4) (N := 34) hx hb hts iX4 tyX4 tyX4_ok nmX4 hown hK.1 hP hD hS 0 rfl rfl 15 (by decide) l89 (fun _ h9 => h9) rfl (by decide +kernel) rfl rfl (Nat.le_of_ble_eq_true rfl) dX4_faultOfSuits_2 (fun H locs hP hD hS => ?_)
  have hP : va_P D vwCl [(a_this, .inr (4, (o_this_weight :: o_this_hole :: o_this_held :: o_this_law :: o_this_suits :: o_this_plaintiff :: o_this_defendant :: o_this_worth :: o_this_winner :: o_this_order :: o_this_sightWeight :: o_this_sightMany :: o_this_sights :: .ref a_pad :: .int v_padMany :: .int 0 :: .int v_digits :: .int v_isNought :: .int v_done :: o_this_by :: o_this_extra :: o_this_waiting :: o_this_floats :: o_this_decided :: o_this_sunk :: o_this_has :: o_this_bestOrder :: o_this_wins :: o_this_firstTens :: o_this_moves :: o_this_kept :: o_this_isKept :: o_this_keptAt :: o_this_isWriting :: []))), (a_pad, .inl (cI, 60, .inl v_pad))] H := hP
  have hD : va_D A [(a_this, .inr (4, (o_this_weight :: o_this_hole :: o_this_held :: o_this_law :: o_this_suits :: o_this_plaintiff :: o_this_defendant :: o_this_worth :: o_this_winner :: o_this_order :: o_this_sightWeight :: o_this_sightMany :: o_this_sights :: .ref a_pad :: .int v_padMany :: .int 0 :: .int v_digits :: .int v_isNought :: .int v_done :: o_this_by :: o_this_extra :: o_this_waiting :: o_this_floats :: o_this_decided :: o_this_sunk :: o_this_has :: o_this_bestOrder :: o_this_wins :: o_this_firstTens :: o_this_moves :: o_this_kept :: o_this_isKept :: o_this_keptAt :: o_this_isWriting :: []))), (a_pad, .inl (cI, 60, .inl v_pad))] := hD
  refine lv_aload_n hx hb dX4_faultOfSuits_5 rfl (lv_at hl 0 rfl) ?_
  refine lv_iconst (v := 0) hx hb dX4_faultOfSuits_6 (by decide) ?_
  refine va_put (D := D) (ci := 4) (v := .int 0) (ty := .int) (C := RX4) (T := TX4) (N := 34) hx hb hts iX4 tyX4 tyX4_ok nmX4 hown hK.1 hP hD hS 0 rfl rfl 16 (by decide) l92 (fun _ h9 => h9) rfl (by decide +kernel) rfl rfl (Nat.le_of_ble_eq_true rfl) dX4_faultOfSuits_7 (fun H locs hP hD hS => ?_)
  have hP : va_P D vwCl [(a_this, .inr (4, (o_this_weight :: o_this_hole :: o_this_held :: o_this_law :: o_this_suits :: o_this_plaintiff :: o_this_defendant :: o_this_worth :: o_this_winner :: o_this_order :: o_this_sightWeight :: o_this_sightMany :: o_this_sights :: .ref a_pad :: .int v_padMany :: .int 0 :: .int 0 :: .int v_isNought :: .int v_done :: o_this_by :: o_this_extra :: o_this_waiting :: o_this_floats :: o_this_decided :: o_this_sunk :: o_this_has :: o_this_bestOrder :: o_this_wins :: o_this_firstTens :: o_this_moves :: o_this_kept :: o_this_isKept :: o_this_keptAt :: o_this_isWriting :: []))), (a_pad, .inl (cI, 60, .inl v_pad))] H := hP
  have hD : va_D A [(a_this, .inr (4, (o_this_weight :: o_this_hole :: o_this_held :: o_this_law :: o_this_suits :: o_this_plaintiff :: o_this_defendant :: o_this_worth :: o_this_winner :: o_this_order :: o_this_sightWeight :: o_this_sightMany :: o_this_sights :: .ref a_pad :: .int v_padMany :: .int 0 :: .int 0 :: .int v_isNought :: .int v_done :: o_this_by :: o_this_extra :: o_this_waiting :: o_this_floats :: o_this_decided :: o_this_sunk :: o_this_has :: o_this_bestOrder :: o_this_wins :: o_this_firstTens :: o_this_moves :: o_this_kept :: o_this_isKept :: o_this_keptAt :: o_this_isWriting :: []))), (a_pad, .inl (cI, 60, .inl v_pad))] := hD
  refine lv_aload_n hx hb dX4_faultOfSuits_10 rfl (lv_at hl 0 rfl) ?_
  refine lv_iconst (v := 0) hx hb dX4_faultOfSuits_11 (by decide) ?_
  refine va_put (D := D) (ci := 4) (v := .int 0) (ty := .boolean) (C := RX4) (T := TX4) (N := 34) hx hb hts iX4 tyX4 tyX4_ok nmX4 hown hK.1 hP hD hS 0 rfl rfl 17 (by decide) l95 (fun _ h9 => h9) rfl (by decide +kernel) (by decide) (by decide) (Nat.le_of_ble_eq_true rfl) dX4_faultOfSuits_12 (fun H locs hP hD hS => ?_)
  have hP : va_P D vwCl [(a_this, .inr (4, (o_this_weight :: o_this_hole :: o_this_held :: o_this_law :: o_this_suits :: o_this_plaintiff :: o_this_defendant :: o_this_worth :: o_this_winner :: o_this_order :: o_this_sightWeight :: o_this_sightMany :: o_this_sights :: .ref a_pad :: .int v_padMany :: .int 0 :: .int 0 :: .int 0 :: .int v_done :: o_this_by :: o_this_extra :: o_this_waiting :: o_this_floats :: o_this_decided :: o_this_sunk :: o_this_has :: o_this_bestOrder :: o_this_wins :: o_this_firstTens :: o_this_moves :: o_this_kept :: o_this_isKept :: o_this_keptAt :: o_this_isWriting :: []))), (a_pad, .inl (cI, 60, .inl v_pad))] H := hP
  have hD : va_D A [(a_this, .inr (4, (o_this_weight :: o_this_hole :: o_this_held :: o_this_law :: o_this_suits :: o_this_plaintiff :: o_this_defendant :: o_this_worth :: o_this_winner :: o_this_order :: o_this_sightWeight :: o_this_sightMany :: o_this_sights :: .ref a_pad :: .int v_padMany :: .int 0 :: .int 0 :: .int 0 :: .int v_done :: o_this_by :: o_this_extra :: o_this_waiting :: o_this_floats :: o_this_decided :: o_this_sunk :: o_this_has :: o_this_bestOrder :: o_this_wins :: o_this_firstTens :: o_this_moves :: o_this_kept :: o_this_isKept :: o_this_keptAt :: o_this_isWriting :: []))), (a_pad, .inl (cI, 60, .inl v_pad))] := hD
  refine lv_aload_n hx hb dX4_faultOfSuits_15 rfl (lv_at hl 0 rfl) ?_
  refine lv_iconst (v := 0) hx hb dX4_faultOfSuits_16 (by decide) ?_
  refine va_put (D := D) (ci := 4) (v := .int 0) (ty := .int) (C := RX4) (T := TX4) (N := 34) hx hb hts iX4 tyX4 tyX4_ok nmX4 hown hK.1 hP hD hS 0 rfl rfl 18 (by decide) l107 (fun _ h9 => h9) rfl (by decide +kernel) rfl rfl (Nat.le_of_ble_eq_true rfl) dX4_faultOfSuits_17 (fun H locs hP hD hS => ?_)
  have hP : va_P D vwCl [(a_this, .inr (4, (o_this_weight :: o_this_hole :: o_this_held :: o_this_law :: o_this_suits :: o_this_plaintiff :: o_this_defendant :: o_this_worth :: o_this_winner :: o_this_order :: o_this_sightWeight :: o_this_sightMany :: o_this_sights :: .ref a_pad :: .int v_padMany :: .int 0 :: .int 0 :: .int 0 :: .int 0 :: o_this_by :: o_this_extra :: o_this_waiting :: o_this_floats :: o_this_decided :: o_this_sunk :: o_this_has :: o_this_bestOrder :: o_this_wins :: o_this_firstTens :: o_this_moves :: o_this_kept :: o_this_isKept :: o_this_keptAt :: o_this_isWriting :: []))), (a_pad, .inl (cI, 60, .inl v_pad))] H := hP
  have hD : va_D A [(a_this, .inr (4, (o_this_weight :: o_this_hole :: o_this_held :: o_this_law :: o_this_suits :: o_this_plaintiff :: o_this_defendant :: o_this_worth :: o_this_winner :: o_this_order :: o_this_sightWeight :: o_this_sightMany :: o_this_sights :: .ref a_pad :: .int v_padMany :: .int 0 :: .int 0 :: .int 0 :: .int 0 :: o_this_by :: o_this_extra :: o_this_waiting :: o_this_floats :: o_this_decided :: o_this_sunk :: o_this_has :: o_this_bestOrder :: o_this_wins :: o_this_firstTens :: o_this_moves :: o_this_kept :: o_this_isKept :: o_this_keptAt :: o_this_isWriting :: []))), (a_pad, .inl (cI, 60, .inl v_pad))] := hD
  refine lv_iconst (v := 0) hx hb dX4_faultOfSuits_20 (by decide) ?_
  refine lv_istore_n (lv' := [(1, .int 0), (0, .ref a_this)]) hx hb dX4_faultOfSuits_21 rfl hl (by decide) rfl (fun ls hl => ?_)
  have L22 : ∀ (n22 : Nat) (x1_22 : Int32) (v_part_22 : Int32) (v_digits_22 : Int32) (v_isNought_22 : Int32) (v_done_22 : Int32) (H : Heap) (locs : List Loc) (ls : Array Slot), fX4_faultOfSuits_l22 v_padMany v_pad n22 x1_22 v_part_22 v_digits_22 v_isNought_22 v_done_22 = some (r0, w_part, w_digits, w_isNought, w_done) → va_P D vwCl [(a_this, .inr (4, (o_this_weight :: o_this_hole :: o_this_held :: o_this_law :: o_this_suits :: o_this_plaintiff :: o_this_defendant :: o_this_worth :: o_this_winner :: o_this_order :: o_this_sightWeight :: o_this_sightMany :: o_this_sights :: .ref a_pad :: .int v_padMany :: .int v_part_22 :: .int v_digits_22 :: .int v_isNought_22 :: .int v_done_22 :: o_this_by :: o_this_extra :: o_this_waiting :: o_this_floats :: o_this_decided :: o_this_sunk :: o_this_has :: o_this_bestOrder :: o_this_wins :: o_this_firstTens :: o_this_moves :: o_this_kept :: o_this_isKept :: o_this_keptAt :: o_this_isWriting :: []))), (a_pad, .inl (cI, 60, .inl v_pad))] H → va_D A [(a_this, .inr (4, (o_this_weight :: o_this_hole :: o_this_held :: o_this_law :: o_this_suits :: o_this_plaintiff :: o_this_defendant :: o_this_worth :: o_this_winner :: o_this_order :: o_this_sightWeight :: o_this_sightMany :: o_this_sights :: .ref a_pad :: .int v_padMany :: .int v_part_22 :: .int v_digits_22 :: .int v_isNought_22 :: .int v_done_22 :: o_this_by :: o_this_extra :: o_this_waiting :: o_this_floats :: o_this_decided :: o_this_sunk :: o_this_has :: o_this_bestOrder :: o_this_wins :: o_this_firstTens :: o_this_moves :: o_this_kept :: o_this_isKept :: o_this_keptAt :: o_this_isWriting :: []))), (a_pad, .inl (cI, 60, .inl v_pad))] → va_S A s.heap H locs → lv_has ls 2 [(0, .ref a_this), (1, .int x1_22)] → W p l e (headSpec wsX4_faultOfSuits { frames := 2, cells := 0, slots := 0, locals := 48 }).room s m args below meth c H locs 0 0 Q (F0 m 22 ls []) := by
    intro n22
    induction n22 with
    | zero =>
      intro x1_22 v_part_22 v_digits_22 v_isNought_22 v_done_22 H locs ls hf
      have hf : (none : Option (Int32 × (Int32) × (Int32) × (Int32) × (Int32))) = some (r0, w_part, w_digits, w_isNought, w_done) := hf
      cases hf
    | succ n22 ih22 =>
      intro x1_22 v_part_22 v_digits_22 v_isNought_22 v_done_22 H locs ls hf hP hD hS hl
      rw [fX4_faultOfSuits_l22] at hf
      refine lv_iload_n hx hb dX4_faultOfSuits_22 rfl (lv_at hl 1 rfl) ?_
      refine lv_aload_n hx hb dX4_faultOfSuits_23 rfl (lv_at hl 0 rfl) ?_
      refine va_get (D := D) (ci := 4) (v := .int v_padMany) (C := RX4) (T := TX4) (N := 34) hx hb hts iX4 hown hK.1 hP 0 rfl rfl 14 (by decide) l86 (fun _ h9 => h9) rfl dX4_faultOfSuits_24 ?_
      refine lv_icmp_ge (tgt := 51) hx hb dX4_faultOfSuits_27 (by decide) (fun c1 => ?_) (fun c1 => ?_)
      · have hf := (if_pos c1).symm.trans hf
        refine lv_aload_n hx hb dX4_faultOfSuits_51 rfl (lv_at hl 0 rfl) ?_
        refine va_get (D := D) (ci := 4) (v := .int v_padMany) (C := RX4) (T := TX4) (N := 34) hx hb hts iX4 hown hK.1 hP 0 rfl rfl 14 (by decide) l86 (fun _ h9 => h9) rfl dX4_faultOfSuits_52 ?_
        refine lv_if_eq (tgt := 66) hx hb dX4_faultOfSuits_55 (by decide) (fun c2 => ?_) (fun c2 => ?_)
        · have hf := (if_pos c2).symm.trans hf
          refine lv_bipush (v := (-6)) hx hb dX4_faultOfSuits_66 (by decide) ?_
          refine lv_goto (tgt := 75) hx hb dX4_faultOfSuits_68 (by decide) ?_
          cases hf
          subst hQ
          exact k_ri hx hb hr hlocks hP hD hS dX4_faultOfSuits_75
        · have hf := (if_neg c2).symm.trans hf
          refine lv_aload_n hx hb dX4_faultOfSuits_58 rfl (lv_at hl 0 rfl) ?_
          refine va_get (D := D) (ci := 4) (v := .int v_part_22) (C := RX4) (T := TX4) (N := 34) hx hb hts iX4 hown hK.1 hP 0 rfl rfl 15 (by decide) l89 (fun _ h9 => h9) rfl dX4_faultOfSuits_59 ?_
          refine lv_iconst (v := 4) hx hb dX4_faultOfSuits_62 (by decide) ?_
          refine lv_icmp_ne (tgt := 71) hx hb dX4_faultOfSuits_63 (by decide) (fun c3 => ?_) (fun c3 => ?_)
          · have hf := (if_neg c3).symm.trans hf
            refine lv_aload_n hx hb dX4_faultOfSuits_71 rfl (lv_at hl 0 rfl) ?_
            refine va_get (D := D) (ci := 4) (v := .int v_padMany) (C := RX4) (T := TX4) (N := 34) hx hb hts iX4 hown hK.1 hP 0 rfl rfl 14 (by decide) l86 (fun _ h9 => h9) rfl dX4_faultOfSuits_72 ?_
            cases hf
            subst hQ
            exact k_ri hx hb hr hlocks hP hD hS dX4_faultOfSuits_75
          · have hf := (if_pos c3).symm.trans hf
            refine lv_bipush (v := (-6)) hx hb dX4_faultOfSuits_66 (by decide) ?_
            refine lv_goto (tgt := 75) hx hb dX4_faultOfSuits_68 (by decide) ?_
            cases hf
            subst hQ
            exact k_ri hx hb hr hlocks hP hD hS dX4_faultOfSuits_75
      · have hf := (if_neg c1).symm.trans hf
        refine lv_aload_n hx hb dX4_faultOfSuits_30 rfl (lv_at hl 0 rfl) ?_
        refine lv_aload_n hx hb dX4_faultOfSuits_31 rfl (lv_at hl 0 rfl) ?_
        refine va_get (D := D) (ci := 4) (v := .ref a_pad) (C := RX4) (T := TX4) (N := 34) hx hb hts iX4 hown hK.1 hP 0 rfl rfl 13 (by decide) l31 (fun _ h9 => h9) rfl dX4_faultOfSuits_32 ?_
        refine lv_iload_n hx hb dX4_faultOfSuits_35 rfl (lv_at hl 1 rfl) ?_
        obtain ⟨h4, hf⟩ := gd_some hf
        refine va_iald (D := D) (i := x1_22) hx hb hK.1 hP 1 0 rfl rfl h4 dX4_faultOfSuits_36 ?_
        obtain ⟨r5, u6, u7, u8, u9, hc10, hf⟩ := bnd5_some hf
        refine k_ci (wc := [(a_this, .inr (4, (o_this_weight :: o_this_hole :: o_this_held :: o_this_law :: o_this_suits :: o_this_plaintiff :: o_this_defendant :: o_this_worth :: o_this_winner :: o_this_order :: o_this_sightWeight :: o_this_sightMany :: o_this_sights :: .ref a_pad :: .int v_padMany :: .int v_part_22 :: .int v_digits_22 :: .int v_isNought_22 :: .int v_done_22 :: o_this_by :: o_this_extra :: o_this_waiting :: o_this_floats :: o_this_decided :: o_this_sunk :: o_this_has :: o_this_bestOrder :: o_this_wins :: o_this_firstTens :: o_this_moves :: o_this_kept :: o_this_isKept :: o_this_keptAt :: o_this_isWriting :: [])))]) (wr := [(a_pad, .inl (cI, 60, .inl v_pad))]) (w1 := [(a_this, .inr (4, (o_this_weight :: o_this_hole :: o_this_held :: o_this_law :: o_this_suits :: o_this_plaintiff :: o_this_defendant :: o_this_worth :: o_this_winner :: o_this_order :: o_this_sightWeight :: o_this_sightMany :: o_this_sights :: .ref a_pad :: .int v_padMany :: .int u6 :: .int u7 :: .int u8 :: .int u9 :: o_this_by :: o_this_extra :: o_this_waiting :: o_this_floats :: o_this_decided :: o_this_sunk :: o_this_has :: o_this_bestOrder :: o_this_wins :: o_this_firstTens :: o_this_moves :: o_this_kept :: o_this_isKept :: o_this_keptAt :: o_this_isWriting :: [])))]) (ws' := [(a_this, .inr (4, (o_this_weight :: o_this_hole :: o_this_held :: o_this_law :: o_this_suits :: o_this_plaintiff :: o_this_defendant :: o_this_worth :: o_this_winner :: o_this_order :: o_this_sightWeight :: o_this_sightMany :: o_this_sights :: .ref a_pad :: .int v_padMany :: .int u6 :: .int u7 :: .int u8 :: .int u9 :: o_this_by :: o_this_extra :: o_this_waiting :: o_this_floats :: o_this_decided :: o_this_sunk :: o_this_has :: o_this_bestOrder :: o_this_wins :: o_this_firstTens :: o_this_moves :: o_this_kept :: o_this_isKept :: o_this_keptAt :: o_this_isWriting :: []))), (a_pad, .inl (cI, 60, .inl v_pad))]) (va_runV (As := [.int (v_pad (Int32.toNatClampNeg x1_22))]) (rest := []) ⟨hx, hb, hml, hown, hts⟩ (tX4_reads l D cI cJ cZ cB a_this o_this_weight o_this_hole o_this_held o_this_law o_this_suits o_this_plaintiff o_this_defendant o_this_worth o_this_winner o_this_order o_this_sightWeight o_this_sightMany o_this_sights (.ref a_pad) (.int v_padMany) o_this_by o_this_extra o_this_waiting o_this_floats o_this_decided o_this_sunk o_this_has o_this_bestOrder o_this_wins o_this_firstTens o_this_moves o_this_kept o_this_isKept o_this_keptAt o_this_isWriting (v_pad (Int32.toNatClampNeg x1_22)) v_part_22 v_digits_22 v_isNought_22 v_done_22 r5 u6 u7 u8 u9 hc10 H.size) (cwV 1 hts gX4_faultOfSuits_X4_reads rfl rfl rfl (by decide +kernel) ⟨Nat.le_of_ble_eq_true rfl, Nat.le_of_ble_eq_true rfl⟩) (k_preV (ci := 4) (q0 := 0) (is := [0]) hK hP hD rfl rfl rfl rfl) rfl rfl hl.1 rfl (lv_room (Nat.le_of_ble_eq_true rfl)) dX4_faultOfSuits_37 ⟨Nat.zero_le _, Nat.zero_le _⟩) hP hD hS hA [0] [1] [1, 0] rfl rfl rfl (by decide) rfl rfl (fun H locs hP hD hS => ?_)
        refine lv_if_ne (tgt := 45) hx hb dX4_faultOfSuits_40 (by decide) (fun c11 => ?_) (fun c11 => ?_)
        · have hf := (if_neg c11).symm.trans hf
          refine lv_iinc (v := (x1_22 + 1)) (lv' := [(1, .int (x1_22 + 1)), (0, .ref a_this)]) hx hb dX4_faultOfSuits_45 hl (k := 1) rfl (by rfl) (by decide) rfl (fun ls hl => ?_)
          refine lv_goto (tgt := 22) hx hb dX4_faultOfSuits_48 (by decide) ?_
          exact ih22 (x1_22 + 1) u6 u7 u8 u9 _ _ _ hf hP hD hS (lv_sub hl [1, 0] rfl)
        · have hf := (if_pos c11).symm.trans hf
          refine lv_iload_n hx hb dX4_faultOfSuits_43 rfl (lv_at hl 1 rfl) ?_
          cases hf
          subst hQ
          exact k_ri hx hb hr hlocks hP hD hS dX4_faultOfSuits_44
  exact L22 FU 0 0 0 0 0 _ _ _ hf hP hD hS (lv_sub hl [1, 0] rfl)
