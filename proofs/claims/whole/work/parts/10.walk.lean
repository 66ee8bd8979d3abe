set_option maxHeartbeats 4000000 in
set_option maxRecDepth 100000 in
theorem tX0_setting (l : Launch) (D : va_G) (cI cJ cZ cB : ClassId) (a_this : Nat) (o_this_many : Value) (o_this_sights : Value) (o_this_full : Value) (o_this_first : Value) (o_this_second : Value) (o_this_worth : Value) (o_this_winner : Value) (o_this_row : Value) (o_this_sightWeight : Value) (o_this_sightMany : Value) (x1 : Int32) (v_held : Int32) (v_hole : Int32) (v_weight : Int32) (v_law : Int32) (r0 : Int32) (hf : fX0_setting x1 v_held v_hole v_weight v_law = some r0) : MW l yX0_setting wsX0_setting { frames := 0, cells := 0, slots := 0, locals := 0 } D cI cJ cZ cB [(a_this, .inr (0, (.int v_weight :: .int v_hole :: .int v_held :: .int v_law :: o_this_many :: o_this_sights :: o_this_full :: o_this_first :: o_this_second :: o_this_worth :: o_this_winner :: o_this_row :: o_this_sightWeight :: o_this_sightMany :: [])))] [.ref a_this, .int x1] (QWi D r0 [(a_this, .inr (0, (.int v_weight :: .int v_hole :: .int v_held :: .int v_law :: o_this_many :: o_this_sights :: o_this_full :: o_this_first :: o_this_second :: o_this_worth :: o_this_winner :: o_this_row :: o_this_sightWeight :: o_this_sightMany :: [])))]) := by
  refine k_body (cc := cX0_setting) (maxL := 2) (ret := (some .int)) (by decide) rfl (Nat.le_of_ble_eq_true rfl) ?_
  intro p e s m args below meth c hx hb hr hml hts hown hlocks hname hK A hA hP hD hS ls hl
  have hl : lv_has ls 2 [(0, .ref a_this), (1, .int x1)] := hl
  generalize hQ : MQ below ((QWi D r0 [(a_this, .inr (0, (.int v_weight :: .int v_hole :: .int v_held :: .int v_law :: o_this_many :: o_this_sights :: o_this_full :: o_this_first :: o_this_second :: o_this_worth :: o_this_winner :: o_this_row :: o_this_sightWeight :: o_this_sightMany :: [])))]) A) args s 0 0 A = Q
  obtain ⟨H, hH⟩ : ∃ H, H = s.heap := ⟨_, rfl⟩
  obtain ⟨locs, hlo⟩ : ∃ z : List Loc, z = [] := ⟨_, rfl⟩
  have hP : va_P D vwCl [(a_this, .inr (0, (.int v_weight :: .int v_hole :: .int v_held :: .int v_law :: o_this_many :: o_this_sights :: o_this_full :: o_this_first :: o_this_second :: o_this_worth :: o_this_winner :: o_this_row :: o_this_sightWeight :: o_this_sightMany :: [])))] H := by rw [hH]; exact hP
  have hS : va_S A s.heap H locs := by rw [hH, hlo]; exact hS
  suffices hg : W p l e (headSpec wsX0_setting { frames := 0, cells := 0, slots := 0, locals := 0 }).room s m args below meth c H locs 0 0 Q (F0 m 0 ls []) by rw [hH, hlo] at hg; exact hg
  have l9 := hts (.fieldLink RX0 9 "CandleCourt$Bench" "weight" "I") (by decide +kernel)
  have l15 := hts (.fieldLink RX0 15 "CandleCourt$Bench" "hole" "I") (by decide +kernel)
  have l18 := hts (.fieldLink RX0 18 "CandleCourt$Bench" "held" "I") (by decide +kernel)
  have l21 := hts (.fieldLink RX0 21 "CandleCourt$Bench" "law" "I") (by decide +kernel)
  have iX0 : ∀ w ∈ wsX00, w ∈ wsX0_setting := by decide +kernel
  unfold fX0_setting at hf
  refine lv_iload_n hx hb dX0_setting_0 rfl (lv_at hl 1 rfl) ?_
  by_cases c1 : (x1 : Int32) = 0
  · have hf := (if_pos c1).symm.trans hf
    refine lv_tableIn (off := 27) (tgt := 28) hx hb dX0_setting_1 (by rw [c1]; decide) (by rw [c1]; decide) (by rw [c1]; rfl) (by decide) ?_
    refine lv_aload_n hx hb dX0_setting_28 rfl (lv_at hl 0 rfl) ?_
    refine va_get (D := D) (ci := 0) (v := .int v_weight) (C := RX0) (T := TX0) (N := 14) hx hb hts iX0 hown hK.1 hP 0 rfl rfl 0 (by decide) l9 (fun _ h9 => h9) rfl dX0_setting_29 ?_
    cases hf
    subst hQ
    exact k_ri hx hb hr hlocks hP hD hS dX0_setting_32
  have hf := (if_neg c1).symm.trans hf
  by_cases c2 : (x1 : Int32) = 1
  · have hf := (if_pos c2).symm.trans hf
    refine lv_tableIn (off := 32) (tgt := 33) hx hb dX0_setting_1 (by rw [c2]; decide) (by rw [c2]; decide) (by rw [c2]; rfl) (by decide) ?_
    refine lv_aload_n hx hb dX0_setting_33 rfl (lv_at hl 0 rfl) ?_
    refine va_get (D := D) (ci := 0) (v := .int v_hole) (C := RX0) (T := TX0) (N := 14) hx hb hts iX0 hown hK.1 hP 0 rfl rfl 1 (by decide) l15 (fun _ h9 => h9) rfl dX0_setting_34 ?_
    cases hf
    subst hQ
    exact k_ri hx hb hr hlocks hP hD hS dX0_setting_37
  have hf := (if_neg c2).symm.trans hf
  by_cases c3 : (x1 : Int32) = 2
  · have hf := (if_pos c3).symm.trans hf
    refine lv_tableIn (off := 37) (tgt := 38) hx hb dX0_setting_1 (by rw [c3]; decide) (by rw [c3]; decide) (by rw [c3]; rfl) (by decide) ?_
    refine lv_aload_n hx hb dX0_setting_38 rfl (lv_at hl 0 rfl) ?_
    refine va_get (D := D) (ci := 0) (v := .int v_held) (C := RX0) (T := TX0) (N := 14) hx hb hts iX0 hown hK.1 hP 0 rfl rfl 2 (by decide) l18 (fun _ h9 => h9) rfl dX0_setting_39 ?_
    cases hf
    subst hQ
    exact k_ri hx hb hr hlocks hP hD hS dX0_setting_42
  have hf := (if_neg c3).symm.trans hf
  have c1z := k_tsw (a := 0) c1 rfl
  have c2z := k_tsw (a := 1) c2 rfl
  have c3z := k_tsw (a := 2) c3 rfl
  refine lv_tableOut (tgt := 43) hx hb dX0_setting_1 (by omega) (by decide) ?_
  refine lv_aload_n hx hb dX0_setting_43 rfl (lv_at hl 0 rfl) ?_
  refine va_get (D := D) (ci := 0) (v := .int v_law) (C := RX0) (T := TX0) (N := 14) hx hb hts iX0 hown hK.1 hP 0 rfl rfl 3 (by decide) l21 (fun _ h9 => h9) rfl dX0_setting_44 ?_
  cases hf
  subst hQ
  exact k_ri hx hb hr hlocks hP hD hS dX0_setting_47

set_option maxHeartbeats 4000000 in
set_option maxRecDepth 100000 in
theorem tX0_change (l : Launch) (D : va_G) (cI cJ cZ cB : ClassId) (a_this : Nat) (o_this_many : Value) (o_this_sights : Value) (o_this_full : Value) (o_this_first : Value) (o_this_second : Value) (o_this_worth : Value) (o_this_winner : Value) (o_this_row : Value) (o_this_sightWeight : Value) (o_this_sightMany : Value) (x1 : Int32) (x2 : Int32) (v_held : Int32) (v_hole : Int32) (v_weight : Int32) (v_law : Int32) (w_held : Int32) (w_hole : Int32) (w_weight : Int32) (w_law : Int32) (hf : fX0_change x1 x2 v_held v_hole v_weight v_law = some (w_held, w_hole, w_weight, w_law)) : MW l yX0_change wsX0_change { frames := 0, cells := 0, slots := 0, locals := 0 } D cI cJ cZ cB [(a_this, .inr (0, (.int v_weight :: .int v_hole :: .int v_held :: .int v_law :: o_this_many :: o_this_sights :: o_this_full :: o_this_first :: o_this_second :: o_this_worth :: o_this_winner :: o_this_row :: o_this_sightWeight :: o_this_sightMany :: [])))] [.ref a_this, .int x1, .int x2] (QWv D [(a_this, .inr (0, (.int w_weight :: .int w_hole :: .int w_held :: .int w_law :: o_this_many :: o_this_sights :: o_this_full :: o_this_first :: o_this_second :: o_this_worth :: o_this_winner :: o_this_row :: o_this_sightWeight :: o_this_sightMany :: [])))]) := by
  refine k_body (cc := cX0_change) (maxL := 3) (ret := none) (by decide) rfl (Nat.le_of_ble_eq_true rfl) ?_
  intro p e s m args below meth c hx hb hr hml hts hown hlocks hname hK A hA hP hD hS ls hl
  have hl : lv_has ls 3 [(0, .ref a_this), (1, .int x1), (2, .int x2)] := hl
  generalize hQ : MQ below ((QWv D [(a_this, .inr (0, (.int w_weight :: .int w_hole :: .int w_held :: .int w_law :: o_this_many :: o_this_sights :: o_this_full :: o_this_first :: o_this_second :: o_this_worth :: o_this_winner :: o_this_row :: o_this_sightWeight :: o_this_sightMany :: [])))]) A) args s 0 0 A = Q
  obtain ⟨H, hH⟩ : ∃ H, H = s.heap := ⟨_, rfl⟩
  obtain ⟨locs, hlo⟩ : ∃ z : List Loc, z = [] := ⟨_, rfl⟩
  have hP : va_P D vwCl [(a_this, .inr (0, (.int v_weight :: .int v_hole :: .int v_held :: .int v_law :: o_this_many :: o_this_sights :: o_this_full :: o_this_first :: o_this_second :: o_this_worth :: o_this_winner :: o_this_row :: o_this_sightWeight :: o_this_sightMany :: [])))] H := by rw [hH]; exact hP
  have hS : va_S A s.heap H locs := by rw [hH, hlo]; exact hS
  suffices hg : W p l e (headSpec wsX0_change { frames := 0, cells := 0, slots := 0, locals := 0 }).room s m args below meth c H locs 0 0 Q (F0 m 0 ls []) by rw [hH, hlo] at hg; exact hg
  have l9 := hts (.fieldLink RX0 9 "CandleCourt$Bench" "weight" "I") (by decide +kernel)
  have l15 := hts (.fieldLink RX0 15 "CandleCourt$Bench" "hole" "I") (by decide +kernel)
  have l18 := hts (.fieldLink RX0 18 "CandleCourt$Bench" "held" "I") (by decide +kernel)
  have l21 := hts (.fieldLink RX0 21 "CandleCourt$Bench" "law" "I") (by decide +kernel)
  have iX0 : ∀ w ∈ wsX00, w ∈ wsX0_change := by decide +kernel
  unfold fX0_change at hf
  refine lv_iload_n hx hb dX0_change_0 rfl (lv_at hl 1 rfl) ?_
  by_cases c1 : (x1 : Int32) = 0
  · have hf := (if_pos c1).symm.trans hf
    refine lv_tableIn (off := 27) (tgt := 28) hx hb dX0_change_1 (by rw [c1]; decide) (by rw [c1]; decide) (by rw [c1]; rfl) (by decide) ?_
    refine lv_aload_n hx hb dX0_change_28 rfl (lv_at hl 0 rfl) ?_
    refine lv_iload_n hx hb dX0_change_29 rfl (lv_at hl 2 rfl) ?_
    refine va_put (D := D) (ci := 0) (v := .int x2) (ty := .int) (C := RX0) (T := TX0) (N := 14) hx hb hts iX0 tyX0 tyX0_ok nmX0 hown hK.1 hP hD hS 0 rfl rfl 0 (by decide) l9 (fun _ h9 => h9) rfl (by decide +kernel) rfl rfl (Nat.le_of_ble_eq_true rfl) dX0_change_30 (fun H locs hP hD hS => ?_)
    have hP : va_P D vwCl [(a_this, .inr (0, (.int x2 :: .int v_hole :: .int v_held :: .int v_law :: o_this_many :: o_this_sights :: o_this_full :: o_this_first :: o_this_second :: o_this_worth :: o_this_winner :: o_this_row :: o_this_sightWeight :: o_this_sightMany :: [])))] H := hP
    have hD : va_D A [(a_this, .inr (0, (.int x2 :: .int v_hole :: .int v_held :: .int v_law :: o_this_many :: o_this_sights :: o_this_full :: o_this_first :: o_this_second :: o_this_worth :: o_this_winner :: o_this_row :: o_this_sightWeight :: o_this_sightMany :: [])))] := hD
    refine lv_goto (tgt := 57) hx hb dX0_change_33 (by decide) ?_
    cases hf
    subst hQ
    exact k_rv hx hb hr hlocks hP hD hS dX0_change_57
  have hf := (if_neg c1).symm.trans hf
  by_cases c2 : (x1 : Int32) = 1
  · have hf := (if_pos c2).symm.trans hf
    refine lv_tableIn (off := 35) (tgt := 36) hx hb dX0_change_1 (by rw [c2]; decide) (by rw [c2]; decide) (by rw [c2]; rfl) (by decide) ?_
    refine lv_aload_n hx hb dX0_change_36 rfl (lv_at hl 0 rfl) ?_
    refine lv_iload_n hx hb dX0_change_37 rfl (lv_at hl 2 rfl) ?_
    refine va_put (D := D) (ci := 0) (v := .int x2) (ty := .int) (C := RX0) (T := TX0) (N := 14) hx hb hts iX0 tyX0 tyX0_ok nmX0 hown hK.1 hP hD hS 0 rfl rfl 1 (by decide) l15 (fun _ h9 => h9) rfl (by decide +kernel) rfl rfl (Nat.le_of_ble_eq_true rfl) dX0_change_38 (fun H locs hP hD hS => ?_)
    have hP : va_P D vwCl [(a_this, .inr (0, (.int v_weight :: .int x2 :: .int v_held :: .int v_law :: o_this_many :: o_this_sights :: o_this_full :: o_this_first :: o_this_second :: o_this_worth :: o_this_winner :: o_this_row :: o_this_sightWeight :: o_this_sightMany :: [])))] H := hP
    have hD : va_D A [(a_this, .inr (0, (.int v_weight :: .int x2 :: .int v_held :: .int v_law :: o_this_many :: o_this_sights :: o_this_full :: o_this_first :: o_this_second :: o_this_worth :: o_this_winner :: o_this_row :: o_this_sightWeight :: o_this_sightMany :: [])))] := hD
    refine lv_goto (tgt := 57) hx hb dX0_change_41 (by decide) ?_
    cases hf
    subst hQ
    exact k_rv hx hb hr hlocks hP hD hS dX0_change_57
  have hf := (if_neg c2).symm.trans hf
  by_cases c3 : (x1 : Int32) = 2
  · have hf := (if_pos c3).symm.trans hf
    refine lv_tableIn (off := 43) (tgt := 44) hx hb dX0_change_1 (by rw [c3]; decide) (by rw [c3]; decide) (by rw [c3]; rfl) (by decide) ?_
    refine lv_aload_n hx hb dX0_change_44 rfl (lv_at hl 0 rfl) ?_
    refine lv_iload_n hx hb dX0_change_45 rfl (lv_at hl 2 rfl) ?_
    refine va_put (D := D) (ci := 0) (v := .int x2) (ty := .int) (C := RX0) (T := TX0) (N := 14) hx hb hts iX0 tyX0 tyX0_ok nmX0 hown hK.1 hP hD hS 0 rfl rfl 2 (by decide) l18 (fun _ h9 => h9) rfl (by decide +kernel) rfl rfl (Nat.le_of_ble_eq_true rfl) dX0_change_46 (fun H locs hP hD hS => ?_)
    have hP : va_P D vwCl [(a_this, .inr (0, (.int v_weight :: .int v_hole :: .int x2 :: .int v_law :: o_this_many :: o_this_sights :: o_this_full :: o_this_first :: o_this_second :: o_this_worth :: o_this_winner :: o_this_row :: o_this_sightWeight :: o_this_sightMany :: [])))] H := hP
    have hD : va_D A [(a_this, .inr (0, (.int v_weight :: .int v_hole :: .int x2 :: .int v_law :: o_this_many :: o_this_sights :: o_this_full :: o_this_first :: o_this_second :: o_this_worth :: o_this_winner :: o_this_row :: o_this_sightWeight :: o_this_sightMany :: [])))] := hD
    refine lv_goto (tgt := 57) hx hb dX0_change_49 (by decide) ?_
    cases hf
    subst hQ
    exact k_rv hx hb hr hlocks hP hD hS dX0_change_57
  have hf := (if_neg c3).symm.trans hf
  have c1z := k_tsw (a := 0) c1 rfl
  have c2z := k_tsw (a := 1) c2 rfl
  have c3z := k_tsw (a := 2) c3 rfl
  refine lv_tableOut (tgt := 52) hx hb dX0_change_1 (by omega) (by decide) ?_
  refine lv_aload_n hx hb dX0_change_52 rfl (lv_at hl 0 rfl) ?_
  refine lv_iload_n hx hb dX0_change_53 rfl (lv_at hl 2 rfl) ?_
  refine va_put (D := D) (ci := 0) (v := .int x2) (ty := .int) (C := RX0) (T := TX0) (N := 14) hx hb hts iX0 tyX0 tyX0_ok nmX0 hown hK.1 hP hD hS 0 rfl rfl 3 (by decide) l21 (fun _ h9 => h9) rfl (by decide +kernel) rfl rfl (Nat.le_of_ble_eq_true rfl) dX0_change_54 (fun H locs hP hD hS => ?_)
  have hP : va_P D vwCl [(a_this, .inr (0, (.int v_weight :: .int v_hole :: .int v_held :: .int x2 :: o_this_many :: o_this_sights :: o_this_full :: o_this_first :: o_this_second :: o_this_worth :: o_this_winner :: o_this_row :: o_this_sightWeight :: o_this_sightMany :: [])))] H := hP
  have hD : va_D A [(a_this, .inr (0, (.int v_weight :: .int v_hole :: .int v_held :: .int x2 :: o_this_many :: o_this_sights :: o_this_full :: o_this_first :: o_this_second :: o_this_worth :: o_this_winner :: o_this_row :: o_this_sightWeight :: o_this_sightMany :: [])))] := hD
  cases hf
  subst hQ
  exact k_rv hx hb hr hlocks hP hD hS dX0_change_57

set_option maxHeartbeats 4000000 in
set_option maxRecDepth 100000 in
theorem tX3_at (l : Launch) (D : va_G) (cI cJ cZ cB : ClassId) (a_p0 : Nat) (n_p0 : Nat) (x1 : Int32) (v_p0 : Nat → Int32) (r0 : Int32) (hf : fX3_at x1 v_p0 n_p0 = some r0) : MW l yX3_at wsX3_at { frames := 0, cells := 0, slots := 0, locals := 0 } D cI cJ cZ cB [(a_p0, .inl (cI, n_p0, .inl v_p0))] [.ref a_p0, .int x1] (QWi D r0 [(a_p0, .inl (cI, n_p0, .inl v_p0))]) := by
  refine k_body (cc := cX3_at) (maxL := 2) (ret := (some .int)) (by decide) rfl (Nat.le_of_ble_eq_true rfl) ?_
  intro p e s m args below meth c hx hb hr hml hts hown hlocks hname hK A hA hP hD hS ls hl
  have hl : lv_has ls 2 [(0, .ref a_p0), (1, .int x1)] := hl
  generalize hQ : MQ below ((QWi D r0 [(a_p0, .inl (cI, n_p0, .inl v_p0))]) A) args s 0 0 A = Q
  obtain ⟨H, hH⟩ : ∃ H, H = s.heap := ⟨_, rfl⟩
  obtain ⟨locs, hlo⟩ : ∃ z : List Loc, z = [] := ⟨_, rfl⟩
  have hP : va_P D vwCl [(a_p0, .inl (cI, n_p0, .inl v_p0))] H := by rw [hH]; exact hP
  have hS : va_S A s.heap H locs := by rw [hH, hlo]; exact hS
  suffices hg : W p l e (headSpec wsX3_at { frames := 0, cells := 0, slots := 0, locals := 0 }).room s m args below meth c H locs 0 0 Q (F0 m 0 ls []) by rw [hH, hlo] at hg; exact hg
  unfold fX3_at at hf
  refine lv_aload_n hx hb dX3_at_0 rfl (lv_at hl 0 rfl) ?_
  refine lv_ifnull hx hb dX3_at_1 ?_
  refine lv_iload_n hx hb dX3_at_4 rfl (lv_at hl 1 rfl) ?_
  refine lv_if_lt (tgt := 20) hx hb dX3_at_5 (by decide) (fun c1 => ?_) (fun c1 => ?_)
  · have hf := (if_pos c1).symm.trans hf
    refine lv_iconst (v := 0) hx hb dX3_at_20 (by decide) ?_
    cases hf
    subst hQ
    exact k_ri hx hb hr hlocks hP hD hS dX3_at_21
  · have hf := (if_neg c1).symm.trans hf
    refine lv_iload_n hx hb dX3_at_8 rfl (lv_at hl 1 rfl) ?_
    refine lv_aload_n hx hb dX3_at_9 rfl (lv_at hl 0 rfl) ?_
    refine va_alen (D := D) (v := (Int32.ofNat n_p0)) hx hb hK.1 hP 0 0 rfl rfl rfl dX3_at_10 ?_
    refine lv_icmp_ge (tgt := 20) hx hb dX3_at_11 (by decide) (fun c2 => ?_) (fun c2 => ?_)
    · have hf := (if_pos c2).symm.trans hf
      refine lv_iconst (v := 0) hx hb dX3_at_20 (by decide) ?_
      cases hf
      subst hQ
      exact k_ri hx hb hr hlocks hP hD hS dX3_at_21
    · have hf := (if_neg c2).symm.trans hf
      refine lv_aload_n hx hb dX3_at_14 rfl (lv_at hl 0 rfl) ?_
      refine lv_iload_n hx hb dX3_at_15 rfl (lv_at hl 1 rfl) ?_
      obtain ⟨h3, hf⟩ := gd_some hf
      refine va_iald (D := D) (i := x1) hx hb hK.1 hP 0 0 rfl rfl h3 dX3_at_16 ?_
      refine lv_goto (tgt := 21) hx hb dX3_at_17 (by decide) ?_
      cases hf
      subst hQ
      exact k_ri hx hb hr hlocks hP hD hS dX3_at_21

set_option maxHeartbeats 4000000 in
set_option maxRecDepth 100000 in
theorem tX3_copyRow (l : Launch) (D : va_G) (cI cJ cZ cB : ClassId) (a_p1 : Nat) (a_p0 : Nat) (n_p1 : Nat) (n_p0 : Nat) (v_p1 : Nat → Int32) (v_p0 : Nat → Int32) (w_p1 : Nat → Int32) (hf : fX3_copyRow v_p1 v_p0 n_p1 n_p0 = some w_p1) : MW l yX3_copyRow wsX3_copyRow { frames := 1, cells := 0, slots := 0, locals := 21 } D cI cJ cZ cB [(a_p1, .inl (cI, n_p1, .inl v_p1)), (a_p0, .inl (cI, n_p0, .inl v_p0))] [.ref a_p0, .ref a_p1] (QWv D [(a_p1, .inl (cI, n_p1, .inl w_p1)), (a_p0, .inl (cI, n_p0, .inl v_p0))]) := by
  refine k_body (cc := cX3_copyRow) (maxL := 3) (ret := none) (by decide) rfl (Nat.le_of_ble_eq_true rfl) ?_
  intro p e s m args below meth c hx hb hr hml hts hown hlocks hname hK A hA hP hD hS ls hl
  have hl : lv_has ls 3 [(0, .ref a_p0), (1, .ref a_p1)] := hl
  generalize hQ : MQ below ((QWv D [(a_p1, .inl (cI, n_p1, .inl w_p1)), (a_p0, .inl (cI, n_p0, .inl v_p0))]) A) args s 0 0 A = Q
  obtain ⟨H, hH⟩ : ∃ H, H = s.heap := ⟨_, rfl⟩
  obtain ⟨locs, hlo⟩ : ∃ z : List Loc, z = [] := ⟨_, rfl⟩
  have hP : va_P D vwCl [(a_p1, .inl (cI, n_p1, .inl v_p1)), (a_p0, .inl (cI, n_p0, .inl v_p0))] H := by rw [hH]; exact hP
  have hS : va_S A s.heap H locs := by rw [hH, hlo]; exact hS
  suffices hg : W p l e (headSpec wsX3_copyRow { frames := 1, cells := 0, slots := 0, locals := 21 }).room s m args below meth c H locs 0 0 Q (F0 m 0 ls []) by rw [hH, hlo] at hg; exact hg
  unfold fX3_copyRow at hf
  refine lv_iconst (v := 0) hx hb dX3_copyRow_0 (by decide) ?_
  refine lv_istore_n (lv' := [(2, .int 0), (0, .ref a_p0), (1, .ref a_p1)]) hx hb dX3_copyRow_1 rfl hl (by decide) rfl (fun ls hl => ?_)
  have L2 : ∀ (n2 : Nat) (x2_2 : Int32) (v_p1_2 : Nat → Int32) (H : Heap) (locs : List Loc) (ls : Array Slot), fX3_copyRow_l2 v_p0 n_p1 n_p0 n2 x2_2 v_p1_2 = some w_p1 → va_P D vwCl [(a_p1, .inl (cI, n_p1, .inl v_p1_2)), (a_p0, .inl (cI, n_p0, .inl v_p0))] H → va_D A [(a_p1, .inl (cI, n_p1, .inl v_p1_2)), (a_p0, .inl (cI, n_p0, .inl v_p0))] → va_S A s.heap H locs → lv_has ls 3 [(0, .ref a_p0), (1, .ref a_p1), (2, .int x2_2)] → W p l e (headSpec wsX3_copyRow { frames := 1, cells := 0, slots := 0, locals := 21 }).room s m args below meth c H locs 0 0 Q (F0 m 2 ls []) := by
    intro n2
    induction n2 with
    | zero =>
      intro x2_2 v_p1_2 H locs ls hf
      have hf : (none : Option (Nat → Int32)) = some w_p1 := hf
      cases hf
    | succ n2 ih2 =>
      intro x2_2 v_p1_2 H locs ls hf hP hD hS hl
      rw [fX3_copyRow_l2] at hf
      refine lv_aload_n hx hb dX3_copyRow_2 rfl (lv_at hl 1 rfl) ?_
      refine lv_ifnull hx hb dX3_copyRow_3 ?_
      refine lv_iload_n hx hb dX3_copyRow_6 rfl (lv_at hl 2 rfl) ?_
      refine lv_aload_n hx hb dX3_copyRow_7 rfl (lv_at hl 1 rfl) ?_
      refine va_alen (D := D) (v := (Int32.ofNat n_p1)) hx hb hK.1 hP 0 0 rfl rfl rfl dX3_copyRow_8 ?_
      refine lv_icmp_ge (tgt := 26) hx hb dX3_copyRow_9 (by decide) (fun c1 => ?_) (fun c1 => ?_)
      · have hf := (if_pos c1).symm.trans hf
        cases hf
        subst hQ
        exact k_rv hx hb hr hlocks hP hD hS dX3_copyRow_26
      · have hf := (if_neg c1).symm.trans hf
        refine lv_aload_n hx hb dX3_copyRow_12 rfl (lv_at hl 1 rfl) ?_
        refine lv_iload_n hx hb dX3_copyRow_13 rfl (lv_at hl 2 rfl) ?_
        refine lv_aload_n hx hb dX3_copyRow_14 rfl (lv_at hl 0 rfl) ?_
        refine lv_iload_n hx hb dX3_copyRow_15 rfl (lv_at hl 2 rfl) ?_
        obtain ⟨r2, hc3, hf⟩ := bnd1_some hf
        refine k_ci (wc := [(a_p0, .inl (cI, n_p0, .inl v_p0))]) (wr := [(a_p1, .inl (cI, n_p1, .inl v_p1_2))]) (w1 := [(a_p0, .inl (cI, n_p0, .inl v_p0))]) (ws' := [(a_p1, .inl (cI, n_p1, .inl v_p1_2)), (a_p0, .inl (cI, n_p0, .inl v_p0))]) (va_runS (As := [.ref a_p0, .int x2_2]) (rest := [.int x2_2, .ref a_p1]) ⟨hx, hb, hml, hown, hts⟩ (tX3_at l D cI cJ cZ cB a_p0 n_p0 x2_2 v_p0 r2 hc3 H.size) (va_cwS 2 hts gX3_copyRow_X3_at rfl rfl rfl (by decide +kernel) ⟨Nat.le_of_ble_eq_true rfl, Nat.le_of_ble_eq_true rfl⟩) (k_preS (is := [1]) hK hP hD rfl rfl) rfl rfl hl.1 rfl (lv_room (Nat.le_of_ble_eq_true rfl)) dX3_copyRow_16 ⟨Nat.zero_le _, Nat.zero_le _⟩) hP hD hS hA [1] [0] [0, 1] rfl rfl rfl (by decide) rfl rfl (fun H locs hP hD hS => ?_)
        obtain ⟨h4, hf⟩ := gd_some hf
        refine va_iast (D := D) (i := x2_2) hx hb hK.1 hP hD hS 0 0 rfl rfl h4 dX3_copyRow_19 (fun H locs hP hD hS => ?_)
        have hP : va_P D vwCl [(a_p1, .inl (cI, n_p1, .inl (upd v_p1_2 (Int32.toNatClampNeg x2_2) r2))), (a_p0, .inl (cI, n_p0, .inl v_p0))] H := hP
        have hD : va_D A [(a_p1, .inl (cI, n_p1, .inl (upd v_p1_2 (Int32.toNatClampNeg x2_2) r2))), (a_p0, .inl (cI, n_p0, .inl v_p0))] := hD
        refine lv_iinc (v := (x2_2 + 1)) (lv' := [(2, .int (x2_2 + 1)), (0, .ref a_p0), (1, .ref a_p1)]) hx hb dX3_copyRow_20 hl (k := 2) rfl (by rfl) (by decide) rfl (fun ls hl => ?_)
        refine lv_goto (tgt := 2) hx hb dX3_copyRow_23 (by decide) ?_
        exact ih2 (x2_2 + 1) (upd v_p1_2 (Int32.toNatClampNeg x2_2) r2) _ _ _ hf hP hD hS (lv_sub hl [1, 2, 0] rfl)
  exact L2 FU 0 v_p1 _ _ _ hf hP hD hS (lv_sub hl [1, 2, 0] rfl)

set_option maxHeartbeats 4000000 in
set_option maxRecDepth 100000 in
theorem tX3_put (l : Launch) (D : va_G) (cI cJ cZ cB : ClassId) (a_p0 : Nat) (n_p0 : Nat) (x1 : Int32) (x2 : Int32) (v_p0 : Nat → Int32) (w_p0 : Nat → Int32) (hf : fX3_put x1 x2 v_p0 n_p0 = some w_p0) : MW l yX3_put wsX3_put { frames := 0, cells := 0, slots := 0, locals := 0 } D cI cJ cZ cB [(a_p0, .inl (cI, n_p0, .inl v_p0))] [.ref a_p0, .int x1, .int x2] (QWv D [(a_p0, .inl (cI, n_p0, .inl w_p0))]) := by
  refine k_body (cc := cX3_put) (maxL := 3) (ret := none) (by decide) rfl (Nat.le_of_ble_eq_true rfl) ?_
  intro p e s m args below meth c hx hb hr hml hts hown hlocks hname hK A hA hP hD hS ls hl
  have hl : lv_has ls 3 [(0, .ref a_p0), (1, .int x1), (2, .int x2)] := hl
  generalize hQ : MQ below ((QWv D [(a_p0, .inl (cI, n_p0, .inl w_p0))]) A) args s 0 0 A = Q
  obtain ⟨H, hH⟩ : ∃ H, H = s.heap := ⟨_, rfl⟩
  obtain ⟨locs, hlo⟩ : ∃ z : List Loc, z = [] := ⟨_, rfl⟩
  have hP : va_P D vwCl [(a_p0, .inl (cI, n_p0, .inl v_p0))] H := by rw [hH]; exact hP
  have hS : va_S A s.heap H locs := by rw [hH, hlo]; exact hS
  suffices hg : W p l e (headSpec wsX3_put { frames := 0, cells := 0, slots := 0, locals := 0 }).room s m args below meth c H locs 0 0 Q (F0 m 0 ls []) by rw [hH, hlo] at hg; exact hg
  unfold fX3_put at hf
  refine lv_aload_n hx hb dX3_put_0 rfl (lv_at hl 0 rfl) ?_
  refine lv_ifnull hx hb dX3_put_1 ?_
  refine lv_iload_n hx hb dX3_put_4 rfl (lv_at hl 1 rfl) ?_
  refine lv_if_lt (tgt := 18) hx hb dX3_put_5 (by decide) (fun c1 => ?_) (fun c1 => ?_)
  · have hf := (if_pos c1).symm.trans hf
    cases hf
    subst hQ
    exact k_rv hx hb hr hlocks hP hD hS dX3_put_18
  · have hf := (if_neg c1).symm.trans hf
    refine lv_iload_n hx hb dX3_put_8 rfl (lv_at hl 1 rfl) ?_
    refine lv_aload_n hx hb dX3_put_9 rfl (lv_at hl 0 rfl) ?_
    refine va_alen (D := D) (v := (Int32.ofNat n_p0)) hx hb hK.1 hP 0 0 rfl rfl rfl dX3_put_10 ?_
    refine lv_icmp_ge (tgt := 18) hx hb dX3_put_11 (by decide) (fun c2 => ?_) (fun c2 => ?_)
    · have hf := (if_pos c2).symm.trans hf
      cases hf
      subst hQ
      exact k_rv hx hb hr hlocks hP hD hS dX3_put_18
    · have hf := (if_neg c2).symm.trans hf
      refine lv_aload_n hx hb dX3_put_14 rfl (lv_at hl 0 rfl) ?_
      refine lv_iload_n hx hb dX3_put_15 rfl (lv_at hl 1 rfl) ?_
      refine lv_iload_n hx hb dX3_put_16 rfl (lv_at hl 2 rfl) ?_
      obtain ⟨h3, hf⟩ := gd_some hf
      refine va_iast (D := D) (i := x1) hx hb hK.1 hP hD hS 0 0 rfl rfl h3 dX3_put_17 (fun H locs hP hD hS => ?_)
      have hP : va_P D vwCl [(a_p0, .inl (cI, n_p0, .inl (upd v_p0 (Int32.toNatClampNeg x1) x2)))] H := hP
      have hD : va_D A [(a_p0, .inl (cI, n_p0, .inl (upd v_p0 (Int32.toNatClampNeg x1) x2)))] := hD
      cases hf
      subst hQ
      exact k_rv hx hb hr hlocks hP hD hS dX3_put_18

set_option maxHeartbeats 4000000 in
set_option maxRecDepth 100000 in
theorem tX0_take (l : Launch) (D : va_G) (cI cJ cZ cB : ClassId) (a_this : Nat) (a_p1 : Nat) (a_first : Nat) (a_p1_first : Nat) (a_second : Nat) (a_p1_second : Nat) (a_worth : Nat) (a_p1_worth : Nat) (a_winner : Nat) (a_p1_winner : Nat) (a_row : Nat) (o_this_weight : Value) (o_this_hole : Value) (o_this_held : Value) (o_this_law : Value) (o_this_full : Value) (o_this_sightWeight : Value) (o_this_sightMany : Value) (o_p1_phase : Value) (o_p1_digits : Value) (o_p1_value : Value) (v_p1_suitsRead : Int32) (v_many : Int32) (v_sights : Int32) (v_first : Nat → Int32) (v_p1_first : Nat → Int32) (v_second : Nat → Int32) (v_p1_second : Nat → Int32) (v_worth : Nat → Int32) (v_p1_worth : Nat → Int32) (v_winner : Nat → Int32) (v_p1_winner : Nat → Int32) (v_row : Nat → Int32) (w_many : Int32) (w_sights : Int32) (w_first : Nat → Int32) (w_second : Nat → Int32) (w_worth : Nat → Int32) (w_winner : Nat → Int32) (w_row : Nat → Int32) (hf : fX0_take v_p1_suitsRead v_first v_p1_first v_second v_p1_second v_worth v_p1_worth v_winner v_p1_winner v_row = some (w_many, w_sights, w_first, w_second, w_worth, w_winner, w_row)) : MW l yX0_take wsX0_take { frames := 2, cells := 0, slots := 0, locals := 43 } D cI cJ cZ cB ((a_this, .inr (0, (o_this_weight :: o_this_hole :: o_this_held :: o_this_law :: .int v_many :: .int v_sights :: o_this_full :: .ref a_first :: .ref a_second :: .ref a_worth :: .ref a_winner :: .ref a_row :: o_this_sightWeight :: o_this_sightMany :: []))) :: (a_p1, .inr (1, [o_p1_phase, o_p1_digits, o_p1_value, .int v_p1_suitsRead, .ref a_p1_first, .ref a_p1_second, .ref a_p1_worth, .ref a_p1_winner])) :: (a_first, .inl (cI, 6, .inl v_first)) :: (a_p1_first, .inl (cI, 6, .inl v_p1_first)) :: (a_second, .inl (cI, 6, .inl v_second)) :: (a_p1_second, .inl (cI, 6, .inl v_p1_second)) :: (a_worth, .inl (cI, 6, .inl v_worth)) :: (a_p1_worth, .inl (cI, 6, .inl v_p1_worth)) :: (a_winner, .inl (cI, 6, .inl v_winner)) :: (a_p1_winner, .inl (cI, 6, .inl v_p1_winner)) :: (a_row, .inl (cI, 6, .inl v_row)) :: []) [.ref a_this, .ref a_p1] (QWv D ((a_this, .inr (0, (o_this_weight :: o_this_hole :: o_this_held :: o_this_law :: .int w_many :: .int w_sights :: o_this_full :: .ref a_first :: .ref a_second :: .ref a_worth :: .ref a_winner :: .ref a_row :: o_this_sightWeight :: o_this_sightMany :: []))) :: (a_p1, .inr (1, [o_p1_phase, o_p1_digits, o_p1_value, .int v_p1_suitsRead, .ref a_p1_first, .ref a_p1_second, .ref a_p1_worth, .ref a_p1_winner])) :: (a_first, .inl (cI, 6, .inl w_first)) :: (a_p1_first, .inl (cI, 6, .inl v_p1_first)) :: (a_second, .inl (cI, 6, .inl w_second)) :: (a_p1_second, .inl (cI, 6, .inl v_p1_second)) :: (a_worth, .inl (cI, 6, .inl w_worth)) :: (a_p1_worth, .inl (cI, 6, .inl v_p1_worth)) :: (a_winner, .inl (cI, 6, .inl w_winner)) :: (a_p1_winner, .inl (cI, 6, .inl v_p1_winner)) :: (a_row, .inl (cI, 6, .inl w_row)) :: [])) := by
  refine k_body (cc := cX0_take) (maxL := 3) (ret := none) (by decide) rfl (Nat.le_of_ble_eq_true rfl) ?_
  intro p e s m args below meth c hx hb hr hml hts hown hlocks hname hK A hA hP hD hS ls hl
  have hl : lv_has ls 3 [(0, .ref a_this), (1, .ref a_p1)] := hl
  generalize hQ : MQ below ((QWv D ((a_this, .inr (0, (o_this_weight :: o_this_hole :: o_this_held :: o_this_law :: .int w_many :: .int w_sights :: o_this_full :: .ref a_first :: .ref a_second :: .ref a_worth :: .ref a_winner :: .ref a_row :: o_this_sightWeight :: o_this_sightMany :: []))) :: (a_p1, .inr (1, [o_p1_phase, o_p1_digits, o_p1_value, .int v_p1_suitsRead, .ref a_p1_first, .ref a_p1_second, .ref a_p1_worth, .ref a_p1_winner])) :: (a_first, .inl (cI, 6, .inl w_first)) :: (a_p1_first, .inl (cI, 6, .inl v_p1_first)) :: (a_second, .inl (cI, 6, .inl w_second)) :: (a_p1_second, .inl (cI, 6, .inl v_p1_second)) :: (a_worth, .inl (cI, 6, .inl w_worth)) :: (a_p1_worth, .inl (cI, 6, .inl v_p1_worth)) :: (a_winner, .inl (cI, 6, .inl w_winner)) :: (a_p1_winner, .inl (cI, 6, .inl v_p1_winner)) :: (a_row, .inl (cI, 6, .inl w_row)) :: [])) A) args s 0 0 A = Q
  obtain ⟨H, hH⟩ : ∃ H, H = s.heap := ⟨_, rfl⟩
  obtain ⟨locs, hlo⟩ : ∃ z : List Loc, z = [] := ⟨_, rfl⟩
  have hP : va_P D vwCl ((a_this, .inr (0, (o_this_weight :: o_this_hole :: o_this_held :: o_this_law :: .int v_many :: .int v_sights :: o_this_full :: .ref a_first :: .ref a_second :: .ref a_worth :: .ref a_winner :: .ref a_row :: o_this_sightWeight :: o_this_sightMany :: []))) :: (a_p1, .inr (1, [o_p1_phase, o_p1_digits, o_p1_value, .int v_p1_suitsRead, .ref a_p1_first, .ref a_p1_second, .ref a_p1_worth, .ref a_p1_winner])) :: (a_first, .inl (cI, 6, .inl v_first)) :: (a_p1_first, .inl (cI, 6, .inl v_p1_first)) :: (a_second, .inl (cI, 6, .inl v_second)) :: (a_p1_second, .inl (cI, 6, .inl v_p1_second)) :: (a_worth, .inl (cI, 6, .inl v_worth)) :: (a_p1_worth, .inl (cI, 6, .inl v_p1_worth)) :: (a_winner, .inl (cI, 6, .inl v_winner)) :: (a_p1_winner, .inl (cI, 6, .inl v_p1_winner)) :: (a_row, .inl (cI, 6, .inl v_row)) :: []) H := by rw [hH]; exact hP
  have hS : va_S A s.heap H locs := by rw [hH, hlo]; exact hS
  suffices hg : W p l e (headSpec wsX0_take { frames := 2, cells := 0, slots := 0, locals := 43 }).room s m args below meth c H locs 0 0 Q (F0 m 0 ls []) by rw [hH, hlo] at hg; exact hg
  have l24 := hts (.fieldLink RX0 24 "CandleCourt$Bench" "many" "I") (by decide +kernel)
  have l27 := hts (.fieldLink RX0 27 "CandleCourt$Bench" "sights" "I") (by decide +kernel)
  have l34 := hts (.fieldLink RX0 34 "CandleCourt$Bench" "first" "[I") (by decide +kernel)
  have l38 := hts (.fieldLink RX0 38 "CandleCourt$Bench" "second" "[I") (by decide +kernel)
  have l41 := hts (.fieldLink RX0 41 "CandleCourt$Bench" "worth" "[I") (by decide +kernel)
  have l44 := hts (.fieldLink RX0 44 "CandleCourt$Bench" "winner" "[I") (by decide +kernel)
  have l47 := hts (.fieldLink RX0 47 "CandleCourt$Bench" "row" "[I") (by decide +kernel)
  have l56 := hts (.fieldLink RX0 56 "CandleCourt$Reader" "suitsRead" "I") (by decide +kernel)
  have l61 := hts (.fieldLink RX0 61 "CandleCourt$Reader" "first" "[I") (by decide +kernel)
  have l66 := hts (.fieldLink RX0 66 "CandleCourt$Reader" "second" "[I") (by decide +kernel)
  have l67 := hts (.fieldLink RX0 67 "CandleCourt$Reader" "worth" "[I") (by decide +kernel)
  have l68 := hts (.fieldLink RX0 68 "CandleCourt$Reader" "winner" "[I") (by decide +kernel)
  have iX0 : ∀ w ∈ wsX00, w ∈ wsX0_take := by decide +kernel
  have iX1 : ∀ w ∈ wsX10, w ∈ wsX0_take := by decide +kernel
  unfold fX0_take at hf
  refine lv_aload_n hx hb dX0_take_0 rfl (lv_at hl 0 rfl) ?_
  refine lv_aload_n hx hb dX0_take_1 rfl (lv_at hl 1 rfl) ?_
  refine va_get (D := D) (ci := 1) (v := .int v_p1_suitsRead) (C := RX1) (T := TX1) (N := 8) hx hb hts iX1 hown hK.1 hP 1 rfl rfl 3 (by decide) l56 (fun _ h9 => h9) rfl dX0_take_2 ?_
  refine va_put (D := D) (ci := 0) (v := .int v_p1_suitsRead) (ty := .int) (C := RX0) (T := TX0) (N := 14) hx hb hts iX0 tyX0 tyX0_ok nmX0 hown hK.1 hP hD hS 0 rfl rfl 4 (by decide) l24 (fun _ h9 => h9) rfl (by decide +kernel) rfl rfl (Nat.le_of_ble_eq_true rfl) dX0_take_5 (fun H locs hP hD hS => ?_)
  have hP : va_P D vwCl ((a_this, .inr (0, (o_this_weight :: o_this_hole :: o_this_held :: o_this_law :: .int v_p1_suitsRead :: .int v_sights :: o_this_full :: .ref a_first :: .ref a_second :: .ref a_worth :: .ref a_winner :: .ref a_row :: o_this_sightWeight :: o_this_sightMany :: []))) :: (a_p1, .inr (1, [o_p1_phase, o_p1_digits, o_p1_value, .int v_p1_suitsRead, .ref a_p1_first, .ref a_p1_second, .ref a_p1_worth, .ref a_p1_winner])) :: (a_first, .inl (cI, 6, .inl v_first)) :: (a_p1_first, .inl (cI, 6, .inl v_p1_first)) :: (a_second, .inl (cI, 6, .inl v_second)) :: (a_p1_second, .inl (cI, 6, .inl v_p1_second)) :: (a_worth, .inl (cI, 6, .inl v_worth)) :: (a_p1_worth, .inl (cI, 6, .inl v_p1_worth)) :: (a_winner, .inl (cI, 6, .inl v_winner)) :: (a_p1_winner, .inl (cI, 6, .inl v_p1_winner)) :: (a_row, .inl (cI, 6, .inl v_row)) :: []) H := hP
  have hD : va_D A ((a_this, .inr (0, (o_this_weight :: o_this_hole :: o_this_held :: o_this_law :: .int v_p1_suitsRead :: .int v_sights :: o_this_full :: .ref a_first :: .ref a_second :: .ref a_worth :: .ref a_winner :: .ref a_row :: o_this_sightWeight :: o_this_sightMany :: []))) :: (a_p1, .inr (1, [o_p1_phase, o_p1_digits, o_p1_value, .int v_p1_suitsRead, .ref a_p1_first, .ref a_p1_second, .ref a_p1_worth, .ref a_p1_winner])) :: (a_first, .inl (cI, 6, .inl v_first)) :: (a_p1_first, .inl (cI, 6, .inl v_p1_first)) :: (a_second, .inl (cI, 6, .inl v_second)) :: (a_p1_second, .inl (cI, 6, .inl v_p1_second)) :: (a_worth, .inl (cI, 6, .inl v_worth)) :: (a_p1_worth, .inl (cI, 6, .inl v_p1_worth)) :: (a_winner, .inl (cI, 6, .inl v_winner)) :: (a_p1_winner, .inl (cI, 6, .inl v_p1_winner)) :: (a_row, .inl (cI, 6, .inl v_row)) :: []) := hD
  refine lv_aload_n hx hb dX0_take_8 rfl (lv_at hl 1 rfl) ?_
  refine va_get (D := D) (ci := 1) (v := .ref a_p1_first) (C := RX1) (T := TX1) (N := 8) hx hb hts iX1 hown hK.1 hP 1 rfl rfl 4 (by decide) l61 (fun _ h9 => h9) rfl dX0_take_9 ?_
  refine lv_aload_n hx hb dX0_take_12 rfl (lv_at hl 0 rfl) ?_
  refine va_get (D := D) (ci := 0) (v := .ref a_first) (C := RX0) (T := TX0) (N := 14) hx hb hts iX0 hown hK.1 hP 0 rfl rfl 7 (by decide) l34 (fun _ h9 => h9) rfl dX0_take_13 ?_
  obtain ⟨u1, hc2, hf⟩ := bnd1_some hf
  refine k_cv (wc := [(a_first, .inl (cI, 6, .inl v_first)), (a_p1_first, .inl (cI, 6, .inl v_p1_first))]) (wr := ((a_this, .inr (0, (o_this_weight :: o_this_hole :: o_this_held :: o_this_law :: .int v_p1_suitsRead :: .int v_sights :: o_this_full :: .ref a_first :: .ref a_second :: .ref a_worth :: .ref a_winner :: .ref a_row :: o_this_sightWeight :: o_this_sightMany :: []))) :: (a_p1, .inr (1, [o_p1_phase, o_p1_digits, o_p1_value, .int v_p1_suitsRead, .ref a_p1_first, .ref a_p1_second, .ref a_p1_worth, .ref a_p1_winner])) :: (a_second, .inl (cI, 6, .inl v_second)) :: (a_p1_second, .inl (cI, 6, .inl v_p1_second)) :: (a_worth, .inl (cI, 6, .inl v_worth)) :: (a_p1_worth, .inl (cI, 6, .inl v_p1_worth)) :: (a_winner, .inl (cI, 6, .inl v_winner)) :: (a_p1_winner, .inl (cI, 6, .inl v_p1_winner)) :: (a_row, .inl (cI, 6, .inl v_row)) :: [])) (w1 := [(a_first, .inl (cI, 6, .inl u1)), (a_p1_first, .inl (cI, 6, .inl v_p1_first))]) (ws' := ((a_this, .inr (0, (o_this_weight :: o_this_hole :: o_this_held :: o_this_law :: .int v_p1_suitsRead :: .int v_sights :: o_this_full :: .ref a_first :: .ref a_second :: .ref a_worth :: .ref a_winner :: .ref a_row :: o_this_sightWeight :: o_this_sightMany :: []))) :: (a_p1, .inr (1, [o_p1_phase, o_p1_digits, o_p1_value, .int v_p1_suitsRead, .ref a_p1_first, .ref a_p1_second, .ref a_p1_worth, .ref a_p1_winner])) :: (a_first, .inl (cI, 6, .inl u1)) :: (a_p1_first, .inl (cI, 6, .inl v_p1_first)) :: (a_second, .inl (cI, 6, .inl v_second)) :: (a_p1_second, .inl (cI, 6, .inl v_p1_second)) :: (a_worth, .inl (cI, 6, .inl v_worth)) :: (a_p1_worth, .inl (cI, 6, .inl v_p1_worth)) :: (a_winner, .inl (cI, 6, .inl v_winner)) :: (a_p1_winner, .inl (cI, 6, .inl v_p1_winner)) :: (a_row, .inl (cI, 6, .inl v_row)) :: [])) (va_runSN (As := [.ref a_p1_first, .ref a_first]) (rest := []) ⟨hx, hb, hml, hown, hts⟩ (tX3_copyRow l D cI cJ cZ cB a_first a_p1_first 6 6 v_first v_p1_first u1 hc2 H.size) ⟨va_cnB 2 hts gX0_take_X3_copyRow_n62 rfl rfl rfl hK.2.1 (hts (.initialized RX3) (by decide +kernel)) (by decide +kernel) ⟨Nat.le_of_ble_eq_true rfl, Nat.le_of_ble_eq_true rfl⟩, hts (.static yX3_copyRow) (by decide +kernel), trivial⟩ (k_preS (is := [2, 3]) hK hP hD rfl rfl) rfl rfl hl.1 rfl (lv_room (Nat.le_of_ble_eq_true rfl)) dX0_take_16 ⟨Nat.zero_le _, Nat.zero_le _⟩) hP hD hS hA [2, 3] (0 :: 1 :: 4 :: 5 :: 6 :: 7 :: 8 :: 9 :: 10 :: []) (0 :: 1 :: 9 :: 10 :: 2 :: 3 :: 4 :: 5 :: 6 :: 7 :: 8 :: []) rfl rfl rfl (by decide) rfl rfl (fun H locs hP hD hS => ?_)
  refine lv_aload_n hx hb dX0_take_19 rfl (lv_at hl 1 rfl) ?_
  refine va_get (D := D) (ci := 1) (v := .ref a_p1_second) (C := RX1) (T := TX1) (N := 8) hx hb hts iX1 hown hK.1 hP 1 rfl rfl 5 (by decide) l66 (fun _ h9 => h9) rfl dX0_take_20 ?_
  refine lv_aload_n hx hb dX0_take_23 rfl (lv_at hl 0 rfl) ?_
  refine va_get (D := D) (ci := 0) (v := .ref a_second) (C := RX0) (T := TX0) (N := 14) hx hb hts iX0 hown hK.1 hP 0 rfl rfl 8 (by decide) l38 (fun _ h9 => h9) rfl dX0_take_24 ?_
  obtain ⟨u3, hc4, hf⟩ := bnd1_some hf
  refine k_cv (wc := [(a_second, .inl (cI, 6, .inl v_second)), (a_p1_second, .inl (cI, 6, .inl v_p1_second))]) (wr := ((a_this, .inr (0, (o_this_weight :: o_this_hole :: o_this_held :: o_this_law :: .int v_p1_suitsRead :: .int v_sights :: o_this_full :: .ref a_first :: .ref a_second :: .ref a_worth :: .ref a_winner :: .ref a_row :: o_this_sightWeight :: o_this_sightMany :: []))) :: (a_p1, .inr (1, [o_p1_phase, o_p1_digits, o_p1_value, .int v_p1_suitsRead, .ref a_p1_first, .ref a_p1_second, .ref a_p1_worth, .ref a_p1_winner])) :: (a_first, .inl (cI, 6, .inl u1)) :: (a_p1_first, .inl (cI, 6, .inl v_p1_first)) :: (a_worth, .inl (cI, 6, .inl v_worth)) :: (a_p1_worth, .inl (cI, 6, .inl v_p1_worth)) :: (a_winner, .inl (cI, 6, .inl v_winner)) :: (a_p1_winner, .inl (cI, 6, .inl v_p1_winner)) :: (a_row, .inl (cI, 6, .inl v_row)) :: [])) (w1 := [(a_second, .inl (cI, 6, .inl u3)), (a_p1_second, .inl (cI, 6, .inl v_p1_second))]) (ws' := ((a_this, .inr (0, (o_this_weight :: o_this_hole :: o_this_held :: o_this_law :: .int v_p1_suitsRead :: .int v_sights :: o_this_full :: .ref a_first :: .ref a_second :: .ref a_worth :: .ref a_winner :: .ref a_row :: o_this_sightWeight :: o_this_sightMany :: []))) :: (a_p1, .inr (1, [o_p1_phase, o_p1_digits, o_p1_value, .int v_p1_suitsRead, .ref a_p1_first, .ref a_p1_second, .ref a_p1_worth, .ref a_p1_winner])) :: (a_first, .inl (cI, 6, .inl u1)) :: (a_p1_first, .inl (cI, 6, .inl v_p1_first)) :: (a_second, .inl (cI, 6, .inl u3)) :: (a_p1_second, .inl (cI, 6, .inl v_p1_second)) :: (a_worth, .inl (cI, 6, .inl v_worth)) :: (a_p1_worth, .inl (cI, 6, .inl v_p1_worth)) :: (a_winner, .inl (cI, 6, .inl v_winner)) :: (a_p1_winner, .inl (cI, 6, .inl v_p1_winner)) :: (a_row, .inl (cI, 6, .inl v_row)) :: [])) (va_runSN (As := [.ref a_p1_second, .ref a_second]) (rest := []) ⟨hx, hb, hml, hown, hts⟩ (tX3_copyRow l D cI cJ cZ cB a_second a_p1_second 6 6 v_second v_p1_second u3 hc4 H.size) ⟨va_cnB 2 hts gX0_take_X3_copyRow_n62 rfl rfl rfl hK.2.1 (hts (.initialized RX3) (by decide +kernel)) (by decide +kernel) ⟨Nat.le_of_ble_eq_true rfl, Nat.le_of_ble_eq_true rfl⟩, hts (.static yX3_copyRow) (by decide +kernel), trivial⟩ (k_preS (is := [4, 5]) hK hP hD rfl rfl) rfl rfl hl.1 rfl (lv_room (Nat.le_of_ble_eq_true rfl)) dX0_take_27 ⟨Nat.zero_le _, Nat.zero_le _⟩) hP hD hS hA [4, 5] (0 :: 1 :: 2 :: 3 :: 6 :: 7 :: 8 :: 9 :: 10 :: []) (0 :: 1 :: 2 :: 3 :: 9 :: 10 :: 4 :: 5 :: 6 :: 7 :: 8 :: []) rfl rfl rfl (by decide) rfl rfl (fun H locs hP hD hS => ?_)
  refine lv_aload_n hx hb dX0_take_30 rfl (lv_at hl 1 rfl) ?_
  refine va_get (D := D) (ci := 1) (v := .ref a_p1_worth) (C := RX1) (T := TX1) (N := 8) hx hb hts iX1 hown hK.1 hP 1 rfl rfl 6 (by decide) l67 (fun _ h9 => h9) rfl dX0_take_31 ?_
  refine lv_aload_n hx hb dX0_take_34 rfl (lv_at hl 0 rfl) ?_
  refine va_get (D := D) (ci := 0) (v := .ref a_worth) (C := RX0) (T := TX0) (N := 14) hx hb hts iX0 hown hK.1 hP 0 rfl rfl 9 (by decide) l41 (fun _ h9 => h9) rfl dX0_take_35 ?_
  obtain ⟨u5, hc6, hf⟩ := bnd1_some hf
  refine k_cv (wc := [(a_worth, .inl (cI, 6, .inl v_worth)), (a_p1_worth, .inl (cI, 6, .inl v_p1_worth))]) (wr := ((a_this, .inr (0, (o_this_weight :: o_this_hole :: o_this_held :: o_this_law :: .int v_p1_suitsRead :: .int v_sights :: o_this_full :: .ref a_first :: .ref a_second :: .ref a_worth :: .ref a_winner :: .ref a_row :: o_this_sightWeight :: o_this_sightMany :: []))) :: (a_p1, .inr (1, [o_p1_phase, o_p1_digits, o_p1_value, .int v_p1_suitsRead, .ref a_p1_first, .ref a_p1_second, .ref a_p1_worth, .ref a_p1_winner])) :: (a_first, .inl (cI, 6, .inl u1)) :: (a_p1_first, .inl (cI, 6, .inl v_p1_first)) :: (a_second, .inl (cI, 6, .inl u3)) :: (a_p1_second, .inl (cI, 6, .inl v_p1_second)) :: (a_winner, .inl (cI, 6, .inl v_winner)) :: (a_p1_winner, .inl (cI, 6, .inl v_p1_winner)) :: (a_row, .inl (cI, 6, .inl v_row)) :: [])) (w1 := [(a_worth, .inl (cI, 6, .inl u5)), (a_p1_worth, .inl (cI, 6, .inl v_p1_worth))]) (ws' := ((a_this, .inr (0, (o_this_weight :: o_this_hole :: o_this_held :: o_this_law :: .int v_p1_suitsRead :: .int v_sights :: o_this_full :: .ref a_first :: .ref a_second :: .ref a_worth :: .ref a_winner :: .ref a_row :: o_this_sightWeight :: o_this_sightMany :: []))) :: (a_p1, .inr (1, [o_p1_phase, o_p1_digits, o_p1_value, .int v_p1_suitsRead, .ref a_p1_first, .ref a_p1_second, .ref a_p1_worth, .ref a_p1_winner])) :: (a_first, .inl (cI, 6, .inl u1)) :: (a_p1_first, .inl (cI, 6, .inl v_p1_first)) :: (a_second, .inl (cI, 6, .inl u3)) :: (a_p1_second, .inl (cI, 6, .inl v_p1_second)) :: (a_worth, .inl (cI, 6, .inl u5)) :: (a_p1_worth, .inl (cI, 6, .inl v_p1_worth)) :: (a_winner, .inl (cI, 6, .inl v_winner)) :: (a_p1_winner, .inl (cI, 6, .inl v_p1_winner)) :: (a_row, .inl (cI, 6, .inl v_row)) :: [])) (va_runSN (As := [.ref a_p1_worth, .ref a_worth]) (rest := []) ⟨hx, hb, hml, hown, hts⟩ (tX3_copyRow l D cI cJ cZ cB a_worth a_p1_worth 6 6 v_worth v_p1_worth u5 hc6 H.size) ⟨va_cnB 2 hts gX0_take_X3_copyRow_n62 rfl rfl rfl hK.2.1 (hts (.initialized RX3) (by decide +kernel)) (by decide +kernel) ⟨Nat.le_of_ble_eq_true rfl, Nat.le_of_ble_eq_true rfl⟩, hts (.static yX3_copyRow) (by decide +kernel), trivial⟩ (k_preS (is := [6, 7]) hK hP hD rfl rfl) rfl rfl hl.1 rfl (lv_room (Nat.le_of_ble_eq_true rfl)) dX0_take_38 ⟨Nat.zero_le _, Nat.zero_le _⟩) hP hD hS hA [6, 7] (0 :: 1 :: 2 :: 3 :: 4 :: 5 :: 8 :: 9 :: 10 :: []) (0 :: 1 :: 2 :: 3 :: 4 :: 5 :: 9 :: 10 :: 6 :: 7 :: 8 :: []) rfl rfl rfl (by decide) rfl rfl (fun H locs hP hD hS => ?_)
  refine lv_aload_n hx hb dX0_take_41 rfl (lv_at hl 1 rfl) ?_
  refine va_get (D := D) (ci := 1) (v := .ref a_p1_winner) (C := RX1) (T := TX1) (N := 8) hx hb hts iX1 hown hK.1 hP 1 rfl rfl 7 (by decide) l68 (fun _ h9 => h9) rfl dX0_take_42 ?_
  refine lv_aload_n hx hb dX0_take_45 rfl (lv_at hl 0 rfl) ?_
  refine va_get (D := D) (ci := 0) (v := .ref a_winner) (C := RX0) (T := TX0) (N := 14) hx hb hts iX0 hown hK.1 hP 0 rfl rfl 10 (by decide) l44 (fun _ h9 => h9) rfl dX0_take_46 ?_
  obtain ⟨u7, hc8, hf⟩ := bnd1_some hf
  refine k_cv (wc := [(a_winner, .inl (cI, 6, .inl v_winner)), (a_p1_winner, .inl (cI, 6, .inl v_p1_winner))]) (wr := ((a_this, .inr (0, (o_this_weight :: o_this_hole :: o_this_held :: o_this_law :: .int v_p1_suitsRead :: .int v_sights :: o_this_full :: .ref a_first :: .ref a_second :: .ref a_worth :: .ref a_winner :: .ref a_row :: o_this_sightWeight :: o_this_sightMany :: []))) :: (a_p1, .inr (1, [o_p1_phase, o_p1_digits, o_p1_value, .int v_p1_suitsRead, .ref a_p1_first, .ref a_p1_second, .ref a_p1_worth, .ref a_p1_winner])) :: (a_first, .inl (cI, 6, .inl u1)) :: (a_p1_first, .inl (cI, 6, .inl v_p1_first)) :: (a_second, .inl (cI, 6, .inl u3)) :: (a_p1_second, .inl (cI, 6, .inl v_p1_second)) :: (a_worth, .inl (cI, 6, .inl u5)) :: (a_p1_worth, .inl (cI, 6, .inl v_p1_worth)) :: (a_row, .inl (cI, 6, .inl v_row)) :: [])) (w1 := [(a_winner, .inl (cI, 6, .inl u7)), (a_p1_winner, .inl (cI, 6, .inl v_p1_winner))]) (ws' := ((a_this, .inr (0, (o_this_weight :: o_this_hole :: o_this_held :: o_this_law :: .int v_p1_suitsRead :: .int v_sights :: o_this_full :: .ref a_first :: .ref a_second :: .ref a_worth :: .ref a_winner :: .ref a_row :: o_this_sightWeight :: o_this_sightMany :: []))) :: (a_p1, .inr (1, [o_p1_phase, o_p1_digits, o_p1_value, .int v_p1_suitsRead, .ref a_p1_first, .ref a_p1_second, .ref a_p1_worth, .ref a_p1_winner])) :: (a_first, .inl (cI, 6, .inl u1)) :: (a_p1_first, .inl (cI, 6, .inl v_p1_first)) :: (a_second, .inl (cI, 6, .inl u3)) :: (a_p1_second, .inl (cI, 6, .inl v_p1_second)) :: (a_worth, .inl (cI, 6, .inl u5)) :: (a_p1_worth, .inl (cI, 6, .inl v_p1_worth)) :: (a_winner, .inl (cI, 6, .inl u7)) :: (a_p1_winner, .inl (cI, 6, .inl v_p1_winner)) :: (a_row, .inl (cI, 6, .inl v_row)) :: [])) (va_runSN (As := [.ref a_p1_winner, .ref a_winner]) (rest := []) ⟨hx, hb, hml, hown, hts⟩ (tX3_copyRow l D cI cJ cZ cB a_winner a_p1_winner 6 6 v_winner v_p1_winner u7 hc8 H.size) ⟨va_cnB 2 hts gX0_take_X3_copyRow_n62 rfl rfl rfl hK.2.1 (hts (.initialized RX3) (by decide +kernel)) (by decide +kernel) ⟨Nat.le_of_ble_eq_true rfl, Nat.le_of_ble_eq_true rfl⟩, hts (.static yX3_copyRow) (by decide +kernel), trivial⟩ (k_preS (is := [8, 9]) hK hP hD rfl rfl) rfl rfl hl.1 rfl (lv_room (Nat.le_of_ble_eq_true rfl)) dX0_take_49 ⟨Nat.zero_le _, Nat.zero_le _⟩) hP hD hS hA [8, 9] (0 :: 1 :: 2 :: 3 :: 4 :: 5 :: 6 :: 7 :: 10 :: []) (0 :: 1 :: 2 :: 3 :: 4 :: 5 :: 6 :: 7 :: 9 :: 10 :: 8 :: []) rfl rfl rfl (by decide) rfl rfl (fun H locs hP hD hS => ?_)
  refine lv_iconst (v := 0) hx hb dX0_take_52 (by decide) ?_
  refine lv_istore_n (lv' := [(2, .int 0), (0, .ref a_this), (1, .ref a_p1)]) hx hb dX0_take_53 rfl hl (by decide) rfl (fun ls hl => ?_)
  have L54 : ∀ (n54 : Nat) (x2_54 : Int32) (v_row_54 : Nat → Int32) (H : Heap) (locs : List Loc) (ls : Array Slot), fX0_take_l54 v_p1_suitsRead u1 u3 u5 u7 n54 x2_54 v_row_54 = some (w_many, w_sights, w_first, w_second, w_worth, w_winner, w_row) → va_P D vwCl ((a_this, .inr (0, (o_this_weight :: o_this_hole :: o_this_held :: o_this_law :: .int v_p1_suitsRead :: .int v_sights :: o_this_full :: .ref a_first :: .ref a_second :: .ref a_worth :: .ref a_winner :: .ref a_row :: o_this_sightWeight :: o_this_sightMany :: []))) :: (a_p1, .inr (1, [o_p1_phase, o_p1_digits, o_p1_value, .int v_p1_suitsRead, .ref a_p1_first, .ref a_p1_second, .ref a_p1_worth, .ref a_p1_winner])) :: (a_first, .inl (cI, 6, .inl u1)) :: (a_p1_first, .inl (cI, 6, .inl v_p1_first)) :: (a_second, .inl (cI, 6, .inl u3)) :: (a_p1_second, .inl (cI, 6, .inl v_p1_second)) :: (a_worth, .inl (cI, 6, .inl u5)) :: (a_p1_worth, .inl (cI, 6, .inl v_p1_worth)) :: (a_winner, .inl (cI, 6, .inl u7)) :: (a_p1_winner, .inl (cI, 6, .inl v_p1_winner)) :: (a_row, .inl (cI, 6, .inl v_row_54)) :: []) H → va_D A ((a_this, .inr (0, (o_this_weight :: o_this_hole :: o_this_held :: o_this_law :: .int v_p1_suitsRead :: .int v_sights :: o_this_full :: .ref a_first :: .ref a_second :: .ref a_worth :: .ref a_winner :: .ref a_row :: o_this_sightWeight :: o_this_sightMany :: []))) :: (a_p1, .inr (1, [o_p1_phase, o_p1_digits, o_p1_value, .int v_p1_suitsRead, .ref a_p1_first, .ref a_p1_second, .ref a_p1_worth, .ref a_p1_winner])) :: (a_first, .inl (cI, 6, .inl u1)) :: (a_p1_first, .inl (cI, 6, .inl v_p1_first)) :: (a_second, .inl (cI, 6, .inl u3)) :: (a_p1_second, .inl (cI, 6, .inl v_p1_second)) :: (a_worth, .inl (cI, 6, .inl u5)) :: (a_p1_worth, .inl (cI, 6, .inl v_p1_worth)) :: (a_winner, .inl (cI, 6, .inl u7)) :: (a_p1_winner, .inl (cI, 6, .inl v_p1_winner)) :: (a_row, .inl (cI, 6, .inl v_row_54)) :: []) → va_S A s.heap H locs → lv_has ls 3 [(0, .ref a_this), (2, .int x2_54)] → W p l e (headSpec wsX0_take { frames := 2, cells := 0, slots := 0, locals := 43 }).room s m args below meth c H locs 0 0 Q (F0 m 54 ls []) := by
    intro n54
    induction n54 with
    | zero =>
      intro x2_54 v_row_54 H locs ls hf
      have hf : (none : Option ((Int32) × (Int32) × (Nat → Int32) × (Nat → Int32) × (Nat → Int32) × (Nat → Int32) × (Nat → Int32))) = some (w_many, w_sights, w_first, w_second, w_worth, w_winner, w_row) := hf
      cases hf
    | succ n54 ih54 =>
      intro x2_54 v_row_54 H locs ls hf hP hD hS hl
      rw [fX0_take_l54] at hf
      refine lv_iload_n hx hb dX0_take_54 rfl (lv_at hl 1 rfl) ?_
      refine lv_bipush (v := 6) hx hb dX0_take_55 (by decide) ?_
      refine lv_icmp_ge (tgt := 75) hx hb dX0_take_57 (by decide) (fun c9 => ?_) (fun c9 => ?_)
      · have hf := (if_pos c9).symm.trans hf
        refine lv_aload_n hx hb dX0_take_75 rfl (lv_at hl 0 rfl) ?_
        refine lv_iconst (v := 0) hx hb dX0_take_76 (by decide) ?_
        refine va_put (D := D) (ci := 0) (v := .int 0) (ty := .int) (C := RX0) (T := TX0) (N := 14) hx hb hts iX0 tyX0 tyX0_ok nmX0 hown hK.1 hP hD hS 0 rfl rfl 5 (by decide) l27 (fun _ h9 => h9) rfl (by decide +kernel) rfl rfl (Nat.le_of_ble_eq_true rfl) dX0_take_77 (fun H locs hP hD hS => ?_)
        have hP : va_P D vwCl ((a_this, .inr (0, (o_this_weight :: o_this_hole :: o_this_held :: o_this_law :: .int v_p1_suitsRead :: .int 0 :: o_this_full :: .ref a_first :: .ref a_second :: .ref a_worth :: .ref a_winner :: .ref a_row :: o_this_sightWeight :: o_this_sightMany :: []))) :: (a_p1, .inr (1, [o_p1_phase, o_p1_digits, o_p1_value, .int v_p1_suitsRead, .ref a_p1_first, .ref a_p1_second, .ref a_p1_worth, .ref a_p1_winner])) :: (a_first, .inl (cI, 6, .inl u1)) :: (a_p1_first, .inl (cI, 6, .inl v_p1_first)) :: (a_second, .inl (cI, 6, .inl u3)) :: (a_p1_second, .inl (cI, 6, .inl v_p1_second)) :: (a_worth, .inl (cI, 6, .inl u5)) :: (a_p1_worth, .inl (cI, 6, .inl v_p1_worth)) :: (a_winner, .inl (cI, 6, .inl u7)) :: (a_p1_winner, .inl (cI, 6, .inl v_p1_winner)) :: (a_row, .inl (cI, 6, .inl v_row_54)) :: []) H := hP
        have hD : va_D A ((a_this, .inr (0, (o_this_weight :: o_this_hole :: o_this_held :: o_this_law :: .int v_p1_suitsRead :: .int 0 :: o_this_full :: .ref a_first :: .ref a_second :: .ref a_worth :: .ref a_winner :: .ref a_row :: o_this_sightWeight :: o_this_sightMany :: []))) :: (a_p1, .inr (1, [o_p1_phase, o_p1_digits, o_p1_value, .int v_p1_suitsRead, .ref a_p1_first, .ref a_p1_second, .ref a_p1_worth, .ref a_p1_winner])) :: (a_first, .inl (cI, 6, .inl u1)) :: (a_p1_first, .inl (cI, 6, .inl v_p1_first)) :: (a_second, .inl (cI, 6, .inl u3)) :: (a_p1_second, .inl (cI, 6, .inl v_p1_second)) :: (a_worth, .inl (cI, 6, .inl u5)) :: (a_p1_worth, .inl (cI, 6, .inl v_p1_worth)) :: (a_winner, .inl (cI, 6, .inl u7)) :: (a_p1_winner, .inl (cI, 6, .inl v_p1_winner)) :: (a_row, .inl (cI, 6, .inl v_row_54)) :: []) := hD
        cases hf
        subst hQ
        exact k_rv hx hb hr hlocks hP hD hS dX0_take_80
      · have hf := (if_neg c9).symm.trans hf
        refine lv_aload_n hx hb dX0_take_60 rfl (lv_at hl 0 rfl) ?_
        refine va_get (D := D) (ci := 0) (v := .ref a_row) (C := RX0) (T := TX0) (N := 14) hx hb hts iX0 hown hK.1 hP 0 rfl rfl 11 (by decide) l47 (fun _ h9 => h9) rfl dX0_take_61 ?_
        refine lv_iload_n hx hb dX0_take_64 rfl (lv_at hl 1 rfl) ?_
        refine lv_iload_n hx hb dX0_take_65 rfl (lv_at hl 1 rfl) ?_
        obtain ⟨u10, hc11, hf⟩ := bnd1_some hf
        refine k_cv (wc := [(a_row, .inl (cI, 6, .inl v_row_54))]) (wr := ((a_this, .inr (0, (o_this_weight :: o_this_hole :: o_this_held :: o_this_law :: .int v_p1_suitsRead :: .int v_sights :: o_this_full :: .ref a_first :: .ref a_second :: .ref a_worth :: .ref a_winner :: .ref a_row :: o_this_sightWeight :: o_this_sightMany :: []))) :: (a_p1, .inr (1, [o_p1_phase, o_p1_digits, o_p1_value, .int v_p1_suitsRead, .ref a_p1_first, .ref a_p1_second, .ref a_p1_worth, .ref a_p1_winner])) :: (a_first, .inl (cI, 6, .inl u1)) :: (a_p1_first, .inl (cI, 6, .inl v_p1_first)) :: (a_second, .inl (cI, 6, .inl u3)) :: (a_p1_second, .inl (cI, 6, .inl v_p1_second)) :: (a_worth, .inl (cI, 6, .inl u5)) :: (a_p1_worth, .inl (cI, 6, .inl v_p1_worth)) :: (a_winner, .inl (cI, 6, .inl u7)) :: (a_p1_winner, .inl (cI, 6, .inl v_p1_winner)) :: [])) (w1 := [(a_row, .inl (cI, 6, .inl u10))]) (ws' := ((a_this, .inr (0, (o_this_weight :: o_this_hole :: o_this_held :: o_this_law :: .int v_p1_suitsRead :: .int v_sights :: o_this_full :: .ref a_first :: .ref a_second :: .ref a_worth :: .ref a_winner :: .ref a_row :: o_this_sightWeight :: o_this_sightMany :: []))) :: (a_p1, .inr (1, [o_p1_phase, o_p1_digits, o_p1_value, .int v_p1_suitsRead, .ref a_p1_first, .ref a_p1_second, .ref a_p1_worth, .ref a_p1_winner])) :: (a_first, .inl (cI, 6, .inl u1)) :: (a_p1_first, .inl (cI, 6, .inl v_p1_first)) :: (a_second, .inl (cI, 6, .inl u3)) :: (a_p1_second, .inl (cI, 6, .inl v_p1_second)) :: (a_worth, .inl (cI, 6, .inl u5)) :: (a_p1_worth, .inl (cI, 6, .inl v_p1_worth)) :: (a_winner, .inl (cI, 6, .inl u7)) :: (a_p1_winner, .inl (cI, 6, .inl v_p1_winner)) :: (a_row, .inl (cI, 6, .inl u10)) :: [])) (va_runSN (As := [.ref a_row, .int x2_54, .int x2_54]) (rest := []) ⟨hx, hb, hml, hown, hts⟩ (tX3_put l D cI cJ cZ cB a_row 6 x2_54 x2_54 v_row_54 u10 hc11 H.size) ⟨va_cnB 3 hts gX0_take_X3_put_n69 rfl rfl rfl hK.2.2.1 (hts (.initialized RX3) (by decide +kernel)) (by decide +kernel) ⟨Nat.le_of_ble_eq_true rfl, Nat.le_of_ble_eq_true rfl⟩, hts (.static yX3_put) (by decide +kernel), trivial⟩ (k_preS (is := [10]) hK hP hD rfl rfl) rfl rfl hl.1 rfl (lv_room (Nat.le_of_ble_eq_true rfl)) dX0_take_66 ⟨Nat.zero_le _, Nat.zero_le _⟩) hP hD hS hA [10] (0 :: 1 :: 2 :: 3 :: 4 :: 5 :: 6 :: 7 :: 8 :: 9 :: []) (0 :: 1 :: 2 :: 3 :: 4 :: 5 :: 6 :: 7 :: 8 :: 9 :: 10 :: []) rfl rfl rfl (by decide) rfl rfl (fun H locs hP hD hS => ?_)
        refine lv_iinc (v := (x2_54 + 1)) (lv' := [(2, .int (x2_54 + 1)), (0, .ref a_this)]) hx hb dX0_take_69 hl (k := 1) rfl (by rfl) (by decide) rfl (fun ls hl => ?_)
        refine lv_goto (tgt := 54) hx hb dX0_take_72 (by decide) ?_
        exact ih54 (x2_54 + 1) u10 _ _ _ hf hP hD hS (lv_sub hl [1, 0] rfl)
  exact L54 FU 0 v_row _ _ _ hf hP hD hS (lv_sub hl [1, 0] rfl)

set_option maxHeartbeats 4000000 in
set_option maxRecDepth 100000 in
theorem tX0_copy (l : Launch) (D : va_G) (cI cJ cZ cB : ClassId) (a_this : Nat) (a_p1 : Nat) (a_first : Nat) (a_p1_first : Nat) (a_second : Nat) (a_p1_second : Nat) (a_worth : Nat) (a_p1_worth : Nat) (a_winner : Nat) (a_p1_winner : Nat) (a_row : Nat) (a_p1_row : Nat) (a_sightWeight : Nat) (a_p1_sightWeight : Nat) (a_sightMany : Nat) (a_p1_sightMany : Nat) (o_this_full : Value) (o_p1_full : Value) (v_p1_weight : Int32) (v_weight : Int32) (v_p1_hole : Int32) (v_hole : Int32) (v_p1_held : Int32) (v_held : Int32) (v_p1_law : Int32) (v_law : Int32) (v_p1_many : Int32) (v_many : Int32) (v_p1_sights : Int32) (v_sights : Int32) (v_first : Nat → Int32) (v_p1_first : Nat → Int32) (v_second : Nat → Int32) (v_p1_second : Nat → Int32) (v_worth : Nat → Int32) (v_p1_worth : Nat → Int32) (v_winner : Nat → Int32) (v_p1_winner : Nat → Int32) (v_row : Nat → Int32) (v_p1_row : Nat → Int32) (v_sightWeight : Nat → Int32) (v_p1_sightWeight : Nat → Int32) (v_sightMany : Nat → Int32) (v_p1_sightMany : Nat → Int32) (w_weight : Int32) (w_hole : Int32) (w_held : Int32) (w_law : Int32) (w_many : Int32) (w_sights : Int32) (w_first : Nat → Int32) (w_second : Nat → Int32) (w_worth : Nat → Int32) (w_winner : Nat → Int32) (w_row : Nat → Int32) (w_sightWeight : Nat → Int32) (w_sightMany : Nat → Int32) (hf : fX0_copy v_p1_weight v_p1_hole v_p1_held v_p1_law v_p1_many v_p1_sights v_first v_p1_first v_second v_p1_second v_worth v_p1_worth v_winner v_p1_winner v_row v_p1_row v_sightWeight v_p1_sightWeight v_sightMany v_p1_sightMany = some (w_weight, w_hole, w_held, w_law, w_many, w_sights, w_first, w_second, w_worth, w_winner, w_row, w_sightWeight, w_sightMany)) : MW l yX0_copy wsX0_copy { frames := 2, cells := 0, slots := 0, locals := 43 } D cI cJ cZ cB ((a_this, .inr (0, (.int v_weight :: .int v_hole :: .int v_held :: .int v_law :: .int v_many :: .int v_sights :: o_this_full :: .ref a_first :: .ref a_second :: .ref a_worth :: .ref a_winner :: .ref a_row :: .ref a_sightWeight :: .ref a_sightMany :: []))) :: (a_p1, .inr (0, (.int v_p1_weight :: .int v_p1_hole :: .int v_p1_held :: .int v_p1_law :: .int v_p1_many :: .int v_p1_sights :: o_p1_full :: .ref a_p1_first :: .ref a_p1_second :: .ref a_p1_worth :: .ref a_p1_winner :: .ref a_p1_row :: .ref a_p1_sightWeight :: .ref a_p1_sightMany :: []))) :: (a_first, .inl (cI, 6, .inl v_first)) :: (a_p1_first, .inl (cI, 6, .inl v_p1_first)) :: (a_second, .inl (cI, 6, .inl v_second)) :: (a_p1_second, .inl (cI, 6, .inl v_p1_second)) :: (a_worth, .inl (cI, 6, .inl v_worth)) :: (a_p1_worth, .inl (cI, 6, .inl v_p1_worth)) :: (a_winner, .inl (cI, 6, .inl v_winner)) :: (a_p1_winner, .inl (cI, 6, .inl v_p1_winner)) :: (a_row, .inl (cI, 6, .inl v_row)) :: (a_p1_row, .inl (cI, 6, .inl v_p1_row)) :: (a_sightWeight, .inl (cI, 6, .inl v_sightWeight)) :: (a_p1_sightWeight, .inl (cI, 6, .inl v_p1_sightWeight)) :: (a_sightMany, .inl (cI, 6, .inl v_sightMany)) :: (a_p1_sightMany, .inl (cI, 6, .inl v_p1_sightMany)) :: []) [.ref a_this, .ref a_p1] (QWv D ((a_this, .inr (0, (.int w_weight :: .int w_hole :: .int w_held :: .int w_law :: .int w_many :: .int w_sights :: o_this_full :: .ref a_first :: .ref a_second :: .ref a_worth :: .ref a_winner :: .ref a_row :: .ref a_sightWeight :: .ref a_sightMany :: []))) :: (a_p1, .inr (0, (.int v_p1_weight :: .int v_p1_hole :: .int v_p1_held :: .int v_p1_law :: .int v_p1_many :: .int v_p1_sights :: o_p1_full :: .ref a_p1_first :: .ref a_p1_second :: .ref a_p1_worth :: .ref a_p1_winner :: .ref a_p1_row :: .ref a_p1_sightWeight :: .ref a_p1_sightMany :: []))) :: (a_first, .inl (cI, 6, .inl w_first)) :: (a_p1_first, .inl (cI, 6, .inl v_p1_first)) :: (a_second, .inl (cI, 6, .inl w_second)) :: (a_p1_second, .inl (cI, 6, .inl v_p1_second)) :: (a_worth, .inl (cI, 6, .inl w_worth)) :: (a_p1_worth, .inl (cI, 6, .inl v_p1_worth)) :: (a_winner, .inl (cI, 6, .inl w_winner)) :: (a_p1_winner, .inl (cI, 6, .inl v_p1_winner)) :: (a_row, .inl (cI, 6, .inl w_row)) :: (a_p1_row, .inl (cI, 6, .inl v_p1_row)) :: (a_sightWeight, .inl (cI, 6, .inl w_sightWeight)) :: (a_p1_sightWeight, .inl (cI, 6, .inl v_p1_sightWeight)) :: (a_sightMany, .inl (cI, 6, .inl w_sightMany)) :: (a_p1_sightMany, .inl (cI, 6, .inl v_p1_sightMany)) :: [])) := by
  refine k_body (cc := cX0_copy) (maxL := 2) (ret := none) (by decide) rfl (Nat.le_of_ble_eq_true rfl) ?_
  intro p e s m args below meth c hx hb hr hml hts hown hlocks hname hK A hA hP hD hS ls hl
  have hl : lv_has ls 2 [(0, .ref a_this), (1, .ref a_p1)] := hl
  generalize hQ : MQ below ((QWv D ((a_this, .inr (0, (.int w_weight :: .int w_hole :: .int w_held :: .int w_law :: .int w_many :: .int w_sights :: o_this_full :: .ref a_first :: .ref a_second :: .ref a_worth :: .ref a_winner :: .ref a_row :: .ref a_sightWeight :: .ref a_sightMany :: []))) :: (a_p1, .inr (0, (.int v_p1_weight :: .int v_p1_hole :: .int v_p1_held :: .int v_p1_law :: .int v_p1_many :: .int v_p1_sights :: o_p1_full :: .ref a_p1_first :: .ref a_p1_second :: .ref a_p1_worth :: .ref a_p1_winner :: .ref a_p1_row :: .ref a_p1_sightWeight :: .ref a_p1_sightMany :: []))) :: (a_first, .inl (cI, 6, .inl w_first)) :: (a_p1_first, .inl (cI, 6, .inl v_p1_first)) :: (a_second, .inl (cI, 6, .inl w_second)) :: (a_p1_second, .inl (cI, 6, .inl v_p1_second)) :: (a_worth, .inl (cI, 6, .inl w_worth)) :: (a_p1_worth, .inl (cI, 6, .inl v_p1_worth)) :: (a_winner, .inl (cI, 6, .inl w_winner)) :: (a_p1_winner, .inl (cI, 6, .inl v_p1_winner)) :: (a_row, .inl (cI, 6, .inl w_row)) :: (a_p1_row, .inl (cI, 6, .inl v_p1_row)) :: (a_sightWeight, .inl (cI, 6, .inl w_sightWeight)) :: (a_p1_sightWeight, .inl (cI, 6, .inl v_p1_sightWeight)) :: (a_sightMany, .inl (cI, 6, .inl w_sightMany)) :: (a_p1_sightMany, .inl (cI, 6, .inl v_p1_sightMany)) :: [])) A) args s 0 0 A = Q
  obtain ⟨H, hH⟩ : ∃ H, H = s.heap := ⟨_, rfl⟩
  obtain ⟨locs, hlo⟩ : ∃ z : List Loc, z = [] := ⟨_, rfl⟩
  have hP : va_P D vwCl ((a_this, .inr (0, (.int v_weight :: .int v_hole :: .int v_held :: .int v_law :: .int v_many :: .int v_sights :: o_this_full :: .ref a_first :: .ref a_second :: .ref a_worth :: .ref a_winner :: .ref a_row :: .ref a_sightWeight :: .ref a_sightMany :: []))) :: (a_p1, .inr (0, (.int v_p1_weight :: .int v_p1_hole :: .int v_p1_held :: .int v_p1_law :: .int v_p1_many :: .int v_p1_sights :: o_p1_full :: .ref a_p1_first :: .ref a_p1_second :: .ref a_p1_worth :: .ref a_p1_winner :: .ref a_p1_row :: .ref a_p1_sightWeight :: .ref a_p1_sightMany :: []))) :: (a_first, .inl (cI, 6, .inl v_first)) :: (a_p1_first, .inl (cI, 6, .inl v_p1_first)) :: (a_second, .inl (cI, 6, .inl v_second)) :: (a_p1_second, .inl (cI, 6, .inl v_p1_second)) :: (a_worth, .inl (cI, 6, .inl v_worth)) :: (a_p1_worth, .inl (cI, 6, .inl v_p1_worth)) :: (a_winner, .inl (cI, 6, .inl v_winner)) :: (a_p1_winner, .inl (cI, 6, .inl v_p1_winner)) :: (a_row, .inl (cI, 6, .inl v_row)) :: (a_p1_row, .inl (cI, 6, .inl v_p1_row)) :: (a_sightWeight, .inl (cI, 6, .inl v_sightWeight)) :: (a_p1_sightWeight, .inl (cI, 6, .inl v_p1_sightWeight)) :: (a_sightMany, .inl (cI, 6, .inl v_sightMany)) :: (a_p1_sightMany, .inl (cI, 6, .inl v_p1_sightMany)) :: []) H := by rw [hH]; exact hP
  have hS : va_S A s.heap H locs := by rw [hH, hlo]; exact hS
  suffices hg : W p l e (headSpec wsX0_copy { frames := 2, cells := 0, slots := 0, locals := 43 }).room s m args below meth c H locs 0 0 Q (F0 m 0 ls []) by rw [hH, hlo] at hg; exact hg
  have l9 := hts (.fieldLink RX0 9 "CandleCourt$Bench" "weight" "I") (by decide +kernel)
  have l15 := hts (.fieldLink RX0 15 "CandleCourt$Bench" "hole" "I") (by decide +kernel)
  have l18 := hts (.fieldLink RX0 18 "CandleCourt$Bench" "held" "I") (by decide +kernel)
  have l21 := hts (.fieldLink RX0 21 "CandleCourt$Bench" "law" "I") (by decide +kernel)
  have l24 := hts (.fieldLink RX0 24 "CandleCourt$Bench" "many" "I") (by decide +kernel)
  have l27 := hts (.fieldLink RX0 27 "CandleCourt$Bench" "sights" "I") (by decide +kernel)
  have l34 := hts (.fieldLink RX0 34 "CandleCourt$Bench" "first" "[I") (by decide +kernel)
  have l38 := hts (.fieldLink RX0 38 "CandleCourt$Bench" "second" "[I") (by decide +kernel)
  have l41 := hts (.fieldLink RX0 41 "CandleCourt$Bench" "worth" "[I") (by decide +kernel)
  have l44 := hts (.fieldLink RX0 44 "CandleCourt$Bench" "winner" "[I") (by decide +kernel)
  have l47 := hts (.fieldLink RX0 47 "CandleCourt$Bench" "row" "[I") (by decide +kernel)
  have l50 := hts (.fieldLink RX0 50 "CandleCourt$Bench" "sightWeight" "[I") (by decide +kernel)
  have l53 := hts (.fieldLink RX0 53 "CandleCourt$Bench" "sightMany" "[I") (by decide +kernel)
  have iX0 : ∀ w ∈ wsX00, w ∈ wsX0_copy := by decide +kernel
  unfold fX0_copy at hf
  refine lv_aload_n hx hb dX0_copy_0 rfl (lv_at hl 0 rfl) ?_
  refine lv_aload_n hx hb dX0_copy_1 rfl (lv_at hl 1 rfl) ?_
  refine va_get (D := D) (ci := 0) (v := .int v_p1_weight) (C := RX0) (T := TX0) (N := 14) hx hb hts iX0 hown hK.1 hP 1 rfl rfl 0 (by decide) l9 (fun _ h9 => h9) rfl dX0_copy_2 ?_
  refine va_put (D := D) (ci := 0) (v := .int v_p1_weight) (ty := .int) (C := RX0) (T := TX0) (N := 14) hx hb hts iX0 tyX0 tyX0_ok nmX0 hown hK.1 hP hD hS 0 rfl rfl 0 (by decide) l9 (fun _ h9 => h9) rfl (by decide +kernel) rfl rfl (Nat.le_of_ble_eq_true rfl) dX0_copy_5 (fun H locs hP hD hS => ?_)
  have hP : va_P D vwCl ((a_this, .inr (0, (.int v_p1_weight :: .int v_hole :: .int v_held :: .int v_law :: .int v_many :: .int v_sights :: o_this_full :: .ref a_first :: .ref a_second :: .ref a_worth :: .ref a_winner :: .ref a_row :: .ref a_sightWeight :: .ref a_sightMany :: []))) :: (a_p1, .inr (0, (.int v_p1_weight :: .int v_p1_hole :: .int v_p1_held :: .int v_p1_law :: .int v_p1_many :: .int v_p1_sights :: o_p1_full :: .ref a_p1_first :: .ref a_p1_second :: .ref a_p1_worth :: .ref a_p1_winner :: .ref a_p1_row :: .ref a_p1_sightWeight :: .ref a_p1_sightMany :: []))) :: (a_first, .inl (cI, 6, .inl v_first)) :: (a_p1_first, .inl (cI, 6, .inl v_p1_first)) :: (a_second, .inl (cI, 6, .inl v_second)) :: (a_p1_second, .inl (cI, 6, .inl v_p1_second)) :: (a_worth, .inl (cI, 6, .inl v_worth)) :: (a_p1_worth, .inl (cI, 6, .inl v_p1_worth)) :: (a_winner, .inl (cI, 6, .inl v_winner)) :: (a_p1_winner, .inl (cI, 6, .inl v_p1_winner)) :: (a_row, .inl (cI, 6, .inl v_row)) :: (a_p1_row, .inl (cI, 6, .inl v_p1_row)) :: (a_sightWeight, .inl (cI, 6, .inl v_sightWeight)) :: (a_p1_sightWeight, .inl (cI, 6, .inl v_p1_sightWeight)) :: (a_sightMany, .inl (cI, 6, .inl v_sightMany)) :: (a_p1_sightMany, .inl (cI, 6, .inl v_p1_sightMany)) :: []) H := hP
  have hD : va_D A ((a_this, .inr (0, (.int v_p1_weight :: .int v_hole :: .int v_held :: .int v_law :: .int v_many :: .int v_sights :: o_this_full :: .ref a_first :: .ref a_second :: .ref a_worth :: .ref a_winner :: .ref a_row :: .ref a_sightWeight :: .ref a_sightMany :: []))) :: (a_p1, .inr (0, (.int v_p1_weight :: .int v_p1_hole :: .int v_p1_held :: .int v_p1_law :: .int v_p1_many :: .int v_p1_sights :: o_p1_full :: .ref a_p1_first :: .ref a_p1_second :: .ref a_p1_worth :: .ref a_p1_winner :: .ref a_p1_row :: .ref a_p1_sightWeight :: .ref a_p1_sightMany :: []))) :: (a_first, .inl (cI, 6, .inl v_first)) :: (a_p1_first, .inl (cI, 6, .inl v_p1_first)) :: (a_second, .inl (cI, 6, .inl v_second)) :: (a_p1_second, .inl (cI, 6, .inl v_p1_second)) :: (a_worth, .inl (cI, 6, .inl v_worth)) :: (a_p1_worth, .inl (cI, 6, .inl v_p1_worth)) :: (a_winner, .inl (cI, 6, .inl v_winner)) :: (a_p1_winner, .inl (cI, 6, .inl v_p1_winner)) :: (a_row, .inl (cI, 6, .inl v_row)) :: (a_p1_row, .inl (cI, 6, .inl v_p1_row)) :: (a_sightWeight, .inl (cI, 6, .inl v_sightWeight)) :: (a_p1_sightWeight, .inl (cI, 6, .inl v_p1_sightWeight)) :: (a_sightMany, .inl (cI, 6, .inl v_sightMany)) :: (a_p1_sightMany, .inl (cI, 6, .inl v_p1_sightMany)) :: []) := hD
  refine lv_aload_n hx hb dX0_copy_8 rfl (lv_at hl 0 rfl) ?_
  refine lv_aload_n hx hb dX0_copy_9 rfl (lv_at hl 1 rfl) ?_
  refine va_get (D := D) (ci := 0) (v := .int v_p1_hole) (C := RX0) (T := TX0) (N := 14) hx hb hts iX0 hown hK.1 hP 1 rfl rfl 1 (by decide) l15 (fun _ h9 => h9) rfl dX0_copy_10 ?_
  refine va_put (D := D) (ci := 0) (v := .int v_p1_hole) (ty := .int) (C := RX0) (T := TX0) (N := 14) hx hb hts iX0 tyX0 tyX0_ok nmX0 hown hK.1 hP hD hS 0 rfl rfl 1 (by decide) l15 (fun _ h9 => h9) rfl (by decide +kernel) rfl rfl (Nat.le_of_ble_eq_true rfl) dX0_copy_13 (fun H locs hP hD hS => ?_)
  have hP : va_P D vwCl ((a_this, .inr (0, (.int v_p1_weight :: .int v_p1_hole :: .int v_held :: .int v_law :: .int v_many :: .int v_sights :: o_this_full :: .ref a_first :: .ref a_second :: .ref a_worth :: .ref a_winner :: .ref a_row :: .ref a_sightWeight :: .ref a_sightMany :: []))) :: (a_p1, .inr (0, (.int v_p1_weight :: .int v_p1_hole :: .int v_p1_held :: .int v_p1_law :: .int v_p1_many :: .int v_p1_sights :: o_p1_full :: .ref a_p1_first :: .ref a_p1_second :: .ref a_p1_worth :: .ref a_p1_winner :: .ref a_p1_row :: .ref a_p1_sightWeight :: .ref a_p1_sightMany :: []))) :: (a_first, .inl (cI, 6, .inl v_first)) :: (a_p1_first, .inl (cI, 6, .inl v_p1_first)) :: (a_second, .inl (cI, 6, .inl v_second)) :: (a_p1_second, .inl (cI, 6, .inl v_p1_second)) :: (a_worth, .inl (cI, 6, .inl v_worth)) :: (a_p1_worth, .inl (cI, 6, .inl v_p1_worth)) :: (a_winner, .inl (cI, 6, .inl v_winner)) :: (a_p1_winner, .inl (cI, 6, .inl v_p1_winner)) :: (a_row, .inl (cI, 6, .inl v_row)) :: (a_p1_row, .inl (cI, 6, .inl v_p1_row)) :: (a_sightWeight, .inl (cI, 6, .inl v_sightWeight)) :: (a_p1_sightWeight, .inl (cI, 6, .inl v_p1_sightWeight)) :: (a_sightMany, .inl (cI, 6, .inl v_sightMany)) :: (a_p1_sightMany, .inl (cI, 6, .inl v_p1_sightMany)) :: []) H := hP
  have hD : va_D A ((a_this, .inr (0, (.int v_p1_weight :: .int v_p1_hole :: .int v_held :: .int v_law :: .int v_many :: .int v_sights :: o_this_full :: .ref a_first :: .ref a_second :: .ref a_worth :: .ref a_winner :: .ref a_row :: .ref a_sightWeight :: .ref a_sightMany :: []))) :: (a_p1, .inr (0, (.int v_p1_weight :: .int v_p1_hole :: .int v_p1_held :: .int v_p1_law :: .int v_p1_many :: .int v_p1_sights :: o_p1_full :: .ref a_p1_first :: .ref a_p1_second :: .ref a_p1_worth :: .ref a_p1_winner :: .ref a_p1_row :: .ref a_p1_sightWeight :: .ref a_p1_sightMany :: []))) :: (a_first, .inl (cI, 6, .inl v_first)) :: (a_p1_first, .inl (cI, 6, .inl v_p1_first)) :: (a_second, .inl (cI, 6, .inl v_second)) :: (a_p1_second, .inl (cI, 6, .inl v_p1_second)) :: (a_worth, .inl (cI, 6, .inl v_worth)) :: (a_p1_worth, .inl (cI, 6, .inl v_p1_worth)) :: (a_winner, .inl (cI, 6, .inl v_winner)) :: (a_p1_winner, .inl (cI, 6, .inl v_p1_winner)) :: (a_row, .inl (cI, 6, .inl v_row)) :: (a_p1_row, .inl (cI, 6, .inl v_p1_row)) :: (a_sightWeight, .inl (cI, 6, .inl v_sightWeight)) :: (a_p1_sightWeight, .inl (cI, 6, .inl v_p1_sightWeight)) :: (a_sightMany, .inl (cI, 6, .inl v_sightMany)) :: (a_p1_sightMany, .inl (cI, 6, .inl v_p1_sightMany)) :: []) := hD
  refine lv_aload_n hx hb dX0_copy_16 rfl (lv_at hl 0 rfl) ?_
  refine lv_aload_n hx hb dX0_copy_17 rfl (lv_at hl 1 rfl) ?_
  refine va_get (D := D) (ci := 0) (v := .int v_p1_held) (C := RX0) (T := TX0) (N := 14) hx hb hts iX0 hown hK.1 hP 1 rfl rfl 2 (by decide) l18 (fun _ h9 => h9) rfl dX0_copy_18 ?_
  refine va_put (D := D) (ci := 0) (v := .int v_p1_held) (ty := .int) (C := RX0) (T := TX0) (N := 14) hx hb hts iX0 tyX0 tyX0_ok nmX0 hown hK.1 hP hD hS 0 rfl rfl 2 (by decide) l18 (fun _ h9 => h9) rfl (by decide +kernel) rfl rfl (Nat.le_of_ble_eq_true rfl) dX0_copy_21 (fun H locs hP hD hS => ?_)
  have hP : va_P D vwCl ((a_this, .inr (0, (.int v_p1_weight :: .int v_p1_hole :: .int v_p1_held :: .int v_law :: .int v_many :: .int v_sights :: o_this_full :: .ref a_first :: .ref a_second :: .ref a_worth :: .ref a_winner :: .ref a_row :: .ref a_sightWeight :: .ref a_sightMany :: []))) :: (a_p1, .inr (0, (.int v_p1_weight :: .int v_p1_hole :: .int v_p1_held :: .int v_p1_law :: .int v_p1_many :: .int v_p1_sights :: o_p1_full :: .ref a_p1_first :: .ref a_p1_second :: .ref a_p1_worth :: .ref a_p1_winner :: .ref a_p1_row :: .ref a_p1_sightWeight :: .ref a_p1_sightMany :: []))) :: (a_first, .inl (cI, 6, .inl v_first)) :: (a_p1_first, .inl (cI, 6, .inl v_p1_first)) :: (a_second, .inl (cI, 6, .inl v_second)) :: (a_p1_second, .inl (cI, 6, .inl v_p1_second)) :: (a_worth, .inl (cI, 6, .inl v_worth)) :: (a_p1_worth, .inl (cI, 6, .inl v_p1_worth)) :: (a_winner, .inl (cI, 6, .inl v_winner)) :: (a_p1_winner, .inl (cI, 6, .inl v_p1_winner)) :: (a_row, .inl (cI, 6, .inl v_row)) :: (a_p1_row, .inl (cI, 6, .inl v_p1_row)) :: (a_sightWeight, .inl (cI, 6, .inl v_sightWeight)) :: (a_p1_sightWeight, .inl (cI, 6, .inl v_p1_sightWeight)) :: (a_sightMany, .inl (cI, 6, .inl v_sightMany)) :: (a_p1_sightMany, .inl (cI, 6, .inl v_p1_sightMany)) :: []) H := hP
  have hD : va_D A ((a_this, .inr (0, (.int v_p1_weight :: .int v_p1_hole :: .int v_p1_held :: .int v_law :: .int v_many :: .int v_sights :: o_this_full :: .ref a_first :: .ref a_second :: .ref a_worth :: .ref a_winner :: .ref a_row :: .ref a_sightWeight :: .ref a_sightMany :: []))) :: (a_p1, .inr (0, (.int v_p1_weight :: .int v_p1_hole :: .int v_p1_held :: .int v_p1_law :: .int v_p1_many :: .int v_p1_sights :: o_p1_full :: .ref a_p1_first :: .ref a_p1_second :: .ref a_p1_worth :: .ref a_p1_winner :: .ref a_p1_row :: .ref a_p1_sightWeight :: .ref a_p1_sightMany :: []))) :: (a_first, .inl (cI, 6, .inl v_first)) :: (a_p1_first, .inl (cI, 6, .inl v_p1_first)) :: (a_second, .inl (cI, 6, .inl v_second)) :: (a_p1_second, .inl (cI, 6, .inl v_p1_second)) :: (a_worth, .inl (cI, 6, .inl v_worth)) :: (a_p1_worth, .inl (cI, 6, .inl v_p1_worth)) :: (a_winner, .inl (cI, 6, .inl v_winner)) :: (a_p1_winner, .inl (cI, 6, .inl v_p1_winner)) :: (a_row, .inl (cI, 6, .inl v_row)) :: (a_p1_row, .inl (cI, 6, .inl v_p1_row)) :: (a_sightWeight, .inl (cI, 6, .inl v_sightWeight)) :: (a_p1_sightWeight, .inl (cI, 6, .inl v_p1_sightWeight)) :: (a_sightMany, .inl (cI, 6, .inl v_sightMany)) :: (a_p1_sightMany, .inl (cI, 6, .inl v_p1_sightMany)) :: []) := hD
  refine lv_aload_n hx hb dX0_copy_24 rfl (lv_at hl 0 rfl) ?_
  refine lv_aload_n hx hb dX0_copy_25 rfl (lv_at hl 1 rfl) ?_
  refine va_get (D := D) (ci := 0) (v := .int v_p1_law) (C := RX0) (T := TX0) (N := 14) hx hb hts iX0 hown hK.1 hP 1 rfl rfl 3 (by decide) l21 (fun _ h9 => h9) rfl dX0_copy_26 ?_
  refine va_put (D := D) (ci := 0) (v := .int v_p1_law) (ty := .int) (C := RX0) (T := TX0) (N := 14) hx hb hts iX0 tyX0 tyX0_ok nmX0 hown hK.1 hP hD hS 0 rfl rfl 3 (by decide) l21 (fun _ h9 => h9) rfl (by decide +kernel) rfl rfl (Nat.le_of_ble_eq_true rfl) dX0_copy_29 (fun H locs hP hD hS => ?_)
  have hP : va_P D vwCl ((a_this, .inr (0, (.int v_p1_weight :: .int v_p1_hole :: .int v_p1_held :: .int v_p1_law :: .int v_many :: .int v_sights :: o_this_full :: .ref a_first :: .ref a_second :: .ref a_worth :: .ref a_winner :: .ref a_row :: .ref a_sightWeight :: .ref a_sightMany :: []))) :: (a_p1, .inr (0, (.int v_p1_weight :: .int v_p1_hole :: .int v_p1_held :: .int v_p1_law :: .int v_p1_many :: .int v_p1_sights :: o_p1_full :: .ref a_p1_first :: .ref a_p1_second :: .ref a_p1_worth :: .ref a_p1_winner :: .ref a_p1_row :: .ref a_p1_sightWeight :: .ref a_p1_sightMany :: []))) :: (a_first, .inl (cI, 6, .inl v_first)) :: (a_p1_first, .inl (cI, 6, .inl v_p1_first)) :: (a_second, .inl (cI, 6, .inl v_second)) :: (a_p1_second, .inl (cI, 6, .inl v_p1_second)) :: (a_worth, .inl (cI, 6, .inl v_worth)) :: (a_p1_worth, .inl (cI, 6, .inl v_p1_worth)) :: (a_winner, .inl (cI, 6, .inl v_winner)) :: (a_p1_winner, .inl (cI, 6, .inl v_p1_winner)) :: (a_row, .inl (cI, 6, .inl v_row)) :: (a_p1_row, .inl (cI, 6, .inl v_p1_row)) :: (a_sightWeight, .inl (cI, 6, .inl v_sightWeight)) :: (a_p1_sightWeight, .inl (cI, 6, .inl v_p1_sightWeight)) :: (a_sightMany, .inl (cI, 6, .inl v_sightMany)) :: (a_p1_sightMany, .inl (cI, 6, .inl v_p1_sightMany)) :: []) H := hP
  have hD : va_D A ((a_this, .inr (0, (.int v_p1_weight :: .int v_p1_hole :: .int v_p1_held :: .int v_p1_law :: .int v_many :: .int v_sights :: o_this_full :: .ref a_first :: .ref a_second :: .ref a_worth :: .ref a_winner :: .ref a_row :: .ref a_sightWeight :: .ref a_sightMany :: []))) :: (a_p1, .inr (0, (.int v_p1_weight :: .int v_p1_hole :: .int v_p1_held :: .int v_p1_law :: .int v_p1_many :: .int v_p1_sights :: o_p1_full :: .ref a_p1_first :: .ref a_p1_second :: .ref a_p1_worth :: .ref a_p1_winner :: .ref a_p1_row :: .ref a_p1_sightWeight :: .ref a_p1_sightMany :: []))) :: (a_first, .inl (cI, 6, .inl v_first)) :: (a_p1_first, .inl (cI, 6, .inl v_p1_first)) :: (a_second, .inl (cI, 6, .inl v_second)) :: (a_p1_second, .inl (cI, 6, .inl v_p1_second)) :: (a_worth, .inl (cI, 6, .inl v_worth)) :: (a_p1_worth, .inl (cI, 6, .inl v_p1_worth)) :: (a_winner, .inl (cI, 6, .inl v_winner)) :: (a_p1_winner, .inl (cI, 6, .inl v_p1_winner)) :: (a_row, .inl (cI, 6, .inl v_row)) :: (a_p1_row, .inl (cI, 6, .inl v_p1_row)) :: (a_sightWeight, .inl (cI, 6, .inl v_sightWeight)) :: (a_p1_sightWeight, .inl (cI, 6, .inl v_p1_sightWeight)) :: (a_sightMany, .inl (cI, 6, .inl v_sightMany)) :: (a_p1_sightMany, .inl (cI, 6, .inl v_p1_sightMany)) :: []) := hD
  refine lv_aload_n hx hb dX0_copy_32 rfl (lv_at hl 0 rfl) ?_
  refine lv_aload_n hx hb dX0_copy_33 rfl (lv_at hl 1 rfl) ?_
  refine va_get (D := D) (ci := 0) (v := .int v_p1_many) (C := RX0) (T := TX0) (N := 14) hx hb hts iX0 hown hK.1 hP 1 rfl rfl 4 (by decide) l24 (fun _ h9 => h9) rfl dX0_copy_34 ?_
  refine va_put (D := D) (ci := 0) (v := .int v_p1_many) (ty := .int) (C := RX0) (T := TX0) (N := 14) hx hb hts iX0 tyX0 tyX0_ok nmX0 hown hK.1 hP hD hS 0 rfl rfl 4 (by decide) l24 (fun _ h9 => h9) rfl (by decide +kernel) rfl rfl (Nat.le_of_ble_eq_true rfl) dX0_copy_37 (fun H locs hP hD hS => ?_)
  have hP : va_P D vwCl ((a_this, .inr (0, (.int v_p1_weight :: .int v_p1_hole :: .int v_p1_held :: .int v_p1_law :: .int v_p1_many :: .int v_sights :: o_this_full :: .ref a_first :: .ref a_second :: .ref a_worth :: .ref a_winner :: .ref a_row :: .ref a_sightWeight :: .ref a_sightMany :: []))) :: (a_p1, .inr (0, (.int v_p1_weight :: .int v_p1_hole :: .int v_p1_held :: .int v_p1_law :: .int v_p1_many :: .int v_p1_sights :: o_p1_full :: .ref a_p1_first :: .ref a_p1_second :: .ref a_p1_worth :: .ref a_p1_winner :: .ref a_p1_row :: .ref a_p1_sightWeight :: .ref a_p1_sightMany :: []))) :: (a_first, .inl (cI, 6, .inl v_first)) :: (a_p1_first, .inl (cI, 6, .inl v_p1_first)) :: (a_second, .inl (cI, 6, .inl v_second)) :: (a_p1_second, .inl (cI, 6, .inl v_p1_second)) :: (a_worth, .inl (cI, 6, .inl v_worth)) :: (a_p1_worth, .inl (cI, 6, .inl v_p1_worth)) :: (a_winner, .inl (cI, 6, .inl v_winner)) :: (a_p1_winner, .inl (cI, 6, .inl v_p1_winner)) :: (a_row, .inl (cI, 6, .inl v_row)) :: (a_p1_row, .inl (cI, 6, .inl v_p1_row)) :: (a_sightWeight, .inl (cI, 6, .inl v_sightWeight)) :: (a_p1_sightWeight, .inl (cI, 6, .inl v_p1_sightWeight)) :: (a_sightMany, .inl (cI, 6, .inl v_sightMany)) :: (a_p1_sightMany, .inl (cI, 6, .inl v_p1_sightMany)) :: []) H := hP
  have hD : va_D A ((a_this, .inr (0, (.int v_p1_weight :: .int v_p1_hole :: .int v_p1_held :: .int v_p1_law :: .int v_p1_many :: .int v_sights :: o_this_full :: .ref a_first :: .ref a_second :: .ref a_worth :: .ref a_winner :: .ref a_row :: .ref a_sightWeight :: .ref a_sightMany :: []))) :: (a_p1, .inr (0, (.int v_p1_weight :: .int v_p1_hole :: .int v_p1_held :: .int v_p1_law :: .int v_p1_many :: .int v_p1_sights :: o_p1_full :: .ref a_p1_first :: .ref a_p1_second :: .ref a_p1_worth :: .ref a_p1_winner :: .ref a_p1_row :: .ref a_p1_sightWeight :: .ref a_p1_sightMany :: []))) :: (a_first, .inl (cI, 6, .inl v_first)) :: (a_p1_first, .inl (cI, 6, .inl v_p1_first)) :: (a_second, .inl (cI, 6, .inl v_second)) :: (a_p1_second, .inl (cI, 6, .inl v_p1_second)) :: (a_worth, .inl (cI, 6, .inl v_worth)) :: (a_p1_worth, .inl (cI, 6, .inl v_p1_worth)) :: (a_winner, .inl (cI, 6, .inl v_winner)) :: (a_p1_winner, .inl (cI, 6, .inl v_p1_winner)) :: (a_row, .inl (cI, 6, .inl v_row)) :: (a_p1_row, .inl (cI, 6, .inl v_p1_row)) :: (a_sightWeight, .inl (cI, 6, .inl v_sightWeight)) :: (a_p1_sightWeight, .inl (cI, 6, .inl v_p1_sightWeight)) :: (a_sightMany, .inl (cI, 6, .inl v_sightMany)) :: (a_p1_sightMany, .inl (cI, 6, .inl v_p1_sightMany)) :: []) := hD
  refine lv_aload_n hx hb dX0_copy_40 rfl (lv_at hl 0 rfl) ?_
  refine lv_aload_n hx hb dX0_copy_41 rfl (lv_at hl 1 rfl) ?_
  refine va_get (D := D) (ci := 0) (v := .int v_p1_sights) (C := RX0) (T := TX0) (N := 14) hx hb hts iX0 hown hK.1 hP 1 rfl rfl 5 (by decide) l27 (fun _ h9 => h9) rfl dX0_copy_42 ?_
  refine va_put (D := D) (ci := 0) (v := .int v_p1_sights) (ty := .int) (C := RX0) (T := TX0) (N := 14) hx hb hts iX0 tyX0 tyX0_ok nmX0 hown hK.1 hP hD hS 0 rfl rfl 5 (by decide) l27 (fun _ h9 => h9) rfl (by decide +kernel) rfl rfl (Nat.le_of_ble_eq_true rfl) dX0_copy_45 (fun H locs hP hD hS => ?_)
  have hP : va_P D vwCl ((a_this, .inr (0, (.int v_p1_weight :: .int v_p1_hole :: .int v_p1_held :: .int v_p1_law :: .int v_p1_many :: .int v_p1_sights :: o_this_full :: .ref a_first :: .ref a_second :: .ref a_worth :: .ref a_winner :: .ref a_row :: .ref a_sightWeight :: .ref a_sightMany :: []))) :: (a_p1, .inr (0, (.int v_p1_weight :: .int v_p1_hole :: .int v_p1_held :: .int v_p1_law :: .int v_p1_many :: .int v_p1_sights :: o_p1_full :: .ref a_p1_first :: .ref a_p1_second :: .ref a_p1_worth :: .ref a_p1_winner :: .ref a_p1_row :: .ref a_p1_sightWeight :: .ref a_p1_sightMany :: []))) :: (a_first, .inl (cI, 6, .inl v_first)) :: (a_p1_first, .inl (cI, 6, .inl v_p1_first)) :: (a_second, .inl (cI, 6, .inl v_second)) :: (a_p1_second, .inl (cI, 6, .inl v_p1_second)) :: (a_worth, .inl (cI, 6, .inl v_worth)) :: (a_p1_worth, .inl (cI, 6, .inl v_p1_worth)) :: (a_winner, .inl (cI, 6, .inl v_winner)) :: (a_p1_winner, .inl (cI, 6, .inl v_p1_winner)) :: (a_row, .inl (cI, 6, .inl v_row)) :: (a_p1_row, .inl (cI, 6, .inl v_p1_row)) :: (a_sightWeight, .inl (cI, 6, .inl v_sightWeight)) :: (a_p1_sightWeight, .inl (cI, 6, .inl v_p1_sightWeight)) :: (a_sightMany, .inl (cI, 6, .inl v_sightMany)) :: (a_p1_sightMany, .inl (cI, 6, .inl v_p1_sightMany)) :: []) H := hP
  have hD : va_D A ((a_this, .inr (0, (.int v_p1_weight :: .int v_p1_hole :: .int v_p1_held :: .int v_p1_law :: .int v_p1_many :: .int v_p1_sights :: o_this_full :: .ref a_first :: .ref a_second :: .ref a_worth :: .ref a_winner :: .ref a_row :: .ref a_sightWeight :: .ref a_sightMany :: []))) :: (a_p1, .inr (0, (.int v_p1_weight :: .int v_p1_hole :: .int v_p1_held :: .int v_p1_law :: .int v_p1_many :: .int v_p1_sights :: o_p1_full :: .ref a_p1_first :: .ref a_p1_second :: .ref a_p1_worth :: .ref a_p1_winner :: .ref a_p1_row :: .ref a_p1_sightWeight :: .ref a_p1_sightMany :: []))) :: (a_first, .inl (cI, 6, .inl v_first)) :: (a_p1_first, .inl (cI, 6, .inl v_p1_first)) :: (a_second, .inl (cI, 6, .inl v_second)) :: (a_p1_second, .inl (cI, 6, .inl v_p1_second)) :: (a_worth, .inl (cI, 6, .inl v_worth)) :: (a_p1_worth, .inl (cI, 6, .inl v_p1_worth)) :: (a_winner, .inl (cI, 6, .inl v_winner)) :: (a_p1_winner, .inl (cI, 6, .inl v_p1_winner)) :: (a_row, .inl (cI, 6, .inl v_row)) :: (a_p1_row, .inl (cI, 6, .inl v_p1_row)) :: (a_sightWeight, .inl (cI, 6, .inl v_sightWeight)) :: (a_p1_sightWeight, .inl (cI, 6, .inl v_p1_sightWeight)) :: (a_sightMany, .inl (cI, 6, .inl v_sightMany)) :: (a_p1_sightMany, .inl (cI, 6, .inl v_p1_sightMany)) :: []) := hD
  refine lv_aload_n hx hb dX0_copy_48 rfl (lv_at hl 1 rfl) ?_
  refine va_get (D := D) (ci := 0) (v := .ref a_p1_first) (C := RX0) (T := TX0) (N := 14) hx hb hts iX0 hown hK.1 hP 1 rfl rfl 7 (by decide) l34 (fun _ h9 => h9) rfl dX0_copy_49 ?_
  refine lv_aload_n hx hb dX0_copy_52 rfl (lv_at hl 0 rfl) ?_
  refine va_get (D := D) (ci := 0) (v := .ref a_first) (C := RX0) (T := TX0) (N := 14) hx hb hts iX0 hown hK.1 hP 0 rfl rfl 7 (by decide) l34 (fun _ h9 => h9) rfl dX0_copy_53 ?_
  obtain ⟨u1, hc2, hf⟩ := bnd1_some hf
  refine k_cv (wc := [(a_first, .inl (cI, 6, .inl v_first)), (a_p1_first, .inl (cI, 6, .inl v_p1_first))]) (wr := ((a_this, .inr (0, (.int v_p1_weight :: .int v_p1_hole :: .int v_p1_held :: .int v_p1_law :: .int v_p1_many :: .int v_p1_sights :: o_this_full :: .ref a_first :: .ref a_second :: .ref a_worth :: .ref a_winner :: .ref a_row :: .ref a_sightWeight :: .ref a_sightMany :: []))) :: (a_p1, .inr (0, (.int v_p1_weight :: .int v_p1_hole :: .int v_p1_held :: .int v_p1_law :: .int v_p1_many :: .int v_p1_sights :: o_p1_full :: .ref a_p1_first :: .ref a_p1_second :: .ref a_p1_worth :: .ref a_p1_winner :: .ref a_p1_row :: .ref a_p1_sightWeight :: .ref a_p1_sightMany :: []))) :: (a_second, .inl (cI, 6, .inl v_second)) :: (a_p1_second, .inl (cI, 6, .inl v_p1_second)) :: (a_worth, .inl (cI, 6, .inl v_worth)) :: (a_p1_worth, .inl (cI, 6, .inl v_p1_worth)) :: (a_winner, .inl (cI, 6, .inl v_winner)) :: (a_p1_winner, .inl (cI, 6, .inl v_p1_winner)) :: (a_row, .inl (cI, 6, .inl v_row)) :: (a_p1_row, .inl (cI, 6, .inl v_p1_row)) :: (a_sightWeight, .inl (cI, 6, .inl v_sightWeight)) :: (a_p1_sightWeight, .inl (cI, 6, .inl v_p1_sightWeight)) :: (a_sightMany, .inl (cI, 6, .inl v_sightMany)) :: (a_p1_sightMany, .inl (cI, 6, .inl v_p1_sightMany)) :: [])) (w1 := [(a_first, .inl (cI, 6, .inl u1)), (a_p1_first, .inl (cI, 6, .inl v_p1_first))]) (ws' := ((a_this, .inr (0, (.int v_p1_weight :: .int v_p1_hole :: .int v_p1_held :: .int v_p1_law :: .int v_p1_many :: .int v_p1_sights :: o_this_full :: .ref a_first :: .ref a_second :: .ref a_worth :: .ref a_winner :: .ref a_row :: .ref a_sightWeight :: .ref a_sightMany :: []))) :: (a_p1, .inr (0, (.int v_p1_weight :: .int v_p1_hole :: .int v_p1_held :: .int v_p1_law :: .int v_p1_many :: .int v_p1_sights :: o_p1_full :: .ref a_p1_first :: .ref a_p1_second :: .ref a_p1_worth :: .ref a_p1_winner :: .ref a_p1_row :: .ref a_p1_sightWeight :: .ref a_p1_sightMany :: []))) :: (a_first, .inl (cI, 6, .inl u1)) :: (a_p1_first, .inl (cI, 6, .inl v_p1_first)) :: (a_second, .inl (cI, 6, .inl v_second)) :: (a_p1_second, .inl (cI, 6, .inl v_p1_second)) :: (a_worth, .inl (cI, 6, .inl v_worth)) :: (a_p1_worth, .inl (cI, 6, .inl v_p1_worth)) :: (a_winner, .inl (cI, 6, .inl v_winner)) :: (a_p1_winner, .inl (cI, 6, .inl v_p1_winner)) :: (a_row, .inl (cI, 6, .inl v_row)) :: (a_p1_row, .inl (cI, 6, .inl v_p1_row)) :: (a_sightWeight, .inl (cI, 6, .inl v_sightWeight)) :: (a_p1_sightWeight, .inl (cI, 6, .inl v_p1_sightWeight)) :: (a_sightMany, .inl (cI, 6, .inl v_sightMany)) :: (a_p1_sightMany, .inl (cI, 6, .inl v_p1_sightMany)) :: [])) (va_runSN (As := [.ref a_p1_first, .ref a_first]) (rest := []) ⟨hx, hb, hml, hown, hts⟩ (tX3_copyRow l D cI cJ cZ cB a_first a_p1_first 6 6 v_first v_p1_first u1 hc2 H.size) ⟨va_cnB 2 hts gX0_copy_X3_copyRow_n62 rfl rfl rfl hK.2.1 (hts (.initialized RX3) (by decide +kernel)) (by decide +kernel) ⟨Nat.le_of_ble_eq_true rfl, Nat.le_of_ble_eq_true rfl⟩, hts (.static yX3_copyRow) (by decide +kernel), trivial⟩ (k_preS (is := [2, 3]) hK hP hD rfl rfl) rfl rfl hl.1 rfl (lv_room (Nat.le_of_ble_eq_true rfl)) dX0_copy_56 ⟨Nat.zero_le _, Nat.zero_le _⟩) hP hD hS hA [2, 3] (0 :: 1 :: 4 :: 5 :: 6 :: 7 :: 8 :: 9 :: 10 :: 11 :: 12 :: 13 :: 14 :: 15 :: []) (0 :: 1 :: 14 :: 15 :: 2 :: 3 :: 4 :: 5 :: 6 :: 7 :: 8 :: 9 :: 10 :: 11 :: 12 :: 13 :: []) rfl rfl rfl (by decide) rfl rfl (fun H locs hP hD hS => ?_)
  refine lv_aload_n hx hb dX0_copy_59 rfl (lv_at hl 1 rfl) ?_
  refine va_get (D := D) (ci := 0) (v := .ref a_p1_second) (C := RX0) (T := TX0) (N := 14) hx hb hts iX0 hown hK.1 hP 1 rfl rfl 8 (by decide) l38 (fun _ h9 => h9) rfl dX0_copy_60 ?_
  refine lv_aload_n hx hb dX0_copy_63 rfl (lv_at hl 0 rfl) ?_
  refine va_get (D := D) (ci := 0) (v := .ref a_second) (C := RX0) (T := TX0) (N := 14) hx hb hts iX0 hown hK.1 hP 0 rfl rfl 8 (by decide) l38 (fun _ h9 => h9) rfl dX0_copy_64 ?_
  obtain ⟨u3, hc4, hf⟩ := bnd1_some hf
  refine k_cv (wc := [(a_second, .inl (cI, 6, .inl v_second)), (a_p1_second, .inl (cI, 6, .inl v_p1_second))]) (wr := ((a_this, .inr (0, (.int v_p1_weight :: .int v_p1_hole :: .int v_p1_held :: .int v_p1_law :: .int v_p1_many :: .int v_p1_sights :: o_this_full :: .ref a_first :: .ref a_second :: .ref a_worth :: .ref a_winner :: .ref a_row :: .ref a_sightWeight :: .ref a_sightMany :: []))) :: (a_p1, .inr (0, (.int v_p1_weight :: .int v_p1_hole :: .int v_p1_held :: .int v_p1_law :: .int v_p1_many :: .int v_p1_sights :: o_p1_full :: .ref a_p1_first :: .ref a_p1_second :: .ref a_p1_worth :: .ref a_p1_winner :: .ref a_p1_row :: .ref a_p1_sightWeight :: .ref a_p1_sightMany :: []))) :: (a_first, .inl (cI, 6, .inl u1)) :: (a_p1_first, .inl (cI, 6, .inl v_p1_first)) :: (a_worth, .inl (cI, 6, .inl v_worth)) :: (a_p1_worth, .inl (cI, 6, .inl v_p1_worth)) :: (a_winner, .inl (cI, 6, .inl v_winner)) :: (a_p1_winner, .inl (cI, 6, .inl v_p1_winner)) :: (a_row, .inl (cI, 6, .inl v_row)) :: (a_p1_row, .inl (cI, 6, .inl v_p1_row)) :: (a_sightWeight, .inl (cI, 6, .inl v_sightWeight)) :: (a_p1_sightWeight, .inl (cI, 6, .inl v_p1_sightWeight)) :: (a_sightMany, .inl (cI, 6, .inl v_sightMany)) :: (a_p1_sightMany, .inl (cI, 6, .inl v_p1_sightMany)) :: [])) (w1 := [(a_second, .inl (cI, 6, .inl u3)), (a_p1_second, .inl (cI, 6, .inl v_p1_second))]) (ws' := ((a_this, .inr (0, (.int v_p1_weight :: .int v_p1_hole :: .int v_p1_held :: .int v_p1_law :: .int v_p1_many :: .int v_p1_sights :: o_this_full :: .ref a_first :: .ref a_second :: .ref a_worth :: .ref a_winner :: .ref a_row :: .ref a_sightWeight :: .ref a_sightMany :: []))) :: (a_p1, .inr (0, (.int v_p1_weight :: .int v_p1_hole :: .int v_p1_held :: .int v_p1_law :: .int v_p1_many :: .int v_p1_sights :: o_p1_full :: .ref a_p1_first :: .ref a_p1_second :: .ref a_p1_worth :: .ref a_p1_winner :: .ref a_p1_row :: .ref a_p1_sightWeight :: .ref a_p1_sightMany :: []))) :: (a_first, .inl (cI, 6, .inl u1)) :: (a_p1_first, .inl (cI, 6, .inl v_p1_first)) :: (a_second, .inl (cI, 6, .inl u3)) :: (a_p1_second, .inl (cI, 6, .inl v_p1_second)) :: (a_worth, .inl (cI, 6, .inl v_worth)) :: (a_p1_worth, .inl (cI, 6, .inl v_p1_worth)) :: (a_winner, .inl (cI, 6, .inl v_winner)) :: (a_p1_winner, .inl (cI, 6, .inl v_p1_winner)) :: (a_row, .inl (cI, 6, .inl v_row)) :: (a_p1_row, .inl (cI, 6, .inl v_p1_row)) :: (a_sightWeight, .inl (cI, 6, .inl v_sightWeight)) :: (a_p1_sightWeight, .inl (cI, 6, .inl v_p1_sightWeight)) :: (a_sightMany, .inl (cI, 6, .inl v_sightMany)) :: (a_p1_sightMany, .inl (cI, 6, .inl v_p1_sightMany)) :: [])) (va_runSN (As := [.ref a_p1_second, .ref a_second]) (rest := []) ⟨hx, hb, hml, hown, hts⟩ (tX3_copyRow l D cI cJ cZ cB a_second a_p1_second 6 6 v_second v_p1_second u3 hc4 H.size) ⟨va_cnB 2 hts gX0_copy_X3_copyRow_n62 rfl rfl rfl hK.2.1 (hts (.initialized RX3) (by decide +kernel)) (by decide +kernel) ⟨Nat.le_of_ble_eq_true rfl, Nat.le_of_ble_eq_true rfl⟩, hts (.static yX3_copyRow) (by decide +kernel), trivial⟩ (k_preS (is := [4, 5]) hK hP hD rfl rfl) rfl rfl hl.1 rfl (lv_room (Nat.le_of_ble_eq_true rfl)) dX0_copy_67 ⟨Nat.zero_le _, Nat.zero_le _⟩) hP hD hS hA [4, 5] (0 :: 1 :: 2 :: 3 :: 6 :: 7 :: 8 :: 9 :: 10 :: 11 :: 12 :: 13 :: 14 :: 15 :: []) (0 :: 1 :: 2 :: 3 :: 14 :: 15 :: 4 :: 5 :: 6 :: 7 :: 8 :: 9 :: 10 :: 11 :: 12 :: 13 :: []) rfl rfl rfl (by decide) rfl rfl (fun H locs hP hD hS => ?_)
  refine lv_aload_n hx hb dX0_copy_70 rfl (lv_at hl 1 rfl) ?_
  refine va_get (D := D) (ci := 0) (v := .ref a_p1_worth) (C := RX0) (T := TX0) (N := 14) hx hb hts iX0 hown hK.1 hP 1 rfl rfl 9 (by decide) l41 (fun _ h9 => h9) rfl dX0_copy_71 ?_
  refine lv_aload_n hx hb dX0_copy_74 rfl (lv_at hl 0 rfl) ?_
  refine va_get (D := D) (ci := 0) (v := .ref a_worth) (C := RX0) (T := TX0) (N := 14) hx hb hts iX0 hown hK.1 hP 0 rfl rfl 9 (by decide) l41 (fun _ h9 => h9) rfl dX0_copy_75 ?_
  obtain ⟨u5, hc6, hf⟩ := bnd1_some hf
  refine k_cv (wc := [(a_worth, .inl (cI, 6, .inl v_worth)), (a_p1_worth, .inl (cI, 6, .inl v_p1_worth))]) (wr := ((a_this, .inr (0, (.int v_p1_weight :: .int v_p1_hole :: .int v_p1_held :: .int v_p1_law :: .int v_p1_many :: .int v_p1_sights :: o_this_full :: .ref a_first :: .ref a_second :: .ref a_worth :: .ref a_winner :: .ref a_row :: .ref a_sightWeight :: .ref a_sightMany :: []))) :: (a_p1, .inr (0, (.int v_p1_weight :: .int v_p1_hole :: .int v_p1_held :: .int v_p1_law :: .int v_p1_many :: .int v_p1_sights :: o_p1_full :: .ref a_p1_first :: .ref a_p1_second :: .ref a_p1_worth :: .ref a_p1_winner :: .ref a_p1_row :: .ref a_p1_sightWeight :: .ref a_p1_sightMany :: []))) :: (a_first, .inl (cI, 6, .inl u1)) :: (a_p1_first, .inl (cI, 6, .inl v_p1_first)) :: (a_second, .inl (cI, 6, .inl u3)) :: (a_p1_second, .inl (cI, 6, .inl v_p1_second)) :: (a_winner, .inl (cI, 6, .inl v_winner)) :: (a_p1_winner, .inl (cI, 6, .inl v_p1_winner)) :: (a_row, .inl (cI, 6, .inl v_row)) :: (a_p1_row, .inl (cI, 6, .inl v_p1_row)) :: (a_sightWeight, .inl (cI, 6, .inl v_sightWeight)) :: (a_p1_sightWeight, .inl (cI, 6, .inl v_p1_sightWeight)) :: (a_sightMany, .inl (cI, 6, .inl v_sightMany)) :: (a_p1_sightMany, .inl (cI, 6, .inl v_p1_sightMany)) :: [])) (w1 := [(a_worth, .inl (cI, 6, .inl u5)), (a_p1_worth, .inl (cI, 6, .inl v_p1_worth))]) (ws' := ((a_this, .inr (0, (.int v_p1_weight :: .int v_p1_hole :: .int v_p1_held :: .int v_p1_law :: .int v_p1_many :: .int v_p1_sights :: o_this_full :: .ref a_first :: .ref a_second :: .ref a_worth :: .ref a_winner :: .ref a_row :: .ref a_sightWeight :: .ref a_sightMany :: []))) :: (a_p1, .inr (0, (.int v_p1_weight :: .int v_p1_hole :: .int v_p1_held :: .int v_p1_law :: .int v_p1_many :: .int v_p1_sights :: o_p1_full :: .ref a_p1_first :: .ref a_p1_second :: .ref a_p1_worth :: .ref a_p1_winner :: .ref a_p1_row :: .ref a_p1_sightWeight :: .ref a_p1_sightMany :: []))) :: (a_first, .inl (cI, 6, .inl u1)) :: (a_p1_first, .inl (cI, 6, .inl v_p1_first)) :: (a_second, .inl (cI, 6, .inl u3)) :: (a_p1_second, .inl (cI, 6, .inl v_p1_second)) :: (a_worth, .inl (cI, 6, .inl u5)) :: (a_p1_worth, .inl (cI, 6, .inl v_p1_worth)) :: (a_winner, .inl (cI, 6, .inl v_winner)) :: (a_p1_winner, .inl (cI, 6, .inl v_p1_winner)) :: (a_row, .inl (cI, 6, .inl v_row)) :: (a_p1_row, .inl (cI, 6, .inl v_p1_row)) :: (a_sightWeight, .inl (cI, 6, .inl v_sightWeight)) :: (a_p1_sightWeight, .inl (cI, 6, .inl v_p1_sightWeight)) :: (a_sightMany, .inl (cI, 6, .inl v_sightMany)) :: (a_p1_sightMany, .inl (cI, 6, .inl v_p1_sightMany)) :: [])) (va_runSN (As := [.ref a_p1_worth, .ref a_worth]) (rest := []) ⟨hx, hb, hml, hown, hts⟩ (tX3_copyRow l D cI cJ cZ cB a_worth a_p1_worth 6 6 v_worth v_p1_worth u5 hc6 H.size) ⟨va_cnB 2 hts gX0_copy_X3_copyRow_n62 rfl rfl rfl hK.2.1 (hts (.initialized RX3) (by decide +kernel)) (by decide +kernel) ⟨Nat.le_of_ble_eq_true rfl, Nat.le_of_ble_eq_true rfl⟩, hts (.static yX3_copyRow) (by decide +kernel), trivial⟩ (k_preS (is := [6, 7]) hK hP hD rfl rfl) rfl rfl hl.1 rfl (lv_room (Nat.le_of_ble_eq_true rfl)) dX0_copy_78 ⟨Nat.zero_le _, Nat.zero_le _⟩) hP hD hS hA [6, 7] (0 :: 1 :: 2 :: 3 :: 4 :: 5 :: 8 :: 9 :: 10 :: 11 :: 12 :: 13 :: 14 :: 15 :: []) (0 :: 1 :: 2 :: 3 :: 4 :: 5 :: 14 :: 15 :: 6 :: 7 :: 8 :: 9 :: 10 :: 11 :: 12 :: 13 :: []) rfl rfl rfl (by decide) rfl rfl (fun H locs hP hD hS => ?_)
  refine lv_aload_n hx hb dX0_copy_81 rfl (lv_at hl 1 rfl) ?_
  refine va_get (D := D) (ci := 0) (v := .ref a_p1_winner) (C := RX0) (T := TX0) (N := 14) hx hb hts iX0 hown hK.1 hP 1 rfl rfl 10 (by decide) l44 (fun _ h9 => h9) rfl dX0_copy_82 ?_
  refine lv_aload_n hx hb dX0_copy_85 rfl (lv_at hl 0 rfl) ?_
  refine va_get (D := D) (ci := 0) (v := .ref a_winner) (C := RX0) (T := TX0) (N := 14) hx hb hts iX0 hown hK.1 hP 0 rfl rfl 10 (by decide) l44 (fun _ h9 => h9) rfl dX0_copy_86 ?_
  obtain ⟨u7, hc8, hf⟩ := bnd1_some hf
  refine k_cv (wc := [(a_winner, .inl (cI, 6, .inl v_winner)), (a_p1_winner, .inl (cI, 6, .inl v_p1_winner))]) (wr := ((a_this, .inr (0, (.int v_p1_weight :: .int v_p1_hole :: .int v_p1_held :: .int v_p1_law :: .int v_p1_many :: .int v_p1_sights :: o_this_full :: .ref a_first :: .ref a_second :: .ref a_worth :: .ref a_winner :: .ref a_row :: .ref a_sightWeight :: .ref a_sightMany :: []))) :: (a_p1, .inr (0, (.int v_p1_weight :: .int v_p1_hole :: .int v_p1_held :: .int v_p1_law :: .int v_p1_many :: .int v_p1_sights :: o_p1_full :: .ref a_p1_first :: .ref a_p1_second :: .ref a_p1_worth :: .ref a_p1_winner :: .ref a_p1_row :: .ref a_p1_sightWeight :: .ref a_p1_sightMany :: []))) :: (a_first, .inl (cI, 6, .inl u1)) :: (a_p1_first, .inl (cI, 6, .inl v_p1_first)) :: (a_second, .inl (cI, 6, .inl u3)) :: (a_p1_second, .inl (cI, 6, .inl v_p1_second)) :: (a_worth, .inl (cI, 6, .inl u5)) :: (a_p1_worth, .inl (cI, 6, .inl v_p1_worth)) :: (a_row, .inl (cI, 6, .inl v_row)) :: (a_p1_row, .inl (cI, 6, .inl v_p1_row)) :: (a_sightWeight, .inl (cI, 6, .inl v_sightWeight)) :: (a_p1_sightWeight, .inl (cI, 6, .inl v_p1_sightWeight)) :: (a_sightMany, .inl (cI, 6, .inl v_sightMany)) :: (a_p1_sightMany, .inl (cI, 6, .inl v_p1_sightMany)) :: [])) (w1 := [(a_winner, .inl (cI, 6, .inl u7)), (a_p1_winner, .inl (cI, 6, .inl v_p1_winner))]) (ws' := ((a_this, .inr (0, (.int v_p1_weight :: .int v_p1_hole :: .int v_p1_held :: .int v_p1_law :: .int v_p1_many :: .int v_p1_sights :: o_this_full :: .ref a_first :: .ref a_second :: .ref a_worth :: .ref a_winner :: .ref a_row :: .ref a_sightWeight :: .ref a_sightMany :: []))) :: (a_p1, .inr (0, (.int v_p1_weight :: .int v_p1_hole :: .int v_p1_held :: .int v_p1_law :: .int v_p1_many :: .int v_p1_sights :: o_p1_full :: .ref a_p1_first :: .ref a_p1_second :: .ref a_p1_worth :: .ref a_p1_winner :: .ref a_p1_row :: .ref a_p1_sightWeight :: .ref a_p1_sightMany :: []))) :: (a_first, .inl (cI, 6, .inl u1)) :: (a_p1_first, .inl (cI, 6, .inl v_p1_first)) :: (a_second, .inl (cI, 6, .inl u3)) :: (a_p1_second, .inl (cI, 6, .inl v_p1_second)) :: (a_worth, .inl (cI, 6, .inl u5)) :: (a_p1_worth, .inl (cI, 6, .inl v_p1_worth)) :: (a_winner, .inl (cI, 6, .inl u7)) :: (a_p1_winner, .inl (cI, 6, .inl v_p1_winner)) :: (a_row, .inl (cI, 6, .inl v_row)) :: (a_p1_row, .inl (cI, 6, .inl v_p1_row)) :: (a_sightWeight, .inl (cI, 6, .inl v_sightWeight)) :: (a_p1_sightWeight, .inl (cI, 6, .inl v_p1_sightWeight)) :: (a_sightMany, .inl (cI, 6, .inl v_sightMany)) :: (a_p1_sightMany, .inl (cI, 6, .inl v_p1_sightMany)) :: [])) (va_runSN (As := [.ref a_p1_winner, .ref a_winner]) (rest := []) ⟨hx, hb, hml, hown, hts⟩ (tX3_copyRow l D cI cJ cZ cB a_winner a_p1_winner 6 6 v_winner v_p1_winner u7 hc8 H.size) ⟨va_cnB 2 hts gX0_copy_X3_copyRow_n62 rfl rfl rfl hK.2.1 (hts (.initialized RX3) (by decide +kernel)) (by decide +kernel) ⟨Nat.le_of_ble_eq_true rfl, Nat.le_of_ble_eq_true rfl⟩, hts (.static yX3_copyRow) (by decide +kernel), trivial⟩ (k_preS (is := [8, 9]) hK hP hD rfl rfl) rfl rfl hl.1 rfl (lv_room (Nat.le_of_ble_eq_true rfl)) dX0_copy_89 ⟨Nat.zero_le _, Nat.zero_le _⟩) hP hD hS hA [8, 9] (0 :: 1 :: 2 :: 3 :: 4 :: 5 :: 6 :: 7 :: 10 :: 11 :: 12 :: 13 :: 14 :: 15 :: []) (0 :: 1 :: 2 :: 3 :: 4 :: 5 :: 6 :: 7 :: 14 :: 15 :: 8 :: 9 :: 10 :: 11 :: 12 :: 13 :: []) rfl rfl rfl (by decide) rfl rfl (fun H locs hP hD hS => ?_)
  refine lv_aload_n hx hb dX0_copy_92 rfl (lv_at hl 1 rfl) ?_
  refine va_get (D := D) (ci := 0) (v := .ref a_p1_row) (C := RX0) (T := TX0) (N := 14) hx hb hts iX0 hown hK.1 hP 1 rfl rfl 11 (by decide) l47 (fun _ h9 => h9) rfl dX0_copy_93 ?_
  refine lv_aload_n hx hb dX0_copy_96 rfl (lv_at hl 0 rfl) ?_
  refine va_get (D := D) (ci := 0) (v := .ref a_row) (C := RX0) (T := TX0) (N := 14) hx hb hts iX0 hown hK.1 hP 0 rfl rfl 11 (by decide) l47 (fun _ h9 => h9) rfl dX0_copy_97 ?_
  obtain ⟨u9, hc10, hf⟩ := bnd1_some hf
  refine k_cv (wc := [(a_row, .inl (cI, 6, .inl v_row)), (a_p1_row, .inl (cI, 6, .inl v_p1_row))]) (wr := ((a_this, .inr (0, (.int v_p1_weight :: .int v_p1_hole :: .int v_p1_held :: .int v_p1_law :: .int v_p1_many :: .int v_p1_sights :: o_this_full :: .ref a_first :: .ref a_second :: .ref a_worth :: .ref a_winner :: .ref a_row :: .ref a_sightWeight :: .ref a_sightMany :: []))) :: (a_p1, .inr (0, (.int v_p1_weight :: .int v_p1_hole :: .int v_p1_held :: .int v_p1_law :: .int v_p1_many :: .int v_p1_sights :: o_p1_full :: .ref a_p1_first :: .ref a_p1_second :: .ref a_p1_worth :: .ref a_p1_winner :: .ref a_p1_row :: .ref a_p1_sightWeight :: .ref a_p1_sightMany :: []))) :: (a_first, .inl (cI, 6, .inl u1)) :: (a_p1_first, .inl (cI, 6, .inl v_p1_first)) :: (a_second, .inl (cI, 6, .inl u3)) :: (a_p1_second, .inl (cI, 6, .inl v_p1_second)) :: (a_worth, .inl (cI, 6, .inl u5)) :: (a_p1_worth, .inl (cI, 6, .inl v_p1_worth)) :: (a_winner, .inl (cI, 6, .inl u7)) :: (a_p1_winner, .inl (cI, 6, .inl v_p1_winner)) :: (a_sightWeight, .inl (cI, 6, .inl v_sightWeight)) :: (a_p1_sightWeight, .inl (cI, 6, .inl v_p1_sightWeight)) :: (a_sightMany, .inl (cI, 6, .inl v_sightMany)) :: (a_p1_sightMany, .inl (cI, 6, .inl v_p1_sightMany)) :: [])) (w1 := [(a_row, .inl (cI, 6, .inl u9)), (a_p1_row, .inl (cI, 6, .inl v_p1_row))]) (ws' := ((a_this, .inr (0, (.int v_p1_weight :: .int v_p1_hole :: .int v_p1_held :: .int v_p1_law :: .int v_p1_many :: .int v_p1_sights :: o_this_full :: .ref a_first :: .ref a_second :: .ref a_worth :: .ref a_winner :: .ref a_row :: .ref a_sightWeight :: .ref a_sightMany :: []))) :: (a_p1, .inr (0, (.int v_p1_weight :: .int v_p1_hole :: .int v_p1_held :: .int v_p1_law :: .int v_p1_many :: .int v_p1_sights :: o_p1_full :: .ref a_p1_first :: .ref a_p1_second :: .ref a_p1_worth :: .ref a_p1_winner :: .ref a_p1_row :: .ref a_p1_sightWeight :: .ref a_p1_sightMany :: []))) :: (a_first, .inl (cI, 6, .inl u1)) :: (a_p1_first, .inl (cI, 6, .inl v_p1_first)) :: (a_second, .inl (cI, 6, .inl u3)) :: (a_p1_second, .inl (cI, 6, .inl v_p1_second)) :: (a_worth, .inl (cI, 6, .inl u5)) :: (a_p1_worth, .inl (cI, 6, .inl v_p1_worth)) :: (a_winner, .inl (cI, 6, .inl u7)) :: (a_p1_winner, .inl (cI, 6, .inl v_p1_winner)) :: (a_row, .inl (cI, 6, .inl u9)) :: (a_p1_row, .inl (cI, 6, .inl v_p1_row)) :: (a_sightWeight, .inl (cI, 6, .inl v_sightWeight)) :: (a_p1_sightWeight, .inl (cI, 6, .inl v_p1_sightWeight)) :: (a_sightMany, .inl (cI, 6, .inl v_sightMany)) :: (a_p1_sightMany, .inl (cI, 6, .inl v_p1_sightMany)) :: [])) (va_runSN (As := [.ref a_p1_row, .ref a_row]) (rest := []) ⟨hx, hb, hml, hown, hts⟩ (tX3_copyRow l D cI cJ cZ cB a_row a_p1_row 6 6 v_row v_p1_row u9 hc10 H.size) ⟨va_cnB 2 hts gX0_copy_X3_copyRow_n62 rfl rfl rfl hK.2.1 (hts (.initialized RX3) (by decide +kernel)) (by decide +kernel) ⟨Nat.le_of_ble_eq_true rfl, Nat.le_of_ble_eq_true rfl⟩, hts (.static yX3_copyRow) (by decide +kernel), trivial⟩ (k_preS (is := [10, 11]) hK hP hD rfl rfl) rfl rfl hl.1 rfl (lv_room (Nat.le_of_ble_eq_true rfl)) dX0_copy_100 ⟨Nat.zero_le _, Nat.zero_le _⟩) hP hD hS hA [10, 11] (0 :: 1 :: 2 :: 3 :: 4 :: 5 :: 6 :: 7 :: 8 :: 9 :: 12 :: 13 :: 14 :: 15 :: []) (0 :: 1 :: 2 :: 3 :: 4 :: 5 :: 6 :: 7 :: 8 :: 9 :: 14 :: 15 :: 10 :: 11 :: 12 :: 13 :: []) rfl rfl rfl (by decide) rfl rfl (fun H locs hP hD hS => ?_)
  refine lv_aload_n hx hb dX0_copy_103 rfl (lv_at hl 1 rfl) ?_
  refine va_get (D := D) (ci := 0) (v := .ref a_p1_sightWeight) (C := RX0) (T := TX0) (N := 14) hx hb hts iX0 hown hK.1 hP 1 rfl rfl 12 (by decide) l50 (fun _ h9 => h9) rfl dX0_copy_104 ?_
  refine lv_aload_n hx hb dX0_copy_107 rfl (lv_at hl 0 rfl) ?_
  refine va_get (D := D) (ci := 0) (v := .ref a_sightWeight) (C := RX0) (T := TX0) (N := 14) hx hb hts iX0 hown hK.1 hP 0 rfl rfl 12 (by decide) l50 (fun _ h9 => h9) rfl dX0_copy_108 ?_
  obtain ⟨u11, hc12, hf⟩ := bnd1_some hf
  refine k_cv (wc := [(a_sightWeight, .inl (cI, 6, .inl v_sightWeight)), (a_p1_sightWeight, .inl (cI, 6, .inl v_p1_sightWeight))]) (wr := ((a_this, .inr (0, (.int v_p1_weight :: .int v_p1_hole :: .int v_p1_held :: .int v_p1_law :: .int v_p1_many :: .int v_p1_sights :: o_this_full :: .ref a_first :: .ref a_second :: .ref a_worth :: .ref a_winner :: .ref a_row :: .ref a_sightWeight :: .ref a_sightMany :: []))) :: (a_p1, .inr (0, (.int v_p1_weight :: .int v_p1_hole :: .int v_p1_held :: .int v_p1_law :: .int v_p1_many :: .int v_p1_sights :: o_p1_full :: .ref a_p1_first :: .ref a_p1_second :: .ref a_p1_worth :: .ref a_p1_winner :: .ref a_p1_row :: .ref a_p1_sightWeight :: .ref a_p1_sightMany :: []))) :: (a_first, .inl (cI, 6, .inl u1)) :: (a_p1_first, .inl (cI, 6, .inl v_p1_first)) :: (a_second, .inl (cI, 6, .inl u3)) :: (a_p1_second, .inl (cI, 6, .inl v_p1_second)) :: (a_worth, .inl (cI, 6, .inl u5)) :: (a_p1_worth, .inl (cI, 6, .inl v_p1_worth)) :: (a_winner, .inl (cI, 6, .inl u7)) :: (a_p1_winner, .inl (cI, 6, .inl v_p1_winner)) :: (a_row, .inl (cI, 6, .inl u9)) :: (a_p1_row, .inl (cI, 6, .inl v_p1_row)) :: (a_sightMany, .inl (cI, 6, .inl v_sightMany)) :: (a_p1_sightMany, .inl (cI, 6, .inl v_p1_sightMany)) :: [])) (w1 := [(a_sightWeight, .inl (cI, 6, .inl u11)), (a_p1_sightWeight, .inl (cI, 6, .inl v_p1_sightWeight))]) (ws' := ((a_this, .inr (0, (.int v_p1_weight :: .int v_p1_hole :: .int v_p1_held :: .int v_p1_law :: .int v_p1_many :: .int v_p1_sights :: o_this_full :: .ref a_first :: .ref a_second :: .ref a_worth :: .ref a_winner :: .ref a_row :: .ref a_sightWeight :: .ref a_sightMany :: []))) :: (a_p1, .inr (0, (.int v_p1_weight :: .int v_p1_hole :: .int v_p1_held :: .int v_p1_law :: .int v_p1_many :: .int v_p1_sights :: o_p1_full :: .ref a_p1_first :: .ref a_p1_second :: .ref a_p1_worth :: .ref a_p1_winner :: .ref a_p1_row :: .ref a_p1_sightWeight :: .ref a_p1_sightMany :: []))) :: (a_first, .inl (cI, 6, .inl u1)) :: (a_p1_first, .inl (cI, 6, .inl v_p1_first)) :: (a_second, .inl (cI, 6, .inl u3)) :: (a_p1_second, .inl (cI, 6, .inl v_p1_second)) :: (a_worth, .inl (cI, 6, .inl u5)) :: (a_p1_worth, .inl (cI, 6, .inl v_p1_worth)) :: (a_winner, .inl (cI, 6, .inl u7)) :: (a_p1_winner, .inl (cI, 6, .inl v_p1_winner)) :: (a_row, .inl (cI, 6, .inl u9)) :: (a_p1_row, .inl (cI, 6, .inl v_p1_row)) :: (a_sightWeight, .inl (cI, 6, .inl u11)) :: (a_p1_sightWeight, .inl (cI, 6, .inl v_p1_sightWeight)) :: (a_sightMany, .inl (cI, 6, .inl v_sightMany)) :: (a_p1_sightMany, .inl (cI, 6, .inl v_p1_sightMany)) :: [])) (va_runSN (As := [.ref a_p1_sightWeight, .ref a_sightWeight]) (rest := []) ⟨hx, hb, hml, hown, hts⟩ (tX3_copyRow l D cI cJ cZ cB a_sightWeight a_p1_sightWeight 6 6 v_sightWeight v_p1_sightWeight u11 hc12 H.size) ⟨va_cnB 2 hts gX0_copy_X3_copyRow_n62 rfl rfl rfl hK.2.1 (hts (.initialized RX3) (by decide +kernel)) (by decide +kernel) ⟨Nat.le_of_ble_eq_true rfl, Nat.le_of_ble_eq_true rfl⟩, hts (.static yX3_copyRow) (by decide +kernel), trivial⟩ (k_preS (is := [12, 13]) hK hP hD rfl rfl) rfl rfl hl.1 rfl (lv_room (Nat.le_of_ble_eq_true rfl)) dX0_copy_111 ⟨Nat.zero_le _, Nat.zero_le _⟩) hP hD hS hA [12, 13] (0 :: 1 :: 2 :: 3 :: 4 :: 5 :: 6 :: 7 :: 8 :: 9 :: 10 :: 11 :: 14 :: 15 :: []) (0 :: 1 :: 2 :: 3 :: 4 :: 5 :: 6 :: 7 :: 8 :: 9 :: 10 :: 11 :: 14 :: 15 :: 12 :: 13 :: []) rfl rfl rfl (by decide) rfl rfl (fun H locs hP hD hS => ?_)
  refine lv_aload_n hx hb dX0_copy_114 rfl (lv_at hl 1 rfl) ?_
  refine va_get (D := D) (ci := 0) (v := .ref a_p1_sightMany) (C := RX0) (T := TX0) (N := 14) hx hb hts iX0 hown hK.1 hP 1 rfl rfl 13 (by decide) l53 (fun _ h9 => h9) rfl dX0_copy_115 ?_
  refine lv_aload_n hx hb dX0_copy_118 rfl (lv_at hl 0 rfl) ?_
  refine va_get (D := D) (ci := 0) (v := .ref a_sightMany) (C := RX0) (T := TX0) (N := 14) hx hb hts iX0 hown hK.1 hP 0 rfl rfl 13 (by decide) l53 (fun _ h9 => h9) rfl dX0_copy_119 ?_
  obtain ⟨u13, hc14, hf⟩ := bnd1_some hf
  refine k_cv (wc := [(a_sightMany, .inl (cI, 6, .inl v_sightMany)), (a_p1_sightMany, .inl (cI, 6, .inl v_p1_sightMany))]) (wr := ((a_this, .inr (0, (.int v_p1_weight :: .int v_p1_hole :: .int v_p1_held :: .int v_p1_law :: .int v_p1_many :: .int v_p1_sights :: o_this_full :: .ref a_first :: .ref a_second :: .ref a_worth :: .ref a_winner :: .ref a_row :: .ref a_sightWeight :: .ref a_sightMany :: []))) :: (a_p1, .inr (0, (.int v_p1_weight :: .int v_p1_hole :: .int v_p1_held :: .int v_p1_law :: .int v_p1_many :: .int v_p1_sights :: o_p1_full :: .ref a_p1_first :: .ref a_p1_second :: .ref a_p1_worth :: .ref a_p1_winner :: .ref a_p1_row :: .ref a_p1_sightWeight :: .ref a_p1_sightMany :: []))) :: (a_first, .inl (cI, 6, .inl u1)) :: (a_p1_first, .inl (cI, 6, .inl v_p1_first)) :: (a_second, .inl (cI, 6, .inl u3)) :: (a_p1_second, .inl (cI, 6, .inl v_p1_second)) :: (a_worth, .inl (cI, 6, .inl u5)) :: (a_p1_worth, .inl (cI, 6, .inl v_p1_worth)) :: (a_winner, .inl (cI, 6, .inl u7)) :: (a_p1_winner, .inl (cI, 6, .inl v_p1_winner)) :: (a_row, .inl (cI, 6, .inl u9)) :: (a_p1_row, .inl (cI, 6, .inl v_p1_row)) :: (a_sightWeight, .inl (cI, 6, .inl u11)) :: (a_p1_sightWeight, .inl (cI, 6, .inl v_p1_sightWeight)) :: [])) (w1 := [(a_sightMany, .inl (cI, 6, .inl u13)), (a_p1_sightMany, .inl (cI, 6, .inl v_p1_sightMany))]) (ws' := ((a_this, .inr (0, (.int v_p1_weight :: .int v_p1_hole :: .int v_p1_held :: .int v_p1_law :: .int v_p1_many :: .int v_p1_sights :: o_this_full :: .ref a_first :: .ref a_second :: .ref a_worth :: .ref a_winner :: .ref a_row :: .ref a_sightWeight :: .ref a_sightMany :: []))) :: (a_p1, .inr (0, (.int v_p1_weight :: .int v_p1_hole :: .int v_p1_held :: .int v_p1_law :: .int v_p1_many :: .int v_p1_sights :: o_p1_full :: .ref a_p1_first :: .ref a_p1_second :: .ref a_p1_worth :: .ref a_p1_winner :: .ref a_p1_row :: .ref a_p1_sightWeight :: .ref a_p1_sightMany :: []))) :: (a_first, .inl (cI, 6, .inl u1)) :: (a_p1_first, .inl (cI, 6, .inl v_p1_first)) :: (a_second, .inl (cI, 6, .inl u3)) :: (a_p1_second, .inl (cI, 6, .inl v_p1_second)) :: (a_worth, .inl (cI, 6, .inl u5)) :: (a_p1_worth, .inl (cI, 6, .inl v_p1_worth)) :: (a_winner, .inl (cI, 6, .inl u7)) :: (a_p1_winner, .inl (cI, 6, .inl v_p1_winner)) :: (a_row, .inl (cI, 6, .inl u9)) :: (a_p1_row, .inl (cI, 6, .inl v_p1_row)) :: (a_sightWeight, .inl (cI, 6, .inl u11)) :: (a_p1_sightWeight, .inl (cI, 6, .inl v_p1_sightWeight)) :: (a_sightMany, .inl (cI, 6, .inl u13)) :: (a_p1_sightMany, .inl (cI, 6, .inl v_p1_sightMany)) :: [])) (va_runSN (As := [.ref a_p1_sightMany, .ref a_sightMany]) (rest := []) ⟨hx, hb, hml, hown, hts⟩ (tX3_copyRow l D cI cJ cZ cB a_sightMany a_p1_sightMany 6 6 v_sightMany v_p1_sightMany u13 hc14 H.size) ⟨va_cnB 2 hts gX0_copy_X3_copyRow_n62 rfl rfl rfl hK.2.1 (hts (.initialized RX3) (by decide +kernel)) (by decide +kernel) ⟨Nat.le_of_ble_eq_true rfl, Nat.le_of_ble_eq_true rfl⟩, hts (.static yX3_copyRow) (by decide +kernel), trivial⟩ (k_preS (is := [14, 15]) hK hP hD rfl rfl) rfl rfl hl.1 rfl (lv_room (Nat.le_of_ble_eq_true rfl)) dX0_copy_122 ⟨Nat.zero_le _, Nat.zero_le _⟩) hP hD hS hA [14, 15] (0 :: 1 :: 2 :: 3 :: 4 :: 5 :: 6 :: 7 :: 8 :: 9 :: 10 :: 11 :: 12 :: 13 :: []) (0 :: 1 :: 2 :: 3 :: 4 :: 5 :: 6 :: 7 :: 8 :: 9 :: 10 :: 11 :: 12 :: 13 :: 14 :: 15 :: []) rfl rfl rfl (by decide) rfl rfl (fun H locs hP hD hS => ?_)
  cases hf
  subst hQ
  exact k_rv hx hb hr hlocks hP hD hS dX0_copy_125

set_option maxHeartbeats 4000000 in
set_option maxRecDepth 100000 in
theorem tX3_burns (l : Launch) (D : va_G) (cI cJ cZ cB : ClassId) (x0 : Int32) (x1 : Int32) (r0 : Int32) (hf : fX3_burns x0 x1 = some r0) : MW l yX3_burns wsX3_burns { frames := 0, cells := 0, slots := 0, locals := 0 } D cI cJ cZ cB [] [.int x0, .int x1] (QWi D r0 []) := by
  refine k_body (cc := cX3_burns) (maxL := 2) (ret := (some .int)) (by decide) rfl (Nat.le_of_ble_eq_true rfl) ?_
  intro p e s m args below meth c hx hb hr hml hts hown hlocks hname hK A hA hP hD hS ls hl
  have hl : lv_has ls 2 [(0, .int x0), (1, .int x1)] := hl
  generalize hQ : MQ below ((QWi D r0 []) A) args s 0 0 A = Q
  obtain ⟨H, hH⟩ : ∃ H, H = s.heap := ⟨_, rfl⟩
  obtain ⟨locs, hlo⟩ : ∃ z : List Loc, z = [] := ⟨_, rfl⟩
  have hP : va_P D vwCl [] H := by rw [hH]; exact hP
  have hS : va_S A s.heap H locs := by rw [hH, hlo]; exact hS
  suffices hg : W p l e (headSpec wsX3_burns { frames := 0, cells := 0, slots := 0, locals := 0 }).room s m args below meth c H locs 0 0 Q (F0 m 0 ls []) by rw [hH, hlo] at hg; exact hg
  unfold fX3_burns at hf
  refine lv_iload_n hx hb dX3_burns_0 rfl (lv_at hl 1 rfl) ?_
  refine lv_if_le (tgt := 13) hx hb dX3_burns_1 (by decide) (fun c1 => ?_) (fun c1 => ?_)
  · have hf := (if_pos c1).symm.trans hf
    refine lv_iconst (v := 0) hx hb dX3_burns_13 (by decide) ?_
    cases hf
    subst hQ
    exact k_ri hx hb hr hlocks hP hD hS dX3_burns_14
  · have hf := (if_neg c1).symm.trans hf
    refine lv_bipush (v := 60) hx hb dX3_burns_4 (by decide) ?_
    refine lv_iload_n hx hb dX3_burns_6 rfl (lv_at hl 0 rfl) ?_
    refine lv_imul hx hb dX3_burns_7 ?_
    refine lv_iload_n hx hb dX3_burns_8 rfl (lv_at hl 1 rfl) ?_
    obtain ⟨h2, hf⟩ := gd_some hf
    refine lv_idiv hx hb dX3_burns_9 h2 ?_
    refine lv_goto (tgt := 14) hx hb dX3_burns_10 (by decide) ?_
    cases hf
    subst hQ
    exact k_ri hx hb hr hlocks hP hD hS dX3_burns_14

set_option maxHeartbeats 4000000 in
set_option maxRecDepth 100000 in
theorem tX0_floatsBy (l : Launch) (D : va_G) (cI cJ cZ cB : ClassId) (a_this : Nat) (o_this_weight : Value) (o_this_hole : Value) (o_this_law : Value) (o_this_many : Value) (o_this_sights : Value) (o_this_full : Value) (o_this_first : Value) (o_this_second : Value) (o_this_worth : Value) (o_this_winner : Value) (o_this_row : Value) (o_this_sightWeight : Value) (o_this_sightMany : Value) (x1 : Int32) (x2 : Int32) (v_held : Int32) (r0 : Int32) (hf : fX0_floatsBy x1 x2 v_held = some r0) : MW l yX0_floatsBy wsX0_floatsBy { frames := 1, cells := 0, slots := 0, locals := 21 } D cI cJ cZ cB [(a_this, .inr (0, (o_this_weight :: o_this_hole :: .int v_held :: o_this_law :: o_this_many :: o_this_sights :: o_this_full :: o_this_first :: o_this_second :: o_this_worth :: o_this_winner :: o_this_row :: o_this_sightWeight :: o_this_sightMany :: [])))] [.ref a_this, .int x1, .int x2] (QWi D r0 [(a_this, .inr (0, (o_this_weight :: o_this_hole :: .int v_held :: o_this_law :: o_this_many :: o_this_sights :: o_this_full :: o_this_first :: o_this_second :: o_this_worth :: o_this_winner :: o_this_row :: o_this_sightWeight :: o_this_sightMany :: [])))]) := by
  refine k_body (cc := cX0_floatsBy) (maxL := 3) (ret := (some .int)) (by decide) rfl (Nat.le_of_ble_eq_true rfl) ?_
  intro p e s m args below meth c hx hb hr hml hts hown hlocks hname hK A hA hP hD hS ls hl
  have hl : lv_has ls 3 [(0, .ref a_this), (1, .int x1), (2, .int x2)] := hl
  generalize hQ : MQ below ((QWi D r0 [(a_this, .inr (0, (o_this_weight :: o_this_hole :: .int v_held :: o_this_law :: o_this_many :: o_this_sights :: o_this_full :: o_this_first :: o_this_second :: o_this_worth :: o_this_winner :: o_this_row :: o_this_sightWeight :: o_this_sightMany :: [])))]) A) args s 0 0 A = Q
  obtain ⟨H, hH⟩ : ∃ H, H = s.heap := ⟨_, rfl⟩
  obtain ⟨locs, hlo⟩ : ∃ z : List Loc, z = [] := ⟨_, rfl⟩
  have hP : va_P D vwCl [(a_this, .inr (0, (o_this_weight :: o_this_hole :: .int v_held :: o_this_law :: o_this_many :: o_this_sights :: o_this_full :: o_this_first :: o_this_second :: o_this_worth :: o_this_winner :: o_this_row :: o_this_sightWeight :: o_this_sightMany :: [])))] H := by rw [hH]; exact hP
  have hS : va_S A s.heap H locs := by rw [hH, hlo]; exact hS
  suffices hg : W p l e (headSpec wsX0_floatsBy { frames := 1, cells := 0, slots := 0, locals := 21 }).room s m args below meth c H locs 0 0 Q (F0 m 0 ls []) by rw [hH, hlo] at hg; exact hg
  have l18 := hts (.fieldLink RX0 18 "CandleCourt$Bench" "held" "I") (by decide +kernel)
  have iX0 : ∀ w ∈ wsX00, w ∈ wsX0_floatsBy := by decide +kernel
  unfold fX0_floatsBy at hf
  refine lv_iload_n hx hb dX0_floatsBy_0 rfl (lv_at hl 1 rfl) ?_
  refine lv_iload_n hx hb dX0_floatsBy_1 rfl (lv_at hl 2 rfl) ?_
  obtain ⟨r1, hc2, hf⟩ := bnd1_some hf
  refine k_ci (wc := []) (wr := [(a_this, .inr (0, (o_this_weight :: o_this_hole :: .int v_held :: o_this_law :: o_this_many :: o_this_sights :: o_this_full :: o_this_first :: o_this_second :: o_this_worth :: o_this_winner :: o_this_row :: o_this_sightWeight :: o_this_sightMany :: [])))]) (w1 := []) (ws' := [(a_this, .inr (0, (o_this_weight :: o_this_hole :: .int v_held :: o_this_law :: o_this_many :: o_this_sights :: o_this_full :: o_this_first :: o_this_second :: o_this_worth :: o_this_winner :: o_this_row :: o_this_sightWeight :: o_this_sightMany :: [])))]) (va_runSN (As := [.int x1, .int x2]) (rest := []) ⟨hx, hb, hml, hown, hts⟩ (tX3_burns l D cI cJ cZ cB x1 x2 r1 hc2 H.size) ⟨va_cnB 2 hts gX0_floatsBy_X3_burns_n77 rfl rfl rfl hK.2.2.2.1 (hts (.initialized RX3) (by decide +kernel)) (by decide +kernel) ⟨Nat.le_of_ble_eq_true rfl, Nat.le_of_ble_eq_true rfl⟩, hts (.static yX3_burns) (by decide +kernel), trivial⟩ (k_preS (is := []) hK hP hD rfl rfl) rfl rfl hl.1 rfl (lv_room (Nat.le_of_ble_eq_true rfl)) dX0_floatsBy_2 ⟨Nat.zero_le _, Nat.zero_le _⟩) hP hD hS hA [] [0] [0] rfl rfl rfl (by decide) rfl rfl (fun H locs hP hD hS => ?_)
  refine lv_aload_n hx hb dX0_floatsBy_5 rfl (lv_at hl 0 rfl) ?_
  refine va_get (D := D) (ci := 0) (v := .int v_held) (C := RX0) (T := TX0) (N := 14) hx hb hts iX0 hown hK.1 hP 0 rfl rfl 2 (by decide) l18 (fun _ h9 => h9) rfl dX0_floatsBy_6 ?_
  refine lv_iadd hx hb dX0_floatsBy_9 ?_
  cases hf
  subst hQ
  exact k_ri hx hb hr hlocks hP hD hS dX0_floatsBy_10

set_option maxHeartbeats 4000000 in
set_option maxRecDepth 100000 in
theorem tX0_floats (l : Launch) (D : va_G) (cI cJ cZ cB : ClassId) (a_this : Nat) (o_this_law : Value) (o_this_many : Value) (o_this_sights : Value) (o_this_full : Value) (o_this_first : Value) (o_this_second : Value) (o_this_worth : Value) (o_this_winner : Value) (o_this_row : Value) (o_this_sightWeight : Value) (o_this_sightMany : Value) (v_weight : Int32) (v_hole : Int32) (v_held : Int32) (r0 : Int32) (hf : fX0_floats v_weight v_hole v_held = some r0) : MW l yX0_floats wsX0_floats { frames := 2, cells := 0, slots := 0, locals := 43 } D cI cJ cZ cB [(a_this, .inr (0, (.int v_weight :: .int v_hole :: .int v_held :: o_this_law :: o_this_many :: o_this_sights :: o_this_full :: o_this_first :: o_this_second :: o_this_worth :: o_this_winner :: o_this_row :: o_this_sightWeight :: o_this_sightMany :: [])))] [.ref a_this] (QWi D r0 [(a_this, .inr (0, (.int v_weight :: .int v_hole :: .int v_held :: o_this_law :: o_this_many :: o_this_sights :: o_this_full :: o_this_first :: o_this_second :: o_this_worth :: o_this_winner :: o_this_row :: o_this_sightWeight :: o_this_sightMany :: [])))]) := by
  refine k_body (cc := cX0_floats) (maxL := 1) (ret := (some .int)) (by decide) rfl (Nat.le_of_ble_eq_true rfl) ?_
  intro p e s m args below meth c hx hb hr hml hts hown hlocks hname hK A hA hP hD hS ls hl
  have hl : lv_has ls 1 [(0, .ref a_this)] := hl
  generalize hQ : MQ below ((QWi D r0 [(a_this, .inr (0, (.int v_weight :: .int v_hole :: .int v_held :: o_this_law :: o_this_many :: o_this_sights :: o_this_full :: o_this_first :: o_this_second :: o_this_worth :: o_this_winner :: o_this_row :: o_this_sightWeight :: o_this_sightMany :: [])))]) A) args s 0 0 A = Q
  obtain ⟨H, hH⟩ : ∃ H, H = s.heap := ⟨_, rfl⟩
  obtain ⟨locs, hlo⟩ : ∃ z : List Loc, z = [] := ⟨_, rfl⟩
  have hP : va_P D vwCl [(a_this, .inr (0, (.int v_weight :: .int v_hole :: .int v_held :: o_this_law :: o_this_many :: o_this_sights :: o_this_full :: o_this_first :: o_this_second :: o_this_worth :: o_this_winner :: o_this_row :: o_this_sightWeight :: o_this_sightMany :: [])))] H := by rw [hH]; exact hP
  have hS : va_S A s.heap H locs := by rw [hH, hlo]; exact hS
  suffices hg : W p l e (headSpec wsX0_floats { frames := 2, cells := 0, slots := 0, locals := 43 }).room s m args below meth c H locs 0 0 Q (F0 m 0 ls []) by rw [hH, hlo] at hg; exact hg
  have l9 := hts (.fieldLink RX0 9 "CandleCourt$Bench" "weight" "I") (by decide +kernel)
  have l15 := hts (.fieldLink RX0 15 "CandleCourt$Bench" "hole" "I") (by decide +kernel)
  have iX0 : ∀ w ∈ wsX00, w ∈ wsX0_floats := by decide +kernel
  unfold fX0_floats at hf
  refine lv_aload_n hx hb dX0_floats_0 rfl (lv_at hl 0 rfl) ?_
  refine lv_aload_n hx hb dX0_floats_1 rfl (lv_at hl 0 rfl) ?_
  refine va_get (D := D) (ci := 0) (v := .int v_weight) (C := RX0) (T := TX0) (N := 14) hx hb hts iX0 hown hK.1 hP 0 rfl rfl 0 (by decide) l9 (fun _ h9 => h9) rfl dX0_floats_2 ?_
  refine lv_aload_n hx hb dX0_floats_5 rfl (lv_at hl 0 rfl) ?_
  refine va_get (D := D) (ci := 0) (v := .int v_hole) (C := RX0) (T := TX0) (N := 14) hx hb hts iX0 hown hK.1 hP 0 rfl rfl 1 (by decide) l15 (fun _ h9 => h9) rfl dX0_floats_6 ?_
  obtain ⟨r1, hc2, hf⟩ := bnd1_some hf
  refine k_ci (wc := [(a_this, .inr (0, (.int v_weight :: .int v_hole :: .int v_held :: o_this_law :: o_this_many :: o_this_sights :: o_this_full :: o_this_first :: o_this_second :: o_this_worth :: o_this_winner :: o_this_row :: o_this_sightWeight :: o_this_sightMany :: [])))]) (wr := []) (w1 := [(a_this, .inr (0, (.int v_weight :: .int v_hole :: .int v_held :: o_this_law :: o_this_many :: o_this_sights :: o_this_full :: o_this_first :: o_this_second :: o_this_worth :: o_this_winner :: o_this_row :: o_this_sightWeight :: o_this_sightMany :: [])))]) (ws' := [(a_this, .inr (0, (.int v_weight :: .int v_hole :: .int v_held :: o_this_law :: o_this_many :: o_this_sights :: o_this_full :: o_this_first :: o_this_second :: o_this_worth :: o_this_winner :: o_this_row :: o_this_sightWeight :: o_this_sightMany :: [])))]) (va_runV (As := [.int v_weight, .int v_hole]) (rest := []) ⟨hx, hb, hml, hown, hts⟩ (tX0_floatsBy l D cI cJ cZ cB a_this (.int v_weight) (.int v_hole) o_this_law o_this_many o_this_sights o_this_full o_this_first o_this_second o_this_worth o_this_winner o_this_row o_this_sightWeight o_this_sightMany v_weight v_hole v_held r1 hc2 H.size) (cwV 2 hts gX0_floats_X0_floatsBy rfl rfl rfl (by decide +kernel) ⟨Nat.le_of_ble_eq_true rfl, Nat.le_of_ble_eq_true rfl⟩) (k_preV (ci := 0) (q0 := 0) (is := [0]) hK hP hD rfl rfl rfl rfl) rfl rfl hl.1 rfl (lv_room (Nat.le_of_ble_eq_true rfl)) dX0_floats_9 ⟨Nat.zero_le _, Nat.zero_le _⟩) hP hD hS hA [0] [] [0] rfl rfl rfl (by decide) rfl rfl (fun H locs hP hD hS => ?_)
  cases hf
  subst hQ
  exact k_ri hx hb hr hlocks hP hD hS dX0_floats_12

set_option maxHeartbeats 4000000 in
set_option maxRecDepth 100000 in
theorem tX0_lasts (l : Launch) (D : va_G) (cI cJ cZ cB : ClassId) (a_this : Nat) (a_first : Nat) (a_second : Nat) (o_this_weight : Value) (o_this_hole : Value) (o_this_held : Value) (o_this_law : Value) (o_this_many : Value) (o_this_sights : Value) (o_this_full : Value) (o_this_worth : Value) (o_this_winner : Value) (o_this_row : Value) (o_this_sightWeight : Value) (o_this_sightMany : Value) (x1 : Int32) (v_first : Nat → Int32) (v_second : Nat → Int32) (r0 : Int32) (hf : fX0_lasts x1 v_first v_second = some r0) : MW l yX0_lasts wsX0_lasts { frames := 1, cells := 0, slots := 0, locals := 21 } D cI cJ cZ cB [(a_this, .inr (0, (o_this_weight :: o_this_hole :: o_this_held :: o_this_law :: o_this_many :: o_this_sights :: o_this_full :: .ref a_first :: .ref a_second :: o_this_worth :: o_this_winner :: o_this_row :: o_this_sightWeight :: o_this_sightMany :: []))), (a_first, .inl (cI, 6, .inl v_first)), (a_second, .inl (cI, 6, .inl v_second))] [.ref a_this, .int x1] (QWi D r0 [(a_this, .inr (0, (o_this_weight :: o_this_hole :: o_this_held :: o_this_law :: o_this_many :: o_this_sights :: o_this_full :: .ref a_first :: .ref a_second :: o_this_worth :: o_this_winner :: o_this_row :: o_this_sightWeight :: o_this_sightMany :: []))), (a_first, .inl (cI, 6, .inl v_first)), (a_second, .inl (cI, 6, .inl v_second))]) := by
  refine k_body (cc := cX0_lasts) (maxL := 2) (ret := (some .int)) (by decide) rfl (Nat.le_of_ble_eq_true rfl) ?_
  intro p e s m args below meth c hx hb hr hml hts hown hlocks hname hK A hA hP hD hS ls hl
  have hl : lv_has ls 2 [(0, .ref a_this), (1, .int x1)] := hl
  generalize hQ : MQ below ((QWi D r0 [(a_this, .inr (0, (o_this_weight :: o_this_hole :: o_this_held :: o_this_law :: o_this_many :: o_this_sights :: o_this_full :: .ref a_first :: .ref a_second :: o_this_worth :: o_this_winner :: o_this_row :: o_this_sightWeight :: o_this_sightMany :: []))), (a_first, .inl (cI, 6, .inl v_first)), (a_second, .inl (cI, 6, .inl v_second))]) A) args s 0 0 A = Q
  obtain ⟨H, hH⟩ : ∃ H, H = s.heap := ⟨_, rfl⟩
  obtain ⟨locs, hlo⟩ : ∃ z : List Loc, z = [] := ⟨_, rfl⟩
  have hP : va_P D vwCl [(a_this, .inr (0, (o_this_weight :: o_this_hole :: o_this_held :: o_this_law :: o_this_many :: o_this_sights :: o_this_full :: .ref a_first :: .ref a_second :: o_this_worth :: o_this_winner :: o_this_row :: o_this_sightWeight :: o_this_sightMany :: []))), (a_first, .inl (cI, 6, .inl v_first)), (a_second, .inl (cI, 6, .inl v_second))] H := by rw [hH]; exact hP
  have hS : va_S A s.heap H locs := by rw [hH, hlo]; exact hS
  suffices hg : W p l e (headSpec wsX0_lasts { frames := 1, cells := 0, slots := 0, locals := 21 }).room s m args below meth c H locs 0 0 Q (F0 m 0 ls []) by rw [hH, hlo] at hg; exact hg
  have l34 := hts (.fieldLink RX0 34 "CandleCourt$Bench" "first" "[I") (by decide +kernel)
  have l38 := hts (.fieldLink RX0 38 "CandleCourt$Bench" "second" "[I") (by decide +kernel)
  have iX0 : ∀ w ∈ wsX00, w ∈ wsX0_lasts := by decide +kernel
  unfold fX0_lasts at hf
  refine lv_aload_n hx hb dX0_lasts_0 rfl (lv_at hl 0 rfl) ?_
  refine va_get (D := D) (ci := 0) (v := .ref a_first) (C := RX0) (T := TX0) (N := 14) hx hb hts iX0 hown hK.1 hP 0 rfl rfl 7 (by decide) l34 (fun _ h9 => h9) rfl dX0_lasts_1 ?_
  refine lv_iload_n hx hb dX0_lasts_4 rfl (lv_at hl 1 rfl) ?_
  obtain ⟨r1, hc2, hf⟩ := bnd1_some hf
  refine k_ci (wc := [(a_first, .inl (cI, 6, .inl v_first))]) (wr := [(a_this, .inr (0, (o_this_weight :: o_this_hole :: o_this_held :: o_this_law :: o_this_many :: o_this_sights :: o_this_full :: .ref a_first :: .ref a_second :: o_this_worth :: o_this_winner :: o_this_row :: o_this_sightWeight :: o_this_sightMany :: []))), (a_second, .inl (cI, 6, .inl v_second))]) (w1 := [(a_first, .inl (cI, 6, .inl v_first))]) (ws' := [(a_this, .inr (0, (o_this_weight :: o_this_hole :: o_this_held :: o_this_law :: o_this_many :: o_this_sights :: o_this_full :: .ref a_first :: .ref a_second :: o_this_worth :: o_this_winner :: o_this_row :: o_this_sightWeight :: o_this_sightMany :: []))), (a_first, .inl (cI, 6, .inl v_first)), (a_second, .inl (cI, 6, .inl v_second))]) (va_runSN (As := [.ref a_first, .int x1]) (rest := []) ⟨hx, hb, hml, hown, hts⟩ (tX3_at l D cI cJ cZ cB a_first 6 x1 v_first r1 hc2 H.size) ⟨va_cnB 2 hts gX0_lasts_X3_at_n80 rfl rfl rfl hK.2.2.2.2.1 (hts (.initialized RX3) (by decide +kernel)) (by decide +kernel) ⟨Nat.le_of_ble_eq_true rfl, Nat.le_of_ble_eq_true rfl⟩, hts (.static yX3_at) (by decide +kernel), trivial⟩ (k_preS (is := [1]) hK hP hD rfl rfl) rfl rfl hl.1 rfl (lv_room (Nat.le_of_ble_eq_true rfl)) dX0_lasts_5 ⟨Nat.zero_le _, Nat.zero_le _⟩) hP hD hS hA [1] [0, 2] [0, 2, 1] rfl rfl rfl (by decide) rfl rfl (fun H locs hP hD hS => ?_)
  refine lv_aload_n hx hb dX0_lasts_8 rfl (lv_at hl 0 rfl) ?_
  refine va_get (D := D) (ci := 0) (v := .ref a_second) (C := RX0) (T := TX0) (N := 14) hx hb hts iX0 hown hK.1 hP 0 rfl rfl 8 (by decide) l38 (fun _ h9 => h9) rfl dX0_lasts_9 ?_
  refine lv_iload_n hx hb dX0_lasts_12 rfl (lv_at hl 1 rfl) ?_
  obtain ⟨r3, hc4, hf⟩ := bnd1_some hf
  refine k_ci (wc := [(a_second, .inl (cI, 6, .inl v_second))]) (wr := [(a_this, .inr (0, (o_this_weight :: o_this_hole :: o_this_held :: o_this_law :: o_this_many :: o_this_sights :: o_this_full :: .ref a_first :: .ref a_second :: o_this_worth :: o_this_winner :: o_this_row :: o_this_sightWeight :: o_this_sightMany :: []))), (a_first, .inl (cI, 6, .inl v_first))]) (w1 := [(a_second, .inl (cI, 6, .inl v_second))]) (ws' := [(a_this, .inr (0, (o_this_weight :: o_this_hole :: o_this_held :: o_this_law :: o_this_many :: o_this_sights :: o_this_full :: .ref a_first :: .ref a_second :: o_this_worth :: o_this_winner :: o_this_row :: o_this_sightWeight :: o_this_sightMany :: []))), (a_first, .inl (cI, 6, .inl v_first)), (a_second, .inl (cI, 6, .inl v_second))]) (va_runSN (As := [.ref a_second, .int x1]) (rest := [.int r1]) ⟨hx, hb, hml, hown, hts⟩ (tX3_at l D cI cJ cZ cB a_second 6 x1 v_second r3 hc4 H.size) ⟨va_cnB 2 hts gX0_lasts_X3_at_n80 rfl rfl rfl hK.2.2.2.2.1 (hts (.initialized RX3) (by decide +kernel)) (by decide +kernel) ⟨Nat.le_of_ble_eq_true rfl, Nat.le_of_ble_eq_true rfl⟩, hts (.static yX3_at) (by decide +kernel), trivial⟩ (k_preS (is := [2]) hK hP hD rfl rfl) rfl rfl hl.1 rfl (lv_room (Nat.le_of_ble_eq_true rfl)) dX0_lasts_13 ⟨Nat.zero_le _, Nat.zero_le _⟩) hP hD hS hA [2] [0, 1] [0, 1, 2] rfl rfl rfl (by decide) rfl rfl (fun H locs hP hD hS => ?_)
  refine lv_iadd hx hb dX0_lasts_16 ?_
  cases hf
  subst hQ
  exact k_ri hx hb hr hlocks hP hD hS dX0_lasts_17

set_option maxHeartbeats 4000000 in
set_option maxRecDepth 100000 in
theorem tX0_place (l : Launch) (D : va_G) (cI cJ cZ cB : ClassId) (a_this : Nat) (a_row : Nat) (o_this_weight : Value) (o_this_hole : Value) (o_this_held : Value) (o_this_law : Value) (o_this_sights : Value) (o_this_full : Value) (o_this_first : Value) (o_this_second : Value) (o_this_worth : Value) (o_this_winner : Value) (o_this_sightWeight : Value) (o_this_sightMany : Value) (x1 : Int32) (v_many : Int32) (v_row : Nat → Int32) (r0 : Int32) (hf : fX0_place x1 v_many v_row = some r0) : MW l yX0_place wsX0_place { frames := 1, cells := 0, slots := 0, locals := 21 } D cI cJ cZ cB [(a_this, .inr (0, (o_this_weight :: o_this_hole :: o_this_held :: o_this_law :: .int v_many :: o_this_sights :: o_this_full :: o_this_first :: o_this_second :: o_this_worth :: o_this_winner :: .ref a_row :: o_this_sightWeight :: o_this_sightMany :: []))), (a_row, .inl (cI, 6, .inl v_row))] [.ref a_this, .int x1] (QWi D r0 [(a_this, .inr (0, (o_this_weight :: o_this_hole :: o_this_held :: o_this_law :: .int v_many :: o_this_sights :: o_this_full :: o_this_first :: o_this_second :: o_this_worth :: o_this_winner :: .ref a_row :: o_this_sightWeight :: o_this_sightMany :: []))), (a_row, .inl (cI, 6, .inl v_row))]) := by
  refine k_body (cc := cX0_place) (maxL := 3) (ret := (some .int)) (by decide) rfl (Nat.le_of_ble_eq_true rfl) ?_
  intro p e s m args below meth c hx hb hr hml hts hown hlocks hname hK A hA hP hD hS ls hl
  have hl : lv_has ls 3 [(0, .ref a_this), (1, .int x1)] := hl
  generalize hQ : MQ below ((QWi D r0 [(a_this, .inr (0, (o_this_weight :: o_this_hole :: o_this_held :: o_this_law :: .int v_many :: o_this_sights :: o_this_full :: o_this_first :: o_this_second :: o_this_worth :: o_this_winner :: .ref a_row :: o_this_sightWeight :: o_this_sightMany :: []))), (a_row, .inl (cI, 6, .inl v_row))]) A) args s 0 0 A = Q
  obtain ⟨H, hH⟩ : ∃ H, H = s.heap := ⟨_, rfl⟩
  obtain ⟨locs, hlo⟩ : ∃ z : List Loc, z = [] := ⟨_, rfl⟩
  have hP : va_P D vwCl [(a_this, .inr (0, (o_this_weight :: o_this_hole :: o_this_held :: o_this_law :: .int v_many :: o_this_sights :: o_this_full :: o_this_first :: o_this_second :: o_this_worth :: o_this_winner :: .ref a_row :: o_this_sightWeight :: o_this_sightMany :: []))), (a_row, .inl (cI, 6, .inl v_row))] H := by rw [hH]; exact hP
  have hS : va_S A s.heap H locs := by rw [hH, hlo]; exact hS
  suffices hg : W p l e (headSpec wsX0_place { frames := 1, cells := 0, slots := 0, locals := 21 }).room s m args below meth c H locs 0 0 Q (F0 m 0 ls []) by rw [hH, hlo] at hg; exact hg
  have l24 := hts (.fieldLink RX0 24 "CandleCourt$Bench" "many" "I") (by decide +kernel)
  have l47 := hts (.fieldLink RX0 47 "CandleCourt$Bench" "row" "[I") (by decide +kernel)
  have iX0 : ∀ w ∈ wsX00, w ∈ wsX0_place := by decide +kernel
  unfold fX0_place at hf
  refine lv_iconst (v := 0) hx hb dX0_place_0 (by decide) ?_
  refine lv_istore_n (lv' := [(2, .int 0), (0, .ref a_this), (1, .int x1)]) hx hb dX0_place_1 rfl hl (by decide) rfl (fun ls hl => ?_)
  have L2 : ∀ (n2 : Nat) (x2_2 : Int32) (H : Heap) (locs : List Loc) (ls : Array Slot), fX0_place_l2 x1 v_many v_row n2 x2_2 = some r0 → va_P D vwCl [(a_this, .inr (0, (o_this_weight :: o_this_hole :: o_this_held :: o_this_law :: .int v_many :: o_this_sights :: o_this_full :: o_this_first :: o_this_second :: o_this_worth :: o_this_winner :: .ref a_row :: o_this_sightWeight :: o_this_sightMany :: []))), (a_row, .inl (cI, 6, .inl v_row))] H → va_D A [(a_this, .inr (0, (o_this_weight :: o_this_hole :: o_this_held :: o_this_law :: .int v_many :: o_this_sights :: o_this_full :: o_this_first :: o_this_second :: o_this_worth :: o_this_winner :: .ref a_row :: o_this_sightWeight :: o_this_sightMany :: []))), (a_row, .inl (cI, 6, .inl v_row))] → va_S A s.heap H locs → lv_has ls 3 [(0, .ref a_this), (1, .int x1), (2, .int x2_2)] → W p l e (headSpec wsX0_place { frames := 1, cells := 0, slots := 0, locals := 21 }).room s m args below meth c H locs 0 0 Q (F0 m 2 ls []) := by
    intro n2
    induction n2 with
    | zero =>
      intro x2_2 H locs ls hf
      have hf : (none : Option (Int32)) = some r0 := hf
      cases hf
    | succ n2 ih2 =>
      intro x2_2 H locs ls hf hP hD hS hl
      rw [fX0_place_l2] at hf
      refine lv_iload_n hx hb dX0_place_2 rfl (lv_at hl 2 rfl) ?_
      refine lv_aload_n hx hb dX0_place_3 rfl (lv_at hl 0 rfl) ?_
      refine va_get (D := D) (ci := 0) (v := .int v_many) (C := RX0) (T := TX0) (N := 14) hx hb hts iX0 hown hK.1 hP 0 rfl rfl 4 (by decide) l24 (fun _ h9 => h9) rfl dX0_place_4 ?_
      refine lv_icmp_ge (tgt := 30) hx hb dX0_place_7 (by decide) (fun c1 => ?_) (fun c1 => ?_)
      · have hf := (if_pos c1).symm.trans hf
        refine lv_aload_n hx hb dX0_place_30 rfl (lv_at hl 0 rfl) ?_
        refine va_get (D := D) (ci := 0) (v := .int v_many) (C := RX0) (T := TX0) (N := 14) hx hb hts iX0 hown hK.1 hP 0 rfl rfl 4 (by decide) l24 (fun _ h9 => h9) rfl dX0_place_31 ?_
        cases hf
        subst hQ
        exact k_ri hx hb hr hlocks hP hD hS dX0_place_34
      · have hf := (if_neg c1).symm.trans hf
        refine lv_aload_n hx hb dX0_place_10 rfl (lv_at hl 0 rfl) ?_
        refine va_get (D := D) (ci := 0) (v := .ref a_row) (C := RX0) (T := TX0) (N := 14) hx hb hts iX0 hown hK.1 hP 0 rfl rfl 11 (by decide) l47 (fun _ h9 => h9) rfl dX0_place_11 ?_
        refine lv_iload_n hx hb dX0_place_14 rfl (lv_at hl 2 rfl) ?_
        obtain ⟨r2, hc3, hf⟩ := bnd1_some hf
        refine k_ci (wc := [(a_row, .inl (cI, 6, .inl v_row))]) (wr := [(a_this, .inr (0, (o_this_weight :: o_this_hole :: o_this_held :: o_this_law :: .int v_many :: o_this_sights :: o_this_full :: o_this_first :: o_this_second :: o_this_worth :: o_this_winner :: .ref a_row :: o_this_sightWeight :: o_this_sightMany :: [])))]) (w1 := [(a_row, .inl (cI, 6, .inl v_row))]) (ws' := [(a_this, .inr (0, (o_this_weight :: o_this_hole :: o_this_held :: o_this_law :: .int v_many :: o_this_sights :: o_this_full :: o_this_first :: o_this_second :: o_this_worth :: o_this_winner :: .ref a_row :: o_this_sightWeight :: o_this_sightMany :: []))), (a_row, .inl (cI, 6, .inl v_row))]) (va_runSN (As := [.ref a_row, .int x2_2]) (rest := []) ⟨hx, hb, hml, hown, hts⟩ (tX3_at l D cI cJ cZ cB a_row 6 x2_2 v_row r2 hc3 H.size) ⟨va_cnB 2 hts gX0_place_X3_at_n80 rfl rfl rfl hK.2.2.2.2.1 (hts (.initialized RX3) (by decide +kernel)) (by decide +kernel) ⟨Nat.le_of_ble_eq_true rfl, Nat.le_of_ble_eq_true rfl⟩, hts (.static yX3_at) (by decide +kernel), trivial⟩ (k_preS (is := [1]) hK hP hD rfl rfl) rfl rfl hl.1 rfl (lv_room (Nat.le_of_ble_eq_true rfl)) dX0_place_15 ⟨Nat.zero_le _, Nat.zero_le _⟩) hP hD hS hA [1] [0] [0, 1] rfl rfl rfl (by decide) rfl rfl (fun H locs hP hD hS => ?_)
        refine lv_iload_n hx hb dX0_place_18 rfl (lv_at hl 1 rfl) ?_
        refine lv_icmp_ne (tgt := 24) hx hb dX0_place_19 (by decide) (fun c4 => ?_) (fun c4 => ?_)
        · have hf := (if_neg c4).symm.trans hf
          refine lv_iinc (v := (x2_2 + 1)) (lv' := [(2, .int (x2_2 + 1)), (0, .ref a_this), (1, .int x1)]) hx hb dX0_place_24 hl (k := 2) rfl (by rfl) (by decide) rfl (fun ls hl => ?_)
          refine lv_goto (tgt := 2) hx hb dX0_place_27 (by decide) ?_
          exact ih2 (x2_2 + 1) _ _ _ hf hP hD hS (lv_sub hl [1, 2, 0] rfl)
        · have hf := (if_pos c4).symm.trans hf
          refine lv_iload_n hx hb dX0_place_22 rfl (lv_at hl 2 rfl) ?_
          cases hf
          subst hQ
          exact k_ri hx hb hr hlocks hP hD hS dX0_place_23
  exact L2 FU 0 _ _ _ hf hP hD hS (lv_sub hl [1, 2, 0] rfl)

set_option maxHeartbeats 4000000 in
set_option maxRecDepth 100000 in
theorem tX0_end (l : Launch) (D : va_G) (cI cJ cZ cB : ClassId) (a_this : Nat) (a_row : Nat) (a_first : Nat) (a_second : Nat) (o_this_weight : Value) (o_this_hole : Value) (o_this_held : Value) (o_this_law : Value) (o_this_sights : Value) (o_this_full : Value) (o_this_worth : Value) (o_this_winner : Value) (o_this_sightWeight : Value) (o_this_sightMany : Value) (x1 : Int32) (v_many : Int32) (v_row : Nat → Int32) (v_first : Nat → Int32) (v_second : Nat → Int32) (r0 : Int32) (hf : fX0_end x1 v_many v_row v_first v_second = some r0) : MW l yX0_end wsX0_end { frames := 2, cells := 0, slots := 0, locals := 43 } D cI cJ cZ cB [(a_this, .inr (0, (o_this_weight :: o_this_hole :: o_this_held :: o_this_law :: .int v_many :: o_this_sights :: o_this_full :: .ref a_first :: .ref a_second :: o_this_worth :: o_this_winner :: .ref a_row :: o_this_sightWeight :: o_this_sightMany :: []))), (a_row, .inl (cI, 6, .inl v_row)), (a_first, .inl (cI, 6, .inl v_first)), (a_second, .inl (cI, 6, .inl v_second))] [.ref a_this, .int x1] (QWi D r0 [(a_this, .inr (0, (o_this_weight :: o_this_hole :: o_this_held :: o_this_law :: .int v_many :: o_this_sights :: o_this_full :: .ref a_first :: .ref a_second :: o_this_worth :: o_this_winner :: .ref a_row :: o_this_sightWeight :: o_this_sightMany :: []))), (a_row, .inl (cI, 6, .inl v_row)), (a_first, .inl (cI, 6, .inl v_first)), (a_second, .inl (cI, 6, .inl v_second))]) := by
  refine k_body (cc := cX0_end) (maxL := 4) (ret := (some .int)) (by decide) rfl (Nat.le_of_ble_eq_true rfl) ?_
  intro p e s m args below meth c hx hb hr hml hts hown hlocks hname hK A hA hP hD hS ls hl
  have hl : lv_has ls 4 [(0, .ref a_this), (1, .int x1)] := hl
  generalize hQ : MQ below ((QWi D r0 [(a_this, .inr (0, (o_this_weight :: o_this_hole :: o_this_held :: o_this_law :: .int v_many :: o_this_sights :: o_this_full :: .ref a_first :: .ref a_second :: o_this_worth :: o_this_winner :: .ref a_row :: o_this_sightWeight :: o_this_sightMany :: []))), (a_row, .inl (cI, 6, .inl v_row)), (a_first, .inl (cI, 6, .inl v_first)), (a_second, .inl (cI, 6, .inl v_second))]) A) args s 0 0 A = Q
  obtain ⟨H, hH⟩ : ∃ H, H = s.heap := ⟨_, rfl⟩
  obtain ⟨locs, hlo⟩ : ∃ z : List Loc, z = [] := ⟨_, rfl⟩
  have hP : va_P D vwCl [(a_this, .inr (0, (o_this_weight :: o_this_hole :: o_this_held :: o_this_law :: .int v_many :: o_this_sights :: o_this_full :: .ref a_first :: .ref a_second :: o_this_worth :: o_this_winner :: .ref a_row :: o_this_sightWeight :: o_this_sightMany :: []))), (a_row, .inl (cI, 6, .inl v_row)), (a_first, .inl (cI, 6, .inl v_first)), (a_second, .inl (cI, 6, .inl v_second))] H := by rw [hH]; exact hP
  have hS : va_S A s.heap H locs := by rw [hH, hlo]; exact hS
  suffices hg : W p l e (headSpec wsX0_end { frames := 2, cells := 0, slots := 0, locals := 43 }).room s m args below meth c H locs 0 0 Q (F0 m 0 ls []) by rw [hH, hlo] at hg; exact hg
  have l47 := hts (.fieldLink RX0 47 "CandleCourt$Bench" "row" "[I") (by decide +kernel)
  have iX0 : ∀ w ∈ wsX00, w ∈ wsX0_end := by decide +kernel
  unfold fX0_end at hf
  refine lv_iconst (v := 0) hx hb dX0_end_0 (by decide) ?_
  refine lv_istore_n (lv' := [(2, .int 0), (0, .ref a_this), (1, .int x1)]) hx hb dX0_end_1 rfl hl (by decide) rfl (fun ls hl => ?_)
  refine lv_iconst (v := 0) hx hb dX0_end_2 (by decide) ?_
  refine lv_istore_n (lv' := [(3, .int 0), (2, .int 0), (0, .ref a_this), (1, .int x1)]) hx hb dX0_end_3 rfl hl (by decide) rfl (fun ls hl => ?_)
  have L4 : ∀ (n4 : Nat) (x2_4 : Int32) (x3_4 : Int32) (H : Heap) (locs : List Loc) (ls : Array Slot), fX0_end_l4 x1 v_many v_row v_first v_second n4 x2_4 x3_4 = some r0 → va_P D vwCl [(a_this, .inr (0, (o_this_weight :: o_this_hole :: o_this_held :: o_this_law :: .int v_many :: o_this_sights :: o_this_full :: .ref a_first :: .ref a_second :: o_this_worth :: o_this_winner :: .ref a_row :: o_this_sightWeight :: o_this_sightMany :: []))), (a_row, .inl (cI, 6, .inl v_row)), (a_first, .inl (cI, 6, .inl v_first)), (a_second, .inl (cI, 6, .inl v_second))] H → va_D A [(a_this, .inr (0, (o_this_weight :: o_this_hole :: o_this_held :: o_this_law :: .int v_many :: o_this_sights :: o_this_full :: .ref a_first :: .ref a_second :: o_this_worth :: o_this_winner :: .ref a_row :: o_this_sightWeight :: o_this_sightMany :: []))), (a_row, .inl (cI, 6, .inl v_row)), (a_first, .inl (cI, 6, .inl v_first)), (a_second, .inl (cI, 6, .inl v_second))] → va_S A s.heap H locs → lv_has ls 4 [(0, .ref a_this), (1, .int x1), (2, .int x2_4), (3, .int x3_4)] → W p l e (headSpec wsX0_end { frames := 2, cells := 0, slots := 0, locals := 43 }).room s m args below meth c H locs 0 0 Q (F0 m 4 ls []) := by
    intro n4
    induction n4 with
    | zero =>
      intro x2_4 x3_4 H locs ls hf
      have hf : (none : Option (Int32)) = some r0 := hf
      cases hf
    | succ n4 ih4 =>
      intro x2_4 x3_4 H locs ls hf hP hD hS hl
      rw [fX0_end_l4] at hf
      refine lv_iload_n hx hb dX0_end_4 rfl (lv_at hl 3 rfl) ?_
      refine lv_aload_n hx hb dX0_end_5 rfl (lv_at hl 0 rfl) ?_
      refine lv_iload_n hx hb dX0_end_6 rfl (lv_at hl 1 rfl) ?_
      obtain ⟨r1, hc2, hf⟩ := bnd1_some hf
      refine k_ci (wc := [(a_this, .inr (0, (o_this_weight :: o_this_hole :: o_this_held :: o_this_law :: .int v_many :: o_this_sights :: o_this_full :: .ref a_first :: .ref a_second :: o_this_worth :: o_this_winner :: .ref a_row :: o_this_sightWeight :: o_this_sightMany :: []))), (a_row, .inl (cI, 6, .inl v_row))]) (wr := [(a_first, .inl (cI, 6, .inl v_first)), (a_second, .inl (cI, 6, .inl v_second))]) (w1 := [(a_this, .inr (0, (o_this_weight :: o_this_hole :: o_this_held :: o_this_law :: .int v_many :: o_this_sights :: o_this_full :: .ref a_first :: .ref a_second :: o_this_worth :: o_this_winner :: .ref a_row :: o_this_sightWeight :: o_this_sightMany :: []))), (a_row, .inl (cI, 6, .inl v_row))]) (ws' := [(a_this, .inr (0, (o_this_weight :: o_this_hole :: o_this_held :: o_this_law :: .int v_many :: o_this_sights :: o_this_full :: .ref a_first :: .ref a_second :: o_this_worth :: o_this_winner :: .ref a_row :: o_this_sightWeight :: o_this_sightMany :: []))), (a_row, .inl (cI, 6, .inl v_row)), (a_first, .inl (cI, 6, .inl v_first)), (a_second, .inl (cI, 6, .inl v_second))]) (va_runV (As := [.int x1]) (rest := [.int x3_4]) ⟨hx, hb, hml, hown, hts⟩ (tX0_place l D cI cJ cZ cB a_this a_row o_this_weight o_this_hole o_this_held o_this_law o_this_sights o_this_full (.ref a_first) (.ref a_second) o_this_worth o_this_winner o_this_sightWeight o_this_sightMany x1 v_many v_row r1 hc2 H.size) (cwV 1 hts gX0_end_X0_place rfl rfl rfl (by decide +kernel) ⟨Nat.le_of_ble_eq_true rfl, Nat.le_of_ble_eq_true rfl⟩) (k_preV (ci := 0) (q0 := 0) (is := [0, 1]) hK hP hD rfl rfl rfl rfl) rfl rfl hl.1 rfl (lv_room (Nat.le_of_ble_eq_true rfl)) dX0_end_7 ⟨Nat.zero_le _, Nat.zero_le _⟩) hP hD hS hA [0, 1] [2, 3] [2, 3, 0, 1] rfl rfl rfl (by decide) rfl rfl (fun H locs hP hD hS => ?_)
      refine lv_icmp_gt (tgt := 34) hx hb dX0_end_10 (by decide) (fun c3 => ?_) (fun c3 => ?_)
      · have hf := (if_pos c3).symm.trans hf
        refine lv_iload_n hx hb dX0_end_34 rfl (lv_at hl 2 rfl) ?_
        cases hf
        subst hQ
        exact k_ri hx hb hr hlocks hP hD hS dX0_end_35
      · have hf := (if_neg c3).symm.trans hf
        refine lv_iload_n hx hb dX0_end_13 rfl (lv_at hl 2 rfl) ?_
        refine lv_aload_n hx hb dX0_end_14 rfl (lv_at hl 0 rfl) ?_
        refine lv_aload_n hx hb dX0_end_15 rfl (lv_at hl 0 rfl) ?_
        refine va_get (D := D) (ci := 0) (v := .ref a_row) (C := RX0) (T := TX0) (N := 14) hx hb hts iX0 hown hK.1 hP 0 rfl rfl 11 (by decide) l47 (fun _ h9 => h9) rfl dX0_end_16 ?_
        refine lv_iload_n hx hb dX0_end_19 rfl (lv_at hl 3 rfl) ?_
        obtain ⟨r4, hc5, hf⟩ := bnd1_some hf
        refine k_ci (wc := [(a_row, .inl (cI, 6, .inl v_row))]) (wr := [(a_this, .inr (0, (o_this_weight :: o_this_hole :: o_this_held :: o_this_law :: .int v_many :: o_this_sights :: o_this_full :: .ref a_first :: .ref a_second :: o_this_worth :: o_this_winner :: .ref a_row :: o_this_sightWeight :: o_this_sightMany :: []))), (a_first, .inl (cI, 6, .inl v_first)), (a_second, .inl (cI, 6, .inl v_second))]) (w1 := [(a_row, .inl (cI, 6, .inl v_row))]) (ws' := [(a_this, .inr (0, (o_this_weight :: o_this_hole :: o_this_held :: o_this_law :: .int v_many :: o_this_sights :: o_this_full :: .ref a_first :: .ref a_second :: o_this_worth :: o_this_winner :: .ref a_row :: o_this_sightWeight :: o_this_sightMany :: []))), (a_row, .inl (cI, 6, .inl v_row)), (a_first, .inl (cI, 6, .inl v_first)), (a_second, .inl (cI, 6, .inl v_second))]) (va_runSN (As := [.ref a_row, .int x3_4]) (rest := [.ref a_this, .int x2_4]) ⟨hx, hb, hml, hown, hts⟩ (tX3_at l D cI cJ cZ cB a_row 6 x3_4 v_row r4 hc5 H.size) ⟨va_cnB 2 hts gX0_end_X3_at_n80 rfl rfl rfl hK.2.2.2.2.1 (hts (.initialized RX3) (by decide +kernel)) (by decide +kernel) ⟨Nat.le_of_ble_eq_true rfl, Nat.le_of_ble_eq_true rfl⟩, hts (.static yX3_at) (by decide +kernel), trivial⟩ (k_preS (is := [1]) hK hP hD rfl rfl) rfl rfl hl.1 rfl (lv_room (Nat.le_of_ble_eq_true rfl)) dX0_end_20 ⟨Nat.zero_le _, Nat.zero_le _⟩) hP hD hS hA [1] [0, 2, 3] [0, 3, 1, 2] rfl rfl rfl (by decide) rfl rfl (fun H locs hP hD hS => ?_)
        obtain ⟨r6, hc7, hf⟩ := bnd1_some hf
        refine k_ci (wc := [(a_this, .inr (0, (o_this_weight :: o_this_hole :: o_this_held :: o_this_law :: .int v_many :: o_this_sights :: o_this_full :: .ref a_first :: .ref a_second :: o_this_worth :: o_this_winner :: .ref a_row :: o_this_sightWeight :: o_this_sightMany :: []))), (a_first, .inl (cI, 6, .inl v_first)), (a_second, .inl (cI, 6, .inl v_second))]) (wr := [(a_row, .inl (cI, 6, .inl v_row))]) (w1 := [(a_this, .inr (0, (o_this_weight :: o_this_hole :: o_this_held :: o_this_law :: .int v_many :: o_this_sights :: o_this_full :: .ref a_first :: .ref a_second :: o_this_worth :: o_this_winner :: .ref a_row :: o_this_sightWeight :: o_this_sightMany :: []))), (a_first, .inl (cI, 6, .inl v_first)), (a_second, .inl (cI, 6, .inl v_second))]) (ws' := [(a_this, .inr (0, (o_this_weight :: o_this_hole :: o_this_held :: o_this_law :: .int v_many :: o_this_sights :: o_this_full :: .ref a_first :: .ref a_second :: o_this_worth :: o_this_winner :: .ref a_row :: o_this_sightWeight :: o_this_sightMany :: []))), (a_row, .inl (cI, 6, .inl v_row)), (a_first, .inl (cI, 6, .inl v_first)), (a_second, .inl (cI, 6, .inl v_second))]) (va_runV (As := [.int r4]) (rest := [.int x2_4]) ⟨hx, hb, hml, hown, hts⟩ (tX0_lasts l D cI cJ cZ cB a_this a_first a_second o_this_weight o_this_hole o_this_held o_this_law (.int v_many) o_this_sights o_this_full o_this_worth o_this_winner (.ref a_row) o_this_sightWeight o_this_sightMany r4 v_first v_second r6 hc7 H.size) (cwV 1 hts gX0_end_X0_lasts rfl rfl rfl (by decide +kernel) ⟨Nat.le_of_ble_eq_true rfl, Nat.le_of_ble_eq_true rfl⟩) (k_preV (ci := 0) (q0 := 0) (is := [0, 2, 3]) hK hP hD rfl rfl rfl rfl) rfl rfl hl.1 rfl (lv_room (Nat.le_of_ble_eq_true rfl)) dX0_end_23 ⟨Nat.zero_le _, Nat.zero_le _⟩) hP hD hS hA [0, 2, 3] [1] [1, 0, 2, 3] rfl rfl rfl (by decide) rfl rfl (fun H locs hP hD hS => ?_)
        refine lv_iadd hx hb dX0_end_26 ?_
        refine lv_istore_n (lv' := [(2, .int (x2_4 + r6)), (0, .ref a_this), (1, .int x1), (3, .int x3_4)]) hx hb dX0_end_27 rfl hl (by decide) rfl (fun ls hl => ?_)
        refine lv_iinc (v := (x3_4 + 1)) (lv' := [(3, .int (x3_4 + 1)), (2, .int (x2_4 + r6)), (0, .ref a_this), (1, .int x1)]) hx hb dX0_end_28 hl (k := 3) rfl (by rfl) (by decide) rfl (fun ls hl => ?_)
        refine lv_goto (tgt := 4) hx hb dX0_end_31 (by decide) ?_
        exact ih4 (x2_4 + r6) (x3_4 + 1) _ _ _ hf hP hD hS (lv_sub hl [2, 3, 1, 0] rfl)
  exact L4 FU 0 0 _ _ _ hf hP hD hS (lv_sub hl [2, 3, 1, 0] rfl)

set_option maxHeartbeats 4000000 in
set_option maxRecDepth 100000 in
theorem tX1_startNumber (l : Launch) (D : va_G) (cI cJ cZ cB : ClassId) (a_this : Nat) (o_this_suitsRead : Value) (o_this_first : Value) (o_this_second : Value) (o_this_worth : Value) (o_this_winner : Value) (x1 : Int32) (v_phase : Int32) (v_digits : Int32) (v_value : Int32) (w_phase : Int32) (w_digits : Int32) (w_value : Int32) (hf : fX1_startNumber x1 = some (w_phase, w_digits, w_value)) : MW l yX1_startNumber wsX1_startNumber { frames := 0, cells := 0, slots := 0, locals := 0 } D cI cJ cZ cB [(a_this, .inr (1, [.int v_phase, .int v_digits, .int v_value, o_this_suitsRead, o_this_first, o_this_second, o_this_worth, o_this_winner]))] [.ref a_this, .int x1] (QWv D [(a_this, .inr (1, [.int w_phase, .int w_digits, .int w_value, o_this_suitsRead, o_this_first, o_this_second, o_this_worth, o_this_winner]))]) := by
  refine k_body (cc := cX1_startNumber) (maxL := 2) (ret := none) (by decide) rfl (Nat.le_of_ble_eq_true rfl) ?_
  intro p e s m args below meth c hx hb hr hml hts hown hlocks hname hK A hA hP hD hS ls hl
  have hl : lv_has ls 2 [(0, .ref a_this), (1, .int x1)] := hl
  generalize hQ : MQ below ((QWv D [(a_this, .inr (1, [.int w_phase, .int w_digits, .int w_value, o_this_suitsRead, o_this_first, o_this_second, o_this_worth, o_this_winner]))]) A) args s 0 0 A = Q
  obtain ⟨H, hH⟩ : ∃ H, H = s.heap := ⟨_, rfl⟩
  obtain ⟨locs, hlo⟩ : ∃ z : List Loc, z = [] := ⟨_, rfl⟩
  have hP : va_P D vwCl [(a_this, .inr (1, [.int v_phase, .int v_digits, .int v_value, o_this_suitsRead, o_this_first, o_this_second, o_this_worth, o_this_winner]))] H := by rw [hH]; exact hP
  have hS : va_S A s.heap H locs := by rw [hH, hlo]; exact hS
  suffices hg : W p l e (headSpec wsX1_startNumber { frames := 0, cells := 0, slots := 0, locals := 0 }).room s m args below meth c H locs 0 0 Q (F0 m 0 ls []) by rw [hH, hlo] at hg; exact hg
  have l11 := hts (.fieldLink RX1 11 "CandleCourt$Reader" "phase" "I") (by decide +kernel)
  have l15 := hts (.fieldLink RX1 15 "CandleCourt$Reader" "digits" "I") (by decide +kernel)
  have l18 := hts (.fieldLink RX1 18 "CandleCourt$Reader" "value" "I") (by decide +kernel)
  have iX1 : ∀ w ∈ wsX10, w ∈ wsX1_startNumber := by decide +kernel
  unfold fX1_startNumber at hf
  refine lv_aload_n hx hb dX1_startNumber_0 rfl (lv_at hl 0 rfl) ?_
  refine lv_iload_n hx hb dX1_startNumber_1 rfl (lv_at hl 1 rfl) ?_
  refine va_put (D := D) (ci := 1) (v := .int x1) (ty := .int) (C := RX1) (T := TX1) (N := 8) hx hb hts iX1 tyX1 tyX1_ok nmX1 hown hK.1 hP hD hS 0 rfl rfl 0 (by decide) l11 (fun _ h9 => h9) rfl (by decide +kernel) rfl rfl (Nat.le_of_ble_eq_true rfl) dX1_startNumber_2 (fun H locs hP hD hS => ?_)
  have hP : va_P D vwCl [(a_this, .inr (1, [.int x1, .int v_digits, .int v_value, o_this_suitsRead, o_this_first, o_this_second, o_this_worth, o_this_winner]))] H := hP
  have hD : va_D A [(a_this, .inr (1, [.int x1, .int v_digits, .int v_value, o_this_suitsRead, o_this_first, o_this_second, o_this_worth, o_this_winner]))] := hD
  refine lv_aload_n hx hb dX1_startNumber_5 rfl (lv_at hl 0 rfl) ?_
  refine lv_iconst (v := 0) hx hb dX1_startNumber_6 (by decide) ?_
  refine va_put (D := D) (ci := 1) (v := .int 0) (ty := .int) (C := RX1) (T := TX1) (N := 8) hx hb hts iX1 tyX1 tyX1_ok nmX1 hown hK.1 hP hD hS 0 rfl rfl 1 (by decide) l15 (fun _ h9 => h9) rfl (by decide +kernel) rfl rfl (Nat.le_of_ble_eq_true rfl) dX1_startNumber_7 (fun H locs hP hD hS => ?_)
  have hP : va_P D vwCl [(a_this, .inr (1, [.int x1, .int 0, .int v_value, o_this_suitsRead, o_this_first, o_this_second, o_this_worth, o_this_winner]))] H := hP
  have hD : va_D A [(a_this, .inr (1, [.int x1, .int 0, .int v_value, o_this_suitsRead, o_this_first, o_this_second, o_this_worth, o_this_winner]))] := hD
  refine lv_aload_n hx hb dX1_startNumber_10 rfl (lv_at hl 0 rfl) ?_
  refine lv_iconst (v := 0) hx hb dX1_startNumber_11 (by decide) ?_
  refine va_put (D := D) (ci := 1) (v := .int 0) (ty := .int) (C := RX1) (T := TX1) (N := 8) hx hb hts iX1 tyX1 tyX1_ok nmX1 hown hK.1 hP hD hS 0 rfl rfl 2 (by decide) l18 (fun _ h9 => h9) rfl (by decide +kernel) rfl rfl (Nat.le_of_ble_eq_true rfl) dX1_startNumber_12 (fun H locs hP hD hS => ?_)
  have hP : va_P D vwCl [(a_this, .inr (1, [.int x1, .int 0, .int 0, o_this_suitsRead, o_this_first, o_this_second, o_this_worth, o_this_winner]))] H := hP
  have hD : va_D A [(a_this, .inr (1, [.int x1, .int 0, .int 0, o_this_suitsRead, o_this_first, o_this_second, o_this_worth, o_this_winner]))] := hD
  cases hf
  subst hQ
  exact k_rv hx hb hr hlocks hP hD hS dX1_startNumber_15

set_option maxHeartbeats 4000000 in
set_option maxRecDepth 100000 in
theorem tX3_within (l : Launch) (D : va_G) (cI cJ cZ cB : ClassId) (x0 : Int32) (x1 : Int32) (x2 : Int32) (r0 : Int32) (hf : fX3_within x0 x1 x2 = some r0) : MW l yX3_within wsX3_within { frames := 0, cells := 0, slots := 0, locals := 0 } D cI cJ cZ cB [] [.int x0, .int x1, .int x2] (QWi D r0 []) := by
  refine k_body (cc := cX3_within) (maxL := 3) (ret := (some .boolean)) (by decide) rfl (Nat.le_of_ble_eq_true rfl) ?_
  intro p e s m args below meth c hx hb hr hml hts hown hlocks hname hK A hA hP hD hS ls hl
  have hl : lv_has ls 3 [(0, .int x0), (1, .int x1), (2, .int x2)] := hl
  generalize hQ : MQ below ((QWi D r0 []) A) args s 0 0 A = Q
  obtain ⟨H, hH⟩ : ∃ H, H = s.heap := ⟨_, rfl⟩
  obtain ⟨locs, hlo⟩ : ∃ z : List Loc, z = [] := ⟨_, rfl⟩
  have hP : va_P D vwCl [] H := by rw [hH]; exact hP
  have hS : va_S A s.heap H locs := by rw [hH, hlo]; exact hS
  suffices hg : W p l e (headSpec wsX3_within { frames := 0, cells := 0, slots := 0, locals := 0 }).room s m args below meth c H locs 0 0 Q (F0 m 0 ls []) by rw [hH, hlo] at hg; exact hg
  unfold fX3_within at hf
  refine lv_iload_n hx hb dX3_within_0 rfl (lv_at hl 0 rfl) ?_
  refine lv_iload_n hx hb dX3_within_1 rfl (lv_at hl 1 rfl) ?_
  refine lv_icmp_lt (tgt := 14) hx hb dX3_within_2 (by decide) (fun c1 => ?_) (fun c1 => ?_)
  · have hf := (if_pos c1).symm.trans hf
    refine lv_iconst (v := 0) hx hb dX3_within_14 (by decide) ?_
    cases hf
    subst hQ
    exact k_rz hx hb hr hlocks hP hD hS (by decide) dX3_within_15
  · have hf := (if_neg c1).symm.trans hf
    refine lv_iload_n hx hb dX3_within_5 rfl (lv_at hl 0 rfl) ?_
    refine lv_iload_n hx hb dX3_within_6 rfl (lv_at hl 2 rfl) ?_
    refine lv_icmp_gt (tgt := 14) hx hb dX3_within_7 (by decide) (fun c2 => ?_) (fun c2 => ?_)
    · have hf := (if_pos c2).symm.trans hf
      refine lv_iconst (v := 0) hx hb dX3_within_14 (by decide) ?_
      cases hf
      subst hQ
      exact k_rz hx hb hr hlocks hP hD hS (by decide) dX3_within_15
    · have hf := (if_neg c2).symm.trans hf
      refine lv_iconst (v := 1) hx hb dX3_within_10 (by decide) ?_
      refine lv_goto (tgt := 15) hx hb dX3_within_11 (by decide) ?_
      cases hf
      subst hQ
      exact k_rz hx hb hr hlocks hP hD hS (by decide) dX3_within_15
