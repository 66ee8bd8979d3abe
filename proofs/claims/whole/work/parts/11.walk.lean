set_option maxHeartbeats 4000000 in
set_option maxRecDepth 100000 in
theorem tX1_takesDigit (l : Launch) (D : va_G) (cI cJ cZ cB : ClassId) (a_this : Nat) (o_this_suitsRead : Value) (o_this_first : Value) (o_this_second : Value) (o_this_worth : Value) (o_this_winner : Value) (x1 : Int32) (v_phase : Int32) (v_digits : Int32) (v_value : Int32) (r0 : Int32) (w_digits : Int32) (w_value : Int32) (hf : fX1_takesDigit x1 v_phase v_digits v_value = some (r0, w_digits, w_value)) : MW l yX1_takesDigit wsX1_takesDigit { frames := 0, cells := 0, slots := 0, locals := 0 } D cI cJ cZ cB [(a_this, .inr (1, [.int v_phase, .int v_digits, .int v_value, o_this_suitsRead, o_this_first, o_this_second, o_this_worth, o_this_winner]))] [.ref a_this, .int x1] (QWi D r0 [(a_this, .inr (1, [.int v_phase, .int w_digits, .int w_value, o_this_suitsRead, o_this_first, o_this_second, o_this_worth, o_this_winner]))]) := by
  refine k_body (cc := cX1_takesDigit) (maxL := 3) (ret := (some .boolean)) (by decide) rfl (Nat.le_of_ble_eq_true rfl) ?_
  intro p e s m args below meth c hx hb hr hml hts hown hlocks hname hK A hA hP hD hS ls hl
  have hl : lv_has ls 3 [(0, .ref a_this), (1, .int x1)] := hl
  generalize hQ : MQ below ((QWi D r0 [(a_this, .inr (1, [.int v_phase, .int w_digits, .int w_value, o_this_suitsRead, o_this_first, o_this_second, o_this_worth, o_this_winner]))]) A) args s 0 0 A = Q
  obtain ⟨H, hH⟩ : ∃ H, H = s.heap := ⟨_, rfl⟩
  obtain ⟨locs, hlo⟩ : ∃ z : List Loc, z = [] := ⟨_, rfl⟩
  have hP : va_P D vwCl [(a_this, .inr (1, [.int v_phase, .int v_digits, .int v_value, o_this_suitsRead, o_this_first, o_this_second, o_this_worth, o_this_winner]))] H := by rw [hH]; exact hP
  have hS : va_S A s.heap H locs := by rw [hH, hlo]; exact hS
  suffices hg : W p l e (headSpec wsX1_takesDigit { frames := 0, cells := 0, slots := 0, locals := 0 }).room s m args below meth c H locs 0 0 Q (F0 m 0 ls []) by rw [hH, hlo] at hg; exact hg
  have l11 := hts (.fieldLink RX1 11 "CandleCourt$Reader" "phase" "I") (by decide +kernel)
  have l15 := hts (.fieldLink RX1 15 "CandleCourt$Reader" "digits" "I") (by decide +kernel)
  have l18 := hts (.fieldLink RX1 18 "CandleCourt$Reader" "value" "I") (by decide +kernel)
  have iX1 : ∀ w ∈ wsX10, w ∈ wsX1_takesDigit := by decide +kernel
  unfold fX1_takesDigit at hf
  refine lv_aload_n hx hb dX1_takesDigit_0 rfl (lv_at hl 0 rfl) ?_
  refine va_get (D := D) (ci := 1) (v := .int v_phase) (C := RX1) (T := TX1) (N := 8) hx hb hts iX1 hown hK.1 hP 0 rfl rfl 0 (by decide) l11 (fun _ h9 => h9) rfl dX1_takesDigit_1 ?_
  refine lv_iconst (v := 3) hx hb dX1_takesDigit_4 (by decide) ?_
  refine lv_icmp_eq (tgt := 16) hx hb dX1_takesDigit_5 (by decide) (fun c1 => ?_) (fun c1 => ?_)
  · have hf := (if_pos c1).symm.trans hf
    refine lv_iconst (v := 0) hx hb dX1_takesDigit_16 (by decide) ?_
    cases hf
    subst hQ
    exact k_rz hx hb hr hlocks hP hD hS (by decide) dX1_takesDigit_17
  · have hf := (if_neg c1).symm.trans hf
    refine lv_aload_n hx hb dX1_takesDigit_8 rfl (lv_at hl 0 rfl) ?_
    refine va_get (D := D) (ci := 1) (v := .int v_digits) (C := RX1) (T := TX1) (N := 8) hx hb hts iX1 hown hK.1 hP 0 rfl rfl 1 (by decide) l15 (fun _ h9 => h9) rfl dX1_takesDigit_9 ?_
    refine lv_iconst (v := 3) hx hb dX1_takesDigit_12 (by decide) ?_
    refine lv_icmp_ne (tgt := 18) hx hb dX1_takesDigit_13 (by decide) (fun c2 => ?_) (fun c2 => ?_)
    · have hf := (if_neg c2).symm.trans hf
      refine lv_aload_n hx hb dX1_takesDigit_18 rfl (lv_at hl 0 rfl) ?_
      refine va_get (D := D) (ci := 1) (v := .int v_digits) (C := RX1) (T := TX1) (N := 8) hx hb hts iX1 hown hK.1 hP 0 rfl rfl 1 (by decide) l15 (fun _ h9 => h9) rfl dX1_takesDigit_19 ?_
      have J42 : ∀ (s0_42 : Int32) (v_digits_42 : Int32) (v_value_42 : Int32) (H : Heap) (locs : List Loc) (ls : Array Slot), fX1_takesDigit_j42 x1 v_digits_42 v_value_42 s0_42 = some (r0, w_digits, w_value) → va_P D vwCl [(a_this, .inr (1, [.int v_phase, .int v_digits_42, .int v_value_42, o_this_suitsRead, o_this_first, o_this_second, o_this_worth, o_this_winner]))] H → va_D A [(a_this, .inr (1, [.int v_phase, .int v_digits_42, .int v_value_42, o_this_suitsRead, o_this_first, o_this_second, o_this_worth, o_this_winner]))] → va_S A s.heap H locs → lv_has ls 3 [(0, .ref a_this), (1, .int x1)] → W p l e (headSpec wsX1_takesDigit { frames := 0, cells := 0, slots := 0, locals := 0 }).room s m args below meth c H locs 0 0 Q (F0 m 42 ls [.int s0_42]) := by
        intro s0_42 v_digits_42 v_value_42 H locs ls hf hP hD hS hl
        unfold fX1_takesDigit_j42 at hf
        refine lv_istore_n (lv' := [(2, .int s0_42), (0, .ref a_this), (1, .int x1)]) hx hb dX1_takesDigit_42 rfl hl (by decide) rfl (fun ls hl => ?_)
        refine lv_iload_n hx hb dX1_takesDigit_43 rfl (lv_at hl 0 rfl) ?_
        refine lv_if_ne (tgt := 61) hx hb dX1_takesDigit_44 (by decide) (fun c3 => ?_) (fun c3 => ?_)
        · have hf := (if_neg c3).symm.trans hf
          refine lv_iconst (v := 0) hx hb dX1_takesDigit_61 (by decide) ?_
          cases hf
          subst hQ
          exact k_rz hx hb hr hlocks hP hD hS (by decide) dX1_takesDigit_62
        · have hf := (if_pos c3).symm.trans hf
          refine lv_aload_n hx hb dX1_takesDigit_47 rfl (lv_at hl 1 rfl) ?_
          refine va_get (D := D) (ci := 1) (v := .int v_digits_42) (C := RX1) (T := TX1) (N := 8) hx hb hts iX1 hown hK.1 hP 0 rfl rfl 1 (by decide) l15 (fun _ h9 => h9) rfl dX1_takesDigit_48 ?_
          have J63 : ∀ (v_digits_63 : Int32) (v_value_63 : Int32) (H : Heap) (locs : List Loc) (ls : Array Slot), fX1_takesDigit_j63 x1 v_digits_63 v_value_63 = some (r0, w_digits, w_value) → va_P D vwCl [(a_this, .inr (1, [.int v_phase, .int v_digits_63, .int v_value_63, o_this_suitsRead, o_this_first, o_this_second, o_this_worth, o_this_winner]))] H → va_D A [(a_this, .inr (1, [.int v_phase, .int v_digits_63, .int v_value_63, o_this_suitsRead, o_this_first, o_this_second, o_this_worth, o_this_winner]))] → va_S A s.heap H locs → lv_has ls 3 [(0, .ref a_this), (1, .int x1)] → W p l e (headSpec wsX1_takesDigit { frames := 0, cells := 0, slots := 0, locals := 0 }).room s m args below meth c H locs 0 0 Q (F0 m 63 ls []) := by
            intro v_digits_63 v_value_63 H locs ls hf hP hD hS hl
            unfold fX1_takesDigit_j63 at hf
            refine lv_aload_n hx hb dX1_takesDigit_63 rfl (lv_at hl 0 rfl) ?_
            refine lv_bipush (v := 10) hx hb dX1_takesDigit_64 (by decide) ?_
            refine lv_aload_n hx hb dX1_takesDigit_66 rfl (lv_at hl 0 rfl) ?_
            refine va_get (D := D) (ci := 1) (v := .int v_value_63) (C := RX1) (T := TX1) (N := 8) hx hb hts iX1 hown hK.1 hP 0 rfl rfl 2 (by decide) l18 (fun _ h9 => h9) rfl dX1_takesDigit_67 ?_
            refine lv_imul hx hb dX1_takesDigit_70 ?_
            refine lv_iload_n hx hb dX1_takesDigit_71 rfl (lv_at hl 1 rfl) ?_
            refine lv_iadd hx hb dX1_takesDigit_72 ?_
            refine va_put (D := D) (ci := 1) (v := .int ((10 * v_value_63) + x1)) (ty := .int) (C := RX1) (T := TX1) (N := 8) hx hb hts iX1 tyX1 tyX1_ok nmX1 hown hK.1 hP hD hS 0 rfl rfl 2 (by decide) l18 (fun _ h9 => h9) rfl (by decide +kernel) rfl rfl (Nat.le_of_ble_eq_true rfl) dX1_takesDigit_73 (fun H locs hP hD hS => ?_)
            have hP : va_P D vwCl [(a_this, .inr (1, [.int v_phase, .int v_digits_63, .int ((10 * v_value_63) + x1), o_this_suitsRead, o_this_first, o_this_second, o_this_worth, o_this_winner]))] H := hP
            have hD : va_D A [(a_this, .inr (1, [.int v_phase, .int v_digits_63, .int ((10 * v_value_63) + x1), o_this_suitsRead, o_this_first, o_this_second, o_this_worth, o_this_winner]))] := hD
            refine lv_aload_n hx hb dX1_takesDigit_76 rfl (lv_at hl 0 rfl) ?_
            refine lv_dup hx hb dX1_takesDigit_77 rfl ?_
            refine va_get (D := D) (ci := 1) (v := .int v_digits_63) (C := RX1) (T := TX1) (N := 8) hx hb hts iX1 hown hK.1 hP 0 rfl rfl 1 (by decide) l15 (fun _ h9 => h9) rfl dX1_takesDigit_78 ?_
            refine lv_iconst (v := 1) hx hb dX1_takesDigit_81 (by decide) ?_
            refine lv_iadd hx hb dX1_takesDigit_82 ?_
            refine va_put (D := D) (ci := 1) (v := .int (v_digits_63 + 1)) (ty := .int) (C := RX1) (T := TX1) (N := 8) hx hb hts iX1 tyX1 tyX1_ok nmX1 hown hK.1 hP hD hS 0 rfl rfl 1 (by decide) l15 (fun _ h9 => h9) rfl (by decide +kernel) rfl rfl (Nat.le_of_ble_eq_true rfl) dX1_takesDigit_83 (fun H locs hP hD hS => ?_)
            have hP : va_P D vwCl [(a_this, .inr (1, [.int v_phase, .int (v_digits_63 + 1), .int ((10 * v_value_63) + x1), o_this_suitsRead, o_this_first, o_this_second, o_this_worth, o_this_winner]))] H := hP
            have hD : va_D A [(a_this, .inr (1, [.int v_phase, .int (v_digits_63 + 1), .int ((10 * v_value_63) + x1), o_this_suitsRead, o_this_first, o_this_second, o_this_worth, o_this_winner]))] := hD
            refine lv_iconst (v := 1) hx hb dX1_takesDigit_86 (by decide) ?_
            cases hf
            subst hQ
            exact k_rz hx hb hr hlocks hP hD hS (by decide) dX1_takesDigit_87
          refine lv_if_le (tgt := 63) hx hb dX1_takesDigit_51 (by decide) (fun c4 => ?_) (fun c4 => ?_)
          · have hf := (if_pos c4).symm.trans hf
            exact J63 v_digits_42 v_value_42 _ _ _ hf hP hD hS (lv_sub hl [1, 2] rfl)
          · have hf := (if_neg c4).symm.trans hf
            refine lv_aload_n hx hb dX1_takesDigit_54 rfl (lv_at hl 1 rfl) ?_
            refine va_get (D := D) (ci := 1) (v := .int v_value_42) (C := RX1) (T := TX1) (N := 8) hx hb hts iX1 hown hK.1 hP 0 rfl rfl 2 (by decide) l18 (fun _ h9 => h9) rfl dX1_takesDigit_55 ?_
            refine lv_if_ne (tgt := 63) hx hb dX1_takesDigit_58 (by decide) (fun c5 => ?_) (fun c5 => ?_)
            · have hf := (if_neg c5).symm.trans hf
              exact J63 v_digits_42 v_value_42 _ _ _ hf hP hD hS (lv_sub hl [1, 2] rfl)
            · have hf := (if_pos c5).symm.trans hf
              refine lv_iconst (v := 0) hx hb dX1_takesDigit_61 (by decide) ?_
              cases hf
              subst hQ
              exact k_rz hx hb hr hlocks hP hD hS (by decide) dX1_takesDigit_62
      have J41 : ∀ (v_digits_41 : Int32) (v_value_41 : Int32) (H : Heap) (locs : List Loc) (ls : Array Slot), fX1_takesDigit_j41 x1 v_digits_41 v_value_41 = some (r0, w_digits, w_value) → va_P D vwCl [(a_this, .inr (1, [.int v_phase, .int v_digits_41, .int v_value_41, o_this_suitsRead, o_this_first, o_this_second, o_this_worth, o_this_winner]))] H → va_D A [(a_this, .inr (1, [.int v_phase, .int v_digits_41, .int v_value_41, o_this_suitsRead, o_this_first, o_this_second, o_this_worth, o_this_winner]))] → va_S A s.heap H locs → lv_has ls 3 [(0, .ref a_this), (1, .int x1)] → W p l e (headSpec wsX1_takesDigit { frames := 0, cells := 0, slots := 0, locals := 0 }).room s m args below meth c H locs 0 0 Q (F0 m 41 ls []) := by
        intro v_digits_41 v_value_41 H locs ls hf hP hD hS hl
        unfold fX1_takesDigit_j41 at hf
        refine lv_iconst (v := 0) hx hb dX1_takesDigit_41 (by decide) ?_
        exact J42 0 v_digits_41 v_value_41 _ _ _ hf hP hD hS (lv_sub hl [0, 1] rfl)
      refine lv_if_ne (tgt := 41) hx hb dX1_takesDigit_22 (by decide) (fun c6 => ?_) (fun c6 => ?_)
      · have hf := (if_neg c6).symm.trans hf
        exact J41 v_digits v_value _ _ _ hf hP hD hS (lv_sub hl [0, 1] rfl)
      · have hf := (if_pos c6).symm.trans hf
        refine lv_iload_n hx hb dX1_takesDigit_25 rfl (lv_at hl 1 rfl) ?_
        refine lv_if_ne (tgt := 41) hx hb dX1_takesDigit_26 (by decide) (fun c7 => ?_) (fun c7 => ?_)
        · have hf := (if_neg c7).symm.trans hf
          exact J41 v_digits v_value _ _ _ hf hP hD hS (lv_sub hl [0, 1] rfl)
        · have hf := (if_pos c7).symm.trans hf
          refine lv_aload_n hx hb dX1_takesDigit_29 rfl (lv_at hl 0 rfl) ?_
          refine va_get (D := D) (ci := 1) (v := .int v_phase) (C := RX1) (T := TX1) (N := 8) hx hb hts iX1 hown hK.1 hP 0 rfl rfl 0 (by decide) l11 (fun _ h9 => h9) rfl dX1_takesDigit_30 ?_
          refine lv_iconst (v := 2) hx hb dX1_takesDigit_33 (by decide) ?_
          refine lv_icmp_eq (tgt := 41) hx hb dX1_takesDigit_34 (by decide) (fun c8 => ?_) (fun c8 => ?_)
          · have hf := (if_pos c8).symm.trans hf
            exact J41 v_digits v_value _ _ _ hf hP hD hS (lv_sub hl [0, 1] rfl)
          · have hf := (if_neg c8).symm.trans hf
            refine lv_iconst (v := 1) hx hb dX1_takesDigit_37 (by decide) ?_
            refine lv_goto (tgt := 42) hx hb dX1_takesDigit_38 (by decide) ?_
            exact J42 1 v_digits v_value _ _ _ hf hP hD hS (lv_sub hl [0, 1] rfl)
    · have hf := (if_pos c2).symm.trans hf
      refine lv_iconst (v := 0) hx hb dX1_takesDigit_16 (by decide) ?_
      cases hf
      subst hQ
      exact k_rz hx hb hr hlocks hP hD hS (by decide) dX1_takesDigit_17

set_option maxHeartbeats 4000000 in
set_option maxRecDepth 100000 in
theorem tX1_endsSpeech (l : Launch) (D : va_G) (cI cJ cZ cB : ClassId) (a_this : Nat) (a_p2 : Nat) (n_p2 : Nat) (o_this_first : Value) (o_this_second : Value) (o_this_worth : Value) (o_this_winner : Value) (x1 : Int32) (v_phase : Int32) (v_digits : Int32) (v_suitsRead : Int32) (v_value : Int32) (v_p2 : Nat → Int32) (r0 : Int32) (w_phase : Int32) (w_digits : Int32) (w_value : Int32) (w_p2 : Nat → Int32) (hf : fX1_endsSpeech x1 v_phase v_digits v_suitsRead v_value v_p2 n_p2 = some (r0, w_phase, w_digits, w_value, w_p2)) : MW l yX1_endsSpeech wsX1_endsSpeech { frames := 1, cells := 0, slots := 0, locals := 22 } D cI cJ cZ cB [(a_this, .inr (1, [.int v_phase, .int v_digits, .int v_value, .int v_suitsRead, o_this_first, o_this_second, o_this_worth, o_this_winner])), (a_p2, .inl (cI, n_p2, .inl v_p2))] [.ref a_this, .int x1, .ref a_p2] (QWi D r0 [(a_this, .inr (1, [.int w_phase, .int w_digits, .int w_value, .int v_suitsRead, o_this_first, o_this_second, o_this_worth, o_this_winner])), (a_p2, .inl (cI, n_p2, .inl w_p2))]) := by
  refine k_body (cc := cX1_endsSpeech) (maxL := 3) (ret := (some .boolean)) (by decide) rfl (Nat.le_of_ble_eq_true rfl) ?_
  intro p e s m args below meth c hx hb hr hml hts hown hlocks hname hK A hA hP hD hS ls hl
  have hl : lv_has ls 3 [(0, .ref a_this), (1, .int x1), (2, .ref a_p2)] := hl
  generalize hQ : MQ below ((QWi D r0 [(a_this, .inr (1, [.int w_phase, .int w_digits, .int w_value, .int v_suitsRead, o_this_first, o_this_second, o_this_worth, o_this_winner])), (a_p2, .inl (cI, n_p2, .inl w_p2))]) A) args s 0 0 A = Q
  obtain ⟨H, hH⟩ : ∃ H, H = s.heap := ⟨_, rfl⟩
  obtain ⟨locs, hlo⟩ : ∃ z : List Loc, z = [] := ⟨_, rfl⟩
  have hP : va_P D vwCl [(a_this, .inr (1, [.int v_phase, .int v_digits, .int v_value, .int v_suitsRead, o_this_first, o_this_second, o_this_worth, o_this_winner])), (a_p2, .inl (cI, n_p2, .inl v_p2))] H := by rw [hH]; exact hP
  have hS : va_S A s.heap H locs := by rw [hH, hlo]; exact hS
  suffices hg : W p l e (headSpec wsX1_endsSpeech { frames := 1, cells := 0, slots := 0, locals := 22 }).room s m args below meth c H locs 0 0 Q (F0 m 0 ls []) by rw [hH, hlo] at hg; exact hg
  have l11 := hts (.fieldLink RX1 11 "CandleCourt$Reader" "phase" "I") (by decide +kernel)
  have l15 := hts (.fieldLink RX1 15 "CandleCourt$Reader" "digits" "I") (by decide +kernel)
  have l18 := hts (.fieldLink RX1 18 "CandleCourt$Reader" "value" "I") (by decide +kernel)
  have l21 := hts (.fieldLink RX1 21 "CandleCourt$Reader" "suitsRead" "I") (by decide +kernel)
  have iX1 : ∀ w ∈ wsX10, w ∈ wsX1_endsSpeech := by decide +kernel
  unfold fX1_endsSpeech at hf
  refine lv_aload_n hx hb dX1_endsSpeech_0 rfl (lv_at hl 0 rfl) ?_
  refine va_get (D := D) (ci := 1) (v := .int v_phase) (C := RX1) (T := TX1) (N := 8) hx hb hts iX1 hown hK.1 hP 0 rfl rfl 0 (by decide) l11 (fun _ h9 => h9) rfl dX1_endsSpeech_1 ?_
  refine lv_iload_n hx hb dX1_endsSpeech_4 rfl (lv_at hl 1 rfl) ?_
  refine lv_icmp_ne (tgt := 15) hx hb dX1_endsSpeech_5 (by decide) (fun c1 => ?_) (fun c1 => ?_)
  · have hf := (if_neg c1).symm.trans hf
    refine lv_iconst (v := 0) hx hb dX1_endsSpeech_15 (by decide) ?_
    cases hf
    subst hQ
    exact k_rz hx hb hr hlocks hP hD hS (by decide) dX1_endsSpeech_16
  · have hf := (if_pos c1).symm.trans hf
    refine lv_aload_n hx hb dX1_endsSpeech_8 rfl (lv_at hl 0 rfl) ?_
    refine va_get (D := D) (ci := 1) (v := .int v_digits) (C := RX1) (T := TX1) (N := 8) hx hb hts iX1 hown hK.1 hP 0 rfl rfl 1 (by decide) l15 (fun _ h9 => h9) rfl dX1_endsSpeech_9 ?_
    refine lv_if_ne (tgt := 17) hx hb dX1_endsSpeech_12 (by decide) (fun c2 => ?_) (fun c2 => ?_)
    · have hf := (if_neg c2).symm.trans hf
      refine lv_aload_n hx hb dX1_endsSpeech_17 rfl (lv_at hl 2 rfl) ?_
      refine lv_aload_n hx hb dX1_endsSpeech_18 rfl (lv_at hl 0 rfl) ?_
      refine va_get (D := D) (ci := 1) (v := .int v_suitsRead) (C := RX1) (T := TX1) (N := 8) hx hb hts iX1 hown hK.1 hP 0 rfl rfl 3 (by decide) l21 (fun _ h9 => h9) rfl dX1_endsSpeech_19 ?_
      refine lv_aload_n hx hb dX1_endsSpeech_22 rfl (lv_at hl 0 rfl) ?_
      refine va_get (D := D) (ci := 1) (v := .int v_value) (C := RX1) (T := TX1) (N := 8) hx hb hts iX1 hown hK.1 hP 0 rfl rfl 2 (by decide) l18 (fun _ h9 => h9) rfl dX1_endsSpeech_23 ?_
      obtain ⟨u3, hc4, hf⟩ := bnd1_some hf
      refine k_cv (wc := [(a_p2, .inl (cI, n_p2, .inl v_p2))]) (wr := [(a_this, .inr (1, [.int v_phase, .int v_digits, .int v_value, .int v_suitsRead, o_this_first, o_this_second, o_this_worth, o_this_winner]))]) (w1 := [(a_p2, .inl (cI, n_p2, .inl u3))]) (ws' := [(a_this, .inr (1, [.int v_phase, .int v_digits, .int v_value, .int v_suitsRead, o_this_first, o_this_second, o_this_worth, o_this_winner])), (a_p2, .inl (cI, n_p2, .inl u3))]) (va_runSN (As := [.ref a_p2, .int v_suitsRead, .int v_value]) (rest := []) ⟨hx, hb, hml, hown, hts⟩ (tX3_put l D cI cJ cZ cB a_p2 n_p2 v_suitsRead v_value v_p2 u3 hc4 H.size) ⟨va_cnB 3 hts gX1_endsSpeech_X3_put_n67 rfl rfl rfl hK.2.2.2.2.2.2.2.1 (hts (.initialized RX3) (by decide +kernel)) (by decide +kernel) ⟨Nat.le_of_ble_eq_true rfl, Nat.le_of_ble_eq_true rfl⟩, hts (.static yX3_put) (by decide +kernel), trivial⟩ (k_preS (is := [1]) hK hP hD rfl rfl) rfl rfl hl.1 rfl (lv_room (Nat.le_of_ble_eq_true rfl)) dX1_endsSpeech_26 ⟨Nat.zero_le _, Nat.zero_le _⟩) hP hD hS hA [1] [0] [0, 1] rfl rfl rfl (by decide) rfl rfl (fun H locs hP hD hS => ?_)
      refine lv_aload_n hx hb dX1_endsSpeech_29 rfl (lv_at hl 0 rfl) ?_
      refine lv_iload_n hx hb dX1_endsSpeech_30 rfl (lv_at hl 1 rfl) ?_
      refine lv_iconst (v := 1) hx hb dX1_endsSpeech_31 (by decide) ?_
      refine lv_iadd hx hb dX1_endsSpeech_32 ?_
      obtain ⟨u5, u6, u7, hc8, hf⟩ := bnd3_some hf
      refine k_cv (wc := [(a_this, .inr (1, [.int v_phase, .int v_digits, .int v_value, .int v_suitsRead, o_this_first, o_this_second, o_this_worth, o_this_winner]))]) (wr := [(a_p2, .inl (cI, n_p2, .inl u3))]) (w1 := [(a_this, .inr (1, [.int u5, .int u6, .int u7, .int v_suitsRead, o_this_first, o_this_second, o_this_worth, o_this_winner]))]) (ws' := [(a_this, .inr (1, [.int u5, .int u6, .int u7, .int v_suitsRead, o_this_first, o_this_second, o_this_worth, o_this_winner])), (a_p2, .inl (cI, n_p2, .inl u3))]) (va_runV (As := [.int (x1 + 1)]) (rest := []) ⟨hx, hb, hml, hown, hts⟩ (tX1_startNumber l D cI cJ cZ cB a_this (.int v_suitsRead) o_this_first o_this_second o_this_worth o_this_winner (x1 + 1) v_phase v_digits v_value u5 u6 u7 hc8 H.size) (cwV 1 hts gX1_endsSpeech_X1_startNumber rfl rfl rfl (by decide +kernel) ⟨Nat.le_of_ble_eq_true rfl, Nat.le_of_ble_eq_true rfl⟩) (k_preV (ci := 1) (q0 := 0) (is := [0]) hK hP hD rfl rfl rfl rfl) rfl rfl hl.1 rfl (lv_room (Nat.le_of_ble_eq_true rfl)) dX1_endsSpeech_33 ⟨Nat.zero_le _, Nat.zero_le _⟩) hP hD hS hA [0] [1] [1, 0] rfl rfl rfl (by decide) rfl rfl (fun H locs hP hD hS => ?_)
      refine lv_iconst (v := 1) hx hb dX1_endsSpeech_36 (by decide) ?_
      cases hf
      subst hQ
      exact k_rz hx hb hr hlocks hP hD hS (by decide) dX1_endsSpeech_37
    · have hf := (if_pos c2).symm.trans hf
      refine lv_iconst (v := 0) hx hb dX1_endsSpeech_15 (by decide) ?_
      cases hf
      subst hQ
      exact k_rz hx hb hr hlocks hP hD hS (by decide) dX1_endsSpeech_16

set_option maxHeartbeats 4000000 in
set_option maxRecDepth 100000 in
theorem tX1_endsSuit (l : Launch) (D : va_G) (cI cJ cZ cB : ClassId) (a_this : Nat) (a_worth : Nat) (a_winner : Nat) (o_this_first : Value) (o_this_second : Value) (x1 : Int32) (v_phase : Int32) (v_digits : Int32) (v_suitsRead : Int32) (v_value : Int32) (v_worth : Nat → Int32) (v_winner : Nat → Int32) (r0 : Int32) (w_phase : Int32) (w_suitsRead : Int32) (w_worth : Nat → Int32) (w_winner : Nat → Int32) (hf : fX1_endsSuit x1 v_phase v_digits v_suitsRead v_value v_worth v_winner = some (r0, w_phase, w_suitsRead, w_worth, w_winner)) : MW l yX1_endsSuit wsX1_endsSuit { frames := 1, cells := 0, slots := 0, locals := 22 } D cI cJ cZ cB [(a_this, .inr (1, [.int v_phase, .int v_digits, .int v_value, .int v_suitsRead, o_this_first, o_this_second, .ref a_worth, .ref a_winner])), (a_worth, .inl (cI, 6, .inl v_worth)), (a_winner, .inl (cI, 6, .inl v_winner))] [.ref a_this, .int x1] (QWi D r0 [(a_this, .inr (1, [.int w_phase, .int v_digits, .int v_value, .int w_suitsRead, o_this_first, o_this_second, .ref a_worth, .ref a_winner])), (a_worth, .inl (cI, 6, .inl w_worth)), (a_winner, .inl (cI, 6, .inl w_winner))]) := by
  refine k_body (cc := cX1_endsSuit) (maxL := 2) (ret := (some .boolean)) (by decide) rfl (Nat.le_of_ble_eq_true rfl) ?_
  intro p e s m args below meth c hx hb hr hml hts hown hlocks hname hK A hA hP hD hS ls hl
  have hl : lv_has ls 2 [(0, .ref a_this), (1, .int x1)] := hl
  generalize hQ : MQ below ((QWi D r0 [(a_this, .inr (1, [.int w_phase, .int v_digits, .int v_value, .int w_suitsRead, o_this_first, o_this_second, .ref a_worth, .ref a_winner])), (a_worth, .inl (cI, 6, .inl w_worth)), (a_winner, .inl (cI, 6, .inl w_winner))]) A) args s 0 0 A = Q
  obtain ⟨H, hH⟩ : ∃ H, H = s.heap := ⟨_, rfl⟩
  obtain ⟨locs, hlo⟩ : ∃ z : List Loc, z = [] := ⟨_, rfl⟩
  have hP : va_P D vwCl [(a_this, .inr (1, [.int v_phase, .int v_digits, .int v_value, .int v_suitsRead, o_this_first, o_this_second, .ref a_worth, .ref a_winner])), (a_worth, .inl (cI, 6, .inl v_worth)), (a_winner, .inl (cI, 6, .inl v_winner))] H := by rw [hH]; exact hP
  have hS : va_S A s.heap H locs := by rw [hH, hlo]; exact hS
  suffices hg : W p l e (headSpec wsX1_endsSuit { frames := 1, cells := 0, slots := 0, locals := 22 }).room s m args below meth c H locs 0 0 Q (F0 m 0 ls []) by rw [hH, hlo] at hg; exact hg
  have l11 := hts (.fieldLink RX1 11 "CandleCourt$Reader" "phase" "I") (by decide +kernel)
  have l15 := hts (.fieldLink RX1 15 "CandleCourt$Reader" "digits" "I") (by decide +kernel)
  have l18 := hts (.fieldLink RX1 18 "CandleCourt$Reader" "value" "I") (by decide +kernel)
  have l21 := hts (.fieldLink RX1 21 "CandleCourt$Reader" "suitsRead" "I") (by decide +kernel)
  have l31 := hts (.fieldLink RX1 31 "CandleCourt$Reader" "worth" "[I") (by decide +kernel)
  have l34 := hts (.fieldLink RX1 34 "CandleCourt$Reader" "winner" "[I") (by decide +kernel)
  have iX1 : ∀ w ∈ wsX10, w ∈ wsX1_endsSuit := by decide +kernel
  unfold fX1_endsSuit at hf
  refine lv_aload_n hx hb dX1_endsSuit_0 rfl (lv_at hl 0 rfl) ?_
  refine va_get (D := D) (ci := 1) (v := .int v_phase) (C := RX1) (T := TX1) (N := 8) hx hb hts iX1 hown hK.1 hP 0 rfl rfl 0 (by decide) l11 (fun _ h9 => h9) rfl dX1_endsSuit_1 ?_
  refine lv_iconst (v := 2) hx hb dX1_endsSuit_4 (by decide) ?_
  refine lv_icmp_ne (tgt := 15) hx hb dX1_endsSuit_5 (by decide) (fun c1 => ?_) (fun c1 => ?_)
  · have hf := (if_neg c1).symm.trans hf
    refine lv_iconst (v := 0) hx hb dX1_endsSuit_15 (by decide) ?_
    cases hf
    subst hQ
    exact k_rz hx hb hr hlocks hP hD hS (by decide) dX1_endsSuit_16
  · have hf := (if_pos c1).symm.trans hf
    refine lv_aload_n hx hb dX1_endsSuit_8 rfl (lv_at hl 0 rfl) ?_
    refine va_get (D := D) (ci := 1) (v := .int v_digits) (C := RX1) (T := TX1) (N := 8) hx hb hts iX1 hown hK.1 hP 0 rfl rfl 1 (by decide) l15 (fun _ h9 => h9) rfl dX1_endsSuit_9 ?_
    refine lv_if_ne (tgt := 17) hx hb dX1_endsSuit_12 (by decide) (fun c2 => ?_) (fun c2 => ?_)
    · have hf := (if_neg c2).symm.trans hf
      refine lv_aload_n hx hb dX1_endsSuit_17 rfl (lv_at hl 0 rfl) ?_
      refine va_get (D := D) (ci := 1) (v := .ref a_worth) (C := RX1) (T := TX1) (N := 8) hx hb hts iX1 hown hK.1 hP 0 rfl rfl 6 (by decide) l31 (fun _ h9 => h9) rfl dX1_endsSuit_18 ?_
      refine lv_aload_n hx hb dX1_endsSuit_21 rfl (lv_at hl 0 rfl) ?_
      refine va_get (D := D) (ci := 1) (v := .int v_suitsRead) (C := RX1) (T := TX1) (N := 8) hx hb hts iX1 hown hK.1 hP 0 rfl rfl 3 (by decide) l21 (fun _ h9 => h9) rfl dX1_endsSuit_22 ?_
      refine lv_aload_n hx hb dX1_endsSuit_25 rfl (lv_at hl 0 rfl) ?_
      refine va_get (D := D) (ci := 1) (v := .int v_value) (C := RX1) (T := TX1) (N := 8) hx hb hts iX1 hown hK.1 hP 0 rfl rfl 2 (by decide) l18 (fun _ h9 => h9) rfl dX1_endsSuit_26 ?_
      obtain ⟨u3, hc4, hf⟩ := bnd1_some hf
      refine k_cv (wc := [(a_worth, .inl (cI, 6, .inl v_worth))]) (wr := [(a_this, .inr (1, [.int v_phase, .int v_digits, .int v_value, .int v_suitsRead, o_this_first, o_this_second, .ref a_worth, .ref a_winner])), (a_winner, .inl (cI, 6, .inl v_winner))]) (w1 := [(a_worth, .inl (cI, 6, .inl u3))]) (ws' := [(a_this, .inr (1, [.int v_phase, .int v_digits, .int v_value, .int v_suitsRead, o_this_first, o_this_second, .ref a_worth, .ref a_winner])), (a_worth, .inl (cI, 6, .inl u3)), (a_winner, .inl (cI, 6, .inl v_winner))]) (va_runSN (As := [.ref a_worth, .int v_suitsRead, .int v_value]) (rest := []) ⟨hx, hb, hml, hown, hts⟩ (tX3_put l D cI cJ cZ cB a_worth 6 v_suitsRead v_value v_worth u3 hc4 H.size) ⟨va_cnB 3 hts gX1_endsSuit_X3_put_n67 rfl rfl rfl hK.2.2.2.2.2.2.2.1 (hts (.initialized RX3) (by decide +kernel)) (by decide +kernel) ⟨Nat.le_of_ble_eq_true rfl, Nat.le_of_ble_eq_true rfl⟩, hts (.static yX3_put) (by decide +kernel), trivial⟩ (k_preS (is := [1]) hK hP hD rfl rfl) rfl rfl hl.1 rfl (lv_room (Nat.le_of_ble_eq_true rfl)) dX1_endsSuit_29 ⟨Nat.zero_le _, Nat.zero_le _⟩) hP hD hS hA [1] [0, 2] [0, 2, 1] rfl rfl rfl (by decide) rfl rfl (fun H locs hP hD hS => ?_)
      refine lv_aload_n hx hb dX1_endsSuit_32 rfl (lv_at hl 0 rfl) ?_
      refine va_get (D := D) (ci := 1) (v := .ref a_winner) (C := RX1) (T := TX1) (N := 8) hx hb hts iX1 hown hK.1 hP 0 rfl rfl 7 (by decide) l34 (fun _ h9 => h9) rfl dX1_endsSuit_33 ?_
      refine lv_aload_n hx hb dX1_endsSuit_36 rfl (lv_at hl 0 rfl) ?_
      refine va_get (D := D) (ci := 1) (v := .int v_suitsRead) (C := RX1) (T := TX1) (N := 8) hx hb hts iX1 hown hK.1 hP 0 rfl rfl 3 (by decide) l21 (fun _ h9 => h9) rfl dX1_endsSuit_37 ?_
      refine lv_iload_n hx hb dX1_endsSuit_40 rfl (lv_at hl 1 rfl) ?_
      obtain ⟨u5, hc6, hf⟩ := bnd1_some hf
      refine k_cv (wc := [(a_winner, .inl (cI, 6, .inl v_winner))]) (wr := [(a_this, .inr (1, [.int v_phase, .int v_digits, .int v_value, .int v_suitsRead, o_this_first, o_this_second, .ref a_worth, .ref a_winner])), (a_worth, .inl (cI, 6, .inl u3))]) (w1 := [(a_winner, .inl (cI, 6, .inl u5))]) (ws' := [(a_this, .inr (1, [.int v_phase, .int v_digits, .int v_value, .int v_suitsRead, o_this_first, o_this_second, .ref a_worth, .ref a_winner])), (a_worth, .inl (cI, 6, .inl u3)), (a_winner, .inl (cI, 6, .inl u5))]) (va_runSN (As := [.ref a_winner, .int v_suitsRead, .int x1]) (rest := []) ⟨hx, hb, hml, hown, hts⟩ (tX3_put l D cI cJ cZ cB a_winner 6 v_suitsRead x1 v_winner u5 hc6 H.size) ⟨va_cnB 3 hts gX1_endsSuit_X3_put_n67 rfl rfl rfl hK.2.2.2.2.2.2.2.1 (hts (.initialized RX3) (by decide +kernel)) (by decide +kernel) ⟨Nat.le_of_ble_eq_true rfl, Nat.le_of_ble_eq_true rfl⟩, hts (.static yX3_put) (by decide +kernel), trivial⟩ (k_preS (is := [2]) hK hP hD rfl rfl) rfl rfl hl.1 rfl (lv_room (Nat.le_of_ble_eq_true rfl)) dX1_endsSuit_41 ⟨Nat.zero_le _, Nat.zero_le _⟩) hP hD hS hA [2] [0, 1] [0, 1, 2] rfl rfl rfl (by decide) rfl rfl (fun H locs hP hD hS => ?_)
      refine lv_aload_n hx hb dX1_endsSuit_44 rfl (lv_at hl 0 rfl) ?_
      refine lv_dup hx hb dX1_endsSuit_45 rfl ?_
      refine va_get (D := D) (ci := 1) (v := .int v_suitsRead) (C := RX1) (T := TX1) (N := 8) hx hb hts iX1 hown hK.1 hP 0 rfl rfl 3 (by decide) l21 (fun _ h9 => h9) rfl dX1_endsSuit_46 ?_
      refine lv_iconst (v := 1) hx hb dX1_endsSuit_49 (by decide) ?_
      refine lv_iadd hx hb dX1_endsSuit_50 ?_
      refine va_put (D := D) (ci := 1) (v := .int (v_suitsRead + 1)) (ty := .int) (C := RX1) (T := TX1) (N := 8) hx hb hts iX1 tyX1 tyX1_ok nmX1 hown hK.1 hP hD hS 0 rfl rfl 3 (by decide) l21 (fun _ h9 => h9) rfl (by decide +kernel) rfl rfl (Nat.le_of_ble_eq_true rfl) dX1_endsSuit_51 (fun H locs hP hD hS => ?_)
      have hP : va_P D vwCl [(a_this, .inr (1, [.int v_phase, .int v_digits, .int v_value, .int (v_suitsRead + 1), o_this_first, o_this_second, .ref a_worth, .ref a_winner])), (a_worth, .inl (cI, 6, .inl u3)), (a_winner, .inl (cI, 6, .inl u5))] H := hP
      have hD : va_D A [(a_this, .inr (1, [.int v_phase, .int v_digits, .int v_value, .int (v_suitsRead + 1), o_this_first, o_this_second, .ref a_worth, .ref a_winner])), (a_worth, .inl (cI, 6, .inl u3)), (a_winner, .inl (cI, 6, .inl u5))] := hD
      refine lv_aload_n hx hb dX1_endsSuit_54 rfl (lv_at hl 0 rfl) ?_
      refine lv_iconst (v := 3) hx hb dX1_endsSuit_55 (by decide) ?_
      refine va_put (D := D) (ci := 1) (v := .int 3) (ty := .int) (C := RX1) (T := TX1) (N := 8) hx hb hts iX1 tyX1 tyX1_ok nmX1 hown hK.1 hP hD hS 0 rfl rfl 0 (by decide) l11 (fun _ h9 => h9) rfl (by decide +kernel) rfl rfl (Nat.le_of_ble_eq_true rfl) dX1_endsSuit_56 (fun H locs hP hD hS => ?_)
      have hP : va_P D vwCl [(a_this, .inr (1, [.int 3, .int v_digits, .int v_value, .int (v_suitsRead + 1), o_this_first, o_this_second, .ref a_worth, .ref a_winner])), (a_worth, .inl (cI, 6, .inl u3)), (a_winner, .inl (cI, 6, .inl u5))] H := hP
      have hD : va_D A [(a_this, .inr (1, [.int 3, .int v_digits, .int v_value, .int (v_suitsRead + 1), o_this_first, o_this_second, .ref a_worth, .ref a_winner])), (a_worth, .inl (cI, 6, .inl u3)), (a_winner, .inl (cI, 6, .inl u5))] := hD
      refine lv_iconst (v := 1) hx hb dX1_endsSuit_59 (by decide) ?_
      cases hf
      subst hQ
      exact k_rz hx hb hr hlocks hP hD hS (by decide) dX1_endsSuit_60
    · have hf := (if_pos c2).symm.trans hf
      refine lv_iconst (v := 0) hx hb dX1_endsSuit_15 (by decide) ?_
      cases hf
      subst hQ
      exact k_rz hx hb hr hlocks hP hD hS (by decide) dX1_endsSuit_16

set_option maxHeartbeats 4000000 in
set_option maxRecDepth 100000 in
theorem tX1_startsSuit (l : Launch) (D : va_G) (cI cJ cZ cB : ClassId) (a_this : Nat) (o_this_first : Value) (o_this_second : Value) (o_this_worth : Value) (o_this_winner : Value) (v_phase : Int32) (v_suitsRead : Int32) (v_digits : Int32) (v_value : Int32) (r0 : Int32) (w_phase : Int32) (w_digits : Int32) (w_value : Int32) (hf : fX1_startsSuit v_phase v_suitsRead v_digits v_value = some (r0, w_phase, w_digits, w_value)) : MW l yX1_startsSuit wsX1_startsSuit { frames := 1, cells := 0, slots := 0, locals := 21 } D cI cJ cZ cB [(a_this, .inr (1, [.int v_phase, .int v_digits, .int v_value, .int v_suitsRead, o_this_first, o_this_second, o_this_worth, o_this_winner]))] [.ref a_this] (QWi D r0 [(a_this, .inr (1, [.int w_phase, .int w_digits, .int w_value, .int v_suitsRead, o_this_first, o_this_second, o_this_worth, o_this_winner]))]) := by
  refine k_body (cc := cX1_startsSuit) (maxL := 1) (ret := (some .boolean)) (by decide) rfl (Nat.le_of_ble_eq_true rfl) ?_
  intro p e s m args below meth c hx hb hr hml hts hown hlocks hname hK A hA hP hD hS ls hl
  have hl : lv_has ls 1 [(0, .ref a_this)] := hl
  generalize hQ : MQ below ((QWi D r0 [(a_this, .inr (1, [.int w_phase, .int w_digits, .int w_value, .int v_suitsRead, o_this_first, o_this_second, o_this_worth, o_this_winner]))]) A) args s 0 0 A = Q
  obtain ⟨H, hH⟩ : ∃ H, H = s.heap := ⟨_, rfl⟩
  obtain ⟨locs, hlo⟩ : ∃ z : List Loc, z = [] := ⟨_, rfl⟩
  have hP : va_P D vwCl [(a_this, .inr (1, [.int v_phase, .int v_digits, .int v_value, .int v_suitsRead, o_this_first, o_this_second, o_this_worth, o_this_winner]))] H := by rw [hH]; exact hP
  have hS : va_S A s.heap H locs := by rw [hH, hlo]; exact hS
  suffices hg : W p l e (headSpec wsX1_startsSuit { frames := 1, cells := 0, slots := 0, locals := 21 }).room s m args below meth c H locs 0 0 Q (F0 m 0 ls []) by rw [hH, hlo] at hg; exact hg
  have l11 := hts (.fieldLink RX1 11 "CandleCourt$Reader" "phase" "I") (by decide +kernel)
  have l21 := hts (.fieldLink RX1 21 "CandleCourt$Reader" "suitsRead" "I") (by decide +kernel)
  have iX1 : ∀ w ∈ wsX10, w ∈ wsX1_startsSuit := by decide +kernel
  unfold fX1_startsSuit at hf
  refine lv_aload_n hx hb dX1_startsSuit_0 rfl (lv_at hl 0 rfl) ?_
  refine va_get (D := D) (ci := 1) (v := .int v_phase) (C := RX1) (T := TX1) (N := 8) hx hb hts iX1 hown hK.1 hP 0 rfl rfl 0 (by decide) l11 (fun _ h9 => h9) rfl dX1_startsSuit_1 ?_
  refine lv_iconst (v := 3) hx hb dX1_startsSuit_4 (by decide) ?_
  refine lv_icmp_ne (tgt := 17) hx hb dX1_startsSuit_5 (by decide) (fun c1 => ?_) (fun c1 => ?_)
  · have hf := (if_neg c1).symm.trans hf
    refine lv_iconst (v := 0) hx hb dX1_startsSuit_17 (by decide) ?_
    cases hf
    subst hQ
    exact k_rz hx hb hr hlocks hP hD hS (by decide) dX1_startsSuit_18
  · have hf := (if_pos c1).symm.trans hf
    refine lv_aload_n hx hb dX1_startsSuit_8 rfl (lv_at hl 0 rfl) ?_
    refine va_get (D := D) (ci := 1) (v := .int v_suitsRead) (C := RX1) (T := TX1) (N := 8) hx hb hts iX1 hown hK.1 hP 0 rfl rfl 3 (by decide) l21 (fun _ h9 => h9) rfl dX1_startsSuit_9 ?_
    refine lv_bipush (v := 6) hx hb dX1_startsSuit_12 (by decide) ?_
    refine lv_icmp_lt (tgt := 19) hx hb dX1_startsSuit_14 (by decide) (fun c2 => ?_) (fun c2 => ?_)
    · have hf := (if_pos c2).symm.trans hf
      refine lv_aload_n hx hb dX1_startsSuit_19 rfl (lv_at hl 0 rfl) ?_
      refine lv_iconst (v := 0) hx hb dX1_startsSuit_20 (by decide) ?_
      obtain ⟨u3, u4, u5, hc6, hf⟩ := bnd3_some hf
      refine k_cv (wc := [(a_this, .inr (1, [.int v_phase, .int v_digits, .int v_value, .int v_suitsRead, o_this_first, o_this_second, o_this_worth, o_this_winner]))]) (wr := []) (w1 := [(a_this, .inr (1, [.int u3, .int u4, .int u5, .int v_suitsRead, o_this_first, o_this_second, o_this_worth, o_this_winner]))]) (ws' := [(a_this, .inr (1, [.int u3, .int u4, .int u5, .int v_suitsRead, o_this_first, o_this_second, o_this_worth, o_this_winner]))]) (va_runV (As := [.int 0]) (rest := []) ⟨hx, hb, hml, hown, hts⟩ (tX1_startNumber l D cI cJ cZ cB a_this (.int v_suitsRead) o_this_first o_this_second o_this_worth o_this_winner 0 v_phase v_digits v_value u3 u4 u5 hc6 H.size) (cwV 1 hts gX1_startsSuit_X1_startNumber rfl rfl rfl (by decide +kernel) ⟨Nat.le_of_ble_eq_true rfl, Nat.le_of_ble_eq_true rfl⟩) (k_preV (ci := 1) (q0 := 0) (is := [0]) hK hP hD rfl rfl rfl rfl) rfl rfl hl.1 rfl (lv_room (Nat.le_of_ble_eq_true rfl)) dX1_startsSuit_21 ⟨Nat.zero_le _, Nat.zero_le _⟩) hP hD hS hA [0] [] [0] rfl rfl rfl (by decide) rfl rfl (fun H locs hP hD hS => ?_)
      refine lv_iconst (v := 1) hx hb dX1_startsSuit_24 (by decide) ?_
      cases hf
      subst hQ
      exact k_rz hx hb hr hlocks hP hD hS (by decide) dX1_startsSuit_25
    · have hf := (if_neg c2).symm.trans hf
      refine lv_iconst (v := 0) hx hb dX1_startsSuit_17 (by decide) ?_
      cases hf
      subst hQ
      exact k_rz hx hb hr hlocks hP hD hS (by decide) dX1_startsSuit_18

set_option maxHeartbeats 4000000 in
set_option maxRecDepth 100000 in
theorem tX1_takes (l : Launch) (D : va_G) (cI cJ cZ cB : ClassId) (a_this : Nat) (a_worth : Nat) (a_winner : Nat) (a_second : Nat) (a_first : Nat) (x1 : Int32) (v_phase : Int32) (v_digits : Int32) (v_value : Int32) (v_suitsRead : Int32) (v_worth : Nat → Int32) (v_winner : Nat → Int32) (v_second : Nat → Int32) (v_first : Nat → Int32) (r0 : Int32) (w_phase : Int32) (w_digits : Int32) (w_value : Int32) (w_suitsRead : Int32) (w_worth : Nat → Int32) (w_winner : Nat → Int32) (w_second : Nat → Int32) (w_first : Nat → Int32) (hf : fX1_takes x1 v_phase v_digits v_value v_suitsRead v_worth v_winner v_second v_first = some (r0, w_phase, w_digits, w_value, w_suitsRead, w_worth, w_winner, w_second, w_first)) : MW l yX1_takes wsX1_takes { frames := 2, cells := 0, slots := 0, locals := 44 } D cI cJ cZ cB [(a_this, .inr (1, [.int v_phase, .int v_digits, .int v_value, .int v_suitsRead, .ref a_first, .ref a_second, .ref a_worth, .ref a_winner])), (a_worth, .inl (cI, 6, .inl v_worth)), (a_winner, .inl (cI, 6, .inl v_winner)), (a_second, .inl (cI, 6, .inl v_second)), (a_first, .inl (cI, 6, .inl v_first))] [.ref a_this, .int x1] (QWi D r0 [(a_this, .inr (1, [.int w_phase, .int w_digits, .int w_value, .int w_suitsRead, .ref a_first, .ref a_second, .ref a_worth, .ref a_winner])), (a_worth, .inl (cI, 6, .inl w_worth)), (a_winner, .inl (cI, 6, .inl w_winner)), (a_second, .inl (cI, 6, .inl w_second)), (a_first, .inl (cI, 6, .inl w_first))]) := by
  refine k_body (cc := cX1_takes) (maxL := 2) (ret := (some .boolean)) (by decide) rfl (Nat.le_of_ble_eq_true rfl) ?_
  intro p e s m args below meth c hx hb hr hml hts hown hlocks hname hK A hA hP hD hS ls hl
  have hl : lv_has ls 2 [(0, .ref a_this), (1, .int x1)] := hl
  generalize hQ : MQ below ((QWi D r0 [(a_this, .inr (1, [.int w_phase, .int w_digits, .int w_value, .int w_suitsRead, .ref a_first, .ref a_second, .ref a_worth, .ref a_winner])), (a_worth, .inl (cI, 6, .inl w_worth)), (a_winner, .inl (cI, 6, .inl w_winner)), (a_second, .inl (cI, 6, .inl w_second)), (a_first, .inl (cI, 6, .inl w_first))]) A) args s 0 0 A = Q
  obtain ⟨H, hH⟩ : ∃ H, H = s.heap := ⟨_, rfl⟩
  obtain ⟨locs, hlo⟩ : ∃ z : List Loc, z = [] := ⟨_, rfl⟩
  have hP : va_P D vwCl [(a_this, .inr (1, [.int v_phase, .int v_digits, .int v_value, .int v_suitsRead, .ref a_first, .ref a_second, .ref a_worth, .ref a_winner])), (a_worth, .inl (cI, 6, .inl v_worth)), (a_winner, .inl (cI, 6, .inl v_winner)), (a_second, .inl (cI, 6, .inl v_second)), (a_first, .inl (cI, 6, .inl v_first))] H := by rw [hH]; exact hP
  have hS : va_S A s.heap H locs := by rw [hH, hlo]; exact hS
  suffices hg : W p l e (headSpec wsX1_takes { frames := 2, cells := 0, slots := 0, locals := 44 }).room s m args below meth c H locs 0 0 Q (F0 m 0 ls []) by rw [hH, hlo] at hg; exact hg
  have l24 := hts (.fieldLink RX1 24 "CandleCourt$Reader" "first" "[I") (by decide +kernel)
  have l28 := hts (.fieldLink RX1 28 "CandleCourt$Reader" "second" "[I") (by decide +kernel)
  have iX1 : ∀ w ∈ wsX10, w ∈ wsX1_takes := by decide +kernel
  unfold fX1_takes at hf
  refine lv_iload_n hx hb dX1_takes_0 rfl (lv_at hl 1 rfl) ?_
  refine lv_bipush (v := 48) hx hb dX1_takes_1 (by decide) ?_
  refine lv_bipush (v := 57) hx hb dX1_takes_3 (by decide) ?_
  obtain ⟨r1, hc2, hf⟩ := bnd1_some hf
  refine k_ci (wc := []) (wr := [(a_this, .inr (1, [.int v_phase, .int v_digits, .int v_value, .int v_suitsRead, .ref a_first, .ref a_second, .ref a_worth, .ref a_winner])), (a_worth, .inl (cI, 6, .inl v_worth)), (a_winner, .inl (cI, 6, .inl v_winner)), (a_second, .inl (cI, 6, .inl v_second)), (a_first, .inl (cI, 6, .inl v_first))]) (w1 := []) (ws' := [(a_this, .inr (1, [.int v_phase, .int v_digits, .int v_value, .int v_suitsRead, .ref a_first, .ref a_second, .ref a_worth, .ref a_winner])), (a_worth, .inl (cI, 6, .inl v_worth)), (a_winner, .inl (cI, 6, .inl v_winner)), (a_second, .inl (cI, 6, .inl v_second)), (a_first, .inl (cI, 6, .inl v_first))]) (va_runSN (As := [.int x1, .int 48, .int 57]) (rest := []) ⟨hx, hb, hml, hown, hts⟩ (tX3_within l D cI cJ cZ cB x1 48 57 r1 hc2 H.size) ⟨va_cnB 3 hts gX1_takes_X3_within_n49 rfl rfl rfl hK.2.2.2.2.2.2.1 (hts (.initialized RX3) (by decide +kernel)) (by decide +kernel) ⟨Nat.le_of_ble_eq_true rfl, Nat.le_of_ble_eq_true rfl⟩, hts (.static yX3_within) (by decide +kernel), trivial⟩ (k_preS (is := []) hK hP hD rfl rfl) rfl rfl hl.1 rfl (lv_room (Nat.le_of_ble_eq_true rfl)) dX1_takes_5 ⟨Nat.zero_le _, Nat.zero_le _⟩) hP hD hS hA [] [0, 1, 2, 3, 4] [0, 1, 2, 3, 4] rfl rfl rfl (by decide) rfl rfl (fun H locs hP hD hS => ?_)
  refine lv_if_eq (tgt := 20) hx hb dX1_takes_8 (by decide) (fun c3 => ?_) (fun c3 => ?_)
  · have hf := (if_pos c3).symm.trans hf
    refine lv_iload_n hx hb dX1_takes_20 rfl (lv_at hl 1 rfl) ?_
    by_cases c4 : (x1 : Int32) = 43
    · have hf := (if_pos c4).symm.trans hf
      refine lv_lookup (off := 51) (tgt := 72) hx hb dX1_takes_21 (by decide) (by rw [c4]; rfl) (by decide) ?_
      refine lv_aload_n hx hb dX1_takes_72 rfl (lv_at hl 0 rfl) ?_
      refine lv_iconst (v := 0) hx hb dX1_takes_73 (by decide) ?_
      refine lv_aload_n hx hb dX1_takes_74 rfl (lv_at hl 0 rfl) ?_
      refine va_get (D := D) (ci := 1) (v := .ref a_first) (C := RX1) (T := TX1) (N := 8) hx hb hts iX1 hown hK.1 hP 0 rfl rfl 4 (by decide) l24 (fun _ h9 => h9) rfl dX1_takes_75 ?_
      obtain ⟨r5, u6, u7, u8, u9, hc10, hf⟩ := bnd5_some hf
      refine k_ci (wc := [(a_this, .inr (1, [.int v_phase, .int v_digits, .int v_value, .int v_suitsRead, .ref a_first, .ref a_second, .ref a_worth, .ref a_winner])), (a_first, .inl (cI, 6, .inl v_first))]) (wr := [(a_worth, .inl (cI, 6, .inl v_worth)), (a_winner, .inl (cI, 6, .inl v_winner)), (a_second, .inl (cI, 6, .inl v_second))]) (w1 := [(a_this, .inr (1, [.int u6, .int u7, .int u8, .int v_suitsRead, .ref a_first, .ref a_second, .ref a_worth, .ref a_winner])), (a_first, .inl (cI, 6, .inl u9))]) (ws' := [(a_this, .inr (1, [.int u6, .int u7, .int u8, .int v_suitsRead, .ref a_first, .ref a_second, .ref a_worth, .ref a_winner])), (a_worth, .inl (cI, 6, .inl v_worth)), (a_winner, .inl (cI, 6, .inl v_winner)), (a_second, .inl (cI, 6, .inl v_second)), (a_first, .inl (cI, 6, .inl u9))]) (va_runV (As := [.int 0, .ref a_first]) (rest := []) ⟨hx, hb, hml, hown, hts⟩ (tX1_endsSpeech l D cI cJ cZ cB a_this a_first 6 (.ref a_first) (.ref a_second) (.ref a_worth) (.ref a_winner) 0 v_phase v_digits v_suitsRead v_value v_first r5 u6 u7 u8 u9 hc10 H.size) (cwV 2 hts gX1_takes_X1_endsSpeech rfl rfl rfl (by decide +kernel) ⟨Nat.le_of_ble_eq_true rfl, Nat.le_of_ble_eq_true rfl⟩) (k_preV (ci := 1) (q0 := 0) (is := [0, 4]) hK hP hD rfl rfl rfl rfl) rfl rfl hl.1 rfl (lv_room (Nat.le_of_ble_eq_true rfl)) dX1_takes_78 ⟨Nat.zero_le _, Nat.zero_le _⟩) hP hD hS hA [0, 4] [1, 2, 3] [3, 0, 1, 2, 4] rfl rfl rfl (by decide) rfl rfl (fun H locs hP hD hS => ?_)
      obtain ⟨hnar, hf⟩ := gd_some hf
      cases hf
      subst hQ
      exact k_rz hx hb hr hlocks hP hD hS hnar dX1_takes_81
    have hf := (if_neg c4).symm.trans hf
    by_cases c11 : (x1 : Int32) = 59
    · have hf := (if_pos c11).symm.trans hf
      refine lv_lookup (off := 83) (tgt := 104) hx hb dX1_takes_21 (by decide) (by rw [c11]; rfl) (by decide) ?_
      refine lv_aload_n hx hb dX1_takes_104 rfl (lv_at hl 0 rfl) ?_
      obtain ⟨r12, u13, u14, u15, hc16, hf⟩ := bnd4_some hf
      refine k_ci (wc := [(a_this, .inr (1, [.int v_phase, .int v_digits, .int v_value, .int v_suitsRead, .ref a_first, .ref a_second, .ref a_worth, .ref a_winner]))]) (wr := [(a_worth, .inl (cI, 6, .inl v_worth)), (a_winner, .inl (cI, 6, .inl v_winner)), (a_second, .inl (cI, 6, .inl v_second)), (a_first, .inl (cI, 6, .inl v_first))]) (w1 := [(a_this, .inr (1, [.int u13, .int u14, .int u15, .int v_suitsRead, .ref a_first, .ref a_second, .ref a_worth, .ref a_winner]))]) (ws' := [(a_this, .inr (1, [.int u13, .int u14, .int u15, .int v_suitsRead, .ref a_first, .ref a_second, .ref a_worth, .ref a_winner])), (a_worth, .inl (cI, 6, .inl v_worth)), (a_winner, .inl (cI, 6, .inl v_winner)), (a_second, .inl (cI, 6, .inl v_second)), (a_first, .inl (cI, 6, .inl v_first))]) (va_runV (As := []) (rest := []) ⟨hx, hb, hml, hown, hts⟩ (tX1_startsSuit l D cI cJ cZ cB a_this (.ref a_first) (.ref a_second) (.ref a_worth) (.ref a_winner) v_phase v_suitsRead v_digits v_value r12 u13 u14 u15 hc16 H.size) (cwV 0 hts gX1_takes_X1_startsSuit rfl rfl rfl (by decide +kernel) ⟨Nat.le_of_ble_eq_true rfl, Nat.le_of_ble_eq_true rfl⟩) (k_preV (ci := 1) (q0 := 0) (is := [0]) hK hP hD rfl rfl rfl rfl) rfl rfl hl.1 rfl (lv_room (Nat.le_of_ble_eq_true rfl)) dX1_takes_105 ⟨Nat.zero_le _, Nat.zero_le _⟩) hP hD hS hA [0] [1, 2, 3, 4] [4, 0, 1, 2, 3] rfl rfl rfl (by decide) rfl rfl (fun H locs hP hD hS => ?_)
      obtain ⟨hnar, hf⟩ := gd_some hf
      cases hf
      subst hQ
      exact k_rz hx hb hr hlocks hP hD hS hnar dX1_takes_108
    have hf := (if_neg c11).symm.trans hf
    by_cases c17 : (x1 : Int32) = 61
    · have hf := (if_pos c17).symm.trans hf
      refine lv_lookup (off := 61) (tgt := 82) hx hb dX1_takes_21 (by decide) (by rw [c17]; rfl) (by decide) ?_
      refine lv_aload_n hx hb dX1_takes_82 rfl (lv_at hl 0 rfl) ?_
      refine lv_iconst (v := 1) hx hb dX1_takes_83 (by decide) ?_
      refine lv_aload_n hx hb dX1_takes_84 rfl (lv_at hl 0 rfl) ?_
      refine va_get (D := D) (ci := 1) (v := .ref a_second) (C := RX1) (T := TX1) (N := 8) hx hb hts iX1 hown hK.1 hP 0 rfl rfl 5 (by decide) l28 (fun _ h9 => h9) rfl dX1_takes_85 ?_
      obtain ⟨r18, u19, u20, u21, u22, hc23, hf⟩ := bnd5_some hf
      refine k_ci (wc := [(a_this, .inr (1, [.int v_phase, .int v_digits, .int v_value, .int v_suitsRead, .ref a_first, .ref a_second, .ref a_worth, .ref a_winner])), (a_second, .inl (cI, 6, .inl v_second))]) (wr := [(a_worth, .inl (cI, 6, .inl v_worth)), (a_winner, .inl (cI, 6, .inl v_winner)), (a_first, .inl (cI, 6, .inl v_first))]) (w1 := [(a_this, .inr (1, [.int u19, .int u20, .int u21, .int v_suitsRead, .ref a_first, .ref a_second, .ref a_worth, .ref a_winner])), (a_second, .inl (cI, 6, .inl u22))]) (ws' := [(a_this, .inr (1, [.int u19, .int u20, .int u21, .int v_suitsRead, .ref a_first, .ref a_second, .ref a_worth, .ref a_winner])), (a_worth, .inl (cI, 6, .inl v_worth)), (a_winner, .inl (cI, 6, .inl v_winner)), (a_second, .inl (cI, 6, .inl u22)), (a_first, .inl (cI, 6, .inl v_first))]) (va_runV (As := [.int 1, .ref a_second]) (rest := []) ⟨hx, hb, hml, hown, hts⟩ (tX1_endsSpeech l D cI cJ cZ cB a_this a_second 6 (.ref a_first) (.ref a_second) (.ref a_worth) (.ref a_winner) 1 v_phase v_digits v_suitsRead v_value v_second r18 u19 u20 u21 u22 hc23 H.size) (cwV 2 hts gX1_takes_X1_endsSpeech rfl rfl rfl (by decide +kernel) ⟨Nat.le_of_ble_eq_true rfl, Nat.le_of_ble_eq_true rfl⟩) (k_preV (ci := 1) (q0 := 0) (is := [0, 3]) hK hP hD rfl rfl rfl rfl) rfl rfl hl.1 rfl (lv_room (Nat.le_of_ble_eq_true rfl)) dX1_takes_88 ⟨Nat.zero_le _, Nat.zero_le _⟩) hP hD hS hA [0, 3] [1, 2, 4] [3, 0, 1, 4, 2] rfl rfl rfl (by decide) rfl rfl (fun H locs hP hD hS => ?_)
      obtain ⟨hnar, hf⟩ := gd_some hf
      cases hf
      subst hQ
      exact k_rz hx hb hr hlocks hP hD hS hnar dX1_takes_91
    have hf := (if_neg c17).symm.trans hf
    by_cases c24 : (x1 : Int32) = 100
    · have hf := (if_pos c24).symm.trans hf
      refine lv_lookup (off := 77) (tgt := 98) hx hb dX1_takes_21 (by decide) (by rw [c24]; rfl) (by decide) ?_
      refine lv_aload_n hx hb dX1_takes_98 rfl (lv_at hl 0 rfl) ?_
      refine lv_iconst (v := 1) hx hb dX1_takes_99 (by decide) ?_
      obtain ⟨r25, u26, u27, u28, u29, hc30, hf⟩ := bnd5_some hf
      refine k_ci (wc := [(a_this, .inr (1, [.int v_phase, .int v_digits, .int v_value, .int v_suitsRead, .ref a_first, .ref a_second, .ref a_worth, .ref a_winner])), (a_worth, .inl (cI, 6, .inl v_worth)), (a_winner, .inl (cI, 6, .inl v_winner))]) (wr := [(a_second, .inl (cI, 6, .inl v_second)), (a_first, .inl (cI, 6, .inl v_first))]) (w1 := [(a_this, .inr (1, [.int u26, .int v_digits, .int v_value, .int u27, .ref a_first, .ref a_second, .ref a_worth, .ref a_winner])), (a_worth, .inl (cI, 6, .inl u28)), (a_winner, .inl (cI, 6, .inl u29))]) (ws' := [(a_this, .inr (1, [.int u26, .int v_digits, .int v_value, .int u27, .ref a_first, .ref a_second, .ref a_worth, .ref a_winner])), (a_worth, .inl (cI, 6, .inl u28)), (a_winner, .inl (cI, 6, .inl u29)), (a_second, .inl (cI, 6, .inl v_second)), (a_first, .inl (cI, 6, .inl v_first))]) (va_runV (As := [.int 1]) (rest := []) ⟨hx, hb, hml, hown, hts⟩ (tX1_endsSuit l D cI cJ cZ cB a_this a_worth a_winner (.ref a_first) (.ref a_second) 1 v_phase v_digits v_suitsRead v_value v_worth v_winner r25 u26 u27 u28 u29 hc30 H.size) (cwV 1 hts gX1_takes_X1_endsSuit rfl rfl rfl (by decide +kernel) ⟨Nat.le_of_ble_eq_true rfl, Nat.le_of_ble_eq_true rfl⟩) (k_preV (ci := 1) (q0 := 0) (is := [0, 1, 2]) hK hP hD rfl rfl rfl rfl) rfl rfl hl.1 rfl (lv_room (Nat.le_of_ble_eq_true rfl)) dX1_takes_100 ⟨Nat.zero_le _, Nat.zero_le _⟩) hP hD hS hA [0, 1, 2] [3, 4] [2, 3, 4, 0, 1] rfl rfl rfl (by decide) rfl rfl (fun H locs hP hD hS => ?_)
      obtain ⟨hnar, hf⟩ := gd_some hf
      cases hf
      subst hQ
      exact k_rz hx hb hr hlocks hP hD hS hnar dX1_takes_103
    have hf := (if_neg c24).symm.trans hf
    by_cases c31 : (x1 : Int32) = 112
    · have hf := (if_pos c31).symm.trans hf
      refine lv_lookup (off := 71) (tgt := 92) hx hb dX1_takes_21 (by decide) (by rw [c31]; rfl) (by decide) ?_
      refine lv_aload_n hx hb dX1_takes_92 rfl (lv_at hl 0 rfl) ?_
      refine lv_iconst (v := 0) hx hb dX1_takes_93 (by decide) ?_
      obtain ⟨r32, u33, u34, u35, u36, hc37, hf⟩ := bnd5_some hf
      refine k_ci (wc := [(a_this, .inr (1, [.int v_phase, .int v_digits, .int v_value, .int v_suitsRead, .ref a_first, .ref a_second, .ref a_worth, .ref a_winner])), (a_worth, .inl (cI, 6, .inl v_worth)), (a_winner, .inl (cI, 6, .inl v_winner))]) (wr := [(a_second, .inl (cI, 6, .inl v_second)), (a_first, .inl (cI, 6, .inl v_first))]) (w1 := [(a_this, .inr (1, [.int u33, .int v_digits, .int v_value, .int u34, .ref a_first, .ref a_second, .ref a_worth, .ref a_winner])), (a_worth, .inl (cI, 6, .inl u35)), (a_winner, .inl (cI, 6, .inl u36))]) (ws' := [(a_this, .inr (1, [.int u33, .int v_digits, .int v_value, .int u34, .ref a_first, .ref a_second, .ref a_worth, .ref a_winner])), (a_worth, .inl (cI, 6, .inl u35)), (a_winner, .inl (cI, 6, .inl u36)), (a_second, .inl (cI, 6, .inl v_second)), (a_first, .inl (cI, 6, .inl v_first))]) (va_runV (As := [.int 0]) (rest := []) ⟨hx, hb, hml, hown, hts⟩ (tX1_endsSuit l D cI cJ cZ cB a_this a_worth a_winner (.ref a_first) (.ref a_second) 0 v_phase v_digits v_suitsRead v_value v_worth v_winner r32 u33 u34 u35 u36 hc37 H.size) (cwV 1 hts gX1_takes_X1_endsSuit rfl rfl rfl (by decide +kernel) ⟨Nat.le_of_ble_eq_true rfl, Nat.le_of_ble_eq_true rfl⟩) (k_preV (ci := 1) (q0 := 0) (is := [0, 1, 2]) hK hP hD rfl rfl rfl rfl) rfl rfl hl.1 rfl (lv_room (Nat.le_of_ble_eq_true rfl)) dX1_takes_94 ⟨Nat.zero_le _, Nat.zero_le _⟩) hP hD hS hA [0, 1, 2] [3, 4] [2, 3, 4, 0, 1] rfl rfl rfl (by decide) rfl rfl (fun H locs hP hD hS => ?_)
      obtain ⟨hnar, hf⟩ := gd_some hf
      cases hf
      subst hQ
      exact k_rz hx hb hr hlocks hP hD hS hnar dX1_takes_97
    have hf := (if_neg c31).symm.trans hf
    refine lv_lookup (off := 88) (tgt := 109) hx hb dX1_takes_21 (by decide) ((lv_osw c4 rfl).trans ((lv_osw c11 rfl).trans ((lv_osw c17 rfl).trans ((lv_osw c24 rfl).trans ((lv_osw c31 rfl).trans rfl))))) (by decide) ?_
    refine lv_iconst (v := 0) hx hb dX1_takes_109 (by decide) ?_
    cases hf
    subst hQ
    exact k_rz hx hb hr hlocks hP hD hS (by decide) dX1_takes_110
  · have hf := (if_neg c3).symm.trans hf
    refine lv_aload_n hx hb dX1_takes_11 rfl (lv_at hl 0 rfl) ?_
    refine lv_iload_n hx hb dX1_takes_12 rfl (lv_at hl 1 rfl) ?_
    refine lv_bipush (v := 48) hx hb dX1_takes_13 (by decide) ?_
    refine lv_isub hx hb dX1_takes_15 ?_
    obtain ⟨r38, u39, u40, hc41, hf⟩ := bnd3_some hf
    refine k_ci (wc := [(a_this, .inr (1, [.int v_phase, .int v_digits, .int v_value, .int v_suitsRead, .ref a_first, .ref a_second, .ref a_worth, .ref a_winner]))]) (wr := [(a_worth, .inl (cI, 6, .inl v_worth)), (a_winner, .inl (cI, 6, .inl v_winner)), (a_second, .inl (cI, 6, .inl v_second)), (a_first, .inl (cI, 6, .inl v_first))]) (w1 := [(a_this, .inr (1, [.int v_phase, .int u39, .int u40, .int v_suitsRead, .ref a_first, .ref a_second, .ref a_worth, .ref a_winner]))]) (ws' := [(a_this, .inr (1, [.int v_phase, .int u39, .int u40, .int v_suitsRead, .ref a_first, .ref a_second, .ref a_worth, .ref a_winner])), (a_worth, .inl (cI, 6, .inl v_worth)), (a_winner, .inl (cI, 6, .inl v_winner)), (a_second, .inl (cI, 6, .inl v_second)), (a_first, .inl (cI, 6, .inl v_first))]) (va_runV (As := [.int (x1 - 48)]) (rest := []) ⟨hx, hb, hml, hown, hts⟩ (tX1_takesDigit l D cI cJ cZ cB a_this (.int v_suitsRead) (.ref a_first) (.ref a_second) (.ref a_worth) (.ref a_winner) (x1 - 48) v_phase v_digits v_value r38 u39 u40 hc41 H.size) (cwV 1 hts gX1_takes_X1_takesDigit rfl rfl rfl (by decide +kernel) ⟨Nat.le_of_ble_eq_true rfl, Nat.le_of_ble_eq_true rfl⟩) (k_preV (ci := 1) (q0 := 0) (is := [0]) hK hP hD rfl rfl rfl rfl) rfl rfl hl.1 rfl (lv_room (Nat.le_of_ble_eq_true rfl)) dX1_takes_16 ⟨Nat.zero_le _, Nat.zero_le _⟩) hP hD hS hA [0] [1, 2, 3, 4] [4, 0, 1, 2, 3] rfl rfl rfl (by decide) rfl rfl (fun H locs hP hD hS => ?_)
    obtain ⟨hnar, hf⟩ := gd_some hf
    cases hf
    subst hQ
    exact k_rz hx hb hr hlocks hP hD hS hnar dX1_takes_19

set_option maxHeartbeats 4000000 in
set_option maxRecDepth 100000 in
theorem tX1_read (l : Launch) (D : va_G) (cI cJ cZ cB : ClassId) (a_this : Nat) (a_p1 : Nat) (a_worth : Nat) (a_winner : Nat) (a_second : Nat) (a_first : Nat) (n_p1 : Nat) (x2 : Int32) (v_suitsRead : Int32) (v_phase : Int32) (v_digits : Int32) (v_value : Int32) (v_p1 : Nat → Int32) (v_worth : Nat → Int32) (v_winner : Nat → Int32) (v_second : Nat → Int32) (v_first : Nat → Int32) (r0 : Int32) (w_suitsRead : Int32) (w_phase : Int32) (w_digits : Int32) (w_value : Int32) (w_worth : Nat → Int32) (w_winner : Nat → Int32) (w_second : Nat → Int32) (w_first : Nat → Int32) (hf : fX1_read x2 v_p1 v_worth v_winner v_second v_first n_p1 = some (r0, w_suitsRead, w_phase, w_digits, w_value, w_worth, w_winner, w_second, w_first)) : MW l yX1_read wsX1_read { frames := 3, cells := 0, slots := 0, locals := 65 } D cI cJ cZ cB [(a_this, .inr (1, [.int v_phase, .int v_digits, .int v_value, .int v_suitsRead, .ref a_first, .ref a_second, .ref a_worth, .ref a_winner])), (a_p1, .inl (cI, n_p1, .inl v_p1)), (a_worth, .inl (cI, 6, .inl v_worth)), (a_winner, .inl (cI, 6, .inl v_winner)), (a_second, .inl (cI, 6, .inl v_second)), (a_first, .inl (cI, 6, .inl v_first))] [.ref a_this, .ref a_p1, .int x2] (QWi D r0 [(a_this, .inr (1, [.int w_phase, .int w_digits, .int w_value, .int w_suitsRead, .ref a_first, .ref a_second, .ref a_worth, .ref a_winner])), (a_p1, .inl (cI, n_p1, .inl v_p1)), (a_worth, .inl (cI, 6, .inl w_worth)), (a_winner, .inl (cI, 6, .inl w_winner)), (a_second, .inl (cI, 6, .inl w_second)), (a_first, .inl (cI, 6, .inl w_first))]) := by
  refine k_body (cc := cX1_read) (maxL := 4) (ret := (some .int)) (by decide) rfl (Nat.le_of_ble_eq_true rfl) ?_
  intro p e s m args below meth c hx hb hr hml hts hown hlocks hname hK A hA hP hD hS ls hl
  have hl : lv_has ls 4 [(0, .ref a_this), (1, .ref a_p1), (2, .int x2)] := hl
  generalize hQ : MQ below ((QWi D r0 [(a_this, .inr (1, [.int w_phase, .int w_digits, .int w_value, .int w_suitsRead, .ref a_first, .ref a_second, .ref a_worth, .ref a_winner])), (a_p1, .inl (cI, n_p1, .inl v_p1)), (a_worth, .inl (cI, 6, .inl w_worth)), (a_winner, .inl (cI, 6, .inl w_winner)), (a_second, .inl (cI, 6, .inl w_second)), (a_first, .inl (cI, 6, .inl w_first))]) A) args s 0 0 A = Q
  obtain ⟨H, hH⟩ : ∃ H, H = s.heap := ⟨_, rfl⟩
  obtain ⟨locs, hlo⟩ : ∃ z : List Loc, z = [] := ⟨_, rfl⟩
  have hP : va_P D vwCl [(a_this, .inr (1, [.int v_phase, .int v_digits, .int v_value, .int v_suitsRead, .ref a_first, .ref a_second, .ref a_worth, .ref a_winner])), (a_p1, .inl (cI, n_p1, .inl v_p1)), (a_worth, .inl (cI, 6, .inl v_worth)), (a_winner, .inl (cI, 6, .inl v_winner)), (a_second, .inl (cI, 6, .inl v_second)), (a_first, .inl (cI, 6, .inl v_first))] H := by rw [hH]; exact hP
  have hS : va_S A s.heap H locs := by rw [hH, hlo]; exact hS
  suffices hg : W p l e (headSpec wsX1_read { frames := 3, cells := 0, slots := 0, locals := 65 }).room s m args below meth c H locs 0 0 Q (F0 m 0 ls []) by rw [hH, hlo] at hg; exact hg
  have l11 := hts (.fieldLink RX1 11 "CandleCourt$Reader" "phase" "I") (by decide +kernel)
  have l21 := hts (.fieldLink RX1 21 "CandleCourt$Reader" "suitsRead" "I") (by decide +kernel)
  have iX1 : ∀ w ∈ wsX10, w ∈ wsX1_read := by decide +kernel
  unfold fX1_read at hf
  refine lv_aload_n hx hb dX1_read_0 rfl (lv_at hl 0 rfl) ?_
  refine lv_iconst (v := 0) hx hb dX1_read_1 (by decide) ?_
  refine va_put (D := D) (ci := 1) (v := .int 0) (ty := .int) (C := RX1) (T := TX1) (N := 8) hx hb hts iX1 tyX1 tyX1_ok nmX1 hown hK.1 hP hD hS 0 rfl rfl 3 (by decide) l21 (fun _ h9 => h9) rfl (by decide +kernel) rfl rfl (Nat.le_of_ble_eq_true rfl) dX1_read_2 (fun H locs hP hD hS => ?_)
  have hP : va_P D vwCl [(a_this, .inr (1, [.int v_phase, .int v_digits, .int v_value, .int 0, .ref a_first, .ref a_second, .ref a_worth, .ref a_winner])), (a_p1, .inl (cI, n_p1, .inl v_p1)), (a_worth, .inl (cI, 6, .inl v_worth)), (a_winner, .inl (cI, 6, .inl v_winner)), (a_second, .inl (cI, 6, .inl v_second)), (a_first, .inl (cI, 6, .inl v_first))] H := hP
  have hD : va_D A [(a_this, .inr (1, [.int v_phase, .int v_digits, .int v_value, .int 0, .ref a_first, .ref a_second, .ref a_worth, .ref a_winner])), (a_p1, .inl (cI, n_p1, .inl v_p1)), (a_worth, .inl (cI, 6, .inl v_worth)), (a_winner, .inl (cI, 6, .inl v_winner)), (a_second, .inl (cI, 6, .inl v_second)), (a_first, .inl (cI, 6, .inl v_first))] := hD
  refine lv_aload_n hx hb dX1_read_5 rfl (lv_at hl 0 rfl) ?_
  refine lv_iconst (v := 0) hx hb dX1_read_6 (by decide) ?_
  obtain ⟨u1, u2, u3, hc4, hf⟩ := bnd3_some hf
  refine k_cv (wc := [(a_this, .inr (1, [.int v_phase, .int v_digits, .int v_value, .int 0, .ref a_first, .ref a_second, .ref a_worth, .ref a_winner]))]) (wr := [(a_p1, .inl (cI, n_p1, .inl v_p1)), (a_worth, .inl (cI, 6, .inl v_worth)), (a_winner, .inl (cI, 6, .inl v_winner)), (a_second, .inl (cI, 6, .inl v_second)), (a_first, .inl (cI, 6, .inl v_first))]) (w1 := [(a_this, .inr (1, [.int u1, .int u2, .int u3, .int 0, .ref a_first, .ref a_second, .ref a_worth, .ref a_winner]))]) (ws' := [(a_this, .inr (1, [.int u1, .int u2, .int u3, .int 0, .ref a_first, .ref a_second, .ref a_worth, .ref a_winner])), (a_p1, .inl (cI, n_p1, .inl v_p1)), (a_worth, .inl (cI, 6, .inl v_worth)), (a_winner, .inl (cI, 6, .inl v_winner)), (a_second, .inl (cI, 6, .inl v_second)), (a_first, .inl (cI, 6, .inl v_first))]) (va_runV (As := [.int 0]) (rest := []) ⟨hx, hb, hml, hown, hts⟩ (tX1_startNumber l D cI cJ cZ cB a_this (.int 0) (.ref a_first) (.ref a_second) (.ref a_worth) (.ref a_winner) 0 v_phase v_digits v_value u1 u2 u3 hc4 H.size) (cwV 1 hts gX1_read_X1_startNumber rfl rfl rfl (by decide +kernel) ⟨Nat.le_of_ble_eq_true rfl, Nat.le_of_ble_eq_true rfl⟩) (k_preV (ci := 1) (q0 := 0) (is := [0]) hK hP hD rfl rfl rfl rfl) rfl rfl hl.1 rfl (lv_room (Nat.le_of_ble_eq_true rfl)) dX1_read_7 ⟨Nat.zero_le _, Nat.zero_le _⟩) hP hD hS hA [0] [1, 2, 3, 4, 5] [5, 0, 1, 2, 3, 4] rfl rfl rfl (by decide) rfl rfl (fun H locs hP hD hS => ?_)
  refine lv_iconst (v := 0) hx hb dX1_read_10 (by decide) ?_
  refine lv_istore_n (lv' := [(3, .int 0), (0, .ref a_this), (1, .ref a_p1), (2, .int x2)]) hx hb dX1_read_11 rfl hl (by decide) rfl (fun ls hl => ?_)
  have L12 : ∀ (n12 : Nat) (x3_12 : Int32) (v_suitsRead_12 : Int32) (v_phase_12 : Int32) (v_digits_12 : Int32) (v_value_12 : Int32) (v_worth_12 : Nat → Int32) (v_winner_12 : Nat → Int32) (v_second_12 : Nat → Int32) (v_first_12 : Nat → Int32) (H : Heap) (locs : List Loc) (ls : Array Slot), fX1_read_l12 x2 v_p1 n_p1 n12 x3_12 v_suitsRead_12 v_phase_12 v_digits_12 v_value_12 v_worth_12 v_winner_12 v_second_12 v_first_12 = some (r0, w_suitsRead, w_phase, w_digits, w_value, w_worth, w_winner, w_second, w_first) → va_P D vwCl [(a_this, .inr (1, [.int v_phase_12, .int v_digits_12, .int v_value_12, .int v_suitsRead_12, .ref a_first, .ref a_second, .ref a_worth, .ref a_winner])), (a_p1, .inl (cI, n_p1, .inl v_p1)), (a_worth, .inl (cI, 6, .inl v_worth_12)), (a_winner, .inl (cI, 6, .inl v_winner_12)), (a_second, .inl (cI, 6, .inl v_second_12)), (a_first, .inl (cI, 6, .inl v_first_12))] H → va_D A [(a_this, .inr (1, [.int v_phase_12, .int v_digits_12, .int v_value_12, .int v_suitsRead_12, .ref a_first, .ref a_second, .ref a_worth, .ref a_winner])), (a_p1, .inl (cI, n_p1, .inl v_p1)), (a_worth, .inl (cI, 6, .inl v_worth_12)), (a_winner, .inl (cI, 6, .inl v_winner_12)), (a_second, .inl (cI, 6, .inl v_second_12)), (a_first, .inl (cI, 6, .inl v_first_12))] → va_S A s.heap H locs → lv_has ls 4 [(0, .ref a_this), (1, .ref a_p1), (2, .int x2), (3, .int x3_12)] → W p l e (headSpec wsX1_read { frames := 3, cells := 0, slots := 0, locals := 65 }).room s m args below meth c H locs 0 0 Q (F0 m 12 ls []) := by
    intro n12
    induction n12 with
    | zero =>
      intro x3_12 v_suitsRead_12 v_phase_12 v_digits_12 v_value_12 v_worth_12 v_winner_12 v_second_12 v_first_12 H locs ls hf
      have hf : (none : Option (Int32 × (Int32) × (Int32) × (Int32) × (Int32) × (Nat → Int32) × (Nat → Int32) × (Nat → Int32) × (Nat → Int32))) = some (r0, w_suitsRead, w_phase, w_digits, w_value, w_worth, w_winner, w_second, w_first) := hf
      cases hf
    | succ n12 ih12 =>
      intro x3_12 v_suitsRead_12 v_phase_12 v_digits_12 v_value_12 v_worth_12 v_winner_12 v_second_12 v_first_12 H locs ls hf hP hD hS hl
      rw [fX1_read_l12] at hf
      refine lv_iload_n hx hb dX1_read_12 rfl (lv_at hl 3 rfl) ?_
      refine lv_iload_n hx hb dX1_read_13 rfl (lv_at hl 2 rfl) ?_
      refine lv_icmp_ge (tgt := 37) hx hb dX1_read_14 (by decide) (fun c5 => ?_) (fun c5 => ?_)
      · have hf := (if_pos c5).symm.trans hf
        refine lv_iload_n hx hb dX1_read_37 rfl (lv_at hl 2 rfl) ?_
        refine lv_if_eq (tgt := 49) hx hb dX1_read_38 (by decide) (fun c6 => ?_) (fun c6 => ?_)
        · have hf := (if_pos c6).symm.trans hf
          refine lv_bipush (v := (-6)) hx hb dX1_read_49 (by decide) ?_
          refine lv_goto (tgt := 55) hx hb dX1_read_51 (by decide) ?_
          cases hf
          subst hQ
          exact k_ri hx hb hr hlocks hP hD hS dX1_read_55
        · have hf := (if_neg c6).symm.trans hf
          refine lv_aload_n hx hb dX1_read_41 rfl (lv_at hl 0 rfl) ?_
          refine va_get (D := D) (ci := 1) (v := .int v_phase_12) (C := RX1) (T := TX1) (N := 8) hx hb hts iX1 hown hK.1 hP 0 rfl rfl 0 (by decide) l11 (fun _ h9 => h9) rfl dX1_read_42 ?_
          refine lv_iconst (v := 3) hx hb dX1_read_45 (by decide) ?_
          refine lv_icmp_ne (tgt := 54) hx hb dX1_read_46 (by decide) (fun c7 => ?_) (fun c7 => ?_)
          · have hf := (if_neg c7).symm.trans hf
            refine lv_iload_n hx hb dX1_read_54 rfl (lv_at hl 2 rfl) ?_
            cases hf
            subst hQ
            exact k_ri hx hb hr hlocks hP hD hS dX1_read_55
          · have hf := (if_pos c7).symm.trans hf
            refine lv_bipush (v := (-6)) hx hb dX1_read_49 (by decide) ?_
            refine lv_goto (tgt := 55) hx hb dX1_read_51 (by decide) ?_
            cases hf
            subst hQ
            exact k_ri hx hb hr hlocks hP hD hS dX1_read_55
      · have hf := (if_neg c5).symm.trans hf
        refine lv_aload_n hx hb dX1_read_17 rfl (lv_at hl 0 rfl) ?_
        refine lv_aload_n hx hb dX1_read_18 rfl (lv_at hl 1 rfl) ?_
        refine lv_iload_n hx hb dX1_read_19 rfl (lv_at hl 3 rfl) ?_
        obtain ⟨r8, hc9, hf⟩ := bnd1_some hf
        refine k_ci (wc := [(a_p1, .inl (cI, n_p1, .inl v_p1))]) (wr := [(a_this, .inr (1, [.int v_phase_12, .int v_digits_12, .int v_value_12, .int v_suitsRead_12, .ref a_first, .ref a_second, .ref a_worth, .ref a_winner])), (a_worth, .inl (cI, 6, .inl v_worth_12)), (a_winner, .inl (cI, 6, .inl v_winner_12)), (a_second, .inl (cI, 6, .inl v_second_12)), (a_first, .inl (cI, 6, .inl v_first_12))]) (w1 := [(a_p1, .inl (cI, n_p1, .inl v_p1))]) (ws' := [(a_this, .inr (1, [.int v_phase_12, .int v_digits_12, .int v_value_12, .int v_suitsRead_12, .ref a_first, .ref a_second, .ref a_worth, .ref a_winner])), (a_p1, .inl (cI, n_p1, .inl v_p1)), (a_worth, .inl (cI, 6, .inl v_worth_12)), (a_winner, .inl (cI, 6, .inl v_winner_12)), (a_second, .inl (cI, 6, .inl v_second_12)), (a_first, .inl (cI, 6, .inl v_first_12))]) (va_runSN (As := [.ref a_p1, .int x3_12]) (rest := [.ref a_this]) ⟨hx, hb, hml, hown, hts⟩ (tX3_at l D cI cJ cZ cB a_p1 n_p1 x3_12 v_p1 r8 hc9 H.size) ⟨va_cnB 2 hts gX1_read_X3_at_n41 rfl rfl rfl hK.2.2.2.2.2.1 (hts (.initialized RX3) (by decide +kernel)) (by decide +kernel) ⟨Nat.le_of_ble_eq_true rfl, Nat.le_of_ble_eq_true rfl⟩, hts (.static yX3_at) (by decide +kernel), trivial⟩ (k_preS (is := [1]) hK hP hD rfl rfl) rfl rfl hl.1 rfl (lv_room (Nat.le_of_ble_eq_true rfl)) dX1_read_20 ⟨Nat.zero_le _, Nat.zero_le _⟩) hP hD hS hA [1] [0, 2, 3, 4, 5] [0, 5, 1, 2, 3, 4] rfl rfl rfl (by decide) rfl rfl (fun H locs hP hD hS => ?_)
        obtain ⟨r10, u11, u12, u13, u14, u15, u16, u17, u18, hc19, hf⟩ := bnd9_some hf
        refine k_ci (wc := [(a_this, .inr (1, [.int v_phase_12, .int v_digits_12, .int v_value_12, .int v_suitsRead_12, .ref a_first, .ref a_second, .ref a_worth, .ref a_winner])), (a_worth, .inl (cI, 6, .inl v_worth_12)), (a_winner, .inl (cI, 6, .inl v_winner_12)), (a_second, .inl (cI, 6, .inl v_second_12)), (a_first, .inl (cI, 6, .inl v_first_12))]) (wr := [(a_p1, .inl (cI, n_p1, .inl v_p1))]) (w1 := [(a_this, .inr (1, [.int u11, .int u12, .int u13, .int u14, .ref a_first, .ref a_second, .ref a_worth, .ref a_winner])), (a_worth, .inl (cI, 6, .inl u15)), (a_winner, .inl (cI, 6, .inl u16)), (a_second, .inl (cI, 6, .inl u17)), (a_first, .inl (cI, 6, .inl u18))]) (ws' := [(a_this, .inr (1, [.int u11, .int u12, .int u13, .int u14, .ref a_first, .ref a_second, .ref a_worth, .ref a_winner])), (a_p1, .inl (cI, n_p1, .inl v_p1)), (a_worth, .inl (cI, 6, .inl u15)), (a_winner, .inl (cI, 6, .inl u16)), (a_second, .inl (cI, 6, .inl u17)), (a_first, .inl (cI, 6, .inl u18))]) (va_runV (As := [.int r8]) (rest := []) ⟨hx, hb, hml, hown, hts⟩ (tX1_takes l D cI cJ cZ cB a_this a_worth a_winner a_second a_first r8 v_phase_12 v_digits_12 v_value_12 v_suitsRead_12 v_worth_12 v_winner_12 v_second_12 v_first_12 r10 u11 u12 u13 u14 u15 u16 u17 u18 hc19 H.size) (cwV 1 hts gX1_read_X1_takes rfl rfl rfl (by decide +kernel) ⟨Nat.le_of_ble_eq_true rfl, Nat.le_of_ble_eq_true rfl⟩) (k_preV (ci := 1) (q0 := 0) (is := [0, 2, 3, 4, 5]) hK hP hD rfl rfl rfl rfl) rfl rfl hl.1 rfl (lv_room (Nat.le_of_ble_eq_true rfl)) dX1_read_23 ⟨Nat.zero_le _, Nat.zero_le _⟩) hP hD hS hA [0, 2, 3, 4, 5] [1] [1, 0, 2, 3, 4, 5] rfl rfl rfl (by decide) rfl rfl (fun H locs hP hD hS => ?_)
        refine lv_if_ne (tgt := 31) hx hb dX1_read_26 (by decide) (fun c20 => ?_) (fun c20 => ?_)
        · have hf := (if_neg c20).symm.trans hf
          refine lv_iinc (v := (x3_12 + 1)) (lv' := [(3, .int (x3_12 + 1)), (0, .ref a_this), (1, .ref a_p1), (2, .int x2)]) hx hb dX1_read_31 hl (k := 3) rfl (by rfl) (by decide) rfl (fun ls hl => ?_)
          refine lv_goto (tgt := 12) hx hb dX1_read_34 (by decide) ?_
          exact ih12 (x3_12 + 1) u14 u11 u12 u13 u15 u16 u17 u18 _ _ _ hf hP hD hS (lv_sub hl [1, 2, 3, 0] rfl)
        · have hf := (if_pos c20).symm.trans hf
          refine lv_iload_n hx hb dX1_read_29 rfl (lv_at hl 3 rfl) ?_
          cases hf
          subst hQ
          exact k_ri hx hb hr hlocks hP hD hS dX1_read_30
  exact L12 FU 0 0 u1 u2 u3 v_worth v_winner v_second v_first _ _ _ hf hP hD hS (lv_sub hl [1, 2, 3, 0] rfl)

set_option maxHeartbeats 4000000 in
set_option maxRecDepth 100000 in
theorem tX2_sink (l : Launch) (D : va_G) (cI cJ cZ cB : ClassId) (a_this : Nat) (a_p1 : Nat) (a_p1_worth : Nat) (o_this_decided : Value) (o_this_defendants : Value) (o_this_worths : Value) (o_p1_weight : Value) (o_p1_hole : Value) (o_p1_held : Value) (o_p1_many : Value) (o_p1_sights : Value) (o_p1_full : Value) (o_p1_first : Value) (o_p1_second : Value) (o_p1_winner : Value) (o_p1_row : Value) (o_p1_sightWeight : Value) (o_p1_sightMany : Value) (x2 : Int32) (v_sunk : Int32) (v_p1_law : Int32) (v_plaintiffs : Int32) (v_poor : Int32) (v_p1_worth : Nat → Int32) (w_sunk : Int32) (w_plaintiffs : Int32) (w_poor : Int32) (hf : fX2_sink x2 v_p1_law v_plaintiffs v_poor v_p1_worth = some (w_sunk, w_plaintiffs, w_poor)) : MW l yX2_sink wsX2_sink { frames := 1, cells := 0, slots := 0, locals := 21 } D cI cJ cZ cB [(a_this, .inr (2, [o_this_decided, .int v_sunk, .int v_plaintiffs, o_this_defendants, .int v_poor, o_this_worths])), (a_p1, .inr (0, (o_p1_weight :: o_p1_hole :: o_p1_held :: .int v_p1_law :: o_p1_many :: o_p1_sights :: o_p1_full :: o_p1_first :: o_p1_second :: .ref a_p1_worth :: o_p1_winner :: o_p1_row :: o_p1_sightWeight :: o_p1_sightMany :: []))), (a_p1_worth, .inl (cI, 6, .inl v_p1_worth))] [.ref a_this, .ref a_p1, .int x2] (QWv D [(a_this, .inr (2, [o_this_decided, .int w_sunk, .int w_plaintiffs, o_this_defendants, .int w_poor, o_this_worths])), (a_p1, .inr (0, (o_p1_weight :: o_p1_hole :: o_p1_held :: .int v_p1_law :: o_p1_many :: o_p1_sights :: o_p1_full :: o_p1_first :: o_p1_second :: .ref a_p1_worth :: o_p1_winner :: o_p1_row :: o_p1_sightWeight :: o_p1_sightMany :: []))), (a_p1_worth, .inl (cI, 6, .inl v_p1_worth))]) := by
  refine k_body (cc := cX2_sink) (maxL := 3) (ret := none) (by decide) rfl (Nat.le_of_ble_eq_true rfl) ?_
  intro p e s m args below meth c hx hb hr hml hts hown hlocks hname hK A hA hP hD hS ls hl
  have hl : lv_has ls 3 [(0, .ref a_this), (1, .ref a_p1), (2, .int x2)] := hl
  generalize hQ : MQ below ((QWv D [(a_this, .inr (2, [o_this_decided, .int w_sunk, .int w_plaintiffs, o_this_defendants, .int w_poor, o_this_worths])), (a_p1, .inr (0, (o_p1_weight :: o_p1_hole :: o_p1_held :: .int v_p1_law :: o_p1_many :: o_p1_sights :: o_p1_full :: o_p1_first :: o_p1_second :: .ref a_p1_worth :: o_p1_winner :: o_p1_row :: o_p1_sightWeight :: o_p1_sightMany :: []))), (a_p1_worth, .inl (cI, 6, .inl v_p1_worth))]) A) args s 0 0 A = Q
  obtain ⟨H, hH⟩ : ∃ H, H = s.heap := ⟨_, rfl⟩
  obtain ⟨locs, hlo⟩ : ∃ z : List Loc, z = [] := ⟨_, rfl⟩
  have hP : va_P D vwCl [(a_this, .inr (2, [o_this_decided, .int v_sunk, .int v_plaintiffs, o_this_defendants, .int v_poor, o_this_worths])), (a_p1, .inr (0, (o_p1_weight :: o_p1_hole :: o_p1_held :: .int v_p1_law :: o_p1_many :: o_p1_sights :: o_p1_full :: o_p1_first :: o_p1_second :: .ref a_p1_worth :: o_p1_winner :: o_p1_row :: o_p1_sightWeight :: o_p1_sightMany :: []))), (a_p1_worth, .inl (cI, 6, .inl v_p1_worth))] H := by rw [hH]; exact hP
  have hS : va_S A s.heap H locs := by rw [hH, hlo]; exact hS
  suffices hg : W p l e (headSpec wsX2_sink { frames := 1, cells := 0, slots := 0, locals := 21 }).room s m args below meth c H locs 0 0 Q (F0 m 0 ls []) by rw [hH, hlo] at hg; exact hg
  have l15 := hts (.fieldLink RX2 15 "CandleCourt$Sitting" "sunk" "I") (by decide +kernel)
  have l18 := hts (.fieldLink RX2 18 "CandleCourt$Sitting" "plaintiffs" "I") (by decide +kernel)
  have l24 := hts (.fieldLink RX2 24 "CandleCourt$Sitting" "poor" "I") (by decide +kernel)
  have l50 := hts (.fieldLink RX2 50 "CandleCourt$Bench" "worth" "[I") (by decide +kernel)
  have l57 := hts (.fieldLink RX2 57 "CandleCourt$Bench" "law" "I") (by decide +kernel)
  have iX0 : ∀ w ∈ wsX00, w ∈ wsX2_sink := by decide +kernel
  have iX2 : ∀ w ∈ wsX20, w ∈ wsX2_sink := by decide +kernel
  unfold fX2_sink at hf
  refine lv_aload_n hx hb dX2_sink_0 rfl (lv_at hl 0 rfl) ?_
  refine lv_iload_n hx hb dX2_sink_1 rfl (lv_at hl 2 rfl) ?_
  refine va_put (D := D) (ci := 2) (v := .int x2) (ty := .int) (C := RX2) (T := TX2) (N := 6) hx hb hts iX2 tyX2 tyX2_ok nmX2 hown hK.1 hP hD hS 0 rfl rfl 1 (by decide) l15 (fun _ h9 => h9) rfl (by decide +kernel) rfl rfl (Nat.le_of_ble_eq_true rfl) dX2_sink_2 (fun H locs hP hD hS => ?_)
  have hP : va_P D vwCl [(a_this, .inr (2, [o_this_decided, .int x2, .int v_plaintiffs, o_this_defendants, .int v_poor, o_this_worths])), (a_p1, .inr (0, (o_p1_weight :: o_p1_hole :: o_p1_held :: .int v_p1_law :: o_p1_many :: o_p1_sights :: o_p1_full :: o_p1_first :: o_p1_second :: .ref a_p1_worth :: o_p1_winner :: o_p1_row :: o_p1_sightWeight :: o_p1_sightMany :: []))), (a_p1_worth, .inl (cI, 6, .inl v_p1_worth))] H := hP
  have hD : va_D A [(a_this, .inr (2, [o_this_decided, .int x2, .int v_plaintiffs, o_this_defendants, .int v_poor, o_this_worths])), (a_p1, .inr (0, (o_p1_weight :: o_p1_hole :: o_p1_held :: .int v_p1_law :: o_p1_many :: o_p1_sights :: o_p1_full :: o_p1_first :: o_p1_second :: .ref a_p1_worth :: o_p1_winner :: o_p1_row :: o_p1_sightWeight :: o_p1_sightMany :: []))), (a_p1_worth, .inl (cI, 6, .inl v_p1_worth))] := hD
  refine lv_aload_n hx hb dX2_sink_5 rfl (lv_at hl 1 rfl) ?_
  refine va_get (D := D) (ci := 0) (v := .int v_p1_law) (C := RX0) (T := TX0) (N := 14) hx hb hts iX0 hown hK.1 hP 1 rfl rfl 3 (by decide) l57 (fun _ h9 => h9) rfl dX2_sink_6 ?_
  refine lv_if_ne (tgt := 32) hx hb dX2_sink_9 (by decide) (fun c1 => ?_) (fun c1 => ?_)
  · have hf := (if_neg c1).symm.trans hf
    refine lv_aload_n hx hb dX2_sink_32 rfl (lv_at hl 0 rfl) ?_
    refine lv_dup hx hb dX2_sink_33 rfl ?_
    refine va_get (D := D) (ci := 2) (v := .int v_poor) (C := RX2) (T := TX2) (N := 6) hx hb hts iX2 hown hK.1 hP 0 rfl rfl 4 (by decide) l24 (fun _ h9 => h9) rfl dX2_sink_34 ?_
    refine lv_aload_n hx hb dX2_sink_37 rfl (lv_at hl 1 rfl) ?_
    refine va_get (D := D) (ci := 0) (v := .ref a_p1_worth) (C := RX0) (T := TX0) (N := 14) hx hb hts iX0 hown hK.1 hP 1 rfl rfl 9 (by decide) l50 (fun _ h9 => h9) rfl dX2_sink_38 ?_
    refine lv_iload_n hx hb dX2_sink_41 rfl (lv_at hl 2 rfl) ?_
    obtain ⟨r2, hc3, hf⟩ := bnd1_some hf
    refine k_ci (wc := [(a_p1_worth, .inl (cI, 6, .inl v_p1_worth))]) (wr := [(a_this, .inr (2, [o_this_decided, .int x2, .int v_plaintiffs, o_this_defendants, .int v_poor, o_this_worths])), (a_p1, .inr (0, (o_p1_weight :: o_p1_hole :: o_p1_held :: .int v_p1_law :: o_p1_many :: o_p1_sights :: o_p1_full :: o_p1_first :: o_p1_second :: .ref a_p1_worth :: o_p1_winner :: o_p1_row :: o_p1_sightWeight :: o_p1_sightMany :: [])))]) (w1 := [(a_p1_worth, .inl (cI, 6, .inl v_p1_worth))]) (ws' := [(a_this, .inr (2, [o_this_decided, .int x2, .int v_plaintiffs, o_this_defendants, .int v_poor, o_this_worths])), (a_p1, .inr (0, (o_p1_weight :: o_p1_hole :: o_p1_held :: .int v_p1_law :: o_p1_many :: o_p1_sights :: o_p1_full :: o_p1_first :: o_p1_second :: .ref a_p1_worth :: o_p1_winner :: o_p1_row :: o_p1_sightWeight :: o_p1_sightMany :: []))), (a_p1_worth, .inl (cI, 6, .inl v_p1_worth))]) (va_runSN (As := [.ref a_p1_worth, .int x2]) (rest := [.int v_poor, .ref a_this]) ⟨hx, hb, hml, hown, hts⟩ (tX3_at l D cI cJ cZ cB a_p1_worth 6 x2 v_p1_worth r2 hc3 H.size) ⟨va_cnB 2 hts gX2_sink_X3_at_n35 rfl rfl rfl hK.2.2.2.2.2.2.2.2 (hts (.initialized RX3) (by decide +kernel)) (by decide +kernel) ⟨Nat.le_of_ble_eq_true rfl, Nat.le_of_ble_eq_true rfl⟩, hts (.static yX3_at) (by decide +kernel), trivial⟩ (k_preS (is := [2]) hK hP hD rfl rfl) rfl rfl hl.1 rfl (lv_room (Nat.le_of_ble_eq_true rfl)) dX2_sink_42 ⟨Nat.zero_le _, Nat.zero_le _⟩) hP hD hS hA [2] [0, 1] [0, 1, 2] rfl rfl rfl (by decide) rfl rfl (fun H locs hP hD hS => ?_)
    refine lv_iadd hx hb dX2_sink_45 ?_
    refine va_put (D := D) (ci := 2) (v := .int (v_poor + r2)) (ty := .int) (C := RX2) (T := TX2) (N := 6) hx hb hts iX2 tyX2 tyX2_ok nmX2 hown hK.1 hP hD hS 0 rfl rfl 4 (by decide) l24 (fun _ h9 => h9) rfl (by decide +kernel) rfl rfl (Nat.le_of_ble_eq_true rfl) dX2_sink_46 (fun H locs hP hD hS => ?_)
    have hP : va_P D vwCl [(a_this, .inr (2, [o_this_decided, .int x2, .int v_plaintiffs, o_this_defendants, .int (v_poor + r2), o_this_worths])), (a_p1, .inr (0, (o_p1_weight :: o_p1_hole :: o_p1_held :: .int v_p1_law :: o_p1_many :: o_p1_sights :: o_p1_full :: o_p1_first :: o_p1_second :: .ref a_p1_worth :: o_p1_winner :: o_p1_row :: o_p1_sightWeight :: o_p1_sightMany :: []))), (a_p1_worth, .inl (cI, 6, .inl v_p1_worth))] H := hP
    have hD : va_D A [(a_this, .inr (2, [o_this_decided, .int x2, .int v_plaintiffs, o_this_defendants, .int (v_poor + r2), o_this_worths])), (a_p1, .inr (0, (o_p1_weight :: o_p1_hole :: o_p1_held :: .int v_p1_law :: o_p1_many :: o_p1_sights :: o_p1_full :: o_p1_first :: o_p1_second :: .ref a_p1_worth :: o_p1_winner :: o_p1_row :: o_p1_sightWeight :: o_p1_sightMany :: []))), (a_p1_worth, .inl (cI, 6, .inl v_p1_worth))] := hD
    cases hf
    subst hQ
    exact k_rv hx hb hr hlocks hP hD hS dX2_sink_49
  · have hf := (if_pos c1).symm.trans hf
    refine lv_aload_n hx hb dX2_sink_12 rfl (lv_at hl 0 rfl) ?_
    refine lv_dup hx hb dX2_sink_13 rfl ?_
    refine va_get (D := D) (ci := 2) (v := .int v_plaintiffs) (C := RX2) (T := TX2) (N := 6) hx hb hts iX2 hown hK.1 hP 0 rfl rfl 2 (by decide) l18 (fun _ h9 => h9) rfl dX2_sink_14 ?_
    refine lv_aload_n hx hb dX2_sink_17 rfl (lv_at hl 1 rfl) ?_
    refine va_get (D := D) (ci := 0) (v := .ref a_p1_worth) (C := RX0) (T := TX0) (N := 14) hx hb hts iX0 hown hK.1 hP 1 rfl rfl 9 (by decide) l50 (fun _ h9 => h9) rfl dX2_sink_18 ?_
    refine lv_iload_n hx hb dX2_sink_21 rfl (lv_at hl 2 rfl) ?_
    obtain ⟨r4, hc5, hf⟩ := bnd1_some hf
    refine k_ci (wc := [(a_p1_worth, .inl (cI, 6, .inl v_p1_worth))]) (wr := [(a_this, .inr (2, [o_this_decided, .int x2, .int v_plaintiffs, o_this_defendants, .int v_poor, o_this_worths])), (a_p1, .inr (0, (o_p1_weight :: o_p1_hole :: o_p1_held :: .int v_p1_law :: o_p1_many :: o_p1_sights :: o_p1_full :: o_p1_first :: o_p1_second :: .ref a_p1_worth :: o_p1_winner :: o_p1_row :: o_p1_sightWeight :: o_p1_sightMany :: [])))]) (w1 := [(a_p1_worth, .inl (cI, 6, .inl v_p1_worth))]) (ws' := [(a_this, .inr (2, [o_this_decided, .int x2, .int v_plaintiffs, o_this_defendants, .int v_poor, o_this_worths])), (a_p1, .inr (0, (o_p1_weight :: o_p1_hole :: o_p1_held :: .int v_p1_law :: o_p1_many :: o_p1_sights :: o_p1_full :: o_p1_first :: o_p1_second :: .ref a_p1_worth :: o_p1_winner :: o_p1_row :: o_p1_sightWeight :: o_p1_sightMany :: []))), (a_p1_worth, .inl (cI, 6, .inl v_p1_worth))]) (va_runSN (As := [.ref a_p1_worth, .int x2]) (rest := [.int v_plaintiffs, .ref a_this]) ⟨hx, hb, hml, hown, hts⟩ (tX3_at l D cI cJ cZ cB a_p1_worth 6 x2 v_p1_worth r4 hc5 H.size) ⟨va_cnB 2 hts gX2_sink_X3_at_n35 rfl rfl rfl hK.2.2.2.2.2.2.2.2 (hts (.initialized RX3) (by decide +kernel)) (by decide +kernel) ⟨Nat.le_of_ble_eq_true rfl, Nat.le_of_ble_eq_true rfl⟩, hts (.static yX3_at) (by decide +kernel), trivial⟩ (k_preS (is := [2]) hK hP hD rfl rfl) rfl rfl hl.1 rfl (lv_room (Nat.le_of_ble_eq_true rfl)) dX2_sink_22 ⟨Nat.zero_le _, Nat.zero_le _⟩) hP hD hS hA [2] [0, 1] [0, 1, 2] rfl rfl rfl (by decide) rfl rfl (fun H locs hP hD hS => ?_)
    refine lv_iadd hx hb dX2_sink_25 ?_
    refine va_put (D := D) (ci := 2) (v := .int (v_plaintiffs + r4)) (ty := .int) (C := RX2) (T := TX2) (N := 6) hx hb hts iX2 tyX2 tyX2_ok nmX2 hown hK.1 hP hD hS 0 rfl rfl 2 (by decide) l18 (fun _ h9 => h9) rfl (by decide +kernel) rfl rfl (Nat.le_of_ble_eq_true rfl) dX2_sink_26 (fun H locs hP hD hS => ?_)
    have hP : va_P D vwCl [(a_this, .inr (2, [o_this_decided, .int x2, .int (v_plaintiffs + r4), o_this_defendants, .int v_poor, o_this_worths])), (a_p1, .inr (0, (o_p1_weight :: o_p1_hole :: o_p1_held :: .int v_p1_law :: o_p1_many :: o_p1_sights :: o_p1_full :: o_p1_first :: o_p1_second :: .ref a_p1_worth :: o_p1_winner :: o_p1_row :: o_p1_sightWeight :: o_p1_sightMany :: []))), (a_p1_worth, .inl (cI, 6, .inl v_p1_worth))] H := hP
    have hD : va_D A [(a_this, .inr (2, [o_this_decided, .int x2, .int (v_plaintiffs + r4), o_this_defendants, .int v_poor, o_this_worths])), (a_p1, .inr (0, (o_p1_weight :: o_p1_hole :: o_p1_held :: .int v_p1_law :: o_p1_many :: o_p1_sights :: o_p1_full :: o_p1_first :: o_p1_second :: .ref a_p1_worth :: o_p1_winner :: o_p1_row :: o_p1_sightWeight :: o_p1_sightMany :: []))), (a_p1_worth, .inl (cI, 6, .inl v_p1_worth))] := hD
    refine lv_goto (tgt := 49) hx hb dX2_sink_29 (by decide) ?_
    cases hf
    subst hQ
    exact k_rv hx hb hr hlocks hP hD hS dX2_sink_49

set_option maxHeartbeats 4000000 in
set_option maxRecDepth 100000 in
theorem tX2_decide (l : Launch) (D : va_G) (cI cJ cZ cB : ClassId) (a_this : Nat) (a_p1 : Nat) (a_p1_worth : Nat) (a_p1_winner : Nat) (o_this_sunk : Value) (o_this_poor : Value) (o_p1_weight : Value) (o_p1_hole : Value) (o_p1_held : Value) (o_p1_law : Value) (o_p1_many : Value) (o_p1_sights : Value) (o_p1_full : Value) (o_p1_first : Value) (o_p1_second : Value) (o_p1_row : Value) (o_p1_sightWeight : Value) (o_p1_sightMany : Value) (x2 : Int32) (v_decided : Int32) (v_worths : Int32) (v_plaintiffs : Int32) (v_defendants : Int32) (v_p1_worth : Nat → Int32) (v_p1_winner : Nat → Int32) (w_decided : Int32) (w_worths : Int32) (w_plaintiffs : Int32) (w_defendants : Int32) (hf : fX2_decide x2 v_decided v_worths v_plaintiffs v_defendants v_p1_worth v_p1_winner = some (w_decided, w_worths, w_plaintiffs, w_defendants)) : MW l yX2_decide wsX2_decide { frames := 1, cells := 0, slots := 0, locals := 21 } D cI cJ cZ cB [(a_this, .inr (2, [.int v_decided, o_this_sunk, .int v_plaintiffs, .int v_defendants, o_this_poor, .int v_worths])), (a_p1, .inr (0, (o_p1_weight :: o_p1_hole :: o_p1_held :: o_p1_law :: o_p1_many :: o_p1_sights :: o_p1_full :: o_p1_first :: o_p1_second :: .ref a_p1_worth :: .ref a_p1_winner :: o_p1_row :: o_p1_sightWeight :: o_p1_sightMany :: []))), (a_p1_worth, .inl (cI, 6, .inl v_p1_worth)), (a_p1_winner, .inl (cI, 6, .inl v_p1_winner))] [.ref a_this, .ref a_p1, .int x2] (QWv D [(a_this, .inr (2, [.int w_decided, o_this_sunk, .int w_plaintiffs, .int w_defendants, o_this_poor, .int w_worths])), (a_p1, .inr (0, (o_p1_weight :: o_p1_hole :: o_p1_held :: o_p1_law :: o_p1_many :: o_p1_sights :: o_p1_full :: o_p1_first :: o_p1_second :: .ref a_p1_worth :: .ref a_p1_winner :: o_p1_row :: o_p1_sightWeight :: o_p1_sightMany :: []))), (a_p1_worth, .inl (cI, 6, .inl v_p1_worth)), (a_p1_winner, .inl (cI, 6, .inl v_p1_winner))]) := by
  refine k_body (cc := cX2_decide) (maxL := 3) (ret := none) (by decide) rfl (Nat.le_of_ble_eq_true rfl) ?_
  intro p e s m args below meth c hx hb hr hml hts hown hlocks hname hK A hA hP hD hS ls hl
  have hl : lv_has ls 3 [(0, .ref a_this), (1, .ref a_p1), (2, .int x2)] := hl
  generalize hQ : MQ below ((QWv D [(a_this, .inr (2, [.int w_decided, o_this_sunk, .int w_plaintiffs, .int w_defendants, o_this_poor, .int w_worths])), (a_p1, .inr (0, (o_p1_weight :: o_p1_hole :: o_p1_held :: o_p1_law :: o_p1_many :: o_p1_sights :: o_p1_full :: o_p1_first :: o_p1_second :: .ref a_p1_worth :: .ref a_p1_winner :: o_p1_row :: o_p1_sightWeight :: o_p1_sightMany :: []))), (a_p1_worth, .inl (cI, 6, .inl v_p1_worth)), (a_p1_winner, .inl (cI, 6, .inl v_p1_winner))]) A) args s 0 0 A = Q
  obtain ⟨H, hH⟩ : ∃ H, H = s.heap := ⟨_, rfl⟩
  obtain ⟨locs, hlo⟩ : ∃ z : List Loc, z = [] := ⟨_, rfl⟩
  have hP : va_P D vwCl [(a_this, .inr (2, [.int v_decided, o_this_sunk, .int v_plaintiffs, .int v_defendants, o_this_poor, .int v_worths])), (a_p1, .inr (0, (o_p1_weight :: o_p1_hole :: o_p1_held :: o_p1_law :: o_p1_many :: o_p1_sights :: o_p1_full :: o_p1_first :: o_p1_second :: .ref a_p1_worth :: .ref a_p1_winner :: o_p1_row :: o_p1_sightWeight :: o_p1_sightMany :: []))), (a_p1_worth, .inl (cI, 6, .inl v_p1_worth)), (a_p1_winner, .inl (cI, 6, .inl v_p1_winner))] H := by rw [hH]; exact hP
  have hS : va_S A s.heap H locs := by rw [hH, hlo]; exact hS
  suffices hg : W p l e (headSpec wsX2_decide { frames := 1, cells := 0, slots := 0, locals := 21 }).room s m args below meth c H locs 0 0 Q (F0 m 0 ls []) by rw [hH, hlo] at hg; exact hg
  have l9 := hts (.fieldLink RX2 9 "CandleCourt$Sitting" "decided" "I") (by decide +kernel)
  have l18 := hts (.fieldLink RX2 18 "CandleCourt$Sitting" "plaintiffs" "I") (by decide +kernel)
  have l21 := hts (.fieldLink RX2 21 "CandleCourt$Sitting" "defendants" "I") (by decide +kernel)
  have l27 := hts (.fieldLink RX2 27 "CandleCourt$Sitting" "worths" "I") (by decide +kernel)
  have l50 := hts (.fieldLink RX2 50 "CandleCourt$Bench" "worth" "[I") (by decide +kernel)
  have l54 := hts (.fieldLink RX2 54 "CandleCourt$Bench" "winner" "[I") (by decide +kernel)
  have iX0 : ∀ w ∈ wsX00, w ∈ wsX2_decide := by decide +kernel
  have iX2 : ∀ w ∈ wsX20, w ∈ wsX2_decide := by decide +kernel
  unfold fX2_decide at hf
  refine lv_aload_n hx hb dX2_decide_0 rfl (lv_at hl 0 rfl) ?_
  refine lv_dup hx hb dX2_decide_1 rfl ?_
  refine va_get (D := D) (ci := 2) (v := .int v_decided) (C := RX2) (T := TX2) (N := 6) hx hb hts iX2 hown hK.1 hP 0 rfl rfl 0 (by decide) l9 (fun _ h9 => h9) rfl dX2_decide_2 ?_
  refine lv_iconst (v := 1) hx hb dX2_decide_5 (by decide) ?_
  refine lv_iadd hx hb dX2_decide_6 ?_
  refine va_put (D := D) (ci := 2) (v := .int (v_decided + 1)) (ty := .int) (C := RX2) (T := TX2) (N := 6) hx hb hts iX2 tyX2 tyX2_ok nmX2 hown hK.1 hP hD hS 0 rfl rfl 0 (by decide) l9 (fun _ h9 => h9) rfl (by decide +kernel) rfl rfl (Nat.le_of_ble_eq_true rfl) dX2_decide_7 (fun H locs hP hD hS => ?_)
  have hP : va_P D vwCl [(a_this, .inr (2, [.int (v_decided + 1), o_this_sunk, .int v_plaintiffs, .int v_defendants, o_this_poor, .int v_worths])), (a_p1, .inr (0, (o_p1_weight :: o_p1_hole :: o_p1_held :: o_p1_law :: o_p1_many :: o_p1_sights :: o_p1_full :: o_p1_first :: o_p1_second :: .ref a_p1_worth :: .ref a_p1_winner :: o_p1_row :: o_p1_sightWeight :: o_p1_sightMany :: []))), (a_p1_worth, .inl (cI, 6, .inl v_p1_worth)), (a_p1_winner, .inl (cI, 6, .inl v_p1_winner))] H := hP
  have hD : va_D A [(a_this, .inr (2, [.int (v_decided + 1), o_this_sunk, .int v_plaintiffs, .int v_defendants, o_this_poor, .int v_worths])), (a_p1, .inr (0, (o_p1_weight :: o_p1_hole :: o_p1_held :: o_p1_law :: o_p1_many :: o_p1_sights :: o_p1_full :: o_p1_first :: o_p1_second :: .ref a_p1_worth :: .ref a_p1_winner :: o_p1_row :: o_p1_sightWeight :: o_p1_sightMany :: []))), (a_p1_worth, .inl (cI, 6, .inl v_p1_worth)), (a_p1_winner, .inl (cI, 6, .inl v_p1_winner))] := hD
  refine lv_aload_n hx hb dX2_decide_10 rfl (lv_at hl 0 rfl) ?_
  refine lv_dup hx hb dX2_decide_11 rfl ?_
  refine va_get (D := D) (ci := 2) (v := .int v_worths) (C := RX2) (T := TX2) (N := 6) hx hb hts iX2 hown hK.1 hP 0 rfl rfl 5 (by decide) l27 (fun _ h9 => h9) rfl dX2_decide_12 ?_
  refine lv_aload_n hx hb dX2_decide_15 rfl (lv_at hl 1 rfl) ?_
  refine va_get (D := D) (ci := 0) (v := .ref a_p1_worth) (C := RX0) (T := TX0) (N := 14) hx hb hts iX0 hown hK.1 hP 1 rfl rfl 9 (by decide) l50 (fun _ h9 => h9) rfl dX2_decide_16 ?_
  refine lv_iload_n hx hb dX2_decide_19 rfl (lv_at hl 2 rfl) ?_
  obtain ⟨r1, hc2, hf⟩ := bnd1_some hf
  refine k_ci (wc := [(a_p1_worth, .inl (cI, 6, .inl v_p1_worth))]) (wr := [(a_this, .inr (2, [.int (v_decided + 1), o_this_sunk, .int v_plaintiffs, .int v_defendants, o_this_poor, .int v_worths])), (a_p1, .inr (0, (o_p1_weight :: o_p1_hole :: o_p1_held :: o_p1_law :: o_p1_many :: o_p1_sights :: o_p1_full :: o_p1_first :: o_p1_second :: .ref a_p1_worth :: .ref a_p1_winner :: o_p1_row :: o_p1_sightWeight :: o_p1_sightMany :: []))), (a_p1_winner, .inl (cI, 6, .inl v_p1_winner))]) (w1 := [(a_p1_worth, .inl (cI, 6, .inl v_p1_worth))]) (ws' := [(a_this, .inr (2, [.int (v_decided + 1), o_this_sunk, .int v_plaintiffs, .int v_defendants, o_this_poor, .int v_worths])), (a_p1, .inr (0, (o_p1_weight :: o_p1_hole :: o_p1_held :: o_p1_law :: o_p1_many :: o_p1_sights :: o_p1_full :: o_p1_first :: o_p1_second :: .ref a_p1_worth :: .ref a_p1_winner :: o_p1_row :: o_p1_sightWeight :: o_p1_sightMany :: []))), (a_p1_worth, .inl (cI, 6, .inl v_p1_worth)), (a_p1_winner, .inl (cI, 6, .inl v_p1_winner))]) (va_runSN (As := [.ref a_p1_worth, .int x2]) (rest := [.int v_worths, .ref a_this]) ⟨hx, hb, hml, hown, hts⟩ (tX3_at l D cI cJ cZ cB a_p1_worth 6 x2 v_p1_worth r1 hc2 H.size) ⟨va_cnB 2 hts gX2_decide_X3_at_n35 rfl rfl rfl hK.2.2.2.2.2.2.2.2 (hts (.initialized RX3) (by decide +kernel)) (by decide +kernel) ⟨Nat.le_of_ble_eq_true rfl, Nat.le_of_ble_eq_true rfl⟩, hts (.static yX3_at) (by decide +kernel), trivial⟩ (k_preS (is := [2]) hK hP hD rfl rfl) rfl rfl hl.1 rfl (lv_room (Nat.le_of_ble_eq_true rfl)) dX2_decide_20 ⟨Nat.zero_le _, Nat.zero_le _⟩) hP hD hS hA [2] [0, 1, 3] [0, 1, 3, 2] rfl rfl rfl (by decide) rfl rfl (fun H locs hP hD hS => ?_)
  refine lv_iadd hx hb dX2_decide_23 ?_
  refine va_put (D := D) (ci := 2) (v := .int (v_worths + r1)) (ty := .int) (C := RX2) (T := TX2) (N := 6) hx hb hts iX2 tyX2 tyX2_ok nmX2 hown hK.1 hP hD hS 0 rfl rfl 5 (by decide) l27 (fun _ h9 => h9) rfl (by decide +kernel) rfl rfl (Nat.le_of_ble_eq_true rfl) dX2_decide_24 (fun H locs hP hD hS => ?_)
  have hP : va_P D vwCl [(a_this, .inr (2, [.int (v_decided + 1), o_this_sunk, .int v_plaintiffs, .int v_defendants, o_this_poor, .int (v_worths + r1)])), (a_p1, .inr (0, (o_p1_weight :: o_p1_hole :: o_p1_held :: o_p1_law :: o_p1_many :: o_p1_sights :: o_p1_full :: o_p1_first :: o_p1_second :: .ref a_p1_worth :: .ref a_p1_winner :: o_p1_row :: o_p1_sightWeight :: o_p1_sightMany :: []))), (a_p1_worth, .inl (cI, 6, .inl v_p1_worth)), (a_p1_winner, .inl (cI, 6, .inl v_p1_winner))] H := hP
  have hD : va_D A [(a_this, .inr (2, [.int (v_decided + 1), o_this_sunk, .int v_plaintiffs, .int v_defendants, o_this_poor, .int (v_worths + r1)])), (a_p1, .inr (0, (o_p1_weight :: o_p1_hole :: o_p1_held :: o_p1_law :: o_p1_many :: o_p1_sights :: o_p1_full :: o_p1_first :: o_p1_second :: .ref a_p1_worth :: .ref a_p1_winner :: o_p1_row :: o_p1_sightWeight :: o_p1_sightMany :: []))), (a_p1_worth, .inl (cI, 6, .inl v_p1_worth)), (a_p1_winner, .inl (cI, 6, .inl v_p1_winner))] := hD
  refine lv_aload_n hx hb dX2_decide_27 rfl (lv_at hl 1 rfl) ?_
  refine va_get (D := D) (ci := 0) (v := .ref a_p1_winner) (C := RX0) (T := TX0) (N := 14) hx hb hts iX0 hown hK.1 hP 1 rfl rfl 10 (by decide) l54 (fun _ h9 => h9) rfl dX2_decide_28 ?_
  refine lv_iload_n hx hb dX2_decide_31 rfl (lv_at hl 2 rfl) ?_
  obtain ⟨r3, hc4, hf⟩ := bnd1_some hf
  refine k_ci (wc := [(a_p1_winner, .inl (cI, 6, .inl v_p1_winner))]) (wr := [(a_this, .inr (2, [.int (v_decided + 1), o_this_sunk, .int v_plaintiffs, .int v_defendants, o_this_poor, .int (v_worths + r1)])), (a_p1, .inr (0, (o_p1_weight :: o_p1_hole :: o_p1_held :: o_p1_law :: o_p1_many :: o_p1_sights :: o_p1_full :: o_p1_first :: o_p1_second :: .ref a_p1_worth :: .ref a_p1_winner :: o_p1_row :: o_p1_sightWeight :: o_p1_sightMany :: []))), (a_p1_worth, .inl (cI, 6, .inl v_p1_worth))]) (w1 := [(a_p1_winner, .inl (cI, 6, .inl v_p1_winner))]) (ws' := [(a_this, .inr (2, [.int (v_decided + 1), o_this_sunk, .int v_plaintiffs, .int v_defendants, o_this_poor, .int (v_worths + r1)])), (a_p1, .inr (0, (o_p1_weight :: o_p1_hole :: o_p1_held :: o_p1_law :: o_p1_many :: o_p1_sights :: o_p1_full :: o_p1_first :: o_p1_second :: .ref a_p1_worth :: .ref a_p1_winner :: o_p1_row :: o_p1_sightWeight :: o_p1_sightMany :: []))), (a_p1_worth, .inl (cI, 6, .inl v_p1_worth)), (a_p1_winner, .inl (cI, 6, .inl v_p1_winner))]) (va_runSN (As := [.ref a_p1_winner, .int x2]) (rest := []) ⟨hx, hb, hml, hown, hts⟩ (tX3_at l D cI cJ cZ cB a_p1_winner 6 x2 v_p1_winner r3 hc4 H.size) ⟨va_cnB 2 hts gX2_decide_X3_at_n35 rfl rfl rfl hK.2.2.2.2.2.2.2.2 (hts (.initialized RX3) (by decide +kernel)) (by decide +kernel) ⟨Nat.le_of_ble_eq_true rfl, Nat.le_of_ble_eq_true rfl⟩, hts (.static yX3_at) (by decide +kernel), trivial⟩ (k_preS (is := [3]) hK hP hD rfl rfl) rfl rfl hl.1 rfl (lv_room (Nat.le_of_ble_eq_true rfl)) dX2_decide_32 ⟨Nat.zero_le _, Nat.zero_le _⟩) hP hD hS hA [3] [0, 1, 2] [0, 1, 2, 3] rfl rfl rfl (by decide) rfl rfl (fun H locs hP hD hS => ?_)
  refine lv_if_ne (tgt := 58) hx hb dX2_decide_35 (by decide) (fun c5 => ?_) (fun c5 => ?_)
  · have hf := (if_neg c5).symm.trans hf
    refine lv_aload_n hx hb dX2_decide_58 rfl (lv_at hl 0 rfl) ?_
    refine lv_dup hx hb dX2_decide_59 rfl ?_
    refine va_get (D := D) (ci := 2) (v := .int v_defendants) (C := RX2) (T := TX2) (N := 6) hx hb hts iX2 hown hK.1 hP 0 rfl rfl 3 (by decide) l21 (fun _ h9 => h9) rfl dX2_decide_60 ?_
    refine lv_aload_n hx hb dX2_decide_63 rfl (lv_at hl 1 rfl) ?_
    refine va_get (D := D) (ci := 0) (v := .ref a_p1_worth) (C := RX0) (T := TX0) (N := 14) hx hb hts iX0 hown hK.1 hP 1 rfl rfl 9 (by decide) l50 (fun _ h9 => h9) rfl dX2_decide_64 ?_
    refine lv_iload_n hx hb dX2_decide_67 rfl (lv_at hl 2 rfl) ?_
    obtain ⟨r6, hc7, hf⟩ := bnd1_some hf
    refine k_ci (wc := [(a_p1_worth, .inl (cI, 6, .inl v_p1_worth))]) (wr := [(a_this, .inr (2, [.int (v_decided + 1), o_this_sunk, .int v_plaintiffs, .int v_defendants, o_this_poor, .int (v_worths + r1)])), (a_p1, .inr (0, (o_p1_weight :: o_p1_hole :: o_p1_held :: o_p1_law :: o_p1_many :: o_p1_sights :: o_p1_full :: o_p1_first :: o_p1_second :: .ref a_p1_worth :: .ref a_p1_winner :: o_p1_row :: o_p1_sightWeight :: o_p1_sightMany :: []))), (a_p1_winner, .inl (cI, 6, .inl v_p1_winner))]) (w1 := [(a_p1_worth, .inl (cI, 6, .inl v_p1_worth))]) (ws' := [(a_this, .inr (2, [.int (v_decided + 1), o_this_sunk, .int v_plaintiffs, .int v_defendants, o_this_poor, .int (v_worths + r1)])), (a_p1, .inr (0, (o_p1_weight :: o_p1_hole :: o_p1_held :: o_p1_law :: o_p1_many :: o_p1_sights :: o_p1_full :: o_p1_first :: o_p1_second :: .ref a_p1_worth :: .ref a_p1_winner :: o_p1_row :: o_p1_sightWeight :: o_p1_sightMany :: []))), (a_p1_worth, .inl (cI, 6, .inl v_p1_worth)), (a_p1_winner, .inl (cI, 6, .inl v_p1_winner))]) (va_runSN (As := [.ref a_p1_worth, .int x2]) (rest := [.int v_defendants, .ref a_this]) ⟨hx, hb, hml, hown, hts⟩ (tX3_at l D cI cJ cZ cB a_p1_worth 6 x2 v_p1_worth r6 hc7 H.size) ⟨va_cnB 2 hts gX2_decide_X3_at_n35 rfl rfl rfl hK.2.2.2.2.2.2.2.2 (hts (.initialized RX3) (by decide +kernel)) (by decide +kernel) ⟨Nat.le_of_ble_eq_true rfl, Nat.le_of_ble_eq_true rfl⟩, hts (.static yX3_at) (by decide +kernel), trivial⟩ (k_preS (is := [2]) hK hP hD rfl rfl) rfl rfl hl.1 rfl (lv_room (Nat.le_of_ble_eq_true rfl)) dX2_decide_68 ⟨Nat.zero_le _, Nat.zero_le _⟩) hP hD hS hA [2] [0, 1, 3] [0, 1, 3, 2] rfl rfl rfl (by decide) rfl rfl (fun H locs hP hD hS => ?_)
    refine lv_iadd hx hb dX2_decide_71 ?_
    refine va_put (D := D) (ci := 2) (v := .int (v_defendants + r6)) (ty := .int) (C := RX2) (T := TX2) (N := 6) hx hb hts iX2 tyX2 tyX2_ok nmX2 hown hK.1 hP hD hS 0 rfl rfl 3 (by decide) l21 (fun _ h9 => h9) rfl (by decide +kernel) rfl rfl (Nat.le_of_ble_eq_true rfl) dX2_decide_72 (fun H locs hP hD hS => ?_)
    have hP : va_P D vwCl [(a_this, .inr (2, [.int (v_decided + 1), o_this_sunk, .int v_plaintiffs, .int (v_defendants + r6), o_this_poor, .int (v_worths + r1)])), (a_p1, .inr (0, (o_p1_weight :: o_p1_hole :: o_p1_held :: o_p1_law :: o_p1_many :: o_p1_sights :: o_p1_full :: o_p1_first :: o_p1_second :: .ref a_p1_worth :: .ref a_p1_winner :: o_p1_row :: o_p1_sightWeight :: o_p1_sightMany :: []))), (a_p1_worth, .inl (cI, 6, .inl v_p1_worth)), (a_p1_winner, .inl (cI, 6, .inl v_p1_winner))] H := hP
    have hD : va_D A [(a_this, .inr (2, [.int (v_decided + 1), o_this_sunk, .int v_plaintiffs, .int (v_defendants + r6), o_this_poor, .int (v_worths + r1)])), (a_p1, .inr (0, (o_p1_weight :: o_p1_hole :: o_p1_held :: o_p1_law :: o_p1_many :: o_p1_sights :: o_p1_full :: o_p1_first :: o_p1_second :: .ref a_p1_worth :: .ref a_p1_winner :: o_p1_row :: o_p1_sightWeight :: o_p1_sightMany :: []))), (a_p1_worth, .inl (cI, 6, .inl v_p1_worth)), (a_p1_winner, .inl (cI, 6, .inl v_p1_winner))] := hD
    cases hf
    subst hQ
    exact k_rv hx hb hr hlocks hP hD hS dX2_decide_75
  · have hf := (if_pos c5).symm.trans hf
    refine lv_aload_n hx hb dX2_decide_38 rfl (lv_at hl 0 rfl) ?_
    refine lv_dup hx hb dX2_decide_39 rfl ?_
    refine va_get (D := D) (ci := 2) (v := .int v_plaintiffs) (C := RX2) (T := TX2) (N := 6) hx hb hts iX2 hown hK.1 hP 0 rfl rfl 2 (by decide) l18 (fun _ h9 => h9) rfl dX2_decide_40 ?_
    refine lv_aload_n hx hb dX2_decide_43 rfl (lv_at hl 1 rfl) ?_
    refine va_get (D := D) (ci := 0) (v := .ref a_p1_worth) (C := RX0) (T := TX0) (N := 14) hx hb hts iX0 hown hK.1 hP 1 rfl rfl 9 (by decide) l50 (fun _ h9 => h9) rfl dX2_decide_44 ?_
    refine lv_iload_n hx hb dX2_decide_47 rfl (lv_at hl 2 rfl) ?_
    obtain ⟨r8, hc9, hf⟩ := bnd1_some hf
    refine k_ci (wc := [(a_p1_worth, .inl (cI, 6, .inl v_p1_worth))]) (wr := [(a_this, .inr (2, [.int (v_decided + 1), o_this_sunk, .int v_plaintiffs, .int v_defendants, o_this_poor, .int (v_worths + r1)])), (a_p1, .inr (0, (o_p1_weight :: o_p1_hole :: o_p1_held :: o_p1_law :: o_p1_many :: o_p1_sights :: o_p1_full :: o_p1_first :: o_p1_second :: .ref a_p1_worth :: .ref a_p1_winner :: o_p1_row :: o_p1_sightWeight :: o_p1_sightMany :: []))), (a_p1_winner, .inl (cI, 6, .inl v_p1_winner))]) (w1 := [(a_p1_worth, .inl (cI, 6, .inl v_p1_worth))]) (ws' := [(a_this, .inr (2, [.int (v_decided + 1), o_this_sunk, .int v_plaintiffs, .int v_defendants, o_this_poor, .int (v_worths + r1)])), (a_p1, .inr (0, (o_p1_weight :: o_p1_hole :: o_p1_held :: o_p1_law :: o_p1_many :: o_p1_sights :: o_p1_full :: o_p1_first :: o_p1_second :: .ref a_p1_worth :: .ref a_p1_winner :: o_p1_row :: o_p1_sightWeight :: o_p1_sightMany :: []))), (a_p1_worth, .inl (cI, 6, .inl v_p1_worth)), (a_p1_winner, .inl (cI, 6, .inl v_p1_winner))]) (va_runSN (As := [.ref a_p1_worth, .int x2]) (rest := [.int v_plaintiffs, .ref a_this]) ⟨hx, hb, hml, hown, hts⟩ (tX3_at l D cI cJ cZ cB a_p1_worth 6 x2 v_p1_worth r8 hc9 H.size) ⟨va_cnB 2 hts gX2_decide_X3_at_n35 rfl rfl rfl hK.2.2.2.2.2.2.2.2 (hts (.initialized RX3) (by decide +kernel)) (by decide +kernel) ⟨Nat.le_of_ble_eq_true rfl, Nat.le_of_ble_eq_true rfl⟩, hts (.static yX3_at) (by decide +kernel), trivial⟩ (k_preS (is := [2]) hK hP hD rfl rfl) rfl rfl hl.1 rfl (lv_room (Nat.le_of_ble_eq_true rfl)) dX2_decide_48 ⟨Nat.zero_le _, Nat.zero_le _⟩) hP hD hS hA [2] [0, 1, 3] [0, 1, 3, 2] rfl rfl rfl (by decide) rfl rfl (fun H locs hP hD hS => ?_)
    refine lv_iadd hx hb dX2_decide_51 ?_
    refine va_put (D := D) (ci := 2) (v := .int (v_plaintiffs + r8)) (ty := .int) (C := RX2) (T := TX2) (N := 6) hx hb hts iX2 tyX2 tyX2_ok nmX2 hown hK.1 hP hD hS 0 rfl rfl 2 (by decide) l18 (fun _ h9 => h9) rfl (by decide +kernel) rfl rfl (Nat.le_of_ble_eq_true rfl) dX2_decide_52 (fun H locs hP hD hS => ?_)
    have hP : va_P D vwCl [(a_this, .inr (2, [.int (v_decided + 1), o_this_sunk, .int (v_plaintiffs + r8), .int v_defendants, o_this_poor, .int (v_worths + r1)])), (a_p1, .inr (0, (o_p1_weight :: o_p1_hole :: o_p1_held :: o_p1_law :: o_p1_many :: o_p1_sights :: o_p1_full :: o_p1_first :: o_p1_second :: .ref a_p1_worth :: .ref a_p1_winner :: o_p1_row :: o_p1_sightWeight :: o_p1_sightMany :: []))), (a_p1_worth, .inl (cI, 6, .inl v_p1_worth)), (a_p1_winner, .inl (cI, 6, .inl v_p1_winner))] H := hP
    have hD : va_D A [(a_this, .inr (2, [.int (v_decided + 1), o_this_sunk, .int (v_plaintiffs + r8), .int v_defendants, o_this_poor, .int (v_worths + r1)])), (a_p1, .inr (0, (o_p1_weight :: o_p1_hole :: o_p1_held :: o_p1_law :: o_p1_many :: o_p1_sights :: o_p1_full :: o_p1_first :: o_p1_second :: .ref a_p1_worth :: .ref a_p1_winner :: o_p1_row :: o_p1_sightWeight :: o_p1_sightMany :: []))), (a_p1_worth, .inl (cI, 6, .inl v_p1_worth)), (a_p1_winner, .inl (cI, 6, .inl v_p1_winner))] := hD
    refine lv_goto (tgt := 75) hx hb dX2_decide_55 (by decide) ?_
    cases hf
    subst hQ
    exact k_rv hx hb hr hlocks hP hD hS dX2_decide_75

set_option maxHeartbeats 4000000 in
set_option maxRecDepth 100000 in
theorem tX2_plead (l : Launch) (D : va_G) (cI cJ cZ cB : ClassId) (a_this : Nat) (a_p1 : Nat) (a_p2 : Nat) (a_p1_first : Nat) (a_p1_second : Nat) (a_p1_worth : Nat) (a_p1_winner : Nat) (n_p2 : Nat) (o_p1_weight : Value) (o_p1_hole : Value) (o_p1_held : Value) (o_p1_sights : Value) (o_p1_full : Value) (o_p1_row : Value) (o_p1_sightWeight : Value) (o_p1_sightMany : Value) (x3 : Int32) (x4 : Int32) (x5 : Int32) (x6 : Int32) (v_decided : Int32) (v_sunk : Int32) (v_plaintiffs : Int32) (v_defendants : Int32) (v_poor : Int32) (v_worths : Int32) (v_p1_many : Int32) (v_p1_law : Int32) (v_p2 : Nat → Int32) (v_p1_first : Nat → Int32) (v_p1_second : Nat → Int32) (v_p1_worth : Nat → Int32) (v_p1_winner : Nat → Int32) (w_decided : Int32) (w_sunk : Int32) (w_plaintiffs : Int32) (w_defendants : Int32) (w_poor : Int32) (w_worths : Int32) (hf : fX2_plead x3 x4 x5 x6 v_p1_many v_p1_law v_p2 v_p1_first v_p1_second v_p1_worth v_p1_winner n_p2 = some (w_decided, w_sunk, w_plaintiffs, w_defendants, w_poor, w_worths)) : MW l yX2_plead wsX2_plead { frames := 2, cells := 0, slots := 0, locals := 43 } D cI cJ cZ cB [(a_this, .inr (2, [.int v_decided, .int v_sunk, .int v_plaintiffs, .int v_defendants, .int v_poor, .int v_worths])), (a_p1, .inr (0, (o_p1_weight :: o_p1_hole :: o_p1_held :: .int v_p1_law :: .int v_p1_many :: o_p1_sights :: o_p1_full :: .ref a_p1_first :: .ref a_p1_second :: .ref a_p1_worth :: .ref a_p1_winner :: o_p1_row :: o_p1_sightWeight :: o_p1_sightMany :: []))), (a_p2, .inl (cI, n_p2, .inl v_p2)), (a_p1_first, .inl (cI, 6, .inl v_p1_first)), (a_p1_second, .inl (cI, 6, .inl v_p1_second)), (a_p1_worth, .inl (cI, 6, .inl v_p1_worth)), (a_p1_winner, .inl (cI, 6, .inl v_p1_winner))] [.ref a_this, .ref a_p1, .ref a_p2, .int x3, .int x4, .int x5, .int x6] (QWv D [(a_this, .inr (2, [.int w_decided, .int w_sunk, .int w_plaintiffs, .int w_defendants, .int w_poor, .int w_worths])), (a_p1, .inr (0, (o_p1_weight :: o_p1_hole :: o_p1_held :: .int v_p1_law :: .int v_p1_many :: o_p1_sights :: o_p1_full :: .ref a_p1_first :: .ref a_p1_second :: .ref a_p1_worth :: .ref a_p1_winner :: o_p1_row :: o_p1_sightWeight :: o_p1_sightMany :: []))), (a_p2, .inl (cI, n_p2, .inl v_p2)), (a_p1_first, .inl (cI, 6, .inl v_p1_first)), (a_p1_second, .inl (cI, 6, .inl v_p1_second)), (a_p1_worth, .inl (cI, 6, .inl v_p1_worth)), (a_p1_winner, .inl (cI, 6, .inl v_p1_winner))]) := by
  refine k_body (cc := cX2_plead) (maxL := 10) (ret := none) (by decide) rfl (Nat.le_of_ble_eq_true rfl) ?_
  intro p e s m args below meth c hx hb hr hml hts hown hlocks hname hK A hA hP hD hS ls hl
  have hl : lv_has ls 10 [(0, .ref a_this), (1, .ref a_p1), (2, .ref a_p2), (3, .int x3), (4, .int x4), (5, .int x5), (6, .int x6)] := hl
  generalize hQ : MQ below ((QWv D [(a_this, .inr (2, [.int w_decided, .int w_sunk, .int w_plaintiffs, .int w_defendants, .int w_poor, .int w_worths])), (a_p1, .inr (0, (o_p1_weight :: o_p1_hole :: o_p1_held :: .int v_p1_law :: .int v_p1_many :: o_p1_sights :: o_p1_full :: .ref a_p1_first :: .ref a_p1_second :: .ref a_p1_worth :: .ref a_p1_winner :: o_p1_row :: o_p1_sightWeight :: o_p1_sightMany :: []))), (a_p2, .inl (cI, n_p2, .inl v_p2)), (a_p1_first, .inl (cI, 6, .inl v_p1_first)), (a_p1_second, .inl (cI, 6, .inl v_p1_second)), (a_p1_worth, .inl (cI, 6, .inl v_p1_worth)), (a_p1_winner, .inl (cI, 6, .inl v_p1_winner))]) A) args s 0 0 A = Q
  obtain ⟨H, hH⟩ : ∃ H, H = s.heap := ⟨_, rfl⟩
  obtain ⟨locs, hlo⟩ : ∃ z : List Loc, z = [] := ⟨_, rfl⟩
  have hP : va_P D vwCl [(a_this, .inr (2, [.int v_decided, .int v_sunk, .int v_plaintiffs, .int v_defendants, .int v_poor, .int v_worths])), (a_p1, .inr (0, (o_p1_weight :: o_p1_hole :: o_p1_held :: .int v_p1_law :: .int v_p1_many :: o_p1_sights :: o_p1_full :: .ref a_p1_first :: .ref a_p1_second :: .ref a_p1_worth :: .ref a_p1_winner :: o_p1_row :: o_p1_sightWeight :: o_p1_sightMany :: []))), (a_p2, .inl (cI, n_p2, .inl v_p2)), (a_p1_first, .inl (cI, 6, .inl v_p1_first)), (a_p1_second, .inl (cI, 6, .inl v_p1_second)), (a_p1_worth, .inl (cI, 6, .inl v_p1_worth)), (a_p1_winner, .inl (cI, 6, .inl v_p1_winner))] H := by rw [hH]; exact hP
  have hS : va_S A s.heap H locs := by rw [hH, hlo]; exact hS
  suffices hg : W p l e (headSpec wsX2_plead { frames := 2, cells := 0, slots := 0, locals := 43 }).room s m args below meth c H locs 0 0 Q (F0 m 0 ls []) by rw [hH, hlo] at hg; exact hg
  have l9 := hts (.fieldLink RX2 9 "CandleCourt$Sitting" "decided" "I") (by decide +kernel)
  have l15 := hts (.fieldLink RX2 15 "CandleCourt$Sitting" "sunk" "I") (by decide +kernel)
  have l18 := hts (.fieldLink RX2 18 "CandleCourt$Sitting" "plaintiffs" "I") (by decide +kernel)
  have l21 := hts (.fieldLink RX2 21 "CandleCourt$Sitting" "defendants" "I") (by decide +kernel)
  have l24 := hts (.fieldLink RX2 24 "CandleCourt$Sitting" "poor" "I") (by decide +kernel)
  have l27 := hts (.fieldLink RX2 27 "CandleCourt$Sitting" "worths" "I") (by decide +kernel)
  have l30 := hts (.fieldLink RX2 30 "CandleCourt$Bench" "many" "I") (by decide +kernel)
  have iX0 : ∀ w ∈ wsX00, w ∈ wsX2_plead := by decide +kernel
  have iX2 : ∀ w ∈ wsX20, w ∈ wsX2_plead := by decide +kernel
  unfold fX2_plead at hf
  refine lv_aload_n hx hb dX2_plead_0 rfl (lv_at hl 0 rfl) ?_
  refine lv_iconst (v := 0) hx hb dX2_plead_1 (by decide) ?_
  refine va_put (D := D) (ci := 2) (v := .int 0) (ty := .int) (C := RX2) (T := TX2) (N := 6) hx hb hts iX2 tyX2 tyX2_ok nmX2 hown hK.1 hP hD hS 0 rfl rfl 0 (by decide) l9 (fun _ h9 => h9) rfl (by decide +kernel) rfl rfl (Nat.le_of_ble_eq_true rfl) dX2_plead_2 (fun H locs hP hD hS => ?_)
  have hP : va_P D vwCl [(a_this, .inr (2, [.int 0, .int v_sunk, .int v_plaintiffs, .int v_defendants, .int v_poor, .int v_worths])), (a_p1, .inr (0, (o_p1_weight :: o_p1_hole :: o_p1_held :: .int v_p1_law :: .int v_p1_many :: o_p1_sights :: o_p1_full :: .ref a_p1_first :: .ref a_p1_second :: .ref a_p1_worth :: .ref a_p1_winner :: o_p1_row :: o_p1_sightWeight :: o_p1_sightMany :: []))), (a_p2, .inl (cI, n_p2, .inl v_p2)), (a_p1_first, .inl (cI, 6, .inl v_p1_first)), (a_p1_second, .inl (cI, 6, .inl v_p1_second)), (a_p1_worth, .inl (cI, 6, .inl v_p1_worth)), (a_p1_winner, .inl (cI, 6, .inl v_p1_winner))] H := hP
  have hD : va_D A [(a_this, .inr (2, [.int 0, .int v_sunk, .int v_plaintiffs, .int v_defendants, .int v_poor, .int v_worths])), (a_p1, .inr (0, (o_p1_weight :: o_p1_hole :: o_p1_held :: .int v_p1_law :: .int v_p1_many :: o_p1_sights :: o_p1_full :: .ref a_p1_first :: .ref a_p1_second :: .ref a_p1_worth :: .ref a_p1_winner :: o_p1_row :: o_p1_sightWeight :: o_p1_sightMany :: []))), (a_p2, .inl (cI, n_p2, .inl v_p2)), (a_p1_first, .inl (cI, 6, .inl v_p1_first)), (a_p1_second, .inl (cI, 6, .inl v_p1_second)), (a_p1_worth, .inl (cI, 6, .inl v_p1_worth)), (a_p1_winner, .inl (cI, 6, .inl v_p1_winner))] := hD
  refine lv_aload_n hx hb dX2_plead_5 rfl (lv_at hl 0 rfl) ?_
  refine lv_bipush (v := (-6)) hx hb dX2_plead_6 (by decide) ?_
  refine va_put (D := D) (ci := 2) (v := .int (-6)) (ty := .int) (C := RX2) (T := TX2) (N := 6) hx hb hts iX2 tyX2 tyX2_ok nmX2 hown hK.1 hP hD hS 0 rfl rfl 1 (by decide) l15 (fun _ h9 => h9) rfl (by decide +kernel) rfl rfl (Nat.le_of_ble_eq_true rfl) dX2_plead_8 (fun H locs hP hD hS => ?_)
  have hP : va_P D vwCl [(a_this, .inr (2, [.int 0, .int (-6), .int v_plaintiffs, .int v_defendants, .int v_poor, .int v_worths])), (a_p1, .inr (0, (o_p1_weight :: o_p1_hole :: o_p1_held :: .int v_p1_law :: .int v_p1_many :: o_p1_sights :: o_p1_full :: .ref a_p1_first :: .ref a_p1_second :: .ref a_p1_worth :: .ref a_p1_winner :: o_p1_row :: o_p1_sightWeight :: o_p1_sightMany :: []))), (a_p2, .inl (cI, n_p2, .inl v_p2)), (a_p1_first, .inl (cI, 6, .inl v_p1_first)), (a_p1_second, .inl (cI, 6, .inl v_p1_second)), (a_p1_worth, .inl (cI, 6, .inl v_p1_worth)), (a_p1_winner, .inl (cI, 6, .inl v_p1_winner))] H := hP
  have hD : va_D A [(a_this, .inr (2, [.int 0, .int (-6), .int v_plaintiffs, .int v_defendants, .int v_poor, .int v_worths])), (a_p1, .inr (0, (o_p1_weight :: o_p1_hole :: o_p1_held :: .int v_p1_law :: .int v_p1_many :: o_p1_sights :: o_p1_full :: .ref a_p1_first :: .ref a_p1_second :: .ref a_p1_worth :: .ref a_p1_winner :: o_p1_row :: o_p1_sightWeight :: o_p1_sightMany :: []))), (a_p2, .inl (cI, n_p2, .inl v_p2)), (a_p1_first, .inl (cI, 6, .inl v_p1_first)), (a_p1_second, .inl (cI, 6, .inl v_p1_second)), (a_p1_worth, .inl (cI, 6, .inl v_p1_worth)), (a_p1_winner, .inl (cI, 6, .inl v_p1_winner))] := hD
  refine lv_aload_n hx hb dX2_plead_11 rfl (lv_at hl 0 rfl) ?_
  refine lv_iconst (v := 0) hx hb dX2_plead_12 (by decide) ?_
  refine va_put (D := D) (ci := 2) (v := .int 0) (ty := .int) (C := RX2) (T := TX2) (N := 6) hx hb hts iX2 tyX2 tyX2_ok nmX2 hown hK.1 hP hD hS 0 rfl rfl 2 (by decide) l18 (fun _ h9 => h9) rfl (by decide +kernel) rfl rfl (Nat.le_of_ble_eq_true rfl) dX2_plead_13 (fun H locs hP hD hS => ?_)
  have hP : va_P D vwCl [(a_this, .inr (2, [.int 0, .int (-6), .int 0, .int v_defendants, .int v_poor, .int v_worths])), (a_p1, .inr (0, (o_p1_weight :: o_p1_hole :: o_p1_held :: .int v_p1_law :: .int v_p1_many :: o_p1_sights :: o_p1_full :: .ref a_p1_first :: .ref a_p1_second :: .ref a_p1_worth :: .ref a_p1_winner :: o_p1_row :: o_p1_sightWeight :: o_p1_sightMany :: []))), (a_p2, .inl (cI, n_p2, .inl v_p2)), (a_p1_first, .inl (cI, 6, .inl v_p1_first)), (a_p1_second, .inl (cI, 6, .inl v_p1_second)), (a_p1_worth, .inl (cI, 6, .inl v_p1_worth)), (a_p1_winner, .inl (cI, 6, .inl v_p1_winner))] H := hP
  have hD : va_D A [(a_this, .inr (2, [.int 0, .int (-6), .int 0, .int v_defendants, .int v_poor, .int v_worths])), (a_p1, .inr (0, (o_p1_weight :: o_p1_hole :: o_p1_held :: .int v_p1_law :: .int v_p1_many :: o_p1_sights :: o_p1_full :: .ref a_p1_first :: .ref a_p1_second :: .ref a_p1_worth :: .ref a_p1_winner :: o_p1_row :: o_p1_sightWeight :: o_p1_sightMany :: []))), (a_p2, .inl (cI, n_p2, .inl v_p2)), (a_p1_first, .inl (cI, 6, .inl v_p1_first)), (a_p1_second, .inl (cI, 6, .inl v_p1_second)), (a_p1_worth, .inl (cI, 6, .inl v_p1_worth)), (a_p1_winner, .inl (cI, 6, .inl v_p1_winner))] := hD
  refine lv_aload_n hx hb dX2_plead_16 rfl (lv_at hl 0 rfl) ?_
  refine lv_iconst (v := 0) hx hb dX2_plead_17 (by decide) ?_
  refine va_put (D := D) (ci := 2) (v := .int 0) (ty := .int) (C := RX2) (T := TX2) (N := 6) hx hb hts iX2 tyX2 tyX2_ok nmX2 hown hK.1 hP hD hS 0 rfl rfl 3 (by decide) l21 (fun _ h9 => h9) rfl (by decide +kernel) rfl rfl (Nat.le_of_ble_eq_true rfl) dX2_plead_18 (fun H locs hP hD hS => ?_)
  have hP : va_P D vwCl [(a_this, .inr (2, [.int 0, .int (-6), .int 0, .int 0, .int v_poor, .int v_worths])), (a_p1, .inr (0, (o_p1_weight :: o_p1_hole :: o_p1_held :: .int v_p1_law :: .int v_p1_many :: o_p1_sights :: o_p1_full :: .ref a_p1_first :: .ref a_p1_second :: .ref a_p1_worth :: .ref a_p1_winner :: o_p1_row :: o_p1_sightWeight :: o_p1_sightMany :: []))), (a_p2, .inl (cI, n_p2, .inl v_p2)), (a_p1_first, .inl (cI, 6, .inl v_p1_first)), (a_p1_second, .inl (cI, 6, .inl v_p1_second)), (a_p1_worth, .inl (cI, 6, .inl v_p1_worth)), (a_p1_winner, .inl (cI, 6, .inl v_p1_winner))] H := hP
  have hD : va_D A [(a_this, .inr (2, [.int 0, .int (-6), .int 0, .int 0, .int v_poor, .int v_worths])), (a_p1, .inr (0, (o_p1_weight :: o_p1_hole :: o_p1_held :: .int v_p1_law :: .int v_p1_many :: o_p1_sights :: o_p1_full :: .ref a_p1_first :: .ref a_p1_second :: .ref a_p1_worth :: .ref a_p1_winner :: o_p1_row :: o_p1_sightWeight :: o_p1_sightMany :: []))), (a_p2, .inl (cI, n_p2, .inl v_p2)), (a_p1_first, .inl (cI, 6, .inl v_p1_first)), (a_p1_second, .inl (cI, 6, .inl v_p1_second)), (a_p1_worth, .inl (cI, 6, .inl v_p1_worth)), (a_p1_winner, .inl (cI, 6, .inl v_p1_winner))] := hD
  refine lv_aload_n hx hb dX2_plead_21 rfl (lv_at hl 0 rfl) ?_
  refine lv_iconst (v := 0) hx hb dX2_plead_22 (by decide) ?_
  refine va_put (D := D) (ci := 2) (v := .int 0) (ty := .int) (C := RX2) (T := TX2) (N := 6) hx hb hts iX2 tyX2 tyX2_ok nmX2 hown hK.1 hP hD hS 0 rfl rfl 4 (by decide) l24 (fun _ h9 => h9) rfl (by decide +kernel) rfl rfl (Nat.le_of_ble_eq_true rfl) dX2_plead_23 (fun H locs hP hD hS => ?_)
  have hP : va_P D vwCl [(a_this, .inr (2, [.int 0, .int (-6), .int 0, .int 0, .int 0, .int v_worths])), (a_p1, .inr (0, (o_p1_weight :: o_p1_hole :: o_p1_held :: .int v_p1_law :: .int v_p1_many :: o_p1_sights :: o_p1_full :: .ref a_p1_first :: .ref a_p1_second :: .ref a_p1_worth :: .ref a_p1_winner :: o_p1_row :: o_p1_sightWeight :: o_p1_sightMany :: []))), (a_p2, .inl (cI, n_p2, .inl v_p2)), (a_p1_first, .inl (cI, 6, .inl v_p1_first)), (a_p1_second, .inl (cI, 6, .inl v_p1_second)), (a_p1_worth, .inl (cI, 6, .inl v_p1_worth)), (a_p1_winner, .inl (cI, 6, .inl v_p1_winner))] H := hP
  have hD : va_D A [(a_this, .inr (2, [.int 0, .int (-6), .int 0, .int 0, .int 0, .int v_worths])), (a_p1, .inr (0, (o_p1_weight :: o_p1_hole :: o_p1_held :: .int v_p1_law :: .int v_p1_many :: o_p1_sights :: o_p1_full :: .ref a_p1_first :: .ref a_p1_second :: .ref a_p1_worth :: .ref a_p1_winner :: o_p1_row :: o_p1_sightWeight :: o_p1_sightMany :: []))), (a_p2, .inl (cI, n_p2, .inl v_p2)), (a_p1_first, .inl (cI, 6, .inl v_p1_first)), (a_p1_second, .inl (cI, 6, .inl v_p1_second)), (a_p1_worth, .inl (cI, 6, .inl v_p1_worth)), (a_p1_winner, .inl (cI, 6, .inl v_p1_winner))] := hD
  refine lv_aload_n hx hb dX2_plead_26 rfl (lv_at hl 0 rfl) ?_
  refine lv_iconst (v := 0) hx hb dX2_plead_27 (by decide) ?_
  refine va_put (D := D) (ci := 2) (v := .int 0) (ty := .int) (C := RX2) (T := TX2) (N := 6) hx hb hts iX2 tyX2 tyX2_ok nmX2 hown hK.1 hP hD hS 0 rfl rfl 5 (by decide) l27 (fun _ h9 => h9) rfl (by decide +kernel) rfl rfl (Nat.le_of_ble_eq_true rfl) dX2_plead_28 (fun H locs hP hD hS => ?_)
  have hP : va_P D vwCl [(a_this, .inr (2, [.int 0, .int (-6), .int 0, .int 0, .int 0, .int 0])), (a_p1, .inr (0, (o_p1_weight :: o_p1_hole :: o_p1_held :: .int v_p1_law :: .int v_p1_many :: o_p1_sights :: o_p1_full :: .ref a_p1_first :: .ref a_p1_second :: .ref a_p1_worth :: .ref a_p1_winner :: o_p1_row :: o_p1_sightWeight :: o_p1_sightMany :: []))), (a_p2, .inl (cI, n_p2, .inl v_p2)), (a_p1_first, .inl (cI, 6, .inl v_p1_first)), (a_p1_second, .inl (cI, 6, .inl v_p1_second)), (a_p1_worth, .inl (cI, 6, .inl v_p1_worth)), (a_p1_winner, .inl (cI, 6, .inl v_p1_winner))] H := hP
  have hD : va_D A [(a_this, .inr (2, [.int 0, .int (-6), .int 0, .int 0, .int 0, .int 0])), (a_p1, .inr (0, (o_p1_weight :: o_p1_hole :: o_p1_held :: .int v_p1_law :: .int v_p1_many :: o_p1_sights :: o_p1_full :: .ref a_p1_first :: .ref a_p1_second :: .ref a_p1_worth :: .ref a_p1_winner :: o_p1_row :: o_p1_sightWeight :: o_p1_sightMany :: []))), (a_p2, .inl (cI, n_p2, .inl v_p2)), (a_p1_first, .inl (cI, 6, .inl v_p1_first)), (a_p1_second, .inl (cI, 6, .inl v_p1_second)), (a_p1_worth, .inl (cI, 6, .inl v_p1_worth)), (a_p1_winner, .inl (cI, 6, .inl v_p1_winner))] := hD
  refine lv_iconst (v := 0) hx hb dX2_plead_31 (by decide) ?_
  refine lv_istore (lv' := [(7, .int 0), (0, .ref a_this), (1, .ref a_p1), (2, .ref a_p2), (3, .int x3), (4, .int x4), (5, .int x5), (6, .int x6)]) hx hb dX2_plead_32 hl (by decide) rfl (fun ls hl => ?_)
  refine lv_iload_n hx hb dX2_plead_34 rfl (lv_at hl 4 rfl) ?_
  refine lv_istore (lv' := [(8, .int x3), (7, .int 0), (0, .ref a_this), (1, .ref a_p1), (2, .ref a_p2), (3, .int x3), (4, .int x4), (5, .int x5), (6, .int x6)]) hx hb dX2_plead_35 hl (by decide) rfl (fun ls hl => ?_)
  have L37 : ∀ (n37 : Nat) (x7_37 : Int32) (x8_37 : Int32) (v_decided_37 : Int32) (v_sunk_37 : Int32) (v_plaintiffs_37 : Int32) (v_defendants_37 : Int32) (v_poor_37 : Int32) (v_worths_37 : Int32) (H : Heap) (locs : List Loc) (ls : Array Slot), fX2_plead_l37 x4 x5 x6 v_p1_many v_p1_law v_p2 v_p1_first v_p1_second v_p1_worth v_p1_winner n_p2 n37 x7_37 x8_37 v_decided_37 v_sunk_37 v_plaintiffs_37 v_defendants_37 v_poor_37 v_worths_37 = some (w_decided, w_sunk, w_plaintiffs, w_defendants, w_poor, w_worths) → va_P D vwCl [(a_this, .inr (2, [.int v_decided_37, .int v_sunk_37, .int v_plaintiffs_37, .int v_defendants_37, .int v_poor_37, .int v_worths_37])), (a_p1, .inr (0, (o_p1_weight :: o_p1_hole :: o_p1_held :: .int v_p1_law :: .int v_p1_many :: o_p1_sights :: o_p1_full :: .ref a_p1_first :: .ref a_p1_second :: .ref a_p1_worth :: .ref a_p1_winner :: o_p1_row :: o_p1_sightWeight :: o_p1_sightMany :: []))), (a_p2, .inl (cI, n_p2, .inl v_p2)), (a_p1_first, .inl (cI, 6, .inl v_p1_first)), (a_p1_second, .inl (cI, 6, .inl v_p1_second)), (a_p1_worth, .inl (cI, 6, .inl v_p1_worth)), (a_p1_winner, .inl (cI, 6, .inl v_p1_winner))] H → va_D A [(a_this, .inr (2, [.int v_decided_37, .int v_sunk_37, .int v_plaintiffs_37, .int v_defendants_37, .int v_poor_37, .int v_worths_37])), (a_p1, .inr (0, (o_p1_weight :: o_p1_hole :: o_p1_held :: .int v_p1_law :: .int v_p1_many :: o_p1_sights :: o_p1_full :: .ref a_p1_first :: .ref a_p1_second :: .ref a_p1_worth :: .ref a_p1_winner :: o_p1_row :: o_p1_sightWeight :: o_p1_sightMany :: []))), (a_p2, .inl (cI, n_p2, .inl v_p2)), (a_p1_first, .inl (cI, 6, .inl v_p1_first)), (a_p1_second, .inl (cI, 6, .inl v_p1_second)), (a_p1_worth, .inl (cI, 6, .inl v_p1_worth)), (a_p1_winner, .inl (cI, 6, .inl v_p1_winner))] → va_S A s.heap H locs → lv_has ls 10 [(0, .ref a_this), (1, .ref a_p1), (2, .ref a_p2), (4, .int x4), (5, .int x5), (6, .int x6), (7, .int x7_37), (8, .int x8_37)] → W p l e (headSpec wsX2_plead { frames := 2, cells := 0, slots := 0, locals := 43 }).room s m args below meth c H locs 0 0 Q (F0 m 37 ls []) := by
    intro n37
    induction n37 with
    | zero =>
      intro x7_37 x8_37 v_decided_37 v_sunk_37 v_plaintiffs_37 v_defendants_37 v_poor_37 v_worths_37 H locs ls hf
      have hf : (none : Option ((Int32) × (Int32) × (Int32) × (Int32) × (Int32) × (Int32))) = some (w_decided, w_sunk, w_plaintiffs, w_defendants, w_poor, w_worths) := hf
      cases hf
    | succ n37 ih37 =>
      intro x7_37 x8_37 v_decided_37 v_sunk_37 v_plaintiffs_37 v_defendants_37 v_poor_37 v_worths_37 H locs ls hf hP hD hS hl
      rw [fX2_plead_l37] at hf
      refine lv_iload hx hb dX2_plead_37 (lv_at hl 7 rfl) ?_
      refine lv_aload_n hx hb dX2_plead_39 rfl (lv_at hl 1 rfl) ?_
      refine va_get (D := D) (ci := 0) (v := .int v_p1_many) (C := RX0) (T := TX0) (N := 14) hx hb hts iX0 hown hK.1 hP 1 rfl rfl 4 (by decide) l30 (fun _ h9 => h9) rfl dX2_plead_40 ?_
      refine lv_icmp_ge (tgt := 121) hx hb dX2_plead_43 (by decide) (fun c1 => ?_) (fun c1 => ?_)
      · have hf := (if_pos c1).symm.trans hf
        cases hf
        subst hQ
        exact k_rv hx hb hr hlocks hP hD hS dX2_plead_121
      · have hf := (if_neg c1).symm.trans hf
        refine lv_aload_n hx hb dX2_plead_46 rfl (lv_at hl 0 rfl) ?_
        refine va_get (D := D) (ci := 2) (v := .int v_sunk_37) (C := RX2) (T := TX2) (N := 6) hx hb hts iX2 hown hK.1 hP 0 rfl rfl 1 (by decide) l15 (fun _ h9 => h9) rfl dX2_plead_47 ?_
        refine lv_bipush (v := (-6)) hx hb dX2_plead_50 (by decide) ?_
        refine lv_icmp_ne (tgt := 121) hx hb dX2_plead_52 (by decide) (fun c2 => ?_) (fun c2 => ?_)
        · have hf := (if_neg c2).symm.trans hf
          cases hf
          subst hQ
          exact k_rv hx hb hr hlocks hP hD hS dX2_plead_121
        · have hf := (if_pos c2).symm.trans hf
          refine lv_aload_n hx hb dX2_plead_55 rfl (lv_at hl 2 rfl) ?_
          refine lv_iload hx hb dX2_plead_56 (lv_at hl 7 rfl) ?_
          obtain ⟨r3, hc4, hf⟩ := bnd1_some hf
          refine k_ci (wc := [(a_p2, .inl (cI, n_p2, .inl v_p2))]) (wr := [(a_this, .inr (2, [.int v_decided_37, .int v_sunk_37, .int v_plaintiffs_37, .int v_defendants_37, .int v_poor_37, .int v_worths_37])), (a_p1, .inr (0, (o_p1_weight :: o_p1_hole :: o_p1_held :: .int v_p1_law :: .int v_p1_many :: o_p1_sights :: o_p1_full :: .ref a_p1_first :: .ref a_p1_second :: .ref a_p1_worth :: .ref a_p1_winner :: o_p1_row :: o_p1_sightWeight :: o_p1_sightMany :: []))), (a_p1_first, .inl (cI, 6, .inl v_p1_first)), (a_p1_second, .inl (cI, 6, .inl v_p1_second)), (a_p1_worth, .inl (cI, 6, .inl v_p1_worth)), (a_p1_winner, .inl (cI, 6, .inl v_p1_winner))]) (w1 := [(a_p2, .inl (cI, n_p2, .inl v_p2))]) (ws' := [(a_this, .inr (2, [.int v_decided_37, .int v_sunk_37, .int v_plaintiffs_37, .int v_defendants_37, .int v_poor_37, .int v_worths_37])), (a_p1, .inr (0, (o_p1_weight :: o_p1_hole :: o_p1_held :: .int v_p1_law :: .int v_p1_many :: o_p1_sights :: o_p1_full :: .ref a_p1_first :: .ref a_p1_second :: .ref a_p1_worth :: .ref a_p1_winner :: o_p1_row :: o_p1_sightWeight :: o_p1_sightMany :: []))), (a_p2, .inl (cI, n_p2, .inl v_p2)), (a_p1_first, .inl (cI, 6, .inl v_p1_first)), (a_p1_second, .inl (cI, 6, .inl v_p1_second)), (a_p1_worth, .inl (cI, 6, .inl v_p1_worth)), (a_p1_winner, .inl (cI, 6, .inl v_p1_winner))]) (va_runSN (As := [.ref a_p2, .int x8_37]) (rest := []) ⟨hx, hb, hml, hown, hts⟩ (tX3_at l D cI cJ cZ cB a_p2 n_p2 x8_37 v_p2 r3 hc4 H.size) ⟨va_cnB 2 hts gX2_plead_X3_at_n35 rfl rfl rfl hK.2.2.2.2.2.2.2.2 (hts (.initialized RX3) (by decide +kernel)) (by decide +kernel) ⟨Nat.le_of_ble_eq_true rfl, Nat.le_of_ble_eq_true rfl⟩, hts (.static yX3_at) (by decide +kernel), trivial⟩ (k_preS (is := [2]) hK hP hD rfl rfl) rfl rfl hl.1 rfl (lv_room (Nat.le_of_ble_eq_true rfl)) dX2_plead_58 ⟨Nat.zero_le _, Nat.zero_le _⟩) hP hD hS hA [2] [0, 1, 3, 4, 5, 6] [0, 1, 6, 2, 3, 4, 5] rfl rfl rfl (by decide) rfl rfl (fun H locs hP hD hS => ?_)
          refine lv_istore (lv' := [(9, .int r3), (0, .ref a_this), (1, .ref a_p1), (2, .ref a_p2), (4, .int x4), (5, .int x5), (6, .int x6), (7, .int x7_37), (8, .int x8_37)]) hx hb dX2_plead_61 hl (by decide) rfl (fun ls hl => ?_)
          refine lv_iload hx hb dX2_plead_63 (lv_at hl 7 rfl) ?_
          refine lv_aload_n hx hb dX2_plead_65 rfl (lv_at hl 2 rfl) ?_
          refine lv_iload hx hb dX2_plead_66 (lv_at hl 0 rfl) ?_
          obtain ⟨r5, hc6, hf⟩ := bnd1_some hf
          refine k_ci (wc := [(a_p1, .inr (0, (o_p1_weight :: o_p1_hole :: o_p1_held :: .int v_p1_law :: .int v_p1_many :: o_p1_sights :: o_p1_full :: .ref a_p1_first :: .ref a_p1_second :: .ref a_p1_worth :: .ref a_p1_winner :: o_p1_row :: o_p1_sightWeight :: o_p1_sightMany :: []))), (a_p1_first, .inl (cI, 6, .inl v_p1_first)), (a_p1_second, .inl (cI, 6, .inl v_p1_second))]) (wr := [(a_this, .inr (2, [.int v_decided_37, .int v_sunk_37, .int v_plaintiffs_37, .int v_defendants_37, .int v_poor_37, .int v_worths_37])), (a_p2, .inl (cI, n_p2, .inl v_p2)), (a_p1_worth, .inl (cI, 6, .inl v_p1_worth)), (a_p1_winner, .inl (cI, 6, .inl v_p1_winner))]) (w1 := [(a_p1, .inr (0, (o_p1_weight :: o_p1_hole :: o_p1_held :: .int v_p1_law :: .int v_p1_many :: o_p1_sights :: o_p1_full :: .ref a_p1_first :: .ref a_p1_second :: .ref a_p1_worth :: .ref a_p1_winner :: o_p1_row :: o_p1_sightWeight :: o_p1_sightMany :: []))), (a_p1_first, .inl (cI, 6, .inl v_p1_first)), (a_p1_second, .inl (cI, 6, .inl v_p1_second))]) (ws' := [(a_this, .inr (2, [.int v_decided_37, .int v_sunk_37, .int v_plaintiffs_37, .int v_defendants_37, .int v_poor_37, .int v_worths_37])), (a_p1, .inr (0, (o_p1_weight :: o_p1_hole :: o_p1_held :: .int v_p1_law :: .int v_p1_many :: o_p1_sights :: o_p1_full :: .ref a_p1_first :: .ref a_p1_second :: .ref a_p1_worth :: .ref a_p1_winner :: o_p1_row :: o_p1_sightWeight :: o_p1_sightMany :: []))), (a_p2, .inl (cI, n_p2, .inl v_p2)), (a_p1_first, .inl (cI, 6, .inl v_p1_first)), (a_p1_second, .inl (cI, 6, .inl v_p1_second)), (a_p1_worth, .inl (cI, 6, .inl v_p1_worth)), (a_p1_winner, .inl (cI, 6, .inl v_p1_winner))]) (va_runV (As := [.int r3]) (rest := [.int x7_37]) ⟨hx, hb, hml, hown, hts⟩ (tX0_lasts l D cI cJ cZ cB a_p1 a_p1_first a_p1_second o_p1_weight o_p1_hole o_p1_held (.int v_p1_law) (.int v_p1_many) o_p1_sights o_p1_full (.ref a_p1_worth) (.ref a_p1_winner) o_p1_row o_p1_sightWeight o_p1_sightMany r3 v_p1_first v_p1_second r5 hc6 H.size) (cwV 1 hts gX2_plead_X0_lasts rfl rfl rfl (by decide +kernel) ⟨Nat.le_of_ble_eq_true rfl, Nat.le_of_ble_eq_true rfl⟩) (k_preV (ci := 0) (q0 := 1) (is := [1, 3, 4]) hK hP hD rfl rfl rfl rfl) rfl rfl hl.1 rfl (lv_room (Nat.le_of_ble_eq_true rfl)) dX2_plead_68 ⟨Nat.zero_le _, Nat.zero_le _⟩) hP hD hS hA [1, 3, 4] [0, 2, 5, 6] [0, 4, 1, 5, 6, 2, 3] rfl rfl rfl (by decide) rfl rfl (fun H locs hP hD hS => ?_)
          refine lv_iload hx hb dX2_plead_71 (lv_at hl 5 rfl) ?_
          refine lv_iload hx hb dX2_plead_73 (lv_at hl 0 rfl) ?_
          refine lv_ishr hx hb dX2_plead_75 ?_
          refine lv_iconst (v := 1) hx hb dX2_plead_76 (by decide) ?_
          refine lv_iand hx hb dX2_plead_77 ?_
          have J87 : ∀ (s0_87 : Int32) (s1_87 : Int32) (s2_87 : Int32) (x8_87 : Int32) (x9_87 : Int32) (v_decided_87 : Int32) (v_sunk_87 : Int32) (v_plaintiffs_87 : Int32) (v_defendants_87 : Int32) (v_poor_87 : Int32) (v_worths_87 : Int32) (H : Heap) (locs : List Loc) (ls : Array Slot), fX2_plead_j87 x4 v_decided_87 v_sunk_87 v_plaintiffs_87 v_defendants_87 v_poor_87 v_worths_87 v_p1_law v_p1_worth v_p1_winner x8_87 x9_87 s0_87 s1_87 s2_87 (fX2_plead_l37 x4 x5 x6 v_p1_many v_p1_law v_p2 v_p1_first v_p1_second v_p1_worth v_p1_winner n_p2 n37) = some (w_decided, w_sunk, w_plaintiffs, w_defendants, w_poor, w_worths) → va_P D vwCl [(a_this, .inr (2, [.int v_decided_87, .int v_sunk_87, .int v_plaintiffs_87, .int v_defendants_87, .int v_poor_87, .int v_worths_87])), (a_p1, .inr (0, (o_p1_weight :: o_p1_hole :: o_p1_held :: .int v_p1_law :: .int v_p1_many :: o_p1_sights :: o_p1_full :: .ref a_p1_first :: .ref a_p1_second :: .ref a_p1_worth :: .ref a_p1_winner :: o_p1_row :: o_p1_sightWeight :: o_p1_sightMany :: []))), (a_p2, .inl (cI, n_p2, .inl v_p2)), (a_p1_first, .inl (cI, 6, .inl v_p1_first)), (a_p1_second, .inl (cI, 6, .inl v_p1_second)), (a_p1_worth, .inl (cI, 6, .inl v_p1_worth)), (a_p1_winner, .inl (cI, 6, .inl v_p1_winner))] H → va_D A [(a_this, .inr (2, [.int v_decided_87, .int v_sunk_87, .int v_plaintiffs_87, .int v_defendants_87, .int v_poor_87, .int v_worths_87])), (a_p1, .inr (0, (o_p1_weight :: o_p1_hole :: o_p1_held :: .int v_p1_law :: .int v_p1_many :: o_p1_sights :: o_p1_full :: .ref a_p1_first :: .ref a_p1_second :: .ref a_p1_worth :: .ref a_p1_winner :: o_p1_row :: o_p1_sightWeight :: o_p1_sightMany :: []))), (a_p2, .inl (cI, n_p2, .inl v_p2)), (a_p1_first, .inl (cI, 6, .inl v_p1_first)), (a_p1_second, .inl (cI, 6, .inl v_p1_second)), (a_p1_worth, .inl (cI, 6, .inl v_p1_worth)), (a_p1_winner, .inl (cI, 6, .inl v_p1_winner))] → va_S A s.heap H locs → lv_has ls 10 [(0, .ref a_this), (1, .ref a_p1), (2, .ref a_p2), (4, .int x4), (5, .int x5), (6, .int x6), (8, .int x8_87), (9, .int x9_87)] → W p l e (headSpec wsX2_plead { frames := 2, cells := 0, slots := 0, locals := 43 }).room s m args below meth c H locs 0 0 Q (F0 m 87 ls [.int s2_87, .int s1_87, .int s0_87]) := by
            intro s0_87 s1_87 s2_87 x8_87 x9_87 v_decided_87 v_sunk_87 v_plaintiffs_87 v_defendants_87 v_poor_87 v_worths_87 H locs ls hf hP hD hS hl
            unfold fX2_plead_j87 at hf
            refine lv_iadd hx hb dX2_plead_87 ?_
            refine lv_iadd hx hb dX2_plead_88 ?_
            refine lv_istore (lv' := [(7, .int (s0_87 + (s1_87 + s2_87))), (0, .ref a_this), (1, .ref a_p1), (2, .ref a_p2), (4, .int x4), (5, .int x5), (6, .int x6), (8, .int x8_87), (9, .int x9_87)]) hx hb dX2_plead_89 hl (by decide) rfl (fun ls hl => ?_)
            refine lv_iload hx hb dX2_plead_91 (lv_at hl 0 rfl) ?_
            refine lv_iload hx hb dX2_plead_93 (lv_at hl 4 rfl) ?_
            refine lv_icmp_le (tgt := 108) hx hb dX2_plead_95 (by decide) (fun c7 => ?_) (fun c7 => ?_)
            · have hf := (if_pos c7).symm.trans hf
              refine lv_aload_n hx hb dX2_plead_108 rfl (lv_at hl 1 rfl) ?_
              refine lv_aload_n hx hb dX2_plead_109 rfl (lv_at hl 2 rfl) ?_
              refine lv_iload hx hb dX2_plead_110 (lv_at hl 8 rfl) ?_
              obtain ⟨u8, u9, u10, u11, hc12, hf⟩ := bnd4_some hf
              refine k_cv (wc := [(a_this, .inr (2, [.int v_decided_87, .int v_sunk_87, .int v_plaintiffs_87, .int v_defendants_87, .int v_poor_87, .int v_worths_87])), (a_p1, .inr (0, (o_p1_weight :: o_p1_hole :: o_p1_held :: .int v_p1_law :: .int v_p1_many :: o_p1_sights :: o_p1_full :: .ref a_p1_first :: .ref a_p1_second :: .ref a_p1_worth :: .ref a_p1_winner :: o_p1_row :: o_p1_sightWeight :: o_p1_sightMany :: []))), (a_p1_worth, .inl (cI, 6, .inl v_p1_worth)), (a_p1_winner, .inl (cI, 6, .inl v_p1_winner))]) (wr := [(a_p2, .inl (cI, n_p2, .inl v_p2)), (a_p1_first, .inl (cI, 6, .inl v_p1_first)), (a_p1_second, .inl (cI, 6, .inl v_p1_second))]) (w1 := [(a_this, .inr (2, [.int u8, .int v_sunk_87, .int u10, .int u11, .int v_poor_87, .int u9])), (a_p1, .inr (0, (o_p1_weight :: o_p1_hole :: o_p1_held :: .int v_p1_law :: .int v_p1_many :: o_p1_sights :: o_p1_full :: .ref a_p1_first :: .ref a_p1_second :: .ref a_p1_worth :: .ref a_p1_winner :: o_p1_row :: o_p1_sightWeight :: o_p1_sightMany :: []))), (a_p1_worth, .inl (cI, 6, .inl v_p1_worth)), (a_p1_winner, .inl (cI, 6, .inl v_p1_winner))]) (ws' := [(a_this, .inr (2, [.int u8, .int v_sunk_87, .int u10, .int u11, .int v_poor_87, .int u9])), (a_p1, .inr (0, (o_p1_weight :: o_p1_hole :: o_p1_held :: .int v_p1_law :: .int v_p1_many :: o_p1_sights :: o_p1_full :: .ref a_p1_first :: .ref a_p1_second :: .ref a_p1_worth :: .ref a_p1_winner :: o_p1_row :: o_p1_sightWeight :: o_p1_sightMany :: []))), (a_p2, .inl (cI, n_p2, .inl v_p2)), (a_p1_first, .inl (cI, 6, .inl v_p1_first)), (a_p1_second, .inl (cI, 6, .inl v_p1_second)), (a_p1_worth, .inl (cI, 6, .inl v_p1_worth)), (a_p1_winner, .inl (cI, 6, .inl v_p1_winner))]) (va_runV (As := [.ref a_p1, .int x9_87]) (rest := []) ⟨hx, hb, hml, hown, hts⟩ (tX2_decide l D cI cJ cZ cB a_this a_p1 a_p1_worth a_p1_winner (.int v_sunk_87) (.int v_poor_87) o_p1_weight o_p1_hole o_p1_held (.int v_p1_law) (.int v_p1_many) o_p1_sights o_p1_full (.ref a_p1_first) (.ref a_p1_second) o_p1_row o_p1_sightWeight o_p1_sightMany x9_87 v_decided_87 v_worths_87 v_plaintiffs_87 v_defendants_87 v_p1_worth v_p1_winner u8 u9 u10 u11 hc12 H.size) (cwV 2 hts gX2_plead_X2_decide rfl rfl rfl (by decide +kernel) ⟨Nat.le_of_ble_eq_true rfl, Nat.le_of_ble_eq_true rfl⟩) (k_preV (ci := 2) (q0 := 0) (is := [0, 1, 5, 6]) hK hP hD rfl rfl rfl rfl) rfl rfl hl.1 rfl (lv_room (Nat.le_of_ble_eq_true rfl)) dX2_plead_112 ⟨Nat.zero_le _, Nat.zero_le _⟩) hP hD hS hA [0, 1, 5, 6] [2, 3, 4] [3, 4, 0, 1, 2, 5, 6] rfl rfl rfl (by decide) rfl rfl (fun H locs hP hD hS => ?_)
              refine lv_iinc (v := (x8_87 + 1)) (lv' := [(8, .int (x8_87 + 1)), (7, .int (s0_87 + (s1_87 + s2_87))), (0, .ref a_this), (1, .ref a_p1), (2, .ref a_p2), (4, .int x4), (5, .int x5), (6, .int x6), (9, .int x9_87)]) hx hb dX2_plead_115 hl (k := 7) rfl (by rfl) (by decide) rfl (fun ls hl => ?_)
              refine lv_goto (tgt := 37) hx hb dX2_plead_118 (by decide) ?_
              exact ih37 (s0_87 + (s1_87 + s2_87)) (x8_87 + 1) u8 v_sunk_87 u10 u11 v_poor_87 u9 _ _ _ hf hP hD hS (lv_sub hl [2, 3, 4, 5, 6, 7, 1, 0] rfl)
            · have hf := (if_neg c7).symm.trans hf
              refine lv_aload_n hx hb dX2_plead_98 rfl (lv_at hl 1 rfl) ?_
              refine lv_aload_n hx hb dX2_plead_99 rfl (lv_at hl 2 rfl) ?_
              refine lv_iload hx hb dX2_plead_100 (lv_at hl 8 rfl) ?_
              obtain ⟨u13, u14, u15, hc16, hf⟩ := bnd3_some hf
              refine k_cv (wc := [(a_this, .inr (2, [.int v_decided_87, .int v_sunk_87, .int v_plaintiffs_87, .int v_defendants_87, .int v_poor_87, .int v_worths_87])), (a_p1, .inr (0, (o_p1_weight :: o_p1_hole :: o_p1_held :: .int v_p1_law :: .int v_p1_many :: o_p1_sights :: o_p1_full :: .ref a_p1_first :: .ref a_p1_second :: .ref a_p1_worth :: .ref a_p1_winner :: o_p1_row :: o_p1_sightWeight :: o_p1_sightMany :: []))), (a_p1_worth, .inl (cI, 6, .inl v_p1_worth))]) (wr := [(a_p2, .inl (cI, n_p2, .inl v_p2)), (a_p1_first, .inl (cI, 6, .inl v_p1_first)), (a_p1_second, .inl (cI, 6, .inl v_p1_second)), (a_p1_winner, .inl (cI, 6, .inl v_p1_winner))]) (w1 := [(a_this, .inr (2, [.int v_decided_87, .int u13, .int u14, .int v_defendants_87, .int u15, .int v_worths_87])), (a_p1, .inr (0, (o_p1_weight :: o_p1_hole :: o_p1_held :: .int v_p1_law :: .int v_p1_many :: o_p1_sights :: o_p1_full :: .ref a_p1_first :: .ref a_p1_second :: .ref a_p1_worth :: .ref a_p1_winner :: o_p1_row :: o_p1_sightWeight :: o_p1_sightMany :: []))), (a_p1_worth, .inl (cI, 6, .inl v_p1_worth))]) (ws' := [(a_this, .inr (2, [.int v_decided_87, .int u13, .int u14, .int v_defendants_87, .int u15, .int v_worths_87])), (a_p1, .inr (0, (o_p1_weight :: o_p1_hole :: o_p1_held :: .int v_p1_law :: .int v_p1_many :: o_p1_sights :: o_p1_full :: .ref a_p1_first :: .ref a_p1_second :: .ref a_p1_worth :: .ref a_p1_winner :: o_p1_row :: o_p1_sightWeight :: o_p1_sightMany :: []))), (a_p2, .inl (cI, n_p2, .inl v_p2)), (a_p1_first, .inl (cI, 6, .inl v_p1_first)), (a_p1_second, .inl (cI, 6, .inl v_p1_second)), (a_p1_worth, .inl (cI, 6, .inl v_p1_worth)), (a_p1_winner, .inl (cI, 6, .inl v_p1_winner))]) (va_runV (As := [.ref a_p1, .int x9_87]) (rest := []) ⟨hx, hb, hml, hown, hts⟩ (tX2_sink l D cI cJ cZ cB a_this a_p1 a_p1_worth (.int v_decided_87) (.int v_defendants_87) (.int v_worths_87) o_p1_weight o_p1_hole o_p1_held (.int v_p1_many) o_p1_sights o_p1_full (.ref a_p1_first) (.ref a_p1_second) (.ref a_p1_winner) o_p1_row o_p1_sightWeight o_p1_sightMany x9_87 v_sunk_87 v_p1_law v_plaintiffs_87 v_poor_87 v_p1_worth u13 u14 u15 hc16 H.size) (cwV 2 hts gX2_plead_X2_sink rfl rfl rfl (by decide +kernel) ⟨Nat.le_of_ble_eq_true rfl, Nat.le_of_ble_eq_true rfl⟩) (k_preV (ci := 2) (q0 := 0) (is := [0, 1, 5]) hK hP hD rfl rfl rfl rfl) rfl rfl hl.1 rfl (lv_room (Nat.le_of_ble_eq_true rfl)) dX2_plead_102 ⟨Nat.zero_le _, Nat.zero_le _⟩) hP hD hS hA [0, 1, 5] [2, 3, 4, 6] [4, 5, 0, 1, 2, 6, 3] rfl rfl rfl (by decide) rfl rfl (fun H locs hP hD hS => ?_)
              refine lv_goto (tgt := 115) hx hb dX2_plead_105 (by decide) ?_
              refine lv_iinc (v := (x8_87 + 1)) (lv' := [(8, .int (x8_87 + 1)), (7, .int (s0_87 + (s1_87 + s2_87))), (0, .ref a_this), (1, .ref a_p1), (2, .ref a_p2), (4, .int x4), (5, .int x5), (6, .int x6), (9, .int x9_87)]) hx hb dX2_plead_115 hl (k := 7) rfl (by rfl) (by decide) rfl (fun ls hl => ?_)
              refine lv_goto (tgt := 37) hx hb dX2_plead_118 (by decide) ?_
              exact ih37 (s0_87 + (s1_87 + s2_87)) (x8_87 + 1) v_decided_87 u13 u14 v_defendants_87 u15 v_worths_87 _ _ _ hf hP hD hS (lv_sub hl [2, 3, 4, 5, 6, 7, 1, 0] rfl)
          refine lv_if_eq (tgt := 86) hx hb dX2_plead_78 (by decide) (fun c17 => ?_) (fun c17 => ?_)
          · have hf := (if_pos c17).symm.trans hf
            refine lv_iconst (v := 0) hx hb dX2_plead_86 (by decide) ?_
            exact J87 x7_37 r5 0 x8_37 r3 v_decided_37 v_sunk_37 v_plaintiffs_37 v_defendants_37 v_poor_37 v_worths_37 _ _ _ hf hP hD hS (lv_sub hl [1, 2, 3, 4, 5, 6, 8, 0] rfl)
          · have hf := (if_neg c17).symm.trans hf
            refine lv_iload hx hb dX2_plead_81 (lv_at hl 6 rfl) ?_
            refine lv_goto (tgt := 87) hx hb dX2_plead_83 (by decide) ?_
            exact J87 x7_37 r5 x6 x8_37 r3 v_decided_37 v_sunk_37 v_plaintiffs_37 v_defendants_37 v_poor_37 v_worths_37 _ _ _ hf hP hD hS (lv_sub hl [1, 2, 3, 4, 5, 6, 8, 0] rfl)
  exact L37 FU 0 x3 0 (-6) 0 0 0 0 _ _ _ hf hP hD hS (lv_sub hl [2, 3, 4, 6, 7, 8, 1, 0] rfl)

set_option maxHeartbeats 4000000 in
set_option maxRecDepth 100000 in
theorem tX2_has (l : Launch) (D : va_G) (cI cJ cZ cB : ClassId) (a_this : Nat) (o_this_decided : Value) (o_this_sunk : Value) (x1 : Int32) (v_worths : Int32) (v_poor : Int32) (v_defendants : Int32) (v_plaintiffs : Int32) (r0 : Int32) (hf : fX2_has x1 v_worths v_poor v_defendants v_plaintiffs = some r0) : MW l yX2_has wsX2_has { frames := 0, cells := 0, slots := 0, locals := 0 } D cI cJ cZ cB [(a_this, .inr (2, [o_this_decided, o_this_sunk, .int v_plaintiffs, .int v_defendants, .int v_poor, .int v_worths]))] [.ref a_this, .int x1] (QWi D r0 [(a_this, .inr (2, [o_this_decided, o_this_sunk, .int v_plaintiffs, .int v_defendants, .int v_poor, .int v_worths]))]) := by
  refine k_body (cc := cX2_has) (maxL := 2) (ret := (some .int)) (by decide) rfl (Nat.le_of_ble_eq_true rfl) ?_
  intro p e s m args below meth c hx hb hr hml hts hown hlocks hname hK A hA hP hD hS ls hl
  have hl : lv_has ls 2 [(0, .ref a_this), (1, .int x1)] := hl
  generalize hQ : MQ below ((QWi D r0 [(a_this, .inr (2, [o_this_decided, o_this_sunk, .int v_plaintiffs, .int v_defendants, .int v_poor, .int v_worths]))]) A) args s 0 0 A = Q
  obtain ⟨H, hH⟩ : ∃ H, H = s.heap := ⟨_, rfl⟩
  obtain ⟨locs, hlo⟩ : ∃ z : List Loc, z = [] := ⟨_, rfl⟩
  have hP : va_P D vwCl [(a_this, .inr (2, [o_this_decided, o_this_sunk, .int v_plaintiffs, .int v_defendants, .int v_poor, .int v_worths]))] H := by rw [hH]; exact hP
  have hS : va_S A s.heap H locs := by rw [hH, hlo]; exact hS
  suffices hg : W p l e (headSpec wsX2_has { frames := 0, cells := 0, slots := 0, locals := 0 }).room s m args below meth c H locs 0 0 Q (F0 m 0 ls []) by rw [hH, hlo] at hg; exact hg
  have l18 := hts (.fieldLink RX2 18 "CandleCourt$Sitting" "plaintiffs" "I") (by decide +kernel)
  have l21 := hts (.fieldLink RX2 21 "CandleCourt$Sitting" "defendants" "I") (by decide +kernel)
  have l24 := hts (.fieldLink RX2 24 "CandleCourt$Sitting" "poor" "I") (by decide +kernel)
  have l27 := hts (.fieldLink RX2 27 "CandleCourt$Sitting" "worths" "I") (by decide +kernel)
  have iX2 : ∀ w ∈ wsX20, w ∈ wsX2_has := by decide +kernel
  unfold fX2_has at hf
  refine lv_iload_n hx hb dX2_has_0 rfl (lv_at hl 1 rfl) ?_
  by_cases c1 : (x1 : Int32) = 0
  · have hf := (if_pos c1).symm.trans hf
    refine lv_tableIn (off := 31) (tgt := 32) hx hb dX2_has_1 (by rw [c1]; decide) (by rw [c1]; decide) (by rw [c1]; rfl) (by decide) ?_
    refine lv_aload_n hx hb dX2_has_32 rfl (lv_at hl 0 rfl) ?_
    refine va_get (D := D) (ci := 2) (v := .int v_plaintiffs) (C := RX2) (T := TX2) (N := 6) hx hb hts iX2 hown hK.1 hP 0 rfl rfl 2 (by decide) l18 (fun _ h9 => h9) rfl dX2_has_33 ?_
    cases hf
    subst hQ
    exact k_ri hx hb hr hlocks hP hD hS dX2_has_36
  have hf := (if_neg c1).symm.trans hf
  by_cases c2 : (x1 : Int32) = 1
  · have hf := (if_pos c2).symm.trans hf
    refine lv_tableIn (off := 36) (tgt := 37) hx hb dX2_has_1 (by rw [c2]; decide) (by rw [c2]; decide) (by rw [c2]; rfl) (by decide) ?_
    refine lv_aload_n hx hb dX2_has_37 rfl (lv_at hl 0 rfl) ?_
    refine va_get (D := D) (ci := 2) (v := .int v_defendants) (C := RX2) (T := TX2) (N := 6) hx hb hts iX2 hown hK.1 hP 0 rfl rfl 3 (by decide) l21 (fun _ h9 => h9) rfl dX2_has_38 ?_
    cases hf
    subst hQ
    exact k_ri hx hb hr hlocks hP hD hS dX2_has_41
  have hf := (if_neg c2).symm.trans hf
  by_cases c3 : (x1 : Int32) = 2
  · have hf := (if_pos c3).symm.trans hf
    refine lv_tableIn (off := 41) (tgt := 42) hx hb dX2_has_1 (by rw [c3]; decide) (by rw [c3]; decide) (by rw [c3]; rfl) (by decide) ?_
    refine lv_aload_n hx hb dX2_has_42 rfl (lv_at hl 0 rfl) ?_
    refine va_get (D := D) (ci := 2) (v := .int v_poor) (C := RX2) (T := TX2) (N := 6) hx hb hts iX2 hown hK.1 hP 0 rfl rfl 4 (by decide) l24 (fun _ h9 => h9) rfl dX2_has_43 ?_
    cases hf
    subst hQ
    exact k_ri hx hb hr hlocks hP hD hS dX2_has_46
  have hf := (if_neg c3).symm.trans hf
  by_cases c4 : (x1 : Int32) = 3
  · have hf := (if_pos c4).symm.trans hf
    refine lv_tableIn (off := 46) (tgt := 47) hx hb dX2_has_1 (by rw [c4]; decide) (by rw [c4]; decide) (by rw [c4]; rfl) (by decide) ?_
    refine lv_aload_n hx hb dX2_has_47 rfl (lv_at hl 0 rfl) ?_
    refine va_get (D := D) (ci := 2) (v := .int v_worths) (C := RX2) (T := TX2) (N := 6) hx hb hts iX2 hown hK.1 hP 0 rfl rfl 5 (by decide) l27 (fun _ h9 => h9) rfl dX2_has_48 ?_
    cases hf
    subst hQ
    exact k_ri hx hb hr hlocks hP hD hS dX2_has_51
  have hf := (if_neg c4).symm.trans hf
  have c1z := k_tsw (a := 0) c1 rfl
  have c2z := k_tsw (a := 1) c2 rfl
  have c3z := k_tsw (a := 2) c3 rfl
  have c4z := k_tsw (a := 3) c4 rfl
  refine lv_tableOut (tgt := 52) hx hb dX2_has_1 (by omega) (by decide) ?_
  refine lv_iconst (v := 0) hx hb dX2_has_52 (by decide) ?_
  cases hf
  subst hQ
  exact k_ri hx hb hr hlocks hP hD hS dX2_has_53

set_option maxHeartbeats 4000000 in
set_option maxRecDepth 100000 in
theorem tX3_settable (l : Launch) (D : va_G) (cI cJ cZ cB : ClassId) (x0 : Int32) (x1 : Int32) (r0 : Int32) (hf : fX3_settable x0 x1 = some r0) : MW l yX3_settable wsX3_settable { frames := 1, cells := 0, slots := 0, locals := 22 } D cI cJ cZ cB [] [.int x0, .int x1] (QWi D r0 []) := by
  refine k_body (cc := cX3_settable) (maxL := 2) (ret := (some .boolean)) (by decide) rfl (Nat.le_of_ble_eq_true rfl) ?_
  intro p e s m args below meth c hx hb hr hml hts hown hlocks hname hK A hA hP hD hS ls hl
  have hl : lv_has ls 2 [(0, .int x0), (1, .int x1)] := hl
  generalize hQ : MQ below ((QWi D r0 []) A) args s 0 0 A = Q
  obtain ⟨H, hH⟩ : ∃ H, H = s.heap := ⟨_, rfl⟩
  obtain ⟨locs, hlo⟩ : ∃ z : List Loc, z = [] := ⟨_, rfl⟩
  have hP : va_P D vwCl [] H := by rw [hH]; exact hP
  have hS : va_S A s.heap H locs := by rw [hH, hlo]; exact hS
  suffices hg : W p l e (headSpec wsX3_settable { frames := 1, cells := 0, slots := 0, locals := 22 }).room s m args below meth c H locs 0 0 Q (F0 m 0 ls []) by rw [hH, hlo] at hg; exact hg
  unfold fX3_settable at hf
  refine lv_iload_n hx hb dX3_settable_0 rfl (lv_at hl 0 rfl) ?_
  by_cases c1 : (x0 : Int32) = 0
  · have hf := (if_pos c1).symm.trans hf
    refine lv_tableIn (off := 31) (tgt := 32) hx hb dX3_settable_1 (by rw [c1]; decide) (by rw [c1]; decide) (by rw [c1]; rfl) (by decide) ?_
    refine lv_iload_n hx hb dX3_settable_32 rfl (lv_at hl 1 rfl) ?_
    refine lv_iconst (v := 1) hx hb dX3_settable_33 (by decide) ?_
    refine lv_bipush (v := 99) hx hb dX3_settable_34 (by decide) ?_
    obtain ⟨r2, hc3, hf⟩ := bnd1_some hf
    refine k_ci (wc := []) (wr := []) (w1 := []) (ws' := []) (va_runS (As := [.int x1, .int 1, .int 99]) (rest := []) ⟨hx, hb, hml, hown, hts⟩ (tX3_within l D cI cJ cZ cB x1 1 99 r2 hc3 H.size) (va_cwS 3 hts gX3_settable_X3_within rfl rfl rfl (by decide +kernel) ⟨Nat.le_of_ble_eq_true rfl, Nat.le_of_ble_eq_true rfl⟩) (k_preS (is := []) hK hP hD rfl rfl) rfl rfl hl.1 rfl (lv_room (Nat.le_of_ble_eq_true rfl)) dX3_settable_36 ⟨Nat.zero_le _, Nat.zero_le _⟩) hP hD hS hA [] [] [] rfl rfl rfl (by decide) rfl rfl (fun H locs hP hD hS => ?_)
    obtain ⟨hnar, hf⟩ := gd_some hf
    cases hf
    subst hQ
    exact k_rz hx hb hr hlocks hP hD hS hnar dX3_settable_39
  have hf := (if_neg c1).symm.trans hf
  by_cases c4 : (x0 : Int32) = 1
  · have hf := (if_pos c4).symm.trans hf
    refine lv_tableIn (off := 39) (tgt := 40) hx hb dX3_settable_1 (by rw [c4]; decide) (by rw [c4]; decide) (by rw [c4]; rfl) (by decide) ?_
    refine lv_iload_n hx hb dX3_settable_40 rfl (lv_at hl 1 rfl) ?_
    refine lv_iconst (v := 1) hx hb dX3_settable_41 (by decide) ?_
    refine lv_bipush (v := 9) hx hb dX3_settable_42 (by decide) ?_
    obtain ⟨r5, hc6, hf⟩ := bnd1_some hf
    refine k_ci (wc := []) (wr := []) (w1 := []) (ws' := []) (va_runS (As := [.int x1, .int 1, .int 9]) (rest := []) ⟨hx, hb, hml, hown, hts⟩ (tX3_within l D cI cJ cZ cB x1 1 9 r5 hc6 H.size) (va_cwS 3 hts gX3_settable_X3_within rfl rfl rfl (by decide +kernel) ⟨Nat.le_of_ble_eq_true rfl, Nat.le_of_ble_eq_true rfl⟩) (k_preS (is := []) hK hP hD rfl rfl) rfl rfl hl.1 rfl (lv_room (Nat.le_of_ble_eq_true rfl)) dX3_settable_44 ⟨Nat.zero_le _, Nat.zero_le _⟩) hP hD hS hA [] [] [] rfl rfl rfl (by decide) rfl rfl (fun H locs hP hD hS => ?_)
    obtain ⟨hnar, hf⟩ := gd_some hf
    cases hf
    subst hQ
    exact k_rz hx hb hr hlocks hP hD hS hnar dX3_settable_47
  have hf := (if_neg c4).symm.trans hf
  by_cases c7 : (x0 : Int32) = 2
  · have hf := (if_pos c7).symm.trans hf
    refine lv_tableIn (off := 47) (tgt := 48) hx hb dX3_settable_1 (by rw [c7]; decide) (by rw [c7]; decide) (by rw [c7]; rfl) (by decide) ?_
    refine lv_iload_n hx hb dX3_settable_48 rfl (lv_at hl 1 rfl) ?_
    refine lv_iconst (v := 0) hx hb dX3_settable_49 (by decide) ?_
    refine lv_sipush (v := 999) hx hb dX3_settable_50 (by decide) ?_
    obtain ⟨r8, hc9, hf⟩ := bnd1_some hf
    refine k_ci (wc := []) (wr := []) (w1 := []) (ws' := []) (va_runS (As := [.int x1, .int 0, .int 999]) (rest := []) ⟨hx, hb, hml, hown, hts⟩ (tX3_within l D cI cJ cZ cB x1 0 999 r8 hc9 H.size) (va_cwS 3 hts gX3_settable_X3_within rfl rfl rfl (by decide +kernel) ⟨Nat.le_of_ble_eq_true rfl, Nat.le_of_ble_eq_true rfl⟩) (k_preS (is := []) hK hP hD rfl rfl) rfl rfl hl.1 rfl (lv_room (Nat.le_of_ble_eq_true rfl)) dX3_settable_53 ⟨Nat.zero_le _, Nat.zero_le _⟩) hP hD hS hA [] [] [] rfl rfl rfl (by decide) rfl rfl (fun H locs hP hD hS => ?_)
    obtain ⟨hnar, hf⟩ := gd_some hf
    cases hf
    subst hQ
    exact k_rz hx hb hr hlocks hP hD hS hnar dX3_settable_56
  have hf := (if_neg c7).symm.trans hf
  by_cases c10 : (x0 : Int32) = 3
  · have hf := (if_pos c10).symm.trans hf
    refine lv_tableIn (off := 56) (tgt := 57) hx hb dX3_settable_1 (by rw [c10]; decide) (by rw [c10]; decide) (by rw [c10]; rfl) (by decide) ?_
    refine lv_iload_n hx hb dX3_settable_57 rfl (lv_at hl 1 rfl) ?_
    refine lv_iconst (v := 0) hx hb dX3_settable_58 (by decide) ?_
    refine lv_iconst (v := 1) hx hb dX3_settable_59 (by decide) ?_
    obtain ⟨r11, hc12, hf⟩ := bnd1_some hf
    refine k_ci (wc := []) (wr := []) (w1 := []) (ws' := []) (va_runS (As := [.int x1, .int 0, .int 1]) (rest := []) ⟨hx, hb, hml, hown, hts⟩ (tX3_within l D cI cJ cZ cB x1 0 1 r11 hc12 H.size) (va_cwS 3 hts gX3_settable_X3_within rfl rfl rfl (by decide +kernel) ⟨Nat.le_of_ble_eq_true rfl, Nat.le_of_ble_eq_true rfl⟩) (k_preS (is := []) hK hP hD rfl rfl) rfl rfl hl.1 rfl (lv_room (Nat.le_of_ble_eq_true rfl)) dX3_settable_60 ⟨Nat.zero_le _, Nat.zero_le _⟩) hP hD hS hA [] [] [] rfl rfl rfl (by decide) rfl rfl (fun H locs hP hD hS => ?_)
    obtain ⟨hnar, hf⟩ := gd_some hf
    cases hf
    subst hQ
    exact k_rz hx hb hr hlocks hP hD hS hnar dX3_settable_63
  have hf := (if_neg c10).symm.trans hf
  have c1z := k_tsw (a := 0) c1 rfl
  have c4z := k_tsw (a := 1) c4 rfl
  have c7z := k_tsw (a := 2) c7 rfl
  have c10z := k_tsw (a := 3) c10 rfl
  refine lv_tableOut (tgt := 64) hx hb dX3_settable_1 (by omega) (by decide) ?_
  refine lv_iconst (v := 0) hx hb dX3_settable_64 (by decide) ?_
  cases hf
  subst hQ
  exact k_rz hx hb hr hlocks hP hD hS (by decide) dX3_settable_65

set_option maxHeartbeats 4000000 in
set_option maxRecDepth 100000 in
theorem tX3_set (l : Launch) (D : va_G) (cI cJ cZ cB : ClassId) (a_this : Nat) (a_now : Nat) (o_this_pad : Value) (o_this_signs : Value) (o_this_images : Value) (o_this_sitting : Value) (o_this_reader : Value) (o_this_trial : Value) (o_this_best : Value) (o_now_many : Value) (o_now_sights : Value) (o_now_full : Value) (o_now_first : Value) (o_now_second : Value) (o_now_worth : Value) (o_now_winner : Value) (o_now_row : Value) (o_now_sightWeight : Value) (o_now_sightMany : Value) (x1 : Int32) (x2 : Int32) (v_now_held : Int32) (v_now_hole : Int32) (v_now_weight : Int32) (v_now_law : Int32) (r0 : Int32) (w_now_held : Int32) (w_now_hole : Int32) (w_now_weight : Int32) (w_now_law : Int32) (hf : fX3_set x1 x2 v_now_held v_now_hole v_now_weight v_now_law = some (r0, w_now_held, w_now_hole, w_now_weight, w_now_law)) : MW l yX3_set wsX3_set { frames := 2, cells := 0, slots := 0, locals := 43 } D cI cJ cZ cB [(a_this, .inr (3, [o_this_pad, o_this_signs, .ref a_now, o_this_images, o_this_sitting, o_this_reader, o_this_trial, o_this_best])), (a_now, .inr (0, (.int v_now_weight :: .int v_now_hole :: .int v_now_held :: .int v_now_law :: o_now_many :: o_now_sights :: o_now_full :: o_now_first :: o_now_second :: o_now_worth :: o_now_winner :: o_now_row :: o_now_sightWeight :: o_now_sightMany :: [])))] [.ref a_this, .int x1, .int x2] (QWi D r0 [(a_this, .inr (3, [o_this_pad, o_this_signs, .ref a_now, o_this_images, o_this_sitting, o_this_reader, o_this_trial, o_this_best])), (a_now, .inr (0, (.int w_now_weight :: .int w_now_hole :: .int w_now_held :: .int w_now_law :: o_now_many :: o_now_sights :: o_now_full :: o_now_first :: o_now_second :: o_now_worth :: o_now_winner :: o_now_row :: o_now_sightWeight :: o_now_sightMany :: [])))]) := by
  refine k_body (cc := cX3_set) (maxL := 4) (ret := (some .int)) (by decide) rfl (Nat.le_of_ble_eq_true rfl) ?_
  intro p e s m args below meth c hx hb hr hml hts hown hlocks hname hK A hA hP hD hS ls hl
  have hl : lv_has ls 4 [(0, .ref a_this), (1, .int x1), (2, .int x2)] := hl
  generalize hQ : MQ below ((QWi D r0 [(a_this, .inr (3, [o_this_pad, o_this_signs, .ref a_now, o_this_images, o_this_sitting, o_this_reader, o_this_trial, o_this_best])), (a_now, .inr (0, (.int w_now_weight :: .int w_now_hole :: .int w_now_held :: .int w_now_law :: o_now_many :: o_now_sights :: o_now_full :: o_now_first :: o_now_second :: o_now_worth :: o_now_winner :: o_now_row :: o_now_sightWeight :: o_now_sightMany :: [])))]) A) args s 0 0 A = Q
  obtain ⟨H, hH⟩ : ∃ H, H = s.heap := ⟨_, rfl⟩
  obtain ⟨locs, hlo⟩ : ∃ z : List Loc, z = [] := ⟨_, rfl⟩
  have hP : va_P D vwCl [(a_this, .inr (3, [o_this_pad, o_this_signs, .ref a_now, o_this_images, o_this_sitting, o_this_reader, o_this_trial, o_this_best])), (a_now, .inr (0, (.int v_now_weight :: .int v_now_hole :: .int v_now_held :: .int v_now_law :: o_now_many :: o_now_sights :: o_now_full :: o_now_first :: o_now_second :: o_now_worth :: o_now_winner :: o_now_row :: o_now_sightWeight :: o_now_sightMany :: [])))] H := by rw [hH]; exact hP
  have hS : va_S A s.heap H locs := by rw [hH, hlo]; exact hS
  suffices hg : W p l e (headSpec wsX3_set { frames := 2, cells := 0, slots := 0, locals := 43 }).room s m args below meth c H locs 0 0 Q (F0 m 0 ls []) by rw [hH, hlo] at hg; exact hg
  have l20 := hts (.fieldLink RX3 20 "CandleCourt" "now" "LCandleCourt$Bench;") (by decide +kernel)
  have iX3 : ∀ w ∈ wsX30, w ∈ wsX3_set := by decide +kernel
  unfold fX3_set at hf
  refine lv_iload_n hx hb dX3_set_0 rfl (lv_at hl 1 rfl) ?_
  refine lv_iload_n hx hb dX3_set_1 rfl (lv_at hl 2 rfl) ?_
  obtain ⟨r1, hc2, hf⟩ := bnd1_some hf
  refine k_ci (wc := []) (wr := [(a_this, .inr (3, [o_this_pad, o_this_signs, .ref a_now, o_this_images, o_this_sitting, o_this_reader, o_this_trial, o_this_best])), (a_now, .inr (0, (.int v_now_weight :: .int v_now_hole :: .int v_now_held :: .int v_now_law :: o_now_many :: o_now_sights :: o_now_full :: o_now_first :: o_now_second :: o_now_worth :: o_now_winner :: o_now_row :: o_now_sightWeight :: o_now_sightMany :: [])))]) (w1 := []) (ws' := [(a_this, .inr (3, [o_this_pad, o_this_signs, .ref a_now, o_this_images, o_this_sitting, o_this_reader, o_this_trial, o_this_best])), (a_now, .inr (0, (.int v_now_weight :: .int v_now_hole :: .int v_now_held :: .int v_now_law :: o_now_many :: o_now_sights :: o_now_full :: o_now_first :: o_now_second :: o_now_worth :: o_now_winner :: o_now_row :: o_now_sightWeight :: o_now_sightMany :: [])))]) (va_runS (As := [.int x1, .int x2]) (rest := []) ⟨hx, hb, hml, hown, hts⟩ (tX3_settable l D cI cJ cZ cB x1 x2 r1 hc2 H.size) (va_cwS 2 hts gX3_set_X3_settable rfl rfl rfl (by decide +kernel) ⟨Nat.le_of_ble_eq_true rfl, Nat.le_of_ble_eq_true rfl⟩) (k_preS (is := []) hK hP hD rfl rfl) rfl rfl hl.1 rfl (lv_room (Nat.le_of_ble_eq_true rfl)) dX3_set_2 ⟨Nat.zero_le _, Nat.zero_le _⟩) hP hD hS hA [] [0, 1] [0, 1] rfl rfl rfl (by decide) rfl rfl (fun H locs hP hD hS => ?_)
  refine lv_if_ne (tgt := 11) hx hb dX3_set_5 (by decide) (fun c3 => ?_) (fun c3 => ?_)
  · have hf := (if_neg c3).symm.trans hf
    refine lv_aload_n hx hb dX3_set_11 rfl (lv_at hl 0 rfl) ?_
    refine va_get (D := D) (ci := 3) (v := .ref a_now) (C := RX3) (T := TX3) (N := 8) hx hb hts iX3 hown hK.1 hP 0 rfl rfl 2 (by decide) l20 (fun _ h9 => h9) rfl dX3_set_12 ?_
    refine lv_iload_n hx hb dX3_set_15 rfl (lv_at hl 1 rfl) ?_
    obtain ⟨r4, hc5, hf⟩ := bnd1_some hf
    refine k_ci (wc := [(a_now, .inr (0, (.int v_now_weight :: .int v_now_hole :: .int v_now_held :: .int v_now_law :: o_now_many :: o_now_sights :: o_now_full :: o_now_first :: o_now_second :: o_now_worth :: o_now_winner :: o_now_row :: o_now_sightWeight :: o_now_sightMany :: [])))]) (wr := [(a_this, .inr (3, [o_this_pad, o_this_signs, .ref a_now, o_this_images, o_this_sitting, o_this_reader, o_this_trial, o_this_best]))]) (w1 := [(a_now, .inr (0, (.int v_now_weight :: .int v_now_hole :: .int v_now_held :: .int v_now_law :: o_now_many :: o_now_sights :: o_now_full :: o_now_first :: o_now_second :: o_now_worth :: o_now_winner :: o_now_row :: o_now_sightWeight :: o_now_sightMany :: [])))]) (ws' := [(a_this, .inr (3, [o_this_pad, o_this_signs, .ref a_now, o_this_images, o_this_sitting, o_this_reader, o_this_trial, o_this_best])), (a_now, .inr (0, (.int v_now_weight :: .int v_now_hole :: .int v_now_held :: .int v_now_law :: o_now_many :: o_now_sights :: o_now_full :: o_now_first :: o_now_second :: o_now_worth :: o_now_winner :: o_now_row :: o_now_sightWeight :: o_now_sightMany :: [])))]) (va_runV (As := [.int x1]) (rest := []) ⟨hx, hb, hml, hown, hts⟩ (tX0_setting l D cI cJ cZ cB a_now o_now_many o_now_sights o_now_full o_now_first o_now_second o_now_worth o_now_winner o_now_row o_now_sightWeight o_now_sightMany x1 v_now_held v_now_hole v_now_weight v_now_law r4 hc5 H.size) (cwV 1 hts gX3_set_X0_setting rfl rfl rfl (by decide +kernel) ⟨Nat.le_of_ble_eq_true rfl, Nat.le_of_ble_eq_true rfl⟩) (k_preV (ci := 0) (q0 := 1) (is := [1]) hK hP hD rfl rfl rfl rfl) rfl rfl hl.1 rfl (lv_room (Nat.le_of_ble_eq_true rfl)) dX3_set_16 ⟨Nat.zero_le _, Nat.zero_le _⟩) hP hD hS hA [1] [0] [0, 1] rfl rfl rfl (by decide) rfl rfl (fun H locs hP hD hS => ?_)
    refine lv_istore_n (lv' := [(3, .int r4), (0, .ref a_this), (1, .int x1), (2, .int x2)]) hx hb dX3_set_19 rfl hl (by decide) rfl (fun ls hl => ?_)
    refine lv_aload_n hx hb dX3_set_20 rfl (lv_at hl 1 rfl) ?_
    refine va_get (D := D) (ci := 3) (v := .ref a_now) (C := RX3) (T := TX3) (N := 8) hx hb hts iX3 hown hK.1 hP 0 rfl rfl 2 (by decide) l20 (fun _ h9 => h9) rfl dX3_set_21 ?_
    refine lv_iload_n hx hb dX3_set_24 rfl (lv_at hl 2 rfl) ?_
    refine lv_iload_n hx hb dX3_set_25 rfl (lv_at hl 3 rfl) ?_
    obtain ⟨u6, u7, u8, u9, hc10, hf⟩ := bnd4_some hf
    refine k_cv (wc := [(a_now, .inr (0, (.int v_now_weight :: .int v_now_hole :: .int v_now_held :: .int v_now_law :: o_now_many :: o_now_sights :: o_now_full :: o_now_first :: o_now_second :: o_now_worth :: o_now_winner :: o_now_row :: o_now_sightWeight :: o_now_sightMany :: [])))]) (wr := [(a_this, .inr (3, [o_this_pad, o_this_signs, .ref a_now, o_this_images, o_this_sitting, o_this_reader, o_this_trial, o_this_best]))]) (w1 := [(a_now, .inr (0, (.int u8 :: .int u7 :: .int u6 :: .int u9 :: o_now_many :: o_now_sights :: o_now_full :: o_now_first :: o_now_second :: o_now_worth :: o_now_winner :: o_now_row :: o_now_sightWeight :: o_now_sightMany :: [])))]) (ws' := [(a_this, .inr (3, [o_this_pad, o_this_signs, .ref a_now, o_this_images, o_this_sitting, o_this_reader, o_this_trial, o_this_best])), (a_now, .inr (0, (.int u8 :: .int u7 :: .int u6 :: .int u9 :: o_now_many :: o_now_sights :: o_now_full :: o_now_first :: o_now_second :: o_now_worth :: o_now_winner :: o_now_row :: o_now_sightWeight :: o_now_sightMany :: [])))]) (va_runV (As := [.int x1, .int x2]) (rest := []) ⟨hx, hb, hml, hown, hts⟩ (tX0_change l D cI cJ cZ cB a_now o_now_many o_now_sights o_now_full o_now_first o_now_second o_now_worth o_now_winner o_now_row o_now_sightWeight o_now_sightMany x1 x2 v_now_held v_now_hole v_now_weight v_now_law u6 u7 u8 u9 hc10 H.size) (cwV 2 hts gX3_set_X0_change rfl rfl rfl (by decide +kernel) ⟨Nat.le_of_ble_eq_true rfl, Nat.le_of_ble_eq_true rfl⟩) (k_preV (ci := 0) (q0 := 1) (is := [1]) hK hP hD rfl rfl rfl rfl) rfl rfl hl.1 rfl (lv_room (Nat.le_of_ble_eq_true rfl)) dX3_set_26 ⟨Nat.zero_le _, Nat.zero_le _⟩) hP hD hS hA [1] [0] [0, 1] rfl rfl rfl (by decide) rfl rfl (fun H locs hP hD hS => ?_)
    refine lv_iload_n hx hb dX3_set_29 rfl (lv_at hl 0 rfl) ?_
    cases hf
    subst hQ
    exact k_ri hx hb hr hlocks hP hD hS dX3_set_30
  · have hf := (if_pos c3).symm.trans hf
    refine lv_bipush (v := (-2)) hx hb dX3_set_8 (by decide) ?_
    cases hf
    subst hQ
    exact k_ri hx hb hr hlocks hP hD hS dX3_set_10
