set_option maxHeartbeats 4000000 in
set_option maxRecDepth 100000 in
theorem tX3_swap (l : Launch) (D : va_G) (cI cJ cZ cB : ClassId) (a_p0 : Nat) (n_p0 : Nat) (x1 : Int32) (x2 : Int32) (v_p0 : Nat → Int32) (w_p0 : Nat → Int32) (hf : fX3_swap x1 x2 v_p0 n_p0 = some w_p0) : MW l yX3_swap wsX3_swap { frames := 1, cells := 0, slots := 0, locals := 22 } D cI cJ cZ cB [(a_p0, .inl (cI, n_p0, .inl v_p0))] [.ref a_p0, .int x1, .int x2] (QWv D [(a_p0, .inl (cI, n_p0, .inl w_p0))]) := by
  refine k_body (cc := cX3_swap) (maxL := 4) (ret := none) (by decide) rfl (Nat.le_of_ble_eq_true rfl) ?_
  intro p e s m args below meth c hx hb hr hml hts hown hlocks hname hK A hA hP hD hS ls hl
  have hl : lv_has ls 4 [(0, .ref a_p0), (1, .int x1), (2, .int x2)] := hl
  generalize hQ : MQ below ((QWv D [(a_p0, .inl (cI, n_p0, .inl w_p0))]) A) args s 0 0 A = Q
  obtain ⟨H, hH⟩ : ∃ H, H = s.heap := ⟨_, rfl⟩
  obtain ⟨locs, hlo⟩ : ∃ z : List Loc, z = [] := ⟨_, rfl⟩
  have hP : va_P D vwCl [(a_p0, .inl (cI, n_p0, .inl v_p0))] H := by rw [hH]; exact hP
  have hS : va_S A s.heap H locs := by rw [hH, hlo]; exact hS
  suffices hg : W p l e (headSpec wsX3_swap { frames := 1, cells := 0, slots := 0, locals := 22 }).room s m args below meth c H locs 0 0 Q (F0 m 0 ls []) by rw [hH, hlo] at hg; exact hg
  unfold fX3_swap at hf
  refine lv_aload_n hx hb dX3_swap_0 rfl (lv_at hl 0 rfl) ?_
  refine lv_iload_n hx hb dX3_swap_1 rfl (lv_at hl 1 rfl) ?_
  obtain ⟨r1, hc2, hf⟩ := bnd1_some hf
  refine k_ci (wc := [(a_p0, .inl (cI, n_p0, .inl v_p0))]) (wr := []) (w1 := [(a_p0, .inl (cI, n_p0, .inl v_p0))]) (ws' := [(a_p0, .inl (cI, n_p0, .inl v_p0))]) (va_runS (As := [.ref a_p0, .int x1]) (rest := []) ⟨hx, hb, hml, hown, hts⟩ (tX3_at l D cI cJ cZ cB a_p0 n_p0 x1 v_p0 r1 hc2 H.size) (va_cwS 2 hts gX3_swap_X3_at rfl rfl rfl (by decide +kernel) ⟨Nat.le_of_ble_eq_true rfl, Nat.le_of_ble_eq_true rfl⟩) (k_preS (is := [0]) hK hP hD rfl rfl) rfl rfl hl.1 rfl (lv_room (Nat.le_of_ble_eq_true rfl)) dX3_swap_2 ⟨Nat.zero_le _, Nat.zero_le _⟩) hP hD hS hA [0] [] [0] rfl rfl rfl (by decide) rfl rfl (fun H locs hP hD hS => ?_)
  refine lv_istore_n (lv' := [(3, .int r1), (0, .ref a_p0), (1, .int x1), (2, .int x2)]) hx hb dX3_swap_5 rfl hl (by decide) rfl (fun ls hl => ?_)
  refine lv_aload_n hx hb dX3_swap_6 rfl (lv_at hl 1 rfl) ?_
  refine lv_iload_n hx hb dX3_swap_7 rfl (lv_at hl 2 rfl) ?_
  refine lv_aload_n hx hb dX3_swap_8 rfl (lv_at hl 1 rfl) ?_
  refine lv_iload_n hx hb dX3_swap_9 rfl (lv_at hl 3 rfl) ?_
  obtain ⟨r3, hc4, hf⟩ := bnd1_some hf
  refine k_ci (wc := [(a_p0, .inl (cI, n_p0, .inl v_p0))]) (wr := []) (w1 := [(a_p0, .inl (cI, n_p0, .inl v_p0))]) (ws' := [(a_p0, .inl (cI, n_p0, .inl v_p0))]) (va_runS (As := [.ref a_p0, .int x2]) (rest := [.int x1, .ref a_p0]) ⟨hx, hb, hml, hown, hts⟩ (tX3_at l D cI cJ cZ cB a_p0 n_p0 x2 v_p0 r3 hc4 H.size) (va_cwS 2 hts gX3_swap_X3_at rfl rfl rfl (by decide +kernel) ⟨Nat.le_of_ble_eq_true rfl, Nat.le_of_ble_eq_true rfl⟩) (k_preS (is := [0]) hK hP hD rfl rfl) rfl rfl hl.1 rfl (lv_room (Nat.le_of_ble_eq_true rfl)) dX3_swap_10 ⟨Nat.zero_le _, Nat.zero_le _⟩) hP hD hS hA [0] [] [0] rfl rfl rfl (by decide) rfl rfl (fun H locs hP hD hS => ?_)
  obtain ⟨u5, hc6, hf⟩ := bnd1_some hf
  refine k_cv (wc := [(a_p0, .inl (cI, n_p0, .inl v_p0))]) (wr := []) (w1 := [(a_p0, .inl (cI, n_p0, .inl u5))]) (ws' := [(a_p0, .inl (cI, n_p0, .inl u5))]) (va_runS (As := [.ref a_p0, .int x1, .int r3]) (rest := []) ⟨hx, hb, hml, hown, hts⟩ (tX3_put l D cI cJ cZ cB a_p0 n_p0 x1 r3 v_p0 u5 hc6 H.size) (va_cwS 3 hts gX3_swap_X3_put rfl rfl rfl (by decide +kernel) ⟨Nat.le_of_ble_eq_true rfl, Nat.le_of_ble_eq_true rfl⟩) (k_preS (is := [0]) hK hP hD rfl rfl) rfl rfl hl.1 rfl (lv_room (Nat.le_of_ble_eq_true rfl)) dX3_swap_13 ⟨Nat.zero_le _, Nat.zero_le _⟩) hP hD hS hA [0] [] [0] rfl rfl rfl (by decide) rfl rfl (fun H locs hP hD hS => ?_)
  refine lv_aload_n hx hb dX3_swap_16 rfl (lv_at hl 1 rfl) ?_
  refine lv_iload_n hx hb dX3_swap_17 rfl (lv_at hl 3 rfl) ?_
  refine lv_iload_n hx hb dX3_swap_18 rfl (lv_at hl 0 rfl) ?_
  obtain ⟨u7, hc8, hf⟩ := bnd1_some hf
  refine k_cv (wc := [(a_p0, .inl (cI, n_p0, .inl u5))]) (wr := []) (w1 := [(a_p0, .inl (cI, n_p0, .inl u7))]) (ws' := [(a_p0, .inl (cI, n_p0, .inl u7))]) (va_runS (As := [.ref a_p0, .int x2, .int r1]) (rest := []) ⟨hx, hb, hml, hown, hts⟩ (tX3_put l D cI cJ cZ cB a_p0 n_p0 x2 r1 u5 u7 hc8 H.size) (va_cwS 3 hts gX3_swap_X3_put rfl rfl rfl (by decide +kernel) ⟨Nat.le_of_ble_eq_true rfl, Nat.le_of_ble_eq_true rfl⟩) (k_preS (is := [0]) hK hP hD rfl rfl) rfl rfl hl.1 rfl (lv_room (Nat.le_of_ble_eq_true rfl)) dX3_swap_19 ⟨Nat.zero_le _, Nat.zero_le _⟩) hP hD hS hA [0] [] [0] rfl rfl rfl (by decide) rfl rfl (fun H locs hP hD hS => ?_)
  cases hf
  subst hQ
  exact k_rv hx hb hr hlocks hP hD hS dX3_swap_22

set_option maxHeartbeats 4000000 in
set_option maxRecDepth 100000 in
theorem tX3_stepOrder (l : Launch) (D : va_G) (cI cJ cZ cB : ClassId) (a_p0 : Nat) (n_p0 : Nat) (x1 : Int32) (v_p0 : Nat → Int32) (r0 : Int32) (w_p0 : Nat → Int32) (hf : fX3_stepOrder x1 v_p0 n_p0 = some (r0, w_p0)) : MW l yX3_stepOrder wsX3_stepOrder { frames := 2, cells := 0, slots := 0, locals := 45 } D cI cJ cZ cB [(a_p0, .inl (cI, n_p0, .inl v_p0))] [.ref a_p0, .int x1] (QWi D r0 [(a_p0, .inl (cI, n_p0, .inl w_p0))]) := by
  refine k_body (cc := cX3_stepOrder) (maxL := 6) (ret := (some .boolean)) (by decide) rfl (Nat.le_of_ble_eq_true rfl) ?_
  intro p e s m args below meth c hx hb hr hml hts hown hlocks hname hK A hA hP hD hS ls hl
  have hl : lv_has ls 6 [(0, .ref a_p0), (1, .int x1)] := hl
  generalize hQ : MQ below ((QWi D r0 [(a_p0, .inl (cI, n_p0, .inl w_p0))]) A) args s 0 0 A = Q
  obtain ⟨H, hH⟩ : ∃ H, H = s.heap := ⟨_, rfl⟩
  obtain ⟨locs, hlo⟩ : ∃ z : List Loc, z = [] := ⟨_, rfl⟩
  have hP : va_P D vwCl [(a_p0, .inl (cI, n_p0, .inl v_p0))] H := by rw [hH]; exact hP
  have hS : va_S A s.heap H locs := by rw [hH, hlo]; exact hS
  suffices hg : W p l e (headSpec wsX3_stepOrder { frames := 2, cells := 0, slots := 0, locals := 45 }).room s m args below meth c H locs 0 0 Q (F0 m 0 ls []) by rw [hH, hlo] at hg; exact hg
  unfold fX3_stepOrder at hf
  refine lv_iload_n hx hb dX3_stepOrder_0 rfl (lv_at hl 1 rfl) ?_
  refine lv_iconst (v := 2) hx hb dX3_stepOrder_1 (by decide) ?_
  refine lv_isub hx hb dX3_stepOrder_2 ?_
  refine lv_istore_n (lv' := [(2, .int (x1 - 2)), (0, .ref a_p0), (1, .int x1)]) hx hb dX3_stepOrder_3 rfl hl (by decide) rfl (fun ls hl => ?_)
  have L4 : ∀ (n4 : Nat) (x2_4 : Int32) (H : Heap) (locs : List Loc) (ls : Array Slot), fX3_stepOrder_l4 x1 v_p0 n_p0 n4 x2_4 = some (r0, w_p0) → va_P D vwCl [(a_p0, .inl (cI, n_p0, .inl v_p0))] H → va_D A [(a_p0, .inl (cI, n_p0, .inl v_p0))] → va_S A s.heap H locs → lv_has ls 6 [(0, .ref a_p0), (1, .int x1), (2, .int x2_4)] → W p l e (headSpec wsX3_stepOrder { frames := 2, cells := 0, slots := 0, locals := 45 }).room s m args below meth c H locs 0 0 Q (F0 m 4 ls []) := by
    intro n4
    induction n4 with
    | zero =>
      intro x2_4 H locs ls hf
      have hf : (none : Option (Int32 × (Nat → Int32))) = some (r0, w_p0) := hf
      cases hf
    | succ n4 ih4 =>
      intro x2_4 H locs ls hf hP hD hS hl
      rw [fX3_stepOrder_l4] at hf
      refine lv_iload_n hx hb dX3_stepOrder_4 rfl (lv_at hl 2 rfl) ?_
      have J29 : ∀ (x2_29 : Int32) (v_p0_29 : Nat → Int32) (H : Heap) (locs : List Loc) (ls : Array Slot), fX3_stepOrder_j29 x1 v_p0_29 n_p0 x2_29 = some (r0, w_p0) → va_P D vwCl [(a_p0, .inl (cI, n_p0, .inl v_p0_29))] H → va_D A [(a_p0, .inl (cI, n_p0, .inl v_p0_29))] → va_S A s.heap H locs → lv_has ls 6 [(0, .ref a_p0), (1, .int x1), (2, .int x2_29)] → W p l e (headSpec wsX3_stepOrder { frames := 2, cells := 0, slots := 0, locals := 45 }).room s m args below meth c H locs 0 0 Q (F0 m 29 ls []) := by
        intro x2_29 v_p0_29 H locs ls hf hP hD hS hl
        unfold fX3_stepOrder_j29 at hf
        refine lv_iload_n hx hb dX3_stepOrder_29 rfl (lv_at hl 2 rfl) ?_
        refine lv_if_ge (tgt := 35) hx hb dX3_stepOrder_30 (by decide) (fun c1 => ?_) (fun c1 => ?_)
        · have hf := (if_pos c1).symm.trans hf
          refine lv_iload_n hx hb dX3_stepOrder_35 rfl (lv_at hl 1 rfl) ?_
          refine lv_iconst (v := 1) hx hb dX3_stepOrder_36 (by decide) ?_
          refine lv_isub hx hb dX3_stepOrder_37 ?_
          refine lv_istore_n (lv' := [(3, .int (x1 - 1)), (0, .ref a_p0), (1, .int x1), (2, .int x2_29)]) hx hb dX3_stepOrder_38 rfl hl (by decide) rfl (fun ls hl => ?_)
          have L39 : ∀ (n39 : Nat) (x3_39 : Int32) (H : Heap) (locs : List Loc) (ls : Array Slot), fX3_stepOrder_l39 x1 v_p0_29 n_p0 x2_29 n39 x3_39 = some (r0, w_p0) → va_P D vwCl [(a_p0, .inl (cI, n_p0, .inl v_p0_29))] H → va_D A [(a_p0, .inl (cI, n_p0, .inl v_p0_29))] → va_S A s.heap H locs → lv_has ls 6 [(0, .ref a_p0), (1, .int x1), (2, .int x2_29), (3, .int x3_39)] → W p l e (headSpec wsX3_stepOrder { frames := 2, cells := 0, slots := 0, locals := 45 }).room s m args below meth c H locs 0 0 Q (F0 m 39 ls []) := by
            intro n39
            induction n39 with
            | zero =>
              intro x3_39 H locs ls hf
              have hf : (none : Option (Int32 × (Nat → Int32))) = some (r0, w_p0) := hf
              cases hf
            | succ n39 ih39 =>
              intro x3_39 H locs ls hf hP hD hS hl
              rw [fX3_stepOrder_l39] at hf
              refine lv_iload_n hx hb dX3_stepOrder_39 rfl (lv_at hl 3 rfl) ?_
              refine lv_iload_n hx hb dX3_stepOrder_40 rfl (lv_at hl 2 rfl) ?_
              have J63 : ∀ (x2_63 : Int32) (x3_63 : Int32) (v_p0_63 : Nat → Int32) (H : Heap) (locs : List Loc) (ls : Array Slot), fX3_stepOrder_j63 x1 v_p0_63 n_p0 x2_63 x3_63 = some (r0, w_p0) → va_P D vwCl [(a_p0, .inl (cI, n_p0, .inl v_p0_63))] H → va_D A [(a_p0, .inl (cI, n_p0, .inl v_p0_63))] → va_S A s.heap H locs → lv_has ls 6 [(0, .ref a_p0), (1, .int x1), (2, .int x2_63), (3, .int x3_63)] → W p l e (headSpec wsX3_stepOrder { frames := 2, cells := 0, slots := 0, locals := 45 }).room s m args below meth c H locs 0 0 Q (F0 m 63 ls []) := by
                intro x2_63 x3_63 v_p0_63 H locs ls hf hP hD hS hl
                unfold fX3_stepOrder_j63 at hf
                refine lv_aload_n hx hb dX3_stepOrder_63 rfl (lv_at hl 0 rfl) ?_
                refine lv_iload_n hx hb dX3_stepOrder_64 rfl (lv_at hl 2 rfl) ?_
                refine lv_iload_n hx hb dX3_stepOrder_65 rfl (lv_at hl 3 rfl) ?_
                obtain ⟨u2, hc3, hf⟩ := bnd1_some hf
                refine k_cv (wc := [(a_p0, .inl (cI, n_p0, .inl v_p0_63))]) (wr := []) (w1 := [(a_p0, .inl (cI, n_p0, .inl u2))]) (ws' := [(a_p0, .inl (cI, n_p0, .inl u2))]) (va_runS (As := [.ref a_p0, .int x2_63, .int x3_63]) (rest := []) ⟨hx, hb, hml, hown, hts⟩ (tX3_swap l D cI cJ cZ cB a_p0 n_p0 x2_63 x3_63 v_p0_63 u2 hc3 H.size) (va_cwS 3 hts gX3_stepOrder_X3_swap rfl rfl rfl (by decide +kernel) ⟨Nat.le_of_ble_eq_true rfl, Nat.le_of_ble_eq_true rfl⟩) (k_preS (is := [0]) hK hP hD rfl rfl) rfl rfl hl.1 rfl (lv_room (Nat.le_of_ble_eq_true rfl)) dX3_stepOrder_66 ⟨Nat.zero_le _, Nat.zero_le _⟩) hP hD hS hA [0] [] [0] rfl rfl rfl (by decide) rfl rfl (fun H locs hP hD hS => ?_)
                refine lv_iload_n hx hb dX3_stepOrder_69 rfl (lv_at hl 2 rfl) ?_
                refine lv_iconst (v := 1) hx hb dX3_stepOrder_70 (by decide) ?_
                refine lv_iadd hx hb dX3_stepOrder_71 ?_
                refine lv_istore (lv' := [(4, .int (x2_63 + 1)), (0, .ref a_p0), (1, .int x1), (2, .int x2_63), (3, .int x3_63)]) hx hb dX3_stepOrder_72 hl (by decide) rfl (fun ls hl => ?_)
                refine lv_iload_n hx hb dX3_stepOrder_74 rfl (lv_at hl 2 rfl) ?_
                refine lv_iconst (v := 1) hx hb dX3_stepOrder_75 (by decide) ?_
                refine lv_isub hx hb dX3_stepOrder_76 ?_
                refine lv_istore (lv' := [(5, .int (x1 - 1)), (4, .int (x2_63 + 1)), (0, .ref a_p0), (1, .int x1), (2, .int x2_63), (3, .int x3_63)]) hx hb dX3_stepOrder_77 hl (by decide) rfl (fun ls hl => ?_)
                have L79 : ∀ (n79 : Nat) (x4_79 : Int32) (x5_79 : Int32) (v_p0_79 : Nat → Int32) (H : Heap) (locs : List Loc) (ls : Array Slot), fX3_stepOrder_l79 n_p0 n79 x4_79 x5_79 v_p0_79 = some (r0, w_p0) → va_P D vwCl [(a_p0, .inl (cI, n_p0, .inl v_p0_79))] H → va_D A [(a_p0, .inl (cI, n_p0, .inl v_p0_79))] → va_S A s.heap H locs → lv_has ls 6 [(0, .ref a_p0), (4, .int x4_79), (5, .int x5_79)] → W p l e (headSpec wsX3_stepOrder { frames := 2, cells := 0, slots := 0, locals := 45 }).room s m args below meth c H locs 0 0 Q (F0 m 79 ls []) := by
                  intro n79
                  induction n79 with
                  | zero =>
                    intro x4_79 x5_79 v_p0_79 H locs ls hf
                    have hf : (none : Option (Int32 × (Nat → Int32))) = some (r0, w_p0) := hf
                    cases hf
                  | succ n79 ih79 =>
                    intro x4_79 x5_79 v_p0_79 H locs ls hf hP hD hS hl
                    rw [fX3_stepOrder_l79] at hf
                    refine lv_iload hx hb dX3_stepOrder_79 (lv_at hl 1 rfl) ?_
                    refine lv_iload hx hb dX3_stepOrder_81 (lv_at hl 2 rfl) ?_
                    refine lv_icmp_ge (tgt := 103) hx hb dX3_stepOrder_83 (by decide) (fun c4 => ?_) (fun c4 => ?_)
                    · have hf := (if_pos c4).symm.trans hf
                      refine lv_iconst (v := 1) hx hb dX3_stepOrder_103 (by decide) ?_
                      cases hf
                      subst hQ
                      exact k_rz hx hb hr hlocks hP hD hS (by decide) dX3_stepOrder_104
                    · have hf := (if_neg c4).symm.trans hf
                      refine lv_aload_n hx hb dX3_stepOrder_86 rfl (lv_at hl 0 rfl) ?_
                      refine lv_iload hx hb dX3_stepOrder_87 (lv_at hl 1 rfl) ?_
                      refine lv_iload hx hb dX3_stepOrder_89 (lv_at hl 2 rfl) ?_
                      obtain ⟨u5, hc6, hf⟩ := bnd1_some hf
                      refine k_cv (wc := [(a_p0, .inl (cI, n_p0, .inl v_p0_79))]) (wr := []) (w1 := [(a_p0, .inl (cI, n_p0, .inl u5))]) (ws' := [(a_p0, .inl (cI, n_p0, .inl u5))]) (va_runS (As := [.ref a_p0, .int x4_79, .int x5_79]) (rest := []) ⟨hx, hb, hml, hown, hts⟩ (tX3_swap l D cI cJ cZ cB a_p0 n_p0 x4_79 x5_79 v_p0_79 u5 hc6 H.size) (va_cwS 3 hts gX3_stepOrder_X3_swap rfl rfl rfl (by decide +kernel) ⟨Nat.le_of_ble_eq_true rfl, Nat.le_of_ble_eq_true rfl⟩) (k_preS (is := [0]) hK hP hD rfl rfl) rfl rfl hl.1 rfl (lv_room (Nat.le_of_ble_eq_true rfl)) dX3_stepOrder_91 ⟨Nat.zero_le _, Nat.zero_le _⟩) hP hD hS hA [0] [] [0] rfl rfl rfl (by decide) rfl rfl (fun H locs hP hD hS => ?_)
                      refine lv_iinc (v := (x4_79 + 1)) (lv' := [(4, .int (x4_79 + 1)), (0, .ref a_p0), (5, .int x5_79)]) hx hb dX3_stepOrder_94 hl (k := 1) rfl (by rfl) (by decide) rfl (fun ls hl => ?_)
                      refine lv_iinc (v := (x5_79 + (-1))) (lv' := [(5, .int (x5_79 + (-1))), (4, .int (x4_79 + 1)), (0, .ref a_p0)]) hx hb dX3_stepOrder_97 hl (k := 2) rfl (by rfl) (by decide) rfl (fun ls hl => ?_)
                      refine lv_goto (tgt := 79) hx hb dX3_stepOrder_100 (by decide) ?_
                      exact ih79 (x4_79 + 1) (x5_79 + (-1)) u5 _ _ _ hf hP hD hS (lv_sub hl [2, 1, 0] rfl)
                exact L79 FU (x2_63 + 1) (x1 - 1) u2 _ _ _ hf hP hD hS (lv_sub hl [2, 1, 0] rfl)
              refine lv_icmp_le (tgt := 63) hx hb dX3_stepOrder_41 (by decide) (fun c7 => ?_) (fun c7 => ?_)
              · have hf := (if_pos c7).symm.trans hf
                exact J63 x2_29 x3_39 v_p0_29 _ _ _ hf hP hD hS (lv_sub hl [0, 1, 2, 3] rfl)
              · have hf := (if_neg c7).symm.trans hf
                refine lv_aload_n hx hb dX3_stepOrder_44 rfl (lv_at hl 0 rfl) ?_
                refine lv_iload_n hx hb dX3_stepOrder_45 rfl (lv_at hl 3 rfl) ?_
                obtain ⟨r8, hc9, hf⟩ := bnd1_some hf
                refine k_ci (wc := [(a_p0, .inl (cI, n_p0, .inl v_p0_29))]) (wr := []) (w1 := [(a_p0, .inl (cI, n_p0, .inl v_p0_29))]) (ws' := [(a_p0, .inl (cI, n_p0, .inl v_p0_29))]) (va_runS (As := [.ref a_p0, .int x3_39]) (rest := []) ⟨hx, hb, hml, hown, hts⟩ (tX3_at l D cI cJ cZ cB a_p0 n_p0 x3_39 v_p0_29 r8 hc9 H.size) (va_cwS 2 hts gX3_stepOrder_X3_at rfl rfl rfl (by decide +kernel) ⟨Nat.le_of_ble_eq_true rfl, Nat.le_of_ble_eq_true rfl⟩) (k_preS (is := [0]) hK hP hD rfl rfl) rfl rfl hl.1 rfl (lv_room (Nat.le_of_ble_eq_true rfl)) dX3_stepOrder_46 ⟨Nat.zero_le _, Nat.zero_le _⟩) hP hD hS hA [0] [] [0] rfl rfl rfl (by decide) rfl rfl (fun H locs hP hD hS => ?_)
                refine lv_aload_n hx hb dX3_stepOrder_49 rfl (lv_at hl 0 rfl) ?_
                refine lv_iload_n hx hb dX3_stepOrder_50 rfl (lv_at hl 2 rfl) ?_
                obtain ⟨r10, hc11, hf⟩ := bnd1_some hf
                refine k_ci (wc := [(a_p0, .inl (cI, n_p0, .inl v_p0_29))]) (wr := []) (w1 := [(a_p0, .inl (cI, n_p0, .inl v_p0_29))]) (ws' := [(a_p0, .inl (cI, n_p0, .inl v_p0_29))]) (va_runS (As := [.ref a_p0, .int x2_29]) (rest := [.int r8]) ⟨hx, hb, hml, hown, hts⟩ (tX3_at l D cI cJ cZ cB a_p0 n_p0 x2_29 v_p0_29 r10 hc11 H.size) (va_cwS 2 hts gX3_stepOrder_X3_at rfl rfl rfl (by decide +kernel) ⟨Nat.le_of_ble_eq_true rfl, Nat.le_of_ble_eq_true rfl⟩) (k_preS (is := [0]) hK hP hD rfl rfl) rfl rfl hl.1 rfl (lv_room (Nat.le_of_ble_eq_true rfl)) dX3_stepOrder_51 ⟨Nat.zero_le _, Nat.zero_le _⟩) hP hD hS hA [0] [] [0] rfl rfl rfl (by decide) rfl rfl (fun H locs hP hD hS => ?_)
                refine lv_icmp_gt (tgt := 63) hx hb dX3_stepOrder_54 (by decide) (fun c12 => ?_) (fun c12 => ?_)
                · have hf := (if_pos c12).symm.trans hf
                  exact J63 x2_29 x3_39 v_p0_29 _ _ _ hf hP hD hS (lv_sub hl [0, 1, 2, 3] rfl)
                · have hf := (if_neg c12).symm.trans hf
                  refine lv_iinc (v := (x3_39 + (-1))) (lv' := [(3, .int (x3_39 + (-1))), (0, .ref a_p0), (1, .int x1), (2, .int x2_29)]) hx hb dX3_stepOrder_57 hl (k := 3) rfl (by rfl) (by decide) rfl (fun ls hl => ?_)
                  refine lv_goto (tgt := 39) hx hb dX3_stepOrder_60 (by decide) ?_
                  exact ih39 (x3_39 + (-1)) _ _ _ hf hP hD hS (lv_sub hl [1, 2, 3, 0] rfl)
          exact L39 FU (x1 - 1) _ _ _ hf hP hD hS (lv_sub hl [1, 2, 3, 0] rfl)
        · have hf := (if_neg c1).symm.trans hf
          refine lv_iconst (v := 0) hx hb dX3_stepOrder_33 (by decide) ?_
          cases hf
          subst hQ
          exact k_rz hx hb hr hlocks hP hD hS (by decide) dX3_stepOrder_34
      refine lv_if_lt (tgt := 29) hx hb dX3_stepOrder_5 (by decide) (fun c13 => ?_) (fun c13 => ?_)
      · have hf := (if_pos c13).symm.trans hf
        exact J29 x2_4 v_p0 _ _ _ hf hP hD hS (lv_sub hl [0, 1, 2] rfl)
      · have hf := (if_neg c13).symm.trans hf
        refine lv_aload_n hx hb dX3_stepOrder_8 rfl (lv_at hl 0 rfl) ?_
        refine lv_iload_n hx hb dX3_stepOrder_9 rfl (lv_at hl 2 rfl) ?_
        obtain ⟨r14, hc15, hf⟩ := bnd1_some hf
        refine k_ci (wc := [(a_p0, .inl (cI, n_p0, .inl v_p0))]) (wr := []) (w1 := [(a_p0, .inl (cI, n_p0, .inl v_p0))]) (ws' := [(a_p0, .inl (cI, n_p0, .inl v_p0))]) (va_runS (As := [.ref a_p0, .int x2_4]) (rest := []) ⟨hx, hb, hml, hown, hts⟩ (tX3_at l D cI cJ cZ cB a_p0 n_p0 x2_4 v_p0 r14 hc15 H.size) (va_cwS 2 hts gX3_stepOrder_X3_at rfl rfl rfl (by decide +kernel) ⟨Nat.le_of_ble_eq_true rfl, Nat.le_of_ble_eq_true rfl⟩) (k_preS (is := [0]) hK hP hD rfl rfl) rfl rfl hl.1 rfl (lv_room (Nat.le_of_ble_eq_true rfl)) dX3_stepOrder_10 ⟨Nat.zero_le _, Nat.zero_le _⟩) hP hD hS hA [0] [] [0] rfl rfl rfl (by decide) rfl rfl (fun H locs hP hD hS => ?_)
        refine lv_aload_n hx hb dX3_stepOrder_13 rfl (lv_at hl 0 rfl) ?_
        refine lv_iload_n hx hb dX3_stepOrder_14 rfl (lv_at hl 2 rfl) ?_
        refine lv_iconst (v := 1) hx hb dX3_stepOrder_15 (by decide) ?_
        refine lv_iadd hx hb dX3_stepOrder_16 ?_
        obtain ⟨r16, hc17, hf⟩ := bnd1_some hf
        refine k_ci (wc := [(a_p0, .inl (cI, n_p0, .inl v_p0))]) (wr := []) (w1 := [(a_p0, .inl (cI, n_p0, .inl v_p0))]) (ws' := [(a_p0, .inl (cI, n_p0, .inl v_p0))]) (va_runS (As := [.ref a_p0, .int (x2_4 + 1)]) (rest := [.int r14]) ⟨hx, hb, hml, hown, hts⟩ (tX3_at l D cI cJ cZ cB a_p0 n_p0 (x2_4 + 1) v_p0 r16 hc17 H.size) (va_cwS 2 hts gX3_stepOrder_X3_at rfl rfl rfl (by decide +kernel) ⟨Nat.le_of_ble_eq_true rfl, Nat.le_of_ble_eq_true rfl⟩) (k_preS (is := [0]) hK hP hD rfl rfl) rfl rfl hl.1 rfl (lv_room (Nat.le_of_ble_eq_true rfl)) dX3_stepOrder_17 ⟨Nat.zero_le _, Nat.zero_le _⟩) hP hD hS hA [0] [] [0] rfl rfl rfl (by decide) rfl rfl (fun H locs hP hD hS => ?_)
        refine lv_icmp_lt (tgt := 29) hx hb dX3_stepOrder_20 (by decide) (fun c18 => ?_) (fun c18 => ?_)
        · have hf := (if_pos c18).symm.trans hf
          exact J29 x2_4 v_p0 _ _ _ hf hP hD hS (lv_sub hl [0, 1, 2] rfl)
        · have hf := (if_neg c18).symm.trans hf
          refine lv_iinc (v := (x2_4 + (-1))) (lv' := [(2, .int (x2_4 + (-1))), (0, .ref a_p0), (1, .int x1)]) hx hb dX3_stepOrder_23 hl (k := 2) rfl (by rfl) (by decide) rfl (fun ls hl => ?_)
          refine lv_goto (tgt := 4) hx hb dX3_stepOrder_26 (by decide) ?_
          exact ih4 (x2_4 + (-1)) _ _ _ hf hP hD hS (lv_sub hl [1, 2, 0] rfl)
  exact L4 FU (x1 - 2) _ _ _ hf hP hD hS (lv_sub hl [1, 2, 0] rfl)

set_option maxHeartbeats 4000000 in
set_option maxRecDepth 100000 in
theorem tX3_findBest (l : Launch) (D : va_G) (cI cJ cZ cB : ClassId) (a_this : Nat) (a_trial : Nat) (a_now : Nat) (a_sitting : Nat) (a_now_first : Nat) (a_now_second : Nat) (a_now_worth : Nat) (a_now_winner : Nat) (a_best : Nat) (o_this_pad : Value) (o_this_signs : Value) (o_this_images : Value) (o_this_reader : Value) (o_now_sights : Value) (o_now_full : Value) (o_now_row : Value) (o_now_sightWeight : Value) (o_now_sightMany : Value) (x1 : Int32) (v_now_weight : Int32) (v_now_hole : Int32) (v_now_held : Int32) (v_sitting_decided : Int32) (v_sitting_sunk : Int32) (v_sitting_plaintiffs : Int32) (v_sitting_defendants : Int32) (v_sitting_poor : Int32) (v_sitting_worths : Int32) (v_now_many : Int32) (v_now_law : Int32) (v_trial : Nat → Int32) (v_now_first : Nat → Int32) (v_now_second : Nat → Int32) (v_now_worth : Nat → Int32) (v_now_winner : Nat → Int32) (v_best : Nat → Int32) (r0 : Int32) (w_sitting_decided : Int32) (w_sitting_sunk : Int32) (w_sitting_plaintiffs : Int32) (w_sitting_defendants : Int32) (w_sitting_poor : Int32) (w_sitting_worths : Int32) (w_trial : Nat → Int32) (w_best : Nat → Int32) (hf : fX3_findBest x1 v_now_weight v_now_hole v_now_held v_sitting_decided v_sitting_sunk v_sitting_plaintiffs v_sitting_defendants v_sitting_poor v_sitting_worths v_now_many v_now_law v_trial v_now_first v_now_second v_now_worth v_now_winner v_best = some (r0, w_sitting_decided, w_sitting_sunk, w_sitting_plaintiffs, w_sitting_defendants, w_sitting_poor, w_sitting_worths, w_trial, w_best)) : MW l yX3_findBest wsX3_findBest { frames := 3, cells := 0, slots := 0, locals := 72 } D cI cJ cZ cB [(a_this, .inr (3, [o_this_pad, o_this_signs, .ref a_now, o_this_images, .ref a_sitting, o_this_reader, .ref a_trial, .ref a_best])), (a_trial, .inl (cI, 6, .inl v_trial)), (a_now, .inr (0, [.int v_now_weight, .int v_now_hole, .int v_now_held, .int v_now_law, .int v_now_many, o_now_sights, o_now_full, .ref a_now_first, .ref a_now_second, .ref a_now_worth, .ref a_now_winner, o_now_row, o_now_sightWeight, o_now_sightMany])), (a_sitting, .inr (2, [.int v_sitting_decided, .int v_sitting_sunk, .int v_sitting_plaintiffs, .int v_sitting_defendants, .int v_sitting_poor, .int v_sitting_worths])), (a_now_first, .inl (cI, 6, .inl v_now_first)), (a_now_second, .inl (cI, 6, .inl v_now_second)), (a_now_worth, .inl (cI, 6, .inl v_now_worth)), (a_now_winner, .inl (cI, 6, .inl v_now_winner)), (a_best, .inl (cI, 6, .inl v_best))] [.ref a_this, .int x1] (QWi D r0 [(a_this, .inr (3, [o_this_pad, o_this_signs, .ref a_now, o_this_images, .ref a_sitting, o_this_reader, .ref a_trial, .ref a_best])), (a_trial, .inl (cI, 6, .inl w_trial)), (a_now, .inr (0, [.int v_now_weight, .int v_now_hole, .int v_now_held, .int v_now_law, .int v_now_many, o_now_sights, o_now_full, .ref a_now_first, .ref a_now_second, .ref a_now_worth, .ref a_now_winner, o_now_row, o_now_sightWeight, o_now_sightMany])), (a_sitting, .inr (2, [.int w_sitting_decided, .int w_sitting_sunk, .int w_sitting_plaintiffs, .int w_sitting_defendants, .int w_sitting_poor, .int w_sitting_worths])), (a_now_first, .inl (cI, 6, .inl v_now_first)), (a_now_second, .inl (cI, 6, .inl v_now_second)), (a_now_worth, .inl (cI, 6, .inl v_now_worth)), (a_now_winner, .inl (cI, 6, .inl v_now_winner)), (a_best, .inl (cI, 6, .inl w_best))]) := by
  refine k_body (cc := cX3_findBest) (maxL := 6) (ret := (some .int)) (by decide) rfl (Nat.le_of_ble_eq_true rfl) ?_
  intro p e s m args below meth c hx hb hr hml hts hown hlocks hname hK A hA hP hD hS ls hl
  have hl : lv_has ls 6 [(0, .ref a_this), (1, .int x1)] := hl
  generalize hQ : MQ below ((QWi D r0 [(a_this, .inr (3, [o_this_pad, o_this_signs, .ref a_now, o_this_images, .ref a_sitting, o_this_reader, .ref a_trial, .ref a_best])), (a_trial, .inl (cI, 6, .inl w_trial)), (a_now, .inr (0, [.int v_now_weight, .int v_now_hole, .int v_now_held, .int v_now_law, .int v_now_many, o_now_sights, o_now_full, .ref a_now_first, .ref a_now_second, .ref a_now_worth, .ref a_now_winner, o_now_row, o_now_sightWeight, o_now_sightMany])), (a_sitting, .inr (2, [.int w_sitting_decided, .int w_sitting_sunk, .int w_sitting_plaintiffs, .int w_sitting_defendants, .int w_sitting_poor, .int w_sitting_worths])), (a_now_first, .inl (cI, 6, .inl v_now_first)), (a_now_second, .inl (cI, 6, .inl v_now_second)), (a_now_worth, .inl (cI, 6, .inl v_now_worth)), (a_now_winner, .inl (cI, 6, .inl v_now_winner)), (a_best, .inl (cI, 6, .inl w_best))]) A) args s 0 0 A = Q
  obtain ⟨H, hH⟩ : ∃ H, H = s.heap := ⟨_, rfl⟩
  obtain ⟨locs, hlo⟩ : ∃ z : List Loc, z = [] := ⟨_, rfl⟩
  have hP : va_P D vwCl [(a_this, .inr (3, [o_this_pad, o_this_signs, .ref a_now, o_this_images, .ref a_sitting, o_this_reader, .ref a_trial, .ref a_best])), (a_trial, .inl (cI, 6, .inl v_trial)), (a_now, .inr (0, [.int v_now_weight, .int v_now_hole, .int v_now_held, .int v_now_law, .int v_now_many, o_now_sights, o_now_full, .ref a_now_first, .ref a_now_second, .ref a_now_worth, .ref a_now_winner, o_now_row, o_now_sightWeight, o_now_sightMany])), (a_sitting, .inr (2, [.int v_sitting_decided, .int v_sitting_sunk, .int v_sitting_plaintiffs, .int v_sitting_defendants, .int v_sitting_poor, .int v_sitting_worths])), (a_now_first, .inl (cI, 6, .inl v_now_first)), (a_now_second, .inl (cI, 6, .inl v_now_second)), (a_now_worth, .inl (cI, 6, .inl v_now_worth)), (a_now_winner, .inl (cI, 6, .inl v_now_winner)), (a_best, .inl (cI, 6, .inl v_best))] H := by rw [hH]; exact hP
  have hS : va_S A s.heap H locs := by rw [hH, hlo]; exact hS
  suffices hg : W p l e (headSpec wsX3_findBest { frames := 3, cells := 0, slots := 0, locals := 72 }).room s m args below meth c H locs 0 0 Q (F0 m 0 ls []) by rw [hH, hlo] at hg; exact hg
  have l20 := hts (.fieldLink RX3 20 "CandleCourt" "now" "LCandleCourt$Bench;") (by decide +kernel)
  have l31 := hts (.fieldLink RX3 31 "CandleCourt" "sitting" "LCandleCourt$Sitting;") (by decide +kernel)
  have l42 := hts (.fieldLink RX3 42 "CandleCourt" "trial" "[I") (by decide +kernel)
  have l45 := hts (.fieldLink RX3 45 "CandleCourt" "best" "[I") (by decide +kernel)
  have l80 := hts (.fieldLink RX3 80 "CandleCourt$Bench" "many" "I") (by decide +kernel)
  have iX0 : ∀ w ∈ wsX00, w ∈ wsX3_findBest := by decide +kernel
  have iX3 : ∀ w ∈ wsX30, w ∈ wsX3_findBest := by decide +kernel
  unfold fX3_findBest at hf
  refine lv_iconst (v := (-1)) hx hb dX3_findBest_0 (by decide) ?_
  refine lv_istore_n (lv' := [(2, .int (-1)), (0, .ref a_this), (1, .int x1)]) hx hb dX3_findBest_1 rfl hl (by decide) rfl (fun ls hl => ?_)
  refine lv_iconst (v := 0) hx hb dX3_findBest_2 (by decide) ?_
  refine lv_istore_n (lv' := [(3, .int 0), (2, .int (-1)), (0, .ref a_this), (1, .int x1)]) hx hb dX3_findBest_3 rfl hl (by decide) rfl (fun ls hl => ?_)
  have L4 : ∀ (n4 : Nat) (x3_4 : Int32) (v_trial_4 : Nat → Int32) (H : Heap) (locs : List Loc) (ls : Array Slot), fX3_findBest_l4 x1 v_now_weight v_now_hole v_now_held v_sitting_decided v_sitting_sunk v_sitting_plaintiffs v_sitting_defendants v_sitting_poor v_sitting_worths v_now_many v_now_law v_now_first v_now_second v_now_worth v_now_winner v_best (-1) n4 x3_4 v_trial_4 = some (r0, w_sitting_decided, w_sitting_sunk, w_sitting_plaintiffs, w_sitting_defendants, w_sitting_poor, w_sitting_worths, w_trial, w_best) → va_P D vwCl [(a_this, .inr (3, [o_this_pad, o_this_signs, .ref a_now, o_this_images, .ref a_sitting, o_this_reader, .ref a_trial, .ref a_best])), (a_trial, .inl (cI, 6, .inl v_trial_4)), (a_now, .inr (0, [.int v_now_weight, .int v_now_hole, .int v_now_held, .int v_now_law, .int v_now_many, o_now_sights, o_now_full, .ref a_now_first, .ref a_now_second, .ref a_now_worth, .ref a_now_winner, o_now_row, o_now_sightWeight, o_now_sightMany])), (a_sitting, .inr (2, [.int v_sitting_decided, .int v_sitting_sunk, .int v_sitting_plaintiffs, .int v_sitting_defendants, .int v_sitting_poor, .int v_sitting_worths])), (a_now_first, .inl (cI, 6, .inl v_now_first)), (a_now_second, .inl (cI, 6, .inl v_now_second)), (a_now_worth, .inl (cI, 6, .inl v_now_worth)), (a_now_winner, .inl (cI, 6, .inl v_now_winner)), (a_best, .inl (cI, 6, .inl v_best))] H → va_D A [(a_this, .inr (3, [o_this_pad, o_this_signs, .ref a_now, o_this_images, .ref a_sitting, o_this_reader, .ref a_trial, .ref a_best])), (a_trial, .inl (cI, 6, .inl v_trial_4)), (a_now, .inr (0, [.int v_now_weight, .int v_now_hole, .int v_now_held, .int v_now_law, .int v_now_many, o_now_sights, o_now_full, .ref a_now_first, .ref a_now_second, .ref a_now_worth, .ref a_now_winner, o_now_row, o_now_sightWeight, o_now_sightMany])), (a_sitting, .inr (2, [.int v_sitting_decided, .int v_sitting_sunk, .int v_sitting_plaintiffs, .int v_sitting_defendants, .int v_sitting_poor, .int v_sitting_worths])), (a_now_first, .inl (cI, 6, .inl v_now_first)), (a_now_second, .inl (cI, 6, .inl v_now_second)), (a_now_worth, .inl (cI, 6, .inl v_now_worth)), (a_now_winner, .inl (cI, 6, .inl v_now_winner)), (a_best, .inl (cI, 6, .inl v_best))] → va_S A s.heap H locs → lv_has ls 6 [(0, .ref a_this), (1, .int x1), (2, .int (-1)), (3, .int x3_4)] → W p l e (headSpec wsX3_findBest { frames := 3, cells := 0, slots := 0, locals := 72 }).room s m args below meth c H locs 0 0 Q (F0 m 4 ls []) := by
    intro n4
    induction n4 with
    | zero =>
      intro x3_4 v_trial_4 H locs ls hf
      have hf : (none : Option (Int32 × (Int32) × (Int32) × (Int32) × (Int32) × (Int32) × (Int32) × (Nat → Int32) × (Nat → Int32))) = some (r0, w_sitting_decided, w_sitting_sunk, w_sitting_plaintiffs, w_sitting_defendants, w_sitting_poor, w_sitting_worths, w_trial, w_best) := hf
      cases hf
    | succ n4 ih4 =>
      intro x3_4 v_trial_4 H locs ls hf hP hD hS hl
      rw [fX3_findBest_l4] at hf
      refine lv_iload_n hx hb dX3_findBest_4 rfl (lv_at hl 3 rfl) ?_
      refine lv_bipush (v := 6) hx hb dX3_findBest_5 (by decide) ?_
      refine lv_icmp_ge (tgt := 25) hx hb dX3_findBest_7 (by decide) (fun c1 => ?_) (fun c1 => ?_)
      · have hf := (if_pos c1).symm.trans hf
        refine lv_iconst (v := 1) hx hb dX3_findBest_25 (by decide) ?_
        refine lv_istore_n (lv' := [(3, .int 1), (0, .ref a_this), (1, .int x1), (2, .int (-1))]) hx hb dX3_findBest_26 rfl hl (by decide) rfl (fun ls hl => ?_)
        refine lv_iconst (v := 0) hx hb dX3_findBest_27 (by decide) ?_
        refine lv_istore (lv' := [(4, .int 0), (3, .int 1), (0, .ref a_this), (1, .int x1), (2, .int (-1))]) hx hb dX3_findBest_28 hl (by decide) rfl (fun ls hl => ?_)
        have L30 : ∀ (n30 : Nat) (x2_30 : Int32) (x3_30 : Int32) (x4_30 : Int32) (v_sitting_decided_30 : Int32) (v_sitting_sunk_30 : Int32) (v_sitting_plaintiffs_30 : Int32) (v_sitting_defendants_30 : Int32) (v_sitting_poor_30 : Int32) (v_sitting_worths_30 : Int32) (v_trial_30 : Nat → Int32) (v_best_30 : Nat → Int32) (H : Heap) (locs : List Loc) (ls : Array Slot), fX3_findBest_l30 x1 v_now_weight v_now_hole v_now_held v_now_many v_now_law v_now_first v_now_second v_now_worth v_now_winner n30 x2_30 x3_30 x4_30 v_sitting_decided_30 v_sitting_sunk_30 v_sitting_plaintiffs_30 v_sitting_defendants_30 v_sitting_poor_30 v_sitting_worths_30 v_trial_30 v_best_30 = some (r0, w_sitting_decided, w_sitting_sunk, w_sitting_plaintiffs, w_sitting_defendants, w_sitting_poor, w_sitting_worths, w_trial, w_best) → va_P D vwCl [(a_this, .inr (3, [o_this_pad, o_this_signs, .ref a_now, o_this_images, .ref a_sitting, o_this_reader, .ref a_trial, .ref a_best])), (a_trial, .inl (cI, 6, .inl v_trial_30)), (a_now, .inr (0, [.int v_now_weight, .int v_now_hole, .int v_now_held, .int v_now_law, .int v_now_many, o_now_sights, o_now_full, .ref a_now_first, .ref a_now_second, .ref a_now_worth, .ref a_now_winner, o_now_row, o_now_sightWeight, o_now_sightMany])), (a_sitting, .inr (2, [.int v_sitting_decided_30, .int v_sitting_sunk_30, .int v_sitting_plaintiffs_30, .int v_sitting_defendants_30, .int v_sitting_poor_30, .int v_sitting_worths_30])), (a_now_first, .inl (cI, 6, .inl v_now_first)), (a_now_second, .inl (cI, 6, .inl v_now_second)), (a_now_worth, .inl (cI, 6, .inl v_now_worth)), (a_now_winner, .inl (cI, 6, .inl v_now_winner)), (a_best, .inl (cI, 6, .inl v_best_30))] H → va_D A [(a_this, .inr (3, [o_this_pad, o_this_signs, .ref a_now, o_this_images, .ref a_sitting, o_this_reader, .ref a_trial, .ref a_best])), (a_trial, .inl (cI, 6, .inl v_trial_30)), (a_now, .inr (0, [.int v_now_weight, .int v_now_hole, .int v_now_held, .int v_now_law, .int v_now_many, o_now_sights, o_now_full, .ref a_now_first, .ref a_now_second, .ref a_now_worth, .ref a_now_winner, o_now_row, o_now_sightWeight, o_now_sightMany])), (a_sitting, .inr (2, [.int v_sitting_decided_30, .int v_sitting_sunk_30, .int v_sitting_plaintiffs_30, .int v_sitting_defendants_30, .int v_sitting_poor_30, .int v_sitting_worths_30])), (a_now_first, .inl (cI, 6, .inl v_now_first)), (a_now_second, .inl (cI, 6, .inl v_now_second)), (a_now_worth, .inl (cI, 6, .inl v_now_worth)), (a_now_winner, .inl (cI, 6, .inl v_now_winner)), (a_best, .inl (cI, 6, .inl v_best_30))] → va_S A s.heap H locs → lv_has ls 6 [(0, .ref a_this), (1, .int x1), (2, .int x2_30), (3, .int x3_30), (4, .int x4_30)] → W p l e (headSpec wsX3_findBest { frames := 3, cells := 0, slots := 0, locals := 72 }).room s m args below meth c H locs 0 0 Q (F0 m 30 ls []) := by
          intro n30
          induction n30 with
          | zero =>
            intro x2_30 x3_30 x4_30 v_sitting_decided_30 v_sitting_sunk_30 v_sitting_plaintiffs_30 v_sitting_defendants_30 v_sitting_poor_30 v_sitting_worths_30 v_trial_30 v_best_30 H locs ls hf
            have hf : (none : Option (Int32 × (Int32) × (Int32) × (Int32) × (Int32) × (Int32) × (Int32) × (Nat → Int32) × (Nat → Int32))) = some (r0, w_sitting_decided, w_sitting_sunk, w_sitting_plaintiffs, w_sitting_defendants, w_sitting_poor, w_sitting_worths, w_trial, w_best) := hf
            cases hf
          | succ n30 ih30 =>
            intro x2_30 x3_30 x4_30 v_sitting_decided_30 v_sitting_sunk_30 v_sitting_plaintiffs_30 v_sitting_defendants_30 v_sitting_poor_30 v_sitting_worths_30 v_trial_30 v_best_30 H locs ls hf hP hD hS hl
            rw [fX3_findBest_l30] at hf
            refine lv_iload hx hb dX3_findBest_30 (lv_at hl 4 rfl) ?_
            refine lv_sipush (v := 720) hx hb dX3_findBest_32 (by decide) ?_
            refine lv_icmp_ge (tgt := 118) hx hb dX3_findBest_35 (by decide) (fun c2 => ?_) (fun c2 => ?_)
            · have hf := (if_pos c2).symm.trans hf
              refine lv_iload_n hx hb dX3_findBest_118 rfl (lv_at hl 2 rfl) ?_
              cases hf
              subst hQ
              exact k_ri hx hb hr hlocks hP hD hS dX3_findBest_119
            · have hf := (if_neg c2).symm.trans hf
              refine lv_iload_n hx hb dX3_findBest_38 rfl (lv_at hl 3 rfl) ?_
              refine lv_if_eq (tgt := 118) hx hb dX3_findBest_39 (by decide) (fun c3 => ?_) (fun c3 => ?_)
              · have hf := (if_pos c3).symm.trans hf
                refine lv_iload_n hx hb dX3_findBest_118 rfl (lv_at hl 2 rfl) ?_
                cases hf
                subst hQ
                exact k_ri hx hb hr hlocks hP hD hS dX3_findBest_119
              · have hf := (if_neg c3).symm.trans hf
                refine lv_aload_n hx hb dX3_findBest_42 rfl (lv_at hl 0 rfl) ?_
                refine va_get (D := D) (ci := 3) (v := .ref a_sitting) (C := RX3) (T := TX3) (N := 8) hx hb hts iX3 hown hK.1 hP 0 rfl rfl 4 (by decide) l31 (fun _ h9 => h9) rfl dX3_findBest_43 ?_
                refine lv_aload_n hx hb dX3_findBest_46 rfl (lv_at hl 0 rfl) ?_
                refine va_get (D := D) (ci := 3) (v := .ref a_now) (C := RX3) (T := TX3) (N := 8) hx hb hts iX3 hown hK.1 hP 0 rfl rfl 2 (by decide) l20 (fun _ h9 => h9) rfl dX3_findBest_47 ?_
                refine lv_aload_n hx hb dX3_findBest_50 rfl (lv_at hl 0 rfl) ?_
                refine va_get (D := D) (ci := 3) (v := .ref a_trial) (C := RX3) (T := TX3) (N := 8) hx hb hts iX3 hown hK.1 hP 0 rfl rfl 6 (by decide) l42 (fun _ h9 => h9) rfl dX3_findBest_51 ?_
                refine lv_iconst (v := 0) hx hb dX3_findBest_54 (by decide) ?_
                refine lv_aload_n hx hb dX3_findBest_55 rfl (lv_at hl 0 rfl) ?_
                refine va_get (D := D) (ci := 3) (v := .ref a_now) (C := RX3) (T := TX3) (N := 8) hx hb hts iX3 hown hK.1 hP 0 rfl rfl 2 (by decide) l20 (fun _ h9 => h9) rfl dX3_findBest_56 ?_
                obtain ⟨r4, hc5, hf⟩ := bnd1_some hf
                refine k_ci (wc := [(a_now, .inr (0, [.int v_now_weight, .int v_now_hole, .int v_now_held, .int v_now_law, .int v_now_many, o_now_sights, o_now_full, .ref a_now_first, .ref a_now_second, .ref a_now_worth, .ref a_now_winner, o_now_row, o_now_sightWeight, o_now_sightMany]))]) (wr := [(a_this, .inr (3, [o_this_pad, o_this_signs, .ref a_now, o_this_images, .ref a_sitting, o_this_reader, .ref a_trial, .ref a_best])), (a_trial, .inl (cI, 6, .inl v_trial_30)), (a_sitting, .inr (2, [.int v_sitting_decided_30, .int v_sitting_sunk_30, .int v_sitting_plaintiffs_30, .int v_sitting_defendants_30, .int v_sitting_poor_30, .int v_sitting_worths_30])), (a_now_first, .inl (cI, 6, .inl v_now_first)), (a_now_second, .inl (cI, 6, .inl v_now_second)), (a_now_worth, .inl (cI, 6, .inl v_now_worth)), (a_now_winner, .inl (cI, 6, .inl v_now_winner)), (a_best, .inl (cI, 6, .inl v_best_30))]) (w1 := [(a_now, .inr (0, [.int v_now_weight, .int v_now_hole, .int v_now_held, .int v_now_law, .int v_now_many, o_now_sights, o_now_full, .ref a_now_first, .ref a_now_second, .ref a_now_worth, .ref a_now_winner, o_now_row, o_now_sightWeight, o_now_sightMany]))]) (ws' := [(a_this, .inr (3, [o_this_pad, o_this_signs, .ref a_now, o_this_images, .ref a_sitting, o_this_reader, .ref a_trial, .ref a_best])), (a_trial, .inl (cI, 6, .inl v_trial_30)), (a_now, .inr (0, [.int v_now_weight, .int v_now_hole, .int v_now_held, .int v_now_law, .int v_now_many, o_now_sights, o_now_full, .ref a_now_first, .ref a_now_second, .ref a_now_worth, .ref a_now_winner, o_now_row, o_now_sightWeight, o_now_sightMany])), (a_sitting, .inr (2, [.int v_sitting_decided_30, .int v_sitting_sunk_30, .int v_sitting_plaintiffs_30, .int v_sitting_defendants_30, .int v_sitting_poor_30, .int v_sitting_worths_30])), (a_now_first, .inl (cI, 6, .inl v_now_first)), (a_now_second, .inl (cI, 6, .inl v_now_second)), (a_now_worth, .inl (cI, 6, .inl v_now_worth)), (a_now_winner, .inl (cI, 6, .inl v_now_winner)), (a_best, .inl (cI, 6, .inl v_best_30))]) (va_runV (As := []) (rest := [.int 0, .ref a_trial, .ref a_now, .ref a_sitting]) ⟨hx, hb, hml, hown, hts⟩ (tX0_floats l D cI cJ cZ cB a_now (.int v_now_law) (.int v_now_many) o_now_sights o_now_full (.ref a_now_first) (.ref a_now_second) (.ref a_now_worth) (.ref a_now_winner) o_now_row o_now_sightWeight o_now_sightMany v_now_weight v_now_hole v_now_held r4 hc5 H.size) (cwV 0 hts gX3_findBest_X0_floats rfl rfl rfl (by decide +kernel) ⟨Nat.le_of_ble_eq_true rfl, Nat.le_of_ble_eq_true rfl⟩) (k_preV (ci := 0) (q0 := 2) (is := [2]) hK hP hD rfl rfl rfl rfl) rfl rfl hl.1 rfl (lv_room (Nat.le_of_ble_eq_true rfl)) dX3_findBest_59 ⟨Nat.zero_le _, Nat.zero_le _⟩) hP hD hS hA [2] [0, 1, 3, 4, 5, 6, 7, 8] [0, 1, 8, 2, 3, 4, 5, 6, 7] rfl rfl rfl (by decide) rfl rfl (fun H locs hP hD hS => ?_)
                refine lv_iconst (v := 0) hx hb dX3_findBest_62 (by decide) ?_
                refine lv_iconst (v := 0) hx hb dX3_findBest_63 (by decide) ?_
                obtain ⟨u6, u7, u8, u9, u10, u11, hc12, hf⟩ := bnd6_some hf
                refine k_cv (wc := [(a_sitting, .inr (2, [.int v_sitting_decided_30, .int v_sitting_sunk_30, .int v_sitting_plaintiffs_30, .int v_sitting_defendants_30, .int v_sitting_poor_30, .int v_sitting_worths_30])), (a_now, .inr (0, [.int v_now_weight, .int v_now_hole, .int v_now_held, .int v_now_law, .int v_now_many, o_now_sights, o_now_full, .ref a_now_first, .ref a_now_second, .ref a_now_worth, .ref a_now_winner, o_now_row, o_now_sightWeight, o_now_sightMany])), (a_trial, .inl (cI, 6, .inl v_trial_30)), (a_now_first, .inl (cI, 6, .inl v_now_first)), (a_now_second, .inl (cI, 6, .inl v_now_second)), (a_now_worth, .inl (cI, 6, .inl v_now_worth)), (a_now_winner, .inl (cI, 6, .inl v_now_winner))]) (wr := [(a_this, .inr (3, [o_this_pad, o_this_signs, .ref a_now, o_this_images, .ref a_sitting, o_this_reader, .ref a_trial, .ref a_best])), (a_best, .inl (cI, 6, .inl v_best_30))]) (w1 := [(a_sitting, .inr (2, [.int u6, .int u7, .int u8, .int u9, .int u10, .int u11])), (a_now, .inr (0, [.int v_now_weight, .int v_now_hole, .int v_now_held, .int v_now_law, .int v_now_many, o_now_sights, o_now_full, .ref a_now_first, .ref a_now_second, .ref a_now_worth, .ref a_now_winner, o_now_row, o_now_sightWeight, o_now_sightMany])), (a_trial, .inl (cI, 6, .inl v_trial_30)), (a_now_first, .inl (cI, 6, .inl v_now_first)), (a_now_second, .inl (cI, 6, .inl v_now_second)), (a_now_worth, .inl (cI, 6, .inl v_now_worth)), (a_now_winner, .inl (cI, 6, .inl v_now_winner))]) (ws' := [(a_this, .inr (3, [o_this_pad, o_this_signs, .ref a_now, o_this_images, .ref a_sitting, o_this_reader, .ref a_trial, .ref a_best])), (a_trial, .inl (cI, 6, .inl v_trial_30)), (a_now, .inr (0, [.int v_now_weight, .int v_now_hole, .int v_now_held, .int v_now_law, .int v_now_many, o_now_sights, o_now_full, .ref a_now_first, .ref a_now_second, .ref a_now_worth, .ref a_now_winner, o_now_row, o_now_sightWeight, o_now_sightMany])), (a_sitting, .inr (2, [.int u6, .int u7, .int u8, .int u9, .int u10, .int u11])), (a_now_first, .inl (cI, 6, .inl v_now_first)), (a_now_second, .inl (cI, 6, .inl v_now_second)), (a_now_worth, .inl (cI, 6, .inl v_now_worth)), (a_now_winner, .inl (cI, 6, .inl v_now_winner)), (a_best, .inl (cI, 6, .inl v_best_30))]) (va_runV (As := [.ref a_now, .ref a_trial, .int 0, .int r4, .int 0, .int 0]) (rest := []) ⟨hx, hb, hml, hown, hts⟩ (tX2_plead l D cI cJ cZ cB a_sitting a_now a_trial a_now_first a_now_second a_now_worth a_now_winner 6 (.int v_now_weight) (.int v_now_hole) (.int v_now_held) o_now_sights o_now_full o_now_row o_now_sightWeight o_now_sightMany 0 r4 0 0 v_sitting_decided_30 v_sitting_sunk_30 v_sitting_plaintiffs_30 v_sitting_defendants_30 v_sitting_poor_30 v_sitting_worths_30 v_now_many v_now_law v_trial_30 v_now_first v_now_second v_now_worth v_now_winner u6 u7 u8 u9 u10 u11 hc12 H.size) (cwV 6 hts gX3_findBest_X2_plead rfl rfl rfl (by decide +kernel) ⟨Nat.le_of_ble_eq_true rfl, Nat.le_of_ble_eq_true rfl⟩) (k_preV (ci := 2) (q0 := 3) (is := [3, 2, 1, 4, 5, 6, 7]) hK hP hD rfl rfl rfl rfl) rfl rfl hl.1 rfl (lv_room (Nat.le_of_ble_eq_true rfl)) dX3_findBest_64 ⟨Nat.zero_le _, Nat.zero_le _⟩) hP hD hS hA [3, 2, 1, 4, 5, 6, 7] [0, 8] [0, 4, 3, 2, 5, 6, 7, 8, 1] rfl rfl rfl (by decide) rfl rfl (fun H locs hP hD hS => ?_)
                refine lv_aload_n hx hb dX3_findBest_67 rfl (lv_at hl 0 rfl) ?_
                refine va_get (D := D) (ci := 3) (v := .ref a_sitting) (C := RX3) (T := TX3) (N := 8) hx hb hts iX3 hown hK.1 hP 0 rfl rfl 4 (by decide) l31 (fun _ h9 => h9) rfl dX3_findBest_68 ?_
                refine lv_iload_n hx hb dX3_findBest_71 rfl (lv_at hl 1 rfl) ?_
                obtain ⟨r13, hc14, hf⟩ := bnd1_some hf
                refine k_ci (wc := [(a_sitting, .inr (2, [.int u6, .int u7, .int u8, .int u9, .int u10, .int u11]))]) (wr := [(a_this, .inr (3, [o_this_pad, o_this_signs, .ref a_now, o_this_images, .ref a_sitting, o_this_reader, .ref a_trial, .ref a_best])), (a_trial, .inl (cI, 6, .inl v_trial_30)), (a_now, .inr (0, [.int v_now_weight, .int v_now_hole, .int v_now_held, .int v_now_law, .int v_now_many, o_now_sights, o_now_full, .ref a_now_first, .ref a_now_second, .ref a_now_worth, .ref a_now_winner, o_now_row, o_now_sightWeight, o_now_sightMany])), (a_now_first, .inl (cI, 6, .inl v_now_first)), (a_now_second, .inl (cI, 6, .inl v_now_second)), (a_now_worth, .inl (cI, 6, .inl v_now_worth)), (a_now_winner, .inl (cI, 6, .inl v_now_winner)), (a_best, .inl (cI, 6, .inl v_best_30))]) (w1 := [(a_sitting, .inr (2, [.int u6, .int u7, .int u8, .int u9, .int u10, .int u11]))]) (ws' := [(a_this, .inr (3, [o_this_pad, o_this_signs, .ref a_now, o_this_images, .ref a_sitting, o_this_reader, .ref a_trial, .ref a_best])), (a_trial, .inl (cI, 6, .inl v_trial_30)), (a_now, .inr (0, [.int v_now_weight, .int v_now_hole, .int v_now_held, .int v_now_law, .int v_now_many, o_now_sights, o_now_full, .ref a_now_first, .ref a_now_second, .ref a_now_worth, .ref a_now_winner, o_now_row, o_now_sightWeight, o_now_sightMany])), (a_sitting, .inr (2, [.int u6, .int u7, .int u8, .int u9, .int u10, .int u11])), (a_now_first, .inl (cI, 6, .inl v_now_first)), (a_now_second, .inl (cI, 6, .inl v_now_second)), (a_now_worth, .inl (cI, 6, .inl v_now_worth)), (a_now_winner, .inl (cI, 6, .inl v_now_winner)), (a_best, .inl (cI, 6, .inl v_best_30))]) (va_runV (As := [.int x1]) (rest := []) ⟨hx, hb, hml, hown, hts⟩ (tX2_has l D cI cJ cZ cB a_sitting (.int u6) (.int u7) x1 u11 u10 u9 u8 r13 hc14 H.size) (cwV 1 hts gX3_findBest_X2_has rfl rfl rfl (by decide +kernel) ⟨Nat.le_of_ble_eq_true rfl, Nat.le_of_ble_eq_true rfl⟩) (k_preV (ci := 2) (q0 := 3) (is := [3]) hK hP hD rfl rfl rfl rfl) rfl rfl hl.1 rfl (lv_room (Nat.le_of_ble_eq_true rfl)) dX3_findBest_72 ⟨Nat.zero_le _, Nat.zero_le _⟩) hP hD hS hA [3] [0, 1, 2, 4, 5, 6, 7, 8] [0, 1, 2, 8, 3, 4, 5, 6, 7] rfl rfl rfl (by decide) rfl rfl (fun H locs hP hD hS => ?_)
                refine lv_istore (lv' := [(5, .int r13), (0, .ref a_this), (1, .int x1), (2, .int x2_30), (3, .int x3_30), (4, .int x4_30)]) hx hb dX3_findBest_75 hl (by decide) rfl (fun ls hl => ?_)
                refine lv_iload hx hb dX3_findBest_77 (lv_at hl 0 rfl) ?_
                refine lv_iload_n hx hb dX3_findBest_79 rfl (lv_at hl 3 rfl) ?_
                have J97 : ∀ (x2_97 : Int32) (x4_97 : Int32) (v_sitting_decided_97 : Int32) (v_sitting_sunk_97 : Int32) (v_sitting_plaintiffs_97 : Int32) (v_sitting_defendants_97 : Int32) (v_sitting_poor_97 : Int32) (v_sitting_worths_97 : Int32) (v_trial_97 : Nat → Int32) (v_best_97 : Nat → Int32) (H : Heap) (locs : List Loc) (ls : Array Slot), fX3_findBest_j97 v_sitting_decided_97 v_sitting_sunk_97 v_sitting_plaintiffs_97 v_sitting_defendants_97 v_sitting_poor_97 v_sitting_worths_97 v_now_many v_trial_97 v_best_97 x2_97 x4_97 (fX3_findBest_l30 x1 v_now_weight v_now_hole v_now_held v_now_many v_now_law v_now_first v_now_second v_now_worth v_now_winner n30) = some (r0, w_sitting_decided, w_sitting_sunk, w_sitting_plaintiffs, w_sitting_defendants, w_sitting_poor, w_sitting_worths, w_trial, w_best) → va_P D vwCl [(a_this, .inr (3, [o_this_pad, o_this_signs, .ref a_now, o_this_images, .ref a_sitting, o_this_reader, .ref a_trial, .ref a_best])), (a_trial, .inl (cI, 6, .inl v_trial_97)), (a_now, .inr (0, [.int v_now_weight, .int v_now_hole, .int v_now_held, .int v_now_law, .int v_now_many, o_now_sights, o_now_full, .ref a_now_first, .ref a_now_second, .ref a_now_worth, .ref a_now_winner, o_now_row, o_now_sightWeight, o_now_sightMany])), (a_sitting, .inr (2, [.int v_sitting_decided_97, .int v_sitting_sunk_97, .int v_sitting_plaintiffs_97, .int v_sitting_defendants_97, .int v_sitting_poor_97, .int v_sitting_worths_97])), (a_now_first, .inl (cI, 6, .inl v_now_first)), (a_now_second, .inl (cI, 6, .inl v_now_second)), (a_now_worth, .inl (cI, 6, .inl v_now_worth)), (a_now_winner, .inl (cI, 6, .inl v_now_winner)), (a_best, .inl (cI, 6, .inl v_best_97))] H → va_D A [(a_this, .inr (3, [o_this_pad, o_this_signs, .ref a_now, o_this_images, .ref a_sitting, o_this_reader, .ref a_trial, .ref a_best])), (a_trial, .inl (cI, 6, .inl v_trial_97)), (a_now, .inr (0, [.int v_now_weight, .int v_now_hole, .int v_now_held, .int v_now_law, .int v_now_many, o_now_sights, o_now_full, .ref a_now_first, .ref a_now_second, .ref a_now_worth, .ref a_now_winner, o_now_row, o_now_sightWeight, o_now_sightMany])), (a_sitting, .inr (2, [.int v_sitting_decided_97, .int v_sitting_sunk_97, .int v_sitting_plaintiffs_97, .int v_sitting_defendants_97, .int v_sitting_poor_97, .int v_sitting_worths_97])), (a_now_first, .inl (cI, 6, .inl v_now_first)), (a_now_second, .inl (cI, 6, .inl v_now_second)), (a_now_worth, .inl (cI, 6, .inl v_now_worth)), (a_now_winner, .inl (cI, 6, .inl v_now_winner)), (a_best, .inl (cI, 6, .inl v_best_97))] → va_S A s.heap H locs → lv_has ls 6 [(0, .ref a_this), (1, .int x1), (2, .int x2_97), (4, .int x4_97)] → W p l e (headSpec wsX3_findBest { frames := 3, cells := 0, slots := 0, locals := 72 }).room s m args below meth c H locs 0 0 Q (F0 m 97 ls []) := by
                  intro x2_97 x4_97 v_sitting_decided_97 v_sitting_sunk_97 v_sitting_plaintiffs_97 v_sitting_defendants_97 v_sitting_poor_97 v_sitting_worths_97 v_trial_97 v_best_97 H locs ls hf hP hD hS hl
                  unfold fX3_findBest_j97 at hf
                  refine lv_aload_n hx hb dX3_findBest_97 rfl (lv_at hl 0 rfl) ?_
                  refine va_get (D := D) (ci := 3) (v := .ref a_trial) (C := RX3) (T := TX3) (N := 8) hx hb hts iX3 hown hK.1 hP 0 rfl rfl 6 (by decide) l42 (fun _ h9 => h9) rfl dX3_findBest_98 ?_
                  refine lv_aload_n hx hb dX3_findBest_101 rfl (lv_at hl 0 rfl) ?_
                  refine va_get (D := D) (ci := 3) (v := .ref a_now) (C := RX3) (T := TX3) (N := 8) hx hb hts iX3 hown hK.1 hP 0 rfl rfl 2 (by decide) l20 (fun _ h9 => h9) rfl dX3_findBest_102 ?_
                  refine va_get (D := D) (ci := 0) (v := .int v_now_many) (C := RX0) (T := TX0) (N := 14) hx hb hts iX0 hown hK.1 hP 2 rfl rfl 4 (by decide) l80 (fun _ h9 => h9) rfl dX3_findBest_105 ?_
                  obtain ⟨r15, u16, hc17, hf⟩ := bnd2_some hf
                  refine k_ci (wc := [(a_trial, .inl (cI, 6, .inl v_trial_97))]) (wr := [(a_this, .inr (3, [o_this_pad, o_this_signs, .ref a_now, o_this_images, .ref a_sitting, o_this_reader, .ref a_trial, .ref a_best])), (a_now, .inr (0, [.int v_now_weight, .int v_now_hole, .int v_now_held, .int v_now_law, .int v_now_many, o_now_sights, o_now_full, .ref a_now_first, .ref a_now_second, .ref a_now_worth, .ref a_now_winner, o_now_row, o_now_sightWeight, o_now_sightMany])), (a_sitting, .inr (2, [.int v_sitting_decided_97, .int v_sitting_sunk_97, .int v_sitting_plaintiffs_97, .int v_sitting_defendants_97, .int v_sitting_poor_97, .int v_sitting_worths_97])), (a_now_first, .inl (cI, 6, .inl v_now_first)), (a_now_second, .inl (cI, 6, .inl v_now_second)), (a_now_worth, .inl (cI, 6, .inl v_now_worth)), (a_now_winner, .inl (cI, 6, .inl v_now_winner)), (a_best, .inl (cI, 6, .inl v_best_97))]) (w1 := [(a_trial, .inl (cI, 6, .inl u16))]) (ws' := [(a_this, .inr (3, [o_this_pad, o_this_signs, .ref a_now, o_this_images, .ref a_sitting, o_this_reader, .ref a_trial, .ref a_best])), (a_trial, .inl (cI, 6, .inl u16)), (a_now, .inr (0, [.int v_now_weight, .int v_now_hole, .int v_now_held, .int v_now_law, .int v_now_many, o_now_sights, o_now_full, .ref a_now_first, .ref a_now_second, .ref a_now_worth, .ref a_now_winner, o_now_row, o_now_sightWeight, o_now_sightMany])), (a_sitting, .inr (2, [.int v_sitting_decided_97, .int v_sitting_sunk_97, .int v_sitting_plaintiffs_97, .int v_sitting_defendants_97, .int v_sitting_poor_97, .int v_sitting_worths_97])), (a_now_first, .inl (cI, 6, .inl v_now_first)), (a_now_second, .inl (cI, 6, .inl v_now_second)), (a_now_worth, .inl (cI, 6, .inl v_now_worth)), (a_now_winner, .inl (cI, 6, .inl v_now_winner)), (a_best, .inl (cI, 6, .inl v_best_97))]) (va_runS (As := [.ref a_trial, .int v_now_many]) (rest := []) ⟨hx, hb, hml, hown, hts⟩ (tX3_stepOrder l D cI cJ cZ cB a_trial 6 v_now_many v_trial_97 r15 u16 hc17 H.size) (va_cwS 2 hts gX3_findBest_X3_stepOrder rfl rfl rfl (by decide +kernel) ⟨Nat.le_of_ble_eq_true rfl, Nat.le_of_ble_eq_true rfl⟩) (k_preS (is := [1]) hK hP hD rfl rfl) rfl rfl hl.1 rfl (lv_room (Nat.le_of_ble_eq_true rfl)) dX3_findBest_108 ⟨Nat.zero_le _, Nat.zero_le _⟩) hP hD hS hA [1] [0, 2, 3, 4, 5, 6, 7, 8] [0, 8, 1, 2, 3, 4, 5, 6, 7] rfl rfl rfl (by decide) rfl rfl (fun H locs hP hD hS => ?_)
                  refine lv_istore_n (lv' := [(3, .int r15), (0, .ref a_this), (1, .int x1), (2, .int x2_97), (4, .int x4_97)]) hx hb dX3_findBest_111 rfl hl (by decide) rfl (fun ls hl => ?_)
                  refine lv_iinc (v := (x4_97 + 1)) (lv' := [(4, .int (x4_97 + 1)), (3, .int r15), (0, .ref a_this), (1, .int x1), (2, .int x2_97)]) hx hb dX3_findBest_112 hl (k := 4) rfl (by rfl) (by decide) rfl (fun ls hl => ?_)
                  refine lv_goto (tgt := 30) hx hb dX3_findBest_115 (by decide) ?_
                  exact ih30 x2_97 r15 (x4_97 + 1) v_sitting_decided_97 v_sitting_sunk_97 v_sitting_plaintiffs_97 v_sitting_defendants_97 v_sitting_poor_97 v_sitting_worths_97 u16 v_best_97 _ _ _ hf hP hD hS (lv_sub hl [2, 3, 4, 1, 0] rfl)
                refine lv_icmp_le (tgt := 97) hx hb dX3_findBest_80 (by decide) (fun c18 => ?_) (fun c18 => ?_)
                · have hf := (if_pos c18).symm.trans hf
                  exact J97 x2_30 x4_30 u6 u7 u8 u9 u10 u11 v_trial_30 v_best_30 _ _ _ hf hP hD hS (lv_sub hl [1, 2, 3, 5] rfl)
                · have hf := (if_neg c18).symm.trans hf
                  refine lv_iload hx hb dX3_findBest_83 (lv_at hl 0 rfl) ?_
                  refine lv_istore_n (lv' := [(2, .int r13), (5, .int r13), (0, .ref a_this), (1, .int x1), (3, .int x3_30), (4, .int x4_30)]) hx hb dX3_findBest_85 rfl hl (by decide) rfl (fun ls hl => ?_)
                  refine lv_aload_n hx hb dX3_findBest_86 rfl (lv_at hl 2 rfl) ?_
                  refine va_get (D := D) (ci := 3) (v := .ref a_trial) (C := RX3) (T := TX3) (N := 8) hx hb hts iX3 hown hK.1 hP 0 rfl rfl 6 (by decide) l42 (fun _ h9 => h9) rfl dX3_findBest_87 ?_
                  refine lv_aload_n hx hb dX3_findBest_90 rfl (lv_at hl 2 rfl) ?_
                  refine va_get (D := D) (ci := 3) (v := .ref a_best) (C := RX3) (T := TX3) (N := 8) hx hb hts iX3 hown hK.1 hP 0 rfl rfl 7 (by decide) l45 (fun _ h9 => h9) rfl dX3_findBest_91 ?_
                  obtain ⟨u19, hc20, hf⟩ := bnd1_some hf
                  refine k_cv (wc := [(a_best, .inl (cI, 6, .inl v_best_30)), (a_trial, .inl (cI, 6, .inl v_trial_30))]) (wr := [(a_this, .inr (3, [o_this_pad, o_this_signs, .ref a_now, o_this_images, .ref a_sitting, o_this_reader, .ref a_trial, .ref a_best])), (a_now, .inr (0, [.int v_now_weight, .int v_now_hole, .int v_now_held, .int v_now_law, .int v_now_many, o_now_sights, o_now_full, .ref a_now_first, .ref a_now_second, .ref a_now_worth, .ref a_now_winner, o_now_row, o_now_sightWeight, o_now_sightMany])), (a_sitting, .inr (2, [.int u6, .int u7, .int u8, .int u9, .int u10, .int u11])), (a_now_first, .inl (cI, 6, .inl v_now_first)), (a_now_second, .inl (cI, 6, .inl v_now_second)), (a_now_worth, .inl (cI, 6, .inl v_now_worth)), (a_now_winner, .inl (cI, 6, .inl v_now_winner))]) (w1 := [(a_best, .inl (cI, 6, .inl u19)), (a_trial, .inl (cI, 6, .inl v_trial_30))]) (ws' := [(a_this, .inr (3, [o_this_pad, o_this_signs, .ref a_now, o_this_images, .ref a_sitting, o_this_reader, .ref a_trial, .ref a_best])), (a_trial, .inl (cI, 6, .inl v_trial_30)), (a_now, .inr (0, [.int v_now_weight, .int v_now_hole, .int v_now_held, .int v_now_law, .int v_now_many, o_now_sights, o_now_full, .ref a_now_first, .ref a_now_second, .ref a_now_worth, .ref a_now_winner, o_now_row, o_now_sightWeight, o_now_sightMany])), (a_sitting, .inr (2, [.int u6, .int u7, .int u8, .int u9, .int u10, .int u11])), (a_now_first, .inl (cI, 6, .inl v_now_first)), (a_now_second, .inl (cI, 6, .inl v_now_second)), (a_now_worth, .inl (cI, 6, .inl v_now_worth)), (a_now_winner, .inl (cI, 6, .inl v_now_winner)), (a_best, .inl (cI, 6, .inl u19))]) (va_runS (As := [.ref a_trial, .ref a_best]) (rest := []) ⟨hx, hb, hml, hown, hts⟩ (tX3_copyRow l D cI cJ cZ cB a_best a_trial 6 6 v_best_30 v_trial_30 u19 hc20 H.size) (va_cwS 2 hts gX3_findBest_X3_copyRow rfl rfl rfl (by decide +kernel) ⟨Nat.le_of_ble_eq_true rfl, Nat.le_of_ble_eq_true rfl⟩) (k_preS (is := [8, 1]) hK hP hD rfl rfl) rfl rfl hl.1 rfl (lv_room (Nat.le_of_ble_eq_true rfl)) dX3_findBest_94 ⟨Nat.zero_le _, Nat.zero_le _⟩) hP hD hS hA [8, 1] [0, 2, 3, 4, 5, 6, 7] [0, 8, 1, 2, 3, 4, 5, 6, 7] rfl rfl rfl (by decide) rfl rfl (fun H locs hP hD hS => ?_)
                  exact J97 r13 x4_30 u6 u7 u8 u9 u10 u11 v_trial_30 u19 _ _ _ hf hP hD hS (lv_sub hl [2, 3, 0, 5] rfl)
        exact L30 FU (-1) 1 0 v_sitting_decided v_sitting_sunk v_sitting_plaintiffs v_sitting_defendants v_sitting_poor v_sitting_worths v_trial_4 v_best _ _ _ hf hP hD hS (lv_sub hl [2, 3, 4, 1, 0] rfl)
      · have hf := (if_neg c1).symm.trans hf
        refine lv_aload_n hx hb dX3_findBest_10 rfl (lv_at hl 0 rfl) ?_
        refine va_get (D := D) (ci := 3) (v := .ref a_trial) (C := RX3) (T := TX3) (N := 8) hx hb hts iX3 hown hK.1 hP 0 rfl rfl 6 (by decide) l42 (fun _ h9 => h9) rfl dX3_findBest_11 ?_
        refine lv_iload_n hx hb dX3_findBest_14 rfl (lv_at hl 3 rfl) ?_
        refine lv_iload_n hx hb dX3_findBest_15 rfl (lv_at hl 3 rfl) ?_
        obtain ⟨u21, hc22, hf⟩ := bnd1_some hf
        refine k_cv (wc := [(a_trial, .inl (cI, 6, .inl v_trial_4))]) (wr := [(a_this, .inr (3, [o_this_pad, o_this_signs, .ref a_now, o_this_images, .ref a_sitting, o_this_reader, .ref a_trial, .ref a_best])), (a_now, .inr (0, [.int v_now_weight, .int v_now_hole, .int v_now_held, .int v_now_law, .int v_now_many, o_now_sights, o_now_full, .ref a_now_first, .ref a_now_second, .ref a_now_worth, .ref a_now_winner, o_now_row, o_now_sightWeight, o_now_sightMany])), (a_sitting, .inr (2, [.int v_sitting_decided, .int v_sitting_sunk, .int v_sitting_plaintiffs, .int v_sitting_defendants, .int v_sitting_poor, .int v_sitting_worths])), (a_now_first, .inl (cI, 6, .inl v_now_first)), (a_now_second, .inl (cI, 6, .inl v_now_second)), (a_now_worth, .inl (cI, 6, .inl v_now_worth)), (a_now_winner, .inl (cI, 6, .inl v_now_winner)), (a_best, .inl (cI, 6, .inl v_best))]) (w1 := [(a_trial, .inl (cI, 6, .inl u21))]) (ws' := [(a_this, .inr (3, [o_this_pad, o_this_signs, .ref a_now, o_this_images, .ref a_sitting, o_this_reader, .ref a_trial, .ref a_best])), (a_trial, .inl (cI, 6, .inl u21)), (a_now, .inr (0, [.int v_now_weight, .int v_now_hole, .int v_now_held, .int v_now_law, .int v_now_many, o_now_sights, o_now_full, .ref a_now_first, .ref a_now_second, .ref a_now_worth, .ref a_now_winner, o_now_row, o_now_sightWeight, o_now_sightMany])), (a_sitting, .inr (2, [.int v_sitting_decided, .int v_sitting_sunk, .int v_sitting_plaintiffs, .int v_sitting_defendants, .int v_sitting_poor, .int v_sitting_worths])), (a_now_first, .inl (cI, 6, .inl v_now_first)), (a_now_second, .inl (cI, 6, .inl v_now_second)), (a_now_worth, .inl (cI, 6, .inl v_now_worth)), (a_now_winner, .inl (cI, 6, .inl v_now_winner)), (a_best, .inl (cI, 6, .inl v_best))]) (va_runS (As := [.ref a_trial, .int x3_4, .int x3_4]) (rest := []) ⟨hx, hb, hml, hown, hts⟩ (tX3_put l D cI cJ cZ cB a_trial 6 x3_4 x3_4 v_trial_4 u21 hc22 H.size) (va_cwS 3 hts gX3_findBest_X3_put rfl rfl rfl (by decide +kernel) ⟨Nat.le_of_ble_eq_true rfl, Nat.le_of_ble_eq_true rfl⟩) (k_preS (is := [1]) hK hP hD rfl rfl) rfl rfl hl.1 rfl (lv_room (Nat.le_of_ble_eq_true rfl)) dX3_findBest_16 ⟨Nat.zero_le _, Nat.zero_le _⟩) hP hD hS hA [1] [0, 2, 3, 4, 5, 6, 7, 8] [0, 8, 1, 2, 3, 4, 5, 6, 7] rfl rfl rfl (by decide) rfl rfl (fun H locs hP hD hS => ?_)
        refine lv_iinc (v := (x3_4 + 1)) (lv' := [(3, .int (x3_4 + 1)), (0, .ref a_this), (1, .int x1), (2, .int (-1))]) hx hb dX3_findBest_19 hl (k := 3) rfl (by rfl) (by decide) rfl (fun ls hl => ?_)
        refine lv_goto (tgt := 4) hx hb dX3_findBest_22 (by decide) ?_
        exact ih4 (x3_4 + 1) u21 _ _ _ hf hP hD hS (lv_sub hl [1, 2, 3, 0] rfl)
  exact L4 FU 0 v_trial _ _ _ hf hP hD hS (lv_sub hl [2, 3, 1, 0] rfl)

set_option maxHeartbeats 4000000 in
set_option maxRecDepth 100000 in
theorem tX3_order (l : Launch) (D : va_G) (cI cJ cZ cB : ClassId) (a_this : Nat) (a_now : Nat) (a_trial : Nat) (a_sitting : Nat) (a_now_first : Nat) (a_now_second : Nat) (a_now_worth : Nat) (a_now_winner : Nat) (a_best : Nat) (o_this_pad : Value) (o_this_signs : Value) (o_this_images : Value) (o_this_reader : Value) (o_now_sights : Value) (o_now_full : Value) (o_now_row : Value) (o_now_sightWeight : Value) (o_now_sightMany : Value) (x1 : Int32) (x2 : Int32) (v_now_many : Int32) (v_now_weight : Int32) (v_now_hole : Int32) (v_now_held : Int32) (v_sitting_decided : Int32) (v_sitting_sunk : Int32) (v_sitting_plaintiffs : Int32) (v_sitting_defendants : Int32) (v_sitting_poor : Int32) (v_sitting_worths : Int32) (v_now_law : Int32) (v_trial : Nat → Int32) (v_now_first : Nat → Int32) (v_now_second : Nat → Int32) (v_now_worth : Nat → Int32) (v_now_winner : Nat → Int32) (v_best : Nat → Int32) (r0 : Int32) (w_sitting_decided : Int32) (w_sitting_sunk : Int32) (w_sitting_plaintiffs : Int32) (w_sitting_defendants : Int32) (w_sitting_poor : Int32) (w_sitting_worths : Int32) (w_trial : Nat → Int32) (w_best : Nat → Int32) (hf : fX3_order x1 x2 v_now_many v_now_weight v_now_hole v_now_held v_sitting_decided v_sitting_sunk v_sitting_plaintiffs v_sitting_defendants v_sitting_poor v_sitting_worths v_now_law v_trial v_now_first v_now_second v_now_worth v_now_winner v_best = some (r0, w_sitting_decided, w_sitting_sunk, w_sitting_plaintiffs, w_sitting_defendants, w_sitting_poor, w_sitting_worths, w_trial, w_best)) : MW l yX3_order wsX3_order { frames := 4, cells := 0, slots := 0, locals := 97 } D cI cJ cZ cB [(a_this, .inr (3, [o_this_pad, o_this_signs, .ref a_now, o_this_images, .ref a_sitting, o_this_reader, .ref a_trial, .ref a_best])), (a_now, .inr (0, [.int v_now_weight, .int v_now_hole, .int v_now_held, .int v_now_law, .int v_now_many, o_now_sights, o_now_full, .ref a_now_first, .ref a_now_second, .ref a_now_worth, .ref a_now_winner, o_now_row, o_now_sightWeight, o_now_sightMany])), (a_trial, .inl (cI, 6, .inl v_trial)), (a_sitting, .inr (2, [.int v_sitting_decided, .int v_sitting_sunk, .int v_sitting_plaintiffs, .int v_sitting_defendants, .int v_sitting_poor, .int v_sitting_worths])), (a_now_first, .inl (cI, 6, .inl v_now_first)), (a_now_second, .inl (cI, 6, .inl v_now_second)), (a_now_worth, .inl (cI, 6, .inl v_now_worth)), (a_now_winner, .inl (cI, 6, .inl v_now_winner)), (a_best, .inl (cI, 6, .inl v_best))] [.ref a_this, .int x1, .int x2] (QWi D r0 [(a_this, .inr (3, [o_this_pad, o_this_signs, .ref a_now, o_this_images, .ref a_sitting, o_this_reader, .ref a_trial, .ref a_best])), (a_now, .inr (0, [.int v_now_weight, .int v_now_hole, .int v_now_held, .int v_now_law, .int v_now_many, o_now_sights, o_now_full, .ref a_now_first, .ref a_now_second, .ref a_now_worth, .ref a_now_winner, o_now_row, o_now_sightWeight, o_now_sightMany])), (a_trial, .inl (cI, 6, .inl w_trial)), (a_sitting, .inr (2, [.int w_sitting_decided, .int w_sitting_sunk, .int w_sitting_plaintiffs, .int w_sitting_defendants, .int w_sitting_poor, .int w_sitting_worths])), (a_now_first, .inl (cI, 6, .inl v_now_first)), (a_now_second, .inl (cI, 6, .inl v_now_second)), (a_now_worth, .inl (cI, 6, .inl v_now_worth)), (a_now_winner, .inl (cI, 6, .inl v_now_winner)), (a_best, .inl (cI, 6, .inl w_best))]) := by
  refine k_body (cc := cX3_order) (maxL := 4) (ret := (some .int)) (by decide) rfl (Nat.le_of_ble_eq_true rfl) ?_
  intro p e s m args below meth c hx hb hr hml hts hown hlocks hname hK A hA hP hD hS ls hl
  have hl : lv_has ls 4 [(0, .ref a_this), (1, .int x1), (2, .int x2)] := hl
  generalize hQ : MQ below ((QWi D r0 [(a_this, .inr (3, [o_this_pad, o_this_signs, .ref a_now, o_this_images, .ref a_sitting, o_this_reader, .ref a_trial, .ref a_best])), (a_now, .inr (0, [.int v_now_weight, .int v_now_hole, .int v_now_held, .int v_now_law, .int v_now_many, o_now_sights, o_now_full, .ref a_now_first, .ref a_now_second, .ref a_now_worth, .ref a_now_winner, o_now_row, o_now_sightWeight, o_now_sightMany])), (a_trial, .inl (cI, 6, .inl w_trial)), (a_sitting, .inr (2, [.int w_sitting_decided, .int w_sitting_sunk, .int w_sitting_plaintiffs, .int w_sitting_defendants, .int w_sitting_poor, .int w_sitting_worths])), (a_now_first, .inl (cI, 6, .inl v_now_first)), (a_now_second, .inl (cI, 6, .inl v_now_second)), (a_now_worth, .inl (cI, 6, .inl v_now_worth)), (a_now_winner, .inl (cI, 6, .inl v_now_winner)), (a_best, .inl (cI, 6, .inl w_best))]) A) args s 0 0 A = Q
  obtain ⟨H, hH⟩ : ∃ H, H = s.heap := ⟨_, rfl⟩
  obtain ⟨locs, hlo⟩ : ∃ z : List Loc, z = [] := ⟨_, rfl⟩
  have hP : va_P D vwCl [(a_this, .inr (3, [o_this_pad, o_this_signs, .ref a_now, o_this_images, .ref a_sitting, o_this_reader, .ref a_trial, .ref a_best])), (a_now, .inr (0, [.int v_now_weight, .int v_now_hole, .int v_now_held, .int v_now_law, .int v_now_many, o_now_sights, o_now_full, .ref a_now_first, .ref a_now_second, .ref a_now_worth, .ref a_now_winner, o_now_row, o_now_sightWeight, o_now_sightMany])), (a_trial, .inl (cI, 6, .inl v_trial)), (a_sitting, .inr (2, [.int v_sitting_decided, .int v_sitting_sunk, .int v_sitting_plaintiffs, .int v_sitting_defendants, .int v_sitting_poor, .int v_sitting_worths])), (a_now_first, .inl (cI, 6, .inl v_now_first)), (a_now_second, .inl (cI, 6, .inl v_now_second)), (a_now_worth, .inl (cI, 6, .inl v_now_worth)), (a_now_winner, .inl (cI, 6, .inl v_now_winner)), (a_best, .inl (cI, 6, .inl v_best))] H := by rw [hH]; exact hP
  have hS : va_S A s.heap H locs := by rw [hH, hlo]; exact hS
  suffices hg : W p l e (headSpec wsX3_order { frames := 4, cells := 0, slots := 0, locals := 97 }).room s m args below meth c H locs 0 0 Q (F0 m 0 ls []) by rw [hH, hlo] at hg; exact hg
  have l20 := hts (.fieldLink RX3 20 "CandleCourt" "now" "LCandleCourt$Bench;") (by decide +kernel)
  have l45 := hts (.fieldLink RX3 45 "CandleCourt" "best" "[I") (by decide +kernel)
  have l80 := hts (.fieldLink RX3 80 "CandleCourt$Bench" "many" "I") (by decide +kernel)
  have iX0 : ∀ w ∈ wsX00, w ∈ wsX3_order := by decide +kernel
  have iX3 : ∀ w ∈ wsX30, w ∈ wsX3_order := by decide +kernel
  unfold fX3_order at hf
  refine lv_iload_n hx hb dX3_order_0 rfl (lv_at hl 1 rfl) ?_
  obtain ⟨r1, hc2, hf⟩ := bnd1_some hf
  refine k_ci (wc := []) (wr := [(a_this, .inr (3, [o_this_pad, o_this_signs, .ref a_now, o_this_images, .ref a_sitting, o_this_reader, .ref a_trial, .ref a_best])), (a_now, .inr (0, [.int v_now_weight, .int v_now_hole, .int v_now_held, .int v_now_law, .int v_now_many, o_now_sights, o_now_full, .ref a_now_first, .ref a_now_second, .ref a_now_worth, .ref a_now_winner, o_now_row, o_now_sightWeight, o_now_sightMany])), (a_trial, .inl (cI, 6, .inl v_trial)), (a_sitting, .inr (2, [.int v_sitting_decided, .int v_sitting_sunk, .int v_sitting_plaintiffs, .int v_sitting_defendants, .int v_sitting_poor, .int v_sitting_worths])), (a_now_first, .inl (cI, 6, .inl v_now_first)), (a_now_second, .inl (cI, 6, .inl v_now_second)), (a_now_worth, .inl (cI, 6, .inl v_now_worth)), (a_now_winner, .inl (cI, 6, .inl v_now_winner)), (a_best, .inl (cI, 6, .inl v_best))]) (w1 := []) (ws' := [(a_this, .inr (3, [o_this_pad, o_this_signs, .ref a_now, o_this_images, .ref a_sitting, o_this_reader, .ref a_trial, .ref a_best])), (a_now, .inr (0, [.int v_now_weight, .int v_now_hole, .int v_now_held, .int v_now_law, .int v_now_many, o_now_sights, o_now_full, .ref a_now_first, .ref a_now_second, .ref a_now_worth, .ref a_now_winner, o_now_row, o_now_sightWeight, o_now_sightMany])), (a_trial, .inl (cI, 6, .inl v_trial)), (a_sitting, .inr (2, [.int v_sitting_decided, .int v_sitting_sunk, .int v_sitting_plaintiffs, .int v_sitting_defendants, .int v_sitting_poor, .int v_sitting_worths])), (a_now_first, .inl (cI, 6, .inl v_now_first)), (a_now_second, .inl (cI, 6, .inl v_now_second)), (a_now_worth, .inl (cI, 6, .inl v_now_worth)), (a_now_winner, .inl (cI, 6, .inl v_now_winner)), (a_best, .inl (cI, 6, .inl v_best))]) (va_runS (As := [.int x1]) (rest := []) ⟨hx, hb, hml, hown, hts⟩ (tX3_isSide l D cI cJ cZ cB x1 r1 hc2 H.size) (va_cwS 1 hts gX3_order_X3_isSide rfl rfl rfl (by decide +kernel) ⟨Nat.le_of_ble_eq_true rfl, Nat.le_of_ble_eq_true rfl⟩) (k_preS (is := []) hK hP hD rfl rfl) rfl rfl hl.1 rfl (lv_room (Nat.le_of_ble_eq_true rfl)) dX3_order_1 ⟨Nat.zero_le _, Nat.zero_le _⟩) hP hD hS hA [] [0, 1, 2, 3, 4, 5, 6, 7, 8] [0, 1, 2, 3, 4, 5, 6, 7, 8] rfl rfl rfl (by decide) rfl rfl (fun H locs hP hD hS => ?_)
  refine lv_if_ne (tgt := 10) hx hb dX3_order_4 (by decide) (fun c3 => ?_) (fun c3 => ?_)
  · have hf := (if_neg c3).symm.trans hf
    refine lv_iload_n hx hb dX3_order_10 rfl (lv_at hl 2 rfl) ?_
    refine lv_iconst (v := (-1)) hx hb dX3_order_11 (by decide) ?_
    refine lv_icmp_lt (tgt := 26) hx hb dX3_order_12 (by decide) (fun c4 => ?_) (fun c4 => ?_)
    · have hf := (if_pos c4).symm.trans hf
      refine lv_bipush (v := (-6)) hx hb dX3_order_26 (by decide) ?_
      cases hf
      subst hQ
      exact k_ri hx hb hr hlocks hP hD hS dX3_order_28
    · have hf := (if_neg c4).symm.trans hf
      refine lv_iload_n hx hb dX3_order_15 rfl (lv_at hl 2 rfl) ?_
      refine lv_aload_n hx hb dX3_order_16 rfl (lv_at hl 0 rfl) ?_
      refine va_get (D := D) (ci := 3) (v := .ref a_now) (C := RX3) (T := TX3) (N := 8) hx hb hts iX3 hown hK.1 hP 0 rfl rfl 2 (by decide) l20 (fun _ h9 => h9) rfl dX3_order_17 ?_
      refine va_get (D := D) (ci := 0) (v := .int v_now_many) (C := RX0) (T := TX0) (N := 14) hx hb hts iX0 hown hK.1 hP 1 rfl rfl 4 (by decide) l80 (fun _ h9 => h9) rfl dX3_order_20 ?_
      refine lv_icmp_lt (tgt := 29) hx hb dX3_order_23 (by decide) (fun c5 => ?_) (fun c5 => ?_)
      · have hf := (if_pos c5).symm.trans hf
        refine lv_aload_n hx hb dX3_order_29 rfl (lv_at hl 0 rfl) ?_
        refine lv_iload_n hx hb dX3_order_30 rfl (lv_at hl 1 rfl) ?_
        obtain ⟨r6, u7, u8, u9, u10, u11, u12, u13, u14, hc15, hf⟩ := bnd9_some hf
        refine k_ci (wc := [(a_this, .inr (3, [o_this_pad, o_this_signs, .ref a_now, o_this_images, .ref a_sitting, o_this_reader, .ref a_trial, .ref a_best])), (a_trial, .inl (cI, 6, .inl v_trial)), (a_now, .inr (0, [.int v_now_weight, .int v_now_hole, .int v_now_held, .int v_now_law, .int v_now_many, o_now_sights, o_now_full, .ref a_now_first, .ref a_now_second, .ref a_now_worth, .ref a_now_winner, o_now_row, o_now_sightWeight, o_now_sightMany])), (a_sitting, .inr (2, [.int v_sitting_decided, .int v_sitting_sunk, .int v_sitting_plaintiffs, .int v_sitting_defendants, .int v_sitting_poor, .int v_sitting_worths])), (a_now_first, .inl (cI, 6, .inl v_now_first)), (a_now_second, .inl (cI, 6, .inl v_now_second)), (a_now_worth, .inl (cI, 6, .inl v_now_worth)), (a_now_winner, .inl (cI, 6, .inl v_now_winner)), (a_best, .inl (cI, 6, .inl v_best))]) (wr := []) (w1 := [(a_this, .inr (3, [o_this_pad, o_this_signs, .ref a_now, o_this_images, .ref a_sitting, o_this_reader, .ref a_trial, .ref a_best])), (a_trial, .inl (cI, 6, .inl u13)), (a_now, .inr (0, [.int v_now_weight, .int v_now_hole, .int v_now_held, .int v_now_law, .int v_now_many, o_now_sights, o_now_full, .ref a_now_first, .ref a_now_second, .ref a_now_worth, .ref a_now_winner, o_now_row, o_now_sightWeight, o_now_sightMany])), (a_sitting, .inr (2, [.int u7, .int u8, .int u9, .int u10, .int u11, .int u12])), (a_now_first, .inl (cI, 6, .inl v_now_first)), (a_now_second, .inl (cI, 6, .inl v_now_second)), (a_now_worth, .inl (cI, 6, .inl v_now_worth)), (a_now_winner, .inl (cI, 6, .inl v_now_winner)), (a_best, .inl (cI, 6, .inl u14))]) (ws' := [(a_this, .inr (3, [o_this_pad, o_this_signs, .ref a_now, o_this_images, .ref a_sitting, o_this_reader, .ref a_trial, .ref a_best])), (a_now, .inr (0, [.int v_now_weight, .int v_now_hole, .int v_now_held, .int v_now_law, .int v_now_many, o_now_sights, o_now_full, .ref a_now_first, .ref a_now_second, .ref a_now_worth, .ref a_now_winner, o_now_row, o_now_sightWeight, o_now_sightMany])), (a_trial, .inl (cI, 6, .inl u13)), (a_sitting, .inr (2, [.int u7, .int u8, .int u9, .int u10, .int u11, .int u12])), (a_now_first, .inl (cI, 6, .inl v_now_first)), (a_now_second, .inl (cI, 6, .inl v_now_second)), (a_now_worth, .inl (cI, 6, .inl v_now_worth)), (a_now_winner, .inl (cI, 6, .inl v_now_winner)), (a_best, .inl (cI, 6, .inl u14))]) (va_runV (As := [.int x1]) (rest := []) ⟨hx, hb, hml, hown, hts⟩ (tX3_findBest l D cI cJ cZ cB a_this a_trial a_now a_sitting a_now_first a_now_second a_now_worth a_now_winner a_best o_this_pad o_this_signs o_this_images o_this_reader o_now_sights o_now_full o_now_row o_now_sightWeight o_now_sightMany x1 v_now_weight v_now_hole v_now_held v_sitting_decided v_sitting_sunk v_sitting_plaintiffs v_sitting_defendants v_sitting_poor v_sitting_worths v_now_many v_now_law v_trial v_now_first v_now_second v_now_worth v_now_winner v_best r6 u7 u8 u9 u10 u11 u12 u13 u14 hc15 H.size) (cwV 1 hts gX3_order_X3_findBest rfl rfl rfl (by decide +kernel) ⟨Nat.le_of_ble_eq_true rfl, Nat.le_of_ble_eq_true rfl⟩) (k_preV (ci := 3) (q0 := 0) (is := [0, 2, 1, 3, 4, 5, 6, 7, 8]) hK hP hD rfl rfl rfl rfl) rfl rfl hl.1 rfl (lv_room (Nat.le_of_ble_eq_true rfl)) dX3_order_31 ⟨Nat.zero_le _, Nat.zero_le _⟩) hP hD hS hA [0, 2, 1, 3, 4, 5, 6, 7, 8] [] [0, 2, 1, 3, 4, 5, 6, 7, 8] rfl rfl rfl (by decide) rfl rfl (fun H locs hP hD hS => ?_)
        refine lv_istore_n (lv' := [(3, .int r6), (0, .ref a_this), (1, .int x1), (2, .int x2)]) hx hb dX3_order_34 rfl hl (by decide) rfl (fun ls hl => ?_)
        refine lv_iload_n hx hb dX3_order_35 rfl (lv_at hl 3 rfl) ?_
        refine lv_iconst (v := (-1)) hx hb dX3_order_36 (by decide) ?_
        refine lv_icmp_ne (tgt := 44) hx hb dX3_order_37 (by decide) (fun c16 => ?_) (fun c16 => ?_)
        · have hf := (if_neg c16).symm.trans hf
          refine lv_aload_n hx hb dX3_order_44 rfl (lv_at hl 1 rfl) ?_
          refine va_get (D := D) (ci := 3) (v := .ref a_best) (C := RX3) (T := TX3) (N := 8) hx hb hts iX3 hown hK.1 hP 0 rfl rfl 7 (by decide) l45 (fun _ h9 => h9) rfl dX3_order_45 ?_
          refine lv_iload_n hx hb dX3_order_48 rfl (lv_at hl 3 rfl) ?_
          obtain ⟨r17, hc18, hf⟩ := bnd1_some hf
          refine k_ci (wc := [(a_best, .inl (cI, 6, .inl u14))]) (wr := [(a_this, .inr (3, [o_this_pad, o_this_signs, .ref a_now, o_this_images, .ref a_sitting, o_this_reader, .ref a_trial, .ref a_best])), (a_now, .inr (0, [.int v_now_weight, .int v_now_hole, .int v_now_held, .int v_now_law, .int v_now_many, o_now_sights, o_now_full, .ref a_now_first, .ref a_now_second, .ref a_now_worth, .ref a_now_winner, o_now_row, o_now_sightWeight, o_now_sightMany])), (a_trial, .inl (cI, 6, .inl u13)), (a_sitting, .inr (2, [.int u7, .int u8, .int u9, .int u10, .int u11, .int u12])), (a_now_first, .inl (cI, 6, .inl v_now_first)), (a_now_second, .inl (cI, 6, .inl v_now_second)), (a_now_worth, .inl (cI, 6, .inl v_now_worth)), (a_now_winner, .inl (cI, 6, .inl v_now_winner))]) (w1 := [(a_best, .inl (cI, 6, .inl u14))]) (ws' := [(a_this, .inr (3, [o_this_pad, o_this_signs, .ref a_now, o_this_images, .ref a_sitting, o_this_reader, .ref a_trial, .ref a_best])), (a_now, .inr (0, [.int v_now_weight, .int v_now_hole, .int v_now_held, .int v_now_law, .int v_now_many, o_now_sights, o_now_full, .ref a_now_first, .ref a_now_second, .ref a_now_worth, .ref a_now_winner, o_now_row, o_now_sightWeight, o_now_sightMany])), (a_trial, .inl (cI, 6, .inl u13)), (a_sitting, .inr (2, [.int u7, .int u8, .int u9, .int u10, .int u11, .int u12])), (a_now_first, .inl (cI, 6, .inl v_now_first)), (a_now_second, .inl (cI, 6, .inl v_now_second)), (a_now_worth, .inl (cI, 6, .inl v_now_worth)), (a_now_winner, .inl (cI, 6, .inl v_now_winner)), (a_best, .inl (cI, 6, .inl u14))]) (va_runS (As := [.ref a_best, .int x2]) (rest := []) ⟨hx, hb, hml, hown, hts⟩ (tX3_at l D cI cJ cZ cB a_best 6 x2 u14 r17 hc18 H.size) (va_cwS 2 hts gX3_order_X3_at rfl rfl rfl (by decide +kernel) ⟨Nat.le_of_ble_eq_true rfl, Nat.le_of_ble_eq_true rfl⟩) (k_preS (is := [8]) hK hP hD rfl rfl) rfl rfl hl.1 rfl (lv_room (Nat.le_of_ble_eq_true rfl)) dX3_order_49 ⟨Nat.zero_le _, Nat.zero_le _⟩) hP hD hS hA [8] [0, 1, 2, 3, 4, 5, 6, 7] [0, 1, 2, 3, 4, 5, 6, 7, 8] rfl rfl rfl (by decide) rfl rfl (fun H locs hP hD hS => ?_)
          cases hf
          subst hQ
          exact k_ri hx hb hr hlocks hP hD hS dX3_order_52
        · have hf := (if_pos c16).symm.trans hf
          refine lv_iload_n hx hb dX3_order_40 rfl (lv_at hl 0 rfl) ?_
          refine lv_goto (tgt := 52) hx hb dX3_order_41 (by decide) ?_
          cases hf
          subst hQ
          exact k_ri hx hb hr hlocks hP hD hS dX3_order_52
      · have hf := (if_neg c5).symm.trans hf
        refine lv_bipush (v := (-6)) hx hb dX3_order_26 (by decide) ?_
        cases hf
        subst hQ
        exact k_ri hx hb hr hlocks hP hD hS dX3_order_28
  · have hf := (if_pos c3).symm.trans hf
    refine lv_bipush (v := (-2)) hx hb dX3_order_7 (by decide) ?_
    cases hf
    subst hQ
    exact k_ri hx hb hr hlocks hP hD hS dX3_order_9

set_option maxHeartbeats 4000000 in
set_option maxRecDepth 100000 in
theorem tX3_isSet (l : Launch) (D : va_G) (cI cJ cZ cB : ClassId) (a_this : Nat) (a_now : Nat) (o_this_pad : Value) (o_this_signs : Value) (o_this_images : Value) (o_this_sitting : Value) (o_this_reader : Value) (o_this_trial : Value) (o_this_best : Value) (o_now_weight : Value) (o_now_hole : Value) (o_now_held : Value) (o_now_law : Value) (o_now_sights : Value) (o_now_full : Value) (o_now_first : Value) (o_now_second : Value) (o_now_worth : Value) (o_now_winner : Value) (o_now_row : Value) (o_now_sightWeight : Value) (o_now_sightMany : Value) (x1 : Int32) (v_now_many : Int32) (r0 : Int32) (hf : fX3_isSet x1 v_now_many = some r0) : MW l yX3_isSet wsX3_isSet { frames := 1, cells := 0, slots := 0, locals := 22 } D cI cJ cZ cB [(a_this, .inr (3, [o_this_pad, o_this_signs, .ref a_now, o_this_images, o_this_sitting, o_this_reader, o_this_trial, o_this_best])), (a_now, .inr (0, [o_now_weight, o_now_hole, o_now_held, o_now_law, .int v_now_many, o_now_sights, o_now_full, o_now_first, o_now_second, o_now_worth, o_now_winner, o_now_row, o_now_sightWeight, o_now_sightMany]))] [.ref a_this, .int x1] (QWi D r0 [(a_this, .inr (3, [o_this_pad, o_this_signs, .ref a_now, o_this_images, o_this_sitting, o_this_reader, o_this_trial, o_this_best])), (a_now, .inr (0, [o_now_weight, o_now_hole, o_now_held, o_now_law, .int v_now_many, o_now_sights, o_now_full, o_now_first, o_now_second, o_now_worth, o_now_winner, o_now_row, o_now_sightWeight, o_now_sightMany]))]) := by
  refine k_body (cc := cX3_isSet) (maxL := 2) (ret := (some .boolean)) (by decide) rfl (Nat.le_of_ble_eq_true rfl) ?_
  intro p e s m args below meth c hx hb hr hml hts hown hlocks hname hK A hA hP hD hS ls hl
  have hl : lv_has ls 2 [(0, .ref a_this), (1, .int x1)] := hl
  generalize hQ : MQ below ((QWi D r0 [(a_this, .inr (3, [o_this_pad, o_this_signs, .ref a_now, o_this_images, o_this_sitting, o_this_reader, o_this_trial, o_this_best])), (a_now, .inr (0, [o_now_weight, o_now_hole, o_now_held, o_now_law, .int v_now_many, o_now_sights, o_now_full, o_now_first, o_now_second, o_now_worth, o_now_winner, o_now_row, o_now_sightWeight, o_now_sightMany]))]) A) args s 0 0 A = Q
  obtain ⟨H, hH⟩ : ∃ H, H = s.heap := ⟨_, rfl⟩
  obtain ⟨locs, hlo⟩ : ∃ z : List Loc, z = [] := ⟨_, rfl⟩
  have hP : va_P D vwCl [(a_this, .inr (3, [o_this_pad, o_this_signs, .ref a_now, o_this_images, o_this_sitting, o_this_reader, o_this_trial, o_this_best])), (a_now, .inr (0, [o_now_weight, o_now_hole, o_now_held, o_now_law, .int v_now_many, o_now_sights, o_now_full, o_now_first, o_now_second, o_now_worth, o_now_winner, o_now_row, o_now_sightWeight, o_now_sightMany]))] H := by rw [hH]; exact hP
  have hS : va_S A s.heap H locs := by rw [hH, hlo]; exact hS
  suffices hg : W p l e (headSpec wsX3_isSet { frames := 1, cells := 0, slots := 0, locals := 22 }).room s m args below meth c H locs 0 0 Q (F0 m 0 ls []) by rw [hH, hlo] at hg; exact hg
  have l20 := hts (.fieldLink RX3 20 "CandleCourt" "now" "LCandleCourt$Bench;") (by decide +kernel)
  have l80 := hts (.fieldLink RX3 80 "CandleCourt$Bench" "many" "I") (by decide +kernel)
  have iX0 : ∀ w ∈ wsX00, w ∈ wsX3_isSet := by decide +kernel
  have iX3 : ∀ w ∈ wsX30, w ∈ wsX3_isSet := by decide +kernel
  unfold fX3_isSet at hf
  refine lv_iload_n hx hb dX3_isSet_0 rfl (lv_at hl 1 rfl) ?_
  refine lv_iconst (v := 0) hx hb dX3_isSet_1 (by decide) ?_
  refine lv_iconst (v := 1) hx hb dX3_isSet_2 (by decide) ?_
  refine lv_aload_n hx hb dX3_isSet_3 rfl (lv_at hl 0 rfl) ?_
  refine va_get (D := D) (ci := 3) (v := .ref a_now) (C := RX3) (T := TX3) (N := 8) hx hb hts iX3 hown hK.1 hP 0 rfl rfl 2 (by decide) l20 (fun _ h9 => h9) rfl dX3_isSet_4 ?_
  refine va_get (D := D) (ci := 0) (v := .int v_now_many) (C := RX0) (T := TX0) (N := 14) hx hb hts iX0 hown hK.1 hP 1 rfl rfl 4 (by decide) l80 (fun _ h9 => h9) rfl dX3_isSet_7 ?_
  refine lv_ishl hx hb dX3_isSet_10 ?_
  refine lv_iconst (v := 1) hx hb dX3_isSet_11 (by decide) ?_
  refine lv_isub hx hb dX3_isSet_12 ?_
  obtain ⟨r1, hc2, hf⟩ := bnd1_some hf
  refine k_ci (wc := []) (wr := [(a_this, .inr (3, [o_this_pad, o_this_signs, .ref a_now, o_this_images, o_this_sitting, o_this_reader, o_this_trial, o_this_best])), (a_now, .inr (0, [o_now_weight, o_now_hole, o_now_held, o_now_law, .int v_now_many, o_now_sights, o_now_full, o_now_first, o_now_second, o_now_worth, o_now_winner, o_now_row, o_now_sightWeight, o_now_sightMany]))]) (w1 := []) (ws' := [(a_this, .inr (3, [o_this_pad, o_this_signs, .ref a_now, o_this_images, o_this_sitting, o_this_reader, o_this_trial, o_this_best])), (a_now, .inr (0, [o_now_weight, o_now_hole, o_now_held, o_now_law, .int v_now_many, o_now_sights, o_now_full, o_now_first, o_now_second, o_now_worth, o_now_winner, o_now_row, o_now_sightWeight, o_now_sightMany]))]) (va_runS (As := [.int x1, .int 0, .int ((1 <<< (v_now_many &&& 31)) - 1)]) (rest := []) ⟨hx, hb, hml, hown, hts⟩ (tX3_within l D cI cJ cZ cB x1 0 ((1 <<< (v_now_many &&& 31)) - 1) r1 hc2 H.size) (va_cwS 3 hts gX3_isSet_X3_within rfl rfl rfl (by decide +kernel) ⟨Nat.le_of_ble_eq_true rfl, Nat.le_of_ble_eq_true rfl⟩) (k_preS (is := []) hK hP hD rfl rfl) rfl rfl hl.1 rfl (lv_room (Nat.le_of_ble_eq_true rfl)) dX3_isSet_13 ⟨Nat.zero_le _, Nat.zero_le _⟩) hP hD hS hA [] [0, 1] [0, 1] rfl rfl rfl (by decide) rfl rfl (fun H locs hP hD hS => ?_)
  obtain ⟨hnar, hf⟩ := gd_some hf
  cases hf
  subst hQ
  exact k_rz hx hb hr hlocks hP hD hS hnar dX3_isSet_16

set_option maxHeartbeats 4000000 in
set_option maxRecDepth 100000 in
theorem tX3_lastEnd (l : Launch) (D : va_G) (cI cJ cZ cB : ClassId) (a_this : Nat) (a_now : Nat) (a_now_row : Nat) (a_now_first : Nat) (a_now_second : Nat) (o_this_pad : Value) (o_this_signs : Value) (o_this_images : Value) (o_this_sitting : Value) (o_this_reader : Value) (o_this_trial : Value) (o_this_best : Value) (o_now_weight : Value) (o_now_hole : Value) (o_now_held : Value) (o_now_law : Value) (o_now_sights : Value) (o_now_full : Value) (o_now_worth : Value) (o_now_winner : Value) (o_now_sightWeight : Value) (o_now_sightMany : Value) (x1 : Int32) (v_now_many : Int32) (v_now_row : Nat → Int32) (v_now_first : Nat → Int32) (v_now_second : Nat → Int32) (r0 : Int32) (hf : fX3_lastEnd x1 v_now_many v_now_row v_now_first v_now_second = some r0) : MW l yX3_lastEnd wsX3_lastEnd { frames := 3, cells := 0, slots := 0, locals := 66 } D cI cJ cZ cB [(a_this, .inr (3, [o_this_pad, o_this_signs, .ref a_now, o_this_images, o_this_sitting, o_this_reader, o_this_trial, o_this_best])), (a_now, .inr (0, [o_now_weight, o_now_hole, o_now_held, o_now_law, .int v_now_many, o_now_sights, o_now_full, .ref a_now_first, .ref a_now_second, o_now_worth, o_now_winner, .ref a_now_row, o_now_sightWeight, o_now_sightMany])), (a_now_row, .inl (cI, 6, .inl v_now_row)), (a_now_first, .inl (cI, 6, .inl v_now_first)), (a_now_second, .inl (cI, 6, .inl v_now_second))] [.ref a_this, .int x1] (QWi D r0 [(a_this, .inr (3, [o_this_pad, o_this_signs, .ref a_now, o_this_images, o_this_sitting, o_this_reader, o_this_trial, o_this_best])), (a_now, .inr (0, [o_now_weight, o_now_hole, o_now_held, o_now_law, .int v_now_many, o_now_sights, o_now_full, .ref a_now_first, .ref a_now_second, o_now_worth, o_now_winner, .ref a_now_row, o_now_sightWeight, o_now_sightMany])), (a_now_row, .inl (cI, 6, .inl v_now_row)), (a_now_first, .inl (cI, 6, .inl v_now_first)), (a_now_second, .inl (cI, 6, .inl v_now_second))]) := by
  refine k_body (cc := cX3_lastEnd) (maxL := 5) (ret := (some .int)) (by decide) rfl (Nat.le_of_ble_eq_true rfl) ?_
  intro p e s m args below meth c hx hb hr hml hts hown hlocks hname hK A hA hP hD hS ls hl
  have hl : lv_has ls 5 [(0, .ref a_this), (1, .int x1)] := hl
  generalize hQ : MQ below ((QWi D r0 [(a_this, .inr (3, [o_this_pad, o_this_signs, .ref a_now, o_this_images, o_this_sitting, o_this_reader, o_this_trial, o_this_best])), (a_now, .inr (0, [o_now_weight, o_now_hole, o_now_held, o_now_law, .int v_now_many, o_now_sights, o_now_full, .ref a_now_first, .ref a_now_second, o_now_worth, o_now_winner, .ref a_now_row, o_now_sightWeight, o_now_sightMany])), (a_now_row, .inl (cI, 6, .inl v_now_row)), (a_now_first, .inl (cI, 6, .inl v_now_first)), (a_now_second, .inl (cI, 6, .inl v_now_second))]) A) args s 0 0 A = Q
  obtain ⟨H, hH⟩ : ∃ H, H = s.heap := ⟨_, rfl⟩
  obtain ⟨locs, hlo⟩ : ∃ z : List Loc, z = [] := ⟨_, rfl⟩
  have hP : va_P D vwCl [(a_this, .inr (3, [o_this_pad, o_this_signs, .ref a_now, o_this_images, o_this_sitting, o_this_reader, o_this_trial, o_this_best])), (a_now, .inr (0, [o_now_weight, o_now_hole, o_now_held, o_now_law, .int v_now_many, o_now_sights, o_now_full, .ref a_now_first, .ref a_now_second, o_now_worth, o_now_winner, .ref a_now_row, o_now_sightWeight, o_now_sightMany])), (a_now_row, .inl (cI, 6, .inl v_now_row)), (a_now_first, .inl (cI, 6, .inl v_now_first)), (a_now_second, .inl (cI, 6, .inl v_now_second))] H := by rw [hH]; exact hP
  have hS : va_S A s.heap H locs := by rw [hH, hlo]; exact hS
  suffices hg : W p l e (headSpec wsX3_lastEnd { frames := 3, cells := 0, slots := 0, locals := 66 }).room s m args below meth c H locs 0 0 Q (F0 m 0 ls []) by rw [hH, hlo] at hg; exact hg
  have l20 := hts (.fieldLink RX3 20 "CandleCourt" "now" "LCandleCourt$Bench;") (by decide +kernel)
  have l80 := hts (.fieldLink RX3 80 "CandleCourt$Bench" "many" "I") (by decide +kernel)
  have iX0 : ∀ w ∈ wsX00, w ∈ wsX3_lastEnd := by decide +kernel
  have iX3 : ∀ w ∈ wsX30, w ∈ wsX3_lastEnd := by decide +kernel
  unfold fX3_lastEnd at hf
  refine lv_iconst (v := 0) hx hb dX3_lastEnd_0 (by decide) ?_
  refine lv_istore_n (lv' := [(2, .int 0), (0, .ref a_this), (1, .int x1)]) hx hb dX3_lastEnd_1 rfl hl (by decide) rfl (fun ls hl => ?_)
  refine lv_iconst (v := 0) hx hb dX3_lastEnd_2 (by decide) ?_
  refine lv_istore_n (lv' := [(3, .int 0), (2, .int 0), (0, .ref a_this), (1, .int x1)]) hx hb dX3_lastEnd_3 rfl hl (by decide) rfl (fun ls hl => ?_)
  have L4 : ∀ (n4 : Nat) (x2_4 : Int32) (x3_4 : Int32) (H : Heap) (locs : List Loc) (ls : Array Slot), fX3_lastEnd_l4 x1 v_now_many v_now_row v_now_first v_now_second n4 x2_4 x3_4 = some r0 → va_P D vwCl [(a_this, .inr (3, [o_this_pad, o_this_signs, .ref a_now, o_this_images, o_this_sitting, o_this_reader, o_this_trial, o_this_best])), (a_now, .inr (0, [o_now_weight, o_now_hole, o_now_held, o_now_law, .int v_now_many, o_now_sights, o_now_full, .ref a_now_first, .ref a_now_second, o_now_worth, o_now_winner, .ref a_now_row, o_now_sightWeight, o_now_sightMany])), (a_now_row, .inl (cI, 6, .inl v_now_row)), (a_now_first, .inl (cI, 6, .inl v_now_first)), (a_now_second, .inl (cI, 6, .inl v_now_second))] H → va_D A [(a_this, .inr (3, [o_this_pad, o_this_signs, .ref a_now, o_this_images, o_this_sitting, o_this_reader, o_this_trial, o_this_best])), (a_now, .inr (0, [o_now_weight, o_now_hole, o_now_held, o_now_law, .int v_now_many, o_now_sights, o_now_full, .ref a_now_first, .ref a_now_second, o_now_worth, o_now_winner, .ref a_now_row, o_now_sightWeight, o_now_sightMany])), (a_now_row, .inl (cI, 6, .inl v_now_row)), (a_now_first, .inl (cI, 6, .inl v_now_first)), (a_now_second, .inl (cI, 6, .inl v_now_second))] → va_S A s.heap H locs → lv_has ls 5 [(0, .ref a_this), (1, .int x1), (2, .int x2_4), (3, .int x3_4)] → W p l e (headSpec wsX3_lastEnd { frames := 3, cells := 0, slots := 0, locals := 66 }).room s m args below meth c H locs 0 0 Q (F0 m 4 ls []) := by
    intro n4
    induction n4 with
    | zero =>
      intro x2_4 x3_4 H locs ls hf
      have hf : (none : Option (Int32)) = some r0 := hf
      cases hf
    | succ n4 ih4 =>
      intro x2_4 x3_4 H locs ls hf hP hD hS hl
      rw [fX3_lastEnd_l4] at hf
      refine lv_iload_n hx hb dX3_lastEnd_4 rfl (lv_at hl 3 rfl) ?_
      refine lv_aload_n hx hb dX3_lastEnd_5 rfl (lv_at hl 0 rfl) ?_
      refine va_get (D := D) (ci := 3) (v := .ref a_now) (C := RX3) (T := TX3) (N := 8) hx hb hts iX3 hown hK.1 hP 0 rfl rfl 2 (by decide) l20 (fun _ h9 => h9) rfl dX3_lastEnd_6 ?_
      refine va_get (D := D) (ci := 0) (v := .int v_now_many) (C := RX0) (T := TX0) (N := 14) hx hb hts iX0 hown hK.1 hP 1 rfl rfl 4 (by decide) l80 (fun _ h9 => h9) rfl dX3_lastEnd_9 ?_
      refine lv_icmp_ge (tgt := 56) hx hb dX3_lastEnd_12 (by decide) (fun c1 => ?_) (fun c1 => ?_)
      · have hf := (if_pos c1).symm.trans hf
        refine lv_iload_n hx hb dX3_lastEnd_56 rfl (lv_at hl 2 rfl) ?_
        cases hf
        subst hQ
        exact k_ri hx hb hr hlocks hP hD hS dX3_lastEnd_57
      · have hf := (if_neg c1).symm.trans hf
        refine lv_iload_n hx hb dX3_lastEnd_15 rfl (lv_at hl 1 rfl) ?_
        refine lv_iload_n hx hb dX3_lastEnd_16 rfl (lv_at hl 3 rfl) ?_
        refine lv_ishr hx hb dX3_lastEnd_17 ?_
        refine lv_iconst (v := 1) hx hb dX3_lastEnd_18 (by decide) ?_
        refine lv_iand hx hb dX3_lastEnd_19 ?_
        have J35 : ∀ (s0_35 : Int32) (x2_35 : Int32) (x3_35 : Int32) (H : Heap) (locs : List Loc) (ls : Array Slot), fX3_lastEnd_j35 x2_35 x3_35 s0_35 (fX3_lastEnd_l4 x1 v_now_many v_now_row v_now_first v_now_second n4) = some r0 → va_P D vwCl [(a_this, .inr (3, [o_this_pad, o_this_signs, .ref a_now, o_this_images, o_this_sitting, o_this_reader, o_this_trial, o_this_best])), (a_now, .inr (0, [o_now_weight, o_now_hole, o_now_held, o_now_law, .int v_now_many, o_now_sights, o_now_full, .ref a_now_first, .ref a_now_second, o_now_worth, o_now_winner, .ref a_now_row, o_now_sightWeight, o_now_sightMany])), (a_now_row, .inl (cI, 6, .inl v_now_row)), (a_now_first, .inl (cI, 6, .inl v_now_first)), (a_now_second, .inl (cI, 6, .inl v_now_second))] H → va_D A [(a_this, .inr (3, [o_this_pad, o_this_signs, .ref a_now, o_this_images, o_this_sitting, o_this_reader, o_this_trial, o_this_best])), (a_now, .inr (0, [o_now_weight, o_now_hole, o_now_held, o_now_law, .int v_now_many, o_now_sights, o_now_full, .ref a_now_first, .ref a_now_second, o_now_worth, o_now_winner, .ref a_now_row, o_now_sightWeight, o_now_sightMany])), (a_now_row, .inl (cI, 6, .inl v_now_row)), (a_now_first, .inl (cI, 6, .inl v_now_first)), (a_now_second, .inl (cI, 6, .inl v_now_second))] → va_S A s.heap H locs → lv_has ls 5 [(0, .ref a_this), (1, .int x1), (2, .int x2_35), (3, .int x3_35)] → W p l e (headSpec wsX3_lastEnd { frames := 3, cells := 0, slots := 0, locals := 66 }).room s m args below meth c H locs 0 0 Q (F0 m 35 ls [.int s0_35]) := by
          intro s0_35 x2_35 x3_35 H locs ls hf hP hD hS hl
          unfold fX3_lastEnd_j35 at hf
          refine lv_istore (lv' := [(4, .int s0_35), (0, .ref a_this), (1, .int x1), (2, .int x2_35), (3, .int x3_35)]) hx hb dX3_lastEnd_35 hl (by decide) rfl (fun ls hl => ?_)
          refine lv_iload hx hb dX3_lastEnd_37 (lv_at hl 0 rfl) ?_
          refine lv_iload_n hx hb dX3_lastEnd_39 rfl (lv_at hl 3 rfl) ?_
          refine lv_icmp_le (tgt := 48) hx hb dX3_lastEnd_40 (by decide) (fun c2 => ?_) (fun c2 => ?_)
          · have hf := (if_pos c2).symm.trans hf
            refine lv_iload_n hx hb dX3_lastEnd_48 rfl (lv_at hl 3 rfl) ?_
            refine lv_istore_n (lv' := [(2, .int x2_35), (4, .int s0_35), (0, .ref a_this), (1, .int x1), (3, .int x3_35)]) hx hb dX3_lastEnd_49 rfl hl (by decide) rfl (fun ls hl => ?_)
            refine lv_iinc (v := (x3_35 + 1)) (lv' := [(3, .int (x3_35 + 1)), (2, .int x2_35), (4, .int s0_35), (0, .ref a_this), (1, .int x1)]) hx hb dX3_lastEnd_50 hl (k := 4) rfl (by rfl) (by decide) rfl (fun ls hl => ?_)
            refine lv_goto (tgt := 4) hx hb dX3_lastEnd_53 (by decide) ?_
            exact ih4 x2_35 (x3_35 + 1) _ _ _ hf hP hD hS (lv_sub hl [3, 4, 1, 0] rfl)
          · have hf := (if_neg c2).symm.trans hf
            refine lv_iload hx hb dX3_lastEnd_43 (lv_at hl 0 rfl) ?_
            refine lv_goto (tgt := 49) hx hb dX3_lastEnd_45 (by decide) ?_
            refine lv_istore_n (lv' := [(2, .int s0_35), (4, .int s0_35), (0, .ref a_this), (1, .int x1), (3, .int x3_35)]) hx hb dX3_lastEnd_49 rfl hl (by decide) rfl (fun ls hl => ?_)
            refine lv_iinc (v := (x3_35 + 1)) (lv' := [(3, .int (x3_35 + 1)), (2, .int s0_35), (4, .int s0_35), (0, .ref a_this), (1, .int x1)]) hx hb dX3_lastEnd_50 hl (k := 4) rfl (by rfl) (by decide) rfl (fun ls hl => ?_)
            refine lv_goto (tgt := 4) hx hb dX3_lastEnd_53 (by decide) ?_
            exact ih4 s0_35 (x3_35 + 1) _ _ _ hf hP hD hS (lv_sub hl [3, 4, 1, 0] rfl)
        refine lv_if_eq (tgt := 34) hx hb dX3_lastEnd_20 (by decide) (fun c3 => ?_) (fun c3 => ?_)
        · have hf := (if_pos c3).symm.trans hf
          refine lv_iconst (v := 0) hx hb dX3_lastEnd_34 (by decide) ?_
          exact J35 0 x2_4 x3_4 _ _ _ hf hP hD hS (lv_sub hl [0, 1, 2, 3] rfl)
        · have hf := (if_neg c3).symm.trans hf
          refine lv_aload_n hx hb dX3_lastEnd_23 rfl (lv_at hl 0 rfl) ?_
          refine va_get (D := D) (ci := 3) (v := .ref a_now) (C := RX3) (T := TX3) (N := 8) hx hb hts iX3 hown hK.1 hP 0 rfl rfl 2 (by decide) l20 (fun _ h9 => h9) rfl dX3_lastEnd_24 ?_
          refine lv_iload_n hx hb dX3_lastEnd_27 rfl (lv_at hl 3 rfl) ?_
          obtain ⟨r4, hc5, hf⟩ := bnd1_some hf
          refine k_ci (wc := [(a_now, .inr (0, [o_now_weight, o_now_hole, o_now_held, o_now_law, .int v_now_many, o_now_sights, o_now_full, .ref a_now_first, .ref a_now_second, o_now_worth, o_now_winner, .ref a_now_row, o_now_sightWeight, o_now_sightMany])), (a_now_row, .inl (cI, 6, .inl v_now_row)), (a_now_first, .inl (cI, 6, .inl v_now_first)), (a_now_second, .inl (cI, 6, .inl v_now_second))]) (wr := [(a_this, .inr (3, [o_this_pad, o_this_signs, .ref a_now, o_this_images, o_this_sitting, o_this_reader, o_this_trial, o_this_best]))]) (w1 := [(a_now, .inr (0, [o_now_weight, o_now_hole, o_now_held, o_now_law, .int v_now_many, o_now_sights, o_now_full, .ref a_now_first, .ref a_now_second, o_now_worth, o_now_winner, .ref a_now_row, o_now_sightWeight, o_now_sightMany])), (a_now_row, .inl (cI, 6, .inl v_now_row)), (a_now_first, .inl (cI, 6, .inl v_now_first)), (a_now_second, .inl (cI, 6, .inl v_now_second))]) (ws' := [(a_this, .inr (3, [o_this_pad, o_this_signs, .ref a_now, o_this_images, o_this_sitting, o_this_reader, o_this_trial, o_this_best])), (a_now, .inr (0, [o_now_weight, o_now_hole, o_now_held, o_now_law, .int v_now_many, o_now_sights, o_now_full, .ref a_now_first, .ref a_now_second, o_now_worth, o_now_winner, .ref a_now_row, o_now_sightWeight, o_now_sightMany])), (a_now_row, .inl (cI, 6, .inl v_now_row)), (a_now_first, .inl (cI, 6, .inl v_now_first)), (a_now_second, .inl (cI, 6, .inl v_now_second))]) (va_runV (As := [.int x3_4]) (rest := []) ⟨hx, hb, hml, hown, hts⟩ (tX0_end l D cI cJ cZ cB a_now a_now_row a_now_first a_now_second o_now_weight o_now_hole o_now_held o_now_law o_now_sights o_now_full o_now_worth o_now_winner o_now_sightWeight o_now_sightMany x3_4 v_now_many v_now_row v_now_first v_now_second r4 hc5 H.size) (cwV 1 hts gX3_lastEnd_X0_end rfl rfl rfl (by decide +kernel) ⟨Nat.le_of_ble_eq_true rfl, Nat.le_of_ble_eq_true rfl⟩) (k_preV (ci := 0) (q0 := 1) (is := [1, 2, 3, 4]) hK hP hD rfl rfl rfl rfl) rfl rfl hl.1 rfl (lv_room (Nat.le_of_ble_eq_true rfl)) dX3_lastEnd_28 ⟨Nat.zero_le _, Nat.zero_le _⟩) hP hD hS hA [1, 2, 3, 4] [0] [0, 1, 2, 3, 4] rfl rfl rfl (by decide) rfl rfl (fun H locs hP hD hS => ?_)
          refine lv_goto (tgt := 35) hx hb dX3_lastEnd_31 (by decide) ?_
          exact J35 r4 x2_4 x3_4 _ _ _ hf hP hD hS (lv_sub hl [0, 1, 2, 3] rfl)
  exact L4 FU 0 0 _ _ _ hf hP hD hS (lv_sub hl [2, 3, 1, 0] rfl)

set_option maxHeartbeats 4000000 in
set_option maxRecDepth 100000 in
theorem tX3_wax (l : Launch) (D : va_G) (cI cJ cZ cB : ClassId) (a_this : Nat) (a_now : Nat) (a_now_row : Nat) (a_now_first : Nat) (a_now_second : Nat) (o_this_pad : Value) (o_this_signs : Value) (o_this_images : Value) (o_this_sitting : Value) (o_this_reader : Value) (o_this_trial : Value) (o_this_best : Value) (o_now_weight : Value) (o_now_law : Value) (o_now_sights : Value) (o_now_full : Value) (o_now_worth : Value) (o_now_winner : Value) (o_now_sightWeight : Value) (o_now_sightMany : Value) (x1 : Int32) (v_now_many : Int32) (v_now_hole : Int32) (v_now_held : Int32) (v_now_row : Nat → Int32) (v_now_first : Nat → Int32) (v_now_second : Nat → Int32) (r0 : Int32) (hf : fX3_wax x1 v_now_many v_now_hole v_now_held v_now_row v_now_first v_now_second = some r0) : MW l yX3_wax wsX3_wax { frames := 4, cells := 0, slots := 0, locals := 90 } D cI cJ cZ cB [(a_this, .inr (3, [o_this_pad, o_this_signs, .ref a_now, o_this_images, o_this_sitting, o_this_reader, o_this_trial, o_this_best])), (a_now, .inr (0, [o_now_weight, .int v_now_hole, .int v_now_held, o_now_law, .int v_now_many, o_now_sights, o_now_full, .ref a_now_first, .ref a_now_second, o_now_worth, o_now_winner, .ref a_now_row, o_now_sightWeight, o_now_sightMany])), (a_now_row, .inl (cI, 6, .inl v_now_row)), (a_now_first, .inl (cI, 6, .inl v_now_first)), (a_now_second, .inl (cI, 6, .inl v_now_second))] [.ref a_this, .int x1] (QWi D r0 [(a_this, .inr (3, [o_this_pad, o_this_signs, .ref a_now, o_this_images, o_this_sitting, o_this_reader, o_this_trial, o_this_best])), (a_now, .inr (0, [o_now_weight, .int v_now_hole, .int v_now_held, o_now_law, .int v_now_many, o_now_sights, o_now_full, .ref a_now_first, .ref a_now_second, o_now_worth, o_now_winner, .ref a_now_row, o_now_sightWeight, o_now_sightMany])), (a_now_row, .inl (cI, 6, .inl v_now_row)), (a_now_first, .inl (cI, 6, .inl v_now_first)), (a_now_second, .inl (cI, 6, .inl v_now_second))]) := by
  refine k_body (cc := cX3_wax) (maxL := 4) (ret := (some .int)) (by decide) rfl (Nat.le_of_ble_eq_true rfl) ?_
  intro p e s m args below meth c hx hb hr hml hts hown hlocks hname hK A hA hP hD hS ls hl
  have hl : lv_has ls 4 [(0, .ref a_this), (1, .int x1)] := hl
  generalize hQ : MQ below ((QWi D r0 [(a_this, .inr (3, [o_this_pad, o_this_signs, .ref a_now, o_this_images, o_this_sitting, o_this_reader, o_this_trial, o_this_best])), (a_now, .inr (0, [o_now_weight, .int v_now_hole, .int v_now_held, o_now_law, .int v_now_many, o_now_sights, o_now_full, .ref a_now_first, .ref a_now_second, o_now_worth, o_now_winner, .ref a_now_row, o_now_sightWeight, o_now_sightMany])), (a_now_row, .inl (cI, 6, .inl v_now_row)), (a_now_first, .inl (cI, 6, .inl v_now_first)), (a_now_second, .inl (cI, 6, .inl v_now_second))]) A) args s 0 0 A = Q
  obtain ⟨H, hH⟩ : ∃ H, H = s.heap := ⟨_, rfl⟩
  obtain ⟨locs, hlo⟩ : ∃ z : List Loc, z = [] := ⟨_, rfl⟩
  have hP : va_P D vwCl [(a_this, .inr (3, [o_this_pad, o_this_signs, .ref a_now, o_this_images, o_this_sitting, o_this_reader, o_this_trial, o_this_best])), (a_now, .inr (0, [o_now_weight, .int v_now_hole, .int v_now_held, o_now_law, .int v_now_many, o_now_sights, o_now_full, .ref a_now_first, .ref a_now_second, o_now_worth, o_now_winner, .ref a_now_row, o_now_sightWeight, o_now_sightMany])), (a_now_row, .inl (cI, 6, .inl v_now_row)), (a_now_first, .inl (cI, 6, .inl v_now_first)), (a_now_second, .inl (cI, 6, .inl v_now_second))] H := by rw [hH]; exact hP
  have hS : va_S A s.heap H locs := by rw [hH, hlo]; exact hS
  suffices hg : W p l e (headSpec wsX3_wax { frames := 4, cells := 0, slots := 0, locals := 90 }).room s m args below meth c H locs 0 0 Q (F0 m 0 ls []) by rw [hH, hlo] at hg; exact hg
  have l20 := hts (.fieldLink RX3 20 "CandleCourt" "now" "LCandleCourt$Bench;") (by decide +kernel)
  have l138 := hts (.fieldLink RX3 138 "CandleCourt$Bench" "hole" "I") (by decide +kernel)
  have iX0 : ∀ w ∈ wsX00, w ∈ wsX3_wax := by decide +kernel
  have iX3 : ∀ w ∈ wsX30, w ∈ wsX3_wax := by decide +kernel
  unfold fX3_wax at hf
  refine lv_aload_n hx hb dX3_wax_0 rfl (lv_at hl 0 rfl) ?_
  refine lv_iload_n hx hb dX3_wax_1 rfl (lv_at hl 1 rfl) ?_
  obtain ⟨r1, hc2, hf⟩ := bnd1_some hf
  refine k_ci (wc := [(a_this, .inr (3, [o_this_pad, o_this_signs, .ref a_now, o_this_images, o_this_sitting, o_this_reader, o_this_trial, o_this_best])), (a_now, .inr (0, [o_now_weight, .int v_now_hole, .int v_now_held, o_now_law, .int v_now_many, o_now_sights, o_now_full, .ref a_now_first, .ref a_now_second, o_now_worth, o_now_winner, .ref a_now_row, o_now_sightWeight, o_now_sightMany]))]) (wr := [(a_now_row, .inl (cI, 6, .inl v_now_row)), (a_now_first, .inl (cI, 6, .inl v_now_first)), (a_now_second, .inl (cI, 6, .inl v_now_second))]) (w1 := [(a_this, .inr (3, [o_this_pad, o_this_signs, .ref a_now, o_this_images, o_this_sitting, o_this_reader, o_this_trial, o_this_best])), (a_now, .inr (0, [o_now_weight, .int v_now_hole, .int v_now_held, o_now_law, .int v_now_many, o_now_sights, o_now_full, .ref a_now_first, .ref a_now_second, o_now_worth, o_now_winner, .ref a_now_row, o_now_sightWeight, o_now_sightMany]))]) (ws' := [(a_this, .inr (3, [o_this_pad, o_this_signs, .ref a_now, o_this_images, o_this_sitting, o_this_reader, o_this_trial, o_this_best])), (a_now, .inr (0, [o_now_weight, .int v_now_hole, .int v_now_held, o_now_law, .int v_now_many, o_now_sights, o_now_full, .ref a_now_first, .ref a_now_second, o_now_worth, o_now_winner, .ref a_now_row, o_now_sightWeight, o_now_sightMany])), (a_now_row, .inl (cI, 6, .inl v_now_row)), (a_now_first, .inl (cI, 6, .inl v_now_first)), (a_now_second, .inl (cI, 6, .inl v_now_second))]) (va_runV (As := [.int x1]) (rest := []) ⟨hx, hb, hml, hown, hts⟩ (tX3_isSet l D cI cJ cZ cB a_this a_now o_this_pad o_this_signs o_this_images o_this_sitting o_this_reader o_this_trial o_this_best o_now_weight (.int v_now_hole) (.int v_now_held) o_now_law o_now_sights o_now_full (.ref a_now_first) (.ref a_now_second) o_now_worth o_now_winner (.ref a_now_row) o_now_sightWeight o_now_sightMany x1 v_now_many r1 hc2 H.size) (cwV 1 hts gX3_wax_X3_isSet rfl rfl rfl (by decide +kernel) ⟨Nat.le_of_ble_eq_true rfl, Nat.le_of_ble_eq_true rfl⟩) (k_preV (ci := 3) (q0 := 0) (is := [0, 1]) hK hP hD rfl rfl rfl rfl) rfl rfl hl.1 rfl (lv_room (Nat.le_of_ble_eq_true rfl)) dX3_wax_2 ⟨Nat.zero_le _, Nat.zero_le _⟩) hP hD hS hA [0, 1] [2, 3, 4] [3, 4, 0, 1, 2] rfl rfl rfl (by decide) rfl rfl (fun H locs hP hD hS => ?_)
  refine lv_if_ne (tgt := 11) hx hb dX3_wax_5 (by decide) (fun c3 => ?_) (fun c3 => ?_)
  · have hf := (if_neg c3).symm.trans hf
    refine lv_aload_n hx hb dX3_wax_11 rfl (lv_at hl 0 rfl) ?_
    refine lv_iload_n hx hb dX3_wax_12 rfl (lv_at hl 1 rfl) ?_
    obtain ⟨r4, hc5, hf⟩ := bnd1_some hf
    refine k_ci (wc := [(a_this, .inr (3, [o_this_pad, o_this_signs, .ref a_now, o_this_images, o_this_sitting, o_this_reader, o_this_trial, o_this_best])), (a_now, .inr (0, [o_now_weight, .int v_now_hole, .int v_now_held, o_now_law, .int v_now_many, o_now_sights, o_now_full, .ref a_now_first, .ref a_now_second, o_now_worth, o_now_winner, .ref a_now_row, o_now_sightWeight, o_now_sightMany])), (a_now_row, .inl (cI, 6, .inl v_now_row)), (a_now_first, .inl (cI, 6, .inl v_now_first)), (a_now_second, .inl (cI, 6, .inl v_now_second))]) (wr := []) (w1 := [(a_this, .inr (3, [o_this_pad, o_this_signs, .ref a_now, o_this_images, o_this_sitting, o_this_reader, o_this_trial, o_this_best])), (a_now, .inr (0, [o_now_weight, .int v_now_hole, .int v_now_held, o_now_law, .int v_now_many, o_now_sights, o_now_full, .ref a_now_first, .ref a_now_second, o_now_worth, o_now_winner, .ref a_now_row, o_now_sightWeight, o_now_sightMany])), (a_now_row, .inl (cI, 6, .inl v_now_row)), (a_now_first, .inl (cI, 6, .inl v_now_first)), (a_now_second, .inl (cI, 6, .inl v_now_second))]) (ws' := [(a_this, .inr (3, [o_this_pad, o_this_signs, .ref a_now, o_this_images, o_this_sitting, o_this_reader, o_this_trial, o_this_best])), (a_now, .inr (0, [o_now_weight, .int v_now_hole, .int v_now_held, o_now_law, .int v_now_many, o_now_sights, o_now_full, .ref a_now_first, .ref a_now_second, o_now_worth, o_now_winner, .ref a_now_row, o_now_sightWeight, o_now_sightMany])), (a_now_row, .inl (cI, 6, .inl v_now_row)), (a_now_first, .inl (cI, 6, .inl v_now_first)), (a_now_second, .inl (cI, 6, .inl v_now_second))]) (va_runV (As := [.int x1]) (rest := []) ⟨hx, hb, hml, hown, hts⟩ (tX3_lastEnd l D cI cJ cZ cB a_this a_now a_now_row a_now_first a_now_second o_this_pad o_this_signs o_this_images o_this_sitting o_this_reader o_this_trial o_this_best o_now_weight (.int v_now_hole) (.int v_now_held) o_now_law o_now_sights o_now_full o_now_worth o_now_winner o_now_sightWeight o_now_sightMany x1 v_now_many v_now_row v_now_first v_now_second r4 hc5 H.size) (cwV 1 hts gX3_wax_X3_lastEnd rfl rfl rfl (by decide +kernel) ⟨Nat.le_of_ble_eq_true rfl, Nat.le_of_ble_eq_true rfl⟩) (k_preV (ci := 3) (q0 := 0) (is := [0, 1, 2, 3, 4]) hK hP hD rfl rfl rfl rfl) rfl rfl hl.1 rfl (lv_room (Nat.le_of_ble_eq_true rfl)) dX3_wax_13 ⟨Nat.zero_le _, Nat.zero_le _⟩) hP hD hS hA [0, 1, 2, 3, 4] [] [0, 1, 2, 3, 4] rfl rfl rfl (by decide) rfl rfl (fun H locs hP hD hS => ?_)
    refine lv_istore_n (lv' := [(2, .int r4), (0, .ref a_this), (1, .int x1)]) hx hb dX3_wax_16 rfl hl (by decide) rfl (fun ls hl => ?_)
    refine lv_iconst (v := 1) hx hb dX3_wax_17 (by decide) ?_
    refine lv_istore_n (lv' := [(3, .int 1), (2, .int r4), (0, .ref a_this), (1, .int x1)]) hx hb dX3_wax_18 rfl hl (by decide) rfl (fun ls hl => ?_)
    have L19 : ∀ (n19 : Nat) (x3_19 : Int32) (H : Heap) (locs : List Loc) (ls : Array Slot), fX3_wax_l19 v_now_hole v_now_held r4 n19 x3_19 = some r0 → va_P D vwCl [(a_this, .inr (3, [o_this_pad, o_this_signs, .ref a_now, o_this_images, o_this_sitting, o_this_reader, o_this_trial, o_this_best])), (a_now, .inr (0, [o_now_weight, .int v_now_hole, .int v_now_held, o_now_law, .int v_now_many, o_now_sights, o_now_full, .ref a_now_first, .ref a_now_second, o_now_worth, o_now_winner, .ref a_now_row, o_now_sightWeight, o_now_sightMany])), (a_now_row, .inl (cI, 6, .inl v_now_row)), (a_now_first, .inl (cI, 6, .inl v_now_first)), (a_now_second, .inl (cI, 6, .inl v_now_second))] H → va_D A [(a_this, .inr (3, [o_this_pad, o_this_signs, .ref a_now, o_this_images, o_this_sitting, o_this_reader, o_this_trial, o_this_best])), (a_now, .inr (0, [o_now_weight, .int v_now_hole, .int v_now_held, o_now_law, .int v_now_many, o_now_sights, o_now_full, .ref a_now_first, .ref a_now_second, o_now_worth, o_now_winner, .ref a_now_row, o_now_sightWeight, o_now_sightMany])), (a_now_row, .inl (cI, 6, .inl v_now_row)), (a_now_first, .inl (cI, 6, .inl v_now_first)), (a_now_second, .inl (cI, 6, .inl v_now_second))] → va_S A s.heap H locs → lv_has ls 4 [(0, .ref a_this), (2, .int r4), (3, .int x3_19)] → W p l e (headSpec wsX3_wax { frames := 4, cells := 0, slots := 0, locals := 90 }).room s m args below meth c H locs 0 0 Q (F0 m 19 ls []) := by
      intro n19
      induction n19 with
      | zero =>
        intro x3_19 H locs ls hf
        have hf : (none : Option (Int32)) = some r0 := hf
        cases hf
      | succ n19 ih19 =>
        intro x3_19 H locs ls hf hP hD hS hl
        rw [fX3_wax_l19] at hf
        refine lv_iload_n hx hb dX3_wax_19 rfl (lv_at hl 2 rfl) ?_
        refine lv_bipush (v := 99) hx hb dX3_wax_20 (by decide) ?_
        refine lv_icmp_gt (tgt := 52) hx hb dX3_wax_22 (by decide) (fun c6 => ?_) (fun c6 => ?_)
        · have hf := (if_pos c6).symm.trans hf
          refine lv_bipush (v := (-6)) hx hb dX3_wax_52 (by decide) ?_
          cases hf
          subst hQ
          exact k_ri hx hb hr hlocks hP hD hS dX3_wax_54
        · have hf := (if_neg c6).symm.trans hf
          refine lv_aload_n hx hb dX3_wax_25 rfl (lv_at hl 0 rfl) ?_
          refine va_get (D := D) (ci := 3) (v := .ref a_now) (C := RX3) (T := TX3) (N := 8) hx hb hts iX3 hown hK.1 hP 0 rfl rfl 2 (by decide) l20 (fun _ h9 => h9) rfl dX3_wax_26 ?_
          refine lv_iload_n hx hb dX3_wax_29 rfl (lv_at hl 2 rfl) ?_
          refine lv_aload_n hx hb dX3_wax_30 rfl (lv_at hl 0 rfl) ?_
          refine va_get (D := D) (ci := 3) (v := .ref a_now) (C := RX3) (T := TX3) (N := 8) hx hb hts iX3 hown hK.1 hP 0 rfl rfl 2 (by decide) l20 (fun _ h9 => h9) rfl dX3_wax_31 ?_
          refine va_get (D := D) (ci := 0) (v := .int v_now_hole) (C := RX0) (T := TX0) (N := 14) hx hb hts iX0 hown hK.1 hP 1 rfl rfl 1 (by decide) l138 (fun _ h9 => h9) rfl dX3_wax_34 ?_
          obtain ⟨r7, hc8, hf⟩ := bnd1_some hf
          refine k_ci (wc := [(a_now, .inr (0, [o_now_weight, .int v_now_hole, .int v_now_held, o_now_law, .int v_now_many, o_now_sights, o_now_full, .ref a_now_first, .ref a_now_second, o_now_worth, o_now_winner, .ref a_now_row, o_now_sightWeight, o_now_sightMany]))]) (wr := [(a_this, .inr (3, [o_this_pad, o_this_signs, .ref a_now, o_this_images, o_this_sitting, o_this_reader, o_this_trial, o_this_best])), (a_now_row, .inl (cI, 6, .inl v_now_row)), (a_now_first, .inl (cI, 6, .inl v_now_first)), (a_now_second, .inl (cI, 6, .inl v_now_second))]) (w1 := [(a_now, .inr (0, [o_now_weight, .int v_now_hole, .int v_now_held, o_now_law, .int v_now_many, o_now_sights, o_now_full, .ref a_now_first, .ref a_now_second, o_now_worth, o_now_winner, .ref a_now_row, o_now_sightWeight, o_now_sightMany]))]) (ws' := [(a_this, .inr (3, [o_this_pad, o_this_signs, .ref a_now, o_this_images, o_this_sitting, o_this_reader, o_this_trial, o_this_best])), (a_now, .inr (0, [o_now_weight, .int v_now_hole, .int v_now_held, o_now_law, .int v_now_many, o_now_sights, o_now_full, .ref a_now_first, .ref a_now_second, o_now_worth, o_now_winner, .ref a_now_row, o_now_sightWeight, o_now_sightMany])), (a_now_row, .inl (cI, 6, .inl v_now_row)), (a_now_first, .inl (cI, 6, .inl v_now_first)), (a_now_second, .inl (cI, 6, .inl v_now_second))]) (va_runV (As := [.int x3_19, .int v_now_hole]) (rest := []) ⟨hx, hb, hml, hown, hts⟩ (tX0_floatsBy l D cI cJ cZ cB a_now o_now_weight (.int v_now_hole) o_now_law (.int v_now_many) o_now_sights o_now_full (.ref a_now_first) (.ref a_now_second) o_now_worth o_now_winner (.ref a_now_row) o_now_sightWeight o_now_sightMany x3_19 v_now_hole v_now_held r7 hc8 H.size) (cwV 2 hts gX3_wax_X0_floatsBy rfl rfl rfl (by decide +kernel) ⟨Nat.le_of_ble_eq_true rfl, Nat.le_of_ble_eq_true rfl⟩) (k_preV (ci := 0) (q0 := 1) (is := [1]) hK hP hD rfl rfl rfl rfl) rfl rfl hl.1 rfl (lv_room (Nat.le_of_ble_eq_true rfl)) dX3_wax_37 ⟨Nat.zero_le _, Nat.zero_le _⟩) hP hD hS hA [1] [0, 2, 3, 4] [0, 4, 1, 2, 3] rfl rfl rfl (by decide) rfl rfl (fun H locs hP hD hS => ?_)
          refine lv_iload_n hx hb dX3_wax_40 rfl (lv_at hl 1 rfl) ?_
          refine lv_icmp_lt (tgt := 46) hx hb dX3_wax_41 (by decide) (fun c9 => ?_) (fun c9 => ?_)
          · have hf := (if_pos c9).symm.trans hf
            refine lv_iinc (v := (x3_19 + 1)) (lv' := [(3, .int (x3_19 + 1)), (0, .ref a_this), (2, .int r4)]) hx hb dX3_wax_46 hl (k := 2) rfl (by rfl) (by decide) rfl (fun ls hl => ?_)
            refine lv_goto (tgt := 19) hx hb dX3_wax_49 (by decide) ?_
            exact ih19 (x3_19 + 1) _ _ _ hf hP hD hS (lv_sub hl [1, 2, 0] rfl)
          · have hf := (if_neg c9).symm.trans hf
            refine lv_iload_n hx hb dX3_wax_44 rfl (lv_at hl 2 rfl) ?_
            cases hf
            subst hQ
            exact k_ri hx hb hr hlocks hP hD hS dX3_wax_45
    exact L19 FU 1 _ _ _ hf hP hD hS (lv_sub hl [2, 1, 0] rfl)
  · have hf := (if_pos c3).symm.trans hf
    refine lv_bipush (v := (-2)) hx hb dX3_wax_8 (by decide) ?_
    cases hf
    subst hQ
    exact k_ri hx hb hr hlocks hP hD hS dX3_wax_10

set_option maxHeartbeats 4000000 in
set_option maxRecDepth 100000 in
theorem tX3_finger (l : Launch) (D : va_G) (cI cJ cZ cB : ClassId) (a_this : Nat) (a_now : Nat) (a_now_row : Nat) (a_now_first : Nat) (a_now_second : Nat) (o_this_pad : Value) (o_this_signs : Value) (o_this_images : Value) (o_this_sitting : Value) (o_this_reader : Value) (o_this_trial : Value) (o_this_best : Value) (o_now_held : Value) (o_now_law : Value) (o_now_sights : Value) (o_now_full : Value) (o_now_worth : Value) (o_now_winner : Value) (o_now_sightWeight : Value) (o_now_sightMany : Value) (x1 : Int32) (v_now_many : Int32) (v_now_weight : Int32) (v_now_hole : Int32) (v_now_row : Nat → Int32) (v_now_first : Nat → Int32) (v_now_second : Nat → Int32) (r0 : Int32) (hf : fX3_finger x1 v_now_many v_now_weight v_now_hole v_now_row v_now_first v_now_second = some r0) : MW l yX3_finger wsX3_finger { frames := 4, cells := 0, slots := 0, locals := 90 } D cI cJ cZ cB [(a_this, .inr (3, [o_this_pad, o_this_signs, .ref a_now, o_this_images, o_this_sitting, o_this_reader, o_this_trial, o_this_best])), (a_now, .inr (0, [.int v_now_weight, .int v_now_hole, o_now_held, o_now_law, .int v_now_many, o_now_sights, o_now_full, .ref a_now_first, .ref a_now_second, o_now_worth, o_now_winner, .ref a_now_row, o_now_sightWeight, o_now_sightMany])), (a_now_row, .inl (cI, 6, .inl v_now_row)), (a_now_first, .inl (cI, 6, .inl v_now_first)), (a_now_second, .inl (cI, 6, .inl v_now_second))] [.ref a_this, .int x1] (QWi D r0 [(a_this, .inr (3, [o_this_pad, o_this_signs, .ref a_now, o_this_images, o_this_sitting, o_this_reader, o_this_trial, o_this_best])), (a_now, .inr (0, [.int v_now_weight, .int v_now_hole, o_now_held, o_now_law, .int v_now_many, o_now_sights, o_now_full, .ref a_now_first, .ref a_now_second, o_now_worth, o_now_winner, .ref a_now_row, o_now_sightWeight, o_now_sightMany])), (a_now_row, .inl (cI, 6, .inl v_now_row)), (a_now_first, .inl (cI, 6, .inl v_now_first)), (a_now_second, .inl (cI, 6, .inl v_now_second))]) := by
  refine k_body (cc := cX3_finger) (maxL := 3) (ret := (some .int)) (by decide) rfl (Nat.le_of_ble_eq_true rfl) ?_
  intro p e s m args below meth c hx hb hr hml hts hown hlocks hname hK A hA hP hD hS ls hl
  have hl : lv_has ls 3 [(0, .ref a_this), (1, .int x1)] := hl
  generalize hQ : MQ below ((QWi D r0 [(a_this, .inr (3, [o_this_pad, o_this_signs, .ref a_now, o_this_images, o_this_sitting, o_this_reader, o_this_trial, o_this_best])), (a_now, .inr (0, [.int v_now_weight, .int v_now_hole, o_now_held, o_now_law, .int v_now_many, o_now_sights, o_now_full, .ref a_now_first, .ref a_now_second, o_now_worth, o_now_winner, .ref a_now_row, o_now_sightWeight, o_now_sightMany])), (a_now_row, .inl (cI, 6, .inl v_now_row)), (a_now_first, .inl (cI, 6, .inl v_now_first)), (a_now_second, .inl (cI, 6, .inl v_now_second))]) A) args s 0 0 A = Q
  obtain ⟨H, hH⟩ : ∃ H, H = s.heap := ⟨_, rfl⟩
  obtain ⟨locs, hlo⟩ : ∃ z : List Loc, z = [] := ⟨_, rfl⟩
  have hP : va_P D vwCl [(a_this, .inr (3, [o_this_pad, o_this_signs, .ref a_now, o_this_images, o_this_sitting, o_this_reader, o_this_trial, o_this_best])), (a_now, .inr (0, [.int v_now_weight, .int v_now_hole, o_now_held, o_now_law, .int v_now_many, o_now_sights, o_now_full, .ref a_now_first, .ref a_now_second, o_now_worth, o_now_winner, .ref a_now_row, o_now_sightWeight, o_now_sightMany])), (a_now_row, .inl (cI, 6, .inl v_now_row)), (a_now_first, .inl (cI, 6, .inl v_now_first)), (a_now_second, .inl (cI, 6, .inl v_now_second))] H := by rw [hH]; exact hP
  have hS : va_S A s.heap H locs := by rw [hH, hlo]; exact hS
  suffices hg : W p l e (headSpec wsX3_finger { frames := 4, cells := 0, slots := 0, locals := 90 }).room s m args below meth c H locs 0 0 Q (F0 m 0 ls []) by rw [hH, hlo] at hg; exact hg
  have l20 := hts (.fieldLink RX3 20 "CandleCourt" "now" "LCandleCourt$Bench;") (by decide +kernel)
  have l138 := hts (.fieldLink RX3 138 "CandleCourt$Bench" "hole" "I") (by decide +kernel)
  have l145 := hts (.fieldLink RX3 145 "CandleCourt$Bench" "weight" "I") (by decide +kernel)
  have iX0 : ∀ w ∈ wsX00, w ∈ wsX3_finger := by decide +kernel
  have iX3 : ∀ w ∈ wsX30, w ∈ wsX3_finger := by decide +kernel
  unfold fX3_finger at hf
  refine lv_aload_n hx hb dX3_finger_0 rfl (lv_at hl 0 rfl) ?_
  refine lv_iload_n hx hb dX3_finger_1 rfl (lv_at hl 1 rfl) ?_
  obtain ⟨r1, hc2, hf⟩ := bnd1_some hf
  refine k_ci (wc := [(a_this, .inr (3, [o_this_pad, o_this_signs, .ref a_now, o_this_images, o_this_sitting, o_this_reader, o_this_trial, o_this_best])), (a_now, .inr (0, [.int v_now_weight, .int v_now_hole, o_now_held, o_now_law, .int v_now_many, o_now_sights, o_now_full, .ref a_now_first, .ref a_now_second, o_now_worth, o_now_winner, .ref a_now_row, o_now_sightWeight, o_now_sightMany]))]) (wr := [(a_now_row, .inl (cI, 6, .inl v_now_row)), (a_now_first, .inl (cI, 6, .inl v_now_first)), (a_now_second, .inl (cI, 6, .inl v_now_second))]) (w1 := [(a_this, .inr (3, [o_this_pad, o_this_signs, .ref a_now, o_this_images, o_this_sitting, o_this_reader, o_this_trial, o_this_best])), (a_now, .inr (0, [.int v_now_weight, .int v_now_hole, o_now_held, o_now_law, .int v_now_many, o_now_sights, o_now_full, .ref a_now_first, .ref a_now_second, o_now_worth, o_now_winner, .ref a_now_row, o_now_sightWeight, o_now_sightMany]))]) (ws' := [(a_this, .inr (3, [o_this_pad, o_this_signs, .ref a_now, o_this_images, o_this_sitting, o_this_reader, o_this_trial, o_this_best])), (a_now, .inr (0, [.int v_now_weight, .int v_now_hole, o_now_held, o_now_law, .int v_now_many, o_now_sights, o_now_full, .ref a_now_first, .ref a_now_second, o_now_worth, o_now_winner, .ref a_now_row, o_now_sightWeight, o_now_sightMany])), (a_now_row, .inl (cI, 6, .inl v_now_row)), (a_now_first, .inl (cI, 6, .inl v_now_first)), (a_now_second, .inl (cI, 6, .inl v_now_second))]) (va_runV (As := [.int x1]) (rest := []) ⟨hx, hb, hml, hown, hts⟩ (tX3_isSet l D cI cJ cZ cB a_this a_now o_this_pad o_this_signs o_this_images o_this_sitting o_this_reader o_this_trial o_this_best (.int v_now_weight) (.int v_now_hole) o_now_held o_now_law o_now_sights o_now_full (.ref a_now_first) (.ref a_now_second) o_now_worth o_now_winner (.ref a_now_row) o_now_sightWeight o_now_sightMany x1 v_now_many r1 hc2 H.size) (cwV 1 hts gX3_finger_X3_isSet rfl rfl rfl (by decide +kernel) ⟨Nat.le_of_ble_eq_true rfl, Nat.le_of_ble_eq_true rfl⟩) (k_preV (ci := 3) (q0 := 0) (is := [0, 1]) hK hP hD rfl rfl rfl rfl) rfl rfl hl.1 rfl (lv_room (Nat.le_of_ble_eq_true rfl)) dX3_finger_2 ⟨Nat.zero_le _, Nat.zero_le _⟩) hP hD hS hA [0, 1] [2, 3, 4] [3, 4, 0, 1, 2] rfl rfl rfl (by decide) rfl rfl (fun H locs hP hD hS => ?_)
  refine lv_if_ne (tgt := 11) hx hb dX3_finger_5 (by decide) (fun c3 => ?_) (fun c3 => ?_)
  · have hf := (if_neg c3).symm.trans hf
    refine lv_aload_n hx hb dX3_finger_11 rfl (lv_at hl 0 rfl) ?_
    refine lv_iload_n hx hb dX3_finger_12 rfl (lv_at hl 1 rfl) ?_
    obtain ⟨r4, hc5, hf⟩ := bnd1_some hf
    refine k_ci (wc := [(a_this, .inr (3, [o_this_pad, o_this_signs, .ref a_now, o_this_images, o_this_sitting, o_this_reader, o_this_trial, o_this_best])), (a_now, .inr (0, [.int v_now_weight, .int v_now_hole, o_now_held, o_now_law, .int v_now_many, o_now_sights, o_now_full, .ref a_now_first, .ref a_now_second, o_now_worth, o_now_winner, .ref a_now_row, o_now_sightWeight, o_now_sightMany])), (a_now_row, .inl (cI, 6, .inl v_now_row)), (a_now_first, .inl (cI, 6, .inl v_now_first)), (a_now_second, .inl (cI, 6, .inl v_now_second))]) (wr := []) (w1 := [(a_this, .inr (3, [o_this_pad, o_this_signs, .ref a_now, o_this_images, o_this_sitting, o_this_reader, o_this_trial, o_this_best])), (a_now, .inr (0, [.int v_now_weight, .int v_now_hole, o_now_held, o_now_law, .int v_now_many, o_now_sights, o_now_full, .ref a_now_first, .ref a_now_second, o_now_worth, o_now_winner, .ref a_now_row, o_now_sightWeight, o_now_sightMany])), (a_now_row, .inl (cI, 6, .inl v_now_row)), (a_now_first, .inl (cI, 6, .inl v_now_first)), (a_now_second, .inl (cI, 6, .inl v_now_second))]) (ws' := [(a_this, .inr (3, [o_this_pad, o_this_signs, .ref a_now, o_this_images, o_this_sitting, o_this_reader, o_this_trial, o_this_best])), (a_now, .inr (0, [.int v_now_weight, .int v_now_hole, o_now_held, o_now_law, .int v_now_many, o_now_sights, o_now_full, .ref a_now_first, .ref a_now_second, o_now_worth, o_now_winner, .ref a_now_row, o_now_sightWeight, o_now_sightMany])), (a_now_row, .inl (cI, 6, .inl v_now_row)), (a_now_first, .inl (cI, 6, .inl v_now_first)), (a_now_second, .inl (cI, 6, .inl v_now_second))]) (va_runV (As := [.int x1]) (rest := []) ⟨hx, hb, hml, hown, hts⟩ (tX3_lastEnd l D cI cJ cZ cB a_this a_now a_now_row a_now_first a_now_second o_this_pad o_this_signs o_this_images o_this_sitting o_this_reader o_this_trial o_this_best (.int v_now_weight) (.int v_now_hole) o_now_held o_now_law o_now_sights o_now_full o_now_worth o_now_winner o_now_sightWeight o_now_sightMany x1 v_now_many v_now_row v_now_first v_now_second r4 hc5 H.size) (cwV 1 hts gX3_finger_X3_lastEnd rfl rfl rfl (by decide +kernel) ⟨Nat.le_of_ble_eq_true rfl, Nat.le_of_ble_eq_true rfl⟩) (k_preV (ci := 3) (q0 := 0) (is := [0, 1, 2, 3, 4]) hK hP hD rfl rfl rfl rfl) rfl rfl hl.1 rfl (lv_room (Nat.le_of_ble_eq_true rfl)) dX3_finger_13 ⟨Nat.zero_le _, Nat.zero_le _⟩) hP hD hS hA [0, 1, 2, 3, 4] [] [0, 1, 2, 3, 4] rfl rfl rfl (by decide) rfl rfl (fun H locs hP hD hS => ?_)
    refine lv_aload_n hx hb dX3_finger_16 rfl (lv_at hl 0 rfl) ?_
    refine va_get (D := D) (ci := 3) (v := .ref a_now) (C := RX3) (T := TX3) (N := 8) hx hb hts iX3 hown hK.1 hP 0 rfl rfl 2 (by decide) l20 (fun _ h9 => h9) rfl dX3_finger_17 ?_
    refine va_get (D := D) (ci := 0) (v := .int v_now_weight) (C := RX0) (T := TX0) (N := 14) hx hb hts iX0 hown hK.1 hP 1 rfl rfl 0 (by decide) l145 (fun _ h9 => h9) rfl dX3_finger_20 ?_
    refine lv_aload_n hx hb dX3_finger_23 rfl (lv_at hl 0 rfl) ?_
    refine va_get (D := D) (ci := 3) (v := .ref a_now) (C := RX3) (T := TX3) (N := 8) hx hb hts iX3 hown hK.1 hP 0 rfl rfl 2 (by decide) l20 (fun _ h9 => h9) rfl dX3_finger_24 ?_
    refine va_get (D := D) (ci := 0) (v := .int v_now_hole) (C := RX0) (T := TX0) (N := 14) hx hb hts iX0 hown hK.1 hP 1 rfl rfl 1 (by decide) l138 (fun _ h9 => h9) rfl dX3_finger_27 ?_
    obtain ⟨r6, hc7, hf⟩ := bnd1_some hf
    refine k_ci (wc := []) (wr := [(a_this, .inr (3, [o_this_pad, o_this_signs, .ref a_now, o_this_images, o_this_sitting, o_this_reader, o_this_trial, o_this_best])), (a_now, .inr (0, [.int v_now_weight, .int v_now_hole, o_now_held, o_now_law, .int v_now_many, o_now_sights, o_now_full, .ref a_now_first, .ref a_now_second, o_now_worth, o_now_winner, .ref a_now_row, o_now_sightWeight, o_now_sightMany])), (a_now_row, .inl (cI, 6, .inl v_now_row)), (a_now_first, .inl (cI, 6, .inl v_now_first)), (a_now_second, .inl (cI, 6, .inl v_now_second))]) (w1 := []) (ws' := [(a_this, .inr (3, [o_this_pad, o_this_signs, .ref a_now, o_this_images, o_this_sitting, o_this_reader, o_this_trial, o_this_best])), (a_now, .inr (0, [.int v_now_weight, .int v_now_hole, o_now_held, o_now_law, .int v_now_many, o_now_sights, o_now_full, .ref a_now_first, .ref a_now_second, o_now_worth, o_now_winner, .ref a_now_row, o_now_sightWeight, o_now_sightMany])), (a_now_row, .inl (cI, 6, .inl v_now_row)), (a_now_first, .inl (cI, 6, .inl v_now_first)), (a_now_second, .inl (cI, 6, .inl v_now_second))]) (va_runS (As := [.int v_now_weight, .int v_now_hole]) (rest := [.int r4]) ⟨hx, hb, hml, hown, hts⟩ (tX3_burns l D cI cJ cZ cB v_now_weight v_now_hole r6 hc7 H.size) (va_cwS 2 hts gX3_finger_X3_burns rfl rfl rfl (by decide +kernel) ⟨Nat.le_of_ble_eq_true rfl, Nat.le_of_ble_eq_true rfl⟩) (k_preS (is := []) hK hP hD rfl rfl) rfl rfl hl.1 rfl (lv_room (Nat.le_of_ble_eq_true rfl)) dX3_finger_30 ⟨Nat.zero_le _, Nat.zero_le _⟩) hP hD hS hA [] [0, 1, 2, 3, 4] [0, 1, 2, 3, 4] rfl rfl rfl (by decide) rfl rfl (fun H locs hP hD hS => ?_)
    refine lv_isub hx hb dX3_finger_33 ?_
    refine lv_istore_n (lv' := [(2, .int (r4 - r6)), (0, .ref a_this), (1, .int x1)]) hx hb dX3_finger_34 rfl hl (by decide) rfl (fun ls hl => ?_)
    refine lv_iload_n hx hb dX3_finger_35 rfl (lv_at hl 0 rfl) ?_
    refine lv_if_gt (tgt := 41) hx hb dX3_finger_36 (by decide) (fun c8 => ?_) (fun c8 => ?_)
    · have hf := (if_pos c8).symm.trans hf
      refine lv_iload_n hx hb dX3_finger_41 rfl (lv_at hl 0 rfl) ?_
      refine lv_sipush (v := 999) hx hb dX3_finger_42 (by decide) ?_
      refine lv_icmp_le (tgt := 53) hx hb dX3_finger_45 (by decide) (fun c9 => ?_) (fun c9 => ?_)
      · have hf := (if_pos c9).symm.trans hf
        refine lv_iload_n hx hb dX3_finger_53 rfl (lv_at hl 0 rfl) ?_
        cases hf
        subst hQ
        exact k_ri hx hb hr hlocks hP hD hS dX3_finger_54
      · have hf := (if_neg c9).symm.trans hf
        refine lv_bipush (v := (-6)) hx hb dX3_finger_48 (by decide) ?_
        refine lv_goto (tgt := 54) hx hb dX3_finger_50 (by decide) ?_
        cases hf
        subst hQ
        exact k_ri hx hb hr hlocks hP hD hS dX3_finger_54
    · have hf := (if_neg c8).symm.trans hf
      refine lv_iconst (v := 0) hx hb dX3_finger_39 (by decide) ?_
      cases hf
      subst hQ
      exact k_ri hx hb hr hlocks hP hD hS dX3_finger_40
  · have hf := (if_pos c3).symm.trans hf
    refine lv_bipush (v := (-2)) hx hb dX3_finger_8 (by decide) ?_
    cases hf
    subst hQ
    exact k_ri hx hb hr hlocks hP hD hS dX3_finger_10

set_option maxHeartbeats 4000000 in
set_option maxRecDepth 100000 in
theorem tX3_drawnOut (l : Launch) (D : va_G) (cI cJ cZ cB : ClassId) (a_this : Nat) (a_now : Nat) (a_now_row : Nat) (a_now_first : Nat) (a_now_second : Nat) (o_this_pad : Value) (o_this_signs : Value) (o_this_images : Value) (o_this_sitting : Value) (o_this_reader : Value) (o_this_trial : Value) (o_this_best : Value) (o_now_law : Value) (o_now_sights : Value) (o_now_full : Value) (o_now_worth : Value) (o_now_winner : Value) (o_now_sightWeight : Value) (o_now_sightMany : Value) (x1 : Int32) (v_now_many : Int32) (v_now_weight : Int32) (v_now_hole : Int32) (v_now_held : Int32) (v_now_row : Nat → Int32) (v_now_first : Nat → Int32) (v_now_second : Nat → Int32) (r0 : Int32) (hf : fX3_drawnOut x1 v_now_many v_now_weight v_now_hole v_now_held v_now_row v_now_first v_now_second = some r0) : MW l yX3_drawnOut wsX3_drawnOut { frames := 3, cells := 0, slots := 0, locals := 66 } D cI cJ cZ cB [(a_this, .inr (3, [o_this_pad, o_this_signs, .ref a_now, o_this_images, o_this_sitting, o_this_reader, o_this_trial, o_this_best])), (a_now, .inr (0, [.int v_now_weight, .int v_now_hole, .int v_now_held, o_now_law, .int v_now_many, o_now_sights, o_now_full, .ref a_now_first, .ref a_now_second, o_now_worth, o_now_winner, .ref a_now_row, o_now_sightWeight, o_now_sightMany])), (a_now_row, .inl (cI, 6, .inl v_now_row)), (a_now_first, .inl (cI, 6, .inl v_now_first)), (a_now_second, .inl (cI, 6, .inl v_now_second))] [.ref a_this, .int x1] (QWi D r0 [(a_this, .inr (3, [o_this_pad, o_this_signs, .ref a_now, o_this_images, o_this_sitting, o_this_reader, o_this_trial, o_this_best])), (a_now, .inr (0, [.int v_now_weight, .int v_now_hole, .int v_now_held, o_now_law, .int v_now_many, o_now_sights, o_now_full, .ref a_now_first, .ref a_now_second, o_now_worth, o_now_winner, .ref a_now_row, o_now_sightWeight, o_now_sightMany])), (a_now_row, .inl (cI, 6, .inl v_now_row)), (a_now_first, .inl (cI, 6, .inl v_now_first)), (a_now_second, .inl (cI, 6, .inl v_now_second))]) := by
  refine k_body (cc := cX3_drawnOut) (maxL := 3) (ret := (some .int)) (by decide) rfl (Nat.le_of_ble_eq_true rfl) ?_
  intro p e s m args below meth c hx hb hr hml hts hown hlocks hname hK A hA hP hD hS ls hl
  have hl : lv_has ls 3 [(0, .ref a_this), (1, .int x1)] := hl
  generalize hQ : MQ below ((QWi D r0 [(a_this, .inr (3, [o_this_pad, o_this_signs, .ref a_now, o_this_images, o_this_sitting, o_this_reader, o_this_trial, o_this_best])), (a_now, .inr (0, [.int v_now_weight, .int v_now_hole, .int v_now_held, o_now_law, .int v_now_many, o_now_sights, o_now_full, .ref a_now_first, .ref a_now_second, o_now_worth, o_now_winner, .ref a_now_row, o_now_sightWeight, o_now_sightMany])), (a_now_row, .inl (cI, 6, .inl v_now_row)), (a_now_first, .inl (cI, 6, .inl v_now_first)), (a_now_second, .inl (cI, 6, .inl v_now_second))]) A) args s 0 0 A = Q
  obtain ⟨H, hH⟩ : ∃ H, H = s.heap := ⟨_, rfl⟩
  obtain ⟨locs, hlo⟩ : ∃ z : List Loc, z = [] := ⟨_, rfl⟩
  have hP : va_P D vwCl [(a_this, .inr (3, [o_this_pad, o_this_signs, .ref a_now, o_this_images, o_this_sitting, o_this_reader, o_this_trial, o_this_best])), (a_now, .inr (0, [.int v_now_weight, .int v_now_hole, .int v_now_held, o_now_law, .int v_now_many, o_now_sights, o_now_full, .ref a_now_first, .ref a_now_second, o_now_worth, o_now_winner, .ref a_now_row, o_now_sightWeight, o_now_sightMany])), (a_now_row, .inl (cI, 6, .inl v_now_row)), (a_now_first, .inl (cI, 6, .inl v_now_first)), (a_now_second, .inl (cI, 6, .inl v_now_second))] H := by rw [hH]; exact hP
  have hS : va_S A s.heap H locs := by rw [hH, hlo]; exact hS
  suffices hg : W p l e (headSpec wsX3_drawnOut { frames := 3, cells := 0, slots := 0, locals := 66 }).room s m args below meth c H locs 0 0 Q (F0 m 0 ls []) by rw [hH, hlo] at hg; exact hg
  have l20 := hts (.fieldLink RX3 20 "CandleCourt" "now" "LCandleCourt$Bench;") (by decide +kernel)
  have iX3 : ∀ w ∈ wsX30, w ∈ wsX3_drawnOut := by decide +kernel
  unfold fX3_drawnOut at hf
  refine lv_aload_n hx hb dX3_drawnOut_0 rfl (lv_at hl 0 rfl) ?_
  refine lv_iload_n hx hb dX3_drawnOut_1 rfl (lv_at hl 1 rfl) ?_
  obtain ⟨r1, hc2, hf⟩ := bnd1_some hf
  refine k_ci (wc := [(a_this, .inr (3, [o_this_pad, o_this_signs, .ref a_now, o_this_images, o_this_sitting, o_this_reader, o_this_trial, o_this_best])), (a_now, .inr (0, [.int v_now_weight, .int v_now_hole, .int v_now_held, o_now_law, .int v_now_many, o_now_sights, o_now_full, .ref a_now_first, .ref a_now_second, o_now_worth, o_now_winner, .ref a_now_row, o_now_sightWeight, o_now_sightMany]))]) (wr := [(a_now_row, .inl (cI, 6, .inl v_now_row)), (a_now_first, .inl (cI, 6, .inl v_now_first)), (a_now_second, .inl (cI, 6, .inl v_now_second))]) (w1 := [(a_this, .inr (3, [o_this_pad, o_this_signs, .ref a_now, o_this_images, o_this_sitting, o_this_reader, o_this_trial, o_this_best])), (a_now, .inr (0, [.int v_now_weight, .int v_now_hole, .int v_now_held, o_now_law, .int v_now_many, o_now_sights, o_now_full, .ref a_now_first, .ref a_now_second, o_now_worth, o_now_winner, .ref a_now_row, o_now_sightWeight, o_now_sightMany]))]) (ws' := [(a_this, .inr (3, [o_this_pad, o_this_signs, .ref a_now, o_this_images, o_this_sitting, o_this_reader, o_this_trial, o_this_best])), (a_now, .inr (0, [.int v_now_weight, .int v_now_hole, .int v_now_held, o_now_law, .int v_now_many, o_now_sights, o_now_full, .ref a_now_first, .ref a_now_second, o_now_worth, o_now_winner, .ref a_now_row, o_now_sightWeight, o_now_sightMany])), (a_now_row, .inl (cI, 6, .inl v_now_row)), (a_now_first, .inl (cI, 6, .inl v_now_first)), (a_now_second, .inl (cI, 6, .inl v_now_second))]) (va_runV (As := [.int x1]) (rest := []) ⟨hx, hb, hml, hown, hts⟩ (tX3_isSuit l D cI cJ cZ cB a_this a_now o_this_pad o_this_signs o_this_images o_this_sitting o_this_reader o_this_trial o_this_best (.int v_now_weight) (.int v_now_hole) (.int v_now_held) o_now_law o_now_sights o_now_full (.ref a_now_first) (.ref a_now_second) o_now_worth o_now_winner (.ref a_now_row) o_now_sightWeight o_now_sightMany x1 v_now_many r1 hc2 H.size) (cwV 1 hts gX3_drawnOut_X3_isSuit rfl rfl rfl (by decide +kernel) ⟨Nat.le_of_ble_eq_true rfl, Nat.le_of_ble_eq_true rfl⟩) (k_preV (ci := 3) (q0 := 0) (is := [0, 1]) hK hP hD rfl rfl rfl rfl) rfl rfl hl.1 rfl (lv_room (Nat.le_of_ble_eq_true rfl)) dX3_drawnOut_2 ⟨Nat.zero_le _, Nat.zero_le _⟩) hP hD hS hA [0, 1] [2, 3, 4] [3, 4, 0, 1, 2] rfl rfl rfl (by decide) rfl rfl (fun H locs hP hD hS => ?_)
  refine lv_if_ne (tgt := 10) hx hb dX3_drawnOut_5 (by decide) (fun c3 => ?_) (fun c3 => ?_)
  · have hf := (if_neg c3).symm.trans hf
    refine lv_aload_n hx hb dX3_drawnOut_10 rfl (lv_at hl 0 rfl) ?_
    refine va_get (D := D) (ci := 3) (v := .ref a_now) (C := RX3) (T := TX3) (N := 8) hx hb hts iX3 hown hK.1 hP 0 rfl rfl 2 (by decide) l20 (fun _ h9 => h9) rfl dX3_drawnOut_11 ?_
    obtain ⟨r4, hc5, hf⟩ := bnd1_some hf
    refine k_ci (wc := [(a_now, .inr (0, [.int v_now_weight, .int v_now_hole, .int v_now_held, o_now_law, .int v_now_many, o_now_sights, o_now_full, .ref a_now_first, .ref a_now_second, o_now_worth, o_now_winner, .ref a_now_row, o_now_sightWeight, o_now_sightMany]))]) (wr := [(a_this, .inr (3, [o_this_pad, o_this_signs, .ref a_now, o_this_images, o_this_sitting, o_this_reader, o_this_trial, o_this_best])), (a_now_row, .inl (cI, 6, .inl v_now_row)), (a_now_first, .inl (cI, 6, .inl v_now_first)), (a_now_second, .inl (cI, 6, .inl v_now_second))]) (w1 := [(a_now, .inr (0, [.int v_now_weight, .int v_now_hole, .int v_now_held, o_now_law, .int v_now_many, o_now_sights, o_now_full, .ref a_now_first, .ref a_now_second, o_now_worth, o_now_winner, .ref a_now_row, o_now_sightWeight, o_now_sightMany]))]) (ws' := [(a_this, .inr (3, [o_this_pad, o_this_signs, .ref a_now, o_this_images, o_this_sitting, o_this_reader, o_this_trial, o_this_best])), (a_now, .inr (0, [.int v_now_weight, .int v_now_hole, .int v_now_held, o_now_law, .int v_now_many, o_now_sights, o_now_full, .ref a_now_first, .ref a_now_second, o_now_worth, o_now_winner, .ref a_now_row, o_now_sightWeight, o_now_sightMany])), (a_now_row, .inl (cI, 6, .inl v_now_row)), (a_now_first, .inl (cI, 6, .inl v_now_first)), (a_now_second, .inl (cI, 6, .inl v_now_second))]) (va_runV (As := []) (rest := []) ⟨hx, hb, hml, hown, hts⟩ (tX0_floats l D cI cJ cZ cB a_now o_now_law (.int v_now_many) o_now_sights o_now_full (.ref a_now_first) (.ref a_now_second) o_now_worth o_now_winner (.ref a_now_row) o_now_sightWeight o_now_sightMany v_now_weight v_now_hole v_now_held r4 hc5 H.size) (cwV 0 hts gX3_drawnOut_X0_floats rfl rfl rfl (by decide +kernel) ⟨Nat.le_of_ble_eq_true rfl, Nat.le_of_ble_eq_true rfl⟩) (k_preV (ci := 0) (q0 := 1) (is := [1]) hK hP hD rfl rfl rfl rfl) rfl rfl hl.1 rfl (lv_room (Nat.le_of_ble_eq_true rfl)) dX3_drawnOut_14 ⟨Nat.zero_le _, Nat.zero_le _⟩) hP hD hS hA [1] [0, 2, 3, 4] [0, 4, 1, 2, 3] rfl rfl rfl (by decide) rfl rfl (fun H locs hP hD hS => ?_)
    refine lv_aload_n hx hb dX3_drawnOut_17 rfl (lv_at hl 0 rfl) ?_
    refine va_get (D := D) (ci := 3) (v := .ref a_now) (C := RX3) (T := TX3) (N := 8) hx hb hts iX3 hown hK.1 hP 0 rfl rfl 2 (by decide) l20 (fun _ h9 => h9) rfl dX3_drawnOut_18 ?_
    refine lv_iload_n hx hb dX3_drawnOut_21 rfl (lv_at hl 1 rfl) ?_
    obtain ⟨r6, hc7, hf⟩ := bnd1_some hf
    refine k_ci (wc := [(a_now, .inr (0, [.int v_now_weight, .int v_now_hole, .int v_now_held, o_now_law, .int v_now_many, o_now_sights, o_now_full, .ref a_now_first, .ref a_now_second, o_now_worth, o_now_winner, .ref a_now_row, o_now_sightWeight, o_now_sightMany])), (a_now_row, .inl (cI, 6, .inl v_now_row)), (a_now_first, .inl (cI, 6, .inl v_now_first)), (a_now_second, .inl (cI, 6, .inl v_now_second))]) (wr := [(a_this, .inr (3, [o_this_pad, o_this_signs, .ref a_now, o_this_images, o_this_sitting, o_this_reader, o_this_trial, o_this_best]))]) (w1 := [(a_now, .inr (0, [.int v_now_weight, .int v_now_hole, .int v_now_held, o_now_law, .int v_now_many, o_now_sights, o_now_full, .ref a_now_first, .ref a_now_second, o_now_worth, o_now_winner, .ref a_now_row, o_now_sightWeight, o_now_sightMany])), (a_now_row, .inl (cI, 6, .inl v_now_row)), (a_now_first, .inl (cI, 6, .inl v_now_first)), (a_now_second, .inl (cI, 6, .inl v_now_second))]) (ws' := [(a_this, .inr (3, [o_this_pad, o_this_signs, .ref a_now, o_this_images, o_this_sitting, o_this_reader, o_this_trial, o_this_best])), (a_now, .inr (0, [.int v_now_weight, .int v_now_hole, .int v_now_held, o_now_law, .int v_now_many, o_now_sights, o_now_full, .ref a_now_first, .ref a_now_second, o_now_worth, o_now_winner, .ref a_now_row, o_now_sightWeight, o_now_sightMany])), (a_now_row, .inl (cI, 6, .inl v_now_row)), (a_now_first, .inl (cI, 6, .inl v_now_first)), (a_now_second, .inl (cI, 6, .inl v_now_second))]) (va_runV (As := [.int x1]) (rest := [.int r4]) ⟨hx, hb, hml, hown, hts⟩ (tX0_end l D cI cJ cZ cB a_now a_now_row a_now_first a_now_second (.int v_now_weight) (.int v_now_hole) (.int v_now_held) o_now_law o_now_sights o_now_full o_now_worth o_now_winner o_now_sightWeight o_now_sightMany x1 v_now_many v_now_row v_now_first v_now_second r6 hc7 H.size) (cwV 1 hts gX3_drawnOut_X0_end rfl rfl rfl (by decide +kernel) ⟨Nat.le_of_ble_eq_true rfl, Nat.le_of_ble_eq_true rfl⟩) (k_preV (ci := 0) (q0 := 1) (is := [1, 2, 3, 4]) hK hP hD rfl rfl rfl rfl) rfl rfl hl.1 rfl (lv_room (Nat.le_of_ble_eq_true rfl)) dX3_drawnOut_22 ⟨Nat.zero_le _, Nat.zero_le _⟩) hP hD hS hA [1, 2, 3, 4] [0] [0, 1, 2, 3, 4] rfl rfl rfl (by decide) rfl rfl (fun H locs hP hD hS => ?_)
    refine lv_isub hx hb dX3_drawnOut_25 ?_
    refine lv_istore_n (lv' := [(2, .int (r4 - r6)), (0, .ref a_this), (1, .int x1)]) hx hb dX3_drawnOut_26 rfl hl (by decide) rfl (fun ls hl => ?_)
    refine lv_iload_n hx hb dX3_drawnOut_27 rfl (lv_at hl 0 rfl) ?_
    refine lv_if_ge (tgt := 35) hx hb dX3_drawnOut_28 (by decide) (fun c8 => ?_) (fun c8 => ?_)
    · have hf := (if_pos c8).symm.trans hf
      refine lv_iload_n hx hb dX3_drawnOut_35 rfl (lv_at hl 0 rfl) ?_
      refine lv_iconst (v := 1) hx hb dX3_drawnOut_36 (by decide) ?_
      refine lv_iadd hx hb dX3_drawnOut_37 ?_
      cases hf
      subst hQ
      exact k_ri hx hb hr hlocks hP hD hS dX3_drawnOut_38
    · have hf := (if_neg c8).symm.trans hf
      refine lv_iconst (v := 0) hx hb dX3_drawnOut_31 (by decide) ?_
      refine lv_goto (tgt := 38) hx hb dX3_drawnOut_32 (by decide) ?_
      cases hf
      subst hQ
      exact k_ri hx hb hr hlocks hP hD hS dX3_drawnOut_38
  · have hf := (if_pos c3).symm.trans hf
    refine lv_iconst (v := (-1)) hx hb dX3_drawnOut_8 (by decide) ?_
    cases hf
    subst hQ
    exact k_ri hx hb hr hlocks hP hD hS dX3_drawnOut_9

set_option maxHeartbeats 4000000 in
set_option maxRecDepth 100000 in
theorem tX3_stall (l : Launch) (D : va_G) (cI cJ cZ cB : ClassId) (a_this : Nat) (a_now : Nat) (o_this_pad : Value) (o_this_signs : Value) (o_this_images : Value) (o_this_sitting : Value) (o_this_reader : Value) (o_this_trial : Value) (o_this_best : Value) (o_now_law : Value) (o_now_many : Value) (o_now_sights : Value) (o_now_full : Value) (o_now_first : Value) (o_now_second : Value) (o_now_worth : Value) (o_now_winner : Value) (o_now_row : Value) (o_now_sightWeight : Value) (o_now_sightMany : Value) (x1 : Int32) (x2 : Int32) (x3 : Int32) (v_now_weight : Int32) (v_now_hole : Int32) (v_now_held : Int32) (r0 : Int32) (hf : fX3_stall x1 x2 x3 v_now_weight v_now_hole v_now_held = some r0) : MW l yX3_stall wsX3_stall { frames := 3, cells := 0, slots := 0, locals := 63 } D cI cJ cZ cB [(a_this, .inr (3, [o_this_pad, o_this_signs, .ref a_now, o_this_images, o_this_sitting, o_this_reader, o_this_trial, o_this_best])), (a_now, .inr (0, [.int v_now_weight, .int v_now_hole, .int v_now_held, o_now_law, o_now_many, o_now_sights, o_now_full, o_now_first, o_now_second, o_now_worth, o_now_winner, o_now_row, o_now_sightWeight, o_now_sightMany]))] [.ref a_this, .int x1, .int x2, .int x3] (QWi D r0 [(a_this, .inr (3, [o_this_pad, o_this_signs, .ref a_now, o_this_images, o_this_sitting, o_this_reader, o_this_trial, o_this_best])), (a_now, .inr (0, [.int v_now_weight, .int v_now_hole, .int v_now_held, o_now_law, o_now_many, o_now_sights, o_now_full, o_now_first, o_now_second, o_now_worth, o_now_winner, o_now_row, o_now_sightWeight, o_now_sightMany]))]) := by
  refine k_body (cc := cX3_stall) (maxL := 8) (ret := (some .int)) (by decide) rfl (Nat.le_of_ble_eq_true rfl) ?_
  intro p e s m args below meth c hx hb hr hml hts hown hlocks hname hK A hA hP hD hS ls hl
  have hl : lv_has ls 8 [(0, .ref a_this), (1, .int x1), (2, .int x2), (3, .int x3)] := hl
  generalize hQ : MQ below ((QWi D r0 [(a_this, .inr (3, [o_this_pad, o_this_signs, .ref a_now, o_this_images, o_this_sitting, o_this_reader, o_this_trial, o_this_best])), (a_now, .inr (0, [.int v_now_weight, .int v_now_hole, .int v_now_held, o_now_law, o_now_many, o_now_sights, o_now_full, o_now_first, o_now_second, o_now_worth, o_now_winner, o_now_row, o_now_sightWeight, o_now_sightMany]))]) A) args s 0 0 A = Q
  obtain ⟨H, hH⟩ : ∃ H, H = s.heap := ⟨_, rfl⟩
  obtain ⟨locs, hlo⟩ : ∃ z : List Loc, z = [] := ⟨_, rfl⟩
  have hP : va_P D vwCl [(a_this, .inr (3, [o_this_pad, o_this_signs, .ref a_now, o_this_images, o_this_sitting, o_this_reader, o_this_trial, o_this_best])), (a_now, .inr (0, [.int v_now_weight, .int v_now_hole, .int v_now_held, o_now_law, o_now_many, o_now_sights, o_now_full, o_now_first, o_now_second, o_now_worth, o_now_winner, o_now_row, o_now_sightWeight, o_now_sightMany]))] H := by rw [hH]; exact hP
  have hS : va_S A s.heap H locs := by rw [hH, hlo]; exact hS
  suffices hg : W p l e (headSpec wsX3_stall { frames := 3, cells := 0, slots := 0, locals := 63 }).room s m args below meth c H locs 0 0 Q (F0 m 0 ls []) by rw [hH, hlo] at hg; exact hg
  have l20 := hts (.fieldLink RX3 20 "CandleCourt" "now" "LCandleCourt$Bench;") (by decide +kernel)
  have iX3 : ∀ w ∈ wsX30, w ∈ wsX3_stall := by decide +kernel
  unfold fX3_stall at hf
  refine lv_iload_n hx hb dX3_stall_0 rfl (lv_at hl 1 rfl) ?_
  refine lv_iconst (v := 0) hx hb dX3_stall_1 (by decide) ?_
  refine lv_aload_n hx hb dX3_stall_2 rfl (lv_at hl 0 rfl) ?_
  refine va_get (D := D) (ci := 3) (v := .ref a_now) (C := RX3) (T := TX3) (N := 8) hx hb hts iX3 hown hK.1 hP 0 rfl rfl 2 (by decide) l20 (fun _ h9 => h9) rfl dX3_stall_3 ?_
  obtain ⟨r1, hc2, hf⟩ := bnd1_some hf
  refine k_ci (wc := [(a_now, .inr (0, [.int v_now_weight, .int v_now_hole, .int v_now_held, o_now_law, o_now_many, o_now_sights, o_now_full, o_now_first, o_now_second, o_now_worth, o_now_winner, o_now_row, o_now_sightWeight, o_now_sightMany]))]) (wr := [(a_this, .inr (3, [o_this_pad, o_this_signs, .ref a_now, o_this_images, o_this_sitting, o_this_reader, o_this_trial, o_this_best]))]) (w1 := [(a_now, .inr (0, [.int v_now_weight, .int v_now_hole, .int v_now_held, o_now_law, o_now_many, o_now_sights, o_now_full, o_now_first, o_now_second, o_now_worth, o_now_winner, o_now_row, o_now_sightWeight, o_now_sightMany]))]) (ws' := [(a_this, .inr (3, [o_this_pad, o_this_signs, .ref a_now, o_this_images, o_this_sitting, o_this_reader, o_this_trial, o_this_best])), (a_now, .inr (0, [.int v_now_weight, .int v_now_hole, .int v_now_held, o_now_law, o_now_many, o_now_sights, o_now_full, o_now_first, o_now_second, o_now_worth, o_now_winner, o_now_row, o_now_sightWeight, o_now_sightMany]))]) (va_runV (As := []) (rest := [.int 0, .int x1]) ⟨hx, hb, hml, hown, hts⟩ (tX0_floats l D cI cJ cZ cB a_now o_now_law o_now_many o_now_sights o_now_full o_now_first o_now_second o_now_worth o_now_winner o_now_row o_now_sightWeight o_now_sightMany v_now_weight v_now_hole v_now_held r1 hc2 H.size) (cwV 0 hts gX3_stall_X0_floats rfl rfl rfl (by decide +kernel) ⟨Nat.le_of_ble_eq_true rfl, Nat.le_of_ble_eq_true rfl⟩) (k_preV (ci := 0) (q0 := 1) (is := [1]) hK hP hD rfl rfl rfl rfl) rfl rfl hl.1 rfl (lv_room (Nat.le_of_ble_eq_true rfl)) dX3_stall_6 ⟨Nat.zero_le _, Nat.zero_le _⟩) hP hD hS hA [1] [0] [0, 1] rfl rfl rfl (by decide) rfl rfl (fun H locs hP hD hS => ?_)
  obtain ⟨r3, hc4, hf⟩ := bnd1_some hf
  refine k_ci (wc := []) (wr := [(a_this, .inr (3, [o_this_pad, o_this_signs, .ref a_now, o_this_images, o_this_sitting, o_this_reader, o_this_trial, o_this_best])), (a_now, .inr (0, [.int v_now_weight, .int v_now_hole, .int v_now_held, o_now_law, o_now_many, o_now_sights, o_now_full, o_now_first, o_now_second, o_now_worth, o_now_winner, o_now_row, o_now_sightWeight, o_now_sightMany]))]) (w1 := []) (ws' := [(a_this, .inr (3, [o_this_pad, o_this_signs, .ref a_now, o_this_images, o_this_sitting, o_this_reader, o_this_trial, o_this_best])), (a_now, .inr (0, [.int v_now_weight, .int v_now_hole, .int v_now_held, o_now_law, o_now_many, o_now_sights, o_now_full, o_now_first, o_now_second, o_now_worth, o_now_winner, o_now_row, o_now_sightWeight, o_now_sightMany]))]) (va_runS (As := [.int x1, .int 0, .int r1]) (rest := []) ⟨hx, hb, hml, hown, hts⟩ (tX3_within l D cI cJ cZ cB x1 0 r1 r3 hc4 H.size) (va_cwS 3 hts gX3_stall_X3_within rfl rfl rfl (by decide +kernel) ⟨Nat.le_of_ble_eq_true rfl, Nat.le_of_ble_eq_true rfl⟩) (k_preS (is := []) hK hP hD rfl rfl) rfl rfl hl.1 rfl (lv_room (Nat.le_of_ble_eq_true rfl)) dX3_stall_9 ⟨Nat.zero_le _, Nat.zero_le _⟩) hP hD hS hA [] [0, 1] [0, 1] rfl rfl rfl (by decide) rfl rfl (fun H locs hP hD hS => ?_)
  refine lv_if_eq (tgt := 34) hx hb dX3_stall_12 (by decide) (fun c5 => ?_) (fun c5 => ?_)
  · have hf := (if_pos c5).symm.trans hf
    refine lv_bipush (v := (-2)) hx hb dX3_stall_34 (by decide) ?_
    cases hf
    subst hQ
    exact k_ri hx hb hr hlocks hP hD hS dX3_stall_36
  · have hf := (if_neg c5).symm.trans hf
    refine lv_iload_n hx hb dX3_stall_15 rfl (lv_at hl 2 rfl) ?_
    refine lv_iconst (v := 1) hx hb dX3_stall_16 (by decide) ?_
    refine lv_bipush (v := 9) hx hb dX3_stall_17 (by decide) ?_
    obtain ⟨r6, hc7, hf⟩ := bnd1_some hf
    refine k_ci (wc := []) (wr := [(a_this, .inr (3, [o_this_pad, o_this_signs, .ref a_now, o_this_images, o_this_sitting, o_this_reader, o_this_trial, o_this_best])), (a_now, .inr (0, [.int v_now_weight, .int v_now_hole, .int v_now_held, o_now_law, o_now_many, o_now_sights, o_now_full, o_now_first, o_now_second, o_now_worth, o_now_winner, o_now_row, o_now_sightWeight, o_now_sightMany]))]) (w1 := []) (ws' := [(a_this, .inr (3, [o_this_pad, o_this_signs, .ref a_now, o_this_images, o_this_sitting, o_this_reader, o_this_trial, o_this_best])), (a_now, .inr (0, [.int v_now_weight, .int v_now_hole, .int v_now_held, o_now_law, o_now_many, o_now_sights, o_now_full, o_now_first, o_now_second, o_now_worth, o_now_winner, o_now_row, o_now_sightWeight, o_now_sightMany]))]) (va_runS (As := [.int x2, .int 1, .int 9]) (rest := []) ⟨hx, hb, hml, hown, hts⟩ (tX3_within l D cI cJ cZ cB x2 1 9 r6 hc7 H.size) (va_cwS 3 hts gX3_stall_X3_within rfl rfl rfl (by decide +kernel) ⟨Nat.le_of_ble_eq_true rfl, Nat.le_of_ble_eq_true rfl⟩) (k_preS (is := []) hK hP hD rfl rfl) rfl rfl hl.1 rfl (lv_room (Nat.le_of_ble_eq_true rfl)) dX3_stall_19 ⟨Nat.zero_le _, Nat.zero_le _⟩) hP hD hS hA [] [0, 1] [0, 1] rfl rfl rfl (by decide) rfl rfl (fun H locs hP hD hS => ?_)
    refine lv_if_eq (tgt := 34) hx hb dX3_stall_22 (by decide) (fun c8 => ?_) (fun c8 => ?_)
    · have hf := (if_pos c8).symm.trans hf
      refine lv_bipush (v := (-2)) hx hb dX3_stall_34 (by decide) ?_
      cases hf
      subst hQ
      exact k_ri hx hb hr hlocks hP hD hS dX3_stall_36
    · have hf := (if_neg c8).symm.trans hf
      refine lv_iload_n hx hb dX3_stall_25 rfl (lv_at hl 3 rfl) ?_
      refine lv_iconst (v := 0) hx hb dX3_stall_26 (by decide) ?_
      refine lv_iconst (v := 1) hx hb dX3_stall_27 (by decide) ?_
      obtain ⟨r9, hc10, hf⟩ := bnd1_some hf
      refine k_ci (wc := []) (wr := [(a_this, .inr (3, [o_this_pad, o_this_signs, .ref a_now, o_this_images, o_this_sitting, o_this_reader, o_this_trial, o_this_best])), (a_now, .inr (0, [.int v_now_weight, .int v_now_hole, .int v_now_held, o_now_law, o_now_many, o_now_sights, o_now_full, o_now_first, o_now_second, o_now_worth, o_now_winner, o_now_row, o_now_sightWeight, o_now_sightMany]))]) (w1 := []) (ws' := [(a_this, .inr (3, [o_this_pad, o_this_signs, .ref a_now, o_this_images, o_this_sitting, o_this_reader, o_this_trial, o_this_best])), (a_now, .inr (0, [.int v_now_weight, .int v_now_hole, .int v_now_held, o_now_law, o_now_many, o_now_sights, o_now_full, o_now_first, o_now_second, o_now_worth, o_now_winner, o_now_row, o_now_sightWeight, o_now_sightMany]))]) (va_runS (As := [.int x3, .int 0, .int 1]) (rest := []) ⟨hx, hb, hml, hown, hts⟩ (tX3_within l D cI cJ cZ cB x3 0 1 r9 hc10 H.size) (va_cwS 3 hts gX3_stall_X3_within rfl rfl rfl (by decide +kernel) ⟨Nat.le_of_ble_eq_true rfl, Nat.le_of_ble_eq_true rfl⟩) (k_preS (is := []) hK hP hD rfl rfl) rfl rfl hl.1 rfl (lv_room (Nat.le_of_ble_eq_true rfl)) dX3_stall_28 ⟨Nat.zero_le _, Nat.zero_le _⟩) hP hD hS hA [] [0, 1] [0, 1] rfl rfl rfl (by decide) rfl rfl (fun H locs hP hD hS => ?_)
      refine lv_if_ne (tgt := 37) hx hb dX3_stall_31 (by decide) (fun c11 => ?_) (fun c11 => ?_)
      · have hf := (if_neg c11).symm.trans hf
        refine lv_aload_n hx hb dX3_stall_37 rfl (lv_at hl 0 rfl) ?_
        refine va_get (D := D) (ci := 3) (v := .ref a_now) (C := RX3) (T := TX3) (N := 8) hx hb hts iX3 hown hK.1 hP 0 rfl rfl 2 (by decide) l20 (fun _ h9 => h9) rfl dX3_stall_38 ?_
        obtain ⟨r12, hc13, hf⟩ := bnd1_some hf
        refine k_ci (wc := [(a_now, .inr (0, [.int v_now_weight, .int v_now_hole, .int v_now_held, o_now_law, o_now_many, o_now_sights, o_now_full, o_now_first, o_now_second, o_now_worth, o_now_winner, o_now_row, o_now_sightWeight, o_now_sightMany]))]) (wr := [(a_this, .inr (3, [o_this_pad, o_this_signs, .ref a_now, o_this_images, o_this_sitting, o_this_reader, o_this_trial, o_this_best]))]) (w1 := [(a_now, .inr (0, [.int v_now_weight, .int v_now_hole, .int v_now_held, o_now_law, o_now_many, o_now_sights, o_now_full, o_now_first, o_now_second, o_now_worth, o_now_winner, o_now_row, o_now_sightWeight, o_now_sightMany]))]) (ws' := [(a_this, .inr (3, [o_this_pad, o_this_signs, .ref a_now, o_this_images, o_this_sitting, o_this_reader, o_this_trial, o_this_best])), (a_now, .inr (0, [.int v_now_weight, .int v_now_hole, .int v_now_held, o_now_law, o_now_many, o_now_sights, o_now_full, o_now_first, o_now_second, o_now_worth, o_now_winner, o_now_row, o_now_sightWeight, o_now_sightMany]))]) (va_runV (As := []) (rest := []) ⟨hx, hb, hml, hown, hts⟩ (tX0_floats l D cI cJ cZ cB a_now o_now_law o_now_many o_now_sights o_now_full o_now_first o_now_second o_now_worth o_now_winner o_now_row o_now_sightWeight o_now_sightMany v_now_weight v_now_hole v_now_held r12 hc13 H.size) (cwV 0 hts gX3_stall_X0_floats rfl rfl rfl (by decide +kernel) ⟨Nat.le_of_ble_eq_true rfl, Nat.le_of_ble_eq_true rfl⟩) (k_preV (ci := 0) (q0 := 1) (is := [1]) hK hP hD rfl rfl rfl rfl) rfl rfl hl.1 rfl (lv_room (Nat.le_of_ble_eq_true rfl)) dX3_stall_41 ⟨Nat.zero_le _, Nat.zero_le _⟩) hP hD hS hA [1] [0] [0, 1] rfl rfl rfl (by decide) rfl rfl (fun H locs hP hD hS => ?_)
        refine lv_iload_n hx hb dX3_stall_44 rfl (lv_at hl 1 rfl) ?_
        refine lv_isub hx hb dX3_stall_45 ?_
        refine lv_bipush (v := 10) hx hb dX3_stall_46 (by decide) ?_
        refine lv_idiv hx hb dX3_stall_48 (by decide) ?_
        refine lv_istore (lv' := [(4, .int ((r12 - x1) / 10)), (0, .ref a_this), (1, .int x1), (2, .int x2), (3, .int x3)]) hx hb dX3_stall_49 hl (by decide) rfl (fun ls hl => ?_)
        refine lv_iload_n hx hb dX3_stall_51 rfl (lv_at hl 3 rfl) ?_
        refine lv_iconst (v := 1) hx hb dX3_stall_52 (by decide) ?_
        refine lv_iadd hx hb dX3_stall_53 ?_
        refine lv_istore (lv' := [(5, .int (x2 + 1)), (4, .int ((r12 - x1) / 10)), (0, .ref a_this), (1, .int x1), (2, .int x2), (3, .int x3)]) hx hb dX3_stall_54 hl (by decide) rfl (fun ls hl => ?_)
        refine lv_iload hx hb dX3_stall_56 (lv_at hl 1 rfl) ?_
        refine lv_iload hx hb dX3_stall_58 (lv_at hl 0 rfl) ?_
        obtain ⟨h14, hf⟩ := gd_some hf
        refine lv_irem hx hb dX3_stall_60 h14 ?_
        refine lv_istore (lv' := [(6, .int (((r12 - x1) / 10) - ((r12 - x1) / 10) / (x2 + 1) * (x2 + 1))), (5, .int (x2 + 1)), (4, .int ((r12 - x1) / 10)), (0, .ref a_this), (1, .int x1), (2, .int x2), (3, .int x3)]) hx hb dX3_stall_61 hl (by decide) rfl (fun ls hl => ?_)
        refine lv_iload hx hb dX3_stall_63 (lv_at hl 2 rfl) ?_
        refine lv_iload hx hb dX3_stall_65 (lv_at hl 1 rfl) ?_
        obtain ⟨h15, hf⟩ := gd_some hf
        refine lv_idiv hx hb dX3_stall_67 h15 ?_
        refine lv_istore (lv' := [(7, .int (((r12 - x1) / 10) / (x2 + 1))), (6, .int (((r12 - x1) / 10) - ((r12 - x1) / 10) / (x2 + 1) * (x2 + 1))), (5, .int (x2 + 1)), (4, .int ((r12 - x1) / 10)), (0, .ref a_this), (1, .int x1), (2, .int x2), (3, .int x3)]) hx hb dX3_stall_68 hl (by decide) rfl (fun ls hl => ?_)
        refine lv_iload_n hx hb dX3_stall_70 rfl (lv_at hl 7 rfl) ?_
        refine lv_if_ne (tgt := 87) hx hb dX3_stall_71 (by decide) (fun c16 => ?_) (fun c16 => ?_)
        · have hf := (if_neg c16).symm.trans hf
          refine lv_iconst (v := 2) hx hb dX3_stall_87 (by decide) ?_
          refine lv_iload hx hb dX3_stall_88 (lv_at hl 0 rfl) ?_
          refine lv_imul hx hb dX3_stall_90 ?_
          refine lv_iload hx hb dX3_stall_91 (lv_at hl 1 rfl) ?_
          refine lv_if_ne (tgt := 100) hx hb dX3_stall_93 (by decide) (fun c17 => ?_) (fun c17 => ?_)
          · have hf := (if_neg c17).symm.trans hf
            refine lv_iconst (v := 2) hx hb dX3_stall_100 (by decide) ?_
            refine lv_iadd hx hb dX3_stall_101 ?_
            cases hf
            subst hQ
            exact k_ri hx hb hr hlocks hP hD hS dX3_stall_102
          · have hf := (if_pos c17).symm.trans hf
            refine lv_iconst (v := 1) hx hb dX3_stall_96 (by decide) ?_
            refine lv_goto (tgt := 101) hx hb dX3_stall_97 (by decide) ?_
            refine lv_iadd hx hb dX3_stall_101 ?_
            cases hf
            subst hQ
            exact k_ri hx hb hr hlocks hP hD hS dX3_stall_102
        · have hf := (if_pos c16).symm.trans hf
          refine lv_iload hx hb dX3_stall_74 (lv_at hl 1 rfl) ?_
          refine lv_if_ne (tgt := 84) hx hb dX3_stall_76 (by decide) (fun c18 => ?_) (fun c18 => ?_)
          · have hf := (if_neg c18).symm.trans hf
            refine lv_iload hx hb dX3_stall_84 (lv_at hl 1 rfl) ?_
            cases hf
            subst hQ
            exact k_ri hx hb hr hlocks hP hD hS dX3_stall_86
          · have hf := (if_pos c18).symm.trans hf
            refine lv_bipush (v := (-6)) hx hb dX3_stall_79 (by decide) ?_
            refine lv_goto (tgt := 86) hx hb dX3_stall_81 (by decide) ?_
            cases hf
            subst hQ
            exact k_ri hx hb hr hlocks hP hD hS dX3_stall_86
      · have hf := (if_pos c11).symm.trans hf
        refine lv_bipush (v := (-2)) hx hb dX3_stall_34 (by decide) ?_
        cases hf
        subst hQ
        exact k_ri hx hb hr hlocks hP hD hS dX3_stall_36
