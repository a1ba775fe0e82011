set_option maxHeartbeats 4000000 in
set_option maxRecDepth 100000 in
theorem kX7_isWithin (l : Launch) (g : qG) (v : Int) (a : Int) (b : Int) (r_v : -2147483648 ≤ v ∧ v ≤ 2147483647) (r_a : -2147483648 ≤ a ∧ a ≤ 2147483647) (r_b : -2147483648 ≤ b ∧ b ≤ 2147483647) : MR l g yX7_isWithin wsX7_isWithin ({ frames := 0, cells := 0, slots := 0, locals := 0 }) [.int (iI v), .int (iI a), .int (iI b)] [] (fun r => r = some (.int (bP (a ≤ v ∧ v ≤ b)))) := by
  refine MR.intro (cc := cX7_isWithin) (maxL := 3) (ret := (some .boolean)) (by decide) rfl (Nat.le_of_ble_eq_true rfl) ?_
  intro p e s m below meth c ls Q ⟨hx, hb, hr, hml, hown, hts, hlocks⟩ hP hE hl hQ
  have hl : lv_has ls 3 [(0, .int (iI v)), (1, .int (iI a)), (2, .int (iI b))] := hl
  refine lv_iload_n hx hb dX7_isWithin_0 rfl (lv_at hl 0 rfl) ?_
  refine lv_iload_n hx hb dX7_isWithin_1 rfl (lv_at hl 1 rfl) ?_
  suffices K_1 : W p l e ({ frames := 0, cells := 0, slots := 0, locals := 0 } : Room) s m ([.int (iI v), .int (iI a), .int (iI b)] : List Value).toArray below meth c s.heap [] 0 0 Q (F0 m 15 ls [.int (bP ((¬ v < a) ∧ (¬ b < v)))]) from by
    refine q_icmp_lt (tgt := 14) hx hb dX7_isWithin_2 (by decide) (by omega) (fun c_2 => ?_) (fun c_2 => ?_)
    · refine lv_iconst (v := iI 0) hx hb dX7_isWithin_14 rfl ?_
      exact q_si (y := bP ((¬ v < a) ∧ (¬ b < v))) (bP_f (by omega)).symm K_1
    · refine lv_iload_n hx hb dX7_isWithin_5 rfl (lv_at hl 0 rfl) ?_
      refine lv_iload_n hx hb dX7_isWithin_6 rfl (lv_at hl 2 rfl) ?_
      refine q_icmp_gt (tgt := 14) hx hb dX7_isWithin_7 (by decide) (by omega) (fun c_3 => ?_) (fun c_3 => ?_)
      · refine lv_iconst (v := iI 0) hx hb dX7_isWithin_14 rfl ?_
        exact q_si (y := bP ((¬ v < a) ∧ (¬ b < v))) (bP_f (by omega)).symm K_1
      · refine lv_iconst (v := iI 1) hx hb dX7_isWithin_10 rfl ?_
        refine lv_goto (tgt := 15) hx hb dX7_isWithin_11 (by decide) ?_
        exact q_si (y := bP ((¬ v < a) ∧ (¬ b < v))) (bP_t (by omega)).symm K_1
  exact qr_z hx hb hr hlocks hQ dX7_isWithin_15 (bP_nar _) (congrArg (fun z => some (Value.int z)) (bP_iff (by omega)))
set_option maxHeartbeats 4000000 in
set_option maxRecDepth 100000 in
theorem kX7_isTray (l : Launch) (g : qG) (v : Int) (r_v : -2147483648 ≤ v ∧ v ≤ 2147483647) : MR l g yX7_isTray wsX7_isTray ({ frames := 1, cells := 0, slots := 0, locals := 22 }) [.int (iI v)] [] (fun r => r = some (.int (bP (0 ≤ v ∧ v ≤ 3)))) := by
  refine MR.intro (cc := cX7_isTray) (maxL := 1) (ret := (some .boolean)) (by decide) rfl (Nat.le_of_ble_eq_true rfl) ?_
  intro p e s m below meth c ls Q ⟨hx, hb, hr, hml, hown, hts, hlocks⟩ hP hE hl hQ
  have hl : lv_has ls 1 [(0, .int (iI v))] := hl
  refine lv_iload_n hx hb dX7_isTray_0 rfl (lv_at hl 0 rfl) ?_
  refine lv_iconst (v := iI 0) hx hb dX7_isTray_1 rfl ?_
  refine lv_iconst (v := iI 3) hx hb dX7_isTray_2 rfl ?_
  refine q_read (rest := []) (q_runRS (As := [.int (iI v), .int (iI 0), .int (iI 3)]) ⟨hx, hb, hml, hown, hts⟩ (kX7_isWithin l g v 0 3 (by omega) (by omega) (by omega)) (va_cwS 3 hts gX7_isTray_X7_isWithin rfl rfl rfl (by decide +kernel) ⟨Nat.le_of_ble_eq_true rfl, Nat.le_of_ble_eq_true rfl⟩) hE (hP.sub (ws' := []) [] rfl) rfl hl.1 (Nat.le_of_ble_eq_true rfl) dX7_isTray_3 ⟨Nat.zero_le _, Nat.zero_le _⟩) (fun r_ hq_1 => ?_)
  obtain rfl := hq_1
  refine W.eq (g2 := F0 m 6 ls [.int (bP (0 ≤ v ∧ v ≤ 3))]) rfl ?_
  exact qr_z hx hb hr hlocks hQ dX7_isTray_6 (bP_nar _) (rfl)
set_option maxHeartbeats 4000000 in
set_option maxRecDepth 100000 in
theorem kX7_isLayer (l : Launch) (g : qG) (v : Int) (r_v : -2147483648 ≤ v ∧ v ≤ 2147483647) : MR l g yX7_isLayer wsX7_isLayer ({ frames := 1, cells := 0, slots := 0, locals := 22 }) [.int (iI v)] [] (fun r => r = some (.int (bP (0 ≤ v ∧ v ≤ 3)))) := by
  refine MR.intro (cc := cX7_isLayer) (maxL := 1) (ret := (some .boolean)) (by decide) rfl (Nat.le_of_ble_eq_true rfl) ?_
  intro p e s m below meth c ls Q ⟨hx, hb, hr, hml, hown, hts, hlocks⟩ hP hE hl hQ
  have hl : lv_has ls 1 [(0, .int (iI v))] := hl
  refine lv_iload_n hx hb dX7_isLayer_0 rfl (lv_at hl 0 rfl) ?_
  refine lv_iconst (v := iI 0) hx hb dX7_isLayer_1 rfl ?_
  refine lv_iconst (v := iI 3) hx hb dX7_isLayer_2 rfl ?_
  refine q_read (rest := []) (q_runRS (As := [.int (iI v), .int (iI 0), .int (iI 3)]) ⟨hx, hb, hml, hown, hts⟩ (kX7_isWithin l g v 0 3 (by omega) (by omega) (by omega)) (va_cwS 3 hts gX7_isLayer_X7_isWithin rfl rfl rfl (by decide +kernel) ⟨Nat.le_of_ble_eq_true rfl, Nat.le_of_ble_eq_true rfl⟩) hE (hP.sub (ws' := []) [] rfl) rfl hl.1 (Nat.le_of_ble_eq_true rfl) dX7_isLayer_3 ⟨Nat.zero_le _, Nat.zero_le _⟩) (fun r_ hq_1 => ?_)
  obtain rfl := hq_1
  refine W.eq (g2 := F0 m 6 ls [.int (bP (0 ≤ v ∧ v ≤ 3))]) rfl ?_
  exact qr_z hx hb hr hlocks hQ dX7_isLayer_6 (bP_nar _) (rfl)
set_option maxHeartbeats 4000000 in
set_option maxRecDepth 100000 in
theorem kX7_isMinute (l : Launch) (g : qG) (v : Int) (r_v : -2147483648 ≤ v ∧ v ≤ 2147483647) : MR l g yX7_isMinute wsX7_isMinute ({ frames := 1, cells := 0, slots := 0, locals := 22 }) [.int (iI v)] [] (fun r => r = some (.int (bP (0 ≤ v ∧ v ≤ 10000)))) := by
  refine MR.intro (cc := cX7_isMinute) (maxL := 1) (ret := (some .boolean)) (by decide) rfl (Nat.le_of_ble_eq_true rfl) ?_
  intro p e s m below meth c ls Q ⟨hx, hb, hr, hml, hown, hts, hlocks⟩ hP hE hl hQ
  have hl : lv_has ls 1 [(0, .int (iI v))] := hl
  refine lv_iload_n hx hb dX7_isMinute_0 rfl (lv_at hl 0 rfl) ?_
  refine lv_iconst (v := iI 0) hx hb dX7_isMinute_1 rfl ?_
  refine lv_sipush (v := iI 10000) hx hb dX7_isMinute_2 (by decide) ?_
  refine q_read (rest := []) (q_runRS (As := [.int (iI v), .int (iI 0), .int (iI 10000)]) ⟨hx, hb, hml, hown, hts⟩ (kX7_isWithin l g v 0 10000 (by omega) (by omega) (by omega)) (va_cwS 3 hts gX7_isMinute_X7_isWithin rfl rfl rfl (by decide +kernel) ⟨Nat.le_of_ble_eq_true rfl, Nat.le_of_ble_eq_true rfl⟩) hE (hP.sub (ws' := []) [] rfl) rfl hl.1 (Nat.le_of_ble_eq_true rfl) dX7_isMinute_5 ⟨Nat.zero_le _, Nat.zero_le _⟩) (fun r_ hq_1 => ?_)
  obtain rfl := hq_1
  refine W.eq (g2 := F0 m 8 ls [.int (bP (0 ≤ v ∧ v ≤ 10000))]) rfl ?_
  exact qr_z hx hb hr hlocks hQ dX7_isMinute_8 (bP_nar _) (rfl)
set_option maxHeartbeats 4000000 in
set_option maxRecDepth 100000 in
theorem kX0_clear (l : Launch) (g : qG) (q0 : Nat) (ov : Int) (un : Int)  : ME l g yX0_clear wsX0_clear ({ frames := 0, cells := 0, slots := 0, locals := 0 }) [.ref q0] [(q0, .inr (0, [.long (jI ov), .long (jI un)]))] (fun r w1 => r = none ∧ w1 = [(q0, .inr (0, [.long (jI 0), .long (jI 1)]))]) := by
  refine ME.intro (cc := cX0_clear) (maxL := 1) (ret := none) (by decide) rfl (Nat.le_of_ble_eq_true rfl) ?_
  intro p e s m below meth c ls Q A H locs ⟨hx, hb, hr, hml, hown, hts, hlocks⟩ hP hE hl hD hA hS hQ
  have hl : lv_has ls 1 [(0, .ref q0)] := hl
  have iwX0 : ∀ w ∈ wsX00, w ∈ wsX0_clear := (fun _ h => List.mem_cons_of_mem _ (List.mem_append_right _ h))
  refine lv_aload_n hx hb dX0_clear_0 rfl (lv_at hl 0 rfl) ?_
  refine lv_lconst (v := jI 0) hx hb dX0_clear_1 (by decide) ?_
  refine va_put (D := g.1) (ci := 0) (v := .long (jI 0)) (ty := .long) (C := RX0) (T := TX0) (N := 2) hx hb hts iwX0 tyX0 tyX0_ok nmX0 hown hE.1 hP hD hS 0 rfl rfl 0 (by decide) (hts (.fieldLink RX0 7 "QuickCount$Fraction" "over" "J") (List.mem_cons_of_mem _ (List.mem_append_left _ (List.mem_of_getElem? (i := 0) rfl)))) (fun _ h9 => h9) rfl (by decide +kernel) rfl rfl (Nat.le_of_ble_eq_true rfl) dX0_clear_2 (fun H locs hP hD hS => ?_)
  have hP : va_P g.1 vwCl [(q0, .inr (0, [.long (jI 0), .long (jI un)]))] H := hP
  have hD : va_D A [(q0, .inr (0, [.long (jI 0), .long (jI un)]))] := hD
  refine lv_aload_n hx hb dX0_clear_5 rfl (lv_at hl 0 rfl) ?_
  refine lv_lconst (v := jI 1) hx hb dX0_clear_6 (by decide) ?_
  refine va_put (D := g.1) (ci := 0) (v := .long (jI 1)) (ty := .long) (C := RX0) (T := TX0) (N := 2) hx hb hts iwX0 tyX0 tyX0_ok nmX0 hown hE.1 hP hD hS 0 rfl rfl 1 (by decide) (hts (.fieldLink RX0 13 "QuickCount$Fraction" "under" "J") (List.mem_cons_of_mem _ (List.mem_append_left _ (List.mem_of_getElem? (i := 1) rfl)))) (fun _ h9 => h9) rfl (by decide +kernel) rfl rfl (Nat.le_of_ble_eq_true rfl) dX0_clear_7 (fun H locs hP hD hS => ?_)
  have hP : va_P g.1 vwCl [(q0, .inr (0, [.long (jI 0), .long (jI 1)]))] H := hP
  have hD : va_D A [(q0, .inr (0, [.long (jI 0), .long (jI 1)]))] := hD
  exact qe_v hx hb hr hlocks hQ hS dX0_clear_10 hP hD (⟨rfl, rfl⟩)
set_option maxHeartbeats 4000000 in
set_option maxRecDepth 100000 in
theorem kX0_sign (l : Launch) (g : qG) (q0 : Nat) (ov : Int) (un : Int) (r_ov : -9223372036854775808 ≤ ov ∧ ov ≤ 9223372036854775807) : MR l g yX0_sign wsX0_sign ({ frames := 0, cells := 0, slots := 0, locals := 0 }) [.ref q0] [(q0, .inr (0, [.long (jI ov), .long (jI un)]))] (fun r => r = some (.int (iI (if 0 < ov then 1 else if ov < 0 then -1 else 0)))) := by
  refine MR.intro (cc := cX0_sign) (maxL := 1) (ret := (some .int)) (by decide) rfl (Nat.le_of_ble_eq_true rfl) ?_
  intro p e s m below meth c ls Q ⟨hx, hb, hr, hml, hown, hts, hlocks⟩ hP hE hl hQ
  have hl : lv_has ls 1 [(0, .ref q0)] := hl
  have iwX0 : ∀ w ∈ wsX00, w ∈ wsX0_sign := (fun _ h => List.mem_cons_of_mem _ (List.mem_append_right _ h))
  refine lv_aload_n hx hb dX0_sign_0 rfl (lv_at hl 0 rfl) ?_
  refine va_get (D := g.1) (ci := 0) (v := .long (jI ov)) (C := RX0) (T := TX0) (N := 2) hx hb hts iwX0 hown hE.1 hP 0 rfl rfl 0 (by decide) (hts (.fieldLink RX0 7 "QuickCount$Fraction" "over" "J") (List.mem_cons_of_mem _ (List.mem_append_left _ (List.mem_of_getElem? (i := 0) rfl)))) (fun _ h9 => h9) rfl dX0_sign_1 ?_
  refine lv_lconst (v := jI 0) hx hb dX0_sign_4 (by decide) ?_
  refine q_lif_le (tgt := 13) hx hb dX0_sign_5 dX0_sign_6 (by decide) (by omega) (fun c_1 => ?_) (fun c_1 => ?_)
  · refine lv_aload_n hx hb dX0_sign_13 rfl (lv_at hl 0 rfl) ?_
    refine va_get (D := g.1) (ci := 0) (v := .long (jI ov)) (C := RX0) (T := TX0) (N := 2) hx hb hts iwX0 hown hE.1 hP 0 rfl rfl 0 (by decide) (hts (.fieldLink RX0 7 "QuickCount$Fraction" "over" "J") (List.mem_cons_of_mem _ (List.mem_append_left _ (List.mem_of_getElem? (i := 0) rfl)))) (fun _ h9 => h9) rfl dX0_sign_14 ?_
    refine lv_lconst (v := jI 0) hx hb dX0_sign_17 (by decide) ?_
    refine q_lif_ge (tgt := 26) hx hb dX0_sign_18 dX0_sign_19 (by decide) (by omega) (fun c_2 => ?_) (fun c_2 => ?_)
    · refine lv_iconst (v := iI 0) hx hb dX0_sign_26 rfl ?_
      exact qr_i hx hb hr hlocks hQ dX0_sign_27 (congrArg (fun z => some (Value.int (iI z))) (by (repeat' split) <;> omega))
    · refine lv_iconst (v := iI (-1)) hx hb dX0_sign_22 rfl ?_
      refine lv_goto (tgt := 27) hx hb dX0_sign_23 (by decide) ?_
      exact qr_i hx hb hr hlocks hQ dX0_sign_27 (congrArg (fun z => some (Value.int (iI z))) (by (repeat' split) <;> omega))
  · refine lv_iconst (v := iI 1) hx hb dX0_sign_9 rfl ?_
    refine lv_goto (tgt := 27) hx hb dX0_sign_10 (by decide) ?_
    exact qr_i hx hb hr hlocks hQ dX0_sign_27 (congrArg (fun z => some (Value.int (iI z))) (by (repeat' split) <;> omega))
