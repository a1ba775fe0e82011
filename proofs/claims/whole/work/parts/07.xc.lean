-- the greatest common divisor by at most 200 rests
def gInv (k : Nat) (X Y : Int) : Prop := X * Y * 2 ^ k ≤ 2 ^ 127 ∧ (Y ≤ X ∨ (k = 0 ∧ X * Y ≤ 2 ^ 126))
theorem gI_0 {x y : Int} (hx : 0 ≤ x ∧ x ≤ 9223372036854775807) (hy : 0 ≤ y ∧ y ≤ 9223372036854775807) : gInv 0 x y := by
  have h1 : x * y ≤ 9223372036854775807 * 9223372036854775807 := Int.mul_le_mul hx.2 hy.2 hy.1 (by decide)
  have h2 : (9223372036854775807 * 9223372036854775807 : Int) ≤ 2 ^ 126 := by decide
  have h3 : (2 ^ 126 : Int) ≤ 2 ^ 127 := by decide
  refine ⟨?_, Or.inr ⟨rfl, by omega⟩⟩
  rw [Int.pow_zero, Int.mul_one]; omega
theorem gI_s {k : Nat} {X Y : Int} (hX : 0 ≤ X) (hY : 0 < Y) (h : gInv k X Y) : gInv (k + 1) Y (X % Y) := by
  have r0 := Int.emod_nonneg X (show Y ≠ 0 by omega)
  have r1 := Int.emod_lt_of_pos X hY
  refine ⟨?_, Or.inl (by omega)⟩
  have hp : (0 : Int) ≤ 2 ^ k := Int.pow_nonneg (by decide)
  rcases h.2 with q | ⟨q, q2⟩
  · have e1 : 2 * (X % Y) ≤ X := by
      have e := Int.mul_ediv_add_emod X Y
      have d1 : 1 ≤ X / Y := by
        have := Int.ediv_le_ediv hY q
        rwa [Int.ediv_self (by omega)] at this
      have d2 : Y * 1 ≤ Y * (X / Y) := Int.mul_le_mul_of_nonneg_left d1 (by omega)
      omega
    have e2 : Y * (2 * (X % Y)) ≤ Y * X := Int.mul_le_mul_of_nonneg_left e1 (by omega)
    have e3 : Y * (2 * (X % Y)) * 2 ^ k ≤ Y * X * 2 ^ k := Int.mul_le_mul_of_nonneg_right e2 hp
    have e4 : Y * (X % Y) * 2 ^ (k + 1) = Y * (2 * (X % Y)) * 2 ^ k := by rw [Int.pow_succ]; ac_rfl
    have e5 : Y * X * 2 ^ k = X * Y * 2 ^ k := by rw [Int.mul_comm Y X]
    rw [e4]; exact Int.le_trans e3 (by rw [e5]; exact h.1)
  · subst q
    rcases (show X < Y ∨ Y ≤ X by omega) with z | z
    · rw [Int.emod_eq_of_lt hX z, Int.mul_comm Y X]
      have e : X * Y * 2 ^ (0 + 1) ≤ 2 ^ 126 * 2 := by
        show X * Y * 2 ≤ _
        omega
      exact Int.le_trans e (by decide)
    · have e0 : X % Y ≤ X := by
        have e := Int.mul_ediv_add_emod X Y
        have d1 : 0 ≤ X / Y := Int.ediv_nonneg hX (by omega)
        have d2 : 0 ≤ Y * (X / Y) := Int.mul_nonneg (by omega) d1
        omega
      have e2 : Y * (X % Y) ≤ Y * X := Int.mul_le_mul_of_nonneg_left e0 (by omega)
      have e3 : Y * X = X * Y := Int.mul_comm Y X
      have e4 : Y * (X % Y) * 2 ^ (0 + 1) ≤ 2 ^ 126 * 2 := by
        show Y * (X % Y) * 2 ≤ _
        omega
      exact Int.le_trans e4 (by decide)
theorem gI_e {k : Nat} {X Y : Int} {G : Nat} (hc : Y = 0 ∨ 200 ≤ k) (hk : k ≤ 200) (hX : 0 ≤ X) (hY : 0 ≤ Y) (h : gInv k X Y) (hg : Int.gcd X Y = G) : X = (G : Int) := by
  have hY0 : Y = 0 := by
    rcases hc with q | q
    · exact q
    · have ek : k = 200 := by omega
      subst ek
      rcases (show 0 < Y ∨ Y ≤ 0 by omega) with z | z
      · exfalso
        have hX1 : 1 ≤ X := by
          rcases h.2 with w | ⟨w, -⟩
          · omega
          · omega
        have e1 : 1 * 1 ≤ X * Y := Int.mul_le_mul hX1 (by omega) (by decide) (by omega)
        have e2 : 1 * 2 ^ 200 ≤ X * Y * 2 ^ 200 := Int.mul_le_mul_of_nonneg_right (by omega) (by decide)
        have e3 := Int.le_trans e2 h.1
        exact absurd e3 (by decide)
      · omega
  subst hY0
  rw [Int.gcd_zero_right] at hg
  omega
theorem gI_g {X Y : Int} (hX : 0 ≤ X) (hY : 0 < Y) : Int.gcd Y (X % Y) = Int.gcd X Y := by
  rw [Int.gcd_comm X Y]
  have e : X % Y = X - Y * (X / Y) := Int.emod_def X Y
  rw [e]
  exact Int.gcd_sub_mul_left_right ..
theorem gI_r {X Y M : Int} (hX : 0 ≤ X ∧ X ≤ M) (hY : 0 < Y) (hY2 : Y ≤ M) : (0 ≤ Y ∧ Y ≤ M) ∧ 0 ≤ X % Y ∧ X % Y ≤ M := by
  have r0 := Int.emod_nonneg X (show Y ≠ 0 by omega)
  have r1 := Int.emod_lt_of_pos X hY
  omega
-- fractions without a common divisor
def redN (n d : Int) : Int := n / (Int.gcd n d : Int)
def redD (n d : Int) : Int := d / (Int.gcd n d : Int)
theorem red_t {n d : Int} : n.tdiv (Int.gcd n d : Int) = redN n d := Int.tdiv_eq_ediv_of_dvd (Int.gcd_dvd_left ..)
theorem red_u {n d : Int} : d.tdiv (Int.gcd n d : Int) = redD n d := Int.tdiv_eq_ediv_of_dvd (Int.gcd_dvd_right ..)
theorem red_0 {d : Int} (h : 0 < d) : redN 0 d = 0 ∧ redD 0 d = 1 := by
  unfold redN redD
  rw [Int.gcd_zero_left]
  refine ⟨by simp, ?_⟩
  rw [show ((d.natAbs : Int)) = d by omega]
  exact Int.ediv_self (by omega)
def addN (ov un tp bt : Int) : Int := ov * (bt / (Int.gcd un bt : Int)) + tp * (un / (Int.gcd un bt : Int))
def addD (un bt : Int) : Int := un / (Int.gcd un bt : Int) * bt
theorem addN_t {ov un tp bt : Int} : ov * bt.tdiv (Int.gcd un bt : Int) + tp * un.tdiv (Int.gcd un bt : Int) = addN ov un tp bt := by
  rw [Int.tdiv_eq_ediv_of_dvd (Int.gcd_dvd_right ..), Int.tdiv_eq_ediv_of_dvd (Int.gcd_dvd_left ..)]; rfl
theorem addD_t {un bt : Int} : un.tdiv (Int.gcd un bt : Int) * bt = addD un bt := by
  rw [Int.tdiv_eq_ediv_of_dvd (Int.gcd_dvd_left ..)]; rfl

set_option maxHeartbeats 4000000 in
set_option maxRecDepth 100000 in
theorem kX0_sharedDivisor (l : Launch) (g : qG) (x : Int) (y : Int) (h_x : 0 ≤ x ∧ x ≤ 9223372036854775807) (h_y : 0 ≤ y ∧ y ≤ 9223372036854775807) : MR l g yX0_sharedDivisor wsX0_sharedDivisor ({ frames := 0, cells := 0, slots := 0, locals := 0 }) [.long (jI x), .long (jI y)] [] (fun r => r = some (.long (jI (Int.gcd x y : Int)))) := by
  refine MR.intro (cc := cX0_sharedDivisor) (maxL := 11) (ret := (some .long)) (by decide) rfl (Nat.le_of_ble_eq_true rfl) ?_
  intro p e s m below meth c ls Q ⟨hx, hb, hr, hml, hown, hts, hlocks⟩ hP hE hl hQ
  have hl : lv_has ls 11 [(0, .long (jI x)), (2, .long (jI y))] := hl
  refine lv_lload_n hx hb dX0_sharedDivisor_0 rfl (lv_at hl 0 rfl) ?_
  refine lv_lstore (lv' := [(4, .long (jI x)), (0, .long (jI x)), (2, .long (jI y))]) hx hb dX0_sharedDivisor_1 hl (by decide) rfl (fun ls hl => ?_)
  refine lv_lload_n hx hb dX0_sharedDivisor_3 rfl (lv_at hl 2 rfl) ?_
  refine lv_lstore (lv' := [(6, .long (jI y)), (4, .long (jI x)), (0, .long (jI x)), (2, .long (jI y))]) hx hb dX0_sharedDivisor_4 hl (by decide) rfl (fun ls hl => ?_)
  refine lv_iconst (v := iI 0) hx hb dX0_sharedDivisor_6 rfl ?_
  refine lv_istore (lv' := [(8, .int (iI 0)), (6, .long (jI y)), (4, .long (jI x)), (0, .long (jI x)), (2, .long (jI y))]) hx hb dX0_sharedDivisor_7 hl (by decide) rfl (fun ls hl => ?_)
  have K_1 : ∀ (fu_3 : Nat) (k : Nat) (i : Int) (X : Int) (Y : Int), (i = (k : Int)) → (k ≤ 200) → (0 ≤ X ∧ X ≤ 9223372036854775807) → (0 ≤ Y ∧ Y ≤ 9223372036854775807) → (Int.gcd X Y = Int.gcd x y) → (gInv k X Y) → 200 - k < fu_3 → ∀ (ls : Array Slot), lv_has ls 11 [(8, .int (iI i)), (6, .long (jI Y)), (4, .long (jI X)), (0, .long (jI x)), (2, .long (jI y))] → W p l e ({ frames := 0, cells := 0, slots := 0, locals := 0 } : Room) s m ([.long (jI x), .long (jI y)] : List Value).toArray below meth c s.heap [] 0 0 Q (F0 m 9 ls []) := by
    intro fu_3
    induction fu_3 with
    | zero => exact fun _ _ _ _ _ _ _ _ _ _ q => absurd q (Nat.not_lt_zero _)
    | succ fu_3 ih_2 =>
      intro k i X Y e_i h_k h_X h_Y h_g h_m hm_4 ls hl
      refine lv_iload hx hb dX0_sharedDivisor_9 (lv_at hl 0 rfl) ?_
      refine lv_sipush (v := iI 200) hx hb dX0_sharedDivisor_11 (by decide) ?_
      refine q_icmp_ge (tgt := 45) hx hb dX0_sharedDivisor_14 (by decide) (by omega) (fun c_5 => ?_) (fun c_5 => ?_)
      · refine lv_lload hx hb dX0_sharedDivisor_45 (lv_at hl 2 rfl) ?_
        exact qr_l hx hb hr hlocks hQ dX0_sharedDivisor_47 (congrArg (fun z => some (Value.long (jI z))) (gI_e (by omega) h_k h_X.1 h_Y.1 h_m h_g))
      · refine lv_lload hx hb dX0_sharedDivisor_17 (lv_at hl 1 rfl) ?_
        refine lv_lconst (v := jI 0) hx hb dX0_sharedDivisor_19 (by decide) ?_
        refine q_lif_eq (tgt := 45) hx hb dX0_sharedDivisor_20 dX0_sharedDivisor_21 (by decide) (by omega) (fun c_6 => ?_) (fun c_6 => ?_)
        · refine lv_lload hx hb dX0_sharedDivisor_45 (lv_at hl 2 rfl) ?_
          exact qr_l hx hb hr hlocks hQ dX0_sharedDivisor_47 (congrArg (fun z => some (Value.long (jI z))) (gI_e (by omega) h_k h_X.1 h_Y.1 h_m h_g))
        · refine lv_lload hx hb dX0_sharedDivisor_24 (lv_at hl 2 rfl) ?_
          refine lv_lload hx hb dX0_sharedDivisor_26 (lv_at hl 1 rfl) ?_
          refine q_lremN hx hb dX0_sharedDivisor_28 (by omega) ?_
          refine lv_lstore (lv' := [(9, .long (jI (X % Y))), (8, .int (iI i)), (6, .long (jI Y)), (4, .long (jI X)), (0, .long (jI x)), (2, .long (jI y))]) hx hb dX0_sharedDivisor_29 hl (by decide) rfl (fun ls hl => ?_)
          refine lv_lload hx hb dX0_sharedDivisor_31 (lv_at hl 2 rfl) ?_
          refine lv_lstore (lv' := [(4, .long (jI Y)), (9, .long (jI (X % Y))), (8, .int (iI i)), (6, .long (jI Y)), (0, .long (jI x)), (2, .long (jI y))]) hx hb dX0_sharedDivisor_33 hl (by decide) rfl (fun ls hl => ?_)
          refine lv_lload hx hb dX0_sharedDivisor_35 (lv_at hl 1 rfl) ?_
          refine lv_lstore (lv' := [(6, .long (jI (X % Y))), (4, .long (jI Y)), (9, .long (jI (X % Y))), (8, .int (iI i)), (0, .long (jI x)), (2, .long (jI y))]) hx hb dX0_sharedDivisor_37 hl (by decide) rfl (fun ls hl => ?_)
          refine lv_iinc (v := (iI (i + 1))) (lv' := [(8, .int (iI (i + 1))), (6, .long (jI (X % Y))), (4, .long (jI Y)), (9, .long (jI (X % Y))), (0, .long (jI x)), (2, .long (jI y))]) hx hb dX0_sharedDivisor_39 hl (k := 3) rfl (iI_add _ _) (by decide) rfl (fun ls hl => ?_)
          refine lv_goto (tgt := 9) hx hb dX0_sharedDivisor_42 (by decide) ?_
          exact ih_2  (k + 1) (i + 1) Y (X % Y) (by omega) (by omega) ((gI_r h_X (by omega) h_Y.2).1) ((gI_r h_X (by omega) h_Y.2).2) ((gI_g h_X.1 (by omega)).trans h_g) (gI_s h_X.1 (by omega) h_m) (by omega) ls (lv_sub hl [0, 1, 2, 4, 5] rfl)
  exact K_1 (200 - 0 + 1) 0 0 x y (rfl) (by omega) (h_x) (h_y) (rfl) (gI_0 h_x h_y) (Nat.lt_succ_self _) ls (lv_sub hl [0, 1, 2, 3, 4] rfl)
set_option maxHeartbeats 4000000 in
set_option maxRecDepth 100000 in
theorem kX0_put (l : Launch) (g : qG) (q0 : Nat) (ov : Int) (un : Int) (tp : Int) (bt : Int) (h_tp : -9223372036854775808 < tp ∧ tp ≤ 9223372036854775807) (h_bt : 0 < bt ∧ bt ≤ 9223372036854775807) : ME l g yX0_put wsX0_put ({ frames := 1, cells := 0, slots := 0, locals := 30 }) [.ref q0, .long (jI tp), .long (jI bt)] [(q0, .inr (0, [.long (jI ov), .long (jI un)]))] (fun r w1 => r = none ∧ w1 = [(q0, .inr (0, [.long (jI (redN tp bt)), .long (jI (redD tp bt))]))]) := by
  refine ME.intro (cc := cX0_put) (maxL := 7) (ret := none) (by decide) rfl (Nat.le_of_ble_eq_true rfl) ?_
  intro p e s m below meth c ls Q A H locs ⟨hx, hb, hr, hml, hown, hts, hlocks⟩ hP hE hl hD hA hS hQ
  have hl : lv_has ls 7 [(0, .ref q0), (1, .long (jI tp)), (3, .long (jI bt))] := hl
  have iwX0 : ∀ w ∈ wsX00, w ∈ wsX0_put := (fun _ h => List.mem_cons_of_mem _ (List.mem_append_right _ h))
  have h_g : 0 < Int.gcd tp bt ∧ ((Int.gcd tp bt : Nat) : Int) ≤ bt := ⟨Int.gcd_pos_of_ne_zero_right _ (by omega), Int.le_of_dvd (by omega) (Int.gcd_dvd_right ..)⟩
  have e_g : Int.gcd (tp.natAbs : Int) bt = Int.gcd tp bt := by rw [Int.gcd_eq_natAbs_gcd_natAbs, Int.gcd_eq_natAbs_gcd_natAbs, Int.natAbs_natCast]
  refine lv_lload_n hx hb dX0_put_0 rfl (lv_at hl 1 rfl) ?_
  refine va_mabs_long hx hb (hml.trans hl.1.symm) hown (hts (.methodLink RX0 16 Lib.MathLoose.abs_long.x) (List.mem_cons_of_mem _ (List.mem_append_left _ (List.mem_of_getElem? (i := 0) rfl)))) (hts (.static Lib.MathLoose.abs_long.x) (List.mem_cons_of_mem _ (List.mem_append_left _ (List.mem_of_getElem? (i := 1) rfl)))) (hts (.initialized "java/lang/Math") (List.mem_cons_of_mem _ (List.mem_append_left _ (List.mem_of_getElem? (i := 2) rfl)))) (hts (.code Lib.MathLoose.abs_long.x Lib.MathLoose.abs_long.code 2 (some .long)) (List.mem_cons_of_mem _ (List.mem_append_left _ (List.mem_of_getElem? (i := 3) rfl)))) (Nat.le_of_ble_eq_true rfl) (Nat.le_of_ble_eq_true rfl) (Nat.zero_le _) (Nat.zero_le _) dX0_put_1 ?_
  refine q_sl (y := jI ((tp).natAbs : Int)) (jI_abs (by omega)) ?_
  refine lv_lload_n hx hb dX0_put_4 rfl (lv_at hl 2 rfl) ?_
  refine q_read (rest := []) (q_runRS (As := [.long (jI ((tp).natAbs : Int)), .long (jI bt)]) ⟨hx, hb, hml, hown, hts⟩ (kX0_sharedDivisor l g ((tp).natAbs : Int) bt (by omega) (by omega)) (va_cwS 2 hts gX0_put_X0_sharedDivisor rfl rfl rfl (by decide +kernel) ⟨Nat.le_of_ble_eq_true rfl, Nat.le_of_ble_eq_true rfl⟩) hE (hP.sub (ws' := []) [] rfl) rfl hl.1 (Nat.le_of_ble_eq_true rfl) dX0_put_5 ⟨Nat.zero_le _, Nat.zero_le _⟩) (fun r_ hq_1 => ?_)
  obtain rfl := hq_1
  refine W.eq (g2 := F0 m 8 ls [.long (jI (Int.gcd ((tp).natAbs : Int) bt : Int))]) rfl ?_
  refine q_sl (y := (jI ((Int.gcd tp bt : Nat) : Int))) (by rw [e_g]) ?_
  refine lv_lstore (lv' := [(5, .long (jI ((Int.gcd tp bt : Nat) : Int))), (0, .ref q0), (1, .long (jI tp)), (3, .long (jI bt))]) hx hb dX0_put_8 hl (by decide) rfl (fun ls hl => ?_)
  refine lv_lload_n hx hb dX0_put_10 rfl (lv_at hl 2 rfl) ?_
  refine lv_lconst (v := jI 0) hx hb dX0_put_11 (by decide) ?_
  refine q_lif_eq (tgt := 29) hx hb dX0_put_12 dX0_put_13 (by decide) (by omega) (fun c_2 => ?_) (fun c_2 => ?_)
  · refine lv_aload_n hx hb dX0_put_29 rfl (lv_at hl 1 rfl) ?_
    refine q_call (rest := []) (wr := []) (q_runEV (As := []) ⟨hx, hb, hml, hown, hts⟩ (kX0_clear l g q0 ov un ) (cwV 0 hts gX0_put_X0_clear rfl rfl rfl (by decide +kernel) ⟨Nat.le_of_ble_eq_true rfl, Nat.le_of_ble_eq_true rfl⟩) (va_recv hE.1 hP (ci := 0) (q0 := 0) rfl rfl) hE (hP.sub (ws' := [(q0, .inr (0, [.long (jI ov), .long (jI un)]))]) [0] rfl) (hD.sub (ws' := [(q0, .inr (0, [.long (jI ov), .long (jI un)]))]) [0] (by decide) rfl) rfl hl.1 (Nat.le_of_ble_eq_true rfl) dX0_put_30 ⟨Nat.zero_le _, Nat.zero_le _⟩) hP hD hS hA [0] [] rfl rfl (by decide) (by decide) (fun r_ w_ H locs hq_3 hP hD hS => ?_)
    obtain ⟨rfl, rfl⟩ := hq_3
    have hP : va_P g.1 vwCl [(q0, .inr (0, [.long (jI 0), .long (jI 1)]))] H := hP
    have hD : va_D A [(q0, .inr (0, [.long (jI 0), .long (jI 1)]))] := hD
    refine W.eq (g2 := F0 m 33 ls []) rfl ?_
    refine lv_goto (tgt := 52) hx hb dX0_put_33 (by decide) ?_
    exact qe_v hx hb hr hlocks hQ hS dX0_put_52 hP hD (⟨rfl, by first | rfl | (subst_vars; rw [(red_0 h_bt.1).1, (red_0 h_bt.1).2])⟩)
  · refine lv_lload_n hx hb dX0_put_16 rfl (lv_at hl 3 rfl) ?_
    refine lv_lconst (v := jI 0) hx hb dX0_put_17 (by decide) ?_
    refine q_lif_le (tgt := 29) hx hb dX0_put_18 dX0_put_19 (by decide) (by omega) (fun c_4 => ?_) (fun c_4 => ?_)
    · exact absurd c_4 (by omega)
    · refine lv_lload hx hb dX0_put_22 (lv_at hl 0 rfl) ?_
      refine lv_lconst (v := jI 0) hx hb dX0_put_24 (by decide) ?_
      refine q_lif_gt (tgt := 36) hx hb dX0_put_25 dX0_put_26 (by decide) (by omega) (fun c_5 => ?_) (fun c_5 => ?_)
      · refine lv_aload_n hx hb dX0_put_36 rfl (lv_at hl 1 rfl) ?_
        refine lv_lload_n hx hb dX0_put_37 rfl (lv_at hl 2 rfl) ?_
        refine lv_lload hx hb dX0_put_38 (lv_at hl 0 rfl) ?_
        refine q_ldiv hx hb dX0_put_40 (by omega) (by omega) ?_
        refine q_sl (y := (jI (redN tp bt))) (by rw [red_t]) ?_
        refine va_put (D := g.1) (ci := 0) (v := .long (jI (redN tp bt))) (ty := .long) (C := RX0) (T := TX0) (N := 2) hx hb hts iwX0 tyX0 tyX0_ok nmX0 hown hE.1 hP hD hS 0 rfl rfl 0 (by decide) (hts (.fieldLink RX0 7 "QuickCount$Fraction" "over" "J") (List.mem_cons_of_mem _ (List.mem_append_left _ (List.mem_of_getElem? (i := 4) rfl)))) (fun _ h9 => h9) rfl (by decide +kernel) rfl rfl (Nat.le_of_ble_eq_true rfl) dX0_put_41 (fun H locs hP hD hS => ?_)
        have hP : va_P g.1 vwCl [(q0, .inr (0, [.long (jI (redN tp bt)), .long (jI un)]))] H := hP
        have hD : va_D A [(q0, .inr (0, [.long (jI (redN tp bt)), .long (jI un)]))] := hD
        refine lv_aload_n hx hb dX0_put_44 rfl (lv_at hl 1 rfl) ?_
        refine lv_lload_n hx hb dX0_put_45 rfl (lv_at hl 3 rfl) ?_
        refine lv_lload hx hb dX0_put_46 (lv_at hl 0 rfl) ?_
        refine q_ldiv hx hb dX0_put_48 (by omega) (by omega) ?_
        refine q_sl (y := (jI (redD tp bt))) (by rw [red_u]) ?_
        refine va_put (D := g.1) (ci := 0) (v := .long (jI (redD tp bt))) (ty := .long) (C := RX0) (T := TX0) (N := 2) hx hb hts iwX0 tyX0 tyX0_ok nmX0 hown hE.1 hP hD hS 0 rfl rfl 1 (by decide) (hts (.fieldLink RX0 13 "QuickCount$Fraction" "under" "J") (List.mem_cons_of_mem _ (List.mem_append_left _ (List.mem_of_getElem? (i := 5) rfl)))) (fun _ h9 => h9) rfl (by decide +kernel) rfl rfl (Nat.le_of_ble_eq_true rfl) dX0_put_49 (fun H locs hP hD hS => ?_)
        have hP : va_P g.1 vwCl [(q0, .inr (0, [.long (jI (redN tp bt)), .long (jI (redD tp bt))]))] H := hP
        have hD : va_D A [(q0, .inr (0, [.long (jI (redN tp bt)), .long (jI (redD tp bt))]))] := hD
        exact qe_v hx hb hr hlocks hQ hS dX0_put_52 hP hD (⟨rfl, by first | rfl | (subst_vars; rw [(red_0 h_bt.1).1, (red_0 h_bt.1).2])⟩)
      · exact absurd c_5 (by omega)
set_option maxHeartbeats 4000000 in
set_option maxRecDepth 100000 in
theorem kX0_add (l : Launch) (g : qG) (q0 : Nat) (ov : Int) (un : Int) (tp : Int) (bt : Int) (h_un : 0 < un ∧ un ≤ 9223372036854775807) (h_bt : 0 < bt ∧ bt ≤ 9223372036854775807) (h_n : -9223372036854775808 < addN ov un tp bt ∧ addN ov un tp bt ≤ 9223372036854775807) (h_d : 0 < addD un bt ∧ addD un bt ≤ 9223372036854775807) : ME l g yX0_add wsX0_add ({ frames := 2, cells := 0, slots := 0, locals := 56 }) [.ref q0, .long (jI tp), .long (jI bt)] [(q0, .inr (0, [.long (jI ov), .long (jI un)]))] (fun r w1 => r = none ∧ w1 = [(q0, .inr (0, [.long (jI (redN (addN ov un tp bt) (addD un bt))), .long (jI (redD (addN ov un tp bt) (addD un bt)))]))]) := by
  refine ME.intro (cc := cX0_add) (maxL := 9) (ret := none) (by decide) rfl (Nat.le_of_ble_eq_true rfl) ?_
  intro p e s m below meth c ls Q A H locs ⟨hx, hb, hr, hml, hown, hts, hlocks⟩ hP hE hl hD hA hS hQ
  have hl : lv_has ls 9 [(0, .ref q0), (1, .long (jI tp)), (3, .long (jI bt))] := hl
  have iwX0 : ∀ w ∈ wsX00, w ∈ wsX0_add := (fun _ h => List.mem_cons_of_mem _ (List.mem_append_right _ h))
  have h_g : 0 < Int.gcd un bt ∧ ((Int.gcd un bt : Nat) : Int) ≤ bt := ⟨Int.gcd_pos_of_ne_zero_right _ (by omega), Int.le_of_dvd (by omega) (Int.gcd_dvd_right ..)⟩
  refine lv_aload_n hx hb dX0_add_0 rfl (lv_at hl 0 rfl) ?_
  refine va_get (D := g.1) (ci := 0) (v := .long (jI un)) (C := RX0) (T := TX0) (N := 2) hx hb hts iwX0 hown hE.1 hP 0 rfl rfl 1 (by decide) (hts (.fieldLink RX0 13 "QuickCount$Fraction" "under" "J") (List.mem_cons_of_mem _ (List.mem_append_left _ (List.mem_of_getElem? (i := 0) rfl)))) (fun _ h9 => h9) rfl dX0_add_1 ?_
  refine lv_lstore (lv' := [(5, .long (jI un)), (0, .ref q0), (1, .long (jI tp)), (3, .long (jI bt))]) hx hb dX0_add_4 hl (by decide) rfl (fun ls hl => ?_)
  refine lv_lload hx hb dX0_add_6 (lv_at hl 0 rfl) ?_
  refine lv_lload_n hx hb dX0_add_8 rfl (lv_at hl 3 rfl) ?_
  refine q_read (rest := []) (q_runRS (As := [.long (jI un), .long (jI bt)]) ⟨hx, hb, hml, hown, hts⟩ (kX0_sharedDivisor l g un bt (by omega) (by omega)) (va_cwS 2 hts gX0_add_X0_sharedDivisor rfl rfl rfl (by decide +kernel) ⟨Nat.le_of_ble_eq_true rfl, Nat.le_of_ble_eq_true rfl⟩) hE (hP.sub (ws' := []) [] rfl) rfl hl.1 (Nat.le_of_ble_eq_true rfl) dX0_add_9 ⟨Nat.zero_le _, Nat.zero_le _⟩) (fun r_ hq_1 => ?_)
  obtain rfl := hq_1
  refine W.eq (g2 := F0 m 12 ls [.long (jI (Int.gcd un bt : Int))]) rfl ?_
  refine lv_lstore (lv' := [(7, .long (jI (Int.gcd un bt : Int))), (5, .long (jI un)), (0, .ref q0), (1, .long (jI tp)), (3, .long (jI bt))]) hx hb dX0_add_12 hl (by decide) rfl (fun ls hl => ?_)
  refine lv_lload_n hx hb dX0_add_14 rfl (lv_at hl 4 rfl) ?_
  refine lv_lconst (v := jI 0) hx hb dX0_add_15 (by decide) ?_
  refine q_lif_le (tgt := 55) hx hb dX0_add_16 dX0_add_17 (by decide) (by omega) (fun c_2 => ?_) (fun c_2 => ?_)
  · exact absurd c_2 (by omega)
  · refine lv_lload hx hb dX0_add_20 (lv_at hl 0 rfl) ?_
    refine lv_lconst (v := jI 0) hx hb dX0_add_22 (by decide) ?_
    refine q_lif_le (tgt := 55) hx hb dX0_add_23 dX0_add_24 (by decide) (by omega) (fun c_3 => ?_) (fun c_3 => ?_)
    · exact absurd c_3 (by omega)
    · refine lv_aload_n hx hb dX0_add_27 rfl (lv_at hl 2 rfl) ?_
      refine lv_aload_n hx hb dX0_add_28 rfl (lv_at hl 2 rfl) ?_
      refine va_get (D := g.1) (ci := 0) (v := .long (jI ov)) (C := RX0) (T := TX0) (N := 2) hx hb hts iwX0 hown hE.1 hP 0 rfl rfl 0 (by decide) (hts (.fieldLink RX0 7 "QuickCount$Fraction" "over" "J") (List.mem_cons_of_mem _ (List.mem_append_left _ (List.mem_of_getElem? (i := 1) rfl)))) (fun _ h9 => h9) rfl dX0_add_29 ?_
      refine lv_lload_n hx hb dX0_add_32 rfl (lv_at hl 4 rfl) ?_
      refine lv_lload hx hb dX0_add_33 (lv_at hl 0 rfl) ?_
      refine q_ldiv hx hb dX0_add_35 (by omega) (by omega) ?_
      refine q_lmul hx hb dX0_add_36 ?_
      refine lv_lload_n hx hb dX0_add_37 rfl (lv_at hl 3 rfl) ?_
      refine lv_lload hx hb dX0_add_38 (lv_at hl 1 rfl) ?_
      refine lv_lload hx hb dX0_add_40 (lv_at hl 0 rfl) ?_
      refine q_ldiv hx hb dX0_add_42 (by omega) (by omega) ?_
      refine q_lmul hx hb dX0_add_43 ?_
      refine q_ladd hx hb dX0_add_44 ?_
      refine q_sl (y := (jI (addN ov un tp bt))) (by rw [addN_t]) ?_
      refine lv_lload hx hb dX0_add_45 (lv_at hl 1 rfl) ?_
      refine lv_lload hx hb dX0_add_47 (lv_at hl 0 rfl) ?_
      refine q_ldiv hx hb dX0_add_49 (by omega) (by omega) ?_
      refine lv_lload_n hx hb dX0_add_50 rfl (lv_at hl 4 rfl) ?_
      refine q_lmul hx hb dX0_add_51 ?_
      refine q_sl (y := (jI (addD un bt))) (by rw [addD_t]) ?_
      refine q_call (rest := []) (wr := []) (q_runEV (As := [.long (jI (addN ov un tp bt)), .long (jI (addD un bt))]) ⟨hx, hb, hml, hown, hts⟩ (kX0_put l g q0 ov un (addN ov un tp bt) (addD un bt) (by omega) (by omega)) (cwV 2 hts gX0_add_X0_put rfl rfl rfl (by decide +kernel) ⟨Nat.le_of_ble_eq_true rfl, Nat.le_of_ble_eq_true rfl⟩) (va_recv hE.1 hP (ci := 0) (q0 := 0) rfl rfl) hE (hP.sub (ws' := [(q0, .inr (0, [.long (jI ov), .long (jI un)]))]) [0] rfl) (hD.sub (ws' := [(q0, .inr (0, [.long (jI ov), .long (jI un)]))]) [0] (by decide) rfl) rfl hl.1 (Nat.le_of_ble_eq_true rfl) dX0_add_52 ⟨Nat.zero_le _, Nat.zero_le _⟩) hP hD hS hA [0] [] rfl rfl (by decide) (by decide) (fun r_ w_ H locs hq_4 hP hD hS => ?_)
      obtain ⟨rfl, rfl⟩ := hq_4
      have hP : va_P g.1 vwCl [(q0, .inr (0, [.long (jI (redN (addN ov un tp bt) (addD un bt))), .long (jI (redD (addN ov un tp bt) (addD un bt)))]))] H := hP
      have hD : va_D A [(q0, .inr (0, [.long (jI (redN (addN ov un tp bt) (addD un bt))), .long (jI (redD (addN ov un tp bt) (addD un bt)))]))] := hD
      refine W.eq (g2 := F0 m 55 ls []) rfl ?_
      exact qe_v hx hb hr hlocks hQ hS dX0_add_55 hP hD (⟨rfl, rfl⟩)
set_option maxHeartbeats 4000000 in
set_option maxRecDepth 100000 in
theorem kX0_roundedUp (l : Launch) (g : qG) (q0 : Nat) (ov : Int) (un : Int) (ti : Int) (h_un : 0 < un ∧ un ≤ 9223372036854775807) (h_n : 0 ≤ ti * ov + un - 1 ∧ ti * ov + un - 1 ≤ 9223372036854775807) : MR l g yX0_roundedUp wsX0_roundedUp ({ frames := 0, cells := 0, slots := 0, locals := 0 }) [.ref q0, .long (jI ti)] [(q0, .inr (0, [.long (jI ov), .long (jI un)]))] (fun r => r = some (.long (jI ((ti * ov + un - 1) / un)))) := by
  refine MR.intro (cc := cX0_roundedUp) (maxL := 3) (ret := (some .long)) (by decide) rfl (Nat.le_of_ble_eq_true rfl) ?_
  intro p e s m below meth c ls Q ⟨hx, hb, hr, hml, hown, hts, hlocks⟩ hP hE hl hQ
  have hl : lv_has ls 3 [(0, .ref q0), (1, .long (jI ti))] := hl
  have iwX0 : ∀ w ∈ wsX00, w ∈ wsX0_roundedUp := (fun _ h => List.mem_cons_of_mem _ (List.mem_append_right _ h))
  refine lv_aload_n hx hb dX0_roundedUp_0 rfl (lv_at hl 0 rfl) ?_
  refine va_get (D := g.1) (ci := 0) (v := .long (jI un)) (C := RX0) (T := TX0) (N := 2) hx hb hts iwX0 hown hE.1 hP 0 rfl rfl 1 (by decide) (hts (.fieldLink RX0 13 "QuickCount$Fraction" "under" "J") (List.mem_cons_of_mem _ (List.mem_append_left _ (List.mem_of_getElem? (i := 0) rfl)))) (fun _ h9 => h9) rfl dX0_roundedUp_1 ?_
  refine lv_lconst (v := jI 0) hx hb dX0_roundedUp_4 (by decide) ?_
  refine q_lif_le (tgt := 30) hx hb dX0_roundedUp_5 dX0_roundedUp_6 (by decide) (by omega) (fun c_1 => ?_) (fun c_1 => ?_)
  · exact absurd c_1 (by omega)
  · refine lv_lload_n hx hb dX0_roundedUp_9 rfl (lv_at hl 1 rfl) ?_
    refine lv_aload_n hx hb dX0_roundedUp_10 rfl (lv_at hl 0 rfl) ?_
    refine va_get (D := g.1) (ci := 0) (v := .long (jI ov)) (C := RX0) (T := TX0) (N := 2) hx hb hts iwX0 hown hE.1 hP 0 rfl rfl 0 (by decide) (hts (.fieldLink RX0 7 "QuickCount$Fraction" "over" "J") (List.mem_cons_of_mem _ (List.mem_append_left _ (List.mem_of_getElem? (i := 1) rfl)))) (fun _ h9 => h9) rfl dX0_roundedUp_11 ?_
    refine q_lmul hx hb dX0_roundedUp_14 ?_
    refine lv_aload_n hx hb dX0_roundedUp_15 rfl (lv_at hl 0 rfl) ?_
    refine va_get (D := g.1) (ci := 0) (v := .long (jI un)) (C := RX0) (T := TX0) (N := 2) hx hb hts iwX0 hown hE.1 hP 0 rfl rfl 1 (by decide) (hts (.fieldLink RX0 13 "QuickCount$Fraction" "under" "J") (List.mem_cons_of_mem _ (List.mem_append_left _ (List.mem_of_getElem? (i := 0) rfl)))) (fun _ h9 => h9) rfl dX0_roundedUp_16 ?_
    refine q_ladd hx hb dX0_roundedUp_19 ?_
    refine lv_lconst (v := jI 1) hx hb dX0_roundedUp_20 (by decide) ?_
    refine q_lsub hx hb dX0_roundedUp_21 ?_
    refine lv_aload_n hx hb dX0_roundedUp_22 rfl (lv_at hl 0 rfl) ?_
    refine va_get (D := g.1) (ci := 0) (v := .long (jI un)) (C := RX0) (T := TX0) (N := 2) hx hb hts iwX0 hown hE.1 hP 0 rfl rfl 1 (by decide) (hts (.fieldLink RX0 13 "QuickCount$Fraction" "under" "J") (List.mem_cons_of_mem _ (List.mem_append_left _ (List.mem_of_getElem? (i := 0) rfl)))) (fun _ h9 => h9) rfl dX0_roundedUp_23 ?_
    refine q_ldivN hx hb dX0_roundedUp_26 (by omega) ?_
    refine lv_goto (tgt := 31) hx hb dX0_roundedUp_27 (by decide) ?_
    exact qr_l hx hb hr hlocks hQ dX0_roundedUp_31 (rfl)
