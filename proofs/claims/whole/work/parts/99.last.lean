-- votes at the head of a tray
def vOk (F : Nat → Int) (b : Nat) : Nat → Bool
  | 0 => true
  | n + 1 => vOk F b n && (decide (0 ≤ F (b + n)) && decide (F (b + n) ≤ 9999))
theorem vOk_succ (F : Nat → Int) (b n : Nat) : vOk F b (n + 1) = (vOk F b n && (decide (0 ≤ F (b + n)) && decide (F (b + n) ≤ 9999))) := rfl
theorem vOk_iff (F : Nat → Int) (b n : Nat) : vOk F b n = true ↔ ∀ i, i < n → 0 ≤ F (b + i) ∧ F (b + i) ≤ 9999 := by
  induction n with
  | zero => simp [vOk]
  | succ n ih =>
    rw [vOk_succ]
    simp only [Bool.and_eq_true, decide_eq_true_eq, ih]
    constructor
    · intro ⟨h1, h2⟩ i hi
      rcases Nat.lt_or_ge i n with q | q
      · exact h1 i q
      · rw [show i = n by omega]; exact h2
    · exact fun h => ⟨fun i hi => h i (by omega), h n (by omega)⟩
theorem vOk_no {F : Nat → Int} {b n k : Nat} (hk : k < n) (h : ¬ (0 ≤ F (b + k) ∧ F (b + k) ≤ 9999)) : ¬ vOk F b n = true := fun q => h ((vOk_iff F b n).mp q k hk)
-- a tray laid anew
def layN (F : Nat → Int) (b n : Nat) : Nat → Int := fun j => if b ≤ j ∧ j < b + n then 0 else F j
theorem layN_0 (F : Nat → Int) (b : Nat) : layN F b 0 = F := by funext j; unfold layN; rw [if_neg (by omega)]
theorem layN_up (F : Nat → Int) (b n : Nat) : va_up (layN F b n) (b + n) 0 = layN F b (n + 1) := by
  funext j; unfold layN va_up
  by_cases h : j = b + n
  · rw [if_pos h, if_pos (by omega)]
  · rw [if_neg h]
    show (if b ≤ j ∧ j < b + n then 0 else F j) = _
    by_cases q : b ≤ j ∧ j < b + n
    · rw [if_pos q, if_pos (by omega)]
    · rw [if_neg q, if_neg (by omega)]
-- cut to a sort
def sh8 (s : Int) : Int := if s = 0 then 8 else if s = 1 then 16 else if s = 2 then 32 else 64
theorem sh8_eq {s : Int} (h1 : 0 ≤ s) (h2 : s ≤ 3) : iI 8 <<< (iI s &&& 31) = iI (sh8 s) := by
  rcases (show s = 0 ∨ s = 1 ∨ s = 2 ∨ s = 3 by omega) with rfl | rfl | rfl | rfl <;> decide
def cutw (s v : Int) : Int := if s = 0 then v.bmod 256 else if s = 1 then v.bmod 65536 else if s = 2 then v.bmod 4294967296 else v
theorem q_shl64 (a s : Int64) (k : Nat) (hs : (s.toBitVec.smod 64).toNat = k) : (a <<< s).toInt = (a.toInt * 2 ^ k).bmod (2 ^ 64) := by
  show (a.toBitVec <<< (s.toBitVec.smod 64).toNat).toInt = (a.toBitVec.toInt * 2 ^ k).bmod (2 ^ 64)
  rw [hs, BitVec.toInt_shiftLeft, BitVec.toInt_eq_toNat_bmod, Int.bmod_mul_bmod, Nat.shiftLeft_eq]
  congr 1
theorem q_shr64 (a s : Int64) (k : Nat) (hs : (s.toBitVec.smod 64).toNat = k) : (a >>> s).toInt = a.toInt >>> k := by
  show (a.toBitVec.sshiftRight (s.toBitVec.smod 64).toNat).toInt = _
  rw [hs, BitVec.toInt_sshiftRight]
  rfl
theorem cut_8 (v : Int) : (v * 72057594037927936).bmod 18446744073709551616 / 72057594037927936 = v.bmod 256 := by
  simp only [Int.bmod]; split <;> split <;> omega
theorem cut_16 (v : Int) : (v * 281474976710656).bmod 18446744073709551616 / 281474976710656 = v.bmod 65536 := by
  simp only [Int.bmod]; split <;> split <;> omega
theorem cut_32 (v : Int) : (v * 4294967296).bmod 18446744073709551616 / 4294967296 = v.bmod 4294967296 := by
  simp only [Int.bmod]; split <;> split <;> omega
theorem bmod_r (v : Int) (m : Nat) (hm : 0 < m) (h2 : (m : Int) ≤ 4294967296) : -9223372036854775808 ≤ v.bmod m ∧ v.bmod m ≤ 9223372036854775807 := by
  have h3 := Int.le_bmod (x := v) hm
  have h4 := Int.bmod_lt (x := v) hm
  omega
theorem cutw_eq {s v : Int} (h1 : 0 ≤ s) (h2 : s ≤ 3) (h : -9223372036854775808 ≤ v ∧ v ≤ 9223372036854775807) : (jI v <<< ((iI (64 - sh8 s)).toInt64 &&& 63)) >>> ((iI (64 - sh8 s)).toInt64 &&& 63) = jI (cutw s v) := by
  rcases (show s = 0 ∨ s = 1 ∨ s = 2 ∨ s = 3 by omega) with rfl | rfl | rfl | rfl
  · apply Int64.toInt_inj.mp
    have b := bmod_r v 256 (by decide) (by decide)
    rw [q_shr64 _ _ 56 (by decide), q_shl64 _ _ 56 (by decide), jI_toInt h.1 h.2, show cutw 0 v = v.bmod 256 from rfl, jI_toInt b.1 b.2, Int.shiftRight_eq_div_pow]
    exact cut_8 v
  · apply Int64.toInt_inj.mp
    have b := bmod_r v 65536 (by decide) (by decide)
    rw [q_shr64 _ _ 48 (by decide), q_shl64 _ _ 48 (by decide), jI_toInt h.1 h.2, show cutw 1 v = v.bmod 65536 from rfl, jI_toInt b.1 b.2, Int.shiftRight_eq_div_pow]
    exact cut_16 v
  · apply Int64.toInt_inj.mp
    have b := bmod_r v 4294967296 (by decide) (by decide)
    rw [q_shr64 _ _ 32 (by decide), q_shl64 _ _ 32 (by decide), jI_toInt h.1 h.2, show cutw 2 v = v.bmod 4294967296 from rfl, jI_toInt b.1 b.2, Int.shiftRight_eq_div_pow]
    exact cut_32 v
  · apply Int64.toInt_inj.mp
    rw [q_shr64 _ _ 0 (by decide), q_shl64 _ _ 0 (by decide), jI_toInt h.1 h.2, show cutw 3 v = v from rfl, jI_toInt h.1 h.2, Int.shiftRight_eq_div_pow]
    simp only [Int.bmod]; split <;> omega
theorem cutw_r {s v : Int} (h : -9223372036854775808 ≤ v ∧ v ≤ 9223372036854775807) : -9223372036854775808 ≤ cutw s v ∧ cutw s v ≤ 9223372036854775807 := by
  unfold cutw
  split
  · exact bmod_r v 256 (by decide) (by decide)
  · split
    · exact bmod_r v 65536 (by decide) (by decide)
    · split
      · exact bmod_r v 4294967296 (by decide) (by decide)
      · exact h

set_option maxHeartbeats 4000000 in
set_option maxRecDepth 100000 in
theorem kX6_isMissing (l : Launch) (g : qG) (qT : Nat) (tS : Nat) (tZ : Nat) (tN : Nat) (fS : Nat → Int) (t : Int) (h_t : 0 ≤ t ∧ t ≤ 3) (h_fS : ∀ k, -1 ≤ fS k ∧ fS k ≤ 3) : MR l g yX6_isMissing wsX6_isMissing ({ frames := 0, cells := 0, slots := 0, locals := 0 }) [.ref qT, .int (iI t)] [(qT, .inr (6, [.ref tS, .ref tZ, .ref tN])), aI g tS 4 fS] (fun r => r = some (.int (bP (fS t.toNat = -1)))) := by
  refine MR.intro (cc := cX6_isMissing) (maxL := 2) (ret := (some .boolean)) (by decide) rfl (Nat.le_of_ble_eq_true rfl) ?_
  intro p e s m below meth c ls Q ⟨hx, hb, hr, hml, hown, hts, hlocks⟩ hP hE hl hQ
  have hl : lv_has ls 2 [(0, .ref qT), (1, .int (iI t))] := hl
  have iwX6 : ∀ w ∈ wsX60, w ∈ wsX6_isMissing := (fun _ h => List.mem_cons_of_mem _ (List.mem_append_right _ h))
  have h_1 := h_fS t.toNat
  refine lv_aload_n hx hb dX6_isMissing_0 rfl (lv_at hl 0 rfl) ?_
  refine va_get (D := g.1) (ci := 6) (v := .ref tS) (C := RX6) (T := TX6) (N := 3) hx hb hts iwX6 hown hE.1 hP 0 rfl rfl 0 (by decide) (hts (.fieldLink RX6 9 "QuickCount$Trays" "sorts" "[I") (List.mem_cons_of_mem _ (List.mem_append_left _ (List.mem_of_getElem? (i := 0) rfl)))) (fun _ h9 => h9) rfl dX6_isMissing_1 ?_
  refine lv_iload_n hx hb dX6_isMissing_4 rfl (lv_at hl 1 rfl) ?_
  refine q_iald hx hb hE hP 1 rfl ((t).toNat) (by omega) (by decide) dX6_isMissing_5 ?_
  refine lv_iconst (v := iI (-1)) hx hb dX6_isMissing_6 rfl ?_
  suffices K_1 : W p l e ({ frames := 0, cells := 0, slots := 0, locals := 0 } : Room) s m ([.ref qT, .int (iI t)] : List Value).toArray below meth c s.heap [] 0 0 Q (F0 m 15 ls [.int (bP ((fS ((t).toNat)) = (-1)))]) from by
    refine q_icmp_ne (tgt := 14) hx hb dX6_isMissing_7 (by decide) (by omega) (fun c_2 => ?_) (fun c_2 => ?_)
    · refine lv_iconst (v := iI 0) hx hb dX6_isMissing_14 rfl ?_
      exact q_si (y := bP ((fS ((t).toNat)) = (-1))) (bP_f (by omega)).symm K_1
    · refine lv_iconst (v := iI 1) hx hb dX6_isMissing_10 rfl ?_
      refine lv_goto (tgt := 15) hx hb dX6_isMissing_11 (by decide) ?_
      exact q_si (y := bP ((fS ((t).toNat)) = (-1))) (bP_t (by omega)).symm K_1
  exact qr_z hx hb hr hlocks hQ dX6_isMissing_15 (bP_nar _) (congrArg (fun z => some (Value.int z)) (bP_iff (by omega)))
set_option maxHeartbeats 4000000 in
set_option maxRecDepth 100000 in
theorem kX6_areAlike (l : Launch) (g : qG) (qT : Nat) (tS : Nat) (tZ : Nat) (tN : Nat) (fS : Nat → Int) (t : Int) (t2 : Int) (h_t : 0 ≤ t ∧ t ≤ 3) (h_t2 : 0 ≤ t2 ∧ t2 ≤ 3) (h_fS : ∀ k, -1 ≤ fS k ∧ fS k ≤ 3) : MR l g yX6_areAlike wsX6_areAlike ({ frames := 0, cells := 0, slots := 0, locals := 0 }) [.ref qT, .int (iI t), .int (iI t2)] [(qT, .inr (6, [.ref tS, .ref tZ, .ref tN])), aI g tS 4 fS] (fun r => r = some (.int (bP (fS t.toNat = fS t2.toNat)))) := by
  refine MR.intro (cc := cX6_areAlike) (maxL := 3) (ret := (some .boolean)) (by decide) rfl (Nat.le_of_ble_eq_true rfl) ?_
  intro p e s m below meth c ls Q ⟨hx, hb, hr, hml, hown, hts, hlocks⟩ hP hE hl hQ
  have hl : lv_has ls 3 [(0, .ref qT), (1, .int (iI t)), (2, .int (iI t2))] := hl
  have iwX6 : ∀ w ∈ wsX60, w ∈ wsX6_areAlike := (fun _ h => List.mem_cons_of_mem _ (List.mem_append_right _ h))
  have h_1 := h_fS t.toNat
  have h_2 := h_fS t2.toNat
  refine lv_aload_n hx hb dX6_areAlike_0 rfl (lv_at hl 0 rfl) ?_
  refine va_get (D := g.1) (ci := 6) (v := .ref tS) (C := RX6) (T := TX6) (N := 3) hx hb hts iwX6 hown hE.1 hP 0 rfl rfl 0 (by decide) (hts (.fieldLink RX6 9 "QuickCount$Trays" "sorts" "[I") (List.mem_cons_of_mem _ (List.mem_append_left _ (List.mem_of_getElem? (i := 0) rfl)))) (fun _ h9 => h9) rfl dX6_areAlike_1 ?_
  refine lv_iload_n hx hb dX6_areAlike_4 rfl (lv_at hl 1 rfl) ?_
  refine q_iald hx hb hE hP 1 rfl ((t).toNat) (by omega) (by decide) dX6_areAlike_5 ?_
  refine lv_aload_n hx hb dX6_areAlike_6 rfl (lv_at hl 0 rfl) ?_
  refine va_get (D := g.1) (ci := 6) (v := .ref tS) (C := RX6) (T := TX6) (N := 3) hx hb hts iwX6 hown hE.1 hP 0 rfl rfl 0 (by decide) (hts (.fieldLink RX6 9 "QuickCount$Trays" "sorts" "[I") (List.mem_cons_of_mem _ (List.mem_append_left _ (List.mem_of_getElem? (i := 0) rfl)))) (fun _ h9 => h9) rfl dX6_areAlike_7 ?_
  refine lv_iload_n hx hb dX6_areAlike_10 rfl (lv_at hl 2 rfl) ?_
  refine q_iald hx hb hE hP 1 rfl ((t2).toNat) (by omega) (by decide) dX6_areAlike_11 ?_
  suffices K_1 : W p l e ({ frames := 0, cells := 0, slots := 0, locals := 0 } : Room) s m ([.ref qT, .int (iI t), .int (iI t2)] : List Value).toArray below meth c s.heap [] 0 0 Q (F0 m 20 ls [.int (bP ((fS ((t).toNat)) = (fS ((t2).toNat))))]) from by
    refine q_icmp_ne (tgt := 19) hx hb dX6_areAlike_12 (by decide) (by omega) (fun c_2 => ?_) (fun c_2 => ?_)
    · refine lv_iconst (v := iI 0) hx hb dX6_areAlike_19 rfl ?_
      exact q_si (y := bP ((fS ((t).toNat)) = (fS ((t2).toNat)))) (bP_f (by omega)).symm K_1
    · refine lv_iconst (v := iI 1) hx hb dX6_areAlike_15 rfl ?_
      refine lv_goto (tgt := 20) hx hb dX6_areAlike_16 (by decide) ?_
      exact q_si (y := bP ((fS ((t).toNat)) = (fS ((t2).toNat)))) (bP_t (by omega)).symm K_1
  exact qr_z hx hb hr hlocks hQ dX6_areAlike_20 (bP_nar _) (congrArg (fun z => some (Value.int z)) (bP_iff (by omega)))
set_option maxHeartbeats 4000000 in
set_option maxRecDepth 100000 in
theorem kX6_hasPlace (l : Launch) (g : qG) (qT : Nat) (tS : Nat) (tZ : Nat) (tN : Nat) (fZ : Nat → Int) (t : Int) (pl : Int) (h_t : 0 ≤ t ∧ t ≤ 3) (r_pl : -2147483648 ≤ pl ∧ pl ≤ 2147483647) (h_fZ : ∀ k, 0 ≤ fZ k ∧ fZ k ≤ 20) : MR l g yX6_hasPlace wsX6_hasPlace ({ frames := 0, cells := 0, slots := 0, locals := 0 }) [.ref qT, .int (iI t), .int (iI pl)] [(qT, .inr (6, [.ref tS, .ref tZ, .ref tN])), aI g tZ 4 fZ] (fun r => r = some (.int (bP (0 ≤ pl ∧ pl < fZ t.toNat)))) := by
  refine MR.intro (cc := cX6_hasPlace) (maxL := 3) (ret := (some .boolean)) (by decide) rfl (Nat.le_of_ble_eq_true rfl) ?_
  intro p e s m below meth c ls Q ⟨hx, hb, hr, hml, hown, hts, hlocks⟩ hP hE hl hQ
  have hl : lv_has ls 3 [(0, .ref qT), (1, .int (iI t)), (2, .int (iI pl))] := hl
  have iwX6 : ∀ w ∈ wsX60, w ∈ wsX6_hasPlace := (fun _ h => List.mem_cons_of_mem _ (List.mem_append_right _ h))
  have h_1 := h_fZ t.toNat
  refine lv_iload_n hx hb dX6_hasPlace_0 rfl (lv_at hl 2 rfl) ?_
  suffices K_1 : W p l e ({ frames := 0, cells := 0, slots := 0, locals := 0 } : Room) s m ([.ref qT, .int (iI t), .int (iI pl)] : List Value).toArray below meth c s.heap [] 0 0 Q (F0 m 19 ls [.int (bP ((¬ pl < 0) ∧ (¬ (fZ ((t).toNat)) ≤ pl)))]) from by
    refine q_if_lt (tgt := 18) hx hb dX6_hasPlace_1 (by decide) (by omega) (fun c_2 => ?_) (fun c_2 => ?_)
    · refine lv_iconst (v := iI 0) hx hb dX6_hasPlace_18 rfl ?_
      exact q_si (y := bP ((¬ pl < 0) ∧ (¬ (fZ ((t).toNat)) ≤ pl))) (bP_f (by omega)).symm K_1
    · refine lv_iload_n hx hb dX6_hasPlace_4 rfl (lv_at hl 2 rfl) ?_
      refine lv_aload_n hx hb dX6_hasPlace_5 rfl (lv_at hl 0 rfl) ?_
      refine va_get (D := g.1) (ci := 6) (v := .ref tZ) (C := RX6) (T := TX6) (N := 3) hx hb hts iwX6 hown hE.1 hP 0 rfl rfl 1 (by decide) (hts (.fieldLink RX6 15 "QuickCount$Trays" "sizes" "[I") (List.mem_cons_of_mem _ (List.mem_append_left _ (List.mem_of_getElem? (i := 0) rfl)))) (fun _ h9 => h9) rfl dX6_hasPlace_6 ?_
      refine lv_iload_n hx hb dX6_hasPlace_9 rfl (lv_at hl 1 rfl) ?_
      refine q_iald hx hb hE hP 1 rfl ((t).toNat) (by omega) (by decide) dX6_hasPlace_10 ?_
      refine q_icmp_ge (tgt := 18) hx hb dX6_hasPlace_11 (by decide) (by omega) (fun c_3 => ?_) (fun c_3 => ?_)
      · refine lv_iconst (v := iI 0) hx hb dX6_hasPlace_18 rfl ?_
        exact q_si (y := bP ((¬ pl < 0) ∧ (¬ (fZ ((t).toNat)) ≤ pl))) (bP_f (by omega)).symm K_1
      · refine lv_iconst (v := iI 1) hx hb dX6_hasPlace_14 rfl ?_
        refine lv_goto (tgt := 19) hx hb dX6_hasPlace_15 (by decide) ?_
        exact q_si (y := bP ((¬ pl < 0) ∧ (¬ (fZ ((t).toNat)) ≤ pl))) (bP_t (by omega)).symm K_1
  exact qr_z hx hb hr hlocks hQ dX6_hasPlace_19 (bP_nar _) (congrArg (fun z => some (Value.int z)) (bP_iff (by omega)))
set_option maxHeartbeats 4000000 in
set_option maxRecDepth 100000 in
theorem kX6_hasRun (l : Launch) (g : qG) (qT : Nat) (tS : Nat) (tZ : Nat) (tN : Nat) (fZ : Nat → Int) (t : Int) (pl : Int) (mn : Int) (h_t : 0 ≤ t ∧ t ≤ 3) (r_pl : -2147483648 ≤ pl ∧ pl ≤ 2147483647) (r_mn : -2147483648 ≤ mn ∧ mn ≤ 2147483647) (h_fZ : ∀ k, 0 ≤ fZ k ∧ fZ k ≤ 20) : MR l g yX6_hasRun wsX6_hasRun ({ frames := 0, cells := 0, slots := 0, locals := 0 }) [.ref qT, .int (iI t), .int (iI pl), .int (iI mn)] [(qT, .inr (6, [.ref tS, .ref tZ, .ref tN])), aI g tZ 4 fZ] (fun r => r = some (.int (bP (pl + mn ≤ fZ t.toNat)))) := by
  refine MR.intro (cc := cX6_hasRun) (maxL := 4) (ret := (some .boolean)) (by decide) rfl (Nat.le_of_ble_eq_true rfl) ?_
  intro p e s m below meth c ls Q ⟨hx, hb, hr, hml, hown, hts, hlocks⟩ hP hE hl hQ
  have hl : lv_has ls 4 [(0, .ref qT), (1, .int (iI t)), (2, .int (iI pl)), (3, .int (iI mn))] := hl
  have iwX6 : ∀ w ∈ wsX60, w ∈ wsX6_hasRun := (fun _ h => List.mem_cons_of_mem _ (List.mem_append_right _ h))
  have h_1 := h_fZ t.toNat
  refine lv_iload_n hx hb dX6_hasRun_0 rfl (lv_at hl 2 rfl) ?_
  refine q_i2l hx hb dX6_hasRun_1 (by omega) ?_
  refine lv_iload_n hx hb dX6_hasRun_2 rfl (lv_at hl 3 rfl) ?_
  refine q_i2l hx hb dX6_hasRun_3 (by omega) ?_
  refine q_ladd hx hb dX6_hasRun_4 ?_
  refine lv_aload_n hx hb dX6_hasRun_5 rfl (lv_at hl 0 rfl) ?_
  refine va_get (D := g.1) (ci := 6) (v := .ref tZ) (C := RX6) (T := TX6) (N := 3) hx hb hts iwX6 hown hE.1 hP 0 rfl rfl 1 (by decide) (hts (.fieldLink RX6 15 "QuickCount$Trays" "sizes" "[I") (List.mem_cons_of_mem _ (List.mem_append_left _ (List.mem_of_getElem? (i := 0) rfl)))) (fun _ h9 => h9) rfl dX6_hasRun_6 ?_
  refine lv_iload_n hx hb dX6_hasRun_9 rfl (lv_at hl 1 rfl) ?_
  refine q_iald hx hb hE hP 1 rfl ((t).toNat) (by omega) (by decide) dX6_hasRun_10 ?_
  refine q_i2l hx hb dX6_hasRun_11 (by omega) ?_
  suffices K_1 : W p l e ({ frames := 0, cells := 0, slots := 0, locals := 0 } : Room) s m ([.ref qT, .int (iI t), .int (iI pl), .int (iI mn)] : List Value).toArray below meth c s.heap [] 0 0 Q (F0 m 21 ls [.int (bP (¬ (fZ ((t).toNat)) < (pl + mn)))]) from by
    refine q_lif_gt (tgt := 20) hx hb dX6_hasRun_12 dX6_hasRun_13 (by decide) (by omega) (fun c_2 => ?_) (fun c_2 => ?_)
    · refine lv_iconst (v := iI 0) hx hb dX6_hasRun_20 rfl ?_
      exact q_si (y := bP (¬ (fZ ((t).toNat)) < (pl + mn))) (bP_f (by omega)).symm K_1
    · refine lv_iconst (v := iI 1) hx hb dX6_hasRun_16 rfl ?_
      refine lv_goto (tgt := 21) hx hb dX6_hasRun_17 (by decide) ?_
      exact q_si (y := bP (¬ (fZ ((t).toNat)) < (pl + mn))) (bP_t (by omega)).symm K_1
  exact qr_z hx hb hr hlocks hQ dX6_hasRun_21 (bP_nar _) (congrArg (fun z => some (Value.int z)) (bP_iff (by omega)))
set_option maxHeartbeats 4000000 in
set_option maxRecDepth 100000 in
theorem kX6_at (l : Launch) (g : qG) (qT : Nat) (tS : Nat) (tZ : Nat) (tN : Nat) (fN : Nat → Int) (t : Int) (pl : Int) (h_t : 0 ≤ t ∧ t ≤ 3) (h_pl : 0 ≤ pl ∧ pl ≤ 19) : MR l g yX6_at wsX6_at ({ frames := 0, cells := 0, slots := 0, locals := 0 }) [.ref qT, .int (iI t), .int (iI pl)] [(qT, .inr (6, [.ref tS, .ref tZ, .ref tN])), aJ g tN 80 fN] (fun r => r = some (.long (jI (fN (t * 20 + pl).toNat)))) := by
  refine MR.intro (cc := cX6_at) (maxL := 3) (ret := (some .long)) (by decide) rfl (Nat.le_of_ble_eq_true rfl) ?_
  intro p e s m below meth c ls Q ⟨hx, hb, hr, hml, hown, hts, hlocks⟩ hP hE hl hQ
  have hl : lv_has ls 3 [(0, .ref qT), (1, .int (iI t)), (2, .int (iI pl))] := hl
  have iwX6 : ∀ w ∈ wsX60, w ∈ wsX6_at := (fun _ h => List.mem_cons_of_mem _ (List.mem_append_right _ h))
  refine lv_aload_n hx hb dX6_at_0 rfl (lv_at hl 0 rfl) ?_
  refine va_get (D := g.1) (ci := 6) (v := .ref tN) (C := RX6) (T := TX6) (N := 3) hx hb hts iwX6 hown hE.1 hP 0 rfl rfl 2 (by decide) (hts (.fieldLink RX6 18 "QuickCount$Trays" "numbers" "[J") (List.mem_cons_of_mem _ (List.mem_append_left _ (List.mem_of_getElem? (i := 0) rfl)))) (fun _ h9 => h9) rfl dX6_at_1 ?_
  refine lv_iload_n hx hb dX6_at_4 rfl (lv_at hl 1 rfl) ?_
  refine lv_bipush (v := iI 20) hx hb dX6_at_5 (by decide) ?_
  refine q_imul hx hb dX6_at_7 ?_
  refine lv_iload_n hx hb dX6_at_8 rfl (lv_at hl 2 rfl) ?_
  refine q_iadd hx hb dX6_at_9 ?_
  refine q_lald hx hb hE hP 1 rfl (((t * 20) + pl).toNat) (by omega) (by decide) dX6_at_10 ?_
  exact qr_l hx hb hr hlocks hQ dX6_at_11 (rfl)
set_option maxHeartbeats 4000000 in
set_option maxRecDepth 100000 in
theorem kX6_startsWithVotes (l : Launch) (g : qG) (qT : Nat) (tS : Nat) (tZ : Nat) (tN : Nat) (fN : Nat → Int) (t : Int) (mn : Int) (h_t : 0 ≤ t ∧ t ≤ 3) (h_mn : 0 ≤ mn ∧ mn ≤ 20) (h_fN : ∀ k, -9223372036854775808 ≤ fN k ∧ fN k ≤ 9223372036854775807) : MR l g yX6_startsWithVotes wsX6_startsWithVotes ({ frames := 1, cells := 0, slots := 0, locals := 22 }) [.ref qT, .int (iI t), .int (iI mn)] [(qT, .inr (6, [.ref tS, .ref tZ, .ref tN])), aJ g tN 80 fN] (fun r => r = some (.int (bP (vOk fN (t * 20).toNat mn.toNat = true)))) := by
  refine MR.intro (cc := cX6_startsWithVotes) (maxL := 6) (ret := (some .boolean)) (by decide) rfl (Nat.le_of_ble_eq_true rfl) ?_
  intro p e s m below meth c ls Q ⟨hx, hb, hr, hml, hown, hts, hlocks⟩ hP hE hl hQ
  have hl : lv_has ls 6 [(0, .ref qT), (1, .int (iI t)), (2, .int (iI mn))] := hl
  refine lv_iconst (v := iI 0) hx hb dX6_startsWithVotes_0 rfl ?_
  refine lv_istore_n (lv' := [(3, .int (iI 0)), (0, .ref qT), (1, .int (iI t)), (2, .int (iI mn))]) hx hb dX6_startsWithVotes_1 rfl hl (by decide) rfl (fun ls hl => ?_)
  have K_1 : ∀ (fu_3 : Nat) (k : Nat) (i : Int), (i = (k : Int)) → ((k : Int) ≤ mn) → (vOk fN (t * 20).toNat k = true) → mn.toNat - k < fu_3 → ∀ (ls : Array Slot), lv_has ls 6 [(3, .int (iI i)), (0, .ref qT), (1, .int (iI t)), (2, .int (iI mn))] → W p l e ({ frames := 1, cells := 0, slots := 0, locals := 22 } : Room) s m ([.ref qT, .int (iI t), .int (iI mn)] : List Value).toArray below meth c s.heap [] 0 0 Q (F0 m 2 ls []) := by
    intro fu_3
    induction fu_3 with
    | zero => exact fun _ _ _ _ _ q => absurd q (Nat.not_lt_zero _)
    | succ fu_3 ih_2 =>
      intro k i e_i h_k h_v hm_4 ls hl
      have e_ix : (t * 20 + i).toNat = (t * 20).toNat + k := by omega
      have h_1 := h_fN (t * 20 + i).toNat
      refine lv_iload_n hx hb dX6_startsWithVotes_2 rfl (lv_at hl 0 rfl) ?_
      refine lv_iload_n hx hb dX6_startsWithVotes_3 rfl (lv_at hl 3 rfl) ?_
      refine q_icmp_ge (tgt := 39) hx hb dX6_startsWithVotes_4 (by decide) (by omega) (fun c_5 => ?_) (fun c_5 => ?_)
      · refine lv_iconst (v := iI 1) hx hb dX6_startsWithVotes_39 rfl ?_
        exact qr_z hx hb hr hlocks hQ dX6_startsWithVotes_40 rfl (congrArg (fun z => some (Value.int z)) (bP_t (by rw [show mn.toNat = k by omega]; exact h_v)).symm)
      · refine lv_aload_n hx hb dX6_startsWithVotes_7 rfl (lv_at hl 1 rfl) ?_
        refine lv_iload_n hx hb dX6_startsWithVotes_8 rfl (lv_at hl 2 rfl) ?_
        refine lv_iload_n hx hb dX6_startsWithVotes_9 rfl (lv_at hl 0 rfl) ?_
        refine q_read (rest := []) (q_runRV (As := [.int (iI t), .int (iI i)]) ⟨hx, hb, hml, hown, hts⟩ (kX6_at l g qT tS tZ tN fN t i (by omega) (by omega)) (cwV 2 hts gX6_startsWithVotes_X6_at rfl rfl rfl (by decide +kernel) ⟨Nat.le_of_ble_eq_true rfl, Nat.le_of_ble_eq_true rfl⟩) (va_recv hE.1 hP (ci := 6) (q0 := 0) rfl rfl) hE (hP.sub (ws' := [(qT, .inr (6, [.ref tS, .ref tZ, .ref tN])), aJ g tN 80 fN]) [0, 1] rfl) rfl hl.1 (Nat.le_of_ble_eq_true rfl) dX6_startsWithVotes_10 ⟨Nat.zero_le _, Nat.zero_le _⟩) (fun r_ hq_6 => ?_)
        obtain rfl := hq_6
        refine W.eq (g2 := F0 m 13 ls [.long (jI (fN (t * 20 + i).toNat))]) rfl ?_
        refine lv_lstore (lv' := [(4, .long (jI (fN (t * 20 + i).toNat))), (3, .int (iI i)), (0, .ref qT), (1, .int (iI t)), (2, .int (iI mn))]) hx hb dX6_startsWithVotes_13 hl (by decide) rfl (fun ls hl => ?_)
        refine lv_lload hx hb dX6_startsWithVotes_15 (lv_at hl 0 rfl) ?_
        refine lv_lconst (v := jI 0) hx hb dX6_startsWithVotes_17 (by decide) ?_
        refine q_lif_lt (tgt := 31) hx hb dX6_startsWithVotes_18 dX6_startsWithVotes_19 (by decide) (by omega) (fun c_7 => ?_) (fun c_7 => ?_)
        · refine lv_iconst (v := iI 0) hx hb dX6_startsWithVotes_31 rfl ?_
          exact qr_z hx hb hr hlocks hQ dX6_startsWithVotes_32 rfl (congrArg (fun z => some (Value.int z)) (bP_f (vOk_no (k := k) (by omega) (by rw [← e_ix]; omega))).symm)
        · refine lv_lload hx hb dX6_startsWithVotes_22 (lv_at hl 0 rfl) ?_
          refine lv_ldc2 hx hb hown (hts (.constantLong RX6 26 (9999)) (List.mem_cons_of_mem _ (List.mem_append_left _ (List.mem_of_getElem? (i := 0) rfl)))) dX6_startsWithVotes_24 ?_
          refine q_sl (y := jI 9999) (by decide) ?_
          refine q_lif_le (tgt := 33) hx hb dX6_startsWithVotes_27 dX6_startsWithVotes_28 (by decide) (by omega) (fun c_8 => ?_) (fun c_8 => ?_)
          · refine lv_iinc (v := (iI (i + 1))) (lv' := [(3, .int (iI (i + 1))), (4, .long (jI (fN (t * 20 + i).toNat))), (0, .ref qT), (1, .int (iI t)), (2, .int (iI mn))]) hx hb dX6_startsWithVotes_33 hl (k := 1) rfl (iI_add _ _) (by decide) rfl (fun ls hl => ?_)
            refine lv_goto (tgt := 2) hx hb dX6_startsWithVotes_36 (by decide) ?_
            exact ih_2  (k + 1) (i + 1) (by omega) (by omega) (by rw [vOk_succ, h_v]; rw [e_ix] at *; simp only [Bool.true_and, Bool.and_eq_true, decide_eq_true_eq]; omega) (by omega) ls (lv_sub hl [0, 2, 3, 4] rfl)
          · refine lv_iconst (v := iI 0) hx hb dX6_startsWithVotes_31 rfl ?_
            exact qr_z hx hb hr hlocks hQ dX6_startsWithVotes_32 rfl (congrArg (fun z => some (Value.int z)) (bP_f (vOk_no (k := k) (by omega) (by rw [← e_ix]; omega))).symm)
  exact K_1 (mn.toNat - 0 + 1) 0 0 (rfl) (by omega) (rfl) (Nat.lt_succ_self _) ls (lv_sub hl [0, 1, 2, 3] rfl)
set_option maxHeartbeats 4000000 in
set_option maxRecDepth 100000 in
theorem kX6_lay (l : Launch) (g : qG) (qT : Nat) (tS : Nat) (tZ : Nat) (tN : Nat) (fS : Nat → Int) (fZ : Nat → Int) (fN : Nat → Int) (t : Int) (so : Int) (mn : Int) (h_t : 0 ≤ t ∧ t ≤ 3) : ME l g yX6_lay wsX6_lay ({ frames := 0, cells := 0, slots := 0, locals := 0 }) [.ref qT, .int (iI t), .int (iI so), .int (iI mn)] [(qT, .inr (6, [.ref tS, .ref tZ, .ref tN])), aI g tS 4 fS, aI g tZ 4 fZ, aJ g tN 80 fN] (fun r w1 => r = none ∧ w1 = [(qT, .inr (6, [.ref tS, .ref tZ, .ref tN])), aI g tS 4 (va_up fS t.toNat so), aI g tZ 4 (va_up fZ t.toNat mn), aJ g tN 80 (layN fN (t * 20).toNat 20)]) := by
  refine ME.intro (cc := cX6_lay) (maxL := 6) (ret := none) (by decide) rfl (Nat.le_of_ble_eq_true rfl) ?_
  intro p e s m below meth c ls Q A H locs ⟨hx, hb, hr, hml, hown, hts, hlocks⟩ hP hE hl hD hA hS hQ
  have hl : lv_has ls 6 [(0, .ref qT), (1, .int (iI t)), (2, .int (iI so)), (3, .int (iI mn))] := hl
  have iwX6 : ∀ w ∈ wsX60, w ∈ wsX6_lay := (fun _ h => List.mem_cons_of_mem _ (List.mem_append_right _ h))
  refine lv_aload_n hx hb dX6_lay_0 rfl (lv_at hl 0 rfl) ?_
  refine va_get (D := g.1) (ci := 6) (v := .ref tS) (C := RX6) (T := TX6) (N := 3) hx hb hts iwX6 hown hE.1 hP 0 rfl rfl 0 (by decide) (hts (.fieldLink RX6 9 "QuickCount$Trays" "sorts" "[I") (List.mem_cons_of_mem _ (List.mem_append_left _ (List.mem_of_getElem? (i := 0) rfl)))) (fun _ h9 => h9) rfl dX6_lay_1 ?_
  refine lv_iload_n hx hb dX6_lay_4 rfl (lv_at hl 1 rfl) ?_
  refine lv_iload_n hx hb dX6_lay_5 rfl (lv_at hl 2 rfl) ?_
  refine q_iast hx hb hE hP hD hS 1 rfl ((t).toNat) (by omega) (by decide) dX6_lay_6 (fun H locs hP hD hS => ?_)
  have hP : va_P g.1 vwCl [(qT, .inr (6, [.ref tS, .ref tZ, .ref tN])), aI g tS 4 (va_up fS ((t).toNat) so), aI g tZ 4 fZ, aJ g tN 80 fN] H := hP
  have hD : va_D A [(qT, .inr (6, [.ref tS, .ref tZ, .ref tN])), aI g tS 4 (va_up fS ((t).toNat) so), aI g tZ 4 fZ, aJ g tN 80 fN] := hD
  refine lv_aload_n hx hb dX6_lay_7 rfl (lv_at hl 0 rfl) ?_
  refine va_get (D := g.1) (ci := 6) (v := .ref tZ) (C := RX6) (T := TX6) (N := 3) hx hb hts iwX6 hown hE.1 hP 0 rfl rfl 1 (by decide) (hts (.fieldLink RX6 15 "QuickCount$Trays" "sizes" "[I") (List.mem_cons_of_mem _ (List.mem_append_left _ (List.mem_of_getElem? (i := 1) rfl)))) (fun _ h9 => h9) rfl dX6_lay_8 ?_
  refine lv_iload_n hx hb dX6_lay_11 rfl (lv_at hl 1 rfl) ?_
  refine lv_iload_n hx hb dX6_lay_12 rfl (lv_at hl 3 rfl) ?_
  refine q_iast hx hb hE hP hD hS 2 rfl ((t).toNat) (by omega) (by decide) dX6_lay_13 (fun H locs hP hD hS => ?_)
  have hP : va_P g.1 vwCl [(qT, .inr (6, [.ref tS, .ref tZ, .ref tN])), aI g tS 4 (va_up fS ((t).toNat) so), aI g tZ 4 (va_up fZ ((t).toNat) mn), aJ g tN 80 fN] H := hP
  have hD : va_D A [(qT, .inr (6, [.ref tS, .ref tZ, .ref tN])), aI g tS 4 (va_up fS ((t).toNat) so), aI g tZ 4 (va_up fZ ((t).toNat) mn), aJ g tN 80 fN] := hD
  refine lv_iload_n hx hb dX6_lay_14 rfl (lv_at hl 1 rfl) ?_
  refine lv_bipush (v := iI 20) hx hb dX6_lay_15 (by decide) ?_
  refine q_imul hx hb dX6_lay_17 ?_
  refine lv_istore (lv' := [(4, .int (iI (t * 20))), (0, .ref qT), (1, .int (iI t)), (2, .int (iI so)), (3, .int (iI mn))]) hx hb dX6_lay_18 hl (by decide) rfl (fun ls hl => ?_)
  refine lv_iconst (v := iI 0) hx hb dX6_lay_20 rfl ?_
  refine lv_istore (lv' := [(5, .int (iI 0)), (4, .int (iI (t * 20))), (0, .ref qT), (1, .int (iI t)), (2, .int (iI so)), (3, .int (iI mn))]) hx hb dX6_lay_21 hl (by decide) rfl (fun ls hl => ?_)
  have K_1 : ∀ (fu_3 : Nat) (k : Nat) (i : Int) (fM : Nat → Int), (i = (k : Int)) → (k ≤ 20) → (fM = layN fN (t * 20).toNat k) → 20 - k < fu_3 → ∀ (H : Heap) (locs : List Loc) (ls : Array Slot), va_P g.1 vwCl [(qT, .inr (6, [.ref tS, .ref tZ, .ref tN])), aI g tS 4 (va_up fS ((t).toNat) so), aI g tZ 4 (va_up fZ ((t).toNat) mn), aJ g tN 80 fM] H → va_D A [(qT, .inr (6, [.ref tS, .ref tZ, .ref tN])), aI g tS 4 (va_up fS ((t).toNat) so), aI g tZ 4 (va_up fZ ((t).toNat) mn), aJ g tN 80 fM] → va_S A s.heap H locs → lv_has ls 6 [(5, .int (iI i)), (4, .int (iI (t * 20))), (0, .ref qT), (1, .int (iI t)), (2, .int (iI so)), (3, .int (iI mn))] → W p l e ({ frames := 0, cells := 0, slots := 0, locals := 0 } : Room) s m ([.ref qT, .int (iI t), .int (iI so), .int (iI mn)] : List Value).toArray below meth c H locs 0 0 Q (F0 m 23 ls []) := by
    intro fu_3
    induction fu_3 with
    | zero => exact fun _ _ _ _ _ _ q => absurd q (Nat.not_lt_zero _)
    | succ fu_3 ih_2 =>
      intro k i fM e_i h_k h_M hm_4 H locs ls hP hD hS hl
      refine lv_iload hx hb dX6_lay_23 (lv_at hl 0 rfl) ?_
      refine lv_bipush (v := iI 20) hx hb dX6_lay_25 (by decide) ?_
      refine q_icmp_ge (tgt := 47) hx hb dX6_lay_27 (by decide) (by omega) (fun c_5 => ?_) (fun c_5 => ?_)
      · exact qe_v hx hb hr hlocks hQ hS dX6_lay_47 hP hD (⟨rfl, by rw [h_M, show k = 20 by omega]⟩)
      · refine lv_aload_n hx hb dX6_lay_30 rfl (lv_at hl 2 rfl) ?_
        refine va_get (D := g.1) (ci := 6) (v := .ref tN) (C := RX6) (T := TX6) (N := 3) hx hb hts iwX6 hown hE.1 hP 0 rfl rfl 2 (by decide) (hts (.fieldLink RX6 18 "QuickCount$Trays" "numbers" "[J") (List.mem_cons_of_mem _ (List.mem_append_left _ (List.mem_of_getElem? (i := 2) rfl)))) (fun _ h9 => h9) rfl dX6_lay_31 ?_
        refine lv_iload hx hb dX6_lay_34 (lv_at hl 1 rfl) ?_
        refine lv_iload hx hb dX6_lay_36 (lv_at hl 0 rfl) ?_
        refine q_iadd hx hb dX6_lay_38 ?_
        refine lv_lconst (v := jI 0) hx hb dX6_lay_39 (by decide) ?_
        refine q_last hx hb hE hP hD hS 3 rfl ((t * 20).toNat + k) (by omega) (by decide) dX6_lay_40 (fun H locs hP hD hS => ?_)
        have hP : va_P g.1 vwCl [(qT, .inr (6, [.ref tS, .ref tZ, .ref tN])), aI g tS 4 (va_up fS ((t).toNat) so), aI g tZ 4 (va_up fZ ((t).toNat) mn), aJ g tN 80 (va_up fM ((t * 20).toNat + k) 0)] H := hP
        have hD : va_D A [(qT, .inr (6, [.ref tS, .ref tZ, .ref tN])), aI g tS 4 (va_up fS ((t).toNat) so), aI g tZ 4 (va_up fZ ((t).toNat) mn), aJ g tN 80 (va_up fM ((t * 20).toNat + k) 0)] := hD
        refine lv_iinc (v := (iI (i + 1))) (lv' := [(5, .int (iI (i + 1))), (4, .int (iI (t * 20))), (0, .ref qT), (1, .int (iI t)), (2, .int (iI so)), (3, .int (iI mn))]) hx hb dX6_lay_41 hl (k := 0) rfl (iI_add _ _) (by decide) rfl (fun ls hl => ?_)
        refine lv_goto (tgt := 23) hx hb dX6_lay_44 (by decide) ?_
        exact ih_2  (k + 1) (i + 1) (va_up fM ((t * 20).toNat + k) 0) (by omega) (by omega) (by rw [h_M]; exact layN_up _ _ _) (by omega) _ _ ls (hP.sub [0, 1, 2, 3] rfl) (hD.sub [0, 1, 2, 3] (by decide) rfl) hS (lv_sub hl [0, 1, 2, 3, 4, 5] rfl)
  exact K_1 (20 - 0 + 1) 0 0 fN (rfl) (by omega) ((layN_0 _ _).symm) (Nat.lt_succ_self _) _ _ ls (hP.sub [0, 1, 2, 3] rfl) (hD.sub [0, 1, 2, 3] (by decide) rfl) hS (lv_sub hl [0, 1, 2, 3, 4, 5] rfl)
set_option maxHeartbeats 4000000 in
set_option maxRecDepth 100000 in
theorem kX6_put (l : Launch) (g : qG) (qT : Nat) (tS : Nat) (tZ : Nat) (tN : Nat) (fS : Nat → Int) (fN : Nat → Int) (t : Int) (pl : Int) (v : Int) (h_t : 0 ≤ t ∧ t ≤ 3) (h_pl : 0 ≤ pl ∧ pl ≤ 19) (h_s : 0 ≤ fS t.toNat ∧ fS t.toNat ≤ 3) (r_v : -9223372036854775808 ≤ v ∧ v ≤ 9223372036854775807) : ME l g yX6_put wsX6_put ({ frames := 0, cells := 0, slots := 0, locals := 0 }) [.ref qT, .int (iI t), .int (iI pl), .long (jI v)] [(qT, .inr (6, [.ref tS, .ref tZ, .ref tN])), aI g tS 4 fS, aJ g tN 80 fN] (fun r w1 => r = none ∧ w1 = [(qT, .inr (6, [.ref tS, .ref tZ, .ref tN])), aI g tS 4 fS, aJ g tN 80 (va_up fN (t * 20 + pl).toNat (cutw (fS t.toNat) v))]) := by
  refine ME.intro (cc := cX6_put) (maxL := 6) (ret := none) (by decide) rfl (Nat.le_of_ble_eq_true rfl) ?_
  intro p e s m below meth c ls Q A H locs ⟨hx, hb, hr, hml, hown, hts, hlocks⟩ hP hE hl hD hA hS hQ
  have hl : lv_has ls 6 [(0, .ref qT), (1, .int (iI t)), (2, .int (iI pl)), (3, .long (jI v))] := hl
  have iwX6 : ∀ w ∈ wsX60, w ∈ wsX6_put := (fun _ h => List.mem_cons_of_mem _ (List.mem_append_right _ h))
  refine lv_bipush (v := iI 64) hx hb dX6_put_0 (by decide) ?_
  refine lv_bipush (v := iI 8) hx hb dX6_put_2 (by decide) ?_
  refine lv_aload_n hx hb dX6_put_4 rfl (lv_at hl 0 rfl) ?_
  refine va_get (D := g.1) (ci := 6) (v := .ref tS) (C := RX6) (T := TX6) (N := 3) hx hb hts iwX6 hown hE.1 hP 0 rfl rfl 0 (by decide) (hts (.fieldLink RX6 9 "QuickCount$Trays" "sorts" "[I") (List.mem_cons_of_mem _ (List.mem_append_left _ (List.mem_of_getElem? (i := 0) rfl)))) (fun _ h9 => h9) rfl dX6_put_5 ?_
  refine lv_iload_n hx hb dX6_put_8 rfl (lv_at hl 1 rfl) ?_
  refine q_iald hx hb hE hP 1 rfl ((t).toNat) (by omega) (by decide) dX6_put_9 ?_
  refine lv_ishl hx hb dX6_put_10 ?_
  refine q_si (y := (iI (sh8 (fS t.toNat)))) (sh8_eq h_s.1 h_s.2) ?_
  refine q_isub hx hb dX6_put_11 ?_
  refine lv_istore (lv' := [(5, .int (iI (64 - (sh8 (fS t.toNat))))), (0, .ref qT), (1, .int (iI t)), (2, .int (iI pl)), (3, .long (jI v))]) hx hb dX6_put_12 hl (by decide) rfl (fun ls hl => ?_)
  refine lv_aload_n hx hb dX6_put_14 rfl (lv_at hl 1 rfl) ?_
  refine va_get (D := g.1) (ci := 6) (v := .ref tN) (C := RX6) (T := TX6) (N := 3) hx hb hts iwX6 hown hE.1 hP 0 rfl rfl 2 (by decide) (hts (.fieldLink RX6 18 "QuickCount$Trays" "numbers" "[J") (List.mem_cons_of_mem _ (List.mem_append_left _ (List.mem_of_getElem? (i := 1) rfl)))) (fun _ h9 => h9) rfl dX6_put_15 ?_
  refine lv_iload_n hx hb dX6_put_18 rfl (lv_at hl 2 rfl) ?_
  refine lv_bipush (v := iI 20) hx hb dX6_put_19 (by decide) ?_
  refine q_imul hx hb dX6_put_21 ?_
  refine lv_iload_n hx hb dX6_put_22 rfl (lv_at hl 3 rfl) ?_
  refine q_iadd hx hb dX6_put_23 ?_
  refine lv_lload_n hx hb dX6_put_24 rfl (lv_at hl 4 rfl) ?_
  refine lv_iload hx hb dX6_put_25 (lv_at hl 0 rfl) ?_
  refine lv_lshl (v := (jI v <<< ((iI (64 - (sh8 (fS t.toNat)))).toInt64 &&& 63))) hx hb dX6_put_27 (rfl) ?_
  refine lv_iload hx hb dX6_put_28 (lv_at hl 0 rfl) ?_
  refine lv_lshr (v := (jI (cutw (fS t.toNat) v))) hx hb dX6_put_30 (cutw_eq h_s.1 h_s.2 r_v) ?_
  refine q_last hx hb hE hP hD hS 2 rfl (((t * 20) + pl).toNat) (by omega) (by decide) dX6_put_31 (fun H locs hP hD hS => ?_)
  have hP : va_P g.1 vwCl [(qT, .inr (6, [.ref tS, .ref tZ, .ref tN])), aI g tS 4 fS, aJ g tN 80 (va_up fN (((t * 20) + pl).toNat) (cutw (fS t.toNat) v))] H := hP
  have hD : va_D A [(qT, .inr (6, [.ref tS, .ref tZ, .ref tN])), aI g tS 4 fS, aJ g tN 80 (va_up fN (((t * 20) + pl).toNat) (cutw (fS t.toNat) v))] := hD
  exact qe_v hx hb hr hlocks hQ hS dX6_put_32 hP hD (⟨rfl, rfl⟩)
set_option maxHeartbeats 4000000 in
set_option maxRecDepth 100000 in
theorem kX1_are (l : Launch) (g : qG) (qH : Nat) (hB : Nat) (fB : Nat → Bool) (x : Int) (y : Int) (h_x : 0 ≤ x ∧ x ≤ 9) (h_y : 0 ≤ y ∧ y ≤ 9) : MR l g yX1_are wsX1_are ({ frames := 0, cells := 0, slots := 0, locals := 0 }) [.ref qH, .int (iI x), .int (iI y)] [(qH, .inr (1, [.ref hB])), aZ g hB 100 fB] (fun r => r = some (.int (bP (fB (x * 10 + y).toNat = true)))) := by
  refine MR.intro (cc := cX1_are) (maxL := 3) (ret := (some .boolean)) (by decide) rfl (Nat.le_of_ble_eq_true rfl) ?_
  intro p e s m below meth c ls Q ⟨hx, hb, hr, hml, hown, hts, hlocks⟩ hP hE hl hQ
  have hl : lv_has ls 3 [(0, .ref qH), (1, .int (iI x)), (2, .int (iI y))] := hl
  have iwX1 : ∀ w ∈ wsX10, w ∈ wsX1_are := (fun _ h => List.mem_cons_of_mem _ (List.mem_append_right _ h))
  refine lv_aload_n hx hb dX1_are_0 rfl (lv_at hl 0 rfl) ?_
  refine va_get (D := g.1) (ci := 1) (v := .ref hB) (C := RX1) (T := TX1) (N := 1) hx hb hts iwX1 hown hE.1 hP 0 rfl rfl 0 (by decide) (hts (.fieldLink RX1 9 "QuickCount$Habits" "pairs" "[Z") (List.mem_cons_of_mem _ (List.mem_append_left _ (List.mem_of_getElem? (i := 0) rfl)))) (fun _ h9 => h9) rfl dX1_are_1 ?_
  refine lv_iload_n hx hb dX1_are_4 rfl (lv_at hl 1 rfl) ?_
  refine lv_bipush (v := iI 10) hx hb dX1_are_5 (by decide) ?_
  refine q_imul hx hb dX1_are_7 ?_
  refine lv_iload_n hx hb dX1_are_8 rfl (lv_at hl 2 rfl) ?_
  refine q_iadd hx hb dX1_are_9 ?_
  refine q_zald hx hb hE hP 1 rfl (((x * 10) + y).toNat) (by omega) (by decide) dX1_are_10 ?_
  exact qr_z hx hb hr hlocks hQ dX1_are_11 (bP_nar _) (rfl)
set_option maxHeartbeats 4000000 in
set_option maxRecDepth 100000 in
theorem kX1_set (l : Launch) (g : qG) (qH : Nat) (hB : Nat) (fB : Nat → Bool) (x : Int) (y : Int) (is : Bool) (h_x : 0 ≤ x ∧ x ≤ 9) (h_y : 0 ≤ y ∧ y ≤ 9) : ME l g yX1_set wsX1_set ({ frames := 0, cells := 0, slots := 0, locals := 0 }) [.ref qH, .int (iI x), .int (iI y), .int (bP (is = true))] [(qH, .inr (1, [.ref hB])), aZ g hB 100 fB] (fun r w1 => r = none ∧ w1 = [(qH, .inr (1, [.ref hB])), aZ g hB 100 (va_up (va_up fB (x * 10 + y).toNat is) (y * 10 + x).toNat is)]) := by
  refine ME.intro (cc := cX1_set) (maxL := 4) (ret := none) (by decide) rfl (Nat.le_of_ble_eq_true rfl) ?_
  intro p e s m below meth c ls Q A H locs ⟨hx, hb, hr, hml, hown, hts, hlocks⟩ hP hE hl hD hA hS hQ
  have hl : lv_has ls 4 [(0, .ref qH), (1, .int (iI x)), (2, .int (iI y)), (3, .int (bP (is = true)))] := hl
  have iwX1 : ∀ w ∈ wsX10, w ∈ wsX1_set := (fun _ h => List.mem_cons_of_mem _ (List.mem_append_right _ h))
  refine lv_aload_n hx hb dX1_set_0 rfl (lv_at hl 0 rfl) ?_
  refine va_get (D := g.1) (ci := 1) (v := .ref hB) (C := RX1) (T := TX1) (N := 1) hx hb hts iwX1 hown hE.1 hP 0 rfl rfl 0 (by decide) (hts (.fieldLink RX1 9 "QuickCount$Habits" "pairs" "[Z") (List.mem_cons_of_mem _ (List.mem_append_left _ (List.mem_of_getElem? (i := 0) rfl)))) (fun _ h9 => h9) rfl dX1_set_1 ?_
  refine lv_iload_n hx hb dX1_set_4 rfl (lv_at hl 1 rfl) ?_
  refine lv_bipush (v := iI 10) hx hb dX1_set_5 (by decide) ?_
  refine q_imul hx hb dX1_set_7 ?_
  refine lv_iload_n hx hb dX1_set_8 rfl (lv_at hl 2 rfl) ?_
  refine q_iadd hx hb dX1_set_9 ?_
  refine lv_iload_n hx hb dX1_set_10 rfl (lv_at hl 3 rfl) ?_
  refine q_zast hx hb hE hP hD hS 1 rfl (((x * 10) + y).toNat) (by omega) (by decide) dX1_set_11 (fun H locs hP hD hS => ?_)
  have hP : va_P g.1 vwCl [(qH, .inr (1, [.ref hB])), aZ g hB 100 (va_up fB (((x * 10) + y).toNat) (decide (is = true)))] H := hP
  have hD : va_D A [(qH, .inr (1, [.ref hB])), aZ g hB 100 (va_up fB (((x * 10) + y).toNat) (decide (is = true)))] := hD
  refine lv_aload_n hx hb dX1_set_12 rfl (lv_at hl 0 rfl) ?_
  refine va_get (D := g.1) (ci := 1) (v := .ref hB) (C := RX1) (T := TX1) (N := 1) hx hb hts iwX1 hown hE.1 hP 0 rfl rfl 0 (by decide) (hts (.fieldLink RX1 9 "QuickCount$Habits" "pairs" "[Z") (List.mem_cons_of_mem _ (List.mem_append_left _ (List.mem_of_getElem? (i := 0) rfl)))) (fun _ h9 => h9) rfl dX1_set_13 ?_
  refine lv_iload_n hx hb dX1_set_16 rfl (lv_at hl 2 rfl) ?_
  refine lv_bipush (v := iI 10) hx hb dX1_set_17 (by decide) ?_
  refine q_imul hx hb dX1_set_19 ?_
  refine lv_iload_n hx hb dX1_set_20 rfl (lv_at hl 1 rfl) ?_
  refine q_iadd hx hb dX1_set_21 ?_
  refine lv_iload_n hx hb dX1_set_22 rfl (lv_at hl 3 rfl) ?_
  refine q_zast hx hb hE hP hD hS 1 rfl (((y * 10) + x).toNat) (by omega) (by decide) dX1_set_23 (fun H locs hP hD hS => ?_)
  have hP : va_P g.1 vwCl [(qH, .inr (1, [.ref hB])), aZ g hB 100 (va_up (va_up fB (((x * 10) + y).toNat) (decide (is = true))) (((y * 10) + x).toNat) (decide (is = true)))] H := hP
  have hD : va_D A [(qH, .inr (1, [.ref hB])), aZ g hB 100 (va_up (va_up fB (((x * 10) + y).toNat) (decide (is = true))) (((y * 10) + x).toNat) (decide (is = true)))] := hD
  exact qe_v hx hb hr hlocks hQ hS dX1_set_24 hP hD (⟨rfl, by simp only [Bool.decide_eq_true]⟩)
set_option maxHeartbeats 4000000 in
set_option maxRecDepth 100000 in
theorem kX4_add (l : Launch) (g : qG) (qP : Nat) (pL : Nat) (pR : Nat) (pD : Nat) (pW : Nat) (pN : Nat) (pH : Nat) (pT : Nat) (fL : Nat → Int) (fR : Nat → Int) (fPN : Nat → Int) (pn : Int) (la : Int) (ro : Int) (h_la : 0 ≤ la ∧ la ≤ 3) (h_pn : 0 ≤ pn ∧ pn ≤ 39) : ME l g yX4_add wsX4_add ({ frames := 0, cells := 0, slots := 0, locals := 0 }) [.ref qP, .int (iI la), .int (iI ro)] [(qP, .inr (4, [.ref pL, .ref pR, .ref pD, .ref pW, .ref pN, .ref pH, .ref pT, .int (iI pn)])), aI g pL 40 fL, aI g pR 40 fR, aI g pN 4 fPN] (fun r w1 => r = some (.int (iI pn)) ∧ w1 = [(qP, .inr (4, [.ref pL, .ref pR, .ref pD, .ref pW, .ref pN, .ref pH, .ref pT, .int (iI (pn + 1))])), aI g pL 40 (va_up fL pn.toNat la), aI g pR 40 (va_up fR pn.toNat ro), aI g pN 4 (va_up fPN la.toNat (fPN la.toNat + 1))]) := by
  refine ME.intro (cc := cX4_add) (maxL := 4) (ret := (some .int)) (by decide) rfl (Nat.le_of_ble_eq_true rfl) ?_
  intro p e s m below meth c ls Q A H locs ⟨hx, hb, hr, hml, hown, hts, hlocks⟩ hP hE hl hD hA hS hQ
  have hl : lv_has ls 4 [(0, .ref qP), (1, .int (iI la)), (2, .int (iI ro))] := hl
  have iwX4 : ∀ w ∈ wsX40, w ∈ wsX4_add := (fun _ h => List.mem_cons_of_mem _ (List.mem_append_right _ h))
  refine lv_aload_n hx hb dX4_add_0 rfl (lv_at hl 0 rfl) ?_
  refine va_get (D := g.1) (ci := 4) (v := .int (iI pn)) (C := RX4) (T := TX4) (N := 8) hx hb hts iwX4 hown hE.1 hP 0 rfl rfl 7 (by decide) (hts (.fieldLink RX4 34 "QuickCount$PollBook" "many" "I") (List.mem_cons_of_mem _ (List.mem_append_left _ (List.mem_of_getElem? (i := 0) rfl)))) (fun _ h9 => h9) rfl dX4_add_1 ?_
  refine lv_istore_n (lv' := [(3, .int (iI pn)), (0, .ref qP), (1, .int (iI la)), (2, .int (iI ro))]) hx hb dX4_add_4 rfl hl (by decide) rfl (fun ls hl => ?_)
  refine lv_aload_n hx hb dX4_add_5 rfl (lv_at hl 1 rfl) ?_
  refine va_get (D := g.1) (ci := 4) (v := .ref pL) (C := RX4) (T := TX4) (N := 8) hx hb hts iwX4 hown hE.1 hP 0 rfl rfl 0 (by decide) (hts (.fieldLink RX4 9 "QuickCount$PollBook" "layers" "[I") (List.mem_cons_of_mem _ (List.mem_append_left _ (List.mem_of_getElem? (i := 1) rfl)))) (fun _ h9 => h9) rfl dX4_add_6 ?_
  refine lv_iload_n hx hb dX4_add_9 rfl (lv_at hl 0 rfl) ?_
  refine lv_iload_n hx hb dX4_add_10 rfl (lv_at hl 2 rfl) ?_
  refine q_iast hx hb hE hP hD hS 1 rfl ((pn).toNat) (by omega) (by decide) dX4_add_11 (fun H locs hP hD hS => ?_)
  have hP : va_P g.1 vwCl [(qP, .inr (4, [.ref pL, .ref pR, .ref pD, .ref pW, .ref pN, .ref pH, .ref pT, .int (iI pn)])), aI g pL 40 (va_up fL ((pn).toNat) la), aI g pR 40 fR, aI g pN 4 fPN] H := hP
  have hD : va_D A [(qP, .inr (4, [.ref pL, .ref pR, .ref pD, .ref pW, .ref pN, .ref pH, .ref pT, .int (iI pn)])), aI g pL 40 (va_up fL ((pn).toNat) la), aI g pR 40 fR, aI g pN 4 fPN] := hD
  refine lv_aload_n hx hb dX4_add_12 rfl (lv_at hl 1 rfl) ?_
  refine va_get (D := g.1) (ci := 4) (v := .ref pR) (C := RX4) (T := TX4) (N := 8) hx hb hts iwX4 hown hE.1 hP 0 rfl rfl 1 (by decide) (hts (.fieldLink RX4 15 "QuickCount$PollBook" "rolls" "[I") (List.mem_cons_of_mem _ (List.mem_append_left _ (List.mem_of_getElem? (i := 2) rfl)))) (fun _ h9 => h9) rfl dX4_add_13 ?_
  refine lv_iload_n hx hb dX4_add_16 rfl (lv_at hl 0 rfl) ?_
  refine lv_iload_n hx hb dX4_add_17 rfl (lv_at hl 3 rfl) ?_
  refine q_iast hx hb hE hP hD hS 2 rfl ((pn).toNat) (by omega) (by decide) dX4_add_18 (fun H locs hP hD hS => ?_)
  have hP : va_P g.1 vwCl [(qP, .inr (4, [.ref pL, .ref pR, .ref pD, .ref pW, .ref pN, .ref pH, .ref pT, .int (iI pn)])), aI g pL 40 (va_up fL ((pn).toNat) la), aI g pR 40 (va_up fR ((pn).toNat) ro), aI g pN 4 fPN] H := hP
  have hD : va_D A [(qP, .inr (4, [.ref pL, .ref pR, .ref pD, .ref pW, .ref pN, .ref pH, .ref pT, .int (iI pn)])), aI g pL 40 (va_up fL ((pn).toNat) la), aI g pR 40 (va_up fR ((pn).toNat) ro), aI g pN 4 fPN] := hD
  refine lv_aload_n hx hb dX4_add_19 rfl (lv_at hl 1 rfl) ?_
  refine va_get (D := g.1) (ci := 4) (v := .ref pN) (C := RX4) (T := TX4) (N := 8) hx hb hts iwX4 hown hE.1 hP 0 rfl rfl 4 (by decide) (hts (.fieldLink RX4 25 "QuickCount$PollBook" "perLayer" "[I") (List.mem_cons_of_mem _ (List.mem_append_left _ (List.mem_of_getElem? (i := 3) rfl)))) (fun _ h9 => h9) rfl dX4_add_20 ?_
  refine lv_iload_n hx hb dX4_add_23 rfl (lv_at hl 2 rfl) ?_
  refine lv_dup2_11 hx hb dX4_add_24 rfl rfl ?_
  refine q_iald hx hb hE hP 3 rfl ((la).toNat) (by omega) (by decide) dX4_add_25 ?_
  refine lv_iconst (v := iI 1) hx hb dX4_add_26 rfl ?_
  refine q_iadd hx hb dX4_add_27 ?_
  refine q_iast hx hb hE hP hD hS 3 rfl ((la).toNat) (by omega) (by decide) dX4_add_28 (fun H locs hP hD hS => ?_)
  have hP : va_P g.1 vwCl [(qP, .inr (4, [.ref pL, .ref pR, .ref pD, .ref pW, .ref pN, .ref pH, .ref pT, .int (iI pn)])), aI g pL 40 (va_up fL ((pn).toNat) la), aI g pR 40 (va_up fR ((pn).toNat) ro), aI g pN 4 (va_up fPN ((la).toNat) ((fPN ((la).toNat)) + 1))] H := hP
  have hD : va_D A [(qP, .inr (4, [.ref pL, .ref pR, .ref pD, .ref pW, .ref pN, .ref pH, .ref pT, .int (iI pn)])), aI g pL 40 (va_up fL ((pn).toNat) la), aI g pR 40 (va_up fR ((pn).toNat) ro), aI g pN 4 (va_up fPN ((la).toNat) ((fPN ((la).toNat)) + 1))] := hD
  refine lv_aload_n hx hb dX4_add_29 rfl (lv_at hl 1 rfl) ?_
  refine lv_dup hx hb dX4_add_30 rfl ?_
  refine va_get (D := g.1) (ci := 4) (v := .int (iI pn)) (C := RX4) (T := TX4) (N := 8) hx hb hts iwX4 hown hE.1 hP 0 rfl rfl 7 (by decide) (hts (.fieldLink RX4 34 "QuickCount$PollBook" "many" "I") (List.mem_cons_of_mem _ (List.mem_append_left _ (List.mem_of_getElem? (i := 0) rfl)))) (fun _ h9 => h9) rfl dX4_add_31 ?_
  refine lv_iconst (v := iI 1) hx hb dX4_add_34 rfl ?_
  refine q_iadd hx hb dX4_add_35 ?_
  refine va_put (D := g.1) (ci := 4) (v := .int (iI (pn + 1))) (ty := .int) (C := RX4) (T := TX4) (N := 8) hx hb hts iwX4 tyX4 tyX4_ok nmX4 hown hE.1 hP hD hS 0 rfl rfl 7 (by decide) (hts (.fieldLink RX4 34 "QuickCount$PollBook" "many" "I") (List.mem_cons_of_mem _ (List.mem_append_left _ (List.mem_of_getElem? (i := 0) rfl)))) (fun _ h9 => h9) rfl (by decide +kernel) rfl rfl (Nat.le_of_ble_eq_true rfl) dX4_add_36 (fun H locs hP hD hS => ?_)
  have hP : va_P g.1 vwCl [(qP, .inr (4, [.ref pL, .ref pR, .ref pD, .ref pW, .ref pN, .ref pH, .ref pT, .int (iI (pn + 1))])), aI g pL 40 (va_up fL ((pn).toNat) la), aI g pR 40 (va_up fR ((pn).toNat) ro), aI g pN 4 (va_up fPN ((la).toNat) ((fPN ((la).toNat)) + 1))] H := hP
  have hD : va_D A [(qP, .inr (4, [.ref pL, .ref pR, .ref pD, .ref pW, .ref pN, .ref pH, .ref pT, .int (iI (pn + 1))])), aI g pL 40 (va_up fL ((pn).toNat) la), aI g pR 40 (va_up fR ((pn).toNat) ro), aI g pN 4 (va_up fPN ((la).toNat) ((fPN ((la).toNat)) + 1))] := hD
  refine lv_iload_n hx hb dX4_add_39 rfl (lv_at hl 0 rfl) ?_
  exact qe_i hx hb hr hlocks hQ hS dX4_add_40 hP hD (⟨rfl, rfl⟩)
set_option maxHeartbeats 4000000 in
set_option maxRecDepth 100000 in
theorem kX4_hasDraw (l : Launch) (g : qG) (qP : Nat) (pL : Nat) (pR : Nat) (pD : Nat) (pW : Nat) (pN : Nat) (pH : Nat) (pT : Nat) (fH : Nat → Int) (pn : Int) (h_H : ∀ k, 0 ≤ fH k ∧ fH k ≤ 40) : MR l g yX4_hasDraw wsX4_hasDraw ({ frames := 0, cells := 0, slots := 0, locals := 0 }) [.ref qP] [(qP, .inr (4, [.ref pL, .ref pR, .ref pD, .ref pW, .ref pN, .ref pH, .ref pT, .int (iI pn)])), aI g pH 4 fH] (fun r => r = some (.int (bP (0 < fH 0 ∨ 0 < fH 1 ∨ 0 < fH 2 ∨ 0 < fH 3)))) := by
  refine MR.intro (cc := cX4_hasDraw) (maxL := 2) (ret := (some .boolean)) (by decide) rfl (Nat.le_of_ble_eq_true rfl) ?_
  intro p e s m below meth c ls Q ⟨hx, hb, hr, hml, hown, hts, hlocks⟩ hP hE hl hQ
  have hl : lv_has ls 2 [(0, .ref qP)] := hl
  have iwX4 : ∀ w ∈ wsX40, w ∈ wsX4_hasDraw := (fun _ h => List.mem_cons_of_mem _ (List.mem_append_right _ h))
  have h_0 := h_H 0
  have h_1 := h_H 1
  have h_2 := h_H 2
  have h_3 := h_H 3
  refine lv_iconst (v := iI 0) hx hb dX4_hasDraw_0 rfl ?_
  refine lv_istore_n (lv' := [(1, .int (iI 0)), (0, .ref qP)]) hx hb dX4_hasDraw_1 rfl hl (by decide) rfl (fun ls hl => ?_)
  refine lv_iload_n hx hb dX4_hasDraw_2 rfl (lv_at hl 0 rfl) ?_
  refine lv_iconst (v := iI 4) hx hb dX4_hasDraw_3 rfl ?_
  refine q_icmp_ge (tgt := 24) hx hb dX4_hasDraw_4 (by decide) (by omega) (fun c_1 => ?_) (fun c_1 => ?_)
  · exact absurd c_1 (by decide)
  · refine lv_aload_n hx hb dX4_hasDraw_7 rfl (lv_at hl 1 rfl) ?_
    refine va_get (D := g.1) (ci := 4) (v := .ref pH) (C := RX4) (T := TX4) (N := 8) hx hb hts iwX4 hown hE.1 hP 0 rfl rfl 5 (by decide) (hts (.fieldLink RX4 28 "QuickCount$PollBook" "had" "[I") (List.mem_cons_of_mem _ (List.mem_append_left _ (List.mem_of_getElem? (i := 0) rfl)))) (fun _ h9 => h9) rfl dX4_hasDraw_8 ?_
    refine lv_iload_n hx hb dX4_hasDraw_11 rfl (lv_at hl 0 rfl) ?_
    refine q_iald hx hb hE hP 1 rfl 0 (by decide) (by decide) dX4_hasDraw_12 ?_
    refine q_if_le (tgt := 18) hx hb dX4_hasDraw_13 (by decide) (by omega) (fun c_2 => ?_) (fun c_2 => ?_)
    · refine lv_iinc (v := (iI 1)) (lv' := [(1, .int (iI 1)), (0, .ref qP)]) hx hb dX4_hasDraw_18 hl (k := 0) rfl (by decide) (by decide) rfl (fun ls hl => ?_)
      refine lv_goto (tgt := 2) hx hb dX4_hasDraw_21 (by decide) ?_
      refine lv_iload_n hx hb dX4_hasDraw_2 rfl (lv_at hl 0 rfl) ?_
      refine lv_iconst (v := iI 4) hx hb dX4_hasDraw_3 rfl ?_
      refine q_icmp_ge (tgt := 24) hx hb dX4_hasDraw_4 (by decide) (by omega) (fun c_3 => ?_) (fun c_3 => ?_)
      · exact absurd c_3 (by decide)
      · refine lv_aload_n hx hb dX4_hasDraw_7 rfl (lv_at hl 1 rfl) ?_
        refine va_get (D := g.1) (ci := 4) (v := .ref pH) (C := RX4) (T := TX4) (N := 8) hx hb hts iwX4 hown hE.1 hP 0 rfl rfl 5 (by decide) (hts (.fieldLink RX4 28 "QuickCount$PollBook" "had" "[I") (List.mem_cons_of_mem _ (List.mem_append_left _ (List.mem_of_getElem? (i := 0) rfl)))) (fun _ h9 => h9) rfl dX4_hasDraw_8 ?_
        refine lv_iload_n hx hb dX4_hasDraw_11 rfl (lv_at hl 0 rfl) ?_
        refine q_iald hx hb hE hP 1 rfl 1 (by decide) (by decide) dX4_hasDraw_12 ?_
        refine q_if_le (tgt := 18) hx hb dX4_hasDraw_13 (by decide) (by omega) (fun c_4 => ?_) (fun c_4 => ?_)
        · refine lv_iinc (v := (iI 2)) (lv' := [(1, .int (iI 2)), (0, .ref qP)]) hx hb dX4_hasDraw_18 hl (k := 0) rfl (by decide) (by decide) rfl (fun ls hl => ?_)
          refine lv_goto (tgt := 2) hx hb dX4_hasDraw_21 (by decide) ?_
          refine lv_iload_n hx hb dX4_hasDraw_2 rfl (lv_at hl 0 rfl) ?_
          refine lv_iconst (v := iI 4) hx hb dX4_hasDraw_3 rfl ?_
          refine q_icmp_ge (tgt := 24) hx hb dX4_hasDraw_4 (by decide) (by omega) (fun c_5 => ?_) (fun c_5 => ?_)
          · exact absurd c_5 (by decide)
          · refine lv_aload_n hx hb dX4_hasDraw_7 rfl (lv_at hl 1 rfl) ?_
            refine va_get (D := g.1) (ci := 4) (v := .ref pH) (C := RX4) (T := TX4) (N := 8) hx hb hts iwX4 hown hE.1 hP 0 rfl rfl 5 (by decide) (hts (.fieldLink RX4 28 "QuickCount$PollBook" "had" "[I") (List.mem_cons_of_mem _ (List.mem_append_left _ (List.mem_of_getElem? (i := 0) rfl)))) (fun _ h9 => h9) rfl dX4_hasDraw_8 ?_
            refine lv_iload_n hx hb dX4_hasDraw_11 rfl (lv_at hl 0 rfl) ?_
            refine q_iald hx hb hE hP 1 rfl 2 (by decide) (by decide) dX4_hasDraw_12 ?_
            refine q_if_le (tgt := 18) hx hb dX4_hasDraw_13 (by decide) (by omega) (fun c_6 => ?_) (fun c_6 => ?_)
            · refine lv_iinc (v := (iI 3)) (lv' := [(1, .int (iI 3)), (0, .ref qP)]) hx hb dX4_hasDraw_18 hl (k := 0) rfl (by decide) (by decide) rfl (fun ls hl => ?_)
              refine lv_goto (tgt := 2) hx hb dX4_hasDraw_21 (by decide) ?_
              refine lv_iload_n hx hb dX4_hasDraw_2 rfl (lv_at hl 0 rfl) ?_
              refine lv_iconst (v := iI 4) hx hb dX4_hasDraw_3 rfl ?_
              refine q_icmp_ge (tgt := 24) hx hb dX4_hasDraw_4 (by decide) (by omega) (fun c_7 => ?_) (fun c_7 => ?_)
              · exact absurd c_7 (by decide)
              · refine lv_aload_n hx hb dX4_hasDraw_7 rfl (lv_at hl 1 rfl) ?_
                refine va_get (D := g.1) (ci := 4) (v := .ref pH) (C := RX4) (T := TX4) (N := 8) hx hb hts iwX4 hown hE.1 hP 0 rfl rfl 5 (by decide) (hts (.fieldLink RX4 28 "QuickCount$PollBook" "had" "[I") (List.mem_cons_of_mem _ (List.mem_append_left _ (List.mem_of_getElem? (i := 0) rfl)))) (fun _ h9 => h9) rfl dX4_hasDraw_8 ?_
                refine lv_iload_n hx hb dX4_hasDraw_11 rfl (lv_at hl 0 rfl) ?_
                refine q_iald hx hb hE hP 1 rfl 3 (by decide) (by decide) dX4_hasDraw_12 ?_
                refine q_if_le (tgt := 18) hx hb dX4_hasDraw_13 (by decide) (by omega) (fun c_8 => ?_) (fun c_8 => ?_)
                · refine lv_iinc (v := (iI 4)) (lv' := [(1, .int (iI 4)), (0, .ref qP)]) hx hb dX4_hasDraw_18 hl (k := 0) rfl (by decide) (by decide) rfl (fun ls hl => ?_)
                  refine lv_goto (tgt := 2) hx hb dX4_hasDraw_21 (by decide) ?_
                  refine lv_iload_n hx hb dX4_hasDraw_2 rfl (lv_at hl 0 rfl) ?_
                  refine lv_iconst (v := iI 4) hx hb dX4_hasDraw_3 rfl ?_
                  refine q_icmp_ge (tgt := 24) hx hb dX4_hasDraw_4 (by decide) (by omega) (fun c_9 => ?_) (fun c_9 => ?_)
                  · refine lv_iconst (v := iI 0) hx hb dX4_hasDraw_24 rfl ?_
                    exact qr_z hx hb hr hlocks hQ dX4_hasDraw_25 rfl (congrArg (fun z => some (Value.int z)) (bP_f (by omega)).symm)
                  · exact absurd c_9 (by decide)
                · refine lv_iconst (v := iI 1) hx hb dX4_hasDraw_16 rfl ?_
                  exact qr_z hx hb hr hlocks hQ dX4_hasDraw_17 rfl (congrArg (fun z => some (Value.int z)) (bP_t (by omega)).symm)
            · refine lv_iconst (v := iI 1) hx hb dX4_hasDraw_16 rfl ?_
              exact qr_z hx hb hr hlocks hQ dX4_hasDraw_17 rfl (congrArg (fun z => some (Value.int z)) (bP_t (by omega)).symm)
        · refine lv_iconst (v := iI 1) hx hb dX4_hasDraw_16 rfl ?_
          exact qr_z hx hb hr hlocks hQ dX4_hasDraw_17 rfl (congrArg (fun z => some (Value.int z)) (bP_t (by omega)).symm)
    · refine lv_iconst (v := iI 1) hx hb dX4_hasDraw_16 rfl ?_
      exact qr_z hx hb hr hlocks hQ dX4_hasDraw_17 rfl (congrArg (fun z => some (Value.int z)) (bP_t (by omega)).symm)
