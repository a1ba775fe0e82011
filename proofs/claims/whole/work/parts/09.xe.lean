theorem cpy_at {α : Type} {f g : Nat → α} {a b n j : Nat} (h : j < n) : va_cpy f g a b n (b + j) = f (a + j) := by
  unfold va_cpy; rw [if_pos (by omega), show a + (b + j - b) = a + j by omega]
-- how many of a layer
def cntL (fL : Nat → Int) (la : Int) : Nat → Int
  | 0 => 0
  | n + 1 => cntL fL la n + (if fL n = la then 1 else 0)
theorem cntL_s (fL : Nat → Int) (la : Int) (n : Nat) : cntL fL la (n + 1) = cntL fL la n + (if fL n = la then 1 else 0) := rfl
theorem cntL_r (fL : Nat → Int) (la : Int) (n : Nat) : 0 ≤ cntL fL la n ∧ cntL fL la n ≤ n := by
  induction n with
  | zero => exact ⟨Int.le_refl _, Int.le_refl _⟩
  | succ n ih => rw [cntL_s]; split <;> omega
theorem cntL_m (fL : Nat → Int) (la : Int) {a b : Nat} (h : a ≤ b) : cntL fL la a ≤ cntL fL la b := by
  induction b with
  | zero => rw [show a = 0 by omega]; exact Int.le_refl _
  | succ b ih =>
    rcases (show a ≤ b ∨ a = b + 1 by omega) with q | q
    · have := ih q; rw [cntL_s]; split <;> omega
    · rw [q]; exact Int.le_refl _
-- lots
def lotN (z : Int) : Int := (z * 1103515245 + 12345) % 2147483648
theorem lotN_r (z : Int) : 0 ≤ lotN z ∧ lotN z ≤ 2147483647 := by unfold lotN; omega
/-- seed, how many are left, how many are wanted, behind the first n polls -/
def lots (fL : Nat → Int) (la all take seed : Int) : Nat → Int × Int × Int
  | 0 => (seed, all, take)
  | n + 1 =>
    let u := lots fL la all take seed n
    if fL n = la then (lotN u.1, u.2.1 - 1, u.2.2 - (if lotN u.1 / 65536 % u.2.1 < u.2.2 then 1 else 0)) else u
def lotD (fL : Nat → Int) (la all take seed : Int) (fD : Nat → Bool) (n : Nat) : Nat → Bool := fun j =>
  if j < n ∧ fL j = la then decide (lotN (lots fL la all take seed j).1 / 65536 % (lots fL la all take seed j).2.1 < (lots fL la all take seed j).2.2) else fD j
def lotW (fL : Nat → Int) (la : Int) (fW : Nat → Bool) (n : Nat) : Nat → Bool := fun j => if j < n ∧ fL j = la then true else fW j
theorem lots_y {fL : Nat → Int} {la all take seed : Int} {n : Nat} (h : fL n = la) : lots fL la all take seed (n + 1) = (lotN (lots fL la all take seed n).1, (lots fL la all take seed n).2.1 - 1, (lots fL la all take seed n).2.2 - (if lotN (lots fL la all take seed n).1 / 65536 % (lots fL la all take seed n).2.1 < (lots fL la all take seed n).2.2 then 1 else 0)) := if_pos h
theorem lots_n {fL : Nat → Int} {la all take seed : Int} {n : Nat} (h : ¬ fL n = la) : lots fL la all take seed (n + 1) = lots fL la all take seed n := if_neg h
theorem lots_l (fL : Nat → Int) (la all take seed : Int) (n : Nat) : (lots fL la all take seed n).2.1 = all - cntL fL la n := by
  induction n with
  | zero => show all = all - 0; omega
  | succ n ih =>
    by_cases h : fL n = la
    · rw [lots_y h, cntL_s, if_pos h]; show (lots fL la all take seed n).2.1 - 1 = _; omega
    · rw [lots_n h, cntL_s, if_neg h]; omega
theorem lots_r {fL : Nat → Int} {la all take seed : Int} (h : 0 ≤ seed ∧ seed ≤ 2147483647) (ht : -1000 ≤ take ∧ take ≤ 1000) (n : Nat) : (0 ≤ (lots fL la all take seed n).1 ∧ (lots fL la all take seed n).1 ≤ 2147483647) ∧ take - n ≤ (lots fL la all take seed n).2.2 ∧ (lots fL la all take seed n).2.2 ≤ take := by
  induction n with
  | zero => exact ⟨h, by show take - 0 ≤ take; omega, Int.le_refl _⟩
  | succ n ih =>
    by_cases q : fL n = la
    · rw [lots_y q]
      refine ⟨lotN_r _, ?_⟩
      dsimp only
      split <;> omega
    · rw [lots_n q]; omega
theorem lotD_0 (fL : Nat → Int) (la all take seed : Int) (fD : Nat → Bool) : lotD fL la all take seed fD 0 = fD := by funext j; unfold lotD; rw [if_neg (by omega)]
theorem lotW_0 (fL : Nat → Int) (la : Int) (fW : Nat → Bool) : lotW fL la fW 0 = fW := by funext j; unfold lotW; rw [if_neg (by omega)]
theorem lotD_n {fL : Nat → Int} {la all take seed : Int} {fD : Nat → Bool} {n : Nat} (h : ¬ fL n = la) : lotD fL la all take seed fD (n + 1) = lotD fL la all take seed fD n := by
  funext j; unfold lotD
  by_cases q : j < n ∧ fL j = la
  · rw [if_pos q, if_pos ⟨by omega, q.2⟩]
  · rw [if_neg q, if_neg]; intro z; apply q; refine ⟨?_, z.2⟩
    rcases (show j < n ∨ j = n by omega) with w | w
    · exact w
    · rw [w] at z; exact absurd z.2 h
theorem lotW_n {fL : Nat → Int} {la : Int} {fW : Nat → Bool} {n : Nat} (h : ¬ fL n = la) : lotW fL la fW (n + 1) = lotW fL la fW n := by
  funext j; unfold lotW
  by_cases q : j < n ∧ fL j = la
  · rw [if_pos q, if_pos ⟨by omega, q.2⟩]
  · rw [if_neg q, if_neg]; intro z; apply q; refine ⟨?_, z.2⟩
    rcases (show j < n ∨ j = n by omega) with w | w
    · exact w
    · rw [w] at z; exact absurd z.2 h
theorem lotD_y {fL : Nat → Int} {la all take seed : Int} {fD : Nat → Bool} {n : Nat} (h : fL n = la) : va_up (lotD fL la all take seed fD n) n (decide (lotN (lots fL la all take seed n).1 / 65536 % (lots fL la all take seed n).2.1 < (lots fL la all take seed n).2.2)) = lotD fL la all take seed fD (n + 1) := by
  funext j; unfold va_up
  by_cases q : j = n
  · subst q; rw [if_pos rfl]; unfold lotD; rw [if_pos ⟨by omega, h⟩]
  · rw [if_neg q]; unfold lotD
    by_cases w : j < n ∧ fL j = la
    · rw [if_pos w, if_pos ⟨by omega, w.2⟩]
    · rw [if_neg w, if_neg (fun z => w ⟨by omega, z.2⟩)]
theorem lotW_y {fL : Nat → Int} {la : Int} {fW : Nat → Bool} {n : Nat} (h : fL n = la) : va_up (lotW fL la fW n) n true = lotW fL la fW (n + 1) := by
  funext j; unfold va_up
  by_cases q : j = n
  · subst q; rw [if_pos rfl]; unfold lotW; rw [if_pos ⟨by omega, h⟩]
  · rw [if_neg q]; unfold lotW
    by_cases w : j < n ∧ fL j = la
    · rw [if_pos w, if_pos ⟨by omega, w.2⟩]
    · rw [if_neg w, if_neg (fun z => w ⟨by omega, z.2⟩)]
theorem jI_mask {z : Int} (h : 0 ≤ z ∧ z ≤ 9223372036854775807) : jI z &&& jI 2147483647 = jI (z % 2147483648) := by
  obtain ⟨n, rfl⟩ : ∃ n : Nat, z = n := ⟨z.toNat, by omega⟩
  apply Int64.toBitVec_inj.mp
  rw [Int64.toBitVec_and]
  apply BitVec.eq_of_toNat_eq
  rw [BitVec.toNat_and]
  have e : ∀ m : Nat, m < 18446744073709551616 → (jI (m : Int)).toBitVec.toNat = m := by
    intro m hm
    show (BitVec.ofInt 64 (m : Int)).toNat = m
    rw [BitVec.ofInt_natCast, BitVec.toNat_ofNat]
    exact Nat.mod_eq_of_lt hm
  rw [e n (by omega), show jI 2147483647 = jI ((2147483647 : Nat) : Int) from rfl, e 2147483647 (by omega), show ((n : Int) % 2147483648) = ((n % 2147483648 : Nat) : Int) by omega, e _ (by omega)]
  exact Nat.and_two_pow_sub_one_eq_mod n 31

set_option maxHeartbeats 4000000 in
set_option maxRecDepth 100000 in
theorem kX3_votesOf (l : Launch) (g : qG) (qO : Nat) (oP : Nat) (oQ : Nat) (oV : Nat → Int) (oa : Bool) (om : Int) (oo : Int) (ot : Int) (po : Int) (pa : Int) (h_po : 0 ≤ po ∧ po ≤ 39) (h_pa : 0 ≤ pa ∧ pa ≤ 3) : MR l g yX3_votesOf wsX3_votesOf ({ frames := 0, cells := 0, slots := 0, locals := 0 }) [.ref qO, .int (iI po), .int (iI pa)] [(qO, .inr (3, [.ref oP, .ref oQ, .int (bP (oa = true)), .int (iI om), .int (iI oo), .int (iI ot)])), aI g oQ 160 oV] (fun r => r = some (.int (iI (oV (po * 4 + pa).toNat)))) := by
  refine MR.intro (cc := cX3_votesOf) (maxL := 3) (ret := (some .int)) (by decide) rfl (Nat.le_of_ble_eq_true rfl) ?_
  intro p e s m below meth c ls Q ⟨hx, hb, hr, hml, hown, hts, hlocks⟩ hP hE hl hQ
  have hl : lv_has ls 3 [(0, .ref qO), (1, .int (iI po)), (2, .int (iI pa))] := hl
  have iwX3 : ∀ w ∈ wsX30, w ∈ wsX3_votesOf := (fun _ h => List.mem_cons_of_mem _ (List.mem_append_right _ h))
  refine lv_aload_n hx hb dX3_votesOf_0 rfl (lv_at hl 0 rfl) ?_
  refine va_get (D := g.1) (ci := 3) (v := .ref oQ) (C := RX3) (T := TX3) (N := 6) hx hb hts iwX3 hown hE.1 hP 0 rfl rfl 1 (by decide) (hts (.fieldLink RX3 15 "QuickCount$Officials" "votes" "[I") (List.mem_cons_of_mem _ (List.mem_append_left _ (List.mem_of_getElem? (i := 0) rfl)))) (fun _ h9 => h9) rfl dX3_votesOf_1 ?_
  refine lv_iload_n hx hb dX3_votesOf_4 rfl (lv_at hl 1 rfl) ?_
  refine lv_iconst (v := iI 4) hx hb dX3_votesOf_5 rfl ?_
  refine q_imul hx hb dX3_votesOf_6 ?_
  refine lv_iload_n hx hb dX3_votesOf_7 rfl (lv_at hl 2 rfl) ?_
  refine q_iadd hx hb dX3_votesOf_8 ?_
  refine q_iald hx hb hE hP 1 rfl (((po * 4) + pa).toNat) (by omega) (by decide) dX3_votesOf_9 ?_
  exact qr_i hx hb hr hlocks hQ dX3_votesOf_10 (rfl)
set_option maxHeartbeats 4000000 in
set_option maxRecDepth 100000 in
theorem kX3_put (l : Launch) (g : qG) (qO : Nat) (oP : Nat) (oQ : Nat) (qT : Nat) (tS : Nat) (tZ : Nat) (tN : Nat) (oT : Nat → Bool) (oV : Nat → Int) (fN : Nat → Int) (oa : Bool) (om : Int) (oo : Int) (ot : Int) (po : Int) (t : Int) (pm : Int) (h_po : 0 ≤ po ∧ po ≤ 39) (h_t : 0 ≤ t ∧ t ≤ 3) (h_pm : 2 ≤ pm ∧ pm ≤ 4) : ME l g yX3_put wsX3_put ({ frames := 1, cells := 0, slots := 0, locals := 22 }) [.ref qO, .int (iI po), .ref qT, .int (iI t), .int (iI pm)] [(qO, .inr (3, [.ref oP, .ref oQ, .int (bP (oa = true)), .int (iI om), .int (iI oo), .int (iI ot)])), aZ g oP 40 oT, aI g oQ 160 oV, (qT, .inr (6, [.ref tS, .ref tZ, .ref tN])), aJ g tN 80 fN] (fun r w1 => r = none ∧ w1 = [(qO, .inr (3, [.ref oP, .ref oQ, .int (bP (true = true)), .int (iI om), .int (iI oo), .int (iI ot)])), aZ g oP 40 (va_up oT po.toNat true), aI g oQ 160 (va_cpy fN oV (t * 20).toNat (po * 4).toNat pm.toNat), (qT, .inr (6, [.ref tS, .ref tZ, .ref tN])), aJ g tN 80 fN]) := by
  refine ME.intro (cc := cX3_put) (maxL := 6) (ret := none) (by decide) rfl (Nat.le_of_ble_eq_true rfl) ?_
  intro p e s m below meth c ls Q A H locs ⟨hx, hb, hr, hml, hown, hts, hlocks⟩ hP hE hl hD hA hS hQ
  have hl : lv_has ls 6 [(0, .ref qO), (1, .int (iI po)), (2, .ref qT), (3, .int (iI t)), (4, .int (iI pm))] := hl
  have iwX3 : ∀ w ∈ wsX30, w ∈ wsX3_put := (fun _ h => List.mem_cons_of_mem _ (List.mem_append_left _ (List.mem_append_right _ h)))
  refine lv_iconst (v := iI 0) hx hb dX3_put_0 rfl ?_
  refine lv_istore (lv' := [(5, .int (iI 0)), (0, .ref qO), (1, .int (iI po)), (2, .ref qT), (3, .int (iI t)), (4, .int (iI pm))]) hx hb dX3_put_1 hl (by decide) rfl (fun ls hl => ?_)
  have K_1 : ∀ (fu_3 : Nat) (k : Nat) (i : Int) (fM : Nat → Int), (i = (k : Int)) → ((k : Int) ≤ pm) → (fM = va_cpy fN oV (t * 20).toNat (po * 4).toNat k) → pm.toNat - k < fu_3 → ∀ (H : Heap) (locs : List Loc) (ls : Array Slot), va_P g.1 vwCl [(qO, .inr (3, [.ref oP, .ref oQ, .int (bP (oa = true)), .int (iI om), .int (iI oo), .int (iI ot)])), aZ g oP 40 oT, aI g oQ 160 fM, (qT, .inr (6, [.ref tS, .ref tZ, .ref tN])), aJ g tN 80 fN] H → va_D A [(qO, .inr (3, [.ref oP, .ref oQ, .int (bP (oa = true)), .int (iI om), .int (iI oo), .int (iI ot)])), aZ g oP 40 oT, aI g oQ 160 fM, (qT, .inr (6, [.ref tS, .ref tZ, .ref tN])), aJ g tN 80 fN] → va_S A s.heap H locs → lv_has ls 6 [(5, .int (iI i)), (0, .ref qO), (1, .int (iI po)), (2, .ref qT), (3, .int (iI t)), (4, .int (iI pm))] → W p l e ({ frames := 1, cells := 0, slots := 0, locals := 22 } : Room) s m ([.ref qO, .int (iI po), .ref qT, .int (iI t), .int (iI pm)] : List Value).toArray below meth c H locs 0 0 Q (F0 m 3 ls []) := by
    intro fu_3
    induction fu_3 with
    | zero => exact fun _ _ _ _ _ _ q => absurd q (Nat.not_lt_zero _)
    | succ fu_3 ih_2 =>
      intro k i fM e_i h_k h_M hm_4 H locs ls hP hD hS hl
      have e_ix : (t * 20 + i).toNat = (t * 20).toNat + k := by omega
      refine lv_iload hx hb dX3_put_3 (lv_at hl 0 rfl) ?_
      refine lv_iload hx hb dX3_put_5 (lv_at hl 5 rfl) ?_
      refine q_icmp_ge (tgt := 35) hx hb dX3_put_7 (by decide) (by omega) (fun c_5 => ?_) (fun c_5 => ?_)
      · refine lv_aload_n hx hb dX3_put_35 rfl (lv_at hl 1 rfl) ?_
        refine va_get (D := g.1) (ci := 3) (v := .ref oP) (C := RX3) (T := TX3) (N := 6) hx hb hts iwX3 hown hE.1 hP 0 rfl rfl 0 (by decide) (hts (.fieldLink RX3 9 "QuickCount$Officials" "isTold" "[Z") (List.mem_cons_of_mem _ (List.mem_append_left _ (List.mem_append_left _ (List.mem_of_getElem? (i := 1) rfl))))) (fun _ h9 => h9) rfl dX3_put_36 ?_
        refine lv_iload_n hx hb dX3_put_39 rfl (lv_at hl 2 rfl) ?_
        refine lv_iconst (v := iI 1) hx hb dX3_put_40 rfl ?_
        refine q_zast1 hx hb hE hP hD hS 1 rfl ((po).toNat) (by omega) (by decide) dX3_put_41 (fun H locs hP hD hS => ?_)
        have hP : va_P g.1 vwCl [(qO, .inr (3, [.ref oP, .ref oQ, .int (bP (oa = true)), .int (iI om), .int (iI oo), .int (iI ot)])), aZ g oP 40 (va_up oT ((po).toNat) true), aI g oQ 160 fM, (qT, .inr (6, [.ref tS, .ref tZ, .ref tN])), aJ g tN 80 fN] H := hP
        have hD : va_D A [(qO, .inr (3, [.ref oP, .ref oQ, .int (bP (oa = true)), .int (iI om), .int (iI oo), .int (iI ot)])), aZ g oP 40 (va_up oT ((po).toNat) true), aI g oQ 160 fM, (qT, .inr (6, [.ref tS, .ref tZ, .ref tN])), aJ g tN 80 fN] := hD
        refine lv_aload_n hx hb dX3_put_42 rfl (lv_at hl 1 rfl) ?_
        refine lv_iconst (v := iI 1) hx hb dX3_put_43 rfl ?_
        refine q_si (y := bP (true = true)) (by decide) ?_
        refine va_put (D := g.1) (ci := 3) (v := .int (bP (true = true))) (ty := .boolean) (C := RX3) (T := TX3) (N := 6) hx hb hts iwX3 tyX3 tyX3_ok nmX3 hown hE.1 hP hD hS 0 rfl rfl 2 (by decide) (hts (.fieldLink RX3 25 "QuickCount$Officials" "isAny" "Z") (List.mem_cons_of_mem _ (List.mem_append_left _ (List.mem_append_left _ (List.mem_of_getElem? (i := 2) rfl))))) (fun _ h9 => h9) rfl (by decide +kernel) (bP_nar _) (bP_fit _) (Nat.le_of_ble_eq_true rfl) dX3_put_44 (fun H locs hP hD hS => ?_)
        have hP : va_P g.1 vwCl [(qO, .inr (3, [.ref oP, .ref oQ, .int (bP (true = true)), .int (iI om), .int (iI oo), .int (iI ot)])), aZ g oP 40 (va_up oT ((po).toNat) true), aI g oQ 160 fM, (qT, .inr (6, [.ref tS, .ref tZ, .ref tN])), aJ g tN 80 fN] H := hP
        have hD : va_D A [(qO, .inr (3, [.ref oP, .ref oQ, .int (bP (true = true)), .int (iI om), .int (iI oo), .int (iI ot)])), aZ g oP 40 (va_up oT ((po).toNat) true), aI g oQ 160 fM, (qT, .inr (6, [.ref tS, .ref tZ, .ref tN])), aJ g tN 80 fN] := hD
        exact qe_v hx hb hr hlocks hQ hS dX3_put_47 hP hD (⟨rfl, by rw [h_M, show k = pm.toNat by omega]⟩)
      · refine lv_aload_n hx hb dX3_put_10 rfl (lv_at hl 1 rfl) ?_
        refine va_get (D := g.1) (ci := 3) (v := .ref oQ) (C := RX3) (T := TX3) (N := 6) hx hb hts iwX3 hown hE.1 hP 0 rfl rfl 1 (by decide) (hts (.fieldLink RX3 15 "QuickCount$Officials" "votes" "[I") (List.mem_cons_of_mem _ (List.mem_append_left _ (List.mem_append_left _ (List.mem_of_getElem? (i := 0) rfl))))) (fun _ h9 => h9) rfl dX3_put_11 ?_
        refine lv_iload_n hx hb dX3_put_14 rfl (lv_at hl 2 rfl) ?_
        refine lv_iconst (v := iI 4) hx hb dX3_put_15 rfl ?_
        refine q_imul hx hb dX3_put_16 ?_
        refine lv_iload hx hb dX3_put_17 (lv_at hl 0 rfl) ?_
        refine q_iadd hx hb dX3_put_19 ?_
        refine lv_aload_n hx hb dX3_put_20 rfl (lv_at hl 3 rfl) ?_
        refine lv_iload_n hx hb dX3_put_21 rfl (lv_at hl 4 rfl) ?_
        refine lv_iload hx hb dX3_put_22 (lv_at hl 0 rfl) ?_
        refine q_read (rest := [.int (iI ((po * 4) + i)), .ref oQ]) (q_runRVN (As := [.int (iI t), .int (iI i)]) ⟨hx, hb, hml, hown, hts⟩ (kX6_at l g qT tS tZ tN fN t i (by omega) (by omega)) ⟨va_cnB 2 hts ggX3_put_X6_at rfl rfl rfl (hE.2 (.methodLinkNest "QuickCount$Officials" 19 yX6_at "QuickCount") (List.mem_of_getElem? (i := 42) rfl)) (hts (.initialized RX6) (List.mem_cons_of_mem _ (List.mem_append_left _ (List.mem_append_left _ (List.mem_of_getElem? (i := 4) rfl))))) (by decide +kernel) ⟨Nat.le_of_ble_eq_true rfl, Nat.le_of_ble_eq_true rfl⟩, (hts (.instanceMethod yX6_at) (List.mem_cons_of_mem _ (List.mem_append_left _ (List.mem_append_left _ (List.mem_of_getElem? (i := 3) rfl))))), (hts (.selects RX6 yX6_at yX6_at) (List.mem_cons_of_mem _ (List.mem_append_left _ (List.mem_append_left _ (List.mem_of_getElem? (i := 5) rfl)))))⟩ (va_recv hE.1 hP (ci := 6) (q0 := 3) rfl rfl) hE (hP.sub (ws' := [(qT, .inr (6, [.ref tS, .ref tZ, .ref tN])), aJ g tN 80 fN]) [3, 4] rfl) rfl hl.1 (Nat.le_of_ble_eq_true rfl) dX3_put_24 ⟨Nat.zero_le _, Nat.zero_le _⟩) (fun r_ hq_6 => ?_)
        obtain rfl := hq_6
        refine W.eq (g2 := F0 m 27 ls [.long (jI (fN (t * 20 + i).toNat)), .int (iI ((po * 4) + i)), .ref oQ]) rfl ?_
        refine q_l2i hx hb dX3_put_27 ?_
        refine q_iast hx hb hE hP hD hS 2 rfl ((po * 4).toNat + k) (by omega) (by decide) dX3_put_28 (fun H locs hP hD hS => ?_)
        have hP : va_P g.1 vwCl [(qO, .inr (3, [.ref oP, .ref oQ, .int (bP (oa = true)), .int (iI om), .int (iI oo), .int (iI ot)])), aZ g oP 40 oT, aI g oQ 160 (va_up fM ((po * 4).toNat + k) (fN (t * 20 + i).toNat)), (qT, .inr (6, [.ref tS, .ref tZ, .ref tN])), aJ g tN 80 fN] H := hP
        have hD : va_D A [(qO, .inr (3, [.ref oP, .ref oQ, .int (bP (oa = true)), .int (iI om), .int (iI oo), .int (iI ot)])), aZ g oP 40 oT, aI g oQ 160 (va_up fM ((po * 4).toNat + k) (fN (t * 20 + i).toNat)), (qT, .inr (6, [.ref tS, .ref tZ, .ref tN])), aJ g tN 80 fN] := hD
        refine lv_iinc (v := (iI (i + 1))) (lv' := [(5, .int (iI (i + 1))), (0, .ref qO), (1, .int (iI po)), (2, .ref qT), (3, .int (iI t)), (4, .int (iI pm))]) hx hb dX3_put_29 hl (k := 0) rfl (iI_add _ _) (by decide) rfl (fun ls hl => ?_)
        refine lv_goto (tgt := 3) hx hb dX3_put_32 (by decide) ?_
        exact ih_2  (k + 1) (i + 1) (va_up fM ((po * 4).toNat + k) (fN (t * 20 + i).toNat)) (by omega) (by omega) (by rw [h_M, e_ix]; exact cpy_up _ _ _ _ _) (by omega) _ _ ls (hP.sub [0, 1, 2, 3, 4] rfl) (hD.sub [0, 1, 2, 3, 4] (by decide) rfl) hS (lv_sub hl [0, 1, 2, 3, 4, 5] rfl)
  exact K_1 (pm.toNat - 0 + 1) 0 0 oV (rfl) (by omega) ((cpy_0 _ _ _ _).symm) (Nat.lt_succ_self _) _ _ ls (hP.sub [0, 1, 2, 3, 4] rfl) (hD.sub [0, 1, 2, 3, 4] (by decide) rfl) hS (lv_sub hl [0, 1, 2, 3, 4, 5] rfl)
set_option maxHeartbeats 4000000 in
set_option maxRecDepth 100000 in
theorem kX3_compare (l : Launch) (g : qG) (qO : Nat) (oP : Nat) (oQ : Nat) (qS : Nat) (kP : Nat) (kM : Nat) (kG : Nat) (kE : Nat) (kA : Nat) (kN : Nat) (kK : Nat) (oT : Nat → Bool) (oV : Nat → Int) (sN : Nat → Int) (fK : Nat → Int) (oa : Bool) (om : Int) (oo : Int) (ot : Int) (sn : Int) (sl : Int) (pn : Int) (pa : Int) (h_pn : 0 ≤ pn ∧ pn ≤ 40) (h_pa : 0 ≤ pa ∧ pa ≤ 3) (h_sN : ∀ k, 0 ≤ sN k ∧ sN k ≤ 9999) (h_fK : ∀ k, -1 ≤ fK k ∧ fK k ≤ 119) (h_oV : ∀ k, 0 ≤ oV k ∧ oV k ≤ 9999) : ME l g yX3_compare wsX3_compare ({ frames := 1, cells := 0, slots := 0, locals := 22 }) [.ref qO, .ref qS, .int (iI pn), .int (iI pa)] [(qO, .inr (3, [.ref oP, .ref oQ, .int (bP (oa = true)), .int (iI om), .int (iI oo), .int (iI ot)])), aZ g oP 40 oT, aI g oQ 160 oV, (qS, .inr (5, [.ref kP, .ref kM, .ref kG, .ref kE, .ref kA, .ref kN, .ref kK, .int (iI sn), .int (iI sl)])), aI g kN 720 sN, aI g kK 40 fK] (fun r w1 => r = none ∧ w1 = [(qO, .inr (3, [.ref oP, .ref oQ, .int (bP (oa = true)), .int (iI (cNZ (offv oT oV sN fK pa) pn.toNat)), .int (iI (cPZ (offv oT oV sN fK pa) pn.toNat)), .int (iI (sumTo (offv oT oV sN fK pa) 0 pn.toNat))])), aZ g oP 40 oT, aI g oQ 160 oV, (qS, .inr (5, [.ref kP, .ref kM, .ref kG, .ref kE, .ref kA, .ref kN, .ref kK, .int (iI sn), .int (iI sl)])), aI g kN 720 sN, aI g kK 40 fK]) := by
  refine ME.intro (cc := cX3_compare) (maxL := 7) (ret := none) (by decide) rfl (Nat.le_of_ble_eq_true rfl) ?_
  intro p e s m below meth c ls Q A H locs ⟨hx, hb, hr, hml, hown, hts, hlocks⟩ hP hE hl hD hA hS hQ
  have hl : lv_has ls 7 [(0, .ref qO), (1, .ref qS), (2, .int (iI pn)), (3, .int (iI pa))] := hl
  have iwX3 : ∀ w ∈ wsX30, w ∈ wsX3_compare := (fun _ h => List.mem_cons_of_mem _ (List.mem_append_left _ (List.mem_append_right _ h)))
  have iwX5 : ∀ w ∈ wsX50, w ∈ wsX3_compare := (fun _ h => List.mem_cons_of_mem _ (List.mem_append_right _ h))
  refine lv_aload_n hx hb dX3_compare_0 rfl (lv_at hl 0 rfl) ?_
  refine lv_iconst (v := iI 0) hx hb dX3_compare_1 rfl ?_
  refine va_put (D := g.1) (ci := 3) (v := .int (iI 0)) (ty := .int) (C := RX3) (T := TX3) (N := 6) hx hb hts iwX3 tyX3 tyX3_ok nmX3 hown hE.1 hP hD hS 0 rfl rfl 3 (by decide) (hts (.fieldLink RX3 29 "QuickCount$Officials" "offMany" "I") (List.mem_cons_of_mem _ (List.mem_append_left _ (List.mem_append_left _ (List.mem_of_getElem? (i := 0) rfl))))) (fun _ h9 => h9) rfl (by decide +kernel) rfl rfl (Nat.le_of_ble_eq_true rfl) dX3_compare_2 (fun H locs hP hD hS => ?_)
  have hP : va_P g.1 vwCl [(qO, .inr (3, [.ref oP, .ref oQ, .int (bP (oa = true)), .int (iI 0), .int (iI oo), .int (iI ot)])), aZ g oP 40 oT, aI g oQ 160 oV, (qS, .inr (5, [.ref kP, .ref kM, .ref kG, .ref kE, .ref kA, .ref kN, .ref kK, .int (iI sn), .int (iI sl)])), aI g kN 720 sN, aI g kK 40 fK] H := hP
  have hD : va_D A [(qO, .inr (3, [.ref oP, .ref oQ, .int (bP (oa = true)), .int (iI 0), .int (iI oo), .int (iI ot)])), aZ g oP 40 oT, aI g oQ 160 oV, (qS, .inr (5, [.ref kP, .ref kM, .ref kG, .ref kE, .ref kA, .ref kN, .ref kK, .int (iI sn), .int (iI sl)])), aI g kN 720 sN, aI g kK 40 fK] := hD
  refine lv_aload_n hx hb dX3_compare_5 rfl (lv_at hl 0 rfl) ?_
  refine lv_iconst (v := iI 0) hx hb dX3_compare_6 rfl ?_
  refine va_put (D := g.1) (ci := 3) (v := .int (iI 0)) (ty := .int) (C := RX3) (T := TX3) (N := 6) hx hb hts iwX3 tyX3 tyX3_ok nmX3 hown hE.1 hP hD hS 0 rfl rfl 4 (by decide) (hts (.fieldLink RX3 33 "QuickCount$Officials" "offAbove" "I") (List.mem_cons_of_mem _ (List.mem_append_left _ (List.mem_append_left _ (List.mem_of_getElem? (i := 1) rfl))))) (fun _ h9 => h9) rfl (by decide +kernel) rfl rfl (Nat.le_of_ble_eq_true rfl) dX3_compare_7 (fun H locs hP hD hS => ?_)
  have hP : va_P g.1 vwCl [(qO, .inr (3, [.ref oP, .ref oQ, .int (bP (oa = true)), .int (iI 0), .int (iI 0), .int (iI ot)])), aZ g oP 40 oT, aI g oQ 160 oV, (qS, .inr (5, [.ref kP, .ref kM, .ref kG, .ref kE, .ref kA, .ref kN, .ref kK, .int (iI sn), .int (iI sl)])), aI g kN 720 sN, aI g kK 40 fK] H := hP
  have hD : va_D A [(qO, .inr (3, [.ref oP, .ref oQ, .int (bP (oa = true)), .int (iI 0), .int (iI 0), .int (iI ot)])), aZ g oP 40 oT, aI g oQ 160 oV, (qS, .inr (5, [.ref kP, .ref kM, .ref kG, .ref kE, .ref kA, .ref kN, .ref kK, .int (iI sn), .int (iI sl)])), aI g kN 720 sN, aI g kK 40 fK] := hD
  refine lv_aload_n hx hb dX3_compare_10 rfl (lv_at hl 0 rfl) ?_
  refine lv_iconst (v := iI 0) hx hb dX3_compare_11 rfl ?_
  refine va_put (D := g.1) (ci := 3) (v := .int (iI 0)) (ty := .int) (C := RX3) (T := TX3) (N := 6) hx hb hts iwX3 tyX3 tyX3_ok nmX3 hown hE.1 hP hD hS 0 rfl rfl 5 (by decide) (hts (.fieldLink RX3 36 "QuickCount$Officials" "offTogether" "I") (List.mem_cons_of_mem _ (List.mem_append_left _ (List.mem_append_left _ (List.mem_of_getElem? (i := 2) rfl))))) (fun _ h9 => h9) rfl (by decide +kernel) rfl rfl (Nat.le_of_ble_eq_true rfl) dX3_compare_12 (fun H locs hP hD hS => ?_)
  have hP : va_P g.1 vwCl [(qO, .inr (3, [.ref oP, .ref oQ, .int (bP (oa = true)), .int (iI 0), .int (iI 0), .int (iI 0)])), aZ g oP 40 oT, aI g oQ 160 oV, (qS, .inr (5, [.ref kP, .ref kM, .ref kG, .ref kE, .ref kA, .ref kN, .ref kK, .int (iI sn), .int (iI sl)])), aI g kN 720 sN, aI g kK 40 fK] H := hP
  have hD : va_D A [(qO, .inr (3, [.ref oP, .ref oQ, .int (bP (oa = true)), .int (iI 0), .int (iI 0), .int (iI 0)])), aZ g oP 40 oT, aI g oQ 160 oV, (qS, .inr (5, [.ref kP, .ref kM, .ref kG, .ref kE, .ref kA, .ref kN, .ref kK, .int (iI sn), .int (iI sl)])), aI g kN 720 sN, aI g kK 40 fK] := hD
  refine lv_iconst (v := iI 0) hx hb dX3_compare_15 rfl ?_
  refine lv_istore (lv' := [(4, .int (iI 0)), (0, .ref qO), (1, .ref qS), (2, .int (iI pn)), (3, .int (iI pa))]) hx hb dX3_compare_16 hl (by decide) rfl (fun ls hl => ?_)
  have K_1 : ∀ (fu_3 : Nat) (k : Nat) (i : Int) (om2 : Int) (oo2 : Int) (ot2 : Int), (i = (k : Int)) → ((k : Int) ≤ pn) → (om2 = cNZ (offv oT oV sN fK pa) k) → (oo2 = cPZ (offv oT oV sN fK pa) k) → (ot2 = sumTo (offv oT oV sN fK pa) 0 k) → pn.toNat - k < fu_3 → ∀ (H : Heap) (locs : List Loc) (ls : Array Slot), va_P g.1 vwCl [(qO, .inr (3, [.ref oP, .ref oQ, .int (bP (oa = true)), .int (iI om2), .int (iI oo2), .int (iI ot2)])), aZ g oP 40 oT, aI g oQ 160 oV, (qS, .inr (5, [.ref kP, .ref kM, .ref kG, .ref kE, .ref kA, .ref kN, .ref kK, .int (iI sn), .int (iI sl)])), aI g kN 720 sN, aI g kK 40 fK] H → va_D A [(qO, .inr (3, [.ref oP, .ref oQ, .int (bP (oa = true)), .int (iI om2), .int (iI oo2), .int (iI ot2)])), aZ g oP 40 oT, aI g oQ 160 oV, (qS, .inr (5, [.ref kP, .ref kM, .ref kG, .ref kE, .ref kA, .ref kN, .ref kK, .int (iI sn), .int (iI sl)])), aI g kN 720 sN, aI g kK 40 fK] → va_S A s.heap H locs → lv_has ls 7 [(4, .int (iI i)), (0, .ref qO), (1, .ref qS), (2, .int (iI pn)), (3, .int (iI pa))] → W p l e ({ frames := 1, cells := 0, slots := 0, locals := 22 } : Room) s m ([.ref qO, .ref qS, .int (iI pn), .int (iI pa)] : List Value).toArray below meth c H locs 0 0 Q (F0 m 18 ls []) := by
    intro fu_3
    induction fu_3 with
    | zero => exact fun _ _ _ _ _ _ _ _ _ _ q => absurd q (Nat.not_lt_zero _)
    | succ fu_3 ih_2 =>
      intro k i om2 oo2 ot2 e_i h_k e_om e_oo e_ot hm_4 H locs ls hP hD hS hl
      subst e_i
      refine lv_iload hx hb dX3_compare_18 (lv_at hl 0 rfl) ?_
      refine lv_iload_n hx hb dX3_compare_20 rfl (lv_at hl 3 rfl) ?_
      refine q_icmp_ge (tgt := 121) hx hb dX3_compare_21 (by decide) (by omega) (fun c_5 => ?_) (fun c_5 => ?_)
      · exact qe_v hx hb hr hlocks hQ hS dX3_compare_121 hP hD (⟨rfl, by rw [e_om, e_oo, e_ot, show k = pn.toNat by omega]⟩)
      · refine lv_aload_n hx hb dX3_compare_24 rfl (lv_at hl 2 rfl) ?_
        refine va_getN (D := g.1) (ci := 5) (v := .ref kK) (C := RX5) (T := TX5) (N := 9) hx hb hts iwX5 hown hE.1 hP 3 rfl rfl 6 (by decide) (va_Nw.use (w := .fieldLinkNest "QuickCount$Officials" 39 "QuickCount$SheetBook" "knownOf" "[I" "QuickCount") rfl (hE.2 _ (List.mem_of_getElem? (i := 63) rfl))) (fun _ h9 => h9) rfl dX3_compare_25 ?_
        refine lv_iload hx hb dX3_compare_28 (lv_at hl 0 rfl) ?_
        refine q_iald hx hb hE hP 5 rfl k (by omega) (by decide) dX3_compare_30 ?_
        have rg_6 := h_fK k
        refine lv_istore (lv' := [(5, .int (iI (fK k))), (4, .int (iI (k : Int))), (0, .ref qO), (1, .ref qS), (2, .int (iI pn)), (3, .int (iI pa))]) hx hb dX3_compare_31 hl (by decide) rfl (fun ls hl => ?_)
        refine lv_aload_n hx hb dX3_compare_33 rfl (lv_at hl 2 rfl) ?_
        refine va_get (D := g.1) (ci := 3) (v := .ref oP) (C := RX3) (T := TX3) (N := 6) hx hb hts iwX3 hown hE.1 hP 0 rfl rfl 0 (by decide) (hts (.fieldLink RX3 9 "QuickCount$Officials" "isTold" "[Z") (List.mem_cons_of_mem _ (List.mem_append_left _ (List.mem_append_left _ (List.mem_of_getElem? (i := 3) rfl))))) (fun _ h9 => h9) rfl dX3_compare_34 ?_
        refine lv_iload hx hb dX3_compare_37 (lv_at hl 1 rfl) ?_
        refine q_zald hx hb hE hP 1 rfl k (by omega) (by decide) dX3_compare_39 ?_
        refine q_ifb_eq (tgt := 115) hx hb dX3_compare_40 (by decide) (fun c_7 => ?_) (fun c_7 => ?_)
        · refine lv_iinc (v := (iI ((k : Int) + 1))) (lv' := [(4, .int (iI ((k : Int) + 1))), (5, .int (iI (fK k))), (0, .ref qO), (1, .ref qS), (2, .int (iI pn)), (3, .int (iI pa))]) hx hb dX3_compare_115 hl (k := 1) rfl (iI_add _ _) (by decide) rfl (fun ls hl => ?_)
          refine lv_goto (tgt := 18) hx hb dX3_compare_118 (by decide) ?_
          exact ih_2  (k + 1) ((k : Int) + 1) om2 oo2 ot2 (by omega) (by omega) (by first | (rw [cNZ_s, offv_1 (by assumption), e_om]; simp) | (rw [cNZ_s, offv_2 (by assumption), e_om]; simp) | (rw [cNZ_s, offv_3 (by assumption) (by assumption), e_om])) (by first | (rw [cPZ_s, offv_1 (by assumption), e_oo]; simp) | (rw [cPZ_s, offv_2 (by assumption), e_oo]; simp) | (rw [cPZ_s, offv_3 (by assumption) (by assumption), e_oo])) (by rw [sumTo_s, Nat.zero_add]; first | (rw [offv_1 (by assumption), e_ot]; exact (Int.add_zero _).symm) | (rw [offv_2 (by assumption), e_ot]; exact (Int.add_zero _).symm) | (rw [offv_3 (by assumption) (by assumption), e_ot])) (by omega) _ _ ls (hP.sub [0, 1, 2, 3, 4, 5] rfl) (hD.sub [0, 1, 2, 3, 4, 5] (by decide) rfl) hS (lv_sub hl [0, 2, 3, 4, 5] rfl)
        · refine lv_iload hx hb dX3_compare_43 (lv_at hl 0 rfl) ?_
          refine lv_iconst (v := iI (-1)) hx hb dX3_compare_45 rfl ?_
          refine q_icmp_eq (tgt := 115) hx hb dX3_compare_46 (by decide) (by omega) (fun c_8 => ?_) (fun c_8 => ?_)
          · refine lv_iinc (v := (iI ((k : Int) + 1))) (lv' := [(4, .int (iI ((k : Int) + 1))), (5, .int (iI (fK k))), (0, .ref qO), (1, .ref qS), (2, .int (iI pn)), (3, .int (iI pa))]) hx hb dX3_compare_115 hl (k := 1) rfl (iI_add _ _) (by decide) rfl (fun ls hl => ?_)
            refine lv_goto (tgt := 18) hx hb dX3_compare_118 (by decide) ?_
            exact ih_2  (k + 1) ((k : Int) + 1) om2 oo2 ot2 (by omega) (by omega) (by first | (rw [cNZ_s, offv_1 (by assumption), e_om]; simp) | (rw [cNZ_s, offv_2 (by assumption), e_om]; simp) | (rw [cNZ_s, offv_3 (by assumption) (by assumption), e_om])) (by first | (rw [cPZ_s, offv_1 (by assumption), e_oo]; simp) | (rw [cPZ_s, offv_2 (by assumption), e_oo]; simp) | (rw [cPZ_s, offv_3 (by assumption) (by assumption), e_oo])) (by rw [sumTo_s, Nat.zero_add]; first | (rw [offv_1 (by assumption), e_ot]; exact (Int.add_zero _).symm) | (rw [offv_2 (by assumption), e_ot]; exact (Int.add_zero _).symm) | (rw [offv_3 (by assumption) (by assumption), e_ot])) (by omega) _ _ ls (hP.sub [0, 1, 2, 3, 4, 5] rfl) (hD.sub [0, 1, 2, 3, 4, 5] (by decide) rfl) hS (lv_sub hl [0, 2, 3, 4, 5] rfl)
          · refine lv_aload_n hx hb dX3_compare_49 rfl (lv_at hl 2 rfl) ?_
            refine lv_iload hx hb dX3_compare_50 (lv_at hl 1 rfl) ?_
            refine lv_iload_n hx hb dX3_compare_52 rfl (lv_at hl 5 rfl) ?_
            refine q_read (rest := []) (q_runRV (As := [.int (iI (k : Int)), .int (iI pa)]) ⟨hx, hb, hml, hown, hts⟩ (kX3_votesOf l g qO oP oQ oV oa om2 oo2 ot2 (k : Int) pa (by omega) (by omega)) (cwV 2 hts gX3_compare_X3_votesOf rfl rfl rfl (by decide +kernel) ⟨Nat.le_of_ble_eq_true rfl, Nat.le_of_ble_eq_true rfl⟩) (va_recv hE.1 hP (ci := 3) (q0 := 0) rfl rfl) hE (hP.sub (ws' := [(qO, .inr (3, [.ref oP, .ref oQ, .int (bP (oa = true)), .int (iI om2), .int (iI oo2), .int (iI ot2)])), aI g oQ 160 oV]) [0, 2] rfl) rfl hl.1 (Nat.le_of_ble_eq_true rfl) dX3_compare_53 ⟨Nat.zero_le _, Nat.zero_le _⟩) (fun r_ hq_9 => ?_)
            obtain rfl := hq_9
            refine W.eq (g2 := F0 m 56 ls [.int (iI (oV ((k : Int) * 4 + pa).toNat))]) rfl ?_
            refine lv_aload_n hx hb dX3_compare_56 rfl (lv_at hl 3 rfl) ?_
            refine lv_iload hx hb dX3_compare_57 (lv_at hl 0 rfl) ?_
            refine lv_iload_n hx hb dX3_compare_59 rfl (lv_at hl 5 rfl) ?_
            refine q_read (rest := [.int (iI (oV ((k : Int) * 4 + pa).toNat))]) (q_runRVN (As := [.int (iI (fK k)), .int (iI pa)]) ⟨hx, hb, hml, hown, hts⟩ (kX5_numberOf l g qS kP kM kG kE kA kN kK sN sn sl (fK k) pa (by omega) (by omega)) ⟨va_cnB 2 hts ggX3_compare_X5_numberOf rfl rfl rfl (hE.2 (.methodLinkNest "QuickCount$Officials" 48 yX5_numberOf "QuickCount") (List.mem_of_getElem? (i := 45) rfl)) (hts (.initialized RX5) (List.mem_cons_of_mem _ (List.mem_append_left _ (List.mem_append_left _ (List.mem_of_getElem? (i := 11) rfl))))) (by decide +kernel) ⟨Nat.le_of_ble_eq_true rfl, Nat.le_of_ble_eq_true rfl⟩, (hts (.instanceMethod yX5_numberOf) (List.mem_cons_of_mem _ (List.mem_append_left _ (List.mem_append_left _ (List.mem_of_getElem? (i := 10) rfl))))), (hts (.selects RX5 yX5_numberOf yX5_numberOf) (List.mem_cons_of_mem _ (List.mem_append_left _ (List.mem_append_left _ (List.mem_of_getElem? (i := 12) rfl)))))⟩ (va_recv hE.1 hP (ci := 5) (q0 := 3) rfl rfl) hE (hP.sub (ws' := [(qS, .inr (5, [.ref kP, .ref kM, .ref kG, .ref kE, .ref kA, .ref kN, .ref kK, .int (iI sn), .int (iI sl)])), aI g kN 720 sN]) [3, 4] rfl) rfl hl.1 (Nat.le_of_ble_eq_true rfl) dX3_compare_60 ⟨Nat.zero_le _, Nat.zero_le _⟩) (fun r_ hq_10 => ?_)
            obtain rfl := hq_10
            refine W.eq (g2 := F0 m 63 ls [.int (iI (sN ((fK k) * 6 + pa).toNat)), .int (iI (oV ((k : Int) * 4 + pa).toNat))]) rfl ?_
            have rv_1 := h_oV ((k : Int) * 4 + pa).toNat
            have rv_2 := h_sN (fK k * 6 + pa).toNat
            refine q_isub hx hb dX3_compare_63 ?_
            refine lv_istore (lv' := [(6, .int (iI ((oV ((k : Int) * 4 + pa).toNat) - (sN ((fK k) * 6 + pa).toNat)))), (5, .int (iI (fK k))), (4, .int (iI (k : Int))), (0, .ref qO), (1, .ref qS), (2, .int (iI pn)), (3, .int (iI pa))]) hx hb dX3_compare_64 hl (by decide) rfl (fun ls hl => ?_)
            refine lv_aload_n hx hb dX3_compare_66 rfl (lv_at hl 3 rfl) ?_
            refine lv_dup hx hb dX3_compare_67 rfl ?_
            refine va_get (D := g.1) (ci := 3) (v := .int (iI om2)) (C := RX3) (T := TX3) (N := 6) hx hb hts iwX3 hown hE.1 hP 0 rfl rfl 3 (by decide) (hts (.fieldLink RX3 29 "QuickCount$Officials" "offMany" "I") (List.mem_cons_of_mem _ (List.mem_append_left _ (List.mem_append_left _ (List.mem_of_getElem? (i := 0) rfl))))) (fun _ h9 => h9) rfl dX3_compare_68 ?_
            refine lv_iload hx hb dX3_compare_71 (lv_at hl 0 rfl) ?_
            suffices K_11 : W p l e ({ frames := 1, cells := 0, slots := 0, locals := 22 } : Room) s m ([.ref qO, .ref qS, .int (iI pn), .int (iI pa)] : List Value).toArray below meth c H locs 0 0 Q (F0 m 81 ls [.int (iI (if ¬ ((oV ((k : Int) * 4 + pa).toNat) - (sN ((fK k) * 6 + pa).toNat)) = 0 then 1 else 0)), .int (iI om2), .ref qO]) from by
              refine q_if_eq (tgt := 80) hx hb dX3_compare_73 (by decide) (by omega) (fun c_12 => ?_) (fun c_12 => ?_)
              · refine lv_iconst (v := iI 0) hx hb dX3_compare_80 rfl ?_
                exact q_si (y := iI (if ¬ ((oV ((k : Int) * 4 + pa).toNat) - (sN ((fK k) * 6 + pa).toNat)) = 0 then 1 else 0)) (by rw [if_neg (by omega)]) K_11
              · refine lv_iconst (v := iI 1) hx hb dX3_compare_76 rfl ?_
                refine lv_goto (tgt := 81) hx hb dX3_compare_77 (by decide) ?_
                exact q_si (y := iI (if ¬ ((oV ((k : Int) * 4 + pa).toNat) - (sN ((fK k) * 6 + pa).toNat)) = 0 then 1 else 0)) (by rw [if_pos (by omega)]) K_11
            refine q_iadd hx hb dX3_compare_81 ?_
            refine va_put (D := g.1) (ci := 3) (v := .int (iI (om2 + (if ¬ ((oV ((k : Int) * 4 + pa).toNat) - (sN ((fK k) * 6 + pa).toNat)) = 0 then 1 else 0)))) (ty := .int) (C := RX3) (T := TX3) (N := 6) hx hb hts iwX3 tyX3 tyX3_ok nmX3 hown hE.1 hP hD hS 0 rfl rfl 3 (by decide) (hts (.fieldLink RX3 29 "QuickCount$Officials" "offMany" "I") (List.mem_cons_of_mem _ (List.mem_append_left _ (List.mem_append_left _ (List.mem_of_getElem? (i := 0) rfl))))) (fun _ h9 => h9) rfl (by decide +kernel) rfl rfl (Nat.le_of_ble_eq_true rfl) dX3_compare_82 (fun H locs hP hD hS => ?_)
            have hP : va_P g.1 vwCl [(qO, .inr (3, [.ref oP, .ref oQ, .int (bP (oa = true)), .int (iI (om2 + (if ¬ ((oV ((k : Int) * 4 + pa).toNat) - (sN ((fK k) * 6 + pa).toNat)) = 0 then 1 else 0))), .int (iI oo2), .int (iI ot2)])), aZ g oP 40 oT, aI g oQ 160 oV, (qS, .inr (5, [.ref kP, .ref kM, .ref kG, .ref kE, .ref kA, .ref kN, .ref kK, .int (iI sn), .int (iI sl)])), aI g kN 720 sN, aI g kK 40 fK] H := hP
            have hD : va_D A [(qO, .inr (3, [.ref oP, .ref oQ, .int (bP (oa = true)), .int (iI (om2 + (if ¬ ((oV ((k : Int) * 4 + pa).toNat) - (sN ((fK k) * 6 + pa).toNat)) = 0 then 1 else 0))), .int (iI oo2), .int (iI ot2)])), aZ g oP 40 oT, aI g oQ 160 oV, (qS, .inr (5, [.ref kP, .ref kM, .ref kG, .ref kE, .ref kA, .ref kN, .ref kK, .int (iI sn), .int (iI sl)])), aI g kN 720 sN, aI g kK 40 fK] := hD
            refine lv_aload_n hx hb dX3_compare_85 rfl (lv_at hl 3 rfl) ?_
            refine lv_dup hx hb dX3_compare_86 rfl ?_
            refine va_get (D := g.1) (ci := 3) (v := .int (iI oo2)) (C := RX3) (T := TX3) (N := 6) hx hb hts iwX3 hown hE.1 hP 0 rfl rfl 4 (by decide) (hts (.fieldLink RX3 33 "QuickCount$Officials" "offAbove" "I") (List.mem_cons_of_mem _ (List.mem_append_left _ (List.mem_append_left _ (List.mem_of_getElem? (i := 1) rfl))))) (fun _ h9 => h9) rfl dX3_compare_87 ?_
            refine lv_iload hx hb dX3_compare_90 (lv_at hl 0 rfl) ?_
            suffices K_13 : W p l e ({ frames := 1, cells := 0, slots := 0, locals := 22 } : Room) s m ([.ref qO, .ref qS, .int (iI pn), .int (iI pa)] : List Value).toArray below meth c H locs 0 0 Q (F0 m 100 ls [.int (iI (if ¬ ((oV ((k : Int) * 4 + pa).toNat) - (sN ((fK k) * 6 + pa).toNat)) ≤ 0 then 1 else 0)), .int (iI oo2), .ref qO]) from by
              refine q_if_le (tgt := 99) hx hb dX3_compare_92 (by decide) (by omega) (fun c_14 => ?_) (fun c_14 => ?_)
              · refine lv_iconst (v := iI 0) hx hb dX3_compare_99 rfl ?_
                exact q_si (y := iI (if ¬ ((oV ((k : Int) * 4 + pa).toNat) - (sN ((fK k) * 6 + pa).toNat)) ≤ 0 then 1 else 0)) (by rw [if_neg (by omega)]) K_13
              · refine lv_iconst (v := iI 1) hx hb dX3_compare_95 rfl ?_
                refine lv_goto (tgt := 100) hx hb dX3_compare_96 (by decide) ?_
                exact q_si (y := iI (if ¬ ((oV ((k : Int) * 4 + pa).toNat) - (sN ((fK k) * 6 + pa).toNat)) ≤ 0 then 1 else 0)) (by rw [if_pos (by omega)]) K_13
            refine q_iadd hx hb dX3_compare_100 ?_
            refine va_put (D := g.1) (ci := 3) (v := .int (iI (oo2 + (if ¬ ((oV ((k : Int) * 4 + pa).toNat) - (sN ((fK k) * 6 + pa).toNat)) ≤ 0 then 1 else 0)))) (ty := .int) (C := RX3) (T := TX3) (N := 6) hx hb hts iwX3 tyX3 tyX3_ok nmX3 hown hE.1 hP hD hS 0 rfl rfl 4 (by decide) (hts (.fieldLink RX3 33 "QuickCount$Officials" "offAbove" "I") (List.mem_cons_of_mem _ (List.mem_append_left _ (List.mem_append_left _ (List.mem_of_getElem? (i := 1) rfl))))) (fun _ h9 => h9) rfl (by decide +kernel) rfl rfl (Nat.le_of_ble_eq_true rfl) dX3_compare_101 (fun H locs hP hD hS => ?_)
            have hP : va_P g.1 vwCl [(qO, .inr (3, [.ref oP, .ref oQ, .int (bP (oa = true)), .int (iI (om2 + (if ¬ ((oV ((k : Int) * 4 + pa).toNat) - (sN ((fK k) * 6 + pa).toNat)) = 0 then 1 else 0))), .int (iI (oo2 + (if ¬ ((oV ((k : Int) * 4 + pa).toNat) - (sN ((fK k) * 6 + pa).toNat)) ≤ 0 then 1 else 0))), .int (iI ot2)])), aZ g oP 40 oT, aI g oQ 160 oV, (qS, .inr (5, [.ref kP, .ref kM, .ref kG, .ref kE, .ref kA, .ref kN, .ref kK, .int (iI sn), .int (iI sl)])), aI g kN 720 sN, aI g kK 40 fK] H := hP
            have hD : va_D A [(qO, .inr (3, [.ref oP, .ref oQ, .int (bP (oa = true)), .int (iI (om2 + (if ¬ ((oV ((k : Int) * 4 + pa).toNat) - (sN ((fK k) * 6 + pa).toNat)) = 0 then 1 else 0))), .int (iI (oo2 + (if ¬ ((oV ((k : Int) * 4 + pa).toNat) - (sN ((fK k) * 6 + pa).toNat)) ≤ 0 then 1 else 0))), .int (iI ot2)])), aZ g oP 40 oT, aI g oQ 160 oV, (qS, .inr (5, [.ref kP, .ref kM, .ref kG, .ref kE, .ref kA, .ref kN, .ref kK, .int (iI sn), .int (iI sl)])), aI g kN 720 sN, aI g kK 40 fK] := hD
            refine lv_aload_n hx hb dX3_compare_104 rfl (lv_at hl 3 rfl) ?_
            refine lv_dup hx hb dX3_compare_105 rfl ?_
            refine va_get (D := g.1) (ci := 3) (v := .int (iI ot2)) (C := RX3) (T := TX3) (N := 6) hx hb hts iwX3 hown hE.1 hP 0 rfl rfl 5 (by decide) (hts (.fieldLink RX3 36 "QuickCount$Officials" "offTogether" "I") (List.mem_cons_of_mem _ (List.mem_append_left _ (List.mem_append_left _ (List.mem_of_getElem? (i := 2) rfl))))) (fun _ h9 => h9) rfl dX3_compare_106 ?_
            refine lv_iload hx hb dX3_compare_109 (lv_at hl 0 rfl) ?_
            refine q_iadd hx hb dX3_compare_111 ?_
            refine va_put (D := g.1) (ci := 3) (v := .int (iI (ot2 + ((oV ((k : Int) * 4 + pa).toNat) - (sN ((fK k) * 6 + pa).toNat))))) (ty := .int) (C := RX3) (T := TX3) (N := 6) hx hb hts iwX3 tyX3 tyX3_ok nmX3 hown hE.1 hP hD hS 0 rfl rfl 5 (by decide) (hts (.fieldLink RX3 36 "QuickCount$Officials" "offTogether" "I") (List.mem_cons_of_mem _ (List.mem_append_left _ (List.mem_append_left _ (List.mem_of_getElem? (i := 2) rfl))))) (fun _ h9 => h9) rfl (by decide +kernel) rfl rfl (Nat.le_of_ble_eq_true rfl) dX3_compare_112 (fun H locs hP hD hS => ?_)
            have hP : va_P g.1 vwCl [(qO, .inr (3, [.ref oP, .ref oQ, .int (bP (oa = true)), .int (iI (om2 + (if ¬ ((oV ((k : Int) * 4 + pa).toNat) - (sN ((fK k) * 6 + pa).toNat)) = 0 then 1 else 0))), .int (iI (oo2 + (if ¬ ((oV ((k : Int) * 4 + pa).toNat) - (sN ((fK k) * 6 + pa).toNat)) ≤ 0 then 1 else 0))), .int (iI (ot2 + ((oV ((k : Int) * 4 + pa).toNat) - (sN ((fK k) * 6 + pa).toNat))))])), aZ g oP 40 oT, aI g oQ 160 oV, (qS, .inr (5, [.ref kP, .ref kM, .ref kG, .ref kE, .ref kA, .ref kN, .ref kK, .int (iI sn), .int (iI sl)])), aI g kN 720 sN, aI g kK 40 fK] H := hP
            have hD : va_D A [(qO, .inr (3, [.ref oP, .ref oQ, .int (bP (oa = true)), .int (iI (om2 + (if ¬ ((oV ((k : Int) * 4 + pa).toNat) - (sN ((fK k) * 6 + pa).toNat)) = 0 then 1 else 0))), .int (iI (oo2 + (if ¬ ((oV ((k : Int) * 4 + pa).toNat) - (sN ((fK k) * 6 + pa).toNat)) ≤ 0 then 1 else 0))), .int (iI (ot2 + ((oV ((k : Int) * 4 + pa).toNat) - (sN ((fK k) * 6 + pa).toNat))))])), aZ g oP 40 oT, aI g oQ 160 oV, (qS, .inr (5, [.ref kP, .ref kM, .ref kG, .ref kE, .ref kA, .ref kN, .ref kK, .int (iI sn), .int (iI sl)])), aI g kN 720 sN, aI g kK 40 fK] := hD
            refine lv_iinc (v := (iI ((k : Int) + 1))) (lv' := [(4, .int (iI ((k : Int) + 1))), (6, .int (iI ((oV ((k : Int) * 4 + pa).toNat) - (sN ((fK k) * 6 + pa).toNat)))), (5, .int (iI (fK k))), (0, .ref qO), (1, .ref qS), (2, .int (iI pn)), (3, .int (iI pa))]) hx hb dX3_compare_115 hl (k := 2) rfl (iI_add _ _) (by decide) rfl (fun ls hl => ?_)
            refine lv_goto (tgt := 18) hx hb dX3_compare_118 (by decide) ?_
            exact ih_2  (k + 1) ((k : Int) + 1) (om2 + (if ¬ ((oV ((k : Int) * 4 + pa).toNat) - (sN ((fK k) * 6 + pa).toNat)) = 0 then 1 else 0)) (oo2 + (if ¬ ((oV ((k : Int) * 4 + pa).toNat) - (sN ((fK k) * 6 + pa).toNat)) ≤ 0 then 1 else 0)) (ot2 + ((oV ((k : Int) * 4 + pa).toNat) - (sN ((fK k) * 6 + pa).toNat))) (by omega) (by omega) (by first | (rw [cNZ_s, offv_1 (by assumption), e_om]; simp) | (rw [cNZ_s, offv_2 (by assumption), e_om]; simp) | (rw [cNZ_s, offv_3 (by assumption) (by assumption), e_om])) (by first | (rw [cPZ_s, offv_1 (by assumption), e_oo]; simp) | (rw [cPZ_s, offv_2 (by assumption), e_oo]; simp) | (rw [cPZ_s, offv_3 (by assumption) (by assumption), e_oo])) (by rw [sumTo_s, Nat.zero_add]; first | (rw [offv_1 (by assumption), e_ot]; exact (Int.add_zero _).symm) | (rw [offv_2 (by assumption), e_ot]; exact (Int.add_zero _).symm) | (rw [offv_3 (by assumption) (by assumption), e_ot])) (by omega) _ _ ls (hP.sub [0, 1, 2, 3, 4, 5] rfl) (hD.sub [0, 1, 2, 3, 4, 5] (by decide) rfl) hS (lv_sub hl [0, 3, 4, 5, 6] rfl)
  exact K_1 (pn.toNat - 0 + 1) 0 0 0 0 0 (rfl) (by omega) (rfl) (rfl) (rfl) (Nat.lt_succ_self _) _ _ ls (hP.sub [0, 1, 2, 3, 4, 5] rfl) (hD.sub [0, 1, 2, 3, 4, 5] (by decide) rfl) hS (lv_sub hl [0, 1, 2, 3, 4] rfl)
set_option maxHeartbeats 4000000 in
set_option maxRecDepth 100000 in
theorem kX5_add (l : Launch) (g : qG) (qS : Nat) (kP : Nat) (kM : Nat) (kG : Nat) (kE : Nat) (kA : Nat) (kN : Nat) (kK : Nat) (qT : Nat) (tS : Nat) (tZ : Nat) (tN : Nat) (sP : Nat → Int) (sM : Nat → Int) (sG : Nat → Bool) (sE : Nat → Int) (sA : Nat → Int) (sN : Nat → Int) (fN : Nat → Int) (sn : Int) (sl : Int) (po : Int) (ro : Int) (t : Int) (mi : Int) (pm : Int) (h_sn : 0 ≤ sn ∧ sn ≤ 119) (h_t : 0 ≤ t ∧ t ≤ 3) (h_pm : 2 ≤ pm ∧ pm ≤ 4) (r_ro : -2147483648 ≤ ro ∧ ro ≤ 2147483647) (h_v : ∀ i, i < pm.toNat + 2 → 0 ≤ fN ((t * 20).toNat + i) ∧ fN ((t * 20).toNat + i) ≤ 9999) : ME l g yX5_add wsX5_add ({ frames := 1, cells := 0, slots := 0, locals := 22 }) [.ref qS, .int (iI po), .int (iI ro), .ref qT, .int (iI t), .int (iI mi), .int (iI pm)] [(qS, .inr (5, [.ref kP, .ref kM, .ref kG, .ref kE, .ref kA, .ref kN, .ref kK, .int (iI sn), .int (iI sl)])), aI g kP 120 sP, aI g kM 120 sM, aZ g kG 120 sG, aI g kE 120 sE, aI g kA 120 sA, aI g kN 720 sN, (qT, .inr (6, [.ref tS, .ref tZ, .ref tN])), aJ g tN 80 fN] (fun r w1 => r = some (.int (iI sn)) ∧ w1 = [(qS, .inr (5, [.ref kP, .ref kM, .ref kG, .ref kE, .ref kA, .ref kN, .ref kK, .int (iI (sn + 1)), .int (iI mi)])), aI g kP 120 (va_up sP sn.toNat po), aI g kM 120 (va_up sM sn.toNat mi), aZ g kG 120 (va_up sG sn.toNat (decide (sumTo fN (t * 20).toNat (pm.toNat + 2) - 2 * fN ((t * 20).toNat + (pm.toNat + 1)) = 0 ∧ fN ((t * 20).toNat + (pm.toNat + 1)) ≤ ro))), aI g kE 120 (va_up sE sn.toNat (sumTo fN (t * 20).toNat (pm.toNat + 2) - 2 * fN ((t * 20).toNat + (pm.toNat + 1)))), aI g kA 120 (va_up sA sn.toNat (fN ((t * 20).toNat + (pm.toNat + 1)))), aI g kN 720 (va_cpy fN sN (t * 20).toNat (sn * 6).toNat (pm.toNat + 2)), (qT, .inr (6, [.ref tS, .ref tZ, .ref tN])), aJ g tN 80 fN]) := by
  refine ME.intro (cc := cX5_add) (maxL := 11) (ret := (some .int)) (by decide) rfl (Nat.le_of_ble_eq_true rfl) ?_
  intro p e s m below meth c ls Q A H locs ⟨hx, hb, hr, hml, hown, hts, hlocks⟩ hP hE hl hD hA hS hQ
  have hl : lv_has ls 11 [(0, .ref qS), (1, .int (iI po)), (2, .int (iI ro)), (3, .ref qT), (4, .int (iI t)), (5, .int (iI mi)), (6, .int (iI pm))] := hl
  have iwX5 : ∀ w ∈ wsX50, w ∈ wsX5_add := (fun _ h => List.mem_cons_of_mem _ (List.mem_append_left _ (List.mem_append_right _ h)))
  refine lv_aload_n hx hb dX5_add_0 rfl (lv_at hl 0 rfl) ?_
  refine va_get (D := g.1) (ci := 5) (v := .int (iI sn)) (C := RX5) (T := TX5) (N := 9) hx hb hts iwX5 hown hE.1 hP 0 rfl rfl 7 (by decide) (hts (.fieldLink RX5 34 "QuickCount$SheetBook" "many" "I") (List.mem_cons_of_mem _ (List.mem_append_left _ (List.mem_append_left _ (List.mem_of_getElem? (i := 0) rfl))))) (fun _ h9 => h9) rfl dX5_add_1 ?_
  refine lv_istore (lv' := [(7, .int (iI sn)), (0, .ref qS), (1, .int (iI po)), (2, .int (iI ro)), (3, .ref qT), (4, .int (iI t)), (5, .int (iI mi)), (6, .int (iI pm))]) hx hb dX5_add_4 hl (by decide) rfl (fun ls hl => ?_)
  refine lv_iconst (v := iI 0) hx hb dX5_add_6 rfl ?_
  refine lv_istore (lv' := [(8, .int (iI 0)), (7, .int (iI sn)), (0, .ref qS), (1, .int (iI po)), (2, .int (iI ro)), (3, .ref qT), (4, .int (iI t)), (5, .int (iI mi)), (6, .int (iI pm))]) hx hb dX5_add_7 hl (by decide) rfl (fun ls hl => ?_)
  refine lv_iconst (v := iI 0) hx hb dX5_add_9 rfl ?_
  refine lv_istore (lv' := [(9, .int (iI 0)), (8, .int (iI 0)), (7, .int (iI sn)), (0, .ref qS), (1, .int (iI po)), (2, .int (iI ro)), (3, .ref qT), (4, .int (iI t)), (5, .int (iI mi)), (6, .int (iI pm))]) hx hb dX5_add_10 hl (by decide) rfl (fun ls hl => ?_)
  have K_1 : ∀ (fu_3 : Nat) (k : Nat) (i : Int) (tog : Int) (fM : Nat → Int), (i = (k : Int)) → ((k : Int) ≤ pm + 2) → (tog = sumTo fN (t * 20).toNat k) → (fM = va_cpy fN sN (t * 20).toNat (sn * 6).toNat k) → (pm + 2).toNat - k < fu_3 → ∀ (H : Heap) (locs : List Loc) (ls : Array Slot), va_P g.1 vwCl [(qS, .inr (5, [.ref kP, .ref kM, .ref kG, .ref kE, .ref kA, .ref kN, .ref kK, .int (iI sn), .int (iI sl)])), aI g kP 120 sP, aI g kM 120 sM, aZ g kG 120 sG, aI g kE 120 sE, aI g kA 120 sA, aI g kN 720 fM, (qT, .inr (6, [.ref tS, .ref tZ, .ref tN])), aJ g tN 80 fN] H → va_D A [(qS, .inr (5, [.ref kP, .ref kM, .ref kG, .ref kE, .ref kA, .ref kN, .ref kK, .int (iI sn), .int (iI sl)])), aI g kP 120 sP, aI g kM 120 sM, aZ g kG 120 sG, aI g kE 120 sE, aI g kA 120 sA, aI g kN 720 fM, (qT, .inr (6, [.ref tS, .ref tZ, .ref tN])), aJ g tN 80 fN] → va_S A s.heap H locs → lv_has ls 11 [(9, .int (iI i)), (8, .int (iI tog)), (7, .int (iI sn)), (0, .ref qS), (1, .int (iI po)), (2, .int (iI ro)), (3, .ref qT), (4, .int (iI t)), (5, .int (iI mi)), (6, .int (iI pm))] → W p l e ({ frames := 1, cells := 0, slots := 0, locals := 22 } : Room) s m ([.ref qS, .int (iI po), .int (iI ro), .ref qT, .int (iI t), .int (iI mi), .int (iI pm)] : List Value).toArray below meth c H locs 0 0 Q (F0 m 12 ls []) := by
    intro fu_3
    induction fu_3 with
    | zero => exact fun _ _ _ _ _ _ _ _ q => absurd q (Nat.not_lt_zero _)
    | succ fu_3 ih_2 =>
      intro k i tog fM e_i h_k e_t e_M hm_4 H locs ls hP hD hS hl
      have e_ix : (t * 20 + i).toNat = (t * 20).toNat + k := by omega
      refine lv_iload hx hb dX5_add_12 (lv_at hl 0 rfl) ?_
      refine lv_iload hx hb dX5_add_14 (lv_at hl 9 rfl) ?_
      refine lv_iconst (v := iI 2) hx hb dX5_add_16 rfl ?_
      refine q_iadd hx hb dX5_add_17 ?_
      refine q_icmp_ge (tgt := 60) hx hb dX5_add_18 (by decide) (by omega) (fun c_5 => ?_) (fun c_5 => ?_)
      · have e_k : k = pm.toNat + 2 := by omega
        subst e_k
        subst e_t
        subst e_M
        refine lv_aload_n hx hb dX5_add_60 rfl (lv_at hl 3 rfl) ?_
        refine lv_iload hx hb dX5_add_61 (lv_at hl 2 rfl) ?_
        refine lv_iload hx hb dX5_add_63 (lv_at hl 9 rfl) ?_
        refine lv_iconst (v := iI 1) hx hb dX5_add_65 rfl ?_
        refine q_iadd hx hb dX5_add_66 ?_
        refine q_read (rest := []) (q_runRV (As := [.int (iI sn), .int (iI (pm + 1))]) ⟨hx, hb, hml, hown, hts⟩ (kX5_numberOf l g qS kP kM kG kE kA kN kK (va_cpy fN sN (t * 20).toNat (sn * 6).toNat (pm.toNat + 2)) sn sl sn (pm + 1) (by omega) (by omega)) (cwV 2 hts gX5_add_X5_numberOf rfl rfl rfl (by decide +kernel) ⟨Nat.le_of_ble_eq_true rfl, Nat.le_of_ble_eq_true rfl⟩) (va_recv hE.1 hP (ci := 5) (q0 := 0) rfl rfl) hE (hP.sub (ws' := [(qS, .inr (5, [.ref kP, .ref kM, .ref kG, .ref kE, .ref kA, .ref kN, .ref kK, .int (iI sn), .int (iI sl)])), aI g kN 720 (va_cpy fN sN (t * 20).toNat (sn * 6).toNat (pm.toNat + 2))]) [0, 6] rfl) rfl hl.1 (Nat.le_of_ble_eq_true rfl) dX5_add_67 ⟨Nat.zero_le _, Nat.zero_le _⟩) (fun r_ hq_6 => ?_)
        obtain rfl := hq_6
        refine W.eq (g2 := F0 m 70 ls [.int (iI ((va_cpy fN sN (t * 20).toNat (sn * 6).toNat (pm.toNat + 2)) (sn * 6 + (pm + 1)).toNat))]) rfl ?_
        refine q_si (y := (iI (fN ((t * 20).toNat + (pm.toNat + 1))))) (by rw [show (sn * 6 + (pm + 1)).toNat = (sn * 6).toNat + (pm.toNat + 1) by omega, cpy_at (by omega)]) ?_
        have rv_1 := h_v (pm.toNat + 1) (by omega)
        have rv_2 := sumTo_r (F := fN) (b := (t * 20).toNat) (n := pm.toNat + 2) (m := 9999) (by decide) h_v
        have rv_3 : ((pm.toNat + 2 : Nat) : Int) * 9999 ≤ 60000 := by omega
        generalize e_tog : sumTo fN (t * 20).toNat (pm.toNat + 2) = TOG at *
        generalize e_all : fN ((t * 20).toNat + (pm.toNat + 1)) = ALL at *
        refine lv_istore (lv' := [(9, .int (iI ALL)), (8, .int (iI TOG)), (7, .int (iI sn)), (0, .ref qS), (1, .int (iI po)), (2, .int (iI ro)), (3, .ref qT), (4, .int (iI t)), (5, .int (iI mi)), (6, .int (iI pm))]) hx hb dX5_add_70 hl (by decide) rfl (fun ls hl => ?_)
        refine lv_aload_n hx hb dX5_add_72 rfl (lv_at hl 3 rfl) ?_
        refine va_get (D := g.1) (ci := 5) (v := .ref kA) (C := RX5) (T := TX5) (N := 9) hx hb hts iwX5 hown hE.1 hP 0 rfl rfl 4 (by decide) (hts (.fieldLink RX5 25 "QuickCount$SheetBook" "alls" "[I") (List.mem_cons_of_mem _ (List.mem_append_left _ (List.mem_append_left _ (List.mem_of_getElem? (i := 2) rfl))))) (fun _ h9 => h9) rfl dX5_add_73 ?_
        refine lv_iload hx hb dX5_add_76 (lv_at hl 2 rfl) ?_
        refine lv_iload hx hb dX5_add_78 (lv_at hl 0 rfl) ?_
        refine q_iast hx hb hE hP hD hS 5 rfl ((sn).toNat) (by omega) (by decide) dX5_add_80 (fun H locs hP hD hS => ?_)
        have hP : va_P g.1 vwCl [(qS, .inr (5, [.ref kP, .ref kM, .ref kG, .ref kE, .ref kA, .ref kN, .ref kK, .int (iI sn), .int (iI sl)])), aI g kP 120 sP, aI g kM 120 sM, aZ g kG 120 sG, aI g kE 120 sE, aI g kA 120 (va_up sA ((sn).toNat) ALL), aI g kN 720 (va_cpy fN sN (t * 20).toNat (sn * 6).toNat (pm.toNat + 2)), (qT, .inr (6, [.ref tS, .ref tZ, .ref tN])), aJ g tN 80 fN] H := hP
        have hD : va_D A [(qS, .inr (5, [.ref kP, .ref kM, .ref kG, .ref kE, .ref kA, .ref kN, .ref kK, .int (iI sn), .int (iI sl)])), aI g kP 120 sP, aI g kM 120 sM, aZ g kG 120 sG, aI g kE 120 sE, aI g kA 120 (va_up sA ((sn).toNat) ALL), aI g kN 720 (va_cpy fN sN (t * 20).toNat (sn * 6).toNat (pm.toNat + 2)), (qT, .inr (6, [.ref tS, .ref tZ, .ref tN])), aJ g tN 80 fN] := hD
        refine lv_aload_n hx hb dX5_add_81 rfl (lv_at hl 3 rfl) ?_
        refine va_get (D := g.1) (ci := 5) (v := .ref kE) (C := RX5) (T := TX5) (N := 9) hx hb hts iwX5 hown hE.1 hP 0 rfl rfl 3 (by decide) (hts (.fieldLink RX5 22 "QuickCount$SheetBook" "excesses" "[I") (List.mem_cons_of_mem _ (List.mem_append_left _ (List.mem_append_left _ (List.mem_of_getElem? (i := 3) rfl))))) (fun _ h9 => h9) rfl dX5_add_82 ?_
        refine lv_iload hx hb dX5_add_85 (lv_at hl 2 rfl) ?_
        refine lv_iload hx hb dX5_add_87 (lv_at hl 1 rfl) ?_
        refine lv_iconst (v := iI 2) hx hb dX5_add_89 rfl ?_
        refine lv_iload hx hb dX5_add_90 (lv_at hl 0 rfl) ?_
        refine q_imul hx hb dX5_add_92 ?_
        refine q_isub hx hb dX5_add_93 ?_
        refine q_iast hx hb hE hP hD hS 4 rfl ((sn).toNat) (by omega) (by decide) dX5_add_94 (fun H locs hP hD hS => ?_)
        have hP : va_P g.1 vwCl [(qS, .inr (5, [.ref kP, .ref kM, .ref kG, .ref kE, .ref kA, .ref kN, .ref kK, .int (iI sn), .int (iI sl)])), aI g kP 120 sP, aI g kM 120 sM, aZ g kG 120 sG, aI g kE 120 (va_up sE ((sn).toNat) (TOG - (2 * ALL))), aI g kA 120 (va_up sA ((sn).toNat) ALL), aI g kN 720 (va_cpy fN sN (t * 20).toNat (sn * 6).toNat (pm.toNat + 2)), (qT, .inr (6, [.ref tS, .ref tZ, .ref tN])), aJ g tN 80 fN] H := hP
        have hD : va_D A [(qS, .inr (5, [.ref kP, .ref kM, .ref kG, .ref kE, .ref kA, .ref kN, .ref kK, .int (iI sn), .int (iI sl)])), aI g kP 120 sP, aI g kM 120 sM, aZ g kG 120 sG, aI g kE 120 (va_up sE ((sn).toNat) (TOG - (2 * ALL))), aI g kA 120 (va_up sA ((sn).toNat) ALL), aI g kN 720 (va_cpy fN sN (t * 20).toNat (sn * 6).toNat (pm.toNat + 2)), (qT, .inr (6, [.ref tS, .ref tZ, .ref tN])), aJ g tN 80 fN] := hD
        refine lv_aload_n hx hb dX5_add_95 rfl (lv_at hl 3 rfl) ?_
        refine va_get (D := g.1) (ci := 5) (v := .ref kG) (C := RX5) (T := TX5) (N := 9) hx hb hts iwX5 hown hE.1 hP 0 rfl rfl 2 (by decide) (hts (.fieldLink RX5 18 "QuickCount$SheetBook" "isGood" "[Z") (List.mem_cons_of_mem _ (List.mem_append_left _ (List.mem_append_left _ (List.mem_of_getElem? (i := 4) rfl))))) (fun _ h9 => h9) rfl dX5_add_96 ?_
        refine lv_iload hx hb dX5_add_99 (lv_at hl 2 rfl) ?_
        refine lv_aload_n hx hb dX5_add_101 rfl (lv_at hl 3 rfl) ?_
        refine va_get (D := g.1) (ci := 5) (v := .ref kE) (C := RX5) (T := TX5) (N := 9) hx hb hts iwX5 hown hE.1 hP 0 rfl rfl 3 (by decide) (hts (.fieldLink RX5 22 "QuickCount$SheetBook" "excesses" "[I") (List.mem_cons_of_mem _ (List.mem_append_left _ (List.mem_append_left _ (List.mem_of_getElem? (i := 3) rfl))))) (fun _ h9 => h9) rfl dX5_add_102 ?_
        refine lv_iload hx hb dX5_add_105 (lv_at hl 2 rfl) ?_
        refine q_iald hx hb hE hP 4 rfl ((sn).toNat) (by omega) (by decide) dX5_add_107 ?_
        refine q_si (y := iI (TOG - (2 * ALL))) (by rw [va_up_self]) ?_
        suffices K_7 : W p l e ({ frames := 1, cells := 0, slots := 0, locals := 22 } : Room) s m ([.ref qS, .int (iI po), .int (iI ro), .ref qT, .int (iI t), .int (iI mi), .int (iI pm)] : List Value).toArray below meth c H locs 0 0 Q (F0 m 122 ls [.int (bP (((TOG - (2 * ALL)) = 0) ∧ (¬ ro < ALL))), .int (iI sn), .ref kG]) from by
          refine q_if_ne (tgt := 121) hx hb dX5_add_108 (by decide) (by omega) (fun c_8 => ?_) (fun c_8 => ?_)
          · refine lv_iconst (v := iI 0) hx hb dX5_add_121 rfl ?_
            exact q_si (y := bP (((TOG - (2 * ALL)) = 0) ∧ (¬ ro < ALL))) (bP_f (by omega)).symm K_7
          · refine lv_iload hx hb dX5_add_111 (lv_at hl 0 rfl) ?_
            refine lv_iload_n hx hb dX5_add_113 rfl (lv_at hl 5 rfl) ?_
            refine q_icmp_gt (tgt := 121) hx hb dX5_add_114 (by decide) (by omega) (fun c_9 => ?_) (fun c_9 => ?_)
            · refine lv_iconst (v := iI 0) hx hb dX5_add_121 rfl ?_
              exact q_si (y := bP (((TOG - (2 * ALL)) = 0) ∧ (¬ ro < ALL))) (bP_f (by omega)).symm K_7
            · refine lv_iconst (v := iI 1) hx hb dX5_add_117 rfl ?_
              refine lv_goto (tgt := 122) hx hb dX5_add_118 (by decide) ?_
              exact q_si (y := bP (((TOG - (2 * ALL)) = 0) ∧ (¬ ro < ALL))) (bP_t (by omega)).symm K_7
        refine q_zast hx hb hE hP hD hS 3 rfl ((sn).toNat) (by omega) (by decide) dX5_add_122 (fun H locs hP hD hS => ?_)
        have hP : va_P g.1 vwCl [(qS, .inr (5, [.ref kP, .ref kM, .ref kG, .ref kE, .ref kA, .ref kN, .ref kK, .int (iI sn), .int (iI sl)])), aI g kP 120 sP, aI g kM 120 sM, aZ g kG 120 (va_up sG ((sn).toNat) (decide (((TOG - (2 * ALL)) = 0) ∧ (¬ ro < ALL)))), aI g kE 120 (va_up sE ((sn).toNat) (TOG - (2 * ALL))), aI g kA 120 (va_up sA ((sn).toNat) ALL), aI g kN 720 (va_cpy fN sN (t * 20).toNat (sn * 6).toNat (pm.toNat + 2)), (qT, .inr (6, [.ref tS, .ref tZ, .ref tN])), aJ g tN 80 fN] H := hP
        have hD : va_D A [(qS, .inr (5, [.ref kP, .ref kM, .ref kG, .ref kE, .ref kA, .ref kN, .ref kK, .int (iI sn), .int (iI sl)])), aI g kP 120 sP, aI g kM 120 sM, aZ g kG 120 (va_up sG ((sn).toNat) (decide (((TOG - (2 * ALL)) = 0) ∧ (¬ ro < ALL)))), aI g kE 120 (va_up sE ((sn).toNat) (TOG - (2 * ALL))), aI g kA 120 (va_up sA ((sn).toNat) ALL), aI g kN 720 (va_cpy fN sN (t * 20).toNat (sn * 6).toNat (pm.toNat + 2)), (qT, .inr (6, [.ref tS, .ref tZ, .ref tN])), aJ g tN 80 fN] := hD
        refine lv_aload_n hx hb dX5_add_123 rfl (lv_at hl 3 rfl) ?_
        refine va_get (D := g.1) (ci := 5) (v := .ref kP) (C := RX5) (T := TX5) (N := 9) hx hb hts iwX5 hown hE.1 hP 0 rfl rfl 0 (by decide) (hts (.fieldLink RX5 9 "QuickCount$SheetBook" "polls" "[I") (List.mem_cons_of_mem _ (List.mem_append_left _ (List.mem_append_left _ (List.mem_of_getElem? (i := 5) rfl))))) (fun _ h9 => h9) rfl dX5_add_124 ?_
        refine lv_iload hx hb dX5_add_127 (lv_at hl 2 rfl) ?_
        refine lv_iload_n hx hb dX5_add_129 rfl (lv_at hl 4 rfl) ?_
        refine q_iast hx hb hE hP hD hS 1 rfl ((sn).toNat) (by omega) (by decide) dX5_add_130 (fun H locs hP hD hS => ?_)
        have hP : va_P g.1 vwCl [(qS, .inr (5, [.ref kP, .ref kM, .ref kG, .ref kE, .ref kA, .ref kN, .ref kK, .int (iI sn), .int (iI sl)])), aI g kP 120 (va_up sP ((sn).toNat) po), aI g kM 120 sM, aZ g kG 120 (va_up sG ((sn).toNat) (decide (((TOG - (2 * ALL)) = 0) ∧ (¬ ro < ALL)))), aI g kE 120 (va_up sE ((sn).toNat) (TOG - (2 * ALL))), aI g kA 120 (va_up sA ((sn).toNat) ALL), aI g kN 720 (va_cpy fN sN (t * 20).toNat (sn * 6).toNat (pm.toNat + 2)), (qT, .inr (6, [.ref tS, .ref tZ, .ref tN])), aJ g tN 80 fN] H := hP
        have hD : va_D A [(qS, .inr (5, [.ref kP, .ref kM, .ref kG, .ref kE, .ref kA, .ref kN, .ref kK, .int (iI sn), .int (iI sl)])), aI g kP 120 (va_up sP ((sn).toNat) po), aI g kM 120 sM, aZ g kG 120 (va_up sG ((sn).toNat) (decide (((TOG - (2 * ALL)) = 0) ∧ (¬ ro < ALL)))), aI g kE 120 (va_up sE ((sn).toNat) (TOG - (2 * ALL))), aI g kA 120 (va_up sA ((sn).toNat) ALL), aI g kN 720 (va_cpy fN sN (t * 20).toNat (sn * 6).toNat (pm.toNat + 2)), (qT, .inr (6, [.ref tS, .ref tZ, .ref tN])), aJ g tN 80 fN] := hD
        refine lv_aload_n hx hb dX5_add_131 rfl (lv_at hl 3 rfl) ?_
        refine va_get (D := g.1) (ci := 5) (v := .ref kM) (C := RX5) (T := TX5) (N := 9) hx hb hts iwX5 hown hE.1 hP 0 rfl rfl 1 (by decide) (hts (.fieldLink RX5 15 "QuickCount$SheetBook" "minutes" "[I") (List.mem_cons_of_mem _ (List.mem_append_left _ (List.mem_append_left _ (List.mem_of_getElem? (i := 6) rfl))))) (fun _ h9 => h9) rfl dX5_add_132 ?_
        refine lv_iload hx hb dX5_add_135 (lv_at hl 2 rfl) ?_
        refine lv_iload hx hb dX5_add_137 (lv_at hl 8 rfl) ?_
        refine q_iast hx hb hE hP hD hS 2 rfl ((sn).toNat) (by omega) (by decide) dX5_add_139 (fun H locs hP hD hS => ?_)
        have hP : va_P g.1 vwCl [(qS, .inr (5, [.ref kP, .ref kM, .ref kG, .ref kE, .ref kA, .ref kN, .ref kK, .int (iI sn), .int (iI sl)])), aI g kP 120 (va_up sP ((sn).toNat) po), aI g kM 120 (va_up sM ((sn).toNat) mi), aZ g kG 120 (va_up sG ((sn).toNat) (decide (((TOG - (2 * ALL)) = 0) ∧ (¬ ro < ALL)))), aI g kE 120 (va_up sE ((sn).toNat) (TOG - (2 * ALL))), aI g kA 120 (va_up sA ((sn).toNat) ALL), aI g kN 720 (va_cpy fN sN (t * 20).toNat (sn * 6).toNat (pm.toNat + 2)), (qT, .inr (6, [.ref tS, .ref tZ, .ref tN])), aJ g tN 80 fN] H := hP
        have hD : va_D A [(qS, .inr (5, [.ref kP, .ref kM, .ref kG, .ref kE, .ref kA, .ref kN, .ref kK, .int (iI sn), .int (iI sl)])), aI g kP 120 (va_up sP ((sn).toNat) po), aI g kM 120 (va_up sM ((sn).toNat) mi), aZ g kG 120 (va_up sG ((sn).toNat) (decide (((TOG - (2 * ALL)) = 0) ∧ (¬ ro < ALL)))), aI g kE 120 (va_up sE ((sn).toNat) (TOG - (2 * ALL))), aI g kA 120 (va_up sA ((sn).toNat) ALL), aI g kN 720 (va_cpy fN sN (t * 20).toNat (sn * 6).toNat (pm.toNat + 2)), (qT, .inr (6, [.ref tS, .ref tZ, .ref tN])), aJ g tN 80 fN] := hD
        refine lv_aload_n hx hb dX5_add_140 rfl (lv_at hl 3 rfl) ?_
        refine lv_iload hx hb dX5_add_141 (lv_at hl 8 rfl) ?_
        refine va_put (D := g.1) (ci := 5) (v := .int (iI mi)) (ty := .int) (C := RX5) (T := TX5) (N := 9) hx hb hts iwX5 tyX5 tyX5_ok nmX5 hown hE.1 hP hD hS 0 rfl rfl 8 (by decide) (hts (.fieldLink RX5 48 "QuickCount$SheetBook" "latestMinute" "I") (List.mem_cons_of_mem _ (List.mem_append_left _ (List.mem_append_left _ (List.mem_of_getElem? (i := 7) rfl))))) (fun _ h9 => h9) rfl (by decide +kernel) rfl rfl (Nat.le_of_ble_eq_true rfl) dX5_add_143 (fun H locs hP hD hS => ?_)
        have hP : va_P g.1 vwCl [(qS, .inr (5, [.ref kP, .ref kM, .ref kG, .ref kE, .ref kA, .ref kN, .ref kK, .int (iI sn), .int (iI mi)])), aI g kP 120 (va_up sP ((sn).toNat) po), aI g kM 120 (va_up sM ((sn).toNat) mi), aZ g kG 120 (va_up sG ((sn).toNat) (decide (((TOG - (2 * ALL)) = 0) ∧ (¬ ro < ALL)))), aI g kE 120 (va_up sE ((sn).toNat) (TOG - (2 * ALL))), aI g kA 120 (va_up sA ((sn).toNat) ALL), aI g kN 720 (va_cpy fN sN (t * 20).toNat (sn * 6).toNat (pm.toNat + 2)), (qT, .inr (6, [.ref tS, .ref tZ, .ref tN])), aJ g tN 80 fN] H := hP
        have hD : va_D A [(qS, .inr (5, [.ref kP, .ref kM, .ref kG, .ref kE, .ref kA, .ref kN, .ref kK, .int (iI sn), .int (iI mi)])), aI g kP 120 (va_up sP ((sn).toNat) po), aI g kM 120 (va_up sM ((sn).toNat) mi), aZ g kG 120 (va_up sG ((sn).toNat) (decide (((TOG - (2 * ALL)) = 0) ∧ (¬ ro < ALL)))), aI g kE 120 (va_up sE ((sn).toNat) (TOG - (2 * ALL))), aI g kA 120 (va_up sA ((sn).toNat) ALL), aI g kN 720 (va_cpy fN sN (t * 20).toNat (sn * 6).toNat (pm.toNat + 2)), (qT, .inr (6, [.ref tS, .ref tZ, .ref tN])), aJ g tN 80 fN] := hD
        refine lv_aload_n hx hb dX5_add_146 rfl (lv_at hl 3 rfl) ?_
        refine lv_dup hx hb dX5_add_147 rfl ?_
        refine va_get (D := g.1) (ci := 5) (v := .int (iI sn)) (C := RX5) (T := TX5) (N := 9) hx hb hts iwX5 hown hE.1 hP 0 rfl rfl 7 (by decide) (hts (.fieldLink RX5 34 "QuickCount$SheetBook" "many" "I") (List.mem_cons_of_mem _ (List.mem_append_left _ (List.mem_append_left _ (List.mem_of_getElem? (i := 0) rfl))))) (fun _ h9 => h9) rfl dX5_add_148 ?_
        refine lv_iconst (v := iI 1) hx hb dX5_add_151 rfl ?_
        refine q_iadd hx hb dX5_add_152 ?_
        refine va_put (D := g.1) (ci := 5) (v := .int (iI (sn + 1))) (ty := .int) (C := RX5) (T := TX5) (N := 9) hx hb hts iwX5 tyX5 tyX5_ok nmX5 hown hE.1 hP hD hS 0 rfl rfl 7 (by decide) (hts (.fieldLink RX5 34 "QuickCount$SheetBook" "many" "I") (List.mem_cons_of_mem _ (List.mem_append_left _ (List.mem_append_left _ (List.mem_of_getElem? (i := 0) rfl))))) (fun _ h9 => h9) rfl (by decide +kernel) rfl rfl (Nat.le_of_ble_eq_true rfl) dX5_add_153 (fun H locs hP hD hS => ?_)
        have hP : va_P g.1 vwCl [(qS, .inr (5, [.ref kP, .ref kM, .ref kG, .ref kE, .ref kA, .ref kN, .ref kK, .int (iI (sn + 1)), .int (iI mi)])), aI g kP 120 (va_up sP ((sn).toNat) po), aI g kM 120 (va_up sM ((sn).toNat) mi), aZ g kG 120 (va_up sG ((sn).toNat) (decide (((TOG - (2 * ALL)) = 0) ∧ (¬ ro < ALL)))), aI g kE 120 (va_up sE ((sn).toNat) (TOG - (2 * ALL))), aI g kA 120 (va_up sA ((sn).toNat) ALL), aI g kN 720 (va_cpy fN sN (t * 20).toNat (sn * 6).toNat (pm.toNat + 2)), (qT, .inr (6, [.ref tS, .ref tZ, .ref tN])), aJ g tN 80 fN] H := hP
        have hD : va_D A [(qS, .inr (5, [.ref kP, .ref kM, .ref kG, .ref kE, .ref kA, .ref kN, .ref kK, .int (iI (sn + 1)), .int (iI mi)])), aI g kP 120 (va_up sP ((sn).toNat) po), aI g kM 120 (va_up sM ((sn).toNat) mi), aZ g kG 120 (va_up sG ((sn).toNat) (decide (((TOG - (2 * ALL)) = 0) ∧ (¬ ro < ALL)))), aI g kE 120 (va_up sE ((sn).toNat) (TOG - (2 * ALL))), aI g kA 120 (va_up sA ((sn).toNat) ALL), aI g kN 720 (va_cpy fN sN (t * 20).toNat (sn * 6).toNat (pm.toNat + 2)), (qT, .inr (6, [.ref tS, .ref tZ, .ref tN])), aJ g tN 80 fN] := hD
        refine lv_iload hx hb dX5_add_156 (lv_at hl 2 rfl) ?_
        exact qe_i hx hb hr hlocks hQ hS dX5_add_158 hP hD (⟨rfl, by simp only [← e_tog, ← e_all, Int.not_lt]⟩)
      · refine lv_aload_n hx hb dX5_add_21 rfl (lv_at hl 6 rfl) ?_
        refine lv_iload hx hb dX5_add_22 (lv_at hl 7 rfl) ?_
        refine lv_iload hx hb dX5_add_24 (lv_at hl 0 rfl) ?_
        refine q_read (rest := []) (q_runRVN (As := [.int (iI t), .int (iI i)]) ⟨hx, hb, hml, hown, hts⟩ (kX6_at l g qT tS tZ tN fN t i (by omega) (by omega)) ⟨va_cnB 2 hts ggX5_add_X6_at rfl rfl rfl (hE.2 (.methodLinkNest "QuickCount$SheetBook" 38 yX6_at "QuickCount") (List.mem_of_getElem? (i := 22) rfl)) (hts (.initialized RX6) (List.mem_cons_of_mem _ (List.mem_append_left _ (List.mem_append_left _ (List.mem_of_getElem? (i := 9) rfl))))) (by decide +kernel) ⟨Nat.le_of_ble_eq_true rfl, Nat.le_of_ble_eq_true rfl⟩, (hts (.instanceMethod yX6_at) (List.mem_cons_of_mem _ (List.mem_append_left _ (List.mem_append_left _ (List.mem_of_getElem? (i := 8) rfl))))), (hts (.selects RX6 yX6_at yX6_at) (List.mem_cons_of_mem _ (List.mem_append_left _ (List.mem_append_left _ (List.mem_of_getElem? (i := 10) rfl)))))⟩ (va_recv hE.1 hP (ci := 6) (q0 := 7) rfl rfl) hE (hP.sub (ws' := [(qT, .inr (6, [.ref tS, .ref tZ, .ref tN])), aJ g tN 80 fN]) [7, 8] rfl) rfl hl.1 (Nat.le_of_ble_eq_true rfl) dX5_add_26 ⟨Nat.zero_le _, Nat.zero_le _⟩) (fun r_ hq_10 => ?_)
        obtain rfl := hq_10
        refine W.eq (g2 := F0 m 29 ls [.long (jI (fN (t * 20 + i).toNat))]) rfl ?_
        refine q_l2i hx hb dX5_add_29 ?_
        refine lv_istore (lv' := [(10, .int (iI (fN (t * 20 + i).toNat))), (9, .int (iI i)), (8, .int (iI tog)), (7, .int (iI sn)), (0, .ref qS), (1, .int (iI po)), (2, .int (iI ro)), (3, .ref qT), (4, .int (iI t)), (5, .int (iI mi)), (6, .int (iI pm))]) hx hb dX5_add_30 hl (by decide) rfl (fun ls hl => ?_)
        refine lv_aload_n hx hb dX5_add_32 rfl (lv_at hl 4 rfl) ?_
        refine va_get (D := g.1) (ci := 5) (v := .ref kN) (C := RX5) (T := TX5) (N := 9) hx hb hts iwX5 hown hE.1 hP 0 rfl rfl 5 (by decide) (hts (.fieldLink RX5 28 "QuickCount$SheetBook" "numbers" "[I") (List.mem_cons_of_mem _ (List.mem_append_left _ (List.mem_append_left _ (List.mem_of_getElem? (i := 1) rfl))))) (fun _ h9 => h9) rfl dX5_add_33 ?_
        refine lv_iload hx hb dX5_add_36 (lv_at hl 3 rfl) ?_
        refine lv_bipush (v := iI 6) hx hb dX5_add_38 (by decide) ?_
        refine q_imul hx hb dX5_add_40 ?_
        refine lv_iload hx hb dX5_add_41 (lv_at hl 1 rfl) ?_
        refine q_iadd hx hb dX5_add_43 ?_
        refine lv_iload hx hb dX5_add_44 (lv_at hl 0 rfl) ?_
        refine q_iast hx hb hE hP hD hS 6 rfl ((sn * 6).toNat + k) (by omega) (by decide) dX5_add_46 (fun H locs hP hD hS => ?_)
        have hP : va_P g.1 vwCl [(qS, .inr (5, [.ref kP, .ref kM, .ref kG, .ref kE, .ref kA, .ref kN, .ref kK, .int (iI sn), .int (iI sl)])), aI g kP 120 sP, aI g kM 120 sM, aZ g kG 120 sG, aI g kE 120 sE, aI g kA 120 sA, aI g kN 720 (va_up fM ((sn * 6).toNat + k) (fN (t * 20 + i).toNat)), (qT, .inr (6, [.ref tS, .ref tZ, .ref tN])), aJ g tN 80 fN] H := hP
        have hD : va_D A [(qS, .inr (5, [.ref kP, .ref kM, .ref kG, .ref kE, .ref kA, .ref kN, .ref kK, .int (iI sn), .int (iI sl)])), aI g kP 120 sP, aI g kM 120 sM, aZ g kG 120 sG, aI g kE 120 sE, aI g kA 120 sA, aI g kN 720 (va_up fM ((sn * 6).toNat + k) (fN (t * 20 + i).toNat)), (qT, .inr (6, [.ref tS, .ref tZ, .ref tN])), aJ g tN 80 fN] := hD
        refine lv_iload hx hb dX5_add_47 (lv_at hl 2 rfl) ?_
        refine lv_iload hx hb dX5_add_49 (lv_at hl 0 rfl) ?_
        refine q_iadd hx hb dX5_add_51 ?_
        refine lv_istore (lv' := [(8, .int (iI (tog + (fN (t * 20 + i).toNat)))), (10, .int (iI (fN (t * 20 + i).toNat))), (9, .int (iI i)), (7, .int (iI sn)), (0, .ref qS), (1, .int (iI po)), (2, .int (iI ro)), (3, .ref qT), (4, .int (iI t)), (5, .int (iI mi)), (6, .int (iI pm))]) hx hb dX5_add_52 hl (by decide) rfl (fun ls hl => ?_)
        refine lv_iinc (v := (iI (i + 1))) (lv' := [(9, .int (iI (i + 1))), (8, .int (iI (tog + (fN (t * 20 + i).toNat)))), (10, .int (iI (fN (t * 20 + i).toNat))), (7, .int (iI sn)), (0, .ref qS), (1, .int (iI po)), (2, .int (iI ro)), (3, .ref qT), (4, .int (iI t)), (5, .int (iI mi)), (6, .int (iI pm))]) hx hb dX5_add_54 hl (k := 2) rfl (iI_add _ _) (by decide) rfl (fun ls hl => ?_)
        refine lv_goto (tgt := 12) hx hb dX5_add_57 (by decide) ?_
        exact ih_2  (k + 1) (i + 1) (tog + (fN (t * 20 + i).toNat)) (va_up fM ((sn * 6).toNat + k) (fN (t * 20 + i).toNat)) (by omega) (by omega) (by rw [sumTo_s, e_t, e_ix]) (by rw [e_M, e_ix]; exact cpy_up _ _ _ _ _) (by omega) _ _ ls (hP.sub [0, 1, 2, 3, 4, 5, 6, 7, 8] rfl) (hD.sub [0, 1, 2, 3, 4, 5, 6, 7, 8] (by decide) rfl) hS (lv_sub hl [0, 1, 3, 4, 5, 6, 7, 8, 9, 10] rfl)
  exact K_1 ((pm + 2).toNat - 0 + 1) 0 0 0 sN (rfl) (by omega) (rfl) ((cpy_0 _ _ _ _).symm) (Nat.lt_succ_self _) _ _ ls (hP.sub [0, 1, 2, 3, 4, 5, 6, 7, 8] rfl) (hD.sub [0, 1, 2, 3, 4, 5, 6, 7, 8] (by decide) rfl) hS (lv_sub hl [0, 1, 2, 3, 4, 5, 6, 7, 8, 9] rfl)
set_option maxHeartbeats 4000000 in
set_option maxRecDepth 100000 in
theorem kX4_takeLots (l : Launch) (g : qG) (qP : Nat) (pL : Nat) (pR : Nat) (pD : Nat) (pW : Nat) (pN : Nat) (pH : Nat) (pT : Nat) (fL : Nat → Int) (fD : Nat → Bool) (fW : Nat → Bool) (fPN : Nat → Int) (fH : Nat → Int) (fT : Nat → Int) (pn : Int) (la : Int) (tk : Int) (sd : Int) (h_la : 0 ≤ la ∧ la ≤ 3) (h_tk : 1 ≤ tk ∧ tk ≤ 40) (h_sd : 0 ≤ sd ∧ sd ≤ 2147483647) (h_pn : 0 ≤ pn ∧ pn ≤ 40) (h_all : fPN la.toNat = cntL fL la pn.toNat) (h_fL : ∀ k, 0 ≤ fL k ∧ fL k ≤ 3) : ME l g yX4_takeLots wsX4_takeLots ({ frames := 0, cells := 0, slots := 0, locals := 0 }) [.ref qP, .int (iI la), .int (iI tk), .int (iI sd)] [(qP, .inr (4, [.ref pL, .ref pR, .ref pD, .ref pW, .ref pN, .ref pH, .ref pT, .int (iI pn)])), aI g pL 40 fL, aZ g pD 40 fD, aZ g pW 40 fW, aI g pN 4 fPN, aI g pH 4 fH, aI g pT 4 fT] (fun r w1 => r = none ∧ w1 = [(qP, .inr (4, [.ref pL, .ref pR, .ref pD, .ref pW, .ref pN, .ref pH, .ref pT, .int (iI pn)])), aI g pL 40 fL, aZ g pD 40 (lotD fL la (fPN la.toNat) tk sd fD pn.toNat), aZ g pW 40 (lotW fL la fW pn.toNat), aI g pN 4 fPN, aI g pH 4 (va_up fH la.toNat (fPN la.toNat)), aI g pT 4 (va_up fT la.toNat tk)]) := by
  refine ME.intro (cc := cX4_takeLots) (maxL := 11) (ret := none) (by decide) rfl (Nat.le_of_ble_eq_true rfl) ?_
  intro p e s m below meth c ls Q A H locs ⟨hx, hb, hr, hml, hown, hts, hlocks⟩ hP hE hl hD hA hS hQ
  have hl : lv_has ls 11 [(0, .ref qP), (1, .int (iI la)), (2, .int (iI tk)), (3, .int (iI sd))] := hl
  have iwX4 : ∀ w ∈ wsX40, w ∈ wsX4_takeLots := (fun _ h => List.mem_cons_of_mem _ (List.mem_append_right _ h))
  refine lv_aload_n hx hb dX4_takeLots_0 rfl (lv_at hl 0 rfl) ?_
  refine va_get (D := g.1) (ci := 4) (v := .ref pH) (C := RX4) (T := TX4) (N := 8) hx hb hts iwX4 hown hE.1 hP 0 rfl rfl 5 (by decide) (hts (.fieldLink RX4 28 "QuickCount$PollBook" "had" "[I") (List.mem_cons_of_mem _ (List.mem_append_left _ (List.mem_of_getElem? (i := 0) rfl)))) (fun _ h9 => h9) rfl dX4_takeLots_1 ?_
  refine lv_iload_n hx hb dX4_takeLots_4 rfl (lv_at hl 1 rfl) ?_
  refine lv_aload_n hx hb dX4_takeLots_5 rfl (lv_at hl 0 rfl) ?_
  refine va_get (D := g.1) (ci := 4) (v := .ref pN) (C := RX4) (T := TX4) (N := 8) hx hb hts iwX4 hown hE.1 hP 0 rfl rfl 4 (by decide) (hts (.fieldLink RX4 25 "QuickCount$PollBook" "perLayer" "[I") (List.mem_cons_of_mem _ (List.mem_append_left _ (List.mem_of_getElem? (i := 1) rfl)))) (fun _ h9 => h9) rfl dX4_takeLots_6 ?_
  refine lv_iload_n hx hb dX4_takeLots_9 rfl (lv_at hl 1 rfl) ?_
  refine q_iald hx hb hE hP 4 rfl ((la).toNat) (by omega) (by decide) dX4_takeLots_10 ?_
  refine q_iast hx hb hE hP hD hS 5 rfl ((la).toNat) (by omega) (by decide) dX4_takeLots_11 (fun H locs hP hD hS => ?_)
  have hP : va_P g.1 vwCl [(qP, .inr (4, [.ref pL, .ref pR, .ref pD, .ref pW, .ref pN, .ref pH, .ref pT, .int (iI pn)])), aI g pL 40 fL, aZ g pD 40 fD, aZ g pW 40 fW, aI g pN 4 fPN, aI g pH 4 (va_up fH ((la).toNat) (fPN ((la).toNat))), aI g pT 4 fT] H := hP
  have hD : va_D A [(qP, .inr (4, [.ref pL, .ref pR, .ref pD, .ref pW, .ref pN, .ref pH, .ref pT, .int (iI pn)])), aI g pL 40 fL, aZ g pD 40 fD, aZ g pW 40 fW, aI g pN 4 fPN, aI g pH 4 (va_up fH ((la).toNat) (fPN ((la).toNat))), aI g pT 4 fT] := hD
  refine lv_aload_n hx hb dX4_takeLots_12 rfl (lv_at hl 0 rfl) ?_
  refine va_get (D := g.1) (ci := 4) (v := .ref pT) (C := RX4) (T := TX4) (N := 8) hx hb hts iwX4 hown hE.1 hP 0 rfl rfl 6 (by decide) (hts (.fieldLink RX4 31 "QuickCount$PollBook" "took" "[I") (List.mem_cons_of_mem _ (List.mem_append_left _ (List.mem_of_getElem? (i := 2) rfl)))) (fun _ h9 => h9) rfl dX4_takeLots_13 ?_
  refine lv_iload_n hx hb dX4_takeLots_16 rfl (lv_at hl 1 rfl) ?_
  refine lv_iload_n hx hb dX4_takeLots_17 rfl (lv_at hl 2 rfl) ?_
  refine q_iast hx hb hE hP hD hS 6 rfl ((la).toNat) (by omega) (by decide) dX4_takeLots_18 (fun H locs hP hD hS => ?_)
  have hP : va_P g.1 vwCl [(qP, .inr (4, [.ref pL, .ref pR, .ref pD, .ref pW, .ref pN, .ref pH, .ref pT, .int (iI pn)])), aI g pL 40 fL, aZ g pD 40 fD, aZ g pW 40 fW, aI g pN 4 fPN, aI g pH 4 (va_up fH ((la).toNat) (fPN ((la).toNat))), aI g pT 4 (va_up fT ((la).toNat) tk)] H := hP
  have hD : va_D A [(qP, .inr (4, [.ref pL, .ref pR, .ref pD, .ref pW, .ref pN, .ref pH, .ref pT, .int (iI pn)])), aI g pL 40 fL, aZ g pD 40 fD, aZ g pW 40 fW, aI g pN 4 fPN, aI g pH 4 (va_up fH ((la).toNat) (fPN ((la).toNat))), aI g pT 4 (va_up fT ((la).toNat) tk)] := hD
  refine lv_iload_n hx hb dX4_takeLots_19 rfl (lv_at hl 3 rfl) ?_
  refine q_i2l hx hb dX4_takeLots_20 (by omega) ?_
  refine lv_lstore (lv' := [(4, .long (jI sd)), (0, .ref qP), (1, .int (iI la)), (2, .int (iI tk)), (3, .int (iI sd))]) hx hb dX4_takeLots_21 hl (by decide) rfl (fun ls hl => ?_)
  refine lv_aload_n hx hb dX4_takeLots_23 rfl (lv_at hl 1 rfl) ?_
  refine va_get (D := g.1) (ci := 4) (v := .ref pN) (C := RX4) (T := TX4) (N := 8) hx hb hts iwX4 hown hE.1 hP 0 rfl rfl 4 (by decide) (hts (.fieldLink RX4 25 "QuickCount$PollBook" "perLayer" "[I") (List.mem_cons_of_mem _ (List.mem_append_left _ (List.mem_of_getElem? (i := 1) rfl)))) (fun _ h9 => h9) rfl dX4_takeLots_24 ?_
  refine lv_iload_n hx hb dX4_takeLots_27 rfl (lv_at hl 2 rfl) ?_
  refine q_iald hx hb hE hP 4 rfl ((la).toNat) (by omega) (by decide) dX4_takeLots_28 ?_
  refine lv_istore (lv' := [(6, .int (iI (fPN ((la).toNat)))), (4, .long (jI sd)), (0, .ref qP), (1, .int (iI la)), (2, .int (iI tk)), (3, .int (iI sd))]) hx hb dX4_takeLots_29 hl (by decide) rfl (fun ls hl => ?_)
  refine lv_iload_n hx hb dX4_takeLots_31 rfl (lv_at hl 4 rfl) ?_
  refine lv_istore (lv' := [(7, .int (iI tk)), (6, .int (iI (fPN ((la).toNat)))), (4, .long (jI sd)), (0, .ref qP), (1, .int (iI la)), (2, .int (iI tk)), (3, .int (iI sd))]) hx hb dX4_takeLots_32 hl (by decide) rfl (fun ls hl => ?_)
  refine lv_iconst (v := iI 0) hx hb dX4_takeLots_34 rfl ?_
  refine lv_istore (lv' := [(8, .int (iI 0)), (7, .int (iI tk)), (6, .int (iI (fPN ((la).toNat)))), (4, .long (jI sd)), (0, .ref qP), (1, .int (iI la)), (2, .int (iI tk)), (3, .int (iI sd))]) hx hb dX4_takeLots_35 hl (by decide) rfl (fun ls hl => ?_)
  have K_1 : ∀ (fu_3 : Nat) (k : Nat) (i : Int) (z : Int) (lf : Int) (wa : Int) (fD2 : Nat → Bool) (fW2 : Nat → Bool), (i = (k : Int)) → ((k : Int) ≤ pn) → (lots fL la (fPN la.toNat) tk sd k = (z, lf, wa)) → (fD2 = lotD fL la (fPN la.toNat) tk sd fD k) → (fW2 = lotW fL la fW k) → pn.toNat - k < fu_3 → ∀ (H : Heap) (locs : List Loc) (ls : Array Slot), va_P g.1 vwCl [(qP, .inr (4, [.ref pL, .ref pR, .ref pD, .ref pW, .ref pN, .ref pH, .ref pT, .int (iI pn)])), aI g pL 40 fL, aZ g pD 40 fD2, aZ g pW 40 fW2, aI g pN 4 fPN, aI g pH 4 (va_up fH ((la).toNat) (fPN ((la).toNat))), aI g pT 4 (va_up fT ((la).toNat) tk)] H → va_D A [(qP, .inr (4, [.ref pL, .ref pR, .ref pD, .ref pW, .ref pN, .ref pH, .ref pT, .int (iI pn)])), aI g pL 40 fL, aZ g pD 40 fD2, aZ g pW 40 fW2, aI g pN 4 fPN, aI g pH 4 (va_up fH ((la).toNat) (fPN ((la).toNat))), aI g pT 4 (va_up fT ((la).toNat) tk)] → va_S A s.heap H locs → lv_has ls 11 [(8, .int (iI i)), (7, .int (iI wa)), (6, .int (iI lf)), (4, .long (jI z)), (0, .ref qP), (1, .int (iI la)), (2, .int (iI tk)), (3, .int (iI sd))] → W p l e ({ frames := 0, cells := 0, slots := 0, locals := 0 } : Room) s m ([.ref qP, .int (iI la), .int (iI tk), .int (iI sd)] : List Value).toArray below meth c H locs 0 0 Q (F0 m 37 ls []) := by
    intro fu_3
    induction fu_3 with
    | zero => exact fun _ _ _ _ _ _ _ _ _ _ _ _ q => absurd q (Nat.not_lt_zero _)
    | succ fu_3 ih_2 =>
      intro k i z lf wa fD2 fW2 e_i h_k e_l e_D e_W hm_4 H locs ls hP hD hS hl
      subst e_i
      have rl_1 := lots_r (fL := fL) (la := la) (all := fPN la.toNat) (take := tk) h_sd (by omega) k
      have rl_2 := lots_l fL la (fPN la.toNat) tk sd k
      have rl_3 := cntL_r fL la k
      have rl_4 := cntL_r fL la pn.toNat
      rw [e_l] at rl_1 rl_2
      dsimp only at rl_1 rl_2
      refine lv_iload hx hb dX4_takeLots_37 (lv_at hl 0 rfl) ?_
      refine lv_aload_n hx hb dX4_takeLots_39 rfl (lv_at hl 4 rfl) ?_
      refine va_get (D := g.1) (ci := 4) (v := .int (iI pn)) (C := RX4) (T := TX4) (N := 8) hx hb hts iwX4 hown hE.1 hP 0 rfl rfl 7 (by decide) (hts (.fieldLink RX4 34 "QuickCount$PollBook" "many" "I") (List.mem_cons_of_mem _ (List.mem_append_left _ (List.mem_of_getElem? (i := 3) rfl)))) (fun _ h9 => h9) rfl dX4_takeLots_40 ?_
      refine q_icmp_ge (tgt := 148) hx hb dX4_takeLots_43 (by decide) (by omega) (fun c_5 => ?_) (fun c_5 => ?_)
      · exact qe_v hx hb hr hlocks hQ hS dX4_takeLots_148 hP hD (⟨rfl, by rw [e_D, e_W, show k = pn.toNat by omega]⟩)
      · refine lv_aload_n hx hb dX4_takeLots_46 rfl (lv_at hl 4 rfl) ?_
        refine va_get (D := g.1) (ci := 4) (v := .ref pL) (C := RX4) (T := TX4) (N := 8) hx hb hts iwX4 hown hE.1 hP 0 rfl rfl 0 (by decide) (hts (.fieldLink RX4 9 "QuickCount$PollBook" "layers" "[I") (List.mem_cons_of_mem _ (List.mem_append_left _ (List.mem_of_getElem? (i := 4) rfl)))) (fun _ h9 => h9) rfl dX4_takeLots_47 ?_
        refine lv_iload hx hb dX4_takeLots_50 (lv_at hl 0 rfl) ?_
        refine q_iald hx hb hE hP 1 rfl k (by omega) (by decide) dX4_takeLots_52 ?_
        have rg_6 := h_fL k
        refine lv_iload_n hx hb dX4_takeLots_53 rfl (lv_at hl 5 rfl) ?_
        refine q_icmp_ne (tgt := 142) hx hb dX4_takeLots_54 (by decide) (by omega) (fun c_7 => ?_) (fun c_7 => ?_)
        · refine lv_iinc (v := (iI ((k : Int) + 1))) (lv' := [(8, .int (iI ((k : Int) + 1))), (7, .int (iI wa)), (6, .int (iI lf)), (4, .long (jI z)), (0, .ref qP), (1, .int (iI la)), (2, .int (iI tk)), (3, .int (iI sd))]) hx hb dX4_takeLots_142 hl (k := 0) rfl (iI_add _ _) (by decide) rfl (fun ls hl => ?_)
          refine lv_goto (tgt := 37) hx hb dX4_takeLots_145 (by decide) ?_
          exact ih_2  (k + 1) ((k : Int) + 1) z lf wa fD2 fW2 (by omega) (by omega) (by first | (rw [lots_n (by assumption)]; exact e_l) | (rw [lots_y (by assumption), e_l]; done) | (rw [lots_y (by assumption), e_l, va_up_self]; simp [Int.sub_eq_add_neg]; done)) (by first | (rw [lotD_n (by assumption)]; exact e_D) | (rw [← lotD_y (by assumption), e_D, e_l]; done) | (rw [← lotD_y (by assumption), e_D, e_l]; simp; done)) (by first | (rw [lotW_n (by assumption)]; exact e_W) | (rw [← lotW_y (by assumption), e_W])) (by omega) _ _ ls (hP.sub [0, 1, 2, 3, 4, 5, 6] rfl) (hD.sub [0, 1, 2, 3, 4, 5, 6] (by decide) rfl) hS (lv_sub hl [0, 1, 2, 3, 4, 5, 6, 7] rfl)
        · refine lv_iload hx hb dX4_takeLots_57 (lv_at hl 2 rfl) ?_
          refine q_if_le (tgt := 142) hx hb dX4_takeLots_59 (by decide) (by omega) (fun c_8 => ?_) (fun c_8 => ?_)
          · exact absurd c_8 (by have q1 := cntL_m fL la (a := k + 1) (b := pn.toNat) (by omega); rw [cntL_s, if_pos (by assumption)] at q1; omega)
          · refine lv_lload hx hb dX4_takeLots_62 (lv_at hl 3 rfl) ?_
            refine lv_ldc2 hx hb hown (hts (.constantLong RX4 38 (1103515245)) (List.mem_cons_of_mem _ (List.mem_append_left _ (List.mem_of_getElem? (i := 5) rfl)))) dX4_takeLots_64 ?_
            refine q_sl (y := jI 1103515245) (by decide) ?_
            refine q_lmul hx hb dX4_takeLots_67 ?_
            refine lv_ldc2 hx hb hown (hts (.constantLong RX4 40 (12345)) (List.mem_cons_of_mem _ (List.mem_append_left _ (List.mem_of_getElem? (i := 6) rfl)))) dX4_takeLots_68 ?_
            refine q_sl (y := jI 12345) (by decide) ?_
            refine q_ladd hx hb dX4_takeLots_71 ?_
            refine lv_ldc2 hx hb hown (hts (.constantLong RX4 42 (2147483647)) (List.mem_cons_of_mem _ (List.mem_append_left _ (List.mem_of_getElem? (i := 7) rfl)))) dX4_takeLots_72 ?_
            refine q_sl (y := jI 2147483647) (by decide) ?_
            refine lv_land hx hb dX4_takeLots_75 ?_
            refine q_sl (y := (jI (lotN z))) (by rw [jI_mask (by omega)]; rfl) ?_
            refine lv_lstore (lv' := [(4, .long (jI (lotN z))), (8, .int (iI (k : Int))), (7, .int (iI wa)), (6, .int (iI lf)), (0, .ref qP), (1, .int (iI la)), (2, .int (iI tk)), (3, .int (iI sd))]) hx hb dX4_takeLots_76 hl (by decide) rfl (fun ls hl => ?_)
            have rl_5 := lotN_r z
            have rl_6 : 0 ≤ lotN z / 65536 ∧ lotN z / 65536 ≤ 32767 := by omega
            have rl_7 : 0 ≤ lotN z / 65536 % lf ∧ lotN z / 65536 % lf < lf := ⟨Int.emod_nonneg _ (by omega), Int.emod_lt_of_pos _ (by omega)⟩
            refine lv_lload hx hb dX4_takeLots_78 (lv_at hl 0 rfl) ?_
            refine lv_ldc2 hx hb hown (hts (.constantLong RX4 44 (65536)) (List.mem_cons_of_mem _ (List.mem_append_left _ (List.mem_of_getElem? (i := 8) rfl)))) dX4_takeLots_80 ?_
            refine q_sl (y := jI 65536) (by decide) ?_
            refine q_ldivN hx hb dX4_takeLots_83 (by omega) ?_
            refine lv_lstore (lv' := [(9, .long (jI ((lotN z) / 65536))), (4, .long (jI (lotN z))), (8, .int (iI (k : Int))), (7, .int (iI wa)), (6, .int (iI lf)), (0, .ref qP), (1, .int (iI la)), (2, .int (iI tk)), (3, .int (iI sd))]) hx hb dX4_takeLots_84 hl (by decide) rfl (fun ls hl => ?_)
            refine lv_aload_n hx hb dX4_takeLots_86 rfl (lv_at hl 5 rfl) ?_
            refine va_get (D := g.1) (ci := 4) (v := .ref pD) (C := RX4) (T := TX4) (N := 8) hx hb hts iwX4 hown hE.1 hP 0 rfl rfl 2 (by decide) (hts (.fieldLink RX4 18 "QuickCount$PollBook" "isDrawn" "[Z") (List.mem_cons_of_mem _ (List.mem_append_left _ (List.mem_of_getElem? (i := 9) rfl)))) (fun _ h9 => h9) rfl dX4_takeLots_87 ?_
            refine lv_iload hx hb dX4_takeLots_90 (lv_at hl 2 rfl) ?_
            refine lv_lload hx hb dX4_takeLots_92 (lv_at hl 0 rfl) ?_
            refine lv_iload hx hb dX4_takeLots_94 (lv_at hl 4 rfl) ?_
            refine q_i2l hx hb dX4_takeLots_96 (by omega) ?_
            refine q_lremN hx hb dX4_takeLots_97 (by omega) ?_
            refine lv_iload hx hb dX4_takeLots_98 (lv_at hl 3 rfl) ?_
            refine q_i2l hx hb dX4_takeLots_100 (by omega) ?_
            suffices K_9 : W p l e ({ frames := 0, cells := 0, slots := 0, locals := 0 } : Room) s m ([.ref qP, .int (iI la), .int (iI tk), .int (iI sd)] : List Value).toArray below meth c H locs 0 0 Q (F0 m 110 ls [.int (bP (¬ wa ≤ (((lotN z) / 65536) % lf))), .int (iI (k : Int)), .ref pD]) from by
              refine q_lif_ge (tgt := 109) hx hb dX4_takeLots_101 dX4_takeLots_102 (by decide) (by omega) (fun c_10 => ?_) (fun c_10 => ?_)
              · refine lv_iconst (v := iI 0) hx hb dX4_takeLots_109 rfl ?_
                exact q_si (y := bP (¬ wa ≤ (((lotN z) / 65536) % lf))) (bP_f (by omega)).symm K_9
              · refine lv_iconst (v := iI 1) hx hb dX4_takeLots_105 rfl ?_
                refine lv_goto (tgt := 110) hx hb dX4_takeLots_106 (by decide) ?_
                exact q_si (y := bP (¬ wa ≤ (((lotN z) / 65536) % lf))) (bP_t (by omega)).symm K_9
            refine q_zast hx hb hE hP hD hS 2 rfl k (by omega) (by decide) dX4_takeLots_110 (fun H locs hP hD hS => ?_)
            have hP : va_P g.1 vwCl [(qP, .inr (4, [.ref pL, .ref pR, .ref pD, .ref pW, .ref pN, .ref pH, .ref pT, .int (iI pn)])), aI g pL 40 fL, aZ g pD 40 (va_up fD2 k (decide (¬ wa ≤ (((lotN z) / 65536) % lf)))), aZ g pW 40 fW2, aI g pN 4 fPN, aI g pH 4 (va_up fH ((la).toNat) (fPN ((la).toNat))), aI g pT 4 (va_up fT ((la).toNat) tk)] H := hP
            have hD : va_D A [(qP, .inr (4, [.ref pL, .ref pR, .ref pD, .ref pW, .ref pN, .ref pH, .ref pT, .int (iI pn)])), aI g pL 40 fL, aZ g pD 40 (va_up fD2 k (decide (¬ wa ≤ (((lotN z) / 65536) % lf)))), aZ g pW 40 fW2, aI g pN 4 fPN, aI g pH 4 (va_up fH ((la).toNat) (fPN ((la).toNat))), aI g pT 4 (va_up fT ((la).toNat) tk)] := hD
            refine lv_aload_n hx hb dX4_takeLots_111 rfl (lv_at hl 5 rfl) ?_
            refine va_get (D := g.1) (ci := 4) (v := .ref pW) (C := RX4) (T := TX4) (N := 8) hx hb hts iwX4 hown hE.1 hP 0 rfl rfl 3 (by decide) (hts (.fieldLink RX4 22 "QuickCount$PollBook" "wasThere" "[Z") (List.mem_cons_of_mem _ (List.mem_append_left _ (List.mem_of_getElem? (i := 10) rfl)))) (fun _ h9 => h9) rfl dX4_takeLots_112 ?_
            refine lv_iload hx hb dX4_takeLots_115 (lv_at hl 2 rfl) ?_
            refine lv_iconst (v := iI 1) hx hb dX4_takeLots_117 rfl ?_
            refine q_zast1 hx hb hE hP hD hS 3 rfl k (by omega) (by decide) dX4_takeLots_118 (fun H locs hP hD hS => ?_)
            have hP : va_P g.1 vwCl [(qP, .inr (4, [.ref pL, .ref pR, .ref pD, .ref pW, .ref pN, .ref pH, .ref pT, .int (iI pn)])), aI g pL 40 fL, aZ g pD 40 (va_up fD2 k (decide (¬ wa ≤ (((lotN z) / 65536) % lf)))), aZ g pW 40 (va_up fW2 k true), aI g pN 4 fPN, aI g pH 4 (va_up fH ((la).toNat) (fPN ((la).toNat))), aI g pT 4 (va_up fT ((la).toNat) tk)] H := hP
            have hD : va_D A [(qP, .inr (4, [.ref pL, .ref pR, .ref pD, .ref pW, .ref pN, .ref pH, .ref pT, .int (iI pn)])), aI g pL 40 fL, aZ g pD 40 (va_up fD2 k (decide (¬ wa ≤ (((lotN z) / 65536) % lf)))), aZ g pW 40 (va_up fW2 k true), aI g pN 4 fPN, aI g pH 4 (va_up fH ((la).toNat) (fPN ((la).toNat))), aI g pT 4 (va_up fT ((la).toNat) tk)] := hD
            refine lv_iload hx hb dX4_takeLots_119 (lv_at hl 3 rfl) ?_
            refine lv_aload_n hx hb dX4_takeLots_121 rfl (lv_at hl 5 rfl) ?_
            refine va_get (D := g.1) (ci := 4) (v := .ref pD) (C := RX4) (T := TX4) (N := 8) hx hb hts iwX4 hown hE.1 hP 0 rfl rfl 2 (by decide) (hts (.fieldLink RX4 18 "QuickCount$PollBook" "isDrawn" "[Z") (List.mem_cons_of_mem _ (List.mem_append_left _ (List.mem_of_getElem? (i := 9) rfl)))) (fun _ h9 => h9) rfl dX4_takeLots_122 ?_
            refine lv_iload hx hb dX4_takeLots_125 (lv_at hl 2 rfl) ?_
            refine q_zald hx hb hE hP 2 rfl k (by omega) (by decide) dX4_takeLots_127 ?_
            suffices K_11 : W p l e ({ frames := 0, cells := 0, slots := 0, locals := 0 } : Room) s m ([.ref qP, .int (iI la), .int (iI tk), .int (iI sd)] : List Value).toArray below meth c H locs 0 0 Q (F0 m 136 ls [.int (iI (if (va_up fD2 k (decide (¬ wa ≤ (((lotN z) / 65536) % lf)))) k = true then 1 else 0)), .int (iI wa)]) from by
              refine q_ifb_eq (tgt := 135) hx hb dX4_takeLots_128 (by decide) (fun c_12 => ?_) (fun c_12 => ?_)
              · refine lv_iconst (v := iI 0) hx hb dX4_takeLots_135 rfl ?_
                exact q_si (y := iI (if (va_up fD2 k (decide (¬ wa ≤ (((lotN z) / 65536) % lf)))) k = true then 1 else 0)) (by rw [if_neg (by simp_all)]) K_11
              · refine lv_iconst (v := iI 1) hx hb dX4_takeLots_131 rfl ?_
                refine lv_goto (tgt := 136) hx hb dX4_takeLots_132 (by decide) ?_
                exact q_si (y := iI (if (va_up fD2 k (decide (¬ wa ≤ (((lotN z) / 65536) % lf)))) k = true then 1 else 0)) (by rw [if_pos (by simp_all)]) K_11
            refine q_isub hx hb dX4_takeLots_136 ?_
            refine lv_istore (lv' := [(7, .int (iI (wa - (if (va_up fD2 k (decide (¬ wa ≤ (((lotN z) / 65536) % lf)))) k = true then 1 else 0)))), (9, .long (jI ((lotN z) / 65536))), (4, .long (jI (lotN z))), (8, .int (iI (k : Int))), (6, .int (iI lf)), (0, .ref qP), (1, .int (iI la)), (2, .int (iI tk)), (3, .int (iI sd))]) hx hb dX4_takeLots_137 hl (by decide) rfl (fun ls hl => ?_)
            refine lv_iinc (v := (iI (lf + (-1)))) (lv' := [(6, .int (iI (lf + (-1)))), (7, .int (iI (wa - (if (va_up fD2 k (decide (¬ wa ≤ (((lotN z) / 65536) % lf)))) k = true then 1 else 0)))), (9, .long (jI ((lotN z) / 65536))), (4, .long (jI (lotN z))), (8, .int (iI (k : Int))), (0, .ref qP), (1, .int (iI la)), (2, .int (iI tk)), (3, .int (iI sd))]) hx hb dX4_takeLots_139 hl (k := 4) rfl (iI_add _ _) (by decide) rfl (fun ls hl => ?_)
            refine lv_iinc (v := (iI ((k : Int) + 1))) (lv' := [(8, .int (iI ((k : Int) + 1))), (6, .int (iI (lf + (-1)))), (7, .int (iI (wa - (if (va_up fD2 k (decide (¬ wa ≤ (((lotN z) / 65536) % lf)))) k = true then 1 else 0)))), (9, .long (jI ((lotN z) / 65536))), (4, .long (jI (lotN z))), (0, .ref qP), (1, .int (iI la)), (2, .int (iI tk)), (3, .int (iI sd))]) hx hb dX4_takeLots_142 hl (k := 4) rfl (iI_add _ _) (by decide) rfl (fun ls hl => ?_)
            refine lv_goto (tgt := 37) hx hb dX4_takeLots_145 (by decide) ?_
            exact ih_2  (k + 1) ((k : Int) + 1) (lotN z) (lf + (-1)) (wa - (if (va_up fD2 k (decide (¬ wa ≤ (((lotN z) / 65536) % lf)))) k = true then 1 else 0)) (va_up fD2 k (decide (¬ wa ≤ (((lotN z) / 65536) % lf)))) (va_up fW2 k true) (by omega) (by omega) (by first | (rw [lots_n (by assumption)]; exact e_l) | (rw [lots_y (by assumption), e_l]; done) | (rw [lots_y (by assumption), e_l, va_up_self]; simp [Int.sub_eq_add_neg]; done)) (by first | (rw [lotD_n (by assumption)]; exact e_D) | (rw [← lotD_y (by assumption), e_D, e_l]; done) | (rw [← lotD_y (by assumption), e_D, e_l]; simp; done)) (by first | (rw [lotW_n (by assumption)]; exact e_W) | (rw [← lotW_y (by assumption), e_W])) (by omega) _ _ ls (hP.sub [0, 1, 2, 3, 4, 5, 6] rfl) (hD.sub [0, 1, 2, 3, 4, 5, 6] (by decide) rfl) hS (lv_sub hl [0, 2, 1, 4, 5, 6, 7, 8] rfl)
  exact K_1 (pn.toNat - 0 + 1) 0 0 sd (fPN ((la).toNat)) tk fD fW (rfl) (by omega) (rfl) ((lotD_0 _ _ _ _ _ _).symm) ((lotW_0 _ _ _).symm) (Nat.lt_succ_self _) _ _ ls (hP.sub [0, 1, 2, 3, 4, 5, 6] rfl) (hD.sub [0, 1, 2, 3, 4, 5, 6] (by decide) rfl) hS (lv_sub hl [0, 1, 2, 3, 4, 5, 6, 7] rfl)
