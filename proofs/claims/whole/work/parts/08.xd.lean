-- sums and latest places
def sumTo (F : Nat → Int) (b : Nat) : Nat → Int
  | 0 => 0
  | n + 1 => sumTo F b n + F (b + n)
theorem sumTo_s (F : Nat → Int) (b n : Nat) : sumTo F b (n + 1) = sumTo F b n + F (b + n) := rfl
theorem sumTo_r {F : Nat → Int} {b n : Nat} {m : Int} (hm : 0 ≤ m) (h : ∀ i, i < n → 0 ≤ F (b + i) ∧ F (b + i) ≤ m) : 0 ≤ sumTo F b n ∧ sumTo F b n ≤ n * m := by
  induction n with
  | zero => exact ⟨Int.le_refl 0, by simp [sumTo]⟩
  | succ n ih =>
    have h1 := ih (fun i hi => h i (by omega))
    have h2 := h n (by omega)
    rw [sumTo_s]
    refine ⟨by omega, ?_⟩
    have e : ((n + 1 : Nat) : Int) * m = n * m + m := by rw [Int.natCast_add, Int.add_mul]; simp
    omega
theorem sumTo_cg {F G : Nat → Int} {b c n : Nat} (h : ∀ i, i < n → F (b + i) = G (c + i)) : sumTo F b n = sumTo G c n := by
  induction n with
  | zero => rfl
  | succ n ih => rw [sumTo_s, sumTo_s, ih (fun i hi => h i (by omega)), h n (by omega)]
theorem cpy_0 {α : Type} (f g : Nat → α) (a b : Nat) : va_cpy f g a b 0 = g := by funext j; unfold va_cpy; rw [if_neg (by omega)]
theorem cpy_up {α : Type} (f g : Nat → α) (a b n : Nat) : va_up (va_cpy f g a b n) (b + n) (f (a + n)) = va_cpy f g a b (n + 1) := by
  funext j
  unfold va_up
  by_cases h : j = b + n
  · rw [if_pos h]; unfold va_cpy; rw [if_pos (by omega), show a + (j - b) = a + n by omega]
  · rw [if_neg h]; unfold va_cpy
    by_cases q : b ≤ j ∧ j < b + n
    · rw [if_pos q, if_pos (by omega)]
    · rw [if_neg q, if_neg (by omega)]
def lastK (P : Nat → Bool) : Nat → Int
  | 0 => -1
  | n + 1 => if P n = true then (n : Int) else lastK P n
theorem lastK_s (P : Nat → Bool) (n : Nat) : lastK P (n + 1) = if P n = true then (n : Int) else lastK P n := rfl
theorem lastK_r (P : Nat → Bool) (n : Nat) : -1 ≤ lastK P n ∧ lastK P n < n := by
  induction n with
  | zero => exact ⟨Int.le_refl _, by show (-1 : Int) < ((0 : Nat) : Int); decide⟩
  | succ n ih => rw [lastK_s]; split <;> omega
theorem lastK_t {P : Nat → Bool} {n : Nat} (h : lastK P n ≠ -1) : P (lastK P n).toNat = true := by
  induction n with
  | zero => exact absurd rfl h
  | succ n ih =>
    rw [lastK_s] at h ⊢
    split
    · next q => simpa using q
    · next q => rw [if_neg q] at h; exact ih h
def useS (sP : Nat → Int) (sG : Nat → Bool) (sM : Nat → Int) (mi : Int) (p : Nat) : Nat → Bool := fun s => decide (sP s = (p : Int)) && (sG s && decide (sM s ≤ mi))
def knS (sP : Nat → Int) (sG : Nat → Bool) (sM : Nat → Int) (mi : Int) (p n : Nat) : Int := lastK (useS sP sG sM mi p) n
theorem knS_s (sP : Nat → Int) (sG : Nat → Bool) (sM : Nat → Int) (mi : Int) (p n : Nat) : knS sP sG sM mi p (n + 1) = if sP n = (p : Int) ∧ sG n = true ∧ sM n ≤ mi then (n : Int) else knS sP sG sM mi p n := by
  unfold knS; rw [lastK_s]; unfold useS; simp only [Bool.and_eq_true, decide_eq_true_eq]
theorem knS_r (sP : Nat → Int) (sG : Nat → Bool) (sM : Nat → Int) (mi : Int) (p n : Nat) : -1 ≤ knS sP sG sM mi p n ∧ knS sP sG sM mi p n < n := lastK_r _ _
theorem knS_end {sP : Nat → Int} {sG : Nat → Bool} {sM : Nat → Int} {mi i : Int} {p k n : Nat} (hk : knS sP sG sM mi p k = knS sP sG sM mi p n) (hi : i = (k : Int) - 1) (h0 : 0 ≤ i) (h1 : sP i.toNat = (p : Int)) (h2 : sG i.toNat = true ∧ sM i.toNat ≤ mi) : i = knS sP sG sM mi p n := by
  obtain ⟨j, rfl⟩ : ∃ j, k = j + 1 := ⟨k - 1, by omega⟩
  rw [← hk, knS_s]
  have e : i.toNat = j := by omega
  rw [e] at h1 h2
  rw [if_pos ⟨h1, h2⟩]; omega
theorem knS_go {sP : Nat → Int} {sG : Nat → Bool} {sM : Nat → Int} {mi i : Int} {p k n : Nat} (hk : knS sP sG sM mi p k = knS sP sG sM mi p n) (hi : i = (k : Int) - 1) (h0 : 0 ≤ i) (h : ¬ (sP i.toNat = (p : Int) ∧ sG i.toNat = true ∧ sM i.toNat ≤ mi)) : knS sP sG sM mi p (k - 1) = knS sP sG sM mi p n := by
  obtain ⟨j, rfl⟩ : ∃ j, k = j + 1 := ⟨k - 1, by omega⟩
  rw [← hk, knS_s, Nat.add_sub_cancel]
  have e : i.toNat = j := by omega
  rw [e] at h
  rw [if_neg h]
theorem knS_t {sP : Nat → Int} {sG : Nat → Bool} {sM : Nat → Int} {mi : Int} {p n : Nat} (h : knS sP sG sM mi p n ≠ -1) : sP (knS sP sG sM mi p n).toNat = (p : Int) ∧ sG (knS sP sG sM mi p n).toNat = true ∧ sM (knS sP sG sM mi p n).toNat ≤ mi := by
  have q := lastK_t (P := useS sP sG sM mi p) (n := n) h
  unfold useS at q
  simp only [Bool.and_eq_true, decide_eq_true_eq] at q
  exact q
theorem knS_up {sP : Nat → Int} {sG : Nat → Bool} {sM : Nat → Int} {mi : Int} {k : Nat} {F : Nat → Int} (h : ∀ p, p < 40 → F p = knS sP sG sM mi p k) (hP : 0 ≤ sP k) (hu : sG k = true ∧ sM k ≤ mi) : ∀ p, p < 40 → va_up F (sP k).toNat (k : Int) p = knS sP sG sM mi p (k + 1) := by
  intro p hp
  rw [knS_s]; unfold va_up
  by_cases q : p = (sP k).toNat
  · rw [if_pos q, if_pos ⟨by omega, hu⟩]
  · rw [if_neg q, if_neg (fun z => q (by omega))]; exact h p hp
theorem knS_no {sP : Nat → Int} {sG : Nat → Bool} {sM : Nat → Int} {mi : Int} {k : Nat} {F : Nat → Int} (h : ∀ p, p < 40 → F p = knS sP sG sM mi p k) (hu : ¬ (sG k = true ∧ sM k ≤ mi)) : ∀ p, p < 40 → F p = knS sP sG sM mi p (k + 1) := by
  intro p hp
  rw [knS_s, if_neg (fun z => hu z.2)]; exact h p hp
-- how far official numbers are off
def offv (oT : Nat → Bool) (oV sN fK : Nat → Int) (pa : Int) (p : Nat) : Int := if oT p = true ∧ ¬ fK p = -1 then oV ((p : Int) * 4 + pa).toNat - sN (fK p * 6 + pa).toNat else 0
def cNZ (f : Nat → Int) : Nat → Int
  | 0 => 0
  | n + 1 => cNZ f n + (if ¬ f n = 0 then 1 else 0)
def cPZ (f : Nat → Int) : Nat → Int
  | 0 => 0
  | n + 1 => cPZ f n + (if ¬ f n ≤ 0 then 1 else 0)
theorem cNZ_s (f : Nat → Int) (n : Nat) : cNZ f (n + 1) = cNZ f n + (if ¬ f n = 0 then 1 else 0) := rfl
theorem cPZ_s (f : Nat → Int) (n : Nat) : cPZ f (n + 1) = cPZ f n + (if ¬ f n ≤ 0 then 1 else 0) := rfl
theorem offv_1 {oT : Nat → Bool} {oV sN fK : Nat → Int} {pa : Int} {p : Nat} (h : ¬ oT p = true) : offv oT oV sN fK pa p = 0 := if_neg (fun z => h z.1)
theorem offv_2 {oT : Nat → Bool} {oV sN fK : Nat → Int} {pa : Int} {p : Nat} (h : fK p = -1) : offv oT oV sN fK pa p = 0 := if_neg (fun z => z.2 h)
theorem offv_3 {oT : Nat → Bool} {oV sN fK : Nat → Int} {pa : Int} {p : Nat} (h : oT p = true) (h2 : ¬ fK p = -1) : offv oT oV sN fK pa p = oV ((p : Int) * 4 + pa).toNat - sN (fK p * 6 + pa).toNat := if_pos ⟨h, h2⟩

set_option maxHeartbeats 4000000 in
set_option maxRecDepth 100000 in
theorem kX5_numberOf (l : Launch) (g : qG) (qS : Nat) (kP : Nat) (kM : Nat) (kG : Nat) (kE : Nat) (kA : Nat) (kN : Nat) (kK : Nat) (sN : Nat → Int) (sn : Int) (sl : Int) (sh : Int) (nu : Int) (h_sh : 0 ≤ sh ∧ sh ≤ 119) (h_nu : 0 ≤ nu ∧ nu ≤ 5) : MR l g yX5_numberOf wsX5_numberOf ({ frames := 0, cells := 0, slots := 0, locals := 0 }) [.ref qS, .int (iI sh), .int (iI nu)] [(qS, .inr (5, [.ref kP, .ref kM, .ref kG, .ref kE, .ref kA, .ref kN, .ref kK, .int (iI sn), .int (iI sl)])), aI g kN 720 sN] (fun r => r = some (.int (iI (sN (sh * 6 + nu).toNat)))) := by
  refine MR.intro (cc := cX5_numberOf) (maxL := 3) (ret := (some .int)) (by decide) rfl (Nat.le_of_ble_eq_true rfl) ?_
  intro p e s m below meth c ls Q ⟨hx, hb, hr, hml, hown, hts, hlocks⟩ hP hE hl hQ
  have hl : lv_has ls 3 [(0, .ref qS), (1, .int (iI sh)), (2, .int (iI nu))] := hl
  have iwX5 : ∀ w ∈ wsX50, w ∈ wsX5_numberOf := (fun _ h => List.mem_cons_of_mem _ (List.mem_append_right _ h))
  refine lv_aload_n hx hb dX5_numberOf_0 rfl (lv_at hl 0 rfl) ?_
  refine va_get (D := g.1) (ci := 5) (v := .ref kN) (C := RX5) (T := TX5) (N := 9) hx hb hts iwX5 hown hE.1 hP 0 rfl rfl 5 (by decide) (hts (.fieldLink RX5 28 "QuickCount$SheetBook" "numbers" "[I") (List.mem_cons_of_mem _ (List.mem_append_left _ (List.mem_of_getElem? (i := 0) rfl)))) (fun _ h9 => h9) rfl dX5_numberOf_1 ?_
  refine lv_iload_n hx hb dX5_numberOf_4 rfl (lv_at hl 1 rfl) ?_
  refine lv_bipush (v := iI 6) hx hb dX5_numberOf_5 (by decide) ?_
  refine q_imul hx hb dX5_numberOf_7 ?_
  refine lv_iload_n hx hb dX5_numberOf_8 rfl (lv_at hl 2 rfl) ?_
  refine q_iadd hx hb dX5_numberOf_9 ?_
  refine q_iald hx hb hE hP 1 rfl (((sh * 6) + nu).toNat) (by omega) (by decide) dX5_numberOf_10 ?_
  exact qr_i hx hb hr hlocks hQ dX5_numberOf_11 (rfl)
set_option maxHeartbeats 4000000 in
set_option maxRecDepth 100000 in
theorem kX5_isUsable (l : Launch) (g : qG) (qS : Nat) (kP : Nat) (kM : Nat) (kG : Nat) (kE : Nat) (kA : Nat) (kN : Nat) (kK : Nat) (sG : Nat → Bool) (sM : Nat → Int) (sn : Int) (sl : Int) (sh : Int) (mi : Int) (h_sh : 0 ≤ sh ∧ sh ≤ 119) (r_mi : -2147483648 ≤ mi ∧ mi ≤ 2147483647) (h_sM : ∀ k, 0 ≤ sM k ∧ sM k ≤ 10000) : MR l g yX5_isUsable wsX5_isUsable ({ frames := 0, cells := 0, slots := 0, locals := 0 }) [.ref qS, .int (iI sh), .int (iI mi)] [(qS, .inr (5, [.ref kP, .ref kM, .ref kG, .ref kE, .ref kA, .ref kN, .ref kK, .int (iI sn), .int (iI sl)])), aZ g kG 120 sG, aI g kM 120 sM] (fun r => r = some (.int (bP (sG sh.toNat = true ∧ sM sh.toNat ≤ mi)))) := by
  refine MR.intro (cc := cX5_isUsable) (maxL := 3) (ret := (some .boolean)) (by decide) rfl (Nat.le_of_ble_eq_true rfl) ?_
  intro p e s m below meth c ls Q ⟨hx, hb, hr, hml, hown, hts, hlocks⟩ hP hE hl hQ
  have hl : lv_has ls 3 [(0, .ref qS), (1, .int (iI sh)), (2, .int (iI mi))] := hl
  have iwX5 : ∀ w ∈ wsX50, w ∈ wsX5_isUsable := (fun _ h => List.mem_cons_of_mem _ (List.mem_append_right _ h))
  refine lv_aload_n hx hb dX5_isUsable_0 rfl (lv_at hl 0 rfl) ?_
  refine va_get (D := g.1) (ci := 5) (v := .ref kG) (C := RX5) (T := TX5) (N := 9) hx hb hts iwX5 hown hE.1 hP 0 rfl rfl 2 (by decide) (hts (.fieldLink RX5 18 "QuickCount$SheetBook" "isGood" "[Z") (List.mem_cons_of_mem _ (List.mem_append_left _ (List.mem_of_getElem? (i := 0) rfl)))) (fun _ h9 => h9) rfl dX5_isUsable_1 ?_
  refine lv_iload_n hx hb dX5_isUsable_4 rfl (lv_at hl 1 rfl) ?_
  refine q_zald hx hb hE hP 1 rfl ((sh).toNat) (by omega) (by decide) dX5_isUsable_5 ?_
  suffices K_1 : W p l e ({ frames := 0, cells := 0, slots := 0, locals := 0 } : Room) s m ([.ref qS, .int (iI sh), .int (iI mi)] : List Value).toArray below meth c s.heap [] 0 0 Q (F0 m 24 ls [.int (bP (sG sh.toNat = true ∧ ¬ mi < sM sh.toNat))]) from by
    refine q_ifb_eq (tgt := 23) hx hb dX5_isUsable_6 (by decide) (fun c_2 => ?_) (fun c_2 => ?_)
    · refine lv_iconst (v := iI 0) hx hb dX5_isUsable_23 rfl ?_
      exact q_si (y := bP (sG sh.toNat = true ∧ ¬ mi < sM sh.toNat)) (bP_f (by simp_all)).symm K_1
    · refine lv_aload_n hx hb dX5_isUsable_9 rfl (lv_at hl 0 rfl) ?_
      refine va_get (D := g.1) (ci := 5) (v := .ref kM) (C := RX5) (T := TX5) (N := 9) hx hb hts iwX5 hown hE.1 hP 0 rfl rfl 1 (by decide) (hts (.fieldLink RX5 15 "QuickCount$SheetBook" "minutes" "[I") (List.mem_cons_of_mem _ (List.mem_append_left _ (List.mem_of_getElem? (i := 1) rfl)))) (fun _ h9 => h9) rfl dX5_isUsable_10 ?_
      refine lv_iload_n hx hb dX5_isUsable_13 rfl (lv_at hl 1 rfl) ?_
      refine q_iald hx hb hE hP 2 rfl ((sh).toNat) (by omega) (by decide) dX5_isUsable_14 ?_
      have rg_3 := h_sM ((sh).toNat)
      refine lv_iload_n hx hb dX5_isUsable_15 rfl (lv_at hl 2 rfl) ?_
      refine q_icmp_gt (tgt := 23) hx hb dX5_isUsable_16 (by decide) (by omega) (fun c_4 => ?_) (fun c_4 => ?_)
      · refine lv_iconst (v := iI 0) hx hb dX5_isUsable_23 rfl ?_
        exact q_si (y := bP (sG sh.toNat = true ∧ ¬ mi < sM sh.toNat)) (bP_f (by simp_all)).symm K_1
      · refine lv_iconst (v := iI 1) hx hb dX5_isUsable_19 rfl ?_
        refine lv_goto (tgt := 24) hx hb dX5_isUsable_20 (by decide) ?_
        exact q_si (y := bP (sG sh.toNat = true ∧ ¬ mi < sM sh.toNat)) (bP_t (by simp_all)).symm K_1
  exact qr_z hx hb hr hlocks hQ dX5_isUsable_24 (bP_nar _) (congrArg (fun z => some (Value.int z)) (bP_iff (and_congr Iff.rfl (by omega))))
set_option maxHeartbeats 4000000 in
set_option maxRecDepth 100000 in
theorem kX5_findKnownOf (l : Launch) (g : qG) (qS : Nat) (kP : Nat) (kM : Nat) (kG : Nat) (kE : Nat) (kA : Nat) (kN : Nat) (kK : Nat) (sP : Nat → Int) (sG : Nat → Bool) (sM : Nat → Int) (sn : Int) (sl : Int) (po : Int) (mi : Int) (h_po : 0 ≤ po ∧ po ≤ 39) (r_mi : -2147483648 ≤ mi ∧ mi ≤ 2147483647) (h_sM : ∀ k, 0 ≤ sM k ∧ sM k ≤ 10000) (h_sP : ∀ k, 0 ≤ sP k ∧ sP k ≤ 39) (h_sn : 0 ≤ sn ∧ sn ≤ 120) : MR l g yX5_findKnownOf wsX5_findKnownOf ({ frames := 1, cells := 0, slots := 0, locals := 22 }) [.ref qS, .int (iI po), .int (iI mi)] [(qS, .inr (5, [.ref kP, .ref kM, .ref kG, .ref kE, .ref kA, .ref kN, .ref kK, .int (iI sn), .int (iI sl)])), aI g kP 120 sP, aZ g kG 120 sG, aI g kM 120 sM] (fun r => r = some (.int (iI (knS sP sG sM mi po.toNat sn.toNat)))) := by
  refine MR.intro (cc := cX5_findKnownOf) (maxL := 4) (ret := (some .int)) (by decide) rfl (Nat.le_of_ble_eq_true rfl) ?_
  intro p e s m below meth c ls Q ⟨hx, hb, hr, hml, hown, hts, hlocks⟩ hP hE hl hQ
  have hl : lv_has ls 4 [(0, .ref qS), (1, .int (iI po)), (2, .int (iI mi))] := hl
  have iwX5 : ∀ w ∈ wsX50, w ∈ wsX5_findKnownOf := (fun _ h => List.mem_cons_of_mem _ (List.mem_append_right _ h))
  refine lv_aload_n hx hb dX5_findKnownOf_0 rfl (lv_at hl 0 rfl) ?_
  refine va_get (D := g.1) (ci := 5) (v := .int (iI sn)) (C := RX5) (T := TX5) (N := 9) hx hb hts iwX5 hown hE.1 hP 0 rfl rfl 7 (by decide) (hts (.fieldLink RX5 34 "QuickCount$SheetBook" "many" "I") (List.mem_cons_of_mem _ (List.mem_append_left _ (List.mem_of_getElem? (i := 0) rfl)))) (fun _ h9 => h9) rfl dX5_findKnownOf_1 ?_
  refine lv_iconst (v := iI 1) hx hb dX5_findKnownOf_4 rfl ?_
  refine q_isub hx hb dX5_findKnownOf_5 ?_
  refine lv_istore_n (lv' := [(3, .int (iI (sn - 1))), (0, .ref qS), (1, .int (iI po)), (2, .int (iI mi))]) hx hb dX5_findKnownOf_6 rfl hl (by decide) rfl (fun ls hl => ?_)
  have K_1 : ∀ (fu_3 : Nat) (k : Nat) (i : Int), (i = (k : Int) - 1) → ((k : Int) ≤ sn) → (knS sP sG sM mi po.toNat k = knS sP sG sM mi po.toNat sn.toNat) → k < fu_3 → ∀ (ls : Array Slot), lv_has ls 4 [(3, .int (iI i)), (0, .ref qS), (1, .int (iI po)), (2, .int (iI mi))] → W p l e ({ frames := 1, cells := 0, slots := 0, locals := 22 } : Room) s m ([.ref qS, .int (iI po), .int (iI mi)] : List Value).toArray below meth c s.heap [] 0 0 Q (F0 m 7 ls []) := by
    intro fu_3
    induction fu_3 with
    | zero => exact fun _ _ _ _ _ q => absurd q (Nat.not_lt_zero _)
    | succ fu_3 ih_2 =>
      intro k i e_i h_k h_v hm_4 ls hl
      refine lv_iload_n hx hb dX5_findKnownOf_7 rfl (lv_at hl 0 rfl) ?_
      refine q_if_lt (tgt := 38) hx hb dX5_findKnownOf_8 (by decide) (by omega) (fun c_5 => ?_) (fun c_5 => ?_)
      · refine lv_iconst (v := iI (-1)) hx hb dX5_findKnownOf_38 rfl ?_
        exact qr_i hx hb hr hlocks hQ dX5_findKnownOf_39 (congrArg (fun z => some (Value.int (iI z))) (by rw [← h_v, show k = 0 by omega]; rfl))
      · refine lv_aload_n hx hb dX5_findKnownOf_11 rfl (lv_at hl 1 rfl) ?_
        refine va_get (D := g.1) (ci := 5) (v := .ref kP) (C := RX5) (T := TX5) (N := 9) hx hb hts iwX5 hown hE.1 hP 0 rfl rfl 0 (by decide) (hts (.fieldLink RX5 9 "QuickCount$SheetBook" "polls" "[I") (List.mem_cons_of_mem _ (List.mem_append_left _ (List.mem_of_getElem? (i := 1) rfl)))) (fun _ h9 => h9) rfl dX5_findKnownOf_12 ?_
        refine lv_iload_n hx hb dX5_findKnownOf_15 rfl (lv_at hl 0 rfl) ?_
        refine q_iald hx hb hE hP 1 rfl ((i).toNat) (by omega) (by decide) dX5_findKnownOf_16 ?_
        have rg_6 := h_sP ((i).toNat)
        refine lv_iload_n hx hb dX5_findKnownOf_17 rfl (lv_at hl 2 rfl) ?_
        refine q_icmp_ne (tgt := 32) hx hb dX5_findKnownOf_18 (by decide) (by omega) (fun c_7 => ?_) (fun c_7 => ?_)
        · refine lv_iinc (v := (iI (i + (-1)))) (lv' := [(3, .int (iI (i + (-1)))), (0, .ref qS), (1, .int (iI po)), (2, .int (iI mi))]) hx hb dX5_findKnownOf_32 hl (k := 0) rfl (iI_add _ _) (by decide) rfl (fun ls hl => ?_)
          refine lv_goto (tgt := 7) hx hb dX5_findKnownOf_35 (by decide) ?_
          exact ih_2  (k - 1) (i + (-1)) (by omega) (by omega) (knS_go h_v e_i (by omega) (fun z => by first | exact absurd z.2 (by assumption) | omega)) (by omega) ls (lv_sub hl [0, 1, 2, 3] rfl)
        · refine lv_aload_n hx hb dX5_findKnownOf_21 rfl (lv_at hl 1 rfl) ?_
          refine lv_iload_n hx hb dX5_findKnownOf_22 rfl (lv_at hl 0 rfl) ?_
          refine lv_iload_n hx hb dX5_findKnownOf_23 rfl (lv_at hl 3 rfl) ?_
          refine q_read (rest := []) (q_runRV (As := [.int (iI i), .int (iI mi)]) ⟨hx, hb, hml, hown, hts⟩ (kX5_isUsable l g qS kP kM kG kE kA kN kK sG sM sn sl i mi (by omega) (by omega) (by omega)) (cwV 2 hts gX5_findKnownOf_X5_isUsable rfl rfl rfl (by decide +kernel) ⟨Nat.le_of_ble_eq_true rfl, Nat.le_of_ble_eq_true rfl⟩) (va_recv hE.1 hP (ci := 5) (q0 := 0) rfl rfl) hE (hP.sub (ws' := [(qS, .inr (5, [.ref kP, .ref kM, .ref kG, .ref kE, .ref kA, .ref kN, .ref kK, .int (iI sn), .int (iI sl)])), aZ g kG 120 sG, aI g kM 120 sM]) [0, 2, 3] rfl) rfl hl.1 (Nat.le_of_ble_eq_true rfl) dX5_findKnownOf_24 ⟨Nat.zero_le _, Nat.zero_le _⟩) (fun r_ hq_8 => ?_)
          obtain rfl := hq_8
          refine W.eq (g2 := F0 m 27 ls [.int (bP (sG i.toNat = true ∧ sM i.toNat ≤ mi))]) rfl ?_
          refine q_ifb_eq (tgt := 32) hx hb dX5_findKnownOf_27 (by decide) (fun c_9 => ?_) (fun c_9 => ?_)
          · refine lv_iinc (v := (iI (i + (-1)))) (lv' := [(3, .int (iI (i + (-1)))), (0, .ref qS), (1, .int (iI po)), (2, .int (iI mi))]) hx hb dX5_findKnownOf_32 hl (k := 0) rfl (iI_add _ _) (by decide) rfl (fun ls hl => ?_)
            refine lv_goto (tgt := 7) hx hb dX5_findKnownOf_35 (by decide) ?_
            exact ih_2  (k - 1) (i + (-1)) (by omega) (by omega) (knS_go h_v e_i (by omega) (fun z => by first | exact absurd z.2 (by assumption) | omega)) (by omega) ls (lv_sub hl [0, 1, 2, 3] rfl)
          · refine lv_iload_n hx hb dX5_findKnownOf_30 rfl (lv_at hl 0 rfl) ?_
            exact qr_i hx hb hr hlocks hQ dX5_findKnownOf_31 (congrArg (fun z => some (Value.int (iI z))) (knS_end h_v e_i (by omega) (by omega) (by assumption)))
  exact K_1 (sn.toNat + 1) sn.toNat (sn - 1) (by omega) (by omega) (rfl) (Nat.lt_succ_self _) ls (lv_sub hl [0, 1, 2, 3] rfl)
set_option maxHeartbeats 4000000 in
set_option maxRecDepth 100000 in
theorem kX5_findKnown (l : Launch) (g : qG) (qS : Nat) (kP : Nat) (kM : Nat) (kG : Nat) (kE : Nat) (kA : Nat) (kN : Nat) (kK : Nat) (sP : Nat → Int) (sG : Nat → Bool) (sM : Nat → Int) (fK : Nat → Int) (sn : Int) (sl : Int) (mi : Int) (r_mi : -2147483648 ≤ mi ∧ mi ≤ 2147483647) (h_sM : ∀ k, 0 ≤ sM k ∧ sM k ≤ 10000) (h_sP : ∀ k, 0 ≤ sP k ∧ sP k ≤ 39) (h_sn : 0 ≤ sn ∧ sn ≤ 120) (h_fK : ∀ k, -1 ≤ fK k ∧ fK k ≤ 119) : ME l g yX5_findKnown wsX5_findKnown ({ frames := 1, cells := 0, slots := 0, locals := 22 }) [.ref qS, .int (iI mi)] [(qS, .inr (5, [.ref kP, .ref kM, .ref kG, .ref kE, .ref kA, .ref kN, .ref kK, .int (iI sn), .int (iI sl)])), aI g kP 120 sP, aZ g kG 120 sG, aI g kM 120 sM, aI g kK 40 fK] (fun r w1 => ∃ fK2 : Nat → Int, (∀ p, p < 40 → fK2 p = knS sP sG sM mi p sn.toNat) ∧ (∀ k, -1 ≤ fK2 k ∧ fK2 k ≤ 119) ∧ r = none ∧ w1 = [(qS, .inr (5, [.ref kP, .ref kM, .ref kG, .ref kE, .ref kA, .ref kN, .ref kK, .int (iI sn), .int (iI sl)])), aI g kP 120 sP, aZ g kG 120 sG, aI g kM 120 sM, aI g kK 40 fK2]) := by
  refine ME.intro (cc := cX5_findKnown) (maxL := 3) (ret := none) (by decide) rfl (Nat.le_of_ble_eq_true rfl) ?_
  intro p e s m below meth c ls Q A H locs ⟨hx, hb, hr, hml, hown, hts, hlocks⟩ hP hE hl hD hA hS hQ
  have hl : lv_has ls 3 [(0, .ref qS), (1, .int (iI mi))] := hl
  have iwX5 : ∀ w ∈ wsX50, w ∈ wsX5_findKnown := (fun _ h => List.mem_cons_of_mem _ (List.mem_append_right _ h))
  refine lv_iconst (v := iI 0) hx hb dX5_findKnown_0 rfl ?_
  refine lv_istore_n (lv' := [(2, .int (iI 0)), (0, .ref qS), (1, .int (iI mi))]) hx hb dX5_findKnown_1 rfl hl (by decide) rfl (fun ls hl => ?_)
  have K_1 : ∀ (fu_3 : Nat) (k : Nat) (i : Int) (fM : Nat → Int), (i = (k : Int)) → (k ≤ 40) → (∀ j, j < k → fM j = -1) → (∀ k, -1 ≤ fM k ∧ fM k ≤ 119) → 40 - k < fu_3 → ∀ (H : Heap) (locs : List Loc) (ls : Array Slot), va_P g.1 vwCl [(qS, .inr (5, [.ref kP, .ref kM, .ref kG, .ref kE, .ref kA, .ref kN, .ref kK, .int (iI sn), .int (iI sl)])), aI g kP 120 sP, aZ g kG 120 sG, aI g kM 120 sM, aI g kK 40 fM] H → va_D A [(qS, .inr (5, [.ref kP, .ref kM, .ref kG, .ref kE, .ref kA, .ref kN, .ref kK, .int (iI sn), .int (iI sl)])), aI g kP 120 sP, aZ g kG 120 sG, aI g kM 120 sM, aI g kK 40 fM] → va_S A s.heap H locs → lv_has ls 3 [(2, .int (iI i)), (0, .ref qS), (1, .int (iI mi))] → W p l e ({ frames := 1, cells := 0, slots := 0, locals := 22 } : Room) s m ([.ref qS, .int (iI mi)] : List Value).toArray below meth c H locs 0 0 Q (F0 m 2 ls []) := by
    intro fu_3
    induction fu_3 with
    | zero => exact fun _ _ _ _ _ _ _ q => absurd q (Nat.not_lt_zero _)
    | succ fu_3 ih_2 =>
      intro k i fM e_i h_k h_M h_r hm_4 H locs ls hP hD hS hl
      subst e_i
      refine lv_iload_n hx hb dX5_findKnown_2 rfl (lv_at hl 0 rfl) ?_
      refine lv_bipush (v := iI 40) hx hb dX5_findKnown_3 (by decide) ?_
      refine q_icmp_ge (tgt := 21) hx hb dX5_findKnown_5 (by decide) (by omega) (fun c_5 => ?_) (fun c_5 => ?_)
      · refine lv_iconst (v := iI 0) hx hb dX5_findKnown_21 rfl ?_
        refine lv_istore_n (lv' := [(2, .int (iI 0)), (0, .ref qS), (1, .int (iI mi))]) hx hb dX5_findKnown_22 rfl hl (by decide) rfl (fun ls hl => ?_)
        have K_6 : ∀ (fu_8 : Nat) (k2 : Nat) (i2 : Int) (fM2 : Nat → Int), (i2 = (k2 : Int)) → ((k2 : Int) ≤ sn) → (∀ p, p < 40 → fM2 p = knS sP sG sM mi p k2) → (∀ k, -1 ≤ fM2 k ∧ fM2 k ≤ 119) → sn.toNat - k2 < fu_8 → ∀ (H : Heap) (locs : List Loc) (ls : Array Slot), va_P g.1 vwCl [(qS, .inr (5, [.ref kP, .ref kM, .ref kG, .ref kE, .ref kA, .ref kN, .ref kK, .int (iI sn), .int (iI sl)])), aI g kP 120 sP, aZ g kG 120 sG, aI g kM 120 sM, aI g kK 40 fM2] H → va_D A [(qS, .inr (5, [.ref kP, .ref kM, .ref kG, .ref kE, .ref kA, .ref kN, .ref kK, .int (iI sn), .int (iI sl)])), aI g kP 120 sP, aZ g kG 120 sG, aI g kM 120 sM, aI g kK 40 fM2] → va_S A s.heap H locs → lv_has ls 3 [(2, .int (iI i2)), (0, .ref qS), (1, .int (iI mi))] → W p l e ({ frames := 1, cells := 0, slots := 0, locals := 22 } : Room) s m ([.ref qS, .int (iI mi)] : List Value).toArray below meth c H locs 0 0 Q (F0 m 23 ls []) := by
          intro fu_8
          induction fu_8 with
          | zero => exact fun _ _ _ _ _ _ _ q => absurd q (Nat.not_lt_zero _)
          | succ fu_8 ih_7 =>
            intro k2 i2 fM2 e_i2 h_k2 h_M2 h_r2 hm_9 H locs ls hP hD hS hl
            subst e_i2
            refine lv_iload_n hx hb dX5_findKnown_23 rfl (lv_at hl 0 rfl) ?_
            refine lv_aload_n hx hb dX5_findKnown_24 rfl (lv_at hl 1 rfl) ?_
            refine va_get (D := g.1) (ci := 5) (v := .int (iI sn)) (C := RX5) (T := TX5) (N := 9) hx hb hts iwX5 hown hE.1 hP 0 rfl rfl 7 (by decide) (hts (.fieldLink RX5 34 "QuickCount$SheetBook" "many" "I") (List.mem_cons_of_mem _ (List.mem_append_left _ (List.mem_of_getElem? (i := 1) rfl)))) (fun _ h9 => h9) rfl dX5_findKnown_25 ?_
            refine q_icmp_ge (tgt := 58) hx hb dX5_findKnown_28 (by decide) (by omega) (fun c_10 => ?_) (fun c_10 => ?_)
            · exact qe_v hx hb hr hlocks hQ hS dX5_findKnown_58 hP hD (⟨_, by rw [show sn.toNat = k2 by omega]; exact h_M2, h_r2, rfl, rfl⟩)
            · refine lv_aload_n hx hb dX5_findKnown_31 rfl (lv_at hl 1 rfl) ?_
              refine lv_iload_n hx hb dX5_findKnown_32 rfl (lv_at hl 0 rfl) ?_
              refine lv_iload_n hx hb dX5_findKnown_33 rfl (lv_at hl 2 rfl) ?_
              refine q_read (rest := []) (q_runRV (As := [.int (iI (k2 : Int)), .int (iI mi)]) ⟨hx, hb, hml, hown, hts⟩ (kX5_isUsable l g qS kP kM kG kE kA kN kK sG sM sn sl (k2 : Int) mi (by omega) (by omega) (by omega)) (cwV 2 hts gX5_findKnown_X5_isUsable rfl rfl rfl (by decide +kernel) ⟨Nat.le_of_ble_eq_true rfl, Nat.le_of_ble_eq_true rfl⟩) (va_recv hE.1 hP (ci := 5) (q0 := 0) rfl rfl) hE (hP.sub (ws' := [(qS, .inr (5, [.ref kP, .ref kM, .ref kG, .ref kE, .ref kA, .ref kN, .ref kK, .int (iI sn), .int (iI sl)])), aZ g kG 120 sG, aI g kM 120 sM]) [0, 2, 3] rfl) rfl hl.1 (Nat.le_of_ble_eq_true rfl) dX5_findKnown_34 ⟨Nat.zero_le _, Nat.zero_le _⟩) (fun r_ hq_11 => ?_)
              obtain rfl := hq_11
              refine W.eq (g2 := F0 m 37 ls [.int (bP (sG (k2 : Int).toNat = true ∧ sM (k2 : Int).toNat ≤ mi))]) rfl ?_
              refine q_ifb_eq (tgt := 52) hx hb dX5_findKnown_37 (by decide) (fun c_12 => ?_) (fun c_12 => ?_)
              · refine lv_iinc (v := (iI ((k2 : Int) + 1))) (lv' := [(2, .int (iI ((k2 : Int) + 1))), (0, .ref qS), (1, .int (iI mi))]) hx hb dX5_findKnown_52 hl (k := 0) rfl (iI_add _ _) (by decide) rfl (fun ls hl => ?_)
                refine lv_goto (tgt := 23) hx hb dX5_findKnown_55 (by decide) ?_
                exact ih_7  (k2 + 1) ((k2 : Int) + 1) fM2 (by omega) (by omega) (by first | exact knS_up h_M2 (by omega) (by assumption) | exact knS_no h_M2 (by assumption)) (by first | exact h_r2 | exact fun j => by unfold va_up; by_cases q : j = (sP k2).toNat; (rw [if_pos q]; omega); (rw [if_neg q]; exact h_r2 j)) (by omega) _ _ ls (hP.sub [0, 1, 2, 3, 4] rfl) (hD.sub [0, 1, 2, 3, 4] (by decide) rfl) hS (lv_sub hl [0, 1, 2] rfl)
              · refine lv_aload_n hx hb dX5_findKnown_40 rfl (lv_at hl 1 rfl) ?_
                refine va_get (D := g.1) (ci := 5) (v := .ref kK) (C := RX5) (T := TX5) (N := 9) hx hb hts iwX5 hown hE.1 hP 0 rfl rfl 6 (by decide) (hts (.fieldLink RX5 31 "QuickCount$SheetBook" "knownOf" "[I") (List.mem_cons_of_mem _ (List.mem_append_left _ (List.mem_of_getElem? (i := 0) rfl)))) (fun _ h9 => h9) rfl dX5_findKnown_41 ?_
                refine lv_aload_n hx hb dX5_findKnown_44 rfl (lv_at hl 1 rfl) ?_
                refine va_get (D := g.1) (ci := 5) (v := .ref kP) (C := RX5) (T := TX5) (N := 9) hx hb hts iwX5 hown hE.1 hP 0 rfl rfl 0 (by decide) (hts (.fieldLink RX5 9 "QuickCount$SheetBook" "polls" "[I") (List.mem_cons_of_mem _ (List.mem_append_left _ (List.mem_of_getElem? (i := 2) rfl)))) (fun _ h9 => h9) rfl dX5_findKnown_45 ?_
                refine lv_iload_n hx hb dX5_findKnown_48 rfl (lv_at hl 0 rfl) ?_
                refine q_iald hx hb hE hP 1 rfl k2 (by omega) (by decide) dX5_findKnown_49 ?_
                have rg_13 := h_sP k2
                refine lv_iload_n hx hb dX5_findKnown_50 rfl (lv_at hl 0 rfl) ?_
                refine q_iast hx hb hE hP hD hS 4 rfl ((sP k2).toNat) (by omega) (by decide) dX5_findKnown_51 (fun H locs hP hD hS => ?_)
                have hP : va_P g.1 vwCl [(qS, .inr (5, [.ref kP, .ref kM, .ref kG, .ref kE, .ref kA, .ref kN, .ref kK, .int (iI sn), .int (iI sl)])), aI g kP 120 sP, aZ g kG 120 sG, aI g kM 120 sM, aI g kK 40 (va_up fM2 ((sP k2).toNat) (k2 : Int))] H := hP
                have hD : va_D A [(qS, .inr (5, [.ref kP, .ref kM, .ref kG, .ref kE, .ref kA, .ref kN, .ref kK, .int (iI sn), .int (iI sl)])), aI g kP 120 sP, aZ g kG 120 sG, aI g kM 120 sM, aI g kK 40 (va_up fM2 ((sP k2).toNat) (k2 : Int))] := hD
                refine lv_iinc (v := (iI ((k2 : Int) + 1))) (lv' := [(2, .int (iI ((k2 : Int) + 1))), (0, .ref qS), (1, .int (iI mi))]) hx hb dX5_findKnown_52 hl (k := 0) rfl (iI_add _ _) (by decide) rfl (fun ls hl => ?_)
                refine lv_goto (tgt := 23) hx hb dX5_findKnown_55 (by decide) ?_
                exact ih_7  (k2 + 1) ((k2 : Int) + 1) (va_up fM2 ((sP k2).toNat) (k2 : Int)) (by omega) (by omega) (by first | exact knS_up h_M2 (by omega) (by assumption) | exact knS_no h_M2 (by assumption)) (by first | exact h_r2 | exact fun j => by unfold va_up; by_cases q : j = (sP k2).toNat; (rw [if_pos q]; omega); (rw [if_neg q]; exact h_r2 j)) (by omega) _ _ ls (hP.sub [0, 1, 2, 3, 4] rfl) (hD.sub [0, 1, 2, 3, 4] (by decide) rfl) hS (lv_sub hl [0, 1, 2] rfl)
        exact K_6 (sn.toNat - 0 + 1) 0 0 fM (rfl) (by omega) (fun p hp => h_M p (by omega)) (h_r) (Nat.lt_succ_self _) _ _ ls (hP.sub [0, 1, 2, 3, 4] rfl) (hD.sub [0, 1, 2, 3, 4] (by decide) rfl) hS (lv_sub hl [0, 1, 2] rfl)
      · refine lv_aload_n hx hb dX5_findKnown_8 rfl (lv_at hl 1 rfl) ?_
        refine va_get (D := g.1) (ci := 5) (v := .ref kK) (C := RX5) (T := TX5) (N := 9) hx hb hts iwX5 hown hE.1 hP 0 rfl rfl 6 (by decide) (hts (.fieldLink RX5 31 "QuickCount$SheetBook" "knownOf" "[I") (List.mem_cons_of_mem _ (List.mem_append_left _ (List.mem_of_getElem? (i := 0) rfl)))) (fun _ h9 => h9) rfl dX5_findKnown_9 ?_
        refine lv_iload_n hx hb dX5_findKnown_12 rfl (lv_at hl 0 rfl) ?_
        refine lv_iconst (v := iI (-1)) hx hb dX5_findKnown_13 rfl ?_
        refine q_iast hx hb hE hP hD hS 4 rfl k (by omega) (by decide) dX5_findKnown_14 (fun H locs hP hD hS => ?_)
        have hP : va_P g.1 vwCl [(qS, .inr (5, [.ref kP, .ref kM, .ref kG, .ref kE, .ref kA, .ref kN, .ref kK, .int (iI sn), .int (iI sl)])), aI g kP 120 sP, aZ g kG 120 sG, aI g kM 120 sM, aI g kK 40 (va_up fM k (-1))] H := hP
        have hD : va_D A [(qS, .inr (5, [.ref kP, .ref kM, .ref kG, .ref kE, .ref kA, .ref kN, .ref kK, .int (iI sn), .int (iI sl)])), aI g kP 120 sP, aZ g kG 120 sG, aI g kM 120 sM, aI g kK 40 (va_up fM k (-1))] := hD
        refine lv_iinc (v := (iI ((k : Int) + 1))) (lv' := [(2, .int (iI ((k : Int) + 1))), (0, .ref qS), (1, .int (iI mi))]) hx hb dX5_findKnown_15 hl (k := 0) rfl (iI_add _ _) (by decide) rfl (fun ls hl => ?_)
        refine lv_goto (tgt := 2) hx hb dX5_findKnown_18 (by decide) ?_
        exact ih_2  (k + 1) ((k : Int) + 1) (va_up fM k (-1)) (by omega) (by omega) (fun j hj => by unfold va_up; by_cases q : j = k; (rw [if_pos q]); (rw [if_neg q]; exact h_M j (by omega))) (fun j => by unfold va_up; by_cases q : j = k; (rw [if_pos q]; omega); (rw [if_neg q]; exact h_r j)) (by omega) _ _ ls (hP.sub [0, 1, 2, 3, 4] rfl) (hD.sub [0, 1, 2, 3, 4] (by decide) rfl) hS (lv_sub hl [0, 1, 2] rfl)
  exact K_1 (40 - 0 + 1) 0 0 fK (rfl) (by omega) (fun j hj => absurd hj (Nat.not_lt_zero j)) (h_fK) (Nat.lt_succ_self _) _ _ ls (hP.sub [0, 1, 2, 3, 4] rfl) (hD.sub [0, 1, 2, 3, 4] (by decide) rfl) hS (lv_sub hl [0, 1, 2] rfl)
set_option maxHeartbeats 4000000 in
set_option maxRecDepth 100000 in
theorem kX5_isMended (l : Launch) (g : qG) (qS : Nat) (kP : Nat) (kM : Nat) (kG : Nat) (kE : Nat) (kA : Nat) (kN : Nat) (kK : Nat) (sE : Nat → Int) (sA : Nat → Int) (ia : Bool) (sn : Int) (sl : Int) (sh : Int) (ch : Int) (ro : Int) (h_sh : 0 ≤ sh ∧ sh ≤ 119) (h_ch : -100000 ≤ ch ∧ ch ≤ 100000) (r_ro : 0 ≤ ro ∧ ro ≤ 2000) (h_sE : ∀ k, -100000 ≤ sE k ∧ sE k ≤ 100000) (h_sA : ∀ k, 0 ≤ sA k ∧ sA k ≤ 9999) : MR l g yX5_isMended wsX5_isMended ({ frames := 0, cells := 0, slots := 0, locals := 0 }) [.ref qS, .int (iI sh), .int (bP (ia = true)), .int (iI ch), .int (iI ro)] [(qS, .inr (5, [.ref kP, .ref kM, .ref kG, .ref kE, .ref kA, .ref kN, .ref kK, .int (iI sn), .int (iI sl)])), aI g kE 120 sE, aI g kA 120 sA] (fun r => r = some (.int (bP (sE sh.toNat + (if ia = true then -ch else ch) = 0 ∧ sA sh.toNat + (if ia = true then ch else 0) ≤ ro)))) := by
  refine MR.intro (cc := cX5_isMended) (maxL := 7) (ret := (some .boolean)) (by decide) rfl (Nat.le_of_ble_eq_true rfl) ?_
  intro p e s m below meth c ls Q ⟨hx, hb, hr, hml, hown, hts, hlocks⟩ hP hE hl hQ
  have hl : lv_has ls 7 [(0, .ref qS), (1, .int (iI sh)), (2, .int (bP (ia = true))), (3, .int (iI ch)), (4, .int (iI ro))] := hl
  have iwX5 : ∀ w ∈ wsX50, w ∈ wsX5_isMended := (fun _ h => List.mem_cons_of_mem _ (List.mem_append_right _ h))
  refine lv_aload_n hx hb dX5_isMended_0 rfl (lv_at hl 0 rfl) ?_
  refine va_get (D := g.1) (ci := 5) (v := .ref kE) (C := RX5) (T := TX5) (N := 9) hx hb hts iwX5 hown hE.1 hP 0 rfl rfl 3 (by decide) (hts (.fieldLink RX5 22 "QuickCount$SheetBook" "excesses" "[I") (List.mem_cons_of_mem _ (List.mem_append_left _ (List.mem_of_getElem? (i := 0) rfl)))) (fun _ h9 => h9) rfl dX5_isMended_1 ?_
  refine lv_iload_n hx hb dX5_isMended_4 rfl (lv_at hl 1 rfl) ?_
  refine q_iald hx hb hE hP 1 rfl ((sh).toNat) (by omega) (by decide) dX5_isMended_5 ?_
  have rg_1 := h_sE ((sh).toNat)
  refine lv_iload_n hx hb dX5_isMended_6 rfl (lv_at hl 2 rfl) ?_
  suffices K_2 : W p l e ({ frames := 0, cells := 0, slots := 0, locals := 0 } : Room) s m ([.ref qS, .int (iI sh), .int (bP (ia = true)), .int (iI ch), .int (iI ro)] : List Value).toArray below meth c s.heap [] 0 0 Q (F0 m 16 ls [.int (iI (if ia = true then -ch else ch)), .int (iI (sE ((sh).toNat)))]) from by
    refine q_ifb_eq (tgt := 15) hx hb dX5_isMended_7 (by decide) (fun c_3 => ?_) (fun c_3 => ?_)
    · refine lv_iload_n hx hb dX5_isMended_15 rfl (lv_at hl 3 rfl) ?_
      first | exact q_si (by rw [if_pos (by assumption)]) K_2 | exact q_si (by rw [if_neg (by assumption)]) K_2
    · refine lv_iload_n hx hb dX5_isMended_10 rfl (lv_at hl 3 rfl) ?_
      refine q_ineg hx hb dX5_isMended_11 ?_
      refine lv_goto (tgt := 16) hx hb dX5_isMended_12 (by decide) ?_
      first | exact q_si (by rw [if_pos (by assumption)]) K_2 | exact q_si (by rw [if_neg (by assumption)]) K_2
  refine q_iadd hx hb dX5_isMended_16 ?_
  refine lv_istore (lv' := [(5, .int (iI ((sE ((sh).toNat)) + (if ia = true then -ch else ch)))), (0, .ref qS), (1, .int (iI sh)), (2, .int (bP (ia = true))), (3, .int (iI ch)), (4, .int (iI ro))]) hx hb dX5_isMended_17 hl (by decide) rfl (fun ls hl => ?_)
  refine lv_aload_n hx hb dX5_isMended_19 rfl (lv_at hl 1 rfl) ?_
  refine va_get (D := g.1) (ci := 5) (v := .ref kA) (C := RX5) (T := TX5) (N := 9) hx hb hts iwX5 hown hE.1 hP 0 rfl rfl 4 (by decide) (hts (.fieldLink RX5 25 "QuickCount$SheetBook" "alls" "[I") (List.mem_cons_of_mem _ (List.mem_append_left _ (List.mem_of_getElem? (i := 1) rfl)))) (fun _ h9 => h9) rfl dX5_isMended_20 ?_
  refine lv_iload_n hx hb dX5_isMended_23 rfl (lv_at hl 2 rfl) ?_
  refine q_iald hx hb hE hP 2 rfl ((sh).toNat) (by omega) (by decide) dX5_isMended_24 ?_
  have rg_4 := h_sA ((sh).toNat)
  refine lv_iload_n hx hb dX5_isMended_25 rfl (lv_at hl 3 rfl) ?_
  suffices K_5 : W p l e ({ frames := 0, cells := 0, slots := 0, locals := 0 } : Room) s m ([.ref qS, .int (iI sh), .int (bP (ia = true)), .int (iI ch), .int (iI ro)] : List Value).toArray below meth c s.heap [] 0 0 Q (F0 m 34 ls [.int (iI (if ia = true then ch else 0)), .int (iI (sA ((sh).toNat)))]) from by
    refine q_ifb_eq (tgt := 33) hx hb dX5_isMended_26 (by decide) (fun c_6 => ?_) (fun c_6 => ?_)
    · refine lv_iconst (v := iI 0) hx hb dX5_isMended_33 rfl ?_
      first | exact q_si (by rw [if_pos (by assumption)]) K_5 | exact q_si (by rw [if_neg (by assumption)]) K_5
    · refine lv_iload_n hx hb dX5_isMended_29 rfl (lv_at hl 4 rfl) ?_
      refine lv_goto (tgt := 34) hx hb dX5_isMended_30 (by decide) ?_
      first | exact q_si (by rw [if_pos (by assumption)]) K_5 | exact q_si (by rw [if_neg (by assumption)]) K_5
  refine q_iadd hx hb dX5_isMended_34 ?_
  refine lv_istore (lv' := [(6, .int (iI ((sA ((sh).toNat)) + (if ia = true then ch else 0)))), (5, .int (iI ((sE ((sh).toNat)) + (if ia = true then -ch else ch)))), (0, .ref qS), (1, .int (iI sh)), (2, .int (bP (ia = true))), (3, .int (iI ch)), (4, .int (iI ro))]) hx hb dX5_isMended_35 hl (by decide) rfl (fun ls hl => ?_)
  have e_1 : -100000 ≤ (if ia = true then -ch else ch) ∧ (if ia = true then -ch else ch) ≤ 100000 := by split <;> omega
  have e_2 : -100000 ≤ (if ia = true then ch else 0) ∧ (if ia = true then ch else 0) ≤ 100000 := by split <;> omega
  generalize (if ia = true then -ch else ch) = z1 at *
  generalize (if ia = true then ch else 0) = z2 at *
  refine lv_iload hx hb dX5_isMended_37 (lv_at hl 1 rfl) ?_
  suffices K_7 : W p l e ({ frames := 0, cells := 0, slots := 0, locals := 0 } : Room) s m ([.ref qS, .int (iI sh), .int (bP (ia = true)), .int (iI ch), .int (iI ro)] : List Value).toArray below meth c s.heap [] 0 0 Q (F0 m 54 ls [.int (bP ((((sE ((sh).toNat)) + z1) = 0) ∧ (¬ ro < ((sA ((sh).toNat)) + z2))))]) from by
    refine q_if_ne (tgt := 53) hx hb dX5_isMended_39 (by decide) (by omega) (fun c_8 => ?_) (fun c_8 => ?_)
    · refine lv_iconst (v := iI 0) hx hb dX5_isMended_53 rfl ?_
      exact q_si (y := bP ((((sE ((sh).toNat)) + z1) = 0) ∧ (¬ ro < ((sA ((sh).toNat)) + z2)))) (bP_f (by omega)).symm K_7
    · refine lv_iload hx hb dX5_isMended_42 (lv_at hl 0 rfl) ?_
      refine lv_iload hx hb dX5_isMended_44 (lv_at hl 6 rfl) ?_
      refine q_icmp_gt (tgt := 53) hx hb dX5_isMended_46 (by decide) (by omega) (fun c_9 => ?_) (fun c_9 => ?_)
      · refine lv_iconst (v := iI 0) hx hb dX5_isMended_53 rfl ?_
        exact q_si (y := bP ((((sE ((sh).toNat)) + z1) = 0) ∧ (¬ ro < ((sA ((sh).toNat)) + z2)))) (bP_f (by omega)).symm K_7
      · refine lv_iconst (v := iI 1) hx hb dX5_isMended_49 rfl ?_
        refine lv_goto (tgt := 54) hx hb dX5_isMended_50 (by decide) ?_
        exact q_si (y := bP ((((sE ((sh).toNat)) + z1) = 0) ∧ (¬ ro < ((sA ((sh).toNat)) + z2)))) (bP_t (by omega)).symm K_7
  exact qr_z hx hb hr hlocks hQ dX5_isMended_54 (bP_nar _) (congrArg (fun z => some (Value.int z)) (bP_iff (by omega)))
