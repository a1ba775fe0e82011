def knF (sP : Nat → Int) (sG : Nat → Bool) (sM : Nat → Int) (mi sn : Int) : Nat → Int := fun p => knS sP sG sM mi p sn.toNat
def tK (fL : Nat → Int) (fD : Nat → Bool) (fK : Nat → Int) (n : Nat) : Nat → Int := fun l => sIf (knC fL fD fK l) (fun _ => 1) n
def tT (fL : Nat → Int) (fD : Nat → Bool) (fK sN : Nat → Int) (a b : Int) (n : Nat) : Nat → Int := fun l => sIf (knC fL fD fK l) (fun p => vot sN (fK p) a b) n
def tS (fL : Nat → Int) (fD : Nat → Bool) (fK sN : Nat → Int) (a b : Int) (n : Nat) : Nat → Int := fun l => sIf (knC fL fD fK l) (fun p => vot sN (fK p) a b * vot sN (fK p) a b) n
def tU (fL : Nat → Int) (fD : Nat → Bool) (fK fR : Nat → Int) (n : Nat) : Nat → Int := fun l => sIf (unC fL fD fK l) fR n
theorem sIf_cg {c d : Nat → Bool} {f h : Nat → Int} {n : Nat} (e : ∀ p, p < n → c p = d p) (e2 : ∀ p, p < n → c p = true → f p = h p) : sIf c f n = sIf d h n := by
  induction n with
  | zero => rfl
  | succ n ih =>
    rw [sIf_s, sIf_s, ih (fun p hp => e p (by omega)) (fun p hp => e2 p (by omega)), ← e n (by omega)]
    by_cases q : c n = true
    · rw [if_pos q, if_pos q, e2 n (by omega) q]
    · rw [if_neg q, if_neg q]
theorem tal_cg {fL : Nat → Int} {fD : Nat → Bool} {fK fK' fR sN : Nat → Int} {a b : Int} {gK gT gS gU : Nat → Int} {n : Nat} (e : ∀ p, p < n → fK p = fK' p) (h : tal fL fD fK fR sN a b gK gT gS gU n) : tal fL fD fK' fR sN a b gK gT gS gU n := fun l hl => by
  obtain ⟨h1, h2, h3, h4⟩ := h l hl
  have ec : ∀ p, p < n → knC fL fD fK l p = knC fL fD fK' l p := fun p hp => by unfold knC; rw [e p hp]
  have eu : ∀ p, p < n → unC fL fD fK l p = unC fL fD fK' l p := fun p hp => by unfold unC; rw [e p hp]
  refine ⟨h1.trans (sIf_cg ec (fun _ _ _ => rfl)), h2.trans (sIf_cg ec (fun p hp _ => by rw [e p hp])), h3.trans (sIf_cg ec (fun p hp _ => by rw [e p hp])), h4.trans (sIf_cg eu (fun _ _ _ => rfl))⟩
theorem sIf_1 (c : Nat → Bool) (n : Nat) : 0 ≤ sIf c (fun _ => 1) n ∧ sIf c (fun _ => 1) n ≤ n := by
  induction n with
  | zero => exact ⟨Int.le_refl _, Int.le_refl _⟩
  | succ n ih => rw [sIf_s]; split <;> omega
theorem tal_K {fL : Nat → Int} {fD : Nat → Bool} {fK fR sN : Nat → Int} {a b pn : Int} {gK gT gS gU : Nat → Int} (hp : 0 ≤ pn ∧ pn ≤ 40) (h : tal fL fD fK fR sN a b gK gT gS gU pn.toNat) : ∀ k, k < 4 → 0 ≤ gK k ∧ gK k ≤ 40 := fun k hk => by
  have h1 := (h k hk).1
  have h2 := sIf_1 (knC fL fD fK k) pn.toNat
  omega
theorem enB_cg {fH gK gJ : Nat → Int} {en : Int} {n : Nat} (e : ∀ l, l < n → gK l = gJ l) : enB fH gK en n = enB fH gJ en n := by
  induction n with
  | zero => rfl
  | succ n ih => unfold enB; rw [ih (fun l hl => e l (by omega)), e n (by omega)]
theorem foldF_cg {c c' : Nat → Bool} {t t' b b' : Nat → Int} {n : Nat} (e1 : ∀ l, l < n → c l = c' l) (e2 : ∀ l, l < n → t l = t' l) (e3 : ∀ l, l < n → b l = b' l) : foldF c t b n = foldF c' t' b' n := by
  induction n with
  | zero => rfl
  | succ n ih => unfold foldF; rw [ih (fun l hl => e1 l (by omega)) (fun l hl => e2 l (by omega)) (fun l hl => e3 l (by omega)), e1 n (by omega), e2 n (by omega), e3 n (by omega)]
theorem foldOk_cg {c c' : Nat → Bool} {t t' b b' : Nat → Int} (e1 : ∀ l, l < 4 → c l = c' l) (e2 : ∀ l, l < 4 → t l = t' l) (e3 : ∀ l, l < 4 → b l = b' l) (h : foldOk c t b) : foldOk c' t' b' := fun k hk q => by
  rw [← e1 k hk] at q
  have := h k hk q
  rwa [foldF_cg (fun l hl => e1 l (by omega)) (fun l hl => e2 l (by omega)) (fun l hl => e3 l (by omega)), e2 k hk, e3 k hk] at this
-- why a call is refused
def wPlace (fS fZ : Nat → Int) (t pl : Int) : Int := if ¬ (0 ≤ t ∧ t ≤ 3) then 1 else if fS t.toNat = -1 then 3 else if 0 ≤ pl ∧ pl < fZ t.toNat then 0 else 4
def wVotes (fS fZ fN : Nat → Int) (t mn : Int) : Int := if fS t.toNat = -1 then 3 else if mn ≤ fZ t.toNat then (if vOk fN (t * 20).toNat mn.toNat = true then 0 else 1) else 4
def wSheet (fS fZ fN : Nat → Int) (pn pm sn sl po t mi : Int) : Int := if ¬ ((0 ≤ t ∧ t ≤ 3) ∧ (0 ≤ po ∧ po ≤ pn - 1) ∧ (0 ≤ mi ∧ mi ≤ 10000)) then 1 else if mi < sl then 2 else if wVotes fS fZ fN t (pm + 2) = 0 ∧ 120 ≤ sn then 7 else wVotes fS fZ fN t (pm + 2)
def vTal (pm a b mi : Int) : Prop := (0 ≤ a ∧ a ≤ pm - 1) ∧ (b = -1 ∨ ((0 ≤ b ∧ b ≤ pm - 1) ∧ ¬ b = a)) ∧ (0 ≤ mi ∧ mi ≤ 10000)
def anyD (fH : Nat → Int) : Prop := 0 < fH 0 ∨ 0 < fH 1 ∨ 0 < fH 2 ∨ 0 < fH 3
def wTal (pm : Int) (fH gK : Nat → Int) (en a b mi : Int) : Int := if (0 ≤ a ∧ a ≤ pm - 1) ∧ (b = -1 ∨ ((0 ≤ b ∧ b ≤ pm - 1) ∧ ¬ b = a)) ∧ (0 ≤ mi ∧ mi ≤ 10000) then (if enB fH gK en 4 = true ∧ (0 < fH 0 ∨ 0 < fH 1 ∨ 0 < fH 2 ∨ 0 < fH 3) then 0 else 5) else 1
theorem wTal_r (pm : Int) (fH gK : Nat → Int) (en a b mi : Int) : 0 ≤ wTal pm fH gK en a b mi ∧ wTal pm fH gK en a b mi ≤ 5 := by unfold wTal; (repeat' split) <;> omega
theorem wTal_0 {pm : Int} {fH gK : Nat → Int} {en a b mi : Int} (h : wTal pm fH gK en a b mi = 0) : ((0 ≤ a ∧ a ≤ pm - 1) ∧ (b = -1 ∨ ((0 ≤ b ∧ b ≤ pm - 1) ∧ ¬ b = a)) ∧ (0 ≤ mi ∧ mi ≤ 10000)) ∧ enB fH gK en 4 = true ∧ (0 < fH 0 ∨ 0 < fH 1 ∨ 0 < fH 2 ∨ 0 < fH 3) := by
  unfold wTal at h
  split at h
  · next h1 =>
    split at h
    · next h2 => exact ⟨h1, h2⟩
    · exact absurd h (by decide)
  · exact absurd h (by decide)

set_option maxHeartbeats 4000000 in
set_option maxRecDepth 100000 in
theorem kX7_isDone (l : Launch) (g : qG) (h0 : Nat) (qT : Nat) (qP : Nat) (qS : Nat) (qH : Nat) (qL : Nat) (qO : Nat) (qF : Nat) (qW : Nat) (qR : Nat) (pm : Int) (st : Int) (why : Int) (r_why : -2147483648 ≤ why ∧ why ≤ 2147483647) : ME l g yX7_isDone wsX7_isDone ({ frames := 0, cells := 0, slots := 0, locals := 0 }) [.ref h0, .int (iI why)] [(h0, .inr (7, [.ref qT, .ref qP, .ref qS, .ref qH, .ref qL, .ref qO, .ref qF, .ref qW, .ref qR, .int (iI pm), .int (iI st)]))] (fun r w1 => r = some (.int (bP (why = 0))) ∧ w1 = [(h0, .inr (7, [.ref qT, .ref qP, .ref qS, .ref qH, .ref qL, .ref qO, .ref qF, .ref qW, .ref qR, .int (iI pm), .int (iI why)]))]) := by
  refine ME.intro (cc := cX7_isDone) (maxL := 2) (ret := (some .boolean)) (by decide) rfl (Nat.le_of_ble_eq_true rfl) ?_
  intro p e s m below meth c ls Q A H locs ⟨hx, hb, hr, hml, hown, hts, hlocks⟩ hP hE hl hD hA hS hQ
  have hl : lv_has ls 2 [(0, .ref h0), (1, .int (iI why))] := hl
  have iwX7 : ∀ w ∈ wsX70, w ∈ wsX7_isDone := (fun _ h => List.mem_cons_of_mem _ (List.mem_append_right _ h))
  refine lv_aload_n hx hb dX7_isDone_0 rfl (lv_at hl 0 rfl) ?_
  refine lv_iload_n hx hb dX7_isDone_1 rfl (lv_at hl 1 rfl) ?_
  refine va_put (D := g.1) (ci := 7) (v := .int (iI why)) (ty := .int) (C := RX7) (T := TX7) (N := 11) hx hb hts iwX7 tyX7 tyX7_ok nmX7 hown hE.1 hP hD hS 0 rfl rfl 10 (by decide) (hts (.fieldLink RX7 68 "QuickCount" "status" "I") (List.mem_cons_of_mem _ (List.mem_append_left _ (List.mem_of_getElem? (i := 0) rfl)))) (fun _ h9 => h9) rfl (by decide +kernel) rfl rfl (Nat.le_of_ble_eq_true rfl) dX7_isDone_2 (fun H locs hP hD hS => ?_)
  have hP : va_P g.1 vwCl [(h0, .inr (7, [.ref qT, .ref qP, .ref qS, .ref qH, .ref qL, .ref qO, .ref qF, .ref qW, .ref qR, .int (iI pm), .int (iI why)]))] H := hP
  have hD : va_D A [(h0, .inr (7, [.ref qT, .ref qP, .ref qS, .ref qH, .ref qL, .ref qO, .ref qF, .ref qW, .ref qR, .int (iI pm), .int (iI why)]))] := hD
  refine lv_iload_n hx hb dX7_isDone_5 rfl (lv_at hl 1 rfl) ?_
  suffices K_1 : W p l e ({ frames := 0, cells := 0, slots := 0, locals := 0 } : Room) s m ([.ref h0, .int (iI why)] : List Value).toArray below meth c H locs 0 0 Q (F0 m 14 ls [.int (bP (why = 0))]) from by
    refine q_if_ne (tgt := 13) hx hb dX7_isDone_6 (by decide) (by omega) (fun c_2 => ?_) (fun c_2 => ?_)
    · refine lv_iconst (v := iI 0) hx hb dX7_isDone_13 rfl ?_
      exact q_si (y := bP (why = 0)) (bP_f (by omega)).symm K_1
    · refine lv_iconst (v := iI 1) hx hb dX7_isDone_9 rfl ?_
      refine lv_goto (tgt := 14) hx hb dX7_isDone_10 (by decide) ?_
      exact q_si (y := bP (why = 0)) (bP_t (by omega)).symm K_1
  exact qe_z hx hb hr hlocks hQ hS dX7_isDone_14 (bP_nar _) hP hD (⟨congrArg (fun z => some (Value.int z)) (bP_iff (by omega)), rfl⟩)
set_option maxHeartbeats 4000000 in
set_option maxRecDepth 100000 in
theorem kX7_refused (l : Launch) (g : qG) (h0 : Nat) (qT : Nat) (qP : Nat) (qS : Nat) (qH : Nat) (qL : Nat) (qO : Nat) (qF : Nat) (qW : Nat) (qR : Nat) (pm : Int) (st : Int) (why : Int)  : ME l g yX7_refused wsX7_refused ({ frames := 0, cells := 0, slots := 0, locals := 0 }) [.ref h0, .int (iI why)] [(h0, .inr (7, [.ref qT, .ref qP, .ref qS, .ref qH, .ref qL, .ref qO, .ref qF, .ref qW, .ref qR, .int (iI pm), .int (iI st)]))] (fun r w1 => r = some (.int (iI (-1))) ∧ w1 = [(h0, .inr (7, [.ref qT, .ref qP, .ref qS, .ref qH, .ref qL, .ref qO, .ref qF, .ref qW, .ref qR, .int (iI pm), .int (iI why)]))]) := by
  refine ME.intro (cc := cX7_refused) (maxL := 2) (ret := (some .int)) (by decide) rfl (Nat.le_of_ble_eq_true rfl) ?_
  intro p e s m below meth c ls Q A H locs ⟨hx, hb, hr, hml, hown, hts, hlocks⟩ hP hE hl hD hA hS hQ
  have hl : lv_has ls 2 [(0, .ref h0), (1, .int (iI why))] := hl
  have iwX7 : ∀ w ∈ wsX70, w ∈ wsX7_refused := (fun _ h => List.mem_cons_of_mem _ (List.mem_append_right _ h))
  refine lv_aload_n hx hb dX7_refused_0 rfl (lv_at hl 0 rfl) ?_
  refine lv_iload_n hx hb dX7_refused_1 rfl (lv_at hl 1 rfl) ?_
  refine va_put (D := g.1) (ci := 7) (v := .int (iI why)) (ty := .int) (C := RX7) (T := TX7) (N := 11) hx hb hts iwX7 tyX7 tyX7_ok nmX7 hown hE.1 hP hD hS 0 rfl rfl 10 (by decide) (hts (.fieldLink RX7 68 "QuickCount" "status" "I") (List.mem_cons_of_mem _ (List.mem_append_left _ (List.mem_of_getElem? (i := 0) rfl)))) (fun _ h9 => h9) rfl (by decide +kernel) rfl rfl (Nat.le_of_ble_eq_true rfl) dX7_refused_2 (fun H locs hP hD hS => ?_)
  have hP : va_P g.1 vwCl [(h0, .inr (7, [.ref qT, .ref qP, .ref qS, .ref qH, .ref qL, .ref qO, .ref qF, .ref qW, .ref qR, .int (iI pm), .int (iI why)]))] H := hP
  have hD : va_D A [(h0, .inr (7, [.ref qT, .ref qP, .ref qS, .ref qH, .ref qL, .ref qO, .ref qF, .ref qW, .ref qR, .int (iI pm), .int (iI why)]))] := hD
  refine lv_iconst (v := iI (-1)) hx hb dX7_refused_5 rfl ?_
  exact qe_i hx hb hr hlocks hQ hS dX7_refused_6 hP hD (⟨rfl, rfl⟩)
set_option maxHeartbeats 4000000 in
set_option maxRecDepth 100000 in
theorem kX7_answered (l : Launch) (g : qG) (h0 : Nat) (qT : Nat) (qP : Nat) (qS : Nat) (qH : Nat) (qL : Nat) (qO : Nat) (qF : Nat) (qW : Nat) (qR : Nat) (pm : Int) (st : Int) (v : Int)  : ME l g yX7_answered wsX7_answered ({ frames := 0, cells := 0, slots := 0, locals := 0 }) [.ref h0, .int (iI v)] [(h0, .inr (7, [.ref qT, .ref qP, .ref qS, .ref qH, .ref qL, .ref qO, .ref qF, .ref qW, .ref qR, .int (iI pm), .int (iI st)]))] (fun r w1 => r = some (.int (iI v)) ∧ w1 = [(h0, .inr (7, [.ref qT, .ref qP, .ref qS, .ref qH, .ref qL, .ref qO, .ref qF, .ref qW, .ref qR, .int (iI pm), .int (iI 0)]))]) := by
  refine ME.intro (cc := cX7_answered) (maxL := 2) (ret := (some .int)) (by decide) rfl (Nat.le_of_ble_eq_true rfl) ?_
  intro p e s m below meth c ls Q A H locs ⟨hx, hb, hr, hml, hown, hts, hlocks⟩ hP hE hl hD hA hS hQ
  have hl : lv_has ls 2 [(0, .ref h0), (1, .int (iI v))] := hl
  have iwX7 : ∀ w ∈ wsX70, w ∈ wsX7_answered := (fun _ h => List.mem_cons_of_mem _ (List.mem_append_right _ h))
  refine lv_aload_n hx hb dX7_answered_0 rfl (lv_at hl 0 rfl) ?_
  refine lv_iconst (v := iI 0) hx hb dX7_answered_1 rfl ?_
  refine va_put (D := g.1) (ci := 7) (v := .int (iI 0)) (ty := .int) (C := RX7) (T := TX7) (N := 11) hx hb hts iwX7 tyX7 tyX7_ok nmX7 hown hE.1 hP hD hS 0 rfl rfl 10 (by decide) (hts (.fieldLink RX7 68 "QuickCount" "status" "I") (List.mem_cons_of_mem _ (List.mem_append_left _ (List.mem_of_getElem? (i := 0) rfl)))) (fun _ h9 => h9) rfl (by decide +kernel) rfl rfl (Nat.le_of_ble_eq_true rfl) dX7_answered_2 (fun H locs hP hD hS => ?_)
  have hP : va_P g.1 vwCl [(h0, .inr (7, [.ref qT, .ref qP, .ref qS, .ref qH, .ref qL, .ref qO, .ref qF, .ref qW, .ref qR, .int (iI pm), .int (iI 0)]))] H := hP
  have hD : va_D A [(h0, .inr (7, [.ref qT, .ref qP, .ref qS, .ref qH, .ref qL, .ref qO, .ref qF, .ref qW, .ref qR, .int (iI pm), .int (iI 0)]))] := hD
  refine lv_iload_n hx hb dX7_answered_5 rfl (lv_at hl 1 rfl) ?_
  exact qe_i hx hb hr hlocks hQ hS dX7_answered_6 hP hD (⟨rfl, rfl⟩)
set_option maxHeartbeats 4000000 in
set_option maxRecDepth 100000 in
theorem kX7_answeredIfAny (l : Launch) (g : qG) (h0 : Nat) (qT : Nat) (qP : Nat) (qS : Nat) (qH : Nat) (qL : Nat) (qO : Nat) (qF : Nat) (qW : Nat) (qR : Nat) (pm : Int) (st : Int) (v : Int) (r_v : -2147483648 ≤ v ∧ v ≤ 2147483647) : ME l g yX7_answeredIfAny wsX7_answeredIfAny ({ frames := 1, cells := 0, slots := 0, locals := 21 }) [.ref h0, .int (iI v)] [(h0, .inr (7, [.ref qT, .ref qP, .ref qS, .ref qH, .ref qL, .ref qO, .ref qF, .ref qW, .ref qR, .int (iI pm), .int (iI st)]))] (fun r w1 => r = some (.int (iI v)) ∧ w1 = [(h0, .inr (7, [.ref qT, .ref qP, .ref qS, .ref qH, .ref qL, .ref qO, .ref qF, .ref qW, .ref qR, .int (iI pm), .int (iI (if v = -1 then 6 else 0))]))]) := by
  refine ME.intro (cc := cX7_answeredIfAny) (maxL := 2) (ret := (some .int)) (by decide) rfl (Nat.le_of_ble_eq_true rfl) ?_
  intro p e s m below meth c ls Q A H locs ⟨hx, hb, hr, hml, hown, hts, hlocks⟩ hP hE hl hD hA hS hQ
  have hl : lv_has ls 2 [(0, .ref h0), (1, .int (iI v))] := hl
  refine lv_iload_n hx hb dX7_answeredIfAny_0 rfl (lv_at hl 1 rfl) ?_
  refine lv_iconst (v := iI (-1)) hx hb dX7_answeredIfAny_1 rfl ?_
  refine q_icmp_ne (tgt := 14) hx hb dX7_answeredIfAny_2 (by decide) (by omega) (fun c_1 => ?_) (fun c_1 => ?_)
  · refine lv_aload_n hx hb dX7_answeredIfAny_14 rfl (lv_at hl 0 rfl) ?_
    refine lv_iload_n hx hb dX7_answeredIfAny_15 rfl (lv_at hl 1 rfl) ?_
    refine q_call (rest := []) (wr := []) (q_runEV (As := [.int (iI v)]) ⟨hx, hb, hml, hown, hts⟩ (kX7_answered l g h0 qT qP qS qH qL qO qF qW qR pm st v ) (cwV 1 hts gX7_answeredIfAny_X7_answered rfl rfl rfl (by decide +kernel) ⟨Nat.le_of_ble_eq_true rfl, Nat.le_of_ble_eq_true rfl⟩) (va_recv hE.1 hP (ci := 7) (q0 := 0) rfl rfl) hE (hP.sub (ws' := [(h0, .inr (7, [.ref qT, .ref qP, .ref qS, .ref qH, .ref qL, .ref qO, .ref qF, .ref qW, .ref qR, .int (iI pm), .int (iI st)]))]) [0] rfl) (hD.sub (ws' := [(h0, .inr (7, [.ref qT, .ref qP, .ref qS, .ref qH, .ref qL, .ref qO, .ref qF, .ref qW, .ref qR, .int (iI pm), .int (iI st)]))]) [0] (by decide) rfl) rfl hl.1 (Nat.le_of_ble_eq_true rfl) dX7_answeredIfAny_16 ⟨Nat.zero_le _, Nat.zero_le _⟩) hP hD hS hA [0] [] rfl rfl (by decide) (by decide) (fun r_ w_ H locs hq_2 hP hD hS => ?_)
    obtain ⟨rfl, rfl⟩ := hq_2
    have hP : va_P g.1 vwCl [(h0, .inr (7, [.ref qT, .ref qP, .ref qS, .ref qH, .ref qL, .ref qO, .ref qF, .ref qW, .ref qR, .int (iI pm), .int (iI 0)]))] H := hP
    have hD : va_D A [(h0, .inr (7, [.ref qT, .ref qP, .ref qS, .ref qH, .ref qL, .ref qO, .ref qF, .ref qW, .ref qR, .int (iI pm), .int (iI 0)]))] := hD
    refine W.eq (g2 := F0 m 19 ls [.int (iI v)]) rfl ?_
    exact qe_i hx hb hr hlocks hQ hS dX7_answeredIfAny_19 hP hD (by first | exact ⟨by rw [show v = -1 by assumption], by rw [if_pos (by assumption)]⟩ | exact ⟨rfl, by rw [if_neg (by assumption)]⟩)
  · refine lv_aload_n hx hb dX7_answeredIfAny_5 rfl (lv_at hl 0 rfl) ?_
    refine lv_bipush (v := iI 6) hx hb dX7_answeredIfAny_6 (by decide) ?_
    refine q_call (rest := []) (wr := []) (q_runEV (As := [.int (iI 6)]) ⟨hx, hb, hml, hown, hts⟩ (kX7_refused l g h0 qT qP qS qH qL qO qF qW qR pm st 6 ) (cwV 1 hts gX7_answeredIfAny_X7_refused rfl rfl rfl (by decide +kernel) ⟨Nat.le_of_ble_eq_true rfl, Nat.le_of_ble_eq_true rfl⟩) (va_recv hE.1 hP (ci := 7) (q0 := 0) rfl rfl) hE (hP.sub (ws' := [(h0, .inr (7, [.ref qT, .ref qP, .ref qS, .ref qH, .ref qL, .ref qO, .ref qF, .ref qW, .ref qR, .int (iI pm), .int (iI st)]))]) [0] rfl) (hD.sub (ws' := [(h0, .inr (7, [.ref qT, .ref qP, .ref qS, .ref qH, .ref qL, .ref qO, .ref qF, .ref qW, .ref qR, .int (iI pm), .int (iI st)]))]) [0] (by decide) rfl) rfl hl.1 (Nat.le_of_ble_eq_true rfl) dX7_answeredIfAny_8 ⟨Nat.zero_le _, Nat.zero_le _⟩) hP hD hS hA [0] [] rfl rfl (by decide) (by decide) (fun r_ w_ H locs hq_3 hP hD hS => ?_)
    obtain ⟨rfl, rfl⟩ := hq_3
    have hP : va_P g.1 vwCl [(h0, .inr (7, [.ref qT, .ref qP, .ref qS, .ref qH, .ref qL, .ref qO, .ref qF, .ref qW, .ref qR, .int (iI pm), .int (iI 6)]))] H := hP
    have hD : va_D A [(h0, .inr (7, [.ref qT, .ref qP, .ref qS, .ref qH, .ref qL, .ref qO, .ref qF, .ref qW, .ref qR, .int (iI pm), .int (iI 6)]))] := hD
    refine W.eq (g2 := F0 m 11 ls [.int (iI (-1))]) rfl ?_
    refine lv_goto (tgt := 19) hx hb dX7_answeredIfAny_11 (by decide) ?_
    exact qe_i hx hb hr hlocks hQ hS dX7_answeredIfAny_19 hP hD (by first | exact ⟨by rw [show v = -1 by assumption], by rw [if_pos (by assumption)]⟩ | exact ⟨rfl, by rw [if_neg (by assumption)]⟩)
set_option maxHeartbeats 4000000 in
set_option maxRecDepth 100000 in
theorem kX7_isParty (l : Launch) (g : qG) (h0 : Nat) (qT : Nat) (qP : Nat) (qS : Nat) (qH : Nat) (qL : Nat) (qO : Nat) (qF : Nat) (qW : Nat) (qR : Nat) (pm : Int) (st : Int) (v : Int) (r_v : -2147483648 ≤ v ∧ v ≤ 2147483647) (h_pm : 2 ≤ pm ∧ pm ≤ 4) : MR l g yX7_isParty wsX7_isParty ({ frames := 1, cells := 0, slots := 0, locals := 22 }) [.ref h0, .int (iI v)] [(h0, .inr (7, [.ref qT, .ref qP, .ref qS, .ref qH, .ref qL, .ref qO, .ref qF, .ref qW, .ref qR, .int (iI pm), .int (iI st)]))] (fun r => r = some (.int (bP (0 ≤ v ∧ v ≤ pm - 1)))) := by
  refine MR.intro (cc := cX7_isParty) (maxL := 2) (ret := (some .boolean)) (by decide) rfl (Nat.le_of_ble_eq_true rfl) ?_
  intro p e s m below meth c ls Q ⟨hx, hb, hr, hml, hown, hts, hlocks⟩ hP hE hl hQ
  have hl : lv_has ls 2 [(0, .ref h0), (1, .int (iI v))] := hl
  have iwX7 : ∀ w ∈ wsX70, w ∈ wsX7_isParty := (fun _ h => List.mem_cons_of_mem _ (List.mem_append_right _ h))
  refine lv_iload_n hx hb dX7_isParty_0 rfl (lv_at hl 1 rfl) ?_
  refine lv_iconst (v := iI 0) hx hb dX7_isParty_1 rfl ?_
  refine lv_aload_n hx hb dX7_isParty_2 rfl (lv_at hl 0 rfl) ?_
  refine va_get (D := g.1) (ci := 7) (v := .int (iI pm)) (C := RX7) (T := TX7) (N := 11) hx hb hts iwX7 hown hE.1 hP 0 rfl rfl 9 (by decide) (hts (.fieldLink RX7 64 "QuickCount" "partyMany" "I") (List.mem_cons_of_mem _ (List.mem_append_left _ (List.mem_of_getElem? (i := 0) rfl)))) (fun _ h9 => h9) rfl dX7_isParty_3 ?_
  refine lv_iconst (v := iI 1) hx hb dX7_isParty_6 rfl ?_
  refine q_isub hx hb dX7_isParty_7 ?_
  refine q_read (rest := []) (q_runRS (As := [.int (iI v), .int (iI 0), .int (iI (pm - 1))]) ⟨hx, hb, hml, hown, hts⟩ (kX7_isWithin l g v 0 (pm - 1) (by omega) (by omega) (by omega)) (va_cwS 3 hts gX7_isParty_X7_isWithin rfl rfl rfl (by decide +kernel) ⟨Nat.le_of_ble_eq_true rfl, Nat.le_of_ble_eq_true rfl⟩) hE (hP.sub (ws' := []) [] rfl) rfl hl.1 (Nat.le_of_ble_eq_true rfl) dX7_isParty_8 ⟨Nat.zero_le _, Nat.zero_le _⟩) (fun r_ hq_1 => ?_)
  obtain rfl := hq_1
  refine W.eq (g2 := F0 m 11 ls [.int (bP (0 ≤ v ∧ v ≤ (pm - 1)))]) rfl ?_
  exact qr_z hx hb hr hlocks hQ dX7_isParty_11 (bP_nar _) (rfl)
set_option maxHeartbeats 4000000 in
set_option maxRecDepth 100000 in
theorem kX7_isPoll (l : Launch) (g : qG) (h0 : Nat) (qT : Nat) (qP : Nat) (qS : Nat) (qH : Nat) (qL : Nat) (qO : Nat) (qF : Nat) (qW : Nat) (qR : Nat) (pL : Nat) (pR : Nat) (pD : Nat) (pW : Nat) (pN : Nat) (pH : Nat) (pT : Nat) (pm : Int) (st : Int) (pn : Int) (v : Int) (r_v : -2147483648 ≤ v ∧ v ≤ 2147483647) (h_pn : 0 ≤ pn ∧ pn ≤ 40) : MR l g yX7_isPoll wsX7_isPoll ({ frames := 1, cells := 0, slots := 0, locals := 22 }) [.ref h0, .int (iI v)] [(h0, .inr (7, [.ref qT, .ref qP, .ref qS, .ref qH, .ref qL, .ref qO, .ref qF, .ref qW, .ref qR, .int (iI pm), .int (iI st)])), (qP, .inr (4, [.ref pL, .ref pR, .ref pD, .ref pW, .ref pN, .ref pH, .ref pT, .int (iI pn)]))] (fun r => r = some (.int (bP (0 ≤ v ∧ v ≤ pn - 1)))) := by
  refine MR.intro (cc := cX7_isPoll) (maxL := 2) (ret := (some .boolean)) (by decide) rfl (Nat.le_of_ble_eq_true rfl) ?_
  intro p e s m below meth c ls Q ⟨hx, hb, hr, hml, hown, hts, hlocks⟩ hP hE hl hQ
  have hl : lv_has ls 2 [(0, .ref h0), (1, .int (iI v))] := hl
  have iwX4 : ∀ w ∈ wsX40, w ∈ wsX7_isPoll := (fun _ h => List.mem_cons_of_mem _ (List.mem_append_right _ h))
  have iwX7 : ∀ w ∈ wsX70, w ∈ wsX7_isPoll := (fun _ h => List.mem_cons_of_mem _ (List.mem_append_left _ (List.mem_append_right _ h)))
  refine lv_iload_n hx hb dX7_isPoll_0 rfl (lv_at hl 1 rfl) ?_
  refine lv_iconst (v := iI 0) hx hb dX7_isPoll_1 rfl ?_
  refine lv_aload_n hx hb dX7_isPoll_2 rfl (lv_at hl 0 rfl) ?_
  refine va_get (D := g.1) (ci := 7) (v := .ref qP) (C := RX7) (T := TX7) (N := 11) hx hb hts iwX7 hown hE.1 hP 0 rfl rfl 1 (by decide) (hts (.fieldLink RX7 19 "QuickCount" "polls" "LQuickCount$PollBook;") (List.mem_cons_of_mem _ (List.mem_append_left _ (List.mem_append_left _ (List.mem_of_getElem? (i := 0) rfl))))) (fun _ h9 => h9) rfl dX7_isPoll_3 ?_
  refine va_getN (D := g.1) (ci := 4) (v := .int (iI pn)) (C := RX4) (T := TX4) (N := 8) hx hb hts iwX4 hown hE.1 hP 1 rfl rfl 7 (by decide) (va_Nw.use (w := .fieldLinkNest "QuickCount" 133 "QuickCount$PollBook" "many" "I" "QuickCount") rfl (hE.2 _ (List.mem_of_getElem? (i := 59) rfl))) (fun _ h9 => h9) rfl dX7_isPoll_6 ?_
  refine lv_iconst (v := iI 1) hx hb dX7_isPoll_9 rfl ?_
  refine q_isub hx hb dX7_isPoll_10 ?_
  refine q_read (rest := []) (q_runRS (As := [.int (iI v), .int (iI 0), .int (iI (pn - 1))]) ⟨hx, hb, hml, hown, hts⟩ (kX7_isWithin l g v 0 (pn - 1) (by omega) (by omega) (by omega)) (va_cwS 3 hts gX7_isPoll_X7_isWithin rfl rfl rfl (by decide +kernel) ⟨Nat.le_of_ble_eq_true rfl, Nat.le_of_ble_eq_true rfl⟩) hE (hP.sub (ws' := []) [] rfl) rfl hl.1 (Nat.le_of_ble_eq_true rfl) dX7_isPoll_11 ⟨Nat.zero_le _, Nat.zero_le _⟩) (fun r_ hq_1 => ?_)
  obtain rfl := hq_1
  refine W.eq (g2 := F0 m 14 ls [.int (bP (0 ≤ v ∧ v ≤ (pn - 1)))]) rfl ?_
  exact qr_z hx hb hr hlocks hQ dX7_isPoll_14 (bP_nar _) (rfl)
set_option maxHeartbeats 4000000 in
set_option maxRecDepth 100000 in
theorem kX7_isSheet (l : Launch) (g : qG) (h0 : Nat) (qT : Nat) (qP : Nat) (qS : Nat) (qH : Nat) (qL : Nat) (qO : Nat) (qF : Nat) (qW : Nat) (qR : Nat) (kP : Nat) (kM : Nat) (kG : Nat) (kE : Nat) (kA : Nat) (kN : Nat) (kK : Nat) (pm : Int) (st : Int) (sn : Int) (sl : Int) (v : Int) (r_v : -2147483648 ≤ v ∧ v ≤ 2147483647) (h_sn : 0 ≤ sn ∧ sn ≤ 120) : MR l g yX7_isSheet wsX7_isSheet ({ frames := 1, cells := 0, slots := 0, locals := 22 }) [.ref h0, .int (iI v)] [(h0, .inr (7, [.ref qT, .ref qP, .ref qS, .ref qH, .ref qL, .ref qO, .ref qF, .ref qW, .ref qR, .int (iI pm), .int (iI st)])), (qS, .inr (5, [.ref kP, .ref kM, .ref kG, .ref kE, .ref kA, .ref kN, .ref kK, .int (iI sn), .int (iI sl)]))] (fun r => r = some (.int (bP (0 ≤ v ∧ v ≤ sn - 1)))) := by
  refine MR.intro (cc := cX7_isSheet) (maxL := 2) (ret := (some .boolean)) (by decide) rfl (Nat.le_of_ble_eq_true rfl) ?_
  intro p e s m below meth c ls Q ⟨hx, hb, hr, hml, hown, hts, hlocks⟩ hP hE hl hQ
  have hl : lv_has ls 2 [(0, .ref h0), (1, .int (iI v))] := hl
  have iwX5 : ∀ w ∈ wsX50, w ∈ wsX7_isSheet := (fun _ h => List.mem_cons_of_mem _ (List.mem_append_right _ h))
  have iwX7 : ∀ w ∈ wsX70, w ∈ wsX7_isSheet := (fun _ h => List.mem_cons_of_mem _ (List.mem_append_left _ (List.mem_append_right _ h)))
  refine lv_iload_n hx hb dX7_isSheet_0 rfl (lv_at hl 1 rfl) ?_
  refine lv_iconst (v := iI 0) hx hb dX7_isSheet_1 rfl ?_
  refine lv_aload_n hx hb dX7_isSheet_2 rfl (lv_at hl 0 rfl) ?_
  refine va_get (D := g.1) (ci := 7) (v := .ref qS) (C := RX7) (T := TX7) (N := 11) hx hb hts iwX7 hown hE.1 hP 0 rfl rfl 2 (by decide) (hts (.fieldLink RX7 26 "QuickCount" "sheets" "LQuickCount$SheetBook;") (List.mem_cons_of_mem _ (List.mem_append_left _ (List.mem_append_left _ (List.mem_of_getElem? (i := 0) rfl))))) (fun _ h9 => h9) rfl dX7_isSheet_3 ?_
  refine va_getN (D := g.1) (ci := 5) (v := .int (iI sn)) (C := RX5) (T := TX5) (N := 9) hx hb hts iwX5 hown hE.1 hP 1 rfl rfl 7 (by decide) (va_Nw.use (w := .fieldLinkNest "QuickCount" 123 "QuickCount$SheetBook" "many" "I" "QuickCount") rfl (hE.2 _ (List.mem_of_getElem? (i := 64) rfl))) (fun _ h9 => h9) rfl dX7_isSheet_6 ?_
  refine lv_iconst (v := iI 1) hx hb dX7_isSheet_9 rfl ?_
  refine q_isub hx hb dX7_isSheet_10 ?_
  refine q_read (rest := []) (q_runRS (As := [.int (iI v), .int (iI 0), .int (iI (sn - 1))]) ⟨hx, hb, hml, hown, hts⟩ (kX7_isWithin l g v 0 (sn - 1) (by omega) (by omega) (by omega)) (va_cwS 3 hts gX7_isSheet_X7_isWithin rfl rfl rfl (by decide +kernel) ⟨Nat.le_of_ble_eq_true rfl, Nat.le_of_ble_eq_true rfl⟩) hE (hP.sub (ws' := []) [] rfl) rfl hl.1 (Nat.le_of_ble_eq_true rfl) dX7_isSheet_11 ⟨Nat.zero_le _, Nat.zero_le _⟩) (fun r_ hq_1 => ?_)
  obtain rfl := hq_1
  refine W.eq (g2 := F0 m 14 ls [.int (bP (0 ≤ v ∧ v ≤ (sn - 1)))]) rfl ?_
  exact qr_z hx hb hr hlocks hQ dX7_isSheet_14 (bP_nar _) (rfl)
set_option maxHeartbeats 4000000 in
set_option maxRecDepth 100000 in
theorem kX7_whyNoTrayPlace (l : Launch) (g : qG) (h0 : Nat) (qT : Nat) (qP : Nat) (qS : Nat) (qH : Nat) (qL : Nat) (qO : Nat) (qF : Nat) (qW : Nat) (qR : Nat) (tS : Nat) (tZ : Nat) (tN : Nat) (fS : Nat → Int) (fZ : Nat → Int) (pm : Int) (st : Int) (t : Int) (pl : Int) (r_t : -2147483648 ≤ t ∧ t ≤ 2147483647) (r_pl : -2147483648 ≤ pl ∧ pl ≤ 2147483647) (h_fS : ∀ k, -1 ≤ fS k ∧ fS k ≤ 3) (h_fZ : ∀ k, 0 ≤ fZ k ∧ fZ k ≤ 20) : MR l g yX7_whyNoTrayPlace wsX7_whyNoTrayPlace ({ frames := 2, cells := 0, slots := 0, locals := 42 }) [.ref h0, .int (iI t), .int (iI pl)] [(h0, .inr (7, [.ref qT, .ref qP, .ref qS, .ref qH, .ref qL, .ref qO, .ref qF, .ref qW, .ref qR, .int (iI pm), .int (iI st)])), (qT, .inr (6, [.ref tS, .ref tZ, .ref tN])), aI g tS 4 fS, aI g tZ 4 fZ] (fun r => r = some (.int (iI (wPlace fS fZ t pl)))) := by
  refine MR.intro (cc := cX7_whyNoTrayPlace) (maxL := 3) (ret := (some .int)) (by decide) rfl (Nat.le_of_ble_eq_true rfl) ?_
  intro p e s m below meth c ls Q ⟨hx, hb, hr, hml, hown, hts, hlocks⟩ hP hE hl hQ
  have hl : lv_has ls 3 [(0, .ref h0), (1, .int (iI t)), (2, .int (iI pl))] := hl
  have iwX7 : ∀ w ∈ wsX70, w ∈ wsX7_whyNoTrayPlace := (fun _ h => List.mem_cons_of_mem _ (List.mem_append_left _ (List.mem_append_right _ h)))
  refine lv_iload_n hx hb dX7_whyNoTrayPlace_0 rfl (lv_at hl 1 rfl) ?_
  refine q_read (rest := []) (q_runRS (As := [.int (iI t)]) ⟨hx, hb, hml, hown, hts⟩ (kX7_isTray l g t (by omega)) (va_cwS 1 hts gX7_whyNoTrayPlace_X7_isTray rfl rfl rfl (by decide +kernel) ⟨Nat.le_of_ble_eq_true rfl, Nat.le_of_ble_eq_true rfl⟩) hE (hP.sub (ws' := []) [] rfl) rfl hl.1 (Nat.le_of_ble_eq_true rfl) dX7_whyNoTrayPlace_1 ⟨Nat.zero_le _, Nat.zero_le _⟩) (fun r_ hq_1 => ?_)
  obtain rfl := hq_1
  refine W.eq (g2 := F0 m 4 ls [.int (bP (0 ≤ t ∧ t ≤ 3))]) rfl ?_
  refine q_ifb_ne (tgt := 9) hx hb dX7_whyNoTrayPlace_4 (by decide) (fun c_2 => ?_) (fun c_2 => ?_)
  · refine lv_aload_n hx hb dX7_whyNoTrayPlace_9 rfl (lv_at hl 0 rfl) ?_
    refine va_get (D := g.1) (ci := 7) (v := .ref qT) (C := RX7) (T := TX7) (N := 11) hx hb hts iwX7 hown hE.1 hP 0 rfl rfl 0 (by decide) (hts (.fieldLink RX7 12 "QuickCount" "trays" "LQuickCount$Trays;") (List.mem_cons_of_mem _ (List.mem_append_left _ (List.mem_append_left _ (List.mem_of_getElem? (i := 0) rfl))))) (fun _ h9 => h9) rfl dX7_whyNoTrayPlace_10 ?_
    refine lv_iload_n hx hb dX7_whyNoTrayPlace_13 rfl (lv_at hl 1 rfl) ?_
    refine q_read (rest := []) (q_runRVN (As := [.int (iI t)]) ⟨hx, hb, hml, hown, hts⟩ (kX6_isMissing l g qT tS tZ tN fS t (by omega) (by omega)) ⟨va_cnB 1 hts ggX7_whyNoTrayPlace_X6_isMissing rfl rfl rfl (hE.2 (.methodLinkNest "QuickCount" 109 yX6_isMissing "QuickCount") (List.mem_of_getElem? (i := 8) rfl)) (hts (.initialized RX6) (List.mem_cons_of_mem _ (List.mem_append_left _ (List.mem_append_left _ (List.mem_of_getElem? (i := 9) rfl))))) (by decide +kernel) ⟨Nat.le_of_ble_eq_true rfl, Nat.le_of_ble_eq_true rfl⟩, (hts (.instanceMethod yX6_isMissing) (List.mem_cons_of_mem _ (List.mem_append_left _ (List.mem_append_left _ (List.mem_of_getElem? (i := 8) rfl))))), (hts (.selects RX6 yX6_isMissing yX6_isMissing) (List.mem_cons_of_mem _ (List.mem_append_left _ (List.mem_append_left _ (List.mem_of_getElem? (i := 10) rfl)))))⟩ (va_recv hE.1 hP (ci := 6) (q0 := 1) rfl rfl) hE (hP.sub (ws' := [(qT, .inr (6, [.ref tS, .ref tZ, .ref tN])), aI g tS 4 fS]) [1, 2] rfl) rfl hl.1 (Nat.le_of_ble_eq_true rfl) dX7_whyNoTrayPlace_14 ⟨Nat.zero_le _, Nat.zero_le _⟩) (fun r_ hq_3 => ?_)
    obtain rfl := hq_3
    refine W.eq (g2 := F0 m 17 ls [.int (bP (fS t.toNat = -1))]) rfl ?_
    refine q_ifb_eq (tgt := 22) hx hb dX7_whyNoTrayPlace_17 (by decide) (fun c_4 => ?_) (fun c_4 => ?_)
    · refine lv_aload_n hx hb dX7_whyNoTrayPlace_22 rfl (lv_at hl 0 rfl) ?_
      refine va_get (D := g.1) (ci := 7) (v := .ref qT) (C := RX7) (T := TX7) (N := 11) hx hb hts iwX7 hown hE.1 hP 0 rfl rfl 0 (by decide) (hts (.fieldLink RX7 12 "QuickCount" "trays" "LQuickCount$Trays;") (List.mem_cons_of_mem _ (List.mem_append_left _ (List.mem_append_left _ (List.mem_of_getElem? (i := 0) rfl))))) (fun _ h9 => h9) rfl dX7_whyNoTrayPlace_23 ?_
      refine lv_iload_n hx hb dX7_whyNoTrayPlace_26 rfl (lv_at hl 1 rfl) ?_
      refine lv_iload_n hx hb dX7_whyNoTrayPlace_27 rfl (lv_at hl 2 rfl) ?_
      refine q_read (rest := []) (q_runRVN (As := [.int (iI t), .int (iI pl)]) ⟨hx, hb, hml, hown, hts⟩ (kX6_hasPlace l g qT tS tZ tN fZ t pl (by omega) (by omega) (by omega)) ⟨va_cnB 2 hts ggX7_whyNoTrayPlace_X6_hasPlace rfl rfl rfl (hE.2 (.methodLinkNest "QuickCount" 287 yX6_hasPlace "QuickCount") (List.mem_of_getElem? (i := 9) rfl)) (hts (.initialized RX6) (List.mem_cons_of_mem _ (List.mem_append_left _ (List.mem_append_left _ (List.mem_of_getElem? (i := 9) rfl))))) (by decide +kernel) ⟨Nat.le_of_ble_eq_true rfl, Nat.le_of_ble_eq_true rfl⟩, (hts (.instanceMethod yX6_hasPlace) (List.mem_cons_of_mem _ (List.mem_append_left _ (List.mem_append_left _ (List.mem_of_getElem? (i := 13) rfl))))), (hts (.selects RX6 yX6_hasPlace yX6_hasPlace) (List.mem_cons_of_mem _ (List.mem_append_left _ (List.mem_append_left _ (List.mem_of_getElem? (i := 14) rfl)))))⟩ (va_recv hE.1 hP (ci := 6) (q0 := 1) rfl rfl) hE (hP.sub (ws' := [(qT, .inr (6, [.ref tS, .ref tZ, .ref tN])), aI g tZ 4 fZ]) [1, 3] rfl) rfl hl.1 (Nat.le_of_ble_eq_true rfl) dX7_whyNoTrayPlace_28 ⟨Nat.zero_le _, Nat.zero_le _⟩) (fun r_ hq_5 => ?_)
      obtain rfl := hq_5
      refine W.eq (g2 := F0 m 31 ls [.int (bP (0 ≤ pl ∧ pl < fZ t.toNat))]) rfl ?_
      refine q_ifb_eq (tgt := 38) hx hb dX7_whyNoTrayPlace_31 (by decide) (fun c_6 => ?_) (fun c_6 => ?_)
      · refine lv_iconst (v := iI 4) hx hb dX7_whyNoTrayPlace_38 rfl ?_
        exact qr_i hx hb hr hlocks hQ dX7_whyNoTrayPlace_39 (congrArg (fun z => some (Value.int (iI z))) (by unfold wPlace; (repeat' split) <;> first | rfl | (exfalso; omega)))
      · refine lv_iconst (v := iI 0) hx hb dX7_whyNoTrayPlace_34 rfl ?_
        refine lv_goto (tgt := 39) hx hb dX7_whyNoTrayPlace_35 (by decide) ?_
        exact qr_i hx hb hr hlocks hQ dX7_whyNoTrayPlace_39 (congrArg (fun z => some (Value.int (iI z))) (by unfold wPlace; (repeat' split) <;> first | rfl | (exfalso; omega)))
    · refine lv_iconst (v := iI 3) hx hb dX7_whyNoTrayPlace_20 rfl ?_
      exact qr_i hx hb hr hlocks hQ dX7_whyNoTrayPlace_21 (congrArg (fun z => some (Value.int (iI z))) (by unfold wPlace; (repeat' split) <;> first | rfl | (exfalso; omega)))
  · refine lv_iconst (v := iI 1) hx hb dX7_whyNoTrayPlace_7 rfl ?_
    exact qr_i hx hb hr hlocks hQ dX7_whyNoTrayPlace_8 (congrArg (fun z => some (Value.int (iI z))) (by unfold wPlace; (repeat' split) <;> first | rfl | (exfalso; omega)))
set_option maxHeartbeats 4000000 in
set_option maxRecDepth 100000 in
theorem kX7_whyNoVotes (l : Launch) (g : qG) (h0 : Nat) (qT : Nat) (qP : Nat) (qS : Nat) (qH : Nat) (qL : Nat) (qO : Nat) (qF : Nat) (qW : Nat) (qR : Nat) (tS : Nat) (tZ : Nat) (tN : Nat) (fS : Nat → Int) (fZ : Nat → Int) (fN : Nat → Int) (pm : Int) (st : Int) (t : Int) (mn : Int) (h_t : 0 ≤ t ∧ t ≤ 3) (h_mn : 0 ≤ mn ∧ mn ≤ 20) (h_fS : ∀ k, -1 ≤ fS k ∧ fS k ≤ 3) (h_fZ : ∀ k, 0 ≤ fZ k ∧ fZ k ≤ 20) (h_fN : ∀ k, -9223372036854775808 ≤ fN k ∧ fN k ≤ 9223372036854775807) : MR l g yX7_whyNoVotes wsX7_whyNoVotes ({ frames := 2, cells := 0, slots := 0, locals := 47 }) [.ref h0, .int (iI t), .int (iI mn)] [(h0, .inr (7, [.ref qT, .ref qP, .ref qS, .ref qH, .ref qL, .ref qO, .ref qF, .ref qW, .ref qR, .int (iI pm), .int (iI st)])), (qT, .inr (6, [.ref tS, .ref tZ, .ref tN])), aI g tS 4 fS, aI g tZ 4 fZ, aJ g tN 80 fN] (fun r => r = some (.int (iI (wVotes fS fZ fN t mn)))) := by
  refine MR.intro (cc := cX7_whyNoVotes) (maxL := 3) (ret := (some .int)) (by decide) rfl (Nat.le_of_ble_eq_true rfl) ?_
  intro p e s m below meth c ls Q ⟨hx, hb, hr, hml, hown, hts, hlocks⟩ hP hE hl hQ
  have hl : lv_has ls 3 [(0, .ref h0), (1, .int (iI t)), (2, .int (iI mn))] := hl
  have iwX7 : ∀ w ∈ wsX70, w ∈ wsX7_whyNoVotes := (fun _ h => List.mem_cons_of_mem _ (List.mem_append_left _ (List.mem_append_right _ h)))
  refine lv_aload_n hx hb dX7_whyNoVotes_0 rfl (lv_at hl 0 rfl) ?_
  refine va_get (D := g.1) (ci := 7) (v := .ref qT) (C := RX7) (T := TX7) (N := 11) hx hb hts iwX7 hown hE.1 hP 0 rfl rfl 0 (by decide) (hts (.fieldLink RX7 12 "QuickCount" "trays" "LQuickCount$Trays;") (List.mem_cons_of_mem _ (List.mem_append_left _ (List.mem_append_left _ (List.mem_of_getElem? (i := 0) rfl))))) (fun _ h9 => h9) rfl dX7_whyNoVotes_1 ?_
  refine lv_iload_n hx hb dX7_whyNoVotes_4 rfl (lv_at hl 1 rfl) ?_
  refine q_read (rest := []) (q_runRVN (As := [.int (iI t)]) ⟨hx, hb, hml, hown, hts⟩ (kX6_isMissing l g qT tS tZ tN fS t (by omega) (by omega)) ⟨va_cnB 1 hts ggX7_whyNoVotes_X6_isMissing rfl rfl rfl (hE.2 (.methodLinkNest "QuickCount" 109 yX6_isMissing "QuickCount") (List.mem_of_getElem? (i := 8) rfl)) (hts (.initialized RX6) (List.mem_cons_of_mem _ (List.mem_append_left _ (List.mem_append_left _ (List.mem_of_getElem? (i := 2) rfl))))) (by decide +kernel) ⟨Nat.le_of_ble_eq_true rfl, Nat.le_of_ble_eq_true rfl⟩, (hts (.instanceMethod yX6_isMissing) (List.mem_cons_of_mem _ (List.mem_append_left _ (List.mem_append_left _ (List.mem_of_getElem? (i := 1) rfl))))), (hts (.selects RX6 yX6_isMissing yX6_isMissing) (List.mem_cons_of_mem _ (List.mem_append_left _ (List.mem_append_left _ (List.mem_of_getElem? (i := 3) rfl)))))⟩ (va_recv hE.1 hP (ci := 6) (q0 := 1) rfl rfl) hE (hP.sub (ws' := [(qT, .inr (6, [.ref tS, .ref tZ, .ref tN])), aI g tS 4 fS]) [1, 2] rfl) rfl hl.1 (Nat.le_of_ble_eq_true rfl) dX7_whyNoVotes_5 ⟨Nat.zero_le _, Nat.zero_le _⟩) (fun r_ hq_1 => ?_)
  obtain rfl := hq_1
  refine W.eq (g2 := F0 m 8 ls [.int (bP (fS t.toNat = -1))]) rfl ?_
  refine q_ifb_eq (tgt := 13) hx hb dX7_whyNoVotes_8 (by decide) (fun c_2 => ?_) (fun c_2 => ?_)
  · refine lv_aload_n hx hb dX7_whyNoVotes_13 rfl (lv_at hl 0 rfl) ?_
    refine va_get (D := g.1) (ci := 7) (v := .ref qT) (C := RX7) (T := TX7) (N := 11) hx hb hts iwX7 hown hE.1 hP 0 rfl rfl 0 (by decide) (hts (.fieldLink RX7 12 "QuickCount" "trays" "LQuickCount$Trays;") (List.mem_cons_of_mem _ (List.mem_append_left _ (List.mem_append_left _ (List.mem_of_getElem? (i := 0) rfl))))) (fun _ h9 => h9) rfl dX7_whyNoVotes_14 ?_
    refine lv_iload_n hx hb dX7_whyNoVotes_17 rfl (lv_at hl 1 rfl) ?_
    refine lv_iconst (v := iI 0) hx hb dX7_whyNoVotes_18 rfl ?_
    refine lv_iload_n hx hb dX7_whyNoVotes_19 rfl (lv_at hl 2 rfl) ?_
    refine q_read (rest := []) (q_runRVN (As := [.int (iI t), .int (iI 0), .int (iI mn)]) ⟨hx, hb, hml, hown, hts⟩ (kX6_hasRun l g qT tS tZ tN fZ t 0 mn (by omega) (by omega) (by omega) (by omega)) ⟨va_cnB 3 hts ggX7_whyNoVotes_X6_hasRun rfl rfl rfl (hE.2 (.methodLinkNest "QuickCount" 116 yX6_hasRun "QuickCount") (List.mem_of_getElem? (i := 13) rfl)) (hts (.initialized RX6) (List.mem_cons_of_mem _ (List.mem_append_left _ (List.mem_append_left _ (List.mem_of_getElem? (i := 2) rfl))))) (by decide +kernel) ⟨Nat.le_of_ble_eq_true rfl, Nat.le_of_ble_eq_true rfl⟩, (hts (.instanceMethod yX6_hasRun) (List.mem_cons_of_mem _ (List.mem_append_left _ (List.mem_append_left _ (List.mem_of_getElem? (i := 6) rfl))))), (hts (.selects RX6 yX6_hasRun yX6_hasRun) (List.mem_cons_of_mem _ (List.mem_append_left _ (List.mem_append_left _ (List.mem_of_getElem? (i := 7) rfl)))))⟩ (va_recv hE.1 hP (ci := 6) (q0 := 1) rfl rfl) hE (hP.sub (ws' := [(qT, .inr (6, [.ref tS, .ref tZ, .ref tN])), aI g tZ 4 fZ]) [1, 3] rfl) rfl hl.1 (Nat.le_of_ble_eq_true rfl) dX7_whyNoVotes_20 ⟨Nat.zero_le _, Nat.zero_le _⟩) (fun r_ hq_3 => ?_)
    obtain rfl := hq_3
    refine W.eq (g2 := F0 m 23 ls [.int (bP (0 + mn ≤ fZ t.toNat))]) rfl ?_
    refine q_ifb_ne (tgt := 28) hx hb dX7_whyNoVotes_23 (by decide) (fun c_4 => ?_) (fun c_4 => ?_)
    · refine lv_aload_n hx hb dX7_whyNoVotes_28 rfl (lv_at hl 0 rfl) ?_
      refine va_get (D := g.1) (ci := 7) (v := .ref qT) (C := RX7) (T := TX7) (N := 11) hx hb hts iwX7 hown hE.1 hP 0 rfl rfl 0 (by decide) (hts (.fieldLink RX7 12 "QuickCount" "trays" "LQuickCount$Trays;") (List.mem_cons_of_mem _ (List.mem_append_left _ (List.mem_append_left _ (List.mem_of_getElem? (i := 0) rfl))))) (fun _ h9 => h9) rfl dX7_whyNoVotes_29 ?_
      refine lv_iload_n hx hb dX7_whyNoVotes_32 rfl (lv_at hl 1 rfl) ?_
      refine lv_iload_n hx hb dX7_whyNoVotes_33 rfl (lv_at hl 2 rfl) ?_
      refine q_read (rest := []) (q_runRVN (As := [.int (iI t), .int (iI mn)]) ⟨hx, hb, hml, hown, hts⟩ (kX6_startsWithVotes l g qT tS tZ tN fN t mn (by omega) (by omega) (by omega)) ⟨va_cnB 2 hts ggX7_whyNoVotes_X6_startsWithVotes rfl rfl rfl (hE.2 (.methodLinkNest "QuickCount" 290 yX6_startsWithVotes "QuickCount") (List.mem_of_getElem? (i := 20) rfl)) (hts (.initialized RX6) (List.mem_cons_of_mem _ (List.mem_append_left _ (List.mem_append_left _ (List.mem_of_getElem? (i := 2) rfl))))) (by decide +kernel) ⟨Nat.le_of_ble_eq_true rfl, Nat.le_of_ble_eq_true rfl⟩, (hts (.instanceMethod yX6_startsWithVotes) (List.mem_cons_of_mem _ (List.mem_append_left _ (List.mem_append_left _ (List.mem_of_getElem? (i := 10) rfl))))), (hts (.selects RX6 yX6_startsWithVotes yX6_startsWithVotes) (List.mem_cons_of_mem _ (List.mem_append_left _ (List.mem_append_left _ (List.mem_of_getElem? (i := 11) rfl)))))⟩ (va_recv hE.1 hP (ci := 6) (q0 := 1) rfl rfl) hE (hP.sub (ws' := [(qT, .inr (6, [.ref tS, .ref tZ, .ref tN])), aJ g tN 80 fN]) [1, 4] rfl) rfl hl.1 (Nat.le_of_ble_eq_true rfl) dX7_whyNoVotes_34 ⟨Nat.zero_le _, Nat.zero_le _⟩) (fun r_ hq_5 => ?_)
      obtain rfl := hq_5
      refine W.eq (g2 := F0 m 37 ls [.int (bP (vOk fN (t * 20).toNat mn.toNat = true))]) rfl ?_
      suffices K_6 : W p l e ({ frames := 2, cells := 0, slots := 0, locals := 47 } : Room) s m ([.ref h0, .int (iI t), .int (iI mn)] : List Value).toArray below meth c s.heap [] 0 0 Q (F0 m 45 ls [.int (iI (if ¬ (vOk fN (t * 20).toNat mn.toNat = true) then 1 else 0))]) from by
        refine q_ifb_eq (tgt := 44) hx hb dX7_whyNoVotes_37 (by decide) (fun c_7 => ?_) (fun c_7 => ?_)
        · refine lv_iconst (v := iI 1) hx hb dX7_whyNoVotes_44 rfl ?_
          exact q_si (y := iI (if ¬ (vOk fN (t * 20).toNat mn.toNat = true) then 1 else 0)) (by rw [if_pos (by simp_all)]) K_6
        · refine lv_iconst (v := iI 0) hx hb dX7_whyNoVotes_40 rfl ?_
          refine lv_goto (tgt := 45) hx hb dX7_whyNoVotes_41 (by decide) ?_
          exact q_si (y := iI (if ¬ (vOk fN (t * 20).toNat mn.toNat = true) then 1 else 0)) (by rw [if_neg (by simp_all)]) K_6
      exact qr_i hx hb hr hlocks hQ dX7_whyNoVotes_45 (congrArg (fun z => some (Value.int (iI z))) (by unfold wVotes; (repeat' split) <;> first | rfl | contradiction | (exfalso; omega)))
    · refine lv_iconst (v := iI 4) hx hb dX7_whyNoVotes_26 rfl ?_
      exact qr_i hx hb hr hlocks hQ dX7_whyNoVotes_27 (congrArg (fun z => some (Value.int (iI z))) (by unfold wVotes; (repeat' split) <;> first | rfl | contradiction | (exfalso; omega)))
  · refine lv_iconst (v := iI 3) hx hb dX7_whyNoVotes_11 rfl ?_
    exact qr_i hx hb hr hlocks hQ dX7_whyNoVotes_12 (congrArg (fun z => some (Value.int (iI z))) (by unfold wVotes; (repeat' split) <;> first | rfl | contradiction | (exfalso; omega)))
set_option maxHeartbeats 4000000 in
set_option maxRecDepth 100000 in
theorem kX7_whyNoSheet (l : Launch) (g : qG) (h0 : Nat) (qT : Nat) (qP : Nat) (qS : Nat) (qH : Nat) (qL : Nat) (qO : Nat) (qF : Nat) (qW : Nat) (qR : Nat) (tS : Nat) (tZ : Nat) (tN : Nat) (pL : Nat) (pR : Nat) (pD : Nat) (pW : Nat) (pN : Nat) (pH : Nat) (pT : Nat) (kP : Nat) (kM : Nat) (kG : Nat) (kE : Nat) (kA : Nat) (kN : Nat) (kK : Nat) (fS : Nat → Int) (fZ : Nat → Int) (fN : Nat → Int) (pm : Int) (st : Int) (pn : Int) (sn : Int) (sl : Int) (po : Int) (t : Int) (mi : Int) (r_po : -2147483648 ≤ po ∧ po ≤ 2147483647) (r_t : -2147483648 ≤ t ∧ t ≤ 2147483647) (r_mi : -2147483648 ≤ mi ∧ mi ≤ 2147483647) (h_pm : 2 ≤ pm ∧ pm ≤ 4) (h_pn : 0 ≤ pn ∧ pn ≤ 40) (h_sn : 0 ≤ sn ∧ sn ≤ 120) (h_sl : 0 ≤ sl ∧ sl ≤ 10000) (h_fS : ∀ k, -1 ≤ fS k ∧ fS k ≤ 3) (h_fZ : ∀ k, 0 ≤ fZ k ∧ fZ k ≤ 20) (h_fN : ∀ k, -9223372036854775808 ≤ fN k ∧ fN k ≤ 9223372036854775807) : MR l g yX7_whyNoSheet wsX7_whyNoSheet ({ frames := 3, cells := 0, slots := 0, locals := 69 }) [.ref h0, .int (iI po), .int (iI t), .int (iI mi)] [(h0, .inr (7, [.ref qT, .ref qP, .ref qS, .ref qH, .ref qL, .ref qO, .ref qF, .ref qW, .ref qR, .int (iI pm), .int (iI st)])), (qT, .inr (6, [.ref tS, .ref tZ, .ref tN])), aI g tS 4 fS, aI g tZ 4 fZ, aJ g tN 80 fN, (qP, .inr (4, [.ref pL, .ref pR, .ref pD, .ref pW, .ref pN, .ref pH, .ref pT, .int (iI pn)])), (qS, .inr (5, [.ref kP, .ref kM, .ref kG, .ref kE, .ref kA, .ref kN, .ref kK, .int (iI sn), .int (iI sl)]))] (fun r => r = some (.int (iI (wSheet fS fZ fN pn pm sn sl po t mi)))) := by
  refine MR.intro (cc := cX7_whyNoSheet) (maxL := 5) (ret := (some .int)) (by decide) rfl (Nat.le_of_ble_eq_true rfl) ?_
  intro p e s m below meth c ls Q ⟨hx, hb, hr, hml, hown, hts, hlocks⟩ hP hE hl hQ
  have hl : lv_has ls 5 [(0, .ref h0), (1, .int (iI po)), (2, .int (iI t)), (3, .int (iI mi))] := hl
  have iwX5 : ∀ w ∈ wsX50, w ∈ wsX7_whyNoSheet := (fun _ h => List.mem_cons_of_mem _ (List.mem_append_left _ (List.mem_append_left _ (List.mem_append_right _ h))))
  have iwX7 : ∀ w ∈ wsX70, w ∈ wsX7_whyNoSheet := (fun _ h => List.mem_cons_of_mem _ (List.mem_append_left _ (List.mem_append_left _ (List.mem_append_left _ (List.mem_append_right _ h)))))
  refine lv_iload_n hx hb dX7_whyNoSheet_0 rfl (lv_at hl 2 rfl) ?_
  refine q_read (rest := []) (q_runRS (As := [.int (iI t)]) ⟨hx, hb, hml, hown, hts⟩ (kX7_isTray l g t (by omega)) (va_cwS 1 hts gX7_whyNoSheet_X7_isTray rfl rfl rfl (by decide +kernel) ⟨Nat.le_of_ble_eq_true rfl, Nat.le_of_ble_eq_true rfl⟩) hE (hP.sub (ws' := []) [] rfl) rfl hl.1 (Nat.le_of_ble_eq_true rfl) dX7_whyNoSheet_1 ⟨Nat.zero_le _, Nat.zero_le _⟩) (fun r_ hq_1 => ?_)
  obtain rfl := hq_1
  refine W.eq (g2 := F0 m 4 ls [.int (bP (0 ≤ t ∧ t ≤ 3))]) rfl ?_
  refine q_ifb_eq (tgt := 22) hx hb dX7_whyNoSheet_4 (by decide) (fun c_2 => ?_) (fun c_2 => ?_)
  · refine lv_iconst (v := iI 1) hx hb dX7_whyNoSheet_22 rfl ?_
    exact qr_i hx hb hr hlocks hQ dX7_whyNoSheet_23 (congrArg (fun z => some (Value.int (iI z))) (by unfold wSheet; (repeat' split) <;> first | rfl | omega))
  · refine lv_aload_n hx hb dX7_whyNoSheet_7 rfl (lv_at hl 0 rfl) ?_
    refine lv_iload_n hx hb dX7_whyNoSheet_8 rfl (lv_at hl 1 rfl) ?_
    refine q_read (rest := []) (q_runRV (As := [.int (iI po)]) ⟨hx, hb, hml, hown, hts⟩ (kX7_isPoll l g h0 qT qP qS qH qL qO qF qW qR pL pR pD pW pN pH pT pm st pn po (by omega) (by omega)) (cwV 1 hts gX7_whyNoSheet_X7_isPoll rfl rfl rfl (by decide +kernel) ⟨Nat.le_of_ble_eq_true rfl, Nat.le_of_ble_eq_true rfl⟩) (va_recv hE.1 hP (ci := 7) (q0 := 0) rfl rfl) hE (hP.sub (ws' := [(h0, .inr (7, [.ref qT, .ref qP, .ref qS, .ref qH, .ref qL, .ref qO, .ref qF, .ref qW, .ref qR, .int (iI pm), .int (iI st)])), (qP, .inr (4, [.ref pL, .ref pR, .ref pD, .ref pW, .ref pN, .ref pH, .ref pT, .int (iI pn)]))]) [0, 5] rfl) rfl hl.1 (Nat.le_of_ble_eq_true rfl) dX7_whyNoSheet_9 ⟨Nat.zero_le _, Nat.zero_le _⟩) (fun r_ hq_3 => ?_)
    obtain rfl := hq_3
    refine W.eq (g2 := F0 m 12 ls [.int (bP (0 ≤ po ∧ po ≤ pn - 1))]) rfl ?_
    refine q_ifb_eq (tgt := 22) hx hb dX7_whyNoSheet_12 (by decide) (fun c_4 => ?_) (fun c_4 => ?_)
    · refine lv_iconst (v := iI 1) hx hb dX7_whyNoSheet_22 rfl ?_
      exact qr_i hx hb hr hlocks hQ dX7_whyNoSheet_23 (congrArg (fun z => some (Value.int (iI z))) (by unfold wSheet; (repeat' split) <;> first | rfl | omega))
    · refine lv_iload_n hx hb dX7_whyNoSheet_15 rfl (lv_at hl 3 rfl) ?_
      refine q_read (rest := []) (q_runRS (As := [.int (iI mi)]) ⟨hx, hb, hml, hown, hts⟩ (kX7_isMinute l g mi (by omega)) (va_cwS 1 hts gX7_whyNoSheet_X7_isMinute rfl rfl rfl (by decide +kernel) ⟨Nat.le_of_ble_eq_true rfl, Nat.le_of_ble_eq_true rfl⟩) hE (hP.sub (ws' := []) [] rfl) rfl hl.1 (Nat.le_of_ble_eq_true rfl) dX7_whyNoSheet_16 ⟨Nat.zero_le _, Nat.zero_le _⟩) (fun r_ hq_5 => ?_)
      obtain rfl := hq_5
      refine W.eq (g2 := F0 m 19 ls [.int (bP (0 ≤ mi ∧ mi ≤ 10000))]) rfl ?_
      refine q_ifb_ne (tgt := 24) hx hb dX7_whyNoSheet_19 (by decide) (fun c_6 => ?_) (fun c_6 => ?_)
      · refine lv_iload_n hx hb dX7_whyNoSheet_24 rfl (lv_at hl 3 rfl) ?_
        refine lv_aload_n hx hb dX7_whyNoSheet_25 rfl (lv_at hl 0 rfl) ?_
        refine va_get (D := g.1) (ci := 7) (v := .ref qS) (C := RX7) (T := TX7) (N := 11) hx hb hts iwX7 hown hE.1 hP 0 rfl rfl 2 (by decide) (hts (.fieldLink RX7 26 "QuickCount" "sheets" "LQuickCount$SheetBook;") (List.mem_cons_of_mem _ (List.mem_append_left _ (List.mem_append_left _ (List.mem_append_left _ (List.mem_append_left _ (List.mem_append_left _ (List.mem_of_getElem? (i := 0) rfl)))))))) (fun _ h9 => h9) rfl dX7_whyNoSheet_26 ?_
        refine va_getN (D := g.1) (ci := 5) (v := .int (iI sl)) (C := RX5) (T := TX5) (N := 9) hx hb hts iwX5 hown hE.1 hP 6 rfl rfl 8 (by decide) (va_Nw.use (w := .fieldLinkNest "QuickCount" 293 "QuickCount$SheetBook" "latestMinute" "I" "QuickCount") rfl (hE.2 _ (List.mem_of_getElem? (i := 65) rfl))) (fun _ h9 => h9) rfl dX7_whyNoSheet_29 ?_
        refine q_icmp_ge (tgt := 37) hx hb dX7_whyNoSheet_32 (by decide) (by omega) (fun c_7 => ?_) (fun c_7 => ?_)
        · refine lv_aload_n hx hb dX7_whyNoSheet_37 rfl (lv_at hl 0 rfl) ?_
          refine lv_iload_n hx hb dX7_whyNoSheet_38 rfl (lv_at hl 2 rfl) ?_
          refine lv_aload_n hx hb dX7_whyNoSheet_39 rfl (lv_at hl 0 rfl) ?_
          refine va_get (D := g.1) (ci := 7) (v := .int (iI pm)) (C := RX7) (T := TX7) (N := 11) hx hb hts iwX7 hown hE.1 hP 0 rfl rfl 9 (by decide) (hts (.fieldLink RX7 64 "QuickCount" "partyMany" "I") (List.mem_cons_of_mem _ (List.mem_append_left _ (List.mem_append_left _ (List.mem_append_left _ (List.mem_append_left _ (List.mem_append_left _ (List.mem_of_getElem? (i := 1) rfl)))))))) (fun _ h9 => h9) rfl dX7_whyNoSheet_40 ?_
          refine lv_iconst (v := iI 2) hx hb dX7_whyNoSheet_43 rfl ?_
          refine q_iadd hx hb dX7_whyNoSheet_44 ?_
          refine q_read (rest := []) (q_runRV (As := [.int (iI t), .int (iI (pm + 2))]) ⟨hx, hb, hml, hown, hts⟩ (kX7_whyNoVotes l g h0 qT qP qS qH qL qO qF qW qR tS tZ tN fS fZ fN pm st t (pm + 2) (by omega) (by omega) (by omega) (by omega) (by omega)) (cwV 2 hts gX7_whyNoSheet_X7_whyNoVotes rfl rfl rfl (by decide +kernel) ⟨Nat.le_of_ble_eq_true rfl, Nat.le_of_ble_eq_true rfl⟩) (va_recv hE.1 hP (ci := 7) (q0 := 0) rfl rfl) hE (hP.sub (ws' := [(h0, .inr (7, [.ref qT, .ref qP, .ref qS, .ref qH, .ref qL, .ref qO, .ref qF, .ref qW, .ref qR, .int (iI pm), .int (iI st)])), (qT, .inr (6, [.ref tS, .ref tZ, .ref tN])), aI g tS 4 fS, aI g tZ 4 fZ, aJ g tN 80 fN]) [0, 1, 2, 3, 4] rfl) rfl hl.1 (Nat.le_of_ble_eq_true rfl) dX7_whyNoSheet_45 ⟨Nat.zero_le _, Nat.zero_le _⟩) (fun r_ hq_8 => ?_)
          obtain rfl := hq_8
          refine W.eq (g2 := F0 m 48 ls [.int (iI (wVotes fS fZ fN t (pm + 2)))]) rfl ?_
          have rw_1 : 0 ≤ wVotes fS fZ fN t (pm + 2) ∧ wVotes fS fZ fN t (pm + 2) ≤ 4 := by unfold wVotes; (repeat' split) <;> omega
          refine lv_istore (lv' := [(4, .int (iI (wVotes fS fZ fN t (pm + 2)))), (0, .ref h0), (1, .int (iI po)), (2, .int (iI t)), (3, .int (iI mi))]) hx hb dX7_whyNoSheet_48 hl (by decide) rfl (fun ls hl => ?_)
          refine lv_iload hx hb dX7_whyNoSheet_50 (lv_at hl 0 rfl) ?_
          refine q_if_ne (tgt := 70) hx hb dX7_whyNoSheet_52 (by decide) (by omega) (fun c_9 => ?_) (fun c_9 => ?_)
          · refine lv_iload hx hb dX7_whyNoSheet_70 (lv_at hl 0 rfl) ?_
            exact qr_i hx hb hr hlocks hQ dX7_whyNoSheet_72 (congrArg (fun z => some (Value.int (iI z))) (by unfold wSheet; (repeat' split) <;> first | rfl | omega))
          · refine lv_aload_n hx hb dX7_whyNoSheet_55 rfl (lv_at hl 1 rfl) ?_
            refine va_get (D := g.1) (ci := 7) (v := .ref qS) (C := RX7) (T := TX7) (N := 11) hx hb hts iwX7 hown hE.1 hP 0 rfl rfl 2 (by decide) (hts (.fieldLink RX7 26 "QuickCount" "sheets" "LQuickCount$SheetBook;") (List.mem_cons_of_mem _ (List.mem_append_left _ (List.mem_append_left _ (List.mem_append_left _ (List.mem_append_left _ (List.mem_append_left _ (List.mem_of_getElem? (i := 0) rfl)))))))) (fun _ h9 => h9) rfl dX7_whyNoSheet_56 ?_
            refine va_getN (D := g.1) (ci := 5) (v := .int (iI sn)) (C := RX5) (T := TX5) (N := 9) hx hb hts iwX5 hown hE.1 hP 6 rfl rfl 7 (by decide) (va_Nw.use (w := .fieldLinkNest "QuickCount" 123 "QuickCount$SheetBook" "many" "I" "QuickCount") rfl (hE.2 _ (List.mem_of_getElem? (i := 64) rfl))) (fun _ h9 => h9) rfl dX7_whyNoSheet_59 ?_
            refine lv_bipush (v := iI 120) hx hb dX7_whyNoSheet_62 (by decide) ?_
            refine q_icmp_lt (tgt := 70) hx hb dX7_whyNoSheet_64 (by decide) (by omega) (fun c_10 => ?_) (fun c_10 => ?_)
            · refine lv_iload hx hb dX7_whyNoSheet_70 (lv_at hl 0 rfl) ?_
              exact qr_i hx hb hr hlocks hQ dX7_whyNoSheet_72 (congrArg (fun z => some (Value.int (iI z))) (by unfold wSheet; (repeat' split) <;> first | rfl | omega))
            · refine lv_bipush (v := iI 7) hx hb dX7_whyNoSheet_67 (by decide) ?_
              exact qr_i hx hb hr hlocks hQ dX7_whyNoSheet_69 (congrArg (fun z => some (Value.int (iI z))) (by unfold wSheet; (repeat' split) <;> first | rfl | omega))
        · refine lv_iconst (v := iI 2) hx hb dX7_whyNoSheet_35 rfl ?_
          exact qr_i hx hb hr hlocks hQ dX7_whyNoSheet_36 (congrArg (fun z => some (Value.int (iI z))) (by unfold wSheet; (repeat' split) <;> first | rfl | omega))
      · refine lv_iconst (v := iI 1) hx hb dX7_whyNoSheet_22 rfl ?_
        exact qr_i hx hb hr hlocks hQ dX7_whyNoSheet_23 (congrArg (fun z => some (Value.int (iI z))) (by unfold wSheet; (repeat' split) <;> first | rfl | omega))
set_option maxHeartbeats 4000000 in
set_option maxRecDepth 100000 in
theorem kX7_tally (l : Launch) (g : qG) (h0 : Nat) (qT : Nat) (qP : Nat) (qS : Nat) (qH : Nat) (qL : Nat) (qO : Nat) (qF : Nat) (qW : Nat) (qR : Nat) (kP : Nat) (kM : Nat) (kG : Nat) (kE : Nat) (kA : Nat) (kN : Nat) (kK : Nat) (lK : Nat) (lT : Nat) (lS : Nat) (lU : Nat) (pL : Nat) (pR : Nat) (pD : Nat) (pW : Nat) (pN : Nat) (pH : Nat) (pT : Nat) (sP : Nat → Int) (sG : Nat → Bool) (sM : Nat → Int) (fK : Nat → Int) (sN : Nat → Int) (gK : Nat → Int) (gT : Nat → Int) (gS : Nat → Int) (gU : Nat → Int) (fL : Nat → Int) (fR : Nat → Int) (fD : Nat → Bool) (pm : Int) (st : Int) (sn : Int) (sl : Int) (pn : Int) (a : Int) (b : Int) (mi : Int) (h_a : 0 ≤ a ∧ a ≤ 3) (h_b : -1 ≤ b ∧ b ≤ 3) (r_mi : -2147483648 ≤ mi ∧ mi ≤ 2147483647) (h_pn : 0 ≤ pn ∧ pn ≤ 40) (h_sn : 0 ≤ sn ∧ sn ≤ 120) (h_fL : ∀ k, 0 ≤ fL k ∧ fL k ≤ 3) (h_fR : ∀ k, 0 ≤ fR k ∧ fR k ≤ 2000) (h_sN : ∀ k, 0 ≤ sN k ∧ sN k ≤ 9999) (h_sM : ∀ k, 0 ≤ sM k ∧ sM k ≤ 10000) (h_sP : ∀ k, 0 ≤ sP k ∧ sP k ≤ 39) (h_fK : ∀ k, -1 ≤ fK k ∧ fK k ≤ 119) : ME l g yX7_tally wsX7_tally ({ frames := 3, cells := 0, slots := 0, locals := 76 }) [.ref h0, .int (iI a), .int (iI b), .int (iI mi)] [(h0, .inr (7, [.ref qT, .ref qP, .ref qS, .ref qH, .ref qL, .ref qO, .ref qF, .ref qW, .ref qR, .int (iI pm), .int (iI st)])), (qS, .inr (5, [.ref kP, .ref kM, .ref kG, .ref kE, .ref kA, .ref kN, .ref kK, .int (iI sn), .int (iI sl)])), aI g kP 120 sP, aZ g kG 120 sG, aI g kM 120 sM, aI g kK 40 fK, aI g kN 720 sN, (qL, .inr (2, [.ref lK, .ref lT, .ref lS, .ref lU])), aI g lK 4 gK, aJ g lT 4 gT, aJ g lS 4 gS, aJ g lU 4 gU, (qP, .inr (4, [.ref pL, .ref pR, .ref pD, .ref pW, .ref pN, .ref pH, .ref pT, .int (iI pn)])), aI g pL 40 fL, aI g pR 40 fR, aZ g pD 40 fD] (fun r w1 => ∃ fK2 : Nat → Int, ∃ gK2 : Nat → Int, ∃ gT2 : Nat → Int, ∃ gS2 : Nat → Int, ∃ gU2 : Nat → Int, (∀ p, p < 40 → fK2 p = knS sP sG sM mi p sn.toNat) ∧ (∀ k, -1 ≤ fK2 k ∧ fK2 k ≤ 119) ∧ (tal fL fD (knF sP sG sM mi sn) fR sN a b gK2 gT2 gS2 gU2 pn.toNat) ∧ r = none ∧ w1 = [(h0, .inr (7, [.ref qT, .ref qP, .ref qS, .ref qH, .ref qL, .ref qO, .ref qF, .ref qW, .ref qR, .int (iI pm), .int (iI st)])), (qS, .inr (5, [.ref kP, .ref kM, .ref kG, .ref kE, .ref kA, .ref kN, .ref kK, .int (iI sn), .int (iI sl)])), aI g kP 120 sP, aZ g kG 120 sG, aI g kM 120 sM, aI g kK 40 fK2, aI g kN 720 sN, (qL, .inr (2, [.ref lK, .ref lT, .ref lS, .ref lU])), aI g lK 4 gK2, aJ g lT 4 gT2, aJ g lS 4 gS2, aJ g lU 4 gU2, (qP, .inr (4, [.ref pL, .ref pR, .ref pD, .ref pW, .ref pN, .ref pH, .ref pT, .int (iI pn)])), aI g pL 40 fL, aI g pR 40 fR, aZ g pD 40 fD]) := by
  refine ME.intro (cc := cX7_tally) (maxL := 4) (ret := none) (by decide) rfl (Nat.le_of_ble_eq_true rfl) ?_
  intro p e s m below meth c ls Q A H locs ⟨hx, hb, hr, hml, hown, hts, hlocks⟩ hP hE hl hD hA hS hQ
  have hl : lv_has ls 4 [(0, .ref h0), (1, .int (iI a)), (2, .int (iI b)), (3, .int (iI mi))] := hl
  have iwX7 : ∀ w ∈ wsX70, w ∈ wsX7_tally := (fun _ h => List.mem_cons_of_mem _ (List.mem_append_left _ (List.mem_append_left _ (List.mem_append_left _ (List.mem_append_right _ h)))))
  refine lv_aload_n hx hb dX7_tally_0 rfl (lv_at hl 0 rfl) ?_
  refine va_get (D := g.1) (ci := 7) (v := .ref qS) (C := RX7) (T := TX7) (N := 11) hx hb hts iwX7 hown hE.1 hP 0 rfl rfl 2 (by decide) (hts (.fieldLink RX7 26 "QuickCount" "sheets" "LQuickCount$SheetBook;") (List.mem_cons_of_mem _ (List.mem_append_left _ (List.mem_append_left _ (List.mem_append_left _ (List.mem_append_left _ (List.mem_append_left _ (List.mem_of_getElem? (i := 0) rfl)))))))) (fun _ h9 => h9) rfl dX7_tally_1 ?_
  refine lv_iload_n hx hb dX7_tally_4 rfl (lv_at hl 3 rfl) ?_
  refine q_call (rest := []) (wr := [(h0, .inr (7, [.ref qT, .ref qP, .ref qS, .ref qH, .ref qL, .ref qO, .ref qF, .ref qW, .ref qR, .int (iI pm), .int (iI st)])), aI g kN 720 sN, (qL, .inr (2, [.ref lK, .ref lT, .ref lS, .ref lU])), aI g lK 4 gK, aJ g lT 4 gT, aJ g lS 4 gS, aJ g lU 4 gU, (qP, .inr (4, [.ref pL, .ref pR, .ref pD, .ref pW, .ref pN, .ref pH, .ref pT, .int (iI pn)])), aI g pL 40 fL, aI g pR 40 fR, aZ g pD 40 fD]) (q_runEVN (As := [.int (iI mi)]) ⟨hx, hb, hml, hown, hts⟩ (kX5_findKnown l g qS kP kM kG kE kA kN kK sP sG sM fK sn sl mi (by omega) (h_sM) (h_sP) (by omega) (h_fK)) ⟨va_cnB 1 hts ggX7_tally_X5_findKnown rfl rfl rfl (hE.2 (.methodLinkNest "QuickCount" 267 yX5_findKnown "QuickCount") (List.mem_of_getElem? (i := 28) rfl)) (hts (.initialized RX5) (List.mem_cons_of_mem _ (List.mem_append_left _ (List.mem_append_left _ (List.mem_append_left _ (List.mem_append_left _ (List.mem_append_left _ (List.mem_of_getElem? (i := 4) rfl)))))))) (by decide +kernel) ⟨Nat.le_of_ble_eq_true rfl, Nat.le_of_ble_eq_true rfl⟩, (hts (.instanceMethod yX5_findKnown) (List.mem_cons_of_mem _ (List.mem_append_left _ (List.mem_append_left _ (List.mem_append_left _ (List.mem_append_left _ (List.mem_append_left _ (List.mem_of_getElem? (i := 3) rfl)))))))), (hts (.selects RX5 yX5_findKnown yX5_findKnown) (List.mem_cons_of_mem _ (List.mem_append_left _ (List.mem_append_left _ (List.mem_append_left _ (List.mem_append_left _ (List.mem_append_left _ (List.mem_of_getElem? (i := 5) rfl))))))))⟩ (va_recv hE.1 hP (ci := 5) (q0 := 1) rfl rfl) hE (hP.sub (ws' := [(qS, .inr (5, [.ref kP, .ref kM, .ref kG, .ref kE, .ref kA, .ref kN, .ref kK, .int (iI sn), .int (iI sl)])), aI g kP 120 sP, aZ g kG 120 sG, aI g kM 120 sM, aI g kK 40 fK]) [1, 2, 3, 4, 5] rfl) (hD.sub (ws' := [(qS, .inr (5, [.ref kP, .ref kM, .ref kG, .ref kE, .ref kA, .ref kN, .ref kK, .int (iI sn), .int (iI sl)])), aI g kP 120 sP, aZ g kG 120 sG, aI g kM 120 sM, aI g kK 40 fK]) [1, 2, 3, 4, 5] (by decide) rfl) rfl hl.1 (Nat.le_of_ble_eq_true rfl) dX7_tally_5 ⟨Nat.zero_le _, Nat.zero_le _⟩) hP hD hS hA [1, 2, 3, 4, 5] [0, 6, 7, 8, 9, 10, 11, 12, 13, 14, 15] rfl rfl (by decide) (by decide) (fun r_ w_ H locs hq_1 hP hD hS => ?_)
  obtain ⟨fK2_2, f_K2, f_K3, rfl, rfl⟩ := hq_1
  have hP : va_P g.1 vwCl [(h0, .inr (7, [.ref qT, .ref qP, .ref qS, .ref qH, .ref qL, .ref qO, .ref qF, .ref qW, .ref qR, .int (iI pm), .int (iI st)])), aI g kN 720 sN, (qL, .inr (2, [.ref lK, .ref lT, .ref lS, .ref lU])), aI g lK 4 gK, aJ g lT 4 gT, aJ g lS 4 gS, aJ g lU 4 gU, (qP, .inr (4, [.ref pL, .ref pR, .ref pD, .ref pW, .ref pN, .ref pH, .ref pT, .int (iI pn)])), aI g pL 40 fL, aI g pR 40 fR, aZ g pD 40 fD, (qS, .inr (5, [.ref kP, .ref kM, .ref kG, .ref kE, .ref kA, .ref kN, .ref kK, .int (iI sn), .int (iI sl)])), aI g kP 120 sP, aZ g kG 120 sG, aI g kM 120 sM, aI g kK 40 fK2_2] H := hP
  have hD : va_D A [(h0, .inr (7, [.ref qT, .ref qP, .ref qS, .ref qH, .ref qL, .ref qO, .ref qF, .ref qW, .ref qR, .int (iI pm), .int (iI st)])), aI g kN 720 sN, (qL, .inr (2, [.ref lK, .ref lT, .ref lS, .ref lU])), aI g lK 4 gK, aJ g lT 4 gT, aJ g lS 4 gS, aJ g lU 4 gU, (qP, .inr (4, [.ref pL, .ref pR, .ref pD, .ref pW, .ref pN, .ref pH, .ref pT, .int (iI pn)])), aI g pL 40 fL, aI g pR 40 fR, aZ g pD 40 fD, (qS, .inr (5, [.ref kP, .ref kM, .ref kG, .ref kE, .ref kA, .ref kN, .ref kK, .int (iI sn), .int (iI sl)])), aI g kP 120 sP, aZ g kG 120 sG, aI g kM 120 sM, aI g kK 40 fK2_2] := hD
  refine W.eq (g2 := F0 m 8 ls []) rfl ?_
  refine lv_aload_n hx hb dX7_tally_8 rfl (lv_at hl 0 rfl) ?_
  refine va_get (D := g.1) (ci := 7) (v := .ref qL) (C := RX7) (T := TX7) (N := 11) hx hb hts iwX7 hown hE.1 hP 0 rfl rfl 4 (by decide) (hts (.fieldLink RX7 40 "QuickCount" "land" "LQuickCount$Land;") (List.mem_cons_of_mem _ (List.mem_append_left _ (List.mem_append_left _ (List.mem_append_left _ (List.mem_append_left _ (List.mem_append_left _ (List.mem_of_getElem? (i := 1) rfl)))))))) (fun _ h9 => h9) rfl dX7_tally_9 ?_
  refine lv_aload_n hx hb dX7_tally_12 rfl (lv_at hl 0 rfl) ?_
  refine va_get (D := g.1) (ci := 7) (v := .ref qP) (C := RX7) (T := TX7) (N := 11) hx hb hts iwX7 hown hE.1 hP 0 rfl rfl 1 (by decide) (hts (.fieldLink RX7 19 "QuickCount" "polls" "LQuickCount$PollBook;") (List.mem_cons_of_mem _ (List.mem_append_left _ (List.mem_append_left _ (List.mem_append_left _ (List.mem_append_left _ (List.mem_append_left _ (List.mem_of_getElem? (i := 2) rfl)))))))) (fun _ h9 => h9) rfl dX7_tally_13 ?_
  refine lv_aload_n hx hb dX7_tally_16 rfl (lv_at hl 0 rfl) ?_
  refine va_get (D := g.1) (ci := 7) (v := .ref qS) (C := RX7) (T := TX7) (N := 11) hx hb hts iwX7 hown hE.1 hP 0 rfl rfl 2 (by decide) (hts (.fieldLink RX7 26 "QuickCount" "sheets" "LQuickCount$SheetBook;") (List.mem_cons_of_mem _ (List.mem_append_left _ (List.mem_append_left _ (List.mem_append_left _ (List.mem_append_left _ (List.mem_append_left _ (List.mem_of_getElem? (i := 0) rfl)))))))) (fun _ h9 => h9) rfl dX7_tally_17 ?_
  refine lv_iload_n hx hb dX7_tally_20 rfl (lv_at hl 1 rfl) ?_
  refine lv_iload_n hx hb dX7_tally_21 rfl (lv_at hl 2 rfl) ?_
  refine q_call (rest := []) (wr := [(h0, .inr (7, [.ref qT, .ref qP, .ref qS, .ref qH, .ref qL, .ref qO, .ref qF, .ref qW, .ref qR, .int (iI pm), .int (iI st)])), aI g kP 120 sP, aZ g kG 120 sG, aI g kM 120 sM]) (q_runEVN (As := [.ref qP, .ref qS, .int (iI a), .int (iI b)]) ⟨hx, hb, hml, hown, hts⟩ (kX2_tally l g qL lK lT lS lU qP pL pR pD pW pN pH pT qS kP kM kG kE kA kN kK gK gT gS gU fL fR fD sN fK2_2 pn sn sl a b (by omega) (by omega) (by omega) (h_fL) (h_fR) (h_sN) (f_K3)) ⟨va_cnB 4 hts ggX7_tally_X2_tally rfl rfl rfl (hE.2 (.methodLinkNest "QuickCount" 300 yX2_tally "QuickCount") (List.mem_of_getElem? (i := 29) rfl)) (hts (.initialized RX2) (List.mem_cons_of_mem _ (List.mem_append_left _ (List.mem_append_left _ (List.mem_append_left _ (List.mem_append_left _ (List.mem_append_left _ (List.mem_of_getElem? (i := 17) rfl)))))))) (by decide +kernel) ⟨Nat.le_of_ble_eq_true rfl, Nat.le_of_ble_eq_true rfl⟩, (hts (.instanceMethod yX2_tally) (List.mem_cons_of_mem _ (List.mem_append_left _ (List.mem_append_left _ (List.mem_append_left _ (List.mem_append_left _ (List.mem_append_left _ (List.mem_of_getElem? (i := 16) rfl)))))))), (hts (.selects RX2 yX2_tally yX2_tally) (List.mem_cons_of_mem _ (List.mem_append_left _ (List.mem_append_left _ (List.mem_append_left _ (List.mem_append_left _ (List.mem_append_left _ (List.mem_of_getElem? (i := 18) rfl))))))))⟩ (va_recv hE.1 hP (ci := 2) (q0 := 2) rfl rfl) hE (hP.sub (ws' := [(qL, .inr (2, [.ref lK, .ref lT, .ref lS, .ref lU])), aI g lK 4 gK, aJ g lT 4 gT, aJ g lS 4 gS, aJ g lU 4 gU, (qP, .inr (4, [.ref pL, .ref pR, .ref pD, .ref pW, .ref pN, .ref pH, .ref pT, .int (iI pn)])), aI g pL 40 fL, aI g pR 40 fR, aZ g pD 40 fD, (qS, .inr (5, [.ref kP, .ref kM, .ref kG, .ref kE, .ref kA, .ref kN, .ref kK, .int (iI sn), .int (iI sl)])), aI g kN 720 sN, aI g kK 40 fK2_2]) [2, 3, 4, 5, 6, 7, 8, 9, 10, 11, 1, 15] rfl) (hD.sub (ws' := [(qL, .inr (2, [.ref lK, .ref lT, .ref lS, .ref lU])), aI g lK 4 gK, aJ g lT 4 gT, aJ g lS 4 gS, aJ g lU 4 gU, (qP, .inr (4, [.ref pL, .ref pR, .ref pD, .ref pW, .ref pN, .ref pH, .ref pT, .int (iI pn)])), aI g pL 40 fL, aI g pR 40 fR, aZ g pD 40 fD, (qS, .inr (5, [.ref kP, .ref kM, .ref kG, .ref kE, .ref kA, .ref kN, .ref kK, .int (iI sn), .int (iI sl)])), aI g kN 720 sN, aI g kK 40 fK2_2]) [2, 3, 4, 5, 6, 7, 8, 9, 10, 11, 1, 15] (by decide) rfl) rfl hl.1 (Nat.le_of_ble_eq_true rfl) dX7_tally_22 ⟨Nat.zero_le _, Nat.zero_le _⟩) hP hD hS hA [2, 3, 4, 5, 6, 7, 8, 9, 10, 11, 1, 15] [0, 12, 13, 14] rfl rfl (by decide) (by decide) (fun r_ w_ H locs hq_3 hP hD hS => ?_)
  obtain ⟨gK2_4, gT2_5, gS2_6, gU2_7, f_tal, rfl, rfl⟩ := hq_3
  have hP : va_P g.1 vwCl [(h0, .inr (7, [.ref qT, .ref qP, .ref qS, .ref qH, .ref qL, .ref qO, .ref qF, .ref qW, .ref qR, .int (iI pm), .int (iI st)])), aI g kP 120 sP, aZ g kG 120 sG, aI g kM 120 sM, (qL, .inr (2, [.ref lK, .ref lT, .ref lS, .ref lU])), aI g lK 4 gK2_4, aJ g lT 4 gT2_5, aJ g lS 4 gS2_6, aJ g lU 4 gU2_7, (qP, .inr (4, [.ref pL, .ref pR, .ref pD, .ref pW, .ref pN, .ref pH, .ref pT, .int (iI pn)])), aI g pL 40 fL, aI g pR 40 fR, aZ g pD 40 fD, (qS, .inr (5, [.ref kP, .ref kM, .ref kG, .ref kE, .ref kA, .ref kN, .ref kK, .int (iI sn), .int (iI sl)])), aI g kN 720 sN, aI g kK 40 fK2_2] H := hP
  have hD : va_D A [(h0, .inr (7, [.ref qT, .ref qP, .ref qS, .ref qH, .ref qL, .ref qO, .ref qF, .ref qW, .ref qR, .int (iI pm), .int (iI st)])), aI g kP 120 sP, aZ g kG 120 sG, aI g kM 120 sM, (qL, .inr (2, [.ref lK, .ref lT, .ref lS, .ref lU])), aI g lK 4 gK2_4, aJ g lT 4 gT2_5, aJ g lS 4 gS2_6, aJ g lU 4 gU2_7, (qP, .inr (4, [.ref pL, .ref pR, .ref pD, .ref pW, .ref pN, .ref pH, .ref pT, .int (iI pn)])), aI g pL 40 fL, aI g pR 40 fR, aZ g pD 40 fD, (qS, .inr (5, [.ref kP, .ref kM, .ref kG, .ref kE, .ref kA, .ref kN, .ref kK, .int (iI sn), .int (iI sl)])), aI g kN 720 sN, aI g kK 40 fK2_2] := hD
  refine W.eq (g2 := F0 m 25 ls []) rfl ?_
  exact qe_v hx hb hr hlocks hQ hS dX7_tally_25 (hP.sub (ws' := [(h0, .inr (7, [.ref qT, .ref qP, .ref qS, .ref qH, .ref qL, .ref qO, .ref qF, .ref qW, .ref qR, .int (iI pm), .int (iI st)])), (qS, .inr (5, [.ref kP, .ref kM, .ref kG, .ref kE, .ref kA, .ref kN, .ref kK, .int (iI sn), .int (iI sl)])), aI g kP 120 sP, aZ g kG 120 sG, aI g kM 120 sM, aI g kK 40 fK2_2, aI g kN 720 sN, (qL, .inr (2, [.ref lK, .ref lT, .ref lS, .ref lU])), aI g lK 4 gK2_4, aJ g lT 4 gT2_5, aJ g lS 4 gS2_6, aJ g lU 4 gU2_7, (qP, .inr (4, [.ref pL, .ref pR, .ref pD, .ref pW, .ref pN, .ref pH, .ref pT, .int (iI pn)])), aI g pL 40 fL, aI g pR 40 fR, aZ g pD 40 fD]) [0, 13, 1, 2, 3, 15, 14, 4, 5, 6, 7, 8, 9, 10, 11, 12] rfl) (hD.sub (ws' := [(h0, .inr (7, [.ref qT, .ref qP, .ref qS, .ref qH, .ref qL, .ref qO, .ref qF, .ref qW, .ref qR, .int (iI pm), .int (iI st)])), (qS, .inr (5, [.ref kP, .ref kM, .ref kG, .ref kE, .ref kA, .ref kN, .ref kK, .int (iI sn), .int (iI sl)])), aI g kP 120 sP, aZ g kG 120 sG, aI g kM 120 sM, aI g kK 40 fK2_2, aI g kN 720 sN, (qL, .inr (2, [.ref lK, .ref lT, .ref lS, .ref lU])), aI g lK 4 gK2_4, aJ g lT 4 gT2_5, aJ g lS 4 gS2_6, aJ g lU 4 gU2_7, (qP, .inr (4, [.ref pL, .ref pR, .ref pD, .ref pW, .ref pN, .ref pH, .ref pT, .int (iI pn)])), aI g pL 40 fL, aI g pR 40 fR, aZ g pD 40 fD]) [0, 13, 1, 2, 3, 15, 14, 4, 5, 6, 7, 8, 9, 10, 11, 12] (by decide) rfl) (⟨_, _, _, _, _, f_K2, f_K3, tal_cg (fun p hp => f_K2 p (by omega)) f_tal, rfl, rfl⟩)
set_option maxHeartbeats 4000000 in
set_option maxRecDepth 100000 in
theorem kX7_whyNoTally (l : Launch) (g : qG) (h0 : Nat) (qT : Nat) (qP : Nat) (qS : Nat) (qH : Nat) (qL : Nat) (qO : Nat) (qF : Nat) (qW : Nat) (qR : Nat) (kP : Nat) (kM : Nat) (kG : Nat) (kE : Nat) (kA : Nat) (kN : Nat) (kK : Nat) (lK : Nat) (lT : Nat) (lS : Nat) (lU : Nat) (pL : Nat) (pR : Nat) (pD : Nat) (pW : Nat) (pN : Nat) (pH : Nat) (pT : Nat) (sP : Nat → Int) (sG : Nat → Bool) (sM : Nat → Int) (fK : Nat → Int) (sN : Nat → Int) (gK : Nat → Int) (gT : Nat → Int) (gS : Nat → Int) (gU : Nat → Int) (fL : Nat → Int) (fR : Nat → Int) (fD : Nat → Bool) (fH : Nat → Int) (pm : Int) (st : Int) (sn : Int) (sl : Int) (pn : Int) (a : Int) (b : Int) (mi : Int) (en : Int) (h_pm : 2 ≤ pm ∧ pm ≤ 4) (h_en : 0 ≤ en ∧ en ≤ 2) (h_fH : ∀ k, 0 ≤ fH k ∧ fH k ≤ 40) (r_a : -2147483648 ≤ a ∧ a ≤ 2147483647) (r_b : -2147483648 ≤ b ∧ b ≤ 2147483647) (r_mi : -2147483648 ≤ mi ∧ mi ≤ 2147483647) (h_pn : 0 ≤ pn ∧ pn ≤ 40) (h_sn : 0 ≤ sn ∧ sn ≤ 120) (h_fL : ∀ k, 0 ≤ fL k ∧ fL k ≤ 3) (h_fR : ∀ k, 0 ≤ fR k ∧ fR k ≤ 2000) (h_sN : ∀ k, 0 ≤ sN k ∧ sN k ≤ 9999) (h_sM : ∀ k, 0 ≤ sM k ∧ sM k ≤ 10000) (h_sP : ∀ k, 0 ≤ sP k ∧ sP k ≤ 39) (h_fK : ∀ k, -1 ≤ fK k ∧ fK k ≤ 119) : ME l g yX7_whyNoTally wsX7_whyNoTally ({ frames := 4, cells := 0, slots := 0, locals := 99 }) [.ref h0, .int (iI a), .int (iI b), .int (iI mi), .int (iI en)] [(h0, .inr (7, [.ref qT, .ref qP, .ref qS, .ref qH, .ref qL, .ref qO, .ref qF, .ref qW, .ref qR, .int (iI pm), .int (iI st)])), (qS, .inr (5, [.ref kP, .ref kM, .ref kG, .ref kE, .ref kA, .ref kN, .ref kK, .int (iI sn), .int (iI sl)])), aI g kP 120 sP, aZ g kG 120 sG, aI g kM 120 sM, aI g kK 40 fK, aI g kN 720 sN, (qL, .inr (2, [.ref lK, .ref lT, .ref lS, .ref lU])), aI g lK 4 gK, aJ g lT 4 gT, aJ g lS 4 gS, aJ g lU 4 gU, (qP, .inr (4, [.ref pL, .ref pR, .ref pD, .ref pW, .ref pN, .ref pH, .ref pT, .int (iI pn)])), aI g pL 40 fL, aI g pR 40 fR, aZ g pD 40 fD, aI g pH 4 fH] (fun r w1 => ∃ fK2 : Nat → Int, ∃ gK2 : Nat → Int, ∃ gT2 : Nat → Int, ∃ gS2 : Nat → Int, ∃ gU2 : Nat → Int, (∀ k, -1 ≤ fK2 k ∧ fK2 k ≤ 119) ∧ ((0 ≤ a ∧ a ≤ pm - 1) ∧ (b = -1 ∨ ((0 ≤ b ∧ b ≤ pm - 1) ∧ ¬ b = a)) ∧ (0 ≤ mi ∧ mi ≤ 10000) → tal fL fD (knF sP sG sM mi sn) fR sN a b gK2 gT2 gS2 gU2 pn.toNat) ∧ r = some (.int (iI (wTal pm fH (tK fL fD (knF sP sG sM mi sn) pn.toNat) en a b mi))) ∧ w1 = [(h0, .inr (7, [.ref qT, .ref qP, .ref qS, .ref qH, .ref qL, .ref qO, .ref qF, .ref qW, .ref qR, .int (iI pm), .int (iI st)])), (qS, .inr (5, [.ref kP, .ref kM, .ref kG, .ref kE, .ref kA, .ref kN, .ref kK, .int (iI sn), .int (iI sl)])), aI g kP 120 sP, aZ g kG 120 sG, aI g kM 120 sM, aI g kK 40 fK2, aI g kN 720 sN, (qL, .inr (2, [.ref lK, .ref lT, .ref lS, .ref lU])), aI g lK 4 gK2, aJ g lT 4 gT2, aJ g lS 4 gS2, aJ g lU 4 gU2, (qP, .inr (4, [.ref pL, .ref pR, .ref pD, .ref pW, .ref pN, .ref pH, .ref pT, .int (iI pn)])), aI g pL 40 fL, aI g pR 40 fR, aZ g pD 40 fD, aI g pH 4 fH]) := by
  refine ME.intro (cc := cX7_whyNoTally) (maxL := 6) (ret := (some .int)) (by decide) rfl (Nat.le_of_ble_eq_true rfl) ?_
  intro p e s m below meth c ls Q A H locs ⟨hx, hb, hr, hml, hown, hts, hlocks⟩ hP hE hl hD hA hS hQ
  have hl : lv_has ls 6 [(0, .ref h0), (1, .int (iI a)), (2, .int (iI b)), (3, .int (iI mi)), (4, .int (iI en))] := hl
  have iwX7 : ∀ w ∈ wsX70, w ∈ wsX7_whyNoTally := (fun _ h => List.mem_cons_of_mem _ (List.mem_append_left _ (List.mem_append_left _ (List.mem_append_left _ (List.mem_append_right _ h)))))
  refine lv_iload_n hx hb dX7_whyNoTally_0 rfl (lv_at hl 2 rfl) ?_
  refine lv_iconst (v := iI (-1)) hx hb dX7_whyNoTally_1 rfl ?_
  suffices K_1 : W p l e ({ frames := 4, cells := 0, slots := 0, locals := 99 } : Room) s m ([.ref h0, .int (iI a), .int (iI b), .int (iI mi), .int (iI en)] : List Value).toArray below meth c H locs 0 0 Q (F0 m 23 ls [.int (bP (b = -1 ∨ ((0 ≤ b ∧ b ≤ pm - 1) ∧ ¬ b = a)))]) from by
    refine q_icmp_eq (tgt := 18) hx hb dX7_whyNoTally_2 (by decide) (by omega) (fun c_2 => ?_) (fun c_2 => ?_)
    · refine lv_iconst (v := iI 1) hx hb dX7_whyNoTally_18 rfl ?_
      refine lv_goto (tgt := 23) hx hb dX7_whyNoTally_19 (by decide) ?_
      exact q_si (y := bP (b = -1 ∨ ((0 ≤ b ∧ b ≤ pm - 1) ∧ ¬ b = a))) (bP_t (by omega)).symm K_1
    · refine lv_aload_n hx hb dX7_whyNoTally_5 rfl (lv_at hl 0 rfl) ?_
      refine lv_iload_n hx hb dX7_whyNoTally_6 rfl (lv_at hl 2 rfl) ?_
      refine q_read (rest := []) (q_runRV (As := [.int (iI b)]) ⟨hx, hb, hml, hown, hts⟩ (kX7_isParty l g h0 qT qP qS qH qL qO qF qW qR pm st b (by omega) (by omega)) (cwV 1 hts gX7_whyNoTally_X7_isParty rfl rfl rfl (by decide +kernel) ⟨Nat.le_of_ble_eq_true rfl, Nat.le_of_ble_eq_true rfl⟩) (va_recv hE.1 hP (ci := 7) (q0 := 0) rfl rfl) hE (hP.sub (ws' := [(h0, .inr (7, [.ref qT, .ref qP, .ref qS, .ref qH, .ref qL, .ref qO, .ref qF, .ref qW, .ref qR, .int (iI pm), .int (iI st)]))]) [0] rfl) rfl hl.1 (Nat.le_of_ble_eq_true rfl) dX7_whyNoTally_7 ⟨Nat.zero_le _, Nat.zero_le _⟩) (fun r_ hq_3 => ?_)
      obtain rfl := hq_3
      refine W.eq (g2 := F0 m 10 ls [.int (bP (0 ≤ b ∧ b ≤ pm - 1))]) rfl ?_
      refine q_ifb_eq (tgt := 22) hx hb dX7_whyNoTally_10 (by decide) (fun c_4 => ?_) (fun c_4 => ?_)
      · refine lv_iconst (v := iI 0) hx hb dX7_whyNoTally_22 rfl ?_
        exact q_si (y := bP (b = -1 ∨ ((0 ≤ b ∧ b ≤ pm - 1) ∧ ¬ b = a))) (bP_f (by omega)).symm K_1
      · refine lv_iload_n hx hb dX7_whyNoTally_13 rfl (lv_at hl 2 rfl) ?_
        refine lv_iload_n hx hb dX7_whyNoTally_14 rfl (lv_at hl 1 rfl) ?_
        refine q_icmp_eq (tgt := 22) hx hb dX7_whyNoTally_15 (by decide) (by omega) (fun c_5 => ?_) (fun c_5 => ?_)
        · refine lv_iconst (v := iI 0) hx hb dX7_whyNoTally_22 rfl ?_
          exact q_si (y := bP (b = -1 ∨ ((0 ≤ b ∧ b ≤ pm - 1) ∧ ¬ b = a))) (bP_f (by omega)).symm K_1
        · refine lv_iconst (v := iI 1) hx hb dX7_whyNoTally_18 rfl ?_
          refine lv_goto (tgt := 23) hx hb dX7_whyNoTally_19 (by decide) ?_
          exact q_si (y := bP (b = -1 ∨ ((0 ≤ b ∧ b ≤ pm - 1) ∧ ¬ b = a))) (bP_t (by omega)).symm K_1
  refine lv_istore (lv' := [(5, .int (bP (b = -1 ∨ ((0 ≤ b ∧ b ≤ pm - 1) ∧ ¬ b = a)))), (0, .ref h0), (1, .int (iI a)), (2, .int (iI b)), (3, .int (iI mi)), (4, .int (iI en))]) hx hb dX7_whyNoTally_23 hl (by decide) rfl (fun ls hl => ?_)
  refine lv_aload_n hx hb dX7_whyNoTally_25 rfl (lv_at hl 1 rfl) ?_
  refine lv_iload_n hx hb dX7_whyNoTally_26 rfl (lv_at hl 2 rfl) ?_
  refine q_read (rest := []) (q_runRV (As := [.int (iI a)]) ⟨hx, hb, hml, hown, hts⟩ (kX7_isParty l g h0 qT qP qS qH qL qO qF qW qR pm st a (by omega) (by omega)) (cwV 1 hts gX7_whyNoTally_X7_isParty rfl rfl rfl (by decide +kernel) ⟨Nat.le_of_ble_eq_true rfl, Nat.le_of_ble_eq_true rfl⟩) (va_recv hE.1 hP (ci := 7) (q0 := 0) rfl rfl) hE (hP.sub (ws' := [(h0, .inr (7, [.ref qT, .ref qP, .ref qS, .ref qH, .ref qL, .ref qO, .ref qF, .ref qW, .ref qR, .int (iI pm), .int (iI st)]))]) [0] rfl) rfl hl.1 (Nat.le_of_ble_eq_true rfl) dX7_whyNoTally_27 ⟨Nat.zero_le _, Nat.zero_le _⟩) (fun r_ hq_6 => ?_)
  obtain rfl := hq_6
  refine W.eq (g2 := F0 m 30 ls [.int (bP (0 ≤ a ∧ a ≤ pm - 1))]) rfl ?_
  refine q_ifb_eq (tgt := 45) hx hb dX7_whyNoTally_30 (by decide) (fun c_7 => ?_) (fun c_7 => ?_)
  · refine lv_iconst (v := iI 1) hx hb dX7_whyNoTally_45 rfl ?_
    exact qe_i hx hb hr hlocks hQ hS dX7_whyNoTally_46 hP hD (⟨_, _, _, _, _, h_fK, fun z => absurd z (by omega), by unfold wTal; rw [if_neg (by omega)], rfl⟩)
  · refine lv_iload hx hb dX7_whyNoTally_33 (lv_at hl 0 rfl) ?_
    refine q_ifb_eq (tgt := 45) hx hb dX7_whyNoTally_35 (by decide) (fun c_8 => ?_) (fun c_8 => ?_)
    · refine lv_iconst (v := iI 1) hx hb dX7_whyNoTally_45 rfl ?_
      exact qe_i hx hb hr hlocks hQ hS dX7_whyNoTally_46 hP hD (⟨_, _, _, _, _, h_fK, fun z => absurd z (by omega), by unfold wTal; rw [if_neg (by omega)], rfl⟩)
    · refine lv_iload_n hx hb dX7_whyNoTally_38 rfl (lv_at hl 4 rfl) ?_
      refine q_read (rest := []) (q_runRS (As := [.int (iI mi)]) ⟨hx, hb, hml, hown, hts⟩ (kX7_isMinute l g mi (by omega)) (va_cwS 1 hts gX7_whyNoTally_X7_isMinute rfl rfl rfl (by decide +kernel) ⟨Nat.le_of_ble_eq_true rfl, Nat.le_of_ble_eq_true rfl⟩) hE (hP.sub (ws' := []) [] rfl) rfl hl.1 (Nat.le_of_ble_eq_true rfl) dX7_whyNoTally_39 ⟨Nat.zero_le _, Nat.zero_le _⟩) (fun r_ hq_9 => ?_)
      obtain rfl := hq_9
      refine W.eq (g2 := F0 m 42 ls [.int (bP (0 ≤ mi ∧ mi ≤ 10000))]) rfl ?_
      refine q_ifb_ne (tgt := 47) hx hb dX7_whyNoTally_42 (by decide) (fun c_10 => ?_) (fun c_10 => ?_)
      · refine lv_aload_n hx hb dX7_whyNoTally_47 rfl (lv_at hl 1 rfl) ?_
        refine lv_iload_n hx hb dX7_whyNoTally_48 rfl (lv_at hl 2 rfl) ?_
        refine lv_iload_n hx hb dX7_whyNoTally_49 rfl (lv_at hl 3 rfl) ?_
        refine lv_iload_n hx hb dX7_whyNoTally_50 rfl (lv_at hl 4 rfl) ?_
        refine q_call (rest := []) (wr := [aI g pH 4 fH]) (q_runEV (As := [.int (iI a), .int (iI b), .int (iI mi)]) ⟨hx, hb, hml, hown, hts⟩ (kX7_tally l g h0 qT qP qS qH qL qO qF qW qR kP kM kG kE kA kN kK lK lT lS lU pL pR pD pW pN pH pT sP sG sM fK sN gK gT gS gU fL fR fD pm st sn sl pn a b mi (by omega) (by omega) (by omega) (by omega) (by omega) (h_fL) (h_fR) (h_sN) (h_sM) (h_sP) (h_fK)) (cwV 3 hts gX7_whyNoTally_X7_tally rfl rfl rfl (by decide +kernel) ⟨Nat.le_of_ble_eq_true rfl, Nat.le_of_ble_eq_true rfl⟩) (va_recv hE.1 hP (ci := 7) (q0 := 0) rfl rfl) hE (hP.sub (ws' := [(h0, .inr (7, [.ref qT, .ref qP, .ref qS, .ref qH, .ref qL, .ref qO, .ref qF, .ref qW, .ref qR, .int (iI pm), .int (iI st)])), (qS, .inr (5, [.ref kP, .ref kM, .ref kG, .ref kE, .ref kA, .ref kN, .ref kK, .int (iI sn), .int (iI sl)])), aI g kP 120 sP, aZ g kG 120 sG, aI g kM 120 sM, aI g kK 40 fK, aI g kN 720 sN, (qL, .inr (2, [.ref lK, .ref lT, .ref lS, .ref lU])), aI g lK 4 gK, aJ g lT 4 gT, aJ g lS 4 gS, aJ g lU 4 gU, (qP, .inr (4, [.ref pL, .ref pR, .ref pD, .ref pW, .ref pN, .ref pH, .ref pT, .int (iI pn)])), aI g pL 40 fL, aI g pR 40 fR, aZ g pD 40 fD]) [0, 1, 2, 3, 4, 5, 6, 7, 8, 9, 10, 11, 12, 13, 14, 15] rfl) (hD.sub (ws' := [(h0, .inr (7, [.ref qT, .ref qP, .ref qS, .ref qH, .ref qL, .ref qO, .ref qF, .ref qW, .ref qR, .int (iI pm), .int (iI st)])), (qS, .inr (5, [.ref kP, .ref kM, .ref kG, .ref kE, .ref kA, .ref kN, .ref kK, .int (iI sn), .int (iI sl)])), aI g kP 120 sP, aZ g kG 120 sG, aI g kM 120 sM, aI g kK 40 fK, aI g kN 720 sN, (qL, .inr (2, [.ref lK, .ref lT, .ref lS, .ref lU])), aI g lK 4 gK, aJ g lT 4 gT, aJ g lS 4 gS, aJ g lU 4 gU, (qP, .inr (4, [.ref pL, .ref pR, .ref pD, .ref pW, .ref pN, .ref pH, .ref pT, .int (iI pn)])), aI g pL 40 fL, aI g pR 40 fR, aZ g pD 40 fD]) [0, 1, 2, 3, 4, 5, 6, 7, 8, 9, 10, 11, 12, 13, 14, 15] (by decide) rfl) rfl hl.1 (Nat.le_of_ble_eq_true rfl) dX7_whyNoTally_51 ⟨Nat.zero_le _, Nat.zero_le _⟩) hP hD hS hA [0, 1, 2, 3, 4, 5, 6, 7, 8, 9, 10, 11, 12, 13, 14, 15] [16] rfl rfl (by decide) (by decide) (fun r_ w_ H locs hq_11 hP hD hS => ?_)
        obtain ⟨fK2_12, gK2_13, gT2_14, gS2_15, gU2_16, f_K2, f_K3, f_tal, rfl, rfl⟩ := hq_11
        have hP : va_P g.1 vwCl [aI g pH 4 fH, (h0, .inr (7, [.ref qT, .ref qP, .ref qS, .ref qH, .ref qL, .ref qO, .ref qF, .ref qW, .ref qR, .int (iI pm), .int (iI st)])), (qS, .inr (5, [.ref kP, .ref kM, .ref kG, .ref kE, .ref kA, .ref kN, .ref kK, .int (iI sn), .int (iI sl)])), aI g kP 120 sP, aZ g kG 120 sG, aI g kM 120 sM, aI g kK 40 fK2_12, aI g kN 720 sN, (qL, .inr (2, [.ref lK, .ref lT, .ref lS, .ref lU])), aI g lK 4 gK2_13, aJ g lT 4 gT2_14, aJ g lS 4 gS2_15, aJ g lU 4 gU2_16, (qP, .inr (4, [.ref pL, .ref pR, .ref pD, .ref pW, .ref pN, .ref pH, .ref pT, .int (iI pn)])), aI g pL 40 fL, aI g pR 40 fR, aZ g pD 40 fD] H := hP
        have hD : va_D A [aI g pH 4 fH, (h0, .inr (7, [.ref qT, .ref qP, .ref qS, .ref qH, .ref qL, .ref qO, .ref qF, .ref qW, .ref qR, .int (iI pm), .int (iI st)])), (qS, .inr (5, [.ref kP, .ref kM, .ref kG, .ref kE, .ref kA, .ref kN, .ref kK, .int (iI sn), .int (iI sl)])), aI g kP 120 sP, aZ g kG 120 sG, aI g kM 120 sM, aI g kK 40 fK2_12, aI g kN 720 sN, (qL, .inr (2, [.ref lK, .ref lT, .ref lS, .ref lU])), aI g lK 4 gK2_13, aJ g lT 4 gT2_14, aJ g lS 4 gS2_15, aJ g lU 4 gU2_16, (qP, .inr (4, [.ref pL, .ref pR, .ref pD, .ref pW, .ref pN, .ref pH, .ref pT, .int (iI pn)])), aI g pL 40 fL, aI g pR 40 fR, aZ g pD 40 fD] := hD
        refine W.eq (g2 := F0 m 54 ls []) rfl ?_
        refine lv_aload_n hx hb dX7_whyNoTally_54 rfl (lv_at hl 1 rfl) ?_
        refine va_get (D := g.1) (ci := 7) (v := .ref qL) (C := RX7) (T := TX7) (N := 11) hx hb hts iwX7 hown hE.1 hP 1 rfl rfl 4 (by decide) (hts (.fieldLink RX7 40 "QuickCount" "land" "LQuickCount$Land;") (List.mem_cons_of_mem _ (List.mem_append_left _ (List.mem_append_left _ (List.mem_append_left _ (List.mem_append_left _ (List.mem_append_left _ (List.mem_of_getElem? (i := 0) rfl)))))))) (fun _ h9 => h9) rfl dX7_whyNoTally_55 ?_
        refine lv_aload_n hx hb dX7_whyNoTally_58 rfl (lv_at hl 1 rfl) ?_
        refine va_get (D := g.1) (ci := 7) (v := .ref qP) (C := RX7) (T := TX7) (N := 11) hx hb hts iwX7 hown hE.1 hP 1 rfl rfl 1 (by decide) (hts (.fieldLink RX7 19 "QuickCount" "polls" "LQuickCount$PollBook;") (List.mem_cons_of_mem _ (List.mem_append_left _ (List.mem_append_left _ (List.mem_append_left _ (List.mem_append_left _ (List.mem_append_left _ (List.mem_of_getElem? (i := 1) rfl)))))))) (fun _ h9 => h9) rfl dX7_whyNoTally_59 ?_
        refine lv_iload hx hb dX7_whyNoTally_62 (lv_at hl 5 rfl) ?_
        refine q_read (rest := []) (q_runRVN (As := [.ref qP, .int (iI en)]) ⟨hx, hb, hml, hown, hts⟩ (kX2_hasEnough l g qL lK lT lS lU qP pL pR pD pW pN pH pT gK2_13 fH pn en (tal_K h_pn f_tal) (h_fH) (by omega)) ⟨va_cnB 2 hts ggX7_whyNoTally_X2_hasEnough rfl rfl rfl (hE.2 (.methodLinkNest "QuickCount" 296 yX2_hasEnough "QuickCount") (List.mem_of_getElem? (i := 31) rfl)) (hts (.initialized RX2) (List.mem_cons_of_mem _ (List.mem_append_left _ (List.mem_append_left _ (List.mem_append_left _ (List.mem_append_left _ (List.mem_append_right _ (List.mem_append_left _ (List.mem_of_getElem? (i := 9) rfl))))))))) (by decide +kernel) ⟨Nat.le_of_ble_eq_true rfl, Nat.le_of_ble_eq_true rfl⟩, (hts (.instanceMethod yX2_hasEnough) (List.mem_cons_of_mem _ (List.mem_append_left _ (List.mem_append_left _ (List.mem_append_left _ (List.mem_append_left _ (List.mem_append_right _ (List.mem_append_right _ (List.mem_of_getElem? (i := 0) rfl))))))))), (hts (.selects RX2 yX2_hasEnough yX2_hasEnough) (List.mem_cons_of_mem _ (List.mem_append_left _ (List.mem_append_left _ (List.mem_append_left _ (List.mem_append_left _ (List.mem_append_right _ (List.mem_append_right _ (List.mem_of_getElem? (i := 1) rfl)))))))))⟩ (va_recv hE.1 hP (ci := 2) (q0 := 8) rfl rfl) hE (hP.sub (ws' := [(qL, .inr (2, [.ref lK, .ref lT, .ref lS, .ref lU])), aI g lK 4 gK2_13, (qP, .inr (4, [.ref pL, .ref pR, .ref pD, .ref pW, .ref pN, .ref pH, .ref pT, .int (iI pn)])), aI g pH 4 fH]) [8, 9, 13, 0] rfl) rfl hl.1 (Nat.le_of_ble_eq_true rfl) dX7_whyNoTally_64 ⟨Nat.zero_le _, Nat.zero_le _⟩) (fun r_ hq_17 => ?_)
        obtain rfl := hq_17
        refine W.eq (g2 := F0 m 67 ls [.int (bP (enB fH gK2_13 en 4 = true ∧ (0 < fH 0 ∨ 0 < fH 1 ∨ 0 < fH 2 ∨ 0 < fH 3)))]) rfl ?_
        refine q_ifb_eq (tgt := 74) hx hb dX7_whyNoTally_67 (by decide) (fun c_18 => ?_) (fun c_18 => ?_)
        · refine lv_iconst (v := iI 5) hx hb dX7_whyNoTally_74 rfl ?_
          exact qe_i hx hb hr hlocks hQ hS dX7_whyNoTally_75 (hP.sub (ws' := [(h0, .inr (7, [.ref qT, .ref qP, .ref qS, .ref qH, .ref qL, .ref qO, .ref qF, .ref qW, .ref qR, .int (iI pm), .int (iI st)])), (qS, .inr (5, [.ref kP, .ref kM, .ref kG, .ref kE, .ref kA, .ref kN, .ref kK, .int (iI sn), .int (iI sl)])), aI g kP 120 sP, aZ g kG 120 sG, aI g kM 120 sM, aI g kK 40 fK2_12, aI g kN 720 sN, (qL, .inr (2, [.ref lK, .ref lT, .ref lS, .ref lU])), aI g lK 4 gK2_13, aJ g lT 4 gT2_14, aJ g lS 4 gS2_15, aJ g lU 4 gU2_16, (qP, .inr (4, [.ref pL, .ref pR, .ref pD, .ref pW, .ref pN, .ref pH, .ref pT, .int (iI pn)])), aI g pL 40 fL, aI g pR 40 fR, aZ g pD 40 fD, aI g pH 4 fH]) [1, 2, 3, 4, 5, 6, 7, 8, 9, 10, 11, 12, 13, 14, 15, 16, 0] rfl) (hD.sub (ws' := [(h0, .inr (7, [.ref qT, .ref qP, .ref qS, .ref qH, .ref qL, .ref qO, .ref qF, .ref qW, .ref qR, .int (iI pm), .int (iI st)])), (qS, .inr (5, [.ref kP, .ref kM, .ref kG, .ref kE, .ref kA, .ref kN, .ref kK, .int (iI sn), .int (iI sl)])), aI g kP 120 sP, aZ g kG 120 sG, aI g kM 120 sM, aI g kK 40 fK2_12, aI g kN 720 sN, (qL, .inr (2, [.ref lK, .ref lT, .ref lS, .ref lU])), aI g lK 4 gK2_13, aJ g lT 4 gT2_14, aJ g lS 4 gS2_15, aJ g lU 4 gU2_16, (qP, .inr (4, [.ref pL, .ref pR, .ref pD, .ref pW, .ref pN, .ref pH, .ref pT, .int (iI pn)])), aI g pL 40 fL, aI g pR 40 fR, aZ g pD 40 fD, aI g pH 4 fH]) [1, 2, 3, 4, 5, 6, 7, 8, 9, 10, 11, 12, 13, 14, 15, 16, 0] (by decide) rfl) (⟨_, _, _, _, _, f_K3, fun _ => f_tal, by unfold wTal; rw [if_pos (by omega), ← enB_cg (gJ := tK fL fD (knF sP sG sM mi sn) pn.toNat) (fun l hl => (f_tal l hl).1)]; first | rw [if_pos (by assumption)] | rw [if_neg (by assumption)], rfl⟩)
        · refine lv_iconst (v := iI 0) hx hb dX7_whyNoTally_70 rfl ?_
          refine lv_goto (tgt := 75) hx hb dX7_whyNoTally_71 (by decide) ?_
          exact qe_i hx hb hr hlocks hQ hS dX7_whyNoTally_75 (hP.sub (ws' := [(h0, .inr (7, [.ref qT, .ref qP, .ref qS, .ref qH, .ref qL, .ref qO, .ref qF, .ref qW, .ref qR, .int (iI pm), .int (iI st)])), (qS, .inr (5, [.ref kP, .ref kM, .ref kG, .ref kE, .ref kA, .ref kN, .ref kK, .int (iI sn), .int (iI sl)])), aI g kP 120 sP, aZ g kG 120 sG, aI g kM 120 sM, aI g kK 40 fK2_12, aI g kN 720 sN, (qL, .inr (2, [.ref lK, .ref lT, .ref lS, .ref lU])), aI g lK 4 gK2_13, aJ g lT 4 gT2_14, aJ g lS 4 gS2_15, aJ g lU 4 gU2_16, (qP, .inr (4, [.ref pL, .ref pR, .ref pD, .ref pW, .ref pN, .ref pH, .ref pT, .int (iI pn)])), aI g pL 40 fL, aI g pR 40 fR, aZ g pD 40 fD, aI g pH 4 fH]) [1, 2, 3, 4, 5, 6, 7, 8, 9, 10, 11, 12, 13, 14, 15, 16, 0] rfl) (hD.sub (ws' := [(h0, .inr (7, [.ref qT, .ref qP, .ref qS, .ref qH, .ref qL, .ref qO, .ref qF, .ref qW, .ref qR, .int (iI pm), .int (iI st)])), (qS, .inr (5, [.ref kP, .ref kM, .ref kG, .ref kE, .ref kA, .ref kN, .ref kK, .int (iI sn), .int (iI sl)])), aI g kP 120 sP, aZ g kG 120 sG, aI g kM 120 sM, aI g kK 40 fK2_12, aI g kN 720 sN, (qL, .inr (2, [.ref lK, .ref lT, .ref lS, .ref lU])), aI g lK 4 gK2_13, aJ g lT 4 gT2_14, aJ g lS 4 gS2_15, aJ g lU 4 gU2_16, (qP, .inr (4, [.ref pL, .ref pR, .ref pD, .ref pW, .ref pN, .ref pH, .ref pT, .int (iI pn)])), aI g pL 40 fL, aI g pR 40 fR, aZ g pD 40 fD, aI g pH 4 fH]) [1, 2, 3, 4, 5, 6, 7, 8, 9, 10, 11, 12, 13, 14, 15, 16, 0] (by decide) rfl) (⟨_, _, _, _, _, f_K3, fun _ => f_tal, by unfold wTal; rw [if_pos (by omega), ← enB_cg (gJ := tK fL fD (knF sP sG sM mi sn) pn.toNat) (fun l hl => (f_tal l hl).1)]; first | rw [if_pos (by assumption)] | rw [if_neg (by assumption)], rfl⟩)
      · refine lv_iconst (v := iI 1) hx hb dX7_whyNoTally_45 rfl ?_
        exact qe_i hx hb hr hlocks hQ hS dX7_whyNoTally_46 hP hD (⟨_, _, _, _, _, h_fK, fun z => absurd z (by omega), by unfold wTal; rw [if_neg (by omega)], rfl⟩)
