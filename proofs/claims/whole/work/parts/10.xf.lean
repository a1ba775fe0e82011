def vot (sN : Nat → Int) (sh a b : Int) : Int := if b = -1 then sN (sh * 6 + a).toNat else sN (sh * 6 + a).toNat - sN (sh * 6 + b).toNat
def sIf (c : Nat → Bool) (f : Nat → Int) : Nat → Int
  | 0 => 0
  | n + 1 => sIf c f n + (if c n = true then f n else 0)
theorem sIf_s (c : Nat → Bool) (f : Nat → Int) (n : Nat) : sIf c f (n + 1) = sIf c f n + (if c n = true then f n else 0) := rfl
theorem sIf_y {c : Nat → Bool} {f : Nat → Int} {n : Nat} (h : c n = true) : sIf c f (n + 1) = sIf c f n + f n := by rw [sIf_s, if_pos h]
theorem sIf_n {c : Nat → Bool} {f : Nat → Int} {n : Nat} (h : ¬ c n = true) : sIf c f (n + 1) = sIf c f n := by rw [sIf_s, if_neg h, Int.add_zero]
def knC (fL : Nat → Int) (fD : Nat → Bool) (fK : Nat → Int) (l : Nat) : Nat → Bool := fun p => fD p && (decide (fL p = (l : Int)) && decide (¬ fK p = -1))
def unC (fL : Nat → Int) (fD : Nat → Bool) (fK : Nat → Int) (l : Nat) : Nat → Bool := fun p => fD p && (decide (fL p = (l : Int)) && decide (fK p = -1))
theorem knC_iff {fL : Nat → Int} {fD : Nat → Bool} {fK : Nat → Int} {l p : Nat} : knC fL fD fK l p = true ↔ fD p = true ∧ fL p = (l : Int) ∧ ¬ fK p = -1 := by unfold knC; simp
theorem unC_iff {fL : Nat → Int} {fD : Nat → Bool} {fK : Nat → Int} {l p : Nat} : unC fL fD fK l p = true ↔ fD p = true ∧ fL p = (l : Int) ∧ fK p = -1 := by unfold unC; simp
def tal (fL : Nat → Int) (fD : Nat → Bool) (fK fR sN : Nat → Int) (a b : Int) (gK gT gS gU : Nat → Int) (n : Nat) : Prop := ∀ l : Nat, l < 4 →
  gK l = sIf (knC fL fD fK l) (fun _ => 1) n ∧ gT l = sIf (knC fL fD fK l) (fun p => vot sN (fK p) a b) n ∧ gS l = sIf (knC fL fD fK l) (fun p => vot sN (fK p) a b * vot sN (fK p) a b) n ∧ gU l = sIf (unC fL fD fK l) fR n
theorem tal_0 {fL : Nat → Int} {fD : Nat → Bool} {fK fR sN : Nat → Int} {a b : Int} {gK gT gS gU : Nat → Int} {k : Nat} (hk : 4 ≤ k) (h1 : ∀ j, j < k → gK j = 0) (h2 : ∀ j, j < k → gT j = 0) (h3 : ∀ j, j < k → gS j = 0) (h4 : ∀ j, j < k → gU j = 0) : tal fL fD fK fR sN a b gK gT gS gU 0 := fun l hl => ⟨h1 l (by omega), h2 l (by omega), h3 l (by omega), h4 l (by omega)⟩
theorem tal_n {fL : Nat → Int} {fD : Nat → Bool} {fK fR sN : Nat → Int} {a b : Int} {gK gT gS gU : Nat → Int} {n : Nat} (h : tal fL fD fK fR sN a b gK gT gS gU n) (hd : ¬ fD n = true) : tal fL fD fK fR sN a b gK gT gS gU (n + 1) := fun l hl => by
  have h1 : ¬ knC fL fD fK l n = true := fun z => hd (knC_iff.mp z).1
  have h2 : ¬ unC fL fD fK l n = true := fun z => hd (unC_iff.mp z).1
  rw [sIf_n h1, sIf_n h1, sIf_n h1, sIf_n h2]; exact h l hl
theorem up_at {f : Nat → Int} {i j : Nat} {v : Int} : va_up f i v j = if j = i then v else f j := rfl
theorem tal_y {fL : Nat → Int} {fD : Nat → Bool} {fK fR sN : Nat → Int} {a b : Int} {gK gT gS gU : Nat → Int} {n : Nat} (h : tal fL fD fK fR sN a b gK gT gS gU n) (hd : fD n = true) (h0 : 0 ≤ fL n) : tal fL fD fK fR sN a b
    (if fK n = -1 then gK else va_up gK (fL n).toNat (gK (fL n).toNat + 1)) (if fK n = -1 then gT else va_up gT (fL n).toNat (gT (fL n).toNat + vot sN (fK n) a b))
    (if fK n = -1 then gS else va_up gS (fL n).toNat (gS (fL n).toNat + vot sN (fK n) a b * vot sN (fK n) a b)) (if fK n = -1 then va_up gU (fL n).toNat (gU (fL n).toNat + fR n) else gU) (n + 1) := fun l hl => by
  obtain ⟨q1, q2, q3, q4⟩ := h l hl
  by_cases hk : fK n = -1
  · have h1 : ¬ knC fL fD fK l n = true := fun z => (knC_iff.mp z).2.2 hk
    rw [sIf_n h1, sIf_n h1, sIf_n h1, if_pos hk, if_pos hk, if_pos hk, if_pos hk, up_at]
    refine ⟨q1, q2, q3, ?_⟩
    by_cases hl2 : fL n = (l : Int)
    · rw [sIf_y (unC_iff.mpr ⟨hd, hl2, hk⟩), if_pos (by omega), show (fL n).toNat = l by omega, q4]
    · rw [sIf_n (fun z => hl2 (unC_iff.mp z).2.1), if_neg (by omega)]; exact q4
  · have h1 : ¬ unC fL fD fK l n = true := fun z => hk (unC_iff.mp z).2.2
    rw [sIf_n h1, if_neg hk, if_neg hk, if_neg hk, if_neg hk, up_at, up_at, up_at]
    by_cases hl2 : fL n = (l : Int)
    · have h2 := knC_iff.mpr ⟨hd, hl2, hk⟩
      rw [sIf_y h2, sIf_y h2, sIf_y h2, if_pos (by omega), if_pos (by omega), if_pos (by omega), show (fL n).toNat = l by omega, q1, q2, q3]
      exact ⟨rfl, rfl, rfl, q4⟩
    · have h2 : ¬ knC fL fD fK l n = true := fun z => hl2 (knC_iff.mp z).2.1
      rw [sIf_n h2, sIf_n h2, sIf_n h2, if_neg (by omega), if_neg (by omega), if_neg (by omega)]
      exact ⟨q1, q2, q3, q4⟩
def enB (fH gK : Nat → Int) (en : Int) : Nat → Bool
  | 0 => true
  | n + 1 => enB fH gK en n && !(decide (0 < fH n) && decide (gK n < en))
theorem enB_iff (fH gK : Nat → Int) (en : Int) (n : Nat) : enB fH gK en n = true ↔ ∀ l, l < n → ¬ (0 < fH l ∧ gK l < en) := by
  induction n with
  | zero => simp [enB]
  | succ n ih =>
    unfold enB
    simp only [Bool.and_eq_true, ih, Bool.not_eq_true', Bool.and_eq_false_iff, decide_eq_false_iff_not]
    constructor
    · intro ⟨h1, h2⟩ l hl
      rcases (show l < n ∨ l = n by omega) with q | q
      · exact h1 l q
      · subst q; omega
    · intro h
      refine ⟨fun l hl => h l (by omega), ?_⟩
      have := h n (by omega)
      omega
-- sums of fractions, by layers
def addF (x : Int × Int) (t b : Int) : Int × Int := (redN (addN x.1 x.2 t b) (addD x.2 b), redD (addN x.1 x.2 t b) (addD x.2 b))
def addOk (x : Int × Int) (t b : Int) : Prop := (0 < x.2 ∧ x.2 ≤ 9223372036854775807) ∧ (0 < b ∧ b ≤ 9223372036854775807) ∧ (-9223372036854775808 < addN x.1 x.2 t b ∧ addN x.1 x.2 t b ≤ 9223372036854775807) ∧ (0 < addD x.2 b ∧ addD x.2 b ≤ 9223372036854775807)
def foldF (c : Nat → Bool) (t b : Nat → Int) : Nat → Int × Int
  | 0 => (0, 1)
  | n + 1 => if c n = true then addF (foldF c t b n) (t n) (b n) else foldF c t b n
theorem foldF_y {c : Nat → Bool} {t b : Nat → Int} {n : Nat} {x y : Int} (h : c n = true) (e : foldF c t b n = (x, y)) : foldF c t b (n + 1) = (redN (addN x y (t n) (b n)) (addD y (b n)), redD (addN x y (t n) (b n)) (addD y (b n))) := by
  show (if c n = true then addF (foldF c t b n) (t n) (b n) else foldF c t b n) = _
  rw [if_pos h, e]; rfl
theorem foldF_n {c : Nat → Bool} {t b : Nat → Int} {n : Nat} (h : ¬ c n = true) : foldF c t b (n + 1) = foldF c t b n := if_neg h
def foldOk (c : Nat → Bool) (t b : Nat → Int) : Prop := ∀ k, k < 4 → c k = true → addOk (foldF c t b k) (t k) (b k)
def sumC (fH gK : Nat → Int) (m : Int) : Nat → Bool := fun l => decide (0 < fH l) && decide (m < gK l)
theorem sumC_y {fH gK : Nat → Int} {m : Int} {l : Nat} (h : 0 < fH l) (h2 : m < gK l) : sumC fH gK m l = true := by unfold sumC; simp [h, h2]
theorem sumC_n {fH gK : Nat → Int} {m : Int} {l : Nat} (h : ¬ (0 < fH l ∧ m < gK l)) : ¬ sumC fH gK m l = true := by unfold sumC; simpa using h
def sumT (fH gT : Nat → Int) : Nat → Int := fun l => fH l * gT l
def douT (fH gK gT gS : Nat → Int) : Nat → Int := fun l => fH l * (fH l - gK l) * (gK l * gS l - gT l * gT l)
def douB (gK : Nat → Int) : Nat → Int := fun l => gK l * gK l * (gK l - 1)
def worC (fH : Nat → Int) : Nat → Bool := fun l => decide (0 < fH l)
def worT (fH gT gU : Nat → Int) (hi : Bool) : Nat → Int := fun l => fH l * (gT l + (if hi = true then gU l else 0))
theorem iI_lt0 {z : Int} (h : -2147483648 ≤ z ∧ z ≤ 2147483647) : iI z < 0 ↔ z < 0 := iI_lt (b := 0) h.1 h.2 (by decide) (by decide)
theorem jA_cpy (F G : Nat → Int) (a b n : Nat) : va_cpy (jA F) (jA G) a b n = jA (va_cpy F G a b n) := by
  funext j; unfold va_cpy; simp only [jA]; split <;> rfl

set_option maxHeartbeats 4000000 in
set_option maxRecDepth 100000 in
theorem kX2_tallyPoll (l : Launch) (g : qG) (qL : Nat) (lK : Nat) (lT : Nat) (lS : Nat) (lU : Nat) (qP : Nat) (pL : Nat) (pR : Nat) (pD : Nat) (pW : Nat) (pN : Nat) (pH : Nat) (pT : Nat) (qS : Nat) (kP : Nat) (kM : Nat) (kG : Nat) (kE : Nat) (kA : Nat) (kN : Nat) (kK : Nat) (gK : Nat → Int) (gT : Nat → Int) (gS : Nat → Int) (gU : Nat → Int) (fL : Nat → Int) (fR : Nat → Int) (sN : Nat → Int) (fK : Nat → Int) (pn : Int) (sn : Int) (sl : Int) (po : Int) (a : Int) (b : Int) (h_po : 0 ≤ po ∧ po ≤ 39) (h_a : 0 ≤ a ∧ a ≤ 3) (h_b : -1 ≤ b ∧ b ≤ 3) (h_fL : ∀ k, 0 ≤ fL k ∧ fL k ≤ 3) (h_fR : ∀ k, 0 ≤ fR k ∧ fR k ≤ 2000) (h_sN : ∀ k, 0 ≤ sN k ∧ sN k ≤ 9999) (h_fK : ∀ k, -1 ≤ fK k ∧ fK k ≤ 119) : ME l g yX2_tallyPoll wsX2_tallyPoll ({ frames := 1, cells := 0, slots := 0, locals := 22 }) [.ref qL, .ref qP, .int (iI po), .ref qS, .int (iI a), .int (iI b)] [(qL, .inr (2, [.ref lK, .ref lT, .ref lS, .ref lU])), aI g lK 4 gK, aJ g lT 4 gT, aJ g lS 4 gS, aJ g lU 4 gU, (qP, .inr (4, [.ref pL, .ref pR, .ref pD, .ref pW, .ref pN, .ref pH, .ref pT, .int (iI pn)])), aI g pL 40 fL, aI g pR 40 fR, (qS, .inr (5, [.ref kP, .ref kM, .ref kG, .ref kE, .ref kA, .ref kN, .ref kK, .int (iI sn), .int (iI sl)])), aI g kN 720 sN, aI g kK 40 fK] (fun r w1 => r = none ∧ w1 = [(qL, .inr (2, [.ref lK, .ref lT, .ref lS, .ref lU])), aI g lK 4 (if fK po.toNat = -1 then gK else va_up gK (fL po.toNat).toNat (gK (fL po.toNat).toNat + 1)), aJ g lT 4 (if fK po.toNat = -1 then gT else va_up gT (fL po.toNat).toNat (gT (fL po.toNat).toNat + vot sN (fK po.toNat) a b)), aJ g lS 4 (if fK po.toNat = -1 then gS else va_up gS (fL po.toNat).toNat (gS (fL po.toNat).toNat + vot sN (fK po.toNat) a b * vot sN (fK po.toNat) a b)), aJ g lU 4 (if fK po.toNat = -1 then va_up gU (fL po.toNat).toNat (gU (fL po.toNat).toNat + fR po.toNat) else gU), (qP, .inr (4, [.ref pL, .ref pR, .ref pD, .ref pW, .ref pN, .ref pH, .ref pT, .int (iI pn)])), aI g pL 40 fL, aI g pR 40 fR, (qS, .inr (5, [.ref kP, .ref kM, .ref kG, .ref kE, .ref kA, .ref kN, .ref kK, .int (iI sn), .int (iI sl)])), aI g kN 720 sN, aI g kK 40 fK]) := by
  refine ME.intro (cc := cX2_tallyPoll) (maxL := 10) (ret := none) (by decide) rfl (Nat.le_of_ble_eq_true rfl) ?_
  intro p e s m below meth c ls Q A H locs ⟨hx, hb, hr, hml, hown, hts, hlocks⟩ hP hE hl hD hA hS hQ
  have hl : lv_has ls 10 [(0, .ref qL), (1, .ref qP), (2, .int (iI po)), (3, .ref qS), (4, .int (iI a)), (5, .int (iI b))] := hl
  have iwX2 : ∀ w ∈ wsX20, w ∈ wsX2_tallyPoll := (fun _ h => List.mem_cons_of_mem _ (List.mem_append_right _ h))
  have iwX4 : ∀ w ∈ wsX40, w ∈ wsX2_tallyPoll := (fun _ h => List.mem_cons_of_mem _ (List.mem_append_left _ (List.mem_append_left _ (List.mem_append_right _ h))))
  have iwX5 : ∀ w ∈ wsX50, w ∈ wsX2_tallyPoll := (fun _ h => List.mem_cons_of_mem _ (List.mem_append_left _ (List.mem_append_right _ h)))
  refine lv_aload_n hx hb dX2_tallyPoll_0 rfl (lv_at hl 1 rfl) ?_
  refine va_getN (D := g.1) (ci := 4) (v := .ref pL) (C := RX4) (T := TX4) (N := 8) hx hb hts iwX4 hown hE.1 hP 5 rfl rfl 0 (by decide) (va_Nw.use (w := .fieldLinkNest "QuickCount$Land" 39 "QuickCount$PollBook" "layers" "[I" "QuickCount") rfl (hE.2 _ (List.mem_of_getElem? (i := 46) rfl))) (fun _ h9 => h9) rfl dX2_tallyPoll_1 ?_
  refine lv_iload_n hx hb dX2_tallyPoll_4 rfl (lv_at hl 2 rfl) ?_
  refine q_iald hx hb hE hP 6 rfl ((po).toNat) (by omega) (by decide) dX2_tallyPoll_5 ?_
  have rg_1 := h_fL ((po).toNat)
  refine lv_istore (lv' := [(6, .int (iI (fL ((po).toNat)))), (0, .ref qL), (1, .ref qP), (2, .int (iI po)), (3, .ref qS), (4, .int (iI a)), (5, .int (iI b))]) hx hb dX2_tallyPoll_6 hl (by decide) rfl (fun ls hl => ?_)
  refine lv_aload_n hx hb dX2_tallyPoll_8 rfl (lv_at hl 4 rfl) ?_
  refine va_getN (D := g.1) (ci := 5) (v := .ref kK) (C := RX5) (T := TX5) (N := 9) hx hb hts iwX5 hown hE.1 hP 8 rfl rfl 6 (by decide) (va_Nw.use (w := .fieldLinkNest "QuickCount$Land" 42 "QuickCount$SheetBook" "knownOf" "[I" "QuickCount") rfl (hE.2 _ (List.mem_of_getElem? (i := 62) rfl))) (fun _ h9 => h9) rfl dX2_tallyPoll_9 ?_
  refine lv_iload_n hx hb dX2_tallyPoll_12 rfl (lv_at hl 3 rfl) ?_
  refine q_iald hx hb hE hP 10 rfl ((po).toNat) (by omega) (by decide) dX2_tallyPoll_13 ?_
  have rg_2 := h_fK ((po).toNat)
  refine lv_istore (lv' := [(7, .int (iI (fK ((po).toNat)))), (6, .int (iI (fL ((po).toNat)))), (0, .ref qL), (1, .ref qP), (2, .int (iI po)), (3, .ref qS), (4, .int (iI a)), (5, .int (iI b))]) hx hb dX2_tallyPoll_14 hl (by decide) rfl (fun ls hl => ?_)
  refine lv_iload hx hb dX2_tallyPoll_16 (lv_at hl 0 rfl) ?_
  refine lv_iconst (v := iI (-1)) hx hb dX2_tallyPoll_18 rfl ?_
  refine q_icmp_ne (tgt := 40) hx hb dX2_tallyPoll_19 (by decide) (by omega) (fun c_3 => ?_) (fun c_3 => ?_)
  · refine lv_aload_n hx hb dX2_tallyPoll_40 rfl (lv_at hl 5 rfl) ?_
    refine lv_iload hx hb dX2_tallyPoll_41 (lv_at hl 0 rfl) ?_
    refine lv_iload hx hb dX2_tallyPoll_43 (lv_at hl 6 rfl) ?_
    refine q_read (rest := []) (q_runRVN (As := [.int (iI (fK ((po).toNat))), .int (iI a)]) ⟨hx, hb, hml, hown, hts⟩ (kX5_numberOf l g qS kP kM kG kE kA kN kK sN sn sl (fK ((po).toNat)) a (by omega) (by omega)) ⟨va_cnB 2 hts ggX2_tallyPoll_X5_numberOf rfl rfl rfl (hE.2 (.methodLinkNest "QuickCount$Land" 50 yX5_numberOf "QuickCount") (List.mem_of_getElem? (i := 30) rfl)) (hts (.initialized RX5) (List.mem_cons_of_mem _ (List.mem_append_left _ (List.mem_append_left _ (List.mem_append_left _ (List.mem_of_getElem? (i := 5) rfl)))))) (by decide +kernel) ⟨Nat.le_of_ble_eq_true rfl, Nat.le_of_ble_eq_true rfl⟩, (hts (.instanceMethod yX5_numberOf) (List.mem_cons_of_mem _ (List.mem_append_left _ (List.mem_append_left _ (List.mem_append_left _ (List.mem_of_getElem? (i := 4) rfl)))))), (hts (.selects RX5 yX5_numberOf yX5_numberOf) (List.mem_cons_of_mem _ (List.mem_append_left _ (List.mem_append_left _ (List.mem_append_left _ (List.mem_of_getElem? (i := 6) rfl))))))⟩ (va_recv hE.1 hP (ci := 5) (q0 := 8) rfl rfl) hE (hP.sub (ws' := [(qS, .inr (5, [.ref kP, .ref kM, .ref kG, .ref kE, .ref kA, .ref kN, .ref kK, .int (iI sn), .int (iI sl)])), aI g kN 720 sN]) [8, 9] rfl) rfl hl.1 (Nat.le_of_ble_eq_true rfl) dX2_tallyPoll_45 ⟨Nat.zero_le _, Nat.zero_le _⟩) (fun r_ hq_4 => ?_)
    obtain rfl := hq_4
    refine W.eq (g2 := F0 m 48 ls [.int (iI (sN ((fK ((po).toNat)) * 6 + a).toNat))]) rfl ?_
    have rv_1 := h_sN (fK po.toNat * 6 + a).toNat
    refine q_i2l hx hb dX2_tallyPoll_48 (by omega) ?_
    refine lv_lstore (lv' := [(8, .long (jI (sN ((fK ((po).toNat)) * 6 + a).toNat))), (7, .int (iI (fK ((po).toNat)))), (6, .int (iI (fL ((po).toNat)))), (0, .ref qL), (1, .ref qP), (2, .int (iI po)), (3, .ref qS), (4, .int (iI a)), (5, .int (iI b))]) hx hb dX2_tallyPoll_49 hl (by decide) rfl (fun ls hl => ?_)
    refine lv_iload hx hb dX2_tallyPoll_51 (lv_at hl 8 rfl) ?_
    refine lv_iconst (v := iI (-1)) hx hb dX2_tallyPoll_53 rfl ?_
    refine q_icmp_eq (tgt := 71) hx hb dX2_tallyPoll_54 (by decide) (by omega) (fun c_5 => ?_) (fun c_5 => ?_)
    · refine lv_aload_n hx hb dX2_tallyPoll_71 rfl (lv_at hl 3 rfl) ?_
      refine va_get (D := g.1) (ci := 2) (v := .ref lK) (C := RX2) (T := TX2) (N := 4) hx hb hts iwX2 hown hE.1 hP 0 rfl rfl 0 (by decide) (hts (.fieldLink RX2 9 "QuickCount$Land" "knownMany" "[I") (List.mem_cons_of_mem _ (List.mem_append_left _ (List.mem_append_left _ (List.mem_append_left _ (List.mem_of_getElem? (i := 1) rfl)))))) (fun _ h9 => h9) rfl dX2_tallyPoll_72 ?_
      refine lv_iload hx hb dX2_tallyPoll_75 (lv_at hl 2 rfl) ?_
      refine lv_dup2_11 hx hb dX2_tallyPoll_77 rfl rfl ?_
      refine q_iald hx hb hE hP 1 rfl ((fL ((po).toNat)).toNat) (by omega) (by decide) dX2_tallyPoll_78 ?_
      refine lv_iconst (v := iI 1) hx hb dX2_tallyPoll_79 rfl ?_
      refine q_iadd hx hb dX2_tallyPoll_80 ?_
      refine q_iast hx hb hE hP hD hS 1 rfl ((fL ((po).toNat)).toNat) (by omega) (by decide) dX2_tallyPoll_81 (fun H locs hP hD hS => ?_)
      have hP : va_P g.1 vwCl [(qL, .inr (2, [.ref lK, .ref lT, .ref lS, .ref lU])), aI g lK 4 (va_up gK ((fL ((po).toNat)).toNat) ((gK ((fL ((po).toNat)).toNat)) + 1)), aJ g lT 4 gT, aJ g lS 4 gS, aJ g lU 4 gU, (qP, .inr (4, [.ref pL, .ref pR, .ref pD, .ref pW, .ref pN, .ref pH, .ref pT, .int (iI pn)])), aI g pL 40 fL, aI g pR 40 fR, (qS, .inr (5, [.ref kP, .ref kM, .ref kG, .ref kE, .ref kA, .ref kN, .ref kK, .int (iI sn), .int (iI sl)])), aI g kN 720 sN, aI g kK 40 fK] H := hP
      have hD : va_D A [(qL, .inr (2, [.ref lK, .ref lT, .ref lS, .ref lU])), aI g lK 4 (va_up gK ((fL ((po).toNat)).toNat) ((gK ((fL ((po).toNat)).toNat)) + 1)), aJ g lT 4 gT, aJ g lS 4 gS, aJ g lU 4 gU, (qP, .inr (4, [.ref pL, .ref pR, .ref pD, .ref pW, .ref pN, .ref pH, .ref pT, .int (iI pn)])), aI g pL 40 fL, aI g pR 40 fR, (qS, .inr (5, [.ref kP, .ref kM, .ref kG, .ref kE, .ref kA, .ref kN, .ref kK, .int (iI sn), .int (iI sl)])), aI g kN 720 sN, aI g kK 40 fK] := hD
      refine lv_aload_n hx hb dX2_tallyPoll_82 rfl (lv_at hl 3 rfl) ?_
      refine va_get (D := g.1) (ci := 2) (v := .ref lT) (C := RX2) (T := TX2) (N := 4) hx hb hts iwX2 hown hE.1 hP 0 rfl rfl 1 (by decide) (hts (.fieldLink RX2 15 "QuickCount$Land" "together" "[J") (List.mem_cons_of_mem _ (List.mem_append_left _ (List.mem_append_left _ (List.mem_append_left _ (List.mem_of_getElem? (i := 2) rfl)))))) (fun _ h9 => h9) rfl dX2_tallyPoll_83 ?_
      refine lv_iload hx hb dX2_tallyPoll_86 (lv_at hl 2 rfl) ?_
      refine lv_dup2_11 hx hb dX2_tallyPoll_88 rfl rfl ?_
      refine q_lald hx hb hE hP 2 rfl ((fL ((po).toNat)).toNat) (by omega) (by decide) dX2_tallyPoll_89 ?_
      refine lv_lload hx hb dX2_tallyPoll_90 (lv_at hl 0 rfl) ?_
      refine q_ladd hx hb dX2_tallyPoll_92 ?_
      refine q_last hx hb hE hP hD hS 2 rfl ((fL ((po).toNat)).toNat) (by omega) (by decide) dX2_tallyPoll_93 (fun H locs hP hD hS => ?_)
      have hP : va_P g.1 vwCl [(qL, .inr (2, [.ref lK, .ref lT, .ref lS, .ref lU])), aI g lK 4 (va_up gK ((fL ((po).toNat)).toNat) ((gK ((fL ((po).toNat)).toNat)) + 1)), aJ g lT 4 (va_up gT ((fL ((po).toNat)).toNat) ((gT ((fL ((po).toNat)).toNat)) + (sN ((fK ((po).toNat)) * 6 + a).toNat))), aJ g lS 4 gS, aJ g lU 4 gU, (qP, .inr (4, [.ref pL, .ref pR, .ref pD, .ref pW, .ref pN, .ref pH, .ref pT, .int (iI pn)])), aI g pL 40 fL, aI g pR 40 fR, (qS, .inr (5, [.ref kP, .ref kM, .ref kG, .ref kE, .ref kA, .ref kN, .ref kK, .int (iI sn), .int (iI sl)])), aI g kN 720 sN, aI g kK 40 fK] H := hP
      have hD : va_D A [(qL, .inr (2, [.ref lK, .ref lT, .ref lS, .ref lU])), aI g lK 4 (va_up gK ((fL ((po).toNat)).toNat) ((gK ((fL ((po).toNat)).toNat)) + 1)), aJ g lT 4 (va_up gT ((fL ((po).toNat)).toNat) ((gT ((fL ((po).toNat)).toNat)) + (sN ((fK ((po).toNat)) * 6 + a).toNat))), aJ g lS 4 gS, aJ g lU 4 gU, (qP, .inr (4, [.ref pL, .ref pR, .ref pD, .ref pW, .ref pN, .ref pH, .ref pT, .int (iI pn)])), aI g pL 40 fL, aI g pR 40 fR, (qS, .inr (5, [.ref kP, .ref kM, .ref kG, .ref kE, .ref kA, .ref kN, .ref kK, .int (iI sn), .int (iI sl)])), aI g kN 720 sN, aI g kK 40 fK] := hD
      refine lv_aload_n hx hb dX2_tallyPoll_94 rfl (lv_at hl 3 rfl) ?_
      refine va_get (D := g.1) (ci := 2) (v := .ref lS) (C := RX2) (T := TX2) (N := 4) hx hb hts iwX2 hown hE.1 hP 0 rfl rfl 2 (by decide) (hts (.fieldLink RX2 19 "QuickCount$Land" "squares" "[J") (List.mem_cons_of_mem _ (List.mem_append_left _ (List.mem_append_left _ (List.mem_append_left _ (List.mem_of_getElem? (i := 3) rfl)))))) (fun _ h9 => h9) rfl dX2_tallyPoll_95 ?_
      refine lv_iload hx hb dX2_tallyPoll_98 (lv_at hl 2 rfl) ?_
      refine lv_dup2_11 hx hb dX2_tallyPoll_100 rfl rfl ?_
      refine q_lald hx hb hE hP 3 rfl ((fL ((po).toNat)).toNat) (by omega) (by decide) dX2_tallyPoll_101 ?_
      refine lv_lload hx hb dX2_tallyPoll_102 (lv_at hl 0 rfl) ?_
      refine lv_lload hx hb dX2_tallyPoll_104 (lv_at hl 0 rfl) ?_
      refine q_lmul hx hb dX2_tallyPoll_106 ?_
      refine q_ladd hx hb dX2_tallyPoll_107 ?_
      refine q_last hx hb hE hP hD hS 3 rfl ((fL ((po).toNat)).toNat) (by omega) (by decide) dX2_tallyPoll_108 (fun H locs hP hD hS => ?_)
      have hP : va_P g.1 vwCl [(qL, .inr (2, [.ref lK, .ref lT, .ref lS, .ref lU])), aI g lK 4 (va_up gK ((fL ((po).toNat)).toNat) ((gK ((fL ((po).toNat)).toNat)) + 1)), aJ g lT 4 (va_up gT ((fL ((po).toNat)).toNat) ((gT ((fL ((po).toNat)).toNat)) + (sN ((fK ((po).toNat)) * 6 + a).toNat))), aJ g lS 4 (va_up gS ((fL ((po).toNat)).toNat) ((gS ((fL ((po).toNat)).toNat)) + ((sN ((fK ((po).toNat)) * 6 + a).toNat) * (sN ((fK ((po).toNat)) * 6 + a).toNat)))), aJ g lU 4 gU, (qP, .inr (4, [.ref pL, .ref pR, .ref pD, .ref pW, .ref pN, .ref pH, .ref pT, .int (iI pn)])), aI g pL 40 fL, aI g pR 40 fR, (qS, .inr (5, [.ref kP, .ref kM, .ref kG, .ref kE, .ref kA, .ref kN, .ref kK, .int (iI sn), .int (iI sl)])), aI g kN 720 sN, aI g kK 40 fK] H := hP
      have hD : va_D A [(qL, .inr (2, [.ref lK, .ref lT, .ref lS, .ref lU])), aI g lK 4 (va_up gK ((fL ((po).toNat)).toNat) ((gK ((fL ((po).toNat)).toNat)) + 1)), aJ g lT 4 (va_up gT ((fL ((po).toNat)).toNat) ((gT ((fL ((po).toNat)).toNat)) + (sN ((fK ((po).toNat)) * 6 + a).toNat))), aJ g lS 4 (va_up gS ((fL ((po).toNat)).toNat) ((gS ((fL ((po).toNat)).toNat)) + ((sN ((fK ((po).toNat)) * 6 + a).toNat) * (sN ((fK ((po).toNat)) * 6 + a).toNat)))), aJ g lU 4 gU, (qP, .inr (4, [.ref pL, .ref pR, .ref pD, .ref pW, .ref pN, .ref pH, .ref pT, .int (iI pn)])), aI g pL 40 fL, aI g pR 40 fR, (qS, .inr (5, [.ref kP, .ref kM, .ref kG, .ref kE, .ref kA, .ref kN, .ref kK, .int (iI sn), .int (iI sl)])), aI g kN 720 sN, aI g kK 40 fK] := hD
      exact qe_v hx hb hr hlocks hQ hS dX2_tallyPoll_109 hP hD (⟨rfl, by first | simp only [if_neg (show ¬ fK po.toNat = -1 by assumption), vot, if_pos (show b = -1 by assumption)] | simp only [if_neg (show ¬ fK po.toNat = -1 by assumption), vot, if_neg (show ¬ b = -1 by assumption)]⟩)
    · refine lv_lload hx hb dX2_tallyPoll_57 (lv_at hl 0 rfl) ?_
      refine lv_aload_n hx hb dX2_tallyPoll_59 rfl (lv_at hl 6 rfl) ?_
      refine lv_iload hx hb dX2_tallyPoll_60 (lv_at hl 1 rfl) ?_
      refine lv_iload hx hb dX2_tallyPoll_62 (lv_at hl 8 rfl) ?_
      refine q_read (rest := [.long (jI (sN ((fK ((po).toNat)) * 6 + a).toNat))]) (q_runRVN (As := [.int (iI (fK ((po).toNat))), .int (iI b)]) ⟨hx, hb, hml, hown, hts⟩ (kX5_numberOf l g qS kP kM kG kE kA kN kK sN sn sl (fK ((po).toNat)) b (by omega) (by omega)) ⟨va_cnB 2 hts ggX2_tallyPoll_X5_numberOf rfl rfl rfl (hE.2 (.methodLinkNest "QuickCount$Land" 50 yX5_numberOf "QuickCount") (List.mem_of_getElem? (i := 30) rfl)) (hts (.initialized RX5) (List.mem_cons_of_mem _ (List.mem_append_left _ (List.mem_append_left _ (List.mem_append_left _ (List.mem_of_getElem? (i := 5) rfl)))))) (by decide +kernel) ⟨Nat.le_of_ble_eq_true rfl, Nat.le_of_ble_eq_true rfl⟩, (hts (.instanceMethod yX5_numberOf) (List.mem_cons_of_mem _ (List.mem_append_left _ (List.mem_append_left _ (List.mem_append_left _ (List.mem_of_getElem? (i := 4) rfl)))))), (hts (.selects RX5 yX5_numberOf yX5_numberOf) (List.mem_cons_of_mem _ (List.mem_append_left _ (List.mem_append_left _ (List.mem_append_left _ (List.mem_of_getElem? (i := 6) rfl))))))⟩ (va_recv hE.1 hP (ci := 5) (q0 := 8) rfl rfl) hE (hP.sub (ws' := [(qS, .inr (5, [.ref kP, .ref kM, .ref kG, .ref kE, .ref kA, .ref kN, .ref kK, .int (iI sn), .int (iI sl)])), aI g kN 720 sN]) [8, 9] rfl) rfl hl.1 (Nat.le_of_ble_eq_true rfl) dX2_tallyPoll_64 ⟨Nat.zero_le _, Nat.zero_le _⟩) (fun r_ hq_6 => ?_)
      obtain rfl := hq_6
      refine W.eq (g2 := F0 m 67 ls [.int (iI (sN ((fK ((po).toNat)) * 6 + b).toNat)), .long (jI (sN ((fK ((po).toNat)) * 6 + a).toNat))]) rfl ?_
      have rv_2 := h_sN (fK po.toNat * 6 + b).toNat
      refine q_i2l hx hb dX2_tallyPoll_67 (by omega) ?_
      refine q_lsub hx hb dX2_tallyPoll_68 ?_
      refine lv_lstore (lv' := [(8, .long (jI ((sN ((fK ((po).toNat)) * 6 + a).toNat) - (sN ((fK ((po).toNat)) * 6 + b).toNat)))), (7, .int (iI (fK ((po).toNat)))), (6, .int (iI (fL ((po).toNat)))), (0, .ref qL), (1, .ref qP), (2, .int (iI po)), (3, .ref qS), (4, .int (iI a)), (5, .int (iI b))]) hx hb dX2_tallyPoll_69 hl (by decide) rfl (fun ls hl => ?_)
      refine lv_aload_n hx hb dX2_tallyPoll_71 rfl (lv_at hl 3 rfl) ?_
      refine va_get (D := g.1) (ci := 2) (v := .ref lK) (C := RX2) (T := TX2) (N := 4) hx hb hts iwX2 hown hE.1 hP 0 rfl rfl 0 (by decide) (hts (.fieldLink RX2 9 "QuickCount$Land" "knownMany" "[I") (List.mem_cons_of_mem _ (List.mem_append_left _ (List.mem_append_left _ (List.mem_append_left _ (List.mem_of_getElem? (i := 1) rfl)))))) (fun _ h9 => h9) rfl dX2_tallyPoll_72 ?_
      refine lv_iload hx hb dX2_tallyPoll_75 (lv_at hl 2 rfl) ?_
      refine lv_dup2_11 hx hb dX2_tallyPoll_77 rfl rfl ?_
      refine q_iald hx hb hE hP 1 rfl ((fL ((po).toNat)).toNat) (by omega) (by decide) dX2_tallyPoll_78 ?_
      refine lv_iconst (v := iI 1) hx hb dX2_tallyPoll_79 rfl ?_
      refine q_iadd hx hb dX2_tallyPoll_80 ?_
      refine q_iast hx hb hE hP hD hS 1 rfl ((fL ((po).toNat)).toNat) (by omega) (by decide) dX2_tallyPoll_81 (fun H locs hP hD hS => ?_)
      have hP : va_P g.1 vwCl [(qL, .inr (2, [.ref lK, .ref lT, .ref lS, .ref lU])), aI g lK 4 (va_up gK ((fL ((po).toNat)).toNat) ((gK ((fL ((po).toNat)).toNat)) + 1)), aJ g lT 4 gT, aJ g lS 4 gS, aJ g lU 4 gU, (qP, .inr (4, [.ref pL, .ref pR, .ref pD, .ref pW, .ref pN, .ref pH, .ref pT, .int (iI pn)])), aI g pL 40 fL, aI g pR 40 fR, (qS, .inr (5, [.ref kP, .ref kM, .ref kG, .ref kE, .ref kA, .ref kN, .ref kK, .int (iI sn), .int (iI sl)])), aI g kN 720 sN, aI g kK 40 fK] H := hP
      have hD : va_D A [(qL, .inr (2, [.ref lK, .ref lT, .ref lS, .ref lU])), aI g lK 4 (va_up gK ((fL ((po).toNat)).toNat) ((gK ((fL ((po).toNat)).toNat)) + 1)), aJ g lT 4 gT, aJ g lS 4 gS, aJ g lU 4 gU, (qP, .inr (4, [.ref pL, .ref pR, .ref pD, .ref pW, .ref pN, .ref pH, .ref pT, .int (iI pn)])), aI g pL 40 fL, aI g pR 40 fR, (qS, .inr (5, [.ref kP, .ref kM, .ref kG, .ref kE, .ref kA, .ref kN, .ref kK, .int (iI sn), .int (iI sl)])), aI g kN 720 sN, aI g kK 40 fK] := hD
      refine lv_aload_n hx hb dX2_tallyPoll_82 rfl (lv_at hl 3 rfl) ?_
      refine va_get (D := g.1) (ci := 2) (v := .ref lT) (C := RX2) (T := TX2) (N := 4) hx hb hts iwX2 hown hE.1 hP 0 rfl rfl 1 (by decide) (hts (.fieldLink RX2 15 "QuickCount$Land" "together" "[J") (List.mem_cons_of_mem _ (List.mem_append_left _ (List.mem_append_left _ (List.mem_append_left _ (List.mem_of_getElem? (i := 2) rfl)))))) (fun _ h9 => h9) rfl dX2_tallyPoll_83 ?_
      refine lv_iload hx hb dX2_tallyPoll_86 (lv_at hl 2 rfl) ?_
      refine lv_dup2_11 hx hb dX2_tallyPoll_88 rfl rfl ?_
      refine q_lald hx hb hE hP 2 rfl ((fL ((po).toNat)).toNat) (by omega) (by decide) dX2_tallyPoll_89 ?_
      refine lv_lload hx hb dX2_tallyPoll_90 (lv_at hl 0 rfl) ?_
      refine q_ladd hx hb dX2_tallyPoll_92 ?_
      refine q_last hx hb hE hP hD hS 2 rfl ((fL ((po).toNat)).toNat) (by omega) (by decide) dX2_tallyPoll_93 (fun H locs hP hD hS => ?_)
      have hP : va_P g.1 vwCl [(qL, .inr (2, [.ref lK, .ref lT, .ref lS, .ref lU])), aI g lK 4 (va_up gK ((fL ((po).toNat)).toNat) ((gK ((fL ((po).toNat)).toNat)) + 1)), aJ g lT 4 (va_up gT ((fL ((po).toNat)).toNat) ((gT ((fL ((po).toNat)).toNat)) + ((sN ((fK ((po).toNat)) * 6 + a).toNat) - (sN ((fK ((po).toNat)) * 6 + b).toNat)))), aJ g lS 4 gS, aJ g lU 4 gU, (qP, .inr (4, [.ref pL, .ref pR, .ref pD, .ref pW, .ref pN, .ref pH, .ref pT, .int (iI pn)])), aI g pL 40 fL, aI g pR 40 fR, (qS, .inr (5, [.ref kP, .ref kM, .ref kG, .ref kE, .ref kA, .ref kN, .ref kK, .int (iI sn), .int (iI sl)])), aI g kN 720 sN, aI g kK 40 fK] H := hP
      have hD : va_D A [(qL, .inr (2, [.ref lK, .ref lT, .ref lS, .ref lU])), aI g lK 4 (va_up gK ((fL ((po).toNat)).toNat) ((gK ((fL ((po).toNat)).toNat)) + 1)), aJ g lT 4 (va_up gT ((fL ((po).toNat)).toNat) ((gT ((fL ((po).toNat)).toNat)) + ((sN ((fK ((po).toNat)) * 6 + a).toNat) - (sN ((fK ((po).toNat)) * 6 + b).toNat)))), aJ g lS 4 gS, aJ g lU 4 gU, (qP, .inr (4, [.ref pL, .ref pR, .ref pD, .ref pW, .ref pN, .ref pH, .ref pT, .int (iI pn)])), aI g pL 40 fL, aI g pR 40 fR, (qS, .inr (5, [.ref kP, .ref kM, .ref kG, .ref kE, .ref kA, .ref kN, .ref kK, .int (iI sn), .int (iI sl)])), aI g kN 720 sN, aI g kK 40 fK] := hD
      refine lv_aload_n hx hb dX2_tallyPoll_94 rfl (lv_at hl 3 rfl) ?_
      refine va_get (D := g.1) (ci := 2) (v := .ref lS) (C := RX2) (T := TX2) (N := 4) hx hb hts iwX2 hown hE.1 hP 0 rfl rfl 2 (by decide) (hts (.fieldLink RX2 19 "QuickCount$Land" "squares" "[J") (List.mem_cons_of_mem _ (List.mem_append_left _ (List.mem_append_left _ (List.mem_append_left _ (List.mem_of_getElem? (i := 3) rfl)))))) (fun _ h9 => h9) rfl dX2_tallyPoll_95 ?_
      refine lv_iload hx hb dX2_tallyPoll_98 (lv_at hl 2 rfl) ?_
      refine lv_dup2_11 hx hb dX2_tallyPoll_100 rfl rfl ?_
      refine q_lald hx hb hE hP 3 rfl ((fL ((po).toNat)).toNat) (by omega) (by decide) dX2_tallyPoll_101 ?_
      refine lv_lload hx hb dX2_tallyPoll_102 (lv_at hl 0 rfl) ?_
      refine lv_lload hx hb dX2_tallyPoll_104 (lv_at hl 0 rfl) ?_
      refine q_lmul hx hb dX2_tallyPoll_106 ?_
      refine q_ladd hx hb dX2_tallyPoll_107 ?_
      refine q_last hx hb hE hP hD hS 3 rfl ((fL ((po).toNat)).toNat) (by omega) (by decide) dX2_tallyPoll_108 (fun H locs hP hD hS => ?_)
      have hP : va_P g.1 vwCl [(qL, .inr (2, [.ref lK, .ref lT, .ref lS, .ref lU])), aI g lK 4 (va_up gK ((fL ((po).toNat)).toNat) ((gK ((fL ((po).toNat)).toNat)) + 1)), aJ g lT 4 (va_up gT ((fL ((po).toNat)).toNat) ((gT ((fL ((po).toNat)).toNat)) + ((sN ((fK ((po).toNat)) * 6 + a).toNat) - (sN ((fK ((po).toNat)) * 6 + b).toNat)))), aJ g lS 4 (va_up gS ((fL ((po).toNat)).toNat) ((gS ((fL ((po).toNat)).toNat)) + (((sN ((fK ((po).toNat)) * 6 + a).toNat) - (sN ((fK ((po).toNat)) * 6 + b).toNat)) * ((sN ((fK ((po).toNat)) * 6 + a).toNat) - (sN ((fK ((po).toNat)) * 6 + b).toNat))))), aJ g lU 4 gU, (qP, .inr (4, [.ref pL, .ref pR, .ref pD, .ref pW, .ref pN, .ref pH, .ref pT, .int (iI pn)])), aI g pL 40 fL, aI g pR 40 fR, (qS, .inr (5, [.ref kP, .ref kM, .ref kG, .ref kE, .ref kA, .ref kN, .ref kK, .int (iI sn), .int (iI sl)])), aI g kN 720 sN, aI g kK 40 fK] H := hP
      have hD : va_D A [(qL, .inr (2, [.ref lK, .ref lT, .ref lS, .ref lU])), aI g lK 4 (va_up gK ((fL ((po).toNat)).toNat) ((gK ((fL ((po).toNat)).toNat)) + 1)), aJ g lT 4 (va_up gT ((fL ((po).toNat)).toNat) ((gT ((fL ((po).toNat)).toNat)) + ((sN ((fK ((po).toNat)) * 6 + a).toNat) - (sN ((fK ((po).toNat)) * 6 + b).toNat)))), aJ g lS 4 (va_up gS ((fL ((po).toNat)).toNat) ((gS ((fL ((po).toNat)).toNat)) + (((sN ((fK ((po).toNat)) * 6 + a).toNat) - (sN ((fK ((po).toNat)) * 6 + b).toNat)) * ((sN ((fK ((po).toNat)) * 6 + a).toNat) - (sN ((fK ((po).toNat)) * 6 + b).toNat))))), aJ g lU 4 gU, (qP, .inr (4, [.ref pL, .ref pR, .ref pD, .ref pW, .ref pN, .ref pH, .ref pT, .int (iI pn)])), aI g pL 40 fL, aI g pR 40 fR, (qS, .inr (5, [.ref kP, .ref kM, .ref kG, .ref kE, .ref kA, .ref kN, .ref kK, .int (iI sn), .int (iI sl)])), aI g kN 720 sN, aI g kK 40 fK] := hD
      exact qe_v hx hb hr hlocks hQ hS dX2_tallyPoll_109 hP hD (⟨rfl, by first | simp only [if_neg (show ¬ fK po.toNat = -1 by assumption), vot, if_pos (show b = -1 by assumption)] | simp only [if_neg (show ¬ fK po.toNat = -1 by assumption), vot, if_neg (show ¬ b = -1 by assumption)]⟩)
  · refine lv_aload_n hx hb dX2_tallyPoll_22 rfl (lv_at hl 2 rfl) ?_
    refine va_get (D := g.1) (ci := 2) (v := .ref lU) (C := RX2) (T := TX2) (N := 4) hx hb hts iwX2 hown hE.1 hP 0 rfl rfl 3 (by decide) (hts (.fieldLink RX2 22 "QuickCount$Land" "unknownRolls" "[J") (List.mem_cons_of_mem _ (List.mem_append_left _ (List.mem_append_left _ (List.mem_append_left _ (List.mem_of_getElem? (i := 0) rfl)))))) (fun _ h9 => h9) rfl dX2_tallyPoll_23 ?_
    refine lv_iload hx hb dX2_tallyPoll_26 (lv_at hl 1 rfl) ?_
    refine lv_dup2_11 hx hb dX2_tallyPoll_28 rfl rfl ?_
    refine q_lald hx hb hE hP 4 rfl ((fL ((po).toNat)).toNat) (by omega) (by decide) dX2_tallyPoll_29 ?_
    refine lv_aload_n hx hb dX2_tallyPoll_30 rfl (lv_at hl 3 rfl) ?_
    refine va_getN (D := g.1) (ci := 4) (v := .ref pR) (C := RX4) (T := TX4) (N := 8) hx hb hts iwX4 hown hE.1 hP 5 rfl rfl 1 (by decide) (va_Nw.use (w := .fieldLinkNest "QuickCount$Land" 47 "QuickCount$PollBook" "rolls" "[I" "QuickCount") rfl (hE.2 _ (List.mem_of_getElem? (i := 48) rfl))) (fun _ h9 => h9) rfl dX2_tallyPoll_31 ?_
    refine lv_iload_n hx hb dX2_tallyPoll_34 rfl (lv_at hl 4 rfl) ?_
    refine q_iald hx hb hE hP 7 rfl ((po).toNat) (by omega) (by decide) dX2_tallyPoll_35 ?_
    have rg_7 := h_fR ((po).toNat)
    refine q_i2l hx hb dX2_tallyPoll_36 (by omega) ?_
    refine q_ladd hx hb dX2_tallyPoll_37 ?_
    refine q_last hx hb hE hP hD hS 4 rfl ((fL ((po).toNat)).toNat) (by omega) (by decide) dX2_tallyPoll_38 (fun H locs hP hD hS => ?_)
    have hP : va_P g.1 vwCl [(qL, .inr (2, [.ref lK, .ref lT, .ref lS, .ref lU])), aI g lK 4 gK, aJ g lT 4 gT, aJ g lS 4 gS, aJ g lU 4 (va_up gU ((fL ((po).toNat)).toNat) ((gU ((fL ((po).toNat)).toNat)) + (fR ((po).toNat)))), (qP, .inr (4, [.ref pL, .ref pR, .ref pD, .ref pW, .ref pN, .ref pH, .ref pT, .int (iI pn)])), aI g pL 40 fL, aI g pR 40 fR, (qS, .inr (5, [.ref kP, .ref kM, .ref kG, .ref kE, .ref kA, .ref kN, .ref kK, .int (iI sn), .int (iI sl)])), aI g kN 720 sN, aI g kK 40 fK] H := hP
    have hD : va_D A [(qL, .inr (2, [.ref lK, .ref lT, .ref lS, .ref lU])), aI g lK 4 gK, aJ g lT 4 gT, aJ g lS 4 gS, aJ g lU 4 (va_up gU ((fL ((po).toNat)).toNat) ((gU ((fL ((po).toNat)).toNat)) + (fR ((po).toNat)))), (qP, .inr (4, [.ref pL, .ref pR, .ref pD, .ref pW, .ref pN, .ref pH, .ref pT, .int (iI pn)])), aI g pL 40 fL, aI g pR 40 fR, (qS, .inr (5, [.ref kP, .ref kM, .ref kG, .ref kE, .ref kA, .ref kN, .ref kK, .int (iI sn), .int (iI sl)])), aI g kN 720 sN, aI g kK 40 fK] := hD
    exact qe_v hx hb hr hlocks hQ hS dX2_tallyPoll_39 hP hD (⟨rfl, by simp only [if_pos (show fK po.toNat = -1 by assumption)]⟩)
set_option maxHeartbeats 4000000 in
set_option maxRecDepth 100000 in
theorem kX2_tally (l : Launch) (g : qG) (qL : Nat) (lK : Nat) (lT : Nat) (lS : Nat) (lU : Nat) (qP : Nat) (pL : Nat) (pR : Nat) (pD : Nat) (pW : Nat) (pN : Nat) (pH : Nat) (pT : Nat) (qS : Nat) (kP : Nat) (kM : Nat) (kG : Nat) (kE : Nat) (kA : Nat) (kN : Nat) (kK : Nat) (gK : Nat → Int) (gT : Nat → Int) (gS : Nat → Int) (gU : Nat → Int) (fL : Nat → Int) (fR : Nat → Int) (fD : Nat → Bool) (sN : Nat → Int) (fK : Nat → Int) (pn : Int) (sn : Int) (sl : Int) (a : Int) (b : Int) (h_pn : 0 ≤ pn ∧ pn ≤ 40) (h_a : 0 ≤ a ∧ a ≤ 3) (h_b : -1 ≤ b ∧ b ≤ 3) (h_fL : ∀ k, 0 ≤ fL k ∧ fL k ≤ 3) (h_fR : ∀ k, 0 ≤ fR k ∧ fR k ≤ 2000) (h_sN : ∀ k, 0 ≤ sN k ∧ sN k ≤ 9999) (h_fK : ∀ k, -1 ≤ fK k ∧ fK k ≤ 119) : ME l g yX2_tally wsX2_tally ({ frames := 2, cells := 0, slots := 0, locals := 51 }) [.ref qL, .ref qP, .ref qS, .int (iI a), .int (iI b)] [(qL, .inr (2, [.ref lK, .ref lT, .ref lS, .ref lU])), aI g lK 4 gK, aJ g lT 4 gT, aJ g lS 4 gS, aJ g lU 4 gU, (qP, .inr (4, [.ref pL, .ref pR, .ref pD, .ref pW, .ref pN, .ref pH, .ref pT, .int (iI pn)])), aI g pL 40 fL, aI g pR 40 fR, aZ g pD 40 fD, (qS, .inr (5, [.ref kP, .ref kM, .ref kG, .ref kE, .ref kA, .ref kN, .ref kK, .int (iI sn), .int (iI sl)])), aI g kN 720 sN, aI g kK 40 fK] (fun r w1 => ∃ gK2 : Nat → Int, ∃ gT2 : Nat → Int, ∃ gS2 : Nat → Int, ∃ gU2 : Nat → Int, (tal fL fD fK fR sN a b gK2 gT2 gS2 gU2 pn.toNat) ∧ r = none ∧ w1 = [(qL, .inr (2, [.ref lK, .ref lT, .ref lS, .ref lU])), aI g lK 4 gK2, aJ g lT 4 gT2, aJ g lS 4 gS2, aJ g lU 4 gU2, (qP, .inr (4, [.ref pL, .ref pR, .ref pD, .ref pW, .ref pN, .ref pH, .ref pT, .int (iI pn)])), aI g pL 40 fL, aI g pR 40 fR, aZ g pD 40 fD, (qS, .inr (5, [.ref kP, .ref kM, .ref kG, .ref kE, .ref kA, .ref kN, .ref kK, .int (iI sn), .int (iI sl)])), aI g kN 720 sN, aI g kK 40 fK]) := by
  refine ME.intro (cc := cX2_tally) (maxL := 6) (ret := none) (by decide) rfl (Nat.le_of_ble_eq_true rfl) ?_
  intro p e s m below meth c ls Q A H locs ⟨hx, hb, hr, hml, hown, hts, hlocks⟩ hP hE hl hD hA hS hQ
  have hl : lv_has ls 6 [(0, .ref qL), (1, .ref qP), (2, .ref qS), (3, .int (iI a)), (4, .int (iI b))] := hl
  have iwX2 : ∀ w ∈ wsX20, w ∈ wsX2_tally := (fun _ h => List.mem_cons_of_mem _ (List.mem_append_left _ (List.mem_append_left _ (List.mem_append_right _ h))))
  have iwX4 : ∀ w ∈ wsX40, w ∈ wsX2_tally := (fun _ h => List.mem_cons_of_mem _ (List.mem_append_left _ (List.mem_append_right _ h)))
  refine lv_iconst (v := iI 0) hx hb dX2_tally_0 rfl ?_
  refine lv_istore (lv' := [(5, .int (iI 0)), (0, .ref qL), (1, .ref qP), (2, .ref qS), (3, .int (iI a)), (4, .int (iI b))]) hx hb dX2_tally_1 hl (by decide) rfl (fun ls hl => ?_)
  have K_1 : ∀ (fu_3 : Nat) (k : Nat) (i : Int) (zK : Nat → Int) (zT : Nat → Int) (zS : Nat → Int) (zU : Nat → Int), (i = (k : Int)) → (k ≤ 4) → (∀ j, j < k → zK j = 0) → (∀ j, j < k → zT j = 0) → (∀ j, j < k → zS j = 0) → (∀ j, j < k → zU j = 0) → 4 - k < fu_3 → ∀ (H : Heap) (locs : List Loc) (ls : Array Slot), va_P g.1 vwCl [(qL, .inr (2, [.ref lK, .ref lT, .ref lS, .ref lU])), aI g lK 4 zK, aJ g lT 4 zT, aJ g lS 4 zS, aJ g lU 4 zU, (qP, .inr (4, [.ref pL, .ref pR, .ref pD, .ref pW, .ref pN, .ref pH, .ref pT, .int (iI pn)])), aI g pL 40 fL, aI g pR 40 fR, aZ g pD 40 fD, (qS, .inr (5, [.ref kP, .ref kM, .ref kG, .ref kE, .ref kA, .ref kN, .ref kK, .int (iI sn), .int (iI sl)])), aI g kN 720 sN, aI g kK 40 fK] H → va_D A [(qL, .inr (2, [.ref lK, .ref lT, .ref lS, .ref lU])), aI g lK 4 zK, aJ g lT 4 zT, aJ g lS 4 zS, aJ g lU 4 zU, (qP, .inr (4, [.ref pL, .ref pR, .ref pD, .ref pW, .ref pN, .ref pH, .ref pT, .int (iI pn)])), aI g pL 40 fL, aI g pR 40 fR, aZ g pD 40 fD, (qS, .inr (5, [.ref kP, .ref kM, .ref kG, .ref kE, .ref kA, .ref kN, .ref kK, .int (iI sn), .int (iI sl)])), aI g kN 720 sN, aI g kK 40 fK] → va_S A s.heap H locs → lv_has ls 6 [(5, .int (iI i)), (0, .ref qL), (1, .ref qP), (2, .ref qS), (3, .int (iI a)), (4, .int (iI b))] → W p l e ({ frames := 2, cells := 0, slots := 0, locals := 51 } : Room) s m ([.ref qL, .ref qP, .ref qS, .int (iI a), .int (iI b)] : List Value).toArray below meth c H locs 0 0 Q (F0 m 3 ls []) := by
    intro fu_3
    induction fu_3 with
    | zero => exact fun _ _ _ _ _ _ _ _ _ _ _ _ q => absurd q (Nat.not_lt_zero _)
    | succ fu_3 ih_2 =>
      intro k i zK zT zS zU e_i h_k h_zK h_zT h_zS h_zU hm_4 H locs ls hP hD hS hl
      subst e_i
      refine lv_iload hx hb dX2_tally_3 (lv_at hl 0 rfl) ?_
      refine lv_iconst (v := iI 4) hx hb dX2_tally_5 rfl ?_
      refine q_icmp_ge (tgt := 47) hx hb dX2_tally_6 (by decide) (by omega) (fun c_5 => ?_) (fun c_5 => ?_)
      · refine lv_iconst (v := iI 0) hx hb dX2_tally_47 rfl ?_
        refine lv_istore (lv' := [(5, .int (iI 0)), (0, .ref qL), (1, .ref qP), (2, .ref qS), (3, .int (iI a)), (4, .int (iI b))]) hx hb dX2_tally_48 hl (by decide) rfl (fun ls hl => ?_)
        have K_6 : ∀ (fu_8 : Nat) (k2 : Nat) (i2 : Int) (yK : Nat → Int) (yT : Nat → Int) (yS : Nat → Int) (yU : Nat → Int), (i2 = (k2 : Int)) → ((k2 : Int) ≤ pn) → (tal fL fD fK fR sN a b yK yT yS yU k2) → pn.toNat - k2 < fu_8 → ∀ (H : Heap) (locs : List Loc) (ls : Array Slot), va_P g.1 vwCl [(qL, .inr (2, [.ref lK, .ref lT, .ref lS, .ref lU])), aI g lK 4 yK, aJ g lT 4 yT, aJ g lS 4 yS, aJ g lU 4 yU, (qP, .inr (4, [.ref pL, .ref pR, .ref pD, .ref pW, .ref pN, .ref pH, .ref pT, .int (iI pn)])), aI g pL 40 fL, aI g pR 40 fR, aZ g pD 40 fD, (qS, .inr (5, [.ref kP, .ref kM, .ref kG, .ref kE, .ref kA, .ref kN, .ref kK, .int (iI sn), .int (iI sl)])), aI g kN 720 sN, aI g kK 40 fK] H → va_D A [(qL, .inr (2, [.ref lK, .ref lT, .ref lS, .ref lU])), aI g lK 4 yK, aJ g lT 4 yT, aJ g lS 4 yS, aJ g lU 4 yU, (qP, .inr (4, [.ref pL, .ref pR, .ref pD, .ref pW, .ref pN, .ref pH, .ref pT, .int (iI pn)])), aI g pL 40 fL, aI g pR 40 fR, aZ g pD 40 fD, (qS, .inr (5, [.ref kP, .ref kM, .ref kG, .ref kE, .ref kA, .ref kN, .ref kK, .int (iI sn), .int (iI sl)])), aI g kN 720 sN, aI g kK 40 fK] → va_S A s.heap H locs → lv_has ls 6 [(5, .int (iI i2)), (0, .ref qL), (1, .ref qP), (2, .ref qS), (3, .int (iI a)), (4, .int (iI b))] → W p l e ({ frames := 2, cells := 0, slots := 0, locals := 51 } : Room) s m ([.ref qL, .ref qP, .ref qS, .int (iI a), .int (iI b)] : List Value).toArray below meth c H locs 0 0 Q (F0 m 50 ls []) := by
          intro fu_8
          induction fu_8 with
          | zero => exact fun _ _ _ _ _ _ _ _ _ q => absurd q (Nat.not_lt_zero _)
          | succ fu_8 ih_7 =>
            intro k2 i2 yK yT yS yU e_i2 h_k2 h_t2 hm_9 H locs ls hP hD hS hl
            subst e_i2
            refine lv_iload hx hb dX2_tally_50 (lv_at hl 0 rfl) ?_
            refine lv_aload_n hx hb dX2_tally_52 rfl (lv_at hl 2 rfl) ?_
            refine va_getN (D := g.1) (ci := 4) (v := .int (iI pn)) (C := RX4) (T := TX4) (N := 8) hx hb hts iwX4 hown hE.1 hP 5 rfl rfl 7 (by decide) (va_Nw.use (w := .fieldLinkNest "QuickCount$Land" 25 "QuickCount$PollBook" "many" "I" "QuickCount") rfl (hE.2 _ (List.mem_of_getElem? (i := 58) rfl))) (fun _ h9 => h9) rfl dX2_tally_53 ?_
            refine q_icmp_ge (tgt := 86) hx hb dX2_tally_56 (by decide) (by omega) (fun c_10 => ?_) (fun c_10 => ?_)
            · exact qe_v hx hb hr hlocks hQ hS dX2_tally_86 hP hD (⟨_, _, _, _, by rw [show pn.toNat = k2 by omega]; exact h_t2, rfl, rfl⟩)
            · refine lv_aload_n hx hb dX2_tally_59 rfl (lv_at hl 2 rfl) ?_
              refine va_getN (D := g.1) (ci := 4) (v := .ref pD) (C := RX4) (T := TX4) (N := 8) hx hb hts iwX4 hown hE.1 hP 5 rfl rfl 2 (by decide) (va_Nw.use (w := .fieldLinkNest "QuickCount$Land" 31 "QuickCount$PollBook" "isDrawn" "[Z" "QuickCount") rfl (hE.2 _ (List.mem_of_getElem? (i := 50) rfl))) (fun _ h9 => h9) rfl dX2_tally_60 ?_
              refine lv_iload hx hb dX2_tally_63 (lv_at hl 0 rfl) ?_
              refine q_zald hx hb hE hP 8 rfl k2 (by omega) (by decide) dX2_tally_65 ?_
              refine q_ifb_eq (tgt := 80) hx hb dX2_tally_66 (by decide) (fun c_11 => ?_) (fun c_11 => ?_)
              · refine lv_iinc (v := (iI ((k2 : Int) + 1))) (lv' := [(5, .int (iI ((k2 : Int) + 1))), (0, .ref qL), (1, .ref qP), (2, .ref qS), (3, .int (iI a)), (4, .int (iI b))]) hx hb dX2_tally_80 hl (k := 0) rfl (iI_add _ _) (by decide) rfl (fun ls hl => ?_)
                refine lv_goto (tgt := 50) hx hb dX2_tally_83 (by decide) ?_
                exact ih_7  (k2 + 1) ((k2 : Int) + 1) yK yT yS yU (by omega) (by omega) (by first | exact tal_n h_t2 (by assumption) | exact tal_y h_t2 (by assumption) (h_fL k2).1) (by omega) _ _ ls (hP.sub [0, 1, 2, 3, 4, 5, 6, 7, 8, 9, 10, 11] rfl) (hD.sub [0, 1, 2, 3, 4, 5, 6, 7, 8, 9, 10, 11] (by decide) rfl) hS (lv_sub hl [0, 1, 2, 3, 4, 5] rfl)
              · refine lv_aload_n hx hb dX2_tally_69 rfl (lv_at hl 1 rfl) ?_
                refine lv_aload_n hx hb dX2_tally_70 rfl (lv_at hl 2 rfl) ?_
                refine lv_iload hx hb dX2_tally_71 (lv_at hl 0 rfl) ?_
                refine lv_aload_n hx hb dX2_tally_73 rfl (lv_at hl 3 rfl) ?_
                refine lv_iload_n hx hb dX2_tally_74 rfl (lv_at hl 4 rfl) ?_
                refine lv_iload hx hb dX2_tally_75 (lv_at hl 5 rfl) ?_
                refine q_call (rest := []) (wr := [aZ g pD 40 fD]) (q_runEV (As := [.ref qP, .int (iI (k2 : Int)), .ref qS, .int (iI a), .int (iI b)]) ⟨hx, hb, hml, hown, hts⟩ (kX2_tallyPoll l g qL lK lT lS lU qP pL pR pD pW pN pH pT qS kP kM kG kE kA kN kK yK yT yS yU fL fR sN fK pn sn sl (k2 : Int) a b (by omega) (by omega) (by omega) (by omega) (by omega) (by omega) (by omega)) (cwV 5 hts gX2_tally_X2_tallyPoll rfl rfl rfl (by decide +kernel) ⟨Nat.le_of_ble_eq_true rfl, Nat.le_of_ble_eq_true rfl⟩) (va_recv hE.1 hP (ci := 2) (q0 := 0) rfl rfl) hE (hP.sub (ws' := [(qL, .inr (2, [.ref lK, .ref lT, .ref lS, .ref lU])), aI g lK 4 yK, aJ g lT 4 yT, aJ g lS 4 yS, aJ g lU 4 yU, (qP, .inr (4, [.ref pL, .ref pR, .ref pD, .ref pW, .ref pN, .ref pH, .ref pT, .int (iI pn)])), aI g pL 40 fL, aI g pR 40 fR, (qS, .inr (5, [.ref kP, .ref kM, .ref kG, .ref kE, .ref kA, .ref kN, .ref kK, .int (iI sn), .int (iI sl)])), aI g kN 720 sN, aI g kK 40 fK]) [0, 1, 2, 3, 4, 5, 6, 7, 9, 10, 11] rfl) (hD.sub (ws' := [(qL, .inr (2, [.ref lK, .ref lT, .ref lS, .ref lU])), aI g lK 4 yK, aJ g lT 4 yT, aJ g lS 4 yS, aJ g lU 4 yU, (qP, .inr (4, [.ref pL, .ref pR, .ref pD, .ref pW, .ref pN, .ref pH, .ref pT, .int (iI pn)])), aI g pL 40 fL, aI g pR 40 fR, (qS, .inr (5, [.ref kP, .ref kM, .ref kG, .ref kE, .ref kA, .ref kN, .ref kK, .int (iI sn), .int (iI sl)])), aI g kN 720 sN, aI g kK 40 fK]) [0, 1, 2, 3, 4, 5, 6, 7, 9, 10, 11] (by decide) rfl) rfl hl.1 (Nat.le_of_ble_eq_true rfl) dX2_tally_77 ⟨Nat.zero_le _, Nat.zero_le _⟩) hP hD hS hA [0, 1, 2, 3, 4, 5, 6, 7, 9, 10, 11] [8] rfl rfl (by decide) (by decide) (fun r_ w_ H locs hq_12 hP hD hS => ?_)
                obtain ⟨rfl, rfl⟩ := hq_12
                have hP : va_P g.1 vwCl [aZ g pD 40 fD, (qL, .inr (2, [.ref lK, .ref lT, .ref lS, .ref lU])), aI g lK 4 (if fK (k2 : Int).toNat = -1 then yK else va_up yK (fL (k2 : Int).toNat).toNat (yK (fL (k2 : Int).toNat).toNat + 1)), aJ g lT 4 (if fK (k2 : Int).toNat = -1 then yT else va_up yT (fL (k2 : Int).toNat).toNat (yT (fL (k2 : Int).toNat).toNat + vot sN (fK (k2 : Int).toNat) a b)), aJ g lS 4 (if fK (k2 : Int).toNat = -1 then yS else va_up yS (fL (k2 : Int).toNat).toNat (yS (fL (k2 : Int).toNat).toNat + vot sN (fK (k2 : Int).toNat) a b * vot sN (fK (k2 : Int).toNat) a b)), aJ g lU 4 (if fK (k2 : Int).toNat = -1 then va_up yU (fL (k2 : Int).toNat).toNat (yU (fL (k2 : Int).toNat).toNat + fR (k2 : Int).toNat) else yU), (qP, .inr (4, [.ref pL, .ref pR, .ref pD, .ref pW, .ref pN, .ref pH, .ref pT, .int (iI pn)])), aI g pL 40 fL, aI g pR 40 fR, (qS, .inr (5, [.ref kP, .ref kM, .ref kG, .ref kE, .ref kA, .ref kN, .ref kK, .int (iI sn), .int (iI sl)])), aI g kN 720 sN, aI g kK 40 fK] H := hP
                have hD : va_D A [aZ g pD 40 fD, (qL, .inr (2, [.ref lK, .ref lT, .ref lS, .ref lU])), aI g lK 4 (if fK (k2 : Int).toNat = -1 then yK else va_up yK (fL (k2 : Int).toNat).toNat (yK (fL (k2 : Int).toNat).toNat + 1)), aJ g lT 4 (if fK (k2 : Int).toNat = -1 then yT else va_up yT (fL (k2 : Int).toNat).toNat (yT (fL (k2 : Int).toNat).toNat + vot sN (fK (k2 : Int).toNat) a b)), aJ g lS 4 (if fK (k2 : Int).toNat = -1 then yS else va_up yS (fL (k2 : Int).toNat).toNat (yS (fL (k2 : Int).toNat).toNat + vot sN (fK (k2 : Int).toNat) a b * vot sN (fK (k2 : Int).toNat) a b)), aJ g lU 4 (if fK (k2 : Int).toNat = -1 then va_up yU (fL (k2 : Int).toNat).toNat (yU (fL (k2 : Int).toNat).toNat + fR (k2 : Int).toNat) else yU), (qP, .inr (4, [.ref pL, .ref pR, .ref pD, .ref pW, .ref pN, .ref pH, .ref pT, .int (iI pn)])), aI g pL 40 fL, aI g pR 40 fR, (qS, .inr (5, [.ref kP, .ref kM, .ref kG, .ref kE, .ref kA, .ref kN, .ref kK, .int (iI sn), .int (iI sl)])), aI g kN 720 sN, aI g kK 40 fK] := hD
                refine W.eq (g2 := F0 m 80 ls []) rfl ?_
                refine lv_iinc (v := (iI ((k2 : Int) + 1))) (lv' := [(5, .int (iI ((k2 : Int) + 1))), (0, .ref qL), (1, .ref qP), (2, .ref qS), (3, .int (iI a)), (4, .int (iI b))]) hx hb dX2_tally_80 hl (k := 0) rfl (iI_add _ _) (by decide) rfl (fun ls hl => ?_)
                refine lv_goto (tgt := 50) hx hb dX2_tally_83 (by decide) ?_
                exact ih_7  (k2 + 1) ((k2 : Int) + 1) (if fK (k2 : Int).toNat = -1 then yK else va_up yK (fL (k2 : Int).toNat).toNat (yK (fL (k2 : Int).toNat).toNat + 1)) (if fK (k2 : Int).toNat = -1 then yT else va_up yT (fL (k2 : Int).toNat).toNat (yT (fL (k2 : Int).toNat).toNat + vot sN (fK (k2 : Int).toNat) a b)) (if fK (k2 : Int).toNat = -1 then yS else va_up yS (fL (k2 : Int).toNat).toNat (yS (fL (k2 : Int).toNat).toNat + vot sN (fK (k2 : Int).toNat) a b * vot sN (fK (k2 : Int).toNat) a b)) (if fK (k2 : Int).toNat = -1 then va_up yU (fL (k2 : Int).toNat).toNat (yU (fL (k2 : Int).toNat).toNat + fR (k2 : Int).toNat) else yU) (by omega) (by omega) (by first | exact tal_n h_t2 (by assumption) | exact tal_y h_t2 (by assumption) (h_fL k2).1) (by omega) _ _ ls (hP.sub [1, 2, 3, 4, 5, 6, 7, 8, 0, 9, 10, 11] rfl) (hD.sub [1, 2, 3, 4, 5, 6, 7, 8, 0, 9, 10, 11] (by decide) rfl) hS (lv_sub hl [0, 1, 2, 3, 4, 5] rfl)
        exact K_6 (pn.toNat - 0 + 1) 0 0 zK zT zS zU (rfl) (by omega) (tal_0 (by omega) h_zK h_zT h_zS h_zU) (Nat.lt_succ_self _) _ _ ls (hP.sub [0, 1, 2, 3, 4, 5, 6, 7, 8, 9, 10, 11] rfl) (hD.sub [0, 1, 2, 3, 4, 5, 6, 7, 8, 9, 10, 11] (by decide) rfl) hS (lv_sub hl [0, 1, 2, 3, 4, 5] rfl)
      · refine lv_aload_n hx hb dX2_tally_9 rfl (lv_at hl 1 rfl) ?_
        refine va_get (D := g.1) (ci := 2) (v := .ref lK) (C := RX2) (T := TX2) (N := 4) hx hb hts iwX2 hown hE.1 hP 0 rfl rfl 0 (by decide) (hts (.fieldLink RX2 9 "QuickCount$Land" "knownMany" "[I") (List.mem_cons_of_mem _ (List.mem_append_left _ (List.mem_append_left _ (List.mem_append_left _ (List.mem_of_getElem? (i := 0) rfl)))))) (fun _ h9 => h9) rfl dX2_tally_10 ?_
        refine lv_iload hx hb dX2_tally_13 (lv_at hl 0 rfl) ?_
        refine lv_iconst (v := iI 0) hx hb dX2_tally_15 rfl ?_
        refine q_iast hx hb hE hP hD hS 1 rfl k (by omega) (by decide) dX2_tally_16 (fun H locs hP hD hS => ?_)
        have hP : va_P g.1 vwCl [(qL, .inr (2, [.ref lK, .ref lT, .ref lS, .ref lU])), aI g lK 4 (va_up zK k 0), aJ g lT 4 zT, aJ g lS 4 zS, aJ g lU 4 zU, (qP, .inr (4, [.ref pL, .ref pR, .ref pD, .ref pW, .ref pN, .ref pH, .ref pT, .int (iI pn)])), aI g pL 40 fL, aI g pR 40 fR, aZ g pD 40 fD, (qS, .inr (5, [.ref kP, .ref kM, .ref kG, .ref kE, .ref kA, .ref kN, .ref kK, .int (iI sn), .int (iI sl)])), aI g kN 720 sN, aI g kK 40 fK] H := hP
        have hD : va_D A [(qL, .inr (2, [.ref lK, .ref lT, .ref lS, .ref lU])), aI g lK 4 (va_up zK k 0), aJ g lT 4 zT, aJ g lS 4 zS, aJ g lU 4 zU, (qP, .inr (4, [.ref pL, .ref pR, .ref pD, .ref pW, .ref pN, .ref pH, .ref pT, .int (iI pn)])), aI g pL 40 fL, aI g pR 40 fR, aZ g pD 40 fD, (qS, .inr (5, [.ref kP, .ref kM, .ref kG, .ref kE, .ref kA, .ref kN, .ref kK, .int (iI sn), .int (iI sl)])), aI g kN 720 sN, aI g kK 40 fK] := hD
        refine lv_aload_n hx hb dX2_tally_17 rfl (lv_at hl 1 rfl) ?_
        refine va_get (D := g.1) (ci := 2) (v := .ref lT) (C := RX2) (T := TX2) (N := 4) hx hb hts iwX2 hown hE.1 hP 0 rfl rfl 1 (by decide) (hts (.fieldLink RX2 15 "QuickCount$Land" "together" "[J") (List.mem_cons_of_mem _ (List.mem_append_left _ (List.mem_append_left _ (List.mem_append_left _ (List.mem_of_getElem? (i := 1) rfl)))))) (fun _ h9 => h9) rfl dX2_tally_18 ?_
        refine lv_iload hx hb dX2_tally_21 (lv_at hl 0 rfl) ?_
        refine lv_lconst (v := jI 0) hx hb dX2_tally_23 (by decide) ?_
        refine q_last hx hb hE hP hD hS 2 rfl k (by omega) (by decide) dX2_tally_24 (fun H locs hP hD hS => ?_)
        have hP : va_P g.1 vwCl [(qL, .inr (2, [.ref lK, .ref lT, .ref lS, .ref lU])), aI g lK 4 (va_up zK k 0), aJ g lT 4 (va_up zT k 0), aJ g lS 4 zS, aJ g lU 4 zU, (qP, .inr (4, [.ref pL, .ref pR, .ref pD, .ref pW, .ref pN, .ref pH, .ref pT, .int (iI pn)])), aI g pL 40 fL, aI g pR 40 fR, aZ g pD 40 fD, (qS, .inr (5, [.ref kP, .ref kM, .ref kG, .ref kE, .ref kA, .ref kN, .ref kK, .int (iI sn), .int (iI sl)])), aI g kN 720 sN, aI g kK 40 fK] H := hP
        have hD : va_D A [(qL, .inr (2, [.ref lK, .ref lT, .ref lS, .ref lU])), aI g lK 4 (va_up zK k 0), aJ g lT 4 (va_up zT k 0), aJ g lS 4 zS, aJ g lU 4 zU, (qP, .inr (4, [.ref pL, .ref pR, .ref pD, .ref pW, .ref pN, .ref pH, .ref pT, .int (iI pn)])), aI g pL 40 fL, aI g pR 40 fR, aZ g pD 40 fD, (qS, .inr (5, [.ref kP, .ref kM, .ref kG, .ref kE, .ref kA, .ref kN, .ref kK, .int (iI sn), .int (iI sl)])), aI g kN 720 sN, aI g kK 40 fK] := hD
        refine lv_aload_n hx hb dX2_tally_25 rfl (lv_at hl 1 rfl) ?_
        refine va_get (D := g.1) (ci := 2) (v := .ref lS) (C := RX2) (T := TX2) (N := 4) hx hb hts iwX2 hown hE.1 hP 0 rfl rfl 2 (by decide) (hts (.fieldLink RX2 19 "QuickCount$Land" "squares" "[J") (List.mem_cons_of_mem _ (List.mem_append_left _ (List.mem_append_left _ (List.mem_append_left _ (List.mem_of_getElem? (i := 2) rfl)))))) (fun _ h9 => h9) rfl dX2_tally_26 ?_
        refine lv_iload hx hb dX2_tally_29 (lv_at hl 0 rfl) ?_
        refine lv_lconst (v := jI 0) hx hb dX2_tally_31 (by decide) ?_
        refine q_last hx hb hE hP hD hS 3 rfl k (by omega) (by decide) dX2_tally_32 (fun H locs hP hD hS => ?_)
        have hP : va_P g.1 vwCl [(qL, .inr (2, [.ref lK, .ref lT, .ref lS, .ref lU])), aI g lK 4 (va_up zK k 0), aJ g lT 4 (va_up zT k 0), aJ g lS 4 (va_up zS k 0), aJ g lU 4 zU, (qP, .inr (4, [.ref pL, .ref pR, .ref pD, .ref pW, .ref pN, .ref pH, .ref pT, .int (iI pn)])), aI g pL 40 fL, aI g pR 40 fR, aZ g pD 40 fD, (qS, .inr (5, [.ref kP, .ref kM, .ref kG, .ref kE, .ref kA, .ref kN, .ref kK, .int (iI sn), .int (iI sl)])), aI g kN 720 sN, aI g kK 40 fK] H := hP
        have hD : va_D A [(qL, .inr (2, [.ref lK, .ref lT, .ref lS, .ref lU])), aI g lK 4 (va_up zK k 0), aJ g lT 4 (va_up zT k 0), aJ g lS 4 (va_up zS k 0), aJ g lU 4 zU, (qP, .inr (4, [.ref pL, .ref pR, .ref pD, .ref pW, .ref pN, .ref pH, .ref pT, .int (iI pn)])), aI g pL 40 fL, aI g pR 40 fR, aZ g pD 40 fD, (qS, .inr (5, [.ref kP, .ref kM, .ref kG, .ref kE, .ref kA, .ref kN, .ref kK, .int (iI sn), .int (iI sl)])), aI g kN 720 sN, aI g kK 40 fK] := hD
        refine lv_aload_n hx hb dX2_tally_33 rfl (lv_at hl 1 rfl) ?_
        refine va_get (D := g.1) (ci := 2) (v := .ref lU) (C := RX2) (T := TX2) (N := 4) hx hb hts iwX2 hown hE.1 hP 0 rfl rfl 3 (by decide) (hts (.fieldLink RX2 22 "QuickCount$Land" "unknownRolls" "[J") (List.mem_cons_of_mem _ (List.mem_append_left _ (List.mem_append_left _ (List.mem_append_left _ (List.mem_of_getElem? (i := 3) rfl)))))) (fun _ h9 => h9) rfl dX2_tally_34 ?_
        refine lv_iload hx hb dX2_tally_37 (lv_at hl 0 rfl) ?_
        refine lv_lconst (v := jI 0) hx hb dX2_tally_39 (by decide) ?_
        refine q_last hx hb hE hP hD hS 4 rfl k (by omega) (by decide) dX2_tally_40 (fun H locs hP hD hS => ?_)
        have hP : va_P g.1 vwCl [(qL, .inr (2, [.ref lK, .ref lT, .ref lS, .ref lU])), aI g lK 4 (va_up zK k 0), aJ g lT 4 (va_up zT k 0), aJ g lS 4 (va_up zS k 0), aJ g lU 4 (va_up zU k 0), (qP, .inr (4, [.ref pL, .ref pR, .ref pD, .ref pW, .ref pN, .ref pH, .ref pT, .int (iI pn)])), aI g pL 40 fL, aI g pR 40 fR, aZ g pD 40 fD, (qS, .inr (5, [.ref kP, .ref kM, .ref kG, .ref kE, .ref kA, .ref kN, .ref kK, .int (iI sn), .int (iI sl)])), aI g kN 720 sN, aI g kK 40 fK] H := hP
        have hD : va_D A [(qL, .inr (2, [.ref lK, .ref lT, .ref lS, .ref lU])), aI g lK 4 (va_up zK k 0), aJ g lT 4 (va_up zT k 0), aJ g lS 4 (va_up zS k 0), aJ g lU 4 (va_up zU k 0), (qP, .inr (4, [.ref pL, .ref pR, .ref pD, .ref pW, .ref pN, .ref pH, .ref pT, .int (iI pn)])), aI g pL 40 fL, aI g pR 40 fR, aZ g pD 40 fD, (qS, .inr (5, [.ref kP, .ref kM, .ref kG, .ref kE, .ref kA, .ref kN, .ref kK, .int (iI sn), .int (iI sl)])), aI g kN 720 sN, aI g kK 40 fK] := hD
        refine lv_iinc (v := (iI ((k : Int) + 1))) (lv' := [(5, .int (iI ((k : Int) + 1))), (0, .ref qL), (1, .ref qP), (2, .ref qS), (3, .int (iI a)), (4, .int (iI b))]) hx hb dX2_tally_41 hl (k := 0) rfl (iI_add _ _) (by decide) rfl (fun ls hl => ?_)
        refine lv_goto (tgt := 3) hx hb dX2_tally_44 (by decide) ?_
        exact ih_2  (k + 1) ((k : Int) + 1) (va_up zK k 0) (va_up zT k 0) (va_up zS k 0) (va_up zU k 0) (by omega) (by omega) (fun j hj => by unfold va_up; by_cases q : j = k; (rw [if_pos q]); (rw [if_neg q]; exact h_zK j (by omega))) (fun j hj => by unfold va_up; by_cases q : j = k; (rw [if_pos q]); (rw [if_neg q]; exact h_zT j (by omega))) (fun j hj => by unfold va_up; by_cases q : j = k; (rw [if_pos q]); (rw [if_neg q]; exact h_zS j (by omega))) (fun j hj => by unfold va_up; by_cases q : j = k; (rw [if_pos q]); (rw [if_neg q]; exact h_zU j (by omega))) (by omega) _ _ ls (hP.sub [0, 1, 2, 3, 4, 5, 6, 7, 8, 9, 10, 11] rfl) (hD.sub [0, 1, 2, 3, 4, 5, 6, 7, 8, 9, 10, 11] (by decide) rfl) hS (lv_sub hl [0, 1, 2, 3, 4, 5] rfl)
  exact K_1 (4 - 0 + 1) 0 0 gK gT gS gU (rfl) (by omega) (fun j hj => absurd hj (Nat.not_lt_zero j)) (fun j hj => absurd hj (Nat.not_lt_zero j)) (fun j hj => absurd hj (Nat.not_lt_zero j)) (fun j hj => absurd hj (Nat.not_lt_zero j)) (Nat.lt_succ_self _) _ _ ls (hP.sub [0, 1, 2, 3, 4, 5, 6, 7, 8, 9, 10, 11] rfl) (hD.sub [0, 1, 2, 3, 4, 5, 6, 7, 8, 9, 10, 11] (by decide) rfl) hS (lv_sub hl [0, 1, 2, 3, 4, 5] rfl)
set_option maxHeartbeats 4000000 in
set_option maxRecDepth 100000 in
theorem kX2_hasEnough (l : Launch) (g : qG) (qL : Nat) (lK : Nat) (lT : Nat) (lS : Nat) (lU : Nat) (qP : Nat) (pL : Nat) (pR : Nat) (pD : Nat) (pW : Nat) (pN : Nat) (pH : Nat) (pT : Nat) (gK : Nat → Int) (fH : Nat → Int) (pn : Int) (en : Int) (h_gK : ∀ k, k < 4 → 0 ≤ gK k ∧ gK k ≤ 40) (h_fH : ∀ k, 0 ≤ fH k ∧ fH k ≤ 40) (h_en : 0 ≤ en ∧ en ≤ 2) : MR l g yX2_hasEnough wsX2_hasEnough ({ frames := 1, cells := 0, slots := 0, locals := 21 }) [.ref qL, .ref qP, .int (iI en)] [(qL, .inr (2, [.ref lK, .ref lT, .ref lS, .ref lU])), aI g lK 4 gK, (qP, .inr (4, [.ref pL, .ref pR, .ref pD, .ref pW, .ref pN, .ref pH, .ref pT, .int (iI pn)])), aI g pH 4 fH] (fun r => r = some (.int (bP (enB fH gK en 4 = true ∧ (0 < fH 0 ∨ 0 < fH 1 ∨ 0 < fH 2 ∨ 0 < fH 3))))) := by
  refine MR.intro (cc := cX2_hasEnough) (maxL := 4) (ret := (some .boolean)) (by decide) rfl (Nat.le_of_ble_eq_true rfl) ?_
  intro p e s m below meth c ls Q ⟨hx, hb, hr, hml, hown, hts, hlocks⟩ hP hE hl hQ
  have hl : lv_has ls 4 [(0, .ref qL), (1, .ref qP), (2, .int (iI en))] := hl
  have iwX2 : ∀ w ∈ wsX20, w ∈ wsX2_hasEnough := (fun _ h => List.mem_cons_of_mem _ (List.mem_append_right _ h))
  have iwX4 : ∀ w ∈ wsX40, w ∈ wsX2_hasEnough := (fun _ h => List.mem_cons_of_mem _ (List.mem_append_left _ (List.mem_append_right _ h)))
  refine lv_iconst (v := iI 0) hx hb dX2_hasEnough_0 rfl ?_
  refine lv_istore_n (lv' := [(3, .int (iI 0)), (0, .ref qL), (1, .ref qP), (2, .int (iI en))]) hx hb dX2_hasEnough_1 rfl hl (by decide) rfl (fun ls hl => ?_)
  have K_1 : ∀ (fu_3 : Nat) (k : Nat) (i : Int), (i = (k : Int)) → (k ≤ 4) → (∀ l, l < k → ¬ (0 < fH l ∧ gK l < en)) → 4 - k < fu_3 → ∀ (ls : Array Slot), lv_has ls 4 [(3, .int (iI i)), (0, .ref qL), (1, .ref qP), (2, .int (iI en))] → W p l e ({ frames := 1, cells := 0, slots := 0, locals := 21 } : Room) s m ([.ref qL, .ref qP, .int (iI en)] : List Value).toArray below meth c s.heap [] 0 0 Q (F0 m 2 ls []) := by
    intro fu_3
    induction fu_3 with
    | zero => exact fun _ _ _ _ _ q => absurd q (Nat.not_lt_zero _)
    | succ fu_3 ih_2 =>
      intro k i e_i h_k h_v hm_4 ls hl
      subst e_i
      refine lv_iload_n hx hb dX2_hasEnough_2 rfl (lv_at hl 0 rfl) ?_
      refine lv_iconst (v := iI 4) hx hb dX2_hasEnough_3 rfl ?_
      refine q_icmp_ge (tgt := 34) hx hb dX2_hasEnough_4 (by decide) (by omega) (fun c_5 => ?_) (fun c_5 => ?_)
      · refine lv_aload_n hx hb dX2_hasEnough_34 rfl (lv_at hl 2 rfl) ?_
        refine q_read (rest := []) (q_runRVN (As := []) ⟨hx, hb, hml, hown, hts⟩ (kX4_hasDraw l g qP pL pR pD pW pN pH pT fH pn (by omega)) ⟨va_cnB 0 hts ggX2_hasEnough_X4_hasDraw rfl rfl rfl (hE.2 (.methodLinkNest "QuickCount$Land" 57 yX4_hasDraw "QuickCount") (List.mem_of_getElem? (i := 32) rfl)) (hts (.initialized RX4) (List.mem_cons_of_mem _ (List.mem_append_left _ (List.mem_append_left _ (List.mem_of_getElem? (i := 2) rfl))))) (by decide +kernel) ⟨Nat.le_of_ble_eq_true rfl, Nat.le_of_ble_eq_true rfl⟩, (hts (.instanceMethod yX4_hasDraw) (List.mem_cons_of_mem _ (List.mem_append_left _ (List.mem_append_left _ (List.mem_of_getElem? (i := 1) rfl))))), (hts (.selects RX4 yX4_hasDraw yX4_hasDraw) (List.mem_cons_of_mem _ (List.mem_append_left _ (List.mem_append_left _ (List.mem_of_getElem? (i := 3) rfl)))))⟩ (va_recv hE.1 hP (ci := 4) (q0 := 2) rfl rfl) hE (hP.sub (ws' := [(qP, .inr (4, [.ref pL, .ref pR, .ref pD, .ref pW, .ref pN, .ref pH, .ref pT, .int (iI pn)])), aI g pH 4 fH]) [2, 3] rfl) rfl hl.1 (Nat.le_of_ble_eq_true rfl) dX2_hasEnough_35 ⟨Nat.zero_le _, Nat.zero_le _⟩) (fun r_ hq_6 => ?_)
        obtain rfl := hq_6
        refine W.eq (g2 := F0 m 38 ls [.int (bP (0 < fH 0 ∨ 0 < fH 1 ∨ 0 < fH 2 ∨ 0 < fH 3))]) rfl ?_
        exact qr_z hx hb hr hlocks hQ dX2_hasEnough_38 (bP_nar _) (congrArg (fun z => some (Value.int z)) (bP_iff ⟨fun z => ⟨(enB_iff fH gK en 4).mpr (fun l hl => h_v l (by omega)), z⟩, fun z => z.2⟩))
      · refine lv_aload_n hx hb dX2_hasEnough_7 rfl (lv_at hl 2 rfl) ?_
        refine va_getN (D := g.1) (ci := 4) (v := .ref pH) (C := RX4) (T := TX4) (N := 8) hx hb hts iwX4 hown hE.1 hP 2 rfl rfl 5 (by decide) (va_Nw.use (w := .fieldLinkNest "QuickCount$Land" 54 "QuickCount$PollBook" "had" "[I" "QuickCount") rfl (hE.2 _ (List.mem_of_getElem? (i := 54) rfl))) (fun _ h9 => h9) rfl dX2_hasEnough_8 ?_
        refine lv_iload_n hx hb dX2_hasEnough_11 rfl (lv_at hl 0 rfl) ?_
        refine q_iald hx hb hE hP 3 rfl k (by omega) (by decide) dX2_hasEnough_12 ?_
        have rg_7 := h_fH k
        refine q_if_le (tgt := 28) hx hb dX2_hasEnough_13 (by decide) (by omega) (fun c_8 => ?_) (fun c_8 => ?_)
        · refine lv_iinc (v := (iI ((k : Int) + 1))) (lv' := [(3, .int (iI ((k : Int) + 1))), (0, .ref qL), (1, .ref qP), (2, .int (iI en))]) hx hb dX2_hasEnough_28 hl (k := 0) rfl (iI_add _ _) (by decide) rfl (fun ls hl => ?_)
          refine lv_goto (tgt := 2) hx hb dX2_hasEnough_31 (by decide) ?_
          exact ih_2  (k + 1) ((k : Int) + 1) (by omega) (by omega) (fun l hl => by rcases (show l < k ∨ l = k by omega) with q | q; (exact h_v l q); (subst q; omega)) (by omega) ls (lv_sub hl [0, 1, 2, 3] rfl)
        · refine lv_aload_n hx hb dX2_hasEnough_16 rfl (lv_at hl 1 rfl) ?_
          refine va_get (D := g.1) (ci := 2) (v := .ref lK) (C := RX2) (T := TX2) (N := 4) hx hb hts iwX2 hown hE.1 hP 0 rfl rfl 0 (by decide) (hts (.fieldLink RX2 9 "QuickCount$Land" "knownMany" "[I") (List.mem_cons_of_mem _ (List.mem_append_left _ (List.mem_append_left _ (List.mem_of_getElem? (i := 0) rfl))))) (fun _ h9 => h9) rfl dX2_hasEnough_17 ?_
          refine lv_iload_n hx hb dX2_hasEnough_20 rfl (lv_at hl 0 rfl) ?_
          refine q_iald hx hb hE hP 1 rfl k (by omega) (by decide) dX2_hasEnough_21 ?_
          have rg_9 := h_gK k
          refine lv_iload_n hx hb dX2_hasEnough_22 rfl (lv_at hl 3 rfl) ?_
          refine q_icmp_ge (tgt := 28) hx hb dX2_hasEnough_23 (by decide) (by omega) (fun c_10 => ?_) (fun c_10 => ?_)
          · refine lv_iinc (v := (iI ((k : Int) + 1))) (lv' := [(3, .int (iI ((k : Int) + 1))), (0, .ref qL), (1, .ref qP), (2, .int (iI en))]) hx hb dX2_hasEnough_28 hl (k := 0) rfl (iI_add _ _) (by decide) rfl (fun ls hl => ?_)
            refine lv_goto (tgt := 2) hx hb dX2_hasEnough_31 (by decide) ?_
            exact ih_2  (k + 1) ((k : Int) + 1) (by omega) (by omega) (fun l hl => by rcases (show l < k ∨ l = k by omega) with q | q; (exact h_v l q); (subst q; omega)) (by omega) ls (lv_sub hl [0, 1, 2, 3] rfl)
          · refine lv_iconst (v := iI 0) hx hb dX2_hasEnough_26 rfl ?_
            exact qr_z hx hb hr hlocks hQ dX2_hasEnough_27 rfl (congrArg (fun z => some (Value.int z)) (bP_f (fun z => (enB_iff fH gK en 4).mp z.1 k (by omega) (by omega))).symm)
  exact K_1 (4 - 0 + 1) 0 0 (rfl) (by omega) (fun l hl => absurd hl (Nat.not_lt_zero l)) (Nat.lt_succ_self _) ls (lv_sub hl [0, 1, 2, 3] rfl)
set_option maxHeartbeats 4000000 in
set_option maxRecDepth 100000 in
theorem kX2_tellSum (l : Launch) (g : qG) (qL : Nat) (lK : Nat) (lT : Nat) (lS : Nat) (lU : Nat) (qP : Nat) (pL : Nat) (pR : Nat) (pD : Nat) (pW : Nat) (pN : Nat) (pH : Nat) (pT : Nat) (qX : Nat) (ov : Int) (un : Int) (gK : Nat → Int) (gT : Nat → Int) (fH : Nat → Int) (pn : Int) (h_gK : ∀ k, k < 4 → 0 ≤ gK k ∧ gK k ≤ 40) (h_fH : ∀ k, 0 ≤ fH k ∧ fH k ≤ 40) (h_ok : foldOk (sumC fH gK 0) (sumT fH gT) gK) : ME l g yX2_tellSum wsX2_tellSum ({ frames := 3, cells := 0, slots := 0, locals := 84 }) [.ref qL, .ref qP, .ref qX] [(qL, .inr (2, [.ref lK, .ref lT, .ref lS, .ref lU])), aI g lK 4 gK, aJ g lT 4 gT, (qP, .inr (4, [.ref pL, .ref pR, .ref pD, .ref pW, .ref pN, .ref pH, .ref pT, .int (iI pn)])), aI g pH 4 fH, (qX, .inr (0, [.long (jI ov), .long (jI un)]))] (fun r w1 => r = none ∧ w1 = [(qL, .inr (2, [.ref lK, .ref lT, .ref lS, .ref lU])), aI g lK 4 gK, aJ g lT 4 gT, (qP, .inr (4, [.ref pL, .ref pR, .ref pD, .ref pW, .ref pN, .ref pH, .ref pT, .int (iI pn)])), aI g pH 4 fH, (qX, .inr (0, [.long (jI ((foldF (sumC fH gK 0) (sumT fH gT) gK 4).1)), .long (jI ((foldF (sumC fH gK 0) (sumT fH gT) gK 4).2))]))]) := by
  refine ME.intro (cc := cX2_tellSum) (maxL := 4) (ret := none) (by decide) rfl (Nat.le_of_ble_eq_true rfl) ?_
  intro p e s m below meth c ls Q A H locs ⟨hx, hb, hr, hml, hown, hts, hlocks⟩ hP hE hl hD hA hS hQ
  have hl : lv_has ls 4 [(0, .ref qL), (1, .ref qP), (2, .ref qX)] := hl
  have iwX2 : ∀ w ∈ wsX20, w ∈ wsX2_tellSum := (fun _ h => List.mem_cons_of_mem _ (List.mem_append_left _ (List.mem_append_right _ h)))
  have iwX4 : ∀ w ∈ wsX40, w ∈ wsX2_tellSum := (fun _ h => List.mem_cons_of_mem _ (List.mem_append_left _ (List.mem_append_left _ (List.mem_append_right _ h))))
  refine lv_aload_n hx hb dX2_tellSum_0 rfl (lv_at hl 2 rfl) ?_
  refine q_call (rest := []) (wr := [(qL, .inr (2, [.ref lK, .ref lT, .ref lS, .ref lU])), aI g lK 4 gK, aJ g lT 4 gT, (qP, .inr (4, [.ref pL, .ref pR, .ref pD, .ref pW, .ref pN, .ref pH, .ref pT, .int (iI pn)])), aI g pH 4 fH]) (q_runEVN (As := []) ⟨hx, hb, hml, hown, hts⟩ (kX0_clear l g qX ov un ) ⟨va_cnB 0 hts ggX2_tellSum_X0_clear rfl rfl rfl (hE.2 (.methodLinkNest "QuickCount$Land" 61 yX0_clear "QuickCount") (List.mem_of_getElem? (i := 34) rfl)) (hts (.initialized RX0) (List.mem_cons_of_mem _ (List.mem_append_left _ (List.mem_append_left _ (List.mem_append_left _ (List.mem_of_getElem? (i := 3) rfl)))))) (by decide +kernel) ⟨Nat.le_of_ble_eq_true rfl, Nat.le_of_ble_eq_true rfl⟩, (hts (.instanceMethod yX0_clear) (List.mem_cons_of_mem _ (List.mem_append_left _ (List.mem_append_left _ (List.mem_append_left _ (List.mem_of_getElem? (i := 2) rfl)))))), (hts (.selects RX0 yX0_clear yX0_clear) (List.mem_cons_of_mem _ (List.mem_append_left _ (List.mem_append_left _ (List.mem_append_left _ (List.mem_of_getElem? (i := 4) rfl))))))⟩ (va_recv hE.1 hP (ci := 0) (q0 := 5) rfl rfl) hE (hP.sub (ws' := [(qX, .inr (0, [.long (jI ov), .long (jI un)]))]) [5] rfl) (hD.sub (ws' := [(qX, .inr (0, [.long (jI ov), .long (jI un)]))]) [5] (by decide) rfl) rfl hl.1 (Nat.le_of_ble_eq_true rfl) dX2_tellSum_1 ⟨Nat.zero_le _, Nat.zero_le _⟩) hP hD hS hA [5] [0, 1, 2, 3, 4] rfl rfl (by decide) (by decide) (fun r_ w_ H locs hq_1 hP hD hS => ?_)
  obtain ⟨rfl, rfl⟩ := hq_1
  have hP : va_P g.1 vwCl [(qL, .inr (2, [.ref lK, .ref lT, .ref lS, .ref lU])), aI g lK 4 gK, aJ g lT 4 gT, (qP, .inr (4, [.ref pL, .ref pR, .ref pD, .ref pW, .ref pN, .ref pH, .ref pT, .int (iI pn)])), aI g pH 4 fH, (qX, .inr (0, [.long (jI 0), .long (jI 1)]))] H := hP
  have hD : va_D A [(qL, .inr (2, [.ref lK, .ref lT, .ref lS, .ref lU])), aI g lK 4 gK, aJ g lT 4 gT, (qP, .inr (4, [.ref pL, .ref pR, .ref pD, .ref pW, .ref pN, .ref pH, .ref pT, .int (iI pn)])), aI g pH 4 fH, (qX, .inr (0, [.long (jI 0), .long (jI 1)]))] := hD
  refine W.eq (g2 := F0 m 4 ls []) rfl ?_
  refine lv_iconst (v := iI 0) hx hb dX2_tellSum_4 rfl ?_
  refine lv_istore_n (lv' := [(3, .int (iI 0)), (0, .ref qL), (1, .ref qP), (2, .ref qX)]) hx hb dX2_tellSum_5 rfl hl (by decide) rfl (fun ls hl => ?_)
  have K_2 : ∀ (fu_4 : Nat) (k : Nat) (i : Int) (ov2 : Int) (un2 : Int), (i = (k : Int)) → (k ≤ 4) → (foldF (sumC fH gK 0) (sumT fH gT) gK k = (ov2, un2)) → 4 - k < fu_4 → ∀ (H : Heap) (locs : List Loc) (ls : Array Slot), va_P g.1 vwCl [(qL, .inr (2, [.ref lK, .ref lT, .ref lS, .ref lU])), aI g lK 4 gK, aJ g lT 4 gT, (qP, .inr (4, [.ref pL, .ref pR, .ref pD, .ref pW, .ref pN, .ref pH, .ref pT, .int (iI pn)])), aI g pH 4 fH, (qX, .inr (0, [.long (jI ov2), .long (jI un2)]))] H → va_D A [(qL, .inr (2, [.ref lK, .ref lT, .ref lS, .ref lU])), aI g lK 4 gK, aJ g lT 4 gT, (qP, .inr (4, [.ref pL, .ref pR, .ref pD, .ref pW, .ref pN, .ref pH, .ref pT, .int (iI pn)])), aI g pH 4 fH, (qX, .inr (0, [.long (jI ov2), .long (jI un2)]))] → va_S A s.heap H locs → lv_has ls 4 [(3, .int (iI i)), (0, .ref qL), (1, .ref qP), (2, .ref qX)] → W p l e ({ frames := 3, cells := 0, slots := 0, locals := 84 } : Room) s m ([.ref qL, .ref qP, .ref qX] : List Value).toArray below meth c H locs 0 0 Q (F0 m 6 ls []) := by
    intro fu_4
    induction fu_4 with
    | zero => exact fun _ _ _ _ _ _ _ q => absurd q (Nat.not_lt_zero _)
    | succ fu_4 ih_3 =>
      intro k i ov2 un2 e_i h_k e_q hm_5 H locs ls hP hD hS hl
      subst e_i
      refine lv_iload_n hx hb dX2_tellSum_6 rfl (lv_at hl 0 rfl) ?_
      refine lv_iconst (v := iI 4) hx hb dX2_tellSum_7 rfl ?_
      refine q_icmp_ge (tgt := 60) hx hb dX2_tellSum_8 (by decide) (by omega) (fun c_6 => ?_) (fun c_6 => ?_)
      · exact qe_v hx hb hr hlocks hQ hS dX2_tellSum_60 hP hD (⟨rfl, by rw [show (4 : Nat) = k by omega, e_q]⟩)
      · refine lv_aload_n hx hb dX2_tellSum_11 rfl (lv_at hl 2 rfl) ?_
        refine va_getN (D := g.1) (ci := 4) (v := .ref pH) (C := RX4) (T := TX4) (N := 8) hx hb hts iwX4 hown hE.1 hP 3 rfl rfl 5 (by decide) (va_Nw.use (w := .fieldLinkNest "QuickCount$Land" 54 "QuickCount$PollBook" "had" "[I" "QuickCount") rfl (hE.2 _ (List.mem_of_getElem? (i := 54) rfl))) (fun _ h9 => h9) rfl dX2_tellSum_12 ?_
        refine lv_iload_n hx hb dX2_tellSum_15 rfl (lv_at hl 0 rfl) ?_
        refine q_iald hx hb hE hP 4 rfl k (by omega) (by decide) dX2_tellSum_16 ?_
        have rg_7 := h_fH k
        refine q_if_le (tgt := 54) hx hb dX2_tellSum_17 (by decide) (by omega) (fun c_8 => ?_) (fun c_8 => ?_)
        · refine lv_iinc (v := (iI ((k : Int) + 1))) (lv' := [(3, .int (iI ((k : Int) + 1))), (0, .ref qL), (1, .ref qP), (2, .ref qX)]) hx hb dX2_tellSum_54 hl (k := 0) rfl (iI_add _ _) (by decide) rfl (fun ls hl => ?_)
          refine lv_goto (tgt := 6) hx hb dX2_tellSum_57 (by decide) ?_
          exact ih_3  (k + 1) ((k : Int) + 1) ov2 un2 (by omega) (by omega) (by first | exact foldF_y okc e_q | (rw [foldF_n (sumC_n (by omega))]; exact e_q)) (by omega) _ _ ls (hP.sub [0, 1, 2, 3, 4, 5] rfl) (hD.sub [0, 1, 2, 3, 4, 5] (by decide) rfl) hS (lv_sub hl [0, 1, 2, 3] rfl)
        · refine lv_aload_n hx hb dX2_tellSum_20 rfl (lv_at hl 1 rfl) ?_
          refine va_get (D := g.1) (ci := 2) (v := .ref lK) (C := RX2) (T := TX2) (N := 4) hx hb hts iwX2 hown hE.1 hP 0 rfl rfl 0 (by decide) (hts (.fieldLink RX2 9 "QuickCount$Land" "knownMany" "[I") (List.mem_cons_of_mem _ (List.mem_append_left _ (List.mem_append_left _ (List.mem_append_left _ (List.mem_of_getElem? (i := 0) rfl)))))) (fun _ h9 => h9) rfl dX2_tellSum_21 ?_
          refine lv_iload_n hx hb dX2_tellSum_24 rfl (lv_at hl 0 rfl) ?_
          refine q_iald hx hb hE hP 1 rfl k (by omega) (by decide) dX2_tellSum_25 ?_
          have rg_9 := h_gK k
          refine q_if_le (tgt := 54) hx hb dX2_tellSum_26 (by decide) (by omega) (fun c_10 => ?_) (fun c_10 => ?_)
          · refine lv_iinc (v := (iI ((k : Int) + 1))) (lv' := [(3, .int (iI ((k : Int) + 1))), (0, .ref qL), (1, .ref qP), (2, .ref qX)]) hx hb dX2_tellSum_54 hl (k := 0) rfl (iI_add _ _) (by decide) rfl (fun ls hl => ?_)
            refine lv_goto (tgt := 6) hx hb dX2_tellSum_57 (by decide) ?_
            exact ih_3  (k + 1) ((k : Int) + 1) ov2 un2 (by omega) (by omega) (by first | exact foldF_y okc e_q | (rw [foldF_n (sumC_n (by omega))]; exact e_q)) (by omega) _ _ ls (hP.sub [0, 1, 2, 3, 4, 5] rfl) (hD.sub [0, 1, 2, 3, 4, 5] (by decide) rfl) hS (lv_sub hl [0, 1, 2, 3] rfl)
          · have okc := sumC_y (fH := fH) (gK := gK) (m := 0) (l := k) (by omega) (by omega)
            have hok := h_ok k (by omega) okc
            rw [e_q] at hok
            obtain ⟨ok1, ok2, ok3, ok4⟩ := hok
            refine lv_aload_n hx hb dX2_tellSum_29 rfl (lv_at hl 3 rfl) ?_
            refine lv_aload_n hx hb dX2_tellSum_30 rfl (lv_at hl 2 rfl) ?_
            refine va_getN (D := g.1) (ci := 4) (v := .ref pH) (C := RX4) (T := TX4) (N := 8) hx hb hts iwX4 hown hE.1 hP 3 rfl rfl 5 (by decide) (va_Nw.use (w := .fieldLinkNest "QuickCount$Land" 54 "QuickCount$PollBook" "had" "[I" "QuickCount") rfl (hE.2 _ (List.mem_of_getElem? (i := 54) rfl))) (fun _ h9 => h9) rfl dX2_tellSum_31 ?_
            refine lv_iload_n hx hb dX2_tellSum_34 rfl (lv_at hl 0 rfl) ?_
            refine q_iald hx hb hE hP 4 rfl k (by omega) (by decide) dX2_tellSum_35 ?_
            have rg_11 := h_fH k
            refine q_i2l hx hb dX2_tellSum_36 (by omega) ?_
            refine lv_aload_n hx hb dX2_tellSum_37 rfl (lv_at hl 1 rfl) ?_
            refine va_get (D := g.1) (ci := 2) (v := .ref lT) (C := RX2) (T := TX2) (N := 4) hx hb hts iwX2 hown hE.1 hP 0 rfl rfl 1 (by decide) (hts (.fieldLink RX2 15 "QuickCount$Land" "together" "[J") (List.mem_cons_of_mem _ (List.mem_append_left _ (List.mem_append_left _ (List.mem_append_left _ (List.mem_of_getElem? (i := 1) rfl)))))) (fun _ h9 => h9) rfl dX2_tellSum_38 ?_
            refine lv_iload_n hx hb dX2_tellSum_41 rfl (lv_at hl 0 rfl) ?_
            refine q_lald hx hb hE hP 2 rfl k (by omega) (by decide) dX2_tellSum_42 ?_
            refine q_lmul hx hb dX2_tellSum_43 ?_
            refine lv_aload_n hx hb dX2_tellSum_44 rfl (lv_at hl 1 rfl) ?_
            refine va_get (D := g.1) (ci := 2) (v := .ref lK) (C := RX2) (T := TX2) (N := 4) hx hb hts iwX2 hown hE.1 hP 0 rfl rfl 0 (by decide) (hts (.fieldLink RX2 9 "QuickCount$Land" "knownMany" "[I") (List.mem_cons_of_mem _ (List.mem_append_left _ (List.mem_append_left _ (List.mem_append_left _ (List.mem_of_getElem? (i := 0) rfl)))))) (fun _ h9 => h9) rfl dX2_tellSum_45 ?_
            refine lv_iload_n hx hb dX2_tellSum_48 rfl (lv_at hl 0 rfl) ?_
            refine q_iald hx hb hE hP 1 rfl k (by omega) (by decide) dX2_tellSum_49 ?_
            have rg_12 := h_gK k
            refine q_i2l hx hb dX2_tellSum_50 (by omega) ?_
            refine q_call (rest := []) (wr := [(qL, .inr (2, [.ref lK, .ref lT, .ref lS, .ref lU])), aI g lK 4 gK, aJ g lT 4 gT, (qP, .inr (4, [.ref pL, .ref pR, .ref pD, .ref pW, .ref pN, .ref pH, .ref pT, .int (iI pn)])), aI g pH 4 fH]) (q_runEVN (As := [.long (jI ((fH k) * (gT k))), .long (jI (gK k))]) ⟨hx, hb, hml, hown, hts⟩ (kX0_add l g qX ov2 un2 ((fH k) * (gT k)) (gK k) (ok1) (ok2) (ok3) (ok4)) ⟨va_cnB 2 hts ggX2_tellSum_X0_add rfl rfl rfl (hE.2 (.methodLinkNest "QuickCount$Land" 66 yX0_add "QuickCount") (List.mem_of_getElem? (i := 35) rfl)) (hts (.initialized RX0) (List.mem_cons_of_mem _ (List.mem_append_left _ (List.mem_append_left _ (List.mem_append_left _ (List.mem_of_getElem? (i := 3) rfl)))))) (by decide +kernel) ⟨Nat.le_of_ble_eq_true rfl, Nat.le_of_ble_eq_true rfl⟩, (hts (.instanceMethod yX0_add) (List.mem_cons_of_mem _ (List.mem_append_left _ (List.mem_append_left _ (List.mem_append_left _ (List.mem_of_getElem? (i := 8) rfl)))))), (hts (.selects RX0 yX0_add yX0_add) (List.mem_cons_of_mem _ (List.mem_append_left _ (List.mem_append_left _ (List.mem_append_left _ (List.mem_of_getElem? (i := 9) rfl))))))⟩ (va_recv hE.1 hP (ci := 0) (q0 := 5) rfl rfl) hE (hP.sub (ws' := [(qX, .inr (0, [.long (jI ov2), .long (jI un2)]))]) [5] rfl) (hD.sub (ws' := [(qX, .inr (0, [.long (jI ov2), .long (jI un2)]))]) [5] (by decide) rfl) rfl hl.1 (Nat.le_of_ble_eq_true rfl) dX2_tellSum_51 ⟨Nat.zero_le _, Nat.zero_le _⟩) hP hD hS hA [5] [0, 1, 2, 3, 4] rfl rfl (by decide) (by decide) (fun r_ w_ H locs hq_13 hP hD hS => ?_)
            obtain ⟨rfl, rfl⟩ := hq_13
            have hP : va_P g.1 vwCl [(qL, .inr (2, [.ref lK, .ref lT, .ref lS, .ref lU])), aI g lK 4 gK, aJ g lT 4 gT, (qP, .inr (4, [.ref pL, .ref pR, .ref pD, .ref pW, .ref pN, .ref pH, .ref pT, .int (iI pn)])), aI g pH 4 fH, (qX, .inr (0, [.long (jI (redN (addN ov2 un2 ((fH k) * (gT k)) (gK k)) (addD un2 (gK k)))), .long (jI (redD (addN ov2 un2 ((fH k) * (gT k)) (gK k)) (addD un2 (gK k))))]))] H := hP
            have hD : va_D A [(qL, .inr (2, [.ref lK, .ref lT, .ref lS, .ref lU])), aI g lK 4 gK, aJ g lT 4 gT, (qP, .inr (4, [.ref pL, .ref pR, .ref pD, .ref pW, .ref pN, .ref pH, .ref pT, .int (iI pn)])), aI g pH 4 fH, (qX, .inr (0, [.long (jI (redN (addN ov2 un2 ((fH k) * (gT k)) (gK k)) (addD un2 (gK k)))), .long (jI (redD (addN ov2 un2 ((fH k) * (gT k)) (gK k)) (addD un2 (gK k))))]))] := hD
            refine W.eq (g2 := F0 m 54 ls []) rfl ?_
            refine lv_iinc (v := (iI ((k : Int) + 1))) (lv' := [(3, .int (iI ((k : Int) + 1))), (0, .ref qL), (1, .ref qP), (2, .ref qX)]) hx hb dX2_tellSum_54 hl (k := 0) rfl (iI_add _ _) (by decide) rfl (fun ls hl => ?_)
            refine lv_goto (tgt := 6) hx hb dX2_tellSum_57 (by decide) ?_
            exact ih_3  (k + 1) ((k : Int) + 1) (redN (addN ov2 un2 ((fH k) * (gT k)) (gK k)) (addD un2 (gK k))) (redD (addN ov2 un2 ((fH k) * (gT k)) (gK k)) (addD un2 (gK k))) (by omega) (by omega) (by first | exact foldF_y okc e_q | (rw [foldF_n (sumC_n (by omega))]; exact e_q)) (by omega) _ _ ls (hP.sub [0, 1, 2, 3, 4, 5] rfl) (hD.sub [0, 1, 2, 3, 4, 5] (by decide) rfl) hS (lv_sub hl [0, 1, 2, 3] rfl)
  exact K_2 (4 - 0 + 1) 0 0 0 1 (rfl) (by omega) (rfl) (Nat.lt_succ_self _) _ _ ls (hP.sub [0, 1, 2, 3, 4, 5] rfl) (hD.sub [0, 1, 2, 3, 4, 5] (by decide) rfl) hS (lv_sub hl [0, 1, 2, 3] rfl)
set_option maxHeartbeats 4000000 in
set_option maxRecDepth 100000 in
theorem kX2_tellDoubt (l : Launch) (g : qG) (qL : Nat) (lK : Nat) (lT : Nat) (lS : Nat) (lU : Nat) (qP : Nat) (pL : Nat) (pR : Nat) (pD : Nat) (pW : Nat) (pN : Nat) (pH : Nat) (pT : Nat) (qX : Nat) (ov : Int) (un : Int) (gK : Nat → Int) (gT : Nat → Int) (gS : Nat → Int) (fH : Nat → Int) (pn : Int) (h_gK : ∀ k, k < 4 → 0 ≤ gK k ∧ gK k ≤ 40) (h_fH : ∀ k, 0 ≤ fH k ∧ fH k ≤ 40) (h_ok : foldOk (sumC fH gK 1) (douT fH gK gT gS) (douB gK)) : ME l g yX2_tellDoubt wsX2_tellDoubt ({ frames := 3, cells := 0, slots := 0, locals := 84 }) [.ref qL, .ref qP, .ref qX] [(qL, .inr (2, [.ref lK, .ref lT, .ref lS, .ref lU])), aI g lK 4 gK, aJ g lT 4 gT, aJ g lS 4 gS, (qP, .inr (4, [.ref pL, .ref pR, .ref pD, .ref pW, .ref pN, .ref pH, .ref pT, .int (iI pn)])), aI g pH 4 fH, (qX, .inr (0, [.long (jI ov), .long (jI un)]))] (fun r w1 => r = none ∧ w1 = [(qL, .inr (2, [.ref lK, .ref lT, .ref lS, .ref lU])), aI g lK 4 gK, aJ g lT 4 gT, aJ g lS 4 gS, (qP, .inr (4, [.ref pL, .ref pR, .ref pD, .ref pW, .ref pN, .ref pH, .ref pT, .int (iI pn)])), aI g pH 4 fH, (qX, .inr (0, [.long (jI ((foldF (sumC fH gK 1) (douT fH gK gT gS) (douB gK) 4).1)), .long (jI ((foldF (sumC fH gK 1) (douT fH gK gT gS) (douB gK) 4).2))]))]) := by
  refine ME.intro (cc := cX2_tellDoubt) (maxL := 8) (ret := none) (by decide) rfl (Nat.le_of_ble_eq_true rfl) ?_
  intro p e s m below meth c ls Q A H locs ⟨hx, hb, hr, hml, hown, hts, hlocks⟩ hP hE hl hD hA hS hQ
  have hl : lv_has ls 8 [(0, .ref qL), (1, .ref qP), (2, .ref qX)] := hl
  have iwX2 : ∀ w ∈ wsX20, w ∈ wsX2_tellDoubt := (fun _ h => List.mem_cons_of_mem _ (List.mem_append_left _ (List.mem_append_left _ (List.mem_append_right _ h))))
  have iwX4 : ∀ w ∈ wsX40, w ∈ wsX2_tellDoubt := (fun _ h => List.mem_cons_of_mem _ (List.mem_append_left _ (List.mem_append_right _ h)))
  refine lv_aload_n hx hb dX2_tellDoubt_0 rfl (lv_at hl 2 rfl) ?_
  refine q_call (rest := []) (wr := [(qL, .inr (2, [.ref lK, .ref lT, .ref lS, .ref lU])), aI g lK 4 gK, aJ g lT 4 gT, aJ g lS 4 gS, (qP, .inr (4, [.ref pL, .ref pR, .ref pD, .ref pW, .ref pN, .ref pH, .ref pT, .int (iI pn)])), aI g pH 4 fH]) (q_runEVN (As := []) ⟨hx, hb, hml, hown, hts⟩ (kX0_clear l g qX ov un ) ⟨va_cnB 0 hts ggX2_tellDoubt_X0_clear rfl rfl rfl (hE.2 (.methodLinkNest "QuickCount$Land" 61 yX0_clear "QuickCount") (List.mem_of_getElem? (i := 34) rfl)) (hts (.initialized RX0) (List.mem_cons_of_mem _ (List.mem_append_left _ (List.mem_append_left _ (List.mem_append_left _ (List.mem_of_getElem? (i := 4) rfl)))))) (by decide +kernel) ⟨Nat.le_of_ble_eq_true rfl, Nat.le_of_ble_eq_true rfl⟩, (hts (.instanceMethod yX0_clear) (List.mem_cons_of_mem _ (List.mem_append_left _ (List.mem_append_left _ (List.mem_append_left _ (List.mem_of_getElem? (i := 3) rfl)))))), (hts (.selects RX0 yX0_clear yX0_clear) (List.mem_cons_of_mem _ (List.mem_append_left _ (List.mem_append_left _ (List.mem_append_left _ (List.mem_of_getElem? (i := 5) rfl))))))⟩ (va_recv hE.1 hP (ci := 0) (q0 := 6) rfl rfl) hE (hP.sub (ws' := [(qX, .inr (0, [.long (jI ov), .long (jI un)]))]) [6] rfl) (hD.sub (ws' := [(qX, .inr (0, [.long (jI ov), .long (jI un)]))]) [6] (by decide) rfl) rfl hl.1 (Nat.le_of_ble_eq_true rfl) dX2_tellDoubt_1 ⟨Nat.zero_le _, Nat.zero_le _⟩) hP hD hS hA [6] [0, 1, 2, 3, 4, 5] rfl rfl (by decide) (by decide) (fun r_ w_ H locs hq_1 hP hD hS => ?_)
  obtain ⟨rfl, rfl⟩ := hq_1
  have hP : va_P g.1 vwCl [(qL, .inr (2, [.ref lK, .ref lT, .ref lS, .ref lU])), aI g lK 4 gK, aJ g lT 4 gT, aJ g lS 4 gS, (qP, .inr (4, [.ref pL, .ref pR, .ref pD, .ref pW, .ref pN, .ref pH, .ref pT, .int (iI pn)])), aI g pH 4 fH, (qX, .inr (0, [.long (jI 0), .long (jI 1)]))] H := hP
  have hD : va_D A [(qL, .inr (2, [.ref lK, .ref lT, .ref lS, .ref lU])), aI g lK 4 gK, aJ g lT 4 gT, aJ g lS 4 gS, (qP, .inr (4, [.ref pL, .ref pR, .ref pD, .ref pW, .ref pN, .ref pH, .ref pT, .int (iI pn)])), aI g pH 4 fH, (qX, .inr (0, [.long (jI 0), .long (jI 1)]))] := hD
  refine W.eq (g2 := F0 m 4 ls []) rfl ?_
  refine lv_iconst (v := iI 0) hx hb dX2_tellDoubt_4 rfl ?_
  refine lv_istore_n (lv' := [(3, .int (iI 0)), (0, .ref qL), (1, .ref qP), (2, .ref qX)]) hx hb dX2_tellDoubt_5 rfl hl (by decide) rfl (fun ls hl => ?_)
  have K_2 : ∀ (fu_4 : Nat) (k : Nat) (i : Int) (ov2 : Int) (un2 : Int), (i = (k : Int)) → (k ≤ 4) → (foldF (sumC fH gK 1) (douT fH gK gT gS) (douB gK) k = (ov2, un2)) → 4 - k < fu_4 → ∀ (H : Heap) (locs : List Loc) (ls : Array Slot), va_P g.1 vwCl [(qL, .inr (2, [.ref lK, .ref lT, .ref lS, .ref lU])), aI g lK 4 gK, aJ g lT 4 gT, aJ g lS 4 gS, (qP, .inr (4, [.ref pL, .ref pR, .ref pD, .ref pW, .ref pN, .ref pH, .ref pT, .int (iI pn)])), aI g pH 4 fH, (qX, .inr (0, [.long (jI ov2), .long (jI un2)]))] H → va_D A [(qL, .inr (2, [.ref lK, .ref lT, .ref lS, .ref lU])), aI g lK 4 gK, aJ g lT 4 gT, aJ g lS 4 gS, (qP, .inr (4, [.ref pL, .ref pR, .ref pD, .ref pW, .ref pN, .ref pH, .ref pT, .int (iI pn)])), aI g pH 4 fH, (qX, .inr (0, [.long (jI ov2), .long (jI un2)]))] → va_S A s.heap H locs → lv_has ls 8 [(3, .int (iI i)), (0, .ref qL), (1, .ref qP), (2, .ref qX)] → W p l e ({ frames := 3, cells := 0, slots := 0, locals := 84 } : Room) s m ([.ref qL, .ref qP, .ref qX] : List Value).toArray below meth c H locs 0 0 Q (F0 m 6 ls []) := by
    intro fu_4
    induction fu_4 with
    | zero => exact fun _ _ _ _ _ _ _ q => absurd q (Nat.not_lt_zero _)
    | succ fu_4 ih_3 =>
      intro k i ov2 un2 e_i h_k e_q hm_5 H locs ls hP hD hS hl
      subst e_i
      refine lv_iload_n hx hb dX2_tellDoubt_6 rfl (lv_at hl 0 rfl) ?_
      refine lv_iconst (v := iI 4) hx hb dX2_tellDoubt_7 rfl ?_
      refine q_icmp_ge (tgt := 102) hx hb dX2_tellDoubt_8 (by decide) (by omega) (fun c_6 => ?_) (fun c_6 => ?_)
      · exact qe_v hx hb hr hlocks hQ hS dX2_tellDoubt_102 hP hD (⟨rfl, by rw [show (4 : Nat) = k by omega, e_q]⟩)
      · refine lv_aload_n hx hb dX2_tellDoubt_11 rfl (lv_at hl 1 rfl) ?_
        refine va_get (D := g.1) (ci := 2) (v := .ref lK) (C := RX2) (T := TX2) (N := 4) hx hb hts iwX2 hown hE.1 hP 0 rfl rfl 0 (by decide) (hts (.fieldLink RX2 9 "QuickCount$Land" "knownMany" "[I") (List.mem_cons_of_mem _ (List.mem_append_left _ (List.mem_append_left _ (List.mem_append_left _ (List.mem_of_getElem? (i := 0) rfl)))))) (fun _ h9 => h9) rfl dX2_tellDoubt_12 ?_
        refine lv_iload_n hx hb dX2_tellDoubt_15 rfl (lv_at hl 0 rfl) ?_
        refine q_iald hx hb hE hP 1 rfl k (by omega) (by decide) dX2_tellDoubt_16 ?_
        have rg_7 := h_gK k
        refine q_i2l hx hb dX2_tellDoubt_17 (by omega) ?_
        refine lv_lstore (lv' := [(4, .long (jI (gK k))), (3, .int (iI (k : Int))), (0, .ref qL), (1, .ref qP), (2, .ref qX)]) hx hb dX2_tellDoubt_18 hl (by decide) rfl (fun ls hl => ?_)
        refine lv_aload_n hx hb dX2_tellDoubt_20 rfl (lv_at hl 3 rfl) ?_
        refine va_getN (D := g.1) (ci := 4) (v := .ref pH) (C := RX4) (T := TX4) (N := 8) hx hb hts iwX4 hown hE.1 hP 4 rfl rfl 5 (by decide) (va_Nw.use (w := .fieldLinkNest "QuickCount$Land" 54 "QuickCount$PollBook" "had" "[I" "QuickCount") rfl (hE.2 _ (List.mem_of_getElem? (i := 54) rfl))) (fun _ h9 => h9) rfl dX2_tellDoubt_21 ?_
        refine lv_iload_n hx hb dX2_tellDoubt_24 rfl (lv_at hl 1 rfl) ?_
        refine q_iald hx hb hE hP 5 rfl k (by omega) (by decide) dX2_tellDoubt_25 ?_
        have rg_8 := h_fH k
        refine q_if_le (tgt := 96) hx hb dX2_tellDoubt_26 (by decide) (by omega) (fun c_9 => ?_) (fun c_9 => ?_)
        · refine lv_iinc (v := (iI ((k : Int) + 1))) (lv' := [(3, .int (iI ((k : Int) + 1))), (4, .long (jI (gK k))), (0, .ref qL), (1, .ref qP), (2, .ref qX)]) hx hb dX2_tellDoubt_96 hl (k := 1) rfl (iI_add _ _) (by decide) rfl (fun ls hl => ?_)
          refine lv_goto (tgt := 6) hx hb dX2_tellDoubt_99 (by decide) ?_
          exact ih_3  (k + 1) ((k : Int) + 1) ov2 un2 (by omega) (by omega) (by first | exact foldF_y okc e_q | (rw [foldF_n (sumC_n (by omega))]; exact e_q)) (by omega) _ _ ls (hP.sub [0, 1, 2, 3, 4, 5, 6] rfl) (hD.sub [0, 1, 2, 3, 4, 5, 6] (by decide) rfl) hS (lv_sub hl [0, 2, 3, 4] rfl)
        · refine lv_lload hx hb dX2_tellDoubt_29 (lv_at hl 0 rfl) ?_
          refine lv_lconst (v := jI 1) hx hb dX2_tellDoubt_31 (by decide) ?_
          refine q_lif_le (tgt := 96) hx hb dX2_tellDoubt_32 dX2_tellDoubt_33 (by decide) (by omega) (fun c_10 => ?_) (fun c_10 => ?_)
          · refine lv_iinc (v := (iI ((k : Int) + 1))) (lv' := [(3, .int (iI ((k : Int) + 1))), (4, .long (jI (gK k))), (0, .ref qL), (1, .ref qP), (2, .ref qX)]) hx hb dX2_tellDoubt_96 hl (k := 1) rfl (iI_add _ _) (by decide) rfl (fun ls hl => ?_)
            refine lv_goto (tgt := 6) hx hb dX2_tellDoubt_99 (by decide) ?_
            exact ih_3  (k + 1) ((k : Int) + 1) ov2 un2 (by omega) (by omega) (by first | exact foldF_y okc e_q | (rw [foldF_n (sumC_n (by omega))]; exact e_q)) (by omega) _ _ ls (hP.sub [0, 1, 2, 3, 4, 5, 6] rfl) (hD.sub [0, 1, 2, 3, 4, 5, 6] (by decide) rfl) hS (lv_sub hl [0, 2, 3, 4] rfl)
          · have okc := sumC_y (fH := fH) (gK := gK) (m := 1) (l := k) (by omega) (by omega)
            have hok := h_ok k (by omega) okc
            rw [e_q] at hok
            obtain ⟨ok1, ok2, ok3, ok4⟩ := hok
            refine lv_lload hx hb dX2_tellDoubt_36 (lv_at hl 0 rfl) ?_
            refine lv_aload_n hx hb dX2_tellDoubt_38 rfl (lv_at hl 2 rfl) ?_
            refine va_get (D := g.1) (ci := 2) (v := .ref lS) (C := RX2) (T := TX2) (N := 4) hx hb hts iwX2 hown hE.1 hP 0 rfl rfl 2 (by decide) (hts (.fieldLink RX2 19 "QuickCount$Land" "squares" "[J") (List.mem_cons_of_mem _ (List.mem_append_left _ (List.mem_append_left _ (List.mem_append_left _ (List.mem_of_getElem? (i := 1) rfl)))))) (fun _ h9 => h9) rfl dX2_tellDoubt_39 ?_
            refine lv_iload_n hx hb dX2_tellDoubt_42 rfl (lv_at hl 1 rfl) ?_
            refine q_lald hx hb hE hP 3 rfl k (by omega) (by decide) dX2_tellDoubt_43 ?_
            refine q_lmul hx hb dX2_tellDoubt_44 ?_
            refine lv_aload_n hx hb dX2_tellDoubt_45 rfl (lv_at hl 2 rfl) ?_
            refine va_get (D := g.1) (ci := 2) (v := .ref lT) (C := RX2) (T := TX2) (N := 4) hx hb hts iwX2 hown hE.1 hP 0 rfl rfl 1 (by decide) (hts (.fieldLink RX2 15 "QuickCount$Land" "together" "[J") (List.mem_cons_of_mem _ (List.mem_append_left _ (List.mem_append_left _ (List.mem_append_left _ (List.mem_of_getElem? (i := 2) rfl)))))) (fun _ h9 => h9) rfl dX2_tellDoubt_46 ?_
            refine lv_iload_n hx hb dX2_tellDoubt_49 rfl (lv_at hl 1 rfl) ?_
            refine q_lald hx hb hE hP 2 rfl k (by omega) (by decide) dX2_tellDoubt_50 ?_
            refine lv_aload_n hx hb dX2_tellDoubt_51 rfl (lv_at hl 2 rfl) ?_
            refine va_get (D := g.1) (ci := 2) (v := .ref lT) (C := RX2) (T := TX2) (N := 4) hx hb hts iwX2 hown hE.1 hP 0 rfl rfl 1 (by decide) (hts (.fieldLink RX2 15 "QuickCount$Land" "together" "[J") (List.mem_cons_of_mem _ (List.mem_append_left _ (List.mem_append_left _ (List.mem_append_left _ (List.mem_of_getElem? (i := 2) rfl)))))) (fun _ h9 => h9) rfl dX2_tellDoubt_52 ?_
            refine lv_iload_n hx hb dX2_tellDoubt_55 rfl (lv_at hl 1 rfl) ?_
            refine q_lald hx hb hE hP 2 rfl k (by omega) (by decide) dX2_tellDoubt_56 ?_
            refine q_lmul hx hb dX2_tellDoubt_57 ?_
            refine q_lsub hx hb dX2_tellDoubt_58 ?_
            refine lv_lstore (lv' := [(6, .long (jI (((gK k) * (gS k)) - ((gT k) * (gT k))))), (4, .long (jI (gK k))), (3, .int (iI (k : Int))), (0, .ref qL), (1, .ref qP), (2, .ref qX)]) hx hb dX2_tellDoubt_59 hl (by decide) rfl (fun ls hl => ?_)
            refine lv_aload_n hx hb dX2_tellDoubt_61 rfl (lv_at hl 5 rfl) ?_
            refine lv_aload_n hx hb dX2_tellDoubt_62 rfl (lv_at hl 4 rfl) ?_
            refine va_getN (D := g.1) (ci := 4) (v := .ref pH) (C := RX4) (T := TX4) (N := 8) hx hb hts iwX4 hown hE.1 hP 4 rfl rfl 5 (by decide) (va_Nw.use (w := .fieldLinkNest "QuickCount$Land" 54 "QuickCount$PollBook" "had" "[I" "QuickCount") rfl (hE.2 _ (List.mem_of_getElem? (i := 54) rfl))) (fun _ h9 => h9) rfl dX2_tellDoubt_63 ?_
            refine lv_iload_n hx hb dX2_tellDoubt_66 rfl (lv_at hl 2 rfl) ?_
            refine q_iald hx hb hE hP 5 rfl k (by omega) (by decide) dX2_tellDoubt_67 ?_
            have rg_11 := h_fH k
            refine q_i2l hx hb dX2_tellDoubt_68 (by omega) ?_
            refine lv_aload_n hx hb dX2_tellDoubt_69 rfl (lv_at hl 4 rfl) ?_
            refine va_getN (D := g.1) (ci := 4) (v := .ref pH) (C := RX4) (T := TX4) (N := 8) hx hb hts iwX4 hown hE.1 hP 4 rfl rfl 5 (by decide) (va_Nw.use (w := .fieldLinkNest "QuickCount$Land" 54 "QuickCount$PollBook" "had" "[I" "QuickCount") rfl (hE.2 _ (List.mem_of_getElem? (i := 54) rfl))) (fun _ h9 => h9) rfl dX2_tellDoubt_70 ?_
            refine lv_iload_n hx hb dX2_tellDoubt_73 rfl (lv_at hl 2 rfl) ?_
            refine q_iald hx hb hE hP 5 rfl k (by omega) (by decide) dX2_tellDoubt_74 ?_
            have rg_12 := h_fH k
            refine q_i2l hx hb dX2_tellDoubt_75 (by omega) ?_
            refine lv_lload hx hb dX2_tellDoubt_76 (lv_at hl 1 rfl) ?_
            refine q_lsub hx hb dX2_tellDoubt_78 ?_
            refine q_lmul hx hb dX2_tellDoubt_79 ?_
            refine lv_lload hx hb dX2_tellDoubt_80 (lv_at hl 0 rfl) ?_
            refine q_lmul hx hb dX2_tellDoubt_82 ?_
            refine lv_lload hx hb dX2_tellDoubt_83 (lv_at hl 1 rfl) ?_
            refine lv_lload hx hb dX2_tellDoubt_85 (lv_at hl 1 rfl) ?_
            refine q_lmul hx hb dX2_tellDoubt_87 ?_
            refine lv_lload hx hb dX2_tellDoubt_88 (lv_at hl 1 rfl) ?_
            refine lv_lconst (v := jI 1) hx hb dX2_tellDoubt_90 (by decide) ?_
            refine q_lsub hx hb dX2_tellDoubt_91 ?_
            refine q_lmul hx hb dX2_tellDoubt_92 ?_
            refine q_call (rest := []) (wr := [(qL, .inr (2, [.ref lK, .ref lT, .ref lS, .ref lU])), aI g lK 4 gK, aJ g lT 4 gT, aJ g lS 4 gS, (qP, .inr (4, [.ref pL, .ref pR, .ref pD, .ref pW, .ref pN, .ref pH, .ref pT, .int (iI pn)])), aI g pH 4 fH]) (q_runEVN (As := [.long (jI (((fH k) * ((fH k) - (gK k))) * (((gK k) * (gS k)) - ((gT k) * (gT k))))), .long (jI (((gK k) * (gK k)) * ((gK k) - 1)))]) ⟨hx, hb, hml, hown, hts⟩ (kX0_add l g qX ov2 un2 (((fH k) * ((fH k) - (gK k))) * (((gK k) * (gS k)) - ((gT k) * (gT k)))) (((gK k) * (gK k)) * ((gK k) - 1)) (ok1) (ok2) (ok3) (ok4)) ⟨va_cnB 2 hts ggX2_tellDoubt_X0_add rfl rfl rfl (hE.2 (.methodLinkNest "QuickCount$Land" 66 yX0_add "QuickCount") (List.mem_of_getElem? (i := 35) rfl)) (hts (.initialized RX0) (List.mem_cons_of_mem _ (List.mem_append_left _ (List.mem_append_left _ (List.mem_append_left _ (List.mem_of_getElem? (i := 4) rfl)))))) (by decide +kernel) ⟨Nat.le_of_ble_eq_true rfl, Nat.le_of_ble_eq_true rfl⟩, (hts (.instanceMethod yX0_add) (List.mem_cons_of_mem _ (List.mem_append_left _ (List.mem_append_left _ (List.mem_append_left _ (List.mem_of_getElem? (i := 9) rfl)))))), (hts (.selects RX0 yX0_add yX0_add) (List.mem_cons_of_mem _ (List.mem_append_left _ (List.mem_append_left _ (List.mem_append_left _ (List.mem_of_getElem? (i := 10) rfl))))))⟩ (va_recv hE.1 hP (ci := 0) (q0 := 6) rfl rfl) hE (hP.sub (ws' := [(qX, .inr (0, [.long (jI ov2), .long (jI un2)]))]) [6] rfl) (hD.sub (ws' := [(qX, .inr (0, [.long (jI ov2), .long (jI un2)]))]) [6] (by decide) rfl) rfl hl.1 (Nat.le_of_ble_eq_true rfl) dX2_tellDoubt_93 ⟨Nat.zero_le _, Nat.zero_le _⟩) hP hD hS hA [6] [0, 1, 2, 3, 4, 5] rfl rfl (by decide) (by decide) (fun r_ w_ H locs hq_13 hP hD hS => ?_)
            obtain ⟨rfl, rfl⟩ := hq_13
            have hP : va_P g.1 vwCl [(qL, .inr (2, [.ref lK, .ref lT, .ref lS, .ref lU])), aI g lK 4 gK, aJ g lT 4 gT, aJ g lS 4 gS, (qP, .inr (4, [.ref pL, .ref pR, .ref pD, .ref pW, .ref pN, .ref pH, .ref pT, .int (iI pn)])), aI g pH 4 fH, (qX, .inr (0, [.long (jI (redN (addN ov2 un2 (((fH k) * ((fH k) - (gK k))) * (((gK k) * (gS k)) - ((gT k) * (gT k)))) (((gK k) * (gK k)) * ((gK k) - 1))) (addD un2 (((gK k) * (gK k)) * ((gK k) - 1))))), .long (jI (redD (addN ov2 un2 (((fH k) * ((fH k) - (gK k))) * (((gK k) * (gS k)) - ((gT k) * (gT k)))) (((gK k) * (gK k)) * ((gK k) - 1))) (addD un2 (((gK k) * (gK k)) * ((gK k) - 1)))))]))] H := hP
            have hD : va_D A [(qL, .inr (2, [.ref lK, .ref lT, .ref lS, .ref lU])), aI g lK 4 gK, aJ g lT 4 gT, aJ g lS 4 gS, (qP, .inr (4, [.ref pL, .ref pR, .ref pD, .ref pW, .ref pN, .ref pH, .ref pT, .int (iI pn)])), aI g pH 4 fH, (qX, .inr (0, [.long (jI (redN (addN ov2 un2 (((fH k) * ((fH k) - (gK k))) * (((gK k) * (gS k)) - ((gT k) * (gT k)))) (((gK k) * (gK k)) * ((gK k) - 1))) (addD un2 (((gK k) * (gK k)) * ((gK k) - 1))))), .long (jI (redD (addN ov2 un2 (((fH k) * ((fH k) - (gK k))) * (((gK k) * (gS k)) - ((gT k) * (gT k)))) (((gK k) * (gK k)) * ((gK k) - 1))) (addD un2 (((gK k) * (gK k)) * ((gK k) - 1)))))]))] := hD
            refine W.eq (g2 := F0 m 96 ls []) rfl ?_
            refine lv_iinc (v := (iI ((k : Int) + 1))) (lv' := [(3, .int (iI ((k : Int) + 1))), (6, .long (jI (((gK k) * (gS k)) - ((gT k) * (gT k))))), (4, .long (jI (gK k))), (0, .ref qL), (1, .ref qP), (2, .ref qX)]) hx hb dX2_tellDoubt_96 hl (k := 2) rfl (iI_add _ _) (by decide) rfl (fun ls hl => ?_)
            refine lv_goto (tgt := 6) hx hb dX2_tellDoubt_99 (by decide) ?_
            exact ih_3  (k + 1) ((k : Int) + 1) (redN (addN ov2 un2 (((fH k) * ((fH k) - (gK k))) * (((gK k) * (gS k)) - ((gT k) * (gT k)))) (((gK k) * (gK k)) * ((gK k) - 1))) (addD un2 (((gK k) * (gK k)) * ((gK k) - 1)))) (redD (addN ov2 un2 (((fH k) * ((fH k) - (gK k))) * (((gK k) * (gS k)) - ((gT k) * (gT k)))) (((gK k) * (gK k)) * ((gK k) - 1))) (addD un2 (((gK k) * (gK k)) * ((gK k) - 1)))) (by omega) (by omega) (by first | exact foldF_y okc e_q | (rw [foldF_n (sumC_n (by omega))]; exact e_q)) (by omega) _ _ ls (hP.sub [0, 1, 2, 3, 4, 5, 6] rfl) (hD.sub [0, 1, 2, 3, 4, 5, 6] (by decide) rfl) hS (lv_sub hl [0, 3, 4, 5] rfl)
  exact K_2 (4 - 0 + 1) 0 0 0 1 (rfl) (by omega) (rfl) (Nat.lt_succ_self _) _ _ ls (hP.sub [0, 1, 2, 3, 4, 5, 6] rfl) (hD.sub [0, 1, 2, 3, 4, 5, 6] (by decide) rfl) hS (lv_sub hl [0, 1, 2, 3] rfl)
set_option maxHeartbeats 4000000 in
set_option maxRecDepth 100000 in
theorem kX2_tellWorst (l : Launch) (g : qG) (qL : Nat) (lK : Nat) (lT : Nat) (lS : Nat) (lU : Nat) (qP : Nat) (pL : Nat) (pR : Nat) (pD : Nat) (pW : Nat) (pN : Nat) (pH : Nat) (pT : Nat) (qX : Nat) (ov : Int) (un : Int) (gT : Nat → Int) (gU : Nat → Int) (fH : Nat → Int) (fT : Nat → Int) (hi : Bool) (pn : Int) (h_fH : ∀ k, 0 ≤ fH k ∧ fH k ≤ 40) (h_fT : ∀ k, 0 ≤ fT k ∧ fT k ≤ 40) (h_ok : foldOk (worC fH) (worT fH gT gU hi) fT) : ME l g yX2_tellWorst wsX2_tellWorst ({ frames := 3, cells := 0, slots := 0, locals := 84 }) [.ref qL, .ref qP, .int (bP (hi = true)), .ref qX] [(qL, .inr (2, [.ref lK, .ref lT, .ref lS, .ref lU])), aJ g lT 4 gT, aJ g lU 4 gU, (qP, .inr (4, [.ref pL, .ref pR, .ref pD, .ref pW, .ref pN, .ref pH, .ref pT, .int (iI pn)])), aI g pH 4 fH, aI g pT 4 fT, (qX, .inr (0, [.long (jI ov), .long (jI un)]))] (fun r w1 => r = none ∧ w1 = [(qL, .inr (2, [.ref lK, .ref lT, .ref lS, .ref lU])), aJ g lT 4 gT, aJ g lU 4 gU, (qP, .inr (4, [.ref pL, .ref pR, .ref pD, .ref pW, .ref pN, .ref pH, .ref pT, .int (iI pn)])), aI g pH 4 fH, aI g pT 4 fT, (qX, .inr (0, [.long (jI ((foldF (worC fH) (worT fH gT gU hi) fT 4).1)), .long (jI ((foldF (worC fH) (worT fH gT gU hi) fT 4).2))]))]) := by
  refine ME.intro (cc := cX2_tellWorst) (maxL := 7) (ret := none) (by decide) rfl (Nat.le_of_ble_eq_true rfl) ?_
  intro p e s m below meth c ls Q A H locs ⟨hx, hb, hr, hml, hown, hts, hlocks⟩ hP hE hl hD hA hS hQ
  have hl : lv_has ls 7 [(0, .ref qL), (1, .ref qP), (2, .int (bP (hi = true))), (3, .ref qX)] := hl
  have iwX2 : ∀ w ∈ wsX20, w ∈ wsX2_tellWorst := (fun _ h => List.mem_cons_of_mem _ (List.mem_append_left _ (List.mem_append_right _ h)))
  have iwX4 : ∀ w ∈ wsX40, w ∈ wsX2_tellWorst := (fun _ h => List.mem_cons_of_mem _ (List.mem_append_left _ (List.mem_append_left _ (List.mem_append_right _ h))))
  refine lv_aload_n hx hb dX2_tellWorst_0 rfl (lv_at hl 3 rfl) ?_
  refine q_call (rest := []) (wr := [(qL, .inr (2, [.ref lK, .ref lT, .ref lS, .ref lU])), aJ g lT 4 gT, aJ g lU 4 gU, (qP, .inr (4, [.ref pL, .ref pR, .ref pD, .ref pW, .ref pN, .ref pH, .ref pT, .int (iI pn)])), aI g pH 4 fH, aI g pT 4 fT]) (q_runEVN (As := []) ⟨hx, hb, hml, hown, hts⟩ (kX0_clear l g qX ov un ) ⟨va_cnB 0 hts ggX2_tellWorst_X0_clear rfl rfl rfl (hE.2 (.methodLinkNest "QuickCount$Land" 61 yX0_clear "QuickCount") (List.mem_of_getElem? (i := 34) rfl)) (hts (.initialized RX0) (List.mem_cons_of_mem _ (List.mem_append_left _ (List.mem_append_left _ (List.mem_append_left _ (List.mem_of_getElem? (i := 3) rfl)))))) (by decide +kernel) ⟨Nat.le_of_ble_eq_true rfl, Nat.le_of_ble_eq_true rfl⟩, (hts (.instanceMethod yX0_clear) (List.mem_cons_of_mem _ (List.mem_append_left _ (List.mem_append_left _ (List.mem_append_left _ (List.mem_of_getElem? (i := 2) rfl)))))), (hts (.selects RX0 yX0_clear yX0_clear) (List.mem_cons_of_mem _ (List.mem_append_left _ (List.mem_append_left _ (List.mem_append_left _ (List.mem_of_getElem? (i := 4) rfl))))))⟩ (va_recv hE.1 hP (ci := 0) (q0 := 6) rfl rfl) hE (hP.sub (ws' := [(qX, .inr (0, [.long (jI ov), .long (jI un)]))]) [6] rfl) (hD.sub (ws' := [(qX, .inr (0, [.long (jI ov), .long (jI un)]))]) [6] (by decide) rfl) rfl hl.1 (Nat.le_of_ble_eq_true rfl) dX2_tellWorst_1 ⟨Nat.zero_le _, Nat.zero_le _⟩) hP hD hS hA [6] [0, 1, 2, 3, 4, 5] rfl rfl (by decide) (by decide) (fun r_ w_ H locs hq_1 hP hD hS => ?_)
  obtain ⟨rfl, rfl⟩ := hq_1
  have hP : va_P g.1 vwCl [(qL, .inr (2, [.ref lK, .ref lT, .ref lS, .ref lU])), aJ g lT 4 gT, aJ g lU 4 gU, (qP, .inr (4, [.ref pL, .ref pR, .ref pD, .ref pW, .ref pN, .ref pH, .ref pT, .int (iI pn)])), aI g pH 4 fH, aI g pT 4 fT, (qX, .inr (0, [.long (jI 0), .long (jI 1)]))] H := hP
  have hD : va_D A [(qL, .inr (2, [.ref lK, .ref lT, .ref lS, .ref lU])), aJ g lT 4 gT, aJ g lU 4 gU, (qP, .inr (4, [.ref pL, .ref pR, .ref pD, .ref pW, .ref pN, .ref pH, .ref pT, .int (iI pn)])), aI g pH 4 fH, aI g pT 4 fT, (qX, .inr (0, [.long (jI 0), .long (jI 1)]))] := hD
  refine W.eq (g2 := F0 m 4 ls []) rfl ?_
  refine lv_iconst (v := iI 0) hx hb dX2_tellWorst_4 rfl ?_
  refine lv_istore (lv' := [(4, .int (iI 0)), (0, .ref qL), (1, .ref qP), (2, .int (bP (hi = true))), (3, .ref qX)]) hx hb dX2_tellWorst_5 hl (by decide) rfl (fun ls hl => ?_)
  have K_2 : ∀ (fu_4 : Nat) (k : Nat) (i : Int) (ov2 : Int) (un2 : Int), (i = (k : Int)) → (k ≤ 4) → (foldF (worC fH) (worT fH gT gU hi) fT k = (ov2, un2)) → 4 - k < fu_4 → ∀ (H : Heap) (locs : List Loc) (ls : Array Slot), va_P g.1 vwCl [(qL, .inr (2, [.ref lK, .ref lT, .ref lS, .ref lU])), aJ g lT 4 gT, aJ g lU 4 gU, (qP, .inr (4, [.ref pL, .ref pR, .ref pD, .ref pW, .ref pN, .ref pH, .ref pT, .int (iI pn)])), aI g pH 4 fH, aI g pT 4 fT, (qX, .inr (0, [.long (jI ov2), .long (jI un2)]))] H → va_D A [(qL, .inr (2, [.ref lK, .ref lT, .ref lS, .ref lU])), aJ g lT 4 gT, aJ g lU 4 gU, (qP, .inr (4, [.ref pL, .ref pR, .ref pD, .ref pW, .ref pN, .ref pH, .ref pT, .int (iI pn)])), aI g pH 4 fH, aI g pT 4 fT, (qX, .inr (0, [.long (jI ov2), .long (jI un2)]))] → va_S A s.heap H locs → lv_has ls 7 [(4, .int (iI i)), (0, .ref qL), (1, .ref qP), (2, .int (bP (hi = true))), (3, .ref qX)] → W p l e ({ frames := 3, cells := 0, slots := 0, locals := 84 } : Room) s m ([.ref qL, .ref qP, .int (bP (hi = true)), .ref qX] : List Value).toArray below meth c H locs 0 0 Q (F0 m 7 ls []) := by
    intro fu_4
    induction fu_4 with
    | zero => exact fun _ _ _ _ _ _ _ q => absurd q (Nat.not_lt_zero _)
    | succ fu_4 ih_3 =>
      intro k i ov2 un2 e_i h_k e_q hm_5 H locs ls hP hD hS hl
      subst e_i
      refine lv_iload hx hb dX2_tellWorst_7 (lv_at hl 0 rfl) ?_
      refine lv_iconst (v := iI 4) hx hb dX2_tellWorst_9 rfl ?_
      refine q_icmp_ge (tgt := 77) hx hb dX2_tellWorst_10 (by decide) (by omega) (fun c_6 => ?_) (fun c_6 => ?_)
      · exact qe_v hx hb hr hlocks hQ hS dX2_tellWorst_77 hP hD (⟨rfl, by rw [show (4 : Nat) = k by omega, e_q]⟩)
      · refine lv_aload_n hx hb dX2_tellWorst_13 rfl (lv_at hl 2 rfl) ?_
        refine va_getN (D := g.1) (ci := 4) (v := .ref pH) (C := RX4) (T := TX4) (N := 8) hx hb hts iwX4 hown hE.1 hP 3 rfl rfl 5 (by decide) (va_Nw.use (w := .fieldLinkNest "QuickCount$Land" 54 "QuickCount$PollBook" "had" "[I" "QuickCount") rfl (hE.2 _ (List.mem_of_getElem? (i := 54) rfl))) (fun _ h9 => h9) rfl dX2_tellWorst_14 ?_
        refine lv_iload hx hb dX2_tellWorst_17 (lv_at hl 0 rfl) ?_
        refine q_iald hx hb hE hP 4 rfl k (by omega) (by decide) dX2_tellWorst_19 ?_
        have rg_7 := h_fH k
        refine q_if_le (tgt := 71) hx hb dX2_tellWorst_20 (by decide) (by omega) (fun c_8 => ?_) (fun c_8 => ?_)
        · refine lv_iinc (v := (iI ((k : Int) + 1))) (lv' := [(4, .int (iI ((k : Int) + 1))), (0, .ref qL), (1, .ref qP), (2, .int (bP (hi = true))), (3, .ref qX)]) hx hb dX2_tellWorst_71 hl (k := 0) rfl (iI_add _ _) (by decide) rfl (fun ls hl => ?_)
          refine lv_goto (tgt := 7) hx hb dX2_tellWorst_74 (by decide) ?_
          exact ih_3  (k + 1) ((k : Int) + 1) ov2 un2 (by omega) (by omega) (by first | exact foldF_y okc e_q | (rw [foldF_n (show ¬ worC fH k = true from fun z => absurd (of_decide_eq_true z) (by omega))]; exact e_q)) (by omega) _ _ ls (hP.sub [0, 1, 2, 3, 4, 5, 6] rfl) (hD.sub [0, 1, 2, 3, 4, 5, 6] (by decide) rfl) hS (lv_sub hl [0, 1, 2, 3, 4] rfl)
        · have okc := (show worC fH k = true from decide_eq_true (by omega))
          have hok := h_ok k (by omega) okc
          rw [e_q] at hok
          obtain ⟨ok1, ok2, ok3, ok4⟩ := hok
          refine lv_aload_n hx hb dX2_tellWorst_23 rfl (lv_at hl 1 rfl) ?_
          refine va_get (D := g.1) (ci := 2) (v := .ref lT) (C := RX2) (T := TX2) (N := 4) hx hb hts iwX2 hown hE.1 hP 0 rfl rfl 1 (by decide) (hts (.fieldLink RX2 15 "QuickCount$Land" "together" "[J") (List.mem_cons_of_mem _ (List.mem_append_left _ (List.mem_append_left _ (List.mem_append_left _ (List.mem_of_getElem? (i := 0) rfl)))))) (fun _ h9 => h9) rfl dX2_tellWorst_24 ?_
          refine lv_iload hx hb dX2_tellWorst_27 (lv_at hl 0 rfl) ?_
          refine q_lald hx hb hE hP 1 rfl k (by omega) (by decide) dX2_tellWorst_29 ?_
          refine lv_iload_n hx hb dX2_tellWorst_30 rfl (lv_at hl 3 rfl) ?_
          suffices K_9 : W p l e ({ frames := 3, cells := 0, slots := 0, locals := 84 } : Room) s m ([.ref qL, .ref qP, .int (bP (hi = true)), .ref qX] : List Value).toArray below meth c H locs 0 0 Q (F0 m 45 ls [.long (jI (if hi = true then gU k else 0)), .long (jI (gT k))]) from by
            refine q_ifb_eq (tgt := 44) hx hb dX2_tellWorst_31 (by decide) (fun c_10 => ?_) (fun c_10 => ?_)
            · refine lv_lconst (v := jI 0) hx hb dX2_tellWorst_44 (by decide) ?_
              first | exact q_sl (by rw [if_pos (by assumption)]) K_9 | exact q_sl (by rw [if_neg (by assumption)]) K_9
            · refine lv_aload_n hx hb dX2_tellWorst_34 rfl (lv_at hl 1 rfl) ?_
              refine va_get (D := g.1) (ci := 2) (v := .ref lU) (C := RX2) (T := TX2) (N := 4) hx hb hts iwX2 hown hE.1 hP 0 rfl rfl 3 (by decide) (hts (.fieldLink RX2 22 "QuickCount$Land" "unknownRolls" "[J") (List.mem_cons_of_mem _ (List.mem_append_left _ (List.mem_append_left _ (List.mem_append_left _ (List.mem_of_getElem? (i := 1) rfl)))))) (fun _ h9 => h9) rfl dX2_tellWorst_35 ?_
              refine lv_iload hx hb dX2_tellWorst_38 (lv_at hl 0 rfl) ?_
              refine q_lald hx hb hE hP 2 rfl k (by omega) (by decide) dX2_tellWorst_40 ?_
              refine lv_goto (tgt := 45) hx hb dX2_tellWorst_41 (by decide) ?_
              first | exact q_sl (by rw [if_pos (by assumption)]) K_9 | exact q_sl (by rw [if_neg (by assumption)]) K_9
          refine q_ladd hx hb dX2_tellWorst_45 ?_
          refine lv_lstore (lv' := [(5, .long (jI ((gT k) + (if hi = true then gU k else 0)))), (4, .int (iI (k : Int))), (0, .ref qL), (1, .ref qP), (2, .int (bP (hi = true))), (3, .ref qX)]) hx hb dX2_tellWorst_46 hl (by decide) rfl (fun ls hl => ?_)
          refine lv_aload_n hx hb dX2_tellWorst_48 rfl (lv_at hl 5 rfl) ?_
          refine lv_aload_n hx hb dX2_tellWorst_49 rfl (lv_at hl 3 rfl) ?_
          refine va_getN (D := g.1) (ci := 4) (v := .ref pH) (C := RX4) (T := TX4) (N := 8) hx hb hts iwX4 hown hE.1 hP 3 rfl rfl 5 (by decide) (va_Nw.use (w := .fieldLinkNest "QuickCount$Land" 54 "QuickCount$PollBook" "had" "[I" "QuickCount") rfl (hE.2 _ (List.mem_of_getElem? (i := 54) rfl))) (fun _ h9 => h9) rfl dX2_tellWorst_50 ?_
          refine lv_iload hx hb dX2_tellWorst_53 (lv_at hl 1 rfl) ?_
          refine q_iald hx hb hE hP 4 rfl k (by omega) (by decide) dX2_tellWorst_55 ?_
          have rg_11 := h_fH k
          refine q_i2l hx hb dX2_tellWorst_56 (by omega) ?_
          refine lv_lload hx hb dX2_tellWorst_57 (lv_at hl 0 rfl) ?_
          refine q_lmul hx hb dX2_tellWorst_59 ?_
          refine lv_aload_n hx hb dX2_tellWorst_60 rfl (lv_at hl 3 rfl) ?_
          refine va_getN (D := g.1) (ci := 4) (v := .ref pT) (C := RX4) (T := TX4) (N := 8) hx hb hts iwX4 hown hE.1 hP 3 rfl rfl 6 (by decide) (va_Nw.use (w := .fieldLinkNest "QuickCount$Land" 70 "QuickCount$PollBook" "took" "[I" "QuickCount") rfl (hE.2 _ (List.mem_of_getElem? (i := 56) rfl))) (fun _ h9 => h9) rfl dX2_tellWorst_61 ?_
          refine lv_iload hx hb dX2_tellWorst_64 (lv_at hl 1 rfl) ?_
          refine q_iald hx hb hE hP 5 rfl k (by omega) (by decide) dX2_tellWorst_66 ?_
          have rg_12 := h_fT k
          refine q_i2l hx hb dX2_tellWorst_67 (by omega) ?_
          refine q_call (rest := []) (wr := [(qL, .inr (2, [.ref lK, .ref lT, .ref lS, .ref lU])), aJ g lT 4 gT, aJ g lU 4 gU, (qP, .inr (4, [.ref pL, .ref pR, .ref pD, .ref pW, .ref pN, .ref pH, .ref pT, .int (iI pn)])), aI g pH 4 fH, aI g pT 4 fT]) (q_runEVN (As := [.long (jI ((fH k) * ((gT k) + (if hi = true then gU k else 0)))), .long (jI (fT k))]) ⟨hx, hb, hml, hown, hts⟩ (kX0_add l g qX ov2 un2 ((fH k) * ((gT k) + (if hi = true then gU k else 0))) (fT k) (ok1) (ok2) (ok3) (ok4)) ⟨va_cnB 2 hts ggX2_tellWorst_X0_add rfl rfl rfl (hE.2 (.methodLinkNest "QuickCount$Land" 66 yX0_add "QuickCount") (List.mem_of_getElem? (i := 35) rfl)) (hts (.initialized RX0) (List.mem_cons_of_mem _ (List.mem_append_left _ (List.mem_append_left _ (List.mem_append_left _ (List.mem_of_getElem? (i := 3) rfl)))))) (by decide +kernel) ⟨Nat.le_of_ble_eq_true rfl, Nat.le_of_ble_eq_true rfl⟩, (hts (.instanceMethod yX0_add) (List.mem_cons_of_mem _ (List.mem_append_left _ (List.mem_append_left _ (List.mem_append_left _ (List.mem_of_getElem? (i := 8) rfl)))))), (hts (.selects RX0 yX0_add yX0_add) (List.mem_cons_of_mem _ (List.mem_append_left _ (List.mem_append_left _ (List.mem_append_left _ (List.mem_of_getElem? (i := 9) rfl))))))⟩ (va_recv hE.1 hP (ci := 0) (q0 := 6) rfl rfl) hE (hP.sub (ws' := [(qX, .inr (0, [.long (jI ov2), .long (jI un2)]))]) [6] rfl) (hD.sub (ws' := [(qX, .inr (0, [.long (jI ov2), .long (jI un2)]))]) [6] (by decide) rfl) rfl hl.1 (Nat.le_of_ble_eq_true rfl) dX2_tellWorst_68 ⟨Nat.zero_le _, Nat.zero_le _⟩) hP hD hS hA [6] [0, 1, 2, 3, 4, 5] rfl rfl (by decide) (by decide) (fun r_ w_ H locs hq_13 hP hD hS => ?_)
          obtain ⟨rfl, rfl⟩ := hq_13
          have hP : va_P g.1 vwCl [(qL, .inr (2, [.ref lK, .ref lT, .ref lS, .ref lU])), aJ g lT 4 gT, aJ g lU 4 gU, (qP, .inr (4, [.ref pL, .ref pR, .ref pD, .ref pW, .ref pN, .ref pH, .ref pT, .int (iI pn)])), aI g pH 4 fH, aI g pT 4 fT, (qX, .inr (0, [.long (jI (redN (addN ov2 un2 ((fH k) * ((gT k) + (if hi = true then gU k else 0))) (fT k)) (addD un2 (fT k)))), .long (jI (redD (addN ov2 un2 ((fH k) * ((gT k) + (if hi = true then gU k else 0))) (fT k)) (addD un2 (fT k))))]))] H := hP
          have hD : va_D A [(qL, .inr (2, [.ref lK, .ref lT, .ref lS, .ref lU])), aJ g lT 4 gT, aJ g lU 4 gU, (qP, .inr (4, [.ref pL, .ref pR, .ref pD, .ref pW, .ref pN, .ref pH, .ref pT, .int (iI pn)])), aI g pH 4 fH, aI g pT 4 fT, (qX, .inr (0, [.long (jI (redN (addN ov2 un2 ((fH k) * ((gT k) + (if hi = true then gU k else 0))) (fT k)) (addD un2 (fT k)))), .long (jI (redD (addN ov2 un2 ((fH k) * ((gT k) + (if hi = true then gU k else 0))) (fT k)) (addD un2 (fT k))))]))] := hD
          refine W.eq (g2 := F0 m 71 ls []) rfl ?_
          refine lv_iinc (v := (iI ((k : Int) + 1))) (lv' := [(4, .int (iI ((k : Int) + 1))), (5, .long (jI ((gT k) + (if hi = true then gU k else 0)))), (0, .ref qL), (1, .ref qP), (2, .int (bP (hi = true))), (3, .ref qX)]) hx hb dX2_tellWorst_71 hl (k := 1) rfl (iI_add _ _) (by decide) rfl (fun ls hl => ?_)
          refine lv_goto (tgt := 7) hx hb dX2_tellWorst_74 (by decide) ?_
          exact ih_3  (k + 1) ((k : Int) + 1) (redN (addN ov2 un2 ((fH k) * ((gT k) + (if hi = true then gU k else 0))) (fT k)) (addD un2 (fT k))) (redD (addN ov2 un2 ((fH k) * ((gT k) + (if hi = true then gU k else 0))) (fT k)) (addD un2 (fT k))) (by omega) (by omega) (by first | exact foldF_y okc e_q | (rw [foldF_n (show ¬ worC fH k = true from fun z => absurd (of_decide_eq_true z) (by omega))]; exact e_q)) (by omega) _ _ ls (hP.sub [0, 1, 2, 3, 4, 5, 6] rfl) (hD.sub [0, 1, 2, 3, 4, 5, 6] (by decide) rfl) hS (lv_sub hl [0, 2, 3, 4, 5] rfl)
  exact K_2 (4 - 0 + 1) 0 0 0 1 (rfl) (by omega) (rfl) (Nat.lt_succ_self _) _ _ ls (hP.sub [0, 1, 2, 3, 4, 5, 6] rfl) (hD.sub [0, 1, 2, 3, 4, 5, 6] (by decide) rfl) hS (lv_sub hl [0, 1, 2, 3, 4] rfl)
set_option maxHeartbeats 4000000 in
set_option maxRecDepth 100000 in
theorem kX6_copyRun (l : Launch) (g : qG) (qT : Nat) (tS : Nat) (tZ : Nat) (tN : Nat) (fN : Nat → Int) (t : Int) (pl : Int) (t2 : Int) (at_ : Int) (mn : Int) (h_t : 0 ≤ t ∧ t ≤ 3) (h_t2 : 0 ≤ t2 ∧ t2 ≤ 3) (h_pl : 0 ≤ pl ∧ 0 ≤ mn ∧ pl + mn ≤ 20) (h_at : 0 ≤ at_ ∧ at_ + mn ≤ 20) : ME l g yX6_copyRun wsX6_copyRun ({ frames := 1, cells := 0, slots := 0, locals := 40 }) [.ref qT, .int (iI t), .int (iI pl), .int (iI t2), .int (iI at_), .int (iI mn)] [(qT, .inr (6, [.ref tS, .ref tZ, .ref tN])), aJ g tN 80 fN] (fun r w1 => r = none ∧ w1 = [(qT, .inr (6, [.ref tS, .ref tZ, .ref tN])), aJ g tN 80 (va_cpy fN fN (t * 20 + pl).toNat (t2 * 20 + at_).toNat mn.toNat)]) := by
  refine ME.intro (cc := cX6_copyRun) (maxL := 6) (ret := none) (by decide) rfl (Nat.le_of_ble_eq_true rfl) ?_
  intro p e s m below meth c ls Q A H locs ⟨hx, hb, hr, hml, hown, hts, hlocks⟩ hP hE hl hD hA hS hQ
  have hl : lv_has ls 6 [(0, .ref qT), (1, .int (iI t)), (2, .int (iI pl)), (3, .int (iI t2)), (4, .int (iI at_)), (5, .int (iI mn))] := hl
  have iwX6 : ∀ w ∈ wsX60, w ∈ wsX6_copyRun := (fun _ h => List.mem_cons_of_mem _ (List.mem_append_right _ h))
  have e_1 := iI_clamp (z := t * 20 + pl) (k := (t * 20 + pl).toNat) (by omega) (by omega)
  have e_2 := iI_clamp (z := t2 * 20 + at_) (k := (t2 * 20 + at_).toNat) (by omega) (by omega)
  have e_3 := iI_clamp (z := mn) (k := mn.toNat) (by omega) (by omega)
  refine lv_aload_n hx hb dX6_copyRun_0 rfl (lv_at hl 0 rfl) ?_
  refine va_get (D := g.1) (ci := 6) (v := .ref tN) (C := RX6) (T := TX6) (N := 3) hx hb hts iwX6 hown hE.1 hP 0 rfl rfl 2 (by decide) (hts (.fieldLink RX6 18 "QuickCount$Trays" "numbers" "[J") (List.mem_cons_of_mem _ (List.mem_append_left _ (List.mem_of_getElem? (i := 0) rfl)))) (fun _ h9 => h9) rfl dX6_copyRun_1 ?_
  refine lv_iload_n hx hb dX6_copyRun_4 rfl (lv_at hl 1 rfl) ?_
  refine lv_bipush (v := iI 20) hx hb dX6_copyRun_5 (by decide) ?_
  refine q_imul hx hb dX6_copyRun_7 ?_
  refine lv_iload_n hx hb dX6_copyRun_8 rfl (lv_at hl 2 rfl) ?_
  refine q_iadd hx hb dX6_copyRun_9 ?_
  refine lv_aload_n hx hb dX6_copyRun_10 rfl (lv_at hl 0 rfl) ?_
  refine va_get (D := g.1) (ci := 6) (v := .ref tN) (C := RX6) (T := TX6) (N := 3) hx hb hts iwX6 hown hE.1 hP 0 rfl rfl 2 (by decide) (hts (.fieldLink RX6 18 "QuickCount$Trays" "numbers" "[J") (List.mem_cons_of_mem _ (List.mem_append_left _ (List.mem_of_getElem? (i := 0) rfl)))) (fun _ h9 => h9) rfl dX6_copyRun_11 ?_
  refine lv_iload_n hx hb dX6_copyRun_14 rfl (lv_at hl 3 rfl) ?_
  refine lv_bipush (v := iI 20) hx hb dX6_copyRun_15 (by decide) ?_
  refine q_imul hx hb dX6_copyRun_17 ?_
  refine lv_iload hx hb dX6_copyRun_18 (lv_at hl 4 rfl) ?_
  refine q_iadd hx hb dX6_copyRun_20 ?_
  refine lv_iload hx hb dX6_copyRun_21 (lv_at hl 5 rfl) ?_
  refine va_copyl hx hb (hml.trans hl.1.symm) hown (hts (.methodLink RX6 28 arraycopyName) (List.mem_cons_of_mem _ (List.mem_append_left _ (List.mem_of_getElem? (i := 1) rfl)))) (hts (.native arraycopyName) (List.mem_cons_of_mem _ (List.mem_append_left _ (List.mem_of_getElem? (i := 2) rfl)))) (hts (.static arraycopyName) (List.mem_cons_of_mem _ (List.mem_append_left _ (List.mem_of_getElem? (i := 3) rfl)))) (hts (.initialized "java/lang/System") (List.mem_cons_of_mem _ (List.mem_append_left _ (List.mem_of_getElem? (i := 4) rfl)))) hE.1 hP hD hS 1 1 1 1 rfl rfl rfl rfl rfl (by rw [iI_lt0 (by omega)]; omega) (by rw [iI_lt0 (by omega)]; omega) (by rw [iI_lt0 (by omega)]; omega) (by rw [e_1, e_3]; omega) (by rw [e_2, e_3]; omega) (fun i hi => rfl) (Nat.le_of_ble_eq_true rfl) (Nat.le_of_ble_eq_true rfl) dX6_copyRun_23 (fun H locs hP hD hS => ?_)
  rw [e_1, e_2, e_3, jA_cpy] at hP hD
  have hP : va_P g.1 vwCl [(qT, .inr (6, [.ref tS, .ref tZ, .ref tN])), aJ g tN 80 (va_cpy fN fN (t * 20 + pl).toNat (t2 * 20 + at_).toNat mn.toNat)] H := hP
  have hD : va_D A [(qT, .inr (6, [.ref tS, .ref tZ, .ref tN])), aJ g tN 80 (va_cpy fN fN (t * 20 + pl).toNat (t2 * 20 + at_).toNat mn.toNat)] := hD
  exact qe_v hx hb hr hlocks hQ hS dX6_copyRun_26 hP hD (⟨rfl, rfl⟩)
