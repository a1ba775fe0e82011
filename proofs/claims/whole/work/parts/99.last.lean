theorem red_mul {n d : Int} : (Int.gcd n d : Int) * redN n d = n := by unfold redN; exact Int.mul_ediv_cancel' (Int.gcd_dvd_left ..)
theorem redN_r {n d : Int} (h : -9223372036854775808 ≤ n ∧ n ≤ 9223372036854775807) : -9223372036854775808 ≤ redN n d ∧ redN n d ≤ 9223372036854775807 := by
  have e := red_mul (n := n) (d := d)
  by_cases g0 : Int.gcd n d = 0
  · unfold redN; rw [g0]; simp
  · have g1 : (1 : Int) ≤ (Int.gcd n d : Int) := by omega
    generalize redN n d = q at *
    generalize (Int.gcd n d : Int) = G at *
    constructor
    · by_cases q0 : 0 ≤ q
      · omega
      · have h1 : G * q ≤ 1 * q := Int.mul_le_mul_of_nonpos_right g1 (by omega)
        omega
    · by_cases q0 : 0 ≤ q
      · have h1 : 1 * q ≤ G * q := Int.mul_le_mul_of_nonneg_right g1 q0
        omega
      · omega
def chF (fW : Nat → Bool) (fL fT fH : Nat → Int) (po : Int) : Int × Int := if fW po.toNat = true then (redN (fT (fL po.toNat).toNat) (fH (fL po.toNat).toNat), redD (fT (fL po.toNat).toNat) (fH (fL po.toNat).toNat)) else (0, 1)
def wOfficial (fS fZ fN : Nat → Int) (pn pm po t : Int) : Int := if ¬ ((0 ≤ po ∧ po ≤ pn - 1) ∧ (0 ≤ t ∧ t ≤ 3)) then 1 else wVotes fS fZ fN t pm
def wOff (pn pm : Int) (oT : Nat → Bool) (kn : Int) (po pa mi : Int) : Int := if ¬ ((0 ≤ po ∧ po ≤ pn - 1) ∧ (0 ≤ pa ∧ pa ≤ pm - 1) ∧ (0 ≤ mi ∧ mi ≤ 10000)) then 1 else if kn = -1 ∨ ¬ oT po.toNat = true then 6 else 0
def wOffs (pm pa wh mi : Int) : Int := if (0 ≤ pa ∧ pa ≤ pm - 1) ∧ (0 ≤ wh ∧ wh ≤ 2) ∧ (0 ≤ mi ∧ mi ≤ 10000) then 0 else 1
theorem cNZ_cg {f h : Nat → Int} {n : Nat} (e : ∀ p, p < n → f p = h p) : cNZ f n = cNZ h n := by
  induction n with
  | zero => rfl
  | succ n ih => rw [cNZ_s, cNZ_s, ih (fun p hp => e p (by omega)), e n (by omega)]
theorem cPZ_cg {f h : Nat → Int} {n : Nat} (e : ∀ p, p < n → f p = h p) : cPZ f n = cPZ h n := by
  induction n with
  | zero => rfl
  | succ n ih => rw [cPZ_s, cPZ_s, ih (fun p hp => e p (by omega)), e n (by omega)]
theorem offv_cg {oT : Nat → Bool} {oV sN fK fJ : Nat → Int} {pa : Int} {p : Nat} (e : fK p = fJ p) : offv oT oV sN fK pa p = offv oT oV sN fJ pa p := by unfold offv; rw [e]
theorem cNZ_r (f : Nat → Int) (n : Nat) : 0 ≤ cPZ f n ∧ cPZ f n ≤ cNZ f n ∧ cNZ f n ≤ n := by
  induction n with
  | zero => exact ⟨Int.le_refl _, Int.le_refl _, Int.le_refl _⟩
  | succ n ih => rw [cNZ_s, cPZ_s]; split <;> split <;> omega
-- roots
def rtB (v : Int) : Nat → Int
  | 0 => 0
  | j + 1 => if (rtB v j + 2 ^ (30 - j) / 2) * (rtB v j + 2 ^ (30 - j) / 2) < v then rtB v j + 2 ^ (30 - j) / 2 else rtB v j
theorem rtB_s (v : Int) (j : Nat) : rtB v (j + 1) = if (rtB v j + 2 ^ (30 - j) / 2) * (rtB v j + 2 ^ (30 - j) / 2) < v then rtB v j + 2 ^ (30 - j) / 2 else rtB v j := rfl
theorem p2_h (j : Nat) (h : j < 30) : (2 : Int) ^ (30 - j) = 2 * (2 ^ (30 - j) / 2) ∧ (2 : Int) ^ (30 - j) / 2 = 2 ^ (30 - (j + 1)) := by
  rw [show 30 - j = (30 - (j + 1)) + 1 by omega, Int.pow_succ]
  generalize (2 : Int) ^ (30 - (j + 1)) = z
  omega
theorem rtB_r (v : Int) (j : Nat) (h : j ≤ 30) : 0 ≤ rtB v j ∧ rtB v j ≤ 1073741824 - 2 ^ (30 - j) ∧ 0 ≤ (2 : Int) ^ (30 - j) ∧ (2 : Int) ^ (30 - j) ≤ 1073741824 := by
  induction j with
  | zero => exact ⟨Int.le_refl _, by show (0 : Int) ≤ 1073741824 - 2 ^ 30; decide, by decide, by decide⟩
  | succ j ih =>
    have h1 := ih (by omega)
    have h2 := p2_h j (by omega)
    rw [rtB_s, ← h2.2]
    split <;> omega
def rootC (v : Int) : Int := if v ≤ 0 then 0 else rtB v 30 + 1
-- ways
def wayI (n : Nat) : Nat → Int
  | 0 => 1
  | k + 1 => wayI n k * ((n : Int) - k) / ((k : Int) + 1)
def wayS (least : Int) (n : Nat) : Nat → Int
  | 0 => 0
  | k + 1 => wayS least n k + (if least ≤ (k : Int) then wayI n k else 0)
def wayR : Bool := (List.range 41).all fun n => (List.range 42).all fun k => decide (0 ≤ wayI n k) && decide (wayI n k ≤ 137846528820)
theorem wayR_t : wayR = true := by decide +kernel
theorem wayI_r {n k : Nat} (hn : n ≤ 40) (hk : k ≤ 41) : 0 ≤ wayI n k ∧ wayI n k ≤ 137846528820 := by
  have h := wayR_t
  unfold wayR at h
  have h1 := List.all_eq_true.mp h n (List.mem_range.mpr (by omega))
  have h2 := List.all_eq_true.mp h1 k (List.mem_range.mpr (by omega))
  simpa using h2
theorem wayS_r {least : Int} {n k : Nat} (hn : n ≤ 40) (hk : k ≤ 41) : 0 ≤ wayS least n k ∧ wayS least n k ≤ k * 137846528820 := by
  induction k with
  | zero => exact ⟨Int.le_refl _, by simp [wayS]⟩
  | succ k ih =>
    have h1 := ih (by omega)
    have h2 := wayI_r hn (show k ≤ 41 by omega)
    have e : ((k + 1 : Nat) : Int) * 137846528820 = k * 137846528820 + 137846528820 := by omega
    unfold wayS
    rw [e]
    split <;> omega
-- slips
def slipB (sN : Nat → Int) (fB : Nat → Bool) (sE sA fR sP : Nat → Int) (pm sh nu pl fi : Int) : Bool :=
  decide (pl = 0 ∨ (10 : Int) ^ pl.toNat ≤ sN (sh * 6 + nu).toNat) && (fB (sN (sh * 6 + nu).toNat / 10 ^ pl.toNat % 10 * 10 + fi).toNat &&
  decide (sE sh.toNat + (if nu = pm + 1 then -((fi - sN (sh * 6 + nu).toNat / 10 ^ pl.toNat % 10) * 10 ^ pl.toNat) else (fi - sN (sh * 6 + nu).toNat / 10 ^ pl.toNat % 10) * 10 ^ pl.toNat) = 0 ∧ sA sh.toNat + (if nu = pm + 1 then (fi - sN (sh * 6 + nu).toNat / 10 ^ pl.toNat % 10) * 10 ^ pl.toNat else 0) ≤ fR (sP sh.toNat).toNat))
def slQ (sN : Nat → Int) (fB : Nat → Bool) (sE sA fR sP : Nat → Int) (pm sh : Int) (s : Nat) : Bool := decide (s / 10 % 10 ≤ 3) && slipB sN fB sE sA fR sP pm sh ((s / 100 : Nat) : Int) ((s / 10 % 10 : Nat) : Int) ((s % 10 : Nat) : Int)
/-- the k-th place with Q, told by its number, or -1; and how many are left to pass -/
def kth (Q : Nat → Bool) (k : Int) : Nat → Int × Int
  | 0 => (-1, k)
  | n + 1 => if (kth Q k n).1 = -1 then (if Q n = true then (if (kth Q k n).2 = 0 then ((n : Int), 0) else (-1, (kth Q k n).2 - 1)) else kth Q k n) else kth Q k n
theorem kth_n {Q : Nat → Bool} {k lf : Int} {n : Nat} (e : kth Q k n = (-1, lf)) (h : ¬ Q n = true) : kth Q k (n + 1) = (-1, lf) := by
  show (if (kth Q k n).1 = -1 then _ else _) = _
  rw [e, if_pos rfl, if_neg h]
theorem kth_y {Q : Nat → Bool} {k lf : Int} {n : Nat} (e : kth Q k n = (-1, lf)) (h : Q n = true) (h2 : ¬ lf = 0) : kth Q k (n + 1) = (-1, lf - 1) := by
  show (if (kth Q k n).1 = -1 then _ else _) = _
  rw [e, if_pos rfl, if_pos h, if_neg h2]
theorem kth_f {Q : Nat → Bool} {k lf : Int} {n N : Nat} (e : kth Q k n = (-1, lf)) (h : Q n = true) (h2 : lf = 0) (hN : n < N) : (kth Q k N).1 = (n : Int) := by
  have h1 : (kth Q k (n + 1)).1 = (n : Int) := by
    show (if (kth Q k n).1 = -1 then _ else _ : Int × Int).1 = _
    rw [e, if_pos rfl, if_pos h, if_pos h2]
  have h3 : ∀ m, (kth Q k (n + 1 + m)).1 = (n : Int) := by
    intro m
    induction m with
    | zero => exact h1
    | succ m ih =>
      show (if (kth Q k (n + 1 + m)).1 = -1 then _ else _ : Int × Int).1 = _
      rw [if_neg (by rw [ih]; omega)]; exact ih
  have := h3 (N - (n + 1))
  rwa [show n + 1 + (N - (n + 1)) = N by omega] at this
theorem kth_skip {Q : Nat → Bool} {k lf : Int} {n : Nat} (e : kth Q k n = (-1, lf)) : ∀ m, (∀ j, n ≤ j → j < n + m → ¬ Q j = true) → kth Q k (n + m) = (-1, lf) := by
  intro m
  induction m with
  | zero => exact fun _ => e
  | succ m ih => exact fun h => kth_n (ih (fun j h1 h2 => h j h1 (by omega))) (h (n + m) (by omega) (by omega))
theorem slQ_hi {sN : Nat → Int} {fB : Nat → Bool} {sE sA fR sP : Nat → Int} {pm sh : Int} {n j : Nat} (h1 : 100 * n + 40 ≤ j) (h2 : j < 100 * n + 100) : ¬ slQ sN fB sE sA fR sP pm sh j = true := by
  unfold slQ
  intro q
  have := (Bool.and_eq_true _ _ ▸ q : _ ∧ _).1
  have := of_decide_eq_true this
  omega
theorem slQ_at {sN : Nat → Int} {fB : Nat → Bool} {sE sA fR sP : Nat → Int} {pm sh : Int} {n j : Nat} (h : j < 40) : slQ sN fB sE sA fR sP pm sh (100 * n + j) = slipB sN fB sE sA fR sP pm sh (n : Int) ((j : Int) / 10) ((j : Int) % 10) := by
  unfold slQ
  rw [show (100 * n + j) / 100 = n by omega, show (100 * n + j) / 10 % 10 = j / 10 by omega, show (100 * n + j) % 10 = j % 10 by omega]
  rw [show decide (j / 10 ≤ 3) = true from decide_eq_true (by omega), Bool.true_and]
  rw [show ((j / 10 : Nat) : Int) = (j : Int) / 10 by omega, show ((j % 10 : Nat) : Int) = (j : Int) % 10 by omega]
def slF (sN : Nat → Int) (fB : Nat → Bool) (sE sA fR sP : Nat → Int) (pm sh k : Int) : Int := (kth (slQ sN fB sE sA fR sP pm sh) k (100 * (pm.toNat + 2))).1
def wSlip (sn : Int) (sG : Nat → Bool) (sh k : Int) : Int := if ¬ (0 ≤ sh ∧ sh ≤ sn - 1) then 1 else if k < 0 ∨ sG sh.toNat = true then 6 else 0
theorem kth_r {Q : Nat → Bool} {k : Int} (n : Nat) : -1 ≤ (kth Q k n).1 ∧ (kth Q k n).1 < n := by
  induction n with
  | zero => exact ⟨Int.le_refl _, by show (-1 : Int) < ((0 : Nat) : Int); decide⟩
  | succ n ih =>
    show -1 ≤ (if (kth Q k n).1 = -1 then _ else _ : Int × Int).1 ∧ (if (kth Q k n).1 = -1 then _ else _ : Int × Int).1 < _
    (repeat' split) <;> (try dsimp only) <;> omega
theorem mulb {x z : Int} (h : -9 ≤ x ∧ x ≤ 9) (hz : 1 ≤ z ∧ z ≤ 1000) : -9000 ≤ x * z ∧ x * z ≤ 9000 := by
  have h1 : x * z ≤ 9 * z := Int.mul_le_mul_of_nonneg_right h.2 (by omega)
  have h2 : -9 * z ≤ x * z := Int.mul_le_mul_of_nonneg_right h.1 (by omega)
  omega

set_option maxHeartbeats 4000000 in
set_option maxRecDepth 100000 in
theorem kX7_scaleOf (l : Launch) (g : qG) (pl : Int) (h_pl : 0 ≤ pl ∧ pl ≤ 3) : MR l g yX7_scaleOf wsX7_scaleOf ({ frames := 0, cells := 0, slots := 0, locals := 0 }) [.int (iI pl)] [] (fun r => r = some (.int (iI ((10 : Int) ^ pl.toNat)))) := by
  refine MR.intro (cc := cX7_scaleOf) (maxL := 3) (ret := (some .int)) (by decide) rfl (Nat.le_of_ble_eq_true rfl) ?_
  intro p e s m below meth c ls Q ⟨hx, hb, hr, hml, hown, hts, hlocks⟩ hP hE hl hQ
  have hl : lv_has ls 3 [(0, .int (iI pl))] := hl
  refine lv_iconst (v := iI 1) hx hb dX7_scaleOf_0 rfl ?_
  refine lv_istore_n (lv' := [(1, .int (iI 1)), (0, .int (iI pl))]) hx hb dX7_scaleOf_1 rfl hl (by decide) rfl (fun ls hl => ?_)
  refine lv_iconst (v := iI 0) hx hb dX7_scaleOf_2 rfl ?_
  refine lv_istore_n (lv' := [(2, .int (iI 0)), (1, .int (iI 1)), (0, .int (iI pl))]) hx hb dX7_scaleOf_3 rfl hl (by decide) rfl (fun ls hl => ?_)
  have K_1 : ∀ (fu_3 : Nat) (k : Nat) (i : Int) (sc : Int), (i = (k : Int)) → ((k : Int) ≤ pl) → (sc = 10 ^ k) → pl.toNat - k < fu_3 → ∀ (ls : Array Slot), lv_has ls 3 [(2, .int (iI i)), (1, .int (iI sc)), (0, .int (iI pl))] → W p l e ({ frames := 0, cells := 0, slots := 0, locals := 0 } : Room) s m ([.int (iI pl)] : List Value).toArray below meth c s.heap [] 0 0 Q (F0 m 4 ls []) := by
    intro fu_3
    induction fu_3 with
    | zero => exact fun _ _ _ _ _ _ q => absurd q (Nat.not_lt_zero _)
    | succ fu_3 ih_2 =>
      intro k i sc e_i h_k e_s hm_4 ls hl
      refine lv_iload_n hx hb dX7_scaleOf_4 rfl (lv_at hl 0 rfl) ?_
      refine lv_iload_n hx hb dX7_scaleOf_5 rfl (lv_at hl 2 rfl) ?_
      refine q_icmp_ge (tgt := 20) hx hb dX7_scaleOf_6 (by decide) (by omega) (fun c_5 => ?_) (fun c_5 => ?_)
      · refine lv_iload_n hx hb dX7_scaleOf_20 rfl (lv_at hl 1 rfl) ?_
        exact qr_i hx hb hr hlocks hQ dX7_scaleOf_21 (congrArg (fun z => some (Value.int (iI z))) (by rw [e_s, show k = pl.toNat by omega]))
      · refine lv_iload_n hx hb dX7_scaleOf_9 rfl (lv_at hl 1 rfl) ?_
        refine lv_bipush (v := iI 10) hx hb dX7_scaleOf_10 (by decide) ?_
        refine q_imul hx hb dX7_scaleOf_12 ?_
        refine lv_istore_n (lv' := [(1, .int (iI (sc * 10))), (2, .int (iI i)), (0, .int (iI pl))]) hx hb dX7_scaleOf_13 rfl hl (by decide) rfl (fun ls hl => ?_)
        refine lv_iinc (v := (iI (i + 1))) (lv' := [(2, .int (iI (i + 1))), (1, .int (iI (sc * 10))), (0, .int (iI pl))]) hx hb dX7_scaleOf_14 hl (k := 1) rfl (iI_add _ _) (by decide) rfl (fun ls hl => ?_)
        refine lv_goto (tgt := 4) hx hb dX7_scaleOf_17 (by decide) ?_
        exact ih_2  (k + 1) (i + 1) (sc * 10) (by omega) (by omega) (by rw [e_s, Int.pow_succ]) (by omega) ls (lv_sub hl [0, 1, 2] rfl)
  exact K_1 (pl.toNat - 0 + 1) 0 0 1 (rfl) (by omega) (rfl) (Nat.lt_succ_self _) ls (lv_sub hl [0, 1, 2] rfl)
set_option maxHeartbeats 4000000 in
set_option maxRecDepth 100000 in
theorem kX7_rootAtLeast (l : Launch) (g : qG) (v : Int) (r_v : -9223372036854775808 ≤ v ∧ v ≤ 9223372036854775807) : MR l g yX7_rootAtLeast wsX7_rootAtLeast ({ frames := 0, cells := 0, slots := 0, locals := 0 }) [.long (jI v)] [] (fun r => r = some (.int (iI (rootC v)))) := by
  refine MR.intro (cc := cX7_rootAtLeast) (maxL := 8) (ret := (some .int)) (by decide) rfl (Nat.le_of_ble_eq_true rfl) ?_
  intro p e s m below meth c ls Q ⟨hx, hb, hr, hml, hown, hts, hlocks⟩ hP hE hl hQ
  have hl : lv_has ls 8 [(0, .long (jI v))] := hl
  refine lv_lload_n hx hb dX7_rootAtLeast_0 rfl (lv_at hl 0 rfl) ?_
  refine lv_lconst (v := jI 0) hx hb dX7_rootAtLeast_1 (by decide) ?_
  refine q_lif_gt (tgt := 8) hx hb dX7_rootAtLeast_2 dX7_rootAtLeast_3 (by decide) (by omega) (fun c_1 => ?_) (fun c_1 => ?_)
  · refine lv_lconst (v := jI 0) hx hb dX7_rootAtLeast_8 (by decide) ?_
    refine lv_lstore_n (lv' := [(2, .long (jI 0)), (0, .long (jI v))]) hx hb dX7_rootAtLeast_9 rfl hl (by decide) rfl (fun ls hl => ?_)
    refine lv_ldc2 hx hb hown (hts (.constantLong RX7 323 (536870912)) (List.mem_cons_of_mem _ (List.mem_of_getElem? (i := 0) rfl))) dX7_rootAtLeast_10 ?_
    refine q_sl (y := jI 536870912) (by decide) ?_
    refine lv_lstore (lv' := [(4, .long (jI 536870912)), (2, .long (jI 0)), (0, .long (jI v))]) hx hb dX7_rootAtLeast_13 hl (by decide) rfl (fun ls hl => ?_)
    have K_2 : ∀ (fu_4 : Nat) (j : Nat) (be : Int) (sp : Int), (j ≤ 30) → (be = rtB v j) → (sp = 2 ^ (30 - j) / 2) → 30 - j < fu_4 → ∀ (ls : Array Slot), lv_has ls 8 [(4, .long (jI sp)), (2, .long (jI be)), (0, .long (jI v))] → W p l e ({ frames := 0, cells := 0, slots := 0, locals := 0 } : Room) s m ([.long (jI v)] : List Value).toArray below meth c s.heap [] 0 0 Q (F0 m 15 ls []) := by
      intro fu_4
      induction fu_4 with
      | zero => exact fun _ _ _ _ _ _ q => absurd q (Nat.not_lt_zero _)
      | succ fu_4 ih_3 =>
        intro j be sp h_j e_b e_s hm_5 ls hl
        have rr := rtB_r v j h_j
        rw [← e_b] at rr
        refine lv_lload hx hb dX7_rootAtLeast_15 (lv_at hl 0 rfl) ?_
        refine lv_lconst (v := jI 0) hx hb dX7_rootAtLeast_17 (by decide) ?_
        refine q_lif_le (tgt := 52) hx hb dX7_rootAtLeast_18 dX7_rootAtLeast_19 (by decide) (by omega) (fun c_6 => ?_) (fun c_6 => ?_)
        · refine lv_lload_n hx hb dX7_rootAtLeast_52 rfl (lv_at hl 1 rfl) ?_
          refine lv_lconst (v := jI 1) hx hb dX7_rootAtLeast_53 (by decide) ?_
          refine q_ladd hx hb dX7_rootAtLeast_54 ?_
          refine q_l2i hx hb dX7_rootAtLeast_55 ?_
          exact qr_i hx hb hr hlocks hQ dX7_rootAtLeast_56 (congrArg (fun z => some (Value.int (iI z))) (by unfold rootC; rw [if_neg (by omega), e_b, show j = 30 by rcases (show j < 30 ∨ j = 30 by omega) with q | q; (exfalso; have r2 := p2_h j q; have r3 : (0 : Int) < 2 ^ (30 - (j + 1)) := Int.pow_pos (by decide); omega); (exact q)]))
        · have h_j2 : j + 1 ≤ 30 := by rcases (show j < 30 ∨ j = 30 by omega) with q | q; (exact q); (subst q; exfalso; simp at e_s; omega)
          have r2 := p2_h j (by omega)
          have r3 : 0 ≤ be + sp ∧ be + sp ≤ 1073741824 := by omega
          have r4 : 0 ≤ (be + sp) * (be + sp) := Int.mul_nonneg r3.1 r3.1
          have r5 : (be + sp) * (be + sp) ≤ 1073741824 * 1073741824 := Int.mul_le_mul r3.2 r3.2 r3.1 (by decide)
          refine lv_lload_n hx hb dX7_rootAtLeast_22 rfl (lv_at hl 1 rfl) ?_
          refine lv_lload hx hb dX7_rootAtLeast_23 (lv_at hl 0 rfl) ?_
          refine q_ladd hx hb dX7_rootAtLeast_25 ?_
          refine lv_lstore (lv' := [(6, .long (jI (be + sp))), (4, .long (jI sp)), (2, .long (jI be)), (0, .long (jI v))]) hx hb dX7_rootAtLeast_26 hl (by decide) rfl (fun ls hl => ?_)
          refine lv_lload hx hb dX7_rootAtLeast_28 (lv_at hl 0 rfl) ?_
          refine lv_lload hx hb dX7_rootAtLeast_30 (lv_at hl 0 rfl) ?_
          refine q_lmul hx hb dX7_rootAtLeast_32 ?_
          refine lv_lload_n hx hb dX7_rootAtLeast_33 rfl (lv_at hl 3 rfl) ?_
          refine q_lif_ge (tgt := 41) hx hb dX7_rootAtLeast_34 dX7_rootAtLeast_35 (by decide) (by omega) (fun c_7 => ?_) (fun c_7 => ?_)
          · refine lv_lload hx hb dX7_rootAtLeast_41 (lv_at hl 1 rfl) ?_
            refine lv_ldc2 hx hb hown (hts (.constantLong RX7 325 (2)) (List.mem_cons_of_mem _ (List.mem_of_getElem? (i := 1) rfl))) dX7_rootAtLeast_43 ?_
            refine q_sl (y := jI 2) (by decide) ?_
            refine q_ldivN hx hb dX7_rootAtLeast_46 (by omega) ?_
            refine lv_lstore (lv' := [(4, .long (jI (sp / 2))), (6, .long (jI (be + sp))), (2, .long (jI be)), (0, .long (jI v))]) hx hb dX7_rootAtLeast_47 hl (by decide) rfl (fun ls hl => ?_)
            refine lv_goto (tgt := 15) hx hb dX7_rootAtLeast_49 (by decide) ?_
            exact ih_3  (j + 1) be (sp / 2) (h_j2) (by first | (rw [rtB_s, ← e_b, ← e_s, if_pos (Int.not_le.mp (by assumption))]; done) | (rw [rtB_s, ← e_b, ← e_s, if_neg (Int.not_lt.mpr (by assumption))])) (by rw [e_s, (p2_h j (by omega)).2]) (by omega) ls (lv_sub hl [0, 2, 3] rfl)
          · refine lv_lload hx hb dX7_rootAtLeast_38 (lv_at hl 0 rfl) ?_
            refine lv_lstore_n (lv' := [(2, .long (jI (be + sp))), (6, .long (jI (be + sp))), (4, .long (jI sp)), (0, .long (jI v))]) hx hb dX7_rootAtLeast_40 rfl hl (by decide) rfl (fun ls hl => ?_)
            refine lv_lload hx hb dX7_rootAtLeast_41 (lv_at hl 2 rfl) ?_
            refine lv_ldc2 hx hb hown (hts (.constantLong RX7 325 (2)) (List.mem_cons_of_mem _ (List.mem_of_getElem? (i := 1) rfl))) dX7_rootAtLeast_43 ?_
            refine q_sl (y := jI 2) (by decide) ?_
            refine q_ldivN hx hb dX7_rootAtLeast_46 (by omega) ?_
            refine lv_lstore (lv' := [(4, .long (jI (sp / 2))), (2, .long (jI (be + sp))), (6, .long (jI (be + sp))), (0, .long (jI v))]) hx hb dX7_rootAtLeast_47 hl (by decide) rfl (fun ls hl => ?_)
            refine lv_goto (tgt := 15) hx hb dX7_rootAtLeast_49 (by decide) ?_
            exact ih_3  (j + 1) (be + sp) (sp / 2) (h_j2) (by first | (rw [rtB_s, ← e_b, ← e_s, if_pos (Int.not_le.mp (by assumption))]; done) | (rw [rtB_s, ← e_b, ← e_s, if_neg (Int.not_lt.mpr (by assumption))])) (by rw [e_s, (p2_h j (by omega)).2]) (by omega) ls (lv_sub hl [0, 1, 3] rfl)
    exact K_2 (30 - 0 + 1) 0 0 536870912 (by omega) (rfl) (rfl) (Nat.lt_succ_self _) ls (lv_sub hl [0, 1, 2] rfl)
  · refine lv_iconst (v := iI 0) hx hb dX7_rootAtLeast_6 rfl ?_
    exact qr_i hx hb hr hlocks hQ dX7_rootAtLeast_7 (congrArg (fun z => some (Value.int (iI z))) (by unfold rootC; rw [if_pos (by omega)]))
set_option maxHeartbeats 4000000 in
set_option maxRecDepth 100000 in
theorem kX7_waysAtLeast (l : Launch) (g : qG) (le : Int) (mn : Int) (h_le : 0 ≤ le ∧ le ≤ 40) (h_mn : 0 ≤ mn ∧ mn ≤ 40) : MR l g yX7_waysAtLeast wsX7_waysAtLeast ({ frames := 0, cells := 0, slots := 0, locals := 0 }) [.int (iI le), .int (iI mn)] [] (fun r => r = some (.long (jI (wayS le mn.toNat (mn.toNat + 1))))) := by
  refine MR.intro (cc := cX7_waysAtLeast) (maxL := 7) (ret := (some .long)) (by decide) rfl (Nat.le_of_ble_eq_true rfl) ?_
  intro p e s m below meth c ls Q ⟨hx, hb, hr, hml, hown, hts, hlocks⟩ hP hE hl hQ
  have hl : lv_has ls 7 [(0, .int (iI le)), (1, .int (iI mn))] := hl
  refine lv_lconst (v := jI 1) hx hb dX7_waysAtLeast_0 (by decide) ?_
  refine lv_lstore_n (lv' := [(2, .long (jI 1)), (0, .int (iI le)), (1, .int (iI mn))]) hx hb dX7_waysAtLeast_1 rfl hl (by decide) rfl (fun ls hl => ?_)
  refine lv_lconst (v := jI 0) hx hb dX7_waysAtLeast_2 (by decide) ?_
  refine lv_lstore (lv' := [(4, .long (jI 0)), (2, .long (jI 1)), (0, .int (iI le)), (1, .int (iI mn))]) hx hb dX7_waysAtLeast_3 hl (by decide) rfl (fun ls hl => ?_)
  refine lv_iconst (v := iI 0) hx hb dX7_waysAtLeast_5 rfl ?_
  refine lv_istore (lv' := [(6, .int (iI 0)), (4, .long (jI 0)), (2, .long (jI 1)), (0, .int (iI le)), (1, .int (iI mn))]) hx hb dX7_waysAtLeast_6 hl (by decide) rfl (fun ls hl => ?_)
  have K_1 : ∀ (fu_3 : Nat) (k : Nat) (i : Int) (wy : Int) (tg : Int), (i = (k : Int)) → ((k : Int) ≤ mn + 1) → (wy = wayI mn.toNat k) → (tg = wayS le mn.toNat k) → mn.toNat + 1 - k < fu_3 → ∀ (ls : Array Slot), lv_has ls 7 [(6, .int (iI i)), (4, .long (jI tg)), (2, .long (jI wy)), (0, .int (iI le)), (1, .int (iI mn))] → W p l e ({ frames := 0, cells := 0, slots := 0, locals := 0 } : Room) s m ([.int (iI le), .int (iI mn)] : List Value).toArray below meth c s.heap [] 0 0 Q (F0 m 8 ls []) := by
    intro fu_3
    induction fu_3 with
    | zero => exact fun _ _ _ _ _ _ _ _ q => absurd q (Nat.not_lt_zero _)
    | succ fu_3 ih_2 =>
      intro k i wy tg e_i h_k e_w e_t hm_4 ls hl
      subst e_i
      have rw1 := wayI_r (n := mn.toNat) (k := k) (by omega) (by omega)
      rw [← e_w] at rw1
      refine lv_iload hx hb dX7_waysAtLeast_8 (lv_at hl 0 rfl) ?_
      refine lv_iload_n hx hb dX7_waysAtLeast_10 rfl (lv_at hl 4 rfl) ?_
      refine q_icmp_gt (tgt := 46) hx hb dX7_waysAtLeast_11 (by decide) (by omega) (fun c_5 => ?_) (fun c_5 => ?_)
      · refine lv_lload hx hb dX7_waysAtLeast_46 (lv_at hl 1 rfl) ?_
        exact qr_l hx hb hr hlocks hQ dX7_waysAtLeast_48 (congrArg (fun z => some (Value.long (jI z))) (by rw [e_t, show k = mn.toNat + 1 by omega]))
      · refine lv_iload hx hb dX7_waysAtLeast_14 (lv_at hl 0 rfl) ?_
        refine lv_iload_n hx hb dX7_waysAtLeast_16 rfl (lv_at hl 3 rfl) ?_
        refine q_icmp_lt (tgt := 26) hx hb dX7_waysAtLeast_17 (by decide) (by omega) (fun c_6 => ?_) (fun c_6 => ?_)
        · have rw2 : 0 ≤ wy * (mn - (k : Int)) := Int.mul_nonneg rw1.1 (by omega)
          have rw3 : wy * (mn - (k : Int)) ≤ 137846528820 * 40 := Int.mul_le_mul rw1.2 (by omega) (by omega) (by decide)
          refine lv_lload_n hx hb dX7_waysAtLeast_26 rfl (lv_at hl 2 rfl) ?_
          refine lv_iload_n hx hb dX7_waysAtLeast_27 rfl (lv_at hl 4 rfl) ?_
          refine lv_iload hx hb dX7_waysAtLeast_28 (lv_at hl 0 rfl) ?_
          refine q_isub hx hb dX7_waysAtLeast_30 ?_
          refine q_i2l hx hb dX7_waysAtLeast_31 (by omega) ?_
          refine q_lmul hx hb dX7_waysAtLeast_32 ?_
          refine lv_iload hx hb dX7_waysAtLeast_33 (lv_at hl 0 rfl) ?_
          refine lv_iconst (v := iI 1) hx hb dX7_waysAtLeast_35 rfl ?_
          refine q_iadd hx hb dX7_waysAtLeast_36 ?_
          refine q_i2l hx hb dX7_waysAtLeast_37 (by omega) ?_
          refine q_ldivN hx hb dX7_waysAtLeast_38 (by omega) ?_
          refine lv_lstore_n (lv' := [(2, .long (jI ((wy * (mn - (k : Int))) / ((k : Int) + 1)))), (6, .int (iI (k : Int))), (4, .long (jI tg)), (0, .int (iI le)), (1, .int (iI mn))]) hx hb dX7_waysAtLeast_39 rfl hl (by decide) rfl (fun ls hl => ?_)
          refine lv_iinc (v := (iI ((k : Int) + 1))) (lv' := [(6, .int (iI ((k : Int) + 1))), (2, .long (jI ((wy * (mn - (k : Int))) / ((k : Int) + 1)))), (4, .long (jI tg)), (0, .int (iI le)), (1, .int (iI mn))]) hx hb dX7_waysAtLeast_40 hl (k := 1) rfl (iI_add _ _) (by decide) rfl (fun ls hl => ?_)
          refine lv_goto (tgt := 8) hx hb dX7_waysAtLeast_43 (by decide) ?_
          exact ih_2  (k + 1) ((k : Int) + 1) ((wy * (mn - (k : Int))) / ((k : Int) + 1)) tg (by omega) (by omega) (by rw [e_w]; show _ = wayI mn.toNat k * (((mn.toNat : Nat) : Int) - k) / ((k : Int) + 1); rw [show ((mn.toNat : Nat) : Int) = mn by omega]) (by first | (rw [e_t, e_w]; show _ = wayS le mn.toNat k + (if le ≤ (k : Int) then wayI mn.toNat k else 0); rw [if_pos (by omega)]; done) | (rw [e_t]; show _ = wayS le mn.toNat k + (if le ≤ (k : Int) then wayI mn.toNat k else 0); rw [if_neg (by omega), Int.add_zero])) (by omega) ls (lv_sub hl [0, 2, 1, 3, 4] rfl)
        · refine lv_lload hx hb dX7_waysAtLeast_20 (lv_at hl 1 rfl) ?_
          refine lv_lload_n hx hb dX7_waysAtLeast_22 rfl (lv_at hl 2 rfl) ?_
          refine q_ladd hx hb dX7_waysAtLeast_23 ?_
          refine lv_lstore (lv' := [(4, .long (jI (tg + wy))), (6, .int (iI (k : Int))), (2, .long (jI wy)), (0, .int (iI le)), (1, .int (iI mn))]) hx hb dX7_waysAtLeast_24 hl (by decide) rfl (fun ls hl => ?_)
          have rw2 : 0 ≤ wy * (mn - (k : Int)) := Int.mul_nonneg rw1.1 (by omega)
          have rw3 : wy * (mn - (k : Int)) ≤ 137846528820 * 40 := Int.mul_le_mul rw1.2 (by omega) (by omega) (by decide)
          refine lv_lload_n hx hb dX7_waysAtLeast_26 rfl (lv_at hl 2 rfl) ?_
          refine lv_iload_n hx hb dX7_waysAtLeast_27 rfl (lv_at hl 4 rfl) ?_
          refine lv_iload hx hb dX7_waysAtLeast_28 (lv_at hl 1 rfl) ?_
          refine q_isub hx hb dX7_waysAtLeast_30 ?_
          refine q_i2l hx hb dX7_waysAtLeast_31 (by omega) ?_
          refine q_lmul hx hb dX7_waysAtLeast_32 ?_
          refine lv_iload hx hb dX7_waysAtLeast_33 (lv_at hl 1 rfl) ?_
          refine lv_iconst (v := iI 1) hx hb dX7_waysAtLeast_35 rfl ?_
          refine q_iadd hx hb dX7_waysAtLeast_36 ?_
          refine q_i2l hx hb dX7_waysAtLeast_37 (by omega) ?_
          refine q_ldivN hx hb dX7_waysAtLeast_38 (by omega) ?_
          refine lv_lstore_n (lv' := [(2, .long (jI ((wy * (mn - (k : Int))) / ((k : Int) + 1)))), (4, .long (jI (tg + wy))), (6, .int (iI (k : Int))), (0, .int (iI le)), (1, .int (iI mn))]) hx hb dX7_waysAtLeast_39 rfl hl (by decide) rfl (fun ls hl => ?_)
          refine lv_iinc (v := (iI ((k : Int) + 1))) (lv' := [(6, .int (iI ((k : Int) + 1))), (2, .long (jI ((wy * (mn - (k : Int))) / ((k : Int) + 1)))), (4, .long (jI (tg + wy))), (0, .int (iI le)), (1, .int (iI mn))]) hx hb dX7_waysAtLeast_40 hl (k := 2) rfl (iI_add _ _) (by decide) rfl (fun ls hl => ?_)
          refine lv_goto (tgt := 8) hx hb dX7_waysAtLeast_43 (by decide) ?_
          exact ih_2  (k + 1) ((k : Int) + 1) ((wy * (mn - (k : Int))) / ((k : Int) + 1)) (tg + wy) (by omega) (by omega) (by rw [e_w]; show _ = wayI mn.toNat k * (((mn.toNat : Nat) : Int) - k) / ((k : Int) + 1); rw [show ((mn.toNat : Nat) : Int) = mn by omega]) (by first | (rw [e_t, e_w]; show _ = wayS le mn.toNat k + (if le ≤ (k : Int) then wayI mn.toNat k else 0); rw [if_pos (by omega)]; done) | (rw [e_t]; show _ = wayS le mn.toNat k + (if le ≤ (k : Int) then wayI mn.toNat k else 0); rw [if_neg (by omega), Int.add_zero])) (by omega) ls (lv_sub hl [0, 2, 1, 3, 4] rfl)
  exact K_1 (mn.toNat + 1 - 0 + 1) 0 0 1 0 (rfl) (by omega) (rfl) (rfl) (Nat.lt_succ_self _) ls (lv_sub hl [0, 1, 2, 3, 4] rfl)
set_option maxHeartbeats 4000000 in
set_option maxRecDepth 100000 in
theorem kX7_isSlip (l : Launch) (g : qG) (h0 : Nat) (qT : Nat) (qP : Nat) (qS : Nat) (qH : Nat) (qL : Nat) (qO : Nat) (qF : Nat) (qW : Nat) (qR : Nat) (kP : Nat) (kM : Nat) (kG : Nat) (kE : Nat) (kA : Nat) (kN : Nat) (kK : Nat) (pL : Nat) (pR : Nat) (pD : Nat) (pW : Nat) (pN : Nat) (pH : Nat) (pT : Nat) (hB : Nat) (sP : Nat → Int) (sE : Nat → Int) (sA : Nat → Int) (sN : Nat → Int) (fB : Nat → Bool) (fR : Nat → Int) (pm : Int) (st : Int) (sn : Int) (sl : Int) (pn : Int) (sh : Int) (nu : Int) (pl : Int) (fi : Int) (h_sh : 0 ≤ sh ∧ sh ≤ 119) (h_nu : 0 ≤ nu ∧ nu ≤ pm + 1) (h_pl : 0 ≤ pl ∧ pl ≤ 3) (h_fi : 0 ≤ fi ∧ fi ≤ 9) (h_pm : 2 ≤ pm ∧ pm ≤ 4) (h_sN : ∀ k, 0 ≤ sN k ∧ sN k ≤ 9999) (h_sP : ∀ k, 0 ≤ sP k ∧ sP k ≤ 39) (h_fR : ∀ k, 0 ≤ fR k ∧ fR k ≤ 2000) (h_sE : ∀ k, -100000 ≤ sE k ∧ sE k ≤ 100000) (h_sA : ∀ k, 0 ≤ sA k ∧ sA k ≤ 9999) : MR l g yX7_isSlip wsX7_isSlip ({ frames := 1, cells := 0, slots := 0, locals := 26 }) [.ref h0, .int (iI sh), .int (iI nu), .int (iI pl), .int (iI fi)] [(h0, .inr (7, [.ref qT, .ref qP, .ref qS, .ref qH, .ref qL, .ref qO, .ref qF, .ref qW, .ref qR, .int (iI pm), .int (iI st)])), (qS, .inr (5, [.ref kP, .ref kM, .ref kG, .ref kE, .ref kA, .ref kN, .ref kK, .int (iI sn), .int (iI sl)])), aI g kP 120 sP, aI g kE 120 sE, aI g kA 120 sA, aI g kN 720 sN, (qH, .inr (1, [.ref hB])), aZ g hB 100 fB, (qP, .inr (4, [.ref pL, .ref pR, .ref pD, .ref pW, .ref pN, .ref pH, .ref pT, .int (iI pn)])), aI g pR 40 fR] (fun r => r = some (.int (bP (slipB sN fB sE sA fR sP pm sh nu pl fi = true)))) := by
  refine MR.intro (cc := cX7_isSlip) (maxL := 10) (ret := (some .boolean)) (by decide) rfl (Nat.le_of_ble_eq_true rfl) ?_
  intro p e s m below meth c ls Q ⟨hx, hb, hr, hml, hown, hts, hlocks⟩ hP hE hl hQ
  have hl : lv_has ls 10 [(0, .ref h0), (1, .int (iI sh)), (2, .int (iI nu)), (3, .int (iI pl)), (4, .int (iI fi))] := hl
  have iwX4 : ∀ w ∈ wsX40, w ∈ wsX7_isSlip := (fun _ h => List.mem_cons_of_mem _ (List.mem_append_left _ (List.mem_append_left _ (List.mem_append_right _ h))))
  have iwX5 : ∀ w ∈ wsX50, w ∈ wsX7_isSlip := (fun _ h => List.mem_cons_of_mem _ (List.mem_append_left _ (List.mem_append_right _ h)))
  have iwX7 : ∀ w ∈ wsX70, w ∈ wsX7_isSlip := (fun _ h => List.mem_cons_of_mem _ (List.mem_append_left _ (List.mem_append_left _ (List.mem_append_left _ (List.mem_append_right _ h)))))
  refine lv_aload_n hx hb dX7_isSlip_0 rfl (lv_at hl 0 rfl) ?_
  refine va_get (D := g.1) (ci := 7) (v := .ref qS) (C := RX7) (T := TX7) (N := 11) hx hb hts iwX7 hown hE.1 hP 0 rfl rfl 2 (by decide) (hts (.fieldLink RX7 26 "QuickCount" "sheets" "LQuickCount$SheetBook;") (List.mem_cons_of_mem _ (List.mem_append_left _ (List.mem_append_left _ (List.mem_append_left _ (List.mem_append_left _ (List.mem_of_getElem? (i := 0) rfl))))))) (fun _ h9 => h9) rfl dX7_isSlip_1 ?_
  refine lv_iload_n hx hb dX7_isSlip_4 rfl (lv_at hl 1 rfl) ?_
  refine lv_iload_n hx hb dX7_isSlip_5 rfl (lv_at hl 2 rfl) ?_
  refine q_read (rest := []) (q_runRVN (As := [.int (iI sh), .int (iI nu)]) ⟨hx, hb, hml, hown, hts⟩ (kX5_numberOf l g qS kP kM kG kE kA kN kK sN sn sl sh nu (by omega) (by omega)) ⟨va_cnB 2 hts ggX7_isSlip_X5_numberOf rfl rfl rfl (hE.2 (.methodLinkNest "QuickCount" 264 yX5_numberOf "QuickCount") (List.mem_of_getElem? (i := 24) rfl)) (hts (.initialized RX5) (List.mem_cons_of_mem _ (List.mem_append_left _ (List.mem_append_left _ (List.mem_append_left _ (List.mem_append_left _ (List.mem_of_getElem? (i := 5) rfl))))))) (by decide +kernel) ⟨Nat.le_of_ble_eq_true rfl, Nat.le_of_ble_eq_true rfl⟩, (hts (.instanceMethod yX5_numberOf) (List.mem_cons_of_mem _ (List.mem_append_left _ (List.mem_append_left _ (List.mem_append_left _ (List.mem_append_left _ (List.mem_of_getElem? (i := 4) rfl))))))), (hts (.selects RX5 yX5_numberOf yX5_numberOf) (List.mem_cons_of_mem _ (List.mem_append_left _ (List.mem_append_left _ (List.mem_append_left _ (List.mem_append_left _ (List.mem_of_getElem? (i := 6) rfl)))))))⟩ (va_recv hE.1 hP (ci := 5) (q0 := 1) rfl rfl) hE (hP.sub (ws' := [(qS, .inr (5, [.ref kP, .ref kM, .ref kG, .ref kE, .ref kA, .ref kN, .ref kK, .int (iI sn), .int (iI sl)])), aI g kN 720 sN]) [1, 5] rfl) rfl hl.1 (Nat.le_of_ble_eq_true rfl) dX7_isSlip_6 ⟨Nat.zero_le _, Nat.zero_le _⟩) (fun r_ hq_1 => ?_)
  obtain rfl := hq_1
  refine W.eq (g2 := F0 m 9 ls [.int (iI (sN (sh * 6 + nu).toNat))]) rfl ?_
  have rv_1 := h_sN (sh * 6 + nu).toNat
  refine lv_istore (lv' := [(5, .int (iI (sN (sh * 6 + nu).toNat))), (0, .ref h0), (1, .int (iI sh)), (2, .int (iI nu)), (3, .int (iI pl)), (4, .int (iI fi))]) hx hb dX7_isSlip_9 hl (by decide) rfl (fun ls hl => ?_)
  refine lv_iload_n hx hb dX7_isSlip_11 rfl (lv_at hl 4 rfl) ?_
  refine q_read (rest := []) (q_runRS (As := [.int (iI pl)]) ⟨hx, hb, hml, hown, hts⟩ (kX7_scaleOf l g pl (by omega)) (va_cwS 1 hts gX7_isSlip_X7_scaleOf rfl rfl rfl (by decide +kernel) ⟨Nat.le_of_ble_eq_true rfl, Nat.le_of_ble_eq_true rfl⟩) hE (hP.sub (ws' := []) [] rfl) rfl hl.1 (Nat.le_of_ble_eq_true rfl) dX7_isSlip_12 ⟨Nat.zero_le _, Nat.zero_le _⟩) (fun r_ hq_2 => ?_)
  obtain rfl := hq_2
  refine W.eq (g2 := F0 m 15 ls [.int (iI ((10 : Int) ^ pl.toNat))]) rfl ?_
  have rp : 1 ≤ (10 : Int) ^ pl.toNat ∧ (10 : Int) ^ pl.toNat ≤ 1000 := by rcases (show pl = 0 ∨ pl = 1 ∨ pl = 2 ∨ pl = 3 by omega) with q | q | q | q <;> (rw [q]; decide)
  generalize e_V : sN (sh * 6 + nu).toNat = V at *
  generalize e_Z : (10 : Int) ^ pl.toNat = Z at *
  refine lv_istore (lv' := [(6, .int (iI Z)), (5, .int (iI V)), (0, .ref h0), (1, .int (iI sh)), (2, .int (iI nu)), (3, .int (iI pl)), (4, .int (iI fi))]) hx hb dX7_isSlip_15 hl (by decide) rfl (fun ls hl => ?_)
  refine lv_iload_n hx hb dX7_isSlip_17 rfl (lv_at hl 5 rfl) ?_
  suffices K_3 : W p l e ({ frames := 1, cells := 0, slots := 0, locals := 26 } : Room) s m ([.ref h0, .int (iI sh), .int (iI nu), .int (iI pl), .int (iI fi)] : List Value).toArray below meth c s.heap [] 0 0 Q (F0 m 33 ls [.int (bP (pl = 0 ∨ Z ≤ V))]) from by
    refine q_if_eq (tgt := 28) hx hb dX7_isSlip_18 (by decide) (by omega) (fun c_4 => ?_) (fun c_4 => ?_)
    · refine lv_iconst (v := iI 1) hx hb dX7_isSlip_28 rfl ?_
      refine lv_goto (tgt := 33) hx hb dX7_isSlip_29 (by decide) ?_
      exact q_si (y := bP (pl = 0 ∨ Z ≤ V)) (bP_t (by omega)).symm K_3
    · refine lv_iload hx hb dX7_isSlip_21 (lv_at hl 1 rfl) ?_
      refine lv_iload hx hb dX7_isSlip_23 (lv_at hl 0 rfl) ?_
      refine q_icmp_lt (tgt := 32) hx hb dX7_isSlip_25 (by decide) (by omega) (fun c_5 => ?_) (fun c_5 => ?_)
      · refine lv_iconst (v := iI 0) hx hb dX7_isSlip_32 rfl ?_
        exact q_si (y := bP (pl = 0 ∨ Z ≤ V)) (bP_f (by omega)).symm K_3
      · refine lv_iconst (v := iI 1) hx hb dX7_isSlip_28 rfl ?_
        refine lv_goto (tgt := 33) hx hb dX7_isSlip_29 (by decide) ?_
        exact q_si (y := bP (pl = 0 ∨ Z ≤ V)) (bP_t (by omega)).symm K_3
  refine lv_istore (lv' := [(7, .int (bP (pl = 0 ∨ Z ≤ V))), (6, .int (iI Z)), (5, .int (iI V)), (0, .ref h0), (1, .int (iI sh)), (2, .int (iI nu)), (3, .int (iI pl)), (4, .int (iI fi))]) hx hb dX7_isSlip_33 hl (by decide) rfl (fun ls hl => ?_)
  refine lv_iload hx hb dX7_isSlip_35 (lv_at hl 2 rfl) ?_
  refine lv_iload hx hb dX7_isSlip_37 (lv_at hl 1 rfl) ?_
  refine q_idivN hx hb dX7_isSlip_39 (by omega) ?_
  have rd_1 : 0 ≤ V / Z ∧ V / Z ≤ 9999 := ⟨Int.ediv_nonneg (by omega) (by omega), Int.le_trans (Int.ediv_le_self Z (by omega)) rv_1.2⟩
  refine lv_bipush (v := iI 10) hx hb dX7_isSlip_40 (by decide) ?_
  refine q_iremN hx hb dX7_isSlip_42 (by omega) ?_
  have rd_2 : 0 ≤ V / Z % 10 ∧ V / Z % 10 ≤ 9 := by omega
  have rd_3 : -9000 ≤ (fi - V / Z % 10) * Z ∧ (fi - V / Z % 10) * Z ≤ 9000 := mulb (by omega) (by omega)
  refine lv_istore (lv' := [(8, .int (iI ((V / Z) % 10))), (7, .int (bP (pl = 0 ∨ Z ≤ V))), (6, .int (iI Z)), (5, .int (iI V)), (0, .ref h0), (1, .int (iI sh)), (2, .int (iI nu)), (3, .int (iI pl)), (4, .int (iI fi))]) hx hb dX7_isSlip_43 hl (by decide) rfl (fun ls hl => ?_)
  refine lv_iload hx hb dX7_isSlip_45 (lv_at hl 1 rfl) ?_
  refine q_ifb_eq (tgt := 64) hx hb dX7_isSlip_47 (by decide) (fun c_6 => ?_) (fun c_6 => ?_)
  · refine lv_iconst (v := iI 0) hx hb dX7_isSlip_64 rfl ?_
    exact qr_z hx hb hr hlocks hQ dX7_isSlip_65 rfl (congrArg (fun z => some (Value.int z)) (bP_f (fun q => by unfold slipB at q; rw [e_V, e_Z] at q; simp only [Bool.and_eq_true, decide_eq_true_eq] at q; first | exact absurd q.1 (by assumption) | exact absurd q.2.1 (by assumption))).symm)
  · refine lv_aload_n hx hb dX7_isSlip_50 rfl (lv_at hl 4 rfl) ?_
    refine va_get (D := g.1) (ci := 7) (v := .ref qH) (C := RX7) (T := TX7) (N := 11) hx hb hts iwX7 hown hE.1 hP 0 rfl rfl 3 (by decide) (hts (.fieldLink RX7 33 "QuickCount" "habits" "LQuickCount$Habits;") (List.mem_cons_of_mem _ (List.mem_append_left _ (List.mem_append_left _ (List.mem_append_left _ (List.mem_append_left _ (List.mem_of_getElem? (i := 1) rfl))))))) (fun _ h9 => h9) rfl dX7_isSlip_51 ?_
    refine lv_iload hx hb dX7_isSlip_54 (lv_at hl 0 rfl) ?_
    refine lv_iload hx hb dX7_isSlip_56 (lv_at hl 8 rfl) ?_
    refine q_read (rest := []) (q_runRVN (As := [.int (iI ((V / Z) % 10)), .int (iI fi)]) ⟨hx, hb, hml, hown, hts⟩ (kX1_are l g qH hB fB ((V / Z) % 10) fi (by omega) (by omega)) ⟨va_cnB 2 hts ggX7_isSlip_X1_are rfl rfl rfl (hE.2 (.methodLinkNest "QuickCount" 314 yX1_are "QuickCount") (List.mem_of_getElem? (i := 25) rfl)) (hts (.initialized RX1) (List.mem_cons_of_mem _ (List.mem_append_left _ (List.mem_append_left _ (List.mem_append_left _ (List.mem_append_left _ (List.mem_of_getElem? (i := 14) rfl))))))) (by decide +kernel) ⟨Nat.le_of_ble_eq_true rfl, Nat.le_of_ble_eq_true rfl⟩, (hts (.instanceMethod yX1_are) (List.mem_cons_of_mem _ (List.mem_append_left _ (List.mem_append_left _ (List.mem_append_left _ (List.mem_append_left _ (List.mem_of_getElem? (i := 13) rfl))))))), (hts (.selects RX1 yX1_are yX1_are) (List.mem_cons_of_mem _ (List.mem_append_left _ (List.mem_append_left _ (List.mem_append_left _ (List.mem_append_left _ (List.mem_of_getElem? (i := 15) rfl)))))))⟩ (va_recv hE.1 hP (ci := 1) (q0 := 6) rfl rfl) hE (hP.sub (ws' := [(qH, .inr (1, [.ref hB])), aZ g hB 100 fB]) [6, 7] rfl) rfl hl.1 (Nat.le_of_ble_eq_true rfl) dX7_isSlip_58 ⟨Nat.zero_le _, Nat.zero_le _⟩) (fun r_ hq_7 => ?_)
    obtain rfl := hq_7
    refine W.eq (g2 := F0 m 61 ls [.int (bP (fB (((V / Z) % 10) * 10 + fi).toNat = true))]) rfl ?_
    refine q_ifb_ne (tgt := 66) hx hb dX7_isSlip_61 (by decide) (fun c_8 => ?_) (fun c_8 => ?_)
    · refine lv_aload_n hx hb dX7_isSlip_66 rfl (lv_at hl 4 rfl) ?_
      refine va_get (D := g.1) (ci := 7) (v := .ref qP) (C := RX7) (T := TX7) (N := 11) hx hb hts iwX7 hown hE.1 hP 0 rfl rfl 1 (by decide) (hts (.fieldLink RX7 19 "QuickCount" "polls" "LQuickCount$PollBook;") (List.mem_cons_of_mem _ (List.mem_append_left _ (List.mem_append_left _ (List.mem_append_left _ (List.mem_append_left _ (List.mem_of_getElem? (i := 2) rfl))))))) (fun _ h9 => h9) rfl dX7_isSlip_67 ?_
      refine va_getN (D := g.1) (ci := 4) (v := .ref pR) (C := RX4) (T := TX4) (N := 8) hx hb hts iwX4 hown hE.1 hP 8 rfl rfl 1 (by decide) (va_Nw.use (w := .fieldLinkNest "QuickCount" 153 "QuickCount$PollBook" "rolls" "[I" "QuickCount") rfl (hE.2 _ (List.mem_of_getElem? (i := 49) rfl))) (fun _ h9 => h9) rfl dX7_isSlip_70 ?_
      refine lv_aload_n hx hb dX7_isSlip_73 rfl (lv_at hl 4 rfl) ?_
      refine va_get (D := g.1) (ci := 7) (v := .ref qS) (C := RX7) (T := TX7) (N := 11) hx hb hts iwX7 hown hE.1 hP 0 rfl rfl 2 (by decide) (hts (.fieldLink RX7 26 "QuickCount" "sheets" "LQuickCount$SheetBook;") (List.mem_cons_of_mem _ (List.mem_append_left _ (List.mem_append_left _ (List.mem_append_left _ (List.mem_append_left _ (List.mem_of_getElem? (i := 0) rfl))))))) (fun _ h9 => h9) rfl dX7_isSlip_74 ?_
      refine va_getN (D := g.1) (ci := 5) (v := .ref kP) (C := RX5) (T := TX5) (N := 9) hx hb hts iwX5 hown hE.1 hP 1 rfl rfl 0 (by decide) (va_Nw.use (w := .fieldLinkNest "QuickCount" 317 "QuickCount$SheetBook" "polls" "[I" "QuickCount") rfl (hE.2 _ (List.mem_of_getElem? (i := 60) rfl))) (fun _ h9 => h9) rfl dX7_isSlip_77 ?_
      refine lv_iload_n hx hb dX7_isSlip_80 rfl (lv_at hl 5 rfl) ?_
      refine q_iald hx hb hE hP 2 rfl ((sh).toNat) (by omega) (by decide) dX7_isSlip_81 ?_
      have rg_9 := h_sP ((sh).toNat)
      refine q_iald hx hb hE hP 9 rfl ((sP ((sh).toNat)).toNat) (by omega) (by decide) dX7_isSlip_82 ?_
      have rg_10 := h_fR ((sP ((sh).toNat)).toNat)
      refine lv_istore (lv' := [(9, .int (iI (fR ((sP ((sh).toNat)).toNat)))), (8, .int (iI ((V / Z) % 10))), (7, .int (bP (pl = 0 ∨ Z ≤ V))), (6, .int (iI Z)), (5, .int (iI V)), (0, .ref h0), (1, .int (iI sh)), (2, .int (iI nu)), (3, .int (iI pl)), (4, .int (iI fi))]) hx hb dX7_isSlip_83 hl (by decide) rfl (fun ls hl => ?_)
      refine lv_aload_n hx hb dX7_isSlip_85 rfl (lv_at hl 5 rfl) ?_
      refine va_get (D := g.1) (ci := 7) (v := .ref qS) (C := RX7) (T := TX7) (N := 11) hx hb hts iwX7 hown hE.1 hP 0 rfl rfl 2 (by decide) (hts (.fieldLink RX7 26 "QuickCount" "sheets" "LQuickCount$SheetBook;") (List.mem_cons_of_mem _ (List.mem_append_left _ (List.mem_append_left _ (List.mem_append_left _ (List.mem_append_left _ (List.mem_of_getElem? (i := 0) rfl))))))) (fun _ h9 => h9) rfl dX7_isSlip_86 ?_
      refine lv_iload_n hx hb dX7_isSlip_89 rfl (lv_at hl 6 rfl) ?_
      refine lv_iload_n hx hb dX7_isSlip_90 rfl (lv_at hl 7 rfl) ?_
      refine lv_aload_n hx hb dX7_isSlip_91 rfl (lv_at hl 5 rfl) ?_
      refine va_get (D := g.1) (ci := 7) (v := .int (iI pm)) (C := RX7) (T := TX7) (N := 11) hx hb hts iwX7 hown hE.1 hP 0 rfl rfl 9 (by decide) (hts (.fieldLink RX7 64 "QuickCount" "partyMany" "I") (List.mem_cons_of_mem _ (List.mem_append_left _ (List.mem_append_left _ (List.mem_append_left _ (List.mem_append_left _ (List.mem_of_getElem? (i := 3) rfl))))))) (fun _ h9 => h9) rfl dX7_isSlip_92 ?_
      refine lv_iconst (v := iI 1) hx hb dX7_isSlip_95 rfl ?_
      refine q_iadd hx hb dX7_isSlip_96 ?_
      suffices K_11 : W p l e ({ frames := 1, cells := 0, slots := 0, locals := 26 } : Room) s m ([.ref h0, .int (iI sh), .int (iI nu), .int (iI pl), .int (iI fi)] : List Value).toArray below meth c s.heap [] 0 0 Q (F0 m 105 ls [.int (bP (decide (nu = (pm + 1)) = true)), .int (iI sh), .ref qS]) from by
        refine q_icmp_ne (tgt := 104) hx hb dX7_isSlip_97 (by decide) (by omega) (fun c_12 => ?_) (fun c_12 => ?_)
        · refine lv_iconst (v := iI 0) hx hb dX7_isSlip_104 rfl ?_
          exact q_si (y := bP (decide (nu = (pm + 1)) = true)) (bP_f (fun z => absurd (of_decide_eq_true z) (by omega))).symm K_11
        · refine lv_iconst (v := iI 1) hx hb dX7_isSlip_100 rfl ?_
          refine lv_goto (tgt := 105) hx hb dX7_isSlip_101 (by decide) ?_
          exact q_si (y := bP (decide (nu = (pm + 1)) = true)) (bP_t (decide_eq_true (by omega))).symm K_11
      refine lv_iload hx hb dX7_isSlip_105 (lv_at hl 9 rfl) ?_
      refine lv_iload hx hb dX7_isSlip_107 (lv_at hl 1 rfl) ?_
      refine q_isub hx hb dX7_isSlip_109 ?_
      refine lv_iload hx hb dX7_isSlip_110 (lv_at hl 3 rfl) ?_
      refine q_imul hx hb dX7_isSlip_112 ?_
      refine lv_iload hx hb dX7_isSlip_113 (lv_at hl 0 rfl) ?_
      refine q_read (rest := []) (q_runRVN (As := [.int (iI sh), .int (bP (decide (nu = (pm + 1)) = true)), .int (iI ((fi - ((V / Z) % 10)) * Z)), .int (iI (fR ((sP ((sh).toNat)).toNat)))]) ⟨hx, hb, hml, hown, hts⟩ (kX5_isMended l g qS kP kM kG kE kA kN kK sE sA (decide (nu = (pm + 1))) sn sl sh ((fi - ((V / Z) % 10)) * Z) (fR ((sP ((sh).toNat)).toNat)) (by omega) (by omega) (by omega) (h_sE) (h_sA)) ⟨va_cnB 4 hts ggX7_isSlip_X5_isMended rfl rfl rfl (hE.2 (.methodLinkNest "QuickCount" 319 yX5_isMended "QuickCount") (List.mem_of_getElem? (i := 26) rfl)) (hts (.initialized RX5) (List.mem_cons_of_mem _ (List.mem_append_left _ (List.mem_append_left _ (List.mem_append_left _ (List.mem_append_left _ (List.mem_of_getElem? (i := 5) rfl))))))) (by decide +kernel) ⟨Nat.le_of_ble_eq_true rfl, Nat.le_of_ble_eq_true rfl⟩, (hts (.instanceMethod yX5_isMended) (List.mem_cons_of_mem _ (List.mem_append_left _ (List.mem_append_left _ (List.mem_append_left _ (List.mem_append_left _ (List.mem_of_getElem? (i := 18) rfl))))))), (hts (.selects RX5 yX5_isMended yX5_isMended) (List.mem_cons_of_mem _ (List.mem_append_left _ (List.mem_append_left _ (List.mem_append_left _ (List.mem_append_left _ (List.mem_of_getElem? (i := 19) rfl)))))))⟩ (va_recv hE.1 hP (ci := 5) (q0 := 1) rfl rfl) hE (hP.sub (ws' := [(qS, .inr (5, [.ref kP, .ref kM, .ref kG, .ref kE, .ref kA, .ref kN, .ref kK, .int (iI sn), .int (iI sl)])), aI g kE 120 sE, aI g kA 120 sA]) [1, 3, 4] rfl) rfl hl.1 (Nat.le_of_ble_eq_true rfl) dX7_isSlip_115 ⟨Nat.zero_le _, Nat.zero_le _⟩) (fun r_ hq_13 => ?_)
      obtain rfl := hq_13
      refine W.eq (g2 := F0 m 118 ls [.int (bP (sE sh.toNat + (if (decide (nu = (pm + 1))) = true then -((fi - ((V / Z) % 10)) * Z) else ((fi - ((V / Z) % 10)) * Z)) = 0 ∧ sA sh.toNat + (if (decide (nu = (pm + 1))) = true then ((fi - ((V / Z) % 10)) * Z) else 0) ≤ (fR ((sP ((sh).toNat)).toNat))))]) rfl ?_
      exact qr_z hx hb hr hlocks hQ dX7_isSlip_118 (bP_nar _) (congrArg (fun z => some (Value.int z)) (bP_iff (by unfold slipB; rw [e_V, e_Z]; simp only [Bool.and_eq_true, decide_eq_true_eq]; exact ⟨fun q => ⟨by assumption, by assumption, q⟩, fun q => q.2.2⟩)))
    · refine lv_iconst (v := iI 0) hx hb dX7_isSlip_64 rfl ?_
      exact qr_z hx hb hr hlocks hQ dX7_isSlip_65 rfl (congrArg (fun z => some (Value.int z)) (bP_f (fun q => by unfold slipB at q; rw [e_V, e_Z] at q; simp only [Bool.and_eq_true, decide_eq_true_eq] at q; first | exact absurd q.1 (by assumption) | exact absurd q.2.1 (by assumption))).symm)
set_option maxHeartbeats 4000000 in
set_option maxRecDepth 100000 in
theorem kX7_slipOf (l : Launch) (g : qG) (h0 : Nat) (qT : Nat) (qP : Nat) (qS : Nat) (qH : Nat) (qL : Nat) (qO : Nat) (qF : Nat) (qW : Nat) (qR : Nat) (kP : Nat) (kM : Nat) (kG : Nat) (kE : Nat) (kA : Nat) (kN : Nat) (kK : Nat) (pL : Nat) (pR : Nat) (pD : Nat) (pW : Nat) (pN : Nat) (pH : Nat) (pT : Nat) (hB : Nat) (sP : Nat → Int) (sE : Nat → Int) (sA : Nat → Int) (sN : Nat → Int) (fB : Nat → Bool) (fR : Nat → Int) (pm : Int) (st : Int) (sn : Int) (sl : Int) (pn : Int) (sh : Int) (kk : Int) (h_sh : 0 ≤ sh ∧ sh ≤ 119) (h_kk : 0 ≤ kk ∧ kk ≤ 2147483647) (h_pm : 2 ≤ pm ∧ pm ≤ 4) (h_sN : ∀ k, 0 ≤ sN k ∧ sN k ≤ 9999) (h_sP : ∀ k, 0 ≤ sP k ∧ sP k ≤ 39) (h_fR : ∀ k, 0 ≤ fR k ∧ fR k ≤ 2000) (h_sE : ∀ k, -100000 ≤ sE k ∧ sE k ≤ 100000) (h_sA : ∀ k, 0 ≤ sA k ∧ sA k ≤ 9999) : MR l g yX7_slipOf wsX7_slipOf ({ frames := 2, cells := 0, slots := 0, locals := 55 }) [.ref h0, .int (iI sh), .int (iI kk)] [(h0, .inr (7, [.ref qT, .ref qP, .ref qS, .ref qH, .ref qL, .ref qO, .ref qF, .ref qW, .ref qR, .int (iI pm), .int (iI st)])), (qS, .inr (5, [.ref kP, .ref kM, .ref kG, .ref kE, .ref kA, .ref kN, .ref kK, .int (iI sn), .int (iI sl)])), aI g kP 120 sP, aI g kE 120 sE, aI g kA 120 sA, aI g kN 720 sN, (qH, .inr (1, [.ref hB])), aZ g hB 100 fB, (qP, .inr (4, [.ref pL, .ref pR, .ref pD, .ref pW, .ref pN, .ref pH, .ref pT, .int (iI pn)])), aI g pR 40 fR] (fun r => r = some (.int (iI (slF sN fB sE sA fR sP pm sh kk)))) := by
  refine MR.intro (cc := cX7_slipOf) (maxL := 6) (ret := (some .int)) (by decide) rfl (Nat.le_of_ble_eq_true rfl) ?_
  intro p e s m below meth c ls Q ⟨hx, hb, hr, hml, hown, hts, hlocks⟩ hP hE hl hQ
  have hl : lv_has ls 6 [(0, .ref h0), (1, .int (iI sh)), (2, .int (iI kk))] := hl
  have iwX7 : ∀ w ∈ wsX70, w ∈ wsX7_slipOf := (fun _ h => List.mem_cons_of_mem _ (List.mem_append_left _ (List.mem_append_left _ (List.mem_append_left _ (List.mem_append_right _ h)))))
  refine lv_iload_n hx hb dX7_slipOf_0 rfl (lv_at hl 2 rfl) ?_
  refine lv_istore_n (lv' := [(3, .int (iI kk)), (0, .ref h0), (1, .int (iI sh)), (2, .int (iI kk))]) hx hb dX7_slipOf_1 rfl hl (by decide) rfl (fun ls hl => ?_)
  refine lv_iconst (v := iI 0) hx hb dX7_slipOf_2 rfl ?_
  refine lv_istore (lv' := [(4, .int (iI 0)), (3, .int (iI kk)), (0, .ref h0), (1, .int (iI sh)), (2, .int (iI kk))]) hx hb dX7_slipOf_3 hl (by decide) rfl (fun ls hl => ?_)
  have K_1 : ∀ (fu_3 : Nat) (a : Nat) (nu : Int) (lf : Int), (nu = (a : Int)) → ((a : Int) ≤ pm + 2) → (0 ≤ lf ∧ lf ≤ 2147483647) → (kth (slQ sN fB sE sA fR sP pm sh) kk (100 * a) = (-1, lf)) → pm.toNat + 2 - a < fu_3 → ∀ (ls : Array Slot), lv_has ls 6 [(4, .int (iI nu)), (3, .int (iI lf)), (0, .ref h0), (1, .int (iI sh)), (2, .int (iI kk))] → W p l e ({ frames := 2, cells := 0, slots := 0, locals := 55 } : Room) s m ([.ref h0, .int (iI sh), .int (iI kk)] : List Value).toArray below meth c s.heap [] 0 0 Q (F0 m 5 ls []) := by
    intro fu_3
    induction fu_3 with
    | zero => exact fun _ _ _ _ _ _ _ q => absurd q (Nat.not_lt_zero _)
    | succ fu_3 ih_2 =>
      intro a nu lf e_n h_a h_lf e_q hm_4 ls hl
      subst e_n
      refine lv_iload hx hb dX7_slipOf_5 (lv_at hl 0 rfl) ?_
      refine lv_aload_n hx hb dX7_slipOf_7 rfl (lv_at hl 2 rfl) ?_
      refine va_get (D := g.1) (ci := 7) (v := .int (iI pm)) (C := RX7) (T := TX7) (N := 11) hx hb hts iwX7 hown hE.1 hP 0 rfl rfl 9 (by decide) (hts (.fieldLink RX7 64 "QuickCount" "partyMany" "I") (List.mem_cons_of_mem _ (List.mem_append_left _ (List.mem_append_left _ (List.mem_append_left _ (List.mem_append_left _ (List.mem_append_left _ (List.mem_of_getElem? (i := 0) rfl)))))))) (fun _ h9 => h9) rfl dX7_slipOf_8 ?_
      refine lv_iconst (v := iI 2) hx hb dX7_slipOf_11 rfl ?_
      refine q_iadd hx hb dX7_slipOf_12 ?_
      refine q_icmp_ge (tgt := 74) hx hb dX7_slipOf_13 (by decide) (by omega) (fun c_5 => ?_) (fun c_5 => ?_)
      · refine lv_iconst (v := iI (-1)) hx hb dX7_slipOf_74 rfl ?_
        exact qr_i hx hb hr hlocks hQ dX7_slipOf_75 (congrArg (fun z => some (Value.int (iI z))) (by unfold slF; rw [show pm.toNat + 2 = a by omega, e_q]))
      · refine lv_iconst (v := iI 0) hx hb dX7_slipOf_16 rfl ?_
        refine lv_istore (lv' := [(5, .int (iI 0)), (4, .int (iI (a : Int))), (3, .int (iI lf)), (0, .ref h0), (1, .int (iI sh)), (2, .int (iI kk))]) hx hb dX7_slipOf_17 hl (by decide) rfl (fun ls hl => ?_)
        have K_6 : ∀ (fu_8 : Nat) (j : Nat) (sp : Int) (lf2 : Int), (sp = (j : Int)) → (j ≤ 40) → (0 ≤ lf2 ∧ lf2 ≤ 2147483647) → (kth (slQ sN fB sE sA fR sP pm sh) kk (100 * a + j) = (-1, lf2)) → 40 - j < fu_8 → ∀ (ls : Array Slot), lv_has ls 6 [(5, .int (iI sp)), (4, .int (iI (a : Int))), (3, .int (iI lf2)), (0, .ref h0), (1, .int (iI sh)), (2, .int (iI kk))] → W p l e ({ frames := 2, cells := 0, slots := 0, locals := 55 } : Room) s m ([.ref h0, .int (iI sh), .int (iI kk)] : List Value).toArray below meth c s.heap [] 0 0 Q (F0 m 19 ls []) := by
          intro fu_8
          induction fu_8 with
          | zero => exact fun _ _ _ _ _ _ _ q => absurd q (Nat.not_lt_zero _)
          | succ fu_8 ih_7 =>
            intro j sp lf2 e_j h_j h_lf2 e_q2 hm_9 ls hl
            subst e_j
            refine lv_iload hx hb dX7_slipOf_19 (lv_at hl 0 rfl) ?_
            refine lv_bipush (v := iI 40) hx hb dX7_slipOf_21 (by decide) ?_
            refine q_icmp_ge (tgt := 68) hx hb dX7_slipOf_23 (by decide) (by omega) (fun c_10 => ?_) (fun c_10 => ?_)
            · refine lv_iinc (v := (iI ((a : Int) + 1))) (lv' := [(4, .int (iI ((a : Int) + 1))), (5, .int (iI (j : Int))), (3, .int (iI lf2)), (0, .ref h0), (1, .int (iI sh)), (2, .int (iI kk))]) hx hb dX7_slipOf_68 hl (k := 1) rfl (iI_add _ _) (by decide) rfl (fun ls hl => ?_)
              refine lv_goto (tgt := 5) hx hb dX7_slipOf_71 (by decide) ?_
              exact ih_2  (a + 1) ((a : Int) + 1) lf2 (by omega) (by omega) (h_lf2) (by have q := kth_skip e_q2 60 (fun j h1 h2 => slQ_hi (n := a) (by omega) (by omega)); rwa [show 100 * a + j + 60 = 100 * (a + 1) by omega] at q) (by omega) ls (lv_sub hl [0, 2, 3, 4, 5] rfl)
            · refine lv_aload_n hx hb dX7_slipOf_26 rfl (lv_at hl 3 rfl) ?_
              refine lv_iload_n hx hb dX7_slipOf_27 rfl (lv_at hl 4 rfl) ?_
              refine lv_iload hx hb dX7_slipOf_28 (lv_at hl 1 rfl) ?_
              refine lv_iload hx hb dX7_slipOf_30 (lv_at hl 0 rfl) ?_
              refine lv_bipush (v := iI 10) hx hb dX7_slipOf_32 (by decide) ?_
              refine q_idivN hx hb dX7_slipOf_34 (by omega) ?_
              refine lv_iload hx hb dX7_slipOf_35 (lv_at hl 0 rfl) ?_
              refine lv_bipush (v := iI 10) hx hb dX7_slipOf_37 (by decide) ?_
              refine q_iremN hx hb dX7_slipOf_39 (by omega) ?_
              refine q_read (rest := []) (q_runRV (As := [.int (iI sh), .int (iI (a : Int)), .int (iI ((j : Int) / 10)), .int (iI ((j : Int) % 10))]) ⟨hx, hb, hml, hown, hts⟩ (kX7_isSlip l g h0 qT qP qS qH qL qO qF qW qR kP kM kG kE kA kN kK pL pR pD pW pN pH pT hB sP sE sA sN fB fR pm st sn sl pn sh (a : Int) ((j : Int) / 10) ((j : Int) % 10) (by omega) (by omega) (by omega) (by omega) (by omega) (h_sN) (h_sP) (h_fR) (h_sE) (h_sA)) (cwV 4 hts gX7_slipOf_X7_isSlip rfl rfl rfl (by decide +kernel) ⟨Nat.le_of_ble_eq_true rfl, Nat.le_of_ble_eq_true rfl⟩) (va_recv hE.1 hP (ci := 7) (q0 := 0) rfl rfl) hE (hP.sub (ws' := [(h0, .inr (7, [.ref qT, .ref qP, .ref qS, .ref qH, .ref qL, .ref qO, .ref qF, .ref qW, .ref qR, .int (iI pm), .int (iI st)])), (qS, .inr (5, [.ref kP, .ref kM, .ref kG, .ref kE, .ref kA, .ref kN, .ref kK, .int (iI sn), .int (iI sl)])), aI g kP 120 sP, aI g kE 120 sE, aI g kA 120 sA, aI g kN 720 sN, (qH, .inr (1, [.ref hB])), aZ g hB 100 fB, (qP, .inr (4, [.ref pL, .ref pR, .ref pD, .ref pW, .ref pN, .ref pH, .ref pT, .int (iI pn)])), aI g pR 40 fR]) [0, 1, 2, 3, 4, 5, 6, 7, 8, 9] rfl) rfl hl.1 (Nat.le_of_ble_eq_true rfl) dX7_slipOf_40 ⟨Nat.zero_le _, Nat.zero_le _⟩) (fun r_ hq_11 => ?_)
              obtain rfl := hq_11
              refine W.eq (g2 := F0 m 43 ls [.int (bP (slipB sN fB sE sA fR sP pm sh (a : Int) ((j : Int) / 10) ((j : Int) % 10) = true))]) rfl ?_
              refine q_ifb_eq (tgt := 62) hx hb dX7_slipOf_43 (by decide) (fun c_12 => ?_) (fun c_12 => ?_)
              · refine lv_iinc (v := (iI ((j : Int) + 1))) (lv' := [(5, .int (iI ((j : Int) + 1))), (4, .int (iI (a : Int))), (3, .int (iI lf2)), (0, .ref h0), (1, .int (iI sh)), (2, .int (iI kk))]) hx hb dX7_slipOf_62 hl (k := 0) rfl (iI_add _ _) (by decide) rfl (fun ls hl => ?_)
                refine lv_goto (tgt := 19) hx hb dX7_slipOf_65 (by decide) ?_
                exact ih_7  (j + 1) ((j : Int) + 1) lf2 (by omega) (by omega) (by omega) (by rw [← Nat.add_assoc]; first | exact kth_n e_q2 (by rw [slQ_at (by omega)]; assumption) | exact kth_y e_q2 (by rw [slQ_at (by omega)]; assumption) (by assumption)) (by omega) ls (lv_sub hl [0, 1, 2, 3, 4, 5] rfl)
              · refine lv_iload_n hx hb dX7_slipOf_46 rfl (lv_at hl 2 rfl) ?_
                refine q_if_ne (tgt := 59) hx hb dX7_slipOf_47 (by decide) (by omega) (fun c_13 => ?_) (fun c_13 => ?_)
                · refine lv_iinc (v := (iI (lf2 + (-1)))) (lv' := [(3, .int (iI (lf2 + (-1)))), (5, .int (iI (j : Int))), (4, .int (iI (a : Int))), (0, .ref h0), (1, .int (iI sh)), (2, .int (iI kk))]) hx hb dX7_slipOf_59 hl (k := 2) rfl (iI_add _ _) (by decide) rfl (fun ls hl => ?_)
                  refine lv_iinc (v := (iI ((j : Int) + 1))) (lv' := [(5, .int (iI ((j : Int) + 1))), (3, .int (iI (lf2 + (-1)))), (4, .int (iI (a : Int))), (0, .ref h0), (1, .int (iI sh)), (2, .int (iI kk))]) hx hb dX7_slipOf_62 hl (k := 1) rfl (iI_add _ _) (by decide) rfl (fun ls hl => ?_)
                  refine lv_goto (tgt := 19) hx hb dX7_slipOf_65 (by decide) ?_
                  exact ih_7  (j + 1) ((j : Int) + 1) (lf2 + (-1)) (by omega) (by omega) (by omega) (by rw [← Nat.add_assoc]; first | exact kth_n e_q2 (by rw [slQ_at (by omega)]; assumption) | exact kth_y e_q2 (by rw [slQ_at (by omega)]; assumption) (by assumption)) (by omega) ls (lv_sub hl [0, 2, 1, 3, 4, 5] rfl)
                · refine lv_bipush (v := iI 100) hx hb dX7_slipOf_50 (by decide) ?_
                  refine lv_iload hx hb dX7_slipOf_52 (lv_at hl 1 rfl) ?_
                  refine q_imul hx hb dX7_slipOf_54 ?_
                  refine lv_iload hx hb dX7_slipOf_55 (lv_at hl 0 rfl) ?_
                  refine q_iadd hx hb dX7_slipOf_57 ?_
                  exact qr_i hx hb hr hlocks hQ dX7_slipOf_58 (congrArg (fun z => some (Value.int (iI z))) (by unfold slF; rw [kth_f e_q2 (by rw [slQ_at (by omega)]; assumption) (by assumption) (N := 100 * (pm.toNat + 2)) (by omega)]; omega))
        exact K_6 (40 - 0 + 1) 0 0 lf (rfl) (by omega) (h_lf) (e_q) (Nat.lt_succ_self _) ls (lv_sub hl [0, 1, 2, 3, 4, 5] rfl)
  exact K_1 (pm.toNat + 2 - 0 + 1) 0 0 kk (rfl) (by omega) (h_kk) (rfl) (Nat.lt_succ_self _) ls (lv_sub hl [0, 1, 2, 3, 4] rfl)
set_option maxHeartbeats 4000000 in
set_option maxRecDepth 100000 in
theorem kX7_slip (l : Launch) (g : qG) (h0 : Nat) (qT : Nat) (qP : Nat) (qS : Nat) (qH : Nat) (qL : Nat) (qO : Nat) (qF : Nat) (qW : Nat) (qR : Nat) (kP : Nat) (kM : Nat) (kG : Nat) (kE : Nat) (kA : Nat) (kN : Nat) (kK : Nat) (pL : Nat) (pR : Nat) (pD : Nat) (pW : Nat) (pN : Nat) (pH : Nat) (pT : Nat) (hB : Nat) (sP : Nat → Int) (sE : Nat → Int) (sA : Nat → Int) (sN : Nat → Int) (fB : Nat → Bool) (fR : Nat → Int) (sG : Nat → Bool) (pm : Int) (st : Int) (sn : Int) (sl : Int) (pn : Int) (sh : Int) (kk : Int) (r_sh : -2147483648 ≤ sh ∧ sh ≤ 2147483647) (r_kk : -2147483648 ≤ kk ∧ kk ≤ 2147483647) (h_sn : 0 ≤ sn ∧ sn ≤ 120) (h_pm : 2 ≤ pm ∧ pm ≤ 4) (h_sN : ∀ k, 0 ≤ sN k ∧ sN k ≤ 9999) (h_sP : ∀ k, 0 ≤ sP k ∧ sP k ≤ 39) (h_fR : ∀ k, 0 ≤ fR k ∧ fR k ≤ 2000) (h_sE : ∀ k, -100000 ≤ sE k ∧ sE k ≤ 100000) (h_sA : ∀ k, 0 ≤ sA k ∧ sA k ≤ 9999) : ME l g yX7_slip wsX7_slip ({ frames := 3, cells := 0, slots := 0, locals := 80 }) [.ref h0, .int (iI sh), .int (iI kk)] [(h0, .inr (7, [.ref qT, .ref qP, .ref qS, .ref qH, .ref qL, .ref qO, .ref qF, .ref qW, .ref qR, .int (iI pm), .int (iI st)])), (qS, .inr (5, [.ref kP, .ref kM, .ref kG, .ref kE, .ref kA, .ref kN, .ref kK, .int (iI sn), .int (iI sl)])), aI g kP 120 sP, aI g kE 120 sE, aI g kA 120 sA, aI g kN 720 sN, (qH, .inr (1, [.ref hB])), aZ g hB 100 fB, (qP, .inr (4, [.ref pL, .ref pR, .ref pD, .ref pW, .ref pN, .ref pH, .ref pT, .int (iI pn)])), aI g pR 40 fR, aZ g kG 120 sG] (fun r w1 => r = some (.int (iI (if wSlip sn sG sh kk = 0 then slF sN fB sE sA fR sP pm sh kk else -1))) ∧ w1 = [(h0, .inr (7, [.ref qT, .ref qP, .ref qS, .ref qH, .ref qL, .ref qO, .ref qF, .ref qW, .ref qR, .int (iI pm), .int (iI (if wSlip sn sG sh kk = 0 then if slF sN fB sE sA fR sP pm sh kk = -1 then 6 else 0 else wSlip sn sG sh kk))])), (qS, .inr (5, [.ref kP, .ref kM, .ref kG, .ref kE, .ref kA, .ref kN, .ref kK, .int (iI sn), .int (iI sl)])), aI g kP 120 sP, aI g kE 120 sE, aI g kA 120 sA, aI g kN 720 sN, (qH, .inr (1, [.ref hB])), aZ g hB 100 fB, (qP, .inr (4, [.ref pL, .ref pR, .ref pD, .ref pW, .ref pN, .ref pH, .ref pT, .int (iI pn)])), aI g pR 40 fR, aZ g kG 120 sG]) := by
  refine ME.intro (cc := cX7_slip) (maxL := 3) (ret := (some .int)) (by decide) rfl (Nat.le_of_ble_eq_true rfl) ?_
  intro p e s m below meth c ls Q A H locs ⟨hx, hb, hr, hml, hown, hts, hlocks⟩ hP hE hl hD hA hS hQ
  have hl : lv_has ls 3 [(0, .ref h0), (1, .int (iI sh)), (2, .int (iI kk))] := hl
  have iwX5 : ∀ w ∈ wsX50, w ∈ wsX7_slip := (fun _ h => List.mem_cons_of_mem _ (List.mem_append_left _ (List.mem_append_left _ (List.mem_append_right _ h))))
  have iwX7 : ∀ w ∈ wsX70, w ∈ wsX7_slip := (fun _ h => List.mem_cons_of_mem _ (List.mem_append_left _ (List.mem_append_left _ (List.mem_append_left _ (List.mem_append_right _ h)))))
  refine lv_aload_n hx hb dX7_slip_0 rfl (lv_at hl 0 rfl) ?_
  refine lv_iload_n hx hb dX7_slip_1 rfl (lv_at hl 1 rfl) ?_
  refine q_read (rest := []) (q_runRV (As := [.int (iI sh)]) ⟨hx, hb, hml, hown, hts⟩ (kX7_isSheet l g h0 qT qP qS qH qL qO qF qW qR kP kM kG kE kA kN kK pm st sn sl sh (by omega) (by omega)) (cwV 1 hts gX7_slip_X7_isSheet rfl rfl rfl (by decide +kernel) ⟨Nat.le_of_ble_eq_true rfl, Nat.le_of_ble_eq_true rfl⟩) (va_recv hE.1 hP (ci := 7) (q0 := 0) rfl rfl) hE (hP.sub (ws' := [(h0, .inr (7, [.ref qT, .ref qP, .ref qS, .ref qH, .ref qL, .ref qO, .ref qF, .ref qW, .ref qR, .int (iI pm), .int (iI st)])), (qS, .inr (5, [.ref kP, .ref kM, .ref kG, .ref kE, .ref kA, .ref kN, .ref kK, .int (iI sn), .int (iI sl)]))]) [0, 1] rfl) rfl hl.1 (Nat.le_of_ble_eq_true rfl) dX7_slip_2 ⟨Nat.zero_le _, Nat.zero_le _⟩) (fun r_ hq_1 => ?_)
  obtain rfl := hq_1
  refine W.eq (g2 := F0 m 5 ls [.int (bP (0 ≤ sh ∧ sh ≤ sn - 1))]) rfl ?_
  refine q_ifb_ne (tgt := 14) hx hb dX7_slip_5 (by decide) (fun c_2 => ?_) (fun c_2 => ?_)
  · refine lv_iload_n hx hb dX7_slip_14 rfl (lv_at hl 2 rfl) ?_
    refine q_if_lt (tgt := 30) hx hb dX7_slip_15 (by decide) (by omega) (fun c_3 => ?_) (fun c_3 => ?_)
    · refine lv_aload_n hx hb dX7_slip_30 rfl (lv_at hl 0 rfl) ?_
      refine lv_bipush (v := iI 6) hx hb dX7_slip_31 (by decide) ?_
      refine q_call (rest := []) (wr := [(qS, .inr (5, [.ref kP, .ref kM, .ref kG, .ref kE, .ref kA, .ref kN, .ref kK, .int (iI sn), .int (iI sl)])), aI g kP 120 sP, aI g kE 120 sE, aI g kA 120 sA, aI g kN 720 sN, (qH, .inr (1, [.ref hB])), aZ g hB 100 fB, (qP, .inr (4, [.ref pL, .ref pR, .ref pD, .ref pW, .ref pN, .ref pH, .ref pT, .int (iI pn)])), aI g pR 40 fR, aZ g kG 120 sG]) (q_runEV (As := [.int (iI 6)]) ⟨hx, hb, hml, hown, hts⟩ (kX7_refused l g h0 qT qP qS qH qL qO qF qW qR pm st 6 ) (cwV 1 hts gX7_slip_X7_refused rfl rfl rfl (by decide +kernel) ⟨Nat.le_of_ble_eq_true rfl, Nat.le_of_ble_eq_true rfl⟩) (va_recv hE.1 hP (ci := 7) (q0 := 0) rfl rfl) hE (hP.sub (ws' := [(h0, .inr (7, [.ref qT, .ref qP, .ref qS, .ref qH, .ref qL, .ref qO, .ref qF, .ref qW, .ref qR, .int (iI pm), .int (iI st)]))]) [0] rfl) (hD.sub (ws' := [(h0, .inr (7, [.ref qT, .ref qP, .ref qS, .ref qH, .ref qL, .ref qO, .ref qF, .ref qW, .ref qR, .int (iI pm), .int (iI st)]))]) [0] (by decide) rfl) rfl hl.1 (Nat.le_of_ble_eq_true rfl) dX7_slip_33 ⟨Nat.zero_le _, Nat.zero_le _⟩) hP hD hS hA [0] [1, 2, 3, 4, 5, 6, 7, 8, 9, 10] rfl rfl (by decide) (by decide) (fun r_ w_ H locs hq_4 hP hD hS => ?_)
      obtain ⟨rfl, rfl⟩ := hq_4
      have hP : va_P g.1 vwCl [(qS, .inr (5, [.ref kP, .ref kM, .ref kG, .ref kE, .ref kA, .ref kN, .ref kK, .int (iI sn), .int (iI sl)])), aI g kP 120 sP, aI g kE 120 sE, aI g kA 120 sA, aI g kN 720 sN, (qH, .inr (1, [.ref hB])), aZ g hB 100 fB, (qP, .inr (4, [.ref pL, .ref pR, .ref pD, .ref pW, .ref pN, .ref pH, .ref pT, .int (iI pn)])), aI g pR 40 fR, aZ g kG 120 sG, (h0, .inr (7, [.ref qT, .ref qP, .ref qS, .ref qH, .ref qL, .ref qO, .ref qF, .ref qW, .ref qR, .int (iI pm), .int (iI 6)]))] H := hP
      have hD : va_D A [(qS, .inr (5, [.ref kP, .ref kM, .ref kG, .ref kE, .ref kA, .ref kN, .ref kK, .int (iI sn), .int (iI sl)])), aI g kP 120 sP, aI g kE 120 sE, aI g kA 120 sA, aI g kN 720 sN, (qH, .inr (1, [.ref hB])), aZ g hB 100 fB, (qP, .inr (4, [.ref pL, .ref pR, .ref pD, .ref pW, .ref pN, .ref pH, .ref pT, .int (iI pn)])), aI g pR 40 fR, aZ g kG 120 sG, (h0, .inr (7, [.ref qT, .ref qP, .ref qS, .ref qH, .ref qL, .ref qO, .ref qF, .ref qW, .ref qR, .int (iI pm), .int (iI 6)]))] := hD
      refine W.eq (g2 := F0 m 36 ls [.int (iI (-1))]) rfl ?_
      exact qe_i hx hb hr hlocks hQ hS dX7_slip_36 (hP.sub (ws' := [(h0, .inr (7, [.ref qT, .ref qP, .ref qS, .ref qH, .ref qL, .ref qO, .ref qF, .ref qW, .ref qR, .int (iI pm), .int (iI 6)])), (qS, .inr (5, [.ref kP, .ref kM, .ref kG, .ref kE, .ref kA, .ref kN, .ref kK, .int (iI sn), .int (iI sl)])), aI g kP 120 sP, aI g kE 120 sE, aI g kA 120 sA, aI g kN 720 sN, (qH, .inr (1, [.ref hB])), aZ g hB 100 fB, (qP, .inr (4, [.ref pL, .ref pR, .ref pD, .ref pW, .ref pN, .ref pH, .ref pT, .int (iI pn)])), aI g pR 40 fR, aZ g kG 120 sG]) [10, 0, 1, 2, 3, 4, 5, 6, 7, 8, 9] rfl) (hD.sub (ws' := [(h0, .inr (7, [.ref qT, .ref qP, .ref qS, .ref qH, .ref qL, .ref qO, .ref qF, .ref qW, .ref qR, .int (iI pm), .int (iI 6)])), (qS, .inr (5, [.ref kP, .ref kM, .ref kG, .ref kE, .ref kA, .ref kN, .ref kK, .int (iI sn), .int (iI sl)])), aI g kP 120 sP, aI g kE 120 sE, aI g kA 120 sA, aI g kN 720 sN, (qH, .inr (1, [.ref hB])), aZ g hB 100 fB, (qP, .inr (4, [.ref pL, .ref pR, .ref pD, .ref pW, .ref pN, .ref pH, .ref pT, .int (iI pn)])), aI g pR 40 fR, aZ g kG 120 sG]) [10, 0, 1, 2, 3, 4, 5, 6, 7, 8, 9] (by decide) rfl) (by have e_w : wSlip sn sG sh kk = 6 := (by unfold wSlip; (repeat' split) <;> first | rfl | (exfalso; simp_all; done) | (exfalso; simp_all; omega)); rw [e_w]; exact ⟨by first | simp only [reduceIte, Int.reduceEq] | rfl | simp, by first | simp only [reduceIte, Int.reduceEq] | rfl | simp⟩)
    · refine lv_aload_n hx hb dX7_slip_18 rfl (lv_at hl 0 rfl) ?_
      refine va_get (D := g.1) (ci := 7) (v := .ref qS) (C := RX7) (T := TX7) (N := 11) hx hb hts iwX7 hown hE.1 hP 0 rfl rfl 2 (by decide) (hts (.fieldLink RX7 26 "QuickCount" "sheets" "LQuickCount$SheetBook;") (List.mem_cons_of_mem _ (List.mem_append_left _ (List.mem_append_left _ (List.mem_append_left _ (List.mem_append_left _ (List.mem_append_left _ (List.mem_of_getElem? (i := 0) rfl)))))))) (fun _ h9 => h9) rfl dX7_slip_19 ?_
      refine va_getN (D := g.1) (ci := 5) (v := .ref kG) (C := RX5) (T := TX5) (N := 9) hx hb hts iwX5 hown hE.1 hP 1 rfl rfl 2 (by decide) (va_Nw.use (w := .fieldLinkNest "QuickCount" 189 "QuickCount$SheetBook" "isGood" "[Z" "QuickCount") rfl (hE.2 _ (List.mem_of_getElem? (i := 61) rfl))) (fun _ h9 => h9) rfl dX7_slip_22 ?_
      refine lv_iload_n hx hb dX7_slip_25 rfl (lv_at hl 1 rfl) ?_
      refine q_zald hx hb hE hP 10 rfl ((sh).toNat) (by omega) (by decide) dX7_slip_26 ?_
      refine q_ifb_eq (tgt := 37) hx hb dX7_slip_27 (by decide) (fun c_5 => ?_) (fun c_5 => ?_)
      · refine lv_aload_n hx hb dX7_slip_37 rfl (lv_at hl 0 rfl) ?_
        refine lv_aload_n hx hb dX7_slip_38 rfl (lv_at hl 0 rfl) ?_
        refine lv_iload_n hx hb dX7_slip_39 rfl (lv_at hl 1 rfl) ?_
        refine lv_iload_n hx hb dX7_slip_40 rfl (lv_at hl 2 rfl) ?_
        refine q_read (rest := [.ref h0]) (q_runRV (As := [.int (iI sh), .int (iI kk)]) ⟨hx, hb, hml, hown, hts⟩ (kX7_slipOf l g h0 qT qP qS qH qL qO qF qW qR kP kM kG kE kA kN kK pL pR pD pW pN pH pT hB sP sE sA sN fB fR pm st sn sl pn sh kk (by omega) (by omega) (by omega) (h_sN) (h_sP) (h_fR) (h_sE) (h_sA)) (cwV 2 hts gX7_slip_X7_slipOf rfl rfl rfl (by decide +kernel) ⟨Nat.le_of_ble_eq_true rfl, Nat.le_of_ble_eq_true rfl⟩) (va_recv hE.1 hP (ci := 7) (q0 := 0) rfl rfl) hE (hP.sub (ws' := [(h0, .inr (7, [.ref qT, .ref qP, .ref qS, .ref qH, .ref qL, .ref qO, .ref qF, .ref qW, .ref qR, .int (iI pm), .int (iI st)])), (qS, .inr (5, [.ref kP, .ref kM, .ref kG, .ref kE, .ref kA, .ref kN, .ref kK, .int (iI sn), .int (iI sl)])), aI g kP 120 sP, aI g kE 120 sE, aI g kA 120 sA, aI g kN 720 sN, (qH, .inr (1, [.ref hB])), aZ g hB 100 fB, (qP, .inr (4, [.ref pL, .ref pR, .ref pD, .ref pW, .ref pN, .ref pH, .ref pT, .int (iI pn)])), aI g pR 40 fR]) [0, 1, 2, 3, 4, 5, 6, 7, 8, 9] rfl) rfl hl.1 (Nat.le_of_ble_eq_true rfl) dX7_slip_41 ⟨Nat.zero_le _, Nat.zero_le _⟩) (fun r_ hq_6 => ?_)
        obtain rfl := hq_6
        refine W.eq (g2 := F0 m 44 ls [.int (iI (slF sN fB sE sA fR sP pm sh kk)), .ref h0]) rfl ?_
        have rk : -1 ≤ slF sN fB sE sA fR sP pm sh kk ∧ slF sN fB sE sA fR sP pm sh kk < (100 * (pm.toNat + 2) : Nat) := kth_r _
        refine q_call (rest := []) (wr := [(qS, .inr (5, [.ref kP, .ref kM, .ref kG, .ref kE, .ref kA, .ref kN, .ref kK, .int (iI sn), .int (iI sl)])), aI g kP 120 sP, aI g kE 120 sE, aI g kA 120 sA, aI g kN 720 sN, (qH, .inr (1, [.ref hB])), aZ g hB 100 fB, (qP, .inr (4, [.ref pL, .ref pR, .ref pD, .ref pW, .ref pN, .ref pH, .ref pT, .int (iI pn)])), aI g pR 40 fR, aZ g kG 120 sG]) (q_runEV (As := [.int (iI (slF sN fB sE sA fR sP pm sh kk))]) ⟨hx, hb, hml, hown, hts⟩ (kX7_answeredIfAny l g h0 qT qP qS qH qL qO qF qW qR pm st (slF sN fB sE sA fR sP pm sh kk) (by omega)) (cwV 1 hts gX7_slip_X7_answeredIfAny rfl rfl rfl (by decide +kernel) ⟨Nat.le_of_ble_eq_true rfl, Nat.le_of_ble_eq_true rfl⟩) (va_recv hE.1 hP (ci := 7) (q0 := 0) rfl rfl) hE (hP.sub (ws' := [(h0, .inr (7, [.ref qT, .ref qP, .ref qS, .ref qH, .ref qL, .ref qO, .ref qF, .ref qW, .ref qR, .int (iI pm), .int (iI st)]))]) [0] rfl) (hD.sub (ws' := [(h0, .inr (7, [.ref qT, .ref qP, .ref qS, .ref qH, .ref qL, .ref qO, .ref qF, .ref qW, .ref qR, .int (iI pm), .int (iI st)]))]) [0] (by decide) rfl) rfl hl.1 (Nat.le_of_ble_eq_true rfl) dX7_slip_44 ⟨Nat.zero_le _, Nat.zero_le _⟩) hP hD hS hA [0] [1, 2, 3, 4, 5, 6, 7, 8, 9, 10] rfl rfl (by decide) (by decide) (fun r_ w_ H locs hq_7 hP hD hS => ?_)
        obtain ⟨rfl, rfl⟩ := hq_7
        have hP : va_P g.1 vwCl [(qS, .inr (5, [.ref kP, .ref kM, .ref kG, .ref kE, .ref kA, .ref kN, .ref kK, .int (iI sn), .int (iI sl)])), aI g kP 120 sP, aI g kE 120 sE, aI g kA 120 sA, aI g kN 720 sN, (qH, .inr (1, [.ref hB])), aZ g hB 100 fB, (qP, .inr (4, [.ref pL, .ref pR, .ref pD, .ref pW, .ref pN, .ref pH, .ref pT, .int (iI pn)])), aI g pR 40 fR, aZ g kG 120 sG, (h0, .inr (7, [.ref qT, .ref qP, .ref qS, .ref qH, .ref qL, .ref qO, .ref qF, .ref qW, .ref qR, .int (iI pm), .int (iI (if (slF sN fB sE sA fR sP pm sh kk) = -1 then 6 else 0))]))] H := hP
        have hD : va_D A [(qS, .inr (5, [.ref kP, .ref kM, .ref kG, .ref kE, .ref kA, .ref kN, .ref kK, .int (iI sn), .int (iI sl)])), aI g kP 120 sP, aI g kE 120 sE, aI g kA 120 sA, aI g kN 720 sN, (qH, .inr (1, [.ref hB])), aZ g hB 100 fB, (qP, .inr (4, [.ref pL, .ref pR, .ref pD, .ref pW, .ref pN, .ref pH, .ref pT, .int (iI pn)])), aI g pR 40 fR, aZ g kG 120 sG, (h0, .inr (7, [.ref qT, .ref qP, .ref qS, .ref qH, .ref qL, .ref qO, .ref qF, .ref qW, .ref qR, .int (iI pm), .int (iI (if (slF sN fB sE sA fR sP pm sh kk) = -1 then 6 else 0))]))] := hD
        refine W.eq (g2 := F0 m 47 ls [.int (iI (slF sN fB sE sA fR sP pm sh kk))]) rfl ?_
        exact qe_i hx hb hr hlocks hQ hS dX7_slip_47 (hP.sub (ws' := [(h0, .inr (7, [.ref qT, .ref qP, .ref qS, .ref qH, .ref qL, .ref qO, .ref qF, .ref qW, .ref qR, .int (iI pm), .int (iI (if (slF sN fB sE sA fR sP pm sh kk) = -1 then 6 else 0))])), (qS, .inr (5, [.ref kP, .ref kM, .ref kG, .ref kE, .ref kA, .ref kN, .ref kK, .int (iI sn), .int (iI sl)])), aI g kP 120 sP, aI g kE 120 sE, aI g kA 120 sA, aI g kN 720 sN, (qH, .inr (1, [.ref hB])), aZ g hB 100 fB, (qP, .inr (4, [.ref pL, .ref pR, .ref pD, .ref pW, .ref pN, .ref pH, .ref pT, .int (iI pn)])), aI g pR 40 fR, aZ g kG 120 sG]) [10, 0, 1, 2, 3, 4, 5, 6, 7, 8, 9] rfl) (hD.sub (ws' := [(h0, .inr (7, [.ref qT, .ref qP, .ref qS, .ref qH, .ref qL, .ref qO, .ref qF, .ref qW, .ref qR, .int (iI pm), .int (iI (if (slF sN fB sE sA fR sP pm sh kk) = -1 then 6 else 0))])), (qS, .inr (5, [.ref kP, .ref kM, .ref kG, .ref kE, .ref kA, .ref kN, .ref kK, .int (iI sn), .int (iI sl)])), aI g kP 120 sP, aI g kE 120 sE, aI g kA 120 sA, aI g kN 720 sN, (qH, .inr (1, [.ref hB])), aZ g hB 100 fB, (qP, .inr (4, [.ref pL, .ref pR, .ref pD, .ref pW, .ref pN, .ref pH, .ref pT, .int (iI pn)])), aI g pR 40 fR, aZ g kG 120 sG]) [10, 0, 1, 2, 3, 4, 5, 6, 7, 8, 9] (by decide) rfl) (by have e_w : wSlip sn sG sh kk = 0 := (by unfold wSlip; (repeat' split) <;> first | rfl | (exfalso; simp_all; done) | (exfalso; simp_all; omega)); rw [e_w]; exact ⟨by first | simp only [reduceIte, Int.reduceEq] | rfl | simp, by first | simp only [reduceIte, Int.reduceEq] | rfl | simp⟩)
      · refine lv_aload_n hx hb dX7_slip_30 rfl (lv_at hl 0 rfl) ?_
        refine lv_bipush (v := iI 6) hx hb dX7_slip_31 (by decide) ?_
        refine q_call (rest := []) (wr := [(qS, .inr (5, [.ref kP, .ref kM, .ref kG, .ref kE, .ref kA, .ref kN, .ref kK, .int (iI sn), .int (iI sl)])), aI g kP 120 sP, aI g kE 120 sE, aI g kA 120 sA, aI g kN 720 sN, (qH, .inr (1, [.ref hB])), aZ g hB 100 fB, (qP, .inr (4, [.ref pL, .ref pR, .ref pD, .ref pW, .ref pN, .ref pH, .ref pT, .int (iI pn)])), aI g pR 40 fR, aZ g kG 120 sG]) (q_runEV (As := [.int (iI 6)]) ⟨hx, hb, hml, hown, hts⟩ (kX7_refused l g h0 qT qP qS qH qL qO qF qW qR pm st 6 ) (cwV 1 hts gX7_slip_X7_refused rfl rfl rfl (by decide +kernel) ⟨Nat.le_of_ble_eq_true rfl, Nat.le_of_ble_eq_true rfl⟩) (va_recv hE.1 hP (ci := 7) (q0 := 0) rfl rfl) hE (hP.sub (ws' := [(h0, .inr (7, [.ref qT, .ref qP, .ref qS, .ref qH, .ref qL, .ref qO, .ref qF, .ref qW, .ref qR, .int (iI pm), .int (iI st)]))]) [0] rfl) (hD.sub (ws' := [(h0, .inr (7, [.ref qT, .ref qP, .ref qS, .ref qH, .ref qL, .ref qO, .ref qF, .ref qW, .ref qR, .int (iI pm), .int (iI st)]))]) [0] (by decide) rfl) rfl hl.1 (Nat.le_of_ble_eq_true rfl) dX7_slip_33 ⟨Nat.zero_le _, Nat.zero_le _⟩) hP hD hS hA [0] [1, 2, 3, 4, 5, 6, 7, 8, 9, 10] rfl rfl (by decide) (by decide) (fun r_ w_ H locs hq_8 hP hD hS => ?_)
        obtain ⟨rfl, rfl⟩ := hq_8
        have hP : va_P g.1 vwCl [(qS, .inr (5, [.ref kP, .ref kM, .ref kG, .ref kE, .ref kA, .ref kN, .ref kK, .int (iI sn), .int (iI sl)])), aI g kP 120 sP, aI g kE 120 sE, aI g kA 120 sA, aI g kN 720 sN, (qH, .inr (1, [.ref hB])), aZ g hB 100 fB, (qP, .inr (4, [.ref pL, .ref pR, .ref pD, .ref pW, .ref pN, .ref pH, .ref pT, .int (iI pn)])), aI g pR 40 fR, aZ g kG 120 sG, (h0, .inr (7, [.ref qT, .ref qP, .ref qS, .ref qH, .ref qL, .ref qO, .ref qF, .ref qW, .ref qR, .int (iI pm), .int (iI 6)]))] H := hP
        have hD : va_D A [(qS, .inr (5, [.ref kP, .ref kM, .ref kG, .ref kE, .ref kA, .ref kN, .ref kK, .int (iI sn), .int (iI sl)])), aI g kP 120 sP, aI g kE 120 sE, aI g kA 120 sA, aI g kN 720 sN, (qH, .inr (1, [.ref hB])), aZ g hB 100 fB, (qP, .inr (4, [.ref pL, .ref pR, .ref pD, .ref pW, .ref pN, .ref pH, .ref pT, .int (iI pn)])), aI g pR 40 fR, aZ g kG 120 sG, (h0, .inr (7, [.ref qT, .ref qP, .ref qS, .ref qH, .ref qL, .ref qO, .ref qF, .ref qW, .ref qR, .int (iI pm), .int (iI 6)]))] := hD
        refine W.eq (g2 := F0 m 36 ls [.int (iI (-1))]) rfl ?_
        exact qe_i hx hb hr hlocks hQ hS dX7_slip_36 (hP.sub (ws' := [(h0, .inr (7, [.ref qT, .ref qP, .ref qS, .ref qH, .ref qL, .ref qO, .ref qF, .ref qW, .ref qR, .int (iI pm), .int (iI 6)])), (qS, .inr (5, [.ref kP, .ref kM, .ref kG, .ref kE, .ref kA, .ref kN, .ref kK, .int (iI sn), .int (iI sl)])), aI g kP 120 sP, aI g kE 120 sE, aI g kA 120 sA, aI g kN 720 sN, (qH, .inr (1, [.ref hB])), aZ g hB 100 fB, (qP, .inr (4, [.ref pL, .ref pR, .ref pD, .ref pW, .ref pN, .ref pH, .ref pT, .int (iI pn)])), aI g pR 40 fR, aZ g kG 120 sG]) [10, 0, 1, 2, 3, 4, 5, 6, 7, 8, 9] rfl) (hD.sub (ws' := [(h0, .inr (7, [.ref qT, .ref qP, .ref qS, .ref qH, .ref qL, .ref qO, .ref qF, .ref qW, .ref qR, .int (iI pm), .int (iI 6)])), (qS, .inr (5, [.ref kP, .ref kM, .ref kG, .ref kE, .ref kA, .ref kN, .ref kK, .int (iI sn), .int (iI sl)])), aI g kP 120 sP, aI g kE 120 sE, aI g kA 120 sA, aI g kN 720 sN, (qH, .inr (1, [.ref hB])), aZ g hB 100 fB, (qP, .inr (4, [.ref pL, .ref pR, .ref pD, .ref pW, .ref pN, .ref pH, .ref pT, .int (iI pn)])), aI g pR 40 fR, aZ g kG 120 sG]) [10, 0, 1, 2, 3, 4, 5, 6, 7, 8, 9] (by decide) rfl) (by have e_w : wSlip sn sG sh kk = 6 := (by unfold wSlip; (repeat' split) <;> first | rfl | (exfalso; simp_all; done) | (exfalso; simp_all; omega)); rw [e_w]; exact ⟨by first | simp only [reduceIte, Int.reduceEq] | rfl | simp, by first | simp only [reduceIte, Int.reduceEq] | rfl | simp⟩)
  · refine lv_aload_n hx hb dX7_slip_8 rfl (lv_at hl 0 rfl) ?_
    refine lv_iconst (v := iI 1) hx hb dX7_slip_9 rfl ?_
    refine q_call (rest := []) (wr := [(qS, .inr (5, [.ref kP, .ref kM, .ref kG, .ref kE, .ref kA, .ref kN, .ref kK, .int (iI sn), .int (iI sl)])), aI g kP 120 sP, aI g kE 120 sE, aI g kA 120 sA, aI g kN 720 sN, (qH, .inr (1, [.ref hB])), aZ g hB 100 fB, (qP, .inr (4, [.ref pL, .ref pR, .ref pD, .ref pW, .ref pN, .ref pH, .ref pT, .int (iI pn)])), aI g pR 40 fR, aZ g kG 120 sG]) (q_runEV (As := [.int (iI 1)]) ⟨hx, hb, hml, hown, hts⟩ (kX7_refused l g h0 qT qP qS qH qL qO qF qW qR pm st 1 ) (cwV 1 hts gX7_slip_X7_refused rfl rfl rfl (by decide +kernel) ⟨Nat.le_of_ble_eq_true rfl, Nat.le_of_ble_eq_true rfl⟩) (va_recv hE.1 hP (ci := 7) (q0 := 0) rfl rfl) hE (hP.sub (ws' := [(h0, .inr (7, [.ref qT, .ref qP, .ref qS, .ref qH, .ref qL, .ref qO, .ref qF, .ref qW, .ref qR, .int (iI pm), .int (iI st)]))]) [0] rfl) (hD.sub (ws' := [(h0, .inr (7, [.ref qT, .ref qP, .ref qS, .ref qH, .ref qL, .ref qO, .ref qF, .ref qW, .ref qR, .int (iI pm), .int (iI st)]))]) [0] (by decide) rfl) rfl hl.1 (Nat.le_of_ble_eq_true rfl) dX7_slip_10 ⟨Nat.zero_le _, Nat.zero_le _⟩) hP hD hS hA [0] [1, 2, 3, 4, 5, 6, 7, 8, 9, 10] rfl rfl (by decide) (by decide) (fun r_ w_ H locs hq_9 hP hD hS => ?_)
    obtain ⟨rfl, rfl⟩ := hq_9
    have hP : va_P g.1 vwCl [(qS, .inr (5, [.ref kP, .ref kM, .ref kG, .ref kE, .ref kA, .ref kN, .ref kK, .int (iI sn), .int (iI sl)])), aI g kP 120 sP, aI g kE 120 sE, aI g kA 120 sA, aI g kN 720 sN, (qH, .inr (1, [.ref hB])), aZ g hB 100 fB, (qP, .inr (4, [.ref pL, .ref pR, .ref pD, .ref pW, .ref pN, .ref pH, .ref pT, .int (iI pn)])), aI g pR 40 fR, aZ g kG 120 sG, (h0, .inr (7, [.ref qT, .ref qP, .ref qS, .ref qH, .ref qL, .ref qO, .ref qF, .ref qW, .ref qR, .int (iI pm), .int (iI 1)]))] H := hP
    have hD : va_D A [(qS, .inr (5, [.ref kP, .ref kM, .ref kG, .ref kE, .ref kA, .ref kN, .ref kK, .int (iI sn), .int (iI sl)])), aI g kP 120 sP, aI g kE 120 sE, aI g kA 120 sA, aI g kN 720 sN, (qH, .inr (1, [.ref hB])), aZ g hB 100 fB, (qP, .inr (4, [.ref pL, .ref pR, .ref pD, .ref pW, .ref pN, .ref pH, .ref pT, .int (iI pn)])), aI g pR 40 fR, aZ g kG 120 sG, (h0, .inr (7, [.ref qT, .ref qP, .ref qS, .ref qH, .ref qL, .ref qO, .ref qF, .ref qW, .ref qR, .int (iI pm), .int (iI 1)]))] := hD
    refine W.eq (g2 := F0 m 13 ls [.int (iI (-1))]) rfl ?_
    exact qe_i hx hb hr hlocks hQ hS dX7_slip_13 (hP.sub (ws' := [(h0, .inr (7, [.ref qT, .ref qP, .ref qS, .ref qH, .ref qL, .ref qO, .ref qF, .ref qW, .ref qR, .int (iI pm), .int (iI 1)])), (qS, .inr (5, [.ref kP, .ref kM, .ref kG, .ref kE, .ref kA, .ref kN, .ref kK, .int (iI sn), .int (iI sl)])), aI g kP 120 sP, aI g kE 120 sE, aI g kA 120 sA, aI g kN 720 sN, (qH, .inr (1, [.ref hB])), aZ g hB 100 fB, (qP, .inr (4, [.ref pL, .ref pR, .ref pD, .ref pW, .ref pN, .ref pH, .ref pT, .int (iI pn)])), aI g pR 40 fR, aZ g kG 120 sG]) [10, 0, 1, 2, 3, 4, 5, 6, 7, 8, 9] rfl) (hD.sub (ws' := [(h0, .inr (7, [.ref qT, .ref qP, .ref qS, .ref qH, .ref qL, .ref qO, .ref qF, .ref qW, .ref qR, .int (iI pm), .int (iI 1)])), (qS, .inr (5, [.ref kP, .ref kM, .ref kG, .ref kE, .ref kA, .ref kN, .ref kK, .int (iI sn), .int (iI sl)])), aI g kP 120 sP, aI g kE 120 sE, aI g kA 120 sA, aI g kN 720 sN, (qH, .inr (1, [.ref hB])), aZ g hB 100 fB, (qP, .inr (4, [.ref pL, .ref pR, .ref pD, .ref pW, .ref pN, .ref pH, .ref pT, .int (iI pn)])), aI g pR 40 fR, aZ g kG 120 sG]) [10, 0, 1, 2, 3, 4, 5, 6, 7, 8, 9] (by decide) rfl) (by have e_w : wSlip sn sG sh kk = 1 := (by unfold wSlip; (repeat' split) <;> first | rfl | (exfalso; simp_all; done) | (exfalso; simp_all; omega)); rw [e_w]; exact ⟨by first | simp only [reduceIte, Int.reduceEq] | rfl | simp, by first | simp only [reduceIte, Int.reduceEq] | rfl | simp⟩)
