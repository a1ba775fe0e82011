theorem rz (a b : Int) (h : a ≤ 0 ∧ 0 ≤ b) : ∀ k : Nat, a ≤ (fun _ : Nat => (0 : Int)) k ∧ (fun _ : Nat => (0 : Int)) k ≤ b := fun _ => h
theorem iv0_t : IVt (fun k => if k < 4 then -1 else 0) (fun _ => 0) (fun _ => 0) (fun _ => 0) (fun _ => 0) := by
  refine ⟨fun k => ?_, rz _ _ (by decide), rz _ _ (by decide), rz _ _ (by decide), fun k hk => ?_, rz _ _ (by decide), fun t j _ _ _ => rfl⟩
  · show -1 ≤ (if k < 4 then (-1 : Int) else 0) ∧ (if k < 4 then (-1 : Int) else 0) ≤ 3
    split <;> decide
  · show (0 : Int) = if k < 4 then -1 else 0
    rw [if_neg (fun q => hk (if_pos q))]
theorem iv0_p : IVp (fun _ => 0) (fun _ => 0) (fun _ => 0) (fun _ => 0) (fun _ => 0) (fun _ => false) (fun _ => false) (fun _ => false) (fun _ => false) 0 := by
  refine ⟨by decide, rz _ _ (by decide), rz _ _ (by decide), fun k => rfl, rz _ _ (by decide), rz _ _ (by decide), fun k h => Bool.noConfusion h, fun k _ => rfl, fun k _ => rfl, fun k _ => rfl, fun k => ⟨fun h => Bool.noConfusion h, fun h => absurd h (Int.lt_irrefl 0)⟩, fun l _ h => absurd h (Int.lt_irrefl 0), fun l _ => Int.le_refl _, fun l _ => Int.le_refl _⟩
theorem iv0_s : IVs (fun _ => 0) (fun _ => 0) (fun _ => 0) (fun _ => 0) (fun _ => 0) (fun _ => 0) (fun _ => false) 2 0 0 0 := by
  refine ⟨by decide, by decide, by decide, rz _ _ (by decide), rz _ _ (by decide), rz _ _ (by decide), rz _ _ (by decide), rz _ _ (by decide), fun k h => absurd h (by omega), fun k h => absurd h (by omega), fun k h => absurd h (by omega), fun k h => absurd h (by omega)⟩
theorem mz_0 : va_up (va_up (va_up (va_up (fun _ => (0 : Int)) 0 (-1)) 1 (-1)) 2 (-1)) 3 (-1) = mzF (fun k => if k < 4 then -1 else 0) (fun _ => 0) := by
  funext k
  rw [upA, upA, upA, upA]
  show _ = if (if k < 4 then (-1 : Int) else 0) = -1 then (-1 : Int) else 0
  by_cases q : k < 4
  · rw [if_pos q, if_pos rfl]
    rcases (show k = 0 ∨ k = 1 ∨ k = 2 ∨ k = 3 by omega) with rfl | rfl | rfl | rfl <;> rfl
  · rw [if_neg (show ¬ k = 3 by omega), if_neg (show ¬ k = 2 by omega), if_neg (show ¬ k = 1 by omega), if_neg (show ¬ k = 0 by omega), if_neg q, if_neg (by decide)]
theorem arr_of {s : State} {args : Array Value} {ty : FieldType} (harr : (Cond.arrayClass ty).before args s = true) : ∃ cA : ClassId, ArrOfT s cA ty ∧ s.vm.findClass ("[" ++ ty.toString) = some cA := by
  obtain ⟨cA, kA, comp, h1, h2, h3⟩ := Cond.arrayClass_spec harr
  exact ⟨cA, fun n z => ⟨fun k h => (by cases h), kA, h2, comp, h3⟩, h1⟩

/-! THE CLAIM OUT OF ONE WALK OF THE LAW'S BODY. Your part is whole_start (and what it stands on); all else here is the same for every law, but numbers. -/
def R_law : String := "QuickCountLaw"
def lw_P (b : Addr) (xs : List Int32) (args : Array Value) (s : State) : Prop := args = #[.ref b] ∧ s.IntsAt b xs ∧ xs.length ≤ 3072 ∧ (Jvm.Cond.and given_1 narrow_1).before args s = true
def lw_Q (_ : Array Value) (s : State) (o : Outcome) (t : State) : Prop := o = .returned (some (.int 1)) ∧ Framed s o t [] 53 3977
def lw_Z (below : List Frame) (a : Array Value) (s : State) : State → Prop := fun t => ∃ o, t.status = .running ∧ Ended t below o ∧ lw_Q a s o t
/-- the law's own end, with 1 on the stack, nothing written that was there before, its room as the claim has it -/
theorem lw_ret {p : Program} {l : Launch} {e : Env} {s : State} {m : MethodId} {below : List Frame} {meth : Method} {c : Code} {b : Nat} (hx : p.tables.exec = Jvm.exec) (hb : c.code = code) (hr : meth.sig.returnType = ret) (hlocks : meth.locks = false) {pc : Nat} {H : Heap} {ls : Array Slot} (hdg : decode code pc = .ok (.ireturn, 1)) : W p l e room_1 s m #[Value.ref b] below meth c H [] 53 3977 (lw_Z below #[Value.ref b] s) (F0 m pc ls [.int 1]) := by
  intro T hT X
  obtain ⟨fs, hret, hrun, hended, hW, hframe⟩ := X.leave (v := some (.int 1)) (hlocks := hlocks) (fun h => by rw [hr] at h; cases h)
  have hmeth' : T.vm.method? m = some meth := X.method'
  refine ⟨T.setFrames fs, ?_, .returned (some (.int 1)), hrun, hended, rfl, ⟨_, rfl⟩, hW, hframe⟩
  jvm_step X.here [X.here.top, hx, hb, hdg, hmeth', hr, ret, narrow_b1]
  (try refine ⟨rfl, ?_⟩); (try refine ⟨rfl, ?_⟩)
  first | (intro acts; rw [hret _ acts rfl rfl rfl]) | rw [hret _ _ rfl rfl rfl]
  exact Steps.refl _
/-- what holds at the law's entry: the machine, the code, the tables' words (any of lw_tbl by 'hts w (by decide +kernel)'), the script of L ints xs at the cell b, what the Statement gives of the start (any of its parts by flat_of_before) -/
def lw_At (p : Program) (s : State) (m : MethodId) (meth : Method) (c : Code) (b L : Nat) (xs : Nat → Int32) : Prop :=
  p.tables.exec = Jvm.exec ∧ c.code = code ∧ meth.sig.returnType = ret ∧ c.maxLocals = 4 ∧ s.vm.findClass R_law = some m.cls ∧ (∀ w ∈ lw_tbl, w.before #[Value.ref b] s = true) ∧ va_X b L xs s s.heap ∧ b < s.heap.size ∧ meth.locks = false ∧ (Jvm.Cond.and given_1 narrow_1).before #[Value.ref b] s = true
-- ===== YOUR PART BEGINS =====
set_option maxHeartbeats 4000000 in
set_option maxRecDepth 100000 in
/-- YOUR PART: from the entry, for every script of at most 3072 ints, the law comes to its end with true -/
theorem whole_start {p : Program} {e : Env} {s : State} {m : MethodId} {below : List Frame} {meth : Method} {c : Code} (l : Launch) {b L : Nat} {xs : Nat → Int32} (hL : L ≤ 3072) (C0 : lw_At p s m meth c b L xs) : W p l e room_1 s m #[Value.ref b] below meth c s.heap [] 0 0 (lw_Z below #[Value.ref b] s) (entryFrame m ([Value.ref b] : List Value).toArray 4) := by
  obtain ⟨hx, hb, hr, hml, hown, hT, hX, hbl, hlocks, hgv⟩ := id C0
  have hts : ∀ w ∈ wsL_law, w.before #[Value.ref b] s = true := fun w h => hT w (wsL_law_in w h)
  have hown : s.vm.findClass RL = some m.cls := hown
  have hA : ∀ q : Nat, s.heap.size ≤ q → (fun q : Nat => s.heap.size ≤ q) q := fun _ h => h
  have hbA : ¬ (fun q : Nat => s.heap.size ≤ q) b := Nat.not_le.mpr hbl
  obtain ⟨c0, iS0, hKn0⟩ := u_known (C := RX0) (T := TX0) (N := 2) (n := 2) hT inX0 (hT _ li_38)
  obtain ⟨c1, iS1, hKn1⟩ := u_known (C := RX1) (T := TX1) (N := 1) (n := 1) hT inX1 (hT _ li_26)
  obtain ⟨c2, iS2, hKn2⟩ := u_known (C := RX2) (T := TX2) (N := 4) (n := 4) hT inX2 (hT _ li_30)
  obtain ⟨c3, iS3, hKn3⟩ := u_known (C := RX3) (T := TX3) (N := 6) (n := 6) hT inX3 (hT _ li_34)
  obtain ⟨c4, iS4, hKn4⟩ := u_known (C := RX4) (T := TX4) (N := 8) (n := 8) hT inX4 (hT _ li_18)
  obtain ⟨c5, iS5, hKn5⟩ := u_known (C := RX5) (T := TX5) (N := 9) (n := 9) hT inX5 (hT _ li_22)
  obtain ⟨c6, iS6, hKn6⟩ := u_known (C := RX6) (T := TX6) (N := 3) (n := 3) hT inX6 (hT _ li_14)
  obtain ⟨c7, iS7, hKn7⟩ := u_known (C := RX7) (T := TX7) (N := 11) (n := 11) hT inX7 (hT _ li_1)
  obtain ⟨c8, iS8, hKn8⟩ := u_known (C := RX8) (T := TX8) (N := 32) (n := 32) hT inX8 (hT _ li_4)
  obtain ⟨dC, dI, hKc⟩ : ∃ (dC : Nat → ClassId) (dI : Nat → Nat → Nat), ∀ (k : Nat) (q : vw_C), vwCl[k]? = some q → u_Kn s q.1 q.2.1 q.2.2 (dC k) (dI k) := by
    refine ⟨fun k => if k = 0 then c0 else if k = 1 then c1 else if k = 2 then c2 else if k = 3 then c3 else if k = 4 then c4 else if k = 5 then c5 else if k = 6 then c6 else if k = 7 then c7 else c8, fun k => if k = 0 then iS0 else if k = 1 then iS1 else if k = 2 then iS2 else if k = 3 then iS3 else if k = 4 then iS4 else if k = 5 then iS5 else if k = 6 then iS6 else if k = 7 then iS7 else iS8, ?_⟩
    intro k q hq
    match k, hq with
    | 0, hq => cases hq; exact hKn0
    | 1, hq => cases hq; exact hKn1
    | 2, hq => cases hq; exact hKn2
    | 3, hq => cases hq; exact hKn3
    | 4, hq => cases hq; exact hKn4
    | 5, hq => cases hq; exact hKn5
    | 6, hq => cases hq; exact hKn6
    | 7, hq => cases hq; exact hKn7
    | 8, hq => cases hq; exact hKn8
    | k + 9, hq => simp [vwCl] at hq
  obtain ⟨yI, aI1, aI2⟩ := arr_of (hT _ li_48)
  obtain ⟨yJ, aJ1, aJ2⟩ := arr_of (hT _ li_51)
  obtain ⟨yZ, aZ1, aZ2⟩ := arr_of (hT _ li_58)
  obtain ⟨g, hE⟩ : ∃ g : qG, qE g s := by
    refine ⟨((dC, dI), yI, yJ, yZ), ⟨hKc, ?_⟩, fun w hw => va_Nw.of (qn_on (qn_all w hw)) (hT w (qn_in w hw))⟩
    intro k q hq
    match k, hq with
    | 0, hq => cases hq; exact ⟨aI1, aI2⟩
    | 1, hq => cases hq; exact ⟨aJ1, aJ2⟩
    | 2, hq => cases hq; exact ⟨aZ1, aZ2⟩
    | k + 3, hq => simp [qT] at hq
  have hS : va_S (fun q : Nat => s.heap.size ≤ q) s.heap s.heap [] := va_S.rf
  have hP : va_P g.1 vwCl [] s.heap := fun k q h => by simp at h
  have hD : va_D (fun q : Nat => s.heap.size ≤ q) [] := ⟨fun i j p q h => by simp at h, fun k q h => by simp at h⟩
  have hl := lv_entry ([.ref b]) (n := 4) (Nat.le_of_ble_eq_true rfl)
  rw [lg_entry_eq]
  generalize (lg_sl ([.ref b]) ++ List.replicate (4 - (lg_sl ([.ref b])).length) Slot.unset).toArray = ls at hl ⊢
  have hl : lv_has ls 4 [(0, .ref b)] := hl
  refine va_new (ci := 7) (fs := [.null, .null, .null, .null, .null, .null, .null, .null, .null, .int (iI 0), .int (iI 0)]) (C := RX7) (T := TX7) (N := 11) hx hb hT inX7 tyX7 tyX7_ok hown (hT _ li_0) (hT _ li_1) (hT _ li_2) hE.1 hP hD hS hA rfl (fun j hj => by rcases (show j = 0 ∨ j = 1 ∨ j = 2 ∨ j = 3 ∨ j = 4 ∨ j = 5 ∨ j = 6 ∨ j = 7 ∨ j = 8 ∨ j = 9 ∨ j = 10 by omega) with rfl | rfl | rfl | rfl | rfl | rfl | rfl | rfl | rfl | rfl | rfl <;> rfl) (Nat.le_of_ble_eq_true rfl) (Nat.le_of_ble_eq_true rfl) dL_law_0 (fun h0 H hP hD hS => ?_)
  refine W.widen (k := 1) (n := 11) (Nat.le_of_ble_eq_true rfl) (Nat.le_of_ble_eq_true rfl) ?_
  have hP : va_P g.1 vwCl [(h0, .inr (7, [.null, .null, .null, .null, .null, .null, .null, .null, .null, .int (iI 0), .int (iI 0)]))] H := hP
  have hD : va_D (fun q : Nat => s.heap.size ≤ q) [(h0, .inr (7, [.null, .null, .null, .null, .null, .null, .null, .null, .null, .int (iI 0), .int (iI 0)]))] := hD
  refine lv_dup hx hb dL_law_3 rfl ?_
  refine q_callG (rest := [.ref h0]) (wr := []) (q_runIL (As := []) ⟨hx, hb, hml, hown, hts⟩ (kX7_init l g h0 ) (cwI 0 hts gL_law_X7_init rfl rfl rfl (hT _ li_2) (hT _ li_7) (hT _ li_8) rfl (by decide +kernel) ⟨Nat.le_of_ble_eq_true rfl, Nat.le_of_ble_eq_true rfl⟩) hE (hP.sub (ws' := [(h0, .inr (7, [.null, .null, .null, .null, .null, .null, .null, .null, .null, .int (iI 0), .int (iI 0)]))]) [0] rfl) (hD.sub (ws' := [(h0, .inr (7, [.null, .null, .null, .null, .null, .null, .null, .null, .null, .int (iI 0), .int (iI 0)]))]) [0] (by decide) rfl) rfl hl.1 (Nat.le_of_ble_eq_true rfl) dL_law_4 ⟨Nat.le_of_ble_eq_true rfl, Nat.le_of_ble_eq_true rfl⟩) hP hD hS hA [0] [] rfl rfl (by decide) (by decide) (fun r_ w_ H locs hq_1 hP hD hS => ?_)
  refine W.widen (k := 34) (n := 1984) (Nat.le_of_ble_eq_true rfl) (Nat.le_of_ble_eq_true rfl) ?_
  refine W.widen (k := 34) (n := 1984) (Nat.le_of_ble_eq_true rfl) (Nat.le_of_ble_eq_true rfl) ?_
  obtain ⟨qT, uS, uZ, uN, qP, pL, pR, pD, pW, pN, pH, pT, qS, kP, kM, kG, kE, kA, kN, kK, qH, hB, qL, lK, lT, lS, lU, qO, oP, oQ, qF, qW, qR, rfl, rfl⟩ := hq_1
  have hP : va_P g.1 vwCl [(h0, .inr (7, [.ref qT, .ref qP, .ref qS, .ref qH, .ref qL, .ref qO, .ref qF, .ref qW, .ref qR, .int (iI 2), .int (iI 0)])), (qT, .inr (6, [.ref uS, .ref uZ, .ref uN])), aI g uS 4 (fun k => if k < 4 then -1 else 0), aI g uZ 4 (fun _ => 0), aJ g uN 80 (fun _ => 0), (qP, .inr (4, [.ref pL, .ref pR, .ref pD, .ref pW, .ref pN, .ref pH, .ref pT, .int (iI 0)])), aI g pL 40 (fun _ => 0), aI g pR 40 (fun _ => 0), aZ g pD 40 (fun _ => false), aZ g pW 40 (fun _ => false), aI g pN 4 (fun _ => 0), aI g pH 4 (fun _ => 0), aI g pT 4 (fun _ => 0), (qS, .inr (5, [.ref kP, .ref kM, .ref kG, .ref kE, .ref kA, .ref kN, .ref kK, .int (iI 0), .int (iI 0)])), aI g kP 120 (fun _ => 0), aI g kM 120 (fun _ => 0), aZ g kG 120 (fun _ => false), aI g kE 120 (fun _ => 0), aI g kA 120 (fun _ => 0), aI g kN 720 (fun _ => 0), aI g kK 40 (fun _ => 0), (qH, .inr (1, [.ref hB])), aZ g hB 100 (fun _ => false), (qL, .inr (2, [.ref lK, .ref lT, .ref lS, .ref lU])), aI g lK 4 (fun _ => 0), aJ g lT 4 (fun _ => 0), aJ g lS 4 (fun _ => 0), aJ g lU 4 (fun _ => 0), (qO, .inr (3, [.ref oP, .ref oQ, .int (bP (false = true)), .int (iI 0), .int (iI 0), .int (iI 0)])), aZ g oP 40 (fun _ => false), aI g oQ 160 (fun _ => 0), (qF, .inr (0, [.long (jI 0), .long (jI 1)])), (qW, .inr (0, [.long (jI 0), .long (jI 1)])), (qR, .inr (0, [.long (jI 0), .long (jI 1)]))] H := hP
  have hD : va_D (fun q : Nat => s.heap.size ≤ q) [(h0, .inr (7, [.ref qT, .ref qP, .ref qS, .ref qH, .ref qL, .ref qO, .ref qF, .ref qW, .ref qR, .int (iI 2), .int (iI 0)])), (qT, .inr (6, [.ref uS, .ref uZ, .ref uN])), aI g uS 4 (fun k => if k < 4 then -1 else 0), aI g uZ 4 (fun _ => 0), aJ g uN 80 (fun _ => 0), (qP, .inr (4, [.ref pL, .ref pR, .ref pD, .ref pW, .ref pN, .ref pH, .ref pT, .int (iI 0)])), aI g pL 40 (fun _ => 0), aI g pR 40 (fun _ => 0), aZ g pD 40 (fun _ => false), aZ g pW 40 (fun _ => false), aI g pN 4 (fun _ => 0), aI g pH 4 (fun _ => 0), aI g pT 4 (fun _ => 0), (qS, .inr (5, [.ref kP, .ref kM, .ref kG, .ref kE, .ref kA, .ref kN, .ref kK, .int (iI 0), .int (iI 0)])), aI g kP 120 (fun _ => 0), aI g kM 120 (fun _ => 0), aZ g kG 120 (fun _ => false), aI g kE 120 (fun _ => 0), aI g kA 120 (fun _ => 0), aI g kN 720 (fun _ => 0), aI g kK 40 (fun _ => 0), (qH, .inr (1, [.ref hB])), aZ g hB 100 (fun _ => false), (qL, .inr (2, [.ref lK, .ref lT, .ref lS, .ref lU])), aI g lK 4 (fun _ => 0), aJ g lT 4 (fun _ => 0), aJ g lS 4 (fun _ => 0), aJ g lU 4 (fun _ => 0), (qO, .inr (3, [.ref oP, .ref oQ, .int (bP (false = true)), .int (iI 0), .int (iI 0), .int (iI 0)])), aZ g oP 40 (fun _ => false), aI g oQ 160 (fun _ => 0), (qF, .inr (0, [.long (jI 0), .long (jI 1)])), (qW, .inr (0, [.long (jI 0), .long (jI 1)])), (qR, .inr (0, [.long (jI 0), .long (jI 1)]))] := hD
  refine W.eq (g2 := F0 m 7 ls [.ref h0]) rfl ?_
  refine lv_astore_n (lv' := [(1, .ref h0), (0, .ref b)]) hx hb dL_law_7 rfl hl (by decide) rfl (fun ls hl => ?_)
  refine va_new (ci := 8) (fs := [.int (iI 0), .long (jI 0), .long (jI 0), .null, .null, .null, .int (iI 0), .int (iI 0), .int (iI 0), .int (iI 0), .null, .null, .null, .null, .null, .null, .null, .null, .int (bP (false = true)), .null, .null, .null, .null, .long (jI 0), .long (jI 0), .null, .int (iI 0), .null, .int (iI 0), .int (iI 0), .int (iI 0), .null]) (C := RX8) (T := TX8) (N := 32) hx hb hT inX8 tyX8 tyX8_ok hown (hT _ li_3) (hT _ li_4) (hT _ li_5) hE.1 hP hD hS hA rfl (fun j hj => by rcases (show j = 0 ∨ j = 1 ∨ j = 2 ∨ j = 3 ∨ j = 4 ∨ j = 5 ∨ j = 6 ∨ j = 7 ∨ j = 8 ∨ j = 9 ∨ j = 10 ∨ j = 11 ∨ j = 12 ∨ j = 13 ∨ j = 14 ∨ j = 15 ∨ j = 16 ∨ j = 17 ∨ j = 18 ∨ j = 19 ∨ j = 20 ∨ j = 21 ∨ j = 22 ∨ j = 23 ∨ j = 24 ∨ j = 25 ∨ j = 26 ∨ j = 27 ∨ j = 28 ∨ j = 29 ∨ j = 30 ∨ j = 31 by omega) with rfl | rfl | rfl | rfl | rfl | rfl | rfl | rfl | rfl | rfl | rfl | rfl | rfl | rfl | rfl | rfl | rfl | rfl | rfl | rfl | rfl | rfl | rfl | rfl | rfl | rfl | rfl | rfl | rfl | rfl | rfl | rfl <;> rfl) (Nat.le_of_ble_eq_true rfl) (Nat.le_of_ble_eq_true rfl) dL_law_8 (fun h1 H hP hD hS => ?_)
  refine W.widen (k := 35) (n := 2016) (Nat.le_of_ble_eq_true rfl) (Nat.le_of_ble_eq_true rfl) ?_
  have hP : va_P g.1 vwCl [(h0, .inr (7, [.ref qT, .ref qP, .ref qS, .ref qH, .ref qL, .ref qO, .ref qF, .ref qW, .ref qR, .int (iI 2), .int (iI 0)])), (qT, .inr (6, [.ref uS, .ref uZ, .ref uN])), aI g uS 4 (fun k => if k < 4 then -1 else 0), aI g uZ 4 (fun _ => 0), aJ g uN 80 (fun _ => 0), (qP, .inr (4, [.ref pL, .ref pR, .ref pD, .ref pW, .ref pN, .ref pH, .ref pT, .int (iI 0)])), aI g pL 40 (fun _ => 0), aI g pR 40 (fun _ => 0), aZ g pD 40 (fun _ => false), aZ g pW 40 (fun _ => false), aI g pN 4 (fun _ => 0), aI g pH 4 (fun _ => 0), aI g pT 4 (fun _ => 0), (qS, .inr (5, [.ref kP, .ref kM, .ref kG, .ref kE, .ref kA, .ref kN, .ref kK, .int (iI 0), .int (iI 0)])), aI g kP 120 (fun _ => 0), aI g kM 120 (fun _ => 0), aZ g kG 120 (fun _ => false), aI g kE 120 (fun _ => 0), aI g kA 120 (fun _ => 0), aI g kN 720 (fun _ => 0), aI g kK 40 (fun _ => 0), (qH, .inr (1, [.ref hB])), aZ g hB 100 (fun _ => false), (qL, .inr (2, [.ref lK, .ref lT, .ref lS, .ref lU])), aI g lK 4 (fun _ => 0), aJ g lT 4 (fun _ => 0), aJ g lS 4 (fun _ => 0), aJ g lU 4 (fun _ => 0), (qO, .inr (3, [.ref oP, .ref oQ, .int (bP (false = true)), .int (iI 0), .int (iI 0), .int (iI 0)])), aZ g oP 40 (fun _ => false), aI g oQ 160 (fun _ => 0), (qF, .inr (0, [.long (jI 0), .long (jI 1)])), (qW, .inr (0, [.long (jI 0), .long (jI 1)])), (qR, .inr (0, [.long (jI 0), .long (jI 1)])), (h1, .inr (8, [.int (iI 0), .long (jI 0), .long (jI 0), .null, .null, .null, .int (iI 0), .int (iI 0), .int (iI 0), .int (iI 0), .null, .null, .null, .null, .null, .null, .null, .null, .int (bP (false = true)), .null, .null, .null, .null, .long (jI 0), .long (jI 0), .null, .int (iI 0), .null, .int (iI 0), .int (iI 0), .int (iI 0), .null]))] H := hP
  have hD : va_D (fun q : Nat => s.heap.size ≤ q) [(h0, .inr (7, [.ref qT, .ref qP, .ref qS, .ref qH, .ref qL, .ref qO, .ref qF, .ref qW, .ref qR, .int (iI 2), .int (iI 0)])), (qT, .inr (6, [.ref uS, .ref uZ, .ref uN])), aI g uS 4 (fun k => if k < 4 then -1 else 0), aI g uZ 4 (fun _ => 0), aJ g uN 80 (fun _ => 0), (qP, .inr (4, [.ref pL, .ref pR, .ref pD, .ref pW, .ref pN, .ref pH, .ref pT, .int (iI 0)])), aI g pL 40 (fun _ => 0), aI g pR 40 (fun _ => 0), aZ g pD 40 (fun _ => false), aZ g pW 40 (fun _ => false), aI g pN 4 (fun _ => 0), aI g pH 4 (fun _ => 0), aI g pT 4 (fun _ => 0), (qS, .inr (5, [.ref kP, .ref kM, .ref kG, .ref kE, .ref kA, .ref kN, .ref kK, .int (iI 0), .int (iI 0)])), aI g kP 120 (fun _ => 0), aI g kM 120 (fun _ => 0), aZ g kG 120 (fun _ => false), aI g kE 120 (fun _ => 0), aI g kA 120 (fun _ => 0), aI g kN 720 (fun _ => 0), aI g kK 40 (fun _ => 0), (qH, .inr (1, [.ref hB])), aZ g hB 100 (fun _ => false), (qL, .inr (2, [.ref lK, .ref lT, .ref lS, .ref lU])), aI g lK 4 (fun _ => 0), aJ g lT 4 (fun _ => 0), aJ g lS 4 (fun _ => 0), aJ g lU 4 (fun _ => 0), (qO, .inr (3, [.ref oP, .ref oQ, .int (bP (false = true)), .int (iI 0), .int (iI 0), .int (iI 0)])), aZ g oP 40 (fun _ => false), aI g oQ 160 (fun _ => 0), (qF, .inr (0, [.long (jI 0), .long (jI 1)])), (qW, .inr (0, [.long (jI 0), .long (jI 1)])), (qR, .inr (0, [.long (jI 0), .long (jI 1)])), (h1, .inr (8, [.int (iI 0), .long (jI 0), .long (jI 0), .null, .null, .null, .int (iI 0), .int (iI 0), .int (iI 0), .int (iI 0), .null, .null, .null, .null, .null, .null, .null, .null, .int (bP (false = true)), .null, .null, .null, .null, .long (jI 0), .long (jI 0), .null, .int (iI 0), .null, .int (iI 0), .int (iI 0), .int (iI 0), .null]))] := hD
  refine lv_dup hx hb dL_law_11 rfl ?_
  refine q_callG (rest := [.ref h1]) (wr := [(h0, .inr (7, [.ref qT, .ref qP, .ref qS, .ref qH, .ref qL, .ref qO, .ref qF, .ref qW, .ref qR, .int (iI 2), .int (iI 0)])), (qT, .inr (6, [.ref uS, .ref uZ, .ref uN])), aI g uS 4 (fun k => if k < 4 then -1 else 0), aI g uZ 4 (fun _ => 0), aJ g uN 80 (fun _ => 0), (qP, .inr (4, [.ref pL, .ref pR, .ref pD, .ref pW, .ref pN, .ref pH, .ref pT, .int (iI 0)])), aI g pL 40 (fun _ => 0), aI g pR 40 (fun _ => 0), aZ g pD 40 (fun _ => false), aZ g pW 40 (fun _ => false), aI g pN 4 (fun _ => 0), aI g pH 4 (fun _ => 0), aI g pT 4 (fun _ => 0), (qS, .inr (5, [.ref kP, .ref kM, .ref kG, .ref kE, .ref kA, .ref kN, .ref kK, .int (iI 0), .int (iI 0)])), aI g kP 120 (fun _ => 0), aI g kM 120 (fun _ => 0), aZ g kG 120 (fun _ => false), aI g kE 120 (fun _ => 0), aI g kA 120 (fun _ => 0), aI g kN 720 (fun _ => 0), aI g kK 40 (fun _ => 0), (qH, .inr (1, [.ref hB])), aZ g hB 100 (fun _ => false), (qL, .inr (2, [.ref lK, .ref lT, .ref lS, .ref lU])), aI g lK 4 (fun _ => 0), aJ g lT 4 (fun _ => 0), aJ g lS 4 (fun _ => 0), aJ g lU 4 (fun _ => 0), (qO, .inr (3, [.ref oP, .ref oQ, .int (bP (false = true)), .int (iI 0), .int (iI 0), .int (iI 0)])), aZ g oP 40 (fun _ => false), aI g oQ 160 (fun _ => 0), (qF, .inr (0, [.long (jI 0), .long (jI 1)])), (qW, .inr (0, [.long (jI 0), .long (jI 1)])), (qR, .inr (0, [.long (jI 0), .long (jI 1)]))]) (q_runIL (As := []) ⟨hx, hb, hml, hown, hts⟩ (kX8_init l g h1 ) (cwI 0 hts gL_law_X8_init rfl rfl rfl (hT _ li_5) (hT _ li_95) (hT _ li_96) rfl (by decide +kernel) ⟨Nat.le_of_ble_eq_true rfl, Nat.le_of_ble_eq_true rfl⟩) hE (hP.sub (ws' := [(h1, .inr (8, [.int (iI 0), .long (jI 0), .long (jI 0), .null, .null, .null, .int (iI 0), .int (iI 0), .int (iI 0), .int (iI 0), .null, .null, .null, .null, .null, .null, .null, .null, .int (bP (false = true)), .null, .null, .null, .null, .long (jI 0), .long (jI 0), .null, .int (iI 0), .null, .int (iI 0), .int (iI 0), .int (iI 0), .null]))]) [34] rfl) (hD.sub (ws' := [(h1, .inr (8, [.int (iI 0), .long (jI 0), .long (jI 0), .null, .null, .null, .int (iI 0), .int (iI 0), .int (iI 0), .int (iI 0), .null, .null, .null, .null, .null, .null, .null, .null, .int (bP (false = true)), .null, .null, .null, .null, .long (jI 0), .long (jI 0), .null, .int (iI 0), .null, .int (iI 0), .int (iI 0), .int (iI 0), .null]))]) [34] (by decide) rfl) rfl hl.1 (Nat.le_of_ble_eq_true rfl) dL_law_12 ⟨Nat.le_of_ble_eq_true rfl, Nat.le_of_ble_eq_true rfl⟩) hP hD hS hA [34] [0, 1, 2, 3, 4, 5, 6, 7, 8, 9, 10, 11, 12, 13, 14, 15, 16, 17, 18, 19, 20, 21, 22, 23, 24, 25, 26, 27, 28, 29, 30, 31, 32, 33] rfl rfl (by decide) (by decide) (fun r_ w_ H locs hq_2 hP hD hS => ?_)
  refine W.widen (k := 53) (n := 3977) (Nat.le_of_ble_eq_true rfl) (Nat.le_of_ble_eq_true rfl) ?_
  refine W.widen (k := 53) (n := 3977) (Nat.le_of_ble_eq_true rfl) (Nat.le_of_ble_eq_true rfl) ?_
  obtain ⟨mS, mZ, mN, mL, mR, mT, mH, mD, mW, mB, mO, mP, mM, mF, mX, mE, mV, mY, rfl, rfl⟩ := hq_2
  have hP : va_P g.1 vwCl [(h0, .inr (7, [.ref qT, .ref qP, .ref qS, .ref qH, .ref qL, .ref qO, .ref qF, .ref qW, .ref qR, .int (iI 2), .int (iI 0)])), (qT, .inr (6, [.ref uS, .ref uZ, .ref uN])), aI g uS 4 (fun k => if k < 4 then -1 else 0), aI g uZ 4 (fun _ => 0), aJ g uN 80 (fun _ => 0), (qP, .inr (4, [.ref pL, .ref pR, .ref pD, .ref pW, .ref pN, .ref pH, .ref pT, .int (iI 0)])), aI g pL 40 (fun _ => 0), aI g pR 40 (fun _ => 0), aZ g pD 40 (fun _ => false), aZ g pW 40 (fun _ => false), aI g pN 4 (fun _ => 0), aI g pH 4 (fun _ => 0), aI g pT 4 (fun _ => 0), (qS, .inr (5, [.ref kP, .ref kM, .ref kG, .ref kE, .ref kA, .ref kN, .ref kK, .int (iI 0), .int (iI 0)])), aI g kP 120 (fun _ => 0), aI g kM 120 (fun _ => 0), aZ g kG 120 (fun _ => false), aI g kE 120 (fun _ => 0), aI g kA 120 (fun _ => 0), aI g kN 720 (fun _ => 0), aI g kK 40 (fun _ => 0), (qH, .inr (1, [.ref hB])), aZ g hB 100 (fun _ => false), (qL, .inr (2, [.ref lK, .ref lT, .ref lS, .ref lU])), aI g lK 4 (fun _ => 0), aJ g lT 4 (fun _ => 0), aJ g lS 4 (fun _ => 0), aJ g lU 4 (fun _ => 0), (qO, .inr (3, [.ref oP, .ref oQ, .int (bP (false = true)), .int (iI 0), .int (iI 0), .int (iI 0)])), aZ g oP 40 (fun _ => false), aI g oQ 160 (fun _ => 0), (qF, .inr (0, [.long (jI 0), .long (jI 1)])), (qW, .inr (0, [.long (jI 0), .long (jI 1)])), (qR, .inr (0, [.long (jI 0), .long (jI 1)])), (h1, .inr (8, [.int (iI 0), .long (jI 0), .long (jI 1), .ref mS, .ref mZ, .ref mN, .int (iI 2), .int (iI 0), .int (iI 0), .int (iI 0), .ref mL, .ref mR, .ref mT, .ref mH, .ref mD, .ref mW, .ref mB, .ref mO, .int (bP (false = true)), .ref mP, .ref mM, .ref mF, .ref mX, .long (jI 0), .long (jI 0), .ref mE, .int (iI 0), .ref mV, .int (iI 0), .int (iI 0), .int (iI 0), .ref mY])), aI g mS 4 (fun _ => 0), aI g mZ 4 (va_up (va_up (va_up (va_up (fun _ => 0) 0 (-1)) 1 (-1)) 2 (-1)) 3 (-1)), aJ g mN 80 (fun _ => 0), aI g mL 40 (fun _ => 0), aI g mR 40 (fun _ => 0), aI g mT 4 (fun _ => 0), aI g mH 4 (fun _ => 0), aZ g mD 40 (fun _ => false), aZ g mW 40 (fun _ => false), aZ g mB 4 (fun _ => false), aZ g mO 40 (fun _ => false), aI g mP 120 (fun _ => 0), aI g mM 120 (fun _ => 0), aI g mF 720 (fun _ => 0), aZ g mX 100 (fun _ => false), aI g mE 400 (fun _ => 0), aI g mV 160 (fun _ => 0), aJ g mY 41 (fun _ => 0)] H := hP
  have hD : va_D (fun q : Nat => s.heap.size ≤ q) [(h0, .inr (7, [.ref qT, .ref qP, .ref qS, .ref qH, .ref qL, .ref qO, .ref qF, .ref qW, .ref qR, .int (iI 2), .int (iI 0)])), (qT, .inr (6, [.ref uS, .ref uZ, .ref uN])), aI g uS 4 (fun k => if k < 4 then -1 else 0), aI g uZ 4 (fun _ => 0), aJ g uN 80 (fun _ => 0), (qP, .inr (4, [.ref pL, .ref pR, .ref pD, .ref pW, .ref pN, .ref pH, .ref pT, .int (iI 0)])), aI g pL 40 (fun _ => 0), aI g pR 40 (fun _ => 0), aZ g pD 40 (fun _ => false), aZ g pW 40 (fun _ => false), aI g pN 4 (fun _ => 0), aI g pH 4 (fun _ => 0), aI g pT 4 (fun _ => 0), (qS, .inr (5, [.ref kP, .ref kM, .ref kG, .ref kE, .ref kA, .ref kN, .ref kK, .int (iI 0), .int (iI 0)])), aI g kP 120 (fun _ => 0), aI g kM 120 (fun _ => 0), aZ g kG 120 (fun _ => false), aI g kE 120 (fun _ => 0), aI g kA 120 (fun _ => 0), aI g kN 720 (fun _ => 0), aI g kK 40 (fun _ => 0), (qH, .inr (1, [.ref hB])), aZ g hB 100 (fun _ => false), (qL, .inr (2, [.ref lK, .ref lT, .ref lS, .ref lU])), aI g lK 4 (fun _ => 0), aJ g lT 4 (fun _ => 0), aJ g lS 4 (fun _ => 0), aJ g lU 4 (fun _ => 0), (qO, .inr (3, [.ref oP, .ref oQ, .int (bP (false = true)), .int (iI 0), .int (iI 0), .int (iI 0)])), aZ g oP 40 (fun _ => false), aI g oQ 160 (fun _ => 0), (qF, .inr (0, [.long (jI 0), .long (jI 1)])), (qW, .inr (0, [.long (jI 0), .long (jI 1)])), (qR, .inr (0, [.long (jI 0), .long (jI 1)])), (h1, .inr (8, [.int (iI 0), .long (jI 0), .long (jI 1), .ref mS, .ref mZ, .ref mN, .int (iI 2), .int (iI 0), .int (iI 0), .int (iI 0), .ref mL, .ref mR, .ref mT, .ref mH, .ref mD, .ref mW, .ref mB, .ref mO, .int (bP (false = true)), .ref mP, .ref mM, .ref mF, .ref mX, .long (jI 0), .long (jI 0), .ref mE, .int (iI 0), .ref mV, .int (iI 0), .int (iI 0), .int (iI 0), .ref mY])), aI g mS 4 (fun _ => 0), aI g mZ 4 (va_up (va_up (va_up (va_up (fun _ => 0) 0 (-1)) 1 (-1)) 2 (-1)) 3 (-1)), aJ g mN 80 (fun _ => 0), aI g mL 40 (fun _ => 0), aI g mR 40 (fun _ => 0), aI g mT 4 (fun _ => 0), aI g mH 4 (fun _ => 0), aZ g mD 40 (fun _ => false), aZ g mW 40 (fun _ => false), aZ g mB 4 (fun _ => false), aZ g mO 40 (fun _ => false), aI g mP 120 (fun _ => 0), aI g mM 120 (fun _ => 0), aI g mF 720 (fun _ => 0), aZ g mX 100 (fun _ => false), aI g mE 400 (fun _ => 0), aI g mV 160 (fun _ => 0), aJ g mY 41 (fun _ => 0)] := hD
  refine W.eq (g2 := F0 m 15 ls [.ref h1]) rfl ?_
  refine lv_astore_n (lv' := [(2, .ref h1), (1, .ref h0), (0, .ref b)]) hx hb dL_law_15 rfl hl (by decide) rfl (fun ls hl => ?_)
  refine lv_iconst (v := iI 0) hx hb dL_law_16 rfl ?_
  refine lv_istore_n (lv' := [(3, .int (iI 0)), (2, .ref h1), (1, .ref h0), (0, .ref b)]) hx hb dL_law_17 rfl hl (by decide) rfl (fun ls hl => ?_)
  rw [mz_0] at hP hD
  exact lw_loop hx hb hml hown hT hE hX hbl hbA hA hL (fun _ h => h) (fun H ls => lw_ret hx hb hr hlocks dL_law_1189) (L + 7) 0 (by omega) (by omega) h0 qT uS uZ uN qP pL pR pD pW pN pH pT qS kP kM kG kE kA kN kK qH hB qL lK lT lS lU qO oP oQ qF qW qR h1 mS mZ mN mL mR mT mH mD mW mB mO mP mM mF mX mE mV mY (fun k => if k < 4 then -1 else 0) (fun _ => 0) (fun _ => 0) (fun _ => 0) (fun _ => 0) (fun _ => 0) (fun _ => 0) (fun _ => 0) (fun _ => 0) (fun _ => 0) (fun _ => 0) (fun _ => 0) (fun _ => 0) (fun _ => 0) (fun _ => 0) (fun _ => 0) (fun _ => 0) (fun _ => 0) (fun _ => 0) (fun _ => 0) (fun _ => 0) (fun _ => 0) (fun _ => 0) (fun _ => false) (fun _ => false) (fun _ => false) (fun _ => false) (fun _ => false) (fun _ => false) 2 0 0 0 0 0 0 0 0 1 0 1 0 1 0 0 0 0 0 0 false iv0_t iv0_p iv0_s (rz _ _ (by decide)) (rz _ _ (by decide)) (rz _ _ (by decide)) _ _ _ (hP.sub [0, 1, 2, 3, 4, 5, 6, 7, 8, 9, 10, 11, 12, 13, 14, 15, 16, 17, 18, 19, 20, 21, 22, 23, 24, 25, 26, 27, 28, 29, 30, 31, 32, 33, 34, 35, 36, 37, 38, 39, 40, 41, 42, 43, 44, 45, 46, 47, 48, 49, 50, 51, 52] rfl) (hD.sub [0, 1, 2, 3, 4, 5, 6, 7, 8, 9, 10, 11, 12, 13, 14, 15, 16, 17, 18, 19, 20, 21, 22, 23, 24, 25, 26, 27, 28, 29, 30, 31, 32, 33, 34, 35, 36, 37, 38, 39, 40, 41, 42, 43, 44, 45, 46, 47, 48, 49, 50, 51, 52] (by decide) rfl) hS (lv_sub hl [3, 2, 1, 0] rfl)
-- ===== YOUR PART ENDS =====
set_option maxHeartbeats 4000000 in
theorem lw_walk (l : Launch) (b : Addr) (xs : List Int32) : MetFree l x (headSpec (Jvm.Cond.code x code maxLocals ret :: tables_1) room_1) (lw_P b xs) (fun _ _ _ _ _ => True) lw_Q := by
  refine MetFree.of_bodyS (code := code) (maxLocals := maxLocals) (ret := ret) (by decide) ?_ ?_
  · intro args s m h hn
    obtain ⟨meth, c, h1, h2, h3, h4, h5, h6, -, -⟩ := Cond.code_spec hn (atoms_spec (ws := Jvm.Cond.code x code maxLocals ret :: tables_1) h _ List.mem_cons_self)
    exact ⟨meth, c, h1, h2, h3, h4, h5, h6⟩
  · intro p e s m args below meth c s₁ B hml0 hP _
    obtain ⟨rfl, hx, hbd, hgv⟩ := hP
    obtain ⟨scr, harrAt, hlist, hof, hsmall⟩ := hx
    obtain ⟨hcb, hkn, -, -⟩ := State.arrayAt?_spec harrAt
    have hown : s.vm.findClass R_law = some m.cls := findClass_of_methodNamed B.named
    have hts0 : ∀ c ∈ (Jvm.Cond.code x code maxLocals ret :: tables_1), c.before #[Value.ref b] s = true := atoms_spec (ws := Jvm.Cond.code x code maxLocals ret :: tables_1) B.pre
    have hts : ∀ w ∈ lw_tbl, w.before #[Value.ref b] s = true := k2_hts_sels lw_privs (fun w hw => hts0 w (List.mem_cons_of_mem _ hw)) lw_privs_ok
    have hml : c.maxLocals = 4 := B.maxLocals_eq (hts0 _ List.mem_cons_self)
    have X₀ : Stand p l e room_1 s m #[Value.ref b] below meth c s₁ [] 0 0 := Stand.of_body B
    have hh0 : s₁.heap = s.heap := by rw [B.state]; rfl
    have hsz : scr.slots.size = xs.length := by rw [← Array.length_toList, hlist, List.length_map]
    have hval : ∀ j : Nat, j < xs.length → scr.slots[j]? = some (.int (xs.getD j 0)) := fun j hj => by
      rw [← Array.getElem?_toList, hlist]
      simp [hj]
    have hbl : b < s.heap.size := (Array.getElem?_eq_some_iff.mp hcb).1
    have hX : va_X b xs.length (fun j => xs.getD j 0) s s.heap := ⟨scr, hcb, hof, hkn, hsz, hval⟩
    have K : W p l e room_1 s m #[Value.ref b] below meth c s₁.heap [] 0 0 (lw_Z below #[Value.ref b] s) (entryFrame m ([Value.ref b] : List Value).toArray 4) := by
      rw [hh0]
      exact whole_start l hbd ⟨B.exec, B.bytes, B.returns, hml, hown, hts, hX, hbl, B.notSynchronized, hgv⟩
    obtain ⟨t, a1, o, b1, b2, b3⟩ := K s₁ rfl X₀
    exact ⟨t, o, a1, b1, b2, b3⟩
theorem lw_pre_spec {args : Array Value} {s : State} (h : (Jvm.Cond.and given_1 narrow_1).before args s = true) (hr : rest_1_c.before args s = true) : ∃ (b : Addr) (xs : List Int32), lw_P b xs args s := by
  have hs := flat_of_before _ h
  have hq := flat_of_before _ hr
  have hc : (Cond.count 1).before args s = true := hs _ (by decide +kernel)
  have harr : (Cond.arrayOf (.arg 0) .int).before args s = true := hs _ (by decide +kernel)
  have hle : (Cond.le (.length (.arg 0)) (.int 3072)).before args s = true := hs _ (by decide +kernel)
  have hlen : (Cond.isInt (.length (.arg 0))).before args s = true := hq _ (by decide +kernel)
  have hall : (Cond.all (.arg 0) (.isInt (.elem (.arg 0) (.index 0)))).before args s = true := hq _ (by decide +kernel)
  obtain ⟨b, xs, hb, hx⟩ := State.ints_of_pre rfl harr hlen hall
  have hsm : xs.length < 2 ^ 31 := hx.choose_spec.2.2.2
  have hev : (Term.length (.arg 0)).eval args s none [] s = some (.int xs.length.toInt32) := hx.length_eval hb
  have hv := Cond.le_ints hev (show (Term.int 3072).eval args s none [] s = some (.int 3072) from rfl)
  have hd : xs.length.toInt32 ≤ 3072 := by
    simpa [Cond.before, Cond.holds, hv] using hle
  have hN : xs.length ≤ 3072 := (Int32.ofNat_le_ofNat hsm (by decide)).mp (show Int32.ofNat xs.length ≤ Int32.ofNat 3072 from hd)
  exact ⟨b, xs, Cond.one_arg hc (show args[0]? = some (.ref b) from hb), hx, hN, h⟩
theorem lw_comes (l : Launch) : Comes l x (Jvm.Cond.code x code maxLocals ret :: tables_1) room_1 (fun tb e args s => Calls_1 tb e args s ∧ rest_1 tb e args s ∧ Pre_1 tb e args s)
    (fun _ _ args s o t => lw_Q args s o t) := by
  intro p e ha hc hk s m args below hf hfit hheap happ hpre
  obtain ⟨b, xs, hP⟩ := lw_pre_spec hpre.2.2 hpre.2.1
  obtain ⟨k, o, h1, h2, h3, hQ⟩ := lw_walk l b xs p e ha hc hk s m args below hf ((Spec.applies_iff_loose hf).mp happ).1 hP trivial
  exact ⟨k, o, h1, h2, h3, hQ⟩
theorem lw_frame {s t : State} {o : Outcome} {args : Array Value} (h : Framed s o t [] 53 3977) :
    Framed s o t (fieldLocs frame_1_writes args s ++ arrayLocs frame_1_arrays args s ++ staticLocs frame_1_statics s) 53 3977 := h
theorem lw_limb (L : Cond) (hL : ∀ (args : Array Value) (s t : State), L.after args s (.returned (some (.int 1))) t = true) :
    ArmFor flags0 classFile x code maxLocals ret World_1 tables_1 room_1 Calls_1 rest_1 Pre_1
      (fun tb e a s o t => postC L tb e a s o t ∧ Framed s o t (fieldLocs frame_1_writes a s ++ arrayLocs frame_1_arrays a s ++ staticLocs frame_1_statics s) 53 3977) := by
  intro l _ _ _ p e ha hc hk s m args below hf hfit hheap happ hpre
  obtain ⟨k, o, h1, h2, h3, rfl, hF⟩ := lw_comes l p e ha hc hk s m args below hf hfit hheap happ hpre
  exact ⟨k, _, h1, h2, h3, hL args s _, lw_frame hF⟩
theorem i_vc : Claimed_1_1 ∧ Claimed_1_2 := ⟨lw_limb limb_1_1 (fun args s t => by simp [limb_1_1, Cond.after, Cond.holds, Cond.value]), lw_limb limb_1_2 (fun args s t => Cond.after_iff.mpr (by
  first | (rw [show limb_1_2 = Cond.eq .result (.int 1) from rfl, Cond.eq_ints (x := 1) (y := 1) rfl rfl]; simp; done) | (simp [limb_1_2, Cond.value, Term.eval]; done)))⟩

