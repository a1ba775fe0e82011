-- 74 nest words
def qn_ws : List Cond := [.methodLinkNest "QuickCount" 11 yX6_init "QuickCount",
  .methodLinkNest "QuickCount" 18 yX4_init "QuickCount",
  .methodLinkNest "QuickCount" 25 yX5_init "QuickCount",
  .methodLinkNest "QuickCount" 32 yX1_init "QuickCount",
  .methodLinkNest "QuickCount" 39 yX2_init "QuickCount",
  .methodLinkNest "QuickCount" 46 yX3_init "QuickCount",
  .methodLinkNest "QuickCount" 53 yX0_init "QuickCount",
  .methodLinkNest "QuickCount" 89 yX6_lay "QuickCount",
  .methodLinkNest "QuickCount" 109 yX6_isMissing "QuickCount",
  .methodLinkNest "QuickCount" 287 yX6_hasPlace "QuickCount",
  .methodLinkNest "QuickCount" 97 yX6_put "QuickCount",
  .methodLinkNest "QuickCount" 105 yX6_at "QuickCount",
  .methodLinkNest "QuickCount" 112 yX6_areAlike "QuickCount",
  .methodLinkNest "QuickCount" 116 yX6_hasRun "QuickCount",
  .methodLinkNest "QuickCount" 119 yX6_copyRun "QuickCount",
  .methodLinkNest "QuickCount" 134 yX4_add "QuickCount",
  .methodLinkNest "QuickCount" 144 yX4_takeLots "QuickCount",
  .methodLinkNest "QuickCount" 160 yX0_clear "QuickCount",
  .methodLinkNest "QuickCount" 172 yX0_put "QuickCount",
  .methodLinkNest "QuickCount" 175 yX0_sign "QuickCount",
  .methodLinkNest "QuickCount" 290 yX6_startsWithVotes "QuickCount",
  .methodLinkNest "QuickCount" 183 yX5_add "QuickCount",
  .methodLinkNest "QuickCount$SheetBook" 38 yX6_at "QuickCount",
  .methodLinkNest "QuickCount" 192 yX1_set "QuickCount",
  .methodLinkNest "QuickCount" 264 yX5_numberOf "QuickCount",
  .methodLinkNest "QuickCount" 314 yX1_are "QuickCount",
  .methodLinkNest "QuickCount" 319 yX5_isMended "QuickCount",
  .methodLinkNest "QuickCount" 205 yX5_findKnownOf "QuickCount",
  .methodLinkNest "QuickCount" 267 yX5_findKnown "QuickCount",
  .methodLinkNest "QuickCount" 300 yX2_tally "QuickCount",
  .methodLinkNest "QuickCount$Land" 50 yX5_numberOf "QuickCount",
  .methodLinkNest "QuickCount" 296 yX2_hasEnough "QuickCount",
  .methodLinkNest "QuickCount$Land" 57 yX4_hasDraw "QuickCount",
  .methodLinkNest "QuickCount" 218 yX2_tellSum "QuickCount",
  .methodLinkNest "QuickCount$Land" 61 yX0_clear "QuickCount",
  .methodLinkNest "QuickCount$Land" 66 yX0_add "QuickCount",
  .methodLinkNest "QuickCount" 222 yX2_tellDoubt "QuickCount",
  .methodLinkNest "QuickCount" 227 yX0_roundedUp "QuickCount",
  .methodLinkNest "QuickCount" 238 yX4_hasDraw "QuickCount",
  .methodLinkNest "QuickCount" 242 yX2_tellWorst "QuickCount",
  .methodLinkNest "QuickCount" 305 yX0_add "QuickCount",
  .methodLinkNest "QuickCount" 255 yX3_put "QuickCount",
  .methodLinkNest "QuickCount$Officials" 19 yX6_at "QuickCount",
  .methodLinkNest "QuickCount" 261 yX3_votesOf "QuickCount",
  .methodLinkNest "QuickCount" 271 yX3_compare "QuickCount",
  .methodLinkNest "QuickCount$Officials" 48 yX5_numberOf "QuickCount",
  .fieldLinkNest "QuickCount$Land" 39 "QuickCount$PollBook" "layers" "[I" "QuickCount",
  .fieldLinkNest "QuickCount" 150 "QuickCount$PollBook" "layers" "[I" "QuickCount",
  .fieldLinkNest "QuickCount$Land" 47 "QuickCount$PollBook" "rolls" "[I" "QuickCount",
  .fieldLinkNest "QuickCount" 153 "QuickCount$PollBook" "rolls" "[I" "QuickCount",
  .fieldLinkNest "QuickCount$Land" 31 "QuickCount$PollBook" "isDrawn" "[Z" "QuickCount",
  .fieldLinkNest "QuickCount" 156 "QuickCount$PollBook" "isDrawn" "[Z" "QuickCount",
  .fieldLinkNest "QuickCount" 163 "QuickCount$PollBook" "wasThere" "[Z" "QuickCount",
  .fieldLinkNest "QuickCount" 140 "QuickCount$PollBook" "perLayer" "[I" "QuickCount",
  .fieldLinkNest "QuickCount$Land" 54 "QuickCount$PollBook" "had" "[I" "QuickCount",
  .fieldLinkNest "QuickCount" 169 "QuickCount$PollBook" "had" "[I" "QuickCount",
  .fieldLinkNest "QuickCount$Land" 70 "QuickCount$PollBook" "took" "[I" "QuickCount",
  .fieldLinkNest "QuickCount" 166 "QuickCount$PollBook" "took" "[I" "QuickCount",
  .fieldLinkNest "QuickCount$Land" 25 "QuickCount$PollBook" "many" "I" "QuickCount",
  .fieldLinkNest "QuickCount" 133 "QuickCount$PollBook" "many" "I" "QuickCount",
  .fieldLinkNest "QuickCount" 317 "QuickCount$SheetBook" "polls" "[I" "QuickCount",
  .fieldLinkNest "QuickCount" 189 "QuickCount$SheetBook" "isGood" "[Z" "QuickCount",
  .fieldLinkNest "QuickCount$Land" 42 "QuickCount$SheetBook" "knownOf" "[I" "QuickCount",
  .fieldLinkNest "QuickCount$Officials" 39 "QuickCount$SheetBook" "knownOf" "[I" "QuickCount",
  .fieldLinkNest "QuickCount" 123 "QuickCount$SheetBook" "many" "I" "QuickCount",
  .fieldLinkNest "QuickCount" 293 "QuickCount$SheetBook" "latestMinute" "I" "QuickCount",
  .fieldLinkNest "QuickCount" 211 "QuickCount$Land" "knownMany" "[I" "QuickCount",
  .fieldLinkNest "QuickCount" 258 "QuickCount$Officials" "isTold" "[Z" "QuickCount",
  .fieldLinkNest "QuickCount" 126 "QuickCount$Officials" "isAny" "Z" "QuickCount",
  .fieldLinkNest "QuickCount" 275 "QuickCount$Officials" "offMany" "I" "QuickCount",
  .fieldLinkNest "QuickCount" 278 "QuickCount$Officials" "offAbove" "I" "QuickCount",
  .fieldLinkNest "QuickCount" 281 "QuickCount$Officials" "offTogether" "I" "QuickCount",
  .fieldLinkNest "QuickCount" 71 "QuickCount$Fraction" "over" "J" "QuickCount",
  .fieldLinkNest "QuickCount" 75 "QuickCount$Fraction" "under" "J" "QuickCount"]
def qn_is : Cond → Bool
  | .methodLinkNest _ _ _ _ => true
  | .fieldLinkNest _ _ _ _ _ _ => true
  | _ => false
theorem qn_all : ∀ w ∈ qn_ws, qn_is w = true := by decide +kernel
theorem qn_in : ∀ w ∈ qn_ws, w ∈ lw_tbl := by decide +kernel
def qn_N (U : State) : Prop := ∀ w ∈ qn_ws, va_Nw w U
theorem qn_on {w : Cond} (h : qn_is w = true) : w.onTables = true := by
  cases w <;> first | rfl | (simp [qn_is] at h)
theorem qn_N.same {s U : State} (h : s.vm = U.vm) (k : qn_N s) : qn_N U := fun w hw => va_Nw.same (qn_on (qn_all w hw)) h (k w hw)
theorem qn_N.warm {s U : State} (hW : s.WarmedH U.vm) (k : qn_N s) : qn_N U := by
  intro w hw
  have h1 := k w hw
  have h2 := qn_all w hw
  cases w <;> first | exact va_Nw.warmM hW h1 | exact va_Nw.warmF hW h1 | (simp [qn_is] at h2)
abbrev qG : Type := va_G × ClassId × ClassId × ClassId
abbrev qT (g : qG) : List (ClassId × FieldType) := [(g.2.1, .int), (g.2.2.1, .long), (g.2.2.2, .boolean)]
def qE (g : qG) (U : State) : Prop := va_K g.1 vwCl (qT g) U ∧ qn_N U
theorem qE.warm {g : qG} {s U : State} (hW : s.WarmedH U.vm) (h : qE g s) : qE g U := ⟨va_K.moved hW.alike h.1, h.2.warm hW⟩
theorem qE.call {g : qG} {U : State} {f : JFrame} {mk : MethodId} {a : Array Value} (h : qE g U) : qE g (U.calling f mk a) := ⟨va_K.moved (u := U) (U := U.calling f mk a) (Vm.Alike.refl U.vm) h.1, qn_N.same (s := U) (U := U.calling f mk a) rfl h.2⟩
-- numbers: 32 and 64 bits out of Int; a truth value
def iI (z : Int) : Int32 := Int32.ofInt z
def jI (z : Int) : Int64 := Int64.ofInt z
def bP (P : Prop) [Decidable P] : Int32 := if P then 1 else 0
abbrev iA (F : Nat → Int) : Nat → Int32 := fun k => iI (F k)
abbrev jA (F : Nat → Int) : Nat → Int64 := fun k => jI (F k)
abbrev zA (B : Nat → Bool) : Nat → Int32 := fun k => bP (B k = true)
abbrev aI (g : qG) (a n : Nat) (F : Nat → Int) : Nat × va_E := (a, .inl (g.2.1, n, .inl (iA F)))
abbrev aJ (g : qG) (a n : Nat) (F : Nat → Int) : Nat × va_E := (a, .inl (g.2.2.1, n, .inr (.inl (jA F))))
abbrev aZ (g : qG) (a n : Nat) (B : Nat → Bool) : Nat × va_E := (a, .inl (g.2.2.2, n, .inl (zA B)))
theorem iI_toInt {z : Int} (h1 : -2147483648 ≤ z) (h2 : z ≤ 2147483647) : (iI z).toInt = z := by
  unfold iI; rw [Int32.toInt_ofInt]; have e : (Int32.size : Int) = 4294967296 := rfl; exact Int.bmod_eq_of_le (by omega) (by omega)
theorem jI_toInt {z : Int} (h1 : -9223372036854775808 ≤ z) (h2 : z ≤ 9223372036854775807) : (jI z).toInt = z := by
  unfold jI; rw [Int64.toInt_ofInt]; have e : (Int64.size : Int) = 18446744073709551616 := rfl; exact Int.bmod_eq_of_le (by omega) (by omega)
theorem iI_of (x : Int32) : x = iI x.toInt := by unfold iI; exact (Int32.ofInt_toInt x).symm
theorem jI_of (x : Int64) : x = jI x.toInt := by unfold jI; exact (Int64.ofInt_toInt x).symm
theorem iI_add (a b : Int) : iI a + iI b = iI (a + b) := (Int32.ofInt_add a b).symm
theorem iI_sub (a b : Int) : iI a - iI b = iI (a - b) := (Int32.ofInt_sub a b).symm
theorem iI_mul (a b : Int) : iI a * iI b = iI (a * b) := (Int32.ofInt_mul a b).symm
theorem iI_neg (a : Int) : - iI a = iI (-a) := (Int32.ofInt_neg a).symm
theorem jI_add (a b : Int) : jI a + jI b = jI (a + b) := (Int64.ofInt_add a b).symm
theorem jI_sub (a b : Int) : jI a - jI b = jI (a - b) := (Int64.ofInt_sub a b).symm
theorem jI_mul (a b : Int) : jI a * jI b = jI (a * b) := (Int64.ofInt_mul a b).symm
theorem jI_neg (a : Int) : - jI a = jI (-a) := (Int64.ofInt_neg a).symm
theorem iI_lt {a b : Int} (h1 : -2147483648 ≤ a) (h2 : a ≤ 2147483647) (h3 : -2147483648 ≤ b) (h4 : b ≤ 2147483647) : iI a < iI b ↔ a < b := by
  rw [Int32.lt_iff_toInt_lt, iI_toInt h1 h2, iI_toInt h3 h4]
theorem iI_le {a b : Int} (h1 : -2147483648 ≤ a) (h2 : a ≤ 2147483647) (h3 : -2147483648 ≤ b) (h4 : b ≤ 2147483647) : iI a ≤ iI b ↔ a ≤ b := by
  rw [Int32.le_iff_toInt_le, iI_toInt h1 h2, iI_toInt h3 h4]
theorem iI_eq {a b : Int} (h1 : -2147483648 ≤ a) (h2 : a ≤ 2147483647) (h3 : -2147483648 ≤ b) (h4 : b ≤ 2147483647) : iI a = iI b ↔ a = b := by
  refine ⟨fun h => ?_, fun h => by rw [h]⟩
  have := congrArg Int32.toInt h
  rwa [iI_toInt h1 h2, iI_toInt h3 h4] at this
theorem jI_lt {a b : Int} (h1 : -9223372036854775808 ≤ a) (h2 : a ≤ 9223372036854775807) (h3 : -9223372036854775808 ≤ b) (h4 : b ≤ 9223372036854775807) : jI a < jI b ↔ a < b := by
  rw [Int64.lt_iff_toInt_lt, jI_toInt h1 h2, jI_toInt h3 h4]
theorem jI_le {a b : Int} (h1 : -9223372036854775808 ≤ a) (h2 : a ≤ 9223372036854775807) (h3 : -9223372036854775808 ≤ b) (h4 : b ≤ 9223372036854775807) : jI a ≤ jI b ↔ a ≤ b := by
  rw [Int64.le_iff_toInt_le, jI_toInt h1 h2, jI_toInt h3 h4]
theorem jI_eq {a b : Int} (h1 : -9223372036854775808 ≤ a) (h2 : a ≤ 9223372036854775807) (h3 : -9223372036854775808 ≤ b) (h4 : b ≤ 9223372036854775807) : jI a = jI b ↔ a = b := by
  refine ⟨fun h => ?_, fun h => by rw [h]⟩
  have := congrArg Int64.toInt h
  rwa [jI_toInt h1 h2, jI_toInt h3 h4] at this
theorem iI_i2l {a : Int} (h1 : -2147483648 ≤ a) (h2 : a ≤ 2147483647) : (iI a).toInt64 = jI a := by
  apply Int64.toInt_inj.mp
  rw [Int32.toInt_toInt64, iI_toInt h1 h2, jI_toInt (by omega) (by omega)]
theorem iI_in {z : Int} {k n : Nat} (e : z = k) (h : k < n) (hn : n < 2147483648) : vp_in (iI z) n := by
  rw [vp_in_iff, iI_toInt (by omega) (by omega)]; omega
theorem iI_clamp {z : Int} {k : Nat} (e : z = k) (h : k < 2147483648) : (iI z).toNatClampNeg = k := by
  have h1 := iI_toInt (z := z) (by omega) (by omega)
  rw [← Int32.toNat_toInt, h1]; omega
theorem bP_t {P : Prop} [Decidable P] (h : P) : bP P = iI 1 := by unfold bP; rw [if_pos h]; rfl
theorem bP_f {P : Prop} [Decidable P] (h : ¬ P) : bP P = iI 0 := by unfold bP; rw [if_neg h]; rfl
theorem bP_iff {P Q : Prop} [Decidable P] [Decidable Q] (h : P ↔ Q) : bP P = bP Q := by unfold bP; by_cases hp : P <;> simp [hp, ← h]
theorem bP_nar (P : Prop) [Decidable P] : narrow .boolean (.int (bP P)) = .int (bP P) := by unfold bP; by_cases hp : P <;> simp [hp] <;> rfl
theorem iA_up (F : Nat → Int) (k : Nat) (v : Int) : upd (iA F) k (iI v) = iA (va_up F k v) := by
  funext j; unfold upd va_up; by_cases h : j = k <;> simp [h, iA, zA]
theorem jA_up (F : Nat → Int) (k : Nat) (v : Int) : vp_updL (jA F) k (jI v) = jA (va_up F k v) := by
  funext j; unfold vp_updL va_up; by_cases h : j = k <;> simp [h, jA]
theorem zA_up (B : Nat → Bool) (k : Nat) (b : Bool) : upd (zA B) k (bP (b = true)) = zA (va_up B k b) := by
  funext j; unfold upd va_up; by_cases h : j = k <;> simp [h, iA, zA]
theorem jI_l2i (x : Int) : (jI x).toInt32 = iI x := by unfold jI iI; exact Int64.toInt32_ofInt
theorem iI_div {a b : Int} (h1 : -2147483648 ≤ a) (h2 : a ≤ 2147483647) (h3 : -2147483648 ≤ b) (h4 : b ≤ 2147483647) : iI a / iI b = iI (a.tdiv b) := by
  apply Int32.toInt_inj.mp
  rw [Int32.toInt_div, iI_toInt h1 h2, iI_toInt h3 h4]; unfold iI; rw [Int32.toInt_ofInt]
theorem jI_div {a b : Int} (h1 : -9223372036854775808 ≤ a) (h2 : a ≤ 9223372036854775807) (h3 : -9223372036854775808 ≤ b) (h4 : b ≤ 9223372036854775807) : jI a / jI b = jI (a.tdiv b) := by
  apply Int64.toInt_inj.mp
  rw [Int64.toInt_div, jI_toInt h1 h2, jI_toInt h3 h4]; unfold jI; rw [Int64.toInt_ofInt]
theorem bP_vp (P : Prop) [Decidable P] : vp_nar .boolean (bP P) = bP P := by unfold vp_nar; rw [bP_nar]
theorem bP_fit (P : Prop) [Decidable P] : fits .boolean (.int (bP P)) = true := by unfold bP; by_cases hp : P <;> simp [hp] <;> rfl
theorem jI_abs {x : Int} (h : -9223372036854775808 < x ∧ x ≤ 9223372036854775807) : (if 0 < jI x then jI x else -jI x) = jI (x.natAbs : Int) := by
  have e : (0 < jI x) ↔ 0 < x := jI_lt (a := 0) (by decide) (by decide) (by omega) (by omega)
  by_cases hp : 0 < x
  · rw [if_pos (e.mpr hp)]; congr 1; omega
  · rw [if_neg (fun q => hp (e.mp q)), jI_neg]; congr 1; omega
theorem bP_dec (P : Prop) [Decidable P] : bP (decide P = true) = bP P := bP_iff (by simp)
-- contracts: MR reads only, ME writes its own cells; neither makes a cell
def qQr (post : Option Value → Prop) : Array Value → State → Outcome → State → Prop := fun _ st oc t => ∃ r, oc = .returned r ∧ post r ∧ t.heap = st.heap
def MR (l : Launch) (g : qG) (y : MethodName) (ws : List Cond) (rm : Room) (av : List Value) (wc : va_W) (post : Option Value → Prop) : Prop :=
  Met l y ws rm (va_Pc av (fun U => va_P g.1 vwCl wc U.heap ∧ qE g U)) (qQr post) 0 0 (fun _ => False)
def qQe (g : qG) (A : Nat → Prop) (post : Option Value → va_W → Prop) : Array Value → State → Outcome → State → Prop := fun _ st oc t =>
  (∃ r w1, oc = .returned r ∧ post r w1 ∧ va_P g.1 vwCl w1 t.heap ∧ va_D A w1) ∧ va_F A st t
def ME (l : Launch) (g : qG) (y : MethodName) (ws : List Cond) (rm : Room) (av : List Value) (wc : va_W) (post : Option Value → va_W → Prop) : Prop :=
  ∀ sz : Nat, Met l y ws rm (va_Pc av (fun U => U.heap.size = sz ∧ va_P g.1 vwCl wc U.heap ∧ qE g U ∧ va_D (fun _ => True) wc)) (qQe g (va_A wc sz) post) 0 0 (va_A wc sz)
abbrev qCx (p : Program) (s : State) (m : MethodId) (meth : Method) (c : Code) (cc : ByteArray) (maxL : Nat) (ret : Option FieldType) (ws : List Cond) (args : Array Value) (own : String) : Prop :=
  p.tables.exec = Jvm.exec ∧ c.code = cc ∧ meth.sig.returnType = ret ∧ c.maxLocals = maxL ∧ s.vm.findClass own = some m.cls ∧ (∀ w ∈ ws, w.before args s = true) ∧ meth.locks = false
theorem MR.intro {l : Launch} {g : qG} {y : MethodName} {ws ws' : List Cond} {rm : Room} {av : List Value} {wc : va_W} {post : Option Value → Prop} {cc : ByteArray} {maxL : Nat} {ret : Option FieldType}
    (hy : plainName y.cls = true) (hw : ws = Cond.code y cc maxL ret :: ws') (hlen : (lg_sl av).length ≤ maxL)
    (body : ∀ (p : Program) (e : Env) (s : State) (m : MethodId) (below : List Frame) (meth : Method) (c : Code) (ls : Array Slot) (Q : State → Prop), qCx p s m meth c cc maxL ret ws av.toArray y.cls → va_P g.1 vwCl wc s.heap → qE g s → lv_has ls maxL (lv_args 0 av) →
      Q = MQ below (qQr post) av.toArray s 0 0 (fun _ => False) → W p l e rm s m av.toArray below meth c s.heap [] 0 0 Q (F0 m 0 ls [])) : MR l g y ws rm av wc post := by
  refine Met.ofW (cc := cc) (maxL := maxL) (ret := ret) hy hw ?_
  intro p e s m args below meth c s₁ B hml hv
  obtain ⟨rfl, hP, hE⟩ := hv
  rw [lg_entry_eq]
  exact body p e s m below meth c _ _ ⟨B.exec, B.bytes, B.returns, hml, findClass_of_methodNamed B.named, atoms_spec (ws := ws) B.pre, B.notSynchronized⟩ hP hE (lv_entry av hlen) rfl
theorem ME.intro {l : Launch} {g : qG} {y : MethodName} {ws ws' : List Cond} {rm : Room} {av : List Value} {wc : va_W} {post : Option Value → va_W → Prop} {cc : ByteArray} {maxL : Nat} {ret : Option FieldType}
    (hy : plainName y.cls = true) (hw : ws = Cond.code y cc maxL ret :: ws') (hlen : (lg_sl av).length ≤ maxL)
    (body : ∀ (p : Program) (e : Env) (s : State) (m : MethodId) (below : List Frame) (meth : Method) (c : Code) (ls : Array Slot) (Q : State → Prop) (A : Nat → Prop) (H : Heap) (locs : List Loc), qCx p s m meth c cc maxL ret ws av.toArray y.cls → va_P g.1 vwCl wc H → qE g s → lv_has ls maxL (lv_args 0 av) →
      va_D A wc → (∀ q : Nat, s.heap.size ≤ q → A q) → va_S A s.heap H locs →
      Q = MQ below (qQe g A post) av.toArray s 0 0 A → W p l e rm s m av.toArray below meth c H locs 0 0 Q (F0 m 0 ls [])) : ME l g y ws rm av wc post := by
  intro sz
  refine Met.ofW (cc := cc) (maxL := maxL) (ret := ret) hy hw ?_
  intro p e s m args below meth c s₁ B hml hv
  obtain ⟨rfl, hsz, hP, hE, hD⟩ := hv
  subst hsz
  rw [lg_entry_eq]
  exact body p e s m below meth c _ _ _ _ _ ⟨B.exec, B.bytes, B.returns, hml, findClass_of_methodNamed B.named, atoms_spec (ws := ws) B.pre, B.notSynchronized⟩ hP hE (lv_entry av hlen) hD.self (fun q h => Or.inr h) va_S.rf rfl
section QW
variable {p : Program} {l : Launch} {e : Env} {R : Room} {s : State} {m : MethodId} {args : Array Value} {below : List Frame} {meth : Method} {c : Code} {H : Heap} {locs : List Loc} {cells slots : Nat} {Q : State → Prop} {cc : ByteArray} {pc : Nat} {ls : Array Slot} {rest : List Value} {g : qG} {A : Nat → Prop} {ws : va_W}
-- ends
theorem qr_i {post : Option Value → Prop} {v : Int32} (hx : p.tables.exec = Jvm.exec) (hb : c.code = cc) (hr : meth.sig.returnType = some .int) (hlocks : meth.locks = false) (hQ : Q = MQ below (qQr post) args s 0 0 (fun _ => False)) (hdg : decode cc pc = .ok (.ireturn, 1)) (hp : post (some (.int v))) : W p l e R s m args below meth c s.heap [] 0 0 Q (F0 m pc ls [.int v]) := by
  subst hQ; exact W.iret hx hb hr (fun t ht _ => ⟨_, rfl, hp, ht⟩) (fun _ h => nomatch h) hdg
theorem qr_z {post : Option Value → Prop} {v : Int32} (hx : p.tables.exec = Jvm.exec) (hb : c.code = cc) (hr : meth.sig.returnType = some .boolean) (hlocks : meth.locks = false) (hQ : Q = MQ below (qQr post) args s 0 0 (fun _ => False)) (hdg : decode cc pc = .ok (.ireturn, 1)) (hn : narrow .boolean (.int v) = .int v) (hp : post (some (.int v))) : W p l e R s m args below meth c s.heap [] 0 0 Q (F0 m pc ls [.int v]) := by
  subst hQ; exact W.zret hx hb hr hn (fun t ht _ => ⟨_, rfl, hp, ht⟩) (fun _ h => nomatch h) hdg
theorem qr_l {post : Option Value → Prop} {v : Int64} (hx : p.tables.exec = Jvm.exec) (hb : c.code = cc) (hr : meth.sig.returnType = some .long) (hlocks : meth.locks = false) (hQ : Q = MQ below (qQr post) args s 0 0 (fun _ => False)) (hdg : decode cc pc = .ok (.lreturn, 1)) (hp : post (some (.long v))) : W p l e R s m args below meth c s.heap [] 0 0 Q (F0 m pc ls [.long v]) := by
  subst hQ; exact W.lret hx hb hr (fun t ht _ => ⟨_, rfl, hp, ht⟩) (fun _ h => nomatch h) hdg
theorem qe_i {post : Option Value → va_W → Prop} {v : Int32} (hx : p.tables.exec = Jvm.exec) (hb : c.code = cc) (hr : meth.sig.returnType = some .int) (hlocks : meth.locks = false) (hQ : Q = MQ below (qQe g A post) args s 0 0 A) (hS : va_S A s.heap H locs) (hdg : decode cc pc = .ok (.ireturn, 1)) (hP : va_P g.1 vwCl ws H) (hD : va_D A ws) (hp : post (some (.int v)) ws) : W p l e R s m args below meth c H locs 0 0 Q (F0 m pc ls [.int v]) := by
  subst hQ; exact W.iret hx hb hr (fun t ht _ => ⟨⟨_, _, rfl, hp, by rw [ht]; exact hP, hD⟩, hS.F ht⟩) hS.2.2 hdg
theorem qe_z {post : Option Value → va_W → Prop} {v : Int32} (hx : p.tables.exec = Jvm.exec) (hb : c.code = cc) (hr : meth.sig.returnType = some .boolean) (hlocks : meth.locks = false) (hQ : Q = MQ below (qQe g A post) args s 0 0 A) (hS : va_S A s.heap H locs) (hdg : decode cc pc = .ok (.ireturn, 1)) (hn : narrow .boolean (.int v) = .int v) (hP : va_P g.1 vwCl ws H) (hD : va_D A ws) (hp : post (some (.int v)) ws) : W p l e R s m args below meth c H locs 0 0 Q (F0 m pc ls [.int v]) := by
  subst hQ; exact W.zret hx hb hr hn (fun t ht _ => ⟨⟨_, _, rfl, hp, by rw [ht]; exact hP, hD⟩, hS.F ht⟩) hS.2.2 hdg
theorem qe_l {post : Option Value → va_W → Prop} {v : Int64} (hx : p.tables.exec = Jvm.exec) (hb : c.code = cc) (hr : meth.sig.returnType = some .long) (hlocks : meth.locks = false) (hQ : Q = MQ below (qQe g A post) args s 0 0 A) (hS : va_S A s.heap H locs) (hdg : decode cc pc = .ok (.lreturn, 1)) (hP : va_P g.1 vwCl ws H) (hD : va_D A ws) (hp : post (some (.long v)) ws) : W p l e R s m args below meth c H locs 0 0 Q (F0 m pc ls [.long v]) := by
  subst hQ; exact W.lret hx hb hr (fun t ht _ => ⟨⟨_, _, rfl, hp, by rw [ht]; exact hP, hD⟩, hS.F ht⟩) hS.2.2 hdg
theorem qe_v {post : Option Value → va_W → Prop} (hx : p.tables.exec = Jvm.exec) (hb : c.code = cc) (hr : meth.sig.returnType = none) (hlocks : meth.locks = false) (hQ : Q = MQ below (qQe g A post) args s 0 0 A) (hS : va_S A s.heap H locs) (hdg : decode cc pc = .ok (.return_, 1)) (hP : va_P g.1 vwCl ws H) (hD : va_D A ws) (hp : post none ws) : W p l e R s m args below meth c H locs 0 0 Q (F0 m pc ls []) := by
  subst hQ; exact W.vret hx hb hr (fun t ht _ => ⟨⟨_, _, rfl, hp, by rw [ht]; exact hP, hD⟩, hS.F ht⟩) hS.2.2 hdg
-- values put another way
theorem q_si {x y : Int32} (h : x = y) (k : W p l e R s m args below meth c H locs cells slots Q (F0 m pc ls (.int y :: rest))) : W p l e R s m args below meth c H locs cells slots Q (F0 m pc ls (.int x :: rest)) := by subst h; exact k
theorem q_sl {x y : Int64} (h : x = y) (k : W p l e R s m args below meth c H locs cells slots Q (F0 m pc ls (.long y :: rest))) : W p l e R s m args below meth c H locs cells slots Q (F0 m pc ls (.long x :: rest)) := by subst h; exact k
-- 32 bits
theorem q_iadd (hx : p.tables.exec = Jvm.exec) (hb : c.code = cc) {x y : Int} (hdg : decode cc pc = .ok (.iadd, 1)) (k : W p l e R s m args below meth c H locs cells slots Q (F0 m (pc + 1) ls (.int (iI (x + y)) :: rest))) : W p l e R s m args below meth c H locs cells slots Q (F0 m pc ls (.int (iI y) :: .int (iI x) :: rest)) := lv_iadd hx hb hdg (by rw [iI_add]; exact k)
theorem q_isub (hx : p.tables.exec = Jvm.exec) (hb : c.code = cc) {x y : Int} (hdg : decode cc pc = .ok (.isub, 1)) (k : W p l e R s m args below meth c H locs cells slots Q (F0 m (pc + 1) ls (.int (iI (x - y)) :: rest))) : W p l e R s m args below meth c H locs cells slots Q (F0 m pc ls (.int (iI y) :: .int (iI x) :: rest)) := lv_isub hx hb hdg (by rw [iI_sub]; exact k)
theorem q_imul (hx : p.tables.exec = Jvm.exec) (hb : c.code = cc) {x y : Int} (hdg : decode cc pc = .ok (.imul, 1)) (k : W p l e R s m args below meth c H locs cells slots Q (F0 m (pc + 1) ls (.int (iI (x * y)) :: rest))) : W p l e R s m args below meth c H locs cells slots Q (F0 m pc ls (.int (iI y) :: .int (iI x) :: rest)) := lv_imul hx hb hdg (by rw [iI_mul]; exact k)
theorem q_ineg (hx : p.tables.exec = Jvm.exec) (hb : c.code = cc) {x : Int} (hdg : decode cc pc = .ok (.ineg, 1)) (k : W p l e R s m args below meth c H locs cells slots Q (F0 m (pc + 1) ls (.int (iI (-x)) :: rest))) : W p l e R s m args below meth c H locs cells slots Q (F0 m pc ls (.int (iI x) :: rest)) := lv_ineg hx hb hdg (by rw [iI_neg]; exact k)
theorem q_ladd (hx : p.tables.exec = Jvm.exec) (hb : c.code = cc) {x y : Int} (hdg : decode cc pc = .ok (.ladd, 1)) (k : W p l e R s m args below meth c H locs cells slots Q (F0 m (pc + 1) ls (.long (jI (x + y)) :: rest))) : W p l e R s m args below meth c H locs cells slots Q (F0 m pc ls (.long (jI y) :: .long (jI x) :: rest)) := lv_ladd hx hb hdg (by rw [jI_add]; exact k)
theorem q_lsub (hx : p.tables.exec = Jvm.exec) (hb : c.code = cc) {x y : Int} (hdg : decode cc pc = .ok (.lsub, 1)) (k : W p l e R s m args below meth c H locs cells slots Q (F0 m (pc + 1) ls (.long (jI (x - y)) :: rest))) : W p l e R s m args below meth c H locs cells slots Q (F0 m pc ls (.long (jI y) :: .long (jI x) :: rest)) := lv_lsub hx hb hdg (by rw [jI_sub]; exact k)
theorem q_lmul (hx : p.tables.exec = Jvm.exec) (hb : c.code = cc) {x y : Int} (hdg : decode cc pc = .ok (.lmul, 1)) (k : W p l e R s m args below meth c H locs cells slots Q (F0 m (pc + 1) ls (.long (jI (x * y)) :: rest))) : W p l e R s m args below meth c H locs cells slots Q (F0 m pc ls (.long (jI y) :: .long (jI x) :: rest)) := lv_lmul hx hb hdg (by rw [jI_mul]; exact k)
theorem q_lneg (hx : p.tables.exec = Jvm.exec) (hb : c.code = cc) {x : Int} (hdg : decode cc pc = .ok (.lneg, 1)) (k : W p l e R s m args below meth c H locs cells slots Q (F0 m (pc + 1) ls (.long (jI (-x)) :: rest))) : W p l e R s m args below meth c H locs cells slots Q (F0 m pc ls (.long (jI x) :: rest)) := lv_lneg hx hb hdg (by rw [jI_neg]; exact k)

theorem q_icmp_eq (hx : p.tables.exec = Jvm.exec) (hb : c.code = cc) {x y : Int} {off : Int} {tgt : Nat} (hdg : decode cc pc = .ok (.if_icmp .eq off, 3)) (ht : (pc : Int) + off = (tgt : Int)) (h : -2147483648 ≤ x ∧ x ≤ 2147483647 ∧ -2147483648 ≤ y ∧ y ≤ 2147483647) (kt : x = y → W p l e R s m args below meth c H locs cells slots Q (F0 m tgt ls rest)) (kf : ¬ x = y → W p l e R s m args below meth c H locs cells slots Q (F0 m (pc + 3) ls rest)) : W p l e R s m args below meth c H locs cells slots Q (F0 m pc ls (.int (iI y) :: .int (iI x) :: rest)) := lv_icmp_eq hx hb hdg ht (fun q => kt ((iI_eq h.1 h.2.1 h.2.2.1 h.2.2.2).mp q)) (fun q => kf (fun z => q ((iI_eq h.1 h.2.1 h.2.2.1 h.2.2.2).mpr z)))
theorem q_if_eq (hx : p.tables.exec = Jvm.exec) (hb : c.code = cc) {x : Int} {off : Int} {tgt : Nat} (hdg : decode cc pc = .ok (.ifCond .eq off, 3)) (ht : (pc : Int) + off = (tgt : Int)) (h : -2147483648 ≤ x ∧ x ≤ 2147483647) (kt : x = 0 → W p l e R s m args below meth c H locs cells slots Q (F0 m tgt ls rest)) (kf : ¬ x = 0 → W p l e R s m args below meth c H locs cells slots Q (F0 m (pc + 3) ls rest)) : W p l e R s m args below meth c H locs cells slots Q (F0 m pc ls (.int (iI x) :: rest)) := lv_if_eq hx hb hdg ht (fun q => kt ((iI_eq (b := 0) h.1 h.2 (by decide) (by decide)).mp q)) (fun q => kf (fun z => q ((iI_eq (b := 0) h.1 h.2 (by decide) (by decide)).mpr z)))
theorem q_lif_eq (hx : p.tables.exec = Jvm.exec) (hb : c.code = cc) {x y : Int} {off : Int} {tgt : Nat} (hdl : decode cc pc = .ok (.lcmp, 1)) (hdg : decode cc (pc + 1) = .ok (.ifCond .eq off, 3)) (ht : ((pc + 1 : Nat) : Int) + off = (tgt : Int)) (h : -9223372036854775808 ≤ x ∧ x ≤ 9223372036854775807 ∧ -9223372036854775808 ≤ y ∧ y ≤ 9223372036854775807) (kt : x = y → W p l e R s m args below meth c H locs cells slots Q (F0 m tgt ls rest)) (kf : ¬ x = y → W p l e R s m args below meth c H locs cells slots Q (F0 m (pc + 4) ls rest)) : W p l e R s m args below meth c H locs cells slots Q (F0 m pc ls (.long (jI y) :: .long (jI x) :: rest)) := W.lcmp hx hb hdl (lv_if_eq hx hb hdg ht (fun q => kt (((lg_cmp_eq (jI x) (jI y)).trans (jI_eq h.1 h.2.1 h.2.2.1 h.2.2.2)).mp q)) (fun q => kf (fun z => q (((lg_cmp_eq (jI x) (jI y)).trans (jI_eq h.1 h.2.1 h.2.2.1 h.2.2.2)).mpr z))))
theorem q_icmp_ne (hx : p.tables.exec = Jvm.exec) (hb : c.code = cc) {x y : Int} {off : Int} {tgt : Nat} (hdg : decode cc pc = .ok (.if_icmp .ne off, 3)) (ht : (pc : Int) + off = (tgt : Int)) (h : -2147483648 ≤ x ∧ x ≤ 2147483647 ∧ -2147483648 ≤ y ∧ y ≤ 2147483647) (kt : ¬ x = y → W p l e R s m args below meth c H locs cells slots Q (F0 m tgt ls rest)) (kf : x = y → W p l e R s m args below meth c H locs cells slots Q (F0 m (pc + 3) ls rest)) : W p l e R s m args below meth c H locs cells slots Q (F0 m pc ls (.int (iI y) :: .int (iI x) :: rest)) := lv_icmp_ne hx hb hdg ht (fun q => kt (fun z => q ((iI_eq h.1 h.2.1 h.2.2.1 h.2.2.2).mpr z))) (fun q => kf ((iI_eq h.1 h.2.1 h.2.2.1 h.2.2.2).mp q))
theorem q_if_ne (hx : p.tables.exec = Jvm.exec) (hb : c.code = cc) {x : Int} {off : Int} {tgt : Nat} (hdg : decode cc pc = .ok (.ifCond .ne off, 3)) (ht : (pc : Int) + off = (tgt : Int)) (h : -2147483648 ≤ x ∧ x ≤ 2147483647) (kt : ¬ x = 0 → W p l e R s m args below meth c H locs cells slots Q (F0 m tgt ls rest)) (kf : x = 0 → W p l e R s m args below meth c H locs cells slots Q (F0 m (pc + 3) ls rest)) : W p l e R s m args below meth c H locs cells slots Q (F0 m pc ls (.int (iI x) :: rest)) := lv_if_ne hx hb hdg ht (fun q => kt (fun z => q ((iI_eq (b := 0) h.1 h.2 (by decide) (by decide)).mpr z))) (fun q => kf ((iI_eq (b := 0) h.1 h.2 (by decide) (by decide)).mp q))
theorem q_lif_ne (hx : p.tables.exec = Jvm.exec) (hb : c.code = cc) {x y : Int} {off : Int} {tgt : Nat} (hdl : decode cc pc = .ok (.lcmp, 1)) (hdg : decode cc (pc + 1) = .ok (.ifCond .ne off, 3)) (ht : ((pc + 1 : Nat) : Int) + off = (tgt : Int)) (h : -9223372036854775808 ≤ x ∧ x ≤ 9223372036854775807 ∧ -9223372036854775808 ≤ y ∧ y ≤ 9223372036854775807) (kt : ¬ x = y → W p l e R s m args below meth c H locs cells slots Q (F0 m tgt ls rest)) (kf : x = y → W p l e R s m args below meth c H locs cells slots Q (F0 m (pc + 4) ls rest)) : W p l e R s m args below meth c H locs cells slots Q (F0 m pc ls (.long (jI y) :: .long (jI x) :: rest)) := W.lcmp hx hb hdl (lv_if_ne hx hb hdg ht (fun q => kt (fun z => q (((lg_cmp_eq (jI x) (jI y)).trans (jI_eq h.1 h.2.1 h.2.2.1 h.2.2.2)).mpr z))) (fun q => kf (((lg_cmp_eq (jI x) (jI y)).trans (jI_eq h.1 h.2.1 h.2.2.1 h.2.2.2)).mp q)))
theorem q_icmp_lt (hx : p.tables.exec = Jvm.exec) (hb : c.code = cc) {x y : Int} {off : Int} {tgt : Nat} (hdg : decode cc pc = .ok (.if_icmp .lt off, 3)) (ht : (pc : Int) + off = (tgt : Int)) (h : -2147483648 ≤ x ∧ x ≤ 2147483647 ∧ -2147483648 ≤ y ∧ y ≤ 2147483647) (kt : x < y → W p l e R s m args below meth c H locs cells slots Q (F0 m tgt ls rest)) (kf : ¬ x < y → W p l e R s m args below meth c H locs cells slots Q (F0 m (pc + 3) ls rest)) : W p l e R s m args below meth c H locs cells slots Q (F0 m pc ls (.int (iI y) :: .int (iI x) :: rest)) := lv_icmp_lt hx hb hdg ht (fun q => kt ((iI_lt h.1 h.2.1 h.2.2.1 h.2.2.2).mp q)) (fun q => kf (fun z => q ((iI_lt h.1 h.2.1 h.2.2.1 h.2.2.2).mpr z)))
theorem q_if_lt (hx : p.tables.exec = Jvm.exec) (hb : c.code = cc) {x : Int} {off : Int} {tgt : Nat} (hdg : decode cc pc = .ok (.ifCond .lt off, 3)) (ht : (pc : Int) + off = (tgt : Int)) (h : -2147483648 ≤ x ∧ x ≤ 2147483647) (kt : x < 0 → W p l e R s m args below meth c H locs cells slots Q (F0 m tgt ls rest)) (kf : ¬ x < 0 → W p l e R s m args below meth c H locs cells slots Q (F0 m (pc + 3) ls rest)) : W p l e R s m args below meth c H locs cells slots Q (F0 m pc ls (.int (iI x) :: rest)) := lv_if_lt hx hb hdg ht (fun q => kt ((iI_lt (b := 0) h.1 h.2 (by decide) (by decide)).mp q)) (fun q => kf (fun z => q ((iI_lt (b := 0) h.1 h.2 (by decide) (by decide)).mpr z)))
theorem q_lif_lt (hx : p.tables.exec = Jvm.exec) (hb : c.code = cc) {x y : Int} {off : Int} {tgt : Nat} (hdl : decode cc pc = .ok (.lcmp, 1)) (hdg : decode cc (pc + 1) = .ok (.ifCond .lt off, 3)) (ht : ((pc + 1 : Nat) : Int) + off = (tgt : Int)) (h : -9223372036854775808 ≤ x ∧ x ≤ 9223372036854775807 ∧ -9223372036854775808 ≤ y ∧ y ≤ 9223372036854775807) (kt : x < y → W p l e R s m args below meth c H locs cells slots Q (F0 m tgt ls rest)) (kf : ¬ x < y → W p l e R s m args below meth c H locs cells slots Q (F0 m (pc + 4) ls rest)) : W p l e R s m args below meth c H locs cells slots Q (F0 m pc ls (.long (jI y) :: .long (jI x) :: rest)) := W.lcmp hx hb hdl (lv_if_lt hx hb hdg ht (fun q => kt (((lg_cmp_lt (jI x) (jI y)).trans (jI_lt h.1 h.2.1 h.2.2.1 h.2.2.2)).mp q)) (fun q => kf (fun z => q (((lg_cmp_lt (jI x) (jI y)).trans (jI_lt h.1 h.2.1 h.2.2.1 h.2.2.2)).mpr z))))
theorem q_icmp_ge (hx : p.tables.exec = Jvm.exec) (hb : c.code = cc) {x y : Int} {off : Int} {tgt : Nat} (hdg : decode cc pc = .ok (.if_icmp .ge off, 3)) (ht : (pc : Int) + off = (tgt : Int)) (h : -2147483648 ≤ x ∧ x ≤ 2147483647 ∧ -2147483648 ≤ y ∧ y ≤ 2147483647) (kt : y ≤ x → W p l e R s m args below meth c H locs cells slots Q (F0 m tgt ls rest)) (kf : ¬ y ≤ x → W p l e R s m args below meth c H locs cells slots Q (F0 m (pc + 3) ls rest)) : W p l e R s m args below meth c H locs cells slots Q (F0 m pc ls (.int (iI y) :: .int (iI x) :: rest)) := lv_icmp_ge hx hb hdg ht (fun q => kt ((iI_le h.2.2.1 h.2.2.2 h.1 h.2.1).mp q)) (fun q => kf (fun z => q ((iI_le h.2.2.1 h.2.2.2 h.1 h.2.1).mpr z)))
theorem q_if_ge (hx : p.tables.exec = Jvm.exec) (hb : c.code = cc) {x : Int} {off : Int} {tgt : Nat} (hdg : decode cc pc = .ok (.ifCond .ge off, 3)) (ht : (pc : Int) + off = (tgt : Int)) (h : -2147483648 ≤ x ∧ x ≤ 2147483647) (kt : 0 ≤ x → W p l e R s m args below meth c H locs cells slots Q (F0 m tgt ls rest)) (kf : ¬ 0 ≤ x → W p l e R s m args below meth c H locs cells slots Q (F0 m (pc + 3) ls rest)) : W p l e R s m args below meth c H locs cells slots Q (F0 m pc ls (.int (iI x) :: rest)) := lv_if_ge hx hb hdg ht (fun q => kt ((iI_le (a := 0) (by decide) (by decide) h.1 h.2).mp q)) (fun q => kf (fun z => q ((iI_le (a := 0) (by decide) (by decide) h.1 h.2).mpr z)))
theorem q_lif_ge (hx : p.tables.exec = Jvm.exec) (hb : c.code = cc) {x y : Int} {off : Int} {tgt : Nat} (hdl : decode cc pc = .ok (.lcmp, 1)) (hdg : decode cc (pc + 1) = .ok (.ifCond .ge off, 3)) (ht : ((pc + 1 : Nat) : Int) + off = (tgt : Int)) (h : -9223372036854775808 ≤ x ∧ x ≤ 9223372036854775807 ∧ -9223372036854775808 ≤ y ∧ y ≤ 9223372036854775807) (kt : y ≤ x → W p l e R s m args below meth c H locs cells slots Q (F0 m tgt ls rest)) (kf : ¬ y ≤ x → W p l e R s m args below meth c H locs cells slots Q (F0 m (pc + 4) ls rest)) : W p l e R s m args below meth c H locs cells slots Q (F0 m pc ls (.long (jI y) :: .long (jI x) :: rest)) := W.lcmp hx hb hdl (lv_if_ge hx hb hdg ht (fun q => kt (((lg_cmp_ge (jI x) (jI y)).trans (jI_le h.2.2.1 h.2.2.2 h.1 h.2.1)).mp q)) (fun q => kf (fun z => q (((lg_cmp_ge (jI x) (jI y)).trans (jI_le h.2.2.1 h.2.2.2 h.1 h.2.1)).mpr z))))
theorem q_icmp_gt (hx : p.tables.exec = Jvm.exec) (hb : c.code = cc) {x y : Int} {off : Int} {tgt : Nat} (hdg : decode cc pc = .ok (.if_icmp .gt off, 3)) (ht : (pc : Int) + off = (tgt : Int)) (h : -2147483648 ≤ x ∧ x ≤ 2147483647 ∧ -2147483648 ≤ y ∧ y ≤ 2147483647) (kt : y < x → W p l e R s m args below meth c H locs cells slots Q (F0 m tgt ls rest)) (kf : ¬ y < x → W p l e R s m args below meth c H locs cells slots Q (F0 m (pc + 3) ls rest)) : W p l e R s m args below meth c H locs cells slots Q (F0 m pc ls (.int (iI y) :: .int (iI x) :: rest)) := lv_icmp_gt hx hb hdg ht (fun q => kt ((iI_lt h.2.2.1 h.2.2.2 h.1 h.2.1).mp q)) (fun q => kf (fun z => q ((iI_lt h.2.2.1 h.2.2.2 h.1 h.2.1).mpr z)))
theorem q_if_gt (hx : p.tables.exec = Jvm.exec) (hb : c.code = cc) {x : Int} {off : Int} {tgt : Nat} (hdg : decode cc pc = .ok (.ifCond .gt off, 3)) (ht : (pc : Int) + off = (tgt : Int)) (h : -2147483648 ≤ x ∧ x ≤ 2147483647) (kt : 0 < x → W p l e R s m args below meth c H locs cells slots Q (F0 m tgt ls rest)) (kf : ¬ 0 < x → W p l e R s m args below meth c H locs cells slots Q (F0 m (pc + 3) ls rest)) : W p l e R s m args below meth c H locs cells slots Q (F0 m pc ls (.int (iI x) :: rest)) := lv_if_gt hx hb hdg ht (fun q => kt ((iI_lt (a := 0) (by decide) (by decide) h.1 h.2).mp q)) (fun q => kf (fun z => q ((iI_lt (a := 0) (by decide) (by decide) h.1 h.2).mpr z)))
theorem q_lif_gt (hx : p.tables.exec = Jvm.exec) (hb : c.code = cc) {x y : Int} {off : Int} {tgt : Nat} (hdl : decode cc pc = .ok (.lcmp, 1)) (hdg : decode cc (pc + 1) = .ok (.ifCond .gt off, 3)) (ht : ((pc + 1 : Nat) : Int) + off = (tgt : Int)) (h : -9223372036854775808 ≤ x ∧ x ≤ 9223372036854775807 ∧ -9223372036854775808 ≤ y ∧ y ≤ 9223372036854775807) (kt : y < x → W p l e R s m args below meth c H locs cells slots Q (F0 m tgt ls rest)) (kf : ¬ y < x → W p l e R s m args below meth c H locs cells slots Q (F0 m (pc + 4) ls rest)) : W p l e R s m args below meth c H locs cells slots Q (F0 m pc ls (.long (jI y) :: .long (jI x) :: rest)) := W.lcmp hx hb hdl (lv_if_gt hx hb hdg ht (fun q => kt (((lg_cmp_gt (jI x) (jI y)).trans (jI_lt h.2.2.1 h.2.2.2 h.1 h.2.1)).mp q)) (fun q => kf (fun z => q (((lg_cmp_gt (jI x) (jI y)).trans (jI_lt h.2.2.1 h.2.2.2 h.1 h.2.1)).mpr z))))
theorem q_icmp_le (hx : p.tables.exec = Jvm.exec) (hb : c.code = cc) {x y : Int} {off : Int} {tgt : Nat} (hdg : decode cc pc = .ok (.if_icmp .le off, 3)) (ht : (pc : Int) + off = (tgt : Int)) (h : -2147483648 ≤ x ∧ x ≤ 2147483647 ∧ -2147483648 ≤ y ∧ y ≤ 2147483647) (kt : x ≤ y → W p l e R s m args below meth c H locs cells slots Q (F0 m tgt ls rest)) (kf : ¬ x ≤ y → W p l e R s m args below meth c H locs cells slots Q (F0 m (pc + 3) ls rest)) : W p l e R s m args below meth c H locs cells slots Q (F0 m pc ls (.int (iI y) :: .int (iI x) :: rest)) := lv_icmp_le hx hb hdg ht (fun q => kt ((iI_le h.1 h.2.1 h.2.2.1 h.2.2.2).mp q)) (fun q => kf (fun z => q ((iI_le h.1 h.2.1 h.2.2.1 h.2.2.2).mpr z)))
theorem q_if_le (hx : p.tables.exec = Jvm.exec) (hb : c.code = cc) {x : Int} {off : Int} {tgt : Nat} (hdg : decode cc pc = .ok (.ifCond .le off, 3)) (ht : (pc : Int) + off = (tgt : Int)) (h : -2147483648 ≤ x ∧ x ≤ 2147483647) (kt : x ≤ 0 → W p l e R s m args below meth c H locs cells slots Q (F0 m tgt ls rest)) (kf : ¬ x ≤ 0 → W p l e R s m args below meth c H locs cells slots Q (F0 m (pc + 3) ls rest)) : W p l e R s m args below meth c H locs cells slots Q (F0 m pc ls (.int (iI x) :: rest)) := lv_if_le hx hb hdg ht (fun q => kt ((iI_le (b := 0) h.1 h.2 (by decide) (by decide)).mp q)) (fun q => kf (fun z => q ((iI_le (b := 0) h.1 h.2 (by decide) (by decide)).mpr z)))
theorem q_lif_le (hx : p.tables.exec = Jvm.exec) (hb : c.code = cc) {x y : Int} {off : Int} {tgt : Nat} (hdl : decode cc pc = .ok (.lcmp, 1)) (hdg : decode cc (pc + 1) = .ok (.ifCond .le off, 3)) (ht : ((pc + 1 : Nat) : Int) + off = (tgt : Int)) (h : -9223372036854775808 ≤ x ∧ x ≤ 9223372036854775807 ∧ -9223372036854775808 ≤ y ∧ y ≤ 9223372036854775807) (kt : x ≤ y → W p l e R s m args below meth c H locs cells slots Q (F0 m tgt ls rest)) (kf : ¬ x ≤ y → W p l e R s m args below meth c H locs cells slots Q (F0 m (pc + 4) ls rest)) : W p l e R s m args below meth c H locs cells slots Q (F0 m pc ls (.long (jI y) :: .long (jI x) :: rest)) := W.lcmp hx hb hdl (lv_if_le hx hb hdg ht (fun q => kt (((lg_cmp_le (jI x) (jI y)).trans (jI_le h.1 h.2.1 h.2.2.1 h.2.2.2)).mp q)) (fun q => kf (fun z => q (((lg_cmp_le (jI x) (jI y)).trans (jI_le h.1 h.2.1 h.2.2.1 h.2.2.2)).mpr z))))
theorem q_ifb_eq (hx : p.tables.exec = Jvm.exec) (hb : c.code = cc) {P : Prop} [Decidable P] {off : Int} {tgt : Nat} (hdg : decode cc pc = .ok (.ifCond .eq off, 3)) (ht : (pc : Int) + off = (tgt : Int)) (kt : ¬ P → W p l e R s m args below meth c H locs cells slots Q (F0 m tgt ls rest)) (kf : P → W p l e R s m args below meth c H locs cells slots Q (F0 m (pc + 3) ls rest)) : W p l e R s m args below meth c H locs cells slots Q (F0 m pc ls (.int (bP P) :: rest)) := lv_if_eq hx hb hdg ht (fun q => kt (fun h => by rw [bP_t h] at q; exact absurd q (by decide))) (fun q => kf (Decidable.byContradiction fun h => q (by rw [bP_f h]; rfl)))
theorem q_ifb_ne (hx : p.tables.exec = Jvm.exec) (hb : c.code = cc) {P : Prop} [Decidable P] {off : Int} {tgt : Nat} (hdg : decode cc pc = .ok (.ifCond .ne off, 3)) (ht : (pc : Int) + off = (tgt : Int)) (kt : P → W p l e R s m args below meth c H locs cells slots Q (F0 m tgt ls rest)) (kf : ¬ P → W p l e R s m args below meth c H locs cells slots Q (F0 m (pc + 3) ls rest)) : W p l e R s m args below meth c H locs cells slots Q (F0 m pc ls (.int (bP P) :: rest)) := lv_if_ne hx hb hdg ht (fun q => kt (Decidable.byContradiction fun h => q (by rw [bP_f h]; rfl))) (fun q => kf (fun h => by rw [bP_t h] at q; exact absurd q (by decide)))
theorem q_i2l (hx : p.tables.exec = Jvm.exec) (hb : c.code = cc) {x : Int} (hdg : decode cc pc = .ok (.i2l, 1)) (h : -2147483648 ≤ x ∧ x ≤ 2147483647) (k : W p l e R s m args below meth c H locs cells slots Q (F0 m (pc + 1) ls (.long (jI x) :: rest))) : W p l e R s m args below meth c H locs cells slots Q (F0 m pc ls (.int (iI x) :: rest)) := lv_i2l hx hb hdg (iI_i2l h.1 h.2) k
theorem q_l2i (hx : p.tables.exec = Jvm.exec) (hb : c.code = cc) {x : Int} (hdg : decode cc pc = .ok (.l2i, 1))  (k : W p l e R s m args below meth c H locs cells slots Q (F0 m (pc + 1) ls (.int (iI x) :: rest))) : W p l e R s m args below meth c H locs cells slots Q (F0 m pc ls (.long (jI x) :: rest)) := lv_l2i hx hb hdg (jI_l2i x) k
theorem q_idiv (hx : p.tables.exec = Jvm.exec) (hb : c.code = cc) {x y : Int} (hdg : decode cc pc = .ok (.idiv, 1)) (h : -2147483648 ≤ x ∧ x ≤ 2147483647 ∧ -2147483648 ≤ y ∧ y ≤ 2147483647) (hy : y ≠ 0) (k : W p l e R s m args below meth c H locs cells slots Q (F0 m (pc + 1) ls (.int (iI (x.tdiv y)) :: rest))) : W p l e R s m args below meth c H locs cells slots Q (F0 m pc ls (.int (iI y) :: .int (iI x) :: rest)) := lv_idiv hx hb hdg (fun q => hy ((iI_eq h.2.2.1 h.2.2.2 (b := 0) (by decide) (by decide)).mp q)) (by rw [iI_div h.1 h.2.1 h.2.2.1 h.2.2.2]; exact k)
theorem q_irem (hx : p.tables.exec = Jvm.exec) (hb : c.code = cc) {x y : Int} (hdg : decode cc pc = .ok (.irem, 1)) (h : -2147483648 ≤ x ∧ x ≤ 2147483647 ∧ -2147483648 ≤ y ∧ y ≤ 2147483647) (hy : y ≠ 0) (k : W p l e R s m args below meth c H locs cells slots Q (F0 m (pc + 1) ls (.int (iI (x.tmod y)) :: rest))) : W p l e R s m args below meth c H locs cells slots Q (F0 m pc ls (.int (iI y) :: .int (iI x) :: rest)) := lv_irem hx hb hdg (fun q => hy ((iI_eq h.2.2.1 h.2.2.2 (b := 0) (by decide) (by decide)).mp q)) (by rw [iI_div h.1 h.2.1 h.2.2.1 h.2.2.2, iI_mul, iI_sub, ← Int.mul_comm, ← Int.tmod_def]; exact k)
theorem q_ldiv (hx : p.tables.exec = Jvm.exec) (hb : c.code = cc) {x y : Int} (hdg : decode cc pc = .ok (.ldiv, 1)) (h : -9223372036854775808 ≤ x ∧ x ≤ 9223372036854775807 ∧ -9223372036854775808 ≤ y ∧ y ≤ 9223372036854775807) (hy : y ≠ 0) (k : W p l e R s m args below meth c H locs cells slots Q (F0 m (pc + 1) ls (.long (jI (x.tdiv y)) :: rest))) : W p l e R s m args below meth c H locs cells slots Q (F0 m pc ls (.long (jI y) :: .long (jI x) :: rest)) := lv_ldiv hx hb hdg (fun q => hy ((jI_eq h.2.2.1 h.2.2.2 (b := 0) (by decide) (by decide)).mp q)) (by rw [jI_div h.1 h.2.1 h.2.2.1 h.2.2.2]; exact k)
theorem q_lrem (hx : p.tables.exec = Jvm.exec) (hb : c.code = cc) {x y : Int} (hdg : decode cc pc = .ok (.lrem, 1)) (h : -9223372036854775808 ≤ x ∧ x ≤ 9223372036854775807 ∧ -9223372036854775808 ≤ y ∧ y ≤ 9223372036854775807) (hy : y ≠ 0) (k : W p l e R s m args below meth c H locs cells slots Q (F0 m (pc + 1) ls (.long (jI (x.tmod y)) :: rest))) : W p l e R s m args below meth c H locs cells slots Q (F0 m pc ls (.long (jI y) :: .long (jI x) :: rest)) := lv_lrem hx hb hdg (fun q => hy ((jI_eq h.2.2.1 h.2.2.2 (b := 0) (by decide) (by decide)).mp q)) (by rw [jI_div h.1 h.2.1 h.2.2.1 h.2.2.2, jI_mul, jI_sub, ← Int.mul_comm, ← Int.tmod_def]; exact k)
theorem q_idivN (hx : p.tables.exec = Jvm.exec) (hb : c.code = cc) {x y : Int} (hdg : decode cc pc = .ok (.idiv, 1)) (h : 0 ≤ x ∧ x ≤ 2147483647 ∧ 0 < y ∧ y ≤ 2147483647) (k : W p l e R s m args below meth c H locs cells slots Q (F0 m (pc + 1) ls (.int (iI (x / y)) :: rest))) : W p l e R s m args below meth c H locs cells slots Q (F0 m pc ls (.int (iI y) :: .int (iI x) :: rest)) := q_idiv hx hb hdg ⟨by omega, by omega, by omega, by omega⟩ (by omega) (by rw [Int.tdiv_eq_ediv_of_nonneg h.1]; exact k)
theorem q_iremN (hx : p.tables.exec = Jvm.exec) (hb : c.code = cc) {x y : Int} (hdg : decode cc pc = .ok (.irem, 1)) (h : 0 ≤ x ∧ x ≤ 2147483647 ∧ 0 < y ∧ y ≤ 2147483647) (k : W p l e R s m args below meth c H locs cells slots Q (F0 m (pc + 1) ls (.int (iI (x % y)) :: rest))) : W p l e R s m args below meth c H locs cells slots Q (F0 m pc ls (.int (iI y) :: .int (iI x) :: rest)) := q_irem hx hb hdg ⟨by omega, by omega, by omega, by omega⟩ (by omega) (by rw [Int.tmod_eq_emod_of_nonneg h.1]; exact k)
theorem q_ldivN (hx : p.tables.exec = Jvm.exec) (hb : c.code = cc) {x y : Int} (hdg : decode cc pc = .ok (.ldiv, 1)) (h : 0 ≤ x ∧ x ≤ 9223372036854775807 ∧ 0 < y ∧ y ≤ 9223372036854775807) (k : W p l e R s m args below meth c H locs cells slots Q (F0 m (pc + 1) ls (.long (jI (x / y)) :: rest))) : W p l e R s m args below meth c H locs cells slots Q (F0 m pc ls (.long (jI y) :: .long (jI x) :: rest)) := q_ldiv hx hb hdg ⟨by omega, by omega, by omega, by omega⟩ (by omega) (by rw [Int.tdiv_eq_ediv_of_nonneg h.1]; exact k)
theorem q_lremN (hx : p.tables.exec = Jvm.exec) (hb : c.code = cc) {x y : Int} (hdg : decode cc pc = .ok (.lrem, 1)) (h : 0 ≤ x ∧ x ≤ 9223372036854775807 ∧ 0 < y ∧ y ≤ 9223372036854775807) (k : W p l e R s m args below meth c H locs cells slots Q (F0 m (pc + 1) ls (.long (jI (x % y)) :: rest))) : W p l e R s m args below meth c H locs cells slots Q (F0 m pc ls (.long (jI y) :: .long (jI x) :: rest)) := q_lrem hx hb hdg ⟨by omega, by omega, by omega, by omega⟩ (by omega) (by rw [Int.tmod_eq_emod_of_nonneg h.1]; exact k)
theorem q_iald (hx : p.tables.exec = Jvm.exec) (hb : c.code = cc) (hE : qE g s) (hP : va_P g.1 vwCl ws H) (q0 : Nat) {a n : Nat} {F : Nat → Int} (ha : ws[q0]? = some (aI g a n F)) (k : Nat) {z : Int} (hk : z = k ∧ k < n) (hn : n < 2147483648) (hdg : decode cc pc = .ok (.iaload, 1)) (kk : W p l e R s m args below meth c H locs cells slots Q (F0 m (pc + 1) ls (.int (iI (F k)) :: rest))) : W p l e R s m args below meth c H locs cells slots Q (F0 m pc ls (.int (iI z) :: .ref a :: rest)) := va_iald hx hb hE.1 hP q0 0 ha rfl (iI_in hk.1 hk.2 hn) hdg (by rw [iI_clamp hk.1 (by omega)]; exact kk)
theorem q_lald (hx : p.tables.exec = Jvm.exec) (hb : c.code = cc) (hE : qE g s) (hP : va_P g.1 vwCl ws H) (q0 : Nat) {a n : Nat} {F : Nat → Int} (ha : ws[q0]? = some (aJ g a n F)) (k : Nat) {z : Int} (hk : z = k ∧ k < n) (hn : n < 2147483648) (hdg : decode cc pc = .ok (.laload, 1)) (kk : W p l e R s m args below meth c H locs cells slots Q (F0 m (pc + 1) ls (.long (jI (F k)) :: rest))) : W p l e R s m args below meth c H locs cells slots Q (F0 m pc ls (.int (iI z) :: .ref a :: rest)) := va_lald hx hb hE.1 hP q0 1 ha rfl (iI_in hk.1 hk.2 hn) hdg (by rw [iI_clamp hk.1 (by omega)]; exact kk)
theorem q_zald (hx : p.tables.exec = Jvm.exec) (hb : c.code = cc) (hE : qE g s) (hP : va_P g.1 vwCl ws H) (q0 : Nat) {a n : Nat} {F : Nat → Bool} (ha : ws[q0]? = some (aZ g a n F)) (k : Nat) {z : Int} (hk : z = k ∧ k < n) (hn : n < 2147483648) (hdg : decode cc pc = .ok (.baload, 1)) (kk : W p l e R s m args below meth c H locs cells slots Q (F0 m (pc + 1) ls (.int (bP (F k = true)) :: rest))) : W p l e R s m args below meth c H locs cells slots Q (F0 m pc ls (.int (iI z) :: .ref a :: rest)) := va_zald hx hb hE.1 hP q0 2 ha rfl (iI_in hk.1 hk.2 hn) hdg (by rw [iI_clamp hk.1 (by omega)]; exact kk)
theorem q_iast (hx : p.tables.exec = Jvm.exec) (hb : c.code = cc) (hE : qE g s) (hP : va_P g.1 vwCl ws H) (hD : va_D A ws) {H0 : Heap} (hS : va_S A H0 H locs) (q0 : Nat) {a n : Nat} {F : Nat → Int} (ha : ws[q0]? = some (aI g a n F)) (k : Nat) {z v : Int} (hk : z = k ∧ k < n) (hn : n < 2147483648) (hdg : decode cc pc = .ok (.iastore, 1)) (kk : ∀ (H1 : Heap) (locs1 : List Loc), va_P g.1 vwCl (ws.set q0 (aI g a n (va_up F k v))) H1 → va_D A (ws.set q0 (aI g a n (va_up F k v))) → va_S A H0 H1 locs1 → W p l e R s m args below meth c H1 locs1 cells slots Q (F0 m (pc + 1) ls rest)) : W p l e R s m args below meth c H locs cells slots Q (F0 m pc ls (.int (iI v) :: .int (iI z) :: .ref a :: rest)) := va_iast hx hb hE.1 hP hD hS q0 0 ha rfl (iI_in hk.1 hk.2 hn) hdg (fun H1 locs1 h1 h2 h3 => by rw [iI_clamp hk.1 (by omega), iA_up] at h1 h2; exact kk H1 locs1 h1 h2 h3)
theorem q_last (hx : p.tables.exec = Jvm.exec) (hb : c.code = cc) (hE : qE g s) (hP : va_P g.1 vwCl ws H) (hD : va_D A ws) {H0 : Heap} (hS : va_S A H0 H locs) (q0 : Nat) {a n : Nat} {F : Nat → Int} (ha : ws[q0]? = some (aJ g a n F)) (k : Nat) {z v : Int} (hk : z = k ∧ k < n) (hn : n < 2147483648) (hdg : decode cc pc = .ok (.lastore, 1)) (kk : ∀ (H1 : Heap) (locs1 : List Loc), va_P g.1 vwCl (ws.set q0 (aJ g a n (va_up F k v))) H1 → va_D A (ws.set q0 (aJ g a n (va_up F k v))) → va_S A H0 H1 locs1 → W p l e R s m args below meth c H1 locs1 cells slots Q (F0 m (pc + 1) ls rest)) : W p l e R s m args below meth c H locs cells slots Q (F0 m pc ls (.long (jI v) :: .int (iI z) :: .ref a :: rest)) := va_last hx hb hE.1 hP hD hS q0 1 ha rfl (iI_in hk.1 hk.2 hn) hdg (fun H1 locs1 h1 h2 h3 => by rw [iI_clamp hk.1 (by omega), jA_up] at h1 h2; exact kk H1 locs1 h1 h2 h3)
theorem q_zast (hx : p.tables.exec = Jvm.exec) (hb : c.code = cc) (hE : qE g s) (hP : va_P g.1 vwCl ws H) (hD : va_D A ws) {H0 : Heap} (hS : va_S A H0 H locs) (q0 : Nat) {a n : Nat} {F : Nat → Bool} {P : Prop} [Decidable P] (ha : ws[q0]? = some (aZ g a n F)) (k : Nat) {z : Int} (hk : z = k ∧ k < n) (hn : n < 2147483648) (hdg : decode cc pc = .ok (.bastore, 1)) (kk : ∀ (H1 : Heap) (locs1 : List Loc), va_P g.1 vwCl (ws.set q0 (aZ g a n (va_up F k (decide P)))) H1 → va_D A (ws.set q0 (aZ g a n (va_up F k (decide P)))) → va_S A H0 H1 locs1 → W p l e R s m args below meth c H1 locs1 cells slots Q (F0 m (pc + 1) ls rest)) : W p l e R s m args below meth c H locs cells slots Q (F0 m pc ls (.int (bP P) :: .int (iI z) :: .ref a :: rest)) := va_zast hx hb hE.1 hP hD hS q0 2 ha rfl (iI_in hk.1 hk.2 hn) hdg (fun H1 locs1 h1 h2 h3 => by rw [iI_clamp hk.1 (by omega), bP_vp, ← bP_dec P, zA_up] at h1 h2; exact kk H1 locs1 h1 h2 h3)
theorem q_zast1 (hx : p.tables.exec = Jvm.exec) (hb : c.code = cc) (hE : qE g s) (hP : va_P g.1 vwCl ws H) (hD : va_D A ws) {H0 : Heap} (hS : va_S A H0 H locs) (q0 : Nat) {a n : Nat} {F : Nat → Bool} (ha : ws[q0]? = some (aZ g a n F)) (k : Nat) {z : Int} (hk : z = k ∧ k < n) (hn : n < 2147483648) (hdg : decode cc pc = .ok (.bastore, 1)) (kk : ∀ (H1 : Heap) (locs1 : List Loc), va_P g.1 vwCl (ws.set q0 (aZ g a n (va_up F k true))) H1 → va_D A (ws.set q0 (aZ g a n (va_up F k true))) → va_S A H0 H1 locs1 → W p l e R s m args below meth c H1 locs1 cells slots Q (F0 m (pc + 1) ls rest)) : W p l e R s m args below meth c H locs cells slots Q (F0 m pc ls (.int (iI 1) :: .int (iI z) :: .ref a :: rest)) := by rw [show iI 1 = bP (true = true) by decide]; exact q_zast hx hb hE hP hD hS q0 ha k hk hn hdg (fun H1 locs1 h1 h2 h3 => kk H1 locs1 (by simpa using h1) (by simpa using h2) h3)
theorem q_zast0 (hx : p.tables.exec = Jvm.exec) (hb : c.code = cc) (hE : qE g s) (hP : va_P g.1 vwCl ws H) (hD : va_D A ws) {H0 : Heap} (hS : va_S A H0 H locs) (q0 : Nat) {a n : Nat} {F : Nat → Bool} (ha : ws[q0]? = some (aZ g a n F)) (k : Nat) {z : Int} (hk : z = k ∧ k < n) (hn : n < 2147483648) (hdg : decode cc pc = .ok (.bastore, 1)) (kk : ∀ (H1 : Heap) (locs1 : List Loc), va_P g.1 vwCl (ws.set q0 (aZ g a n (va_up F k false))) H1 → va_D A (ws.set q0 (aZ g a n (va_up F k false))) → va_S A H0 H1 locs1 → W p l e R s m args below meth c H1 locs1 cells slots Q (F0 m (pc + 1) ls rest)) : W p l e R s m args below meth c H locs cells slots Q (F0 m pc ls (.int (iI 0) :: .int (iI z) :: .ref a :: rest)) := by rw [show iI 0 = bP (false = true) by decide]; exact q_zast hx hb hE hP hD hS q0 ha k hk hn hdg (fun H1 locs1 h1 h2 h3 => kk H1 locs1 (by simpa using h1) (by simpa using h2) h3)
theorem q_call {a : Array Value} {st0 : List Value} {wc wr : va_W} {post : Option Value → va_W → Prop} (hr : va_Run p l e R s m args below meth c H locs 0 0 0 0 (F0 m pc ls st0) rest (qQe g (va_A wc H.size) post a) (va_A wc H.size)) (hP : va_P g.1 vwCl ws H) (hD : va_D A ws) (hS : va_S A s.heap H locs) (hA : ∀ q : Nat, s.heap.size ≤ q → A q) (isC isR : List Nat) (hC : isC.map (fun i => ws[i]?) = wc.map some) (hR : isR.map (fun i => ws[i]?) = wr.map some) (hn : va_nd isR = true) (hdis : ∀ i ∈ isR, i ∉ isC) (kk : ∀ (r : Option Value) (w1 : va_W) (H1 : Heap) (locs1 : List Loc), post r w1 → va_P g.1 vwCl (wr ++ w1) H1 → va_D A (wr ++ w1) → va_S A s.heap H1 locs1 → W p l e R s m args below meth c H1 locs1 0 0 Q (F0 m (pc + 3) ls (r.toList ++ rest))) : W p l e R s m args below meth c H locs 0 0 Q (F0 m pc ls st0) := by
  intro T hT X
  have hF := va_free (wc := wc) hD hS hA isC hC
  obtain ⟨v, st₀, t, T', L, h0, X', hL, e1, e2, ⟨⟨r, w1, hv, hp, hP1, hD1⟩, hz, hk⟩, st⟩ := hr T hT X
  cases hv
  rw [h0] at hz hk
  have hk' : ∀ q : Nat, q < H.size → ¬ va_A wc H.size q → T'.heap[q]? = H[q]? := fun q h1 h2 => by rw [e1]; exact hk q h1 h2
  obtain ⟨hP2, hD2⟩ := va_join (wr := wr) (w1 := w1) hP hD isC isR hC hR hn hdis hk' hF (by rw [e1]; exact hP1) hD1
  obtain ⟨t2, a1, b1⟩ := kk v w1 T'.heap (locs ++ L) hp hP2 hD2
    ⟨Nat.le_trans hS.1 (by rw [e1]; exact hz), fun q h1 h2 => by rw [hk' q (Nat.lt_of_lt_of_le h1 hS.1) (fun z => h2 (hF q z))]; exact hS.2.1 q h1 h2, fun q hq => by
      rcases List.mem_append.mp hq with h | h
      · exact hS.2.2 q h
      · exact hF _ (hL q h)⟩ T' rfl X'
  exact ⟨t2, st t2 a1, b1⟩
theorem q_read {a : Array Value} {st0 : List Value} {post : Option Value → Prop} (hr : va_Run p l e R s m args below meth c H locs 0 0 0 0 (F0 m pc ls st0) rest (qQr post a) (fun _ => False)) (kk : ∀ (r : Option Value), post r → W p l e R s m args below meth c H locs 0 0 Q (F0 m (pc + 3) ls (r.toList ++ rest))) : W p l e R s m args below meth c H locs 0 0 Q (F0 m pc ls st0) := by
  intro T hT X
  obtain ⟨v, st₀, t, T', L, h0, X', hL, e1, e2, ⟨r, hv, hp, hh⟩, st⟩ := hr T hT X
  cases hv
  obtain ⟨t2, a1, b1⟩ := kk v hp T' (by rw [e1, hh, h0]) (Stand.forget X' (fun q h => (hL q h).elim))
  exact ⟨t2, st t2 a1, b1⟩
theorem q_runEV {nL maxL index n : Nat} {own C : String} {y : MethodName} {bytes : ByteArray} {ret : Option FieldType} {Ts wsc : List Cond} {rm : Room} {b : Addr} {As : List Value} {wc : va_W} {post : Option Value → va_W → Prop} (S : CallFix p m c cc nL s args Ts own) (hM : ME l g y wsc rm (.ref b :: As) wc post) (cw : CallW R s args own C index y bytes maxL ret wsc rm 0 0 n) (hrecv : ∃ cellB : Cell, H[b]? = some cellB ∧ cellB.vm.isStatics = false ∧ s.vm.findClass C = some cellB.cls) (hE : qE g s) (hPc : va_P g.1 vwCl wc H) (hDc : va_D A wc) (hn : As.length = n) (hsize : ls.size = nL) (hW : (rest.map fun v => v.category).sum ≤ 8) (hdg : decode cc pc = .ok (.invokevirtual index, 3)) (hf : 0 + 0 ≤ R.cells ∧ 0 + 0 ≤ R.slots) : va_Run p l e R s m args below meth c H locs 0 0 0 0 (F0 m pc ls (As.reverse ++ .ref b :: rest)) rest (qQe g (va_A wc H.size) post ((.ref b :: As) : List Value).toArray) (va_A wc H.size) :=
  va_runV S (hM H.size) cw ⟨fun a U f mk q => ⟨q.1, q.2.1, q.2.2.1, q.2.2.2.1.call, q.2.2.2.2⟩, hrecv, fun U hU hW => ⟨rfl, by rw [hU], by rw [hU]; exact hPc, hE.warm hW, hDc.weaken (fun _ _ _ _ => trivial)⟩⟩ rfl hn hsize rfl (lv_room hW) hdg hf
theorem q_runRV {nL maxL index n : Nat} {own C : String} {y : MethodName} {bytes : ByteArray} {ret : Option FieldType} {Ts wsc : List Cond} {rm : Room} {b : Addr} {As : List Value} {wc : va_W} {post : Option Value → Prop} (S : CallFix p m c cc nL s args Ts own) (hM : MR l g y wsc rm (.ref b :: As) wc post) (cw : CallW R s args own C index y bytes maxL ret wsc rm 0 0 n) (hrecv : ∃ cellB : Cell, H[b]? = some cellB ∧ cellB.vm.isStatics = false ∧ s.vm.findClass C = some cellB.cls) (hE : qE g s) (hPc : va_P g.1 vwCl wc H) (hn : As.length = n) (hsize : ls.size = nL) (hW : (rest.map fun v => v.category).sum ≤ 8) (hdg : decode cc pc = .ok (.invokevirtual index, 3)) (hf : 0 + 0 ≤ R.cells ∧ 0 + 0 ≤ R.slots) : va_Run p l e R s m args below meth c H locs 0 0 0 0 (F0 m pc ls (As.reverse ++ .ref b :: rest)) rest (qQr post ((.ref b :: As) : List Value).toArray) (fun _ => False) :=
  va_runV S hM cw ⟨fun a U f mk q => ⟨q.1, q.2.1, q.2.2.call⟩, hrecv, fun U hU hW => ⟨rfl, by rw [hU]; exact hPc, hE.warm hW⟩⟩ rfl hn hsize rfl (lv_room hW) hdg hf
theorem q_runEVN {nL maxL index n : Nat} {own C host : String} {y : MethodName} {bytes : ByteArray} {ret : Option FieldType} {Ts wsc : List Cond} {rm : Room} {b : Addr} {As : List Value} {wc : va_W} {post : Option Value → va_W → Prop} (S : CallFix p m c cc nL s args Ts own) (hM : ME l g y wsc rm (.ref b :: As) wc post) (cw : va_CN R s args own index y host bytes maxL ret wsc rm 0 0 n ∧ (Cond.instanceMethod y).before args s = true ∧ (Cond.selects C y y).before args s = true) (hrecv : ∃ cellB : Cell, H[b]? = some cellB ∧ cellB.vm.isStatics = false ∧ s.vm.findClass C = some cellB.cls) (hE : qE g s) (hPc : va_P g.1 vwCl wc H) (hDc : va_D A wc) (hn : As.length = n) (hsize : ls.size = nL) (hW : (rest.map fun v => v.category).sum ≤ 8) (hdg : decode cc pc = .ok (.invokevirtual index, 3)) (hf : 0 + 0 ≤ R.cells ∧ 0 + 0 ≤ R.slots) : va_Run p l e R s m args below meth c H locs 0 0 0 0 (F0 m pc ls (As.reverse ++ .ref b :: rest)) rest (qQe g (va_A wc H.size) post ((.ref b :: As) : List Value).toArray) (va_A wc H.size) :=
  va_runVN S (hM H.size) cw ⟨fun a U f mk q => ⟨q.1, q.2.1, q.2.2.1, q.2.2.2.1.call, q.2.2.2.2⟩, hrecv, fun U hU hW => ⟨rfl, by rw [hU], by rw [hU]; exact hPc, hE.warm hW, hDc.weaken (fun _ _ _ _ => trivial)⟩⟩ rfl hn hsize rfl (lv_room hW) hdg hf
theorem q_runRVN {nL maxL index n : Nat} {own C host : String} {y : MethodName} {bytes : ByteArray} {ret : Option FieldType} {Ts wsc : List Cond} {rm : Room} {b : Addr} {As : List Value} {wc : va_W} {post : Option Value → Prop} (S : CallFix p m c cc nL s args Ts own) (hM : MR l g y wsc rm (.ref b :: As) wc post) (cw : va_CN R s args own index y host bytes maxL ret wsc rm 0 0 n ∧ (Cond.instanceMethod y).before args s = true ∧ (Cond.selects C y y).before args s = true) (hrecv : ∃ cellB : Cell, H[b]? = some cellB ∧ cellB.vm.isStatics = false ∧ s.vm.findClass C = some cellB.cls) (hE : qE g s) (hPc : va_P g.1 vwCl wc H) (hn : As.length = n) (hsize : ls.size = nL) (hW : (rest.map fun v => v.category).sum ≤ 8) (hdg : decode cc pc = .ok (.invokevirtual index, 3)) (hf : 0 + 0 ≤ R.cells ∧ 0 + 0 ≤ R.slots) : va_Run p l e R s m args below meth c H locs 0 0 0 0 (F0 m pc ls (As.reverse ++ .ref b :: rest)) rest (qQr post ((.ref b :: As) : List Value).toArray) (fun _ => False) :=
  va_runVN S hM cw ⟨fun a U f mk q => ⟨q.1, q.2.1, q.2.2.call⟩, hrecv, fun U hU hW => ⟨rfl, by rw [hU]; exact hPc, hE.warm hW⟩⟩ rfl hn hsize rfl (lv_room hW) hdg hf
theorem q_runES {nL maxL index n : Nat} {own : String} {y : MethodName} {bytes : ByteArray} {ret : Option FieldType} {Ts wsc : List Cond} {rm : Room} {As : List Value} {wc : va_W} {post : Option Value → va_W → Prop} (S : CallFix p m c cc nL s args Ts own) (hM : ME l g y wsc rm As wc post) (cw : CallB R s args own index y bytes maxL ret wsc rm 0 0 n ∧ (Cond.static y).before args s = true)  (hE : qE g s) (hPc : va_P g.1 vwCl wc H) (hDc : va_D A wc) (hn : As.length = n) (hsize : ls.size = nL) (hW : (rest.map fun v => v.category).sum ≤ 8) (hdg : decode cc pc = .ok (.invokestatic index, 3)) (hf : 0 + 0 ≤ R.cells ∧ 0 + 0 ≤ R.slots) : va_Run p l e R s m args below meth c H locs 0 0 0 0 (F0 m pc ls (As.reverse ++ rest)) rest (qQe g (va_A wc H.size) post (As : List Value).toArray) (va_A wc H.size) :=
  va_runS S (hM H.size) cw ⟨fun a U f mk q => ⟨q.1, q.2.1, q.2.2.1, q.2.2.2.1.call, q.2.2.2.2⟩, fun U hU hW => ⟨rfl, by rw [hU], by rw [hU]; exact hPc, hE.warm hW, hDc.weaken (fun _ _ _ _ => trivial)⟩⟩ rfl hn hsize rfl (lv_room hW) hdg hf
theorem q_runRS {nL maxL index n : Nat} {own : String} {y : MethodName} {bytes : ByteArray} {ret : Option FieldType} {Ts wsc : List Cond} {rm : Room} {As : List Value} {wc : va_W} {post : Option Value → Prop} (S : CallFix p m c cc nL s args Ts own) (hM : MR l g y wsc rm As wc post) (cw : CallB R s args own index y bytes maxL ret wsc rm 0 0 n ∧ (Cond.static y).before args s = true)  (hE : qE g s) (hPc : va_P g.1 vwCl wc H) (hn : As.length = n) (hsize : ls.size = nL) (hW : (rest.map fun v => v.category).sum ≤ 8) (hdg : decode cc pc = .ok (.invokestatic index, 3)) (hf : 0 + 0 ≤ R.cells ∧ 0 + 0 ≤ R.slots) : va_Run p l e R s m args below meth c H locs 0 0 0 0 (F0 m pc ls (As.reverse ++ rest)) rest (qQr post (As : List Value).toArray) (fun _ => False) :=
  va_runS S hM cw ⟨fun a U f mk q => ⟨q.1, q.2.1, q.2.2.call⟩, fun U hU hW => ⟨rfl, by rw [hU]; exact hPc, hE.warm hW⟩⟩ rfl hn hsize rfl (lv_room hW) hdg hf
end QW
