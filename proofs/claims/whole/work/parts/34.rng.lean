-- fractions: reduced and not, a fold's value, its bounds
theorem rN_mul (n d : Int) : (Int.gcd n d : Int) * redN n d = n := Int.mul_ediv_cancel' (Int.gcd_dvd_left ..)
theorem rD_mul (n d : Int) : (Int.gcd n d : Int) * redD n d = d := Int.mul_ediv_cancel' (Int.gcd_dvd_right ..)
theorem g_pos {n d : Int} (h : 0 < d) : (0 : Int) < (Int.gcd n d : Int) := by
  have := Int.gcd_pos_of_ne_zero_right n (show d ≠ 0 by omega)
  omega
theorem pos_of {g q : Int} (hg : 0 < g) (h : 0 < g * q) : 0 < q := by
  rcases (show q ≤ 0 ∨ 0 < q by omega) with z | z
  · have h1 : g * q ≤ 0 := Int.mul_nonpos_of_nonneg_of_nonpos (by omega) z
    omega
  · exact z
theorem rD_pos {n d : Int} (h : 0 < d) : 0 < redD n d := pos_of (g_pos (n := n) h) (by rw [rD_mul]; exact h)
theorem rD_dvd (n d : Int) : redD n d ∣ d := ⟨(Int.gcd n d : Int), by rw [Int.mul_comm]; exact (rD_mul n d).symm⟩
theorem r_cop {n d : Int} (h : 0 < d) : Int.gcd (redN n d) (redD n d) = 1 := Int.gcd_ediv_gcd_ediv_gcd (by have := g_pos (n := n) h; omega)
theorem cop_dvd {q r z : Int} (h : Int.gcd r q = 1) (hd : q ∣ z * r) : q ∣ z := by
  have h1 := (Int.dvd_mul_gcd_iff_dvd_mul (k := q) (n := z) (m := r)).mpr hd
  rw [Int.gcd_comm, h] at h1
  simpa using h1
theorem red_cross {A B A' B' : Int} (hB : 0 < B) (hB' : 0 < B') (h : A * B' = A' * B) : redN A B = redN A' B' ∧ redD A B = redD A' B' := by
  have g1 := g_pos (n := A) hB
  have g2 := g_pos (n := A') hB'
  have e1 := rN_mul A B
  have e2 := rD_mul A B
  have e3 := rN_mul A' B'
  have e4 := rD_mul A' B'
  have c1 := r_cop (n := A) hB
  have c2 := r_cop (n := A') hB'
  have p1 := rD_pos (n := A) hB
  have p2 := rD_pos (n := A') hB'
  generalize redN A B = r at *
  generalize redD A B = q at *
  generalize redN A' B' = r' at *
  generalize redD A' B' = q' at *
  generalize (Int.gcd A B : Int) = G at *
  generalize (Int.gcd A' B' : Int) = G' at *
  have k : r * q' = r' * q := by
    have k2 : (G * G') * (r * q') = (G * G') * (r' * q) := by
      have a1 : (G * G') * (r * q') = (G * r) * (G' * q') := by ac_rfl
      have a2 : (G * G') * (r' * q) = (G' * r') * (G * q) := by ac_rfl
      rw [a1, a2, e1, e2, e3, e4, h]
    exact Int.eq_of_mul_eq_mul_left (by have := Int.mul_pos g1 g2; omega) k2
  have d1 : q ∣ q' := cop_dvd c1 ⟨r', by rw [Int.mul_comm q' r, k, Int.mul_comm]⟩
  have d2 : q' ∣ q := cop_dvd c2 ⟨r, by rw [Int.mul_comm q r', ← k, Int.mul_comm]⟩
  have e : q = q' := Int.dvd_antisymm (by omega) (by omega) d1 d2
  subst e
  exact ⟨Int.eq_of_mul_eq_mul_right (by omega) k, rfl⟩
theorem aN_mul (x1 x2 t b : Int) : (Int.gcd x2 b : Int) * addN x1 x2 t b = x1 * b + t * x2 := by
  have e1 : (Int.gcd x2 b : Int) * (x2 / (Int.gcd x2 b : Int)) = x2 := Int.mul_ediv_cancel' (Int.gcd_dvd_left ..)
  have e2 : (Int.gcd x2 b : Int) * (b / (Int.gcd x2 b : Int)) = b := Int.mul_ediv_cancel' (Int.gcd_dvd_right ..)
  unfold addN
  generalize x2 / (Int.gcd x2 b : Int) = u at *
  generalize b / (Int.gcd x2 b : Int) = w at *
  generalize (Int.gcd x2 b : Int) = G at *
  rw [Int.mul_add, show G * (x1 * w) = x1 * (G * w) by ac_rfl, show G * (t * u) = t * (G * u) by ac_rfl, e1, e2]
theorem aD_mul (x2 b : Int) : (Int.gcd x2 b : Int) * addD x2 b = x2 * b := by
  have e1 : (Int.gcd x2 b : Int) * (x2 / (Int.gcd x2 b : Int)) = x2 := Int.mul_ediv_cancel' (Int.gcd_dvd_left ..)
  unfold addD
  rw [← Int.mul_assoc, e1]
theorem aD_pos {x2 b : Int} (h1 : 0 < x2) (h2 : 0 < b) : 0 < addD x2 b := pos_of (g_pos (n := x2) h2) (by rw [aD_mul]; exact Int.mul_pos h1 h2)
theorem aD_dvd {x2 b M : Int} (h1 : 0 < x2) (h2 : 0 < b) (d1 : x2 ∣ M) (d2 : b ∣ M) : addD x2 b ∣ M := by
  have e : addD x2 b = (Int.lcm x2 b : Int) := by
    have h3 := Int.gcd_mul_lcm x2 b
    have h4 := aD_mul x2 b
    have h5 : (Int.gcd x2 b : Int) * (Int.lcm x2 b : Int) = x2 * b := by
      have := congrArg (fun z : Nat => (z : Int)) h3
      simp only [Int.natCast_mul] at this
      rw [this, show ((x2.natAbs : Nat) : Int) = x2 by omega, show ((b.natAbs : Nat) : Int) = b by omega]
    exact Int.eq_of_mul_eq_mul_left (by have := g_pos (n := x2) h2; omega) (h4.trans h5.symm)
  rw [e]; exact Int.coe_lcm_dvd d1 d2
theorem addF_red {x : Int × Int} {t b : Int} (hx : 0 < x.2) (hb : 0 < b) : addF x (redN t b) (redD t b) = addF x t b := by
  have pb := rD_pos (n := t) hb
  have k : addN x.1 x.2 (redN t b) (redD t b) * addD x.2 b = addN x.1 x.2 t b * addD x.2 (redD t b) := by
    have e1 := aN_mul x.1 x.2 (redN t b) (redD t b)
    have e2 := aD_mul x.2 b
    have e3 := aN_mul x.1 x.2 t b
    have e4 := aD_mul x.2 (redD t b)
    have f1 := rN_mul t b
    have f2 := rD_mul t b
    have g1 := g_pos (n := x.2) pb
    have g2 := g_pos (n := x.2) hb
    generalize addN x.1 x.2 (redN t b) (redD t b) = A' at *
    generalize addN x.1 x.2 t b = A at *
    generalize addD x.2 b = B at *
    generalize addD x.2 (redD t b) = B' at *
    generalize (Int.gcd x.2 (redD t b) : Int) = G' at *
    generalize (Int.gcd x.2 b : Int) = G at *
    generalize redN t b = t' at *
    generalize redD t b = b' at *
    generalize (Int.gcd t b : Int) = g at *
    have k2 : (G' * G) * (A' * B) = (G' * G) * (A * B') := by
      rw [show (G' * G) * (A' * B) = (G' * A') * (G * B) by ac_rfl, show (G' * G) * (A * B') = (G * A) * (G' * B') by ac_rfl, e1, e2, e3, e4, ← f1, ← f2]
      simp only [Int.add_mul, Int.mul_add]
      congr 1 <;> ac_rfl
    exact Int.eq_of_mul_eq_mul_left (by have := Int.mul_pos g1 g2; omega) k2
  obtain ⟨r1, r2⟩ := red_cross (aD_pos hx pb) (aD_pos hx hb) k
  unfold addF
  rw [r1, r2]
theorem red_bd {n d V : Int} (hd : 0 < d) (h : -(V * d) ≤ n ∧ n ≤ V * d) : -(V * redD n d) ≤ redN n d ∧ redN n d ≤ V * redD n d := by
  have g1 := g_pos (n := n) hd
  have e1 := rN_mul n d
  have e2 := rD_mul n d
  generalize redN n d = r at *
  generalize redD n d = q at *
  generalize (Int.gcd n d : Int) = G at *
  have e3 : G * (V * q) = V * d := by rw [← e2]; ac_rfl
  refine ⟨Int.le_of_mul_le_mul_left (a := G) ?_ g1, Int.le_of_mul_le_mul_left (a := G) ?_ g1⟩
  · rw [Int.mul_neg, e3, e1]; exact h.1
  · rw [e3, e1]; exact h.2
theorem add_bd {x1 x2 t b V v : Int} (hx : 0 < x2) (hb : 0 < b) (h1 : -(V * x2) ≤ x1 ∧ x1 ≤ V * x2) (h2 : -(v * b) ≤ t ∧ t ≤ v * b) : -((V + v) * addD x2 b) ≤ addN x1 x2 t b ∧ addN x1 x2 t b ≤ (V + v) * addD x2 b := by
  have g1 := g_pos (n := x2) hb
  have e1 := aN_mul x1 x2 t b
  have e2 := aD_mul x2 b
  generalize addN x1 x2 t b = A at *
  generalize addD x2 b = B at *
  generalize (Int.gcd x2 b : Int) = G at *
  have e3 : G * ((V + v) * B) = V * x2 * b + v * b * x2 := by
    rw [show G * ((V + v) * B) = (V + v) * (G * B) by ac_rfl, e2, Int.add_mul]; congr 1 <;> ac_rfl
  have a1 := Int.mul_le_mul_of_nonneg_right h1.1 (show (0 : Int) ≤ b by omega)
  have a2 := Int.mul_le_mul_of_nonneg_right h1.2 (show (0 : Int) ≤ b by omega)
  have a3 := Int.mul_le_mul_of_nonneg_right h2.1 (show (0 : Int) ≤ x2 by omega)
  have a4 := Int.mul_le_mul_of_nonneg_right h2.2 (show (0 : Int) ≤ x2 by omega)
  rw [Int.neg_mul] at a1 a3
  refine ⟨Int.le_of_mul_le_mul_left (a := G) ?_ g1, Int.le_of_mul_le_mul_left (a := G) ?_ g1⟩
  · rw [Int.mul_neg, e3, e1]; omega
  · rw [e3, e1]; omega
/-- a fold of fractions t l / b l over the layers c, each of them at most v l: its value, its denominator -/
def fB (c : Nat → Bool) (t b v : Nat → Int) (M : Int) : Prop := 0 < M ∧ (∀ l, l < 4 → c l = true → 0 < b l) ∧ (∀ l, l < 4 → c l = true → b l ∣ M) ∧ (∀ l, l < 4 → 0 ≤ v l) ∧ (∀ l, l < 4 → c l = true → -(v l * b l) ≤ t l ∧ t l ≤ v l * b l)
theorem fB.M0 {c : Nat → Bool} {t b v : Nat → Int} {M : Int} (h : fB c t b v M) : 0 < M := h.1
theorem fB.b0 {c : Nat → Bool} {t b v : Nat → Int} {M : Int} (h : fB c t b v M) : ∀ l, l < 4 → c l = true → 0 < b l := h.2.1
theorem fB.bM {c : Nat → Bool} {t b v : Nat → Int} {M : Int} (h : fB c t b v M) : ∀ l, l < 4 → c l = true → b l ∣ M := h.2.2.1
theorem fB.v0 {c : Nat → Bool} {t b v : Nat → Int} {M : Int} (h : fB c t b v M) : ∀ l, l < 4 → 0 ≤ v l := h.2.2.2.1
theorem fB.tv {c : Nat → Bool} {t b v : Nat → Int} {M : Int} (h : fB c t b v M) : ∀ l, l < 4 → c l = true → -(v l * b l) ≤ t l ∧ t l ≤ v l * b l := h.2.2.2.2
theorem v_mono {v : Nat → Int} (h : ∀ l, l < 4 → 0 ≤ v l) {n : Nat} (hn : n < 4) : 0 ≤ sumTo v 0 n ∧ 0 ≤ v n ∧ sumTo v 0 n + v n ≤ sumTo v 0 4 := by
  have h0 := h 0 (by omega)
  have h1 := h 1 (by omega)
  have h2 := h 2 (by omega)
  have h3 := h 3 (by omega)
  rcases (show n = 0 ∨ n = 1 ∨ n = 2 ∨ n = 3 by omega) with rfl | rfl | rfl | rfl <;> simp [sumTo] <;> omega
theorem fold_bd {c : Nat → Bool} {t b v : Nat → Int} {M : Int} (h : fB c t b v M) : ∀ n, n ≤ 4 → 0 < (foldF c t b n).2 ∧ (foldF c t b n).2 ∣ M ∧ -(sumTo v 0 n * (foldF c t b n).2) ≤ (foldF c t b n).1 ∧ (foldF c t b n).1 ≤ sumTo v 0 n * (foldF c t b n).2 := by
  intro n
  induction n with
  | zero => exact fun _ => ⟨by show (0 : Int) < 1; decide, ⟨M, (Int.one_mul M).symm⟩, by show -((0 : Int) * 1) ≤ 0; decide, by show (0 : Int) ≤ 0 * 1; decide⟩
  | succ n ih =>
    intro hn
    obtain ⟨i1, i2, i3, i4⟩ := ih (by omega)
    have vm := v_mono h.v0 (n := n) (by omega)
    have es : sumTo v 0 (n + 1) = sumTo v 0 n + v n := by rw [sumTo_s, Nat.zero_add]
    rw [es]
    by_cases q : c n = true
    · rw [foldF_y q rfl]
      have b0 := h.b0 n (by omega) q
      have bd := add_bd i1 b0 ⟨i3, i4⟩ (h.tv n (by omega) q)
      have dp := aD_pos i1 b0
      have dd := aD_dvd i1 b0 i2 (h.bM n (by omega) q)
      have rb := red_bd dp bd
      exact ⟨rD_pos dp, Int.dvd_trans (rD_dvd _ _) dd, rb.1, rb.2⟩
    · rw [foldF_n q]
      refine ⟨i1, i2, ?_, ?_⟩
      · have := Int.mul_nonneg vm.2.1 (show (0 : Int) ≤ (foldF c t b n).2 by omega)
        rw [Int.add_mul]; omega
      · have := Int.mul_nonneg vm.2.1 (show (0 : Int) ≤ (foldF c t b n).2 by omega)
        rw [Int.add_mul]; omega
theorem fold_red {c : Nat → Bool} {t b v : Nat → Int} {M : Int} (h : fB c t b v M) : ∀ n, n ≤ 4 → foldF c (rdN t b) (rdD t b) n = foldF c t b n := by
  intro n
  induction n with
  | zero => exact fun _ => rfl
  | succ n ih =>
    intro hn
    by_cases q : c n = true
    · show (if c n = true then addF (foldF c (rdN t b) (rdD t b) n) (rdN t b n) (rdD t b n) else _) = (if c n = true then addF (foldF c t b n) (t n) (b n) else _)
      rw [if_pos q, if_pos q, ih (by omega)]
      exact addF_red (fold_bd h n (by omega)).1 (h.b0 n (by omega) q)
    · rw [foldF_n q, foldF_n q, ih (by omega)]
theorem le_M {x M : Int} (h : x ∣ M) (hM : 0 < M) : x ≤ M := Int.le_of_dvd hM h
theorem bdM {A B V W M X : Int} (h : -(V * B) ≤ A ∧ A ≤ V * B) (hB : 0 ≤ B) (hB2 : B ≤ M) (hV : 0 ≤ V) (hW : V ≤ W) (hX : W * M ≤ X) : -X ≤ A ∧ A ≤ X := by
  have h1 : V * B ≤ W * M := Int.mul_le_mul hW hB2 hB (by omega)
  omega
theorem fold_ok {c : Nat → Bool} {t b v : Nat → Int} {M : Int} (h : fB c t b v M) (hM : M ≤ 9223372036854775807) (hV : sumTo v 0 4 * M ≤ 9223372036854775807) : foldOk c t b := by
  intro k hk q
  obtain ⟨i1, i2, i3, i4⟩ := fold_bd h k (by omega)
  have b0 := h.b0 k hk q
  have bM := h.bM k hk q
  have vm := v_mono h.v0 hk
  have dd := aD_dvd i1 b0 i2 bM
  have bd := bdM (add_bd i1 b0 ⟨i3, i4⟩ (h.tv k hk q)) (by have := aD_pos i1 b0; omega) (le_M dd h.M0) (by omega) vm.2.2 hV
  have l1 := le_M i2 h.M0
  have l2 := le_M bM h.M0
  have l3 := le_M dd h.M0
  exact ⟨⟨i1, by omega⟩, ⟨b0, by omega⟩, ⟨by omega, bd.2⟩, aD_pos i1 b0, by omega⟩
theorem fold_okR {c : Nat → Bool} {t b v : Nat → Int} {M : Int} (h : fB c t b v M) (hM : M ≤ 9223372036854775807) (hV : sumTo v 0 4 * M ≤ 9223372036854775807) : foldOkR c t b := by
  intro k hk q
  obtain ⟨i1, i2, i3, i4⟩ := fold_bd h k (by omega)
  have b0 := h.b0 k hk q
  have bM := h.bM k hk q
  have vm := v_mono h.v0 hk
  rw [fold_red h k (by omega)]
  have p := rD_pos (n := t k) b0
  have pM := Int.dvd_trans (rD_dvd (t k) (b k)) bM
  have dd := aD_dvd i1 p i2 pM
  have tv := h.tv k hk q
  have bd := bdM (add_bd i1 p ⟨i3, i4⟩ (red_bd b0 tv)) (by have := aD_pos i1 p; omega) (le_M dd h.M0) (by omega) vm.2.2 hV
  have l1 := le_M i2 h.M0
  have l2 := le_M bM h.M0
  have l3 := le_M dd h.M0
  have l4 := le_M pM h.M0
  have bt := bdM tv (by omega) l2 vm.2.1 (show v k ≤ sumTo v 0 4 by omega) hV
  exact ⟨⟨by omega, bt.2⟩, ⟨b0, by omega⟩, ⟨i1, by omega⟩, ⟨p, by omega⟩, ⟨by omega, bd.2⟩, aD_pos i1 p, by omega⟩
theorem fold_rr {c : Nat → Bool} {t b v : Nat → Int} {M : Int} (h : fB c t b v M) {n : Nat} (hn : n ≤ 4) : redN (foldF c t b n).1 (foldF c t b n).2 = (foldF c t b n).1 ∧ redD (foldF c t b n).1 (foldF c t b n).2 = (foldF c t b n).2 := by
  have key : ∀ n, n ≤ 4 → Int.gcd (foldF c t b n).1 (foldF c t b n).2 = 1 := by
    intro n
    induction n with
    | zero => exact fun _ => by show Int.gcd 0 1 = 1; decide
    | succ n ih =>
      intro hn
      by_cases q : c n = true
      · rw [foldF_y q rfl]
        exact r_cop (aD_pos (fold_bd h n (by omega)).1 (h.b0 n (by omega) q))
      · rw [foldF_n q]; exact ih (by omega)
  have e := key n hn
  unfold redN redD
  rw [e]; simp
-- four numbers
theorem four_p {a b c d : Int} (ha : 1 ≤ a) (hb : 1 ≤ b) (hc : 1 ≤ c) (hd : 1 ≤ d) (h : a + b + c + d ≤ 44) : 0 < a * b * (c * d) ∧ a * b * (c * d) ≤ 14641 := by
  have sq : ∀ x y : Int, 4 * (x * y) ≤ (x + y) * (x + y) := by
    intro x y
    have h1 : 0 ≤ (x - y) * (x - y) := by
      rcases (show 0 ≤ x - y ∨ x - y ≤ 0 by omega) with z | z
      · exact Int.mul_nonneg z z
      · exact Int.mul_nonneg_of_nonpos_of_nonpos z z
    have e1 : (x - y) * (x - y) = x * x - x * y - (y * x - y * y) := by rw [Int.sub_mul, Int.mul_sub, Int.mul_sub]
    have e2 : (x + y) * (x + y) = x * x + x * y + (y * x + y * y) := by rw [Int.add_mul, Int.mul_add, Int.mul_add]
    rw [e1] at h1
    rw [e2, Int.mul_comm y x] at *
    omega
  have p1 := Int.mul_pos (show 0 < a by omega) (show 0 < b by omega)
  have p2 := Int.mul_pos (show 0 < c by omega) (show 0 < d by omega)
  refine ⟨Int.mul_pos p1 p2, ?_⟩
  have q1 := sq a b
  have q2 := sq c d
  have q3 := sq (a + b) (c + d)
  have q4 : (a + b + (c + d)) * (a + b + (c + d)) ≤ 44 * 44 := Int.mul_self_le_mul_self (by omega) (by omega)
  generalize a * b = x at *
  generalize c * d = y at *
  have w : (a + b) * (c + d) ≤ 484 := by omega
  have w0 : 0 ≤ (a + b) * (c + d) := Int.mul_nonneg (by omega) (by omega)
  have r1 : (4 * x) * (4 * y) ≤ ((a + b) * (a + b)) * ((c + d) * (c + d)) := Int.mul_le_mul q1 q2 (by omega) (by omega)
  rw [show ((a + b) * (a + b)) * ((c + d) * (c + d)) = ((a + b) * (c + d)) * ((a + b) * (c + d)) by ac_rfl] at r1
  have r2 : ((a + b) * (c + d)) * ((a + b) * (c + d)) ≤ 484 * 484 := Int.mul_self_le_mul_self w0 w
  rw [show (4 * x) * (4 * y) = 16 * (x * y) by rw [show (16 : Int) = 4 * 4 from rfl]; ac_rfl] at r1
  omega
theorem four_d (m : Nat → Int) {l : Nat} (hl : l < 4) : m l ∣ m 0 * m 1 * (m 2 * m 3) := by
  rcases (show l = 0 ∨ l = 1 ∨ l = 2 ∨ l = 3 by omega) with rfl | rfl | rfl | rfl
  · exact Int.dvd_trans (Int.dvd_mul_right (m 0) (m 1)) (Int.dvd_mul_right _ _)
  · exact Int.dvd_trans (Int.dvd_mul_left (m 0) (m 1)) (Int.dvd_mul_right _ _)
  · exact Int.dvd_trans (Int.dvd_mul_right (m 2) (m 3)) (Int.dvd_mul_left _ _)
  · exact Int.dvd_trans (Int.dvd_mul_left (m 2) (m 3)) (Int.dvd_mul_left _ _)
-- the doubt's denominators
def dq (k : Nat) : Nat := if k < 2 then 1 else k * k * (k - 1)
def dL (a b c d : Nat) : Nat := Nat.lcm (Nat.lcm (dq a) (dq b)) (Nat.lcm (dq c) (dq d))
def dS (k : Nat) : Nat := if k < 2 then 1 else k
def dM (a b c d : Nat) : Nat := Nat.lcm ((Nat.lcm (Nat.lcm (dS a) (dS b)) (Nat.lcm (dS c) (dS d))) * (Nat.lcm (Nat.lcm (dS a) (dS b)) (Nat.lcm (dS c) (dS d)))) (dL a b c d)
def dN (k : Nat) : Nat := if k < 2 then k else k + 1
def dCk (a b c d : Nat) : Bool := Nat.ble (dL a b c d * (40 - (a + b + c + d))) 10000000000 && Nat.ble (dL a b c d) 10000000000 && (Nat.ble 41 (dN a + dN b + dN c + dN d) || Nat.ble (dM a b c d * (6400000000 + 640000000 * (40 - (a + b + c + d)))) 9223372036854775807)
def dAll : Bool := (List.range 41).all fun a => (List.range (41 - a)).all fun b => (List.range (41 - a - b)).all fun c => (List.range (41 - a - b - c)).all fun d => dCk a b c d
set_option maxRecDepth 100000 in
theorem dAll_ok : dAll = true := by decide +kernel
theorem dCk_ok {a b c d : Nat} (h : a + b + c + d ≤ 40) : dCk a b c d = true := by
  have h0 := dAll_ok
  unfold dAll at h0
  have h1 := List.all_eq_true.mp h0 a (List.mem_range.mpr (by omega))
  have h2 := List.all_eq_true.mp h1 b (List.mem_range.mpr (by omega))
  have h3 := List.all_eq_true.mp h2 c (List.mem_range.mpr (by omega))
  exact List.all_eq_true.mp h3 d (List.mem_range.mpr (by omega))
