-- what the public calls need of the folds
theorem add_s {x : Int × Int} {t b : Int} (hx : 0 < x.2) (hb : 0 < b) : 0 < (addF x t b).1 ↔ 0 < x.1 * b + t * x.2 := by
  have g1 := g_pos (n := x.2) hb
  have e1 := aN_mul x.1 x.2 t b
  have dp := aD_pos hx hb
  have g2 := g_pos (n := addN x.1 x.2 t b) dp
  have e2 := rN_mul (addN x.1 x.2 t b) (addD x.2 b)
  show 0 < redN (addN x.1 x.2 t b) (addD x.2 b) ↔ _
  rw [← e1]
  generalize redN (addN x.1 x.2 t b) (addD x.2 b) = r at *
  generalize (Int.gcd (addN x.1 x.2 t b) (addD x.2 b) : Int) = G at *
  generalize (Int.gcd x.2 b : Int) = g at *
  rw [← e2]
  exact ⟨fun h => Int.mul_pos g1 (Int.mul_pos g2 h), fun h => pos_of g2 (pos_of g1 h)⟩
theorem nn_of {g q : Int} (hg : 0 < g) (h : 0 ≤ g * q) : 0 ≤ q := by
  rcases (show q < 0 ∨ 0 ≤ q by omega) with z | z
  · have h1 : g * q < g * 0 := Int.mul_lt_mul_of_pos_left z hg
    rw [Int.mul_zero] at h1
    omega
  · exact z
theorem fold_nn {c : Nat → Bool} {t b v : Nat → Int} {M : Int} (h : fB c t b v M) (ht : ∀ l, l < 4 → c l = true → 0 ≤ t l) : ∀ n, n ≤ 4 → 0 ≤ (foldF c t b n).1 := by
  intro n
  induction n with
  | zero => exact fun _ => Int.le_refl _
  | succ n ih =>
    intro hn
    by_cases q : c n = true
    · rw [foldF_y q rfl]
      have i := fold_bd h n (by omega)
      have b0 := h.b0 n (by omega) q
      have e1 := aN_mul (foldF c t b n).1 (foldF c t b n).2 (t n) (b n)
      have p1 := Int.mul_nonneg (ih (by omega)) (show (0 : Int) ≤ b n by omega)
      have p2 := Int.mul_nonneg (ht n (by omega) q) (show (0 : Int) ≤ (foldF c t b n).2 by omega)
      have a0 : 0 ≤ addN (foldF c t b n).1 (foldF c t b n).2 (t n) (b n) := nn_of (g_pos (n := (foldF c t b n).2) b0) (by rw [e1]; omega)
      exact nn_of (g_pos (n := addN (foldF c t b n).1 (foldF c t b n).2 (t n) (b n)) (aD_pos i.1 b0)) (by rw [rN_mul]; exact a0)
    · rw [foldF_n q]; exact ih (by omega)
theorem rD_one {n d : Int} (hd : 0 < d) (h : d ∣ n) : redD n d = 1 := by
  unfold redD
  rw [Int.gcd_eq_right (by omega) h]
  exact Int.ediv_self (by omega)
theorem s4 (v : Nat → Int) : sumTo v 0 4 = v 0 + v 1 + v 2 + v 3 := by simp [sumTo]
/-- a fold over the reduced, with another common denominator -/
theorem fold_dv {c : Nat → Bool} {t b v : Nat → Int} {M M2 : Int} (h : fB c t b v M) (hM : 0 < M2) (hd : ∀ l, l < 4 → c l = true → redD (t l) (b l) ∣ M2) : (foldF c t b 4).2 ∣ M2 := by
  have h2 : fB c (rdN t b) (rdD t b) v M2 := ⟨hM, fun l hl q => rD_pos (h.b0 l hl q), hd, h.v0, fun l hl q => red_bd (h.b0 l hl q) (h.tv l hl q)⟩
  rw [← fold_red h 4 (Nat.le_refl 4)]
  exact (fold_bd h2 4 (Nat.le_refl 4)).2.1
theorem sum_all {fH K T S : Nat → Int} (hH : ∀ l, l < 4 → 0 ≤ fH l) (hS : fH 0 + fH 1 + fH 2 + fH 3 ≤ 40) (h : tB fH K T S) : sumOk fH K T ∧ foldOkR (sumC fH K 0) (sumT fH T) K ∧ foldF (sumC fH K 0) (rdN (sumT fH T) K) (rdD (sumT fH T) K) 4 = sumX fH K T ∧ (redN (sumX fH K T).1 (sumX fH K T).2 = (sumX fH K T).1 ∧ redD (sumX fH K T).1 (sumX fH K T).2 = (sumX fH K T).2) ∧ (0 < (sumX fH K T).2 ∧ (sumX fH K T).2 ≤ 14641 ∧ -(80000 * (sumX fH K T).2) ≤ (sumX fH K T).1 ∧ (sumX fH K T).1 ≤ 80000 * (sumX fH K T).2) := by
  have f := sum_fB (m := 0) (Int.le_refl 0) hH hS h
  have m := mx1_b (K := K) hS (fun l hl => ⟨hH l hl, (h.1 l hl).2⟩)
  have e4 : sumTo (fun l => 2000 * fH l) 0 4 = 2000 * fH 0 + 2000 * fH 1 + 2000 * fH 2 + 2000 * fH 3 := s4 _
  have h0 := hH 0 (by omega)
  have h1 := hH 1 (by omega)
  have h2 := hH 2 (by omega)
  have h3 := hH 3 (by omega)
  have V : 0 ≤ sumTo (fun l => 2000 * fH l) 0 4 ∧ sumTo (fun l => 2000 * fH l) 0 4 ≤ 80000 := by rw [e4]; omega
  have VM : sumTo (fun l => 2000 * fH l) 0 4 * (mx1 K 0 * mx1 K 1 * (mx1 K 2 * mx1 K 3)) ≤ 9223372036854775807 := by
    have := Int.mul_le_mul V.2 m.2 (by omega) (by decide)
    omega
  have b := fold_bd f 4 (Nat.le_refl 4)
  refine ⟨fold_ok f (by omega) VM, fold_okR f (by omega) VM, fold_red f 4 (Nat.le_refl 4), fold_rr f (Nat.le_refl 4), b.1, Int.le_trans (le_M b.2.1 m.1) m.2, ?_, ?_⟩
  · have := Int.mul_le_mul_of_nonneg_right V.2 (show (0 : Int) ≤ (sumX fH K T).2 by have := b.1; unfold sumX; omega)
    have := b.2.2.1
    unfold sumX at *
    omega
  · have := Int.mul_le_mul_of_nonneg_right V.2 (show (0 : Int) ≤ (sumX fH K T).2 by have := b.1; unfold sumX; omega)
    have := b.2.2.2
    unfold sumX at *
    omega
theorem wor_all {fH fT T U : Nat → Int} {hi : Bool} (hH : ∀ l, l < 4 → 0 ≤ fH l) (hS : fH 0 + fH 1 + fH 2 + fH 3 ≤ 40) (hT : ∀ l, l < 4 → 0 < fH l → 1 ≤ fT l ∧ fT l ≤ fH l) (hw : ∀ l, l < 4 → 0 ≤ T l + (if hi = true then U l else 0) ∧ T l + (if hi = true then U l else 0) ≤ 160000) : worOk fH fT T U hi ∧ foldOkR (worC fH) (worT fH T U hi) fT ∧ foldF (worC fH) (rdN (worT fH T U hi) fT) (rdD (worT fH T U hi) fT) 4 = worX fH fT T U hi ∧ (redN (worX fH fT T U hi).1 (worX fH fT T U hi).2 = (worX fH fT T U hi).1 ∧ redD (worX fH fT T U hi).1 (worX fH fT T U hi).2 = (worX fH fT T U hi).2) ∧ (0 < (worX fH fT T U hi).2 ∧ (worX fH fT T U hi).2 ∣ (mx1 (fun l => if 0 < fH l then fT l else 0) 0 * mx1 (fun l => if 0 < fH l then fT l else 0) 1 * (mx1 (fun l => if 0 < fH l then fT l else 0) 2 * mx1 (fun l => if 0 < fH l then fT l else 0) 3)) ∧ -(6400000 * (worX fH fT T U hi).2) ≤ (worX fH fT T U hi).1 ∧ (worX fH fT T U hi).1 ≤ 6400000 * (worX fH fT T U hi).2) ∧ 0 < (mx1 (fun l => if 0 < fH l then fT l else 0) 0 * mx1 (fun l => if 0 < fH l then fT l else 0) 1 * (mx1 (fun l => if 0 < fH l then fT l else 0) 2 * mx1 (fun l => if 0 < fH l then fT l else 0) 3)) ∧ (mx1 (fun l => if 0 < fH l then fT l else 0) 0 * mx1 (fun l => if 0 < fH l then fT l else 0) 1 * (mx1 (fun l => if 0 < fH l then fT l else 0) 2 * mx1 (fun l => if 0 < fH l then fT l else 0) 3)) ≤ 14641 := by
  have f := wor_fB hH hS hT hw
  have m := mx1_b (K := fun l => if 0 < fH l then fT l else 0) hS (fun l hl => ⟨hH l hl, by
    show (if 0 < fH l then fT l else 0) ≤ fH l
    split
    · next z => exact (hT l hl z).2
    · exact hH l hl⟩)
  generalize mx1 (fun l => if 0 < fH l then fT l else 0) 0 * mx1 (fun l => if 0 < fH l then fT l else 0) 1 * (mx1 (fun l => if 0 < fH l then fT l else 0) 2 * mx1 (fun l => if 0 < fH l then fT l else 0) 3) = P at *
  have e4 : sumTo (fun l => 160000 * fH l) 0 4 = 160000 * fH 0 + 160000 * fH 1 + 160000 * fH 2 + 160000 * fH 3 := s4 _
  have h0 := hH 0 (by omega)
  have h1 := hH 1 (by omega)
  have h2 := hH 2 (by omega)
  have h3 := hH 3 (by omega)
  have V : 0 ≤ sumTo (fun l => 160000 * fH l) 0 4 ∧ sumTo (fun l => 160000 * fH l) 0 4 ≤ 6400000 := by rw [e4]; omega
  have VM : sumTo (fun l => 160000 * fH l) 0 4 * P ≤ 9223372036854775807 := by
    have := Int.mul_le_mul V.2 m.2 (by omega) (by decide)
    omega
  have b := fold_bd f 4 (Nat.le_refl 4)
  refine ⟨fold_ok f (by omega) VM, fold_okR f (by omega) VM, fold_red f 4 (Nat.le_refl 4), fold_rr f (Nat.le_refl 4), ⟨b.1, b.2.1, ?_, ?_⟩, m.1, m.2⟩
  · have := Int.mul_le_mul_of_nonneg_right V.2 (show (0 : Int) ≤ (worX fH fT T U hi).2 by have := b.1; unfold worX; omega)
    have := b.2.2.1
    unfold worX at *
    omega
  · have := Int.mul_le_mul_of_nonneg_right V.2 (show (0 : Int) ≤ (worX fH fT T U hi).2 by have := b.1; unfold worX; omega)
    have := b.2.2.2
    unfold worX at *
    omega
theorem dou_all {fH K T S : Nat → Int} (hH : ∀ l, l < 4 → 0 ≤ fH l) (hS : fH 0 + fH 1 + fH 2 + fH 3 ≤ 40) (h : tB fH K T S) : douOk fH K T S ∧ foldOkR (sumC fH K 1) (douT fH K T S) (douB K) ∧ foldF (sumC fH K 1) (rdN (douT fH K T S) (douB K)) (rdD (douT fH K T S) (douB K)) 4 = douX fH K T S ∧ (redN (douX fH K T S).1 (douX fH K T S).2 = (douX fH K T S).1 ∧ redD (douX fH K T S).1 (douX fH K T S).2 = (douX fH K T S).2) ∧ (0 < (douX fH K T S).2 ∧ (douX fH K T S).2 ≤ 10000000000 ∧ 0 ≤ (douX fH K T S).1 ∧ (douX fH K T S).1 ≤ 160000000 * (fH 0 - K 0 + (fH 1 - K 1) + (fH 2 - K 2) + (fH 3 - K 3)) * (douX fH K T S).2 ∧ (douX fH K T S).1 ≤ 1600000000000000000) := by
  have h0 := hH 0 (by omega)
  have h1 := hH 1 (by omega)
  have h2 := hH 2 (by omega)
  have h3 := hH 3 (by omega)
  have f := dou_fB (fun l hl => ⟨hH l hl, by rcases (show l = 0 ∨ l = 1 ∨ l = 2 ∨ l = 3 by omega) with rfl | rfl | rfl | rfl <;> omega⟩) h
  have k0 := h.1 0 (by omega)
  have k1 := h.1 1 (by omega)
  have k2 := h.1 2 (by omega)
  have k3 := h.1 3 (by omega)
  have ck := dCk_ok (a := kN K 0) (b := kN K 1) (c := kN K 2) (d := kN K 3) (by unfold kN; omega)
  unfold dCk at ck
  simp only [Bool.and_eq_true] at ck
  have c1 := Nat.le_of_ble_eq_true ck.1.1
  have c2 := Nat.le_of_ble_eq_true ck.1.2
  have e4 : sumTo (fun l => 160000000 * (fH l - K l)) 0 4 = 160000000 * (fH 0 - K 0) + 160000000 * (fH 1 - K 1) + 160000000 * (fH 2 - K 2) + 160000000 * (fH 3 - K 3) := s4 _
  have sl : ∃ s : Nat, s = 40 - (kN K 0 + kN K 1 + kN K 2 + kN K 3) := ⟨_, rfl⟩
  obtain ⟨s, es⟩ := sl
  rw [← es] at c1
  have V : 0 ≤ sumTo (fun l => 160000000 * (fH l - K l)) 0 4 ∧ sumTo (fun l => 160000000 * (fH l - K l)) 0 4 ≤ 160000000 * (s : Int) := by
    rw [e4]; unfold kN at es; omega
  have D0 : (0 : Int) < ((dL (kN K 0) (kN K 1) (kN K 2) (kN K 3) : Nat) : Int) := f.M0
  have c1' : ((dL (kN K 0) (kN K 1) (kN K 2) (kN K 3) : Nat) : Int) * (s : Int) ≤ 10000000000 := by
    have : ((dL (kN K 0) (kN K 1) (kN K 2) (kN K 3) * s : Nat) : Int) ≤ 10000000000 := by omega
    rwa [Int.natCast_mul] at this
  have c2' : ((dL (kN K 0) (kN K 1) (kN K 2) (kN K 3) : Nat) : Int) ≤ 10000000000 := by omega
  generalize ((dL (kN K 0) (kN K 1) (kN K 2) (kN K 3) : Nat) : Int) = M at *
  have VM : sumTo (fun l => 160000000 * (fH l - K l)) 0 4 * M ≤ 1600000000000000000 := by
    have a1 := Int.mul_le_mul_of_nonneg_right V.2 (show (0 : Int) ≤ M by omega)
    rw [show 160000000 * (s : Int) * M = 160000000 * (M * (s : Int)) by ac_rfl] at a1
    omega
  have b := fold_bd f 4 (Nat.le_refl 4)
  have bM := le_M b.2.1 D0
  have nn := fold_nn f (fun l hl q => by
    unfold douT
    have hk := h.1 l hl
    exact Int.mul_nonneg (Int.mul_nonneg (hH l hl) (by omega)) (h.2.2 l hl).1) 4 (Nat.le_refl 4)
  refine ⟨fold_ok f (by omega) (by omega), fold_okR f (by omega) (by omega), fold_red f 4 (Nat.le_refl 4), fold_rr f (Nat.le_refl 4), b.1, Int.le_trans bM c2', nn, ?_, ?_⟩
  · have e5 : sumTo (fun l => 160000000 * (fH l - K l)) 0 4 = 160000000 * (fH 0 - K 0 + (fH 1 - K 1) + (fH 2 - K 2) + (fH 3 - K 3)) := by rw [e4]; omega
    rw [← e5]; exact b.2.2.2
  · exact (bdM ⟨b.2.2.1, b.2.2.2⟩ (Int.le_of_lt b.1) bM V.1 (Int.le_refl _) VM).2
-- who is ahead
def kS (fH K : Nat → Int) (l : Nat) : Nat := if K l < fH l then (K l).toNat else 0
theorem dM_L (a b c d : Nat) : (Nat.lcm (Nat.lcm (dS a) (dS b)) (Nat.lcm (dS c) (dS d))) * (Nat.lcm (Nat.lcm (dS a) (dS b)) (Nat.lcm (dS c) (dS d))) ∣ dM a b c d := Nat.dvd_lcm_left _ _
theorem dM_D (a b c d : Nat) : dL a b c d ∣ dM a b c d := Nat.dvd_lcm_right _ _
theorem dS_p (k : Nat) : 0 < dS k := by unfold dS; split <;> omega
theorem dS_d (k : Nat → Nat) {l : Nat} (hl : l < 4) : dS (k l) ∣ Nat.lcm (Nat.lcm (dS (k 0)) (dS (k 1))) (Nat.lcm (dS (k 2)) (dS (k 3))) := by
  rcases (show l = 0 ∨ l = 1 ∨ l = 2 ∨ l = 3 by omega) with rfl | rfl | rfl | rfl
  · exact Nat.dvd_trans (Nat.dvd_lcm_left _ _) (Nat.dvd_lcm_left _ _)
  · exact Nat.dvd_trans (Nat.dvd_lcm_right _ _) (Nat.dvd_lcm_left _ _)
  · exact Nat.dvd_trans (Nat.dvd_lcm_left _ _) (Nat.dvd_lcm_right _ _)
  · exact Nat.dvd_trans (Nat.dvd_lcm_right _ _) (Nat.dvd_lcm_right _ _)
theorem ahd_all {fH K T S : Nat → Int} (hH : ∀ l, l < 4 → 0 ≤ fH l) (hS : fH 0 + fH 1 + fH 2 + fH 3 ≤ 40) (h : tB fH K T S) (he : ∀ l, l < 4 → 0 < fH l → 2 ≤ K l) : ahdOk (sumX fH K T) (douX fH K T S) := by
  intro _
  have h0 := hH 0 (by omega)
  have h1 := hH 1 (by omega)
  have h2 := hH 2 (by omega)
  have h3 := hH 3 (by omega)
  have k0 := h.1 0 (by omega)
  have k1 := h.1 1 (by omega)
  have k2 := h.1 2 (by omega)
  have k3 := h.1 3 (by omega)
  have sa := (sum_all hH hS h).2.2.2.2
  have da := (dou_all hH hS h).2.2.2.2
  have fs := sum_fB (m := 0) (Int.le_refl 0) hH hS h
  have fd := dou_fB (fun l hl => ⟨hH l hl, by rcases (show l = 0 ∨ l = 1 ∨ l = 2 ∨ l = 3 by omega) with rfl | rfl | rfl | rfl <;> omega⟩) h
  have ks : ∀ l, l < 4 → ((kS fH K l : Nat) : Int) ≤ K l ∧ ((dN (kS fH K l) : Nat) : Int) ≤ fH l ∧ fH l - K l ≤ fH l - ((kS fH K l : Nat) : Int) ∧ (¬ K l < fH l → fH l = K l) := by
    intro l hl
    have hk := h.1 l hl
    unfold kS dN
    split
    · split <;> omega
    · simp; omega
  have s0 := ks 0 (by omega)
  have s1 := ks 1 (by omega)
  have s2 := ks 2 (by omega)
  have s3 := ks 3 (by omega)
  have ck := dCk_ok (a := kS fH K 0) (b := kS fH K 1) (c := kS fH K 2) (d := kS fH K 3) (by omega)
  unfold dCk at ck
  simp only [Bool.and_eq_true, Bool.or_eq_true] at ck
  have c3 : dM (kS fH K 0) (kS fH K 1) (kS fH K 2) (kS fH K 3) * (6400000000 + 640000000 * (40 - (kS fH K 0 + kS fH K 1 + kS fH K 2 + kS fH K 3))) ≤ 9223372036854775807 := by
    rcases ck.2 with q | q
    · have := Nat.le_of_ble_eq_true q; omega
    · exact Nat.le_of_ble_eq_true q
  -- the denominators
  have dvS : (sumX fH K T).2 ∣ ((Nat.lcm (Nat.lcm (dS (kS fH K 0)) (dS (kS fH K 1))) (Nat.lcm (dS (kS fH K 2)) (dS (kS fH K 3))) : Nat) : Int) := by
    refine fold_dv fs ?_ (fun l hl q => ?_)
    · have := Nat.lcm_pos (Nat.lcm_pos (dS_p (kS fH K 0)) (dS_p (kS fH K 1))) (Nat.lcm_pos (dS_p (kS fH K 2)) (dS_p (kS fH K 3)))
      omega
    · have b0 := fs.b0 l hl q
      have hk := h.1 l hl
      by_cases z : K l < fH l
      · have e2 := he l hl (by omega)
        have e : K l = ((dS (kS fH K l) : Nat) : Int) := by unfold kS dS; rw [if_pos z, if_neg (by omega)]; omega
        refine Int.dvd_trans (rD_dvd _ _) ?_
        rw [e]; exact Int.ofNat_dvd.mpr (dS_d (kS fH K) hl)
      · have e : fH l = K l := by omega
        have : redD (sumT fH T l) (K l) = 1 := rD_one b0 (by unfold sumT; rw [e]; exact Int.dvd_mul_right _ _)
        rw [this]; exact Int.one_dvd _
  have dvD : (douX fH K T S).2 ∣ ((dL (kS fH K 0) (kS fH K 1) (kS fH K 2) (kS fH K 3) : Nat) : Int) := by
    refine fold_dv fd ?_ (fun l hl q => ?_)
    · have := dL_p (kS fH K 0) (kS fH K 1) (kS fH K 2) (kS fH K 3); omega
    · have b0 := fd.b0 l hl q
      have hk := h.1 l hl
      have c0 : 1 < K l := by unfold sumC at q; simp only [Bool.and_eq_true, decide_eq_true_eq] at q; omega
      by_cases z : K l < fH l
      · have e : douB K l = ((dq (kS fH K l) : Nat) : Int) := by unfold kS; rw [if_pos z]; exact (dq_i c0).symm
        refine Int.dvd_trans (rD_dvd _ _) ?_
        rw [e]; exact Int.ofNat_dvd.mpr (dL_d (kS fH K) hl)
      · have e : fH l = K l := by omega
        have : redD (douT fH K T S l) (douB K l) = 1 := rD_one b0 (by unfold douT; rw [e, Int.sub_self, Int.mul_zero, Int.zero_mul]; exact Int.dvd_zero _)
        rw [this]; exact Int.one_dvd _
  have M0 : (0 : Int) < ((dM (kS fH K 0) (kS fH K 1) (kS fH K 2) (kS fH K 3) : Nat) : Int) := by
    have : 0 < dM (kS fH K 0) (kS fH K 1) (kS fH K 2) (kS fH K 3) := Nat.lcm_pos (Nat.mul_pos (Nat.lcm_pos (Nat.lcm_pos (dS_p _) (dS_p _)) (Nat.lcm_pos (dS_p _) (dS_p _))) (Nat.lcm_pos (Nat.lcm_pos (dS_p _) (dS_p _)) (Nat.lcm_pos (dS_p _) (dS_p _)))) (dL_p _ _ _ _)
    omega
  have d1 : (sumX fH K T).2 * (sumX fH K T).2 ∣ ((dM (kS fH K 0) (kS fH K 1) (kS fH K 2) (kS fH K 3) : Nat) : Int) := by
    refine Int.dvd_trans (Int.mul_dvd_mul dvS dvS) ?_
    rw [← Int.natCast_mul]; exact Int.ofNat_dvd.mpr (dM_L _ _ _ _)
  have d2 : (douX fH K T S).2 ∣ ((dM (kS fH K 0) (kS fH K 1) (kS fH K 2) (kS fH K 3) : Nat) : Int) := Int.dvd_trans dvD (Int.ofNat_dvd.mpr (dM_D _ _ _ _))
  have c4 : (6400000000 + 4 * (160000000 * (fH 0 - K 0 + (fH 1 - K 1) + (fH 2 - K 2) + (fH 3 - K 3)))) * ((dM (kS fH K 0) (kS fH K 1) (kS fH K 2) (kS fH K 3) : Nat) : Int) ≤ 9223372036854775807 := by
    have w : 6400000000 + 4 * (160000000 * (fH 0 - K 0 + (fH 1 - K 1) + (fH 2 - K 2) + (fH 3 - K 3))) ≤ ((6400000000 + 640000000 * (40 - (kS fH K 0 + kS fH K 1 + kS fH K 2 + kS fH K 3)) : Nat) : Int) := by
      have t0 := s0.2.2.2; have t1 := s1.2.2.2; have t2 := s2.2.2.2; have t3 := s3.2.2.2
      omega
    have a1 := Int.mul_le_mul_of_nonneg_right w (show (0 : Int) ≤ ((dM (kS fH K 0) (kS fH K 1) (kS fH K 2) (kS fH K 3) : Nat) : Int) by omega)
    have a2 : (((6400000000 + 640000000 * (40 - (kS fH K 0 + kS fH K 1 + kS fH K 2 + kS fH K 3)) : Nat) : Int)) * ((dM (kS fH K 0) (kS fH K 1) (kS fH K 2) (kS fH K 3) : Nat) : Int) ≤ 9223372036854775807 := by
      rw [← Int.natCast_mul, Nat.mul_comm]; omega
    omega
  have mM : ((dM (kS fH K 0) (kS fH K 1) (kS fH K 2) (kS fH K 3) : Nat) : Int) ≤ 9223372036854775807 := by
    have a1 := Int.mul_le_mul_of_nonneg_right (show (1 : Int) ≤ 6400000000 + 4 * (160000000 * (fH 0 - K 0 + (fH 1 - K 1) + (fH 2 - K 2) + (fH 3 - K 3))) by omega) (show (0 : Int) ≤ ((dM (kS fH K 0) (kS fH K 1) (kS fH K 2) (kS fH K 3) : Nat) : Int) by omega)
    rw [Int.one_mul] at a1
    omega
  have vs : 0 ≤ 160000000 * (fH 0 - K 0 + (fH 1 - K 1) + (fH 2 - K 2) + (fH 3 - K 3)) := by omega
  generalize ((dM (kS fH K 0) (kS fH K 1) (kS fH K 2) (kS fH K 3) : Nat) : Int) = M at *
  generalize 160000000 * (fH 0 - K 0 + (fH 1 - K 1) + (fH 2 - K 2) + (fH 3 - K 3)) = VD at *
  generalize sumX fH K T = X at *
  generalize douX fH K T S = D at *
  clear fs fd h he ck c3 ks s0 s1 s2 s3 dvS dvD
  -- squares
  have x1 : -1171280000 ≤ X.1 ∧ X.1 ≤ 1171280000 := by omega
  have q1 : X.1 * X.1 ≤ 1171280000 * 1171280000 := by
    rcases (show 0 ≤ X.1 ∨ X.1 ≤ 0 by omega) with z | z
    · exact Int.mul_self_le_mul_self z x1.2
    · have := Int.mul_self_le_mul_self (show 0 ≤ -X.1 by omega) (show -X.1 ≤ 1171280000 by omega)
      rwa [Int.neg_mul_neg] at this
  have q2 : X.2 * X.2 ≤ 14641 * 14641 := Int.mul_self_le_mul_self (by omega) sa.2.1
  have q3 : 0 < X.2 * X.2 := Int.mul_pos sa.1 sa.1
  have q4 : X.1 * X.1 ≤ 6400000000 * (X.2 * X.2) := by
    have e : 80000 * X.2 * (80000 * X.2) = 6400000000 * (X.2 * X.2) := by rw [show (6400000000 : Int) = 80000 * 80000 from rfl]; ac_rfl
    rw [← e]
    rcases (show 0 ≤ X.1 ∨ X.1 ≤ 0 by omega) with z | z
    · exact Int.mul_self_le_mul_self z sa.2.2.2
    · have := Int.mul_self_le_mul_self (show 0 ≤ -X.1 by omega) (show -X.1 ≤ 80000 * X.2 by omega)
      rwa [Int.neg_mul_neg] at this
  have q5 := sq_nn X.1
  have rb := red_bd (V := 6400000000) q3 ⟨by omega, q4⟩
  have rp := rD_pos (n := X.1 * X.1) q3
  have rd := Int.dvd_trans (rD_dvd (X.1 * X.1) (X.2 * X.2)) d1
  refine ⟨⟨by omega, by omega⟩, ⟨rp, Int.le_trans (le_M rd M0) mM⟩, ⟨da.1, Int.le_trans (le_M d2 M0) mM⟩, ?_, aD_pos rp da.1, Int.le_trans (le_M (aD_dvd rp da.1 rd d2) M0) mM⟩
  have tb : -(4 * VD * D.2) ≤ -4 * D.1 ∧ -4 * D.1 ≤ 4 * VD * D.2 := by
    have := da.2.2.2.1
    have n0 := da.2.2.1
    have e : 4 * VD * D.2 = 4 * (VD * D.2) := Int.mul_assoc _ _ _
    rw [e]; omega
  have ab := bdM (add_bd rp da.1 rb tb) (Int.le_of_lt (aD_pos rp da.1)) (le_M (aD_dvd rp da.1 rd d2) M0) (by omega) (Int.le_refl _) c4
  exact ⟨by have := ab.1; show -9223372036854775808 < addN (redN (X.1 * X.1) (X.2 * X.2)) (redD (X.1 * X.1) (X.2 * X.2)) (-4 * D.1) D.2; omega, ab.2⟩
theorem ahead_eq {S D L U : Int × Int} (hS : 0 < S.2) (hD : 0 < D.2) (hL : 0 < L.2) (hU : 0 < U.2) : ahR S D L U = ahead2 S D L U := by
  have e1 : 0 < (ahdF S D).1 ↔ S.2 * S.2 * D.1 * 4 < S.1 * S.1 * D.2 := by
    have q3 : 0 < S.2 * S.2 := Int.mul_pos hS hS
    have g := g_pos (n := S.1 * S.1) q3
    have r1 := rN_mul (S.1 * S.1) (S.2 * S.2)
    have r2 := rD_mul (S.1 * S.1) (S.2 * S.2)
    have rp := rD_pos (n := S.1 * S.1) q3
    unfold ahdF
    rw [add_s (x := sqF S) (by exact rp) hD]
    show 0 < redN (S.1 * S.1) (S.2 * S.2) * D.2 + -4 * D.1 * redD (S.1 * S.1) (S.2 * S.2) ↔ _
    generalize S.1 * S.1 = u at *
    generalize S.2 * S.2 = w at *
    generalize redN u w = a at *
    generalize redD u w = b at *
    generalize (Int.gcd u w : Int) = G at *
    subst r1
    subst r2
    have e : G * (a * D.2 + -4 * D.1 * b) = G * a * D.2 - G * b * D.1 * 4 := by
      rw [Int.mul_add, show G * (a * D.2) = G * a * D.2 by ac_rfl, show G * (-4 * D.1 * b) = G * b * D.1 * (-4) by ac_rfl]; omega
    constructor
    · intro z
      have := Int.mul_pos g z
      rw [e] at this; omega
    · intro z
      exact pos_of g (by rw [e]; omega)
  have e2 : 0 < (lowF L U).1 ↔ U.1 * L.2 < L.1 * U.2 := by
    unfold lowF
    rw [add_s hL hU, Int.neg_mul]; omega
  unfold ahR ahead2
  simp only [e1, e2]
theorem low_ok {fH fT T U T' U' : Nat → Int} {hi hi' : Bool} (hH : ∀ l, l < 4 → 0 ≤ fH l) (hS : fH 0 + fH 1 + fH 2 + fH 3 ≤ 40) (hT : ∀ l, l < 4 → 0 < fH l → 1 ≤ fT l ∧ fT l ≤ fH l) (hw : ∀ l, l < 4 → 0 ≤ T l + (if hi = true then U l else 0) ∧ T l + (if hi = true then U l else 0) ≤ 160000) (hw' : ∀ l, l < 4 → 0 ≤ T' l + (if hi' = true then U' l else 0) ∧ T' l + (if hi' = true then U' l else 0) ≤ 160000) : addOk (worX fH fT T U hi) (-(worX fH fT T' U' hi').1) (worX fH fT T' U' hi').2 ∧ (-9223372036854775808 ≤ (worX fH fT T U hi).1 * (worX fH fT T' U' hi').2 ∧ (worX fH fT T U hi).1 * (worX fH fT T' U' hi').2 ≤ 9223372036854775807) ∧ (-9223372036854775808 ≤ (worX fH fT T' U' hi').1 * (worX fH fT T U hi).2 ∧ (worX fH fT T' U' hi').1 * (worX fH fT T U hi).2 ≤ 9223372036854775807) := by
  obtain ⟨-, -, -, -, ⟨a1, a2, a3, a4⟩, m0, m1⟩ := wor_all hH hS hT hw
  obtain ⟨-, -, -, -, ⟨b1, b2, b3, b4⟩, -, -⟩ := wor_all hH hS hT hw'
  generalize worX fH fT T U hi = L at *
  generalize worX fH fT T' U' hi' = V at *
  generalize mx1 (fun l => if 0 < fH l then fT l else 0) 0 * mx1 (fun l => if 0 < fH l then fT l else 0) 1 * (mx1 (fun l => if 0 < fH l then fT l else 0) 2 * mx1 (fun l => if 0 < fH l then fT l else 0) 3) = P at *
  have l1 := le_M a2 m0
  have l2 := le_M b2 m0
  have dd := aD_dvd a1 b1 a2 b2
  have l3 := le_M dd m0
  have ab := bdM (add_bd a1 b1 ⟨a3, a4⟩ (t := -V.1) (v := 6400000) ⟨by omega, by omega⟩) (Int.le_of_lt (aD_pos a1 b1)) l3 (by decide) (Int.le_refl _) (X := 9223372036854775807) (by omega)
  have pr : ∀ x y : Int, -93702400000 ≤ x ∧ x ≤ 93702400000 → 0 < y ∧ y ≤ 14641 → -9223372036854775808 ≤ x * y ∧ x * y ≤ 9223372036854775807 := by
    intro x y hx hy
    have h1 := Int.mul_le_mul_of_nonneg_right hx.1 (show (0 : Int) ≤ y by omega)
    have h2 := Int.mul_le_mul_of_nonneg_right hx.2 (show (0 : Int) ≤ y by omega)
    omega
  exact ⟨⟨⟨a1, by omega⟩, ⟨b1, by omega⟩, ⟨by omega, ab.2⟩, aD_pos a1 b1, by omega⟩, pr _ _ (by omega) ⟨b1, by omega⟩, pr _ _ (by omega) ⟨a1, by omega⟩⟩
-- the margin's root
theorem up_div {n d : Int} (hd : 0 < d) : (n + d - 1) / d = n / d + (if 0 < n % d then 1 else 0) := by
  have e := Int.mul_ediv_add_emod n d
  have r0 := Int.emod_nonneg n (show d ≠ 0 by omega)
  have r1 := Int.emod_lt_of_pos n hd
  generalize n / d = q at *
  generalize n % d = r at *
  have key : ∀ z : Int, z * d ≤ n + d - 1 → n + d - 1 < (z + 1) * d → (n + d - 1) / d = z := by
    intro z h1 h2
    have a1 := (Int.le_ediv_iff_mul_le hd).mpr h1
    have a2 := (Int.ediv_lt_iff_lt_mul hd).mpr h2
    omega
  have dq : d * q = q * d := Int.mul_comm _ _
  split
  · next h => exact key _ (by rw [Int.add_mul, Int.one_mul]; omega) (by rw [Int.add_mul, Int.add_mul, Int.one_mul]; omega)
  · next h => exact key _ (by rw [Int.add_zero]; omega) (by rw [Int.add_zero, Int.add_mul, Int.one_mul]; omega)
theorem rtB_i {v : Int} (hv : 0 < v) (hv2 : v ≤ 1152921504606846976) (j : Nat) (h : j ≤ 30) : rtB v j * rtB v j < v ∧ v ≤ (rtB v j + 2 ^ (30 - j)) * (rtB v j + 2 ^ (30 - j)) := by
  induction j with
  | zero => exact ⟨by show (0 : Int) * 0 < v; omega, by show v ≤ (0 + 1073741824) * (0 + 1073741824); omega⟩
  | succ j ih =>
    have i := ih (by omega)
    have p := p2_h j (by omega)
    rw [rtB_s, ← p.2]
    split
    · next q =>
      refine ⟨q, ?_⟩
      rw [show rtB v j + 2 ^ (30 - j) / 2 + 2 ^ (30 - j) / 2 = rtB v j + 2 ^ (30 - j) by omega]; exact i.2
    · next q => exact ⟨i.1, by omega⟩
theorem rmB_i {v : Int} (hv2 : v ≤ 4398042316801) (j : Nat) (h : j ≤ 21) : (rmB v j = 0 ∨ (rmB v j - 1) * (rmB v j - 1) < v) ∧ v ≤ (rmB v j + 2 ^ (21 - j) - 1) * (rmB v j + 2 ^ (21 - j) - 1) := by
  induction j with
  | zero => exact ⟨Or.inl rfl, by show v ≤ (0 + 2097152 - 1) * (0 + 2097152 - 1); omega⟩
  | succ j ih =>
    have i := ih (by omega)
    have p := p2_g j (by omega)
    rw [rmB_s, ← p.2]
    split
    · next q =>
      refine ⟨Or.inr q, ?_⟩
      rw [show rmB v j + 2 ^ (21 - j) / 2 + 2 ^ (21 - j) / 2 - 1 = rmB v j + 2 ^ (21 - j) - 1 by omega]; exact i.2
    · next q => exact ⟨i.1, by omega⟩
theorem root_eq {v : Int} (hv2 : v ≤ 4398042316801) : rmB v 21 = rootC v := by
  have i := rmB_i hv2 21 (Nat.le_refl _)
  have r := rmB_r v 21 (Nat.le_refl _)
  rw [show (2 : Int) ^ (21 - 21) = 1 from rfl, show rmB v 21 + 1 - 1 = rmB v 21 by omega] at i
  unfold rootC
  generalize rmB v 21 = b at *
  split
  · next h0 =>
    rcases i.1 with q | q
    · exact q
    · have := sq_nn (b - 1); omega
  · next h0 =>
    have k := rtB_i (v := v) (by omega) (by omega) 30 (Nat.le_refl _)
    have r2 := rtB_r v 30 (Nat.le_refl _)
    rw [show (2 : Int) ^ (30 - 30) = 1 from rfl] at k
    generalize rtB v 30 = x at *
    have b1 : 1 ≤ b := by
      rcases (show b = 0 ∨ 1 ≤ b by omega) with q | q
      · rw [q] at i; have := i.2; omega
      · exact q
    have ib : (b - 1) * (b - 1) < v := by
      rcases i.1 with q | q
      · omega
      · exact q
    rcases (show b - 1 < x ∨ b - 1 = x ∨ x < b - 1 by omega) with q | q | q
    · have := Int.mul_self_le_mul_self (show 0 ≤ b by omega) (show b ≤ x by omega); omega
    · omega
    · have := Int.mul_self_le_mul_self (show 0 ≤ x + 1 by omega) (show x + 1 ≤ b - 1 by omega); omega
theorem mar_all {fH K T S : Nat → Int} (hH : ∀ l, l < 4 → 0 ≤ fH l) (hS : fH 0 + fH 1 + fH 2 + fH 3 ≤ 40) (h : tB fH K T S) : rmB (mgN (douX fH K T S)) 21 = rootC ((4 * (douX fH K T S).1 + (douX fH K T S).2 - 1) / (douX fH K T S).2) ∧ (0 ≤ 4 * (douX fH K T S).1 + (douX fH K T S).2 - 1 ∧ 4 * (douX fH K T S).1 + (douX fH K T S).2 - 1 ≤ 9223372036854775807) ∧ (0 ≤ (douX fH K T S).1 * 4 ∧ (douX fH K T S).1 * 4 ≤ 9223372036854775806) := by
  obtain ⟨-, -, -, -, d1, d2, d3, d4, d5⟩ := dou_all hH hS h
  have h0 := hH 0 (by omega)
  have h1 := hH 1 (by omega)
  have h2 := hH 2 (by omega)
  have h3 := hH 3 (by omega)
  have k0 := h.1 0 (by omega)
  have k1 := h.1 1 (by omega)
  have k2 := h.1 2 (by omega)
  have k3 := h.1 3 (by omega)
  have vd : 160000000 * (fH 0 - K 0 + (fH 1 - K 1) + (fH 2 - K 2) + (fH 3 - K 3)) ≤ 6400000000 := by omega
  generalize 160000000 * (fH 0 - K 0 + (fH 1 - K 1) + (fH 2 - K 2) + (fH 3 - K 3)) = VD at *
  generalize douX fH K T S = D at *
  have e : mgN D = (4 * D.1 + D.2 - 1) / D.2 := by unfold mgN; rw [up_div d1, Int.mul_comm]
  refine ⟨?_, ⟨by omega, by omega⟩, by omega, by omega⟩
  rw [e]
  refine root_eq ?_
  have a1 := Int.mul_le_mul_of_nonneg_right vd (show (0 : Int) ≤ D.2 by omega)
  have : (4 * D.1 + D.2 - 1) / D.2 < 25600000001 + 1 := (Int.ediv_lt_iff_lt_mul d1).mpr (by omega)
  omega
