-- sums over some polls: their bounds
theorem sIf_bd {c : Nat → Bool} {f : Nat → Int} {B : Int} (n : Nat) (h : ∀ p, p < n → c p = true → -B ≤ f p ∧ f p ≤ B) : -(B * sIf c (fun _ => 1) n) ≤ sIf c f n ∧ sIf c f n ≤ B * sIf c (fun _ => 1) n := by
  induction n with
  | zero => exact ⟨by show -(B * 0) ≤ 0; rw [Int.mul_zero]; decide, by show 0 ≤ B * 0; rw [Int.mul_zero]; decide⟩
  | succ n ih =>
    have i := ih (fun p hp => h p (by omega))
    by_cases q : c n = true
    · have hq := h n (by omega) q
      rw [sIf_y q, sIf_y q, Int.mul_add, Int.mul_one]; omega
    · rw [sIf_n q, sIf_n q]; exact i
theorem sIf_0 {c : Nat → Bool} {f : Nat → Int} (n : Nat) (h : ∀ p, p < n → c p = true → 0 ≤ f p) : 0 ≤ sIf c f n := by
  induction n with
  | zero => exact Int.le_refl _
  | succ n ih =>
    have i := ih (fun p hp => h p (by omega))
    by_cases q : c n = true
    · have hq := h n (by omega) q
      rw [sIf_y q]; omega
    · rw [sIf_n q]; exact i
theorem sIf_m {c d : Nat → Bool} (n : Nat) (h : ∀ p, p < n → c p = true → d p = true) : sIf c (fun _ => 1) n ≤ sIf d (fun _ => 1) n := by
  induction n with
  | zero => exact Int.le_refl _
  | succ n ih =>
    have i := ih (fun p hp => h p (by omega))
    by_cases q : c n = true
    · rw [sIf_y q, sIf_y (h n (by omega) q)]; omega
    · by_cases z : d n = true
      · rw [sIf_n q, sIf_y z]; omega
      · rw [sIf_n q, sIf_n z]; exact i
theorem sq_nn (x : Int) : 0 ≤ x * x := by
  rcases (show 0 ≤ x ∨ x ≤ 0 by omega) with z | z
  · exact Int.mul_nonneg z z
  · exact Int.mul_nonneg_of_nonpos_of_nonpos z z
theorem sIf_z {c : Nat → Bool} {f : Nat → Int} (w : Int) (n : Nat) : 0 ≤ sIf c (fun p => f p * f p) n - 2 * (w * sIf c f n) + w * w * sIf c (fun _ => 1) n := by
  induction n with
  | zero => show 0 ≤ 0 - 2 * (w * 0) + w * w * 0; simp
  | succ n ih =>
    by_cases q : c n = true
    · rw [sIf_y q, sIf_y q, sIf_y q, Int.mul_add w, Int.mul_add (w * w), Int.mul_one]
      have h := sq_nn (f n - w)
      have e : (f n - w) * (f n - w) = f n * f n - f n * w - (w * f n - w * w) := by rw [Int.sub_mul, Int.mul_sub, Int.mul_sub]
      rw [e, Int.mul_comm (f n) w] at h
      show 0 ≤ sIf c (fun p => f p * f p) n + f n * f n - 2 * (w * sIf c f n + w * f n) + (w * w * sIf c (fun _ => 1) n + w * w)
      omega
    · rw [sIf_n q, sIf_n q, sIf_n q]; exact ih
theorem sIf_cs {c : Nat → Bool} {f : Nat → Int} (n : Nat) : 0 ≤ sIf c (fun _ => 1) n * sIf c (fun p => f p * f p) n - sIf c f n * sIf c f n := by
  induction n with
  | zero => show 0 ≤ (0 : Int) * 0 - 0 * 0; decide
  | succ n ih =>
    by_cases q : c n = true
    · rw [sIf_y q, sIf_y q, sIf_y q]
      have h := sIf_z (c := c) (f := f) (f n) n
      show 0 ≤ (sIf c (fun _ => 1) n + 1) * (sIf c (fun p => f p * f p) n + f n * f n) - (sIf c f n + f n) * (sIf c f n + f n)
      generalize sIf c (fun p => f p * f p) n = S at *
      generalize sIf c f n = T at *
      generalize sIf c (fun _ => 1) n = K at *
      generalize f n = v at *
      have e1 : (K + 1) * (S + v * v) = K * S + v * v * K + (S + v * v) := by rw [Int.add_mul, Int.mul_add, Int.one_mul, Int.mul_comm K (v * v)]
      have e2 : (T + v) * (T + v) = T * T + v * T + (v * T + v * v) := by rw [Int.add_mul, Int.mul_add, Int.mul_add, Int.mul_comm T v]
      rw [e1, e2]; omega
    · rw [sIf_n q, sIf_n q, sIf_n q]; exact ih
theorem cnt4 {fL : Nat → Int} (h : ∀ k, 0 ≤ fL k ∧ fL k ≤ 3) (n : Nat) : cntL fL 0 n + cntL fL 1 n + cntL fL 2 n + cntL fL 3 n = n := by
  induction n with
  | zero => rfl
  | succ n ih =>
    have := h n
    rw [cntL_s, cntL_s, cntL_s, cntL_s]
    rcases (show fL n = 0 ∨ fL n = 1 ∨ fL n = 2 ∨ fL n = 3 by omega) with q | q | q | q <;> rw [q] <;> simp <;> omega
/-- the polls drawn of a layer -/
def drC (fL : Nat → Int) (fD : Nat → Bool) (l : Nat) : Nat → Bool := fun p => fD p && decide (fL p = (l : Int))
theorem drC_iff {fL : Nat → Int} {fD : Nat → Bool} {l p : Nat} : drC fL fD l p = true ↔ fD p = true ∧ fL p = (l : Int) := by unfold drC; simp
-- a good sheet's figures
theorem sumTo_le {F : Nat → Int} (h : ∀ k, 0 ≤ F k ∧ F k ≤ 9999) (b : Nat) {i n : Nat} (hi : i < n) : F (b + i) ≤ sumTo F b n := by
  have nn : ∀ n, 0 ≤ sumTo F b n := by
    intro n
    induction n with
    | zero => exact Int.le_refl _
    | succ n ih => rw [sumTo_s]; have := h (b + n); omega
  induction n with
  | zero => exact absurd hi (Nat.not_lt_zero _)
  | succ n ih =>
    rw [sumTo_s]
    rcases (show i < n ∨ i = n by omega) with q | q
    · have := ih q; have := h (b + n); omega
    · rw [q]; have := nn n; omega
theorem good_v {pm : Int} {fR sP sN : Nat → Int} {k : Nat} {a : Int} (hpm : 2 ≤ pm) (hN : ∀ k, 0 ≤ sN k ∧ sN k ≤ 9999) (hR : ∀ k, 0 ≤ fR k ∧ fR k ≤ 2000) (h : goodB pm fR sP sN k = true) (ha : 0 ≤ a ∧ a ≤ pm - 1) : 0 ≤ sN ((k : Int) * 6 + a).toNat ∧ sN ((k : Int) * 6 + a).toNat ≤ 2000 := by
  unfold goodB at h
  obtain ⟨h1, h2⟩ := of_decide_eq_true h
  have h3 := hR (sP k).toNat
  have h4 := sumTo_le hN (k * 6) (i := a.toNat) (n := pm.toNat + 1) (by omega)
  rw [show ((k : Int) * 6 + a).toNat = k * 6 + a.toNat by omega]
  have h5 := hN (k * 6 + a.toNat)
  omega
/-- what the tallies may be -/
def tB (fH K T S : Nat → Int) : Prop := (∀ l, l < 4 → 0 ≤ K l ∧ K l ≤ fH l) ∧ (∀ l, l < 4 → -(2000 * K l) ≤ T l ∧ T l ≤ 2000 * K l) ∧ (∀ l, l < 4 → 0 ≤ K l * S l - T l * T l ∧ K l * S l - T l * T l ≤ 4000000 * (K l * K l))
theorem kn_v {sP sM sN fR : Nat → Int} {sG : Nat → Bool} {pm mi sn : Int} (hpm : 2 ≤ pm) (hsn : 0 ≤ sn) (hN : ∀ k, 0 ≤ sN k ∧ sN k ≤ 9999) (hR : ∀ k, 0 ≤ fR k ∧ fR k ≤ 2000) (hG : ∀ k : Nat, (k : Int) < sn → sG k = goodB pm fR sP sN k) {p : Nat} (h : ¬ knF sP sG sM mi sn p = -1) {a : Int} (ha : 0 ≤ a ∧ a ≤ pm - 1) : 0 ≤ sN (knF sP sG sM mi sn p * 6 + a).toNat ∧ sN (knF sP sG sM mi sn p * 6 + a).toNat ≤ 2000 := by
  have r := knS_r sP sG sM mi p sn.toNat
  have t := (knS_t (sP := sP) (sG := sG) (sM := sM) (mi := mi) (p := p) (n := sn.toNat) h).2.1
  unfold knF at h ⊢
  generalize knS sP sG sM mi p sn.toNat = k at *
  obtain ⟨j, rfl⟩ : ∃ j : Nat, k = j := ⟨k.toNat, by omega⟩
  rw [Int.toNat_natCast] at t
  rw [hG j (by omega)] at t
  exact good_v hpm hN hR t ha
theorem vot_b {sN : Nat → Int} {k a b : Int} (h1 : 0 ≤ sN (k * 6 + a).toNat ∧ sN (k * 6 + a).toNat ≤ 2000) (h2 : ¬ b = -1 → 0 ≤ sN (k * 6 + b).toNat ∧ sN (k * 6 + b).toNat ≤ 2000) : -2000 ≤ vot sN k a b ∧ vot sN k a b ≤ 2000 := by
  unfold vot; split
  · omega
  · next q => have := h2 q; omega
theorem tB_of {fL fR fH sP sM sN : Nat → Int} {fD sG : Nat → Bool} {pn sn pm mi a b : Int} (hpm : 2 ≤ pm) (hsn : 0 ≤ sn) (hN : ∀ k, 0 ≤ sN k ∧ sN k ≤ 9999) (hR : ∀ k, 0 ≤ fR k ∧ fR k ≤ 2000) (hG : ∀ k : Nat, (k : Int) < sn → sG k = goodB pm fR sP sN k) (hDC : ∀ l, l < 4 → sIf (drC fL fD l) (fun _ => 1) pn.toNat ≤ fH l) (ha : 0 ≤ a ∧ a ≤ pm - 1) (hb : b = -1 ∨ (0 ≤ b ∧ b ≤ pm - 1)) : tB fH (tK fL fD (knF sP sG sM mi sn) pn.toNat) (tT fL fD (knF sP sG sM mi sn) sN a b pn.toNat) (tS fL fD (knF sP sG sM mi sn) sN a b pn.toNat) := by
  have hv : ∀ l p, knC fL fD (knF sP sG sM mi sn) l p = true → -2000 ≤ vot sN (knF sP sG sM mi sn p) a b ∧ vot sN (knF sP sG sM mi sn p) a b ≤ 2000 := by
    intro l p h
    have hk := (knC_iff.mp h).2.2
    exact vot_b (kn_v hpm hsn hN hR hG hk ha) (fun q => kn_v hpm hsn hN hR hG hk (by omega))
  refine ⟨fun l hl => ⟨(sIf_1 _ _).1, ?_⟩, fun l hl => ?_, fun l hl => ⟨?_, ?_⟩⟩
  · exact Int.le_trans (sIf_m pn.toNat (fun p _ q => drC_iff.mpr ⟨(knC_iff.mp q).1, (knC_iff.mp q).2.1⟩)) (hDC l hl)
  · exact sIf_bd pn.toNat (fun p _ q => hv l p q)
  · exact sIf_cs pn.toNat
  · have h1 := sIf_bd (c := knC fL fD (knF sP sG sM mi sn) l) (f := fun p => vot sN (knF sP sG sM mi sn p) a b * vot sN (knF sP sG sM mi sn p) a b) (B := 4000000) pn.toNat (fun p _ q => by
      have w := hv l p q
      have w0 := sq_nn (vot sN (knF sP sG sM mi sn p) a b)
      have w1 : vot sN (knF sP sG sM mi sn p) a b * vot sN (knF sP sG sM mi sn p) a b ≤ 4000000 := by
        generalize vot sN (knF sP sG sM mi sn p) a b = x at *
        rcases (show 0 ≤ x ∨ x ≤ 0 by omega) with z | z
        · exact Int.mul_le_mul w.2 w.2 z (by decide)
        · have := Int.mul_le_mul (show -x ≤ 2000 by omega) (show -x ≤ 2000 by omega) (by omega) (by decide)
          rw [Int.neg_mul_neg] at this; exact this
      exact ⟨by show -4000000 ≤ vot sN (knF sP sG sM mi sn p) a b * vot sN (knF sP sG sM mi sn p) a b; omega, w1⟩)
    have k0 := (sIf_1 (knC fL fD (knF sP sG sM mi sn) l) pn.toNat).1
    show sIf (knC fL fD (knF sP sG sM mi sn) l) (fun _ => 1) pn.toNat * sIf (knC fL fD (knF sP sG sM mi sn) l) (fun p => vot sN (knF sP sG sM mi sn p) a b * vot sN (knF sP sG sM mi sn p) a b) pn.toNat - sIf (knC fL fD (knF sP sG sM mi sn) l) (fun p => vot sN (knF sP sG sM mi sn p) a b) pn.toNat * sIf (knC fL fD (knF sP sG sM mi sn) l) (fun p => vot sN (knF sP sG sM mi sn p) a b) pn.toNat ≤ 4000000 * (sIf (knC fL fD (knF sP sG sM mi sn) l) (fun _ => 1) pn.toNat * sIf (knC fL fD (knF sP sG sM mi sn) l) (fun _ => 1) pn.toNat)
    have t0 := sq_nn (sIf (knC fL fD (knF sP sG sM mi sn) l) (fun p => vot sN (knF sP sG sM mi sn p) a b) pn.toNat)
    generalize sIf (knC fL fD (knF sP sG sM mi sn) l) (fun p => vot sN (knF sP sG sM mi sn p) a b) pn.toNat = T at *
    generalize sIf (knC fL fD (knF sP sG sM mi sn) l) (fun p => vot sN (knF sP sG sM mi sn p) a b * vot sN (knF sP sG sM mi sn p) a b) pn.toNat = S at *
    generalize sIf (knC fL fD (knF sP sG sM mi sn) l) (fun _ => 1) pn.toNat = K at *
    have h2 := Int.mul_le_mul_of_nonneg_left h1.2 k0
    rw [show K * (4000000 * K) = 4000000 * (K * K) by ac_rfl] at h2
    omega
/-- what the worst may be -/
theorem wB_of {fL fR fH sP sM sN : Nat → Int} {fD sG : Nat → Bool} {pn sn pm mi a : Int} (hi : Bool) (hpm : 2 ≤ pm) (hsn : 0 ≤ sn) (hpn : 0 ≤ pn ∧ pn ≤ 40) (hN : ∀ k, 0 ≤ sN k ∧ sN k ≤ 9999) (hR : ∀ k, 0 ≤ fR k ∧ fR k ≤ 2000) (hG : ∀ k : Nat, (k : Int) < sn → sG k = goodB pm fR sP sN k) (ha : 0 ≤ a ∧ a ≤ pm - 1) (l : Nat) : 0 ≤ tT fL fD (knF sP sG sM mi sn) sN a (-1) pn.toNat l + (if hi = true then tU fL fD (knF sP sG sM mi sn) fR pn.toNat l else 0) ∧ tT fL fD (knF sP sG sM mi sn) sN a (-1) pn.toNat l + (if hi = true then tU fL fD (knF sP sG sM mi sn) fR pn.toNat l else 0) ≤ 160000 := by
  have v0 : ∀ p, knC fL fD (knF sP sG sM mi sn) l p = true → 0 ≤ vot sN (knF sP sG sM mi sn p) a (-1) ∧ vot sN (knF sP sG sM mi sn p) a (-1) ≤ 2000 := fun p h => by
    have := kn_v (sM := sM) (mi := mi) hpm hsn hN hR hG (knC_iff.mp h).2.2 ha
    unfold vot; rw [if_pos rfl]; exact this
  have t0 : 0 ≤ tT fL fD (knF sP sG sM mi sn) sN a (-1) pn.toNat l := sIf_0 pn.toNat (fun p _ q => (v0 p q).1)
  have t1 : tT fL fD (knF sP sG sM mi sn) sN a (-1) pn.toNat l ≤ 2000 * sIf (knC fL fD (knF sP sG sM mi sn) l) (fun _ => 1) pn.toNat := (sIf_bd pn.toNat (fun p _ q => ⟨by have := (v0 p q).1; omega, (v0 p q).2⟩)).2
  have k1 := sIf_1 (knC fL fD (knF sP sG sM mi sn) l) pn.toNat
  have u0 : 0 ≤ tU fL fD (knF sP sG sM mi sn) fR pn.toNat l := sIf_0 pn.toNat (fun p _ _ => (hR p).1)
  have u1 : tU fL fD (knF sP sG sM mi sn) fR pn.toNat l ≤ 2000 * sIf (unC fL fD (knF sP sG sM mi sn) l) (fun _ => 1) pn.toNat := (sIf_bd pn.toNat (fun p _ _ => ⟨by have := (hR p).1; omega, (hR p).2⟩)).2
  have k2 := sIf_1 (unC fL fD (knF sP sG sM mi sn) l) pn.toNat
  split <;> omega
-- the folds
def mx1 (K : Nat → Int) : Nat → Int := fun l => if 0 < K l then K l else 1
theorem mx1_b {fH K : Nat → Int} (hS : fH 0 + fH 1 + fH 2 + fH 3 ≤ 40) (h : ∀ l, l < 4 → 0 ≤ fH l ∧ K l ≤ fH l) : 0 < mx1 K 0 * mx1 K 1 * (mx1 K 2 * mx1 K 3) ∧ mx1 K 0 * mx1 K 1 * (mx1 K 2 * mx1 K 3) ≤ 14641 := by
  have b : ∀ l, l < 4 → 1 ≤ mx1 K l ∧ mx1 K l ≤ fH l + 1 := fun l hl => by have := h l hl; unfold mx1; split <;> omega
  have b0 := b 0 (by omega)
  have b1 := b 1 (by omega)
  have b2 := b 2 (by omega)
  have b3 := b 3 (by omega)
  exact four_p b0.1 b1.1 b2.1 b3.1 (by omega)
theorem sum_fB {fH K T S : Nat → Int} {m : Int} (hm : 0 ≤ m) (hH : ∀ l, l < 4 → 0 ≤ fH l) (hS : fH 0 + fH 1 + fH 2 + fH 3 ≤ 40) (h : tB fH K T S) : fB (sumC fH K m) (sumT fH T) K (fun l => 2000 * fH l) (mx1 K 0 * mx1 K 1 * (mx1 K 2 * mx1 K 3)) := by
  have c0 : ∀ l, sumC fH K m l = true → 0 < K l := fun l q => by
    unfold sumC at q; simp only [Bool.and_eq_true, decide_eq_true_eq] at q; omega
  refine ⟨(mx1_b hS (fun l hl => ⟨hH l hl, (h.1 l hl).2⟩)).1, fun l _ q => c0 l q, fun l hl q => ?_, fun l hl => by have := hH l hl; show 0 ≤ 2000 * fH l; omega, fun l hl q => ?_⟩
  · have e : mx1 K l = K l := if_pos (c0 l q)
    have d := four_d (mx1 K) hl
    rwa [e] at d
  · have t := h.2.1 l hl
    have a1 := Int.mul_le_mul_of_nonneg_left t.1 (hH l hl)
    have a2 := Int.mul_le_mul_of_nonneg_left t.2 (hH l hl)
    have e : fH l * (2000 * K l) = 2000 * fH l * K l := by ac_rfl
    rw [Int.mul_neg, e] at a1
    rw [e] at a2
    exact ⟨a1, a2⟩
theorem wor_fB {fH fT T U : Nat → Int} {hi : Bool} (hH : ∀ l, l < 4 → 0 ≤ fH l) (hS : fH 0 + fH 1 + fH 2 + fH 3 ≤ 40) (hT : ∀ l, l < 4 → 0 < fH l → 1 ≤ fT l ∧ fT l ≤ fH l) (hw : ∀ l, l < 4 → 0 ≤ T l + (if hi = true then U l else 0) ∧ T l + (if hi = true then U l else 0) ≤ 160000) : fB (worC fH) (worT fH T U hi) fT (fun l => 160000 * fH l) (mx1 (fun l => if 0 < fH l then fT l else 0) 0 * mx1 (fun l => if 0 < fH l then fT l else 0) 1 * (mx1 (fun l => if 0 < fH l then fT l else 0) 2 * mx1 (fun l => if 0 < fH l then fT l else 0) 3)) := by
  have c0 : ∀ l, worC fH l = true → 0 < fH l := fun l q => of_decide_eq_true q
  refine ⟨(mx1_b hS (fun l hl => ⟨hH l hl, ?_⟩)).1, fun l hl q => by have := hT l hl (c0 l q); omega, fun l hl q => ?_, fun l hl => by have := hH l hl; show 0 ≤ 160000 * fH l; omega, fun l hl q => ?_⟩
  · show (if 0 < fH l then fT l else 0) ≤ fH l
    split
    · next z => exact (hT l hl z).2
    · exact hH l hl
  · have t := hT l hl (c0 l q)
    have e : mx1 (fun l => if 0 < fH l then fT l else 0) l = fT l := by
      show (if 0 < (if 0 < fH l then fT l else 0) then (if 0 < fH l then fT l else 0) else 1) = fT l
      rw [if_pos (c0 l q), if_pos (by omega)]
    have d := four_d (mx1 (fun l => if 0 < fH l then fT l else 0)) hl
    rwa [e] at d
  · have t := hT l hl (c0 l q)
    have w := hw l hl
    have a1 : 0 ≤ fH l * (T l + (if hi = true then U l else 0)) := Int.mul_nonneg (hH l hl) w.1
    have a2 := Int.mul_le_mul_of_nonneg_left w.2 (hH l hl)
    have a3 := Int.mul_le_mul_of_nonneg_left t.1 (show 0 ≤ 160000 * fH l by have := hH l hl; omega)
    have a4 : 0 ≤ 160000 * fH l * fT l := by omega
    show -(160000 * fH l * fT l) ≤ fH l * (T l + (if hi = true then U l else 0)) ∧ fH l * (T l + (if hi = true then U l else 0)) ≤ 160000 * fH l * fT l
    omega
def kN (K : Nat → Int) (l : Nat) : Nat := (K l).toNat
theorem dL_d (k : Nat → Nat) {l : Nat} (hl : l < 4) : dq (k l) ∣ dL (k 0) (k 1) (k 2) (k 3) := by
  unfold dL
  rcases (show l = 0 ∨ l = 1 ∨ l = 2 ∨ l = 3 by omega) with rfl | rfl | rfl | rfl
  · exact Nat.dvd_trans (Nat.dvd_lcm_left _ _) (Nat.dvd_lcm_left _ _)
  · exact Nat.dvd_trans (Nat.dvd_lcm_right _ _) (Nat.dvd_lcm_left _ _)
  · exact Nat.dvd_trans (Nat.dvd_lcm_left _ _) (Nat.dvd_lcm_right _ _)
  · exact Nat.dvd_trans (Nat.dvd_lcm_right _ _) (Nat.dvd_lcm_right _ _)
theorem dq_p (k : Nat) : 0 < dq k := by
  unfold dq; split
  · omega
  · next q => exact Nat.mul_pos (Nat.mul_pos (by omega) (by omega)) (by omega)
theorem dL_p (a b c d : Nat) : 0 < dL a b c d := Nat.lcm_pos (Nat.lcm_pos (dq_p a) (dq_p b)) (Nat.lcm_pos (dq_p c) (dq_p d))
theorem dq_i {K : Int} (h : 1 < K) : ((dq K.toNat : Nat) : Int) = K * K * (K - 1) := by
  unfold dq; rw [if_neg (by omega), Int.natCast_mul, Int.natCast_mul, show ((K.toNat : Nat) : Int) = K by omega, show ((K.toNat - 1 : Nat) : Int) = K - 1 by omega]
theorem dou_fB {fH K T S : Nat → Int} (hH : ∀ l, l < 4 → 0 ≤ fH l ∧ fH l ≤ 40) (h : tB fH K T S) : fB (sumC fH K 1) (douT fH K T S) (douB K) (fun l => 160000000 * (fH l - K l)) ((dL (kN K 0) (kN K 1) (kN K 2) (kN K 3) : Nat) : Int) := by
  have c0 : ∀ l, sumC fH K 1 l = true → 1 < K l := fun l q => by
    unfold sumC at q; simp only [Bool.and_eq_true, decide_eq_true_eq] at q; omega
  have bp : ∀ l, sumC fH K 1 l = true → 0 < douB K l := fun l q => by
    have := c0 l q
    unfold douB
    exact Int.mul_pos (Int.mul_pos (by omega) (by omega)) (by omega)
  refine ⟨by have := dL_p (kN K 0) (kN K 1) (kN K 2) (kN K 3); omega, fun l _ q => bp l q, fun l hl q => ?_, fun l hl => by have := (h.1 l hl).2; show 0 ≤ 160000000 * (fH l - K l); omega, fun l hl q => ?_⟩
  · have e : douB K l = ((dq (kN K l) : Nat) : Int) := (dq_i (c0 l q)).symm
    rw [e]
    exact Int.ofNat_dvd.mpr (dL_d (kN K) hl)
  · have k2 := c0 l q
    have hk := h.1 l hl
    have hh := hH l hl
    have s := h.2.2 l hl
    show -(160000000 * (fH l - K l) * (K l * K l * (K l - 1))) ≤ fH l * (fH l - K l) * (K l * S l - T l * T l) ∧ fH l * (fH l - K l) * (K l * S l - T l * T l) ≤ 160000000 * (fH l - K l) * (K l * K l * (K l - 1))
    generalize K l * S l - T l * T l = Z at *
    have p0 : 0 ≤ fH l * (fH l - K l) := Int.mul_nonneg hh.1 (by omega)
    have p1 : 0 ≤ fH l * (fH l - K l) * Z := Int.mul_nonneg p0 s.1
    have p2 := Int.mul_le_mul_of_nonneg_left s.2 p0
    have kk : 0 ≤ K l * K l := sq_nn _
    have p3 : fH l * (fH l - K l) ≤ 40 * (fH l - K l) := Int.mul_le_mul_of_nonneg_right hh.2 (by omega)
    have p4 : fH l * (fH l - K l) * (4000000 * (K l * K l)) ≤ 40 * (fH l - K l) * (4000000 * (K l * K l)) := Int.mul_le_mul_of_nonneg_right p3 (by omega)
    have e4 : 40 * (fH l - K l) * (4000000 * (K l * K l)) = 160000000 * (fH l - K l) * (K l * K l) := by
      rw [show (160000000 : Int) = 40 * 4000000 from rfl]; ac_rfl
    have p5 : K l * K l * 1 ≤ K l * K l * (K l - 1) := Int.mul_le_mul_of_nonneg_left (by omega) kk
    have p6 : 160000000 * (fH l - K l) * (K l * K l * 1) ≤ 160000000 * (fH l - K l) * (K l * K l * (K l - 1)) := Int.mul_le_mul_of_nonneg_left p5 (by omega)
    rw [Int.mul_one] at p6
    have p7 : 0 ≤ 160000000 * (fH l - K l) * (K l * K l) := Int.mul_nonneg (by omega) kk
    omega
