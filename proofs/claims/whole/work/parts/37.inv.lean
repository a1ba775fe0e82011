-- what holds between two calls, on both sides
theorem upA {α : Type} {f : Nat → α} {i j : Nat} {v : α} : va_up f i v j = if j = i then v else f j := rfl
theorem cpA {α : Type} {f g : Nat → α} {a b n j : Nat} : va_cpy f g a b n j = if b ≤ j ∧ j < b + n then f (a + (j - b)) else g j := rfl
def IVt (fS fZ fN gS gN : Nat → Int) : Prop := (∀ k, -1 ≤ fS k ∧ fS k ≤ 3) ∧ (∀ k, 0 ≤ fZ k ∧ fZ k ≤ 20) ∧ (∀ k, -9223372036854775808 ≤ fN k ∧ fN k ≤ 9223372036854775807) ∧ (∀ k, -9223372036854775808 ≤ gN k ∧ gN k ≤ 9223372036854775807) ∧ (∀ k, ¬ fS k = -1 → gS k = fS k) ∧ (∀ k, -1 ≤ gS k ∧ gS k ≤ 3) ∧ (∀ t j : Nat, t < 4 → ¬ fS t = -1 → (j : Int) < fZ t → gN (t * 20 + j) = fN (t * 20 + j))
def IVp (fL fR fPN fH fT : Nat → Int) (fD fW gB oT : Nat → Bool) (pn : Int) : Prop := (0 ≤ pn ∧ pn ≤ 40) ∧ (∀ k, 0 ≤ fL k ∧ fL k ≤ 3) ∧ (∀ k, 0 ≤ fR k ∧ fR k ≤ 2000) ∧ (∀ k : Nat, fPN k = cntL fL k pn.toNat) ∧ (∀ k, 0 ≤ fH k ∧ fH k ≤ 40) ∧ (∀ k, 0 ≤ fT k ∧ fT k ≤ 40) ∧ (∀ k, fW k = true → 1 ≤ fH (fL k).toNat) ∧ (∀ k : Nat, pn ≤ (k : Int) → fD k = false) ∧ (∀ k : Nat, pn ≤ (k : Int) → fW k = false) ∧ (∀ k : Nat, pn ≤ (k : Int) → oT k = false) ∧ (∀ k, gB k = true ↔ 0 < fH k) ∧ (∀ l, l < 4 → 0 < fH l → 1 ≤ fT l ∧ fT l ≤ fH l) ∧ (∀ l : Nat, l < 4 → fH l ≤ cntL fL l pn.toNat) ∧ (∀ l, l < 4 → sIf (drC fL fD l) (fun _ => 1) pn.toNat ≤ fH l)
def IVs (fR sP sM sN sE sA : Nat → Int) (sG : Nat → Bool) (pm pn sn sl : Int) : Prop := (0 ≤ sn ∧ sn ≤ 120) ∧ (2 ≤ pm ∧ pm ≤ 4) ∧ (0 ≤ sl ∧ sl ≤ 10000) ∧ (∀ k, 0 ≤ sN k ∧ sN k ≤ 9999) ∧ (∀ k, 0 ≤ sM k ∧ sM k ≤ 10000) ∧ (∀ k, 0 ≤ sP k ∧ sP k ≤ 39) ∧ (∀ k, -100000 ≤ sE k ∧ sE k ≤ 100000) ∧ (∀ k, 0 ≤ sA k ∧ sA k ≤ 9999) ∧ (∀ k : Nat, (k : Int) < sn → sG k = goodB pm fR sP sN k) ∧ (∀ k : Nat, (k : Int) < sn → sE k = sumTo sN (k * 6) (pm.toNat + 2) - 2 * sN (k * 6 + (pm.toNat + 1))) ∧ (∀ k : Nat, (k : Int) < sn → sA k = sN (k * 6 + (pm.toNat + 1))) ∧ (∀ k : Nat, (k : Int) < sn → sP k < pn)
-- trays
theorem icutw_r {so v : Int} (h : -9223372036854775808 ≤ v ∧ v ≤ 9223372036854775807) : -9223372036854775808 ≤ cutw so v ∧ cutw so v ≤ 9223372036854775807 := by
  have b_1 := Int.le_bmod (x := v) (m := 256) (by decide)
  have b_2 := Int.bmod_lt (x := v) (m := 256) (by decide)
  have b_3 := Int.le_bmod (x := v) (m := 65536) (by decide)
  have b_4 := Int.bmod_lt (x := v) (m := 65536) (by decide)
  have b_5 := Int.le_bmod (x := v) (m := 4294967296) (by decide)
  have b_6 := Int.bmod_lt (x := v) (m := 4294967296) (by decide)
  unfold cutw
  (repeat' split) <;> omega
theorem iwTray_0 {t so mn : Int} (h : wTray t so mn = 0) : (0 ≤ t ∧ t ≤ 3) ∧ (0 ≤ so ∧ so ≤ 3) ∧ (0 ≤ mn ∧ mn ≤ 20) := by
  unfold wTray at h; split at h
  · assumption
  · exact absurd h (by decide)
theorem iwPlace_0 {fS fZ : Nat → Int} {t pl : Int} (h : wPlace fS fZ t pl = 0) : (0 ≤ t ∧ t ≤ 3) ∧ ¬ fS t.toNat = -1 ∧ (0 ≤ pl ∧ pl < fZ t.toNat) := by
  unfold wPlace at h
  split at h
  · exact absurd h (by decide)
  · next h1 =>
    split at h
    · exact absurd h (by decide)
    · next h2 =>
      split at h
      · next h3 => exact ⟨by omega, h2, h3⟩
      · exact absurd h (by decide)
theorem IVt_tray {fS fZ fN gS gN : Nat → Int} {t so mn : Int} (h : IVt fS fZ fN gS gN) (hw : wTray t so mn = 0) : IVt (va_up fS t.toNat so) (va_up fZ t.toNat mn) (layN fN (t * 20).toNat 20) (va_up gS t.toNat so) (layN gN (t * 20).toNat mn.toNat) := by
  obtain ⟨h1, h2, h3, h4, h5, h6, h7⟩ := h
  have w := iwTray_0 hw
  refine ⟨fun k => ?_, fun k => ?_, fun k => ?_, fun k => ?_, fun k => ?_, fun k => ?_, fun a j ha => ?_⟩
  · rw [upA]; have := h1 k; split <;> omega
  · rw [upA]; have := h2 k; split <;> omega
  · unfold layN; have := h3 k; split <;> omega
  · unfold layN; have := h4 k; split <;> omega
  · rw [upA, upA]
    by_cases q : k = t.toNat
    · rw [if_pos q, if_pos q]; exact fun _ => rfl
    · rw [if_neg q, if_neg q]; exact h5 k
  · rw [upA]; have := h6 k; split <;> omega
  · rw [upA, upA]
    by_cases q : a = t.toNat
    · rw [if_pos q, if_pos q]
      intro _ hj
      unfold layN
      rw [if_pos (by omega), if_pos (by omega)]
    · rw [if_neg q, if_neg q]
      intro hs hj
      have hz := h2 a
      unfold layN
      rw [if_neg (by omega), if_neg (by omega)]; exact h7 a j ha hs hj
theorem IVt_write {fS fZ fN gS gN : Nat → Int} {t pl v : Int} (h : IVt fS fZ fN gS gN) (hv : -9223372036854775808 ≤ v ∧ v ≤ 9223372036854775807) : IVt fS fZ (va_up fN (t * 20 + pl).toNat (cutw (fS t.toNat) v)) gS (va_up gN (t * 20 + pl).toNat (cutw (fS t.toNat) v)) := by
  obtain ⟨h1, h2, h3, h4, h5, h6, h7⟩ := h
  have c := icutw_r (so := fS t.toNat) hv
  refine ⟨h1, h2, fun k => ?_, fun k => ?_, h5, h6, fun a j ha hs hj => ?_⟩
  · rw [upA]; have := h3 k; split <;> omega
  · rw [upA]; have := h4 k; split <;> omega
  · rw [upA, upA]; split
    · rfl
    · exact h7 a j ha hs hj
theorem iwPour_0 {fS fZ : Nat → Int} {t pl t2 at_ mn : Int} (h : wPour fS fZ t pl t2 at_ mn = 0) : ((0 ≤ t ∧ t ≤ 3) ∧ (0 ≤ t2 ∧ t2 ≤ 3) ∧ 0 ≤ pl ∧ 0 ≤ at_ ∧ 0 ≤ mn) ∧ ¬ fS t.toNat = -1 ∧ ¬ fS t2.toNat = -1 ∧ pl + mn ≤ fZ t.toNat ∧ at_ + mn ≤ fZ t2.toNat := by
  unfold wPour at h
  split at h
  · exact absurd h (by decide)
  · split at h
    · exact absurd h (by decide)
    · split at h
      · exact absurd h (by decide)
      · split at h
        · exact absurd h (by decide)
        · exact ⟨by omega, by omega, by omega, by omega, by omega⟩
theorem IVt_pour {fS fZ fN gS gN : Nat → Int} {t pl t2 at_ mn : Int} (h : IVt fS fZ fN gS gN) (hw : wPour fS fZ t pl t2 at_ mn = 0) : IVt fS fZ (va_cpy fN fN (t * 20 + pl).toNat (t2 * 20 + at_).toNat mn.toNat) gS (va_cpy gN gN (t * 20 + pl).toNat (t2 * 20 + at_).toNat mn.toNat) := by
  obtain ⟨h1, h2, h3, h4, h5, h6, h7⟩ := h
  obtain ⟨w1, w2, w3, w4, w5⟩ := iwPour_0 hw
  refine ⟨h1, h2, fun k => ?_, fun k => ?_, h5, h6, fun a j ha hs hj => ?_⟩
  · rw [cpA]; split
    · exact h3 _
    · exact h3 _
  · rw [cpA]; split
    · exact h4 _
    · exact h4 _
  · rw [cpA, cpA]; split
    · next q =>
      have e : (t * 20 + pl).toNat + (a * 20 + j - (t2 * 20 + at_).toNat) = t.toNat * 20 + (pl.toNat + (a * 20 + j - (t2 * 20 + at_).toNat)) := by omega
      rw [e]; exact h7 t.toNat _ (by omega) w2 (by omega)
    · exact h7 a j ha hs hj
-- votes of a tray
theorem vOk_cg {F G : Nat → Int} {b n : Nat} (h : ∀ i, i < n → F (b + i) = G (b + i)) : vOk F b n = vOk G b n := by
  induction n with
  | zero => rfl
  | succ n ih => rw [vOk_succ, vOk_succ, ih (fun i hi => h i (by omega)), h n (by omega)]
theorem tr_eq {fS fZ fN gS gN : Nat → Int} (h : IVt fS fZ fN gS gN) {t : Int} (ht : 0 ≤ t ∧ t ≤ 3) (hs : ¬ fS t.toNat = -1) {i : Nat} (hi : (i : Int) < fZ t.toNat) : gN ((t * 20).toNat + i) = fN ((t * 20).toNat + i) := by
  rw [show (t * 20).toNat = t.toNat * 20 by omega]
  exact h.2.2.2.2.2.2 t.toNat i (by omega) hs hi
theorem wVotes_g {fS fZ fN gS gN : Nat → Int} (h : IVt fS fZ fN gS gN) {t mn : Int} (ht : 0 ≤ t ∧ t ≤ 3) : wVotes fS fZ gN t mn = wVotes fS fZ fN t mn := by
  unfold wVotes
  by_cases q : fS t.toNat = -1
  · rw [if_pos q, if_pos q]
  · rw [if_neg q, if_neg q]
    by_cases z : mn ≤ fZ t.toNat
    · rw [if_pos z, if_pos z, vOk_cg (F := gN) (G := fN) (fun i hi => tr_eq h ht q (by omega))]
    · rw [if_neg z, if_neg z]
theorem wSheet_g {fS fZ fN gS gN : Nat → Int} (h : IVt fS fZ fN gS gN) {pn pm sn sl po t mi : Int} : wSheet fS fZ gN pn pm sn sl po t mi = wSheet fS fZ fN pn pm sn sl po t mi := by
  unfold wSheet
  by_cases q : (0 ≤ t ∧ t ≤ 3) ∧ (0 ≤ po ∧ po ≤ pn - 1) ∧ (0 ≤ mi ∧ mi ≤ 10000)
  · rw [wVotes_g h q.1]
  · rw [if_pos q, if_pos q]
theorem wOfficial_g {fS fZ fN gS gN : Nat → Int} (h : IVt fS fZ fN gS gN) {pn pm po t : Int} : wOfficial fS fZ gN pn pm po t = wOfficial fS fZ fN pn pm po t := by
  unfold wOfficial
  by_cases q : (0 ≤ po ∧ po ≤ pn - 1) ∧ (0 ≤ t ∧ t ≤ 3)
  · rw [wVotes_g h q.2]
  · rw [if_pos q, if_pos q]
theorem iwVotes_0 {fS fZ fN : Nat → Int} {t mn : Int} (h : wVotes fS fZ fN t mn = 0) : ¬ fS t.toNat = -1 ∧ mn ≤ fZ t.toNat ∧ vOk fN (t * 20).toNat mn.toNat = true := by
  unfold wVotes at h
  split at h
  · exact absurd h (by decide)
  · next h1 =>
    split at h
    · next h2 =>
      split at h
      · next h3 => exact ⟨h1, h2, h3⟩
      · exact absurd h (by decide)
    · exact absurd h (by decide)
theorem iwSheet_0 {fS fZ fN : Nat → Int} {pn pm sn sl po t mi : Int} (h : wSheet fS fZ fN pn pm sn sl po t mi = 0) : ((0 ≤ t ∧ t ≤ 3) ∧ (0 ≤ po ∧ po ≤ pn - 1) ∧ (0 ≤ mi ∧ mi ≤ 10000)) ∧ sn < 120 ∧ wVotes fS fZ fN t (pm + 2) = 0 := by
  unfold wSheet at h
  split at h
  · exact absurd h (by decide)
  · next h1 =>
    split at h
    · exact absurd h (by decide)
    · split at h
      · exact absurd h (by decide)
      · next h2 => exact ⟨by omega, by omega, h⟩
theorem iwOfficial_0 {fS fZ fN : Nat → Int} {pn pm po t : Int} (h : wOfficial fS fZ fN pn pm po t = 0) : ((0 ≤ po ∧ po ≤ pn - 1) ∧ (0 ≤ t ∧ t ≤ 3)) ∧ wVotes fS fZ fN t pm = 0 := by
  unfold wOfficial at h
  split at h
  · exact absurd h (by decide)
  · next h1 => exact ⟨by omega, h⟩
theorem cpy_g {fS fZ fN gS gN : Nat → Int} (h : IVt fS fZ fN gS gN) {t mn : Int} (ht : 0 ≤ t ∧ t ≤ 3) (hw : wVotes fS fZ fN t mn = 0) (F : Nat → Int) (d n : Nat) (hn : (n : Int) ≤ mn) : va_cpy gN F (t * 20).toNat d n = va_cpy fN F (t * 20).toNat d n := by
  have w := iwVotes_0 hw
  funext j
  rw [cpA, cpA]
  split
  · next q => exact tr_eq h ht w.1 (by omega)
  · rfl
-- polls and draws
theorem cntL_cg {f g : Nat → Int} {la : Int} {n : Nat} (h : ∀ i, i < n → f i = g i) : cntL f la n = cntL g la n := by
  induction n with
  | zero => rfl
  | succ n ih => rw [cntL_s, cntL_s, ih (fun i hi => h i (by omega)), h n (by omega)]
theorem drC_le (fL : Nat → Int) (fD : Nat → Bool) (l n : Nat) : sIf (drC fL fD l) (fun _ => 1) n ≤ cntL fL l n := by
  induction n with
  | zero => exact Int.le_refl _
  | succ n ih =>
    rw [cntL_s]
    by_cases q : drC fL fD l n = true
    · rw [sIf_y q, if_pos (drC_iff.mp q).2]; omega
    · rw [sIf_n q]; split <;> omega
theorem iwPoll_0 {pn la ro : Int} (h : wPoll pn la ro = 0) : (0 ≤ la ∧ la ≤ 3) ∧ (1 ≤ ro ∧ ro ≤ 2000) ∧ pn < 40 := by
  unfold wPoll at h
  split at h
  · exact absurd h (by decide)
  · split at h
    · exact absurd h (by decide)
    · omega
theorem IVp_poll {fL fR fPN fH fT : Nat → Int} {fD fW gB oT : Nat → Bool} {pn la ro : Int} (h : IVp fL fR fPN fH fT fD fW gB oT pn) (hw : wPoll pn la ro = 0) : IVp (va_up fL pn.toNat la) (va_up fR pn.toNat ro) (va_up fPN la.toNat (fPN la.toNat + 1)) fH fT fD fW gB oT (pn + 1) := by
  obtain ⟨h1, h2, h3, h4, h5, h6, h7, h8, h9, h10, h11, h12, h13, h14⟩ := h
  have w := iwPoll_0 hw
  have en : (pn + 1).toNat = pn.toNat + 1 := by omega
  have ec : ∀ l : Int, cntL (va_up fL pn.toNat la) l (pn + 1).toNat = cntL fL l pn.toNat + (if la = l then 1 else 0) := by
    intro l
    rw [en, cntL_s, cntL_cg (g := fL) (fun i hi => by rw [upA, if_neg (by omega)]), upA, if_pos rfl]
  refine ⟨by omega, fun k => ?_, fun k => ?_, fun k => ?_, h5, h6, fun k hk => ?_, fun k hk => h8 k (by omega), fun k hk => h9 k (by omega), fun k hk => h10 k (by omega), h11, h12, fun l hl => ?_, fun l hl => ?_⟩
  · rw [upA]; have := h2 k; split <;> omega
  · rw [upA]; have := h3 k; split <;> omega
  · rw [ec, upA]
    by_cases q : k = la.toNat
    · rw [if_pos q, if_pos (by omega), ← q, h4 k]
    · rw [if_neg q, if_neg (by omega), h4 k]; omega
  · rw [upA]
    by_cases q : k = pn.toNat
    · exact absurd (h9 k (by omega)) (by rw [hk]; decide)
    · rw [if_neg q]; exact h7 k hk
  · have := h13 l hl
    rw [ec]; split <;> omega
  · have e : sIf (drC (va_up fL pn.toNat la) fD l) (fun _ => 1) (pn + 1).toNat = sIf (drC fL fD l) (fun _ => 1) pn.toNat := by
      rw [en, sIf_n (fun z => by have := (drC_iff.mp z).1; rw [h8 pn.toNat (by omega)] at this; exact absurd this (by decide))]
      exact sIf_cg (fun p hp => by unfold drC; rw [upA, if_neg (by omega)]) (fun _ _ _ => rfl)
    rw [e]; exact h14 l hl
theorem iwDraw_0 {fPN : Nat → Int} {la tk sd : Int} (h : wDraw fPN la tk sd = 0) : (0 ≤ la ∧ la ≤ 3) ∧ 1 ≤ tk ∧ 0 ≤ sd ∧ tk ≤ fPN la.toNat := by
  unfold wDraw at h
  split at h
  · assumption
  · exact absurd h (by decide)
theorem cnt_la {fL fPN : Nat → Int} {pn la : Int} (h : ∀ k : Nat, fPN k = cntL fL k pn.toNat) (hl : 0 ≤ la) : cntL fL la pn.toNat = fPN la.toNat := by
  rw [h la.toNat, show ((la.toNat : Nat) : Int) = la by omega]
theorem wDraw_g {fL fPN : Nat → Int} {pn la tk sd : Int} (h : ∀ k : Nat, fPN k = cntL fL k pn.toNat) : wDrawR fL pn la tk sd = wDraw fPN la tk sd := by
  unfold wDrawR wDraw
  by_cases q : 0 ≤ la
  · rw [cnt_la h q]
  · rw [if_neg (fun z => q z.1.1), if_neg (fun z => q z.1.1)]
theorem IVp_draw {fL fR fPN fH fT : Nat → Int} {fD fW gB oT : Nat → Bool} {pn la tk sd : Int} (h : IVp fL fR fPN fH fT fD fW gB oT pn) (hw : wDraw fPN la tk sd = 0) : IVp fL fR fPN (va_up fH la.toNat (fPN la.toNat)) (va_up fT la.toNat tk) (lotD fL la (fPN la.toNat) tk sd fD pn.toNat) (lotW fL la fW pn.toNat) (va_up gB la.toNat true) oT pn := by
  obtain ⟨h1, h2, h3, h4, h5, h6, h7, h8, h9, h10, h11, h12, h13, h14⟩ := h
  have w := iwDraw_0 hw
  have c := cntL_r fL la pn.toNat
  have e := cnt_la h4 w.1.1
  rw [e] at c
  refine ⟨h1, h2, h3, h4, fun k => ?_, fun k => ?_, fun k => ?_, fun k hk => ?_, fun k hk => ?_, h10, fun k => ?_, fun l hl => ?_, fun l hl => ?_, fun l hl => ?_⟩
  · rw [upA]; have := h5 k; split <;> omega
  · rw [upA]; have := h6 k; split <;> omega
  · unfold lotW
    rw [upA]
    by_cases q : fL k = la
    · rw [if_pos (show (fL k).toNat = la.toNat by rw [q])]; exact fun _ => by omega
    · have hk := h2 k
      rw [if_neg (fun z => q z.2), if_neg (by omega)]; exact h7 k
  · unfold lotD; rw [if_neg (by omega)]; exact h8 k hk
  · unfold lotW; rw [if_neg (by omega)]; exact h9 k hk
  · rw [upA, upA]
    by_cases q : k = la.toNat
    · rw [if_pos q, if_pos q]; exact ⟨fun _ => by omega, fun _ => rfl⟩
    · rw [if_neg q, if_neg q]; exact h11 k
  · rw [upA, upA]
    by_cases q : l = la.toNat
    · rw [if_pos q, if_pos q]; exact fun _ => ⟨w.2.1, w.2.2.2⟩
    · rw [if_neg q, if_neg q]; exact h12 l hl
  · rw [upA]
    by_cases q : l = la.toNat
    · rw [if_pos q, ← q, h4 l]; exact Int.le_refl _
    · rw [if_neg q]; exact h13 l hl
  · rw [upA]
    by_cases q : l = la.toNat
    · rw [if_pos q, ← q, h4 l]; exact drC_le _ _ _ _
    · rw [if_neg q]
      refine Int.le_trans (Int.le_of_eq (sIf_cg (fun p hp => ?_) (fun _ _ _ => rfl))) (h14 l hl)
      unfold drC lotD
      by_cases z : fL p = (l : Int)
      · rw [if_neg (by omega)]
      · simp [z]
theorem IVp_off {fL fR fPN fH fT : Nat → Int} {fD fW gB oT : Nat → Bool} {pn po : Int} (h : IVp fL fR fPN fH fT fD fW gB oT pn) (hp : 0 ≤ po ∧ po ≤ pn - 1) : IVp fL fR fPN fH fT fD fW gB (va_up oT po.toNat true) pn := by
  obtain ⟨h1, h2, h3, h4, h5, h6, h7, h8, h9, h10, h11⟩ := h
  refine ⟨h1, h2, h3, h4, h5, h6, h7, h8, h9, fun k hk => ?_, h11⟩
  rw [upA, if_neg (by omega)]; exact h10 k hk
theorem sumH {fL fR fPN fH fT : Nat → Int} {fD fW gB oT : Nat → Bool} {pn : Int} (h : IVp fL fR fPN fH fT fD fW gB oT pn) : fH 0 + fH 1 + fH 2 + fH 3 ≤ 40 := by
  obtain ⟨h1, h2, h3, h4, h5, h6, h7, h8, h9, h10, h11, h12, h13, h14⟩ := h
  have c := cnt4 h2 pn.toNat
  have a0 := h13 0 (by omega)
  have a1 := h13 1 (by omega)
  have a2 := h13 2 (by omega)
  have a3 := h13 3 (by omega)
  simp only [Int.natCast_zero, Int.natCast_one, show ((2 : Nat) : Int) = 2 from rfl, show ((3 : Nat) : Int) = 3 from rfl] at a0 a1 a2 a3
  omega
-- sheets
theorem iwParties_0 {sn mn : Int} {oa : Bool} (h : wParties sn oa mn = 0) : (2 ≤ mn ∧ mn ≤ 4) ∧ sn ≤ 0 := by
  unfold wParties at h
  split at h
  · exact absurd h (by decide)
  · split at h
    · exact absurd h (by decide)
    · omega
theorem IVs_parties {fR sP sM sN sE sA : Nat → Int} {sG : Nat → Bool} {pm pn sn sl mn : Int} {oa : Bool} (h : IVs fR sP sM sN sE sA sG pm pn sn sl) (hw : wParties sn oa mn = 0) : IVs fR sP sM sN sE sA sG mn pn sn sl := by
  obtain ⟨h1, h2, h3, h4, h5, h6, h7, h8, h9, h10, h11, h12⟩ := h
  have w := iwParties_0 hw
  exact ⟨h1, w.1, h3, h4, h5, h6, h7, h8, fun k hk => absurd hk (by omega), fun k hk => absurd hk (by omega), fun k hk => absurd hk (by omega), h12⟩
theorem IVs_poll {fR sP sM sN sE sA : Nat → Int} {sG : Nat → Bool} {pm pn sn sl ro : Int} (h0 : 0 ≤ pn) (h : IVs fR sP sM sN sE sA sG pm pn sn sl) : IVs (va_up fR pn.toNat ro) sP sM sN sE sA sG pm (pn + 1) sn sl := by
  obtain ⟨h1, h2, h3, h4, h5, h6, h7, h8, h9, h10, h11, h12⟩ := h
  refine ⟨h1, h2, h3, h4, h5, h6, h7, h8, fun k hk => ?_, h10, h11, fun k hk => by have := h12 k hk; omega⟩
  rw [h9 k hk]; unfold goodB
  have := h12 k hk
  have := h6 k
  rw [upA, if_neg (by omega)]
theorem IVs_sheet {fR sP sM sN sE sA fS fZ fN : Nat → Int} {sG : Nat → Bool} {pm pn sn sl po t mi : Int} (h : IVs fR sP sM sN sE sA sG pm pn sn sl) (hp : pn ≤ 40) (hw : wSheet fS fZ fN pn pm sn sl po t mi = 0) : IVs fR (va_up sP sn.toNat po) (va_up sM sn.toNat mi) (va_cpy fN sN (t * 20).toNat (sn * 6).toNat (pm.toNat + 2)) (va_up sE sn.toNat (sumTo fN (t * 20).toNat (pm.toNat + 2) - 2 * fN ((t * 20).toNat + (pm.toNat + 1)))) (va_up sA sn.toNat (fN ((t * 20).toNat + (pm.toNat + 1)))) (va_up sG sn.toNat (decide (sumTo fN (t * 20).toNat (pm.toNat + 2) - 2 * fN ((t * 20).toNat + (pm.toNat + 1)) = 0 ∧ fN ((t * 20).toNat + (pm.toNat + 1)) ≤ fR po.toNat))) pm pn (sn + 1) mi := by
  obtain ⟨h1, h2, h3, h4, h5, h6, h7, h8, h9, h10, h11, h12⟩ := h
  obtain ⟨w1, w2, w3⟩ := iwSheet_0 hw
  have v := (vOk_iff _ _ _).mp (iwVotes_0 w3).2.2
  have v' : ∀ i, i < pm.toNat + 2 → 0 ≤ fN ((t * 20).toNat + i) ∧ fN ((t * 20).toNat + i) ≤ 9999 := fun i hi => v i (by omega)
  have lo : ∀ k i : Nat, k < sn.toNat → i < 6 → va_cpy fN sN (t * 20).toNat (sn * 6).toNat (pm.toNat + 2) (k * 6 + i) = sN (k * 6 + i) := fun k i hk hi => by rw [cpA, if_neg (by omega)]
  have at_ : ∀ i : Nat, i < pm.toNat + 2 → va_cpy fN sN (t * 20).toNat (sn * 6).toNat (pm.toNat + 2) (sn.toNat * 6 + i) = fN ((t * 20).toNat + i) := fun i hi => by rw [cpA, if_pos (by omega)]; congr 1; omega
  have va := v' (pm.toNat + 1) (by omega)
  have vs := sumTo_r (F := fN) (b := (t * 20).toNat) (n := pm.toNat + 2) (m := 9999) (by decide) v'
  have e6 : ((pm.toNat + 2 : Nat) : Int) * 9999 ≤ 59994 := by omega
  refine ⟨by omega, h2, w1.2.2, fun k => ?_, fun k => ?_, fun k => ?_, fun k => ?_, fun k => ?_, fun k hk => ?_, fun k hk => ?_, fun k hk => ?_, fun k hk => ?_⟩
  · rw [cpA]; split
    · exact v' _ (by omega)
    · exact h4 k
  · rw [upA]; have := h5 k; split <;> omega
  · rw [upA]; have := h6 k; split <;> omega
  · rw [upA]; have := h7 k; split <;> omega
  · rw [upA]; have := h8 k; split <;> omega
  · rcases (show k < sn.toNat ∨ k = sn.toNat by omega) with q | q
    · rw [upA, if_neg (by omega), h9 k (by omega)]
      unfold goodB
      rw [lo k (pm.toNat + 1) q (by omega), upA, if_neg (by omega), sumTo_cg (F := va_cpy fN sN (t * 20).toNat (sn * 6).toNat (pm.toNat + 2)) (G := sN) (b := k * 6) (c := k * 6) (fun i hi => lo k i q (by omega))]
    · subst q
      rw [upA, if_pos rfl]
      unfold goodB
      rw [at_ (pm.toNat + 1) (by omega), upA, if_pos rfl, sumTo_cg (F := va_cpy fN sN (t * 20).toNat (sn * 6).toNat (pm.toNat + 2)) (G := fN) (b := sn.toNat * 6) (c := (t * 20).toNat) (fun i hi => at_ i (by omega)), show pm.toNat + 2 = pm.toNat + 1 + 1 from rfl, sumTo_s]
      generalize sumTo fN (t * 20).toNat (pm.toNat + 1) = X
      generalize fN ((t * 20).toNat + (pm.toNat + 1)) = Y
      by_cases z : X = Y ∧ Y ≤ fR po.toNat
      · rw [decide_eq_true z, decide_eq_true (by omega)]
      · rw [decide_eq_false z, decide_eq_false (by omega)]
  · rcases (show k < sn.toNat ∨ k = sn.toNat by omega) with q | q
    · rw [upA, if_neg (by omega), h10 k (by omega), lo k (pm.toNat + 1) q (by omega), sumTo_cg (F := va_cpy fN sN (t * 20).toNat (sn * 6).toNat (pm.toNat + 2)) (G := sN) (b := k * 6) (c := k * 6) (fun i hi => lo k i q (by omega))]
    · subst q
      rw [upA, if_pos rfl, at_ (pm.toNat + 1) (by omega), sumTo_cg (F := va_cpy fN sN (t * 20).toNat (sn * 6).toNat (pm.toNat + 2)) (G := fN) (b := sn.toNat * 6) (c := (t * 20).toNat) (fun i hi => at_ i (by omega))]
  · rcases (show k < sn.toNat ∨ k = sn.toNat by omega) with q | q
    · rw [upA, if_neg (by omega), h11 k (by omega), lo k (pm.toNat + 1) q (by omega)]
    · subst q
      rw [upA, if_pos rfl, at_ (pm.toNat + 1) (by omega)]
  · rcases (show k < sn.toNat ∨ k = sn.toNat by omega) with q | q
    · rw [upA, if_neg (by omega)]; exact h12 k (by omega)
    · rw [upA, if_pos q]; omega
theorem oV_cpy {oV fS fZ fN : Nat → Int} {t pm : Int} (h : ∀ k, 0 ≤ oV k ∧ oV k ≤ 9999) (hw : wVotes fS fZ fN t pm = 0) (d : Nat) : ∀ k, 0 ≤ va_cpy fN oV (t * 20).toNat d pm.toNat k ∧ va_cpy fN oV (t * 20).toNat d pm.toNat k ≤ 9999 := by
  intro k
  have v := (vOk_iff _ _ _).mp (iwVotes_0 hw).2.2
  rw [cpA]; split
  · exact v _ (by omega)
  · exact h k
-- known sheets, on both sides
theorem lastK_cg {P Q : Nat → Bool} {n : Nat} (h : ∀ k, k < n → P k = Q k) : lastK P n = lastK Q n := by
  induction n with
  | zero => rfl
  | succ n ih => rw [lastK_s, lastK_s, ih (fun k hk => h k (by omega)), h n (by omega)]
theorem knS_g {sP sM : Nat → Int} {sG hG : Nat → Bool} {mi sn : Int} (h : ∀ k : Nat, (k : Int) < sn → sG k = hG k) (p : Nat) : knS sP hG sM mi p sn.toNat = knS sP sG sM mi p sn.toNat := by
  unfold knS
  exact lastK_cg (fun k hk => by unfold useS; rw [h k (by omega)])
theorem knF_g {sP sM : Nat → Int} {sG hG : Nat → Bool} {mi sn : Int} (h : ∀ k : Nat, (k : Int) < sn → sG k = hG k) : knF sP hG sM mi sn = knF sP sG sM mi sn := funext fun p => knS_g h p
theorem wSlip_g {sG hG : Nat → Bool} {sn sh k : Int} (h : ∀ k : Nat, (k : Int) < sn → sG k = hG k) : wSlip sn hG sh k = wSlip sn sG sh k := by
  unfold wSlip
  by_cases q : 0 ≤ sh ∧ sh ≤ sn - 1
  · rw [h sh.toNat (by omega)]
  · rw [if_pos q, if_pos q]
theorem good_g {sG hG : Nat → Bool} {sn sh : Int} (h : ∀ k : Nat, (k : Int) < sn → sG k = hG k) : (if wIdx sn sh = 0 then (if hG sh.toNat = true then 1 else 0) else (-1 : Int)) = (if wIdx sn sh = 0 then (if sG sh.toNat = true then 1 else 0) else -1) := by
  by_cases q : wIdx sn sh = 0
  · rw [if_pos q, if_pos q, h sh.toNat (by unfold wIdx at q; split at q; (omega); (exact absurd q (by decide)))]
  · rw [if_neg q, if_neg q]
