/-! law: the reference's stack; a factor -/
theorem ce_div {o : Nat} {v : Int} (ho : o ≤ 14) (h1 : 0 ≤ v) (h2 : v ≤ 99999) : zI (1048576 * o + v) / 1048576 = zI o := by
  obtain ⟨n, hn⟩ : ∃ n : Nat, 1048576 * (o : Int) + v = n := ⟨(1048576 * (o : Int) + v).toNat, by omega⟩
  have e : (1048576 : Int32) = nI 1048576 := rfl
  rw [hn, ← zI_nI, e, pk_div (by omega) (by omega) (by omega), zI_nI]
  congr 1; omega
theorem ce_rem {o : Nat} {v : Int} (ho : o ≤ 14) (h1 : 0 ≤ v) (h2 : v ≤ 99999) : zI (1048576 * o + v) - zI (1048576 * o + v) / 1048576 * 1048576 = zI v := by
  have e : (1048576 : Int32) = zI 1048576 := rfl
  rw [ce_div ho h1 h2, e, zI_mul, zI_sub]; congr 1; omega
def stE (N : Gr) (j s : Nat) : Prop := s ≤ 14 ∧ ∃ v : Int, 0 ≤ v ∧ v ≤ 99999 ∧ N.2 19 j = zI (1048576 * s + v)
theorem stE.mv {N N' : Gr} {j s : Nat} (h : stE N j s) (e : N'.2 19 j = N.2 19 j) : stE N' j s := ⟨h.1, by rw [e]; exact h.2⟩
theorem stE.dv {N : Gr} {j s : Nat} (h : stE N j s) : N.2 19 j / 1048576 = zI s := by
  obtain ⟨h1, v, h2, h3, h4⟩ := h
  rw [h4, ce_div h1 h2 h3]
theorem wt_0 {N : Gr} (h : N.1 15 = 0) : f_X12_waitTop N = some (-1) := by
  unfold f_X12_waitTop
  rw [if_pos h]
theorem wt_s {N : Gr} {w s : Nat} (hw : w < 260) (h : N.1 15 = zI ((w + 1 : Nat) : Int)) (e : stE N w s) : f_X12_waitTop N = some (zI s) := by
  have e0 : (0 : Int32) = zI ((0 : Nat) : Int) := rfl
  have c : ¬ N.1 15 = 0 := by rw [h, e0, eqN (by omega) (by omega)]; omega
  unfold f_X12_waitTop
  rw [if_neg c, h, zp1, rdN (by omega) (by omega), e.dv, lt_e]
def lrF (c0 : Nat) (L L' : Gr) : Prop := (∀ j, j ≠ 4 → L'.1 j = L.1 j) ∧ (∀ j, j ≠ 5 → j ≠ 6 → L'.2 j = L.2 j) ∧ ∀ j, j < c0 → L'.2 5 j = L.2 5 j ∧ L'.2 6 j = L.2 6 j
theorem lrF.rf (c0 : Nat) (L : Gr) : lrF c0 L L := ⟨fun _ _ => rfl, fun _ _ _ => rfl, fun _ _ => ⟨rfl, rfl⟩⟩
theorem lrF.tr {c0 : Nat} {A B C : Gr} (h : lrF c0 A B) (k : lrF c0 B C) : lrF c0 A C := ⟨fun j a => (k.1 j a).trans (h.1 j a), fun j a b => (k.2.1 j a b).trans (h.2.1 j a b), fun j hj => ⟨(k.2.2 j hj).1.trans (h.2.2 j hj).1, (k.2.2 j hj).2.trans (h.2.2 j hj).2⟩⟩
theorem lrF.w {c0 m : Nat} (L : Gr) (hm : c0 ≤ m) (s v : Int32) : lrF c0 L (wrL L m s v) := by
  refine ⟨fun j a => ?_, fun j a b => ?_, fun j hj => ?_⟩
  · unfold wrL; rw [sI_o _ _ _ _ a]; rfl
  · unfold wrL; rw [sI_2, sA_o _ _ _ _ _ b, sA_o _ _ _ _ _ a]
  · rw [wr5, wr6, if_neg (by omega), if_neg (by omega)]; exact ⟨rfl, rfl⟩
def lnF (a0 : Nat) (N N' : Gr) : Prop := (∀ j, j ≠ 9 → j ≠ 11 → j ≠ 12 → j ≠ 13 → j ≠ 14 → j ≠ 15 → N'.1 j = N.1 j) ∧ (∀ j, j ≠ 18 → j ≠ 19 → N'.2 j = N.2 j) ∧ ∀ j, j < a0 → N'.2 18 j = N.2 18 j
theorem lnF.rf (a0 : Nat) (N : Gr) : lnF a0 N N := ⟨fun _ _ _ _ _ _ _ => rfl, fun _ _ _ => rfl, fun _ _ => rfl⟩
theorem lnF.tr {a0 : Nat} {A B C : Gr} (h : lnF a0 A B) (k : lnF a0 B C) : lnF a0 A C := ⟨fun j a b c d e f => (k.1 j a b c d e f).trans (h.1 j a b c d e f), fun j a b => (k.2.1 j a b).trans (h.2.1 j a b), fun j hj => (k.2.2 j hj).trans (h.2.2 j hj)⟩
theorem lnF.i {a0 : Nat} (N : Gr) {k : Nat} (hk : k = 9 ∨ k = 11 ∨ k = 12 ∨ k = 13 ∨ k = 14 ∨ k = 15) (x : Int32) : lnF a0 N (sI N k x) := ⟨fun j a b c d e f => sI_o _ _ _ _ (by omega), fun _ _ _ => rfl, fun _ _ => rfl⟩
theorem lnF.a19 {a0 : Nat} (N : Gr) (i : Nat) (x : Int32) : lnF a0 N (sA N 19 i x) := ⟨fun _ _ _ _ _ _ _ => rfl, fun j a b => sA_o _ _ _ _ _ b, fun j _ => by rw [sA_o _ _ _ _ _ (by omega)]⟩
theorem lnF.a18 {a0 : Nat} (N : Gr) {i : Nat} (hi : a0 ≤ i) (x : Int32) : lnF a0 N (sA N 18 i x) := ⟨fun _ _ _ _ _ _ _ => rfl, fun j a b => sA_o _ _ _ _ _ a, fun j hj => by rw [sA_s, if_neg (by omega)]⟩
theorem lnF.nt {a0 : Nat} (N : Gr) {cm : Nat} (hi : a0 ≤ cm) (x : Int32) : lnF a0 N (ntN N cm x) := (lnF.a18 N hi x).tr (lnF.i _ (by omega) _)
theorem lnF.tx {a0 : Nat} {N N' : Gr} (h1 : ∀ j, j ≠ 9 → j ≠ 11 → j ≠ 12 → N'.1 j = N.1 j) (h2 : N'.2 = N.2) : lnF a0 N N' := ⟨fun j a b c _ _ _ => h1 j a b c, fun j _ _ => by rw [h2], fun j _ => by rw [h2]⟩
def skF (w : Nat) (N N' : Gr) : Prop := ∀ j, j < w → N'.2 19 j = N.2 19 j
theorem skF.tr {w : Nat} {A B C : Gr} (h : skF w A B) (k : skF w B C) : skF w A C := fun j hj => (k j hj).trans (h j hj)
theorem skF.le {w w' : Nat} {A B : Gr} (h : skF w A B) (hl : w' ≤ w) : skF w' A B := fun j hj => h j (by omega)
/-- pending signs above w, the top first -/
def ops (N : Gr) (w : Nat) (lo : Nat) (q : List Nat) : Prop := ∀ j, j < q.length → stE N (w + q.length - 1 - j) (q.getD j 0) ∧ lo ≤ q.getD j 0 ∧ q.getD j 0 ≤ 6
/-- where closing stops -/
def stopT (N : Gr) (w : Nat) (lo : Nat) : Prop := w = 0 ∨ ∃ s, stE N (w - 1) s ∧ ¬ (lo ≤ s ∧ s ≤ 6)
section
variable {L : Gr} {c0 a0 m : Nat} {P : Nat → Prop}
/-- closing: x1 is 0 and lo is 4, or x1 is 1 and lo is 2 -/
theorem cls_lp {x1 : Int32} {lo : Nat} (hx : (x1 = 0 ∧ lo = 4) ∨ (x1 = 1 ∧ lo = 2)) {w : Nat} : ∀ (q : List Nat) (N : Gr) (cm f : Nat) (ty : Nat → Nat), q.length < f → w + q.length ≤ 250 → cm + q.length ≤ 250 → em L N c0 a0 cm m q ty P → N.1 15 = zI ((w + q.length : Nat) : Int) → ops N w lo q → stopT N w lo → ty cm ≤ 31 → q.length + 1 ≤ ty cm → ∃ N' ty', f_X12_closesSums_n0 x1 f N = some N' ∧ em L N' c0 a0 (cm + q.length) m [] ty' P ∧ ty' (cm + q.length) + q.length = ty cm ∧ N'.1 15 = zI w ∧ (∀ j, j ≠ 14 → j ≠ 15 → N'.1 j = N.1 j) ∧ (∀ j, j ≠ 18 → N'.2 j = N.2 j) ∧ lnF a0 N N' := by
  intro q
  induction q with
  | nil =>
    intro N cm f ty hf hw hc he h15 hq hs ht ht2
    obtain ⟨f, rfl⟩ : ∃ k, f = k + 1 := ⟨f - 1, by omega⟩
    refine ⟨N, ty, ?_, he, by simp, h15, fun _ _ _ => rfl, fun _ _ => rfl, lnF.rf a0 N⟩
    have h15 : N.1 15 = zI (w : Int) := h15
    rw [f_X12_closesSums_n0]
    rcases hs with hw0 | ⟨s, s1, s2⟩
    · rw [wt_0 (by rw [h15, hw0]; rfl), bd_s, bd_s, if_pos (by decide)]
      rcases hx with ⟨hx, -⟩ | ⟨hx, -⟩
      · rw [if_pos hx]
      · rw [hx, i10, if_neg (by decide), bd_s, if_neg (by decide)]
    · by_cases hw0 : w = 0
      · rw [wt_0 (by rw [h15, hw0]; rfl), bd_s, bd_s, if_pos (by decide)]
        rcases hx with ⟨hx, -⟩ | ⟨hx, -⟩
        · rw [if_pos hx]
        · rw [hx, i10, if_neg (by decide), bd_s, if_neg (by decide)]
      · obtain ⟨w', rfl⟩ : ∃ k, w = k + 1 := ⟨w - 1, by omega⟩
        have hw : w' + 1 ≤ 250 := hw
        have hs14 := s1.1
        have e4 : (4 : Int32) = zI ((4 : Nat) : Int) := rfl
        have e6 : (6 : Int32) = zI ((6 : Nat) : Int) := rfl
        have e2 : (2 : Int32) = zI ((2 : Nat) : Int) := rfl
        have e3 : (3 : Int32) = zI ((3 : Nat) : Int) := rfl
        rw [wt_s (by omega) h15 s1, bd_s, bd_s, bd_s, bd_s]
        have c4 : zI (s : Int) < 4 ↔ s < 4 := by rw [e4, ltN (by omega) (by omega)]
        have c6 : zI (s : Int) ≤ 6 ↔ s ≤ 6 := by rw [e6, leN (by omega) (by omega)]
        have c2 : zI (s : Int) = 2 ↔ s = 2 := by rw [e2, eqN (by omega) (by omega)]
        have c3 : zI (s : Int) = 3 ↔ s = 3 := by rw [e3, eqN (by omega) (by omega)]
        rcases hx with ⟨hx, hlo⟩ | ⟨hx, hlo⟩
        · subst hlo
          by_cases k4 : s < 4
          · rw [if_pos (c4.mpr k4), if_pos hx]
          · rw [if_neg (fun h => k4 (c4.mp h)), if_neg (fun h => by have := c6.mp h; omega), if_pos hx]
        · subst hlo
          have n2 : ¬ zI (s : Int) = 2 := fun h => by have := c2.mp h; omega
          have n3 : ¬ zI (s : Int) = 3 := fun h => by have := c3.mp h; omega
          by_cases k4 : s < 4
          · rw [if_pos (c4.mpr k4), hx, i10, if_neg n2, if_neg n3]
          · rw [if_neg (fun h => k4 (c4.mp h)), if_neg (fun h => by have := c6.mp h; omega), hx, i10, if_neg n2, if_neg n3]
  | cons o q ih =>
    intro N cm f ty hf hw hc he h15 hq hs ht ht2
    obtain ⟨f, rfl⟩ : ∃ k, f = k + 1 := ⟨f - 1, by omega⟩
    have hlen : (o :: q).length = q.length + 1 := rfl
    rw [hlen] at hf hw hc h15 ht2
    obtain ⟨q1, q2, q3⟩ := hq 0 (by rw [hlen]; omega)
    have q1 : stE N (w + (q.length + 1) - 1 - 0) o := q1
    have q2 : lo ≤ o := q2
    have q3 : o ≤ 6 := q3
    have ew : w + (q.length + 1) - 1 - 0 = w + q.length := by omega
    rw [ew] at q1
    have h15' : N.1 15 = zI ((w + q.length + 1 : Nat) : Int) := h15
    have hwt := wt_s (by omega) h15' q1
    obtain ⟨N1, eN1⟩ : ∃ N1, N1 = sI (ntN N cm (zI (1048576 * o + 0))) 15 (zI ((w + q.length : Nat) : Int)) := ⟨_, rfl⟩
    have h37 : f_X12_closesSums_n37 x1 (f_X12_closesSums_n0 x1 f) N = f_X12_closesSums_n0 x1 f N1 := by
      have hn : f_X12_notes N (zI o) 0 = _ := notes_e (by omega) he.1.1 o 0
      have e15 : (ntN N cm (zI (1048576 * o + 0))).1 15 = zI ((w + q.length + 1 : Nat) : Int) := by unfold ntN; rw [sI_o _ _ _ _ (by omega)]; exact h15'
      unfold f_X12_closesSums_n37
      rw [hwt, bd_s, hn, bd_s, e15, zp1, lt_e, ← eN1]
    have hstep : f_X12_closesSums_n0 x1 (f + 1) N = f_X12_closesSums_n0 x1 f N1 := by
      have e4 : (4 : Int32) = zI ((4 : Nat) : Int) := rfl
      have e6 : (6 : Int32) = zI ((6 : Nat) : Int) := rfl
      have e2 : (2 : Int32) = zI ((2 : Nat) : Int) := rfl
      have e3 : (3 : Int32) = zI ((3 : Nat) : Int) := rfl
      have c4 : zI (o : Int) < 4 ↔ o < 4 := by rw [e4, ltN (by omega) (by omega)]
      have c6 : zI (o : Int) ≤ 6 ↔ o ≤ 6 := by rw [e6, leN (by omega) (by omega)]
      have c2 : zI (o : Int) = 2 ↔ o = 2 := by rw [e2, eqN (by omega) (by omega)]
      have c3 : zI (o : Int) = 3 ↔ o = 3 := by rw [e3, eqN (by omega) (by omega)]
      rw [f_X12_closesSums_n0, hwt, bd_s, bd_s, bd_s, bd_s, h37]
      by_cases k4 : o < 4
      · have hx1 : x1 = 1 := by
          rcases hx with ⟨_, hlo⟩ | ⟨hx, _⟩
          · omega
          · exact hx
        rw [if_pos (c4.mpr k4), hx1, i10]
        by_cases k2 : o = 2
        · rw [if_pos (c2.mpr k2)]
        · rw [if_neg (fun h => k2 (c2.mp h)), if_pos (c3.mpr (by omega))]
      · rw [if_neg (fun h => k4 (c4.mp h)), if_pos (c6.mpr q3)]
    have he1 := (em_rn he (ty cm - 1) (by omega) ⟨fun _ => by omega, fun h => by omega, fun h => by omega⟩)
    have he2 : em L N1 c0 a0 (cm + 1) m q (tyU ty (cm + 1) (ty cm - 1)) P := by rw [eN1]; exact he1.nm rfl rfl
    have r19 : N1.2 19 = N.2 19 := by rw [eN1]; unfold ntN; rw [sI_2, sI_2, sA_o _ _ _ _ _ (by omega)]
    obtain ⟨N', ty', a1, a2, a3, a4, a5, a6, a7⟩ := ih N1 (cm + 1) f (tyU ty (cm + 1) (ty cm - 1)) (by omega) (by omega) (by omega) he2 (by rw [eN1, sI_s]) (fun j hj => by
        have := hq (j + 1) (by rw [hlen]; omega)
        have ej : w + (o :: q).length - 1 - (j + 1) = w + q.length - 1 - j := by rw [hlen]; omega
        rw [ej] at this
        exact ⟨this.1.mv (by rw [r19]), this.2⟩) (by
        rcases hs with h | ⟨s, s1, s2⟩
        · exact Or.inl h
        · exact Or.inr ⟨s, s1.mv (by rw [r19]), s2⟩) (by rw [tyU_s]; omega) (by rw [tyU_s]; omega)
    have ec : cm + (o :: q).length = cm + 1 + q.length := by rw [hlen]; omega
    rw [ec, hlen]
    rw [tyU_s] at a3
    refine ⟨N', ty', hstep.trans a1, a2, by omega, a4, fun j h1 h2 => ?_, fun j h1 => ?_, ?_⟩
    · rw [a5 j h1 h2, eN1, sI_o _ _ _ _ h2]; unfold ntN; rw [sI_o _ _ _ _ h1]; rfl
    · rw [a6 j h1, eN1]; unfold ntN; rw [sI_2, sI_2, sA_o _ _ _ _ _ h1]
    · refine lnF.tr ?_ a7
      rw [eN1]; exact (lnF.nt N he.1.2.2.2.1 _).tr (lnF.i _ (by omega) _)
end
theorem hos_t {N : Gr} {W : Nat} (hW : W ≤ 250) (h15 : N.1 15 = zI W) (x1 : Int32) {k : Nat} (hk : k < W) (he : N.2 19 k / 1048576 = 14) : ∀ (d j f : Nat), j + d = k → d < f → f_X12_hasOpenSum_n2 N x1 f (zI j) = some 1 := by
  intro d
  induction d with
  | zero =>
    intro j f hj hf
    obtain ⟨f, rfl⟩ : ∃ k, f = k + 1 := ⟨f - 1, by omega⟩
    have ej : j = k := by omega
    rw [f_X12_hasOpenSum_n2, h15, if_neg (fun h => absurd ((leN (by omega) (by omega)).mp h) (by omega)), rdN (by omega) (by omega), ej, he, lt_e, if_pos rfl]
  | succ d ih =>
    intro j f hj hf
    obtain ⟨f, rfl⟩ : ∃ k, f = k + 1 := ⟨f - 1, by omega⟩
    rw [f_X12_hasOpenSum_n2, h15, if_neg (fun h => absurd ((leN (by omega) (by omega)).mp h) (by omega)), rdN (by omega) (by omega), lt_e]
    by_cases e : N.2 19 j / 1048576 = 14
    · rw [if_pos e]
    · rw [if_neg e, lt_e, zs1]; exact ih (j + 1) f (by omega) (by omega)
theorem hos_f {N : Gr} {W : Nat} (hW : W ≤ 250) (h15 : N.1 15 = zI W) (x1 : Int32) : ∀ (d j f : Nat), j + d = W → d < f → (∀ k, j ≤ k → k < W → ¬ N.2 19 k / 1048576 = 14) → f_X12_hasOpenSum_n2 N x1 f (zI j) = some 0 := by
  intro d
  induction d with
  | zero =>
    intro j f hj hf _
    obtain ⟨f, rfl⟩ : ∃ k, f = k + 1 := ⟨f - 1, by omega⟩
    rw [f_X12_hasOpenSum_n2, h15, if_pos ((leN (by omega) (by omega)).mpr (by omega))]
  | succ d ih =>
    intro j f hj hf hk
    obtain ⟨f, rfl⟩ : ∃ k, f = k + 1 := ⟨f - 1, by omega⟩
    rw [f_X12_hasOpenSum_n2, h15, if_neg (fun h => absurd ((leN (by omega) (by omega)).mp h) (by omega)), rdN (by omega) (by omega), lt_e, if_neg (hk j (by omega) (by omega)), lt_e, zs1]
    exact ih (j + 1) f (by omega) (by omega) (fun k k1 k2 => hk k (by omega) k2)
/-- letters -/
theorem wl_lp {L : Gr} {x : Int32} : ∀ (d m f : Nat), m + d = 10 → d < f → (∃ k, m ≤ k ∧ k < 10 ∧ stL k = x ∧ f_X3_writeLetter_n2 x f L (zI m) = (f_X3_write L 108 (zI k)).bind fun u5 => some (1, u5)) ∨ ((∀ k, m ≤ k → k < 10 → ¬ stL k = x) ∧ f_X3_writeLetter_n2 x f L (zI m) = some (0, L)) := by
  have e10 : (10 : Int32) = zI ((10 : Nat) : Int) := rfl
  intro d
  induction d with
  | zero =>
    intro m f hm hf
    obtain ⟨f, rfl⟩ : ∃ k, f = k + 1 := ⟨f - 1, by omega⟩
    have c : (10 : Int32) ≤ zI m := by rw [e10, leN (by omega) (by omega)]; omega
    rw [f_X3_writeLetter_n2, if_pos c]
    exact Or.inr ⟨fun k h1 h2 => by omega, rfl⟩
  | succ d ih =>
    intro m f hm hf
    obtain ⟨f, rfl⟩ : ∃ k, f = k + 1 := ⟨f - 1, by omega⟩
    have c : ¬ (10 : Int32) ≤ zI m := by rw [e10, leN (by omega) (by omega)]; omega
    rw [f_X3_writeLetter_n2, if_neg c, rdN (by omega) (by omega)]
    by_cases e : stL m = x
    · rw [if_pos e]; exact Or.inl ⟨m, by omega, by omega, e, rfl⟩
    · rw [if_neg e, lt_e, zs1]
      rcases ih (m + 1) f (by omega) (by omega) with ⟨k, k1, k2, k3, k4⟩ | ⟨k1, k2⟩
      · exact Or.inl ⟨k, by omega, k2, k3, k4⟩
      · refine Or.inr ⟨fun k h1 h2 => ?_, k2⟩
        by_cases e2 : k = m
        · rw [e2]; exact e
        · exact k1 k (by omega) h2
theorem fact_k : ∀ k : Nat, k < 10 → f_X12_factOf (stL k) = some (zI k) := by decide +kernel
theorem fact_n {x : Int32} (h : ∀ k, 0 ≤ k → k < 10 → ¬ stL k = x) : f_X12_factOf x = some (-1) := by
  have n0 : ¬ x = 112 := fun e => h 0 (by omega) (by omega) (by rw [e]; rfl)
  have n1 : ¬ x = 102 := fun e => h 1 (by omega) (by omega) (by rw [e]; rfl)
  have n2 : ¬ x = 115 := fun e => h 2 (by omega) (by omega) (by rw [e]; rfl)
  have n3 : ¬ x = 118 := fun e => h 3 (by omega) (by omega) (by rw [e]; rfl)
  have n4 : ¬ x = 100 := fun e => h 4 (by omega) (by omega) (by rw [e]; rfl)
  have n5 : ¬ x = 103 := fun e => h 5 (by omega) (by omega) (by rw [e]; rfl)
  have n6 : ¬ x = 114 := fun e => h 6 (by omega) (by omega) (by rw [e]; rfl)
  have n7 : ¬ x = 99 := fun e => h 7 (by omega) (by omega) (by rw [e]; rfl)
  have n8 : ¬ x = 104 := fun e => h 8 (by omega) (by omega) (by rw [e]; rfl)
  have n9 : ¬ x = 119 := fun e => h 9 (by omega) (by omega) (by rw [e]; rfl)
  unfold f_X12_factOf
  rw [if_neg n7, if_neg n4, if_neg n1, if_neg n5, if_neg n8, if_neg n0, if_neg n6, if_neg n2, if_neg n3, if_neg n9]
