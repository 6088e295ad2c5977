/-! tension, keep -/
theorem dyn_upd {w f h d : Int32} {te fx fy co : Nat → Int32} {w' f' : Int32} {now : Nat → Int32} (H : seaDyn w f h d te fx fy co w' f' now) {i : Nat} (hi : i < 64) {t : Int} (h1 : 0 ≤ t) (h2 : t ≤ 99) : seaDyn w f h d (upd te i (zI t)) fx fy co w' f' (upd now i (zI t)) := by
  obtain ⟨a1, a2, a3, a4, ⟨hh, b1, b2, b3, b4⟩, ⟨dd, c1, c2, c3, c4⟩, a7, a8⟩ := H
  refine ⟨a1, a2, a3, a4, ⟨hh, b1, b2, b3, by rw [upd_e, if_neg (by omega)]; exact b4⟩, ⟨dd, c1, c2, c3, by rw [upd_e, if_neg (by omega)]; exact c4⟩, fun p hp ht s hs => ?_, fun g hg ht => ?_⟩
  · by_cases e : 8 * p + s = i
    · exact ⟨t, h1, h2, by rw [upd_e, if_pos e], by rw [upd_e, if_pos e]⟩
    · obtain ⟨t', k1, k2, k3, k4⟩ := a7 p hp ht s hs
      exact ⟨t', k1, k2, by rw [upd_e, if_neg e]; exact k3, by rw [upd_e, if_neg e]; exact k4⟩
  · obtain ⟨x, y, c, c1, c2, c3, c4, c5, c6, c7, c8, c9, c10, c11⟩ := a8 g hg ht
    exact ⟨x, y, c, c1, c2, c3, c4, c5, c6, c7, c8, by rw [upd_e, if_neg (by omega)]; exact c9, c10, by rw [upd_e, if_neg (by omega)]; exact c11⟩
theorem tension_ok : hp_tension Inv := by
  intro C M hI x y z
  obtain ⟨h1, h2, h3, h4, h5⟩ := id hI
  unfold f_X11_tension f_X12_tension
  rw [hasWeb_e, isWeb_e, bd_s, bd_s, h2.1]
  cases ht : tb (M.1 5) x with
  | false => rw [b2_f, i00, i00]; exact ⟨_, _, rfl, rfl, rfl, h1, h2, h3, h4, h5⟩
  | true =>
    obtain ⟨p, hp, rfl, htw⟩ := tb_t ht
    rw [b2_t, i10, i10, within_e, in_e, bd_s, bd_s, within_e, in_e, bd_s, bd_s]
    by_cases hy : (0 : Int32) ≤ y ∧ y ≤ 7
    · rw [decide_eq_true hy, b2_t, i10, i10]
      by_cases hz : (0 : Int32) ≤ z ∧ z ≤ 99
      · rw [decide_eq_true hz, b2_t, i10, i10]
        obtain ⟨s, hs, rfl⟩ := in_of 7 (by omega) hy
        obtain ⟨t, ht9, rfl⟩ := in_of 99 (by omega) hz
        rw [ix8, ix8m, ckN (by omega) (by omega), ckN (by omega) (by omega), clN (by omega), lt_e, lt_e]
        exact ⟨_, _, rfl, rfl, rfl, h1, dyn_upd h2 (by omega) (by omega) (by omega), h3, h4, h5⟩
      · rw [decide_eq_false hz, b2_f, i00, i00]; exact ⟨_, _, rfl, rfl, rfl, h1, h2, h3, h4, h5⟩
    · rw [decide_eq_false hy, b2_f, i00, i00]; exact ⟨_, _, rfl, rfl, rfl, h1, h2, h3, h4, h5⟩
theorem dyn_congr {w f h d : Int32} {te fx fy co te' fx' fy' co' : Nat → Int32} {w' f' : Int32} {now now' : Nat → Int32} (H : seaDyn w f h d te fx fy co w' f' now) (e1 : ∀ i, i < 64 → te' i = te i) (e2 : ∀ i, i < 8 → fx' i = fx i) (e3 : ∀ i, i < 8 → fy' i = fy i) (e4 : ∀ i, i < 8 → co' i = co i) (e5 : ∀ i, i < 82 → now' i = now i) : seaDyn w f h d te' fx' fy' co' w' f' now' := by
  obtain ⟨a1, a2, a3, a4, ⟨hh, b1, b2, b3, b4⟩, ⟨dd, c1, c2, c3, c4⟩, a7, a8⟩ := H
  refine ⟨a1, a2, a3, a4, ⟨hh, b1, b2, b3, by rw [e5 80 (by omega)]; exact b4⟩, ⟨dd, c1, c2, c3, by rw [e5 81 (by omega)]; exact c4⟩, fun p hp ht s hs => ?_, fun g hg ht => ?_⟩
  · rw [e1 _ (by omega), e5 _ (by omega)]; exact a7 p hp ht s hs
  · rw [e2 _ hg, e3 _ hg, e4 _ hg, e5 _ (by omega), e5 _ (by omega)]; exact a8 g hg ht
theorem copies_lp {S0 : Gr} : ∀ (d m n : Nat) (S1 : Gr), m + d = 82 → d < n → (∀ j, j < m → S1.2 0 j = S0.2 0 j) → ∃ R, f_X12_copies_n2 S0 n S1 (zI m) = some R ∧ ∀ j, j < 82 → R.2 0 j = S0.2 0 j := by
  intro d
  induction d with
  | zero =>
    intro m n S1 hm hn h
    obtain ⟨n, rfl⟩ : ∃ k, n = k + 1 := ⟨n - 1, by omega⟩
    exact ⟨S1, by rw [f_X12_copies_n2, if_pos (le82 (by omega) (by omega))], fun j hj => h j (by omega)⟩
  | succ d ih =>
    intro m n S1 hm hn h
    obtain ⟨n, rfl⟩ : ∃ k, n = k + 1 := ⟨n - 1, by omega⟩
    rw [f_X12_copies_n2, if_neg (nle82 (by omega)), rdN (by omega) (by omega), ckN (by omega) (by omega), clN (by omega), lt_e, lt_e, zs1]
    refine ih (m + 1) n _ (by omega) (by omega) (fun j hj => ?_)
    rw [sA_2, if_pos rfl, upd_e]
    by_cases e : j = m
    · rw [if_pos e, e]
    · rw [if_neg e]; exact h j (by omega)
theorem copies_b (A B : Gr) : ∃ R, f_X12_copies A B = some R ∧ ∀ j, j < 82 → R.2 0 j = A.2 0 j :=
  copies_lp 82 0 fu B (by omega) (by decide) (fun j hj => absurd hj (by omega))
theorem cp_8 {β : Type} {k : Option β} : cp' 0 0 8 8 8 k = k := if_neg (by decide)
theorem cp_64 {β : Type} {k : Option β} : cp' 0 0 64 64 64 k = k := if_neg (by decide)
theorem cpy_8 {f g : Nat → Int32} {j : Nat} (h : j < 8) : va_cpy f g (Int32.toNatClampNeg 0) (Int32.toNatClampNeg 0) (Int32.toNatClampNeg 8) j = f j := by
  rw [show Int32.toNatClampNeg 0 = 0 from by decide, show Int32.toNatClampNeg 8 = 8 from by decide, pk_cpy_in (by omega) (by omega)]; congr 1; omega
theorem cpy_64 {f g : Nat → Int32} {j : Nat} (h : j < 64) : va_cpy f g (Int32.toNatClampNeg 0) (Int32.toNatClampNeg 0) (Int32.toNatClampNeg 64) j = f j := by
  rw [show Int32.toNatClampNeg 0 = 0 from by decide, show Int32.toNatClampNeg 64 = 64 from by decide, pk_cpy_in (by omega) (by omega)]; congr 1; omega
/-- a copy of a sea -/
def cpS (A B : Gr) : Prop := A.1 0 = B.1 0 ∧ A.1 1 = B.1 1 ∧ A.1 9 = B.1 9 ∧ A.1 10 = B.1 10 ∧ (∀ j, j < 8 → A.2 2 j = B.2 2 j) ∧ (∀ j, j < 8 → A.2 3 j = B.2 3 j) ∧ (∀ j, j < 64 → A.2 4 j = B.2 4 j) ∧ (∀ j, j < 8 → A.2 5 j = B.2 5 j) ∧ (∀ j, j < 8 → A.2 6 j = B.2 6 j) ∧ (∀ j, j < 8 → A.2 7 j = B.2 7 j) ∧ (∀ j, j < 8 → A.2 8 j = B.2 8 j)
theorem copyFrom_b (A B : Gr) : ∃ R, f_X7_copyFrom A B = some R ∧ cpS R B := by
  unfold f_X7_copyFrom
  simp only [cp_8, cp_64, lt_e]
  exact ⟨_, rfl, rfl, rfl, rfl, rfl, fun j hj => cpy_8 hj, fun j hj => cpy_8 hj, fun j hj => cpy_64 hj, fun j hj => cpy_8 hj, fun j hj => cpy_8 hj, fun j hj => cpy_8 hj, fun j hj => cpy_8 hj⟩
theorem keep_ok : hp_keep Inv := by
  intro C M hI
  obtain ⟨h1, h2, h3, h4, h5⟩ := id hI
  unfold f_X11_keep f_X12_keep
  obtain ⟨R, q1, q2⟩ := copyFrom_b (C 15) (C 13)
  rw [q1, bd_s]
  simp only [lt_e]
  obtain ⟨N, p1, p2⟩ := copies_b ((fun _ => 0, fun _ => (sI (sI (sI M 54 1) 55 ((sI M 54 1).1 5)) 56 ((sI (sI M 54 1) 55 ((sI M 54 1).1 5)).1 6)).2 0) : Gr) ((fun _ => 0, fun _ => (sI (sI (sI M 54 1) 55 ((sI M 54 1).1 5)) 56 ((sI (sI M 54 1) 55 ((sI M 54 1).1 5)).1 6)).2 2) : Gr)
  rw [p1, bd_s]
  have e80 : (80 : Int32) = zI ((80 : Nat) : Int) := rfl
  rw [e80, rdN (by omega) (by omega)]
  obtain ⟨c1, c2, c3, c4, c5, c6, c7, c8, c9, c10, c11⟩ := q2
  obtain ⟨hh, b1, b2, b3, b4⟩ := h2.2.2.2.2.1
  refine ⟨_, _, rfl, rfl, b3.trans b4.symm, h1, h2, h3, ⟨rfl, Or.inr ⟨rfl, ?_⟩⟩, h5⟩
  show seaDyn (R.1 0) (R.1 1) (R.1 9) (R.1 10) (R.2 4) (R.2 5) (R.2 6) (R.2 8) (M.1 5) (M.1 6) (N.2 0)
  rw [c1, c2, c3, c4]
  exact dyn_congr h2 c7 c8 c9 c11 p2
