/-! law: the loop of rules, and what becomes of it -/
section
variable {b : Nat → Int} {n : Nat}
theorem lwl_lp (hb : txB b n) (T : Gr) (x1 : Int32) : ∀ (d i k f f' : Nat) (X L N : Gr) (r m cm : Nat), n ≤ i + d → k ≤ i → d < f → d < f' → txR X N b n i → ruR L N r m cm → m ≤ i → ∃ X' L' N', lwF N N' ∧ ((∃ r' m' cm' : Nat, 1 ≤ r' ∧ m' ≤ 240 ∧ ruR L' N' r' m' cm' ∧ f_X4_read_n16 T x1 f X L (zI k) = some (zI r', X', L') ∧ ((f_X12_readsRule N).bind fun u5 => f_X12_law_n31 x1 f' u5.2 u5.1) = f_X12_law_n95 x1 fu (sI (sI N' 8 0) 17 (N'.1 16)) 0) ∨ (flR X' N' ∧ f_X4_read_n16 T x1 f X L (zI k) = some (X'.1 3, X', L') ∧ ((f_X12_readsRule N).bind fun u5 => f_X12_law_n31 x1 f' u5.2 u5.1) = some (N'.1 11, sI N' 8 0))) := by
  have hn := hb.1
  have em : (-1 : Int32) = zI (-1) := rfl
  have e240 : (240 : Int32) = zI ((240 : Nat) : Int) := rfl
  have n31_0 : ∀ (f' : Nat) (N : Gr), f_X12_law_n31 x1 (f' + 1) N 0 = some (N.1 11, sI N 8 0) := fun f' N => by
    rw [f_X12_law_n31, i00, lt_e, i00]; rfl
  intro d
  induction d with
  | zero =>
    intro i k f f' X L N r m cm hd hk hf hf' h hru hm
    obtain ⟨f, rfl⟩ : ∃ k, f = k + 1 := ⟨f - 1, by omega⟩
    obtain ⟨f', rfl⟩ : ∃ k, f' = k + 1 := ⟨f' - 1, by omega⟩
    have hi := h.1
    have c1 : ¬ (240 : Int32) < zI k := by rw [e240, ltN (by omega) (by omega)]; omega
    obtain ⟨X', L', N', q1, q2⟩ := rule_b hb h hru hm
    rcases q2 with ⟨i', m', cm', a1, a2, -⟩ | ⟨a1, a2, a3⟩
    · have := a2.1; omega
    · rw [f_X4_read_n16, if_neg c1, a2, bd_s, a3, bd_s]
      dsimp only
      rw [i00, n31_0]
      exact ⟨X', L', N', q1, Or.inr ⟨a1, rfl, rfl⟩⟩
  | succ d ih =>
    intro i k f f' X L N r m cm hd hk hf hf' h hru hm
    obtain ⟨f, rfl⟩ : ∃ k, f = k + 1 := ⟨f - 1, by omega⟩
    obtain ⟨f', rfl⟩ : ∃ k, f' = k + 1 := ⟨f' - 1, by omega⟩
    have hi := h.1
    have c1 : ¬ (240 : Int32) < zI k := by rw [e240, ltN (by omega) (by omega)]; omega
    obtain ⟨X', L', N', q1, q2⟩ := rule_b hb h hru hm
    rcases q2 with ⟨i', m', cm', a1, a2, a3, a4, a5, a6⟩ | ⟨a1, a2, a3⟩
    · have hi' := a2.1
      rw [f_X4_read_n16, if_neg c1, a5, bd_s, a6, bd_s]
      dsimp only
      rw [i10, peek_b hb a2, bd_s, f_X12_law_n31, i10, a2.2.2.1, a2.2.2.2.1]
      by_cases he : n ≤ i'
      · have ec : zI (cu b n i') = -1 := by
          unfold cu
          rw [if_neg (by omega)]; rfl
        have hsz : f_X3_size L' = some (zI ((r + 1 : Nat) : Int)) := by unfold f_X3_size; rw [a3.1.1]
        rw [if_pos ec, if_pos ((leN (by omega) (by omega)).mpr he), hsz, bd_s, lt_e, i10, lt_e]
        exact ⟨X', L', N', q1, Or.inl ⟨r + 1, m', cm', by omega, by omega, a3, rfl, rfl⟩⟩
      · have ec : ¬ zI (cu b n i') = -1 := by
          unfold cu
          have := hb.2 i' (by omega)
          rw [if_pos (by omega), em, zI_eq (by omega) (by omega) (by omega) (by omega)]; omega
        rw [if_neg ec, if_neg (fun h => he ((leN (by omega) (by omega)).mp h))]
        rcases over_b hb a2 59 (by omega) (by omega) with ⟨b1, b2', b3, b4⟩ | ⟨b1, b3, b4⟩
        · have b3 : f_X9_stepOver X' 59 = _ := b3
          have b4 : f_X12_takes N' 59 = _ := b4
          rw [b3, bd_s, b4, bd_s]
          dsimp only
          rw [i10, i10, lt_e, zs1]
          have hru2 : ruR L' (sI N' 9 (zI ((i' + 1 : Nat) : Int))) (r + 1) m' cm' := a3
          have h2 : txR (sI X' 2 (zI ((i' + 1 : Nat) : Int))) (sI N' 9 (zI ((i' + 1 : Nat) : Int))) b n (i' + 1) := a2.nx b2' (sI_s _ _ _) rfl rfl
          obtain ⟨X2, L2, N2, s1, s2⟩ := ih (i' + 1) (k + 1) f f' _ L' _ (r + 1) m' cm' (by omega) (by omega) (by omega) (by omega) h2 hru2 (by omega)
          refine ⟨X2, L2, N2, q1.tr ((lwF.i N' (by omega) _).tr s1), ?_⟩
          have hfl : ((f_X12_readsRule (sI N' 9 (zI ((i' + 1 : Nat) : Int)))).bind fun u16 => if u16.1 = 0 then (f_X12_law_n31 x1 f' u16.2 0) else (f_X12_law_n31 x1 f' u16.2 1)) = ((f_X12_readsRule (sI N' 9 (zI ((i' + 1 : Nat) : Int)))).bind fun u5 => f_X12_law_n31 x1 f' u5.2 u5.1) := by
            obtain ⟨X3, L3, N3, -, r2⟩ := rule_b hb h2 hru2 (by omega)
            rcases r2 with ⟨_, _, _, _, _, _, _, _, rr⟩ | ⟨_, _, rr⟩
            · rw [rr, bd_s, bd_s]; dsimp only; rw [i10]
            · rw [rr, bd_s, bd_s]; dsimp only; rw [i00]
          rw [hfl]; exact s2
        · have b3 : f_X9_stepOver X' 59 = _ := b3
          have b4 : f_X12_takes N' 59 = _ := b4
          rw [b3, bd_s, b4, bd_s]
          dsimp only
          obtain ⟨f', rfl⟩ : ∃ k, f' = k + 1 := ⟨f' - 1, by omega⟩
          rw [i00, i00, n31_0]
          exact ⟨_, L', _, q1.tr (lwF.i N' (k := 11) (by omega) _), Or.inr ⟨fl_of X' N' (by omega) (by omega) (by omega), rfl, rfl⟩⟩
    · rw [f_X4_read_n16, if_neg c1, a2, bd_s, a3, bd_s]
      dsimp only
      rw [i00, n31_0]
      exact ⟨X', L', N', q1, Or.inr ⟨a1, rfl, rfl⟩⟩
end
theorem l95 (x1 : Int32) {cm : Nat} (hcm : cm ≤ 240) : ∀ (d k f : Nat) (N : Gr), k + d = cm → d < f → N.1 14 = zI cm → ∃ N', f_X12_law_n95 x1 f N (zI k) = f_X12_law_n123 x1 fu N' 0 ∧ N'.1 = N.1 ∧ (∀ j, j ≠ 24 → N'.2 j = N.2 j) ∧ ∀ j, N'.2 24 j = if k ≤ j ∧ j < cm then N.2 18 j else N.2 24 j := by
  intro d
  induction d with
  | zero =>
    intro k f N hk hf h14
    obtain ⟨f, rfl⟩ : ∃ k, f = k + 1 := ⟨f - 1, by omega⟩
    rw [f_X12_law_n95, h14, if_pos ((leN (by omega) (by omega)).mpr (by omega))]
    exact ⟨N, rfl, rfl, fun _ _ => rfl, fun j => by rw [if_neg (by omega)]⟩
  | succ d ih =>
    intro k f N hk hf h14
    obtain ⟨f, rfl⟩ : ∃ k, f = k + 1 := ⟨f - 1, by omega⟩
    rw [f_X12_law_n95, h14, if_neg (fun h => absurd ((leN (by omega) (by omega)).mp h) (by omega)), rdN (by omega) (by omega), ckN (by omega) (by omega), clN (by omega), lt_e, lt_e, zs1]
    obtain ⟨N', q1, q2, q3, q4⟩ := ih (k + 1) f (sA N 24 k (N.2 18 k)) (by omega) (by omega) h14
    refine ⟨N', q1, q2, fun j hj => by rw [q3 j hj, sA_o _ _ _ _ _ hj], fun j => ?_⟩
    rw [q4 j, sA_o _ _ _ _ _ (show (18 : Nat) ≠ 24 by omega), sA_s]
    by_cases e : j = k
    · rw [if_neg (by omega), if_pos e, if_pos (by omega), e]
    · rw [if_neg e]
      by_cases e2 : k + 1 ≤ j ∧ j < cm
      · rw [if_pos e2, if_pos (by omega)]
      · rw [if_neg e2, if_neg (by omega)]
theorem l123 (x1 : Int32) {r : Nat} (hr : r ≤ 16) : ∀ (d k f : Nat) (N : Gr), k + d = r → d < f → N.1 16 = zI r → ∃ N', f_X12_law_n123 x1 f N (zI k) = some (zI r, N') ∧ N'.1 = N.1 ∧ (∀ j, j ≠ 25 → j ≠ 26 → j ≠ 27 → j ≠ 28 → N'.2 j = N.2 j) ∧ (∀ j, N'.2 25 j = if k ≤ j ∧ j < r then N.2 20 j else N.2 25 j) ∧ (∀ j, N'.2 26 j = if k ≤ j ∧ j < r then N.2 21 j else N.2 26 j) ∧ (∀ j, N'.2 27 j = if k ≤ j ∧ j < r then N.2 22 j else N.2 27 j) ∧ ∀ j, N'.2 28 j = if k ≤ j ∧ j < r then N.2 23 j else N.2 28 j := by
  intro d
  induction d with
  | zero =>
    intro k f N hk hf h16
    obtain ⟨f, rfl⟩ : ∃ k, f = k + 1 := ⟨f - 1, by omega⟩
    rw [f_X12_law_n123, h16, if_pos ((leN (by omega) (by omega)).mpr (by omega))]
    exact ⟨N, rfl, rfl, fun _ _ _ _ _ => rfl, fun j => by rw [if_neg (by omega)], fun j => by rw [if_neg (by omega)], fun j => by rw [if_neg (by omega)], fun j => by rw [if_neg (by omega)]⟩
  | succ d ih =>
    intro k f N hk hf h16
    obtain ⟨f, rfl⟩ : ∃ k, f = k + 1 := ⟨f - 1, by omega⟩
    obtain ⟨N4, eN4⟩ : ∃ N4, N4 = sA (sA (sA (sA N 25 k (N.2 20 k)) 26 k (N.2 21 k)) 27 k (N.2 22 k)) 28 k (N.2 23 k) := ⟨_, rfl⟩
    have hs : f_X12_law_n123 x1 (f + 1) N (zI k) = f_X12_law_n123 x1 f N4 (zI ((k + 1 : Nat) : Int)) := by
      rw [f_X12_law_n123, h16, if_neg (fun h => absurd ((leN (by omega) (by omega)).mp h) (by omega)), rdN (by omega) (by omega), ckN (by omega) (by omega), clN (by omega), lt_e, rdN (by omega) (by omega), ckN (by omega) (by omega), lt_e, rdN (by omega) (by omega), ckN (by omega) (by omega), lt_e, rdN (by omega) (by omega), ckN (by omega) (by omega), lt_e, lt_e, zs1, eN4]
      rfl
    obtain ⟨N', q1, q2, q3, q4, q5, q6, q7⟩ := ih (k + 1) f N4 (by omega) (by omega) (by rw [eN4]; exact h16)
    have x20 : N4.2 20 = N.2 20 := by rw [eN4]; rfl
    have x21 : N4.2 21 = N.2 21 := by rw [eN4]; rfl
    have x22 : N4.2 22 = N.2 22 := by rw [eN4]; rfl
    have x23 : N4.2 23 = N.2 23 := by rw [eN4]; rfl
    have x25 : ∀ j, N4.2 25 j = if j = k then N.2 20 k else N.2 25 j := fun j => by rw [eN4, sA_o _ _ _ _ _ (by omega), sA_o _ _ _ _ _ (by omega), sA_o _ _ _ _ _ (by omega), sA_s]
    have x26 : ∀ j, N4.2 26 j = if j = k then N.2 21 k else N.2 26 j := fun j => by rw [eN4, sA_o _ _ _ _ _ (by omega), sA_o _ _ _ _ _ (by omega), sA_s, sA_o _ _ _ _ _ (by omega)]
    have x27 : ∀ j, N4.2 27 j = if j = k then N.2 22 k else N.2 27 j := fun j => by rw [eN4, sA_o _ _ _ _ _ (by omega), sA_s, sA_o _ _ _ _ _ (by omega), sA_o _ _ _ _ _ (by omega)]
    have x28 : ∀ j, N4.2 28 j = if j = k then N.2 23 k else N.2 28 j := fun j => by rw [eN4, sA_s, sA_o _ _ _ _ _ (by omega), sA_o _ _ _ _ _ (by omega), sA_o _ _ _ _ _ (by omega)]
    have fin : ∀ (A B : Nat → Int32) (j : Nat), (if k + 1 ≤ j ∧ j < r then A j else if j = k then A k else B j) = if k ≤ j ∧ j < r then A j else B j := fun A B j => by
      by_cases e : j = k
      · rw [if_neg (by omega), if_pos e, if_pos (by omega), e]
      · rw [if_neg e]
        by_cases e2 : k + 1 ≤ j ∧ j < r
        · rw [if_pos e2, if_pos (by omega)]
        · rw [if_neg e2, if_neg (by omega)]
    refine ⟨N', hs.trans q1, by rw [q2, eN4]; rfl, fun j a b c d => by rw [q3 j a b c d, eN4, sA_o _ _ _ _ _ d, sA_o _ _ _ _ _ c, sA_o _ _ _ _ _ b, sA_o _ _ _ _ _ a], fun j => ?_, fun j => ?_, fun j => ?_, fun j => ?_⟩
    · rw [q4 j, x20, x25]; exact fin _ _ j
    · rw [q5 j, x21, x26]; exact fin _ _ j
    · rw [q6 j, x22, x27]; exact fin _ _ j
    · rw [q7 j, x23, x28]; exact fin _ _ j
theorem law_ok : hp_law Inv := by
  intro C M hI x
  obtain ⟨h1, h2, h3, h4, h5⟩ := id hI
  obtain ⟨k, hk⟩ := tpR.of hI.1
  have hk260 := hk.1
  have e0 : (0 : Int32) = zI 0 := rfl
  have sc0 : ∀ D : Nat → Gr, sc' 0 11 12 D = D := fun D => if_pos rfl
  have sc1 : ∀ D : Nat → Gr, sc' 1 11 12 D = fun i => if i = 11 then D 12 else if i = 12 then D 11 else D i := fun D => if_neg (by decide)
  have same : Inv (sc' 0 11 12 (va_up (va_up (va_up C 1 (C 1)) 3 (C 3)) 12 (C 12))) M := by
    rw [sc0]; exact Inv_keep hI (keepM.rf M) hI.1 rfl rfl rfl rfl
  unfold f_X11_law f_X12_law
  rw [within_e, in_e, bd_s, bd_s]
  by_cases hx : (1 : Int32) ≤ x ∧ x ≤ 240
  · rw [decide_eq_true hx, b2_t, i10, i10]
    obtain ⟨n, hn1, hn2, rfl⟩ := in_of2 1 240 (by omega) (by omega) hx
    rw [has_b hk (by omega), bd_s]
    by_cases hck : n ≤ k
    · rw [decide_eq_true hck, b2_t, i10, if_pos ((hasm_b hk (by omega)).mpr hck), begin_e, bd_s]
      have hb := txB_of hk (n := n) (by omega) hck
      obtain ⟨X0, x1, x2, x3, x4, x5⟩ := take_b (X := C 3) hk (n := n) (by omega) hck
      obtain ⟨N0, eN0⟩ : ∃ N0, N0 = sI (sI (sI (sI M 9 0) 10 (zI n)) 14 0) 16 0 := ⟨_, rfl⟩
      have n1 : ∀ j, j ≠ 9 → j ≠ 10 → j ≠ 14 → j ≠ 16 → N0.1 j = M.1 j := fun j a b c d => by rw [eN0, sI_o _ _ _ _ d, sI_o _ _ _ _ c, sI_o _ _ _ _ b, sI_o _ _ _ _ a]
      have n2 : N0.2 = M.2 := by rw [eN0]; rfl
      have hT : txR X0 N0 (bz (C 1)) n 0 := by
        refine ⟨by omega, ⟨x2, x3, x4, x5⟩, ?_, ?_, fun j hj => ?_⟩
        · rw [eN0]; rfl
        · rw [eN0]; rfl
        · rw [n2]; exact (tp_v hk (by omega)).2.2.2
      obtain ⟨L0, eL0⟩ : ∃ L0, L0 = sI (sI (C 12) 0 0) 4 0 := ⟨_, rfl⟩
      have hR0 : ruR L0 N0 0 0 0 := ⟨⟨by rw [eL0]; rfl, by rw [eN0]; rfl, by omega, by rw [eL0]; rfl, by rw [eN0]; rfl, by omega⟩, fun q hq => by omega⟩
      obtain ⟨X', L', N', q1, q2⟩ := lwl_lp hb (C 1) (zI n) n 0 0 fu fu X0 L0 N0 0 0 0 (by omega) (by omega) (by show n < 1000; omega) (by show n < 1000; omega) hT hR0 (by omega)
      have hRd : f_X4_read (C 3) (C 1) (C 12) (zI n) = f_X4_read_n16 (C 1) (zI n) fu X0 L0 0 := by
        unfold f_X4_read f_X3_clearRules
        rw [x1, bd_s, lt_e, lt_e, bd_s, ← eL0]
      rw [hRd, ← eN0, empty_e]
      have m1 : ∀ j, (j = 5 ∨ j = 6 ∨ j = 17 ∨ j = 54 ∨ j = 55 ∨ j = 56) → N'.1 j = M.1 j := fun j hj => (q1.1 j (by omega) (by omega) (by omega) (by omega) (by omega) (by omega) (by omega)).trans (n1 j (by omega) (by omega) (by omega) (by omega))
      have m2 : ∀ j, j ≠ 18 → j ≠ 19 → j ≠ 20 → j ≠ 21 → j ≠ 22 → j ≠ 23 → N'.2 j = M.2 j := fun j a b c d e f => (q1.2 j a b c d e f).trans (by rw [n2])
      rcases q2 with ⟨r, m, cm, r1, r2, r3, a1, a2⟩ | ⟨⟨z, z1, z2, z3, z4⟩, a2, a3⟩
      · have a1 : f_X4_read_n16 (C 1) (zI n) fu X0 L0 0 = some (zI r, X', L') := a1
        obtain ⟨⟨d1, d2, d3, d4, d5, d6⟩, d7⟩ := r3
        obtain ⟨N2, b1, b2', b3, b4⟩ := l95 (zI n) (cm := cm) (by omega) cm 0 fu (sI (sI N' 8 0) 17 (N'.1 16)) (by omega) (by show cm < 1000; omega) d5
        obtain ⟨N3, c1, c2, c3, c4, c5, c6, c7⟩ := l123 (zI n) (r := r) d3 r 0 fu N2 (by omega) (by show r < 1000; omega) (by rw [b2']; exact d2)
        have b1 : f_X12_law_n95 (zI n) fu (sI (sI N' 8 0) 17 (N'.1 16)) 0 = f_X12_law_n123 (zI n) fu N2 0 := b1
        have c1 : f_X12_law_n123 (zI n) fu N2 0 = some (zI r, N3) := c1
        have hpos : ¬ zI (r : Int) ≤ 0 := by rw [e0, zI_le (by omega) (by omega) (by omega) (by omega)]; omega
        rw [a1, bd_s, bd_s, a2, b1, c1]
        dsimp only
        rw [if_neg hpos]
        refine ⟨_, _, rfl, rfl, rfl, ?_⟩
        dsimp only
        rw [sc1]
        have hN1 : N3.1 = (sI (sI N' 8 0) 17 (N'.1 16)).1 := c2.trans b2'
        have w1 : ∀ j, (j = 5 ∨ j = 6 ∨ j = 54 ∨ j = 55 ∨ j = 56) → N3.1 j = M.1 j := fun j hj => by rw [hN1, sI_o _ _ _ _ (by omega), sI_o _ _ _ _ (by omega)]; exact m1 j (by omega)
        have w8 : N3.1 8 = 0 := by rw [hN1]; rfl
        have w17 : N3.1 17 = zI r := by rw [hN1, sI_s]; exact d2
        have w2 : ∀ j, (j = 0 ∨ j = 2 ∨ j = 3 ∨ j = 4 ∨ j = 7) → N3.2 j = M.2 j := fun j hj => by rw [c3 j (by omega) (by omega) (by omega) (by omega), b3 j (by omega)]; exact m2 j (by omega) (by omega) (by omega) (by omega) (by omega) (by omega)
        have w24 : ∀ j, j < cm → N3.2 24 j = N'.2 18 j := fun j hj => by rw [c3 24 (by omega) (by omega) (by omega) (by omega), b4 j, if_pos (by omega)]; rfl
        have wq : ∀ q, q < r → N3.2 25 q = N'.2 20 q ∧ N3.2 26 q = N'.2 21 q ∧ N3.2 27 q = N'.2 22 q ∧ N3.2 28 q = N'.2 23 q := fun q hq => by
          rw [c4, c5, c6, c7, if_pos (by omega), if_pos (by omega), if_pos (by omega), if_pos (by omega), b3 20 (by omega), b3 21 (by omega), b3 22 (by omega), b3 23 (by omega)]; exact ⟨rfl, rfl, rfl, rfl⟩
        refine ⟨?_, ?_, ?_, ?_, ?_⟩
        · show tapeOK 0 ((C 1).2 0) (N3.1 8) (N3.2 7)
          rw [w8, w2 7 (by omega)]
          exact ⟨⟨0, by omega, rfl, rfl⟩, hk.2.2.2⟩
        · show seaDyn ((C 13).1 0) ((C 13).1 1) ((C 13).1 9) ((C 13).1 10) ((C 13).2 4) ((C 13).2 5) ((C 13).2 6) ((C 13).2 8) (N3.1 5) (N3.1 6) (N3.2 0)
          rw [w1 5 (by omega), w1 6 (by omega), w2 0 (by omega)]; exact h2
        · show seaFix ((C 13).2 2) ((C 13).2 3) ((C 13).2 7) (N3.1 5) (N3.1 6) (N3.2 3) (N3.2 4)
          rw [w1 5 (by omega), w1 6 (by omega), w2 3 (by omega), w2 4 (by omega)]; exact h3
        · show keptOK ((C 0).1 12) ((C 15).1 0) ((C 15).1 1) ((C 15).1 9) ((C 15).1 10) ((C 15).2 4) ((C 15).2 5) ((C 15).2 6) ((C 15).2 8) (N3.1 54) (N3.1 55) (N3.1 56) (N3.2 2)
          rw [w1 54 (by omega), w1 55 (by omega), w1 56 (by omega), w2 2 (by omega)]; exact h4
        · show lawOK (L'.1 0) (L'.2 1) (L'.2 2) (L'.2 3) (L'.1 4) (L'.2 5) (L'.2 6) (N3.1 17) (N3.2 24) (N3.2 25) (N3.2 26) (N3.2 27) (N3.2 28)
          refine ⟨r, m, d3, d1, w17, r2, d4, fun q hq => ?_⟩
          obtain ⟨y1, y2, y3, y4⟩ := wq q hq
          obtain ⟨T, A, B, D, W, S, t1, t2, t3, t4, t5, t6, t7, t8, t9, t10, t11, t12⟩ := d7 q hq
          refine ⟨T, A, B, D, W, S, t1, t2, y1.trans t3, y2.trans t4, y3.trans t5, y4.trans t6, by omega, t8, t9, fun hT => ?_, t11.mv t12 (fun _ _ => rfl) (fun _ _ => rfl) (fun k hk => w24 k (by omega)), t12⟩
          obtain ⟨p1, p2⟩ := t10 hT
          have := t11.1
          exact ⟨p1.mv p2 (fun _ _ => rfl) (fun _ _ => rfl) (fun k hk => w24 k (by omega)), p2⟩
      · have a2 : f_X4_read_n16 (C 1) (zI n) fu X0 L0 0 = some (X'.1 3, X', L') := a2
        have c1 : zI z ≤ 0 := by rw [e0, zI_le (by omega) (by omega) (by omega) (by omega)]; omega
        rw [a2, bd_s, bd_s, a3]
        dsimp only
        rw [z3, if_pos c1, z4]
        refine ⟨_, _, rfl, rfl, rfl, ?_⟩
        dsimp only
        rw [sc0]
        exact emp_of hI (fun j hj => by rw [sI_o _ _ _ _ (by omega)]; exact m1 j hj) (sI_s _ _ _) (fun j hj => by rw [sI_2]; exact m2 j (by omega) (by omega) (by omega) (by omega) (by omega) (by omega)) rfl rfl rfl rfl rfl
    · rw [decide_eq_false hck, b2_f, i00, if_neg (fun h => hck ((hasm_b hk (by omega)).mp h))]
      exact ⟨_, _, rfl, rfl, rfl, same⟩
  · rw [decide_eq_false hx, b2_f, i00, i00]; exact ⟨_, _, rfl, rfl, rfl, same⟩
