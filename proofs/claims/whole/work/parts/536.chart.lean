/-! chart: the loop of lines, and what becomes of it -/
section
variable {b : Nat → Int} {n : Nat}
theorem rd_lp (hb : txB b n) (T : Gr) (x1 : Int32) : ∀ (d i l f f' : Nat) (X Z N : Gr), n ≤ i + d → d < f → d < f' → txR X N b n i → chR Z N → N.1 37 = zI l → l ≤ 24 → ∃ X' Z' N', crF N N' ∧ ((∃ l' : Nat, 1 ≤ l' ∧ l' ≤ 24 ∧ f_X0_read_n16 T x1 f X Z (zI ((l + 1 : Nat) : Int)) = some (zI l', X', Z') ∧ ((f_X12_readsLine N).bind fun u8 => f_X12_chart_n46 x1 f' u8.2 u8.1) = f_X12_chart_n86 x1 N' 1 ∧ chR Z' N' ∧ N'.1 37 = zI l') ∨ (flR X' N' ∧ f_X0_read_n16 T x1 f X Z (zI ((l + 1 : Nat) : Int)) = some (X'.1 3, X', Z') ∧ ((f_X12_readsLine N).bind fun u8 => f_X12_chart_n46 x1 f' u8.2 u8.1) = f_X12_chart_n86 x1 N' 0)) := by
  have hn := hb.1
  have e0 : (0 : Int32) = zI 0 := rfl
  have em : (-1 : Int32) = zI (-1) := rfl
  intro d
  induction d with
  | zero =>
    intro i l f f' X Z N hd hf hf' h hch hl hl2
    obtain ⟨f, rfl⟩ : ∃ k, f = k + 1 := ⟨f - 1, by omega⟩
    obtain ⟨f', rfl⟩ : ∃ k, f' = k + 1 := ⟨f' - 1, by omega⟩
    have c1 : ¬ (160 : Int32) < zI ((l + 1 : Nat) : Int) := by
      have e : (160 : Int32) = zI ((160 : Nat) : Int) := rfl
      rw [e, ltN (by omega) (by omega)]; omega
    obtain ⟨X', Z', N', q1, q2⟩ := line_b hb h hch hl hl2
    rcases q2 with ⟨i', a1, a2, -⟩ | ⟨a1, a2, a3⟩
    · have := a2.1; omega
    · rw [f_X0_read_n16, if_neg c1, a2, bd_s, a3, bd_s]
      dsimp only
      rw [i00, f_X12_chart_n46, i00]
      exact ⟨X', Z', N', q1, Or.inr ⟨a1, rfl, rfl⟩⟩
  | succ d ih =>
    intro i l f f' X Z N hd hf hf' h hch hl hl2
    obtain ⟨f, rfl⟩ : ∃ k, f = k + 1 := ⟨f - 1, by omega⟩
    obtain ⟨f', rfl⟩ : ∃ k, f' = k + 1 := ⟨f' - 1, by omega⟩
    have c1 : ¬ (160 : Int32) < zI ((l + 1 : Nat) : Int) := by
      have e : (160 : Int32) = zI ((160 : Nat) : Int) := rfl
      rw [e, ltN (by omega) (by omega)]; omega
    obtain ⟨X', Z', N', q1, q2⟩ := line_b hb h hch hl hl2
    rcases q2 with ⟨i', a1, a2, a3, a4, a5, a6, a7⟩ | ⟨a1, a2, a3⟩
    · have hi' := a2.1
      rw [f_X0_read_n16, if_neg c1, a6, bd_s, a7, bd_s]
      dsimp only
      rw [i10, peek_b hb a2, bd_s, f_X12_chart_n46, i10, a2.2.2.1, a2.2.2.2.1]
      by_cases he : n ≤ i'
      · have ec : zI (cu b n i') = -1 := by
          unfold cu
          rw [if_neg (by omega)]; rfl
        rw [if_pos ec, if_pos ((leN (by omega) (by omega)).mpr he)]
        exact ⟨X', Z', N', q1, Or.inl ⟨l + 1, by omega, by omega, rfl, rfl, a3, a5⟩⟩
      · have ec : ¬ zI (cu b n i') = -1 := by
          unfold cu
          have := hb.2 i' (by omega)
          rw [if_pos (by omega), em, zI_eq (by omega) (by omega) (by omega) (by omega)]; omega
        rw [if_neg ec, if_neg (fun h => he ((leN (by omega) (by omega)).mp h))]
        rcases over_b hb a2 59 (by omega) (by omega) with ⟨b1, b2', b3, b4⟩ | ⟨b1, b3, b4⟩
        · have b3 : f_X9_stepOver X' 59 = _ := b3
          have b4 : f_X12_takes N' 59 = _ := b4
          rw [b3, bd_s, b4, bd_s]
          dsimp only
          rw [i10, i10, lt_e, zs1]
          obtain ⟨X2, Z2, N2, s1, s2⟩ := ih (i' + 1) (l + 1) f f' (sI X' 2 (zI ((i' + 1 : Nat) : Int))) Z' (sI N' 9 (zI ((i' + 1 : Nat) : Int))) (by omega) (by omega) (by omega) (a2.nx b2' (sI_s _ _ _) rfl rfl) a3 a5 (by omega)
          refine ⟨X2, Z2, N2, q1.tr ((crF.i N' (by omega) _).tr s1), ?_⟩
          have hfl : ∀ (O : Option (Int32 × Gr)), (O.bind fun u13 => if u13.1 = 0 then (f_X12_chart_n46 x1 f' u13.2 0) else (f_X12_chart_n46 x1 f' u13.2 1)) = (O.bind fun u8 => f_X12_chart_n46 x1 f' u8.2 u8.1) ∨ ∃ u, O = some u ∧ u.1 ≠ 0 ∧ u.1 ≠ 1 := fun O => by
            cases O with
            | none => exact Or.inl rfl
            | some u =>
              by_cases u0 : u.1 = 0
              · left
                show (if u.1 = 0 then (f_X12_chart_n46 x1 f' u.2 0) else (f_X12_chart_n46 x1 f' u.2 1)) = f_X12_chart_n46 x1 f' u.2 u.1
                rw [if_pos u0, u0]
              · by_cases u1 : u.1 = 1
                · left
                  show (if u.1 = 0 then (f_X12_chart_n46 x1 f' u.2 0) else (f_X12_chart_n46 x1 f' u.2 1)) = f_X12_chart_n46 x1 f' u.2 u.1
                  rw [if_neg u0, u1]
                · exact Or.inr ⟨u, rfl, u0, u1⟩
          rcases hfl (f_X12_readsLine (sI N' 9 (zI ((i' + 1 : Nat) : Int)))) with e | ⟨u, e1, e2, e3⟩
          · rw [e]; exact s2
          · exfalso
            obtain ⟨X3, Z3, N3, -, r2⟩ := line_b hb (X := sI X' 2 (zI ((i' + 1 : Nat) : Int))) (Z := Z') (N := sI N' 9 (zI ((i' + 1 : Nat) : Int))) (i := i' + 1) (l := l + 1) (a2.nx b2' (sI_s _ _ _) rfl rfl) a3 a5 (by omega)
            rcases r2 with ⟨_, _, _, _, _, _, _, r⟩ | ⟨_, _, r⟩
            · rw [e1] at r; cases r; exact e3 rfl
            · rw [e1] at r; cases r; exact e2 rfl
        · have b3 : f_X9_stepOver X' 59 = _ := b3
          have b4 : f_X12_takes N' 59 = _ := b4
          rw [b3, bd_s, b4, bd_s]
          dsimp only
          obtain ⟨f', rfl⟩ : ∃ k, f' = k + 1 := ⟨f' - 1, by omega⟩
          rw [i00, i00, f_X12_chart_n46, i00]
          exact ⟨_, Z', _, q1.tr (crF.i N' (k := 11) (by omega) _), Or.inr ⟨fl_of X' N' (by omega) (by omega) (by omega), rfl, rfl⟩⟩
    · rw [f_X0_read_n16, if_neg c1, a2, bd_s, a3, bd_s]
      dsimp only
      rw [i00, f_X12_chart_n46, i00]
      exact ⟨X', Z', N', q1, Or.inr ⟨a1, rfl, rfl⟩⟩
end
theorem c118 (x1 : Int32) : ∀ (d m f : Nat) (N : Gr), m + d = 64 → d < f → ∃ N', f_X12_chart_n118 x1 f N (zI m) = f_X12_chart_n142 x1 fu N' 0 ∧ N'.1 = N.1 ∧ (∀ j, j ≠ 0 → N'.2 j = N.2 j) ∧ ∀ j, N'.2 0 j = if m ≤ j ∧ j < 64 then 99 else N.2 0 j := by
  intro d
  induction d with
  | zero =>
    intro m f N hm hf
    obtain ⟨f, rfl⟩ : ∃ k, f = k + 1 := ⟨f - 1, by omega⟩
    rw [f_X12_chart_n118, if_pos (le64 (by omega) (by omega))]
    exact ⟨N, rfl, rfl, fun _ _ => rfl, fun j => by rw [if_neg (by omega)]⟩
  | succ d ih =>
    intro m f N hm hf
    obtain ⟨f, rfl⟩ : ∃ k, f = k + 1 := ⟨f - 1, by omega⟩
    rw [f_X12_chart_n118, if_neg (nle64 (by omega)), Int32.zero_add, ckN (by omega) (by omega), clN (by omega), lt_e, lt_e, zs1]
    obtain ⟨N', q1, q2, q3, q4⟩ := ih (m + 1) f (sA N 0 m 99) (by omega) (by omega)
    refine ⟨N', q1, q2, fun j hj => by rw [q3 j hj, sA_o _ _ _ _ _ hj], fun j => ?_⟩
    rw [q4 j, sA_s]
    by_cases e : j = m
    · rw [if_pos e, if_neg (by omega), if_pos (by omega)]
    · rw [if_neg e]
      by_cases e2 : m + 1 ≤ j ∧ j < 64
      · rw [if_pos e2, if_pos (by omega)]
      · rw [if_neg e2, if_neg (by omega)]
theorem c142 (x1 : Int32) : ∀ (d m f : Nat) (N : Gr), m + d = 8 → d < f → ∃ N', f_X12_chart_n142 x1 f N (zI m) = some (N.1 37, N') ∧ N'.1 = N.1 ∧ (∀ j, j ≠ 0 → j ≠ 3 → j ≠ 4 → N'.2 j = N.2 j) ∧ (∀ j, N'.2 0 j = if 64 + m ≤ j ∧ j < 72 then N.2 32 (j - 64) else if 72 + m ≤ j ∧ j < 80 then N.2 34 (j - 72) else N.2 0 j) ∧ (∀ j, N'.2 3 j = if m ≤ j ∧ j < 8 then N.2 31 j else N.2 3 j) ∧ ∀ j, N'.2 4 j = if m ≤ j ∧ j < 8 then N.2 33 j else N.2 4 j := by
  intro d
  induction d with
  | zero =>
    intro m f N hm hf
    obtain ⟨f, rfl⟩ : ∃ k, f = k + 1 := ⟨f - 1, by omega⟩
    rw [f_X12_chart_n142, if_pos (le8 (by omega) (by omega))]
    exact ⟨N, rfl, rfl, fun _ _ _ _ => rfl, fun j => by rw [if_neg (by omega), if_neg (by omega)], fun j => by rw [if_neg (by omega)], fun j => by rw [if_neg (by omega)]⟩
  | succ d ih =>
    intro m f N hm hf
    obtain ⟨f, rfl⟩ : ∃ k, f = k + 1 := ⟨f - 1, by omega⟩
    rw [f_X12_chart_n142, if_neg (nle8 (by omega)), ix64, ix72, rdN (by omega) (by omega), ckN (by omega) (by omega), clN (by omega), lt_e, rdN (by omega) (by omega), ckN (by omega) (by omega), lt_e, rdN (by omega) (by omega), ckN (by omega) (by omega), clN (by omega), lt_e, rdN (by omega) (by omega), ckN (by omega) (by omega), clN (by omega), lt_e, lt_e, zs1]
    obtain ⟨N', q1, q2, q3, q4, q5, q6⟩ := ih (m + 1) f (sA (sA (sA (sA N 3 m (N.2 31 m)) 4 m (N.2 33 m)) 0 (64 + m) (N.2 32 m)) 0 (72 + m) (N.2 34 m)) (by omega) (by omega)
    refine ⟨N', q1, q2, fun j h0 h3 h4 => by rw [q3 j h0 h3 h4, sA_o _ _ _ _ _ h0, sA_o _ _ _ _ _ h0, sA_o _ _ _ _ _ h4, sA_o _ _ _ _ _ h3], fun j => ?_, fun j => ?_, fun j => ?_⟩
    · rw [q4 j]
      show (if 64 + (m + 1) ≤ j ∧ j < 72 then N.2 32 (j - 64) else if 72 + (m + 1) ≤ j ∧ j < 80 then N.2 34 (j - 72) else (sA (sA (sA (sA N 3 m (N.2 31 m)) 4 m (N.2 33 m)) 0 (64 + m) (N.2 32 m)) 0 (72 + m) (N.2 34 m)).2 0 j) = _
      rw [sA_s, sA_s, sA_o _ _ _ _ _ (show (0 : Nat) ≠ 4 by omega), sA_o _ _ _ _ _ (show (0 : Nat) ≠ 3 by omega)]
      by_cases e1 : j = 64 + m
      · rw [if_neg (by omega), if_neg (by omega), if_neg (by omega), if_pos e1, if_pos (by omega), e1, show 64 + m - 64 = m by omega]
      · by_cases e2 : j = 72 + m
        · rw [if_neg (by omega), if_neg (by omega), if_pos e2, if_neg (by omega), if_pos (by omega), e2, show 72 + m - 72 = m by omega]
        · rw [if_neg e1, if_neg e2]
          by_cases e3 : 64 + (m + 1) ≤ j ∧ j < 72
          · rw [if_pos e3, if_pos (by omega)]
          · rw [if_neg e3]
            by_cases e4 : 72 + (m + 1) ≤ j ∧ j < 80
            · rw [if_pos e4, if_neg (by omega), if_pos (by omega)]
            · rw [if_neg e4, if_neg (by omega), if_neg (by omega)]
    · rw [q5 j]
      show (if m + 1 ≤ j ∧ j < 8 then N.2 31 j else (sA (sA (sA (sA N 3 m (N.2 31 m)) 4 m (N.2 33 m)) 0 (64 + m) (N.2 32 m)) 0 (72 + m) (N.2 34 m)).2 3 j) = _
      rw [sA_o _ _ _ _ _ (show (3 : Nat) ≠ 0 by omega), sA_o _ _ _ _ _ (show (3 : Nat) ≠ 0 by omega), sA_o _ _ _ _ _ (show (3 : Nat) ≠ 4 by omega), sA_s]
      by_cases e1 : j = m
      · rw [if_neg (by omega), if_pos e1, if_pos (by omega), e1]
      · rw [if_neg e1]
        by_cases e2 : m + 1 ≤ j ∧ j < 8
        · rw [if_pos e2, if_pos (by omega)]
        · rw [if_neg e2, if_neg (by omega)]
    · rw [q6 j]
      show (if m + 1 ≤ j ∧ j < 8 then N.2 33 j else (sA (sA (sA (sA N 3 m (N.2 31 m)) 4 m (N.2 33 m)) 0 (64 + m) (N.2 32 m)) 0 (72 + m) (N.2 34 m)).2 4 j) = _
      rw [sA_o _ _ _ _ _ (show (4 : Nat) ≠ 0 by omega), sA_o _ _ _ _ _ (show (4 : Nat) ≠ 0 by omega), sA_s, sA_o _ _ _ _ _ (show (4 : Nat) ≠ 3 by omega)]
      by_cases e1 : j = m
      · rw [if_neg (by omega), if_pos e1, if_pos (by omega), e1]
      · rw [if_neg e1]
        by_cases e2 : m + 1 ≤ j ∧ j < 8
        · rw [if_pos e2, if_pos (by omega)]
        · rw [if_neg e2, if_neg (by omega)]
theorem c86 (x1 : Int32) (N : Gr) : ∃ N', f_X12_chart_n86 x1 N 1 = some (N.1 37, N') ∧ N'.1 5 = N.1 35 ∧ N'.1 6 = N.1 36 ∧ N'.1 8 = 0 ∧ (∀ j, j ≠ 5 → j ≠ 6 → j ≠ 8 → N'.1 j = N.1 j) ∧ (∀ j, j ≠ 0 → j ≠ 3 → j ≠ 4 → N'.2 j = N.2 j) ∧ (∀ j, j < 64 → N'.2 0 j = 99) ∧ (∀ g, g < 8 → N'.2 0 (64 + g) = N.2 32 g ∧ N'.2 0 (72 + g) = N.2 34 g ∧ N'.2 3 g = N.2 31 g ∧ N'.2 4 g = N.2 33 g) ∧ N'.2 0 80 = N.2 0 80 ∧ N'.2 0 81 = N.2 0 81 := by
  obtain ⟨N1, a1, a2, a3, a4⟩ := c118 x1 64 0 fu (sI (sI (sI N 8 0) 5 (N.1 35)) 6 (N.1 36)) (by omega) (by decide)
  obtain ⟨N', b1, b2', b3, b4, b5, b6⟩ := c142 x1 8 0 fu N1 (by omega) (by decide)
  have hN1 : N'.1 = (sI (sI (sI N 8 0) 5 (N.1 35)) 6 (N.1 36)).1 := b2'.trans a2
  refine ⟨N', ?_, ?_, ?_, ?_, fun j h5 h6 h8 => ?_, fun j h0 h3 h4 => ?_, fun j hj => ?_, fun g hg => ⟨?_, ?_, ?_, ?_⟩, ?_, ?_⟩
  · unfold f_X12_chart_n86
    rw [lt_e, i10, lt_e, lt_e]
    have e : N1.1 37 = N.1 37 := by rw [a2]; rfl
    refine Eq.trans a1 (Eq.trans b1 ?_)
    rw [e]
  · rw [hN1]; rfl
  · rw [hN1]; rfl
  · rw [hN1]; rfl
  · rw [hN1, sI_o _ _ _ _ h6, sI_o _ _ _ _ h5, sI_o _ _ _ _ h8]
  · rw [b3 j h0 h3 h4, a3 j h0]; rfl
  · rw [b4 j, if_neg (by omega), if_neg (by omega), a4 j, if_pos (by omega)]
  · rw [b4, if_pos (by omega), a3 32 (by omega)]
    show N.2 32 (64 + g - 64) = N.2 32 g
    rw [show 64 + g - 64 = g by omega]
  · rw [b4, if_neg (by omega), if_pos (by omega), a3 34 (by omega)]
    show N.2 34 (72 + g - 72) = N.2 34 g
    rw [show 72 + g - 72 = g by omega]
  · rw [b5, if_pos (by omega), a3 31 (by omega)]; rfl
  · rw [b6, if_pos (by omega), a3 33 (by omega)]; rfl
  · rw [b4, if_neg (by omega), if_neg (by omega), a4, if_neg (by omega)]; rfl
  · rw [b4, if_neg (by omega), if_neg (by omega), a4, if_neg (by omega)]; rfl
theorem chart_ok : hp_chart Inv := by
  intro C M hI x
  obtain ⟨h1, h2, h3, h4, h5⟩ := id hI
  obtain ⟨k, hk⟩ := tpR.of hI.1
  have hk260 := hk.1
  have e0 : (0 : Int32) = zI 0 := rfl
  have sc0 : ∀ D : Nat → Gr, sc' 0 13 14 D = D := fun D => if_pos rfl
  have sc1 : ∀ D : Nat → Gr, sc' 1 13 14 D = fun i => if i = 13 then D 14 else if i = 14 then D 13 else D i := fun D => if_neg (by decide)
  have same : Inv (sc' 0 13 14 (va_up (va_up (va_up C 1 (C 1)) 5 (C 5)) 14 (C 14))) M := by
    rw [sc0]; exact Inv_keep hI (keepM.rf M) hI.1 rfl rfl rfl rfl
  unfold f_X11_chart f_X12_chart
  rw [within_e, in_e, bd_s, bd_s]
  by_cases hx : (1 : Int32) ≤ x ∧ x ≤ 160
  · rw [decide_eq_true hx, b2_t, i10, i10]
    obtain ⟨n, hn1, hn2, rfl⟩ := in_of2 1 160 (by omega) (by omega) hx
    rw [has_b hk (by omega), bd_s]
    by_cases hck : n ≤ k
    · rw [decide_eq_true hck, b2_t, i10, if_pos ((hasm_b hk (by omega)).mpr hck), begin_e, bd_s, lt_e, lt_e, lt_e]
      have hb := txB_of hk (n := n) (by omega) hck
      obtain ⟨X0, x1, x2, x3, x4, x5⟩ := take_b (X := C 5) hk (n := n) (by omega) hck
      obtain ⟨N0, eN0⟩ : ∃ N0, N0 = sI (sI (sI (sI (sI (sI (sI M 9 0) 10 (zI n)) 14 0) 16 0) 35 0) 36 0) 37 0 := ⟨_, rfl⟩
      have n1 : ∀ j, j ≠ 9 → j ≠ 10 → j ≠ 14 → j ≠ 16 → j ≠ 35 → j ≠ 36 → j ≠ 37 → N0.1 j = M.1 j := fun j a b c d e f g => by rw [eN0, sI_o _ _ _ _ g, sI_o _ _ _ _ f, sI_o _ _ _ _ e, sI_o _ _ _ _ d, sI_o _ _ _ _ c, sI_o _ _ _ _ b, sI_o _ _ _ _ a]
      have n2 : N0.2 = M.2 := by rw [eN0]; rfl
      have hT : txR X0 N0 (bz (C 1)) n 0 := by
        refine ⟨by omega, ⟨x2, x3, x4, x5⟩, ?_, ?_, fun j hj => ?_⟩
        · rw [eN0]; rfl
        · rw [eN0]; rfl
        · rw [n2]; exact (tp_v hk (by omega)).2.2.2
      obtain ⟨Z0, eZ0⟩ : ∃ Z0, Z0 = sI (sI (C 14) 0 0) 1 0 := ⟨_, rfl⟩
      have hC0 : chR Z0 N0 := by
        have w35 : N0.1 35 = 0 := by rw [eN0]; rfl
        have w36 : N0.1 36 = 0 := by rw [eN0]; rfl
        refine ⟨by rw [w35, eZ0]; rfl, by rw [w36, eZ0]; rfl, by rw [w35]; exact lt256_0, by rw [w36]; exact lt256_0, fun p _ ht => ?_, fun p _ ht => ?_⟩
        · rw [w35] at ht; exact absurd ht (tw_0 p)
        · rw [w36] at ht; exact absurd ht (tw_0 p)
      obtain ⟨X', Z', N', q1, q2⟩ := rd_lp hb (C 1) (zI n) n 0 0 fu fu X0 Z0 N0 (by omega) (by show n < 1000; omega) (by show n < 1000; omega) hT hC0 (by rw [eN0]; rfl) (by omega)
      have hR : f_X0_read (C 5) (C 1) (C 14) (zI n) = f_X0_read_n16 (C 1) (zI n) fu X0 Z0 1 := by
        unfold f_X0_read f_X7_clearChart
        rw [x1, bd_s, lt_e, lt_e, bd_s, ← eZ0]
      rw [hR, ← eN0, empty_e]
      have m1 : ∀ j, (j = 5 ∨ j = 6 ∨ j = 17 ∨ j = 54 ∨ j = 55 ∨ j = 56) → N'.1 j = M.1 j := fun j hj => (q1.1 j (by omega) (by omega) (by omega) (by omega) (by omega) (by omega) (by omega)).trans (n1 j (by omega) (by omega) (by omega) (by omega) (by omega) (by omega) (by omega))
      have m2 : ∀ j, j ≠ 31 → j ≠ 32 → j ≠ 33 → j ≠ 34 → N'.2 j = M.2 j := fun j a b c d => (q1.2 j a b c d).trans (by rw [n2])
      rcases q2 with ⟨l, l1, l2, a1, a2, a3, a4⟩ | ⟨⟨z, z1, z2, z3, z4⟩, a2, a3⟩
      · have a1 : f_X0_read_n16 (C 1) (zI n) fu X0 Z0 1 = some (zI l, X', Z') := a1
        obtain ⟨N2, d1, d2, d3, d4, d5, d6, d7, d8, d9, d10⟩ := c86 (zI n) N'
        have c1 : ¬ zI (l : Int) ≤ 0 := by rw [e0, zI_le (by omega) (by omega) (by omega) (by omega)]; omega
        rw [a1, bd_s, bd_s, a2, d1]
        dsimp only
        rw [if_neg c1, lt_e, lt_e]
        refine ⟨_, _, rfl, rfl, a4.symm, ?_⟩
        dsimp only
        rw [sc1]
        obtain ⟨c1, c2, c3, c4, c5, c6⟩ := a3
        obtain ⟨g1, g2, g3, g4, ⟨hh, g5, g6, g7, g8⟩, ⟨dd, g9, g10, g11, g12⟩, -, -⟩ := h2
        refine ⟨?_, ?_, ?_, ?_, ?_⟩
        · show tapeOK 0 ((C 1).2 0) (N2.1 8) (N2.2 7)
          rw [d4, d6 7 (by omega) (by omega) (by omega), m2 7 (by omega) (by omega) (by omega) (by omega)]
          exact ⟨⟨0, by omega, rfl, rfl⟩, hk.2.2.2⟩
        · show seaDyn (Z'.1 0) (Z'.1 1) ((C 13).1 9) ((C 13).1 10) (Z'.2 4) (Z'.2 5) (Z'.2 6) (Z'.2 8) (N2.1 5) (N2.1 6) (N2.2 0)
          rw [d2, d3]
          refine ⟨c1, c2, ?_, ?_, ⟨hh, g5, g6, g7, ?_⟩, ⟨dd, g9, g10, g11, ?_⟩, fun p hp ht s hs => ?_, fun g hg ht => ?_⟩
          · obtain ⟨a, ha, e⟩ := lt256_z c3
            exact ⟨a, by omega, by omega, e⟩
          · obtain ⟨a, ha, e⟩ := lt256_z c4
            exact ⟨a, by omega, by omega, e⟩
          · rw [d9, m2 0 (by omega) (by omega) (by omega) (by omega)]; exact g8
          · rw [d10, m2 0 (by omega) (by omega) (by omega) (by omega)]; exact g12
          · obtain ⟨x', y', u1, u2, u3, u4, u5⟩ := c5 p hp ht
            exact ⟨99, by omega, by omega, u5 s hs, d7 _ (by omega)⟩
          · obtain ⟨x', y', v, c, ⟨u1, u2, u3, u4⟩, ⟨v1, v2, v3, v4⟩, w1, w2, w3, w4, w5, w6, w7⟩ := c6 g hg ht
            obtain ⟨r1, r2, r3, r4⟩ := d8 g hg
            exact ⟨x', y', c, u1, u2, u3, u4, v3, v4, w1, w2, r1.trans w3, w6, r2.trans w7⟩
        · show seaFix (Z'.2 2) (Z'.2 3) (Z'.2 7) (N2.1 5) (N2.1 6) (N2.2 3) (N2.2 4)
          rw [d2, d3]
          refine ⟨fun p hp ht => ?_, fun g hg ht => ?_⟩
          · obtain ⟨x', y', ⟨u1, u1', u1'', u1'''⟩, u2, u3, u4, u5⟩ := c5 p hp ht
            obtain ⟨r1, r2, r3, r4⟩ := d8 p hp
            exact ⟨x', y', u1, u1', u1'', u1''', u2, u3, r3.trans u4⟩
          · obtain ⟨x', y', v, c, ⟨u1, u2, u3, u4⟩, ⟨v1, v2, v3, v4⟩, w1, w2, w3, w4, w5, w6, w7⟩ := c6 g hg ht
            obtain ⟨r1, r2, r3, r4⟩ := d8 g hg
            exact ⟨v, v1, v2, w4, r4.trans w5⟩
        · show keptOK ((C 0).1 12) ((C 15).1 0) ((C 15).1 1) ((C 15).1 9) ((C 15).1 10) ((C 15).2 4) ((C 15).2 5) ((C 15).2 6) ((C 15).2 8) (N2.1 54) (N2.1 55) (N2.1 56) (N2.2 2)
          rw [d5 54 (by omega) (by omega) (by omega), d5 55 (by omega) (by omega) (by omega), d5 56 (by omega) (by omega) (by omega), m1 54 (by omega), m1 55 (by omega), m1 56 (by omega), d6 2 (by omega) (by omega) (by omega), m2 2 (by omega) (by omega) (by omega) (by omega)]
          exact h4
        · show lawOK ((C 11).1 0) ((C 11).2 1) ((C 11).2 2) ((C 11).2 3) ((C 11).1 4) ((C 11).2 5) ((C 11).2 6) (N2.1 17) (N2.2 24) (N2.2 25) (N2.2 26) (N2.2 27) (N2.2 28)
          rw [d5 17 (by omega) (by omega) (by omega), m1 17 (by omega), d6 24 (by omega) (by omega) (by omega), d6 25 (by omega) (by omega) (by omega), d6 26 (by omega) (by omega) (by omega), d6 27 (by omega) (by omega) (by omega), d6 28 (by omega) (by omega) (by omega), m2 24 (by omega) (by omega) (by omega) (by omega), m2 25 (by omega) (by omega) (by omega) (by omega), m2 26 (by omega) (by omega) (by omega) (by omega), m2 27 (by omega) (by omega) (by omega) (by omega), m2 28 (by omega) (by omega) (by omega) (by omega)]
          exact h5
      · have a2 : f_X0_read_n16 (C 1) (zI n) fu X0 Z0 1 = some (X'.1 3, X', Z') := a2
        have c1 : zI z ≤ 0 := by rw [e0, zI_le (by omega) (by omega) (by omega) (by omega)]; omega
        have d1 : f_X12_chart_n86 (zI n) N' 0 = some (N'.1 11, sI N' 8 0) := by
          unfold f_X12_chart_n86
          rw [lt_e, i00]; rfl
        rw [a2, bd_s, bd_s, a3, d1]
        dsimp only
        rw [z3, if_pos c1, z4]
        refine ⟨_, _, rfl, rfl, rfl, ?_⟩
        dsimp only
        rw [sc0]
        exact emp_of hI (fun j hj => by rw [sI_o _ _ _ _ (by omega)]; exact m1 j hj) (sI_s _ _ _) (fun j hj => by rw [sI_2]; exact m2 j (by omega) (by omega) (by omega) (by omega)) rfl rfl rfl rfl rfl
    · rw [decide_eq_false hck, b2_f, i00, if_neg (fun h => hck ((hasm_b hk (by omega)).mp h))]
      exact ⟨_, _, rfl, rfl, rfl, same⟩
  · rw [decide_eq_false hx, b2_f, i00, i00]; exact ⟨_, _, rfl, rfl, rfl, same⟩
