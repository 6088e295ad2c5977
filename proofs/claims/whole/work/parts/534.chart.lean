/-! chart: a spot, a web's line, a fleet's line -/
def spC (X Z : Gr) (K : Int32 → Int32 → Gr → Option (Int32 × Gr × Gr)) : Option (Int32 × Gr × Gr) := (f_X9_stepOver X 64).bind fun u19 => if u19.1 = 0 then (some (0, u19.2, Z)) else ((f_X0_coordinate u19.2 23).bind fun u21 => if u21.1 = (-1) then (some (0, u21.2, Z)) else ((f_X9_stepOver u21.2 44).bind fun u23 => if u23.1 = 0 then (some (0, u23.2, Z)) else ((f_X0_coordinate u23.2 15).bind fun u25 => if u25.1 = (-1) then (some (0, u25.2, Z)) else K u21.1 u25.1 u25.2)))
theorem n110_e (x2 : Int32) (X Z : Gr) (x3 x4 : Int32) : f_X0_line_n110 x2 X Z x3 x4 = (f_X9_step X).bind fun u18 => spC u18 Z (fun x y X' => if x3 = 0 then ((f_X0_fleet X' Z x4 x y).bind fun u28 => zb' u28.1 (some (u28.1, u28.2.1, u28.2.2))) else ((f_X7_tellWeb Z x4 x y).bind fun u29 => some (1, X', u29))) := rfl
def flT (S0_3 : Gr) (x1 : Int32) : Option (Int32 × Gr) := (f_X12_takes S0_3 58).bind fun u4 => if u4.1 = 0 then (some (0, u4.2)) else ((f_X12_readsWithin u4.2 99).bind fun u6 => if u6.1 = 0 then (some (0, u6.2)) else (ck' 8 x1 (lt' (sA u6.2 33 (Int32.toNatClampNeg x1) (u6.2.1 12)) fun S0_8 => ck' 8 x1 (lt' (sA S0_8 34 (Int32.toNatClampNeg x1) (-1)) fun S0_9 => (f_X12_here S0_9).bind fun u10 => if u10 = 62 then (lt' (sI S0_9 9 ((S0_9.1 9) + 1)) fun S0_12 => (f_X12_here S0_12).bind fun u13 => (f_X12_in u13 48 55).bind fun u14 => if u14 = 0 then ((f_X12_wrongAt S0_12 1 (S0_12.1 9)).bind fun u19 => zb' u19.1 (some (u19.1, u19.2))) else ((f_X12_here S0_12).bind fun u16 => ck' 8 x1 (lt' (sA S0_12 34 (Int32.toNatClampNeg x1) (u16 - 48)) fun S0_17 => lt' (sI S0_17 9 ((S0_17.1 9) + 1)) fun S0_18 => some (1, S0_18)))) else (some (1, S0_9))))))
theorem rdFl_e (S : Gr) (x1 : Int32) : f_X12_readsFleet S x1 = (f_X12_readsSpot S).bind fun u1 => if u1.1 = 0 then (some (0, u1.2)) else (ck' 8 x1 (lt' (sA u1.2 32 (Int32.toNatClampNeg x1) (u1.2.1 38)) fun S0_3 => flT S0_3 x1)) := rfl
section
variable {b : Nat → Int} {n : Nat}
theorem spot_b (hb : txB b n) {X N : Gr} {i : Nat} (h : txR X N b n i) : ∃ X' N', crF N N' ∧ crK N N' ∧ ((∃ (i' : Nat) (x y : Int), i < i' ∧ txR X' N' b n i' ∧ (0 ≤ x ∧ x < 24 ∧ 0 ≤ y ∧ y < 16) ∧ N'.1 38 = zI (24 * y + x) ∧ (∀ Z K, spC X Z K = K (zI x) (zI y) X') ∧ f_X12_readsSpot N = some (1, N')) ∨ (flR X' N' ∧ (∀ Z K, spC X Z K = some (0, X', Z)) ∧ f_X12_readsSpot N = some (0, N'))) := by
  have em : (-1 : Int32) = zI (-1) := rfl
  have hi0 := h.1
  have hn := hb.1
  have ne1 : ∀ {v : Int}, 0 ≤ v → v ≤ 99 → ¬ zI v = (-1 : Int32) := fun {v} v0 v1 => by rw [em, zI_eq (by omega) (by omega) (by omega) (by omega)]; omega
  rcases over_b hb h 64 (by omega) (by omega) with ⟨a1, a2, a3, a4⟩ | ⟨a1, a3, a4⟩
  · have a3 : f_X9_stepOver X 64 = _ := a3
    have a4 : f_X12_takes N 64 = _ := a4
    have h1 : txR _ (sI N 9 (zI ((i + 1 : Nat) : Int))) b n (i + 1) := h.nx a2 (sI_s _ _ _) rfl rfl
    obtain ⟨X1, N1, c1, c2, c3⟩ := coo_b hb h1 (hi := 23) (by omega) (by omega)
    have f1 : crF N N1 := (crF.i N (by omega) _).tr c1
    have k1 : crK N N1 := crK.tr ⟨⟨rfl, rfl, rfl⟩, rfl⟩ c2
    rcases c3 with ⟨i1, x, d1, d2, d3, d4, d5, d6, d7, d8⟩ | ⟨d1, d2, -, d4⟩
    · have d7 : f_X0_coordinate (sI X 2 (zI ((i + 1 : Nat) : Int))) 23 = _ := d7
      have d8 : f_X12_readsWithin (sI N 9 (zI ((i + 1 : Nat) : Int))) 23 = _ := d8
      rcases over_b hb d2 44 (by omega) (by omega) with ⟨e1, e2, e3, e4⟩ | ⟨e1, e3, e4⟩
      · have e3 : f_X9_stepOver X1 44 = _ := e3
        have e4 : f_X12_takes N1 44 = _ := e4
        have h2 : txR _ (sI N1 9 (zI ((i1 + 1 : Nat) : Int))) b n (i1 + 1) := d2.nx e2 (sI_s _ _ _) rfl rfl
        obtain ⟨X2, N2, g1, g2, g3⟩ := coo_b hb h2 (hi := 15) (by omega) (by omega)
        have f2 : crF N N2 := f1.tr ((crF.i N1 (by omega) _).tr g1)
        have k2 : crK N N2 := k1.tr (crK.tr ⟨⟨rfl, rfl, rfl⟩, rfl⟩ g2)
        rcases g3 with ⟨i2, y, m1, m2, m3, m4, m5, m6, m7, m8⟩ | ⟨m1, m2, -, m4⟩
        · have m7 : f_X0_coordinate (sI X1 2 (zI ((i1 + 1 : Nat) : Int))) 15 = _ := m7
          have m8 : f_X12_readsWithin (sI N1 9 (zI ((i1 + 1 : Nat) : Int))) 15 = _ := m8
          have e24 : (24 : Int32) = zI 24 := rfl
          refine ⟨X2, sI N2 38 (zI (24 * y + x)), f2.tr (crF.i N2 (by omega) _), k2.tr ⟨⟨rfl, rfl, rfl⟩, rfl⟩, Or.inl ⟨i2, x, y, by omega, m2.nm rfl rfl rfl, by omega, sI_s _ _ _, fun Z K => ?_, ?_⟩⟩
          · unfold spC
            rw [a3, bd_s]; dsimp only; rw [i10, d7, bd_s]; dsimp only; rw [if_neg (ne1 d3 (by omega)), e3, bd_s]; dsimp only; rw [i10, m7, bd_s]; dsimp only; rw [if_neg (ne1 m3 (by omega))]
          · unfold f_X12_readsSpot
            rw [a4, bd_s]; dsimp only; rw [i10, d8, bd_s]; dsimp only; rw [i10, lt_e, d5, e4, bd_s]; dsimp only; rw [i10, m8, bd_s]; dsimp only; rw [i10, m5, e24, zI_mul, zI_add, lt_e]
        · have m2 : f_X0_coordinate (sI X1 2 (zI ((i1 + 1 : Nat) : Int))) 15 = _ := m2
          have m4 : f_X12_readsWithin (sI N1 9 (zI ((i1 + 1 : Nat) : Int))) 15 = _ := m4
          refine ⟨X2, N2, f2, k2, Or.inr ⟨m1, fun Z K => ?_, ?_⟩⟩
          · unfold spC
            rw [a3, bd_s]; dsimp only; rw [i10, d7, bd_s]; dsimp only; rw [if_neg (ne1 d3 (by omega)), e3, bd_s]; dsimp only; rw [i10, m2, bd_s]; dsimp only; rw [if_pos rfl]
          · unfold f_X12_readsSpot
            rw [a4, bd_s]; dsimp only; rw [i10, d8, bd_s]; dsimp only; rw [i10, lt_e, d5, e4, bd_s]; dsimp only; rw [i10, m4, bd_s]; dsimp only; rw [i00]
      · have e3 : f_X9_stepOver X1 44 = _ := e3
        have e4 : f_X12_takes N1 44 = _ := e4
        have hi1 := d2.1
        refine ⟨_, _, f1.tr (crF.i N1 (k := 11) (by omega) (zI (ft 1 i1))), k1.tr ⟨⟨rfl, rfl, rfl⟩, rfl⟩, Or.inr ⟨fl_of X1 N1 (by omega) (by omega) (by omega), fun Z K => ?_, ?_⟩⟩
        · unfold spC
          rw [a3, bd_s]; dsimp only; rw [i10, d7, bd_s]; dsimp only; rw [if_neg (ne1 d3 (by omega)), e3, bd_s]; dsimp only; rw [i00]
        · unfold f_X12_readsSpot
          rw [a4, bd_s]; dsimp only; rw [i10, d8, bd_s]; dsimp only; rw [i10, lt_e, e4, bd_s]; dsimp only; rw [i00]
    · have d2 : f_X0_coordinate (sI X 2 (zI ((i + 1 : Nat) : Int))) 23 = _ := d2
      have d4 : f_X12_readsWithin (sI N 9 (zI ((i + 1 : Nat) : Int))) 23 = _ := d4
      refine ⟨X1, N1, f1, k1, Or.inr ⟨d1, fun Z K => ?_, ?_⟩⟩
      · unfold spC
        rw [a3, bd_s]; dsimp only; rw [i10, d2, bd_s]; dsimp only; rw [if_pos rfl]
      · unfold f_X12_readsSpot
        rw [a4, bd_s]; dsimp only; rw [i10, d4, bd_s]; dsimp only; rw [i00]
  · have a3 : f_X9_stepOver X 64 = _ := a3
    have a4 : f_X12_takes N 64 = _ := a4
    refine ⟨_, _, crF.i N (k := 11) (by omega) (zI (ft 1 i)), ⟨⟨rfl, rfl, rfl⟩, rfl⟩, Or.inr ⟨fl_of X N (by omega) (by omega) (by omega), fun Z K => ?_, ?_⟩⟩
    · unfold spC
      rw [a3, bd_s]; dsimp only; rw [i00]
    · unfold f_X12_readsSpot
      rw [a4, bd_s]; dsimp only; rw [i00]
/-- the rest of a fleet's line -/
theorem fle_b (hb : txB b n) {X N : Gr} {i k : Nat} (h : txR X N b n i) (hk : k < 8) : ∃ X' N', crF N N' ∧ (N'.1 35 = N.1 35 ∧ N'.1 36 = N.1 36 ∧ N'.1 37 = N.1 37) ∧ ((∃ (i' : Nat) (v c : Int), i < i' ∧ txR X' N' b n i' ∧ 0 ≤ v ∧ v ≤ 99 ∧ 0 ≤ c ∧ c ≤ 8 ∧ N'.2 31 = N.2 31 ∧ N'.2 32 = N.2 32 ∧ (∀ j, N'.2 33 j = if j = k then zI v else N.2 33 j) ∧ (∀ j, N'.2 34 j = if j = k then zI (if c = 8 then -1 else c) else N.2 34 j) ∧ (∀ Z x y, f_X0_fleet X Z (zI k) x y = (f_X7_tellFleet Z (zI k) x y (zI v) (zI c)).bind fun u => some (1, X', u)) ∧ flT N (zI k) = some (1, N')) ∨ (flR X' N' ∧ (∀ Z x y, f_X0_fleet X Z (zI k) x y = some (0, X', Z)) ∧ flT N (zI k) = some (0, N'))) := by
  have em : (-1 : Int32) = zI (-1) := rfl
  have hi0 := h.1
  have hn := hb.1
  rcases over_b hb h 58 (by omega) (by omega) with ⟨a1, a2, a3, a4⟩ | ⟨a1, a3, a4⟩
  · have a3 : f_X9_stepOver X 58 = _ := a3
    have a4 : f_X12_takes N 58 = _ := a4
    have h1 : txR _ (sI N 9 (zI ((i + 1 : Nat) : Int))) b n (i + 1) := h.nx a2 (sI_s _ _ _) rfl rfl
    obtain ⟨X1, N1, c1, c2, c3⟩ := coo_b hb h1 (hi := 99) (by omega) (by omega)
    have f1 : crF N N1 := (crF.i N (by omega) _).tr c1
    have k1 : crK N N1 := crK.tr ⟨⟨rfl, rfl, rfl⟩, rfl⟩ c2
    rcases c3 with ⟨i1, v, d1, d2, d3, d4, d5, d6, d7, d8⟩ | ⟨d1, -, d2, d4⟩
    · have d8 : f_X12_readsWithin (sI N 9 (zI ((i + 1 : Nat) : Int))) 99 = _ := d8
      have nv : ¬ zI v = (-1 : Int32) := by rw [em, zI_eq (by omega) (by omega) (by omega) (by omega)]; omega
      obtain ⟨N3, eN3⟩ : ∃ N3, N3 = sA (sA N1 33 k (zI v)) 34 k (-1) := ⟨_, rfl⟩
      have f3 : crF N N3 := by rw [eN3]; exact f1.tr ((crF.a _ (by omega) _ _).tr (crF.a _ (by omega) _ _))
      have h3 : txR X1 N3 b n i1 := by rw [eN3]; exact d2.nm rfl rfl rfl
      have hi1 := d2.1
      have kn : N3.1 = N1.1 := by rw [eN3]; rfl
      have r31 : N3.2 31 = N.2 31 := by rw [eN3, sA_o _ _ _ _ _ (by omega), sA_o _ _ _ _ _ (by omega), k1.2]
      have r32 : N3.2 32 = N.2 32 := by rw [eN3, sA_o _ _ _ _ _ (by omega), sA_o _ _ _ _ _ (by omega), k1.2]
      have r33 : ∀ j, N3.2 33 j = if j = k then zI v else N.2 33 j := fun j => by rw [eN3, sA_o _ _ _ _ _ (by omega), sA_s, k1.2]
      have r34 : ∀ j, N3.2 34 j = if j = k then -1 else N.2 34 j := fun j => by rw [eN3, sA_s, sA_o _ _ _ _ _ (by omega), k1.2]
      have hc := cu_b hb i1
      have hT : flT N (zI k) = (if zI (cu b n i1) = 62 then (lt' (sI N3 9 ((N3.1 9) + 1)) fun S0_12 => (f_X12_here S0_12).bind fun u13 => (f_X12_in u13 48 55).bind fun u14 => if u14 = 0 then ((f_X12_wrongAt S0_12 1 (S0_12.1 9)).bind fun u19 => zb' u19.1 (some (u19.1, u19.2))) else ((f_X12_here S0_12).bind fun u16 => ck' 8 (zI k) (lt' (sA S0_12 34 (Int32.toNatClampNeg (zI k)) (u16 - 48)) fun S0_17 => lt' (sI S0_17 9 ((S0_17.1 9) + 1)) fun S0_18 => some (1, S0_18)))) else (some (1, N3))) := by
        unfold flT
        rw [a4, bd_s]; dsimp only; rw [i10, d8, bd_s]; dsimp only; rw [i10, d5, ckN hk (by omega), clN (by omega), lt_e, ckN hk (by omega), lt_e, ← eN3, here_b hb h3, bd_s]
      have hC : ∀ Z x y, f_X0_fleet X Z (zI k) x y = (if zI (cu b n i1) = 62 then ((f_X9_step X1).bind fun u8 => (f_X9_isAt u8 48 55).bind fun u9 => if u9 = 0 then ((f_X9_fail u8 1).bind fun u15 => zb' u15.1 (some (u15.1, u15.2, Z))) else ((f_X9_peek u8).bind fun u11 => lt' ((u11 - 48)) fun v12 => (f_X9_step u8).bind fun u13 => (f_X7_tellFleet Z (zI k) x y (zI v) v12).bind fun u14 => some (1, u13, u14))) else ((f_X7_tellFleet Z (zI k) x y (zI v) 8).bind fun u7 => some (1, X1, u7))) := fun Z x y => by
        unfold f_X0_fleet
        rw [a3, bd_s]; dsimp only; rw [i10, d6, bd_s]; dsimp only; rw [if_neg nv, peek_b hb d2, bd_s]
      have e62 : (62 : Int32) = zI 62 := rfl
      by_cases hq : cu b n i1 = 62
      · have q1 : zI (cu b n i1) = (62 : Int32) := by rw [hq]; rfl
        have hlt : i1 < n := cu_lt (b := b) (by omega)
        have h4 : txR (sI X1 2 (zI ((i1 + 1 : Nat) : Int))) (sI N3 9 (zI ((i1 + 1 : Nat) : Int))) b n (i1 + 1) := h3.nx hlt (sI_s _ _ _) rfl rfl
        have hc2 := cu_b hb (i1 + 1)
        have is1 : f_X9_isAt (sI X1 2 (zI ((i1 + 1 : Nat) : Int))) 48 55 = some (b2 (decide (48 ≤ cu b n (i1 + 1) ∧ cu b n (i1 + 1) ≤ 55))) := isAt_b hb h4 48 55 (by omega) (by omega) (by omega) (by omega)
        have is2 : f_X12_in (zI (cu b n (i1 + 1))) 48 55 = some (b2 (decide (48 ≤ cu b n (i1 + 1) ∧ cu b n (i1 + 1) ≤ 55))) := in_z (a := 48) (b := 55) (by omega) (by omega) (by omega) (by omega) (by omega) (by omega)
        rw [hT, if_pos q1, h3.2.2.1, zs1, lt_e, here_b hb h4, bd_s, is2, bd_s, bd_s]
        by_cases hd : 48 ≤ cu b n (i1 + 1) ∧ cu b n (i1 + 1) ≤ 55
        · have hlt2 : i1 + 1 < n := cu_lt (b := b) (by omega)
          have e48 : (48 : Int32) = zI 48 := rfl
          rw [decide_eq_true hd, b2_t, i10, e48, zI_sub, ckN hk (by omega), clN (by omega), lt_e, sA_1, sI_s, zs1, lt_e]
          refine ⟨sI (sI X1 2 (zI ((i1 + 1 : Nat) : Int))) 2 (zI ((i1 + 1 + 1 : Nat) : Int)), _, f3.tr ((crF.i N3 (k := 9) (by omega) _).tr ((crF.a _ (by omega) _ _).tr (crF.i _ (k := 9) (by omega) _))), ?_, Or.inl ⟨i1 + 1 + 1, v, cu b n (i1 + 1) - 48, by omega, h4.nx hlt2 (sI_s _ _ _) rfl rfl, d3, d4, by omega, by omega, ?_, ?_, fun j => ?_, fun j => ?_, fun Z x y => ?_, rfl⟩⟩
          · show N3.1 35 = N.1 35 ∧ N3.1 36 = N.1 36 ∧ N3.1 37 = N.1 37
            rw [kn]; exact k1.1
          · exact r31
          · exact r32
          · exact r33 j
          · rw [sI_2, sA_s, sI_2, r34]
            by_cases e : j = k
            · rw [if_pos e, if_pos e, if_neg (show ¬ cu b n (i1 + 1) - 48 = 8 by omega)]
            · rw [if_neg e, if_neg e, if_neg e]
          · rw [hC Z x y, if_pos q1, stp_b hb d2 hlt, bd_s, is1, bd_s, decide_eq_true hd, b2_t, i10, peek_b hb h4, bd_s, e48, zI_sub, lt_e, stp_b hb h4 hlt2, bd_s]
        · have w1 : f_X12_wrongAt (sI N3 9 (zI ((i1 + 1 : Nat) : Int))) 1 ((sI N3 9 (zI ((i1 + 1 : Nat) : Int))).1 9) = _ := wro_b h4 1
          have w2 : f_X9_fail (sI X1 2 (zI ((i1 + 1 : Nat) : Int))) 1 = _ := fal_b h4 1
          rw [decide_eq_false hd, b2_f, i00, w1, bd_s, zb_0]
          refine ⟨_, _, f3.tr ((crF.i N3 (k := 9) (by omega) _).tr (crF.i _ (k := 11) (by omega) _)), ?_, Or.inr ⟨fl_of (sI X1 2 (zI ((i1 + 1 : Nat) : Int))) _ (by omega) (by omega) (by have := h4.1; omega), fun Z x y => ?_, rfl⟩⟩
          · show N3.1 35 = N.1 35 ∧ N3.1 36 = N.1 36 ∧ N3.1 37 = N.1 37
            rw [kn]; exact k1.1
          · rw [hC Z x y, if_pos q1, stp_b hb d2 hlt, bd_s, is1, bd_s, decide_eq_false hd, b2_f, i00, w2, bd_s, zb_0]
      · have q1 : ¬ zI (cu b n i1) = (62 : Int32) := by rw [e62, zI_eq (by omega) (by omega) (by omega) (by omega)]; exact hq
        rw [hT, if_neg q1]
        refine ⟨X1, N3, f3, by rw [kn]; exact k1.1, Or.inl ⟨i1, v, 8, by omega, h3, d3, d4, by omega, by omega, r31, r32, r33, fun j => ?_, fun Z x y => ?_, rfl⟩⟩
        · rw [r34]; rfl
        · rw [hC Z x y, if_neg q1]; rfl
    · have d2 := d2 rfl
      have d4 : f_X12_readsWithin (sI N 9 (zI ((i + 1 : Nat) : Int))) 99 = _ := d4
      refine ⟨X1, N1, f1, k1.1, Or.inr ⟨d1, fun Z x y => ?_, ?_⟩⟩
      · unfold f_X0_fleet
        rw [a3, bd_s]; dsimp only; rw [i10, d2, bd_s]; dsimp only; rw [if_pos rfl]
      · unfold flT
        rw [a4, bd_s]; dsimp only; rw [i10, d4, bd_s]; dsimp only; rw [i00]
  · have a3 : f_X9_stepOver X 58 = _ := a3
    have a4 : f_X12_takes N 58 = _ := a4
    refine ⟨_, _, crF.i N (k := 11) (by omega) (zI (ft 1 i)), ⟨rfl, rfl, rfl⟩, Or.inr ⟨fl_of X N (by omega) (by omega) (by omega), fun Z x y => ?_, ?_⟩⟩
    · unfold f_X0_fleet
      rw [a3, bd_s]; dsimp only; rw [i00]
    · unfold flT
      rw [a4, bd_s]; dsimp only; rw [i00]
end
