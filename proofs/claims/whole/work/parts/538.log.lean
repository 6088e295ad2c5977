/-! log: rounds, rows -/
def crE (G X : Gr) (v2 v3 : Int32) : Option (Int32 × Gr × Gr) := (f_X9_stepOver X 41).bind fun u7 => if u7.1 = 0 then (some (0, G, u7.2)) else ((f_X9_peek u7.2).bind fun u9 => if u9 = 42 then ((f_X9_step u7.2).bind fun u11 => (f_X9_isAt u11 50 57).bind fun u12 => if u12 = 0 then ((f_X9_fail u11 1).bind fun u21 => zb' u21.1 (some (u21.1, G, u21.2))) else ((f_X9_peek u11).bind fun u14 => lt' ((u14 - 48)) fun v15 => (f_X9_step u11).bind fun u16 => lt' (((G.1 2) - v3)) fun v17 => if (v3 + (v17 * v15)) ≤ 64 then ((f_X5_repeat G u16 v17 (v17 * (v15 - 1))).bind fun u19 => some (1, u19, u16)) else ((f_X9_failAt u16 6 v2).bind fun u20 => zb' u20.1 (some (u20.1, G, u20.2))))) else (some (1, G, u7.2)))
theorem inn_e (gr gi : Gr → Gr → Int32 → Option (Int32 × Gr × Gr)) (G X : Gr) (x1 : Int32) : fo_X5_innerRow gr gi G X x1 = if x1 < 2 then (lt' ((X.1 2)) fun v2 => lt' ((G.1 2)) fun v3 => (f_X9_step X).bind fun u4 => (gr G u4 (x1 + 1)).bind fun u5 => if u5.1 = 0 then (some (0, u5.2.1, u5.2.2)) else crE u5.2.1 u5.2.2 v2 v3) else ((f_X9_fail X 5).bind fun u22 => zb' u22.1 (some (u22.1, G, u22.2))) := rfl
section
variable {b : Nat → Int} {n : Nat}
theorem rnd_b (hb : txB b n) {X G N : Gr} {i s o i0 s0 : Nat} (h : txR X N b n i) (hl : lgR G N s) (h41 : cu b n i = 41) (ho : o < 2) (h45 : N.1 45 = zI ((o + 1 : Nat) : Int)) (h42 : N.2 42 o = zI i0) (h43 : N.2 43 o = zI s0) (hs : s0 < s) (hi0 : i0 ≤ n) : ∃ X' G' N', lgF N N' ∧ lgK o N N' ∧ ((∃ i' s' : Nat, i < i' ∧ txR X' N' b n i' ∧ lgR G' N' s' ∧ s ≤ s' ∧ N'.1 45 = zI o ∧ crE G X (zI i0) (zI s0) = some (1, G', X') ∧ f_X12_readsRoundEnd N = some (1, N')) ∨ (flR X' N' ∧ crE G X (zI i0) (zI s0) = some (0, G', X') ∧ f_X12_readsRoundEnd N = some (0, N'))) := by
  have hn := hb.1
  have hi := h.1
  have hs64 := hl.2.2.1
  have e42 : (42 : Int32) = zI 42 := rfl
  have e48 : (48 : Int32) = zI 48 := rfl
  have e64 : (64 : Int32) = zI 64 := rfl
  have e1 : (1 : Int32) = zI 1 := rfl
  rcases over_b hb h 41 (by omega) (by omega) with ⟨-, a2, a3, -⟩ | ⟨a1, -, -⟩
  · have a3 : f_X9_stepOver X 41 = _ := a3
    obtain ⟨N2, eN2⟩ : ∃ N2, N2 = sI (sI N 9 (zI ((i + 1 : Nat) : Int))) 45 (zI o) := ⟨_, rfl⟩
    have h2 : txR (sI X 2 (zI ((i + 1 : Nat) : Int))) N2 b n (i + 1) := by rw [eN2]; exact h.nx a2 rfl rfl rfl
    have f2 : lgF N N2 := by rw [eN2]; exact (lgF.i N (by omega) _).tr (lgF.i _ (by omega) _)
    have k2 : N2.2 = N.2 := by rw [eN2]; rfl
    have n44 : N2.1 44 = zI s := by rw [eN2]; exact hl.2.1
    have n45 : N2.1 45 = zI o := by rw [eN2, sI_s]
    have hl2 : lgR G N2 s := ⟨hl.1, n44, hl.2.2.1, by rw [k2]; exact hl.2.2.2⟩
    have hc := cu_b hb (i + 1)
    have hR : f_X12_readsRoundEnd N = (if zI (cu b n (i + 1)) = 42 then (lt' (sI N2 9 ((N2.1 9) + 1)) fun S0_5 => (f_X12_here S0_5).bind fun u6 => (f_X12_in u6 50 57).bind fun u7 => if u7 = 0 then ((f_X12_wrongAt S0_5 1 (S0_5.1 9)).bind fun u17 => zb' u17.1 (some (u17.1, u17.2))) else ((f_X12_here S0_5).bind fun u9 => lt' ((u9 - 48)) fun v10 => lt' (sI S0_5 9 ((S0_5.1 9) + 1)) fun S0_11 => rd' (S0_11.2 43) 2 (S0_11.1 45) fun v12 => lt' (((S0_11.1 44) - v12)) fun v13 => if (v12 + (v13 * v10)) ≤ 64 then (f_X12_readsRoundEnd_n129 fu S0_11 v10 v12 v13 v13) else (rd' (S0_11.2 42) 2 (S0_11.1 45) fun v15 => (f_X12_wrongAt S0_11 6 v15).bind fun u16 => zb' u16.1 (some (u16.1, u16.2))))) else (some (1, N2))) := by
      have e45 : (sI N 9 (zI ((i + 1 : Nat) : Int))).1 45 - 1 = zI o := by rw [sI_o _ _ _ _ (by omega), h45]; exact zp1 o
      unfold f_X12_readsRoundEnd
      rw [h.2.2.1, zs1, lt_e, e45, lt_e, ← eN2, here_b hb h2, bd_s]
    have hC : crE G X (zI i0) (zI s0) = (if zI (cu b n (i + 1)) = 42 then ((f_X9_step (sI X 2 (zI ((i + 1 : Nat) : Int)))).bind fun u11 => (f_X9_isAt u11 50 57).bind fun u12 => if u12 = 0 then ((f_X9_fail u11 1).bind fun u21 => zb' u21.1 (some (u21.1, G, u21.2))) else ((f_X9_peek u11).bind fun u14 => lt' ((u14 - 48)) fun v15 => (f_X9_step u11).bind fun u16 => lt' (((G.1 2) - zI s0)) fun v17 => if (zI s0 + (v17 * v15)) ≤ 64 then ((f_X5_repeat G u16 v17 (v17 * (v15 - 1))).bind fun u19 => some (1, u19, u16)) else ((f_X9_failAt u16 6 (zI i0)).bind fun u20 => zb' u20.1 (some (u20.1, G, u20.2))))) else (some (1, G, sI X 2 (zI ((i + 1 : Nat) : Int))))) := by
      unfold crE
      rw [a3, bd_s]; dsimp only; rw [i10, peek_b hb h2, bd_s]
    rw [hR, hC]
    by_cases q : cu b n (i + 1) = 42
    · have q1 : zI (cu b n (i + 1)) = 42 := by rw [q]; rfl
      have hlt : i + 1 < n := cu_lt (b := b) (by omega)
      have h3 : txR (sI (sI X 2 (zI ((i + 1 : Nat) : Int))) 2 (zI ((i + 1 + 1 : Nat) : Int))) (sI N2 9 (zI ((i + 1 + 1 : Nat) : Int))) b n (i + 1 + 1) := h2.nx hlt (sI_s _ _ _) rfl rfl
      have hc3 := cu_b hb (i + 1 + 1)
      have ii : f_X12_in (zI (cu b n (i + 1 + 1))) 50 57 = some (b2 (decide (50 ≤ cu b n (i + 1 + 1) ∧ cu b n (i + 1 + 1) ≤ 57))) := in_z (a := 50) (b := 57) (by omega) (by omega) (by omega) (by omega) (by omega) (by omega)
      have ia : f_X9_isAt (sI (sI X 2 (zI ((i + 1 : Nat) : Int))) 2 (zI ((i + 1 + 1 : Nat) : Int))) 50 57 = _ := isAt_b hb h3 50 57 (by omega) (by omega) (by omega) (by omega)
      rw [if_pos q1, if_pos q1, stp_b hb h2 hlt, bd_s, ia, bd_s, h2.2.2.1, zs1, lt_e, here_b hb h3, bd_s, ii, bd_s, bd_s, peek_b hb h3, bd_s]
      by_cases hd : 50 ≤ cu b n (i + 1 + 1) ∧ cu b n (i + 1 + 1) ≤ 57
      · have hlt2 : i + 1 + 1 < n := cu_lt (b := b) (by omega)
        obtain ⟨t, et⟩ : ∃ t : Nat, cu b n (i + 1 + 1) - 48 = t := ⟨(cu b n (i + 1 + 1) - 48).toNat, by omega⟩
        obtain ⟨len, elen⟩ : ∃ len, s = s0 + len := ⟨s - s0, by omega⟩
        obtain ⟨N4, eN4⟩ : ∃ N4, N4 = sI (sI N2 9 (zI ((i + 1 + 1 : Nat) : Int))) 9 (zI ((i + 1 + 1 + 1 : Nat) : Int)) := ⟨_, rfl⟩
        have h4 : txR (sI (sI (sI X 2 (zI ((i + 1 : Nat) : Int))) 2 (zI ((i + 1 + 1 : Nat) : Int))) 2 (zI ((i + 1 + 1 + 1 : Nat) : Int))) N4 b n (i + 1 + 1 + 1) := by rw [eN4]; exact h3.nx hlt2 (sI_s _ _ _) rfl rfl
        have f4 : lgF N N4 := by rw [eN4]; exact f2.tr ((lgF.i _ (by omega) _).tr (lgF.i _ (by omega) _))
        have m45 : N4.1 45 = zI o := by rw [eN4]; exact n45
        have m44 : N4.1 44 = zI s := by rw [eN4]; exact n44
        have m2 : N4.2 = N.2 := by rw [eN4]; exact k2
        have es : (sI N2 9 (zI ((i + 1 + 1 : Nat) : Int))).1 9 = zI ((i + 1 + 1 : Nat) : Int) := sI_s _ _ _
        have el : zI s - zI s0 = zI len := by rw [elen, zI_sub]; congr 1; omega
        have em : zI len * zI t = zI ((len * t : Nat) : Int) := by rw [zI_mul]; congr 1
        have em1 : zI len * (zI t - 1) = zI ((len * (t - 1) : Nat) : Int) := by
          have : zI t - 1 = zI ((t - 1 : Nat) : Int) := by rw [e1, zI_sub]; congr 1; omega
          rw [this, zI_mul]; congr 1
        have hlt3 : len * t ≤ 64 * 9 := Nat.mul_le_mul (by omega) (by omega)
        rw [decide_eq_true hd, b2_t, i10, i10, e48, zI_sub, et, lt_e, stp_b hb h3 hlt2, bd_s, hl.1, el, lt_e, em, em1, zI_add, lt_e, es, zs1, lt_e, ← eN4, m45, m44, m2, rdN (by omega) (by omega), h43, el, lt_e, em, zI_add]
        have e64' : zI ((s0 : Int) + ((len * t : Nat) : Int)) ≤ 64 ↔ s0 + len * t ≤ 64 := by
          rw [e64, zI_le (by omega) (by omega) (by omega) (by omega)]; omega
        by_cases h64 : s0 + len * t ≤ 64
        · obtain ⟨G', N', r1, r2, r3, r4, r5⟩ := rep_lp (X := sI (sI (sI X 2 (zI ((i + 1 : Nat) : Int))) 2 (zI ((i + 1 + 1 : Nat) : Int))) 2 (zI ((i + 1 + 1 + 1 : Nat) : Int))) (s0 := s0) (len := len) (t := t) (by omega) h64 (by omega) (len * (t - 1)) 0 fu fu G N4 (by omega) (by
              have : len * (t - 1) ≤ 64 * 9 := Nat.mul_le_mul (by omega) (by omega)
              show len * (t - 1) < 1000; omega) (by
              have : len * (t - 1) ≤ 64 * 9 := Nat.mul_le_mul (by omega) (by omega)
              show len * (t - 1) < 1000; omega) (by rw [hl.1, elen]; rfl) (fun j hj => by rw [m2]; exact hl.2.2.2 j (by omega))
          have r1 : f_X5_repeat G (sI (sI (sI X 2 (zI ((i + 1 : Nat) : Int))) 2 (zI ((i + 1 + 1 : Nat) : Int))) 2 (zI ((i + 1 + 1 + 1 : Nat) : Int))) (zI len) (zI ((len * (t - 1) : Nat) : Int)) = some G' := r1
          have r2 : f_X12_readsRoundEnd_n129 fu N4 (zI t) (zI s0) (zI len) (zI len) = some (1, N') := r2
          rw [if_pos (e64'.mpr h64), if_pos (e64'.mpr h64), r1, bd_s, r2]
          have hlt4 : len * 1 ≤ len * t := Nat.mul_le_mul_left len (by omega)
          refine ⟨_, G', N', f4.tr ⟨fun j _ _ q _ => r4 j q, fun j q _ _ => r5 j q⟩, fun j hj => ?_, Or.inl ⟨i + 1 + 1 + 1, s0 + len * t, by omega, h4.nm (r4 9 (by omega)) (r4 10 (by omega)) (r5 7 (by omega)), r3, by omega, (r4 45 (by omega)).trans m45, rfl, rfl⟩⟩
          rw [r5 42 (by omega), r5 43 (by omega), m2]; exact ⟨rfl, rfl⟩
        · have w1 : f_X12_wrongAt N4 6 (zI i0) = _ := wra_b N4 6 i0
          have w2 : f_X9_failAt (sI (sI (sI X 2 (zI ((i + 1 : Nat) : Int))) 2 (zI ((i + 1 + 1 : Nat) : Int))) 2 (zI ((i + 1 + 1 + 1 : Nat) : Int))) 6 (zI i0) = _ := fat_b h4 6 i0
          rw [if_neg (fun h => h64 (e64'.mp h)), if_neg (fun h => h64 (e64'.mp h)), w2, bd_s, zb_0, rdN (by omega) (by omega), h42, w1, bd_s, zb_0]
          refine ⟨_, G, _, f4.tr (lgF.i N4 (k := 11) (by omega) _), fun j hj => ?_, Or.inr ⟨fl_of _ N4 (by omega) (by omega) (by omega), rfl, rfl⟩⟩
          rw [sI_2, m2]; exact ⟨rfl, rfl⟩
      · have w1 : f_X12_wrongAt (sI N2 9 (zI ((i + 1 + 1 : Nat) : Int))) 1 ((sI N2 9 (zI ((i + 1 + 1 : Nat) : Int))).1 9) = _ := wro_b h3 1
        have w2 : f_X9_fail (sI (sI X 2 (zI ((i + 1 : Nat) : Int))) 2 (zI ((i + 1 + 1 : Nat) : Int))) 1 = _ := fal_b h3 1
        rw [decide_eq_false hd, b2_f, i00, i00, w1, bd_s, zb_0, w2, bd_s, zb_0]
        refine ⟨_, G, _, f2.tr ((lgF.i N2 (k := 9) (by omega) _).tr (lgF.i _ (k := 11) (by omega) _)), fun j hj => ?_, Or.inr ⟨fl_of _ (sI N2 9 (zI ((i + 1 + 1 : Nat) : Int))) (by omega) (by omega) (by omega), rfl, rfl⟩⟩
        rw [sI_2, sI_2, k2]; exact ⟨rfl, rfl⟩
    · have q1 : ¬ zI (cu b n (i + 1)) = 42 := by rw [e42, zI_eq (by omega) (by omega) (by omega) (by omega)]; exact q
      rw [if_neg q1, if_neg q1]
      refine ⟨_, G, N2, f2, fun j hj => ?_, Or.inl ⟨i + 1, s, by omega, h2, hl2, by omega, n45, rfl, rfl⟩⟩
      rw [k2]; exact ⟨rfl, rfl⟩
  · exact absurd h41 a1
def rowP (b : Nat → Int) (n : Nat) (x1 x2 : Int32) (D o : Nat) : Prop := ∀ (X G N : Gr) (i s f0 f1 : Nat), txR X N b n i → lgR G N s → N.1 45 = zI o → n - i + 1 ≤ f0 → 2 * (n - i) + 2 ≤ f1 → ∃ X' G' N', lgF N N' ∧ lgK o N N' ∧ ((∃ i' s' f0' f1' : Nat, i < i' ∧ txR X' N' b n i' ∧ lgR G' N' s' ∧ s < s' ∧ N'.1 45 = zI o ∧ (o = 0 → i' = n) ∧ (0 < o → cu b n i' = 41) ∧ n - i' + 1 ≤ f0' ∧ 2 * (n - i') + 3 ≤ f1' ∧ (kX5 D).1 G X (zI o) = some (1, G', X') ∧ lgA x1 x2 f0 f1 N = lgB x1 x2 f0' f1' N') ∨ (flR X' N' ∧ (kX5 D).1 G X (zI o) = some (0, G', X') ∧ lgA x1 x2 f0 f1 N = f_X12_log_n91 x1 x2 N' 0))
theorem itm_b (hb : txB b n) (hn : n ≤ 80) {x1 x2 : Int32} {D o : Nat} (ho : o ≤ 2) (Hr : o < 2 → rowP b n x1 x2 D (o + 1)) {X G N : Gr} {i s f0 f1 : Nat} (h : txR X N b n i) (hl : lgR G N s) (h45 : N.1 45 = zI o) (hf0 : n - i + 1 ≤ f0) (hf1 : 2 * (n - i) + 2 ≤ f1) : ∃ X' G' N', lgF N N' ∧ lgK o N N' ∧ ((∃ i' s' f0' f1' : Nat, i < i' ∧ txR X' N' b n i' ∧ lgR G' N' s' ∧ s < s' ∧ N'.1 45 = zI o ∧ n - i' + 1 ≤ f0' ∧ 2 * (n - i') + 3 ≤ f1' ∧ (∀ gr k13 xe x3, f_X5_row_n36 gr (kX5 (D + 1)).2 (zI o) k13 G X xe x3 = k13 G' X' xe (x3 + 1)) ∧ lgA x1 x2 f0 f1 N = lgB x1 x2 f0' f1' N') ∨ (flR X' N' ∧ (∀ gr k13 xe x3, f_X5_row_n36 gr (kX5 (D + 1)).2 (zI o) k13 G X xe x3 = some (0, G', X')) ∧ lgA x1 x2 f0 f1 N = f_X12_log_n91 x1 x2 N' 0)) := by
  have hi := h.1
  have hc := cu_b hb i
  have e40 : (40 : Int32) = zI 40 := rfl
  have e2 : (2 : Int32) = zI ((2 : Nat) : Int) := rfl
  have e64 : (64 : Int32) = zI ((64 : Nat) : Int) := rfl
  have hs64 := hl.2.2.1
  obtain ⟨f0, rfl⟩ : ∃ k, f0 = k + 1 := ⟨f0 - 1, by omega⟩
  by_cases q : cu b n i = 40
  · have q1 : zI (cu b n i) = 40 := by rw [q]; rfl
    have hlt : i < n := cu_lt (b := b) (by omega)
    have hK : ∀ gr k13 xe x3, f_X5_row_n36 gr (kX5 (D + 1)).2 (zI o) k13 G X xe x3 = ((fo_X5_innerRow (kX5 D).1 (kX5 D).2 G X (zI o)).bind fun u12 => if u12.1 = 0 then (some (0, u12.2.1, u12.2.2)) else (lt' (x3 + 1) fun v14 => k13 u12.2.1 u12.2.2 xe v14)) := fun gr k13 xe x3 => by
      unfold f_X5_row_n36
      rw [peek_b hb h, bd_s, if_pos q1]; rfl
    by_cases ho2 : o < 2
    · have c2 : zI (o : Int) < 2 := by rw [e2, ltN (by omega) (by omega)]; exact ho2
      obtain ⟨N1, eN1⟩ : ∃ N1, N1 = sI (sI (sA (sA N 42 o (zI i)) 43 o (zI s)) 45 (zI ((o + 1 : Nat) : Int))) 9 (zI ((i + 1 : Nat) : Int)) := ⟨_, rfl⟩
      have hA : lgA x1 x2 (f0 + 1) f1 N = lgA x1 x2 f0 f1 N1 := by rw [eN1]; exact A_open hb h q h45 ho2 hl.2.1
      have h1 : txR (sI X 2 (zI ((i + 1 : Nat) : Int))) N1 b n (i + 1) := by rw [eN1]; exact h.nx hlt (sI_s _ _ _) rfl rfl
      have f1' : lgF N N1 := by rw [eN1]; exact (lgF.a N (by omega) _ _).tr ((lgF.a _ (by omega) _ _).tr ((lgF.i _ (by omega) _).tr (lgF.i _ (by omega) _)))
      have k1 : lgK o N N1 := fun j hj => by rw [eN1, sI_2, sI_2, sA_o _ _ _ _ _ (show (42 : Nat) ≠ 43 by omega), sA_s, if_neg (by omega), sA_s, if_neg (by omega), sA_o _ _ _ _ _ (show (43 : Nat) ≠ 42 by omega)]; exact ⟨rfl, rfl⟩
      have l1 : lgR G N1 s := by
        refine ⟨hl.1, by rw [eN1]; exact hl.2.1, hl.2.2.1, fun j hj => ?_⟩
        rw [eN1, sI_2, sI_2, sA_o _ _ _ _ _ (by omega), sA_o _ _ _ _ _ (by omega)]; exact hl.2.2.2 j hj
      have g42 : N1.2 42 o = zI i := by rw [eN1, sI_2, sI_2, sA_o _ _ _ _ _ (by omega), sA_s, if_pos rfl]
      have g43 : N1.2 43 o = zI s := by rw [eN1, sI_2, sI_2, sA_s, if_pos rfl]
      have g45 : N1.1 45 = zI ((o + 1 : Nat) : Int) := by rw [eN1, sI_o _ _ _ _ (by omega), sI_s]
      obtain ⟨X2, G2, N2, r1, r2, r3⟩ := Hr ho2 _ G N1 (i + 1) s f0 f1 h1 l1 g45 (by omega) (by omega)
      rcases r3 with ⟨i2, s2, f0', f1'', m1, m2, m3, m4, m5, -, m7, m8, m9, m10, m11⟩ | ⟨m1, m2, m3⟩
      · have hi2 := m2.1
        obtain ⟨X3, G3, N3, t1, t2, t3⟩ := rnd_b hb m2 m3 (m7 (by omega)) ho2 m5 (((r2 o (by omega)).1).trans g42) (((r2 o (by omega)).2).trans g43) m4 (by omega)
        have F3 : lgF N N3 := f1'.tr (r1.tr t1)
        have K3 : lgK o N N3 := k1.tr ((r2.le (by omega)).tr t2)
        obtain ⟨f0', rfl⟩ : ∃ k, f0' = k + 1 := ⟨f0' - 1, by omega⟩
        have hB := B_close (x1 := x1) (x2 := x2) (f0 := f0') (f1 := f1'') hb m2 m5 (by omega) (m7 (by omega)) (by omega)
        have hI : ∀ E, crE G2 X2 (zI i) (zI s) = E → fo_X5_innerRow (kX5 D).1 (kX5 D).2 G X (zI o) = E := fun E hE => by
          rw [inn_e, if_pos c2, h.2.1.2.1, lt_e, hl.1, lt_e, stp_b hb h hlt, bd_s, zs1, m10, bd_s]
          dsimp only
          rw [i10, hE]
        rcases t3 with ⟨i3, s3, p1, p2, p3, p4, p5, p6, p7⟩ | ⟨p1, p2, p3⟩
        · have hi3 := p2.1
          refine ⟨X3, G3, N3, F3, K3, Or.inl ⟨i3, s3, f0', f1'', by omega, p2, p3, by omega, p5, by omega, by omega, fun gr k13 xe x3 => ?_, ?_⟩⟩
          · rw [hK, hI _ p6, bd_s]; dsimp only; rw [i10, lt_e]
          · rw [hA, m11, hB, p7, bd_s]; dsimp only; rw [i10]
        · obtain ⟨f1'', rfl⟩ : ∃ k, f1'' = k + 1 := ⟨f1'' - 1, by omega⟩
          refine ⟨X3, G3, N3, F3, K3, Or.inr ⟨p1, fun gr k13 xe x3 => ?_, ?_⟩⟩
          · rw [hK, hI _ p2, bd_s]; dsimp only; rw [i00]
          · rw [hA, m11, hB, p3, bd_s]; dsimp only; rw [i00]; exact n61_0
      · refine ⟨X2, G2, N2, f1'.tr r1, k1.tr (r2.le (by omega)), Or.inr ⟨m1, fun gr k13 xe x3 => ?_, hA.trans m3⟩⟩
        rw [hK, inn_e, if_pos c2, h.2.1.2.1, lt_e, hl.1, lt_e, stp_b hb h hlt, bd_s, zs1, m2, bd_s]
        dsimp only
        rw [i00, bd_s]
        dsimp only
        rw [i00]
    · have eo : o = 2 := by omega
      have c2 : ¬ zI (o : Int) < 2 := by rw [e2, ltN (by omega) (by omega)]; omega
      obtain ⟨f1, rfl⟩ : ∃ k, f1 = k + 1 := ⟨f1 - 1, by omega⟩
      have w2 : f_X9_fail X 5 = _ := fal_b h 5
      refine ⟨_, G, _, lgF.i N (k := 11) (by omega) (zI (ft 5 i)), fun j hj => ⟨rfl, rfl⟩, Or.inr ⟨fl_of X N (by omega) (by omega) (by omega), fun gr k13 xe x3 => ?_, A_open2 hb h q (by rw [h45, eo]; rfl)⟩⟩
      rw [hK, inn_e, if_neg c2, w2, bd_s, zb_0, bd_s]
      dsimp only
      rw [i00]
  · have q1 : ¬ zI (cu b n i) = 40 := by rw [e40, zI_eq (by omega) (by omega) (by omega) (by omega)]; exact q
    have hK : ∀ gr k13 xe x3, f_X5_row_n36 gr (kX5 (D + 1)).2 (zI o) k13 G X xe x3 = ((f_X5_spoke G X).bind fun u9 => if u9.1 = 0 then (some (0, u9.2.1, u9.2.2)) else (lt' (x3 + 1) fun v11 => k13 u9.2.1 u9.2.2 xe v11)) := fun gr k13 xe x3 => by
      unfold f_X5_row_n36
      rw [peek_b hb h, bd_s, if_neg q1]
    have ia : f_X9_isAt X 48 55 = _ := isAt_b hb h 48 55 (by omega) (by omega) (by omega) (by omega)
    by_cases hd : 48 ≤ cu b n i ∧ cu b n i ≤ 55
    · have hlt : i < n := cu_lt (b := b) (by omega)
      by_cases h64 : s < 64
      · have c3 : G.1 2 < 64 := by rw [hl.1, e64, ltN (by omega) (by omega)]; exact h64
        have e48 : (48 : Int32) = zI 48 := rfl
        have hS : f_X5_spoke G X = some (1, sI (sA G 1 s (zI (cu b n i - 48))) 2 (zI ((s + 1 : Nat) : Int)), sI X 2 (zI ((i + 1 : Nat) : Int))) := by
          unfold f_X5_spoke
          rw [ia, bd_s, decide_eq_true hd, b2_t, i10, if_pos c3, peek_b hb h, bd_s, hl.1, ckN (by omega) (by omega), clN (by omega), e48, zI_sub, lt_e, sA_1, hl.1, zs1, lt_e, stp_b hb h hlt, bd_s]
        refine ⟨sI X 2 (zI ((i + 1 : Nat) : Int)), sI (sA G 1 s (zI (cu b n i - 48))) 2 (zI ((s + 1 : Nat) : Int)), _, (lgF.a N (by omega) s (zI (cu b n i - 48))).tr ((lgF.i _ (k := 44) (by omega) (zI ((s + 1 : Nat) : Int))).tr (lgF.i _ (k := 9) (by omega) (zI ((i + 1 : Nat) : Int)))), fun j hj => ⟨rfl, rfl⟩, Or.inl ⟨i + 1, s + 1, fu, f1, by omega, h.nx hlt (sI_s _ _ _) rfl rfl, ⟨sI_s _ _ _, ?_, by omega, fun j hj => ?_⟩, by omega, ?_, by show n - (i + 1) + 1 ≤ 1000; omega, by omega, fun gr k13 xe x3 => ?_, A_dig hb h hd hl.2.1 h64⟩⟩
        · rw [sI_o _ _ _ _ (by omega), sI_s]
        · rw [sI_2, sI_2, sI_2, sA_s, sA_s]
          by_cases e : j = s
          · rw [if_pos e, if_pos e]
          · rw [if_neg e, if_neg e]; exact hl.2.2.2 j (by omega)
        · rw [sI_o _ _ _ _ (by omega), sI_o _ _ _ _ (by omega)]; exact h45
        · rw [hK, hS, bd_s]; dsimp only; rw [i10, lt_e]
      · have es : s = 64 := by omega
        have c3 : ¬ G.1 2 < 64 := by rw [hl.1, e64, ltN (by omega) (by omega)]; exact h64
        obtain ⟨f1, rfl⟩ : ∃ k, f1 = k + 1 := ⟨f1 - 1, by omega⟩
        have w2 : f_X9_fail X 6 = _ := fal_b h 6
        have hS : f_X5_spoke G X = some (0, G, sI X 3 (zI (ft 6 i))) := by
          unfold f_X5_spoke
          rw [ia, bd_s, decide_eq_true hd, b2_t, i10, if_neg c3, w2, bd_s, zb_0]
        refine ⟨_, G, _, lgF.i N (k := 11) (by omega) (zI (ft 6 i)), fun j hj => ⟨rfl, rfl⟩, Or.inr ⟨fl_of X N (by omega) (by omega) (by omega), fun gr k13 xe x3 => ?_, A_full hb h hd (by rw [hl.2.1, es]; rfl)⟩⟩
        rw [hK, hS, bd_s]; dsimp only; rw [i00]
    · obtain ⟨f1, rfl⟩ : ∃ k, f1 = k + 1 := ⟨f1 - 1, by omega⟩
      have w2 : f_X9_fail X 1 = _ := fal_b h 1
      have hS : f_X5_spoke G X = some (0, G, sI X 3 (zI (ft 1 i))) := by
        unfold f_X5_spoke
        rw [ia, bd_s, decide_eq_false hd, b2_f, i00, w2, bd_s, zb_0]
      refine ⟨_, G, _, lgF.i N (k := 11) (by omega) (zI (ft 1 i)), fun j hj => ⟨rfl, rfl⟩, Or.inr ⟨fl_of X N (by omega) (by omega) (by omega), fun gr k13 xe x3 => ?_, A_bad hb h q hd⟩⟩
      rw [hK, hS, bd_s]; dsimp only; rw [i00]
end
