/-! law: factors, terms, sums -/
def smA (f0 f1 : Nat) (base : Int32) (N : Gr) : Option (Int32 × Gr) := (f_X12_readsFactor_n0 f0 N).bind fun u => if u.1 = 0 then (some (0, u.2)) else (f_X12_readsSum_n14 f1 u.2 base)
def lst (X L N : Gr) (b : Nat → Int) (n i c0 a0 cm m : Nat) (q : List Nat) (ty : Nat → Nat) (P : Nat → Prop) (w o : Nat) : Prop := txR X N b n i ∧ em L N c0 a0 cm m q ty P ∧ N.1 13 = zI o ∧ N.1 15 = zI w ∧ w ≤ i ∧ m + 1 ≤ i
def nosg (c : Int) : Prop := c ≠ 43 ∧ c ≠ 45 ∧ c ≠ 42 ∧ c ≠ 47 ∧ c ≠ 37
def facP (b : Nat → Int) (n D o : Nat) : Prop := ∀ (X L N : Gr) (i c0 a0 cm m : Nat) (ty : Nat → Nat) (P : Nat → Prop) (w f0 f1 bs : Nat), lst X L N b n i c0 a0 cm m [] ty P w o → ty cm ≤ 2 * o + 3 → bs ≤ w → n - i + 1 ≤ f0 → n - i + 1 ≤ f1 → ∃ X' L' N', lrF c0 L L' ∧ lnF a0 N N' ∧ ((∃ (i' cm' m' : Nat) (ty' : Nat → Nat) (f1' : Nat), i < i' ∧ lst X' L' N' b n i' c0 a0 cm' m' [] ty' P w o ∧ ty' cm' = ty cm + 1 ∧ m' + i ≤ m + i' ∧ skF w N N' ∧ n - i' + 1 ≤ f1' ∧ (kX4 D).2.2.2.2 X L (zI o) = some (1, X', L') ∧ smA f0 f1 (zI bs) N = f_X12_readsSum_n14 f1' N' (zI bs)) ∨ (flR X' N' ∧ (kX4 D).2.2.2.2 X L (zI o) = some (0, X', L') ∧ smA f0 f1 (zI bs) N = some (0, N')))
def termP (b : Nat → Int) (n D o : Nat) : Prop := ∀ (X L N : Gr) (i c0 a0 cm m : Nat) (ty : Nat → Nat) (P : Nat → Prop) (w f0 f1 bs : Nat), lst X L N b n i c0 a0 cm m [] ty P w o → ty cm ≤ 2 * o + 2 → bs ≤ w → stopT N w 4 → n - i + 1 ≤ f0 → n - i + 1 ≤ f1 → ∃ X' L' N', lrF c0 L L' ∧ lnF a0 N N' ∧ ((∃ (i' cm' m' : Nat) (q : List Nat) (ty' : Nat → Nat) (f1' : Nat), i < i' ∧ lst X' L' N' b n i' c0 a0 cm' m' q ty' P (w + q.length) o ∧ ty' cm' = ty cm + 1 + q.length ∧ m' + i ≤ m + i' ∧ q.length ≤ 1 ∧ ops N' w 4 q ∧ skF w N N' ∧ (cu b n i' ≠ 42 ∧ cu b n i' ≠ 47 ∧ cu b n i' ≠ 37) ∧ n - i' + 1 ≤ f1' ∧ (kX4 D).2.2.2.1 X L (zI o) = some (1, X', L') ∧ smA f0 f1 (zI bs) N = f_X12_readsSum_n14 f1' N' (zI bs)) ∨ (flR X' N' ∧ (kX4 D).2.2.2.1 X L (zI o) = some (0, X', L') ∧ smA f0 f1 (zI bs) N = some (0, N')))
def sumP (b : Nat → Int) (n D o : Nat) : Prop := ∀ (X L N : Gr) (i c0 a0 cm m : Nat) (ty : Nat → Nat) (P : Nat → Prop) (w f0 f1 bs : Nat), lst X L N b n i c0 a0 cm m [] ty P w o → ty cm ≤ 2 * o + 1 → bs ≤ w → stopT N w 2 → n - i + 1 ≤ f0 → n - i + 1 ≤ f1 → ∃ X' L' N', lrF c0 L L' ∧ lnF a0 N N' ∧ ((∃ (i' cm' m' : Nat) (q : List Nat) (ty' : Nat → Nat) (f1' : Nat), i < i' ∧ lst X' L' N' b n i' c0 a0 cm' m' q ty' P (w + q.length) o ∧ ty' cm' = ty cm + 1 + q.length ∧ m' + i ≤ m + i' ∧ q.length ≤ 2 ∧ ops N' w 2 q ∧ skF w N N' ∧ nosg (cu b n i') ∧ n - i' + 1 ≤ f1' ∧ (kX4 D).2.2.1 X L (zI o) = some (1, X', L') ∧ smA f0 f1 (zI bs) N = f_X12_readsSum_n14 f1' N' (zI bs)) ∨ (flR X' N' ∧ (kX4 D).2.2.1 X L (zI o) = some (0, X', L') ∧ smA f0 f1 (zI bs) N = some (0, N')))
theorem ss_n {c : Int} (h0 : -1 ≤ c) (h1 : c < 256) (h : nosg c) : f_X12_sumSign (zI c) = some (-1) := by
  obtain ⟨a, b, d, e, f⟩ := h
  have k : ∀ v : Int, 0 ≤ v → v < 256 → c ≠ v → ¬ zI c = zI v := fun v v0 v1 hne => by rw [zI_eq (by omega) (by omega) (by omega) (by omega)]; exact hne
  have n1 : ¬ zI c = 43 := k 43 (by omega) (by omega) a
  have n2 : ¬ zI c = 45 := k 45 (by omega) (by omega) b
  have n3 : ¬ zI c = 42 := k 42 (by omega) (by omega) d
  have n4 : ¬ zI c = 47 := k 47 (by omega) (by omega) e
  have n5 : ¬ zI c = 37 := k 37 (by omega) (by omega) f
  unfold f_X12_sumSign
  rw [if_neg n1, if_neg n2, if_neg n3, if_neg n4, if_neg n5]
theorem ss_o : ∀ o : Nat, o < 7 → 2 ≤ o → f_X12_sumSign (zI (sgOf o)) = some (zI o) := by decide +kernel
section
variable {b : Nat → Int} {n : Nat}
theorem fact_b (hb : txB b n) {E o : Nat} (ho : o ≤ 6) (Hs : o < 6 → sumP b n E (o + 1)) : facP b n (E + 1) o := by
  intro X L N i c0 a0 cm m ty P w f0 f1 bs hst ht hbs hf0 hf1
  obtain ⟨h, he, h13, h15, hw, hm⟩ := hst
  have hi := h.1
  have hn := hb.1
  have hc := cu_b hb i
  obtain ⟨⟨g1, g2, g3, g4, g5, g6⟩, -⟩ := id he
  have g5 : m = c0 + (cm - a0) := g5
  obtain ⟨f0, rfl⟩ : ∃ k, f0 = k + 1 := ⟨f0 - 1, by omega⟩
  have e91 : (91 : Int32) = zI 91 := rfl
  have e6 : (6 : Int32) = zI ((6 : Nat) : Int) := rfl
  have hK : (kX4 (E + 1)).2.2.2.2 X L (zI o) = fo_X4_factor (kX4 E).1 (kX4 E).2.1 (kX4 E).2.2.1 (kX4 E).2.2.2.1 (kX4 E).2.2.2.2 X L (zI o) := rfl
  rw [hK]
  unfold fo_X4_factor
  rw [peek_b hb h, bd_s]
  by_cases q : cu b n i = 91
  · have q1 : zI (cu b n i) = 91 := by rw [q]; rfl
    have hlt : i < n := cu_lt (b := b) (by omega)
    rw [if_pos q1]
    by_cases ho6 : o < 6
    · have c6 : zI (o : Int) < 6 := by rw [e6, ltN (by omega) (by omega)]; exact ho6
      have n6 : ¬ N.1 13 = 6 := by rw [h13, e6, eqN (by omega) (by omega)]; omega
      obtain ⟨N1, eN1⟩ : ∃ N1, N1 = sI (sI (sA (sI N 13 (zI ((o + 1 : Nat) : Int))) 19 w (1048576 * 14)) 15 (zI ((w + 1 : Nat) : Int))) 9 (zI ((i + 1 : Nat) : Int)) := ⟨_, rfl⟩
      have e14 : (1048576 : Int32) * 14 = zI (1048576 * ((14 : Nat) : Int) + 0) := by decide
      have hA : smA (f0 + 1) f1 (zI bs) N = smA f0 f1 (zI bs) N1 := by
        have hop : f_X12_opens N 14 = some (1, N1) := by
          have e15 : (sI N 13 (zI ((o + 1 : Nat) : Int))).1 15 = zI w := by rw [sI_o _ _ _ _ (by omega)]; exact h15
          have e15' : (sA (sI N 13 (zI ((o + 1 : Nat) : Int))) 19 w (1048576 * 14)).1 15 = zI w := e15
          have e9 : (sI (sA (sI N 13 (zI ((o + 1 : Nat) : Int))) 19 w (1048576 * 14)) 15 (zI ((w + 1 : Nat) : Int))).1 9 = zI i := h.2.2.1
          unfold f_X12_opens
          rw [if_neg n6, h13, zs1, lt_e, e15, ckN (by omega) (by omega), clN (by omega), lt_e, e15', zs1, lt_e, e9, zs1, lt_e, ← eN1]
        unfold smA
        rw [f_X12_readsFactor_n0, here_b hb h, bd_s, if_pos q1, hop, bd_s]
        dsimp only
        rw [i10]
      have h1 : txR (sI X 2 (zI ((i + 1 : Nat) : Int))) N1 b n (i + 1) := by rw [eN1]; exact h.nx hlt (sI_s _ _ _) rfl rfl
      have em1 : em L N1 c0 a0 cm m [] ty P := by rw [eN1]; exact he.nm rfl rfl
      have s14 : stE N1 w 14 := ⟨by omega, 0, by omega, by omega, by rw [eN1, sI_2, sI_2, sA_s, if_pos rfl, e14]⟩
      have f1' : lnF a0 N N1 := by rw [eN1]; exact (lnF.i N (by omega) _).tr ((lnF.a19 _ _ _).tr ((lnF.i _ (by omega) _).tr (lnF.i _ (by omega) _)))
      have k1 : skF w N N1 := fun j hj => by rw [eN1, sI_2, sI_2, sA_s, if_neg (by omega), sI_2]
      obtain ⟨X2, L2, N2, r1, r2, r3⟩ := Hs ho6 _ L N1 (i + 1) c0 a0 cm m ty P (w + 1) f0 f1 bs ⟨h1, em1, by rw [eN1, sI_o _ _ _ _ (by omega), sI_o _ _ _ _ (by omega), sA_1, sI_s], by rw [eN1, sI_o _ _ _ _ (by omega), sI_s], by omega, by omega⟩ (by omega) (by omega) (Or.inr ⟨14, s14, by omega⟩) (by omega) (by omega)
      rcases r3 with ⟨i2, cm2, m2, q2, ty2, f12, u1, ⟨u2, u3, u4, u5, u6, u7⟩, u8, u9, u10, u11, u12, u13, u14, u15, u16⟩ | ⟨u1, u2, u3⟩
      · have hi2 := u2.1
        have hc2 := cu_b hb i2
        obtain ⟨f12, rfl⟩ : ∃ k, f12 = k + 1 := ⟨f12 - 1, by omega⟩
        have s14' : stE N2 w 14 := s14.mv (u12 w (by omega))
        have hos : f_X12_hasOpenSum N2 (zI bs) = some 1 := hos_t (W := w + 1 + q2.length) (by omega) u5 (zI bs) (k := w) (by omega) s14'.dv (w - bs) bs fu (by omega) (by show w - bs < 1000; omega)
        obtain ⟨⟨p1, p2, p3, p4, p5, p6⟩, -⟩ := id u3
        rw [hA, u16, if_pos c6, stp_b hb h hlt, bd_s, zs1, u15, bd_s]
        dsimp only
        rw [i10]
        rcases over_b hb u2 93 (by omega) (by omega) with ⟨a1, a2, a3, -⟩ | ⟨a1, a3, -⟩
        · have a3 : f_X9_stepOver X2 93 = _ := a3
          obtain ⟨N3, ty3, b1, b2', b3, b4, b5, b6, b7⟩ := cls_lp (x1 := 1) (lo := 2) (Or.inr ⟨rfl, rfl⟩) (w := w + 1) q2 N2 cm2 fu ty2 (by show q2.length < 1000; omega) (by omega) (by omega) u3 u5 u11 (Or.inr ⟨14, s14', by omega⟩) (by omega) (by omega)
          have b1 : f_X12_closesSums N2 1 = some N3 := b1
          obtain ⟨N4, eN4⟩ : ∃ N4, N4 = sI (sI (sI N3 15 (zI w)) 13 (zI o)) 9 (zI ((i2 + 1 : Nat) : Int)) := ⟨_, rfl⟩
          have y93 : zI (cu b n i2) = 93 := by rw [a1]; rfl
          have hB : f_X12_readsSum_n14 (f12 + 1) N2 (zI bs) = f_X12_readsSum_n14 f12 N4 (zI bs) := by
            have e13 : (sI N3 15 (zI w)).1 13 = zI ((o + 1 : Nat) : Int) := by rw [sI_o _ _ _ _ (by omega), b5 13 (by omega) (by omega)]; exact u4
            have e9 : (sI (sI N3 15 (zI w)) 13 (zI o)).1 9 = zI i2 := by rw [sI_o _ _ _ _ (by omega), sI_o _ _ _ _ (by omega), b5 9 (by omega) (by omega)]; exact u2.2.2.1
            rw [f_X12_readsSum_n14, here_b hb u2, bd_s, ss_n (by omega) (by omega) u13, bd_s, if_pos rfl, bd_s, if_pos y93, hos, bd_s, i10, b1, bd_s, b4, zp1, lt_e, e13, zp1, lt_e, e9, zs1, lt_e, ← eN4]
          rw [hB, a3, bd_s]
          dsimp only
          rw [i10]
          refine ⟨_, L2, N4, r1, f1'.tr (r2.tr (b7.tr ?_)), Or.inl ⟨i2 + 1, cm2 + q2.length, m2, ty3, f12, by omega, ⟨?_, ?_, ?_, ?_, by omega, by omega⟩, by omega, by omega, ?_, by omega, rfl, rfl⟩⟩
          · rw [eN4]; exact (lnF.i _ (by omega) _).tr ((lnF.i _ (by omega) _).tr (lnF.i _ (by omega) _))
          · rw [eN4]; exact u2.nx a2 (sI_s _ _ _) (b5 10 (by omega) (by omega)) (b6 7 (by omega))
          · rw [eN4]; exact b2'.nm rfl rfl
          · rw [eN4]; rfl
          · rw [eN4]; rfl
          · intro j hj
            have e1 : N4.2 19 j = N3.2 19 j := by rw [eN4]; rfl
            rw [e1, b6 19 (by omega), u12 j (by omega)]; exact k1 j hj
        · have a3 : f_X9_stepOver X2 93 = _ := a3
          have n93 : ¬ zI (cu b n i2) = 93 := by
            have e : (93 : Int32) = zI 93 := rfl
            rw [e, zI_eq (by omega) (by omega) (by omega) (by omega)]; exact a1
          have w1 : f_X12_wrongAt N2 1 (N2.1 9) = _ := wro_b u2 1
          have hB : f_X12_readsSum_n14 (f12 + 1) N2 (zI bs) = some (0, sI N2 11 (zI (ft 1 i2))) := by
            rw [f_X12_readsSum_n14, here_b hb u2, bd_s, ss_n (by omega) (by omega) u13, bd_s, if_pos rfl, bd_s, if_neg n93]
            unfold f_X12_readsSum_n138
            rw [hos, bd_s, i10, w1, bd_s, zb_0]
          rw [hB, a3, bd_s]
          dsimp only
          rw [i00]
          exact ⟨_, L2, _, r1, f1'.tr (r2.tr (lnF.i N2 (k := 11) (by omega) _)), Or.inr ⟨fl_of X2 N2 (by omega) (by omega) (by omega), rfl, rfl⟩⟩
      · rw [hA, u3, if_pos c6, stp_b hb h hlt, bd_s, zs1, u2, bd_s]
        dsimp only
        rw [i00]
        exact ⟨X2, L2, N2, r1, f1'.tr r2, Or.inr ⟨u1, rfl, rfl⟩⟩
    · have eo : o = 6 := by omega
      have c6 : ¬ zI (o : Int) < 6 := by rw [e6, ltN (by omega) (by omega)]; exact ho6
      have y6 : N.1 13 = 6 := by rw [h13, eo]; rfl
      have w1 : f_X12_wrongAt N 5 (N.1 9) = _ := wro_b h 5
      have w2 : f_X9_fail X 5 = _ := fal_b h 5
      have hA : smA (f0 + 1) f1 (zI bs) N = some (0, sI N 11 (zI (ft 5 i))) := by
        have hop : f_X12_opens N 14 = some (0, sI N 11 (zI (ft 5 i))) := by
          unfold f_X12_opens
          rw [if_pos y6, w1, bd_s, zb_0]
        unfold smA
        rw [f_X12_readsFactor_n0, here_b hb h, bd_s, if_pos q1, hop, bd_s]
        dsimp only
        rw [i00, bd_s]
        dsimp only
        rw [i00]
      rw [hA, if_neg c6, w2, bd_s, zb_0]
      exact ⟨_, L, _, lrF.rf c0 L, lnF.i N (k := 11) (by omega) _, Or.inr ⟨fl_of X N (by omega) (by omega) (by omega), rfl, rfl⟩⟩
  · have q1 : ¬ zI (cu b n i) = 91 := by rw [e91, zI_eq (by omega) (by omega) (by omega) (by omega)]; exact q
    rw [if_neg q1]
    obtain ⟨d1, d2⟩ := isD_b hb h
    by_cases hd : 48 ≤ cu b n i ∧ cu b n i ≤ 57
    · rw [decide_eq_true hd] at d1 d2
      rw [d2, bd_s, b2_t, i10]
      obtain ⟨X', N', i', a1, a2, a3⟩ := num5_b hb h hd
      have em1 : em L N' c0 a0 cm m [] ty P := he.nm (a1 14 (by omega) (by omega) (by omega)) (by rw [a2])
      have F1 : lnF a0 N N' := lnF.tx a1 a2
      rcases a3 with ⟨v, v1, v2, v3, v4, v5, v6, v7⟩ | ⟨v1, v2, v3⟩
      · have hi' := v2.1
        have nv : ¬ zI v = (-1 : Int32) := by
          have em : (-1 : Int32) = zI (-1) := rfl
          rw [em, zI_eq (by omega) (by omega) (by omega) (by omega)]; omega
        have hwn : f_X3_writeNumber L (zI v) = some (wrL L m (zI (sgOf 0)) (zI v)) := by
          have e110 : (110 : Int32) = zI (sgOf 0) := rfl
          unfold f_X3_writeNumber
          rw [write_e (by omega) g2, bd_s, e110]
        have hnt : f_X12_notes N' 0 (zI v) = some (ntN N' cm (zI (1048576 * ((0 : Nat) : Int) + v))) := notes_e (by omega) em1.1.1 0 v
        have hA : smA (f0 + 1) f1 (zI bs) N = f_X12_readsSum_n14 f1 (ntN N' cm (zI (1048576 * ((0 : Nat) : Int) + v))) (zI bs) := by
          unfold smA
          rw [f_X12_readsFactor_n0, here_b hb h, bd_s, if_neg q1, d1, bd_s, b2_t, i10, v7, bd_s]
          dsimp only
          rw [i10, v5, hnt, bd_s, bd_s]
          dsimp only
          rw [i10]
        rw [hA, v6, bd_s]
        dsimp only
        rw [hwn, bd_s, if_neg nv]
        refine ⟨X', _, _, lrF.w L (by omega) _ _, F1.tr (lnF.nt N' g4 _), Or.inl ⟨i', cm + 1, m + 1, _, f1, v1, ⟨v2.nm rfl rfl rfl, em_nl em1 (by omega) v3 v4 (fun h => by omega) (by omega), ?_, ?_, by omega, by omega⟩, tyU_s _ _ _, by omega, ?_, by omega, rfl, rfl⟩⟩
        · exact (a1 13 (by omega) (by omega) (by omega)).trans h13
        · exact (a1 15 (by omega) (by omega) (by omega)).trans h15
        · intro j hj
          unfold ntN
          rw [sI_2, sA_o _ _ _ _ _ (by omega), a2]
      · have hwn : ∃ L', f_X3_writeNumber L (-1) = some L' ∧ lrF c0 L L' := by
          refine ⟨wrL L m 110 (-1), ?_, lrF.w L (by omega) _ _⟩
          unfold f_X3_writeNumber
          rw [write_e (by omega) g2, bd_s]
        obtain ⟨L', l1, l2⟩ := hwn
        have hA : smA (f0 + 1) f1 (zI bs) N = some (0, N') := by
          unfold smA
          rw [f_X12_readsFactor_n0, here_b hb h, bd_s, if_neg q1, d1, bd_s, b2_t, i10, v2, bd_s]
          dsimp only
          rw [i00, bd_s]
          dsimp only
          rw [i00]
        rw [hA, v3, bd_s]
        dsimp only
        rw [l1, bd_s, if_pos rfl]
        exact ⟨X', L', N', l2, F1, Or.inr ⟨v1, rfl, rfl⟩⟩
    · rw [decide_eq_false hd] at d1 d2
      rw [d2, bd_s, b2_f, i00, bd_s]
      rcases wl_lp (L := L) (x := zI (cu b n i)) 10 0 fu (by omega) (by decide) with ⟨k, k1, k2, k3, k4⟩ | ⟨k1, k2⟩
      · have k4 : f_X3_writeLetter L (zI (cu b n i)) = _ := k4
        have hlt : i < n := by
          refine cu_lt (b := b) ?_
          by_cases h0 : 0 ≤ cu b n i
          · exact h0
          · exfalso
            have e : cu b n i = -1 := by omega
            rw [e] at k3
            exact absurd k3 ((by decide +kernel : ∀ k : Nat, k < 10 → ¬ stL k = zI (-1)) k k2)
        have hf : f_X12_factOf (zI (cu b n i)) = some (zI k) := by rw [← k3]; exact fact_k k k2
        have nk : ¬ zI (k : Int) = -1 := zne1 k (by omega)
        have e108 : (108 : Int32) = zI (sgOf 1) := rfl
        have hnt : f_X12_notes N 1 (zI k) = some (ntN N cm (zI (1048576 * ((1 : Nat) : Int) + k))) := notes_e (by omega) g1 1 k
        have hA : smA (f0 + 1) f1 (zI bs) N = f_X12_readsSum_n14 f1 (sI (ntN N cm (zI (1048576 * ((1 : Nat) : Int) + k))) 9 (zI ((i + 1 : Nat) : Int))) (zI bs) := by
          have e9 : (ntN N cm (zI (1048576 * ((1 : Nat) : Int) + k))).1 9 = zI i := h.2.2.1
          unfold smA
          rw [f_X12_readsFactor_n0, here_b hb h, bd_s, if_neg q1, d1, bd_s, b2_f, i00, bd_s, hf, bd_s, if_neg nk, hnt, bd_s, e9, zs1, lt_e, bd_s]
          dsimp only
          rw [i10]
        rw [hA, k4, write_e (by omega) g2, bd_s, bd_s]
        dsimp only
        rw [i10, stp_b hb h hlt, bd_s, e108]
        refine ⟨_, _, _, lrF.w L (by omega) _ _, (lnF.nt N g4 _).tr (lnF.i _ (k := 9) (by omega) _), Or.inl ⟨i + 1, cm + 1, m + 1, _, f1, by omega, ⟨h.nx hlt (sI_s _ _ _) rfl rfl, (em_nl he (by omega) (by omega) (by omega) (fun _ => by omega) (by omega)).nm rfl rfl, h13, h15, by omega, by omega⟩, tyU_s _ _ _, by omega, fun j hj => rfl, by omega, rfl, rfl⟩⟩
      · have k2 : f_X3_writeLetter L (zI (cu b n i)) = _ := k2
        have w1 : f_X12_wrongAt N 1 (N.1 9) = _ := wro_b h 1
        have w2 : f_X9_fail X 1 = _ := fal_b h 1
        have hA : smA (f0 + 1) f1 (zI bs) N = some (0, sI N 11 (zI (ft 1 i))) := by
          unfold smA
          rw [f_X12_readsFactor_n0, here_b hb h, bd_s, if_neg q1, d1, bd_s, b2_f, i00, bd_s, fact_n k1, bd_s, if_pos rfl, w1, bd_s, zb_0, bd_s]
          dsimp only
          rw [i00]
        rw [hA, k2, bd_s]
        dsimp only
        rw [i00, w2, bd_s, zb_0]
        exact ⟨_, L, _, lrF.rf c0 L, lnF.i N (k := 11) (by omega) _, Or.inr ⟨fl_of X N (by omega) (by omega) (by omega), rfl, rfl⟩⟩
end
