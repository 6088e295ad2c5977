/-! law: rules -/
theorem em_0 {L N : Gr} {m cm : Nat} (hL : L.1 4 = zI m) (hN : N.1 14 = zI cm) (h : cm ≤ m) : em L N m cm cm m [] (fun _ => 0) (fun _ => False) :=
  ⟨⟨hN, hL, h, by omega, by show m = m + (cm - cm) + 0; omega, rfl⟩, fun k k1 k2 => by omega, fun k hk => hk.elim, fun j hj => absurd hj (Nat.not_lt_zero j)⟩
theorem em_piece {L N : Gr} {c0 a0 cm m e : Nat} {ty : Nat → Nat} {sg vl codes : Nat → Int32} (h : em L N c0 a0 cm m [] ty (fun _ => False)) (ht : ty cm = e) (h5 : ∀ j, j < m → sg j = L.2 5 j) (h6 : ∀ j, j < m → vl j = L.2 6 j) (hs : sg m = 46) (hc : ∀ k, k < cm → codes k = N.2 18 k) : piece sg vl codes a0 cm c0 e := by
  obtain ⟨⟨h1, h2, h3, h4, h5', h6'⟩, h7, -, -⟩ := h
  have hm : m = c0 + (cm - a0) := h5'
  refine ⟨h4, fun j hj => ?_, by rw [← hm]; exact hs, ty, h6', ht, fun k k1 k2 => ?_⟩
  · obtain ⟨o, v, ⟨r1, r1', r1''⟩, r2, r3, r4, r5, r6, r7, r8⟩ := h7 (a0 + j) (by omega) (by omega)
    have ej : a0 + j - a0 = j := by omega
    rw [ej] at r2 r7
    obtain ⟨s1, s2⟩ := r7 (fun h => h)
    exact ⟨o, v, r1, r1', r1'', by rw [h5 _ (by omega)]; exact r2, by rw [hc _ (by omega)]; exact r3, by rw [h6 _ (by omega)]; exact s1, r4, r5⟩
  · obtain ⟨o, v, ⟨r1, r1', r1''⟩, r2, r3, r4, r5, ⟨t1, t2, t3, t4, t5⟩, r7, r8⟩ := h7 k k1 k2
    obtain ⟨s1, s2⟩ := r7 (fun h => h)
    exact ⟨o, v, r1, by rw [hc _ k2]; exact r3, r1', r1'', t1, t2, t3, t4, fun ho => ⟨(t5 ho).1, (t5 ho).2, s2 ho⟩⟩
theorem piece.mv {sg vl codes sg' vl' codes' : Nat → Int32} {a b c e m : Nat} (h : piece sg vl codes a b c e) (hm : c + (b - a) < m) (h5 : ∀ j, j < m → sg' j = sg j) (h6 : ∀ j, j < m → vl' j = vl j) (hc : ∀ k, k < b → codes' k = codes k) : piece sg' vl' codes' a b c e := by
  obtain ⟨h1, h2, h3, ty, t1, t2, t3⟩ := h
  refine ⟨h1, fun j hj => ?_, by rw [h5 _ hm]; exact h3, ty, t1, t2, fun k k1 k2 => ?_⟩
  · rw [h5 _ (by omega), h6 _ (by omega), hc _ (by omega)]; exact h2 j hj
  · obtain ⟨o, v, r1, r2, r3⟩ := t3 k k1 k2
    exact ⟨o, v, r1, by rw [hc _ k2]; exact r2, r3⟩
def ruQ (sg vl codes kd ws cs co fr ha to' : Nat → Int32) (m cm q : Nat) : Prop := ∃ (T A B D W S : Nat), (T = 116 ∨ T = 109 ∨ T = 120) ∧ kd q = zI T ∧ co q = zI T ∧ fr q = zI A ∧ ha q = zI B ∧ to' q = zI D ∧ D ≤ cm ∧ ws q = zI W ∧ cs q = zI S ∧ (T ≠ 120 → piece sg vl codes A B W 1 ∧ W + (B - A) < m) ∧ piece sg vl codes B D S 100 ∧ S + (D - B) < m
theorem ruQ.mv {sg vl codes kd ws cs co fr ha to' sg' vl' codes' kd' ws' cs' co' fr' ha' to2 : Nat → Int32} {m cm m' cm' q : Nat} (h : ruQ sg vl codes kd ws cs co fr ha to' m cm q) (hm : m ≤ m') (hcm : cm ≤ cm') (h5 : ∀ j, j < m → sg' j = sg j) (h6 : ∀ j, j < m → vl' j = vl j) (hc : ∀ k, k < cm → codes' k = codes k) (e1 : kd' q = kd q) (e2 : ws' q = ws q) (e3 : cs' q = cs q) (e4 : co' q = co q) (e5 : fr' q = fr q) (e6 : ha' q = ha q) (e7 : to2 q = to' q) : ruQ sg' vl' codes' kd' ws' cs' co' fr' ha' to2 m' cm' q := by
  obtain ⟨T, A, B, D, W, S, r1, r2, r3, r4, r5, r6, r7, r8, r9, r10, r11, r12⟩ := h
  refine ⟨T, A, B, D, W, S, r1, e1.trans r2, e4.trans r3, e5.trans r4, e6.trans r5, e7.trans r6, by omega, e2.trans r8, e3.trans r9, fun hT => ?_, r11.mv r12 h5 h6 (fun k hk => hc k (by omega)), by omega⟩
  obtain ⟨s1, s2⟩ := r10 hT
  have := r11.1
  exact ⟨s1.mv s2 h5 h6 (fun k hk => hc k (by omega)), by omega⟩
def ruR (L N : Gr) (r m cm : Nat) : Prop := (L.1 0 = zI r ∧ N.1 16 = zI r ∧ r ≤ 16 ∧ L.1 4 = zI m ∧ N.1 14 = zI cm ∧ cm ≤ m) ∧ ∀ q, q < r → ruQ (L.2 5) (L.2 6) (N.2 18) (L.2 1) (L.2 2) (L.2 3) (N.2 20) (N.2 21) (N.2 22) (N.2 23) m cm q
def lwF (N N' : Gr) : Prop := (∀ j, j ≠ 9 → j ≠ 11 → j ≠ 12 → j ≠ 13 → j ≠ 14 → j ≠ 15 → j ≠ 16 → N'.1 j = N.1 j) ∧ ∀ j, j ≠ 18 → j ≠ 19 → j ≠ 20 → j ≠ 21 → j ≠ 22 → j ≠ 23 → N'.2 j = N.2 j
theorem lwF.tr {A B C : Gr} (h : lwF A B) (k : lwF B C) : lwF A C := ⟨fun j a b c d e f g => (k.1 j a b c d e f g).trans (h.1 j a b c d e f g), fun j a b c d e f => (k.2 j a b c d e f).trans (h.2 j a b c d e f)⟩
theorem lwF.of {a0 : Nat} {A B : Gr} (h : lnF a0 A B) : lwF A B := ⟨fun j a b c d e f _ => h.1 j a b c d e f, fun j a b _ _ _ _ => h.2.1 j a b⟩
theorem lwF.i (N : Gr) {k : Nat} (hk : k = 9 ∨ k = 11 ∨ k = 12 ∨ k = 13 ∨ k = 14 ∨ k = 15 ∨ k = 16) (x : Int32) : lwF N (sI N k x) := ⟨fun j a b c d e f g => sI_o _ _ _ _ (by omega), fun _ _ _ _ _ _ _ => rfl⟩
theorem lwF.a (N : Gr) {k : Nat} (hk : k = 20 ∨ k = 21 ∨ k = 22 ∨ k = 23) (i : Nat) (x : Int32) : lwF N (sA N k i x) := ⟨fun _ _ _ _ _ _ _ _ => rfl, fun j a b c d e f => sA_o _ _ _ _ _ (by omega)⟩
section
variable {b : Nat → Int} {n : Nat}
/-- the condition of a rule -/
theorem con_b (hb : txB b n) {X L N : Gr} {i m cm r : Nat} (h : txR X N b n i) (hL : L.1 4 = zI m) (hN : N.1 14 = zI cm) (hcm : cm ≤ m) (hm : m ≤ i) (h16 : N.1 16 = zI r) (hr : r < 16) : ∃ X' L' N', lwF N N' ∧ ((∃ (i' m' cm' : Nat), i < i' ∧ txR X' N' b n i' ∧ (L'.1 0 = L.1 0 ∧ L'.1 4 = zI m' ∧ L'.2 1 = L.2 1 ∧ L'.2 2 = L.2 2 ∧ L'.2 3 = L.2 3 ∧ ∀ j, j < m → L'.2 5 j = L.2 5 j ∧ L'.2 6 j = L.2 6 j) ∧ (N'.1 14 = zI cm' ∧ N'.1 16 = zI ((r + 1 : Nat) : Int) ∧ N'.2 20 = N.2 20 ∧ N'.2 21 = N.2 21 ∧ (∀ j, N'.2 22 j = if j = r then zI cm else N.2 22 j) ∧ (∀ j, N'.2 23 j = if j = r then zI cm' else N.2 23 j) ∧ ∀ j, j < cm → N'.2 18 j = N.2 18 j) ∧ piece (L'.2 5) (L'.2 6) (N'.2 18) cm cm' m 100 ∧ m + (cm' - cm) < m' ∧ cm' ≤ m' ∧ m' ≤ i' ∧ f_X4_rule_n84 X L = some (1, X', L') ∧ f_X12_readsRule_n110 N = some (1, N')) ∨ (flR X' N' ∧ f_X4_rule_n84 X L = some (0, X', L') ∧ f_X12_readsRule_n110 N = some (0, N'))) := by
  have hn := hb.1
  have hi := h.1
  have hc := cu_b hb i
  obtain ⟨NA, eNA⟩ : ∃ NA, NA = sA N 22 r (zI cm) := ⟨_, rfl⟩
  have hA : txR X NA b n i := by rw [eNA]; exact h.nm rfl rfl rfl
  have FA : lwF N NA := by rw [eNA]; exact lwF.a N (by omega) _ _
  unfold f_X4_rule_n84 f_X12_readsRule_n110
  rw [h16, ckN (by omega) (by omega), clN (by omega), hN, lt_e, ← eNA]
  unfold f_X12_readsCondition
  rw [here_b hb hA, bd_s]
  rcases over_b hb h 40 (by omega) (by omega) with ⟨a1, a2, a3, -⟩ | ⟨a1, a3, -⟩
  · have a3 : f_X9_stepOver X 40 = _ := a3
    have y : zI (cu b n i) = 40 := by rw [a1]; rfl
    obtain ⟨NB, eNB⟩ : ∃ NB, NB = sI (sI NA 13 0) 15 0 := ⟨_, rfl⟩
    have hB : txR X NB b n i := by rw [eNB]; exact hA.nm rfl rfl rfl
    have FB : lwF N NB := by rw [eNB]; exact FA.tr ((lwF.i _ (by omega) _).tr (lwF.i _ (by omega) _))
    rw [if_pos y, lt_e, lt_e, ← eNB, a3, bd_s]
    dsimp only
    rw [i10]
    rcases opn_b hb (s := 13) (o := 0) (w := 0) hB a2 (by omega) (by rw [eNB]; rfl) (by rw [eNB]; rfl) (by omega) (Or.inr rfl) with ⟨eo, -⟩ | ⟨-, N1, o1, o2, o3, o4, o5, o6, o7, -, o9⟩
    · omega
    · have o1 : f_X12_opens NB 13 = some (1, N1) := o1
      have q14 : N1.1 14 = zI cm := by rw [o5, eNB, eNA]; exact hN
      obtain ⟨X2, L2, N2, r1, r2, r3⟩ := or_all hb _ L N1 (i + 1) m cm cm m (fun _ => 0) (fun _ => False) 1 fu ⟨o2, em_0 hL q14 hcm, o3, o4, by omega, by omega⟩ rfl (by omega) o7 (by show n - (i + 1) + 1 ≤ 1000; omega)
      rw [o1, bd_s]
      dsimp only
      rw [i10]
      have F1 : lwF N N1 := FB.tr (lwF.of (o9 0))
      rcases r3 with ⟨i2, cm2, m2, ty2, N3, f0', f1', u1, u2, u3, u4, u5, u6, u7, u8, u9, u10, u11, u12, u13⟩ | ⟨u1, u2, u3⟩
      · have u12 : f_X4_condition (sI X 2 (zI ((i + 1 : Nat) : Int))) L 1 124 = some (1, X2, L2) := u12
        have hi2 := u2.1
        obtain ⟨f1', rfl⟩ : ∃ k, f1' = k + 1 := ⟨f1' - 1, by omega⟩
        rw [u12, bd_s, u13]
        dsimp only
        rw [i10]
        rcases clo_b (w := 0) (o := 0) (f0 := f0') (f1 := f1') hb u2 u3 u4 u5 u9 with ⟨N4, c1, c2, c3, c4, c5, c7⟩ | ⟨c1, c2⟩
        · obtain ⟨v1, v2, v3, v4, v5, v6⟩ := id c4
          obtain ⟨⟨g1, g2, g3, g4, g5, g6⟩, -⟩ := id v2
          have g5 : m2 = m + (cm2 - cm) := g5
          have F4 : lnF cm N1 N4 := r2.tr (u4.tr c7)
          have q16 : N4.1 16 = zI r := by
            rw [F4.1 16 (by omega) (by omega) (by omega) (by omega) (by omega) (by omega), (o9 0).1 16 (by omega) (by omega) (by omega) (by omega) (by omega) (by omega), eNB, eNA]; exact h16
          have hW : f_X3_endRule L2 = some (wrL L2 m2 46 0) := by
            unfold f_X3_endRule
            rw [write_e (by omega) g2, bd_s]
          have q16' : (sA N4 23 r (zI cm2)).1 16 = zI r := q16
          have rw2 : ∀ j, j ≠ 18 → j ≠ 19 → N4.2 j = NA.2 j := fun j h1 h2 => by
            rw [F4.2.1 j h1 h2, (o9 0).2.1 j h1 h2, eNB]; rfl
          have cd : ∀ j, j < cm → N4.2 18 j = N.2 18 j := fun j hj => by
            rw [F4.2.2 j hj, o6, eNB, eNA]; rfl
          rw [c2, bd_s, c3, if_pos rfl, bd_s]
          dsimp only
          rw [i10, i10, hW, bd_s, q16, ckN (by omega) (by omega), clN (by omega), g1, lt_e, q16', zs1, lt_e]
          refine ⟨_, wrL L2 m2 46 0, sI (sA N4 23 r (zI cm2)) 16 (zI ((r + 1 : Nat) : Int)), F1.tr ((lwF.of F4).tr ((lwF.a _ (by omega) _ _).tr (lwF.i _ (by omega) _))), Or.inl ⟨i2 + 1, m2 + 1, cm2, by omega, v1.nm rfl rfl rfl, ⟨?_, ?_, ?_, ?_, ?_, fun j hj => ?_⟩, ⟨g1, rfl, ?_, ?_, fun j => ?_, fun j => ?_, cd⟩, ?_, by omega, by omega, by omega, rfl, rfl⟩⟩
          · have := (lrF.w (c0 := m) L2 (m := m2) (by omega) 46 0).1 0 (by omega)
            rw [this]; exact r1.1 0 (by omega)
          · exact sI_s _ _ _
          · rw [(lrF.w (c0 := m) L2 (m := m2) (by omega) 46 0).2.1 1 (by omega) (by omega)]; exact r1.2.1 1 (by omega) (by omega)
          · rw [(lrF.w (c0 := m) L2 (m := m2) (by omega) 46 0).2.1 2 (by omega) (by omega)]; exact r1.2.1 2 (by omega) (by omega)
          · rw [(lrF.w (c0 := m) L2 (m := m2) (by omega) 46 0).2.1 3 (by omega) (by omega)]; exact r1.2.1 3 (by omega) (by omega)
          · have k1 := (lrF.w (c0 := m) L2 (m := m2) (by omega) 46 0).2.2 j hj
            have k2 := r1.2.2 j hj
            exact ⟨k1.1.trans k2.1, k1.2.trans k2.2⟩
          · rw [sI_2, sA_o _ _ _ _ _ (by omega), rw2 20 (by omega) (by omega), eNA, sA_o _ _ _ _ _ (by omega)]
          · rw [sI_2, sA_o _ _ _ _ _ (by omega), rw2 21 (by omega) (by omega), eNA, sA_o _ _ _ _ _ (by omega)]
          · rw [sI_2, sA_o _ _ _ _ _ (by omega), rw2 22 (by omega) (by omega), eNA, sA_s]
          · rw [sI_2, sA_s, rw2 23 (by omega) (by omega), eNA, sA_o _ _ _ _ _ (by omega)]
          · exact em_piece (sg := (wrL L2 m2 46 0).2 5) (vl := (wrL L2 m2 46 0).2 6) (codes := (sI (sA N4 23 r (zI cm2)) 16 (zI ((r + 1 : Nat) : Int))).2 18) v2 u6 (fun j hj => by rw [wr5, if_neg (by omega)]) (fun j hj => by rw [wr6, if_neg (by omega)]) (by rw [wr5, if_pos rfl]) (fun k _ => rfl)
        · rw [c1, bd_s, c2, bd_s]
          dsimp only
          rw [i00, i00]
          exact ⟨_, L2, _, F1.tr ((lwF.of r2).tr (lwF.i N2 (k := 11) (by omega) _)), Or.inr ⟨fl_of X2 N2 (by omega) (by omega) (by omega), rfl, rfl⟩⟩
      · have u2 : f_X4_condition (sI X 2 (zI ((i + 1 : Nat) : Int))) L 1 124 = some (0, X2, L2) := u2
        rw [u2, bd_s, u3, bd_s]
        dsimp only
        rw [i00, i00]
        exact ⟨X2, L2, N2, F1.tr (lwF.of r2), Or.inr ⟨u1, rfl, rfl⟩⟩
  · have a3 : f_X9_stepOver X 40 = _ := a3
    have ny : ¬ zI (cu b n i) = 40 := by
      have e : (40 : Int32) = zI 40 := rfl
      rw [e, zI_eq (by omega) (by omega) (by omega) (by omega)]; exact a1
    have w1 : f_X12_wrongAt NA 1 (NA.1 9) = _ := wro_b hA 1
    rw [if_neg ny, w1, bd_s, zb_0, bd_s, a3, bd_s]
    dsimp only
    rw [i00, i00]
    exact ⟨_, L, _, FA.tr (lwF.i NA (k := 11) (by omega) _), Or.inr ⟨fl_of X NA (by omega) (by omega) (by omega), rfl, rfl⟩⟩
theorem rule_b (hb : txB b n) {X L N : Gr} {i r m cm : Nat} (h : txR X N b n i) (hru : ruR L N r m cm) (hm : m ≤ i) : ∃ X' L' N', lwF N N' ∧ ((∃ (i' m' cm' : Nat), i < i' ∧ txR X' N' b n i' ∧ ruR L' N' (r + 1) m' cm' ∧ m' ≤ i' ∧ f_X4_rule X L = some (1, X', L') ∧ f_X12_readsRule N = some (1, N')) ∨ (flR X' N' ∧ f_X4_rule X L = some (0, X', L') ∧ f_X12_readsRule N = some (0, N'))) := by
  have hn := hb.1
  have hi := h.1
  have hc := cu_b hb i
  obtain ⟨⟨d1, d2, d3, d4, d5, d6⟩, d7⟩ := id hru
  have e16 : (16 : Int32) = zI ((16 : Nat) : Int) := rfl
  have go : ∀ K : Nat, (K = 116 ∨ K = 109 ∨ K = 120) → cu b n i = K → ∃ X' L' N', lwF N N' ∧ ((∃ (i' m' cm' : Nat), i < i' ∧ txR X' N' b n i' ∧ ruR L' N' (r + 1) m' cm' ∧ m' ≤ i' ∧ f_X4_rule_n35 X L (zI (cu b n i)) = some (1, X', L') ∧ f_X12_readsRule_n33 N (zI (cu b n i)) = some (1, N')) ∨ (flR X' N' ∧ f_X4_rule_n35 X L (zI (cu b n i)) = some (0, X', L') ∧ f_X12_readsRule_n33 N (zI (cu b n i)) = some (0, N'))) := by
    intro K hK eK
    have hlt : i < n := cu_lt (b := b) (by omega)
    rw [eK]
    unfold f_X4_rule_n35 f_X12_readsRule_n33 f_X3_isFull
    by_cases hr : r < 16
    · have c1 : L.1 0 < 16 := by rw [d1, e16, ltN (by omega) (by omega)]; exact hr
      have c2 : ¬ N.1 16 = 16 := by rw [d2, e16, eqN (by omega) (by omega)]; omega
      obtain ⟨L1, eL1⟩ : ∃ L1, L1 = sI (sA (sA (sA L 1 r (zI K)) 2 r (zI m)) 3 r (zI m)) 0 (zI ((r + 1 : Nat) : Int)) := ⟨_, rfl⟩
      have hB : f_X3_beginRule L (zI K) = some L1 := by
        have c3 : ¬ (16 : Int32) ≤ L.1 0 := by rw [d1, e16, leN (by omega) (by omega)]; omega
        have x1 : (sA L 1 r (zI K)).1 0 = zI r := d1
        have x1' : (sA L 1 r (zI K)).1 4 = zI m := d4
        have x2 : (sA (sA L 1 r (zI K)) 2 r (zI m)).1 0 = zI r := d1
        have x2' : (sA (sA L 1 r (zI K)) 2 r (zI m)).1 4 = zI m := d4
        have x3 : (sA (sA (sA L 1 r (zI K)) 2 r (zI m)) 3 r (zI m)).1 0 = zI r := d1
        unfold f_X3_beginRule
        rw [if_neg c3, d1, ckN (by omega) (by omega), clN (by omega), lt_e, x1, x1', ckN (by omega) (by omega), clN (by omega), lt_e, x2, x2', ckN (by omega) (by omega), clN (by omega), lt_e, x3, zs1, lt_e, ← eL1]
      obtain ⟨N1, eN1⟩ : ∃ N1, N1 = sI (sI (sA (sI (sA N 20 r (zI K)) 9 (zI ((i + 1 : Nat) : Int))) 21 r (zI cm)) 13 0) 15 0 := ⟨_, rfl⟩
      have y9 : (sA N 20 r (zI K)).1 9 = zI i := h.2.2.1
      have y16 : (sI (sA N 20 r (zI K)) 9 (zI ((i + 1 : Nat) : Int))).1 16 = zI r := d2
      have y14 : (sI (sA N 20 r (zI K)) 9 (zI ((i + 1 : Nat) : Int))).1 14 = zI cm := d5
      have h1 : txR (sI X 2 (zI ((i + 1 : Nat) : Int))) N1 b n (i + 1) := by rw [eN1]; exact h.nx hlt rfl rfl rfl
      have F1 : lwF N N1 := by rw [eN1]; exact (lwF.a N (by omega) _ _).tr ((lwF.i _ (by omega) _).tr ((lwF.a _ (by omega) _ _).tr ((lwF.i _ (by omega) _).tr (lwF.i _ (by omega) _))))
      rw [if_pos c1, bd_s, i00, stp_b hb h hlt, bd_s, hB, bd_s, if_neg c2, d2, ckN (by omega) (by omega), clN (by omega), lt_e, y9, zs1, lt_e, y16, y14, ckN (by omega) (by omega), clN (by omega), lt_e, lt_e, lt_e, ← eN1]
      have L10 : L1.1 0 = zI ((r + 1 : Nat) : Int) := by rw [eL1]; rfl
      have L14 : L1.1 4 = zI m := by rw [eL1]; exact d4
      have N14 : N1.1 14 = zI cm := by rw [eN1]; exact d5
      have N16 : N1.1 16 = zI r := by rw [eN1]; exact d2
      have L1k : ∀ j, L1.2 1 j = if j = r then zI K else L.2 1 j := fun j => by rw [eL1, sI_2, sA_o _ _ _ _ _ (by omega), sA_o _ _ _ _ _ (by omega), sA_s]
      have L1w : ∀ j, L1.2 2 j = if j = r then zI m else L.2 2 j := fun j => by rw [eL1, sI_2, sA_o _ _ _ _ _ (by omega), sA_s, sA_o _ _ _ _ _ (by omega)]
      have L1c : ∀ j, L1.2 3 j = if j = r then zI m else L.2 3 j := fun j => by rw [eL1, sI_2, sA_s, sA_o _ _ _ _ _ (by omega), sA_o _ _ _ _ _ (by omega)]
      have L15 : L1.2 5 = L.2 5 := by rw [eL1]; rfl
      have L16 : L1.2 6 = L.2 6 := by rw [eL1]; rfl
      have N120 : ∀ j, N1.2 20 j = if j = r then zI K else N.2 20 j := fun j => by rw [eN1, sI_2, sI_2, sA_o _ _ _ _ _ (by omega), sI_2, sA_s]
      have N121 : ∀ j, N1.2 21 j = if j = r then zI cm else N.2 21 j := fun j => by rw [eN1, sI_2, sI_2, sA_s, sI_2, sA_o _ _ _ _ _ (by omega)]
      have N122 : N1.2 22 = N.2 22 := by rw [eN1]; rfl
      have N123 : N1.2 23 = N.2 23 := by rw [eN1]; rfl
      have N118 : N1.2 18 = N.2 18 := by rw [eN1]; rfl
      -- the condition after the worth, if there is one
      have fin : ∀ (X2 L2 N2 : Gr) (i2 m2 cm2 : Nat), i < i2 → txR X2 N2 b n i2 → L2.1 4 = zI m2 → N2.1 14 = zI cm2 → m ≤ m2 → cm ≤ cm2 → cm2 ≤ m2 → m2 ≤ i2 → N2.1 16 = zI r → L2.1 0 = zI ((r + 1 : Nat) : Int) → (∀ j, L2.2 1 j = L1.2 1 j) → (∀ j, L2.2 2 j = L1.2 2 j) → (∀ j, L2.2 3 j = if j = r then zI m2 else L.2 3 j) → (∀ j, j < m → L2.2 5 j = L.2 5 j ∧ L2.2 6 j = L.2 6 j) → N2.2 20 = N1.2 20 → N2.2 21 = N1.2 21 → N2.2 22 = N1.2 22 → N2.2 23 = N1.2 23 → (∀ j, j < cm → N2.2 18 j = N.2 18 j) → lwF N N2 → (K ≠ 120 → piece (L2.2 5) (L2.2 6) (N2.2 18) cm cm2 m 1 ∧ m + (cm2 - cm) < m2) → ∃ X' L' N', lwF N N' ∧ ((∃ (i' m' cm' : Nat), i < i' ∧ txR X' N' b n i' ∧ ruR L' N' (r + 1) m' cm' ∧ m' ≤ i' ∧ f_X4_rule_n84 X2 L2 = some (1, X', L') ∧ f_X12_readsRule_n110 N2 = some (1, N')) ∨ (flR X' N' ∧ f_X4_rule_n84 X2 L2 = some (0, X', L') ∧ f_X12_readsRule_n110 N2 = some (0, N'))) := by
        intro X2 L2 N2 i2 m2 cm2 z0 z1 z2 z3 z4 z5 z6 z7 z8 z9 z10 z11 z12 z13 z14 z15 z16 z17 z18 z19 z20
        obtain ⟨X3, L3, N3, a1, a2⟩ := con_b hb z1 z2 z3 z6 z7 z8 hr
        refine ⟨X3, L3, N3, z19.tr a1, ?_⟩
        rcases a2 with ⟨i3, m3, cm3, b1, b2', ⟨c1', c2', c3, c4, c5, c6⟩, ⟨e1, e2, e3, e4, e5, e6, e7⟩, b5, b6, b7, b8, b9, b10⟩ | a2
        · have hab := b5.1
          refine Or.inl ⟨i3, m3, cm3, by omega, b2', ⟨⟨by rw [c1', z9], e2, by omega, c2', e1, b7⟩, fun q hq => ?_⟩, b8, b9, b10⟩
          have k5 : ∀ j, j < m → L3.2 5 j = L.2 5 j := fun j hj => ((c6 j (by omega)).1).trans (z13 j hj).1
          have k6 : ∀ j, j < m → L3.2 6 j = L.2 6 j := fun j hj => ((c6 j (by omega)).2).trans (z13 j hj).2
          have k18 : ∀ j, j < cm → N3.2 18 j = N.2 18 j := fun j hj => (e7 j (by omega)).trans (z18 j hj)
          by_cases eq : q = r
          · subst eq
            refine ⟨K, cm, cm2, cm3, m, m2, hK, ?_, ?_, ?_, ?_, ?_, by omega, ?_, ?_, fun hT => ?_, b5, b6⟩
            · rw [c3, z10, L1k, if_pos rfl]
            · rw [e3, z14, N120, if_pos rfl]
            · rw [e4, z15, N121, if_pos rfl]
            · rw [e5, if_pos rfl]
            · rw [e6, if_pos rfl]
            · rw [c4, z11, L1w, if_pos rfl]
            · rw [c5, z12, if_pos rfl]
            · obtain ⟨p1, p2⟩ := z20 hT
              exact ⟨p1.mv p2 (fun j hj => (c6 j hj).1) (fun j hj => (c6 j hj).2) (fun k hk => e7 k hk), by omega⟩
          · refine (d7 q (by omega)).mv (by omega) (by omega) k5 k6 k18 ?_ ?_ ?_ ?_ ?_ ?_ ?_
            · rw [c3, z10, L1k, if_neg eq]
            · rw [c4, z11, L1w, if_neg eq]
            · rw [c5, z12, if_neg eq]
            · rw [e3, z14, N120, if_neg eq]
            · rw [e4, z15, N121, if_neg eq]
            · rw [e5, if_neg eq, z16, N122]
            · rw [e6, if_neg eq, z17, N123]
        · exact Or.inr a2
      by_cases hx : K = 120
      · have y : zI (K : Int) = 120 := by rw [hx]; rfl
        rw [if_pos y, if_pos y]
        exact fin _ L1 N1 (i + 1) m cm (by omega) h1 L14 N14 (by omega) (by omega) d6 (by omega) N16 L10 (fun _ => rfl) (fun _ => rfl) L1c (fun j _ => by rw [L15, L16]; exact ⟨rfl, rfl⟩) rfl rfl rfl rfl (fun j _ => by rw [N118]) F1 (fun h => absurd hx h)
      · have ny : ¬ zI (K : Int) = 120 := by
          have e : (120 : Int32) = zI ((120 : Nat) : Int) := rfl
          rw [e, eqN (by omega) (by omega)]; exact hx
        rw [if_neg ny, if_neg ny]
        have hst : lst (sI X 2 (zI ((i + 1 : Nat) : Int))) L1 N1 b n (i + 1) m cm cm m [] (fun _ => 0) (fun _ => False) 0 0 := ⟨h1, em_0 L14 N14 d6, by rw [eN1]; rfl, by rw [eN1]; rfl, by omega, by omega⟩
        obtain ⟨X2, L2, N2, r1, r2, r3⟩ := rsum_b (D := 60) hb (by omega) (by omega) hst (by show 0 ≤ 1; omega) (Or.inl rfl)
        rcases r3 with ⟨i2, cm2, m2, ty2, u1, ⟨v1, v2, v3, v4, v5, v6⟩, u3, u4, u5, u6, u7, u8⟩ | ⟨u1, u2, u3⟩
        · have u7 : f_X4_sum (sI X 2 (zI ((i + 1 : Nat) : Int))) L1 0 = some (1, X2, L2) := u7
          have u3 : ty2 cm2 = 1 := u3
          have hi2 := v1.1
          obtain ⟨⟨g1, g2, g3, g4, g5, g6⟩, -⟩ := id v2
          have g5 : m2 = m + (cm2 - cm) := g5
          have l0 : L2.1 0 = zI ((r + 1 : Nat) : Int) := (r1.1 0 (by omega)).trans L10
          have e1 : (1 : Int32) = zI ((1 : Nat) : Int) := rfl
          obtain ⟨L3, eL3⟩ : ∃ L3, L3 = sA (wrL L2 m2 46 0) 3 r (zI ((m2 + 1 : Nat) : Int)) := ⟨_, rfl⟩
          have hW : f_X3_endWorth L2 = some L3 := by
            have x0 : (wrL L2 m2 46 0).1 0 = zI ((r + 1 : Nat) : Int) := l0
            have x4 : (wrL L2 m2 46 0).1 4 = zI ((m2 + 1 : Nat) : Int) := sI_s _ _ _
            have hin : (1 : Int32) ≤ zI ((r + 1 : Nat) : Int) ∧ zI ((r + 1 : Nat) : Int) ≤ 16 := by
              rw [e1, e16, leN (by omega) (by omega), leN (by omega) (by omega)]; omega
            unfold f_X3_endWorth
            rw [write_e (by omega) g2, bd_s, x0, within_e, decide_eq_true hin, bd_s, b2_t, i10, zp1, ckN (by omega) (by omega), clN (by omega), x4, lt_e, ← eL3]
          rw [u7, bd_s, u8, bd_s]
          dsimp only
          rw [i10, i10, hW, bd_s]
          have W5 : ∀ j, L3.2 5 j = if j = m2 then 46 else L2.2 5 j := fun j => by rw [eL3, sA_o _ _ _ _ _ (by omega), wr5]
          have W6 : ∀ j, L3.2 6 j = if j = m2 then 0 else L2.2 6 j := fun j => by rw [eL3, sA_o _ _ _ _ _ (by omega), wr6]
          have Wf := lrF.w (c0 := m) L2 (m := m2) (by omega) 46 0
          exact fin X2 L3 N2 i2 (m2 + 1) cm2 (by omega) v1 (by rw [eL3]; rfl) g1 (by omega) (by omega) (by omega) (by omega) ((r2.1 16 (by omega) (by omega) (by omega) (by omega) (by omega) (by omega)).trans N16) (by rw [eL3]; exact l0) (fun j => by rw [eL3, sA_o _ _ _ _ _ (by omega), Wf.2.1 1 (by omega) (by omega), r1.2.1 1 (by omega) (by omega)]) (fun j => by rw [eL3, sA_o _ _ _ _ _ (by omega), Wf.2.1 2 (by omega) (by omega), r1.2.1 2 (by omega) (by omega)]) (fun j => by
              rw [eL3, sA_s]
              by_cases e : j = r
              · rw [if_pos e, if_pos e]
              · rw [if_neg e, if_neg e, Wf.2.1 3 (by omega) (by omega), r1.2.1 3 (by omega) (by omega), L1c, if_neg e]) (fun j hj => by
              rw [W5, W6, if_neg (by omega), if_neg (by omega), (r1.2.2 j hj).1, (r1.2.2 j hj).2, L15, L16]; exact ⟨rfl, rfl⟩) (r2.2.1 20 (by omega) (by omega)) (r2.2.1 21 (by omega) (by omega)) (r2.2.1 22 (by omega) (by omega)) (r2.2.1 23 (by omega) (by omega)) (fun j hj => by rw [r2.2.2 j hj, N118]) (F1.tr (lwF.of r2)) (fun _ => ⟨em_piece (sg := L3.2 5) (vl := L3.2 6) (codes := N2.2 18) v2 u3 (fun j hj => by rw [W5, if_neg (by omega)]) (fun j hj => by rw [W6, if_neg (by omega)]) (by rw [W5, if_pos rfl]) (fun k _ => rfl), by omega⟩)
        · have u2 : f_X4_sum (sI X 2 (zI ((i + 1 : Nat) : Int))) L1 0 = some (0, X2, L2) := u2
          rw [u2, bd_s, u3, bd_s]
          dsimp only
          rw [i00, i00]
          exact ⟨X2, L2, N2, F1.tr (lwF.of r2), Or.inr ⟨u1, rfl, rfl⟩⟩
    · have er : r = 16 := by omega
      have c1 : ¬ L.1 0 < 16 := by rw [d1, e16, ltN (by omega) (by omega)]; exact hr
      have c2 : N.1 16 = 16 := by rw [d2, er]; rfl
      have w1 : f_X12_wrongAt N 4 (N.1 9) = _ := wro_b h 4
      have w2 : f_X9_fail X 4 = _ := fal_b h 4
      rw [if_neg c1, bd_s, i10, w2, bd_s, zb_0, if_pos c2, w1, bd_s, zb_0]
      exact ⟨_, L, _, lwF.i N (k := 11) (by omega) _, Or.inr ⟨fl_of X N (by omega) (by omega) (by omega), rfl, rfl⟩⟩
  have kne : ∀ (v : Int), 0 ≤ v → v < 256 → cu b n i ≠ v → ¬ zI (cu b n i) = zI v := fun v v0 v1 hne => by
    rw [zI_eq (by omega) (by omega) (by omega) (by omega)]; exact hne
  unfold f_X4_rule f_X12_readsRule
  rw [peek_b hb h, bd_s, here_b hb h, bd_s]
  by_cases q1 : cu b n i = 116
  · have y : zI (cu b n i) = 116 := by rw [q1]; rfl
    rw [if_pos y, if_pos y]; exact go 116 (by omega) q1
  · have n1 : ¬ zI (cu b n i) = 116 := kne 116 (by omega) (by omega) q1
    rw [if_neg n1, if_neg n1]
    by_cases q2 : cu b n i = 109
    · have y : zI (cu b n i) = 109 := by rw [q2]; rfl
      rw [if_pos y, if_pos y]; exact go 109 (by omega) q2
    · have n2 : ¬ zI (cu b n i) = 109 := kne 109 (by omega) (by omega) q2
      rw [if_neg n2, if_neg n2]
      by_cases q3 : cu b n i = 120
      · have y : zI (cu b n i) = 120 := by rw [q3]; rfl
        rw [if_pos y, if_pos y]; exact go 120 (by omega) q3
      · have n3 : ¬ zI (cu b n i) = 120 := kne 120 (by omega) (by omega) q3
        have w1 : f_X12_wrongAt N 1 (N.1 9) = _ := wro_b h 1
        have w2 : f_X9_fail X 1 = _ := fal_b h 1
        rw [if_neg n3, if_neg n3, w1, bd_s, zb_0, w2, bd_s, zb_0]
        exact ⟨_, L, _, lwF.i N (k := 11) (by omega) _, Or.inr ⟨fl_of X N (by omega) (by omega) (by omega), rfl, rfl⟩⟩
end
