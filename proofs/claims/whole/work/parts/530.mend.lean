/-! mending; a web's turn; an hour; hours -/
theorem b1_ne : ∀ j, j < 32 → 0 < j → bt 1 j = false := by decide +kernel
theorem and1 (x : Int32) : x &&& 1 = 0 ∨ x &&& 1 = 1 := by
  cases h : bt x 0 with
  | false =>
    left
    refine b_ext fun i hi => ?_
    rw [b_and, b_0]
    by_cases e : i = 0
    · rw [e, h]; rfl
    · rw [b1_ne i hi (by omega), Bool.and_false]
  | true =>
    right
    refine b_ext fun i hi => ?_
    rw [b_and]
    by_cases e : i = 0
    · rw [e, h, Bool.true_and]
    · rw [b1_ne i hi (by omega), Bool.and_false]
theorem fac_m (L N : Gr) (p s t r h : Int32) : ∀ j, j < 10 → (seeF (seeL L p s t r h) 8 0 0 8 0).2 7 j = (setN N p 8 s t r h).2 30 j :=
  ten_c rfl rfl rfl rfl rfl rfl rfl rfl rfl rfl
theorem mend_1 {S L N : Gr} {w f : Int32} {p s : Nat} (hr : hrR S L N w f) (hp : p < 8) (tp : tw w p) (hs : s < 8) : ∃ (S' L' N' : Gr), (∀ (K : Gr → Gr → Option (Gr × Gr)), (lt' (((zI p * 8) + zI s)) fun v4 => rd' (S.2 4) 64 v4 fun v5 => (f_X7_slackSpokes S (zI p)).bind fun u6 => lt' ((S.1 9) - (S.1 9) / 24 * 24) fun v7 => (f_X3_seeWeb L (zI p) (zI s) v5 u6 v7).bind fun u8 => (f_X3_seeNoFleet u8).bind fun u9 => rd' (S.2 4) 64 v4 fun v10 => (f_X3_firstRule u9 109).bind fun u11 => (f_X3_worthOf u11.2 u11.1).bind fun u12 => lt' (mn' 99 (v10 + u12.1)) fun v13 => ck' 64 v4 (lt' (sA S 4 (Int32.toNatClampNeg v4) v13) fun S0_14 => K S0_14 u12.2)) = K S' L') ∧ (∀ (K : Gr → Option Gr), ((f_X12_sets N (zI p) 8 (zI s)).bind fun u4 => lt' (((0 + (8 * zI p)) + zI s)) fun v5 => rd' (u4.2 0) 82 v5 fun v6 => (f_X12_byLaw u4 109).bind fun u7 => (f_X12_min 99 (v6 + u7.1)).bind fun u8 => ck' 82 v5 (lt' (sA u7.2 0 (Int32.toNatClampNeg v5) u8) fun S0_9 => K S0_9)) = K N') ∧ hrR S' L' N' w f ∧ hF N N' ∧ S'.1 9 = S.1 9 ∧ N'.1 = N.1 := by
  obtain ⟨H, F, ⟨n5, n6⟩, W⟩ := hr
  obtain ⟨b1, b2', b3, b4, ⟨hh, c1, c2, c3, c4⟩, ⟨d8, d9, d10, d11, d12⟩, b7, b8⟩ := id H
  obtain ⟨tv, t1, t2, t3, t4⟩ := b7 p hp tp s hs
  obtain ⟨r, q, k1, k2, k3⟩ := slackN_b (S := S) (M := set6 N (zI p) 8 (zI s) (zI tv)) hp (by rw [b1]; exact (tb_z hp).mpr tp) (dyn_te H hp tp)
  have hsets := sets_e (g := 8) hp hs t4 k2 k3
  rw [c4] at hsets
  obtain ⟨LL, eLL⟩ : ∃ LL, LL = seeF (seeL L (zI p) (zI s) (zI tv) r (zI hh - zI hh / 24 * 24)) 8 0 0 8 0 := ⟨_, rfl⟩
  obtain ⟨NN, eNN⟩ : ∃ NN, NN = setN N (zI p) 8 (zI s) (zI tv) r (zI hh - zI hh / 24 * 24) := ⟨_, rfl⟩
  have hfac : ∀ j, j < 10 → LL.2 7 j = NN.2 30 j := by rw [eLL, eNN]; exact fac_m _ _ _ _ _ _ _
  have hLG : lG L LL := by rw [eLL]; exact (seeL_G _ _ _ _ _ _).tr (seeF_G _ _ _ _ _ _)
  have hNF : hF N NN := by rw [eNN]; exact setN_F _ _ _ _ _ _ _
  have hNN0 : NN.2 0 = N.2 0 := by rw [eNN]; rfl
  have hNN1 : NN.1 = N.1 := by rw [eNN]; rfl
  have hW : lwR LL NN := W.mv hLG hNF
  obtain ⟨r2, L2, wv, L3, N4, p1, p2, p3, p4, p5, p6, p7⟩ := by_b (L := LL) (S := NN) (K := 109) (Or.inr rfl) hW hfac
  have p1 : f_X3_firstRule LL 109 = some (r2, L2) := p1
  have p3 : f_X12_byLaw NN 109 = some (zI wv, N4) := p3
  have e99 : (99 : Int32) = zI 99 := rfl
  have hnof : ∀ X : Gr, f_X3_seeNoFleet X = some (seeF X 8 0 0 8 0) := fun X => by unfold f_X3_seeNoFleet; rw [see2, bd_s]
  have hF4 : hF N (sA N4 0 (8 * p + s) (zI (min 99 (tv + wv)))) := hNF.tr ((hF.of p7).tr (hF.s0 _ _ _))
  have h40 : N4.2 0 = N.2 0 := (p7.2 0 (by omega)).trans hNN0
  refine ⟨sA S 4 (8 * p + s) (zI (min 99 (tv + wv))), L3, sA N4 0 (8 * p + s) (zI (min 99 (tv + wv))), fun K => ?_, fun K => ?_, ⟨?_, ?_, ⟨(hF4.1 5 (by omega) (by omega)).trans n5, (hF4.1 6 (by omega) (by omega)).trans n6⟩, W.mv (hLG.tr (lG.of p6)) hF4⟩, hF4, rfl, ?_⟩
  · rw [ix8, lt_e, rdN (by omega) (by omega), t3, k1, bd_s, c3, lt_e, see1, bd_s, hnof, bd_s, ← eLL, rdN (by omega) (by omega), t3, p1, bd_s, p2, bd_s, zI_add, e99, mn_z (by omega) (by omega) (by omega) (by omega), lt_e, ckN (by omega) (by omega), clN (by omega), lt_e]
  · rw [hsets, bd_s, ← eNN, ix8m, lt_e, rdN (by omega) (by omega), hNN0, t4, p3, bd_s, zI_add, e99, min_z (by omega) (by omega) (by omega) (by omega), bd_s, ckN (by omega) (by omega), clN (by omega), lt_e]
  · have hd := dyn_upd H (i := 8 * p + s) (by omega) (t := min 99 (tv + wv)) (by omega) (by omega)
    show seaDyn (S.1 0) (S.1 1) (S.1 9) (S.1 10) (upd (S.2 4) (8 * p + s) (zI (min 99 (tv + wv)))) (S.2 5) (S.2 6) (S.2 8) w f (upd (N4.2 0) (8 * p + s) (zI (min 99 (tv + wv))))
    rw [h40]; exact hd
  · show seaFix (S.2 2) (S.2 3) (S.2 7) w f ((sA N4 0 (8 * p + s) (zI (min 99 (tv + wv)))).2 3) ((sA N4 0 (8 * p + s) (zI (min 99 (tv + wv)))).2 4)
    rw [hF4.2 3 (by omega) (by omega) (by omega), hF4.2 4 (by omega) (by omega) (by omega)]; exact F
  · show N4.1 = N.1
    rw [p7.1, hNN1]
theorem mend_lp {w f : Int32} {p : Nat} (hp : p < 8) (tp : tw w p) (x3 : Int32) : ∀ (d s n n' : Nat) (S L N : Gr), s + d = 8 → d < n → d < n' → hrR S L N w f → N.1 40 = x3 → ∃ S' L' N', f_X7_mend_n3 (zI p) x3 n S L (zI s) = some (S', L') ∧ f_X12_isMended_n2 (zI p) n' N (zI s) = some N' ∧ hrR S' L' N' w f ∧ hF N N' ∧ S'.1 9 = S.1 9 ∧ N'.1 = N.1 := by
  intro d
  induction d with
  | zero =>
    intro s n n' S L N hs hn hn' hr h40
    obtain ⟨n, rfl⟩ : ∃ k, n = k + 1 := ⟨n - 1, by omega⟩
    obtain ⟨n', rfl⟩ : ∃ k, n' = k + 1 := ⟨n' - 1, by omega⟩
    rw [f_X7_mend_n3, if_pos (le8 (by omega) (by omega)), f_X12_isMended_n2, if_pos (le8 (by omega) (by omega))]
    exact ⟨_, _, _, rfl, rfl, hr, hF.rf N, rfl, rfl⟩
  | succ d ih =>
    intro s n n' S L N hs hn hn' hr h40
    obtain ⟨n, rfl⟩ : ∃ k, n = k + 1 := ⟨n - 1, by omega⟩
    obtain ⟨n', rfl⟩ : ∃ k, n' = k + 1 := ⟨n' - 1, by omega⟩
    rw [f_X7_mend_n3, if_neg (nle8 (by omega)), f_X12_isMended_n2, if_neg (nle8 (by omega)), h40, has_e, bd_s]
    rcases and1 (x3 >>> (zI s &&& 31)) with h0 | h1
    · have hd : ¬ ((x3 >>> (zI s &&& 31)) &&& 1) = 1 := by rw [h0]; decide
      rw [if_pos h0, decide_eq_false hd, b2_f, i00]
      obtain ⟨S1, L1, N1, q1, q2, q3, q4, q5, q6⟩ := mend_1 hr hp tp (s := s) (by omega)
      rw [q1 (fun A B => lt' (zI s + 1) fun v15 => f_X7_mend_n3 (zI p) x3 n A B v15), q2 (fun A => lt' (zI s + 1) fun v10 => f_X12_isMended_n2 (zI p) n' A v10), lt_e, lt_e, zs1]
      obtain ⟨S', L', N', p1, p2, p3, p4, p5, p6⟩ := ih (s + 1) n n' S1 L1 N1 (by omega) (by omega) (by omega) q3 (by rw [q6]; exact h40)
      exact ⟨S', L', N', p1, p2, p3, q4.tr p4, p5.trans q5, p6.trans q6⟩
    · have hd : ¬ ((x3 >>> (zI s &&& 31)) &&& 1) = 0 := by rw [h1]; decide
      rw [if_neg hd, decide_eq_true h1, b2_t, i10, lt_e, lt_e, zs1]
      exact ih (s + 1) n n' S L N (by omega) (by omega) (by omega) hr h40
theorem wf_hr {S L N : Gr} {w f : Int32} (hr : hrR S L N w f) {p g : Nat} (hp : p < 8) (hg : g < 8) (tp : tw w p) (tg : tw f g) : ∃ x y a b v, wfOK S N p g x y a b v := by
  obtain ⟨a, b, a1, a2, a3, a4, a5, a6, a7⟩ := hr.2.1.1 p hp tp
  obtain ⟨v, b1, b2, b3, b4⟩ := hr.2.1.2 g hg tg
  exact wf_dyn hr.1 (p := p) ⟨⟨a, b, ⟨a1, a2, a3, a4⟩, a5, a6, a7⟩, v, b1, b2, b3, b4⟩ hg tg
theorem pw_lp {w f : Int32} {p : Nat} (hp : p < 8) (tp : tw w p) (T : Int32) (k21 : Gr → Int32 → Option Gr) : ∀ (d g n n' : Nat) (S L N : Gr) (x3 x4 : Int32), g + d = 8 → d < n → d < n' → hrR S L N w f → N.1 40 = x4 → N.1 39 = T + x3 → ∃ u S' L' N', f_X7_passWeb_n8 (zI p) n S L x3 x4 (zI g) = some (u, S', L') ∧ f_X12_hourGoes_n45 k21 n' N (zI p) (zI g) = k21 N' (zI ((p + 1 : Nat) : Int)) ∧ hrR S' L' N' w f ∧ hF N N' ∧ S'.1 9 = S.1 9 ∧ N'.1 39 = T + u := by
  have e0 : (0 : Int32) = zI 0 := rfl
  intro d
  induction d with
  | zero =>
    intro g n n' S L N x3 x4 hg hn hn' hr h40 h39
    obtain ⟨n, rfl⟩ : ∃ k, n = k + 1 := ⟨n - 1, by omega⟩
    obtain ⟨n', rfl⟩ : ∃ k, n' = k + 1 := ⟨n' - 1, by omega⟩
    obtain ⟨S', L', N', q1, q2, q3, q4, q5, q6⟩ := mend_lp hp tp x4 8 0 fu fu S L N (by omega) (by decide) (by decide) hr h40
    have q1 : f_X7_mend S L (zI p) x4 = some (S', L') := q1
    have q2 : f_X12_isMended N (zI p) = some N' := q2
    rw [f_X7_passWeb_n8, if_pos (le8 (by omega) (by omega)), q1, bd_s, f_X12_hourGoes_n45, if_pos (le8 (by omega) (by omega)), q2, bd_s, lt_e, zs1]
    exact ⟨_, _, _, _, rfl, rfl, q3, q4, q5, by rw [q6]; exact h39⟩
  | succ d ih =>
    intro g n n' S L N x3 x4 hg hn hn' hr h40 h39
    obtain ⟨n, rfl⟩ : ∃ k, n = k + 1 := ⟨n - 1, by omega⟩
    obtain ⟨n', rfl⟩ : ∃ k, n' = k + 1 := ⟨n' - 1, by omega⟩
    rw [f_X7_passWeb_n8, if_neg (nle8 (by omega)), hasFleet_e, bd_s, hr.1.2.1, f_X12_hourGoes_n45, if_neg (nle8 (by omega)), isFleet_e, bd_s, hr.2.2.1.2]
    cases ht : tb f (zI g) with
    | false =>
      rw [b2_f, i00, i00, lt_e, lt_e, zs1]
      exact ih (g + 1) n n' S L N x3 x4 (by omega) (by omega) (by omega) hr h40 h39
    | true =>
      have tg := (tb_z (w := f) (p := g) (by omega)).mp ht
      obtain ⟨x, y, a, b, v, hwf⟩ := wf_hr hr hp (g := g) (by omega) tp tg
      obtain ⟨f1, f2, f3, f4⟩ := felt_b hp (by omega) hwf
      have hdz := dz_b hwf.2.1 hwf.1
      have hv := hwf.2.2.1
      obtain ⟨s, hs, es⟩ := spz_b (a - x) (b - y)
      rw [b2_t, i10, i10, f1, bd_s]
      by_cases hfe : v - dz a b x y ≤ 0
      · have c1 : zI (v - dz a b x y) ≤ 0 := by rw [e0, zI_le (by omega) (by omega) (by omega) (by omega)]; exact hfe
        have hno : f_X12_touches N (zI p) (zI g) = some N := by
          obtain ⟨w1, w2, w3, w4, w5, w6, w7, w8, w9, w10, w11⟩ := hwf
          have hlt : ¬ zI (dz x y a b) < zI v := by
            rw [dz_c x y a b, zI_lt (by omega) (by omega) (by omega) (by omega)]; omega
          unfold f_X12_touches
          rw [rdN hp (by omega), ix64, rdN (by omega) (by omega), w6, w9, dist_m w1 w2, bd_s, rdN (by omega) (by omega), w11, if_neg hlt]
        rw [if_pos c1, hno, bd_s, lt_e, lt_e, zs1]
        exact ih (g + 1) n n' S L N x3 x4 (by omega) (by omega) (by omega) hr h40 h39
      · have c1 : ¬ zI (v - dz a b x y) ≤ 0 := by rw [e0, zI_le (by omega) (by omega) (by omega) (by omega)]; exact hfe
        obtain ⟨t, S1, L1, N1, q1, q2, q3, q4, q5, q6, q7⟩ := touch_b hr hp (g := g) (by omega) tp tg hwf (by omega) hs es
        rw [if_neg c1, f4, bd_s, es, q1, bd_s, q2, bd_s]
        simp only [lt_e, zs1]
        cases t with
        | false =>
          rw [b2_f, i00]
          obtain ⟨u, S', L', N', p1, p2, p3, p4, p5, p6⟩ := ih (g + 1) n n' S1 L1 N1 x3 x4 (by omega) (by omega) (by omega) q3 (q7.trans h40) (q6.trans h39)
          exact ⟨u, S', L', N', p1, p2, p3, q4.tr p4, p5.trans q5, p6⟩
        | true =>
          rw [b2_t, i10]
          obtain ⟨u, S', L', N', p1, p2, p3, p4, p5, p6⟩ := ih (g + 1) n n' S1 L1 N1 (x3 + 1) (x4 ||| (1 <<< (zI s &&& 31))) (by omega) (by omega) (by omega) q3 (by rw [q7, if_pos rfl, h40]) (by rw [q6, if_pos rfl, h39, Int32.add_assoc])
          exact ⟨u, S', L', N', p1, p2, p3, q4.tr p4, p5.trans q5, p6⟩
theorem hrR.nm {S L N N' : Gr} {w f : Int32} (h : hrR S L N w f) (k : hF N N') (h0 : N'.2 0 = N.2 0) : hrR S L N' w f := by
  obtain ⟨H, F, ⟨n5, n6⟩, W⟩ := h
  refine ⟨?_, ?_, ⟨(k.1 5 (by omega) (by omega)).trans n5, (k.1 6 (by omega) (by omega)).trans n6⟩, W.mv (lG.rf L) k⟩
  · unfold dynR; rw [h0]; exact H
  · rw [k.2 3 (by omega) (by omega) (by omega), k.2 4 (by omega) (by omega) (by omega)]; exact F
theorem web_lp {w f : Int32} {hh : Int} (h1 : 0 ≤ hh) (h2 : hh < 9999) (x2 x4 : Int32) (k5 : Gr → Gr → Int32 → Int32 → Option (Int32 × Gr × Gr)) : ∀ (d p n n' : Nat) (S L N : Gr) (x3 : Int32), p + d = 8 → d < n → d < n' → hrR S L N w f → S.1 9 = zI hh → N.1 39 = x3 → ∃ u S' L' N', f_X7_passHours_n46 x2 k5 n S L x3 x4 (zI p) = k5 S' L' u (x4 + 1) ∧ f_X12_hourGoes_n21 n' N (zI p) = some N' ∧ hrR S' L' N' w f ∧ hF N N' ∧ N'.1 39 = u := by
  intro d
  induction d with
  | zero =>
    intro p n n' S L N x3 hp hn hn' hr h9 h39
    obtain ⟨n, rfl⟩ : ∃ k, n = k + 1 := ⟨n - 1, by omega⟩
    obtain ⟨n', rfl⟩ : ∃ k, n' = k + 1 := ⟨n' - 1, by omega⟩
    have k80 : ∀ {β : Type} {q : Option β}, ck' 82 80 q = q := fun {β} {q} => ckN (m := 80) (by omega) (by omega)
    have cl80 : Int32.toNatClampNeg 80 = 80 := rfl
    rw [f_X7_passHours_n46, if_pos (le8 (by omega) (by omega)), lt_e, lt_e, f_X12_hourGoes_n21, if_pos (le8 (by omega) (by omega)), rd80, k80, cl80, lt_e]
    obtain ⟨H, F, ⟨n5, n6⟩, W⟩ := hr
    refine ⟨_, _, _, _, rfl, rfl, ⟨?_, F, ⟨n5, n6⟩, W.mv (lG.rf L) (hF.s0 N _ _)⟩, hF.s0 N _ _, h39⟩
    have H' : seaDyn (S.1 0) (S.1 1) (zI hh) (S.1 10) (S.2 4) (S.2 5) (S.2 6) (S.2 8) w f (N.2 0) := h9 ▸ H
    have := dyn_hour h1 h2 H'
    rw [h9]
    exact this
  | succ d ih =>
    intro p n n' S L N x3 hp hn hn' hr h9 h39
    obtain ⟨n, rfl⟩ : ∃ k, n = k + 1 := ⟨n - 1, by omega⟩
    obtain ⟨n', rfl⟩ : ∃ k, n' = k + 1 := ⟨n' - 1, by omega⟩
    rw [f_X7_passHours_n46, if_neg (nle8 (by omega)), hasWeb_e, bd_s, hr.1.1, f_X12_hourGoes_n21, if_neg (nle8 (by omega)), isWeb_e, bd_s, hr.2.2.1.1]
    cases ht : tb w (zI p) with
    | false =>
      rw [b2_f, i00, i00, lt_e, lt_e, zs1]
      exact ih (p + 1) n n' S L N x3 (by omega) (by omega) (by omega) hr h9 h39
    | true =>
      have tp := (tb_z (w := w) (p := p) (by omega)).mp ht
      have hr0 : hrR S L (sI N 40 0) w f := hr.nm (hF.i40 N 0) rfl
      obtain ⟨u, S1, L1, N1, q1, q2, q3, q4, q5, q6⟩ := pw_lp (p := p) (by omega) tp x3 (f_X12_hourGoes_n21 n') 8 0 fu fu S L (sI N 40 0) 0 0 (by omega) (by decide) (by decide) hr0 (sI_s _ _ _) (by rw [sI_o _ _ _ _ (by omega), h39, Int32.add_zero])
      have q1 : f_X7_passWeb S L (zI p) = some (u, S1, L1) := q1
      have q2 : f_X12_hourGoes_n45 (f_X12_hourGoes_n21 n') fu (sI N 40 0) (zI p) 0 = _ := q2
      rw [b2_t, i10, i10, q1, bd_s, lt_e, lt_e, zs1, lt_e, q2]
      obtain ⟨u', S', L', N', p1, p2, p3, p4, p5⟩ := ih (p + 1) n n' S1 L1 N1 (x3 + u) (by omega) (by omega) (by omega) q3 (q5.trans h9) q6
      exact ⟨u', S', L', N', p1, p2, p3, (hF.i40 N 0).tr (q4.tr p4), p5⟩
theorem fl_lp {w f : Int32} {hh : Int} (h1 : 0 ≤ hh) (h2 : hh < 9999) (x2 x4 : Int32) (k5 : Gr → Gr → Int32 → Int32 → Option (Int32 × Gr × Gr)) : ∀ (d g n n' : Nat) (S L N : Gr) (x3 : Int32), g + d = 8 → d < n → d < n' → hrR S L N w f → S.1 9 = zI hh → N.1 39 = x3 → ∃ u S' L' N', f_X7_passHours_n24 x2 k5 n S L x3 x4 (zI g) = k5 S' L' u (x4 + 1) ∧ f_X12_hourGoes_n2 n' N (zI g) = some N' ∧ hrR S' L' N' w f ∧ hF N N' ∧ N'.1 39 = u := by
  intro d
  induction d with
  | zero =>
    intro g n n' S L N x3 hg hn hn' hr h9 h39
    obtain ⟨n, rfl⟩ : ∃ k, n = k + 1 := ⟨n - 1, by omega⟩
    obtain ⟨n', rfl⟩ : ∃ k, n' = k + 1 := ⟨n' - 1, by omega⟩
    rw [f_X7_passHours_n24, if_pos (le8 (by omega) (by omega)), f_X12_hourGoes_n2, if_pos (le8 (by omega) (by omega))]
    exact web_lp h1 h2 x2 x4 k5 8 0 fu fu S L N x3 (by omega) (by decide) (by decide) hr h9 h39
  | succ d ih =>
    intro g n n' S L N x3 hg hn hn' hr h9 h39
    obtain ⟨n, rfl⟩ : ∃ k, n = k + 1 := ⟨n - 1, by omega⟩
    obtain ⟨n', rfl⟩ : ∃ k, n' = k + 1 := ⟨n' - 1, by omega⟩
    obtain ⟨H, F, ⟨n5, n6⟩, W⟩ := id hr
    obtain ⟨S1, N1, m1, m2, m3, m4, m5⟩ := move_b H n6 (g := g) (by omega)
    have k1 : hF N N1 := ⟨fun j _ _ => by rw [m5.1], fun j h0 _ _ => m5.2.1 j h0⟩
    have hr1 : hrR S1 L N1 w f := by
      refine ⟨m3, ?_, ⟨by rw [m5.1]; exact n5, by rw [m5.1]; exact n6⟩, W.mv (lG.rf L) k1⟩
      rw [m4.2.1, m4.2.2.1, m4.2.2.2.2, m5.2.1 3 (by omega), m5.2.1 4 (by omega)]; exact F
    rw [f_X7_passHours_n24, if_neg (nle8 (by omega)), m1, bd_s, lt_e, zs1, f_X12_hourGoes_n2, if_neg (nle8 (by omega)), m2, bd_s, lt_e, zs1]
    obtain ⟨u, S', L', N', p1, p2, p3, p4, p5⟩ := ih (g + 1) n n' S1 L N1 x3 (by omega) (by omega) (by omega) hr1 (by rw [m4.1]; exact h9) (by rw [m5.1]; exact h39)
    exact ⟨u, S', L', N', p1, p2, p3, k1.tr p4, p5⟩
theorem hr_lp {w f : Int32} {c : Nat} (hc : c ≤ 100) : ∀ (d k n n' : Nat) (S L N : Gr) (x3 : Int32), k + d = c → d < n → d < n' → hrR S L N w f → N.1 39 = x3 → ∃ u S' L' N', f_X7_passHours_n5 (zI c) n S L x3 (zI k) = some (u, S', L') ∧ f_X12_hoursGo_n7 (zI c) n' N (zI k) = some N' ∧ hrR S' L' N' w f ∧ hF N N' ∧ N'.1 39 = u := by
  intro d
  induction d with
  | zero =>
    intro k n n' S L N x3 hk hn hn' hr h39
    obtain ⟨n, rfl⟩ : ∃ k, n = k + 1 := ⟨n - 1, by omega⟩
    obtain ⟨n', rfl⟩ : ∃ k, n' = k + 1 := ⟨n' - 1, by omega⟩
    have c1 : zI c ≤ zI k := (leN (by omega) (by omega)).mpr (by omega)
    rw [f_X7_passHours_n5, if_pos c1, f_X12_hoursGo_n7, if_pos c1]
    exact ⟨_, _, _, _, rfl, rfl, hr, hF.rf N, h39⟩
  | succ d ih =>
    intro k n n' S L N x3 hk hn hn' hr h39
    obtain ⟨n, rfl⟩ : ∃ k, n = k + 1 := ⟨n - 1, by omega⟩
    obtain ⟨n', rfl⟩ : ∃ k, n' = k + 1 := ⟨n' - 1, by omega⟩
    have c1 : ¬ zI c ≤ zI k := fun h => absurd ((leN (by omega) (by omega)).mp h) (by omega)
    obtain ⟨hh, g1, g2, g3, g4⟩ := hr.1.2.2.2.2.1
    have e9 : (9999 : Int32) = zI 9999 := rfl
    rw [f_X7_passHours_n5, if_neg c1, f_X12_hoursGo_n7, if_neg c1, rd80, g3, g4]
    by_cases hL : hh = 9999
    · have c2 : (9999 : Int32) ≤ zI hh := by rw [e9, zI_le (by omega) (by omega) (by omega) (by omega)]; omega
      rw [if_pos c2, if_pos c2]
      exact ⟨_, _, _, _, rfl, rfl, hr, hF.rf N, h39⟩
    · have c2 : ¬ (9999 : Int32) ≤ zI hh := by rw [e9, zI_le (by omega) (by omega) (by omega) (by omega)]; omega
      rw [if_neg c2, if_neg c2]
      obtain ⟨u, S1, L1, N1, q1, q2, q3, q4, q5⟩ := fl_lp g1 (by omega) (zI c) (zI k) (f_X7_passHours_n5 (zI c) n) 8 0 fu fu S L N x3 (by omega) (by decide) (by decide) hr g3 h39
      have q1 : f_X7_passHours_n24 (zI c) (f_X7_passHours_n5 (zI c) n) fu S L x3 (zI k) 0 = _ := q1
      have q2 : f_X12_hourGoes N = some N1 := q2
      rw [q1, q2, bd_s, lt_e, zs1]
      obtain ⟨u', S', L', N', p1, p2, p3, p4, p5⟩ := ih (k + 1) n n' S1 L1 N1 u (by omega) (by omega) (by omega) q3 q5
      exact ⟨u', S', L', N', p1, p2, p3, q4.tr p4, p5⟩
theorem hrs_b {S L N : Gr} {w f : Int32} {c : Nat} (hc : c ≤ 100) (hr : hrR S L N w f) : ∃ u S' L' N', f_X7_passHours S L (zI c) = some (u, S', L') ∧ f_X12_hoursGo N (zI c) = some N' ∧ hrR S' L' N' w f ∧ hF N N' ∧ N'.1 39 = u := by
  obtain ⟨u, S', L', N', q1, q2, q3, q4, q5⟩ := hr_lp hc c 0 fu fu S L (sI N 39 0) 0 (by omega) (by show c < 1000; omega) (by show c < 1000; omega) (hr.nm (hF.i39 N 0) rfl) (sI_s _ _ _)
  refine ⟨u, S', L', N', q1, ?_, q3, (hF.i39 N 0).tr q4, q5⟩
  unfold f_X12_hoursGo
  rw [lt_e]; exact q2
theorem hours_ok : hp_hours Inv := by
  intro C M hI x
  obtain ⟨h1, h2, h3, h4, h5⟩ := id hI
  unfold f_X11_hours f_X12_hours
  rw [within_e, in_e, bd_s, bd_s]
  by_cases hx : (1 : Int32) ≤ x ∧ x ≤ 100
  · rw [decide_eq_true hx, b2_t, i10, i10]
    obtain ⟨c, hc1, hc2, rfl⟩ := in_of2 1 100 (by omega) (by omega) hx
    obtain ⟨u, S', L', N', q1, q2, ⟨r1, r2, ⟨r3, r4⟩, r5⟩, q4, q5⟩ := hrs_b (S := C 13) (L := C 11) (N := M) (w := M.1 5) (f := M.1 6) hc2 ⟨h2, h3, ⟨rfl, rfl⟩, h5⟩
    rw [q1, bd_s, q2, bd_s]
    refine ⟨_, _, rfl, rfl, q5.symm, ?_, ?_, ?_, ?_, r5⟩
    · show tapeOK ((C 1).1 1) ((C 1).2 0) (N'.1 8) (N'.2 7)
      rw [q4.1 8 (by omega) (by omega), q4.2 7 (by omega) (by omega) (by omega)]; exact h1
    · show seaDyn (S'.1 0) (S'.1 1) (S'.1 9) (S'.1 10) (S'.2 4) (S'.2 5) (S'.2 6) (S'.2 8) (N'.1 5) (N'.1 6) (N'.2 0)
      rw [r3, r4]; exact r1
    · show seaFix (S'.2 2) (S'.2 3) (S'.2 7) (N'.1 5) (N'.1 6) (N'.2 3) (N'.2 4)
      rw [r3, r4]; exact r2
    · show keptOK ((C 0).1 12) ((C 15).1 0) ((C 15).1 1) ((C 15).1 9) ((C 15).1 10) ((C 15).2 4) ((C 15).2 5) ((C 15).2 6) ((C 15).2 8) (N'.1 54) (N'.1 55) (N'.1 56) (N'.2 2)
      rw [q4.1 54 (by omega) (by omega), q4.1 55 (by omega) (by omega), q4.1 56 (by omega) (by omega), q4.2 2 (by omega) (by omega) (by omega)]; exact h4
  · rw [decide_eq_false hx, b2_f, i00, i00]
    exact ⟨_, _, rfl, rfl, rfl, h1, h2, h3, h4, h5⟩
