/-! law: terms and sums -/
theorem sg_b : ∀ s : Nat, s < 7 → 2 ≤ s → 0 ≤ sgOf s ∧ sgOf s < 256 := by decide
section
variable {b : Nat → Int} {n : Nat}
theorem sg_step (hb : txB b n) {X L N : Gr} {i c0 a0 cm m w o s lo bs f1 : Nat} {q : List Nat} {ty : Nat → Nat} {P : Nat → Prop} (hst : lst X L N b n i c0 a0 cm m q ty P (w + q.length) o) (hs : (4 ≤ s ∧ s ≤ 6 ∧ lo = 4) ∨ (2 ≤ s ∧ s ≤ 3 ∧ lo = 2)) (hcu : cu b n i = sgOf s) (hq : ops N w lo q) (hT : stopT N w lo) (ht : ty cm ≤ 31) (ht2 : q.length + 1 ≤ ty cm) : i < n ∧ ∃ N2 ty1, f_X12_readsSum_n14 (f1 + 1) N (zI bs) = smA fu f1 (zI bs) N2 ∧ lst (sI X 2 (zI ((i + 1 : Nat) : Int))) L N2 b n (i + 1) c0 a0 (cm + q.length) m [] ty1 P (w + 1) o ∧ ty1 (cm + q.length) + q.length = ty cm ∧ stE N2 w s ∧ skF w N N2 ∧ lnF a0 N N2 := by
  obtain ⟨h, he, h13, h15, hw, hm⟩ := hst
  have hi := h.1
  have hn := hb.1
  have hc := cu_b hb i
  obtain ⟨⟨g1, g2, g3, g4, g5, g6⟩, -⟩ := id he
  have hsb := sg_b s (by omega) (by omega)
  have hlt : i < n := cu_lt (b := b) (by omega)
  refine ⟨hlt, ?_⟩
  obtain ⟨x1, hx1, hx2⟩ : ∃ x1 : Int32, ((x1 = 0 ∧ lo = 4) ∨ (x1 = 1 ∧ lo = 2)) ∧ x1 = (if 4 ≤ s then 0 else 1) := by
    by_cases e : 4 ≤ s
    · exact ⟨0, Or.inl ⟨rfl, by omega⟩, by rw [if_pos e]⟩
    · exact ⟨1, Or.inr ⟨rfl, by omega⟩, by rw [if_neg e]⟩
  obtain ⟨N1, ty1, b1, b2', b3, b4, b5, b6, b7⟩ := cls_lp (x1 := x1) (lo := lo) hx1 (w := w) q N cm fu ty (by show q.length < 1000; omega) (by omega) (by omega) he h15 hq hT ht ht2
  have b1 : f_X12_closesSums N x1 = some N1 := b1
  obtain ⟨N2, eN2⟩ : ∃ N2, N2 = sI (sI (sA N1 19 w (1048576 * zI s)) 15 (zI ((w + 1 : Nat) : Int))) 9 (zI ((i + 1 : Nat) : Int)) := ⟨_, rfl⟩
  have e0 : (1048576 : Int32) * zI s = zI (1048576 * (s : Int) + 0) := by
    have e : (1048576 : Int32) = zI 1048576 := rfl
    rw [e, zI_mul]; congr 1
  have h38 : f_X12_readsSum_n38 (f_X12_readsSum_n14 f1) N (zI bs) (zI s) x1 = smA fu f1 (zI bs) N2 := by
    have e15 : (sA N1 19 w (1048576 * zI s)).1 15 = zI w := b4
    have e9 : (sI (sA N1 19 w (1048576 * zI s)) 15 (zI ((w + 1 : Nat) : Int))).1 9 = zI i := by rw [sI_o _ _ _ _ (by omega), sA_1, b5 9 (by omega) (by omega)]; exact h.2.2.1
    unfold f_X12_readsSum_n38
    rw [b1, bd_s, b4, ckN (by omega) (by omega), clN (by omega), lt_e, e15, zs1, lt_e, e9, zs1, lt_e, ← eN2]
    rfl
  have ns : ¬ zI (s : Int) = -1 := zne1 s (by omega)
  have e4 : (4 : Int32) ≤ zI (s : Int) ↔ 4 ≤ s := by
    have e : (4 : Int32) = zI ((4 : Nat) : Int) := rfl
    rw [e, leN (by omega) (by omega)]
  refine ⟨N2, ty1, ?_, ⟨?_, ?_, ?_, ?_, by omega, by omega⟩, b3, ⟨by omega, 0, by omega, by omega, ?_⟩, fun j hj => ?_, ?_⟩
  · rw [f_X12_readsSum_n14, here_b hb h, bd_s, hcu, ss_o s (by omega) (by omega), bd_s, if_neg ns]
    by_cases k4 : 4 ≤ s
    · rw [if_pos k4] at hx2
      rw [if_pos (e4.mpr k4), ← hx2, h38]
    · rw [if_neg k4] at hx2
      rw [if_neg (fun h => k4 (e4.mp h)), ← hx2, h38]
  · rw [eN2]; exact h.nx hlt (sI_s _ _ _) (b5 10 (by omega) (by omega)) (by rw [sI_2, sI_2, sA_o _ _ _ _ _ (by omega)]; exact b6 7 (by omega))
  · rw [eN2]; exact b2'.nm rfl rfl
  · rw [eN2, sI_o _ _ _ _ (by omega), sI_o _ _ _ _ (by omega), sA_1, b5 13 (by omega) (by omega)]; exact h13
  · rw [eN2]; rfl
  · rw [eN2, sI_2, sI_2, sA_s, if_pos rfl, e0]
  · rw [eN2, sI_2, sI_2, sA_s, if_neg (by omega), b6 19 (by omega)]
  · refine b7.tr ?_
    rw [eN2]; exact (lnF.a19 _ _ _).tr ((lnF.i _ (by omega) _).tr (lnF.i _ (by omega) _))
theorem tl_lp (hb : txB b n) {E o : Nat} (Hf : facP b n E o) (ho : o ≤ 6) {c0 a0 w bs t : Nat} {P : Nat → Prop} (ht : t ≤ 2 * o + 2) (hbs : bs ≤ w) : ∀ (d k i f : Nat) (X L N : Gr) (cm m : Nat) (q : List Nat) (ty : Nat → Nat) (f1 : Nat), n < i + d → k ≤ i → d ≤ f → lst X L N b n i c0 a0 cm m q ty P (w + q.length) o → ty cm = t + 1 + q.length → q.length ≤ 1 → ops N w 4 q → stopT N w 4 → n - i + 1 ≤ f1 → ∃ X' L' N', lrF c0 L L' ∧ lnF a0 N N' ∧ ((∃ (i' cm' m' : Nat) (q' : List Nat) (ty' : Nat → Nat) (f1' : Nat), i ≤ i' ∧ lst X' L' N' b n i' c0 a0 cm' m' q' ty' P (w + q'.length) o ∧ ty' cm' = t + 1 + q'.length ∧ m' + i ≤ m + i' ∧ q'.length ≤ 1 ∧ ops N' w 4 q' ∧ skF w N N' ∧ (cu b n i' ≠ 42 ∧ cu b n i' ≠ 47 ∧ cu b n i' ≠ 37) ∧ n - i' + 1 ≤ f1' ∧ f_X4_term_n13 (kX4 E).1 (kX4 E).2.1 (kX4 E).2.2.1 (kX4 E).2.2.2.1 (kX4 E).2.2.2.2 (zI o) f X L (zI k) = some (1, X', L') ∧ f_X12_readsSum_n14 f1 N (zI bs) = f_X12_readsSum_n14 f1' N' (zI bs)) ∨ (flR X' N' ∧ f_X4_term_n13 (kX4 E).1 (kX4 E).2.1 (kX4 E).2.2.1 (kX4 E).2.2.2.1 (kX4 E).2.2.2.2 (zI o) f X L (zI k) = some (0, X', L') ∧ f_X12_readsSum_n14 f1 N (zI bs) = some (0, N'))) := by
  have hn := hb.1
  intro d
  induction d with
  | zero => intro k i f X L N cm m q ty f1 hd _ _ hst; have := hst.1.1; omega
  | succ d ih =>
    intro k i f X L N cm m q ty f1 hd hki hf hst hty hq1 hq hT hf1
    obtain ⟨f, rfl⟩ : ∃ k, f = k + 1 := ⟨f - 1, by omega⟩
    obtain ⟨f1, rfl⟩ : ∃ k, f1 = k + 1 := ⟨f1 - 1, by omega⟩
    have h := hst.1
    have hi := h.1
    have hmi := hst.2.2.2.2.2
    have hc := cu_b hb i
    have e240 : (240 : Int32) = zI ((240 : Nat) : Int) := rfl
    have c1 : ¬ (240 : Int32) < zI k := by rw [e240, ltN (by omega) (by omega)]; omega
    have go : ∀ s : Nat, 4 ≤ s → s ≤ 6 → cu b n i = sgOf s → ∃ X' L' N', lrF c0 L L' ∧ lnF a0 N N' ∧ ((∃ (i' cm' m' : Nat) (q' : List Nat) (ty' : Nat → Nat) (f1' : Nat), i ≤ i' ∧ lst X' L' N' b n i' c0 a0 cm' m' q' ty' P (w + q'.length) o ∧ ty' cm' = t + 1 + q'.length ∧ m' + i ≤ m + i' ∧ q'.length ≤ 1 ∧ ops N' w 4 q' ∧ skF w N N' ∧ (cu b n i' ≠ 42 ∧ cu b n i' ≠ 47 ∧ cu b n i' ≠ 37) ∧ n - i' + 1 ≤ f1' ∧ f_X4_term_n52 (kX4 E).1 (kX4 E).2.1 (kX4 E).2.2.1 (kX4 E).2.2.2.1 (kX4 E).2.2.2.2 (zI o) (f_X4_term_n13 (kX4 E).1 (kX4 E).2.1 (kX4 E).2.2.1 (kX4 E).2.2.2.1 (kX4 E).2.2.2.2 (zI o) f) X L (zI k) (zI (cu b n i)) = some (1, X', L') ∧ f_X12_readsSum_n14 (f1 + 1) N (zI bs) = f_X12_readsSum_n14 f1' N' (zI bs)) ∨ (flR X' N' ∧ f_X4_term_n52 (kX4 E).1 (kX4 E).2.1 (kX4 E).2.2.1 (kX4 E).2.2.2.1 (kX4 E).2.2.2.2 (zI o) (f_X4_term_n13 (kX4 E).1 (kX4 E).2.1 (kX4 E).2.2.1 (kX4 E).2.2.2.1 (kX4 E).2.2.2.2 (zI o) f) X L (zI k) (zI (cu b n i)) = some (0, X', L') ∧ f_X12_readsSum_n14 (f1 + 1) N (zI bs) = some (0, N'))) := by
      intro s s4 s6 es
      obtain ⟨hlt, N2, ty1, a1, a2, a3, a4, a5, a6⟩ := sg_step (f1 := f1) (bs := bs) hb hst (s := s) (lo := 4) (Or.inl ⟨s4, s6, rfl⟩) es hq hT (by omega) (by omega)
      obtain ⟨X3, L3, N3, r1, r2, r3⟩ := Hf _ L N2 (i + 1) c0 a0 (cm + q.length) m ty1 P (w + 1) fu f1 bs a2 (by omega) (by omega) (by show n - (i + 1) + 1 ≤ 1000; omega) (by omega)
      unfold f_X4_term_n52
      rw [stp_b hb h hlt, bd_s, a1]
      rcases r3 with ⟨i3, cm3, m3, ty3, f13, u1, u2, u3, u4, u5, u6, u7, u8⟩ | ⟨u1, u2, u3⟩
      · have hi3 := u2.1.1
        obtain ⟨v1, v2, v3, v4, v5, v6⟩ := id u2
        have hm3 : m3 < 240 := by omega
        rw [u7, bd_s]
        dsimp only
        rw [i10, es, wsign_e hm3 v2.1.2.1, bd_s, lt_e, zs1, u8]
        have hcw := em_cw v2 s
        obtain ⟨X4, L4, N4, t1, t2, t3⟩ := ih (k + 1) i3 f X3 (wrL L3 m3 (zI (sgOf s)) 0) N3 cm3 (m3 + 1) [s] ty3 f13 (by omega) (by omega) (by omega) ⟨v1, hcw, v3, v4, by show w + 1 ≤ i3; omega, by omega⟩ (by show ty3 cm3 = t + 1 + 1; omega) (by show 1 ≤ 1; omega) (fun j hj => by
            have ej : j = 0 := by have : j < 1 := hj; omega
            subst ej
            have e1 : w + [s].length - 1 - 0 = w := by show w + 1 - 1 - 0 = w; omega
            rw [e1]
            exact ⟨a4.mv (u5 w (by omega)), s4, s6⟩) (by
            rcases hT with e | ⟨s', s1, s2⟩
            · exact Or.inl e
            · by_cases e : w = 0
              · exact Or.inl e
              · exact Or.inr ⟨s', (s1.mv (a5 (w - 1) (by omega))).mv (u5 (w - 1) (by omega)), s2⟩) u6
        have hlr : lrF c0 L (wrL L3 m3 (zI (sgOf s)) 0) := r1.tr (lrF.w L3 (by have h1 := v2.1.2.2.2.2.1; have h2 : m3 = c0 + (cm3 - a0) := h1; omega) _ _)
        refine ⟨X4, L4, N4, hlr.tr t1, a6.tr (r2.tr t2), ?_⟩
        rcases t3 with ⟨i4, cm4, m4, q4, ty4, f14, p1, p2, p3, p4, p5, p6, p7, p8, p9, p10, p11⟩ | p
        · exact Or.inl ⟨i4, cm4, m4, q4, ty4, f14, by omega, p2, p3, by omega, p5, p6, a5.tr ((u5.le (by omega)).tr p7), p8, p9, p10, p11⟩
        · exact Or.inr p
      · rw [u2, bd_s]
        dsimp only
        rw [i00, u3]
        exact ⟨X3, L3, N3, r1, a6.tr r2, Or.inr ⟨u1, rfl, rfl⟩⟩
    rw [f_X4_term_n13, if_neg c1, peek_b hb h, bd_s]
    have k : ∀ v : Int, 0 ≤ v → v < 256 → cu b n i ≠ v → ¬ zI (cu b n i) = zI v := fun v v0 v1 hne => by rw [zI_eq (by omega) (by omega) (by omega) (by omega)]; exact hne
    by_cases q42 : cu b n i = 42
    · rw [if_pos (show zI (cu b n i) = 42 by rw [q42]; rfl)]; exact go 4 (by omega) (by omega) q42
    · rw [if_neg (show ¬ zI (cu b n i) = 42 from k 42 (by omega) (by omega) q42)]
      by_cases q47 : cu b n i = 47
      · rw [if_pos (show zI (cu b n i) = 47 by rw [q47]; rfl)]; exact go 5 (by omega) (by omega) q47
      · rw [if_neg (show ¬ zI (cu b n i) = 47 from k 47 (by omega) (by omega) q47)]
        by_cases q37 : cu b n i = 37
        · rw [if_pos (show zI (cu b n i) = 37 by rw [q37]; rfl)]; exact go 6 (by omega) (by omega) q37
        · rw [if_neg (show ¬ zI (cu b n i) = 37 from k 37 (by omega) (by omega) q37)]
          exact ⟨X, L, N, lrF.rf c0 L, lnF.rf a0 N, Or.inl ⟨i, cm, m, q, ty, f1 + 1, by omega, hst, hty, by omega, hq1, hq, fun _ _ => rfl, ⟨q42, q47, q37⟩, hf1, rfl, rfl⟩⟩
theorem term_b (hb : txB b n) {E o : Nat} (Hf : facP b n E o) (ho : o ≤ 6) : termP b n (E + 1) o := by
  intro X L N i c0 a0 cm m ty P w f0 f1 bs hst ht hbs hT hf0 hf1
  have hn := hb.1
  have hi := hst.1.1
  have hK : (kX4 (E + 1)).2.2.2.1 X L (zI o) = fo_X4_term (kX4 E).1 (kX4 E).2.1 (kX4 E).2.2.1 (kX4 E).2.2.2.1 (kX4 E).2.2.2.2 X L (zI o) := rfl
  rw [hK]
  unfold fo_X4_term
  obtain ⟨X1, L1, N1, r1, r2, r3⟩ := Hf X L N i c0 a0 cm m ty P w f0 f1 bs hst (by omega) hbs hf0 hf1
  rcases r3 with ⟨i1, cm1, m1, ty1, f11, u1, u2, u3, u4, u5, u6, u7, u8⟩ | ⟨u1, u2, u3⟩
  · have hi1 := u2.1.1
    rw [u7, bd_s, u8]
    dsimp only
    rw [i10]
    obtain ⟨X2, L2, N2, t1, t2, t3⟩ := tl_lp hb Hf ho (c0 := c0) (a0 := a0) (w := w) (bs := bs) (t := ty cm) (P := P) ht hbs (n + 1) 0 i1 fu X1 L1 N1 cm1 m1 [] ty1 f11 (by omega) (by omega) (by show n + 1 ≤ 1000; omega) u2 u3 (by show 0 ≤ 1; omega) (fun j hj => absurd hj (Nat.not_lt_zero j)) (by
      rcases hT with e | ⟨s', s1, s2⟩
      · exact Or.inl e
      · by_cases e : w = 0
        · exact Or.inl e
        · exact Or.inr ⟨s', s1.mv (u5 (w - 1) (by omega)), s2⟩) u6
    refine ⟨X2, L2, N2, r1.tr t1, r2.tr t2, ?_⟩
    rcases t3 with ⟨i4, cm4, m4, q4, ty4, f14, p1, p2, p3, p4, p5, p6, p7, p8, p9, p10, p11⟩ | p
    · exact Or.inl ⟨i4, cm4, m4, q4, ty4, f14, by omega, p2, p3, by omega, p5, p6, u5.tr p7, p8, p9, p10, p11⟩
    · exact Or.inr p
  · rw [u2, bd_s, u3]
    dsimp only
    rw [i00]
    exact ⟨X1, L1, N1, r1, r2, Or.inr ⟨u1, rfl, rfl⟩⟩
theorem sl_lp (hb : txB b n) {E o : Nat} (Ht : termP b n E o) (ho : o ≤ 6) {c0 a0 w bs t : Nat} {P : Nat → Prop} (ht : t ≤ 2 * o + 1) (hbs : bs ≤ w) : ∀ (d k i f : Nat) (X L N : Gr) (cm m : Nat) (q : List Nat) (ty : Nat → Nat) (f1 : Nat), n < i + d → k ≤ i → d ≤ f → lst X L N b n i c0 a0 cm m q ty P (w + q.length) o → ty cm = t + 1 + q.length → q.length ≤ 2 → ops N w 2 q → stopT N w 2 → (cu b n i ≠ 42 ∧ cu b n i ≠ 47 ∧ cu b n i ≠ 37) → n - i + 1 ≤ f1 → ∃ X' L' N', lrF c0 L L' ∧ lnF a0 N N' ∧ ((∃ (i' cm' m' : Nat) (q' : List Nat) (ty' : Nat → Nat) (f1' : Nat), i ≤ i' ∧ lst X' L' N' b n i' c0 a0 cm' m' q' ty' P (w + q'.length) o ∧ ty' cm' = t + 1 + q'.length ∧ m' + i ≤ m + i' ∧ q'.length ≤ 2 ∧ ops N' w 2 q' ∧ skF w N N' ∧ nosg (cu b n i') ∧ n - i' + 1 ≤ f1' ∧ f_X4_sum_n13 (kX4 E).1 (kX4 E).2.1 (kX4 E).2.2.1 (kX4 E).2.2.2.1 (kX4 E).2.2.2.2 (zI o) f X L (zI k) = some (1, X', L') ∧ f_X12_readsSum_n14 f1 N (zI bs) = f_X12_readsSum_n14 f1' N' (zI bs)) ∨ (flR X' N' ∧ f_X4_sum_n13 (kX4 E).1 (kX4 E).2.1 (kX4 E).2.2.1 (kX4 E).2.2.2.1 (kX4 E).2.2.2.2 (zI o) f X L (zI k) = some (0, X', L') ∧ f_X12_readsSum_n14 f1 N (zI bs) = some (0, N'))) := by
  have hn := hb.1
  intro d
  induction d with
  | zero => intro k i f X L N cm m q ty f1 hd _ _ hst; have := hst.1.1; omega
  | succ d ih =>
    intro k i f X L N cm m q ty f1 hd hki hf hst hty hq1 hq hT hcm hf1
    obtain ⟨f, rfl⟩ : ∃ k, f = k + 1 := ⟨f - 1, by omega⟩
    obtain ⟨f1, rfl⟩ : ∃ k, f1 = k + 1 := ⟨f1 - 1, by omega⟩
    have h := hst.1
    have hi := h.1
    have hmi := hst.2.2.2.2.2
    have hc := cu_b hb i
    have e240 : (240 : Int32) = zI ((240 : Nat) : Int) := rfl
    have c1 : ¬ (240 : Int32) < zI k := by rw [e240, ltN (by omega) (by omega)]; omega
    have go : ∀ s : Nat, 2 ≤ s → s ≤ 3 → cu b n i = sgOf s → ∃ X' L' N', lrF c0 L L' ∧ lnF a0 N N' ∧ ((∃ (i' cm' m' : Nat) (q' : List Nat) (ty' : Nat → Nat) (f1' : Nat), i ≤ i' ∧ lst X' L' N' b n i' c0 a0 cm' m' q' ty' P (w + q'.length) o ∧ ty' cm' = t + 1 + q'.length ∧ m' + i ≤ m + i' ∧ q'.length ≤ 2 ∧ ops N' w 2 q' ∧ skF w N N' ∧ nosg (cu b n i') ∧ n - i' + 1 ≤ f1' ∧ f_X4_sum_n45 (kX4 E).1 (kX4 E).2.1 (kX4 E).2.2.1 (kX4 E).2.2.2.1 (kX4 E).2.2.2.2 (zI o) (f_X4_sum_n13 (kX4 E).1 (kX4 E).2.1 (kX4 E).2.2.1 (kX4 E).2.2.2.1 (kX4 E).2.2.2.2 (zI o) f) X L (zI k) (zI (cu b n i)) = some (1, X', L') ∧ f_X12_readsSum_n14 (f1 + 1) N (zI bs) = f_X12_readsSum_n14 f1' N' (zI bs)) ∨ (flR X' N' ∧ f_X4_sum_n45 (kX4 E).1 (kX4 E).2.1 (kX4 E).2.2.1 (kX4 E).2.2.2.1 (kX4 E).2.2.2.2 (zI o) (f_X4_sum_n13 (kX4 E).1 (kX4 E).2.1 (kX4 E).2.2.1 (kX4 E).2.2.2.1 (kX4 E).2.2.2.2 (zI o) f) X L (zI k) (zI (cu b n i)) = some (0, X', L') ∧ f_X12_readsSum_n14 (f1 + 1) N (zI bs) = some (0, N'))) := by
      intro s s2 s3 es
      obtain ⟨hlt, N2, ty1, a1, a2, a3, a4, a5, a6⟩ := sg_step (f1 := f1) (bs := bs) hb hst (s := s) (lo := 2) (Or.inr ⟨s2, s3, rfl⟩) es hq hT (by omega) (by omega)
      obtain ⟨X3, L3, N3, r1, r2, r3⟩ := Ht _ L N2 (i + 1) c0 a0 (cm + q.length) m ty1 P (w + 1) fu f1 bs a2 (by omega) (by omega) (Or.inr ⟨s, a4, by omega⟩) (by show n - (i + 1) + 1 ≤ 1000; omega) (by omega)
      unfold f_X4_sum_n45
      rw [stp_b hb h hlt, bd_s, a1]
      rcases r3 with ⟨i3, cm3, m3, q3, ty3, f13, u1, u2, u3, u4, u5, u6, u7, u8, u9, u10, u11⟩ | ⟨u1, u2, u3⟩
      · have hi3 := u2.1.1
        obtain ⟨v1, v2, v3, v4, v5, v6⟩ := id u2
        have hm3 : m3 < 240 := by omega
        have hlen : (q3 ++ [s]).length = q3.length + 1 := by rw [List.length_append]; rfl
        rw [u10, bd_s]
        dsimp only
        rw [i10, es, wsign_e hm3 v2.1.2.1, bd_s, lt_e, zs1, u11]
        have hcw := em_cw v2 s
        obtain ⟨X4, L4, N4, t1, t2, t3⟩ := ih (k + 1) i3 f X3 (wrL L3 m3 (zI (sgOf s)) 0) N3 cm3 (m3 + 1) (q3 ++ [s]) ty3 f13 (by omega) (by omega) (by omega) ⟨v1, hcw, v3, by rw [hlen, v4]; congr 2; omega, by rw [hlen]; omega, by omega⟩ (by rw [hlen]; omega) (by rw [hlen]; omega) (fun j hj => by
            rw [hlen] at hj ⊢
            by_cases ej : j = q3.length
            · have e1 : w + (q3.length + 1) - 1 - j = w := by omega
              have e2 : (q3 ++ [s]).getD j 0 = s := by rw [ej, List.getD_eq_getElem?_getD, List.getElem?_append_right (by omega), Nat.sub_self]; rfl
              rw [e1, e2]
              exact ⟨a4.mv (u7 w (by omega)), by omega, by omega⟩
            · have e1 : w + (q3.length + 1) - 1 - j = w + 1 + q3.length - 1 - j := by omega
              have e2 : (q3 ++ [s]).getD j 0 = q3.getD j 0 := by rw [List.getD_eq_getElem?_getD, List.getElem?_append_left (by omega), ← List.getD_eq_getElem?_getD]
              have := u6 j (by omega)
              rw [e1, e2]
              exact ⟨this.1, by omega, this.2.2⟩) (by
            rcases hT with e | ⟨s', s1, s2⟩
            · exact Or.inl e
            · by_cases e : w = 0
              · exact Or.inl e
              · exact Or.inr ⟨s', (s1.mv (a5 (w - 1) (by omega))).mv (u7 (w - 1) (by omega)), s2⟩) u8 u9
        have hlr : lrF c0 L (wrL L3 m3 (zI (sgOf s)) 0) := r1.tr (lrF.w L3 (by have h1 := v2.1.2.2.2.2.1; omega) _ _)
        refine ⟨X4, L4, N4, hlr.tr t1, a6.tr (r2.tr t2), ?_⟩
        rcases t3 with ⟨i4, cm4, m4, q4, ty4, f14, p1, p2, p3, p4, p5, p6, p7, p8, p9, p10, p11⟩ | p
        · exact Or.inl ⟨i4, cm4, m4, q4, ty4, f14, by omega, p2, p3, by omega, p5, p6, a5.tr ((u7.le (by omega)).tr p7), p8, p9, p10, p11⟩
        · exact Or.inr p
      · rw [u2, bd_s]
        dsimp only
        rw [i00, u3]
        exact ⟨X3, L3, N3, r1, a6.tr r2, Or.inr ⟨u1, rfl, rfl⟩⟩
    rw [f_X4_sum_n13, if_neg c1, peek_b hb h, bd_s]
    have k : ∀ v : Int, 0 ≤ v → v < 256 → cu b n i ≠ v → ¬ zI (cu b n i) = zI v := fun v v0 v1 hne => by rw [zI_eq (by omega) (by omega) (by omega) (by omega)]; exact hne
    by_cases q43 : cu b n i = 43
    · rw [if_pos (show zI (cu b n i) = 43 by rw [q43]; rfl)]; exact go 2 (by omega) (by omega) q43
    · rw [if_neg (show ¬ zI (cu b n i) = 43 from k 43 (by omega) (by omega) q43)]
      by_cases q45 : cu b n i = 45
      · rw [if_pos (show zI (cu b n i) = 45 by rw [q45]; rfl)]; exact go 3 (by omega) (by omega) q45
      · rw [if_neg (show ¬ zI (cu b n i) = 45 from k 45 (by omega) (by omega) q45)]
        exact ⟨X, L, N, lrF.rf c0 L, lnF.rf a0 N, Or.inl ⟨i, cm, m, q, ty, f1 + 1, by omega, hst, hty, by omega, hq1, hq, fun _ _ => rfl, ⟨q43, q45, hcm.1, hcm.2.1, hcm.2.2⟩, hf1, rfl, rfl⟩⟩
theorem sum_b' (hb : txB b n) {E o : Nat} (Ht : termP b n E o) (ho : o ≤ 6) : sumP b n (E + 1) o := by
  intro X L N i c0 a0 cm m ty P w f0 f1 bs hst ht hbs hT hf0 hf1
  have hn := hb.1
  have hi := hst.1.1
  have hK : (kX4 (E + 1)).2.2.1 X L (zI o) = fo_X4_sum (kX4 E).1 (kX4 E).2.1 (kX4 E).2.2.1 (kX4 E).2.2.2.1 (kX4 E).2.2.2.2 X L (zI o) := rfl
  rw [hK]
  unfold fo_X4_sum
  have hT4 : stopT N w 4 := by
    rcases hT with e | ⟨s', s1, s2⟩
    · exact Or.inl e
    · exact Or.inr ⟨s', s1, by omega⟩
  obtain ⟨X1, L1, N1, r1, r2, r3⟩ := Ht X L N i c0 a0 cm m ty P w f0 f1 bs hst (by omega) hbs hT4 hf0 hf1
  rcases r3 with ⟨i1, cm1, m1, q1, ty1, f11, u1, u2, u3, u4, u5, u6, u7, u8, u9, u10, u11⟩ | ⟨u1, u2, u3⟩
  · have hi1 := u2.1.1
    rw [u10, bd_s, u11]
    dsimp only
    rw [i10]
    obtain ⟨X2, L2, N2, t1, t2, t3⟩ := sl_lp hb Ht ho (c0 := c0) (a0 := a0) (w := w) (bs := bs) (t := ty cm) (P := P) ht hbs (n + 1) 0 i1 fu X1 L1 N1 cm1 m1 q1 ty1 f11 (by omega) (by omega) (by show n + 1 ≤ 1000; omega) u2 u3 (by omega) (fun j hj => by
      have := u6 j hj
      exact ⟨this.1, by omega, this.2.2⟩) (by
      rcases hT with e | ⟨s', s1, s2⟩
      · exact Or.inl e
      · by_cases e : w = 0
        · exact Or.inl e
        · exact Or.inr ⟨s', s1.mv (u7 (w - 1) (by omega)), s2⟩) u8 u9
    refine ⟨X2, L2, N2, r1.tr t1, r2.tr t2, ?_⟩
    rcases t3 with ⟨i4, cm4, m4, q4, ty4, f14, p1, p2, p3, p4, p5, p6, p7, p8, p9, p10, p11⟩ | p
    · exact Or.inl ⟨i4, cm4, m4, q4, ty4, f14, by omega, p2, p3, by omega, p5, p6, u7.tr p7, p8, p9, p10, p11⟩
    · exact Or.inr p
  · rw [u2, bd_s, u3]
    dsimp only
    rw [i00]
    exact ⟨X1, L1, N1, r1, r2, Or.inr ⟨u1, rfl, rfl⟩⟩
theorem sum_all (hb : txB b n) : ∀ (r o D : Nat), o + r = 6 → 3 * (r + 1) ≤ D → sumP b n D o := by
  intro r
  induction r with
  | zero =>
    intro o D ho hD
    obtain ⟨E, rfl⟩ : ∃ E, D = E + 1 + 1 + 1 := ⟨D - 3, by omega⟩
    exact sum_b' hb (term_b hb (fact_b hb (by omega) (fun h => by omega)) (by omega)) (by omega)
  | succ r ih =>
    intro o D ho hD
    obtain ⟨E, rfl⟩ : ∃ E, D = E + 1 + 1 + 1 := ⟨D - 3, by omega⟩
    exact sum_b' hb (term_b hb (fact_b hb (by omega) (fun _ => ih (o + 1) E (by omega) (by omega))) (by omega)) (by omega)
/-- a sum whole: the reference has closed it -/
theorem rsum_b (hb : txB b n) {D o : Nat} (ho : o ≤ 6) (hD : 21 ≤ D) {X L N : Gr} {i c0 a0 cm m w : Nat} {ty : Nat → Nat} {P : Nat → Prop} (hst : lst X L N b n i c0 a0 cm m [] ty P w o) (ht : ty cm ≤ 1) (hT : stopT N w 2) : ∃ X' L' N', lrF c0 L L' ∧ lnF a0 N N' ∧ ((∃ (i' cm' m' : Nat) (ty' : Nat → Nat), i < i' ∧ lst X' L' N' b n i' c0 a0 cm' m' [] ty' P w o ∧ ty' cm' = ty cm + 1 ∧ m' + i ≤ m + i' ∧ skF w N N' ∧ nosg (cu b n i') ∧ (kX4 D).2.2.1 X L (zI o) = some (1, X', L') ∧ f_X12_readsSum N = some (1, N')) ∨ (flR X' N' ∧ (kX4 D).2.2.1 X L (zI o) = some (0, X', L') ∧ f_X12_readsSum N = some (0, N'))) := by
  have hn := hb.1
  have hi := hst.1.1
  have hw := hst.2.2.2.2.1
  have hR : f_X12_readsSum N = smA fu fu (zI w) N := by
    unfold f_X12_readsSum
    rw [lt_e, hst.2.2.2.1]; rfl
  obtain ⟨X1, L1, N1, r1, r2, r3⟩ := sum_all hb (6 - o) o D (by omega) (by omega) X L N i c0 a0 cm m ty P w fu fu w hst (by omega) (by omega) hT (by show n - i + 1 ≤ 1000; omega) (by show n - i + 1 ≤ 1000; omega)
  rcases r3 with ⟨i1, cm1, m1, q1, ty1, f11, u1, ⟨v1, v2, v3, v4, v5, v6⟩, u3, u4, u5, u6, u7, u8, u9, u10, u11⟩ | ⟨u1, u2, u3⟩
  · have hi1 := v1.1
    have hc := cu_b hb i1
    obtain ⟨f11, rfl⟩ : ∃ k, f11 = k + 1 := ⟨f11 - 1, by omega⟩
    obtain ⟨⟨p1, p2, p3, p4, p5, p6⟩, -⟩ := id v2
    have hT1 : stopT N1 w 2 := by
      rcases hT with e | ⟨s', s1, s2⟩
      · exact Or.inl e
      · by_cases e : w = 0
        · exact Or.inl e
        · exact Or.inr ⟨s', s1.mv (u7 (w - 1) (by omega)), s2⟩
    obtain ⟨N3, ty3, b1, b2', b3, b4, b5, b6, b7⟩ := cls_lp (x1 := 1) (lo := 2) (Or.inr ⟨rfl, rfl⟩) (w := w) q1 N1 cm1 fu ty1 (by show q1.length < 1000; omega) (by omega) (by omega) v2 v4 u6 hT1 (by omega) (by omega)
    have b1 : f_X12_closesSums N1 1 = some N3 := b1
    have hos : f_X12_hasOpenSum N1 (zI w) = some 0 := hos_f (W := w + q1.length) (by omega) v4 (zI w) q1.length w fu (by omega) (by show q1.length < 1000; omega) (fun k k1 k2 => by
      obtain ⟨j, ej⟩ : ∃ j, k = w + q1.length - 1 - j ∧ j < q1.length := ⟨w + q1.length - 1 - k, by omega, by omega⟩
      obtain ⟨s1, s2, s3⟩ := u6 j ej.2
      rw [ej.1, s1.dv]
      have e : (14 : Int32) = zI ((14 : Nat) : Int) := rfl
      rw [e, eqN (by omega) (by omega)]; omega)
    have h138 : f_X12_readsSum_n138 N1 (zI w) = some (1, N3) := by
      unfold f_X12_readsSum_n138
      rw [hos, bd_s, i00, b1, bd_s]
    have hB : f_X12_readsSum_n14 (f11 + 1) N1 (zI w) = some (1, N3) := by
      rw [f_X12_readsSum_n14, here_b hb v1, bd_s, ss_n (by omega) (by omega) u8, bd_s, if_pos rfl, bd_s, hos, bd_s, i00, h138]
      by_cases e : zI (cu b n i1) = 93
      · rw [if_pos e]
      · rw [if_neg e]
    refine ⟨X1, L1, N3, r1, r2.tr b7, Or.inl ⟨i1, cm1 + q1.length, m1, ty3, u1, ⟨?_, b2', ?_, b4, by omega, v6⟩, by omega, u4, fun j hj => ?_, u8, u10, hR.trans (u11.trans hB)⟩⟩
    · exact v1.nm (b5 9 (by omega) (by omega)) (b5 10 (by omega) (by omega)) (b6 7 (by omega))
    · rw [b5 13 (by omega) (by omega)]; exact v3
    · rw [b6 19 (by omega)]; exact u7 j hj
  · exact ⟨X1, L1, N1, r1, r2, Or.inr ⟨u1, u2, hR.trans u3⟩⟩
end
