/-! crawls -/
theorem dv8 {a : Nat} (h : a < 100000) : zI a / 8 = zI ((a / 8 : Nat) : Int) := by
  have e : (8 : Int32) = nI 8 := rfl
  rw [← zI_nI, e, pk_div (by omega) (by omega) (by omega), zI_nI]
theorem md8 {a : Nat} (h : a < 100000) : zI a - zI a / 8 * 8 = zI ((a % 8 : Nat) : Int) := by
  have e : (8 : Int32) = zI 8 := rfl
  rw [dv8 h, e, zI_mul, zI_sub]; congr 1; omega
theorem qn_cg {P Q : Nat → Bool} : ∀ N, (∀ j, j < N → P j = Q j) → qn P N = qn Q N := by
  intro N
  induction N with
  | zero => intro _; rfl
  | succ N ih =>
    intro h
    show qn P N + (if P N = true then 1 else 0) = qn Q N + (if Q N = true then 1 else 0)
    rw [ih (fun j hj => h j (by omega)), h N (by omega)]
def cwR (n : Nat) (W S : Gr) (L : Nat) : Prop := L ≤ 64 ∧ W.1 2 = zI ((L + 1 : Nat) : Int) ∧ S.1 51 = zI L ∧ W.2 1 0 = 0 ∧ (∀ j, j < L → ∃ a : Nat, 1 ≤ a ∧ a ≤ 8 * n ∧ W.2 1 (j + 1) = zI a ∧ S.2 50 j = zI a ∧ ¬ S.2 49 a = -1) ∧ (∀ j, j < 65 → (W.2 0 j = 1000 ∧ S.2 49 j = -1) ∨ ∃ w : Nat, w ≤ L ∧ W.2 0 j = zI w ∧ S.2 49 j = zI w) ∧ S.2 49 0 = 0 ∧ qn (fun j => decide (¬ S.2 49 j = -1)) 65 = L + 1
def stp (n i w : Nat) (W S : Gr) : Prop := ∃ L, cwR n W S L ∧ S.2 49 i = zI w ∧ w ≤ L
def cwF (S S' : Gr) : Prop := (∀ j, j ≠ 51 → S'.1 j = S.1 j) ∧ ∀ j, j ≠ 49 → j ≠ 50 → S'.2 j = S.2 j
theorem cwF.rf (S : Gr) : cwF S S := ⟨fun _ _ => rfl, fun _ _ _ => rfl⟩
theorem cwF.tr {S S' S2 : Gr} (h : cwF S S') (k : cwF S' S2) : cwF S S2 := ⟨fun j hj => (k.1 j hj).trans (h.1 j hj), fun j h1 h2 => (k.2 j h1 h2).trans (h.2 j h1 h2)⟩
theorem z1000 {w : Nat} (h : w < 1000) : ¬ zI w = (1000 : Int32) := by
  have e : (1000 : Int32) = zI ((1000 : Nat) : Int) := rfl
  rw [e, eqN (by omega) (by omega)]; omega
theorem rchk_b {n i w a : Nat} {W S : Gr} (hn : n ≤ 8) (hi : i < 65) (h : stp n i w W S) (ha : 1 ≤ a) (ha2 : a ≤ 8 * n) : ∃ W' S', f_X10_reach W (zI a) (zI ((w + 1 : Nat) : Int)) = some W' ∧ f_X12_crawlsTo S (zI i) (zI a) = some S' ∧ stp n i w W' S' ∧ cwF S S' := by
  obtain ⟨L, ⟨h1, h2, h3, h4, h5, h6, h7, h8⟩, k1, k2⟩ := id h
  have hin : (0 : Int32) ≤ zI a ∧ zI a ≤ 64 := by
    have e0 : (0 : Int32) = zI ((0 : Nat) : Int) := rfl
    have e64 : (64 : Int32) = zI ((64 : Nat) : Int) := rfl
    rw [e0, e64, leN (by omega) (by omega), leN (by omega) (by omega)]; omega
  unfold f_X10_reach f_X12_crawlsTo
  rw [within_e, decide_eq_true hin, bd_s, b2_t, i10, rdN (by omega) (by omega), rdN (by omega) (by omega)]
  rcases h6 a (by omega) with ⟨u1, u2⟩ | ⟨v, v1, v2, v3⟩
  · have hq := qn_lt (P := fun j => decide (¬ S.2 49 j = -1)) (v := a) (decide_eq_false (fun h => h u2)) 65 (by omega)
    have hL : L < 64 := by omega
    have hia : i ≠ a := fun e => by rw [e, u2] at k1; exact zne1 w (by omega) k1.symm
    have hc : ¬ (65 : Int32) ≤ W.1 2 := by rw [h2]; exact nle65 (by omega)
    rw [if_pos u1, if_neg hc, if_pos u2, ckN (by omega) (by omega), clN (by omega), lt_e, sA_1, h2, ckN (by omega) (by omega), clN (by omega), lt_e, sA_1, sA_1, h2, lt_e, zs1]
    rw [rdN (by omega) (by omega), k1, ckN (by omega) (by omega), lt_e, sA_1, h3, ckN (by omega) (by omega), clN (by omega), lt_e, sA_1, sA_1, h3, lt_e, zs1, zs1]
    refine ⟨_, _, rfl, rfl, ⟨L + 1, ⟨by omega, ?_, ?_, ?_, ?_, ?_, ?_, ?_⟩, ?_, by omega⟩, ?_, ?_⟩
    · rw [sI_1, if_pos rfl]
    · rw [sI_1, if_pos rfl]
    · rw [sI_2, sA_s, if_neg (by omega), sA_o _ _ _ _ _ (by omega)]; exact h4
    · intro j hj
      rw [sI_2, sI_2, sA_s, sA_o _ _ _ _ _ (show (1 : Nat) ≠ 0 by omega), sA_s, sA_o _ _ _ _ _ (show (50 : Nat) ≠ 49 by omega), sA_o _ _ _ _ _ (show (49 : Nat) ≠ 50 by omega)]
      by_cases e : j = L
      · rw [if_pos (by omega), if_pos e]
        exact ⟨a, ha, ha2, rfl, rfl, by rw [sA_s, if_pos rfl]; exact zne1 (w + 1) (by omega)⟩
      · rw [if_neg (by omega), if_neg e]
        obtain ⟨b, b1, b2', b3, b4, b5⟩ := h5 j (by omega)
        refine ⟨b, b1, b2', b3, b4, ?_⟩
        rw [sA_s]
        by_cases e2 : b = a
        · rw [if_pos e2]; exact zne1 (w + 1) (by omega)
        · rw [if_neg e2]; exact b5
    · intro j hj
      rw [sI_2, sI_2, sA_o _ _ _ _ _ (show (0 : Nat) ≠ 1 by omega), sA_s, sA_o _ _ _ _ _ (show (49 : Nat) ≠ 50 by omega), sA_s]
      by_cases e : j = a
      · rw [if_pos e, if_pos e]; exact Or.inr ⟨w + 1, by omega, rfl, rfl⟩
      · rw [if_neg e, if_neg e]
        rcases h6 j hj with c | ⟨v, v1, v2, v3⟩
        · exact Or.inl c
        · exact Or.inr ⟨v, by omega, v2, v3⟩
    · rw [sI_2, sA_o _ _ _ _ _ (show (49 : Nat) ≠ 50 by omega), sA_s, if_neg (by omega)]; exact h7
    · have hu := (qn_up (P := fun j => decide (¬ S.2 49 j = -1)) (Q := fun j => decide (¬ (sI (sA (sA S 49 a (zI ((w + 1 : Nat) : Int))) 50 L (zI a)) 51 (zI ((L + 1 : Nat) : Int))).2 49 j = -1)) (v := a) (decide_eq_false (fun h => h u2)) (decide_eq_true (by rw [sI_2, sA_o _ _ _ _ _ (show (49 : Nat) ≠ 50 by omega), sA_s, if_pos rfl]; exact zne1 (w + 1) (by omega))) (fun j hj => by
        show decide (¬ _ = (-1 : Int32)) = decide (¬ _ = (-1 : Int32))
        rw [sI_2, sA_o _ _ _ _ _ (show (49 : Nat) ≠ 50 by omega), sA_s, if_neg hj]) 65).1 (by omega)
      rw [hu, h8]
    · rw [sI_2, sA_o _ _ _ _ _ (show (49 : Nat) ≠ 50 by omega), sA_s, if_neg hia]; exact k1
    · intro j hj
      rw [sI_1, if_neg hj]; rfl
    · intro j q1 q2
      rw [sI_2, sA_o _ _ _ _ _ q2, sA_o _ _ _ _ _ q1]
  · have c1 : ¬ W.2 0 a = 1000 := by rw [v2]; exact z1000 (by omega)
    have c2 : ¬ S.2 49 a = -1 := by rw [v3]; exact zne1 v (by omega)
    rw [if_neg c1, if_neg c2]
    exact ⟨_, _, rfl, rfl, h, cwF.rf S⟩
def tn (T : Gr) (i b : Nat) : Bool := decide (((zI (bz T i) >>> (zI b &&& 31)) &&& 1) = 1)
theorem torn_b {T M : Gr} {k : Nat} (h : tpR T M k) {i : Nat} (hi : i < k) (b : Nat) : f_X10_isTorn T (zI i) (zI b) = some (b2 (tn T i b)) := by
  unfold f_X10_isTorn tn
  rw [at_b h hi, bd_s]
  by_cases h3 : ((zI (bz T i) >>> (zI b &&& 31)) &&& 1) = 1
  · rw [if_pos h3, decide_eq_true h3]; rfl
  · rw [if_neg h3, decide_eq_false h3]; rfl
theorem hasn_e (T : Gr) (i b : Nat) : f_X12_has (zI (bz T i)) (zI b) = some (b2 (tn T i b)) := has_e _ _
theorem ix2p' (r : Nat) : (2 * zI r) + 1 = zI ((2 * r + 1 : Nat) : Int) := by rw [ix2, zs1]
theorem ix2q (r : Nat) : (2 * zI r) + 2 = zI ((2 * r + 2 : Nat) : Int) := by
  have e : (2 : Int32) = zI ((2 : Nat) : Int) := rfl
  rw [ix2, e, zaN]
theorem k135 {T M S W : Gr} {k n r s i w bk : Nat} (hk : tpR T M k) (h7 : S.2 7 = M.2 7) (hn : n ≤ 8) (hnk : 2 * n ≤ k) (hr : r < n) (hs : s < 8) (hi : i = 1 + 8 * r + s) (hb : bk < 8) (h : stp n i w W S) : ∃ W' S', f_X10_leaveKnot_n135 T (zI n) (zI i) W (zI r) (zI s) (zI bk) (zI ((w + 1 : Nat) : Int)) = some W' ∧ f_X12_crawlsFrom_n126 (zI i) (zI n) S (zI r) (zI bk) = some S' ∧ stp n i w W' S' ∧ cwF S S' := by
  have hk260 := hk.1
  have e1 : (1 : Int32) = zI 1 := rfl
  have e8 : (8 : Int32) = zI 8 := rfl
  have t1 : (zI i - zI s) + zI bk = zI ((1 + 8 * r + bk : Nat) : Int) := by rw [zI_sub, zI_add]; congr 1; omega
  have t2 : (1 + (8 * zI r)) + zI bk = zI ((1 + 8 * r + bk : Nat) : Int) := by rw [e1, e8, zI_mul, zI_add, zI_add]; congr 1
  unfold f_X10_leaveKnot_n135 f_X12_crawlsFrom_n126
  rw [ix2p', torn_b hk (by omega), bd_s, oct_b hk h7 (by omega), bd_s, hasn_e, bd_s, t1, t2]
  cases ht : tn T (2 * r + 1) bk with
  | true => rw [b2_t, i10, i10]; exact ⟨_, _, rfl, rfl, h, cwF.rf S⟩
  | false =>
    obtain ⟨W', S', q1, q2, q3, q4⟩ := rchk_b (a := 1 + 8 * r + bk) hn (by omega) h (by omega) (by omega)
    rw [b2_f, i00, i00, q1, bd_s, q2, bd_s]
    exact ⟨_, _, rfl, rfl, q3, q4⟩
theorem k107 {T M S W : Gr} {k n r s i w on bk : Nat} (hk : tpR T M k) (h7 : S.2 7 = M.2 7) (hn : n ≤ 8) (hnk : 2 * n ≤ k) (hr : r < n) (hs : s < 8) (hi : i = 1 + 8 * r + s) (ho : on = (s + 1) % 8) (hb : bk < 8) (h : stp n i w W S) : ∃ W' S', f_X10_leaveKnot_n107 T (zI n) (zI i) W (zI r) (zI s) (zI on) (zI bk) (zI ((w + 1 : Nat) : Int)) = some W' ∧ f_X12_crawlsFrom_n90 (zI i) (zI n) S (zI r) (zI s) (zI bk) = some S' ∧ stp n i w W' S' ∧ cwF S S' := by
  have hk260 := hk.1
  have e1 : (1 : Int32) = zI 1 := rfl
  have e8 : (8 : Int32) = zI 8 := rfl
  have t1 : (zI i - zI s) + zI on = zI ((1 + 8 * r + on : Nat) : Int) := by rw [zI_sub, zI_add]; congr 1; omega
  have t2 : (1 + (8 * zI r)) + zI on = zI ((1 + 8 * r + on : Nat) : Int) := by rw [e1, e8, zI_mul, zI_add, zI_add]; congr 1
  have t3 : (zI s + 1) - (zI s + 1) / 8 * 8 = zI on := by rw [zs1, md8 (by omega), ho]
  unfold f_X10_leaveKnot_n107 f_X12_crawlsFrom_n90
  rw [ix2p', torn_b hk (by omega), bd_s, oct_b hk h7 (by omega), bd_s, hasn_e, bd_s, t1, t3, lt_e, t2]
  cases ht : tn T (2 * r + 1) s with
  | true => rw [b2_t, i10, i10]; exact k135 hk h7 hn hnk hr hs hi hb h
  | false =>
    obtain ⟨W', S', q1, q2, q3, q4⟩ := rchk_b (a := 1 + 8 * r + on) hn (by omega) h (by omega) (by omega)
    rw [b2_f, i00, i00, q1, bd_s, q2, bd_s]
    obtain ⟨W2, S2, p1, p2, p3, p4⟩ := k135 hk ((q4.2 7 (by omega) (by omega)).trans h7) hn hnk hr hs hi hb q3
    exact ⟨W2, S2, p1, p2, p3, q4.tr p4⟩
theorem k74 {T M S W : Gr} {k n r s i w on bk : Nat} (hk : tpR T M k) (h7 : S.2 7 = M.2 7) (hn : n ≤ 8) (hnk : 2 * n ≤ k) (hr : r < n) (hs : s < 8) (hi : i = 1 + 8 * r + s) (ho : on = (s + 1) % 8) (hb : bk < 8) (h : stp n i w W S) : ∃ W' S', f_X10_leaveKnot_n74 T (zI n) (zI i) W (zI r) (zI s) (zI on) (zI bk) (zI ((w + 1 : Nat) : Int)) = some W' ∧ f_X12_crawlsFrom_n57 (zI i) (zI n) S (zI r) (zI s) (zI bk) = some S' ∧ stp n i w W' S' ∧ cwF S S' := by
  have hk260 := hk.1
  have e1 : (1 : Int32) = zI 1 := rfl
  have e8 : (8 : Int32) = zI 8 := rfl
  have t1 : zI n - 1 = zI ((n - 1 : Nat) : Int) := by rw [e1, zI_sub]; congr 1; omega
  have t2 : zI i + 8 = zI ((i + 8 : Nat) : Int) := by rw [e8, zI_add]; congr 1
  unfold f_X10_leaveKnot_n74 f_X12_crawlsFrom_n57
  rw [t1, zs1, t2]
  by_cases hl : n ≤ r + 1
  · rw [if_pos ((leN (by omega) (by omega)).mpr (by omega)), if_pos ((leN (by omega) (by omega)).mpr (by omega))]
    exact k107 hk h7 hn hnk hr hs hi ho hb h
  · rw [if_neg (fun h => absurd ((leN (by omega) (by omega)).mp h) (by omega)), if_neg (fun h => absurd ((leN (by omega) (by omega)).mp h) (by omega)), ix2q, torn_b hk (by omega), bd_s, oct_b hk h7 (by omega), bd_s, hasn_e, bd_s]
    cases ht : tn T (2 * r + 2) s with
    | true => rw [b2_t, i10, i10]; exact k107 hk h7 hn hnk hr hs hi ho hb h
    | false =>
      obtain ⟨W', S', q1, q2, q3, q4⟩ := rchk_b (a := i + 8) hn (by omega) h (by omega) (by omega)
      rw [b2_f, i00, i00, q1, bd_s, q2, bd_s]
      obtain ⟨W2, S2, p1, p2, p3, p4⟩ := k107 hk ((q4.2 7 (by omega) (by omega)).trans h7) hn hnk hr hs hi ho hb q3
      exact ⟨W2, S2, p1, p2, p3, q4.tr p4⟩
theorem knot_b {T M S W : Gr} {k n i w : Nat} (hk : tpR T M k) (h7 : S.2 7 = M.2 7) (hn : n ≤ 8) (hnk : 2 * n ≤ k) (hi1 : 1 ≤ i) (hi2 : i ≤ 8 * n) (h : stp n i w W S) (hw : W.2 0 i = zI w) : ∃ W' S', f_X10_leaveKnot W T (zI n) (zI i) = some W' ∧ f_X12_crawlsFrom S (zI i) (zI n) = some S' ∧ stp n i w W' S' ∧ cwF S S' := by
  have hk260 := hk.1
  have e0 : (0 : Int32) = zI ((0 : Nat) : Int) := rfl
  have e1 : (1 : Int32) = zI 1 := rfl
  have e8 : (8 : Int32) = zI 8 := rfl
  have e7 : (7 : Int32) = zI 7 := rfl
  have hin : (0 : Int32) ≤ zI i ∧ zI i ≤ 64 := by
    have e64 : (64 : Int32) = zI ((64 : Nat) : Int) := rfl
    rw [e0, e64, leN (by omega) (by omega), leN (by omega) (by omega)]; omega
  obtain ⟨r, er⟩ : ∃ r, r = (i - 1) / 8 := ⟨_, rfl⟩
  obtain ⟨s, es⟩ : ∃ s, s = (i - 1) % 8 := ⟨_, rfl⟩
  have hi : i = 1 + 8 * r + s := by omega
  have hr : r < n := by omega
  have hs : s < 8 := by omega
  have t0 : zI i - 1 = zI ((i - 1 : Nat) : Int) := by rw [e1, zI_sub]; congr 1; omega
  have t1 : (zI s + 1) - (zI s + 1) / 8 * 8 = zI (((s + 1) % 8 : Nat) : Int) := by rw [zs1, md8 (by omega)]
  have t2 : (zI s + 8 - 1) - (zI s + 8 - 1) / 8 * 8 = zI (((s + 7) % 8 : Nat) : Int) := by
    have e : zI s + 8 - 1 = zI ((s + 7 : Nat) : Int) := by rw [e8, e1, zI_add, zI_sub]; congr 1; omega
    rw [e, md8 (by omega)]
  have t3 : (zI s + 7) - (zI s + 7) / 8 * 8 = zI (((s + 7) % 8 : Nat) : Int) := by
    have e : zI s + 7 = zI ((s + 7 : Nat) : Int) := by rw [e7, zI_add]; congr 1
    rw [e, md8 (by omega)]
  have t4 : f_X10_wayTo W (zI i) = some (zI w) := by
    unfold f_X10_wayTo
    rw [within_e, decide_eq_true hin, bd_s, b2_t, i10, rdN (by omega) (by omega), hw]
  have t5 : zI i - 8 = zI ((i - 8 : Nat) : Int) ∨ r = 0 := by
    by_cases h0 : r = 0
    · exact Or.inr h0
    · left; rw [e8, zI_sub]; congr 1; omega
  unfold f_X10_leaveKnot f_X12_crawlsFrom
  rw [t0, md8 (by omega), dv8 (by omega), ← er, ← es]
  simp only [lt_e]
  rw [t1, t2, t3, t4, bd_s, zs1, ix2, oct_b hk h7 (by omega), bd_s, hasn_e, bd_s]
  by_cases h0 : r = 0
  · have c1 : zI r ≤ 0 := by rw [h0]; decide
    have c2 : zI r = 0 := by rw [h0]; rfl
    rw [if_pos c1, if_pos c2]
    obtain ⟨L, ⟨h1, h2, h3, h4, h5, h6, h7', h8⟩, k1, k2⟩ := id h
    have hto : f_X12_crawlsTo S (zI i) 0 = some S := by
      unfold f_X12_crawlsTo
      have rd0 : ∀ {β : Type} {N : Nat} {g : Nat → Int32} {q : Int32 → Option β}, 0 < N → rd' g N 0 q = q (g 0) := fun hN => rdN (m := 0) hN (by omega)
      rw [rd0 (by omega), h7', if_neg (by decide)]
    rw [hto, bd_s]
    cases ht : tn T (2 * r) s with
    | true => rw [b2_t, i10]; exact k74 hk h7 hn hnk hr hs hi rfl (by omega) h
    | false => rw [b2_f, i00]; exact k74 hk h7 hn hnk hr hs hi rfl (by omega) h
  · have c1 : ¬ zI r ≤ 0 := by rw [e0, leN (by omega) (by omega)]; omega
    have c2 : ¬ zI r = 0 := by rw [e0, eqN (by omega) (by omega)]; omega
    rw [if_neg c1, if_neg c2, torn_b hk (by omega), bd_s, t5.resolve_right h0]
    cases ht : tn T (2 * r) s with
    | true => rw [b2_t, i10, i10]; exact k74 hk h7 hn hnk hr hs hi rfl (by omega) h
    | false =>
      obtain ⟨W', S', q1, q2, q3, q4⟩ := rchk_b (a := i - 8) hn (by omega) h (by omega) (by omega)
      rw [b2_f, i00, i00, q1, bd_s, q2, bd_s]
      obtain ⟨W2, S2, p1, p2, p3, p4⟩ := k74 (bk := (s + 7) % 8) hk ((q4.2 7 (by omega) (by omega)).trans h7) hn hnk hr hs hi rfl (by omega) q3
      exact ⟨W2, S2, p1, p2, p3, q4.tr p4⟩
theorem mid_lp {T M : Gr} {k n : Nat} (hk : tpR T M k) (hn1 : 1 ≤ n) (hn : n ≤ 8) (hnk : 2 * n ≤ k) (x2 x3 : Int32) : ∀ (d m f f' : Nat) (W S : Gr), m + d = 8 → d < f → d < f' → S.2 7 = M.2 7 → stp n 0 0 W S → ∃ W' S', f_X10_leaveMiddle_n2 T f W (zI m) = some W' ∧ f_X12_crawls_n87 (zI n) x2 x3 f' S (zI m) = f_X12_crawls_n125 (zI n) x2 x3 fu S' 0 ∧ stp n 0 0 W' S' ∧ cwF S S' := by
  have hk260 := hk.1
  intro d
  induction d with
  | zero =>
    intro m f f' W S hm hf hf' h7 h
    obtain ⟨f, rfl⟩ : ∃ k, f = k + 1 := ⟨f - 1, by omega⟩
    obtain ⟨f', rfl⟩ : ∃ k, f' = k + 1 := ⟨f' - 1, by omega⟩
    rw [f_X10_leaveMiddle_n2, if_pos (le8 (by omega) (by omega)), f_X12_crawls_n87, if_pos (le8 (by omega) (by omega))]
    exact ⟨_, _, rfl, rfl, h, cwF.rf S⟩
  | succ d ih =>
    intro m f f' W S hm hf hf' h7 h
    obtain ⟨f, rfl⟩ : ∃ k, f = k + 1 := ⟨f - 1, by omega⟩
    obtain ⟨f', rfl⟩ : ∃ k, f' = k + 1 := ⟨f' - 1, by omega⟩
    have e1 : (1 : Int32) = zI ((1 : Nat) : Int) := rfl
    have t1 : f_X10_isTorn T 0 (zI m) = some (b2 (tn T 0 m)) := torn_b hk (i := 0) (by omega) m
    have t2 : f_X12_octet S 0 = some (zI (bz T 0)) := oct_b hk h7 (j := 0) (by omega)
    have t3 : (1 : Int32) + zI m = zI ((1 + m : Nat) : Int) := by rw [e1, zaN]
    rw [f_X10_leaveMiddle_n2, if_neg (nle8 (by omega)), f_X12_crawls_n87, if_neg (nle8 (by omega)), t1, bd_s, t2, bd_s, hasn_e, bd_s, t3]
    cases ht : tn T 0 m with
    | true =>
      rw [b2_t, i10, i10, lt_e, lt_e, zs1]
      exact ih (m + 1) f f' W S (by omega) (by omega) (by omega) h7 h
    | false =>
      obtain ⟨W', S', q1, q2, q3, q4⟩ := rchk_b (a := 1 + m) hn (by omega) h (by omega) (by omega)
      have q1 : f_X10_reach W (zI ((1 + m : Nat) : Int)) 1 = some W' := q1
      have q2 : f_X12_crawlsTo S 0 (zI ((1 + m : Nat) : Int)) = some S' := q2
      rw [b2_f, i00, i00, q1, bd_s, q2, bd_s, lt_e, lt_e, zs1]
      obtain ⟨W2, S2, p1, p2, p3, p4⟩ := ih (m + 1) f f' W' S' (by omega) (by omega) (by omega) ((q4.2 7 (by omega) (by omega)).trans h7) q3
      exact ⟨W2, S2, p1, p2, p3, q4.tr p4⟩
theorem crw_end {T W S : Gr} {n rg sp L : Nat} (hn : n ≤ 8) (hr : rg < n) (hs : sp < 8) (h : cwR n W S L) : ∃ r, f_X10_threadsTo_n93 T (zI n) (zI rg) (zI sp) W = some (r, W) ∧ (rd' (S.2 49) 65 ((1 + (8 * zI rg)) + zI sp) fun v22 => (f_X12_orNone v22).bind fun u23 => some (u23, S)) = some (r, S) := by
  obtain ⟨h1, h2, h3, h4, h5, h6, h7, h8⟩ := h
  have e1 : (1 : Int32) = zI 1 := rfl
  have e8 : (8 : Int32) = zI 8 := rfl
  have t1 : (1 + (zI rg * 8)) + zI sp = zI ((1 + 8 * rg + sp : Nat) : Int) := by rw [e1, e8, zI_mul, zI_add, zI_add]; congr 1; omega
  have t2 : (1 + (8 * zI rg)) + zI sp = zI ((1 + 8 * rg + sp : Nat) : Int) := by rw [e1, e8, zI_mul, zI_add, zI_add]; congr 1
  have hin : (0 : Int32) ≤ zI ((1 + 8 * rg + sp : Nat) : Int) ∧ zI ((1 + 8 * rg + sp : Nat) : Int) ≤ 64 := by
    have e0 : (0 : Int32) = zI ((0 : Nat) : Int) := rfl
    have e64 : (64 : Int32) = zI ((64 : Nat) : Int) := rfl
    rw [e0, e64, leN (by omega) (by omega), leN (by omega) (by omega)]; omega
  unfold f_X10_threadsTo_n93 f_X10_wayTo
  rw [t1, t2, within_e, decide_eq_true hin, bd_s, b2_t, i10, rdN (by omega) (by omega), bd_s, rdN (by omega) (by omega)]
  unfold f_X12_orNone
  rcases h6 (1 + 8 * rg + sp) (by omega) with ⟨u1, u2⟩ | ⟨v, v1, v2, v3⟩
  · rw [if_pos u1, if_pos u2, bd_s]; exact ⟨_, rfl, rfl⟩
  · have c1 : ¬ W.2 0 (1 + 8 * rg + sp) = 1000 := by rw [v2]; exact z1000 (by omega)
    have c2 : ¬ S.2 49 (1 + 8 * rg + sp) = -1 := by rw [v3]; exact zne1 v (by omega)
    rw [if_neg c1, if_neg c2, bd_s, v2, v3]; exact ⟨_, rfl, rfl⟩
theorem crw_lp {T M : Gr} {k n rg sp : Nat} (hk : tpR T M k) (hn1 : 1 ≤ n) (hn : n ≤ 8) (hnk : 2 * n ≤ k) (hr : rg < n) (hs : sp < 8) : ∀ (d j f f' : Nat) (W S : Gr), j + d = 64 → d < f → d < f' → S.2 7 = M.2 7 → (∃ L, cwR n W S L) → ∃ r W' S', f_X10_threadsTo_n40 T (zI n) (zI rg) (zI sp) f W (zI ((j + 1 : Nat) : Int)) = some (r, W') ∧ f_X12_crawls_n125 (zI n) (zI rg) (zI sp) f' S (zI j) = some (r, S') ∧ cwF S S' := by
  have hk260 := hk.1
  have e0 : (0 : Int32) = zI ((0 : Nat) : Int) := rfl
  intro d
  induction d with
  | zero =>
    intro j f f' W S hm hf hf' h7 ⟨L, h⟩
    obtain ⟨f, rfl⟩ : ∃ k, f = k + 1 := ⟨f - 1, by omega⟩
    obtain ⟨f', rfl⟩ : ∃ k, f' = k + 1 := ⟨f' - 1, by omega⟩
    have hL := h.1
    have c1 : W.1 2 ≤ zI ((j + 1 : Nat) : Int) := by rw [h.2.1, leN (by omega) (by omega)]; omega
    have c2 : S.1 51 ≤ zI j := by rw [h.2.2.1, leN (by omega) (by omega)]; omega
    obtain ⟨r, q1, q2⟩ := crw_end (T := T) hn hr hs h
    rw [f_X10_threadsTo_n40, if_pos c1, f_X12_crawls_n125, if_pos c2]
    exact ⟨r, W, S, q1, q2, cwF.rf S⟩
  | succ d ih =>
    intro j f f' W S hm hf hf' h7 ⟨L, h⟩
    obtain ⟨f, rfl⟩ : ∃ k, f = k + 1 := ⟨f - 1, by omega⟩
    obtain ⟨f', rfl⟩ : ∃ k, f' = k + 1 := ⟨f' - 1, by omega⟩
    have hL := h.1
    by_cases hjl : L ≤ j
    · have c1 : W.1 2 ≤ zI ((j + 1 : Nat) : Int) := by rw [h.2.1, leN (by omega) (by omega)]; omega
      have c2 : S.1 51 ≤ zI j := by rw [h.2.2.1, leN (by omega) (by omega)]; omega
      obtain ⟨r, q1, q2⟩ := crw_end (T := T) hn hr hs h
      rw [f_X10_threadsTo_n40, if_pos c1, f_X12_crawls_n125, if_pos c2]
      exact ⟨r, W, S, q1, q2, cwF.rf S⟩
    · have c1 : ¬ W.1 2 ≤ zI ((j + 1 : Nat) : Int) := by rw [h.2.1, leN (by omega) (by omega)]; omega
      have c2 : ¬ S.1 51 ≤ zI j := by rw [h.2.2.1, leN (by omega) (by omega)]; omega
      obtain ⟨a, a1, a2, a3, a4, a5⟩ := h.2.2.2.2.1 j (by omega)
      have c3 : ¬ zI a = 0 := by rw [e0, eqN (by omega) (by omega)]; omega
      rcases h.2.2.2.2.2.1 a (by omega) with ⟨-, u2⟩ | ⟨w, w1, w2, w3⟩
      · exact absurd u2 a5
      · obtain ⟨W', S', q1, q2, ⟨L', q3, -, -⟩, q4⟩ := knot_b (w := w) hk h7 hn hnk a1 a2 ⟨L, h, w3, w1⟩ w2
        rw [f_X10_threadsTo_n40, if_neg c1, if_neg (nle65 (by omega)), rdN (by omega) (by omega), a3, if_neg c3, rdN (by omega) (by omega), a3, q1, bd_s, lt_e, zs1, f_X12_crawls_n125, if_neg c2, rdN (by omega) (by omega), a4, if_neg c3, rdN (by omega) (by omega), a4, q2, bd_s, lt_e, zs1]
        obtain ⟨r, W2, S2, p1, p2, p3⟩ := ih (j + 1) f f' W' S' (by omega) (by omega) (by omega) ((q4.2 7 (by omega) (by omega)).trans h7) ⟨L', q3⟩
        exact ⟨r, W2, S2, p1, p2, q4.tr p3⟩
theorem far_lp {T : Gr} {x2 x3 x4 : Int32} : ∀ (d m f : Nat) (W : Gr), m + d = 65 → d < f → (∀ j, j < m → W.2 0 j = 1000) → ∃ W', f_X10_threadsTo_n3 T x2 x3 x4 f W (zI m) = f_X10_threadsTo_n40 T x2 x3 x4 fu W' 0 ∧ W'.1 2 = 1 ∧ W'.2 1 0 = 0 ∧ ∀ j, j < 65 → W'.2 0 j = if j = 0 then 0 else 1000 := by
  intro d
  induction d with
  | zero =>
    intro m f W hm hf hW
    obtain ⟨f, rfl⟩ : ∃ k, f = k + 1 := ⟨f - 1, by omega⟩
    have rd0 : ∀ {β : Type} {N : Nat} {g : Nat → Int32} {q : Int32 → Option β}, 0 < N → rd' g N 0 q = q (g 0) := fun hN => rdN (m := 0) hN (by omega)
    have ck0 : ∀ {β : Type} {q : Option β}, ck' 65 0 q = q := fun {β} {q} => ckN (m := 0) (by omega) (by omega)
    have cl0 : Int32.toNatClampNeg 0 = 0 := rfl
    have hr : f_X10_reach (sI W 2 0) 0 0 = some (sI (sA (sA (sI W 2 0) 0 0 0) 1 0 0) 2 1) := by
      unfold f_X10_reach
      rw [within_e, decide_eq_true (by decide), bd_s, b2_t, i10, rd0 (by omega), sI_2, hW 0 (by omega), if_pos rfl, sI_1, if_pos rfl, if_neg (by decide), ck0, cl0, lt_e, sA_1, sI_1, if_pos rfl, ck0, cl0, lt_e, sA_1, sA_1, sI_1, if_pos rfl, lt_e]
      rfl
    rw [f_X10_threadsTo_n3, if_pos (le65 (by omega) (by omega)), lt_e, hr, bd_s]
    refine ⟨_, rfl, rfl, rfl, fun j hj => ?_⟩
    rw [sI_2, sA_o _ _ _ _ _ (by omega), sA_s]
    by_cases e : j = 0
    · rw [if_pos e, if_pos e]
    · rw [if_neg e, if_neg e, sI_2]; exact hW j (by omega)
  | succ d ih =>
    intro m f W hm hf hW
    obtain ⟨f, rfl⟩ : ∃ k, f = k + 1 := ⟨f - 1, by omega⟩
    rw [f_X10_threadsTo_n3, if_neg (nle65 (by omega)), ckN (by omega) (by omega), clN (by omega), lt_e, lt_e, zs1]
    refine ih (m + 1) f _ (by omega) (by omega) (fun j hj => ?_)
    rw [sA_s]
    by_cases e : j = m
    · rw [if_pos e]
    · rw [if_neg e]; exact hW j (by omega)
theorem non_lp {x1 x2 x3 : Int32} : ∀ (d m f : Nat) (S : Gr), m + d = 65 → d < f → (∀ j, j < m → S.2 49 j = -1) → ∃ S', f_X12_crawls_n51 x1 x2 x3 f S (zI m) = f_X12_crawls_n87 x1 x2 x3 fu S' 0 ∧ S'.1 51 = 0 ∧ (∀ j, j < 65 → S'.2 49 j = if j = 0 then 0 else -1) ∧ cwF S S' := by
  intro d
  induction d with
  | zero =>
    intro m f S hm hf hW
    obtain ⟨f, rfl⟩ : ∃ k, f = k + 1 := ⟨f - 1, by omega⟩
    have ck0 : ∀ {β : Type} {q : Option β}, ck' 65 0 q = q := fun {β} {q} => ckN (m := 0) (by omega) (by omega)
    have cl0 : Int32.toNatClampNeg 0 = 0 := rfl
    rw [f_X12_crawls_n51, if_pos (le65 (by omega) (by omega)), ck0, cl0, lt_e, lt_e]
    refine ⟨_, rfl, rfl, fun j hj => ?_, fun j hj => ?_, fun j h1 h2 => ?_⟩
    · rw [sI_2, sA_s]
      by_cases e : j = 0
      · rw [if_pos e, if_pos e]
      · rw [if_neg e, if_neg e]; exact hW j (by omega)
    · rw [sI_1, if_neg hj]; rfl
    · rw [sI_2, sA_o _ _ _ _ _ h1]
  | succ d ih =>
    intro m f S hm hf hW
    obtain ⟨f, rfl⟩ : ∃ k, f = k + 1 := ⟨f - 1, by omega⟩
    rw [f_X12_crawls_n51, if_neg (nle65 (by omega)), ckN (by omega) (by omega), clN (by omega), lt_e, lt_e, zs1]
    obtain ⟨S', q1, q2, q3, q4⟩ := ih (m + 1) f (sA S 49 m (-1)) (by omega) (by omega) (fun j hj => by
      rw [sA_s]
      by_cases e : j = m
      · rw [if_pos e]
      · rw [if_neg e]; exact hW j (by omega))
    exact ⟨S', q1, q2, q3, ⟨fun j hj => (q4.1 j hj).trans rfl, fun j h1 h2 => (q4.2 j h1 h2).trans (sA_o _ _ _ _ _ h1)⟩⟩
theorem crawls_ok : hp_crawls Inv := by
  intro C M hI x y z
  obtain ⟨k, hk⟩ := tpR.of hI.1
  have hk260 := hk.1
  have e1 : (1 : Int32) = zI ((1 : Nat) : Int) := rfl
  have same : ∀ D, Inv (va_up (va_up C 1 (C 1)) 10 D) M := fun D => Inv_keep hI (keepM.rf M) hI.1 rfl rfl rfl rfl
  unfold f_X11_crawls f_X12_crawls
  rw [within_e, in_e, bd_s, bd_s, within_e, in_e, bd_s, bd_s, within_e, in_e, bd_s, bd_s]
  by_cases hx : (1 : Int32) ≤ x ∧ x ≤ 8
  · rw [decide_eq_true hx, b2_t, i10, i10]
    obtain ⟨n, hn1, hn2, rfl⟩ := in_of2 1 8 (by omega) (by omega) hx
    by_cases hy : (0 : Int32) ≤ y ∧ y ≤ zI n - 1
    · rw [decide_eq_true hy, b2_t, i10, i10]
      have en : zI n - 1 = zI ((n - 1 : Nat) : Int) := by
        have e : (1 : Int32) = zI 1 := rfl
        rw [e, zI_sub]; congr 1; omega
      rw [en] at hy
      obtain ⟨rg, hr1, hr2, rfl⟩ := in_of2 0 (n - 1) (by omega) (by omega) hy
      by_cases hz : (0 : Int32) ≤ z ∧ z ≤ 7
      · rw [decide_eq_true hz, b2_t, i10, i10]
        obtain ⟨sp, hs1, hs2, rfl⟩ := in_of2 0 7 (by omega) (by omega) hz
        rw [ix2, has_b hk (by omega), bd_s]
        by_cases hck : 2 * n ≤ k
        · rw [decide_eq_true hck, b2_t, i10, if_pos ((hasm_b hk (by omega)).mpr hck), lt_e]
          obtain ⟨W1, a1, a2, a3, a4⟩ := far_lp (T := C 1) (x2 := zI n) (x3 := zI rg) (x4 := zI sp) 65 0 fu (C 10) (by omega) (by decide) (fun j hj => by omega)
          obtain ⟨S1, b1, b2', b3, b4⟩ := non_lp (x1 := zI n) (x2 := zI rg) (x3 := zI sp) 65 0 fu (sI M 8 0) (by omega) (by decide) (fun j hj => by omega)
          have hst : stp n 0 0 W1 S1 := by
            refine ⟨0, ⟨by omega, a2, b2', a3, fun j hj => by omega, fun j hj => ?_, ?_, ?_⟩, ?_, by omega⟩
            · rw [a4 j hj, b3 j hj]
              by_cases e : j = 0
              · rw [if_pos e, if_pos e]; exact Or.inr ⟨0, by omega, rfl, rfl⟩
              · rw [if_neg e, if_neg e]; exact Or.inl ⟨rfl, rfl⟩
            · rw [b3 0 (by omega), if_pos rfl]
            · have hq := (qn_up (P := fun _ => false) (Q := fun j => decide (j = 0)) (v := 0) rfl rfl (fun j hj => decide_eq_false hj) 65).1 (by omega)
              rw [qn_0 65 (fun j _ => rfl)] at hq
              refine Eq.trans (qn_cg 65 (fun j hj => ?_)) hq
              show decide (¬ S1.2 49 j = -1) = decide (j = 0)
              rw [b3 j hj]
              by_cases e : j = 0
              · rw [if_pos e, decide_eq_true e]; rfl
              · rw [if_neg e, decide_eq_false e]; rfl
            · rw [b3 0 (by omega), if_pos rfl]; rfl
          obtain ⟨W2, S2, c1, c2, ⟨L, c3, -, -⟩, c4⟩ := mid_lp hk hn1 hn2 hck (zI rg) (zI sp) 8 0 fu fu W1 S1 (by omega) (by decide) (by decide) (b4.2 7 (by omega) (by omega)) hst
          obtain ⟨r, W3, S3, d1, d2, d3⟩ := crw_lp hk hn1 hn2 hck (rg := rg) (sp := sp) (by omega) (by omega) 64 0 999 fu W2 S2 (by omega) (by omega) (by decide) ((c4.2 7 (by omega) (by omega)).trans (b4.2 7 (by omega) (by omega))) ⟨L, c3⟩
          have c1 : f_X10_leaveMiddle W1 (C 1) = some W2 := c1
          have rd0 : ∀ {β : Type} {N : Nat} {g : Nat → Int32} {q : Int32 → Option β}, 0 < N → rd' g N 0 q = q (g 0) := fun hN => rdN (m := 0) hN (by omega)
          have hc : f_X10_threadsTo (C 10) (C 1) (zI n) (zI rg) (zI sp) = some (r, W3) := by
            refine Eq.trans a1 ?_
            rw [fuS, f_X10_threadsTo_n40, a2, if_neg (by decide), if_neg (by decide), rd0 (by omega), a3, if_pos rfl, c1, bd_s, lt_e]
            exact d1
          have hm : f_X12_crawls_n51 (zI n) (zI rg) (zI sp) fu (sI M 8 0) 0 = some (r, S3) := b1.trans (c2.trans d2)
          have hF := (b4.tr c4).tr d3
          rw [hc, bd_s, hm]
          refine ⟨_, _, rfl, rfl, rfl, emp_of hI (fun k hk => ?_) ?_ (fun k hk => hF.2 k (by omega) (by omega)) rfl rfl rfl rfl rfl⟩
          · show S3.1 k = M.1 k
            rw [hF.1 k (by omega), sI_1, if_neg (by omega)]
          · show S3.1 8 = 0
            rw [hF.1 8 (by omega)]; rfl
        · rw [decide_eq_false hck, b2_f, i00, if_neg (fun h => hck ((hasm_b hk (by omega)).mp h))]
          exact ⟨_, _, rfl, rfl, rfl, same _⟩
      · rw [decide_eq_false hz, b2_f, i00, i00]; exact ⟨_, _, rfl, rfl, rfl, same _⟩
    · rw [decide_eq_false hy, b2_f, i00, i00]; exact ⟨_, _, rfl, rfl, rfl, same _⟩
  · rw [decide_eq_false hx, b2_f, i00, i00]; exact ⟨_, _, rfl, rfl, rfl, same _⟩
