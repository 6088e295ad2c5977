/-! chart: numbers of two digits -/
def crF (N N' : Gr) : Prop := (∀ j, j ≠ 9 → j ≠ 11 → j ≠ 12 → j ≠ 35 → j ≠ 36 → j ≠ 37 → j ≠ 38 → N'.1 j = N.1 j) ∧ ∀ j, j ≠ 31 → j ≠ 32 → j ≠ 33 → j ≠ 34 → N'.2 j = N.2 j
theorem crF.rf (N : Gr) : crF N N := ⟨fun _ _ _ _ _ _ _ _ => rfl, fun _ _ _ _ _ => rfl⟩
theorem crF.tr {A B C : Gr} (h : crF A B) (k : crF B C) : crF A C := ⟨fun j a b c d e f g => (k.1 j a b c d e f g).trans (h.1 j a b c d e f g), fun j a b c d => (k.2 j a b c d).trans (h.2 j a b c d)⟩
theorem crF.i (N : Gr) {k : Nat} (hk : k = 9 ∨ k = 11 ∨ k = 12 ∨ k = 35 ∨ k = 36 ∨ k = 37 ∨ k = 38) (x : Int32) : crF N (sI N k x) := ⟨fun j a b c d e f g => sI_o _ _ _ _ (by omega), fun _ _ _ _ _ => rfl⟩
theorem crF.a (N : Gr) {k : Nat} (hk : k = 31 ∨ k = 32 ∨ k = 33 ∨ k = 34) (i : Nat) (x : Int32) : crF N (sA N k i x) := ⟨fun _ _ _ _ _ _ _ _ => rfl, fun j a b c d => sA_o _ _ _ _ _ (by omega)⟩
/-- what a text's reading leaves as it was -/
def crK (N N' : Gr) : Prop := (N'.1 35 = N.1 35 ∧ N'.1 36 = N.1 36 ∧ N'.1 37 = N.1 37) ∧ N'.2 = N.2
theorem crK.tr {A B C : Gr} (h : crK A B) (k : crK B C) : crK A C := ⟨⟨k.1.1.trans h.1.1, k.1.2.1.trans h.1.2.1, k.1.2.2.trans h.1.2.2⟩, k.2.trans h.2⟩
section
variable {b : Nat → Int} {n : Nat}
theorem isD_b {X N : Gr} {i : Nat} (hb : txB b n) (h : txR X N b n i) : f_X12_isDigit N = some (b2 (decide (48 ≤ cu b n i ∧ cu b n i ≤ 57))) ∧ f_X9_isAt X 48 57 = some (b2 (decide (48 ≤ cu b n i ∧ cu b n i ≤ 57))) := by
  have hc := cu_b hb i
  refine ⟨?_, isAt_b hb h 48 57 (by omega) (by omega) (by omega) (by omega)⟩
  have e48 : (48 : Int32) = zI 48 := rfl
  have e57 : (57 : Int32) = zI 57 := rfl
  unfold f_X12_isDigit
  rw [here_b hb h, bd_s, bd_s, e48, e57]
  by_cases c1 : cu b n i < 48
  · rw [if_pos ((zI_lt (by omega) (by omega) (by omega) (by omega)).mpr c1), decide_eq_false (by omega)]; rfl
  · rw [if_neg (fun h => c1 ((zI_lt (by omega) (by omega) (by omega) (by omega)).mp h))]
    by_cases c2 : 57 < cu b n i
    · rw [if_pos ((zI_lt (by omega) (by omega) (by omega) (by omega)).mpr c2), decide_eq_false (by omega)]; rfl
    · rw [if_neg (fun h => c2 ((zI_lt (by omega) (by omega) (by omega) (by omega)).mp h)), decide_eq_true (by omega)]; rfl
/-- after m of two digits -/
theorem two_lp (hb : txB b n) {i : Nat} {hi : Int} (h0 : 9 ≤ hi) (h1 : hi ≤ 99) : ∀ (d m f f' : Nat) (X N : Gr) (v : Int), m + d = 2 → 1 ≤ m → d < f → d < f' → txR X N b n (i + m) → N.1 12 = zI v → 0 ≤ v → (m = 1 → v ≤ 9) → (m = 2 → v ≤ 99) → ∃ X' N', crF N N' ∧ crK N N' ∧ ((∃ (i' : Nat) (v' : Int), i < i' ∧ txR X' N' b n i' ∧ 0 ≤ v' ∧ v' ≤ hi ∧ N'.1 12 = zI v' ∧ f_X9_number_n10 2 f X (zI i) (zI v) (zI m) = some (zI v', X') ∧ f_X12_readsWithin_n27 (zI hi) f' N (zI i) = some (1, N')) ∨ (flR X' N' ∧ f_X12_readsWithin_n27 (zI hi) f' N (zI i) = some (0, N') ∧ (f_X9_number_n10 2 f X (zI i) (zI v) (zI m) = some (-1, X') ∨ ∃ v' X1, hi < v' ∧ v' ≤ 99 ∧ f_X9_number_n10 2 f X (zI i) (zI v) (zI m) = some (zI v', X1) ∧ f_X9_failAt X1 3 (zI i) = some (0, X')))) := by
  have hn := hb.1
  have e2 : (2 : Int32) = zI ((2 : Nat) : Int) := rfl
  -- the end: no digit more
  have fin : ∀ (m f' : Nat) (X N : Gr) (v : Int), 1 ≤ m → m ≤ 2 → txR X N b n (i + m) → ¬ (48 ≤ cu b n (i + m) ∧ cu b n (i + m) ≤ 57) → N.1 12 = zI v → 0 ≤ v → v ≤ 99 → ∃ X' N', crF N N' ∧ crK N N' ∧ ((∃ (i' : Nat) (v' : Int), i < i' ∧ txR X' N' b n i' ∧ 0 ≤ v' ∧ v' ≤ hi ∧ N'.1 12 = zI v' ∧ f_X9_number_n50 2 X (zI i) (zI v) = some (zI v', X') ∧ f_X12_readsWithin_n27 (zI hi) (f' + 1) N (zI i) = some (1, N')) ∨ (flR X' N' ∧ f_X12_readsWithin_n27 (zI hi) (f' + 1) N (zI i) = some (0, N') ∧ (f_X9_number_n50 2 X (zI i) (zI v) = some (-1, X') ∨ ∃ v' X1, hi < v' ∧ v' ≤ 99 ∧ f_X9_number_n50 2 X (zI i) (zI v) = some (zI v', X1) ∧ f_X9_failAt X1 3 (zI i) = some (0, X')))) := by
    intro m f' X N v hm hm2 h hd hv v0 v1
    have hi' := h.1
    obtain ⟨d1, d2⟩ := isD_b hb h
    rw [decide_eq_false hd] at d1 d2
    have c1 : ¬ X.1 2 = zI i := by rw [h.2.1.2.1, eqN (by omega) (by omega)]; omega
    have hc : f_X9_number_n50 2 X (zI i) (zI v) = some (zI v, X) := by
      unfold f_X9_number_n50
      rw [if_neg c1, d2, bd_s, b2_f, i00]
    rw [f_X12_readsWithin_n27, d1, bd_s, b2_f, i00, hv, hc]
    by_cases hle : v ≤ hi
    · rw [if_pos ((zI_le (by omega) (by omega) (by omega) (by omega)).mpr hle)]
      exact ⟨X, N, crF.rf N, ⟨⟨rfl, rfl, rfl⟩, rfl⟩, Or.inl ⟨i + m, v, by omega, h, v0, hle, hv, rfl, rfl⟩⟩
    · have w1 : f_X12_wrongAt N 3 (zI i) = _ := wra_b N 3 i
      have w2 : f_X9_failAt X 3 (zI i) = _ := fat_b h 3 i
      rw [if_neg (fun h => hle ((zI_le (by omega) (by omega) (by omega) (by omega)).mp h)), w1, bd_s, i00]
      exact ⟨_, _, crF.i N (by omega) _, ⟨⟨rfl, rfl, rfl⟩, rfl⟩, Or.inr ⟨fl_of X N (by omega) (by omega) (by omega), rfl, Or.inr ⟨v, X, by omega, v1, rfl, w2⟩⟩⟩
  intro d
  induction d with
  | zero =>
    intro m f f' X N v hm hm1 hf hf' h hv v0 v1 v2
    obtain ⟨f, rfl⟩ : ∃ k, f = k + 1 := ⟨f - 1, by omega⟩
    obtain ⟨f', rfl⟩ : ∃ k, f' = k + 1 := ⟨f' - 1, by omega⟩
    have em : m = 2 := by omega
    subst em
    have hi' := h.1
    have hc : (2 : Int32) ≤ zI ((2 : Nat) : Int) := by decide
    rw [f_X9_number_n10, if_pos hc]
    by_cases hd : 48 ≤ cu b n (i + 2) ∧ cu b n (i + 2) ≤ 57
    · obtain ⟨d1, d2⟩ := isD_b hb h
      rw [decide_eq_true hd] at d1 d2
      have c1 : ¬ X.1 2 = zI i := by rw [h.2.1.2.1, eqN (by omega) (by omega)]; omega
      have c2 : N.1 9 = zI i + 2 := by rw [h.2.2.1, e2, zaN]
      have w1 : f_X12_wrongAt N 2 (N.1 9) = _ := wro_b h 2
      have w2 : f_X9_failAt X 2 (zI ((i + 2 : Nat) : Int)) = _ := fat_b h 2 (i + 2)
      unfold f_X9_number_n50
      rw [if_neg c1, d2, bd_s, b2_t, i10, h.2.1.2.1, w2, bd_s, f_X12_readsWithin_n27, d1, bd_s, b2_t, i10, if_pos c2, w1, bd_s, zb_0]
      exact ⟨_, _, crF.i N (by omega) _, ⟨⟨rfl, rfl, rfl⟩, rfl⟩, Or.inr ⟨fl_of X N (by omega) (by omega) (by omega), rfl, Or.inl rfl⟩⟩
    · exact fin 2 f' X N v (by omega) (by omega) h hd hv v0 (v2 rfl)
  | succ d ih =>
    intro m f f' X N v hm hm1 hf hf' h hv v0 v1 v2
    obtain ⟨f, rfl⟩ : ∃ k, f = k + 1 := ⟨f - 1, by omega⟩
    obtain ⟨f', rfl⟩ : ∃ k, f' = k + 1 := ⟨f' - 1, by omega⟩
    have em : m = 1 := by omega
    subst em
    have hi' := h.1
    have hc : ¬ (2 : Int32) ≤ zI ((1 : Nat) : Int) := by decide
    obtain ⟨d1, d2⟩ := isD_b hb h
    rw [f_X9_number_n10, if_neg hc]
    by_cases hd : 48 ≤ cu b n (i + 1) ∧ cu b n (i + 1) ≤ 57
    · have hlt : i + 1 < n := cu_lt (b := b) (by omega)
      have c2 : ¬ N.1 9 = zI i + 2 := by rw [h.2.2.1, e2, zaN, eqN (by omega) (by omega)]; omega
      rw [decide_eq_true hd] at d1 d2
      have e10 : (10 : Int32) = zI 10 := rfl
      have e48 : (48 : Int32) = zI 48 := rfl
      have ev : (zI v * 10 + zI (cu b n (i + 1))) - 48 = zI (10 * v + cu b n (i + 1) - 48) := by rw [e10, e48, zI_mul, zI_add, zI_sub]; congr 1; omega
      have ev2 : (10 * zI v + zI (cu b n (i + 1))) - 48 = zI (10 * v + cu b n (i + 1) - 48) := by rw [e10, e48, zI_mul, zI_add, zI_sub]
      have e9 : (sI N 12 (zI (10 * v + cu b n (i + 1) - 48))).1 9 = zI ((i + 1 : Nat) : Int) := by rw [sI_o _ _ _ _ (by omega)]; exact h.2.2.1
      rw [d2, bd_s, b2_t, i10, peek_b hb h, bd_s, ev, lt_e, stp_b hb h hlt, bd_s, lt_e, zs1, f_X12_readsWithin_n27, d1, bd_s, b2_t, i10, if_neg c2, here_b hb h, bd_s, hv, ev2, lt_e, e9, zs1, lt_e]
      have hF : crF N (sI (sI N 12 (zI (10 * v + cu b n (i + 1) - 48))) 9 (zI ((i + 1 + 1 : Nat) : Int))) := (crF.i N (by omega) _).tr (crF.i _ (by omega) _)
      obtain ⟨X', N', q1, q2, q3⟩ := ih 2 f f' (sI X 2 (zI ((i + 1 + 1 : Nat) : Int))) (sI (sI N 12 (zI (10 * v + cu b n (i + 1) - 48))) 9 (zI ((i + 1 + 1 : Nat) : Int))) (10 * v + cu b n (i + 1) - 48) (by omega) (by omega) (by omega) (by omega) (h.nx hlt (sI_s _ _ _) rfl rfl) (by rw [sI_o _ _ _ _ (by omega), sI_s]) (by omega) (by omega) (fun _ => by have := v1 rfl; omega)
      exact ⟨X', N', hF.tr q1, crK.tr ⟨⟨rfl, rfl, rfl⟩, rfl⟩ q2, q3⟩
    · rw [decide_eq_false hd] at d2
      rw [d2, bd_s, b2_f, i00]
      exact fin 1 f' X N v (by omega) (by omega) h hd hv v0 (by have := v1 rfl; omega)
/-- a coordinate of the class against the reference's number; hi 99: a force -/
theorem coo_b (hb : txB b n) {X N : Gr} {i : Nat} (h : txR X N b n i) {hi : Int} (h0 : 9 ≤ hi) (h1 : hi ≤ 99) : ∃ X' N', crF N N' ∧ crK N N' ∧ ((∃ (i' : Nat) (v' : Int), i < i' ∧ txR X' N' b n i' ∧ 0 ≤ v' ∧ v' ≤ hi ∧ N'.1 12 = zI v' ∧ f_X9_number X 2 = some (zI v', X') ∧ f_X0_coordinate X (zI hi) = some (zI v', X') ∧ f_X12_readsWithin N (zI hi) = some (1, N')) ∨ (flR X' N' ∧ f_X0_coordinate X (zI hi) = some (-1, X') ∧ (hi = 99 → f_X9_number X 2 = some (-1, X')) ∧ f_X12_readsWithin N (zI hi) = some (0, N'))) := by
  have hn := hb.1
  have hi' := h.1
  have em : (-1 : Int32) = zI (-1) := rfl
  have eX2 : X.1 2 = zI i := h.2.1.2.1
  have cle : (-1 : Int32) ≤ zI hi := by rw [em, zI_le (by omega) (by omega) (by omega) (by omega)]; omega
  obtain ⟨d1, d2⟩ := isD_b hb h
  by_cases hd : 48 ≤ cu b n i ∧ cu b n i ≤ 57
  · have hlt : i < n := cu_lt (b := b) (by omega)
    rw [decide_eq_true hd] at d1 d2
    have e10 : (10 : Int32) = zI 10 := rfl
    have e48 : (48 : Int32) = zI 48 := rfl
    have e0 : (0 : Int32) = zI 0 := rfl
    have ev : ((0 : Int32) * 10 + zI (cu b n i)) - 48 = zI (cu b n i - 48) := by rw [e0, e10, e48, zI_mul, zI_add, zI_sub]; congr 1; omega
    have ev2 : (10 * (0 : Int32) + zI (cu b n i)) - 48 = zI (cu b n i - 48) := by rw [e0, e10, e48, zI_mul, zI_add, zI_sub]; congr 1; omega
    have h' : txR (sI X 2 (zI ((i + 1 : Nat) : Int))) (sI (sI (sI N 12 0) 12 (zI (cu b n i - 48))) 9 (zI ((i + 1 : Nat) : Int))) b n (i + 1) := h.nx hlt (sI_s _ _ _) rfl rfl
    obtain ⟨X', N', q1, q2, q3⟩ := two_lp hb h0 h1 1 1 999 999 _ _ (cu b n i - 48) (by omega) (by omega) (by omega) (by omega) h' (by rw [sI_o _ _ _ _ (by omega), sI_s]) (by omega) (fun _ => by omega) (by omega)
    have hN : f_X9_number X 2 = f_X9_number_n10 2 999 (sI X 2 (zI ((i + 1 : Nat) : Int))) (zI i) (zI (cu b n i - 48)) (zI ((1 : Nat) : Int)) := by
      have hc : ¬ (2 : Int32) ≤ 0 := by decide
      unfold f_X9_number
      rw [lt_e, eX2, fuS, f_X9_number_n10, if_neg hc, d2, bd_s, b2_t, i10, peek_b hb h, bd_s, ev, lt_e, stp_b hb h hlt, bd_s, lt_e]
      rfl
    have hM : f_X12_readsWithin N (zI hi) = f_X12_readsWithin_n27 (zI hi) 999 (sI (sI (sI N 12 0) 12 (zI (cu b n i - 48))) 9 (zI ((i + 1 : Nat) : Int))) (zI i) := by
      have h2 : txR X (sI N 12 0) b n i := h.nm rfl rfl rfl
      have c2 : ¬ (sI N 12 0).1 9 = zI i + 2 := by
        have e2 : (2 : Int32) = zI ((2 : Nat) : Int) := rfl
        rw [h2.2.2.1, e2, zaN, eqN (by omega) (by omega)]; omega
      have e9 : (sI (sI N 12 0) 12 (zI (cu b n i - 48))).1 9 = zI i := by rw [sI_o _ _ _ _ (by omega)]; exact h2.2.2.1
      have d3 := (isD_b hb h2).1
      rw [decide_eq_true hd] at d3
      unfold f_X12_readsWithin
      rw [lt_e, d1, bd_s, b2_t, i10, lt_e, h.2.2.1, fuS, f_X12_readsWithin_n27, d3, bd_s, b2_t, i10, if_neg c2, here_b hb h2, bd_s, sI_s, ev2, lt_e, e9, zs1, lt_e]
    have hF : crF N (sI (sI (sI N 12 0) 12 (zI (cu b n i - 48))) 9 (zI ((i + 1 : Nat) : Int))) := (crF.i N (by omega) _).tr ((crF.i _ (by omega) _).tr (crF.i _ (by omega) _))
    refine ⟨X', N', hF.tr q1, crK.tr ⟨⟨rfl, rfl, rfl⟩, rfl⟩ q2, ?_⟩
    rcases q3 with ⟨i', v', a1, a2, a3, a4, a5, a6, a7⟩ | ⟨a1, a2, a3⟩
    · refine Or.inl ⟨i', v', a1, a2, a3, a4, a5, hN.trans a6, ?_, hM.trans a7⟩
      unfold f_X0_coordinate
      rw [lt_e, hN, a6, bd_s, if_pos ((zI_le (by omega) (by omega) (by omega) (by omega)).mpr a4)]
    · rcases a3 with a3 | ⟨v', X1, b1, b2', b3, b4⟩
      · refine Or.inr ⟨a1, ?_, fun _ => hN.trans a3, hM.trans a2⟩
        unfold f_X0_coordinate
        rw [lt_e, hN, a3, bd_s, if_pos cle]
      · refine Or.inr ⟨a1, ?_, fun e => by omega, hM.trans a2⟩
        unfold f_X0_coordinate
        rw [lt_e, hN, b3, bd_s, if_neg (fun h => absurd ((zI_le (by omega) (by omega) (by omega) (by omega)).mp h) (by omega)), eX2, b4, bd_s]
  · rw [decide_eq_false hd] at d1 d2
    have w1 : f_X12_wrongAt N 1 (N.1 9) = _ := wro_b h 1
    have w2 : f_X9_failAt X 1 (zI i) = _ := fat_b h 1 i
    have hN : f_X9_number X 2 = some (-1, sI X 3 (zI (ft 1 i))) := by
      have hc : ¬ (2 : Int32) ≤ 0 := by decide
      unfold f_X9_number
      rw [lt_e, eX2, fuS, f_X9_number_n10, if_neg hc, d2, bd_s, b2_f, i00]
      unfold f_X9_number_n50
      rw [if_pos eX2, eX2, w2, bd_s]
    have hM : f_X12_readsWithin N (zI hi) = some (0, sI N 11 (zI (ft 1 i))) := by
      unfold f_X12_readsWithin
      rw [lt_e, d1, bd_s, b2_f, i00, w1, bd_s, zb_0]
    refine ⟨sI X 3 (zI (ft 1 i)), sI N 11 (zI (ft 1 i)), crF.i N (by omega) _, ⟨⟨rfl, rfl, rfl⟩, rfl⟩, Or.inr ⟨fl_of X N (by omega) (by omega) (by omega), ?_, fun _ => hN, hM⟩⟩
    unfold f_X0_coordinate
    rw [lt_e, hN, bd_s, if_pos cle]
end
