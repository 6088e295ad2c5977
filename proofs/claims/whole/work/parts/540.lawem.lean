/-! law: what class and reference have written -/
def emK (L N : Gr) (c0 a0 cm : Nat) (ty : Nat → Nat) (P : Nat → Prop) (k : Nat) : Prop := ∃ (o : Nat) (v : Int), (o ≤ 12 ∧ 0 ≤ v ∧ v ≤ 99999) ∧ L.2 5 (c0 + (k - a0)) = zI (sgOf o) ∧ N.2 18 k = zI (1048576 * o + v) ∧ (o = 1 → v < 10) ∧ (2 ≤ o ∧ o ≤ 10 → v = 0) ∧ ((o ≤ 1 → ty k < 31 ∧ ty (k + 1) = ty k + 1) ∧ (2 ≤ o ∧ o ≤ 6 → 2 ≤ ty k ∧ ty k ≤ 31 ∧ ty (k + 1) + 1 = ty k) ∧ (7 ≤ o ∧ o ≤ 9 → ty k = 2 ∧ ty (k + 1) = 100) ∧ (o = 10 → ty k = 100 ∧ ty (k + 1) = 100) ∧ (11 ≤ o → ty k = 100 ∧ ty (k + 1) = 0)) ∧ (¬ P k → L.2 6 (c0 + (k - a0)) = zI (if o = 11 ∨ o = 12 then v + ((c0 : Int) - a0) else v) ∧ (11 ≤ o → (k : Int) < v ∧ v ≤ cm ∧ ty v.toNat = 100)) ∧ (P k → 11 ≤ o ∧ v = 0)
def em (L N : Gr) (c0 a0 cm m : Nat) (q : List Nat) (ty : Nat → Nat) (P : Nat → Prop) : Prop := (N.1 14 = zI cm ∧ L.1 4 = zI m ∧ a0 ≤ c0 ∧ a0 ≤ cm ∧ m = c0 + (cm - a0) + q.length ∧ ty a0 = 0) ∧ (∀ k, a0 ≤ k → k < cm → emK L N c0 a0 cm ty P k) ∧ (∀ k, P k → a0 ≤ k ∧ k < cm) ∧ (∀ j, j < q.length → L.2 5 (c0 + (cm - a0) + j) = zI (sgOf (q.getD j 0)) ∧ L.2 6 (c0 + (cm - a0) + j) = 0)
/-- the class's write -/
def wrL (L : Gr) (m : Nat) (s v : Int32) : Gr := sI (sA (sA L 5 m s) 6 m v) 4 (zI ((m + 1 : Nat) : Int))
theorem write_e {L : Gr} {m : Nat} (hm : m < 240) (h : L.1 4 = zI m) (s v : Int32) : f_X3_write L s v = some (wrL L m s v) := by
  have e : (240 : Int32) = zI ((240 : Nat) : Int) := rfl
  have c : ¬ (240 : Int32) ≤ L.1 4 := by rw [h, e, leN (by omega) (by omega)]; omega
  unfold f_X3_write wrL
  rw [if_neg c, h, ckN (by omega) (by omega), clN (by omega), lt_e, sA_1, h, ckN (by omega) (by omega), clN (by omega), lt_e, sA_1, sA_1, h, zs1, lt_e]
theorem wsign_e {L : Gr} {m : Nat} (hm : m < 240) (h : L.1 4 = zI m) (s : Int32) : f_X3_writeSign L s = some (wrL L m s 0) := by
  unfold f_X3_writeSign
  rw [write_e hm h, bd_s]
theorem wr5 (L : Gr) (m j : Nat) (s v : Int32) : (wrL L m s v).2 5 j = if j = m then s else L.2 5 j := by
  unfold wrL; rw [sI_2, sA_o _ _ _ _ _ (by omega), sA_s]
theorem wr6 (L : Gr) (m j : Nat) (s v : Int32) : (wrL L m s v).2 6 j = if j = m then v else L.2 6 j := by
  unfold wrL; rw [sI_2, sA_s, sA_o _ _ _ _ _ (by omega)]
/-- the reference's note -/
def ntN (N : Gr) (cm : Nat) (x : Int32) : Gr := sI (sA N 18 cm x) 14 (zI ((cm + 1 : Nat) : Int))
theorem notes_e {N : Gr} {cm : Nat} (hc : cm < 260) (h : N.1 14 = zI cm) (o : Nat) (v : Int) : f_X12_notes N (zI o) (zI v) = some (ntN N cm (zI (1048576 * o + v))) := by
  have e : (1048576 : Int32) = zI 1048576 := rfl
  unfold f_X12_notes ntN
  rw [h, ckN (by omega) (by omega), clN (by omega), e, zI_mul, zI_add, lt_e, sA_1, h, zs1, lt_e]
theorem nt18 (N : Gr) (cm j : Nat) (x : Int32) : (ntN N cm x).2 18 j = if j = cm then x else N.2 18 j := by
  unfold ntN; rw [sI_2, sA_s]
def tyU (ty : Nat → Nat) (k t : Nat) : Nat → Nat := fun j => if j = k then t else ty j
theorem tyU_s (ty : Nat → Nat) (k t : Nat) : tyU ty k t k = t := if_pos rfl
theorem tyU_o (ty : Nat → Nat) {k j : Nat} (t : Nat) (h : j ≠ k) : tyU ty k t j = ty j := if_neg h
section
variable {L N : Gr} {c0 a0 cm m : Nat} {q : List Nat} {ty : Nat → Nat} {P : Nat → Prop}
theorem em.nm (h : em L N c0 a0 cm m q ty P) {N' : Gr} (e1 : N'.1 14 = N.1 14) (e2 : N'.2 18 = N.2 18) : em L N' c0 a0 cm m q ty P := by
  obtain ⟨⟨h1, h2⟩, h3, h4, h5⟩ := h
  refine ⟨⟨e1.trans h1, h2⟩, fun k k1 k2 => ?_, h4, h5⟩
  obtain ⟨o, v, r⟩ := h3 k k1 k2
  refine ⟨o, v, ?_⟩
  rw [e2]; exact r
/-- an emK goes on when more is written -/
theorem emK.mv {k cm' : Nat} {ty' : Nat → Nat} {P' : Nat → Prop} {L' N' : Gr} (h : emK L N c0 a0 cm ty P k) (hk : a0 ≤ k) (hk2 : k < cm) (hcm : cm ≤ cm') (h5 : L'.2 5 (c0 + (k - a0)) = L.2 5 (c0 + (k - a0))) (h6 : L'.2 6 (c0 + (k - a0)) = L.2 6 (c0 + (k - a0))) (h18 : N'.2 18 k = N.2 18 k) (ht : ∀ j, j ≤ cm → ty' j = ty j) (hP : P' k ↔ P k) : emK L' N' c0 a0 cm' ty' P' k := by
  obtain ⟨o, v, r1, r2, r3, r4, r5, r6, r7, r8⟩ := h
  refine ⟨o, v, r1, h5.trans r2, h18.trans r3, r4, r5, ?_, fun hp => ?_, fun hp => r8 (hP.mp hp)⟩
  · rw [ht k (by omega), ht (k + 1) (by omega)]; exact r6
  · obtain ⟨s1, s2⟩ := r7 (fun h => hp (hP.mpr h))
    refine ⟨h6.trans s1, fun ho => ?_⟩
    obtain ⟨u1, u2, u3⟩ := s2 ho
    exact ⟨u1, by omega, by rw [ht _ (by omega)]; exact u3⟩
/-- a number or a letter, on both sides -/
theorem em_nl (h : em L N c0 a0 cm m [] ty P) {o : Nat} {v : Int} (ho : o ≤ 1) (v0 : 0 ≤ v) (v1 : v ≤ 99999) (hl : o = 1 → v < 10) (ht : ty cm < 31) : em (wrL L m (zI (sgOf o)) (zI v)) (ntN N cm (zI (1048576 * o + v))) c0 a0 (cm + 1) (m + 1) [] (tyU ty (cm + 1) (ty cm + 1)) P := by
  obtain ⟨⟨h1, h2, h3, h4, h5, h6⟩, h7, h8, -⟩ := h
  have hm : m = c0 + (cm - a0) := h5
  refine ⟨⟨sI_s _ _ _, sI_s _ _ _, h3, by omega, by show m + 1 = c0 + (cm + 1 - a0) + 0; omega, ?_⟩, fun k k1 k2 => ?_, fun k hk => ?_, fun j hj => absurd hj (Nat.not_lt_zero j)⟩
  · rw [tyU_o _ _ (by omega)]; exact h6
  · by_cases e : k = cm
    · subst e
      refine ⟨o, v, ⟨by omega, v0, v1⟩, by rw [wr5, if_pos (by omega)], by rw [nt18, if_pos rfl], hl, fun h => by omega, ⟨fun _ => ?_, fun h => by omega, fun h => by omega, fun h => by omega, fun h => by omega⟩, fun _ => ⟨?_, fun h => by omega⟩, fun hp => absurd (h8 _ hp) (by omega)⟩
      · rw [tyU_o _ _ (by omega), tyU_s]; exact ⟨ht, rfl⟩
      · rw [wr6, if_pos (by omega), if_neg (by omega)]
    · exact (h7 k k1 (by omega)).mv k1 (by omega) (by omega) (by rw [wr5, if_neg (by omega)]) (by rw [wr6, if_neg (by omega)]) (by rw [nt18, if_neg e]) (fun j hj => tyU_o _ _ (by omega)) Iff.rfl
  · have := h8 k hk; omega
/-- the class writes a sign that the reference has yet to note -/
theorem em_cw (h : em L N c0 a0 cm m q ty P) (o : Nat) : em (wrL L m (zI (sgOf o)) 0) N c0 a0 cm (m + 1) (q ++ [o]) ty P := by
  obtain ⟨⟨h1, h2, h3, h4, h5, h6⟩, h7, h8, h9⟩ := h
  refine ⟨⟨h1, sI_s _ _ _, h3, h4, by rw [List.length_append]; show m + 1 = c0 + (cm - a0) + (q.length + 1); omega, h6⟩, fun k k1 k2 => ?_, h8, fun j hj => ?_⟩
  · exact (h7 k k1 k2).mv k1 k2 (by omega) (by rw [wr5, if_neg (by omega)]) (by rw [wr6, if_neg (by omega)]) rfl (fun _ _ => rfl) Iff.rfl
  · rw [List.length_append] at hj
    have hj : j < q.length + 1 := hj
    rw [wr5, wr6]
    by_cases e : j = q.length
    · rw [if_pos (by omega), if_pos (by omega), e]
      refine ⟨?_, rfl⟩
      rw [List.getD_eq_getElem?_getD, List.getElem?_append_right (by omega), Nat.sub_self]; rfl
    · rw [if_neg (by omega), if_neg (by omega), List.getD_eq_getElem?_getD, List.getElem?_append_left (by omega), ← List.getD_eq_getElem?_getD]
      exact h9 j (by omega)
/-- the reference notes it -/
theorem em_rn {o : Nat} (h : em L N c0 a0 cm m (o :: q) ty P) (t' : Nat) (ho : 2 ≤ o ∧ o ≤ 10) (T : (2 ≤ o ∧ o ≤ 6 → 2 ≤ ty cm ∧ ty cm ≤ 31 ∧ t' + 1 = ty cm) ∧ (7 ≤ o ∧ o ≤ 9 → ty cm = 2 ∧ t' = 100) ∧ (o = 10 → ty cm = 100 ∧ t' = 100)) : em L (ntN N cm (zI (1048576 * o + 0))) c0 a0 (cm + 1) m q (tyU ty (cm + 1) t') P := by
  obtain ⟨⟨h1, h2, h3, h4, h5, h6⟩, h7, h8, h9⟩ := h
  have hl : (o :: q).length = q.length + 1 := rfl
  have h0 := h9 0 (by rw [hl]; omega)
  have h0 : L.2 5 (c0 + (cm - a0)) = zI (sgOf o) ∧ L.2 6 (c0 + (cm - a0)) = 0 := h0
  refine ⟨⟨sI_s _ _ _, h2, h3, by omega, by rw [hl] at h5; omega, ?_⟩, fun k k1 k2 => ?_, fun k hk => ?_, fun j hj => ?_⟩
  · rw [tyU_o _ _ (by omega)]; exact h6
  · by_cases e : k = cm
    · subst e
      refine ⟨o, 0, ⟨by omega, by omega, by omega⟩, h0.1, by rw [nt18, if_pos rfl], fun h => by omega, fun h => rfl, ?_, fun _ => ⟨?_, fun h => by omega⟩, fun hp => absurd (h8 _ hp) (by omega)⟩
      · rw [tyU_o _ _ (show k ≠ k + 1 by omega), tyU_s]
        exact ⟨fun h => by omega, T.1, T.2.1, T.2.2, fun h => by omega⟩
      · rw [h0.2, if_neg (by omega)]; rfl
    · exact (h7 k k1 (by omega)).mv k1 (by omega) (by omega) rfl rfl (by rw [nt18, if_neg e]) (fun j hj => tyU_o _ _ (by omega)) Iff.rfl
  · have := h8 k hk; omega
  · have hj' := h9 (j + 1) (by rw [hl]; omega)
    have e : c0 + (cm + 1 - a0) + j = c0 + (cm - a0) + (j + 1) := by omega
    rw [e]; exact hj'
/-- a jump, on both sides -/
theorem em_jp (h : em L N c0 a0 cm m [] ty P) {o : Nat} (ho : o = 11 ∨ o = 12) (ht : ty cm = 100) : em (wrL L m (zI (sgOf o)) 0) (ntN N cm (zI (1048576 * o + 0))) c0 a0 (cm + 1) (m + 1) [] (tyU ty (cm + 1) 0) (fun k => P k ∨ k = cm) := by
  obtain ⟨⟨h1, h2, h3, h4, h5, h6⟩, h7, h8, -⟩ := h
  have hm : m = c0 + (cm - a0) := h5
  refine ⟨⟨sI_s _ _ _, sI_s _ _ _, h3, by omega, by show m + 1 = c0 + (cm + 1 - a0) + 0; omega, ?_⟩, fun k k1 k2 => ?_, fun k hk => ?_, fun j hj => absurd hj (Nat.not_lt_zero j)⟩
  · rw [tyU_o _ _ (by omega)]; exact h6
  · by_cases e : k = cm
    · subst e
      refine ⟨o, 0, ⟨by omega, by omega, by omega⟩, by rw [wr5, if_pos (by omega)], by rw [nt18, if_pos rfl], fun h => by omega, fun h => rfl, ⟨fun h => by omega, fun h => by omega, fun h => by omega, fun h => by omega, fun _ => ?_⟩, fun hp => absurd (Or.inr rfl) hp, fun _ => ⟨by omega, rfl⟩⟩
      rw [tyU_o _ _ (by omega), tyU_s]; exact ⟨ht, rfl⟩
    · exact (h7 k k1 (by omega)).mv k1 (by omega) (by omega) (by rw [wr5, if_neg (by omega)]) (by rw [wr6, if_neg (by omega)]) (by rw [nt18, if_neg e]) (fun j hj => tyU_o _ _ (by omega)) ⟨fun h => h.resolve_right e, Or.inl⟩
  · rcases hk with hk | hk
    · have := h8 k hk; omega
    · omega
/-- the class lands a jump -/
theorem em_cl (h : em L N c0 a0 cm m q ty P) {k : Nat} (hk : P k) (x : Int32) : em (sA L 6 (c0 + (k - a0)) x) N c0 a0 cm m q ty P := by
  obtain ⟨⟨h1, h2, h3, h4, h5, h6⟩, h7, h8, h9⟩ := h
  have hb := h8 k hk
  refine ⟨⟨h1, h2, h3, h4, h5, h6⟩, fun j j1 j2 => ?_, h8, fun j hj => ?_⟩
  · by_cases e : j = k
    · obtain ⟨o, v, r1, r2, r3, r4, r5, r6, r7, r8⟩ := h7 j j1 j2
      exact ⟨o, v, r1, by rw [sA_o _ _ _ _ _ (by omega)]; exact r2, r3, r4, r5, r6, fun hp => absurd (e ▸ hk) hp, r8⟩
    · exact (h7 j j1 j2).mv j1 j2 (by omega) (by rw [sA_o _ _ _ _ _ (by omega)]) (by rw [sA_s, if_neg (by omega)]) rfl (fun _ _ => rfl) Iff.rfl
  · rw [sA_o _ _ _ _ _ (by omega), sA_s, if_neg (by omega)]; exact h9 j hj
/-- the reference lands it -/
theorem em_rl (h : em L N c0 a0 cm m [] ty P) {k : Nat} (hk : P k) (ht : ty cm = 100) (hcm : cm ≤ 260) (hv : L.2 6 (c0 + (k - a0)) = zI ((c0 + (cm - a0) : Nat) : Int)) : ∃ o : Nat, (o = 11 ∨ o = 12) ∧ N.2 18 k = zI (1048576 * o + 0) ∧ em L (sA N 18 k (zI (1048576 * o + cm))) c0 a0 cm m [] ty (fun j => P j ∧ j ≠ k) := by
  obtain ⟨⟨h1, h2, h3, h4, h5, h6⟩, h7, h8, h9⟩ := h
  have hb := h8 k hk
  obtain ⟨o, v, r1, r2, r3, r4, r5, r6, r7, r8⟩ := h7 k hb.1 hb.2
  obtain ⟨u1, u2⟩ := r8 hk
  subst u2
  refine ⟨o, by omega, r3, ⟨⟨h1, h2, h3, h4, h5, h6⟩, fun j j1 j2 => ?_, fun j hj => h8 j hj.1, fun j hj => absurd hj (Nat.not_lt_zero j)⟩⟩
  by_cases e : j = k
  · subst e
    refine ⟨o, cm, ⟨by omega, by omega, by omega⟩, r2, by rw [sA_s, if_pos rfl], fun h => by omega, fun h => by omega, r6, fun _ => ⟨?_, fun _ => ⟨by omega, by omega, ht⟩⟩, fun hp => absurd rfl hp.2⟩
    rw [hv, if_pos (by omega)]; congr 1; omega
  · exact (h7 j j1 j2).mv j1 j2 (by omega) rfl rfl (by rw [sA_s, if_neg e]) (fun _ _ => rfl) ⟨fun h => h.1, fun h => ⟨h, e⟩⟩
end
/-! numbers of five digits -/
section
variable {b : Nat → Int} {n : Nat}
theorem five_lp (hb : txB b n) {i : Nat} : ∀ (d m f f' : Nat) (X N : Gr) (v : Int), m + d = 5 → 1 ≤ m → d < f → d < f' → txR X N b n (i + m) → N.1 12 = zI v → 0 ≤ v → v < 10 ^ m → ∃ (X' N' : Gr) (i' : Nat), (∀ j, j ≠ 9 → j ≠ 11 → j ≠ 12 → N'.1 j = N.1 j) ∧ N'.2 = N.2 ∧ ((∃ v' : Int, i + m ≤ i' ∧ txR X' N' b n i' ∧ 0 ≤ v' ∧ v' ≤ 99999 ∧ N'.1 12 = zI v' ∧ f_X9_number_n10 5 f X (zI i) (zI v) (zI m) = some (zI v', X') ∧ f_X12_readsNumber_n10 f' N (zI i) = some (1, N')) ∨ (flR X' N' ∧ f_X12_readsNumber_n10 f' N (zI i) = some (0, N') ∧ f_X9_number_n10 5 f X (zI i) (zI v) (zI m) = some (-1, X'))) := by
  have hn := hb.1
  have e5 : (5 : Int32) = zI ((5 : Nat) : Int) := rfl
  have pw : ∀ m : Nat, m ≤ 5 → (10 : Int) ^ m ≤ 100000 := fun m hm => by
    have : m = 0 ∨ m = 1 ∨ m = 2 ∨ m = 3 ∨ m = 4 ∨ m = 5 := by omega
    rcases this with rfl | rfl | rfl | rfl | rfl | rfl <;> decide
  have fin : ∀ (m f' : Nat) (X N : Gr) (v : Int), 1 ≤ m → m ≤ 5 → txR X N b n (i + m) → ¬ (48 ≤ cu b n (i + m) ∧ cu b n (i + m) ≤ 57) → N.1 12 = zI v → 0 ≤ v → v < 10 ^ m → ∃ (X' N' : Gr) (i' : Nat), (∀ j, j ≠ 9 → j ≠ 11 → j ≠ 12 → N'.1 j = N.1 j) ∧ N'.2 = N.2 ∧ ((∃ v' : Int, i + m ≤ i' ∧ txR X' N' b n i' ∧ 0 ≤ v' ∧ v' ≤ 99999 ∧ N'.1 12 = zI v' ∧ f_X9_number_n50 5 X (zI i) (zI v) = some (zI v', X') ∧ f_X12_readsNumber_n10 (f' + 1) N (zI i) = some (1, N')) ∨ (flR X' N' ∧ f_X12_readsNumber_n10 (f' + 1) N (zI i) = some (0, N') ∧ f_X9_number_n50 5 X (zI i) (zI v) = some (-1, X'))) := by
    intro m f' X N v hm hm2 h hd hv v0 v1
    have hi' := h.1
    have := pw m hm2
    obtain ⟨d1, d2⟩ := isD_b hb h
    rw [decide_eq_false hd] at d1 d2
    have c1 : ¬ X.1 2 = zI i := by rw [h.2.1.2.1, eqN (by omega) (by omega)]; omega
    have hc : f_X9_number_n50 5 X (zI i) (zI v) = some (zI v, X) := by
      unfold f_X9_number_n50
      rw [if_neg c1, d2, bd_s, b2_f, i00]
    rw [f_X12_readsNumber_n10, d1, bd_s, b2_f, i00, hc]
    exact ⟨X, N, i + m, fun _ _ _ _ => rfl, rfl, Or.inl ⟨v, by omega, h, v0, by omega, hv, rfl, rfl⟩⟩
  intro d
  induction d with
  | zero =>
    intro m f f' X N v hm hm1 hf hf' h hv v0 v1
    obtain ⟨f, rfl⟩ : ∃ k, f = k + 1 := ⟨f - 1, by omega⟩
    obtain ⟨f', rfl⟩ : ∃ k, f' = k + 1 := ⟨f' - 1, by omega⟩
    have em : m = 5 := by omega
    subst em
    have hi' := h.1
    have hc : (5 : Int32) ≤ zI ((5 : Nat) : Int) := by decide
    rw [f_X9_number_n10, if_pos hc]
    by_cases hd : 48 ≤ cu b n (i + 5) ∧ cu b n (i + 5) ≤ 57
    · obtain ⟨d1, d2⟩ := isD_b hb h
      rw [decide_eq_true hd] at d1 d2
      have c1 : ¬ X.1 2 = zI i := by rw [h.2.1.2.1, eqN (by omega) (by omega)]; omega
      have c2 : N.1 9 = zI i + 5 := by rw [h.2.2.1, e5, zaN]
      have w1 : f_X12_wrongAt N 2 (N.1 9) = _ := wro_b h 2
      have w2 : f_X9_failAt X 2 (zI ((i + 5 : Nat) : Int)) = _ := fat_b h 2 (i + 5)
      unfold f_X9_number_n50
      rw [if_neg c1, d2, bd_s, b2_t, i10, h.2.1.2.1, w2, bd_s, f_X12_readsNumber_n10, d1, bd_s, b2_t, i10, if_pos c2, w1, bd_s, zb_0]
      exact ⟨_, _, 0, fun j a b c => sI_o _ _ _ _ b, rfl, Or.inr ⟨fl_of X N (by omega) (by omega) (by omega), rfl, rfl⟩⟩
    · exact fin 5 f' X N v (by omega) (by omega) h hd hv v0 v1
  | succ d ih =>
    intro m f f' X N v hm hm1 hf hf' h hv v0 v1
    obtain ⟨f, rfl⟩ : ∃ k, f = k + 1 := ⟨f - 1, by omega⟩
    obtain ⟨f', rfl⟩ : ∃ k, f' = k + 1 := ⟨f' - 1, by omega⟩
    have hi' := h.1
    have hc : ¬ (5 : Int32) ≤ zI (m : Int) := by rw [e5, leN (by omega) (by omega)]; omega
    obtain ⟨d1, d2⟩ := isD_b hb h
    rw [f_X9_number_n10, if_neg hc]
    by_cases hd : 48 ≤ cu b n (i + m) ∧ cu b n (i + m) ≤ 57
    · have hlt : i + m < n := cu_lt (b := b) (by omega)
      have c2 : ¬ N.1 9 = zI i + 5 := by rw [h.2.2.1, e5, zaN, eqN (by omega) (by omega)]; omega
      rw [decide_eq_true hd] at d1 d2
      have e10 : (10 : Int32) = zI 10 := rfl
      have e48 : (48 : Int32) = zI 48 := rfl
      have ev : (zI v * 10 + zI (cu b n (i + m))) - 48 = zI (10 * v + cu b n (i + m) - 48) := by rw [e10, e48, zI_mul, zI_add, zI_sub]; congr 1; omega
      have ev2 : (10 * zI v + zI (cu b n (i + m))) - 48 = zI (10 * v + cu b n (i + m) - 48) := by rw [e10, e48, zI_mul, zI_add, zI_sub]
      have e9 : (sI N 12 (zI (10 * v + cu b n (i + m) - 48))).1 9 = zI ((i + m : Nat) : Int) := by rw [sI_o _ _ _ _ (by omega)]; exact h.2.2.1
      have hp : (10 : Int) ^ (m + 1) = 10 ^ m * 10 := Int.pow_succ 10 m
      rw [d2, bd_s, b2_t, i10, peek_b hb h, bd_s, ev, lt_e, stp_b hb h hlt, bd_s, lt_e, zs1, f_X12_readsNumber_n10, d1, bd_s, b2_t, i10, if_neg c2, here_b hb h, bd_s, hv, ev2, lt_e, e9, zs1, lt_e]
      obtain ⟨X', N', i', q1, q2, q3⟩ := ih (m + 1) f f' (sI X 2 (zI ((i + m + 1 : Nat) : Int))) (sI (sI N 12 (zI (10 * v + cu b n (i + m) - 48))) 9 (zI ((i + m + 1 : Nat) : Int))) (10 * v + cu b n (i + m) - 48) (by omega) (by omega) (by omega) (by omega) (h.nx hlt (sI_s _ _ _) rfl rfl) (by rw [sI_o _ _ _ _ (by omega), sI_s]) (by omega) (by omega)
      refine ⟨X', N', i', fun j a b c => by rw [q1 j a b c, sI_o _ _ _ _ a, sI_o _ _ _ _ c], q2, ?_⟩
      rcases q3 with ⟨v', r1, r2⟩ | r
      · exact Or.inl ⟨v', by omega, r2⟩
      · exact Or.inr r
    · rw [decide_eq_false hd] at d2
      rw [d2, bd_s, b2_f, i00]
      exact fin m f' X N v (by omega) (by omega) h hd hv v0 v1
theorem num5_b (hb : txB b n) {X N : Gr} {i : Nat} (h : txR X N b n i) (hd : 48 ≤ cu b n i ∧ cu b n i ≤ 57) : ∃ (X' N' : Gr) (i' : Nat), (∀ j, j ≠ 9 → j ≠ 11 → j ≠ 12 → N'.1 j = N.1 j) ∧ N'.2 = N.2 ∧ ((∃ v' : Int, i < i' ∧ txR X' N' b n i' ∧ 0 ≤ v' ∧ v' ≤ 99999 ∧ N'.1 12 = zI v' ∧ f_X9_number X 5 = some (zI v', X') ∧ f_X12_readsNumber N = some (1, N')) ∨ (flR X' N' ∧ f_X12_readsNumber N = some (0, N') ∧ f_X9_number X 5 = some (-1, X'))) := by
  have hn := hb.1
  have hi' := h.1
  have eX2 : X.1 2 = zI i := h.2.1.2.1
  have d2 := (isD_b hb h).2
  have hlt : i < n := cu_lt (b := b) (by omega)
  rw [decide_eq_true hd] at d2
  have e10 : (10 : Int32) = zI 10 := rfl
  have e48 : (48 : Int32) = zI 48 := rfl
  have e0 : (0 : Int32) = zI 0 := rfl
  have ev : ((0 : Int32) * 10 + zI (cu b n i)) - 48 = zI (cu b n i - 48) := by rw [e0, e10, e48, zI_mul, zI_add, zI_sub]; congr 1; omega
  have ev2 : (10 * (0 : Int32) + zI (cu b n i)) - 48 = zI (cu b n i - 48) := by rw [e0, e10, e48, zI_mul, zI_add, zI_sub]; congr 1; omega
  have h' : txR (sI X 2 (zI ((i + 1 : Nat) : Int))) (sI (sI (sI N 12 0) 12 (zI (cu b n i - 48))) 9 (zI ((i + 1 : Nat) : Int))) b n (i + 1) := h.nx hlt (sI_s _ _ _) rfl rfl
  have p10 : (10 : Int) ^ 1 = 10 := rfl
  obtain ⟨X', N', i', q1, q2, q3⟩ := five_lp hb 4 1 999 999 _ _ (cu b n i - 48) (by omega) (by omega) (by omega) (by omega) h' (by rw [sI_o _ _ _ _ (by omega), sI_s]) (by omega) (by omega)
  have hN : f_X9_number X 5 = f_X9_number_n10 5 999 (sI X 2 (zI ((i + 1 : Nat) : Int))) (zI i) (zI (cu b n i - 48)) (zI ((1 : Nat) : Int)) := by
    have hc : ¬ (5 : Int32) ≤ 0 := by decide
    unfold f_X9_number
    rw [lt_e, eX2, fuS, f_X9_number_n10, if_neg hc, d2, bd_s, b2_t, i10, peek_b hb h, bd_s, ev, lt_e, stp_b hb h hlt, bd_s, lt_e]
    rfl
  have hM : f_X12_readsNumber N = f_X12_readsNumber_n10 999 (sI (sI (sI N 12 0) 12 (zI (cu b n i - 48))) 9 (zI ((i + 1 : Nat) : Int))) (zI i) := by
    have h2 : txR X (sI N 12 0) b n i := h.nm rfl rfl rfl
    have c2 : ¬ (sI N 12 0).1 9 = zI i + 5 := by
      have e5 : (5 : Int32) = zI ((5 : Nat) : Int) := rfl
      rw [h2.2.2.1, e5, zaN, eqN (by omega) (by omega)]; omega
    have e9 : (sI (sI N 12 0) 12 (zI (cu b n i - 48))).1 9 = zI i := by rw [sI_o _ _ _ _ (by omega)]; exact h2.2.2.1
    have d3 := (isD_b hb h2).1
    rw [decide_eq_true hd] at d3
    unfold f_X12_readsNumber
    rw [lt_e, lt_e, h.2.2.1, fuS, f_X12_readsNumber_n10, d3, bd_s, b2_t, i10, if_neg c2, here_b hb h2, bd_s, sI_s, ev2, lt_e, e9, zs1, lt_e]
  rw [hN, hM]
  refine ⟨X', N', i', fun j a b c => by rw [q1 j a b c, sI_o _ _ _ _ a, sI_o _ _ _ _ c, sI_o _ _ _ _ c], q2, ?_⟩
  rcases q3 with ⟨v', r1, r2⟩ | r
  · exact Or.inl ⟨v', by omega, r2⟩
  · exact Or.inr r
end
