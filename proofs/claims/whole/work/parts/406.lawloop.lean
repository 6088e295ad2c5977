def PureOK (I : (Nat → Gr) → Gr → Prop) : Prop := hp_tension I ∧ hp_feed I ∧ hp_law I ∧ hp_chart I ∧ hp_hours I ∧ hp_tried I ∧ hp_webIs I ∧ hp_fleetIs I ∧ hp_feels I ∧ hp_when I ∧ hp_fix I ∧ hp_bearings I ∧ hp_allTheSea I ∧ hp_quiet I ∧ hp_nearest I ∧ hp_share I ∧ hp_log I ∧ hp_inCommon I ∧ hp_code I ∧ hp_crawls I ∧ hp_hangs I ∧ hp_smoothed I ∧ hp_spell I ∧ hp_salutes I ∧ hp_rent I ∧ hp_seed I ∧ hp_keep I ∧ hp_undo I ∧ hp_check I ∧ hp_count I
set_option maxHeartbeats 4000000 in
set_option maxRecDepth 100000 in
theorem law_loop {p : Program} {l : Launch} {e : Env} {s : State} {m : MethodId} {below : List Frame} {meth : Method} {c : Code} {E : Ec} {b L : Nat} {xs : Nat → Int32} {I : (Nat → Gr) → Gr → Prop} (hL : L ≤ 3072) (C0 : lw_At p s m meth c b L xs) (X : ctX E (fun q : Nat => s.heap.size ≤ q) s) (PK : PureOK I) : ∀ (n i : Nat) (x3 : Int32), i ≤ L → L + 6 ≤ i + n → x3 = nI i → ∀ (q : Nat → Nat → Nat) (C : Nat → Gr) (M : Gr) (H : Heap) (locs : List Loc) (ls : Array Slot), I C M → sP E (gsL E q C M) H → sD (fun q : Nat => s.heap.size ≤ q) (gsL E q C M) → va_S (fun q : Nat => s.heap.size ≤ q) s.heap H locs → lv_has ls 4 [(0, .ref b), (1, .ref (q 0 0)), (2, .ref (q 16 0)), (3, .int x3)] → W p l e room_1 s m #[Value.ref b] below meth c H locs 600000 7302250 (lw_Z below #[Value.ref b] s) (F0 m 18 ls []) := by
  obtain ⟨hx, hb, hr, hml, hown, hts, hX, hbl, hlocks, hgv⟩ := id C0
  have hbA : ¬ (fun q : Nat => s.heap.size ≤ q) b := Nat.not_le.mpr hbl
  obtain ⟨P0, P1, P2, P3, P4, P5, P6, P7, P8, P9, P10, P11, P12, P13, P14, P15, P16, P17, P18, P19, P20, P21, P22, P23, P24, P25, P26, P27, P28, P29⟩ := PK
  intro n
  induction n with
  | zero => intro i x3 h1 h2; exact absurd h2 (by omega)
  | succ n ih =>
    intro i x3 hi0 hin ex q C M H locs ls hI hP hD hS hl
    refine lv_iload_n hx hb dL_law_18 rfl (lv_at hl 3 rfl) ?_
    refine lv_aload_n hx hb dL_law_19 rfl (lv_at hl 0 rfl) ?_
    refine va_slen hx hb hX hbl hbA hS dL_law_20 ?_
    refine lv_bipush (v := 6) hx hb dL_law_21 (by decide) ?_
    refine lv_isub hx hb dL_law_23 ?_
    refine lv_icmp_gt (tgt := 1115) hx hb dL_law_24 (by decide) (fun c9 => ?_) (fun c9 => ?_)
    · refine lv_iconst (v := 1) hx hb dL_law_1115 (by decide) ?_
      refine va_forget (fun q hq => hS.2.2 q hq) ?_
      exact lw_ret hx hb hr hlocks dL_law_1116
    · have hi : i + 6 ≤ L := lw_room6 hL (by omega) (by rw [ex] at c9; exact c9)
      have KK : ∀ (q : Nat → Nat → Nat) (C : Nat → Gr) (M : Gr) (H : Heap) (locs : List Loc) (ls : Array Slot), I C M → sP E (gsL E q C M) H → sD (fun q : Nat => s.heap.size ≤ q) (gsL E q C M) → va_S (fun q : Nat => s.heap.size ≤ q) s.heap H locs → lv_has ls 4 [(0, .ref b), (1, .ref (q 0 0)), (2, .ref (q 16 0)), (3, .int x3)] → W p l e room_1 s m #[Value.ref b] below meth c H locs 600000 7302250 (lw_Z below #[Value.ref b] s) (F0 m 1109 ls []) := by
        intro q C M H locs ls hI hP hD hS hl
        obtain ⟨x9, ex9⟩ : ∃ y : Int32, y = x3 + 6 := ⟨_, rfl⟩
        refine lv_iinc (v := x9) (lv' := [(3, .int x9), (0, .ref b), (1, .ref (q 0 0)), (2, .ref (q 16 0))]) hx hb dL_law_1109 hl (k := 3) rfl (by rw [ex9]; rfl) (by decide) rfl (fun ls hl => ?_)
        refine lv_goto (tgt := 18) hx hb dL_law_1112 (by decide) ?_
        exact ih (i + 6) x9 hi (by omega) (by rw [ex9, ex]; exact nI_add i 6) q C M H locs ls hI hP hD hS (lv_sub hl [1, 2, 3, 0] rfl)
      refine lv_aload_n hx hb dL_law_27 rfl (lv_at hl 0 rfl) ?_
      refine lv_iload_n hx hb dL_law_28 rfl (lv_at hl 3 rfl) ?_
      refine va_sld hx hb hX hbl hbA hS (lw_at0 ex hi hL) dL_law_29 ?_
      refine lv_bipush (v := 31) hx hb dL_law_30 (by decide) ?_
      refine lv_iand hx hb dL_law_32 ?_
      refine lv_topi (fun z ez => ?_)
      clear ez
      by_cases z0 : z = 0
      · refine lv_tableIn (tgt := 168) hx hb dL_law_33 (by rw [z0]; decide) (by rw [z0]; decide) (by rw [z0] <;> rfl) (by decide) ?_
        exact law_tension hL C0 X P0 ex hi q C M hI H locs ls hP hD hS hl KK
      by_cases z1 : z = 1
      · refine lv_tableIn (tgt := 211) hx hb dL_law_33 (by rw [z1]; decide) (by rw [z1]; decide) (by rw [z1] <;> rfl) (by decide) ?_
        exact law_feed hL C0 X P1 ex hi q C M hI H locs ls hP hD hS hl KK
      by_cases z2 : z = 2
      · refine lv_tableIn (tgt := 274) hx hb dL_law_33 (by rw [z2]; decide) (by rw [z2]; decide) (by rw [z2] <;> rfl) (by decide) ?_
        exact law_law hL C0 X P2 ex hi q C M hI H locs ls hP hD hS hl KK
      by_cases z3 : z = 3
      · refine lv_tableIn (tgt := 297) hx hb dL_law_33 (by rw [z3]; decide) (by rw [z3]; decide) (by rw [z3] <;> rfl) (by decide) ?_
        exact law_chart hL C0 X P3 ex hi q C M hI H locs ls hP hD hS hl KK
      by_cases z4 : z = 4
      · refine lv_tableIn (tgt := 320) hx hb dL_law_33 (by rw [z4]; decide) (by rw [z4]; decide) (by rw [z4] <;> rfl) (by decide) ?_
        exact law_hours hL C0 X P4 ex hi q C M hI H locs ls hP hD hS hl KK
      by_cases z5 : z = 5
      · refine lv_tableIn (tgt := 343) hx hb dL_law_33 (by rw [z5]; decide) (by rw [z5]; decide) (by rw [z5] <;> rfl) (by decide) ?_
        exact law_tried hL C0 X P5 ex hi q C M hI H locs ls hP hD hS hl KK
      by_cases z6 : z = 6
      · refine lv_tableIn (tgt := 376) hx hb dL_law_33 (by rw [z6]; decide) (by rw [z6]; decide) (by rw [z6] <;> rfl) (by decide) ?_
        exact law_webIs hL C0 X P6 ex hi q C M hI H locs ls hP hD hS hl KK
      by_cases z7 : z = 7
      · refine lv_tableIn (tgt := 409) hx hb dL_law_33 (by rw [z7]; decide) (by rw [z7]; decide) (by rw [z7] <;> rfl) (by decide) ?_
        exact law_fleetIs hL C0 X P7 ex hi q C M hI H locs ls hP hD hS hl KK
      by_cases z8 : z = 8
      · refine lv_tableIn (tgt := 442) hx hb dL_law_33 (by rw [z8]; decide) (by rw [z8]; decide) (by rw [z8] <;> rfl) (by decide) ?_
        exact law_feels hL C0 X P8 ex hi q C M hI H locs ls hP hD hS hl KK
      by_cases z9 : z = 9
      · refine lv_tableIn (tgt := 475) hx hb dL_law_33 (by rw [z9]; decide) (by rw [z9]; decide) (by rw [z9] <;> rfl) (by decide) ?_
        exact law_when hL C0 X P9 ex hi q C M hI H locs ls hP hD hS hl KK
      by_cases z10 : z = 10
      · refine lv_tableIn (tgt := 518) hx hb dL_law_33 (by rw [z10]; decide) (by rw [z10]; decide) (by rw [z10] <;> rfl) (by decide) ?_
        exact law_fix hL C0 X P10 ex hi q C M hI H locs ls hP hD hS hl KK
      by_cases z11 : z = 11
      · refine lv_tableIn (tgt := 551) hx hb dL_law_33 (by rw [z11]; decide) (by rw [z11]; decide) (by rw [z11] <;> rfl) (by decide) ?_
        exact law_bearings hL C0 X P11 ex hi q C M hI H locs ls hP hD hS hl KK
      by_cases z12 : z = 12
      · refine lv_tableIn (tgt := 604) hx hb dL_law_33 (by rw [z12]; decide) (by rw [z12]; decide) (by rw [z12] <;> rfl) (by decide) ?_
        exact law_allTheSea hL C0 X P12 ex hi q C M hI H locs ls hP hD hS hl KK
      by_cases z13 : z = 13
      · refine lv_tableIn (tgt := 637) hx hb dL_law_33 (by rw [z13]; decide) (by rw [z13]; decide) (by rw [z13] <;> rfl) (by decide) ?_
        exact law_quiet hL C0 X P13 ex hi q C M hI H locs ls hP hD hS hl KK
      by_cases z14 : z = 14
      · refine lv_tableIn (tgt := 670) hx hb dL_law_33 (by rw [z14]; decide) (by rw [z14]; decide) (by rw [z14] <;> rfl) (by decide) ?_
        exact law_nearest hL C0 X P14 ex hi q C M hI H locs ls hP hD hS hl KK
      by_cases z15 : z = 15
      · refine lv_tableIn (tgt := 703) hx hb dL_law_33 (by rw [z15]; decide) (by rw [z15]; decide) (by rw [z15] <;> rfl) (by decide) ?_
        exact law_share hL C0 X P15 ex hi q C M hI H locs ls hP hD hS hl KK
      by_cases z16 : z = 16
      · refine lv_tableIn (tgt := 726) hx hb dL_law_33 (by rw [z16]; decide) (by rw [z16]; decide) (by rw [z16] <;> rfl) (by decide) ?_
        exact law_log hL C0 X P16 ex hi q C M hI H locs ls hP hD hS hl KK
      by_cases z17 : z = 17
      · refine lv_tableIn (tgt := 759) hx hb dL_law_33 (by rw [z17]; decide) (by rw [z17]; decide) (by rw [z17] <;> rfl) (by decide) ?_
        exact law_inCommon hL C0 X P17 ex hi q C M hI H locs ls hP hD hS hl KK
      by_cases z18 : z = 18
      · refine lv_tableIn (tgt := 792) hx hb dL_law_33 (by rw [z18]; decide) (by rw [z18]; decide) (by rw [z18] <;> rfl) (by decide) ?_
        exact law_code hL C0 X P18 ex hi q C M hI H locs ls hP hD hS hl KK
      by_cases z19 : z = 19
      · refine lv_tableIn (tgt := 825) hx hb dL_law_33 (by rw [z19]; decide) (by rw [z19]; decide) (by rw [z19] <;> rfl) (by decide) ?_
        exact law_crawls hL C0 X P19 ex hi q C M hI H locs ls hP hD hS hl KK
      by_cases z20 : z = 20
      · refine lv_tableIn (tgt := 868) hx hb dL_law_33 (by rw [z20]; decide) (by rw [z20]; decide) (by rw [z20] <;> rfl) (by decide) ?_
        exact law_hangs hL C0 X P20 ex hi q C M hI H locs ls hP hD hS hl KK
      by_cases z21 : z = 21
      · refine lv_tableIn (tgt := 892) hx hb dL_law_33 (by rw [z21]; decide) (by rw [z21]; decide) (by rw [z21] <;> rfl) (by decide) ?_
        exact law_smoothed hL C0 X P21 ex hi q C M hI H locs ls hP hD hS hl KK
      by_cases z22 : z = 22
      · refine lv_tableIn (tgt := 925) hx hb dL_law_33 (by rw [z22]; decide) (by rw [z22]; decide) (by rw [z22] <;> rfl) (by decide) ?_
        exact law_spell hL C0 X P22 ex hi q C M hI H locs ls hP hD hS hl KK
      by_cases z23 : z = 23
      · refine lv_tableIn (tgt := 958) hx hb dL_law_33 (by rw [z23]; decide) (by rw [z23]; decide) (by rw [z23] <;> rfl) (by decide) ?_
        exact law_salutes hL C0 X P23 ex hi q C M hI H locs ls hP hD hS hl KK
      by_cases z24 : z = 24
      · refine lv_tableIn (tgt := 981) hx hb dL_law_33 (by rw [z24]; decide) (by rw [z24]; decide) (by rw [z24] <;> rfl) (by decide) ?_
        exact law_rent hL C0 X P24 ex hi q C M hI H locs ls hP hD hS hl KK
      by_cases z25 : z = 25
      · refine lv_tableIn (tgt := 1014) hx hb dL_law_33 (by rw [z25]; decide) (by rw [z25]; decide) (by rw [z25] <;> rfl) (by decide) ?_
        exact law_seed hL C0 X P25 ex hi q C M hI H locs ls hP hD hS hl KK
      by_cases z26 : z = 26
      · refine lv_tableIn (tgt := 1037) hx hb dL_law_33 (by rw [z26]; decide) (by rw [z26]; decide) (by rw [z26] <;> rfl) (by decide) ?_
        exact law_keep hL C0 X P26 ex hi q C M hI H locs ls hP hD hS hl KK
      by_cases z27 : z = 27
      · refine lv_tableIn (tgt := 1050) hx hb dL_law_33 (by rw [z27]; decide) (by rw [z27]; decide) (by rw [z27] <;> rfl) (by decide) ?_
        exact law_undo hL C0 X P27 ex hi q C M hI H locs ls hP hD hS hl KK
      by_cases z28 : z = 28
      · refine lv_tableIn (tgt := 1063) hx hb dL_law_33 (by rw [z28]; decide) (by rw [z28]; decide) (by rw [z28] <;> rfl) (by decide) ?_
        exact law_check hL C0 X P28 ex hi q C M hI H locs ls hP hD hS hl KK
      by_cases z29 : z = 29
      · refine lv_tableIn (tgt := 1086) hx hb dL_law_33 (by rw [z29]; decide) (by rw [z29]; decide) (by rw [z29] <;> rfl) (by decide) ?_
        exact law_count hL C0 X P29 ex hi q C M hI H locs ls hP hD hS hl KK
      have ho : z.toInt < 0 ∨ 29 < z.toInt := by
        by_cases h1 : z.toInt < 0
        · exact Or.inl h1
        by_cases h2 : 29 < z.toInt
        · exact Or.inr h2
        have h3 : z.toInt = 0 ∨ z.toInt = 1 ∨ z.toInt = 2 ∨ z.toInt = 3 ∨ z.toInt = 4 ∨ z.toInt = 5 ∨ z.toInt = 6 ∨ z.toInt = 7 ∨ z.toInt = 8 ∨ z.toInt = 9 ∨ z.toInt = 10 ∨ z.toInt = 11 ∨ z.toInt = 12 ∨ z.toInt = 13 ∨ z.toInt = 14 ∨ z.toInt = 15 ∨ z.toInt = 16 ∨ z.toInt = 17 ∨ z.toInt = 18 ∨ z.toInt = 19 ∨ z.toInt = 20 ∨ z.toInt = 21 ∨ z.toInt = 22 ∨ z.toInt = 23 ∨ z.toInt = 24 ∨ z.toInt = 25 ∨ z.toInt = 26 ∨ z.toInt = 27 ∨ z.toInt = 28 ∨ z.toInt = 29 := by omega
        rcases h3 with h3 | h3 | h3 | h3 | h3 | h3 | h3 | h3 | h3 | h3 | h3 | h3 | h3 | h3 | h3 | h3 | h3 | h3 | h3 | h3 | h3 | h3 | h3 | h3 | h3 | h3 | h3 | h3 | h3 | h3
        · exact absurd (Int32.toInt_inj.mp (h3.trans (by decide))) z0
        · exact absurd (Int32.toInt_inj.mp (h3.trans (by decide))) z1
        · exact absurd (Int32.toInt_inj.mp (h3.trans (by decide))) z2
        · exact absurd (Int32.toInt_inj.mp (h3.trans (by decide))) z3
        · exact absurd (Int32.toInt_inj.mp (h3.trans (by decide))) z4
        · exact absurd (Int32.toInt_inj.mp (h3.trans (by decide))) z5
        · exact absurd (Int32.toInt_inj.mp (h3.trans (by decide))) z6
        · exact absurd (Int32.toInt_inj.mp (h3.trans (by decide))) z7
        · exact absurd (Int32.toInt_inj.mp (h3.trans (by decide))) z8
        · exact absurd (Int32.toInt_inj.mp (h3.trans (by decide))) z9
        · exact absurd (Int32.toInt_inj.mp (h3.trans (by decide))) z10
        · exact absurd (Int32.toInt_inj.mp (h3.trans (by decide))) z11
        · exact absurd (Int32.toInt_inj.mp (h3.trans (by decide))) z12
        · exact absurd (Int32.toInt_inj.mp (h3.trans (by decide))) z13
        · exact absurd (Int32.toInt_inj.mp (h3.trans (by decide))) z14
        · exact absurd (Int32.toInt_inj.mp (h3.trans (by decide))) z15
        · exact absurd (Int32.toInt_inj.mp (h3.trans (by decide))) z16
        · exact absurd (Int32.toInt_inj.mp (h3.trans (by decide))) z17
        · exact absurd (Int32.toInt_inj.mp (h3.trans (by decide))) z18
        · exact absurd (Int32.toInt_inj.mp (h3.trans (by decide))) z19
        · exact absurd (Int32.toInt_inj.mp (h3.trans (by decide))) z20
        · exact absurd (Int32.toInt_inj.mp (h3.trans (by decide))) z21
        · exact absurd (Int32.toInt_inj.mp (h3.trans (by decide))) z22
        · exact absurd (Int32.toInt_inj.mp (h3.trans (by decide))) z23
        · exact absurd (Int32.toInt_inj.mp (h3.trans (by decide))) z24
        · exact absurd (Int32.toInt_inj.mp (h3.trans (by decide))) z25
        · exact absurd (Int32.toInt_inj.mp (h3.trans (by decide))) z26
        · exact absurd (Int32.toInt_inj.mp (h3.trans (by decide))) z27
        · exact absurd (Int32.toInt_inj.mp (h3.trans (by decide))) z28
        · exact absurd (Int32.toInt_inj.mp (h3.trans (by decide))) z29
      refine lv_tableOut (tgt := 1109) hx hb dL_law_33 ho (by decide) ?_
      exact KK q C M H locs ls hI hP hD hS hl
theorem ac_of {args : Array Value} {s : State} {ty : FieldType} (h : (Cond.arrayClass ty).before args s = true) : ∃ cA : ClassId, ArrOfT s cA ty ∧ s.vm.findClass ("[" ++ ty.toString) = some cA := by
  obtain ⟨cA, kA, comp, h1, h2, h3⟩ := Cond.arrayClass_spec h
  exact ⟨cA, fun n z => ⟨fun k h => (by cases h), kA, h2, comp, h3⟩, h1⟩
theorem va_D.split {A : Nat → Prop} {x w : va_W} (h : va_D A (x ++ w)) : va_D A x ∧ va_D A w ∧ ∀ (i j : Nat) (p q : Nat × va_E), x[i]? = some p → w[j]? = some q → p.1 ≠ q.1 := by
  have hl : ∀ (i : Nat) (q : Nat × va_E), x[i]? = some q → (x ++ w)[i]? = some q := fun i q hq => by
    rw [List.getElem?_append_left (List.getElem?_eq_some_iff.mp hq).1]; exact hq
  have hr : ∀ (i : Nat) (q : Nat × va_E), w[i]? = some q → (x ++ w)[x.length + i]? = some q := fun i q hq => by
    rw [List.getElem?_append_right (Nat.le_add_right _ _), Nat.add_sub_cancel_left]; exact hq
  refine ⟨⟨fun i j p q hp hq he => h.1 i j p q (hl i p hp) (hl j q hq) he, fun k q hk => h.2 k q (hl k q hk)⟩, ⟨fun i j p q hp hq he => ?_, fun k q hk => h.2 _ q (hr k q hk)⟩, fun i j p q hp hq he => ?_⟩
  · have := h.1 _ _ p q (hr i p hp) (hr j q hq) he
    omega
  · have h1 := h.1 _ _ p q (hl i p hp) (hr j q hq) he
    have h2 := (List.getElem?_eq_some_iff.mp hp).1
    omega
theorem D_fl {A : Nat → Prop} : ∀ {gs : List va_W}, va_D A (fl gs) → sD A gs := by
  intro gs
  induction gs with
  | nil => intro _; exact ⟨fun k g h => by simp at h, fun i j g h _ h1 => by simp at h1⟩
  | cons x r ih =>
    intro h
    cases r with
    | nil =>
      refine ⟨fun k g hk => ?_, fun i j g g' hn h1 h2 => ?_⟩
      · cases k with
        | zero => cases hk; exact h
        | succ k => simp at hk
      · cases i with
        | zero => cases j with
          | zero => exact absurd rfl hn
          | succ j => simp at h2
        | succ i => simp at h1
    | cons y r =>
      obtain ⟨h1, h2, h3⟩ := va_D.split (x := x) (w := fl (y :: r)) h
      have ih := ih h2
      refine ⟨fun k g hk => ?_, fun i j g g' hn hi hj a b p q hp hq => ?_⟩
      · cases k with
        | zero => cases hk; exact h1
        | succ k => exact ih.1 k g hk
      · cases i with
        | zero =>
          cases hi
          cases j with
          | zero => exact absurd rfl hn
          | succ j =>
            obtain ⟨k, hk⟩ := fl_in (y :: r) j g' b q hj hq
            exact h3 a k p q hp hk
        | succ i =>
          cases j with
          | zero =>
            cases hj
            obtain ⟨k, hk⟩ := fl_in (y :: r) i g a p hi hp
            exact fun e => h3 b k q p hq hk e.symm
          | succ j => exact ih.2 i j g g' (by omega) hi hj a b p q hp hq
set_option maxRecDepth 20000 in
theorem st_A {b : Nat} {s : State} (hts : ∀ w ∈ lw_tbl, w.before #[Value.ref b] s = true) (hgv : (Jvm.Cond.and given_1 narrow_1).before #[Value.ref b] s = true) : ∃ t : Nat, va_Z "DraughtWebs$Compass" "ACROSS" "[I" (.ref t) (fun q : Nat => s.heap.size ≤ q) s s.heap ∧ va_T .int t 8 (fun j => .int (stA j)) (fun q : Nat => s.heap.size ≤ q) s s.heap := by
  have hs := flat_of_before _ hgv
  have hA : ∀ a : Nat, a < s.heap.size → ¬ (fun q : Nat => s.heap.size ≤ q) a := fun a h => Nat.not_le.mpr h
  obtain ⟨t, h1, h2⟩ := va_Tof (args := #[Value.ref b]) (s := s) (tm := .static "DraughtWebs$Compass" "ACROSS" "[I") (ty := .int) (N := 8) (f := fun j => .int (stA j)) (A := fun q : Nat => s.heap.size ≤ q) (by decide) (hs _ (by decide +kernel)) (va_eqt (hs _ (by decide +kernel))) (fun j hj => by
    rcases (show j = 0 ∨ j = 1 ∨ j = 2 ∨ j = 3 ∨ j = 4 ∨ j = 5 ∨ j = 6 ∨ j = 7 by omega) with rfl | rfl | rfl | rfl | rfl | rfl | rfl | rfl
    · exact va_eqt (z := 0) (hs (Cond.eq (.elem (.static "DraughtWebs$Compass" "ACROSS" "[I") (.int 0)) (.int 0)) (by decide +kernel))
    · exact va_eqt (z := 1) (hs (Cond.eq (.elem (.static "DraughtWebs$Compass" "ACROSS" "[I") (.int 1)) (.int 1)) (by decide +kernel))
    · exact va_eqt (z := 1) (hs (Cond.eq (.elem (.static "DraughtWebs$Compass" "ACROSS" "[I") (.int 2)) (.int 1)) (by decide +kernel))
    · exact va_eqt (z := 1) (hs (Cond.eq (.elem (.static "DraughtWebs$Compass" "ACROSS" "[I") (.int 3)) (.int 1)) (by decide +kernel))
    · exact va_eqt (z := 0) (hs (Cond.eq (.elem (.static "DraughtWebs$Compass" "ACROSS" "[I") (.int 4)) (.int 0)) (by decide +kernel))
    · exact va_eqt (z := (-1)) (hs (Cond.eq (.elem (.static "DraughtWebs$Compass" "ACROSS" "[I") (.int 5)) (.int (-1))) (by decide +kernel))
    · exact va_eqt (z := (-1)) (hs (Cond.eq (.elem (.static "DraughtWebs$Compass" "ACROSS" "[I") (.int 6)) (.int (-1))) (by decide +kernel))
    · exact va_eqt (z := (-1)) (hs (Cond.eq (.elem (.static "DraughtWebs$Compass" "ACROSS" "[I") (.int 7)) (.int (-1))) (by decide +kernel))) hA
  exact ⟨t, va_Zof (hts _ wls_ACROSS) (hts _ (gtbl_tbl wini_X1)) h1 hA, h2⟩
set_option maxRecDepth 20000 in
theorem st_B {b : Nat} {s : State} (hts : ∀ w ∈ lw_tbl, w.before #[Value.ref b] s = true) (hgv : (Jvm.Cond.and given_1 narrow_1).before #[Value.ref b] s = true) : ∃ t : Nat, va_Z "DraughtWebs$Compass" "ALONG" "[I" (.ref t) (fun q : Nat => s.heap.size ≤ q) s s.heap ∧ va_T .int t 8 (fun j => .int (stB j)) (fun q : Nat => s.heap.size ≤ q) s s.heap := by
  have hs := flat_of_before _ hgv
  have hA : ∀ a : Nat, a < s.heap.size → ¬ (fun q : Nat => s.heap.size ≤ q) a := fun a h => Nat.not_le.mpr h
  obtain ⟨t, h1, h2⟩ := va_Tof (args := #[Value.ref b]) (s := s) (tm := .static "DraughtWebs$Compass" "ALONG" "[I") (ty := .int) (N := 8) (f := fun j => .int (stB j)) (A := fun q : Nat => s.heap.size ≤ q) (by decide) (hs _ (by decide +kernel)) (va_eqt (hs _ (by decide +kernel))) (fun j hj => by
    rcases (show j = 0 ∨ j = 1 ∨ j = 2 ∨ j = 3 ∨ j = 4 ∨ j = 5 ∨ j = 6 ∨ j = 7 by omega) with rfl | rfl | rfl | rfl | rfl | rfl | rfl | rfl
    · exact va_eqt (z := (-1)) (hs (Cond.eq (.elem (.static "DraughtWebs$Compass" "ALONG" "[I") (.int 0)) (.int (-1))) (by decide +kernel))
    · exact va_eqt (z := (-1)) (hs (Cond.eq (.elem (.static "DraughtWebs$Compass" "ALONG" "[I") (.int 1)) (.int (-1))) (by decide +kernel))
    · exact va_eqt (z := 0) (hs (Cond.eq (.elem (.static "DraughtWebs$Compass" "ALONG" "[I") (.int 2)) (.int 0)) (by decide +kernel))
    · exact va_eqt (z := 1) (hs (Cond.eq (.elem (.static "DraughtWebs$Compass" "ALONG" "[I") (.int 3)) (.int 1)) (by decide +kernel))
    · exact va_eqt (z := 1) (hs (Cond.eq (.elem (.static "DraughtWebs$Compass" "ALONG" "[I") (.int 4)) (.int 1)) (by decide +kernel))
    · exact va_eqt (z := 1) (hs (Cond.eq (.elem (.static "DraughtWebs$Compass" "ALONG" "[I") (.int 5)) (.int 1)) (by decide +kernel))
    · exact va_eqt (z := 0) (hs (Cond.eq (.elem (.static "DraughtWebs$Compass" "ALONG" "[I") (.int 6)) (.int 0)) (by decide +kernel))
    · exact va_eqt (z := (-1)) (hs (Cond.eq (.elem (.static "DraughtWebs$Compass" "ALONG" "[I") (.int 7)) (.int (-1))) (by decide +kernel))) hA
  exact ⟨t, va_Zof (hts _ wls_ALONG) (hts _ (gtbl_tbl wini_X1)) h1 hA, h2⟩
set_option maxRecDepth 20000 in
theorem st_L {b : Nat} {s : State} (hts : ∀ w ∈ lw_tbl, w.before #[Value.ref b] s = true) (hgv : (Jvm.Cond.and given_1 narrow_1).before #[Value.ref b] s = true) : ∃ t : Nat, va_Z "DraughtWebs$Law" "LETTERS" "[I" (.ref t) (fun q : Nat => s.heap.size ≤ q) s s.heap ∧ va_T .int t 10 (fun j => .int (stL j)) (fun q : Nat => s.heap.size ≤ q) s s.heap := by
  have hs := flat_of_before _ hgv
  have hA : ∀ a : Nat, a < s.heap.size → ¬ (fun q : Nat => s.heap.size ≤ q) a := fun a h => Nat.not_le.mpr h
  obtain ⟨t, h1, h2⟩ := va_Tof (args := #[Value.ref b]) (s := s) (tm := .static "DraughtWebs$Law" "LETTERS" "[I") (ty := .int) (N := 10) (f := fun j => .int (stL j)) (A := fun q : Nat => s.heap.size ≤ q) (by decide) (hs _ (by decide +kernel)) (va_eqt (hs _ (by decide +kernel))) (fun j hj => by
    rcases (show j = 0 ∨ j = 1 ∨ j = 2 ∨ j = 3 ∨ j = 4 ∨ j = 5 ∨ j = 6 ∨ j = 7 ∨ j = 8 ∨ j = 9 by omega) with rfl | rfl | rfl | rfl | rfl | rfl | rfl | rfl | rfl | rfl
    · exact va_eqt (z := 112) (hs (Cond.eq (.elem (.static "DraughtWebs$Law" "LETTERS" "[I") (.int 0)) (.int 112)) (by decide +kernel))
    · exact va_eqt (z := 102) (hs (Cond.eq (.elem (.static "DraughtWebs$Law" "LETTERS" "[I") (.int 1)) (.int 102)) (by decide +kernel))
    · exact va_eqt (z := 115) (hs (Cond.eq (.elem (.static "DraughtWebs$Law" "LETTERS" "[I") (.int 2)) (.int 115)) (by decide +kernel))
    · exact va_eqt (z := 118) (hs (Cond.eq (.elem (.static "DraughtWebs$Law" "LETTERS" "[I") (.int 3)) (.int 118)) (by decide +kernel))
    · exact va_eqt (z := 100) (hs (Cond.eq (.elem (.static "DraughtWebs$Law" "LETTERS" "[I") (.int 4)) (.int 100)) (by decide +kernel))
    · exact va_eqt (z := 103) (hs (Cond.eq (.elem (.static "DraughtWebs$Law" "LETTERS" "[I") (.int 5)) (.int 103)) (by decide +kernel))
    · exact va_eqt (z := 114) (hs (Cond.eq (.elem (.static "DraughtWebs$Law" "LETTERS" "[I") (.int 6)) (.int 114)) (by decide +kernel))
    · exact va_eqt (z := 99) (hs (Cond.eq (.elem (.static "DraughtWebs$Law" "LETTERS" "[I") (.int 7)) (.int 99)) (by decide +kernel))
    · exact va_eqt (z := 104) (hs (Cond.eq (.elem (.static "DraughtWebs$Law" "LETTERS" "[I") (.int 8)) (.int 104)) (by decide +kernel))
    · exact va_eqt (z := 119) (hs (Cond.eq (.elem (.static "DraughtWebs$Law" "LETTERS" "[I") (.int 9)) (.int 119)) (by decide +kernel))) hA
  exact ⟨t, va_Zof (hts _ wls_LETTERS) (hts _ (gtbl_tbl wini_X3)) h1 hA, h2⟩
